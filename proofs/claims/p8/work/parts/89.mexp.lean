/-! THE REFERENCE'S PARSER: exps -/
def stp (lim a b : Int) (d : Nat) : Option Nat := if a = 1 then (if d < 63 then some (d + 1) else none) else if a = 2 then (if 0 ≤ b ∧ b < lim ∧ d < 63 then some (d + 1) else none) else if a = 3 then (if 1 ≤ d then some d else none) else if a = 4 then none else (if 2 ≤ d then some (d - 1) else none)
/-- how many values k pieces of code from s on leave -/
def wd (A B : Nat → Int) (lim : Int) (s : Nat) : Nat → Option Nat
  | 0 => some 0
  | k + 1 => (wd A B lim s k).bind (fun d => stp lim (A (s + k)) (B (s + k)) d)
theorem wd_congr {A B A' B' : Nat → Int} {lim : Int} {s : Nat} : ∀ (k : Nat), (∀ t, t < k → A' (s + t) = A (s + t) ∧ B' (s + t) = B (s + t)) → wd A' B' lim s k = wd A B lim s k
  | 0, _ => rfl
  | k + 1, h => by
    show (wd A' B' lim s k).bind _ = (wd A B lim s k).bind _
    rw [wd_congr k (fun t ht => h t (by omega)), (h k (by omega)).1, (h k (by omega)).2]
def isb (x : Int) : Bool := x == 35 || x == 37 || x == 42 || x == 43 || x == 45 || x == 47 || x == 60 || x == 61
theorem isb_iff (x : Int) : isb x = true ↔ (x = 35 ∨ x = 37 ∨ x = 42 ∨ x = 43 ∨ x = 45 ∨ x = 47 ∨ x = 60 ∨ x = 61) := by
  unfold isb
  simp only [Bool.or_eq_true, beq_iff_eq, or_assoc]
def stg (x : Int) : Int := if x = 42 ∨ x = 47 ∨ x = 37 then 3 else if x = 43 ∨ x = 45 then 2 else if x = 60 ∨ x = 61 ∨ x = 35 then 1 else 0
/-- the pile lies there, its top first -/
def pl (M : rf_M) : List Int → Prop
  | [] => True
  | x :: r => gi M 371 r.length = x ∧ pl M r
/-- what has begun: minus signs and parentheses -/
def fil (π : List Int) : List Int := π.filter (fun x => x == 40 || x == 1000)
def nbi (π : List Int) : Nat := π.countP isb
def lv (π : List Int) : Nat := π.countP (fun x => x == 40)
def okp : List Int → Prop
  | [] => True
  | x :: r => (x = 40 ∨ x = 1000 ∨ isb x = true) ∧ (isb x = true → r.head? ≠ some 1000) ∧ okp r
/-- the flags lie there, the innermost level's first -/
def zcl (M : rf_M) : List Bool → Prop
  | [] => True
  | x :: r => gi M 372 r.length = (if x then 1 else 0) ∧ zcl M r
theorem pl.eq {M M' : rf_M} : ∀ {π : List Int}, pl M π → (∀ k, k < π.length → gi M' 371 k = gi M 371 k) → pl M' π
  | [], _, _ => trivial
  | x :: r, h, e => ⟨(e _ (by simp)).trans h.1, pl.eq h.2 (fun k hk => e k (by simp; omega))⟩
theorem zcl.eq {M M' : rf_M} : ∀ {c : List Bool}, zcl M c → (∀ k, k < c.length → gi M' 372 k = gi M 372 k) → zcl M' c
  | [], _, _ => trivial
  | x :: r, h, e => ⟨(e _ (by simp)).trans h.1, zcl.eq h.2 (fun k hk => e k (by simp; omega))⟩
/-- what exp() may write: r the text, s0 where its code begins -/
def exw (r s0 : Nat) (a k : Nat) : Prop := (a = 353 ∧ ((3 ≤ k ∧ k ≤ 10) ∨ k = 30 ∨ k = 31 ∨ k = 33)) ∨ (a = 356 ∧ k = r) ∨ (a = 359 ∧ k = r) ∨ ((a = 368 ∨ a = 369) ∧ s0 ≤ k ∧ k < 200 * r + 200) ∨ a = 371 ∨ a = 372
/-- within exp(): T tokens, r text, s0 the beginning of its code, lim letters, E exps so far; g: no fault; i token, u unaries, c code, w an operand is wanted, π pile, cs flags -/
def xq (T : tK) (r s0 : Nat) (lim : Int) (E : Nat) (M0 M : rf_M) (g : Bool) (i u c : Nat) (w : Bool) (π : List Int) (cs : List Bool) : Prop :=
  (mtk M T i ∧ gi M 353 28 = (r : Int) ∧ r < 12 ∧ eqx (exw r s0) M0 M) ∧
  (gi M 356 r = (u : Int) ∧ u ≤ 60 ∧ gi M 359 r = (c : Int) ∧ s0 ≤ 200 * r + c ∧ 200 * r ≤ s0) ∧
  (gi M 353 30 = (π.length : Int) ∧ pl M π ∧ okp π ∧ gi M 353 31 = ((fil π).length : Int) ∧ gi M 353 33 = (lv π : Int) ∧ zcl M cs ∧ cs.length = lv π + 1) ∧
  (c + π.length + (if w = true then 0 else 1) ≤ 2 * u + E + (if g = true then 0 else 1) ∧ π.length + (if w = true then 0 else 1) ≤ u + (if g = true then 0 else 1) ∧ E ≤ 39 ∧ (fil π).length ≤ 8) ∧
  (g = true → gi M 353 9 = 0 ∧ wd (gi M 368) (gi M 369) lim s0 (200 * r + c - s0) = some (nbi π + (if w = true then 0 else 1))) ∧ (g = false → gi M 353 9 = 1)
theorem tkm_iff {k : Int32} (h : kok k) : (tkm k.toInt = 4 ↔ 20 ≤ k.toInt) ∧ (tkm k.toInt = 3 ↔ k.toInt = 2) ∧ (tkm k.toInt = 2 ↔ k.toInt = 1) ∧ (tkm k.toInt = 0 ↔ k.toInt = 0) ∧ (∀ z, 10 ≤ z → z ≤ 19 → (tkm k.toInt = z ↔ k.toInt = z)) ∧ 0 ≤ k.toInt ∧ k.toInt ≤ 125 := by
  have hk : (0 ≤ k.toInt ∧ k.toInt ≤ 3) ∨ (10 ≤ k.toInt ∧ k.toInt ≤ 19) ∨ (35 ≤ k.toInt ∧ k.toInt ≤ 125) := by
    rcases h with h | h | h
    · exact Or.inl h
    · exact Or.inr (Or.inl h)
    · have := (sp_s_iff k).mp h; omega
  generalize k.toInt = x at hk
  unfold tkm
  refine ⟨?_, ?_, ?_, ?_, fun z z1 z2 => ?_, by omega, by omega⟩
  all_goals (split; · omega)
  all_goals (split; · omega)
  all_goals (split; · omega)
  all_goals (split; · omega)
  all_goals (split; · omega)
  all_goals omega
section XA
variable {M : rf_M} {T : tK} {i : Nat}
theorem mtk.ok (h : mtk M T i) : kok (kd T i) := h.2.2.2.2.2
theorem s_misplaced {K : rf_M → Prop} (h : gi M 353 9 = 0 ∨ gi M 353 9 = 1) (kk : ∀ M', eqx (fun a k => a = 353 ∧ (k = 9 ∨ k = 10)) M M' → gi M' 353 9 = 1 → K M') : wm_misplaced M K := by
  refine ⟨fun c M1 e1 M2 e2 => kk M2 ?_ ?_, fun c => kk M (eqx.rfl' M) (by omega)⟩
  · rw [e2, e1]; exact ((eqx.rfl' M).wi ⟨rfl, Or.inl rfl⟩).wi ⟨rfl, Or.inr rfl⟩
  · rw [e2, gi_of (by omega), e1, gi_at (inr_z (by omega) (by omega))]
theorem s_isSign {c : Int32} {K : Int → rf_M → Prop} (h : mtk M T i) (hc : 20 ≤ c.toInt) (k1 : kd T i = c → K 1 M) (k2 : ¬ kd T i = c → K 0 M) : wm_isSign c.toInt M K := by
  obtain ⟨-, -, t1, t2, t3, t4⟩ := h
  have no : ¬ (kd T i).toInt = c.toInt → ¬ kd T i = c := fun q w => q (by rw [w])
  refine ⟨fun q => ⟨inr_ti _, fun q2 => ⟨Or.inr rfl, k1 ?_⟩, fun q2 => ⟨Or.inl rfl, k2 (no ?_)⟩⟩, fun q => ⟨Or.inl rfl, k2 (no ?_)⟩⟩
  · rw [t1] at q
    have h20 := (tkm_iff t4).1.mp q
    exact Int32.toInt_inj.mp ((t2 h20).symm.trans q2)
  · intro w
    rw [t1] at q
    have h20 : 20 ≤ (kd T i).toInt := by rw [w]; exact hc
    exact q2 ((t2 h20).trans w)
  · intro w
    rw [t1, w] at q
    unfold tkm at q
    rw [if_neg (by omega), if_neg (by omega), if_neg (by omega), if_neg (by omega), if_neg (by omega)] at q
    exact q rfl
theorem s_strength {x : Int} {K : Int → rf_M → Prop} (hx : inr x) (k : K (stg x) M) : wm_strength x M K := by
  have y : ∀ z, stg x = z → K z M := fun z e => by rw [← e]; exact k
  unfold stg at y
  refine ⟨hx, fun c => y 3 (by rw [if_pos (by omega)]), fun c0 => ⟨hx, fun c => y 3 (by rw [if_pos (by omega)]), fun c1 => ⟨hx, fun c => y 3 (by rw [if_pos (by omega)]), fun c2 => ⟨hx, fun c => y 2 (by rw [if_neg (by omega), if_pos (by omega)]), fun c3 => ⟨hx, fun c => y 2 (by rw [if_neg (by omega), if_pos (by omega)]), fun c4 => ⟨hx, fun c => y 1 (by rw [if_neg (by omega), if_neg (by omega), if_pos (by omega)]), fun c5 => ⟨hx, fun c => y 1 (by rw [if_neg (by omega), if_neg (by omega), if_pos (by omega)]), fun c6 => ⟨hx, fun c => y 1 (by rw [if_neg (by omega), if_neg (by omega), if_pos (by omega)]), fun c7 => y 0 (by rw [if_neg (by omega), if_neg (by omega), if_neg (by omega)])⟩⟩⟩⟩⟩⟩⟩⟩
theorem s_act {r c : Nat} {v1 v2 : Int} {v3 : Int64} {K : rf_M → Prop} (h1 : gi M 353 28 = (r : Int)) (h2 : r < 12) (h3 : gi M 359 r = (c : Int)) (h4 : c < 200) (i1 : inr v1) (i2 : inr v2) (kk : ∀ M', eqx (fun a k => (a = 359 ∧ k = r) ∨ ((a = 368 ∨ a = 369) ∧ k = 200 * r + c)) M M' → gi M' 359 r = (c : Int) + 1 → gi M' 368 (200 * r + c) = v1 → gi M' 369 (200 * r + c) = v2 → K M') : wm_act v1 v2 v3 M K := by
  have e0 : (gi M 353 28).toNat = r := by rw [h1]; omega
  show w_act v1 v2 v3 M K
  unfold w_act
  rw [e0, h1, h3]
  refine ⟨⟨by omega, by omega⟩, ⟨by omega, by omega⟩, ⟨by omega, by omega⟩, fun M1 e1 => ⟨⟨by omega, by omega⟩, fun M2 e2 => ⟨⟨by omega, by omega⟩, fun M3 e3 => ⟨⟨by omega, by omega⟩, fun M4 e4 => ?_⟩⟩⟩⟩
  have en : (200 * (r : Int) + (c : Int)).toNat = 200 * r + c := by omega
  rw [en] at e2 e3
  have g4 : ∀ a k, gi M4 a k = gi M3 a k := fun a k => by rw [e4]; rfl
  refine kk M4 (fun a k q => ?_) ?_ ?_ ?_
  · rw [g4, e3, gi_of (by omega), e2, gi_of (by omega), e1, gi_of (by omega)]
  · rw [g4, e3, gi_of (by omega), e2, gi_of (by omega), e1, gi_at (inr_z (by omega) (by omega))]
  · rw [g4, e3, gi_of (by omega), e2, gi_at i1]
  · rw [g4, e3, gi_at i2]
end XA
theorem wd_snoc {A B : Nat → Int} {lim : Int} {s k d e : Nat} (h : wd A B lim s k = some d) (h2 : stp lim (A (s + k)) (B (s + k)) d = some e) : wd A B lim s (k + 1) = some e := by
  show (wd A B lim s k).bind _ = _
  rw [h]
  exact h2
theorem stp_b {lim x b : Int} {d : Nat} (hb : isb x = true) (hd : 2 ≤ d) : stp lim x b d = some (d - 1) := by
  have := (isb_iff x).mp hb
  unfold stp
  rw [if_neg (by omega), if_neg (by omega), if_neg (by omega), if_neg (by omega), if_pos hd]
/-- mtk over writes that leave the scanner's slots -/
theorem nxk.eq {M M' : rf_M} {T : tK} {i : Nat} (h : nxk M T i) (e : ∀ a k, (a = 353 ∧ (k = 2 ∨ (3 ≤ k ∧ k ≤ 8))) ∨ a = 354 → gi M' a k = gi M a k) : nxk M' T i := by
  obtain ⟨n, b, p, f, ⟨a1, a2, a3⟩, h2, h3, h4, h5, h6⟩ := h
  refine ⟨n, b, p, f, ⟨(e _ _ (by omega)).trans a1, a2, fun k hk => ?_⟩, (e _ _ (by omega)).trans h2, h3, h4, h5, h6⟩
  rw [e 354 k (by omega)]; exact a3 k hk
theorem mtk.eq {M M' : rf_M} {T : tK} {i : Nat} (h : mtk M T i) (e : ∀ a k, (a = 353 ∧ (k = 2 ∨ (3 ≤ k ∧ k ≤ 8))) ∨ a = 354 → gi M' a k = gi M a k) : mtk M' T i := by
  obtain ⟨h1, h2, h3, h4, h5, h6⟩ := h
  refine ⟨h1.eq e, h2, (e _ _ (by omega)).trans h3, fun q => (e _ _ (by omega)).trans (h4 q), fun q => ⟨(e _ _ (by omega)).trans (h5 q).1, (h5 q).2⟩, h6⟩
def popr (least : Int) : List Int → List Int
  | [] => []
  | x :: r => if isb x = true ∧ least ≤ stg x then popr least r else x :: r
def dm : List Int → List Int
  | [] => []
  | x :: r => if x = 1000 then dm r else x :: r
theorem isb_ne {x : Int} (h : isb x = true) : ¬ x = 40 ∧ ¬ x = 1000 ∧ 1 ≤ stg x ∧ stg x ≤ 3 ∧ -1000 ≤ x ∧ x ≤ 1000 := by
  have := (isb_iff x).mp h
  refine ⟨by omega, by omega, ?_, ?_, by omega, by omega⟩
  · unfold stg
    split
    · omega
    · split
      · omega
      · rw [if_pos (by omega)]; omega
  · unfold stg
    split
    · omega
    · split
      · omega
      · split <;> omega
theorem fil_b {x : Int} {r : List Int} (h : isb x = true) : fil (x :: r) = fil r ∧ lv (x :: r) = lv r ∧ nbi (x :: r) = nbi r + 1 := by
  have := isb_ne h
  unfold fil lv nbi
  refine ⟨List.filter_cons_of_neg (by simp; exact ⟨this.1, this.2.1⟩), List.countP_cons_of_neg (by simp; exact this.1), List.countP_cons_of_pos h⟩
theorem fil_m (r : List Int) : fil (1000 :: r) = 1000 :: fil r ∧ lv (1000 :: r) = lv r ∧ nbi (1000 :: r) = nbi r := ⟨rfl, rfl, rfl⟩
theorem fil_p (r : List Int) : fil (40 :: r) = 40 :: fil r ∧ lv (40 :: r) = lv r + 1 ∧ nbi (40 :: r) = nbi r := by
  refine ⟨rfl, ?_, rfl⟩
  unfold lv
  exact List.countP_cons_of_pos (by decide)
theorem fil_le (x : Int) (r : List Int) : (fil r).length ≤ (fil (x :: r)).length := by
  unfold fil
  rw [List.filter_cons]
  split
  · simp
  · exact Nat.le_refl _
theorem lv_fil : ∀ (π : List Int), lv (fil π) = lv π := fun π => by
  unfold lv fil
  rw [List.countP_filter]
  exact List.countP_congr (fun x _ => by simp; intro h; exact Or.inl h)
theorem popr_keep (least : Int) : ∀ (π : List Int), fil (popr least π) = fil π ∧ lv (popr least π) = lv π ∧ (okp π → okp (popr least π)) ∧ (π.head? ≠ some 1000 → okp π → (popr least π).head? ≠ some 1000)
  | [] => ⟨rfl, rfl, id, fun h _ => h⟩
  | x :: r => by
    unfold popr
    split
    · rename_i hc
      obtain ⟨h1, h2, h3, h4⟩ := popr_keep least r
      have hb := fil_b (r := r) hc.1
      exact ⟨h1.trans hb.1.symm, h2.trans hb.2.1.symm, fun h => h3 h.2.2, fun _ h => h4 (h.2.1 hc.1) h.2.2⟩
    · exact ⟨rfl, rfl, id, fun h _ => h⟩
theorem popr_one : ∀ (π : List Int), okp π → π.head? ≠ some 1000 → popr 1 π = [] ∨ ∃ r, popr 1 π = 40 :: r
  | [], _, _ => Or.inl rfl
  | x :: r, h, h2 => by
    obtain ⟨a, b, c⟩ := h
    unfold popr
    rcases a with rfl | rfl | a
    · rw [if_neg (by decide)]; exact Or.inr ⟨r, rfl⟩
    · exact absurd rfl h2
    · rw [if_pos ⟨a, (isb_ne a).2.2.1⟩]
      exact popr_one r c (b a)
theorem fil_head : ∀ {π : List Int}, okp π → π.head? ≠ some 1000 → (fil π).head? ≠ some 1000
  | [], _, _ => by simp [fil]
  | x :: r, h, h2 => by
    obtain ⟨a, b, c⟩ := h
    rcases a with rfl | rfl | a
    · rw [(fil_p r).1]; simp
    · exact absurd rfl h2
    · rw [(fil_b a).1]; exact fil_head c (b a)
theorem dm_id {π : List Int} (h : π.head? ≠ some 1000) : dm π = π := by
  cases π with
  | nil => rfl
  | cons x r =>
    unfold dm
    rw [if_neg (fun e => h (by rw [e]; rfl))]
theorem dm_keep : ∀ {π : List Int}, okp π → fil (dm π) = dm (fil π) ∧ lv (dm π) = lv π ∧ okp (dm π) ∧ (dm π).head? ≠ some 1000 ∧ nbi (dm π) = nbi π ∧ (dm π).length ≤ π.length
  | [], _ => ⟨rfl, rfl, trivial, by simp [dm], rfl, Nat.le_refl _⟩
  | x :: r, h => by
    by_cases hx : x = 1000
    · subst hx
      have e : dm (1000 :: r) = dm r := if_pos rfl
      obtain ⟨h1, h2, h3, h4, h5, h6⟩ := dm_keep h.2.2
      rw [e, (fil_m r).1, (fil_m r).2.1, (fil_m r).2.2, show dm (1000 :: fil r) = dm (fil r) from if_pos rfl]
      exact ⟨h1, h2, h3, h4, h5, by simp; omega⟩
    · have e : dm (x :: r) = x :: r := if_neg hx
      have hh : (x :: r).head? ≠ some 1000 := by simp; exact hx
      rw [e, dm_id (fil_head h hh)]
      exact ⟨rfl, rfl, h, hh, rfl, Nat.le_refl _⟩
section XB
variable {M M0 : rf_M} {T : tK} {i r s0 E u c : Nat} {lim : Int} {g w : Bool} {π : List Int} {cs : List Bool}
/-- the acts behind a piece of code -/
theorem xq_act {x v1 v2 : Int} {ρ : List Int} {M1 M2 : rf_M} (h : xq T r s0 lim E M0 M g i u c false (x :: ρ) cs) (e1 : ∀ a k, ¬ (a = 353 ∧ (k = 30 ∨ k = 31)) → gi M1 a k = gi M a k) (p1 : gi M1 353 30 = (ρ.length : Int)) (p2 : gi M1 353 31 = ((fil ρ).length : Int)) (hl : lv (x :: ρ) = lv ρ)
    (hx : eqx (fun a k => (a = 359 ∧ k = r) ∨ ((a = 368 ∨ a = 369) ∧ k = 200 * r + c)) M1 M2) (q1 : gi M2 359 r = (c : Int) + 1) (q2 : gi M2 368 (200 * r + c) = v1) (q3 : gi M2 369 (200 * r + c) = v2) (hs : g = true → stp lim v1 v2 (nbi (x :: ρ) + 1) = some (nbi ρ + 1)) : xq T r s0 lim E M0 M2 g i u (c + 1) false ρ cs := by
  obtain ⟨⟨a1, a2, a3, a4⟩, ⟨b1, b2, b3, b4, b5⟩, ⟨c1, c2, c3, c4, c5, c6, c7⟩, ⟨d1, d2, d3⟩, f, fb⟩ := h
  have lc : c < 200 := by
    have := d1
    simp only [List.length_cons, Bool.false_eq_true, if_false] at this
    split at this <;> omega
  have e2 : ∀ a k, ¬ (a = 353 ∧ (k = 30 ∨ k = 31)) → ¬ ((a = 359 ∧ k = r) ∨ ((a = 368 ∨ a = 369) ∧ k = 200 * r + c)) → gi M2 a k = gi M a k := fun a k z1 z2 => (hx a k z2).trans (e1 a k z1)
  have f0 : ∀ k, gi M2 353 k = gi M1 353 k := fun k => hx 353 k (by omega)
  refine ⟨⟨a1.eq (fun a k z => e2 a k (by omega) (by omega)), (e2 353 28 (by omega) (by omega)).trans a2, a3, fun a k z => ?_⟩, ⟨(e2 356 r (by omega) (by omega)).trans b1, b2, by rw [q1]; omega, by omega, b5⟩, ⟨(f0 30).trans p1, c2.2.eq (fun k hk => e2 371 k (by omega) (by omega)), c3.2.2, (f0 31).trans p2, ?_, c6.eq (fun k hk => e2 372 k (by omega) (by omega)), by rw [← hl]; exact c7⟩, ⟨?_, ?_, d3.1, Nat.le_trans (fil_le x ρ) d3.2⟩, fun hg => ⟨(e2 353 9 (by omega) (by omega)).trans (f hg).1, ?_⟩, fun hg => (e2 353 9 (by omega) (by omega)).trans (fb hg)⟩
  · unfold exw at z
    exact (e2 a k (by omega) (by omega)).trans (a4 a k (by unfold exw; omega))
  · rw [f0 33, e1 353 33 (by omega), c5, hl]
  · simp only [List.length_cons] at d1; omega
  · simp only [List.length_cons] at d2; omega
  · have hw := (f hg).2
    rw [show 200 * r + (c + 1) - s0 = (200 * r + c - s0) + 1 by omega]
    refine wd_snoc (d := nbi (x :: ρ) + 1) ?_ ?_
    · rw [wd_congr (A := gi M 368) (B := gi M 369) _ (fun t ht => ⟨e2 368 _ (by omega) (by omega), e2 369 _ (by omega) (by omega)⟩)]
      exact hw
    · rw [show s0 + (200 * r + c - s0) = 200 * r + c by omega, q2, q3]
      exact hs hg
theorem xq_c (h : xq T r s0 lim E M0 M g i u c w π cs) : c ≤ 160 := by
  obtain ⟨-, ⟨b1, b2, b3, b4, b5⟩, -, ⟨d1, d2, d3⟩, -⟩ := h
  split at d1 <;> split at d1 <;> omega
theorem s_reduce {least : Int} {K : rf_M → Prop} (hl : 1 ≤ least ∧ least ≤ 3) (h : xq T r s0 lim E M0 M g i u c false π cs) (kk : ∀ M' c', xq T r s0 lim E M0 M' g i u c' false (popr least π) cs → K M') : wm_reduce least M K := by
  refine ⟨fun m v1 M' => v1 = least ∧ ∃ c' π', xq T r s0 lim E M0 M' g i u c' false π' cs ∧ popr least π' = popr least π ∧ m = π'.length, ⟨π.length, rfl, c, π, h, rfl, rfl⟩, ?_⟩
  rintro m v1 M' ⟨rfl, c', π', h1, h2, h3⟩
  have hp := h1.2.2.1
  have hh := h1
  cases π' with
  | nil =>
    refine ⟨fun _ => kk M' c' (by rw [← h2]; exact h1), fun q => absurd ?_ q⟩
    rw [hp.1]; simp
  | cons x ρ =>
    obtain ⟨c1, c2, c3, c4, c5, c6, c7⟩ := hp
    have lπ : (ρ.length : Int) + 1 ≤ 61 := by
      have := h1.2.2.2.1.2.1
      have hu := h1.2.1.2.1
      simp only [List.length_cons, Bool.false_eq_true, if_false] at this
      split at this <;> omega
    have l1 : gi M' 353 30 = (ρ.length : Int) + 1 := by rw [c1]; simp
    have l2 : (gi M' 353 30 - 1).toNat = ρ.length := by rw [l1]; omega
    have top : gi M' 371 (gi M' 353 30 - 1).toNat = x := by rw [l2]; exact c2.1
    have stop : ¬ (isb x = true ∧ v1 ≤ stg x) → K M' := fun q => kk M' c' (by rw [← h2]; unfold popr; rw [if_neg q]; exact h1)
    refine ⟨fun q => absurd q (by omega), fun _ => ⟨⟨by omega, by omega⟩, fun q => stop ?_, fun q => ⟨⟨by omega, by omega⟩, fun q2 => stop ?_, fun q2 => ⟨⟨by omega, by omega⟩, ?_⟩⟩⟩⟩
    · rw [top] at q; rw [q]; exact fun z => absurd z.1 (by decide)
    · rw [top] at q2; rw [q2]; exact fun z => absurd z.1 (by decide)
    rw [top] at q q2 ⊢
    have hb : isb x = true := by
      rcases c3.1 with z | z | z
      · exact absurd z q
      · exact absurd z q2
      · exact z
    have hbn := isb_ne hb
    refine s_strength (inr_z (by omega) (by omega)) ⟨inr_z (by omega) (by omega), inr_z (by omega) (by omega), fun q3 => stop (fun z => by omega), fun q3 M2 e2 => ?_⟩
    have k30 : gi M2 353 30 = (ρ.length : Int) := by rw [e2, gi_at (inr_z (by omega) (by omega)), l1]; omega
    have k371 : gi M2 371 (gi M2 353 30).toNat = x := by rw [k30, e2, gi_of (by omega), show ((ρ.length : Int)).toNat = ρ.length by omega]; exact c2.1
    refine ⟨⟨by omega, by omega⟩, ?_⟩
    rw [k371]
    have hr := h1.1.2.2.1
    refine s_act (r := r) (c := c') (by rw [e2, gi_of (by omega)]; exact h1.1.2.1) hr (by rw [e2, gi_of (by omega)]; exact h1.2.1.2.2.1) (by have := xq_c h1; omega) (inr_z (by omega) (by omega)) (inr_z (by omega) (by omega)) (fun M3 x3 y1 y2 y3 => ?_)
    refine ⟨ρ.length, by rw [h3]; simp, rfl, c' + 1, ρ, xq_act h1 (fun a k z => by rw [e2, gi_of (by omega)]) k30 ?_ (fil_b hb).2.1 x3 y1 y2 y3 (fun _ => ?_), ?_, rfl⟩
    · rw [e2, gi_of (by omega), c4, (fil_b hb).1]
    · rw [(fil_b hb).2.2, stp_b hb (by omega)]; rfl
    · rw [← h2]
      show _ = if isb x = true ∧ v1 ≤ stg x then popr v1 ρ else x :: ρ
      rw [if_pos ⟨hb, by omega⟩]
theorem s_operand {K : rf_M → Prop} (h : xq T r s0 lim E M0 M g i u c false π cs) (kk : ∀ M' c', xq T r s0 lim E M0 M' g i u c' false (dm π) cs → K M') : wm_operandIsThere M K := by
  refine ⟨fun m M' => ∃ c' π', xq T r s0 lim E M0 M' g i u c' false π' cs ∧ dm π' = dm π ∧ m = π'.length, ⟨π.length, c, π, h, rfl, rfl⟩, ?_⟩
  rintro m M' ⟨c', π', h1, h2, h3⟩
  have hp := h1.2.2.1
  cases π' with
  | nil =>
    refine ⟨fun _ => kk M' c' (by rw [← h2]; exact h1), fun q => absurd ?_ q⟩
    rw [hp.1]; simp
  | cons x ρ =>
    obtain ⟨c1, c2, c3, c4, c5, c6, c7⟩ := hp
    have lπ : (ρ.length : Int) + 1 ≤ 61 := by
      have := h1.2.2.2.1.2.1
      have hu := h1.2.1.2.1
      simp only [List.length_cons, Bool.false_eq_true, if_false] at this
      split at this <;> omega
    have l1 : gi M' 353 30 = (ρ.length : Int) + 1 := by rw [c1]; simp
    have l2 : (gi M' 353 30 - 1).toNat = ρ.length := by rw [l1]; omega
    have top : gi M' 371 (gi M' 353 30 - 1).toNat = x := by rw [l2]; exact c2.1
    refine ⟨fun q => absurd q (by omega), fun _ => ⟨⟨by omega, by omega⟩, fun q M1 e1 M2 e2 => ?_, fun q => kk M' c' ?_⟩⟩
    · rw [top] at q
      subst q
      have hr := h1.1.2.2.1
      have f31 : gi M' 353 31 = ((fil ρ).length : Int) + 1 := by rw [c4, (fil_m ρ).1]; simp
      have lf : (fil ρ).length ≤ ρ.length := List.length_filter_le _ _
      have g31 : gi M1 353 31 = ((fil ρ).length : Int) + 1 := by rw [e1, gi_of (by omega)]; exact f31
      refine s_act (r := r) (c := c') (by rw [e2, gi_of (by omega), e1, gi_of (by omega)]; exact h1.1.2.1) hr (by rw [e2, gi_of (by omega), e1, gi_of (by omega)]; exact h1.2.1.2.2.1) (by have := xq_c h1; omega) (inr_z (by omega) (by omega)) (inr_z (by omega) (by omega)) (fun M3 x3 y1 y2 y3 => ?_)
      refine ⟨ρ.length, by rw [h3]; simp, c' + 1, ρ, xq_act h1 (fun a k z => by rw [e2, gi_of (by omega), e1, gi_of (by omega)]) ?_ ?_ (fil_m ρ).2.1 x3 y1 y2 y3 (fun _ => ?_), ?_, rfl⟩
      · rw [e2, gi_of (by omega), e1, gi_at (inr_z (by omega) (by omega)), l1]; omega
      · rw [e2, gi_at (inr_z (by omega) (by omega)), g31]; omega
      · rw [(fil_m ρ).2.2]
        unfold stp
        rw [if_neg (by omega), if_neg (by omega), if_pos rfl, if_pos (by omega)]
      · rw [← h2]
        exact (if_pos rfl).symm
    · rw [top] at q
      rw [← h2, show dm (x :: ρ) = x :: ρ from if_neg q]
      exact h1
end XB
/-! the machine of exps: token, unaries, is an operand wanted, what has begun, flags -/
abbrev xM : Type := Nat × Nat × Bool × List Int × List Bool
def x_good (T : tK) (ir : Bool) (i : Nat) : Prop := (kd T i).toInt = 45 ∨ (kd T i).toInt = 40 ∨ (kd T i).toInt = 2 ∨ ((kd T i).toInt = 1 ∧ (ir = false ∨ (nb T i).toInt < 16))
def x_step (T : tK) (ir : Bool) (σ : xM) : xM ⊕ (Nat × Nat × Bool) :=
  if σ.2.2.1 = true then
    (if (kd T σ.1).toInt = 45 then (if σ.2.1 = 60 ∨ σ.2.2.2.1.length = 8 then .inr (σ.1, σ.2.1, false) else .inl (σ.1 + 1, σ.2.1 + 1, true, 1000 :: σ.2.2.2.1, σ.2.2.2.2))
    else if (kd T σ.1).toInt = 40 then (if σ.2.1 = 60 ∨ σ.2.2.2.1.length = 8 then .inr (σ.1, σ.2.1, false) else .inl (σ.1 + 1, σ.2.1 + 1, true, 40 :: σ.2.2.2.1, false :: σ.2.2.2.2))
    else if (kd T σ.1).toInt = 2 ∨ ((kd T σ.1).toInt = 1 ∧ (ir = false ∨ (nb T σ.1).toInt < 16)) then (if σ.2.1 = 60 then .inr (σ.1, σ.2.1, false) else .inl (σ.1 + 1, σ.2.1 + 1, false, dm σ.2.2.2.1, σ.2.2.2.2))
    else .inr (σ.1, σ.2.1, false))
  else if (kd T σ.1).toInt = 41 ∧ 0 < lv σ.2.2.2.1 then .inl (σ.1 + 1, σ.2.1, false, dm σ.2.2.2.1.tail, σ.2.2.2.2.tail)
  else if 1 < stg (kd T σ.1).toInt then .inl (σ.1 + 1, σ.2.1, true, σ.2.2.2.1, σ.2.2.2.2)
  else if stg (kd T σ.1).toInt = 1 ∧ σ.2.2.2.2.head? = some false then .inl (σ.1 + 1, σ.2.1, true, σ.2.2.2.1, true :: σ.2.2.2.2.tail)
  else .inr (σ.1, σ.2.1, decide (lv σ.2.2.2.1 = 0))
def x_ev (T : tK) (ir : Bool) : Nat → xM → Option (Nat × Nat × Bool)
  | 0, _ => none
  | k + 1, σ => match x_step T ir σ with
    | .inl σ' => x_ev T ir k σ'
    | .inr h => some h
theorem kd_lt {T : tK} {i : Nat} (h : ¬ (kd T i).toInt = 0) : i < T.length := by
  rcases Nat.lt_or_ge i T.length with g | g
  · exact g
  · exfalso
    apply h
    unfold kd
    rw [List.getElem?_eq_none g]
    rfl
section XC
variable {M M' M0 : rf_M} {T : tK} {i i' r s0 E u c : Nat} {lim : Int} {g w : Bool} {π : List Int} {cs : List Bool}
theorem s_next' {K : rf_M → Prop} (h : mtk M T i) (hi : i < T.length) (kk : ∀ M', eqx nxw M M' → mtk M' T (i + 1) → K M') : wm_next M K := by
  have h1 := h.1
  rw [if_pos hi] at h1
  exact s_next h1 kk
theorem xq.nx (h : xq T r s0 lim E M0 M g i u c w π cs) (e : eqx nxw M M') (hm : mtk M' T i') : xq T r s0 lim E M0 M' g i' u c w π cs := by
  obtain ⟨⟨a1, a2, a3, a4⟩, ⟨b1, b2, b3, b4, b5⟩, ⟨c1, c2, c3, c4, c5, c6, c7⟩, d, f, fb⟩ := h
  have q : ∀ a k, ¬ (a = 353 ∧ 3 ≤ k ∧ k ≤ 8) → gi M' a k = gi M a k := fun a k z => e a k z
  refine ⟨⟨hm, (q _ _ (by omega)).trans a2, a3, a4.trans (e.mono (fun a k z => Or.inl ⟨z.1, Or.inl ⟨z.2.1, by have := z.2.2; omega⟩⟩))⟩, ⟨(q _ _ (by omega)).trans b1, b2, (q _ _ (by omega)).trans b3, b4, b5⟩, ⟨(q _ _ (by omega)).trans c1, c2.eq (fun k _ => q _ _ (by omega)), c3, (q _ _ (by omega)).trans c4, (q _ _ (by omega)).trans c5, c6.eq (fun k _ => q _ _ (by omega)), c7⟩, d, fun hg => ⟨(q _ _ (by omega)).trans (f hg).1, ?_⟩, fun hg => (q _ _ (by omega)).trans (fb hg)⟩
  rw [wd_congr (A := gi M 368) (B := gi M 369) _ (fun t ht => ⟨q _ _ (by omega), q _ _ (by omega)⟩)]
  exact (f hg).2
theorem xq.bad (h : xq T r s0 lim E M0 M g i u c w π cs) (hgw : g = true ∨ w = false) (e : eqx (fun a k => a = 353 ∧ (k = 9 ∨ k = 10)) M M') (hb9 : gi M' 353 9 = 1) : xq T r s0 lim E M0 M' false i u c false π cs := by
  obtain ⟨⟨a1, a2, a3, a4⟩, ⟨b1, b2, b3, b4, b5⟩, ⟨c1, c2, c3, c4, c5, c6, c7⟩, ⟨d1, d2, d3, d4⟩, f, fb⟩ := h
  have q : ∀ a k, ¬ (a = 353 ∧ (k = 9 ∨ k = 10)) → gi M' a k = gi M a k := fun a k z => e a k z
  refine ⟨⟨a1.eq (fun a k z => q a k (by omega)), (q _ _ (by omega)).trans a2, a3, a4.trans (e.mono (fun a k z => Or.inl ⟨z.1, Or.inl (by have := z.2; omega)⟩))⟩, ⟨(q _ _ (by omega)).trans b1, b2, (q _ _ (by omega)).trans b3, b4, b5⟩, ⟨(q _ _ (by omega)).trans c1, c2.eq (fun k _ => q _ _ (by omega)), c3, (q _ _ (by omega)).trans c4, (q _ _ (by omega)).trans c5, c6.eq (fun k _ => q _ _ (by omega)), c7⟩, ⟨?_, ?_, d3, d4⟩, fun hg => absurd hg (by decide), fun _ => hb9⟩
  · simp only [Bool.false_eq_true, if_false]
    rcases hgw with z | z <;> subst z
    · simp only [if_true] at d1; split at d1 <;> omega
    · simp only [Bool.false_eq_true, if_false] at d1; split at d1 <;> omega
  · simp only [Bool.false_eq_true, if_false]
    rcases hgw with z | z <;> subst z
    · simp only [if_true] at d2; split at d2 <;> omega
    · simp only [Bool.false_eq_true, if_false] at d2; split at d2 <;> omega
theorem lv_le (π : List Int) : lv π ≤ (fil π).length := by
  rw [← lv_fil]
  exact List.countP_le_length
theorem s_readUnary {v1 : Int} {ir : Bool} {K : Int → rf_M → Prop} (hv : v1 = if ir = true then 1 else 0) (hlim : lim = if ir = true then 16 else 26) (h : xq T r s0 lim E M0 M true i u c true π cs)
    (k0 : ∀ M', xq T r s0 lim E M0 M' false i u c false π cs → gi M' 353 9 = 1 → x_step T ir (i, u, true, fil π, cs) = .inr (i, u, false) → K 0 M')
    (k1 : ∀ M' π' cs', xq T r s0 lim E M0 M' true (i + 1) (u + 1) c true π' cs' → x_step T ir (i, u, true, fil π, cs) = .inl (i + 1, u + 1, true, fil π', cs') → K 1 M')
    (k2 : ∀ M' c' π', xq T r s0 lim E M0 M' true (i + 1) (u + 1) c' false π' cs → π'.head? ≠ some 1000 → x_step T ir (i, u, true, fil π, cs) = .inl (i + 1, u + 1, false, fil π', cs) → K 0 M') : wm_readUnary v1 M K := by
  have hx := h
  obtain ⟨⟨a1, a2, a3, a4⟩, ⟨b1, b2, b3, b4, b5⟩, ⟨c1, c2, c3, c4, c5, c6, c7⟩, ⟨d1, d2, d3, d4⟩, f, fb⟩ := h
  have hbad := (f rfl).1
  have hwd := (f rfl).2
  have tk := a1.2.2
  have hk := tkm_iff tk.2.2.2
  have er : (gi M 353 28).toNat = r := by rw [a2]; omega
  simp only [if_true, Nat.add_zero] at d1 d2 hwd
  have bad : x_step T ir (i, u, true, fil π, cs) = .inr (i, u, false) → w_readUnary_94 M K := by
    intro hs
    refine s_misplaced (Or.inl hbad) (fun M' e q => k0 M' (hx.bad (Or.inl rfl) e q) q hs)
  -- the unary's count
  have h100 : ∀ (x : Int), (x = 1 → ((kd T i).toInt = 45 ∨ (kd T i).toInt = 40) ∧ ¬ (fil π).length = 8) → (x = 0 → ((kd T i).toInt = 2 ∨ ((kd T i).toInt = 1 ∧ (ir = false ∨ (nb T i).toInt < 16)))) → (x = 0 ∨ x = 1) → u < 60 → w_readUnary_100 x M K := by
    intro x hx1 hx0 hx01 hu
    show w_readUnary_100 x M K
    unfold w_readUnary_100
    rw [er, a2, b1]
    refine ⟨⟨by omega, by omega⟩, ⟨by omega, by omega⟩, fun M1 e1 => ⟨inr_z (by omega) (by omega), fun q => ?_, fun q M2 e2 => ?_⟩⟩
    · have hop := hx0 q
      have hil : i < T.length := kd_lt (by omega)
      have g1 : ∀ a k, ¬ (a = 356 ∧ k = r) → gi M1 a k = gi M a k := fun a k z => by rw [e1, gi_of (by omega)]
      have hstep : x_step T ir (i, u, true, fil π, cs) = .inl (i + 1, u + 1, false, dm (fil π), cs) := by
        unfold x_step
        dsimp only
        rw [if_pos rfl, if_neg (by omega), if_neg (by omega), if_pos hop, if_neg (by omega)]
      -- the act
      have fin : ∀ (v1 v2 : Int) (v3 : Int64), inr v1 → inr v2 → stp lim v1 v2 (nbi π) = some (nbi π + 1) → w_readUnary_244 v1 v2 v3 M1 K := by
        intro v1 v2 v3 i1 i2 hst
        refine s_act (r := r) (c := c) ((g1 _ _ (by omega)).trans a2) a3 ((g1 _ _ (by omega)).trans b3) (by omega) i1 i2 (fun M2 x2 y1 y2 y3 => ?_)
        have q2 : ∀ a k, ¬ (a = 356 ∧ k = r) → ¬ ((a = 359 ∧ k = r) ∨ ((a = 368 ∨ a = 369) ∧ k = 200 * r + c)) → gi M2 a k = gi M a k := fun a k z1 z2 => (x2 a k z2).trans (g1 a k z1)
        have hm2 : mtk M2 T i := a1.eq (fun a k z => q2 a k (by omega) (by omega))
        refine s_next' hm2 hil (fun M3 x3 hm3 => ?_)
        have hq : xq T r s0 lim E M0 M2 true i (u + 1) (c + 1) false π cs := by
          refine ⟨⟨hm2, (q2 _ _ (by omega) (by omega)).trans a2, a3, fun a k z => ?_⟩, ⟨?_, by omega, by rw [y1]; omega, by omega, b5⟩, ⟨(q2 _ _ (by omega) (by omega)).trans c1, c2.eq (fun k _ => q2 _ _ (by omega) (by omega)), c3, (q2 _ _ (by omega) (by omega)).trans c4, (q2 _ _ (by omega) (by omega)).trans c5, c6.eq (fun k _ => q2 _ _ (by omega) (by omega)), c7⟩, ⟨?_, ?_, d3, d4⟩, fun _ => ⟨(q2 _ _ (by omega) (by omega)).trans hbad, ?_⟩, fun z => absurd z (by decide)⟩
          · unfold exw at z
            exact (q2 a k (by omega) (by omega)).trans (a4 a k (by unfold exw; omega))
          · rw [x2 356 r (by omega), e1, gi_at (inr_z (by omega) (by omega))]; omega
          · simp only [Bool.false_eq_true, if_false, if_true]; omega
          · simp only [Bool.false_eq_true, if_false, if_true]; omega
          · rw [show 200 * r + (c + 1) - s0 = (200 * r + c - s0) + 1 by omega]
            refine wd_snoc (d := nbi π) ?_ ?_
            · rw [wd_congr (A := gi M 368) (B := gi M 369) _ (fun t ht => ⟨q2 _ _ (by omega) (by omega), q2 _ _ (by omega) (by omega)⟩)]
              exact hwd
            · rw [show s0 + (200 * r + c - s0) = 200 * r + c by omega, y2, y3]
              exact hst
        refine s_operand (hq.nx x3 hm3) (fun M4 c4 h4 => ?_)
        have hdm := dm_keep c3
        refine k2 M4 c4 (dm π) h4 hdm.2.2.2.1 ?_
        rw [hdm.1]; exact hstep
      have hnb : nbi π ≤ 60 := by
        have : nbi π ≤ π.length := List.countP_le_length
        omega
      have f1 : gi M1 353 4 = tkm (kd T i).toInt := (g1 _ _ (by omega)).trans tk.1
      refine ⟨fun q4 => ?_, fun q4 => ?_⟩
      · refine ⟨fun z => absurd z (by rw [q4]; decide), fun _ => ⟨fun _ => ?_, fun z => absurd q4 z⟩⟩
        refine fin 1 (-1) _ (inr_z (by omega) (by omega)) (inr_z (by omega) (by omega)) ?_
        unfold stp
        rw [if_pos rfl, if_pos (by omega)]
      · have h2 : (kd T i).toInt = 1 ∧ (ir = false ∨ (nb T i).toInt < 16) := by
          rcases hop with z | z
          · exact absurd (f1.trans (hk.2.1.mpr z)) q4
          · exact z
        have h3 : gi M1 353 4 = 2 := f1.trans (hk.2.2.1.mpr h2.1)
        have h4 := tk.2.2.1 h2.1
        have h5 : gi M1 353 6 = (nb T i).toInt := (g1 _ _ (by omega)).trans h4.1
        refine ⟨fun _ => ⟨fun z => absurd z q4, fun _ => ?_⟩, fun z => absurd h3 z⟩
        rw [h5]
        refine fin 2 _ _ (inr_z (by omega) (by omega)) (inr_ti _) ?_
        unfold stp
        rw [if_neg (by omega), if_pos rfl, if_pos]
        refine ⟨h4.2.1, ?_, by omega⟩
        rw [hlim]
        rcases h2.2 with z | z
        · rw [z]; simp; omega
        · split <;> omega
    · obtain ⟨hin, h8⟩ := hx1 (by omega)
      have hil : i < T.length := kd_lt (by omega)
      have g2 : ∀ a k, ¬ (a = 356 ∧ k = r) → ¬ (a = 353 ∧ k = 31) → gi M2 a k = gi M a k := fun a k z z2 => by rw [e2, gi_of (by omega), e1, gi_of (by omega)]
      have l31 : gi M1 353 31 = ((fil π).length : Int) := by rw [e1, gi_of (by omega)]; exact c4
      have k31 : gi M2 353 31 = ((fil π).length : Int) + 1 := by rw [e2, gi_at (by rw [l31]; exact inr_z (by omega) (by omega)), l31]
      have k356 : gi M2 356 r = (u : Int) + 1 := by rw [e2, gi_of (by omega), e1, gi_at (inr_z (by omega) (by omega))]
      have k30 : gi M2 353 30 = (π.length : Int) := (g2 _ _ (by omega) (by omega)).trans c1
      have hm2 : mtk M2 T i := a1.eq (fun a k z => g2 a k (by omega) (by omega))
      have h40 := (show (40 : Int32).toInt = 40 from rfl)
      -- the pile
      have put : ∀ (x : Int), (x = 40 ∨ x = 1000) → (x = 40 ↔ kd T i = 40) → w_readUnary_152 (gi M2 353 30) x M2 K := by
        intro x hx' hxk
        rw [k30]
        refine ⟨⟨by omega, by omega⟩, fun N1 f1 N2 f2 => ?_⟩
        have n30 : gi N1 353 30 = (π.length : Int) := by rw [f1, gi_of (by omega)]; exact k30
        have m30 : gi N2 353 30 = (π.length : Int) + 1 := by rw [f2, n30, gi_at (inr_z (by omega) (by omega))]
        have eL : ((π.length : Int)).toNat = π.length := by omega
        rw [eL] at f1
        have g4 : ∀ a k, ¬ (a = 353 ∧ k = 30) → ¬ (a = 371 ∧ k = π.length) → gi N2 a k = gi M2 a k := fun a k z1 z2 => by rw [f2, gi_of (by omega), f1, gi_of (by omega)]
        have p371 : gi N2 371 π.length = x := by rw [f2, gi_of (by omega), f1, gi_at (by rcases hx' with rfl | rfl <;> exact inr_z (by omega) (by omega))]
        have g5 : ∀ a k, ¬ (a = 353 ∧ (k = 30 ∨ k = 31)) → ¬ (a = 356 ∧ k = r) → ¬ (a = 371 ∧ k = π.length) → gi N2 a k = gi M a k := fun a k z1 z2 z3 => (g4 a k (by omega) z3).trans (g2 a k z2 (by omega))
        have hmN : mtk N2 T i := a1.eq (fun a k z => g5 a k (by omega) (by omega) (by omega))
        have mk : ∀ (N3 : rf_M) (cs' : List Bool), (∀ a k, ¬ (a = 353 ∧ k = 33) → ¬ a = 372 → gi N3 a k = gi N2 a k) → gi N3 353 33 = (lv (x :: π) : Int) → zcl N3 cs' → cs'.length = lv (x :: π) + 1 → xq T r s0 lim E M0 N3 true i (u + 1) c true (x :: π) cs' := by
          intro N3 cs' g6 l33 hcl hlen
          have g7 : ∀ a k, ¬ (a = 353 ∧ (k = 30 ∨ k = 31 ∨ k = 33)) → ¬ (a = 356 ∧ k = r) → ¬ (a = 371 ∧ k = π.length) → ¬ a = 372 → gi N3 a k = gi M a k := fun a k z1 z2 z3 z4 => (g6 a k (by omega) z4).trans (g5 a k (by omega) z2 z3)
          have hfil : fil (x :: π) = x :: fil π := by rcases hx' with rfl | rfl <;> rfl
          refine ⟨⟨hmN.eq (fun a k z => g6 a k (by omega) (by omega)), (g7 _ _ (by omega) (by omega) (by omega) (by omega)).trans a2, a3, fun a k z => ?_⟩, ⟨?_, by omega, (g7 _ _ (by omega) (by omega) (by omega) (by omega)).trans b3, b4, b5⟩, ⟨?_, ⟨?_, c2.eq (fun k hk => g7 _ _ (by omega) (by omega) (by omega) (by omega))⟩, ⟨?_, ?_, c3⟩, ?_, l33, hcl, hlen⟩, ⟨?_, ?_, d3, ?_⟩, fun _ => ⟨(g7 _ _ (by omega) (by omega) (by omega) (by omega)).trans hbad, ?_⟩, fun z => absurd z (by decide)⟩
          · unfold exw at z
            exact (g7 a k (by omega) (by omega) (by omega) (by omega)).trans (a4 a k (by unfold exw; omega))
          · rw [g6 _ _ (by omega) (by omega), g4 _ _ (by omega) (by omega), k356]; omega
          · rw [g6 _ _ (by omega) (by omega), m30]; simp
          · rw [g6 _ _ (by omega) (by omega)]; exact p371
          · rcases hx' with z | z
            · exact Or.inl z
            · exact Or.inr (Or.inl z)
          · intro z; rcases hx' with rfl | rfl <;> exact absurd z (by decide)
          · rw [g6 _ _ (by omega) (by omega), g4 _ _ (by omega) (by omega), k31, hfil]; simp
          · simp only [if_true, List.length_cons]; omega
          · simp only [if_true, List.length_cons]; omega
          · rw [hfil]; simp only [List.length_cons]; omega
          · have hn : nbi (x :: π) = nbi π := by rcases hx' with rfl | rfl <;> rfl
            rw [hn, wd_congr (A := gi M 368) (B := gi M 369) _ (fun t ht => ⟨g7 _ _ (by omega) (by omega) (by omega) (by omega), g7 _ _ (by omega) (by omega) (by omega) (by omega)⟩)]
            simp only [if_true, Nat.add_zero]
            exact hwd
        rw [← h40]
        refine s_isSign hmN (by decide) (fun e => ⟨inr_z (by omega) (by omega), fun z => absurd z (by omega), fun _ N4 f4 => ?_⟩) (fun e => ⟨inr_z (by omega) (by omega), fun _ => ?_, fun z => absurd rfl z⟩)
        · have hx40 : x = 40 := hxk.mpr e
          subst hx40
          have e40 : (kd T i).toInt = 40 := by rw [e]; rfl
          have n33 : gi N2 353 33 = (lv π : Int) := (g5 _ _ (by omega) (by omega) (by omega)).trans c5
          have hlv := lv_le π
          have m33 : gi N4 353 33 = (lv π : Int) + 1 := by rw [f4, n33, gi_at (inr_z (by omega) (by omega))]
          refine ⟨⟨by omega, by omega⟩, fun N5 f5 => ?_⟩
          rw [m33, show ((lv π : Int) + 1).toNat = lv π + 1 by omega] at f5
          have hq := mk N5 (false :: cs) (fun a k z1 z2 => by rw [f5, gi_of (by omega), f4, gi_of (by omega)]) (by rw [f5, gi_of (by omega), m33, (fil_p π).2.1]; omega) ⟨by rw [c7, f5, gi_at (inr_ti _)]; decide, c6.eq (fun k hk => by rw [f5, gi_of (by omega), f4, gi_of (by omega)]; exact g5 _ _ (by omega) (by omega) (by omega))⟩ (by rw [(fil_p π).2.1]; simp; omega)
          refine s_next' hq.1.1 hil (fun N6 x6 hm6 => k1 N6 (40 :: π) (false :: cs) (hq.nx x6 hm6) ?_)
          unfold x_step
          dsimp only
          rw [if_pos rfl, if_neg (by omega), if_pos e40, if_neg (by omega)]
          rfl
        · have hxm : x = 1000 := by
            rcases hx' with z | z
            · exact absurd (hxk.mp z) e
            · exact z
          subst hxm
          have e45 : (kd T i).toInt = 45 := by
            rcases hin with z | z
            · exact z
            · exact absurd (Int32.toInt_inj.mp z) e
          have hq := mk N2 cs (fun a k _ _ => rfl) ((g5 _ _ (by omega) (by omega) (by omega)).trans c5) (c6.eq (fun k hk => g5 _ _ (by omega) (by omega) (by omega))) c7
          refine s_next' hq.1.1 hil (fun N6 x6 hm6 => k1 N6 (1000 :: π) cs (hq.nx x6 hm6) ?_)
          unfold x_step
          dsimp only
          rw [if_pos rfl, if_pos e45, if_neg (by omega)]
          rfl
      rw [← h40]
      refine s_isSign hm2 (by decide) (fun e => ⟨inr_z (by omega) (by omega), fun z => absurd z (by omega), fun _ => put 40 (Or.inl rfl) ⟨fun _ => e, fun _ => rfl⟩⟩) (fun e => ⟨inr_z (by omega) (by omega), fun _ => put 1000 (Or.inr rfl) ⟨fun z => absurd z (by decide), fun z => absurd z e⟩, fun z => absurd rfl z⟩)
  -- is it good
  have h62 : ∀ (x y : Int), (x = 1 → (kd T i).toInt = 45 ∨ (kd T i).toInt = 40) → (x = 0 → ¬ ((kd T i).toInt = 45 ∨ (kd T i).toInt = 40)) → (x = 0 ∨ x = 1) → (y = 1 → x_good T ir i) → (y = 0 → ¬ x_good T ir i) → (y = 0 ∨ y = 1) → w_readUnary_62 x y M K := by
    intro x y hx1 hx0 hx01 hy1 hy0 hy01
    refine ⟨inr_z (by omega) (by omega), fun q => bad ?_, fun q => ?_⟩
    · have hg := hy0 q
      unfold x_good at hg
      unfold x_step
      dsimp only
      rw [if_pos rfl, if_neg (fun z => hg (Or.inl z)), if_neg (fun z => hg (Or.inr (Or.inl z))), if_neg (fun z => hg (z.elim (fun z => Or.inr (Or.inr (Or.inl z))) (fun z => Or.inr (Or.inr (Or.inr z)))))]
    · have hg := hy1 (by omega)
      unfold x_good at hg
      rw [er, a2, b1]
      refine ⟨⟨by omega, by omega⟩, fun q2 => bad ?_, fun q2 => ⟨inr_z (by omega) (by omega), fun q3 => ?_, fun q3 => ?_⟩⟩
      · unfold x_step
        dsimp only
        rw [if_pos rfl]
        split
        · rw [if_pos (Or.inl (by omega))]
        · split
          · rw [if_pos (Or.inl (by omega))]
          · split
            · rw [if_pos (by omega)]
            · rfl
      · refine h100 x (fun z => absurd z (by omega)) (fun _ => ?_) (Or.inl q3) (by omega)
        have := hx0 q3
        rcases hg with z | z | z | z
        · exact absurd (Or.inl z) this
        · exact absurd (Or.inr z) this
        · exact Or.inl z
        · exact Or.inr z
      · have hin := hx1 (by omega)
        rw [c4]
        refine ⟨fun q4 => bad ?_, fun q4 => h100 x (fun _ => ⟨hin, by omega⟩) (fun z => absurd z q3) hx01 (by omega)⟩
        unfold x_step
        dsimp only
        rw [if_pos rfl]
        rcases hin with z | z
        · rw [if_pos z, if_pos (Or.inr (by omega))]
        · rw [if_neg (by omega), if_pos z, if_pos (Or.inr (by omega))]
  have t4 := tk.1
  have h23 : ∀ (x : Int), (x = 1 → (kd T i).toInt = 45 ∨ (kd T i).toInt = 40) → (x = 0 → ¬ ((kd T i).toInt = 45 ∨ (kd T i).toInt = 40)) → (x = 0 ∨ x = 1) → w_readUnary_23 v1 x M K := by
    intro x hx1 hx0 hx01
    have nog : (x = 0) → ¬ (kd T i).toInt = 2 → ¬ ((kd T i).toInt = 1 ∧ (ir = false ∨ (nb T i).toInt < 16)) → ¬ x_good T ir i := by
      intro z1 z2 z3 z4
      rcases z4 with z | z | z | z
      · exact hx0 z1 (Or.inl z)
      · exact hx0 z1 (Or.inr z)
      · exact z2 z
      · exact z3 z
    have iv1 : inr v1 := by rw [hv]; split <;> exact inr_z (by omega) (by omega)
    refine ⟨inr_z (by omega) (by omega), fun q => ⟨fun q2 => ?_, fun q2 => ⟨fun q3 => ⟨iv1, fun q4 => ?_, fun q4 => ⟨fun q5 => ?_, fun q5 => ?_⟩⟩, fun q3 => ?_⟩⟩, fun q => ?_⟩
    · exact h62 x 1 hx1 hx0 hx01 (fun _ => Or.inr (Or.inr (Or.inl (hk.2.1.mp (t4.symm.trans q2))))) (fun z => absurd z (by decide)) (Or.inr rfl)
    · refine h62 x 1 hx1 hx0 hx01 (fun _ => Or.inr (Or.inr (Or.inr ⟨hk.2.2.1.mp (t4.symm.trans q3), Or.inl ?_⟩))) (fun z => absurd z (by decide)) (Or.inr rfl)
      rw [hv] at q4
      cases ir
      · rfl
      · exact absurd q4 (by decide)
    · refine h62 x 0 hx1 hx0 hx01 (fun z => absurd z (by decide)) (fun _ => nog q (fun z => q2 (t4.trans (hk.2.1.mpr z))) (fun z => ?_)) (Or.inl rfl)
      have h1 := tk.2.2.1 z.1
      rcases z.2 with z2 | z2
      · rw [hv, z2] at q4; exact q4 rfl
      · rw [h1.1] at q5; omega
    · refine h62 x 1 hx1 hx0 hx01 (fun _ => ?_) (fun z => absurd z (by decide)) (Or.inr rfl)
      have h1 := hk.2.2.1.mp (t4.symm.trans q3)
      have h2 := tk.2.2.1 h1
      rw [h2.1] at q5
      exact Or.inr (Or.inr (Or.inr ⟨h1, Or.inr (by omega)⟩))
    · refine h62 x 0 hx1 hx0 hx01 (fun z => absurd z (by decide)) (fun _ => nog q (fun z => q2 (t4.trans (hk.2.1.mpr z))) (fun z => q3 (t4.trans (hk.2.2.1.mpr z.1)))) (Or.inl rfl)
    · refine h62 x 1 hx1 hx0 hx01 (fun _ => ?_) (fun z => absurd z (by decide)) (Or.inr rfl)
      rcases hx1 (by omega) with z | z
      · exact Or.inl z
      · exact Or.inr (Or.inl z)
  have h45 := (show (45 : Int32).toInt = 45 from rfl)
  have h40 := (show (40 : Int32).toInt = 40 from rfl)
  have ti : ∀ {x : Int32}, kd T i = x → (kd T i).toInt = x.toInt := fun z => by rw [z]
  have it : ∀ {x : Int32}, (kd T i).toInt = x.toInt → kd T i = x := fun z => Int32.toInt_inj.mp z
  show wm_isSign 45 M _
  rw [← h45]
  refine s_isSign a1 (by decide) (fun e => ⟨inr_z (by omega) (by omega), fun z => absurd z (by omega), fun _ => h23 1 (fun _ => Or.inl (ti e)) (fun z => absurd z (by decide)) (Or.inr rfl)⟩) (fun e => ⟨inr_z (by omega) (by omega), fun _ => ?_, fun z => absurd rfl z⟩)
  show wm_isSign 40 M _
  rw [← h40]
  refine s_isSign a1 (by decide) (fun e2 => ⟨inr_z (by omega) (by omega), fun z => absurd z (by omega), fun _ => h23 1 (fun _ => Or.inr (ti e2)) (fun z => absurd z (by decide)) (Or.inr rfl)⟩) (fun e2 => ⟨inr_z (by omega) (by omega), fun _ => h23 0 (fun z => absurd z (by decide)) (fun _ z => ?_) (Or.inl rfl), fun z => absurd rfl z⟩)
  rcases z with z | z
  · exact e (it z)
  · exact e2 (it z)
end XC
theorem stg_b {x : Int} (h : 1 ≤ stg x) : isb x = true ∧ stg x ≤ 3 ∧ 35 ≤ x ∧ x ≤ 61 := by
  unfold stg at h ⊢
  rw [isb_iff]
  split at h
  · rename_i q; rw [if_pos q]; omega
  · rename_i q
    rw [if_neg q]
    split at h
    · rename_i q2; rw [if_pos q2]; omega
    · rename_i q2
      rw [if_neg q2]
      split at h
      · rename_i q3; rw [if_pos q3]; omega
      · omega
theorem stg_le (x : Int) : 0 ≤ stg x ∧ stg x ≤ 3 := by
  unfold stg
  split
  · omega
  · split
    · omega
    · split <;> omega
/-- a piece of code that ends -/
def wfc (A B : Nat → Int) (lim : Int) (s : Nat) : Prop := ∃ k, s + k < 2400 ∧ wd A B lim s k = some 1 ∧ A (s + k) = 4
/-- behind an exp without a fault -/
def exg (T : tK) (r s0 : Nat) (lim : Int) (E : Nat) (M0 M : rf_M) (i u c : Nat) : Prop := mtk M T i ∧ gi M 353 28 = (r : Int) ∧ gi M 356 r = (u : Int) ∧ u ≤ 60 ∧ gi M 359 r = (c : Int) ∧ c ≤ 2 * u + E + 1 ∧ s0 ≤ 200 * r + c ∧ gi M 353 9 = 0 ∧ eqx (exw r s0) M0 M ∧ ∃ k, s0 + k + 1 = 200 * r + c ∧ wd (gi M 368) (gi M 369) lim s0 k = some 1 ∧ gi M 368 (s0 + k) = 4
def exb (T : tK) (r s0 : Nat) (M0 M : rf_M) : Prop := (∃ i, mtk M T i) ∧ gi M 353 28 = (r : Int) ∧ gi M 353 9 = 1 ∧ eqx (exw r s0) M0 M
def i46 (T : tK) (r s0 : Nat) (lim : Int) (E : Nat) (M0 : rf_M) (ir : Bool) (H : Nat × Nat × Bool) (m : Nat) (v1 v2 v3 v4 : Int) (M : rf_M) : Prop := v1 = (if ir = true then 1 else 0) ∧ v2 = (s0 : Int) ∧ ∃ i u c w π cs, (xq T r s0 lim E M0 M true i u c w π cs ∧ v4 = 1 ∧ v3 = (if w = true then 1 else 0) ∧ (w = false → π.head? ≠ some 1000) ∧ x_ev T ir m (i, u, w, fil π, cs) = some H) ∨ (xq T r s0 lim E M0 M true i u c false π cs ∧ v4 = 0 ∧ v3 = 0 ∧ π.head? ≠ some 1000 ∧ H = (i, u, decide (lv π = 0)) ∧ w = false) ∨ (xq T r s0 lim E M0 M false i u c false π cs ∧ gi M 353 9 = 1 ∧ inr v3 ∧ inr v4 ∧ H.2.2 = false ∧ w = false)
section XD
variable {M M' M0 : rf_M} {T : tK} {i r s0 E u c : Nat} {lim : Int} {g : Bool} {π : List Int} {cs : List Bool} {ir : Bool} {H : Nat × Nat × Bool} {K : Int → rf_M → Prop}
theorem s_exp_289 (h : xq T r s0 lim E M0 M g i u c false π cs) (hg : g = true → π.head? ≠ some 1000 ∧ lv π = 0)
    (kg : g = true → ∀ M' c1, exg T r s0 lim E M0 M' i u c1 → K (s0 : Int) M') (kb : g = false → ∀ M', exb T r s0 M0 M' → K (s0 : Int) M') : w_exp_289 (s0 : Int) M K := by
  refine s_reduce ⟨by omega, by omega⟩ h (fun M1 c1 h1 => ?_)
  have lc := xq_c h1
  have okp0 := h.2.2.1.2.2.1
  obtain ⟨⟨a1, a2, a3, a4⟩, ⟨b1, b2, b3, b4, b5⟩, ⟨e1, e2, e3, e4, e5, e6, e7⟩, ⟨d1, d2, d3, d4⟩, f, fb⟩ := h1
  refine s_act (r := r) (c := c1) a2 a3 b3 (by omega) (inr_z (by omega) (by omega)) (inr_z (by omega) (by omega)) (fun M2 x2 y1 y2 y3 => ?_)
  have q2 : ∀ a k, ¬ ((a = 359 ∧ k = r) ∨ ((a = 368 ∨ a = 369) ∧ k = 200 * r + c1)) → gi M2 a k = gi M1 a k := fun a k z => x2 a k z
  have hx2 : eqx (exw r s0) M0 M2 := fun a k z => by
    unfold exw at z
    exact (q2 a k (by omega)).trans (a4 a k (by unfold exw; omega))
  have hm2 : mtk M2 T i := a1.eq (fun a k z => q2 a k (by omega))
  cases g with
  | false => exact kb rfl M2 ⟨⟨i, hm2⟩, (q2 _ _ (by omega)).trans a2, (q2 _ _ (by omega)).trans (fb rfl), hx2⟩
  | true =>
    obtain ⟨hh, hl⟩ := hg rfl
    have hp : popr 1 π = [] := by
      rcases popr_one π okp0 hh with z | ⟨ρ, z⟩
      · exact z
      · have := (popr_keep 1 π).2.1
        rw [z, (fil_p ρ).2.1] at this
        omega
    rw [hp] at d1 f
    simp only [if_true, Bool.false_eq_true, if_false, List.length_nil] at d1
    have hw := (f rfl).2
    refine kg rfl M2 (c1 + 1) ⟨hm2, (q2 _ _ (by omega)).trans a2, (q2 _ _ (by omega)).trans b1, b2, by rw [y1]; omega, by omega, by omega, (q2 _ _ (by omega)).trans (f rfl).1, hx2, 200 * r + c1 - s0, by omega, ?_, ?_⟩
    · rw [wd_congr (A := gi M1 368) (B := gi M1 369) _ (fun t ht => ⟨q2 _ _ (by omega), q2 _ _ (by omega)⟩)]
      exact hw
    · rw [show s0 + (200 * r + c1 - s0) = 200 * r + c1 by omega]; exact y2
theorem s_exp_46 {m : Nat} {v1 : Int} (hlim : lim = if ir = true then 16 else 26) (h0 : i46 T r s0 lim E M0 ir H m v1 (s0 : Int) 1 1 M)
    (kg : H.2.2 = true → ∀ M' c1, exg T r s0 lim E M0 M' H.1 H.2.1 c1 → K (s0 : Int) M') (kb : H.2.2 = false → ∀ M', exb T r s0 M0 M' → K (s0 : Int) M') : w_exp_46 v1 (s0 : Int) 1 1 M K := by
  refine ⟨i46 T r s0 lim E M0 ir H, ⟨m, h0⟩, ?_⟩
  rintro m v1 v2 v3 v4 M ⟨hv1, rfl, i, u, c, w, π, cs, hcase⟩
  have i1 : inr v1 := by rw [hv1]; split <;> exact inr_z (by omega) (by omega)
  -- the ends
  have endb : xq T r s0 lim E M0 M false i u c false π cs → H.2.2 = false → w_exp_278 (s0 : Int) M K := by
    intro h hH
    refine ⟨fun _ => ?_, fun _ => ?_⟩
    · exact s_exp_289 h (fun z => absurd z (by decide)) (fun z => absurd z (by decide)) (fun _ => kb hH)
    · refine s_misplaced (Or.inr (h.2.2.2.2.2 rfl)) (fun M2 x2 y2 => s_exp_289 (h.bad (Or.inr rfl) x2 y2) (fun z => absurd z (by decide)) (fun z => absurd z (by decide)) (fun _ => kb hH))
  rcases hcase with ⟨h, rfl, hv3, hh, hev⟩ | ⟨h, rfl, rfl, hh, hH, -⟩ | ⟨h, hb, j3, j4, hH, -⟩
  rotate_left
  · refine ⟨inr_z (by omega) (by omega), fun _ => ?_, fun z => absurd rfl z⟩
    have h33 := h.2.2.1.2.2.2.2.1
    refine ⟨fun q => ?_, fun q => ?_⟩
    · have hl : lv π = 0 := by omega
      refine s_exp_289 h (fun _ => ⟨hh, hl⟩) (fun _ M' c1 hx => kg (by rw [hH]; simp [hl]) M' c1 (by rw [hH]; exact hx)) (fun z => absurd z (by decide))
    · have hl : ¬ lv π = 0 := by omega
      refine s_misplaced (Or.inl (h.2.2.2.2.1 rfl).1) (fun M2 x2 y2 => s_exp_289 (h.bad (Or.inl rfl) x2 y2) (fun z => absurd z (by decide)) (fun z => absurd z (by decide)) (fun _ => kb (by rw [hH]; simp [hl])))
  · refine ⟨j4, fun _ => endb h hH, fun _ => ⟨fun z => absurd z (by omega), fun _ => endb h hH⟩⟩
  -- a step
  obtain ⟨m, rfl⟩ : ∃ k, m = k + 1 := by
    cases m with
    | zero => cases hev
    | succ k => exact ⟨k, rfl⟩
  have step : ∀ {σ : xM}, x_step T ir (i, u, w, fil π, cs) = .inl σ → x_ev T ir m σ = some H := by
    intro σ hs
    unfold x_ev at hev
    rw [hs] at hev
    exact hev
  have halt : ∀ {G : Nat × Nat × Bool}, x_step T ir (i, u, w, fil π, cs) = .inr G → H = G := by
    intro G hs
    unfold x_ev at hev
    rw [hs] at hev
    exact (Option.some.inj hev).symm
  have hx := h
  obtain ⟨⟨a1, a2, a3, a4⟩, ⟨b1, b2, b3, b4, b5⟩, ⟨c1, c2, c3, c4, c5, c6, c7⟩, ⟨d1, d2, d3, d4⟩, f, fb⟩ := h
  refine ⟨inr_z (by omega) (by omega), fun z => absurd z (by omega), fun _ => ⟨fun _ => ⟨by rw [hv3]; split <;> exact inr_z (by omega) (by omega), fun q => ?_, fun q => ?_⟩, fun z => absurd (f rfl).1 z⟩⟩
  rotate_left
  · -- an operand is wanted
    have hw : w = true := by
      cases w
      · exact absurd (by rw [hv3]; rfl) q
      · rfl
    subst hw
    refine s_readUnary hv1 hlim hx (fun M' h' hb' hs => ?_) (fun M' π' cs' h' hs => ?_) (fun M' c' π' h' hh' hs => ?_)
    · exact ⟨m, by omega, hv1, rfl, i, u, c, false, π, cs, Or.inr (Or.inr ⟨h', hb', inr_z (by omega) (by omega), inr_z (by omega) (by omega), by rw [halt hs], rfl⟩)⟩
    · exact ⟨m, by omega, hv1, rfl, i + 1, u + 1, c, true, π', cs', Or.inl ⟨h', rfl, rfl, fun z => absurd z (by decide), step hs⟩⟩
    · exact ⟨m, by omega, hv1, rfl, i + 1, u + 1, c', false, π', cs, Or.inl ⟨h', rfl, rfl, fun _ => hh', step hs⟩⟩
  -- an operand is there
  have hw : w = false := by
    cases w
    · rfl
    · rw [hv3] at q; exact absurd q (by decide)
  subst hw
  have hh := hh rfl
  have tk := a1.2.2
  have hk := tkm_iff tk.2.2.2
  simp only [Bool.false_eq_true, if_false, if_true, Nat.add_zero] at d1 d2
  have hlv := lv_le π
  have h33 : (gi M 353 33).toNat = lv π := by rw [c5]; omega
  -- more = false
  have h272 : ¬ ((kd T i).toInt = 41 ∧ 0 < lv π) → ¬ 1 < stg (kd T i).toInt → ¬ (stg (kd T i).toInt = 1 ∧ cs.head? = some false) → w_exp_272 v1 (s0 : Int) v3 M (fun (v1' v2' v3' v4' : Int) (M' : rf_M) => ∃ m', m' < m + 1 ∧ i46 T r s0 lim E M0 ir H m' v1' v2' v3' v4' M') K := by
    intro n1 n2 n3
    refine ⟨m, by omega, hv1, rfl, i, u, c, false, π, cs, Or.inr (Or.inl ⟨hx, rfl, q, hh, ?_, rfl⟩)⟩
    refine halt ?_
    unfold x_step
    dsimp only
    rw [if_neg (by decide), if_neg (by rw [lv_fil]; exact n1), if_neg n2, if_neg n3, lv_fil]
  -- an operator
  have h183 : ∀ (cs' : List Bool), 20 ≤ (kd T i).toInt → 1 ≤ stg (kd T i).toInt → (stg (kd T i).toInt = 1 → cs.head? = some false ∧ cs' = true :: cs.tail) → (¬ stg (kd T i).toInt = 1 → cs' = cs) → ¬ ((kd T i).toInt = 41 ∧ 0 < lv π) → w_exp_183 v1 (s0 : Int) 1 M (fun (v1' v2' v3' v4' : Int) (M' : rf_M) => ∃ m', m' < m + 1 ∧ i46 T r s0 lim E M0 ir H m' v1' v2' v3' v4' M') K := by
    intro cs' h20 hst hc1 hc2 n41
    have hsg : gi M 353 8 = (kd T i).toInt := tk.2.1 h20
    have hb := stg_b hst
    have hil : i < T.length := kd_lt (by omega)
    obtain ⟨x0, ct, hcs⟩ : ∃ x0 ct, cs = x0 :: ct := by
      cases cs with
      | nil => simp at c7
      | cons x t => exact ⟨x, t, rfl⟩
    have hct : ct.length = lv π := by rw [hcs] at c7; simp at c7; omega
    have hx0 : gi M 372 (lv π) = (if x0 = true then 1 else 0) := by
      rw [hcs] at c6
      rw [← hct]; exact c6.1
    have hstep : x_step T ir (i, u, false, fil π, cs) = .inl (i + 1, u, true, fil π, cs') := by
      unfold x_step
      dsimp only
      rw [if_neg (by decide), if_neg (by rw [lv_fil]; exact n41)]
      by_cases z : stg (kd T i).toInt = 1
      · rw [if_neg (by omega), if_pos ⟨z, (hc1 z).1⟩, (hc1 z).2]
      · rw [if_pos (by omega), hc2 z]
    -- the flag, reduce, push
    have h223 : ∀ (s2 : Int), (s2 = 0 ∨ s2 = 1) → (zcl (wi M 372 (lv π) (Int32.ofInt s2 &&& 1).toInt) cs' ∧ cs'.length = lv π + 1) → w_exp_223 v1 (s0 : Int) 1 (stg (kd T i).toInt) (gi M 353 33) s2 M (fun (v1' v2' v3' v4' : Int) (M' : rf_M) => ∃ m', m' < m + 1 ∧ i46 T r s0 lim E M0 ir H m' v1' v2' v3' v4' M') K := by
      intro s2 hs2 hcl
      refine ⟨⟨by omega, by omega⟩, fun M1 e1 => ?_⟩
      rw [h33] at e1
      have g1 : ∀ a k, ¬ (a = 372 ∧ k = lv π) → gi M1 a k = gi M a k := fun a k z => by rw [e1, gi_of (by omega)]
      have hx1 : xq T r s0 lim E M0 M1 true i u c false π cs' := by
        refine ⟨⟨a1.eq (fun a k z => g1 a k (by omega)), (g1 _ _ (by omega)).trans a2, a3, fun a k z => ?_⟩, ⟨(g1 _ _ (by omega)).trans b1, b2, (g1 _ _ (by omega)).trans b3, b4, b5⟩, ⟨(g1 _ _ (by omega)).trans c1, c2.eq (fun k _ => g1 _ _ (by omega)), c3, (g1 _ _ (by omega)).trans c4, (g1 _ _ (by omega)).trans c5, by rw [e1]; exact hcl.1, hcl.2⟩, ⟨by simp only [Bool.false_eq_true, if_false, if_true]; omega, by simp only [Bool.false_eq_true, if_false, if_true]; omega, d3, d4⟩, fun hg => ⟨(g1 _ _ (by omega)).trans (f hg).1, ?_⟩, fun z => absurd z (by decide)⟩
        · unfold exw at z
          exact (g1 a k (by omega)).trans (a4 a k (by unfold exw; omega))
        · rw [wd_congr (A := gi M 368) (B := gi M 369) _ (fun t ht => ⟨g1 _ _ (by omega), g1 _ _ (by omega)⟩)]
          exact (f hg).2
      have h237 : ∀ least : Int, 1 ≤ least ∧ least ≤ 3 → w_exp_237 v1 (s0 : Int) 1 least M1 (fun (v1' v2' v3' v4' : Int) (M' : rf_M) => ∃ m', m' < m + 1 ∧ i46 T r s0 lim E M0 ir H m' v1' v2' v3' v4' M') K := by
        intro least hl
        refine s_reduce hl hx1 (fun M2 c2' h2 => ?_)
        have hpk := popr_keep least π
        have h2' := h2
        obtain ⟨⟨A1, A2, A3, A4⟩, ⟨B1, B2, B3, B4, B5⟩, ⟨C1, C2, C3, C4, C5, C6, C7⟩, ⟨D1, D2, D3, D4⟩, F, FB⟩ := h2
        generalize popr least π = ρ at *
        simp only [Bool.false_eq_true, if_false, if_true, Nat.add_zero] at D1 D2
        have sg2 : gi M2 353 8 = (kd T i).toInt := A1.2.2.2.1 h20
        rw [C1, sg2]
        refine ⟨⟨by omega, by omega⟩, fun M3 e3 M4 e4 => ?_⟩
        rw [show ((ρ.length : Int)).toNat = ρ.length by omega] at e3
        have n30 : gi M3 353 30 = (ρ.length : Int) := by rw [e3, gi_of (by omega)]; exact C1
        have g4 : ∀ a k, ¬ (a = 353 ∧ k = 30) → ¬ (a = 371 ∧ k = ρ.length) → gi M4 a k = gi M2 a k := fun a k z1 z2 => by rw [e4, gi_of (by omega), e3, gi_of (by omega)]
        have hm4 : mtk M4 T i := A1.eq (fun a k z => g4 a k (by omega) (by omega))
        have hx4 : xq T r s0 lim E M0 M4 true i u c2' true ((kd T i).toInt :: ρ) cs' := by
          refine ⟨⟨hm4, (g4 _ _ (by omega) (by omega)).trans A2, A3, fun a k z => ?_⟩, ⟨(g4 _ _ (by omega) (by omega)).trans B1, B2, (g4 _ _ (by omega) (by omega)).trans B3, B4, B5⟩, ⟨?_, ⟨?_, C2.eq (fun k _ => g4 _ _ (by omega) (by omega))⟩, ⟨Or.inr (Or.inr hb.1), fun _ => hpk.2.2.2 hh c3, C3⟩, ?_, ?_, C6.eq (fun k _ => g4 _ _ (by omega) (by omega)), by rw [(fil_b hb.1).2.1]; exact C7⟩, ⟨?_, ?_, D3, ?_⟩, fun hg => ⟨(g4 _ _ (by omega) (by omega)).trans (F hg).1, ?_⟩, fun z => absurd z (by decide)⟩
          · unfold exw at z
            exact (g4 a k (by omega) (by omega)).trans (A4 a k (by unfold exw; omega))
          · rw [e4, n30, gi_at (inr_z (by omega) (by omega))]; simp
          · rw [e4, gi_of (by omega), e3, gi_at (inr_ti _)]
          · rw [(fil_b hb.1).1]; exact (g4 _ _ (by omega) (by omega)).trans C4
          · rw [(fil_b hb.1).2.1]; exact (g4 _ _ (by omega) (by omega)).trans C5
          · simp only [if_true, List.length_cons]; omega
          · simp only [if_true, List.length_cons]; omega
          · rw [(fil_b hb.1).1]; exact D4
          · rw [wd_congr (A := gi M2 368) (B := gi M2 369) _ (fun t ht => ⟨g4 _ _ (by omega) (by omega), g4 _ _ (by omega) (by omega)⟩), (fil_b hb.1).2.2]
            exact (F hg).2
        refine s_next' hm4 hil (fun M5 x5 hm5 => ?_)
        refine ⟨m, by omega, hv1, rfl, i + 1, u, c2', true, (kd T i).toInt :: ρ, cs', Or.inl ⟨hx4.nx x5 hm5, rfl, rfl, fun z => absurd z (by decide), ?_⟩⟩
        refine step ?_
        rw [hstep, (fil_b hb.1).1, hpk.1]
      exact ⟨inr_z (by omega) (by omega), fun z => h237 2 ⟨by omega, by omega⟩, fun z => h237 _ ⟨by omega, by omega⟩⟩
    have mkcl : ∀ (s2 : Int) (y : Bool), (s2 = 0 ∨ s2 = 1) → s2 = (if y = true then 1 else 0) → cs' = y :: ct → zcl (wi M 372 (lv π) (Int32.ofInt s2 &&& 1).toInt) cs' ∧ cs'.length = lv π + 1 := by
      intro s2 y hs2 hy hc'
      rw [hc']
      rw [hcs] at c6
      refine ⟨⟨?_, c6.2.eq (fun k hk => by rw [gi_of (by omega)])⟩, by simp; exact hct⟩
      rw [hct, gi_at (inr_ti _), ← hy]
      rcases hs2 with rfl | rfl <;> decide
    show wm_strength (gi M 353 8) M _
    rw [hsg]
    refine s_strength (inr_ti _) ⟨⟨by omega, by omega⟩, ?_⟩
    rw [h33, hx0]
    refine ⟨fun z => ⟨inr_z (by omega) (by omega), fun z2 => ?_, fun z2 => ?_⟩, fun z => ?_⟩
    · exact h223 1 (Or.inr rfl) (mkcl 1 true (Or.inr rfl) rfl (by rw [(hc1 z2).2, hcs]; rfl))
    · have hx00 : x0 = false := by
        cases x0
        · rfl
        · exact absurd z (by decide)
      exact h223 0 (Or.inl rfl) (mkcl 0 false (Or.inl rfl) rfl (by rw [hc2 z2, hcs, hx00]))
    · have hx00 : x0 = true := by
        cases x0
        · exact absurd rfl z
        · rfl
      have z2 : ¬ stg (kd T i).toInt = 1 := fun z2 => by
        have := (hc1 z2).1
        rw [hcs, hx00] at this
        simp at this
      exact h223 1 (Or.inr rfl) (mkcl 1 true (Or.inr rfl) rfl (by rw [hc2 z2, hcs, hx00]))
  have t4 := tk.1
  have s20 : ∀ {x : Int}, 1 ≤ stg x → 20 ≤ x := fun z => by have := stg_b z; omega
  have hdc : cs.head? = some false ∨ cs.head? = some true := by
    cases cs with
    | nil => simp at c7
    | cons x t => cases x <;> simp
  have h133 : ¬ ((kd T i).toInt = 41 ∧ 0 < lv π) → w_exp_133 v1 (s0 : Int) v3 1 M (fun (v1' v2' v3' v4' : Int) (M' : rf_M) => ∃ m', m' < m + 1 ∧ i46 T r s0 lim E M0 ir H m' v1' v2' v3' v4' M') K := by
    intro n41
    have h152 : ¬ 1 < stg (kd T i).toInt → w_exp_152 v1 (s0 : Int) v3 1 M (fun (v1' v2' v3' v4' : Int) (M' : rf_M) => ∃ m', m' < m + 1 ∧ i46 T r s0 lim E M0 ir H m' v1' v2' v3' v4' M') K := by
      intro n1
      refine ⟨fun z => ?_, fun z => h272 n41 n1 (fun w => ?_)⟩
      · have h20 : 20 ≤ (kd T i).toInt := hk.1.mp (t4.symm.trans z)
        show wm_strength (gi M 353 8) M _
        rw [tk.2.1 h20]
        have hst := stg_le (kd T i).toInt
        refine s_strength (inr_ti _) ⟨inr_z (by omega) (by omega), fun z2 => ⟨⟨by omega, by omega⟩, ?_⟩, fun z2 => h272 n41 n1 (fun w => z2 w.1)⟩
        rw [h33]
        have hcl0 : gi M 372 (lv π) = (if cs.head? = some true then 1 else 0) := by
          cases cs with
          | nil => simp at c7
          | cons x t =>
            have : t.length = lv π := by simp at c7; omega
            rw [← this, c6.1]
            cases x <;> rfl
        rw [hcl0]
        refine ⟨fun z3 => ?_, fun z3 => h272 n41 n1 (fun w => ?_)⟩
        · have hf : cs.head? = some false := by
            rcases hdc with w | w
            · exact w
            · rw [w] at z3; exact absurd z3 (by decide)
          exact h183 (true :: cs.tail) h20 (by omega) (fun _ => ⟨hf, rfl⟩) (fun w => absurd z2 w) n41
        · rw [w.2] at z3; exact z3 (by decide)
      · exact z (t4.trans (hk.1.mpr (s20 (by omega))))
    refine ⟨fun z => ?_, fun z => h152 (fun w => z (t4.trans (hk.1.mpr (s20 (by omega)))))⟩
    have h20 : 20 ≤ (kd T i).toInt := hk.1.mp (t4.symm.trans z)
    show wm_strength (gi M 353 8) M _
    rw [tk.2.1 h20]
    have hst := stg_le (kd T i).toInt
    exact s_strength (inr_ti _) ⟨inr_z (by omega) (by omega), fun z2 => h183 cs h20 (by omega) (fun w => absurd w (by omega)) (fun _ => rfl) n41, fun z2 => h152 z2⟩
  have h41 := (show (41 : Int32).toInt = 41 from rfl)
  show wm_isSign 41 M _
  rw [← h41]
  refine s_isSign a1 (by decide) (fun e => ⟨inr_z (by omega) (by omega), fun z => absurd z (by omega), fun _ => ⟨fun z => h133 (fun w => ?_), fun z => ?_⟩⟩) (fun e => ⟨inr_z (by omega) (by omega), fun _ => h133 (fun w => e (Int32.toInt_inj.mp w.1)), fun z => absurd rfl z⟩)
  · have := w.2; omega
  have e41 : (kd T i).toInt = 41 := by rw [e]; rfl
  have hil : i < T.length := kd_lt (by omega)
  refine s_reduce ⟨by omega, by omega⟩ hx (fun M2 c2' h2 => ?_)
  have hpk := popr_keep 1 π
  obtain ⟨ρ, hρ⟩ : ∃ ρ, popr 1 π = 40 :: ρ := by
    rcases popr_one π c3 hh with w | w
    · have := hpk.2.1
      rw [w] at this
      have : lv π = 0 := this.symm
      omega
    · exact w
  rw [hρ] at h2 hpk
  have h2' := h2
  obtain ⟨⟨A1, A2, A3, A4⟩, ⟨B1, B2, B3, B4, B5⟩, ⟨C1, C2, C3, C4, C5, C6, C7⟩, ⟨D1, D2, D3, D4⟩, F, FB⟩ := h2
  simp only [Bool.false_eq_true, if_false, if_true, Nat.add_zero, List.length_cons] at D1 D2 C1
  intro M3 e3 M4 e4 M5 e5
  have hfl : (fil ρ).length ≤ 8 := Nat.le_trans (fil_le 40 ρ) D4
  have n33 : gi M3 353 33 = (lv ρ : Int) + 1 := by rw [e3, gi_of (by omega), C5, (fil_p ρ).2.1]; omega
  have n31 : gi M4 353 31 = ((fil ρ).length : Int) + 1 := by rw [e4, gi_of (by omega), e3, gi_of (by omega), C4, (fil_p ρ).1]; simp
  have hlr := lv_le ρ
  have g5 : ∀ a k, ¬ (a = 353 ∧ (k = 30 ∨ k = 31 ∨ k = 33)) → gi M5 a k = gi M2 a k := fun a k z1 => by rw [e5, gi_of (by omega), e4, gi_of (by omega), e3, gi_of (by omega)]
  have hm5 : mtk M5 T i := A1.eq (fun a k z => g5 a k (by omega))
  have hx5 : xq T r s0 lim E M0 M5 true i u c2' false ρ cs.tail := by
    refine ⟨⟨hm5, (g5 _ _ (by omega)).trans A2, A3, fun a k z => ?_⟩, ⟨(g5 _ _ (by omega)).trans B1, B2, (g5 _ _ (by omega)).trans B3, B4, B5⟩, ⟨?_, C2.2.eq (fun k _ => g5 _ _ (by omega)), C3.2.2, ?_, ?_, ?_, ?_⟩, ⟨?_, ?_, D3, hfl⟩, fun hg => ⟨(g5 _ _ (by omega)).trans (F hg).1, ?_⟩, fun z => absurd z (by decide)⟩
    · unfold exw at z
      exact (g5 a k (by omega)).trans (A4 a k (by unfold exw; omega))
    · rw [e5, gi_of (by omega), e4, gi_of (by omega), e3, C1, gi_at (inr_z (by omega) (by omega))]; omega
    · rw [e5, n31, gi_at (inr_z (by omega) (by omega))]; omega
    · rw [e5, gi_of (by omega), e4, n33, gi_at (inr_z (by omega) (by omega))]; omega
    · cases cs with
      | nil => trivial
      | cons x t => exact C6.2.eq (fun k _ => g5 _ _ (by omega))
    · rw [(fil_p ρ).2.1] at C7
      rw [List.length_tail]; omega
    · simp only [Bool.false_eq_true, if_false, if_true]; omega
    · simp only [Bool.false_eq_true, if_false, if_true]; omega
    · rw [wd_congr (A := gi M2 368) (B := gi M2 369) _ (fun t ht => ⟨g5 _ _ (by omega), g5 _ _ (by omega)⟩)]
      exact (F hg).2
  refine s_next' hm5 hil (fun M6 x6 hm6 => ?_)
  refine s_operand (hx5.nx x6 hm6) (fun M7 c7' h7 => ?_)
  have hdm := dm_keep C3.2.2
  refine ⟨m, by omega, hv1, rfl, i + 1, u, c7', false, dm ρ, cs.tail, Or.inl ⟨h7, rfl, q, fun _ => hdm.2.2.2.1, step ?_⟩⟩
  unfold x_step
  dsimp only
  rw [if_neg (by decide), if_pos ⟨e41, by rw [lv_fil]; omega⟩, hdm.1, ← hpk.1, (fil_p ρ).1]
  rfl
theorem s_exp {m : Nat} {v1 : Int} (hv1 : v1 = if ir = true then 1 else 0) (hlim : lim = if ir = true then 16 else 26) (hm : mtk M T i) (hr : gi M 353 28 = (r : Int)) (hr12 : r < 12) (hu : gi M 356 r = (u : Int)) (hu60 : u ≤ 60) (hc : gi M 359 r = (c : Int)) (hcE : c ≤ 2 * u + E) (hE : E ≤ 39) (hb : gi M 353 9 = 0) (hev : x_ev T ir m (i, u, true, [], [false]) = some H)
    (kg : H.2.2 = true → ∀ M' c1, exg T r (200 * r + c) lim E M M' H.1 H.2.1 c1 → K ((200 * r + c : Nat) : Int) M') (kb : H.2.2 = false → ∀ M', exb T r (200 * r + c) M M' → K ((200 * r + c : Nat) : Int) M') : wm_exp v1 M K := by
  show w_exp v1 M K
  unfold w_exp
  have er : (gi M 353 28).toNat = r := by rw [hr]; omega
  rw [er, hr, hc]
  refine ⟨⟨by omega, by omega⟩, fun M1 e1 M2 e2 M3 e3 => ⟨⟨by omega, by omega⟩, fun M4 e4 => ?_⟩⟩
  rw [show (200 * (r : Int) + (c : Int)) = ((200 * r + c : Nat) : Int) by omega]
  refine s_exp_46 (T := T) (r := r) (E := E) (M0 := M) (lim := lim) (ir := ir) (H := H) (m := m) hlim ⟨hv1, rfl, i, u, c, true, [], [false], Or.inl ⟨?_, rfl, rfl, fun z => absurd z (by decide), hev⟩⟩ kg kb
  have g4 : ∀ a k, ¬ (a = 353 ∧ (k = 30 ∨ k = 31 ∨ k = 33)) → ¬ (a = 372 ∧ k = 0) → gi M4 a k = gi M a k := fun a k z1 z2 => by rw [e4, gi_of (by omega), e3, gi_of (by omega), e2, gi_of (by omega), e1, gi_of (by omega)]
  refine ⟨⟨hm.eq (fun a k z => g4 a k (by omega) (by omega)), (g4 _ _ (by omega) (by omega)).trans hr, hr12, fun a k z => ?_⟩, ⟨(g4 _ _ (by omega) (by omega)).trans hu, hu60, (g4 _ _ (by omega) (by omega)).trans hc, Nat.le_refl _, by omega⟩, ⟨?_, trivial, trivial, ?_, ?_, ⟨?_, trivial⟩, rfl⟩, ⟨by simp; omega, by simp, hE, by simp [fil]⟩, fun _ => ⟨(g4 _ _ (by omega) (by omega)).trans hb, ?_⟩, fun z => absurd z (by decide)⟩
  · unfold exw at z
    exact g4 a k (by omega) (by omega)
  · rw [e4, gi_of (by omega), e3, gi_of (by omega), e2, gi_of (by omega), e1, gi_at (inr_z (by omega) (by omega))]; rfl
  · rw [e4, gi_of (by omega), e3, gi_of (by omega), e2, gi_at (inr_z (by omega) (by omega))]; rfl
  · rw [e4, gi_of (by omega), e3, gi_at (inr_z (by omega) (by omega))]; rfl
  · show gi M4 372 0 = _
    rw [e4, gi_at (inr_ti _)]; rfl
  · rw [Nat.sub_self]; rfl
end XD
