/-! THE REFERENCE'S PARSER: statements -/
def zlk (z : Int) (P : Nat → Prop) : Prop := z = -1 ∨ ∃ x : Nat, z = (x : Int) ∧ P x
theorem zlk.imp {z : Int} {P Q : Nat → Prop} (h : zlk z P) (i : ∀ x, P x → Q x) : zlk z Q := Or.imp id (fun ⟨x, h1, h2⟩ => ⟨x, h1, i x h2⟩) h
def kk8 (z : Int) : Prop := z = 0 ∨ z = 2 ∨ z = 3 ∨ z = 4 ∨ z = 5 ∨ z = 7 ∨ z = 9 ∨ z = 20
/-- e is the beginning of code of text r that ends before its c-th piece -/
def cod (M : rf_M) (r c : Nat) (lim : Int) (e : Nat) : Prop := ∃ k, 200 * r ≤ e ∧ e + k < 200 * r + c ∧ wd (gi M 368) (gi M 369) lim e k = some 1 ∧ gi M 368 (e + k) = 4
/-- statement s of text r, of n, without its exp -/
def zs1 (M : rf_M) (r n s : Nat) : Prop := zlk (gi M 362 s) (fun p => 40 * r ≤ p ∧ p < s) ∧ (gi M 363 s = 0 ∨ gi M 363 s = 1) ∧ zlk (gi M 361 s) (fun x => s < x ∧ x < 40 * r + n ∧ gi M 362 x = gi M 362 s ∧ gi M 363 x = gi M 363 s) ∧ zlk (gi M 365 s) (fun x => s < x ∧ x < 40 * r + n ∧ gi M 362 x = (s : Int) ∧ gi M 363 x = 0) ∧ zlk (gi M 366 s) (fun x => s < x ∧ x < 40 * r + n ∧ gi M 362 x = (s : Int) ∧ gi M 363 x = 1)
/-- its kind, letter and exp -/
def zs2 (M : rf_M) (r c s : Nat) : Prop := kk8 (gi M 360 s) ∧ (gi M 360 s = 20 → 0 ≤ gi M 367 s ∧ gi M 367 s ≤ 25) ∧ (¬ gi M 360 s = 9 → zlk (gi M 364 s) (fun e => cod M r c 26 e)) ∧ (gi M 360 s = 9 → ∃ e : Nat, gi M 364 s = (e : Int) ∧ cod M r c 16 e)
def lastk (M : rf_M) (r n j : Nat) : Prop := zlk (gi M 375 j) (fun x => 40 * r ≤ x ∧ x < 40 * r + n ∧ gi M 362 x = gi M 373 j ∧ gi M 363 x = gi M 374 j)
/-- the bodies that have begun, the innermost first: whose, which -/
def stk (M : rf_M) (r n : Nat) : List (Int × Int) → Prop
  | [] => gi M 373 0 = -1 ∧ gi M 374 0 = 0 ∧ lastk M r n 0
  | e :: ks => (∃ o : Nat, gi M 373 (ks.length + 1) = (o : Int) ∧ 40 * r ≤ o ∧ o < 40 * r + n ∧ gi M 360 o = e.1 - 10) ∧ (e.1 = 10 ∨ e.1 = 12 ∨ e.1 = 15 ∨ e.1 = 17) ∧ gi M 374 (ks.length + 1) = e.2 ∧ (e.2 = 0 ∨ e.2 = 1) ∧ lastk M r n (ks.length + 1) ∧ stk M r n ks
/-- a try's letter, or its first body has begun -/
def trl (M : rf_M) (w s : Nat) : Prop := gi M 360 s = 7 → (16 ≤ gi M 367 s ∧ gi M 367 s ≤ 25) ∨ ∃ j, 1 ≤ j ∧ j ≤ w ∧ gi M 373 j = (s : Int) ∧ gi M 374 j = 0
def fst_ (M : rf_M) (r n : Nat) : Prop := zlk (gi M 358 r) (fun x => 40 * r ≤ x ∧ x < 40 * r + n ∧ gi M 362 x = -1)
theorem cod.eq {M M' : rf_M} {r c c' e : Nat} {lim : Int} (h : cod M r c lim e) (hc : c ≤ c') (q : ∀ k, k < 200 * r + c → gi M' 368 k = gi M 368 k ∧ gi M' 369 k = gi M 369 k) : cod M' r c' lim e := by
  obtain ⟨k, h1, h2, h3, h4⟩ := h
  refine ⟨k, h1, by omega, ?_, by rw [(q _ h2).1]; exact h4⟩
  rw [wd_congr (A := gi M 368) (B := gi M 369) _ (fun t ht => q _ (by omega))]
  exact h3
theorem zs1.eq {M M' : rf_M} {r n n' s : Nat} (h : zs1 M r n s) (hn : n ≤ n') (hs : s < 40 * r + n) (q : ∀ k, k < 40 * r + n → ∀ a, (a = 361 ∨ a = 362 ∨ a = 363 ∨ a = 365 ∨ a = 366) → gi M' a k = gi M a k) : zs1 M' r n' s := by
  obtain ⟨h1, h2, h3, h4, h5⟩ := h
  unfold zs1
  rw [q s hs 361 (by omega), q s hs 362 (by omega), q s hs 363 (by omega), q s hs 365 (by omega), q s hs 366 (by omega)]
  refine ⟨h1, h2, h3.imp (fun x z => ?_), h4.imp (fun x z => ?_), h5.imp (fun x z => ?_)⟩
  all_goals (rw [q x z.2.1 362 (by omega), q x z.2.1 363 (by omega)]; exact ⟨z.1, by omega, z.2.2⟩)
theorem zs2.eq {M M' : rf_M} {r c c' s : Nat} (h : zs2 M r c s) (hc : c ≤ c') (q : ∀ a, (a = 360 ∨ a = 364 ∨ a = 367) → gi M' a s = gi M a s) (q2 : ∀ k, k < 200 * r + c → gi M' 368 k = gi M 368 k ∧ gi M' 369 k = gi M 369 k) : zs2 M' r c' s := by
  obtain ⟨h1, h2, h3, h4⟩ := h
  unfold zs2
  rw [q 360 (by omega), q 364 (by omega), q 367 (by omega)]
  exact ⟨h1, h2, fun z => (h3 z).imp (fun e w => w.eq hc q2), fun z => by obtain ⟨e, e1, e2⟩ := h4 z; exact ⟨e, e1, e2.eq hc q2⟩⟩
theorem lastk.eq {M M' : rf_M} {r n n' j : Nat} (h : lastk M r n j) (hn : n ≤ n') (q : ∀ k, k < 40 * r + n → gi M' 362 k = gi M 362 k ∧ gi M' 363 k = gi M 363 k) (q2 : ∀ a, (a = 373 ∨ a = 374 ∨ a = 375) → gi M' a j = gi M a j) : lastk M' r n' j := by
  unfold lastk
  rw [q2 373 (by omega), q2 374 (by omega), q2 375 (by omega)]
  exact h.imp (fun x z => by rw [(q x z.2.1).1, (q x z.2.1).2]; exact ⟨z.1, by omega, z.2.2⟩)
theorem stk.eq {M M' : rf_M} {r n n' : Nat} (hn : n ≤ n') (q : ∀ k, k < 40 * r + n → gi M' 360 k = gi M 360 k ∧ gi M' 362 k = gi M 362 k ∧ gi M' 363 k = gi M 363 k) : ∀ {ks : List (Int × Int)}, stk M r n ks → (∀ j, j ≤ ks.length → ∀ a, (a = 373 ∨ a = 374 ∨ a = 375) → gi M' a j = gi M a j) → stk M' r n' ks
  | [], h, q2 => ⟨(q2 0 (Nat.le_refl _) 373 (by omega)).trans h.1, (q2 0 (Nat.le_refl _) 374 (by omega)).trans h.2.1, h.2.2.eq hn (fun k hk => (q k hk).2) (q2 0 (Nat.le_refl _))⟩
  | e :: ks, h, q2 => by
    obtain ⟨⟨o, o1, o2, o3, o4⟩, h2, h3, h4, h5, h6⟩ := h
    refine ⟨⟨o, (q2 (ks.length + 1) (by simp) 373 (by omega)).trans o1, o2, by omega, (q o o3).1.trans o4⟩, h2, (q2 (ks.length + 1) (by simp) 374 (by omega)).trans h3, h4, h5.eq hn (fun k hk => (q k hk).2) (q2 _ (by simp)), stk.eq hn q h6 (fun j hj => q2 j (by simp; omega))⟩
/-- what newStatement() writes -/
def nsw (r w : Nat) (a k : Nat) : Prop := (a = 355 ∧ k = r) ∨ (a = 358 ∧ k = r) ∨ (361 ≤ a ∧ a ≤ 367 ∧ 40 * r ≤ k ∧ k < 40 * r + 40) ∨ (a = 375 ∧ k = w)
/-- what reading a text writes -/
def tew (r : Nat) (a k : Nat) : Prop := (a = 353 ∧ ((3 ≤ k ∧ k ≤ 10) ∨ k = 30 ∨ k = 31 ∨ k = 33 ∨ k = 37)) ∨ (355 ≤ a ∧ a ≤ 359 ∧ k = r) ∨ (360 ≤ a ∧ a ≤ 367 ∧ 40 * r ≤ k ∧ k < 40 * r + 40) ∨ ((a = 368 ∨ a = 369) ∧ 200 * r ≤ k ∧ k < 200 * r + 200) ∨ (371 ≤ a ∧ a ≤ 375)
section YA
variable {M M' M0 : rf_M} {T : tK} {i r n : Nat} {ks : List (Int × Int)}
theorem stk.top (h : stk M r n ks) : (gi M 373 ks.length = -1 ∧ gi M 374 ks.length = 0 ∨ (∃ o : Nat, gi M 373 ks.length = (o : Int) ∧ 40 * r ≤ o ∧ o < 40 * r + n) ∧ (gi M 374 ks.length = 0 ∨ gi M 374 ks.length = 1)) ∧ lastk M r n ks.length := by
  cases ks with
  | nil => exact ⟨Or.inl ⟨h.1, h.2.1⟩, h.2.2⟩
  | cons e ks =>
    obtain ⟨⟨o, o1, o2, o3, o4⟩, h2, h3, h4, h5, h6⟩ := h
    exact ⟨Or.inr ⟨⟨o, o1, o2, o3⟩, by rw [show (e :: ks).length = ks.length + 1 from rfl, h3]; exact h4⟩, h5⟩
/-- the stack behind a new statement: only its own last one changes -/
theorem stk.last {s : Nat} (h : stk M r n ks) (hs : s = 40 * r + n) (q : ∀ k, k < 40 * r + n → gi M' 360 k = gi M 360 k ∧ gi M' 362 k = gi M 362 k ∧ gi M' 363 k = gi M 363 k) (q2 : ∀ j a, (a = 373 ∨ a = 374 ∨ (a = 375 ∧ j ≠ ks.length)) → gi M' a j = gi M a j) (q3 : gi M' 375 ks.length = (s : Int)) (p1 : gi M' 362 s = gi M 373 ks.length) (p2 : gi M' 363 s = gi M 374 ks.length) : stk M' r (n + 1) ks := by
  have hl : ∀ j, j = ks.length → lastk M' r (n + 1) j := by
    rintro j rfl
    refine Or.inr ⟨s, q3, by omega, by omega, ?_, ?_⟩
    · rw [p1, q2 _ 373 (by omega)]
    · rw [p2, q2 _ 374 (by omega)]
  cases ks with
  | nil => exact ⟨(q2 0 373 (by omega)).trans h.1, (q2 0 374 (by omega)).trans h.2.1, hl 0 rfl⟩
  | cons e ks =>
    obtain ⟨⟨o, o1, o2, o3, o4⟩, h2, h3, h4, h5, h6⟩ := h
    refine ⟨⟨o, (q2 _ 373 (by omega)).trans o1, o2, by omega, (q o o3).1.trans o4⟩, h2, (q2 _ 374 (by omega)).trans h3, h4, hl _ rfl, h6.eq (by omega) q (fun j hj a ha => q2 j a ?_)⟩
    rcases ha with z | z | z
    · exact Or.inl z
    · exact Or.inr (Or.inl z)
    · exact Or.inr (Or.inr ⟨z, by simp; omega⟩)
theorem s_newStatement {K : Int → rf_M → Prop} (hr : gi M 353 28 = (r : Int)) (hr12 : r < 12) (hn : gi M 355 r = (n : Int)) (hn40 : n < 40) (hw : gi M 353 37 = (ks.length : Int)) (hw8 : ks.length ≤ 8) (hst : stk M r n ks) (htr : ∀ s, 40 * r ≤ s → s < 40 * r + n → zs1 M r n s) (hf : fst_ M r n)
    (kk : ∀ M', eqx (nsw r ks.length) M M' → gi M' 355 r = (n : Int) + 1 → (∀ s, 40 * r ≤ s → s < 40 * r + (n + 1) → zs1 M' r (n + 1) s) → fst_ M' r (n + 1) → (∀ M'' : rf_M, (∀ a k, ((a = 360 ∨ a = 362 ∨ a = 363) ∧ k < 40 * r + n) ∨ ((a = 362 ∨ a = 363) ∧ k = 40 * r + n) ∨ a = 373 ∨ a = 374 ∨ a = 375 → gi M'' a k = gi M' a k) → stk M'' r (n + 1) ks) → (∀ s, s < 40 * r + n → gi M' 364 s = gi M 364 s ∧ gi M' 367 s = gi M 367 s) → gi M' 364 (40 * r + n) = -1 → K ((40 * r + n : Nat) : Int) M') : wm_newStatement M K := by
  show w_newStatement M K
  unfold w_newStatement
  have er : (gi M 353 28).toNat = r := by rw [hr]; omega
  rw [er, hr, hn]
  have es : (40 * (r : Int) + (n : Int)) = ((40 * r + n : Nat) : Int) := by omega
  rw [es]
  generalize hs : 40 * r + n = s
  have ets : ((s : Nat) : Int).toNat = s := by omega
  rw [ets]
  refine ⟨⟨by omega, by omega⟩, ⟨by omega, by omega⟩, ⟨by omega, by omega⟩, fun M1 e1 => ⟨⟨by omega, by omega⟩, fun M2 e2 => ?_⟩⟩
  have w2 : gi M2 353 37 = (ks.length : Int) := by rw [e2, gi_of (by omega), e1, gi_of (by omega)]; exact hw
  refine ⟨⟨by omega, by omega⟩, ⟨by omega, by omega⟩, fun M3 e3 => ?_⟩
  have w3 : gi M3 353 37 = (ks.length : Int) := by rw [e3, gi_of (by omega)]; exact w2
  refine ⟨⟨by omega, by omega⟩, ⟨by omega, by omega⟩, fun M4 e4 => ⟨⟨by omega, by omega⟩, fun M5 e5 => ⟨⟨by omega, by omega⟩, fun M6 e6 => ⟨⟨by omega, by omega⟩, fun M7 e7 => ⟨⟨by omega, by omega⟩, fun M8 e8 => ?_⟩⟩⟩⟩⟩
  have tn : ((ks.length : Int)).toNat = ks.length := by omega
  rw [w2, tn] at e3
  rw [w3, tn] at e4
  have v3 : gi M2 373 ks.length = gi M 373 ks.length := by rw [e2, gi_of (by omega), e1, gi_of (by omega)]
  have v4 : gi M3 374 ks.length = gi M 374 ks.length := by rw [e3, gi_of (by omega), e2, gi_of (by omega), e1, gi_of (by omega)]
  rw [v3] at e3
  rw [v4] at e4
  have g8 : ∀ a k, ¬ (a = 355 ∧ k = r) → ¬ (361 ≤ a ∧ a ≤ 367 ∧ k = s) → gi M8 a k = gi M a k := fun a k z1 z2 => by
    rw [e8, gi_of (by omega), e7, gi_of (by omega), e6, gi_of (by omega), e5, gi_of (by omega), e4, gi_of (by omega), e3, gi_of (by omega), e2, gi_of (by omega), e1, gi_of (by omega)]
  have f355 : gi M8 355 r = (n : Int) + 1 := by rw [e8, gi_of (by omega), e7, gi_of (by omega), e6, gi_of (by omega), e5, gi_of (by omega), e4, gi_of (by omega), e3, gi_of (by omega), e2, gi_of (by omega), e1, gi_at (inr_z (by omega) (by omega))]
  have f361 : gi M8 361 s = -1 := by rw [e8, gi_of (by omega), e7, gi_of (by omega), e6, gi_of (by omega), e5, gi_of (by omega), e4, gi_of (by omega), e3, gi_of (by omega), e2, gi_at (inr_z (by omega) (by omega))]
  have f362 : gi M8 362 s = gi M 373 ks.length := by rw [e8, gi_of (by omega), e7, gi_of (by omega), e6, gi_of (by omega), e5, gi_of (by omega), e4, gi_of (by omega), e3, gi_at (inr_gi _ _ _)]
  have f363 : gi M8 363 s = gi M 374 ks.length := by rw [e8, gi_of (by omega), e7, gi_of (by omega), e6, gi_of (by omega), e5, gi_of (by omega), e4, gi_at (inr_gi _ _ _)]
  have f364 : gi M8 364 s = -1 := by rw [e8, gi_of (by omega), e7, gi_of (by omega), e6, gi_of (by omega), e5, gi_at (inr_z (by omega) (by omega))]
  have f365 : gi M8 365 s = -1 := by rw [e8, gi_of (by omega), e7, gi_of (by omega), e6, gi_at (inr_z (by omega) (by omega))]
  have f366 : gi M8 366 s = -1 := by rw [e8, gi_of (by omega), e7, gi_at (inr_z (by omega) (by omega))]
  have w8 : gi M8 353 37 = (ks.length : Int) := (g8 _ _ (by omega) (by omega)).trans hw
  obtain ⟨ht1, ht2⟩ := hst.top
  have v373 : gi M8 373 ks.length = gi M 373 ks.length := g8 _ _ (by omega) (by omega)
  have v374 : gi M8 374 ks.length = gi M 374 ks.length := g8 _ _ (by omega) (by omega)
  have v375 : gi M8 375 ks.length = gi M 375 ks.length := g8 _ _ (by omega) (by omega)
  -- the new statement and the old ones in M8
  have h363 : gi M8 363 s = 0 ∨ gi M8 363 s = 1 := by
    rw [f363]
    rcases ht1 with z | z
    · exact Or.inl z.2
    · exact z.2
  have h362 : zlk (gi M8 362 s) (fun p => 40 * r ≤ p ∧ p < s) := by
    rw [f362]
    rcases ht1 with z | ⟨⟨o, o1, o2, o3⟩, -⟩
    · exact Or.inl z.1
    · exact Or.inr ⟨o, o1, o2, by omega⟩
  have new8 : zs1 M8 r (n + 1) s := ⟨h362, h363, Or.inl f361, Or.inl f365, Or.inl f366⟩
  have old8 : ∀ x, 40 * r ≤ x → x < 40 * r + n → zs1 M8 r (n + 1) x := fun x x1 x2 => (htr x x1 x2).eq (by omega) x2 (fun k hk a ha => g8 a k (by omega) (by omega))
  -- one link more, and the last one
  have fin : ∀ (M9 : rf_M) (b y : Nat), M9 = wi M8 b y (s : Int) → ((b = 358 ∧ y = r) ∨ ((b = 361 ∨ b = 365 ∨ b = 366) ∧ 40 * r ≤ y ∧ y < 40 * r + n)) → (b = 358 → gi M8 362 s = -1) → (b = 361 → gi M8 362 s = gi M8 362 y ∧ gi M8 363 s = gi M8 363 y) → (b = 365 → gi M8 362 s = (y : Int) ∧ gi M8 363 s = 0) → (b = 366 → gi M8 362 s = (y : Int) ∧ gi M8 363 s = 1) → w_newStatement_176 (s : Int) M9 K := by
    intro M9 b y e9 hb c1 c2 c3 c4
    have w9 : gi M9 353 37 = (ks.length : Int) := by rw [e9, gi_of (by omega)]; exact w8
    refine ⟨⟨by omega, by omega⟩, fun MA eA => ?_⟩
    rw [w9, tn] at eA
    have gA : ∀ a k, ¬ (a = b ∧ k = y) → ¬ (a = 375 ∧ k = ks.length) → gi MA a k = gi M8 a k := fun a k z1 z2 => by rw [eA, gi_of (by omega), e9, gi_of (by omega)]
    have fb : gi MA b y = (s : Int) := by rw [eA, gi_of (by omega), e9, gi_at (inr_z (by omega) (by omega))]
    have f375 : gi MA 375 ks.length = (s : Int) := by rw [eA, gi_at (inr_z (by omega) (by omega))]
    rw [← hs] at fb f375 f361 f362 f363 f364 f365 f366 new8 c1 c2 c3 c4 g8 ⊢
    clear hs
    refine kk MA (fun a k z => ?_) ?_ (fun x x1 x2 => ?_) ?_ (fun M'' hq => hst.last rfl ?_ ?_ ((hq _ _ (by omega)).trans f375) ?_ ?_) (fun x hx => ⟨?_, ?_⟩) ?_
    · unfold nsw at z
      exact (gA a k (by omega) (by omega)).trans (g8 a k (by omega) (by omega))
    · exact (gA 355 r (by omega) (by omega)).trans f355
    · -- the statements
      have base : zs1 M8 r (n + 1) x := by
        by_cases hx : x = 40 * r + n
        · rw [hx]; exact new8
        · exact old8 x x1 (by omega)
      obtain ⟨p1, p2, p3, p4, p5⟩ := base
      have q362 : ∀ k, gi MA 362 k = gi M8 362 k := fun k => gA 362 k (by omega) (by omega)
      have q363 : ∀ k, gi MA 363 k = gi M8 363 k := fun k => gA 363 k (by omega) (by omega)
      refine ⟨by rw [q362]; exact p1, by rw [q363]; exact p2, ?_, ?_, ?_⟩
      · by_cases z : b = 361 ∧ x = y
        · rw [← z.1, z.2, fb]
          refine Or.inr ⟨40 * r + n, rfl, by omega, by omega, ?_, ?_⟩
          · rw [q362, q362]; exact (c2 z.1).1
          · rw [q363, q363]; exact (c2 z.1).2
        · rw [gA 361 x (by omega) (by omega)]
          exact p3.imp (fun w hw => by rw [q362, q362, q363, q363]; exact hw)
      · by_cases z : b = 365 ∧ x = y
        · rw [← z.1, z.2, fb]
          refine Or.inr ⟨40 * r + n, rfl, by omega, by omega, ?_, ?_⟩
          · rw [q362]; exact (c3 z.1).1
          · rw [q363]; exact (c3 z.1).2
        · rw [gA 365 x (by omega) (by omega)]
          exact p4.imp (fun w hw => by rw [q362, q363]; exact hw)
      · by_cases z : b = 366 ∧ x = y
        · rw [← z.1, z.2, fb]
          refine Or.inr ⟨40 * r + n, rfl, by omega, by omega, ?_, ?_⟩
          · rw [q362]; exact (c4 z.1).1
          · rw [q363]; exact (c4 z.1).2
        · rw [gA 366 x (by omega) (by omega)]
          exact p5.imp (fun w hw => by rw [q362, q363]; exact hw)
    · by_cases z : b = 358
      · have : gi MA 358 r = ((40 * r + n : Nat) : Int) := by
          have hy : y = r := by omega
          rw [hy, z] at fb; exact fb
        refine Or.inr ⟨40 * r + n, this, by omega, by omega, ?_⟩
        rw [gA 362 _ (by omega) (by omega)]; exact c1 z
      · unfold fst_
        rw [gA 358 r (by omega) (by omega), g8 358 r (by omega) (by omega)]
        exact hf.imp (fun x hx => ⟨hx.1, by omega, by rw [gA 362 x (by omega) (by omega), g8 362 x (by omega) (by omega)]; exact hx.2.2⟩)
    · intro k hk
      exact ⟨(hq _ _ (by omega)).trans ((gA _ _ (by omega) (by omega)).trans (g8 _ _ (by omega) (by omega))), (hq _ _ (by omega)).trans ((gA _ _ (by omega) (by omega)).trans (g8 _ _ (by omega) (by omega))), (hq _ _ (by omega)).trans ((gA _ _ (by omega) (by omega)).trans (g8 _ _ (by omega) (by omega)))⟩
    · intro j a ha
      exact (hq _ _ (by omega)).trans ((gA _ _ (by omega) (by omega)).trans (g8 _ _ (by omega) (by omega)))
    · exact (hq _ _ (by omega)).trans ((gA _ _ (by omega) (by omega)).trans f362)
    · exact (hq _ _ (by omega)).trans ((gA _ _ (by omega) (by omega)).trans f363)
    · exact (gA _ _ (by omega) (by omega)).trans (g8 _ _ (by omega) (by omega))
    · exact (gA _ _ (by omega) (by omega)).trans (g8 _ _ (by omega) (by omega))
    · exact (gA _ _ (by omega) (by omega)).trans f364
  rw [w8, tn, v373, v374, v375]
  refine ⟨⟨by omega, by omega⟩, ⟨by omega, by omega⟩, fun z => ⟨fun z2 => ⟨⟨by omega, by omega⟩, fun z3 => ?_, fun z3 => ?_⟩, fun z2 => ?_⟩, fun z => ?_⟩
  · rcases ht1 with w | ⟨⟨o, o1, o2, o3⟩, -⟩
    · omega
    · rw [o1, show ((o : Nat) : Int).toNat = o by omega]
      refine ⟨⟨by omega, by omega⟩, fun M9 e9 => fin M9 365 o e9 (by omega) (by omega) (by omega) (fun _ => ⟨f362.trans o1, f363.trans z3⟩) (by omega)⟩
  · rcases ht1 with w | ⟨⟨o, o1, o2, o3⟩, w2⟩
    · omega
    · rw [o1, show ((o : Nat) : Int).toNat = o by omega]
      refine ⟨⟨by omega, by omega⟩, fun M9 e9 => fin M9 366 o e9 (by omega) (by omega) (by omega) (by omega) (fun _ => ⟨f362.trans o1, f363.trans (by omega)⟩)⟩
  · have r8 : gi M8 353 28 = (r : Int) := (g8 _ _ (by omega) (by omega)).trans hr
    rw [r8, show ((r : Nat) : Int).toNat = r by omega]
    refine ⟨⟨by omega, by omega⟩, fun M9 e9 => fin M9 358 r e9 (Or.inl ⟨rfl, rfl⟩) (fun _ => ?_) (by omega) (by omega) (by omega)⟩
    rcases ht1 with w | ⟨⟨o, o1, o2, o3⟩, w2⟩
    · exact f362.trans w.1
    · omega
  · rcases ht2 with w | ⟨x, x1, x2, x3, x4, x5⟩
    · omega
    · rw [x1, show ((x : Nat) : Int).toNat = x by omega]
      refine ⟨⟨by omega, by omega⟩, fun M9 e9 => fin M9 361 x e9 (by omega) (by omega) (fun _ => ⟨?_, ?_⟩) (by omega) (by omega)⟩
      · rw [f362, g8 362 x (by omega) (by omega), x4]
      · rw [f363, g8 363 x (by omega) (by omega), x5]
end YA
