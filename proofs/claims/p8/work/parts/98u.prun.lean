/-! FRAMES of ints and longs; small methods of the program's runs -/
def eqy (P : Nat → Nat → Prop) (M M' : rf_M) : Prop := (∀ a k, ¬ P a k → M'.1 a k = M.1 a k ∧ M'.2.1 a k = M.2.1 a k) ∧ M'.2.2 = M.2.2
section EQY
variable {P Q : Nat → Nat → Prop} {M M' M'' : rf_M} {a k : Nat}
theorem eqy.rfl' (M : rf_M) : eqy P M M := ⟨fun _ _ _ => ⟨rfl, rfl⟩, rfl⟩
theorem eqy.trans (h : eqy P M M') (h' : eqy P M' M'') : eqy P M M'' := ⟨fun a k q => ⟨(h'.1 a k q).1.trans (h.1 a k q).1, (h'.1 a k q).2.trans (h.1 a k q).2⟩, h'.2.trans h.2⟩
theorem eqy.mono (h : eqy P M M') (i : ∀ a k, P a k → Q a k) : eqy Q M M' := ⟨fun a k q => h.1 a k (fun w => q (i a k w)), h.2⟩
theorem ne_of_P {a' k' : Nat} (hp : P a k) (q : ¬ P a' k') : a' ≠ a ∨ k' ≠ k := by
  by_cases e : a' = a
  · exact Or.inr (fun e2 => q (by rw [e, e2]; exact hp))
  · exact Or.inl e
theorem eqy.wi {z : Int} (h : eqy P M M') (hp : P a k) : eqy P M (wi M' a k z) := ⟨fun a' k' q => ⟨(rf_wi_of M' _ (ne_of_P hp q)).trans (h.1 a' k' q).1, (h.1 a' k' q).2⟩, h.2⟩
theorem eqy.wl {x : Int64} (h : eqy P M M') (hp : P a k) : eqy P M (wl M' a k x) := ⟨fun a' k' q => ⟨(h.1 a' k' q).1, (gl_of (M := M') (ne_of_P hp q)).trans (h.1 a' k' q).2⟩, h.2⟩
theorem eqy.cpl {a2 sp dp n : Nat} (h : eqy P M M') (hp : ∀ k, P a k) : eqy P M (cpl M' a2 sp a dp n) := ⟨fun a' k' q => ⟨(h.1 a' k' q).1, by
  have ne : a' ≠ a := fun e => q (by rw [e]; exact hp k')
  show va_up M'.2.1 a _ a' k' = _
  rw [va_up_of ne]
  exact (h.1 a' k' q).2⟩, h.2⟩
theorem eqy.cpi {a2 sp dp n : Nat} (h : eqy P M M') (hp : ∀ k, P a k) : eqy P M (cpi M' a2 sp a dp n) := ⟨fun a' k' q => ⟨by
  have ne : a' ≠ a := fun e => q (by rw [e]; exact hp k')
  show va_up M'.1 a _ a' k' = _
  rw [va_up_of ne]
  exact (h.1 a' k' q).1, (h.1 a' k' q).2⟩, h.2⟩
theorem eqy.i (h : eqy P M M') (q : ¬ P a k) : gi M' a k = gi M a k := congrArg Int32.toInt (h.1 a k q).1
theorem eqy.l (h : eqy P M M') (q : ¬ P a k) : gl M' a k = gl M a k := (h.1 a k q).2
theorem gl_cpl {a2 sp dp n j : Nat} (h : j < n) : gl (cpl M a2 sp a dp n) a (dp + j) = gl M a2 (sp + j) := by
  show va_up M.2.1 a _ a (dp + j) = _
  rw [va_up_at, pk_cpy_in (by omega) (by omega), Nat.add_sub_cancel_left]
  rfl
theorem gl_cplo {a2 sp dp n j : Nat} (h : j < dp ∨ dp + n ≤ j) : gl (cpl M a2 sp a dp n) a j = gl M a j := by
  show va_up M.2.1 a _ a j = _
  rw [va_up_at, pk_cpy_out h]
  rfl
theorem gl_cpln {a2 sp dp n a' j : Nat} (h : a' ≠ a) : gl (cpl M a2 sp a dp n) a' j = gl M a' j := by
  show va_up M.2.1 a _ a' j = _
  rw [va_up_of h]
  rfl
theorem gi_cpl (a2 sp dp n a' j : Nat) : gi (cpl M a2 sp a dp n) a' j = gi M a' j := rfl
theorem gi_cpi {a2 sp dp n j : Nat} (h : j < n) : gi (cpi M a2 sp a dp n) a (dp + j) = gi M a2 (sp + j) := by
  show (va_up M.1 a _ a (dp + j)).toInt = _
  rw [va_up_at, pk_cpy_in (by omega) (by omega), Nat.add_sub_cancel_left]
  rfl
theorem gl_cpi (a2 sp dp n a' j : Nat) : gl (cpi M a2 sp a dp n) a' j = gl M a' j := rfl
end EQY
theorem lgc0 (x y : Int64) : (lg_cmp x y).toInt = 0 ↔ x = y := by
  unfold lg_cmp
  split
  · rename_i h
    exact ⟨fun q => absurd q (by decide), fun q => absurd (q ▸ h) Int64.lt_irrefl⟩
  · split
    · rename_i h; exact ⟨fun _ => h, fun _ => rfl⟩
    · rename_i h; exact ⟨fun q => absurd q (by decide), fun q => absurd q h⟩
theorem lgcn (x y : Int64) : 0 ≤ (lg_cmp x y).toInt ↔ ¬ x < y := by
  unfold lg_cmp
  split
  · rename_i h
    exact ⟨fun _ q => Int64.lt_asymm h q, fun _ => by decide⟩
  · rename_i h0
    split
    · rename_i h; exact ⟨fun _ q => absurd (h ▸ q) Int64.lt_irrefl, fun _ => by decide⟩
    · rename_i h
      refine ⟨fun q => absurd q (by decide), fun q => ?_⟩
      rw [Int64.lt_iff_toInt_lt] at q
      have h0 : ¬ y < x := h0
      rw [Int64.lt_iff_toInt_lt] at h0
      exact absurd (Int64.toInt_inj.mp (by omega)) h
theorem lgz (x : Int64) : (lg_cmp x (Int64.ofNat 0)).toInt = 0 ↔ x = 0 := lgc0 x 0
theorem dv1 (a : Int64) : a / (-1) = -a := Int64.toInt_inj.mp (by
  rw [Int64.toInt_div]
  show (a.toInt.tdiv (-1)).bmod _ = _
  rw [Int.tdiv_neg, Int.tdiv_one, Int64.toInt_neg])
theorem md1 (a : Int64) : a - a / (-1) * (-1) = 0 := by
  rw [dv1, Int64.neg_mul_neg, Int64.mul_one, Int64.sub_self]
theorem m1_lit : Int64.ofNat 18446744073709551615 = -1 := by decide
theorem tst_u (x : Int) {l : Nat} (hl : l < 16) : (Int32.ofInt ((Int32.ofInt x).toUInt32 >>> ((Int32.ofInt (l : Int)).toUInt32 &&& Int32.toUInt32 31)).toInt32.toInt &&& Int32.ofInt 1).toInt = if bt (Int32.ofInt x) l = true then 1 else 0 := by
  rw [i32_1, ofi_ti, bt_ushr _ hl]
theorem tst_s (x : Int) {l : Nat} (hl : l < 16) : (Int32.ofInt (Int32.ofInt x >>> (Int32.ofInt (l : Int) &&& 31)).toInt &&& Int32.ofInt 1).toInt = if bt (Int32.ofInt x) l = true then 1 else 0 := by
  rw [i32_1, ofi_ti, bt_shr _ hl]
theorem bs_lit (x : Int) {l : Nat} (hl : l < 16) : Int32.ofInt (Int32.ofInt x ||| Int32.ofInt (Int32.ofInt 1 <<< (Int32.ofInt (l : Int) &&& 31)).toInt).toInt = bs (Int32.ofInt x) l := by
  rw [ofi_ti, ofi_ti, or_lit l hl]
  rfl
/-- two worlds, the same as far as it shows -/
def weq (w w' : wdT) : Prop := ∀ l, l < 16 → w'.1 l = w.1 l ∧ w'.2 l = w.2 l
theorem weq.rfl' (w : wdT) : weq w w := fun _ _ => ⟨rfl, rfl⟩
theorem stale_eq {w w' : wdT} {r r' : rdT} (hw : ∀ l, l < 16 → w'.2 l = w.2 l) (hm : r'.1 = r.1) (hr : ∀ l, l < 16 → bt r.1 l = true → r'.2.2 l = r.2.2 l) : stale w' r' = stale w r := by
  have e : ∀ l, l < 16 → (bt r'.1 l && !(decide (r'.2.2 l = w'.2 l))) = (bt r.1 l && !(decide (r.2.2 l = w.2 l))) := fun l hl => by
    rw [hm]
    cases hb : bt r.1 l with
    | false => rfl
    | true => rw [hr l hl hb, hw l hl]
  cases h : stale w r with
  | true =>
    unfold stale at h ⊢
    rw [List.any_eq_true] at h ⊢
    obtain ⟨l, hl, q⟩ := h
    exact ⟨l, hl, by rw [e l (List.mem_range.mp hl)]; exact q⟩
  | false =>
    unfold stale at h ⊢
    rw [List.any_eq_false] at h ⊢
    intro l hl
    rw [e l (List.mem_range.mp hl)]
    exact h l hl
/-- the program's run at a: what is read, what it has made, its marks; a store's world -/
def rP (M : rf_M) (a : Nat) : rdT := (M.1 a 2, fun l => gl M (a + 10) l, fun l => M.1 (a + 1) l)
def mP (M : rf_M) (a : Nat) : mkT := (M.1 (a + 2) 0, fun l => gl M (a + 3) l, fun l => gl M (a + 4) l, gi M (a + 2) 3)
def kP (M : rf_M) (a lv : Nat) : mkT := (M.1 (a + 6) lv, fun l => gl M (a + 7) (lv * 16 + l), fun l => gl M (a + 8) (lv * 10 + l), gi M (a + 9) lv)
def wS (M : rf_M) (st : Nat) : wdT := (fun l => gl M (st + 1) l, fun l => M.1 (st + 2) l)
/-- the program's text at p -/
def ptx (M : rf_M) (p : Nat) (X : txT) (n cc : Nat) (en : Int) : Prop := (gi M p 0 = (n : Int) ∧ gi M p 3 = (cc : Int) ∧ gi M p 4 = en) ∧ (∀ s, s < n → gi M (p + 1) s = X.1 0 s ∧ gi M (p + 2) s = X.1 1 s ∧ gi M (p + 3) s = X.1 2 s ∧ gi M (p + 4) s = X.1 3 s ∧ gi M (p + 5) s = X.1 4 s ∧ gi M (p + 6) s = X.1 5 s ∧ gi M (p + 7) s = X.1 6 s ∧ gi M (p + 8) s = X.1 7 s ∧ gi M (p + 9) s = X.1 8 s) ∧ ∀ i, i < cc → gi M (p + 10) i = X.2.1 i ∧ gi M (p + 11) i = X.2.2 i
section PR1
variable {M M' : rf_M} {p a n cc : Nat} {X : txT} {en : Int} {K : Int → rf_M → Prop}
theorem ptx.eq {P : Nat → Nat → Prop} (h : ptx M p X n cc en) (e : eqy P M M') (q : ∀ b k, p ≤ b → b ≤ p + 11 → ¬ P b k) : ptx M' p X n cc en := by
  obtain ⟨⟨h1, h2, h3⟩, h4, h5⟩ := h
  have qq : ∀ b k, p ≤ b → b ≤ p + 11 → gi M' b k = gi M b k := fun b k h1 h2 => e.i (q b k h1 h2)
  refine ⟨⟨(qq _ _ (by omega) (by omega)).trans h1, (qq _ _ (by omega) (by omega)).trans h2, (qq _ _ (by omega) (by omega)).trans h3⟩, fun s hs => ?_, fun i hi => ?_⟩
  · obtain ⟨a0, a1, a2, a3, a4, a5, a6, a7, a8⟩ := h4 s hs
    exact ⟨(qq _ _ (by omega) (by omega)).trans a0, (qq _ _ (by omega) (by omega)).trans a1, (qq _ _ (by omega) (by omega)).trans a2, (qq _ _ (by omega) (by omega)).trans a3, (qq _ _ (by omega) (by omega)).trans a4, (qq _ _ (by omega) (by omega)).trans a5, (qq _ _ (by omega) (by omega)).trans a6, (qq _ _ (by omega) (by omega)).trans a7, (qq _ _ (by omega) (by omega)).trans a8⟩
  · exact ⟨(qq _ _ (by omega) (by omega)).trans (h5 i hi).1, (qq _ _ (by omega) (by omega)).trans (h5 i hi).2⟩
theorem x_has {z : Int} (hn : gi M p 0 = (n : Int)) (h1 : 0 ≤ z ∧ z < (n : Int) → K 1 M) (h0 : ¬ (0 ≤ z ∧ z < (n : Int)) → K 0 M) : em_P_has p z M K :=
  ⟨fun h => ⟨Or.inl rfl, h0 (by omega)⟩, fun h => ⟨fun g => ⟨Or.inl rfl, h0 (by omega)⟩, fun g => ⟨Or.inr rfl, h1 (by omega)⟩⟩⟩
theorem x_isCell {z : Int} (h1 : 0 ≤ z ∧ z < 16 → K 1 M) (h0 : ¬ (0 ≤ z ∧ z < 16) → K 0 M) : em_M_isCell z M K :=
  ⟨fun h => ⟨Or.inl rfl, h0 (by omega)⟩, fun h => ⟨fun g => ⟨Or.inl rfl, h0 (by omega)⟩, fun g => ⟨Or.inr rfl, h1 (by omega)⟩⟩⟩
theorem x_behind (hX : wfx X n cc en) (ht : ptx M p X n cc en) {z : Int} (hz : plz n z) (kk : K (bhd X 9 z) M) : em_P_behind p z M K := by
  refine ⟨fun v0 v2 v3 M' => v0 = p ∧ M' = M ∧ plz n v2 ∧ ∃ f : Nat, bhd X f v2 = bhd X 9 z ∧ (f : Int) + v3 = 9 ∧ 0 ≤ v3, ⟨rfl, rfl, hz, 9, rfl, by omega, by omega⟩, ?_⟩
  rintro v0 v2 v3 M' - - ⟨rfl, rfl, hv, f, hf, hf3, hv3⟩
  refine ⟨fun h => ?_, fun h => ?_⟩
  · obtain rfl : f = 0 := by omega
    have hf : (-1 : Int) = _ := hf
    show K (-1) M'
    rw [hf]; exact kk
  obtain ⟨f, rfl⟩ : ∃ g, f = g + 1 := ⟨f - 1, by omega⟩
  unfold bhd at hf
  refine x_has ht.1.1 (fun hr => ⟨fun w => absurd w (by decide), fun _ _ => ?_⟩) (fun hr => ⟨fun _ => ?_, fun w => absurd rfl w⟩)
  · rcases hv with rfl | ⟨x, rfl, hx⟩
    · omega
    rw [if_neg (by omega), tn_] at hf
    obtain ⟨a0, a1, a2, a3, a4, a5, a6, a7, a8⟩ := ht.2.1 x hx
    obtain ⟨w1, -, -, w6, -⟩ := hX.2.2.2.2.2 x hx
    rw [tn_, a6, a3]
    refine ⟨fun e => fun _ => ?_, fun e => fun _ => ?_⟩
    · rw [if_neg (by omega)] at hf
      refine x_has ht.1.1 (fun hr2 => ⟨fun w => absurd w (by decide), fun _ _ => ?_⟩) (fun hr2 => ⟨fun _ => ?_, fun w => absurd rfl w⟩)
      · obtain ⟨q, hq⟩ : ∃ q : Nat, X.1 3 x = (q : Int) := ⟨(X.1 3 x).toNat, by omega⟩
        rw [hq] at hr2 hf ⊢
        rw [tn_] at hf ⊢
        rw [(ht.2.1 q (by omega)).1]
        refine ⟨fun e2 => ?_, fun e2 => ?_⟩
        · rw [if_pos ⟨by omega, e2⟩] at hf
          rw [hf]; exact kk
        · rw [if_neg (fun z => e2 z.2)] at hf
          exact ⟨inr_z (by omega) (by omega), rfl, rfl, Or.inr ⟨q, rfl, by omega⟩, f, hf, by omega, by omega⟩
      · have hp := plz_par hX hx
        have e3 : X.1 3 x = -1 := by
          rcases hp with q | ⟨q, q1, q2⟩
          · exact q
          · omega
        rw [e3, if_neg (by omega)] at hf
        rw [e3]
        exact ⟨inr_z (by omega) (by omega), rfl, rfl, Or.inl rfl, f, hf, by omega, by omega⟩
    · have : 0 ≤ X.1 6 x := by
        rcases w6 with q | ⟨q, q1, q2⟩
        · exact absurd q e
        · omega
      rw [if_pos this] at hf
      rw [hf]; exact kk
  · have e : v2 = -1 := by
      rcases hv with q | ⟨q, q1, q2⟩
      · exact q
      · omega
    rw [e, if_pos (by omega)] at hf
    show K (-1) M'
    rw [hf]; exact kk
theorem x_into (hX : wfx X n cc en) (ht : ptx M p X n cc en) {s : Nat} {z : Int} (hs : s < n) (hz : lnk n z (fun _ => True)) (kk : K (gin X (s : Int) z) M) : em_P_into p (s : Int) z M K := by
  unfold gin at kk
  rw [tn_] at kk
  refine ⟨fun e => x_has ht.1.1 (fun hr => ⟨fun w => absurd w (by decide), fun _ _ => ?_⟩) (fun hr => ⟨fun _ => absurd ⟨by omega, by omega⟩ hr, fun w => absurd rfl w⟩), fun e => ?_⟩
  · rw [if_neg (by omega)] at kk
    rw [tn_, (ht.2.1 s hs).1]
    refine ⟨fun e2 => ?_, fun e2 => ?_⟩
    · rw [if_pos e2] at kk; exact kk
    · rw [if_neg e2] at kk
      exact x_behind hX ht (Or.inr ⟨s, rfl, hs⟩) kk
  · rw [if_pos (by rcases hz with q | ⟨q, q1, q2⟩ <;> omega)] at kk
    exact kk
theorem x_around (hX : wfx X n cc en) (ht : ptx M p X n cc en) {z k : Int} (hz : plz n z) (kk : K (ard X k 9 z) M) : em_P_around p z k M K := by
  refine ⟨fun v0 v2 v3 v4 M' => v0 = p ∧ v2 = k ∧ M' = M ∧ plz n v3 ∧ ∃ f : Nat, ard X k f v3 = ard X k 9 z ∧ (f : Int) + v4 = 9 ∧ 0 ≤ v4, ⟨rfl, rfl, rfl, hz, 9, rfl, by omega, by omega⟩, ?_⟩
  rintro v0 v2 v3 v4 M' - - - ⟨rfl, rfl, rfl, hv, f, hf, hf3, hv3⟩
  refine ⟨fun h => ?_, fun h => ?_⟩
  · obtain rfl : f = 0 := by omega
    have hf : (-1 : Int) = _ := hf
    show K (-1) M'
    rw [hf]; exact kk
  obtain ⟨f, rfl⟩ : ∃ g, f = g + 1 := ⟨f - 1, by omega⟩
  unfold ard at hf
  refine x_has ht.1.1 (fun hr => ⟨fun w => absurd w (by decide), fun _ _ => ?_⟩) (fun hr => ⟨fun _ => ?_, fun w => absurd rfl w⟩)
  · rcases hv with rfl | ⟨x, rfl, hx⟩
    · omega
    rw [if_neg (by omega), tn_] at hf
    obtain ⟨a0, a1, a2, a3, a4, a5, a6, a7, a8⟩ := ht.2.1 x hx
    rw [tn_, a3]
    refine x_has ht.1.1 (fun hr2 => ⟨fun w => absurd w (by decide), fun _ _ => ?_⟩) (fun hr2 => ⟨fun _ => ?_, fun w => absurd rfl w⟩)
    · obtain ⟨q, hq⟩ : ∃ q : Nat, X.1 3 x = (q : Int) := ⟨(X.1 3 x).toNat, by omega⟩
      rw [hq] at hr2 hf ⊢
      rw [tn_] at hf ⊢
      rw [(ht.2.1 q (by omega)).1, a4]
      have nx : ¬ ((0 : Int) ≤ (q : Int) ∧ X.1 0 q = v2 ∧ X.1 4 x = 0) → e_P_around_60 v0 v2 v4 (q : Int) M' (fun v0' v2' v3 v4 M'' => v0' = v0 ∧ v2' = v2 ∧ M'' = M' ∧ plz n v3 ∧ ∃ f : Nat, ard X v2 f v3 = ard X v2 9 z ∧ (f : Int) + v4 = 9 ∧ 0 ≤ v4) K := fun ne => by
        rw [if_neg ne] at hf
        exact ⟨inr_z (by omega) (by omega), rfl, rfl, rfl, Or.inr ⟨q, rfl, by omega⟩, f, hf, by omega, by omega⟩
      refine ⟨fun e1 _ => ⟨fun e2 => ?_, fun e2 => nx (fun z => e2 z.2.1)⟩, fun e1 => nx (fun z => e1 z.2.2)⟩
      rw [if_pos ⟨by omega, e2, e1⟩] at hf
      rw [hf]; exact kk
    · have e3 : X.1 3 x = -1 := by
        rcases plz_par hX hx with q | ⟨q, q1, q2⟩
        · exact q
        · omega
      rw [e3, if_neg (by omega)] at hf
      rw [e3]
      exact ⟨inr_z (by omega) (by omega), rfl, rfl, rfl, Or.inl rfl, f, hf, by omega, by omega⟩
  · have e : v3 = -1 := by
      rcases hv with q | ⟨q, q1, q2⟩
      · exact q
      · omega
    rw [e, if_pos (by omega)] at hf
    show K (-1) M'
    rw [hf]; exact kk
theorem x_differs {st b : Nat} {x : Int} (kk : K (if stale (wS M st) (Int32.ofInt x, fun _ => 0, fun l => M.1 b l) = true then 1 else 0) M) : em_S_differs st x b M K := by
  refine ⟨fun v0 v1 v2 v3 M' => v0 = st ∧ v1 = x ∧ v2 = b ∧ M' = M ∧ 0 ≤ v3 ∧ v3 ≤ 16 ∧ ∀ l : Nat, (l : Int) < v3 → (bt (Int32.ofInt x) l && !(decide (M.1 b l = (wS M st).2 l))) = false, ⟨rfl, rfl, rfl, rfl, by omega, by omega, fun l hl => absurd hl (by omega)⟩, ?_⟩
  rintro v0 v1 v2 v3 M' - - ⟨rfl, rfl, rfl, rfl, v0', v16, hv⟩
  obtain ⟨l, rfl⟩ : ∃ l : Nat, v3 = (l : Int) := ⟨v3.toNat, by omega⟩
  have fin : 16 ≤ (l : Int) → K 0 M' := fun h => by
    have e : stale (wS M' v0) (Int32.ofInt v1, fun _ => 0, fun l => M'.1 v2 l) = false := by
      unfold stale
      rw [List.any_eq_false]
      intro l' hl'
      rw [List.mem_range] at hl'
      rw [hv l' (by omega)]
      decide
    rw [e] at kk
    exact kk
  have nxt : l < 16 → (bt (Int32.ofInt v1) l && !(decide (M'.1 v2 l = (wS M' v0).2 l))) = false → e_S_differs_36 v0 v1 v2 (l : Int) M' (fun v0' v1' v2' v3 M'' => v0' = v0 ∧ v1' = v1 ∧ v2' = v2 ∧ M'' = M' ∧ 0 ≤ v3 ∧ v3 ≤ 16 ∧ ∀ l : Nat, (l : Int) < v3 → (bt (Int32.ofInt v1) l && !(decide (M'.1 v2 l = (wS M' v0).2 l))) = false) K := fun hl hb => by
    refine ⟨inr_z (by omega) (by omega), rfl, rfl, rfl, rfl, by omega, by omega, fun l' hl' => ?_⟩
    by_cases e : l' = l
    · rw [e]; exact hb
    · exact hv l' (by omega)
  refine ⟨fun h => fin h, fun h => ⟨fun h => fin h, fun h => ⟨fun h1 => nxt (by omega) ?_, fun h1 _ _ => ⟨fun h3 => nxt (by omega) ?_, fun h3 => ?_⟩⟩⟩⟩
  · rw [tst_u _ (by omega)] at h1
    cases q : bt (Int32.ofInt v1) l with
    | false => rfl
    | true => rw [if_pos q] at h1; exact absurd h1 (by decide)
  · rw [tn_] at h3
    have h3 : M'.1 (v0 + 2) l = M'.1 v2 l := gi_eq.mp h3
    rw [decide_eq_true (show M'.1 v2 l = (wS M' v0).2 l from h3.symm)]; simp
  · have e : stale (wS M' v0) (Int32.ofInt v1, fun _ => 0, fun l => M'.1 v2 l) = true := by
      unfold stale
      rw [List.any_eq_true]
      refine ⟨l, List.mem_range.mpr (by omega), ?_⟩
      rw [tst_u _ (by omega)] at h1
      have hb : bt (Int32.ofInt v1) l = true := by
        by_cases q : bt (Int32.ofInt v1) l = true
        · exact q
        · rw [if_neg q] at h1; exact absurd rfl h1
      have hne : ¬ M'.1 v2 l = (wS M' v0).2 l := fun q => h3 (by rw [tn_]; exact gi_eq.mpr q.symm)
      show (bt (Int32.ofInt v1) l && !(decide (M'.1 v2 l = (wS M' v0).2 l))) = true
      rw [hb, decide_eq_false hne]; rfl
    rw [e] at kk
    exact kk
theorem x_isStale {w : wdT} {r : rdT} (hw : weq w (wS M (stR a))) (hr : req r (rP M a)) (kk : K (if stale w r = true then 1 else 0) M) : em_R_isStale a M K := by
  refine x_differs ?_
  rw [gi_ofi, stale_eq (w := w) (r := r) (r' := (M.1 a 2, fun _ => 0, fun l => M.1 (a + 1) l)) (fun l hl => (hw l hl).2) hr.1 (fun l hl b => (hr.2 l hl b).2)]
  refine ⟨?_, kk⟩
  split
  · exact Or.inr rfl
  · exact Or.inl rfl
end PR1
