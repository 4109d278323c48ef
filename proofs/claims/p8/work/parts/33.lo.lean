/-! loads, stores, constants -/
def sx_isI (x : sxV) : Bool := match x with
  | (.inl (_, _)) => true
  | (.inr (.inl _)) => true
  | _ => false
def sx_isL (x : sxV) : Bool := match x with
  | (.inr (.inr (.inl _))) => true
  | _ => false
def sx_isR (x : sxV) : Bool := match x with
  | (.inr (.inr (.inr (some _)))) => true
  | (.inr (.inr (.inr none))) => true
  | _ => false
def sx_get (p : sxV → Bool) (sl : List (Option sxV)) (j : Nat) (st : List sxV) (E : sxE) : Option (List sxV × sxE) := match sx_ld sl j with
  | some x => if p x = true then some (x :: st, E) else none
  | none => none
def sx_lo (J : Instr) (sl : List (Option sxV)) (st : List sxV) (E : sxE) : Option (List sxV × sxE) := match J with
  | .iconst n => if (-2147483648) ≤ n ∧ n ≤ 2147483647 then some ((.inr (.inl n)) :: st, E) else none
  | .bipush n => if (-128) ≤ n ∧ n ≤ 127 then some ((.inr (.inl n)) :: st, E) else none
  | .sipush n => if (-32768) ≤ n ∧ n ≤ 32767 then some ((.inr (.inl n)) :: st, E) else none
  | .lconst n => if (n : Nat) ≤ 1 then some ((sx_nl E (n : Nat) (n : Nat) false).1 :: st, (sx_nl E (n : Nat) (n : Nat) false).2) else none
  | .iload_n k => sx_get sx_isI sl (k : Nat) st E
  | .iload k => sx_get sx_isI sl k st E
  | .lload_n k => sx_get sx_isL sl (k : Nat) st E
  | .lload k => sx_get sx_isL sl k st E
  | .aload_n k => sx_get sx_isR sl (k : Nat) st E
  | .aload k => sx_get sx_isR sl k st E
  | _ => none
/-- behind a store at i: a long that lay across it is gone -/
def sx_off (sl : List (Option sxV)) (i : Nat) : List (Option sxV) := match i with
  | 0 => sl
  | j + 1 => match sx_ld sl j with
    | some x => if sx_ct x = 2 then sl.set j none else sl
    | none => sl
def sx_s1 (sl : List (Option sxV)) (i : Nat) (x : sxV) : List (Option sxV) := (sx_off sl i).set i (some x)
def sx_s2 (sl : List (Option sxV)) (i : Nat) (x : sxV) : List (Option sxV) := ((sx_off sl i).set (i + 1) none).set i (some x)
def sx_put (p : sxV → Bool) (nL : Nat) (sl : List (Option sxV)) (j : Nat) (st : List sxV) (E : sxE) : Option (List (Option sxV) × List sxV × sxE) := match st with
  | x :: r => if p x = true ∧ j < nL then some (sx_s1 sl j x, r, E) else none
  | _ => none
def sx_put2 (nL : Nat) (sl : List (Option sxV)) (j : Nat) (st : List sxV) (E : sxE) : Option (List (Option sxV) × List sxV × sxE) := match st with
  | x :: r => if sx_isL x = true ∧ j + 1 < nL then some (sx_s2 sl j x, r, E) else none
  | _ => none
def sx_so (J : Instr) (nL : Nat) (sl : List (Option sxV)) (st : List sxV) (E : sxE) : Option (List (Option sxV) × List sxV × sxE) := match J with
  | .istore_n k => sx_put sx_isI nL sl (k : Nat) st E
  | .istore k => sx_put sx_isI nL sl k st E
  | .lstore_n k => sx_put2 nL sl (k : Nat) st E
  | .lstore k => sx_put2 nL sl k st E
  | .astore_n k => sx_put sx_isR nL sl (k : Nat) st E
  | .astore k => sx_put sx_isR nL sl k st E
  | .iinc k n => match sx_ld sl k with
    | some x => if k < nL ∧ (-2147483648) ≤ n ∧ n ≤ 2147483647 then (sx_add E x n).map (fun q => (sx_s1 sl k q.1, st, q.2)) else none
    | none => none
  | _ => none
theorem rf_find_filter {ls : rf_L} {j : Nat} {w : Value} {p : Nat × Value → Bool} (h : rf_ld ls j = some w) (hp : ∀ q : Nat × Value, q.1 = j → q.2 = w → p q = true) : rf_ld (ls.filter p) j = some w := by
  induction ls with
  | nil => cases h
  | cons q r ih =>
    unfold rf_ld at h ⊢
    by_cases hq : (q.1 == j) = true
    · rw [List.find?_cons_of_pos (p := fun q : Nat × Value => q.1 == j) hq] at h
      simp only [Option.map_some, Option.some.injEq] at h
      rw [List.filter_cons_of_pos (hp q (by simpa using hq) h), List.find?_cons_of_pos (p := fun q : Nat × Value => q.1 == j) hq]
      simp only [Option.map_some, h]
    · rw [List.find?_cons_of_neg (p := fun q : Nat × Value => q.1 == j) hq] at h
      by_cases hpq : p q = true
      · rw [List.filter_cons_of_pos hpq, List.find?_cons_of_neg (p := fun q : Nat × Value => q.1 == j) hq]
        exact ih h
      · rw [List.filter_cons_of_neg hpq]
        exact ih h
theorem rf_ld_hd (ls : rf_L) (i : Nat) (v : Value) : rf_ld ((i, v) :: ls) i = some v := by
  unfold rf_ld
  rw [List.find?_cons_of_pos (by simp)]
  rfl
theorem rf_ld_tl (ls : rf_L) {i j : Nat} (v : Value) (h : i ≠ j) : rf_ld ((i, v) :: ls) j = rf_ld ls j := by
  unfold rf_ld
  rw [List.find?_cons_of_neg (by simp [h])]
theorem rf_s1_ne {ls : rf_L} {i j : Nat} {v w : Value} (hj : i ≠ j) (h : rf_ld ls j = some w) (hc : ¬ (j + 1 = i ∧ w.category = 2)) : rf_ld (rf_s1 ls i v) j = some w := by
  unfold rf_s1
  rw [rf_ld_tl _ _ hj]
  refine rf_find_filter h (fun q h1 h2 => ?_)
  subst h1 h2
  have e1 : (q.1 == i) = false := by simp [Ne.symm hj]
  have e2 : (q.1 + 1 == i && q.2.category == 2) = false := by
    rw [Bool.and_eq_false_iff]
    by_cases e : q.1 + 1 = i
    · right; simpa using fun z => hc ⟨e, z⟩
    · left; simpa using e
  rw [e1, e2]; rfl
theorem rf_s2_ne {ls : rf_L} {i j : Nat} {v w : Value} (hj : i ≠ j) (hj1 : i + 1 ≠ j) (h : rf_ld ls j = some w) (hc : ¬ (j + 1 = i ∧ w.category = 2)) : rf_ld (rf_s2 ls i v) j = some w := by
  unfold rf_s2
  rw [rf_ld_tl _ _ hj]
  refine rf_find_filter h (fun q h1 h2 => ?_)
  subst h1 h2
  have e1 : (q.1 == i) = false := by simp [Ne.symm hj]
  have e3 : (q.1 == i + 1) = false := by simp [Ne.symm hj1]
  have e2 : (q.1 + 1 == i && q.2.category == 2) = false := by
    rw [Bool.and_eq_false_iff]
    by_cases e : q.1 + 1 = i
    · right; simpa using fun z => hc ⟨e, z⟩
    · left; simpa using e
  rw [e1, e2, e3]; rfl
theorem sx_ld_set {sl : List (Option sxV)} {i j : Nat} {y : Option sxV} {x : sxV} (h : sx_ld (sl.set i y) j = some x) : (i = j ∧ y = some x) ∨ (i ≠ j ∧ sx_ld sl j = some x) := by
  unfold sx_ld at h ⊢
  by_cases e : i = j
  · subst e
    left
    rw [List.getElem?_set] at h
    simp only [if_true] at h
    split at h
    · rename_i z hz
      split at hz
      · cases hz; exact ⟨rfl, h⟩
      · cases hz
    · cases h
  · right
    rw [List.getElem?_set_ne e] at h
    exact ⟨e, h⟩
section SX4
variable {U : sxU} {W : sxW} {E : sxE} {M : rf_M} {sst : List sxV} {st : List Value} {sl : List (Option sxV)} {ls : rf_L}
theorem sx_off_ld {i j : Nat} {x : sxV} (h : sx_ld (sx_off sl i) j = some x) : sx_ld sl j = some x ∧ ¬ (j + 1 = i ∧ sx_ct x = 2) := by
  unfold sx_off at h
  split at h
  · exact ⟨h, by omega⟩
  · rename_i t
    split at h
    · rename_i y hy
      split at h
      · rename_i hc
        rcases sx_ld_set h with ⟨e1, e2⟩ | ⟨e1, e2⟩
        · cases e2
        · exact ⟨e2, fun z => e1 (by omega)⟩
      · rename_i hc
        refine ⟨h, fun z => ?_⟩
        have : j = t := by omega
        subst this
        rw [hy] at h
        cases h
        exact hc z.2
    · rename_i hn
      refine ⟨h, fun z => ?_⟩
      have : j = t := by omega
      subst this
      rw [hn] at h
      cases h
theorem sx_s1o (hl : sx_ls W sl ls) {i : Nat} {x : sxV} {v : Value} (hv : sx_v W x v) : sx_ls W (sx_s1 sl i x) (rf_s1 ls i v) := by
  intro j y hy
  rcases sx_ld_set hy with ⟨e1, e2⟩ | ⟨e1, e2⟩
  · cases e2; subst e1
    exact ⟨v, rf_ld_hd _ _ _, hv⟩
  · obtain ⟨g1, g2⟩ := sx_off_ld e2
    obtain ⟨w, w1, w2⟩ := hl j y g1
    exact ⟨w, rf_s1_ne e1 w1 (by rw [sx_cto w2]; exact g2), w2⟩
theorem sx_s2o (hl : sx_ls W sl ls) {i : Nat} {x : sxV} {v : Value} (hv : sx_v W x v) : sx_ls W (sx_s2 sl i x) (rf_s2 ls i v) := by
  intro j y hy
  rcases sx_ld_set hy with ⟨e1, e2⟩ | ⟨e1, e2⟩
  · cases e2; subst e1
    exact ⟨v, rf_ld_hd _ _ _, hv⟩
  · rcases sx_ld_set e2 with ⟨e3, e4⟩ | ⟨e3, e4⟩
    · cases e4
    · obtain ⟨g1, g2⟩ := sx_off_ld e4
      obtain ⟨w, w1, w2⟩ := hl j y g1
      exact ⟨w, rf_s2_ne e1 e3 w1 (by rw [sx_cto w2]; exact g2), w2⟩
theorem sx_vI {x : sxV} {v : Value} (h : sx_isI x = true) (hv : sx_v W x v) : ∃ z, v = .int z := by
  rcases x with ⟨s, c⟩ | c | s | (_ | s)
  · obtain ⟨z, y, h1, -⟩ := hv; exact ⟨z, h1⟩
  · obtain ⟨z, h1, -⟩ := hv; exact ⟨z, h1⟩
  · cases h
  · cases h
  · cases h
theorem sx_vL {x : sxV} {v : Value} (h : sx_isL x = true) (hv : sx_v W x v) : ∃ z, v = .long z := by
  rcases x with ⟨s, c⟩ | c | s | (_ | s)
  · cases h
  · cases h
  · obtain ⟨z, h1, -⟩ := hv; exact ⟨z, h1⟩
  · cases h
  · cases h
theorem sx_vR {x : sxV} {v : Value} (h : sx_isR x = true) (hv : sx_v W x v) : ∃ z, v = va_rf z := by
  rcases x with ⟨s, c⟩ | c | s | (_ | s)
  · cases h
  · cases h
  · cases h
  · exact ⟨none, hv⟩
  · obtain ⟨z, h1, -⟩ := hv; exact ⟨z, h1⟩
theorem sx_getI {k : Nat} {q : List sxV × sxE} (hl : sx_ls W sl ls) (hE : sx_e U W E M) (hs : sx_vs W sst st) (h : sx_get sx_isI sl k sst E = some q) : ∃ st' W', rf_li ls k st = some st' ∧ sx_le W W' ∧ sx_e U W' q.2 M ∧ sx_vs W' q.1 st' := by
  unfold sx_get at h
  split at h
  · rename_i x hx
    split at h
    · rename_i hc
      cases h
      obtain ⟨v, v1, v2⟩ := hl k x hx
      obtain ⟨z, rfl⟩ := sx_vI hc v2
      exact ⟨.int z :: st, W, by unfold rf_li; rw [v1], sx_le_rfl W, hE, v2, hs⟩
    · cases h
  · cases h
theorem sx_getL {k : Nat} {q : List sxV × sxE} (hl : sx_ls W sl ls) (hE : sx_e U W E M) (hs : sx_vs W sst st) (h : sx_get sx_isL sl k sst E = some q) : ∃ st' W', rf_ll ls k st = some st' ∧ sx_le W W' ∧ sx_e U W' q.2 M ∧ sx_vs W' q.1 st' := by
  unfold sx_get at h
  split at h
  · rename_i x hx
    split at h
    · rename_i hc
      cases h
      obtain ⟨v, v1, v2⟩ := hl k x hx
      obtain ⟨z, rfl⟩ := sx_vL hc v2
      exact ⟨.long z :: st, W, by unfold rf_ll; rw [v1], sx_le_rfl W, hE, v2, hs⟩
    · cases h
  · cases h
theorem sx_getR {k : Nat} {q : List sxV × sxE} (hl : sx_ls W sl ls) (hE : sx_e U W E M) (hs : sx_vs W sst st) (h : sx_get sx_isR sl k sst E = some q) : ∃ st' W', rf_la ls k st = some st' ∧ sx_le W W' ∧ sx_e U W' q.2 M ∧ sx_vs W' q.1 st' := by
  unfold sx_get at h
  split at h
  · rename_i x hx
    split at h
    · rename_i hc
      cases h
      obtain ⟨v, v1, v2⟩ := hl k x hx
      obtain ⟨z, rfl⟩ := sx_vR hc v2
      refine ⟨va_rf z :: st, W, ?_, sx_le_rfl W, hE, v2, hs⟩
      unfold rf_la; rw [v1]
      cases z <;> rfl
    · cases h
  · cases h
theorem sx_loo {J : Instr} {aux : List (Int × Nat)} {q : List sxV × sxE} (hl : sx_ls W sl ls) (hE : sx_e U W E M) (hs : sx_vs W sst st) (h : sx_lo J sl sst E = some q) : ∃ st' W', rf_lo J aux ls st = some st' ∧ sx_le W W' ∧ sx_e U W' q.2 M ∧ sx_vs W' q.1 st' := by
  unfold sx_lo at h
  split at h
  · split at h
    · rename_i n hc
      cases h
      exact ⟨_, W, rfl, sx_le_rfl W, hE, ⟨_, rfl, Int32.toInt_ofInt_of_le (by omega) (by omega)⟩, hs⟩
    · cases h
  · split at h
    · rename_i n hc
      cases h
      exact ⟨_, W, rfl, sx_le_rfl W, hE, ⟨_, rfl, by rw [Int8.toInt_toInt32, Int8.toInt_ofInt_of_le (by omega) (by omega)]⟩, hs⟩
    · cases h
  · split at h
    · rename_i n hc
      cases h
      exact ⟨_, W, rfl, sx_le_rfl W, hE, ⟨_, rfl, by rw [Int16.toInt_toInt32, Int16.toInt_ofInt_of_le (by omega) (by omega)]⟩, hs⟩
    · cases h
  · split at h
    · rename_i n hc
      cases h
      have e : (Int64.ofNat (n : Nat)).toInt = ((n : Nat) : Int) := by
        rw [Int64.toInt_ofNat']
        exact Int.bmod_eq_of_le (by have : Int64.size = 18446744073709551616 := rfl; omega) (by have : Int64.size = 18446744073709551616 := rfl; omega)
      obtain ⟨W', w1, w2, w3⟩ := sx_fl hE (nz := false) (Int64.ofNat (n : Nat)) (Int.le_of_eq e.symm) (Int.le_of_eq e) (fun z => by cases z)
      exact ⟨_, W', rfl, w1, w2, w3, hs.mono w1⟩
    · cases h
  · exact sx_getI hl hE hs h
  · exact sx_getI hl hE hs h
  · exact sx_getL hl hE hs h
  · exact sx_getL hl hE hs h
  · exact sx_getR hl hE hs h
  · exact sx_getR hl hE hs h
  · cases h
theorem sx_putI {nL k : Nat} {q : List (Option sxV) × List sxV × sxE} (hl : sx_ls W sl ls) (hE : sx_e U W E M) (hs : sx_vs W sst st) (h : sx_put sx_isI nL sl k sst E = some q) : ∃ z r, st = .int z :: r ∧ k < nL ∧ sx_e U W q.2.2 M ∧ sx_ls W q.1 (rf_s1 ls k (.int z)) ∧ sx_vs W q.2.1 r := by
  unfold sx_put at h
  split at h
  · obtain ⟨v, r, rfl, h1, hs1⟩ := sx_cons hs
    split at h
    · rename_i hc
      cases h
      obtain ⟨z, rfl⟩ := sx_vI hc.1 h1
      exact ⟨z, r, rfl, hc.2, hE, sx_s1o hl h1, hs1⟩
    · cases h
  · cases h
theorem sx_putL {nL k : Nat} {q : List (Option sxV) × List sxV × sxE} (hl : sx_ls W sl ls) (hE : sx_e U W E M) (hs : sx_vs W sst st) (h : sx_put2 nL sl k sst E = some q) : ∃ z r, st = .long z :: r ∧ k + 1 < nL ∧ sx_e U W q.2.2 M ∧ sx_ls W q.1 (rf_s2 ls k (.long z)) ∧ sx_vs W q.2.1 r := by
  unfold sx_put2 at h
  split at h
  · obtain ⟨v, r, rfl, h1, hs1⟩ := sx_cons hs
    split at h
    · rename_i hc
      cases h
      obtain ⟨z, rfl⟩ := sx_vL hc.1 h1
      exact ⟨z, r, rfl, hc.2, hE, sx_s2o hl h1, hs1⟩
    · cases h
  · cases h
theorem sx_putR {nL k : Nat} {q : List (Option sxV) × List sxV × sxE} (hl : sx_ls W sl ls) (hE : sx_e U W E M) (hs : sx_vs W sst st) (h : sx_put sx_isR nL sl k sst E = some q) : ∃ z r, st = va_rf z :: r ∧ k < nL ∧ sx_e U W q.2.2 M ∧ sx_ls W q.1 (rf_s1 ls k (va_rf z)) ∧ sx_vs W q.2.1 r := by
  unfold sx_put at h
  split at h
  · obtain ⟨v, r, rfl, h1, hs1⟩ := sx_cons hs
    split at h
    · rename_i hc
      cases h
      obtain ⟨z, rfl⟩ := sx_vR hc.1 h1
      exact ⟨z, r, rfl, hc.2, hE, sx_s1o hl h1, hs1⟩
    · cases h
  · cases h
theorem sx_soo {J : Instr} {nL : Nat} {q : List (Option sxV) × List sxV × sxE} (hl : sx_ls W sl ls) (hE : sx_e U W E M) (hs : sx_vs W sst st) (h : sx_so J nL sl sst E = some q) : ∃ ls' st' W', rf_so J nL ls st = some (ls', st') ∧ sx_le W W' ∧ sx_e U W' q.2.2 M ∧ sx_ls W' q.1 ls' ∧ sx_vs W' q.2.1 st' := by
  unfold sx_so at h
  split at h
  · obtain ⟨z, r, rfl, g1, g2, g3, g4⟩ := sx_putI hl hE hs h
    exact ⟨_, _, W, if_pos g1, sx_le_rfl W, g2, g3, g4⟩
  · obtain ⟨z, r, rfl, g1, g2, g3, g4⟩ := sx_putI hl hE hs h
    exact ⟨_, _, W, if_pos g1, sx_le_rfl W, g2, g3, g4⟩
  · obtain ⟨z, r, rfl, g1, g2, g3, g4⟩ := sx_putL hl hE hs h
    exact ⟨_, _, W, if_pos g1, sx_le_rfl W, g2, g3, g4⟩
  · obtain ⟨z, r, rfl, g1, g2, g3, g4⟩ := sx_putL hl hE hs h
    exact ⟨_, _, W, if_pos g1, sx_le_rfl W, g2, g3, g4⟩
  · obtain ⟨z, r, rfl, g1, g2, g3, g4⟩ := sx_putR hl hE hs h
    cases z <;> exact ⟨_, _, W, if_pos g1, sx_le_rfl W, g2, g3, g4⟩
  · obtain ⟨z, r, rfl, g1, g2, g3, g4⟩ := sx_putR hl hE hs h
    cases z <;> exact ⟨_, _, W, if_pos g1, sx_le_rfl W, g2, g3, g4⟩
  · split at h
    · rename_i kk nn _ x hx
      split at h
      · rename_i hc
        obtain ⟨q', h1, rfl⟩ := Option.map_eq_some_iff.mp h
        obtain ⟨v, v1, v2⟩ := hl _ x hx
        have hI : sx_isI x = true := by
          rcases x with ⟨_, _⟩ | _ | _ | (_ | _) <;> first | rfl | cases h1
        obtain ⟨z, rfl⟩ := sx_vI hI v2
        obtain ⟨W', w1, w2, w3⟩ := sx_addo hE h1 v2 (u := z + Int32.ofInt nn) (by rw [Int32.toInt_add, Int32.toInt_ofInt_of_le (by omega) (by omega)])
        refine ⟨_, _, W', ?_, w1, w2, sx_s1o (hl.mono w1) w3, hs.mono w1⟩
        show (match rf_ld ls kk with | some (.int x) => if kk < nL then some (rf_s1 ls kk (.int (x + Int32.ofInt nn)), st) else none | _ => none) = _
        rw [v1]
        exact if_pos hc.1
      · cases h
    · cases h
  · cases h
end SX4
