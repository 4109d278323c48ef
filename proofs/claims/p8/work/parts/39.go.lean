/-! THE WALK -/
def sx_ca (U : sxU) (J : Instr) (aux : List (Int × Nat)) (st : List sxV) (E : sxE) : Option (Nat × List sxV × List sxV) := match aux with
  | q :: tg => (match J with
    | .invokevirtual _ => (match st.drop q.2 with
      | x :: r => (match sx_ob U.1.2.1 E x with
        | some (_, _, ci, _) => (match rf_lk tg (ci : Int) with
          | some j => if q.2 ≤ st.length ∧ sx_cts r ≤ 8 then some (j, x :: (st.take q.2).reverse, r) else none
          | none => none)
        | none => none)
      | [] => none)
    | .invokestatic _ => (match tg with
      | [(_, j)] => if q.2 ≤ st.length ∧ sx_cts (st.drop q.2) ≤ 8 then some (j, (st.take q.2).reverse, st.drop q.2) else none
      | _ => none)
    | _ => none)
  | [] => none
def sx_args : List sxV → List (Option sxV)
  | [] => []
  | x :: xs => if sx_ct x = 2 then some x :: none :: sx_args xs else some x :: sx_args xs
def sx_frm (xs : List sxV) (nL : Nat) : List (Option sxV) := sx_args xs ++ List.replicate (nL - (sx_args xs).length) none
/-- a piece of a measure: a number; top minus a slot; a slot minus low -/
abbrev sxM : Type := Nat ⊕ (Nat × Int) ⊕ (Nat × Int)
/-- the same of ghosts -/
abbrev sxN : Type := Nat ⊕ (Nat × Int) ⊕ (Nat × Int)
/-- a place where walks end and begin anew: pc, locals (inl: a parameter as it came; inr: something of a kind), a measure -/
abbrev sxK : Type := Nat × List (Option (Nat ⊕ sxF)) × sxM × sxM × sxM
/-- a contract: method, parameters, answer, what it may write; base, coef, par, top: measure base + coef * (top - parameter par); cuts -/
abbrev sxC : Type := Nat × List sxF × Option sxF × List (Nat × Nat) × Nat × Nat × Nat × Int × List sxK
/-- methods walked into, with their measures; contracts; contracts shown elsewhere; room of a frame -/
abbrev sxT : Type := List (Nat × Nat) × List sxC × List sxC × Nat
/-- a walk: what it may write; measure; the place of the measure's parameter; contract and measure it began with -/
abbrev sxQ : Type := List (Nat × Nat) × Nat × Option (Nat × Nat × Int) × Option (sxC × Option (sxN × sxN × sxN))
def sx_pe : List sxF → sxE → List sxV × sxE
  | [], E => ([], E)
  | f :: t, E => ((sx_new E f).1 :: (sx_pe t (sx_new E f).2).1, (sx_pe t (sx_new E f).2).2)
def sx_E0 : sxE := ([], [], [], [], [])
def sx_eq (x y : sxV) : Bool := match x, y with
  | (.inl (s, c)), (.inl (t, d)) => decide (s = t) && decide (c = d)
  | (.inr (.inr (.inl s))), (.inr (.inr (.inl t))) => decide (s = t)
  | (.inr (.inr (.inr (some s)))), (.inr (.inr (.inr (some t)))) => decide (s = t)
  | _, _ => false
def sx_lfit (ps : List sxV) (E : sxE) (sl : List (Option sxV)) : List (Option (Nat ⊕ sxF)) → Nat → Bool
  | [], _ => true
  | none :: t, i => sx_lfit ps E sl t (i + 1)
  | some (.inl p) :: t, i => (match sx_ld sl i, ps[p]? with
    | some x, some y => sx_eq x y
    | _, _ => false) && sx_lfit ps E sl t (i + 1)
  | some (.inr f) :: t, i => (match sx_ld sl i with
    | some x => sx_wok E x f
    | none => false) && sx_lfit ps E sl t (i + 1)
def sx_kl (ps : List sxV) : List (Option (Nat ⊕ sxF)) → sxE → List (Option sxV) × sxE
  | [], E => ([], E)
  | none :: t, E => (none :: (sx_kl ps t E).1, (sx_kl ps t E).2)
  | some (.inl p) :: t, E => (ps[p]? :: (sx_kl ps t E).1, (sx_kl ps t E).2)
  | some (.inr f) :: t, E => (some (sx_new E f).1 :: (sx_kl ps t (sx_new E f).2).1, (sx_kl ps t (sx_new E f).2).2)
def sx_res (sl : List (Option sxV)) (m : sxM) : Option sxN := match m with
  | (.inl n) => some ((.inl n))
  | (.inr (.inl (j, hi))) => (match sx_ld sl j with
    | some ((.inl (s, c))) => if c = 0 then some ((.inr (.inl (s, hi)))) else none
    | _ => none)
  | (.inr (.inr (j, lo))) => (match sx_ld sl j with
    | some ((.inl (s, c))) => if c = 0 then some ((.inr (.inr (s, lo)))) else none
    | _ => none)
def sx_nv (W : sxW) (a : sxN) : Nat := match a with
  | (.inl n) => n
  | (.inr (.inl (s, hi))) => (hi - (W.1[s]?).getD 0).toNat
  | (.inr (.inr (s, lo))) => ((W.1[s]?).getD 0 - lo).toNat
def sx_cmp (strict : Bool) (E : sxE) (sl : List (Option sxV)) (a : sxN) (m : sxM) : Bool := match a, m with
  | (.inl n), (.inl k) => if strict then decide (k < n) else decide (k ≤ n)
  | (.inr (.inl (s, hi))), (.inr (.inl (j, hi'))) => (match sx_ld sl j with
    | some ((.inl (t, c))) => (match E.1[t]? with
      | some b => decide (s = t) && decide (hi = hi') && (if strict then decide (1 ≤ c) else decide (0 ≤ c)) && decide (b.2 + c ≤ hi)
      | none => false)
    | _ => false)
  | (.inr (.inr (s, lo))), (.inr (.inr (j, lo'))) => (match sx_ld sl j with
    | some ((.inl (t, c))) => (match E.1[t]? with
      | some b => decide (s = t) && decide (lo = lo') && (if strict then decide (c ≤ -1) else decide (c ≤ 0)) && decide (lo ≤ b.1 + c)
      | none => false)
    | _ => false)
  | _, _ => false
def sx_dec (E : sxE) (sl : List (Option sxV)) (src : Option (sxN × sxN × sxN)) (K : sxK) : Bool := match src with
  | none => true
  | some a => sx_cmp true E sl a.1 K.2.2.1 || (sx_cmp false E sl a.1 K.2.2.1 && (sx_cmp true E sl a.2.1 K.2.2.2.1 || (sx_cmp false E sl a.2.1 K.2.2.2.1 && sx_cmp true E sl a.2.2 K.2.2.2.2)))
def sx_tr (q : sxQ) (pc : Nat) : Option (sxC × Option (sxN × sxN × sxN) × sxK) := match q.2.2.2 with
  | some c => (match c.1.2.2.2.2.2.2.2.2.find? (fun K => K.1 == pc) with
    | some K => some (c.1, c.2, K)
    | none => none)
  | none => none
def sx_atk (c : sxC) (src : Option (sxN × sxN × sxN)) (K : sxK) (sl : List (Option sxV)) (st : List sxV) (E : sxE) : Bool := st.isEmpty && sx_lfit (sx_pe c.2.1 sx_E0).1 E sl K.2.1 0 && sx_dec E sl src K
abbrev sxO : Type := List (Option sxV × sxE)
def sx_nxt (q : sxQ) (F : Nat → List (Option sxV) → List sxV → sxE → Option sxO) (pc : Nat) (sl : List (Option sxV)) (st : List sxV) (E : sxE) : Option sxO := match sx_tr q pc with
  | some t => if sx_atk t.1 t.2.1 t.2.2 sl st E = true then some [] else none
  | none => F pc sl st E
def sx_all {α β : Type} (f : α → Option (List β)) : List α → Option (List β)
  | [] => some []
  | x :: xs => match f x, sx_all f xs with
    | some a, some b => some (a ++ b)
    | _, _ => none
def sx_pfit (E : sxE) : List sxV → List sxF → Bool
  | [], [] => true
  | x :: xs, f :: fs => sx_wok E x f && sx_pfit E xs fs
  | _, _ => false
/-- does the measure of c at these arguments lie below the walk's -/
def sx_mlt (q : sxQ) (c : sxC) (xs : List sxV) (E : sxE) : Bool := if c.2.2.2.2.2.1 = 0 then decide (c.2.2.2.2.1 < q.2.1) else (match xs[c.2.2.2.2.2.2.1]? with
  | some x => (match sx_b E x with
    | some b => decide (c.2.2.2.2.1 + c.2.2.2.2.2.1 * (c.2.2.2.2.2.2.2.1 - b.1).toNat < q.2.1) || (match x, q.2.2.1 with
      | (.inl (s, d)), some m => decide (m.1 = c.2.2.2.2.2.1) && decide (m.2.1 = s) && decide (m.2.2 = c.2.2.2.2.2.2.2.1) && decide (b.2 ≤ c.2.2.2.2.2.2.2.1) && decide ((c.2.2.2.2.1 : Int) < (q.2.1 : Int) + (c.2.2.2.2.2.1 : Int) * d)
      | _, _ => false)
    | none => false)
  | none => false)
def sx_kp (md : List (Nat × Nat)) (E : sxE) : sxE := (E.1, E.2.1, E.2.2.1, E.2.2.2.1.filter (fun p => match E.2.2.1[p.1.1]? with
  | some b => !(md.elem (b.1, p.1.2 + 1)) && !(md.elem (b.1, 0))
  | none => false), E.2.2.2.2)
def sx_con (T : sxT) (q : sxQ) (j : Nat) (xs : List sxV) (E : sxE) : Option sxC := (T.2.1 ++ T.2.2.1).find? (fun c => decide (c.1 = j) && sx_pfit E xs c.2.1 && sx_mlt q c xs E && c.2.2.2.1.all (fun p => q.1.elem p))
def sx_push (post : Option sxF) (r : List sxV) (E : sxE) : List sxV × sxE := match post with
  | none => (r, E)
  | some f => ((sx_new E f).1 :: r, (sx_new E f).2)
def sx_go (T : sxT) (U : sxU) : Nat → sxQ → Nat → Nat → List (Option sxV) → List sxV → sxE → Option sxO
  | 0, _, _, _, _, _, _ => none
  | n + 1, q, j, pc, sl, st, E => match U.1.1.1 j pc with
    | none => none
    | some I => match rf_kd I.1 with
      | 0 => (sx_ar I.1 st E).bind (fun r => sx_nxt q (sx_go T U n q j) (pc + 1) sl r.1 r.2)
      | 1 => (sx_lo I.1 sl st E).bind (fun r => sx_nxt q (sx_go T U n q j) (pc + rf_len I.1) sl r.1 r.2)
      | 2 => (sx_so I.1 (U.1.1.2.1 j).2.2.1 sl st E).bind (fun r => sx_nxt q (sx_go T U n q j) (pc + rf_len I.1) r.1 r.2.1 r.2.2)
      | 3 => (sx_br I.1 I.2 pc st E).bind (fun r => sx_all (fun o => sx_nxt q (sx_go T U n q j) o.1 sl o.2.1 o.2.2) r)
      | 4 => (sx_hp U q.1 I.1 I.2 st E).bind (fun r => sx_nxt q (sx_go T U n q j) (pc + rf_len I.1) sl r.1 r.2)
      | 5 => if 10 ≤ (I.2.headD (0, 0)).1 then (sx_bi U q.1 (I.2.headD (0, 0)).1 st E).bind (fun r => sx_nxt q (sx_go T U n q j) (pc + 3) sl r.1 r.2) else (sx_ca U I.1 I.2 st E).bind (fun a => if (sx_args a.2.1).length ≤ (U.1.1.2.1 a.1).2.2.1 ∧ (U.1.1.2.1 a.1).2.2.1 + 19 ≤ T.2.2.2 then (match T.1.find? (fun p => p.1 == a.1) with
        | some p => if p.2 < q.2.1 then (sx_go T U n (q.1, p.2, none, none) a.1 0 (sx_frm a.2.1 (U.1.1.2.1 a.1).2.2.1) [] E).bind (fun outs => sx_all (fun o => sx_nxt q (sx_go T U n q j) (pc + 3) sl (o.1.toList ++ a.2.2) o.2) outs) else none
        | none => (sx_con T q a.1 a.2.1 E).bind (fun c => sx_nxt q (sx_go T U n q j) (pc + 3) sl (sx_push c.2.2.1 a.2.2 (sx_kp c.2.2.2.1 E)).1 (sx_push c.2.2.1 a.2.2 (sx_kp c.2.2.2.1 E)).2)) else none)
      | 6 => (sx_rt I.1 (U.1.1.2.1 j).2.2.2 st E).bind (fun v => some [(v, E)])
      | 7 => (sx_po I.2 st E).bind (fun r => sx_nxt q (sx_go T U n q j) (pc + rf_len I.1) sl r.1 r.2)
      | _ => none
def sx_post (post : Option sxF) (o : Option sxV × sxE) : Bool := match post, o.1 with
  | none, none => true
  | some f, some x => sx_wok o.2 x f
  | _, _ => false
def sx_mcq (c : sxC) : Option (Nat × Nat × Int) := match (sx_pe c.2.1 sx_E0).1[c.2.2.2.2.2.2.1]? with
  | some ((.inl (s, d))) => if d = 0 then some (c.2.2.2.2.2.1, s, c.2.2.2.2.2.2.2.1) else none
  | _ => none
def sx_ends (c : sxC) (o : Option sxO) : Bool := match o with
  | some outs => outs.all (sx_post c.2.2.1)
  | none => false
def sx_ckk (T : sxT) (U : sxU) (fuel : Nat) (c : sxC) (K : sxK) : Bool := match sx_res (sx_kl (sx_pe c.2.1 sx_E0).1 K.2.1 (sx_pe c.2.1 sx_E0).2).1 K.2.2.1, sx_res (sx_kl (sx_pe c.2.1 sx_E0).1 K.2.1 (sx_pe c.2.1 sx_E0).2).1 K.2.2.2.1, sx_res (sx_kl (sx_pe c.2.1 sx_E0).1 K.2.1 (sx_pe c.2.1 sx_E0).2).1 K.2.2.2.2 with
  | some a, some b, some d => sx_ends c (sx_go T U fuel (c.2.2.2.1, c.2.2.2.2.1, sx_mcq c, some (c, some (a, b, d))) c.1 K.1 (sx_kl (sx_pe c.2.1 sx_E0).1 K.2.1 (sx_pe c.2.1 sx_E0).2).1 [] (sx_kl (sx_pe c.2.1 sx_E0).1 K.2.1 (sx_pe c.2.1 sx_E0).2).2)
  | _, _, _ => false
/-- the contract is kept -/
def sx_ckc (T : sxT) (U : sxU) (fuel : Nat) (c : sxC) : Bool := sx_ends c (sx_go T U fuel (c.2.2.2.1, c.2.2.2.2.1, sx_mcq c, some (c, none)) c.1 0 (sx_frm (sx_pe c.2.1 sx_E0).1 (U.1.1.2.1 c.1).2.2.1) [] (sx_pe c.2.1 sx_E0).2) && c.2.2.2.2.2.2.2.2.all (sx_ckk T U fuel c) && decide (1 ≤ c.2.2.2.2.1) && (decide (c.2.2.2.2.2.1 = 0) || (sx_mcq c).isSome)
def sx_ck (T : sxT) (U : sxU) (fuel : Nat) : Bool := T.2.1.all (sx_ckc T U fuel) && T.1.all (fun p => decide (1 ≤ p.2))
