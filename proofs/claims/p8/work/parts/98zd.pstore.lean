/-! THE PROGRAM'S STORE: rules -/
def wsP (st b k : Nat) : Prop := (b = st ∧ k = 7) ∨ b = st + 6 ∨ b = st + 7
theorem bt_65535 : ∀ l, l < 16 → bt 65535 l = true := by decide
theorem lval_V {w : wdT} {V : Nat → Int64} {r : rdT} (z : Int) : lval w (mkV V) r z = some (if 0 ≤ z ∧ z < 16 then V z.toNat else 0, r) := by
  unfold lval
  by_cases c : 0 ≤ z ∧ z < 16
  · rw [if_pos c, if_pos c, if_pos (show bt (mkV V).1 z.toNat = true from bt_65535 z.toNat (by omega))]
    rfl
  · rw [if_neg c, if_neg c]
    split <;> rfl
theorem evc_le {O A : Nat → Int} {w : wdT} {m : mkT} : ∀ (f i : Nat) (st : List Int64) (r : rdT), (evc O A w m f i st r).1.1 ≤ 2
  | 0, _, _, r => by show 0 ≤ 2; omega
  | f + 1, i, st, r => by
    unfold evc
    split
    · show 0 ≤ 2; omega
    · split
      · exact evc_le f _ _ r
      · split
        · split
          · show 1 ≤ 2; omega
          · exact evc_le f _ _ _
        · split
          · exact evc_le f _ _ r
          · split
            · show 2 ≤ 2; omega
            · exact evc_le f _ _ r
section PS1
variable {M M' : rf_M} {p st n cc : Nat} {X : txT} {en : Int} {K : Int → rf_M → Prop} {V : Nat → Int64} {Ts : tsT}
theorem x_Sfind {z : Int} (hV : ∀ l, l < 16 → gl M (st + 5) l = V l) (kk : ∀ M', eqy (fun b k => b = st ∧ k = 7) M M' → gl M' st 7 = (if 0 ≤ z ∧ z < 16 then V z.toNat else 0) → K 1 M') : em_S_find st z M K := by
  have w0 : ¬ (0 ≤ z ∧ z < 16) → e_S_find_20 st M K := fun q M1 e1 => kk M1 (by rw [e1]; exact (eqy.rfl' M).wl ⟨rfl, rfl⟩) (by rw [e1, gl_at, if_neg q]; rfl)
  refine ⟨fun h => w0 (by omega), fun h => ⟨fun h' => w0 (by omega), fun h' _ M1 e1 => ?_⟩⟩
  refine kk M1 (by rw [e1]; exact (eqy.rfl' M).wl ⟨rfl, rfl⟩) ?_
  rw [e1, gl_at, if_pos ⟨by omega, by omega⟩]
  exact hV _ (by omega)
theorem x_workS {e : Int} (hpa : p + 11 < st) (hX : wfx X n cc en) (ht : ptx M p X n cc en) (hc : cdo X cc e) (hV : ∀ l, l < 16 → gl M (st + 5) l = V l) (kk : ∀ M', eqy (wsP st) M M' → ((evc X.2.1 X.2.2 wd0 (mkV V) 161 e.toNat [] rd0).1.1 ≠ 1 → (evc X.2.1 X.2.2 wd0 (mkV V) 161 e.toNat [] rd0).1.1 ≠ 2 → 0 < gi M' (st + 6) 1 ∧ gl M' (st + 7) 0 = (evc X.2.1 X.2.2 wd0 (mkV V) 161 e.toNat [] rd0).1.2) → K (evc X.2.1 X.2.2 wd0 (mkV V) 161 e.toNat [] rd0).1.1 M') : em_A_workS (st + 6) p e st M K := by
  obtain ⟨c0, c1, k, ck, c2, c3⟩ := hc
  obtain ⟨e, rfl⟩ : ∃ x : Nat, e = (x : Int) := ⟨e.toNat, by omega⟩
  rw [tn_] at c1 c2 c3 kk
  generalize hE : evc X.2.1 X.2.2 wd0 (mkV V) 161 e [] rd0 = E at kk
  intro M1 e1
  have y1 : eqy (wsP st) M M1 := by rw [e1]; exact (eqy.rfl' M).wi (Or.inr (Or.inl rfl))
  refine ⟨fun v0 v1 v3 v4 M' => v0 = st + 6 ∧ v1 = p ∧ v3 = st ∧ ∃ (i f : Nat) (sk : List Int64), v4 = (i : Int) ∧ eqy (wsP st) M M' ∧ stk2 M' (st + 6) sk ∧ evc X.2.1 X.2.2 wd0 (mkV V) f i sk rd0 = E ∧ (e ≤ i ∧ i ≤ e + k ∧ e + k < i + f) ∧ (sk ≠ [] ∨ i = e) ∧ sk.length ≤ psh X.2.1 i, ⟨rfl, rfl, rfl, e, 161, [], rfl, y1, ⟨by rw [e1, gi_at (inr_z (by omega) (by omega))]; rfl, trivial⟩, hE, ⟨by omega, by omega, by omega⟩, Or.inr rfl, Nat.zero_le _⟩, ?_⟩
  rintro v0 v1 v3 v4 M' - ⟨rfl, rfl, rfl, i, f, sk, rfl, y, hs, hev, ⟨hi0, hi1, hi2⟩, hne, hlen⟩
  have ht' := ht.eq y (fun b k h1 h2 => by unfold wsP; omega)
  have hV' : ∀ l, l < 16 → gl M' (v3 + 5) l = V l := fun l hl => (y.l (by unfold wsP; omega)).trans (hV l hl)
  have hicc : i < cc := by omega
  have hps : psh X.2.1 (i + 1) ≤ 60 := Nat.le_trans (psh_mono _ (by omega)) hX.2.2.1
  have hpi : psh X.2.1 i ≤ 60 := Nat.le_trans (psh_mono _ (by omega)) hX.2.2.1
  obtain ⟨f, rfl⟩ : ∃ g, f = g + 1 := ⟨f - 1, by omega⟩
  have cu : ∀ b k, cuP (v3 + 6) b k → wsP v3 b k := fun b k h => by unfold cuP at h; unfold wsP; omega
  refine ⟨fun h => absurd h (by omega), fun _ => ⟨fun h => absurd h (by rw [ht'.1.2.1]; omega), fun _ h160 => ?_⟩⟩
  rw [tn_, (ht'.2.2 i hicc).1, (ht'.2.2 i hicc).2]
  unfold evc at hev
  have nxt : ∀ (N : rf_M) (st2 : List Int64), eqy (wsP v3) M N → stk2 N (v3 + 6) st2 → evc X.2.1 X.2.2 wd0 (mkV V) f (i + 1) st2 rd0 = E → ¬ X.2.1 i = 0 → st2 ≠ [] → st2.length ≤ psh X.2.1 (i + 1) → e_A_workS_158 (v3 + 6) v1 v3 (i : Int) N (fun v0 v1' v3' v4 M' => v0 = v3 + 6 ∧ v1' = v1 ∧ v3' = v3 ∧ ∃ (i f : Nat) (sk : List Int64), v4 = (i : Int) ∧ eqy (wsP v3) M M' ∧ stk2 M' (v3 + 6) sk ∧ evc X.2.1 X.2.2 wd0 (mkV V) f i sk rd0 = E ∧ (e ≤ i ∧ i ≤ e + k ∧ e + k < i + f) ∧ (sk ≠ [] ∨ i = e) ∧ sk.length ≤ psh X.2.1 i) K := fun N st2 q1 q3 q4 q5 q6 q7 => by
    refine ⟨inr_z (by omega) (by omega), rfl, rfl, rfl, i + 1, f, st2, by omega, q1, q3, q4, ⟨by omega, ?_, by omega⟩, Or.inl q6, q7⟩
    by_cases e3 : i = e + k
    · rw [e3] at q5; exact absurd c2 q5
    · omega
  refine ⟨fun z0 => ?_, fun z0 => ⟨fun z1 _ => ?_, fun z1 => ⟨fun z2 _ => ?_, fun z2 => ⟨fun z3 => ?_, fun z3 => ?_⟩⟩⟩⟩
  · rw [if_pos z0] at hev
    have hst2 : sk ≠ [] := by
      rcases hne with q | q
      · exact q
      · rw [q] at z0; omega
    have := kk M' y (fun _ _ => by
      rw [← hev]
      refine ⟨?_, hs.2.last hst2⟩
      rw [hs.1]
      have : 0 < sk.length := List.length_pos_iff.mpr hst2
      omega)
    rw [← hev] at this
    exact this
  · rw [if_neg z0, if_pos z1] at hev
    have e4 : psh X.2.1 (i + 1) = psh X.2.1 i + 1 := by show psh X.2.1 i + (if _ then 1 else 0) = _; rw [if_pos (Or.inl z1)]
    exact x_push hs (by omega) (fun N q1 q2 => nxt N _ (y.trans (q1.mono cu)) q2 hev z0 (by simp) (by simp; omega))
  · rw [if_neg z0, if_neg z1, if_pos z2, lval_V] at hev
    have e4 : psh X.2.1 (i + 1) = psh X.2.1 i + 1 := by show psh X.2.1 i + (if _ then 1 else 0) = _; rw [if_pos (Or.inr z2)]
    refine x_Sfind hV' (fun N q1 q3 => ⟨fun q => absurd q (by decide), fun _ => ?_⟩)
    rw [q3]
    have hs' : stk2 N (v3 + 6) sk := ⟨(q1.i (by omega)).trans hs.1, hs.2.eq (fun k hk => q1.l (by omega))⟩
    exact x_push hs' (by omega) (fun N' q4 q5 => nxt N' _ ((y.trans (q1.mono (fun b k h => Or.inl h))).trans (q4.mono cu)) q5 hev z0 (by simp) (by simp; omega))
  · rw [if_neg z0, if_neg z1, if_neg z2, if_pos z3] at hev
    have hne' : sk ≠ [] := by
      rcases hne with q | q
      · exact q
      · rw [q] at z1 z2; omega
    have e4 : psh X.2.1 i ≤ psh X.2.1 (i + 1) := psh_mono _ (by omega)
    have hl1 : 0 < sk.length := List.length_pos_iff.mpr hne'
    exact x_pop hs (by omega) (fun N q1 q2 => x_push q2 (by simp; omega) (fun N' q4 q5 => nxt N' _ ((y.trans (q1.mono cu)).trans (q4.mono cu)) q5 hev z0 (by simp) (by simp; omega)))
  · rw [if_neg z0, if_neg z1, if_neg z2, if_neg z3] at hev
    have hne' : sk ≠ [] := by
      rcases hne with q | q
      · exact q
      · rw [q] at z1 z2; omega
    have e4 : psh X.2.1 i ≤ psh X.2.1 (i + 1) := psh_mono _ (by omega)
    have hl1 : 0 < sk.length := List.length_pos_iff.mpr hne'
    refine x_pop hs (by omega) (fun N q1 q2 => x_pop q2 (by simp; omega) (fun N2 q3 q4 => ?_))
    have yN2 : eqy (wsP v3) M N2 := (y.trans (q1.mono cu)).trans (q3.mono cu)
    have go : ¬ (sk.headD 0 = 0 ∧ (X.2.1 i = 47 ∨ X.2.1 i = 37)) → e_A_workS_145 (v3 + 6) v1 v3 (i : Int) (X.2.1 i) (sk.headD 0) (sk.tail.headD 0) N2 (fun v0 v1' v3' v4 M' => v0 = v3 + 6 ∧ v1' = v1 ∧ v3' = v3 ∧ ∃ (i f : Nat) (sk : List Int64), v4 = (i : Int) ∧ eqy (wsP v3) M M' ∧ stk2 M' (v3 + 6) sk ∧ evc X.2.1 X.2.2 wd0 (mkV V) f i sk rd0 = E ∧ (e ≤ i ∧ i ≤ e + k ∧ e + k < i + f) ∧ (sk ≠ [] ∨ i = e) ∧ sk.length ≤ psh X.2.1 i) K := fun hz => by
      refine x_join hz (fun v hv => ?_)
      rw [hv] at hev
      exact x_push q4 (by simp; omega) (fun N' q5 q6 => nxt N' _ (yN2.trans (q5.mono cu)) q6 hev z0 (by simp) (by simp; omega))
    have bz : sk.headD 0 = 0 → (X.2.1 i = 47 ∨ X.2.1 i = 37) → K 2 N2 := fun h1 h2 => by
      have hj : jn (X.2.1 i) (sk.tail.headD 0) (sk.headD 0) = none := by
        unfold jn
        rcases h2 with h2 | h2
        · rw [h2, if_neg (by decide), if_neg (by decide), if_neg (by decide), if_neg (by decide), if_neg (by decide), if_pos rfl, if_pos h1]
        · rw [h2, if_neg (by decide), if_neg (by decide), if_neg (by decide), if_neg (by decide), if_neg (by decide), if_neg (by decide), if_pos rfl, if_pos h1]
      rw [hj] at hev
      have := kk N2 yN2 (fun _ q => by rw [← hev] at q; exact absurd rfl q)
      rw [← hev] at this
      exact this
    exact ⟨fun h => ⟨fun h47 => bz ((lgz _).mp h) (Or.inl h47), fun h47 => ⟨fun h37 => bz ((lgz _).mp h) (Or.inr h37), fun h37 => go (fun q => q.2.elim h47 h37)⟩⟩, fun h => go (fun q => h ((lgz _).mpr q.1))⟩
theorem x_holdsAhead {t s : Nat} (hpa : 25 + 12 * t + 11 < st) (hX : wfx (Ts t).1 (Ts t).2.1 (Ts t).2.2.1 (Ts t).2.2.2) (ht : ptx M (25 + 12 * t) (Ts t).1 (Ts t).2.1 (Ts t).2.2.1 (Ts t).2.2.2) (hv : vld (Ts t).1 (Ts t).2.1 (s : Int)) (hV : ∀ l, l < 16 → gl M (st + 5) l = V l) (kk : ∀ M', eqy (wsP st) M M' → K (if hld Ts V (t, (s : Int)) = true then 1 else 0) M') : em_S_holdsAhead st (25 + 12 * t) (s : Int) M K := by
  obtain ⟨s', e, hs, hk⟩ := hv
  obtain rfl : s = s' := by omega
  unfold hld at kk
  dsimp only at kk
  rw [tn_] at kk
  refine x_has ht.1.1 (fun _ => ⟨fun w => absurd w (by decide), fun _ _ => ?_⟩) (fun hr => absurd ⟨by omega, by omega⟩ hr)
  rw [tn_, (ht.2.1 s hs).2.2.1]
  refine x_workS hpa hX ht ((hX.2.2.2.2.2 s hs).2.2.2.2.2.2.2.2.2.2 (by unfold kxp; omega)) hV (fun M2 y2 q2 => ?_)
  have hle := evc_le (O := (Ts t).1.2.1) (A := (Ts t).1.2.2) (w := wd0) (m := mkV V) 161 ((Ts t).1.1 2 s).toNat [] rd0
  generalize evc (Ts t).1.2.1 (Ts t).1.2.2 wd0 (mkV V) 161 ((Ts t).1.1 2 s).toNat [] rd0 = E at kk q2 hle
  have K0 : ¬ (E.1.1 ≠ 1 ∧ E.1.1 ≠ 2 ∧ E.1.2 ≠ 0) → ∀ M3, eqy (wsP st) M M3 → e_S_holdsAhead_48 M3 K := fun hn M3 y3 => by
    refine ⟨Or.inl rfl, ?_⟩
    have := kk M3 y3
    rw [if_neg (fun q => by
      simp at q
      exact hn ⟨q.1.1, q.1.2, q.2⟩)] at this
    exact this
  refine ⟨fun z => ?_, fun z => K0 (fun q => ?_) M2 y2⟩
  · have z0 : E.1.1 = 0 := by omega
    have q3 := q2 (by omega) (by omega)
    refine ⟨fun q => absurd q3.1 (by omega), fun _ _ => ?_⟩
    show ((lg_cmp (gl M2 (st + 7) 0) _).toInt = 0 → _) ∧ _
    rw [q3.2]
    refine ⟨fun c => K0 (fun q => q.2.2 ((lgz _).mp c)) M2 y2, fun c => ⟨Or.inr rfl, ?_⟩⟩
    have := kk M2 y2
    rw [if_pos (by simp; exact ⟨⟨by omega, by omega⟩, fun q => c ((lgz _).mpr q)⟩)] at this
    exact this
  · exact z (by omega)
theorem isPk {a k : Nat} (h : M.2.2 a k = some p) (hp : p ∈ k1) : isP M a k ∧ gr M a k = p := by
  have e : gr M a k = p := by unfold gr; rw [h]; rfl
  exact ⟨⟨by rw [e]; exact h, by rw [e]; exact hp⟩, e⟩
/-- the rules of the store at st -/
def prs (M : rf_M) (st : Nat) (rs : List (Nat × Int)) : Prop := gi M st 2 = (rs.length : Int) ∧ ∀ j, j < rs.length → M.2.2 (st + 3) j = some (25 + 12 * (rs.getD j (0, 0)).1) ∧ gi M (st + 4) j = (rs.getD j (0, 0)).2
theorem k1_mem : ∀ t, t < 12 → 25 + 12 * t ∈ k1 := by decide
theorem gD_ {α : Type} {l : List α} {i : Nat} {d : α} (h : i < l.length) : l.getD i d = l[i] := by
  rw [List.getD_eq_getElem?_getD, List.getElem?_eq_getElem h]
  rfl
theorem all_getD {α : Type} {f : α → Bool} {d : α} {l : List α} : l.all f = true ↔ ∀ i, i < l.length → f (l.getD i d) = true := by
  rw [List.all_eq_true]
  constructor
  · intro h i hi
    rw [gD_ hi]
    exact h _ (List.getElem_mem hi)
  · intro h x hx
    obtain ⟨i, hi, e⟩ := List.mem_iff_getElem.mp hx
    have := h i hi
    rw [gD_ hi, e] at this
    exact this
/-- the texts lie there -/
def ptxs (M : rf_M) (Ts : tsT) (c0 : Nat) : Prop := ∀ t, t < c0 → ptx M (25 + 12 * t) (Ts t).1 (Ts t).2.1 (Ts t).2.2.1 (Ts t).2.2.2
def twf (Ts : tsT) (c0 : Nat) : Prop := c0 ≤ 12 ∧ ∀ t, t < c0 → wfx (Ts t).1 (Ts t).2.1 (Ts t).2.2.1 (Ts t).2.2.2
def rok (Ts : tsT) (c0 : Nat) (rs : List (Nat × Int)) : Prop := ∀ j, j < rs.length → (rs.getD j (0, 0)).1 < c0 ∧ vld (Ts (rs.getD j (0, 0)).1).1 (Ts (rs.getD j (0, 0)).1).2.1 (rs.getD j (0, 0)).2
theorem ptxs.eq {P : Nat → Nat → Prop} {c0 : Nat} (h : ptxs M Ts c0) (h12 : c0 ≤ 12) (e : eqy P M M') (q : ∀ b k, b ≤ 168 → ¬ P b k) : ptxs M' Ts c0 := fun t ht => (h t ht).eq e (fun b k _ h2 => q b k (by omega))
theorem x_holdAhead {c0 : Nat} {rs : List (Nat × Int)} (hst : 180 ≤ st) (hT : twf Ts c0) (ht : ptxs M Ts c0) (hr : prs M st rs) (hro : rok Ts c0 rs) (h32 : rs.length ≤ 32) (hV : ∀ l, l < 16 → gl M (st + 5) l = V l) (kk : ∀ M', eqy (wsP st) M M' → K (if rs.all (hld Ts V) = true then 1 else 0) M') : em_S_holdAhead st M K := by
  refine ⟨fun v0 v1 M' => v0 = st ∧ ∃ j : Nat, v1 = (j : Int) ∧ j ≤ rs.length ∧ eqy (wsP st) M M' ∧ ∀ i, i < j → hld Ts V (rs.getD i (0, 0)) = true, ⟨rfl, 0, rfl, Nat.zero_le _, eqy.rfl' M, fun i h => absurd h (by omega)⟩, ?_⟩
  rintro v0 v1 M' - ⟨rfl, j, rfl, hj, y, h⟩
  have g2 : gi M' v0 2 = (rs.length : Int) := (y.i (by unfold wsP; omega)).trans hr.1
  rw [show e_S_holdAhead_2b v0 (j : Int) M' = e_S_holdAhead_2b v0 (j : Int) M' from rfl]
  refine ⟨fun hq => ?_, fun hq _ => ?_⟩
  · rw [g2] at hq
    have := kk M' y
    rw [if_pos (all_getD (d := (0, 0)).mpr (fun i hi => h i (by omega)))] at this
    exact this
  · rw [g2] at hq
    have hjl : j < rs.length := by omega
    obtain ⟨r1, r2⟩ := hr.2 j hjl
    obtain ⟨o1, o2⟩ := hro j hjl
    have e3 : M'.2.2 (v0 + 3) j = some (25 + 12 * (rs.getD j (0, 0)).1) := by rw [y.2]; exact r1
    have ip := isPk e3 (k1_mem _ (by have := hT.1; omega))
    have o2' := o2
    obtain ⟨s, hs, -⟩ := o2'
    rw [tn_]
    refine ⟨ip.1, fun _ => ?_⟩
    rw [ip.2, show gi M' (v0 + 4) j = (s : Int) from ((y.i (by unfold wsP; omega)).trans r2).trans hs]
    have hb := hT.1
    refine x_holdsAhead (by omega) (hT.2 _ o1) (ht.eq hT.1 y (fun b k h => by unfold wsP; omega) _ o1) (by rw [← hs]; exact o2) (fun l hl => (y.l (by unfold wsP; omega)).trans (hV l hl)) (fun M2 y2 => ?_)
    have eq2 : ((rs.getD j (0, 0)).1, (s : Int)) = rs.getD j (0, 0) := by rw [← hs]
    rw [eq2]
    by_cases hh : hld Ts V (rs.getD j (0, 0)) = true
    · rw [if_pos hh]
      refine ⟨fun q => absurd q (by decide), fun _ => ⟨inr_z (by omega) (by omega), rfl, j + 1, by omega, by omega, y.trans y2, fun i hi => ?_⟩⟩
      by_cases e : i = j
      · rw [e]; exact hh
      · exact h i (by omega)
    · rw [if_neg hh]
      refine ⟨fun _ => ?_, fun q => absurd rfl q⟩
      have := kk M2 (y.trans y2)
      rw [if_neg (fun q => hh (all_getD (d := (0, 0)).mp q j hjl))] at this
      exact this
end PS1
