/-! THE REFERENCE'S STORE: rules, what a run brings in -/
/-- how the reference writes a rule -/
def rex (Ts : tsT) (q : Nat × Int) : Int := 200 * (q.1 : Int) + (Ts q.1).1.1 2 q.2.toNat
theorem evc_V {O A : Nat → Int} {w w' : wdT} {V : Nat → Int64} {r' : rdT} : ∀ (f i : Nat) (st : List Int64) (r : rdT), evc O A w (mkV V) f i st r = ((evc O A w' (mkV V) f i st r').1, r)
  | 0, _, _, _ => rfl
  | f + 1, i, st, r => by
    unfold evc
    split
    · rfl
    · split
      · exact evc_V f _ _ r
      · split
        · rw [lval_V, lval_V]
          exact evc_V f _ _ r
        · split
          · exact evc_V f _ _ r
          · split
            · rfl
            · exact evc_V f _ _ r
section WS1
variable {M M' : rf_M} {c0 d : Nat} {K : Int → rf_M → Prop} {V : Nat → Int64} {Ts : tsT} {rs : List (Nat × Int)} {S : syT} {g : sgT} {w : wdT}
def rtxs (M : rf_M) (Ts : tsT) (c0 : Nat) : Prop := ∀ t, t < c0 → rtx M t (Ts t).1 (Ts t).2.1 (Ts t).2.2.1 (Ts t).2.2.2
def rrs (M : rf_M) (Ts : tsT) (d : Nat) (rs : List (Nat × Int)) : Prop := gi M 378 d = (rs.length : Int) ∧ ∀ j, j < rs.length → gi M 379 (32 * d + j) = rex Ts (rs.getD j (0, 0))
theorem rtxs.eq {P : Nat → Nat → Prop} (h : rtxs M Ts c0) (e : eqy P M M') (q : ∀ b k, 358 ≤ b → b ≤ 370 → ¬ P b k) : rtxs M' Ts c0 := fun t ht => (h t ht).eq e q
theorem rrs.eq {P : Nat → Nat → Prop} (h : rrs M Ts d rs) (e : eqy P M M') (q : ∀ b k, (b = 378 ∧ k = d) ∨ (b = 379 ∧ 32 * d ≤ k ∧ k < 32 * d + rs.length) → ¬ P b k) : rrs M' Ts d rs := ⟨(e.i (q _ _ (by omega))).trans h.1, fun j hj => (e.i (q _ _ (by omega))).trans (h.2 j hj)⟩
theorem rex_in (hT : twf Ts c0) {q : Nat × Int} (h1 : q.1 < c0) (h2 : vld (Ts q.1).1 (Ts q.1).2.1 q.2) : cdo (Ts q.1).1 (Ts q.1).2.2.1 ((Ts q.1).1.1 2 q.2.toNat) ∧ inr (rex Ts q) ∧ 0 ≤ rex Ts q := by
  obtain ⟨s, e, hs, hk⟩ := h2
  have hX := hT.2 q.1 h1
  have h12 := hT.1
  have hc : cdo (Ts q.1).1 (Ts q.1).2.2.1 ((Ts q.1).1.1 2 q.2.toNat) := by
    rw [e, tn_]
    exact (hX.2.2.2.2.2 s hs).2.2.2.2.2.2.2.2.2.2 (by unfold kxp; omega)
  refine ⟨hc, ?_⟩
  obtain ⟨c0, c1, k, ck, c2, c3⟩ := hc
  have := hX.2.1
  unfold rex
  exact ⟨inr_z (by omega) (by omega), by omega⟩
theorem y_holds {q : Nat × Int} (hT : twf Ts c0) (ht : rtxs M Ts c0) (h1 : q.1 < c0) (h2 : vld (Ts q.1).1 (Ts q.1).2.1 q.2) (hV : ∀ l, l < 16 → gl M 399 l = V l) (kk : ∀ M', eqy wkW M M' → K (if hld Ts V q = true then 1 else 0) M') : em_W_holds (rex Ts q) M K := by
  have h12 := hT.1
  have hX := hT.2 q.1 h1
  have hc := (rex_in hT h1 h2).1
  intro M1 e1
  have y1 : eqy (fun b k => b = 353 ∧ k = 65) M M1 := by rw [e1]; exact (eqy.rfl' M).wi ⟨rfl, rfl⟩
  unfold hld at kk
  refine y_work (w := wd0) (m := mkV V) (r := rR M1) (d := 0) hX ((ht q.1 h1).eq y1 (fun b k _ _ => by omega)) (by omega) hc (Or.inr ⟨rfl, fun l hl => ⟨bt_65535 l hl, ?_⟩⟩) (req.rfl' _) (by rw [e1, gi_at (inr_z (by omega) (by omega))]) (fun z M2 y2 q1 q2 q3 q4 => ?_)
  · exact ((y1.l (by omega)).trans (hV l hl)).symm
  · have hle := evc_le (O := (Ts q.1).1.2.1) (A := (Ts q.1).1.2.2) (w := wd0) (m := mkV V) 161 ((Ts q.1).1.1 2 q.2.toNat).toNat [] rd0
    rw [evc_V (w' := wd0) (r' := rd0)] at q2 q3 q4
    dsimp only at q2 q3 q4
    generalize evc (Ts q.1).1.2.1 (Ts q.1).1.2.2 wd0 (mkV V) 161 ((Ts q.1).1.1 2 q.2.toNat).toNat [] rd0 = E at kk q2 q3 q4 hle
    have y12 : eqy wkW M M2 := (y1.mono (fun b k h => Or.inl ⟨h.1, Or.inr (Or.inl h.2)⟩)).trans y2
    have K0 : ¬ (E.1.1 ≠ 1 ∧ E.1.1 ≠ 2 ∧ E.1.2 ≠ 0) → e_W_holds_29 M2 K := fun hn => by
      refine ⟨Or.inl rfl, ?_⟩
      have := kk M2 y12
      rw [if_neg (fun q => by
        simp at q
        exact hn ⟨q.1.1, q.1.2, q.2⟩)] at this
      exact this
    refine ⟨fun h65 => ?_, fun h65 => K0 (fun q => h65 (q4 q.1 q.2.1).1)⟩
    have n1 : E.1.1 ≠ 1 := fun q => by rw [q2 q] at h65; omega
    have n2 : E.1.1 ≠ 2 := fun q => by rw [(q3 q).1] at h65; omega
    rw [(q4 n1 n2).2]
    refine ⟨fun c => K0 (fun q => q.2.2 ((lgz _).mp c)), fun c => ⟨Or.inr rfl, ?_⟩⟩
    have := kk M2 y12
    rw [if_pos (by simp; exact ⟨⟨n1, n2⟩, fun q => c ((lgz _).mpr q)⟩)] at this
    exact this
theorem y_rulesHold (hT : twf Ts c0) (ht : rtxs M Ts c0) (hd : gi M 353 42 = (d : Int)) (hd2 : d < 2) (hr : rrs M Ts d rs) (hro : rok Ts c0 rs) (h32 : rs.length ≤ 32) (hV : ∀ l, l < 16 → gl M 399 l = V l) (kk : ∀ M', eqy wkW M M' → K (if rs.all (hld Ts V) = true then 1 else 0) M') : em_W_rulesHold M K := by
  refine ⟨fun v1 v2 M' => ∃ j : Nat, v2 = (j : Int) ∧ j ≤ rs.length ∧ eqy wkW M M' ∧ ((v1 = 1 ∧ ∀ i, i < j → hld Ts V (rs.getD i (0, 0)) = true) ∨ (v1 = 0 ∧ ¬ rs.all (hld Ts V) = true)), ⟨0, rfl, Nat.zero_le _, eqy.rfl' M, Or.inl ⟨rfl, fun i h => absurd h (by omega)⟩⟩, ?_⟩
  rintro v1 v2 M1 - - ⟨j, rfl, hj, y1, h1⟩
  have d1 : gi M1 353 42 = (d : Int) := (y1.i (by unfold wkW; omega)).trans hd
  have r1 : rrs M1 Ts d rs := hr.eq y1 (fun b k h => by unfold wkW; omega)
  rw [show e_W_rulesHold_4b v1 (j : Int) M1 = e_W_rulesHold_4b v1 (j : Int) M1 from rfl]
  have fin : (v1 = 0 ∨ j = rs.length) → e_W_rulesHold_46 v1 M1 K := fun hh => by
    have := kk M1 y1
    rcases h1 with ⟨e, ha⟩ | ⟨e, ha⟩
    · have hj' : j = rs.length := by omega
      rw [if_pos (all_getD (d := (0, 0)).mpr (fun i hi => ha i (by omega)))] at this
      exact ⟨Or.inr e, by rw [e]; exact this⟩
    · rw [if_neg ha] at this
      exact ⟨Or.inl e, by rw [e]; exact this⟩
  refine fun _ => ?_
  rw [d1, tn_, r1.1]
  refine ⟨fun hq => fin (by omega), fun hq => ⟨fun h0 => fin (Or.inl h0), fun h0 => ⟨inr_z (by omega) (by omega), fun _ => ?_⟩⟩⟩
  have hjl : j < rs.length := by omega
  have ha : ∀ i, i < j → hld Ts V (rs.getD i (0, 0)) = true := by
    rcases h1 with ⟨e, ha⟩ | ⟨e, ha⟩
    · exact ha
    · exact absurd e h0
  rw [show (32 * (d : Int) + (j : Int)).toNat = 32 * d + j by omega, r1.2 j hjl]
  refine y_holds hT (ht.eq y1 (fun b k _ _ => by unfold wkW; omega)) (hro j hjl).1 (hro j hjl).2 (fun l hl => (y1.l (by unfold wkW; omega)).trans (hV l hl)) (fun M2 y2 => ⟨inr_z (by omega) (by omega), j + 1, by omega, by omega, y1.trans y2, ?_⟩)
  by_cases hh : hld Ts V (rs.getD j (0, 0)) = true
  · rw [if_pos hh]
    refine Or.inl ⟨rfl, fun i hi => ?_⟩
    by_cases e : i = j
    · rw [e]; exact hh
    · exact ha i (by omega)
  · rw [if_neg hh]
    exact Or.inr ⟨rfl, fun q => hh (all_getD (d := (0, 0)).mp q j hjl)⟩
def wwW (b k : Nat) : Prop := b = 399 ∨ wkW b k
theorem y_isWell {t c : Nat} (hT : twf Ts c0) (htc : t < c0) (ht : rtxs M Ts c0) (hd : gi M 353 42 = (d : Int)) (hd2 : d < 2) (hw : weq S.1 (wR M d)) (hr : rrs M Ts d S.2.1) (hro : rok Ts c0 S.2.1) (h32 : S.2.1.length ≤ 32) (hm : meq g.2.1 (mR M)) (hc : g.2.1.2.2.2 = (c : Int)) (hc3 : c ≤ 400) (hrl : ∀ j, j < c → gi M 393 j = rex Ts (t, g.2.2.1 j)) (hv : ∀ j, j < c → vld (Ts t).1 (Ts t).2.1 (g.2.2.1 j)) (kk : ∀ M', eqy wwW M M' → K (if wel Ts S t g = true then 1 else 0) M') : em_W_isWell M K := by
  refine ⟨fun v1 M' => ∃ i : Nat, v1 = (i : Int) ∧ i ≤ 16 ∧ eqy (fun b _ => b = 399) M M' ∧ ∀ l, l < i → gl M' 399 l = wld S.1 g.2.1 l, ⟨0, rfl, by omega, eqy.rfl' M, fun l h => absurd h (by omega)⟩, ?_⟩
  rintro v1 M1 - ⟨i, rfl, hi, y1, hV1⟩
  have m1 : meq g.2.1 (mR M1) := hm.eqR y1 (fun b k h => by omega)
  have d1 : gi M1 353 42 = (d : Int) := (y1.i (by omega)).trans hd
  refine ⟨fun h16 => ?_, fun h16 => ?_⟩
  · have hV : ∀ l, l < 16 → gl M1 399 l = wld S.1 g.2.1 l := fun l hl => hV1 l (by omega)
    refine y_rulesHold (d := d) hT (ht.eq y1 (fun b k _ _ => by omega)) d1 hd2 (hr.eq y1 (fun b k h => by omega)) hro h32 hV (fun M2 y2 => ?_)
    have y12 : eqy wwW M M2 := (y1.mono (fun b k h => Or.inl h)).trans (y2.mono (fun b k h => Or.inr h))
    have nw : ∀ b k, ¬ (b = 353 ∧ (k = 52 ∨ k = 65 ∨ k = 66)) → ¬ (b = 389 ∨ b = 390 ∨ b = 398 ∨ b = 399) → ¬ wwW b k := fun b k h1 h2 => by unfold wwW wkW; omega
    refine ⟨fun v1 v2 M' => ∃ j : Nat, v2 = (j : Int) ∧ j ≤ c ∧ eqy wwW M M' ∧ (∀ l, l < 16 → gl M' 399 l = wld S.1 g.2.1 l) ∧ ((v1 = 1 ∧ S.2.1.all (hld Ts (wld S.1 g.2.1)) = true ∧ ∀ i, i < j → hld Ts (wld S.1 g.2.1) (t, g.2.2.1 i) = true) ∨ (v1 = 0 ∧ ¬ wel Ts S t g = true)), ⟨0, rfl, Nat.zero_le _, y12, fun l hl => (y2.l (by unfold wkW; omega)).trans (hV l hl), ?_⟩, ?_⟩
    · by_cases ha : S.2.1.all (hld Ts (wld S.1 g.2.1)) = true
      · rw [if_pos ha]
        exact Or.inl ⟨rfl, ha, fun i h => absurd h (by omega)⟩
      · rw [if_neg ha]
        refine Or.inr ⟨rfl, fun q => ha ?_⟩
        unfold wel at q
        rw [Bool.and_eq_true, Bool.and_eq_true] at q
        exact q.1.1
    rintro v1 v2 M3 - - ⟨j, rfl, hj, y3, hV3, h3⟩
    have m3 : meq g.2.1 (mR M3) := hm.eqR y3 (fun b k h => nw b k (by omega) (by omega))
    have c3 : gi M3 353 58 = (c : Int) := m3.2.2.2.trans hc
    have d3 : gi M3 353 42 = (d : Int) := (y3.i (nw _ _ (by omega) (by omega))).trans hd
    have r3 : rrs M3 Ts d S.2.1 := hr.eq y3 (fun b k h => nw b k (by omega) (by omega))
    have fin : (v1 = 0 ∨ j = c) → e_W_isWell_91 v1 M3 K := fun hh => by
      have := kk M3 y3
      rcases h3 with ⟨e, ha, hb⟩ | ⟨e, ha⟩
      · have hjc : j = c := by omega
        have hn : (nru t g).all (hld Ts (wld S.1 g.2.1)) = true := all_getD (d := (0, 0)).mpr (fun i hi => by
          rw [nru_len] at hi
          rw [nru_get hi]
          exact hb i (by omega))
        refine ⟨fun q => absurd q (by omega), fun _ _ => ?_⟩
        rw [d3, tn_, r3.1, c3]
        refine ⟨inr_z (by omega) (by omega), fun hl => ⟨Or.inl rfl, ?_⟩, fun hl => ⟨Or.inr rfl, ?_⟩⟩
        · rw [if_neg (fun q => by
            unfold wel at q
            rw [Bool.and_eq_true, decide_eq_true_eq] at q
            have := q.2
            omega)] at this
          exact this
        · rw [if_pos (by
            unfold wel
            rw [ha, hn]
            simp
            omega)] at this
          exact this
      · rw [if_neg ha] at this
        exact ⟨fun _ => ⟨Or.inl rfl, this⟩, fun q => absurd e q⟩
    refine ⟨fun hq => fin (by rw [c3] at hq; omega), fun hq => ⟨fun h0 => fin (Or.inl h0), fun h0 _ => ?_⟩⟩
    rw [c3] at hq
    obtain ⟨ha, hb⟩ : S.2.1.all (hld Ts (wld S.1 g.2.1)) = true ∧ ∀ i, i < j → hld Ts (wld S.1 g.2.1) (t, g.2.2.1 i) = true := by
      rcases h3 with ⟨e, ha, hb⟩ | ⟨e, ha⟩
      · exact ⟨ha, hb⟩
      · exact absurd e h0
    rw [tn_, show gi M3 393 j = rex Ts (t, g.2.2.1 j) from (y3.i (nw _ _ (by omega) (by omega))).trans (hrl j (by omega))]
    refine y_holds (q := (t, g.2.2.1 j)) hT (ht.eq y3 (fun b k _ _ => nw b k (by omega) (by omega))) htc (hv j (by omega)) hV3 (fun M4 y4 => ⟨inr_z (by omega) (by omega), j + 1, by omega, by omega, y3.trans (y4.mono (fun b k h => Or.inr h)), fun l hl => (y4.l (by unfold wkW; omega)).trans (hV3 l hl), ?_⟩)
    by_cases hh : hld Ts (wld S.1 g.2.1) (t, g.2.2.1 j) = true
    · rw [if_pos hh]
      refine Or.inl ⟨rfl, ha, fun i hi => ?_⟩
      by_cases e : i = j
      · rw [e]; exact hh
      · exact hb i (by omega)
    · rw [if_neg hh]
      refine Or.inr ⟨rfl, fun q => hh ?_⟩
      unfold wel at q
      rw [Bool.and_eq_true, Bool.and_eq_true] at q
      have := all_getD (d := (0, 0)).mp q.1.2 j (by rw [nru_len]; omega)
      rw [nru_get (by omega)] at this
      exact this
  · have hi' : i < 16 := by omega
    rw [tst_s _ hi', gi_ofi, show M1.1 353 55 = g.2.1.1 from m1.1, tn_]
    have nxt : ∀ (v : Int64), v = wld S.1 g.2.1 i → e_W_isWell_48 (i : Int) (i : Int) v M1 (fun v1 M' => ∃ i : Nat, v1 = (i : Int) ∧ i ≤ 16 ∧ eqy (fun b _ => b = 399) M M' ∧ ∀ l, l < i → gl M' 399 l = wld S.1 g.2.1 l) K := fun v hv => by
      intro _ M2 e2
      rw [tn_] at e2
      refine ⟨inr_z (by omega) (by omega), i + 1, by omega, by omega, by rw [e2]; exact y1.wl rfl, fun l hl => ?_⟩
      by_cases e : l = i
      · rw [e, e2, gl_at, hv]
      · rw [e2, gl_of (Or.inr e)]; exact hV1 l (by omega)
    refine ⟨fun hb _ => nxt _ ?_, fun hb => ?_⟩
    · have hb' : bt g.2.1.1 i = true := by
        by_cases q : bt g.2.1.1 i = true
        · exact q
        · rw [if_neg q] at hb; exact absurd hb (by decide)
      unfold wld
      rw [if_pos hb']
      exact m1.2.1 i hi' hb'
    · have hb' : ¬ bt g.2.1.1 i = true := fun q => hb (if_pos q)
      rw [d1]
      refine ⟨inr_z (by omega) (by omega), fun _ => nxt _ ?_⟩
      rw [show (16 * (d : Int) + (i : Int)).toNat = 16 * d + i by omega]
      unfold wld
      rw [if_neg hb']
      exact (y1.l (by omega)).trans (hw i hi').1
/-- what a run has made is brought in -/
theorem y_bringIn {t c : Nat} {K : rf_M → Prop} (hT : twf Ts c0) (htc : t < c0) (hd : gi M 353 42 = (d : Int)) (hd2 : d < 2) (hw : weq S.1 (wR M d)) (hr : rrs M Ts d S.2.1) (hm : meq g.2.1 (mR M)) (hc : g.2.1.2.2.2 = (c : Int)) (hrl : ∀ j, j < c → gi M 393 j = rex Ts (t, g.2.2.1 j)) (hv : ∀ j, j < c → vld (Ts t).1 (Ts t).2.1 (g.2.2.1 j)) (h32 : S.2.1.length + c ≤ 32) (kk : ∀ M', eqy (fun b k => ((b = 376 ∨ b = 377) ∧ 16 * d ≤ k ∧ k < 16 * d + 16) ∨ (b = 378 ∧ k = d) ∨ (b = 379 ∧ 32 * d ≤ k ∧ k < 32 * d + 32)) M M' → weq (brg S.1 g.2.1) (wR M' d) → rrs M' Ts d (S.2.1 ++ nru t g) → K M') : em_W_bringIn M K := by
  refine ⟨fun v1 M' => ∃ i : Nat, v1 = (i : Int) ∧ i ≤ 16 ∧ eqy (fun b k => (b = 376 ∨ b = 377) ∧ 16 * d ≤ k ∧ k < 16 * d + 16) M M' ∧ ∀ l, l < 16 → gl M' 376 (16 * d + l) = (if l < i then wld S.1 g.2.1 l else S.1.1 l) ∧ M'.1 377 (16 * d + l) = if l < i then (brg S.1 g.2.1).2 l else S.1.2 l, ⟨0, rfl, by omega, eqy.rfl' M, fun l hl => by rw [if_neg (by omega), if_neg (by omega)]; exact hw l hl⟩, ?_⟩
  rintro v1 M1 - ⟨i, rfl, hi, y1, h1⟩
  have m1 : meq g.2.1 (mR M1) := hm.eqR y1 (fun b k h => by omega)
  have d1 : gi M1 353 42 = (d : Int) := (y1.i (by omega)).trans hd
  refine ⟨fun h16 => ?_, fun h16 => ?_⟩
  · have r1 : rrs M1 Ts d S.2.1 := hr.eq y1 (fun b k h => by omega)
    have hw1 : weq (brg S.1 g.2.1) (wR M1 d) := fun l hl => by
      have := h1 l hl
      rw [if_pos (by omega), if_pos (by omega)] at this
      exact this
    refine ⟨fun v1 M' => ∃ j : Nat, v1 = (j : Int) ∧ j ≤ c ∧ eqy (fun b k => (b = 378 ∧ k = d) ∨ (b = 379 ∧ 32 * d ≤ k ∧ k < 32 * d + 32)) M1 M' ∧ gi M' 378 d = ((S.2.1.length + j : Nat) : Int) ∧ ∀ l, l < S.2.1.length + j → gi M' 379 (32 * d + l) = rex Ts ((S.2.1 ++ nru t g).getD l (0, 0)), ⟨0, rfl, Nat.zero_le _, eqy.rfl' M1, by rw [r1.1]; rfl, fun l hl => by rw [app_getD1 (by omega)]; exact r1.2 l (by omega)⟩, ?_⟩
    rintro v1 M2 - ⟨j, rfl, hj, y2, n2, h2⟩
    have c2 : gi M2 353 58 = (c : Int) := (y2.i (by omega)).trans (m1.2.2.2.trans hc)
    have d2 : gi M2 353 42 = (d : Int) := (y2.i (by omega)).trans d1
    refine ⟨fun hq => ?_, fun hq _ _ => ?_⟩
    · rw [c2] at hq
      have hjc : j = c := by omega
      refine kk M2 ((y1.mono (fun b k h => Or.inl h)).trans (y2.mono (fun b k h => Or.inr h))) (hw1.eqR y2 (fun b k h => by omega)) ⟨?_, fun l hl => ?_⟩
      · rw [n2, List.length_append, nru_len]
        have : g.2.1.2.2.2.toNat = c := by omega
        rw [this, hjc]
      · rw [List.length_append, nru_len] at hl
        exact h2 l (by omega)
    · rw [c2] at hq
      rw [d2, tn_, n2]
      have ex : (32 * (d : Int) + ((S.2.1.length + j : Nat) : Int)).toNat = 32 * d + (S.2.1.length + j) := by omega
      rw [ex, tn_]
      refine ⟨inr_z (by omega) (by omega), fun _ M3 e3 => ?_⟩
      have g3 : gi M3 353 42 = (d : Int) := by rw [e3, gi_of (Or.inl (by omega))]; exact d2
      rw [g3, tn_]
      refine fun _ _ M4 e4 => ?_
      have n3 : gi M3 378 d = ((S.2.1.length + j : Nat) : Int) := by rw [e3, gi_of (Or.inl (by omega))]; exact n2
      rw [n3] at e4
      have hjc : j < c := by omega
      have e393 : gi M2 393 j = rex Ts (t, g.2.2.1 j) := ((y2.i (by omega)).trans (y1.i (by omega))).trans (hrl j hjc)
      rw [e393] at e3
      have ir := (rex_in (q := (t, g.2.2.1 j)) hT htc (hv j hjc)).2.1
      have ef : ((S.2.1 ++ nru t g).getD (S.2.1.length + j) (0, 0)) = (t, g.2.2.1 j) := by
        rw [app_getD2 (by rw [nru_len]; omega), nru_get (by omega)]
      refine ⟨inr_z (by omega) (by omega), j + 1, by omega, by omega, ?_, ?_, fun l hl => ?_⟩
      · rw [e4, e3]
        exact (y2.wi (Or.inr ⟨rfl, by omega, by omega⟩)).wi (Or.inl ⟨rfl, rfl⟩)
      · rw [e4, gi_at (inr_z (by omega) (by omega))]
        omega
      · rw [e4, gi_of (Or.inl (by omega)), e3]
        by_cases e : l = S.2.1.length + j
        · rw [e, gi_at ir, ef]
        · rw [gi_of (Or.inr (by omega))]
          exact h2 l (by omega)
  · have hi' : i < 16 := by omega
    have h1i := h1 i hi'
    rw [if_neg (by omega), if_neg (by omega)] at h1i
    rw [tst_s _ hi', gi_ofi, show M1.1 353 55 = g.2.1.1 from m1.1, d1, tn_]
    have ex : (16 * (d : Int) + (i : Int)).toNat = 16 * d + i := by omega
    rw [ex]
    have nxt : ∀ M2, eqy (fun b k => (b = 376 ∨ b = 377) ∧ k = 16 * d + i) M1 M2 → gl M2 376 (16 * d + i) = wld S.1 g.2.1 i → M2.1 377 (16 * d + i) = (brg S.1 g.2.1).2 i → e_W_bringIn_58 (i : Int) M2 (fun v1 M' => ∃ i : Nat, v1 = (i : Int) ∧ i ≤ 16 ∧ eqy (fun b k => (b = 376 ∨ b = 377) ∧ 16 * d ≤ k ∧ k < 16 * d + 16) M M' ∧ ∀ l, l < 16 → gl M' 376 (16 * d + l) = (if l < i then wld S.1 g.2.1 l else S.1.1 l) ∧ M'.1 377 (16 * d + l) = if l < i then (brg S.1 g.2.1).2 l else S.1.2 l) K := fun M2 y2 q1 q2 => by
      refine ⟨inr_z (by omega) (by omega), i + 1, by omega, by omega, y1.trans (y2.mono (fun b k h => ⟨h.1, by omega, by omega⟩)), fun l hl => ?_⟩
      by_cases e : l = i
      · rw [e, if_pos (by omega), if_pos (by omega)]
        exact ⟨q1, q2⟩
      · have := h1 l hl
        by_cases e2 : l < i
        · rw [if_pos e2, if_pos e2] at this
          rw [if_pos (by omega), if_pos (by omega)]
          exact ⟨(y2.l (by omega)).trans this.1, (y2.1 _ _ (by omega)).1.trans this.2⟩
        · rw [if_neg e2, if_neg e2] at this
          rw [if_neg (by omega), if_neg (by omega)]
          exact ⟨(y2.l (by omega)).trans this.1, (y2.1 _ _ (by omega)).1.trans this.2⟩
    refine ⟨fun hb _ => ⟨inr_z (by omega) (by omega), fun _ M2 e2 => ?_⟩, fun hb => ?_⟩
    · have hb' : bt g.2.1.1 i = true := by
        by_cases q : bt g.2.1.1 i = true
        · exact q
        · rw [if_neg q] at hb; exact absurd hb (by decide)
      have g2 : gi M2 353 42 = (d : Int) := by rw [e2]; exact d1
      rw [g2, ex]
      refine ⟨inr_z (by omega) (by omega), fun _ _ M3 e3 => nxt M3 ?_ ?_ ?_⟩
      · rw [e3, e2]
        exact ((eqy.rfl' M1).wl ⟨Or.inl rfl, rfl⟩).wi ⟨Or.inr rfl, rfl⟩
      · rw [e3, gl_wi, e2, gl_at]
        unfold wld
        rw [if_pos hb']
        exact m1.2.1 i hi' hb'
      · rw [e3]
        show (rf_wi M2 377 (16 * d + i) _).1 377 (16 * d + i) = if bt g.2.1.1 i = true then _ else _
        rw [rf_wi_at, if_pos hb', e2]
        show Int32.ofInt ((M1.1 377 (16 * d + i)).toInt + 1) = _
        rw [h1i.2]
    · have hb' : ¬ bt g.2.1.1 i = true := fun q => hb (if_pos q)
      refine nxt M1 (eqy.rfl' M1) ?_ ?_
      · rw [h1i.1]
        unfold wld
        rw [if_neg hb']
      · rw [h1i.2]
        show _ = if bt g.2.1.1 i = true then _ else _
        rw [if_neg hb']
end WS1
/-! THE REFERENCE'S CLIENTS AND ROWS -/
theorem stale_up {w w' : wdT} {r : rdT} (h1 : ∀ l, l < 16 → bt r.1 l = true → (r.2.2 l).toInt ≤ (w.2 l).toInt) (h2 : ∀ l, l < 16 → (w.2 l).toInt ≤ (w'.2 l).toInt) (h : stale w r = true) : stale w' r = true := by
  unfold stale at h ⊢
  rw [List.any_eq_true] at h ⊢
  obtain ⟨l, hl, q⟩ := h
  rw [Bool.and_eq_true] at q
  have hl' := List.mem_range.mp hl
  refine ⟨l, hl, ?_⟩
  rw [q.1]
  have q2 := q.2
  simp at q2 ⊢
  intro e
  apply q2
  have a1 := h1 l hl' q.1
  have a2 := h2 l hl'
  rw [← e] at a2
  exact Int32.toInt_inj.mp (by omega)
def rcb (M : rf_M) (c : Nat) (cl : clT) : Prop := (gi M 381 c = (cl.1.length : Int) ∧ ∀ j, j < cl.1.length → gi M 380 (16 * c + j) = ((cl.1.getD j 0 : Nat) : Int)) ∧ gi M 384 c = cl.2.1 ∧ gi M 385 c = (if cl.2.2.1 = true then 1 else 0)
def rcs (M : rf_M) (w : wdT) (c : Nat) (cl : clT) : Prop := (cl.2.2.2.1 = 1 → gi M 382 c = 1 ∧ gi M 383 c = (cl.2.2.2.2.1 : Int) ∧ req cl.2.2.2.2.2.2 (rC M c)) ∧ (cl.2.2.2.1 = 0 → gi M 382 c = 0 ∨ (gi M 382 c = 1 ∧ gi M 383 c = 0 ∧ gi M 386 c = 0)) ∧ (cl.2.2.2.1 = 2 → (gi M 382 c = 2 ∧ req cl.2.2.2.2.2.2 (rC M c)) ∨ (gi M 382 c = 1 ∧ gi M 383 c = 0 ∧ gi M 386 c = 0 ∧ stale w cl.2.2.2.2.2.2 = true))
def rcl (M : rf_M) (w : wdT) (c : Nat) (cl : clT) : Prop := rcb M c cl ∧ rcs M w c cl
def rrw (M : rf_M) (rows : List rwT) : Prop := gi M 353 69 = (rows.length : Int) ∧ ∀ i, i < rows.length → gi M 400 i = (rows.getD i ((0, 0, 0, 0, 0), 0)).1.1 ∧ gi M 401 i = (rows.getD i ((0, 0, 0, 0, 0), 0)).1.2.1 ∧ gi M 402 i = (rows.getD i ((0, 0, 0, 0, 0), 0)).1.2.2.1 ∧ gi M 403 i = (rows.getD i ((0, 0, 0, 0, 0), 0)).1.2.2.2.1 ∧ gi M 404 i = (rows.getD i ((0, 0, 0, 0, 0), 0)).1.2.2.2.2 ∧ gl M 405 i = (rows.getD i ((0, 0, 0, 0, 0), 0)).2
/-- a client's cells -/
def ccR (c b k : Nat) : Prop := (b = 380 ∧ 16 * c ≤ k ∧ k < 16 * c + 16) ∨ ((b = 381 ∨ b = 382 ∨ b = 383 ∨ b = 384 ∨ b = 385 ∨ b = 386) ∧ k = c) ∨ ((b = 387 ∨ b = 388) ∧ 16 * c ≤ k ∧ k < 16 * c + 16)
/-- what lasts -/
def pvR (b k : Nat) : Prop := (358 ≤ b ∧ b ≤ 370) ∨ ((b = 376 ∨ b = 377) ∧ k < 16) ∨ (b = 378 ∧ k = 0) ∨ (b = 379 ∧ k < 32) ∨ (380 ≤ b ∧ b ≤ 388) ∨ (b = 353 ∧ k = 69) ∨ (400 ≤ b ∧ b ≤ 405)
section WC1
variable {M M' : rf_M} {c0 c : Nat} {K : Int → rf_M → Prop} {Ts : tsT} {S : syT} {g : sgT} {w w' : wdT} {cl : clT} {rows : List rwT} {r : rdT} {P : Nat → Nat → Prop}
theorem rcb.eq (h16 : cl.1.length ≤ 16) (h : rcb M c cl) (e : eqy P M M') (q : ∀ b k, (b = 380 ∧ 16 * c ≤ k ∧ k < 16 * c + 16) ∨ ((b = 381 ∨ b = 384 ∨ b = 385) ∧ k = c) → ¬ P b k) : rcb M' c cl := ⟨⟨(e.i (q _ _ (by omega))).trans h.1.1, fun j hj => (e.i (q _ _ (by omega))).trans (h.1.2 j hj)⟩, (e.i (q _ _ (by omega))).trans h.2.1, (e.i (q _ _ (by omega))).trans h.2.2⟩
theorem rC.eq (h : req r (rC M c)) (e : eqy P M M') (q : ∀ b k, (b = 386 ∧ k = c) ∨ ((b = 387 ∨ b = 388) ∧ 16 * c ≤ k ∧ k < 16 * c + 16) → ¬ P b k) : req r (rC M' c) := ⟨(e.1 _ _ (q _ _ (by omega))).1.trans h.1, fun l hl b => ⟨(e.l (q _ _ (by omega))).trans (h.2 l hl b).1, (e.1 _ _ (q _ _ (by omega))).1.trans (h.2 l hl b).2⟩⟩
theorem rcs.eq (h : rcs M w c cl) (e : eqy P M M') (q : ∀ b k, ((b = 382 ∨ b = 383 ∨ b = 386) ∧ k = c) ∨ ((b = 387 ∨ b = 388) ∧ 16 * c ≤ k ∧ k < 16 * c + 16) → ¬ P b k) (hs : cl.2.2.2.1 = 2 → stale w cl.2.2.2.2.2.2 = true → stale w' cl.2.2.2.2.2.2 = true) : rcs M' w' c cl := by
  have e2 : gi M' 382 c = gi M 382 c := e.i (q _ _ (by omega))
  have e3 : gi M' 383 c = gi M 383 c := e.i (q _ _ (by omega))
  have e6 : gi M' 386 c = gi M 386 c := e.i (q _ _ (by omega))
  refine ⟨fun t => ?_, fun t => ?_, fun t => ?_⟩
  · obtain ⟨a1, a2, a3⟩ := h.1 t
    exact ⟨e2.trans a1, e3.trans a2, rC.eq a3 e (fun b k h => q b k (by omega))⟩
  · rw [e2, e3, e6]; exact h.2.1 t
  · rcases h.2.2 t with ⟨a1, a2⟩ | ⟨a1, a2, a3, a4⟩
    · exact Or.inl ⟨e2.trans a1, rC.eq a2 e (fun b k h => q b k (by omega))⟩
    · exact Or.inr ⟨e2.trans a1, e3.trans a2, e6.trans a3, hs t a4⟩
theorem rrw.eq (h : rrw M rows) (e : eqy P M M') (q : ∀ b k, (b = 353 ∧ k = 69) ∨ (400 ≤ b ∧ b ≤ 405) → ¬ P b k) : rrw M' rows := by
  refine ⟨(e.i (q _ _ (by omega))).trans h.1, fun i hi => ?_⟩
  obtain ⟨a1, a2, a3, a4, a5, a6⟩ := h.2 i hi
  exact ⟨(e.i (q _ _ (by omega))).trans a1, (e.i (q _ _ (by omega))).trans a2, (e.i (q _ _ (by omega))).trans a3, (e.i (q _ _ (by omega))).trans a4, (e.i (q _ _ (by omega))).trans a5, (e.l (q _ _ (by omega))).trans a6⟩
/-- the reference is S -/
def RRS (M : rf_M) (Ts : tsT) (c0 : Nat) (S : syT) : Prop := rtxs M Ts c0 ∧ weq S.1 (wR M 0) ∧ rrs M Ts 0 S.2.1 ∧ (∀ c, c < 8 → rcl M S.1 c (S.2.2.1 c)) ∧ rrw M S.2.2.2
def RRX (M : rf_M) (Ts : tsT) (c0 : Nat) (S : syT) (c : Nat) : Prop := rtxs M Ts c0 ∧ weq S.1 (wR M 0) ∧ rrs M Ts 0 S.2.1 ∧ (∀ k, k < 8 → k ≠ c → rcl M S.1 k (S.2.2.1 k)) ∧ rrw M S.2.2.2
theorem RRX.eq (hS : SI Ts c0 S) (h : RRX M Ts c0 S c) (e : eqy P M M') (q : ∀ b k, pvR b k → ¬ ccR c b k → ¬ P b k) : RRX M' Ts c0 S c := by
  obtain ⟨h1, h2, h3, h4, h5⟩ := h
  have n : ∀ b k, ¬ (380 ≤ b ∧ b ≤ 388) → pvR b k → ¬ P b k := fun b k hb hp => q b k hp (by unfold ccR; omega)
  have h32 := hS.2.1.1
  refine ⟨h1.eq e (fun b k a1 a2 => n b k (by omega) (by unfold pvR; omega)), fun l hl => ?_, h3.eq e (fun b k a => n b k (by omega) (by unfold pvR; omega)), fun j hj hne => ?_, h5.eq e (fun b k a => n b k (by omega) (by unfold pvR; omega))⟩
  · exact ⟨(e.l (n 376 _ (by omega) (by unfold pvR; omega))).trans (h2 l hl).1, ((e.1 377 _ (n 377 _ (by omega) (by unfold pvR; omega))).1).trans (h2 l hl).2⟩
  · have hl := (hS.2.2.2.2 j hj).1.1
    obtain ⟨b1, b2⟩ := h4 j hj hne
    exact ⟨b1.eq hl e (fun b k a => q b k (by unfold pvR; omega) (by unfold ccR; omega)), b2.eq e (fun b k a => q b k (by unfold pvR; omega) (by unfold ccR; omega)) (fun _ z => z)⟩
theorem RRX.all (h : RRX M Ts c0 S c) {x : clT} (hx : rcl M S.1 c x) : RRS M Ts c0 (setc S c x) := by
  obtain ⟨h1, h2, h3, h4, h5⟩ := h
  refine ⟨h1, h2, h3, fun k hk => ?_, h5⟩
  show rcl M S.1 k (va_up S.2.2.1 c x k)
  by_cases e : k = c
  · rw [e, va_up_at]; exact hx
  · rw [va_up_of e]; exact h4 k hk e
theorem RRX.self (h : RRX M Ts c0 S c) (hx : rcl M S.1 c (S.2.2.1 c)) : RRS M Ts c0 S := by
  obtain ⟨h1, h2, h3, h4, h5⟩ := h
  refine ⟨h1, h2, h3, fun k hk => ?_, h5⟩
  by_cases e : k = c
  · rw [e]; exact hx
  · exact h4 k hk e
theorem RRS.x (h : RRS M Ts c0 S) : RRX M Ts c0 S c := ⟨h.1, h.2.1, h.2.2.1, fun k hk _ => h.2.2.2.1 k hk, h.2.2.2.2⟩
theorem RRS.eq (hS : SI Ts c0 S) (h : RRS M Ts c0 S) (e : eqy P M M') (q : ∀ b k, pvR b k → ¬ P b k) : RRS M' Ts c0 S := by
  refine (RRX.eq (c := 0) hS h.x e (fun b k a _ => q b k a)).self ?_
  have hl := (hS.2.2.2.2 0 (by omega)).1.1
  obtain ⟨b1, b2⟩ := h.2.2.2.1 0 (by omega)
  exact ⟨b1.eq hl e (fun b k a => q b k (by unfold pvR; omega)), b2.eq e (fun b k a => q b k (by unfold pvR; omega)) (fun _ z => z)⟩
theorem y_addRow {row : rwT} {K : rf_M → Prop} (h : rrw M rows) (hR : rows.length < 300) (hi : inr row.1.1 ∧ inr row.1.2.1 ∧ inr row.1.2.2.1 ∧ inr row.1.2.2.2.1 ∧ inr row.1.2.2.2.2) (kk : ∀ M', eqy (fun b k => (b = 353 ∧ k = 69) ∨ (400 ≤ b ∧ b ≤ 405)) M M' → rrw M' (rows ++ [row]) → K M') : em_W_addRow row.1.1 row.1.2.1 row.1.2.2.1 row.1.2.2.2.1 row.1.2.2.2.2 row.2 M K := by
  intro _ M2 e2 _ M3 e3 _ M4 e4 _ M5 e5 _ M6 e6 _ M7 e7 M8 e8
  have g2 : gi M2 353 69 = (rows.length : Int) := by rw [e2, gi_of (Or.inl (by omega))]; exact h.1
  have g3 : gi M3 353 69 = (rows.length : Int) := by rw [e3, gi_of (Or.inl (by omega))]; exact g2
  have g4 : gi M4 353 69 = (rows.length : Int) := by rw [e4, gi_of (Or.inl (by omega))]; exact g3
  have g5 : gi M5 353 69 = (rows.length : Int) := by rw [e5, gi_of (Or.inl (by omega))]; exact g4
  have g6 : gi M6 353 69 = (rows.length : Int) := by rw [e6, gi_of (Or.inl (by omega))]; exact g5
  have g7 : gi M7 353 69 = (rows.length : Int) := by rw [e7]; exact g6
  rw [h.1, tn_] at e2
  rw [g2, tn_] at e3
  rw [g3, tn_] at e4
  rw [g4, tn_] at e5
  rw [g5, tn_] at e6
  rw [g6, tn_] at e7
  rw [g7] at e8
  have y : eqy (fun b k => (b = 353 ∧ k = 69) ∨ (400 ≤ b ∧ b ≤ 405)) M M8 := by
    rw [e8, e7, e6, e5, e4, e3, e2]
    exact (((((((eqy.rfl' M).wi (by omega)).wi (by omega)).wi (by omega)).wi (by omega)).wi (by omega)).wl (by omega)).wi (by omega)
  obtain ⟨i1, i2, i3, i4, i5⟩ := hi
  refine kk M8 y ⟨?_, fun i hi => ?_⟩
  · rw [e8, gi_at (inr_z (by omega) (by omega))]
    simp
  · by_cases e : i = rows.length
    · have er : (rows ++ [row]).getD i ((0, 0, 0, 0, 0), 0) = row := by
        have := app_getD2 (l := rows) (m := [row]) (j := 0) (d := ((0, 0, 0, 0, 0), 0)) (by simp)
        rw [Nat.add_zero, ← e] at this
        exact this
      rw [er, e]
      refine ⟨?_, ?_, ?_, ?_, ?_, ?_⟩
      · rw [e8, gi_of (Or.inl (by omega)), e7, gi_wl, e6, gi_of (Or.inl (by omega)), e5, gi_of (Or.inl (by omega)), e4, gi_of (Or.inl (by omega)), e3, gi_of (Or.inl (by omega)), e2, gi_at i1]
      · rw [e8, gi_of (Or.inl (by omega)), e7, gi_wl, e6, gi_of (Or.inl (by omega)), e5, gi_of (Or.inl (by omega)), e4, gi_of (Or.inl (by omega)), e3, gi_at i2]
      · rw [e8, gi_of (Or.inl (by omega)), e7, gi_wl, e6, gi_of (Or.inl (by omega)), e5, gi_of (Or.inl (by omega)), e4, gi_at i3]
      · rw [e8, gi_of (Or.inl (by omega)), e7, gi_wl, e6, gi_of (Or.inl (by omega)), e5, gi_at i4]
      · rw [e8, gi_of (Or.inl (by omega)), e7, gi_wl, e6, gi_at i5]
      · rw [e8, gl_wi, e7, gl_at]
    · have hi' : i < rows.length := by simp at hi; omega
      rw [app_getD1 hi']
      obtain ⟨a1, a2, a3, a4, a5, a6⟩ := h.2 i hi'
      refine ⟨?_, ?_, ?_, ?_, ?_, ?_⟩
      · rw [e8, gi_of (Or.inl (by omega)), e7, gi_wl, e6, gi_of (Or.inl (by omega)), e5, gi_of (Or.inl (by omega)), e4, gi_of (Or.inl (by omega)), e3, gi_of (Or.inl (by omega)), e2, gi_of (Or.inr e)]; exact a1
      · rw [e8, gi_of (Or.inl (by omega)), e7, gi_wl, e6, gi_of (Or.inl (by omega)), e5, gi_of (Or.inl (by omega)), e4, gi_of (Or.inl (by omega)), e3, gi_of (Or.inr e), e2, gi_of (Or.inl (by omega))]; exact a2
      · rw [e8, gi_of (Or.inl (by omega)), e7, gi_wl, e6, gi_of (Or.inl (by omega)), e5, gi_of (Or.inl (by omega)), e4, gi_of (Or.inr e), e3, gi_of (Or.inl (by omega)), e2, gi_of (Or.inl (by omega))]; exact a3
      · rw [e8, gi_of (Or.inl (by omega)), e7, gi_wl, e6, gi_of (Or.inl (by omega)), e5, gi_of (Or.inr e), e4, gi_of (Or.inl (by omega)), e3, gi_of (Or.inl (by omega)), e2, gi_of (Or.inl (by omega))]; exact a4
      · rw [e8, gi_of (Or.inl (by omega)), e7, gi_wl, e6, gi_of (Or.inr e), e5, gi_of (Or.inl (by omega)), e4, gi_of (Or.inl (by omega)), e3, gi_of (Or.inl (by omega)), e2, gi_of (Or.inl (by omega))]; exact a5
      · rw [e8, gl_wi, e7, gl_of (Or.inr e), e6, e5, e4, e3, e2]; exact a6
theorem y_over {K : rf_M → Prop} (hc : c < 8) (hb : rcb M c cl) (hq : cl.1.length ≠ 0) (h16 : cl.1.length ≤ 16) (kk : ∀ M', eqy (ccR c) M M' → rcl M' w c (ovr cl) → K M') : em_W_over (c : Int) M K := by
  intro _ M1 e1 _ M2 e2 _ M3 e3 _ M4 e4 _ M5 e5 _ _ M6 e6
  rw [tn_] at e1 e2 e3 e4 e5 e6
  have z0 : (Int32.ofInt 0 &&& 1).toInt = 0 := by decide
  rw [z0] at e5
  have g5 : gi M5 381 c = (cl.1.length : Int) := by rw [e5, gi_of (Or.inl (by omega)), e4, gi_of (Or.inl (by omega)), e3, gi_of (Or.inl (by omega)), e2, gi_of (Or.inl (by omega)), e1, gi_of (Or.inl (by omega))]; exact hb.1.1
  rw [g5] at e6
  have y6 : eqy (fun b k => (b = 381 ∨ b = 382 ∨ b = 383 ∨ b = 384 ∨ b = 385 ∨ b = 386) ∧ k = c) M M6 := by
    rw [e6, e5, e4, e3, e2, e1]
    exact ((((((eqy.rfl' M).wi ⟨by omega, rfl⟩).wi ⟨by omega, rfl⟩).wi ⟨by omega, rfl⟩).wi ⟨by omega, rfl⟩).wi ⟨by omega, rfl⟩).wi ⟨by omega, rfl⟩
  have n6 : gi M6 381 c = ((cl.1.length - 1 : Nat) : Int) := by rw [e6, gi_at (inr_z (by omega) (by omega))]; omega
  have q6 : ∀ j, j < cl.1.length → gi M6 380 (16 * c + j) = ((cl.1.getD j 0 : Nat) : Int) := fun j hj => (y6.i (by omega)).trans (hb.1.2 j hj)
  have tg : ∀ j, j + 1 < cl.1.length → cl.1.getD (j + 1) 0 = cl.1.tail.getD j 0 := fun j hj => by
    cases h : cl.1 with
    | nil => rfl
    | cons x q => rfl
  refine ⟨fun v1 v2 M' => v1 = (c : Int) ∧ ∃ j : Nat, v2 = (j : Int) ∧ j ≤ cl.1.length - 1 ∧ eqy (fun b k => b = 380 ∧ 16 * c ≤ k ∧ k < 16 * c + 16) M6 M' ∧ (∀ i, i < j → gi M' 380 (16 * c + i) = ((cl.1.tail.getD i 0 : Nat) : Int)) ∧ ∀ i, j ≤ i → i < cl.1.length → gi M' 380 (16 * c + i) = ((cl.1.getD i 0 : Nat) : Int), ⟨rfl, 0, rfl, Nat.zero_le _, eqy.rfl' M6, fun i h => absurd h (by omega), fun i _ h => q6 i h⟩, ?_⟩
  rintro v1 v2 M7 - - ⟨rfl, j, rfl, hj, y7, h7, h7'⟩
  have n7 : gi M7 381 c = ((cl.1.length - 1 : Nat) : Int) := (y7.i (by omega)).trans n6
  refine fun _ => ?_
  rw [tn_, n7]
  refine ⟨fun hq7 => ?_, fun hq7 => ⟨inr_z (by omega) (by omega), fun _ => ⟨inr_z (by omega) (by omega), fun _ M8 e8 => ?_⟩⟩⟩
  · have hj' : j = cl.1.length - 1 := by omega
    have tl : (ovr cl).1.length = cl.1.length - 1 := by show cl.1.tail.length = _; simp
    have s7 : ∀ b, b = 382 ∨ b = 383 ∨ b = 384 ∨ b = 385 ∨ b = 386 → gi M7 b c = 0 := fun b hb => by
      rw [y7.i (by omega), e6, gi_of (Or.inl (by omega)), e5]
      by_cases h5 : b = 385
      · rw [h5, gi_at (inr_z (by omega) (by omega))]
      rw [gi_of (Or.inl h5), e4]
      by_cases h4 : b = 384
      · rw [h4, gi_at (inr_z (by omega) (by omega))]
      rw [gi_of (Or.inl h4), e3]
      by_cases h3 : b = 386
      · rw [h3, gi_at (inr_z (by omega) (by omega))]
      rw [gi_of (Or.inl h3), e2]
      by_cases h2 : b = 383
      · rw [h2, gi_at (inr_z (by omega) (by omega))]
      rw [gi_of (Or.inl h2), e1]
      have h1 : b = 382 := by omega
      rw [h1, gi_at (inr_z (by omega) (by omega))]
    refine kk M7 ((y6.mono (fun b k h => by unfold ccR; omega)).trans (y7.mono (fun b k h => by unfold ccR; omega))) ⟨⟨⟨?_, fun i hi => ?_⟩, ?_, ?_⟩, fun (q : (0 : Nat) = 1) => absurd q (by decide), fun _ => Or.inl (s7 382 (by omega)), fun (q : (0 : Nat) = 2) => absurd q (by decide)⟩
    · rw [n7, tl]
    · rw [tl] at hi
      exact h7 i (by omega)
    · exact s7 384 (by omega)
    · exact s7 385 (by omega)
  · have ex : (16 * (c : Int) + (j : Int)).toNat = 16 * c + j := by omega
    have ex1 : (16 * (c : Int) + (j : Int) + 1).toNat = 16 * c + (j + 1) := by omega
    rw [ex, ex1, h7' (j + 1) (by omega) (by omega), tg j (by omega)] at e8
    have hin : inr ((cl.1.tail.getD j 0 : Nat) : Int) := by
      have := h7' (j + 1) (by omega) (by omega)
      rw [tg j (by omega)] at this
      rw [← this]
      exact inr_gi _ _ _
    refine ⟨inr_z (by omega) (by omega), rfl, j + 1, by omega, by omega, by rw [e8]; exact y7.wi ⟨rfl, by omega, by omega⟩, fun i hi => ?_, fun i hi hl => ?_⟩
    · by_cases e : i = j
      · rw [e, e8, gi_at hin]
      · rw [e8, gi_of (Or.inr (by omega))]
        exact h7 i (by omega)
    · rw [e8, gi_of (Or.inr (by omega))]
      exact h7' i (by omega) hl
theorem y_cutRun (hc : c < 8) (hb : rcb M c cl) (hu : cl.2.2.1 = true → 4 ≤ cl.2.1) (hin : 0 ≤ cl.2.1 ∧ cl.2.1 ≤ 300) (kk : ∀ M', eqy (fun b k => (b = 382 ∨ b = 383 ∨ b = 384 ∨ b = 385 ∨ b = 386) ∧ k = c) M M' → rcl M' w c (cl.1, cl.2.1 + 1, decide (4 ≤ cl.2.1 + 1), 0, 0, run0 (-1), rd0) → K 3 M') : em_W_cutRun (c : Int) M K := by
  intro _ M1 e1 _ M2 e2 _ M3 e3 _ _ M4 e4 _
  rw [tn_] at e1 e2 e3 e4
  have g3 : gi M3 384 c = cl.2.1 := by rw [e3, gi_of (Or.inl (by omega)), e2, gi_of (Or.inl (by omega)), e1, gi_of (Or.inl (by omega))]; exact hb.2.1
  rw [g3] at e4
  have y4 : eqy (fun b k => (b = 382 ∨ b = 383 ∨ b = 384 ∨ b = 385 ∨ b = 386) ∧ k = c) M M4 := by
    rw [e4, e3, e2, e1]
    exact ((((eqy.rfl' M).wi ⟨by omega, rfl⟩).wi ⟨by omega, rfl⟩).wi ⟨by omega, rfl⟩).wi ⟨by omega, rfl⟩
  have g4 : gi M4 384 c = cl.2.1 + 1 := by rw [e4, gi_at (inr_z (by omega) (by omega))]
  have g5 : gi M4 385 c = (if cl.2.2.1 = true then 1 else 0) := by rw [e4, gi_of (Or.inl (by omega)), e3, gi_of (Or.inl (by omega)), e2, gi_of (Or.inl (by omega)), e1, gi_of (Or.inl (by omega))]; exact hb.2.2
  have fin : ∀ (z : Int) (M5 : rf_M), (z = 0 ∨ z = 1) → z = (if decide (4 ≤ cl.2.1 + 1) = true then 1 else 0) → M5 = wi M4 385 c (Int32.ofInt z &&& 1).toInt → K 3 M5 := fun z M5 hz hzz e5 => by
    have ez : (Int32.ofInt z &&& 1).toInt = z := by rcases hz with rfl | rfl <;> decide
    rw [ez] at e5
    have iz : inr z := by rcases hz with rfl | rfl <;> exact inr_z (by omega) (by omega)
    refine kk M5 (by rw [e5]; exact y4.wi ⟨by omega, rfl⟩) ⟨⟨⟨?_, fun j hj => ?_⟩, ?_, ?_⟩, fun (q : (0 : Nat) = 1) => absurd q (by decide), fun _ => Or.inl ?_, fun (q : (0 : Nat) = 2) => absurd q (by decide)⟩
    · rw [e5, gi_of (Or.inl (by omega))]
      exact (y4.i (by omega)).trans hb.1.1
    · rw [e5, gi_of (Or.inl (by omega))]
      exact (y4.i (by omega)).trans (hb.1.2 j hj)
    · rw [e5, gi_of (Or.inl (by omega)), g4]
    · rw [e5, gi_at iz, hzz]
    · rw [e5, gi_of (Or.inl (by omega)), e4, gi_of (Or.inl (by omega)), e3, gi_of (Or.inl (by omega)), e2, gi_of (Or.inl (by omega)), e1, gi_at (inr_z (by omega) (by omega))]
  rw [tn_, g4, g5]
  have f1 : 4 ≤ cl.2.1 + 1 → e_W_cutRun_55 (c : Int) M4 K := fun h => by
    intro _ M5 e5
    rw [tn_] at e5
    exact fin 1 M5 (Or.inr rfl) (by rw [if_pos (by simp; omega)]) e5
  refine ⟨fun h _ => ⟨fun h4 => ?_, fun h4 => f1 (by omega)⟩, fun h => f1 ?_⟩
  · intro _ M5 e5
    rw [tn_] at e5
    exact fin 0 M5 (Or.inl rfl) (by rw [if_neg (by simp; omega)]) e5
  · have : cl.2.2.1 = true := by
      by_cases q : cl.2.2.1 = true
      · exact q
      · rw [if_neg q] at h; exact absurd rfl h
    have := hu this
    omega
theorem y_isHeld (hc : c < 8) (hu : ∀ k, k < 8 → gi M 385 k = (if (S.2.2.1 k).2.2.1 = true then 1 else 0)) (kk : K (if hel S c = true then 1 else 0) M) : em_W_isHeld (c : Int) M K := by
  unfold hel at kk
  refine ⟨fun v1 v2 v3 M' => v1 = (c : Int) ∧ M' = M ∧ ∃ j : Nat, v3 = (j : Int) ∧ j ≤ 8 ∧ ((v2 = 0 ∧ ∀ i, i < j → i ≠ c → (S.2.2.1 i).2.2.1 = false) ∨ (v2 = 1 ∧ ∃ i, i < 8 ∧ i ≠ c ∧ (S.2.2.1 i).2.2.1 = true)), ⟨rfl, rfl, 0, rfl, by omega, Or.inl ⟨rfl, fun i h => absurd h (by omega)⟩⟩, ?_⟩
  rintro v1 v2 v3 M' - - - ⟨rfl, rfl, j, rfl, hj, h⟩
  have uc := hu c hc
  refine ⟨fun h8 => ⟨fun h0 => ⟨Or.inl rfl, ?_⟩, fun h0 _ => ?_⟩, fun h8 => ⟨fun h0 => ⟨fun hjc => ?_, fun hjc _ => ?_⟩, fun h0 => ?_⟩⟩
  · rcases h with ⟨_, hf⟩ | ⟨e, _⟩
    · rw [if_neg (by
        simp
        intro hcf i hi
        by_cases e : i = c
        · rw [e]; exact hcf
        · exact hf i (by omega) e)] at kk
      exact kk
    · omega
  · rcases h with ⟨e, _⟩ | ⟨_, i, hi, hne, ht⟩
    · omega
    · rw [tn_, uc]
      refine ⟨fun hz => ⟨Or.inr rfl, ?_⟩, fun hz => ⟨Or.inl rfl, ?_⟩⟩
      · have hf : (S.2.2.1 c).2.2.1 = false := by
          cases q : (S.2.2.1 c).2.2.1 with
          | false => rfl
          | true => rw [if_pos q] at hz; exact absurd hz (by decide)
        rw [if_pos (by
          rw [hf]
          simp
          exact ⟨i, hi, ht⟩)] at kk
        exact kk
      · have hf : (S.2.2.1 c).2.2.1 = true := by
          by_cases q : (S.2.2.1 c).2.2.1 = true
          · exact q
          · rw [if_neg q] at hz; exact absurd rfl hz
        rw [if_neg (by rw [hf]; simp)] at kk
        exact kk
  · rcases h with ⟨_, hf⟩ | ⟨e, _⟩
    · refine ⟨inr_z (by omega) (by omega), rfl, rfl, j + 1, by omega, by omega, Or.inl ⟨rfl, fun i hi hne => hf i (by omega) hne⟩⟩
    · omega
  · rw [tn_, hu j (by omega)]
    rcases h with ⟨_, hf⟩ | ⟨e, _⟩
    · refine ⟨fun hz => ⟨inr_z (by omega) (by omega), rfl, rfl, j + 1, by omega, by omega, Or.inl ⟨rfl, fun i hi hne => ?_⟩⟩, fun hz => ⟨inr_z (by omega) (by omega), rfl, rfl, j + 1, by omega, by omega, Or.inr ⟨rfl, j, by omega, by omega, ?_⟩⟩⟩
      · by_cases e : i = j
        · rw [e]
          cases q : (S.2.2.1 j).2.2.1 with
          | false => rfl
          | true => rw [if_pos q] at hz; exact absurd hz (by decide)
        · exact hf i (by omega) hne
      · by_cases q : (S.2.2.1 j).2.2.1 = true
        · exact q
        · rw [if_neg q] at hz; exact absurd rfl hz
    · omega
  · rcases h with ⟨e, _⟩ | ⟨_, hx⟩
    · omega
    · exact ⟨inr_z (by omega) (by omega), rfl, rfl, j + 1, by omega, by omega, Or.inr ⟨rfl, hx⟩⟩
end WC1
/-! THE REFERENCE'S TURN -/
/-- a turn of client c is about to walk -/
def W77 (M : rf_M) (Ts : tsT) (c0 : Nat) (S : syT) (c : Nat) : Prop := RRX M Ts c0 S c ∧ rcb M c (S.2.2.1 c) ∧ gi M 382 c = 1 ∧ gi M 383 c = ((beg Ts (S.2.2.1 c)).1 : Int) ∧ req (beg Ts (S.2.2.1 c)).2.2 (rC M c) ∧ ((S.2.2.1 c).2.2.2.1 ≠ 1 → gi M 386 c = 0) ∧ ((S.2.2.1 c).2.2.2.1 = 2 → stale S.1 (S.2.2.1 c).2.2.2.2.2.2 = true)
theorem ocW_ (o : Nat) (h : o ≤ 4) : (ocW o = 0 ↔ o = 0) ∧ (ocW o = 1 ↔ o = 3) ∧ (ocW o = 2 ↔ o = 2) ∧ (ocW o = 3 ↔ o = 4) := by
  have : o = 0 ∨ o = 1 ∨ o = 2 ∨ o = 3 ∨ o = 4 := by omega
  rcases this with rfl | rfl | rfl | rfl | rfl <;> decide
section WT1
variable {M M' : rf_M} {c0 c : Nat} {K : Int → rf_M → Prop} {Ts : tsT} {S : syT} {g : sgT} {w w' : wdT} {cl : clT} {rows : List rwT} {r : rdT} {P : Nat → Nat → Prop}
theorem W77.eq (hS : SI Ts c0 S) (hc : c < 8) (h : W77 M Ts c0 S c) (e : eqy P M M') (q : ∀ b k, pvR b k → ¬ P b k) : W77 M' Ts c0 S c := by
  obtain ⟨h1, h2, h3, h4, h5, h6, h7⟩ := h
  have hl := (hS.2.2.2.2 c hc).1.1
  exact ⟨h1.eq hS e (fun b k a _ => q b k a), h2.eq hl e (fun b k a => q b k (by unfold pvR; omega)), (e.i (q _ _ (by unfold pvR; omega))).trans h3, (e.i (q _ _ (by unfold pvR; omega))).trans h4, rC.eq h5 e (fun b k a => q b k (by unfold pvR; omega)), fun z => (e.i (q _ _ (by unfold pvR; omega))).trans (h6 z), h7⟩
theorem W77.back (h : W77 M Ts c0 S c) : RRS M Ts c0 S := by
  obtain ⟨h1, h2, h3, h4, h5, h6, h7⟩ := h
  refine h1.self ⟨h2, fun t => ?_, fun t => Or.inr ?_, fun t => Or.inr ?_⟩
  · have eb : beg Ts (S.2.2.1 c) = (S.2.2.1 c).2.2.2.2 := by unfold beg; rw [if_pos t]
    rw [eb] at h4 h5
    exact ⟨h3, h4, h5⟩
  · have eb : beg Ts (S.2.2.1 c) = (0, run0 (Ts ((S.2.2.1 c).1.headD 0)).2.2.2, rd0) := by unfold beg; rw [if_neg (by omega)]
    rw [eb] at h4
    exact ⟨h3, h4, h6 (by omega)⟩
  · have eb : beg Ts (S.2.2.1 c) = (0, run0 (Ts ((S.2.2.1 c).1.headD 0)).2.2.2, rd0) := by unfold beg; rw [if_neg (by omega)]
    rw [eb] at h4
    exact ⟨h3, h4, h6 (by omega), h7 t⟩
theorem y_hd (hb : rcb M c (S.2.2.1 c)) (hq : (S.2.2.1 c).1.length ≠ 0) : gi M 380 (16 * c) = (((S.2.2.1 c).1.headD 0 : Nat) : Int) := by
  have := hb.1.2 0 (by omega)
  rw [Nat.add_zero] at this
  rw [this]
  cases hl : (S.2.2.1 c).1 with
  | nil => rfl
  | cons x q => rfl
theorem y_firstOf (hb : rcb M c (S.2.2.1 c)) (hc : c < 8) (hq : (S.2.2.1 c).1.length ≠ 0) (kk : K (((S.2.2.1 c).1.headD 0 : Nat) : Int) M) : em_W_firstOf (c : Int) M K := by
  refine ⟨inr_z (by omega) (by omega), fun _ => ?_⟩
  rw [show (16 * (c : Int)).toNat = 16 * c by omega, y_hd hb hq]
  exact kk
/-- a row is added, the client goes on -/
theorem y_last {kd : Int} {v : Int64} {S' : syT} {K : rf_M → Prop} (hS : SI Ts c0 S) (hc : c < 8) (hq : (S.2.2.1 c).1.length ≠ 0) (ik : inr kd) (e1 : S'.2.2.1 = S.2.2.1) (e2 : S'.2.2.2 = S.2.2.2) (hrows : S.2.2.2.length < 300) (hX : RRX M Ts c0 S' c) (hb : rcb M c (S.2.2.1 c)) (hk : gi M 383 c = ((beg Ts (S.2.2.1 c)).1 : Int)) (kk : ∀ M', RRS M' Ts c0 (S'.1, S'.2.1, va_up S.2.2.1 c (ovr (S.2.2.1 c)), S.2.2.2 ++ [((kd, (c : Int), ((S.2.2.1 c).1.headD 0 : Int), ((beg Ts (S.2.2.1 c)).1 : Int) + 1, (S.2.2.1 c).2.1), v)]) → K M') : inr (gi M 383 c + 1) ∧ em_W_addRow kd (c : Int) (((S.2.2.1 c).1.headD 0 : Nat) : Int) (gi M 383 c + 1) (gi M 384 c) v M (fun M2 => em_W_over (c : Int) M2 K) := by
  have hbeg := beg_ok hS hc hq
  have hcl := hS.2.2.2.2 c hc
  have hc0 := hS.1.1
  have hrl := hS.2.2.1
  have hk3 := hbeg.2.1
  have ht := hbeg.1
  have hcu := hcl.2.1
  rw [hk, hb.2.1]
  refine ⟨inr_z (by omega) (by omega), ?_⟩
  obtain ⟨x1, x2, x3, x4, x5⟩ := hX
  rw [e2] at x5
  refine y_addRow (row := ((kd, (c : Int), ((S.2.2.1 c).1.headD 0 : Int), ((beg Ts (S.2.2.1 c)).1 : Int) + 1, (S.2.2.1 c).2.1), v)) x5 hrows ⟨ik, inr_z (by show (-1000000 : Int) ≤ (c : Int); omega) (by show (c : Int) ≤ 1000000; omega), inr_z (by show (-1000000 : Int) ≤ ((S.2.2.1 c).1.headD 0 : Int); omega) (by show ((S.2.2.1 c).1.headD 0 : Int) ≤ 1000000; omega), inr_z (by show (-1000000 : Int) ≤ ((beg Ts (S.2.2.1 c)).1 : Int) + 1; omega) (by show ((beg Ts (S.2.2.1 c)).1 : Int) + 1 ≤ 1000000; omega), inr_z (by show (-1000000 : Int) ≤ (S.2.2.1 c).2.1; omega) (by show (S.2.2.1 c).2.1 ≤ 1000000; omega)⟩ (fun M2 y2 r2 => ?_)
  have b2 : rcb M2 c (S.2.2.1 c) := hb.eq hcl.1.1 y2 (fun b k h => by omega)
  refine y_over (w := S'.1) hc b2 hq hcl.1.1 (fun M3 y3 c3 => kk M3 ⟨?_, ?_, ?_, fun k hk => ?_, ?_⟩)
  · exact (x1.eq y2 (fun b k _ _ => by omega)).eq y3 (fun b k _ _ => by unfold ccR; omega)
  · exact (x2.eqR y2 (fun b k h => by omega)).eqR y3 (fun b k h => by unfold ccR; omega)
  · exact (x3.eq y2 (fun b k h => by omega)).eq y3 (fun b k h => by unfold ccR; omega)
  · show rcl M3 S'.1 k (va_up S.2.2.1 c (ovr (S.2.2.1 c)) k)
    by_cases e : k = c
    · rw [e, va_up_at]; exact c3
    · rw [va_up_of e]
      have := x4 k hk e
      rw [e1] at this
      have hl := (hS.2.2.2.2 k hk).1.1
      exact ⟨(this.1.eq hl y2 (fun b k h => by omega)).eq hl y3 (fun b k h => by unfold ccR; omega), (this.2.eq y2 (fun b k h => by omega) (fun _ z => z)).eq y3 (fun b k h => by unfold ccR; omega) (fun _ z => z)⟩
  · exact r2.eq y3 (fun b k h => by unfold ccR; omega)
theorem y_endThrown {v : Int64} (hS : SI Ts c0 S) (hc : c < 8) (hq : (S.2.2.1 c).1.length ≠ 0) (hW : W77 M Ts c0 S c) (h300 : 300 ≤ S.2.2.2.length → K (-1) M) (kk : S.2.2.2.length < 300 → ∀ M', RRS M' Ts c0 (S.1, S.2.1, va_up S.2.2.1 c (ovr (S.2.2.1 c)), S.2.2.2 ++ [((2, (c : Int), ((S.2.2.1 c).1.headD 0 : Int), ((beg Ts (S.2.2.1 c)).1 : Int) + 1, (S.2.2.1 c).2.1), v)]) → K 2 M') : em_W_endThrown (c : Int) v M K := by
  obtain ⟨h1, h2, h3, h4, h5, h6, h7⟩ := hW
  have g69 := h1.2.2.2.2.1
  have hrl := hS.2.2.1
  refine ⟨fun h => h300 (by rw [g69] at h; omega), fun h => y_firstOf h2 hc hq (fun _ _ => ?_)⟩
  rw [g69] at h
  rw [tn_]
  exact y_last hS hc hq (inr_z (by omega) (by omega)) rfl rfl (by omega) h1 h2 h4 (kk (by omega))
/-- a turn behind its step -/
theorem y_t111 (hS : SI Ts c0 S) (hc : c < 8) (hq : (S.2.2.1 c).1.length ≠ 0) (hW : W77 M Ts c0 S c) (hd : gi M 353 42 = 0) (hR : rnW M ((S.2.2.1 c).1.headD 0) (Ts ((S.2.2.1 c).1.headD 0)).1 (Ts ((S.2.2.1 c).1.headD 0)).2.1 (Ts ((S.2.2.1 c).1.headD 0)).2.2.1 (Ts ((S.2.2.1 c).1.headD 0)).2.2.2 (out Ts S (S.2.2.1 c)).2.1 (out Ts S (S.2.2.1 c)).2.2) (hv : (out Ts S (S.2.2.1 c)).1.1 = 2 → gl M 353 66 = (out Ts S (S.2.2.1 c)).1.2) (kk : ∀ M', RRS M' Ts c0 (trn2 Ts S c (S.2.2.1 c) (out Ts S (S.2.2.1 c))).2 → K (trn2 Ts S c (S.2.2.1 c) (out Ts S (S.2.2.1 c))).1 M') : e_W_turnOf_111 (c : Int) (ocW (out Ts S (S.2.2.1 c)).1.1) M K := by
  have hbeg := beg_ok hS hc hq
  have hout := out_ok hS hc hq
  have hcl := hS.2.2.2.2 c hc
  have hle := out_le (Ts := Ts) (S := S) (cl := S.2.2.1 c)
  have hbg := hbeg.2.1
  generalize out Ts S (S.2.2.1 c) = o at *
  have oc := fun (_ : Unit) => ocW_ o.1.1 hle
  unfold trn2 at kk
  have hW' := hW
  obtain ⟨h1, h2, h3, h4, h5, h6, h7⟩ := hW
  have cut : ¬ o.1.1 = 0 → stale S.1 o.2.2 = true → ∀ N, eqy (fun b k => b = 353 ∧ k = 1000) M N → e_W_turnOf_144 (c : Int) N K := fun hn hs N yN => by
    rw [if_neg hn, if_pos hs] at kk
    have hrl := hS.2.2.1
    have hcu := hcl.2.1
    refine y_cutRun (w := S.1) hc (h2.eq hcl.1.1 yN (fun b k h => by omega)) hcl.2.2.1 ⟨by omega, by omega⟩ (fun M3 y3 c3 => ?_)
    refine kk M3 (RRX.all ((h1.eq hS yN (fun b k a _ => by unfold pvR at a; omega)).eq hS y3 (fun b k _ a => fun z => a (by unfold ccR; omega))) c3)
  refine ⟨fun z => ?_, fun z => ⟨fun z1 => ?_, fun z1 => ?_⟩⟩
  · have z0 := (oc ()).1.mp z
    rw [if_pos z0] at kk
    have hk3 := (hout.2.2.2.2 z0).1
    intro _ _ M1 e1
    rw [tn_, h4] at e1
    have y1 : eqy (fun b k => b = 383 ∧ k = c) M M1 := by rw [e1]; exact (eqy.rfl' M).wi ⟨rfl, rfl⟩
    refine y_keepRead (r := o.2.2) hc (hR.2.2.2.2.eqR y1 (fun b k h => by omega)) (fun M2 y2 r2 => ?_)
    refine kk M2 (RRX.all ((h1.eq hS y1 (fun b k _ a => fun z => a (by unfold ccR; omega))).eq hS y2 (fun b k _ a => fun z => a (by unfold ccR; omega))) ⟨(h2.eq hcl.1.1 y1 (fun b k h => by omega)).eq hcl.1.1 y2 (fun b k h => by omega), fun _ => ⟨?_, ?_, r2⟩, fun (q : (1 : Nat) = 0) => absurd q (by decide), fun (q : (1 : Nat) = 2) => absurd q (by decide)⟩)
    · exact ((y2.i (by omega)).trans (y1.i (by omega))).trans h3
    · refine (y2.i (by omega)).trans ?_
      rw [e1, gi_at (inr_z (by omega) (by omega))]
      show ((beg Ts (S.2.2.1 c)).1 : Int) + 1 = (((beg Ts (S.2.2.1 c)).1 + 1 : Nat) : Int)
      omega
  · have z3 := (oc ()).2.1.mp z1
    exact cut (by omega) (hout.2.2.1 z3) M (eqy.rfl' M)
  have z0 : ¬ o.1.1 = 0 := fun q => z ((oc ()).1.mpr q)
  have es : stale (wR M 0) (rR M) = stale S.1 o.2.2 := stale_eq (fun l hl => (h1.2.1 l hl).2) hR.2.2.2.2.1 (fun l hl b => (hR.2.2.2.2.2 l hl b).2)
  refine x_isChanged (d := 0) (by rw [hd]; rfl) (by omega) ?_
  rw [es]
  refine ⟨fun hz => ?_, fun hz => ?_⟩
  · have hs : ¬ stale S.1 o.2.2 = true := fun q => by rw [if_pos q] at hz; exact absurd hz (by decide)
    rw [if_neg z0, if_neg hs] at kk
    refine ⟨fun z3 _ M1 e1 _ M2 e2 _ M3 e3 => ?_, fun z3 => ?_⟩
    · have z4 := (oc ()).2.2.2.mp z3
      rw [if_pos z4] at kk
      have zz : (Int32.ofInt 0 &&& 1).toInt = 0 := by decide
      rw [tn_] at e1 e2 e3
      rw [zz] at e3
      have y3 : eqy (fun b k => (b = 382 ∨ b = 383 ∨ b = 385) ∧ k = c) M M3 := by
        rw [e3, e2, e1]
        exact (((eqy.rfl' M).wi ⟨by omega, rfl⟩).wi ⟨by omega, rfl⟩).wi ⟨by omega, rfl⟩
      refine y_keepRead (r := o.2.2) hc (hR.2.2.2.2.eqR y3 (fun b k h => by omega)) (fun M4 y4 r4 => ?_)
      refine kk M4 (RRX.all ((h1.eq hS y3 (fun b k _ a => fun z => a (by unfold ccR; omega))).eq hS y4 (fun b k _ a => fun z => a (by unfold ccR; omega))) ⟨⟨⟨?_, fun j hj => ?_⟩, ?_, ?_⟩, fun (q : (2 : Nat) = 1) => absurd q (by decide), fun (q : (2 : Nat) = 0) => absurd q (by decide), fun _ => Or.inl ⟨?_, r4⟩⟩)
      · exact ((y4.i (by omega)).trans (y3.i (by omega))).trans h2.1.1
      · exact ((y4.i (by omega)).trans (y3.i (by omega))).trans (h2.1.2 j hj)
      · exact ((y4.i (by omega)).trans (y3.i (by omega))).trans h2.2.1
      · refine (y4.i (by omega)).trans ?_
        rw [e3, gi_at (inr_z (by omega) (by omega))]
        rfl
      · refine (y4.i (by omega)).trans ?_
        rw [e3, gi_of (Or.inl (by omega)), e2, gi_of (Or.inl (by omega)), e1, gi_at (inr_z (by omega) (by omega))]
    · have n4 : ¬ o.1.1 = 4 := fun q => z3 ((oc ()).2.2.2.mpr q)
      have n3 : ¬ o.1.1 = 3 := fun q => z1 ((oc ()).2.1.mpr q)
      rw [if_neg n4] at kk
      refine y_isHeld (S := S) hc (fun k hk => ?_) ?_
      · by_cases e : k = c
        · rw [e]; exact h2.2.2
        · exact (h1.2.2.2.1 k hk e).1.2.2
      by_cases hh : hel S c = true
      · rw [if_pos hh] at kk ⊢
        exact ⟨fun q => absurd q (by decide), fun _ => kk M hW'.back⟩
      rw [if_neg hh] at kk ⊢
      refine ⟨fun _ => ⟨fun z2 => ?_, fun z2 => ?_⟩, fun q => absurd rfl q⟩
      · have z2 := (oc ()).2.2.1.mp z2
        rw [hv z2]
        refine y_endThrown hS hc hq hW' (fun h => ?_) (fun h M' hM => ?_)
        · rw [if_pos h] at kk
          exact kk M hW'.back
        · rw [if_neg (by omega), if_neg (fun q => by omega), if_neg (by omega)] at kk
          exact kk M' hM
      · have z2 : o.1.1 = 1 := by
          have : ¬ o.1.1 = 2 := fun q => z2 ((oc ()).2.2.1.mpr q)
          omega
        obtain ⟨hw, G⟩ := hR.2.2.2.1
        obtain ⟨cn, hcn⟩ : ∃ x : Nat, o.2.1.2.1.2.2.2 = (x : Int) := ⟨o.2.1.2.1.2.2.2.toNat, by have := G.2.1; omega⟩
        have hcnw : cn ≤ hw := by have := G.2.1.2; omega
        obtain ⟨gp, ghw, ghk, g2, g3, g4⟩ := hout.1
        have hro : rok Ts c0 S.2.1 := fun j hj => hS.2.1.2 (S.2.1.getD j (0, 0)) (by rw [gD_ hj]; exact List.getElem_mem hj)
        have hrl : ∀ j, j < cn → gi M 393 j = rex Ts ((S.2.2.1 c).1.headD 0, o.2.1.2.2.1 j) := fun j hj => G.2.2.1 j (by omega)
        have hvl : ∀ j, j < cn → vld (Ts ((S.2.2.1 c).1.headD 0)).1 (Ts ((S.2.2.1 c).1.headD 0)).2.1 (o.2.1.2.2.1 j) := fun j hj => g3 j (by omega)
        have fin300 : ∀ N, eqy wwW M N → W77 N Ts c0 S c := fun N yN => hW'.eq hS hc yN (fun b k a => by unfold pvR at a; unfold wwW wkW; omega)
        have hc300 : cn ≤ 400 := by omega
        · refine y_isWell (S := S) (g := o.2.1) (d := 0) (c := cn) hS.1 hbeg.1 h1.1 (by rw [hd]; rfl) (by omega) h1.2.1 h1.2.2.1 hro hS.2.1.1 G.1 hcn hc300 hrl hvl (fun M3 y3 => ?_)
          have W3 := fin300 M3 y3
          have nw : ∀ b k, ¬ (b = 353 ∧ (k = 52 ∨ k = 65 ∨ k = 66)) → ¬ (b = 389 ∨ b = 390 ∨ b = 398 ∨ b = 399) → ¬ wwW b k := fun b k h1 h2 => by unfold wwW wkW; omega
          by_cases hwel : wel Ts S ((S.2.2.1 c).1.headD 0) o.2.1 = true
          · rw [if_pos hwel]
            refine ⟨fun q => absurd q (by decide), fun _ => ?_⟩
            have g69 := W3.1.2.2.2.2.1
            have hrl3 := hS.2.2.1
            refine ⟨fun h => ?_, fun h => ?_⟩
            · rw [g69] at h
              rw [if_pos (by omega)] at kk
              exact kk M3 W3.back
            · rw [g69] at h
              rw [if_neg (by omega), if_pos ⟨z2, hwel⟩] at kk
              have hwl := hwel
              unfold wel at hwl
              rw [Bool.and_eq_true, decide_eq_true_eq] at hwl
              have h32 : S.2.1.length + cn ≤ 32 := by have := hwl.2; omega
              obtain ⟨x1, x2, x3, x4, x5⟩ := W3.1
              refine y_bringIn (S := S) (g := o.2.1) (d := 0) (c := cn) hS.1 hbeg.1 (by rw [y3.i (nw _ _ (by omega) (by omega)), hd]; rfl) (by omega) x2 x3 (G.1.eqR y3 (fun b k h => nw b k (by omega) (by omega))) hcn (fun j hj => (y3.i (nw _ _ (by omega) (by omega))).trans (hrl j hj)) hvl h32 (fun M4 y4 w4 r4 => ?_)
              have y4' : eqy (fun b k => (b = 376 ∨ b = 377) ∨ b = 378 ∨ b = 379) M3 M4 := y4.mono (fun b k h => by omega)
              have bl := brg_le (m := o.2.1.2.1) hS.2.2.2.1 hS.2.2.1
              have X4 : RRX M4 Ts c0 (brg S.1 o.2.1.2.1, S.2.1 ++ nru ((S.2.2.1 c).1.headD 0) o.2.1, S.2.2.1, S.2.2.2) c := by
                refine ⟨x1.eq y4' (fun b k _ _ => by omega), w4, r4, fun k hk hne => ?_, x5.eq y4' (fun b k h => by omega)⟩
                have hcu := hS.2.2.2.2 k hk
                have hx := x4 k hk hne
                exact ⟨hx.1.eq hcu.1.1 y4' (fun b k h => by omega), hx.2.eq y4' (fun b k h => by omega) (fun t hs => stale_up (hcu.2.2.2.2.2.2 (by omega)) (fun l hl => (bl l hl).1) hs)⟩
              have b4 : rcb M4 c (S.2.2.1 c) := W3.2.1.eq hcl.1.1 y4' (fun b k h => by omega)
              refine y_firstOf b4 hc hq (fun _ _ => ?_)
              rw [tn_]
              exact y_last (S' := (brg S.1 o.2.1.2.1, S.2.1 ++ nru ((S.2.2.1 c).1.headD 0) o.2.1, S.2.2.1, S.2.2.2)) hS hc hq (inr_z (by omega) (by omega)) rfl rfl (by omega) X4 b4 ((y4'.i (by omega)).trans W3.2.2.2.1) (fun M5 h5 => kk M5 h5)
          · rw [if_neg hwel]
            refine ⟨fun _ => ?_, fun q => absurd rfl q⟩
            refine y_endThrown hS hc hq W3 (fun h => ?_) (fun h M' hM => ?_)
            · rw [if_pos h] at kk
              exact kk M3 W3.back
            · rw [if_neg (by omega), if_neg (fun q => hwel q.2), if_pos z2] at kk
              exact kk M' hM
  · have hs : stale S.1 o.2.2 = true := by
      by_cases q : stale S.1 o.2.2 = true
      · exact q
      · rw [if_neg q] at hz; exact absurd rfl hz
    exact cut z0 hs M (eqy.rfl' M)
end WT1
section WT2
variable {M M' : rf_M} {c0 c : Nat} {K : Int → rf_M → Prop} {Ts : tsT} {S : syT}
theorem y_t77 (hS : SI Ts c0 S) (hc : c < 8) (hq : (S.2.2.1 c).1.length ≠ 0) (hW : W77 M Ts c0 S c) (kk : ∀ M', RRS M' Ts c0 (trn2 Ts S c (S.2.2.1 c) (out Ts S (S.2.2.1 c))).2 → K (trn2 Ts S c (S.2.2.1 c) (out Ts S (S.2.2.1 c))).1 M') : e_W_turnOf_77 (c : Int) M K := by
  have hbeg := beg_ok hS hc hq
  have hc0 := hS.1.1
  have ht := hbeg.1
  have hk := hbeg.2.1
  have hX := hS.1.2 _ ht
  have hW' := hW
  obtain ⟨h1, h2, h3, h4, h5, h6, h7⟩ := hW
  refine y_walkAnew (w := S.1) (r := (beg Ts (S.2.2.1 c)).2.2) (g := (beg Ts (S.2.2.1 c)).2.1) (k := (beg Ts (S.2.2.1 c)).1) hc (by omega) hX (h1.1 _ ht) (y_hd h2 hq) h4 h5 h1.2.1 (hbeg.2.2.1 S.1 _ (rsub.rfl' _)) hk (fun M1 y1 d1 R1 _ => ?_)
  have np : ∀ b k, pvR b k → ¬ waW b k := fun b k h => by unfold pvR at h; unfold waW stW; omega
  have W1 := hW'.eq hS hc y1 np
  rw [tn_, W1.2.2.2.1]
  have hsub : (out Ts S (S.2.2.1 c)) = (if 300 ≤ (beg Ts (S.2.2.1 c)).1 then ((2, -3), (beg Ts (S.2.2.1 c)).2) else stepp (Ts ((S.2.2.1 c).1.headD 0)).1 S.1 (beg Ts (S.2.2.1 c)).2.1 (beg Ts (S.2.2.1 c)).2.2) := rfl
  refine ⟨fun h M3 e3 => ?_, fun h => ?_⟩
  · have h300 : 300 ≤ (beg Ts (S.2.2.1 c)).1 := by omega
    rw [if_pos h300] at hsub
    have y3 : eqy (fun b k => b = 353 ∧ k = 66) M1 M3 := by rw [e3]; exact (eqy.rfl' _).wl ⟨rfl, rfl⟩
    have W3 := W1.eq hS hc y3 (fun b k a => by unfold pvR at a; omega)
    have := y_t111 (K := K) hS hc hq W3 ((y3.i (by omega)).trans d1) (by rw [hsub]; exact R1.eqR y3 (fun b k h => by omega) (R1.2.2.2.2.eqR y3 (fun b k h => by omega))) (fun _ => by rw [hsub, e3, gl_at]; rfl) kk
    rw [hsub] at this
    exact this
  · have h300 : ¬ 300 ≤ (beg Ts (S.2.2.1 c)).1 := by omega
    rw [if_neg h300] at hsub
    refine y_rstep (d := 0) (w := S.1) (by omega) hX R1 (by rw [d1]; rfl) (by omega) W1.1.2.1 (fun M2 y2 R2 v2 => ?_)
    rw [← hsub] at R2 v2 ⊢
    exact y_t111 hS hc hq (W1.eq hS hc y2 (fun b k a => by unfold pvR at a; unfold stW; omega)) ((y2.i (by unfold stW; omega)).trans d1) R2 v2 kk
theorem y_t47 (hS : SI Ts c0 S) (hc : c < 8) (hq : (S.2.2.1 c).1.length ≠ 0) (hX : RRX M Ts c0 S c) (hb : rcb M c (S.2.2.1 c)) (ht : (S.2.2.1 c).2.2.2.1 ≠ 1) (h2 : (S.2.2.1 c).2.2.2.1 = 2 → stale S.1 (S.2.2.1 c).2.2.2.2.2.2 = true) (hz : gi M 382 c = 0) (kk : ∀ M', RRS M' Ts c0 (trn2 Ts S c (S.2.2.1 c) (out Ts S (S.2.2.1 c))).2 → K (trn2 Ts S c (S.2.2.1 c) (out Ts S (S.2.2.1 c))).1 M') : e_W_turnOf_47 (c : Int) M K := by
  have hcl := hS.2.2.2.2 c hc
  refine fun _ => ⟨fun _ _ M1 e1 _ M2 e2 _ M3 e3 => ?_, fun q => absurd (by rw [tn_]; exact hz) q⟩
  rw [tn_] at e1 e2 e3
  have y3 : eqy (fun b k => (b = 382 ∨ b = 383 ∨ b = 386) ∧ k = c) M M3 := by
    rw [e3, e2, e1]
    exact (((eqy.rfl' M).wi ⟨by omega, rfl⟩).wi ⟨by omega, rfl⟩).wi ⟨by omega, rfl⟩
  have eb : beg Ts (S.2.2.1 c) = (0, run0 (Ts ((S.2.2.1 c).1.headD 0)).2.2.2, rd0) := by unfold beg; rw [if_neg ht]
  have g386 : gi M3 386 c = 0 := by rw [e3, gi_at (inr_z (by omega) (by omega))]
  refine y_t77 hS hc hq ⟨hX.eq hS y3 (fun b k _ a => fun z => a (by unfold ccR; omega)), hb.eq hcl.1.1 y3 (fun b k h => by omega), ?_, ?_, ?_, fun _ => g386, h2⟩ kk
  · rw [e3, gi_of (Or.inl (by omega)), e2, gi_of (Or.inl (by omega)), e1, gi_at (inr_z (by omega) (by omega))]
  · rw [eb, e3, gi_of (Or.inl (by omega)), e2, gi_at (inr_z (by omega) (by omega))]
    rfl
  · rw [eb]
    refine ⟨?_, fun l _ b => ?_⟩
    · show M3.1 386 c = 0
      rw [e3]
      show (rf_wi M2 386 c _).1 386 c = _
      rw [rf_wi_at]
      rfl
    · rw [show bt rd0.1 l = false from bt_0 l] at b; cases b
/-- a turn -/
theorem y_turnOf (hS : SI Ts c0 S) (hc : c < 8) (hR : RRS M Ts c0 S) (kk : ∀ M', RRS M' Ts c0 (trn Ts S c).2 → K (trn Ts S c).1 M') : em_W_turnOf (c : Int) M K := by
  have hcl := hS.2.2.2.2 c hc
  obtain ⟨rb, rs⟩ := hR.2.2.2.1 c hc
  have htg := hcl.2.2.2.2.1
  unfold trn at kk
  refine fun _ => ?_
  rw [tn_, rb.1.1]
  by_cases hq : (S.2.2.1 c).1.length = 0
  · rw [if_pos hq] at kk
    exact ⟨fun _ => kk M hR, fun q => absurd (by omega) q⟩
  rw [if_neg hq] at kk
  refine ⟨fun q => absurd (by omega) hq, fun _ _ => ?_⟩
  -- a run that has begun, or is to begin
  have go : gi M 382 c = 1 → gi M 383 c = ((beg Ts (S.2.2.1 c)).1 : Int) → req (beg Ts (S.2.2.1 c)).2.2 (rC M c) → ((S.2.2.1 c).2.2.2.1 ≠ 1 → gi M 386 c = 0) → ((S.2.2.1 c).2.2.2.1 = 2 → stale S.1 (S.2.2.1 c).2.2.2.2.2.2 = true) → (gi M 382 c = 2 → ∀ M1 : rf_M, M1 = wi M 353 42 0 → em_W_bringRead (c : Int) M1 (fun M2 => em_W_isChanged M2 (fun z3 M3 => (z3 = 0 → K 4 M3) ∧ (¬ z3 = 0 → ((0 : Int) ≤ (c : Int) ∧ (c : Int) < 8 → ∀ M4 : rf_M, M4 = wi M3 382 c 0 → e_W_turnOf_47 (c : Int) M4 K))))) ∧ (¬ gi M 382 c = 2 → e_W_turnOf_47 (c : Int) M K) := fun a1 a2 a3 a4 a5 => by
    refine ⟨fun q => by omega, fun _ _ => ⟨fun q => absurd q (by rw [tn_, a1]; decide), fun _ => ?_⟩⟩
    refine y_t77 hS hc hq ⟨hR.x, rb, a1, a2, a3, a4, a5⟩ ?_
    rw [if_neg (fun q => by rw [a5 q.1] at q; exact absurd q.2 (by decide))] at kk
    exact kk
  have fresh : (S.2.2.1 c).2.2.2.1 ≠ 1 → gi M 386 c = 0 → beg Ts (S.2.2.1 c) = (0, run0 (Ts ((S.2.2.1 c).1.headD 0)).2.2.2, rd0) ∧ req (beg Ts (S.2.2.1 c)).2.2 (rC M c) := fun ht h6 => by
    have eb : beg Ts (S.2.2.1 c) = (0, run0 (Ts ((S.2.2.1 c).1.headD 0)).2.2.2, rd0) := by unfold beg; rw [if_neg ht]
    refine ⟨eb, ?_⟩
    rw [eb]
    refine ⟨?_, fun l _ b => ?_⟩
    · show M.1 386 c = 0
      exact Int32.toInt_inj.mp (by rw [show (M.1 386 c).toInt = gi M 386 c from rfl, h6]; rfl)
    · rw [show bt rd0.1 l = false from bt_0 l] at b; cases b
  have cases3 : (S.2.2.1 c).2.2.2.1 = 0 ∨ (S.2.2.1 c).2.2.2.1 = 1 ∨ (S.2.2.1 c).2.2.2.1 = 2 := by omega
  rcases cases3 with t0 | t1 | t2
  · rw [if_neg (fun q => by omega)] at kk
    rcases rs.2.1 t0 with a | ⟨a1, a2, a3⟩
    · refine ⟨fun q => by omega, fun _ => y_t47 hS hc hq hR.x rb (by omega) (fun q => by omega) a kk⟩
    · have f := fresh (by omega) a3
      exact go a1 (by rw [f.1]; exact a2) f.2 (fun _ => a3) (fun q => by omega)
  · obtain ⟨a1, a2, a3⟩ := rs.1 t1
    have eb : beg Ts (S.2.2.1 c) = (S.2.2.1 c).2.2.2.2 := by unfold beg; rw [if_pos t1]
    exact go a1 (by rw [eb]; exact a2) (by rw [eb]; exact a3) (fun q => absurd t1 q) (fun q => by omega)
  · rcases rs.2.2 t2 with ⟨a1, a2⟩ | ⟨a1, a2, a3, a4⟩
    · refine ⟨fun _ M1 e1 => ?_, fun q => absurd a1 q⟩
      have y1 : eqy (fun b k => b = 353 ∧ k = 42) M M1 := by rw [e1]; exact (eqy.rfl' M).wi ⟨rfl, rfl⟩
      refine y_bringRead hc (rC.eq a2 y1 (fun b k h => by omega)) (fun M2 y2 r2 => ?_)
      have y12 : eqy (fun b k => (b = 353 ∧ k = 42) ∨ vwR b k) M M2 := (y1.mono (fun b k h => Or.inl h)).trans (y2.mono (fun b k h => Or.inr h))
      have np : ∀ b k, pvR b k → ¬ ((b = 353 ∧ k = 42) ∨ vwR b k) := fun b k h => by unfold pvR at h; unfold vwR; omega
      have d2 : gi M2 353 42 = 0 := by rw [y2.i (by unfold vwR; omega), e1, gi_at (inr_z (by omega) (by omega))]
      have R2 := hR.eq hS y12 np
      refine x_isChanged (d := 0) (by rw [d2]; rfl) (by omega) ?_
      rw [stale_eq (w := S.1) (r := (S.2.2.1 c).2.2.2.2.2.2) (fun l hl => (R2.2.1 l hl).2) r2.1 (fun l hl b => (r2.2 l hl b).2)]
      cases hs : stale S.1 (S.2.2.1 c).2.2.2.2.2.2 with
      | false =>
        rw [if_pos ⟨t2, hs⟩] at kk
        rw [if_neg (by decide)]
        exact ⟨fun _ => kk M2 R2, fun q => absurd rfl q⟩
      | true =>
        rw [if_neg (fun q => by rw [hs] at q; exact absurd q.2 (by decide))] at kk
        rw [if_pos rfl]
        refine ⟨fun q => absurd q (by decide), fun _ _ M4 e4 => ?_⟩
        have y4 : eqy (fun b k => b = 382 ∧ k = c) M2 M4 := by rw [e4]; exact (eqy.rfl' _).wi ⟨rfl, rfl⟩
        obtain ⟨rb2, -⟩ := R2.2.2.2.1 c hc
        refine y_t47 hS hc hq (RRX.eq hS R2.x y4 (fun b k _ a => fun z => a (by unfold ccR; omega))) (rb2.eq hcl.1.1 y4 (fun b k h => by omega)) (by omega) (fun _ => hs) (by rw [e4, gi_at (inr_z (by omega) (by omega))]) kk
    · have f := fresh (by omega) a3
      exact go a1 (by rw [f.1]; exact a2) f.2 (fun _ => a3) (fun _ => a4)
end WT2
/-! THE PURE PICTURE: the other calls -/
def putS (Ts : tsT) (S : syT) (z : Int) (v : Int64) : Int × syT :=
  if 0 ≤ z ∧ z < 16 ∧ S.2.2.2.length < 300 then
    (if S.2.1.all (hld Ts (va_up S.1.1 z.toNat v)) = true then ((Int32.ofInt ((S.1.2 z.toNat).toInt + 1)).toInt, ((va_up S.1.1 z.toNat v, va_up S.1.2 z.toNat (Int32.ofInt ((S.1.2 z.toNat).toInt + 1))), S.2.1, S.2.2.1, S.2.2.2 ++ [((0, -1, z, 0, 0), v)])) else (-2, S))
  else (-1, S)
def addS (c0 : Nat) (S : syT) (x y : Int) : Int × syT :=
  if 0 ≤ x ∧ x < 8 ∧ 0 ≤ y ∧ y < (c0 : Int) ∧ (S.2.2.1 x.toNat).1.length < 16 then (((S.2.2.1 x.toNat).1.length : Int) + 1, setc S x.toNat ((S.2.2.1 x.toNat).1 ++ [y.toNat], (S.2.2.1 x.toNat).2)) else (-1, S)
def clN : clT := ([], 0, false, 0, 0, run0 (-1), rd0)
def clrS (S : syT) : Int × syT := ((S.2.2.2.length : Int), (wd0, [], fun _ => clN, []))
/-- the next seed; the client that it draws -/
def sdN (s : Int64) : Int64 := Int64.ofNat 6364136223846793005 * s + Int64.ofNat 1442695040888963407
def sdC (s : Int64) : Int := ((s.toUInt64 >>> ((Int32.ofInt 61).toInt64.toUInt64 &&& Int64.toUInt64 63)).toInt64).toInt32.toInt
def plyS (Ts : tsT) : Nat → Int64 → Int → syT → Int × syT
  | 0, _, d, S => (d, S)
  | n + 1, s, d, S => plyS Ts n (sdN s) (if (trn Ts S (sdC (sdN s)).toNat).1 = 1 then d + 1 else d) (trn Ts S (sdC (sdN s)).toNat).2
def seesS (S : syT) (x y : Int) : Int64 :=
  if 0 ≤ x ∧ x < 8 ∧ 0 ≤ y ∧ y < 26 then
    (if (S.2.2.1 x.toNat).2.2.2.1 = 1 then shw S.1 (S.2.2.1 x.toNat).2.2.2.2.2.1.2.1 (S.2.2.1 x.toNat).2.2.2.2.2.2 y else if y < 16 then S.1.1 y.toNat else 0)
  else 0
theorem ir_0 : inr (0 : Int) := inr_z (by decide) (by decide)
theorem ir_1 : inr (-1 : Int) := inr_z (by decide) (by decide)
section SC
variable {Ts : tsT} {c0 : Nat} {S : syT}
theorem sdC_lt (s : Int64) : ∃ l : Nat, l < 8 ∧ sdC s = (l : Int) := hi3 s
theorem SI_put {z : Int} {v : Int64} (h : SI Ts c0 S) : SI Ts c0 (putS Ts S z v).2 := by
  unfold putS
  split
  · rename_i hz
    split
    · have h4 := h.2.2.2.1
      have hl3 := hz.2.2
      have mo : ∀ l, l < 16 → (S.1.2 l).toInt ≤ (va_up S.1.2 z.toNat (Int32.ofInt ((S.1.2 z.toNat).toInt + 1)) l).toInt ∧ 0 ≤ (va_up S.1.2 z.toNat (Int32.ofInt ((S.1.2 z.toNat).toInt + 1)) l).toInt ∧ (va_up S.1.2 z.toNat (Int32.ofInt ((S.1.2 z.toNat).toInt + 1)) l).toInt ≤ (S.2.2.2.length : Int) + 1 := fun l hl => by
        have := h4 l hl
        by_cases e : l = z.toNat
        · rw [e] at this ⊢
          rw [va_up_at, ti_ofi (inr_z (by omega) (by omega))]
          omega
        · rw [va_up_of e]
          omega
      refine ⟨h.1, h.2.1, by show (S.2.2.2 ++ [_]).length ≤ 300; simp; omega, fun l hl => ?_, fun c hc => ?_⟩
      · refine ⟨(mo l hl).2.1, ?_⟩
        show _ ≤ ((S.2.2.2 ++ [_]).length : Int)
        rw [List.length_append]
        exact (mo l hl).2.2
      · exact cli_up (h.2.2.2.2 c hc) (fun l hl => (mo l hl).1) (by show S.2.2.2.length < (S.2.2.2 ++ [_]).length; simp)
    · exact h
  · exact h
theorem hd_app {q : List Nat} {y : Nat} (h : q.length ≠ 0) : (q ++ [y]).headD 0 = q.headD 0 := by
  cases q with
  | nil => exact absurd rfl h
  | cons x q => rfl
theorem SI_add {x y : Int} (h : SI Ts c0 S) : SI Ts c0 (addS c0 S x y).2 := by
  unfold addS
  split
  · rename_i hz
    obtain ⟨c, hc⟩ : ∃ c : Nat, x = (c : Int) := ⟨x.toNat, by omega⟩
    rw [hc, tn_]
    have hz5 := hz.2.2.2.2
    rw [hc, tn_] at hz5
    have hcl := h.2.2.2.2 c (by omega)
    refine SI_setc h ?_
    generalize S.2.2.1 c = cl at *
    obtain ⟨g1, g2, g3, g4, g5, g6, g7⟩ := hcl
    refine ⟨⟨?_, fun t ht => ?_⟩, g2, g3, fun q => ?_, g5, fun q => ?_, g7⟩
    · show (cl.1 ++ [y.toNat]).length ≤ 16
      simp
      omega
    · rcases List.mem_append.mp ht with ht | ht
      · exact g1.2 t ht
      · have : t = y.toNat := by simpa using ht
        omega
    · have q : (cl.1 ++ [y.toNat]).length = 0 := q
      simp at q
    · have hne : cl.1.length ≠ 0 := fun z => by
        have := g4 z
        have q : cl.2.2.2.1 = 1 := q
        omega
      have := g6 q
      show (1 ≤ cl.2.2.2.2.1 ∧ cl.2.2.2.2.1 ≤ 300) ∧ wkd (Ts ((cl.1 ++ [y.toNat]).headD 0)).1 (run0 (Ts ((cl.1 ++ [y.toNat]).headD 0)).2.2.2) _ _ _ ∧ gvl (Ts ((cl.1 ++ [y.toNat]).headD 0)).1 (Ts ((cl.1 ++ [y.toNat]).headD 0)).2.1 _ _ ∧ _
      rw [hd_app hne]
      exact this
  · exact h
theorem SI_clr (h : SI Ts c0 S) : SI Ts c0 (clrS S).2 := by
  refine ⟨h.1, ⟨by show 0 ≤ 32; omega, fun q hq => by cases hq⟩, by show 0 ≤ 300; omega, fun l _ => ⟨by show (0 : Int) ≤ (0 : Int32).toInt; decide, by show (0 : Int32).toInt ≤ ((0 : Nat) : Int); decide⟩, fun c _ => ?_⟩
  exact ⟨⟨by show 0 ≤ 16; omega, fun t ht => by cases ht⟩, ⟨by show (0 : Int) ≤ 0; omega, by show (0 : Int) ≤ ((0 : Nat) : Int); omega⟩, fun (q : false = true) => absurd q (by decide), fun _ => rfl, by show 0 ≤ 2; omega, fun (q : (0 : Nat) = 1) => absurd q (by decide), fun (q : (0 : Nat) ≠ 0) => absurd rfl q⟩
theorem SI_ply : ∀ (n : Nat) (s : Int64) (d : Int) (S : syT), SI Ts c0 S → SI Ts c0 (plyS Ts n s d S).2
  | 0, _, _, _, h => h
  | n + 1, s, d, S, h => by
    obtain ⟨l, hl, e⟩ := sdC_lt (sdN s)
    exact SI_ply n _ _ _ (SI_trn h (by rw [e, tn_]; exact hl))
end SC
section PCa
variable {M M' : rf_M} {c0 c : Nat} {K : Int → rf_M → Prop} {Ts : tsT} {S : syT}
theorem x_isClient {z : Int} (h1 : 0 ≤ z ∧ z < 8 → K 1 M) (h0 : ¬ (0 ≤ z ∧ z < 8) → K 0 M) : em_M_isClient z M K :=
  ⟨fun h => ⟨Or.inl rfl, h0 (by omega)⟩, fun h => ⟨fun g => ⟨Or.inl rfl, h0 (by omega)⟩, fun g => ⟨Or.inr rfl, h1 (by omega)⟩⟩⟩
theorem x_turn {z : Int} (hS : SI Ts c0 S) (hP : RPS M Ts c0 S) (h1 : 0 ≤ z ∧ z < 8 → ∀ M', RPS M' Ts c0 (trn Ts S z.toNat).2 → K (trn Ts S z.toNat).1 M') (h0 : ¬ (0 ≤ z ∧ z < 8) → K (-1) M) : em_M_turn z M K := by
  refine x_isClient (fun h => ⟨fun q => absurd q (by decide), fun _ => ?_⟩) (fun h => ⟨fun _ => h0 h, fun q => absurd rfl q⟩)
  obtain ⟨c, rfl⟩ : ∃ c : Nat, z = (c : Int) := ⟨z.toNat, by omega⟩
  have := h1 h
  rw [tn_] at this
  exact x_takeTurn hS (by omega) hP this
theorem x_play {s : Int64} {n : Int} (hS : SI Ts c0 S) (hP : RPS M Ts c0 S) (h1 : 0 ≤ n ∧ n ≤ 2000 → ∀ M', RPS M' Ts c0 (plyS Ts n.toNat s 0 S).2 → K (plyS Ts n.toNat s 0 S).1 M') (h0 : ¬ (0 ≤ n ∧ n ≤ 2000) → K (-1) M) : em_M_play s n M K := by
  refine ⟨fun h => h0 (by omega), fun h => ⟨fun h' => ?_, fun h' => h0 (by omega)⟩⟩
  obtain ⟨n, rfl⟩ : ∃ x : Nat, n = (x : Int) := ⟨n.toNat, by omega⟩
  have h1 := h1 ⟨by omega, h'⟩
  rw [tn_] at h1
  generalize hR : plyS Ts n s 0 S = R at h1
  refine ⟨fun v3 v4 v6 v7 M' => v3 = (n : Int) ∧ ∃ (i : Nat) (S' : syT), v7 = (i : Int) ∧ i ≤ n ∧ SI Ts c0 S' ∧ RPS M' Ts c0 S' ∧ plyS Ts (n - i) v4 v6 S' = R ∧ 0 ≤ v6 ∧ v6 ≤ (i : Int), ⟨rfl, 0, S, rfl, Nat.zero_le _, hS, hP, hR, by omega, by omega⟩, ?_⟩
  rintro v3 v4 v6 v7 M1 - - - ⟨rfl, i, S1, rfl, hi, hS1, hP1, e1, d0, d1⟩
  refine ⟨fun hq => ?_, fun hq => ?_⟩
  · have : n - i = 0 := by omega
    rw [this] at e1
    have h1 := h1 M1
    rw [← e1] at h1
    exact h1 hP1
  · obtain ⟨l, hl, el⟩ := sdC_lt (sdN v4)
    have en : n - i = (n - (i + 1)) + 1 := by omega
    rw [en] at e1
    unfold plyS at e1
    rw [el, tn_] at e1
    show em_M_takeTurn (sdC (sdN v4)) M1 _
    rw [el]
    refine x_takeTurn hS1 hl hP1 (fun M2 hP2 => ⟨fun z => ?_, fun z => ?_⟩)
    · rw [if_pos z] at e1
      exact ⟨inr_z (by omega) (by omega), inr_z (by omega) (by omega), rfl, i + 1, _, by omega, by omega, SI_trn hS1 hl, hP2, e1, by omega, by omega⟩
    · rw [if_neg z] at e1
      exact ⟨inr_z (by omega) (by omega), rfl, i + 1, _, by omega, by omega, SI_trn hS1 hl, hP2, e1, by omega, by omega⟩
theorem x_put {z : Int} {v : Int64} (hS : SI Ts c0 S) (hP : RPS M Ts c0 S) (kk : ∀ M', RPS M' Ts c0 (putS Ts S z v).2 → K (putS Ts S z v).1 M') : em_M_put z v M K := by
  unfold putS at kk
  have hro : rok Ts c0 S.2.1 := fun j hj => hS.2.1.2 (S.2.1.getD j (0, 0)) (by rw [gD_ hj]; exact List.getElem_mem hj)
  refine x_isCell (fun hc => ⟨fun q => absurd q (by decide), fun _ => ?_⟩) (fun hc => ⟨fun _ => ?_, fun q => absurd rfl q⟩)
  · obtain ⟨l, rfl⟩ : ∃ l : Nat, z = (l : Int) := ⟨z.toNat, by omega⟩
    have hl : l < 16 := by omega
    have grow := hP.2.2.2.2.1
    refine x_isFull (by omega) (fun hf => ⟨fun _ => ?_, fun q => absurd rfl q⟩) (fun hf => ⟨fun q => absurd q (by decide), fun _ => ?_⟩)
    · have h3 : S.2.2.2.length < 300 := by omega
      rw [if_pos ⟨by omega, by omega, h3⟩, tn_] at kk
      refine x_allows (w := S.1) (rs := S.2.1) (by omega) hl hS.1 hP.1 hP.2.1 hP.2.2.1 hro hS.2.1.1 (fun M1 y1 => ?_)
      have nal : ∀ b k, ¬ (192 ≤ b ∧ b ≤ 194) → ¬ (b = 187 ∧ k = 7) → ¬ alP 187 b k := fun b k h1 h2 => by unfold alP wsP; omega
      have P1 : RPS M1 Ts c0 S := ⟨hP.1.eq hS.1.1 y1 (fun b k h => nal b k (by omega) (by omega)), hP.2.1.eqP y1 (fun b k h => nal b k (by omega) (by omega)), hP.2.2.1.eq y1 (fun b k h => nal b k (by omega) (by omega)), fun j hj => (hP.2.2.2.1 j hj).eq (by omega) (hd12 hS hj) (fun b i h => ⟨(y1.1 b i (nal b i (by omega) (by omega))).1, (y1.1 b i (nal b i (by omega) (by omega))).2, by rw [y1.2]⟩), hP.2.2.2.2.eq (fun b k h1 h2 => y1.1 b k (nal b k (by omega) (by omega)))⟩
      by_cases ha : S.2.1.all (hld Ts (va_up S.1.1 l v)) = true
      · rw [if_pos ha] at kk ⊢
        refine ⟨fun q => absurd q (by decide), fun _ => x_write hl (fun M2 y2 a1 a2 => ?_)⟩
        have a2 : M2.1 189 l = Int32.ofInt ((S.1.2 l).toInt + 1) := by
          rw [show (187 + 2 : Nat) = 189 from rfl] at a2
          rw [a2]
          rw [show M1.1 189 l = S.1.2 l from (P1.2.1 l hl).2]
        refine x_note (row := ((0, -1, (l : Int), 0, 0), v)) (P1.2.2.2.2.eq (fun b k h1 h2 => y2.1 b k (by omega))) h3 ⟨ir_0, ir_1, inr_z (by show (-1000000 : Int) ≤ (l : Int); omega) (by show (l : Int) ≤ 1000000; omega), ir_0, ir_0⟩ (fun M3 y3 r3 _ => ?_)
        rw [tn_, show gi M3 189 l = (Int32.ofInt ((S.1.2 l).toInt + 1)).toInt by rw [y3.i (by omega)]; exact congrArg Int32.toInt a2]
        refine kk M3 ⟨?_, fun j hj => ?_, ?_, fun j hj => ?_, r3⟩
        · exact (P1.1.eq hS.1.1 y2 (fun b k h => by omega)).eq hS.1.1 y3 (fun b k h => by omega)
        · constructor
          · show gl M3 188 j = va_up S.1.1 l v j
            rw [y3.l (by omega)]
            by_cases e : j = l
            · rw [e, va_up_at]; exact a1
            · rw [va_up_of e, y2.l (by omega)]
              exact (P1.2.1 j hj).1
          · show M3.1 189 j = va_up S.1.2 l _ j
            rw [(y3.1 189 j (by omega)).1]
            by_cases e : j = l
            · rw [e, va_up_at]; exact a2
            · rw [va_up_of e, (y2.1 189 j (by omega)).1]
              exact (P1.2.1 j hj).2
        · exact (P1.2.2.1.eq y2 (fun b k h => by omega)).eq y3 (fun b k h => by omega)
        · exact (P1.2.2.2.1 j hj).eq (by omega) (hd12 hS hj) (fun b i h => ⟨((y3.1 b i (by omega)).1).trans (y2.1 b i (by omega)).1, ((y3.1 b i (by omega)).2).trans (y2.1 b i (by omega)).2, by rw [y3.2, y2.2]⟩)
      · rw [if_neg ha] at kk ⊢
        exact ⟨fun _ => kk M1 P1, fun q => absurd rfl q⟩
    · rw [if_neg (fun q => by omega)] at kk
      exact kk M hP
  · rw [if_neg (fun q => hc ⟨q.1, q.2.1⟩)] at kk
    exact kk M hP
theorem x_add {x y : Int} (hS : SI Ts c0 S) (hP : RPS M Ts c0 S) (hcc : gi M 22 3 = (c0 : Int)) (kk : ∀ M', RPS M' Ts c0 (addS c0 S x y).2 → K (addS c0 S x y).1 M') : em_M_add x y M K := by
  unfold addS at kk
  refine x_isClient (fun hx => ⟨fun q => absurd q (by decide), fun _ => ?_⟩) (fun hx => ⟨fun _ => ?_, fun q => absurd rfl q⟩)
  · obtain ⟨c, rfl⟩ : ∃ c : Nat, x = (c : Int) := ⟨x.toNat, by omega⟩
    have hc : c < 8 := by omega
    obtain ⟨pb, ps, pr, pw⟩ := hP.2.2.2.1 c hc
    have hcl := hS.2.2.2.2 c hc
    rw [tn_] at kk
    have no : ¬ (0 ≤ y ∧ y < (c0 : Int)) → K (-1) M := fun h => by
      rw [if_neg (fun q => h ⟨q.2.2.1, q.2.2.2.1⟩)] at kk
      exact kk M hP
    have yes : 0 ≤ y ∧ y < (c0 : Int) → ((0 : Int) ≤ (c : Int) ∧ (c : Int) < 8 → em_C_enlist (clA (c : Int)) y M (fun z3 M3 => K z3 M3)) := fun h _ => by
      rw [clA_]
      refine ⟨fun hq _ M1 e1 M2 e2 => ?_, fun hq => ?_⟩
      · rw [pb.1.1] at hq
        have hq' : (S.2.2.1 c).1.length < 16 := by omega
        rw [if_pos ⟨by omega, by omega, h.1, h.2, hq'⟩] at kk
        rw [pb.1.1, tn_] at e1
        have g1 : gi M1 (196 + 16 * c) 5 = ((S.2.2.1 c).1.length : Int) := by rw [e1, gi_of (Or.inl (by omega))]; exact pb.1.1
        rw [g1] at e2
        have hc0 := hS.1.1
        have y2 : eqy (fun b k => (b = 196 + 16 * c ∧ k = 5) ∨ b = 196 + 16 * c + 1) M M2 := by
          rw [e2, e1]
          exact ((eqy.rfl' M).wi (Or.inr rfl)).wi (Or.inl ⟨rfl, rfl⟩)
        have g2 : gi M2 (196 + 16 * c) 5 = ((S.2.2.1 c).1.length : Int) + 1 := by rw [e2, gi_at (inr_z (by omega) (by omega))]
        have q2 : ∀ j, j < (S.2.2.1 c).1.length + 1 → gi M2 (196 + 16 * c + 1) j = ((((S.2.2.1 c).1 ++ [y.toNat]).getD j 0 : Nat) : Int) := fun j hj => by
          rw [e2, gi_of (Or.inl (by omega)), e1]
          by_cases e : j = (S.2.2.1 c).1.length
          · have er : ((S.2.2.1 c).1 ++ [y.toNat]).getD j 0 = y.toNat := by
              have := app_getD2 (l := (S.2.2.1 c).1) (m := [y.toNat]) (j := 0) (d := 0) (by simp)
              rw [Nat.add_zero, ← e] at this
              exact this
            rw [er, e, gi_at (inr_z (by omega) (by omega))]
            omega
          · rw [gi_of (Or.inr e), app_getD1 (by omega)]
            exact pb.1.2 j (by omega)
        have fin : ∀ M3, eqy (fun b k => b = 196 + 16 * c ∧ k = 0) M2 M3 → gi M3 (196 + 16 * c) 0 = ((S.2.2.1 c).2.2.2.1 : Int) + 1 → e_C_enlist_43 (196 + 16 * c) M3 (fun z3 M3 => K z3 M3) := fun M3 y3 s3 => by
          show K (gi M3 (196 + 16 * c) 5) M3
          rw [y3.i (by omega), g2]
          have X3 : RPX M3 Ts c0 S c := hP.x.eq hS hc (fun b k h => ⟨((y3.1 b k (by omega)).1).trans (y2.1 b k (by omega)).1, ((y3.1 b k (by omega)).2).trans (y2.1 b k (by omega)).2, by rw [y3.2, y2.2]⟩)
          refine kk M3 (X3.all ⟨⟨⟨?_, fun j hj => ?_⟩, ?_, ?_⟩, ?_, fun ht => ?_, ?_⟩)
          · rw [y3.i (by omega), g2]
            show _ = (((S.2.2.1 c).1 ++ [y.toNat]).length : Int)
            simp
          · have hj : j < ((S.2.2.1 c).1 ++ [y.toNat]).length := hj
            simp at hj
            rw [y3.i (by omega)]
            exact q2 j (by omega)
          · exact ((y3.i (by omega)).trans (y2.i (by omega))).trans pb.2.1
          · exact ((y3.i (by omega)).trans (y2.i (by omega))).trans pb.2.2
          · rw [s3, if_neg (by show ¬ ((S.2.2.1 c).1 ++ [y.toNat]).length = 0; simp)]
          · have hne : (S.2.2.1 c).1.length ≠ 0 := fun z => by
              have := hcl.2.2.2.1 z
              have ht : (S.2.2.1 c).2.2.2.1 = 1 := ht
              omega
            have := pr ht
            show rnR M3 _ (25 + 12 * ((S.2.2.1 c).1 ++ [y.toNat]).headD 0) (Ts (((S.2.2.1 c).1 ++ [y.toNat]).headD 0)).1 (Ts (((S.2.2.1 c).1 ++ [y.toNat]).headD 0)).2.1 (Ts (((S.2.2.1 c).1 ++ [y.toNat]).headD 0)).2.2.1 (Ts (((S.2.2.1 c).1 ++ [y.toNat]).headD 0)).2.2.2 _ _ _
            rw [hd_app hne]
            have h12 := hd12 hS hc ht
            exact this.eq3 (by omega) (fun b k h => ⟨((y3.1 b k (by omega)).1).trans (y2.1 b k (by omega)).1, ((y3.1 b k (by omega)).2).trans (y2.1 b k (by omega)).2, by rw [y3.2, y2.2]⟩)
          · exact pcw.eq (cl := ((S.2.2.1 c).1 ++ [y.toNat], (S.2.2.1 c).2)) pw (fun b k h => ((y3.1 b k (by omega)).1).trans (y2.1 b k (by omega)).1)
        have s2 : gi M2 (196 + 16 * c) 0 = (if (S.2.2.1 c).1.length = 0 then 0 else ((S.2.2.1 c).2.2.2.1 : Int) + 1) := (y2.i (by omega)).trans ps
        refine ⟨fun hs M3 e3 => fin M3 (by rw [e3]; exact (eqy.rfl' _).wi ⟨rfl, rfl⟩) ?_, fun hs => fin M2 (eqy.rfl' _) ?_⟩
        · rw [e3, gi_at (inr_z (by omega) (by omega))]
          rw [s2] at hs
          by_cases hl : (S.2.2.1 c).1.length = 0
          · rw [hcl.2.2.2.1 hl]; rfl
          · rw [if_neg hl] at hs; omega
        · rw [s2] at hs ⊢
          by_cases hl : (S.2.2.1 c).1.length = 0
          · rw [if_pos hl] at hs; exact absurd rfl hs
          · rw [if_neg hl]
      · rw [pb.1.1] at hq
        rw [if_neg (fun q => by omega)] at kk
        exact kk M hP
    refine ⟨fun h => ⟨Or.inl rfl, fun _ => no (by omega), fun q => absurd rfl q⟩, fun h => ⟨fun h' => ⟨Or.inl rfl, fun _ => no (by rw [hcc] at h'; omega), fun q => absurd rfl q⟩, fun h' => ⟨Or.inr rfl, fun q => absurd q (by decide), fun _ => yes (by rw [hcc] at h'; omega)⟩⟩⟩
  · rw [if_neg (fun q => hx ⟨q.1, q.2.1⟩)] at kk
    exact kk M hP
end PCa
/-! the calls that only tell; clear -/
def celS (S : syT) (z : Int) : Int64 := if 0 ≤ z ∧ z < 16 then S.1.1 z.toNat else 0
def verS (S : syT) (z : Int) : Int := if 0 ≤ z ∧ z < 16 then (S.1.2 z.toNat).toInt else -1
def rowS (S : syT) (i w : Int) : Int := if 0 ≤ i ∧ i < (S.2.2.2.length : Int) then (if w = 0 then (S.2.2.2.getD i.toNat ((0, 0, 0, 0, 0), 0)).1.1 else if w = 1 then (S.2.2.2.getD i.toNat ((0, 0, 0, 0, 0), 0)).1.2.1 else if w = 2 then (S.2.2.2.getD i.toNat ((0, 0, 0, 0, 0), 0)).1.2.2.1 else if w = 3 then (S.2.2.2.getD i.toNat ((0, 0, 0, 0, 0), 0)).1.2.2.2.1 else if w = 4 then (S.2.2.2.getD i.toNat ((0, 0, 0, 0, 0), 0)).1.2.2.2.2 else -1) else -1
def valS (S : syT) (i : Int) : Int64 := if 0 ≤ i ∧ i < (S.2.2.2.length : Int) then (S.2.2.2.getD i.toNat ((0, 0, 0, 0, 0), 0)).2 else 0
section PCb
variable {M M' : rf_M} {c0 c : Nat} {K : Int → rf_M → Prop} {Ts : tsT} {S : syT}
theorem ptxs.eq' {P : Nat → Nat → Prop} (h : ptxs M Ts c0) (h12 : c0 ≤ 12) (e : eqy P M M') (q : ∀ b k, 25 ≤ b → b ≤ 168 → ¬ P b k) : ptxs M' Ts c0 := fun t ht => (h t ht).eq e (fun b k h1 h2 => q b k (by omega) (by omega))
/-- an idle client needs its own cells alone -/
theorem pclN_eq {A : Nat} (h : pcl M Ts A clN) (e : ∀ k, M'.1 A k = M.1 A k) : pcl M' Ts A clN := ⟨⟨⟨(congrArg Int32.toInt (e 5)).trans h.1.1.1, fun i hi => absurd hi (by show ¬ i < 0; omega)⟩, (congrArg Int32.toInt (e 1)).trans h.1.2.1, (congrArg Int32.toInt (e 2)).trans h.1.2.2⟩, (congrArg Int32.toInt (e 0)).trans h.2.1, fun (q : (0 : Nat) = 1) => absurd q (by decide), fun (q : (0 : Nat) = 2) => absurd q (by decide)⟩
theorem x_cell {z : Int} {K : Int64 → rf_M → Prop} (hP : RPS M Ts c0 S) (kk : K (celS S z) M) : em_M_cell z M K := by
  unfold celS at kk
  refine x_isCell (fun h => ⟨fun q => absurd q (by decide), fun _ _ => ?_⟩) (fun h => ⟨fun _ => ?_, fun q => absurd rfl q⟩)
  · rw [if_pos h] at kk
    show K (gl M 188 z.toNat) M
    rw [show gl M 188 z.toNat = S.1.1 z.toNat from (hP.2.1 _ (by omega)).1]
    exact kk
  · rw [if_neg h] at kk
    exact kk
theorem x_version {z : Int} (hP : RPS M Ts c0 S) (kk : K (verS S z) M) : em_M_version z M K := by
  unfold verS at kk
  refine x_isCell (fun h => ⟨fun q => absurd q (by decide), fun _ _ => ?_⟩) (fun h => ⟨fun _ => ?_, fun q => absurd rfl q⟩)
  · rw [if_pos h] at kk
    show K (gi M 189 z.toNat) M
    rw [show gi M 189 z.toNat = (S.1.2 z.toNat).toInt from congrArg Int32.toInt (hP.2.1 _ (by omega)).2]
    exact kk
  · rw [if_neg h] at kk
    exact kk
theorem x_rules (hP : RPS M Ts c0 S) (kk : K (S.2.1.length : Int) M) : em_M_rules M K := by
  show K (gi M 187 2) M
  rw [hP.2.2.1.1]
  exact kk
theorem x_rows (hP : RPS M Ts c0 S) (kk : K (S.2.2.2.length : Int) M) : em_M_rows M K := by
  show K (gi M 324 0) M
  rw [hP.2.2.2.2.1]
  exact kk
theorem x_Jhas {i : Int} (hS : SI Ts c0 S) (hP : RPS M Ts c0 S) (h1 : 0 ≤ i ∧ i < (S.2.2.2.length : Int) → K 1 M) (h0 : ¬ (0 ≤ i ∧ i < (S.2.2.2.length : Int)) → K 0 M) : em_J_has i M K := by
  have g := hP.2.2.2.2.1
  have h3 := hS.2.2.1
  refine ⟨fun h => ⟨Or.inl rfl, h0 (by omega)⟩, fun h => ⟨fun h' => ⟨Or.inl rfl, h0 (by omega)⟩, fun h' => ⟨fun h'' => ⟨Or.inl rfl, h0 (by omega)⟩, fun h'' => ⟨Or.inr rfl, h1 (by omega)⟩⟩⟩⟩
theorem x_row {i w : Int} (hS : SI Ts c0 S) (hP : RPS M Ts c0 S) (kk : K (rowS S i w) M) : em_M_row i w M K := by
  unfold rowS at kk
  refine x_Jhas hS hP (fun h => ⟨fun q => absurd q (by decide), fun _ => ?_⟩) (fun h => ⟨fun _ => ?_, fun q => absurd rfl q⟩)
  · rw [if_pos h] at kk
    obtain ⟨a1, a2, a3, a4, a5, a6⟩ := hP.2.2.2.2.2 i.toNat (by omega)
    refine ⟨fun e _ => ?_, fun e _ => ?_, fun e _ => ?_, fun e _ => ?_, fun e _ => ?_, fun e => ?_⟩
    · rw [if_pos e, ← a1] at kk; exact kk
    · rw [if_neg (by omega), if_pos e, ← a2] at kk; exact kk
    · rw [if_neg (by omega), if_neg (by omega), if_pos e, ← a3] at kk; exact kk
    · rw [if_neg (by omega), if_neg (by omega), if_neg (by omega), if_pos e, ← a4] at kk; exact kk
    · rw [if_neg (by omega), if_neg (by omega), if_neg (by omega), if_neg (by omega), if_pos e, ← a5] at kk; exact kk
    · rw [if_neg e.1, if_neg e.2.1, if_neg e.2.2.1, if_neg e.2.2.2.1, if_neg e.2.2.2.2] at kk; exact kk
  · rw [if_neg h] at kk
    exact kk
theorem x_value {i : Int} {K : Int64 → rf_M → Prop} (hS : SI Ts c0 S) (hP : RPS M Ts c0 S) (kk : K (valS S i) M) : em_M_value i M K := by
  unfold valS at kk
  refine x_Jhas hS hP (fun h => ⟨fun q => absurd q (by decide), fun _ _ => ?_⟩) (fun h => ⟨fun _ => ?_, fun q => absurd rfl q⟩)
  · rw [if_pos h] at kk
    obtain ⟨a1, a2, a3, a4, a5, a6⟩ := hP.2.2.2.2.2 i.toNat (by omega)
    rw [← a6] at kk
    exact kk
  · rw [if_neg h] at kk
    exact kk
theorem x_sees {x y : Int} {K : Int64 → rf_M → Prop} (hS : SI Ts c0 S) (hP : RPS M Ts c0 S) (kk : K (seesS S x y) M) : em_M_sees x y M K := by
  unfold seesS at kk
  have no : ¬ (0 ≤ x ∧ x < 8 ∧ 0 ≤ y ∧ y < 26) → e_M_sees_18 M K := fun h => by rw [if_neg h] at kk; exact kk
  refine x_isClient (fun hx => ⟨fun q => absurd q (by decide), fun _ => ⟨fun h => no (by omega), fun h => ⟨fun h' _ => ?_, fun h' => no (by omega)⟩⟩⟩) (fun hx => ⟨fun _ => no (by omega), fun q => absurd rfl q⟩)
  obtain ⟨c, rfl⟩ : ∃ c : Nat, x = (c : Int) := ⟨x.toNat, by omega⟩
  have hc : c < 8 := by omega
  rw [if_pos ⟨by omega, by omega, by omega, by omega⟩, tn_] at kk
  obtain ⟨pb, ps, pr, pw⟩ := hP.2.2.2.1 c hc
  have hcl := hS.2.2.2.2 c hc
  rw [clA_, ps]
  refine ⟨fun h2 _ => ?_, fun h2 => ?_⟩
  · have ht : (S.2.2.1 c).2.2.2.1 = 1 := by
      by_cases q : (S.2.2.1 c).1.length = 0
      · rw [if_pos q] at h2; omega
      · rw [if_neg q] at h2; omega
    rw [if_pos ht] at kk
    have hsr : stR (196 + 16 * c + 3) = 187 := by unfold stR; rw [if_neg (by omega)]
    obtain ⟨_, _, _, R0⟩ := pr ht
    exact x_shows (w := S.1) (m := (S.2.2.1 c).2.2.2.2.2.1.2.1) (r := (S.2.2.1 c).2.2.2.2.2.2) (by rw [hsr]; exact hP.2.1) R0.2.2.2.2.1.1 R0.2.2.2.2.2 kk
  · have ht : ¬ (S.2.2.1 c).2.2.2.1 = 1 := fun q => h2 (by
      rw [if_neg (fun z => by have := hcl.2.2.2.1 z; omega), q]
      rfl)
    rw [if_neg ht] at kk
    refine x_isCell (fun h16 => ⟨fun q => absurd q (by decide), fun _ _ => ?_⟩) (fun h16 => ⟨fun _ => ?_, fun q => absurd rfl q⟩)
    · rw [if_pos (by omega)] at kk
      show K (gl M 188 y.toNat) M
      rw [show gl M 188 y.toNat = S.1.1 y.toNat from (hP.2.1 _ (by omega)).1]
      exact kk
    · rw [if_neg (by omega)] at kk
      exact kk
theorem x_fillJ {b : Nat} {K : rf_M → Prop} (kk : ∀ M', eqy (fun a _ => a = b) M M' → (∀ l, l < 16 → gl M' b l = 0) → K M') : em_F_fillJ16 b (Int64.ofNat 0) M K := by
  refine ⟨fun v0 v1 v3 v4 M' => v0 = b ∧ v1 = Int64.ofNat 0 ∧ v4 = 16 ∧ ∃ j : Nat, v3 = (j : Int) ∧ j ≤ 16 ∧ eqy (fun a _ => a = b) M M' ∧ ∀ l, l < j → gl M' b l = 0, ⟨rfl, rfl, rfl, 0, rfl, by omega, eqy.rfl' M, fun l h => absurd h (by omega)⟩, ?_⟩
  rintro v0 v1 v3 v4 M1 - - ⟨rfl, rfl, rfl, j, rfl, hj, y1, h1⟩
  refine ⟨fun h => kk M1 y1 (fun l hl => h1 l (by omega)), fun h _ M2 e2 => ⟨inr_z (by omega) (by omega), rfl, rfl, rfl, j + 1, by omega, by omega, by rw [e2]; exact y1.wl rfl, fun l hl => ?_⟩⟩
  rw [tn_] at e2
  by_cases e : l = j
  · rw [e, e2, gl_at]; rfl
  · rw [e2, gl_of (Or.inr e)]; exact h1 l (by omega)
theorem x_fillI {b : Nat} {K : rf_M → Prop} (kk : ∀ M', eqy (fun a _ => a = b) M M' → (∀ l, l < 16 → M'.1 b l = 0) → K M') : em_F_fillI16 b 0 M K := by
  refine ⟨fun v0 v1 v2 v3 M' => v0 = b ∧ v1 = 0 ∧ v3 = 16 ∧ ∃ j : Nat, v2 = (j : Int) ∧ j ≤ 16 ∧ eqy (fun a _ => a = b) M M' ∧ ∀ l, l < j → M'.1 b l = 0, ⟨rfl, rfl, rfl, 0, rfl, by omega, eqy.rfl' M, fun l h => absurd h (by omega)⟩, ?_⟩
  rintro v0 v1 v2 v3 M1 - - - ⟨rfl, rfl, rfl, j, rfl, hj, y1, h1⟩
  refine ⟨fun h => kk M1 y1 (fun l hl => h1 l (by omega)), fun h _ M2 e2 => ⟨inr_z (by omega) (by omega), rfl, rfl, rfl, j + 1, by omega, by omega, by rw [e2]; exact y1.wi rfl, fun l hl => ?_⟩⟩
  rw [tn_] at e2
  by_cases e : l = j
  · rw [e, e2]
    show (rf_wi M1 v0 j _).1 v0 j = 0
    rw [rf_wi_at]
    rfl
  · rw [e2]
    show (rf_wi M1 v0 j _).1 v0 l = 0
    rw [rf_wi_of _ _ (Or.inr e)]
    exact h1 l (by omega)
theorem x_Sreset {st : Nat} {K : rf_M → Prop} (kk : ∀ M', eqy (fun b k => b = st + 1 ∨ b = st + 2 ∨ (b = st ∧ k = 2)) M M' → weq wd0 (wS M' st) → gi M' st 2 = 0 → K M') : em_S_reset st M K := by
  refine x_fillJ (fun M1 y1 z1 => x_fillI (fun M2 y2 z2 M3 e3 => ?_))
  have y3 : eqy (fun b k => b = st ∧ k = 2) M2 M3 := by rw [e3]; exact (eqy.rfl' _).wi ⟨rfl, rfl⟩
  refine kk M3 (((y1.mono (fun b k h => by omega)).trans (y2.mono (fun b k h => by omega))).trans (y3.mono (fun b k h => by omega))) (fun l hl => ⟨?_, ?_⟩) (by rw [e3, gi_at (inr_z (by omega) (by omega))])
  · show gl M3 (st + 1) l = 0
    rw [y3.l (by omega), y2.l (by omega)]
    exact z1 l hl
  · show M3.1 (st + 2) l = 0
    rw [(y3.1 _ _ (by omega)).1]
    exact z2 l hl
theorem x_clear (hS : SI Ts c0 S) (hP : RPS M Ts c0 S) (kk : ∀ M', RPS M' Ts c0 (clrS S).2 → K (clrS S).1 M') : em_M_clear M K := by
  intro M1 e1
  rw [hP.2.2.2.2.1]
  have y1 : eqy (fun b k => b = 324 ∧ k = 0) M M1 := by rw [e1]; exact (eqy.rfl' M).wi ⟨rfl, rfl⟩
  refine x_Sreset (st := 187) (fun M2 y2 w2 r2 => x_Sreset (st := 332) (fun M3 y3 _ _ M4 e4 M5 e5 => ?_))
  have y5 : eqy (fun b k => b = 331 ∧ (k = 1 ∨ k = 2)) M3 M5 := by rw [e5, e4]; exact ((eqy.rfl' _).wi ⟨rfl, by omega⟩).wi ⟨rfl, by omega⟩
  have y15 : eqy (fun b k => (b = 324 ∧ k = 0) ∨ (187 ≤ b ∧ b ≤ 189) ∨ (331 ≤ b)) M M5 := (((y1.mono (fun b k h => by omega)).trans (y2.mono (fun b k h => by omega))).trans (y3.mono (fun b k h => by omega))).trans (y5.mono (fun b k h => by omega))
  have w5 : weq wd0 (wS M5 187) := (w2.eqP y3 (fun b k h => by omega)).eqP y5 (fun b k h => by omega)
  have r5 : gi M5 187 2 = 0 := (y5.i (by omega)).trans ((y3.i (by omega)).trans r2)
  have n5 : gi M5 324 0 = 0 := by
    rw [y5.i (by omega), y3.i (by omega), y2.i (by omega), e1, gi_at (inr_z (by omega) (by omega))]
  refine ⟨fun v1 v2 M' => v1 = (S.2.2.2.length : Int) ∧ ∃ j : Nat, v2 = (j : Int) ∧ j ≤ 8 ∧ eqy (fun b k => (196 ≤ b ∧ b < 324)) M5 M' ∧ ∀ c, c < j → pcl M' Ts (196 + 16 * c) clN, ⟨rfl, 0, rfl, by omega, eqy.rfl' _, fun c h => absurd h (by omega)⟩, ?_⟩
  rintro v1 v2 M6 - - ⟨rfl, j, rfl, hj, y6, h6⟩
  refine ⟨fun h M7 e7 => ?_, fun h _ => ?_⟩
  · have y7 : eqy (fun b k => b = 22 ∧ k = 4) M6 M7 := by rw [e7]; exact (eqy.rfl' _).wi ⟨rfl, rfl⟩
    refine kk M7 ⟨?_, ?_, ⟨?_, fun j hj => absurd hj (by show ¬ j < 0; omega)⟩, fun c hc => ?_, ?_, fun i hi => absurd hi (by show ¬ i < 0; omega)⟩
    · exact ((hP.1.eq hS.1.1 y15 (fun b k h => by omega)).eq hS.1.1 y6 (fun b k h => by omega)).eq' hS.1.1 y7 (fun b k _ _ => by omega)
    · exact (w5.eqP y6 (fun b k h => by omega)).eqP y7 (fun b k h => by omega)
    · rw [y7.i (by omega), y6.i (by omega), r5]; rfl
    · exact pclN_eq (h6 c (by omega)) (fun k => (y7.1 _ _ (by omega)).1)
    · rw [y7.i (by omega), y6.i (by omega), n5]; rfl
  · rw [clA_]
    intro M7 e7 M8 e8 M9 e9 M10 e10
    have y10 : eqy (fun b k => b = 196 + 16 * j ∧ (k = 0 ∨ k = 5 ∨ k = 1 ∨ k = 2)) M6 M10 := by
      rw [e10, e9, e8, e7]
      exact ((((eqy.rfl' _).wi ⟨rfl, by omega⟩).wi ⟨rfl, by omega⟩).wi ⟨rfl, by omega⟩).wi ⟨rfl, by omega⟩
    refine ⟨inr_z (by omega) (by omega), rfl, j + 1, by omega, by omega, y6.trans (y10.mono (fun b k h => by omega)), fun c hc => ?_⟩
    by_cases e : c = j
    · subst e
      refine ⟨⟨⟨?_, fun i hi => absurd hi (by show ¬ i < 0; omega)⟩, ?_, ?_⟩, ?_, fun (q : (0 : Nat) = 1) => absurd q (by decide), fun (q : (0 : Nat) = 2) => absurd q (by decide)⟩
      · rw [e10, gi_of (Or.inr (by omega)), e9, gi_of (Or.inr (by omega)), e8, gi_at (inr_z (by omega) (by omega))]; rfl
      · rw [e10, gi_of (Or.inr (by omega)), e9, gi_at (inr_z (by omega) (by omega))]; rfl
      · rw [e10, gi_at (inr_z (by omega) (by omega))]; rfl
      · rw [e10, gi_of (Or.inr (by omega)), e9, gi_of (Or.inr (by omega)), e8, gi_of (Or.inr (by omega)), e7, gi_at (inr_z (by omega) (by omega))]; rfl
    · exact pclN_eq (h6 c (by omega)) (fun k => (y10.1 _ _ (by omega)).1)
end PCb
/-! THE REFERENCE'S CALLS -/
section WCa
variable {M M' : rf_M} {c0 c : Nat} {K : Int → rf_M → Prop} {Ts : tsT} {S : syT}
theorem RRS.code (hS : SI Ts c0 S) (h : RRS M Ts c0 S) (e : M' = wi M 353 0 0) : RRS M' Ts c0 S := by
  have y : eqy (fun b k => b = 353 ∧ k = 0) M M' := by rw [e]; exact (eqy.rfl' M).wi ⟨rfl, rfl⟩
  exact h.eq hS y (fun b k a => by unfold pvR at a; omega)
theorem y_isClient {z : Int} (h1 : 0 ≤ z ∧ z < 8 → K 1 M) (h0 : ¬ (0 ≤ z ∧ z < 8) → K 0 M) : em_W_isClient z M K :=
  ⟨fun h => ⟨Or.inl rfl, h0 (by omega)⟩, fun h => ⟨fun g => ⟨Or.inl rfl, h0 (by omega)⟩, fun g => ⟨Or.inr rfl, h1 (by omega)⟩⟩⟩
theorem y_turn {z : Int} (hS : SI Ts c0 S) (hR : RRS M Ts c0 S) (h1 : 0 ≤ z ∧ z < 8 → ∀ M', RRS M' Ts c0 (trn Ts S z.toNat).2 → K (trn Ts S z.toNat).1 M') (h0 : ¬ (0 ≤ z ∧ z < 8) → ∀ M', RRS M' Ts c0 S → K (-1) M') : em_W_turn z M K := by
  intro M1 e1
  have R1 := hR.code hS e1
  refine y_isClient (fun h => ⟨fun q => absurd q (by decide), fun _ => ?_⟩) (fun h => ⟨fun _ => h0 h M1 R1, fun q => absurd rfl q⟩)
  obtain ⟨c, rfl⟩ : ∃ c : Nat, z = (c : Int) := ⟨z.toNat, by omega⟩
  have := h1 h
  rw [tn_] at this
  exact y_turnOf hS (by omega) R1 this
theorem y_play {s : Int64} {n : Int} (hS : SI Ts c0 S) (hR : RRS M Ts c0 S) (h1 : 0 ≤ n ∧ n ≤ 2000 → ∀ M', RRS M' Ts c0 (plyS Ts n.toNat s 0 S).2 → K (plyS Ts n.toNat s 0 S).1 M') (h0 : ¬ (0 ≤ n ∧ n ≤ 2000) → ∀ M', RRS M' Ts c0 S → K (-1) M') : em_W_play s n M K := by
  intro M0 e0
  have R0 := hR.code hS e0
  refine ⟨fun h => h0 (by omega) M0 R0, fun h => ⟨fun h' => ?_, fun h' => h0 (by omega) M0 R0⟩⟩
  obtain ⟨n, rfl⟩ : ∃ x : Nat, n = (x : Int) := ⟨n.toNat, by omega⟩
  have h1 := h1 ⟨by omega, h'⟩
  rw [tn_] at h1
  generalize hp : plyS Ts n s 0 S = R at h1
  refine ⟨fun v3 v4 v6 v7 M' => v3 = (n : Int) ∧ ∃ (i : Nat) (S' : syT), v7 = (i : Int) ∧ i ≤ n ∧ SI Ts c0 S' ∧ RRS M' Ts c0 S' ∧ plyS Ts (n - i) v4 v6 S' = R ∧ 0 ≤ v6 ∧ v6 ≤ (i : Int), ⟨rfl, 0, S, rfl, Nat.zero_le _, hS, R0, hp, by omega, by omega⟩, ?_⟩
  rintro v3 v4 v6 v7 M1 - - - ⟨rfl, i, S1, rfl, hi, hS1, hR1, e1, d0, d1⟩
  refine ⟨fun hq => ?_, fun hq => ?_⟩
  · have : n - i = 0 := by omega
    rw [this] at e1
    have h1 := h1 M1
    rw [← e1] at h1
    exact h1 hR1
  · obtain ⟨l, hl, el⟩ := sdC_lt (sdN v4)
    have en : n - i = (n - (i + 1)) + 1 := by omega
    rw [en] at e1
    unfold plyS at e1
    rw [el, tn_] at e1
    have es : v4 * Int64.ofNat 6364136223846793005 + Int64.ofNat 1442695040888963407 = sdN v4 := by unfold sdN; rw [Int64.mul_comm]
    rw [es]
    show em_W_turnOf (sdC (sdN v4)) M1 _
    rw [el]
    refine y_turnOf hS1 hl hR1 (fun M2 hR2 => ⟨fun z => ?_, fun z => ?_⟩)
    · rw [if_pos z] at e1
      exact ⟨inr_z (by omega) (by omega), inr_z (by omega) (by omega), rfl, i + 1, _, by omega, by omega, SI_trn hS1 hl, hR2, e1, by omega, by omega⟩
    · rw [if_neg z] at e1
      refine ⟨inr_z (by omega) (by omega), inr_z (by omega) (by omega), rfl, i + 1, _, by omega, by omega, SI_trn hS1 hl, hR2, ?_, by omega, by omega⟩
      rw [Int.add_zero]
      exact e1
theorem y_put {z : Int} {v : Int64} (hS : SI Ts c0 S) (hR : RRS M Ts c0 S) (kk : ∀ M', RRS M' Ts c0 (putS Ts S z v).2 → K (putS Ts S z v).1 M') : em_W_put z v M K := by
  intro M1 e1
  have R1 := hR.code hS e1
  unfold putS at kk
  have hro : rok Ts c0 S.2.1 := fun j hj => hS.2.1.2 (S.2.1.getD j (0, 0)) (by rw [gD_ hj]; exact List.getElem_mem hj)
  have g69 := R1.2.2.2.2.1
  have hrl := hS.2.2.1
  have no : ¬ (0 ≤ z ∧ z < 16 ∧ S.2.2.2.length < 300) → e_W_put_25 M1 K := fun h => by rw [if_neg h] at kk; exact kk M1 R1
  refine ⟨fun h => no (by omega), fun h => ⟨fun h' => no (by omega), fun h' => ⟨fun h3 => no (by rw [g69] at h3; omega), fun h3 M2 e2 => ?_⟩⟩⟩
  rw [g69] at h3
  obtain ⟨l, rfl⟩ : ∃ l : Nat, z = (l : Int) := ⟨z.toNat, by omega⟩
  have hl : l < 16 := by omega
  have hlen : S.2.2.2.length < 300 := by omega
  rw [if_pos ⟨by omega, by omega, hlen⟩, tn_] at kk
  have y2 : eqy (fun b k => b = 353 ∧ k = 42) M1 M2 := by rw [e2]; exact (eqy.rfl' _).wi ⟨rfl, rfl⟩
  have d2 : gi M2 353 42 = ((0 : Nat) : Int) := by rw [e2, gi_at (inr_z (by omega) (by omega))]; rfl
  have R2 := R1.eq hS y2 (fun b k a => by unfold pvR at a; omega)
  refine ⟨fun v1 v2 v4 M' => v1 = (l : Int) ∧ v2 = v ∧ ∃ j : Nat, v4 = (j : Int) ∧ j ≤ 16 ∧ eqy (fun b _ => b = 399) M2 M' ∧ ∀ i, i < j → gl M' 399 i = va_up S.1.1 l v i, ⟨rfl, rfl, 0, rfl, by omega, eqy.rfl' _, fun i h => absurd h (by omega)⟩, ?_⟩
  rintro v1 v2 v4 M3 - - ⟨rfl, rfl, j, rfl, hj, y3, h3'⟩
  have R3 := R2.eq hS y3 (fun b k a => by unfold pvR at a; omega)
  refine ⟨fun h16 => ?_, fun h16 => ?_⟩
  · refine y_rulesHold (d := 0) (rs := S.2.1) (V := va_up S.1.1 l v2) hS.1 R3.1 ((y3.i (by omega)).trans d2) (by omega) R3.2.2.1 hro hS.2.1.1 (fun i hi => h3' i (by omega)) (fun M4 y4 => ?_)
    have R4 := R3.eq hS y4 (fun b k a => by unfold pvR at a; unfold wkW; omega)
    by_cases ha : S.2.1.all (hld Ts (va_up S.1.1 l v2)) = true
    · rw [if_pos ha] at kk ⊢
      refine ⟨fun q => absurd q (by decide), fun _ _ M5 e5 _ _ M6 e6 => ?_⟩
      rw [tn_] at e5 e6
      have y6 : eqy (fun b k => (b = 376 ∨ b = 377) ∧ k = l) M4 M6 := by
        rw [e6, e5]
        exact ((eqy.rfl' _).wl ⟨Or.inl rfl, rfl⟩).wi ⟨Or.inr rfl, rfl⟩
      have v6 : M6.1 377 l = Int32.ofInt ((S.1.2 l).toInt + 1) := by
        rw [e6]
        show (rf_wi M5 377 l _).1 377 l = _
        rw [rf_wi_at, e5]
        show Int32.ofInt ((M4.1 377 l).toInt + 1) = _
        have := (R4.2.1 l hl).2
        have : M4.1 377 (16 * 0 + l) = S.1.2 l := this
        rw [show 16 * 0 + l = l by omega] at this
        rw [this]
      refine y_addRow (row := ((0, -1, (l : Int), 0, 0), v2)) (R4.2.2.2.2.eq y6 (fun b k h => by omega)) hlen ⟨ir_0, ir_1, inr_z (by show (-1000000 : Int) ≤ (l : Int); omega) (by show (l : Int) ≤ 1000000; omega), ir_0, ir_0⟩ (fun M7 y7 r7 _ => ?_)
      rw [tn_, show gi M7 377 l = (Int32.ofInt ((S.1.2 l).toInt + 1)).toInt by rw [y7.i (by omega)]; exact congrArg Int32.toInt v6]
      refine kk M7 ⟨?_, fun i hi => ?_, ?_, fun k hk => ?_, r7⟩
      · exact (R4.1.eq y6 (fun b k _ _ => by omega)).eq y7 (fun b k _ _ => by omega)
      · have w4 := R4.2.1 i hi
        have w41 : gl M4 376 (16 * 0 + i) = S.1.1 i := w4.1
        have w42 : M4.1 377 (16 * 0 + i) = S.1.2 i := w4.2
        constructor
        · show gl M7 376 (16 * 0 + i) = va_up S.1.1 l v2 i
          rw [y7.l (by omega)]
          rw [show 16 * 0 + i = i by omega] at w41 ⊢
          by_cases e : i = l
          · rw [e, va_up_at, e6, gl_wi, e5, gl_at]
          · rw [va_up_of e, y6.l (by omega)]
            exact w41
        · show M7.1 377 (16 * 0 + i) = va_up S.1.2 l _ i
          rw [(y7.1 377 _ (by omega)).1]
          rw [show 16 * 0 + i = i by omega] at w42 ⊢
          by_cases e : i = l
          · rw [e, va_up_at]; exact v6
          · rw [va_up_of e, (y6.1 377 i (by omega)).1]
            exact w42
      · exact (R4.2.2.1.eq y6 (fun b k h => by omega)).eq y7 (fun b k h => by omega)
      · have hcu := hS.2.2.2.2 k hk
        have hx := R4.2.2.2.1 k hk
        have h4 := hS.2.2.2.1
        refine ⟨(hx.1.eq hcu.1.1 y6 (fun b k h => by omega)).eq hcu.1.1 y7 (fun b k h => by omega), (hx.2.eq y6 (fun b k h => by omega) (fun t hs => stale_up (hcu.2.2.2.2.2.2 (by omega)) (fun i hi => ?_) hs)).eq y7 (fun b k h => by omega) (fun _ z => z)⟩
        show (S.1.2 i).toInt ≤ (va_up S.1.2 l (Int32.ofInt ((S.1.2 l).toInt + 1)) i).toInt
        have := h4 i hi
        by_cases e : i = l
        · rw [e] at this ⊢
          rw [va_up_at, ti_ofi (inr_z (by omega) (by omega))]
          omega
        · rw [va_up_of e]; omega
    · rw [if_neg ha] at kk ⊢
      exact ⟨fun _ => kk M4 R4, fun q => absurd rfl q⟩
  · have nxt : ∀ (x : Int64), x = va_up S.1.1 l v2 j → e_W_put_65 (l : Int) v2 (j : Int) (j : Int) x M3 (fun v1 v2' v4 M' => v1 = (l : Int) ∧ v2' = v2 ∧ ∃ j : Nat, v4 = (j : Int) ∧ j ≤ 16 ∧ eqy (fun b _ => b = 399) M2 M' ∧ ∀ i, i < j → gl M' 399 i = va_up S.1.1 l v2 i) K := fun x hx => by
      intro _ M4 e4
      rw [tn_] at e4
      refine ⟨inr_z (by omega) (by omega), rfl, rfl, j + 1, by omega, by omega, by rw [e4]; exact y3.wl rfl, fun i hi => ?_⟩
      by_cases e : i = j
      · rw [e, e4, gl_at, hx]
      · rw [e4, gl_of (Or.inr e)]; exact h3' i (by omega)
    refine ⟨fun e => nxt _ ?_, fun e _ => nxt _ ?_⟩
    · have : j = l := by omega
      rw [this, va_up_at]
    · rw [va_up_of (by omega), tn_]
      have w3 : gl M3 376 (16 * 0 + j) = S.1.1 j := (R3.2.1 j (by omega)).1
      rw [show 16 * 0 + j = j by omega] at w3
      exact w3
theorem y_add {x y : Int} (hS : SI Ts c0 S) (hR : RRS M Ts c0 S) (hcc : gi M 353 11 = (c0 : Int)) (kk : ∀ M', RRS M' Ts c0 (addS c0 S x y).2 → K (addS c0 S x y).1 M') : em_W_add x y M K := by
  intro M1 e1
  have R1 := hR.code hS e1
  have c1 : gi M1 353 11 = (c0 : Int) := by rw [e1, gi_of (Or.inr (by omega))]; exact hcc
  unfold addS at kk
  have no : ¬ (0 ≤ x ∧ x < 8 ∧ 0 ≤ y ∧ y < (c0 : Int) ∧ (S.2.2.1 x.toNat).1.length < 16) → e_W_add_36 M1 K := fun h => by rw [if_neg h] at kk; exact kk M1 R1
  refine y_isClient (fun hx => ⟨fun q => absurd q (by decide), fun _ => ⟨fun h => no (by omega), fun h => ⟨fun h' => no (by rw [c1] at h'; omega), fun h' _ => ?_⟩⟩⟩) (fun hx => ⟨fun _ => no (by omega), fun q => absurd rfl q⟩)
  rw [c1] at h'
  obtain ⟨c, rfl⟩ : ∃ c : Nat, x = (c : Int) := ⟨x.toNat, by omega⟩
  have hc : c < 8 := by omega
  obtain ⟨rb, rs⟩ := R1.2.2.2.1 c hc
  have hcl := hS.2.2.2.2 c hc
  rw [tn_] at kk no
  rw [tn_, rb.1.1]
  refine ⟨fun h16 => no (by omega), fun h16 _ => ⟨inr_z (by have := hcl.1.1; omega) (by have := hcl.1.1; omega), fun _ M2 e2 _ _ M3 e3 _ => ?_⟩⟩
  have hlen : (S.2.2.1 c).1.length < 16 := by have := hcl.1.1; omega
  rw [if_pos ⟨by omega, by omega, by omega, by omega, hlen⟩] at kk
  have ex : (16 * (c : Int) + ((S.2.2.1 c).1.length : Int)).toNat = 16 * c + (S.2.2.1 c).1.length := by omega
  rw [ex] at e2
  have g2 : gi M2 381 c = ((S.2.2.1 c).1.length : Int) := by rw [e2, gi_of (Or.inl (by omega))]; exact rb.1.1
  rw [g2] at e3
  have g3 : gi M3 381 c = ((S.2.2.1 c).1.length : Int) + 1 := by rw [e3, gi_at (inr_z (by omega) (by omega))]
  rw [g3]
  have hc0 := hS.1.1
  have y3 : eqy (fun b k => (b = 380 ∧ k = 16 * c + (S.2.2.1 c).1.length) ∨ (b = 381 ∧ k = c)) M1 M3 := by
    rw [e3, e2]
    exact ((eqy.rfl' _).wi (Or.inl ⟨rfl, rfl⟩)).wi (Or.inr ⟨rfl, rfl⟩)
  refine kk M3 (RRX.all (R1.x.eq hS y3 (fun b k _ a => fun z => a (by unfold ccR; omega))) ⟨⟨⟨?_, fun j hj => ?_⟩, ?_, ?_⟩, ?_⟩)
  · rw [g3]
    show _ = (((S.2.2.1 c).1 ++ [y.toNat]).length : Int)
    simp
  · have hj : j < ((S.2.2.1 c).1 ++ [y.toNat]).length := hj
    simp at hj
    show gi M3 380 (16 * c + j) = ((((S.2.2.1 c).1 ++ [y.toNat]).getD j 0 : Nat) : Int)
    rw [e3, gi_of (Or.inl (by omega)), e2]
    by_cases e : j = (S.2.2.1 c).1.length
    · have er : ((S.2.2.1 c).1 ++ [y.toNat]).getD j 0 = y.toNat := by
        have := app_getD2 (l := (S.2.2.1 c).1) (m := [y.toNat]) (j := 0) (d := 0) (by simp)
        rw [Nat.add_zero, ← e] at this
        exact this
      rw [er, e, gi_at (inr_z (by omega) (by omega))]
      omega
    · rw [gi_of (Or.inr (by omega)), app_getD1 (by omega)]
      exact rb.1.2 j (by omega)
  · exact (y3.i (by omega)).trans rb.2.1
  · exact (y3.i (by omega)).trans rb.2.2
  · exact rcs.eq (cl := ((S.2.2.1 c).1 ++ [y.toNat], (S.2.2.1 c).2)) rs y3 (fun b k h => by omega) (fun _ z => z)
theorem y_cell {z : Int} {K : Int64 → rf_M → Prop} (hS : SI Ts c0 S) (hR : RRS M Ts c0 S) (kk : ∀ M', RRS M' Ts c0 S → K (celS S z) M') : em_W_cell z M K := by
  intro M1 e1
  have R1 := hR.code hS e1
  unfold celS at kk
  have no : ¬ (0 ≤ z ∧ z < 16) → e_W_cell_15 M1 K := fun h => by rw [if_neg h] at kk; exact kk M1 R1
  refine ⟨fun h => no (by omega), fun h => ⟨fun h' _ => ?_, fun h' => no (by omega)⟩⟩
  rw [if_pos ⟨by omega, h'⟩] at kk
  have w1 : gl M1 376 (16 * 0 + z.toNat) = S.1.1 z.toNat := (R1.2.1 _ (by omega)).1
  rw [show 16 * 0 + z.toNat = z.toNat by omega] at w1
  rw [w1]
  exact kk M1 R1
theorem y_version {z : Int} (hS : SI Ts c0 S) (hR : RRS M Ts c0 S) (kk : ∀ M', RRS M' Ts c0 S → K (verS S z) M') : em_W_version z M K := by
  intro M1 e1
  have R1 := hR.code hS e1
  unfold verS at kk
  have no : ¬ (0 ≤ z ∧ z < 16) → e_W_version_15 M1 K := fun h => by rw [if_neg h] at kk; exact kk M1 R1
  refine ⟨fun h => no (by omega), fun h => ⟨fun h' _ => ?_, fun h' => no (by omega)⟩⟩
  rw [if_pos ⟨by omega, h'⟩] at kk
  have w1 : M1.1 377 (16 * 0 + z.toNat) = S.1.2 z.toNat := (R1.2.1 _ (by omega)).2
  rw [show 16 * 0 + z.toNat = z.toNat by omega] at w1
  rw [show gi M1 377 z.toNat = (S.1.2 z.toNat).toInt from congrArg Int32.toInt w1]
  exact kk M1 R1
theorem y_rules (hS : SI Ts c0 S) (hR : RRS M Ts c0 S) (kk : ∀ M', RRS M' Ts c0 S → K (S.2.1.length : Int) M') : em_W_rules M K := by
  intro M1 e1 _
  have R1 := hR.code hS e1
  rw [R1.2.2.1.1]
  exact kk M1 R1
theorem y_rows (hS : SI Ts c0 S) (hR : RRS M Ts c0 S) (kk : ∀ M', RRS M' Ts c0 S → K (S.2.2.2.length : Int) M') : em_W_rows M K := by
  intro M1 e1
  have R1 := hR.code hS e1
  rw [R1.2.2.2.2.1]
  exact kk M1 R1
theorem y_row {i w : Int} (hS : SI Ts c0 S) (hR : RRS M Ts c0 S) (kk : ∀ M', RRS M' Ts c0 S → K (rowS S i w) M') : em_W_row i w M K := by
  intro M1 e1
  have R1 := hR.code hS e1
  have kk := kk M1 R1
  unfold rowS at kk
  have g69 := R1.2.2.2.2.1
  have no : ¬ (0 ≤ i ∧ i < (S.2.2.2.length : Int)) → e_W_row_17 M1 K := fun h => by rw [if_neg h] at kk; exact kk
  refine ⟨fun h => no (by omega), fun h => ⟨fun h' => ?_, fun h' => no (by rw [g69] at h'; omega)⟩⟩
  rw [g69] at h'
  rw [if_pos ⟨by omega, h'⟩] at kk
  obtain ⟨a1, a2, a3, a4, a5, a6⟩ := R1.2.2.2.2.2 i.toNat (by omega)
  refine ⟨fun e _ => ?_, fun n0 => ⟨fun e _ => ?_, fun n1 => ⟨fun e _ => ?_, fun n2 => ⟨fun e _ => ?_, fun n3 => ⟨fun e _ => ?_, fun n4 => ?_⟩⟩⟩⟩⟩
  · rw [if_pos e, ← a1] at kk; exact kk
  · rw [if_neg n0, if_pos e, ← a2] at kk; exact kk
  · rw [if_neg n0, if_neg n1, if_pos e, ← a3] at kk; exact kk
  · rw [if_neg n0, if_neg n1, if_neg n2, if_pos e, ← a4] at kk; exact kk
  · rw [if_neg n0, if_neg n1, if_neg n2, if_neg n3, if_pos e, ← a5] at kk; exact kk
  · rw [if_neg n0, if_neg n1, if_neg n2, if_neg n3, if_neg n4] at kk; exact kk
theorem y_value {i : Int} {K : Int64 → rf_M → Prop} (hS : SI Ts c0 S) (hR : RRS M Ts c0 S) (kk : ∀ M', RRS M' Ts c0 S → K (valS S i) M') : em_W_value i M K := by
  intro M1 e1
  have R1 := hR.code hS e1
  have kk := kk M1 R1
  unfold valS at kk
  have g69 := R1.2.2.2.2.1
  have no : ¬ (0 ≤ i ∧ i < (S.2.2.2.length : Int)) → e_W_value_17 M1 K := fun h => by rw [if_neg h] at kk; exact kk
  refine ⟨fun h => no (by omega), fun h => ⟨fun h' _ => ?_, fun h' => no (by rw [g69] at h'; omega)⟩⟩
  rw [g69] at h'
  rw [if_pos ⟨by omega, h'⟩] at kk
  obtain ⟨a1, a2, a3, a4, a5, a6⟩ := R1.2.2.2.2.2 i.toNat (by omega)
  rw [← a6] at kk
  exact kk
theorem y_sees {x y : Int} {K : Int64 → rf_M → Prop} (hS : SI Ts c0 S) (hR : RRS M Ts c0 S) (kk : ∀ M', RRS M' Ts c0 S → K (seesS S x y) M') : em_W_sees x y M K := by
  intro M1 e1
  have R1 := hR.code hS e1
  unfold seesS at kk
  have no : ¬ (0 ≤ x ∧ x < 8 ∧ 0 ≤ y ∧ y < 26) → e_W_sees_23 M1 K := fun h => by rw [if_neg h] at kk; exact kk M1 R1
  refine y_isClient (fun hx => ⟨fun q => absurd q (by decide), fun _ => ⟨fun h => no (by omega), fun h => ⟨fun h' _ => ?_, fun h' => no (by omega)⟩⟩⟩) (fun hx => ⟨fun _ => no (by omega), fun q => absurd rfl q⟩)
  obtain ⟨c, rfl⟩ : ∃ c : Nat, x = (c : Int) := ⟨x.toNat, by omega⟩
  have hc : c < 8 := by omega
  rw [if_pos ⟨by omega, by omega, by omega, by omega⟩, tn_] at kk
  obtain ⟨rb, rs⟩ := R1.2.2.2.1 c hc
  have hcl := hS.2.2.2.2 c hc
  have htg := hcl.2.2.2.2.1
  have plain : ¬ (S.2.2.1 c).2.2.2.1 = 1 → e_W_sees_44 y M1 K := fun ht => by
    rw [if_neg ht] at kk
    refine ⟨fun h16 => ?_, fun h16 _ => ?_⟩
    · rw [if_neg (by omega)] at kk
      exact kk M1 R1
    · rw [if_pos (by omega)] at kk
      have w1 : gl M1 376 (16 * 0 + y.toNat) = S.1.1 y.toNat := (R1.2.1 _ (by omega)).1
      rw [show 16 * 0 + y.toNat = y.toNat by omega] at w1
      show K (gl M1 376 y.toNat) M1
      rw [w1]
      exact kk M1 R1
  rw [tn_, rb.1.1]
  refine ⟨fun h0 => plain (by have := hcl.2.2.2.1 (by omega); omega), fun h0 _ => ⟨fun h1 => ?_, fun h1 => plain (fun q => h1 (rs.1 q).1)⟩⟩
  have hq : (S.2.2.1 c).1.length ≠ 0 := by omega
  have hbeg := beg_ok hS hc hq
  have hc0 := hS.1.1
  have ht12 := hbeg.1
  have hX := hS.1.2 _ ht12
  -- what is walked anew
  have k383 : gi M1 383 c = ((beg Ts (S.2.2.1 c)).1 : Int) ∧ req (beg Ts (S.2.2.1 c)).2.2 (rC M1 c) ∧ (seesS S (c : Int) y = shw S.1 (beg Ts (S.2.2.1 c)).2.1.2.1 (beg Ts (S.2.2.1 c)).2.2 y) := by
    unfold seesS
    rw [if_pos ⟨by omega, by omega, by omega, by omega⟩, tn_]
    by_cases ht : (S.2.2.1 c).2.2.2.1 = 1
    · have eb : beg Ts (S.2.2.1 c) = (S.2.2.1 c).2.2.2.2 := by unfold beg; rw [if_pos ht]
      rw [eb, if_pos ht]
      exact ⟨(rs.1 ht).2.1, (rs.1 ht).2.2, rfl⟩
    · have eb : beg Ts (S.2.2.1 c) = (0, run0 (Ts ((S.2.2.1 c).1.headD 0)).2.2.2, rd0) := by unfold beg; rw [if_neg ht]
      rw [eb, if_neg ht]
      have h36 : gi M1 383 c = 0 ∧ gi M1 386 c = 0 := by
        have : (S.2.2.1 c).2.2.2.1 = 0 ∨ (S.2.2.1 c).2.2.2.1 = 2 := by omega
        rcases this with t | t
        · rcases rs.2.1 t with a | ⟨a1, a2, a3⟩
          · omega
          · exact ⟨a2, a3⟩
        · rcases rs.2.2 t with ⟨a, _⟩ | ⟨a1, a2, a3, _⟩
          · omega
          · exact ⟨a2, a3⟩
      refine ⟨h36.1, ⟨?_, fun l _ b => ?_⟩, ?_⟩
      · show M1.1 386 c = 0
        exact Int32.toInt_inj.mp (by rw [show (M1.1 386 c).toInt = gi M1 386 c from rfl, h36.2]; rfl)
      · rw [show bt rd0.1 l = false from bt_0 l] at b; cases b
      · show _ = shw S.1 mk0 rd0 y
        unfold shw
        rw [show bt mk0.1 y.toNat = false from bt_0 _, show bt rd0.1 y.toNat = false from bt_0 _]
        by_cases h16 : y < 16
        · rw [if_pos h16, if_pos ⟨by omega, h16⟩, if_neg (by decide), if_neg (by decide)]
        · rw [if_neg h16, if_neg (by omega), if_pos (by omega)]
          rfl
  have kk2 : ∀ M', RRS M' Ts c0 S → K (shw S.1 (beg Ts (S.2.2.1 c)).2.1.2.1 (beg Ts (S.2.2.1 c)).2.2 y) M' := fun M' h => by
    have := kk M' h
    have e := k383.2.2
    unfold seesS at e
    rw [if_pos ⟨by omega, by omega, by omega, by omega⟩, tn_] at e
    rw [← e]
    exact this
  refine y_walkAnew (w := S.1) (r := (beg Ts (S.2.2.1 c)).2.2) (g := (beg Ts (S.2.2.1 c)).2.1) (k := (beg Ts (S.2.2.1 c)).1) hc (by omega) hX (R1.1 _ ht12) (y_hd rb hq) k383.1 k383.2.1 R1.2.1 (hbeg.2.2.1 S.1 _ (rsub.rfl' _)) hbeg.2.1 (fun M3 y3 d3 W3 => ?_)
  have R3 := R1.eq hS y3 (fun b k a => by unfold pvR at a; unfold waW stW; omega)
  have kk3 := kk2 M3 R3
  obtain ⟨_, G⟩ := W3.2.2.2.1
  have hm : meq (beg Ts (S.2.2.1 c)).2.1.2.1 (mR M3) := G.1
  have hr := W3.2.2.2.2
  unfold shw at kk3
  refine ⟨fun h16 => ?_, fun h16 => ⟨inr_z (by omega) (by omega), fun _ => ?_⟩⟩
  · obtain ⟨l, rfl⟩ : ∃ l : Nat, y = (l : Int) := ⟨y.toNat, by omega⟩
    have hl : l < 16 := by omega
    rw [if_pos ⟨by omega, h16⟩, tn_] at kk3
    rw [tst_s _ hl, tst_s _ hl, gi_ofi, gi_ofi, show M3.1 353 55 = (beg Ts (S.2.2.1 c)).2.1.2.1.1 from hm.1, show M3.1 353 52 = (beg Ts (S.2.2.1 c)).2.2.1 from hr.1, tn_]
    refine ⟨fun hb _ => ?_, fun hb => ⟨fun hb2 _ => ?_, fun hb2 _ => ?_⟩⟩
    · have hb : bt (beg Ts (S.2.2.1 c)).2.1.2.1.1 l = true := by
        by_cases q : bt (beg Ts (S.2.2.1 c)).2.1.2.1.1 l = true
        · exact q
        · rw [if_neg q] at hb; exact absurd hb (by decide)
      rw [if_pos hb] at kk3
      show K (gl M3 391 l) M3
      rw [show gl M3 391 l = _ from hm.2.1 l hl hb]
      exact kk3
    · have hb : ¬ bt (beg Ts (S.2.2.1 c)).2.1.2.1.1 l = true := fun q => hb (if_pos q)
      have hb2 : bt (beg Ts (S.2.2.1 c)).2.2.1 l = true := by
        by_cases q : bt (beg Ts (S.2.2.1 c)).2.2.1 l = true
        · exact q
        · rw [if_neg q] at hb2; exact absurd hb2 (by decide)
      rw [if_neg hb, if_pos hb2] at kk3
      show K (gl M3 389 l) M3
      rw [show gl M3 389 l = _ from (hr.2 l hl hb2).1]
      exact kk3
    · have hb : ¬ bt (beg Ts (S.2.2.1 c)).2.1.2.1.1 l = true := fun q => hb (if_pos q)
      have hb2 : ¬ bt (beg Ts (S.2.2.1 c)).2.2.1 l = true := fun q => hb2 (if_pos q)
      rw [if_neg hb, if_neg hb2] at kk3
      have w1 : gl M3 376 (16 * 0 + l) = S.1.1 l := (R3.2.1 _ (by omega)).1
      rw [show 16 * 0 + l = l by omega] at w1
      show K (gl M3 376 l) M3
      rw [w1]
      exact kk3
  · rw [if_neg (by omega), if_pos (by omega)] at kk3
    rw [show (y - 16).toNat = y.toNat - 16 by omega, show gl M3 392 (y.toNat - 16) = _ from hm.2.2.1 _ (by omega)]
    exact kk3
theorem y_clear (hS : SI Ts c0 S) (hR : RRS M Ts c0 S) (kk : ∀ M', RRS M' Ts c0 (clrS S).2 → K (clrS S).1 M') : em_W_clear M K := by
  intro M1 e1 M2 e2 _ M3 e3
  have R1 := hR.code hS e1
  rw [R1.2.2.2.2.1]
  have y3 : eqy (fun b k => (b = 353 ∧ k = 69) ∨ (b = 378 ∧ k = 0)) M1 M3 := by rw [e3, e2]; exact ((eqy.rfl' _).wi (Or.inl ⟨rfl, rfl⟩)).wi (Or.inr ⟨rfl, rfl⟩)
  have n3 : gi M3 353 69 = 0 := by rw [e3, gi_of (Or.inl (by omega)), e2, gi_at (inr_z (by omega) (by omega))]
  have r3 : gi M3 378 0 = 0 := by rw [e3, gi_at (inr_z (by omega) (by omega))]
  refine ⟨fun v1 v2 M' => v1 = (S.2.2.2.length : Int) ∧ ∃ j : Nat, v2 = (j : Int) ∧ j ≤ 16 ∧ eqy (fun b _ => b = 376 ∨ b = 377) M3 M' ∧ ∀ l, l < j → gl M' 376 l = 0 ∧ M'.1 377 l = 0, ⟨rfl, 0, rfl, by omega, eqy.rfl' _, fun l h => absurd h (by omega)⟩, ?_⟩
  rintro v1 v2 M4 - - ⟨rfl, j, rfl, hj, y4, h4⟩
  refine ⟨fun h => ?_, fun h _ M5 e5 _ M6 e6 => ⟨inr_z (by omega) (by omega), rfl, j + 1, by omega, by omega, by rw [e6, e5]; exact (y4.wl (Or.inl rfl)).wi (Or.inr rfl), fun l hl => ?_⟩⟩
  · refine ⟨fun v1 v2 M' => v1 = (S.2.2.2.length : Int) ∧ ∃ i : Nat, v2 = (i : Int) ∧ i ≤ 8 ∧ eqy (fun b _ => 381 ≤ b ∧ b ≤ 386) M4 M' ∧ ∀ c, c < i → rcl M' wd0 c clN, ⟨rfl, 0, rfl, by omega, eqy.rfl' _, fun c h => absurd h (by omega)⟩, ?_⟩
    rintro v1 v2 M5 - - ⟨rfl, i, rfl, hi, y5, h5⟩
    refine ⟨fun h8 => ?_, fun h8 _ M6 e6 _ M7 e7 _ M8 e8 _ M9 e9 _ M10 e10 _ M11 e11 => ?_⟩
    · refine kk M5 ⟨?_, fun l hl => ⟨?_, ?_⟩, ⟨?_, fun j hj => absurd hj (by show ¬ j < 0; omega)⟩, fun c hc => h5 c (by omega), ?_, fun i hi => absurd hi (by show ¬ i < 0; omega)⟩
      · exact ((R1.1.eq y3 (fun b k _ _ => by omega)).eq y4 (fun b k _ _ => by omega)).eq y5 (fun b k _ _ => by omega)
      · show gl M5 376 (16 * 0 + l) = 0
        rw [y5.l (by omega), show 16 * 0 + l = l by omega]
        exact (h4 l (by omega)).1
      · show M5.1 377 (16 * 0 + l) = 0
        rw [(y5.1 _ _ (by omega)).1, show 16 * 0 + l = l by omega]
        exact (h4 l (by omega)).2
      · rw [y5.i (by omega), y4.i (by omega), r3]; rfl
      · rw [y5.i (by omega), y4.i (by omega), n3]; rfl
    · have zz : (Int32.ofInt 0 &&& 1).toInt = 0 := by decide
      rw [tn_] at e6 e7 e8 e9 e10 e11
      rw [zz] at e10
      have y11 : eqy (fun b k => (381 ≤ b ∧ b ≤ 386) ∧ k = i) M5 M11 := by
        rw [e11, e10, e9, e8, e7, e6]
        exact ((((((eqy.rfl' _).wi ⟨by omega, rfl⟩).wi ⟨by omega, rfl⟩).wi ⟨by omega, rfl⟩).wi ⟨by omega, rfl⟩).wi ⟨by omega, rfl⟩).wi ⟨by omega, rfl⟩
      refine ⟨inr_z (by omega) (by omega), rfl, i + 1, by omega, by omega, y5.trans (y11.mono (fun b k h => h.1)), fun c hc => ?_⟩
      by_cases e : c = i
      · subst e
        refine ⟨⟨⟨?_, fun j hj => absurd hj (by show ¬ j < 0; omega)⟩, ?_, ?_⟩, fun (q : (0 : Nat) = 1) => absurd q (by decide), fun _ => Or.inl ?_, fun (q : (0 : Nat) = 2) => absurd q (by decide)⟩
        · rw [e11, gi_of (Or.inl (by omega)), e10, gi_of (Or.inl (by omega)), e9, gi_of (Or.inl (by omega)), e8, gi_of (Or.inl (by omega)), e7, gi_of (Or.inl (by omega)), e6, gi_at (inr_z (by omega) (by omega))]; rfl
        · rw [e11, gi_of (Or.inl (by omega)), e10, gi_of (Or.inl (by omega)), e9, gi_at (inr_z (by omega) (by omega))]; rfl
        · rw [e11, gi_of (Or.inl (by omega)), e10, gi_at (inr_z (by omega) (by omega))]; rfl
        · rw [e11, gi_of (Or.inl (by omega)), e10, gi_of (Or.inl (by omega)), e9, gi_of (Or.inl (by omega)), e8, gi_of (Or.inl (by omega)), e7, gi_at (inr_z (by omega) (by omega))]
      · have q := h5 c (by omega)
        exact ⟨q.1.eq (by show 0 ≤ 16; omega) y11 (fun b k h => by omega), q.2.eq y11 (fun b k h => by omega) (fun _ z => z)⟩
  · rw [tn_] at e5 e6
    by_cases e : l = j
    · subst e
      constructor
      · rw [e6]
        show gl M5 376 l = 0
        rw [e5, gl_at]
        rfl
      · rw [e6]
        show (rf_wi M5 377 l _).1 377 l = 0
        rw [rf_wi_at]
        rfl
    · constructor
      · rw [e6]
        show gl M5 376 l = 0
        rw [e5, gl_of (Or.inr e)]
        exact (h4 l (by omega)).1
      · rw [e6]
        show (rf_wi M5 377 j _).1 377 l = 0
        rw [rf_wi_of _ _ (Or.inr e), e5]
        exact (h4 l (by omega)).2
end WCa
/-! WHAT A TEXT SAYS: exps; κ are the kinds of the tokens, ν their numbers -/
abbrev cdT : Type := List (Int × Int)
abbrev rxT : Type := Nat → Nat → cdT → Nat → Prop
def mop (o : Int) : Prop := o = 42 ∨ o = 47 ∨ o = 37
def aop (o : Int) : Prop := o = 43 ∨ o = 45
def cop (o : Int) : Prop := o = 60 ∨ o = 61 ∨ o = 35
/-- n times an operator and what follows it -/
def dL (κ : Nat → Int) (op : Int → Prop) (U : rxT) : Nat → Nat → Nat → cdT → Nat → Prop
  | 0, i, j, c, u => i = j ∧ c = [] ∧ u = 0
  | n + 1, i, j, c, u => ∃ j1 c1 u1 c2 u2, op (κ i) ∧ U (i + 1) j1 c1 u1 ∧ dL κ op U n j1 j c2 u2 ∧ c = c1 ++ (κ i, 0) :: c2 ∧ u = u1 + u2
def dP (κ : Nat → Int) (U : rxT) : rxT := fun i j c u => ∃ j1 c1 u1 n c2 u2, U i j1 c1 u1 ∧ dL κ mop U n j1 j c2 u2 ∧ c = c1 ++ c2 ∧ u = u1 + u2
def dS (κ : Nat → Int) (U : rxT) : rxT := fun i j c u => ∃ j1 c1 u1 n c2 u2, dP κ U i j1 c1 u1 ∧ dL κ aop (dP κ U) n j1 j c2 u2 ∧ c = c1 ++ c2 ∧ u = u1 + u2
def dE (κ : Nat → Int) (U : rxT) : rxT := fun i j c u => dS κ U i j c u ∨ ∃ j1 c1 u1 c2 u2, dS κ U i j1 c1 u1 ∧ cop (κ j1) ∧ dS κ U (j1 + 1) j c2 u2 ∧ c = c1 ++ (c2 ++ [(κ j1, 0)]) ∧ u = u1 + u2
def dF (κ ν : Nat → Int) (ir : Bool) : rxT := fun i j c u => ((κ i = 2 ∧ c = [(1, ν i)]) ∨ (κ i = 1 ∧ (ir = false ∨ ν i < 16) ∧ c = [(2, ν i)])) ∧ j = i + 1 ∧ u = 1
/-- a unary, f bodies of it may lie in one another -/
def dU (κ ν : Nat → Int) (ir : Bool) : Nat → Nat → Nat → cdT → Nat → Prop
  | 0, i, j, c, u => dF κ ν ir i j c u
  | f + 1, i, j, c, u => dF κ ν ir i j c u ∨ (κ i = 45 ∧ ∃ c1 u1, dU κ ν ir f (i + 1) j c1 u1 ∧ c = c1 ++ [(3, 0)] ∧ u = u1 + 1) ∨ (κ i = 40 ∧ ∃ j1 u1, dE κ (dU κ ν ir f) (i + 1) j1 c u1 ∧ κ j1 = 41 ∧ j = j1 + 1 ∧ u = u1 + 1)
/-- how many pieces of code lay a number -/
def lfs : cdT → Nat
  | [] => 0
  | q :: c => (if q.1 = 1 ∨ q.1 = 2 then 1 else 0) + lfs c
theorem lfs_app : ∀ (c d : cdT), lfs (c ++ d) = lfs c + lfs d
  | [], d => by show lfs d = 0 + lfs d; omega
  | q :: c, d => by
    show _ + lfs (c ++ d) = _ + lfs c + lfs d
    rw [lfs_app c d]; omega
/-- what is said of code -/
def gdc (ν : Nat → Int) (κ : Nat → Int) (c : cdT) (u : Nat) : Prop := c.length + 1 ≤ 2 * u ∧ lfs c ≤ u ∧ ∀ q ∈ c, opk q.1 ∧ (q.1 = 2 → ∃ i, κ i = 1 ∧ q.2 = ν i)
section GRM
variable {κ ν : Nat → Int} {ir : Bool} {U : rxT}
theorem dL_gd {op : Int → Prop} (ho : ∀ o, op o → opk o ∧ ¬ (o = 1 ∨ o = 2)) (hU : ∀ i j c u, U i j c u → gdc ν κ c u) : ∀ (n i j : Nat) (c : cdT) (u : Nat), dL κ op U n i j c u → c.length ≤ 2 * u ∧ lfs c ≤ u ∧ ∀ q ∈ c, opk q.1 ∧ (q.1 = 2 → ∃ i, κ i = 1 ∧ q.2 = ν i)
  | 0, i, j, c, u, h => by
    obtain ⟨-, rfl, rfl⟩ := h
    exact ⟨by simp, Nat.le_refl _, fun q hq => by cases hq⟩
  | n + 1, i, j, c, u, h => by
    obtain ⟨j1, c1, u1, c2, u2, h1, h2, h3, rfl, rfl⟩ := h
    obtain ⟨a1, a2, a3⟩ := hU _ _ _ _ h2
    obtain ⟨b1, b2, b3⟩ := dL_gd ho hU n _ _ _ _ h3
    obtain ⟨o1, o2⟩ := ho _ h1
    refine ⟨by simp; omega, ?_, fun q hq => ?_⟩
    · rw [lfs_app]
      show lfs c1 + ((if κ i = 1 ∨ κ i = 2 then 1 else 0) + lfs c2) ≤ _
      rw [if_neg o2]; omega
    · rcases List.mem_append.mp hq with hq | hq
      · exact a3 q hq
      · rcases List.mem_cons.mp hq with rfl | hq
        · exact ⟨o1, fun z => absurd (Or.inr z) o2⟩
        · exact b3 q hq
theorem mop_ok : ∀ o, mop o → opk o ∧ ¬ (o = 1 ∨ o = 2) := fun o h => by unfold mop at h; unfold opk; omega
theorem aop_ok : ∀ o, aop o → opk o ∧ ¬ (o = 1 ∨ o = 2) := fun o h => by unfold aop at h; unfold opk; omega
theorem cop_ok : ∀ o, cop o → opk o ∧ ¬ (o = 1 ∨ o = 2) := fun o h => by unfold cop at h; unfold opk; omega
theorem dP_gd (hU : ∀ i j c u, U i j c u → gdc ν κ c u) : ∀ i j c u, dP κ U i j c u → gdc ν κ c u := by
  rintro i j c u ⟨j1, c1, u1, n, c2, u2, h1, h2, rfl, rfl⟩
  obtain ⟨a1, a2, a3⟩ := hU _ _ _ _ h1
  obtain ⟨b1, b2, b3⟩ := dL_gd mop_ok hU _ _ _ _ _ h2
  refine ⟨by simp; omega, by rw [lfs_app]; omega, fun q hq => ?_⟩
  rcases List.mem_append.mp hq with hq | hq
  · exact a3 q hq
  · exact b3 q hq
theorem dS_gd (hU : ∀ i j c u, U i j c u → gdc ν κ c u) : ∀ i j c u, dS κ U i j c u → gdc ν κ c u := by
  rintro i j c u ⟨j1, c1, u1, n, c2, u2, h1, h2, rfl, rfl⟩
  obtain ⟨a1, a2, a3⟩ := dP_gd hU _ _ _ _ h1
  obtain ⟨b1, b2, b3⟩ := dL_gd aop_ok (dP_gd hU) _ _ _ _ _ h2
  refine ⟨by simp; omega, by rw [lfs_app]; omega, fun q hq => ?_⟩
  rcases List.mem_append.mp hq with hq | hq
  · exact a3 q hq
  · exact b3 q hq
theorem dE_gd (hU : ∀ i j c u, U i j c u → gdc ν κ c u) : ∀ i j c u, dE κ U i j c u → gdc ν κ c u := by
  rintro i j c u (h | ⟨j1, c1, u1, c2, u2, h1, h2, h3, rfl, rfl⟩)
  · exact dS_gd hU _ _ _ _ h
  · obtain ⟨a1, a2, a3⟩ := dS_gd hU _ _ _ _ h1
    obtain ⟨b1, b2, b3⟩ := dS_gd hU _ _ _ _ h3
    obtain ⟨o1, o2⟩ := cop_ok _ h2
    refine ⟨by simp; omega, ?_, fun q hq => ?_⟩
    · rw [lfs_app, lfs_app]
      show lfs c1 + (lfs c2 + ((if κ j1 = 1 ∨ κ j1 = 2 then 1 else 0) + 0)) ≤ _
      rw [if_neg o2]; omega
    · rcases List.mem_append.mp hq with hq | hq
      · exact a3 q hq
      · rcases List.mem_append.mp hq with hq | hq
        · exact b3 q hq
        · have : q = (κ j1, 0) := by simpa using hq
          rw [this]
          exact ⟨o1, fun z => absurd (Or.inr z) o2⟩
theorem dF_gd : ∀ i j c u, dF κ ν ir i j c u → gdc ν κ c u := by
  rintro i j c u ⟨h, -, rfl⟩
  rcases h with ⟨h, rfl⟩ | ⟨h, -, rfl⟩
  · refine ⟨by show 1 + 1 ≤ 2 * 1; omega, by show (if (1 : Int) = 1 ∨ (1 : Int) = 2 then 1 else 0) + 0 ≤ 1; simp, fun q hq => ?_⟩
    have : q = (1, ν i) := by simpa using hq
    rw [this]
    exact ⟨Or.inr (Or.inl rfl), fun (z : (1 : Int) = 2) => absurd z (by decide)⟩
  · refine ⟨by show 1 + 1 ≤ 2 * 1; omega, by show (if (2 : Int) = 1 ∨ (2 : Int) = 2 then 1 else 0) + 0 ≤ 1; simp, fun q hq => ?_⟩
    have : q = (2, ν i) := by simpa using hq
    rw [this]
    exact ⟨Or.inr (Or.inr (Or.inl rfl)), fun _ => ⟨i, h, rfl⟩⟩
theorem dU_gd : ∀ (f i j : Nat) (c : cdT) (u : Nat), dU κ ν ir f i j c u → gdc ν κ c u
  | 0, i, j, c, u, h => dF_gd i j c u h
  | f + 1, i, j, c, u, h => by
    rcases h with h | ⟨_, c1, u1, h, rfl, rfl⟩ | ⟨_, j1, u1, h, _, _, rfl⟩
    · exact dF_gd i j c u h
    · obtain ⟨a1, a2, a3⟩ := dU_gd f _ _ _ _ h
      refine ⟨by simp; omega, ?_, fun q hq => ?_⟩
      · rw [lfs_app]
        show lfs c1 + ((if (3 : Int) = 1 ∨ (3 : Int) = 2 then 1 else 0) + 0) ≤ _
        rw [if_neg (by decide)]; omega
      · rcases List.mem_append.mp hq with hq | hq
        · exact a3 q hq
        · have : q = (3, 0) := by simpa using hq
          rw [this]
          exact ⟨Or.inr (Or.inr (Or.inr (Or.inl rfl))), fun (z : (3 : Int) = 2) => absurd z (by decide)⟩
    · obtain ⟨a1, a2, a3⟩ := dE_gd (dU_gd f) _ _ _ _ h
      exact ⟨by omega, by omega, a3⟩
end GRM
/-! the program reads exps -/
/-- the tokens lie there -/
def tkM (κ ν : Nat → Int) (L : Nat) (M : rf_M) : Prop := gi M 170 3 = (L : Int) ∧ ∀ k, k ≤ L → gi M 171 k = κ k ∧ gi M 173 k = ν k ∧ 0 ≤ gi M 172 k
def exF (p b k : Nat) : Prop := (b = 169 ∧ (k = 2 ∨ k = 3)) ∨ (b = p ∧ (k = 1 ∨ k = 3)) ∨ b = p + 10 ∨ b = p + 11
/-- where the parser stands: token, code, unaries -/
def pat (p : Nat) (L : Nat) (M : rf_M) (i cc un : Nat) : Prop := gi M 169 2 = (i : Int) ∧ i ≤ L ∧ gi M p 3 = (cc : Int) ∧ gi M p 1 = (un : Int) ∧ un ≤ 60
def prE (κ ν : Nat → Int) (L p : Nat) (M : rf_M) : Prop := M.2.2 169 1 = some p ∧ tkM κ ν L M ∧ (gi M 169 3 = -1 → ∃ i cc un, pat p L M i cc un ∧ cc ≤ 2 * un)
/-- code c is there from cc on -/
def cap (p : Nat) (M M' : rf_M) (cc : Nat) (c : cdT) : Prop := (∀ k, k < cc → gi M' (p + 10) k = gi M (p + 10) k ∧ gi M' (p + 11) k = gi M (p + 11) k) ∧ ∀ k, k < c.length → gi M' (p + 10) (cc + k) = (c.getD k (0, 0)).1 ∧ gi M' (p + 11) (cc + k) = (c.getD k (0, 0)).2
def exq (L p : Nat) (R : rxT) (M M' : rf_M) : Prop := eqy (exF p) M M' ∧ (gi M' 169 3 = -1 → gi M 169 3 = -1 ∧ ∃ i cc un j c u, pat p L M i cc un ∧ R i j c u ∧ pat p L M' j (cc + c.length) (un + u) ∧ cap p M M' cc c)
section GRP
variable {κ ν : Nat → Int} {L p : Nat} {M M' M'' : rf_M} {K : Int → rf_M → Prop}
theorem tkM.eq {P : Nat → Nat → Prop} (h : tkM κ ν L M) (e : eqy P M M') (q : ∀ b k, (b = 170 ∧ k = 3) ∨ b = 171 ∨ b = 172 ∨ b = 173 → ¬ P b k) : tkM κ ν L M' := ⟨(e.i (q _ _ (by omega))).trans h.1, fun k hk => ⟨(e.i (q _ _ (by omega))).trans (h.2 k hk).1, (e.i (q _ _ (by omega))).trans (h.2 k hk).2.1, by rw [e.i (q _ _ (by omega))]; exact (h.2 k hk).2.2⟩⟩
theorem cap.nil (p : Nat) (M : rf_M) (cc : Nat) : cap p M M cc [] := ⟨fun _ _ => ⟨rfl, rfl⟩, fun k hk => absurd hk (by simp)⟩
theorem cap.app {cc : Nat} {c d : cdT} (h : cap p M M' cc c) (h' : cap p M' M'' (cc + c.length) d) : cap p M M'' cc (c ++ d) := by
  refine ⟨fun k hk => ?_, fun k hk => ?_⟩
  · have a := h'.1 k (by omega)
    have b := h.1 k hk
    exact ⟨a.1.trans b.1, a.2.trans b.2⟩
  · by_cases hc : k < c.length
    · have a := h'.1 (cc + k) (by omega)
      have b := h.2 k hc
      rw [app_getD1 hc]
      exact ⟨a.1.trans b.1, a.2.trans b.2⟩
    · have hk' : k - c.length < d.length := by rw [List.length_append] at hk; omega
      have a := h'.2 (k - c.length) hk'
      have e1 : cc + c.length + (k - c.length) = cc + k := by omega
      have e2 : (c ++ d).getD k (0, 0) = d.getD (k - c.length) (0, 0) := by
        have := app_getD2 (l := c) (m := d) (j := k - c.length) (d := (0, 0)) hk'
        rw [show c.length + (k - c.length) = k by omega] at this
        exact this
      rw [e1] at a
      rw [e2]
      exact a
theorem x_Qat {t : Int} (hP : tkM κ ν L M) (hi : gi M 169 3 = -1 → ∃ i, gi M 169 2 = ((i : Nat) : Int) ∧ i ≤ L) (h1 : gi M 169 3 = -1 → ∀ i : Nat, gi M 169 2 = (i : Int) → i ≤ L → κ i = t → K 1 M) (h0 : (gi M 169 3 = -1 → ∀ i : Nat, gi M 169 2 = (i : Int) → i ≤ L → ¬ κ i = t) → K 0 M) : em_Q_isAt t M K := by
  refine ⟨fun h _ => ?_, fun h => ⟨Or.inl rfl, h0 (fun q => absurd q h)⟩⟩
  obtain ⟨i, e, hl⟩ := hi h
  rw [e, tn_, (hP.2 i hl).1]
  exact ⟨fun q => ⟨Or.inr rfl, h1 h i e hl q⟩, fun q => ⟨Or.inl rfl, h0 (fun _ j ej hj z => q (by rw [show i = j by omega]; exact z))⟩⟩
theorem x_Qadv {K : rf_M → Prop} {i : Nat} (hP : tkM κ ν L M) (hi : gi M 169 2 = (i : Int)) (hl : i < L) (hL : L ≤ 800) (kk : ∀ M', eqy (fun b k => b = 169 ∧ k = 2) M M' → gi M' 169 2 = ((i + 1 : Nat) : Int) → K M') : em_Q_advance M K := by
  refine ⟨fun h => absurd h (by rw [hP.1, hi]; omega), fun _ M1 e1 => kk M1 (by rw [e1]; exact (eqy.rfl' M).wi ⟨rfl, rfl⟩) ?_⟩
  rw [e1, hi, gi_at (inr_z (by omega) (by omega))]
  omega
/-- advancing where nothing is known -/
theorem x_Qadv' {K : rf_M → Prop} (kk : ∀ M', eqy (fun b k => b = 169 ∧ k = 2) M M' → K M') : em_Q_advance M K := ⟨fun _ => kk M (eqy.rfl' M), fun _ M1 e1 => kk M1 (by rw [e1]; exact (eqy.rfl' M).wi ⟨rfl, rfl⟩)⟩
theorem x_Qref {K : rf_M → Prop} (hP : tkM κ ν L M) (hi : gi M 169 3 = -1 → ∃ i, gi M 169 2 = ((i : Nat) : Int) ∧ i ≤ L) (kk : ∀ M', eqy (fun b k => b = 169 ∧ k = 3) M M' → ¬ gi M' 169 3 = -1 → K M') : em_Q_refuse M K := by
  refine ⟨fun h _ M1 e1 => kk M1 (by rw [e1]; exact (eqy.rfl' M).wi ⟨rfl, rfl⟩) ?_, fun h => kk M (eqy.rfl' M) h⟩
  obtain ⟨i, e, hl⟩ := hi h
  rw [e1, gi_at (inr_gi _ _ _), e, tn_]
  have := (hP.2 i hl).2.2
  omega
theorem x_emit {K : rf_M → Prop} {o a : Int} {cc : Nat} (hc : gi M p 3 = (cc : Int)) (hc6 : cc < 160) (io : inr o) (ia : inr a) (kk : ∀ M', eqy (fun b k => (b = p ∧ k = 3) ∨ b = p + 10 ∨ b = p + 11) M M' → gi M' p 3 = ((cc + 1 : Nat) : Int) → cap p M M' cc [(o, a)] → K M') : em_P_emit p o a M K := by
  refine ⟨fun h => absurd h (by rw [hc]; omega), fun _ _ M1 e1 => ?_⟩
  rw [hc, tn_] at e1
  have g1 : gi M1 p 3 = (cc : Int) := by rw [e1, gi_of (Or.inl (by omega)), hc]
  intro _ M2 e2 M3 e3
  rw [g1, tn_] at e2
  have g2 : gi M2 p 3 = (cc : Int) := by rw [e2, gi_of (Or.inl (by omega)), g1]
  rw [g2] at e3
  refine kk M3 ?_ ?_ ⟨fun k hk => ⟨?_, ?_⟩, fun k hk => ?_⟩
  · rw [e3, e2, e1]
    exact (((eqy.rfl' M).wi (Or.inr (Or.inl rfl))).wi (Or.inr (Or.inr rfl))).wi (Or.inl ⟨rfl, rfl⟩)
  · rw [e3, gi_at (inr_z (by omega) (by omega))]
    omega
  · rw [e3, gi_of (Or.inl (by omega)), e2, gi_of (Or.inl (by omega)), e1, gi_of (Or.inr (by omega))]
  · rw [e3, gi_of (Or.inl (by omega)), e2, gi_of (Or.inr (by omega)), e1, gi_of (Or.inl (by omega))]
  · have : k = 0 := by simp at hk; omega
    subst this
    show gi M3 (p + 10) cc = o ∧ gi M3 (p + 11) cc = a
    constructor
    · rw [e3, gi_of (Or.inl (by omega)), e2, gi_of (Or.inl (by omega)), e1, gi_at io]
    · rw [e3, gi_of (Or.inl (by omega)), e2, gi_at ia]
/-- emitting where nothing is known -/
theorem x_emit' {K : rf_M → Prop} {o a : Int} (kk : ∀ M', eqy (fun b k => (b = p ∧ k = 3) ∨ b = p + 10 ∨ b = p + 11) M M' → K M') : em_P_emit p o a M K := by
  refine ⟨fun _ => kk M (eqy.rfl' M), fun _ _ M1 e1 _ M2 e2 M3 e3 => kk M3 ?_⟩
  rw [e3, e2, e1]
  exact (((eqy.rfl' M).wi (Or.inr (Or.inl rfl))).wi (Or.inr (Or.inr rfl))).wi (Or.inl ⟨rfl, rfl⟩)
end GRP
/-! the program's exps say what the grammar says -/
def irM (M : rf_M) : Bool := !(decide (gi M 169 4 = 0))
section PX
variable {κ ν : Nat → Int} {L p : Nat} {M M' M1 M2 M3 : rf_M} {R R' R'' : rxT} {ir : Bool}
theorem pat.uniq {i cc un i' cc' un' : Nat} (h : pat p L M i cc un) (h' : pat p L M i' cc' un') : i = i' ∧ cc = cc' ∧ un = un' := by
  obtain ⟨a1, -, a2, a3, -⟩ := h
  obtain ⟨b1, -, b2, b3, -⟩ := h'
  omega
theorem pat.eq {P : Nat → Nat → Prop} {i cc un : Nat} (h : pat p L M i cc un) (e : eqy P M M') (q : ∀ b k, (b = 169 ∧ k = 2) ∨ (b = p ∧ (k = 1 ∨ k = 3)) → ¬ P b k) : pat p L M' i cc un := ⟨(e.i (q _ _ (by omega))).trans h.1, h.2.1, (e.i (q _ _ (by omega))).trans h.2.2.1, (e.i (q _ _ (by omega))).trans h.2.2.2.1, h.2.2.2.2⟩
theorem exq.bad (e : eqy (exF p) M M') (h : ¬ gi M' 169 3 = -1) : exq L p R M M' := ⟨e, fun q => absurd q h⟩
theorem exq.mono (h : exq L p R M M') (i : ∀ i j c u, R i j c u → R' i j c u) : exq L p R' M M' := ⟨h.1, fun q => by
  obtain ⟨a, i0, cc, un, j, c, u, b1, b2, b3, b4⟩ := h.2 q
  exact ⟨a, i0, cc, un, j, c, u, b1, i _ _ _ _ b2, b3, b4⟩⟩
theorem exq.seq (h : exq L p R M M1) (h' : exq L p R' M1 M2) : exq L p (fun i j c u => ∃ j1 c1 u1 c2 u2, R i j1 c1 u1 ∧ R' j1 j c2 u2 ∧ c = c1 ++ c2 ∧ u = u1 + u2) M M2 := ⟨h.1.trans h'.1, fun q => by
  obtain ⟨a', i1, cc1, un1, j, c2, u2, b1', b2', b3', b4'⟩ := h'.2 q
  obtain ⟨a, i, cc, un, j1, c1, u1, b1, b2, b3, b4⟩ := h.2 a'
  obtain ⟨rfl, rfl, rfl⟩ := b3.uniq b1'
  refine ⟨a, i, cc, un, j, c1 ++ c2, u1 + u2, b1, ⟨j1, c1, u1, c2, u2, b2, b2', rfl, rfl⟩, ?_, b4.app b4'⟩
  rw [List.length_append, ← Nat.add_assoc, ← Nat.add_assoc]
  exact b3'⟩
theorem prE.of (hg : ∀ i j c u, R i j c u → c.length ≤ 2 * u) (hp : 25 ≤ p ∧ p ≤ 157) (h : prE κ ν L p M) (e : exq L p R M M') : prE κ ν L p M' := ⟨by rw [e.1.2]; exact h.1, h.2.1.eq e.1 (fun b k q => by unfold exF; omega), fun q => by
  obtain ⟨a, i, cc, un, j, c, u, b1, b2, b3, b4⟩ := e.2 q
  obtain ⟨i', cc', un', c1, c2⟩ := h.2.2 a
  obtain ⟨rfl, rfl, rfl⟩ := b1.uniq c1
  have := hg _ _ _ _ b2
  exact ⟨j, _, _, b3, by omega⟩⟩
theorem irM.eq {P : Nat → Nat → Prop} (e : eqy P M M') (q : ¬ P 169 4) : irM M' = irM M := by unfold irM; rw [e.i q]
theorem prE.at (h : prE κ ν L p M) : gi M 169 3 = -1 → ∃ i, gi M 169 2 = ((i : Nat) : Int) ∧ i ≤ L := fun q => by
  obtain ⟨i, cc, un, a, _⟩ := h.2.2 q
  exact ⟨i, a.1, a.2.1⟩
variable (hL : L ≤ 800) (hκ : κ L = 0) (hi : ∀ k, inr (κ k) ∧ inr (ν k)) (hp : p ∈ k1)
/-- an operator, what follows it, and its code -/
theorem x_tail (hL : L ≤ 800) (hκ : κ L = 0) (hi : ∀ k, inr (κ k) ∧ inr (ν k)) (hp : p ∈ k1) {V : rf_M → (rf_M → Prop) → Prop} {K : rf_M → Prop} {i : Nat} (hV : ∀ M K, prE κ ν L p M → irM M = ir → (∀ M', exq L p R' M M' → K M') → V M K) (hg : ∀ i j c u, R' i j c u → c.length + 1 ≤ 2 * u) (hP : prE κ ν L p M) (hir : irM M = ir) (hf : gi M 169 3 = -1) (hat : gi M 169 2 = (i : Int)) (hil : i ≤ L) (hne : κ i ≠ 0) (kk : ∀ M4, exq L p (fun i' j c u => i' = i ∧ ∃ c1, R' (i + 1) j c1 u ∧ c = c1 ++ [(κ i, 0)]) M M4 → K M4) : em_Q_token M (fun z1 M1 => em_Q_advance M1 (fun M2 => V M2 (fun M3 => isP M3 169 1 ∧ em_P_emit (gr M3 169 1) z1 0 M3 K))) := by
  have hk1 := k1_or hp
  have hlt : i < L := by
    rcases Nat.lt_or_ge i L with q | q
    · exact q
    · rw [show i = L by omega] at hne; exact absurd hκ hne
  refine fun _ => ?_
  rw [hat, tn_, (hP.2.1.2 i hil).1]
  refine x_Qadv hP.2.1 hat hlt hL (fun M2 y2 a2 => ?_)
  obtain ⟨i0, cc, un, pa, pc⟩ := hP.2.2 hf
  obtain rfl : i0 = i := by have := pa.1; omega
  have pa2 : pat p L M2 (i0 + 1) cc un := ⟨a2, by omega, (y2.i (by omega)).trans pa.2.2.1, (y2.i (by omega)).trans pa.2.2.2.1, pa.2.2.2.2⟩
  have P2 : prE κ ν L p M2 := ⟨by rw [y2.2]; exact hP.1, hP.2.1.eq y2 (fun b k q => by omega), fun _ => ⟨_, _, _, pa2, pc⟩⟩
  refine hV M2 _ P2 ((irM.eq y2 (by omega)).trans hir) (fun M3 q3 => ?_)
  have ref3 : M3.2.2 169 1 = some p := by rw [q3.1.2]; exact P2.1
  have ip := isPk ref3 hp
  refine ⟨ip.1, ?_⟩
  rw [ip.2]
  by_cases f3 : gi M3 169 3 = -1
  · obtain ⟨_, i1, cc1, un1, j, c, u, b1, b2, b3, b4⟩ := q3.2 f3
    obtain ⟨rfl, rfl, rfl⟩ := pa2.uniq b1
    have hlen := hg _ _ _ _ b2
    have h60 := b3.2.2.2.2
    refine x_emit b3.2.2.1 (by omega) (hi i0).1 ir_0 (fun M4 y4 c4 p4 => kk M4 ⟨?_, fun _ => ⟨hf, i0, cc, un, j, c ++ [(κ i0, 0)], u, pa, ⟨rfl, c, b2, rfl⟩, ⟨(y4.i (by omega)).trans b3.1, b3.2.1, ?_, (y4.i (by omega)).trans b3.2.2.2.1, b3.2.2.2.2⟩, ?_⟩⟩)
    · exact ((y2.mono (fun b k h => by unfold exF; omega)).trans q3.1).trans (y4.mono (fun b k h => by unfold exF; omega))
    · rw [c4]; simp; omega
    · have b4' : cap p M M3 cc c := ⟨fun k hk => ⟨((b4.1 k hk).1).trans (y2.i (by omega)), ((b4.1 k hk).2).trans (y2.i (by omega))⟩, b4.2⟩
      exact b4'.app p4
  · refine x_emit' (fun M4 y4 => kk M4 (exq.bad (((y2.mono (fun b k h => by unfold exF; omega)).trans q3.1).trans (y4.mono (fun b k h => by unfold exF; omega))) (by rw [y4.i (by omega)]; exact f3)))
theorem dL_snoc {op : Int → Prop} {U : rxT} : ∀ (n i j1 j : Nat) (c c' : cdT) (u u' : Nat), dL κ op U n i j1 c u → op (κ j1) → U (j1 + 1) j c' u' → dL κ op U (n + 1) i j (c ++ (c' ++ [(κ j1, 0)])) (u + u')
  | 0, i, j1, j, c, c', u, u', h, ho, hU => by
    obtain ⟨rfl, rfl, rfl⟩ := h
    exact ⟨j, c', u', [], 0, ho, hU, ⟨rfl, rfl, rfl⟩, by simp, by omega⟩
  | n + 1, i, j1, j, c, c', u, u', h, ho, hU => by
    obtain ⟨k1, d1, w1, d2, w2, h1, h2, h3, rfl, rfl⟩ := h
    exact ⟨k1, d1, w1, _, _, h1, h2, dL_snoc n _ _ _ _ _ _ _ h3 ho hU, by simp, by omega⟩
theorem x_Qprod (hL : L ≤ 800) (hκ : κ L = 0) (hi : ∀ k, inr (κ k) ∧ inr (ν k)) (hp : p ∈ k1) {U : Int → rf_M → (rf_M → Prop) → Prop} {v : Int} {K : rf_M → Prop} (hU : ∀ M K, prE κ ν L p M → irM M = ir → (∀ M', exq L p R M M' → K M') → U v M K) (hg : ∀ i j c u, R i j c u → gdc ν κ c u) (hP : prE κ ν L p M) (hir : irM M = ir) (kk : ∀ M', exq L p (dP κ R) M M' → K M') : em_Q_product U v M K := by
  have hk1 := k1_or hp
  refine hU M _ hP hir (fun M1 q1 => ⟨fun v1 v2 M' => v1 = v ∧ ∃ t : Nat, v2 = (t : Int) ∧ t ≤ 60 ∧ exq L p (dP κ R) M M', ⟨rfl, 0, rfl, by omega, q1.mono (fun i j c u h => ⟨j, c, u, 0, [], 0, h, ⟨rfl, rfl, rfl⟩, by simp, by omega⟩)⟩, ?_⟩)
  rintro v1 v2 M2 - - ⟨rfl, t, rfl, ht, q2⟩
  have P2 : prE κ ν L p M2 := hP.of (fun i j c u h => by have := (dP_gd hg _ _ _ _ h).1; omega) (by omega) q2
  have ir2 : irM M2 = ir := (irM.eq q2.1 (by unfold exF; omega)).trans hir
  refine ⟨fun h => kk M2 q2, fun h => ?_⟩
  have go : gi M2 169 3 = -1 → ∀ i : Nat, gi M2 169 2 = (i : Int) → i ≤ L → mop (κ i) → e_Q_product_40 U v1 (t : Int) M2 (fun v1' v2 M' => v1' = v1 ∧ ∃ t : Nat, v2 = (t : Int) ∧ t ≤ 60 ∧ exq L p (dP κ R) M M') K := fun hf i hat hil hm => by
    refine x_tail hL hκ hi hp hU (fun i j c u h => (hg _ _ _ _ h).1) P2 ir2 hf hat hil (by unfold mop at hm; omega) (fun M4 q4 => ⟨inr_z (by omega) (by omega), rfl, t + 1, by omega, by omega, ?_⟩)
    refine (q2.seq q4).mono (fun a b c u hh => ?_)
    obtain ⟨j1, c1, u1, c2, u2, ⟨k1, d1, w1, n, d2, w2, g1, g2, rfl, rfl⟩, ⟨rfl, c3, g3, rfl⟩, rfl, rfl⟩ := hh
    exact ⟨k1, d1, w1, n + 1, _, _, g1, dL_snoc _ _ _ _ _ _ _ _ g2 hm g3, by simp, by omega⟩
  refine x_Qat P2.2.1 P2.at (fun hf i hat hil e => ⟨fun q => absurd q (by decide), fun _ => go hf i hat hil (Or.inl e)⟩) (fun n1 => ⟨fun _ => x_Qat P2.2.1 P2.at (fun hf i hat hil e => ⟨fun q => absurd q (by decide), fun _ => go hf i hat hil (Or.inr (Or.inl e))⟩) (fun n2 => ⟨fun _ => x_Qat P2.2.1 P2.at (fun hf i hat hil e => ⟨fun q => absurd q (by decide), fun _ => go hf i hat hil (Or.inr (Or.inr e))⟩) (fun n3 => ⟨fun _ => kk M2 q2, fun q => absurd rfl q⟩), fun q => absurd rfl q⟩), fun q => absurd rfl q⟩)
theorem x_Qsum (hL : L ≤ 800) (hκ : κ L = 0) (hi : ∀ k, inr (κ k) ∧ inr (ν k)) (hp : p ∈ k1) {U : Int → rf_M → (rf_M → Prop) → Prop} {v : Int} {K : rf_M → Prop} (hU : ∀ M K, prE κ ν L p M → irM M = ir → (∀ M', exq L p R M M' → K M') → U v M K) (hg : ∀ i j c u, R i j c u → gdc ν κ c u) (hP : prE κ ν L p M) (hir : irM M = ir) (kk : ∀ M', exq L p (dS κ R) M M' → K M') : em_Q_sum U v M K := by
  have hk1 := k1_or hp
  refine x_Qprod hL hκ hi hp hU hg hP hir (fun M1 q1 => ⟨fun v1 v2 M' => v1 = v ∧ ∃ t : Nat, v2 = (t : Int) ∧ t ≤ 60 ∧ exq L p (dS κ R) M M', ⟨rfl, 0, rfl, by omega, q1.mono (fun i j c u h => ⟨j, c, u, 0, [], 0, h, ⟨rfl, rfl, rfl⟩, by simp, by omega⟩)⟩, ?_⟩)
  rintro v1 v2 M2 - - ⟨rfl, t, rfl, ht, q2⟩
  have P2 : prE κ ν L p M2 := hP.of (fun i j c u h => by have := (dS_gd hg _ _ _ _ h).1; omega) (by omega) q2
  have ir2 : irM M2 = ir := (irM.eq q2.1 (by unfold exF; omega)).trans hir
  refine ⟨fun h => kk M2 q2, fun h => ?_⟩
  have go : gi M2 169 3 = -1 → ∀ i : Nat, gi M2 169 2 = (i : Int) → i ≤ L → aop (κ i) → e_Q_sum_31 U v1 (t : Int) M2 (fun v1' v2 M' => v1' = v1 ∧ ∃ t : Nat, v2 = (t : Int) ∧ t ≤ 60 ∧ exq L p (dS κ R) M M') K := fun hf i hat hil hm => by
    refine x_tail hL hκ hi hp (V := em_Q_product U v1) (fun M K a b c => x_Qprod hL hκ hi hp hU hg a b c) (fun i j c u h => (dP_gd hg _ _ _ _ h).1) P2 ir2 hf hat hil (by unfold aop at hm; omega) (fun M4 q4 => ⟨inr_z (by omega) (by omega), rfl, t + 1, by omega, by omega, ?_⟩)
    refine (q2.seq q4).mono (fun a b c u hh => ?_)
    obtain ⟨j1, c1, u1, c2, u2, ⟨k1, d1, w1, n, d2, w2, g1, g2, rfl, rfl⟩, ⟨rfl, c3, g3, rfl⟩, rfl, rfl⟩ := hh
    exact ⟨k1, d1, w1, n + 1, _, _, g1, dL_snoc _ _ _ _ _ _ _ _ g2 hm g3, by simp, by omega⟩
  refine x_Qat P2.2.1 P2.at (fun hf i hat hil e => ⟨fun q => absurd q (by decide), fun _ => go hf i hat hil (Or.inl e)⟩) (fun n1 => ⟨fun _ => x_Qat P2.2.1 P2.at (fun hf i hat hil e => ⟨fun q => absurd q (by decide), fun _ => go hf i hat hil (Or.inr e)⟩) (fun n2 => ⟨fun _ => kk M2 q2, fun q => absurd rfl q⟩), fun q => absurd rfl q⟩)
theorem x_Qexp (hL : L ≤ 800) (hκ : κ L = 0) (hi : ∀ k, inr (κ k) ∧ inr (ν k)) (hp : p ∈ k1) {U : Int → rf_M → (rf_M → Prop) → Prop} {v : Int} {K : rf_M → Prop} (hU : ∀ M K, prE κ ν L p M → irM M = ir → (∀ M', exq L p R M M' → K M') → U v M K) (hg : ∀ i j c u, R i j c u → gdc ν κ c u) (hP : prE κ ν L p M) (hir : irM M = ir) (kk : ∀ M', exq L p (dE κ R) M M' → K M') : em_Q_exp U v M K := by
  have hk1 := k1_or hp
  refine x_Qsum hL hκ hi hp hU hg hP hir (fun M2 q2 => ?_)
  have P2 : prE κ ν L p M2 := hP.of (fun i j c u h => by have := (dS_gd hg _ _ _ _ h).1; omega) (by omega) q2
  have ir2 : irM M2 = ir := (irM.eq q2.1 (by unfold exF; omega)).trans hir
  have stay : e_Q_exp_55 U M2 K := kk M2 (q2.mono (fun i j c u h => Or.inl h))
  have go : gi M2 169 3 = -1 → ∀ i : Nat, gi M2 169 2 = (i : Int) → i ≤ L → cop (κ i) → e_Q_exp_32 U v M2 K := fun hf i hat hil hm => by
    refine x_tail hL hκ hi hp (V := em_Q_sum U v) (fun M K a b c => x_Qsum hL hκ hi hp hU hg a b c) (fun i j c u h => (dS_gd hg _ _ _ _ h).1) P2 ir2 hf hat hil (by unfold cop at hm; omega) (fun M4 q4 => kk M4 ?_)
    refine (q2.seq q4).mono (fun a b c u hh => ?_)
    obtain ⟨j1, c1, u1, c2, u2, g1, ⟨rfl, c3, g3, rfl⟩, rfl, rfl⟩ := hh
    exact Or.inr ⟨j1, c1, u1, c3, u2, g1, hm, g3, rfl, rfl⟩
  refine x_Qat P2.2.1 P2.at (fun hf i hat hil e => ⟨fun q => absurd q (by decide), fun _ => go hf i hat hil (Or.inl e)⟩) (fun n1 => ⟨fun _ => x_Qat P2.2.1 P2.at (fun hf i hat hil e => ⟨fun q => absurd q (by decide), fun _ => go hf i hat hil (Or.inr (Or.inl e))⟩) (fun n2 => ⟨fun _ => x_Qat P2.2.1 P2.at (fun hf i hat hil e => ⟨fun q => absurd q (by decide), fun _ => go hf i hat hil (Or.inr (Or.inr e))⟩) (fun n3 => ⟨fun _ => stay, fun q => absurd rfl q⟩), fun q => absurd rfl q⟩), fun q => absurd rfl q⟩)
end PX
/-! the program's unary; its exps as calls -/
/-- what a call of unary, of exp may come to -/
def Usp (κ ν : Nat → Int) (L p : Nat) (d : Int) (M : rf_M) (K : rf_M → Prop) : Prop := (0 ≤ d ∧ d ≤ 8) ∧ prE κ ν L p M ∧ ∀ M', exq L p (dU κ ν (irM M) (8 - d.toNat)) M M' → K M'
def Esp (κ ν : Nat → Int) (L p : Nat) (d : Int) (M : rf_M) (K : rf_M → Prop) : Prop := (0 ≤ d ∧ d ≤ 8) ∧ prE κ ν L p M ∧ ∀ M', exq L p (dE κ (dU κ ν (irM M) (8 - d.toNat))) M M' → K M'
section PU
variable {κ ν : Nat → Int} {L p : Nat} {M M' M1 M2 M3 : rf_M} {R R' R'' : rxT} {ir : Bool} {K : rf_M → Prop}
theorem x_Qexpect {t : Int} (hL : L ≤ 800) (hκ : κ L = 0) (ht : t ≠ 0) (hP : tkM κ ν L M) (ha : gi M 169 3 = -1 → ∃ i, gi M 169 2 = ((i : Nat) : Int) ∧ i ≤ L) (h1 : ∀ (i : Nat) M', gi M 169 3 = -1 → gi M 169 2 = (i : Int) → i < L → κ i = t → eqy (fun b k => b = 169 ∧ k = 2) M M' → gi M' 169 2 = ((i + 1 : Nat) : Int) → K M') (h0 : ∀ M', eqy (fun b k => b = 169 ∧ k = 3) M M' → ¬ gi M' 169 3 = -1 → K M') : em_Q_expect t M K := by
  refine x_Qat hP ha (fun hf i hat hil e => ⟨fun q => absurd q (by decide), fun _ => ?_⟩) (fun n => ⟨fun _ => x_Qref hP ha h0, fun q => absurd rfl q⟩)
  have hlt : i < L := by
    rcases Nat.lt_or_ge i L with q | q
    · exact q
    · rw [show i = L by omega, hκ] at e; exact absurd e.symm ht
  exact x_Qadv hP hat hlt hL (fun M' y a => h1 i M' hf hat hlt e y a)
theorem x_unary (hL : L ≤ 800) (hκ : κ L = 0) (hi : ∀ k, inr (κ k) ∧ inr (ν k)) (hν : ∀ k, κ k = 1 → 0 ≤ ν k) (hp : p ∈ k1) {d : Int} (h : Usp κ ν L p d M K) : em_Q_unary (Usp κ ν L p) d M K := by
  obtain ⟨hd, hP, kk⟩ := h
  have hk1 := k1_or hp
  have ip0 := isPk hP.1 hp
  have ref : ∀ N, eqy (exF p) M N → tkM κ ν L N → (gi N 169 3 = -1 → ∃ i, gi N 169 2 = ((i : Nat) : Int) ∧ i ≤ L) → em_Q_refuse N K := fun N y tk a => x_Qref tk a (fun M' y' b => kk M' (exq.bad (y.trans (y'.mono (fun b k h => by unfold exF; omega))) b))
  have bad : e_Q_unary_19 (Usp κ ν L p) M K := ref M (eqy.rfl' M) hP.2.1 hP.at
  refine ⟨fun hf => ⟨Or.inl rfl, fun _ => ⟨ip0.1, ?_⟩, fun q => absurd rfl q⟩, fun hf => ⟨Or.inr rfl, fun q => absurd q (by decide), fun _ => bad⟩⟩
  rw [ip0.2]
  obtain ⟨i, cc, un, pa, pc⟩ := hP.2.2 hf
  refine ⟨fun h60 => ⟨ip0.1, fun M2 e2 => ?_⟩, fun _ => bad⟩
  rw [pa.2.2.2.1] at h60
  rw [pa.2.2.2.1] at e2
  have y2 : eqy (fun b k => b = p ∧ k = 1) M M2 := by rw [e2]; exact (eqy.rfl' M).wi ⟨rfl, rfl⟩
  have y2' : eqy (exF p) M M2 := y2.mono (fun b k h => by unfold exF; omega)
  have pa2 : pat p L M2 i cc (un + 1) := ⟨(y2.i (by omega)).trans pa.1, pa.2.1, (y2.i (by omega)).trans pa.2.2.1, by rw [e2, gi_at (inr_z (by omega) (by omega))]; omega, by omega⟩
  have f2 : gi M2 169 3 = -1 := (y2.i (by omega)).trans hf
  have t2 : tkM κ ν L M2 := hP.2.1.eq y2 (fun b k q => by omega)
  have r2 : M2.2.2 169 1 = some p := by rw [y2.2]; exact hP.1
  have P2 : prE κ ν L p M2 := ⟨r2, t2, fun _ => ⟨i, cc, un + 1, pa2, by omega⟩⟩
  have ip2 := isPk r2 hp
  have lt : κ i ≠ 0 → i < L := fun q => by
    rcases Nat.lt_or_ge i L with z | z
    · exact z
    · rw [show i = L by have := pa.2.1; omega] at q; exact absurd hκ q
  have same : ∀ j : Nat, gi M2 169 2 = (j : Int) → j = i := fun j hj => by have := pa2.1; omega
  -- a number or a letter
  have leaf : ∀ o : Int, (o = 1 ∨ o = 2) → κ i ≠ 0 → dF κ ν (irM M) i (i + 1) [(o, ν i)] 1 → ∀ N, N = M2 → em_P_emit p o (ν i) N (fun M8 => em_Q_advance M8 (fun M9 => e_Q_unary_185 (Usp κ ν L p) M9 K)) := fun o ho hne hdf N eN => by
    subst eN
    refine x_emit pa2.2.2.1 (by omega) (by rcases ho with rfl | rfl <;> exact inr_z (by omega) (by omega)) (hi i).2 (fun M8 y8 c8 p8 => ?_)
    refine x_Qadv (t2.eq y8 (fun b k q => by omega)) ((y8.i (by omega)).trans pa2.1) (lt hne) hL (fun M9 y9 a9 => kk M9 ⟨(y2'.trans (y8.mono (fun b k h => by unfold exF; omega))).trans (y9.mono (fun b k h => by unfold exF; omega)), fun _ => ⟨hf, i, cc, un, i + 1, [(o, ν i)], 1, pa, ?_, ⟨a9, by have := lt hne; omega, ?_, ?_, by omega⟩, ?_⟩⟩)
    · cases 8 - d.toNat with
      | zero => exact hdf
      | succ f => exact Or.inl hdf
    · rw [y9.i (by omega), c8]; simp
    · rw [y9.i (by omega), y8.i (by omega)]; exact pa2.2.2.2.1
    · exact ⟨fun k hk => ⟨((y9.i (by omega)).trans (p8.1 k hk).1).trans (y2.i (by omega)), ((y9.i (by omega)).trans (p8.1 k hk).2).trans (y2.i (by omega))⟩, fun k hk => ⟨(y9.i (by omega)).trans (p8.2 k hk).1, (y9.i (by omega)).trans (p8.2 k hk).2⟩⟩
  have e181 : e_Q_unary_181 (Usp κ ν L p) M2 K := ref M2 y2' t2 P2.at
  have e146 : e_Q_unary_146 (Usp κ ν L p) d M2 K := by
    refine x_Qat t2 P2.at (fun _ j hj _ e => ⟨fun q => absurd q (by decide), fun _ => ⟨fun _ => e181, fun hd8 => ?_⟩⟩) (fun n => ⟨fun _ => e181, fun q => absurd rfl q⟩)
    obtain rfl := same j hj
    refine x_Qadv t2 pa2.1 (lt (by omega)) hL (fun M3 y3 a3 => ⟨inr_z (by omega) (by omega), ?_⟩)
    have pa3 : pat p L M3 (j + 1) cc (un + 1) := ⟨a3, by have := lt (by omega); omega, (y3.i (by omega)).trans pa2.2.2.1, (y3.i (by omega)).trans pa2.2.2.2.1, pa2.2.2.2.2⟩
    have P3 : prE κ ν L p M3 := ⟨by rw [y3.2]; exact r2, t2.eq y3 (fun b k q => by omega), fun _ => ⟨_, _, _, pa3, by omega⟩⟩
    have ir3 : irM M3 = irM M := (irM.eq y3 (by omega)).trans (irM.eq y2 (by omega))
    have y3' : eqy (exF p) M M3 := y2'.trans (y3.mono (fun b k h => by unfold exF; omega))
    have hf8 : 8 - d.toNat = (8 - (d + 1).toNat) + 1 := by omega
    refine x_Qexp hL hκ hi hp (ir := irM M) (R := dU κ ν (irM M) (8 - (d + 1).toNat)) (fun N K' a b c => ⟨⟨by omega, by omega⟩, a, fun M' h => c M' (by rw [b] at h; exact h)⟩) (dU_gd _) P3 ir3 (fun M4 q4 => ?_)
    have P4 : prE κ ν L p M4 := P3.of (fun i j c u h => by have := (dE_gd (dU_gd _) _ _ _ _ h).1; omega) (by omega) q4
    refine x_Qexpect hL hκ (by decide) P4.2.1 P4.at (fun i4 M5 hf4 hat4 hlt4 e4 y5 a5 => kk M5 ⟨(y3'.trans q4.1).trans (y5.mono (fun b k h => by unfold exF; omega)), fun _ => ?_⟩) (fun M5 y5 b5 => kk M5 (exq.bad ((y3'.trans q4.1).trans (y5.mono (fun b k h => by unfold exF; omega))) b5))
    obtain ⟨_, i3, cc3, un3, j4, c4, u4, b1, b2, b3, b4⟩ := q4.2 hf4
    obtain ⟨rfl, rfl, rfl⟩ := pa3.uniq b1
    obtain rfl : j4 = i4 := by have := b3.1; omega
    refine ⟨hf, j, cc, un, j4 + 1, c4, u4 + 1, pa, ?_, ⟨a5, by omega, (y5.i (by omega)).trans b3.2.2.1, ?_, by have := b3.2.2.2.2; omega⟩, ?_⟩
    · rw [hf8]
      exact Or.inr (Or.inr ⟨e, j4, u4, b2, e4, rfl, rfl⟩)
    · rw [y5.i (by omega), b3.2.2.2.1]; omega
    · exact ⟨fun k hk => ⟨((y5.i (by omega)).trans (b4.1 k hk).1).trans ((y3.i (by omega)).trans (y2.i (by omega))), ((y5.i (by omega)).trans (b4.1 k hk).2).trans ((y3.i (by omega)).trans (y2.i (by omega)))⟩, fun k hk => ⟨(y5.i (by omega)).trans (b4.2 k hk).1, (y5.i (by omega)).trans (b4.2 k hk).2⟩⟩
  have e108 : e_Q_unary_108 (Usp κ ν L p) d M2 K := by
    refine x_Qat t2 P2.at (fun _ j hj _ e => ⟨fun q => absurd q (by decide), fun _ => ⟨fun _ => e146, fun hd8 => ?_⟩⟩) (fun n => ⟨fun _ => e146, fun q => absurd rfl q⟩)
    obtain rfl := same j hj
    refine x_Qadv t2 pa2.1 (lt (by omega)) hL (fun M3 y3 a3 => ⟨inr_z (by omega) (by omega), ?_⟩)
    have pa3 : pat p L M3 (j + 1) cc (un + 1) := ⟨a3, by have := lt (by omega); omega, (y3.i (by omega)).trans pa2.2.2.1, (y3.i (by omega)).trans pa2.2.2.2.1, pa2.2.2.2.2⟩
    have P3 : prE κ ν L p M3 := ⟨by rw [y3.2]; exact r2, t2.eq y3 (fun b k q => by omega), fun _ => ⟨_, _, _, pa3, by omega⟩⟩
    have ir3 : irM M3 = irM M := (irM.eq y3 (by omega)).trans (irM.eq y2 (by omega))
    have y3' : eqy (exF p) M M3 := y2'.trans (y3.mono (fun b k h => by unfold exF; omega))
    have hf8 : 8 - d.toNat = (8 - (d + 1).toNat) + 1 := by omega
    refine ⟨⟨by omega, by omega⟩, P3, fun M4 q4 => ?_⟩
    rw [ir3] at q4
    have ip4 := isPk (show M4.2.2 169 1 = some p by rw [q4.1.2]; exact P3.1) hp
    refine ⟨ip4.1, ?_⟩
    rw [ip4.2]
    by_cases f4 : gi M4 169 3 = -1
    · obtain ⟨_, i3, cc3, un3, j4, c4, u4, b1, b2, b3, b4⟩ := q4.2 f4
      obtain ⟨rfl, rfl, rfl⟩ := pa3.uniq b1
      have hlen := (dU_gd _ _ _ _ _ b2).1
      have h60' := b3.2.2.2.2
      refine x_emit b3.2.2.1 (by omega) (inr_z (by omega) (by omega)) ir_0 (fun M5 y5 c5 p5 => kk M5 ⟨(y3'.trans q4.1).trans (y5.mono (fun b k h => by unfold exF; omega)), fun _ => ⟨hf, j, cc, un, j4, c4 ++ [(3, 0)], u4 + 1, pa, ?_, ⟨(y5.i (by omega)).trans b3.1, b3.2.1, ?_, ?_, by omega⟩, ?_⟩⟩)
      · rw [hf8]
        exact Or.inr (Or.inl ⟨e, c4, u4, b2, rfl, rfl⟩)
      · rw [c5]; simp; omega
      · rw [y5.i (by omega), b3.2.2.2.1]; omega
      · have b4' : cap p M M4 cc c4 := ⟨fun k hk => ⟨((b4.1 k hk).1).trans ((y3.i (by omega)).trans (y2.i (by omega))), ((b4.1 k hk).2).trans ((y3.i (by omega)).trans (y2.i (by omega)))⟩, b4.2⟩
        exact b4'.app p5
    · exact x_emit' (fun M5 y5 => kk M5 (exq.bad ((y3'.trans q4.1).trans (y5.mono (fun b k h => by unfold exF; omega))) (by rw [y5.i (by omega)]; exact f4)))
  have ir2 : irM M2 = irM M := irM.eq y2 (by omega)
  refine x_Qat t2 P2.at (fun _ j hj _ e => ⟨fun q => absurd q (by decide), fun _ => ⟨ip2.1, fun _ => ?_⟩⟩) (fun n2 => ⟨fun _ => x_Qat t2 P2.at (fun _ j hj hl e => ⟨fun q => absurd q (by decide), fun _ _ => ?_⟩) (fun n1 => ⟨fun _ => e108, fun q => absurd rfl q⟩), fun q => absurd rfl q⟩)
  · obtain rfl := same j hj
    rw [ip2.2, pa2.1, tn_, (t2.2 j pa2.2.1).2.1]
    exact leaf 1 (Or.inl rfl) (by omega) ⟨Or.inl ⟨e, rfl⟩, rfl, rfl⟩ M2 rfl
  · obtain rfl := same j hj
    have e89 : (irM M = false ∨ ν j < 16) → e_Q_unary_89 (Usp κ ν L p) M2 K := fun hh => by
      refine ⟨ip2.1, fun _ => ?_⟩
      rw [ip2.2, pa2.1, tn_, (t2.2 j pa2.2.1).2.1]
      exact leaf 2 (Or.inr rfl) (by omega) ⟨Or.inr ⟨e, hh, rfl⟩, rfl, rfl⟩ M2 rfl
    rw [pa2.1, tn_, (t2.2 j pa2.2.1).2.1]
    refine x_isCell (fun hc => ⟨fun q => absurd q (by decide), fun _ => e89 (Or.inr hc.2)⟩) (fun hc => ⟨fun _ => ⟨fun h4 => e89 (Or.inl ?_), fun h4 => e108⟩, fun q => absurd rfl q⟩)
    rw [← ir2]
    unfold irM
    rw [decide_eq_true h4]
    rfl
/-- calls of unary and of exp -/
theorem l_unary {fz : Bool} {S : gS} {B : rf_M} (hS : rl S) (hL : L ≤ 800) (hκ : κ L = 0) (hi : ∀ k, inr (κ k) ∧ inr (ν k)) (hν : ∀ k, κ k = 1 → 0 ≤ ν k) (hp : p ∈ k1) : ∀ (n : Nat) (x0 : Int) (M : rf_M) (K : rf_M → Prop), fl 22 353 B M → inr x0 → Usp κ ν L p x0 M K → lx (cx0 fz) n 50 0 (lv_args 0 [.ref 169, zv x0]) [] (M, S) (vl_v 22 353 B S K) := by
  intro n
  induction n using Nat.strongRecOn with
  | _ n ih =>
    intro x0 M K hR ix h
    exact E_Q_unary_m hS hR (fun n' hn x0 M K a b c => ih n' hn x0 M K a b c) ix (x_unary hL hκ hi hν hp h)
theorem l_exp {fz : Bool} {S : gS} {B : rf_M} (hS : rl S) (hL : L ≤ 800) (hκ : κ L = 0) (hi : ∀ k, inr (κ k) ∧ inr (ν k)) (hν : ∀ k, κ k = 1 → 0 ≤ ν k) (hp : p ∈ k1) (n : Nat) (x0 : Int) (M : rf_M) (K : rf_M → Prop) (hR : fl 22 353 B M) (ix : inr x0) (h : Esp κ ν L p x0 M K) : lx (cx0 fz) n 47 0 (lv_args 0 [.ref 169, zv x0]) [] (M, S) (vl_v 22 353 B S K) := by
  obtain ⟨hd, hP, kk⟩ := h
  refine E_Q_exp_m (U := Usp κ ν L p) hS hR (fun n' _ x0 M K a b c => l_unary hS hL hκ hi hν hp n' x0 M K a b c) ix ?_
  exact x_Qexp hL hκ hi hp (ir := irM M) (R := dU κ ν (irM M) (8 - x0.toNat)) (fun N K' a b c => ⟨hd, a, fun M' h => c M' (by rw [b] at h; exact h)⟩) (dU_gd _) hP rfl kk
end PU
