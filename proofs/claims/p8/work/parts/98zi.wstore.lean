/-! THE REFERENCE'S STORE: rules, what a run brings in -/
/-- how the reference writes a rule -/
def rex (Ts : tsT) (q : Nat × Int) : Int := 200 * (q.1 : Int) + (Ts q.1).1.1 2 q.2.toNat
theorem evc_V {O A : Nat → Int} {w w' : wdT} {V : Nat → Int64} {r' : rdT} : ∀ (f i : Nat) (st : List Int64) (r : rdT), evc O A w (mkV V) f i st r = ((evc O A w' (mkV V) f i st r').1, r)
  | 0, _, _, _ => rfl
  | f + 1, i, st, r => by
    unfold evc
    split
    · rfl
    · split
      · exact evc_V f _ _ r
      · split
        · rw [lval_V, lval_V]
          exact evc_V f _ _ r
        · split
          · exact evc_V f _ _ r
          · split
            · rfl
            · exact evc_V f _ _ r
section WS1
variable {M M' : rf_M} {c0 d : Nat} {K : Int → rf_M → Prop} {V : Nat → Int64} {Ts : tsT} {rs : List (Nat × Int)} {S : syT} {g : sgT} {w : wdT}
def rtxs (M : rf_M) (Ts : tsT) (c0 : Nat) : Prop := ∀ t, t < c0 → rtx M t (Ts t).1 (Ts t).2.1 (Ts t).2.2.1 (Ts t).2.2.2
def rrs (M : rf_M) (Ts : tsT) (d : Nat) (rs : List (Nat × Int)) : Prop := gi M 378 d = (rs.length : Int) ∧ ∀ j, j < rs.length → gi M 379 (32 * d + j) = rex Ts (rs.getD j (0, 0))
theorem rtxs.eq {P : Nat → Nat → Prop} (h : rtxs M Ts c0) (e : eqy P M M') (q : ∀ b k, 358 ≤ b → b ≤ 370 → ¬ P b k) : rtxs M' Ts c0 := fun t ht => (h t ht).eq e q
theorem rrs.eq {P : Nat → Nat → Prop} (h : rrs M Ts d rs) (e : eqy P M M') (q : ∀ b k, (b = 378 ∧ k = d) ∨ (b = 379 ∧ 32 * d ≤ k ∧ k < 32 * d + rs.length) → ¬ P b k) : rrs M' Ts d rs := ⟨(e.i (q _ _ (by omega))).trans h.1, fun j hj => (e.i (q _ _ (by omega))).trans (h.2 j hj)⟩
theorem rex_in (hT : twf Ts c0) {q : Nat × Int} (h1 : q.1 < c0) (h2 : vld (Ts q.1).1 (Ts q.1).2.1 q.2) : cdo (Ts q.1).1 (Ts q.1).2.2.1 ((Ts q.1).1.1 2 q.2.toNat) ∧ inr (rex Ts q) ∧ 0 ≤ rex Ts q := by
  obtain ⟨s, e, hs, hk⟩ := h2
  have hX := hT.2 q.1 h1
  have h12 := hT.1
  have hc : cdo (Ts q.1).1 (Ts q.1).2.2.1 ((Ts q.1).1.1 2 q.2.toNat) := by
    rw [e, tn_]
    exact (hX.2.2.2.2.2 s hs).2.2.2.2.2.2.2.2.2.2 (by unfold kxp; omega)
  refine ⟨hc, ?_⟩
  obtain ⟨c0, c1, k, ck, c2, c3⟩ := hc
  have := hX.2.1
  unfold rex
  exact ⟨inr_z (by omega) (by omega), by omega⟩
theorem y_holds {q : Nat × Int} (hT : twf Ts c0) (ht : rtxs M Ts c0) (h1 : q.1 < c0) (h2 : vld (Ts q.1).1 (Ts q.1).2.1 q.2) (hV : ∀ l, l < 16 → gl M 399 l = V l) (kk : ∀ M', eqy wkW M M' → K (if hld Ts V q = true then 1 else 0) M') : em_W_holds (rex Ts q) M K := by
  have h12 := hT.1
  have hX := hT.2 q.1 h1
  have hc := (rex_in hT h1 h2).1
  intro M1 e1
  have y1 : eqy (fun b k => b = 353 ∧ k = 65) M M1 := by rw [e1]; exact (eqy.rfl' M).wi ⟨rfl, rfl⟩
  unfold hld at kk
  refine y_work (w := wd0) (m := mkV V) (r := rR M1) (d := 0) hX ((ht q.1 h1).eq y1 (fun b k _ _ => by omega)) (by omega) hc (Or.inr ⟨rfl, fun l hl => ⟨bt_65535 l hl, ?_⟩⟩) (req.rfl' _) (by rw [e1, gi_at (inr_z (by omega) (by omega))]) (fun z M2 y2 q1 q2 q3 q4 => ?_)
  · exact ((y1.l (by omega)).trans (hV l hl)).symm
  · have hle := evc_le (O := (Ts q.1).1.2.1) (A := (Ts q.1).1.2.2) (w := wd0) (m := mkV V) 161 ((Ts q.1).1.1 2 q.2.toNat).toNat [] rd0
    rw [evc_V (w' := wd0) (r' := rd0)] at q2 q3 q4
    dsimp only at q2 q3 q4
    generalize evc (Ts q.1).1.2.1 (Ts q.1).1.2.2 wd0 (mkV V) 161 ((Ts q.1).1.1 2 q.2.toNat).toNat [] rd0 = E at kk q2 q3 q4 hle
    have y12 : eqy wkW M M2 := (y1.mono (fun b k h => Or.inl ⟨h.1, Or.inr (Or.inl h.2)⟩)).trans y2
    have K0 : ¬ (E.1.1 ≠ 1 ∧ E.1.1 ≠ 2 ∧ E.1.2 ≠ 0) → e_W_holds_29 M2 K := fun hn => by
      refine ⟨Or.inl rfl, ?_⟩
      have := kk M2 y12
      rw [if_neg (fun q => by
        simp at q
        exact hn ⟨q.1.1, q.1.2, q.2⟩)] at this
      exact this
    refine ⟨fun h65 => ?_, fun h65 => K0 (fun q => h65 (q4 q.1 q.2.1).1)⟩
    have n1 : E.1.1 ≠ 1 := fun q => by rw [q2 q] at h65; omega
    have n2 : E.1.1 ≠ 2 := fun q => by rw [(q3 q).1] at h65; omega
    rw [(q4 n1 n2).2]
    refine ⟨fun c => K0 (fun q => q.2.2 ((lgz _).mp c)), fun c => ⟨Or.inr rfl, ?_⟩⟩
    have := kk M2 y12
    rw [if_pos (by simp; exact ⟨⟨n1, n2⟩, fun q => c ((lgz _).mpr q)⟩)] at this
    exact this
theorem y_rulesHold (hT : twf Ts c0) (ht : rtxs M Ts c0) (hd : gi M 353 42 = (d : Int)) (hd2 : d < 2) (hr : rrs M Ts d rs) (hro : rok Ts c0 rs) (h32 : rs.length ≤ 32) (hV : ∀ l, l < 16 → gl M 399 l = V l) (kk : ∀ M', eqy wkW M M' → K (if rs.all (hld Ts V) = true then 1 else 0) M') : em_W_rulesHold M K := by
  refine ⟨fun v1 v2 M' => ∃ j : Nat, v2 = (j : Int) ∧ j ≤ rs.length ∧ eqy wkW M M' ∧ ((v1 = 1 ∧ ∀ i, i < j → hld Ts V (rs.getD i (0, 0)) = true) ∨ (v1 = 0 ∧ ¬ rs.all (hld Ts V) = true)), ⟨0, rfl, Nat.zero_le _, eqy.rfl' M, Or.inl ⟨rfl, fun i h => absurd h (by omega)⟩⟩, ?_⟩
  rintro v1 v2 M1 - - ⟨j, rfl, hj, y1, h1⟩
  have d1 : gi M1 353 42 = (d : Int) := (y1.i (by unfold wkW; omega)).trans hd
  have r1 : rrs M1 Ts d rs := hr.eq y1 (fun b k h => by unfold wkW; omega)
  rw [show e_W_rulesHold_4b v1 (j : Int) M1 = e_W_rulesHold_4b v1 (j : Int) M1 from rfl]
  have fin : (v1 = 0 ∨ j = rs.length) → e_W_rulesHold_46 v1 M1 K := fun hh => by
    have := kk M1 y1
    rcases h1 with ⟨e, ha⟩ | ⟨e, ha⟩
    · have hj' : j = rs.length := by omega
      rw [if_pos (all_getD (d := (0, 0)).mpr (fun i hi => ha i (by omega)))] at this
      exact ⟨Or.inr e, by rw [e]; exact this⟩
    · rw [if_neg ha] at this
      exact ⟨Or.inl e, by rw [e]; exact this⟩
  refine fun _ => ?_
  rw [d1, tn_, r1.1]
  refine ⟨fun hq => fin (by omega), fun hq => ⟨fun h0 => fin (Or.inl h0), fun h0 => ⟨inr_z (by omega) (by omega), fun _ => ?_⟩⟩⟩
  have hjl : j < rs.length := by omega
  have ha : ∀ i, i < j → hld Ts V (rs.getD i (0, 0)) = true := by
    rcases h1 with ⟨e, ha⟩ | ⟨e, ha⟩
    · exact ha
    · exact absurd e h0
  rw [show (32 * (d : Int) + (j : Int)).toNat = 32 * d + j by omega, r1.2 j hjl]
  refine y_holds hT (ht.eq y1 (fun b k _ _ => by unfold wkW; omega)) (hro j hjl).1 (hro j hjl).2 (fun l hl => (y1.l (by unfold wkW; omega)).trans (hV l hl)) (fun M2 y2 => ⟨inr_z (by omega) (by omega), j + 1, by omega, by omega, y1.trans y2, ?_⟩)
  by_cases hh : hld Ts V (rs.getD j (0, 0)) = true
  · rw [if_pos hh]
    refine Or.inl ⟨rfl, fun i hi => ?_⟩
    by_cases e : i = j
    · rw [e]; exact hh
    · exact ha i (by omega)
  · rw [if_neg hh]
    exact Or.inr ⟨rfl, fun q => hh (all_getD (d := (0, 0)).mp q j hjl)⟩
def wwW (b k : Nat) : Prop := b = 399 ∨ wkW b k
theorem y_isWell {t c : Nat} (hT : twf Ts c0) (htc : t < c0) (ht : rtxs M Ts c0) (hd : gi M 353 42 = (d : Int)) (hd2 : d < 2) (hw : weq S.1 (wR M d)) (hr : rrs M Ts d S.2.1) (hro : rok Ts c0 S.2.1) (h32 : S.2.1.length ≤ 32) (hm : meq g.2.1 (mR M)) (hc : g.2.1.2.2.2 = (c : Int)) (hc3 : c ≤ 400) (hrl : ∀ j, j < c → gi M 393 j = rex Ts (t, g.2.2.1 j)) (hv : ∀ j, j < c → vld (Ts t).1 (Ts t).2.1 (g.2.2.1 j)) (kk : ∀ M', eqy wwW M M' → K (if wel Ts S t g = true then 1 else 0) M') : em_W_isWell M K := by
  refine ⟨fun v1 M' => ∃ i : Nat, v1 = (i : Int) ∧ i ≤ 16 ∧ eqy (fun b _ => b = 399) M M' ∧ ∀ l, l < i → gl M' 399 l = wld S.1 g.2.1 l, ⟨0, rfl, by omega, eqy.rfl' M, fun l h => absurd h (by omega)⟩, ?_⟩
  rintro v1 M1 - ⟨i, rfl, hi, y1, hV1⟩
  have m1 : meq g.2.1 (mR M1) := hm.eqR y1 (fun b k h => by omega)
  have d1 : gi M1 353 42 = (d : Int) := (y1.i (by omega)).trans hd
  refine ⟨fun h16 => ?_, fun h16 => ?_⟩
  · have hV : ∀ l, l < 16 → gl M1 399 l = wld S.1 g.2.1 l := fun l hl => hV1 l (by omega)
    refine y_rulesHold (d := d) hT (ht.eq y1 (fun b k _ _ => by omega)) d1 hd2 (hr.eq y1 (fun b k h => by omega)) hro h32 hV (fun M2 y2 => ?_)
    have y12 : eqy wwW M M2 := (y1.mono (fun b k h => Or.inl h)).trans (y2.mono (fun b k h => Or.inr h))
    have nw : ∀ b k, ¬ (b = 353 ∧ (k = 52 ∨ k = 65 ∨ k = 66)) → ¬ (b = 389 ∨ b = 390 ∨ b = 398 ∨ b = 399) → ¬ wwW b k := fun b k h1 h2 => by unfold wwW wkW; omega
    refine ⟨fun v1 v2 M' => ∃ j : Nat, v2 = (j : Int) ∧ j ≤ c ∧ eqy wwW M M' ∧ (∀ l, l < 16 → gl M' 399 l = wld S.1 g.2.1 l) ∧ ((v1 = 1 ∧ S.2.1.all (hld Ts (wld S.1 g.2.1)) = true ∧ ∀ i, i < j → hld Ts (wld S.1 g.2.1) (t, g.2.2.1 i) = true) ∨ (v1 = 0 ∧ ¬ wel Ts S t g = true)), ⟨0, rfl, Nat.zero_le _, y12, fun l hl => (y2.l (by unfold wkW; omega)).trans (hV l hl), ?_⟩, ?_⟩
    · by_cases ha : S.2.1.all (hld Ts (wld S.1 g.2.1)) = true
      · rw [if_pos ha]
        exact Or.inl ⟨rfl, ha, fun i h => absurd h (by omega)⟩
      · rw [if_neg ha]
        refine Or.inr ⟨rfl, fun q => ha ?_⟩
        unfold wel at q
        rw [Bool.and_eq_true, Bool.and_eq_true] at q
        exact q.1.1
    rintro v1 v2 M3 - - ⟨j, rfl, hj, y3, hV3, h3⟩
    have m3 : meq g.2.1 (mR M3) := hm.eqR y3 (fun b k h => nw b k (by omega) (by omega))
    have c3 : gi M3 353 58 = (c : Int) := m3.2.2.2.trans hc
    have d3 : gi M3 353 42 = (d : Int) := (y3.i (nw _ _ (by omega) (by omega))).trans hd
    have r3 : rrs M3 Ts d S.2.1 := hr.eq y3 (fun b k h => nw b k (by omega) (by omega))
    have fin : (v1 = 0 ∨ j = c) → e_W_isWell_91 v1 M3 K := fun hh => by
      have := kk M3 y3
      rcases h3 with ⟨e, ha, hb⟩ | ⟨e, ha⟩
      · have hjc : j = c := by omega
        have hn : (nru t g).all (hld Ts (wld S.1 g.2.1)) = true := all_getD (d := (0, 0)).mpr (fun i hi => by
          rw [nru_len] at hi
          rw [nru_get hi]
          exact hb i (by omega))
        refine ⟨fun q => absurd q (by omega), fun _ _ => ?_⟩
        rw [d3, tn_, r3.1, c3]
        refine ⟨inr_z (by omega) (by omega), fun hl => ⟨Or.inl rfl, ?_⟩, fun hl => ⟨Or.inr rfl, ?_⟩⟩
        · rw [if_neg (fun q => by
            unfold wel at q
            rw [Bool.and_eq_true, decide_eq_true_eq] at q
            have := q.2
            omega)] at this
          exact this
        · rw [if_pos (by
            unfold wel
            rw [ha, hn]
            simp
            omega)] at this
          exact this
      · rw [if_neg ha] at this
        exact ⟨fun _ => ⟨Or.inl rfl, this⟩, fun q => absurd e q⟩
    refine ⟨fun hq => fin (by rw [c3] at hq; omega), fun hq => ⟨fun h0 => fin (Or.inl h0), fun h0 _ => ?_⟩⟩
    rw [c3] at hq
    obtain ⟨ha, hb⟩ : S.2.1.all (hld Ts (wld S.1 g.2.1)) = true ∧ ∀ i, i < j → hld Ts (wld S.1 g.2.1) (t, g.2.2.1 i) = true := by
      rcases h3 with ⟨e, ha, hb⟩ | ⟨e, ha⟩
      · exact ⟨ha, hb⟩
      · exact absurd e h0
    rw [tn_, show gi M3 393 j = rex Ts (t, g.2.2.1 j) from (y3.i (nw _ _ (by omega) (by omega))).trans (hrl j (by omega))]
    refine y_holds (q := (t, g.2.2.1 j)) hT (ht.eq y3 (fun b k _ _ => nw b k (by omega) (by omega))) htc (hv j (by omega)) hV3 (fun M4 y4 => ⟨inr_z (by omega) (by omega), j + 1, by omega, by omega, y3.trans (y4.mono (fun b k h => Or.inr h)), fun l hl => (y4.l (by unfold wkW; omega)).trans (hV3 l hl), ?_⟩)
    by_cases hh : hld Ts (wld S.1 g.2.1) (t, g.2.2.1 j) = true
    · rw [if_pos hh]
      refine Or.inl ⟨rfl, ha, fun i hi => ?_⟩
      by_cases e : i = j
      · rw [e]; exact hh
      · exact hb i (by omega)
    · rw [if_neg hh]
      refine Or.inr ⟨rfl, fun q => hh ?_⟩
      unfold wel at q
      rw [Bool.and_eq_true, Bool.and_eq_true] at q
      have := all_getD (d := (0, 0)).mp q.1.2 j (by rw [nru_len]; omega)
      rw [nru_get (by omega)] at this
      exact this
  · have hi' : i < 16 := by omega
    rw [tst_s _ hi', gi_ofi, show M1.1 353 55 = g.2.1.1 from m1.1, tn_]
    have nxt : ∀ (v : Int64), v = wld S.1 g.2.1 i → e_W_isWell_48 (i : Int) (i : Int) v M1 (fun v1 M' => ∃ i : Nat, v1 = (i : Int) ∧ i ≤ 16 ∧ eqy (fun b _ => b = 399) M M' ∧ ∀ l, l < i → gl M' 399 l = wld S.1 g.2.1 l) K := fun v hv => by
      intro _ M2 e2
      rw [tn_] at e2
      refine ⟨inr_z (by omega) (by omega), i + 1, by omega, by omega, by rw [e2]; exact y1.wl rfl, fun l hl => ?_⟩
      by_cases e : l = i
      · rw [e, e2, gl_at, hv]
      · rw [e2, gl_of (Or.inr e)]; exact hV1 l (by omega)
    refine ⟨fun hb _ => nxt _ ?_, fun hb => ?_⟩
    · have hb' : bt g.2.1.1 i = true := by
        by_cases q : bt g.2.1.1 i = true
        · exact q
        · rw [if_neg q] at hb; exact absurd hb (by decide)
      unfold wld
      rw [if_pos hb']
      exact m1.2.1 i hi' hb'
    · have hb' : ¬ bt g.2.1.1 i = true := fun q => hb (if_pos q)
      rw [d1]
      refine ⟨inr_z (by omega) (by omega), fun _ => nxt _ ?_⟩
      rw [show (16 * (d : Int) + (i : Int)).toNat = 16 * d + i by omega]
      unfold wld
      rw [if_neg hb']
      exact (y1.l (by omega)).trans (hw i hi').1
/-- what a run has made is brought in -/
theorem y_bringIn {t c : Nat} {K : rf_M → Prop} (hT : twf Ts c0) (htc : t < c0) (hd : gi M 353 42 = (d : Int)) (hd2 : d < 2) (hw : weq S.1 (wR M d)) (hr : rrs M Ts d S.2.1) (hm : meq g.2.1 (mR M)) (hc : g.2.1.2.2.2 = (c : Int)) (hrl : ∀ j, j < c → gi M 393 j = rex Ts (t, g.2.2.1 j)) (hv : ∀ j, j < c → vld (Ts t).1 (Ts t).2.1 (g.2.2.1 j)) (h32 : S.2.1.length + c ≤ 32) (kk : ∀ M', eqy (fun b k => ((b = 376 ∨ b = 377) ∧ 16 * d ≤ k ∧ k < 16 * d + 16) ∨ (b = 378 ∧ k = d) ∨ (b = 379 ∧ 32 * d ≤ k ∧ k < 32 * d + 32)) M M' → weq (brg S.1 g.2.1) (wR M' d) → rrs M' Ts d (S.2.1 ++ nru t g) → K M') : em_W_bringIn M K := by
  refine ⟨fun v1 M' => ∃ i : Nat, v1 = (i : Int) ∧ i ≤ 16 ∧ eqy (fun b k => (b = 376 ∨ b = 377) ∧ 16 * d ≤ k ∧ k < 16 * d + 16) M M' ∧ ∀ l, l < 16 → gl M' 376 (16 * d + l) = (if l < i then wld S.1 g.2.1 l else S.1.1 l) ∧ M'.1 377 (16 * d + l) = if l < i then (brg S.1 g.2.1).2 l else S.1.2 l, ⟨0, rfl, by omega, eqy.rfl' M, fun l hl => by rw [if_neg (by omega), if_neg (by omega)]; exact hw l hl⟩, ?_⟩
  rintro v1 M1 - ⟨i, rfl, hi, y1, h1⟩
  have m1 : meq g.2.1 (mR M1) := hm.eqR y1 (fun b k h => by omega)
  have d1 : gi M1 353 42 = (d : Int) := (y1.i (by omega)).trans hd
  refine ⟨fun h16 => ?_, fun h16 => ?_⟩
  · have r1 : rrs M1 Ts d S.2.1 := hr.eq y1 (fun b k h => by omega)
    have hw1 : weq (brg S.1 g.2.1) (wR M1 d) := fun l hl => by
      have := h1 l hl
      rw [if_pos (by omega), if_pos (by omega)] at this
      exact this
    refine ⟨fun v1 M' => ∃ j : Nat, v1 = (j : Int) ∧ j ≤ c ∧ eqy (fun b k => (b = 378 ∧ k = d) ∨ (b = 379 ∧ 32 * d ≤ k ∧ k < 32 * d + 32)) M1 M' ∧ gi M' 378 d = ((S.2.1.length + j : Nat) : Int) ∧ ∀ l, l < S.2.1.length + j → gi M' 379 (32 * d + l) = rex Ts ((S.2.1 ++ nru t g).getD l (0, 0)), ⟨0, rfl, Nat.zero_le _, eqy.rfl' M1, by rw [r1.1]; rfl, fun l hl => by rw [app_getD1 (by omega)]; exact r1.2 l (by omega)⟩, ?_⟩
    rintro v1 M2 - ⟨j, rfl, hj, y2, n2, h2⟩
    have c2 : gi M2 353 58 = (c : Int) := (y2.i (by omega)).trans (m1.2.2.2.trans hc)
    have d2 : gi M2 353 42 = (d : Int) := (y2.i (by omega)).trans d1
    refine ⟨fun hq => ?_, fun hq _ _ => ?_⟩
    · rw [c2] at hq
      have hjc : j = c := by omega
      refine kk M2 ((y1.mono (fun b k h => Or.inl h)).trans (y2.mono (fun b k h => Or.inr h))) (hw1.eqR y2 (fun b k h => by omega)) ⟨?_, fun l hl => ?_⟩
      · rw [n2, List.length_append, nru_len]
        have : g.2.1.2.2.2.toNat = c := by omega
        rw [this, hjc]
      · rw [List.length_append, nru_len] at hl
        exact h2 l (by omega)
    · rw [c2] at hq
      rw [d2, tn_, n2]
      have ex : (32 * (d : Int) + ((S.2.1.length + j : Nat) : Int)).toNat = 32 * d + (S.2.1.length + j) := by omega
      rw [ex, tn_]
      refine ⟨inr_z (by omega) (by omega), fun _ M3 e3 => ?_⟩
      have g3 : gi M3 353 42 = (d : Int) := by rw [e3, gi_of (Or.inl (by omega))]; exact d2
      rw [g3, tn_]
      refine fun _ _ M4 e4 => ?_
      have n3 : gi M3 378 d = ((S.2.1.length + j : Nat) : Int) := by rw [e3, gi_of (Or.inl (by omega))]; exact n2
      rw [n3] at e4
      have hjc : j < c := by omega
      have e393 : gi M2 393 j = rex Ts (t, g.2.2.1 j) := ((y2.i (by omega)).trans (y1.i (by omega))).trans (hrl j hjc)
      rw [e393] at e3
      have ir := (rex_in (q := (t, g.2.2.1 j)) hT htc (hv j hjc)).2.1
      have ef : ((S.2.1 ++ nru t g).getD (S.2.1.length + j) (0, 0)) = (t, g.2.2.1 j) := by
        rw [app_getD2 (by rw [nru_len]; omega), nru_get (by omega)]
      refine ⟨inr_z (by omega) (by omega), j + 1, by omega, by omega, ?_, ?_, fun l hl => ?_⟩
      · rw [e4, e3]
        exact (y2.wi (Or.inr ⟨rfl, by omega, by omega⟩)).wi (Or.inl ⟨rfl, rfl⟩)
      · rw [e4, gi_at (inr_z (by omega) (by omega))]
        omega
      · rw [e4, gi_of (Or.inl (by omega)), e3]
        by_cases e : l = S.2.1.length + j
        · rw [e, gi_at ir, ef]
        · rw [gi_of (Or.inr (by omega))]
          exact h2 l (by omega)
  · have hi' : i < 16 := by omega
    have h1i := h1 i hi'
    rw [if_neg (by omega), if_neg (by omega)] at h1i
    rw [tst_s _ hi', gi_ofi, show M1.1 353 55 = g.2.1.1 from m1.1, d1, tn_]
    have ex : (16 * (d : Int) + (i : Int)).toNat = 16 * d + i := by omega
    rw [ex]
    have nxt : ∀ M2, eqy (fun b k => (b = 376 ∨ b = 377) ∧ k = 16 * d + i) M1 M2 → gl M2 376 (16 * d + i) = wld S.1 g.2.1 i → M2.1 377 (16 * d + i) = (brg S.1 g.2.1).2 i → e_W_bringIn_58 (i : Int) M2 (fun v1 M' => ∃ i : Nat, v1 = (i : Int) ∧ i ≤ 16 ∧ eqy (fun b k => (b = 376 ∨ b = 377) ∧ 16 * d ≤ k ∧ k < 16 * d + 16) M M' ∧ ∀ l, l < 16 → gl M' 376 (16 * d + l) = (if l < i then wld S.1 g.2.1 l else S.1.1 l) ∧ M'.1 377 (16 * d + l) = if l < i then (brg S.1 g.2.1).2 l else S.1.2 l) K := fun M2 y2 q1 q2 => by
      refine ⟨inr_z (by omega) (by omega), i + 1, by omega, by omega, y1.trans (y2.mono (fun b k h => ⟨h.1, by omega, by omega⟩)), fun l hl => ?_⟩
      by_cases e : l = i
      · rw [e, if_pos (by omega), if_pos (by omega)]
        exact ⟨q1, q2⟩
      · have := h1 l hl
        by_cases e2 : l < i
        · rw [if_pos e2, if_pos e2] at this
          rw [if_pos (by omega), if_pos (by omega)]
          exact ⟨(y2.l (by omega)).trans this.1, (y2.1 _ _ (by omega)).1.trans this.2⟩
        · rw [if_neg e2, if_neg e2] at this
          rw [if_neg (by omega), if_neg (by omega)]
          exact ⟨(y2.l (by omega)).trans this.1, (y2.1 _ _ (by omega)).1.trans this.2⟩
    refine ⟨fun hb _ => ⟨inr_z (by omega) (by omega), fun _ M2 e2 => ?_⟩, fun hb => ?_⟩
    · have hb' : bt g.2.1.1 i = true := by
        by_cases q : bt g.2.1.1 i = true
        · exact q
        · rw [if_neg q] at hb; exact absurd hb (by decide)
      have g2 : gi M2 353 42 = (d : Int) := by rw [e2]; exact d1
      rw [g2, ex]
      refine ⟨inr_z (by omega) (by omega), fun _ _ M3 e3 => nxt M3 ?_ ?_ ?_⟩
      · rw [e3, e2]
        exact ((eqy.rfl' M1).wl ⟨Or.inl rfl, rfl⟩).wi ⟨Or.inr rfl, rfl⟩
      · rw [e3, gl_wi, e2, gl_at]
        unfold wld
        rw [if_pos hb']
        exact m1.2.1 i hi' hb'
      · rw [e3]
        show (rf_wi M2 377 (16 * d + i) _).1 377 (16 * d + i) = if bt g.2.1.1 i = true then _ else _
        rw [rf_wi_at, if_pos hb', e2]
        show Int32.ofInt ((M1.1 377 (16 * d + i)).toInt + 1) = _
        rw [h1i.2]
    · have hb' : ¬ bt g.2.1.1 i = true := fun q => hb (if_pos q)
      refine nxt M1 (eqy.rfl' M1) ?_ ?_
      · rw [h1i.1]
        unfold wld
        rw [if_neg hb']
      · rw [h1i.2]
        show _ = if bt g.2.1.1 i = true then _ else _
        rw [if_neg hb']
end WS1
