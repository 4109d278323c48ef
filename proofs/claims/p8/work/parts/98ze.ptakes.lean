/-! THE PROGRAM'S STORE: put, takes -/
section PS2
variable {M M' : rf_M} {p st a n cc c0 : Nat} {X : txT} {en : Int} {K : Int → rf_M → Prop} {V : Nat → Int64} {Ts : tsT} {w : wdT} {rs : List (Nat × Int)}
theorem prs.eq {P : Nat → Nat → Prop} (h : prs M st rs) (e : eqy P M M') (q : ∀ b k, (b = st ∧ k = 2) ∨ b = st + 4 → ¬ P b k) : prs M' st rs := ⟨(e.i (q _ _ (by omega))).trans h.1, fun j hj => ⟨by rw [e.2]; exact (h.2 j hj).1, (e.i (q _ _ (by omega))).trans (h.2 j hj).2⟩⟩
def alP (st b k : Nat) : Prop := b = st + 5 ∨ wsP st b k
theorem x_allows {l : Nat} {v : Int64} (hst : 180 ≤ st) (hl : l < 16) (hT : twf Ts c0) (ht : ptxs M Ts c0) (hw : weq w (wS M st)) (hr : prs M st rs) (hro : rok Ts c0 rs) (h32 : rs.length ≤ 32) (kk : ∀ M', eqy (alP st) M M' → K (if rs.all (hld Ts (va_up w.1 l v)) = true then 1 else 0) M') : em_S_allows st (l : Int) v M K := by
  intro _ M1 e1
  refine x_isCell (fun _ => ⟨fun q => absurd q (by decide), fun _ _ M3 e3 => ?_⟩) (fun q => absurd ⟨by omega, by omega⟩ q)
  rw [tn_] at e3
  have y3 : eqy (fun b _ => b = st + 5) M M3 := by rw [e3, e1]; exact ((eqy.rfl' M).cpl (fun _ => rfl)).wl rfl
  have hV : ∀ j, j < 16 → gl M3 (st + 5) j = va_up w.1 l v j := fun j hj => by
    by_cases e : j = l
    · rw [e, e3, gl_at, va_up_at]
    · rw [e3, gl_of (Or.inr e), va_up_of e, e1]
      have := gl_cpl (M := M) (a := st + 5) (a2 := st + 1) (sp := 0) (dp := 0) hj
      rw [Nat.zero_add] at this
      rw [this]
      exact (hw j hj).1
  refine x_holdAhead hst hT (ht.eq hT.1 y3 (fun b k h => by omega)) (hr.eq y3 (fun b k h => by omega)) hro h32 hV (fun M4 y4 => ?_)
  have := kk M4 ((y3.mono (fun b k h => Or.inl h)).trans (y4.mono (fun b k h => Or.inr h)))
  refine ⟨?_, this⟩
  split
  · exact Or.inr rfl
  · exact Or.inl rfl
theorem x_write {l : Nat} {v : Int64} {K : rf_M → Prop} (hl : l < 16) (kk : ∀ M', eqy (fun b k => (b = st + 1 ∨ b = st + 2) ∧ k = l) M M' → gl M' (st + 1) l = v → M'.1 (st + 2) l = Int32.ofInt ((M.1 (st + 2) l).toInt + 1) → K M') : em_S_write st (l : Int) v M K := by
  refine x_isCell (fun _ => ⟨fun q => absurd q (by decide), fun _ _ M2 e2 _ _ M3 e3 => ?_⟩) (fun q => absurd ⟨by omega, by omega⟩ q)
  rw [tn_] at e2 e3
  refine kk M3 ?_ ?_ ?_
  · rw [e3, e2]
    exact ((eqy.rfl' M).wl ⟨Or.inl rfl, rfl⟩).wi ⟨Or.inr rfl, rfl⟩
  · rw [e3, gl_wi, e2, gl_at]
  · rw [e3]
    show (rf_wi M2 (st + 2) l _).1 (st + 2) l = _
    rw [rf_wi_at, e2]
    rfl
theorem nru_len (t : Nat) (g : sgT) : (nru t g).length = g.2.1.2.2.2.toNat := by unfold nru; simp
theorem nru_get {t j : Nat} {g : sgT} (h : j < g.2.1.2.2.2.toNat) : (nru t g).getD j (0, 0) = (t, g.2.2.1 j) := by
  rw [gD_ (by rw [nru_len]; exact h)]
  unfold nru
  simp
theorem app_getD1 {α : Type} {l m : List α} {j : Nat} {d : α} (h : j < l.length) : (l ++ m).getD j d = l.getD j d := by
  rw [gD_ (by simp; omega), gD_ h, List.getElem_append_left h]
theorem app_getD2 {α : Type} {l m : List α} {j : Nat} {d : α} (h : j < m.length) : (l ++ m).getD (l.length + j) d = m.getD j d := by
  rw [gD_ (by simp; omega), gD_ h, List.getElem_append_right (by omega)]
  simp
/-- what a run has made goes into the store, or not -/
theorem x_takes {t c : Nat} {S : syT} {g : sgT} (hst : 180 ≤ st) (hsa : st + 7 < a) (hT : twf Ts c0) (htc : t < c0) (ht : ptxs M Ts c0) (hw : weq S.1 (wS M st)) (hr : prs M st S.2.1) (hro : rok Ts c0 S.2.1) (h32 : S.2.1.length ≤ 32) (hm : meq g.2.1 (mP M a)) (hc : g.2.1.2.2.2 = (c : Int)) (hc3 : c ≤ 300) (hrl : ∀ j, j < c → gi M (a + 5) j = g.2.2.1 j) (hv : ∀ j, j < c → vld (Ts t).1 (Ts t).2.1 (g.2.2.1 j)) (h0 : ¬ wel Ts S t g = true → ∀ M', eqy (alP st) M M' → K 0 M') (h1 : wel Ts S t g = true → ∀ M', (∀ b k, ¬ (st ≤ b ∧ b ≤ st + 7) → M'.1 b k = M.1 b k ∧ M'.2.1 b k = M.2.1 b k ∧ M'.2.2 b k = M.2.2 b k) → weq (brg S.1 g.2.1) (wS M' st) → prs M' st (S.2.1 ++ nru t g) → K 1 M') : em_S_takes st (25 + 12 * t) (a + 2) M K := by
  have hT1 := hT.1
  intro _ M1 e1
  have y1 : eqy (fun b _ => b = st + 5) M M1 := by rw [e1]; exact (eqy.rfl' M).cpl (fun _ => rfl)
  refine ⟨fun v0 v1 v2 v3 M' => v0 = st ∧ v1 = 25 + 12 * t ∧ v2 = a + 2 ∧ ∃ i : Nat, v3 = (i : Int) ∧ i ≤ 16 ∧ eqy (fun b _ => b = st + 5) M M' ∧ ∀ l, l < 16 → gl M' (st + 5) l = if l < i then wld S.1 g.2.1 l else S.1.1 l, ⟨rfl, rfl, rfl, 0, rfl, by omega, y1, fun l hl => ?_⟩, ?_⟩
  · rw [if_neg (by omega), e1]
    have := gl_cpl (M := M) (a := st + 5) (a2 := st + 1) (sp := 0) (dp := 0) hl
    rw [Nat.zero_add] at this
    rw [this]
    exact (hw l hl).1
  rintro v0 v1 v2 v3 M2 - ⟨rfl, rfl, rfl, i, rfl, hi, y2, hV2⟩
  have m2 : meq g.2.1 (mP M2 a) := hm.eqP y2 (fun b k _ _ => by omega)
  refine ⟨fun hq => ?_, fun hq => ?_⟩
  · -- all cells are there
    have hV : ∀ l, l < 16 → gl M2 (v0 + 5) l = wld S.1 g.2.1 l := fun l hl => by rw [hV2 l hl, if_pos (by omega)]
    have hr2 := hr.eq y2 (fun b k h => by omega)
    have c2 : gi M2 (a + 2) 3 = (c : Int) := m2.2.2.2.trans hc
    rw [hr2.1, c2]
    refine ⟨inr_z (by omega) (by omega), fun hl => h0 (fun q => ?_) M2 (y2.mono (fun b k h => Or.inl h)), fun hl => ?_⟩
    · unfold wel at q
      rw [Bool.and_eq_true, decide_eq_true_eq] at q
      have := q.2
      omega
    refine x_holdAhead hst hT (ht.eq hT.1 y2 (fun b k h => by omega)) hr2 hro h32 hV (fun M3 y3 => ?_)
    have y23 : eqy (alP v0) M M3 := (y2.mono (fun b k h => Or.inl h)).trans (y3.mono (fun b k h => Or.inr h))
    by_cases ha : S.2.1.all (hld Ts (wld S.1 g.2.1)) = true
    · rw [if_pos ha]
      refine ⟨fun q => absurd q (by decide), fun _ => ?_⟩
      -- the run's own rules
      refine ⟨fun v0' v1 v2 v3 M' => v0' = v0 ∧ v1 = 25 + 12 * t ∧ v2 = a + 2 ∧ ∃ i : Nat, v3 = (i : Int) ∧ i ≤ c ∧ eqy (alP v0) M M' ∧ (∀ l, l < 16 → gl M' (v0 + 5) l = wld S.1 g.2.1 l) ∧ ∀ j, j < i → hld Ts (wld S.1 g.2.1) (t, g.2.2.1 j) = true, ⟨rfl, rfl, rfl, 0, rfl, by omega, y23, fun l hl => (y3.l (by unfold wsP; omega)).trans (hV l hl), fun j hj => absurd hj (by omega)⟩, ?_⟩
      rintro v0' v1 v2 v3 M4 - ⟨rfl, rfl, rfl, i4, rfl, hi4, y4, hV4, h4⟩
      have nal : ∀ b k, b = v0' + 1 ∨ b = v0' + 2 ∨ (b = v0' ∧ k = 2) ∨ b = v0' + 4 ∨ v0' + 7 < b ∨ b < v0' → ¬ alP v0' b k := fun b k h => by unfold alP wsP; omega
      have m4 : meq g.2.1 (mP M4 a) := hm.eqP y4 (fun b k _ _ => nal b k (by omega))
      have c4 : gi M4 (a + 2) 3 = (c : Int) := m4.2.2.2.trans hc
      refine ⟨fun hq4 => ?_, fun hq4 _ => ?_⟩
      · rw [c4] at hq4
        have hi4c : i4 = c := by omega
        have hnall : (nru t g).all (hld Ts (wld S.1 g.2.1)) = true := all_getD (d := (0, 0)).mpr (fun j hj => by
          rw [nru_len] at hj
          rw [nru_get hj]
          exact h4 j (by omega))
        have hwel : wel Ts S t g = true := by
          unfold wel
          rw [ha, hnall]
          simp
          omega
        -- the cells are written
        have w4 : weq S.1 (wS M4 v0') := hw.eqP y4 (fun b k h => nal b k (by omega))
        refine ⟨fun v0 v1 v2 v3 M' => v0 = v0' ∧ v1 = 25 + 12 * t ∧ v2 = a + 2 ∧ ∃ i : Nat, v3 = (i : Int) ∧ i ≤ 16 ∧ eqy (fun b _ => b = v0' + 1 ∨ b = v0' + 2) M4 M' ∧ ∀ l, l < 16 → gl M' (v0' + 1) l = (if l < i then wld S.1 g.2.1 l else S.1.1 l) ∧ M'.1 (v0' + 2) l = if l < i then (brg S.1 g.2.1).2 l else S.1.2 l, ⟨rfl, rfl, rfl, 0, rfl, by omega, eqy.rfl' M4, fun l hl => by rw [if_neg (by omega), if_neg (by omega)]; exact w4 l hl⟩, ?_⟩
        rintro v0 v1 v2 v3 M5 - ⟨rfl, rfl, rfl, i5, rfl, hi5, y5, h5⟩
        have m5 : meq g.2.1 (mP M5 a) := m4.eqP y5 (fun b k _ _ => by omega)
        refine ⟨fun hq5 => ?_, fun hq5 => ?_⟩
        · -- the rules are added
          have c5 : gi M5 (a + 2) 3 = (c : Int) := m5.2.2.2.trans hc
          have r5 : prs M5 v0 S.2.1 := (hr.eq y4 (fun b k h => nal b k (by omega))).eq y5 (fun b k h => by omega)
          have hw5 : weq (brg S.1 g.2.1) (wS M5 v0) := fun l hl => by
            have := h5 l hl
            rw [if_pos (by omega), if_pos (by omega)] at this
            exact this
          have g5 : ∀ j, j < c → gi M5 (a + 5) j = g.2.2.1 j := fun j hj => ((y5.i (by omega)).trans (y4.i (nal _ _ (by omega)))).trans (hrl j hj)
          have wl := hwel
          unfold wel at wl
          rw [Bool.and_eq_true, decide_eq_true_eq] at wl
          have hlen : S.2.1.length + c ≤ 32 := by have := wl.2; omega
          have ys : ∀ b k, ¬ (v0 ≤ b ∧ b ≤ v0 + 7) → M5.1 b k = M.1 b k ∧ M5.2.1 b k = M.2.1 b k ∧ M5.2.2 b k = M.2.2 b k := fun b k h => by
            have q1 := y5.1 b k (by omega)
            have q2 := y4.1 b k (nal b k (by omega))
            exact ⟨q1.1.trans q2.1, q1.2.trans q2.2, by rw [y5.2, y4.2]⟩
          refine ⟨fun v0' v1 v2 v3 M' => v0' = v0 ∧ v1 = 25 + 12 * t ∧ v2 = a + 2 ∧ ∃ i : Nat, v3 = (i : Int) ∧ i ≤ c ∧ (∀ b k, ¬ (b = v0 ∧ k = 2) → b ≠ v0 + 3 → b ≠ v0 + 4 → M'.1 b k = M5.1 b k ∧ M'.2.2 b k = M5.2.2 b k) ∧ M'.2.1 = M5.2.1 ∧ gi M' v0 2 = ((S.2.1.length + i : Nat) : Int) ∧ (∀ k, M'.2.2 (v0 + 4) k = M5.2.2 (v0 + 4) k ∧ M'.1 (v0 + 3) k = M5.1 (v0 + 3) k ∧ M'.2.2 v0 k = M5.2.2 v0 k) ∧ ∀ j, j < S.2.1.length + i → M'.2.2 (v0 + 3) j = some (25 + 12 * ((S.2.1 ++ nru t g).getD j (0, 0)).1) ∧ gi M' (v0 + 4) j = ((S.2.1 ++ nru t g).getD j (0, 0)).2, ⟨rfl, rfl, rfl, 0, rfl, by omega, fun _ _ _ _ _ => ⟨rfl, rfl⟩, rfl, by rw [r5.1]; rfl, fun _ => ⟨rfl, rfl, rfl⟩, fun j hj => by rw [app_getD1 (by omega)]; exact r5.2 j (by omega)⟩, ?_⟩
          rintro v0' v1 v2 v3 M6 - ⟨rfl, rfl, rfl, i6, rfl, hi6, y6, l6, n6, x6, h6⟩
          have c6 : gi M6 (a + 2) 3 = (c : Int) := (congrArg Int32.toInt (y6 (a + 2) 3 (by omega) (by omega) (by omega)).1).trans c5
          have fin : i6 = c → K 1 M6 := fun e => by
            refine h1 hwel M6 (fun b k h => ?_) (fun l hl => ?_) ⟨?_, fun j hj => ?_⟩
            · have q1 := y6 b k (by omega) (by omega) (by omega)
              have q2 := ys b k h
              exact ⟨q1.1.trans q2.1, by rw [l6]; exact q2.2.1, q1.2.trans q2.2.2⟩
            · have q := hw5 l hl
              refine ⟨?_, (y6 (v0' + 2) l (by omega) (by omega) (by omega)).1.trans q.2⟩
              show M6.2.1 (v0' + 1) l = _
              rw [l6]
              exact q.1
            · rw [n6, List.length_append, nru_len]
              have : g.2.1.2.2.2.toNat = c := by omega
              rw [this, e]
            · rw [List.length_append, nru_len] at hj
              exact h6 j (by omega)
          refine ⟨fun hq6 => fin (by rw [c6] at hq6; omega), fun hq6 => ⟨fun hq32 => absurd hq32 (by rw [n6, c6] at *; omega), fun hq32 _ M7 e7 _ _ M8 e8 M9 e9 => ?_⟩⟩
          rw [c6] at hq6
          rw [n6, tn_] at e7
          have g7 : gi M7 v0' 2 = ((S.2.1.length + i6 : Nat) : Int) := by rw [e7]; exact n6
          have v7 : gi M7 (a + 2 + 3) i6 = g.2.2.1 i6 := by
            rw [e7]
            show gi M6 (a + 5) i6 = _
            exact (congrArg Int32.toInt (y6 (a + 5) i6 (by omega) (by omega) (by omega)).1).trans (g5 i6 (by omega))
          rw [g7, tn_, tn_, v7] at e8
          have g8 : gi M8 v0' 2 = ((S.2.1.length + i6 : Nat) : Int) := by rw [e8, gi_of (Or.inl (by omega)), g7]
          rw [g8] at e9
          have hvv := hv i6 (by omega)
          obtain ⟨s6, hs6, hs6n, -⟩ := hvv
          have hn40 := (hT.2 t htc).1
          have ef : ((S.2.1 ++ nru t g).getD (S.2.1.length + i6) (0, 0)) = (t, g.2.2.1 i6) := by
            rw [app_getD2 (by rw [nru_len]; omega), nru_get (by omega)]
          refine ⟨inr_z (by omega) (by omega), rfl, rfl, rfl, i6 + 1, by omega, by omega, fun b k q1 q2 q3 => ?_, ?_, ?_, fun k => ?_, fun j hj => ?_⟩
          · rw [e9]
            refine ⟨?_, ?_⟩
            · show (rf_wi M8 v0' 2 _).1 b k = _
              rw [rf_wi_of _ _ (by omega), e8]
              show (rf_wi M7 (v0' + 4) _ _).1 b k = _
              rw [rf_wi_of _ _ (Or.inl q3), e7]
              exact (y6 b k q1 q2 q3).1
            · show M8.2.2 b k = _
              rw [e8]
              show M7.2.2 b k = _
              rw [e7]
              show (rf_wq M6 (v0' + 3) _ _).2.2 b k = _
              rw [rf_wq_of _ _ (Or.inl q2)]
              exact (y6 b k q1 q2 q3).2
          · rw [e9, e8, e7]
            exact l6
          · rw [e9, gi_at (inr_z (by omega) (by omega))]
            omega
          · rw [e9]
            refine ⟨?_, ?_, ?_⟩
            · show M8.2.2 (v0' + 4) k = _
              rw [e8]
              show M7.2.2 (v0' + 4) k = _
              rw [e7]
              show (rf_wq M6 (v0' + 3) _ _).2.2 (v0' + 4) k = _
              rw [rf_wq_of _ _ (Or.inl (by omega))]
              exact (x6 k).1
            · show (rf_wi M8 v0' 2 _).1 (v0' + 3) k = _
              rw [rf_wi_of _ _ (Or.inl (by omega)), e8]
              show (rf_wi M7 (v0' + 4) _ _).1 (v0' + 3) k = _
              rw [rf_wi_of _ _ (Or.inl (by omega)), e7]
              exact (x6 k).2.1
            · show M8.2.2 v0' k = _
              rw [e8]
              show M7.2.2 v0' k = _
              rw [e7]
              show (rf_wq M6 (v0' + 3) _ _).2.2 v0' k = _
              rw [rf_wq_of _ _ (Or.inl (by omega))]
              exact (x6 k).2.2
          · by_cases ej : j = S.2.1.length + i6
            · rw [ej, ef]
              constructor
              · rw [e9]
                show M8.2.2 (v0' + 3) _ = _
                rw [e8]
                show M7.2.2 (v0' + 3) _ = _
                rw [e7]
                exact rf_wq_at _ _ _ _
              · rw [e9, gi_of (Or.inl (by omega)), e8]
                refine gi_at ?_
                rw [hs6]
                exact inr_z (by omega) (by omega)
            · have := h6 j (by omega)
              constructor
              · rw [e9]
                show M8.2.2 (v0' + 3) j = _
                rw [e8]
                show M7.2.2 (v0' + 3) j = _
                rw [e7]
                show (rf_wq M6 (v0' + 3) _ _).2.2 (v0' + 3) j = _
                rw [rf_wq_of _ _ (Or.inr ej)]
                exact this.1
              · rw [e9, gi_of (Or.inl (by omega)), e8, gi_of (Or.inr ej), e7]
                exact this.2
        · have hi5' : i5 < 16 := by omega
          have nb : ∀ (b : Bool), bt (M5.1 (a + 2) 0) i5 = b → bt g.2.1.1 i5 = b := fun b h => by rw [← m5.1]; exact h
          have stepW : ∀ M6, eqy (fun b k => (b = v0 + 1 ∨ b = v0 + 2) ∧ k = i5) M5 M6 → gl M6 (v0 + 1) i5 = wld S.1 g.2.1 i5 → M6.1 (v0 + 2) i5 = (brg S.1 g.2.1).2 i5 → e_S_takes_131 v0 (25 + 12 * t) (a + 2) (i5 : Int) M6 (fun v0_1 v1 v2 v3 M' => v0_1 = v0 ∧ v1 = 25 + 12 * t ∧ v2 = a + 2 ∧ ∃ i : Nat, v3 = (i : Int) ∧ i ≤ 16 ∧ eqy (fun b _ => b = v0 + 1 ∨ b = v0 + 2) M4 M' ∧ ∀ l, l < 16 → gl M' (v0 + 1) l = (if l < i then wld S.1 g.2.1 l else S.1.1 l) ∧ M'.1 (v0 + 2) l = if l < i then (brg S.1 g.2.1).2 l else S.1.2 l) K := fun M6 y6 q1 q2 => by
            refine ⟨inr_z (by omega) (by omega), rfl, rfl, rfl, i5 + 1, by omega, by omega, y5.trans (y6.mono (fun b k h => h.1)), fun l hl => ?_⟩
            by_cases e : l = i5
            · rw [e, if_pos (by omega), if_pos (by omega)]
              exact ⟨q1, q2⟩
            · have := h5 l hl
              by_cases e2 : l < i5
              · rw [if_pos e2, if_pos e2] at this
                rw [if_pos (by omega), if_pos (by omega)]
                exact ⟨(y6.l (by omega)).trans this.1, (y6.1 _ _ (by omega)).1.trans this.2⟩
              · rw [if_neg e2, if_neg e2] at this
                rw [if_neg (by omega), if_neg (by omega)]
                exact ⟨(y6.l (by omega)).trans this.1, (y6.1 _ _ (by omega)).1.trans this.2⟩
          have h5i := h5 i5 hi5'
          rw [if_neg (by omega), if_neg (by omega)] at h5i
          refine x_hasWritten hi5' (fun hb => ⟨fun q => absurd q (by decide), fun _ _ => ?_⟩) (fun hb => ⟨fun _ => ?_, fun q => absurd rfl q⟩)
          · have hb' := nb true hb
            rw [tn_]
            refine x_write hi5' (fun M6 y6 q1 q2 => stepW M6 y6 ?_ ?_)
            · rw [q1]
              unfold wld
              rw [if_pos hb']
              exact m5.2.1 i5 hi5' hb'
            · rw [q2, h5i.2]
              show _ = if bt g.2.1.1 i5 = true then _ else _
              rw [if_pos hb']
          · have hb' := nb false hb
            refine stepW M5 (eqy.rfl' M5) ?_ ?_
            · rw [h5i.1]
              unfold wld
              rw [if_neg (by rw [hb']; decide)]
            · rw [h5i.2]
              show _ = if bt g.2.1.1 i5 = true then _ else _
              rw [if_neg (by rw [hb']; decide)]
      · rw [c4] at hq4
        have hvi := hv i4 (by omega)
        have hvi' := hvi
        obtain ⟨s, hs, -⟩ := hvi'
        rw [tn_, show gi M4 (a + 2 + 3) i4 = (s : Int) from ((y4.i (nal _ _ (by omega))).trans (hrl i4 (by omega))).trans hs]
        refine x_holdsAhead (by omega) (hT.2 t htc) (ht.eq hT.1 y4 (fun b k h => nal b k (by omega)) t htc) (by rw [← hs]; exact hvi) hV4 (fun M5 y5 => ?_)
        rw [show ((t, (s : Int)) : Nat × Int) = (t, g.2.2.1 i4) by rw [hs]]
        by_cases hh : hld Ts (wld S.1 g.2.1) (t, g.2.2.1 i4) = true
        · rw [if_pos hh]
          refine ⟨fun q => absurd q (by decide), fun _ => ⟨inr_z (by omega) (by omega), rfl, rfl, rfl, i4 + 1, by omega, by omega, y4.trans (y5.mono (fun b k h => Or.inr h)), fun l hl => (y5.l (by unfold wsP; omega)).trans (hV4 l hl), fun j hj => ?_⟩⟩
          by_cases e : j = i4
          · rw [e]; exact hh
          · exact h4 j (by omega)
        · rw [if_neg hh]
          refine ⟨fun _ => h0 (fun q => hh ?_) M5 (y4.trans (y5.mono (fun b k h => Or.inr h))), fun q => absurd rfl q⟩
          unfold wel at q
          rw [Bool.and_eq_true, Bool.and_eq_true] at q
          have := all_getD (d := (0, 0)).mp q.1.2 i4 (by rw [nru_len]; omega)
          rw [nru_get (by omega)] at this
          exact this
    · rw [if_neg ha]
      refine ⟨fun _ => h0 (fun q => ha ?_) M3 y23, fun q => absurd rfl q⟩
      unfold wel at q
      rw [Bool.and_eq_true, Bool.and_eq_true] at q
      exact q.1.1
  · have hi' : i < 16 := by omega
    have nxt : ∀ M3, eqy (fun b _ => b = v0 + 5) M2 M3 → (∀ l, l < 16 → l ≠ i → gl M3 (v0 + 5) l = gl M2 (v0 + 5) l) → gl M3 (v0 + 5) i = wld S.1 g.2.1 i → e_S_takes_43 v0 (25 + 12 * t) (a + 2) (i : Int) M3 (fun v0' v1 v2 v3 M' => v0' = v0 ∧ v1 = 25 + 12 * t ∧ v2 = a + 2 ∧ ∃ i : Nat, v3 = (i : Int) ∧ i ≤ 16 ∧ eqy (fun b _ => b = v0 + 5) M M' ∧ ∀ l, l < 16 → gl M' (v0 + 5) l = if l < i then wld S.1 g.2.1 l else S.1.1 l) K := fun M3 y3 q1 q2 => by
      refine ⟨inr_z (by omega) (by omega), rfl, rfl, rfl, i + 1, by omega, by omega, y2.trans y3, fun l hl => ?_⟩
      by_cases e : l = i
      · rw [e, if_pos (by omega)]; exact q2
      · rw [q1 l hl e, hV2 l hl]
        by_cases e2 : l < i
        · rw [if_pos e2, if_pos (by omega)]
        · rw [if_neg e2, if_neg (by omega)]
    refine x_hasWritten hi' (fun hb => ⟨fun q => absurd q (by decide), fun _ _ _ M3 e3 => ?_⟩) (fun hb => ⟨fun _ => ?_, fun q => absurd rfl q⟩)
    · have hb' : bt g.2.1.1 i = true := by rw [← m2.1]; exact hb
      rw [tn_] at e3
      refine nxt M3 (by rw [e3]; exact (eqy.rfl' _).wl rfl) (fun l _ e => by rw [e3, gl_of (Or.inr e)]) ?_
      rw [e3, gl_at]
      unfold wld
      rw [if_pos hb']
      exact m2.2.1 i hi' hb'
    · have hb' : bt g.2.1.1 i = false := by rw [← m2.1]; exact hb
      refine nxt M2 (eqy.rfl' _) (fun _ _ _ => rfl) ?_
      rw [hV2 i hi', if_neg (by omega)]
      unfold wld
      rw [if_neg (by rw [hb']; decide)]
end PS2
