/-! THE PROGRAM'S TURN -/
/-- the program is S -/
def RPS (M : rf_M) (Ts : tsT) (c0 : Nat) (S : syT) : Prop := ptxs M Ts c0 ∧ weq S.1 (wS M 187) ∧ prs M 187 S.2.1 ∧ (∀ c, c < 8 → pcl M Ts (196 + 16 * c) (S.2.2.1 c)) ∧ prw M S.2.2.2
/-- but for client c -/
def RPX (M : rf_M) (Ts : tsT) (c0 : Nat) (S : syT) (c : Nat) : Prop := ptxs M Ts c0 ∧ weq S.1 (wS M 187) ∧ prs M 187 S.2.1 ∧ (∀ k, k < 8 → k ≠ c → pcl M Ts (196 + 16 * k) (S.2.2.1 k)) ∧ prw M S.2.2.2
theorem clA_ (c : Nat) : clA (c : Int) = 196 + 16 * c := by unfold clA; rw [tn_]
theorem stepp_g (X : txT) (w : wdT) (g : sgT) (r : rdT) (h : (stepp X w g r).1.1 ≠ 0) : (stepp X w g r).2.1 = g := by
  unfold stepp at h ⊢
  split
  · rfl
  rename_i c0
  rw [if_neg c0] at h
  split
  · rename_i c; rw [if_pos c] at h; exact absurd rfl h
  rename_i c1
  rw [if_neg c1] at h
  split
  · rename_i c; rw [if_pos c] at h; exact absurd rfl h
  rename_i c2
  rw [if_neg c2] at h
  split
  · rename_i c
    rw [if_pos c] at h
    split
    · rfl
    · rename_i d; rw [if_neg d] at h; exact absurd rfl h
  rename_i c3
  rw [if_neg c3] at h
  generalize evc X.2.1 X.2.2 w g.2.1 161 (X.1 2 g.1.toNat).toNat [] r = E at h ⊢
  unfold stpx at h ⊢
  split
  · rfl
  rename_i d1
  rw [if_neg d1] at h
  split
  · rename_i d
    rw [if_pos d] at h
    cases ht : tss X g.1 (-1) g with
    | none => rfl
    | some g' => rw [ht] at h; exact absurd rfl h
  rename_i d2
  rw [if_neg d2] at h
  split
  · rename_i d
    rw [if_pos d] at h
    cases ht : tss X g.1 E.1.2 g with
    | none => rfl
    | some g' => rw [ht] at h; exact absurd rfl h
  rename_i d3
  rw [if_neg d3] at h
  split
  · rename_i d; rw [if_pos d] at h; exact absurd rfl h
  rename_i d4
  rw [if_neg d4] at h
  split
  · rename_i d; rw [if_pos d] at h; exact absurd rfl h
  · rename_i d; rw [if_neg d] at h; exact absurd rfl h
section PT1
variable {M M' : rf_M} {A n cc c0 c : Nat} {X : txT} {en : Int} {K : Int → rf_M → Prop} {Ts : tsT} {w : wdT} {r : rdT} {g : sgT} {cl : clT} {S : syT}
theorem hd12 (hS : SI Ts c0 S) {k : Nat} (hk : k < 8) : (S.2.2.1 k).2.2.2.1 = 1 → (S.2.2.1 k).1.headD 0 < 12 := fun q => by
  have hq : (S.2.2.1 k).1.length ≠ 0 := fun z => by
    have := (hS.2.2.2.2 k hk).2.2.2.1 z
    omega
  have := (beg_ok hS hk hq).1
  have := hS.1.1
  omega
theorem RPX.eq (hS : SI Ts c0 S) (hc : c < 8) (h : RPX M Ts c0 S c) (e : ∀ b k, ¬ (196 + 16 * c ≤ b ∧ b ≤ 211 + 16 * c) → M'.1 b k = M.1 b k ∧ M'.2.1 b k = M.2.1 b k ∧ M'.2.2 b k = M.2.2 b k) : RPX M' Ts c0 S c := by
  obtain ⟨h1, h2, h3, h4, h5⟩ := h
  have hc0 := hS.1.1
  have y : eqy (fun b _ => 196 + 16 * c ≤ b ∧ b ≤ 211 + 16 * c) M (M'.1, M'.2.1, M.2.2) := ⟨fun b k q => ⟨(e b k q).1, (e b k q).2.1⟩, rfl⟩
  refine ⟨fun t ht => (by have q := (h1 t ht).eq y (fun b k _ _ => by omega); exact q), (by have q := h2.eqP y (fun b k h => by omega); exact q), ⟨(y.i (a := 187) (k := 2) (by omega)).trans h3.1, fun j hj => ⟨(e 190 j (by omega)).2.2.trans (h3.2 j hj).1, (y.i (a := 191) (k := j) (by omega)).trans (h3.2 j hj).2⟩⟩, fun k hk hne => (h4 k hk hne).eq (by omega) (hd12 hS hk) (fun b j h => e b j (by omega)), h5.eq (fun b k h1 h2 => ⟨(e b k (by omega)).1, (e b k (by omega)).2.1⟩)⟩
theorem RPX.all (h : RPX M Ts c0 S c) {x : clT} (hx : pcl M Ts (196 + 16 * c) x) : RPS M Ts c0 (setc S c x) := by
  obtain ⟨h1, h2, h3, h4, h5⟩ := h
  refine ⟨h1, h2, h3, fun k hk => ?_, h5⟩
  show pcl M Ts _ (va_up S.2.2.1 c x k)
  by_cases e : k = c
  · rw [e, va_up_at]; exact hx
  · rw [va_up_of e]; exact h4 k hk e
theorem RPX.self (h : RPX M Ts c0 S c) (hx : pcl M Ts (196 + 16 * c) (S.2.2.1 c)) : RPS M Ts c0 S := by
  obtain ⟨h1, h2, h3, h4, h5⟩ := h
  refine ⟨h1, h2, h3, fun k hk => ?_, h5⟩
  by_cases e : k = c
  · rw [e]; exact hx
  · exact h4 k hk e
theorem RPS.x (h : RPS M Ts c0 S) : RPX M Ts c0 S c := ⟨h.1, h.2.1, h.2.2.1, fun k hk _ => h.2.2.2.1 k hk, h.2.2.2.2⟩
theorem x_isHeld (hc : c < 8) (hb : pcb M (196 + 16 * c) (S.2.2.1 c)) (hX : ∀ k, k < 8 → k ≠ c → pcl M Ts (196 + 16 * k) (S.2.2.1 k)) (kk : K (if hel S c = true then 1 else 0) M) : em_M_isHeld (c : Int) M K := by
  unfold hel at kk
  have gu : ∀ k, k < 8 → gi M (196 + 16 * k) 2 = (if (S.2.2.1 k).2.2.1 = true then 1 else 0) := fun k hk => by
    by_cases e : k = c
    · rw [e]; exact hb.2.2
    · exact (hX k hk e).1.2.2
  refine fun _ => ?_
  rw [clA_, gu c hc]
  refine ⟨fun hu => ?_, fun hu => ?_⟩
  · have hu : (S.2.2.1 c).2.2.1 = false := by
      cases q : (S.2.2.1 c).2.2.1 with
      | false => rfl
      | true => rw [if_pos q] at hu; exact absurd hu (by decide)
    rw [hu] at kk
    refine ⟨fun v M' => M' = M ∧ ∃ j : Nat, v = (j : Int) ∧ j ≤ 8 ∧ ∀ i, i < j → (S.2.2.1 i).2.2.1 = false, ⟨rfl, 0, rfl, by omega, fun i h => absurd h (by omega)⟩, ?_⟩
    rintro v M' - ⟨rfl, j, rfl, hj, hf⟩
    refine ⟨fun h => ?_, fun h _ => ?_⟩
    · rw [if_neg (by
        simp
        intro i hi
        exact hf i (by omega))] at kk
      exact kk
    · rw [clA_, gu j (by omega)]
      refine ⟨fun q => ⟨inr_z (by omega) (by omega), rfl, j + 1, by omega, by omega, fun i hi => ?_⟩, fun q => ?_⟩
      · by_cases e : i = j
        · rw [e]
          cases z : (S.2.2.1 j).2.2.1 with
          | false => rfl
          | true => rw [if_pos z] at q; exact absurd q (by decide)
        · exact hf i (by omega)
      · have z : (S.2.2.1 j).2.2.1 = true := by
          by_cases z : (S.2.2.1 j).2.2.1 = true
          · exact z
          · rw [if_neg z] at q; exact absurd rfl q
        rw [if_pos (by
          simp
          exact ⟨j, by omega, z⟩)] at kk
        exact kk
  · have hu : (S.2.2.1 c).2.2.1 = true := by
      by_cases q : (S.2.2.1 c).2.2.1 = true
      · exact q
      · rw [if_neg q] at hu; exact absurd rfl hu
    rw [hu, if_neg (by simp)] at kk
    exact kk
/-- a run ends -/
theorem x_closeRun {o : (Nat × Int64) × sgT × rdT} {k k2 : Nat} (hS : SI Ts c0 S) (hc : c < 8) (hq : (S.2.2.1 c).1.length ≠ 0) (hX : RPX M Ts c0 S c) (hb : pcb M (196 + 16 * c) (S.2.2.1 c)) (hR : rnR M (199 + 16 * c) (25 + 12 * (S.2.2.1 c).1.headD 0) (Ts ((S.2.2.1 c).1.headD 0)).1 (Ts ((S.2.2.1 c).1.headD 0)).2.1 (Ts ((S.2.2.1 c).1.headD 0)).2.2.1 (Ts ((S.2.2.1 c).1.headD 0)).2.2.2 o.2.1 o.2.2 k) (hk : k ≤ 300) (hg : gvl (Ts ((S.2.2.1 c).1.headD 0)).1 (Ts ((S.2.2.1 c).1.headD 0)).2.1 k2 o.2.1) (ho : o.1.1 = 1 ∨ o.1.1 = 2) (hv : o.1.1 = 2 → gl M (199 + 16 * c) 3 = o.1.2) (hrows : S.2.2.2.length < 300) (h1 : o.1.1 = 1 ∧ wel Ts S ((S.2.2.1 c).1.headD 0) o.2.1 = true → ∀ M', RPS M' Ts c0 (brg S.1 o.2.1.2.1, S.2.1 ++ nru ((S.2.2.1 c).1.headD 0) o.2.1, va_up S.2.2.1 c (ovr (S.2.2.1 c)), S.2.2.2 ++ [((1, (c : Int), ((S.2.2.1 c).1.headD 0 : Int), (k : Int) + 1, (S.2.2.1 c).2.1), 0)]) → K 1 M') (h2 : ¬ (o.1.1 = 1 ∧ wel Ts S ((S.2.2.1 c).1.headD 0) o.2.1 = true) → ∀ M', RPS M' Ts c0 (S.1, S.2.1, va_up S.2.2.1 c (ovr (S.2.2.1 c)), S.2.2.2 ++ [((2, (c : Int), ((S.2.2.1 c).1.headD 0 : Int), (k : Int) + 1, (S.2.2.1 c).2.1), if o.1.1 = 1 then -2 else o.1.2)]) → K 2 M') : em_M_closeRun (c : Int) (o.1.1 : Int) M K := by
  have hbeg := beg_ok hS hc hq
  have hcl := hS.2.2.2.2 c hc
  have ht12 : (S.2.2.1 c).1.headD 0 < 12 := by have := hS.1.1; omega
  have hhd : gi M (197 + 16 * c) 0 = (((S.2.2.1 c).1.headD 0 : Nat) : Int) := by
    have := hb.1.2 0 (by omega)
    rw [show 196 + 16 * c + 1 = 197 + 16 * c by omega] at this
    rw [this]
    cases hl : (S.2.2.1 c).1 with
    | nil => rfl
    | cons x q => rfl
  have hcut := hcl.2.1
  generalize (S.2.2.1 c).1.headD 0 = t at *
  -- the row, and the client's next
  have last : ∀ (S' : syT) (kd : Int) (v : Int64) (M1 : rf_M) (K2 : rf_M → Prop), inr kd → S'.2.2.1 = S.2.2.1 → S'.2.2.2 = S.2.2.2 → RPX M1 Ts c0 S' c → pcb M1 (196 + 16 * c) (S.2.2.1 c) → gi M1 (199 + 16 * c) 1 = (k : Int) → gl M1 (199 + 16 * c) 3 = v → (∀ M', RPS M' Ts c0 (S'.1, S'.2.1, va_up S.2.2.1 c (ovr (S.2.2.1 c)), S.2.2.2 ++ [((kd, (c : Int), (t : Int), (k : Int) + 1, (S.2.2.1 c).2.1), v)]) → K2 M') → (inr (gi M1 (199 + 16 * c) 1 + 1) ∧ em_J_note kd (c : Int) (gi M1 (197 + 16 * c) 0) (gi M1 (199 + 16 * c) 1 + 1) (gi M1 (196 + 16 * c) 1) (gl M1 (199 + 16 * c) 3) M1 (fun M1 => em_C_finish (196 + 16 * c) M1 K2)) := by
    intro S' kd v M1 K2 ikd e1 e2 X1 b1 k1 v1 kk
    have hd1 : gi M1 (197 + 16 * c) 0 = (t : Int) := by
      have h0 := hb.1.2 0 (by omega)
      have h1 := b1.1.2 0 (by omega)
      rw [show 196 + 16 * c + 1 = 197 + 16 * c by omega] at h0 h1
      rw [h1, ← h0, hhd]
    rw [k1, hd1, v1, b1.2.1]
    refine ⟨inr_z (by omega) (by omega), ?_⟩
    obtain ⟨x1, x2, x3, x4, x5⟩ := X1
    rw [e2] at x5
    refine x_note (row := ((kd, (c : Int), (t : Int), (k : Int) + 1, (S.2.2.1 c).2.1), v)) x5 hrows ⟨ikd, inr_z (by show (-1000000 : Int) ≤ (c : Int); omega) (by show (c : Int) ≤ 1000000; omega), inr_z (by show (-1000000 : Int) ≤ (t : Int); omega) (by show (t : Int) ≤ 1000000; omega), inr_z (by show (-1000000 : Int) ≤ (k : Int) + 1; omega) (by show (k : Int) + 1 ≤ 1000000; omega), inr_z (by show (-1000000 : Int) ≤ (S.2.2.1 c).2.1; omega) (by show (S.2.2.1 c).2.1 ≤ 1000000; omega)⟩ (fun M2 y2 r2 => ?_)
    have b2 : pcb M2 (196 + 16 * c) (S.2.2.1 c) := b1.eq (fun b k h => (y2.1 b k (by omega)).1)
    refine x_finish (Ts := Ts) b2 hq hcl.1.1 (fun M3 y3 c3 => kk M3 ⟨?_, ?_, ?_, fun k hk => ?_, ?_⟩)
    · exact (x1.eq hS.1.1 y2 (fun b k h => by omega)).eq hS.1.1 y3 (fun b k h => by omega)
    · exact (x2.eqP y2 (fun b k h => by omega)).eqP y3 (fun b k h => by omega)
    · exact (x3.eq y2 (fun b k h => by omega)).eq y3 (fun b k h => by omega)
    · show pcl M3 Ts _ (va_up S.2.2.1 c (ovr (S.2.2.1 c)) k)
      by_cases e : k = c
      · rw [e, va_up_at]; exact c3
      · rw [va_up_of e]
        have := x4 k hk e
        rw [e1] at this
        exact this.eq (by omega) (hd12 hS hk) (fun b j h => ⟨((y3.1 b j (by omega)).1).trans (y2.1 b j (by omega)).1, ((y3.1 b j (by omega)).2).trans (y2.1 b j (by omega)).2, by rw [y3.2, y2.2]⟩)
    · exact r2.eq (fun b k h1 h2 => y3.1 b k (by omega))
  have eA3 : 196 + 16 * c + 3 = 199 + 16 * c := by omega
  have eA5 : 196 + 16 * c + 5 = 199 + 16 * c + 2 := by omega
  have eA1 : 196 + 16 * c + 1 = 197 + 16 * c := by omega
  obtain ⟨hk1, hw, hhw, R0⟩ := hR
  have thrown : ∀ (M1 : rf_M) (v : Int64), RPX M1 Ts c0 S c → pcb M1 (196 + 16 * c) (S.2.2.1 c) → gi M1 (199 + 16 * c) 1 = (k : Int) → gl M1 (199 + 16 * c) 3 = v → ¬ (o.1.1 = 1 ∧ wel Ts S t o.2.1 = true) → v = (if o.1.1 = 1 then -2 else o.1.2) → e_M_closeRun_67 (c : Int) (196 + 16 * c) (199 + 16 * c) 0 M1 K := fun M1 v X1 b1 k1 v1 hn hvv => by
    refine ⟨fun _ _ => ?_, fun q => absurd rfl q⟩
    have := last S 2 v M1 (fun M2 => ((0 : Int) = 0 → e_M_closeRun_125 2 M2 K) ∧ (¬ ((0 : Int) = 0) → e_M_closeRun_125 1 M2 K)) (inr_z (by omega) (by omega)) rfl rfl X1 b1 k1 v1 (fun M' hM => ⟨fun _ => h2 hn M' (by rw [← hvv]; exact hM), fun q => absurd rfl q⟩)
    rw [eA1]
    exact this
  refine fun _ => ?_
  rw [clA_, eA3, eA5]
  refine ⟨fun h1' => ?_, fun h1' => ?_⟩
  · have ho1 : o.1.1 = 1 := by omega
    refine ⟨isP_ R0.1 (k1_mem t ht12), ?_⟩
    rw [gr_ R0.1]
    obtain ⟨cn, hcn⟩ : ∃ x : Nat, o.2.1.2.1.2.2.2 = (x : Int) := ⟨o.2.1.2.1.2.2.2.toNat, by have := R0.2.2.2.2.1.2.1; omega⟩
    have hG := R0.2.2.2.2.1
    have hcnw : cn ≤ hw := by have := hG.2.1.2; omega
    obtain ⟨gp, ghw, _, g2, g3, g4⟩ := hg
    refine x_takes (c := cn) (S := S) (g := o.2.1) (by omega) (by omega) hS.1 hbeg.1 hX.1 hX.2.1 hX.2.2.1 (fun j hj => ?_) hS.2.1.1 hG.1 hcn (by omega) (fun j hj => hG.2.2.1 j (by omega)) (fun j hj => g3 j (by omega)) (fun hn M1 y1 => ?_) (fun hwl M1 y1 w1 p1 => ?_)
    · have := hS.2.1.2 (S.2.1.getD j (0, 0)) (by rw [gD_ hj]; exact List.getElem_mem hj)
      exact this
    · refine ⟨fun _ => ⟨fun _ => ⟨fun _ M2 e2 => ?_, fun q => absurd rfl q⟩, fun q => absurd h1' q⟩, fun q => absurd rfl q⟩
      have y2 : eqy (fun b k => b = 199 + 16 * c ∧ k = 3) M1 M2 := by rw [e2]; exact (eqy.rfl' _).wl ⟨rfl, rfl⟩
      have nal : ∀ b k, ¬ (192 ≤ b ∧ b ≤ 194) → ¬ (b = 187 ∧ k = 7) → ¬ alP 187 b k := fun b k h1 h2 => by unfold alP wsP; omega
      have X1 : RPX M1 Ts c0 S c := ⟨hX.1.eq hS.1.1 y1 (fun b k h => nal b k (by omega) (by omega)), hX.2.1.eqP y1 (fun b k h => nal b k (by omega) (by omega)), hX.2.2.1.eq y1 (fun b k h => nal b k (by omega) (by omega)), fun j hj hne => (hX.2.2.2.1 j hj hne).eq (by omega) (hd12 hS hj) (fun b i h => ⟨(y1.1 b i (nal b i (by omega) (by omega))).1, (y1.1 b i (nal b i (by omega) (by omega))).2, by rw [y1.2]⟩), hX.2.2.2.2.eq (fun b k h1 h2 => y1.1 b k (nal b k (by omega) (by omega)))⟩
      have X2 : RPX M2 Ts c0 S c := X1.eq hS hc (fun b k h => ⟨(y2.1 b k (by omega)).1, (y2.1 b k (by omega)).2, by rw [y2.2]⟩)
      refine thrown M2 (-2) X2 (hb.eq (fun b k h => ((y2.1 b k (by omega)).1).trans (y1.1 b k (nal b k (by omega) (by omega))).1)) (((y2.i (by omega)).trans (y1.i (nal _ _ (by omega) (by omega)))).trans hk1) (by rw [e2, gl_at]; rfl) (fun q => hn q.2) (by rw [if_pos ho1])
    · refine ⟨fun q => absurd q (by decide), fun _ => ⟨fun _ => ⟨fun q => absurd q (by decide), fun _ M2 e2 => ?_⟩, fun q => absurd h1' q⟩⟩
      refine ⟨fun q => absurd q (by decide), fun _ _ => ?_⟩
      have y2 : eqy (fun b k => b = 199 + 16 * c ∧ k = 3) M1 M2 := by rw [e2]; exact (eqy.rfl' _).wl ⟨rfl, rfl⟩
      have q1 : eqy (fun b _ => 187 ≤ b ∧ b ≤ 194) M (M1.1, M1.2.1, M.2.2) := ⟨fun b k q => ⟨(y1 b k q).1, (y1 b k q).2.1⟩, rfl⟩
      have X1 : RPX M1 Ts c0 (brg S.1 o.2.1.2.1, S.2.1 ++ nru t o.2.1, S.2.2.1, S.2.2.2) c := ⟨fun j hj => (by have q := (hX.1 j hj).eq q1 (fun b k _ _ => by have := hS.1.1; omega); exact q), w1, p1, fun j hj hne => (hX.2.2.2.1 j hj hne).eq (by omega) (hd12 hS hj) (fun b i h => y1 b i (by omega)), hX.2.2.2.2.eq (fun b k h1 h2 => ⟨(y1 b k (by omega)).1, (y1 b k (by omega)).2.1⟩)⟩
      have X2 : RPX M2 Ts c0 (brg S.1 o.2.1.2.1, S.2.1 ++ nru t o.2.1, S.2.2.1, S.2.2.2) c := by
        obtain ⟨x1, x2, x3, x4, x5⟩ := X1
        exact ⟨x1.eq hS.1.1 y2 (fun b k h => by omega), x2.eqP y2 (fun b k h => by omega), x3.eq y2 (fun b k h => by omega), fun j hj hne => (x4 j hj hne).eq (by omega) (hd12 hS hj) (fun b i h => ⟨(y2.1 b i (by omega)).1, (y2.1 b i (by omega)).2, by rw [y2.2]⟩), x5.eq (fun b k h1 h2 => y2.1 b k (by omega))⟩
      have := last (brg S.1 o.2.1.2.1, S.2.1 ++ nru t o.2.1, S.2.2.1, S.2.2.2) 1 0 M2 (fun M2 => ((1 : Int) = 0 → e_M_closeRun_125 2 M2 K) ∧ (¬ ((1 : Int) = 0) → e_M_closeRun_125 1 M2 K)) (inr_z (by omega) (by omega)) rfl rfl X2 (hb.eq (fun b k h => ((y2.1 b k (by omega)).1).trans (y1 b k (by omega)).1)) (((y2.i (by omega)).trans (congrArg Int32.toInt (y1 _ _ (by omega)).1)).trans hk1) (by rw [e2, gl_at]; rfl) (fun M' hM => ⟨fun q => absurd q (by decide), fun _ => h1 ⟨ho1, hwl⟩ M' hM⟩)
      rw [eA1]
      exact this
  · have ho2 : o.1.1 = 2 := by omega
    refine ⟨fun q => absurd q h1', fun _ => ?_⟩
    exact thrown M o.1.2 hX hb hk1 (hv ho2) (fun q => by omega) (by rw [if_neg (by omega)])
end PT1
