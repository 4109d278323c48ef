/-! THE PURE PICTURE: the other calls -/
def putS (Ts : tsT) (S : syT) (z : Int) (v : Int64) : Int × syT :=
  if 0 ≤ z ∧ z < 16 ∧ S.2.2.2.length < 300 then
    (if S.2.1.all (hld Ts (va_up S.1.1 z.toNat v)) = true then ((Int32.ofInt ((S.1.2 z.toNat).toInt + 1)).toInt, ((va_up S.1.1 z.toNat v, va_up S.1.2 z.toNat (Int32.ofInt ((S.1.2 z.toNat).toInt + 1))), S.2.1, S.2.2.1, S.2.2.2 ++ [((0, -1, z, 0, 0), v)])) else (-2, S))
  else (-1, S)
def addS (c0 : Nat) (S : syT) (x y : Int) : Int × syT :=
  if 0 ≤ x ∧ x < 8 ∧ 0 ≤ y ∧ y < (c0 : Int) ∧ (S.2.2.1 x.toNat).1.length < 16 then (((S.2.2.1 x.toNat).1.length : Int) + 1, setc S x.toNat ((S.2.2.1 x.toNat).1 ++ [y.toNat], (S.2.2.1 x.toNat).2)) else (-1, S)
def clN : clT := ([], 0, false, 0, 0, run0 (-1), rd0)
def clrS (S : syT) : Int × syT := ((S.2.2.2.length : Int), (wd0, [], fun _ => clN, []))
/-- the next seed; the client that it draws -/
def sdN (s : Int64) : Int64 := Int64.ofNat 6364136223846793005 * s + Int64.ofNat 1442695040888963407
def sdC (s : Int64) : Int := ((s.toUInt64 >>> ((Int32.ofInt 61).toInt64.toUInt64 &&& Int64.toUInt64 63)).toInt64).toInt32.toInt
def plyS (Ts : tsT) : Nat → Int64 → Int → syT → Int × syT
  | 0, _, d, S => (d, S)
  | n + 1, s, d, S => plyS Ts n (sdN s) (if (trn Ts S (sdC (sdN s)).toNat).1 = 1 then d + 1 else d) (trn Ts S (sdC (sdN s)).toNat).2
def seesS (S : syT) (x y : Int) : Int64 :=
  if 0 ≤ x ∧ x < 8 ∧ 0 ≤ y ∧ y < 26 then
    (if (S.2.2.1 x.toNat).2.2.2.1 = 1 then shw S.1 (S.2.2.1 x.toNat).2.2.2.2.2.1.2.1 (S.2.2.1 x.toNat).2.2.2.2.2.2 y else if y < 16 then S.1.1 y.toNat else 0)
  else 0
theorem ir_0 : inr (0 : Int) := inr_z (by decide) (by decide)
theorem ir_1 : inr (-1 : Int) := inr_z (by decide) (by decide)
section SC
variable {Ts : tsT} {c0 : Nat} {S : syT}
theorem sdC_lt (s : Int64) : ∃ l : Nat, l < 8 ∧ sdC s = (l : Int) := hi3 s
theorem SI_put {z : Int} {v : Int64} (h : SI Ts c0 S) : SI Ts c0 (putS Ts S z v).2 := by
  unfold putS
  split
  · rename_i hz
    split
    · have h4 := h.2.2.2.1
      have hl3 := hz.2.2
      have mo : ∀ l, l < 16 → (S.1.2 l).toInt ≤ (va_up S.1.2 z.toNat (Int32.ofInt ((S.1.2 z.toNat).toInt + 1)) l).toInt ∧ 0 ≤ (va_up S.1.2 z.toNat (Int32.ofInt ((S.1.2 z.toNat).toInt + 1)) l).toInt ∧ (va_up S.1.2 z.toNat (Int32.ofInt ((S.1.2 z.toNat).toInt + 1)) l).toInt ≤ (S.2.2.2.length : Int) + 1 := fun l hl => by
        have := h4 l hl
        by_cases e : l = z.toNat
        · rw [e] at this ⊢
          rw [va_up_at, ti_ofi (inr_z (by omega) (by omega))]
          omega
        · rw [va_up_of e]
          omega
      refine ⟨h.1, h.2.1, by show (S.2.2.2 ++ [_]).length ≤ 300; simp; omega, fun l hl => ?_, fun c hc => ?_⟩
      · refine ⟨(mo l hl).2.1, ?_⟩
        show _ ≤ ((S.2.2.2 ++ [_]).length : Int)
        rw [List.length_append]
        exact (mo l hl).2.2
      · exact cli_up (h.2.2.2.2 c hc) (fun l hl => (mo l hl).1) (by show S.2.2.2.length < (S.2.2.2 ++ [_]).length; simp)
    · exact h
  · exact h
theorem hd_app {q : List Nat} {y : Nat} (h : q.length ≠ 0) : (q ++ [y]).headD 0 = q.headD 0 := by
  cases q with
  | nil => exact absurd rfl h
  | cons x q => rfl
theorem SI_add {x y : Int} (h : SI Ts c0 S) : SI Ts c0 (addS c0 S x y).2 := by
  unfold addS
  split
  · rename_i hz
    obtain ⟨c, hc⟩ : ∃ c : Nat, x = (c : Int) := ⟨x.toNat, by omega⟩
    rw [hc, tn_]
    have hz5 := hz.2.2.2.2
    rw [hc, tn_] at hz5
    have hcl := h.2.2.2.2 c (by omega)
    refine SI_setc h ?_
    generalize S.2.2.1 c = cl at *
    obtain ⟨g1, g2, g3, g4, g5, g6, g7⟩ := hcl
    refine ⟨⟨?_, fun t ht => ?_⟩, g2, g3, fun q => ?_, g5, fun q => ?_, g7⟩
    · show (cl.1 ++ [y.toNat]).length ≤ 16
      simp
      omega
    · rcases List.mem_append.mp ht with ht | ht
      · exact g1.2 t ht
      · have : t = y.toNat := by simpa using ht
        omega
    · have q : (cl.1 ++ [y.toNat]).length = 0 := q
      simp at q
    · have hne : cl.1.length ≠ 0 := fun z => by
        have := g4 z
        have q : cl.2.2.2.1 = 1 := q
        omega
      have := g6 q
      show (1 ≤ cl.2.2.2.2.1 ∧ cl.2.2.2.2.1 ≤ 300) ∧ wkd (Ts ((cl.1 ++ [y.toNat]).headD 0)).1 (run0 (Ts ((cl.1 ++ [y.toNat]).headD 0)).2.2.2) _ _ _ ∧ gvl (Ts ((cl.1 ++ [y.toNat]).headD 0)).1 (Ts ((cl.1 ++ [y.toNat]).headD 0)).2.1 _ _ ∧ _
      rw [hd_app hne]
      exact this
  · exact h
theorem SI_clr (h : SI Ts c0 S) : SI Ts c0 (clrS S).2 := by
  refine ⟨h.1, ⟨by show 0 ≤ 32; omega, fun q hq => by cases hq⟩, by show 0 ≤ 300; omega, fun l _ => ⟨by show (0 : Int) ≤ (0 : Int32).toInt; decide, by show (0 : Int32).toInt ≤ ((0 : Nat) : Int); decide⟩, fun c _ => ?_⟩
  exact ⟨⟨by show 0 ≤ 16; omega, fun t ht => by cases ht⟩, ⟨by show (0 : Int) ≤ 0; omega, by show (0 : Int) ≤ ((0 : Nat) : Int); omega⟩, fun (q : false = true) => absurd q (by decide), fun _ => rfl, by show 0 ≤ 2; omega, fun (q : (0 : Nat) = 1) => absurd q (by decide), fun (q : (0 : Nat) ≠ 0) => absurd rfl q⟩
theorem SI_ply : ∀ (n : Nat) (s : Int64) (d : Int) (S : syT), SI Ts c0 S → SI Ts c0 (plyS Ts n s d S).2
  | 0, _, _, _, h => h
  | n + 1, s, d, S, h => by
    obtain ⟨l, hl, e⟩ := sdC_lt (sdN s)
    exact SI_ply n _ _ _ (SI_trn h (by rw [e, tn_]; exact hl))
end SC
section PCa
variable {M M' : rf_M} {c0 c : Nat} {K : Int → rf_M → Prop} {Ts : tsT} {S : syT}
theorem x_isClient {z : Int} (h1 : 0 ≤ z ∧ z < 8 → K 1 M) (h0 : ¬ (0 ≤ z ∧ z < 8) → K 0 M) : em_M_isClient z M K :=
  ⟨fun h => ⟨Or.inl rfl, h0 (by omega)⟩, fun h => ⟨fun g => ⟨Or.inl rfl, h0 (by omega)⟩, fun g => ⟨Or.inr rfl, h1 (by omega)⟩⟩⟩
theorem x_turn {z : Int} (hS : SI Ts c0 S) (hP : RPS M Ts c0 S) (h1 : 0 ≤ z ∧ z < 8 → ∀ M', RPS M' Ts c0 (trn Ts S z.toNat).2 → K (trn Ts S z.toNat).1 M') (h0 : ¬ (0 ≤ z ∧ z < 8) → K (-1) M) : em_M_turn z M K := by
  refine x_isClient (fun h => ⟨fun q => absurd q (by decide), fun _ => ?_⟩) (fun h => ⟨fun _ => h0 h, fun q => absurd rfl q⟩)
  obtain ⟨c, rfl⟩ : ∃ c : Nat, z = (c : Int) := ⟨z.toNat, by omega⟩
  have := h1 h
  rw [tn_] at this
  exact x_takeTurn hS (by omega) hP this
theorem x_play {s : Int64} {n : Int} (hS : SI Ts c0 S) (hP : RPS M Ts c0 S) (h1 : 0 ≤ n ∧ n ≤ 2000 → ∀ M', RPS M' Ts c0 (plyS Ts n.toNat s 0 S).2 → K (plyS Ts n.toNat s 0 S).1 M') (h0 : ¬ (0 ≤ n ∧ n ≤ 2000) → K (-1) M) : em_M_play s n M K := by
  refine ⟨fun h => h0 (by omega), fun h => ⟨fun h' => ?_, fun h' => h0 (by omega)⟩⟩
  obtain ⟨n, rfl⟩ : ∃ x : Nat, n = (x : Int) := ⟨n.toNat, by omega⟩
  have h1 := h1 ⟨by omega, h'⟩
  rw [tn_] at h1
  generalize hR : plyS Ts n s 0 S = R at h1
  refine ⟨fun v3 v4 v6 v7 M' => v3 = (n : Int) ∧ ∃ (i : Nat) (S' : syT), v7 = (i : Int) ∧ i ≤ n ∧ SI Ts c0 S' ∧ RPS M' Ts c0 S' ∧ plyS Ts (n - i) v4 v6 S' = R ∧ 0 ≤ v6 ∧ v6 ≤ (i : Int), ⟨rfl, 0, S, rfl, Nat.zero_le _, hS, hP, hR, by omega, by omega⟩, ?_⟩
  rintro v3 v4 v6 v7 M1 - - - ⟨rfl, i, S1, rfl, hi, hS1, hP1, e1, d0, d1⟩
  refine ⟨fun hq => ?_, fun hq => ?_⟩
  · have : n - i = 0 := by omega
    rw [this] at e1
    have h1 := h1 M1
    rw [← e1] at h1
    exact h1 hP1
  · obtain ⟨l, hl, el⟩ := sdC_lt (sdN v4)
    have en : n - i = (n - (i + 1)) + 1 := by omega
    rw [en] at e1
    unfold plyS at e1
    rw [el, tn_] at e1
    show em_M_takeTurn (sdC (sdN v4)) M1 _
    rw [el]
    refine x_takeTurn hS1 hl hP1 (fun M2 hP2 => ⟨fun z => ?_, fun z => ?_⟩)
    · rw [if_pos z] at e1
      exact ⟨inr_z (by omega) (by omega), inr_z (by omega) (by omega), rfl, i + 1, _, by omega, by omega, SI_trn hS1 hl, hP2, e1, by omega, by omega⟩
    · rw [if_neg z] at e1
      exact ⟨inr_z (by omega) (by omega), rfl, i + 1, _, by omega, by omega, SI_trn hS1 hl, hP2, e1, by omega, by omega⟩
theorem x_put {z : Int} {v : Int64} (hS : SI Ts c0 S) (hP : RPS M Ts c0 S) (kk : ∀ M', RPS M' Ts c0 (putS Ts S z v).2 → K (putS Ts S z v).1 M') : em_M_put z v M K := by
  unfold putS at kk
  have hro : rok Ts c0 S.2.1 := fun j hj => hS.2.1.2 (S.2.1.getD j (0, 0)) (by rw [gD_ hj]; exact List.getElem_mem hj)
  refine x_isCell (fun hc => ⟨fun q => absurd q (by decide), fun _ => ?_⟩) (fun hc => ⟨fun _ => ?_, fun q => absurd rfl q⟩)
  · obtain ⟨l, rfl⟩ : ∃ l : Nat, z = (l : Int) := ⟨z.toNat, by omega⟩
    have hl : l < 16 := by omega
    have grow := hP.2.2.2.2.1
    refine x_isFull (by omega) (fun hf => ⟨fun _ => ?_, fun q => absurd rfl q⟩) (fun hf => ⟨fun q => absurd q (by decide), fun _ => ?_⟩)
    · have h3 : S.2.2.2.length < 300 := by omega
      rw [if_pos ⟨by omega, by omega, h3⟩, tn_] at kk
      refine x_allows (w := S.1) (rs := S.2.1) (by omega) hl hS.1 hP.1 hP.2.1 hP.2.2.1 hro hS.2.1.1 (fun M1 y1 => ?_)
      have nal : ∀ b k, ¬ (192 ≤ b ∧ b ≤ 194) → ¬ (b = 187 ∧ k = 7) → ¬ alP 187 b k := fun b k h1 h2 => by unfold alP wsP; omega
      have P1 : RPS M1 Ts c0 S := ⟨hP.1.eq hS.1.1 y1 (fun b k h => nal b k (by omega) (by omega)), hP.2.1.eqP y1 (fun b k h => nal b k (by omega) (by omega)), hP.2.2.1.eq y1 (fun b k h => nal b k (by omega) (by omega)), fun j hj => (hP.2.2.2.1 j hj).eq (by omega) (hd12 hS hj) (fun b i h => ⟨(y1.1 b i (nal b i (by omega) (by omega))).1, (y1.1 b i (nal b i (by omega) (by omega))).2, by rw [y1.2]⟩), hP.2.2.2.2.eq (fun b k h1 h2 => y1.1 b k (nal b k (by omega) (by omega)))⟩
      by_cases ha : S.2.1.all (hld Ts (va_up S.1.1 l v)) = true
      · rw [if_pos ha] at kk ⊢
        refine ⟨fun q => absurd q (by decide), fun _ => x_write hl (fun M2 y2 a1 a2 => ?_)⟩
        have a2 : M2.1 189 l = Int32.ofInt ((S.1.2 l).toInt + 1) := by
          rw [show (187 + 2 : Nat) = 189 from rfl] at a2
          rw [a2]
          rw [show M1.1 189 l = S.1.2 l from (P1.2.1 l hl).2]
        refine x_note (row := ((0, -1, (l : Int), 0, 0), v)) (P1.2.2.2.2.eq (fun b k h1 h2 => y2.1 b k (by omega))) h3 ⟨ir_0, ir_1, inr_z (by show (-1000000 : Int) ≤ (l : Int); omega) (by show (l : Int) ≤ 1000000; omega), ir_0, ir_0⟩ (fun M3 y3 r3 _ => ?_)
        rw [tn_, show gi M3 189 l = (Int32.ofInt ((S.1.2 l).toInt + 1)).toInt by rw [y3.i (by omega)]; exact congrArg Int32.toInt a2]
        refine kk M3 ⟨?_, fun j hj => ?_, ?_, fun j hj => ?_, r3⟩
        · exact (P1.1.eq hS.1.1 y2 (fun b k h => by omega)).eq hS.1.1 y3 (fun b k h => by omega)
        · constructor
          · show gl M3 188 j = va_up S.1.1 l v j
            rw [y3.l (by omega)]
            by_cases e : j = l
            · rw [e, va_up_at]; exact a1
            · rw [va_up_of e, y2.l (by omega)]
              exact (P1.2.1 j hj).1
          · show M3.1 189 j = va_up S.1.2 l _ j
            rw [(y3.1 189 j (by omega)).1]
            by_cases e : j = l
            · rw [e, va_up_at]; exact a2
            · rw [va_up_of e, (y2.1 189 j (by omega)).1]
              exact (P1.2.1 j hj).2
        · exact (P1.2.2.1.eq y2 (fun b k h => by omega)).eq y3 (fun b k h => by omega)
        · exact (P1.2.2.2.1 j hj).eq (by omega) (hd12 hS hj) (fun b i h => ⟨((y3.1 b i (by omega)).1).trans (y2.1 b i (by omega)).1, ((y3.1 b i (by omega)).2).trans (y2.1 b i (by omega)).2, by rw [y3.2, y2.2]⟩)
      · rw [if_neg ha] at kk ⊢
        exact ⟨fun _ => kk M1 P1, fun q => absurd rfl q⟩
    · rw [if_neg (fun q => by omega)] at kk
      exact kk M hP
  · rw [if_neg (fun q => hc ⟨q.1, q.2.1⟩)] at kk
    exact kk M hP
theorem x_add {x y : Int} (hS : SI Ts c0 S) (hP : RPS M Ts c0 S) (hcc : gi M 22 3 = (c0 : Int)) (kk : ∀ M', RPS M' Ts c0 (addS c0 S x y).2 → K (addS c0 S x y).1 M') : em_M_add x y M K := by
  unfold addS at kk
  refine x_isClient (fun hx => ⟨fun q => absurd q (by decide), fun _ => ?_⟩) (fun hx => ⟨fun _ => ?_, fun q => absurd rfl q⟩)
  · obtain ⟨c, rfl⟩ : ∃ c : Nat, x = (c : Int) := ⟨x.toNat, by omega⟩
    have hc : c < 8 := by omega
    obtain ⟨pb, ps, pr, pw⟩ := hP.2.2.2.1 c hc
    have hcl := hS.2.2.2.2 c hc
    rw [tn_] at kk
    have no : ¬ (0 ≤ y ∧ y < (c0 : Int)) → K (-1) M := fun h => by
      rw [if_neg (fun q => h ⟨q.2.2.1, q.2.2.2.1⟩)] at kk
      exact kk M hP
    have yes : 0 ≤ y ∧ y < (c0 : Int) → ((0 : Int) ≤ (c : Int) ∧ (c : Int) < 8 → em_C_enlist (clA (c : Int)) y M (fun z3 M3 => K z3 M3)) := fun h _ => by
      rw [clA_]
      refine ⟨fun hq _ M1 e1 M2 e2 => ?_, fun hq => ?_⟩
      · rw [pb.1.1] at hq
        have hq' : (S.2.2.1 c).1.length < 16 := by omega
        rw [if_pos ⟨by omega, by omega, h.1, h.2, hq'⟩] at kk
        rw [pb.1.1, tn_] at e1
        have g1 : gi M1 (196 + 16 * c) 5 = ((S.2.2.1 c).1.length : Int) := by rw [e1, gi_of (Or.inl (by omega))]; exact pb.1.1
        rw [g1] at e2
        have hc0 := hS.1.1
        have y2 : eqy (fun b k => (b = 196 + 16 * c ∧ k = 5) ∨ b = 196 + 16 * c + 1) M M2 := by
          rw [e2, e1]
          exact ((eqy.rfl' M).wi (Or.inr rfl)).wi (Or.inl ⟨rfl, rfl⟩)
        have g2 : gi M2 (196 + 16 * c) 5 = ((S.2.2.1 c).1.length : Int) + 1 := by rw [e2, gi_at (inr_z (by omega) (by omega))]
        have q2 : ∀ j, j < (S.2.2.1 c).1.length + 1 → gi M2 (196 + 16 * c + 1) j = ((((S.2.2.1 c).1 ++ [y.toNat]).getD j 0 : Nat) : Int) := fun j hj => by
          rw [e2, gi_of (Or.inl (by omega)), e1]
          by_cases e : j = (S.2.2.1 c).1.length
          · have er : ((S.2.2.1 c).1 ++ [y.toNat]).getD j 0 = y.toNat := by
              have := app_getD2 (l := (S.2.2.1 c).1) (m := [y.toNat]) (j := 0) (d := 0) (by simp)
              rw [Nat.add_zero, ← e] at this
              exact this
            rw [er, e, gi_at (inr_z (by omega) (by omega))]
            omega
          · rw [gi_of (Or.inr e), app_getD1 (by omega)]
            exact pb.1.2 j (by omega)
        have fin : ∀ M3, eqy (fun b k => b = 196 + 16 * c ∧ k = 0) M2 M3 → gi M3 (196 + 16 * c) 0 = ((S.2.2.1 c).2.2.2.1 : Int) + 1 → e_C_enlist_43 (196 + 16 * c) M3 (fun z3 M3 => K z3 M3) := fun M3 y3 s3 => by
          show K (gi M3 (196 + 16 * c) 5) M3
          rw [y3.i (by omega), g2]
          have X3 : RPX M3 Ts c0 S c := hP.x.eq hS hc (fun b k h => ⟨((y3.1 b k (by omega)).1).trans (y2.1 b k (by omega)).1, ((y3.1 b k (by omega)).2).trans (y2.1 b k (by omega)).2, by rw [y3.2, y2.2]⟩)
          refine kk M3 (X3.all ⟨⟨⟨?_, fun j hj => ?_⟩, ?_, ?_⟩, ?_, fun ht => ?_, ?_⟩)
          · rw [y3.i (by omega), g2]
            show _ = (((S.2.2.1 c).1 ++ [y.toNat]).length : Int)
            simp
          · have hj : j < ((S.2.2.1 c).1 ++ [y.toNat]).length := hj
            simp at hj
            rw [y3.i (by omega)]
            exact q2 j (by omega)
          · exact ((y3.i (by omega)).trans (y2.i (by omega))).trans pb.2.1
          · exact ((y3.i (by omega)).trans (y2.i (by omega))).trans pb.2.2
          · rw [s3, if_neg (by show ¬ ((S.2.2.1 c).1 ++ [y.toNat]).length = 0; simp)]
          · have hne : (S.2.2.1 c).1.length ≠ 0 := fun z => by
              have := hcl.2.2.2.1 z
              have ht : (S.2.2.1 c).2.2.2.1 = 1 := ht
              omega
            have := pr ht
            show rnR M3 _ (25 + 12 * ((S.2.2.1 c).1 ++ [y.toNat]).headD 0) (Ts (((S.2.2.1 c).1 ++ [y.toNat]).headD 0)).1 (Ts (((S.2.2.1 c).1 ++ [y.toNat]).headD 0)).2.1 (Ts (((S.2.2.1 c).1 ++ [y.toNat]).headD 0)).2.2.1 (Ts (((S.2.2.1 c).1 ++ [y.toNat]).headD 0)).2.2.2 _ _ _
            rw [hd_app hne]
            have h12 := hd12 hS hc ht
            exact this.eq3 (by omega) (fun b k h => ⟨((y3.1 b k (by omega)).1).trans (y2.1 b k (by omega)).1, ((y3.1 b k (by omega)).2).trans (y2.1 b k (by omega)).2, by rw [y3.2, y2.2]⟩)
          · exact pcw.eq (cl := ((S.2.2.1 c).1 ++ [y.toNat], (S.2.2.1 c).2)) pw (fun b k h => ((y3.1 b k (by omega)).1).trans (y2.1 b k (by omega)).1)
        have s2 : gi M2 (196 + 16 * c) 0 = (if (S.2.2.1 c).1.length = 0 then 0 else ((S.2.2.1 c).2.2.2.1 : Int) + 1) := (y2.i (by omega)).trans ps
        refine ⟨fun hs M3 e3 => fin M3 (by rw [e3]; exact (eqy.rfl' _).wi ⟨rfl, rfl⟩) ?_, fun hs => fin M2 (eqy.rfl' _) ?_⟩
        · rw [e3, gi_at (inr_z (by omega) (by omega))]
          rw [s2] at hs
          by_cases hl : (S.2.2.1 c).1.length = 0
          · rw [hcl.2.2.2.1 hl]; rfl
          · rw [if_neg hl] at hs; omega
        · rw [s2] at hs ⊢
          by_cases hl : (S.2.2.1 c).1.length = 0
          · rw [if_pos hl] at hs; exact absurd rfl hs
          · rw [if_neg hl]
      · rw [pb.1.1] at hq
        rw [if_neg (fun q => by omega)] at kk
        exact kk M hP
    refine ⟨fun h => ⟨Or.inl rfl, fun _ => no (by omega), fun q => absurd rfl q⟩, fun h => ⟨fun h' => ⟨Or.inl rfl, fun _ => no (by rw [hcc] at h'; omega), fun q => absurd rfl q⟩, fun h' => ⟨Or.inr rfl, fun q => absurd q (by decide), fun _ => yes (by rw [hcc] at h'; omega)⟩⟩⟩
  · rw [if_neg (fun q => hx ⟨q.1, q.2.1⟩)] at kk
    exact kk M hP
end PCa
