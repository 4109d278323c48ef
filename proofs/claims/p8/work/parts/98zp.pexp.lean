/-! the program's exps say what the grammar says -/
def irM (M : rf_M) : Bool := !(decide (gi M 169 4 = 0))
section PX
variable {κ ν : Nat → Int} {L p : Nat} {M M' M1 M2 M3 : rf_M} {R R' R'' : rxT} {ir : Bool}
theorem pat.uniq {i cc un i' cc' un' : Nat} (h : pat p L M i cc un) (h' : pat p L M i' cc' un') : i = i' ∧ cc = cc' ∧ un = un' := by
  obtain ⟨a1, -, a2, a3, -⟩ := h
  obtain ⟨b1, -, b2, b3, -⟩ := h'
  omega
theorem pat.eq {P : Nat → Nat → Prop} {i cc un : Nat} (h : pat p L M i cc un) (e : eqy P M M') (q : ∀ b k, (b = 169 ∧ k = 2) ∨ (b = p ∧ (k = 1 ∨ k = 3)) → ¬ P b k) : pat p L M' i cc un := ⟨(e.i (q _ _ (by omega))).trans h.1, h.2.1, (e.i (q _ _ (by omega))).trans h.2.2.1, (e.i (q _ _ (by omega))).trans h.2.2.2.1, h.2.2.2.2⟩
theorem exq.bad (e : eqy (exF p) M M') (h : ¬ gi M' 169 3 = -1) : exq L p R M M' := ⟨e, fun q => absurd q h⟩
theorem exq.mono (h : exq L p R M M') (i : ∀ i j c u, R i j c u → R' i j c u) : exq L p R' M M' := ⟨h.1, fun q => by
  obtain ⟨a, i0, cc, un, j, c, u, b1, b2, b3, b4⟩ := h.2 q
  exact ⟨a, i0, cc, un, j, c, u, b1, i _ _ _ _ b2, b3, b4⟩⟩
theorem exq.seq (h : exq L p R M M1) (h' : exq L p R' M1 M2) : exq L p (fun i j c u => ∃ j1 c1 u1 c2 u2, R i j1 c1 u1 ∧ R' j1 j c2 u2 ∧ c = c1 ++ c2 ∧ u = u1 + u2) M M2 := ⟨h.1.trans h'.1, fun q => by
  obtain ⟨a', i1, cc1, un1, j, c2, u2, b1', b2', b3', b4'⟩ := h'.2 q
  obtain ⟨a, i, cc, un, j1, c1, u1, b1, b2, b3, b4⟩ := h.2 a'
  obtain ⟨rfl, rfl, rfl⟩ := b3.uniq b1'
  refine ⟨a, i, cc, un, j, c1 ++ c2, u1 + u2, b1, ⟨j1, c1, u1, c2, u2, b2, b2', rfl, rfl⟩, ?_, b4.app b4'⟩
  rw [List.length_append, ← Nat.add_assoc, ← Nat.add_assoc]
  exact b3'⟩
theorem prE.of (hg : ∀ i j c u, R i j c u → c.length ≤ 2 * u) (hp : 25 ≤ p ∧ p ≤ 157) (h : prE κ ν L p M) (e : exq L p R M M') : prE κ ν L p M' := ⟨by rw [e.1.2]; exact h.1, h.2.1.eq e.1 (fun b k q => by unfold exF; omega), fun q => by
  obtain ⟨a, i, cc, un, j, c, u, b1, b2, b3, b4⟩ := e.2 q
  obtain ⟨i', cc', un', c1, c2⟩ := h.2.2 a
  obtain ⟨rfl, rfl, rfl⟩ := b1.uniq c1
  have := hg _ _ _ _ b2
  exact ⟨j, _, _, b3, by omega⟩⟩
theorem irM.eq {P : Nat → Nat → Prop} (e : eqy P M M') (q : ¬ P 169 4) : irM M' = irM M := by unfold irM; rw [e.i q]
theorem prE.at (h : prE κ ν L p M) : gi M 169 3 = -1 → ∃ i, gi M 169 2 = ((i : Nat) : Int) ∧ i ≤ L := fun q => by
  obtain ⟨i, cc, un, a, _⟩ := h.2.2 q
  exact ⟨i, a.1, a.2.1⟩
variable (hL : L ≤ 800) (hκ : κ L = 0) (hi : ∀ k, inr (κ k) ∧ inr (ν k)) (hp : p ∈ k1)
/-- an operator, what follows it, and its code -/
theorem x_tail (hL : L ≤ 800) (hκ : κ L = 0) (hi : ∀ k, inr (κ k) ∧ inr (ν k)) (hp : p ∈ k1) {V : rf_M → (rf_M → Prop) → Prop} {K : rf_M → Prop} {i : Nat} (hV : ∀ M K, prE κ ν L p M → irM M = ir → (∀ M', exq L p R' M M' → K M') → V M K) (hg : ∀ i j c u, R' i j c u → c.length + 1 ≤ 2 * u) (hP : prE κ ν L p M) (hir : irM M = ir) (hf : gi M 169 3 = -1) (hat : gi M 169 2 = (i : Int)) (hil : i ≤ L) (hne : κ i ≠ 0) (kk : ∀ M4, exq L p (fun i' j c u => i' = i ∧ ∃ c1, R' (i + 1) j c1 u ∧ c = c1 ++ [(κ i, 0)]) M M4 → K M4) : em_Q_token M (fun z1 M1 => em_Q_advance M1 (fun M2 => V M2 (fun M3 => isP M3 169 1 ∧ em_P_emit (gr M3 169 1) z1 0 M3 K))) := by
  have hk1 := k1_or hp
  have hlt : i < L := by
    rcases Nat.lt_or_ge i L with q | q
    · exact q
    · rw [show i = L by omega] at hne; exact absurd hκ hne
  refine fun _ => ?_
  rw [hat, tn_, (hP.2.1.2 i hil).1]
  refine x_Qadv hP.2.1 hat hlt hL (fun M2 y2 a2 => ?_)
  obtain ⟨i0, cc, un, pa, pc⟩ := hP.2.2 hf
  obtain rfl : i0 = i := by have := pa.1; omega
  have pa2 : pat p L M2 (i0 + 1) cc un := ⟨a2, by omega, (y2.i (by omega)).trans pa.2.2.1, (y2.i (by omega)).trans pa.2.2.2.1, pa.2.2.2.2⟩
  have P2 : prE κ ν L p M2 := ⟨by rw [y2.2]; exact hP.1, hP.2.1.eq y2 (fun b k q => by omega), fun _ => ⟨_, _, _, pa2, pc⟩⟩
  refine hV M2 _ P2 ((irM.eq y2 (by omega)).trans hir) (fun M3 q3 => ?_)
  have ref3 : M3.2.2 169 1 = some p := by rw [q3.1.2]; exact P2.1
  have ip := isPk ref3 hp
  refine ⟨ip.1, ?_⟩
  rw [ip.2]
  by_cases f3 : gi M3 169 3 = -1
  · obtain ⟨_, i1, cc1, un1, j, c, u, b1, b2, b3, b4⟩ := q3.2 f3
    obtain ⟨rfl, rfl, rfl⟩ := pa2.uniq b1
    have hlen := hg _ _ _ _ b2
    have h60 := b3.2.2.2.2
    refine x_emit b3.2.2.1 (by omega) (hi i0).1 ir_0 (fun M4 y4 c4 p4 => kk M4 ⟨?_, fun _ => ⟨hf, i0, cc, un, j, c ++ [(κ i0, 0)], u, pa, ⟨rfl, c, b2, rfl⟩, ⟨(y4.i (by omega)).trans b3.1, b3.2.1, ?_, (y4.i (by omega)).trans b3.2.2.2.1, b3.2.2.2.2⟩, ?_⟩⟩)
    · exact ((y2.mono (fun b k h => by unfold exF; omega)).trans q3.1).trans (y4.mono (fun b k h => by unfold exF; omega))
    · rw [c4]; simp; omega
    · have b4' : cap p M M3 cc c := ⟨fun k hk => ⟨((b4.1 k hk).1).trans (y2.i (by omega)), ((b4.1 k hk).2).trans (y2.i (by omega))⟩, b4.2⟩
      exact b4'.app p4
  · refine x_emit' (fun M4 y4 => kk M4 (exq.bad (((y2.mono (fun b k h => by unfold exF; omega)).trans q3.1).trans (y4.mono (fun b k h => by unfold exF; omega))) (by rw [y4.i (by omega)]; exact f3)))
theorem dL_snoc {op : Int → Prop} {U : rxT} : ∀ (n i j1 j : Nat) (c c' : cdT) (u u' : Nat), dL κ op U n i j1 c u → op (κ j1) → U (j1 + 1) j c' u' → dL κ op U (n + 1) i j (c ++ (c' ++ [(κ j1, 0)])) (u + u')
  | 0, i, j1, j, c, c', u, u', h, ho, hU => by
    obtain ⟨rfl, rfl, rfl⟩ := h
    exact ⟨j, c', u', [], 0, ho, hU, ⟨rfl, rfl, rfl⟩, by simp, by omega⟩
  | n + 1, i, j1, j, c, c', u, u', h, ho, hU => by
    obtain ⟨k1, d1, w1, d2, w2, h1, h2, h3, rfl, rfl⟩ := h
    exact ⟨k1, d1, w1, _, _, h1, h2, dL_snoc n _ _ _ _ _ _ _ h3 ho hU, by simp, by omega⟩
theorem x_Qprod (hL : L ≤ 800) (hκ : κ L = 0) (hi : ∀ k, inr (κ k) ∧ inr (ν k)) (hp : p ∈ k1) {U : Int → rf_M → (rf_M → Prop) → Prop} {v : Int} {K : rf_M → Prop} (hU : ∀ M K, prE κ ν L p M → irM M = ir → (∀ M', exq L p R M M' → K M') → U v M K) (hg : ∀ i j c u, R i j c u → gdc ν κ c u) (hP : prE κ ν L p M) (hir : irM M = ir) (kk : ∀ M', exq L p (dP κ R) M M' → K M') : em_Q_product U v M K := by
  have hk1 := k1_or hp
  refine hU M _ hP hir (fun M1 q1 => ⟨fun v1 v2 M' => v1 = v ∧ ∃ t : Nat, v2 = (t : Int) ∧ t ≤ 60 ∧ exq L p (dP κ R) M M', ⟨rfl, 0, rfl, by omega, q1.mono (fun i j c u h => ⟨j, c, u, 0, [], 0, h, ⟨rfl, rfl, rfl⟩, by simp, by omega⟩)⟩, ?_⟩)
  rintro v1 v2 M2 - - ⟨rfl, t, rfl, ht, q2⟩
  have P2 : prE κ ν L p M2 := hP.of (fun i j c u h => by have := (dP_gd hg _ _ _ _ h).1; omega) (by omega) q2
  have ir2 : irM M2 = ir := (irM.eq q2.1 (by unfold exF; omega)).trans hir
  refine ⟨fun h => kk M2 q2, fun h => ?_⟩
  have go : gi M2 169 3 = -1 → ∀ i : Nat, gi M2 169 2 = (i : Int) → i ≤ L → mop (κ i) → e_Q_product_40 U v1 (t : Int) M2 (fun v1' v2 M' => v1' = v1 ∧ ∃ t : Nat, v2 = (t : Int) ∧ t ≤ 60 ∧ exq L p (dP κ R) M M') K := fun hf i hat hil hm => by
    refine x_tail hL hκ hi hp hU (fun i j c u h => (hg _ _ _ _ h).1) P2 ir2 hf hat hil (by unfold mop at hm; omega) (fun M4 q4 => ⟨inr_z (by omega) (by omega), rfl, t + 1, by omega, by omega, ?_⟩)
    refine (q2.seq q4).mono (fun a b c u hh => ?_)
    obtain ⟨j1, c1, u1, c2, u2, ⟨k1, d1, w1, n, d2, w2, g1, g2, rfl, rfl⟩, ⟨rfl, c3, g3, rfl⟩, rfl, rfl⟩ := hh
    exact ⟨k1, d1, w1, n + 1, _, _, g1, dL_snoc _ _ _ _ _ _ _ _ g2 hm g3, by simp, by omega⟩
  refine x_Qat P2.2.1 P2.at (fun hf i hat hil e => ⟨fun q => absurd q (by decide), fun _ => go hf i hat hil (Or.inl e)⟩) (fun n1 => ⟨fun _ => x_Qat P2.2.1 P2.at (fun hf i hat hil e => ⟨fun q => absurd q (by decide), fun _ => go hf i hat hil (Or.inr (Or.inl e))⟩) (fun n2 => ⟨fun _ => x_Qat P2.2.1 P2.at (fun hf i hat hil e => ⟨fun q => absurd q (by decide), fun _ => go hf i hat hil (Or.inr (Or.inr e))⟩) (fun n3 => ⟨fun _ => kk M2 q2, fun q => absurd rfl q⟩), fun q => absurd rfl q⟩), fun q => absurd rfl q⟩)
theorem x_Qsum (hL : L ≤ 800) (hκ : κ L = 0) (hi : ∀ k, inr (κ k) ∧ inr (ν k)) (hp : p ∈ k1) {U : Int → rf_M → (rf_M → Prop) → Prop} {v : Int} {K : rf_M → Prop} (hU : ∀ M K, prE κ ν L p M → irM M = ir → (∀ M', exq L p R M M' → K M') → U v M K) (hg : ∀ i j c u, R i j c u → gdc ν κ c u) (hP : prE κ ν L p M) (hir : irM M = ir) (kk : ∀ M', exq L p (dS κ R) M M' → K M') : em_Q_sum U v M K := by
  have hk1 := k1_or hp
  refine x_Qprod hL hκ hi hp hU hg hP hir (fun M1 q1 => ⟨fun v1 v2 M' => v1 = v ∧ ∃ t : Nat, v2 = (t : Int) ∧ t ≤ 60 ∧ exq L p (dS κ R) M M', ⟨rfl, 0, rfl, by omega, q1.mono (fun i j c u h => ⟨j, c, u, 0, [], 0, h, ⟨rfl, rfl, rfl⟩, by simp, by omega⟩)⟩, ?_⟩)
  rintro v1 v2 M2 - - ⟨rfl, t, rfl, ht, q2⟩
  have P2 : prE κ ν L p M2 := hP.of (fun i j c u h => by have := (dS_gd hg _ _ _ _ h).1; omega) (by omega) q2
  have ir2 : irM M2 = ir := (irM.eq q2.1 (by unfold exF; omega)).trans hir
  refine ⟨fun h => kk M2 q2, fun h => ?_⟩
  have go : gi M2 169 3 = -1 → ∀ i : Nat, gi M2 169 2 = (i : Int) → i ≤ L → aop (κ i) → e_Q_sum_31 U v1 (t : Int) M2 (fun v1' v2 M' => v1' = v1 ∧ ∃ t : Nat, v2 = (t : Int) ∧ t ≤ 60 ∧ exq L p (dS κ R) M M') K := fun hf i hat hil hm => by
    refine x_tail hL hκ hi hp (V := em_Q_product U v1) (fun M K a b c => x_Qprod hL hκ hi hp hU hg a b c) (fun i j c u h => (dP_gd hg _ _ _ _ h).1) P2 ir2 hf hat hil (by unfold aop at hm; omega) (fun M4 q4 => ⟨inr_z (by omega) (by omega), rfl, t + 1, by omega, by omega, ?_⟩)
    refine (q2.seq q4).mono (fun a b c u hh => ?_)
    obtain ⟨j1, c1, u1, c2, u2, ⟨k1, d1, w1, n, d2, w2, g1, g2, rfl, rfl⟩, ⟨rfl, c3, g3, rfl⟩, rfl, rfl⟩ := hh
    exact ⟨k1, d1, w1, n + 1, _, _, g1, dL_snoc _ _ _ _ _ _ _ _ g2 hm g3, by simp, by omega⟩
  refine x_Qat P2.2.1 P2.at (fun hf i hat hil e => ⟨fun q => absurd q (by decide), fun _ => go hf i hat hil (Or.inl e)⟩) (fun n1 => ⟨fun _ => x_Qat P2.2.1 P2.at (fun hf i hat hil e => ⟨fun q => absurd q (by decide), fun _ => go hf i hat hil (Or.inr e)⟩) (fun n2 => ⟨fun _ => kk M2 q2, fun q => absurd rfl q⟩), fun q => absurd rfl q⟩)
theorem x_Qexp (hL : L ≤ 800) (hκ : κ L = 0) (hi : ∀ k, inr (κ k) ∧ inr (ν k)) (hp : p ∈ k1) {U : Int → rf_M → (rf_M → Prop) → Prop} {v : Int} {K : rf_M → Prop} (hU : ∀ M K, prE κ ν L p M → irM M = ir → (∀ M', exq L p R M M' → K M') → U v M K) (hg : ∀ i j c u, R i j c u → gdc ν κ c u) (hP : prE κ ν L p M) (hir : irM M = ir) (kk : ∀ M', exq L p (dE κ R) M M' → K M') : em_Q_exp U v M K := by
  have hk1 := k1_or hp
  refine x_Qsum hL hκ hi hp hU hg hP hir (fun M2 q2 => ?_)
  have P2 : prE κ ν L p M2 := hP.of (fun i j c u h => by have := (dS_gd hg _ _ _ _ h).1; omega) (by omega) q2
  have ir2 : irM M2 = ir := (irM.eq q2.1 (by unfold exF; omega)).trans hir
  have stay : e_Q_exp_55 U M2 K := kk M2 (q2.mono (fun i j c u h => Or.inl h))
  have go : gi M2 169 3 = -1 → ∀ i : Nat, gi M2 169 2 = (i : Int) → i ≤ L → cop (κ i) → e_Q_exp_32 U v M2 K := fun hf i hat hil hm => by
    refine x_tail hL hκ hi hp (V := em_Q_sum U v) (fun M K a b c => x_Qsum hL hκ hi hp hU hg a b c) (fun i j c u h => (dS_gd hg _ _ _ _ h).1) P2 ir2 hf hat hil (by unfold cop at hm; omega) (fun M4 q4 => kk M4 ?_)
    refine (q2.seq q4).mono (fun a b c u hh => ?_)
    obtain ⟨j1, c1, u1, c2, u2, g1, ⟨rfl, c3, g3, rfl⟩, rfl, rfl⟩ := hh
    exact Or.inr ⟨j1, c1, u1, c3, u2, g1, hm, g3, rfl, rfl⟩
  refine x_Qat P2.2.1 P2.at (fun hf i hat hil e => ⟨fun q => absurd q (by decide), fun _ => go hf i hat hil (Or.inl e)⟩) (fun n1 => ⟨fun _ => x_Qat P2.2.1 P2.at (fun hf i hat hil e => ⟨fun q => absurd q (by decide), fun _ => go hf i hat hil (Or.inr (Or.inl e))⟩) (fun n2 => ⟨fun _ => x_Qat P2.2.1 P2.at (fun hf i hat hil e => ⟨fun q => absurd q (by decide), fun _ => go hf i hat hil (Or.inr (Or.inr e))⟩) (fun n3 => ⟨fun _ => stay, fun q => absurd rfl q⟩), fun q => absurd rfl q⟩), fun q => absurd rfl q⟩)
end PX
