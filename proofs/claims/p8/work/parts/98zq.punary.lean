/-! the program's unary; its exps as calls -/
/-- what a call of unary, of exp may come to -/
def Usp (κ ν : Nat → Int) (L p : Nat) (d : Int) (M : rf_M) (K : rf_M → Prop) : Prop := (0 ≤ d ∧ d ≤ 8) ∧ prE κ ν L p M ∧ ∀ M', exq L p (dU κ ν (irM M) (8 - d.toNat)) M M' → K M'
def Esp (κ ν : Nat → Int) (L p : Nat) (d : Int) (M : rf_M) (K : rf_M → Prop) : Prop := (0 ≤ d ∧ d ≤ 8) ∧ prE κ ν L p M ∧ ∀ M', exq L p (dE κ (dU κ ν (irM M) (8 - d.toNat))) M M' → K M'
section PU
variable {κ ν : Nat → Int} {L p : Nat} {M M' M1 M2 M3 : rf_M} {R R' R'' : rxT} {ir : Bool} {K : rf_M → Prop}
theorem x_Qexpect {t : Int} (hL : L ≤ 800) (hκ : κ L = 0) (ht : t ≠ 0) (hP : tkM κ ν L M) (ha : gi M 169 3 = -1 → ∃ i, gi M 169 2 = ((i : Nat) : Int) ∧ i ≤ L) (h1 : ∀ (i : Nat) M', gi M 169 3 = -1 → gi M 169 2 = (i : Int) → i < L → κ i = t → eqy (fun b k => b = 169 ∧ k = 2) M M' → gi M' 169 2 = ((i + 1 : Nat) : Int) → K M') (h0 : ∀ M', eqy (fun b k => b = 169 ∧ k = 3) M M' → ¬ gi M' 169 3 = -1 → K M') : em_Q_expect t M K := by
  refine x_Qat hP ha (fun hf i hat hil e => ⟨fun q => absurd q (by decide), fun _ => ?_⟩) (fun n => ⟨fun _ => x_Qref hP ha h0, fun q => absurd rfl q⟩)
  have hlt : i < L := by
    rcases Nat.lt_or_ge i L with q | q
    · exact q
    · rw [show i = L by omega, hκ] at e; exact absurd e.symm ht
  exact x_Qadv hP hat hlt hL (fun M' y a => h1 i M' hf hat hlt e y a)
theorem x_unary (hL : L ≤ 800) (hκ : κ L = 0) (hi : ∀ k, inr (κ k) ∧ inr (ν k)) (hν : ∀ k, κ k = 1 → 0 ≤ ν k) (hp : p ∈ k1) {d : Int} (h : Usp κ ν L p d M K) : em_Q_unary (Usp κ ν L p) d M K := by
  obtain ⟨hd, hP, kk⟩ := h
  have hk1 := k1_or hp
  have ip0 := isPk hP.1 hp
  have ref : ∀ N, eqy (exF p) M N → tkM κ ν L N → (gi N 169 3 = -1 → ∃ i, gi N 169 2 = ((i : Nat) : Int) ∧ i ≤ L) → em_Q_refuse N K := fun N y tk a => x_Qref tk a (fun M' y' b => kk M' (exq.bad (y.trans (y'.mono (fun b k h => by unfold exF; omega))) b))
  have bad : e_Q_unary_19 (Usp κ ν L p) M K := ref M (eqy.rfl' M) hP.2.1 hP.at
  refine ⟨fun hf => ⟨Or.inl rfl, fun _ => ⟨ip0.1, ?_⟩, fun q => absurd rfl q⟩, fun hf => ⟨Or.inr rfl, fun q => absurd q (by decide), fun _ => bad⟩⟩
  rw [ip0.2]
  obtain ⟨i, cc, un, pa, pc⟩ := hP.2.2 hf
  refine ⟨fun h60 => ⟨ip0.1, fun M2 e2 => ?_⟩, fun _ => bad⟩
  rw [pa.2.2.2.1] at h60
  rw [pa.2.2.2.1] at e2
  have y2 : eqy (fun b k => b = p ∧ k = 1) M M2 := by rw [e2]; exact (eqy.rfl' M).wi ⟨rfl, rfl⟩
  have y2' : eqy (exF p) M M2 := y2.mono (fun b k h => by unfold exF; omega)
  have pa2 : pat p L M2 i cc (un + 1) := ⟨(y2.i (by omega)).trans pa.1, pa.2.1, (y2.i (by omega)).trans pa.2.2.1, by rw [e2, gi_at (inr_z (by omega) (by omega))]; omega, by omega⟩
  have f2 : gi M2 169 3 = -1 := (y2.i (by omega)).trans hf
  have t2 : tkM κ ν L M2 := hP.2.1.eq y2 (fun b k q => by omega)
  have r2 : M2.2.2 169 1 = some p := by rw [y2.2]; exact hP.1
  have P2 : prE κ ν L p M2 := ⟨r2, t2, fun _ => ⟨i, cc, un + 1, pa2, by omega⟩⟩
  have ip2 := isPk r2 hp
  have lt : κ i ≠ 0 → i < L := fun q => by
    rcases Nat.lt_or_ge i L with z | z
    · exact z
    · rw [show i = L by have := pa.2.1; omega] at q; exact absurd hκ q
  have same : ∀ j : Nat, gi M2 169 2 = (j : Int) → j = i := fun j hj => by have := pa2.1; omega
  -- a number or a letter
  have leaf : ∀ o : Int, (o = 1 ∨ o = 2) → κ i ≠ 0 → dF κ ν (irM M) i (i + 1) [(o, ν i)] 1 → ∀ N, N = M2 → em_P_emit p o (ν i) N (fun M8 => em_Q_advance M8 (fun M9 => e_Q_unary_185 (Usp κ ν L p) M9 K)) := fun o ho hne hdf N eN => by
    subst eN
    refine x_emit pa2.2.2.1 (by omega) (by rcases ho with rfl | rfl <;> exact inr_z (by omega) (by omega)) (hi i).2 (fun M8 y8 c8 p8 => ?_)
    refine x_Qadv (t2.eq y8 (fun b k q => by omega)) ((y8.i (by omega)).trans pa2.1) (lt hne) hL (fun M9 y9 a9 => kk M9 ⟨(y2'.trans (y8.mono (fun b k h => by unfold exF; omega))).trans (y9.mono (fun b k h => by unfold exF; omega)), fun _ => ⟨hf, i, cc, un, i + 1, [(o, ν i)], 1, pa, ?_, ⟨a9, by have := lt hne; omega, ?_, ?_, by omega⟩, ?_⟩⟩)
    · cases 8 - d.toNat with
      | zero => exact hdf
      | succ f => exact Or.inl hdf
    · rw [y9.i (by omega), c8]; simp
    · rw [y9.i (by omega), y8.i (by omega)]; exact pa2.2.2.2.1
    · exact ⟨fun k hk => ⟨((y9.i (by omega)).trans (p8.1 k hk).1).trans (y2.i (by omega)), ((y9.i (by omega)).trans (p8.1 k hk).2).trans (y2.i (by omega))⟩, fun k hk => ⟨(y9.i (by omega)).trans (p8.2 k hk).1, (y9.i (by omega)).trans (p8.2 k hk).2⟩⟩
  have e181 : e_Q_unary_181 (Usp κ ν L p) M2 K := ref M2 y2' t2 P2.at
  have e146 : e_Q_unary_146 (Usp κ ν L p) d M2 K := by
    refine x_Qat t2 P2.at (fun _ j hj _ e => ⟨fun q => absurd q (by decide), fun _ => ⟨fun _ => e181, fun hd8 => ?_⟩⟩) (fun n => ⟨fun _ => e181, fun q => absurd rfl q⟩)
    obtain rfl := same j hj
    refine x_Qadv t2 pa2.1 (lt (by omega)) hL (fun M3 y3 a3 => ⟨inr_z (by omega) (by omega), ?_⟩)
    have pa3 : pat p L M3 (j + 1) cc (un + 1) := ⟨a3, by have := lt (by omega); omega, (y3.i (by omega)).trans pa2.2.2.1, (y3.i (by omega)).trans pa2.2.2.2.1, pa2.2.2.2.2⟩
    have P3 : prE κ ν L p M3 := ⟨by rw [y3.2]; exact r2, t2.eq y3 (fun b k q => by omega), fun _ => ⟨_, _, _, pa3, by omega⟩⟩
    have ir3 : irM M3 = irM M := (irM.eq y3 (by omega)).trans (irM.eq y2 (by omega))
    have y3' : eqy (exF p) M M3 := y2'.trans (y3.mono (fun b k h => by unfold exF; omega))
    have hf8 : 8 - d.toNat = (8 - (d + 1).toNat) + 1 := by omega
    refine x_Qexp hL hκ hi hp (ir := irM M) (R := dU κ ν (irM M) (8 - (d + 1).toNat)) (fun N K' a b c => ⟨⟨by omega, by omega⟩, a, fun M' h => c M' (by rw [b] at h; exact h)⟩) (dU_gd _) P3 ir3 (fun M4 q4 => ?_)
    have P4 : prE κ ν L p M4 := P3.of (fun i j c u h => by have := (dE_gd (dU_gd _) _ _ _ _ h).1; omega) (by omega) q4
    refine x_Qexpect hL hκ (by decide) P4.2.1 P4.at (fun i4 M5 hf4 hat4 hlt4 e4 y5 a5 => kk M5 ⟨(y3'.trans q4.1).trans (y5.mono (fun b k h => by unfold exF; omega)), fun _ => ?_⟩) (fun M5 y5 b5 => kk M5 (exq.bad ((y3'.trans q4.1).trans (y5.mono (fun b k h => by unfold exF; omega))) b5))
    obtain ⟨_, i3, cc3, un3, j4, c4, u4, b1, b2, b3, b4⟩ := q4.2 hf4
    obtain ⟨rfl, rfl, rfl⟩ := pa3.uniq b1
    obtain rfl : j4 = i4 := by have := b3.1; omega
    refine ⟨hf, j, cc, un, j4 + 1, c4, u4 + 1, pa, ?_, ⟨a5, by omega, (y5.i (by omega)).trans b3.2.2.1, ?_, by have := b3.2.2.2.2; omega⟩, ?_⟩
    · rw [hf8]
      exact Or.inr (Or.inr ⟨e, j4, u4, b2, e4, rfl, rfl⟩)
    · rw [y5.i (by omega), b3.2.2.2.1]; omega
    · exact ⟨fun k hk => ⟨((y5.i (by omega)).trans (b4.1 k hk).1).trans ((y3.i (by omega)).trans (y2.i (by omega))), ((y5.i (by omega)).trans (b4.1 k hk).2).trans ((y3.i (by omega)).trans (y2.i (by omega)))⟩, fun k hk => ⟨(y5.i (by omega)).trans (b4.2 k hk).1, (y5.i (by omega)).trans (b4.2 k hk).2⟩⟩
  have e108 : e_Q_unary_108 (Usp κ ν L p) d M2 K := by
    refine x_Qat t2 P2.at (fun _ j hj _ e => ⟨fun q => absurd q (by decide), fun _ => ⟨fun _ => e146, fun hd8 => ?_⟩⟩) (fun n => ⟨fun _ => e146, fun q => absurd rfl q⟩)
    obtain rfl := same j hj
    refine x_Qadv t2 pa2.1 (lt (by omega)) hL (fun M3 y3 a3 => ⟨inr_z (by omega) (by omega), ?_⟩)
    have pa3 : pat p L M3 (j + 1) cc (un + 1) := ⟨a3, by have := lt (by omega); omega, (y3.i (by omega)).trans pa2.2.2.1, (y3.i (by omega)).trans pa2.2.2.2.1, pa2.2.2.2.2⟩
    have P3 : prE κ ν L p M3 := ⟨by rw [y3.2]; exact r2, t2.eq y3 (fun b k q => by omega), fun _ => ⟨_, _, _, pa3, by omega⟩⟩
    have ir3 : irM M3 = irM M := (irM.eq y3 (by omega)).trans (irM.eq y2 (by omega))
    have y3' : eqy (exF p) M M3 := y2'.trans (y3.mono (fun b k h => by unfold exF; omega))
    have hf8 : 8 - d.toNat = (8 - (d + 1).toNat) + 1 := by omega
    refine ⟨⟨by omega, by omega⟩, P3, fun M4 q4 => ?_⟩
    rw [ir3] at q4
    have ip4 := isPk (show M4.2.2 169 1 = some p by rw [q4.1.2]; exact P3.1) hp
    refine ⟨ip4.1, ?_⟩
    rw [ip4.2]
    by_cases f4 : gi M4 169 3 = -1
    · obtain ⟨_, i3, cc3, un3, j4, c4, u4, b1, b2, b3, b4⟩ := q4.2 f4
      obtain ⟨rfl, rfl, rfl⟩ := pa3.uniq b1
      have hlen := (dU_gd _ _ _ _ _ b2).1
      have h60' := b3.2.2.2.2
      refine x_emit b3.2.2.1 (by omega) (inr_z (by omega) (by omega)) ir_0 (fun M5 y5 c5 p5 => kk M5 ⟨(y3'.trans q4.1).trans (y5.mono (fun b k h => by unfold exF; omega)), fun _ => ⟨hf, j, cc, un, j4, c4 ++ [(3, 0)], u4 + 1, pa, ?_, ⟨(y5.i (by omega)).trans b3.1, b3.2.1, ?_, ?_, by omega⟩, ?_⟩⟩)
      · rw [hf8]
        exact Or.inr (Or.inl ⟨e, c4, u4, b2, rfl, rfl⟩)
      · rw [c5]; simp; omega
      · rw [y5.i (by omega), b3.2.2.2.1]; omega
      · have b4' : cap p M M4 cc c4 := ⟨fun k hk => ⟨((b4.1 k hk).1).trans ((y3.i (by omega)).trans (y2.i (by omega))), ((b4.1 k hk).2).trans ((y3.i (by omega)).trans (y2.i (by omega)))⟩, b4.2⟩
        exact b4'.app p5
    · exact x_emit' (fun M5 y5 => kk M5 (exq.bad ((y3'.trans q4.1).trans (y5.mono (fun b k h => by unfold exF; omega))) (by rw [y5.i (by omega)]; exact f4)))
  have ir2 : irM M2 = irM M := irM.eq y2 (by omega)
  refine x_Qat t2 P2.at (fun _ j hj _ e => ⟨fun q => absurd q (by decide), fun _ => ⟨ip2.1, fun _ => ?_⟩⟩) (fun n2 => ⟨fun _ => x_Qat t2 P2.at (fun _ j hj hl e => ⟨fun q => absurd q (by decide), fun _ _ => ?_⟩) (fun n1 => ⟨fun _ => e108, fun q => absurd rfl q⟩), fun q => absurd rfl q⟩)
  · obtain rfl := same j hj
    rw [ip2.2, pa2.1, tn_, (t2.2 j pa2.2.1).2.1]
    exact leaf 1 (Or.inl rfl) (by omega) ⟨Or.inl ⟨e, rfl⟩, rfl, rfl⟩ M2 rfl
  · obtain rfl := same j hj
    have e89 : (irM M = false ∨ ν j < 16) → e_Q_unary_89 (Usp κ ν L p) M2 K := fun hh => by
      refine ⟨ip2.1, fun _ => ?_⟩
      rw [ip2.2, pa2.1, tn_, (t2.2 j pa2.2.1).2.1]
      exact leaf 2 (Or.inr rfl) (by omega) ⟨Or.inr ⟨e, hh, rfl⟩, rfl, rfl⟩ M2 rfl
    rw [pa2.1, tn_, (t2.2 j pa2.2.1).2.1]
    refine x_isCell (fun hc => ⟨fun q => absurd q (by decide), fun _ => e89 (Or.inr hc.2)⟩) (fun hc => ⟨fun _ => ⟨fun h4 => e89 (Or.inl ?_), fun h4 => e108⟩, fun q => absurd rfl q⟩)
    rw [← ir2]
    unfold irM
    rw [decide_eq_true h4]
    rfl
/-- calls of unary and of exp -/
theorem l_unary {fz : Bool} {S : gS} {B : rf_M} (hS : rl S) (hL : L ≤ 800) (hκ : κ L = 0) (hi : ∀ k, inr (κ k) ∧ inr (ν k)) (hν : ∀ k, κ k = 1 → 0 ≤ ν k) (hp : p ∈ k1) : ∀ (n : Nat) (x0 : Int) (M : rf_M) (K : rf_M → Prop), fl 22 353 B M → inr x0 → Usp κ ν L p x0 M K → lx (cx0 fz) n 50 0 (lv_args 0 [.ref 169, zv x0]) [] (M, S) (vl_v 22 353 B S K) := by
  intro n
  induction n using Nat.strongRecOn with
  | _ n ih =>
    intro x0 M K hR ix h
    exact E_Q_unary_m hS hR (fun n' hn x0 M K a b c => ih n' hn x0 M K a b c) ix (x_unary hL hκ hi hν hp h)
theorem l_exp {fz : Bool} {S : gS} {B : rf_M} (hS : rl S) (hL : L ≤ 800) (hκ : κ L = 0) (hi : ∀ k, inr (κ k) ∧ inr (ν k)) (hν : ∀ k, κ k = 1 → 0 ≤ ν k) (hp : p ∈ k1) (n : Nat) (x0 : Int) (M : rf_M) (K : rf_M → Prop) (hR : fl 22 353 B M) (ix : inr x0) (h : Esp κ ν L p x0 M K) : lx (cx0 fz) n 47 0 (lv_args 0 [.ref 169, zv x0]) [] (M, S) (vl_v 22 353 B S K) := by
  obtain ⟨hd, hP, kk⟩ := h
  refine E_Q_exp_m (U := Usp κ ν L p) hS hR (fun n' _ x0 M K a b c => l_unary hS hL hκ hi hν hp n' x0 M K a b c) ix ?_
  exact x_Qexp hL hκ hi hp (ir := irM M) (R := dU κ ν (irM M) (8 - x0.toNat)) (fun N K' a b c => ⟨hd, a, fun M' h => c M' (by rw [b] at h; exact h)⟩) (dU_gd _) hP rfl kk
end PU
