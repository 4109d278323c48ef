/-! the program's statements and bodies say what the grammar says -/
def ivS (κ ν : Nat → Int) (L p : Nat) (par part d : Int) (M : rf_M) (v4 v5 : Int) (N : rf_M) : Prop := eqy (stF p) M N ∧ gi N 169 4 = 0 ∧ (gi N 169 3 = -1 → gi M 169 3 = -1 ∧ ∃ i s cc un n j s1 c1 u, ptt p L M i s cc un ∧ dSl κ ν (XP N p) (dB κ ν (XP N p) (8 - d.toNat)) par part d n i s cc j s1 c1 v4 v5 u ∧ ptt p L N j s1 c1 (un + u) ∧ kep p M N s cc)
section PSS
variable {κ ν : Nat → Int} {L p : Nat} {M : rf_M} {par part d o : Int} {K : Int → rf_M → Prop}
theorem x_statements (hL : L ≤ 800) (hκ : κ L = 0) (hi : ∀ k, inr (κ k) ∧ inr (ν k)) (hν : ∀ k, κ k = 1 → 0 ≤ ν k) (hp : p ∈ k1) (h : Ssp κ ν L p par part d M K) : em_Q_statements (Esp κ ν L p) (Bsp κ ν L p) par part d M K := by
  obtain ⟨hd, ⟨ipar, ipart⟩, ⟨hM, tM, h4, hpt⟩, kk⟩ := h
  have hk : 25 ≤ p ∧ p ≤ 157 := by have := k1_or hp; omega
  have out : ∀ v4 v5 N, inr v4 → ivS κ ν L p par part d M v4 v5 N → K v4 N := fun v4 v5 N iv q => kk v4 N iv q.1 q.2.1 (fun w => by
    obtain ⟨hf, i, s, cc, un, n, j, s1, c1, u, a1, a2, a3, a4⟩ := q.2.2 w
    exact ⟨hf, i, s, cc, un, n, j, s1, c1, u, a1, dSl.ss _ _ _ _ _ _ _ _ _ _ a2, a3, a4⟩)
  refine ⟨fun w1 w2 w3 v4 v5 v6 N => (w1 = par ∧ w2 = part ∧ w3 = d) ∧ (∃ t : Nat, v6 = (t : Int) ∧ t ≤ 41) ∧ ivS κ ν L p par part d M v4 v5 N, ⟨⟨rfl, rfl, rfl⟩, ⟨0, rfl, by omega⟩, eqy.rfl' M, h4, fun q => ?_⟩, ?_⟩
  · obtain ⟨i, s, cc, un, a⟩ := hpt q
    exact ⟨q, i, s, cc, un, 0, i, s, cc, 0, a, ⟨rfl, rfl, rfl, rfl, rfl, rfl⟩, a, kep.rfl' _ _ _ _⟩
  rintro w1 w2 w3 v4 v5 v6 N - - - iv4 iv5 - ⟨⟨e1, e2, e3⟩, ⟨t, et, ht⟩, q⟩
  rw [e1, e2, e3, et]
  refine ⟨fun _ => out v4 v5 N iv4 q, fun h40 => ⟨fun hf => ⟨Or.inl rfl, fun _ => ?_, fun w => absurd rfl w⟩, fun hf => ⟨Or.inr rfl, fun w => absurd w (by decide), fun _ => out v4 v5 N iv4 q⟩⟩⟩
  have tN : tkM κ ν L N := tM.eq q.1 (fun b k q => by unfold stF; omega)
  obtain ⟨hf0, i, s, cc, un, n, j, s1, c1, u, a1, a2, a3, a4⟩ := q.2.2 hf
  have at' : gi N 169 3 = -1 → ∃ i, gi N 169 2 = ((i : Nat) : Int) ∧ i ≤ L := fun _ => ⟨j, a3.1.1, a3.1.2.1⟩
  refine x_Qat tN at' (fun _ _ _ _ _ => ⟨fun w => absurd w (by decide), fun _ => out v4 v5 N iv4 q⟩) (fun _ => ⟨fun _ => ?_, fun w => absurd rfl w⟩)
  refine x_Qat tN at' (fun _ _ _ _ _ => ⟨fun w => absurd w (by decide), fun _ => out v4 v5 N iv4 q⟩) (fun _ => ⟨fun _ => ?_, fun w => absurd rfl w⟩)
  have hMN : N.2.2 169 1 = some p := by rw [q.1.2]; exact hM
  refine x_statement hL hκ hi hν hp hMN tN hd ipar ipart q.2.1 hf a3 (fun z M4 g => ?_)
  have y4 : eqy (stF p) M M4 := q.1.trans g.1
  refine ⟨fun e5 => ⟨inr_z (by omega) (by omega), ⟨rfl, rfl, rfl⟩, ⟨t + 1, by omega, by omega⟩, y4, g.2.1, fun w => ?_⟩, fun n5 => ?_⟩
  · obtain ⟨ez, j2, s2, c2, u2, b1, b2, b3, b4⟩ := g.2.2 w
    cases n with
    | zero =>
      obtain ⟨rfl, rfl, rfl, -, -, rfl⟩ := a2
      exact ⟨hf0, _, _, _, _, 1, j2, s2, c2, u2, a1, ⟨ez, j2, s2, c2, u2, -1, -1, 0, b1, ⟨rfl, rfl, rfl, rfl, rfl, rfl⟩, b2, by rw [if_pos rfl]; exact ez, by omega⟩, b3, a4.trans b4 (Nat.le_refl _) (Nat.le_refl _)⟩
    | succ n =>
      have x0 := a2.1
      rcases (dSl.rg (dB.congr _) _ _ _ _ _ _ _ _ _ _ a2).2 with ⟨x1, x2⟩ | ⟨x1, x2, l, x3, x4⟩
      · omega
      · omega
  · have ip4 := isPk (M := M4) (a := 169) (k := 1) (by rw [g.1.2]; exact hMN) hp
    refine ⟨ip4.1, fun hb M5 e5 => ?_⟩
    rw [ip4.2] at e5
    have y5 : eqy (fun b k => b = p + 7 ∧ k = v5.toNat) M4 M5 := by rw [e5]; exact (eqy.rfl' _).wi ⟨rfl, rfl⟩
    refine ⟨inr_z (by omega) (by omega), ⟨rfl, rfl, rfl⟩, ⟨t + 1, by omega, by omega⟩, y4.trans (y5.mono (fun b k w => by unfold stF; omega)), (y5.i (by omega)).trans g.2.1, fun w => ?_⟩
    have w4 : gi M4 169 3 = -1 := by rw [← y5.i (by omega)]; exact w
    obtain ⟨ez, j2, s2, c2, u2, b1, b2, b3, b4⟩ := g.2.2 w4
    obtain ⟨⟨r1, r2⟩, r3⟩ := dSl.rg (dB.congr _) _ _ _ _ _ _ _ _ _ _ a2
    rcases r3 with ⟨_, x⟩ | ⟨x1, x2, l, x3, x4, x5⟩
    · exact absurd x n5
    have hv : v5.toNat = l := by omega
    rw [hv] at y5 e5
    have h40' := b3.2.2.1
    have hT0 := (b1.congr (X' := XP M4 p) (dB.congr _)).1
    have f5 : ∀ g x, ¬ (g = 6 ∧ x = l) → (XP M5 p).1 g x = (XP M4 p).1 g x := fun g x hx => by rw [e5]; exact XP_w (f := 6) hx
    have c5 : ∀ k, (XP M5 p).2.1 k = (XP M4 p).2.1 k ∧ (XP M5 p).2.2 k = (XP M4 p).2.2 k := fun k => by rw [e5]; exact XP_wc (f := 6) (by decide)
    have e6 : (XP M5 p).1 6 l = z := by rw [e5]; exact XP_wa (f := 6) (by decide) (inr_z (by omega) (by omega))
    have hT : dT κ ν (XP M5 p) (dB κ ν (XP M5 p) (8 - d.toNat)) par part d j s1 c1 j2 s2 c2 u2 := (b1.congr (dB.congr _)).2 (fun g x hx _ _ => f5 g x (by omega)) (fun k _ _ => c5 k)
    have sn := dSl.snoc (X := XP N p) (X' := XP M5 p) (dB.congr (8 - d.toNat)) (dB.congr _) (last := v5) ((f5 6 s1 (by omega)).trans b2) n i s cc j v4 u a2 n5 (fun g x _ hx hn => (f5 g x (fun w => hn ⟨w.1, by omega⟩)).trans (b4.fd hx)) (fun k _ hk => ⟨((c5 k).1).trans (b4.c hk).1, ((c5 k).2).trans (b4.c hk).2⟩) (by rw [hv, e6]; exact ez) hT
    refine ⟨hf0, i, s, cc, un, n + 1, j2, s2, c2, u + u2, a1, by rw [ez]; exact sn, ?_, ?_⟩
    · rw [← Nat.add_assoc]
      exact ⟨⟨(y5.i (by omega)).trans b3.1.1, b3.1.2.1, (y5.i (by omega)).trans b3.1.2.2.1, (y5.i (by omega)).trans b3.1.2.2.2.1, b3.1.2.2.2.2⟩, (y5.i (by omega)).trans b3.2.1, b3.2.2.1, b3.2.2.2⟩
    · have k5 : kep p M4 M5 s c1 := ⟨fun f x h9 hx => y5.i (by omega), fun k _ => ⟨y5.i (by omega), y5.i (by omega)⟩⟩
      exact (a4.trans b4 r1 r2).trans k5 (Nat.le_refl _) r2
theorem x_body (hL : L ≤ 800) (hκ : κ L = 0) (hi : ∀ k, inr (κ k) ∧ inr (ν k)) (hν : ∀ k, κ k = 1 → 0 ≤ ν k) (hp : p ∈ k1) (io : inr o) (h : Bsp κ ν L p o part d M K) : em_Q_body (Esp κ ν L p) (Bsp κ ν L p) o part d M K := by
  obtain ⟨hd, ⟨ho, hpart⟩, ⟨hM, tM, h4, hpt⟩, kk⟩ := h
  have hk : 25 ≤ p ∧ p ≤ 157 := by have := k1_or hp; omega
  have at' : gi M 169 3 = -1 → ∃ i, gi M 169 2 = ((i : Nat) : Int) ∧ i ≤ L := fun q => by
    obtain ⟨i, s, cc, un, a⟩ := hpt q
    exact ⟨i, a.1.1, a.1.2.1⟩
  have no : e_Q_body_15 (Esp κ ν L p) (Bsp κ ν L p) M K := x_Qref tM at' (fun M' y q => kk (-1) M' ir_1 ⟨y.mono (fun b k w => by unfold stF; omega), (y.i (by omega)).trans h4, fun w => absurd w q⟩)
  refine x_Qat tM at' (fun hf i hat hil e => ⟨fun q => absurd q (by decide), fun _ => ⟨fun h8 => ?_, fun _ => no⟩⟩) (fun _ => ⟨fun _ => no, fun q => absurd rfl q⟩)
  obtain ⟨i0, s, cc, un, a⟩ := hpt hf
  obtain rfl : i0 = i := by have := a.1.1; omega
  have hlt : i0 < L := by
    rcases Nat.lt_or_ge i0 L with q | q
    · exact q
    · rw [show i0 = L by omega, hκ] at e; omega
  refine x_Qadv tM hat hlt hL (fun M2 y2 e2 => ?_)
  have ip2 := isPk (M := M2) (a := 169) (k := 1) (by rw [y2.2]; exact hM) hp
  refine ⟨ip2.1, ip2.1, inr_z (by omega) (by omega), fun M3 e3 => ⟨inr_z (by omega) (by omega), ?_⟩⟩
  rw [ip2.2] at e3
  have y3 : eqy (fun b k => b = p ∧ k = 2) M2 M3 := by rw [e3]; exact (eqy.rfl' _).wi ⟨rfl, rfl⟩
  have a3 : ptt p L M3 (i0 + 1) s cc un := ⟨⟨(y3.i (by omega)).trans e2, by omega, (y3.i (by omega)).trans ((y2.i (by omega)).trans a.1.2.2.1), (y3.i (by omega)).trans ((y2.i (by omega)).trans a.1.2.2.2.1), a.1.2.2.2.2⟩, (y3.i (by omega)).trans ((y2.i (by omega)).trans a.2.1), a.2.2.1, a.2.2.2⟩
  have y23 : eqy (stF p) M M3 := (y2.mono (fun b k w => by unfold stF; omega)).trans (y3.mono (fun b k w => by unfold stF; omega))
  have P3 : prT κ ν L p M3 := ⟨by rw [y23.2]; exact hM, tM.eq y23 (fun b k q => by unfold stF; omega), (y3.i (by omega)).trans ((y2.i (by omega)).trans h4), fun _ => ⟨_, _, _, _, a3⟩⟩
  refine x_statements hL hκ hi hν hp ⟨⟨by omega, by omega⟩, ⟨io, inr_z (by omega) (by omega)⟩, P3, fun z M4 iz y4 f4 g => ?_⟩
  have t4 : tkM κ ν L M4 := P3.2.1.eq y4 (fun b k q => by unfold stF; omega)
  have at4 : gi M4 169 3 = -1 → ∃ i, gi M4 169 2 = ((i : Nat) : Int) ∧ i ≤ L := fun q => by
    obtain ⟨_, _, _, _, _, _, j, _, _, _, _, _, b, _⟩ := g q
    exact ⟨j, b.1.1, b.1.2.1⟩
  refine x_Qexpect hL hκ (by decide) t4 at4 (fun j M5 hf4 hat4 hlt4 e125 y5 a5 => kk z M5 iz ⟨(y23.trans y4).trans (y5.mono (fun b k w => by unfold stF; omega)), (y5.i (by omega)).trans f4, fun w => ?_⟩) (fun M5 y5 b5 => kk z M5 iz ⟨(y23.trans y4).trans (y5.mono (fun b k w => by unfold stF; omega)), (y5.i (by omega)).trans f4, fun w => absurd w b5⟩)
  obtain ⟨_, i1, s1, c1, un1, n, j1, s2, c2, u, b1, b2, b3, b4⟩ := g hf4
  obtain ⟨rfl, rfl, rfl, rfl⟩ := a3.uniq b1
  obtain rfl : j1 = j := by have := b3.1.1; omega
  have k3 : kep p M M3 s cc := ((kep.rfl' p M s cc).same y2 (fun b k w1 w2 => by omega)).same y3 (fun b k w1 w2 => by omega)
  refine ⟨hf, i0, s, cc, un, j1 + 1, s2, c2, u, a, ?_, b3.mv hk (y5.mono (fun b k w => by omega)) a5 (by omega), (k3.trans b4 (Nat.le_refl _) (Nat.le_refl _)).same y5 (fun b k w1 w2 => by omega)⟩
  have h87 : 8 - d.toNat = (8 - (d + 1).toNat) + 1 := by omega
  rw [h87, XP_same y5 (fun b k w1 w2 => by omega)]
  refine ⟨e, n, j1, ?_, e125, rfl⟩
  have o1 : ((o.toNat : Nat) : Int) = o := by omega
  have o2 : (8 - (((8 - (d + 1).toNat : Nat)) : Int)) = d + 1 := by omega
  rw [o1, o2]
  exact b2
variable {fz : Bool} {S : gS} {B : rf_M}
theorem l_body (hS : rl S) (hL : L ≤ 800) (hκ : κ L = 0) (hi : ∀ k, inr (κ k) ∧ inr (ν k)) (hν : ∀ k, κ k = 1 → 0 ≤ ν k) (hp : p ∈ k1) : ∀ (n : Nat) (x0 x1 x2 : Int) (M : rf_M) (K : Int → rf_M → Prop), fl 22 353 B M → inr x0 → inr x1 → inr x2 → Bsp κ ν L p x0 x1 x2 M K → lx (cx0 fz) n 54 0 (lv_args 0 [.ref 169, zv x0, zv x1, zv x2]) [] (M, S) (vl_i 22 353 B S K) := by
  intro n
  induction n using Nat.strongRecOn with
  | _ n ih =>
    intro x0 x1 x2 M K hR i0 i1 i2 h
    exact E_Q_body_m (E := Esp κ ν L p) (Bd := Bsp κ ν L p) hS hR (fun n' _ x0 M K a b c => l_exp hS hL hκ hi hν hp n' x0 M K a b c) (fun n' hn x0 x1 x2 M K a b c d e => ih n' hn x0 x1 x2 M K a b c d e) i0 i1 i2 (x_body hL hκ hi hν hp i0 h)
theorem l_statements (hS : rl S) (hL : L ≤ 800) (hκ : κ L = 0) (hi : ∀ k, inr (κ k) ∧ inr (ν k)) (hν : ∀ k, κ k = 1 → 0 ≤ ν k) (hp : p ∈ k1) (n : Nat) (x0 x1 x2 : Int) (M : rf_M) (K : Int → rf_M → Prop) (hR : fl 22 353 B M) (i0 : inr x0) (i1 : inr x1) (i2 : inr x2) (h : Ssp κ ν L p x0 x1 x2 M K) : lx (cx0 fz) n 35 0 (lv_args 0 [.ref 169, zv x0, zv x1, zv x2]) [] (M, S) (vl_i 22 353 B S K) :=
  E_Q_statements_m (E := Esp κ ν L p) (Bd := Bsp κ ν L p) hS hR (fun n' _ x0 M K a b c => l_exp hS hL hκ hi hν hp n' x0 M K a b c) (fun n' _ x0 x1 x2 M K a b c d e => l_body hS hL hκ hi hν hp n' x0 x1 x2 M K a b c d e) i0 i1 i2 (x_statements hL hκ hi hν hp h)
end PSS
