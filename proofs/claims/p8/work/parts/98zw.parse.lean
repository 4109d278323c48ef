/-! the program's parse says what the grammar says -/
/-- what ends with Q in one run, ends with Q in every run -/
theorem lx_gx {cx : rf_C} {d : Nat × Nat} {i pc : Nat} {ls : rf_L} {st : List Value} {h : rf_H} {Q : Option Value → rf_H → Prop} (k : gx cx d i pc ls st h Q) (n : Nat) : lx cx n i pc ls st h Q := fun m hm d' r h' he => by
  obtain ⟨m1, r1, h1, e1, q⟩ := k
  have a := rf_ev_mono cx _ _ _ _ _ _ _ _ (rf_ev_room cx _ d (max d.1 d'.1, max d.2 d'.2) _ _ _ _ _ _ (Nat.le_max_left _ _) (Nat.le_max_left _ _) e1) (max m1 m) (Nat.le_max_left _ _)
  have b := rf_ev_mono cx _ _ _ _ _ _ _ _ (rf_ev_room cx _ d' (max d.1 d'.1, max d.2 d'.2) _ _ _ _ _ _ (Nat.le_max_right _ _) (Nat.le_max_right _ _) he) (max m1 m) (Nat.le_max_right _ _)
  rw [a] at b
  injection b with b
  injection b with b1 b2
  subst b1; subst b2
  exact q
theorem rfF_C : ∀ q ∈ rfF, q.1 = 170 → q.2.1 ≠ 4 := by decide +kernel
theorem fl.sc {B M M' : rf_M} {q0 : Nat} (h : fl 22 353 B M) (f : sc_fr M M' q0) : fl 22 353 B M' := by
  have h' : fl 22 353 B (wq M 170 4 23) := h.wq' (by omega) (by omega) (fun q hq => by
    by_cases e : q.1 = 170
    · exact Or.inr (rfF_C q hq e)
    · exact Or.inl e)
  exact ⟨fun a k w => ⟨(f.1 a k (by omega) (by omega)).trans (h.1 a k w).1, by rw [f.2.1]; exact (h.1 a k w).2.1, by rw [f.2.2]; exact (h'.1 a k w).2.2⟩, fun q hq => by rw [f.2.2]; exact h'.2 q hq⟩
def Scsp (fz : Bool) (S : gS) (x0 : Nat) (x1 : Int) (M : rf_M) (K : rf_M → Prop) : Prop := x0 = 23 ∧ sc_S fz S ∧ sc_M fz S (rf_wq M 170 4 (some 23)) ∧ ∃ n : Nat, x1 = (n : Int) ∧ n ≤ 800 ∧ ∀ M', sc_done fz S M n (p_T (M.1 23) n) M' → K M'
theorem l_scan {fz : Bool} {S : gS} {B M : rf_M} {x0 : Nat} {x1 : Int} {K : rf_M → Prop} (hR : fl 22 353 B M) (h : Scsp fz S x0 x1 M K) (n0 : Nat) : lx (cx0 fz) n0 19 0 (lv_args 0 [.ref 170, .ref x0, zv x1]) [] (M, S) (vl_v 22 353 B S K) := by
  obtain ⟨rfl, hS, hM, n, rfl, hn, kk⟩ := h
  have e : zv (n : Int) = .int (nI n) := by rw [ni_of (by omega)]
  rw [e]
  refine lx_mono (lx_gx (sc_scan hS hM hn) n0) (fun r h' q => ?_)
  obtain ⟨q1, M', q2, q3⟩ := q
  exact ⟨M', q1, q2, hR.sc q3.2.2.2.2.2.2.2.1, kk M' q3⟩
def κT (T : tK) (k : Nat) : Int := (kd T k).toInt
def νT (T : tK) (k : Nat) : Int := (nb T k).toInt
theorem κT_L (T : tK) : κT T T.length = 0 := by
  unfold κT
  rw [(kd_end T).1]
  rfl
theorem κT_i (T : tK) : ∀ k, inr (κT T k) ∧ inr (νT T k) := fun k => ⟨inr_ti _, inr_ti _⟩
theorem κT_let {b : Nat → Int32} {n : Nat} : ∀ k, κT (p_T b n) k = 1 → 0 ≤ νT (p_T b n) k := fun k h => by
  unfold κT at h
  unfold νT
  cases he : (p_T b n)[k]? with
  | none =>
    have h0 : kd (p_T b n) k = 0 := by unfold kd; rw [he]
    rw [h0] at h
    exact absurd h (by decide)
  | some e =>
    obtain ⟨k1, k2⟩ := kd_of he
    rw [k1] at h
    rw [k2]
    exact sp_scan_let 800 0 e (List.mem_of_getElem? he) h
/-- what parse comes to -/
def prsx (p : Nat) (T : tK) (M : rf_M) (z : Int) (M' : rf_M) : Prop := ((∀ a k, ¬ (p ≤ a ∧ a ≤ p + 11) → ¬ (169 ≤ a ∧ a ≤ 173) → M'.1 a k = M.1 a k ∧ M'.2.1 a k = M.2.1 a k) ∧ ∀ a k, ¬ (a = 169 ∧ k = 1) → ¬ (a = 170 ∧ k = 4) → M'.2.2 a k = M.2.2 a k) ∧ (z = -1 → ∃ n j s c u first, dSs (κT T) (νT T) (XP M' p) (dB (κT T) (νT T) (XP M' p) 8) (-1) 0 0 n 0 0 0 j s c first u ∧ κT T j = 0 ∧ gi M' p 0 = (s : Int) ∧ gi M' p 3 = (c : Int) ∧ gi M' p 4 = first ∧ s ≤ 40 ∧ c ≤ 2 * u ∧ u ≤ 60)
section PRS
variable {fz : Bool} {S : gS} {p n : Nat} {M : rf_M} {T : tK} {K : Int → rf_M → Prop}
theorem x_parse (hp : p ∈ k1) (hn : n ≤ 800) (hSS : sc_S fz S) (hM : sc_M fz S (rf_wq M 170 4 (some 23))) (hT : p_T (M.1 23) n = T) (kk : ∀ z M', prsx p T M z M' → K z M') : em_Q_parse (Scsp fz S) (Ssp (κT T) (νT T) T.length p) 23 (n : Int) p M K := by
  have hk : 25 ≤ p ∧ p ≤ 157 := by have := k1_or hp; omega
  intro M1 e1
  have r1 : M1.2.2 169 1 = some p := by rw [e1]; exact rf_wq_at _ _ _ _
  have ip1 := isPk r1 hp
  refine ⟨ip1.1, ?_⟩
  rw [ip1.2]
  intro Ma ea Mb eb Mc ec Md ed Me ee M3 e3 M4 e4 M5 e5
  have y5 : eqy (fun b k => (b = p ∧ k ≤ 4) ∨ (b = 169 ∧ (k = 2 ∨ k = 3 ∨ k = 4))) M1 M5 := by
    rw [e5, e4, e3, ee, ed, ec, eb, ea]
    exact ((((((((eqy.rfl' M1).wi (by omega)).wi (by omega)).wi (by omega)).wi (by omega)).wi (by omega)).wi (by omega)).wi (by omega)).wi (by omega)
  have a0 : gi M5 p 0 = 0 := by rw [e5, gi_of (Or.inl (by omega)), e4, gi_of (Or.inl (by omega)), e3, gi_of (Or.inl (by omega)), ee, gi_of (Or.inr (by omega)), ed, gi_of (Or.inr (by omega)), ec, gi_of (Or.inr (by omega)), eb, gi_of (Or.inr (by omega)), ea, gi_at ir_0]
  have a1 : gi M5 p 1 = 0 := by rw [e5, gi_of (Or.inl (by omega)), e4, gi_of (Or.inl (by omega)), e3, gi_of (Or.inl (by omega)), ee, gi_of (Or.inr (by omega)), ed, gi_of (Or.inr (by omega)), ec, gi_of (Or.inr (by omega)), eb, gi_at ir_0]
  have a3 : gi M5 p 3 = 0 := by rw [e5, gi_of (Or.inl (by omega)), e4, gi_of (Or.inl (by omega)), e3, gi_of (Or.inl (by omega)), ee, gi_of (Or.inr (by omega)), ed, gi_at ir_0]
  have b2 : gi M5 169 2 = 0 := by rw [e5, gi_of (Or.inr (by omega)), e4, gi_of (Or.inr (by omega)), e3, gi_at ir_0]
  have b4 : gi M5 169 4 = 0 := by rw [e5, gi_at ir_0]
  have f5 : ∀ a k, ¬ (p ≤ a ∧ a ≤ p + 11) → ¬ (169 ≤ a ∧ a ≤ 173) → M5.1 a k = M.1 a k ∧ M5.2.1 a k = M.2.1 a k := fun a k w1 w2 => by
    have := y5.1 a k (by omega)
    rw [e1] at this
    exact this
  have g5 : ∀ a k, ¬ (a = 169 ∧ k = 1) → M5.2.2 a k = M.2.2 a k := fun a k w => by
    rw [y5.2, e1]
    exact rf_wq_of M (some p) (by omega)
  have sc5 : sc_M fz S (rf_wq M5 170 4 (some 23)) := by
    have e1' : ∀ c k, c < 22 → (rf_wq M5 170 4 (some 23)).1 c k = (rf_wq M 170 4 (some 23)).1 c k := fun c k hc => (f5 c k (by omega) (by omega)).1
    have e2' : ∀ c k, ¬ (c = 169 ∧ k = 1) → (rf_wq M5 170 4 (some 23)).2.2 c k = (rf_wq M 170 4 (some 23)).2.2 c k := fun c k hck => by
      by_cases h4 : c = 170 ∧ k = 4
      · obtain ⟨rfl, rfl⟩ := h4
        rw [rf_wq_at, rf_wq_at]
      · rw [rf_wq_of _ _ (by omega), rf_wq_of _ _ (by omega)]
        exact g5 c k hck
    obtain ⟨⟨m1, m2, m3, m4⟩, w1, w2, w3, w4, w5, w6, w7, w8, w9, w10⟩ := hM
    exact ⟨⟨(e2' _ _ (by omega)).trans m1, (e2' _ _ (by omega)).trans m2, (e2' _ _ (by omega)).trans m3, (e2' _ _ (by omega)).trans m4⟩, sc_w_of e1' (e2' _ _ (by omega)) ⟨by omega, by omega⟩ w1, sc_w_of e1' (e2' _ _ (by omega)) ⟨by omega, by omega⟩ w2, sc_w_of e1' (e2' _ _ (by omega)) ⟨by omega, by omega⟩ w3, sc_w_of e1' (e2' _ _ (by omega)) ⟨by omega, by omega⟩ w4, sc_w_of e1' (e2' _ _ (by omega)) ⟨by omega, by omega⟩ w5, sc_w_of e1' (e2' _ _ (by omega)) ⟨by omega, by omega⟩ w6, sc_w_of e1' (e2' _ _ (by omega)) ⟨by omega, by omega⟩ w7, sc_w_of e1' (e2' _ _ (by omega)) ⟨by omega, by omega⟩ w8, sc_w_of e1' (e2' _ _ (by omega)) ⟨by omega, by omega⟩ w9, sc_w_of e1' (e2' _ _ (by omega)) ⟨by omega, by omega⟩ w10⟩
  have etape : M5.1 23 = M.1 23 := funext fun k => (f5 23 k (by omega) (by omega)).1
  refine ⟨rfl, hSS, sc5, n, rfl, hn, fun M6 hd => ?_⟩
  rw [etape, hT] at hd
  have hst0 : ∀ e ∈ T, e.2.1 < n := fun e he => by
    rw [← hT] at he
    exact (sp_scan_b 800 0 e he).2.1
  have hκ := κT_L T
  have hi := κT_i T
  obtain ⟨d1, d2, d3, d4, d5, d6, d7, ⟨d8, d9, d10⟩, -, -⟩ := hd
  have r6 : M6.2.2 169 1 = some p := by
    rw [d10, rf_wq_of _ _ (Or.inl (by omega)), y5.2]
    exact r1
  have ip6 := isPk r6 hp
  have i6 : ∀ a k, ¬ (170 ≤ a ∧ a ≤ 173) → gi M6 a k = gi M5 a k := fun a k w => congrArg Int32.toInt (d8 a k (by omega) (by omega))
  have tk6 : tkM (κT T) (νT T) T.length M6 := by
    refine ⟨?_, fun k hk' => ?_⟩
    · show (M6.1 170 3).toInt = _
      rw [d2, nI_int (by omega)]
    · by_cases hk2 : k = T.length
      · subst hk2
        refine ⟨?_, ?_, ?_⟩
        · show (M6.1 171 _).toInt = (kd T _).toInt
          rw [d5, (kd_end T).1]
        · show (M6.1 173 _).toInt = (nb T _).toInt
          rw [d7, (kd_end T).2]
        · show 0 ≤ (M6.1 172 _).toInt
          rw [d6, nI_int (by omega)]
          omega
      · have hk3 : k < T.length := by omega
        have he := List.getElem?_eq_getElem hk3
        obtain ⟨x1, x2, x3⟩ := d4 k _ he
        obtain ⟨k1, k2⟩ := kd_of he
        refine ⟨?_, ?_, ?_⟩
        · show (M6.1 171 _).toInt = (kd T _).toInt
          rw [x1, k1]
        · show (M6.1 173 _).toInt = (nb T _).toInt
          rw [x3, k2]
        · show 0 ≤ (M6.1 172 _).toInt
          have := hst0 _ (List.getElem_mem hk3)
          rw [x2, nI_int (by omega)]
          omega
  have pt6 : ptt p T.length M6 0 0 0 0 := ⟨⟨(i6 _ _ (by omega)).trans b2, by omega, (i6 _ _ (by omega)).trans a3, (i6 _ _ (by omega)).trans a1, by omega⟩, (i6 _ _ (by omega)).trans a0, by omega, by omega⟩
  have f6 : (∀ a k, ¬ (p ≤ a ∧ a ≤ p + 11) → ¬ (169 ≤ a ∧ a ≤ 173) → M6.1 a k = M.1 a k ∧ M6.2.1 a k = M.2.1 a k) ∧ ∀ a k, ¬ (a = 169 ∧ k = 1) → ¬ (a = 170 ∧ k = 4) → M6.2.2 a k = M.2.2 a k := by
    refine ⟨fun a k w1 w2 => ⟨(d8 a k (by omega) (by omega)).trans (f5 a k w1 w2).1, by rw [d9]; exact (f5 a k w1 w2).2⟩, fun a k w1 w2 => ?_⟩
    rw [d10, rf_wq_of _ _ (by omega)]
    exact g5 a k w1
  refine ⟨ip6.1, ⟨by omega, by omega⟩, ⟨ir_1, ir_0⟩, ⟨r6, tk6, (i6 _ _ (by omega)).trans b4, fun _ => ⟨0, 0, 0, 0, pt6⟩⟩, fun z7 M7 iz y7 f7 g M8 e8 => ?_⟩
  rw [ip6.2] at e8
  have y8 : eqy (fun b k => b = p ∧ k = 4) M7 M8 := by rw [e8]; exact (eqy.rfl' _).wi ⟨rfl, rfl⟩
  have t8 : tkM (κT T) (νT T) T.length M8 := (tk6.eq y7 (fun b k q => by unfold stF; omega)).eq y8 (fun b k q => by omega)
  have at8 : gi M8 169 3 = -1 → ∃ i, gi M8 169 2 = ((i : Nat) : Int) ∧ i ≤ T.length := fun q => by
    obtain ⟨_, _, _, _, _, _, j, _, _, _, _, _, b, _⟩ := g (by rw [← y8.i (by omega)]; exact q)
    exact ⟨j, (y8.i (by omega)).trans b.1.1, b.1.2.1⟩
  have fr : ∀ M9, eqy (fun b k => b = 169 ∧ (k = 2 ∨ k = 3)) M8 M9 → (∀ a k, ¬ (p ≤ a ∧ a ≤ p + 11) → ¬ (169 ≤ a ∧ a ≤ 173) → M9.1 a k = M.1 a k ∧ M9.2.1 a k = M.2.1 a k) ∧ ∀ a k, ¬ (a = 169 ∧ k = 1) → ¬ (a = 170 ∧ k = 4) → M9.2.2 a k = M.2.2 a k := fun M9 y9 => by
    refine ⟨fun a k w1 w2 => ?_, fun a k w1 w2 => ?_⟩
    · have q7 := y7.1 a k (by unfold stF; omega)
      have q8 := y8.1 a k (by omega)
      have q9 := y9.1 a k (by omega)
      have q6 := f6.1 a k w1 w2
      exact ⟨q9.1.trans (q8.1.trans (q7.1.trans q6.1)), q9.2.trans (q8.2.trans (q7.2.trans q6.2))⟩
    · rw [y9.2, y8.2, y7.2]
      exact f6.2 a k w1 w2
  refine x_Qat t8 at8 (fun hf j hat hjl e => ⟨fun q => absurd q (by decide), fun _ => x_Qadv' (fun M9 y9 => kk _ M9 ⟨fr M9 (y9.mono (fun b k w => by omega)), fun _ => ?_⟩)⟩) (fun nn => ⟨fun _ => x_Qref t8 at8 (fun M9 y9 b9 => kk _ M9 ⟨fr M9 (y9.mono (fun b k w => by omega)), fun w => absurd w b9⟩), fun q => absurd rfl q⟩)
  obtain ⟨_, i, s, cc, un, n', j', s1, c1, u, w1, w2, w3, w4⟩ := g (by rw [← y8.i (by omega)]; exact hf)
  obtain ⟨rfl, rfl, rfl, rfl⟩ := pt6.uniq w1
  obtain rfl : j' = j := by have := (y8.i (a := 169) (k := 2) (by omega)).trans w3.1.1; omega
  have x9 : XP M9 p = XP M7 p := (XP_same y9 (fun b k z1 z2 => by omega)).trans (XP_same y8 (fun b k z1 z2 => by omega))
  have h60 := w3.1.2.2.2.2
  have h2 := w3.2.2.2
  refine ⟨n', j', s1, c1, u, z7, ?_, e, (y9.i (by omega)).trans ((y8.i (by omega)).trans w3.2.1), (y9.i (by omega)).trans ((y8.i (by omega)).trans w3.1.2.2.1), (y9.i (by omega)).trans (by rw [e8]; exact gi_at iz), w3.2.2.1, by omega, by omega⟩
  rw [x9]
  exact w2
/-- a call of parse -/
theorem l_parse {B : rf_M} (hS : rl S) (hR : fl 22 353 B M) (hp : p ∈ k1) (hn : n ≤ 800) (hSS : sc_S fz S) (hM : sc_M fz S (rf_wq M 170 4 (some 23))) (kk : ∀ z M', prsx p (p_T (M.1 23) n) M z M' → K z M') (n0 : Nat) : lx (cx0 fz) n0 17 0 (lv_args 0 [.ref 169, .ref 23, zv (n : Int), .ref p]) [] (M, S) (vl_i 22 353 B S K) := by
  have hL : (p_T (M.1 23) n).length ≤ 800 := by
    obtain ⟨_, _, _, _, _, M', _, h⟩ := sc_scan (M := M) hSS hM hn
    exact h.2.2.1
  exact E_Q_parse_m (Sc := Scsp fz S) (Ss := Ssp (κT (p_T (M.1 23) n)) (νT (p_T (M.1 23) n)) (p_T (M.1 23) n).length p) hS hR (fun n' _ x0 x1 M K a b c h => l_scan a h n') (fun n' _ x0 x1 x2 M K a b c d e => l_statements hS hL (κT_L _) (κT_i _) κT_let hp n' x0 x1 x2 M K a b c d e) ⟨hSS.2.2.2.2, by omega⟩ (inr_z (by omega) (by omega)) hp (x_parse hp hn hSS hM rfl kk)
end PRS
