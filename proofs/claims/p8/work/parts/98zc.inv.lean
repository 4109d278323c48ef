/-! what always holds of the pure picture -/
def cli (Ts : tsT) (c0 : Nat) (w : wdT) (R : Nat) (cl : clT) : Prop :=
  (cl.1.length ≤ 16 ∧ ∀ t ∈ cl.1, t < c0) ∧ (0 ≤ cl.2.1 ∧ cl.2.1 ≤ (R : Int)) ∧ (cl.2.2.1 = true → 4 ≤ cl.2.1) ∧ (cl.1.length = 0 → cl.2.2.2.1 = 0) ∧ cl.2.2.2.1 ≤ 2 ∧
  (cl.2.2.2.1 = 1 → (1 ≤ cl.2.2.2.2.1 ∧ cl.2.2.2.2.1 ≤ 300) ∧ wkd (Ts (cl.1.headD 0)).1 (run0 (Ts (cl.1.headD 0)).2.2.2) cl.2.2.2.2.1 cl.2.2.2.2.2.1 cl.2.2.2.2.2.2 ∧ gvl (Ts (cl.1.headD 0)).1 (Ts (cl.1.headD 0)).2.1 cl.2.2.2.2.1 cl.2.2.2.2.2.1 ∧ (stale w cl.2.2.2.2.2.2 = true → cl.2.1 < (R : Int))) ∧
  (cl.2.2.2.1 ≠ 0 → ∀ l, l < 16 → bt cl.2.2.2.2.2.2.1 l = true → (cl.2.2.2.2.2.2.2.2 l).toInt ≤ (w.2 l).toInt)
def SI (Ts : tsT) (c0 : Nat) (S : syT) : Prop := (c0 ≤ 12 ∧ ∀ t, t < c0 → wfx (Ts t).1 (Ts t).2.1 (Ts t).2.2.1 (Ts t).2.2.2) ∧ (S.2.1.length ≤ 32 ∧ ∀ q ∈ S.2.1, q.1 < c0 ∧ vld (Ts q.1).1 (Ts q.1).2.1 q.2) ∧ S.2.2.2.length ≤ 300 ∧ (∀ l, l < 16 → 0 ≤ (S.1.2 l).toInt ∧ (S.1.2 l).toInt ≤ (S.2.2.2.length : Int)) ∧ ∀ c, c < 8 → cli Ts c0 S.1 S.2.2.2.length (S.2.2.1 c)
theorem stale_rd0 (w : wdT) : stale w rd0 = false := by
  unfold stale
  rw [List.any_eq_false]
  intro l _
  rw [show bt rd0.1 l = false from bt_0 l]
  simp
section SIv
variable {Ts : tsT} {c0 c R : Nat} {S : syT} {w w' : wdT} {cl : clT}
theorem cli_up {R' : Nat} (h : cli Ts c0 w R cl) (hw : ∀ l, l < 16 → (w.2 l).toInt ≤ (w'.2 l).toInt) (hR : R < R') : cli Ts c0 w' R' cl := by
  obtain ⟨h1, h2, h3, h4, h5, h6, h7⟩ := h
  exact ⟨h1, ⟨h2.1, by omega⟩, h3, h4, h5, fun q => ⟨(h6 q).1, (h6 q).2.1, (h6 q).2.2.1, fun _ => by omega⟩, fun q l hl b => Int.le_trans (h7 q l hl b) (hw l hl)⟩
theorem cli_ovr (h : cli Ts c0 w R cl) : cli Ts c0 w' R (ovr cl) := by
  obtain ⟨h1, h2, h3, h4, h5, h6, h7⟩ := h
  refine ⟨⟨?_, fun t ht => h1.2 t (List.mem_of_mem_tail ht)⟩, ⟨by show (0 : Int) ≤ 0; omega, by show (0 : Int) ≤ (R : Int); omega⟩, fun (q : false = true) => absurd q (by decide), fun _ => rfl, by show 0 ≤ 2; omega, fun (q : (0 : Nat) = 1) => absurd q (by decide), fun (q : (0 : Nat) ≠ 0) => absurd rfl q⟩
  show cl.1.tail.length ≤ 16
  have := h1.1
  simp
  omega
theorem SI_setc {x : clT} (h : SI Ts c0 S) (hx : cli Ts c0 S.1 S.2.2.2.length x) : SI Ts c0 (setc S c x) := by
  obtain ⟨h1, h2, h3, h4, h5⟩ := h
  refine ⟨h1, h2, h3, h4, fun k hk => ?_⟩
  show cli Ts c0 S.1 S.2.2.2.length (va_up S.2.2.1 c x k)
  by_cases e : k = c
  · rw [e, va_up_at]; exact hx
  · rw [va_up_of e]; exact h5 k hk
/-- where a turn begins -/
theorem beg_ok (h : SI Ts c0 S) (hc : c < 8) (hq : (S.2.2.1 c).1.length ≠ 0) : (S.2.2.1 c).1.headD 0 < c0 ∧ (beg Ts (S.2.2.1 c)).1 ≤ 300 ∧ wkd (Ts ((S.2.2.1 c).1.headD 0)).1 (run0 (Ts ((S.2.2.1 c).1.headD 0)).2.2.2) (beg Ts (S.2.2.1 c)).1 (beg Ts (S.2.2.1 c)).2.1 (beg Ts (S.2.2.1 c)).2.2 ∧ gvl (Ts ((S.2.2.1 c).1.headD 0)).1 (Ts ((S.2.2.1 c).1.headD 0)).2.1 (beg Ts (S.2.2.1 c)).1 (beg Ts (S.2.2.1 c)).2.1 ∧ (stale S.1 (beg Ts (S.2.2.1 c)).2.2 = true → (S.2.2.1 c).2.1 < (S.2.2.2.length : Int)) ∧ ∀ l, l < 16 → bt (beg Ts (S.2.2.1 c)).2.2.1 l = true → ((beg Ts (S.2.2.1 c)).2.2.2.2 l).toInt ≤ (S.1.2 l).toInt := by
  obtain ⟨h1, h2, h3, h4, h5⟩ := h
  obtain ⟨g1, g2, g3, g4, g5, g6, g7⟩ := h5 c hc
  have ht : (S.2.2.1 c).1.headD 0 < c0 := by
    cases hl : (S.2.2.1 c).1 with
    | nil => rw [hl] at hq; exact absurd rfl hq
    | cons t q => exact g1.2 t (by rw [hl]; simp)
  refine ⟨ht, ?_⟩
  unfold beg
  split
  · rename_i q
    exact ⟨(g6 q).1.2, (g6 q).2.1, (g6 q).2.2.1, (g6 q).2.2.2, g7 (by rw [q]; decide)⟩
  · refine ⟨by show 0 ≤ 300; omega, wkd_0 _ _ _, gvl_0 (h1.2 _ ht), fun q => ?_, fun l hl b => ?_⟩
    · rw [show stale S.1 rd0 = false from stale_rd0 _] at q; cases q
    · rw [show bt rd0.1 l = false from bt_0 l] at b; cases b
theorem out_ok (h : SI Ts c0 S) (hc : c < 8) (hq : (S.2.2.1 c).1.length ≠ 0) : gvl (Ts ((S.2.2.1 c).1.headD 0)).1 (Ts ((S.2.2.1 c).1.headD 0)).2.1 ((beg Ts (S.2.2.1 c)).1 + 1) (out Ts S (S.2.2.1 c)).2.1 ∧ stale S.1 (out Ts S (S.2.2.1 c)).2.2 = stale S.1 (beg Ts (S.2.2.1 c)).2.2 ∧ ((out Ts S (S.2.2.1 c)).1.1 = 3 → stale S.1 (out Ts S (S.2.2.1 c)).2.2 = true) ∧ (∀ l, l < 16 → bt (out Ts S (S.2.2.1 c)).2.2.1 l = true → ((out Ts S (S.2.2.1 c)).2.2.2.2 l).toInt ≤ (S.1.2 l).toInt) ∧ ((out Ts S (S.2.2.1 c)).1.1 = 0 → (beg Ts (S.2.2.1 c)).1 < 300 ∧ wkd (Ts ((S.2.2.1 c).1.headD 0)).1 (run0 (Ts ((S.2.2.1 c).1.headD 0)).2.2.2) ((beg Ts (S.2.2.1 c)).1 + 1) (out Ts S (S.2.2.1 c)).2.1 (out Ts S (S.2.2.1 c)).2.2) := by
  obtain ⟨b1, b2, b3, b4, b5, b6⟩ := beg_ok h hc hq
  have hX := h.1.2 _ b1
  unfold out
  generalize beg Ts (S.2.2.1 c) = B at b2 b3 b4 b5 b6
  split
  · exact ⟨gvl_up b4 (Nat.le_succ _), rfl, fun (q : (2 : Nat) = 3) => absurd q (by decide), b6, fun (q : (2 : Nat) = 0) => absurd q (by decide)⟩
  · rename_i hk
    have rn := stepp_rnq (Ts ((S.2.2.1 c).1.headD 0)).1 S.1 B.2.1 B.2.2
    have mo := stepp_mono (Ts ((S.2.2.1 c).1.headD 0)).1 S.1 B.2.1 B.2.2
    refine ⟨gvl_step hX b4, stale_rnq rn.1 mo, rn.2, fun l hl b => ?_, fun q => ⟨by omega, wkd_s b3 q⟩⟩
    rcases rn.1 l hl b with ⟨a1, a2, a3⟩ | ⟨a2, a3⟩
    · rw [a3]; exact b6 l hl a1
    · rw [a3]; exact Int.le_refl _
theorem brg_le {m : mkT} {R : Nat} (h4 : ∀ l, l < 16 → 0 ≤ (w.2 l).toInt ∧ (w.2 l).toInt ≤ (R : Int)) (hR : R ≤ 300) : ∀ l, l < 16 → (w.2 l).toInt ≤ ((brg w m).2 l).toInt ∧ 0 ≤ ((brg w m).2 l).toInt ∧ ((brg w m).2 l).toInt ≤ (R : Int) + 1 := fun l hl => by
  have := h4 l hl
  show _ ≤ (if bt m.1 l = true then Int32.ofInt ((w.2 l).toInt + 1) else w.2 l).toInt ∧ 0 ≤ (if bt m.1 l = true then Int32.ofInt ((w.2 l).toInt + 1) else w.2 l).toInt ∧ (if bt m.1 l = true then Int32.ofInt ((w.2 l).toInt + 1) else w.2 l).toInt ≤ _
  split
  · rw [ti_ofi (inr_z (by omega) (by omega))]
    omega
  · omega
/-- a turn keeps it -/
theorem SI_trn (h : SI Ts c0 S) (hc : c < 8) : SI Ts c0 (trn Ts S c).2 := by
  unfold trn
  split
  · exact h
  rename_i hq
  split
  · exact h
  obtain ⟨b1, b2, b3, b4, b5, b6⟩ := beg_ok h hc hq
  obtain ⟨o1, o2, o3, o4, o5⟩ := out_ok h hc hq
  have hcl := h.2.2.2.2 c hc
  have hX := h.1.2 _ b1
  generalize hcl' : S.2.2.1 c = cl at *
  generalize out Ts S cl = o at *
  obtain ⟨g1, g2, g3, g4, g5, g6, g7⟩ := hcl
  unfold trn2
  split
  · rename_i z
    exact SI_setc h ⟨g1, g2, g3, fun q => absurd q hq, by show 1 ≤ 2; omega, fun _ => ⟨⟨by show 1 ≤ (beg Ts cl).1 + 1; omega, by have := (o5 z).1; show (beg Ts cl).1 + 1 ≤ 300; omega⟩, (o5 z).2, o1, fun q => b5 (by rw [← o2]; exact q)⟩, fun _ => o4⟩
  split
  · rename_i z
    have hlt := b5 (by rw [← o2]; exact z)
    exact SI_setc h ⟨g1, ⟨by show 0 ≤ cl.2.1 + 1; omega, by show cl.2.1 + 1 ≤ _; omega⟩, fun q => by simpa using q, fun q => rfl, by show 0 ≤ 2; omega, fun (q : (0 : Nat) = 1) => absurd q (by decide), fun (q : (0 : Nat) ≠ 0) => absurd rfl q⟩
  split
  · exact SI_setc h ⟨g1, g2, fun (q : false = true) => absurd q (by decide), fun q => absurd q hq, by show 2 ≤ 2; omega, fun (q : (2 : Nat) = 1) => absurd q (by decide), fun _ => o4⟩
  split
  · exact h
  split
  · exact h
  rename_i hrows
  have hrl : S.2.2.2.length < 300 := by omega
  split
  · rename_i z
    have hwl := z.2
    unfold wel at hwl
    rw [Bool.and_eq_true, decide_eq_true_eq] at hwl
    have bl := brg_le (m := o.2.1.2.1) h.2.2.2.1 h.2.2.1
    have hlen : (nru (cl.1.headD 0) o.2.1).length = o.2.1.2.1.2.2.2.toNat := by unfold nru; simp
    refine ⟨h.1, ⟨by show (S.2.1 ++ nru (cl.1.headD 0) o.2.1).length ≤ 32; rw [List.length_append, hlen]; exact hwl.2, fun q hqm => ?_⟩, by show (S.2.2.2 ++ [_]).length ≤ 300; simp; omega, fun l hl => ?_, fun k hk => ?_⟩
    · rcases List.mem_append.mp hqm with hqm | hqm
      · exact h.2.1.2 q hqm
      · unfold nru at hqm
        rw [List.mem_map] at hqm
        obtain ⟨j, hj, e⟩ := hqm
        rw [List.mem_range] at hj
        rw [← e]
        obtain ⟨p1, hw, _, p2, p3, p4⟩ := o1
        exact ⟨b1, p3 j (by omega)⟩
    · have := bl l hl
      refine ⟨this.2.1, ?_⟩
      show _ ≤ ((S.2.2.2 ++ [_]).length : Int)
      simp
      exact this.2.2
    · show cli Ts c0 (brg S.1 o.2.1.2.1) (S.2.2.2 ++ [_]).length (va_up S.2.2.1 c (ovr cl) k)
      by_cases e : k = c
      · rw [e, va_up_at]
        exact cli_ovr (cli_up (R' := (S.2.2.2 ++ [_]).length) (w' := S.1) ⟨g1, g2, g3, g4, g5, g6, g7⟩ (fun l _ => Int.le_refl _) (by simp))
      · rw [va_up_of e]
        exact cli_up (h.2.2.2.2 k hk) (fun l hl => (bl l hl).1) (by simp)
  · refine ⟨h.1, h.2.1, by show (S.2.2.2 ++ [_]).length ≤ 300; simp; omega, fun l hl => ?_, fun k hk => ?_⟩
    · have := h.2.2.2.1 l hl
      refine ⟨this.1, ?_⟩
      show _ ≤ ((S.2.2.2 ++ [_]).length : Int)
      simp
      exact Int.le_trans this.2 (by omega)
    · show cli Ts c0 S.1 (S.2.2.2 ++ [_]).length (va_up S.2.2.1 c (ovr cl) k)
      by_cases e : k = c
      · rw [e, va_up_at]
        exact cli_ovr (cli_up (R' := (S.2.2.2 ++ [_]).length) (w' := S.1) ⟨g1, g2, g3, g4, g5, g6, g7⟩ (fun l _ => Int.le_refl _) (by simp))
      · rw [va_up_of e]
        exact cli_up (h.2.2.2.2 k hk) (fun l _ => Int.le_refl _) (by simp)
end SIv
