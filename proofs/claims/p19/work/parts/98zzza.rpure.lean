/-! REPLAYS: the rows, done one after another, come to the world that is there -/
theorem m3_ : (-3 : Int64) = Int64.ofNat 18446744073709551613 := rfl
theorem m2_ : (-2 : Int64) = Int64.ofNat 18446744073709551614 := rfl
def wput (w : wdT) (l : Nat) (v : Int64) : wdT := (va_up w.1 l v, va_up w.2 l (Int32.ofInt ((w.2 l).toInt + 1)))
/-- the end of a run in one go that has come to g, ρ behind k steps -/
def oend (X : txT) (w : wdT) (k : Nat) (g : sgT) (ρ : rdT) : (Nat × Int64) × sgT × rdT := if 300 ≤ k then ((2, -3), g, ρ) else stepp X w g ρ
/-- a row comes to the same -/
def rwk (Ts : tsT) (c0 : Nat) (w : wdT) (rs : List (Nat × Int)) (row : rwT) (w' : wdT) (rs' : List (Nat × Int)) : Prop :=
  (row.1.1 = 0 ∧ ∃ l : Nat, row.1.2.2.1 = (l : Int) ∧ l < 16 ∧ rs.all (hld Ts (va_up w.1 l row.2)) = true ∧ w' = wput w l row.2 ∧ rs' = rs) ∨
  (∃ (t k : Nat) (g : sgT) (ρ : rdT), (row.1.2.2.1 = (t : Int) ∧ t < c0 ∧ k ≤ 300 ∧ row.1.2.2.2.1 = (k : Int) + 1 ∧ wit (Ts t).1 w (run0 (Ts t).2.2.2) rd0 k = some (g, ρ)) ∧
    ((row.1.1 = 1 ∧ (oend (Ts t).1 w k g ρ).1.1 = 1 ∧ wel Ts (w, rs, fun _ => clN, []) t (oend (Ts t).1 w k g ρ).2.1 = true ∧ w' = brg w (oend (Ts t).1 w k g ρ).2.1.2.1 ∧ rs' = rs ++ nru t (oend (Ts t).1 w k g ρ).2.1) ∨
     (row.1.1 = 2 ∧ (((oend (Ts t).1 w k g ρ).1.1 = 1 ∧ ¬ wel Ts (w, rs, fun _ => clN, []) t (oend (Ts t).1 w k g ρ).2.1 = true ∧ row.2 = -2) ∨ ((oend (Ts t).1 w k g ρ).1.1 = 2 ∧ row.2 = (oend (Ts t).1 w k g ρ).1.2)) ∧ w' = w ∧ rs' = rs)))
def rfd (Ts : tsT) (c0 : Nat) : wdT → List (Nat × Int) → List rwT → wdT → List (Nat × Int) → Prop
  | w, rs, [], w', rs' => w' = w ∧ rs' = rs
  | w, rs, row :: l, w', rs' => ∃ w1 rs1, rwk Ts c0 w rs row w1 rs1 ∧ rfd Ts c0 w1 rs1 l w' rs'
def frv (w : wdT) (r : rdT) : Prop := ∀ l, l < 16 → bt r.1 l = true → r.2.2 l = w.2 l → r.2.1 l = w.1 l
/-- a cell that was read with the present version was read with the present value -/
def SV (S : syT) : Prop := ∀ c, c < 8 → (S.2.2.1 c).2.2.2.1 ≠ 0 → frv S.1 (S.2.2.1 c).2.2.2.2.2.2
section RPU
variable {Ts : tsT} {c0 c : Nat} {S : syT} {w w' w2 : wdT} {r r' : rdT} {rs2 : List (Nat × Int)} {row : rwT}
theorem rfd_snoc : ∀ (l : List rwT) (w : wdT) (rs : List (Nat × Int)) (w1 : wdT) (rs1 : List (Nat × Int)), rfd Ts c0 w rs l w1 rs1 → rwk Ts c0 w1 rs1 row w2 rs2 → rfd Ts c0 w rs (l ++ [row]) w2 rs2
  | [], w, rs, w1, rs1, h, k => by
    obtain ⟨rfl, rfl⟩ := h
    exact ⟨w2, rs2, k, rfl, rfl⟩
  | _ :: l, w, rs, w1, rs1, h, k => by
    obtain ⟨a, b, h1, h2⟩ := h
    exact ⟨a, b, h1, rfd_snoc l _ _ _ _ h2 k⟩
theorem frv_rd0 (w : wdT) : frv w rd0 := fun l _ b => by
  rw [show bt rd0.1 l = false from bt_0 l] at b
  cases b
theorem frv_rnq (h : frv w r) (rn : rnq w r r') : frv w r' := fun l hl b e => by
  rcases rn l hl b with ⟨a1, a2, a3⟩ | ⟨a2, a3⟩
  · rw [a2]
    exact h l hl a1 (a3.symm.trans e)
  · exact a2
theorem frsh_of (h : frv w r) (hs : stale w r = false) : frsh w r := fun l hl b => by
  unfold stale at hs
  have := List.any_eq_false.mp hs l (List.mem_range.mpr hl)
  rw [b, Bool.true_and, Bool.not_eq_true', decide_eq_false_iff_not, Classical.not_not] at this
  exact ⟨h l hl b this, this⟩
theorem frv_brg {m : mkT} (h : frv w r) (hle : ∀ l, l < 16 → bt r.1 l = true → (r.2.2 l).toInt ≤ (w.2 l).toInt) (h4 : ∀ l, l < 16 → 0 ≤ (w.2 l).toInt ∧ (w.2 l).toInt ≤ 300) : frv (brg w m) r := fun l hl b e => by
  have e : r.2.2 l = (if bt m.1 l = true then Int32.ofInt ((w.2 l).toInt + 1) else w.2 l) := e
  show r.2.1 l = (if bt m.1 l = true then m.2.1 l else w.1 l)
  have a := hle l hl b
  have b4 := h4 l hl
  by_cases q : bt m.1 l = true
  · rw [if_pos q] at e
    have := congrArg Int32.toInt e
    rw [ti_ofi (inr_z (by omega) (by omega))] at this
    omega
  · rw [if_neg q] at e ⊢
    exact h l hl b e
theorem frv_put {l0 : Nat} {v : Int64} (h : frv w r) (hle : ∀ l, l < 16 → bt r.1 l = true → (r.2.2 l).toInt ≤ (w.2 l).toInt) (h4 : ∀ l, l < 16 → 0 ≤ (w.2 l).toInt ∧ (w.2 l).toInt ≤ 300) : frv (wput w l0 v) r := fun l hl b e => by
  have e : r.2.2 l = va_up w.2 l0 (Int32.ofInt ((w.2 l0).toInt + 1)) l := e
  show r.2.1 l = va_up w.1 l0 v l
  have a := hle l hl b
  have b4 := h4 l hl
  by_cases q : l = l0
  · subst q
    rw [va_up_at] at e
    have := congrArg Int32.toInt e
    rw [ti_ofi (inr_z (by omega) (by omega))] at this
    omega
  · rw [va_up_of q] at e ⊢
    exact h l hl b e
/-- what a turn's run comes to, it comes to in one go -/
theorem out_one (h : SI Ts c0 S) (hv : SV S) (hc : c < 8) (hq : (S.2.2.1 c).1.length ≠ 0) (hs : stale S.1 (out Ts S (S.2.2.1 c)).2.2 = false) : frv S.1 (out Ts S (S.2.2.1 c)).2.2 ∧ ∃ ρ ρ', wit (Ts ((S.2.2.1 c).1.headD 0)).1 S.1 (run0 (Ts ((S.2.2.1 c).1.headD 0)).2.2.2) rd0 (beg Ts (S.2.2.1 c)).1 = some ((beg Ts (S.2.2.1 c)).2.1, ρ) ∧ oend (Ts ((S.2.2.1 c).1.headD 0)).1 S.1 (beg Ts (S.2.2.1 c)).1 (beg Ts (S.2.2.1 c)).2.1 ρ = ((out Ts S (S.2.2.1 c)).1, (out Ts S (S.2.2.1 c)).2.1, ρ') := by
  obtain ⟨b1, b2, b3, b4, b5, b6⟩ := beg_ok h hc hq
  have fb : frv S.1 (beg Ts (S.2.2.1 c)).2.2 := by
    unfold beg
    split
    · rename_i q
      exact hv c hc (by omega)
    · exact frv_rd0 _
  unfold out at hs ⊢
  generalize beg Ts (S.2.2.1 c) = B at b2 b3 b4 b5 b6 fb hs ⊢
  unfold oend
  have e0 : frsh S.1 rd0 := fun l _ b => by rw [show bt rd0.1 l = false from bt_0 l] at b; cases b
  have m0 : ∀ rF, msub rd0 rF := fun rF l _ b => by rw [show bt rd0.1 l = false from bt_0 l] at b; cases b
  by_cases h3 : 300 ≤ B.1
  · rw [if_pos h3] at hs ⊢
    have hw := frsh_of fb hs
    obtain ⟨ρ, e1, e2, e3⟩ := wit_one (rF := B.2.2) hw e0 (m0 _) B.1 B.2.1 B.2.2 (b3 S.1 B.2.2 (rsub.rfl' _)) (rsub.rfl' _)
    exact ⟨fb, ρ, ρ, e1, by rw [if_pos h3]⟩
  · rw [if_neg h3] at hs ⊢
    have rn := stepp_rnq (Ts ((S.2.2.1 c).1.headD 0)).1 S.1 B.2.1 B.2.2
    have mo := stepp_mono (Ts ((S.2.2.1 c).1.headD 0)).1 S.1 B.2.1 B.2.2
    have fo := frv_rnq fb rn.1
    have hw := frsh_of fo hs
    have n3 : (stepp (Ts ((S.2.2.1 c).1.headD 0)).1 S.1 B.2.1 B.2.2).1.1 ≠ 3 := fun q => by
      have := rn.2 q
      rw [hs] at this
      cases this
    obtain ⟨ρ, e1, e2, e3⟩ := wit_one hw e0 (m0 _) B.1 B.2.1 B.2.2 (b3 S.1 B.2.2 (rsub.rfl' _)) mo
    obtain ⟨ρ', f1, f2, f3⟩ := stepp_one hw n3 (rsub.rfl' _) e2 e3
    exact ⟨fo, ρ, ρ', e1, by rw [if_neg h3]; exact f1⟩
/-- rows grow behind, and come to the world that is there -/
def gro (Ts : tsT) (c0 : Nat) (S S' : syT) : Prop := SV S' ∧ ∀ w0 rs0 d, d ≤ S.2.2.2.length → rfd Ts c0 w0 rs0 (S.2.2.2.drop d) S.1 S.2.1 → d ≤ S'.2.2.2.length ∧ rfd Ts c0 w0 rs0 (S'.2.2.2.drop d) S'.1 S'.2.1
theorem gro.rfl' (h : SV S) : gro Ts c0 S S := ⟨h, fun _ _ _ a b => ⟨a, b⟩⟩
theorem gro_row {w' : wdT} {rs' : List (Nat × Int)} {cs : Nat → clT} (hv : SV (w', rs', cs, S.2.2.2 ++ [row])) (hk : rwk Ts c0 S.1 S.2.1 row w' rs') : gro Ts c0 S (w', rs', cs, S.2.2.2 ++ [row]) := by
  refine ⟨hv, fun w0 rs0 d hd hr => ⟨?_, ?_⟩⟩
  · show d ≤ (S.2.2.2 ++ [row]).length
    rw [List.length_append]
    omega
  · show rfd Ts c0 w0 rs0 ((S.2.2.2 ++ [row]).drop d) w' rs'
    rw [List.drop_append_of_le_length hd]
    exact rfd_snoc _ _ _ _ _ hr hk
theorem SV_setc {x : clT} (hv : SV S) (hx : x.2.2.2.1 ≠ 0 → frv S.1 x.2.2.2.2.2.2) : SV (setc S c x) := fun k hk => by
  show (va_up S.2.2.1 c x k).2.2.2.1 ≠ 0 → frv S.1 (va_up S.2.2.1 c x k).2.2.2.2.2.2
  by_cases e : k = c
  · rw [e, va_up_at]; exact hx
  · rw [va_up_of e]; exact hv k hk
theorem gro_setc {x : clT} (hv : SV S) (hx : x.2.2.2.1 ≠ 0 → frv S.1 x.2.2.2.2.2.2) : gro Ts c0 S (setc S c x) := ⟨SV_setc hv hx, fun _ _ _ a b => ⟨a, b⟩⟩
theorem gro_trn (h : SI Ts c0 S) (hv : SV S) (hc : c < 8) : gro Ts c0 S (trn Ts S c).2 := by
  unfold trn
  split
  · exact gro.rfl' hv
  rename_i hq
  split
  · exact gro.rfl' hv
  obtain ⟨b1, b2, b3, b4, b5, b6⟩ := beg_ok h hc hq
  obtain ⟨o1, o2, o3, o4, o5⟩ := out_ok h hc hq
  have h4 : ∀ l, l < 16 → 0 ≤ (S.1.2 l).toInt ∧ (S.1.2 l).toInt ≤ 300 := fun l hl => by
    have a := h.2.2.2.1 l hl
    have b := h.2.2.1
    omega
  have hle : ∀ k, k < 8 → (S.2.2.1 k).2.2.2.1 ≠ 0 → ∀ l, l < 16 → bt (S.2.2.1 k).2.2.2.2.2.2.1 l = true → ((S.2.2.1 k).2.2.2.2.2.2.2.2 l).toInt ≤ (S.1.2 l).toInt := fun k hk q => (h.2.2.2.2 k hk).2.2.2.2.2.2 q
  have fo : frv S.1 (out Ts S (S.2.2.1 c)).2.2 := by
    have fb : frv S.1 (beg Ts (S.2.2.1 c)).2.2 := by
      unfold beg
      split
      · rename_i q
        exact hv c hc (by omega)
      · exact frv_rd0 _
    unfold out
    split
    · exact fb
    · exact frv_rnq fb (stepp_rnq _ _ _ _).1
  have one := out_one h hv hc hq
  unfold trn2
  split
  · exact gro_setc hv (fun _ => fo)
  rename_i n0
  split
  · exact gro_setc hv (fun (q : (0 : Nat) ≠ 0) => absurd rfl q)
  rename_i hs
  have hs' : stale S.1 (out Ts S (S.2.2.1 c)).2.2 = false := by
    cases q : stale S.1 (out Ts S (S.2.2.1 c)).2.2 with
    | false => rfl
    | true => exact absurd q hs
  split
  · exact gro_setc hv (fun _ => fo)
  rename_i n4
  split
  · exact gro.rfl' hv
  split
  · exact gro.rfl' hv
  obtain ⟨-, ρ, ρ', w1, w2⟩ := one hs'
  have cl0 : ∀ w' : wdT, (∀ k, k < 8 → (S.2.2.1 k).2.2.2.1 ≠ 0 → frv w' (S.2.2.1 k).2.2.2.2.2.2) → ∀ rs' rows, SV (w', rs', va_up S.2.2.1 c (ovr (S.2.2.1 c)), rows) := fun w' hw rs' rows k hk => by
    show (va_up S.2.2.1 c (ovr (S.2.2.1 c)) k).2.2.2.1 ≠ 0 → frv w' (va_up S.2.2.1 c (ovr (S.2.2.1 c)) k).2.2.2.2.2.2
    by_cases e : k = c
    · rw [e, va_up_at]; exact fun (q : (0 : Nat) ≠ 0) => absurd rfl q
    · rw [va_up_of e]; exact hw k hk
  split
  · rename_i z
    refine gro_row (cl0 _ (fun k hk q => frv_brg (hv k hk q) (hle k hk q) h4) _ _) (Or.inr ⟨_, _, _, ρ, ⟨rfl, b1, b2, rfl, w1⟩, Or.inl ⟨rfl, ?_, ?_, ?_, ?_⟩⟩)
    · rw [w2]; exact z.1
    · rw [w2]; exact z.2
    · rw [w2]
    · rw [w2]
  · rename_i z
    have o12 : (out Ts S (S.2.2.1 c)).1.1 = 1 ∨ (out Ts S (S.2.2.1 c)).1.1 = 2 := by
      have l4 := out_le (Ts := Ts) (S := S) (cl := S.2.2.1 c)
      have n3 : ¬ (out Ts S (S.2.2.1 c)).1.1 = 3 := fun q => by
        have := o3 q
        rw [hs'] at this
        cases this
      omega
    refine gro_row (cl0 _ (fun k hk q => hv k hk q) _ _) (Or.inr ⟨_, _, _, ρ, ⟨rfl, b1, b2, rfl, w1⟩, Or.inr ⟨rfl, ?_, rfl, rfl⟩⟩)
    rw [w2]
    rcases o12 with q | q
    · exact Or.inl ⟨q, fun y => z ⟨q, y⟩, by show (if _ then _ else _) = _; rw [if_pos q]⟩
    · exact Or.inr ⟨q, by show (if _ then _ else _) = _; rw [if_neg (by omega)]⟩
theorem gro.trans {S1 S2 : syT} (h : gro Ts c0 S S1) (h' : gro Ts c0 S1 S2) : gro Ts c0 S S2 := ⟨h'.1, fun w0 rs0 d a b => by
  obtain ⟨p, q⟩ := h.2 w0 rs0 d a b
  exact h'.2 w0 rs0 d p q⟩
theorem gro_ply : ∀ (n : Nat) (s : Int64) (d : Int) (S : syT), SI Ts c0 S → SV S → gro Ts c0 S (plyS Ts n s d S).2
  | 0, s, d, S, h, hv => gro.rfl' hv
  | n + 1, s, d, S, h, hv => by
    obtain ⟨l, hl, e⟩ := sdC_lt (sdN s)
    have e' : (sdC (sdN s)).toNat = l := by rw [e]; omega
    show gro Ts c0 S (plyS Ts n (sdN s) (if (trn Ts S (sdC (sdN s)).toNat).1 = 1 then d + 1 else d) (trn Ts S (sdC (sdN s)).toNat).2).2
    rw [e']
    have g := gro_trn h hv hl
    exact g.trans (gro_ply n _ _ _ (SI_trn h hl) g.1)
theorem gro_put {z : Int} {v : Int64} (h : SI Ts c0 S) (hv : SV S) : gro Ts c0 S (putS Ts S z v).2 := by
  unfold putS
  split
  · rename_i hz
    split
    · rename_i hall
      have h4 : ∀ l, l < 16 → 0 ≤ (S.1.2 l).toInt ∧ (S.1.2 l).toInt ≤ 300 := fun l hl => by
        have a := h.2.2.2.1 l hl
        have b := h.2.2.1
        omega
      refine gro_row (fun k hk q => frv_put (hv k hk q) ((h.2.2.2.2 k hk).2.2.2.2.2.2 q) h4) (Or.inl ⟨rfl, z.toNat, ?_, by omega, hall, rfl, rfl⟩)
      show z = ((z.toNat : Nat) : Int)
      omega
    · exact gro.rfl' hv
  · exact gro.rfl' hv
theorem gro_add {x y : Int} (h : SI Ts c0 S) (hv : SV S) : gro Ts c0 S (addS c0 S x y).2 := by
  unfold addS
  split
  · rename_i hz
    exact gro_setc hv (fun q => hv _ (by omega) q)
  · exact gro.rfl' hv
/-- what the rows say, whatever text comes -/
theorem hld_ext {Y : txT × Nat × Nat × Int} {V : Nat → Int64} {q : Nat × Int} (h : q.1 < c0) : hld (exT Ts c0 Y) V q = hld Ts V q := by
  unfold hld
  rw [exT_lt h]
theorem all_ext {Y : txT × Nat × Nat × Int} {V : Nat → Int64} : ∀ {rs : List (Nat × Int)}, (∀ q ∈ rs, q.1 < c0) → rs.all (hld (exT Ts c0 Y) V) = rs.all (hld Ts V)
  | [], _ => rfl
  | q :: rs, h => by
    show (hld (exT Ts c0 Y) V q && rs.all (hld (exT Ts c0 Y) V)) = (hld Ts V q && rs.all (hld Ts V))
    rw [hld_ext (h q (List.Mem.head _)), all_ext (fun q hq => h q (List.Mem.tail _ hq))]
theorem nru_lt {t : Nat} {g : sgT} (h : t < c0) : ∀ q ∈ nru t g, q.1 < c0 := fun q hq => by
  unfold nru at hq
  obtain ⟨j, -, rfl⟩ := List.mem_map.mp hq
  exact h
theorem wel_ext {Y : txT × Nat × Nat × Int} {rs : List (Nat × Int)} {t : Nat} {g : sgT} (h : ∀ q ∈ rs, q.1 < c0) (ht : t < c0) : wel (exT Ts c0 Y) (w, rs, fun _ => clN, []) t g = wel Ts (w, rs, fun _ => clN, []) t g := by
  unfold wel
  rw [show ((w, rs, fun _ => clN, []) : syT).2.1 = rs from rfl, all_ext h, all_ext (nru_lt ht)]
theorem rwk_ext {Y : txT × Nat × Nat × Int} {rs rs' : List (Nat × Int)} (h : ∀ q ∈ rs, q.1 < c0) (k : rwk Ts c0 w rs row w' rs') : rwk (exT Ts c0 Y) (c0 + 1) w rs row w' rs' := by
  rcases k with ⟨a1, l, a2, a3, a4, a5, a6⟩ | ⟨t, k, g, ρ, ⟨b1, b2, b3, b4, b5⟩, b6⟩
  · exact Or.inl ⟨a1, l, a2, a3, by rw [all_ext h]; exact a4, a5, a6⟩
  · refine Or.inr ⟨t, k, g, ρ, ⟨b1, by omega, b3, b4, by rw [exT_lt b2]; exact b5⟩, ?_⟩
    rw [exT_lt b2, wel_ext h b2]
    exact b6
theorem rwk_pre {rs rs' : List (Nat × Int)} (k : rwk Ts c0 w rs row w' rs') : ∀ q ∈ rs, q ∈ rs' := by
  rcases k with ⟨-, l, -, -, -, -, a6⟩ | ⟨t, k, g, ρ, -, ⟨-, -, -, -, a6⟩ | ⟨-, -, -, a6⟩⟩
  · rw [a6]; exact fun q hq => hq
  · rw [a6]; exact fun q hq => List.mem_append_left _ hq
  · rw [a6]; exact fun q hq => hq
theorem rfd_pre : ∀ (l : List rwT) (w : wdT) (rs : List (Nat × Int)) (w' : wdT) (rs' : List (Nat × Int)), rfd Ts c0 w rs l w' rs' → ∀ q ∈ rs, q ∈ rs'
  | [], w, rs, w', rs', h => by
    obtain ⟨-, rfl⟩ := h
    exact fun q hq => hq
  | _ :: l, w, rs, w', rs', h => by
    obtain ⟨a, b, h1, h2⟩ := h
    exact fun q hq => rfd_pre l _ _ _ _ h2 q (rwk_pre h1 q hq)
theorem rfd_ext {Y : txT × Nat × Nat × Int} : ∀ (l : List rwT) (w : wdT) (rs : List (Nat × Int)) (w' : wdT) (rs' : List (Nat × Int)), (∀ q ∈ rs', q.1 < c0) → rfd Ts c0 w rs l w' rs' → rfd (exT Ts c0 Y) (c0 + 1) w rs l w' rs'
  | [], w, rs, w', rs', _, h => h
  | _ :: l, w, rs, w', rs', hb, h => by
    obtain ⟨a, b, h1, h2⟩ := h
    have hrs : ∀ q ∈ rs, q.1 < c0 := fun q hq => hb q (rfd_pre l _ _ _ _ h2 q (rwk_pre h1 q hq))
    exact ⟨a, b, rwk_ext hrs h1, rfd_ext l _ _ _ _ hb h2⟩
end RPU
/-! THE REFERENCE'S replays() answers 1 -/
def rpJ (M : rf_M) (Ts : tsT) (c0 : Nat) (S : syT) (w1 : wdT) (rs1 : List (Nat × Int)) : Prop := RRS M Ts c0 S ∧ gi M 353 42 = 1 ∧ weq w1 (wR M 1) ∧ rrs M Ts 1 rs1
section WR9
variable {M M' : rf_M} {c0 n cc : Nat} {K : Int → rf_M → Prop} {Ts : tsT} {S : syT} {P : Nat → Nat → Prop} {w w' w1 w2 : wdT} {rs rs' rs1 rs2 : List (Nat × Int)} {row : rwT} {X : txT} {en : Int}
theorem rpJ.eq (hS : SI Ts c0 S) (h : rpJ M Ts c0 S w1 rs1) (e : eqy P M M') (q : ∀ b k, pvR b k ∨ (b = 353 ∧ k = 42) ∨ (376 ≤ b ∧ b ≤ 379) → ¬ P b k) : rpJ M' Ts c0 S w1 rs1 := by
  obtain ⟨h1, h2, h3, h4⟩ := h
  exact ⟨h1.eq hS e (fun b k z => q b k (Or.inl z)), (e.i (q _ _ (Or.inr (Or.inl ⟨rfl, rfl⟩)))).trans h2, h3.eqR e (fun b k z => q b k (Or.inr (Or.inr (by omega)))), h4.eq e (fun b k z => q b k (Or.inr (Or.inr (by omega))))⟩
theorem gvl_wit (hX : wfx X n cc en) : ∀ (k : Nat) (q : sgT × rdT), wit X w (run0 en) rd0 k = some q → gvl X n k q.1
  | 0, q, h => by
    injection h with h
    rw [← h]
    exact gvl_0 hX
  | k + 1, q, h => by
    have h : (wit X w (run0 en) rd0 k).bind (fun q => if (stepp X w q.1 q.2).1.1 = 0 then some (stepp X w q.1 q.2).2 else none) = some q := h
    cases hk : wit X w (run0 en) rd0 k with
    | none => rw [hk] at h; cases h
    | some q' =>
      rw [hk] at h
      have h : (if (stepp X w q'.1 q'.2).1.1 = 0 then some (stepp X w q'.1 q'.2).2 else none) = some q := h
      split at h
      · injection h with h
        rw [← h]
        exact gvl_step hX (gvl_wit hX k q' hk)
      · cases h
theorem rwk_len (k : rwk Ts c0 w rs row w' rs') : rs.length ≤ rs'.length := by
  rcases k with ⟨-, l, -, -, -, -, a6⟩ | ⟨t, k, g, ρ, -, ⟨-, -, -, -, a6⟩ | ⟨-, -, -, a6⟩⟩
  · rw [a6]; exact Nat.le_refl _
  · rw [a6, List.length_append]; omega
  · rw [a6]; exact Nat.le_refl _
theorem rfd_len : ∀ (l : List rwT) (w : wdT) (rs : List (Nat × Int)) (w' : wdT) (rs' : List (Nat × Int)), rfd Ts c0 w rs l w' rs' → rs.length ≤ rs'.length
  | [], w, rs, w', rs', h => by
    obtain ⟨-, rfl⟩ := h
    exact Nat.le_refl _
  | _ :: l, w, rs, w', rs', h => by
    obtain ⟨a, b, h1, h2⟩ := h
    exact Nat.le_trans (rwk_len h1) (rfd_len l _ _ _ _ h2)
theorem oend_lt {k : Nat} {g : sgT} {ρ : rdT} (h : k < 300) : oend X w k g ρ = stepp X w g ρ := if_neg (by omega)
theorem y_ct9 {i : Nat} (hS : SI Ts c0 S) (hi : i < S.2.2.2.length) (h : rpJ M Ts c0 S w1 rs1) (hv : ∀ q ∈ rs1, q ∈ S.2.1) (hl : rs1.length ≤ 32) (hk : rwk Ts c0 w1 rs1 (S.2.2.2.getD i ((0, 0, 0, 0, 0), 0)) w2 rs2) (kk : ∀ M', rpJ M' Ts c0 S w2 rs2 → K 1 M') : em_W_comesToSame (i : Int) M K := by
  have h12 := hS.1.1
  have rows : ∀ {N : rf_M} {wa : wdT} {ra : List (Nat × Int)}, rpJ N Ts c0 S wa ra → gi N 400 i = (S.2.2.2.getD i ((0, 0, 0, 0, 0), 0)).1.1 ∧ gi N 402 i = (S.2.2.2.getD i ((0, 0, 0, 0, 0), 0)).1.2.2.1 ∧ gi N 403 i = (S.2.2.2.getD i ((0, 0, 0, 0, 0), 0)).1.2.2.2.1 ∧ gl N 405 i = (S.2.2.2.getD i ((0, 0, 0, 0, 0), 0)).2 := fun hN => by
    obtain ⟨a1, -, a3, a4, -, a6⟩ := hN.1.2.2.2.2.2 i hi
    exact ⟨a1, a3, a4, a6⟩
  generalize S.2.2.2.getD i ((0, 0, 0, 0, 0), 0) = row at rows hk
  obtain ⟨r0, r2, r3, r5⟩ := rows h
  show e_W_comesToSame (i : Int) M K
  unfold e_W_comesToSame
  rcases hk with ⟨a1, l, a2, a3, a4, a5, a6⟩ | ⟨t, k, g, ρ, ⟨b1, b2, b3, b4, b5⟩, b6⟩
  · have e402 : gi M 402 i = (l : Int) := r2.trans a2
    rw [tn_, e402]
    intro _
    refine ⟨fun _ _ _ => ?_, fun n => absurd (r0.trans a1) n⟩
    refine ⟨inr_z (by omega) (by omega), fun _ M2 e2 _ => ?_⟩
    have f402 : gi M2 402 i = (l : Int) := by rw [e2, gi_wl]; exact e402
    rw [f402]
    refine ⟨inr_z (by omega) (by omega), fun _ _ M3 e3 => kk M3 ?_⟩
    have en : (16 + (l : Int)).toNat = 16 + l := by omega
    rw [en] at e2 e3
    have y3 : eqy (fun b k => (b = 376 ∨ b = 377) ∧ k = 16 + l) M M3 := by
      rw [e3, e2]
      exact ((eqy.rfl' M).wl ⟨Or.inl rfl, rfl⟩).wi ⟨Or.inr rfl, rfl⟩
    refine ⟨h.1.eq hS y3 (fun b k z => by unfold pvR at z; omega), (y3.i (by omega)).trans h.2.1, fun l' hl' => ?_, by rw [a6]; exact h.2.2.2.eq y3 (fun b k z => by omega)⟩
    rw [a5]
    by_cases e : l' = l
    · subst e
      refine ⟨?_, ?_⟩
      · show gl M3 376 (16 * 1 + l') = va_up w1.1 l' row.2 l'
        rw [va_up_at, show 16 * 1 + l' = 16 + l' by omega, e3, gl_wi, e2, gl_at]
        exact r5
      · show M3.1 377 (16 * 1 + l') = va_up w1.2 l' (Int32.ofInt ((w1.2 l').toInt + 1)) l'
        rw [va_up_at, show 16 * 1 + l' = 16 + l' by omega, e3]
        show (rf_wi M2 377 (16 + l') _).1 377 (16 + l') = _
        have ew : M.1 377 (16 * 1 + l') = w1.2 l' := (h.2.2.1 l' hl').2
        rw [show 16 * 1 + l' = 16 + l' by omega] at ew
        rw [rf_wi_at, ← ew, e2]
        rfl
    · have hw := h.2.2.1 l' hl'
      refine ⟨?_, ?_⟩
      · show gl M3 376 (16 * 1 + l') = va_up w1.1 l row.2 l'
        rw [va_up_of e, y3.l (by omega)]
        exact hw.1
      · show M3.1 377 (16 * 1 + l') = va_up w1.2 l (Int32.ofInt ((w1.2 l).toInt + 1)) l'
        rw [va_up_of e, (y3.1 377 _ (by omega)).1]
        exact hw.2
  · have e402 : gi M 402 i = (t : Int) := r2.trans b1
    have hX := hS.1.2 t b2
    have n0 : ¬ gi M 400 i = 0 := fun q => by
      have q' : row.1.1 = 0 := r0.symm.trans q
      rcases b6 with ⟨z, -⟩ | ⟨z, -⟩ <;> omega
    rw [tn_, e402]
    intro _
    refine ⟨fun q => absurd q n0, fun _ _ => ?_⟩
    intro M1 e1
    have y1 : eqy (fun b k => b = 353 ∧ k = 52) M M1 := by rw [e1]; exact (eqy.rfl' M).wi ⟨rfl, rfl⟩
    have h1 : rpJ M1 Ts c0 S w1 rs1 := h.eq hS y1 (fun b k z => by unfold pvR at z; omega)
    have r1 : req rd0 (rR M1) := by
      refine ⟨?_, fun l _ b => ?_⟩
      · refine Int32.toInt_inj.mp ?_
        show gi M1 353 52 = _
        rw [e1, gi_at (inr_z (by omega) (by omega))]
        rfl
      · have : bt 0 l = true := b
        rw [bt_0] at this
        cases this
    refine y_beginWalk (t := t) (by omega) hX (h1.1.1 t b2) r1 (fun M2 y2 R2 => ?_)
    have h2 : rpJ M2 Ts c0 S w1 rs1 := h1.eq hS y2 (fun b k z => by unfold pvR at z; omega)
    have o12 : (oend (Ts t).1 w1 k g ρ).1.1 = 1 ∨ (oend (Ts t).1 w1 k g ρ).1.1 = 2 := by
      rcases b6 with ⟨-, z, -⟩ | ⟨-, ⟨z, -⟩ | ⟨z, -⟩, -⟩
      · exact Or.inl z
      · exact Or.inl z
      · exact Or.inr z
    refine ⟨fun v1 v2 v3 N => v1 = (i : Int) ∧ rpJ N Ts c0 S w1 rs1 ∧ ((v3 = 0 ∧ ∃ (j : Nat) (q : sgT × rdT), v2 = (j : Int) ∧ j ≤ k ∧ wit (Ts t).1 w1 (run0 (Ts t).2.2.2) rd0 j = some q ∧ rnW N t (Ts t).1 (Ts t).2.1 (Ts t).2.2.1 (Ts t).2.2.2 q.1 q.2) ∨ (k < 300 ∧ v2 = (k : Int) + 1 ∧ v3 = ocW (oend (Ts t).1 w1 k g ρ).1.1 ∧ rnW N t (Ts t).1 (Ts t).2.1 (Ts t).2.2.1 (Ts t).2.2.2 (oend (Ts t).1 w1 k g ρ).2.1 (oend (Ts t).1 w1 k g ρ).2.2 ∧ ((oend (Ts t).1 w1 k g ρ).1.1 = 2 → gl N 353 66 = (oend (Ts t).1 w1 k g ρ).1.2))), ⟨rfl, h2, Or.inl ⟨rfl, 0, (run0 (Ts t).2.2.2, rd0), rfl, by omega, rfl, R2⟩⟩, ?_⟩
    rintro v1 v2 v3 N - - - ⟨rfl, hN, hcase⟩
    have k1of : ∀ N', rpJ N' Ts c0 S w2 rs2 → e_W_comesToSame_215 N' K := fun N' hN' => ⟨Or.inr rfl, kk N' hN'⟩
    -- thrown
    have thr : ∀ (v2 : Int) (v5 : Int64) (N' : rf_M), rpJ N' Ts c0 S w1 rs1 → v2 = (k : Int) + 1 → row.1.1 = 2 → row.2 = v5 → w2 = w1 → rs2 = rs1 → e_W_comesToSame_156 (i : Int) v2 1 v5 N' K := by
      intro v2 v5 N' hN' hv2 hk2 hr2 ew er
      refine ⟨fun w => absurd w (by decide), fun _ => ?_⟩
      obtain ⟨s0, -, s3, s5⟩ := rows hN'
      have k1 : e_W_comesToSame_215 N' K := k1of N' (by rw [ew, er]; exact hN')
      unfold e_W_comesToSame_165
      rw [tn_, s3, s0, s5]
      exact fun _ => ⟨fun _ => ⟨fun z => absurd z (by decide), fun _ _ => ⟨fun _ _ => ⟨fun _ => k1, fun n => absurd ((lgc0 _ _).mpr hr2) n⟩, fun n => absurd hk2 n⟩⟩, fun n => absurd (hv2.trans b4.symm) n⟩
    have fin0 : (v3 = 0 ∧ v2 = 300 ∧ k = 300) → e_W_comesToSame_85 (i : Int) v2 v3 N K := by
      rintro ⟨rfl, rfl, rfl⟩
      have e3 : oend (Ts t).1 w1 300 g ρ = ((2, -3), g, ρ) := if_pos (Nat.le_refl _)
      rw [e3] at b6
      have b7 : row.1.1 = 2 ∧ row.2 = -3 ∧ w2 = w1 ∧ rs2 = rs1 := by
        rcases b6 with ⟨-, z, -⟩ | ⟨z1, ⟨z, -⟩ | ⟨-, z⟩, z2, z3⟩
        · exact absurd (show (2 : Nat) = 1 from z) (by decide)
        · exact absurd (show (2 : Nat) = 1 from z) (by decide)
        · exact ⟨z1, z, z2, z3⟩
      refine ⟨fun w => absurd w (by decide), fun _ => ⟨fun _ => ⟨inr_z (by omega) (by omega), thr _ _ N hN (by omega) b7.1 (b7.2.1.trans m3_) b7.2.2.1 b7.2.2.2⟩, fun w => absurd rfl w⟩⟩
    rcases hcase with ⟨rfl, j, q, rfl, hj, hq, R⟩ | ⟨hk3, rfl, rfl, R, h66⟩
    · refine ⟨fun _ => ⟨fun h3 => fin0 ⟨rfl, by omega, by omega⟩, fun h3 => ?_⟩, fun w => absurd rfl w⟩
      refine y_rstep (d := 1) (w := w1) (by omega) hX R (by rw [hN.2.1]; rfl) (by omega) hN.2.2.1 (fun N' yN RN h66 => ⟨inr_z (by omega) (by omega), rfl, hN.eq hS yN (fun b k z => by unfold pvR at z; unfold stW; omega), ?_⟩)
      by_cases hjk : j = k
      · subst hjk
        have eq2 : q = (g, ρ) := Option.some.inj (hq.symm.trans b5)
        subst eq2
        have e3 : oend (Ts t).1 w1 j g ρ = stepp (Ts t).1 w1 g ρ := oend_lt (by omega)
        rw [e3]
        exact Or.inr ⟨by omega, rfl, rfl, RN, h66⟩
      · obtain ⟨q', w5, w6, w7⟩ := wit_le k _ b5 j (by omega)
        have eq2 : q' = q := Option.some.inj (w5.symm.trans hq)
        subst eq2
        refine Or.inl ⟨by rw [w6]; rfl, j + 1, _, by omega, by omega, w7, RN⟩
    · have hne : ¬ ocW (oend (Ts t).1 w1 k g ρ).1.1 = 0 := by
        rcases o12 with z | z <;> (rw [z]; decide)
      refine ⟨fun w => absurd w hne, fun _ => ?_⟩
      have e3 : oend (Ts t).1 w1 k g ρ = stepp (Ts t).1 w1 g ρ := oend_lt hk3
      have G : gvl (Ts t).1 (Ts t).2.1 (k + 1) (oend (Ts t).1 w1 k g ρ).2.1 := by rw [e3]; exact gvl_step hX (gvl_wit hX k _ b5)
      generalize oend (Ts t).1 w1 k g ρ = o at *
      rcases o12 with z | z
      · have eo : ocW o.1.1 = 4 := by rw [z]; rfl
        rw [eo]
        refine ⟨fun w => absurd w (by decide), fun _ => ⟨fun w => absurd w (by decide), fun _ => ⟨fun _ => ?_, fun w => absurd rfl w⟩⟩⟩
        obtain ⟨hw, GG⟩ := R.2.2.2.1
        obtain ⟨cn, hcn⟩ : ∃ c : Nat, o.2.1.2.1.2.2.2 = (c : Int) := ⟨o.2.1.2.1.2.2.2.toNat, by have := GG.2.1; omega⟩
        have hcnw : cn ≤ hw := by have := GG.2.1.2; omega
        obtain ⟨gp, ghw, ghk, g2, g3, g4⟩ := G
        have hro : rok Ts c0 rs1 := fun j hj => hS.2.1.2 _ (hv _ (by rw [gD_ hj]; exact List.getElem_mem hj))
        have hrl : ∀ j, j < cn → gi N 393 j = rex Ts (t, o.2.1.2.2.1 j) := fun j hj => GG.2.2.1 j (by omega)
        have hvl : ∀ j, j < cn → vld (Ts t).1 (Ts t).2.1 (o.2.1.2.2.1 j) := fun j hj => g3 j (by omega)
        refine y_isWell (S := (w1, rs1, fun _ => clN, [])) (g := o.2.1) (d := 1) (c := cn) (t := t) hS.1 b2 hN.1.1 (by rw [hN.2.1]; rfl) (by omega) hN.2.2.1 hN.2.2.2 hro hl GG.1 hcn (by omega) hrl hvl (fun N3 y3 => ?_)
        have nw : ∀ b k, ¬ (b = 353 ∧ (k = 52 ∨ k = 65 ∨ k = 66)) → ¬ (b = 389 ∨ b = 390 ∨ b = 398 ∨ b = 399) → ¬ wwW b k := fun b k h1 h2 => by unfold wwW wkW; omega
        have hN3 : rpJ N3 Ts c0 S w1 rs1 := hN.eq hS y3 (fun b k a => by unfold pvR at a; unfold wwW wkW; omega)
        rcases b6 with ⟨z1, -, z3, z4, z5⟩ | ⟨z1, z2, z3, z4⟩
        · rw [if_pos z3]
          refine ⟨fun w => absurd w (by decide), fun _ => ⟨fun w => absurd w (by decide), fun _ => ⟨fun w => absurd w (by decide), fun _ => ⟨fun _ => ?_, fun w => absurd rfl w⟩⟩⟩⟩
          have hwl := z3
          unfold wel at hwl
          rw [Bool.and_eq_true, decide_eq_true_eq] at hwl
          have h32' : rs1.length + cn ≤ 32 := by
            have : rs1.length + o.2.1.2.1.2.2.2.toNat ≤ 32 := hwl.2
            omega
          refine y_bringIn (S := (w1, rs1, fun _ => clN, [])) (g := o.2.1) (d := 1) (c := cn) (t := t) hS.1 b2 (by rw [hN3.2.1]; rfl) (by omega) hN3.2.2.1 hN3.2.2.2 (GG.1.eqR y3 (fun b k h => nw b k (by omega) (by omega))) hcn (fun j hj => (y3.i (nw _ _ (by omega) (by omega))).trans (hrl j hj)) hvl h32' (fun M4 y4 w4 r4 => ?_)
          have hM4 : rpJ M4 Ts c0 S w2 rs2 := by
            rw [z4, z5]
            exact ⟨hN3.1.eq hS y4 (fun b k a => by unfold pvR at a; omega), (y4.i (by omega)).trans hN3.2.1, w4, r4⟩
          obtain ⟨s0, -, s3, s5⟩ := rows hM4
          unfold e_W_comesToSame_165
          rw [tn_, s3, s0, s5]
          exact fun _ => ⟨fun _ => ⟨fun _ _ => ⟨fun _ => k1of M4 hM4, fun n => absurd z1 n⟩, fun n => absurd rfl n⟩, fun n => absurd b4.symm n⟩
        · rcases z2 with ⟨-, z5, z6⟩ | ⟨z5, -⟩
          · rw [if_neg z5]
            exact ⟨fun _ => thr _ _ N3 hN3 rfl z1 (z6.trans m2_) z3 z4, fun w => absurd rfl w⟩
          · omega
      · have eo : ocW o.1.1 = 2 := by rw [z]; rfl
        rw [eo]
        refine ⟨fun _ => ⟨fun w => absurd w (by decide), fun _ => ⟨fun w => absurd w (by decide), fun _ => ⟨fun w => absurd w (by decide), fun _ => ⟨fun w => absurd w (by decide), fun _ => ?_⟩⟩⟩⟩, fun w => absurd rfl w⟩
        rcases b6 with ⟨z1, z2, -⟩ | ⟨z1, z2, z3, z4⟩
        · omega
        · rcases z2 with ⟨z5, -⟩ | ⟨-, z6⟩
          · omega
          · exact thr _ _ N hN rfl z1 (z6.trans (h66 z).symm) z3 z4
theorem y_rep9 (hS : SI Ts c0 S) (h : RRS M Ts c0 S) (hr : rfd Ts c0 wd0 [] S.2.2.2 S.1 S.2.1) (kk : ∀ M', RRS M' Ts c0 S → K 1 M') : em_W_replays M K := by
  have hrl := hS.2.2.1
  have i0 : inr 0 := inr_z (by omega) (by omega)
  have i1 : inr 1 := inr_z (by omega) (by omega)
  intro M1 e1
  have h1 : RRS M1 Ts c0 S := h.code hS e1
  have h32 := hS.2.1.1
  have k211 : ∀ N, rpJ N Ts c0 S S.1 S.2.1 → e_W_replays_211 1 N K := by
    intro N hN N1 f1
    have hN1 : RRS N1 Ts c0 S := hN.1.eq hS (P := fun b k => b = 353 ∧ k = 42) (by rw [f1]; exact (eqy.rfl' _).wi ⟨rfl, rfl⟩) (fun b k z => by unfold pvR at z; omega)
    exact ⟨fun w => absurd w (by decide), fun _ => kk N1 hN1⟩
  have k164 : ∀ N, rpJ N Ts c0 S S.1 S.2.1 → e_W_replays_164 1 N K := by
    intro N hN
    refine ⟨fun v1 v2 N => v1 = 1 ∧ 0 ≤ v2 ∧ rpJ N Ts c0 S S.1 S.2.1, ⟨rfl, by omega, hN⟩, ?_⟩
    rintro v1 v2 N - - ⟨rfl, hv2, hN⟩
    refine fun _ => ⟨fun _ => k211 N hN, fun hlt => ⟨fun w => absurd w (by decide), fun _ hb => ⟨inr_z (by omega) (by omega), fun _ => ⟨fun _ => ⟨inr_z (by omega) (by omega), rfl, by omega, hN⟩, fun n => absurd ?_ n⟩⟩⟩⟩
    rw [hN.1.2.2.1.1] at hlt
    have a := hN.1.2.2.1.2 v2.toNat (by omega)
    have b := hN.2.2.2.2 v2.toNat (by omega)
    rw [show 32 * 0 + v2.toNat = v2.toNat by omega] at a
    rw [show 32 * 1 + v2.toNat = (32 + v2).toNat by omega] at b
    exact a.trans b.symm
  have k140 : ∀ N, rpJ N Ts c0 S S.1 S.2.1 → e_W_replays_140 1 N K := fun N hN => ⟨fun w => absurd w (by decide), fun _ _ _ => ⟨fun _ => k164 N hN, fun n => absurd (hN.1.2.2.1.1.trans hN.2.2.2.1.symm) n⟩⟩
  have k79 : ∀ N, rpJ N Ts c0 S S.1 S.2.1 → e_W_replays_79 1 N K := by
    intro N hN
    refine ⟨fun v1 v2 N => v1 = 1 ∧ 0 ≤ v2 ∧ rpJ N Ts c0 S S.1 S.2.1, ⟨rfl, by omega, hN⟩, ?_⟩
    rintro v1 v2 N - - ⟨rfl, hv2, hN⟩
    refine ⟨fun _ => k140 N hN, fun h16 => ⟨fun w => absurd w (by decide), fun _ hb => ⟨inr_z (by omega) (by omega), fun _ => ⟨fun _ _ => ⟨inr_z (by omega) (by omega), fun _ => ⟨fun _ => ⟨inr_z (by omega) (by omega), rfl, by omega, hN⟩, fun n => absurd ?_ n⟩⟩, fun n => absurd ((lgc0 _ _).mpr ?_) n⟩⟩⟩⟩
    · have a := (hN.1.2.1 v2.toNat (by omega)).2
      have b := (hN.2.2.1 v2.toNat (by omega)).2
      have a : N.1 377 (16 * 0 + v2.toNat) = _ := a
      have b : N.1 377 (16 * 1 + v2.toNat) = _ := b
      rw [show 16 * 0 + v2.toNat = v2.toNat by omega] at a
      rw [show 16 * 1 + v2.toNat = (16 + v2).toNat by omega] at b
      show (N.1 377 v2.toNat).toInt = (N.1 377 (16 + v2).toNat).toInt
      rw [a, b]
    · have a := (hN.1.2.1 v2.toNat (by omega)).1
      have b := (hN.2.2.1 v2.toNat (by omega)).1
      have a : gl N 376 (16 * 0 + v2.toNat) = _ := a
      have b : gl N 376 (16 * 1 + v2.toNat) = _ := b
      rw [show 16 * 0 + v2.toNat = v2.toNat by omega] at a
      rw [show 16 * 1 + v2.toNat = (16 + v2).toNat by omega] at b
      rw [a, b]
  refine ⟨fun v1 N => ∃ j : Nat, v1 = (j : Int) ∧ j ≤ 16 ∧ RRS N Ts c0 S ∧ ∀ l, l < j → gl N 376 (16 + l) = 0 ∧ N.1 377 (16 + l) = 0, ⟨0, rfl, by omega, h1, fun l hl => absurd hl (by omega)⟩, ?_⟩
  rintro v1 N - ⟨j, rfl, hj, hN, hz⟩
  refine ⟨fun h16 _ N1 f1 N2 f2 => ?_, fun h16 => ⟨inr_z (by omega) (by omega), fun _ N3 f3 => ⟨inr_z (by omega) (by omega), fun _ N4 f4 => ⟨inr_z (by omega) (by omega), j + 1, by omega, by omega, ?_, fun l hl => ?_⟩⟩⟩⟩
  · have y2 : eqy (fun b k => (b = 378 ∧ k = 1) ∨ (b = 353 ∧ k = 42)) N N2 := by rw [f2, f1]; exact ((eqy.rfl' _).wi (Or.inl ⟨rfl, rfl⟩)).wi (Or.inr ⟨rfl, rfl⟩)
    have hN2 : rpJ N2 Ts c0 S wd0 [] := by
      refine ⟨hN.eq hS y2 (fun b k z => by unfold pvR at z; omega), by rw [f2, gi_at i1], fun l hl => ?_, ⟨by rw [f2, gi_of (Or.inl (by omega)), f1, gi_at i0]; rfl, fun j hj => absurd hj (by show ¬ j < 0; omega)⟩⟩
      have a := hz l (by omega)
      refine ⟨?_, ?_⟩
      · show gl N2 376 (16 * 1 + l) = 0
        rw [y2.l (by omega)]; exact a.1
      · show N2.1 377 (16 * 1 + l) = 0
        rw [(y2.1 377 _ (by omega)).1]; exact a.2
    refine ⟨fun v1 v2 N => v1 = 1 ∧ ∃ i : Nat, v2 = (i : Int) ∧ i ≤ S.2.2.2.length ∧ ∃ w1 rs1, rpJ N Ts c0 S w1 rs1 ∧ rfd Ts c0 w1 rs1 (S.2.2.2.drop i) S.1 S.2.1, ⟨rfl, 0, rfl, by omega, wd0, [], hN2, hr⟩, ?_⟩
    rintro v1 v2 N - - ⟨rfl, i, rfl, hi, w1, rs1, hN, hd⟩
    refine ⟨fun h69 => ?_, fun h69 => ⟨fun w => absurd w (by decide), fun _ => ?_⟩⟩
    · rw [hN.1.2.2.2.2.1] at h69
      rw [List.drop_eq_nil_of_le (by omega)] at hd
      obtain ⟨d1, d2⟩ := hd
      subst d1; subst d2
      exact k79 N hN
    · rw [hN.1.2.2.2.2.1] at h69
      have hi' : i < S.2.2.2.length := by omega
      rw [List.drop_eq_getElem_cons hi'] at hd
      obtain ⟨w2, rs2, d1, d2⟩ := hd
      have pre := fun q hq => rfd_pre _ _ _ _ _ d2 q (rwk_pre d1 q hq)
      have len := Nat.le_trans (rwk_len d1) (rfd_len _ _ _ _ _ d2)
      exact y_ct9 hS hi' hN pre (by omega) (by rw [gD_ hi']; exact d1) (fun N' hN' => ⟨inr_z (by omega) (by omega), rfl, i + 1, by omega, by omega, w2, rs2, hN', d2⟩)
  · refine hN.eq hS (P := fun b k => (b = 376 ∨ b = 377) ∧ 16 ≤ k) ?_ (fun b k z => by unfold pvR at z; omega)
    rw [f4, f3]
    exact ((eqy.rfl' _).wl ⟨Or.inl rfl, by omega⟩).wi ⟨Or.inr rfl, by omega⟩
  · have en : (16 + (j : Int)).toNat = 16 + j := by omega
    rw [en] at f3 f4
    by_cases e : l = j
    · subst e
      refine ⟨by rw [f4, gl_wi, f3, gl_at]; rfl, ?_⟩
      rw [f4]
      show (rf_wi N3 377 (16 + l) _).1 377 (16 + l) = 0
      rw [rf_wi_at]
      rfl
    · have a := hz l (by omega)
      have y4 : eqy (fun b k => (b = 376 ∨ b = 377) ∧ k = 16 + j) N N4 := by
        rw [f4, f3]
        exact ((eqy.rfl' _).wl ⟨Or.inl rfl, rfl⟩).wi ⟨Or.inr rfl, rfl⟩
      exact ⟨(y4.l (by omega)).trans a.1, ((y4.1 377 _ (by omega)).1).trans a.2⟩
end WR9
/-! THE PROGRAM'S replays() answers 1 -/
def pX9 (M : rf_M) (w1 : wdT) (rs1 : List (Nat × Int)) : Prop := gi M 331 2 = 1 ∧ weq w1 (wS M 332) ∧ prs M 332 rs1
/-- the rows that are still to be redone come to the world that is there -/
def RPX9 (M : rf_M) (Ts : tsT) (c0 : Nat) (S : syT) : Prop := ∃ (d : Nat) (w1 : wdT) (rs1 : List (Nat × Int)), gi M 331 1 = (d : Int) ∧ d ≤ S.2.2.2.length ∧ pX9 M w1 rs1 ∧ rfd Ts c0 w1 rs1 (S.2.2.2.drop d) S.1 S.2.1
section PR9
variable {M M' : rf_M} {c0 : Nat} {K : Int → rf_M → Prop} {Ts : tsT} {S : syT} {P : Nat → Nat → Prop} {w w1 w2 : wdT} {rs rs1 rs2 : List (Nat × Int)}
theorem pX9.fr (h : pX9 M w1 rs1) (e : ∀ b k, (b = 331 ∧ k = 2) ∨ (332 ≤ b ∧ b ≤ 336 ∧ ¬ (b = 332 ∧ k = 7)) → M'.1 b k = M.1 b k ∧ M'.2.1 b k = M.2.1 b k ∧ M'.2.2 b k = M.2.2 b k) : pX9 M' w1 rs1 := by
  obtain ⟨h1, h2, h3⟩ := h
  have g : ∀ b k, (b = 331 ∧ k = 2) ∨ (332 ≤ b ∧ b ≤ 336 ∧ ¬ (b = 332 ∧ k = 7)) → gi M' b k = gi M b k := fun b k z => congrArg Int32.toInt (e b k z).1
  refine ⟨(g 331 2 (by omega)).trans h1, fun l hl => ⟨?_, ?_⟩, (g 332 2 (by omega)).trans h3.1, fun j hj => ⟨(e 335 j (by omega)).2.2.trans (h3.2 j hj).1, (g 336 j (by omega)).trans (h3.2 j hj).2⟩⟩
  · exact ((e 333 l (by omega)).2.1).trans (h2 l hl).1
  · exact ((e 334 l (by omega)).1).trans (h2 l hl).2
theorem RPX9.fr (h : RPX9 M Ts c0 S) (e : ∀ b k, 331 ≤ b → b ≤ 336 → M'.1 b k = M.1 b k ∧ M'.2.1 b k = M.2.1 b k ∧ M'.2.2 b k = M.2.2 b k) : RPX9 M' Ts c0 S := by
  obtain ⟨d, w1, rs1, h1, h2, h3, h4⟩ := h
  exact ⟨d, w1, rs1, (congrArg Int32.toInt (e 331 1 (by omega) (by omega)).1).trans h1, h2, h3.fr (fun b k z => e b k (by omega) (by omega)), h4⟩
theorem x_like9 (h1 : prs M 187 rs) (v1 : ∀ q ∈ rs, q.1 < 12) (h2 : prs M 332 rs) (w1 : weq w (wS M 187)) (w2 : weq w (wS M 332)) (k1 : K 1 M) : em_S_isLike 187 332 M K := by
  refine ⟨fun he => ⟨fun a b v N => a = 187 ∧ b = 332 ∧ N = M ∧ 0 ≤ v, ⟨rfl, rfl, rfl, by omega⟩, ?_⟩, fun n => absurd (h1.1.trans h2.1.symm) n⟩
  rintro a b v N - ⟨rfl, rfl, rfl, hv⟩
  refine ⟨fun _ => ?_, fun h16 hb _ => ⟨fun _ _ _ => ⟨fun _ => ⟨inr_z (by omega) (by omega), rfl, rfl, rfl, by omega⟩, fun n => absurd ?_ n⟩, fun n => absurd ((lgc0 _ _).mpr ?_) n⟩⟩
  · refine ⟨fun a b v N' => a = 187 ∧ b = 332 ∧ N' = N ∧ 0 ≤ v, ⟨rfl, rfl, rfl, by omega⟩, ?_⟩
    rintro a b u N' - ⟨rfl, rfl, rfl, hu⟩
    refine ⟨fun _ => k1, fun hlt hb => ?_⟩
    have l1 : u.toNat < rs.length := by have := h1.1; omega
    have q12 : (rs.getD u.toNat (0, 0)).1 < 12 := v1 _ (by rw [gD_ l1]; exact List.getElem_mem l1)
    have p1 := isPk (h1.2 _ l1).1 (k1_mem _ q12)
    have p2 := isPk (h2.2 _ l1).1 (k1_mem _ q12)
    refine ⟨p1.1, fun _ => ⟨p2.1, ⟨fun _ _ _ => ⟨fun _ => ⟨inr_z (by omega) (by omega), rfl, rfl, rfl, by omega⟩, fun n => absurd ((h1.2 _ l1).2.trans (h2.2 _ l1).2.symm) n⟩, fun n => absurd (p1.2.trans p2.2.symm) n⟩⟩⟩
  · have a := (w1 v.toNat (by omega)).2
    have b := (w2 v.toNat (by omega)).2
    have a : N.1 (187 + 2) v.toNat = _ := a
    have b : N.1 (332 + 2) v.toNat = _ := b
    show (N.1 (187 + 2) v.toNat).toInt = (N.1 (332 + 2) v.toNat).toInt
    rw [a, b]
  · have a := (w1 v.toNat (by omega)).1
    have b := (w2 v.toNat (by omega)).1
    have a : gl N (187 + 1) v.toNat = _ := a
    have b : gl N (332 + 1) v.toNat = _ := b
    rw [a, b]
theorem x_red9 {i : Nat} {K : rf_M → Prop} (hS : SI Ts c0 S) (hi : i < S.2.2.2.length) (hP : RPS M Ts c0 S) (hp : pX9 M w1 rs1) (hv : ∀ q ∈ rs1, q ∈ S.2.1) (hl : rs1.length ≤ 32) (hk : rwk Ts c0 w1 rs1 (S.2.2.2.getD i ((0, 0, 0, 0, 0), 0)) w2 rs2) (kk : ∀ M', RPS M' Ts c0 S → gi M' 331 1 = (i : Int) + 1 → pX9 M' w2 rs2 → K M') : em_Y_redo (i : Int) M K := by
  have h12 := hS.1.1
  have hrl := hS.2.2.1
  have rows : ∀ {N : rf_M}, RPS N Ts c0 S → gi N 325 i = (S.2.2.2.getD i ((0, 0, 0, 0, 0), 0)).1.1 ∧ gi N 327 i = (S.2.2.2.getD i ((0, 0, 0, 0, 0), 0)).1.2.2.1 ∧ gi N 328 i = (S.2.2.2.getD i ((0, 0, 0, 0, 0), 0)).1.2.2.2.1 ∧ gl N 330 i = (S.2.2.2.getD i ((0, 0, 0, 0, 0), 0)).2 := fun hN => by
    obtain ⟨a1, -, a3, a4, -, a6⟩ := hN.2.2.2.2.2 i hi
    exact ⟨a1, a3, a4, a6⟩
  generalize S.2.2.2.getD i ((0, 0, 0, 0, 0), 0) = row at rows hk
  intro M1 e1
  have y1 : eqy (fun b k => b = 331 ∧ k = 1) M M1 := by rw [e1]; exact (eqy.rfl' M).wi ⟨rfl, rfl⟩
  have P1 : RPS M1 Ts c0 S := hP.fr hS (fun b k z => y1.t3 (by omega))
  have X1 : pX9 M1 w1 rs1 := hp.fr (fun b k z => y1.t3 (by omega))
  have d1 : gi M1 331 1 = (i : Int) + 1 := by rw [e1, gi_at (inr_z (by omega) (by omega))]
  refine x_Jhas hS P1 (fun _ => ⟨fun w => absurd w (by decide), fun _ _ _ => ?_⟩) (fun w => absurd (by omega) w)
  obtain ⟨s0, s2, s3, s5⟩ := rows P1
  have hro : rok Ts c0 rs1 := fun j hj => hS.2.1.2 _ (hv _ (by rw [gD_ hj]; exact List.getElem_mem hj))
  rcases hk with ⟨a1, l, a2, a3, a4, a5, a6⟩ | ⟨t, k, g, ρ, ⟨b1, b2, b3, b4, b5⟩, b6⟩
  · have e327 : gi M1 327 i = (l : Int) := s2.trans a2
    rw [tn_, e327, s5]
    refine ⟨fun _ => ⟨fun w => absurd (X1.1.symm.trans w) (by decide), fun _ _ => ?_⟩, fun n => absurd (s0.trans a1) n⟩
    refine x_allows (st := 332) (w := w1) (rs := rs1) (by omega) a3 hS.1 P1.1 X1.2.1 X1.2.2 hro hl (fun M4 y4 => ?_)
    rw [if_pos a4]
    refine ⟨fun w => absurd w (by decide), fun _ => ⟨Or.inr rfl, fun N1 f1 _ => ?_⟩⟩
    have P4 : RPS M4 Ts c0 S := P1.fr hS (fun b k z => y4.t3 (by unfold alP wsP; omega))
    have X4 : pX9 M4 w1 rs1 := X1.fr (fun b k z => y4.t3 (by unfold alP wsP; omega))
    have z1 : eqy (fun b k => b = 331 ∧ k = 2) M4 N1 := by rw [f1]; exact (eqy.rfl' _).wi ⟨rfl, rfl⟩
    have PN : RPS N1 Ts c0 S := P4.fr hS (fun b k z => z1.t3 (by omega))
    have k2 : gi N1 331 2 = 1 := by rw [f1, gi_at (inr_z (by omega) (by omega))]
    have k1 : gi N1 331 1 = (i : Int) + 1 := (z1.i (by omega)).trans ((y4.i (by unfold alP wsP; omega)).trans d1)
    have r5 := (rows PN).2.2.2
    rw [tn_, r5]
    refine x_write (st := 332) a3 (fun N2 z2 g1 g2 => kk N2 (PN.fr hS (fun b k z => z2.t3 (by omega))) ((z2.i (by omega)).trans k1) ⟨(z2.i (by omega)).trans k2, fun l' hl' => ?_, ?_⟩)
    · rw [a5]
      have hw := X4.2.1 l' hl'
      have hw1 : gl M4 (332 + 1) l' = w1.1 l' := hw.1
      have hw2 : M4.1 (332 + 2) l' = w1.2 l' := hw.2
      by_cases e : l' = l
      · subst e
        refine ⟨?_, ?_⟩
        · show gl N2 (332 + 1) l' = va_up w1.1 l' row.2 l'
          rw [va_up_at]; exact g1
        · show N2.1 (332 + 2) l' = va_up w1.2 l' (Int32.ofInt ((w1.2 l').toInt + 1)) l'
          rw [va_up_at, g2, (z1.1 (332 + 2) l' (by omega)).1, hw2]
      · refine ⟨?_, ?_⟩
        · show gl N2 (332 + 1) l' = va_up w1.1 l row.2 l'
          rw [va_up_of e, z2.l (by omega), z1.l (by omega)]; exact hw1
        · show N2.1 (332 + 2) l' = va_up w1.2 l (Int32.ofInt ((w1.2 l).toInt + 1)) l'
          rw [va_up_of e, (z2.1 (332 + 2) l' (by omega)).1, (z1.1 (332 + 2) l' (by omega)).1]; exact hw2
    · rw [a6]
      exact (X4.2.2.eq z1 (fun b k z => by omega)).eq z2 (fun b k z => by omega)
  · have e327 : gi M1 327 i = (t : Int) := s2.trans b1
    have hX := hS.1.2 t b2
    have hp1 := k1_mem t (by omega)
    have epg : pgA (t : Int) = 25 + 12 * t := by unfold pgA; rw [tn_]
    have hsr : stR 340 = 332 := rfl
    have n0 : ¬ gi M1 325 i = 0 := fun q => by
      have q' : row.1.1 = 0 := s0.symm.trans q
      rcases b6 with ⟨z, -⟩ | ⟨z, -⟩ <;> omega
    rw [tn_, e327]
    refine ⟨fun q => absurd q n0, fun _ => ⟨fun w => absurd w (by omega), fun _ => ⟨fun _ _ => ?_, fun w => absurd (by omega) w⟩⟩⟩
    rw [epg]
    refine x_begin (a := 340) (by omega) hp1 hX (P1.1 t b2) (fun M3 f3 R3 => ?_)
    have o12 : (oend (Ts t).1 w1 k g ρ).1.1 = 1 ∨ (oend (Ts t).1 w1 k g ρ).1.1 = 2 := by
      rcases b6 with ⟨-, z, -⟩ | ⟨-, ⟨z, -⟩ | ⟨z, -⟩, -⟩
      · exact Or.inl z
      · exact Or.inl z
      · exact Or.inr z
    have keep : ∀ {N N' : rf_M}, (RPS N Ts c0 S ∧ gi N 331 1 = (i : Int) + 1 ∧ pX9 N w1 rs1) → (∀ b k, b ≤ 331 ∨ (332 ≤ b ∧ b ≤ 336 ∧ ¬ (b = 332 ∧ k = 7)) → N'.1 b k = N.1 b k ∧ N'.2.1 b k = N.2.1 b k ∧ N'.2.2 b k = N.2.2 b k) → RPS N' Ts c0 S ∧ gi N' 331 1 = (i : Int) + 1 ∧ pX9 N' w1 rs1 := fun hN e => ⟨hN.1.fr hS (fun b k z => e b k (by omega)), (congrArg Int32.toInt (e 331 1 (by omega)).1).trans hN.2.1, hN.2.2.fr (fun b k z => e b k (by omega))⟩
    refine ⟨fun v2 v4 v5 N => v2 = (i : Int) ∧ (RPS N Ts c0 S ∧ gi N 331 1 = (i : Int) + 1 ∧ pX9 N w1 rs1) ∧ ((v4 = 0 ∧ ∃ (j : Nat) (q : sgT × rdT), v5 = (j : Int) ∧ j ≤ k ∧ wit (Ts t).1 w1 (run0 (Ts t).2.2.2) rd0 j = some q ∧ rnR N 340 (25 + 12 * t) (Ts t).1 (Ts t).2.1 (Ts t).2.2.1 (Ts t).2.2.2 q.1 q.2 j) ∨ (v4 = ((oend (Ts t).1 w1 k g ρ).1.1 : Int) ∧ rnR N 340 (25 + 12 * t) (Ts t).1 (Ts t).2.1 (Ts t).2.2.1 (Ts t).2.2.2 (oend (Ts t).1 w1 k g ρ).2.1 (oend (Ts t).1 w1 k g ρ).2.2 k ∧ ((oend (Ts t).1 w1 k g ρ).1.1 = 2 → gl N 340 3 = (oend (Ts t).1 w1 k g ρ).1.2))), ⟨rfl, keep ⟨P1, d1, X1⟩ (fun b k z => f3 b k (by omega)), Or.inl ⟨rfl, 0, (run0 (Ts t).2.2.2, rd0), rfl, by omega, rfl, R3⟩⟩, ?_⟩
    rintro v2 v4 v5 N - - - ⟨rfl, hN, hcase⟩
    have k227 : ∀ N' w' rs', RPS N' Ts c0 S → gi N' 331 1 = (i : Int) + 1 → pX9 N' w' rs' → w' = w2 → rs' = rs2 → e_Y_redo_227 1 N' K := by
      intro N' w' rs' p1 p2 p3 ew er
      refine ⟨Or.inr rfl, fun N1 f1 => ?_⟩
      have z1 : eqy (fun b k => b = 331 ∧ k = 2) N' N1 := by rw [f1]; exact (eqy.rfl' _).wi ⟨rfl, rfl⟩
      refine kk N1 (p1.fr hS (fun b k z => z1.t3 (by omega))) ((z1.i (by omega)).trans p2) ⟨by rw [f1, gi_at (inr_z (by omega) (by omega))], ?_, ?_⟩
      · rw [← ew]; exact p3.2.1.eqP z1 (fun b k z => by omega)
      · rw [← er]; exact p3.2.2.eq z1 (fun b k z => by omega)
    have k181 : ∀ (v4 s0 : Int) N' w' rs', RPS N' Ts c0 S → gi N' 331 1 = (i : Int) + 1 → pX9 N' w' rs' → w' = w2 → rs' = rs2 → gi N' 340 1 = (k : Int) → ((s0 = 1 ∧ row.1.1 = 1) ∨ (s0 = 0 ∧ row.1.1 = 2 ∧ ((v4 = 1 ∧ row.2 = -2) ∨ (v4 = 2 ∧ row.2 = gl N' 340 3)))) → e_Y_redo_181 (i : Int) v4 s0 N' K := by
      intro v4 s0 N' w' rs' p1 p2 p3 ew er h340 ht
      refine ⟨fun w => absurd (p3.1.symm.trans w) (by decide), fun _ _ => ?_⟩
      obtain ⟨t0, t2, t3, t5⟩ := rows p1
      have g := k227 N' w' rs' p1 p2 p3 ew er
      rw [tn_, t3, h340]
      refine ⟨inr_z (by omega) (by omega), fun _ => ?_, fun n => absurd b4.symm n⟩
      show e_Y_isTold (i : Int) v4 s0 N' _
      unfold e_Y_isTold
      rw [tn_, t0, t5]
      have yes : e_Y_isTold_73 N' (fun (z1 : Int) (M1 : rf_M) => (z1 = 0 → (e_Y_redo_226 M1 K)) ∧ (¬ (z1 = 0) → (e_Y_redo_227 1 M1 K))) := ⟨Or.inr rfl, fun w => absurd w (by decide), fun _ => g⟩
      rcases ht with ⟨q1, q2⟩ | ⟨q1, q2, q3⟩
      · exact ⟨fun w => absurd w (by omega), fun _ _ => ⟨fun _ => ⟨Or.inr rfl, fun w => absurd w (by decide), fun _ => g⟩, fun n => absurd q2 n⟩⟩
      · refine ⟨fun _ _ => ⟨fun _ => ?_, fun n => absurd q2 n⟩, fun n => absurd q1 n⟩
        rcases q3 with ⟨q4, q5⟩ | ⟨q4, q5⟩
        · exact ⟨fun _ _ => ⟨fun _ => yes, fun n => absurd ((lgc0 _ _).mpr (q5.trans m2_)) n⟩, fun n => absurd q4 n⟩
        · refine ⟨fun w => absurd w (by omega), fun _ => ⟨fun _ _ => ?_, fun n => absurd q4 n⟩⟩
          rw [tn_, t5]
          exact ⟨fun _ => yes, fun n => absurd ((lgc0 _ _).mpr q5) n⟩
    have k146 : rnR N 340 (25 + 12 * t) (Ts t).1 (Ts t).2.1 (Ts t).2.2.1 (Ts t).2.2.2 (oend (Ts t).1 w1 k g ρ).2.1 (oend (Ts t).1 w1 k g ρ).2.2 k → ((oend (Ts t).1 w1 k g ρ).1.1 = 2 → gl N 340 3 = (oend (Ts t).1 w1 k g ρ).1.2) → e_Y_redo_146 (i : Int) ((oend (Ts t).1 w1 k g ρ).1.1 : Int) N K := by
      intro R h3
      have G : gvl (Ts t).1 (Ts t).2.1 (k + 1) (oend (Ts t).1 w1 k g ρ).2.1 := by
        have gw := gvl_wit hX k _ b5
        unfold oend
        split
        · exact gvl_up gw (by omega)
        · exact gvl_step hX gw
      generalize oend (Ts t).1 w1 k g ρ = o at *
      refine ⟨fun z => ?_, fun z => ?_⟩
      · have z : o.1.1 = 1 := by omega
        obtain ⟨hk1, hw, hh, R0⟩ := id R
        have ip := isPk R0.1 hp1
        refine ⟨ip.1, ?_⟩
        rw [ip.2]
        have hG := R0.2.2.2.2.1
        obtain ⟨cn, hcn⟩ : ∃ c : Nat, o.2.1.2.1.2.2.2 = (c : Int) := ⟨o.2.1.2.1.2.2.2.toNat, by have := hG.2.1; omega⟩
        have hcnw : cn ≤ hw := by have := hG.2.1.2; omega
        obtain ⟨gp, ghw, ghk, g2, g3, g4⟩ := G
        have hvl : ∀ j, j < cn → vld (Ts t).1 (Ts t).2.1 (o.2.1.2.2.1 j) := fun j hj => g3 j (by omega)
        refine x_takes (st := 332) (a := 340) (t := t) (c := cn) (S := (w1, rs1, fun _ => clN, [])) (g := o.2.1) (by omega) (by omega) hS.1 b2 hN.1.1 hN.2.2.2.1 hN.2.2.2.2 hro hl hG.1 hcn (by omega) (fun j hj => hG.2.2.1 j (by omega)) hvl (fun nwel M4 y4 => ?_) (fun hwel M4 f4 w4 p4 => ?_)
        · refine ⟨fun _ => ?_, fun w => absurd rfl w⟩
          have H4 := keep (N' := M4) hN (fun b k z => y4.t3 (by unfold alP wsP; omega))
          rcases b6 with ⟨-, -, z3, -⟩ | ⟨z1, z2, z3, z4⟩
          · exact absurd z3 nwel
          · rcases z2 with ⟨-, -, z6⟩ | ⟨z5, -⟩
            · exact k181 _ 0 M4 w1 rs1 H4.1 H4.2.1 H4.2.2 z3.symm z4.symm ((y4.i (by unfold alP wsP; omega)).trans R.1) (Or.inr ⟨rfl, z1, Or.inl ⟨by omega, z6⟩⟩)
            · omega
        · refine ⟨fun w => absurd w (by decide), fun _ => ?_⟩
          rcases b6 with ⟨z1, -, -, z4, z5⟩ | ⟨z1, z2, -⟩
          · have e2 : gi M4 331 2 = 1 := (congrArg Int32.toInt (f4 331 2 (by omega)).1).trans hN.2.2.1
            exact k181 _ 1 M4 w2 rs2 (hN.1.fr hS (fun b k z => f4 b k (by omega))) ((congrArg Int32.toInt (f4 331 1 (by omega)).1).trans hN.2.1) ⟨e2, by rw [z4]; exact w4, by rw [z5]; exact p4⟩ rfl rfl ((congrArg Int32.toInt (f4 340 1 (by omega)).1).trans R.1) (Or.inl ⟨rfl, z1⟩)
          · rcases z2 with ⟨-, z5, -⟩ | ⟨z5, -⟩
            · exact absurd hwel z5
            · omega
      · have z : o.1.1 = 2 := o12.resolve_left (fun q => z (by rw [q]; rfl))
        rcases b6 with ⟨-, z2, -⟩ | ⟨z1, z2, z3, z4⟩
        · omega
        · rcases z2 with ⟨z5, -⟩ | ⟨-, z6⟩
          · omega
          · exact k181 _ 0 N w1 rs1 hN.1 hN.2.1 hN.2.2 z3.symm z4.symm R.1 (Or.inr ⟨rfl, z1, Or.inr ⟨by omega, z6.trans (h3 z).symm⟩⟩)
    rcases hcase with ⟨rfl, j, q, rfl, hj, hq, R⟩ | ⟨rfl, R, h3⟩
    · refine ⟨fun w => absurd w (by omega), fun _ => ⟨fun _ => ?_, fun w => absurd rfl w⟩⟩
      by_cases h300 : j < 300
      · refine x_rstep (a := 340) (w := w1) (by omega) (by rw [hsr]; omega) hp1 hX R h300 (by rw [hsr]; exact hN.2.2.2.1) (fun N' yN RN h3 => ⟨inr_z (by omega) (by omega), rfl, keep hN (fun b k z => yN.t3 (by omega)), ?_⟩)
        by_cases hjk : j = k
        · subst hjk
          have eq2 : q = (g, ρ) := Option.some.inj (hq.symm.trans b5)
          subst eq2
          have e3 : oend (Ts t).1 w1 j g ρ = stepp (Ts t).1 w1 g ρ := oend_lt (by omega)
          rw [e3] at o12 ⊢
          have ne : ¬ (stepp (Ts t).1 w1 g ρ).1.1 = 0 := by rcases o12 with z | z <;> (rw [z]; decide)
          rw [if_neg ne] at RN
          exact Or.inr ⟨rfl, RN, h3⟩
        · obtain ⟨q', w5, w6, w7⟩ := wit_le k _ b5 j (by omega)
          have eq2 : q' = q := Option.some.inj (w5.symm.trans hq)
          subst eq2
          rw [if_pos w6] at RN
          exact Or.inl ⟨by rw [w6]; rfl, j + 1, _, by omega, by omega, w7, RN⟩
      · obtain rfl : j = k := by omega
        have eq2 : q = (g, ρ) := Option.some.inj (hq.symm.trans b5)
        subst eq2
        have e3 : oend (Ts t).1 w1 j g ρ = ((2, -3), g, ρ) := if_pos (by omega)
        refine ⟨fun w => absurd w (by rw [R.1]; omega), fun _ N1 f1 => ?_⟩
        have z1 : eqy (fun b k => b = 340 ∧ k = 3) N N1 := by rw [f1]; exact (eqy.rfl' N).wl ⟨rfl, rfl⟩
        obtain ⟨hk1, hw, hh, R0⟩ := id R
        rw [e3]
        exact ⟨inr_z (by omega) (by omega), rfl, keep hN (fun b k z => z1.t3 (by omega)), Or.inr ⟨rfl, ⟨(z1.i (by omega)).trans hk1, hw, hh, rn0.eqR (by omega) R0 z1 (fun b k h => by omega) (R0.2.2.2.2.2.eqP z1 (fun b k h => by omega))⟩, fun _ => by rw [f1, gl_at]; rfl⟩⟩
    · refine ⟨fun _ => k146 R h3, fun _ => ⟨fun w => ?_, fun _ => k146 R h3⟩⟩
      rcases o12 with z | z <;> (rw [z] at w; exact absurd w (by decide))
theorem x_rep9 (hS : SI Ts c0 S) (hP : RPS M Ts c0 S) (hX : RPX9 M Ts c0 S) (kk : ∀ M', RPS M' Ts c0 S → RPX9 M' Ts c0 S → K 1 M') : em_M_replays M K := by
  have hrl := hS.2.2.1
  have h12 := hS.1.1
  have h32 := hS.2.1.1
  obtain ⟨d, w1, rs1, e1, hd, hp, hr⟩ := hX
  refine ⟨fun v N => ∃ (i : Nat) (w1 : wdT) (rs1 : List (Nat × Int)), v = (i : Int) ∧ i ≤ S.2.2.2.length ∧ RPS N Ts c0 S ∧ gi N 331 1 = (i : Int) ∧ pX9 N w1 rs1 ∧ rfd Ts c0 w1 rs1 (S.2.2.2.drop i) S.1 S.2.1, ⟨d, w1, rs1, e1, hd, hP, e1, hp, hr⟩, ?_⟩
  rintro v N - ⟨i, w1, rs1, rfl, hi, hN, e1, hp, hr⟩
  have e324 : gi N 324 0 = (S.2.2.2.length : Int) := hN.2.2.2.2.1
  refine ⟨fun hge => ?_, fun hlt => ?_⟩
  · rw [e324] at hge
    have hr' := hr
    rw [List.drop_eq_nil_of_le (by omega)] at hr'
    obtain ⟨q1, q2⟩ := hr'
    refine ⟨fun w => absurd (hp.1.symm.trans w) (by decide), fun _ => ?_⟩
    refine x_like9 (w := S.1) hN.2.2.1 (fun q hq => by have := (hS.2.1.2 q hq).1; omega) (by rw [q2]; exact hp.2.2) hN.2.1 (by rw [q1]; exact hp.2.1) ⟨fun w => absurd w (by decide), fun _ => kk N hN ⟨i, w1, rs1, e1, hi, hp, hr⟩⟩
  · rw [e324] at hlt
    have hi' : i < S.2.2.2.length := by omega
    rw [List.drop_eq_getElem_cons hi'] at hr
    obtain ⟨w2, rs2, d1, d2⟩ := hr
    have pre := fun q hq => rfd_pre _ _ _ _ _ d2 q (rwk_pre d1 q hq)
    have len := Nat.le_trans (rwk_len d1) (rfd_len _ _ _ _ _ d2)
    exact x_red9 hS hi' hN hp pre (by omega) (by rw [gD_ hi']; exact d1) (fun N' p1 p2 p3 => ⟨inr_z (by omega) (by omega), i + 1, w2, rs2, by omega, by omega, p1, by rw [p2]; omega, p3, d2⟩)
end PR9
/-! BOTH, EXACTLY, with replays -/
def EXJ9 (M : rf_M) : Prop := ∃ (Ts : tsT) (c : Nat) (S : syT), (M.1 22 3 = nI c ∧ gi M 353 11 = (c : Int)) ∧ SI Ts c S ∧ RPS M Ts c S ∧ RRS M Ts c S ∧ RPX9 M Ts c S ∧ SV S ∧ rfd Ts c wd0 [] S.2.2.2 S.1 S.2.1
def JF9 (fz : Bool) (L : Nat) (xs : Nat → Int32) (M : rf_M) : Prop := JJ fz L xs M ∧ kfr M ∧ EXJ9 M
section UP9
variable {fz : Bool} {L : Nat} {xs : Nat → Int32} {jx jm : Nat} {as : List Value} {b b' : Bool}
theorem up9_I {P : rf_M → Int → rf_M → Prop} {R : rf_M → Int → rf_M → Int → rf_M → Prop} (hQ : lw_I (cx0 fz) (HK fz L xs).2 xs (JJ fz L xs) b jx jm as)
    (hP : ∀ M, JF9 fz L xs M → ∀ n0, lx (cx0 fz) n0 jx 0 (lv_args 0 (.ref 22 :: as)) [] (M, (HK fz L xs).2) (vl_i 22 353 M (HK fz L xs).2 (P M)))
    (hR : ∀ M z M1, JF9 fz L xs M → P M z M1 → fl 22 353 M M1 → ∀ n0, lx (cx0 fz) n0 jm 0 (lv_args 0 (.ref 353 :: as)) [] (M1, (HK fz L xs).2) (vl_i 353 406 M1 (HK fz L xs).2 (R M z M1)))
    (hF : ∀ M z M1 z' M2, JF9 fz L xs M → P M z M1 → fl 22 353 M M1 → R M z M1 z' M2 → fl 353 406 M1 M2 → JJ fz L xs M2 → EXJ9 M2 ∧ (b' = true → z = z')) : lw_I (cx0 fz) (HK fz L xs).2 xs (JF9 fz L xs) b' jx jm as := by
  intro M hJ
  refine gx_mono (gx_lx (hQ M hJ.1) (fun n0 => hP M hJ n0)) ?_
  rintro r h' ⟨⟨z, M1, rfl, rfl, c1, g⟩, z0, M1', e1, e2, f1, i1, p1⟩
  obtain rfl : M1 = M1' := (Prod.mk.inj e2).1
  have e1' : Value.int z = Value.int (Int32.ofInt z0) := Option.some.inj e1
  have ez : z = Int32.ofInt z0 := by injection e1'
  refine ⟨z, M1, rfl, rfl, c1, gx_mono (gx_lx g (fun n0 => hR M z0 M1 hJ p1 f1 n0)) ?_⟩
  rintro r' h'' ⟨⟨z', M2, rfl, rfl, j2, -⟩, z0', M2', e3, e4, f2, i2, p2⟩
  obtain rfl : M2 = M2' := (Prod.mk.inj e4).1
  have e3' : Value.int z' = Value.int (Int32.ofInt z0') := Option.some.inj e3
  have ez' : z' = Int32.ofInt z0' := by injection e3'
  obtain ⟨hE, hz⟩ := hF M z0 M1 z0' M2 hJ p1 f1 p2 f2 j2
  exact ⟨z', M2, rfl, rfl, ⟨j2, f2.2, hE⟩, fun w => by rw [ez, ez', hz w]⟩
theorem up9_L {P : rf_M → Int64 → rf_M → Prop} {R : rf_M → Int64 → rf_M → Int64 → rf_M → Prop} (hQ : lw_L (cx0 fz) (HK fz L xs).2 xs (JJ fz L xs) b jx jm as)
    (hP : ∀ M, JF9 fz L xs M → ∀ n0, lx (cx0 fz) n0 jx 0 (lv_args 0 (.ref 22 :: as)) [] (M, (HK fz L xs).2) (vl_l 22 353 M (HK fz L xs).2 (P M)))
    (hR : ∀ M z M1, JF9 fz L xs M → P M z M1 → fl 22 353 M M1 → ∀ n0, lx (cx0 fz) n0 jm 0 (lv_args 0 (.ref 353 :: as)) [] (M1, (HK fz L xs).2) (vl_l 353 406 M1 (HK fz L xs).2 (R M z M1)))
    (hF : ∀ M z M1 z' M2, JF9 fz L xs M → P M z M1 → fl 22 353 M M1 → R M z M1 z' M2 → fl 353 406 M1 M2 → JJ fz L xs M2 → EXJ9 M2 ∧ (b' = true → z = z')) : lw_L (cx0 fz) (HK fz L xs).2 xs (JF9 fz L xs) b' jx jm as := by
  intro M hJ
  refine gx_mono (gx_lx (hQ M hJ.1) (fun n0 => hP M hJ n0)) ?_
  rintro r h' ⟨⟨z, M1, rfl, rfl, c1, g⟩, z0, M1', e1, e2, f1, p1⟩
  obtain rfl : M1 = M1' := (Prod.mk.inj e2).1
  have e1' : Value.long z = Value.long z0 := Option.some.inj e1
  have ez : z = z0 := by injection e1'
  refine ⟨z, M1, rfl, rfl, c1, gx_mono (gx_lx g (fun n0 => hR M z0 M1 hJ p1 f1 n0)) ?_⟩
  rintro r' h'' ⟨⟨z', M2, rfl, rfl, j2, -⟩, z0', M2', e3, e4, f2, p2⟩
  obtain rfl : M2 = M2' := (Prod.mk.inj e4).1
  have e3' : Value.long z' = Value.long z0' := Option.some.inj e3
  have ez' : z' = z0' := by injection e3'
  obtain ⟨hE, hz⟩ := hF M z0 M1 z0' M2 hJ p1 f1 p2 f2 j2
  exact ⟨z', M2, rfl, rfl, ⟨j2, f2.2, hE⟩, fun w => by rw [ez, ez', hz w]⟩
theorem up9_FI (F : tsT → Nat → syT → Int × syT) (hQ : lw_I (cx0 fz) (HK fz L xs).2 xs (JJ fz L xs) b jx jm as) (hSI : ∀ Ts c S, SI Ts c S → SI Ts c (F Ts c S).2)
    (hSV : ∀ Ts c S, SI Ts c S → SV S → rfd Ts c wd0 [] S.2.2.2 S.1 S.2.1 → SV (F Ts c S).2 ∧ rfd Ts c wd0 [] (F Ts c S).2.2.2.2 (F Ts c S).2.1 (F Ts c S).2.2.1)
    (hc : ∀ {M : rf_M} {n c : Nat}, cJ fz L xs M n c → gx (cx0 fz) (2000, 80000) jx 0 (lv_args 0 (.ref 22 :: as)) [] (M, (HK fz L xs).2) (fun r h' => ∃ (z : Int32) (M' : rf_M), r = some (.int z) ∧ h' = (M', (HK fz L xs).2) ∧ cJ fz L xs M' n c ∧ (∀ k, M'.1 23 k = M.1 23 k) ∧ (∀ i k, i < 12 → M'.1 (25 + 12 * i) k = M.1 (25 + 12 * i) k) ∧ ∀ a k, 353 ≤ a → sx_same M M' a k))
    (hx : ∀ M Ts c S n0, SI Ts c S → SV S → RPS M Ts c S → RPX9 M Ts c S → gi M 22 3 = (c : Int) → kfr M → lx (cx0 fz) n0 jx 0 (lv_args 0 (.ref 22 :: as)) [] (M, (HK fz L xs).2) (vl_i 22 353 M (HK fz L xs).2 (fun z M' => (b' = true → z = (F Ts c S).1) ∧ RPS M' Ts c (F Ts c S).2 ∧ RPX9 M' Ts c (F Ts c S).2)))
    (hm : ∀ M Ts c S n0, SI Ts c S → RRS M Ts c S → gi M 353 11 = (c : Int) → rfd Ts c wd0 [] S.2.2.2 S.1 S.2.1 → kfr M → lx (cx0 fz) n0 jm 0 (lv_args 0 (.ref 353 :: as)) [] (M, (HK fz L xs).2) (vl_i 353 406 M (HK fz L xs).2 (fun z M' => (b' = true → z = (F Ts c S).1) ∧ RRS M' Ts c (F Ts c S).2))) : lw_I (cx0 fz) (HK fz L xs).2 xs (JF9 fz L xs) b' jx jm as := by
  refine up9_I (P := fun M z M1 => ∃ Ts c S, (SI Ts c S ∧ RRS M Ts c S ∧ gi M 353 11 = (c : Int) ∧ SV S ∧ rfd Ts c wd0 [] S.2.2.2 S.1 S.2.1) ∧ M1.1 22 3 = nI c ∧ (b' = true → z = (F Ts c S).1) ∧ RPS M1 Ts c (F Ts c S).2 ∧ RPX9 M1 Ts c (F Ts c S).2) (R := fun M z M1 z' M2 => ∃ Ts c S, (SI Ts c S ∧ SV S ∧ rfd Ts c wd0 [] S.2.2.2 S.1 S.2.1) ∧ M1.1 22 3 = nI c ∧ (b' = true → z = (F Ts c S).1) ∧ RPS M1 Ts c (F Ts c S).2 ∧ RPX9 M1 Ts c (F Ts c S).2 ∧ (b' = true → z' = (F Ts c S).1) ∧ RRS M2 Ts c (F Ts c S).2) hQ ?_ ?_ ?_
  · intro M hJ n0
    obtain ⟨⟨n, c', hc', hm'⟩, hk, Ts, c, S, ⟨e22, e11⟩, hS, hP, hR, hX, hV, hr⟩ := hJ
    have h12 := hS.1.1
    have ec : c' = c := nI_inj (by have := JJ.c12 hc'; omega) (by omega) (hc'.2.2.2.1.symm.trans e22)
    subst ec
    have g22 : gi M 22 3 = (c' : Int) := by show (M.1 22 3).toInt = _; rw [e22, nI_int (by omega)]
    refine lx_mono (lx_and (lx_gx (hc hc') n0) (hx M Ts c' S n0 hS hV hP hX g22 hk)) ?_
    rintro r h' ⟨⟨z, M1, rfl, rfl, cj, -⟩, z0, M1', e1, e2, f, iz, q1, q2, q3⟩
    obtain rfl : M1 = M1' := (Prod.mk.inj e2).1
    exact ⟨z0, M1, e1, rfl, f, iz, Ts, c', S, ⟨hS, hR, e11, hV, hr⟩, cj.2.2.2.1, q1, q2, q3⟩
  · rintro M z M1 hJ ⟨Ts, c, S, ⟨hS, hR, e11, hV, hr⟩, e22, q1, q2, q3⟩ f n0
    have hR1 : RRS M1 Ts c S := hR.fr hS (fun b k hb => ⟨(f.1 b k (by omega)).1, (f.1 b k (by omega)).2.1⟩)
    have g11 : gi M1 353 11 = (c : Int) := (congrArg Int32.toInt (f.1 353 11 (by omega)).1).trans e11
    refine lx_mono (hm M1 Ts c S n0 hS hR1 g11 hr f.2) ?_
    rintro r h' ⟨z', M2, e1, e2, f2, iz, p1, p2⟩
    exact ⟨z', M2, e1, e2, f2, iz, Ts, c, S, ⟨hS, hV, hr⟩, e22, q1, q2, q3, p1, p2⟩
  · rintro M z M1 z' M2 hJ - f1 ⟨Ts, c, S, ⟨hS, hV, hr⟩, e22, q1, q2, q3, p1, p2⟩ f2 ⟨n2, c2, hc2, hm2⟩
    have hS' := hSI Ts c S hS
    have hV' := hSV Ts c S hS hV hr
    have h12 := hS.1.1
    have e22' : M2.1 22 3 = nI c := (f2.1 22 3 (by omega)).1.trans e22
    have ec : c2 = c := nI_inj (by have := JJ.c12 hc2; omega) (by omega) (hc2.2.2.2.1.symm.trans e22')
    subst ec
    exact ⟨⟨Ts, c2, _, ⟨e22', hm2.1.2.1⟩, hS', q2.fr hS' (fun b k hb => f2.1 b k (by omega)), p2, q3.fr (fun b k hb hb' => f2.1 b k (by omega)), hV'.1, hV'.2⟩, fun w => (q1 w).trans (p1 w).symm⟩
theorem up9_FL (F : syT → Int64) (hQ : lw_L (cx0 fz) (HK fz L xs).2 xs (JJ fz L xs) b jx jm as)
    (hc : ∀ {M : rf_M} {n c : Nat}, cJ fz L xs M n c → gx (cx0 fz) (2000, 80000) jx 0 (lv_args 0 (.ref 22 :: as)) [] (M, (HK fz L xs).2) (fun r h' => ∃ (z : Int64) (M' : rf_M), r = some (.long z) ∧ h' = (M', (HK fz L xs).2) ∧ cJ fz L xs M' n c ∧ (∀ k, M'.1 23 k = M.1 23 k) ∧ (∀ i k, i < 12 → M'.1 (25 + 12 * i) k = M.1 (25 + 12 * i) k) ∧ ∀ a k, 353 ≤ a → sx_same M M' a k))
    (hx : ∀ M Ts c S n0, SI Ts c S → RPS M Ts c S → RPX9 M Ts c S → kfr M → lx (cx0 fz) n0 jx 0 (lv_args 0 (.ref 22 :: as)) [] (M, (HK fz L xs).2) (vl_l 22 353 M (HK fz L xs).2 (fun z M' => z = F S ∧ RPS M' Ts c S ∧ RPX9 M' Ts c S)))
    (hm : ∀ M Ts c S n0, SI Ts c S → RRS M Ts c S → kfr M → lx (cx0 fz) n0 jm 0 (lv_args 0 (.ref 353 :: as)) [] (M, (HK fz L xs).2) (vl_l 353 406 M (HK fz L xs).2 (fun z M' => z = F S ∧ RRS M' Ts c S))) : lw_L (cx0 fz) (HK fz L xs).2 xs (JF9 fz L xs) b' jx jm as := by
  refine up9_L (P := fun M z M1 => ∃ Ts c S, (SI Ts c S ∧ RRS M Ts c S ∧ SV S ∧ rfd Ts c wd0 [] S.2.2.2 S.1 S.2.1) ∧ M1.1 22 3 = nI c ∧ z = F S ∧ RPS M1 Ts c S ∧ RPX9 M1 Ts c S) (R := fun M z M1 z' M2 => ∃ Ts c S, (SI Ts c S ∧ SV S ∧ rfd Ts c wd0 [] S.2.2.2 S.1 S.2.1) ∧ M1.1 22 3 = nI c ∧ z = F S ∧ RPS M1 Ts c S ∧ RPX9 M1 Ts c S ∧ z' = F S ∧ RRS M2 Ts c S) hQ ?_ ?_ ?_
  · intro M hJ n0
    obtain ⟨⟨n, c', hc', hm'⟩, hk, Ts, c, S, ⟨e22, e11⟩, hS, hP, hR, hX, hV, hr⟩ := hJ
    have h12 := hS.1.1
    have ec : c' = c := nI_inj (by have := JJ.c12 hc'; omega) (by omega) (hc'.2.2.2.1.symm.trans e22)
    subst ec
    refine lx_mono (lx_and (lx_gx (hc hc') n0) (hx M Ts c' S n0 hS hP hX hk)) ?_
    rintro r h' ⟨⟨z, M1, rfl, rfl, cj, -⟩, z0, M1', e1, e2, f, q1, q2, q3⟩
    obtain rfl : M1 = M1' := (Prod.mk.inj e2).1
    exact ⟨z0, M1, e1, rfl, f, Ts, c', S, ⟨hS, hR, hV, hr⟩, cj.2.2.2.1, q1, q2, q3⟩
  · rintro M z M1 hJ ⟨Ts, c, S, ⟨hS, hR, hV, hr⟩, e22, q1, q2, q3⟩ f n0
    have hR1 : RRS M1 Ts c S := hR.fr hS (fun b k hb => ⟨(f.1 b k (by omega)).1, (f.1 b k (by omega)).2.1⟩)
    refine lx_mono (hm M1 Ts c S n0 hS hR1 f.2) ?_
    rintro r h' ⟨z', M2, e1, e2, f2, p1, p2⟩
    exact ⟨z', M2, e1, e2, f2, Ts, c, S, ⟨hS, hV, hr⟩, e22, q1, q2, q3, p1, p2⟩
  · rintro M z M1 z' M2 hJ - f1 ⟨Ts, c, S, ⟨hS, hV, hr⟩, e22, q1, q2, q3, p1, p2⟩ f2 ⟨n2, c2, hc2, hm2⟩
    have h12 := hS.1.1
    have e22' : M2.1 22 3 = nI c := (f2.1 22 3 (by omega)).1.trans e22
    have ec : c2 = c := nI_inj (by have := JJ.c12 hc2; omega) (by omega) (hc2.2.2.2.1.symm.trans e22')
    subst ec
    exact ⟨⟨Ts, c2, _, ⟨e22', hm2.1.2.1⟩, hS, q2.fr hS (fun b k hb => f2.1 b k (by omega)), p2, q3.fr (fun b k hb hb' => f2.1 b k (by omega)), hV, hr⟩, fun _ => q1.trans p1.symm⟩
theorem gro.x {M M' : rf_M} {Ts : tsT} {c : Nat} {S S' : syT} (g : gro Ts c S S') (h : RPX9 M Ts c S) (e : ∀ b k, 331 ≤ b → b ≤ 336 → M'.1 b k = M.1 b k ∧ M'.2.1 b k = M.2.1 b k ∧ M'.2.2 b k = M.2.2 b k) : RPX9 M' Ts c S' := by
  obtain ⟨d, w1, rs1, h1, h2, h3, h4⟩ := h.fr e
  obtain ⟨g1, g2⟩ := g.2 w1 rs1 d h2 h4
  exact ⟨d, w1, rs1, h1, g1, h3, g2⟩
theorem gro.r {Ts : tsT} {c : Nat} {S S' : syT} (g : gro Ts c S S') (h : rfd Ts c wd0 [] S.2.2.2 S.1 S.2.1) : SV S' ∧ rfd Ts c wd0 [] S'.2.2.2 S'.1 S'.2.1 := ⟨g.1, (g.2 wd0 [] 0 (Nat.zero_le _) h).2⟩
theorem hx39 {M : rf_M} {Ts : tsT} {c n0 : Nat} {S S' : syT} {a : Int} {ls : rf_L} {Sg : gS} (g : gro Ts c S S') (hl : RPX9 M Ts c S) (h : lx (cx0 fz) n0 jx 0 ls [] (M, Sg) (vl_i 22 331 M Sg (fun z M' => z = a ∧ RPS M' Ts c S'))) : lx (cx0 fz) n0 jx 0 ls [] (M, Sg) (vl_i 22 353 M Sg (fun z M' => (b' = true → z = a) ∧ RPS M' Ts c S' ∧ RPX9 M' Ts c S')) := by
  refine lx_mono h ?_
  rintro r h' ⟨z, M', e1, e2, f, iz, q1, q2⟩
  exact ⟨z, M', e1, e2, f.up, iz, fun _ => q1, q2, g.x hl (fun b k hb hb' => f.1 b k (by omega))⟩
theorem hx39L {M : rf_M} {Ts : tsT} {c n0 : Nat} {S' : syT} {a : Int64} {ls : rf_L} {Sg : gS} (hl : RPX9 M Ts c S') (h : lx (cx0 fz) n0 jx 0 ls [] (M, Sg) (vl_l 22 331 M Sg (fun z M' => z = a ∧ RPS M' Ts c S'))) : lx (cx0 fz) n0 jx 0 ls [] (M, Sg) (vl_l 22 353 M Sg (fun z M' => z = a ∧ RPS M' Ts c S' ∧ RPX9 M' Ts c S')) := by
  refine lx_mono h ?_
  rintro r h' ⟨z, M', e1, e2, f, q1, q2⟩
  exact ⟨z, M', e1, e2, f.up, q1, q2, hl.fr (fun b k hb hb' => f.1 b k (by omega))⟩
theorem gro_trnF {z : Int} {Ts : tsT} {c : Nat} {S : syT} (h : SI Ts c S) (hv : SV S) : gro Ts c S (trnF z Ts c S).2 := by
  unfold trnF
  split
  · exact gro_trn h hv (by omega)
  · exact gro.rfl' hv
theorem gro_plyF {s : Int64} {n : Int} {Ts : tsT} {c : Nat} {S : syT} (h : SI Ts c S) (hv : SV S) : gro Ts c S (plyF s n Ts c S).2 := by
  unfold plyF
  split
  · exact gro_ply _ _ _ _ h hv
  · exact gro.rfl' hv
theorem x_clear9 {M : rf_M} {Ts : tsT} {c0 : Nat} {S : syT} {K : Int → rf_M → Prop} (kk : ∀ z M', RPX9 M' Ts c0 (clrS S).2 → K z M') : em_M_clear M K := by
  intro M1 e1
  refine x_Sreset (st := 187) (fun M2 y2 w2 r2 => x_Sreset (st := 332) (fun M3 y3 w3 r3 M4 e4 M5 e5 => ?_))
  have k1 : gi M5 331 1 = 0 := by rw [e5, gi_of (Or.inr (by omega)), e4, gi_at (inr_z (by omega) (by omega))]
  have k3 : gi M5 331 2 = 1 := by rw [e5, gi_at (inr_z (by omega) (by omega))]
  have k2 : gi M5 332 2 = 0 := by rw [e5, gi_of (Or.inl (by omega)), e4, gi_of (Or.inl (by omega))]; exact r3
  have y5 : eqy (fun b k => b = 331 ∧ (k = 1 ∨ k = 2)) M3 M5 := by rw [e5, e4]; exact ((eqy.rfl' _).wi ⟨rfl, by omega⟩).wi ⟨rfl, by omega⟩
  have w5 : weq wd0 (wS M5 332) := w3.eqP y5 (fun b k z => by omega)
  refine ⟨fun v1 v2 M' => ∃ j : Nat, v2 = (j : Int) ∧ j ≤ 8 ∧ eqy (fun b k => (196 ≤ b ∧ b < 324)) M5 M', ⟨0, rfl, by omega, eqy.rfl' _⟩, ?_⟩
  rintro v1 v2 M6 - - ⟨j, rfl, hj, y6⟩
  refine ⟨fun h M7 e7 => ?_, fun h _ => ?_⟩
  · have y7 : eqy (fun b k => b = 22 ∧ k = 4) M6 M7 := by rw [e7]; exact (eqy.rfl' _).wi ⟨rfl, rfl⟩
    refine kk _ M7 ⟨0, wd0, [], (y7.i (by omega)).trans ((y6.i (by omega)).trans k1), Nat.zero_le _, ⟨(y7.i (by omega)).trans ((y6.i (by omega)).trans k3), (w5.eqP y6 (fun b k z => by omega)).eqP y7 (fun b k z => by omega), (y7.i (by omega)).trans ((y6.i (by omega)).trans k2), fun j hj => absurd hj (by show ¬ j < 0; omega)⟩, rfl, rfl⟩
  · rw [clA_]
    intro M7 e7 M8 e8 M9 e9 M10 e10
    have y10 : eqy (fun b k => b = 196 + 16 * j ∧ (k = 0 ∨ k = 5 ∨ k = 1 ∨ k = 2)) M6 M10 := by
      rw [e10, e9, e8, e7]
      exact ((((eqy.rfl' _).wi ⟨rfl, by omega⟩).wi ⟨rfl, by omega⟩).wi ⟨rfl, by omega⟩).wi ⟨rfl, by omega⟩
    exact ⟨inr_z (by omega) (by omega), j + 1, by omega, by omega, y6.trans (y10.mono (fun b k h => by omega))⟩
end UP9
/-! THE PAIRS, EXACTLY, with replays -/
section GP9
variable (fz : Bool) (L : Nat) (xs : Nat → Int32) (b' : Bool)
theorem G9_put (a0 : Int32) (a1 : Int64) : lw_I (cx0 fz) (HK fz L xs).2 xs (JF9 fz L xs) b' 59 184 [.int a0, .long a1] :=
  up9_FI (fun Ts _ S => putS Ts S a0.toInt a1) (Q_put fz L xs a0 a1) (fun _ _ _ h => SI_put h) (fun _ _ _ h hv hr => (gro_put h hv).r hr) (fun h => cq_put fz L xs h a0 a1)
    (fun M Ts c S n0 hS hV hP hX g22 hk => by rw [← zv_i a0]; exact hx39 (gro_put hS hV) hX (H_M_put_m (rl_HK fz L xs) (fl.rfl' hk) (inr_ti a0) (x_put hS hP (fun M' h => ⟨rfl, h⟩))))
    (fun M Ts c S n0 hS hR g11 hr hk => by rw [← zv_i a0]; exact E_W_put_m (rl_HK fz L xs) (fl.rfl' hk) (inr_ti a0) (y_put hS hR (fun M' h => ⟨fun _ => rfl, h⟩)))
theorem G9_version (a0 : Int32) : lw_I (cx0 fz) (HK fz L xs).2 xs (JF9 fz L xs) b' 80 186 [.int a0] :=
  up9_FI (fun _ _ S => (verS S a0.toInt, S)) (Q_version fz L xs a0) (fun _ _ _ h => h) (fun _ _ _ h hv hr => ⟨hv, hr⟩) (fun h => cq_version fz L xs h a0)
    (fun M Ts c S n0 hS hV hP hX g22 hk => by rw [← zv_i a0]; exact hx39 (gro.rfl' hV) hX (H_M_version_m (rl_HK fz L xs) (fl.rfl' hk) (inr_ti a0) (x_version hP ⟨rfl, hP⟩)))
    (fun M Ts c S n0 hS hR g11 hr hk => by rw [← zv_i a0]; exact E_W_version_m (rl_HK fz L xs) (fl.rfl' hk) (inr_ti a0) (y_version hS hR (fun M' h => ⟨fun _ => rfl, h⟩)))
theorem G9_add (a0 a1 : Int32) : lw_I (cx0 fz) (HK fz L xs).2 xs (JF9 fz L xs) b' 81 187 [.int a0, .int a1] :=
  up9_FI (fun _ c S => addS c S a0.toInt a1.toInt) (Q_add fz L xs a0 a1) (fun _ _ _ h => SI_add h) (fun _ _ _ h hv hr => (gro_add h hv).r hr) (fun h => cq_add fz L xs h a0 a1)
    (fun M Ts c S n0 hS hV hP hX g22 hk => by rw [← zv_i a0, ← zv_i a1]; exact hx39 (gro_add hS hV) hX (H_M_add_m (rl_HK fz L xs) (fl.rfl' hk) (inr_ti a0) (inr_ti a1) (x_add hS hP g22 (fun M' h => ⟨rfl, h⟩))))
    (fun M Ts c S n0 hS hR g11 hr hk => by rw [← zv_i a0, ← zv_i a1]; exact E_W_add_m (rl_HK fz L xs) (fl.rfl' hk) (inr_ti a0) (inr_ti a1) (y_add hS hR g11 (fun M' h => ⟨fun _ => rfl, h⟩)))
theorem G9_turn (a0 : Int32) : lw_I (cx0 fz) (HK fz L xs).2 xs (JF9 fz L xs) b' 84 154 [.int a0] :=
  up9_FI (trnF a0.toInt) (Q_turn fz L xs a0) (fun _ _ _ h => SI_trnF h) (fun _ _ _ h hv hr => (gro_trnF h hv).r hr) (fun h => cq_turn fz L xs h a0)
    (fun M Ts c S n0 hS hV hP hX g22 hk => by rw [← zv_i a0]; exact hx39 (gro_trnF hS hV) hX (H_M_turn_m (rl_HK fz L xs) (fl.rfl' hk) (inr_ti a0) (x_turn hS hP (fun w M' h => by unfold trnF; rw [if_pos w]; exact ⟨rfl, h⟩) (fun w => by unfold trnF; rw [if_neg w]; exact ⟨rfl, hP⟩))))
    (fun M Ts c S n0 hS hR g11 hr hk => by rw [← zv_i a0]; exact E_W_turn_m (rl_HK fz L xs) (fl.rfl' hk) (inr_ti a0) (y_turn hS hR (fun w M' h => by unfold trnF; rw [if_pos w]; exact ⟨fun _ => rfl, h⟩) (fun w M' h => by unfold trnF; rw [if_neg w]; exact ⟨fun _ => rfl, h⟩)))
theorem G9_play (a0 : Int64) (a1 : Int32) : lw_I (cx0 fz) (HK fz L xs).2 xs (JF9 fz L xs) b' 108 183 [.long a0, .int a1] :=
  up9_FI (plyF a0 a1.toInt) (Q_play fz L xs a0 a1) (fun _ _ _ h => SI_plyF h) (fun _ _ _ h hv hr => (gro_plyF h hv).r hr) (fun h => cq_play fz L xs h a0 a1)
    (fun M Ts c S n0 hS hV hP hX g22 hk => by rw [← zv_i a1]; exact hx39 (gro_plyF hS hV) hX (H_M_play_m (rl_HK fz L xs) (fl.rfl' hk) (inr_ti a1) (x_play hS hP (fun w M' h => by unfold plyF; rw [if_pos w]; exact ⟨rfl, h⟩) (fun w => by unfold plyF; rw [if_neg w]; exact ⟨rfl, hP⟩))))
    (fun M Ts c S n0 hS hR g11 hr hk => by rw [← zv_i a1]; exact E_W_play_m (rl_HK fz L xs) (fl.rfl' hk) (inr_ti a1) (y_play hS hR (fun w M' h => by unfold plyF; rw [if_pos w]; exact ⟨fun _ => rfl, h⟩) (fun w M' h => by unfold plyF; rw [if_neg w]; exact ⟨fun _ => rfl, h⟩)))
theorem G9_rules : lw_I (cx0 fz) (HK fz L xs).2 xs (JF9 fz L xs) b' 112 190 [] :=
  up9_FI (fun _ _ S => ((S.2.1.length : Int), S)) (Q_rules fz L xs) (fun _ _ _ h => h) (fun _ _ _ h hv hr => ⟨hv, hr⟩) (fun h => cq_rules fz L xs h)
    (fun M Ts c S n0 hS hV hP hX g22 hk => hx39 (gro.rfl' hV) hX (H_M_rules_m (rl_HK fz L xs) (fl.rfl' hk) (x_rules hP ⟨rfl, hP⟩)))
    (fun M Ts c S n0 hS hR g11 hr hk => E_W_rules_m (rl_HK fz L xs) (fl.rfl' hk) (y_rules hS hR (fun M' h => ⟨fun _ => rfl, h⟩)))
theorem G9_rows : lw_I (cx0 fz) (HK fz L xs).2 xs (JF9 fz L xs) b' 113 191 [] :=
  up9_FI (fun _ _ S => ((S.2.2.2.length : Int), S)) (Q_rows fz L xs) (fun _ _ _ h => h) (fun _ _ _ h hv hr => ⟨hv, hr⟩) (fun h => cq_rows fz L xs h)
    (fun M Ts c S n0 hS hV hP hX g22 hk => hx39 (gro.rfl' hV) hX (H_M_rows_m (rl_HK fz L xs) (fl.rfl' hk) (x_rows hP ⟨rfl, hP⟩)))
    (fun M Ts c S n0 hS hR g11 hr hk => E_W_rows_m (rl_HK fz L xs) (fl.rfl' hk) (y_rows hS hR (fun M' h => ⟨fun _ => rfl, h⟩)))
theorem G9_row (a0 a1 : Int32) : lw_I (cx0 fz) (HK fz L xs).2 xs (JF9 fz L xs) b' 114 192 [.int a0, .int a1] :=
  up9_FI (fun _ _ S => (rowS S a0.toInt a1.toInt, S)) (Q_row fz L xs a0 a1) (fun _ _ _ h => h) (fun _ _ _ h hv hr => ⟨hv, hr⟩) (fun h => cq_row fz L xs h a0 a1)
    (fun M Ts c S n0 hS hV hP hX g22 hk => by rw [← zv_i a0, ← zv_i a1]; exact hx39 (gro.rfl' hV) hX (H_M_row_m (rl_HK fz L xs) (fl.rfl' hk) (inr_ti a0) (inr_ti a1) (x_row hS hP ⟨rfl, hP⟩)))
    (fun M Ts c S n0 hS hR g11 hr hk => by rw [← zv_i a0, ← zv_i a1]; exact E_W_row_m (rl_HK fz L xs) (fl.rfl' hk) (inr_ti a0) (inr_ti a1) (y_row hS hR (fun M' h => ⟨fun _ => rfl, h⟩)))
theorem G9_cell (a0 : Int32) : lw_L (cx0 fz) (HK fz L xs).2 xs (JF9 fz L xs) b' 79 185 [.int a0] :=
  up9_FL (fun S => celS S a0.toInt) (Q_cell fz L xs a0) (fun h => cq_cell fz L xs h a0)
    (fun M Ts c S n0 hS hP hL hk => by rw [← zv_i a0]; exact hx39L hL (H_M_cell_m (rl_HK fz L xs) (fl.rfl' hk) (inr_ti a0) (x_cell hP ⟨rfl, hP⟩)))
    (fun M Ts c S n0 hS hR hk => by rw [← zv_i a0]; exact E_W_cell_m (rl_HK fz L xs) (fl.rfl' hk) (inr_ti a0) (y_cell hS hR (fun M' h => ⟨rfl, h⟩)))
theorem G9_value (a0 : Int32) : lw_L (cx0 fz) (HK fz L xs).2 xs (JF9 fz L xs) b' 117 193 [.int a0] :=
  up9_FL (fun S => valS S a0.toInt) (Q_value fz L xs a0) (fun h => cq_value fz L xs h a0)
    (fun M Ts c S n0 hS hP hL hk => by rw [← zv_i a0]; exact hx39L hL (H_M_value_m (rl_HK fz L xs) (fl.rfl' hk) (inr_ti a0) (x_value hS hP ⟨rfl, hP⟩)))
    (fun M Ts c S n0 hS hR hk => by rw [← zv_i a0]; exact E_W_value_m (rl_HK fz L xs) (fl.rfl' hk) (inr_ti a0) (y_value hS hR (fun M' h => ⟨rfl, h⟩)))
theorem G9_sees (a0 a1 : Int32) : lw_L (cx0 fz) (HK fz L xs).2 xs (JF9 fz L xs) b' 111 189 [.int a0, .int a1] :=
  up9_FL (fun S => seesS S a0.toInt a1.toInt) (Q_sees fz L xs a0 a1) (fun h => cq_sees fz L xs h a0 a1)
    (fun M Ts c S n0 hS hP hL hk => by rw [← zv_i a0, ← zv_i a1]; exact hx39L hL (H_M_sees_m (rl_HK fz L xs) (fl.rfl' hk) (inr_ti a0) (inr_ti a1) (x_sees hS hP ⟨rfl, hP⟩)))
    (fun M Ts c S n0 hS hR hk => by rw [← zv_i a0, ← zv_i a1]; exact E_W_sees_m (rl_HK fz L xs) (fl.rfl' hk) (inr_ti a0) (inr_ti a1) (y_sees hS hR (fun M' h => ⟨rfl, h⟩)))
theorem G9_clear : lw_I (cx0 fz) (HK fz L xs).2 xs (JF9 fz L xs) b' 122 197 [] :=
  up9_FI (fun _ _ S => clrS S) (Q_clear fz L xs) (fun _ _ _ h => SI_clr h) (fun _ _ _ _ _ _ => ⟨fun _ _ (q : (0 : Nat) ≠ 0) => absurd rfl q, rfl, rfl⟩) (fun h => cq_clear fz L xs h)
    (fun M Ts c S n0 hS hV hP hX g22 hk => by
      refine lx_mono (lx_and (E_M_clear_m (K := fun z M' => z = (clrS S).1 ∧ RPS M' Ts c (clrS S).2) (rl_HK fz L xs) (fl.rfl' hk) (x_clear hS hP (fun M' h => ⟨rfl, h⟩))) (E_M_clear_m (K := fun _ M' => RPX9 M' Ts c (clrS S).2) (rl_HK fz L xs) (fl.rfl' hk) (x_clear9 (fun _ M' h => h)))) ?_
      rintro r h' ⟨⟨z, M', e1, e2, f, iz, q1, q2⟩, z0, M0, e3, e4, -, -, q3⟩
      have em : M0 = M' := (Prod.mk.inj (e4.symm.trans e2)).1
      rw [em] at q3
      exact ⟨z, M', e1, e2, f, iz, fun _ => q1, q2, q3⟩)
    (fun M Ts c S n0 hS hR g11 hr hk => E_W_clear_m (rl_HK fz L xs) (fl.rfl' hk) (y_clear hS hR (fun M' h => ⟨fun _ => rfl, h⟩)))
theorem G9_replays : lw_I (cx0 fz) (HK fz L xs).2 xs (JF9 fz L xs) b' 118 194 [] :=
  up9_FI (fun _ _ S => (1, S)) (Q_replays fz L xs) (fun _ _ _ h => h) (fun _ _ _ h hv hr => ⟨hv, hr⟩) (fun h => cq_replays fz L xs h)
    (fun M Ts c S n0 hS hV hP hX g22 hk => E_M_replays_m (rl_HK fz L xs) (fl.rfl' hk) (x_rep9 hS hP hX (fun M' h1 h2 => ⟨fun _ => rfl, h1, h2⟩)))
    (fun M Ts c S n0 hS hR g11 hr hk => E_W_replays_m (rl_HK fz L xs) (fl.rfl' hk) (y_rep9 hS hR hr (fun M' h => ⟨fun _ => rfl, h⟩)))
end GP9
/-! THE OTHER PAIRS, with replays; the beginning -/
section QT9
variable {fz : Bool} {L : Nat} {xs : Nat → Int32} {jx jm : Nat} {as : List Value} {b : Bool}
theorem up9_QI {md : List (Nat × Nat)} (hmd : qmd md = true) (hQ : lw_I (cx0 fz) (HK fz L xs).2 xs (JJ fz L xs) b jx jm as)
    (hc : ∀ {M : rf_M}, sx_in (xk_W fz L xs) M → gx (cx0 fz) (2000, 80000) jx 0 (lv_args 0 (.ref 22 :: as)) [] (M, (HK fz L xs).2) (fun r h' => ∃ (z : Int32) (M' : rf_M), r = some (.int z) ∧ h' = (M', (HK fz L xs).2) ∧ sx_in (xk_W fz L xs) M' ∧ sx_fr (xk_W fz L xs) md M M'))
    (hm : ∀ M Ts c S n n0, SI Ts c S → RRS M Ts c S → gi M 353 2 = ((n : Nat) : Int) → n ≤ 800 → kfr M → lx (cx0 fz) n0 jm 0 (lv_args 0 (.ref 353 :: as)) [] (M, (HK fz L xs).2) (vl_i 353 406 M (HK fz L xs).2 (fun _ M' => RRS M' Ts c S))) : lw_I (cx0 fz) (HK fz L xs).2 xs (JF9 fz L xs) false jx jm as := by
  refine up9_I (P := fun M z M1 => ∃ Ts c S, ∃ n : Nat, (SI Ts c S ∧ RRS M Ts c S ∧ gi M 353 2 = (n : Int) ∧ n ≤ 800 ∧ SV S ∧ rfd Ts c wd0 [] S.2.2.2 S.1 S.2.1) ∧ M1.1 22 3 = nI c ∧ RPS M1 Ts c S ∧ RPX9 M1 Ts c S) (R := fun M z M1 z' M2 => ∃ Ts c S, (SI Ts c S ∧ SV S ∧ rfd Ts c wd0 [] S.2.2.2 S.1 S.2.1) ∧ M1.1 22 3 = nI c ∧ RPS M1 Ts c S ∧ RPX9 M1 Ts c S ∧ RRS M2 Ts c S) hQ ?_ ?_ ?_
  · intro M hJ n0
    obtain ⟨⟨n, c', hc', hm'⟩, hk, Ts, c, S, ⟨e22, e11⟩, hS, hP, hR, hX, hV, hr⟩ := hJ
    have h12 := hS.1.1
    refine lx_mono (lx_gx (hc hc'.1) n0) ?_
    rintro r h' ⟨z, M1, rfl, rfl, -, fr⟩
    obtain ⟨f, f22, f24⟩ := sq_fl hmd fr hk
    refine ⟨z.toInt, M1, by rw [zv_i], rfl, f, inr_ti z, Ts, c, S, n, ⟨hS, hR, hm'.2.1.1, hm'.2.1.2.1, hV, hr⟩, f22.trans e22, hP.fr hS (fun b k hb => ?_), hX.fr (fun b k hb hb' => ?_)⟩
    · have := f24 b k (by omega)
      exact ⟨this.1, this.2.1, this.2.2⟩
    · have := f24 b k (by omega)
      exact ⟨this.1, this.2.1, this.2.2⟩
  · rintro M z M1 hJ ⟨Ts, c, S, n, ⟨hS, hR, e2, hn, hV, hr⟩, e22, q2, q3⟩ f n0
    have hR1 : RRS M1 Ts c S := hR.fr hS (fun b k hb => ⟨(f.1 b k (by omega)).1, (f.1 b k (by omega)).2.1⟩)
    have g2 : gi M1 353 2 = (n : Int) := (congrArg Int32.toInt (f.1 353 2 (by omega)).1).trans e2
    refine lx_mono (hm M1 Ts c S n n0 hS hR1 g2 hn f.2) ?_
    rintro r h' ⟨z', M2, e1, e2, f2, iz, p2⟩
    exact ⟨z', M2, e1, e2, f2, iz, Ts, c, S, ⟨hS, hV, hr⟩, e22, q2, q3, p2⟩
  · rintro M z M1 z' M2 hJ - f1 ⟨Ts, c, S, ⟨hS, hV, hr⟩, e22, q2, q3, p2⟩ f2 ⟨n2, c2, hc2, hm2⟩
    have h12 := hS.1.1
    have e22' : M2.1 22 3 = nI c := (f2.1 22 3 (by omega)).1.trans e22
    have ec : c2 = c := nI_inj (by have := JJ.c12 hc2; omega) (by omega) (hc2.2.2.2.1.symm.trans e22')
    subst ec
    exact ⟨⟨Ts, c2, _, ⟨e22', hm2.1.2.1⟩, hS, q2.fr hS (fun b k hb => f2.1 b k (by omega)), p2, q3.fr (fun b k hb hb' => f2.1 b k (by omega)), hV, hr⟩, fun w => absurd w (by decide)⟩
theorem RPX9_ext {M : rf_M} {Ts : tsT} {c : Nat} {S : syT} {Y : txT × Nat × Nat × Int} (hS : SI Ts c S) (h : RPX9 M Ts c S) : RPX9 M (exT Ts c Y) (c + 1) S := by
  obtain ⟨d, w1, rs1, h1, h2, h3, h4⟩ := h
  exact ⟨d, w1, rs1, h1, h2, h3, rfd_ext _ _ _ _ _ (fun q hq => (hS.2.1.2 q hq).1) h4⟩
end QT9
section GQ9
variable (fz : Bool) (L : Nat) (xs : Nat → Int32)
theorem G9_feed (a0 a1 a2 a3 a4 : Int32) : lw_I (cx0 fz) (HK fz L xs).2 xs (JF9 fz L xs) false 13 128 [.int a0, .int a1, .int a2, .int a3, .int a4] :=
  up9_QI (md := xk_c_1.2.2.2.1) (by decide +kernel) (Q_feed fz L xs a0 a1 a2 a3 a4) (fun h => cl_feed fz L xs h a0 a1 a2 a3 a4)
    (fun M Ts c S n n0 hS hR e2 hn hk => by rw [← zv_i a0, ← zv_i a1, ← zv_i a2, ← zv_i a3, ← zv_i a4]; exact E_W_feed_m (rl_HK fz L xs) (fl.rfl' hk) (inr_ti a0) (inr_ti a1) (inr_ti a2) (inr_ti a3) (inr_ti a4) (y_feed e2 hn (fun z M' y => hR.tape hS y)))
theorem G9_end (a0 : Int32) : lw_I (cx0 fz) (HK fz L xs).2 xs (JF9 fz L xs) false 15 129 [.int a0] :=
  up9_QI (md := xk_c_2.2.2.2.1) (by decide +kernel) (Q_end fz L xs a0) (fun h => cl_end fz L xs h a0)
    (fun M Ts c S n n0 hS hR e2 hn hk => by rw [← zv_i a0]; exact E_W_end_m (rl_HK fz L xs) (fl.rfl' hk) (inr_ti a0) (y_endc (fun z M' y => hR.tape hS y)))
theorem G9_place : lw_I (cx0 fz) (HK fz L xs).2 xs (JF9 fz L xs) false 56 152 [] :=
  up9_QI (md := xk_c_4.2.2.2.1) (by decide +kernel) (Q_place fz L xs) (fun h => cl_place fz L xs h)
    (fun M Ts c S n n0 hS hR e2 hn hk => E_W_place_m (rl_HK fz L xs) (fl.rfl' hk) (y_placec (fun z M' y => hR.tape hS y)))
theorem G9_told (a0 a1 : Int32) : lw_I (cx0 fz) (HK fz L xs).2 xs (JF9 fz L xs) false 57 153 [.int a0, .int a1] :=
  up9_QI (md := xk_c_5.2.2.2.1) (by decide +kernel) (Q_told fz L xs a0 a1) (fun h => cl_told fz L xs h a0 a1)
    (fun M Ts c S n n0 hS hR e2 hn hk => by rw [← zv_i a0, ← zv_i a1]; exact E_W_told_m (rl_HK fz L xs) (fl.rfl' hk) (inr_ti a0) (inr_ti a1) (y_toldc (fun z M' y => hR.tape hS y)))
theorem G9_client (a0 a1 : Int32) : lw_I (cx0 fz) (HK fz L xs).2 xs (JF9 fz L xs) false 109 188 [.int a0, .int a1] :=
  up9_QI (md := xk_c_12.2.2.2.1) (by decide +kernel) (Q_client fz L xs a0 a1) (fun h => cl_client fz L xs h a0 a1)
    (fun M Ts c S n n0 hS hR e2 hn hk => by rw [← zv_i a0, ← zv_i a1]; exact E_W_client_m (rl_HK fz L xs) (fl.rfl' hk) (inr_ti a0) (inr_ti a1) (y_client hS hR (fun z M' h => h)))
theorem G9_text : lw_I (cx0 fz) (HK fz L xs).2 xs (JF9 fz L xs) false 16 130 [] := by
  refine up9_I (P := fun M z M1 => ∃ Ts c S, ∃ n : Nat, (SI Ts c S ∧ RPS M Ts c S ∧ RRS M Ts c S ∧ RPX9 M Ts c S ∧ gi M 353 11 = (c : Int) ∧ tp M n (M.1 23) ∧ SV S ∧ rfd Ts c wd0 [] S.2.2.2 S.1 S.2.1) ∧ txF c M M1 ∧ (gi M1 22 3 = (c : Int) ∨ (c < 12 ∧ gi M1 22 3 = (c : Int) + 1 ∧ txA (p_T (M.1 23) n) c M1)))
    (R := fun M z M1 z' M2 => ∃ Ts c S, (SI Ts c S ∧ RPS M1 Ts c S ∧ RPX9 M1 Ts c S ∧ RRS M2 Ts c S ∧ SV S ∧ rfd Ts c wd0 [] S.2.2.2 S.1 S.2.1) ∧ (gi M1 22 3 = (c : Int) ∨ (c < 12 ∧ gi M1 22 3 = (c : Int) + 1 ∧ ∃ Y : txT × Nat × Nat × Int, wfx Y.1 Y.2.1 Y.2.2.1 Y.2.2.2 ∧ ptx M1 (25 + 12 * c) Y.1 Y.2.1 Y.2.2.1 Y.2.2.2 ∧ (gi M2 353 11 = (c : Int) ∨ rtx M2 c Y.1 Y.2.1 Y.2.2.1 Y.2.2.2)))) (Q_text fz L xs) ?_ ?_ ?_
  · intro M hJ n0
    obtain ⟨⟨n, c', hc', hm'⟩, hk, Ts, c, S, ⟨e22, e11⟩, hS, hP, hR, hL, hV, hr⟩ := hJ
    have h12 := hS.1.1
    have h8 := hc'.2.2.1.2
    have g22 : gi M 22 3 = (c : Int) := by show (M.1 22 3).toInt = _; rw [e22, nI_int (by omega)]
    have g21 : gi M 22 1 = (n : Int) := by show (M.1 22 1).toInt = _; rw [hc'.2.2.1.1, nI_int (by omega)]
    have htq := (cJ_tq hc').2.2.2 0 (by omega)
    refine l_text (rl_HK fz L xs) (fl.rfl' hk) (x_text g21 h8 g22 h12 htq.1.2.1 htq.2.2 (fun z M1 tf q => ?_)) n0
    refine ⟨Ts, c, S, n, ⟨hS, hP, hR, hL, e11, hm'.2.1, hV, hr⟩, tf, ?_⟩
    rcases q with ⟨-, q⟩ | ⟨-, q1, q2, q3⟩
    · exact Or.inl q
    · exact Or.inr ⟨q1, q2, q3⟩
  · rintro M z M1 hJ ⟨Ts, c, S, n, ⟨hS, hP, hR, hL, e11, htp, hV, hr⟩, tf, q⟩ f n0
    have h12 := hS.1.1
    have hR1 : RRS M1 Ts c S := hR.fr hS (fun b k hb => ⟨(f.1 b k (by omega)).1, (f.1 b k (by omega)).2.1⟩)
    have gf : ∀ b k, 353 ≤ b → gi M1 b k = gi M b k := fun b k hb => congrArg Int32.toInt (f.1 b k (by omega)).1
    have g11 : gi M1 353 11 = (c : Int) := (gf _ _ (by omega)).trans e11
    have htp1 : tp M1 n (M.1 23) := ⟨(gf _ _ (by omega)).trans htp.1, htp.2.1, fun k hk => by rw [gf 354 k (by omega)]; exact htp.2.2 k hk⟩
    have hP1 : RPS M1 Ts c S := hP.fr hS (fun b k hb => ⟨(tf.1 b k (by omega) (by omega) (by omega)).1, (tf.1 b k (by omega) (by omega) (by omega)).2, tf.2 b k (by omega) (by omega)⟩)
    have hL1 : RPX9 M1 Ts c S := hL.fr (fun b k hb hb' => ⟨(tf.1 b k (by omega) (by omega) (by omega)).1, (tf.1 b k (by omega) (by omega) (by omega)).2, tf.2 b k (by omega) (by omega)⟩)
    rcases q with q | ⟨q1, q2, n', j, s, cc, u, first, d1, d2, d3, d4, d5, d6⟩
    · exact E_W_text_m (rl_HK fz L xs) (fl.rfl' f.2) (F_text g11 h12 htp1 (fun z' M2 y _ => ⟨Ts, c, S, ⟨hS, hP1, hL1, hR1.tx hS (Nat.le_refl _) y, hV, hr⟩, Or.inl q⟩))
    · refine E_W_text_m (rl_HK fz L xs) (fl.rfl' f.2) (y_text (X := XP M1 (25 + 12 * c)) (en := first) (S := s) (C := cc) g11 h12 htp1 d4 ⟨n', j, first, u, d1, ⟨fun w => absurd rfl w, fun _ => ⟨fun _ => rfl, fun e ρ he => by cases he⟩⟩, d2, by omega⟩ (fun z' M2 y q' => ⟨Ts, c, S, ⟨hS, hP1, hL1, hR1.tx hS (Nat.le_refl _) y, hV, hr⟩, Or.inr ⟨q1, q2, (XP M1 (25 + 12 * c), s, cc, first), wfx_of (p_T_l _ _) d1 d4 d5 d6, d3, ?_⟩⟩))
      rcases q' with ⟨-, q'⟩ | ⟨-, -, -, q'⟩
      · exact Or.inl q'
      · exact Or.inr q'
  · rintro M z M1 z' M2 hJ - f1 ⟨Ts, c, S, ⟨hS, q2, q3, p2, hV, hrf⟩, q⟩ f2 ⟨n2, c2, hc2, hm2⟩
    have h12 := hS.1.1
    have c12 := JJ.c12 hc2
    have g2 : gi M1 22 3 = (c2 : Int) := by
      have e : gi M2 22 3 = gi M1 22 3 := congrArg Int32.toInt (f2.1 22 3 (by omega)).1
      rw [← e]
      show (M2.1 22 3).toInt = _
      rw [hc2.2.2.2.1, nI_int (by omega)]
    have P2 : RPS M2 Ts c S := q2.fr hS (fun b k hb => f2.1 b k (by omega))
    have L2 : RPX9 M2 Ts c S := q3.fr (fun b k hb hb' => f2.1 b k (by omega))
    refine ⟨?_, fun w => absurd w (by decide)⟩
    rcases q with q | ⟨q1, q4, Y, hY, hp, hr⟩
    · have ec : c2 = c := by omega
      subst ec
      exact ⟨Ts, c2, S, ⟨hc2.2.2.2.1, hm2.1.2.1⟩, hS, P2, p2, L2, hV, hrf⟩
    · have ec : c2 = c + 1 := by omega
      subst ec
      have g11 := hm2.1.2.1
      rcases hr with hr | hr
      · rw [hr] at g11
        omega
      · have hp2 : ptx M2 (25 + 12 * c) Y.1 Y.2.1 Y.2.2.1 Y.2.2.2 := by
          have y : eqy (fun b _ => 353 ≤ b) M1 (M2.1, M2.2.1, M1.2.2) := ⟨fun b k q => ⟨(f2.1 b k (by omega)).1, (f2.1 b k (by omega)).2.1⟩, rfl⟩
          have q := hp.eq y (fun b k z1 z2 => by omega)
          exact q
        exact ⟨exT Ts c Y, c + 1, S, ⟨hc2.2.2.2.1, g11⟩, SI_ext hS q1 hY, RPS_ext hS P2 hp2, RRS_ext hS p2 hr, RPX9_ext hS L2, hV, rfd_ext _ _ _ _ _ (fun q hq => (hS.2.1.2 q hq).1) hrf⟩
end GQ9
theorem zF9 (fz : Bool) : ((List.range 16).all (fun l => decide ((K2 fz).1.1 334 l = 0) && decide ((K2 fz).1.2.1 333 l = 0)) && decide ((K2 fz).1.1 331 2 = 1)) = true := by cases fz <;> decide +kernel
theorem EXJ9_0 {M : rf_M} (e22 : M.1 22 3 = nI 0) (z9 : (∀ l, l < 16 → M.1 334 l = 0 ∧ gl M 333 l = 0) ∧ gi M 331 2 = 1) (z1 : ∀ c, c < 8 → (∀ k ∈ ([0, 1, 2, 5] : List Nat), gi M (196 + 16 * c) k = 0) ∧ ∀ a ∈ ([381, 382, 384, 385] : List Nat), gi M a c = 0) (z2 : ∀ l, l < 16 → M.1 189 l = 0 ∧ M.1 377 l = 0 ∧ gl M 188 l = 0 ∧ gl M 376 l = 0) (z3 : ∀ a k, (a, k) ∈ ([(187, 2), (324, 0), (331, 1), (332, 2), (378, 0), (353, 69), (353, 11)] : List (Nat × Nat)) → 1 < a → gi M a k = 0) : EXJ9 M := by
  refine ⟨fun _ => ((fun _ _ => 0, fun _ => 0, fun _ => 0), 0, 0, -1), 0, (wd0, [], fun _ => clN, []), ⟨e22, z3 353 11 (by decide) (by omega)⟩, ?_, ?_, ?_, ⟨0, wd0, [], z3 331 1 (by decide) (by omega), Nat.zero_le _, ⟨z9.2, fun l hl => ⟨(z9.1 l hl).2, (z9.1 l hl).1⟩, z3 332 2 (by decide) (by omega), fun j hj => absurd hj (by show ¬ j < 0; omega)⟩, rfl, rfl⟩, fun _ _ (q : (0 : Nat) ≠ 0) => absurd rfl q, rfl, rfl⟩
  · refine ⟨⟨by omega, fun t ht => absurd ht (by omega)⟩, ⟨by show 0 ≤ 32; omega, fun q hq => (by cases hq)⟩, by show 0 ≤ 300; omega, fun l _ => ⟨by show (0 : Int) ≤ (0 : Int32).toInt; decide, by show (0 : Int32).toInt ≤ ((0 : Nat) : Int); decide⟩, fun c _ => ?_⟩
    refine ⟨⟨by show 0 ≤ 16; omega, fun t ht => (by cases ht)⟩, ⟨by show (0 : Int) ≤ 0; omega, by show (0 : Int) ≤ ((0 : Nat) : Int); omega⟩, fun (q : false = true) => absurd q (by decide), fun _ => rfl, by show 0 ≤ 2; omega, fun (q : (0 : Nat) = 1) => absurd q (by decide), fun (q : (0 : Nat) ≠ 0) => absurd rfl q⟩
  · refine ⟨fun t ht => absurd ht (by omega), fun l hl => ⟨(z2 l hl).2.2.1, (z2 l hl).1⟩, ⟨z3 187 2 (by decide) (by omega), fun j hj => absurd hj (by show ¬ j < 0; omega)⟩, fun c hc => ?_, z3 324 0 (by decide) (by omega), fun i hi => absurd hi (by show ¬ i < 0; omega)⟩
    have h := (z1 c hc).1
    exact ⟨⟨⟨h 5 (by decide), fun i hi => absurd hi (by show ¬ i < 0; omega)⟩, h 1 (by decide), h 2 (by decide)⟩, h 0 (by decide), fun (q : (0 : Nat) = 1) => absurd q (by decide), fun (q : (0 : Nat) = 2) => absurd q (by decide)⟩
  · refine ⟨fun t ht => absurd ht (by omega), fun l hl => ?_, ⟨z3 378 0 (by decide) (by omega), fun j hj => absurd hj (by show ¬ j < 0; omega)⟩, fun c hc => ?_, z3 353 69 (by decide) (by omega), fun i hi => absurd hi (by show ¬ i < 0; omega)⟩
    · have h := z2 l hl
      refine ⟨?_, ?_⟩
      · show gl M 376 (16 * 0 + l) = 0
        rw [show 16 * 0 + l = l by omega]; exact h.2.2.2
      · show M.1 377 (16 * 0 + l) = 0
        rw [show 16 * 0 + l = l by omega]; exact h.2.1
    · have h := (z1 c hc).2
      exact ⟨⟨⟨h 381 (by decide), fun j hj => absurd hj (by show ¬ j < 0; omega)⟩, h 384 (by decide), h 385 (by decide)⟩, fun (q : (0 : Nat) = 1) => absurd q (by decide), fun _ => Or.inl (h 382 (by decide)), fun (q : (0 : Nat) = 2) => absurd q (by decide)⟩
section ST9
variable (fz : Bool) (L : Nat) (xs : Nat → Int32)
theorem JF9_0 : JF9 fz L xs (HK fz L xs).1 := by
  have z1 : ∀ c, c < 8 → (∀ k ∈ ([0, 1, 2, 5] : List Nat), gi (HK fz L xs).1 (196 + 16 * c) k = 0) ∧ ∀ a ∈ ([381, 382, 384, 385] : List Nat), gi (HK fz L xs).1 a c = 0 := fun c hc => by
    have h := List.all_eq_true.mp (zF1 fz) c (List.mem_range.mpr hc)
    rw [Bool.and_eq_true, List.all_eq_true, List.all_eq_true] at h
    refine ⟨fun k hk => ?_, fun a ha => ?_⟩
    · have := h.1 k hk
      rw [decide_eq_true_eq] at this
      unfold gi
      rw [HK_i fz L xs _ k (by omega), this]
      rfl
    · have := h.2 a ha
      rw [decide_eq_true_eq] at this
      have a1 : 1 < a := by
        simp only [List.mem_cons, List.not_mem_nil, or_false] at ha
        omega
      unfold gi
      rw [HK_i fz L xs a c a1, this]
      rfl
  have z2 : ∀ l, l < 16 → (HK fz L xs).1.1 189 l = 0 ∧ (HK fz L xs).1.1 377 l = 0 ∧ gl (HK fz L xs).1 188 l = 0 ∧ gl (HK fz L xs).1 376 l = 0 := fun l hl => by
    have h := List.all_eq_true.mp (zF2 fz) l (List.mem_range.mpr hl)
    rw [Bool.and_eq_true, Bool.and_eq_true, Bool.and_eq_true, decide_eq_true_eq, decide_eq_true_eq, decide_eq_true_eq, decide_eq_true_eq] at h
    refine ⟨(HK_i fz L xs _ _ (by omega)).trans h.1.1, (HK_i fz L xs _ _ (by omega)).trans h.1.2, (HK_lg fz L xs _ _).trans h.2.1, (HK_lg fz L xs _ _).trans h.2.2⟩
  have z3 : ∀ a k, (a, k) ∈ ([(187, 2), (324, 0), (331, 1), (332, 2), (378, 0), (353, 69), (353, 11)] : List (Nat × Nat)) → 1 < a → gi (HK fz L xs).1 a k = 0 := fun a k hm ha => by
    have := List.all_eq_true.mp (zF3 fz) (a, k) hm
    rw [decide_eq_true_eq] at this
    unfold gi
    rw [HK_i fz L xs a k ha, this]
    rfl
  have z9 : (∀ l, l < 16 → (HK fz L xs).1.1 334 l = 0 ∧ gl (HK fz L xs).1 333 l = 0) ∧ gi (HK fz L xs).1 331 2 = 1 := by
    have h := zF9 fz
    rw [Bool.and_eq_true, decide_eq_true_eq, List.all_eq_true] at h
    refine ⟨fun l hl => ?_, ?_⟩
    · have h2 := h.1 l (List.mem_range.mpr hl)
      rw [Bool.and_eq_true, decide_eq_true_eq, decide_eq_true_eq] at h2
      exact ⟨(HK_i fz L xs _ _ (by omega)).trans h2.1, (HK_lg fz L xs _ _).trans h2.2⟩
    · unfold gi
      rw [HK_i fz L xs _ _ (by omega), h.2]
      rfl
  refine ⟨JJ_0 fz L xs, fun q hq => ?_, EXJ9_0 (cJ_0 fz L xs).2.2.2.1 z9 z1 z2 z3⟩
  have hr := List.all_eq_true.mp (K2_rf fz) q (rfF_K q hq)
  simp only [decide_eq_true_eq] at hr
  rw [HK_r]
  exact hr
end ST9
