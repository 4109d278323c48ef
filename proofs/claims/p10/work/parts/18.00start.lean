/-! THE START: the machine at the law's entry holds the abstract heap at its beginning -/
def si0 : List Nat := [63, 69, 71, 73, 75, 77, 79, 81, 83, 85]
def sl0 : List Nat := [2, 4, 5, 5, 5, 6, 2, 3, 5, 6]
def sb0 : List (List Int32) := [[105, 102], [101, 108, 115, 101], [119, 104, 105, 108, 101], [114, 101, 116, 114, 121], [116, 104, 114, 111, 119], [101, 105, 116, 104, 101, 114], [111, 114], [116, 114, 121], [99, 97, 116, 99, 104], [97, 108, 119, 97, 121, 115]]
def tm0 (i : Nat) : Term := .string "MemoryTransactions$Scanner" (si0.getD i 0)
def h0M (xs : Nat → Int32) : rf_M := (fun a j => if a = 1 then xs j else if a % 2 = 1 then (sb0.getD ((a - 3) / 2) []).getD j 0 else 0, fun _ _ => 0, fun a k => if k = 0 then some (a + 1) else none)
def h0S (L : Nat) : Nat → rf_S := fun a => if a = 1 then .inr (.int, L) else if a % 2 = 1 then .inr (.byte, sl0.getD ((a - 3) / 2) 0) else .inl 0
def h00 (L : Nat) (xs : Nat → Int32) : rf_H := (h0M xs, h0S L, 22, 0)
def ad0 (f b base : Nat) (adK adV : Nat → Nat) : Nat → Nat := fun a => if a = 0 then f else if a = 1 then b else if a < 22 then (if a % 2 = 0 then adK ((a - 2) / 2) else adV ((a - 3) / 2)) else base + (a - 22)
theorem ad0_e (f b base : Nat) (adK adV : Nat → Nat) {i : Nat} (hi : i < 10) : ad0 f b base adK adV (2 + 2 * i) = adK i := by
  unfold ad0
  rw [if_neg (by omega), if_neg (by omega), if_pos (by omega), if_pos (by omega)]
  congr 1
  omega
theorem ad0_o (f b base : Nat) (adK adV : Nat → Nat) {i : Nat} (hi : i < 10) : ad0 f b base adK adV (3 + 2 * i) = adV i := by
  unfold ad0
  rw [if_neg (by omega), if_neg (by omega), if_pos (by omega), if_neg (by omega)]
  congr 1
  omega
theorem fl_ex : ∀ i, i < 10 → Cond.exactly (tm0 i) "java/lang/String" ∈ flatC (Jvm.Cond.and given_1 narrow_1) := by decide +kernel
theorem fl_co : ∀ i, i < 10 → Cond.eq (.field (tm0 i) "java/lang/String" "coder" "B") (.int 0) ∈ flatC (Jvm.Cond.and given_1 narrow_1) := by decide +kernel
theorem fl_ar : ∀ i, i < 10 → Cond.arrayOf (.field (tm0 i) "java/lang/String" "value" "[B") .byte ∈ flatC (Jvm.Cond.and given_1 narrow_1) := by decide +kernel
theorem fl_le : ∀ i, i < 10 → Cond.eq (.length (.field (tm0 i) "java/lang/String" "value" "[B")) (.int (Int32.ofNat (sl0.getD i 0))) ∈ flatC (Jvm.Cond.and given_1 narrow_1) := by decide +kernel
theorem fl_el : ∀ i, i < 10 → ∀ j, j < sl0.getD i 0 → Cond.eq (.elem (.field (tm0 i) "java/lang/String" "value" "[B") (.int (Int32.ofNat j))) (.int ((sb0.getD i []).getD j 0)) ∈ flatC (Jvm.Cond.and given_1 narrow_1) := by decide +kernel
theorem fl_ne : ∀ i, i < 10 → ∀ j, j < 10 → i ≠ j → (Cond.not (Cond.eq (tm0 i) (tm0 j)) ∈ flatC (Jvm.Cond.and given_1 narrow_1) ∨ Cond.not (Cond.eq (tm0 j) (tm0 i)) ∈ flatC (Jvm.Cond.and given_1 narrow_1)) := by decide +kernel
theorem fl_sl : ∀ i, i < 10 → sl0.getD i 0 < 2 ^ 31 := by decide +kernel
theorem fl_cs : Cond.eq (.static "java/lang/String" "COMPACT_STRINGS" "Z") (.int 1) ∈ flatC (Jvm.Cond.and given_1 narrow_1) := by decide +kernel
theorem fl_fm : Cond.isRef (.static "jdk/internal/util/Preconditions" "SIOOBE_FORMATTER" "Ljava/util/function/BiFunction;") ∈ flatC (Jvm.Cond.and given_1 narrow_1) := by decide +kernel
theorem ls_cs : Cond.laysStatic "java/lang/String" "COMPACT_STRINGS" "Z" ∈ lw_tbl := List.mem_of_getElem? (i := 590) (by decide +kernel)
theorem ls_fm : Cond.laysStatic "jdk/internal/util/Preconditions" "SIOOBE_FORMATTER" "Ljava/util/function/BiFunction;" ∈ lw_tbl := List.mem_of_getElem? (i := 606) (by decide +kernel)
theorem in_cs : Cond.initialized "java/lang/String" ∈ lw_tbl := List.mem_of_getElem? (i := 99) (by decide +kernel)
theorem in_fm : Cond.initialized "jdk/internal/util/Preconditions" ∈ lw_tbl := List.mem_of_getElem? (i := 101) (by decide +kernel)
theorem sr_0 : ∀ i, i < 10 → Cond.stringRef "MemoryTransactions$Scanner" (si0.getD i 0) (["if", "else", "while", "retry", "throw", "either", "or", "try", "catch", "always"].getD i "") ∈ lw_tbl := by decide +kernel
theorem str0_at : ∀ q ∈ str0, ∃ i, i < 10 ∧ q.1 = "MemoryTransactions$Scanner" ∧ q.2.1 = si0.getD i 0 ∧ q.2.2.1 = ["if", "else", "while", "retry", "throw", "either", "or", "try", "catch", "always"].getD i "" ∧ q.2.2.2 = 2 + 2 * i := List.forall_mem_cons.mpr ⟨⟨0, by decide, rfl, rfl, rfl, rfl⟩, List.forall_mem_cons.mpr ⟨⟨1, by decide, rfl, rfl, rfl, rfl⟩, List.forall_mem_cons.mpr ⟨⟨2, by decide, rfl, rfl, rfl, rfl⟩, List.forall_mem_cons.mpr ⟨⟨3, by decide, rfl, rfl, rfl, rfl⟩, List.forall_mem_cons.mpr ⟨⟨4, by decide, rfl, rfl, rfl, rfl⟩, List.forall_mem_cons.mpr ⟨⟨5, by decide, rfl, rfl, rfl, rfl⟩, List.forall_mem_cons.mpr ⟨⟨6, by decide, rfl, rfl, rfl, rfl⟩, List.forall_mem_cons.mpr ⟨⟨7, by decide, rfl, rfl, rfl, rfl⟩, List.forall_mem_cons.mpr ⟨⟨8, by decide, rfl, rfl, rfl, rfl⟩, List.forall_mem_cons.mpr ⟨⟨9, by decide, rfl, rfl, rfl, rfl⟩, fun _ h => absurd h List.not_mem_nil⟩⟩⟩⟩⟩⟩⟩⟩⟩⟩
theorem rf_sp_of {w : Cond} (hk : rf_spk w = true) {A : Array Value} {U : State} (hz : w.before A U = true) : w.before #[] U = true := by
  unfold rf_spk at hk
  split at hk
  · exact va_Nw.of rfl hz
  · exact va_Nw.of rfl hz
  · exact va_Nw.of rfl hz
  · exact va_Nw.of rfl hz
  · exact va_AO.of hz
  · cases hk
theorem kn_0 {s : State} {args : Array Value} (hts : ∀ w ∈ tb0, w.before args s = true) : ∃ D : va_G, va_K D cl0 [] s := by
  have h : ∀ k : Nat, ∃ p : ClassId × (Nat → Nat), ∀ q : vw_C, cl0[k]? = some q → u_Kn s q.1 q.2.1 q.2.2 p.1 p.2 := by
    intro k
    match k with
    | 0 =>
      obtain ⟨c, i, h⟩ := u_known hts uw_0 (hts _ ins_0)
      exact ⟨(c, i), fun q hq => by cases hq; exact h⟩
    | 1 =>
      obtain ⟨c, i, h⟩ := u_known hts uw_1 (hts _ ins_1)
      exact ⟨(c, i), fun q hq => by cases hq; exact h⟩
    | 2 =>
      obtain ⟨c, i, h⟩ := u_known hts uw_2 (hts _ ins_2)
      exact ⟨(c, i), fun q hq => by cases hq; exact h⟩
    | 3 =>
      obtain ⟨c, i, h⟩ := u_known hts uw_3 (hts _ ins_3)
      exact ⟨(c, i), fun q hq => by cases hq; exact h⟩
    | 4 =>
      obtain ⟨c, i, h⟩ := u_known hts uw_4 (hts _ ins_4)
      exact ⟨(c, i), fun q hq => by cases hq; exact h⟩
    | 5 =>
      obtain ⟨c, i, h⟩ := u_known hts uw_5 (hts _ ins_5)
      exact ⟨(c, i), fun q hq => by cases hq; exact h⟩
    | 6 =>
      obtain ⟨c, i, h⟩ := u_known hts uw_6 (hts _ ins_6)
      exact ⟨(c, i), fun q hq => by cases hq; exact h⟩
    | 7 =>
      obtain ⟨c, i, h⟩ := u_known hts uw_7 (hts _ ins_7)
      exact ⟨(c, i), fun q hq => by cases hq; exact h⟩
    | 8 =>
      obtain ⟨c, i, h⟩ := u_known hts uw_8 (hts _ ins_8)
      exact ⟨(c, i), fun q hq => by cases hq; exact h⟩
    | 9 =>
      obtain ⟨c, i, h⟩ := u_known hts uw_9 (hts _ ins_9)
      exact ⟨(c, i), fun q hq => by cases hq; exact h⟩
    | 10 =>
      obtain ⟨c, i, h⟩ := u_known hts uw_10 (hts _ ins_10)
      exact ⟨(c, i), fun q hq => by cases hq; exact h⟩
    | 11 =>
      obtain ⟨c, i, h⟩ := u_known hts uw_11 (hts _ ins_11)
      exact ⟨(c, i), fun q hq => by cases hq; exact h⟩
    | k + 12 => exact ⟨(0, fun _ => 0), fun q hq => by simp [cl0] at hq⟩
  obtain ⟨g, hg⟩ := Classical.axiomOfChoice h
  exact ⟨(fun k => (g k).1, fun k => (g k).2), fun k q hq => hg k q hq, fun k q hq => by simp at hq⟩
-- ===== end of PART A; then your names; then what follows =====
/-! THE CLAIM OUT OF ONE WALK OF THE LAW'S BODY. Your part is whole_start (and what it stands on); all else here is the same for every law, but numbers. -/
