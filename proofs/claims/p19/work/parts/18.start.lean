/-! THE START: the machine at the law's entry holds the abstract heap at its beginning -/
def si0 : List Nat := [63, 69, 71, 73, 75, 77, 79, 81, 83, 85]
def sl0 : List Nat := [2, 4, 5, 5, 5, 6, 2, 3, 5, 6]
def sb0 : List (List Int32) := [[105, 102], [101, 108, 115, 101], [119, 104, 105, 108, 101], [114, 101, 116, 114, 121], [116, 104, 114, 111, 119], [101, 105, 116, 104, 101, 114], [111, 114], [116, 114, 121], [99, 97, 116, 99, 104], [97, 108, 119, 97, 121, 115]]
def tm0 (i : Nat) : Term := .string "MemoryTransactions$Scanner" (si0.getD i 0)
def h0M (xs : Nat → Int32) : rf_M := (fun a j => if a = 1 then xs j else if a % 2 = 1 then (sb0.getD ((a - 3) / 2) []).getD j 0 else 0, fun _ _ => 0, fun a k => if k = 0 then some (a + 1) else none)
def h0S (L : Nat) : Nat → rf_S := fun a => if a = 1 then .inr (.int, L) else if a % 2 = 1 then .inr (.byte, sl0.getD ((a - 3) / 2) 0) else .inl 0
def h00 (L : Nat) (xs : Nat → Int32) : rf_H := (h0M xs, h0S L, 22, 0)
def ad0 (f b base : Nat) (adK adV : Nat → Nat) : Nat → Nat := fun a => if a = 0 then f else if a = 1 then b else if a < 22 then (if a % 2 = 0 then adK ((a - 2) / 2) else adV ((a - 3) / 2)) else base + (a - 22)
theorem ad0_e (f b base : Nat) (adK adV : Nat → Nat) {i : Nat} (hi : i < 10) : ad0 f b base adK adV (2 + 2 * i) = adK i := by
  unfold ad0
  rw [if_neg (by omega), if_neg (by omega), if_pos (by omega), if_pos (by omega)]
  congr 1
  omega
theorem ad0_o (f b base : Nat) (adK adV : Nat → Nat) {i : Nat} (hi : i < 10) : ad0 f b base adK adV (3 + 2 * i) = adV i := by
  unfold ad0
  rw [if_neg (by omega), if_neg (by omega), if_pos (by omega), if_neg (by omega)]
  congr 1
  omega
theorem fl_ex : ∀ i, i < 10 → Cond.exactly (tm0 i) "java/lang/String" ∈ flatC (Jvm.Cond.and given_1 narrow_1) := by decide +kernel
theorem fl_co : ∀ i, i < 10 → Cond.eq (.field (tm0 i) "java/lang/String" "coder" "B") (.int 0) ∈ flatC (Jvm.Cond.and given_1 narrow_1) := by decide +kernel
theorem fl_ar : ∀ i, i < 10 → Cond.arrayOf (.field (tm0 i) "java/lang/String" "value" "[B") .byte ∈ flatC (Jvm.Cond.and given_1 narrow_1) := by decide +kernel
theorem fl_le : ∀ i, i < 10 → Cond.eq (.length (.field (tm0 i) "java/lang/String" "value" "[B")) (.int (Int32.ofNat (sl0.getD i 0))) ∈ flatC (Jvm.Cond.and given_1 narrow_1) := by decide +kernel
theorem fl_el : ∀ i, i < 10 → ∀ j, j < sl0.getD i 0 → Cond.eq (.elem (.field (tm0 i) "java/lang/String" "value" "[B") (.int (Int32.ofNat j))) (.int ((sb0.getD i []).getD j 0)) ∈ flatC (Jvm.Cond.and given_1 narrow_1) := by decide +kernel
theorem fl_ne : ∀ i, i < 10 → ∀ j, j < 10 → i ≠ j → (Cond.not (Cond.eq (tm0 i) (tm0 j)) ∈ flatC (Jvm.Cond.and given_1 narrow_1) ∨ Cond.not (Cond.eq (tm0 j) (tm0 i)) ∈ flatC (Jvm.Cond.and given_1 narrow_1)) := by decide +kernel
theorem fl_sl : ∀ i, i < 10 → sl0.getD i 0 < 2 ^ 31 := by decide +kernel
theorem fl_cs : Cond.eq (.static "java/lang/String" "COMPACT_STRINGS" "Z") (.int 1) ∈ flatC (Jvm.Cond.and given_1 narrow_1) := by decide +kernel
theorem fl_fm : Cond.isRef (.static "jdk/internal/util/Preconditions" "SIOOBE_FORMATTER" "Ljava/util/function/BiFunction;") ∈ flatC (Jvm.Cond.and given_1 narrow_1) := by decide +kernel
theorem ls_cs : Cond.laysStatic "java/lang/String" "COMPACT_STRINGS" "Z" ∈ lw_tbl := List.mem_of_getElem? (i := 590) (by decide +kernel)
theorem ls_fm : Cond.laysStatic "jdk/internal/util/Preconditions" "SIOOBE_FORMATTER" "Ljava/util/function/BiFunction;" ∈ lw_tbl := List.mem_of_getElem? (i := 606) (by decide +kernel)
theorem in_cs : Cond.initialized "java/lang/String" ∈ lw_tbl := List.mem_of_getElem? (i := 99) (by decide +kernel)
theorem in_fm : Cond.initialized "jdk/internal/util/Preconditions" ∈ lw_tbl := List.mem_of_getElem? (i := 101) (by decide +kernel)
theorem sr_0 : ∀ i, i < 10 → Cond.stringRef "MemoryTransactions$Scanner" (si0.getD i 0) (["if", "else", "while", "retry", "throw", "either", "or", "try", "catch", "always"].getD i "") ∈ lw_tbl := by decide +kernel
theorem str0_at : ∀ q ∈ str0, ∃ i, i < 10 ∧ q.1 = "MemoryTransactions$Scanner" ∧ q.2.1 = si0.getD i 0 ∧ q.2.2.1 = ["if", "else", "while", "retry", "throw", "either", "or", "try", "catch", "always"].getD i "" ∧ q.2.2.2 = 2 + 2 * i := List.forall_mem_cons.mpr ⟨⟨0, by decide, rfl, rfl, rfl, rfl⟩, List.forall_mem_cons.mpr ⟨⟨1, by decide, rfl, rfl, rfl, rfl⟩, List.forall_mem_cons.mpr ⟨⟨2, by decide, rfl, rfl, rfl, rfl⟩, List.forall_mem_cons.mpr ⟨⟨3, by decide, rfl, rfl, rfl, rfl⟩, List.forall_mem_cons.mpr ⟨⟨4, by decide, rfl, rfl, rfl, rfl⟩, List.forall_mem_cons.mpr ⟨⟨5, by decide, rfl, rfl, rfl, rfl⟩, List.forall_mem_cons.mpr ⟨⟨6, by decide, rfl, rfl, rfl, rfl⟩, List.forall_mem_cons.mpr ⟨⟨7, by decide, rfl, rfl, rfl, rfl⟩, List.forall_mem_cons.mpr ⟨⟨8, by decide, rfl, rfl, rfl, rfl⟩, List.forall_mem_cons.mpr ⟨⟨9, by decide, rfl, rfl, rfl, rfl⟩, fun _ h => absurd h List.not_mem_nil⟩⟩⟩⟩⟩⟩⟩⟩⟩⟩
theorem rf_sp_of {w : Cond} (hk : rf_spk w = true) {A : Array Value} {U : State} (hz : w.before A U = true) : w.before #[] U = true := by
  unfold rf_spk at hk
  split at hk
  · exact va_Nw.of rfl hz
  · exact va_Nw.of rfl hz
  · exact va_Nw.of rfl hz
  · exact va_Nw.of rfl hz
  · exact va_AO.of hz
  · cases hk
theorem kn_0 {s : State} {args : Array Value} (hts : ∀ w ∈ tb0, w.before args s = true) : ∃ D : va_G, va_K D cl0 [] s := by
  have h : ∀ k : Nat, ∃ p : ClassId × (Nat → Nat), ∀ q : vw_C, cl0[k]? = some q → u_Kn s q.1 q.2.1 q.2.2 p.1 p.2 := by
    intro k
    match k with
    | 0 =>
      obtain ⟨c, i, h⟩ := u_known hts uw_0 (hts _ ins_0)
      exact ⟨(c, i), fun q hq => by cases hq; exact h⟩
    | 1 =>
      obtain ⟨c, i, h⟩ := u_known hts uw_1 (hts _ ins_1)
      exact ⟨(c, i), fun q hq => by cases hq; exact h⟩
    | 2 =>
      obtain ⟨c, i, h⟩ := u_known hts uw_2 (hts _ ins_2)
      exact ⟨(c, i), fun q hq => by cases hq; exact h⟩
    | 3 =>
      obtain ⟨c, i, h⟩ := u_known hts uw_3 (hts _ ins_3)
      exact ⟨(c, i), fun q hq => by cases hq; exact h⟩
    | 4 =>
      obtain ⟨c, i, h⟩ := u_known hts uw_4 (hts _ ins_4)
      exact ⟨(c, i), fun q hq => by cases hq; exact h⟩
    | 5 =>
      obtain ⟨c, i, h⟩ := u_known hts uw_5 (hts _ ins_5)
      exact ⟨(c, i), fun q hq => by cases hq; exact h⟩
    | 6 =>
      obtain ⟨c, i, h⟩ := u_known hts uw_6 (hts _ ins_6)
      exact ⟨(c, i), fun q hq => by cases hq; exact h⟩
    | 7 =>
      obtain ⟨c, i, h⟩ := u_known hts uw_7 (hts _ ins_7)
      exact ⟨(c, i), fun q hq => by cases hq; exact h⟩
    | 8 =>
      obtain ⟨c, i, h⟩ := u_known hts uw_8 (hts _ ins_8)
      exact ⟨(c, i), fun q hq => by cases hq; exact h⟩
    | 9 =>
      obtain ⟨c, i, h⟩ := u_known hts uw_9 (hts _ ins_9)
      exact ⟨(c, i), fun q hq => by cases hq; exact h⟩
    | 10 =>
      obtain ⟨c, i, h⟩ := u_known hts uw_10 (hts _ ins_10)
      exact ⟨(c, i), fun q hq => by cases hq; exact h⟩
    | 11 =>
      obtain ⟨c, i, h⟩ := u_known hts uw_11 (hts _ ins_11)
      exact ⟨(c, i), fun q hq => by cases hq; exact h⟩
    | k + 12 => exact ⟨(0, fun _ => 0), fun q hq => by simp [cl0] at hq⟩
  obtain ⟨g, hg⟩ := Classical.axiomOfChoice h
  exact ⟨(fun k => (g k).1, fun k => (g k).2), fun k q hq => hg k q hq, fun k q hq => by simp at hq⟩
-- ===== end of PART A; then your names; then what follows =====
/-! THE CLAIM OUT OF ONE WALK OF THE LAW'S BODY. Your part is whole_start (and what it stands on); all else here is the same for every law, but numbers. -/
def R_law : String := "MemoryTransactionsLaw"
def lw_P (b : Addr) (xs : List Int32) (args : Array Value) (s : State) : Prop := args = #[.ref b] ∧ s.IntsAt b xs ∧ xs.length ≤ 3072 ∧ (Jvm.Cond.and given_1 narrow_1).before args s = true
def lw_Q (_ : Array Value) (s : State) (o : Outcome) (t : State) : Prop := o = .returned (some (.int 1)) ∧ Framed s o t [] 600000 7302250
def lw_Z (below : List Frame) (a : Array Value) (s : State) : State → Prop := fun t => ∃ o, t.status = .running ∧ Ended t below o ∧ lw_Q a s o t
/-- the law's own end, with 1 on the stack, nothing written that was there before, its room as the claim has it -/
theorem lw_ret {p : Program} {l : Launch} {e : Env} {s : State} {m : MethodId} {below : List Frame} {meth : Method} {c : Code} {b : Nat} (hx : p.tables.exec = Jvm.exec) (hb : c.code = code) (hr : meth.sig.returnType = ret) (hlocks : meth.locks = false) {pc : Nat} {H : Heap} {ls : Array Slot} (hdg : decode code pc = .ok (.ireturn, 1)) : W p l e room_1 s m #[Value.ref b] below meth c H [] 600000 7302250 (lw_Z below #[Value.ref b] s) (F0 m pc ls [.int 1]) := by
  intro T hT X
  obtain ⟨fs, hret, hrun, hended, hW, hframe⟩ := X.leave (v := some (.int 1)) (hlocks := hlocks) (fun h => by rw [hr] at h; cases h)
  have hmeth' : T.vm.method? m = some meth := X.method'
  refine ⟨T.setFrames fs, ?_, .returned (some (.int 1)), hrun, hended, rfl, ⟨_, rfl⟩, hW, hframe⟩
  jvm_step X.here [X.here.top, hx, hb, hdg, hmeth', hr, ret, narrow_b1]
  (try refine ⟨rfl, ?_⟩); (try refine ⟨rfl, ?_⟩)
  first | (intro acts; rw [hret _ acts rfl rfl rfl]) | rw [hret _ _ rfl rfl rfl]
  exact Steps.refl _
/-- what holds at the law's entry: the machine, the code, the tables' words (any of lw_tbl by 'hts w (by decide +kernel)'), the script of L ints xs at the cell b, what the Statement gives of the start (any of its parts by flat_of_before) -/
def lw_At (p : Program) (s : State) (m : MethodId) (meth : Method) (c : Code) (b L : Nat) (xs : Nat → Int32) : Prop :=
  p.tables.exec = Jvm.exec ∧ c.code = code ∧ meth.sig.returnType = ret ∧ c.maxLocals = 4 ∧ s.vm.findClass R_law = some m.cls ∧ (∀ w ∈ lw_tbl, w.before #[Value.ref b] s = true) ∧ va_X b L xs s s.heap ∧ b < s.heap.size ∧ meth.locks = false ∧ (Jvm.Cond.and given_1 narrow_1).before #[Value.ref b] s = true
/-! THE CLAIM OUT OF THE EVALUATOR -/
/-- what is to be shown: the evaluator comes to 1, within the room -/
def pu_goal (fz : Bool) (L : Nat) (xs : Nat → Int32) : Prop := ∃ (n : Nat) (hF : rf_H), rf_ev (cx0 fz) n (2048, 84000) 0 0 [(0, .ref 1)] [] (h00 L xs) = some (some (.int 1), hF) ∧ hF.2.2.1 ≤ 600000 ∧ hF.2.2.2 ≤ 7302250
set_option maxHeartbeats 4000000 in
theorem st_ao {s : State} {b L : Nat} {xs : Nat → Int32} {f : Nat} {fz : Bool} {adK adV : Nat → Nat} (hX : va_X b L xs s s.heap) (hS : vk_S 10 sl0 sb0 adK adV (fun q => s.heap.size ≤ q) s s.heap) : ∀ a, 0 < a → a < 22 → rf_ao ocl0 (cx0 fz) (ad0 f b s.heap.size adK adV) s s.heap (h0M xs) a (h0S L a) := by
  intro a h0 h1
  by_cases ha : a = 1
  · subst ha
    obtain ⟨scr, q1, q2, q3, q4, q5⟩ := hX
    exact ⟨scr, q1, q2, q3, Nat.le_of_eq q4.symm, by rw [q4]; rfl, fun j hj => q5 j hj⟩
  · by_cases he : a % 2 = 0
    · obtain ⟨i, hi, rfl⟩ : ∃ i, i < 10 ∧ a = 2 + 2 * i := ⟨(a - 2) / 2, by omega, by omega⟩
      have hsh : h0S L (2 + 2 * i) = .inl 0 := by
        unfold h0S
        rw [if_neg (by omega), if_neg (by omega)]
      rw [hsh]
      obtain ⟨⟨cell, o1, o2, o3, -⟩, c1, v1, -⟩ := hS.1 i hi
      refine ⟨oq_0, rfl, ⟨cell, by rw [ad0_e _ _ _ _ _ hi]; exact o1, o2, o3⟩, fun k hk => ?_⟩
      have hk2 : k = 0 ∨ k = 1 := by
        have : k < 2 := hk
        omega
      rcases hk2 with rfl | rfl
      · obtain ⟨cf, kf, fi, fd, cel, g1, g2, g3, g4, g5, -⟩ := v1
        refine ⟨cf, kf, fi, fd, cel, g1, g2, by rw [ad0_e _ _ _ _ _ hi]; exact g3, g4, ?_⟩
        rw [g5]
        show some (Value.ref (adV i)) = some (Value.ref (ad0 f b s.heap.size adK adV (2 + 2 * i + 1)))
        rw [show 2 + 2 * i + 1 = 3 + 2 * i by omega, ad0_o _ _ _ _ _ hi]
      · obtain ⟨cf, kf, fi, fd, cel, g1, g2, g3, g4, g5, -⟩ := c1
        refine ⟨cf, kf, fi, fd, cel, g1, g2, by rw [ad0_e _ _ _ _ _ hi]; exact g3, g4, ?_⟩
        rw [g5]
        show some (Value.int 0) = some (Value.int (if 2 + 2 * i = 1 then xs 1 else if (2 + 2 * i) % 2 = 1 then _ else 0))
        rw [if_neg (by omega), if_neg (by omega)]
    · obtain ⟨i, hi, rfl⟩ : ∃ i, i < 10 ∧ a = 3 + 2 * i := ⟨(a - 3) / 2, by omega, by omega⟩
      have hdv : (3 + 2 * i - 3) / 2 = i := by omega
      have hsh : h0S L (3 + 2 * i) = .inr (.byte, sl0.getD i 0) := by
        unfold h0S
        rw [if_neg (by omega), if_pos (by omega), hdv]
      rw [hsh]
      obtain ⟨-, -, -, cel, t1, t2, t3, t4, t5, t6, -⟩ := hS.1 i hi
      refine ⟨cel, by rw [ad0_o _ _ _ _ _ hi]; exact t1, t2, t3, t4, t5, fun j hj => ?_⟩
      rw [t6 j hj]
      show some (Value.int _) = some (Value.int (if 3 + 2 * i = 1 then xs j else if (3 + 2 * i) % 2 = 1 then (sb0.getD ((3 + 2 * i - 3) / 2) []).getD j 0 else 0))
      rw [if_neg (by omega), if_pos (by omega), hdv]
set_option maxHeartbeats 4000000 in
theorem whole_of {p : Program} {e : Env} {s : State} {m : MethodId} {below : List Frame} {meth : Method} {c : Code} (l : Launch) {b L : Nat} {xs : Nat → Int32} (hpu : ∀ fz, pu_goal fz L xs) (C0 : lw_At p s m meth c b L xs) : W p l e room_1 s m #[Value.ref b] below meth c s.heap [] 0 0 (lw_Z below #[Value.ref b] s) (entryFrame m ([Value.ref b] : List Value).toArray 4) := by
  obtain ⟨hx, hb, hr, hml, hown, hts, hX, hbl, hlocks, hgv⟩ := C0
  have hfl := flat_of_before _ hgv
  have hA : ∀ a : Nat, a < s.heap.size → ¬ (fun q : Nat => s.heap.size ≤ q) a := fun a h => Nat.not_le.mpr h
  have htb : ∀ w ∈ tb0, w.before #[Value.ref b] s = true := fun w hw => hts w (List.mem_filter.mp hw).1
  obtain ⟨adK, adV, hS, hSe⟩ := vk_Sof (args := #[Value.ref b]) (s := s) (N := 10) (tm := tm0) (len := sl0) (byt := sb0) (A := fun q => s.heap.size ≤ q) fl_sl (fun i hi => hfl _ (fl_ex i hi)) (fun i hi => hfl _ (fl_co i hi)) (fun i hi => hfl _ (fl_ar i hi)) (fun i hi => hfl _ (fl_le i hi)) (fun i hi j hj => hfl _ (fl_el i hi j hj)) (fun i j hi hj hij => (fl_ne i hi j hj hij).imp (fun z => hfl _ z) (fun z => hfl _ z)) hA
  have hcs := va_Zof (hts _ ls_cs) (hts _ in_cs) (va_eqi (hfl _ fl_cs)) hA
  obtain ⟨D, hK⟩ := kn_0 htb
  obtain ⟨fz, f, hfm⟩ : ∃ (fz : Bool) (f : Nat), va_Z "jdk/internal/util/Preconditions" "SIOOBE_FORMATTER" "Ljava/util/function/BiFunction;" (if fz then .ref f else .null) (fun q => s.heap.size ≤ q) s s.heap := by
    rcases va_Zqof (hts _ ls_fm) (hts _ in_fm) (hfl _ fl_fm) hA with z | ⟨t, z⟩
    · exact ⟨false, 0, z⟩
    · exact ⟨true, t, z⟩
  have hAd : rf_A (cx0 fz) (ad0 f b s.heap.size adK adV) s.heap.size := by
    refine ⟨fun a ha => ?_, fun a h0 h1 => ?_, (show 0 < 22 from Nat.le_of_ble_eq_true rfl)⟩
    · have ha : 22 ≤ a := ha
      show ad0 f b s.heap.size adK adV a = s.heap.size + (a - 22)
      unfold ad0
      rw [if_neg (by omega), if_neg (by omega), if_neg (by omega)]
    · have h1 : a < 22 := h1
      by_cases ha : a = 1
      · subst ha; exact hbl
      · by_cases he : a % 2 = 0
        · obtain ⟨i, hi, rfl⟩ : ∃ i, i < 10 ∧ a = 2 + 2 * i := ⟨(a - 2) / 2, by omega, by omega⟩
          rw [ad0_e _ _ _ _ _ hi]
          obtain ⟨⟨cell, o1, -⟩, -⟩ := hS.1 i hi
          exact (Array.getElem?_eq_some_iff.mp o1).1
        · obtain ⟨i, hi, rfl⟩ : ∃ i, i < 10 ∧ a = 3 + 2 * i := ⟨(a - 3) / 2, by omega, by omega⟩
          rw [ad0_o _ _ _ _ _ hi]
          obtain ⟨-, -, -, cel, t1, -⟩ := hS.1 i hi
          exact (Array.getElem?_eq_some_iff.mp t1).1
  have hR : rf_R ocl0 s.heap D (cx0 fz) (ad0 f b s.heap.size adK adV) s.heap.size s s.heap (h00 L xs) :=
    ⟨fun a h1 h2 => absurd (Nat.lt_of_lt_of_le h2 h1) (Nat.lt_irrefl _), st_ao hX hS, rfl, Nat.le_refl _, fun _ _ => rfl⟩
  have hE : rf_E sp0 str0 (stt0 fz) s.heap (ad0 f b s.heap.size adK adV) s.heap.size s := by
    refine ⟨fun w hw => rf_sp_of (List.mem_filter.mp hw).2 (hts w (List.mem_filter.mp hw).1), fun q hq => ?_, ?_⟩
    · obtain ⟨i, hi, e1, e2, e3, e4⟩ := str0_at q hq
      obtain ⟨q1, q2, q3, q4⟩ := q
      dsimp only at e1 e2 e3 e4
      subst e1; subst e2; subst e3; subst e4
      refine vk_R.of (A := #[Value.ref b]) (hts _ (sr_0 i hi)) ?_
      rw [ad0_e _ _ _ _ _ hi]
      exact hSe i hi
    · refine List.forall_mem_cons.mpr ⟨hcs, List.forall_mem_cons.mpr ⟨?_, fun _ h => absurd h List.not_mem_nil⟩⟩
      cases fz
      · exact hfm
      · exact hfm
  obtain ⟨n, hF, hev, hc1, hc2⟩ := hpu fz
  have hP := rf_main (l := l) (OH := s.heap) (D := D) (cx0_wf fz) (cx0_G fz) hAd tb0_good sp0_spk n
  obtain ⟨-, hW⟩ := hP (2048, 84000) 0 0 [(0, .ref 1)] [] (h00 L xs) (some (.int 1)) hF hev
  have hl := lv_entry ([.ref b]) (n := 4) (Nat.le_of_ble_eq_true rfl)
  rw [lg_entry_eq]
  refine hW p e room_1 s m _ below meth c s.heap [] 0 0 _ _ hx hb hml hown ?_ htb hE hK hR (fun q hq => by cases hq) hl (Nat.le_refl _) (Nat.le_refl _) ?_ ?_ ?_
  · intro z
    have z2 : ("law" : String) = "<init>" := z
    exact absurd z2 (by decide +kernel)
  · show 0 + (hF.2.2.1 - 22) ≤ 600000
    omega
  · show 0 + (hF.2.2.2 - 0) ≤ 7302250
    omega
  · intro pcR IR HR locsR lsR stR hd hrt hRR hloc
    have hi : IR = .ireturn ∧ stR = [.int 1] := by
      have hrt : rf_rt IR (some .boolean) stR = some (some (.int 1)) := hrt
      unfold rf_rt at hrt
      split at hrt
      all_goals first
        | (exfalso; simp_all; done)
        | (split at hrt
           · cases hrt; exact ⟨rfl, rfl⟩
           · cases hrt)
    obtain ⟨rfl, rfl⟩ := hi
    refine va_forget (fun q hq => hloc q hq) ?_
    refine W.widen (k := 600000) (n := 7302250) (by show 0 + (hF.2.2.1 - 22) ≤ 600000; omega) (by show 0 + (hF.2.2.2 - 0) ≤ 7302250; omega) ?_
    exact lw_ret hx hb hr hlocks hd
/-! ROWS OF THE EVALUATOR, over a heap ((I, L, R), S): S are the shapes, which no instruction but the makings changes -/
abbrev gS : Type := (Nat → rf_S) × Nat × Nat
/-- a is an object of class ci that was made -/
def go (cx : rf_C) (S : gS) (a ci : Nat) : Prop := cx.2.2.2.2 ≤ a ∧ 0 < a ∧ a < S.2.1 ∧ S.1 a = .inl ci
/-- a is an array of n elements of type ty that was made -/
def ga (cx : rf_C) (S : gS) (a : Nat) (ty : FieldType) (n : Nat) : Prop := cx.2.2.2.2 ≤ a ∧ 0 < a ∧ a < S.2.1 ∧ S.1 a = .inr (ty, n)
section GROW

variable {cx : rf_C} {d : Nat × Nat} {i pc : Nat} {ls : rf_L} {st : List Value} {h : rf_H} {Q : Option Value → rf_H → Prop} {I : Nat → Nat → Int32} {L : Nat → Nat → Int64} {R : Nat → Nat → Option Nat} {S : gS} {aux : List (Int × Nat)}

theorem go.ob {a ci : Nat} (hs : go cx S a ci) (M : rf_M) : rf_ob (M, S) a = some ci := by
  unfold rf_ob
  rw [if_pos ⟨hs.2.1, hs.2.2.1⟩]
  show (match S.1 a with | .inl ci => some ci | .inr _ => none) = some ci
  rw [hs.2.2.2]
theorem ga.aa {a n : Nat} {ty : FieldType} (hs : ga cx S a ty n) (M : rf_M) : rf_aa (M, S) a = some (ty, n) := by
  unfold rf_aa
  rw [if_pos ⟨hs.2.1, hs.2.2.1⟩]
  show (match S.1 a with | .inr q => some q | .inl _ => none) = some (ty, n)
  rw [hs.2.2.2]
theorem ga.el {a n : Nat} {ty : FieldType} (hs : ga cx S a ty n) (M : rf_M) {j : Int32} (hj : ¬ (j < 0 ∨ n ≤ j.toNatClampNeg)) : rf_el (M, S) ty a j = some (rf_rd M ty a j.toNatClampNeg) := by
  unfold rf_el
  rw [hs.aa M]
  show (if ty = ty ∧ ¬ (j < 0 ∨ n ≤ j.toNatClampNeg) then _ else _) = _
  rw [if_pos ⟨rfl, hj⟩]
theorem go.ky {a ci : Nat} (hs : go cx S a ci) : rf_ky cx.2.2.2.2 a ci = (ci : Int) := if_neg (Nat.not_lt.mpr hs.1)
/-- arithmetic, loads, stores, constants: one row a kind -/
theorem g0 {J : Instr} {st' : List Value} (hf : cx.1 i pc = some (J, aux)) (hk : rf_kd J = 0) (he : rf_ar J st = some st') (k : gx cx d i (pc + 1) ls st' h Q) : gx cx d i pc ls st h Q := by
  refine gx_step hf (pc' := pc + 1) (ls' := ls) (st' := st') (h' := h) ?_ k
  unfold rf_ex
  simp only [hk, he, Option.map_some]
theorem g1 {J : Instr} {st' : List Value} {n : Nat} (hf : cx.1 i pc = some (J, aux)) (hk : rf_kd J = 1) (hn : rf_len J = n) (he : rf_lo J aux ls st = some st') (k : gx cx d i (pc + n) ls st' h Q) : gx cx d i pc ls st h Q := by
  refine gx_step hf (pc' := pc + n) (ls' := ls) (st' := st') (h' := h) ?_ k
  unfold rf_ex
  simp only [hk, he, hn, Option.map_some]
theorem g2 {J : Instr} {ls' : rf_L} {st' : List Value} {n : Nat} (hf : cx.1 i pc = some (J, aux)) (hk : rf_kd J = 2) (hn : rf_len J = n) (he : rf_so J (cx.2.1 i).2.2.1 ls st = some (ls', st')) (k : gx cx d i (pc + n) ls' st' h Q) : gx cx d i pc ls st h Q := by
  refine gx_step hf (pc' := pc + n) (ls' := ls') (st' := st') (h' := h) ?_ k
  unfold rf_ex
  simp only [hk, he, hn, Option.map_some]
theorem g3 {J : Instr} {pc' : Nat} {st' : List Value} (hf : cx.1 i pc = some (J, aux)) (hk : rf_kd J = 3) (he : rf_br cx.2.2.2.2 J aux pc st = some (pc', st')) (k : gx cx d i pc' ls st' h Q) : gx cx d i pc ls st h Q := by
  refine gx_step hf (pc' := pc') (ls' := ls) (st' := st') (h' := h) ?_ k
  unfold rf_ex
  simp only [hk, he, Option.map_some]
theorem g7 {J : Instr} {st' : List Value} {n : Nat} (hf : cx.1 i pc = some (J, aux)) (hk : rf_kd J = 7) (hn : rf_len J = n) (he : rf_po aux st = some st') (k : gx cx d i (pc + n) ls st' h Q) : gx cx d i pc ls st h Q := by
  refine gx_step hf (pc' := pc + n) (ls' := ls) (st' := st') (h' := h) ?_ k
  unfold rf_ex
  simp only [hk, he, hn, Option.map_some]
theorem g4 {J : Instr} {st' : List Value} {h' : rf_H} {n : Nat} (hf : cx.1 i pc = some (J, aux)) (hk : rf_kd J = 4) (hn : rf_len J = n) (he : rf_hp cx J aux st h = some (st', h')) (k : gx cx d i (pc + n) ls st' h' Q) : gx cx d i pc ls st h Q := by
  refine gx_step hf (pc' := pc + n) (ls' := ls) (st' := st') (h' := h') ?_ k
  unfold rf_ex
  simp only [hk, he, hn, Option.map_some]
/-- branches: two ways -/
theorem g_if {c : Jvm.ClassFile.Cond} {o : Int} {x : Int32} (hf : cx.1 i pc = some (.ifCond c o, aux)) (kt : rf_cc x 0 c = true → gx cx d i (rf_tg aux) ls st h Q) (kf : ¬ rf_cc x 0 c = true → gx cx d i (pc + 3) ls st h Q) : gx cx d i pc ls (.int x :: st) h Q := by
  by_cases hc : rf_cc x 0 c = true
  · exact g3 hf rfl (by show some (if rf_cc x 0 c = true then rf_tg aux else pc + 3, st) = _; rw [if_pos hc]) (kt hc)
  · exact g3 hf rfl (by show some (if rf_cc x 0 c = true then rf_tg aux else pc + 3, st) = _; rw [if_neg hc]) (kf hc)
theorem g_ic {c : Jvm.ClassFile.Cond} {o : Int} {x y : Int32} (hf : cx.1 i pc = some (.if_icmp c o, aux)) (kt : rf_cc x y c = true → gx cx d i (rf_tg aux) ls st h Q) (kf : ¬ rf_cc x y c = true → gx cx d i (pc + 3) ls st h Q) : gx cx d i pc ls (.int y :: .int x :: st) h Q := by
  by_cases hc : rf_cc x y c = true
  · exact g3 hf rfl (by show some (if rf_cc x y c = true then rf_tg aux else pc + 3, st) = _; rw [if_pos hc]) (kt hc)
  · exact g3 hf rfl (by show some (if rf_cc x y c = true then rf_tg aux else pc + 3, st) = _; rw [if_neg hc]) (kf hc)
/-- fields -/
theorem g_gf {idx a ci k : Nat} {v : Value} (hf : cx.1 i pc = some (.getfield idx, aux)) (hs : go cx S a ci) (hl : rf_lk aux (ci : Int) = some k) (hv : rf_rd (I, L, R) (cx.2.2.1 (ci : Int) k) a k = v) (kk : gx cx d i (pc + 3) ls (v :: st) ((I, L, R), S) Q) : gx cx d i pc ls (.ref a :: st) ((I, L, R), S) Q := by
  refine g4 hf rfl rfl (st' := v :: st) (h' := ((I, L, R), S)) ?_ kk
  show (match rf_ob ((I, L, R), S) a with
    | some ci => match rf_lk aux (rf_ky cx.2.2.2.2 a ci) with
      | some k => some (rf_rd (I, L, R) (cx.2.2.1 (rf_ky cx.2.2.2.2 a ci) k) a k :: st, ((I, L, R), S))
      | none => none
    | none => none) = _
  rw [hs.ob]
  dsimp only
  rw [hs.ky, hl]
  dsimp only
  rw [hv]
theorem g_pf {idx a ci k : Nat} {v : Value} {M : rf_M} (hf : cx.1 i pc = some (.putfield idx, aux)) (hs : go cx S a ci) (hl : rf_lk aux (ci : Int) = some k) (hv : rf_wr (I, L, R) (cx.2.2.1 (ci : Int) k) a k v = some M) (kk : gx cx d i (pc + 3) ls st (M, S) Q) : gx cx d i pc ls (v :: .ref a :: st) ((I, L, R), S) Q := by
  refine g4 hf rfl rfl (st' := st) (h' := (M, S)) ?_ kk
  show (if a < cx.2.2.2.2 then none else match rf_ob ((I, L, R), S) a with
    | some ci => match rf_lk aux (ci : Int) with
      | some k => match rf_wr (I, L, R) (cx.2.2.1 (ci : Int) k) a k v with
        | some M => some (st, (M, S))
        | none => none
      | none => none
    | none => none) = _
  rw [if_neg (Nat.not_lt.mpr hs.1), hs.ob]
  dsimp only
  rw [hl]
  dsimp only
  rw [hv]
end GROW
/-! A RUN THAT NEVER LOOKS INTO CELL 1 (its shape is a poison: a class that no table names) goes the same way whatever lies there -/
def pt_M (row : Nat → Int32) (M : rf_M) : rf_M := (va_up M.1 1 row, M.2)
def pt_H (row : Nat → Int32) (sh : rf_S) (h : rf_H) : rf_H := (pt_M row h.1, va_up h.2.1 1 sh, h.2.2)
def pt_P : Nat := 999
theorem up_comm {α : Type} (f : Nat → α) {a b : Nat} (v w : α) (h : a ≠ b) : va_up (va_up f a v) b w = va_up (va_up f b w) a v := by
  funext j
  unfold va_up
  by_cases h1 : j = b
  · have h2 : ¬ j = a := fun z => h (z.symm.trans h1)
    simp [h1, h2, Ne.symm h]
  · simp [h1]
theorem pt_rd {row : Nat → Int32} {M : rf_M} {a : Nat} (ha : a ≠ 1) (ty : FieldType) (k : Nat) : rf_rd (pt_M row M) ty a k = rf_rd M ty a k := by
  cases ty <;> simp [rf_rd, pt_M, va_up, ha]
theorem pt_wi {row : Nat → Int32} {M : rf_M} {a : Nat} (ha : a ≠ 1) (k : Nat) (x : Int32) : rf_wi (pt_M row M) a k x = pt_M row (rf_wi M a k x) := by
  show (va_up (va_up M.1 1 row) a (va_up (va_up M.1 1 row a) k x), M.2.1, M.2.2) = (va_up (va_up M.1 a (va_up (M.1 a) k x)) 1 row, M.2.1, M.2.2)
  rw [up_comm M.1 _ _ ha, va_up_ne _ _ ha]
theorem pt_wl {row : Nat → Int32} {M : rf_M} {a : Nat} (k : Nat) (x : Int64) : rf_wl (pt_M row M) a k x = pt_M row (rf_wl M a k x) := rfl
theorem pt_wr {row : Nat → Int32} {M M' : rf_M} {ty : FieldType} {a : Nat} (ha : a ≠ 1) {k : Nat} {v : Value} (h : rf_wr M ty a k v = some M') : rf_wr (pt_M row M) ty a k v = some (pt_M row M') := by
  unfold rf_wr at h ⊢
  split at h
  · cases h; simp only [pt_wi ha]
  · cases h; rfl
  · cases h; rfl
  · cases h; rfl
  · cases h; rfl
  · cases h; rfl
  · split at h
    · rename_i hc; cases h; simp only [pt_wi ha]; rw [if_pos hc]
    · cases h
  · split at h
    · rename_i hc; cases h; simp only [pt_wi ha]; rw [if_pos hc]
    · cases h
  · split at h
    · rename_i hc; cases h; simp only [pt_wi ha]; rw [if_pos hc]
    · cases h
  · split at h
    · rename_i hc; cases h; simp only [pt_wi ha]; rw [if_pos hc]
    · cases h
  · cases h
section PT

variable {row : Nat → Int32} {sh : rf_S} {h : rf_H}

theorem pt_ob {a : Nat} (ha : a ≠ 1) : rf_ob (pt_H row sh h) a = rf_ob h a := by
  unfold rf_ob
  show (if 0 < a ∧ a < h.2.2.1 then (match va_up h.2.1 1 sh a with | .inl ci => some ci | .inr _ => none) else none) = _
  rw [va_up_ne _ _ ha]
  rfl
theorem pt_aa {a : Nat} (ha : a ≠ 1) : rf_aa (pt_H row sh h) a = rf_aa h a := by
  unfold rf_aa
  show (if 0 < a ∧ a < h.2.2.1 then (match va_up h.2.1 1 sh a with | .inr q => some q | .inl _ => none) else none) = _
  rw [va_up_ne _ _ ha]
  rfl
theorem pt_ne_aa (hp : h.2.1 1 = .inl pt_P) {a : Nat} {q : FieldType × Nat} (hq : rf_aa h a = some q) : a ≠ 1 := by
  intro z
  subst z
  obtain ⟨-, -, h2⟩ := rf_aa_ok hq
  rw [hp] at h2
  cases h2
theorem pt_el (hp : h.2.1 1 = .inl pt_P) {ty : FieldType} {a : Nat} {j : Int32} {v : Value} (he : rf_el h ty a j = some v) : a ≠ 1 ∧ rf_el (pt_H row sh h) ty a j = some v := by
  obtain ⟨n, h1, h2, rfl⟩ := rf_el_ok he
  have ha := pt_ne_aa hp h1
  refine ⟨ha, ?_⟩
  unfold rf_el
  rw [pt_aa ha, h1]
  show (if ty = ty ∧ ¬ (j < 0 ∨ n ≤ j.toNatClampNeg) then some (rf_rd (pt_M row h.1) ty a j.toNatClampNeg) else none) = _
  rw [if_pos ⟨rfl, h2⟩, pt_rd ha]
theorem pt_nw (h22 : 1 < h.2.2.1) (s : rf_S) (N : Nat) : rf_nw (pt_H row sh h) s N = pt_H row sh (rf_nw h s N) := by
  have hne : h.2.2.1 ≠ 1 := by omega
  unfold rf_nw pt_H pt_M
  show ((va_up (va_up h.1.1 1 row) h.2.2.1 (fun _ => 0), va_up h.1.2.1 h.2.2.1 (fun _ => 0), va_up h.1.2.2 h.2.2.1 (fun _ => none)), va_up (va_up h.2.1 1 sh) h.2.2.1 s, h.2.2.1 + 1, h.2.2.2 + N) = _
  rw [up_comm h.1.1 _ _ (Ne.symm hne), up_comm h.2.1 _ _ (Ne.symm hne)]
theorem pt_elq {a : Nat} (ha : a ≠ 1) (ty : FieldType) (j : Int32) : rf_el (pt_H row sh h) ty a j = rf_el h ty a j := by
  unfold rf_el
  rw [pt_aa ha]
  cases rf_aa h a with
  | none => rfl
  | some q =>
    show (if q.1 = ty ∧ ¬ (j < 0 ∨ q.2 ≤ j.toNatClampNeg) then some (rf_rd (pt_M row h.1) ty a j.toNatClampNeg) else none) = _
    rw [pt_rd ha]
theorem pt_sh (hn : 1 < h.2.2.1) (hp : h.2.1 1 = .inl pt_P) (s : rf_S) (N : Nat) : (rf_nw h s N).2.1 1 = .inl pt_P ∧ 1 < (rf_nw h s N).2.2.1 := by
  refine ⟨?_, by show 1 < h.2.2.1 + 1; omega⟩
  show va_up h.2.1 h.2.2.1 s 1 = _
  rw [va_up_ne _ _ (by omega)]
  exact hp
/-- no table names the poison -/
def pt_no (cx : rf_C) : Prop := 1 < cx.2.2.2.2 ∧ ∀ (i pc : Nat) (I : rf_I), cx.1 i pc = some I → ∀ q ∈ I.2, q.1 ≠ rf_ky cx.2.2.2.2 1 pt_P ∧ q.1 ≠ (pt_P : Int)
set_option maxHeartbeats 4000000 in
theorem pt_hp {cx : rf_C} {I : Instr} {aux : List (Int × Nat)} (h1 : 1 < cx.2.2.2.2) (hno : ∀ q ∈ aux, q.1 ≠ rf_ky cx.2.2.2.2 1 pt_P ∧ q.1 ≠ (pt_P : Int)) (hp : h.2.1 1 = .inl pt_P) (hn : 1 < h.2.2.1) {st : List Value} {q' : List Value × rf_H} (he : rf_hp cx I aux st h = some q') : rf_hp cx I aux st (pt_H row sh h) = some (q'.1, pt_H row sh q'.2) ∧ q'.2.2.1 1 = .inl pt_P ∧ 1 < q'.2.2.2.1 := by
  have key : ∀ {a ci k : Nat}, rf_ob h a = some ci → rf_lk aux (rf_ky cx.2.2.2.2 a ci) = some k → a ≠ 1 := by
    intro a ci k h2 h3 z
    subst z
    obtain ⟨-, -, h4⟩ := rf_ob_ok h2
    rw [hp] at h4
    cases h4
    exact (hno _ (rf_lk_ok h3)).1 rfl
  have keyw : ∀ {a : Nat}, ¬ a < cx.2.2.2.2 → a ≠ 1 := fun z1 z2 => z1 (by rw [z2]; exact h1)
  unfold rf_hp at he ⊢
  split at he
  · split at he
    · rename_i ci hob
      split at he
      · rename_i k hlk
        cases he
        have ha := key hob hlk
        refine ⟨?_, hp, hn⟩
        dsimp only
        rw [pt_ob ha, hob]
        dsimp only
        rw [hlk]
        dsimp only
        exact congrArg (fun z => some (z :: _, pt_H row sh h)) (pt_rd ha _ _)
      · cases he
    · cases he
  · split at he
    · cases he
    · rename_i hlt
      have ha := keyw hlt
      split at he
      · rename_i ci hob
        split at he
        · rename_i k hlk
          split at he
          · rename_i M hwr
            cases he
            refine ⟨?_, hp, hn⟩
            dsimp only
            rw [if_neg hlt, pt_ob ha, hob]
            dsimp only
            rw [hlk]
            dsimp only
            have hw2 := pt_wr (row := row) ha hwr
            show (match rf_wr (pt_M row h.1) _ _ _ _ with | some M => some (_, (M, (pt_H row sh h).2)) | none => none) = _
            rw [hw2]
            rfl
          · cases he
        · cases he
      · cases he
  · split at he
    · rename_i v hv
      cases he
      have ha := (pt_el (row := row) (sh := sh) hp hv).1
      refine ⟨?_, hp, hn⟩
      dsimp only
      rw [pt_elq ha, hv]
    · cases he
  · split at he
    · rename_i v hv
      cases he
      have ha := (pt_el (row := row) (sh := sh) hp hv).1
      refine ⟨?_, hp, hn⟩
      dsimp only
      rw [pt_elq ha, hv]
    · cases he
  · split at he
    · rename_i v hv
      cases he
      have ha := (pt_el (row := row) (sh := sh) hp hv).1
      refine ⟨?_, hp, hn⟩
      dsimp only
      rw [pt_elq ha, hv]
    · rename_i hv0
      split at he
      · rename_i v hv
        cases he
        have ha := (pt_el (row := row) (sh := sh) hp hv).1
        refine ⟨?_, hp, hn⟩
        dsimp only
        rw [pt_elq ha, hv0]
        dsimp only
        rw [pt_elq ha, hv]
      · cases he
  · split at he
    · rename_i v hv
      cases he
      have ha := (pt_el (row := row) (sh := sh) hp hv).1
      refine ⟨?_, hp, hn⟩
      dsimp only
      rw [pt_elq ha, hv]
    · cases he
  · split at he
    · rename_i v hv
      cases he
      have ha := (pt_el (row := row) (sh := sh) hp hv).1
      refine ⟨?_, hp, hn⟩
      dsimp only
      rw [pt_elq ha, hv]
    · cases he
  · split at he
    · rename_i haa
      split at he
      · rename_i v hv
        cases he
        have ha := (pt_el (row := row) (sh := sh) hp hv).1
        refine ⟨?_, hp, hn⟩
        dsimp only
        rw [pt_aa ha, haa]
        dsimp only
        rw [pt_elq ha, hv]
      · cases he
    · rename_i haa
      split at he
      · rename_i v hv
        cases he
        have ha := (pt_el (row := row) (sh := sh) hp hv).1
        refine ⟨?_, hp, hn⟩
        dsimp only
        rw [pt_aa ha, haa]
        dsimp only
        rw [pt_elq ha, hv]
      · cases he
    · cases he
  · split at he
    · cases he
    · rename_i hlt
      have ha := keyw hlt
      split at he
      · rename_i v hv
        cases he
        refine ⟨?_, hp, hn⟩
        dsimp only
        rw [if_neg hlt, pt_elq ha, hv]
        exact congrArg (fun z : rf_M => some (_, (z, (pt_H row sh h).2))) (pt_wi ha _ _)
      · cases he
  · split at he
    · cases he
    · rename_i hlt
      have ha := keyw hlt
      split at he
      · rename_i v hv
        cases he
        refine ⟨?_, hp, hn⟩
        dsimp only
        rw [if_neg hlt, pt_elq ha, hv]
        exact congrArg (fun z : rf_M => some (_, (z, (pt_H row sh h).2))) (pt_wl _ _)
      · cases he
  · split at he
    · cases he
    · rename_i hlt
      have ha := keyw hlt
      split at he
      · rename_i v hv
        cases he
        refine ⟨?_, hp, hn⟩
        dsimp only
        rw [if_neg hlt, pt_elq ha, hv]
        exact congrArg (fun z : rf_M => some (_, (z, (pt_H row sh h).2))) (pt_wi ha _ _)
      · rename_i hv0
        split at he
        · rename_i v hv
          cases he
          refine ⟨?_, hp, hn⟩
          dsimp only
          rw [if_neg hlt, pt_elq ha, hv0]
          dsimp only
          rw [pt_elq ha, hv]
          exact congrArg (fun z : rf_M => some (_, (z, (pt_H row sh h).2))) (pt_wi ha _ _)
        · cases he
  · split at he
    · cases he
    · rename_i hlt
      have ha := keyw hlt
      split at he
      · rename_i v hv
        cases he
        refine ⟨?_, hp, hn⟩
        dsimp only
        rw [if_neg hlt, pt_elq ha, hv]
        exact congrArg (fun z : rf_M => some (_, (z, (pt_H row sh h).2))) (pt_wi ha _ _)
      · cases he
  · split at he
    · cases he
    · rename_i hlt
      have ha := keyw (fun z => hlt (Or.inl z))
      have hb := keyw (fun z => hlt (Or.inr z))
      split at he
      · rename_i haa hob
        split at he
        · rename_i hc
          cases he
          refine ⟨?_, hp, hn⟩
          dsimp only
          rw [if_neg hlt, pt_aa ha, pt_ob hb, haa, hob]
          dsimp only
          rw [if_pos hc]
          rfl
        · cases he
      · cases he
  · split at he
    · cases he
    · rename_i hlt
      have ha := keyw hlt
      split at he
      · rename_i haa
        split at he
        · rename_i hc
          cases he
          refine ⟨?_, hp, hn⟩
          dsimp only
          rw [if_neg hlt, pt_aa ha, haa]
          dsimp only
          rw [if_pos hc]
          rfl
        · cases he
      · cases he
  · split at he
    · rename_i q hq
      cases he
      have ha := pt_ne_aa hp hq
      refine ⟨?_, hp, hn⟩
      dsimp only
      rw [pt_aa ha, hq]
    · cases he
  · split at he
    · split at he
      · rename_i q hq
        cases he
        obtain ⟨z1, z2⟩ := pt_sh hn hp _ _
        refine ⟨?_, z1, z2⟩
        dsimp only
        rw [pt_nw hn]
        rfl
      · cases he
    · cases he
  · split at he
    · rename_i hc
      cases he
      obtain ⟨z1, z2⟩ := pt_sh hn hp _ _
      refine ⟨?_, z1, z2⟩
      dsimp only
      rw [if_pos hc, pt_nw hn]
      rfl
    · cases he
  · split at he
    · split at he
      · rename_i q hq
        split at he
        · rename_i hc
          cases he
          obtain ⟨z1, z2⟩ := pt_sh hn hp _ _
          refine ⟨?_, z1, z2⟩
          dsimp only
          rw [if_pos hc, pt_nw hn]
          rfl
        · cases he
      · cases he
    · cases he
  · cases he
set_option maxHeartbeats 4000000 in
theorem pt_bi {cx : rf_C} {kd : Int} {d : Nat × Nat} (h1 : 1 < cx.2.2.2.2) (hp : h.2.1 1 = .inl pt_P) (hn : 1 < h.2.2.1) {st : List Value} {q' : List Value × rf_H} (he : rf_bi cx kd d st h = some q') : rf_bi cx kd d st (pt_H row sh h) = some (q'.1, pt_H row sh q'.2) ∧ q'.2.2.1 1 = .inl pt_P ∧ 1 < q'.2.2.2.1 := by
  have keyw : ∀ {a : Nat}, ¬ a < cx.2.2.2.2 → a ≠ 1 := fun z1 z2 => z1 (by rw [z2]; exact h1)
  unfold rf_bi at he ⊢
  split at he
  · rename_i hk
    rw [if_pos hk]
    split at he
    · split at he
      · rename_i h8
        cases he
        refine ⟨?_, hp, hn⟩
        rw [if_pos h8]
      · cases he
    · cases he
  · rename_i hk
    rw [if_neg hk]
    split at he
    · rename_i hk
      rw [if_pos hk]
      split at he
      · split at he
        · rename_i h8
          have ha := keyw h8.2.1
          have hb := keyw h8.2.2.1
          rw [if_pos h8, pt_aa ha, pt_aa hb]
          split at he
          · rename_i e1 e2
            split at he
            · rename_i hc
              cases he
              refine ⟨?_, hp, hn⟩
              rw [if_pos hc]
              refine congrArg (fun z : rf_M => some (_, (z, (pt_H row sh h).2))) ?_
              show (va_up (va_up h.1.1 1 row) _ (va_cpy (va_up h.1.1 1 row _) (va_up h.1.1 1 row _) _ _ _), h.1.2.1, h.1.2.2) = (va_up (va_up h.1.1 _ _) 1 row, h.1.2.1, h.1.2.2)
              rw [va_up_ne _ _ ha, va_up_ne _ _ hb, up_comm h.1.1 _ _ ha]
            · cases he
          · rename_i e1 e2
            split at he
            · rename_i hc
              cases he
              refine ⟨?_, hp, hn⟩
              rw [if_pos hc]
              rfl
            · cases he
          · cases he
        · cases he
      · cases he
    · rename_i hk
      rw [if_neg hk]
      split at he
      · rename_i hk
        rw [if_pos hk]
        split at he
        · split at he
          · rename_i h8
            cases he
            refine ⟨?_, hp, hn⟩
            rw [if_pos h8]
          · cases he
        · cases he
      · rename_i hk
        rw [if_neg hk]
        split at he
        · rename_i hk
          rw [if_pos hk]
          split at he
          · split at he
            · rename_i h8
              cases he
              refine ⟨?_, hp, hn⟩
              rw [if_pos h8]
            · cases he
          · cases he
        · cases he
theorem pt_ca {cx : rf_C} {I : Instr} {aux : List (Int × Nat)} (hno : ∀ q ∈ aux, q.1 ≠ rf_ky cx.2.2.2.2 1 pt_P ∧ q.1 ≠ (pt_P : Int)) (hp : h.2.1 1 = .inl pt_P) {st : List Value} {q : Nat × List Value × List Value} (he : rf_ca cx I aux st h = some q) : rf_ca cx I aux st (pt_H row sh h) = some q := by
  unfold rf_ca at he ⊢
  split at he
  · rename_i q0 tg
    split at he
    · rename_i a r heq
      split at he
      · rename_i ci hob
        split at he
        · rename_i j hlk
          have ha : a ≠ 1 := fun z => by
            subst z
            obtain ⟨-, -, h4⟩ := rf_ob_ok hob
            rw [hp] at h4
            cases h4
            exact (hno _ (List.mem_cons_of_mem _ (rf_lk_ok hlk))).1 rfl
          rw [pt_ob ha, hob]
          dsimp only
          rw [hlk]
          exact he
        · cases he
      · cases he
    · exact he
    · exact he
    · cases he
  · cases he
set_option maxHeartbeats 4000000 in
theorem pt_ev {cx : rf_C} (hno : pt_no cx) : ∀ (n : Nat) (d : Nat × Nat) (i pc : Nat) (ls : rf_L) (st : List Value) (h : rf_H) (r : Option Value) (hF : rf_H), h.2.1 1 = .inl pt_P → 1 < h.2.2.1 → rf_ev cx n d i pc ls st h = some (r, hF) → rf_ev cx n d i pc ls st (pt_H row sh h) = some (r, pt_H row sh hF) ∧ hF.2.1 1 = .inl pt_P ∧ 1 < hF.2.2.1 := by
  intro n
  induction n with
  | zero =>
    intro d i pc ls st h r hF hp hn he
    unfold rf_ev at he
    cases he
  | succ n ih =>
    intro d i pc ls st h r hF hp hn he
    unfold rf_ev at he ⊢
    cases hf : cx.1 i pc with
    | none => rw [hf] at he; cases he
    | some I =>
      have hno2 := hno.2 i pc I hf
      rw [hf] at he
      dsimp only at he ⊢
      cases hx : rf_ex cx d i pc I ls st h with
      | none => rw [hx] at he; cases he
      | some o =>
        rw [hx] at he
        unfold rf_ex at hx
        rcases o with q | q | v
        · have hnx : ∃ h', q.2.2.2 = h' ∧ rf_ex cx d i pc I ls st (pt_H row sh h) = some (.inl (q.1, q.2.1, q.2.2.1, pt_H row sh h')) ∧ h'.2.1 1 = .inl pt_P ∧ 1 < h'.2.2.1 := by
            unfold rf_ex
            split at hx
            · obtain ⟨x, q1, q2⟩ := Option.map_eq_some_iff.mp hx
              have q2 := Sum.inl.inj q2; subst q2
              exact ⟨h, rfl, by rw [q1]; rfl, hp, hn⟩
            · obtain ⟨x, q1, q2⟩ := Option.map_eq_some_iff.mp hx
              have q2 := Sum.inl.inj q2; subst q2
              exact ⟨h, rfl, by rw [q1]; rfl, hp, hn⟩
            · obtain ⟨x, q1, q2⟩ := Option.map_eq_some_iff.mp hx
              have q2 := Sum.inl.inj q2; subst q2
              exact ⟨h, rfl, by rw [q1]; rfl, hp, hn⟩
            · obtain ⟨x, q1, q2⟩ := Option.map_eq_some_iff.mp hx
              have q2 := Sum.inl.inj q2; subst q2
              exact ⟨h, rfl, by rw [q1]; rfl, hp, hn⟩
            · obtain ⟨x, q1, q2⟩ := Option.map_eq_some_iff.mp hx
              have q2 := Sum.inl.inj q2; subst q2
              obtain ⟨z1, z2, z3⟩ := pt_hp (row := row) (sh := sh) hno.1 hno2 hp hn q1
              exact ⟨x.2, rfl, by rw [z1]; rfl, z2, z3⟩
            · split at hx
              · rename_i hk
                obtain ⟨x, q1, q2⟩ := Option.map_eq_some_iff.mp hx
                have q2 := Sum.inl.inj q2; subst q2
                obtain ⟨z1, z2, z3⟩ := pt_bi (row := row) (sh := sh) hno.1 hp hn q1
                exact ⟨x.2, rfl, by rw [if_pos hk, z1]; rfl, z2, z3⟩
              · obtain ⟨x, q1, q2⟩ := Option.map_eq_some_iff.mp hx
                cases q2
            · obtain ⟨x, q1, q2⟩ := Option.map_eq_some_iff.mp hx
              cases q2
            · obtain ⟨x, q1, q2⟩ := Option.map_eq_some_iff.mp hx
              have q2 := Sum.inl.inj q2; subst q2
              exact ⟨h, rfl, by rw [q1]; rfl, hp, hn⟩
            · cases hx
          obtain ⟨h', e1, e2, e3, e4⟩ := hnx
          rw [e2]
          dsimp only at he ⊢
          rw [e1] at he
          exact ih _ _ _ _ _ _ _ _ e3 e4 he
        · have hnx : rf_ex cx d i pc I ls st (pt_H row sh h) = some (.inr (.inl q)) := by
            unfold rf_ex
            split at hx
            all_goals first
              | (obtain ⟨x, q1, q2⟩ := Option.map_eq_some_iff.mp hx; cases q2; done)
              | (cases hx; done)
              | skip
            split at hx
            · obtain ⟨x, q1, q2⟩ := Option.map_eq_some_iff.mp hx
              cases q2
            · rename_i hk
              obtain ⟨x, q1, q2⟩ := Option.map_eq_some_iff.mp hx
              rw [if_neg hk, pt_ca hno2 hp q1, Option.map_some, q2]
          rw [hnx]
          dsimp only at he ⊢
          split at he
          · rename_i hc
            rw [if_pos hc]
            cases hcal : rf_ev cx n (d.1 - 1, d.2 - ((cx.2.1 q.1).2.2.1 + 19)) q.1 0 (lv_args 0 q.2.1) [] h with
            | none => rw [hcal] at he; cases he
            | some rr =>
              rw [hcal] at he
              obtain ⟨z1, z2, z3⟩ := ih _ _ _ _ _ _ rr.1 rr.2 hp hn hcal
              rw [z1]
              exact ih _ _ _ _ _ _ _ _ z2 z3 he
          · cases he
        · have hnx : rf_ex cx d i pc I ls st (pt_H row sh h) = some (.inr (.inr v)) := by
            unfold rf_ex
            split at hx
            all_goals first
              | (obtain ⟨x, q1, q2⟩ := Option.map_eq_some_iff.mp hx; cases q2; done)
              | (cases hx; done)
              | skip
            · split at hx
              · obtain ⟨x, q1, q2⟩ := Option.map_eq_some_iff.mp hx
                cases q2
              · obtain ⟨x, q1, q2⟩ := Option.map_eq_some_iff.mp hx
                cases q2
            · exact hx
          rw [hnx]
          dsimp only at he ⊢
          cases he
          exact ⟨rfl, hp, hn⟩
end PT
/-! THE TWO CONSTRUCTORS, by the kernel, over a heap whose script cell is a poison -/
def ml_no (e : rf_E1) : Bool := e.2.2.all (fun q => q.2.1.2.all (fun z => !(z.1 == -1000) && !(z.1 == 999)))
theorem ml0_no (fz : Bool) : (ml0 fz).all ml_no = true := by cases fz <;> decide +kernel
theorem cx0_no (fz : Bool) : pt_no (cx0 fz) := by
  refine ⟨show 1 < 22 from Nat.le_of_ble_eq_true rfl, fun i pc I h q hq => ?_⟩
  have h0 : (((ml0 fz).getD i rf_dm).2.2.find? (fun q => q.1 == pc)).map (fun q => q.2.1) = some I := h
  obtain ⟨e, he, heI⟩ := Option.map_eq_some_iff.mp h0
  have hmem := List.mem_of_find?_eq_some he
  have hi : i < (ml0 fz).length := by
    rcases Nat.lt_or_ge i (ml0 fz).length with z | z
    · exact z
    · have h9 : (ml0 fz).getD i rf_dm = rf_dm := by simp [List.getD_eq_getElem?_getD, List.getElem?_eq_none z]
      rw [h9] at hmem
      cases hmem
  have hin : (ml0 fz).getD i rf_dm ∈ ml0 fz := by
    rw [List.getD_eq_getElem?_getD, List.getElem?_eq_getElem hi]
    exact List.getElem_mem hi
  have h1 := List.all_eq_true.mp (ml0_no fz) _ hin
  have h2 := List.all_eq_true.mp h1 _ hmem
  have h3 := List.all_eq_true.mp h2 q (by rw [heI]; exact hq)
  simp only [Bool.and_eq_true, Bool.not_eq_true', beq_eq_false_iff_ne] at h3
  exact ⟨h3.1, h3.2⟩
def hPo : rf_H := (h0M (fun _ => 0), va_up (h0S 0) 1 (.inl pt_P), 22, 0)
theorem hPo_pt (L : Nat) (xs : Nat → Int32) : pt_H xs (.inr (.int, L)) hPo = h00 L xs := by
  have e1 : va_up (h0M (fun _ => 0)).1 1 xs = (h0M xs).1 := by
    funext a
    unfold va_up
    by_cases ha : a = 1
    · rw [if_pos ha]; funext j; simp [h0M, ha]
    · rw [if_neg ha]; funext j; simp [h0M, ha]
  have e2 : va_up (va_up (h0S 0) 1 (.inl pt_P)) 1 (.inr (.int, L)) = h0S L := by
    funext a
    unfold va_up
    by_cases ha : a = 1
    · rw [if_pos ha]; simp [h0S, ha]
    · rw [if_neg ha, if_neg ha]; simp [h0S, ha]
  show ((va_up (h0M (fun _ => 0)).1 1 xs, _), va_up (va_up (h0S 0) 1 (.inl pt_P)) 1 (.inr (.int, L)), 22, 0) = h00 L xs
  rw [e1, e2]
  rfl
def K1r (fz : Bool) : Option (Option Value × rf_H) := rf_ev (cx0 fz) 3000 (2000, 80000) 1 0 [(0, .ref 22)] [] (rf_nw hPo (.inl 0) 10)
def K1 (fz : Bool) : rf_H := ((K1r fz).getD (none, hPo)).2
/-! ROWS OF ARRAYS ARE 0 behind the constructors: no code of theirs writes an int or a long into an array -/
def zr_i (I : Instr) : Bool := match I with
  | .iastore => false
  | .lastore => false
  | .bastore => false
  | .castore => false
  | _ => true
def zr_row (Ms : List Nat) (I : rf_I) : Bool := zr_i I.1 && (!(rf_kd I.1 == 5) || (!((I.2.headD (0, 0)).1 == 11) && I.2.tail.all (fun q => Ms.elem q.2)))
def zr_P (h : rf_H) : Prop := ∀ a, a < h.2.2.1 → ∀ q : FieldType × Nat, 1 < a → 22 ≤ a → h.2.1 a = .inr q → ∀ k, h.1.1 a k = 0 ∧ h.1.2.1 a k = 0
theorem zr_nw {h : rf_H} (hz : zr_P h) (s : rf_S) (N : Nat) : zr_P (rf_nw h s N) := by
  intro a ha q h1 h22 hs k
  have ha : a < h.2.2.1 + 1 := ha
  by_cases e : a = h.2.2.1
  · subst e
    exact ⟨by show va_up h.1.1 h.2.2.1 (fun _ => 0) h.2.2.1 k = 0; rw [va_up_self], by show va_up h.1.2.1 h.2.2.1 (fun _ => 0) h.2.2.1 k = 0; rw [va_up_self]⟩
  · have hs' : h.2.1 a = .inr q := by
      have : va_up h.2.1 h.2.2.1 s a = .inr q := hs
      unfold va_up at this
      rw [if_neg e] at this
      exact this
    obtain ⟨g1, g2⟩ := hz a (by omega) q h1 h22 hs' k
    refine ⟨?_, ?_⟩
    · show va_up h.1.1 h.2.2.1 (fun _ => 0) a k = 0
      unfold va_up
      rw [if_neg e]; exact g1
    · show va_up h.1.2.1 h.2.2.1 (fun _ => 0) a k = 0
      unfold va_up
      rw [if_neg e]; exact g2
theorem zr_wr {h : rf_H} (hz : zr_P h) {a ci k : Nat} {ty : FieldType} {v : Value} {M : rf_M} (ho : rf_ob h a = some ci) (hw : rf_wr h.1 ty a k v = some M) : zr_P (M, h.2) := by
  obtain ⟨-, w2, -⟩ := rf_wr_ok hw (fun x => x)
  have hsh : h.2.1 a = .inl ci := by
    unfold rf_ob at ho
    split at ho
    · split at ho
      · rename_i e; cases ho; exact e
      · cases ho
    · cases ho
  intro a' ha' q h1 h22 hs k'
  have hs : h.2.1 a' = .inr q := hs
  have hne : a' ≠ a := fun e => by rw [e, hsh] at hs; cases hs
  obtain ⟨g1, g2⟩ := hz a' ha' q h1 h22 hs k'
  have e1 : Value.int (M.1 a' k') = .int (h.1.1 a' k') := w2 .int a' k' (Or.inl hne)
  have e2 : Value.long (M.2.1 a' k') = .long (h.1.2.1 a' k') := w2 .long a' k' (Or.inl hne)
  injection e1 with e1
  injection e2 with e2
  exact ⟨e1.trans g1, e2.trans g2⟩
theorem zr_hp {cx : rf_C} {I : Instr} {aux : List (Int × Nat)} {st : List Value} {h : rf_H} {q : List Value × rf_H} (hi : zr_i I = true) (hz : zr_P h) (he : rf_hp cx I aux st h = some q) : zr_P q.2 := by
  unfold rf_hp at he
  split at he
  all_goals first
    | (cases hi; done)
    | skip
  · split at he
    · split at he
      · cases he; exact hz
      · cases he
    · cases he
  · split at he
    · cases he
    · split at he
      · rename_i ci ho
        split at he
        · split at he
          · rename_i M hw
            cases he
            exact zr_wr hz ho hw
          · cases he
        · cases he
      · cases he
  · split at he
    · cases he; exact hz
    · cases he
  · split at he
    · cases he; exact hz
    · cases he
  · split at he
    · cases he; exact hz
    · split at he
      · cases he; exact hz
      · cases he
  · split at he
    · cases he; exact hz
    · cases he
  · split at he
    · cases he; exact hz
    · cases he
  · split at he
    · split at he
      · cases he; exact hz
      · cases he
    · split at he
      · cases he; exact hz
      · cases he
    · cases he
  · split at he
    · cases he
    · split at he
      · split at he
        · cases he; exact hz
        · cases he
      · cases he
  · split at he
    · cases he
    · split at he
      · split at he
        · cases he; exact hz
        · cases he
      · cases he
  · split at he
    · cases he; exact hz
    · cases he
  · split at he
    · split at he
      · cases he; exact zr_nw hz _ _
      · cases he
    · cases he
  · split at he
    · cases he; exact zr_nw hz _ _
    · cases he
  · split at he
    · split at he
      · split at he
        · cases he; exact zr_nw hz _ _
        · cases he
      · cases he
    · cases he
  · cases he
theorem zr_bi {cx : rf_C} {kd : Int} {d : Nat × Nat} {st : List Value} {h : rf_H} {q : List Value × rf_H} (hk : ¬ kd = 11) (hz : zr_P h) (he : rf_bi cx kd d st h = some q) : zr_P q.2 := by
  unfold rf_bi at he
  split at he
  · split at he
    · split at he
      · cases he; exact hz
      · cases he
    · cases he
  · split at he
    · split at he
      · split at he
        · cases he; exact hz
        · cases he
      · cases he
    · split at he
      · split at he
        · split at he
          · cases he; exact hz
          · cases he
        · cases he
      · cases he
theorem zr_ca {cx : rf_C} {I : Instr} {aux : List (Int × Nat)} {st : List Value} {h : rf_H} {q : Nat × List Value × List Value} (he : rf_ca cx I aux st h = some q) : ∃ z ∈ aux.tail, z.2 = q.1 := by
  unfold rf_ca at he
  split at he
  · rename_i q0 tg
    split at he
    · split at he
      · split at he
        · rename_i j hj
          split at he
          · cases he
            unfold rf_lk at hj
            obtain ⟨z, z1, z2⟩ := Option.map_eq_some_iff.mp hj
            exact ⟨z, List.mem_of_find?_eq_some z1, z2⟩
          · cases he
        · cases he
      · cases he
    · split at he
      · split at he
        · cases he; exact ⟨_, List.mem_singleton_self _, rfl⟩
        · cases he
      · cases he
    · split at he
      · split at he
        · cases he; exact ⟨_, List.mem_singleton_self _, rfl⟩
        · cases he
      · cases he
    · cases he
  · cases he
theorem zr_ev {cx : rf_C} {Ms : List Nat} (hM : ∀ i ∈ Ms, ∀ pc I, cx.1 i pc = some I → zr_row Ms I = true) : ∀ (n : Nat) (d : Nat × Nat) (i pc : Nat) (ls : rf_L) (st : List Value) (h : rf_H) (x : Option Value × rf_H), i ∈ Ms → zr_P h → rf_ev cx n d i pc ls st h = some x → zr_P x.2 := by
  intro n
  induction n with
  | zero =>
    intro d i pc ls st h x _ _ he
    unfold rf_ev at he
    cases he
  | succ n ih =>
    intro d i pc ls st h x hi hz he
    unfold rf_ev at he
    cases hf : cx.1 i pc with
    | none => rw [hf] at he; cases he
    | some I =>
      rw [hf] at he
      dsimp only at he
      have hrow := hM i hi pc I hf
      unfold zr_row at hrow
      simp only [Bool.and_eq_true, Bool.not_eq_true', Bool.or_eq_true] at hrow
      obtain ⟨r1, r3⟩ := hrow
      cases hx : rf_ex cx d i pc I ls st h with
      | none => rw [hx] at he; cases he
      | some o =>
        rw [hx] at he
        unfold rf_ex at hx
        rcases o with q | q | v
        · have hz' : zr_P q.2.2.2 := by
            split at hx
            · obtain ⟨y, y1, y2⟩ := Option.map_eq_some_iff.mp hx; cases y2; exact hz
            · obtain ⟨y, y1, y2⟩ := Option.map_eq_some_iff.mp hx; cases y2; exact hz
            · obtain ⟨y, y1, y2⟩ := Option.map_eq_some_iff.mp hx; cases y2; exact hz
            · obtain ⟨y, y1, y2⟩ := Option.map_eq_some_iff.mp hx; cases y2; exact hz
            · obtain ⟨y, y1, y2⟩ := Option.map_eq_some_iff.mp hx; cases y2; exact zr_hp r1 hz y1
            · rename_i hk5
              split at hx
              · obtain ⟨y, y1, y2⟩ := Option.map_eq_some_iff.mp hx
                cases y2
                rcases r3 with r3 | r3
                · rw [hk5] at r3; cases r3
                · exact zr_bi (by simpa using r3.1) hz y1
              · obtain ⟨y, y1, y2⟩ := Option.map_eq_some_iff.mp hx; cases y2
            · obtain ⟨y, y1, y2⟩ := Option.map_eq_some_iff.mp hx; cases y2
            · obtain ⟨y, y1, y2⟩ := Option.map_eq_some_iff.mp hx; cases y2; exact hz
            · cases hx
          exact ih _ _ _ _ _ _ _ hi hz' he
        · have hj : q.1 ∈ Ms := by
            split at hx
            · obtain ⟨y, y1, y2⟩ := Option.map_eq_some_iff.mp hx; cases y2
            · obtain ⟨y, y1, y2⟩ := Option.map_eq_some_iff.mp hx; cases y2
            · obtain ⟨y, y1, y2⟩ := Option.map_eq_some_iff.mp hx; cases y2
            · obtain ⟨y, y1, y2⟩ := Option.map_eq_some_iff.mp hx; cases y2
            · obtain ⟨y, y1, y2⟩ := Option.map_eq_some_iff.mp hx; cases y2
            · rename_i hk5
              split at hx
              · obtain ⟨y, y1, y2⟩ := Option.map_eq_some_iff.mp hx; cases y2
              · obtain ⟨y, y1, y2⟩ := Option.map_eq_some_iff.mp hx
                cases y2
                obtain ⟨z, z1, z2⟩ := zr_ca y1
                rcases r3 with r3 | r3
                · rw [hk5] at r3; cases r3
                · rw [← z2]
                  exact List.elem_iff.mp (List.all_eq_true.mp r3.2 z z1)
            · obtain ⟨y, y1, y2⟩ := Option.map_eq_some_iff.mp hx; cases y2
            · obtain ⟨y, y1, y2⟩ := Option.map_eq_some_iff.mp hx; cases y2
            · cases hx
          dsimp only at he
          split at he
          · cases hcal : rf_ev cx n (d.1 - 1, d.2 - ((cx.2.1 q.1).2.2.1 + 19)) q.1 0 (lv_args 0 q.2.1) [] h with
            | none => rw [hcal] at he; cases he
            | some r =>
              rw [hcal] at he
              have hz' : zr_P h := hz
              exact ih _ _ _ _ _ _ _ hi (ih _ _ _ _ _ _ _ hj hz' hcal) he
          · cases he
        · cases he
          split at hx
          all_goals first
            | exact hz
            | skip
/-! arrays are 0 behind the constructors -/
def zk_Ms : List Nat := [1, 2, 3, 4, 5, 6, 7, 8, 9, 10, 11, 12, 127]
theorem zk_ml (fz : Bool) : zk_Ms.all (fun i => ((ml0 fz).getD i rf_dm).2.2.all (fun q => zr_row zk_Ms q.2.1)) = true := by cases fz <;> decide +kernel
theorem zk_cx (fz : Bool) : ∀ i ∈ zk_Ms, ∀ pc I, (cx0 fz).1 i pc = some I → zr_row zk_Ms I = true := by
  intro i hi pc I h
  have h0 : (((ml0 fz).getD i rf_dm).2.2.find? (fun q => q.1 == pc)).map (fun q => q.2.1) = some I := h
  obtain ⟨e, he, heI⟩ := Option.map_eq_some_iff.mp h0
  have h1 := List.all_eq_true.mp (zk_ml fz) i hi
  have h2 := List.all_eq_true.mp h1 e (List.mem_of_find?_eq_some he)
  rw [← heI]
  exact h2
theorem zk_0 : zr_P (rf_nw hPo (.inl 0) 10) := by
  intro a ha q h1 h22 hs k
  have ha : a < 22 + 1 := ha
  have e : a = 22 := by omega
  subst e
  have hs : va_up hPo.2.1 22 (.inl 0) 22 = .inr q := hs
  rw [va_up_self] at hs
  cases hs
/-! THE CHECKER OF SAFETY: a walk over bounds. Values are signs: an int is a ghost plus a number, or a number; longs and references are ghosts; what is known of ghosts stands in sxE. Cells lie in regions; a region says what lies in its cells at all times. -/
/-- a sign: ghost s plus c; a number; a long ghost; null; a reference ghost -/
abbrev sxV : Type := (Nat × Int) ⊕ Int ⊕ Nat ⊕ Option Nat
/-- what may lie in a slot: an int within bounds; anything; a reference into a region, or null too -/
abbrev sxF : Type := (Int × Int) ⊕ Option (Nat × Bool)
/-- a region: objects of a kind, with their fields; arrays of a type and length, with their elements -/
abbrev sxR : Type := (Nat × List sxF) ⊕ (FieldType × Nat × sxF)
/-- what is known: bounds of int ghosts; bounds of long ghosts, whether not 0; regions of references, whether null may be; fields; comparisons with 0 -/
abbrev sxE : Type := List (Int × Int) × List (Int × Int × Bool) × List (Nat × Bool) × List ((Nat × Nat) × sxV) × List (Nat × Nat)
abbrev sxW : Type := List Int × List Int64 × List (Option Nat)
/-- what lies in slot k of the cells of region g -/
def sx_fa (G : List sxR) (g k : Nat) : Option sxF := match G[g]? with
  | some ((.inl (_, fs))) => fs[k]?
  | some ((.inr (_, len, e))) => if k < len then some e else none
  | none => none
def sx_sh (G : List sxR) (g : Nat) (s : rf_S) : Prop := match G[g]? with
  | some ((.inl (ci, _))) => s = .inl ci
  | some ((.inr (ty, len, _))) => s = .inr (ty, len)
  | none => True
/-- the world: program, regions, the region of a cell, shapes, the memory of old -/
abbrev sxU : Type := { u : rf_C × List sxR × (Nat → Nat) × gS × rf_M // 0 < u.1.2.2.2.2 ∧ ∀ a, u.1.2.2.2.2 ≤ a → a < u.2.2.2.1.2.1 → sx_sh u.2.1 (u.2.2.1 a) (u.2.2.2.1.1 a) }
def sx_v (W : sxW) (x : sxV) (v : Value) : Prop := match x with
  | (.inl (s, c)) => ∃ (z : Int32) (y : Int), v = .int z ∧ W.1[s]? = some y ∧ z.toInt = y + c
  | (.inr (.inl c)) => ∃ z : Int32, v = .int z ∧ z.toInt = c
  | (.inr (.inr (.inl s))) => ∃ y : Int64, v = .long y ∧ W.2.1[s]? = some y
  | (.inr (.inr (.inr (some s)))) => ∃ o : Option Nat, v = va_rf o ∧ W.2.2[s]? = some o
  | (.inr (.inr (.inr none))) => v = .null
def sx_vs (W : sxW) : List sxV → List Value → Prop
  | [], [] => True
  | x :: xs, v :: vs => sx_v W x v ∧ sx_vs W xs vs
  | _, _ => False
/-- what lies in a slot of the frame: none where nothing is known -/
def sx_ld (sl : List (Option sxV)) (j : Nat) : Option sxV := match sl[j]? with
  | some x => x
  | none => none
def sx_ls (W : sxW) (sl : List (Option sxV)) (ls : rf_L) : Prop := ∀ j x, sx_ld sl j = some x → ∃ v, rf_ld ls j = some v ∧ sx_v W x v
/-- b is a cell of region g -/
def sx_rc (U : sxU) (g b : Nat) : Prop := U.1.1.2.2.2.2 ≤ b ∧ b < U.1.2.2.2.1.2.1 ∧ U.1.2.2.1 b = g
def sx_f (U : sxU) (M : rf_M) (a k : Nat) (f : sxF) : Prop := match f with
  | (.inl (lo, hi)) => lo ≤ (M.1 a k).toInt ∧ (M.1 a k).toInt ≤ hi
  | (.inr none) => True
  | (.inr (some (g, nul))) => match M.2.2 a k with
    | none => nul = true
    | some b => sx_rc U g b
def sx_same (M M' : rf_M) (a k : Nat) : Prop := M'.1 a k = M.1 a k ∧ M'.2.1 a k = M.2.1 a k ∧ M'.2.2 a k = M.2.2 a k
/-- all is as the regions say; the old cells are as they were -/
def sx_in (U : sxU) (M : rf_M) : Prop := (∀ a k f, U.1.1.2.2.2.2 ≤ a → a < U.1.2.2.2.1.2.1 → sx_fa U.1.2.1 (U.1.2.2.1 a) k = some f → sx_f U M a k f) ∧ ∀ a k, a < U.1.1.2.2.2.2 → sx_same U.1.2.2.2.2 M a k
/-- all slots outside of md are as they were -/
def sx_fr (U : sxU) (md : List (Nat × Nat)) (M M' : rf_M) : Prop := ∀ a k, (a < U.1.1.2.2.2.2 ∨ ((U.1.2.2.1 a, 0) ∉ md ∧ (U.1.2.2.1 a, k + 1) ∉ md)) → sx_same M M' a k
def sx_rd (x : sxV) (M : rf_M) (a k : Nat) : Value := match x with
  | (.inl (_, _)) => .int (M.1 a k)
  | (.inr (.inl _)) => .int (M.1 a k)
  | (.inr (.inr (.inl _))) => .long (M.2.1 a k)
  | (.inr (.inr (.inr (some _)))) => va_rf (M.2.2 a k)
  | (.inr (.inr (.inr none))) => va_rf (M.2.2 a k)
def sx_e (U : sxU) (W : sxW) (E : sxE) (M : rf_M) : Prop :=
  (W.1.length = E.1.length) ∧
  (W.2.1.length = E.2.1.length) ∧
  (W.2.2.length = E.2.2.1.length) ∧
  (∀ (s : Nat) (b : Int × Int), E.1[s]? = some b → ∃ y, W.1[s]? = some y ∧ b.1 ≤ y ∧ y ≤ b.2) ∧
  (∀ (s : Nat) (b : Int × Int × Bool), E.2.1[s]? = some b → ∃ y : Int64, W.2.1[s]? = some y ∧ b.1 ≤ y.toInt ∧ y.toInt ≤ b.2.1 ∧ (b.2.2 = true → y ≠ 0)) ∧
  (∀ (s : Nat) (b : Nat × Bool), E.2.2.1[s]? = some b → ∃ o : Option Nat, W.2.2[s]? = some o ∧ (match o with | none => b.2 = true | some a => sx_rc U b.1 a)) ∧
  (∀ (s k : Nat) (x : sxV), ((s, k), x) ∈ E.2.2.2.1 → ∃ a ci, W.2.2[s]? = some (some a) ∧ U.1.1.2.2.2.2 ≤ a ∧ U.1.2.2.2.1.1 a = .inl ci ∧ sx_v W x (sx_rd x M a k)) ∧
  (∀ (t s : Nat), (t, s) ∈ E.2.2.2.2 → ∃ (y : Int) (z : Int64), W.1[t]? = some y ∧ W.2.1[s]? = some z ∧ (y = 0 ↔ z = 0))
def sx_le (W W' : sxW) : Prop := (∀ (s : Nat) (y : Int), W.1[s]? = some y → W'.1[s]? = some y) ∧ (∀ (s : Nat) (y : Int64), W.2.1[s]? = some y → W'.2.1[s]? = some y) ∧ (∀ (s : Nat) (y : Option Nat), W.2.2[s]? = some y → W'.2.2[s]? = some y)
theorem sx_le_rfl (W : sxW) : sx_le W W := ⟨fun _ _ h => h, fun _ _ h => h, fun _ _ h => h⟩
theorem sx_le.trans {W W' W'' : sxW} (a : sx_le W W') (b : sx_le W' W'') : sx_le W W'' := ⟨fun s y h => b.1 s y (a.1 s y h), fun s y h => b.2.1 s y (a.2.1 s y h), fun s y h => b.2.2 s y (a.2.2 s y h)⟩
theorem sx_v.mono {W W' : sxW} (hw : sx_le W W') {x : sxV} {v : Value} (h : sx_v W x v) : sx_v W' x v := by
  rcases x with ⟨s, c⟩ | c | s | (_ | s)
  · obtain ⟨z, y, h1, h2, h3⟩ := h; exact ⟨z, y, h1, hw.1 _ _ h2, h3⟩
  · exact h
  · obtain ⟨y, h1, h2⟩ := h; exact ⟨y, h1, hw.2.1 _ _ h2⟩
  · exact h
  · obtain ⟨y, h1, h2⟩ := h; exact ⟨y, h1, hw.2.2 _ _ h2⟩
theorem sx_vs.mono {W W' : sxW} (hw : sx_le W W') : ∀ {xs : List sxV} {vs : List Value}, sx_vs W xs vs → sx_vs W' xs vs
  | [], [], _ => trivial
  | _ :: _, _ :: _, h => ⟨h.1.mono hw, sx_vs.mono hw h.2⟩
  | [], _ :: _, h => h.elim
  | _ :: _, [], h => h.elim
theorem sx_ls.mono {W W' : sxW} (hw : sx_le W W') {sl : List (Option sxV)} {ls : rf_L} (h : sx_ls W sl ls) : sx_ls W' sl ls := fun j x hj => by
  obtain ⟨v, h1, h2⟩ := h j x hj
  exact ⟨v, h1, h2.mono hw⟩
theorem sx_snoc {α : Type} {l : List α} {a b : α} {s : Nat} (h : (l ++ [a])[s]? = some b) : l[s]? = some b ∨ (s = l.length ∧ b = a) := by
  by_cases hs : s < l.length
  · rw [List.getElem?_append_left hs] at h; exact Or.inl h
  · rw [List.getElem?_append_right (by omega)] at h
    by_cases h0 : s - l.length = 0
    · rw [h0] at h
      simp only [List.getElem?_cons_zero, Option.some.injEq] at h
      exact Or.inr ⟨by omega, h.symm⟩
    · obtain ⟨t, ht⟩ : ∃ t, s - l.length = t + 1 := ⟨s - l.length - 1, by omega⟩
      rw [ht] at h
      simp at h
theorem sx_old {α : Type} {l : List α} {a b : α} {s : Nat} (h : l[s]? = some b) : (l ++ [a])[s]? = some b := by
  obtain ⟨hs, h2⟩ := List.getElem?_eq_some_iff.mp h
  rw [List.getElem?_append_left hs]; exact h
theorem sx_end {α : Type} (l : List α) (a : α) : (l ++ [a])[l.length]? = some a := by simp
def sx_ni (E : sxE) (lo hi : Int) : sxV × sxE := ((.inl (E.1.length, 0)), (E.1 ++ [(lo, hi)], E.2))
def sx_nl (E : sxE) (lo hi : Int) (nz : Bool) : sxV × sxE := ((.inr (.inr (.inl E.2.1.length))), (E.1, E.2.1 ++ [(lo, hi, nz)], E.2.2))
def sx_nr (E : sxE) (g : Nat) (nul : Bool) : sxV × sxE := ((.inr (.inr (.inr (some E.2.2.1.length)))), (E.1, E.2.1, E.2.2.1 ++ [(g, nul)], E.2.2.2))
section SX1
variable {U : sxU} {W : sxW} {E : sxE} {M : rf_M}
theorem sx_le1 (W : sxW) (y : Int) : sx_le W (W.1 ++ [y], W.2) := ⟨fun _ _ h => sx_old h, fun _ _ h => h, fun _ _ h => h⟩
theorem sx_le2 (W : sxW) (y : Int64) : sx_le W (W.1, W.2.1 ++ [y], W.2.2) := ⟨fun _ _ h => h, fun _ _ h => sx_old h, fun _ _ h => h⟩
theorem sx_le3 (W : sxW) (y : Option Nat) : sx_le W (W.1, W.2.1, W.2.2 ++ [y]) := ⟨fun _ _ h => h, fun _ _ h => h, fun _ _ h => sx_old h⟩
theorem sx_fi (hE : sx_e U W E M) {lo hi : Int} (x : Int32) (h1 : lo ≤ x.toInt) (h2 : x.toInt ≤ hi) : ∃ W', sx_le W W' ∧ sx_e U W' (sx_ni E lo hi).2 M ∧ sx_v W' (sx_ni E lo hi).1 (.int x) := by
  have hw := sx_le1 W x.toInt
  refine ⟨_, hw, ⟨?_, hE.2.1, hE.2.2.1, ?_, hE.2.2.2.2.1, hE.2.2.2.2.2.1, ?_, ?_⟩, x, x.toInt, rfl, ?_, by omega⟩
  · simp only [sx_ni, List.length_append, List.length_singleton, hE.1]
  · intro s b hs
    rcases sx_snoc hs with h | ⟨h, hb⟩
    · obtain ⟨y, q1, q2⟩ := hE.2.2.2.1 s b h
      exact ⟨y, hw.1 _ _ q1, q2⟩
    · subst hb
      refine ⟨x.toInt, ?_, h1, h2⟩
      rw [h, ← hE.1]
      exact sx_end _ _
  · intro s k y hy
    obtain ⟨a, ci, q1, q2, q3, q4⟩ := hE.2.2.2.2.2.2.1 s k y hy
    exact ⟨a, ci, q1, q2, q3, q4.mono hw⟩
  · intro t s hts
    obtain ⟨y, z, q1, q2, q3⟩ := hE.2.2.2.2.2.2.2 t s hts
    exact ⟨y, z, hw.1 _ _ q1, q2, q3⟩
  · show (W.1 ++ [x.toInt])[E.1.length]? = _
    rw [← hE.1]
    exact sx_end _ _
theorem sx_fl (hE : sx_e U W E M) {lo hi : Int} {nz : Bool} (x : Int64) (h1 : lo ≤ x.toInt) (h2 : x.toInt ≤ hi) (h3 : nz = true → x ≠ 0) : ∃ W', sx_le W W' ∧ sx_e U W' (sx_nl E lo hi nz).2 M ∧ sx_v W' (sx_nl E lo hi nz).1 (.long x) := by
  have hw := sx_le2 W x
  refine ⟨_, hw, ⟨hE.1, ?_, hE.2.2.1, hE.2.2.2.1, ?_, hE.2.2.2.2.2.1, ?_, ?_⟩, x, rfl, ?_⟩
  · simp only [sx_nl, List.length_append, List.length_singleton, hE.2.1]
  · intro s b hs
    rcases sx_snoc hs with h | ⟨h, hb⟩
    · obtain ⟨y, q1, q2⟩ := hE.2.2.2.2.1 s b h
      exact ⟨y, hw.2.1 _ _ q1, q2⟩
    · subst hb
      refine ⟨x, ?_, h1, h2, h3⟩
      rw [h, ← hE.2.1]
      exact sx_end _ _
  · intro s k y hy
    obtain ⟨a, ci, q1, q2, q3, q4⟩ := hE.2.2.2.2.2.2.1 s k y hy
    exact ⟨a, ci, q1, q2, q3, q4.mono hw⟩
  · intro t s hts
    obtain ⟨y, z, q1, q2, q3⟩ := hE.2.2.2.2.2.2.2 t s hts
    exact ⟨y, z, q1, hw.2.1 _ _ q2, q3⟩
  · show (W.2.1 ++ [x])[E.2.1.length]? = _
    rw [← hE.2.1]
    exact sx_end _ _
theorem sx_frr (hE : sx_e U W E M) {g : Nat} {nul : Bool} (o : Option Nat) (h : match o with | none => nul = true | some a => sx_rc U g a) : ∃ W', sx_le W W' ∧ sx_e U W' (sx_nr E g nul).2 M ∧ sx_v W' (sx_nr E g nul).1 (va_rf o) := by
  have hw := sx_le3 W o
  refine ⟨_, hw, ⟨hE.1, hE.2.1, ?_, hE.2.2.2.1, hE.2.2.2.2.1, ?_, ?_, ?_⟩, o, rfl, ?_⟩
  · simp only [sx_nr, List.length_append, List.length_singleton, hE.2.2.1]
  · intro s b hs
    rcases sx_snoc hs with h' | ⟨h', hb⟩
    · obtain ⟨y, q1, q2⟩ := hE.2.2.2.2.2.1 s b h'
      exact ⟨y, hw.2.2 _ _ q1, q2⟩
    · subst hb
      refine ⟨o, ?_, h⟩
      rw [h', ← hE.2.2.1]
      exact sx_end _ _
  · intro s k y hy
    obtain ⟨a, ci, q1, q2, q3, q4⟩ := hE.2.2.2.2.2.2.1 s k y hy
    exact ⟨a, ci, hw.2.2 _ _ q1, q2, q3, q4.mono hw⟩
  · intro t s hts
    obtain ⟨y, z, q1, q2, q3⟩ := hE.2.2.2.2.2.2.2 t s hts
    exact ⟨y, z, q1, q2, q3⟩
  · show (W.2.2 ++ [o])[E.2.2.1.length]? = _
    rw [← hE.2.2.1]
    exact sx_end _ _
end SX1
/-! arithmetic over bounds -/
def sx_b (E : sxE) (x : sxV) : Option (Int × Int) := match x with
  | (.inl (s, c)) => (E.1[s]?).map (fun b => (b.1 + c, b.2 + c))
  | (.inr (.inl c)) => some (c, c)
  | _ => none
def sx_mk (E : sxE) (b : Int × Int) : sxV × sxE := if (-2147483648) ≤ b.1 ∧ b.2 ≤ 2147483647 then sx_ni E b.1 b.2 else sx_ni E (-2147483648) 2147483647
def sx_add (E : sxE) (x : sxV) (d : Int) : Option (sxV × sxE) := match x with
  | (.inl (s, c)) => (E.1[s]?).map (fun b => if (-2147483648) ≤ b.1 + (c + d) ∧ b.2 + (c + d) ≤ 2147483647 then ((.inl (s, (c + d))), E) else sx_ni E (-2147483648) 2147483647)
  | (.inr (.inl c)) => some (if (-2147483648) ≤ c + d ∧ c + d ≤ 2147483647 then ((.inr (.inl (c + d))), E) else sx_ni E (-2147483648) 2147483647)
  | _ => none
def sx_ct (x : sxV) : Nat := match x with
  | (.inr (.inr (.inl _))) => 2
  | _ => 1
theorem sx_cons {W : sxW} {x : sxV} {xs : List sxV} {st : List Value} (h : sx_vs W (x :: xs) st) : ∃ v vs, st = v :: vs ∧ sx_v W x v ∧ sx_vs W xs vs := by
  cases st with
  | nil => exact h.elim
  | cons v vs => exact ⟨v, vs, rfl, h.1, h.2⟩
theorem sx_nil {W : sxW} {st : List Value} (h : sx_vs W [] st) : st = [] := by
  cases st with
  | nil => rfl
  | cons v vs => exact h.elim
theorem va_rf_cat (o : Option Nat) : (va_rf o).category = 1 := by cases o <;> rfl
theorem sx_cto {W : sxW} {x : sxV} {v : Value} (h : sx_v W x v) : v.category = sx_ct x := by
  rcases x with ⟨s, c⟩ | c | s | (_ | s)
  · obtain ⟨z, y, rfl, -⟩ := h; rfl
  · obtain ⟨z, rfl, -⟩ := h; rfl
  · obtain ⟨y, rfl, -⟩ := h; rfl
  · cases h; rfl
  · obtain ⟨o, rfl, -⟩ := h; exact va_rf_cat o
theorem sx_rg (z : Int32) : (-2147483648) ≤ z.toInt ∧ z.toInt ≤ 2147483647 := by
  have h1 := Int32.le_toInt z
  have h2 := Int32.toInt_lt z
  constructor <;> omega
theorem sx_rgL (z : Int64) : (-9223372036854775808) ≤ z.toInt ∧ z.toInt ≤ 9223372036854775807 := by
  have h1 := Int64.le_toInt z
  have h2 := Int64.toInt_lt z
  constructor <;> omega
theorem sx_bm {a : Int} (h1 : (-2147483648) ≤ a) (h2 : a ≤ 2147483647) : a.bmod (2 ^ 32) = a := Int.bmod_eq_of_le (by omega) (by omega)
section SX2
variable {U : sxU} {W : sxW} {E : sxE} {M : rf_M}
theorem sx_bo (hE : sx_e U W E M) {x : sxV} {b : Int × Int} {v : Value} (hb : sx_b E x = some b) (hv : sx_v W x v) : ∃ z : Int32, v = .int z ∧ b.1 ≤ z.toInt ∧ z.toInt ≤ b.2 := by
  rcases x with ⟨s, c⟩ | c | s | (_ | s)
  · obtain ⟨z, y, h1, h2, h3⟩ := hv
    obtain ⟨b0, q1, rfl⟩ := Option.map_eq_some_iff.mp hb
    obtain ⟨y', q2, q3, q4⟩ := hE.2.2.2.1 s b0 q1
    rw [h2] at q2
    cases q2
    exact ⟨z, h1, by dsimp only; omega, by dsimp only; omega⟩
  · obtain ⟨z, h1, h2⟩ := hv
    cases hb
    exact ⟨z, h1, by dsimp only; omega, by dsimp only; omega⟩
  · cases hb
  · cases hb
  · cases hb
theorem sx_mko (hE : sx_e U W E M) {b : Int × Int} (z : Int32) (h : (-2147483648) ≤ b.1 → b.2 ≤ 2147483647 → b.1 ≤ z.toInt ∧ z.toInt ≤ b.2) : ∃ W', sx_le W W' ∧ sx_e U W' (sx_mk E b).2 M ∧ sx_v W' (sx_mk E b).1 (.int z) := by
  unfold sx_mk
  split
  · rename_i hc
    obtain ⟨q1, q2⟩ := h hc.1 hc.2
    exact sx_fi hE z q1 q2
  · exact sx_fi hE z (sx_rg z).1 (sx_rg z).2
theorem sx_flo (hE : sx_e U W E M) (z : Int64) : ∃ W', sx_le W W' ∧ sx_e U W' (sx_nl E (-9223372036854775808) 9223372036854775807 false).2 M ∧ sx_v W' (sx_nl E (-9223372036854775808) 9223372036854775807 false).1 (.long z) := sx_fl hE z (sx_rgL z).1 (sx_rgL z).2 (fun h => by cases h)
theorem sx_addo (hE : sx_e U W E M) {x : sxV} {d : Int} {q : sxV × sxE} (h : sx_add E x d = some q) {z u : Int32} (hv : sx_v W x (.int z)) (hu : u.toInt = (z.toInt + d).bmod (2 ^ 32)) : ∃ W', sx_le W W' ∧ sx_e U W' q.2 M ∧ sx_v W' q.1 (.int u) := by
  rcases x with ⟨s, c⟩ | c | s | (_ | s)
  · obtain ⟨z', y, h1, h2, h3⟩ := hv
    cases h1
    obtain ⟨b, q1, rfl⟩ := Option.map_eq_some_iff.mp h
    obtain ⟨y', q2, q3, q4⟩ := hE.2.2.2.1 s b q1
    rw [h2] at q2
    cases q2
    split
    · rename_i hc
      refine ⟨W, sx_le_rfl W, hE, u, y, rfl, h2, ?_⟩
      rw [hu, h3, sx_bm (by omega) (by omega)]
      omega
    · exact sx_fi hE u (sx_rg u).1 (sx_rg u).2
  · obtain ⟨z', h1, h3⟩ := hv
    cases h1
    unfold sx_add at h
    cases h
    split
    · rename_i hc
      refine ⟨W, sx_le_rfl W, hE, u, rfl, ?_⟩
      rw [hu, h3, sx_bm (by omega) (by omega)]
    · exact sx_fi hE u (sx_rg u).1 (sx_rg u).2
  · cases h
  · cases h
  · cases h
end SX2
/-- bounds of an operation of two ints; none: it may divide by 0 -/
def sx_iv (J : Instr) (a b : Int × Int) : Option (Int × Int) := match J with
  | .iadd => some (a.1 + b.1, a.2 + b.2)
  | .isub => some (a.1 - b.2, a.2 - b.1)
  | .imul => some (if 0 ≤ a.1 ∧ 0 ≤ b.1 then (a.1 * b.1, a.2 * b.2) else ((-2147483648), 2147483647))
  | .iand => some (if 0 ≤ b.1 then (0, b.2) else ((-2147483648), 2147483647))
  | .ior => some ((-2147483648), 2147483647)
  | .ixor => some ((-2147483648), 2147483647)
  | .ishl => some ((-2147483648), 2147483647)
  | .ishr => some (if 0 ≤ a.1 then (0, a.2) else ((-2147483648), 2147483647))
  | .iushr => some ((-2147483648), 2147483647)
  | .idiv => if b.1 ≤ 0 ∧ 0 ≤ b.2 then none else some ((-2147483648), 2147483647)
  | .irem => if b.1 ≤ 0 ∧ 0 ≤ b.2 then none else some ((-2147483648), 2147483647)
  | _ => none
theorem sx_and_le (x y : Int32) (h : 0 ≤ y.toInt) : 0 ≤ (x &&& y).toInt ∧ (x &&& y).toInt ≤ y.toInt := by
  have hy : y.toBitVec.msb = false := by
    rcases hm : y.toBitVec.msb with _ | _
    · rfl
    · have := BitVec.toInt_neg_of_msb_true hm
      have h2 : 0 ≤ y.toBitVec.toInt := h
      omega
  have hz : (x &&& y).toBitVec = x.toBitVec &&& y.toBitVec := rfl
  have hm : (x.toBitVec &&& y.toBitVec).msb = false := by rw [BitVec.msb_and, hy, Bool.and_false]
  have e1 : (x &&& y).toInt = ((x.toBitVec &&& y.toBitVec).toNat : Int) := BitVec.toInt_eq_toNat_of_msb hm
  have e2 : y.toInt = (y.toBitVec.toNat : Int) := BitVec.toInt_eq_toNat_of_msb hy
  have e3 : (x.toBitVec &&& y.toBitVec).toNat ≤ y.toBitVec.toNat := by rw [BitVec.toNat_and]; exact Nat.and_le_right
  omega
theorem sx_shr_le (x y : Int32) (h : 0 ≤ x.toInt) : 0 ≤ (x >>> (y &&& 31)).toInt ∧ (x >>> (y &&& 31)).toInt ≤ x.toInt := by
  have e : (x >>> (y &&& 31)).toInt = x.toInt >>> ((y &&& 31).toBitVec.smod 32).toNat := by
    show (BitVec.sshiftRight x.toBitVec ((y &&& 31).toBitVec.smod 32).toNat).toInt = _
    exact BitVec.toInt_sshiftRight
  rw [e, Int.shiftRight_eq_div_pow]
  have hp : (0 : Int) < ((2 ^ ((y &&& 31).toBitVec.smod 32).toNat : Nat) : Int) := by exact_mod_cast Nat.two_pow_pos _
  exact ⟨Int.ediv_nonneg h (Int.le_of_lt hp), Int.ediv_le_self _ h⟩
theorem sx_ivo {J : Instr} {a b q : Int × Int} {x y : Int32} {r : List Value} (h : sx_iv J a b = some q) (hx1 : a.1 ≤ x.toInt) (hx2 : x.toInt ≤ a.2) (hy1 : b.1 ≤ y.toInt) (hy2 : y.toInt ≤ b.2) : ∃ z : Int32, rf_ar J (.int y :: .int x :: r) = some (.int z :: r) ∧ ((-2147483648) ≤ q.1 → q.2 ≤ 2147483647 → q.1 ≤ z.toInt ∧ z.toInt ≤ q.2) := by
  unfold sx_iv at h
  split at h
  · cases h
    refine ⟨x + y, rfl, fun g1 g2 => ?_⟩
    dsimp only at g1 g2 ⊢
    rw [Int32.toInt_add, sx_bm (by omega) (by omega)]
    omega
  · cases h
    refine ⟨x - y, rfl, fun g1 g2 => ?_⟩
    dsimp only at g1 g2 ⊢
    rw [Int32.toInt_sub, sx_bm (by omega) (by omega)]
    omega
  · cases h
    refine ⟨x * y, rfl, fun g1 g2 => ?_⟩
    split at g1
    · rename_i hc
      rw [if_pos hc] at g2 ⊢
      dsimp only at g1 g2 ⊢
      have m1 : a.1 * b.1 ≤ x.toInt * y.toInt := Int.mul_le_mul hx1 hy1 hc.2 (by omega)
      have m2 : x.toInt * y.toInt ≤ a.2 * b.2 := Int.mul_le_mul hx2 hy2 (by omega) (by omega)
      rw [Int32.toInt_mul, sx_bm (by omega) (by omega)]
      exact ⟨m1, m2⟩
    · rename_i hc
      rw [if_neg hc]
      exact sx_rg _
  · cases h
    refine ⟨x &&& y, rfl, fun g1 g2 => ?_⟩
    split
    · obtain ⟨m1, m2⟩ := sx_and_le x y (by omega)
      dsimp only
      omega
    · exact sx_rg _
  · cases h; exact ⟨_, rfl, fun _ _ => sx_rg _⟩
  · cases h; exact ⟨_, rfl, fun _ _ => sx_rg _⟩
  · cases h; exact ⟨_, rfl, fun _ _ => sx_rg _⟩
  · cases h
    refine ⟨_, rfl, fun g1 g2 => ?_⟩
    split
    · obtain ⟨m1, m2⟩ := sx_shr_le x y (by omega)
      dsimp only
      omega
    · exact sx_rg _
  · cases h; exact ⟨_, rfl, fun _ _ => sx_rg _⟩
  · split at h
    · cases h
    · rename_i hc
      cases h
      have hy : ¬ y = 0 := fun e => by
        rw [e] at hy1 hy2
        have := Int32.toInt_zero
        omega
      refine ⟨x / y, ?_, fun _ _ => sx_rg _⟩
      show (if y = 0 then none else some _) = _
      rw [if_neg hy]
  · split at h
    · cases h
    · rename_i hc
      cases h
      have hy : ¬ y = 0 := fun e => by
        rw [e] at hy1 hy2
        have := Int32.toInt_zero
        omega
      refine ⟨x - x / y * y, ?_, fun _ _ => sx_rg _⟩
      show (if y = 0 then none else some _) = _
      rw [if_neg hy]
  · cases h
def sx_fit (E : sxE) (q : Option (Int × Int)) (r : List sxV) : Option (List sxV × sxE) := q.map (fun b => ((sx_mk E b).1 :: r, (sx_mk E b).2))
def sx_a2 (J : Instr) (st : List sxV) (E : sxE) : Option (List sxV × sxE) := match st with
  | y :: x :: r => match sx_b E x, sx_b E y with
    | some a, some b => sx_fit E (sx_iv J a b) r
    | _, _ => none
  | _ => none
def sx_aadd (st : List sxV) (E : sxE) : Option (List sxV × sxE) := match st with
  | (.inr (.inl d)) :: x :: r => (sx_add E x d).map (fun q => (q.1 :: r, q.2))
  | x :: (.inr (.inl d)) :: r => (sx_add E x d).map (fun q => (q.1 :: r, q.2))
  | _ => sx_a2 .iadd st E
def sx_asub (st : List sxV) (E : sxE) : Option (List sxV × sxE) := match st with
  | (.inr (.inl d)) :: x :: r => (sx_add E x (-d)).map (fun q => (q.1 :: r, q.2))
  | _ => sx_a2 .isub st E
def sx_lf (E : sxE) (r : List sxV) : Option (List sxV × sxE) := some ((sx_nl E (-9223372036854775808) 9223372036854775807 false).1 :: r, (sx_nl E (-9223372036854775808) 9223372036854775807 false).2)
def sx_l2 (st : List sxV) (E : sxE) : Option (List sxV × sxE) := match st with
  | (.inr (.inr (.inl _))) :: (.inr (.inr (.inl _))) :: r => sx_lf E r
  | _ => none
def sx_ldv (st : List sxV) (E : sxE) : Option (List sxV × sxE) := match st with
  | (.inr (.inr (.inl t))) :: (.inr (.inr (.inl _))) :: r => match E.2.1[t]? with
    | some b => if b.2.2 = true ∨ 0 < b.1 ∨ b.2.1 < 0 then sx_lf E r else none
    | none => none
  | _ => none
def sx_lsh (st : List sxV) (E : sxE) : Option (List sxV × sxE) := match st with
  | y :: (.inr (.inr (.inl _))) :: r => match sx_b E y with
    | some _ => sx_lf E r
    | none => none
  | _ => none
def sx_lus (st : List sxV) (E : sxE) : Option (List sxV × sxE) := match st with
  | (.inr (.inl d)) :: (.inr (.inr (.inl s))) :: r => if d = 61 then some ((sx_nl E 0 7 false).1 :: r, (sx_nl E 0 7 false).2) else sx_lf E r
  | y :: (.inr (.inr (.inl _))) :: r => match sx_b E y with
    | some _ => sx_lf E r
    | none => none
  | _ => none
def sx_lcm (st : List sxV) (E : sxE) : Option (List sxV × sxE) := match st with
  | (.inr (.inr (.inl t))) :: (.inr (.inr (.inl s))) :: r => match E.2.1[t]? with
    | some b => if b.1 = 0 ∧ b.2.1 = 0 then some ((sx_ni E (-1) 1).1 :: r, ((sx_ni E (-1) 1).2.1, (sx_ni E (-1) 1).2.2.1, (sx_ni E (-1) 1).2.2.2.1, (sx_ni E (-1) 1).2.2.2.2.1, (E.1.length, s) :: E.2.2.2.2)) else some ((sx_ni E (-1) 1).1 :: r, (sx_ni E (-1) 1).2)
    | none => none
  | _ => none
def sx_st (J : Instr) (st : List sxV) : Option (List sxV) := match J, st with
  | .dup, v :: r => if sx_ct v = 1 then some (v :: v :: r) else none
  | .pop, v :: r => if sx_ct v = 1 then some r else none
  | .pop2, v :: r => if sx_ct v = 2 then some r else none
  | .dup_x1, v :: w :: r => if sx_ct v = 1 ∧ sx_ct w = 1 then some (v :: w :: v :: r) else none
  | .dup_x2, v :: w :: u :: r => if sx_ct v = 1 ∧ sx_ct w = 1 ∧ sx_ct u = 1 then some (v :: w :: u :: v :: r) else none
  | .dup2, v :: w :: r => if sx_ct v = 1 ∧ sx_ct w = 1 then some (v :: w :: v :: w :: r) else if sx_ct v = 2 then some (v :: v :: w :: r) else none
  | .aconst_null, r => some ((.inr (.inr (.inr none))) :: r)
  | _, _ => none
def sx_cneg (st : List sxV) (E : sxE) : Option (List sxV × sxE) := match st with
  | x :: r => match sx_b E x with
    | some b => sx_fit E (some (-b.2, -b.1)) r
    | none => none
  | _ => none
def sx_ci2l (st : List sxV) (E : sxE) : Option (List sxV × sxE) := match st with
  | x :: r => match sx_b E x with
    | some b => some ((sx_nl E b.1 b.2 false).1 :: r, (sx_nl E b.1 b.2 false).2)
    | none => none
  | _ => none
def sx_cl2i (st : List sxV) (E : sxE) : Option (List sxV × sxE) := match st with
  | (.inr (.inr (.inl s))) :: r => match E.2.1[s]? with
    | some b => sx_fit E (some (b.1, b.2.1)) r
    | none => none
  | _ => none
def sx_ci2b (st : List sxV) (E : sxE) : Option (List sxV × sxE) := match st with
  | x :: r => match sx_b E x with
    | some _ => sx_fit E (some (-128, 127)) r
    | none => none
  | _ => none
def sx_clneg (st : List sxV) (E : sxE) : Option (List sxV × sxE) := match st with
  | (.inr (.inr (.inl _))) :: r => sx_lf E r
  | _ => none
def sx_ar (J : Instr) (st : List sxV) (E : sxE) : Option (List sxV × sxE) := match J with
  | .iadd => sx_aadd st E
  | .isub => sx_asub st E
  | .imul => sx_a2 .imul st E
  | .iand => sx_a2 .iand st E
  | .ior => sx_a2 .ior st E
  | .ixor => sx_a2 .ixor st E
  | .ishl => sx_a2 .ishl st E
  | .ishr => sx_a2 .ishr st E
  | .iushr => sx_a2 .iushr st E
  | .idiv => sx_a2 .idiv st E
  | .irem => sx_a2 .irem st E
  | .ladd => sx_l2 st E
  | .lsub => sx_l2 st E
  | .lmul => sx_l2 st E
  | .land => sx_l2 st E
  | .lor => sx_l2 st E
  | .lxor => sx_l2 st E
  | .ldiv => sx_ldv st E
  | .lrem => sx_ldv st E
  | .lshl => sx_lsh st E
  | .lshr => sx_lsh st E
  | .lushr => sx_lus st E
  | .lcmp => sx_lcm st E
  | .ineg => sx_cneg st E
  | .i2l => sx_ci2l st E
  | .l2i => sx_cl2i st E
  | .i2b => sx_ci2b st E
  | .lneg => sx_clneg st E
  | .dup => (sx_st .dup st).map (fun q => (q, E))
  | .pop => (sx_st .pop st).map (fun q => (q, E))
  | .pop2 => (sx_st .pop2 st).map (fun q => (q, E))
  | .dup_x1 => (sx_st .dup_x1 st).map (fun q => (q, E))
  | .dup_x2 => (sx_st .dup_x2 st).map (fun q => (q, E))
  | .dup2 => (sx_st .dup2 st).map (fun q => (q, E))
  | .aconst_null => (sx_st .aconst_null st).map (fun q => (q, E))
  | _ => none
section SX3
variable {U : sxU} {W : sxW} {E : sxE} {M : rf_M} {sst : List sxV} {st : List Value} {q : List sxV × sxE}
theorem sx_fito (hE : sx_e U W E M) {b : Option (Int × Int)} {xs : List sxV} {r : List Value} (hr : sx_vs W xs r) (h : sx_fit E b xs = some q) (z : Int32) (hz : ∀ b', b = some b' → (-2147483648) ≤ b'.1 → b'.2 ≤ 2147483647 → b'.1 ≤ z.toInt ∧ z.toInt ≤ b'.2) : ∃ W', sx_le W W' ∧ sx_e U W' q.2 M ∧ sx_vs W' q.1 (.int z :: r) := by
  obtain ⟨b', hb, rfl⟩ := Option.map_eq_some_iff.mp h
  obtain ⟨W', w1, w2, w3⟩ := sx_mko hE z (hz b' hb)
  exact ⟨W', w1, w2, w3, hr.mono w1⟩
theorem sx_a2o (J : Instr) (hE : sx_e U W E M) (h : sx_a2 J sst E = some q) (hs : sx_vs W sst st) : ∃ st' W', rf_ar J st = some st' ∧ sx_le W W' ∧ sx_e U W' q.2 M ∧ sx_vs W' q.1 st' := by
  unfold sx_a2 at h
  split at h
  · rename_i y x r
    obtain ⟨vy, s1, rfl, hy, hs1⟩ := sx_cons hs
    obtain ⟨vx, s2, rfl, hx, hs2⟩ := sx_cons hs1
    split at h
    · rename_i a b ha hb
      obtain ⟨zx, rfl, x1, x2⟩ := sx_bo hE ha hx
      obtain ⟨zy, rfl, y1, y2⟩ := sx_bo hE hb hy
      cases hq : sx_iv J a b with
      | none => rw [hq] at h; cases h
      | some c =>
        rw [hq] at h
        obtain ⟨z, hz, hc⟩ := sx_ivo (r := s2) hq x1 x2 y1 y2
        obtain ⟨W', w1, w2, w3⟩ := sx_fito hE hs2 h z (fun b' e => by simp only [Option.some.injEq] at e; subst e; exact hc)
        exact ⟨_, W', hz, w1, w2, w3⟩
    · cases h
  · cases h
theorem sx_lfo (hE : sx_e U W E M) {xs : List sxV} {r : List Value} (hr : sx_vs W xs r) (h : sx_lf E xs = some q) (z : Int64) : ∃ W', sx_le W W' ∧ sx_e U W' q.2 M ∧ sx_vs W' q.1 (.long z :: r) := by
  cases h
  obtain ⟨W', w1, w2, w3⟩ := sx_flo hE z
  exact ⟨W', w1, w2, w3, hr.mono w1⟩
theorem sx_l2o (f : Int64 → Int64 → Int64) (J : Instr) (hJ : ∀ (x y : Int64) r, rf_ar J (.long y :: .long x :: r) = some (.long (f x y) :: r)) (hE : sx_e U W E M) (h : sx_l2 sst E = some q) (hs : sx_vs W sst st) : ∃ st' W', rf_ar J st = some st' ∧ sx_le W W' ∧ sx_e U W' q.2 M ∧ sx_vs W' q.1 st' := by
  unfold sx_l2 at h
  split at h
  · obtain ⟨vy, s1, rfl, ⟨y, rfl, -⟩, hs1⟩ := sx_cons hs
    obtain ⟨vx, s2, rfl, ⟨x, rfl, -⟩, hs2⟩ := sx_cons hs1
    obtain ⟨W', w1, w2, w3⟩ := sx_lfo hE hs2 h (f x y)
    exact ⟨_, W', hJ x y s2, w1, w2, w3⟩
  · cases h
theorem sx_ldvo (f : Int64 → Int64 → Int64) (J : Instr) (hJ : ∀ (x y : Int64) r, rf_ar J (.long y :: .long x :: r) = if y = 0 then none else some (.long (f x y) :: r)) (hE : sx_e U W E M) (h : sx_ldv sst E = some q) (hs : sx_vs W sst st) : ∃ st' W', rf_ar J st = some st' ∧ sx_le W W' ∧ sx_e U W' q.2 M ∧ sx_vs W' q.1 st' := by
  unfold sx_ldv at h
  split at h
  · obtain ⟨vy, s1, rfl, ⟨y, rfl, hy⟩, hs1⟩ := sx_cons hs
    obtain ⟨vx, s2, rfl, ⟨x, rfl, -⟩, hs2⟩ := sx_cons hs1
    split at h
    · rename_i b hb
      split at h
      · rename_i hc
        obtain ⟨y', g1, g2, g3, g4⟩ := hE.2.2.2.2.1 _ _ hb
        rw [hy] at g1
        cases g1
        have hn : ¬ y = 0 := by
          intro e
          rcases hc with hc | hc | hc
          · exact g4 hc e
          · rw [e, Int64.toInt_zero] at g2; omega
          · rw [e, Int64.toInt_zero] at g3; omega
        obtain ⟨W', w1, w2, w3⟩ := sx_lfo hE hs2 h (f x y)
        exact ⟨_, W', by rw [hJ, if_neg hn], w1, w2, w3⟩
      · cases h
    · cases h
  · cases h
theorem sx_lsho (f : Int64 → Int32 → Int64) (J : Instr) (hJ : ∀ (x : Int64) (y : Int32) r, rf_ar J (.int y :: .long x :: r) = some (.long (f x y) :: r)) (hE : sx_e U W E M) (h : sx_lsh sst E = some q) (hs : sx_vs W sst st) : ∃ st' W', rf_ar J st = some st' ∧ sx_le W W' ∧ sx_e U W' q.2 M ∧ sx_vs W' q.1 st' := by
  unfold sx_lsh at h
  split at h
  · obtain ⟨vy, s1, rfl, hy, hs1⟩ := sx_cons hs
    obtain ⟨vx, s2, rfl, ⟨x, rfl, -⟩, hs2⟩ := sx_cons hs1
    split at h
    · rename_i b hb
      obtain ⟨y, rfl, -, -⟩ := sx_bo hE hb hy
      obtain ⟨W', w1, w2, w3⟩ := sx_lfo hE hs2 h (f x y)
      exact ⟨_, W', hJ x y s2, w1, w2, w3⟩
    · cases h
  · cases h
theorem sx_us61 (x : Int64) (y : Int32) (hy : y.toInt = 61) : 0 ≤ (x.toUInt64 >>> (y.toInt64.toUInt64 &&& Int64.toUInt64 63)).toInt64.toInt ∧ (x.toUInt64 >>> (y.toInt64.toUInt64 &&& Int64.toUInt64 63)).toInt64.toInt ≤ 7 := by
  have e : y = 61 := Int32.toInt_inj.mp (by rw [hy]; rfl)
  subst e
  have e2 : (Int32.toInt64 61).toUInt64 &&& Int64.toUInt64 63 = 61 := by decide +kernel
  rw [e2]
  have h1 : (x.toUInt64 >>> 61).toNat = x.toUInt64.toNat / 2 ^ 61 := by
    rw [UInt64.toNat_shiftRight, Nat.shiftRight_eq_div_pow]
    rfl
  have h2 := x.toUInt64.toNat_lt
  have h3 : (x.toUInt64 >>> 61).toNat ≤ 7 := by rw [h1]; omega
  have h4 : (x.toUInt64 >>> 61).toInt64.toInt = ((x.toUInt64 >>> 61).toNat : Int) := by
    show (x.toUInt64 >>> 61).toBitVec.toInt = _
    rw [BitVec.toInt_eq_toNat_of_lt]
    · rfl
    · show 2 * (x.toUInt64 >>> 61).toNat < 2 ^ 64
      omega
  rw [h4]
  omega
theorem sx_sto (J : Instr) {xs : List sxV} (h : sx_st J sst = some xs) (hs : sx_vs W sst st) : ∃ st', rf_ar J st = some st' ∧ sx_vs W xs st' := by
  unfold sx_st at h
  split at h
  · obtain ⟨v, r, rfl, h1, hs1⟩ := sx_cons hs
    split at h
    · rename_i hc
      cases h
      exact ⟨v :: v :: r, by show (if v.category = 1 then _ else _) = _; rw [if_pos (by rw [sx_cto h1]; exact hc)], h1, h1, hs1⟩
    · cases h
  · obtain ⟨v, r, rfl, h1, hs1⟩ := sx_cons hs
    split at h
    · rename_i hc
      cases h
      exact ⟨r, by show (if v.category = 1 then _ else _) = _; rw [if_pos (by rw [sx_cto h1]; exact hc)], hs1⟩
    · cases h
  · obtain ⟨v, r, rfl, h1, hs1⟩ := sx_cons hs
    split at h
    · rename_i hc
      cases h
      exact ⟨r, by show (if v.category = 2 then _ else _) = _; rw [if_pos (by rw [sx_cto h1]; exact hc)], hs1⟩
    · cases h
  · obtain ⟨v, r, rfl, h1, hs1⟩ := sx_cons hs
    obtain ⟨w, r, rfl, h2, hs2⟩ := sx_cons hs1
    split at h
    · rename_i hc
      cases h
      exact ⟨v :: w :: v :: r, by show (if v.category = 1 ∧ w.category = 1 then _ else _) = _; rw [if_pos (by rw [sx_cto h1, sx_cto h2]; exact hc)], h1, h2, h1, hs2⟩
    · cases h
  · obtain ⟨v, r, rfl, h1, hs1⟩ := sx_cons hs
    obtain ⟨w, r, rfl, h2, hs2⟩ := sx_cons hs1
    obtain ⟨u, r, rfl, h3, hs3⟩ := sx_cons hs2
    split at h
    · rename_i hc
      cases h
      exact ⟨v :: w :: u :: v :: r, by show (if v.category = 1 ∧ w.category = 1 ∧ u.category = 1 then _ else _) = _; rw [if_pos (by rw [sx_cto h1, sx_cto h2, sx_cto h3]; exact hc)], h1, h2, h3, h1, hs3⟩
    · cases h
  · obtain ⟨v, r, rfl, h1, hs1⟩ := sx_cons hs
    obtain ⟨w, r, rfl, h2, hs2⟩ := sx_cons hs1
    split at h
    · rename_i hc
      cases h
      exact ⟨v :: w :: v :: w :: r, by show (if v.category = 1 ∧ w.category = 1 then _ else _) = _; rw [if_pos (by rw [sx_cto h1, sx_cto h2]; exact hc)], h1, h2, h1, h2, hs2⟩
    · rename_i hn
      split at h
      · rename_i hc
        cases h
        exact ⟨v :: v :: w :: r, by show (if v.category = 1 ∧ w.category = 1 then _ else if v.category = 2 then _ else _) = _; rw [if_neg (by rw [sx_cto h1, sx_cto h2]; exact hn), if_pos (by rw [sx_cto h1]; exact hc)], h1, h1, h2, hs2⟩
      · cases h
  · cases h
    exact ⟨.null :: st, rfl, rfl, hs⟩
  · cases h
theorem sx_aro {J : Instr} (hE : sx_e U W E M) (h : sx_ar J sst E = some q) (hs : sx_vs W sst st) : ∃ st' W', rf_ar J st = some st' ∧ sx_le W W' ∧ sx_e U W' q.2 M ∧ sx_vs W' q.1 st' := by
  have stk : ∀ J : Instr, (sx_st J sst).map (fun q => (q, E)) = some q → ∃ st' W', rf_ar J st = some st' ∧ sx_le W W' ∧ sx_e U W' q.2 M ∧ sx_vs W' q.1 st' := by
    intro J h
    obtain ⟨xs, h1, rfl⟩ := Option.map_eq_some_iff.mp h
    obtain ⟨st', g1, g2⟩ := sx_sto J h1 hs
    exact ⟨st', W, g1, sx_le_rfl W, hE, g2⟩
  unfold sx_ar at h
  split at h
  · -- iadd
    unfold sx_aadd at h
    split at h
    · rename_i d x r
      obtain ⟨vy, s1, rfl, ⟨y, rfl, hy⟩, hs1⟩ := sx_cons hs
      obtain ⟨vx, s2, rfl, hx, hs2⟩ := sx_cons hs1
      obtain ⟨q', h1, rfl⟩ := Option.map_eq_some_iff.mp h
      have hvx : ∃ z, vx = .int z := by
        rcases x with ⟨s, c⟩ | c | s | (_ | s)
        · obtain ⟨z, y, h1, -⟩ := hx; exact ⟨z, h1⟩
        · obtain ⟨z, h1, -⟩ := hx; exact ⟨z, h1⟩
        · cases h1
        · cases h1
        · cases h1
      obtain ⟨z, rfl⟩ := hvx
      obtain ⟨W', w1, w2, w3⟩ := sx_addo hE h1 hx (u := z + y) (by rw [Int32.toInt_add, hy])
      exact ⟨_, W', rfl, w1, w2, w3, hs2.mono w1⟩
    · rename_i x d r hne
      obtain ⟨vy, s1, rfl, hx, hs1⟩ := sx_cons hs
      obtain ⟨vx, s2, rfl, ⟨y, rfl, hy⟩, hs2⟩ := sx_cons hs1
      obtain ⟨q', h1, rfl⟩ := Option.map_eq_some_iff.mp h
      have hvx : ∃ z, vy = .int z := by
        rcases x with ⟨s, c⟩ | c | s | (_ | s)
        · obtain ⟨z, y, h1, -⟩ := hx; exact ⟨z, h1⟩
        · obtain ⟨z, h1, -⟩ := hx; exact ⟨z, h1⟩
        · cases h1
        · cases h1
        · cases h1
      obtain ⟨z, rfl⟩ := hvx
      obtain ⟨W', w1, w2, w3⟩ := sx_addo hE h1 hx (u := y + z) (by rw [Int32.toInt_add, hy, Int.add_comm])
      exact ⟨_, W', rfl, w1, w2, w3, hs2.mono w1⟩
    · exact sx_a2o .iadd hE h hs
  · -- isub
    unfold sx_asub at h
    split at h
    · rename_i d x r
      obtain ⟨vy, s1, rfl, ⟨y, rfl, hy⟩, hs1⟩ := sx_cons hs
      obtain ⟨vx, s2, rfl, hx, hs2⟩ := sx_cons hs1
      obtain ⟨q', h1, rfl⟩ := Option.map_eq_some_iff.mp h
      have hvx : ∃ z, vx = .int z := by
        rcases x with ⟨s, c⟩ | c | s | (_ | s)
        · obtain ⟨z, y, h1, -⟩ := hx; exact ⟨z, h1⟩
        · obtain ⟨z, h1, -⟩ := hx; exact ⟨z, h1⟩
        · cases h1
        · cases h1
        · cases h1
      obtain ⟨z, rfl⟩ := hvx
      obtain ⟨W', w1, w2, w3⟩ := sx_addo hE h1 hx (u := z - y) (by rw [Int32.toInt_sub, hy, Int.sub_eq_add_neg])
      exact ⟨_, W', rfl, w1, w2, w3, hs2.mono w1⟩
    · exact sx_a2o .isub hE h hs
  · exact sx_a2o _ hE h hs
  · exact sx_a2o _ hE h hs
  · exact sx_a2o _ hE h hs
  · exact sx_a2o _ hE h hs
  · exact sx_a2o _ hE h hs
  · exact sx_a2o _ hE h hs
  · exact sx_a2o _ hE h hs
  · exact sx_a2o _ hE h hs
  · exact sx_a2o _ hE h hs
  · exact sx_l2o _ _ (fun _ _ _ => rfl) hE h hs
  · exact sx_l2o _ _ (fun _ _ _ => rfl) hE h hs
  · exact sx_l2o _ _ (fun _ _ _ => rfl) hE h hs
  · exact sx_l2o _ _ (fun _ _ _ => rfl) hE h hs
  · exact sx_l2o _ _ (fun _ _ _ => rfl) hE h hs
  · exact sx_l2o _ _ (fun _ _ _ => rfl) hE h hs
  · exact sx_ldvo _ _ (fun _ _ _ => rfl) hE h hs
  · exact sx_ldvo _ _ (fun _ _ _ => rfl) hE h hs
  · exact sx_lsho _ _ (fun _ _ _ => rfl) hE h hs
  · exact sx_lsho _ _ (fun _ _ _ => rfl) hE h hs
  · -- lushr
    unfold sx_lus at h
    split at h
    · obtain ⟨vy, s1, rfl, ⟨y, rfl, hy⟩, hs1⟩ := sx_cons hs
      obtain ⟨vx, s2, rfl, ⟨x, rfl, -⟩, hs2⟩ := sx_cons hs1
      split at h
      · rename_i hd
        cases h
        obtain ⟨b1, b2⟩ := sx_us61 x y (hy.trans hd)
        obtain ⟨W', w1, w2, w3⟩ := sx_fl hE (nz := false) _ b1 b2 (fun e => by cases e)
        exact ⟨_, W', rfl, w1, w2, w3, hs2.mono w1⟩
      · obtain ⟨W', w1, w2, w3⟩ := sx_lfo hE hs2 h (x.toUInt64 >>> (y.toInt64.toUInt64 &&& Int64.toUInt64 63)).toInt64
        exact ⟨_, W', rfl, w1, w2, w3⟩
    · obtain ⟨vy, s1, rfl, hy, hs1⟩ := sx_cons hs
      obtain ⟨vx, s2, rfl, ⟨x, rfl, -⟩, hs2⟩ := sx_cons hs1
      split at h
      · rename_i b hb
        obtain ⟨y, rfl, -, -⟩ := sx_bo hE hb hy
        obtain ⟨W', w1, w2, w3⟩ := sx_lfo hE hs2 h (x.toUInt64 >>> (y.toInt64.toUInt64 &&& Int64.toUInt64 63)).toInt64
        exact ⟨_, W', rfl, w1, w2, w3⟩
      · cases h
    · cases h
  · -- lcmp
    unfold sx_lcm at h
    split at h
    · rename_i t s r
      obtain ⟨vy, s1, rfl, ⟨y, rfl, hy⟩, hs1⟩ := sx_cons hs
      obtain ⟨vx, s2, rfl, ⟨x, rfl, hx⟩, hs2⟩ := sx_cons hs1
      have hb1 : (-1 : Int) ≤ (lg_cmp x y).toInt ∧ (lg_cmp x y).toInt ≤ 1 := by
        unfold lg_cmp
        split
        · exact ⟨by decide, by decide⟩
        · split
          · exact ⟨by decide, by decide⟩
          · exact ⟨by decide, by decide⟩
      obtain ⟨W', w1, w2, w3⟩ := sx_fi hE (lg_cmp x y) hb1.1 hb1.2
      split at h
      · rename_i b hb
        split at h
        · rename_i hc
          cases h
          refine ⟨_, W', rfl, w1, ⟨w2.1, w2.2.1, w2.2.2.1, w2.2.2.2.1, w2.2.2.2.2.1, w2.2.2.2.2.2.1, w2.2.2.2.2.2.2.1, ?_⟩, w3, hs2.mono w1⟩
          intro t' s' hts
          rcases List.mem_cons.mp hts with e | e
          · cases e
            obtain ⟨z', y', e1, e2, e3⟩ := w3
            cases e1
            obtain ⟨y0, g1, g2, g3, -⟩ := hE.2.2.2.2.1 _ _ hb
            rw [hy] at g1
            cases g1
            have hy0 : y = 0 := Int64.toInt_inj.mp (by rw [Int64.toInt_zero]; omega)
            refine ⟨y', x, e2, w1.2.1 _ _ hx, ?_⟩
            have e4 : y' = (lg_cmp x y).toInt := by omega
            rw [e4, hy0]
            unfold lg_cmp
            constructor
            · intro hh
              split at hh
              · exact absurd hh (by decide)
              · split at hh
                · assumption
                · exact absurd hh (by decide)
            · intro hh
              subst hh
              decide
          · exact w2.2.2.2.2.2.2.2 t' s' e
        · cases h
          exact ⟨_, W', rfl, w1, w2, w3, hs2.mono w1⟩
      · cases h
    · cases h
  · -- ineg
    unfold sx_cneg at h
    split at h
    · obtain ⟨v, r, rfl, h1, hs1⟩ := sx_cons hs
      split at h
      · rename_i b hb
        obtain ⟨z, rfl, z1, z2⟩ := sx_bo hE hb h1
        obtain ⟨W', w1, w2, w3⟩ := sx_fito hE hs1 h (-z) (fun b' e g1 g2 => by
          simp only [Option.some.injEq] at e
          subst e
          dsimp only at g1 g2 ⊢
          rw [Int32.toInt_neg, sx_bm (by omega) (by omega)]
          omega)
        exact ⟨_, W', rfl, w1, w2, w3⟩
      · cases h
    · cases h
  · -- i2l
    unfold sx_ci2l at h
    split at h
    · obtain ⟨v, r, rfl, h1, hs1⟩ := sx_cons hs
      split at h
      · rename_i b hb
        obtain ⟨z, rfl, z1, z2⟩ := sx_bo hE hb h1
        cases h
        obtain ⟨W', w1, w2, w3⟩ := sx_fl hE (nz := false) z.toInt64 (by rw [Int32.toInt_toInt64]; exact z1) (by rw [Int32.toInt_toInt64]; exact z2) (fun e => by cases e)
        exact ⟨_, W', rfl, w1, w2, w3, hs1.mono w1⟩
      · cases h
    · cases h
  · -- l2i
    unfold sx_cl2i at h
    split at h
    · obtain ⟨v, r, rfl, ⟨x, rfl, hx⟩, hs1⟩ := sx_cons hs
      split at h
      · rename_i b hb
        obtain ⟨y', g1, g2, g3, -⟩ := hE.2.2.2.2.1 _ _ hb
        rw [hx] at g1
        cases g1
        obtain ⟨W', w1, w2, w3⟩ := sx_fito hE hs1 h x.toInt32 (fun b' e g1 g2 => by
          simp only [Option.some.injEq] at e
          subst e
          dsimp only at g1 g2 ⊢
          rw [Int64.toInt_toInt32, sx_bm (by omega) (by omega)]
          omega)
        exact ⟨_, W', rfl, w1, w2, w3⟩
      · cases h
    · cases h
  · -- i2b
    unfold sx_ci2b at h
    split at h
    · obtain ⟨v, r, rfl, h1, hs1⟩ := sx_cons hs
      split at h
      · rename_i b hb
        obtain ⟨z, rfl, z1, z2⟩ := sx_bo hE hb h1
        obtain ⟨W', w1, w2, w3⟩ := sx_fito hE hs1 h z.toInt8.toInt32 (fun b' e g1 g2 => by
          simp only [Option.some.injEq] at e
          subst e
          dsimp only
          rw [Int8.toInt_toInt32]
          have k1 := Int8.le_toInt z.toInt8
          have k2 := Int8.toInt_lt z.toInt8
          omega)
        exact ⟨_, W', rfl, w1, w2, w3⟩
      · cases h
    · cases h
  · -- lneg
    unfold sx_clneg at h
    split at h
    · obtain ⟨v, r, rfl, ⟨x, rfl, hx⟩, hs1⟩ := sx_cons hs
      obtain ⟨W', w1, w2, w3⟩ := sx_lfo hE hs1 h (-x)
      exact ⟨_, W', rfl, w1, w2, w3⟩
    · cases h
  · exact stk _ h
  · exact stk _ h
  · exact stk _ h
  · exact stk _ h
  · exact stk _ h
  · exact stk _ h
  · exact stk _ h
  · cases h
end SX3
/-! loads, stores, constants -/
def sx_isI (x : sxV) : Bool := match x with
  | (.inl (_, _)) => true
  | (.inr (.inl _)) => true
  | _ => false
def sx_isL (x : sxV) : Bool := match x with
  | (.inr (.inr (.inl _))) => true
  | _ => false
def sx_isR (x : sxV) : Bool := match x with
  | (.inr (.inr (.inr (some _)))) => true
  | (.inr (.inr (.inr none))) => true
  | _ => false
def sx_get (p : sxV → Bool) (sl : List (Option sxV)) (j : Nat) (st : List sxV) (E : sxE) : Option (List sxV × sxE) := match sx_ld sl j with
  | some x => if p x = true then some (x :: st, E) else none
  | none => none
def sx_lo (J : Instr) (sl : List (Option sxV)) (st : List sxV) (E : sxE) : Option (List sxV × sxE) := match J with
  | .iconst n => if (-2147483648) ≤ n ∧ n ≤ 2147483647 then some ((.inr (.inl n)) :: st, E) else none
  | .bipush n => if (-128) ≤ n ∧ n ≤ 127 then some ((.inr (.inl n)) :: st, E) else none
  | .sipush n => if (-32768) ≤ n ∧ n ≤ 32767 then some ((.inr (.inl n)) :: st, E) else none
  | .lconst n => if (n : Nat) ≤ 1 then some ((sx_nl E (n : Nat) (n : Nat) false).1 :: st, (sx_nl E (n : Nat) (n : Nat) false).2) else none
  | .iload_n k => sx_get sx_isI sl (k : Nat) st E
  | .iload k => sx_get sx_isI sl k st E
  | .lload_n k => sx_get sx_isL sl (k : Nat) st E
  | .lload k => sx_get sx_isL sl k st E
  | .aload_n k => sx_get sx_isR sl (k : Nat) st E
  | .aload k => sx_get sx_isR sl k st E
  | _ => none
/-- behind a store at i: a long that lay across it is gone -/
def sx_off (sl : List (Option sxV)) (i : Nat) : List (Option sxV) := match i with
  | 0 => sl
  | j + 1 => match sx_ld sl j with
    | some x => if sx_ct x = 2 then sl.set j none else sl
    | none => sl
def sx_s1 (sl : List (Option sxV)) (i : Nat) (x : sxV) : List (Option sxV) := (sx_off sl i).set i (some x)
def sx_s2 (sl : List (Option sxV)) (i : Nat) (x : sxV) : List (Option sxV) := ((sx_off sl i).set (i + 1) none).set i (some x)
def sx_put (p : sxV → Bool) (nL : Nat) (sl : List (Option sxV)) (j : Nat) (st : List sxV) (E : sxE) : Option (List (Option sxV) × List sxV × sxE) := match st with
  | x :: r => if p x = true ∧ j < nL then some (sx_s1 sl j x, r, E) else none
  | _ => none
def sx_put2 (nL : Nat) (sl : List (Option sxV)) (j : Nat) (st : List sxV) (E : sxE) : Option (List (Option sxV) × List sxV × sxE) := match st with
  | x :: r => if sx_isL x = true ∧ j + 1 < nL then some (sx_s2 sl j x, r, E) else none
  | _ => none
def sx_so (J : Instr) (nL : Nat) (sl : List (Option sxV)) (st : List sxV) (E : sxE) : Option (List (Option sxV) × List sxV × sxE) := match J with
  | .istore_n k => sx_put sx_isI nL sl (k : Nat) st E
  | .istore k => sx_put sx_isI nL sl k st E
  | .lstore_n k => sx_put2 nL sl (k : Nat) st E
  | .lstore k => sx_put2 nL sl k st E
  | .astore_n k => sx_put sx_isR nL sl (k : Nat) st E
  | .astore k => sx_put sx_isR nL sl k st E
  | .iinc k n => match sx_ld sl k with
    | some x => if k < nL ∧ (-2147483648) ≤ n ∧ n ≤ 2147483647 then (sx_add E x n).map (fun q => (sx_s1 sl k q.1, st, q.2)) else none
    | none => none
  | _ => none
theorem rf_find_filter {ls : rf_L} {j : Nat} {w : Value} {p : Nat × Value → Bool} (h : rf_ld ls j = some w) (hp : ∀ q : Nat × Value, q.1 = j → q.2 = w → p q = true) : rf_ld (ls.filter p) j = some w := by
  induction ls with
  | nil => cases h
  | cons q r ih =>
    unfold rf_ld at h ⊢
    by_cases hq : (q.1 == j) = true
    · rw [List.find?_cons_of_pos (p := fun q : Nat × Value => q.1 == j) hq] at h
      simp only [Option.map_some, Option.some.injEq] at h
      rw [List.filter_cons_of_pos (hp q (by simpa using hq) h), List.find?_cons_of_pos (p := fun q : Nat × Value => q.1 == j) hq]
      simp only [Option.map_some, h]
    · rw [List.find?_cons_of_neg (p := fun q : Nat × Value => q.1 == j) hq] at h
      by_cases hpq : p q = true
      · rw [List.filter_cons_of_pos hpq, List.find?_cons_of_neg (p := fun q : Nat × Value => q.1 == j) hq]
        exact ih h
      · rw [List.filter_cons_of_neg hpq]
        exact ih h
theorem rf_ld_hd (ls : rf_L) (i : Nat) (v : Value) : rf_ld ((i, v) :: ls) i = some v := by
  unfold rf_ld
  rw [List.find?_cons_of_pos (by simp)]
  rfl
theorem rf_ld_tl (ls : rf_L) {i j : Nat} (v : Value) (h : i ≠ j) : rf_ld ((i, v) :: ls) j = rf_ld ls j := by
  unfold rf_ld
  rw [List.find?_cons_of_neg (by simp [h])]
theorem rf_s1_ne {ls : rf_L} {i j : Nat} {v w : Value} (hj : i ≠ j) (h : rf_ld ls j = some w) (hc : ¬ (j + 1 = i ∧ w.category = 2)) : rf_ld (rf_s1 ls i v) j = some w := by
  unfold rf_s1
  rw [rf_ld_tl _ _ hj]
  refine rf_find_filter h (fun q h1 h2 => ?_)
  subst h1 h2
  have e1 : (q.1 == i) = false := by simp [Ne.symm hj]
  have e2 : (q.1 + 1 == i && q.2.category == 2) = false := by
    rw [Bool.and_eq_false_iff]
    by_cases e : q.1 + 1 = i
    · right; simpa using fun z => hc ⟨e, z⟩
    · left; simpa using e
  rw [e1, e2]; rfl
theorem rf_s2_ne {ls : rf_L} {i j : Nat} {v w : Value} (hj : i ≠ j) (hj1 : i + 1 ≠ j) (h : rf_ld ls j = some w) (hc : ¬ (j + 1 = i ∧ w.category = 2)) : rf_ld (rf_s2 ls i v) j = some w := by
  unfold rf_s2
  rw [rf_ld_tl _ _ hj]
  refine rf_find_filter h (fun q h1 h2 => ?_)
  subst h1 h2
  have e1 : (q.1 == i) = false := by simp [Ne.symm hj]
  have e3 : (q.1 == i + 1) = false := by simp [Ne.symm hj1]
  have e2 : (q.1 + 1 == i && q.2.category == 2) = false := by
    rw [Bool.and_eq_false_iff]
    by_cases e : q.1 + 1 = i
    · right; simpa using fun z => hc ⟨e, z⟩
    · left; simpa using e
  rw [e1, e2, e3]; rfl
theorem sx_ld_set {sl : List (Option sxV)} {i j : Nat} {y : Option sxV} {x : sxV} (h : sx_ld (sl.set i y) j = some x) : (i = j ∧ y = some x) ∨ (i ≠ j ∧ sx_ld sl j = some x) := by
  unfold sx_ld at h ⊢
  by_cases e : i = j
  · subst e
    left
    rw [List.getElem?_set] at h
    simp only [if_true] at h
    split at h
    · rename_i z hz
      split at hz
      · cases hz; exact ⟨rfl, h⟩
      · cases hz
    · cases h
  · right
    rw [List.getElem?_set_ne e] at h
    exact ⟨e, h⟩
section SX4
variable {U : sxU} {W : sxW} {E : sxE} {M : rf_M} {sst : List sxV} {st : List Value} {sl : List (Option sxV)} {ls : rf_L}
theorem sx_off_ld {i j : Nat} {x : sxV} (h : sx_ld (sx_off sl i) j = some x) : sx_ld sl j = some x ∧ ¬ (j + 1 = i ∧ sx_ct x = 2) := by
  unfold sx_off at h
  split at h
  · exact ⟨h, by omega⟩
  · rename_i t
    split at h
    · rename_i y hy
      split at h
      · rename_i hc
        rcases sx_ld_set h with ⟨e1, e2⟩ | ⟨e1, e2⟩
        · cases e2
        · exact ⟨e2, fun z => e1 (by omega)⟩
      · rename_i hc
        refine ⟨h, fun z => ?_⟩
        have : j = t := by omega
        subst this
        rw [hy] at h
        cases h
        exact hc z.2
    · rename_i hn
      refine ⟨h, fun z => ?_⟩
      have : j = t := by omega
      subst this
      rw [hn] at h
      cases h
theorem sx_s1o (hl : sx_ls W sl ls) {i : Nat} {x : sxV} {v : Value} (hv : sx_v W x v) : sx_ls W (sx_s1 sl i x) (rf_s1 ls i v) := by
  intro j y hy
  rcases sx_ld_set hy with ⟨e1, e2⟩ | ⟨e1, e2⟩
  · cases e2; subst e1
    exact ⟨v, rf_ld_hd _ _ _, hv⟩
  · obtain ⟨g1, g2⟩ := sx_off_ld e2
    obtain ⟨w, w1, w2⟩ := hl j y g1
    exact ⟨w, rf_s1_ne e1 w1 (by rw [sx_cto w2]; exact g2), w2⟩
theorem sx_s2o (hl : sx_ls W sl ls) {i : Nat} {x : sxV} {v : Value} (hv : sx_v W x v) : sx_ls W (sx_s2 sl i x) (rf_s2 ls i v) := by
  intro j y hy
  rcases sx_ld_set hy with ⟨e1, e2⟩ | ⟨e1, e2⟩
  · cases e2; subst e1
    exact ⟨v, rf_ld_hd _ _ _, hv⟩
  · rcases sx_ld_set e2 with ⟨e3, e4⟩ | ⟨e3, e4⟩
    · cases e4
    · obtain ⟨g1, g2⟩ := sx_off_ld e4
      obtain ⟨w, w1, w2⟩ := hl j y g1
      exact ⟨w, rf_s2_ne e1 e3 w1 (by rw [sx_cto w2]; exact g2), w2⟩
theorem sx_vI {x : sxV} {v : Value} (h : sx_isI x = true) (hv : sx_v W x v) : ∃ z, v = .int z := by
  rcases x with ⟨s, c⟩ | c | s | (_ | s)
  · obtain ⟨z, y, h1, -⟩ := hv; exact ⟨z, h1⟩
  · obtain ⟨z, h1, -⟩ := hv; exact ⟨z, h1⟩
  · cases h
  · cases h
  · cases h
theorem sx_vL {x : sxV} {v : Value} (h : sx_isL x = true) (hv : sx_v W x v) : ∃ z, v = .long z := by
  rcases x with ⟨s, c⟩ | c | s | (_ | s)
  · cases h
  · cases h
  · obtain ⟨z, h1, -⟩ := hv; exact ⟨z, h1⟩
  · cases h
  · cases h
theorem sx_vR {x : sxV} {v : Value} (h : sx_isR x = true) (hv : sx_v W x v) : ∃ z, v = va_rf z := by
  rcases x with ⟨s, c⟩ | c | s | (_ | s)
  · cases h
  · cases h
  · cases h
  · exact ⟨none, hv⟩
  · obtain ⟨z, h1, -⟩ := hv; exact ⟨z, h1⟩
theorem sx_getI {k : Nat} {q : List sxV × sxE} (hl : sx_ls W sl ls) (hE : sx_e U W E M) (hs : sx_vs W sst st) (h : sx_get sx_isI sl k sst E = some q) : ∃ st' W', rf_li ls k st = some st' ∧ sx_le W W' ∧ sx_e U W' q.2 M ∧ sx_vs W' q.1 st' := by
  unfold sx_get at h
  split at h
  · rename_i x hx
    split at h
    · rename_i hc
      cases h
      obtain ⟨v, v1, v2⟩ := hl k x hx
      obtain ⟨z, rfl⟩ := sx_vI hc v2
      exact ⟨.int z :: st, W, by unfold rf_li; rw [v1], sx_le_rfl W, hE, v2, hs⟩
    · cases h
  · cases h
theorem sx_getL {k : Nat} {q : List sxV × sxE} (hl : sx_ls W sl ls) (hE : sx_e U W E M) (hs : sx_vs W sst st) (h : sx_get sx_isL sl k sst E = some q) : ∃ st' W', rf_ll ls k st = some st' ∧ sx_le W W' ∧ sx_e U W' q.2 M ∧ sx_vs W' q.1 st' := by
  unfold sx_get at h
  split at h
  · rename_i x hx
    split at h
    · rename_i hc
      cases h
      obtain ⟨v, v1, v2⟩ := hl k x hx
      obtain ⟨z, rfl⟩ := sx_vL hc v2
      exact ⟨.long z :: st, W, by unfold rf_ll; rw [v1], sx_le_rfl W, hE, v2, hs⟩
    · cases h
  · cases h
theorem sx_getR {k : Nat} {q : List sxV × sxE} (hl : sx_ls W sl ls) (hE : sx_e U W E M) (hs : sx_vs W sst st) (h : sx_get sx_isR sl k sst E = some q) : ∃ st' W', rf_la ls k st = some st' ∧ sx_le W W' ∧ sx_e U W' q.2 M ∧ sx_vs W' q.1 st' := by
  unfold sx_get at h
  split at h
  · rename_i x hx
    split at h
    · rename_i hc
      cases h
      obtain ⟨v, v1, v2⟩ := hl k x hx
      obtain ⟨z, rfl⟩ := sx_vR hc v2
      refine ⟨va_rf z :: st, W, ?_, sx_le_rfl W, hE, v2, hs⟩
      unfold rf_la; rw [v1]
      cases z <;> rfl
    · cases h
  · cases h
theorem sx_loo {J : Instr} {aux : List (Int × Nat)} {q : List sxV × sxE} (hl : sx_ls W sl ls) (hE : sx_e U W E M) (hs : sx_vs W sst st) (h : sx_lo J sl sst E = some q) : ∃ st' W', rf_lo J aux ls st = some st' ∧ sx_le W W' ∧ sx_e U W' q.2 M ∧ sx_vs W' q.1 st' := by
  unfold sx_lo at h
  split at h
  · split at h
    · rename_i n hc
      cases h
      exact ⟨_, W, rfl, sx_le_rfl W, hE, ⟨_, rfl, Int32.toInt_ofInt_of_le (by omega) (by omega)⟩, hs⟩
    · cases h
  · split at h
    · rename_i n hc
      cases h
      exact ⟨_, W, rfl, sx_le_rfl W, hE, ⟨_, rfl, by rw [Int8.toInt_toInt32, Int8.toInt_ofInt_of_le (by omega) (by omega)]⟩, hs⟩
    · cases h
  · split at h
    · rename_i n hc
      cases h
      exact ⟨_, W, rfl, sx_le_rfl W, hE, ⟨_, rfl, by rw [Int16.toInt_toInt32, Int16.toInt_ofInt_of_le (by omega) (by omega)]⟩, hs⟩
    · cases h
  · split at h
    · rename_i n hc
      cases h
      have e : (Int64.ofNat (n : Nat)).toInt = ((n : Nat) : Int) := by
        rw [Int64.toInt_ofNat']
        exact Int.bmod_eq_of_le (by have : Int64.size = 18446744073709551616 := rfl; omega) (by have : Int64.size = 18446744073709551616 := rfl; omega)
      obtain ⟨W', w1, w2, w3⟩ := sx_fl hE (nz := false) (Int64.ofNat (n : Nat)) (Int.le_of_eq e.symm) (Int.le_of_eq e) (fun z => by cases z)
      exact ⟨_, W', rfl, w1, w2, w3, hs.mono w1⟩
    · cases h
  · exact sx_getI hl hE hs h
  · exact sx_getI hl hE hs h
  · exact sx_getL hl hE hs h
  · exact sx_getL hl hE hs h
  · exact sx_getR hl hE hs h
  · exact sx_getR hl hE hs h
  · cases h
theorem sx_putI {nL k : Nat} {q : List (Option sxV) × List sxV × sxE} (hl : sx_ls W sl ls) (hE : sx_e U W E M) (hs : sx_vs W sst st) (h : sx_put sx_isI nL sl k sst E = some q) : ∃ z r, st = .int z :: r ∧ k < nL ∧ sx_e U W q.2.2 M ∧ sx_ls W q.1 (rf_s1 ls k (.int z)) ∧ sx_vs W q.2.1 r := by
  unfold sx_put at h
  split at h
  · obtain ⟨v, r, rfl, h1, hs1⟩ := sx_cons hs
    split at h
    · rename_i hc
      cases h
      obtain ⟨z, rfl⟩ := sx_vI hc.1 h1
      exact ⟨z, r, rfl, hc.2, hE, sx_s1o hl h1, hs1⟩
    · cases h
  · cases h
theorem sx_putL {nL k : Nat} {q : List (Option sxV) × List sxV × sxE} (hl : sx_ls W sl ls) (hE : sx_e U W E M) (hs : sx_vs W sst st) (h : sx_put2 nL sl k sst E = some q) : ∃ z r, st = .long z :: r ∧ k + 1 < nL ∧ sx_e U W q.2.2 M ∧ sx_ls W q.1 (rf_s2 ls k (.long z)) ∧ sx_vs W q.2.1 r := by
  unfold sx_put2 at h
  split at h
  · obtain ⟨v, r, rfl, h1, hs1⟩ := sx_cons hs
    split at h
    · rename_i hc
      cases h
      obtain ⟨z, rfl⟩ := sx_vL hc.1 h1
      exact ⟨z, r, rfl, hc.2, hE, sx_s2o hl h1, hs1⟩
    · cases h
  · cases h
theorem sx_putR {nL k : Nat} {q : List (Option sxV) × List sxV × sxE} (hl : sx_ls W sl ls) (hE : sx_e U W E M) (hs : sx_vs W sst st) (h : sx_put sx_isR nL sl k sst E = some q) : ∃ z r, st = va_rf z :: r ∧ k < nL ∧ sx_e U W q.2.2 M ∧ sx_ls W q.1 (rf_s1 ls k (va_rf z)) ∧ sx_vs W q.2.1 r := by
  unfold sx_put at h
  split at h
  · obtain ⟨v, r, rfl, h1, hs1⟩ := sx_cons hs
    split at h
    · rename_i hc
      cases h
      obtain ⟨z, rfl⟩ := sx_vR hc.1 h1
      exact ⟨z, r, rfl, hc.2, hE, sx_s1o hl h1, hs1⟩
    · cases h
  · cases h
theorem sx_soo {J : Instr} {nL : Nat} {q : List (Option sxV) × List sxV × sxE} (hl : sx_ls W sl ls) (hE : sx_e U W E M) (hs : sx_vs W sst st) (h : sx_so J nL sl sst E = some q) : ∃ ls' st' W', rf_so J nL ls st = some (ls', st') ∧ sx_le W W' ∧ sx_e U W' q.2.2 M ∧ sx_ls W' q.1 ls' ∧ sx_vs W' q.2.1 st' := by
  unfold sx_so at h
  split at h
  · obtain ⟨z, r, rfl, g1, g2, g3, g4⟩ := sx_putI hl hE hs h
    exact ⟨_, _, W, if_pos g1, sx_le_rfl W, g2, g3, g4⟩
  · obtain ⟨z, r, rfl, g1, g2, g3, g4⟩ := sx_putI hl hE hs h
    exact ⟨_, _, W, if_pos g1, sx_le_rfl W, g2, g3, g4⟩
  · obtain ⟨z, r, rfl, g1, g2, g3, g4⟩ := sx_putL hl hE hs h
    exact ⟨_, _, W, if_pos g1, sx_le_rfl W, g2, g3, g4⟩
  · obtain ⟨z, r, rfl, g1, g2, g3, g4⟩ := sx_putL hl hE hs h
    exact ⟨_, _, W, if_pos g1, sx_le_rfl W, g2, g3, g4⟩
  · obtain ⟨z, r, rfl, g1, g2, g3, g4⟩ := sx_putR hl hE hs h
    cases z <;> exact ⟨_, _, W, if_pos g1, sx_le_rfl W, g2, g3, g4⟩
  · obtain ⟨z, r, rfl, g1, g2, g3, g4⟩ := sx_putR hl hE hs h
    cases z <;> exact ⟨_, _, W, if_pos g1, sx_le_rfl W, g2, g3, g4⟩
  · split at h
    · rename_i kk nn _ x hx
      split at h
      · rename_i hc
        obtain ⟨q', h1, rfl⟩ := Option.map_eq_some_iff.mp h
        obtain ⟨v, v1, v2⟩ := hl _ x hx
        have hI : sx_isI x = true := by
          rcases x with ⟨_, _⟩ | _ | _ | (_ | _) <;> first | rfl | cases h1
        obtain ⟨z, rfl⟩ := sx_vI hI v2
        obtain ⟨W', w1, w2, w3⟩ := sx_addo hE h1 v2 (u := z + Int32.ofInt nn) (by rw [Int32.toInt_add, Int32.toInt_ofInt_of_le (by omega) (by omega)])
        refine ⟨_, _, W', ?_, w1, w2, sx_s1o (hl.mono w1) w3, hs.mono w1⟩
        show (match rf_ld ls kk with | some (.int x) => if kk < nL then some (rf_s1 ls kk (.int (x + Int32.ofInt nn)), st) else none | _ => none) = _
        rw [v1]
        exact if_pos hc.1
      · cases h
    · cases h
  · cases h
end SX4
/-! branches -/
abbrev sxB : Type := Jvm.ClassFile.Cond
def sx_rf (E : sxE) (x : sxV) (b : Int × Int) : Option sxE := match x with
  | (.inl (s, c)) => match E.1[s]? with
    | some d => if max d.1 (b.1 - c) ≤ min d.2 (b.2 - c) then some (E.1.set s (max d.1 (b.1 - c), min d.2 (b.2 - c)), E.2) else none
    | none => some E
  | (.inr (.inl c)) => if b.1 ≤ c ∧ c ≤ b.2 then some E else none
  | _ => some E
def sx_cc (c : sxB) (a b : Int) : Prop := match c with
  | .eq => a = b
  | .ne => ¬ a = b
  | .lt => a < b
  | .ge => b ≤ a
  | .gt => b < a
  | .le => a ≤ b
def sx_ng (c : sxB) : sxB := match c with
  | .eq => .ne
  | .ne => .eq
  | .lt => .ge
  | .ge => .lt
  | .gt => .le
  | .le => .gt
def sx_nx (p q : Int × Int) : Int × Int := if q.1 = q.2 then (if p.1 = q.1 then p.1 + 1 else p.1, if p.2 = q.1 then p.2 - 1 else p.2) else p
def sx_cb (c : sxB) (p q : Int × Int) : (Int × Int) × (Int × Int) := match c with
  | .lt => ((p.1, min p.2 (q.2 - 1)), (max q.1 (p.1 + 1), q.2))
  | .ge => ((max p.1 q.1, p.2), (q.1, min q.2 p.2))
  | .gt => ((max p.1 (q.1 + 1), p.2), (q.1, min q.2 (p.2 - 1)))
  | .le => ((p.1, min p.2 q.2), (max q.1 p.1, q.2))
  | .eq => ((max p.1 q.1, min p.2 q.2), (max p.1 q.1, min p.2 q.2))
  | .ne => (sx_nx p q, sx_nx q p)
/-- the knowledge if c holds between x and y; none: it can't -/
def sx_cs (E : sxE) (c : sxB) (x y : sxV) : Option (Option sxE) := match sx_b E x, sx_b E y with
  | some p, some q => some (match sx_rf E x (sx_cb c p q).1 with
    | none => none
    | some E1 => sx_rf E1 y (sx_cb c p q).2)
  | _, _ => none
def sx_nzm (E : sxE) (x : sxV) : sxE := match x with
  | (.inl (t, 0)) => match E.2.2.2.2.find? (fun q => q.1 == t) with
    | some q => match E.2.1[q.2]? with
      | some b => (E.1, E.2.1.set q.2 (b.1, b.2.1, true), E.2.2)
      | none => E
    | none => E
  | _ => E
def sx_nzc (c : sxB) (E : sxE) (x : sxV) : sxE := match c with
  | .ne => sx_nzm E x
  | _ => E
def sx_two (E : sxE) (c : sxB) (x y : sxV) (z : Bool) (tg fl : Nat) (r : List sxV) : Option (List (Nat × List sxV × sxE)) := match sx_cs E c x y, sx_cs E (sx_ng c) x y with
  | some t, some f => some (t.toList.map (fun E' => (tg, r, if z then sx_nzc c E' x else E')) ++ f.toList.map (fun E' => (fl, r, if z then sx_nzc (sx_ng c) E' x else E')))
  | _, _ => none
def sx_nul (E : sxE) (x : sxV) (yes no : Nat) (r : List sxV) : Option (List (Nat × List sxV × sxE)) := match x with
  | (.inr (.inr (.inr none))) => some [(yes, r, E)]
  | (.inr (.inr (.inr (some s)))) => match E.2.2.1[s]? with
    | some b => some ((no, r, (E.1, E.2.1, E.2.2.1.set s (b.1, false), E.2.2.2)) :: (if b.2 then [(yes, r, E)] else []))
    | none => none
  | _ => none
def sx_lk (E : sxE) (x : sxV) (r : List sxV) : List (Int × Nat) → List (Nat × List sxV × sxE)
  | [] => []
  | q :: t => (match sx_rf E x (q.1, q.1) with | some E' => [(q.2, r, E')] | none => []) ++ sx_lk E x r t
def sx_br (J : Instr) (aux : List (Int × Nat)) (pc : Nat) (st : List sxV) (E : sxE) : Option (List (Nat × List sxV × sxE)) := match J, st with
  | .goto _, r => some [(rf_tg aux, r, E)]
  | .ifCond c _, x :: r => sx_two E c x ((.inr (.inl 0))) true (rf_tg aux) (pc + 3) r
  | .if_icmp c _, y :: x :: r => sx_two E c x y false (rf_tg aux) (pc + 3) r
  | .ifnull _, x :: r => sx_nul E x (rf_tg aux) (pc + 3) r
  | .ifnonnull _, x :: r => sx_nul E x (pc + 3) (rf_tg aux) r
  | .if_acmp c _, y :: x :: r => if sx_isR x = true ∧ sx_isR y = true ∧ (c = .eq ∨ c = .ne) then some [(rf_tg aux, r, E), (pc + 3, r, E)] else none
  | .tableswitch _ lo hi _, x :: r => if (hi - lo).toNat + 2 ≤ aux.length ∧ lo ≤ hi ∧ sx_isI x = true then some ((rf_tg aux, r, E) :: sx_lk E x r ((List.range ((hi - lo).toNat + 1)).map (fun i : Nat => (lo + (i : Int), ((aux[i + 1]?).getD (0, 0)).2)))) else none
  | .lookupswitch _ _, x :: r => if sx_isI x = true then some ((rf_tg aux, r, E) :: sx_lk E x r aux.tail) else none
  | _, _ => none
theorem rf_cc_iff (x y : Int32) (c : sxB) : rf_cc x y c = true ↔ sx_cc c x.toInt y.toInt := by
  cases c <;> simp only [rf_cc, sx_cc, decide_eq_true_eq, Bool.not_eq_true', decide_eq_false_iff_not, Int32.lt_iff_toInt_lt, Int32.le_iff_toInt_le, Int32.toInt_inj]
theorem sx_ng_of {c : sxB} {a b : Int} (h : ¬ sx_cc c a b) : sx_cc (sx_ng c) a b := by
  cases c <;> simp only [sx_cc, sx_ng] at h ⊢ <;> omega
theorem sx_cb_of {c : sxB} {a b : Int} {p q : Int × Int} (h : sx_cc c a b) (p1 : p.1 ≤ a) (p2 : a ≤ p.2) (q1 : q.1 ≤ b) (q2 : b ≤ q.2) : (sx_cb c p q).1.1 ≤ a ∧ a ≤ (sx_cb c p q).1.2 ∧ (sx_cb c p q).2.1 ≤ b ∧ b ≤ (sx_cb c p q).2.2 := by
  cases c <;> simp only [sx_cc, sx_cb] at h ⊢
  · omega
  · unfold sx_nx
    refine ⟨?_, ?_, ?_, ?_⟩ <;> split <;> (try dsimp only) <;> (try split) <;> omega
  · omega
  · omega
  · omega
  · omega
section SX5

variable {U : sxU} {W : sxW} {E : sxE} {M : rf_M} {sst : List sxV} {st : List Value}

theorem sx_rfo (hE : sx_e U W E M) {x : sxV} {z : Int32} {b : Int × Int} (hv : sx_v W x (.int z)) (h1 : b.1 ≤ z.toInt) (h2 : z.toInt ≤ b.2) : ∃ E', sx_rf E x b = some E' ∧ sx_e U W E' M ∧ E'.2.2.2.2 = E.2.2.2.2 ∧ E'.2.1 = E.2.1 := by
  rcases x with ⟨s, c⟩ | c | s | (_ | s)
  · obtain ⟨z', y, e1, e2, e3⟩ := hv
    cases e1
    unfold sx_rf
    dsimp only
    split
    · rename_i d hd
      obtain ⟨y', g1, g2, g3⟩ := hE.2.2.2.1 s d hd
      rw [e2] at g1
      cases g1
      rw [if_pos (by omega)]
      refine ⟨_, rfl, ⟨by simp only [List.length_set]; exact hE.1, hE.2.1, hE.2.2.1, ?_, hE.2.2.2.2.1, hE.2.2.2.2.2.1, hE.2.2.2.2.2.2.1, hE.2.2.2.2.2.2.2⟩, rfl, rfl⟩
      intro s' b' hs
      simp only [List.getElem?_set] at hs
      split at hs
      · rename_i e
        subst e
        split at hs
        · cases hs
          exact ⟨y, e2, by dsimp only; omega, by dsimp only; omega⟩
        · cases hs
      · exact hE.2.2.2.1 s' b' hs
    · exact ⟨E, rfl, hE, rfl, rfl⟩
  · obtain ⟨z', e1, e2⟩ := hv
    cases e1
    exact ⟨E, if_pos (by omega), hE, rfl, rfl⟩
  · exact ⟨E, rfl, hE, rfl, rfl⟩
  · exact ⟨E, rfl, hE, rfl, rfl⟩
  · exact ⟨E, rfl, hE, rfl, rfl⟩
theorem sx_cso (hE : sx_e U W E M) {c : sxB} {x y : sxV} {zx zy : Int32} (hx : sx_v W x (.int zx)) (hy : sx_v W y (.int zy)) (hc : sx_cc c zx.toInt zy.toInt) {o : Option sxE} (h : sx_cs E c x y = some o) : ∃ E', o = some E' ∧ sx_e U W E' M ∧ E'.2.2.2.2 = E.2.2.2.2 ∧ E'.2.1 = E.2.1 := by
  unfold sx_cs at h
  split at h
  · rename_i p q hp hq
    obtain ⟨z1, e1, p1, p2⟩ := sx_bo hE hp hx
    cases e1
    obtain ⟨z2, e2, q1, q2⟩ := sx_bo hE hq hy
    cases e2
    obtain ⟨k1, k2, k3, k4⟩ := sx_cb_of hc p1 p2 q1 q2
    obtain ⟨E1, r1, r2, r3, r4⟩ := sx_rfo hE hx k1 k2
    obtain ⟨E2, t1, t2, t3, t4⟩ := sx_rfo r2 hy k3 k4
    cases h
    rw [r1]
    exact ⟨E2, t1, t2, t3.trans r3, t4.trans r4⟩
  · cases h
theorem sx_nzmo (hE : sx_e U W E M) {x : sxV} {z : Int32} (hx : sx_v W x (.int z)) (hz : ¬ z.toInt = 0) : sx_e U W (sx_nzm E x) M := by
  unfold sx_nzm
  split
  · rename_i t
    split
    · rename_i q hq
      split
      · rename_i b hb
        refine ⟨hE.1, by simp only [List.length_set]; exact hE.2.1, hE.2.2.1, hE.2.2.2.1, ?_, hE.2.2.2.2.2.1, hE.2.2.2.2.2.2.1, hE.2.2.2.2.2.2.2⟩
        intro s b' hs
        simp only [List.getElem?_set] at hs
        split at hs
        · rename_i e
          subst e
          split at hs
          · cases hs
            obtain ⟨y, g1, g2, g3, -⟩ := hE.2.2.2.2.1 _ _ hb
            refine ⟨y, g1, g2, g3, fun _ => ?_⟩
            have hm := List.mem_of_find?_eq_some hq
            have hq1 : q.1 = t := by simpa using List.find?_some hq
            obtain ⟨y1, z1, m1, m2, m3⟩ := hE.2.2.2.2.2.2.2 q.1 q.2 hm
            rw [g1] at m2
            cases m2
            obtain ⟨z', y', e1, e2, e3⟩ := hx
            cases e1
            rw [hq1, e2] at m1
            cases m1
            intro e
            exact hz (by rw [e3, m3.mpr e]; rfl)
          · cases hs
        · exact hE.2.2.2.2.1 s b' hs
      · exact hE
    · exact hE
  · exact hE
theorem sx_twoo (hE : sx_e U W E M) {c : sxB} {x y : sxV} {zx zy : Int32} {z : Bool} {tg fl : Nat} {r : List sxV} {rc : List Value} {outs : List (Nat × List sxV × sxE)} (hx : sx_v W x (.int zx)) (hy : sx_v W y (.int zy)) (hz : z = true → zy.toInt = 0) (hr : sx_vs W r rc) (h : sx_two E c x y z tg fl r = some outs) : ∃ o ∈ outs, o.1 = (if rf_cc zx zy c = true then tg else fl) ∧ sx_e U W o.2.2 M ∧ sx_vs W o.2.1 rc := by
  unfold sx_two at h
  split at h
  · rename_i t f ht hf
    cases h
    have key : ∀ (c' : sxB) (E' : sxE), sx_e U W E' M → E'.2.2.2.2 = E.2.2.2.2 → sx_cc c' zx.toInt zy.toInt → sx_e U W (if z = true then sx_nzc c' E' x else E') M := by
      intro c' E' hE' _ hc'
      split
      · rename_i hzt
        unfold sx_nzc
        split
        · refine sx_nzmo hE' hx ?_
          have := hz hzt
          have hc2 : ¬ zx.toInt = zy.toInt := hc'
          omega
        · exact hE'
      · exact hE'
    by_cases hc : rf_cc zx zy c = true
    · obtain ⟨E', rfl, h2, h3, h4⟩ := sx_cso hE hx hy ((rf_cc_iff _ _ _).mp hc) ht
      refine ⟨(tg, r, if z = true then sx_nzc c E' x else E'), List.mem_append_left _ ?_, by rw [if_pos hc], key c E' h2 h3 ((rf_cc_iff _ _ _).mp hc), hr⟩
      simp
    · have hc' := sx_ng_of (fun q => hc ((rf_cc_iff _ _ _).mpr q))
      obtain ⟨E', rfl, h2, h3, h4⟩ := sx_cso hE hx hy hc' hf
      refine ⟨(fl, r, if z = true then sx_nzc (sx_ng c) E' x else E'), List.mem_append_right _ ?_, by rw [if_neg hc], key _ E' h2 h3 hc', hr⟩
      simp
  · cases h
theorem sx_csI {c : sxB} {x y : sxV} {o : Option sxE} (h : sx_cs E c x y = some o) : sx_isI x = true ∧ sx_isI y = true := by
  unfold sx_cs at h
  split at h
  · rename_i p q hp hq
    constructor
    · rcases x with ⟨_, _⟩ | _ | _ | (_ | _) <;> first | rfl | cases hp
    · rcases y with ⟨_, _⟩ | _ | _ | (_ | _) <;> first | rfl | cases hq
  · cases h
theorem sx_twoI {c : sxB} {x y : sxV} {z : Bool} {tg fl : Nat} {r : List sxV} {outs : List (Nat × List sxV × sxE)} (h : sx_two E c x y z tg fl r = some outs) : sx_isI x = true ∧ sx_isI y = true := by
  unfold sx_two at h
  split at h
  · rename_i t f ht hf
    exact sx_csI ht
  · cases h
theorem sx_nulo (hE : sx_e U W E M) {x : sxV} {v : Value} {yes no : Nat} {r : List sxV} {rc : List Value} {outs : List (Nat × List sxV × sxE)} (hx : sx_v W x v) (hr : sx_vs W r rc) (h : sx_nul E x yes no r = some outs) : ∃ o ∈ outs, ((v = .null ∧ o.1 = yes) ∨ ((∃ a, v = .ref a) ∧ o.1 = no)) ∧ sx_e U W o.2.2 M ∧ sx_vs W o.2.1 rc := by
  unfold sx_nul at h
  split at h
  · cases h
    exact ⟨_, List.mem_singleton_self _, Or.inl ⟨hx, rfl⟩, hE, hr⟩
  · rename_i s
    split at h
    · rename_i b hb
      cases h
      obtain ⟨o, rfl, ho⟩ := hx
      obtain ⟨o', g1, g2⟩ := hE.2.2.2.2.2.1 _ _ hb
      rw [ho] at g1
      cases g1
      cases o with
      | none =>
        have g2 : b.2 = true := g2
        exact ⟨(yes, r, E), by rw [g2]; simp, Or.inl ⟨rfl, rfl⟩, hE, hr⟩
      | some a =>
        refine ⟨_, List.mem_cons_self, Or.inr ⟨⟨a, rfl⟩, rfl⟩, ⟨hE.1, hE.2.1, by simp only [List.length_set]; exact hE.2.2.1, hE.2.2.2.1, hE.2.2.2.2.1, ?_, hE.2.2.2.2.2.2.1, hE.2.2.2.2.2.2.2⟩, hr⟩
        intro s' b' hs
        simp only [List.getElem?_set] at hs
        split at hs
        · rename_i e
          subst e
          split at hs
          · cases hs
            exact ⟨some a, ho, g2⟩
          · cases hs
        · exact hE.2.2.2.2.2.1 s' b' hs
    · cases h
  · cases h
theorem sx_rno (hE : sx_e U W E M) {x : sxV} {v : Value} (h : sx_isR x = true) (hx : sx_v W x v) : v = .null ∨ ∃ a, v = .ref a ∧ U.1.1.2.2.2.2 ≤ a := by
  rcases x with ⟨s, c⟩ | c | s | (_ | s)
  · cases h
  · cases h
  · cases h
  · exact Or.inl hx
  · obtain ⟨o, rfl, ho⟩ := hx
    cases o with
    | none => exact Or.inl rfl
    | some a =>
      have hlt : s < E.2.2.1.length := by
        rw [← hE.2.2.1]
        exact (List.getElem?_eq_some_iff.mp ho).1
      obtain ⟨o', g1, g2⟩ := hE.2.2.2.2.2.1 s _ (List.getElem?_eq_getElem hlt)
      rw [ho] at g1
      cases g1
      have g2 : sx_rc U _ a := g2
      exact Or.inr ⟨a, rfl, g2.1⟩
theorem sx_lko (hE : sx_e U W E M) {x : sxV} {z : Int32} {r : List sxV} {rc : List Value} (hx : sx_v W x (.int z)) (hr : sx_vs W r rc) : ∀ {t : List (Int × Nat)} {q : Int × Nat}, q ∈ t → q.1 = z.toInt → ∃ o ∈ sx_lk E x r t, o.1 = q.2 ∧ sx_e U W o.2.2 M ∧ sx_vs W o.2.1 rc := by
  intro t
  induction t with
  | nil => intro q hq; cases hq
  | cons q0 t ih =>
    intro q hq hz
    rcases List.mem_cons.mp hq with e | e
    · subst e
      obtain ⟨E', h1, h2, -⟩ := sx_rfo hE (b := (q.1, q.1)) hx (Int.le_of_eq hz) (Int.le_of_eq hz.symm)
      refine ⟨(q.2, r, E'), List.mem_append_left _ ?_, rfl, h2, hr⟩
      rw [h1]
      simp
    · obtain ⟨o, h1, h2⟩ := ih e hz
      exact ⟨o, List.mem_append_right _ h1, h2⟩
theorem rf_sw_or (t : List (Int × Nat)) (d : Nat) (x : Int) : rf_sw t d x = d ∨ ∃ q ∈ t, q.1 = x ∧ rf_sw t d x = q.2 := by
  induction t with
  | nil => exact Or.inl rfl
  | cons q t ih =>
    unfold rf_sw
    split
    · rename_i h
      exact Or.inr ⟨q, List.mem_cons_self, h, rfl⟩
    · rcases ih with h | ⟨q', h1, h2⟩
      · exact Or.inl h
      · exact Or.inr ⟨q', List.mem_cons_of_mem _ h1, h2⟩
theorem sx_bro {J : Instr} {aux : List (Int × Nat)} {pc : Nat} {outs : List (Nat × List sxV × sxE)} (hE : sx_e U W E M) (hs : sx_vs W sst st) (h : sx_br J aux pc sst E = some outs) : ∃ pc' st', rf_br U.1.1.2.2.2.2 J aux pc st = some (pc', st') ∧ ∃ o ∈ outs, o.1 = pc' ∧ sx_e U W o.2.2 M ∧ sx_vs W o.2.1 st' := by
  unfold sx_br at h
  split at h
  · cases h
    exact ⟨_, st, rfl, _, List.mem_singleton_self _, rfl, hE, hs⟩
  · obtain ⟨v, r, rfl, h1, hs1⟩ := sx_cons hs
    obtain ⟨z, rfl⟩ := sx_vI (sx_twoI h).1 h1
    obtain ⟨o, o1, o2, o3, o4⟩ := sx_twoo hE h1 (y := (.inr (.inl 0))) (zy := 0) ⟨0, rfl, Int32.toInt_zero⟩ (fun _ => Int32.toInt_zero) hs1 h
    exact ⟨_, r, rfl, o, o1, o2, o3, o4⟩
  · obtain ⟨v, r, rfl, h1, hs1⟩ := sx_cons hs
    obtain ⟨w, r, rfl, h2, hs2⟩ := sx_cons hs1
    obtain ⟨zy, rfl⟩ := sx_vI (sx_twoI h).2 h1
    obtain ⟨zx, rfl⟩ := sx_vI (sx_twoI h).1 h2
    obtain ⟨o, o1, o2, o3, o4⟩ := sx_twoo hE h2 h1 (fun e => by cases e) hs2 h
    exact ⟨_, r, rfl, o, o1, o2, o3, o4⟩
  · obtain ⟨v, r, rfl, h1, hs1⟩ := sx_cons hs
    obtain ⟨o, o1, o2, o3, o4⟩ := sx_nulo hE h1 hs1 h
    rcases o2 with ⟨rfl, e⟩ | ⟨⟨a, rfl⟩, e⟩
    · exact ⟨_, r, rfl, o, o1, e, o3, o4⟩
    · exact ⟨_, r, rfl, o, o1, e, o3, o4⟩
  · obtain ⟨v, r, rfl, h1, hs1⟩ := sx_cons hs
    obtain ⟨o, o1, o2, o3, o4⟩ := sx_nulo hE h1 hs1 h
    rcases o2 with ⟨rfl, e⟩ | ⟨⟨a, rfl⟩, e⟩
    · exact ⟨_, r, rfl, o, o1, e, o3, o4⟩
    · exact ⟨_, r, rfl, o, o1, e, o3, o4⟩
  · obtain ⟨v, r, rfl, h1, hs1⟩ := sx_cons hs
    obtain ⟨w, r, rfl, h2, hs2⟩ := sx_cons hs1
    split at h
    · rename_i hc
      cases h
      rename_i rr
      have yes : ∀ pc', pc' = rf_tg aux ∨ pc' = pc + 3 → ∃ o ∈ [(rf_tg aux, rr, E), (pc + 3, rr, E)], o.1 = pc' ∧ sx_e U W o.2.2 M ∧ sx_vs W o.2.1 r := by
        intro pc' hp
        rcases hp with rfl | rfl
        · exact ⟨_, List.mem_cons_self, rfl, hE, hs2⟩
        · exact ⟨_, List.mem_cons_of_mem _ List.mem_cons_self, rfl, hE, hs2⟩
      rcases sx_rno hE hc.2.1 h1 with rfl | ⟨a, rfl, ha⟩
      · rcases sx_rno hE hc.1 h2 with rfl | ⟨a', rfl, ha'⟩
        · rcases hc.2.2 with rfl | rfl
          · exact ⟨_, r, rfl, yes _ (Or.inl rfl)⟩
          · exact ⟨_, r, rfl, yes _ (Or.inr rfl)⟩
        · rcases hc.2.2 with rfl | rfl
          · exact ⟨_, r, rfl, yes _ (Or.inr rfl)⟩
          · exact ⟨_, r, rfl, yes _ (Or.inl rfl)⟩
      · rcases sx_rno hE hc.1 h2 with rfl | ⟨a', rfl, ha'⟩
        · rcases hc.2.2 with rfl | rfl
          · exact ⟨_, r, rfl, yes _ (Or.inr rfl)⟩
          · exact ⟨_, r, rfl, yes _ (Or.inl rfl)⟩
        · have hlt : ¬ (a' < U.1.1.2.2.2.2 ∨ a < U.1.1.2.2.2.2) := fun z => z.elim (fun z => Nat.not_lt.mpr ha' z) (fun z => Nat.not_lt.mpr ha z)
          rcases hc.2.2 with rfl | rfl
          · by_cases e : a' = a
            · exact ⟨rf_tg aux, r, by show (if _ then _ else some (if a' = a then _ else _, r)) = _; rw [if_neg hlt, if_pos e], yes _ (Or.inl rfl)⟩
            · exact ⟨pc + 3, r, by show (if _ then _ else some (if a' = a then _ else _, r)) = _; rw [if_neg hlt, if_neg e], yes _ (Or.inr rfl)⟩
          · by_cases e : a' = a
            · exact ⟨pc + 3, r, by show (if _ then _ else some (if a' = a then _ else _, r)) = _; rw [if_neg hlt, if_pos e], yes _ (Or.inr rfl)⟩
            · exact ⟨rf_tg aux, r, by show (if _ then _ else some (if a' = a then _ else _, r)) = _; rw [if_neg hlt, if_neg e], yes _ (Or.inl rfl)⟩
    · cases h
  · obtain ⟨v, r, rfl, h1, hs1⟩ := sx_cons hs
    split at h
    · rename_i d lo hi ts x r' hc
      cases h
      obtain ⟨z, rfl⟩ := sx_vI hc.2.2 h1
      by_cases hz : z.toInt < lo ∨ hi < z.toInt
      · exact ⟨rf_tg aux, r, if_pos hz, _, List.mem_cons_self, rfl, hE, hs1⟩
      · have hlen : (z.toInt - lo).toNat + 1 < aux.length := by omega
        obtain ⟨o, o1, o2, o3, o4⟩ := sx_lko hE h1 hs1 (t := (List.range ((hi - lo).toNat + 1)).map (fun i : Nat => (lo + (i : Int), ((aux[i + 1]?).getD (0, 0)).2))) (q := (lo + ((z.toInt - lo).toNat : Int), ((aux[(z.toInt - lo).toNat + 1]?).getD (0, 0)).2)) (List.mem_map.mpr ⟨(z.toInt - lo).toNat, List.mem_range.mpr (by omega), rfl⟩) (by dsimp only; omega)
        refine ⟨_, r, ?_, o, List.mem_cons_of_mem _ o1, o2, o3, o4⟩
        show (if z.toInt < lo ∨ hi < z.toInt then _ else (match aux[(z.toInt - lo).toNat + 1]? with | some q => some (q.2, r) | none => none)) = _
        rw [if_neg hz, List.getElem?_eq_getElem hlen]
        rfl
    · cases h
  · obtain ⟨v, r, rfl, h1, hs1⟩ := sx_cons hs
    split at h
    · rename_i hc
      cases h
      obtain ⟨z, rfl⟩ := sx_vI hc h1
      rcases rf_sw_or aux.tail (rf_tg aux) z.toInt with e | ⟨q, q1, q2, q3⟩
      · exact ⟨_, r, rfl, _, List.mem_cons_self, e.symm, hE, hs1⟩
      · obtain ⟨o, o1, o2, o3, o4⟩ := sx_lko hE h1 hs1 q1 q2
        exact ⟨_, r, rfl, o, List.mem_cons_of_mem _ o1, o2.trans q3.symm, o3, o4⟩
    · cases h
  · cases h
end SX5
/-! the heap -/
def sx_tyok (ty : FieldType) (f : sxF) : Bool := match f, ty with
  | (.inl (_, _)), .int => true
  | (.inl (_, _)), .boolean => true
  | (.inl (_, _)), .byte => true
  | (.inl (_, _)), .char => true
  | (.inl (_, _)), .short => true
  | (.inr none), .long => true
  | (.inr (some (_, _))), .object _ => true
  | (.inr (some (_, _))), .array _ => true
  | _, _ => false
def sx_new (E : sxE) (f : sxF) : sxV × sxE := match f with
  | (.inl (lo, hi)) => sx_ni E lo hi
  | (.inr none) => sx_nl E (-9223372036854775808) 9223372036854775807 false
  | (.inr (some (g, nul))) => sx_nr E g nul
def sx_kdok (y : sxV) (f : sxF) : Bool := match f with
  | (.inl (_, _)) => sx_isI y
  | (.inr none) => sx_isL y
  | (.inr (some (_, _))) => sx_isR y
/-- an object: its ghost, region, kind, fields -/
def sx_ob (G : List sxR) (E : sxE) (x : sxV) : Option (Nat × Nat × Nat × List sxF) := match x with
  | (.inr (.inr (.inr (some s)))) => match E.2.2.1[s]? with
    | some (g, false) => match G[g]? with
      | some ((.inl (ci, fs))) => some (s, g, ci, fs)
      | _ => none
    | _ => none
  | _ => none
/-- an array: its region, type, length, elements -/
def sx_aa (G : List sxR) (E : sxE) (x : sxV) : Option (Nat × FieldType × Nat × sxF) := match x with
  | (.inr (.inr (.inr (some s)))) => match E.2.2.1[s]? with
    | some (g, false) => match G[g]? with
      | some ((.inr (ty, len, e))) => some (g, ty, len, e)
      | _ => none
    | _ => none
  | _ => none
def sx_kf (E : sxE) (s k : Nat) : Option sxV := (E.2.2.2.1.find? (fun q => q.1.1 == s && q.1.2 == k)).map (fun q => q.2)
/-- may v lie where f is -/
def sx_wok (E : sxE) (v : sxV) (f : sxF) : Bool := match f with
  | (.inl (lo, hi)) => (match sx_b E v with
    | some b => decide (lo ≤ b.1) && decide (b.2 ≤ hi)
    | none => false)
  | (.inr none) => sx_isL v
  | (.inr (some (g, nul))) => (match v with
    | (.inr (.inr (.inr (some s)))) => (match E.2.2.1[s]? with
      | some b => decide (b.1 = g) && (!b.2 || nul)
      | none => false)
    | (.inr (.inr (.inr none))) => nul
    | _ => false)
/-- may v be laid into a field of this type as it is -/
def sx_wty (E : sxE) (v : sxV) (ty : FieldType) : Bool := match ty with
  | .int => sx_isI v
  | .long => sx_isL v
  | .object _ => sx_isR v
  | .array _ => sx_isR v
  | .boolean => (match sx_b E v with
    | some b => decide (0 ≤ b.1) && decide (b.2 ≤ 1)
    | none => false)
  | _ => false
def sx_gf (U : sxU) (aux : List (Int × Nat)) (st : List sxV) (E : sxE) : Option (List sxV × sxE) := match st with
  | x :: r => match sx_ob U.1.2.1 E x with
    | some (s, _, ci, fs) => match rf_lk aux (ci : Int) with
      | some k => match fs[k]? with
        | some f => if sx_tyok (U.1.1.2.2.1 (ci : Int) k) f = true then (match sx_kf E s k with
            | some y => if sx_kdok y f = true then some (y :: r, E) else none
            | none => some ((sx_new E f).1 :: r, ((sx_new E f).2.1, (sx_new E f).2.2.1, (sx_new E f).2.2.2.1, ((s, k), (sx_new E f).1) :: E.2.2.2.1, (sx_new E f).2.2.2.2.2))) else none
        | none => none
      | none => none
    | none => none
  | _ => none
def sx_pf (U : sxU) (md : List (Nat × Nat)) (aux : List (Int × Nat)) (st : List sxV) (E : sxE) : Option (List sxV × sxE) := match st with
  | v :: x :: r => match sx_ob U.1.2.1 E x with
    | some (s, g, ci, fs) => match rf_lk aux (ci : Int) with
      | some k => match fs[k]? with
        | some f => if sx_tyok (U.1.1.2.2.1 (ci : Int) k) f = true ∧ sx_wty E v (U.1.1.2.2.1 (ci : Int) k) = true ∧ sx_wok E v f = true ∧ md.elem (g, k + 1) = true then some (r, (E.1, E.2.1, E.2.2.1, ((s, k), v) :: E.2.2.2.1.filter (fun q => !(q.1.2 == k)), E.2.2.2.2)) else none
        | none => none
      | none => none
    | none => none
  | _ => none
def sx_ix (E : sxE) (j : sxV) (len : Nat) : Bool := match sx_b E j with
  | some b => decide (0 ≤ b.1) && decide (b.2 < (len : Int))
  | none => false
def sx_al (U : sxU) (p : FieldType → Bool) (st : List sxV) (E : sxE) : Option (List sxV × sxE) := match st with
  | j :: x :: r => match sx_aa U.1.2.1 E x with
    | some (_, ty, len, e) => if p ty = true ∧ sx_tyok ty e = true ∧ sx_ix E j len = true then some ((sx_new E e).1 :: r, (sx_new E e).2) else none
    | none => none
  | _ => none
/-- stores into arrays of ints and longs -/
def sx_as (U : sxU) (md : List (Nat × Nat)) (p : FieldType → Bool) (st : List sxV) (E : sxE) : Option (List sxV × sxE) := match st with
  | v :: j :: x :: r => match sx_aa U.1.2.1 E x with
    | some (g, ty, len, e) => if p ty = true ∧ sx_tyok ty e = true ∧ sx_ix E j len = true ∧ sx_wok E v e = true ∧ md.elem (g, 0) = true then some (r, E) else none
    | none => none
  | _ => none
def sx_pI (ty : FieldType) : Bool := match ty with
  | .int => true
  | _ => false
def sx_pL (ty : FieldType) : Bool := match ty with
  | .long => true
  | _ => false
def sx_pB (ty : FieldType) : Bool := match ty with
  | .byte => true
  | .boolean => true
  | _ => false
def sx_pO (ty : FieldType) : Bool := match ty with
  | .object _ => true
  | _ => false
/-- a byte or a boolean into an array: e takes what a byte, a boolean can be -/
def sx_bs (U : sxU) (md : List (Nat × Nat)) (st : List sxV) (E : sxE) : Option (List sxV × sxE) := match st with
  | v :: j :: x :: r => match sx_aa U.1.2.1 E x with
    | some (g, ty, len, (.inl (lo, hi))) => if sx_isI v = true ∧ sx_ix E j len = true ∧ md.elem (g, 0) = true ∧ ((ty = .byte ∧ lo ≤ -128 ∧ 127 ≤ hi) ∨ (ty = .boolean ∧ lo ≤ 0 ∧ 1 ≤ hi)) then some (r, E) else none
    | _ => none
  | _ => none
/-- a reference into an array -/
def sx_os (U : sxU) (md : List (Nat × Nat)) (st : List sxV) (E : sxE) : Option (List sxV × sxE) := match st with
  | v :: j :: x :: r => match sx_aa U.1.2.1 E x, sx_ob U.1.2.1 E v with
    | some (g, .object C, len, e), some (_, _, ci, _) => if sx_ix E j len = true ∧ sx_wok E v e = true ∧ md.elem (g, 0) = true ∧ (U.1.1.2.2.2.1[ci]?).map (fun q => q.1) = some C then some (r, E) else none
    | _, _ => none
  | _ => none
def sx_ln (U : sxU) (st : List sxV) (E : sxE) : Option (List sxV × sxE) := match st with
  | x :: r => match sx_aa U.1.2.1 E x with
    | some (_, _, len, _) => if len ≤ 2147483647 then some ((.inr (.inl (len : Int))) :: r, E) else none
    | none => none
  | _ => none
def sx_hp (U : sxU) (md : List (Nat × Nat)) (J : Instr) (aux : List (Int × Nat)) (st : List sxV) (E : sxE) : Option (List sxV × sxE) := match J with
  | .getfield _ => sx_gf U aux st E
  | .putfield _ => sx_pf U md aux st E
  | .iaload => sx_al U sx_pI st E
  | .laload => sx_al U sx_pL st E
  | .baload => sx_al U sx_pB st E
  | .aaload => sx_al U sx_pO st E
  | .iastore => sx_as U md sx_pI st E
  | .lastore => sx_as U md sx_pL st E
  | .bastore => sx_bs U md st E
  | .aastore => sx_os U md st E
  | .arraylength => sx_ln U st E
  | _ => none
def sx_upd (M M' : rf_M) (a k : Nat) : Prop := ∀ a' k', (a' ≠ a ∨ k' ≠ k) → sx_same M M' a' k'
theorem sx_upd_i (M : rf_M) (a k : Nat) (x : Int32) : sx_upd M (rf_wi M a k x) a k := fun _ _ h => ⟨rf_up2 _ _ h, rfl, rfl⟩
theorem sx_upd_l (M : rf_M) (a k : Nat) (x : Int64) : sx_upd M (rf_wl M a k x) a k := fun _ _ h => ⟨rfl, rf_up2 _ _ h, rfl⟩
theorem sx_upd_q (M : rf_M) (a k : Nat) (x : Option Nat) : sx_upd M (rf_wq M a k x) a k := fun _ _ h => ⟨rfl, rfl, rf_up2 _ _ h⟩
section SX6
variable {U : sxU} {W : sxW} {E : sxE} {M M' M0 : rf_M} {sst : List sxV} {st : List Value} {md : List (Nat × Nat)}
theorem sx_f_same {a k : Nat} (h : sx_same M M' a k) {f : sxF} (hf : sx_f U M a k f) : sx_f U M' a k f := by
  rcases f with ⟨lo, hi⟩ | (_ | ⟨g, nul⟩)
  · unfold sx_f at hf ⊢; dsimp only at hf ⊢; rw [h.1]; exact hf
  · trivial
  · unfold sx_f at hf ⊢; dsimp only at hf ⊢; rw [h.2.2]; exact hf
theorem sx_rd_same {a k : Nat} (h : sx_same M M' a k) (x : sxV) : sx_rd x M' a k = sx_rd x M a k := by
  rcases x with ⟨_, _⟩ | _ | _ | (_ | _) <;> unfold sx_rd <;> dsimp only <;> first | rw [h.1] | rw [h.2.1] | rw [h.2.2]
theorem sx_in_w (hin : sx_in U M) {a k : Nat} (ha : U.1.1.2.2.2.2 ≤ a) (hu : sx_upd M M' a k) (hf : ∀ f, sx_fa U.1.2.1 (U.1.2.2.1 a) k = some f → sx_f U M' a k f) : sx_in U M' := by
  refine ⟨fun a' k' f h1 h2 h3 => ?_, fun a' k' h => ?_⟩
  · by_cases e : a' = a ∧ k' = k
    · obtain ⟨rfl, rfl⟩ := e
      exact hf f h3
    · exact sx_f_same (hu a' k' (by omega)) (hin.1 a' k' f h1 h2 h3)
  · have h1 := hin.2 a' k' h
    have h2 := hu a' k' (Or.inl (by omega))
    exact ⟨h2.1.trans h1.1, h2.2.1.trans h1.2.1, h2.2.2.trans h1.2.2⟩
theorem sx_fr_w (hfr : sx_fr U md M0 M) {a k : Nat} (hu : sx_upd M M' a k) (ha : U.1.1.2.2.2.2 ≤ a) (hm : (U.1.2.2.1 a, 0) ∈ md ∨ (U.1.2.2.1 a, k + 1) ∈ md) : sx_fr U md M0 M' := by
  intro a' k' h
  have h1 := hfr a' k' h
  have h2 : a' ≠ a ∨ k' ≠ k := by
    by_cases e : a' = a ∧ k' = k
    · obtain ⟨rfl, rfl⟩ := e
      exfalso
      rcases h with h | h
      · omega
      · exact hm.elim h.1 h.2
    · omega
  have h3 := hu a' k' h2
  exact ⟨h3.1.trans h1.1, h3.2.1.trans h1.2.1, h3.2.2.trans h1.2.2⟩
/-- a writing into an array leaves what is known of objects -/
theorem sx_e_a (hE : sx_e U W E M) {a k : Nat} {q : FieldType × Nat} (hu : sx_upd M M' a k) (ha : U.1.2.2.2.1.1 a = .inr q) : sx_e U W E M' := by
  refine ⟨hE.1, hE.2.1, hE.2.2.1, hE.2.2.2.1, hE.2.2.2.2.1, hE.2.2.2.2.2.1, ?_, hE.2.2.2.2.2.2.2⟩
  intro s k' x hx
  obtain ⟨b, ci, h1, h2, h3, h4⟩ := hE.2.2.2.2.2.2.1 s k' x hx
  have hne : b ≠ a := fun e => by rw [e, ha] at h3; cases h3
  exact ⟨b, ci, h1, h2, h3, by rw [sx_rd_same (hu b k' (Or.inl hne))]; exact h4⟩
theorem sx_e_o (hE : sx_e U W E M) {a k s ci : Nat} {v : sxV} (hu : sx_upd M M' a k) (hs : W.2.2[s]? = some (some a)) (ha : U.1.1.2.2.2.2 ≤ a) (hc : U.1.2.2.2.1.1 a = .inl ci) (hv : sx_v W v (sx_rd v M' a k)) : sx_e U W (E.1, E.2.1, E.2.2.1, ((s, k), v) :: E.2.2.2.1.filter (fun q => !(q.1.2 == k)), E.2.2.2.2) M' := by
  refine ⟨hE.1, hE.2.1, hE.2.2.1, hE.2.2.2.1, hE.2.2.2.2.1, hE.2.2.2.2.2.1, ?_, hE.2.2.2.2.2.2.2⟩
  intro s' k' x hx
  rcases List.mem_cons.mp hx with e | e
  · cases e
    exact ⟨a, ci, hs, ha, hc, hv⟩
  · obtain ⟨e1, e2⟩ := List.mem_filter.mp e
    have hne : k' ≠ k := by simpa using e2
    obtain ⟨b, ci', h1, h2, h3, h4⟩ := hE.2.2.2.2.2.2.1 s' k' x e1
    exact ⟨b, ci', h1, h2, h3, by rw [sx_rd_same (hu b k' (Or.inr hne))]; exact h4⟩
theorem sx_obo (hE : sx_e U W E M) {x : sxV} {v : Value} {q : Nat × Nat × Nat × List sxF} (h : sx_ob U.1.2.1 E x = some q) (hv : sx_v W x v) : ∃ a, v = .ref a ∧ W.2.2[q.1]? = some (some a) ∧ sx_rc U q.2.1 a ∧ go U.1.1 U.1.2.2.2.1 a q.2.2.1 ∧ U.1.2.1[U.1.2.2.1 a]? = some ((.inl (q.2.2.1, q.2.2.2))) := by
  unfold sx_ob at h
  split at h
  · rename_i s
    split at h
    · rename_i g hg
      split at h
      · rename_i ci fs hG
        cases h
        obtain ⟨o, rfl, ho⟩ := hv
        obtain ⟨o', g1, g2⟩ := hE.2.2.2.2.2.1 _ _ hg
        rw [ho] at g1
        cases g1
        cases o with
        | none => cases g2
        | some a =>
          have g2 : sx_rc U g a := g2
          have hs := U.2.2 a g2.1 g2.2.1
          unfold sx_sh at hs
          rw [g2.2.2, hG] at hs
          refine ⟨a, rfl, ho, g2, ⟨g2.1, Nat.lt_of_lt_of_le U.2.1 g2.1, g2.2.1, hs⟩, by rw [g2.2.2]; exact hG⟩
      · cases h
    · cases h
  · cases h
theorem sx_aao (hE : sx_e U W E M) {x : sxV} {v : Value} {q : Nat × FieldType × Nat × sxF} (h : sx_aa U.1.2.1 E x = some q) (hv : sx_v W x v) : ∃ a, v = .ref a ∧ sx_rc U q.1 a ∧ ga U.1.1 U.1.2.2.2.1 a q.2.1 q.2.2.1 ∧ U.1.2.1[U.1.2.2.1 a]? = some ((.inr (q.2.1, q.2.2.1, q.2.2.2))) := by
  unfold sx_aa at h
  split at h
  · rename_i s
    split at h
    · rename_i g hg
      split at h
      · rename_i ty len e hG
        cases h
        obtain ⟨o, rfl, ho⟩ := hv
        obtain ⟨o', g1, g2⟩ := hE.2.2.2.2.2.1 _ _ hg
        rw [ho] at g1
        cases g1
        cases o with
        | none => cases g2
        | some a =>
          have g2 : sx_rc U g a := g2
          have hs := U.2.2 a g2.1 g2.2.1
          unfold sx_sh at hs
          rw [g2.2.2, hG] at hs
          refine ⟨a, rfl, g2, ⟨g2.1, Nat.lt_of_lt_of_le U.2.1 g2.1, g2.2.1, hs⟩, by rw [g2.2.2]; exact hG⟩
      · cases h
    · cases h
  · cases h
theorem sx_newo (hE : sx_e U W E M) {f : sxF} {a k : Nat} {ty : FieldType} (hf : sx_f U M a k f) (ht : sx_tyok ty f = true) : ∃ W', sx_le W W' ∧ sx_e U W' (sx_new E f).2 M ∧ sx_v W' (sx_new E f).1 (rf_rd M ty a k) ∧ sx_rd (sx_new E f).1 M a k = rf_rd M ty a k := by
  rcases f with ⟨lo, hi⟩ | (_ | ⟨g, nul⟩)
  · have e : rf_rd M ty a k = .int (M.1 a k) := by cases ty <;> first | rfl | cases ht
    rw [e]
    obtain ⟨W', w1, w2, w3⟩ := sx_fi hE (M.1 a k) hf.1 hf.2
    exact ⟨W', w1, w2, w3, rfl⟩
  · have e : rf_rd M ty a k = .long (M.2.1 a k) := by cases ty <;> first | rfl | cases ht
    rw [e]
    obtain ⟨W', w1, w2, w3⟩ := sx_flo hE (M.2.1 a k)
    exact ⟨W', w1, w2, w3, rfl⟩
  · have e : rf_rd M ty a k = va_rf (M.2.2 a k) := by cases ty <;> first | rfl | cases ht
    rw [e]
    obtain ⟨W', w1, w2, w3⟩ := sx_frr hE (g := g) (nul := nul) (M.2.2 a k) hf
    exact ⟨W', w1, w2, w3, rfl⟩
theorem sx_ixo (hE : sx_e U W E M) {j : sxV} {v : Value} {len : Nat} (h : sx_ix E j len = true) (hv : sx_v W j v) : ∃ z : Int32, v = .int z ∧ ¬ (z < 0 ∨ len ≤ z.toNatClampNeg) ∧ z.toNatClampNeg < len := by
  unfold sx_ix at h
  split at h
  · rename_i b hb
    simp only [Bool.and_eq_true, decide_eq_true_eq] at h
    obtain ⟨z, rfl, z1, z2⟩ := sx_bo hE hb hv
    have e : z.toNatClampNeg = z.toInt.toNat := rfl
    refine ⟨z, rfl, ?_, by rw [e]; omega⟩
    rw [Int32.lt_iff_toInt_lt, Int32.toInt_zero, e]
    omega
  · cases h
end SX6
section SX7
variable {U : sxU} {W : sxW} {E : sxE} {M M' M0 : rf_M} {sst : List sxV} {st : List Value} {md : List (Nat × Nat)}
def sx_fits (U : sxU) (f : sxF) (vv : Value) : Prop := match f with
  | (.inl (lo, hi)) => ∃ z : Int32, vv = .int z ∧ lo ≤ z.toInt ∧ z.toInt ≤ hi
  | (.inr none) => ∃ z, vv = .long z
  | (.inr (some (g, nul))) => ∃ o, vv = va_rf o ∧ (match o with | none => nul = true | some b => sx_rc U g b)
theorem sx_woko (hE : sx_e U W E M) {v : sxV} {vv : Value} {f : sxF} (hv : sx_v W v vv) (h : sx_wok E v f = true) : sx_fits U f vv := by
  rcases f with ⟨lo, hi⟩ | (_ | ⟨g, nul⟩)
  · unfold sx_wok at h
    dsimp only at h
    split at h
    · rename_i b hb
      simp only [Bool.and_eq_true, decide_eq_true_eq] at h
      obtain ⟨z, rfl, z1, z2⟩ := sx_bo hE hb hv
      exact ⟨z, rfl, by omega, by omega⟩
    · cases h
  · exact sx_vL h hv
  · unfold sx_wok at h
    dsimp only at h
    split at h
    · rename_i s
      split at h
      · rename_i b hb
        simp only [Bool.and_eq_true, decide_eq_true_eq, Bool.or_eq_true, Bool.not_eq_true'] at h
        obtain ⟨o, rfl, ho⟩ := hv
        obtain ⟨o', g1, g2⟩ := hE.2.2.2.2.2.1 _ _ hb
        rw [ho] at g1
        cases g1
        refine ⟨o, rfl, ?_⟩
        cases o with
        | none =>
          have g2 : b.2 = true := g2
          rw [g2] at h
          rcases h.2 with h | h
          · cases h
          · exact h
        | some c =>
          have g2 : sx_rc U b.1 c := g2
          rw [h.1] at g2
          exact g2
      · cases h
    · cases hv
      exact ⟨none, rfl, h⟩
    · cases h
theorem sx_wro (hE : sx_e U W E M) {v : sxV} {vv : Value} {f : sxF} {ty : FieldType} (a k : Nat) (hv : sx_v W v vv) (h1 : sx_tyok ty f = true) (h2 : sx_wty E v ty = true) (h3 : sx_wok E v f = true) : ∃ M', rf_wr M ty a k vv = some M' ∧ sx_upd M M' a k ∧ sx_v W v (sx_rd v M' a k) ∧ sx_f U M' a k f := by
  have hf := sx_woko hE hv h3
  have kI : ∀ z : Int32, vv = .int z → ∀ M', M' = rf_wi M a k z → sx_tyok .int f = true → sx_isI v = true → sx_upd M M' a k ∧ sx_v W v (sx_rd v M' a k) ∧ sx_f U M' a k f := by
    intro z hz M' hM ht hI
    subst hM hz
    have e : (rf_wi M a k z).1 a k = z := rf_up2s _ _ _ _
    refine ⟨sx_upd_i M a k z, ?_, ?_⟩
    · have e2 : sx_rd v (rf_wi M a k z) a k = .int z := by
        rcases v with ⟨_, _⟩ | _ | _ | (_ | _) <;> first | (show Value.int ((rf_wi M a k z).1 a k) = _; rw [e]) | cases hI
      rw [e2]; exact hv
    · rcases f with ⟨lo, hi⟩ | (_ | ⟨g, nul⟩)
      · obtain ⟨z', g1, g2, g3⟩ := hf
        cases g1
        show lo ≤ ((rf_wi M a k z).1 a k).toInt ∧ ((rf_wi M a k z).1 a k).toInt ≤ hi
        rw [e]; exact ⟨g2, g3⟩
      · trivial
      · cases ht
  have kR : ∀ o : Option Nat, vv = va_rf o → ∀ M', M' = rf_wq M a k o → sx_isR v = true → (∀ lo hi, f ≠ (.inl (lo, hi))) → sx_upd M M' a k ∧ sx_v W v (sx_rd v M' a k) ∧ sx_f U M' a k f := by
    intro z hz M' hM hI hni
    subst hM hz
    have e : (rf_wq M a k z).2.2 a k = z := rf_up2s _ _ _ _
    refine ⟨sx_upd_q M a k z, ?_, ?_⟩
    · have e2 : sx_rd v (rf_wq M a k z) a k = va_rf z := by
        rcases v with ⟨_, _⟩ | _ | _ | (_ | _) <;> first | (show va_rf ((rf_wq M a k z).2.2 a k) = _; rw [e]) | cases hI
      rw [e2]; exact hv
    · rcases f with ⟨lo, hi⟩ | (_ | ⟨g, nul⟩)
      · exact absurd rfl (hni lo hi)
      · trivial
      · obtain ⟨o, g1, g2⟩ := hf
        have : z = o := by cases z <;> cases o <;> first | rfl | (cases g1 <;> rfl)
        subst this
        show match (rf_wq M a k z).2.2 a k with | none => nul = true | some b => sx_rc U g b
        rw [e]; exact g2
  cases ty with
  | int =>
    obtain ⟨z, hz⟩ := sx_vI h2 hv
    obtain ⟨r1, r2, r3⟩ := kI z hz _ rfl (by rcases f with ⟨_, _⟩ | (_ | ⟨_, _⟩) <;> first | rfl | cases h1) h2
    exact ⟨rf_wi M a k z, by rw [hz]; rfl, r1, r2, r3⟩
  | boolean =>
    have h2 : (match sx_b E v with | some b => decide (0 ≤ b.1) && decide (b.2 ≤ 1) | none => false) = true := h2
    split at h2
    · rename_i b hb
      simp only [Bool.and_eq_true, decide_eq_true_eq] at h2
      obtain ⟨z, hz, z1, z2⟩ := sx_bo hE hb hv
      have hI : sx_isI v = true := by rcases v with ⟨_, _⟩ | _ | _ | (_ | _) <;> first | rfl | cases hb
      have hz01 : z = 0 ∨ z = 1 := by
        have : z.toInt = 0 ∨ z.toInt = 1 := by omega
        rcases this with h | h
        · exact Or.inl (Int32.toInt_inj.mp (by rw [h]; rfl))
        · exact Or.inr (Int32.toInt_inj.mp (by rw [h]; rfl))
      obtain ⟨r1, r2, r3⟩ := kI z hz _ rfl (by rcases f with ⟨_, _⟩ | (_ | ⟨_, _⟩) <;> first | rfl | cases h1) hI
      refine ⟨rf_wi M a k z, ?_, r1, r2, r3⟩
      rw [hz]
      show (if narrow .boolean (.int z) = .int z ∧ fits .boolean (.int z) = true then some (rf_wi M a k z) else none) = _
      rw [if_pos]
      rcases hz01 with rfl | rfl
      · exact ⟨by decide +kernel, by decide +kernel⟩
      · exact ⟨by decide +kernel, by decide +kernel⟩
    · cases h2
  | long =>
    obtain ⟨z, hz⟩ := sx_vL h2 hv
    subst hz
    have e : (rf_wl M a k z).2.1 a k = z := rf_up2s _ _ _ _
    refine ⟨rf_wl M a k z, rfl, sx_upd_l M a k z, ?_, ?_⟩
    · have e2 : sx_rd v (rf_wl M a k z) a k = .long z := by
        rcases v with ⟨_, _⟩ | _ | _ | (_ | _) <;> first | (show Value.long ((rf_wl M a k z).2.1 a k) = _; rw [e]) | cases h2
      rw [e2]; exact hv
    · rcases f with ⟨_, _⟩ | (_ | ⟨_, _⟩) <;> first | trivial | cases h1
  | object C =>
    obtain ⟨o, ho⟩ := sx_vR h2 hv
    obtain ⟨r1, r2, r3⟩ := kR o ho _ rfl h2 (fun lo hi e => by rw [e] at h1; cases h1)
    exact ⟨rf_wq M a k o, by rw [ho]; cases o <;> rfl, r1, r2, r3⟩
  | array t =>
    obtain ⟨o, ho⟩ := sx_vR h2 hv
    obtain ⟨r1, r2, r3⟩ := kR o ho _ rfl h2 (fun lo hi e => by rw [e] at h1; cases h1)
    exact ⟨rf_wq M a k o, by rw [ho]; cases o <;> rfl, r1, r2, r3⟩
  | byte => cases h2
  | char => cases h2
  | short => cases h2
  | float => cases h2
  | double => cases h2
theorem sx_gfo {aux : List (Int × Nat)} {q : List sxV × sxE} {i : Nat} (hE : sx_e U W E M) (hin : sx_in U M) (hs : sx_vs W sst st) (h : sx_gf U aux sst E = some q) : ∃ st' W', rf_hp U.1.1 (.getfield i) aux st (M, U.1.2.2.2.1) = some (st', (M, U.1.2.2.2.1)) ∧ sx_le W W' ∧ sx_e U W' q.2 M ∧ sx_vs W' q.1 st' := by
  unfold sx_gf at h
  split at h
  · obtain ⟨v, r, rfl, h1, hs1⟩ := sx_cons hs
    split at h
    · rename_i s g ci fs hob
      obtain ⟨a, rfl, a1, a2, a3, a4⟩ := sx_obo hE hob h1
      dsimp only at a1 a2 a3 a4
      split at h
      · rename_i k hk
        have step : ∀ vv, rf_rd M (U.1.1.2.2.1 (ci : Int) k) a k = vv → rf_hp U.1.1 (.getfield i) aux (.ref a :: r) (M, U.1.2.2.2.1) = some (vv :: r, (M, U.1.2.2.2.1)) := by
          intro vv hvv
          show (match rf_ob (M, U.1.2.2.2.1) a with
            | some ci => match rf_lk aux (rf_ky U.1.1.2.2.2.2 a ci) with
              | some k => some (rf_rd M (U.1.1.2.2.1 (rf_ky U.1.1.2.2.2.2 a ci) k) a k :: r, (M, U.1.2.2.2.1))
              | none => none
            | none => none) = _
          rw [a3.ob]
          dsimp only
          rw [a3.ky, hk]
          dsimp only
          rw [hvv]
        split at h
        · rename_i f hf
          have hff : sx_f U M a k f := hin.1 a k f a3.1 a3.2.2.1 (by unfold sx_fa; rw [a4]; exact hf)
          split at h
          · rename_i ht
            split at h
            · rename_i y hy
              split at h
              · rename_i hkd
                cases h
                obtain ⟨qq, hq1, rfl⟩ := Option.map_eq_some_iff.mp hy
                have hm := List.mem_of_find?_eq_some hq1
                have hp := List.find?_some hq1
                simp only [Bool.and_eq_true, beq_iff_eq] at hp
                obtain ⟨⟨s', k'⟩, y⟩ := qq
                obtain ⟨rfl, rfl⟩ := hp
                obtain ⟨b, ci', b1, b2, b3, b4⟩ := hE.2.2.2.2.2.2.1 _ _ _ hm
                rw [a1] at b1
                cases b1
                refine ⟨_, W, step _ ?_, sx_le_rfl W, hE, b4, hs1⟩
                rcases f with ⟨lo, hi⟩ | (_ | ⟨g, nul⟩)
                · have e : rf_rd M (U.1.1.2.2.1 (ci : Int) k') a k' = .int (M.1 a k') := by
                    revert ht; cases U.1.1.2.2.1 (ci : Int) k' <;> intro ht <;> first | rfl | cases ht
                  rw [e]; rcases y with ⟨_, _⟩ | _ | _ | (_ | _) <;> first | rfl | cases hkd
                · have e : rf_rd M (U.1.1.2.2.1 (ci : Int) k') a k' = .long (M.2.1 a k') := by
                    revert ht; cases U.1.1.2.2.1 (ci : Int) k' <;> intro ht <;> first | rfl | cases ht
                  rw [e]; rcases y with ⟨_, _⟩ | _ | _ | (_ | _) <;> first | rfl | cases hkd
                · have e : rf_rd M (U.1.1.2.2.1 (ci : Int) k') a k' = va_rf (M.2.2 a k') := by
                    revert ht; cases U.1.1.2.2.1 (ci : Int) k' <;> intro ht <;> first | rfl | cases ht
                  rw [e]; rcases y with ⟨_, _⟩ | _ | _ | (_ | _) <;> first | rfl | cases hkd
              · cases h
            · cases h
              obtain ⟨W', w1, w2, w3, w4⟩ := sx_newo hE hff ht
              refine ⟨_, W', step _ rfl, w1, ⟨w2.1, w2.2.1, w2.2.2.1, w2.2.2.2.1, w2.2.2.2.2.1, w2.2.2.2.2.2.1, ?_, w2.2.2.2.2.2.2.2⟩, w3, hs1.mono w1⟩
              intro s' k' x hx
              rcases List.mem_cons.mp hx with e | e
              · cases e
                exact ⟨a, ci, w1.2.2 _ _ a1, a3.1, a3.2.2.2, by rw [w4]; exact w3⟩
              · obtain ⟨b, ci', b1, b2, b3, b4⟩ := hE.2.2.2.2.2.2.1 _ _ _ e
                exact ⟨b, ci', w1.2.2 _ _ b1, b2, b3, b4.mono w1⟩
          · cases h
        · cases h
      · cases h
    · cases h
  · cases h
theorem sx_pfo {aux : List (Int × Nat)} {q : List sxV × sxE} {i : Nat} (hE : sx_e U W E M) (hin : sx_in U M) (hfr : sx_fr U md M0 M) (hs : sx_vs W sst st) (h : sx_pf U md aux sst E = some q) : ∃ st' M', rf_hp U.1.1 (.putfield i) aux st (M, U.1.2.2.2.1) = some (st', (M', U.1.2.2.2.1)) ∧ sx_e U W q.2 M' ∧ sx_in U M' ∧ sx_fr U md M0 M' ∧ sx_vs W q.1 st' := by
  unfold sx_pf at h
  split at h
  · obtain ⟨vv, r1, rfl, hv, hs1⟩ := sx_cons hs
    obtain ⟨v, r, rfl, h1, hs2⟩ := sx_cons hs1
    split at h
    · rename_i s g ci fs hob
      obtain ⟨a, rfl, a1, a2, a3, a4⟩ := sx_obo hE hob h1
      dsimp only at a1 a2 a3 a4
      split at h
      · rename_i k hk
        split at h
        · rename_i f hf
          split at h
          · rename_i hc
            cases h
            obtain ⟨M', m1, m2, m3, m4⟩ := sx_wro hE a k hv hc.1 hc.2.1 hc.2.2.1
            refine ⟨r, M', ?_, sx_e_o hE m2 a1 a3.1 a3.2.2.2 m3, sx_in_w hin a3.1 m2 (fun f' hf' => ?_), sx_fr_w hfr m2 a3.1 (Or.inr ?_), hs2⟩
            · show (if a < U.1.1.2.2.2.2 then none else match rf_ob (M, U.1.2.2.2.1) a with
                | some ci => match rf_lk aux (ci : Int) with
                  | some k => match rf_wr M (U.1.1.2.2.1 (ci : Int) k) a k vv with
                    | some M => some (r, (M, U.1.2.2.2.1))
                    | none => none
                  | none => none
                | none => none) = _
              rw [if_neg (Nat.not_lt.mpr a3.1), a3.ob]
              dsimp only
              rw [hk]
              dsimp only
              rw [m1]
            · unfold sx_fa at hf'
              rw [a4] at hf'
              dsimp only at hf'
              rw [hf] at hf'
              cases hf'
              exact m4
            · rw [a2.2.2]
              exact List.elem_iff.mp hc.2.2.2
          · cases h
        · cases h
      · cases h
    · cases h
  · cases h
end SX7
