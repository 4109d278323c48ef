/-! THE START: the machine at the law's entry holds the abstract heap at its beginning -/
def si0 : List Nat := [63, 69, 71, 73, 75, 77, 79, 81, 83, 85]
def sl0 : List Nat := [2, 4, 5, 5, 5, 6, 2, 3, 5, 6]
def sb0 : List (List Int32) := [[105, 102], [101, 108, 115, 101], [119, 104, 105, 108, 101], [114, 101, 116, 114, 121], [116, 104, 114, 111, 119], [101, 105, 116, 104, 101, 114], [111, 114], [116, 114, 121], [99, 97, 116, 99, 104], [97, 108, 119, 97, 121, 115]]
def tm0 (i : Nat) : Term := .string "MemoryTransactions$Scanner" (si0.getD i 0)
def h0M (xs : Nat → Int32) : rf_M := (fun a j => if a = 1 then xs j else if a % 2 = 1 then (sb0.getD ((a - 3) / 2) []).getD j 0 else 0, fun _ _ => 0, fun a k => if k = 0 then some (a + 1) else none)
def h0S (L : Nat) : Nat → rf_S := fun a => if a = 1 then .inr (.int, L) else if a % 2 = 1 then .inr (.byte, sl0.getD ((a - 3) / 2) 0) else .inl 0
def h00 (L : Nat) (xs : Nat → Int32) : rf_H := (h0M xs, h0S L, 22, 0)
def ad0 (f b base : Nat) (adK adV : Nat → Nat) : Nat → Nat := fun a => if a = 0 then f else if a = 1 then b else if a < 22 then (if a % 2 = 0 then adK ((a - 2) / 2) else adV ((a - 3) / 2)) else base + (a - 22)
theorem ad0_e (f b base : Nat) (adK adV : Nat → Nat) {i : Nat} (hi : i < 10) : ad0 f b base adK adV (2 + 2 * i) = adK i := by
  unfold ad0
  rw [if_neg (by omega), if_neg (by omega), if_pos (by omega), if_pos (by omega)]
  congr 1
  omega
theorem ad0_o (f b base : Nat) (adK adV : Nat → Nat) {i : Nat} (hi : i < 10) : ad0 f b base adK adV (3 + 2 * i) = adV i := by
  unfold ad0
  rw [if_neg (by omega), if_neg (by omega), if_pos (by omega), if_neg (by omega)]
  congr 1
  omega
theorem fl_ex : ∀ i, i < 10 → Cond.exactly (tm0 i) "java/lang/String" ∈ flatC (Jvm.Cond.and given_1 narrow_1) := by decide +kernel
theorem fl_co : ∀ i, i < 10 → Cond.eq (.field (tm0 i) "java/lang/String" "coder" "B") (.int 0) ∈ flatC (Jvm.Cond.and given_1 narrow_1) := by decide +kernel
theorem fl_ar : ∀ i, i < 10 → Cond.arrayOf (.field (tm0 i) "java/lang/String" "value" "[B") .byte ∈ flatC (Jvm.Cond.and given_1 narrow_1) := by decide +kernel
theorem fl_le : ∀ i, i < 10 → Cond.eq (.length (.field (tm0 i) "java/lang/String" "value" "[B")) (.int (Int32.ofNat (sl0.getD i 0))) ∈ flatC (Jvm.Cond.and given_1 narrow_1) := by decide +kernel
theorem fl_el : ∀ i, i < 10 → ∀ j, j < sl0.getD i 0 → Cond.eq (.elem (.field (tm0 i) "java/lang/String" "value" "[B") (.int (Int32.ofNat j))) (.int ((sb0.getD i []).getD j 0)) ∈ flatC (Jvm.Cond.and given_1 narrow_1) := by decide +kernel
theorem fl_ne : ∀ i, i < 10 → ∀ j, j < 10 → i ≠ j → (Cond.not (Cond.eq (tm0 i) (tm0 j)) ∈ flatC (Jvm.Cond.and given_1 narrow_1) ∨ Cond.not (Cond.eq (tm0 j) (tm0 i)) ∈ flatC (Jvm.Cond.and given_1 narrow_1)) := by decide +kernel
theorem fl_sl : ∀ i, i < 10 → sl0.getD i 0 < 2 ^ 31 := by decide +kernel
theorem fl_cs : Cond.eq (.static "java/lang/String" "COMPACT_STRINGS" "Z") (.int 1) ∈ flatC (Jvm.Cond.and given_1 narrow_1) := by decide +kernel
theorem fl_fm : Cond.isRef (.static "jdk/internal/util/Preconditions" "SIOOBE_FORMATTER" "Ljava/util/function/BiFunction;") ∈ flatC (Jvm.Cond.and given_1 narrow_1) := by decide +kernel
theorem ls_cs : Cond.laysStatic "java/lang/String" "COMPACT_STRINGS" "Z" ∈ lw_tbl := List.mem_of_getElem? (i := 590) (by decide +kernel)
theorem ls_fm : Cond.laysStatic "jdk/internal/util/Preconditions" "SIOOBE_FORMATTER" "Ljava/util/function/BiFunction;" ∈ lw_tbl := List.mem_of_getElem? (i := 606) (by decide +kernel)
theorem in_cs : Cond.initialized "java/lang/String" ∈ lw_tbl := List.mem_of_getElem? (i := 99) (by decide +kernel)
theorem in_fm : Cond.initialized "jdk/internal/util/Preconditions" ∈ lw_tbl := List.mem_of_getElem? (i := 101) (by decide +kernel)
theorem sr_0 : ∀ i, i < 10 → Cond.stringRef "MemoryTransactions$Scanner" (si0.getD i 0) (["if", "else", "while", "retry", "throw", "either", "or", "try", "catch", "always"].getD i "") ∈ lw_tbl := by decide +kernel
theorem str0_at : ∀ q ∈ str0, ∃ i, i < 10 ∧ q.1 = "MemoryTransactions$Scanner" ∧ q.2.1 = si0.getD i 0 ∧ q.2.2.1 = ["if", "else", "while", "retry", "throw", "either", "or", "try", "catch", "always"].getD i "" ∧ q.2.2.2 = 2 + 2 * i := List.forall_mem_cons.mpr ⟨⟨0, by decide, rfl, rfl, rfl, rfl⟩, List.forall_mem_cons.mpr ⟨⟨1, by decide, rfl, rfl, rfl, rfl⟩, List.forall_mem_cons.mpr ⟨⟨2, by decide, rfl, rfl, rfl, rfl⟩, List.forall_mem_cons.mpr ⟨⟨3, by decide, rfl, rfl, rfl, rfl⟩, List.forall_mem_cons.mpr ⟨⟨4, by decide, rfl, rfl, rfl, rfl⟩, List.forall_mem_cons.mpr ⟨⟨5, by decide, rfl, rfl, rfl, rfl⟩, List.forall_mem_cons.mpr ⟨⟨6, by decide, rfl, rfl, rfl, rfl⟩, List.forall_mem_cons.mpr ⟨⟨7, by decide, rfl, rfl, rfl, rfl⟩, List.forall_mem_cons.mpr ⟨⟨8, by decide, rfl, rfl, rfl, rfl⟩, List.forall_mem_cons.mpr ⟨⟨9, by decide, rfl, rfl, rfl, rfl⟩, fun _ h => absurd h List.not_mem_nil⟩⟩⟩⟩⟩⟩⟩⟩⟩⟩
theorem rf_sp_of {w : Cond} (hk : rf_spk w = true) {A : Array Value} {U : State} (hz : w.before A U = true) : w.before #[] U = true := by
  unfold rf_spk at hk
  split at hk
  · exact va_Nw.of rfl hz
  · exact va_Nw.of rfl hz
  · exact va_Nw.of rfl hz
  · exact va_Nw.of rfl hz
  · exact va_AO.of hz
  · cases hk
theorem kn_0 {s : State} {args : Array Value} (hts : ∀ w ∈ tb0, w.before args s = true) : ∃ D : va_G, va_K D cl0 [] s := by
  have h : ∀ k : Nat, ∃ p : ClassId × (Nat → Nat), ∀ q : vw_C, cl0[k]? = some q → u_Kn s q.1 q.2.1 q.2.2 p.1 p.2 := by
    intro k
    match k with
    | 0 =>
      obtain ⟨c, i, h⟩ := u_known hts uw_0 (hts _ ins_0)
      exact ⟨(c, i), fun q hq => by cases hq; exact h⟩
    | 1 =>
      obtain ⟨c, i, h⟩ := u_known hts uw_1 (hts _ ins_1)
      exact ⟨(c, i), fun q hq => by cases hq; exact h⟩
    | 2 =>
      obtain ⟨c, i, h⟩ := u_known hts uw_2 (hts _ ins_2)
      exact ⟨(c, i), fun q hq => by cases hq; exact h⟩
    | 3 =>
      obtain ⟨c, i, h⟩ := u_known hts uw_3 (hts _ ins_3)
      exact ⟨(c, i), fun q hq => by cases hq; exact h⟩
    | 4 =>
      obtain ⟨c, i, h⟩ := u_known hts uw_4 (hts _ ins_4)
      exact ⟨(c, i), fun q hq => by cases hq; exact h⟩
    | 5 =>
      obtain ⟨c, i, h⟩ := u_known hts uw_5 (hts _ ins_5)
      exact ⟨(c, i), fun q hq => by cases hq; exact h⟩
    | 6 =>
      obtain ⟨c, i, h⟩ := u_known hts uw_6 (hts _ ins_6)
      exact ⟨(c, i), fun q hq => by cases hq; exact h⟩
    | 7 =>
      obtain ⟨c, i, h⟩ := u_known hts uw_7 (hts _ ins_7)
      exact ⟨(c, i), fun q hq => by cases hq; exact h⟩
    | 8 =>
      obtain ⟨c, i, h⟩ := u_known hts uw_8 (hts _ ins_8)
      exact ⟨(c, i), fun q hq => by cases hq; exact h⟩
    | 9 =>
      obtain ⟨c, i, h⟩ := u_known hts uw_9 (hts _ ins_9)
      exact ⟨(c, i), fun q hq => by cases hq; exact h⟩
    | 10 =>
      obtain ⟨c, i, h⟩ := u_known hts uw_10 (hts _ ins_10)
      exact ⟨(c, i), fun q hq => by cases hq; exact h⟩
    | 11 =>
      obtain ⟨c, i, h⟩ := u_known hts uw_11 (hts _ ins_11)
      exact ⟨(c, i), fun q hq => by cases hq; exact h⟩
    | k + 12 => exact ⟨(0, fun _ => 0), fun q hq => by simp [cl0] at hq⟩
  obtain ⟨g, hg⟩ := Classical.axiomOfChoice h
  exact ⟨(fun k => (g k).1, fun k => (g k).2), fun k q hq => hg k q hq, fun k q hq => by simp at hq⟩
-- ===== end of PART A; then your names; then what follows =====
/-! THE CLAIM OUT OF ONE WALK OF THE LAW'S BODY. Your part is whole_start (and what it stands on); all else here is the same for every law, but numbers. -/
def R_law : String := "MemoryTransactionsLaw"
def lw_P (b : Addr) (xs : List Int32) (args : Array Value) (s : State) : Prop := args = #[.ref b] ∧ s.IntsAt b xs ∧ xs.length ≤ 3072 ∧ (Jvm.Cond.and given_1 narrow_1).before args s = true
def lw_Q (_ : Array Value) (s : State) (o : Outcome) (t : State) : Prop := o = .returned (some (.int 1)) ∧ Framed s o t [] 600000 7302250
def lw_Z (below : List Frame) (a : Array Value) (s : State) : State → Prop := fun t => ∃ o, t.status = .running ∧ Ended t below o ∧ lw_Q a s o t
/-- the law's own end, with 1 on the stack, nothing written that was there before, its room as the claim has it -/
theorem lw_ret {p : Program} {l : Launch} {e : Env} {s : State} {m : MethodId} {below : List Frame} {meth : Method} {c : Code} {b : Nat} (hx : p.tables.exec = Jvm.exec) (hb : c.code = code) (hr : meth.sig.returnType = ret) (hlocks : meth.locks = false) {pc : Nat} {H : Heap} {ls : Array Slot} (hdg : decode code pc = .ok (.ireturn, 1)) : W p l e room_1 s m #[Value.ref b] below meth c H [] 600000 7302250 (lw_Z below #[Value.ref b] s) (F0 m pc ls [.int 1]) := by
  intro T hT X
  obtain ⟨fs, hret, hrun, hended, hW, hframe⟩ := X.leave (v := some (.int 1)) (hlocks := hlocks) (fun h => by rw [hr] at h; cases h)
  have hmeth' : T.vm.method? m = some meth := X.method'
  refine ⟨T.setFrames fs, ?_, .returned (some (.int 1)), hrun, hended, rfl, ⟨_, rfl⟩, hW, hframe⟩
  jvm_step X.here [X.here.top, hx, hb, hdg, hmeth', hr, ret, narrow_b1]
  (try refine ⟨rfl, ?_⟩); (try refine ⟨rfl, ?_⟩)
  first | (intro acts; rw [hret _ acts rfl rfl rfl]) | rw [hret _ _ rfl rfl rfl]
  exact Steps.refl _
/-- what holds at the law's entry: the machine, the code, the tables' words (any of lw_tbl by 'hts w (by decide +kernel)'), the script of L ints xs at the cell b, what the Statement gives of the start (any of its parts by flat_of_before) -/
def lw_At (p : Program) (s : State) (m : MethodId) (meth : Method) (c : Code) (b L : Nat) (xs : Nat → Int32) : Prop :=
  p.tables.exec = Jvm.exec ∧ c.code = code ∧ meth.sig.returnType = ret ∧ c.maxLocals = 4 ∧ s.vm.findClass R_law = some m.cls ∧ (∀ w ∈ lw_tbl, w.before #[Value.ref b] s = true) ∧ va_X b L xs s s.heap ∧ b < s.heap.size ∧ meth.locks = false ∧ (Jvm.Cond.and given_1 narrow_1).before #[Value.ref b] s = true
/-! THE CLAIM OUT OF THE EVALUATOR -/
/-- what is to be shown: the evaluator comes to 1, within the room -/
def pu_goal (fz : Bool) (L : Nat) (xs : Nat → Int32) : Prop := ∃ (n : Nat) (hF : rf_H), rf_ev (cx0 fz) n (2048, 84000) 0 0 [(0, .ref 1)] [] (h00 L xs) = some (some (.int 1), hF) ∧ hF.2.2.1 ≤ 600000 ∧ hF.2.2.2 ≤ 7302250
set_option maxHeartbeats 4000000 in
theorem st_ao {s : State} {b L : Nat} {xs : Nat → Int32} {f : Nat} {fz : Bool} {adK adV : Nat → Nat} (hX : va_X b L xs s s.heap) (hS : vk_S 10 sl0 sb0 adK adV (fun q => s.heap.size ≤ q) s s.heap) : ∀ a, 0 < a → a < 22 → rf_ao ocl0 (cx0 fz) (ad0 f b s.heap.size adK adV) s s.heap (h0M xs) a (h0S L a) := by
  intro a h0 h1
  by_cases ha : a = 1
  · subst ha
    obtain ⟨scr, q1, q2, q3, q4, q5⟩ := hX
    exact ⟨scr, q1, q2, q3, Nat.le_of_eq q4.symm, by rw [q4]; rfl, fun j hj => q5 j hj⟩
  · by_cases he : a % 2 = 0
    · obtain ⟨i, hi, rfl⟩ : ∃ i, i < 10 ∧ a = 2 + 2 * i := ⟨(a - 2) / 2, by omega, by omega⟩
      have hsh : h0S L (2 + 2 * i) = .inl 0 := by
        unfold h0S
        rw [if_neg (by omega), if_neg (by omega)]
      rw [hsh]
      obtain ⟨⟨cell, o1, o2, o3, -⟩, c1, v1, -⟩ := hS.1 i hi
      refine ⟨oq_0, rfl, ⟨cell, by rw [ad0_e _ _ _ _ _ hi]; exact o1, o2, o3⟩, fun k hk => ?_⟩
      have hk2 : k = 0 ∨ k = 1 := by
        have : k < 2 := hk
        omega
      rcases hk2 with rfl | rfl
      · obtain ⟨cf, kf, fi, fd, cel, g1, g2, g3, g4, g5, -⟩ := v1
        refine ⟨cf, kf, fi, fd, cel, g1, g2, by rw [ad0_e _ _ _ _ _ hi]; exact g3, g4, ?_⟩
        rw [g5]
        show some (Value.ref (adV i)) = some (Value.ref (ad0 f b s.heap.size adK adV (2 + 2 * i + 1)))
        rw [show 2 + 2 * i + 1 = 3 + 2 * i by omega, ad0_o _ _ _ _ _ hi]
      · obtain ⟨cf, kf, fi, fd, cel, g1, g2, g3, g4, g5, -⟩ := c1
        refine ⟨cf, kf, fi, fd, cel, g1, g2, by rw [ad0_e _ _ _ _ _ hi]; exact g3, g4, ?_⟩
        rw [g5]
        show some (Value.int 0) = some (Value.int (if 2 + 2 * i = 1 then xs 1 else if (2 + 2 * i) % 2 = 1 then _ else 0))
        rw [if_neg (by omega), if_neg (by omega)]
    · obtain ⟨i, hi, rfl⟩ : ∃ i, i < 10 ∧ a = 3 + 2 * i := ⟨(a - 3) / 2, by omega, by omega⟩
      have hdv : (3 + 2 * i - 3) / 2 = i := by omega
      have hsh : h0S L (3 + 2 * i) = .inr (.byte, sl0.getD i 0) := by
        unfold h0S
        rw [if_neg (by omega), if_pos (by omega), hdv]
      rw [hsh]
      obtain ⟨-, -, -, cel, t1, t2, t3, t4, t5, t6, -⟩ := hS.1 i hi
      refine ⟨cel, by rw [ad0_o _ _ _ _ _ hi]; exact t1, t2, t3, t4, t5, fun j hj => ?_⟩
      rw [t6 j hj]
      show some (Value.int _) = some (Value.int (if 3 + 2 * i = 1 then xs j else if (3 + 2 * i) % 2 = 1 then (sb0.getD ((3 + 2 * i - 3) / 2) []).getD j 0 else 0))
      rw [if_neg (by omega), if_pos (by omega), hdv]
set_option maxHeartbeats 4000000 in
theorem whole_of {p : Program} {e : Env} {s : State} {m : MethodId} {below : List Frame} {meth : Method} {c : Code} (l : Launch) {b L : Nat} {xs : Nat → Int32} (hpu : ∀ fz, pu_goal fz L xs) (C0 : lw_At p s m meth c b L xs) : W p l e room_1 s m #[Value.ref b] below meth c s.heap [] 0 0 (lw_Z below #[Value.ref b] s) (entryFrame m ([Value.ref b] : List Value).toArray 4) := by
  obtain ⟨hx, hb, hr, hml, hown, hts, hX, hbl, hlocks, hgv⟩ := C0
  have hfl := flat_of_before _ hgv
  have hA : ∀ a : Nat, a < s.heap.size → ¬ (fun q : Nat => s.heap.size ≤ q) a := fun a h => Nat.not_le.mpr h
  have htb : ∀ w ∈ tb0, w.before #[Value.ref b] s = true := fun w hw => hts w (List.mem_filter.mp hw).1
  obtain ⟨adK, adV, hS, hSe⟩ := vk_Sof (args := #[Value.ref b]) (s := s) (N := 10) (tm := tm0) (len := sl0) (byt := sb0) (A := fun q => s.heap.size ≤ q) fl_sl (fun i hi => hfl _ (fl_ex i hi)) (fun i hi => hfl _ (fl_co i hi)) (fun i hi => hfl _ (fl_ar i hi)) (fun i hi => hfl _ (fl_le i hi)) (fun i hi j hj => hfl _ (fl_el i hi j hj)) (fun i j hi hj hij => (fl_ne i hi j hj hij).imp (fun z => hfl _ z) (fun z => hfl _ z)) hA
  have hcs := va_Zof (hts _ ls_cs) (hts _ in_cs) (va_eqi (hfl _ fl_cs)) hA
  obtain ⟨D, hK⟩ := kn_0 htb
  obtain ⟨fz, f, hfm⟩ : ∃ (fz : Bool) (f : Nat), va_Z "jdk/internal/util/Preconditions" "SIOOBE_FORMATTER" "Ljava/util/function/BiFunction;" (if fz then .ref f else .null) (fun q => s.heap.size ≤ q) s s.heap := by
    rcases va_Zqof (hts _ ls_fm) (hts _ in_fm) (hfl _ fl_fm) hA with z | ⟨t, z⟩
    · exact ⟨false, 0, z⟩
    · exact ⟨true, t, z⟩
  have hAd : rf_A (cx0 fz) (ad0 f b s.heap.size adK adV) s.heap.size := by
    refine ⟨fun a ha => ?_, fun a h0 h1 => ?_, (show 0 < 22 from Nat.le_of_ble_eq_true rfl)⟩
    · have ha : 22 ≤ a := ha
      show ad0 f b s.heap.size adK adV a = s.heap.size + (a - 22)
      unfold ad0
      rw [if_neg (by omega), if_neg (by omega), if_neg (by omega)]
    · have h1 : a < 22 := h1
      by_cases ha : a = 1
      · subst ha; exact hbl
      · by_cases he : a % 2 = 0
        · obtain ⟨i, hi, rfl⟩ : ∃ i, i < 10 ∧ a = 2 + 2 * i := ⟨(a - 2) / 2, by omega, by omega⟩
          rw [ad0_e _ _ _ _ _ hi]
          obtain ⟨⟨cell, o1, -⟩, -⟩ := hS.1 i hi
          exact (Array.getElem?_eq_some_iff.mp o1).1
        · obtain ⟨i, hi, rfl⟩ : ∃ i, i < 10 ∧ a = 3 + 2 * i := ⟨(a - 3) / 2, by omega, by omega⟩
          rw [ad0_o _ _ _ _ _ hi]
          obtain ⟨-, -, -, cel, t1, -⟩ := hS.1 i hi
          exact (Array.getElem?_eq_some_iff.mp t1).1
  have hR : rf_R ocl0 s.heap D (cx0 fz) (ad0 f b s.heap.size adK adV) s.heap.size s s.heap (h00 L xs) :=
    ⟨fun a h1 h2 => absurd (Nat.lt_of_lt_of_le h2 h1) (Nat.lt_irrefl _), st_ao hX hS, rfl, Nat.le_refl _, fun _ _ => rfl⟩
  have hE : rf_E sp0 str0 (stt0 fz) s.heap (ad0 f b s.heap.size adK adV) s.heap.size s := by
    refine ⟨fun w hw => rf_sp_of (List.mem_filter.mp hw).2 (hts w (List.mem_filter.mp hw).1), fun q hq => ?_, ?_⟩
    · obtain ⟨i, hi, e1, e2, e3, e4⟩ := str0_at q hq
      obtain ⟨q1, q2, q3, q4⟩ := q
      dsimp only at e1 e2 e3 e4
      subst e1; subst e2; subst e3; subst e4
      refine vk_R.of (A := #[Value.ref b]) (hts _ (sr_0 i hi)) ?_
      rw [ad0_e _ _ _ _ _ hi]
      exact hSe i hi
    · refine List.forall_mem_cons.mpr ⟨hcs, List.forall_mem_cons.mpr ⟨?_, fun _ h => absurd h List.not_mem_nil⟩⟩
      cases fz
      · exact hfm
      · exact hfm
  obtain ⟨n, hF, hev, hc1, hc2⟩ := hpu fz
  have hP := rf_main (l := l) (OH := s.heap) (D := D) (cx0_wf fz) (cx0_G fz) hAd tb0_good sp0_spk n
  obtain ⟨-, hW⟩ := hP (2048, 84000) 0 0 [(0, .ref 1)] [] (h00 L xs) (some (.int 1)) hF hev
  have hl := lv_entry ([.ref b]) (n := 4) (Nat.le_of_ble_eq_true rfl)
  rw [lg_entry_eq]
  refine hW p e room_1 s m _ below meth c s.heap [] 0 0 _ _ hx hb hml hown ?_ htb hE hK hR (fun q hq => by cases hq) hl (Nat.le_refl _) (Nat.le_refl _) ?_ ?_ ?_
  · intro z
    have z2 : ("law" : String) = "<init>" := z
    exact absurd z2 (by decide +kernel)
  · show 0 + (hF.2.2.1 - 22) ≤ 600000
    omega
  · show 0 + (hF.2.2.2 - 0) ≤ 7302250
    omega
  · intro pcR IR HR locsR lsR stR hd hrt hRR hloc
    have hi : IR = .ireturn ∧ stR = [.int 1] := by
      have hrt : rf_rt IR (some .boolean) stR = some (some (.int 1)) := hrt
      unfold rf_rt at hrt
      split at hrt
      all_goals first
        | (exfalso; simp_all; done)
        | (split at hrt
           · cases hrt; exact ⟨rfl, rfl⟩
           · cases hrt)
    obtain ⟨rfl, rfl⟩ := hi
    refine va_forget (fun q hq => hloc q hq) ?_
    refine W.widen (k := 600000) (n := 7302250) (by show 0 + (hF.2.2.1 - 22) ≤ 600000; omega) (by show 0 + (hF.2.2.2 - 0) ≤ 7302250; omega) ?_
    exact lw_ret hx hb hr hlocks hd
/-! ROWS OF THE EVALUATOR, over a heap ((I, L, R), S): S are the shapes, which no instruction but the makings changes -/
abbrev gS : Type := (Nat → rf_S) × Nat × Nat
/-- a is an object of class ci that was made -/
def go (cx : rf_C) (S : gS) (a ci : Nat) : Prop := cx.2.2.2.2 ≤ a ∧ 0 < a ∧ a < S.2.1 ∧ S.1 a = .inl ci
/-- a is an array of n elements of type ty that was made -/
def ga (cx : rf_C) (S : gS) (a : Nat) (ty : FieldType) (n : Nat) : Prop := cx.2.2.2.2 ≤ a ∧ 0 < a ∧ a < S.2.1 ∧ S.1 a = .inr (ty, n)
section GROW
variable {cx : rf_C} {d : Nat × Nat} {i pc : Nat} {ls : rf_L} {st : List Value} {h : rf_H} {Q : Option Value → rf_H → Prop} {I : Nat → Nat → Int32} {L : Nat → Nat → Int64} {R : Nat → Nat → Option Nat} {S : gS} {aux : List (Int × Nat)}
theorem go.ob {a ci : Nat} (hs : go cx S a ci) (M : rf_M) : rf_ob (M, S) a = some ci := by
  unfold rf_ob
  rw [if_pos ⟨hs.2.1, hs.2.2.1⟩]
  show (match S.1 a with | .inl ci => some ci | .inr _ => none) = some ci
  rw [hs.2.2.2]
theorem ga.aa {a n : Nat} {ty : FieldType} (hs : ga cx S a ty n) (M : rf_M) : rf_aa (M, S) a = some (ty, n) := by
  unfold rf_aa
  rw [if_pos ⟨hs.2.1, hs.2.2.1⟩]
  show (match S.1 a with | .inr q => some q | .inl _ => none) = some (ty, n)
  rw [hs.2.2.2]
theorem ga.el {a n : Nat} {ty : FieldType} (hs : ga cx S a ty n) (M : rf_M) {j : Int32} (hj : ¬ (j < 0 ∨ n ≤ j.toNatClampNeg)) : rf_el (M, S) ty a j = some (rf_rd M ty a j.toNatClampNeg) := by
  unfold rf_el
  rw [hs.aa M]
  show (if ty = ty ∧ ¬ (j < 0 ∨ n ≤ j.toNatClampNeg) then _ else _) = _
  rw [if_pos ⟨rfl, hj⟩]
theorem go.ky {a ci : Nat} (hs : go cx S a ci) : rf_ky cx.2.2.2.2 a ci = (ci : Int) := if_neg (Nat.not_lt.mpr hs.1)
/-- arithmetic, loads, stores, constants: one row a kind -/
theorem g0 {J : Instr} {st' : List Value} (hf : cx.1 i pc = some (J, aux)) (hk : rf_kd J = 0) (he : rf_ar J st = some st') (k : gx cx d i (pc + 1) ls st' h Q) : gx cx d i pc ls st h Q := by
  refine gx_step hf (pc' := pc + 1) (ls' := ls) (st' := st') (h' := h) ?_ k
  unfold rf_ex
  simp only [hk, he, Option.map_some]
theorem g1 {J : Instr} {st' : List Value} {n : Nat} (hf : cx.1 i pc = some (J, aux)) (hk : rf_kd J = 1) (hn : rf_len J = n) (he : rf_lo J aux ls st = some st') (k : gx cx d i (pc + n) ls st' h Q) : gx cx d i pc ls st h Q := by
  refine gx_step hf (pc' := pc + n) (ls' := ls) (st' := st') (h' := h) ?_ k
  unfold rf_ex
  simp only [hk, he, hn, Option.map_some]
theorem g2 {J : Instr} {ls' : rf_L} {st' : List Value} {n : Nat} (hf : cx.1 i pc = some (J, aux)) (hk : rf_kd J = 2) (hn : rf_len J = n) (he : rf_so J (cx.2.1 i).2.2.1 ls st = some (ls', st')) (k : gx cx d i (pc + n) ls' st' h Q) : gx cx d i pc ls st h Q := by
  refine gx_step hf (pc' := pc + n) (ls' := ls') (st' := st') (h' := h) ?_ k
  unfold rf_ex
  simp only [hk, he, hn, Option.map_some]
theorem g3 {J : Instr} {pc' : Nat} {st' : List Value} (hf : cx.1 i pc = some (J, aux)) (hk : rf_kd J = 3) (he : rf_br cx.2.2.2.2 J aux pc st = some (pc', st')) (k : gx cx d i pc' ls st' h Q) : gx cx d i pc ls st h Q := by
  refine gx_step hf (pc' := pc') (ls' := ls) (st' := st') (h' := h) ?_ k
  unfold rf_ex
  simp only [hk, he, Option.map_some]
theorem g7 {J : Instr} {st' : List Value} {n : Nat} (hf : cx.1 i pc = some (J, aux)) (hk : rf_kd J = 7) (hn : rf_len J = n) (he : rf_po aux st = some st') (k : gx cx d i (pc + n) ls st' h Q) : gx cx d i pc ls st h Q := by
  refine gx_step hf (pc' := pc + n) (ls' := ls) (st' := st') (h' := h) ?_ k
  unfold rf_ex
  simp only [hk, he, hn, Option.map_some]
theorem g4 {J : Instr} {st' : List Value} {h' : rf_H} {n : Nat} (hf : cx.1 i pc = some (J, aux)) (hk : rf_kd J = 4) (hn : rf_len J = n) (he : rf_hp cx J aux st h = some (st', h')) (k : gx cx d i (pc + n) ls st' h' Q) : gx cx d i pc ls st h Q := by
  refine gx_step hf (pc' := pc + n) (ls' := ls) (st' := st') (h' := h') ?_ k
  unfold rf_ex
  simp only [hk, he, hn, Option.map_some]
/-- branches: two ways -/
theorem g_if {c : Jvm.ClassFile.Cond} {o : Int} {x : Int32} (hf : cx.1 i pc = some (.ifCond c o, aux)) (kt : rf_cc x 0 c = true → gx cx d i (rf_tg aux) ls st h Q) (kf : ¬ rf_cc x 0 c = true → gx cx d i (pc + 3) ls st h Q) : gx cx d i pc ls (.int x :: st) h Q := by
  by_cases hc : rf_cc x 0 c = true
  · exact g3 hf rfl (by show some (if rf_cc x 0 c = true then rf_tg aux else pc + 3, st) = _; rw [if_pos hc]) (kt hc)
  · exact g3 hf rfl (by show some (if rf_cc x 0 c = true then rf_tg aux else pc + 3, st) = _; rw [if_neg hc]) (kf hc)
theorem g_ic {c : Jvm.ClassFile.Cond} {o : Int} {x y : Int32} (hf : cx.1 i pc = some (.if_icmp c o, aux)) (kt : rf_cc x y c = true → gx cx d i (rf_tg aux) ls st h Q) (kf : ¬ rf_cc x y c = true → gx cx d i (pc + 3) ls st h Q) : gx cx d i pc ls (.int y :: .int x :: st) h Q := by
  by_cases hc : rf_cc x y c = true
  · exact g3 hf rfl (by show some (if rf_cc x y c = true then rf_tg aux else pc + 3, st) = _; rw [if_pos hc]) (kt hc)
  · exact g3 hf rfl (by show some (if rf_cc x y c = true then rf_tg aux else pc + 3, st) = _; rw [if_neg hc]) (kf hc)
/-- fields -/
theorem g_gf {idx a ci k : Nat} {v : Value} (hf : cx.1 i pc = some (.getfield idx, aux)) (hs : go cx S a ci) (hl : rf_lk aux (ci : Int) = some k) (hv : rf_rd (I, L, R) (cx.2.2.1 (ci : Int) k) a k = v) (kk : gx cx d i (pc + 3) ls (v :: st) ((I, L, R), S) Q) : gx cx d i pc ls (.ref a :: st) ((I, L, R), S) Q := by
  refine g4 hf rfl rfl (st' := v :: st) (h' := ((I, L, R), S)) ?_ kk
  show (match rf_ob ((I, L, R), S) a with
    | some ci => match rf_lk aux (rf_ky cx.2.2.2.2 a ci) with
      | some k => some (rf_rd (I, L, R) (cx.2.2.1 (rf_ky cx.2.2.2.2 a ci) k) a k :: st, ((I, L, R), S))
      | none => none
    | none => none) = _
  rw [hs.ob]
  dsimp only
  rw [hs.ky, hl]
  dsimp only
  rw [hv]
theorem g_pf {idx a ci k : Nat} {v : Value} {M : rf_M} (hf : cx.1 i pc = some (.putfield idx, aux)) (hs : go cx S a ci) (hl : rf_lk aux (ci : Int) = some k) (hv : rf_wr (I, L, R) (cx.2.2.1 (ci : Int) k) a k v = some M) (kk : gx cx d i (pc + 3) ls st (M, S) Q) : gx cx d i pc ls (v :: .ref a :: st) ((I, L, R), S) Q := by
  refine g4 hf rfl rfl (st' := st) (h' := (M, S)) ?_ kk
  show (if a < cx.2.2.2.2 then none else match rf_ob ((I, L, R), S) a with
    | some ci => match rf_lk aux (ci : Int) with
      | some k => match rf_wr (I, L, R) (cx.2.2.1 (ci : Int) k) a k v with
        | some M => some (st, (M, S))
        | none => none
      | none => none
    | none => none) = _
  rw [if_neg (Nat.not_lt.mpr hs.1), hs.ob]
  dsimp only
  rw [hl]
  dsimp only
  rw [hv]
/-- arrays -/
theorem g_il {a n : Nat} {j : Int32} (hf : cx.1 i pc = some (.iaload, aux)) (hs : ga cx S a .int n) (hj : ¬ (j < 0 ∨ n ≤ j.toNatClampNeg)) (kk : gx cx d i (pc + 1) ls (.int (I a j.toNatClampNeg) :: st) ((I, L, R), S) Q) : gx cx d i pc ls (.int j :: .ref a :: st) ((I, L, R), S) Q := by
  refine g4 hf rfl rfl (st' := .int (I a j.toNatClampNeg) :: st) (h' := ((I, L, R), S)) ?_ kk
  show (match rf_el ((I, L, R), S) .int a j with | some v => some (v :: st, ((I, L, R), S)) | none => none) = _
  rw [hs.el _ hj]
  rfl
theorem g_ll {a n : Nat} {j : Int32} (hf : cx.1 i pc = some (.laload, aux)) (hs : ga cx S a .long n) (hj : ¬ (j < 0 ∨ n ≤ j.toNatClampNeg)) (kk : gx cx d i (pc + 1) ls (.long (L a j.toNatClampNeg) :: st) ((I, L, R), S) Q) : gx cx d i pc ls (.int j :: .ref a :: st) ((I, L, R), S) Q := by
  refine g4 hf rfl rfl (st' := .long (L a j.toNatClampNeg) :: st) (h' := ((I, L, R), S)) ?_ kk
  show (match rf_el ((I, L, R), S) .long a j with | some v => some (v :: st, ((I, L, R), S)) | none => none) = _
  rw [hs.el _ hj]
  rfl
theorem g_is {a n : Nat} {j x : Int32} (hf : cx.1 i pc = some (.iastore, aux)) (hs : ga cx S a .int n) (hj : ¬ (j < 0 ∨ n ≤ j.toNatClampNeg)) (kk : gx cx d i (pc + 1) ls st ((va_up I a (va_up (I a) j.toNatClampNeg x), L, R), S) Q) : gx cx d i pc ls (.int x :: .int j :: .ref a :: st) ((I, L, R), S) Q := by
  refine g4 hf rfl rfl (st' := st) (h' := ((va_up I a (va_up (I a) j.toNatClampNeg x), L, R), S)) ?_ kk
  show (if a < cx.2.2.2.2 then none else match rf_el ((I, L, R), S) .int a j with | some _ => some (st, (rf_wi (I, L, R) a j.toNatClampNeg x, S)) | none => none) = _
  rw [if_neg (Nat.not_lt.mpr hs.1), hs.el _ hj]
  rfl
theorem g_ls {a n : Nat} {j : Int32} {x : Int64} (hf : cx.1 i pc = some (.lastore, aux)) (hs : ga cx S a .long n) (hj : ¬ (j < 0 ∨ n ≤ j.toNatClampNeg)) (kk : gx cx d i (pc + 1) ls st ((I, va_up L a (va_up (L a) j.toNatClampNeg x), R), S) Q) : gx cx d i pc ls (.long x :: .int j :: .ref a :: st) ((I, L, R), S) Q := by
  refine g4 hf rfl rfl (st' := st) (h' := ((I, va_up L a (va_up (L a) j.toNatClampNeg x), R), S)) ?_ kk
  show (if a < cx.2.2.2.2 then none else match rf_el ((I, L, R), S) .long a j with | some _ => some (st, (rf_wl (I, L, R) a j.toNatClampNeg x, S)) | none => none) = _
  rw [if_neg (Nat.not_lt.mpr hs.1), hs.el _ hj]
  rfl
theorem g_ln {a n : Nat} {ty : FieldType} (hf : cx.1 i pc = some (.arraylength, aux)) (hs : ga cx S a ty n) (kk : gx cx d i (pc + 1) ls (.int (nI n) :: st) ((I, L, R), S) Q) : gx cx d i pc ls (.ref a :: st) ((I, L, R), S) Q := by
  refine g4 hf rfl rfl (st' := .int (nI n) :: st) (h' := ((I, L, R), S)) ?_ kk
  show (match rf_aa ((I, L, R), S) a with | some q => some (Value.int (nI q.2) :: st, ((I, L, R), S)) | none => none) = _
  rw [hs.aa]
end GROW
/-! a first contract, by hand: Program.has -/
theorem c_has (fz : Bool) {I : Nat → Nat → Int32} {L : Nat → Nat → Int64} {R : Nat → Nat → Option Nat} {S : gS} {a : Nat} {v : Int32} (hs : go (cx0 fz) S a 1) : gx (cx0 fz) (0, 0) 64 0 [(0, .ref a), (1, .int v)] [] ((I, L, R), S) (fun r h' => h' = ((I, L, R), S) ∧ r = some (.int (if v < 0 then 0 else if I a 0 ≤ v then 0 else 1))) := by
  refine g1 (n := 1) rfl rfl rfl rfl ?_
  refine g_if rfl (fun c1 => ?_) (fun c1 => ?_)
  · have c1 : v < 0 := of_decide_eq_true c1
    refine g1 (n := 1) rfl rfl rfl rfl ?_
    exact gx_ret rfl rfl ⟨rfl, by rw [if_pos c1]; rfl⟩
  · have c1 : ¬ v < 0 := fun z => c1 (decide_eq_true z)
    refine g1 (n := 1) rfl rfl rfl rfl ?_
    refine g1 (n := 1) rfl rfl rfl rfl ?_
    refine g_gf rfl hs rfl rfl ?_
    refine g_ic rfl (fun c2 => ?_) (fun c2 => ?_)
    · have c2 : I a 0 ≤ v := of_decide_eq_true c2
      refine g1 (n := 1) rfl rfl rfl rfl ?_
      exact gx_ret rfl rfl ⟨rfl, by rw [if_neg c1, if_pos c2]; rfl⟩
    · have c2 : ¬ I a 0 ≤ v := fun z => c2 (decide_eq_true z)
      refine g1 (n := 1) rfl rfl rfl rfl ?_
      refine g3 rfl rfl rfl ?_
      exact gx_ret rfl rfl ⟨rfl, by rw [if_neg c1, if_neg c2]; rfl⟩
theorem c_reset (fz : Bool) {I : Nat → Nat → Int32} {L : Nat → Nat → Int64} {R : Nat → Nat → Option Nat} {S : gS} {a : Nat} (hs : go (cx0 fz) S a 1) : gx (cx0 fz) (0, 0) 18 0 [(0, .ref a)] [] ((I, L, R), S) (fun r h' => r = none ∧ ∃ I', h' = ((I', L, R), S) ∧ I' a 0 = 0 ∧ ∀ b, b ≠ a → I' b = I b) := by
  refine g1 (n := 1) rfl rfl rfl rfl ?_
  refine g1 (n := 1) rfl rfl rfl rfl ?_
  refine g_pf rfl hs rfl rfl ?_
  refine g1 (n := 1) rfl rfl rfl rfl ?_
  refine g1 (n := 1) rfl rfl rfl rfl ?_
  refine g_pf rfl hs rfl rfl ?_
  refine g1 (n := 1) rfl rfl rfl rfl ?_
  refine g1 (n := 1) rfl rfl rfl rfl ?_
  refine g_pf rfl hs rfl rfl ?_
  refine g1 (n := 1) rfl rfl rfl rfl ?_
  refine g1 (n := 1) rfl rfl rfl rfl ?_
  refine g_pf rfl hs rfl rfl ?_
  refine g1 (n := 1) rfl rfl rfl rfl ?_
  refine g1 (n := 1) rfl rfl rfl rfl ?_
  refine g_pf rfl hs rfl rfl ?_
  refine gx_ret rfl rfl ⟨rfl, _, rfl, ?_, ?_⟩
  · simp [va_up]
  · intro b hb
    simp [va_up, hb]
/-! A RUN THAT NEVER LOOKS INTO CELL 1 (its shape is a poison: a class that no table names) goes the same way whatever lies there -/
def pt_M (row : Nat → Int32) (M : rf_M) : rf_M := (va_up M.1 1 row, M.2)
def pt_H (row : Nat → Int32) (sh : rf_S) (h : rf_H) : rf_H := (pt_M row h.1, va_up h.2.1 1 sh, h.2.2)
def pt_P : Nat := 999
theorem up_comm {α : Type} (f : Nat → α) {a b : Nat} (v w : α) (h : a ≠ b) : va_up (va_up f a v) b w = va_up (va_up f b w) a v := by
  funext j
  unfold va_up
  by_cases h1 : j = b
  · have h2 : ¬ j = a := fun z => h (z.symm.trans h1)
    simp [h1, h2, Ne.symm h]
  · simp [h1]
theorem pt_rd {row : Nat → Int32} {M : rf_M} {a : Nat} (ha : a ≠ 1) (ty : FieldType) (k : Nat) : rf_rd (pt_M row M) ty a k = rf_rd M ty a k := by
  cases ty <;> simp [rf_rd, pt_M, va_up, ha]
theorem pt_wi {row : Nat → Int32} {M : rf_M} {a : Nat} (ha : a ≠ 1) (k : Nat) (x : Int32) : rf_wi (pt_M row M) a k x = pt_M row (rf_wi M a k x) := by
  show (va_up (va_up M.1 1 row) a (va_up (va_up M.1 1 row a) k x), M.2.1, M.2.2) = (va_up (va_up M.1 a (va_up (M.1 a) k x)) 1 row, M.2.1, M.2.2)
  rw [up_comm M.1 _ _ ha, va_up_ne _ _ ha]
theorem pt_wl {row : Nat → Int32} {M : rf_M} {a : Nat} (k : Nat) (x : Int64) : rf_wl (pt_M row M) a k x = pt_M row (rf_wl M a k x) := rfl
theorem pt_wq {row : Nat → Int32} {M : rf_M} {a : Nat} (k : Nat) (x : Option Nat) : rf_wq (pt_M row M) a k x = pt_M row (rf_wq M a k x) := rfl
theorem pt_wr {row : Nat → Int32} {M M' : rf_M} {ty : FieldType} {a : Nat} (ha : a ≠ 1) {k : Nat} {v : Value} (h : rf_wr M ty a k v = some M') : rf_wr (pt_M row M) ty a k v = some (pt_M row M') := by
  unfold rf_wr at h ⊢
  split at h
  · cases h; simp only [pt_wi ha]
  · cases h; rfl
  · cases h; rfl
  · cases h; rfl
  · cases h; rfl
  · cases h; rfl
  · split at h
    · rename_i hc; cases h; simp only [pt_wi ha]; rw [if_pos hc]
    · cases h
  · split at h
    · rename_i hc; cases h; simp only [pt_wi ha]; rw [if_pos hc]
    · cases h
  · split at h
    · rename_i hc; cases h; simp only [pt_wi ha]; rw [if_pos hc]
    · cases h
  · split at h
    · rename_i hc; cases h; simp only [pt_wi ha]; rw [if_pos hc]
    · cases h
  · cases h
section PT
variable {row : Nat → Int32} {sh : rf_S} {h : rf_H}
theorem pt_ob {a : Nat} (ha : a ≠ 1) : rf_ob (pt_H row sh h) a = rf_ob h a := by
  unfold rf_ob
  show (if 0 < a ∧ a < h.2.2.1 then (match va_up h.2.1 1 sh a with | .inl ci => some ci | .inr _ => none) else none) = _
  rw [va_up_ne _ _ ha]
  rfl
theorem pt_aa {a : Nat} (ha : a ≠ 1) : rf_aa (pt_H row sh h) a = rf_aa h a := by
  unfold rf_aa
  show (if 0 < a ∧ a < h.2.2.1 then (match va_up h.2.1 1 sh a with | .inr q => some q | .inl _ => none) else none) = _
  rw [va_up_ne _ _ ha]
  rfl
theorem pt_ne_aa (hp : h.2.1 1 = .inl pt_P) {a : Nat} {q : FieldType × Nat} (hq : rf_aa h a = some q) : a ≠ 1 := by
  intro z
  subst z
  obtain ⟨-, -, h2⟩ := rf_aa_ok hq
  rw [hp] at h2
  cases h2
theorem pt_ne_ob (hp : h.2.1 1 = .inl pt_P) {a ci : Nat} (hq : rf_ob h a = some ci) (hc : ci ≠ pt_P) : a ≠ 1 := by
  intro z
  subst z
  obtain ⟨-, -, h2⟩ := rf_ob_ok hq
  rw [hp] at h2
  cases h2
  exact hc rfl
theorem pt_el (hp : h.2.1 1 = .inl pt_P) {ty : FieldType} {a : Nat} {j : Int32} {v : Value} (he : rf_el h ty a j = some v) : a ≠ 1 ∧ rf_el (pt_H row sh h) ty a j = some v := by
  obtain ⟨n, h1, h2, rfl⟩ := rf_el_ok he
  have ha := pt_ne_aa hp h1
  refine ⟨ha, ?_⟩
  unfold rf_el
  rw [pt_aa ha, h1]
  show (if ty = ty ∧ ¬ (j < 0 ∨ n ≤ j.toNatClampNeg) then some (rf_rd (pt_M row h.1) ty a j.toNatClampNeg) else none) = _
  rw [if_pos ⟨rfl, h2⟩, pt_rd ha]
theorem pt_nw (h22 : 1 < h.2.2.1) (s : rf_S) (N : Nat) : rf_nw (pt_H row sh h) s N = pt_H row sh (rf_nw h s N) := by
  have hne : h.2.2.1 ≠ 1 := by omega
  unfold rf_nw pt_H pt_M
  show ((va_up (va_up h.1.1 1 row) h.2.2.1 (fun _ => 0), va_up h.1.2.1 h.2.2.1 (fun _ => 0), va_up h.1.2.2 h.2.2.1 (fun _ => none)), va_up (va_up h.2.1 1 sh) h.2.2.1 s, h.2.2.1 + 1, h.2.2.2 + N) = _
  rw [up_comm h.1.1 _ _ (Ne.symm hne), up_comm h.2.1 _ _ (Ne.symm hne)]
theorem pt_elq {a : Nat} (ha : a ≠ 1) (ty : FieldType) (j : Int32) : rf_el (pt_H row sh h) ty a j = rf_el h ty a j := by
  unfold rf_el
  rw [pt_aa ha]
  cases rf_aa h a with
  | none => rfl
  | some q =>
    show (if q.1 = ty ∧ ¬ (j < 0 ∨ q.2 ≤ j.toNatClampNeg) then some (rf_rd (pt_M row h.1) ty a j.toNatClampNeg) else none) = _
    rw [pt_rd ha]
theorem pt_sh (hn : 1 < h.2.2.1) (hp : h.2.1 1 = .inl pt_P) (s : rf_S) (N : Nat) : (rf_nw h s N).2.1 1 = .inl pt_P ∧ 1 < (rf_nw h s N).2.2.1 := by
  refine ⟨?_, by show 1 < h.2.2.1 + 1; omega⟩
  show va_up h.2.1 h.2.2.1 s 1 = _
  rw [va_up_ne _ _ (by omega)]
  exact hp
/-- no table names the poison -/
def pt_no (cx : rf_C) : Prop := 1 < cx.2.2.2.2 ∧ ∀ (i pc : Nat) (I : rf_I), cx.1 i pc = some I → ∀ q ∈ I.2, q.1 ≠ rf_ky cx.2.2.2.2 1 pt_P ∧ q.1 ≠ (pt_P : Int)
set_option maxHeartbeats 4000000 in
theorem pt_hp {cx : rf_C} {I : Instr} {aux : List (Int × Nat)} (h1 : 1 < cx.2.2.2.2) (hno : ∀ q ∈ aux, q.1 ≠ rf_ky cx.2.2.2.2 1 pt_P ∧ q.1 ≠ (pt_P : Int)) (hp : h.2.1 1 = .inl pt_P) (hn : 1 < h.2.2.1) {st : List Value} {q' : List Value × rf_H} (he : rf_hp cx I aux st h = some q') : rf_hp cx I aux st (pt_H row sh h) = some (q'.1, pt_H row sh q'.2) ∧ q'.2.2.1 1 = .inl pt_P ∧ 1 < q'.2.2.2.1 := by
  have key : ∀ {a ci k : Nat}, rf_ob h a = some ci → rf_lk aux (rf_ky cx.2.2.2.2 a ci) = some k → a ≠ 1 := by
    intro a ci k h2 h3 z
    subst z
    obtain ⟨-, -, h4⟩ := rf_ob_ok h2
    rw [hp] at h4
    cases h4
    exact (hno _ (rf_lk_ok h3)).1 rfl
  have keyw : ∀ {a : Nat}, ¬ a < cx.2.2.2.2 → a ≠ 1 := fun z1 z2 => z1 (by rw [z2]; exact h1)
  unfold rf_hp at he ⊢
  split at he
  · split at he
    · rename_i ci hob
      split at he
      · rename_i k hlk
        cases he
        have ha := key hob hlk
        refine ⟨?_, hp, hn⟩
        dsimp only
        rw [pt_ob ha, hob]
        dsimp only
        rw [hlk]
        dsimp only
        exact congrArg (fun z => some (z :: _, pt_H row sh h)) (pt_rd ha _ _)
      · cases he
    · cases he
  · split at he
    · cases he
    · rename_i hlt
      have ha := keyw hlt
      split at he
      · rename_i ci hob
        split at he
        · rename_i k hlk
          split at he
          · rename_i M hwr
            cases he
            refine ⟨?_, hp, hn⟩
            dsimp only
            rw [if_neg hlt, pt_ob ha, hob]
            dsimp only
            rw [hlk]
            dsimp only
            have hw2 := pt_wr (row := row) ha hwr
            show (match rf_wr (pt_M row h.1) _ _ _ _ with | some M => some (_, (M, (pt_H row sh h).2)) | none => none) = _
            rw [hw2]
            rfl
          · cases he
        · cases he
      · cases he
  · split at he
    · rename_i v hv
      cases he
      have ha := (pt_el (row := row) (sh := sh) hp hv).1
      refine ⟨?_, hp, hn⟩
      dsimp only
      rw [pt_elq ha, hv]
    · cases he
  · split at he
    · rename_i v hv
      cases he
      have ha := (pt_el (row := row) (sh := sh) hp hv).1
      refine ⟨?_, hp, hn⟩
      dsimp only
      rw [pt_elq ha, hv]
    · cases he
  · split at he
    · rename_i v hv
      cases he
      have ha := (pt_el (row := row) (sh := sh) hp hv).1
      refine ⟨?_, hp, hn⟩
      dsimp only
      rw [pt_elq ha, hv]
    · rename_i hv0
      split at he
      · rename_i v hv
        cases he
        have ha := (pt_el (row := row) (sh := sh) hp hv).1
        refine ⟨?_, hp, hn⟩
        dsimp only
        rw [pt_elq ha, hv0]
        dsimp only
        rw [pt_elq ha, hv]
      · cases he
  · split at he
    · rename_i v hv
      cases he
      have ha := (pt_el (row := row) (sh := sh) hp hv).1
      refine ⟨?_, hp, hn⟩
      dsimp only
      rw [pt_elq ha, hv]
    · cases he
  · split at he
    · rename_i v hv
      cases he
      have ha := (pt_el (row := row) (sh := sh) hp hv).1
      refine ⟨?_, hp, hn⟩
      dsimp only
      rw [pt_elq ha, hv]
    · cases he
  · split at he
    · rename_i haa
      split at he
      · rename_i v hv
        cases he
        have ha := (pt_el (row := row) (sh := sh) hp hv).1
        refine ⟨?_, hp, hn⟩
        dsimp only
        rw [pt_aa ha, haa]
        dsimp only
        rw [pt_elq ha, hv]
      · cases he
    · rename_i haa
      split at he
      · rename_i v hv
        cases he
        have ha := (pt_el (row := row) (sh := sh) hp hv).1
        refine ⟨?_, hp, hn⟩
        dsimp only
        rw [pt_aa ha, haa]
        dsimp only
        rw [pt_elq ha, hv]
      · cases he
    · cases he
  · split at he
    · cases he
    · rename_i hlt
      have ha := keyw hlt
      split at he
      · rename_i v hv
        cases he
        refine ⟨?_, hp, hn⟩
        dsimp only
        rw [if_neg hlt, pt_elq ha, hv]
        exact congrArg (fun z : rf_M => some (_, (z, (pt_H row sh h).2))) (pt_wi ha _ _)
      · cases he
  · split at he
    · cases he
    · rename_i hlt
      have ha := keyw hlt
      split at he
      · rename_i v hv
        cases he
        refine ⟨?_, hp, hn⟩
        dsimp only
        rw [if_neg hlt, pt_elq ha, hv]
        exact congrArg (fun z : rf_M => some (_, (z, (pt_H row sh h).2))) (pt_wl _ _)
      · cases he
  · split at he
    · cases he
    · rename_i hlt
      have ha := keyw hlt
      split at he
      · rename_i v hv
        cases he
        refine ⟨?_, hp, hn⟩
        dsimp only
        rw [if_neg hlt, pt_elq ha, hv]
        exact congrArg (fun z : rf_M => some (_, (z, (pt_H row sh h).2))) (pt_wi ha _ _)
      · rename_i hv0
        split at he
        · rename_i v hv
          cases he
          refine ⟨?_, hp, hn⟩
          dsimp only
          rw [if_neg hlt, pt_elq ha, hv0]
          dsimp only
          rw [pt_elq ha, hv]
          exact congrArg (fun z : rf_M => some (_, (z, (pt_H row sh h).2))) (pt_wi ha _ _)
        · cases he
  · split at he
    · cases he
    · rename_i hlt
      have ha := keyw hlt
      split at he
      · rename_i v hv
        cases he
        refine ⟨?_, hp, hn⟩
        dsimp only
        rw [if_neg hlt, pt_elq ha, hv]
        exact congrArg (fun z : rf_M => some (_, (z, (pt_H row sh h).2))) (pt_wi ha _ _)
      · cases he
  · split at he
    · cases he
    · rename_i hlt
      have ha := keyw (fun z => hlt (Or.inl z))
      have hb := keyw (fun z => hlt (Or.inr z))
      split at he
      · rename_i haa hob
        split at he
        · rename_i hc
          cases he
          refine ⟨?_, hp, hn⟩
          dsimp only
          rw [if_neg hlt, pt_aa ha, pt_ob hb, haa, hob]
          dsimp only
          rw [if_pos hc]
          rfl
        · cases he
      · cases he
  · split at he
    · cases he
    · rename_i hlt
      have ha := keyw hlt
      split at he
      · rename_i haa
        split at he
        · rename_i hc
          cases he
          refine ⟨?_, hp, hn⟩
          dsimp only
          rw [if_neg hlt, pt_aa ha, haa]
          dsimp only
          rw [if_pos hc]
          rfl
        · cases he
      · cases he
  · split at he
    · rename_i q hq
      cases he
      have ha := pt_ne_aa hp hq
      refine ⟨?_, hp, hn⟩
      dsimp only
      rw [pt_aa ha, hq]
    · cases he
  · split at he
    · split at he
      · rename_i q hq
        cases he
        obtain ⟨z1, z2⟩ := pt_sh hn hp _ _
        refine ⟨?_, z1, z2⟩
        dsimp only
        rw [pt_nw hn]
        rfl
      · cases he
    · cases he
  · split at he
    · rename_i hc
      cases he
      obtain ⟨z1, z2⟩ := pt_sh hn hp _ _
      refine ⟨?_, z1, z2⟩
      dsimp only
      rw [if_pos hc, pt_nw hn]
      rfl
    · cases he
  · split at he
    · split at he
      · rename_i q hq
        split at he
        · rename_i hc
          cases he
          obtain ⟨z1, z2⟩ := pt_sh hn hp _ _
          refine ⟨?_, z1, z2⟩
          dsimp only
          rw [if_pos hc, pt_nw hn]
          rfl
        · cases he
      · cases he
    · cases he
  · cases he
set_option maxHeartbeats 4000000 in
theorem pt_bi {cx : rf_C} {kd : Int} {d : Nat × Nat} (h1 : 1 < cx.2.2.2.2) (hp : h.2.1 1 = .inl pt_P) (hn : 1 < h.2.2.1) {st : List Value} {q' : List Value × rf_H} (he : rf_bi cx kd d st h = some q') : rf_bi cx kd d st (pt_H row sh h) = some (q'.1, pt_H row sh q'.2) ∧ q'.2.2.1 1 = .inl pt_P ∧ 1 < q'.2.2.2.1 := by
  have keyw : ∀ {a : Nat}, ¬ a < cx.2.2.2.2 → a ≠ 1 := fun z1 z2 => z1 (by rw [z2]; exact h1)
  unfold rf_bi at he ⊢
  split at he
  · rename_i hk
    rw [if_pos hk]
    split at he
    · split at he
      · rename_i h8
        cases he
        refine ⟨?_, hp, hn⟩
        rw [if_pos h8]
      · cases he
    · cases he
  · rename_i hk
    rw [if_neg hk]
    split at he
    · rename_i hk
      rw [if_pos hk]
      split at he
      · split at he
        · rename_i h8
          have ha := keyw h8.2.1
          have hb := keyw h8.2.2.1
          rw [if_pos h8, pt_aa ha, pt_aa hb]
          split at he
          · rename_i e1 e2
            split at he
            · rename_i hc
              cases he
              refine ⟨?_, hp, hn⟩
              rw [if_pos hc]
              refine congrArg (fun z : rf_M => some (_, (z, (pt_H row sh h).2))) ?_
              show (va_up (va_up h.1.1 1 row) _ (va_cpy (va_up h.1.1 1 row _) (va_up h.1.1 1 row _) _ _ _), h.1.2.1, h.1.2.2) = (va_up (va_up h.1.1 _ _) 1 row, h.1.2.1, h.1.2.2)
              rw [va_up_ne _ _ ha, va_up_ne _ _ hb, up_comm h.1.1 _ _ ha]
            · cases he
          · rename_i e1 e2
            split at he
            · rename_i hc
              cases he
              refine ⟨?_, hp, hn⟩
              rw [if_pos hc]
              rfl
            · cases he
          · cases he
        · cases he
      · cases he
    · rename_i hk
      rw [if_neg hk]
      split at he
      · rename_i hk
        rw [if_pos hk]
        split at he
        · split at he
          · rename_i h8
            cases he
            refine ⟨?_, hp, hn⟩
            rw [if_pos h8]
          · cases he
        · cases he
      · rename_i hk
        rw [if_neg hk]
        split at he
        · rename_i hk
          rw [if_pos hk]
          split at he
          · split at he
            · rename_i h8
              cases he
              refine ⟨?_, hp, hn⟩
              rw [if_pos h8]
            · cases he
          · cases he
        · cases he
theorem pt_ca {cx : rf_C} {I : Instr} {aux : List (Int × Nat)} (hno : ∀ q ∈ aux, q.1 ≠ rf_ky cx.2.2.2.2 1 pt_P ∧ q.1 ≠ (pt_P : Int)) (hp : h.2.1 1 = .inl pt_P) {st : List Value} {q : Nat × List Value × List Value} (he : rf_ca cx I aux st h = some q) : rf_ca cx I aux st (pt_H row sh h) = some q := by
  unfold rf_ca at he ⊢
  split at he
  · rename_i q0 tg
    split at he
    · rename_i a r heq
      split at he
      · rename_i ci hob
        split at he
        · rename_i j hlk
          have ha : a ≠ 1 := fun z => by
            subst z
            obtain ⟨-, -, h4⟩ := rf_ob_ok hob
            rw [hp] at h4
            cases h4
            exact (hno _ (List.mem_cons_of_mem _ (rf_lk_ok hlk))).1 rfl
          rw [pt_ob ha, hob]
          dsimp only
          rw [hlk]
          exact he
        · cases he
      · cases he
    · exact he
    · exact he
    · cases he
  · cases he
set_option maxHeartbeats 4000000 in
theorem pt_ev {cx : rf_C} (hno : pt_no cx) : ∀ (n : Nat) (d : Nat × Nat) (i pc : Nat) (ls : rf_L) (st : List Value) (h : rf_H) (r : Option Value) (hF : rf_H), h.2.1 1 = .inl pt_P → 1 < h.2.2.1 → rf_ev cx n d i pc ls st h = some (r, hF) → rf_ev cx n d i pc ls st (pt_H row sh h) = some (r, pt_H row sh hF) ∧ hF.2.1 1 = .inl pt_P ∧ 1 < hF.2.2.1 := by
  intro n
  induction n with
  | zero =>
    intro d i pc ls st h r hF hp hn he
    unfold rf_ev at he
    cases he
  | succ n ih =>
    intro d i pc ls st h r hF hp hn he
    unfold rf_ev at he ⊢
    cases hf : cx.1 i pc with
    | none => rw [hf] at he; cases he
    | some I =>
      have hno2 := hno.2 i pc I hf
      rw [hf] at he
      dsimp only at he ⊢
      cases hx : rf_ex cx d i pc I ls st h with
      | none => rw [hx] at he; cases he
      | some o =>
        rw [hx] at he
        unfold rf_ex at hx
        rcases o with q | q | v
        · have hnx : ∃ h', q.2.2.2 = h' ∧ rf_ex cx d i pc I ls st (pt_H row sh h) = some (.inl (q.1, q.2.1, q.2.2.1, pt_H row sh h')) ∧ h'.2.1 1 = .inl pt_P ∧ 1 < h'.2.2.1 := by
            unfold rf_ex
            split at hx
            · obtain ⟨x, q1, q2⟩ := Option.map_eq_some_iff.mp hx
              have q2 := Sum.inl.inj q2; subst q2
              exact ⟨h, rfl, by rw [q1]; rfl, hp, hn⟩
            · obtain ⟨x, q1, q2⟩ := Option.map_eq_some_iff.mp hx
              have q2 := Sum.inl.inj q2; subst q2
              exact ⟨h, rfl, by rw [q1]; rfl, hp, hn⟩
            · obtain ⟨x, q1, q2⟩ := Option.map_eq_some_iff.mp hx
              have q2 := Sum.inl.inj q2; subst q2
              exact ⟨h, rfl, by rw [q1]; rfl, hp, hn⟩
            · obtain ⟨x, q1, q2⟩ := Option.map_eq_some_iff.mp hx
              have q2 := Sum.inl.inj q2; subst q2
              exact ⟨h, rfl, by rw [q1]; rfl, hp, hn⟩
            · obtain ⟨x, q1, q2⟩ := Option.map_eq_some_iff.mp hx
              have q2 := Sum.inl.inj q2; subst q2
              obtain ⟨z1, z2, z3⟩ := pt_hp (row := row) (sh := sh) hno.1 hno2 hp hn q1
              exact ⟨x.2, rfl, by rw [z1]; rfl, z2, z3⟩
            · split at hx
              · rename_i hk
                obtain ⟨x, q1, q2⟩ := Option.map_eq_some_iff.mp hx
                have q2 := Sum.inl.inj q2; subst q2
                obtain ⟨z1, z2, z3⟩ := pt_bi (row := row) (sh := sh) hno.1 hp hn q1
                exact ⟨x.2, rfl, by rw [if_pos hk, z1]; rfl, z2, z3⟩
              · obtain ⟨x, q1, q2⟩ := Option.map_eq_some_iff.mp hx
                cases q2
            · obtain ⟨x, q1, q2⟩ := Option.map_eq_some_iff.mp hx
              cases q2
            · obtain ⟨x, q1, q2⟩ := Option.map_eq_some_iff.mp hx
              have q2 := Sum.inl.inj q2; subst q2
              exact ⟨h, rfl, by rw [q1]; rfl, hp, hn⟩
            · cases hx
          obtain ⟨h', e1, e2, e3, e4⟩ := hnx
          rw [e2]
          dsimp only at he ⊢
          rw [e1] at he
          exact ih _ _ _ _ _ _ _ _ e3 e4 he
        · have hnx : rf_ex cx d i pc I ls st (pt_H row sh h) = some (.inr (.inl q)) := by
            unfold rf_ex
            split at hx
            all_goals first
              | (obtain ⟨x, q1, q2⟩ := Option.map_eq_some_iff.mp hx; cases q2; done)
              | (cases hx; done)
              | skip
            split at hx
            · obtain ⟨x, q1, q2⟩ := Option.map_eq_some_iff.mp hx
              cases q2
            · rename_i hk
              obtain ⟨x, q1, q2⟩ := Option.map_eq_some_iff.mp hx
              rw [if_neg hk, pt_ca hno2 hp q1, Option.map_some, q2]
          rw [hnx]
          dsimp only at he ⊢
          split at he
          · rename_i hc
            rw [if_pos hc]
            cases hcal : rf_ev cx n (d.1 - 1, d.2 - ((cx.2.1 q.1).2.2.1 + 19)) q.1 0 (lv_args 0 q.2.1) [] h with
            | none => rw [hcal] at he; cases he
            | some rr =>
              rw [hcal] at he
              obtain ⟨z1, z2, z3⟩ := ih _ _ _ _ _ _ rr.1 rr.2 hp hn hcal
              rw [z1]
              exact ih _ _ _ _ _ _ _ _ z2 z3 he
          · cases he
        · have hnx : rf_ex cx d i pc I ls st (pt_H row sh h) = some (.inr (.inr v)) := by
            unfold rf_ex
            split at hx
            all_goals first
              | (obtain ⟨x, q1, q2⟩ := Option.map_eq_some_iff.mp hx; cases q2; done)
              | (cases hx; done)
              | skip
            · split at hx
              · obtain ⟨x, q1, q2⟩ := Option.map_eq_some_iff.mp hx
                cases q2
              · obtain ⟨x, q1, q2⟩ := Option.map_eq_some_iff.mp hx
                cases q2
            · exact hx
          rw [hnx]
          dsimp only at he ⊢
          cases he
          exact ⟨rfl, hp, hn⟩
end PT
/-! THE TWO CONSTRUCTORS, by the kernel, over a heap whose script cell is a poison -/
def ml_no (e : rf_E1) : Bool := e.2.2.all (fun q => q.2.1.2.all (fun z => !(z.1 == -1000) && !(z.1 == 999)))
theorem ml0_no (fz : Bool) : (ml0 fz).all ml_no = true := by cases fz <;> decide +kernel
theorem cx0_no (fz : Bool) : pt_no (cx0 fz) := by
  refine ⟨show 1 < 22 from Nat.le_of_ble_eq_true rfl, fun i pc I h q hq => ?_⟩
  have h0 : (((ml0 fz).getD i rf_dm).2.2.find? (fun q => q.1 == pc)).map (fun q => q.2.1) = some I := h
  obtain ⟨e, he, heI⟩ := Option.map_eq_some_iff.mp h0
  have hmem := List.mem_of_find?_eq_some he
  have hi : i < (ml0 fz).length := by
    rcases Nat.lt_or_ge i (ml0 fz).length with z | z
    · exact z
    · have h9 : (ml0 fz).getD i rf_dm = rf_dm := by simp [List.getD_eq_getElem?_getD, List.getElem?_eq_none z]
      rw [h9] at hmem
      cases hmem
  have hin : (ml0 fz).getD i rf_dm ∈ ml0 fz := by
    rw [List.getD_eq_getElem?_getD, List.getElem?_eq_getElem hi]
    exact List.getElem_mem hi
  have h1 := List.all_eq_true.mp (ml0_no fz) _ hin
  have h2 := List.all_eq_true.mp h1 _ hmem
  have h3 := List.all_eq_true.mp h2 q (by rw [heI]; exact hq)
  simp only [Bool.and_eq_true, Bool.not_eq_true', beq_eq_false_iff_ne] at h3
  exact ⟨h3.1, h3.2⟩
def hPo : rf_H := (h0M (fun _ => 0), va_up (h0S 0) 1 (.inl pt_P), 22, 0)
theorem hPo_pt (L : Nat) (xs : Nat → Int32) : pt_H xs (.inr (.int, L)) hPo = h00 L xs := by
  have e1 : va_up (h0M (fun _ => 0)).1 1 xs = (h0M xs).1 := by
    funext a
    unfold va_up
    by_cases ha : a = 1
    · rw [if_pos ha]; funext j; simp [h0M, ha]
    · rw [if_neg ha]; funext j; simp [h0M, ha]
  have e2 : va_up (va_up (h0S 0) 1 (.inl pt_P)) 1 (.inr (.int, L)) = h0S L := by
    funext a
    unfold va_up
    by_cases ha : a = 1
    · rw [if_pos ha]; simp [h0S, ha]
    · rw [if_neg ha, if_neg ha]; simp [h0S, ha]
  show ((va_up (h0M (fun _ => 0)).1 1 xs, _), va_up (va_up (h0S 0) 1 (.inl pt_P)) 1 (.inr (.int, L)), 22, 0) = h00 L xs
  rw [e1, e2]
  rfl
def K1r (fz : Bool) : Option (Option Value × rf_H) := rf_ev (cx0 fz) 3000 (2000, 80000) 1 0 [(0, .ref 22)] [] (rf_nw hPo (.inl 0) 10)
def K1 (fz : Bool) : rf_H := ((K1r fz).getD (none, hPo)).2
theorem K1_ok (fz : Bool) : (K1r fz).map (fun q => (q.1, q.2.2.2.1, q.2.2.2.2)) = some (none, 353, (K1 fz).2.2.2) ∧ (K1 fz).2.2.1 = 353 := by cases fz <;> decide +kernel
theorem K1_eq (fz : Bool) : K1r fz = some (none, K1 fz) := by
  have h := (K1_ok fz).1
  unfold K1
  cases hk : K1r fz with
  | none => rw [hk] at h; cases h
  | some q =>
    rw [hk] at h
    have h2 : q.1 = none := (Prod.mk.inj (Option.some.inj h)).1
    obtain ⟨q1, q2⟩ := q
    dsimp only at h2
    subst h2
    rfl
def K2r (fz : Bool) : Option (Option Value × rf_H) := rf_ev (cx0 fz) 3000 (2000, 80000) 127 0 [(0, .ref 353)] [] (rf_nw (K1 fz) (.inl 11) 76)
def K2 (fz : Bool) : rf_H := ((K2r fz).getD (none, hPo)).2
theorem K2_ok (fz : Bool) : (K2r fz).map (fun q => (q.1, q.2.2.2.1, q.2.2.2.2)) = some (none, 406, 49191) := by cases fz <;> decide +kernel
theorem K2_eq (fz : Bool) : K2r fz = some (none, K2 fz) := by
  have h := K2_ok fz
  unfold K2
  cases hk : K2r fz with
  | none => rw [hk] at h; cases h
  | some q =>
    rw [hk] at h
    have h2 : q.1 = none := (Prod.mk.inj (Option.some.inj h)).1
    obtain ⟨q1, q2⟩ := q
    dsimp only at h2
    subst h2
    rfl
/-- the heap behind the two constructors, with the script in it -/
def HK (fz : Bool) (L : Nat) (xs : Nat → Int32) : rf_H := pt_H xs (.inr (.int, L)) (K2 fz)
theorem pt_new {row : Nat → Int32} {sh : rf_S} {h : rf_H} (hn : 1 < h.2.2.1) (s : rf_S) (N : Nat) : pt_H row sh (rf_nw h s N) = rf_nw (pt_H row sh h) s N := (pt_nw hn s N).symm
theorem pt_n (row : Nat → Int32) (sh : rf_S) (h : rf_H) : (pt_H row sh h).2.2.1 = h.2.2.1 := rfl
set_option maxHeartbeats 4000000 in
/-- the law, from its entry up to its loop -/
theorem law_made (fz : Bool) (L : Nat) (xs : Nat → Int32) {Q : Option Value → rf_H → Prop} (k : gx (cx0 fz) (2048, 84000) 0 16 [(2, .ref 353), (1, .ref 22), (0, .ref 1)] [] (HK fz L xs) Q) : gx (cx0 fz) (2048, 84000) 0 0 [(0, .ref 1)] [] (h00 L xs) Q := by
  have hp0 : hPo.2.1 1 = .inl pt_P := va_up_self (h0S 0) 1 (.inl pt_P)
  have hn0 : 1 < hPo.2.2.1 := show 1 < 22 from Nat.le_of_ble_eq_true rfl
  obtain ⟨p1, n1⟩ := pt_sh hn0 hp0 (.inl 0) 10
  obtain ⟨r1, p2, n2⟩ := pt_ev (row := xs) (sh := .inr (.int, L)) (cx0_no fz) _ _ _ _ _ _ _ none (K1 fz) p1 n1 (K1_eq fz)
  obtain ⟨p3, n3⟩ := pt_sh n2 p2 (.inl 11) 76
  obtain ⟨r2, p4, n4⟩ := pt_ev (row := xs) (sh := .inr (.int, L)) (cx0_no fz) _ _ _ _ _ _ _ none (K2 fz) p3 n3 (K2_eq fz)
  rw [pt_new hn0, hPo_pt] at r1
  rw [pt_new n2] at r2
  refine g4 (n := 3) (st' := [.ref 22]) (h' := rf_nw (h00 L xs) (.inl 0) 10) rfl rfl rfl rfl ?_
  refine g0 rfl rfl rfl ?_
  refine gx_call (j := 1) (as := [.ref 22]) (rest := [.ref 22]) rfl rfl ⟨Nat.le_of_ble_eq_true rfl, Nat.le_of_ble_eq_true rfl, Nat.le_of_ble_eq_true rfl⟩ ?_
  refine gx_room (d := (2000, 80000)) ⟨_, _, _, r1, ?_⟩ (Nat.le_of_ble_eq_true rfl) (Nat.le_of_ble_eq_true rfl)
  have hc : (pt_H xs (.inr (.int, L)) (K1 fz)).2.2.1 = 353 := (pt_n xs (.inr (.int, L)) (K1 fz)).trans (K1_ok fz).2
  generalize pt_H xs (.inr (.int, L)) (K1 fz) = hk1 at hc r2 ⊢
  refine g2 (n := 1) rfl rfl rfl rfl ?_
  refine g4 (n := 3) (st' := [.ref 353]) (h' := rf_nw hk1 (.inl 11) 76) rfl rfl rfl ?_ ?_
  · show some ([Value.ref hk1.2.2.1], rf_nw hk1 (.inl 11) 76) = _
    rw [hc]
  refine g0 rfl rfl rfl ?_
  refine gx_call (j := 127) (as := [.ref 353]) (rest := [.ref 353]) rfl rfl ⟨Nat.le_of_ble_eq_true rfl, Nat.le_of_ble_eq_true rfl, Nat.le_of_ble_eq_true rfl⟩ ?_
  refine gx_room (d := (2000, 80000)) ⟨_, _, _, r2, ?_⟩ (Nat.le_of_ble_eq_true rfl) (Nat.le_of_ble_eq_true rfl)
  refine g2 (n := 1) rfl rfl rfl rfl ?_
  exact k
