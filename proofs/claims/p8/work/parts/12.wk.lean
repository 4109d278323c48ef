/-! LINKS, kind by kind -/
theorem rf_mck_cg {nmO : Nat → String} {lk lk' : Nat → List (Bool × rf_I)} {e : rf_E1} (h : lk e.2.1 = lk' e.2.1) (hc : rf_mck nmO lk' e = true) : rf_mck nmO lk e = true := by
  unfold rf_mck at hc ⊢
  rw [h]
  exact hc
section WK
variable {cx : rf_C} {ocl : List vw_C} {tb sp : List Cond} {str : List (String × Nat × String × Nat)} {stt : List (String × String × String × Value)} {own nm : String}
theorem mem1 {α : Type} {a : α} {P : α → Prop} (h : P a) : ∀ q ∈ [a], P q := fun q hq => by rw [List.mem_singleton.mp hq]; exact h
theorem mem2 {α : Type} {a b : α} {P : α → Prop} (h : P a) (h2 : P b) : ∀ q ∈ [a, b], P q := fun q hq => by
  rcases List.mem_cons.mp hq with z | z
  · rw [z]; exact h
  · rw [List.mem_singleton.mp z]; exact h2
theorem wk_gf {idx ci k : Nat} {r : vw_C} (hr : cx.2.2.2.1[ci]? = some r) (hg : rf_wg tb own idx r k) : rf_wk cx ocl tb sp str stt own nm (.getfield idx, [((ci : Int), k)]) :=
  show ∀ q ∈ [((ci : Int), k)], _ from mem1 ⟨fun _ => ⟨r, hr, hg⟩, fun z => absurd z (by simp only; omega)⟩
theorem wk_gf2 {idx ci k ci2 k2 : Nat} {r r2 : vw_C} (hr : cx.2.2.2.1[ci]? = some r) (hg : rf_wg tb own idx r k) (hr2 : cx.2.2.2.1[ci2]? = some r2) (hg2 : rf_wg tb own idx r2 k2) : rf_wk cx ocl tb sp str stt own nm (.getfield idx, [((ci : Int), k), ((ci2 : Int), k2)]) :=
  show ∀ q ∈ [((ci : Int), k), ((ci2 : Int), k2)], _ from mem2 ⟨fun _ => ⟨r, hr, hg⟩, fun z => absurd z (by simp only; omega)⟩ ⟨fun _ => ⟨r2, hr2, hg2⟩, fun z => absurd z (by simp only; omega)⟩
theorem wk_gfo {idx k : Nat} {r : vw_C} (hr : ocl[0]? = some r) (hg : rf_wg tb own idx r k) : rf_wk cx ocl tb sp str stt own nm (.getfield idx, [(-1, k)]) :=
  show ∀ q ∈ [((-1 : Int), k)], _ from mem1 ⟨fun z => absurd z (by simp), fun _ => ⟨r, hr, hg⟩⟩
theorem wk_pf {idx ci k : Nat} {r : vw_C} (hr : cx.2.2.2.1[ci]? = some r) (hg : rf_wg tb own idx r k) (hf : (r.2.1 k).2.2.2 = false) : rf_wk cx ocl tb sp str stt own nm (.putfield idx, [((ci : Int), k)]) :=
  show ∀ q ∈ [((ci : Int), k)], _ from mem1 (fun _ => ⟨r, hr, hg, Or.inl hf⟩)
theorem wk_pff {idx ci k : Nat} {r : vw_C} (hr : cx.2.2.2.1[ci]? = some r) (hg : rf_wg tb own idx r k) (hf : (r.2.1 k).2.2.2 = true) (hn : nm = "<init>") (ho : (r.2.1 k).1 = own) : rf_wk cx ocl tb sp str stt own nm (.putfield idx, [((ci : Int), k)]) :=
  show ∀ q ∈ [((ci : Int), k)], _ from mem1 (fun _ => ⟨r, hr, hg, Or.inr ⟨hf, hn, ho⟩⟩)
theorem wk_new {idx ci : Nat} {r : vw_C} (hr : cx.2.2.2.1[ci]? = some r) (h1 : Cond.classLink own idx r.1 ∈ tb) (h2 : Cond.instantiable r.1 r.2.2 ∈ tb) (h3 : Cond.initialized r.1 ∈ tb) : rf_wk cx ocl tb sp str stt own nm (.new idx, [(0, ci)]) :=
  show ∀ q ∈ [((0 : Int), ci)], _ from mem1 (fun r' hr' => by cases hr.symm.trans hr'; exact ⟨h1, h2, h3⟩)
theorem wk_newa {t : ArrayType} (h : Cond.arrayClass (newarray.typeOf t) ∈ tb) : rf_wk cx ocl tb sp str stt own nm (.newarray t, []) := h
theorem wk_anew {idx ci : Nat} {r : vw_C} (hr : cx.2.2.2.1[ci]? = some r) (h1 : Cond.classLink own idx r.1 ∈ tb) (h2 : Cond.arrayOver (.object r.1) ∈ sp) : rf_wk cx ocl tb sp str stt own nm (.anewarray idx, [(0, ci)]) :=
  show ∀ q ∈ [((0 : Int), ci)], _ from mem1 (fun r' hr' => by cases hr.symm.trans hr'; exact ⟨h1, h2⟩)
theorem mo_of {np j mL : Nat} {y : MethodName} {b : ByteArray} {rt : Option FieldType} (h : cx.2.1 j = (y, b, mL, rt)) (h1 : Cond.code y b mL rt ∈ tb) (h2 : plainName y.cls = true) (h3 : y.cls ≠ "java/lang/invoke/MethodHandle" ∧ y.cls ≠ "java/lang/invoke/VarHandle") (h4 : (parseMethodDescriptor y.desc).map (fun d => d.parameters.length) = some np) (h5 : Cond.initialized y.cls ∈ tb) : rf_mo cx tb np j := by
  unfold rf_mo
  rw [h]
  exact ⟨h1, h2, h3, h4, h5⟩
theorem wk_iv {idx np ci j mL : Nat} {y : MethodName} {b : ByteArray} {rt : Option FieldType} {r : vw_C} (hr : cx.2.2.2.1[ci]? = some r) (h : cx.2.1 j = (y, b, mL, rt)) (hm : rf_mo cx tb np j) (h1 : Cond.instanceMethod y ∈ tb) (h2 : Cond.methodLink own idx y ∈ tb) (h3 : Cond.selects r.1 y y ∈ tb) : rf_wk cx ocl tb sp str stt own nm (.invokevirtual idx, [(0, np), ((ci : Int), j)]) :=
  show ∀ q ∈ [((ci : Int), j)], _ from mem1 ⟨hm, by rw [h]; exact h1, r.1, by unfold rf_nm; rw [if_pos (by simp only; omega)]; simp [hr], Or.inl ⟨by rw [h]; exact h2, by rw [h]; exact h3⟩⟩
theorem wk_ivo {idx np j mL : Nat} {y : MethodName} {b : ByteArray} {rt : Option FieldType} {r : vw_C} (hr : ocl[0]? = some r) (h : cx.2.1 j = (y, b, mL, rt)) (hm : rf_mo cx tb np j) (h1 : Cond.instanceMethod y ∈ tb) (h2 : Cond.methodLink own idx y ∈ tb) (h3 : Cond.selects r.1 y y ∈ tb) : rf_wk cx ocl tb sp str stt own nm (.invokevirtual idx, [(0, np), (-1, j)]) :=
  show ∀ q ∈ [((-1 : Int), j)], _ from mem1 ⟨hm, by rw [h]; exact h1, r.1, by unfold rf_nm; rw [if_neg (by simp)]; simp [hr], Or.inl ⟨by rw [h]; exact h2, by rw [h]; exact h3⟩⟩
/-- an abstract method, two classes that have it -/
theorem wk_iva {idx np ci j mL ci2 j2 mL2 : Nat} {x y y2 : MethodName} {owner : String} {b b2 : ByteArray} {rt rt2 : Option FieldType} {r r2 : vw_C} (hl : Cond.methodLink own idx x ∈ tb) (hs : Cond.sameMethod x.cls owner x.name x.desc ∈ tb) (ho : owner ≠ "java/lang/invoke/MethodHandle" ∧ owner ≠ "java/lang/invoke/VarHandle") (hd : Cond.declares ⟨owner, x.name, x.desc⟩ ∈ sp)
    (hr : cx.2.2.2.1[ci]? = some r) (h : cx.2.1 j = (y, b, mL, rt)) (hm : rf_mo cx tb np j) (h1 : Cond.instanceMethod y ∈ tb) (h3 : Cond.selects r.1 x y ∈ tb) (hdd : x.desc = y.desc)
    (hr2 : cx.2.2.2.1[ci2]? = some r2) (g : cx.2.1 j2 = (y2, b2, mL2, rt2)) (gm : rf_mo cx tb np j2) (g1 : Cond.instanceMethod y2 ∈ tb) (g3 : Cond.selects r2.1 x y2 ∈ tb) (gdd : x.desc = y2.desc) : rf_wk cx ocl tb sp str stt own nm (.invokevirtual idx, [(0, np), ((ci : Int), j), ((ci2 : Int), j2)]) :=
  show ∀ q ∈ [((ci : Int), j), ((ci2 : Int), j2)], _ from mem2 ⟨hm, by rw [h]; exact h1, r.1, by unfold rf_nm; rw [if_pos (by simp only; omega)]; simp [hr], Or.inr (Or.inl ⟨x, owner, hl, hs, ho, hd, by rw [h]; exact h3, by rw [h]; exact hdd⟩)⟩
    ⟨gm, by rw [g]; exact g1, r2.1, by unfold rf_nm; rw [if_pos (by simp only; omega)]; simp [hr2], Or.inr (Or.inl ⟨x, owner, hl, hs, ho, hd, by rw [g]; exact g3, by rw [g]; exact gdd⟩)⟩
theorem wk_is {idx np j mL : Nat} {y : MethodName} {b : ByteArray} (h : cx.2.1 j = (y, b, mL, none)) (hm : rf_mo cx tb np j) (h1 : Cond.instanceMethod y ∈ tb) (hn : y.name = "<init>") (h2 : Cond.methodLink own idx y ∈ tb) : rf_wk cx ocl tb sp str stt own nm (.invokespecial idx, [(0, np), (0, j)]) :=
  show ∀ q ∈ [((0 : Int), j)], _ from mem1 ⟨hm, by rw [h]; exact h1, by rw [h]; exact hn, by rw [h], Or.inl (by rw [h]; exact h2)⟩
theorem wk_isN {idx np j mL : Nat} {y : MethodName} {b : ByteArray} {host : String} (h : cx.2.1 j = (y, b, mL, none)) (hm : rf_mo cx tb np j) (h1 : Cond.instanceMethod y ∈ tb) (hn : y.name = "<init>") (h2 : Cond.methodLinkNest own idx y host ∈ sp) : rf_wk cx ocl tb sp str stt own nm (.invokespecial idx, [(0, np), (0, j)]) :=
  show ∀ q ∈ [((0 : Int), j)], _ from mem1 ⟨hm, by rw [h]; exact h1, by rw [h]; exact hn, by rw [h], Or.inr ⟨host, by rw [h]; exact h2⟩⟩
theorem wk_st {idx np j mL : Nat} {y : MethodName} {b : ByteArray} {rt : Option FieldType} (h : cx.2.1 j = (y, b, mL, rt)) (hm : rf_mo cx tb np j) (h1 : Cond.static y ∈ tb) (h2 : Cond.methodLink own idx y ∈ tb) : rf_wk cx ocl tb sp str stt own nm (.invokestatic idx, [(0, np), (0, j)]) :=
  show ∀ q ∈ [((0 : Int), j)], _ from mem1 ⟨hm, by rw [h]; exact h1, Or.inl (by rw [h]; exact h2)⟩
theorem wk_stN {idx np j mL : Nat} {y : MethodName} {b : ByteArray} {rt : Option FieldType} {host : String} (h : cx.2.1 j = (y, b, mL, rt)) (hm : rf_mo cx tb np j) (h1 : Cond.static y ∈ tb) (h2 : Cond.methodLinkNest own idx y host ∈ sp) : rf_wk cx ocl tb sp str stt own nm (.invokestatic idx, [(0, np), (0, j)]) :=
  show ∀ q ∈ [((0 : Int), j)], _ from mem1 ⟨hm, by rw [h]; exact h1, Or.inr ⟨host, by rw [h]; exact h2⟩⟩
theorem w8_10 {idx : Nat} (h1 : Cond.methodLink own idx objectInit ∈ tb) (h2 : Cond.instanceMethod objectInit ∈ tb) (h3 : Cond.code objectInit ⟨#[0xb1]⟩ 1 none ∈ tb) : rf_wi8 tb own idx 10 := ⟨fun _ => ⟨h1, h2, h3⟩, (fun z => absurd z (by decide)), (fun z => absurd z (by decide)), (fun z => absurd z (by decide))⟩
theorem w8_11 {idx : Nat} (h1 : Cond.methodLink own idx arraycopyName ∈ tb) (h2 : Cond.native arraycopyName ∈ tb) (h3 : Cond.static arraycopyName ∈ tb) (h4 : Cond.initialized "java/lang/System" ∈ tb) : rf_wi8 tb own idx 11 := ⟨(fun z => absurd z (by decide)), fun _ => ⟨h1, h2, h3, h4⟩, (fun z => absurd z (by decide)), (fun z => absurd z (by decide))⟩
theorem w8_12 {idx : Nat} (h1 : Cond.methodLink own idx Lib.Math.min.name ∈ tb) (h2 : Cond.static Lib.Math.min.name ∈ tb) (h3 : Cond.initialized "java/lang/Math" ∈ tb) (h4 : Cond.code Lib.Math.min.name Lib.Math.min.code 2 (some .int) ∈ tb) : rf_wi8 tb own idx 12 := ⟨(fun z => absurd z (by decide)), (fun z => absurd z (by decide)), fun _ => ⟨h1, h2, h3, h4⟩, (fun z => absurd z (by decide))⟩
theorem w8_13 {idx : Nat} (h1 : Cond.methodLink own idx Lib.Math.max.name ∈ tb) (h2 : Cond.static Lib.Math.max.name ∈ tb) (h3 : Cond.initialized "java/lang/Math" ∈ tb) (h4 : Cond.code Lib.Math.max.name Lib.Math.max.code 2 (some .int) ∈ tb) : rf_wi8 tb own idx 13 := ⟨(fun z => absurd z (by decide)), (fun z => absurd z (by decide)), (fun z => absurd z (by decide)), fun _ => ⟨h1, h2, h3, h4⟩⟩
theorem ne1110 : (11 : Int) ≠ 10 := by decide
theorem ne1210 : (12 : Int) ≠ 10 := by decide
theorem ne1310 : (13 : Int) ≠ 10 := by decide
theorem wk_10 {idx : Nat} (h1 : Cond.methodLink own idx objectInit ∈ tb) (h2 : Cond.instanceMethod objectInit ∈ tb) (h3 : Cond.code objectInit ⟨#[0xb1]⟩ 1 none ∈ tb) : rf_wk cx ocl tb sp str stt own nm (.invokespecial idx, [(10, 0)]) :=
  show ∃ idx' : Nat, _ from ⟨idx, Or.inl ⟨rfl, rfl⟩, w8_10 h1 h2 h3⟩
theorem wk_11 {idx : Nat} (h1 : Cond.methodLink own idx arraycopyName ∈ tb) (h2 : Cond.native arraycopyName ∈ tb) (h3 : Cond.static arraycopyName ∈ tb) (h4 : Cond.initialized "java/lang/System" ∈ tb) : rf_wk cx ocl tb sp str stt own nm (.invokestatic idx, [(11, 0)]) :=
  show ∃ idx' : Nat, _ from ⟨idx, Or.inr ⟨ne1110, rfl⟩, w8_11 h1 h2 h3 h4⟩
theorem wk_12 {idx : Nat} (h1 : Cond.methodLink own idx Lib.Math.min.name ∈ tb) (h2 : Cond.static Lib.Math.min.name ∈ tb) (h3 : Cond.initialized "java/lang/Math" ∈ tb) (h4 : Cond.code Lib.Math.min.name Lib.Math.min.code 2 (some .int) ∈ tb) : rf_wk cx ocl tb sp str stt own nm (.invokestatic idx, [(12, 0)]) :=
  show ∃ idx' : Nat, _ from ⟨idx, Or.inr ⟨ne1210, rfl⟩, w8_12 h1 h2 h3 h4⟩
theorem wk_13 {idx : Nat} (h1 : Cond.methodLink own idx Lib.Math.max.name ∈ tb) (h2 : Cond.static Lib.Math.max.name ∈ tb) (h3 : Cond.initialized "java/lang/Math" ∈ tb) (h4 : Cond.code Lib.Math.max.name Lib.Math.max.code 2 (some .int) ∈ tb) : rf_wk cx ocl tb sp str stt own nm (.invokestatic idx, [(13, 0)]) :=
  show ∃ idx' : Nat, _ from ⟨idx, Or.inr ⟨ne1310, rfl⟩, w8_13 h1 h2 h3 h4⟩
theorem wk_l2 {idx k : Nat} (h : Cond.constantLong own idx (Int64.ofNat k) ∈ tb) : rf_wk cx ocl tb sp str stt own nm (.ldc2_w idx, [(1, k)]) := h
theorem wk_li {idx k : Nat} (h : Cond.constant own idx (Int32.ofNat k) ∈ tb) : rf_wk cx ocl tb sp str stt own nm (.ldc idx, [(0, k)]) := h
theorem wk_ls {idx a : Nat} {tx : String} (h : (own, idx, tx, a) ∈ str) : rf_wk cx ocl tb sp str stt own nm (.ldc idx, [(2, a)]) := ⟨tx, h⟩
theorem wk_gi {idx k : Nat} {C n d : String} (h : (C, n, d, Value.int (Int32.ofNat k)) ∈ stt) (h2 : Cond.fieldLink own idx C n d ∈ tb) : rf_wk cx ocl tb sp str stt own nm (.getstatic idx, [(0, k)]) := ⟨C, n, d, h, h2⟩
theorem wk_gr {idx a : Nat} {C n d : String} (h : (C, n, d, Value.ref a) ∈ stt) (h2 : Cond.fieldLink own idx C n d ∈ tb) : rf_wk cx ocl tb sp str stt own nm (.getstatic idx, [(2, a)]) := ⟨C, n, d, h, h2⟩
theorem wk_gn {idx a : Nat} {C n d : String} (h : (C, n, d, Value.null) ∈ stt) (h2 : Cond.fieldLink own idx C n d ∈ tb) : rf_wk cx ocl tb sp str stt own nm (.getstatic idx, [(3, a)]) := ⟨C, n, d, h, h2⟩
end WK
