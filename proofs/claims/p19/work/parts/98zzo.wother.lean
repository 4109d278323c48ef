/-! the reference's other calls as formulas, for lx (printed by wip/tools/vl.py) -/
theorem l_swh {cx : rf_C} {n0 i pc t : Nat} {ls : rf_L} {st : List Value} {h : rf_H} {Q : Option Value → rf_H → Prop} {aux : List (Int × Nat)} {a v w q0 lo hi : Int} {q1 : Array Int} (e : a = v) (hf : cx.1 i pc = some (.tableswitch q0 lo hi q1, aux)) (ha : inr a) (h1 : lo ≤ v) (h2 : v ≤ hi) (hx : aux[(v - lo).toNat + 1]? = some (w, t)) (kk : lx cx (n0 - 1) i t ls st h Q) : lx cx n0 i pc ls (zv a :: st) h Q := by
  refine l3 hf rfl (pc' := t) ?_ kk
  show (if (Int32.ofInt a).toInt < lo ∨ hi < (Int32.ofInt a).toInt then some (rf_tg aux, st) else (match aux[((Int32.ofInt a).toInt - lo).toNat + 1]? with | some q => some (q.2, st) | none => none)) = _
  rw [ti_ofi ha, e, if_neg (by omega), hx]
theorem l_swt2 {cx : rf_C} {n0 i pc t : Nat} {ls : rf_L} {st : List Value} {h : rf_H} {Q : Option Value → rf_H → Prop} {aux : List (Int × Nat)} {a q0 lo hi : Int} {q1 : Array Int} (hf : cx.1 i pc = some (.tableswitch q0 lo hi q1, aux)) (ha : inr a) (he : a < lo ∨ hi < a) (ht : rf_tg aux = t) (kk : lx cx (n0 - 1) i t ls st h Q) : lx cx n0 i pc ls (zv a :: st) h Q := l_swt hf ha he (by rw [ht]; exact kk)
def e_W_feed_78 (v1 : Int) (v2 : Int) (v3 : Int) (v4 : Int) (v5 : Int) (v6 : Int) (s0 : Int) (M : rf_M) (b23 : Int → Int → Int → Int → Int → Int → rf_M → Prop) (K : Int → rf_M → Prop) : Prop := (0 ≤ (gi M 353 2) ∧ (gi M 353 2) < 800 → (∀ M1 : rf_M, M1 = wi M 354 (gi M 353 2).toNat (Int32.ofInt (Int32.ofInt (Int32.ofInt s0 >>> (Int32.ofInt (24 - (8 * (Int32.ofInt v6 - Int32.ofInt v6 / Int32.ofInt 4 * Int32.ofInt 4).toInt)) &&& 31)).toInt).toInt8.toInt32.toInt).toInt8.toInt32.toInt → (∀ M2 : rf_M, M2 = wi M1 353 2 ((gi M1 353 2) + 1) → (inr (v6 + 1) ∧ (b23 v1 v2 v3 v4 v5 (v6 + 1) M2)))))
theorem E_W_feed_78 {fz : Bool} {S : gS} {B : rf_M} {M : rf_M} {ls : rf_L} {n0 : Nat} {v1 : Int} {v2 : Int} {v3 : Int} {v4 : Int} {v5 : Int} {v6 : Int} {s0 : Int} {b23 : Int → Int → Int → Int → Int → Int → rf_M → Prop} {K : Int → rf_M → Prop} (hS : rl S) (hR : fl 353 406 B M) (iv1 : inr v1) (iv2 : inr v2) (iv3 : inr v3) (iv4 : inr v4) (iv5 : inr v5) (iv6 : inr v6) (is0 : inr s0) (a0 : rf_ld ls 0 = some (.ref 353)) (a1 : rf_ld ls 1 = some (zv v1)) (a2 : rf_ld ls 2 = some (zv v2)) (a3 : rf_ld ls 3 = some (zv v3)) (a4 : rf_ld ls 4 = some (zv v4)) (a5 : rf_ld ls 5 = some (zv v5)) (a6 : rf_ld ls 6 = some (zv v6)) (hb23 : ∀ n', n' < n0 → ∀ (v1 : Int) (v2 : Int) (v3 : Int) (v4 : Int) (v5 : Int) (v6 : Int) (M : rf_M) (ls : rf_L), fl 353 406 B M → inr v1 → inr v2 → inr v3 → inr v4 → inr v5 → inr v6 → rf_ld ls 0 = some (.ref 353) → rf_ld ls 1 = some (zv v1) → rf_ld ls 2 = some (zv v2) → rf_ld ls 3 = some (zv v3) → rf_ld ls 4 = some (zv v4) → rf_ld ls 5 = some (zv v5) → rf_ld ls 6 = some (zv v6) → b23 v1 v2 v3 v4 v5 v6 M → lx (cx0 fz) n' 128 23 ls [] (M, S) (vl_i 353 406 B S K)) (h : e_W_feed_78 v1 v2 v3 v4 v5 v6 s0 M b23 K) : lx (cx0 fz) n0 128 78 ls [zv s0] (M, S) (vl_i 353 406 B S K) := by
  unfold e_W_feed_78 at h
  rcases Nat.eq_zero_or_pos n0 with e0 | hp
  · rw [e0]; exact lx_zero
  refine l_s1 (n := 2) rfl rfl rfl rfl (fun ls y1 ho => ?_)
  have y2 := ho 0 _ (by decide) (fun q => by cases q.2) a0
  have y3 := ho 1 _ (by decide) (fun q => by cases q.2) a1
  have y4 := ho 2 _ (by decide) (fun q => by cases q.2) a2
  have y5 := ho 3 _ (by decide) (fun q => by cases q.2) a3
  have y6 := ho 4 _ (by decide) (fun q => by cases q.2) a4
  have y7 := ho 5 _ (by decide) (fun q => by cases q.2) a5
  have y8 := ho 6 _ (by decide) (fun q => by cases q.2) a6
  refine l1 (n := 1) rfl rfl rfl (la_of y2) ?_
  refine l_gr rfl (ko_11 hS (List.Mem.head _)) rfl (fun _ => rfl) (kf_11_1 hR.2 (List.Mem.head _)) ?_
  refine l1 (n := 1) rfl rfl rfl (la_of y2) ?_
  refine l_gi rfl (ko_11 hS (List.Mem.head _)) rfl (fun _ => rfl) ?_
  refine l1 (n := 2) rfl rfl rfl (li_of y1) ?_
  refine l_bi rfl (by decide) ?_
  refine l_bi rfl (by decide) ?_
  refine l1 (n := 2) rfl rfl rfl (li_of y8) ?_
  refine l1 (n := 1) rfl rfl rfl rfl ?_
  refine l_op (T := (Int32.ofInt v6 - Int32.ofInt v6 / Int32.ofInt 4 * Int32.ofInt 4)) rfl rfl rfl ?_
  refine l_mul rfl ?_
  refine l_sub rfl ?_
  refine l_op (T := (Int32.ofInt s0 >>> (Int32.ofInt (24 - (8 * (Int32.ofInt v6 - Int32.ofInt v6 / Int32.ofInt 4 * Int32.ofInt 4).toInt)) &&& 31))) rfl rfl rfl ?_
  refine l_op (T := (Int32.ofInt (Int32.ofInt s0 >>> (Int32.ofInt (24 - (8 * (Int32.ofInt v6 - Int32.ofInt v6 / Int32.ofInt 4 * Int32.ofInt 4).toInt)) &&& 31)).toInt).toInt8.toInt32) rfl rfl rfl ?_
  refine b_bs rfl (kc_354 (fz := fz) hS).1 (Nat.le_of_ble_eq_true rfl) (inr_gi _ _ _) (fun q M1 e => ?_)
  replace h := h q M1 e
  have r1 := hR.wi (Nat.le_of_ble_eq_true rfl) (Nat.le_of_ble_eq_true rfl) e
  refine l1 (n := 1) rfl rfl rfl (la_of y2) ?_
  refine l0 rfl rfl rfl ?_
  refine l_gi rfl (ko_11 hS (List.Mem.head _)) rfl (fun _ => rfl) ?_
  refine l1 (n := 1) rfl rfl rfl rfl ?_
  refine l_add rfl ?_
  refine l_pi rfl (ko_11 (fz := fz) hS (List.Mem.head _)) rfl (fun _ _ => rfl) (fun M2 e => ?_)
  replace h := h M2 e
  have r2 := r1.wi (Nat.le_of_ble_eq_true rfl) (Nat.le_of_ble_eq_true rfl) e
  refine l_ii rfl y8 (Nat.le_of_ble_eq_true rfl) (fun ls y9 ho => ?_)
  have y10 := ho 0 _ (by decide) (fun q => by cases q.2) y2
  have y11 := ho 1 _ (by decide) (fun q => by cases q.2) y3
  have y12 := ho 2 _ (by decide) (fun q => by cases q.2) y4
  have y13 := ho 3 _ (by decide) (fun q => by cases q.2) y5
  have y14 := ho 4 _ (by decide) (fun q => by cases q.2) y6
  have y15 := ho 5 _ (by decide) (fun q => by cases q.2) y7
  refine l3 rfl rfl rfl ?_
  obtain ⟨i1, h⟩ := h
  exact hb23 _ (by omega) _ _ _ _ _ _ _ _ r2 iv1 iv2 iv3 iv4 iv5 i1 y10 y11 y12 y13 y14 y15 y9 h
def e_W_feed_23b (v1 : Int) (v2 : Int) (v3 : Int) (v4 : Int) (v5 : Int) (v6 : Int) (M : rf_M) (b23 : Int → Int → Int → Int → Int → Int → rf_M → Prop) (K : Int → rf_M → Prop) : Prop := (20 ≤ v6 → (K (gi M 353 2) M)) ∧ (¬ (20 ≤ v6) → (((Int32.ofInt v6 / Int32.ofInt 4).toInt = 0 → (e_W_feed_78 v1 v2 v3 v4 v5 v6 v1 M b23 K)) ∧ (¬ (Int32.ofInt v6 / Int32.ofInt 4).toInt = 0 → (((Int32.ofInt v6 / Int32.ofInt 4).toInt = 1 → (e_W_feed_78 v1 v2 v3 v4 v5 v6 v2 M b23 K)) ∧ (¬ (Int32.ofInt v6 / Int32.ofInt 4).toInt = 1 → (((Int32.ofInt v6 / Int32.ofInt 4).toInt = 2 → (e_W_feed_78 v1 v2 v3 v4 v5 v6 v3 M b23 K)) ∧ (¬ (Int32.ofInt v6 / Int32.ofInt 4).toInt = 2 → (((Int32.ofInt v6 / Int32.ofInt 4).toInt = 3 → (e_W_feed_78 v1 v2 v3 v4 v5 v6 v4 M b23 K)) ∧ (¬ (Int32.ofInt v6 / Int32.ofInt 4).toInt = 3 → (e_W_feed_78 v1 v2 v3 v4 v5 v6 v5 M b23 K))))))))))
theorem E_W_feed_23b {fz : Bool} {S : gS} {B : rf_M} {M : rf_M} {ls : rf_L} {n0 : Nat} {v1 : Int} {v2 : Int} {v3 : Int} {v4 : Int} {v5 : Int} {v6 : Int} {b23 : Int → Int → Int → Int → Int → Int → rf_M → Prop} {K : Int → rf_M → Prop} (hS : rl S) (hR : fl 353 406 B M) (iv1 : inr v1) (iv2 : inr v2) (iv3 : inr v3) (iv4 : inr v4) (iv5 : inr v5) (iv6 : inr v6) (a0 : rf_ld ls 0 = some (.ref 353)) (a1 : rf_ld ls 1 = some (zv v1)) (a2 : rf_ld ls 2 = some (zv v2)) (a3 : rf_ld ls 3 = some (zv v3)) (a4 : rf_ld ls 4 = some (zv v4)) (a5 : rf_ld ls 5 = some (zv v5)) (a6 : rf_ld ls 6 = some (zv v6)) (hb23 : ∀ n', n' < n0 → ∀ (v1 : Int) (v2 : Int) (v3 : Int) (v4 : Int) (v5 : Int) (v6 : Int) (M : rf_M) (ls : rf_L), fl 353 406 B M → inr v1 → inr v2 → inr v3 → inr v4 → inr v5 → inr v6 → rf_ld ls 0 = some (.ref 353) → rf_ld ls 1 = some (zv v1) → rf_ld ls 2 = some (zv v2) → rf_ld ls 3 = some (zv v3) → rf_ld ls 4 = some (zv v4) → rf_ld ls 5 = some (zv v5) → rf_ld ls 6 = some (zv v6) → b23 v1 v2 v3 v4 v5 v6 M → lx (cx0 fz) n' 128 23 ls [] (M, S) (vl_i 353 406 B S K)) (h : e_W_feed_23b v1 v2 v3 v4 v5 v6 M b23 K) : lx (cx0 fz) n0 128 23 ls [] (M, S) (vl_i 353 406 B S K) := by
  unfold e_W_feed_23b at h
  rcases Nat.eq_zero_or_pos n0 with e0 | hp
  · rw [e0]; exact lx_zero
  refine l1 (n := 2) rfl rfl rfl (li_of a6) ?_
  refine l_bi rfl (by decide) ?_
  refine l_ic rfl iv6 ⟨by decide, by decide⟩ (fun c => ?_) (fun c => ?_)
  · replace h := h.1 c
    refine l1 (n := 1) rfl rfl rfl (la_of a0) ?_
    refine l_gi rfl (ko_11 hS (List.Mem.head _)) rfl (fun _ => rfl) ?_
    exact l_ri rfl rfl (inr_gi _ _ _) hR h
  · replace h := h.2 c
    refine l1 (n := 2) rfl rfl rfl (li_of a6) ?_
    refine l1 (n := 1) rfl rfl rfl rfl ?_
    refine l_op (T := (Int32.ofInt v6 / Int32.ofInt 4)) rfl rfl rfl ?_
    refine l_s1 (n := 2) rfl rfl rfl rfl (fun ls y1 ho => ?_)
    have y2 := ho 0 _ (by decide) (fun q => by cases q.2) a0
    have y3 := ho 1 _ (by decide) (fun q => by cases q.2) a1
    have y4 := ho 2 _ (by decide) (fun q => by cases q.2) a2
    have y5 := ho 3 _ (by decide) (fun q => by cases q.2) a3
    have y6 := ho 4 _ (by decide) (fun q => by cases q.2) a4
    have y7 := ho 5 _ (by decide) (fun q => by cases q.2) a5
    have y8 := ho 6 _ (by decide) (fun q => by cases q.2) a6
    refine l1 (n := 2) rfl rfl rfl (li_of y1) ?_
    refine l_if rfl (inr_ti _) (fun c => ?_) (fun c => ?_)
    · replace h := h.2 c
      refine l1 (n := 2) rfl rfl rfl (li_of y1) ?_
      refine l1 (n := 1) rfl rfl rfl rfl ?_
      refine l_ic rfl (inr_ti _) ⟨by decide, by decide⟩ (fun c => ?_) (fun c => ?_)
      · replace h := h.2 c
        refine l1 (n := 2) rfl rfl rfl (li_of y1) ?_
        refine l1 (n := 1) rfl rfl rfl rfl ?_
        refine l_ic rfl (inr_ti _) ⟨by decide, by decide⟩ (fun c => ?_) (fun c => ?_)
        · replace h := h.2 c
          refine l1 (n := 2) rfl rfl rfl (li_of y1) ?_
          refine l1 (n := 1) rfl rfl rfl rfl ?_
          refine l_ic rfl (inr_ti _) ⟨by decide, by decide⟩ (fun c => ?_) (fun c => ?_)
          · replace h := h.2 c
            refine l1 (n := 2) rfl rfl rfl (li_of y7) ?_
            exact E_W_feed_78 hS hR iv1 iv2 iv3 iv4 iv5 iv6 iv5 y2 y3 y4 y5 y6 y7 y8 (fun n' hn' => hb23 n' (by omega)) h
          · replace h := h.1 (Classical.not_not.mp c)
            refine l1 (n := 2) rfl rfl rfl (li_of y6) ?_
            refine l3 rfl rfl rfl ?_
            exact E_W_feed_78 hS hR iv1 iv2 iv3 iv4 iv5 iv6 iv4 y2 y3 y4 y5 y6 y7 y8 (fun n' hn' => hb23 n' (by omega)) h
        · replace h := h.1 (Classical.not_not.mp c)
          refine l1 (n := 1) rfl rfl rfl (li_of y5) ?_
          refine l3 rfl rfl rfl ?_
          exact E_W_feed_78 hS hR iv1 iv2 iv3 iv4 iv5 iv6 iv3 y2 y3 y4 y5 y6 y7 y8 (fun n' hn' => hb23 n' (by omega)) h
      · replace h := h.1 (Classical.not_not.mp c)
        refine l1 (n := 1) rfl rfl rfl (li_of y4) ?_
        refine l3 rfl rfl rfl ?_
        exact E_W_feed_78 hS hR iv1 iv2 iv3 iv4 iv5 iv6 iv2 y2 y3 y4 y5 y6 y7 y8 (fun n' hn' => hb23 n' (by omega)) h
    · replace h := h.1 (Classical.not_not.mp c)
      refine l1 (n := 1) rfl rfl rfl (li_of y3) ?_
      refine l3 rfl rfl rfl ?_
      exact E_W_feed_78 hS hR iv1 iv2 iv3 iv4 iv5 iv6 iv1 y2 y3 y4 y5 y6 y7 y8 (fun n' hn' => hb23 n' (by omega)) h
def e_W_feed_23 (v1 : Int) (v2 : Int) (v3 : Int) (v4 : Int) (v5 : Int) (v6 : Int) (M : rf_M) (K : Int → rf_M → Prop) : Prop := ∃ Inv : Int → Int → Int → Int → Int → Int → rf_M → Prop, Inv v1 v2 v3 v4 v5 v6 M ∧ ∀ (v1 : Int) (v2 : Int) (v3 : Int) (v4 : Int) (v5 : Int) (v6 : Int) (M : rf_M), inr v1 → inr v2 → inr v3 → inr v4 → inr v5 → inr v6 → Inv v1 v2 v3 v4 v5 v6 M → e_W_feed_23b v1 v2 v3 v4 v5 v6 M Inv K
theorem E_W_feed_23 {fz : Bool} {S : gS} {B : rf_M} {M : rf_M} {ls : rf_L} {n0 : Nat} {v1 : Int} {v2 : Int} {v3 : Int} {v4 : Int} {v5 : Int} {v6 : Int} {K : Int → rf_M → Prop} (hS : rl S) (hR : fl 353 406 B M) (iv1 : inr v1) (iv2 : inr v2) (iv3 : inr v3) (iv4 : inr v4) (iv5 : inr v5) (iv6 : inr v6) (a0 : rf_ld ls 0 = some (.ref 353)) (a1 : rf_ld ls 1 = some (zv v1)) (a2 : rf_ld ls 2 = some (zv v2)) (a3 : rf_ld ls 3 = some (zv v3)) (a4 : rf_ld ls 4 = some (zv v4)) (a5 : rf_ld ls 5 = some (zv v5)) (a6 : rf_ld ls 6 = some (zv v6)) (h : e_W_feed_23 v1 v2 v3 v4 v5 v6 M K) : lx (cx0 fz) n0 128 23 ls [] (M, S) (vl_i 353 406 B S K) := by
  obtain ⟨Inv, hm, hb⟩ := h
  induction n0 using Nat.strongRecOn generalizing ls M v1 v2 v3 v4 v5 v6 with
  | _ n0 ih =>
    refine E_W_feed_23b hS hR iv1 iv2 iv3 iv4 iv5 iv6 a0 a1 a2 a3 a4 a5 a6 (fun n' hn' v1' v2' v3' v4' v5' v6' M' ls' hR' f0 f1 f2 f3 f4 f5 f6 f7 f8 f9 f10 f11 f12 q2 => ih n' hn' hR' f0 f1 f2 f3 f4 f5 f6 f7 f8 f9 f10 f11 f12 q2) (hb v1 v2 v3 v4 v5 v6 M iv1 iv2 iv3 iv4 iv5 iv6 hm)
def e_W_feed (v1 : Int) (v2 : Int) (v3 : Int) (v4 : Int) (v5 : Int) (M : rf_M) (K : Int → rf_M → Prop) : Prop := ∀ M1 : rf_M, M1 = wi M 353 0 0 → (inr ((gi M1 353 2) + 20) ∧ ((((gi M1 353 2) + 20) ≤ 800 → (e_W_feed_23 v1 v2 v3 v4 v5 0 M1 K)) ∧ (¬ (((gi M1 353 2) + 20) ≤ 800) → (K (-1) M1))))
theorem E_W_feed {fz : Bool} {S : gS} {B : rf_M} {M : rf_M} {ls : rf_L} {n0 : Nat} {v1 : Int} {v2 : Int} {v3 : Int} {v4 : Int} {v5 : Int} {K : Int → rf_M → Prop} (hS : rl S) (hR : fl 353 406 B M) (iv1 : inr v1) (iv2 : inr v2) (iv3 : inr v3) (iv4 : inr v4) (iv5 : inr v5) (a0 : rf_ld ls 0 = some (.ref 353)) (a1 : rf_ld ls 1 = some (zv v1)) (a2 : rf_ld ls 2 = some (zv v2)) (a3 : rf_ld ls 3 = some (zv v3)) (a4 : rf_ld ls 4 = some (zv v4)) (a5 : rf_ld ls 5 = some (zv v5)) (h : e_W_feed v1 v2 v3 v4 v5 M K) : lx (cx0 fz) n0 128 0 ls [] (M, S) (vl_i 353 406 B S K) := by
  unfold e_W_feed at h
  refine l1 (n := 1) rfl rfl rfl (la_of a0) ?_
  refine l1 (n := 1) rfl rfl rfl rfl ?_
  refine l_pi rfl (ko_11 (fz := fz) hS (List.Mem.head _)) rfl (fun _ _ => rfl) (fun M1 e => ?_)
  replace h := h M1 e
  have r1 := hR.wi (Nat.le_of_ble_eq_true rfl) (Nat.le_of_ble_eq_true rfl) e
  refine l1 (n := 1) rfl rfl rfl (la_of a0) ?_
  refine l_gi rfl (ko_11 hS (List.Mem.head _)) rfl (fun _ => rfl) ?_
  refine l_bi rfl (by decide) ?_
  refine l_add rfl ?_
  refine l_si rfl (by decide) ?_
  obtain ⟨i1, h⟩ := h
  refine l_ic rfl i1 ⟨by decide, by decide⟩ (fun c => ?_) (fun c => ?_)
  · replace h := h.1 c
    refine l1 (n := 1) rfl rfl rfl rfl ?_
    refine l_s1 (n := 2) rfl rfl rfl rfl (fun ls y1 ho => ?_)
    have y2 := ho 0 _ (by decide) (fun q => by cases q.2) a0
    have y3 := ho 1 _ (by decide) (fun q => by cases q.2) a1
    have y4 := ho 2 _ (by decide) (fun q => by cases q.2) a2
    have y5 := ho 3 _ (by decide) (fun q => by cases q.2) a3
    have y6 := ho 4 _ (by decide) (fun q => by cases q.2) a4
    have y7 := ho 5 _ (by decide) (fun q => by cases q.2) a5
    exact E_W_feed_23 hS r1 iv1 iv2 iv3 iv4 iv5 ⟨by decide, by decide⟩ y2 y3 y4 y5 y6 y7 y1 h
  · replace h := h.2 c
    refine l1 (n := 1) rfl rfl rfl rfl ?_
    exact l_ri rfl rfl ⟨by decide, by decide⟩ r1 h
def em_W_feed (x1 : Int) (x2 : Int) (x3 : Int) (x4 : Int) (x5 : Int) (M : rf_M) (K : Int → rf_M → Prop) : Prop := e_W_feed x1 x2 x3 x4 x5 M K
theorem E_W_feed_m {fz : Bool} {S : gS} {B : rf_M} {M : rf_M} {n0 : Nat} {x1 : Int} {x2 : Int} {x3 : Int} {x4 : Int} {x5 : Int} {K : Int → rf_M → Prop} (hS : rl S) (hR : fl 353 406 B M) (ix1 : inr x1) (ix2 : inr x2) (ix3 : inr x3) (ix4 : inr x4) (ix5 : inr x5) (h : em_W_feed x1 x2 x3 x4 x5 M K) : lx (cx0 fz) n0 128 0 (lv_args 0 [.ref 353, zv x1, zv x2, zv x3, zv x4, zv x5]) [] (M, S) (vl_i 353 406 B S K) :=
  E_W_feed hS hR ix1 ix2 ix3 ix4 ix5 rfl rfl rfl rfl rfl rfl h
def e_W_end_24 (M : rf_M) (K : Int → rf_M → Prop) : Prop := K (-1) M
theorem E_W_end_24 {fz : Bool} {S : gS} {B : rf_M} {M : rf_M} {ls : rf_L} {n0 : Nat} {K : Int → rf_M → Prop} (hS : rl S) (hR : fl 353 406 B M) (h : e_W_end_24 M K) : lx (cx0 fz) n0 129 24 ls [] (M, S) (vl_i 353 406 B S K) := by
  unfold e_W_end_24 at h
  refine l1 (n := 1) rfl rfl rfl rfl ?_
  exact l_ri rfl rfl ⟨by decide, by decide⟩ hR h
def e_W_end (v1 : Int) (M : rf_M) (K : Int → rf_M → Prop) : Prop := ∀ M1 : rf_M, M1 = wi M 353 0 0 → ((v1 < 0 → (e_W_end_24 M1 K)) ∧ (¬ (v1 < 0) → ((20 < v1 → (e_W_end_24 M1 K)) ∧ (¬ (20 < v1) → ((20 ≤ (gi M1 353 2) → (∀ M2 : rf_M, M2 = wi M1 353 2 ((gi M1 353 2) - (20 - v1)) → (K (gi M2 353 2) M2))) ∧ (¬ (20 ≤ (gi M1 353 2)) → (e_W_end_24 M1 K)))))))
theorem E_W_end {fz : Bool} {S : gS} {B : rf_M} {M : rf_M} {ls : rf_L} {n0 : Nat} {v1 : Int} {K : Int → rf_M → Prop} (hS : rl S) (hR : fl 353 406 B M) (iv1 : inr v1) (a0 : rf_ld ls 0 = some (.ref 353)) (a1 : rf_ld ls 1 = some (zv v1)) (h : e_W_end v1 M K) : lx (cx0 fz) n0 129 0 ls [] (M, S) (vl_i 353 406 B S K) := by
  unfold e_W_end at h
  refine l1 (n := 1) rfl rfl rfl (la_of a0) ?_
  refine l1 (n := 1) rfl rfl rfl rfl ?_
  refine l_pi rfl (ko_11 (fz := fz) hS (List.Mem.head _)) rfl (fun _ _ => rfl) (fun M1 e => ?_)
  replace h := h M1 e
  have r1 := hR.wi (Nat.le_of_ble_eq_true rfl) (Nat.le_of_ble_eq_true rfl) e
  refine l1 (n := 1) rfl rfl rfl (li_of a1) ?_
  refine l_if rfl iv1 (fun c => ?_) (fun c => ?_)
  · replace h := h.1 c
    exact E_W_end_24 hS r1  h
  · replace h := h.2 c
    refine l1 (n := 1) rfl rfl rfl (li_of a1) ?_
    refine l_bi rfl (by decide) ?_
    refine l_ic rfl iv1 ⟨by decide, by decide⟩ (fun c => ?_) (fun c => ?_)
    · replace h := h.1 c
      exact E_W_end_24 hS r1  h
    · replace h := h.2 c
      refine l1 (n := 1) rfl rfl rfl (la_of a0) ?_
      refine l_gi rfl (ko_11 hS (List.Mem.head _)) rfl (fun _ => rfl) ?_
      refine l_bi rfl (by decide) ?_
      refine l_ic rfl (inr_gi _ _ _) ⟨by decide, by decide⟩ (fun c => ?_) (fun c => ?_)
      · replace h := h.1 c
        refine l1 (n := 1) rfl rfl rfl (la_of a0) ?_
        refine l0 rfl rfl rfl ?_
        refine l_gi rfl (ko_11 hS (List.Mem.head _)) rfl (fun _ => rfl) ?_
        refine l_bi rfl (by decide) ?_
        refine l1 (n := 1) rfl rfl rfl (li_of a1) ?_
        refine l_sub rfl ?_
        refine l_sub rfl ?_
        refine l_pi rfl (ko_11 (fz := fz) hS (List.Mem.head _)) rfl (fun _ _ => rfl) (fun M2 e => ?_)
        replace h := h M2 e
        have r2 := r1.wi (Nat.le_of_ble_eq_true rfl) (Nat.le_of_ble_eq_true rfl) e
        refine l1 (n := 1) rfl rfl rfl (la_of a0) ?_
        refine l_gi rfl (ko_11 hS (List.Mem.head _)) rfl (fun _ => rfl) ?_
        exact l_ri rfl rfl (inr_gi _ _ _) r2 h
      · replace h := h.2 c
        exact E_W_end_24 hS r1  h
def em_W_end (x1 : Int) (M : rf_M) (K : Int → rf_M → Prop) : Prop := e_W_end x1 M K
theorem E_W_end_m {fz : Bool} {S : gS} {B : rf_M} {M : rf_M} {n0 : Nat} {x1 : Int} {K : Int → rf_M → Prop} (hS : rl S) (hR : fl 353 406 B M) (ix1 : inr x1) (h : em_W_end x1 M K) : lx (cx0 fz) n0 129 0 (lv_args 0 [.ref 353, zv x1]) [] (M, S) (vl_i 353 406 B S K) :=
  E_W_end hS hR ix1 rfl rfl h
def e_W_place (M : rf_M) (K : Int → rf_M → Prop) : Prop := ∀ M1 : rf_M, M1 = wi M 353 0 0 → (K (gi M1 353 10) M1)
theorem E_W_place {fz : Bool} {S : gS} {B : rf_M} {M : rf_M} {ls : rf_L} {n0 : Nat} {K : Int → rf_M → Prop} (hS : rl S) (hR : fl 353 406 B M) (a0 : rf_ld ls 0 = some (.ref 353)) (h : e_W_place M K) : lx (cx0 fz) n0 152 0 ls [] (M, S) (vl_i 353 406 B S K) := by
  unfold e_W_place at h
  refine l1 (n := 1) rfl rfl rfl (la_of a0) ?_
  refine l1 (n := 1) rfl rfl rfl rfl ?_
  refine l_pi rfl (ko_11 (fz := fz) hS (List.Mem.head _)) rfl (fun _ _ => rfl) (fun M1 e => ?_)
  replace h := h M1 e
  have r1 := hR.wi (Nat.le_of_ble_eq_true rfl) (Nat.le_of_ble_eq_true rfl) e
  refine l1 (n := 1) rfl rfl rfl (la_of a0) ?_
  refine l_gi rfl (ko_11 hS (List.Mem.head _)) rfl (fun _ => rfl) ?_
  exact l_ri rfl rfl (inr_gi _ _ _) r1 h
def em_W_place (M : rf_M) (K : Int → rf_M → Prop) : Prop := e_W_place  M K
theorem E_W_place_m {fz : Bool} {S : gS} {B : rf_M} {M : rf_M} {n0 : Nat} {K : Int → rf_M → Prop} (hS : rl S) (hR : fl 353 406 B M) (h : em_W_place  M K) : lx (cx0 fz) n0 152 0 (lv_args 0 [.ref 353]) [] (M, S) (vl_i 353 406 B S K) :=
  E_W_place hS hR rfl h
def e_W_told_17 (M : rf_M) (K : Int → rf_M → Prop) : Prop := K (-1) M
theorem E_W_told_17 {fz : Bool} {S : gS} {B : rf_M} {M : rf_M} {ls : rf_L} {n0 : Nat} {K : Int → rf_M → Prop} (hS : rl S) (hR : fl 353 406 B M) (h : e_W_told_17 M K) : lx (cx0 fz) n0 153 17 ls [] (M, S) (vl_i 353 406 B S K) := by
  unfold e_W_told_17 at h
  refine l1 (n := 1) rfl rfl rfl rfl ?_
  exact l_ri rfl rfl ⟨by decide, by decide⟩ hR h
def e_W_told_61 (s0 : Int) (M : rf_M) (K : Int → rf_M → Prop) : Prop := K s0 M
theorem E_W_told_61 {fz : Bool} {S : gS} {B : rf_M} {M : rf_M} {ls : rf_L} {n0 : Nat} {s0 : Int} {K : Int → rf_M → Prop} (hS : rl S) (hR : fl 353 406 B M) (is0 : inr s0) (h : e_W_told_61 s0 M K) : lx (cx0 fz) n0 153 61 ls [zv s0] (M, S) (vl_i 353 406 B S K) := by
  unfold e_W_told_61 at h
  exact l_ri rfl rfl is0 hR h
def e_W_told (v1 : Int) (v2 : Int) (M : rf_M) (K : Int → rf_M → Prop) : Prop := ∀ M1 : rf_M, M1 = wi M 353 0 0 → ((v1 < 0 → (e_W_told_17 M1 K)) ∧ (¬ (v1 < 0) → ((v1 < (gi M1 353 11) → ((v2 = 0 → ((0 ≤ v1 ∧ v1 < 12 → (e_W_told_61 (gi M1 355 (v1).toNat) M1 K)))) ∧ (¬ v2 = 0 → ((v2 = 1 → ((0 ≤ v1 ∧ v1 < 12 → (e_W_told_61 (gi M1 356 (v1).toNat) M1 K)))) ∧ (¬ v2 = 1 → ((v2 = 2 → ((0 ≤ v1 ∧ v1 < 12 → (e_W_told_61 (gi M1 357 (v1).toNat) M1 K)))) ∧ (¬ v2 = 2 → (e_W_told_61 (-1) M1 K)))))))) ∧ (¬ (v1 < (gi M1 353 11)) → (e_W_told_17 M1 K)))))
theorem E_W_told {fz : Bool} {S : gS} {B : rf_M} {M : rf_M} {ls : rf_L} {n0 : Nat} {v1 : Int} {v2 : Int} {K : Int → rf_M → Prop} (hS : rl S) (hR : fl 353 406 B M) (iv1 : inr v1) (iv2 : inr v2) (a0 : rf_ld ls 0 = some (.ref 353)) (a1 : rf_ld ls 1 = some (zv v1)) (a2 : rf_ld ls 2 = some (zv v2)) (h : e_W_told v1 v2 M K) : lx (cx0 fz) n0 153 0 ls [] (M, S) (vl_i 353 406 B S K) := by
  unfold e_W_told at h
  refine l1 (n := 1) rfl rfl rfl (la_of a0) ?_
  refine l1 (n := 1) rfl rfl rfl rfl ?_
  refine l_pi rfl (ko_11 (fz := fz) hS (List.Mem.head _)) rfl (fun _ _ => rfl) (fun M1 e => ?_)
  replace h := h M1 e
  have r1 := hR.wi (Nat.le_of_ble_eq_true rfl) (Nat.le_of_ble_eq_true rfl) e
  refine l1 (n := 1) rfl rfl rfl (li_of a1) ?_
  refine l_if rfl iv1 (fun c => ?_) (fun c => ?_)
  · replace h := h.1 c
    exact E_W_told_17 hS r1  h
  · replace h := h.2 c
    refine l1 (n := 1) rfl rfl rfl (li_of a1) ?_
    refine l1 (n := 1) rfl rfl rfl (la_of a0) ?_
    refine l_gi rfl (ko_11 hS (List.Mem.head _)) rfl (fun _ => rfl) ?_
    refine l_ic rfl iv1 (inr_gi _ _ _) (fun c => ?_) (fun c => ?_)
    · replace h := h.1 c
      refine l1 (n := 1) rfl rfl rfl (li_of a2) ?_
      refine l_if rfl iv2 (fun c => ?_) (fun c => ?_)
      · replace h := h.2 c
        refine l1 (n := 1) rfl rfl rfl (li_of a2) ?_
        refine l1 (n := 1) rfl rfl rfl rfl ?_
        refine l_ic rfl iv2 ⟨by decide, by decide⟩ (fun c => ?_) (fun c => ?_)
        · replace h := h.2 c
          refine l1 (n := 1) rfl rfl rfl (li_of a2) ?_
          refine l1 (n := 1) rfl rfl rfl rfl ?_
          refine l_ic rfl iv2 ⟨by decide, by decide⟩ (fun c => ?_) (fun c => ?_)
          · replace h := h.2 c
            refine l1 (n := 1) rfl rfl rfl rfl ?_
            exact E_W_told_61 hS r1 ⟨by decide, by decide⟩ h
          · replace h := h.1 (Classical.not_not.mp c)
            refine l1 (n := 1) rfl rfl rfl (la_of a0) ?_
            refine l_gr rfl (ko_11 hS (List.Mem.head _)) rfl (fun _ => rfl) (kf_11_14 r1.2 (List.Mem.head _)) ?_
            refine l1 (n := 1) rfl rfl rfl (li_of a1) ?_
            refine b_ia rfl (kc_357 (fz := fz) hS).1 (Nat.le_of_ble_eq_true rfl) iv1 (fun q => ?_)
            replace h := h q
            refine l3 rfl rfl rfl ?_
            exact E_W_told_61 hS r1 (inr_gi _ _ _) h
        · replace h := h.1 (Classical.not_not.mp c)
          refine l1 (n := 1) rfl rfl rfl (la_of a0) ?_
          refine l_gr rfl (ko_11 hS (List.Mem.head _)) rfl (fun _ => rfl) (kf_11_13 r1.2 (List.Mem.head _)) ?_
          refine l1 (n := 1) rfl rfl rfl (li_of a1) ?_
          refine b_ia rfl (kc_356 (fz := fz) hS).1 (Nat.le_of_ble_eq_true rfl) iv1 (fun q => ?_)
          replace h := h q
          refine l3 rfl rfl rfl ?_
          exact E_W_told_61 hS r1 (inr_gi _ _ _) h
      · replace h := h.1 (Classical.not_not.mp c)
        refine l1 (n := 1) rfl rfl rfl (la_of a0) ?_
        refine l_gr rfl (ko_11 hS (List.Mem.head _)) rfl (fun _ => rfl) (kf_11_12 r1.2 (List.Mem.head _)) ?_
        refine l1 (n := 1) rfl rfl rfl (li_of a1) ?_
        refine b_ia rfl (kc_355 (fz := fz) hS).1 (Nat.le_of_ble_eq_true rfl) iv1 (fun q => ?_)
        replace h := h q
        refine l3 rfl rfl rfl ?_
        exact E_W_told_61 hS r1 (inr_gi _ _ _) h
    · replace h := h.2 c
      exact E_W_told_17 hS r1  h
def em_W_told (x1 : Int) (x2 : Int) (M : rf_M) (K : Int → rf_M → Prop) : Prop := e_W_told x1 x2 M K
theorem E_W_told_m {fz : Bool} {S : gS} {B : rf_M} {M : rf_M} {n0 : Nat} {x1 : Int} {x2 : Int} {K : Int → rf_M → Prop} (hS : rl S) (hR : fl 353 406 B M) (ix1 : inr x1) (ix2 : inr x2) (h : em_W_told x1 x2 M K) : lx (cx0 fz) n0 153 0 (lv_args 0 [.ref 353, zv x1, zv x2]) [] (M, S) (vl_i 353 406 B S K) :=
  E_W_told hS hR ix1 ix2 rfl rfl rfl h
