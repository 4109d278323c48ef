/-! THE REFERENCE'S RUN: what is read, the world -/
theorem or_lit : ∀ l, l < 16 → (Int32.ofInt 1 <<< (Int32.ofInt (l : Nat) &&& 31)) = (1 : Int32) <<< Int32.ofNat l := by decide
/-- the reference's reads, its world -/
def rR (M : rf_M) : rdT := (M.1 353 52, fun l => M.2.1 389 l, fun l => M.1 390 l)
def wR (M : rf_M) (d : Nat) : wdT := (fun l => M.2.1 376 (16 * d + l), fun l => M.1 377 (16 * d + l))
theorem gi_ofi (M : rf_M) (a k : Nat) : Int32.ofInt (gi M a k) = M.1 a k := ofi_ti _
theorem gi_eq {M M' : rf_M} {a k a' k' : Nat} : gi M a k = gi M' a' k' ↔ M.1 a k = M'.1 a' k' := ⟨fun h => Int32.toInt_inj.mp h, fun h => congrArg Int32.toInt h⟩
theorem x_isChanged {M : rf_M} {d : Nat} {K : Int → rf_M → Prop} (hd : gi M 353 42 = d) (h2 : d < 2) (kk : K (if stale (wR M d) (rR M) = true then 1 else 0) M) : em_W_isChanged M K := by
  refine ⟨fun v M' => M' = M ∧ 0 ≤ v ∧ v ≤ 16 ∧ ∀ l : Nat, (l : Int) < v → (bt (rR M).1 l && !(decide ((rR M).2.2 l = (wR M d).2 l))) = false, ⟨rfl, by omega, by omega, fun l hl => absurd hl (by omega)⟩, ?_⟩
  rintro v M' - ⟨rfl, v0, v16, hv⟩
  obtain ⟨l, rfl⟩ : ∃ l : Nat, v = (l : Int) := ⟨v.toNat, by omega⟩
  have tst : l < 16 → (Int32.ofInt (Int32.ofInt (gi M' 353 52) >>> (Int32.ofInt (l : Int) &&& 31)).toInt &&& Int32.ofInt 1).toInt = if bt (rR M').1 l = true then 1 else 0 := fun hl => by
    rw [i32_1, ofi_ti, gi_ofi, bt_shr _ hl]; rfl
  have nxt : l < 16 → (bt (rR M').1 l && !(decide ((rR M').2.2 l = (wR M' d).2 l))) = false → e_W_isChanged_45 (l : Int) M' (fun v M'' => M'' = M' ∧ 0 ≤ v ∧ v ≤ 16 ∧ ∀ l : Nat, (l : Int) < v → (bt (rR M').1 l && !(decide ((rR M').2.2 l = (wR M' d).2 l))) = false) K := fun hl hb => by
    refine ⟨⟨by omega, by omega⟩, rfl, by omega, by omega, fun l' hl' => ?_⟩
    by_cases e : l' = l
    · rw [e]; exact hb
    · exact hv l' (by omega)
  refine ⟨fun h => ?_, fun h => ⟨fun h1 _ => ⟨by rw [hd]; exact ⟨by omega, by omega⟩, fun _ => ⟨fun h3 => nxt (by omega) ?_, fun h3 => ?_⟩⟩, fun h1 => nxt (by omega) ?_⟩⟩
  · have e : stale (wR M' d) (rR M') = false := by
      unfold stale
      rw [List.any_eq_false]
      intro l' hl'
      rw [List.mem_range] at hl'
      rw [hv l' (by omega)]
      decide
    rw [e] at kk
    exact kk
  · rw [hd] at h3
    have h3 := gi_eq.mp h3
    have e : (16 * (d : Int) + (l : Int)).toNat = 16 * d + l := by omega
    rw [e] at h3
    have h3 : (rR M').2.2 l = (wR M' d).2 l := h3
    rw [decide_eq_true h3]; simp
  · have e : stale (wR M' d) (rR M') = true := by
      unfold stale
      rw [List.any_eq_true]
      refine ⟨l, List.mem_range.mpr (by omega), ?_⟩
      rw [tst (by omega)] at h1
      have hb : bt (rR M').1 l = true := by
        by_cases q : bt (rR M').1 l = true
        · exact q
        · rw [if_neg q] at h1; exact absurd h1 (by decide)
      have hne : ¬ (rR M').2.2 l = (wR M' d).2 l := fun q => h3 (by
        rw [hd]
        have e : (16 * (d : Int) + (l : Int)).toNat = 16 * d + l := by omega
        rw [e]
        exact gi_eq.mpr q)
      rw [hb, decide_eq_false hne]; rfl
    rw [e] at kk
    exact kk
  · rw [tst (by omega)] at h1
    have hb : bt (rR M').1 l = false := by
      cases q : bt (rR M').1 l with
      | false => rfl
      | true => rw [if_pos q] at h1; exact absurd rfl h1
    rw [hb]; rfl
