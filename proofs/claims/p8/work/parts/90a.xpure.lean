/-! the machine of exps does what the descent does -/
def xr (T : tK) (ir : Bool) (σ σ' : xM) : Prop := ∃ c, ∀ k, x_ev T ir (k + c) σ = x_ev T ir k σ'
def xf (T : tK) (ir : Bool) (σ : xM) : Prop := ∃ m i u, x_ev T ir m σ = some (i, u, false)
def xg (T : tK) (ir : Bool) (F : pS → pS) (ρ : List Int) (cs : List Bool) (Q : Nat → Prop) : Prop := ∀ i n u dp, u ≤ 60 → (∃ i' u', F (i, ir, n, u, dp, true) = (i', ir, n, u', dp, true) ∧ u < u' ∧ u' ≤ 60 ∧ Q i' ∧ xr T ir (i, u, true, ρ, cs) (i', u', false, dm ρ, cs)) ∨ ((F (i, ir, n, u, dp, true)).2.2.2.2.2 = false ∧ xf T ir (i, u, true, ρ, cs))
section XE
variable {T : tK} {ir : Bool} {σ σ' σ'' : xM} {ρ : List Int} {cs : List Bool} {U : pS → pS} {Q : Nat → Prop}
theorem xr.refl' (T : tK) (ir : Bool) (σ : xM) : xr T ir σ σ := ⟨0, fun _ => rfl⟩
theorem xr.trans (h : xr T ir σ σ') (h' : xr T ir σ' σ'') : xr T ir σ σ'' := by
  obtain ⟨c, hc⟩ := h
  obtain ⟨d, hd⟩ := h'
  exact ⟨d + c, fun k => by rw [← Nat.add_assoc, hc, hd]⟩
theorem xr_step (h : x_step T ir σ = .inl σ') : xr T ir σ σ' := ⟨1, fun k => by
  show (match x_step T ir σ with | .inl σ' => x_ev T ir k σ' | .inr h => some h) = _
  rw [h]⟩
theorem xf_halt {i u : Nat} (h : x_step T ir σ = .inr (i, u, false)) : xf T ir σ := ⟨1, i, u, by
  show (match x_step T ir σ with | .inl σ' => x_ev T ir 0 σ' | .inr h => some h) = _
  rw [h]⟩
theorem xf.of (h : xf T ir σ') (r : xr T ir σ σ') : xf T ir σ := by
  obtain ⟨m, i, u, e⟩ := h
  obtain ⟨c, hc⟩ := r
  exact ⟨m + c, i, u, (hc m).trans e⟩
theorem p_adv_lt {s : pS} (h : s.1 < T.length) : p_adv T s = (s.1 + 1, s.2) := by
  unfold p_adv
  rw [if_pos h]
theorem i32_eq {x : Int32} {n : Int32} : x = n ↔ x.toInt = n.toInt := ⟨fun e => by rw [e], fun e => Int32.toInt_inj.mp e⟩
theorem x_go (hρ : dm ρ = ρ) {i u : Nat} (h : 1 < stg (kd T i).toInt) : xr T ir (i, u, false, ρ, cs) (i + 1, u, true, ρ, cs) := by
  refine xr_step ?_
  unfold x_step
  dsimp only
  have hb := stg_b (x := (kd T i).toInt) (by omega)
  have n41 : ¬ (kd T i).toInt = 41 := fun z => by
    rw [z] at h
    exact absurd h (by decide)
  rw [if_neg (by decide), if_neg (fun z => n41 z.1), if_pos h]
theorem x_loop {c : pS → Bool} (hρ : dm ρ = ρ) (hc : ∀ s, c s = true → s.2.2.2.2.2 = true ∧ 1 < stg (kd T s.1).toInt) (hu : xg T ir U ρ cs Q) : ∀ (f i n u dp : Nat), u ≤ 60 → 61 ≤ u + f → Q i → (∃ i' u', p_loop c (fun s => U (p_adv T s)) f (i, ir, n, u, dp, true) = (i', ir, n, u', dp, true) ∧ u ≤ u' ∧ u' ≤ 60 ∧ (Q i' ∧ c (i', ir, n, u', dp, true) = false) ∧ xr T ir (i, u, false, ρ, cs) (i', u', false, ρ, cs)) ∨ ((p_loop c (fun s => U (p_adv T s)) f (i, ir, n, u, dp, true)).2.2.2.2.2 = false ∧ xf T ir (i, u, false, ρ, cs)) := by
  intro f
  induction f with
  | zero => intro i n u dp h1 h2; omega
  | succ f ih =>
    intro i n u dp h1 h2 hq
    have e : p_loop c (fun s => U (p_adv T s)) (f + 1) (i, ir, n, u, dp, true) = if c (i, ir, n, u, dp, true) = true then p_loop c (fun s => U (p_adv T s)) f (U (p_adv T (i, ir, n, u, dp, true))) else (i, ir, n, u, dp, true) := rfl
    rw [e]
    cases hcs : c (i, ir, n, u, dp, true) with
    | false => exact Or.inl ⟨i, u, rfl, Nat.le_refl _, h1, ⟨hq, hcs⟩, xr.refl' T ir _⟩
    | true =>
      rw [if_pos rfl]
      have hst := (hc _ hcs).2
      have hil : i < T.length := kd_lt (fun z => by
        have hst : 1 < stg (kd T i).toInt := hst
        rw [z] at hst; exact absurd hst (by decide))
      rw [p_adv_lt (s := (i, ir, n, u, dp, true)) hil]
      have hgo := x_go (T := T) (ir := ir) (cs := cs) hρ (u := u) hst
      rcases hu (i + 1) n u dp h1 with ⟨i2, u2, q1, q2, q3, q4, q5⟩ | ⟨q1, q2⟩
      · rw [hρ] at q5
        show (∃ i' u', p_loop c (fun s => U (p_adv T s)) f (U (i + 1, ir, n, u, dp, true)) = (i', ir, n, u', dp, true) ∧ _) ∨ ((p_loop c (fun s => U (p_adv T s)) f (U (i + 1, ir, n, u, dp, true))).2.2.2.2.2 = false ∧ _)
        rw [q1]
        rcases ih i2 n u2 dp q3 (by omega) q4 with ⟨i3, u3, r1, r2, r3, r4, r5⟩ | ⟨r1, r2⟩
        · exact Or.inl ⟨i3, u3, r1, by omega, r3, r4, (hgo.trans q5).trans r5⟩
        · exact Or.inr ⟨r1, r2.of (hgo.trans q5)⟩
      · refine Or.inr ⟨?_, q2.of hgo⟩
        show (p_loop c (fun s => U (p_adv T s)) f (U (i + 1, ir, n, u, dp, true))).2.2.2.2.2 = false
        generalize U (i + 1, ir, n, u, dp, true) = s' at q1
        cases f with
        | zero => exact q1
        | succ f =>
          show (if c s' = true then _ else s').2.2.2.2.2 = false
          cases hcs' : c s' with
          | false => exact q1
          | true => rw [(hc s' hcs').1] at q1; cases q1
def qm (T : tK) (i : Nat) : Prop := ¬ ((kd T i).toInt = 42 ∨ (kd T i).toInt = 47 ∨ (kd T i).toInt = 37)
def qa (T : tK) (i : Nat) : Prop := ¬ ((kd T i).toInt = 43 ∨ (kd T i).toInt = 45)
theorem p_is_iff {t : Int32} {s : pS} : p_is T t s = true ↔ s.2.2.2.2.2 = true ∧ (kd T s.1).toInt = t.toInt := by
  unfold p_is
  rw [Bool.and_eq_true, decide_eq_true_eq, i32_eq]
theorem x_prod (hρ : dm ρ = ρ) (hu : xg T ir U ρ cs (fun _ => True)) : xg T ir (p_prod T U) ρ cs (qm T) := by
  intro i n u dp h1
  rcases hu i n u dp h1 with ⟨i2, u2, q1, q2, q3, q4, q5⟩ | ⟨q1, q2⟩
  · have hl := x_loop (c := p_m T) hρ (fun s hs => by
      unfold p_m at hs
      simp only [Bool.or_eq_true, p_is_iff] at hs
      rcases hs with z | z | z
      · exact ⟨z.1, by rw [z.2]; decide⟩
      · exact ⟨z.1, by rw [z.2]; decide⟩
      · exact ⟨z.1, by rw [z.2]; decide⟩) hu 60 i2 n u2 dp q3 (by omega) trivial
    unfold p_prod
    rw [q1]
    rw [hρ] at q5 ⊢
    rcases hl with ⟨i3, u3, r1, r2, r3, r4, r5⟩ | ⟨r1, r2⟩
    · refine Or.inl ⟨i3, u3, r1, by omega, r3, ?_, q5.trans r5⟩
      intro z
      have := r4.2
      unfold p_m at this
      simp only [Bool.or_eq_false_iff] at this
      obtain ⟨w1, w2, w3⟩ := this
      rcases z with z | z | z
      · rw [(p_is_iff (t := 42)).mpr ⟨rfl, z⟩] at w1; cases w1
      · rw [(p_is_iff (t := 47)).mpr ⟨rfl, z⟩] at w2; cases w2
      · rw [(p_is_iff (t := 37)).mpr ⟨rfl, z⟩] at w3; cases w3
    · exact Or.inr ⟨r1, r2.of q5⟩
  · refine Or.inr ⟨?_, q2⟩
    unfold p_prod
    generalize U (i, ir, n, u, dp, true) = s' at q1
    show (if p_m T s' = true then _ else s').2.2.2.2.2 = false
    have : p_m T s' = false := by unfold p_m p_is; rw [q1]; rfl
    rw [this]; exact q1
theorem x_sum (hρ : dm ρ = ρ) (hu : xg T ir U ρ cs (fun _ => True)) : xg T ir (p_sum T U) ρ cs (fun i => qm T i ∧ qa T i) := by
  have hp := x_prod hρ hu
  intro i n u dp h1
  rcases hp i n u dp h1 with ⟨i2, u2, q1, q2, q3, q4, q5⟩ | ⟨q1, q2⟩
  · have hl := x_loop (c := p_a T) hρ (fun s hs => by
      unfold p_a at hs
      simp only [Bool.or_eq_true, p_is_iff] at hs
      rcases hs with z | z
      · exact ⟨z.1, by rw [z.2]; decide⟩
      · exact ⟨z.1, by rw [z.2]; decide⟩) hp 60 i2 n u2 dp q3 (by omega) q4
    unfold p_sum
    rw [q1]
    rw [hρ] at q5 ⊢
    rcases hl with ⟨i3, u3, r1, r2, r3, r4, r5⟩ | ⟨r1, r2⟩
    · refine Or.inl ⟨i3, u3, r1, by omega, r3, ⟨r4.1, ?_⟩, q5.trans r5⟩
      intro z
      have := r4.2
      unfold p_a at this
      simp only [Bool.or_eq_false_iff] at this
      obtain ⟨w1, w2⟩ := this
      rcases z with z | z
      · rw [(p_is_iff (t := 43)).mpr ⟨rfl, z⟩] at w1; cases w1
      · rw [(p_is_iff (t := 45)).mpr ⟨rfl, z⟩] at w2; cases w2
    · exact Or.inr ⟨r1, r2.of q5⟩
  · refine Or.inr ⟨?_, q2⟩
    unfold p_sum
    generalize p_prod T U (i, ir, n, u, dp, true) = s' at q1
    show (if p_a T s' = true then _ else s').2.2.2.2.2 = false
    have : p_a T s' = false := by unfold p_a p_is; rw [q1]; rfl
    rw [this]; exact q1
theorem stg_small {k : Int} (h1 : ¬ (k = 42 ∨ k = 47 ∨ k = 37)) (h2 : ¬ (k = 43 ∨ k = 45)) : ¬ 1 < stg k ∧ (stg k = 1 ↔ (k = 60 ∨ k = 61 ∨ k = 35)) := by
  unfold stg
  rw [if_neg h1, if_neg h2]
  split
  · rename_i z; exact ⟨by omega, fun _ => z, fun _ => rfl⟩
  · rename_i z; exact ⟨by omega, fun q => absurd q (by decide), fun q => absurd q z⟩
/-- an exp: it ends before what can't go on -/
theorem x_expr (hρ : dm ρ = ρ) (hu : ∀ cs, xg T ir U ρ cs (fun _ => True)) : ∀ i n u dp, u ≤ 60 → (∃ i' u' c, p_expr T U (i, ir, n, u, dp, true) = (i', ir, n, u', dp, true) ∧ u < u' ∧ u' ≤ 60 ∧ (¬ 1 < stg (kd T i').toInt ∧ ¬ (stg (kd T i').toInt = 1 ∧ c = false)) ∧ xr T ir (i, u, true, ρ, false :: cs) (i', u', false, ρ, c :: cs)) ∨ ((p_expr T U (i, ir, n, u, dp, true)).2.2.2.2.2 = false ∧ xf T ir (i, u, true, ρ, false :: cs)) := by
  intro i n u dp h1
  unfold p_expr
  rcases x_sum hρ (hu (false :: cs)) i n u dp h1 with ⟨i2, u2, q1, q2, q3, q4, q5⟩ | ⟨q1, q2⟩
  · rw [hρ] at q5
    rw [q1]
    have hs := stg_small q4.1 q4.2
    cases hc : p_c T (i2, ir, n, u2, dp, true) with
    | false =>
      rw [if_neg (by decide)]
      refine Or.inl ⟨i2, u2, false, rfl, q2, q3, ⟨hs.1, fun z => ?_⟩, q5⟩
      unfold p_c at hc
      simp only [Bool.or_eq_false_iff] at hc
      obtain ⟨w1, w2, w3⟩ := hc
      rcases hs.2.mp z.1 with z | z | z
      · rw [(p_is_iff (t := 60)).mpr ⟨rfl, z⟩] at w1; cases w1
      · rw [(p_is_iff (t := 61)).mpr ⟨rfl, z⟩] at w2; cases w2
      · rw [(p_is_iff (t := 35)).mpr ⟨rfl, z⟩] at w3; cases w3
    | true =>
      rw [if_pos rfl]
      have hst : stg (kd T i2).toInt = 1 := by
        refine hs.2.mpr ?_
        unfold p_c at hc
        simp only [Bool.or_eq_true, p_is_iff] at hc
        rcases hc with z | z | z
        · exact Or.inl z.2
        · exact Or.inr (Or.inl z.2)
        · exact Or.inr (Or.inr z.2)
      have hil : i2 < T.length := kd_lt (fun z => by rw [z] at hst; exact absurd hst (by decide))
      rw [p_adv_lt (s := (i2, ir, n, u2, dp, true)) hil]
      have hgo : xr T ir (i2, u2, false, ρ, false :: cs) (i2 + 1, u2, true, ρ, true :: cs) := by
        refine xr_step ?_
        unfold x_step
        dsimp only
        have n41 : ¬ (kd T i2).toInt = 41 := fun z => by rw [z] at hst; exact absurd hst (by decide)
        rw [if_neg (by decide), if_neg (fun z => n41 z.1), if_neg hs.1, if_pos ⟨hst, rfl⟩]
        rfl
      show (∃ i' u' c, p_sum T U (i2 + 1, ir, n, u2, dp, true) = (i', ir, n, u', dp, true) ∧ _) ∨ ((p_sum T U (i2 + 1, ir, n, u2, dp, true)).2.2.2.2.2 = false ∧ _)
      rcases x_sum hρ (hu (true :: cs)) (i2 + 1) n u2 dp q3 with ⟨i3, u3, r1, r2, r3, r4, r5⟩ | ⟨r1, r2⟩
      · rw [hρ] at r5
        exact Or.inl ⟨i3, u3, true, r1, by omega, r3, ⟨(stg_small r4.1 r4.2).1, fun z => absurd z.2 (by decide)⟩, (q5.trans hgo).trans r5⟩
      · exact Or.inr ⟨r1, r2.of (q5.trans hgo)⟩
  · refine Or.inr ⟨?_, q2⟩
    generalize p_sum T U (i, ir, n, u, dp, true) = s' at q1
    have : p_c T s' = false := by unfold p_c p_is; rw [q1]; rfl
    rw [this]; exact q1
theorem x_un (hT : ∀ i, (kd T i).toInt = 1 → 0 ≤ (nb T i).toInt) : ∀ (f : Nat) (ρ : List Int) (cs : List Bool), ρ.length + f = 8 → xg T ir (p_un T f) ρ cs (fun _ => True) := by
  intro f
  induction f with
  | zero =>
    intro ρ cs hρ i n u dp h1
    unfold p_un
    dsimp only
    by_cases hu : u = 60
    · rw [if_pos (Or.inr (by omega))]
      refine Or.inr ⟨rfl, xf_halt (i := i) (u := u) ?_⟩
      unfold x_step
      dsimp only
      rw [if_pos rfl]
      split
      · rw [if_pos (Or.inl hu)]
      · split
        · rw [if_pos (Or.inl hu)]
        · split
          · rfl
          · rfl
    rw [if_neg (by simp; omega)]
    have e2 : p_is T 2 (p_u1 (i, ir, n, u, dp, true)) = true ↔ (kd T i).toInt = 2 := by rw [p_is_iff]; exact ⟨fun z => z.2, fun z => ⟨rfl, z⟩⟩
    have e1 : (p_is T 1 (p_u1 (i, ir, n, u, dp, true)) = true ∧ (p_cell (nb T i) = true ∨ ir = false)) ↔ ((kd T i).toInt = 1 ∧ (ir = false ∨ (nb T i).toInt < 16)) := by
      rw [p_is_iff]
      constructor
      · rintro ⟨z1, z2⟩
        refine ⟨z1.2, ?_⟩
        rcases z2 with z2 | z2
        · unfold p_cell at z2; simp at z2; exact Or.inr z2.2
        · exact Or.inl z2
      · rintro ⟨z1, z2⟩
        refine ⟨⟨rfl, z1⟩, ?_⟩
        rcases z2 with z2 | z2
        · exact Or.inr z2
        · refine Or.inl ?_
          have := hT i z1
          unfold p_cell; simp; exact ⟨this, z2⟩
    have ok : ((kd T i).toInt = 2 ∨ ((kd T i).toInt = 1 ∧ (ir = false ∨ (nb T i).toInt < 16))) → ∃ i' u', p_adv T (p_u1 (i, ir, n, u, dp, true)) = (i', ir, n, u', dp, true) ∧ u < u' ∧ u' ≤ 60 ∧ True ∧ xr T ir (i, u, true, ρ, cs) (i', u', false, dm ρ, cs) := by
      intro hop
      have hil : i < T.length := kd_lt (by omega)
      refine ⟨i + 1, u + 1, ?_, by omega, by omega, trivial, xr_step ?_⟩
      · rw [p_adv_lt (s := p_u1 (i, ir, n, u, dp, true)) hil]; rfl
      · unfold x_step
        dsimp only
        rw [if_pos rfl, if_neg (by omega), if_neg (by omega), if_pos hop, if_neg hu]
    by_cases h2 : p_is T 2 (p_u1 (i, ir, n, u, dp, true)) = true
    · rw [if_pos h2]; exact Or.inl (ok (Or.inl (e2.mp h2)))
    rw [if_neg h2]
    by_cases h1' : p_is T 1 (p_u1 (i, ir, n, u, dp, true)) = true ∧ (p_cell (nb T i) = true ∨ ir = false)
    · rw [if_pos h1']; exact Or.inl (ok (Or.inr (e1.mp h1')))
    rw [if_neg h1']
    refine Or.inr ⟨rfl, xf_halt (i := i) (u := u) ?_⟩
    unfold x_step
    dsimp only
    rw [if_pos rfl]
    split
    · rw [if_pos (Or.inr (by omega))]
    · split
      · rw [if_pos (Or.inr (by omega))]
      · rw [if_neg (fun z => z.elim (fun z => h2 (e2.mpr z)) (fun z => h1' (e1.mpr z)))]
  | succ f ih =>
    intro ρ cs hρ i n u dp h1
    unfold p_un
    dsimp only
    by_cases hu : u = 60
    · rw [if_pos (Or.inr (by omega))]
      refine Or.inr ⟨rfl, xf_halt (i := i) (u := u) ?_⟩
      unfold x_step
      dsimp only
      rw [if_pos rfl]
      split
      · rw [if_pos (Or.inl hu)]
      · split
        · rw [if_pos (Or.inl hu)]
        · split
          · rfl
          · rfl
    rw [if_neg (by simp; omega)]
    have e2 : p_is T 2 (p_u1 (i, ir, n, u, dp, true)) = true ↔ (kd T i).toInt = 2 := by rw [p_is_iff]; exact ⟨fun z => z.2, fun z => ⟨rfl, z⟩⟩
    have e45 : p_is T 45 (p_u1 (i, ir, n, u, dp, true)) = true ↔ (kd T i).toInt = 45 := by rw [p_is_iff]; exact ⟨fun z => z.2, fun z => ⟨rfl, z⟩⟩
    have e40 : p_is T 40 (p_u1 (i, ir, n, u, dp, true)) = true ↔ (kd T i).toInt = 40 := by rw [p_is_iff]; exact ⟨fun z => z.2, fun z => ⟨rfl, z⟩⟩
    have e1 : (p_is T 1 (p_u1 (i, ir, n, u, dp, true)) = true ∧ (p_cell (nb T i) = true ∨ ir = false)) ↔ ((kd T i).toInt = 1 ∧ (ir = false ∨ (nb T i).toInt < 16)) := by
      rw [p_is_iff]
      constructor
      · rintro ⟨z1, z2⟩
        refine ⟨z1.2, ?_⟩
        rcases z2 with z2 | z2
        · unfold p_cell at z2; simp at z2; exact Or.inr z2.2
        · exact Or.inl z2
      · rintro ⟨z1, z2⟩
        refine ⟨⟨rfl, z1⟩, ?_⟩
        rcases z2 with z2 | z2
        · exact Or.inr z2
        · refine Or.inl ?_
          have := hT i z1
          unfold p_cell; simp; exact ⟨this, z2⟩
    have ok : ((kd T i).toInt = 2 ∨ ((kd T i).toInt = 1 ∧ (ir = false ∨ (nb T i).toInt < 16))) → ∃ i' u', p_adv T (p_u1 (i, ir, n, u, dp, true)) = (i', ir, n, u', dp, true) ∧ u < u' ∧ u' ≤ 60 ∧ True ∧ xr T ir (i, u, true, ρ, cs) (i', u', false, dm ρ, cs) := by
      intro hop
      have hil : i < T.length := kd_lt (by omega)
      refine ⟨i + 1, u + 1, ?_, by omega, by omega, trivial, xr_step ?_⟩
      · rw [p_adv_lt (s := p_u1 (i, ir, n, u, dp, true)) hil]; rfl
      · unfold x_step
        dsimp only
        rw [if_pos rfl, if_neg (by omega), if_neg (by omega), if_pos hop, if_neg hu]
    by_cases h2 : p_is T 2 (p_u1 (i, ir, n, u, dp, true)) = true
    · rw [if_pos h2]; exact Or.inl (ok (Or.inl (e2.mp h2)))
    rw [if_neg h2]
    by_cases h1' : p_is T 1 (p_u1 (i, ir, n, u, dp, true)) = true ∧ (p_cell (nb T i) = true ∨ ir = false)
    · rw [if_pos h1']; exact Or.inl (ok (Or.inr (e1.mp h1')))
    rw [if_neg h1']
    by_cases h45 : p_is T 45 (p_u1 (i, ir, n, u, dp, true)) = true
    · rw [if_pos h45]
      have hk := e45.mp h45
      have hil : i < T.length := kd_lt (by omega)
      rw [p_adv_lt (s := p_u1 (i, ir, n, u, dp, true)) hil]
      have hgo : xr T ir (i, u, true, ρ, cs) (i + 1, u + 1, true, 1000 :: ρ, cs) := by
        refine xr_step ?_
        unfold x_step
        dsimp only
        rw [if_pos rfl, if_pos hk, if_neg (by omega)]
      show (∃ i' u', p_un T f (i + 1, ir, n, u + 1, dp, true) = (i', ir, n, u', dp, true) ∧ _) ∨ ((p_un T f (i + 1, ir, n, u + 1, dp, true)).2.2.2.2.2 = false ∧ _)
      rcases ih (1000 :: ρ) cs (by simp; omega) (i + 1) n (u + 1) dp (by omega) with ⟨i2, u2, q1, q2, q3, q4, q5⟩ | ⟨q1, q2⟩
      · exact Or.inl ⟨i2, u2, q1, by omega, q3, trivial, hgo.trans q5⟩
      · exact Or.inr ⟨q1, q2.of hgo⟩
    rw [if_neg h45]
    by_cases h40 : p_is T 40 (p_u1 (i, ir, n, u, dp, true)) = true
    · rw [if_pos h40]
      have hk := e40.mp h40
      have hil : i < T.length := kd_lt (by omega)
      rw [p_adv_lt (s := p_u1 (i, ir, n, u, dp, true)) hil]
      have hgo : xr T ir (i, u, true, ρ, cs) (i + 1, u + 1, true, 40 :: ρ, false :: cs) := by
        refine xr_step ?_
        unfold x_step
        dsimp only
        rw [if_pos rfl, if_neg (by omega), if_pos hk, if_neg (by omega)]
      have hd : dm (40 :: ρ) = 40 :: ρ := if_neg (by decide)
      show (∃ i' u', p_ex T 41 (p_expr T (p_un T f) (i + 1, ir, n, u + 1, dp, true)) = (i', ir, n, u', dp, true) ∧ _) ∨ ((p_ex T 41 (p_expr T (p_un T f) (i + 1, ir, n, u + 1, dp, true))).2.2.2.2.2 = false ∧ _)
      rcases x_expr (cs := cs) hd (fun cs => ih (40 :: ρ) cs (by simp; omega)) (i + 1) n (u + 1) dp (by omega) with ⟨i2, u2, c, q1, q2, q3, q4, q5⟩ | ⟨q1, q2⟩
      · rw [q1]
        unfold p_ex
        by_cases h41 : p_is T 41 (i2, ir, n, u2, dp, true) = true
        · rw [if_pos h41]
          have hk2 : (kd T i2).toInt = 41 := (p_is_iff.mp h41).2
          have hil2 : i2 < T.length := kd_lt (by omega)
          rw [p_adv_lt (s := (i2, ir, n, u2, dp, true)) hil2]
          refine Or.inl ⟨i2 + 1, u2, rfl, by omega, q3, trivial, (hgo.trans q5).trans (xr_step ?_)⟩
          unfold x_step
          dsimp only
          rw [if_neg (by decide), if_pos ⟨hk2, by rw [(fil_p ρ).2.1]; omega⟩]
          rfl
        · rw [if_neg h41]
          refine Or.inr ⟨rfl, (xf_halt (i := i2) (u := u2) ?_).of (hgo.trans q5)⟩
          unfold x_step
          dsimp only
          have hlv : ¬ lv (40 :: ρ) = 0 := by rw [(fil_p ρ).2.1]; omega
          rw [if_neg (by decide), if_neg (fun z => h41 (p_is_iff.mpr ⟨rfl, z.1⟩)), if_neg q4.1, if_neg (fun z => q4.2 ⟨z.1, by simpa using z.2⟩)]
          simp [hlv]
      · refine Or.inr ⟨?_, q2.of hgo⟩
        generalize p_expr T (p_un T f) (i + 1, ir, n, u + 1, dp, true) = s' at q1
        unfold p_ex
        have : p_is T 41 s' = false := by unfold p_is; rw [q1]; rfl
        rw [this]; rfl
    rw [if_neg h40]
    refine Or.inr ⟨rfl, xf_halt (i := i) (u := u) ?_⟩
    unfold x_step
    dsimp only
    rw [if_pos rfl, if_neg (fun z => h45 (e45.mpr z)), if_neg (fun z => h40 (e40.mpr z)), if_neg (fun z => z.elim (fun z => h2 (e2.mpr z)) (fun z => h1' (e1.mpr z)))]
/-- an exp as a whole -/
theorem x_exq (hT : ∀ i, (kd T i).toInt = 1 → 0 ≤ (nb T i).toInt) (i n u dp : Nat) (h1 : u ≤ 60) : ∃ m H, x_ev T ir m (i, u, true, [], [false]) = some H ∧ ((p_exq T (i, ir, n, u, dp, true) = (H.1, ir, n, H.2.1, dp, true) ∧ H.2.2 = true ∧ u < H.2.1 ∧ H.2.1 ≤ 60) ∨ ((p_exq T (i, ir, n, u, dp, true)).2.2.2.2.2 = false ∧ H.2.2 = false)) := by
  unfold p_exq
  rcases x_expr (T := T) (ir := ir) (ρ := []) (cs := []) rfl (fun cs => x_un hT 8 [] cs rfl) i n u dp h1 with ⟨i2, u2, c, q1, q2, q3, q4, q5⟩ | ⟨q1, m, i2, u2, q2⟩
  · obtain ⟨k, hk⟩ := q5
    refine ⟨1 + k, (i2, u2, true), ?_, Or.inl ⟨q1, rfl, q2, q3⟩⟩
    rw [hk 1]
    have hs : x_step T ir (i2, u2, false, [], [c]) = .inr (i2, u2, true) := by
      unfold x_step
      dsimp only
      rw [if_neg (by decide), if_neg (fun z => absurd z.2 (by decide)), if_neg q4.1, if_neg (fun z => q4.2 ⟨z.1, by simpa using z.2⟩)]
      rfl
    show (match x_step T ir (i2, u2, false, [], [c]) with | .inl σ' => x_ev T ir 0 σ' | .inr h => some h) = _
    rw [hs]
  · exact ⟨m, (i2, u2, false), q2, Or.inr ⟨q1, rfl⟩⟩
end XE
