/-! the machine of statements does what the descent does -/
abbrev yM : Type := pS × List (Int × Int)
def yr (T : tK) (σ σ' : yM) : Prop := ∃ c, ∀ k, y_ev T (k + c) σ.1 σ.2 = y_ev T k σ'.1 σ'.2
def yf (T : tK) (σ : yM) : Prop := ∃ m F, y_ev T m σ.1 σ.2 = some F ∧ F.2.2.2.2.2 = false
section YG
variable {T : tK} {σ σ' σ'' : yM} {s : pS} {ks : List (Int × Int)} {p : Int × Int}
theorem yr.refl' (T : tK) (σ : yM) : yr T σ σ := ⟨0, fun _ => rfl⟩
theorem yr.trans (h : yr T σ σ') (h' : yr T σ' σ'') : yr T σ σ'' := by
  obtain ⟨c, hc⟩ := h
  obtain ⟨d, hd⟩ := h'
  exact ⟨d + c, fun k => by rw [← Nat.add_assoc, hc, hd]⟩
theorem yr_step (h1 : s.2.2.2.2.2 = true) (h2 : ¬ ((kd T s.1).toInt = 0 ∧ ks = [])) : yr T (s, ks) (y_step T s ks) := ⟨1, fun k => by
  show (if s.2.2.2.2.2 = false then some s else if (kd T s.1).toInt = 0 ∧ ks = [] then some s else y_ev T k (y_step T s ks).1 (y_step T s ks).2) = _
  rw [if_neg (by rw [h1]; decide), if_neg h2]⟩
theorem yf_bad (h : s.2.2.2.2.2 = false) : yf T (s, ks) := ⟨1, s, by
  show (if s.2.2.2.2.2 = false then some s else _) = _
  rw [if_pos h], h⟩
theorem yf.of (h : yf T σ') (r : yr T σ σ') : yf T σ := by
  obtain ⟨m, F, e, hF⟩ := h
  obtain ⟨c, hc⟩ := r
  exact ⟨m + c, F, (hc m).trans e, hF⟩
theorem p_ex_n {t : Int32} : (p_ex T t s).2.2.1 = s.2.2.1 := by
  unfold p_ex
  split
  · unfold p_adv; rfl
  · rfl
theorem p_loop_n {c : pS → Bool} {g : pS → pS} (hg : ∀ s, (g s).2.2.1 = s.2.2.1) : ∀ (f : Nat) (s : pS), (p_loop c g f s).2.2.1 = s.2.2.1
  | 0, s => rfl
  | f + 1, s => by
    show (if c s = true then p_loop c g f (g s) else s).2.2.1 = s.2.2.1
    split
    · rw [p_loop_n hg f, hg]
    · rfl
theorem p_expr_n {U : pS → pS} (hU : ∀ s, (U s).2.2.1 = s.2.2.1) (s : pS) : (p_expr T U s).2.2.1 = s.2.2.1 := by
  have hp : ∀ s, (p_prod T U s).2.2.1 = s.2.2.1 := fun s => by
    unfold p_prod
    rw [p_loop_n (fun s => by rw [hU]; rfl)]; exact hU s
  have hs : ∀ s, (p_sum T U s).2.2.1 = s.2.2.1 := fun s => by
    unfold p_sum
    rw [p_loop_n (fun s => by rw [hp]; rfl)]; exact hp s
  unfold p_expr
  split
  · rw [hs]; exact hs s
  · exact hs s
theorem p_un_n : ∀ (f : Nat) (s : pS), (p_un T f s).2.2.1 = s.2.2.1
  | 0, s => by
    unfold p_un
    split
    · rfl
    · split
      · rfl
      · split
        · rfl
        · rfl
  | f + 1, s => by
    unfold p_un
    split
    · rfl
    · split
      · rfl
      · split
        · rfl
        · split
          · rw [p_un_n f]; rfl
          · split
            · rw [p_ex_n, p_expr_n (p_un_n f)]; rfl
            · rfl
theorem p_exq_n (s : pS) : (p_exq T s).2.2.1 = s.2.2.1 := p_expr_n (p_un_n 8) s
theorem p_if_n (k : Int32) (s : pS) : (p_if T k s).2.2.1 = s.2.2.1 := by
  unfold p_if
  split
  · rw [p_ex_n, p_exq_n, p_ex_n]
  · rfl
theorem p_st1_n {k : Int32} (hk : k.toInt = 1 ∨ k.toInt = 13 ∨ k.toInt = 14 ∨ k.toInt = 19) (b : pS → pS) (s : pS) : (p_st1 T b k s).2.2.1 = s.2.2.1 ∧ p_st1 T b k s = p_st1 T id k s := by
  rcases hk with z | z | z | z
  · have ek : k = 1 := i32_eq.mpr z
    subst ek
    exact ⟨by show (p_ex T 59 (p_exq T (p_ex T 61 s))).2.2.1 = _; rw [p_ex_n, p_exq_n, p_ex_n], rfl⟩
  · have ek : k = 13 := i32_eq.mpr z
    subst ek
    exact ⟨by show (p_ex T 59 s).2.2.1 = _; rw [p_ex_n], rfl⟩
  · have ek : k = 14 := i32_eq.mpr z
    subst ek
    exact ⟨by show (p_ex T 59 (p_exq T s)).2.2.1 = _; rw [p_ex_n, p_exq_n], rfl⟩
  · have ek : k = 19 := i32_eq.mpr z
    subst ek
    exact ⟨by show (p_ex T 59 (p_exq T (p_ir true s))).2.2.1 = _; rw [p_ex_n, p_exq_n]; rfl, rfl⟩
/-- a body, up to its brace -/
def yBd (T : tK) (B : pS → pS) (ks : List (Int × Int)) : Prop := ∀ (s : pS) (p : Int × Int), s.2.2.1 ≤ 40 → (∃ s2 : pS, B s = p_adv T s2 ∧ s2.2.2.2.2.2 = true ∧ (kd T s2.1).toInt = 125 ∧ s.2.2.1 ≤ s2.2.2.1 ∧ s2.2.2.1 ≤ 40 ∧ yr T (y_open T p s ks) (s2, p :: ks)) ∨ ((B s).2.2.2.2.2 = false ∧ yf T (y_open T p s ks))
/-- statements, up to what ends them -/
def yS (T : tK) (B : pS → pS) (ks : List (Int × Int)) : Prop := ∀ (s : pS), s.2.2.2.2.2 = true → s.2.2.1 ≤ 40 → (∃ s2 : pS, p_sts T B s = s2 ∧ s2.2.2.2.2.2 = true ∧ ((kd T s2.1).toInt = 0 ∨ (kd T s2.1).toInt = 125) ∧ s.2.2.1 ≤ s2.2.2.1 ∧ s2.2.2.1 ≤ 40 ∧ yr T (s, ks) (s2, ks)) ∨ ((p_sts T B s).2.2.2.2.2 = false ∧ yf T (s, ks))
theorem p_adv_ok : (p_adv T s).2.2.2.2.2 = s.2.2.2.2.2 := rfl
theorem y_pop (h1 : s.2.2.2.2.2 = true) (h2 : (kd T s.1).toInt = 125) : yr T (s, p :: ks) (if p.2 = 1 ∨ p.1 = 12 then (p_adv T s, ks) else if p.1 = 10 then (if p_is T 11 (p_adv T s) = true then y_open T (10, 1) (p_adv T (p_adv T s)) ks else (p_adv T s, ks)) else if p.1 = 15 then y_open T (15, 1) (p_ex T 16 (p_adv T s)) ks else y_open T (17, 1) (p_loc T (p_ex T 18 (p_adv T s))) ks) := by
  have := yr_step (T := T) (ks := p :: ks) h1 (fun z => by omega)
  have e : y_step T s (p :: ks) = (if p.2 = 1 ∨ p.1 = 12 then (p_adv T s, ks) else if p.1 = 10 then (if p_is T 11 (p_adv T s) = true then y_open T (10, 1) (p_adv T (p_adv T s)) ks else (p_adv T s, ks)) else if p.1 = 15 then y_open T (15, 1) (p_ex T 16 (p_adv T s)) ks else y_open T (17, 1) (p_loc T (p_ex T 18 (p_adv T s))) ks) := by
    unfold y_step
    rw [if_pos h2]
  rw [e] at this
  exact this
/-- the second body of a statement -/
theorem y_snd {B : pS → pS} {k : Int} (hB : yBd T B ks) (hn : s.2.2.1 ≤ 40) : (∃ s2 : pS, B s = s2 ∧ s2.2.2.2.2.2 = true ∧ s.2.2.1 ≤ s2.2.2.1 ∧ s2.2.2.1 ≤ 40 ∧ yr T (y_open T (k, 1) s ks) (s2, ks)) ∨ ((B s).2.2.2.2.2 = false ∧ yf T (y_open T (k, 1) s ks)) := by
  rcases hB s (k, 1) hn with ⟨s2, q1, q2, q3, q4, q5, q6⟩ | ⟨q1, q2⟩
  · have hp := y_pop (T := T) (ks := ks) (p := (k, 1)) q2 q3
    rw [if_pos (Or.inl rfl)] at hp
    exact Or.inl ⟨p_adv T s2, q1, q2, q4, q5, q6.trans hp⟩
  · exact Or.inr ⟨q1, q2⟩
theorem y_st {B : pS → pS} (hBb : ∀ s, s.2.2.2.2.2 = false → (B s).2.2.2.2.2 = false) (hB : yBd T B ks) (h1 : s.2.2.2.2.2 = true) (hn : s.2.2.1 ≤ 40) (h0 : ¬ (kd T s.1).toInt = 0) (h125 : ¬ (kd T s.1).toInt = 125) : (∃ s2 : pS, p_st T B s = s2 ∧ s2.2.2.2.2.2 = true ∧ s.2.2.1 < s2.2.2.1 ∧ s2.2.2.1 ≤ 40 ∧ yr T (s, ks) (s2, ks)) ∨ ((p_st T B s).2.2.2.2.2 = false ∧ yf T (s, ks)) := by
  have hstep := yr_step (T := T) (ks := ks) h1 (fun z => h0 z.1)
  unfold p_st
  by_cases hb : p_beg (kd T s.1) = true ∧ s.2.2.1 < 40
  · rw [if_pos hb]
    have hk' : (kd T s.1).toInt = 1 ∨ (kd T s.1).toInt = 10 ∨ (kd T s.1).toInt = 12 ∨ (kd T s.1).toInt = 13 ∨ (kd T s.1).toInt = 14 ∨ (kd T s.1).toInt = 15 ∨ (kd T s.1).toInt = 17 ∨ (kd T s.1).toInt = 19 := by
      have := hb.1
      unfold p_beg at this
      simpa using this
    have hes : y_step T s ks = (if (kd T s.1).toInt = 1 ∨ (kd T s.1).toInt = 13 ∨ (kd T s.1).toInt = 14 ∨ (kd T s.1).toInt = 19 then (p_st1 T id (kd T s.1) (p_adv T (p_c1 s)), ks) else y_open T ((kd T s.1).toInt, 0) (p_if T (kd T s.1) (p_adv T (p_c1 s))) ks) := by
      unfold y_step
      rw [if_neg h125, if_pos hb]
    rw [hes] at hstep
    have hn1 : (p_adv T (p_c1 s)).2.2.1 = s.2.2.1 + 1 := rfl
    generalize p_adv T (p_c1 s) = s1 at *
    by_cases hsim : (kd T s.1).toInt = 1 ∨ (kd T s.1).toInt = 13 ∨ (kd T s.1).toInt = 14 ∨ (kd T s.1).toInt = 19
    · rw [if_pos hsim] at hstep
      obtain ⟨e1, e2⟩ := p_st1_n (T := T) hsim B s1
      rw [e2] at e1 ⊢
      cases hok : (p_st1 T id (kd T s.1) s1).2.2.2.2.2 with
      | true => exact Or.inl ⟨_, rfl, hok, by omega, by omega, hstep⟩
      | false => exact Or.inr ⟨rfl, (yf_bad hok).of hstep⟩
    · rw [if_neg hsim] at hstep
      have hcom : p_st1 T B (kd T s.1) s1 = p_com T (kd T s.1) B s1 := by
        unfold p_st1
        rw [if_neg (fun z => hsim (Or.inl (by rw [z]; rfl))), if_neg (fun z => hsim (Or.inr (Or.inl (by rw [z]; rfl)))), if_neg (fun z => hsim (Or.inr (Or.inr (Or.inl (by rw [z]; rfl))))), if_neg (fun z => hsim (Or.inr (Or.inr (Or.inr (by rw [z]; rfl)))))]
      rw [hcom]
      have hni := p_if_n (T := T) (kd T s.1) s1
      unfold p_com
      generalize hs0 : p_if T (kd T s.1) s1 = s0 at *
      -- what follows a first body that failed
      have bad : (B s0).2.2.2.2.2 = false → (p_ca T (kd T s.1) B (p_or T (kd T s.1) B (p_el T (kd T s.1) B (B s0)))).2.2.2.2.2 = false := by
        intro h
        have e1 : (p_el T (kd T s.1) B (B s0)).2.2.2.2.2 = false := by
          unfold p_el
          rw [if_neg (fun z => by rw [p_is_bad h] at z; cases z.2)]
          exact h
        have e2 : (p_or T (kd T s.1) B (p_el T (kd T s.1) B (B s0))).2.2.2.2.2 = false := by
          unfold p_or
          split
          · exact hBb _ (p_ex_bad e1)
          · exact e1
        unfold p_ca
        split
        · refine hBb _ ?_
          unfold p_loc
          rw [if_neg (fun z => by rw [p_is_bad (p_ex_bad e2)] at z; cases z.1)]
          rfl
        · exact e2
      rcases hB s0 ((kd T s.1).toInt, 0) (by omega) with ⟨s2, q1, q2, q3, q4, q5, q6⟩ | ⟨q1, q2⟩
      · have hp := y_pop (T := T) (ks := ks) (p := ((kd T s.1).toInt, 0)) q2 q3
        dsimp only at hp
        have hr := (hstep.trans q6).trans hp
        have hn2 : (p_adv T s2).2.2.1 = s2.2.2.1 := rfl
        have ho2 : (p_adv T s2).2.2.2.2.2 = true := q2
        rw [q1]
        generalize p_adv T s2 = s3 at *
        have hk4 : (kd T s.1).toInt = 10 ∨ (kd T s.1).toInt = 12 ∨ (kd T s.1).toInt = 15 ∨ (kd T s.1).toInt = 17 := by omega
        rcases hk4 with z | z | z | z
        · have ek : kd T s.1 = 10 := i32_eq.mpr z
          rw [if_neg (by omega), if_pos (by omega)] at hr
          rw [ek]
          show (∃ s2 : pS, p_el T 10 B s3 = s2 ∧ _) ∨ ((p_el T 10 B s3).2.2.2.2.2 = false ∧ _)
          unfold p_el
          by_cases h11 : p_is T 11 s3 = true
          · rw [if_pos ⟨rfl, h11⟩]
            rw [if_pos h11] at hr
            have hn3 : (p_adv T s3).2.2.1 = s3.2.2.1 := rfl
            rcases y_snd (k := 10) hB (s := p_adv T s3) (by omega) with ⟨s4, w1, w2, w3, w4, w5⟩ | ⟨w1, w2⟩
            · exact Or.inl ⟨s4, w1, w2, by omega, w4, hr.trans w5⟩
            · exact Or.inr ⟨w1, w2.of hr⟩
          · rw [if_neg (fun w => h11 w.2)]
            rw [if_neg h11] at hr
            exact Or.inl ⟨s3, rfl, ho2, by omega, by omega, hr⟩
        · have ek : kd T s.1 = 12 := i32_eq.mpr z
          rw [if_pos (Or.inr (by omega))] at hr
          rw [ek]
          exact Or.inl ⟨s3, rfl, ho2, by omega, by omega, hr⟩
        · have ek : kd T s.1 = 15 := i32_eq.mpr z
          rw [if_neg (by omega), if_neg (by omega), if_pos (by omega)] at hr
          rw [ek]
          show (∃ s2 : pS, B (p_ex T 16 s3) = s2 ∧ _) ∨ ((B (p_ex T 16 s3)).2.2.2.2.2 = false ∧ _)
          have hn3 := p_ex_n (T := T) (t := 16) (s := s3)
          rcases y_snd (k := 15) hB (s := p_ex T 16 s3) (by omega) with ⟨s4, w1, w2, w3, w4, w5⟩ | ⟨w1, w2⟩
          · exact Or.inl ⟨s4, w1, w2, by omega, w4, hr.trans w5⟩
          · exact Or.inr ⟨w1, w2.of hr⟩
        · have ek : kd T s.1 = 17 := i32_eq.mpr z
          rw [if_neg (by omega), if_neg (by omega), if_neg (by omega)] at hr
          rw [ek]
          show (∃ s2 : pS, B (p_loc T (p_ex T 18 s3)) = s2 ∧ _) ∨ ((B (p_loc T (p_ex T 18 s3))).2.2.2.2.2 = false ∧ _)
          have hn3 : (p_loc T (p_ex T 18 s3)).2.2.1 = s3.2.2.1 := by
            unfold p_loc
            split
            · exact p_ex_n
            · exact p_ex_n
          rcases y_snd (k := 17) hB (s := p_loc T (p_ex T 18 s3)) (by omega) with ⟨s4, w1, w2, w3, w4, w5⟩ | ⟨w1, w2⟩
          · exact Or.inl ⟨s4, w1, w2, by omega, w4, hr.trans w5⟩
          · exact Or.inr ⟨w1, w2.of hr⟩
      · exact Or.inr ⟨bad q1, q2.of hstep⟩
  · rw [if_neg hb]
    have hes : y_step T s ks = (p_bad s, ks) := by
      unfold y_step
      rw [if_neg h125, if_neg hb]
    rw [hes] at hstep
    exact Or.inr ⟨rfl, (yf_bad (T := T) (s := p_bad s) (ks := ks) rfl).of hstep⟩
theorem p_go_bad (h : s.2.2.2.2.2 = false) : p_go T s = false := by unfold p_go; rw [h]; rfl
theorem y_sts {B : pS → pS} (hBb : ∀ s, s.2.2.2.2.2 = false → (B s).2.2.2.2.2 = false) (hB : yBd T B ks) : yS T B ks := by
  have key : ∀ (f : Nat) (s : pS), s.2.2.2.2.2 = true → s.2.2.1 ≤ 40 → 41 ≤ s.2.2.1 + f → (∃ s2 : pS, p_loop (p_go T) (p_st T B) f s = s2 ∧ s2.2.2.2.2.2 = true ∧ ((kd T s2.1).toInt = 0 ∨ (kd T s2.1).toInt = 125) ∧ s.2.2.1 ≤ s2.2.2.1 ∧ s2.2.2.1 ≤ 40 ∧ yr T (s, ks) (s2, ks)) ∨ ((p_loop (p_go T) (p_st T B) f s).2.2.2.2.2 = false ∧ yf T (s, ks)) := by
    intro f
    induction f with
    | zero => intro s h1 h2 h3; omega
    | succ f ih =>
      intro s h1 h2 h3
      have e : p_loop (p_go T) (p_st T B) (f + 1) s = if p_go T s = true then p_loop (p_go T) (p_st T B) f (p_st T B s) else s := rfl
      rw [e]
      cases hg : p_go T s with
      | false =>
        rw [if_neg (by decide)]
        refine Or.inl ⟨s, rfl, h1, ?_, Nat.le_refl _, h2, yr.refl' T _⟩
        unfold p_go at hg
        rw [h1, Bool.true_and, Bool.and_eq_false_iff] at hg
        rcases hg with z | z
        · have : p_is T 0 s = true := by simpa using z
          exact Or.inl (p_is_iff.mp this).2
        · have : p_is T 125 s = true := by simpa using z
          exact Or.inr (p_is_iff.mp this).2
      | true =>
        rw [if_pos rfl]
        unfold p_go at hg
        rw [h1, Bool.true_and, Bool.and_eq_true] at hg
        have h0 : ¬ (kd T s.1).toInt = 0 := fun z => by
          rw [p_is_iff.mpr ⟨h1, z⟩] at hg; exact absurd hg.1 (by decide)
        have h125 : ¬ (kd T s.1).toInt = 125 := fun z => by
          rw [p_is_iff (t := 125) |>.mpr ⟨h1, z⟩] at hg; exact absurd hg.2 (by decide)
        rcases y_st hBb hB h1 h2 h0 h125 with ⟨s2, q1, q2, q3, q4, q5⟩ | ⟨q1, q2⟩
        · rw [q1]
          rcases ih s2 q2 q4 (by omega) with ⟨s3, w1, w2, w3, w4, w5, w6⟩ | ⟨w1, w2⟩
          · exact Or.inl ⟨s3, w1, w2, w3, by omega, w5, q5.trans w6⟩
          · exact Or.inr ⟨w1, w2.of q5⟩
        · refine Or.inr ⟨?_, q2⟩
          rw [p_loop_bad (fun s h => p_go_bad h) _ q1]
          exact q1
  intro s h1 h2
  exact key 41 s h1 h2 (by omega)
theorem p_body_bad (f : Nat) (h : s.2.2.2.2.2 = false) : (p_body T f s).2.2.2.2.2 = false := by
  cases f with
  | zero => rfl
  | succ f =>
    show (if p_is T 123 s = true then _ else p_bad s).2.2.2.2.2 = false
    rw [p_is_bad h]; rfl
theorem y_body : ∀ (f : Nat) (ks : List (Int × Int)), ks.length + f = 8 → yBd T (p_body T f) ks := by
  intro f
  induction f with
  | zero =>
    intro ks hk s p hn
    refine Or.inr ⟨rfl, ?_⟩
    have : y_open T p s ks = (p_bad s, ks) := if_neg (fun z => by have := z.2; omega)
    rw [this]
    exact yf_bad rfl
  | succ f ih =>
    intro ks hk s p hn
    have e : p_body T (f + 1) s = if p_is T 123 s = true then p_ex T 125 (p_sts T (p_body T f) (p_dp (8 - f) (p_adv T s))) else p_bad s := rfl
    rw [e]
    by_cases h : p_is T 123 s = true
    · rw [if_pos h]
      have eo : y_open T p s ks = (p_dp (ks.length + 1) (p_adv T s), p :: ks) := if_pos ⟨h, by omega⟩
      rw [eo, show 8 - f = ks.length + 1 by omega]
      have hok : (p_dp (ks.length + 1) (p_adv T s)).2.2.2.2.2 = true := (p_is_iff.mp h).1
      have hn1 : (p_dp (ks.length + 1) (p_adv T s)).2.2.1 = s.2.2.1 := rfl
      have hsts := y_sts (fun s h => p_body_bad f h) (ih (p :: ks) (by simp; omega))
      rcases hsts (p_dp (ks.length + 1) (p_adv T s)) hok (by omega) with ⟨s2, q1, q2, q3, q4, q5, q6⟩ | ⟨q1, q2⟩
      · rw [q1]
        unfold p_ex
        by_cases h125 : p_is T 125 s2 = true
        · rw [if_pos h125]
          exact Or.inl ⟨s2, rfl, q2, (p_is_iff.mp h125).2, by omega, q5, q6⟩
        · rw [if_neg h125]
          refine Or.inr ⟨rfl, ?_⟩
          have h0 : (kd T s2.1).toInt = 0 := by
            rcases q3 with z | z
            · exact z
            · exact absurd (p_is_iff.mpr ⟨q2, z⟩) h125
          have hstep := yr_step (T := T) (ks := p :: ks) q2 (fun z => by cases z.2)
          have hes : y_step T s2 (p :: ks) = (p_bad s2, p :: ks) := by
            unfold y_step
            rw [if_neg (by omega), if_neg]
            intro w
            have := w.1
            unfold p_beg at this
            rw [h0] at this
            exact absurd this (by decide)
          rw [hes] at hstep
          exact (yf_bad (T := T) (s := p_bad s2) (ks := p :: ks) rfl).of (q6.trans hstep)
      · exact Or.inr ⟨p_ex_bad q1, q2⟩
    · rw [if_neg h]
      have eo : y_open T p s ks = (p_bad s, ks) := if_neg (fun z => h z.1)
      rw [eo]
      exact Or.inr ⟨rfl, yf_bad rfl⟩
/-- a text -/
theorem y_main (T : tK) : ∃ m F, y_ev T m (0, false, 0, 0, 0, true) [] = some F ∧ F.2.2.2.2.2 = (p_all T).2.2.2.2.2 ∧ (F.2.2.2.2.2 = true → F.2.2 = (p_all T).2.2) := by
  have hsts := y_sts (fun s h => p_body_bad 8 h) (y_body (T := T) 8 [] rfl)
  unfold p_all
  rcases hsts (0, false, 0, 0, 0, true) rfl (by decide) with ⟨s2, q1, q2, q3, q4, q5, c, q6⟩ | ⟨q1, m, F, q2, q3⟩
  · rw [q1]
    unfold p_ex
    by_cases h0 : (kd T s2.1).toInt = 0
    · refine ⟨1 + c, s2, ?_, ?_, fun _ => ?_⟩
      · rw [q6 1]
        show (if s2.2.2.2.2.2 = false then some s2 else if (kd T s2.1).toInt = 0 ∧ ([] : List (Int × Int)) = [] then some s2 else _) = _
        rw [if_neg (by rw [q2]; decide), if_pos ⟨h0, rfl⟩]
      · rw [if_pos (p_is_iff.mpr ⟨q2, h0⟩)]; rfl
      · rw [if_pos (p_is_iff.mpr ⟨q2, h0⟩)]; rfl
    · have h125 : (kd T s2.1).toInt = 125 := q3.resolve_left h0
      refine ⟨2 + c, p_bad s2, ?_, ?_, fun z => absurd z (by show ¬ false = true; decide)⟩
      · rw [q6 2]
        show (if s2.2.2.2.2.2 = false then some s2 else if (kd T s2.1).toInt = 0 ∧ ([] : List (Int × Int)) = [] then some s2 else y_ev T 1 (y_step T s2 []).1 (y_step T s2 []).2) = _
        rw [if_neg (by rw [q2]; decide), if_neg (fun z => h0 z.1)]
        have hes : y_step T s2 [] = (p_bad s2, []) := by
          unfold y_step
          rw [if_pos h125]
        rw [hes]
        rfl
      · rw [if_neg (fun z => h0 (p_is_iff.mp z).2)]
  · exact ⟨m, F, q2, q3.trans (p_ex_bad q1).symm, fun z => by rw [q3] at z; cases z⟩
end YG
