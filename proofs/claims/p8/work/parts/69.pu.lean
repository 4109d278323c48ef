/-! WHAT IS LEFT of a claim: a relation J of the two memories that every pair of calls keeps (printed by wip/tools/law.py) -/
theorem pt_sl (row : Nat → Int32) (sh : rf_S) (h : rf_H) : (pt_H row sh h).2.2.2 = h.2.2.2 := rfl
theorem K2_sl (fz : Bool) : (K2 fz).2.2.2 = 49191 := by
  have h := K2_ok fz
  rw [K2_eq fz] at h
  simp only [Option.map_some, Option.some.injEq, Prod.mk.injEq] at h
  exact h.2.2
theorem HK_sl (fz : Bool) (L : Nat) (xs : Nat → Int32) : (HK fz L xs).2.2.2 = 49191 := (pt_sl xs (.inr (.int, L)) (K2 fz)).trans (K2_sl fz)
theorem HK_go (fz : Bool) (L : Nat) (xs : Nat → Int32) {a ci : Nat} (h1 : 22 ≤ a) (h2 : a < 406) (h : shK.getD (a - 22) shD = .inl ci) : go (cx0 fz) (HK fz L xs).2 a ci := by
  refine ⟨h1, by omega, by rw [HK_n]; exact h2, ?_⟩
  rw [HK_shp fz L xs h1, K2_shp fz h1 h2]
  exact h
theorem HK_1 (fz : Bool) (L : Nat) (xs : Nat → Int32) : (HK fz L xs).2.1 1 = .inr (.int, L) := by
  unfold HK
  generalize K2 fz = h
  show va_up h.2.1 1 (.inr (.int, L)) 1 = _
  exact va_up_self h.2.1 1 (.inr (.int, L))
theorem pu_of (fz : Bool) {L : Nat} (xs : Nat → Int32) (hL : L ≤ 3072) {J : rf_M → Prop} (hJ : ∀ M, J M → ∀ k, M.1 1 k = xs k)
    (hp_13 : ∀ (a0 : Int32) (a1 : Int32) (a2 : Int32) (a3 : Int32) (a4 : Int32), lw_I (cx0 fz) (HK fz L xs).2 xs J false 13 128 [.int a0, .int a1, .int a2, .int a3, .int a4])
    (hp_15 : ∀ (a0 : Int32), lw_I (cx0 fz) (HK fz L xs).2 xs J false 15 129 [.int a0])
    (hp_16 : lw_I (cx0 fz) (HK fz L xs).2 xs J false 16 130 [])
    (hp_56 : lw_I (cx0 fz) (HK fz L xs).2 xs J false 56 152 [])
    (hp_57 : ∀ (a0 : Int32) (a1 : Int32), lw_I (cx0 fz) (HK fz L xs).2 xs J false 57 153 [.int a0, .int a1])
    (hp_59 : ∀ (a0 : Int32) (a1 : Int64), lw_I (cx0 fz) (HK fz L xs).2 xs J false 59 184 [.int a0, .long a1])
    (hp_79 : ∀ (a0 : Int32), lw_L (cx0 fz) (HK fz L xs).2 xs J true 79 185 [.int a0])
    (hp_80 : ∀ (a0 : Int32), lw_I (cx0 fz) (HK fz L xs).2 xs J false 80 186 [.int a0])
    (hp_81 : ∀ (a0 : Int32) (a1 : Int32), lw_I (cx0 fz) (HK fz L xs).2 xs J false 81 187 [.int a0, .int a1])
    (hp_84 : ∀ (a0 : Int32), lw_I (cx0 fz) (HK fz L xs).2 xs J false 84 154 [.int a0])
    (hp_108 : ∀ (a0 : Int64) (a1 : Int32), lw_I (cx0 fz) (HK fz L xs).2 xs J false 108 183 [.long a0, .int a1])
    (hp_109 : ∀ (a0 : Int32) (a1 : Int32), lw_I (cx0 fz) (HK fz L xs).2 xs J false 109 188 [.int a0, .int a1])
    (hp_111 : ∀ (a0 : Int32) (a1 : Int32), lw_L (cx0 fz) (HK fz L xs).2 xs J false 111 189 [.int a0, .int a1])
    (hp_112 : lw_I (cx0 fz) (HK fz L xs).2 xs J false 112 190 [])
    (hp_113 : lw_I (cx0 fz) (HK fz L xs).2 xs J false 113 191 [])
    (hp_114 : ∀ (a0 : Int32) (a1 : Int32), lw_I (cx0 fz) (HK fz L xs).2 xs J false 114 192 [.int a0, .int a1])
    (hp_117 : ∀ (a0 : Int32), lw_L (cx0 fz) (HK fz L xs).2 xs J false 117 193 [.int a0])
    (hp_118 : lw_I (cx0 fz) (HK fz L xs).2 xs J false 118 194 [])
    (hp_122 : lw_I (cx0 fz) (HK fz L xs).2 xs J false 122 197 []) (HJ0 : J (HK fz L xs).1) : pu_goal fz L xs := by
  have k := law_go (S := (HK fz L xs).2) (M0 := (HK fz L xs).1) fz xs hL hJ (HK_go fz L xs (by decide) (by decide) rfl) (HK_go fz L xs (by decide) (by decide) rfl) (HK_1 fz L xs) (by rw [HK_n]; decide) hp_13 hp_15 hp_16 hp_56 hp_57 hp_59 hp_79 hp_80 hp_81 hp_84 hp_108 hp_109 hp_111 hp_112 hp_113 hp_114 hp_117 hp_118 hp_122 HJ0
  have e : ((HK fz L xs).1, (HK fz L xs).2) = HK fz L xs := Prod.eta (HK fz L xs)
  rw [e] at k
  obtain ⟨n, r, hF, h1, h2, h3⟩ := law_made fz L xs k
  rw [h2] at h1
  exact ⟨n, hF, h1, by rw [h3, HK_n]; decide, by rw [h3, HK_sl]; decide⟩
