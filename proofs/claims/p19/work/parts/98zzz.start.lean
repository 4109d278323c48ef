/-! THE BEGINNING -/
theorem rfF_K : ∀ q ∈ rfF, q ∈ rfK := by decide +kernel
section STF

variable (fz : Bool) (L : Nat) (xs : Nat → Int32)

theorem HK_lg (a k : Nat) : (HK fz L xs).1.2.1 a k = (K2 fz).1.2.1 a k := by rw [show (HK fz L xs).1.2 = (K2 fz).1.2 from pt_M2 xs (K2 fz).1]
end STF
