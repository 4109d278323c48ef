theorem cx0_wf (fz : Bool) : ∀ (i pc : Nat) (I : rf_I), (cx0 fz).1 i pc = some I → rf_wf (cx0 fz) ocl0 tb0 sp0 str0 (stt0 fz) i pc I := rf_wf_of (ck_all fz) (lkz_ok fz)
theorem cx0_G (fz : Bool) : rf_G (cx0 fz) tb0 := by
  intro ci r hr
  have hr : cl0[ci]? = some r := hr
  match ci, hr with
  | 0, hr => cases hr; exact ⟨uw_0, fun k hk => (ut_0 k hk).1, un_0, fun k hk => (ut_0 k hk).2⟩
  | 1, hr => cases hr; exact ⟨uw_1, fun k hk => (ut_1 k hk).1, un_1, fun k hk => (ut_1 k hk).2⟩
  | 2, hr => cases hr; exact ⟨uw_2, fun k hk => (ut_2 k hk).1, un_2, fun k hk => (ut_2 k hk).2⟩
  | 3, hr => cases hr; exact ⟨uw_3, fun k hk => (ut_3 k hk).1, un_3, fun k hk => (ut_3 k hk).2⟩
  | 4, hr => cases hr; exact ⟨uw_4, fun k hk => (ut_4 k hk).1, un_4, fun k hk => (ut_4 k hk).2⟩
  | 5, hr => cases hr; exact ⟨uw_5, fun k hk => (ut_5 k hk).1, un_5, fun k hk => (ut_5 k hk).2⟩
  | 6, hr => cases hr; exact ⟨uw_6, fun k hk => (ut_6 k hk).1, un_6, fun k hk => (ut_6 k hk).2⟩
  | 7, hr => cases hr; exact ⟨uw_7, fun k hk => (ut_7 k hk).1, un_7, fun k hk => (ut_7 k hk).2⟩
  | 8, hr => cases hr; exact ⟨uw_8, fun k hk => (ut_8 k hk).1, un_8, fun k hk => (ut_8 k hk).2⟩
  | 9, hr => cases hr; exact ⟨uw_9, fun k hk => (ut_9 k hk).1, un_9, fun k hk => (ut_9 k hk).2⟩
  | 10, hr => cases hr; exact ⟨uw_10, fun k hk => (ut_10 k hk).1, un_10, fun k hk => (ut_10 k hk).2⟩
  | 11, hr => cases hr; exact ⟨uw_11, fun k hk => (ut_11 k hk).1, un_11, fun k hk => (ut_11 k hk).2⟩
  | c + 12, hr => simp [cl0] at hr
