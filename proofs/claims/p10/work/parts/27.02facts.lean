theorem K2_rf (fz : Bool) : rfK.all (fun q => decide ((K2 fz).1.2.2 q.1 q.2.1 = some q.2.2)) = true := by cases fz <;> decide +kernel
-- ints that are not 0: [(22, 4, -1), (331, 2, 1), (353, 10, -1)]
