/-! One row of the reference written, as an equation of worlds over any state. -/
theorem st_M_0 (cI : ClassId) (q : Nat → Nat) (M : St) (h : Nat → Int32) : (wM cI q M).set 1 (q 1, .inl (cI, 86, .inl h)) = wM cI q (uA M 0 h) := rfl
theorem st_M_1 (cI : ClassId) (q : Nat → Nat) (M : St) (h : Nat → Int32) : (wM cI q M).set 2 (q 2, .inl (cI, 344, .inl h)) = wM cI q (uA M 1 h) := rfl
theorem st_M_6 (cI : ClassId) (q : Nat → Nat) (M : St) (h : Nat → Int32) : (wM cI q M).set 5 (q 5, .inl (cI, 60, .inl h)) = wM cI q (uA M 6 h) := rfl
theorem st_M_10 (cI : ClassId) (q : Nat → Nat) (M : St) (h : Nat → Int32) : (wM cI q M).set 6 (q 6, .inl (cI, 2, .inl h)) = wM cI q (uA M 10 h) := rfl
