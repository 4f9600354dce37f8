/-! The class's rows of tasks, held against rows of the state. -/
def TaskR (T : St) (mo m : Nat) (g o : Nat → Int32) : Prop := T 2 0 = nI mo ∧ T 3 0 = nI m ∧ (∀ k, k < m → T 0 k = g k) ∧ ∀ k, k < m → T 1 k = o k
theorem TaskR.cong {T : St} {mo m : Nat} {g o g' o' : Nat → Int32} (h : TaskR T mo m g o) (hg : ∀ k, k < m → g k = g' k) (ho : ∀ k, k < m → o k = o' k) : TaskR T mo m g' o' :=
  ⟨h.1, h.2.1, fun k hk => (h.2.2.1 k hk).trans (hg k hk), fun k hk => (h.2.2.2 k hk).trans (ho k hk)⟩
def ixM (o : Option Nat) : Int32 := match o with
  | some k => nI k
  | none => -1
theorem ixO_is_none {g : Nat → Int32} {x : Int32} : ∀ {m : Nat}, (∀ k, k < m → g k ≠ x) → ixO g x m = none
  | 0, _ => rfl
  | m + 1, h => by
    unfold ixO
    rw [if_neg (h m (Nat.lt_succ_self m))]
    exact ixO_is_none fun k hk => h k (by omega)
theorem ixO_is_some {n m : Nat} {g o : Nat → Int32} {x : Int32} (h : RowOk n m g o) {k : Nat} (hk : k < m) (e : g k = x) : ixO g x m = some k := by
  cases hi : ixO g x m with
  | none => exact absurd e (ixO_none hi k hk)
  | some j =>
    obtain ⟨hj, ej⟩ := ixO_some hi
    rw [h.2.2 j k hj hk (ej.trans e.symm)]
theorem c_index {T : St} {Q : Int32 → Prop} {x : Int32} {n mo m : Nat} {g o : Nat → Int32} (hT : TaskR T mo m g o) (hR : RowOk n m g o) (h8 : m ≤ 8) (h : Q (ixM (ixO g x m))) : q_X4_indexOf x T Q := by
  unfold q_X4_indexOf
  obtain ⟨t2, t3, t0, t1⟩ := hT
  refine ⟨fun a b => ∃ k : Nat, k ≤ m ∧ a = m - k ∧ b = nI k ∧ ∀ j, j < k → g j ≠ x, m, ⟨0, Nat.zero_le _, rfl, rfl, fun j hj => by omega⟩, ?_⟩
  rintro a b ⟨k, hk, rfl, rfl, hne⟩
  rw [t3]
  have none : m ≤ k → Q (-1) := fun c => by
    rw [ixO_is_none fun j hj => hne j (by omega)] at h
    exact h
  refine ⟨fun c => none ((nI_leI (by omega) (by omega)).mp c), fun c => ⟨fun c8 => none ?_, fun c8 => ?_⟩⟩
  · have := (nI_leI (a := 8) (by omega) (by omega)).mp c8
    omega
  · have hkm : k < m := Nat.not_le.mp fun q => c (nI_le q (by omega))
    refine ⟨vp_in_nI (by omega) (by omega), ?_⟩
    rw [nI_c _ (by omega), t0 k hkm]
    refine ⟨fun e => ?_, fun e => ⟨m - (k + 1), by omega, k + 1, hkm, rfl, nI_1 k, fun j hj => ?_⟩⟩
    · rw [ixO_is_some hR hkm e] at h
      exact h
    · rcases Nat.lt_or_ge j k with h1 | h1
      · exact hne j h1
      · rw [show j = k by omega]; exact e
theorem c_size4 {T : St} {Q : Int32 → Prop} (h : Q (T 3 0)) : q_X4_size T Q := h
theorem c_gateAt {T : St} {Q : Int32 → Prop} {x : Int32} {mo m i : Nat} {g o : Nat → Int32} (hT : TaskR T mo m g o) (h8 : m ≤ 8) (hi : i < m) (hx : x = nI i) (h : Q (g i)) : q_X4_gateAt x T Q := by
  subst hx
  unfold q_X4_gateAt
  obtain ⟨t2, t3, t0, t1⟩ := hT
  rw [t3]
  refine ⟨fun c => absurd c (nI_pos (by omega)), fun _ => ⟨fun c => absurd c (nI_ge hi (by omega)), fun _ => ⟨fun c => absurd c (nI_ge (b := 8) (by omega) (by omega)), fun _ => ⟨vp_in_nI (by omega) (by omega), ?_⟩⟩⟩⟩
  rw [nI_c _ (by omega), t0 i hi]
  exact h
theorem c_openingAt {T : St} {Q : Int32 → Prop} {x : Int32} {mo m i : Nat} {g o : Nat → Int32} (hT : TaskR T mo m g o) (h8 : m ≤ 8) (hi : i < m) (hx : x = nI i) (h : Q (o i)) : q_X4_openingAt x T Q := by
  subst hx
  unfold q_X4_openingAt
  obtain ⟨t2, t3, t0, t1⟩ := hT
  rw [t3]
  refine ⟨fun c => absurd c (nI_pos (by omega)), fun _ => ⟨fun c => absurd c (nI_ge hi (by omega)), fun _ => ⟨fun c => absurd c (nI_ge (b := 8) (by omega) (by omega)), fun _ => ⟨vp_in_nI (by omega) (by omega), ?_⟩⟩⟩⟩
  rw [nI_c _ (by omega), t1 i hi]
  exact h
theorem c_remove {T : St} {Q : St → Prop} {x : Int32} {mo m i : Nat} {g o : Nat → Int32} (hT : TaskR T mo m g o) (h8 : m ≤ 8) (hi : i < m) (hx : x = nI i) (h : ∀ u, TaskR u mo (m - 1) (fun k => if k < i then g k else g (k + 1)) (fun k => if k < i then o k else o (k + 1)) → Q u) : q_X4_removeAt x T Q := by
  subst hx
  unfold q_X4_removeAt
  obtain ⟨t2, t3, t0, t1⟩ := hT
  refine ⟨fun c => absurd c (nI_pos (by omega)), fun _ => ⟨fun _ => ?_, fun c => absurd (by rw [t3]; exact nI_lt hi (by omega)) c⟩⟩
  refine ⟨fun a b D => ∃ k : Nat, i ≤ k ∧ k ≤ m - 1 ∧ a = m - k ∧ b = nI k ∧ D 2 0 = nI mo ∧ D 3 0 = nI m ∧ (∀ j, D 0 j = if i ≤ j ∧ j < k then T 0 (j + 1) else T 0 j) ∧ ∀ j, D 1 j = if i ≤ j ∧ j < k then T 1 (j + 1) else T 1 j, m - i, ⟨i, Nat.le_refl _, by omega, rfl, rfl, t2, t3, fun j => by rw [if_neg (by omega)], fun j => by rw [if_neg (by omega)]⟩, ?_⟩
  rintro a b D ⟨k, hk1, hk2, rfl, rfl, d2, d3, d0, d1⟩
  rw [d3, nI_sub1 (by omega)]
  have fin : k = m - 1 → Q (uA D 3 (fun _ => nI (m - 1))) := fun e => by
    refine h _ ⟨d2, rfl, fun j hj => ?_, fun j hj => ?_⟩
    · show D 0 j = if j < i then g j else g (j + 1)
      rw [d0 j]
      by_cases c : j < i
      · rw [if_neg (by omega), if_pos c]; exact t0 j (by omega)
      · rw [if_pos (by omega), if_neg c]; exact t0 (j + 1) (by omega)
    · show D 1 j = if j < i then o j else o (j + 1)
      rw [d1 j]
      by_cases c : j < i
      · rw [if_neg (by omega), if_pos c]; exact t1 j (by omega)
      · rw [if_pos (by omega), if_neg c]; exact t1 (j + 1) (by omega)
  refine ⟨fun c => fin ?_, fun c => ⟨fun c7 => fin ?_, fun c7 => ?_⟩⟩
  · have := (nI_leI (by omega) (by omega)).mp c
    omega
  · have := (nI_leI (a := 7) (by omega) (by omega)).mp c7
    omega
  · have hkm : k < m - 1 := Nat.not_le.mp fun q => c (nI_le q (by omega))
    rw [nI_1]
    refine ⟨vp_in_nI (by omega) (by omega), vp_in_nI (by omega) (by omega), m - (k + 1), by omega, k + 1, by omega, by omega, rfl, rfl, d2, d3, fun j => ?_, fun j => ?_⟩
    · show upd (D 0) (nI k).toNatClampNeg (D 0 (nI (k + 1)).toNatClampNeg) j = _
      rw [nI_c _ (by omega), nI_c _ (by omega)]
      by_cases e : j = k
      · subst e
        rw [upd_s, d0, if_neg (by omega), if_pos (by omega)]
      · rw [upd_n e, d0]
        by_cases c2 : i ≤ j ∧ j < k
        · rw [if_pos c2, if_pos (by omega)]
        · rw [if_neg c2, if_neg (by omega)]
    · show upd (D 1) (nI k).toNatClampNeg (D 1 (nI (k + 1)).toNatClampNeg) j = _
      rw [nI_c _ (by omega), nI_c _ (by omega)]
      by_cases e : j = k
      · subst e
        rw [upd_s, d1, if_neg (by omega), if_pos (by omega)]
      · rw [upd_n e, d1]
        by_cases c2 : i ≤ j ∧ j < k
        · rw [if_pos c2, if_pos (by omega)]
        · rw [if_neg c2, if_neg (by omega)]
theorem c_remove_neg {T : St} {Q : St → Prop} {x : Int32} (hx : x < 0) (h : Q T) : q_X4_removeAt x T Q := by
  unfold q_X4_removeAt
  exact ⟨fun _ => h, fun c => absurd hx c⟩
/-- an order comes in place of the one for the gate, or at the end -/
theorem c_put {T : St} {Q : St → Prop} {x y : Int32} {n mo m : Nat} {g o : Nat → Int32} (hT : TaskR T mo m g o) (hR : RowOk n m g o) (h8 : m ≤ 8) (hmo : mo = 8) (hfull : ixO g x m = none → m < 8)
    (h : ∀ u, (∀ i, ixO g x m = some i → TaskR u mo m g (upd o i y)) → (ixO g x m = none → TaskR u mo (m + 1) (upd g m x) (upd o m y)) → Q u) : q_X4_put x y T Q := by
  unfold q_X4_put
  refine c_index hT hR h8 ?_
  subst hmo
  obtain ⟨t2, t3, t0, t1⟩ := hT
  rw [t2, t3]
  cases hi : ixO g x m with
  | none =>
    have hm := hfull hi
    refine ⟨fun _ => ⟨fun c => absurd c (nI_ge hm (by omega)), fun _ => ⟨fun c => absurd c (nI_pos (by omega)), fun _ => ⟨fun c => absurd c (nI_ge (b := 8) hm (by omega)), fun _ => ⟨vp_in_nI hm (by omega), ?_⟩⟩⟩⟩, fun c => absurd rfl c⟩
    refine h _ (fun i e => by rw [hi] at e; cases e) fun _ => ⟨t2, nI_1 m, fun k hk => ?_, fun k hk => ?_⟩
    · show upd (T 0) (nI m).toNatClampNeg x k = _
      rw [nI_c _ (by omega)]
      by_cases e : k = m
      · subst e; rw [upd_s, upd_s]
      · rw [upd_n e, upd_n e]; exact t0 k (by omega)
    · show upd (T 1) (nI m).toNatClampNeg y k = _
      rw [nI_c _ (by omega)]
      by_cases e : k = m
      · subst e; rw [upd_s, upd_s]
      · rw [upd_n e, upd_n e]; exact t1 k (by omega)
  | some i =>
    obtain ⟨hin, he⟩ := ixO_some hi
    have hne : ¬ nI i = -1 := fun e => by
      have := nI_pos (n := i) (by omega)
      rw [e] at this
      exact this (by decide)
    refine ⟨fun c => absurd c hne, fun _ => ⟨fun c => absurd c (nI_pos (by omega)), fun _ => ⟨fun c => absurd c (nI_ge (b := 8) (by omega) (by omega)), fun _ => ⟨vp_in_nI (by omega) (by omega), ?_⟩⟩⟩⟩
    refine h _ (fun j e => ?_) (fun e => by rw [hi] at e; cases e)
    rw [hi] at e
    cases e
    refine ⟨t2, t3, fun k hk => ?_, fun k hk => ?_⟩
    · show upd (T 0) (ixM (some i)).toNatClampNeg x k = _
      rw [show ixM (some i) = nI i from rfl, nI_c _ (by omega)]
      by_cases e : k = i
      · subst e; rw [upd_s]; exact he.symm
      · rw [upd_n e]; exact t0 k hk
    · show upd (T 1) (ixM (some i)).toNatClampNeg y k = _
      rw [show ixM (some i) = nI i from rfl, nI_c _ (by omega)]
      by_cases e : k = i
      · subst e; rw [upd_s, upd_s]
      · rw [upd_n e, upd_n e]; exact t1 k hk
/-- the loop that makes place at the head of a row -/
theorem c_pushl {U : St} {Q : St → Prop} {j x y : Int32} {mo m : Nat} {g o : Nat → Int32} (hT : TaskR U mo m g o) (hm : m ≤ 3) (hj : j = nI m) (h : ∀ u, TaskR u mo (m + 1) (fun k => if k = 0 then x else g (k - 1)) (fun k => if k = 0 then y else o (k - 1)) → Q u) :
    ∃ (I : Nat → Int32 → St → Prop) (n0 : Nat), I n0 j U ∧ ∀ (n : Nat) (z : Int32) (D : St), I n z D → ((z ≤ 0 → Q (uA (uA (uA D 0 (upd (D 0) 0 x)) 1 (upd (D 1) 0 y)) 3 (fun _ => ((D 3 0) + 1)))) ∧ (¬ (z ≤ 0) → vp_in (z - 1) 8 ∧ (vp_in z 8 ∧ (∃ n1, n1 < n ∧ I n1 (z + (-1)) (uA (uA D 0 (upd (D 0) ((z).toNatClampNeg) ((D 0) (((z - 1)).toNatClampNeg)))) 1 (upd (D 1) ((z).toNatClampNeg) ((D 1) (((z - 1)).toNatClampNeg)))))))) := by
  subst hj
  obtain ⟨t2, t3, t0, t1⟩ := hT
  refine ⟨fun a b D => ∃ k : Nat, k ≤ m ∧ a = k ∧ b = nI k ∧ D 2 0 = nI mo ∧ D 3 0 = nI m ∧ (∀ j, D 0 j = if k < j ∧ j ≤ m then U 0 (j - 1) else U 0 j) ∧ ∀ j, D 1 j = if k < j ∧ j ≤ m then U 1 (j - 1) else U 1 j, m, ⟨m, Nat.le_refl _, rfl, rfl, t2, t3, fun j => by rw [if_neg (by omega)], fun j => by rw [if_neg (by omega)]⟩, ?_⟩
  rintro a b D ⟨k, hk, rfl, rfl, d2, d3, d0, d1⟩
  refine ⟨fun c => ?_, fun c => ?_⟩
  · have hk0 : a = 0 := by
      have := (nI_leI (b := 0) (by omega) (by omega)).mp c
      omega
    subst hk0
    refine h _ ⟨d2, ?_, fun j hj => ?_, fun j hj => ?_⟩
    · show D 3 0 + 1 = _
      rw [d3, nI_1]
    · show upd (D 0) 0 x j = if j = 0 then x else g (j - 1)
      by_cases e : j = 0
      · subst e; rw [upd_s, if_pos rfl]
      · rw [upd_n e, if_neg e, d0, if_pos (by omega)]
        exact t0 _ (by omega)
    · show upd (D 1) 0 y j = if j = 0 then y else o (j - 1)
      by_cases e : j = 0
      · subst e; rw [upd_s, if_pos rfl]
      · rw [upd_n e, if_neg e, d1, if_pos (by omega)]
        exact t1 _ (by omega)
  · have hk0 : 0 < a := by
      rcases Nat.eq_zero_or_pos a with e | e
      · exact absurd (by rw [e]; decide) c
      · exact e
    have e1 : nI a - 1 = nI (a - 1) := nI_sub1 hk0
    have e2 : nI a + (-1) = nI (a - 1) := by
      obtain ⟨z, rfl⟩ : ∃ z, a = z + 1 := ⟨a - 1, by omega⟩
      exact pk_m1 z
    rw [e1, e2]
    refine ⟨vp_in_nI (by omega) (by omega), vp_in_nI (by omega) (by omega), a - 1, by omega, a - 1, by omega, rfl, rfl, d2, d3, fun j => ?_, fun j => ?_⟩
    · show upd (D 0) (nI a).toNatClampNeg (D 0 (nI (a - 1)).toNatClampNeg) j = _
      rw [nI_c _ (by omega), nI_c _ (by omega)]
      by_cases e : j = a
      · subst e
        rw [upd_s, d0, if_neg (by omega), if_pos (by omega)]
      · rw [upd_n e, d0]
        by_cases c2 : a < j ∧ j ≤ m
        · rw [if_pos c2, if_pos (by omega)]
        · rw [if_neg c2, if_neg (by omega)]
    · show upd (D 1) (nI a).toNatClampNeg (D 1 (nI (a - 1)).toNatClampNeg) j = _
      rw [nI_c _ (by omega), nI_c _ (by omega)]
      by_cases e : j = a
      · subst e
        rw [upd_s, d1, if_neg (by omega), if_pos (by omega)]
      · rw [upd_n e, d1]
        by_cases c2 : a < j ∧ j ≤ m
        · rw [if_pos c2, if_pos (by omega)]
        · rw [if_neg c2, if_neg (by omega)]
theorem min7 {m : Nat} (hm : m ≤ 3) : (if (7 : Int32) < nI m then 7 else nI m) = nI m := by
  rw [if_neg]
  intro c
  have := (nI_ltI (a := 7) (by omega) (by omega)).mp c
  omega
/-- a mark comes ahead of the row of four -/
theorem c_putFirst {T : St} {Q : St → Prop} {x y : Int32} {n m : Nat} {g o : Nat → Int32} (hT : TaskR T 4 m g o) (hR : RowOk n m g o) (h4 : m ≤ 4)
    (h : ∀ u, (∀ i, ixO g x m = some i → TaskR u 4 m (fun k => if k = 0 then x else (if k - 1 < i then g (k - 1) else g k)) (fun k => if k = 0 then y else (if k - 1 < i then o (k - 1) else o k))) → (ixO g x m = none → TaskR u 4 ((if m = 4 then 3 else m) + 1) (fun k => if k = 0 then x else g (k - 1)) (fun k => if k = 0 then y else o (k - 1))) → Q u) : q_X4_putFirst x y T Q := by
  unfold q_X4_putFirst
  refine c_index hT hR (by omega) ?_
  cases hi : ixO g x m with
  | none =>
    refine c_remove_neg (show ixM none < 0 by decide) ?_
    have hT' := hT
    obtain ⟨t2, t3, t0, t1⟩ := hT'
    refine ⟨fun c => ?_, fun c => ?_⟩
    · rw [t3, t2] at c
      have hm : m < 4 := (nI_ltI (by omega) (by omega)).mp c
      rw [t3]
      refine c_pushl hT (by omega) (min7 (by omega)) fun u hu => h u (fun i e => by rw [hi] at e; cases e) fun _ => ?_
      rw [if_neg (by omega)]
      exact hu
    · rw [t3, t2] at c
      have hm : m = 4 := by
        have : ¬ m < 4 := fun q => c (nI_lt q (by omega))
        omega
      subst hm
      rw [t3, nI_sub1 (by decide)]
      refine c_remove hT (by omega) (i := 3) (by decide) rfl fun u hu => ?_
      have hu' : TaskR u 4 3 g o := hu.cong (fun k hk => if_pos hk) (fun k hk => if_pos hk)
      rw [hu'.2.1]
      refine c_pushl hu' (by omega) (min7 (by omega)) fun u hu => h u (fun i e => by rw [hi] at e; cases e) fun _ => ?_
      rw [if_pos rfl]
      exact hu
  | some i =>
    obtain ⟨hin, he⟩ := ixO_some hi
    refine c_remove hT (by omega) hin rfl fun u hu => ?_
    refine ⟨fun c => ?_, fun c => ?_⟩
    · rw [hu.2.1]
      refine c_pushl hu (by omega) (min7 (by omega)) fun u hu => h u (fun j e => ?_) (fun e => by rw [hi] at e; cases e)
      rw [hi] at e
      cases e
      rw [show m - 1 + 1 = m by omega] at hu
      refine hu.cong (fun k hk => ?_) (fun k hk => ?_)
      · by_cases e : k = 0
        · rw [if_pos e, if_pos e]
        · rw [if_neg e, if_neg e, show k - 1 + 1 = k by omega]
      · by_cases e : k = 0
        · rw [if_pos e, if_pos e]
        · rw [if_neg e, if_neg e, show k - 1 + 1 = k by omega]
    · rw [hu.2.1, hu.1] at c
      exact absurd (nI_lt (by omega) (by omega)) c
