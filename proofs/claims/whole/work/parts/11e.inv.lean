/-! What always holds of a state, and that a minute keeps it. -/
def RowOk (n m : Nat) (g o : Nat → Int32) : Prop := (∀ k, k < m → ∃ x, x < n ∧ g k = nI x) ∧ (∀ k, k < m → ∃ y, y ≤ 10 ∧ o k = nI y) ∧ ∀ j k, j < m → k < m → g j = g k → j = k
theorem RowOk.cong {n m : Nat} {g o g' o' : Nat → Int32} (h : RowOk n m g o) (hg : ∀ k, k < m → g' k = g k) (ho : ∀ k, k < m → o' k = o k) : RowOk n m g' o' :=
  ⟨fun k hk => by rw [hg k hk]; exact h.1 k hk, fun k hk => by rw [ho k hk]; exact h.2.1 k hk, fun j k hj hk e => h.2.2 j k hj hk (by rw [← hg j hj, ← hg k hk]; exact e)⟩
theorem RowOk.trunc {n m m' : Nat} {g o : Nat → Int32} (h : RowOk n m g o) (hm : m' ≤ m) : RowOk n m' g o :=
  ⟨fun k hk => h.1 k (by omega), fun k hk => h.2.1 k (by omega), fun j k hj hk e => h.2.2 j k (by omega) (by omega) e⟩
theorem RowOk.rem {n m i : Nat} {g o : Nat → Int32} (h : RowOk n m g o) (hi : i < m) : RowOk n (m - 1) (fun k => if k < i then g k else g (k + 1)) (fun k => if k < i then o k else o (k + 1)) := by
  refine ⟨fun k hk => ?_, fun k hk => ?_, fun j k hj hk e => ?_⟩
  · show ∃ x, x < n ∧ (if k < i then g k else g (k + 1)) = nI x
    split
    · exact h.1 k (by omega)
    · exact h.1 (k + 1) (by omega)
  · show ∃ y, y ≤ 10 ∧ (if k < i then o k else o (k + 1)) = nI y
    split
    · exact h.2.1 k (by omega)
    · exact h.2.1 (k + 1) (by omega)
  · have e : (if j < i then g j else g (j + 1)) = (if k < i then g k else g (k + 1)) := e
    split at e <;> split at e
    · exact h.2.2 j k (by omega) (by omega) e
    · have := h.2.2 j (k + 1) (by omega) (by omega) e
      omega
    · have := h.2.2 (j + 1) k (by omega) (by omega) e
      omega
    · have := h.2.2 (j + 1) (k + 1) (by omega) (by omega) e
      omega
theorem RowOk.rem_ne {n m i : Nat} {g o : Nat → Int32} (h : RowOk n m g o) (hi : i < m) : ∀ k, k < m - 1 → (if k < i then g k else g (k + 1)) ≠ g i := by
  intro k hk e
  split at e
  · have := h.2.2 k i (by omega) hi e
    omega
  · have := h.2.2 (k + 1) i (by omega) hi e
    omega
theorem RowOk.push {n m : Nat} {g o : Nat → Int32} {x y : Int32} (h : RowOk n m g o) (hx : ∃ a, a < n ∧ x = nI a) (hy : ∃ b, b ≤ 10 ∧ y = nI b) (hne : ∀ k, k < m → g k ≠ x) : RowOk n (m + 1) (fun k => if k = 0 then x else g (k - 1)) (fun k => if k = 0 then y else o (k - 1)) := by
  refine ⟨fun k hk => ?_, fun k hk => ?_, fun j k hj hk e => ?_⟩
  · show ∃ a, a < n ∧ (if k = 0 then x else g (k - 1)) = nI a
    split
    · exact hx
    · exact h.1 (k - 1) (by omega)
  · show ∃ b, b ≤ 10 ∧ (if k = 0 then y else o (k - 1)) = nI b
    split
    · exact hy
    · exact h.2.1 (k - 1) (by omega)
  · have e : (if j = 0 then x else g (j - 1)) = (if k = 0 then x else g (k - 1)) := e
    split at e <;> split at e
    · omega
    · exact absurd e.symm (hne (k - 1) (by omega))
    · exact absurd e (hne (j - 1) (by omega))
    · have := h.2.2 (j - 1) (k - 1) (by omega) (by omega) e
      omega
def oG (s : Rw) (k : Nat) : Int32 := s (20 + 2 * k)
def oO (s : Rw) (k : Nat) : Int32 := s (20 + 2 * k + 1)
def mG (s : Rw) (k : Nat) : Int32 := s (36 + 2 * k)
def mO (s : Rw) (k : Nat) : Int32 := s (36 + 2 * k + 1)
def Cn (n no nm : Nat) (s : Rw) : Prop := n ≤ 8 ∧ no ≤ 8 ∧ nm ≤ 4 ∧ s 3 = nI n ∧ s 10 = nI no ∧ s 11 = nI nm
def Rows (n no nm : Nat) (s : Rw) : Prop := RowOk n no (oG s) (oO s) ∧ RowOk n nm (mG s) (mO s)
def Gs (n : Nat) (s : Rw) : Prop := ∀ g, g < n → (∃ k, k ≤ 2 ∧ s (46 + 5 * g + 0) = nI k) ∧ (∃ w, w ≤ 20 ∧ s (46 + 5 * g + 1) = nI w) ∧ ∃ y, y ≤ 10 ∧ s (46 + 5 * g + 2) = nI y
def Tsk (n : Nat) (s : Rw) : Prop := s 7 = -1 ∨ ∃ g y, g < n ∧ y ≤ 10 ∧ s 7 = nI g ∧ s 8 = nI y
def Nums (s : Rw) : Prop := (∃ p, p < 8 ∧ s 6 = nI p) ∧ (s 9 = 0 ∨ s 9 = 1) ∧ (s 2 = 0 ∨ s 2 = 1 ∨ s 2 = 2) ∧ (∃ w, w ≤ 9999 ∧ s 4 = nI w) ∧ (∃ i, i ≤ 300 ∧ s 5 = nI i) ∧ (∃ a, a ≤ 9999 ∧ s 0 = nI a) ∧ ∃ b, b ≤ 9999 ∧ s 1 = nI b
def Tm (d B : Nat) (s : Rw) : Prop := ∃ f m, f ≤ m + d ∧ m ≤ B ∧ s 16 = nI f ∧ s 12 = nI m
def Opn (s : Rw) : Prop := ¬ s 7 < 0 → s (46 + 5 * cn s 7 + 2) ≠ s 8
theorem Cn.cong {n no nm : Nat} {s s' : Rw} (h : Cn n no nm s) (h3 : s' 3 = s 3) (h10 : s' 10 = s 10) (h11 : s' 11 = s 11) : Cn n no nm s' := by
  unfold Cn at *
  rw [h3, h10, h11]; exact h
theorem Rows.cong {n no nm : Nat} {s s' : Rw} (h : Rows n no nm s) (ho : no ≤ 8) (hm : nm ≤ 4) (hj : ∀ j, 20 ≤ j → j < 46 → s' j = s j) : Rows n no nm s' :=
  ⟨h.1.cong (fun k hk => hj _ (by omega) (by omega)) (fun k hk => hj _ (by omega) (by omega)), h.2.cong (fun k hk => hj _ (by omega) (by omega)) (fun k hk => hj _ (by omega) (by omega))⟩
theorem Gs.cong {n : Nat} {s s' : Rw} (h : Gs n s) (hj : ∀ g w, g < n → w < 3 → s' (46 + 5 * g + w) = s (46 + 5 * g + w)) : Gs n s' := by
  intro g hg
  rw [hj g 0 hg (by decide), hj g 1 hg (by decide), hj g 2 hg (by decide)]
  exact h g hg
theorem Tsk.cong {n : Nat} {s s' : Rw} (h : Tsk n s) (h7 : s' 7 = s 7) (h8 : s' 8 = s 8) : Tsk n s' := by
  unfold Tsk at *
  rw [h7, h8]; exact h
theorem Tsk.none {n : Nat} {s : Rw} (h : s 7 = -1) : Tsk n s := Or.inl h
theorem Tsk.g {n : Nat} {s : Rw} (h : Tsk n s) (hc : ¬ s 7 < 0) : ∃ g y, g < n ∧ y ≤ 10 ∧ s 7 = nI g ∧ s 8 = nI y := by
  rcases h with h | h
  · exact absurd (by rw [h]; decide) hc
  · exact h
theorem Nums.cong {s s' : Rw} (h : Nums s) (h6 : s' 6 = s 6) (h9 : s' 9 = s 9) (h2 : s' 2 = s 2) (h4 : s' 4 = s 4) (h5 : s' 5 = s 5) (h0 : s' 0 = s 0) (h1 : s' 1 = s 1) : Nums s' := by
  unfold Nums at *
  rw [h6, h9, h2, h4, h5, h0, h1]; exact h
theorem Tm.cong {d B : Nat} {s s' : Rw} (h : Tm d B s) (h16 : s' 16 = s 16) (h12 : s' 12 = s 12) : Tm d B s' := by
  unfold Tm at *
  rw [h16, h12]; exact h
/-- all but that a task isn't done yet -/
def Core (d B n no nm : Nat) (s : Rw) : Prop := Cn n no nm s ∧ Rows n no nm s ∧ Gs n s ∧ Tsk n s ∧ Nums s ∧ Tm d B s
def Iv (B : Nat) (s : Rw) : Prop := ∃ n no nm, Core 0 B n no nm s ∧ Opn s
theorem shf_G {s : Rw} {r n i k : Nat} (hi : i < n) (hk : k < n - 1) : shf s (r + 2 * i) (r + 2 * n - 2) (r + 2 * k) = if k < i then s (r + 2 * k) else s (r + 2 * (k + 1)) := by
  unfold shf
  by_cases h : k < i
  · rw [if_neg (by omega), if_pos h]
  · rw [if_pos (by omega), if_neg h]
    congr 1
theorem shf_O {s : Rw} {r n i k : Nat} (hi : i < n) (hk : k < n - 1) : shf s (r + 2 * i) (r + 2 * n - 2) (r + 2 * k + 1) = if k < i then s (r + 2 * k + 1) else s (r + 2 * (k + 1) + 1) := by
  unfold shf
  by_cases h : k < i
  · rw [if_neg (by omega), if_pos h]
  · rw [if_pos (by omega), if_neg h]
    congr 1
theorem t_dO_n {s : Rw} {n i j : Nat} (hn : n ≤ 8) (h10 : j ≠ 10) (h : j < 20 ∨ 36 ≤ j) : t_dO s n i j = s j := by
  unfold t_dO
  rw [upd_n h10]
  unfold shf
  rw [if_neg (by omega)]
theorem t_dM_n {s : Rw} {n i j : Nat} (hn : n ≤ 4) (h11 : j ≠ 11) (h : j < 36 ∨ 44 ≤ j) : t_dM s n i j = s j := by
  unfold t_dM
  rw [upd_n h11]
  unfold shf
  rw [if_neg (by omega)]
theorem t_dO_G {s : Rw} {n i k : Nat} (hi : i < n) (hk : k < n - 1) : oG (t_dO s n i) k = if k < i then oG s k else oG s (k + 1) := by
  unfold oG t_dO
  rw [upd_n (by omega)]
  exact shf_G hi hk
theorem t_dO_O {s : Rw} {n i k : Nat} (hi : i < n) (hk : k < n - 1) : oO (t_dO s n i) k = if k < i then oO s k else oO s (k + 1) := by
  unfold oO t_dO
  rw [upd_n (by omega)]
  exact shf_O hi hk
theorem t_dM_G {s : Rw} {n i k : Nat} (hi : i < n) (hk : k < n - 1) : mG (t_dM s n i) k = if k < i then mG s k else mG s (k + 1) := by
  unfold mG t_dM
  rw [upd_n (by omega)]
  exact shf_G hi hk
theorem t_dM_O {s : Rw} {n i k : Nat} (hi : i < n) (hk : k < n - 1) : mO (t_dM s n i) k = if k < i then mO s k else mO s (k + 1) := by
  unfold mO t_dM
  rw [upd_n (by omega)]
  exact shf_O hi hk
theorem core_dO {d B n no nm i : Nat} {s : Rw} (h : Core d B n no nm s) (hi : i < no) : Core d B n (no - 1) nm (t_dO s no i) := by
  obtain ⟨⟨a1, a2, a3, a4, a5, a6⟩, ⟨b1, b2⟩, c, t, u, v⟩ := h
  refine ⟨⟨a1, by omega, a3, ?_, ?_, ?_⟩, ⟨?_, ?_⟩, ?_, ?_, ?_, ?_⟩
  · rw [t_dO_n a2 (by decide) (by omega)]; exact a4
  · exact upd_s _ _ _
  · rw [t_dO_n a2 (by decide) (by omega)]; exact a6
  · exact (b1.rem hi).cong (fun k hk => t_dO_G hi hk) (fun k hk => t_dO_O hi hk)
  · exact b2.cong (fun k hk => t_dO_n a2 (by omega) (by omega)) (fun k hk => t_dO_n a2 (by omega) (by omega))
  · exact c.cong fun g w _ _ => t_dO_n a2 (by omega) (by omega)
  · exact t.cong (t_dO_n a2 (by decide) (by omega)) (t_dO_n a2 (by decide) (by omega))
  · exact u.cong (t_dO_n a2 (by decide) (by omega)) (t_dO_n a2 (by decide) (by omega)) (t_dO_n a2 (by decide) (by omega)) (t_dO_n a2 (by decide) (by omega)) (t_dO_n a2 (by decide) (by omega)) (t_dO_n a2 (by decide) (by omega)) (t_dO_n a2 (by decide) (by omega))
  · exact v.cong (t_dO_n a2 (by decide) (by omega)) (t_dO_n a2 (by decide) (by omega))
theorem core_dM {d B n no nm i : Nat} {s : Rw} (h : Core d B n no nm s) (hi : i < nm) : Core d B n no (nm - 1) (t_dM s nm i) := by
  obtain ⟨⟨a1, a2, a3, a4, a5, a6⟩, ⟨b1, b2⟩, c, t, u, v⟩ := h
  refine ⟨⟨a1, a2, by omega, ?_, ?_, ?_⟩, ⟨?_, ?_⟩, ?_, ?_, ?_, ?_⟩
  · rw [t_dM_n a3 (by decide) (by omega)]; exact a4
  · rw [t_dM_n a3 (by decide) (by omega)]; exact a5
  · exact upd_s _ _ _
  · exact b1.cong (fun k hk => t_dM_n a3 (by omega) (by omega)) (fun k hk => t_dM_n a3 (by omega) (by omega))
  · exact (b2.rem hi).cong (fun k hk => t_dM_G hi hk) (fun k hk => t_dM_O hi hk)
  · exact c.cong fun g w _ _ => t_dM_n a3 (by omega) (by omega)
  · exact t.cong (t_dM_n a3 (by decide) (by omega)) (t_dM_n a3 (by decide) (by omega))
  · exact u.cong (t_dM_n a3 (by decide) (by omega)) (t_dM_n a3 (by decide) (by omega)) (t_dM_n a3 (by decide) (by omega)) (t_dM_n a3 (by decide) (by omega)) (t_dM_n a3 (by decide) (by omega)) (t_dM_n a3 (by decide) (by omega)) (t_dM_n a3 (by decide) (by omega))
  · exact v.cong (t_dM_n a3 (by decide) (by omega)) (t_dM_n a3 (by decide) (by omega))
/-- a change of numbers among 0 to 19, but for the counts, which keeps what is said of them -/
theorem core_low {d B d' B' n no nm : Nat} {s s' : Rw} (h : Core d B n no nm s) (hj : ∀ j, 20 ≤ j → s' j = s j) (h3 : s' 3 = s 3) (h10 : s' 10 = s 10) (h11 : s' 11 = s 11) (t : Tsk n s') (u : Nums s') (v : Tm d' B' s') : Core d' B' n no nm s' :=
  ⟨h.1.cong h3 h10 h11, h.2.1.cong h.1.2.1 h.1.2.2.1 fun j a _ => hj j a, h.2.2.1.cong fun g w _ _ => hj _ (by omega), t, u, v⟩
theorem t_mk_n {s : Rw} {m : Nat} {x y : Int32} {j : Nat} (hm : m ≤ 3) (h11 : j ≠ 11) (h : j < 36 ∨ 44 ≤ j) : t_mk s m x y j = s j := by
  unfold t_mk
  rw [upd_n h11, upd_n (by omega), upd_n (by omega)]
  unfold shr
  rw [if_neg (by omega)]
theorem t_mk_G {s : Rw} {m : Nat} {x y : Int32} {k : Nat} (hk : k < m + 1) : mG (t_mk s m x y) k = if k = 0 then x else mG s (k - 1) := by
  unfold mG t_mk
  by_cases h : k = 0
  · subst h
    rw [if_pos rfl, upd_n (by decide), upd_n (by decide)]
    exact upd_s _ _ _
  · rw [if_neg h, upd_n (by omega), upd_n (by omega), upd_n (by omega)]
    unfold shr
    rw [if_pos (by omega)]
    congr 1
    omega
theorem t_mk_O {s : Rw} {m : Nat} {x y : Int32} {k : Nat} (hk : k < m + 1) : mO (t_mk s m x y) k = if k = 0 then y else mO s (k - 1) := by
  unfold mO t_mk
  by_cases h : k = 0
  · subst h
    rw [if_pos rfl, upd_n (by decide)]
    exact upd_s _ _ _
  · rw [if_neg h, upd_n (by omega), upd_n (by omega), upd_n (by omega)]
    unfold shr
    rw [if_pos (by omega)]
    congr 1
    omega
theorem core_mk {d B n no nm m : Nat} {s : Rw} {x y : Int32} (h : Core d B n no nm s) (hm : m ≤ nm) (hm3 : m ≤ 3) (hx : ∃ a, a < n ∧ x = nI a) (hy : ∃ b, b ≤ 10 ∧ y = nI b) (hne : ∀ k, k < m → mG s k ≠ x) : Core d B n no (m + 1) (t_mk s m x y) := by
  obtain ⟨⟨a1, a2, a3, a4, a5, a6⟩, ⟨b1, b2⟩, c, t, u, v⟩ := h
  have k1 : ∀ j, j ≠ 11 → (j < 36 ∨ 44 ≤ j) → t_mk s m x y j = s j := fun j h1 h2 => t_mk_n hm3 h1 h2
  refine ⟨⟨a1, a2, by omega, ?_, ?_, ?_⟩, ⟨?_, ?_⟩, ?_, ?_, ?_, ?_⟩
  · rw [k1 3 (by decide) (by omega)]; exact a4
  · rw [k1 10 (by decide) (by omega)]; exact a5
  · exact upd_s _ _ _
  · exact b1.cong (fun k hk => k1 _ (by omega) (by omega)) (fun k hk => k1 _ (by omega) (by omega))
  · exact ((b2.trunc hm).push hx hy hne).cong (fun k hk => t_mk_G hk) (fun k hk => t_mk_O hk)
  · exact c.cong fun g w _ _ => k1 _ (by omega) (by omega)
  · exact t.cong (k1 _ (by decide) (by omega)) (k1 _ (by decide) (by omega))
  · exact u.cong (k1 _ (by decide) (by omega)) (k1 _ (by decide) (by omega)) (k1 _ (by decide) (by omega)) (k1 _ (by decide) (by omega)) (k1 _ (by decide) (by omega)) (k1 _ (by decide) (by omega)) (k1 _ (by decide) (by omega))
  · exact v.cong (k1 _ (by decide) (by omega)) (k1 _ (by decide) (by omega))
theorem core_marks {d B n no nm : Nat} {s : Rw} {x y : Int32} (h : Core d B n no nm s) (hx : ∃ a, a < n ∧ x = nI a) (hy : ∃ b, b ≤ 10 ∧ y = nI b) : ∃ nm', Core d B n no nm' (t_marks s x y) := by
  have hc := h.1.2.2.2.2.2
  have h4 := h.1.2.2.1
  unfold t_marks
  rw [cn_of hc (by omega)]
  cases hi : ixO (fun k => s (36 + 2 * k)) x nm with
  | none =>
    have hne := ixO_none hi
    refine ⟨_, core_mk h (m := if nm = 4 then 3 else nm) ?_ ?_ hx hy fun k hk => hne k ?_⟩
    · split <;> omega
    · split <;> omega
    · split at hk <;> omega
  | some i =>
    obtain ⟨hin, he⟩ := ixO_some hi
    have h1 := core_dM h hin
    refine ⟨_, core_mk h1 (m := nm - 1) (Nat.le_refl _) (by omega) hx hy fun k hk => ?_⟩
    rw [t_dM_G hin hk]
    have := h.2.1.2.rem_ne hin k hk
    intro e
    exact this (e.trans he.symm)
theorem t_marks_n {s : Rw} {x y : Int32} {nm j : Nat} (hc : s 11 = nI nm) (h4 : nm ≤ 4) (h11 : j ≠ 11) (h : j < 36 ∨ 44 ≤ j) : t_marks s x y j = s j := by
  unfold t_marks
  rw [cn_of hc (by omega)]
  cases hi : ixO (fun k => s (36 + 2 * k)) x nm with
  | none => exact t_mk_n (by split <;> omega) h11 h
  | some i =>
    show t_mk (t_dM s nm i) (nm - 1) x y j = s j
    rw [t_mk_n (by omega) h11 h, t_dM_n h4 h11 h]
