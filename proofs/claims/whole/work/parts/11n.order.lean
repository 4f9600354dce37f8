/-! Changes: order. -/
def OrdT (x y : Int32) (U : St) (Q : Int32 → St → Prop) : Prop := q_X6_orderOf x U (fun r_8 => (0 ≤ r_8 → vp_in (20 + (2 * r_8)) 86 ∧ (vp_in ((20 + (2 * r_8)) + 1) 86 ∧ (q_X6_markOf x (uA (uA (uA U 0 (upd (U 0) 10 (((U 0) 10) + 0))) 0 (upd (upd (U 0) 10 (((U 0) 10) + 0)) (((20 + (2 * r_8))).toNatClampNeg) x)) 0 (upd (upd (upd (U 0) 10 (((U 0) 10) + 0)) (((20 + (2 * r_8))).toNatClampNeg) x) ((((20 + (2 * r_8)) + 1)).toNatClampNeg) y)) (fun r_12 => (r_12 < 0 → Q ((upd (upd (upd (U 0) 10 (((U 0) 10) + 0)) (((20 + (2 * r_8))).toNatClampNeg) x) ((((20 + (2 * r_8)) + 1)).toNatClampNeg) y) 10) (uA (uA (uA U 0 (upd (U 0) 10 (((U 0) 10) + 0))) 0 (upd (upd (U 0) 10 (((U 0) 10) + 0)) (((20 + (2 * r_8))).toNatClampNeg) x)) 0 (upd (upd (upd (U 0) 10 (((U 0) 10) + 0)) (((20 + (2 * r_8))).toNatClampNeg) x) ((((20 + (2 * r_8)) + 1)).toNatClampNeg) y))) ∧ (¬ (r_12 < 0) → q_X6_markOf x (uA (uA (uA U 0 (upd (U 0) 10 (((U 0) 10) + 0))) 0 (upd (upd (U 0) 10 (((U 0) 10) + 0)) (((20 + (2 * r_8))).toNatClampNeg) x)) 0 (upd (upd (upd (U 0) 10 (((U 0) 10) + 0)) (((20 + (2 * r_8))).toNatClampNeg) x) ((((20 + (2 * r_8)) + 1)).toNatClampNeg) y)) (fun r_14 => q_X6_dropsMark r_14 (uA (uA (uA U 0 (upd (U 0) 10 (((U 0) 10) + 0))) 0 (upd (upd (U 0) 10 (((U 0) 10) + 0)) (((20 + (2 * r_8))).toNatClampNeg) x)) 0 (upd (upd (upd (U 0) 10 (((U 0) 10) + 0)) (((20 + (2 * r_8))).toNatClampNeg) x) ((((20 + (2 * r_8)) + 1)).toNatClampNeg) y)) (fun u_15 => Q ((u_15 0) 10) u_15))))))) ∧ (¬ (0 ≤ r_8) → vp_in (20 + (2 * ((U 0) 10))) 86 ∧ (vp_in ((20 + (2 * ((U 0) 10))) + 1) 86 ∧ (q_X6_markOf x (uA (uA (uA U 0 (upd (U 0) 10 (((U 0) 10) + 1))) 0 (upd (upd (U 0) 10 (((U 0) 10) + 1)) (((20 + (2 * ((U 0) 10)))).toNatClampNeg) x)) 0 (upd (upd (upd (U 0) 10 (((U 0) 10) + 1)) (((20 + (2 * ((U 0) 10)))).toNatClampNeg) x) ((((20 + (2 * ((U 0) 10))) + 1)).toNatClampNeg) y)) (fun r_18 => (r_18 < 0 → Q ((upd (upd (upd (U 0) 10 (((U 0) 10) + 1)) (((20 + (2 * ((U 0) 10)))).toNatClampNeg) x) ((((20 + (2 * ((U 0) 10))) + 1)).toNatClampNeg) y) 10) (uA (uA (uA U 0 (upd (U 0) 10 (((U 0) 10) + 1))) 0 (upd (upd (U 0) 10 (((U 0) 10) + 1)) (((20 + (2 * ((U 0) 10)))).toNatClampNeg) x)) 0 (upd (upd (upd (U 0) 10 (((U 0) 10) + 1)) (((20 + (2 * ((U 0) 10)))).toNatClampNeg) x) ((((20 + (2 * ((U 0) 10))) + 1)).toNatClampNeg) y))) ∧ (¬ (r_18 < 0) → q_X6_markOf x (uA (uA (uA U 0 (upd (U 0) 10 (((U 0) 10) + 1))) 0 (upd (upd (U 0) 10 (((U 0) 10) + 1)) (((20 + (2 * ((U 0) 10)))).toNatClampNeg) x)) 0 (upd (upd (upd (U 0) 10 (((U 0) 10) + 1)) (((20 + (2 * ((U 0) 10)))).toNatClampNeg) x) ((((20 + (2 * ((U 0) 10))) + 1)).toNatClampNeg) y)) (fun r_20 => q_X6_dropsMark r_20 (uA (uA (uA U 0 (upd (U 0) 10 (((U 0) 10) + 1))) 0 (upd (upd (U 0) 10 (((U 0) 10) + 1)) (((20 + (2 * ((U 0) 10)))).toNatClampNeg) x)) 0 (upd (upd (upd (U 0) 10 (((U 0) 10) + 1)) (((20 + (2 * ((U 0) 10)))).toNatClampNeg) x) ((((20 + (2 * ((U 0) 10))) + 1)).toNatClampNeg) y)) (fun u_21 => Q ((u_21 0) 10) u_21))))))))
def t_ord (s : Rw) (x y : Int32) : Rw := match ixO (oG s) x (cn s 10) with
  | some k => upd (upd (upd s 10 (s 10 + 0)) (20 + 2 * k) x) (20 + 2 * k + 1) y
  | none => upd (upd (upd s 10 (s 10 + 1)) (20 + 2 * cn s 10) x) (20 + 2 * cn s 10 + 1) y
def t_unm (s : Rw) (x : Int32) : Rw := match ixO (mG s) x (cn s 11) with
  | some j => t_dM s (cn s 11) j
  | none => s
def t_order (s : Rw) (x y : Int32) : Rw := t_unm (t_ord s x y) x
abbrev isG (s : Rw) (x : Int32) : Prop := 0 ≤ x ∧ x < s 3
def a_order (s : Rw) (x y : Int32) : Int32 := if isG s x ∧ (0 ≤ y ∧ y ≤ 10) then (if s (46 + 5 * x.toNatClampNeg + 0) = 2 ∧ y - y / 2 * 2 = 1 then -1000002 else t_order s x y 10) else -1000001
theorem isG_of {s : Rw} {x : Int32} {n : Nat} (hn : s 3 = nI n) (h8 : n ≤ 8) : isG s x ↔ ∃ g, g < n ∧ x = nI g := by
  show (_ ∧ _) ↔ _
  constructor
  · rintro ⟨h1, h2⟩
    obtain ⟨j, hj, e⟩ := nI_of (Int32.not_lt.mpr h1)
    rw [e, hn] at h2
    exact ⟨j, (nI_ltI hj (by omega)).mp h2, e⟩
  · rintro ⟨g, hg, rfl⟩
    rw [hn]
    exact ⟨nI_pos' (by omega), nI_lt hg (by omega)⟩
theorem RowOk.put {n m i : Nat} {g o : Nat → Int32} {y : Int32} (h : RowOk n m g o) (hy : ∃ b, b ≤ 10 ∧ y = nI b) : RowOk n m g (upd o i y) := by
  refine ⟨h.1, fun k hk => ?_, h.2.2⟩
  by_cases e : k = i
  · rw [e, upd_s]; exact hy
  · rw [upd_n e]; exact h.2.1 k hk
theorem RowOk.add {n m : Nat} {g o : Nat → Int32} {x y : Int32} (h : RowOk n m g o) (hx : ∃ a, a < n ∧ x = nI a) (hy : ∃ b, b ≤ 10 ∧ y = nI b) (hne : ∀ k, k < m → g k ≠ x) : RowOk n (m + 1) (upd g m x) (upd o m y) := by
  refine ⟨fun k hk => ?_, fun k hk => ?_, fun j k hj hk e => ?_⟩
  · by_cases e : k = m
    · rw [e, upd_s]; exact hx
    · rw [upd_n e]; exact h.1 k (by omega)
  · by_cases e : k = m
    · rw [e, upd_s]; exact hy
    · rw [upd_n e]; exact h.2.1 k (by omega)
  · by_cases e1 : j = m <;> by_cases e2 : k = m
    · omega
    · rw [e1, upd_s, upd_n e2] at e
      exact absurd e.symm (hne k (by omega))
    · rw [e2, upd_s, upd_n e1] at e
      exact absurd e (hne j (by omega))
    · rw [upd_n e1, upd_n e2] at e
      exact h.2.2 j k (by omega) (by omega) e
/-- what t_ord does -/
theorem ord_facts {d B n no nm : Nat} {s : Rw} {x y : Int32} (h : Core d B n no nm s) (hx : ∃ a, a < n ∧ x = nI a) (hy : ∃ b, b ≤ 10 ∧ y = nI b) :
    ∃ no', Core d B n no' nm (t_ord s x y) ∧ (∀ j, j ≠ 10 → (j < 20 ∨ 36 ≤ j) → t_ord s x y j = s j) ∧ (∀ i, ixO (oG s) x no = some i → no' = no ∧ (∀ k, k < no → oG (t_ord s x y) k = oG s k) ∧ ∀ k, k < no → oO (t_ord s x y) k = upd (oO s) i y k) ∧ (ixO (oG s) x no = none → no < 8 ∧ no' = no + 1 ∧ (∀ k, k < no + 1 → oG (t_ord s x y) k = upd (oG s) no x k) ∧ ∀ k, k < no + 1 → oO (t_ord s x y) k = upd (oO s) no y k) := by
  obtain ⟨⟨a1, a2, a3, a4, a5, a6⟩, ⟨b1, b2⟩, c, t, u, v⟩ := id h
  cases hi : ixO (oG s) x no with
  | some i =>
    obtain ⟨hin, he⟩ := ixO_some hi
    have e : t_ord s x y = upd (upd (upd s 10 (s 10 + 0)) (20 + 2 * i) x) (20 + 2 * i + 1) y := by
      rw [t_ord, cn_of a5 (by omega), hi]
    have lo : ∀ j, j ≠ 10 → (j < 20 ∨ 36 ≤ j) → t_ord s x y j = s j := fun j h1 h2 => by rw [e, upd_n (by omega), upd_n (by omega), upd_n h1]
    have l10 : t_ord s x y 10 = s 10 := by rw [e, upd_n (by omega), upd_n (by omega), upd_s, Int32.add_zero]
    have hG : ∀ k, k < no → oG (t_ord s x y) k = oG s k := fun k hk => by
      unfold oG
      rw [e, upd_n (by omega)]
      by_cases q : k = i
      · rw [q, upd_s]; exact he.symm
      · rw [upd_n (by omega), upd_n (by omega)]
    have hO : ∀ k, k < no → oO (t_ord s x y) k = upd (oO s) i y k := fun k hk => by
      unfold oO
      rw [e]
      by_cases q : k = i
      · rw [q, upd_s, upd_s]
      · rw [upd_n (by omega), upd_n (by omega), upd_n (by omega), upd_n q]
    refine ⟨no, ⟨⟨a1, a2, a3, (lo _ (by decide) (by omega)).trans a4, l10.trans a5, (lo _ (by decide) (by omega)).trans a6⟩, ⟨(b1.put hy).cong hG hO, b2.cong (fun k hk => lo _ (by omega) (by omega)) (fun k hk => lo _ (by omega) (by omega))⟩, c.cong fun g w _ _ => lo _ (by omega) (by omega), t.cong (lo _ (by decide) (by omega)) (lo _ (by decide) (by omega)), u.cong (lo _ (by decide) (by omega)) (lo _ (by decide) (by omega)) (lo _ (by decide) (by omega)) (lo _ (by decide) (by omega)) (lo _ (by decide) (by omega)) (lo _ (by decide) (by omega)) (lo _ (by decide) (by omega)), v.cong (lo _ (by decide) (by omega)) (lo _ (by decide) (by omega))⟩, lo, fun i' e' => ?_, fun e' => by cases e'⟩
    cases e'
    exact ⟨rfl, hG, hO⟩
  | none =>
    have hne := ixO_none hi
    have hadd := b1.add hx hy hne
    have hlt : no < 8 := by
      rcases Nat.lt_or_ge no 8 with q | q
      · exact q
      · exfalso
        -- one more order than gates
        have hn8 : no = 8 := by omega
        subst hn8
        obtain ⟨a, ha, ea⟩ := hx
        have hfin : ∀ (m n : Nat) (g o : Nat → Int32), n ≤ 8 → RowOk n m g o → m ≤ n := by
          intro m n g o hn h
          rcases Nat.lt_or_ge n m with z | z
          · have := RowOk.le (n := n) (m := min m 8) hn (Nat.min_le_right _ _) (h.trunc (Nat.min_le_left _ _))
            rcases Nat.lt_or_ge n 8 with w | w
            · omega
            · -- n = 8 and m ≥ 9: leave a gate out
              exfalso
              have hn8 : n = 8 := by omega
              subst hn8
              have h9 : RowOk 8 9 g o := h.trunc z
              by_cases cc : ∃ k, k < 9 ∧ g k = nI 7
              · obtain ⟨i, hi, ei⟩ := cc
                have h1 := h9.rem hi
                have h2 := h9.rem_ne hi
                have h3 : RowOk 7 8 (fun k => if k < i then g k else g (k + 1)) (fun k => if k < i then o k else o (k + 1)) := by
                  refine ⟨fun k hk => ?_, h1.2.1, h1.2.2⟩
                  obtain ⟨x, hx, e⟩ := h1.1 k hk
                  refine ⟨x, ?_, e⟩
                  have := h2 k hk
                  rcases Nat.lt_or_ge x 7 with q | q
                  · exact q
                  · exact absurd (e.trans ((show x = 7 by omega) ▸ ei.symm)) this
                have := RowOk.le (n := 7) (m := 8) (by omega) (by omega) h3
                omega
              · have h3 : RowOk 7 8 g o := by
                  have h8' := h9.trunc (m' := 8) (by omega)
                  refine ⟨fun k hk => ?_, h8'.2.1, h8'.2.2⟩
                  obtain ⟨x, hx, e⟩ := h8'.1 k hk
                  refine ⟨x, ?_, e⟩
                  rcases Nat.lt_or_ge x 7 with q | q
                  · exact q
                  · exact absurd ⟨k, by omega, (show x = 7 by omega) ▸ e⟩ cc
                have := RowOk.le (n := 7) (m := 8) (by omega) (by omega) h3
                omega
          · exact z
        have := hfin _ _ _ _ a1 hadd
        omega
    have e : t_ord s x y = upd (upd (upd s 10 (s 10 + 1)) (20 + 2 * no) x) (20 + 2 * no + 1) y := by
      rw [t_ord, cn_of a5 (by omega), hi]
    have lo : ∀ j, j ≠ 10 → (j < 20 ∨ 36 ≤ j) → t_ord s x y j = s j := fun j h1 h2 => by rw [e, upd_n (by omega), upd_n (by omega), upd_n h1]
    have l10 : t_ord s x y 10 = nI (no + 1) := by rw [e, upd_n (by omega), upd_n (by omega), upd_s, a5, nI_1]
    have hG : ∀ k, k < no + 1 → oG (t_ord s x y) k = upd (oG s) no x k := fun k hk => by
      unfold oG
      rw [e, upd_n (by omega)]
      by_cases q : k = no
      · rw [q, upd_s, upd_s]
      · rw [upd_n (by omega), upd_n (by omega), upd_n q]
    have hO : ∀ k, k < no + 1 → oO (t_ord s x y) k = upd (oO s) no y k := fun k hk => by
      unfold oO
      rw [e]
      by_cases q : k = no
      · rw [q, upd_s, upd_s]
      · rw [upd_n (by omega), upd_n (by omega), upd_n (by omega), upd_n q]
    refine ⟨no + 1, ⟨⟨a1, by omega, a3, (lo _ (by decide) (by omega)).trans a4, l10, (lo _ (by decide) (by omega)).trans a6⟩, ⟨hadd.cong hG hO, b2.cong (fun k hk => lo _ (by omega) (by omega)) (fun k hk => lo _ (by omega) (by omega))⟩, c.cong fun g w _ _ => lo _ (by omega) (by omega), t.cong (lo _ (by decide) (by omega)) (lo _ (by decide) (by omega)), u.cong (lo _ (by decide) (by omega)) (lo _ (by decide) (by omega)) (lo _ (by decide) (by omega)) (lo _ (by decide) (by omega)) (lo _ (by decide) (by omega)) (lo _ (by decide) (by omega)) (lo _ (by decide) (by omega)), v.cong (lo _ (by decide) (by omega)) (lo _ (by decide) (by omega))⟩, lo, fun i' e' => (by cases e'), fun _ => ⟨hlt, rfl, hG, hO⟩⟩
theorem unm_facts {d B n no nm : Nat} {s : Rw} {x : Int32} (h : Core d B n no nm s) : ∃ nm', Core d B n no nm' (t_unm s x) ∧ (∀ j, j ≠ 11 → (j < 36 ∨ 44 ≤ j) → t_unm s x j = s j) := by
  obtain ⟨⟨a1, a2, a3, a4, a5, a6⟩, ⟨b1, b2⟩, c, t, u, v⟩ := id h
  unfold t_unm
  rw [cn_of a6 (by omega)]
  cases hi : ixO (mG s) x nm with
  | none => exact ⟨nm, h, fun _ _ _ => rfl⟩
  | some j =>
    obtain ⟨hin, -⟩ := ixO_some hi
    exact ⟨nm - 1, core_dM h hin, fun k h1 h2 => t_dM_n a3 h1 h2⟩
theorem core_order {d B n no nm : Nat} {s : Rw} {x y : Int32} (h : Core d B n no nm s) (hx : ∃ a, a < n ∧ x = nI a) (hy : ∃ b, b ≤ 10 ∧ y = nI b) : ∃ no' nm', Core d B n no' nm' (t_order s x y) ∧ (Opn s → Opn (t_order s x y)) := by
  obtain ⟨no', h1, lo1, -, -⟩ := ord_facts h hx hy
  obtain ⟨nm', h2, lo2⟩ := unm_facts (x := x) h1
  exact ⟨no', nm', h2, fun ho => ho.cong h.2.2.2.1 h.1.1 ((lo2 7 (by decide) (by omega)).trans (lo1 7 (by decide) (by omega))) ((lo2 8 (by decide) (by omega)).trans (lo1 8 (by decide) (by omega))) fun g hg => (lo2 _ (by omega) (by omega)).trans (lo1 _ (by omega) (by omega))⟩
theorem order_ok {d B n no nm : Nat} {s : Rw} {x y : Int32} (h : Core d B n no nm s) (ha : ¬ a_order s x y < 0) : (∃ a, a < n ∧ x = nI a) ∧ (∃ b, b ≤ 10 ∧ y = nI b) ∧ ¬ (s (46 + 5 * x.toNatClampNeg + 0) = 2 ∧ y - y / 2 * 2 = 1) ∧ a_order s x y = t_order s x y 10 := by
  unfold a_order at ha ⊢
  by_cases c : isG s x ∧ (0 ≤ y ∧ y ≤ 10)
  · rw [if_pos c] at ha ⊢
    by_cases c2 : s (46 + 5 * x.toNatClampNeg + 0) = 2 ∧ y - y / 2 * 2 = 1
    · rw [if_pos c2] at ha
      exact absurd (by decide) ha
    · rw [if_neg c2]
      exact ⟨(isG_of h.1.2.2.2.1 h.1.1).mp c.1, nat_of c.2.1 c.2.2 (b := 10) rfl (by omega), c2, rfl⟩
  · rw [if_neg c] at ha
    exact absurd (by decide) ha
theorem v_unm {M : St} {Q : Int32 → St → Prop} {x : Int32} {nm : Nat} (hm : M 0 11 = nI nm) (h4 : nm ≤ 4) (h : Q (t_unm (M 0) x 10) (uA M 0 (t_unm (M 0) x))) : q_X6_markOf x M (fun r_12 => (r_12 < 0 → Q (M 0 10) M) ∧ (¬ (r_12 < 0) → q_X6_markOf x M (fun r_14 => q_X6_dropsMark r_14 M (fun u_15 => Q ((u_15 0) 10) u_15)))) := by
  refine v_markOf hm h4 ?_
  unfold t_unm at h
  rw [cn_of hm (by omega)] at h
  cases hi : ixO (fun k => M 0 (36 + 2 * k)) x nm with
  | none =>
    have hi' : ixO (mG (M 0)) x nm = none := hi
    rw [hi', uA_id] at h
    exact ⟨fun _ => h, fun c => absurd ixR_none c⟩
  | some j =>
    have hi' : ixO (mG (M 0)) x nm = some j := hi
    rw [hi'] at h
    obtain ⟨hin, -⟩ := ixO_some hi
    refine ⟨fun c => absurd c (ixR_some (by omega)), fun _ => v_markOf hm h4 ?_⟩
    rw [hi]
    refine v_dropsMark nm j hm h4 hin rfl ?_
    rw [uA_s]
    exact h
theorem v_ordT {d B n no nm : Nat} {U : St} {Q : Int32 → St → Prop} {x y : Int32} (hC : Core d B n no nm (U 0)) (hx : ∃ a, a < n ∧ x = nI a) (hy : ∃ b, b ≤ 10 ∧ y = nI b) (h : Q (t_order (U 0) x y 10) (uA U 0 (t_order (U 0) x y))) : OrdT x y U Q := by
  obtain ⟨no', h1, lo1, hs, hn⟩ := ord_facts hC hx hy
  have a5 := hC.1.2.2.2.2.1
  have a2 := hC.1.2.1
  have m1 : t_ord (U 0) x y 11 = nI nm := h1.1.2.2.2.2.2
  have h4 := h1.1.2.2.1
  unfold OrdT
  refine v_orderOf a5 a2 ?_
  unfold t_order at h
  have e : t_ord (U 0) x y = match ixO (oG (U 0)) x no with
      | some k => upd (upd (upd (U 0) 10 (U 0 10 + 0)) (20 + 2 * k) x) (20 + 2 * k + 1) y
      | none => upd (upd (upd (U 0) 10 (U 0 10 + 1)) (20 + 2 * no) x) (20 + 2 * no + 1) y := by
    rw [t_ord, cn_of a5 (by omega)]
  cases hi : ixO (oG (U 0)) x no with
  | some k =>
    have hi' : ixO (fun k => U 0 (20 + 2 * k)) x no = some k := hi
    rw [hi] at e
    have e : t_ord (U 0) x y = upd (upd (upd (U 0) 10 (U 0 10 + 0)) (20 + 2 * k) x) (20 + 2 * k + 1) y := e
    obtain ⟨hin, -⟩ := ixO_some hi
    rw [hi', show ixR (some k) = nI k from rfl, show (20 : Int32) = nI 20 from rfl, ix_row, nI_1, nI_c _ (by omega), nI_c _ (by omega), uA_uA, uA_uA, ← e]
    refine ⟨fun _ => ⟨vp_in_nI (by omega) (by omega), vp_in_nI (by omega) (by omega), ?_⟩, fun q => absurd (nI_pos' (by omega)) q⟩
    have := v_unm (M := uA U 0 (t_ord (U 0) x y)) (x := x) (Q := Q) (by rw [uA_s]; exact m1) h4 (by rw [uA_s, uA_uA]; exact h)
    rw [uA_s] at this
    exact this
  | none =>
    have hi' : ixO (fun k => U 0 (20 + 2 * k)) x no = none := hi
    rw [hi] at e
    have e : t_ord (U 0) x y = upd (upd (upd (U 0) 10 (U 0 10 + 1)) (20 + 2 * no) x) (20 + 2 * no + 1) y := e
    obtain ⟨hlt, -⟩ := hn hi
    refine ⟨fun q => absurd q (by rw [hi']; decide), fun _ => ?_⟩
    have e20 : (20 : Int32) + 2 * U 0 10 = nI (20 + 2 * no) := by rw [a5, show (20 : Int32) = nI 20 from rfl, ix_row]
    rw [e20, nI_1, nI_c _ (by omega), nI_c _ (by omega), uA_uA, uA_uA, ← e]
    refine ⟨vp_in_nI (by omega) (by omega), vp_in_nI (by omega) (by omega), ?_⟩
    have := v_unm (M := uA U 0 (t_ord (U 0) x y)) (x := x) (Q := Q) (by rw [uA_s]; exact m1) h4 (by rw [uA_s, uA_uA]; exact h)
    rw [uA_s] at this
    exact this
theorem v_order {d B n no nm : Nat} {M : St} {P : St → Prop} {Q : Int32 → St → Prop} {x y : Int32} (hch : Chg M P) (hC : Core d B n no nm (M 0))
    (he : a_order (M 0) x y < 0 → Q (a_order (M 0) x y) M) (hok : ¬ a_order (M 0) x y < 0 → ∀ u, u 0 = M 0 → P u → Q (a_order (M 0) x y) (uA u 0 (t_order (M 0) x y))) : q_X6_order x y M Q := by
  have a4 := hC.1.2.2.2.1
  have a1 := hC.1.1
  have bad : ¬ (isG (M 0) x ∧ (0 ≤ y ∧ y ≤ 10)) → Q (-1000001) M := fun q => by
    unfold a_order at he
    rw [if_neg q] at he
    exact he (by decide)
  have np : isG (M 0) x ∧ (0 ≤ y ∧ y ≤ 10) → (M 0 (46 + 5 * x.toNatClampNeg + 0) = 2 ∧ y - y / 2 * 2 = 1) → Q (-1000002) M := fun q1 q2 => by
    unfold a_order at he
    rw [if_pos q1, if_pos q2] at he
    exact he (by decide)
  have good : isG (M 0) x ∧ (0 ≤ y ∧ y ≤ 10) → ¬ (M 0 (46 + 5 * x.toNatClampNeg + 0) = 2 ∧ y - y / 2 * 2 = 1) → q_X6_changes M (fun U => OrdT x y U Q) := fun q1 q2 => hch _ fun u hu hp => by
    have hx := (isG_of a4 a1).mp q1.1
    have hy := nat_of q1.2.1 q1.2.2 (b := 10) rfl (by omega)
    have ea : a_order (M 0) x y = t_order (M 0) x y 10 := by
      unfold a_order
      rw [if_pos q1, if_neg q2]
    obtain ⟨no', nm', h2, -⟩ := core_order hC hx hy
    have hpos : ¬ a_order (M 0) x y < 0 := by
      rw [ea, h2.1.2.2.2.2.1]
      have := h2.1.2.1
      exact nI_pos (by omega)
    have := hok hpos u hu hp
    rw [ea, ← hu] at this
    exact v_ordT (d := d) (B := B) (n := n) (no := no) (nm := nm) (by rw [hu]; exact hC) hx hy this
  unfold q_X6_order
  refine v_isGate a4 a1 (fun g hg eg => ⟨fun q => absurd q (by decide), fun _ => v_in (fun h3 h4 => ⟨fun q => absurd q (by decide), fun _ => ?_⟩) (fun hne => ⟨fun _ => bad fun q => hne q.2, fun q => absurd rfl q⟩)⟩) (fun hne => ⟨fun _ => bad fun q => ?_, fun q => absurd rfl q⟩)
  · have hG : isG (M 0) x := (isG_of a4 a1).mpr ⟨g, hg, eg⟩
    have ex : x.toNatClampNeg = g := by rw [eg]; exact nI_c _ (by omega)
    refine v_of g 0 eg rfl (by omega) (by decide) ⟨fun c2 => ⟨fun c3 => ?_, fun c3 => ?_⟩, fun c2 => ?_⟩
    · exact np ⟨hG, h3, h4⟩ ⟨by rw [ex]; exact c2, c3⟩
    · exact good ⟨hG, h3, h4⟩ fun q => c3 q.2
    · exact good ⟨hG, h3, h4⟩ fun q => c2 (by rw [← ex]; exact q.1)
  · obtain ⟨g, hg, e⟩ := (isG_of a4 a1).mp q.1
    exact hne g hg e
theorem odd_all : ∀ b, b < 11 → (nI b - nI b / 2 * 2 = 0 ∨ nI b - nI b / 2 * 2 = 1) := by decide +kernel
theorem c_kind {n g : Nat} {T : St} {s : Rw} {Q : Int32 → Prop} {x : Int32} (hR : GateR n T s) (h8 : n ≤ 8) (hg : g < n) (hx : x = nI g) (h : Q (s (46 + 5 * g + 0))) : q_X1_kind x T Q := by
  subst hx
  unfold q_X1_kind
  refine c_has hR h8 (fun _ _ _ => ⟨fun q => absurd q (by decide), fun _ => ⟨vp_in_nI (by omega) (by omega), ?_⟩⟩) (fun q => absurd rfl (q g hg))
  rw [nI_c _ (by omega), hR.2.1 g hg]
  exact h
/-- the class's marks without the gate's -/
theorem c_unm {T : St} {Q : St → Prop} {x : Int32} {n nm : Nat} {s : Rw} (hT : TaskR T 4 nm (mG s) (mO s)) (hR : RowOk n nm (mG s) (mO s)) (h4 : nm ≤ 4) (hc : s 11 = nI nm)
    (h : ∀ u nm', nm' ≤ 4 → t_unm s x 11 = nI nm' → TaskR u 4 nm' (mG (t_unm s x)) (mO (t_unm s x)) → Q u) : q_X4_indexOf x T (fun r => q_X4_removeAt r T Q) := by
  refine c_index hT hR (by omega) ?_
  unfold t_unm at h
  rw [cn_of hc (by omega)] at h
  cases hi : ixO (mG s) x nm with
  | none =>
    rw [hi] at h
    exact c_remove_neg (by decide) (h T nm h4 hc hT)
  | some j =>
    rw [hi] at h
    obtain ⟨hin, -⟩ := ixO_some hi
    refine c_remove hT (by omega) hin rfl fun u hu => h u (nm - 1) (by omega) (upd_s _ _ _) (hu.cong (fun k hk => (t_dM_G hin hk).symm) (fun k hk => (t_dM_O hin hk).symm))
theorem c_giveOrder {d B n no nm : Nat} {D : St} {s : Rw} {Q : Int32 → St → Prop} {x y : Int32} (hR : Rl D s) (hC : Core d B n no nm s)
    (he : a_order s x y < 0 → Q (a_order s x y) D) (hok : ¬ a_order s x y < 0 → ∀ D', Rl D' (t_order s x y) → Q (a_order s x y) D') : q_X0_giveOrder x y D Q := by
  have hc := hC.1
  have a1 := hc.1
  have a4 : s 3 = nI n := hc.2.2.2.1
  obtain ⟨rg, ro, rm, rs, rn, r7, r8⟩ := hR n no nm hc
  have bad : ¬ (isG s x ∧ (0 ≤ y ∧ y ≤ 10)) → Q (-1000001) D := fun q => by
    unfold a_order at he
    rw [if_neg q] at he
    exact he (by decide)
  have np : isG s x ∧ (0 ≤ y ∧ y ≤ 10) → (s (46 + 5 * x.toNatClampNeg + 0) = 2 ∧ y - y / 2 * 2 = 1) → Q (-1000002) D := fun q1 q2 => by
    unfold a_order at he
    rw [if_pos q1, if_pos q2] at he
    exact he (by decide)
  have good : isG s x ∧ (0 ≤ y ∧ y ≤ 10) → ¬ (s (46 + 5 * x.toNatClampNeg + 0) = 2 ∧ y - y / 2 * 2 = 1) → q_X4_indexOf x (fun i => D (10 + i)) (fun r_7 => q_X4_removeAt r_7 (fun i => D (10 + i)) (fun u_8 => q_X4_put x y (fun i => (mgK D u_8) (6 + i)) (fun u_9 => q_X4_size (fun i => (mgO (mgK D u_8) u_9) (6 + i)) (fun r_10 => Q r_10 (mgO (mgK D u_8) u_9))))) := fun q1 q2 => by
    have hx := (isG_of a4 a1).mp q1.1
    have hy := nat_of q1.2.1 q1.2.2 (b := 10) rfl (by omega)
    have ea : a_order s x y = t_order s x y 10 := by
      unfold a_order
      rw [if_pos q1, if_neg q2]
    obtain ⟨no', h1, lo1, hs, hn⟩ := ord_facts hC hx hy
    obtain ⟨nm2, h2, lo2⟩ := unm_facts (x := x) h1
    have h2o : Core d B n no' nm2 (t_order s x y) := h2
    have hpos : ¬ a_order s x y < 0 := by
      rw [ea, h2o.1.2.2.2.2.1]
      have := h2o.1.2.1
      exact nI_pos (by omega)
    have hok := hok hpos
    rw [ea] at hok
    have ho8 := hc.2.1
    have hm4 := hc.2.2.1
    have lo : ∀ j, j ≠ 10 → j ≠ 11 → (j < 20 ∨ 44 ≤ j) → s j = t_order s x y j := fun j z1 z2 z3 => ((lo2 j z2 (by omega)).trans (lo1 j z1 (by omega))).symm
    have hoG : ∀ k, k < 8 → oG (t_order s x y) k = oG (t_ord s x y) k := fun k hk => lo2 _ (by omega) (by omega)
    have hoO : ∀ k, k < 8 → oO (t_order s x y) k = oO (t_ord s x y) k := fun k hk => lo2 _ (by omega) (by omega)
    refine c_unm (s := t_ord s x y) (n := n) (TaskR.cong (T := fun i => D (10 + i)) rm (fun k hk => (lo1 _ (by omega) (by omega)).symm) (fun k hk => (lo1 _ (by omega) (by omega)).symm)) h1.2.1.2 h1.1.2.2.1 h1.1.2.2.2.2.2 fun u nm' hm' e11 hu => ?_
    have hCn : Cn n no' nm' (t_order s x y) := ⟨a1, h2o.1.2.1, hm', h2o.1.2.2.2.1, h2o.1.2.2.2.2.1, e11⟩
    refine c_put (mo := 8) (g := oG s) (o := oO s) (m := no) (n := n) ro hC.2.1.1 ho8 rfl (fun e => (hn e).1) fun w hsome hnone => ?_
    have hw : TaskR w 8 no' (oG (t_order s x y)) (oO (t_order s x y)) := by
      cases hi : ixO (oG s) x no with
      | some i =>
        obtain ⟨e1, e2, e3⟩ := hs i hi
        subst e1
        exact (hsome i hi).cong (fun k hk => by rw [hoG k (by omega), e2 k hk]) (fun k hk => by rw [hoO k (by omega), e3 k hk])
      | none =>
        obtain ⟨hlt', e1, e2, e3⟩ := hn hi
        subst e1
        exact (hnone hi).cong (fun k hk => by rw [hoG k (by omega), e2 k hk]) (fun k hk => by rw [hoO k (by omega), e3 k hk])
    refine c_size4 ?_
    have e9 : mgO (mgK D u) w (6 + 3) 0 = t_order s x y 10 := by
      show w 3 0 = _
      rw [hw.2.1]
      exact h2o.1.2.2.2.2.1.symm
    rw [e9]
    refine hok _ (Rl.of hCn ⟨rg.cong fun g2 w2 _ _ => lo _ (by omega) (by omega) (by omega), hw, hu, rs.cong fun j hj => lo _ (by omega) (by omega) (by omega), rn.cong fun j z1 z2 z3 z4 z5 z6 => lo j z5 z6 (by omega), r7.trans (lo _ (by decide) (by decide) (by omega)), fun q => ?_⟩)
    rw [← lo 7 (by decide) (by decide) (by omega)] at q
    exact (r8 q).trans (lo _ (by decide) (by decide) (by omega))
  unfold q_X0_giveOrder
  refine c_has rg a1 (fun g hg eg => ⟨fun q => absurd q (by decide), fun _ => ⟨fun c => bad fun q => absurd q.2.1 (Int32.not_le.mpr c), fun c1 => ⟨fun c2 => ?_, fun c => bad fun q => c q.2.2⟩⟩⟩) (fun hne => ⟨fun _ => bad fun q => ?_, fun q => absurd rfl q⟩)
  · have hG : isG s x ∧ (0 ≤ y ∧ y ≤ 10) := ⟨(isG_of a4 a1).mpr ⟨g, hg, eg⟩, Int32.not_lt.mp c1, c2⟩
    have ex : x.toNatClampNeg = g := by rw [eg]; exact nI_c _ (by omega)
    refine c_kind rg a1 hg eg ⟨fun k2 => ⟨fun c3 => good hG fun q => ?_, fun c3 => np hG ⟨by rw [ex]; exact k2, ?_⟩⟩, fun k2 => good hG fun q => k2 (by rw [← ex]; exact q.1)⟩
    · exact absurd (c3.symm.trans q.2) (by decide)
    · obtain ⟨b, hb, eb⟩ := nat_of hG.2.1 hG.2.2 (b := 10) rfl (by omega)
      rcases odd_all b (by omega) with q | q
      · exact absurd (by rw [eb]; exact q) c3
      · rw [eb]; exact q
  · obtain ⟨g, hg, e⟩ := (isG_of a4 a1).mp q.1
    exact hne g hg e
