/-! Changes: cancel, numbers, minutes. -/
def a_cancel (s : Rw) (x : Int32) : Int32 := if isG s x then (match ixO (oG s) x (cn s 10) with
  | none => -1000002
  | some k => s (20 + 2 * k + 1)) else -1000001
def t_cancel (s : Rw) (x : Int32) : Rw := match ixO (oG s) x (cn s 10) with
  | some k => t_dO s (cn s 10) k
  | none => s
theorem cancel_ok {d B n no nm : Nat} {s : Rw} {x : Int32} (hC : Core d B n no nm s) (ha : ¬ a_cancel s x < 0) : ∃ k, k < no ∧ ixO (oG s) x no = some k ∧ isG s x ∧ a_cancel s x = s (20 + 2 * k + 1) ∧ t_cancel s x = t_dO s no k := by
  have a5 := hC.1.2.2.2.2.1
  have ho8 := hC.1.2.1
  unfold a_cancel t_cancel at *
  rw [cn_of a5 (by omega)] at *
  by_cases c : isG s x
  · rw [if_pos c] at ha ⊢
    cases hi : ixO (oG s) x no with
    | none => rw [hi] at ha; exact absurd (show (-1000002 : Int32) < 0 by decide) ha
    | some k =>
      obtain ⟨hk, -⟩ := ixO_some hi
      exact ⟨k, hk, rfl, c, rfl, rfl⟩
  · rw [if_neg c] at ha
    exact absurd (by decide) ha
theorem core_cancel {d B n no nm : Nat} {s : Rw} {x : Int32} (hC : Core d B n no nm s) (ha : ¬ a_cancel s x < 0) : Core d B n (no - 1) nm (t_cancel s x) ∧ (Opn s → Opn (t_cancel s x)) := by
  obtain ⟨k, hk, -, -, -, e⟩ := cancel_ok hC ha
  have ho8 := hC.1.2.1
  rw [e]
  exact ⟨core_dO hC hk, fun ho => ho.cong hC.2.2.2.1 hC.1.1 (t_dO_n ho8 (by decide) (by omega)) (t_dO_n ho8 (by decide) (by omega)) fun g _ => t_dO_n ho8 (by omega) (by omega)⟩
theorem v_cancel {d B n no nm : Nat} {M : St} {P : St → Prop} {Q : Int32 → St → Prop} {x : Int32} (hch : Chg M P) (hC : Core d B n no nm (M 0))
    (he : a_cancel (M 0) x < 0 → Q (a_cancel (M 0) x) M) (hok : ¬ a_cancel (M 0) x < 0 → ∀ u, u 0 = M 0 → P u → Q (a_cancel (M 0) x) (uA u 0 (t_cancel (M 0) x))) : q_X6_cancel x M Q := by
  have a4 := hC.1.2.2.2.1
  have a5 := hC.1.2.2.2.2.1
  have a1 := hC.1.1
  have a2 := hC.1.2.1
  unfold q_X6_cancel
  unfold a_cancel t_cancel at *
  rw [cn_of a5 (by omega)] at *
  refine v_isGate a4 a1 (fun g hg eg => ⟨fun q => absurd q (by decide), fun _ => v_orderOf a5 a2 ?_⟩) (fun hne => ⟨fun _ => ?_, fun q => absurd rfl q⟩)
  · have hG : isG (M 0) x := (isG_of a4 a1).mpr ⟨g, hg, eg⟩
    rw [if_pos hG] at he hok
    cases hi : ixO (oG (M 0)) x no with
    | none =>
      have hi' : ixO (fun k => M 0 (20 + 2 * k)) x no = none := hi
      rw [hi] at he
      rw [hi']
      exact ⟨fun q => absurd q (by decide), fun _ => he (show (-1000002 : Int32) < 0 by decide)⟩
    | some k =>
      have hi' : ixO (fun k => M 0 (20 + 2 * k)) x no = some k := hi
      rw [hi] at hok
      rw [hi', show ixR (some k) = nI k from rfl, show (20 : Int32) = nI 20 from rfl, ix_row, nI_1, nI_c _ (by obtain ⟨z, -⟩ := ixO_some hi; omega)]
      obtain ⟨hk, -⟩ := ixO_some hi
      obtain ⟨y, hy, ey⟩ := hC.2.1.1.2.1 k hk
      have ey : M 0 (20 + 2 * k + 1) = nI y := ey
      refine ⟨fun _ => hch _ fun u hu hp => ⟨vp_in_nI (by omega) (by omega), v_dropsOrder no k (by rw [hu]; exact a5) a2 hk rfl ?_⟩, fun q => absurd (nI_pos' (by omega)) q⟩
      have := hok (show ¬ M 0 (20 + 2 * k + 1) < 0 by rw [ey]; exact nI_pos (by omega)) u hu hp
      rw [hu]
      exact this
  · rw [if_neg fun q => by obtain ⟨g, hg, e⟩ := (isG_of a4 a1).mp q; exact hne g hg e] at he
    exact he (by decide)
theorem c_cancelOrder {d B n no nm : Nat} {D : St} {s : Rw} {Q : Int32 → St → Prop} {x : Int32} (hR : Rl D s) (hC : Core d B n no nm s)
    (he : a_cancel s x < 0 → Q (a_cancel s x) D) (hok : ¬ a_cancel s x < 0 → ∀ D', Rl D' (t_cancel s x) → Q (a_cancel s x) D') : q_X0_cancelOrder x D Q := by
  have hc := hC.1
  have a1 := hc.1
  have a4 : s 3 = nI n := hc.2.2.2.1
  have a5 : s 10 = nI no := hc.2.2.2.2.1
  have ho8 := hc.2.1
  have hm4 := hc.2.2.1
  obtain ⟨rg, ro, rm, rs, rn, r7, r8⟩ := hR n no nm hc
  unfold q_X0_cancelOrder
  unfold a_cancel t_cancel at *
  rw [cn_of a5 (by omega)] at *
  refine c_has rg a1 (fun g hg eg => ⟨fun q => absurd q (by decide), fun _ => c_index (T := fun i => D (6 + i)) ro hC.2.1.1 ho8 ?_⟩) (fun hne => ⟨fun _ => ?_, fun q => absurd rfl q⟩)
  · have hG : isG s x := (isG_of a4 a1).mpr ⟨g, hg, eg⟩
    rw [if_pos hG] at he hok
    cases hi : ixO (oG s) x no with
    | none =>
      rw [hi] at he
      exact ⟨fun _ => he (show (-1000002 : Int32) < 0 by decide), fun q => absurd rfl q⟩
    | some k =>
      rw [hi] at hok
      obtain ⟨hk, -⟩ := ixO_some hi
      obtain ⟨y, hy, ey⟩ := hC.2.1.1.2.1 k hk
      have ey : s (20 + 2 * k + 1) = nI y := ey
      have hne : ¬ ixM (some k) = -1 := fun e => by
        have := nI_pos (n := k) (by omega)
        have e : nI k = -1 := e
        rw [e] at this
        exact this (by decide)
      refine ⟨fun q => absurd q hne, fun _ => c_openingAt (T := fun i => D (6 + i)) ro ho8 hk rfl (c_remove (T := fun i => D (6 + i)) ro ho8 hk rfl fun u hu => ?_)⟩
      refine hok (show ¬ s (20 + 2 * k + 1) < 0 by rw [ey]; exact nI_pos (by omega)) _ ?_
      have lo : ∀ j, j ≠ 10 → (j < 20 ∨ 36 ≤ j) → s j = t_dO s no k j := fun j z1 z2 => (t_dO_n ho8 z1 z2).symm
      refine Rl.of (core_dO hC hk).1 ⟨rg.cong fun g2 w2 _ _ => lo _ (by omega) (by omega), TaskR.cong (T := u) hu (fun j hj => (t_dO_G hk hj).symm) (fun j hj => (t_dO_O hk hj).symm), TaskR.cong (T := fun i => D (10 + i)) rm (fun k hk => lo _ (by omega) (by omega)) (fun k hk => lo _ (by omega) (by omega)), rs.cong fun j hj => lo _ (by omega) (by omega), rn.cong fun j z1 z2 z3 z4 z5 z6 => lo j z5 (by omega), r7.trans (lo _ (by decide) (by omega)), fun q => ?_⟩
      have q : ¬ t_dO s no k 7 < 0 := q
      rw [← lo 7 (by decide) (by omega)] at q
      exact (r8 q).trans (lo _ (by decide) (by omega))
  · rw [if_neg fun q => by obtain ⟨g, hg, e⟩ := (isG_of a4 a1).mp q; exact hne g hg e] at he
    exact he (by decide)
/-! the numbers -/
theorem v_sets {M : St} {P : St → Prop} {Q : Int32 → St → Prop} {x y : Int32} (p : Nat) (hx : x = nI p) (hp : p < 86) (hch : Chg M P) (hok : ∀ u, u 0 = M 0 → P u → Q (M 0 p) (uA u 0 (upd (M 0) p y))) : q_X6_sets x y M Q := by
  subst hx
  unfold q_X6_sets
  refine hch _ fun u hu hP => ⟨vp_in_nI hp (by omega), ?_⟩
  rw [nI_c _ (by omega), hu]
  exact hok u hu hP
def a_inflow (s : Rw) (x : Int32) : Int32 := if 0 ≤ x ∧ x ≤ 300 then s 5 else -1000001
def a_fill (s : Rw) (x : Int32) : Int32 := if 0 ≤ x ∧ x ≤ 9999 then s 4 else -1000001
def a_set (s : Rw) (x y : Int32) : Int32 := if ((x = 0 ∨ x = 1) ∧ (1 ≤ y ∧ y ≤ 9999)) ∨ (x = 2 ∧ (0 ≤ y ∧ y ≤ 2)) then s x.toNatClampNeg else -1000001
theorem v_inflow {M : St} {P : St → Prop} {Q : Int32 → St → Prop} {x : Int32} (hch : Chg M P) (h5 : ¬ M 0 5 < 0)
    (he : a_inflow (M 0) x < 0 → Q (a_inflow (M 0) x) M) (hok : ¬ a_inflow (M 0) x < 0 → ∀ u, u 0 = M 0 → P u → Q (a_inflow (M 0) x) (uA u 0 (upd (M 0) 5 x))) : q_X6_inflow x M Q := by
  unfold q_X6_inflow
  unfold a_inflow at *
  refine v_in (fun h1 h2 => ⟨fun q => absurd q (by decide), fun _ => v_sets 5 rfl (by decide) hch ?_⟩) (fun hne => ⟨fun _ => ?_, fun q => absurd rfl q⟩)
  · rw [if_pos ⟨h1, h2⟩] at hok
    exact hok h5
  · rw [if_neg hne] at he
    exact he (by decide)
theorem v_fill {M : St} {P : St → Prop} {Q : Int32 → St → Prop} {x : Int32} (hch : Chg M P) (h4 : ¬ M 0 4 < 0)
    (he : a_fill (M 0) x < 0 → Q (a_fill (M 0) x) M) (hok : ¬ a_fill (M 0) x < 0 → ∀ u, u 0 = M 0 → P u → Q (a_fill (M 0) x) (uA u 0 (upd (M 0) 4 x))) : q_X6_fill x M Q := by
  unfold q_X6_fill
  unfold a_fill at *
  refine v_in (fun h1 h2 => ⟨fun q => absurd q (by decide), fun _ => v_sets 4 rfl (by decide) hch ?_⟩) (fun hne => ⟨fun _ => ?_, fun q => absurd rfl q⟩)
  · rw [if_pos ⟨h1, h2⟩] at hok
    exact hok h4
  · rw [if_neg hne] at he
    exact he (by decide)
theorem v_set {M : St} {P : St → Prop} {Q : Int32 → St → Prop} {x y : Int32} (hch : Chg M P) (h0 : ∀ j, j < 3 → ¬ M 0 j < 0)
    (he : a_set (M 0) x y < 0 → Q (a_set (M 0) x y) M) (hok : ¬ a_set (M 0) x y < 0 → ∀ u, u 0 = M 0 → P u → Q (a_set (M 0) x y) (uA u 0 (upd (M 0) x.toNatClampNeg y))) : q_X6_set x y M Q := by
  unfold q_X6_set
  unfold a_set at *
  have good : ∀ p : Nat, p < 3 → x = nI p → (((x = 0 ∨ x = 1) ∧ (1 ≤ y ∧ y ≤ 9999)) ∨ (x = 2 ∧ (0 ≤ y ∧ y ≤ 2))) → q_X6_sets x y M (fun r u => Q r u) := fun p hp e hc => by
    rw [if_pos hc] at hok
    have ep : x.toNatClampNeg = p := by rw [e]; exact nI_c _ (by omega)
    rw [ep] at hok
    exact v_sets p e (by omega) hch (hok (h0 p hp))
  have bad : ¬ (((x = 0 ∨ x = 1) ∧ (1 ≤ y ∧ y ≤ 9999)) ∨ (x = 2 ∧ (0 ≤ y ∧ y ≤ 2))) → Q (-1000001) M := fun hc => by
    rw [if_neg hc] at he
    exact he (by decide)
  refine ⟨fun c0 => v_in (fun h1 h2 => ⟨fun q => absurd q (by decide), fun _ => good 0 (by decide) c0 (Or.inl ⟨Or.inl c0, h1, h2⟩)⟩) (fun hne => ⟨fun _ => bad ?_, fun q => absurd rfl q⟩), fun c0 => ⟨fun c1 => v_in (fun h1 h2 => ⟨fun q => absurd q (by decide), fun _ => good 1 (by decide) c1 (Or.inl ⟨Or.inr c1, h1, h2⟩)⟩) (fun hne => ⟨fun _ => bad ?_, fun q => absurd rfl q⟩), fun c1 => ⟨fun c2 => v_in (fun h1 h2 => ⟨fun q => absurd q (by decide), fun _ => good 2 (by decide) c2 (Or.inr ⟨c2, h1, h2⟩)⟩) (fun hne => ⟨fun _ => bad ?_, fun q => absurd rfl q⟩), fun c2 => bad ?_⟩⟩⟩
  · rintro (q | q)
    · exact hne q.2
    · exact absurd (c0.symm.trans q.1) (by decide)
  · rintro (q | q)
    · exact hne q.2
    · exact absurd (c1.symm.trans q.1) (by decide)
  · rintro (q | q)
    · rcases q.1 with q1 | q1
      · exact c0 q1
      · exact c1 q1
    · exact hne q.2
  · rintro (q | q)
    · rcases q.1 with q1 | q1
      · exact c0 q1
      · exact c1 q1
    · exact c2 q.1
/-- one number of the first twenty is set -/
theorem core_num {d B n no nm p : Nat} {s : Rw} {v : Int32} (h : Core d B n no nm s) (hp : p = 0 ∨ p = 1 ∨ p = 2 ∨ p = 4 ∨ p = 5) (hv : Nums (upd s p v)) : Core d B n no nm (upd s p v) ∧ (Opn s → Opn (upd s p v)) := by
  have lo : ∀ j, j ≠ p → upd s p v j = s j := fun j hj => upd_n hj
  refine ⟨core_low h (fun j hj => lo j (by omega)) (lo _ (by omega)) (lo _ (by omega)) (lo _ (by omega)) (h.2.2.2.1.cong (lo _ (by omega)) (lo _ (by omega))) hv (h.2.2.2.2.2.cong (lo _ (by omega)) (lo _ (by omega))), fun ho => ho.cong h.2.2.2.1 h.1.1 (lo _ (by omega)) (lo _ (by omega)) fun g _ => lo _ (by omega)⟩
theorem nums_inflow {s : Rw} {x : Int32} (h : Nums s) (hx : 0 ≤ x ∧ x ≤ 300) : Nums (upd s 5 x) :=
  ⟨h.1, h.2.1, h.2.2.1, h.2.2.2.1, nat_of hx.1 hx.2 (b := 300) rfl (by omega), h.2.2.2.2.2.1, h.2.2.2.2.2.2⟩
theorem nums_fill {s : Rw} {x : Int32} (h : Nums s) (hx : 0 ≤ x ∧ x ≤ 9999) : Nums (upd s 4 x) :=
  ⟨h.1, h.2.1, h.2.2.1, nat_of hx.1 hx.2 (b := 9999) rfl (by omega), h.2.2.2.2.1, h.2.2.2.2.2.1, h.2.2.2.2.2.2⟩
theorem two_of {y : Int32} (h : 0 ≤ y ∧ y ≤ 2) : y = 0 ∨ y = 1 ∨ y = 2 := by
  obtain ⟨k, hk, e⟩ := nat_of h.1 h.2 (b := 2) rfl (by omega)
  rcases (show k = 0 ∨ k = 1 ∨ k = 2 by omega) with rfl | rfl | rfl
  · exact Or.inl e
  · exact Or.inr (Or.inl e)
  · exact Or.inr (Or.inr e)
theorem nums_rule {s : Rw} {y : Int32} (h : Nums s) (hy : 0 ≤ y ∧ y ≤ 2) : Nums (upd s 2 y) :=
  ⟨h.1, h.2.1, two_of hy, h.2.2.2.1, h.2.2.2.2.1, h.2.2.2.2.2.1, h.2.2.2.2.2.2⟩
theorem nums_set {s : Rw} {x y : Int32} (h : Nums s) (hc : ((x = 0 ∨ x = 1) ∧ (1 ≤ y ∧ y ≤ 9999)) ∨ (x = 2 ∧ (0 ≤ y ∧ y ≤ 2))) : Nums (upd s x.toNatClampNeg y) := by
  rcases hc with ⟨rfl | rfl, hy⟩ | ⟨rfl, hy⟩
  · exact ⟨h.1, h.2.1, h.2.2.1, h.2.2.2.1, h.2.2.2.2.1, nat_of (Int32.le_trans (by decide) hy.1) hy.2 (b := 9999) rfl (by omega), h.2.2.2.2.2.2⟩
  · exact ⟨h.1, h.2.1, h.2.2.1, h.2.2.2.1, h.2.2.2.2.1, h.2.2.2.2.2.1, nat_of (Int32.le_trans (by decide) hy.1) hy.2 (b := 9999) rfl (by omega)⟩
  · exact nums_rule h hy
theorem num_pos {s : Rw} (h : Nums s) : (∀ j, j < 3 → ¬ s j < 0) ∧ ¬ s 4 < 0 ∧ ¬ s 5 < 0 := by
  obtain ⟨-, -, h2, ⟨w, hw, ew⟩, ⟨i, hi, ei⟩, ⟨a, ha, ea⟩, ⟨b, hb, eb⟩⟩ := h
  refine ⟨fun j hj => ?_, by rw [ew]; exact nI_pos (by omega), by rw [ei]; exact nI_pos (by omega)⟩
  rcases (show j = 0 ∨ j = 1 ∨ j = 2 by omega) with rfl | rfl | rfl
  · rw [ea]; exact nI_pos (by omega)
  · rw [eb]; exact nI_pos (by omega)
  · rcases h2 with e | e | e <;> rw [e] <;> decide
theorem rl_inflow {n no nm : Nat} {D : St} {s : Rw} {x : Int32} (hR : Rl D s) (hc : Cn n no nm s) : Rl (uA D 16 (fun _ => x)) (upd s 5 x) := by
  obtain ⟨rg, ro, rm, rs, ⟨n1, n2, n3, n4, n5, n6, n7, n8, n9, n10, n11, n12⟩, r7, r8⟩ := hR n no nm hc
  have lo : ∀ j, j ≠ 5 → s j = upd s 5 x j := fun j hj => (upd_n hj).symm
  exact Rl.of (hc.cong rfl rfl rfl) ⟨rg.cong fun g w _ _ => lo _ (by omega), ro.cong (fun k _ => lo _ (by omega)) (fun k _ => lo _ (by omega)), rm.cong (fun k _ => lo _ (by omega)) (fun k _ => lo _ (by omega)), rs, ⟨n1, rfl, n3, n4, n5, n6, n7, n8, n9, n10, n11, n12⟩, r7, r8⟩
theorem rl_fill {n no nm : Nat} {D : St} {s : Rw} {x : Int32} (hR : Rl D s) (hc : Cn n no nm s) : Rl (uA D 15 (fun _ => x)) (upd s 4 x) := by
  obtain ⟨rg, ro, rm, rs, ⟨n1, n2, n3, n4, n5, n6, n7, n8, n9, n10, n11, n12⟩, r7, r8⟩ := hR n no nm hc
  have lo : ∀ j, j ≠ 4 → s j = upd s 4 x j := fun j hj => (upd_n hj).symm
  exact Rl.of (hc.cong rfl rfl rfl) ⟨rg.cong fun g w _ _ => lo _ (by omega), ro.cong (fun k _ => lo _ (by omega)) (fun k _ => lo _ (by omega)), rm.cong (fun k _ => lo _ (by omega)) (fun k _ => lo _ (by omega)), rs, ⟨rfl, n2, n3, n4, n5, n6, n7, n8, n9, n10, n11, n12⟩, r7, r8⟩
theorem rl_set {n no nm p : Nat} {D : St} {s : Rw} {x : Int32} (hR : Rl D s) (hc : Cn n no nm s) (hp : p < 3) : Rl (uA D 14 (upd (D 14) p x)) (upd s p x) := by
  obtain ⟨rg, ro, rm, rs, rn, r7, r8⟩ := hR n no nm hc
  have lo : ∀ j, j ≠ p → s j = upd s p x j := fun j hj => (upd_n hj).symm
  have cell : ∀ j, D 14 j = s j → upd (D 14) p x j = upd s p x j := fun j hj => by
    by_cases e : j = p
    · subst e; rw [upd_s, upd_s]
    · rw [upd_n e, upd_n e, hj]
  refine Rl.of (hc.cong (lo _ (by omega)).symm (lo _ (by omega)).symm (lo _ (by omega)).symm) ⟨rg.cong fun g w _ _ => lo _ (by omega), ro.cong (fun k _ => lo _ (by omega)) (fun k _ => lo _ (by omega)), rm.cong (fun k _ => lo _ (by omega)) (fun k _ => lo _ (by omega)), ⟨cell 0 rs.1, cell 1 rs.2.1, cell 2 rs.2.2⟩, rn.cong fun j z1 z2 z3 z4 z5 z6 => lo j (by omega), r7.trans (lo _ (by omega)), fun q => ?_⟩
  rw [← lo 7 (by omega)] at q
  exact (r8 q).trans (lo _ (by omega))
theorem c_inflow {n no nm : Nat} {D : St} {s : Rw} {Q : Int32 → St → Prop} {x : Int32} (hR : Rl D s) (hc : Cn n no nm s) (h5 : ¬ s 5 < 0)
    (he : a_inflow s x < 0 → Q (a_inflow s x) D) (hok : ¬ a_inflow s x < 0 → ∀ D', Rl D' (upd s 5 x) → Q (a_inflow s x) D') : q_X0_changeInflow x D Q := by
  have e5 : D 16 0 = s 5 := (hR n no nm hc).2.2.2.2.1.2.1
  unfold q_X0_changeInflow
  unfold a_inflow at *
  have bad : ¬ (0 ≤ x ∧ x ≤ 300) → Q (-1000001) D := fun q => by
    rw [if_neg q] at he; exact he (by decide)
  refine ⟨fun c => bad fun q => absurd q.1 (Int32.not_le.mpr c), fun c1 => ⟨fun c2 => ?_, fun c => bad fun q => c q.2⟩⟩
  rw [if_pos ⟨Int32.not_lt.mp c1, c2⟩] at hok
  rw [e5]
  exact hok h5 _ (rl_inflow hR hc)
theorem c_fill {n no nm : Nat} {D : St} {s : Rw} {Q : Int32 → St → Prop} {x : Int32} (hR : Rl D s) (hc : Cn n no nm s) (h4 : ¬ s 4 < 0)
    (he : a_fill s x < 0 → Q (a_fill s x) D) (hok : ¬ a_fill s x < 0 → ∀ D', Rl D' (upd s 4 x) → Q (a_fill s x) D') : q_X0_changeWater x D Q := by
  have e4 : D 15 0 = s 4 := (hR n no nm hc).2.2.2.2.1.1
  unfold q_X0_changeWater
  unfold a_fill at *
  have bad : ¬ (0 ≤ x ∧ x ≤ 9999) → Q (-1000001) D := fun q => by
    rw [if_neg q] at he; exact he (by decide)
  refine ⟨fun c => bad fun q => absurd q.1 (Int32.not_le.mpr c), fun c1 => ⟨fun c2 => ?_, fun c => bad fun q => c q.2⟩⟩
  rw [if_pos ⟨Int32.not_lt.mp c1, c2⟩] at hok
  rw [e4]
  exact hok h4 _ (rl_fill hR hc)
theorem c_set {n no nm : Nat} {D : St} {s : Rw} {Q : Int32 → St → Prop} {x y : Int32} (hR : Rl D s) (hc : Cn n no nm s) (h0 : ∀ j, j < 3 → ¬ s j < 0)
    (he : a_set s x y < 0 → Q (a_set s x y) D) (hok : ¬ a_set s x y < 0 → ∀ D', Rl D' (upd s x.toNatClampNeg y) → Q (a_set s x y) D') : q_X0_changeSetting x y D Q := by
  have hs : SetR D s := (hR n no nm hc).2.2.2.1
  unfold q_X0_changeSetting
  unfold a_set at *
  have bad : ¬ (((x = 0 ∨ x = 1) ∧ (1 ≤ y ∧ y ≤ 9999)) ∨ (x = 2 ∧ (0 ≤ y ∧ y ≤ 2))) → Q (-1000001) D := fun hc => by
    rw [if_neg hc] at he
    exact he (by decide)
  have good : ∀ p : Nat, p < 3 → x = nI p → (((x = 0 ∨ x = 1) ∧ (1 ≤ y ∧ y ≤ 9999)) ∨ (x = 2 ∧ (0 ≤ y ∧ y ≤ 2))) → vp_in x 3 ∧ (Q ((D 14) ((x).toNatClampNeg)) (uA D 14 (upd (D 14) ((x).toNatClampNeg) y))) := fun p hp e hcc => by
    rw [if_pos hcc] at hok
    have ep : x.toNatClampNeg = p := by rw [e]; exact nI_c _ (by omega)
    rw [ep] at hok
    rw [ep]
    have ed : D 14 p = s p := by
      rcases (show p = 0 ∨ p = 1 ∨ p = 2 by omega) with rfl | rfl | rfl
      · exact hs.1
      · exact hs.2.1
      · exact hs.2.2
    refine ⟨by rw [e]; exact vp_in_nI hp (by omega), ?_⟩
    rw [ed]
    exact hok (h0 p hp) _ (rl_set hR hc hp)
  refine ⟨fun c => bad ?_, fun c1 => ⟨fun c2 => ⟨fun e2 => ⟨fun c => bad ?_, fun c3 => ⟨fun c4 => good 2 (by decide) e2 (Or.inr ⟨e2, Int32.not_lt.mp c3, c4⟩), fun c4 => bad ?_⟩⟩, fun e2 => ⟨fun c => bad ?_, fun c3 => ⟨fun c4 => ?_, fun c4 => bad ?_⟩⟩⟩, fun c2 => bad ?_⟩⟩
  · rintro (⟨q | q, -⟩ | ⟨q, -⟩) <;> rw [q] at c <;> exact absurd c (by decide)
  · rintro (⟨q | q, -⟩ | ⟨-, q⟩)
    · exact absurd (q.symm.trans e2) (by decide)
    · exact absurd (q.symm.trans e2) (by decide)
    · exact absurd q.1 (Int32.not_le.mpr c)
  · rintro (⟨q | q, -⟩ | ⟨-, q⟩)
    · exact absurd (q.symm.trans e2) (by decide)
    · exact absurd (q.symm.trans e2) (by decide)
    · exact c4 q.2
  · rintro (⟨-, q⟩ | ⟨q, -⟩)
    · exact absurd q.1 (Int32.not_le.mpr c)
    · exact e2 q
  · have hy : 1 ≤ y ∧ y ≤ 9999 := ⟨Int32.not_lt.mp c3, c4⟩
    obtain ⟨j, hj, e⟩ := nI_of c1
    have hj3 : j < 3 := by rw [e] at c2; exact (nI_ltI (b := 3) hj (by omega)).mp c2
    have hj2 : j ≠ 2 := fun q => e2 (by rw [e, q]; rfl)
    refine good j hj3 e (Or.inl ⟨?_, hy⟩)
    rcases (show j = 0 ∨ j = 1 by omega) with rfl | rfl
    · exact Or.inl e
    · exact Or.inr e
  · rintro (⟨-, q⟩ | ⟨q, -⟩)
    · exact c4 q.2
    · exact e2 q
  · rintro (⟨q | q, -⟩ | ⟨q, -⟩) <;> exact c2 (by rw [q]; decide)
