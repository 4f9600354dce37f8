/-! The class takes a task, as the state does. -/
theorem abJ (z : Int32) : (if 0 ≤ z then z else 0 - z) = abI z := by
  unfold abI
  rw [Int32.zero_sub]
theorem c_has {n : Nat} {T : St} {s : Rw} {Q : Int32 → Prop} {x : Int32} (hR : GateR n T s) (h8 : n ≤ 8) (h1 : ∀ g, g < n → x = nI g → Q 1) (h0 : (∀ g, g < n → x ≠ nI g) → Q 0) : q_X1_has x T Q := by
  unfold q_X1_has
  rw [hR.1]
  refine ⟨fun c => h0 fun g hg e => ?_, fun c1 => ⟨fun c => h0 fun g hg e => ?_, fun c2 => ⟨fun c => h0 fun g hg e => ?_, fun c3 => ?_⟩⟩⟩
  · rw [e] at c; exact nI_pos (by omega) c
  · rw [e] at c; exact nI_ge hg (by omega) c
  · rw [e] at c; exact nI_ge (b := 8) (by omega) (by omega) c
  · obtain ⟨j, hj, e⟩ := nI_of c1
    rw [e] at c2
    exact h1 j (Nat.not_le.mp fun q => c2 ((nI_leI (by omega) hj).mpr q)) e
theorem c_opening {n g : Nat} {T : St} {s : Rw} {Q : Int32 → Prop} {x : Int32} (hR : GateR n T s) (h8 : n ≤ 8) (hg : g < n) (hx : x = nI g) (h : Q (s (46 + 5 * g + 2))) : q_X1_opening x T Q := by
  subst hx
  unfold q_X1_opening
  rw [hR.1]
  refine ⟨fun c => absurd c (nI_pos (by omega)), fun _ => ⟨fun c => absurd c (nI_ge hg (by omega)), fun _ => ⟨fun c => absurd c (nI_ge (b := 8) (by omega) (by omega)), fun _ => ⟨vp_in_nI (by omega) (by omega), ?_⟩⟩⟩⟩
  rw [nI_c _ (by omega), hR.2.2.2.1 g hg]
  exact h
theorem c_nearest {n : Nat} {T : St} {s : Rw} {Q : Int32 → Prop} {x : Int32} (hR : GateR n T s) (hG : Gs n s) (h8 : n ≤ 8) (h : Q (ixM (nrO (fun g => s (46 + 5 * g + 2)) x n))) : q_X1_nearestNotOpen x T Q := by
  unfold q_X1_nearestNotOpen
  refine ⟨fun a b f => ∃ k : Nat, k ≤ n ∧ a = n - k ∧ b = nI k ∧ f = ixM (nrO (fun g => s (46 + 5 * g + 2)) x k), n, ⟨0, Nat.zero_le _, rfl, rfl, rfl⟩, ?_⟩
  rintro a b f ⟨k, hk, rfl, rfl, rfl⟩
  rw [hR.1]
  have done : n ≤ k → Q (ixM (nrO (fun g => s (46 + 5 * g + 2)) x k)) := fun c => by
    rw [show k = n by omega]; exact h
  refine ⟨fun c => done ((nI_leI (by omega) (by omega)).mp c), fun c => ⟨fun c8 => done ?_, fun c8 => ?_⟩⟩
  · have := (nI_leI (a := 8) (by omega) (by omega)).mp c8
    omega
  have hkn : k < n := Nat.not_le.mp fun q => c (nI_le q (by omega))
  have e2 : (T 2) (nI k).toNatClampNeg = s (46 + 5 * k + 2) := by rw [nI_c _ (by omega)]; exact hR.2.2.2.1 k hkn
  have h10 : s (46 + 5 * k + 2) = 10 ↔ 10 ≤ s (46 + 5 * k + 2) := by
    obtain ⟨-, -, y, hy, e⟩ := hG k hkn
    rw [e]
    refine ⟨fun q => by rw [q]; decide, fun q => ?_⟩
    have := (nI_leI (a := 10) (by omega) (by omega)).mp q
    rw [show y = 10 by omega]; rfl
  rw [e2, abJ, abJ]
  have hv : vp_in (nI k) 8 := vp_in_nI (by omega) (by omega)
  have fin : ∀ f1 : Int32, f1 = ixM (nrO (fun g => s (46 + 5 * g + 2)) x (k + 1)) → ∃ n1, n1 < n - k ∧ ∃ k1 : Nat, k1 ≤ n ∧ n1 = n - k1 ∧ nI k + 1 = nI k1 ∧ f1 = ixM (nrO (fun g => s (46 + 5 * g + 2)) x k1) := fun f1 e => ⟨n - (k + 1), by omega, k + 1, hkn, rfl, nI_1 k, e⟩
  have keep : s (46 + 5 * k + 2) = 10 → ixM (nrO (fun g => s (46 + 5 * g + 2)) x k) = ixM (nrO (fun g => s (46 + 5 * g + 2)) x (k + 1)) := fun q => by
    rw [nrO, if_pos (h10.mp q)]
  cases hf : nrO (fun g => s (46 + 5 * g + 2)) x k with
  | none =>
    refine ⟨fun _ => ⟨hv, fun q => fin _ (by rw [← keep q, hf]), fun q => fin _ ?_⟩, fun q => absurd rfl q⟩
    rw [nrO, if_neg fun z => q (h10.mpr z), hf]
    rfl
  | some g =>
    obtain ⟨hg, -⟩ := nrO_some hf
    have hne : ¬ ixM (some g) = -1 := fun e => by
      have := nI_pos (n := g) (by omega)
      have e : nI g = -1 := e
      rw [e] at this
      exact this (by decide)
    refine ⟨fun q => absurd q hne, fun _ => ⟨fun l => ⟨hv, fun q => fin _ (by rw [← keep q, hf]), fun q => fin _ ?_⟩, fun l => ⟨hv, fun q => fin _ (by rw [← keep q, hf]), fun q => fin _ ?_⟩⟩⟩
    · rw [nrO, if_neg fun z => q (h10.mpr z), hf]
      show ixM (some g) = ixM (if abI (nI g - x) ≤ abI (nI k - x) then some g else some k)
      rw [if_pos (show abI (nI g - x) ≤ abI (nI k - x) from l)]
    · rw [nrO, if_neg fun z => q (h10.mpr z), hf]
      show nI k = ixM (if abI (nI g - x) ≤ abI (nI k - x) then some g else some k)
      rw [if_neg (show ¬ abI (nI g - x) ≤ abI (nI k - x) from l)]
      rfl
def bnd (x : Int32) : Prop := ∃ a, a < 21 ∧ (x = nI a ∨ x = -nI a)
theorem neg_le_all : ∀ a, a < 21 → ∀ b, b < 21 → ((-nI a ≤ -nI b ↔ nI b ≤ nI a) ∧ (-nI a ≤ - -nI b ↔ -nI b ≤ nI a) ∧ (- -nI a ≤ -nI b ↔ nI b ≤ -nI a) ∧ (- -nI a ≤ - -nI b ↔ -nI b ≤ -nI a)) := by decide +kernel
theorem neg_le {x y : Int32} (hx : bnd x) (hy : bnd y) : -x ≤ -y ↔ y ≤ x := by
  obtain ⟨a, ha, rfl | rfl⟩ := hx <;> obtain ⟨b, hb, rfl | rfl⟩ := hy
  · exact (neg_le_all a ha b hb).1
  · exact (neg_le_all a ha b hb).2.1
  · exact (neg_le_all a ha b hb).2.2.1
  · exact (neg_le_all a ha b hb).2.2.2
theorem ab_all : ∀ a, a < 11 → ∀ b, b < 11 → ∃ c, c < 21 ∧ abI (nI a - nI b) = nI c := by decide +kernel
theorem it_bnd {d B n no nm : Nat} {s : Rw} (h : Core d B n no nm s) {k : Nat} (hk : k < no) : bnd (itO s k) := by
  obtain ⟨c1, ⟨b1, b2⟩, c, t, ⟨⟨p, hp, ep⟩, u⟩, v⟩ := h
  have h8 := c1.1
  unfold itO
  split
  · exact ⟨0, by omega, Or.inl rfl⟩
  · obtain ⟨g, hg, eg⟩ := b1.1 k hk
    have eg : s (20 + 2 * k) = nI g := eg
    split
    · rw [eg, ep]
      obtain ⟨a, ha, ea⟩ := ab_all g (by omega) p (by omega)
      exact ⟨a, ha, Or.inr (by rw [ea])⟩
    · obtain ⟨y, hy, ey⟩ := b1.2.1 k hk
      have ey : s (20 + 2 * k + 1) = nI y := ey
      obtain ⟨-, -, o, ho, eo⟩ := c g hg
      rw [cn_of eg (by omega), ey, eo]
      obtain ⟨a, ha, ea⟩ := ab_all y (by omega) o (by omega)
      exact ⟨a, ha, Or.inl ea⟩
theorem nx_bnd {d B n no nm : Nat} {s : Rw} (h : Core d B n no nm s) : ∀ {k : Nat}, k ≤ no → bnd (nxO (itO s) k).2
  | 0, _ => ⟨0, by omega, Or.inl rfl⟩
  | k + 1, hk => by
    have ih := nx_bnd h (k := k) (by omega)
    unfold nxO
    split
    · exact it_bnd h (by omega)
    · rename_i f b e
      rw [e] at ih
      split
      · exact ih
      · exact it_bnd h (by omega)
theorem c_chosen {d B n no nm : Nat} {D : St} {s : Rw} {Q : Int32 → Prop} (hR : RlN n no nm D s) (hC : Core d B n no nm s) (h : Q (ixM (nxO (itO s) no).1)) : q_X0_chosenOrder D Q := by
  obtain ⟨c1, ⟨b1, b2⟩, c, t, ⟨⟨p, hp, ep⟩, u2, u3, u4⟩, v⟩ := id hC
  obtain ⟨rg, ro, rm, rs, ⟨n1, n2, n3, n4, n5, n6, n7, n8, n9, n10, n11, n12⟩, r7, r8⟩ := hR
  have h8 := c1.1
  have ho8 := c1.2.1
  unfold q_X0_chosenOrder
  refine ⟨fun m x b f => ∃ k : Nat, k ≤ no ∧ m = no - k ∧ x = nI k ∧ f = ixM (nxO (itO s) k).1 ∧ b = -(nxO (itO s) k).2, no, ⟨0, Nat.zero_le _, rfl, rfl, rfl, by show (0 : Int32) = -0; decide⟩, ?_⟩
  rintro m x b f ⟨k, hk, rfl, rfl, rfl, rfl⟩
  refine c_size4 ?_
  have eo : D (6 + 3) 0 = nI no := ro.2.1
  rw [eo]
  have done : no ≤ k → Q (ixM (nxO (itO s) k).1) := fun c => by
    rw [show k = no by omega]; exact h
  refine ⟨fun c => done ((nI_leI (by omega) (by omega)).mp c), fun c => ⟨fun c8 => done ?_, fun c8 => ?_⟩⟩
  · have := (nI_leI (a := 8) (by omega) (by omega)).mp c8
    omega
  have hkn : k < no := Nat.not_le.mp fun q => c (nI_le q (by omega))
  have go : ∀ z : Int32, z = -(itO s k) → (ixM (nxO (itO s) k).1 = -1 → ixM (some k) = ixM (nxO (itO s) (k + 1)).1 ∧ z = -(nxO (itO s) (k + 1)).2) ∧ (¬ ixM (nxO (itO s) k).1 = -1 → (-(nxO (itO s) k).2 ≤ z → ixM (nxO (itO s) k).1 = ixM (nxO (itO s) (k + 1)).1 ∧ -(nxO (itO s) k).2 = -(nxO (itO s) (k + 1)).2) ∧ (¬ -(nxO (itO s) k).2 ≤ z → ixM (some k) = ixM (nxO (itO s) (k + 1)).1 ∧ z = -(nxO (itO s) (k + 1)).2)) := by
    rintro z rfl
    have hb := nx_bnd hC (k := k) (by omega)
    have hi := it_bnd hC hkn
    rw [neg_le hb hi]
    conv => rw [nxO]
    cases hw : nxO (itO s) k with
    | mk o w =>
    cases o with
    | none => exact ⟨fun _ => ⟨rfl, rfl⟩, fun c => absurd rfl c⟩
    | some g =>
      have hg := nxO_some hw
      have hne : ¬ ixM (some g) = -1 := fun e => by
        have := nI_pos (n := g) (by omega)
        have e : nI g = -1 := e
        rw [e] at this
        exact this (by decide)
      refine ⟨fun c => absurd c hne, fun _ => ⟨fun c => ?_, fun c => ?_⟩⟩
      · show ixM (some g) = ixM (if itO s k ≤ w then (some g, w) else (some k, itO s k)).1 ∧ -w = -(if itO s k ≤ w then (some g, w) else (some k, itO s k)).2
        rw [if_pos c]; exact ⟨rfl, rfl⟩
      · show ixM (some k) = ixM (if itO s k ≤ w then (some g, w) else (some k, itO s k)).1 ∧ -(itO s k) = -(if itO s k ≤ w then (some g, w) else (some k, itO s k)).2
        rw [if_neg c]; exact ⟨rfl, rfl⟩
  have fin : ∀ {f1 b1 : Int32}, f1 = ixM (nxO (itO s) (k + 1)).1 ∧ b1 = -(nxO (itO s) (k + 1)).2 → ∃ n1, n1 < no - k ∧ ∃ k1 : Nat, k1 ≤ no ∧ n1 = no - k1 ∧ nI k + 1 = nI k1 ∧ f1 = ixM (nxO (itO s) k1).1 ∧ b1 = -(nxO (itO s) k1).2 := fun h => ⟨no - (k + 1), by omega, k + 1, hkn, rfl, nI_1 k, h.1, h.2⟩
  rw [rs.2.2]
  refine ⟨fun cr => c_gateAt ro (by omega) hkn rfl ?_, fun cr => ⟨fun cr2 => c_openingAt ro (by omega) hkn rfl (c_gateAt ro (by omega) hkn rfl ?_), fun cr2 => ?_⟩⟩
  · rw [n9, abJ]
    obtain ⟨g1, g2⟩ := go (abI (oG s k - s 6)) (by
      have : itO s k = -(abI (oG s k - s 6)) := by
        unfold itO
        rw [if_neg (by rw [cr]; decide), if_pos cr]; rfl
      rw [this, Int32.neg_neg])
    exact ⟨fun c => fin (g1 c), fun c => ⟨fun c2 => fin ((g2 c).1 c2), fun c2 => fin ((g2 c).2 c2)⟩⟩
  · obtain ⟨g, hg, eg⟩ := b1.1 k hkn
    refine c_opening rg h8 hg eg ?_
    rw [abJ]
    obtain ⟨g1, g2⟩ := go (-(abI (oO s k - s (46 + 5 * g + 2)))) (by
      unfold itO
      rw [if_neg (by rw [cr2]; decide), if_neg cr, cn_of (show s (20 + 2 * k) = nI g from eg) (by omega)]; rfl)
    exact ⟨fun c => fin (g1 c), fun c => ⟨fun c2 => fin ((g2 c).1 c2), fun c2 => fin ((g2 c).2 c2)⟩⟩
  · have c0 : s 2 = 0 := by
      rcases u3 with e | e | e
      · exact e
      · exact absurd e cr
      · exact absurd e cr2
    obtain ⟨g1, g2⟩ := go 0 (by unfold itO; rw [if_pos c0]; decide)
    exact ⟨fun c => fin (g1 c), fun c => ⟨fun c2 => fin ((g2 c).1 c2), fun c2 => fin ((g2 c).2 c2)⟩⟩
theorem c_endTask {d B n no nm : Nat} {D : St} {s : Rw} {Q : St → Prop} (hR : Rl D s) (hC : Core d B n no nm s) (hQ : ∀ D', Rl D' (t_looks s) → Q D') : q_X0_endTaskIfDone D Q := by
  obtain ⟨c1, b, c, t, u, v⟩ := id hC
  obtain ⟨rg, ro, rm, rs, ⟨n1, n2, n3, n4, n5, n6, n7, n8, n9, n10, n11, n12⟩, r7, r8⟩ := hR n no nm c1
  have h8 := c1.1
  unfold q_X0_endTaskIfDone
  refine c_hasTask (s := s) (n := n) r7 t (fun c7 => ⟨fun _ => hQ D ?_, fun q => absurd rfl q⟩) (fun c7 => ⟨fun q => absurd q (by decide), fun _ => ?_⟩) h8
  · rw [t_looks, if_pos c7]; exact hR
  · obtain ⟨g, y, hg, hy, e7, e8⟩ := t.g c7
    rw [r7]
    refine c_opening rg h8 hg e7 ?_
    rw [r8 c7]
    refine ⟨fun e => hQ _ ?_, fun e => hQ D ?_⟩
    · rw [t_looks, if_neg c7, cn7 e7 (by omega), if_pos e]
      have hj : ∀ j, 20 ≤ j → s j = (upd (upd s 7 (-1)) 18 (s 18 + 1)) j := fun j hj => by rw [upd_n (by omega), upd_n (by omega)]
      refine Rl.of (c1.cong rfl rfl rfl) ⟨rg.cong fun g w _ _ => hj _ (by omega), ro.cong (fun k _ => hj _ (by omega)) (fun k _ => hj _ (by omega)), rm.cong (fun k _ => hj _ (by omega)) (fun k _ => hj _ (by omega)), rs, ⟨n1, n2, n3, n4, n5, n6, n7, n8, n9, n10, ?_, n12⟩, rfl, fun q => absurd (show (-1 : Int32) < 0 by decide) q⟩
      show D 27 0 + 1 = s 18 + 1
      rw [n11]
    · rw [t_looks, if_neg c7, cn7 e7 (by omega), if_neg e]; exact hR
