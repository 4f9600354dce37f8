/-! The class's dam, held against the state; its floods. -/
theorem Cn.uniq {n no nm n' no' nm' : Nat} {s : Rw} (h : Cn n no nm s) (h' : Cn n' no' nm' s) : n = n' ∧ no = no' ∧ nm = nm' := by
  obtain ⟨a1, a2, a3, a4, a5, a6⟩ := h
  obtain ⟨b1, b2, b3, b4, b5, b6⟩ := h'
  exact ⟨(nI_eq (by omega) (by omega)).mp (a4.symm.trans b4), (nI_eq (by omega) (by omega)).mp (a5.symm.trans b5), (nI_eq (by omega) (by omega)).mp (a6.symm.trans b6)⟩
def GateR (n : Nat) (D : St) (s : Rw) : Prop := D 5 0 = nI n ∧ (∀ g, g < n → D 0 g = s (46 + 5 * g + 0)) ∧ (∀ g, g < n → D 1 g = s (46 + 5 * g + 1)) ∧ (∀ g, g < n → D 2 g = s (46 + 5 * g + 2)) ∧ (∀ g, g < n → D 3 g = s (46 + 5 * g + 3)) ∧ ∀ g, g < n → D 4 g = s (46 + 5 * g + 4)
theorem GateR.cong {n : Nat} {D : St} {s s' : Rw} (h : GateR n D s) (hj : ∀ g w, g < n → w < 5 → s (46 + 5 * g + w) = s' (46 + 5 * g + w)) : GateR n D s' :=
  ⟨h.1, fun g hg => (h.2.1 g hg).trans (hj g 0 hg (by decide)), fun g hg => (h.2.2.1 g hg).trans (hj g 1 hg (by decide)), fun g hg => (h.2.2.2.1 g hg).trans (hj g 2 hg (by decide)), fun g hg => (h.2.2.2.2.1 g hg).trans (hj g 3 hg (by decide)), fun g hg => (h.2.2.2.2.2 g hg).trans (hj g 4 hg (by decide))⟩
def SetR (D : St) (s : Rw) : Prop := D 14 0 = s 0 ∧ D 14 1 = s 1 ∧ D 14 2 = s 2
def NumR (D : St) (s : Rw) : Prop := D 15 0 = s 4 ∧ D 16 0 = s 5 ∧ D 17 0 = s 13 ∧ D 18 0 = s 14 ∧ D 19 0 = s 15 ∧ D 20 0 = s 12 ∧ D 21 0 = s 9 ∧ D 22 0 = s 16 ∧ D 23 0 = s 6 ∧ D 26 0 = s 17 ∧ D 27 0 = s 18 ∧ D 28 0 = s 19
def TskR (D : St) (s : Rw) : Prop := D 24 0 = s 7 ∧ (¬ s 7 < 0 → D 25 0 = s 8)
def RlN (n no nm : Nat) (D : St) (s : Rw) : Prop := GateR n D s ∧ TaskR (fun i => D (6 + i)) 8 no (oG s) (oO s) ∧ TaskR (fun i => D (10 + i)) 4 nm (mG s) (mO s) ∧ SetR D s ∧ NumR D s ∧ TskR D s
def Rl (D : St) (s : Rw) : Prop := ∀ n no nm, Cn n no nm s → RlN n no nm D s
theorem Rl.of {n no nm : Nat} {D : St} {s : Rw} (hC : Cn n no nm s) (h : RlN n no nm D s) : Rl D s := by
  intro n' no' nm' h'
  obtain ⟨rfl, rfl, rfl⟩ := hC.uniq h'
  exact h
theorem c_hasTask {n : Nat} {D : St} {s : Rw} {Q : Int32 → Prop} (hD : D 24 0 = s 7) (hT : Tsk n s) (h0 : s 7 < 0 → Q 0) (h1 : ¬ s 7 < 0 → Q 1) (h8 : n ≤ 8) : q_X0_hasTask D Q := by
  unfold q_X0_hasTask
  rw [hD]
  refine ⟨fun c => h0 (by rw [c]; decide), fun c => ?_⟩
  rcases hT with h | ⟨g, y, hg, -, e, -⟩
  · exact absurd h c
  · exact h1 (by rw [e]; exact nI_pos (by omega))
theorem c_marks {T : St} {Q : St → Prop} {x y : Int32} {n nm : Nat} {s : Rw} (hT : TaskR T 4 nm (mG s) (mO s)) (hR : RowOk n nm (mG s) (mO s)) (h4 : nm ≤ 4) (hc : s 11 = nI nm) (h : ∀ u nm', nm' ≤ 4 → t_marks s x y 11 = nI nm' → TaskR u 4 nm' (mG (t_marks s x y)) (mO (t_marks s x y)) → Q u) : q_X4_putFirst x y T Q := by
  refine c_putFirst hT hR h4 fun u hs hn => ?_
  cases hi : ixO (mG s) x nm with
  | none =>
    have e : t_marks s x y = t_mk s (if nm = 4 then 3 else nm) x y := by
      unfold t_marks
      rw [cn_of hc (by omega)]
      have hi' : ixO (fun k => s (36 + 2 * k)) x nm = none := hi
      rw [hi']
    refine h u ((if nm = 4 then 3 else nm) + 1) (by split <;> omega) (by rw [e]; exact upd_s _ _ _) ?_
    rw [e]
    exact (hn hi).cong (fun k hk => (t_mk_G hk).symm) (fun k hk => (t_mk_O hk).symm)
  | some i =>
    obtain ⟨hin, -⟩ := ixO_some hi
    have e : t_marks s x y = t_mk (t_dM s nm i) (nm - 1) x y := by
      unfold t_marks
      rw [cn_of hc (by omega)]
      have hi' : ixO (fun k => s (36 + 2 * k)) x nm = some i := hi
      rw [hi']
    refine h u nm h4 (by rw [e]; show upd _ 11 _ 11 = _; rw [upd_s, show nm - 1 + 1 = nm by omega]) ?_
    rw [e]
    refine (hs i hi).cong (fun k hk => ?_) (fun k hk => ?_)
    · rw [t_mk_G (by omega)]
      by_cases c : k = 0
      · rw [if_pos c, if_pos c]
      · rw [if_neg c, if_neg c, t_dM_G hin (by omega), show k - 1 + 1 = k by omega]
    · rw [t_mk_O (by omega)]
      by_cases c : k = 0
      · rw [if_pos c, if_pos c]
      · rw [if_neg c, if_neg c, t_dM_O hin (by omega), show k - 1 + 1 = k by omega]
theorem isF {D : St} {s : Rw} (h : D 21 0 = s 9) (u : s 9 = 0 ∨ s 9 = 1) : (D 21 0 = 0 ↔ s 9 = 0) ∧ (¬ D 21 0 = 0 ↔ s 9 = 1) := by
  rw [h]
  refine ⟨Iff.rfl, fun c => u.resolve_left c, fun c q => ?_⟩
  rw [c] at q
  exact absurd q (by decide)
theorem c_floods {B n no nm : Nat} {D : St} {s : Rw} {Q : St → Prop} (hR : Rl D s) (hC : Core 0 B n no nm s) (hQ : ∀ D', Rl D' (t_floods s) → Q D') : q_X0_beginOrEndFlood D Q := by
  obtain ⟨c1, b, c, t, ⟨u1, u2, u3⟩, v⟩ := id hC
  obtain ⟨rg, ro, rm, rs, ⟨n1, n2, n3, n4, n5, n6, n7, n8, n9, n10, n11, n12⟩, r7, r8⟩ := hR n no nm c1
  have hF := isF n7 u2
  have h8 := c1.1
  unfold q_X0_beginOrEndFlood q_X0_floodIsDue
  refine ⟨fun c0 => ⟨fun cl => ⟨fun _ => ⟨fun _ => ?_, fun q => absurd c0 q⟩, fun q => absurd rfl q⟩, fun cl => ⟨fun q => absurd q (by decide), fun _ => ?_⟩⟩, fun c0 => ⟨fun _ => ⟨fun q => absurd q c0, fun _ => ⟨fun ce => ?_, fun ce => ?_⟩⟩, fun q => absurd rfl q⟩⟩
  · -- no flood, none due
    refine hQ D ?_
    have e : t_floods s = s := by
      rw [t_floods, if_neg fun q => q.2 (by rw [n1, rs.1] at cl; exact cl), if_neg fun q => ?_]
      exact absurd (hF.1.mp c0) (by rw [q.1]; decide)
    rw [e]; exact hR
  · -- a flood begins
    have hb : s 9 = 0 ∧ ¬ s 4 < s 0 := ⟨hF.1.mp c0, by rw [n1, rs.1] at cl; exact cl⟩
    refine c_hasTask (s := s) (n := n) r7 t (fun c7 => ?_) (fun c7 => ?_) h8
    · refine ⟨fun _ => ?_, fun q => absurd rfl q⟩
      unfold q_X0_leaveTask
      refine c_hasTask (s := s) (n := n) r7 t (fun _ => ⟨fun _ => ?_, fun q => absurd rfl q⟩) (fun q => absurd c7 q) h8
      have e : t_floods s = upd (upd s 9 1) 16 (s 16 + 1) := by rw [t_floods, if_pos hb, if_pos c7]
      refine hQ _ ?_
      rw [e]
      have hj : ∀ j, 20 ≤ j → s j = (upd (upd s 9 1) 16 (s 16 + 1)) j := fun j hj => by rw [upd_n (by omega), upd_n (by omega)]
      refine Rl.of (c1.cong rfl rfl rfl) ⟨rg.cong fun g w _ _ => hj _ (by omega), ro.cong (fun k _ => hj _ (by omega)) (fun k _ => hj _ (by omega)), rm.cong (fun k _ => hj _ (by omega)) (fun k _ => hj _ (by omega)), rs, ⟨n1, n2, n3, n4, n5, n6, rfl, ?_, n9, n10, n11, n12⟩, r7, r8⟩
      show D 22 0 + 1 = s 16 + 1
      rw [n8]
    · refine ⟨fun q => absurd q (by decide), fun _ => ?_⟩
      have e25 := r8 c7
      rw [r7, e25]
      have hc1 : Cn n no nm (upd (upd s 9 1) 16 (s 16 + 1)) := c1.cong rfl rfl rfl
      have hj : ∀ j, 20 ≤ j → (upd (upd s 9 1) 16 (s 16 + 1)) j = s j := fun j hj => by rw [upd_n (by omega), upd_n (by omega)]
      have hb2 := b.cong c1.2.1 c1.2.2.1 (s' := upd (upd s 9 1) 16 (s 16 + 1)) fun j a _ => hj j a
      refine c_marks (s := upd (upd s 9 1) 16 (s 16 + 1)) (rm.cong (fun k _ => (hj _ (by omega)).symm) (fun k _ => (hj _ (by omega)).symm)) hb2.2 c1.2.2.1 hc1.2.2.2.2.2 fun u nm' h4' h11 hu => ?_
      unfold q_X0_leaveTask
      have hkeep : ∀ j, j ≠ 11 → (j < 36 ∨ 44 ≤ j) → t_marks (upd (upd s 9 1) 16 (s 16 + 1)) (s 7) (s 8) j = (upd (upd s 9 1) 16 (s 16 + 1)) j := fun j h1 h2 => t_marks_n hc1.2.2.2.2.2 c1.2.2.1 h1 h2
      refine c_hasTask (s := s) (n := n) r7 t (fun q => absurd q c7) (fun _ => ⟨fun q => absurd q (by decide), fun _ => ?_⟩) h8
      have e : t_floods s = upd (upd (t_marks (upd (upd s 9 1) 16 (s 16 + 1)) (s 7) (s 8)) 7 (-1)) 19 ((t_marks (upd (upd s 9 1) 16 (s 16 + 1)) (s 7) (s 8)) 19 + 1) := by rw [t_floods, if_pos hb, if_neg c7]
      refine hQ _ ?_
      rw [e]
      have hk2 : ∀ j, j ≠ 7 → j ≠ 19 → j ≠ 11 → (j < 36 ∨ 44 ≤ j) → (upd (upd (t_marks (upd (upd s 9 1) 16 (s 16 + 1)) (s 7) (s 8)) 7 (-1)) 19 ((t_marks (upd (upd s 9 1) 16 (s 16 + 1)) (s 7) (s 8)) 19 + 1)) j = (upd (upd s 9 1) 16 (s 16 + 1)) j := fun j a1 a2 a3 a4 => by
        rw [upd_n a2, upd_n a1]
        exact hkeep j a3 a4
      generalize hz : t_marks (upd (upd s 9 1) 16 (s 16 + 1)) (s 7) (s 8) = z at h11 hu hkeep hk2
      have hCn : Cn n no nm' (upd (upd z 7 (-1)) 19 (z 19 + 1)) := ⟨c1.1, c1.2.1, h4', (hk2 3 (by decide) (by decide) (by decide) (by omega)).trans c1.2.2.2.1, (hk2 10 (by decide) (by decide) (by decide) (by omega)).trans c1.2.2.2.2.1, h11⟩
      refine Rl.of hCn ⟨rg.cong fun g w _ _ => ((hk2 _ (by omega) (by omega) (by omega) (by omega)).trans (hj _ (by omega))).symm, ro.cong (fun k hk => ((hk2 _ (by omega) (by omega) (by omega) (by have := c1.2.1; omega)).trans (hj _ (by omega))).symm) (fun k hk => ((hk2 _ (by omega) (by omega) (by omega) (by have := c1.2.1; omega)).trans (hj _ (by omega))).symm), ?_, ⟨?_, ?_, ?_⟩, ⟨?_, ?_, ?_, ?_, ?_, ?_, ?_, ?_, ?_, ?_, ?_, ?_⟩, rfl, fun q => absurd (show (-1 : Int32) < 0 by decide) q⟩
      · refine TaskR.cong (g := mG z) (o := mO z) hu (fun k hk => ?_) (fun k hk => ?_)
        · unfold mG; rw [upd_n (by omega), upd_n (by omega)]
        · unfold mO; rw [upd_n (by omega), upd_n (by omega)]
      · exact rs.1.trans (hk2 0 (by decide) (by decide) (by decide) (by omega)).symm
      · exact rs.2.1.trans (hk2 1 (by decide) (by decide) (by decide) (by omega)).symm
      · exact rs.2.2.trans (hk2 2 (by decide) (by decide) (by decide) (by omega)).symm
      · exact n1.trans (hk2 4 (by decide) (by decide) (by decide) (by omega)).symm
      · exact n2.trans (hk2 5 (by decide) (by decide) (by decide) (by omega)).symm
      · exact n3.trans (hk2 13 (by decide) (by decide) (by decide) (by omega)).symm
      · exact n4.trans (hk2 14 (by decide) (by decide) (by decide) (by omega)).symm
      · exact n5.trans (hk2 15 (by decide) (by decide) (by decide) (by omega)).symm
      · exact n6.trans (hk2 12 (by decide) (by decide) (by decide) (by omega)).symm
      · exact (hk2 9 (by decide) (by decide) (by decide) (by omega)).symm
      · rw [hk2 16 (by decide) (by decide) (by decide) (by omega), upd_s]
        show D 22 0 + 1 = s 16 + 1
        rw [n8]
      · exact n9.trans (hk2 6 (by decide) (by decide) (by decide) (by omega)).symm
      · exact n10.trans (hk2 17 (by decide) (by decide) (by decide) (by omega)).symm
      · exact n11.trans (hk2 18 (by decide) (by decide) (by decide) (by omega)).symm
      · rw [upd_s, hkeep 19 (by decide) (by omega)]
        show D 28 0 + 1 = s 19 + 1
        rw [n12]
  · -- the flood goes on
    refine hQ D ?_
    have e : t_floods s = s := by
      rw [t_floods, if_neg fun q => c0 (hF.1.mpr q.1), if_neg fun q => q.2 (by rw [n1, rs.2.1] at ce; exact ce)]
    rw [e]; exact hR
  · -- it ends
    have he : s 9 = 1 ∧ ¬ s 1 ≤ s 4 := ⟨hF.2.mp c0, by rw [n1, rs.2.1] at ce; exact ce⟩
    have h0 : ¬ (s 9 = 0 ∧ ¬ s 4 < s 0) := fun q => absurd (q.1.symm.trans he.1) (by decide)
    unfold q_X0_leaveTask
    refine c_hasTask (s := s) (n := n) r7 t (fun c7 => ⟨fun _ => ?_, fun q => absurd rfl q⟩) (fun c7 => ⟨fun q => absurd q (by decide), fun _ => ?_⟩) h8
    · have e : t_floods s = upd (upd (upd s 9 0) 19 (s 19 + 0)) 7 (-1) := by rw [t_floods, if_neg h0, if_pos he, if_pos c7]
      refine hQ _ ?_
      rw [e]
      have hj : ∀ j, 20 ≤ j → s j = (upd (upd (upd s 9 0) 19 (s 19 + 0)) 7 (-1)) j := fun j hj => by rw [upd_n (by omega), upd_n (by omega), upd_n (by omega)]
      refine Rl.of (c1.cong rfl rfl rfl) ⟨rg.cong fun g w _ _ => hj _ (by omega), ro.cong (fun k _ => hj _ (by omega)) (fun k _ => hj _ (by omega)), rm.cong (fun k _ => hj _ (by omega)) (fun k _ => hj _ (by omega)), rs, ⟨n1, n2, n3, n4, n5, n6, rfl, n8, n9, n10, n11, ?_⟩, ?_, fun q => absurd (show (-1 : Int32) < 0 by decide) q⟩
      · show D 28 0 = s 19 + 0
        rw [n12, Int32.add_zero]
      · show D 24 0 = -1
        rw [r7]
        rcases t with h | ⟨g, y, hg, -, e, -⟩
        · exact h
        · exact absurd (by rw [← e]; exact c7) (nI_pos (n := g) (by omega))
    · have e : t_floods s = upd (upd (upd s 9 0) 19 (s 19 + 1)) 7 (-1) := by rw [t_floods, if_neg h0, if_pos he, if_neg c7]
      refine hQ _ ?_
      rw [e]
      have hj : ∀ j, 20 ≤ j → s j = (upd (upd (upd s 9 0) 19 (s 19 + 1)) 7 (-1)) j := fun j hj => by rw [upd_n (by omega), upd_n (by omega), upd_n (by omega)]
      refine Rl.of (c1.cong rfl rfl rfl) ⟨rg.cong fun g w _ _ => hj _ (by omega), ro.cong (fun k _ => hj _ (by omega)) (fun k _ => hj _ (by omega)), rm.cong (fun k _ => hj _ (by omega)) (fun k _ => hj _ (by omega)), rs, ⟨n1, n2, n3, n4, n5, n6, rfl, n8, n9, n10, n11, ?_⟩, rfl, fun q => absurd (show (-1 : Int32) < 0 by decide) q⟩
      show D 28 0 + 1 = s 19 + 1
      rw [n12]
