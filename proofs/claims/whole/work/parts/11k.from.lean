/-! The class takes tasks, as many as the state does. -/
theorem SetR.cong {D : St} {s s' : Rw} (h : SetR D s) (hj : ∀ j, j < 3 → s j = s' j) : SetR D s' := ⟨h.1.trans (hj 0 (by decide)), h.2.1.trans (hj 1 (by decide)), h.2.2.trans (hj 2 (by decide))⟩
theorem NumR.cong {D : St} {s s' : Rw} (h : NumR D s) (hj : ∀ j, 4 ≤ j → j < 20 → j ≠ 7 → j ≠ 8 → j ≠ 10 → j ≠ 11 → s j = s' j) : NumR D s' := by
  obtain ⟨n1, n2, n3, n4, n5, n6, n7, n8, n9, n10, n11, n12⟩ := h
  exact ⟨n1.trans (hj _ (by decide) (by decide) (by decide) (by decide) (by decide) (by decide)), n2.trans (hj _ (by decide) (by decide) (by decide) (by decide) (by decide) (by decide)), n3.trans (hj _ (by decide) (by decide) (by decide) (by decide) (by decide) (by decide)), n4.trans (hj _ (by decide) (by decide) (by decide) (by decide) (by decide) (by decide)), n5.trans (hj _ (by decide) (by decide) (by decide) (by decide) (by decide) (by decide)), n6.trans (hj _ (by decide) (by decide) (by decide) (by decide) (by decide) (by decide)), n7.trans (hj _ (by decide) (by decide) (by decide) (by decide) (by decide) (by decide)), n8.trans (hj _ (by decide) (by decide) (by decide) (by decide) (by decide) (by decide)), n9.trans (hj _ (by decide) (by decide) (by decide) (by decide) (by decide) (by decide)), n10.trans (hj _ (by decide) (by decide) (by decide) (by decide) (by decide) (by decide)), n11.trans (hj _ (by decide) (by decide) (by decide) (by decide) (by decide) (by decide)), n12.trans (hj _ (by decide) (by decide) (by decide) (by decide) (by decide) (by decide))⟩
theorem core78 {d B n no nm : Nat} {s : Rw} {x y : Int32} (h : Core d B n no nm s) (ht : Tsk n (upd (upd s 7 x) 8 y)) : Core d B n no nm (upd (upd s 7 x) 8 y) :=
  core_low h (fun j hj => by rw [upd_n (by omega), upd_n (by omega)]) rfl rfl rfl ht (h.2.2.2.2.1.cong rfl rfl rfl rfl rfl rfl rfl) (h.2.2.2.2.2.cong rfl rfl)
theorem c_fromO {d B n no nm k : Nat} {D : St} {s : Rw} {Q : St → Prop} {x : Int32} (hR : RlN n no nm D s) (hC : Core d B n no nm s) (hk : k < no) (hx : x = nI k) (hQ : ∀ D', Rl D' (t_dO (upd (upd s 7 (s (20 + 2 * k))) 8 (s (20 + 2 * k + 1))) no k) → Q D') : q_X0_takeFrom_O x D Q := by
  obtain ⟨c1, ⟨b1, b2⟩, c, t, u, v⟩ := id hC
  obtain ⟨rg, ro, rm, rs, rn, r7, r8⟩ := hR
  obtain ⟨g, hg, eg⟩ := b1.1 k hk
  obtain ⟨y, hy, ey⟩ := b1.2.1 k hk
  have ho8 := c1.2.1
  have h1 : Core d B n no nm (upd (upd s 7 (s (20 + 2 * k))) 8 (s (20 + 2 * k + 1))) := core78 hC (Or.inr ⟨g, y, hg, hy, eg, ey⟩)
  have h2 := core_dO h1 hk
  have e1 : ∀ j, 9 ≤ j ∨ j < 7 → (upd (upd s 7 (s (20 + 2 * k))) 8 (s (20 + 2 * k + 1))) j = s j := fun j hj => by rw [upd_n (by omega), upd_n (by omega)]
  have e7 : (upd (upd s 7 (s (20 + 2 * k))) 8 (s (20 + 2 * k + 1))) 7 = s (20 + 2 * k) := rfl
  have e8 : (upd (upd s 7 (s (20 + 2 * k))) 8 (s (20 + 2 * k + 1))) 8 = s (20 + 2 * k + 1) := rfl
  generalize upd (upd s 7 (s (20 + 2 * k))) 8 (s (20 + 2 * k + 1)) = s1 at h1 h2 e1 e7 e8 hQ
  have kj : ∀ j, j ≠ 10 → (j < 20 ∨ 36 ≤ j) → t_dO s1 no k j = s1 j := fun j a b => t_dO_n c1.2.1 a b
  unfold q_X0_takeFrom_O
  refine c_gateAt ro c1.2.1 hk hx (c_openingAt (mo := 8) (g := oG s) (o := oO s) ro c1.2.1 hk hx (c_remove (mo := 8) (g := oG s) (o := oO s) ro c1.2.1 hk hx fun w hw => hQ _ (Rl.of h2.1 ⟨?_, ?_, ?_, ?_, ?_, ?_, ?_⟩)))
  · exact rg.cong fun g2 w2 _ _ => by rw [kj _ (by omega) (by omega), e1 _ (by omega)]
  · refine TaskR.cong (T := w) hw (fun j hj => ?_) (fun j hj => ?_)
    · rw [t_dO_G hk hj]
      show (if j < k then s _ else s _) = if j < k then s1 _ else s1 _
      rw [e1 _ (by omega), e1 _ (by omega)]
    · rw [t_dO_O hk hj]
      show (if j < k then s _ else s _) = if j < k then s1 _ else s1 _
      rw [e1 _ (by omega), e1 _ (by omega)]
  · refine TaskR.cong (T := fun i => D (10 + i)) rm (fun j hj => ?_) (fun j hj => ?_)
    · show s _ = t_dO s1 no k _
      rw [kj _ (by omega) (by omega), e1 _ (by omega)]
    · show s _ = t_dO s1 no k _
      rw [kj _ (by omega) (by omega), e1 _ (by omega)]
  · exact rs.cong fun j hj => by rw [kj _ (by omega) (by omega), e1 _ (by omega)]
  · exact rn.cong fun j h1 h2 h3 h4 h5 h6 => by rw [kj _ (by omega) (by omega), e1 _ (by omega)]
  · rw [kj _ (by omega) (by omega), e7]; rfl
  · intro _
    rw [kj _ (by omega) (by omega), e8]; rfl
theorem c_fromK {d B n no nm : Nat} {D : St} {s : Rw} {Q : St → Prop} (hR : RlN n no nm D s) (hC : Core d B n no nm s) (hk : 0 < nm) (hQ : ∀ D', Rl D' (t_dM (upd (upd s 7 (s 36)) 8 (s 37)) nm 0) → Q D') : q_X0_takeFrom_K 0 D Q := by
  obtain ⟨c1, ⟨b1, b2⟩, c, t, u, v⟩ := id hC
  obtain ⟨rg, ro, rm, rs, rn, r7, r8⟩ := hR
  obtain ⟨g, hg, eg⟩ := b2.1 0 hk
  obtain ⟨y, hy, ey⟩ := b2.2.1 0 hk
  have hm4 := c1.2.2.1
  have ho8 := c1.2.1
  have h1 : Core d B n no nm (upd (upd s 7 (s 36)) 8 (s 37)) := core78 hC (Or.inr ⟨g, y, hg, hy, eg, ey⟩)
  have h2 := core_dM h1 hk
  have e1 : ∀ j, 9 ≤ j ∨ j < 7 → (upd (upd s 7 (s 36)) 8 (s 37)) j = s j := fun j hj => by rw [upd_n (by omega), upd_n (by omega)]
  have e7 : (upd (upd s 7 (s 36)) 8 (s 37)) 7 = s 36 := rfl
  have e8 : (upd (upd s 7 (s 36)) 8 (s 37)) 8 = s 37 := rfl
  generalize upd (upd s 7 (s 36)) 8 (s 37) = s1 at h1 h2 e1 e7 e8 hQ
  have kj : ∀ j, j ≠ 11 → (j < 36 ∨ 44 ≤ j) → t_dM s1 nm 0 j = s1 j := fun j a b => t_dM_n hm4 a b
  unfold q_X0_takeFrom_K
  refine c_gateAt rm (by omega) hk rfl (c_openingAt (mo := 4) (g := mG s) (o := mO s) rm (by omega) hk rfl (c_remove (mo := 4) (g := mG s) (o := mO s) rm (by omega) hk rfl fun w hw => hQ _ (Rl.of h2.1 ⟨?_, ?_, ?_, ?_, ?_, ?_, ?_⟩)))
  · exact rg.cong fun g2 w2 _ _ => by rw [kj _ (by omega) (by omega), e1 _ (by omega)]
  · refine TaskR.cong (T := fun i => D (6 + i)) ro (fun j hj => ?_) (fun j hj => ?_)
    · show s _ = t_dM s1 nm 0 _
      rw [kj _ (by omega) (by omega), e1 _ (by omega)]
    · show s _ = t_dM s1 nm 0 _
      rw [kj _ (by omega) (by omega), e1 _ (by omega)]
  · refine TaskR.cong (T := w) hw (fun j hj => ?_) (fun j hj => ?_)
    · rw [t_dM_G hk hj]
      show (if j < 0 then s _ else s _) = if j < 0 then s1 _ else s1 _
      rw [e1 _ (by omega), e1 _ (by omega)]
    · rw [t_dM_O hk hj]
      show (if j < 0 then s _ else s _) = if j < 0 then s1 _ else s1 _
      rw [e1 _ (by omega), e1 _ (by omega)]
  · exact rs.cong fun j hj => by rw [kj _ (by omega) (by omega), e1 _ (by omega)]
  · exact rn.cong fun j h1 h2 h3 h4 h5 h6 => by rw [kj _ (by omega) (by omega), e1 _ (by omega)]
  · rw [kj _ (by omega) (by omega), e7]; rfl
  · intro _
    rw [kj _ (by omega) (by omega), e8]; rfl
theorem c_waits {n no nm : Nat} {D : St} {s : Rw} {Q : Int32 → Prop} (hR : RlN n no nm D s) (hc : Cn n no nm s) (h0 : no + nm = 0 → Q 0) (h1 : 0 < no + nm → Q 1) : q_X0_somethingWaits D Q := by
  have em : D (10 + 3) 0 = nI nm := hR.2.2.1.2.1
  have eo : D (6 + 3) 0 = nI no := hR.2.1.2.1
  have ho8 := hc.2.1
  have hm4 := hc.2.2.1
  unfold q_X0_somethingWaits
  refine c_size4 ?_
  rw [em]
  refine ⟨fun c => h1 ?_, fun c => c_size4 ?_⟩
  · have := (nI_ltI (a := 0) (by omega) (by omega)).mp c
    omega
  · have hm : ¬ 0 < nm := fun q => c (nI_lt (a := 0) q (by omega))
    rw [eo]
    refine ⟨fun c2 => h0 ?_, fun c2 => h1 ?_⟩
    · have := (nI_leI (b := 0) (by omega) (by omega)).mp c2
      omega
    · have : ¬ no ≤ 0 := fun q => c2 (nI_le (b := 0) q (by omega))
      omega
theorem c_step {d B n no nm : Nat} {D : St} {s : Rw} {Q : St → Prop} (hR : Rl D s) (hC : Core d B n no nm s) (h9 : s 9 = 0) (hw : 0 < no + nm) (hQ : ∀ D', Rl D' (t_looks (t_takes s)) → Q D') :
    q_X4_size (fun i => D (10 + i)) (fun r => (r ≤ 0 → q_X0_chosenOrder D (fun r1 => q_X0_takeFrom_O r1 D (fun u => q_X0_endTaskIfDone u Q))) ∧ (¬ (r ≤ 0) → q_X0_takeFrom_K 0 D (fun u => q_X0_endTaskIfDone u Q))) := by
  obtain ⟨no', nm', h1, -⟩ := core_takes hC
  have hc := hC.1
  have hN := hR n no nm hc
  have ho8 := hc.2.1
  have hm4 := hc.2.2.1
  have em : D (10 + 3) 0 = nI nm := hN.2.2.1.2.1
  have h9' : ¬ s 9 = 1 := by rw [h9]; decide
  refine c_size4 ?_
  rw [em]
  refine ⟨fun c => ?_, fun c => ?_⟩
  · have hm : nm = 0 := by
      have := (nI_leI (b := 0) (by omega) (by omega)).mp c
      omega
    refine c_chosen hN hC ?_
    have hn0 : (nxO (itO s) no).1 ≠ none := nxO_none (by omega)
    cases hf : (nxO (itO s) no).1 with
    | none => exact absurd hf hn0
    | some k =>
      have hk : k < no := nxO_some (b := (nxO (itO s) no).2) (by rw [← hf])
      have e : t_takes s = t_dO (upd (upd s 7 (s (20 + 2 * k))) 8 (s (20 + 2 * k + 1))) no k := by
        rw [t_takes, if_neg h9', if_pos (by rw [hc.2.2.2.2.2, hm]; decide), cn_of hc.2.2.2.2.1 (by omega), hf]
      refine c_fromO hN hC hk rfl fun D' h' => c_endTask (s := t_takes s) (by rw [e]; exact h') h1 hQ
  · have hm : 0 < nm := by
      have : ¬ nm ≤ 0 := fun q => c (nI_le (b := 0) q (by omega))
      omega
    have e : t_takes s = t_dM (upd (upd s 7 (s 36)) 8 (s 37)) nm 0 := by
      rw [t_takes, if_neg h9', if_neg (by rw [hc.2.2.2.2.2]; exact c), cn_of hc.2.2.2.2.2 (by omega)]
    exact c_fromK hN hC hm fun D' h' => c_endTask (s := t_takes s) (by rw [e]; exact h') h1 hQ
def LpT (D : St) (Q : St → Prop) : Prop := ∃ (I_3 : Nat → Int32 → St → Prop) (n_7 : Nat), I_3 n_7 0 D ∧ ∀ (n_2 : Nat) (x1_4 : Int32) (D_5 : St), I_3 n_2 x1_4 D_5 → ((12 ≤ x1_4 → Q D_5) ∧ (¬ (12 ≤ x1_4) → ((D_5 21 0) = 0 → q_X0_hasTask D_5 (fun r_13 => (r_13 = 0 → q_X0_somethingWaits D_5 (fun r_15 => (r_15 = 0 → Q D_5) ∧ (¬ (r_15 = 0) → q_X4_size (fun i => D_5 (10 + i)) (fun r_17 => (r_17 ≤ 0 → q_X0_chosenOrder D_5 (fun r_19 => q_X0_takeFrom_O r_19 D_5 (fun u_20 => q_X0_endTaskIfDone u_20 (fun u_21 => ∃ n_22, n_22 < n_2 ∧ I_3 n_22 (x1_4 + 1) u_21)))) ∧ (¬ (r_17 ≤ 0) → q_X0_takeFrom_K 0 D_5 (fun u_25 => q_X0_endTaskIfDone u_25 (fun u_26 => ∃ n_27, n_27 < n_2 ∧ I_3 n_27 (x1_4 + 1) u_26))))))) ∧ (¬ (r_13 = 0) → Q D_5))) ∧ (¬ ((D_5 21 0) = 0) → Q D_5)))
/-- with nothing that waits, the state's round changes nothing that the class would show -/
theorem lp_none {d B n k : Nat} {D : St} {s : Rw} (hR : Rl D s) (hC : Core d B n 0 0 s) (h9 : s 9 = 0) (h7 : s 7 < 0) : Rl D (t_lp (k + 1) s) := by
  have hc := hC.1
  have h9' : ¬ s 9 = 1 := by rw [h9]; decide
  have e : t_takes s = upd (upd s 7 (-1)) 8 0 := by
    rw [t_takes, if_neg h9', if_pos (by rw [hc.2.2.2.2.2]; decide), cn_of hc.2.2.2.2.1 (by omega)]
    rfl
  have e2 : t_lp (k + 1) s = upd (upd s 7 (-1)) 8 0 := by
    have q : (upd (upd s 7 (-1)) 8 0) 7 < 0 := show (-1 : Int32) < 0 by decide
    rw [t_lp, e, if_pos q, t_looks, if_pos q]
  rw [e2]
  obtain ⟨rg, ro, rm, rs, rn, r7, r8⟩ := hR n 0 0 hc
  have e7 : s 7 = -1 := by
    rcases hC.2.2.2.1 with h | ⟨g, y, hg, -, e, -⟩
    · exact h
    · have h8 := hc.1
      exact absurd (by rw [← e]; exact h7) (nI_pos (n := g) (by omega))
  have hj : ∀ j, j ≠ 7 → j ≠ 8 → s j = (upd (upd s 7 (-1)) 8 0) j := fun j a b => by rw [upd_n (by omega), upd_n (by omega)]
  exact Rl.of (hc.cong rfl rfl rfl) ⟨rg.cong fun g w _ _ => hj _ (by omega) (by omega), ro.cong (fun k _ => hj _ (by omega) (by omega)) (fun k _ => hj _ (by omega) (by omega)), rm.cong (fun k _ => hj _ (by omega) (by omega)) (fun k _ => hj _ (by omega) (by omega)), rs, rn.cong fun j _ _ h3 h4 _ _ => hj j h3 h4, r7.trans e7, fun q => absurd (show (-1 : Int32) < 0 by decide) q⟩
theorem takes_pos {d B n no nm : Nat} {s : Rw} (hC : Core d B n no nm s) (h9 : s 9 = 0) (hw : 0 < no + nm) : ¬ t_takes s 7 < 0 := by
  have hc := hC.1
  have h8 := hc.1
  have ho8 := hc.2.1
  have hm4 := hc.2.2.1
  have h9' : ¬ s 9 = 1 := by rw [h9]; decide
  intro hw'
  rw [t_takes, if_neg h9', cn_of hc.2.2.2.2.1 (by omega), cn_of hc.2.2.2.2.2 (by omega)] at hw'
  by_cases c11 : s 11 ≤ 0
  · rw [if_pos c11] at hw'
    have hm0 : nm = 0 := by
      rw [hc.2.2.2.2.2] at c11
      have := (nI_leI (b := 0) (by omega) (by omega)).mp c11
      omega
    have hn0 : (nxO (itO s) no).1 ≠ none := nxO_none (by omega)
    cases hf : (nxO (itO s) no).1 with
    | none => exact absurd hf hn0
    | some k =>
      rw [hf] at hw'
      have hk : k < no := nxO_some (b := (nxO (itO s) no).2) (by rw [← hf])
      obtain ⟨g, hg, eg⟩ := hC.2.1.1.1 k hk
      have hw' : t_dO (upd (upd s 7 (s (20 + 2 * k))) 8 (s (20 + 2 * k + 1))) no k 7 < 0 := hw'
      rw [t_dO_7] at hw'
      have hw' : s (20 + 2 * k) < 0 := hw'
      have eg : s (20 + 2 * k) = nI g := eg
      rw [eg] at hw'
      exact nI_pos (by omega) hw'
  · rw [if_neg c11, t_dM_7] at hw'
    have hm0 : 0 < nm := by
      rcases Nat.eq_zero_or_pos nm with e | e
      · exact absurd (by rw [hc.2.2.2.2.2, e]; decide) c11
      · exact e
    obtain ⟨g, hg, eg⟩ := hC.2.1.2.1 0 hm0
    have hw' : s 36 < 0 := hw'
    have eg : s 36 = nI g := eg
    rw [eg] at hw'
    exact nI_pos (by omega) hw'
theorem c_lpT {d B n no nm : Nat} {D : St} {s z : Rw} {Q : St → Prop} (h0 : (∃ s no nm, Core d B n no nm s ∧ Rl D s ∧ s 9 = 0 ∧ no + nm ≤ 12 ∧ s 7 < 0 ∧ t_lp 13 s = z) ∨ (Rl D z ∧ ∃ no nm, Core d B n no nm z ∧ (z 9 = 1 ∨ ¬ z 7 < 0))) (hQ : ∀ D', Rl D' z → Q D') : LpT D Q := by
  unfold LpT
  refine ⟨fun m x E => ∃ i : Nat, i ≤ 12 ∧ m = 12 - i ∧ x = nI i ∧ ((∃ s no nm, Core d B n no nm s ∧ Rl E s ∧ s 9 = 0 ∧ no + nm ≤ 12 - i ∧ s 7 < 0 ∧ t_lp (13 - i) s = z) ∨ (Rl E z ∧ ∃ no nm, Core d B n no nm z ∧ (z 9 = 1 ∨ ¬ z 7 < 0))), 12, ⟨0, by omega, rfl, rfl, h0⟩, ?_⟩
  rintro m x E ⟨i, hi, rfl, rfl, h⟩
  rcases h with ⟨s, no, nm, hC, hR, h9, hw, h7, hz⟩ | ⟨hR, no, nm, hC, hz⟩
  · have hc := hC.1
    have hN := hR n no nm hc
    have h8 := hc.1
    have none : no + nm = 0 → Q E := fun e => by
      obtain rfl : no = 0 := by omega
      obtain rfl : nm = 0 := by omega
      refine hQ E ?_
      rw [← hz, show 13 - i = (12 - i) + 1 by omega]
      exact lp_none hR hC h9 h7
    refine ⟨fun c => none ?_, fun c => ⟨fun _ => ?_, fun q => absurd (hN.2.2.2.2.1.2.2.2.2.2.2.1.trans h9) q⟩⟩
    · have := (nI_leI (a := 12) (by omega) (by omega)).mp c
      omega
    · have hi12 : i < 12 := by
        have : ¬ 12 ≤ i := fun q => c (nI_le (a := 12) q (by omega))
        omega
      refine c_hasTask (s := s) (n := n) hN.2.2.2.2.2.1 hC.2.2.2.1 (fun _ => ⟨fun _ => ?_, fun q => absurd rfl q⟩) (fun q => absurd h7 q) h8
      refine c_waits hN hc (fun e => ⟨fun _ => none e, fun q => absurd rfl q⟩) (fun e => ⟨fun q => absurd q (by decide), fun _ => ?_⟩)
      refine c_step hR hC h9 e fun D' h' => ⟨12 - (i + 1), by omega, i + 1, hi12, rfl, nI_1 i, ?_⟩
      obtain ⟨no', nm', h1, -, e9, hw'⟩ := core_takes hC
      obtain ⟨h2, ho, e9'⟩ := core_looks h1
      have e9 : t_looks (t_takes s) 9 = 0 := e9'.trans (e9.trans h9)
      rw [show 13 - i = (12 - i) + 1 by omega, t_lp] at hz
      by_cases c2 : t_looks (t_takes s) 7 < 0
      · refine Or.inl ⟨_, no', nm', h2, h', e9, ?_, c2, ?_⟩
        · rcases hw' with hw' | hw' | hw'
          · omega
          · exact absurd hw' (takes_pos hC h9 e)
          · exact absurd (h9.symm.trans hw') (by decide)
        · rw [show 13 - (i + 1) = 12 - i by omega]
          rw [if_neg (takes_pos hC h9 e), if_neg (Int32.not_le.mpr c2)] at hz
          exact hz
      · have e : t_looks (t_takes s) = z := by
          by_cases c3 : t_takes s 7 < 0
          · rw [if_pos c3] at hz; exact hz
          · rw [if_neg c3, if_pos (Int32.not_lt.mp c2)] at hz; exact hz
        rw [e] at h2 h' c2
        exact Or.inr ⟨h', no', nm', h2, Or.inr c2⟩
  · have hc := hC.1
    have hN := hR n no nm hc
    refine ⟨fun _ => hQ E hR, fun _ => ⟨fun q => ?_, fun _ => hQ E hR⟩⟩
    have q9 : z 9 = 0 := hN.2.2.2.2.1.2.2.2.2.2.2.1.symm.trans q
    rcases hz with hz | hz
    · exact absurd (q9.symm.trans hz) (by decide)
    · exact c_hasTask (s := z) (n := n) hN.2.2.2.2.2.1 hC.2.2.2.1 (fun q => absurd q hz) (fun _ => ⟨fun q => absurd q (by decide), fun _ => hQ E hR⟩) hc.1
theorem c_takeTask {d B n no nm : Nat} {D : St} {s : Rw} {Q : St → Prop} (hR : Rl D s) (hC : Core d B n no nm s) (ho : Opn s) (hQ : ∀ D', Rl D' (t_take s) → Q D') : q_X0_takeTask D Q := by
  have hc := hC.1
  have hN := hR n no nm hc
  have h8 := hc.1
  have ho8 := hc.2.1
  have hm4 := hc.2.2.1
  have u2 := hC.2.2.2.2.1.2.1
  have hF := isF hN.2.2.2.2.1.2.2.2.2.2.2.1 u2
  have has : ¬ s 7 < 0 → LpT D Q := fun c7 => by
    have e : t_take s = s := by rw [t_take, if_pos (Int32.not_lt.mp c7)]
    exact c_lpT (n := n) (d := d) (B := B) (no := no) (nm := nm) (s := s) (Or.inr ⟨by rw [e]; exact hR, no, nm, by rw [e]; exact hC, Or.inr (by rw [e]; exact c7)⟩) hQ
  unfold q_X0_takeTask
  refine ⟨fun c0 => ?_, fun c0 => ?_⟩
  · by_cases c7 : s 7 < 0
    · have e : t_lp 13 s = t_take s := by rw [t_take, if_neg (Int32.not_le.mpr c7)]
      exact c_lpT (n := n) (d := d) (B := B) (no := no) (nm := nm) (s := s) (Or.inl ⟨s, no, nm, hC, hR, hF.1.mp c0, by omega, c7, e⟩) hQ
    · exact has c7
  · refine c_hasTask (s := s) (n := n) hN.2.2.2.2.2.1 hC.2.2.2.1 (fun c7 => ⟨fun _ => ?_, fun q => absurd rfl q⟩) (fun c7 => ⟨fun q => absurd q (by decide), fun _ => has c7⟩) h8
    have h9 : s 9 = 1 := hF.2.mp c0
    obtain ⟨no', nm', h1, hO, e9, -⟩ := core_takes hC
    have e : t_take s = t_takes s := by
      rw [t_take, if_neg (Int32.not_le.mpr c7), t_lp, opn_looks (hO h9)]
      by_cases c : t_takes s 7 < 0
      · rw [if_pos c]
      · rw [if_neg c, if_pos (Int32.not_lt.mp c)]
    have e6 : D 23 0 = s 6 := hN.2.2.2.2.1.2.2.2.2.2.2.2.2.1
    rw [e6]
    refine c_nearest hN.1 hC.2.2.1 h8 ?_
    have hR' : Rl (uA (uA D 24 (fun _ => ixM (nrO (fun g => s (46 + 5 * g + 2)) (s 6) n))) 25 (fun _ => 10)) (t_takes s) := by
      obtain ⟨rg, ro, rm, rs, rn, r7, r8⟩ := hN
      have et2 : t_takes s = upd (upd s 7 (ixM (nrO (fun g => s (46 + 5 * g + 2)) (s 6) n))) 8 10 := by
        rw [t_takes, if_pos h9, cn_of hc.2.2.2.1 (by omega)]
        cases nrO (fun g => s (46 + 5 * g + 2)) (s 6) n <;> rfl
      rw [et2]
      have hj : ∀ j, j ≠ 7 → j ≠ 8 → s j = (upd (upd s 7 (ixM (nrO (fun g => s (46 + 5 * g + 2)) (s 6) n))) 8 10) j := fun j a b => by rw [upd_n (by omega), upd_n (by omega)]
      exact Rl.of (hc.cong rfl rfl rfl) ⟨rg.cong fun g w _ _ => hj _ (by omega) (by omega), ro.cong (fun k _ => hj _ (by omega) (by omega)) (fun k _ => hj _ (by omega) (by omega)), rm.cong (fun k _ => hj _ (by omega) (by omega)) (fun k _ => hj _ (by omega) (by omega)), rs, rn.cong fun j _ _ h3 h4 _ _ => hj j h3 h4, rfl, fun _ => rfl⟩
    rw [← e] at hR' h1 e9
    exact c_lpT (n := n) (d := d) (B := B) (no := no) (nm := nm) (s := s) (Or.inr ⟨hR', no', nm', h1, Or.inl (e9.trans h9)⟩) hQ
