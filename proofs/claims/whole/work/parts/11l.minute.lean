/-! The class works, lets water flow, lets minutes go by. -/
def cSt (m w : Int32) : Int32 := if 0 ≤ w then (if (if 0 ≤ w then w else 0 - w) < m then (if 0 ≤ w then w else 0 - w) else m) else -(if (if 0 ≤ w then w else 0 - w) < m then (if 0 ≤ w then w else 0 - w) else m)
theorem cSt_all : ∀ a, a < 11 → ∀ y, y < 11 → a ≠ y → cSt 2 (nI y - nI a) = (if nI y - nI a ≤ 0 then (if ¬ abI (nI y - nI a) ≤ 1 then -2 else -1) else (if ¬ abI (nI y - nI a) ≤ 1 then 2 else 1)) ∧ cSt 1 (nI y - nI a) = (if nI y - nI a ≤ 0 then -1 else 1) := by decide +kernel
theorem t_moves_lo {s : Rw} {g j : Nat} (h1 : j < 46) (h2 : j ≠ 17) : t_moves s g j = s j := by
  unfold t_moves
  rw [upd_n (by omega), upd_n (by omega), upd_n h2]
theorem c_moveTowards {d B n no nm g : Nat} {T : St} {s : Rw} {Q : St → Prop} {x y : Int32} (hR : GateR n T s) (hC : Core d B n no nm s) (ho : Opn s) (h7 : s 7 = nI g) (hg : g < n) (hx : x = nI g) (hy : y = s 8)
    (hQ : ∀ v w : Int32, v = s (46 + 5 * g + 2) + t_step s g → w = s (46 + 5 * g + 4) + 1 → Q (uA (uA T 2 (upd (T 2) g v)) 4 (upd (T 4) g w))) : q_X1_moveTowards x y T Q := by
  have h8 := hC.1.1
  obtain ⟨⟨kk, hkk, ek⟩, -, a, ha, ea⟩ := hC.2.2.1 g hg
  have c7 : ¬ s 7 < 0 := by rw [h7]; exact nI_pos (by omega)
  obtain ⟨g', yy, hg', hyy, e7, e8⟩ := hC.2.2.2.1.g c7
  have hne : a ≠ yy := by
    intro e
    have := ho c7
    rw [cn7 h7 (by omega), ea, e8, e] at this
    exact this rfl
  obtain ⟨q2, q1⟩ := cSt_all a (by omega) yy (by omega) hne
  subst hx
  subst hy
  unfold q_X1_moveTowards
  refine c_has hR h8 (fun _ _ _ => ⟨fun q => absurd q (by decide), fun _ => ⟨vp_in_nI (by omega) (by omega), ?_⟩⟩) (fun q => absurd rfl (q g hg))
  rw [nI_c _ (by omega)]
  have e0 : T 0 g = s (46 + 5 * g + 0) := hR.2.1 g hg
  have e2 : T 2 g = s (46 + 5 * g + 2) := hR.2.2.2.1 g hg
  have e4 : T 4 g = s (46 + 5 * g + 4) := hR.2.2.2.2.2 g hg
  have fin : ∀ z : Int32, z = t_step s g → Q (uA (uA T 2 (upd (T 2) g (s (46 + 5 * g + 2) + z))) 4 (upd (T 4) g (s (46 + 5 * g + 4) + 1))) := fun z e => hQ _ _ (by rw [e]) rfl
  rw [e0, e2, e4]
  refine ⟨fun c0 => ⟨fun c => fin _ ?_, fun c => fin _ ?_⟩, fun c0 => ⟨fun c => fin _ ?_, fun c => fin _ ?_⟩⟩
  · have r : t_step s g = cSt 2 (s 8 - s (46 + 5 * g + 2)) := by
      rw [t_step, e8, ea, q2]
      simp only [c0, true_and]
    rw [r]; exact (if_pos c).symm
  · have r : t_step s g = cSt 2 (s 8 - s (46 + 5 * g + 2)) := by
      rw [t_step, e8, ea, q2]
      simp only [c0, true_and]
    rw [r]; exact (if_neg c).symm
  · have r : t_step s g = cSt 1 (s 8 - s (46 + 5 * g + 2)) := by
      rw [t_step, e8, ea, q1]
      simp only [c0, false_and, if_false]
    rw [r]; exact (if_pos c).symm
  · have r : t_step s g = cSt 1 (s 8 - s (46 + 5 * g + 2)) := by
      rw [t_step, e8, ea, q1]
      simp only [c0, false_and, if_false]
    rw [r]; exact (if_neg c).symm
theorem core_moves {d B n no nm g : Nat} {s : Rw} (h : Core d B n no nm s) (ho : Opn s) (e7 : s 7 = nI g) (hg : g < n) : Core d B n no nm (t_moves s g) := by
  have h' := h
  obtain ⟨⟨a1, a2, a3, a4, a5, a6⟩, b, c, t, u, v⟩ := h'
  have h7 : ¬ s 7 < 0 := by rw [e7]; exact nI_pos (by omega)
  obtain ⟨g', y, hg', hy, e7', e8⟩ := t.g h7
  obtain ⟨c1, c2, a, ha, ea⟩ := c g hg
  have hne : a ≠ y := by
    intro e
    have := ho h7
    rw [cn7 e7 (by omega), ea, e8, e] at this
    exact this rfl
  have hs : ∃ b, b ≤ 10 ∧ s (46 + 5 * g + 2) + t_step s g = nI b := by
    obtain ⟨s1, s2⟩ := step_ok a (by omega) y (by omega) hne
    unfold t_step
    rw [ea, e8]
    by_cases hk : s (46 + 5 * g + 0) = 2 ∧ ¬ abI (nI y - nI a) ≤ 1
    · rw [if_pos hk, if_pos hk]
      obtain ⟨b, hb, eb⟩ := s2 hk.2
      exact ⟨b, by omega, eb⟩
    · rw [if_neg hk, if_neg hk]
      obtain ⟨b, hb, eb⟩ := s1
      exact ⟨b, by omega, eb⟩
  have lowj : ∀ j, j < 46 → j ≠ 17 → t_moves s g j = s j := fun j h1 h2 => t_moves_lo h1 h2
  refine ⟨h.1.cong (lowj 3 (by decide) (by decide)) (lowj 10 (by decide) (by decide)) (lowj 11 (by decide) (by decide)), b.cong a2 a3 fun j h1 h2 => lowj j h2 (by omega), ?_, t.cong (lowj 7 (by decide) (by decide)) (lowj 8 (by decide) (by decide)), u.cong (lowj _ (by decide) (by decide)) (lowj _ (by decide) (by decide)) (lowj _ (by decide) (by decide)) (lowj _ (by decide) (by decide)) (lowj _ (by decide) (by decide)) (lowj _ (by decide) (by decide)) (lowj _ (by decide) (by decide)), v.cong (lowj _ (by decide) (by decide)) (lowj _ (by decide) (by decide))⟩
  intro g2 hg2
  have e0 : t_moves s g (46 + 5 * g2 + 0) = s (46 + 5 * g2 + 0) := by
    unfold t_moves
    rw [upd_n (by omega), upd_n (by omega), upd_n (by omega)]
  have e1 : t_moves s g (46 + 5 * g2 + 1) = s (46 + 5 * g2 + 1) := by
    unfold t_moves
    rw [upd_n (by omega), upd_n (by omega), upd_n (by omega)]
  obtain ⟨d1, d2, d3⟩ := c g2 hg2
  rw [e0, e1]
  refine ⟨d1, d2, ?_⟩
  by_cases e : g2 = g
  · subst e
    unfold t_moves
    rw [upd_n (by omega), upd_s]
    exact hs
  · unfold t_moves
    rw [upd_n (by omega), upd_n (by omega), upd_n (by omega)]
    exact d3
theorem c_work {d B n no nm : Nat} {D : St} {s : Rw} {Q : St → Prop} (hR : Rl D s) (hC : Core d B n no nm s) (ho : Opn s) (hQ : ∀ D', Rl D' (if s 7 < 0 then s else t_works s) → Q D') : q_X0_work D Q := by
  have hc := hC.1
  have h8 := hc.1
  obtain ⟨rg, ro, rm, rs, rn, r7, r8⟩ := hR n no nm hc
  have t := hC.2.2.2.1
  unfold q_X0_work
  refine c_hasTask (s := s) (n := n) r7 t (fun c7 => ⟨fun _ => hQ D ?_, fun q => absurd rfl q⟩) (fun c7 => ⟨fun q => absurd q (by decide), fun _ => ?_⟩) h8
  · rw [if_pos c7]; exact hR
  rw [if_neg c7] at hQ
  obtain ⟨g, y, hg, hy, e7, e8⟩ := t.g c7
  obtain ⟨p, hp, ep⟩ := hC.2.2.2.2.1.1
  have n6 : D 23 0 = s 6 := rn.2.2.2.2.2.2.2.2.1
  have n17 : D 26 0 = s 17 := rn.2.2.2.2.2.2.2.2.2.1
  rw [r7, n6, n17]
  -- the crane on its way
  have way : ∀ v : Int32, v = s 6 + (if s 7 ≤ s 6 then -1 else 1) → s 7 ≠ s 6 → Q (uA (uA D 26 (fun _ => s 17 + 1)) 23 (fun _ => v)) := by
    rintro v rfl hne
    refine hQ _ ?_
    have hop : Opn (upd (upd s 17 (s 17 + 1)) 6 (s 6 + (if s 7 ≤ s 6 then -1 else 1))) := by
      intro q
      have := ho c7
      rw [cn7 e7 (by omega)] at this
      rw [cn7 (g := g) (by rw [upd_n (by decide), upd_n (by decide)]; exact e7) (by omega), upd_n (by omega), upd_n (by omega)]
      exact this
    rw [t_works, if_neg hne, opn_looks hop]
    have hj : ∀ j, j ≠ 6 → j ≠ 17 → s j = (upd (upd s 17 (s 17 + 1)) 6 (s 6 + (if s 7 ≤ s 6 then -1 else 1))) j := fun j a b => by rw [upd_n (by omega), upd_n (by omega)]
    obtain ⟨n1, n2, n3, n4, n5, n6, n7, n8, n9, n10, n11, n12⟩ := rn
    exact Rl.of (hc.cong rfl rfl rfl) ⟨rg.cong fun g w _ _ => hj _ (by omega) (by omega), ro.cong (fun k _ => hj _ (by omega) (by omega)) (fun k _ => hj _ (by omega) (by omega)), rm.cong (fun k _ => hj _ (by omega) (by omega)) (fun k _ => hj _ (by omega) (by omega)), rs, ⟨n1, n2, n3, n4, n5, n6, n7, n8, rfl, rfl, n11, n12⟩, r7, r8⟩
  refine ⟨fun c1 => ⟨fun c2 => ?_, fun c2 => way _ ?_ ?_⟩, fun c1 => way _ ?_ ?_⟩
  · have e : s 7 = s 6 := by
      rw [e7, ep] at c1 c2 ⊢
      have h1 := (nI_leI (by omega) (by omega)).mp c1
      have h2 := (nI_leI (by omega) (by omega)).mp c2
      rw [show g = p by omega]
    rw [t_works, if_pos e, cn7 e7 (by omega)] at hQ
    refine c_moveTowards (T := uA D 26 (fun _ => s 17 + 1)) rg hC ho e7 hg e7 (r8 c7) fun v w hv hw => ?_
    have hM := core_moves hC ho e7 hg
    refine c_endTask (s := t_moves s g) ?_ hM hQ
    have lo : ∀ j, j < 46 → j ≠ 17 → s j = t_moves s g j := fun j h1 h2 => (t_moves_lo h1 h2).symm
    have m17 : t_moves s g 17 = s 17 + 1 := by
      unfold t_moves
      rw [upd_n (by omega), upd_n (by omega), upd_s]
    have m2 : t_moves s g (46 + 5 * g + 2) = v := by
      unfold t_moves
      rw [upd_n (by omega), upd_s, hv]
    have m4 : t_moves s g (46 + 5 * g + 4) = w := by
      unfold t_moves
      rw [upd_s, hw]
    have mo : ∀ j, 46 ≤ j → j ≠ 46 + 5 * g + 2 → j ≠ 46 + 5 * g + 4 → s j = t_moves s g j := fun j h1 h2 h3 => by
      unfold t_moves
      rw [upd_n h3, upd_n h2, upd_n (by omega)]
    generalize t_moves s g = z at hM lo m17 m2 m4 mo
    have ho8 := hc.2.1
    have hm4 := hc.2.2.1
    obtain ⟨n1, n2, n3, n4, n5, n6, n7, n8, n9, n10, n11, n12⟩ := rn
    refine Rl.of hM.1 ⟨⟨rg.1, fun g2 h2 => (rg.2.1 g2 h2).trans (mo _ (by omega) (by omega) (by omega)), fun g2 h2 => (rg.2.2.1 g2 h2).trans (mo _ (by omega) (by omega) (by omega)), fun g2 h2 => ?_, fun g2 h2 => (rg.2.2.2.2.1 g2 h2).trans (mo _ (by omega) (by omega) (by omega)), fun g2 h2 => ?_⟩, ro.cong (fun k hk => lo _ (by omega) (by omega)) (fun k hk => lo _ (by omega) (by omega)), rm.cong (fun k hk => lo _ (by omega) (by omega)) (fun k hk => lo _ (by omega) (by omega)), rs.cong fun j hj => lo _ (by omega) (by omega), ⟨n1.trans (lo _ (by decide) (by decide)), n2.trans (lo _ (by decide) (by decide)), n3.trans (lo _ (by decide) (by decide)), n4.trans (lo _ (by decide) (by decide)), n5.trans (lo _ (by decide) (by decide)), n6.trans (lo _ (by decide) (by decide)), n7.trans (lo _ (by decide) (by decide)), n8.trans (lo _ (by decide) (by decide)), n9.trans (lo _ (by decide) (by decide)), m17.symm, n11.trans (lo _ (by decide) (by decide)), n12.trans (lo _ (by decide) (by decide))⟩, r7.trans (lo _ (by decide) (by decide)), fun _ => (r8 c7).trans (lo _ (by decide) (by decide))⟩
    · show upd (D 2) g v g2 = _
      by_cases e : g2 = g
      · subst e; rw [upd_s, m2]
      · rw [upd_n e]
        exact (rg.2.2.2.1 g2 h2).trans (mo _ (by omega) (by omega) (by omega))
    · show upd (D 4) g w g2 = _
      by_cases e : g2 = g
      · subst e; rw [upd_s, m4]
      · rw [upd_n e]
        exact (rg.2.2.2.2.2 g2 h2).trans (mo _ (by omega) (by omega) (by omega))
  · rw [if_pos c1]; exact Int32.sub_eq_add_neg _ _
  · intro e; exact c2 (by rw [e]; exact Int32.le_refl _)
  · rw [if_neg c1]
  · intro e; exact c1 (by rw [e]; exact Int32.le_refl _)
theorem c_flow {n g : Nat} {T : St} {s : Rw} {Q : Int32 → Prop} {x y : Int32} (hR : GateR n T s) (h8 : n ≤ 8) (hg : g < n) (hx : x = nI g) (h : Q (t_rate s g y)) : q_X1_flow x y T Q := by
  subst hx
  unfold q_X1_flow
  refine c_has hR h8 (fun _ _ _ => ⟨fun q => absurd q (by decide), fun _ => ⟨vp_in_nI (by omega) (by omega), ?_⟩⟩) (fun q => absurd rfl (q g hg))
  rw [nI_c _ (by omega), hR.2.1 g hg, hR.2.2.1 g hg, hR.2.2.2.1 g hg]
  unfold t_rate at h
  refine ⟨fun c2 => ⟨fun c10 => ⟨fun c1 => absurd (c2.symm.trans c1) (by decide), fun c1 => ?_⟩, fun c10 => ?_⟩, fun c2 => ⟨fun c1 => ⟨fun c8 => ?_, fun c8 => ?_⟩, fun c1 => ?_⟩⟩
  · rw [if_neg fun q => c1 q.1, if_neg fun q => q.2 c10] at h; exact h
  · rw [if_neg fun q => absurd (c2.symm.trans q.1) (by decide), if_pos ⟨c2, c10⟩] at h; exact h
  · rw [if_neg fun q => q.2 c8, if_neg fun q => c2 q.1] at h; exact h
  · rw [if_pos ⟨c1, c8⟩] at h; exact h
  · rw [if_neg fun q => c1 q.1, if_neg fun q => c2 q.1] at h; exact h
theorem c_letOut {n g : Nat} {T : St} {s : Rw} {Q : St → Prop} {x y : Int32} (hR : GateR n T s) (h8 : n ≤ 8) (hg : g < n) (hx : x = nI g) (h : Q (uA T 3 (upd (T 3) g (s (46 + 5 * g + 3) + y)))) : q_X1_letOut x y T Q := by
  subst hx
  unfold q_X1_letOut
  refine c_has hR h8 (fun _ _ _ => ⟨fun q => absurd q (by decide), fun _ => ⟨vp_in_nI (by omega) (by omega), ?_⟩⟩) (fun q => absurd rfl (q g hg))
  rw [nI_c _ (by omega), hR.2.2.2.2.1 g hg]
  exact h
theorem out_eq (r w : Int32) : (if w < r then w else r) = (if r ≤ w then r else w) := by
  by_cases c : r ≤ w
  · rw [if_pos c, if_neg (Int32.not_lt.mpr c)]
  · rw [if_neg c, if_pos (Int32.not_le.mp c)]
theorem sub_sub_I (a b : Int32) : a - (a - b) = b := by grind
theorem c_flows {d B n no nm : Nat} {D : St} {s : Rw} {Q : St → Prop} (hR : Rl D s) (hC : Core d B n no nm s) (hQ : ∀ D', Rl D' (t_flows s) → Q D') : q_X0_letWaterFlow D Q := by
  have hc := hC.1
  have h8 := hc.1
  have ho8 := hc.2.1
  have hm4 := hc.2.2.1
  have hN := hR n no nm hc
  unfold q_X0_letWaterFlow q_X0_head
  rw [hN.2.2.2.2.1.1, hN.2.2.2.2.1.2.1, hN.2.2.2.2.1.2.2.1]
  rw [t_flows, cn_of hc.2.2.2.1 (by omega)] at hQ
  generalize s 4 / 1000 + 1 = hd at hQ ⊢
  have hc0 : ∀ k, k ≤ n → Cn n no nm (t_fl hd k (upd (upd s 4 (s 4 + s 5)) 13 (s 13 + s 5))) := fun k hk => by
    refine hc.cong ?_ ?_ ?_
    · rw [t_fl_n (by decide) (by decide) k _ fun g _ => by omega]; rfl
    · rw [t_fl_n (by decide) (by decide) k _ fun g _ => by omega]; rfl
    · rw [t_fl_n (by decide) (by decide) k _ fun g _ => by omega]; rfl
  refine ⟨fun m x E => ∃ k : Nat, k ≤ n ∧ m = n - k ∧ x = nI k ∧ RlN n no nm E (t_fl hd k (upd (upd s 4 (s 4 + s 5)) 13 (s 13 + s 5))), n, ⟨0, Nat.zero_le _, rfl, rfl, ?_⟩, ?_⟩
  · show RlN n no nm _ (upd (upd s 4 (s 4 + s 5)) 13 (s 13 + s 5))
    obtain ⟨rg, ro, rm, rs, rn, r7, r8⟩ := hN
    have hj : ∀ j, j ≠ 4 → j ≠ 13 → s j = (upd (upd s 4 (s 4 + s 5)) 13 (s 13 + s 5)) j := fun j a b => by rw [upd_n (by omega), upd_n (by omega)]
    obtain ⟨n1, n2, n3, n4, n5, n6, n7, n8, n9, n10, n11, n12⟩ := rn
    exact ⟨rg.cong fun g w _ _ => hj _ (by omega) (by omega), ro.cong (fun k _ => hj _ (by omega) (by omega)) (fun k _ => hj _ (by omega) (by omega)), rm.cong (fun k _ => hj _ (by omega) (by omega)) (fun k _ => hj _ (by omega) (by omega)), rs, ⟨rfl, n2, rfl, n4, n5, n6, n7, n8, n9, n10, n11, n12⟩, r7, r8⟩
  rintro m x E ⟨k, hk, rfl, rfl, hE⟩
  have hck := hc0 k hk
  unfold q_X1_size
  rw [hE.1.1]
  have done : n ≤ k → (E 15 0 ≤ 9999 → Q E) ∧ (¬ (E 15 0 ≤ 9999) → Q (uA (uA E 19 (fun _ => (E 19 0 + (E 15 0 - 9999)))) 15 (fun _ => 9999))) := fun c => by
    have hkn : k = n := by omega
    subst hkn
    generalize t_fl hd k (upd (upd s 4 (s 4 + s 5)) 13 (s 13 + s 5)) = z at hE hck hQ
    obtain ⟨rg, ro, rm, rs, rn, r7, r8⟩ := hE
    obtain ⟨n1, n2, n3, n4, n5, n6, n7, n8, n9, n10, n11, n12⟩ := rn
    rw [n1, n5]
    have go : ∀ v w : Int32, v = t_over z 15 → w = t_over z 4 → Q (uA (uA E 19 (fun _ => v)) 15 (fun _ => w)) ∧ (E 19 0 = v → E 15 0 = w → Q E) := by
      intro v w hv hw
      have hj : ∀ j, j ≠ 4 → j ≠ 15 → z j = t_over z j := fun j a b => by unfold t_over; rw [upd_n a, upd_n b]
      have hz : Cn k no nm (t_over z) := hck.cong (hj 3 (by decide) (by decide)).symm (hj 10 (by decide) (by decide)).symm (hj 11 (by decide) (by decide)).symm
      refine ⟨hQ _ (Rl.of hz ⟨rg.cong fun g w _ _ => hj _ (by omega) (by omega), ro.cong (fun k _ => hj _ (by omega) (by omega)) (fun k _ => hj _ (by omega) (by omega)), rm.cong (fun k _ => hj _ (by omega) (by omega)) (fun k _ => hj _ (by omega) (by omega)), rs.cong fun j hj2 => hj _ (by omega) (by omega), ⟨hw, n2.trans (hj _ (by decide) (by decide)), n3.trans (hj _ (by decide) (by decide)), n4.trans (hj _ (by decide) (by decide)), hv, n6.trans (hj _ (by decide) (by decide)), n7.trans (hj _ (by decide) (by decide)), n8.trans (hj _ (by decide) (by decide)), n9.trans (hj _ (by decide) (by decide)), n10.trans (hj _ (by decide) (by decide)), n11.trans (hj _ (by decide) (by decide)), n12.trans (hj _ (by decide) (by decide))⟩, r7.trans (hj _ (by decide) (by decide)), fun q => (r8 q).trans (hj _ (by decide) (by decide))⟩), fun h1 h2 => ?_⟩
      exact hQ _ (Rl.of hz ⟨rg.cong fun g w _ _ => hj _ (by omega) (by omega), ro.cong (fun k _ => hj _ (by omega) (by omega)) (fun k _ => hj _ (by omega) (by omega)), rm.cong (fun k _ => hj _ (by omega) (by omega)) (fun k _ => hj _ (by omega) (by omega)), rs.cong fun j hj2 => hj _ (by omega) (by omega), ⟨h2.trans hw, n2.trans (hj _ (by decide) (by decide)), n3.trans (hj _ (by decide) (by decide)), n4.trans (hj _ (by decide) (by decide)), h1.trans hv, n6.trans (hj _ (by decide) (by decide)), n7.trans (hj _ (by decide) (by decide)), n8.trans (hj _ (by decide) (by decide)), n9.trans (hj _ (by decide) (by decide)), n10.trans (hj _ (by decide) (by decide)), n11.trans (hj _ (by decide) (by decide)), n12.trans (hj _ (by decide) (by decide))⟩, r7.trans (hj _ (by decide) (by decide)), fun q => (r8 q).trans (hj _ (by decide) (by decide))⟩)
    have o15 : t_over z 15 = z 15 + (if z 4 ≤ 9999 then 0 else z 4 - 9999) := by unfold t_over; rw [upd_n (by decide), upd_s]
    have o4 : t_over z 4 = z 4 - (if z 4 ≤ 9999 then 0 else z 4 - 9999) := by unfold t_over; rw [upd_s]
    refine ⟨fun c4 => ?_, fun c4 => ?_⟩
    · rw [if_pos c4] at o15 o4
      exact (go (z 15) (z 4) (by rw [o15, Int32.add_zero]) (by rw [o4, Int32.sub_zero])).2 n5 n1
    · rw [if_neg c4] at o15 o4
      exact (go _ _ o15.symm (by rw [o4, sub_sub_I])).1
  refine ⟨fun c => done ((nI_leI (by omega) (by omega)).mp c), fun c => ⟨fun c8 => done ?_, fun c8 => ?_⟩⟩
  · have := (nI_leI (a := 8) (by omega) (by omega)).mp c8
    omega
  have hkn : k < n := Nat.not_le.mp fun q => c (nI_le q (by omega))
  refine c_flow hE.1 h8 hkn rfl (c_letOut hE.1 h8 hkn rfl ⟨n - (k + 1), by omega, k + 1, hkn, rfl, nI_1 k, ?_⟩)
  rw [t_fl]
  generalize t_fl hd k (upd (upd s 4 (s 4 + s 5)) 13 (s 13 + s 5)) = z at hE hck
  obtain ⟨rg, ro, rm, rs, rn, r7, r8⟩ := hE
  obtain ⟨n1, n2, n3, n4, n5, n6, n7, n8, n9, n10, n11, n12⟩ := rn
  rw [n1, n4, out_eq]
  show RlN n no nm _ (t_pour z k (if t_rate z k hd ≤ z 4 then t_rate z k hd else z 4))
  generalize (if t_rate z k hd ≤ z 4 then t_rate z k hd else z 4) = o
  have hj : ∀ j, j ≠ 4 → j ≠ 14 → j ≠ 46 + 5 * k + 3 → z j = t_pour z k o j := fun j a b c => (t_pour_n a b c).symm
  have p4 : t_pour z k o 4 = z 4 - o := by unfold t_pour; rw [upd_n (by omega), upd_n (by decide), upd_s]
  have p14 : t_pour z k o 14 = z 14 + o := by unfold t_pour; rw [upd_n (by omega), upd_s]
  have p3 : t_pour z k o (46 + 5 * k + 3) = z (46 + 5 * k + 3) + o := by unfold t_pour; rw [upd_s]
  generalize t_pour z k o = z' at hj p4 p14 p3
  refine ⟨⟨rg.1, fun g2 h2 => (rg.2.1 g2 h2).trans (hj _ (by omega) (by omega) (by omega)), fun g2 h2 => (rg.2.2.1 g2 h2).trans (hj _ (by omega) (by omega) (by omega)), fun g2 h2 => (rg.2.2.2.1 g2 h2).trans (hj _ (by omega) (by omega) (by omega)), fun g2 h2 => ?_, fun g2 h2 => (rg.2.2.2.2.2 g2 h2).trans (hj _ (by omega) (by omega) (by omega))⟩, ro.cong (fun k _ => hj _ (by omega) (by omega) (by omega)) (fun k _ => hj _ (by omega) (by omega) (by omega)), rm.cong (fun k _ => hj _ (by omega) (by omega) (by omega)) (fun k _ => hj _ (by omega) (by omega) (by omega)), rs.cong fun j hj2 => hj _ (by omega) (by omega) (by omega), ⟨p4.symm, n2.trans (hj _ (by omega) (by omega) (by omega)), n3.trans (hj _ (by omega) (by omega) (by omega)), p14.symm, n5.trans (hj _ (by omega) (by omega) (by omega)), n6.trans (hj _ (by omega) (by omega) (by omega)), n7.trans (hj _ (by omega) (by omega) (by omega)), n8.trans (hj _ (by omega) (by omega) (by omega)), n9.trans (hj _ (by omega) (by omega) (by omega)), n10.trans (hj _ (by omega) (by omega) (by omega)), n11.trans (hj _ (by omega) (by omega) (by omega)), n12.trans (hj _ (by omega) (by omega) (by omega))⟩, r7.trans (hj _ (by omega) (by omega) (by omega)), fun q => ?_⟩
  · show upd (E 3) k (z (46 + 5 * k + 3) + o) g2 = _
    by_cases e : g2 = k
    · subst e; rw [upd_s, p3]
    · rw [upd_n e]
      exact (rg.2.2.2.2.1 g2 h2).trans (hj _ (by omega) (by omega) (by omega))
  · rw [← hj 7 (by omega) (by omega) (by omega)] at q
    exact (r8 q).trans (hj _ (by omega) (by omega) (by omega))
theorem t_min_def (s : Rw) : t_min s = upd (t_flows (if t_take (t_floods s) 7 < 0 then t_take (t_floods s) else t_works (t_take (t_floods s)))) 12 (t_flows (if t_take (t_floods s) 7 < 0 then t_take (t_floods s) else t_works (t_take (t_floods s))) 12 + 1) := rfl
theorem c_letPass {B : Nat} {D : St} {s : Rw} {Q : St → Prop} {x : Int32} (k : Nat) (hk : k < 1000000) (hx : x = nI k) (hR : Rl D s) (hI : Iv B s) (hQ : ∀ D', Rl D' (t_mins k s) → Q D') : q_X0_letPass x D Q := by
  subst hx
  unfold q_X0_letPass
  refine ⟨fun m x E => ∃ i : Nat, i ≤ k ∧ m = k - i ∧ x = nI i ∧ Rl E (t_mins i s), k, ⟨0, Nat.zero_le _, rfl, rfl, hR⟩, ?_⟩
  rintro m x E ⟨i, hi, rfl, rfl, hE⟩
  refine ⟨fun c => hQ E ?_, fun c => ?_⟩
  · have := (nI_leI (by omega) (by omega)).mp c
    rw [show k = i by omega]; exact hE
  have hik : i < k := Nat.not_le.mp fun q => c (nI_le q (by omega))
  obtain ⟨n, no, nm, hC, ho⟩ := iv_mins hI i
  obtain ⟨nm1, h1, o1⟩ := core_floods hC ho
  obtain ⟨no2, nm2, h2, o2⟩ := core_take h1 o1
  refine c_floods hE hC fun D1 r1 => c_takeTask r1 h1 o1 fun D2 r2 => c_work r2 h2 o2 fun D3 r3 => ?_
  have h3 : Core 1 (B + i) n no2 nm2 (if t_take (t_floods (t_mins i s)) 7 < 0 then t_take (t_floods (t_mins i s)) else t_works (t_take (t_floods (t_mins i s)))) ∧ Opn (if t_take (t_floods (t_mins i s)) 7 < 0 then t_take (t_floods (t_mins i s)) else t_works (t_take (t_floods (t_mins i s)))) := by
    split
    · exact ⟨h2, o2⟩
    · rename_i c
      exact core_works h2 o2 c
  refine c_flows r3 h3.1 fun D4 r4 => ⟨k - (i + 1), by omega, i + 1, hik, rfl, nI_1 i, ?_⟩
  rw [t_mins, t_min_def]
  have h4 := (core_flows h3.1 h3.2).1
  generalize t_flows (if t_take (t_floods (t_mins i s)) 7 < 0 then t_take (t_floods (t_mins i s)) else t_works (t_take (t_floods (t_mins i s)))) = z at r4 h4
  obtain ⟨rg, ro, rm, rs, rn, r7, r8⟩ := r4 n no2 nm2 h4.1
  obtain ⟨n1, n2, n3, n4, n5, n6, n7, n8, n9, n10, n11, n12⟩ := rn
  have hj : ∀ j, j ≠ 12 → z j = (upd z 12 (z 12 + 1)) j := fun j a => (upd_n a).symm
  refine Rl.of (h4.1.cong rfl rfl rfl) ⟨rg.cong fun g w _ _ => hj _ (by omega), ro.cong (fun k _ => hj _ (by omega)) (fun k _ => hj _ (by omega)), rm.cong (fun k _ => hj _ (by omega)) (fun k _ => hj _ (by omega)), rs, ⟨n1, n2, n3, n4, n5, ?_, n7, n8, n9, n10, n11, n12⟩, r7, r8⟩
  show D4 20 0 + 1 = z 12 + 1
  rw [n6]
