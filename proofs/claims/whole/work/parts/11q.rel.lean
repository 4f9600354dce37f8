/-! The relation of class and reference; the changes keep it. -/
def Tx (C M : St) : Prop := ∃ t, t ≤ 60 ∧ C 1 0 = nI t ∧ M 7 0 = nI t ∧ ∀ k, k < t → C 0 k = M 6 k ∧ ∃ c, 32 ≤ c ∧ c ≤ 126 ∧ M 6 k = nI c
def Hs (p : Nat) (X : Nat → St) (P : Rw) : Prop := ∀ i, i < p → Rl (X (3 + i)) (fun k => P (86 * i + k)) ∧ Iv 50000 (fun k => P (86 * i + k))
def Jr (X : Nat → St) (M : St) : Prop := M 5 0 = 0 ∧ Rl (X 1) (M 0) ∧ Iv 50000 (M 0) ∧ (∀ i, 1 ≤ i → i ≤ 7 → Mo (X i)) ∧ (∃ p, p ≤ 4 ∧ X 8 0 0 = nI p ∧ M 4 0 = nI p ∧ Hs p X (M 1)) ∧ Tx (X 0) M
theorem Iv.mo {B : Nat} {D : St} {s : Rw} (h : Iv B s) (hR : Rl D s) : Mo D := by
  obtain ⟨n, no, nm, hC, -⟩ := h
  exact hR.mo hC.1
theorem c_prepare {p B : Nat} {X : Nat → St} {Q : (Nat → St) → Prop} {s : Rw} (hp : p ≤ 4) (h8 : X 8 0 0 = nI p) (hR : Rl (X 1) s) (hI : Iv B s) (hM : Mo (X (3 + p))) (h : ∀ X', (∀ j, j ≠ 3 + p → X' j = X j) → Rl (X' (3 + p)) s → Q X') : q_X2_prepare X Q := by
  obtain ⟨n, no, nm, hC, ho⟩ := hI
  unfold q_X2_prepare
  have go : ∀ i, i = 3 + p → q_X0_copyFrom (X i) (X 1) (fun u => Q (uX X i u)) := by
    rintro i rfl
    exact c_copy hR hC hM fun D' h' => h _ (fun j hj => uX_n hj) (by rw [uX_s]; exact h')
  rcases (show p = 0 ∨ p = 1 ∨ p = 2 ∨ p = 3 ∨ p = 4 by omega) with rfl | rfl | rfl | rfl | rfl
  · exact Or.inl ⟨h8, go 3 rfl⟩
  · exact Or.inr (Or.inl ⟨h8, go 4 rfl⟩)
  · exact Or.inr (Or.inr (Or.inl ⟨h8, go 5 rfl⟩))
  · exact Or.inr (Or.inr (Or.inr (Or.inl ⟨h8, go 6 rfl⟩)))
  · exact Or.inr (Or.inr (Or.inr (Or.inr ⟨h8, go 7 rfl⟩)))
theorem c_keep {p : Nat} {Y : Nat → St} {Q : (Nat → St) → Prop} (hp : p ≤ 4) (h8 : Y 8 0 0 = nI p) (h : ∀ X'', (p < 4 → X'' = uX Y 8 (uA (Y 8) 0 (fun _ => nI (p + 1)))) → (p = 4 → X'' = mvX Y) → Q X'') : q_X2_keepPrepared Y Q := by
  unfold q_X2_keepPrepared
  rw [h8, nI_1]
  refine ⟨fun c => h _ (fun q => ?_) (fun _ => rfl), fun c => h _ (fun _ => rfl) (fun q => ?_)⟩
  · have := (nI_leI (a := 4) (by omega) (by omega)).mp c
    omega
  · exact absurd (nI_le (a := 4) (by omega) (by omega)) c
theorem j_fail {X X' : Nat → St} {M D : St} {p : Nat} (hJ : Jr X M) (hp : p ≤ 4) (h8 : X 8 0 0 = nI p) (hX : ∀ j, j ≠ 3 + p → X' j = X j) (hR : Rl (X' (3 + p)) (M 0)) (hD : D = X 1) : Jr (uX X' 1 D) M := by
  obtain ⟨j5, jR, jI, jM, ⟨p', hp', j8, j4, jH⟩, jT⟩ := hJ
  have e : p' = p := (nI_eq (by omega) (by omega)).mp (j8.symm.trans h8)
  subst e
  subst hD
  refine ⟨j5, by rw [uX_s]; exact jR, jI, fun i h1 h7 => ?_, ⟨p', hp', ?_, j4, fun i hi => ?_⟩, ?_⟩
  · by_cases e : i = 1
    · rw [e, uX_s]; exact jM 1 (by decide) (by decide)
    · rw [uX_n e]
      by_cases e2 : i = 3 + p'
      · rw [e2]; exact jI.mo hR
      · rw [hX i e2]; exact jM i h1 h7
  · rw [uX_n (by decide), hX 8 (by omega)]; exact j8
  · rw [uX_n (by omega), hX _ (by omega)]
    exact jH i hi
  · rw [uX_n (by decide), hX 0 (by omega)]; exact jT
theorem j_ok {X X' X2 : Nat → St} {M D u : St} {S : Rw} {p : Nat} (hJ : Jr X M) (hp : p ≤ 4) (h8 : X 8 0 0 = nI p) (hX : ∀ j, j ≠ 3 + p → X' j = X j) (hR : Rl (X' (3 + p)) (M 0)) (hD : Rl D S) (hS : Iv 50000 S)
    (hk : p < 4 → X2 = uX (uX X' 1 D) 8 (uA ((uX X' 1 D) 8) 0 (fun _ => nI (p + 1)))) (hk4 : p = 4 → X2 = mvX (uX X' 1 D)) (hu : u 0 = M 0) (hP : Psh p M u) : Jr X2 (uA u 0 S) := by
  obtain ⟨j5, jR, jI, jM, ⟨p', hp', j8, j4, jH⟩, ⟨t, ht, t1, t2, t3⟩⟩ := hJ
  have e : p' = p := (nI_eq (by omega) (by omega)).mp (j8.symm.trans h8)
  subst e
  obtain ⟨u1, u2, u3⟩ := hP
  have m5 : (uA u 0 S) 5 0 = 0 := by
    show u 5 0 = 0
    rw [u1 5 (by decide) (by decide)]; exact j5
  have m6 : (uA u 0 S) 6 = M 6 := u1 6 (by decide) (by decide)
  have m7 : (uA u 0 S) 7 = M 7 := u1 7 (by decide) (by decide)
  have mo : ∀ i, 1 ≤ i → i ≤ 7 → Mo ((uX X' 1 D) i) := fun i h1 h7 => by
    by_cases e : i = 1
    · rw [e, uX_s]; exact hS.mo hD
    · rw [uX_n e]
      by_cases e2 : i = 3 + p'
      · rw [e2]; exact jI.mo hR
      · rw [hX i e2]; exact jM i h1 h7
  have y0 : (uX X' 1 D) 0 = X 0 := by rw [uX_n (by decide), hX 0 (by omega)]
  have tx : ∀ C, C = X 0 → Tx C (uA u 0 S) := fun C e => by
    rw [e]
    refine ⟨t, ht, t1, by rw [m7]; exact t2, fun k hk => ?_⟩
    rw [m6]; exact t3 k hk
  have y1 : (uX X' 1 D) 1 = D := uX_s _ _ _
  have y3 : (uX X' 1 D) (3 + p') = X' (3 + p') := uX_n (by omega)
  have yi : ∀ j, j ≠ 1 → j ≠ 3 + p' → (uX X' 1 D) j = X j := fun j z1 z2 => by rw [uX_n z1, hX j z2]
  generalize uX X' 1 D = Y at hk hk4 mo y0 y1 y3 yi
  rcases Nat.lt_or_ge p' 4 with hlt | hge
  · obtain ⟨u4, ub, un⟩ := u2 hlt
    have hk := hk hlt
    subst hk
    refine ⟨m5, ?_, by rw [uA_s]; exact hS, fun i h1 h7 => ?_, ⟨p' + 1, hlt, rfl, u4, fun i hi => ?_⟩, tx _ ((uX_n (by decide)).trans y0)⟩
    · rw [uX_n (by decide), y1, uA_s]; exact hD
    · rw [uX_n (by omega)]; exact mo i h1 h7
    · rw [uX_n (by omega)]
      show Rl (Y (3 + i)) (fun k => u 1 (86 * i + k)) ∧ Iv 50000 (fun k => u 1 (86 * i + k))
      by_cases e : i = p'
      · subst e
        rw [y3]
        exact ⟨hR.ag un, jI.ag un⟩
      · rw [yi _ (by omega) (by omega)]
        have := jH i (by omega)
        exact ⟨this.1.ag fun k hk => ub i k (by omega) hk, this.2.ag fun k hk => ub i k (by omega) hk⟩
  · have e : p' = 4 := by omega
    subst e
    obtain ⟨u4, ub, un⟩ := u3 rfl
    have hk := hk4 rfl
    subst hk
    refine ⟨m5, ?_, by rw [uA_s]; exact hS, fun i h1 h7 => ?_, ⟨4, Nat.le_refl _, ?_, u4, fun i hi => ?_⟩, tx _ y0⟩
    · rw [uA_s]
      show Rl (Y 1) S
      rw [y1]; exact hD
    · rcases (show i = 1 ∨ i = 2 ∨ i = 3 ∨ i = 4 ∨ i = 5 ∨ i = 6 ∨ i = 7 by omega) with rfl | rfl | rfl | rfl | rfl | rfl | rfl
      · exact mo 1 (by decide) (by decide)
      · exact mo 2 (by decide) (by decide)
      · exact mo 4 (by decide) (by decide)
      · exact mo 5 (by decide) (by decide)
      · exact mo 6 (by decide) (by decide)
      · exact mo 7 (by decide) (by decide)
      · exact mo 3 (by decide) (by decide)
    · show Y 8 0 0 = nI 4
      rw [yi 8 (by decide) (by decide)]; exact j8
    · show Rl ((mvX Y) (3 + i)) (fun k => u 1 (86 * i + k)) ∧ Iv 50000 (fun k => u 1 (86 * i + k))
      by_cases e : i = 3
      · subst e
        show Rl (Y 7) _ ∧ _
        have y3 : Y 7 = X' 7 := y3
        rw [y3]
        exact ⟨Rl.ag (s := M 0) hR un, jI.ag un⟩
      · have em : (mvX Y) (3 + i) = X (3 + (i + 1)) := by
          rcases (show i = 0 ∨ i = 1 ∨ i = 2 by omega) with rfl | rfl | rfl
          · exact yi 4 (by decide) (by decide)
          · exact yi 5 (by decide) (by decide)
          · exact yi 6 (by decide) (by decide)
        rw [em]
        have := jH (i + 1) (by omega)
        exact ⟨this.1.ag fun k hk => ub i k (by omega) hk, this.2.ag fun k hk => ub i k (by omega) hk⟩
theorem j_op {X : Nat → St} {M : St} {a : Int32} {S : Rw} {CLS : St → (Int32 → St → Prop) → Prop} {REF : (Int32 → St → Prop) → Prop} (hJ : Jr X M)
    (hcls : ∀ Q : Int32 → St → Prop, (a < 0 → Q a (X 1)) → (¬ a < 0 → ∀ D', Rl D' S → Q a D') → CLS (X 1) Q)
    (href : ∀ (P : St → Prop) (Q : Int32 → St → Prop), Chg M P → (a < 0 → Q a M) → (¬ a < 0 → ∀ u, u 0 = M 0 → P u → Q a (uA u 0 S)) → REF Q)
    (hS : ¬ a < 0 → Iv 50000 S) :
    q_X2_prepare X (fun u_1 => CLS (u_1 1) (fun r_2 u_3 => q_X5_kept r_2 (uX u_1 1 u_3) (fun r_4 u_5 => REF (fun r1 M1 => r_4 = r1 ∧ Jr u_5 M1)))) := by
  obtain ⟨j5, jR, jI, jM, ⟨p, hp, j8, j4, jH⟩, jT⟩ := id hJ
  refine c_prepare hp j8 jR jI (jM _ (by omega) (by omega)) fun X' hX hR => ?_
  have e1 : X' 1 = X 1 := hX 1 (by omega)
  rw [e1]
  refine hcls _ (fun ha => ?_) (fun ha D' hD' => ?_)
  · unfold q_X5_kept q_X5_isError
    exact ⟨fun c => absurd ha (Int32.not_lt.mpr c), fun _ => ⟨fun q => absurd q (by decide), fun _ => href _ _ (chg_push j5 hp j4) (fun _ => ⟨rfl, j_fail hJ hp j8 hX hR rfl⟩) (fun q => absurd ha q)⟩⟩
  · unfold q_X5_kept q_X5_isError
    refine ⟨fun _ => ⟨fun _ => c_keep hp (by rw [uX_n (by decide), hX 8 (by omega)]; exact j8) fun X2 h1 h2 => href _ _ (chg_push j5 hp j4) (fun q => absurd q ha) (fun _ u hu hP => ⟨rfl, j_ok hJ hp j8 hX hR hD' (hS ha) h1 h2 hu hP⟩), fun q => absurd rfl q⟩, fun c => absurd (Int32.not_lt.mp ha) c⟩
/-! the seven changes -/
theorem s_gate {X : Nat → St} {M : St} {x y : Int32} (hJ : Jr X M) : q_X5_gate x y X (fun r X1 => q_X6_gate x y M (fun r1 M1 => r = r1 ∧ Jr X1 M1)) := by
  obtain ⟨-, jR, ⟨n, no, nm, hC, ho⟩, -⟩ := id hJ
  unfold q_X5_gate
  exact j_op (CLS := fun D Q => q_X0_addGate x y D Q) (REF := fun Q => q_X6_gate x y M Q) hJ (fun Q h1 h2 => c_addGate jR hC h1 h2) (fun P Q hch h1 h2 => v_gate hch hC.1.2.2.2.1 hC.1.1 h1 h2) (fun ha => ⟨n + 1, no, nm, (core_gate hC ha).1, (core_gate hC ha).2 ho⟩)
theorem s_order {X : Nat → St} {M : St} {x y : Int32} (hJ : Jr X M) : q_X5_order x y X (fun r X1 => q_X6_order x y M (fun r1 M1 => r = r1 ∧ Jr X1 M1)) := by
  obtain ⟨-, jR, ⟨n, no, nm, hC, ho⟩, -⟩ := id hJ
  unfold q_X5_order
  refine j_op (CLS := fun D Q => q_X0_giveOrder x y D Q) (REF := fun Q => q_X6_order x y M Q) hJ (fun Q h1 h2 => c_giveOrder jR hC h1 h2) (fun P Q hch h1 h2 => v_order hch hC h1 h2) (fun ha => ?_)
  obtain ⟨hx, hy, -⟩ := order_ok hC ha
  obtain ⟨no', nm', h1, h2⟩ := core_order hC hx hy
  exact ⟨n, no', nm', h1, h2 ho⟩
theorem s_cancel {X : Nat → St} {M : St} {x : Int32} (hJ : Jr X M) : q_X5_cancel x X (fun r X1 => q_X6_cancel x M (fun r1 M1 => r = r1 ∧ Jr X1 M1)) := by
  obtain ⟨-, jR, ⟨n, no, nm, hC, ho⟩, -⟩ := id hJ
  unfold q_X5_cancel
  exact j_op (CLS := fun D Q => q_X0_cancelOrder x D Q) (REF := fun Q => q_X6_cancel x M Q) hJ (fun Q h1 h2 => c_cancelOrder jR hC h1 h2) (fun P Q hch h1 h2 => v_cancel hch hC h1 h2) (fun ha => ⟨n, no - 1, nm, (core_cancel hC ha).1, (core_cancel hC ha).2 ho⟩)
theorem inflow_ok {s : Rw} {x : Int32} (ha : ¬ a_inflow s x < 0) : 0 ≤ x ∧ x ≤ 300 := by
  unfold a_inflow at ha
  by_cases c : 0 ≤ x ∧ x ≤ 300
  · exact c
  · rw [if_neg c] at ha
    exact absurd (by decide) ha
theorem fill_ok {s : Rw} {x : Int32} (ha : ¬ a_fill s x < 0) : 0 ≤ x ∧ x ≤ 9999 := by
  unfold a_fill at ha
  by_cases c : 0 ≤ x ∧ x ≤ 9999
  · exact c
  · rw [if_neg c] at ha
    exact absurd (by decide) ha
theorem set_ok {s : Rw} {x y : Int32} (ha : ¬ a_set s x y < 0) : ((x = 0 ∨ x = 1) ∧ (1 ≤ y ∧ y ≤ 9999)) ∨ (x = 2 ∧ (0 ≤ y ∧ y ≤ 2)) := by
  unfold a_set at ha
  by_cases c : ((x = 0 ∨ x = 1) ∧ (1 ≤ y ∧ y ≤ 9999)) ∨ (x = 2 ∧ (0 ≤ y ∧ y ≤ 2))
  · exact c
  · rw [if_neg c] at ha
    exact absurd (by decide) ha
theorem iv_inflow {B : Nat} {s : Rw} {x : Int32} (h : Iv B s) (ha : ¬ a_inflow s x < 0) : Iv B (upd s 5 x) := by
  obtain ⟨n, no, nm, hC, ho⟩ := h
  have := core_num (p := 5) hC (by omega) (nums_inflow hC.2.2.2.2.1 (inflow_ok ha))
  exact ⟨n, no, nm, this.1, this.2 ho⟩
theorem s_inflow {X : Nat → St} {M : St} {x : Int32} (hJ : Jr X M) : q_X5_inflow x X (fun r X1 => q_X6_inflow x M (fun r1 M1 => r = r1 ∧ Jr X1 M1)) := by
  obtain ⟨-, jR, jI, -⟩ := id hJ
  obtain ⟨n, no, nm, hC, ho⟩ := id jI
  have hp := num_pos hC.2.2.2.2.1
  unfold q_X5_inflow
  exact j_op (CLS := fun D Q => q_X0_changeInflow x D Q) (REF := fun Q => q_X6_inflow x M Q) hJ (fun Q h1 h2 => c_inflow jR hC.1 hp.2.2 h1 h2) (fun P Q hch h1 h2 => v_inflow hch hp.2.2 h1 h2) (fun ha => iv_inflow jI ha)
theorem s_fill {X : Nat → St} {M : St} {x : Int32} (hJ : Jr X M) : q_X5_fill x X (fun r X1 => q_X6_fill x M (fun r1 M1 => r = r1 ∧ Jr X1 M1)) := by
  obtain ⟨-, jR, jI, -⟩ := id hJ
  obtain ⟨n, no, nm, hC, ho⟩ := id jI
  have hp := num_pos hC.2.2.2.2.1
  unfold q_X5_fill
  refine j_op (CLS := fun D Q => q_X0_changeWater x D Q) (REF := fun Q => q_X6_fill x M Q) hJ (fun Q h1 h2 => c_fill jR hC.1 hp.2.1 h1 h2) (fun P Q hch h1 h2 => v_fill hch hp.2.1 h1 h2) (fun ha => ?_)
  have := core_num (p := 4) hC (by omega) (nums_fill hC.2.2.2.2.1 (fill_ok ha))
  exact ⟨n, no, nm, this.1, this.2 ho⟩
theorem s_set {X : Nat → St} {M : St} {x y : Int32} (hJ : Jr X M) : q_X5_set x y X (fun r X1 => q_X6_set x y M (fun r1 M1 => r = r1 ∧ Jr X1 M1)) := by
  obtain ⟨-, jR, jI, -⟩ := id hJ
  obtain ⟨n, no, nm, hC, ho⟩ := id jI
  have hp := num_pos hC.2.2.2.2.1
  unfold q_X5_set
  refine j_op (CLS := fun D Q => q_X0_changeSetting x y D Q) (REF := fun Q => q_X6_set x y M Q) hJ (fun Q h1 h2 => c_set jR hC.1 hp.1 h1 h2) (fun P Q hch h1 h2 => v_set hch hp.1 h1 h2) (fun ha => ?_)
  have hok := set_ok ha
  have := core_num (p := x.toNatClampNeg) hC (by rcases hok with ⟨rfl | rfl, -⟩ | ⟨rfl, -⟩ <;> decide) (nums_set hC.2.2.2.2.1 hok)
  exact ⟨n, no, nm, this.1, this.2 ho⟩
theorem s_pass {X : Nat → St} {M : St} {x : Int32} (hJ : Jr X M) : q_X5_pass x X (fun r X1 => q_X6_pass x M (fun r1 M1 => r = r1 ∧ Jr X1 M1)) := by
  obtain ⟨-, jR, jI, -, ⟨p, hp, j8, j4, -⟩, -⟩ := id hJ
  have j5 := hJ.1
  obtain ⟨n, no, nm, hC, ho⟩ := id jI
  unfold q_X5_pass
  refine c_refusal jR hC.1 ?_
  unfold q_X5_isError
  refine ⟨fun c => ⟨fun _ => ?_, fun q => absurd rfl q⟩, fun c => ⟨fun q => absurd q (by decide), fun _ => ?_⟩⟩
  · have ha : ¬ a_ref (M 0) x < 0 := Int32.not_lt.mpr c
    obtain ⟨⟨k, hk, ek⟩, h12, -⟩ := ref_ok ha
    have ex : x.toNatClampNeg = k := by rw [ek]; exact nI_c _ (by omega)
    have hI2 := iv_pass jI ek hk h12
    obtain ⟨w, hw, ew⟩ := iv_water hI2
    have hw0 : ¬ t_mins k (M 0) 4 < 0 := by rw [ew]; exact nI_pos (by omega)
    refine j_op (a := t_mins k (M 0) 4) (S := t_mins k (M 0)) (CLS := fun D Q => q_X0_letPass x D (fun u_5 => q_X0_water u_5 (fun r_6 => Q r_6 u_5))) (REF := fun Q => q_X6_pass x M Q) hJ (fun Q h1 h2 => ?_) (fun P Q hch h1 h2 => ?_) (fun _ => hI2)
    · refine c_letPass k (by omega) ek jR jI fun D' hD' => ?_
      unfold q_X0_water
      obtain ⟨n2, no2, nm2, hC2, -⟩ := hI2
      rw [(hD' n2 no2 nm2 hC2.1).2.2.2.2.1.1]
      exact h2 hw0 D' hD'
    · refine v_pass hch jI (fun q => absurd q ha) (fun _ u hu hP => ?_)
      rw [ex]
      exact h2 hw0 u hu hP
  · have ha : a_ref (M 0) x < 0 := Int32.not_le.mp c
    exact v_pass (chg_push j5 hp j4) jI (fun _ => ⟨rfl, hJ⟩) (fun q => absurd ha q)
