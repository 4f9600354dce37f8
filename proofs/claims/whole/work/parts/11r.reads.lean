/-! What is read. -/
def a_told (o : Nat → Int32) : Option Nat → Int32
  | none => -1000004
  | some k => o k
def a_gateOf (s : Rw) (x y : Int32) : Int32 := if isG s x then (if y = 0 then s (46 + 5 * x.toNatClampNeg + 0) else if y = 1 then s (46 + 5 * x.toNatClampNeg + 1) else if y = 2 then s (46 + 5 * x.toNatClampNeg + 2) else if y = 3 then t_rate s x.toNatClampNeg (s 4 / 1000 + 1) else if y = 4 then s (46 + 5 * x.toNatClampNeg + 3) else if y = 5 then a_told (oO s) (ixO (oG s) x (cn s 10)) else if y = 6 then a_told (mO s) (ixO (mG s) x (cn s 11)) else if y = 7 then s (46 + 5 * x.toNatClampNeg + 4) else -1000001) else -1000001
theorem c_width {n g : Nat} {T : St} {s : Rw} {Q : Int32 → Prop} {x : Int32} (hR : GateR n T s) (h8 : n ≤ 8) (hg : g < n) (hx : x = nI g) (h : Q (s (46 + 5 * g + 1))) : q_X1_width x T Q := by
  subst hx
  unfold q_X1_width
  refine c_has hR h8 (fun _ _ _ => ⟨fun q => absurd q (by decide), fun _ => ⟨vp_in_nI (by omega) (by omega), ?_⟩⟩) (fun q => absurd rfl (q g hg))
  rw [nI_c _ (by omega), hR.2.2.1 g hg]
  exact h
theorem c_waterOut {n g : Nat} {T : St} {s : Rw} {Q : Int32 → Prop} {x : Int32} (hR : GateR n T s) (h8 : n ≤ 8) (hg : g < n) (hx : x = nI g) (h : Q (s (46 + 5 * g + 3))) : q_X1_waterOut x T Q := by
  subst hx
  unfold q_X1_waterOut
  refine c_has hR h8 (fun _ _ _ => ⟨fun q => absurd q (by decide), fun _ => ⟨vp_in_nI (by omega) (by omega), ?_⟩⟩) (fun q => absurd rfl (q g hg))
  rw [nI_c _ (by omega), hR.2.2.2.2.1 g hg]
  exact h
theorem c_movesOf {n g : Nat} {T : St} {s : Rw} {Q : Int32 → Prop} {x : Int32} (hR : GateR n T s) (h8 : n ≤ 8) (hg : g < n) (hx : x = nI g) (h : Q (s (46 + 5 * g + 4))) : q_X1_moves x T Q := by
  subst hx
  unfold q_X1_moves
  refine c_has hR h8 (fun _ _ _ => ⟨fun q => absurd q (by decide), fun _ => ⟨vp_in_nI (by omega) (by omega), ?_⟩⟩) (fun q => absurd rfl (q g hg))
  rw [nI_c _ (by omega), hR.2.2.2.2.2 g hg]
  exact h
theorem ixM_ne {k : Nat} (h : k < 2147483648) : ¬ ixM (some k) = -1 := fun e => by
  have := nI_pos (n := k) h
  have e : nI k = -1 := e
  rw [e] at this
  exact this (by decide)
theorem c_told {T : St} {Q : Int32 → Prop} {x : Int32} {n mo m : Nat} {g o : Nat → Int32} (hT : TaskR T mo m g o) (hR : RowOk n m g o) (h8 : m ≤ 8) (h : Q (a_told o (ixO g x m))) : q_X4_indexOf x T (fun r_1 => (r_1 = (-1) → Q (-1000004)) ∧ (¬ (r_1 = (-1)) → q_X4_openingAt r_1 T (fun r_3 => Q r_3))) := by
  refine c_index hT hR h8 ?_
  cases hi : ixO g x m with
  | none =>
    rw [hi] at h
    exact ⟨fun _ => h, fun q => absurd rfl q⟩
  | some k =>
    rw [hi] at h
    obtain ⟨hk, -⟩ := ixO_some hi
    exact ⟨fun q => absurd q (ixM_ne (by omega)), fun _ => c_openingAt hT h8 hk rfl h⟩
theorem c_ofGate {d B n no nm : Nat} {D : St} {s : Rw} {Q : Int32 → Prop} {x y : Int32} (hR : Rl D s) (hC : Core d B n no nm s) (h : Q (a_gateOf s x y)) : q_X0_ofGate x y D Q := by
  have hc := hC.1
  have a1 := hc.1
  have a4 : s 3 = nI n := hc.2.2.2.1
  have a5 : s 10 = nI no := hc.2.2.2.2.1
  have a6 : s 11 = nI nm := hc.2.2.2.2.2
  have ho8 := hc.2.1
  have hm4 := hc.2.2.1
  obtain ⟨rg, ro, rm, rs, rn, r7, r8⟩ := hR n no nm hc
  unfold q_X0_ofGate
  refine c_has rg a1 (fun g hg eg => ⟨fun q => absurd q (by decide), fun _ => ?_⟩) (fun hne => ⟨fun _ => ?_, fun q => absurd rfl q⟩)
  · have hG : isG s x := (isG_of a4 a1).mpr ⟨g, hg, eg⟩
    have ex : x.toNatClampNeg = g := by rw [eg]; exact nI_c _ (by omega)
    rw [a_gateOf, if_pos hG, ex, cn_of a5 (by omega), cn_of a6 (by omega)] at h
    refine ⟨fun e => ?_, fun e0 => ⟨fun e => ?_, fun e1 => ⟨fun e => ?_, fun e2 => ⟨fun e => ?_, fun e3 => ⟨fun e => ?_, fun e4 => ⟨fun e => ?_, fun e5 => ⟨fun e => ?_, fun e6 => ⟨fun e => ?_, fun e7 => ?_⟩⟩⟩⟩⟩⟩⟩⟩
    · rw [if_pos e] at h
      exact c_kind rg a1 hg eg h
    · rw [if_neg e0, if_pos e] at h
      exact c_width rg a1 hg eg h
    · rw [if_neg e0, if_neg e1, if_pos e] at h
      exact c_opening rg a1 hg eg h
    · rw [if_neg e0, if_neg e1, if_neg e2, if_pos e] at h
      unfold q_X0_head
      rw [rn.1]
      exact c_flow rg a1 hg eg h
    · rw [if_neg e0, if_neg e1, if_neg e2, if_neg e3, if_pos e] at h
      exact c_waterOut rg a1 hg eg h
    · rw [if_neg e0, if_neg e1, if_neg e2, if_neg e3, if_neg e4, if_pos e] at h
      exact c_told (T := fun i => D (6 + i)) ro hC.2.1.1 ho8 h
    · rw [if_neg e0, if_neg e1, if_neg e2, if_neg e3, if_neg e4, if_neg e5, if_pos e] at h
      exact c_told (T := fun i => D (10 + i)) rm hC.2.1.2 (by omega) h
    · rw [if_neg e0, if_neg e1, if_neg e2, if_neg e3, if_neg e4, if_neg e5, if_neg e6, if_pos e] at h
      exact c_movesOf rg a1 hg eg h
    · rw [if_neg e0, if_neg e1, if_neg e2, if_neg e3, if_neg e4, if_neg e5, if_neg e6, if_neg e7] at h
      exact h
  · rw [a_gateOf, if_neg fun q => by obtain ⟨g, hg, e⟩ := (isG_of a4 a1).mp q; exact hne g hg e] at h
    exact h
theorem v_told {M : St} {Q : Int32 → Prop} {x : Int32} {no : Nat} (hn : M 0 10 = nI no) (h8 : no ≤ 8) (h : Q (a_told (oO (M 0)) (ixO (oG (M 0)) x no))) : q_X6_orderOf x M (fun r_17 => (0 ≤ r_17 → q_X6_orderOf x M (fun r_19 => vp_in ((20 + (2 * r_19)) + 1) 86 ∧ (Q ((M 0) ((((20 + (2 * r_19)) + 1)).toNatClampNeg))))) ∧ (¬ (0 ≤ r_17) → Q (-1000004))) := by
  refine v_orderOf hn h8 ?_
  have e : (fun k => M 0 (20 + 2 * k)) = oG (M 0) := rfl
  rw [e]
  cases hi : ixO (oG (M 0)) x no with
  | none =>
    rw [hi] at h
    exact ⟨fun q => absurd q (by decide), fun _ => h⟩
  | some k =>
    rw [hi] at h
    obtain ⟨hk, -⟩ := ixO_some hi
    refine ⟨fun _ => v_orderOf hn h8 ?_, fun q => absurd (nI_pos' (by omega)) q⟩
    rw [e, hi, show ixR (some k) = nI k from rfl, show (20 : Int32) = nI 20 from rfl, ix_row1]
    refine ⟨vp_in_nI (by omega) (by omega), ?_⟩
    rw [nI_c _ (by omega)]
    exact h
theorem v_toldM {M : St} {Q : Int32 → Prop} {x : Int32} {nm : Nat} (hn : M 0 11 = nI nm) (h4 : nm ≤ 4) (h : Q (a_told (mO (M 0)) (ixO (mG (M 0)) x nm))) : q_X6_markOf x M (fun r_22 => (0 ≤ r_22 → q_X6_markOf x M (fun r_24 => vp_in ((36 + (2 * r_24)) + 1) 86 ∧ (Q ((M 0) ((((36 + (2 * r_24)) + 1)).toNatClampNeg))))) ∧ (¬ (0 ≤ r_22) → Q (-1000004))) := by
  refine v_markOf hn h4 ?_
  have e : (fun k => M 0 (36 + 2 * k)) = mG (M 0) := rfl
  rw [e]
  cases hi : ixO (mG (M 0)) x nm with
  | none =>
    rw [hi] at h
    exact ⟨fun q => absurd q (by decide), fun _ => h⟩
  | some k =>
    rw [hi] at h
    obtain ⟨hk, -⟩ := ixO_some hi
    refine ⟨fun _ => v_markOf hn h4 ?_, fun q => absurd (nI_pos' (by omega)) q⟩
    rw [e, hi, show ixR (some k) = nI k from rfl, show (36 : Int32) = nI 36 from rfl, ix_row1]
    refine ⟨vp_in_nI (by omega) (by omega), ?_⟩
    rw [nI_c _ (by omega)]
    exact h
theorem v_gateOf {d B n no nm : Nat} {M : St} {Q : Int32 → Prop} {x y : Int32} (hC : Core d B n no nm (M 0)) (h : Q (a_gateOf (M 0) x y)) : q_X6_gateOf x y M Q := by
  have hc := hC.1
  have a1 := hc.1
  have a4 := hc.2.2.2.1
  have a5 := hc.2.2.2.2.1
  have a6 := hc.2.2.2.2.2
  have ho8 := hc.2.1
  have hm4 := hc.2.2.1
  unfold q_X6_gateOf
  refine v_isGate a4 a1 (fun g hg eg => ⟨fun q => absurd q (by decide), fun _ => ?_⟩) (fun hne => ⟨fun _ => ?_, fun q => absurd rfl q⟩)
  · have hG : isG (M 0) x := (isG_of a4 a1).mpr ⟨g, hg, eg⟩
    have ex : x.toNatClampNeg = g := by rw [eg]; exact nI_c _ (by omega)
    rw [a_gateOf, if_pos hG, ex, cn_of a5 (by omega), cn_of a6 (by omega)] at h
    refine v_in (fun h0 h7 => ⟨fun q => absurd q (by decide), fun _ => ⟨fun e => ?_, fun e0 => ⟨fun e => ?_, fun e1 => ⟨fun e => ?_, fun e2 => ⟨fun e => ?_, fun e3 => ⟨fun e => ?_, fun e4 => ⟨fun e => ?_, fun e5 => ⟨fun e => ?_, fun e6 => ?_⟩⟩⟩⟩⟩⟩⟩⟩) (fun hne => ⟨fun _ => ?_, fun q => absurd rfl q⟩)
    · rw [if_pos e] at h
      exact v_of g 0 eg (by rw [e]; rfl) (by omega) (by decide) h
    · rw [if_neg e0, if_pos e] at h
      exact v_of g 1 eg (by rw [e]; rfl) (by omega) (by decide) h
    · rw [if_neg e0, if_neg e1, if_pos e] at h
      exact v_of g 2 eg (by rw [e]; rfl) (by omega) (by decide) h
    · rw [if_neg e0, if_neg e1, if_neg e2, if_pos e] at h
      unfold q_X6_head
      exact v_rate g eg (by omega) h
    · rw [if_neg e0, if_neg e1, if_neg e2, if_neg e3, if_pos e] at h
      exact v_of g 3 eg rfl (by omega) (by decide) h
    · rw [if_neg e0, if_neg e1, if_neg e2, if_neg e3, if_neg e4, if_pos e] at h
      exact v_told a5 ho8 h
    · rw [if_neg e0, if_neg e1, if_neg e2, if_neg e3, if_neg e4, if_neg e5, if_pos e] at h
      exact v_toldM a6 hm4 h
    · have e7 : y = 7 := by
        obtain ⟨k, hk, ek⟩ := nat_of h0 h7 (b := 7) rfl (by omega)
        rcases (show k = 0 ∨ k = 1 ∨ k = 2 ∨ k = 3 ∨ k = 4 ∨ k = 5 ∨ k = 6 ∨ k = 7 by omega) with rfl | rfl | rfl | rfl | rfl | rfl | rfl | rfl
        · exact absurd ek e0
        · exact absurd ek e1
        · exact absurd ek e2
        · exact absurd ek e3
        · exact absurd ek e4
        · exact absurd ek e5
        · exact absurd ek e6
        · exact ek
      rw [if_neg e0, if_neg e1, if_neg e2, if_neg e3, if_neg e4, if_neg e5, if_neg e6, if_pos e7] at h
      exact v_of g 4 eg rfl (by omega) (by decide) h
    · rw [if_neg (fun q => hne (by rw [q]; decide)), if_neg (fun q => hne (by rw [q]; decide)), if_neg (fun q => hne (by rw [q]; decide)), if_neg (fun q => hne (by rw [q]; decide)), if_neg (fun q => hne (by rw [q]; decide)), if_neg (fun q => hne (by rw [q]; decide)), if_neg (fun q => hne (by rw [q]; decide)), if_neg (fun q => hne (by rw [q]; decide))] at h
      exact h
  · rw [a_gateOf, if_neg fun q => by obtain ⟨g, hg, e⟩ := (isG_of a4 a1).mp q; exact hne g hg e] at h
    exact h
theorem s_gateOf {X : Nat → St} {M : St} {x y : Int32} (hJ : Jr X M) : q_X5_gateOf x y X (fun r => q_X6_gateOf x y M (fun r1 => r = r1 ∧ Jr X M)) := by
  obtain ⟨-, jR, ⟨n, no, nm, hC, ho⟩, -⟩ := id hJ
  unfold q_X5_gateOf
  exact c_ofGate jR hC (v_gateOf hC ⟨rfl, hJ⟩)
def a_craneOf (s : Rw) (x : Int32) : Int32 := if x = 0 then s 6 else if x = 1 then (if 0 ≤ s 7 then s 7 else -1000004) else if x = 2 then (if 0 ≤ s 7 then s 8 else -1000004) else if x = 3 then s 17 else if x = 4 then s 18 else if x = 5 then s 19 else if x = 6 then s 11 else -1000001
theorem c_ofCrane {d B n no nm : Nat} {D : St} {s : Rw} {Q : Int32 → Prop} {x : Int32} (hR : Rl D s) (hC : Core d B n no nm s) (h : Q (a_craneOf s x)) : q_X0_ofCrane x D Q := by
  have hc := hC.1
  obtain ⟨rg, ro, rm, rs, rn, r7, r8⟩ := hR n no nm hc
  obtain ⟨n1, n2, n3, n4, n5, n6, n7, n8, n9, n10, n11, n12⟩ := rn
  have t := hC.2.2.2.1
  unfold q_X0_ofCrane
  unfold a_craneOf at h
  refine ⟨fun e => ?_, fun e0 => ⟨fun e => ?_, fun e1 => ⟨fun e => ?_, fun e2 => ⟨fun e => ?_, fun e3 => ⟨fun e => ?_, fun e4 => ⟨fun e => ?_, fun e5 => ⟨fun e => ?_, fun e6 => ?_⟩⟩⟩⟩⟩⟩⟩
  · rw [if_pos e] at h; rw [n9]; exact h
  · rw [if_neg e0, if_pos e] at h
    refine c_hasTask (s := s) (n := n) r7 t (fun c7 => ⟨fun _ => ?_, fun q => absurd rfl q⟩) (fun c7 => ⟨fun q => absurd q (by decide), fun _ => ?_⟩) hc.1
    · rw [if_neg (Int32.not_le.mpr c7)] at h; exact h
    · rw [if_pos (Int32.not_lt.mp c7)] at h; rw [r7]; exact h
  · rw [if_neg e0, if_neg e1, if_pos e] at h
    refine c_hasTask (s := s) (n := n) r7 t (fun c7 => ⟨fun _ => ?_, fun q => absurd rfl q⟩) (fun c7 => ⟨fun q => absurd q (by decide), fun _ => ?_⟩) hc.1
    · rw [if_neg (Int32.not_le.mpr c7)] at h; exact h
    · rw [if_pos (Int32.not_lt.mp c7)] at h; rw [r8 c7]; exact h
  · rw [if_neg e0, if_neg e1, if_neg e2, if_pos e] at h; rw [n10]; exact h
  · rw [if_neg e0, if_neg e1, if_neg e2, if_neg e3, if_pos e] at h; rw [n11]; exact h
  · rw [if_neg e0, if_neg e1, if_neg e2, if_neg e3, if_neg e4, if_pos e] at h; rw [n12]; exact h
  · rw [if_neg e0, if_neg e1, if_neg e2, if_neg e3, if_neg e4, if_neg e5, if_pos e] at h
    refine c_size4 ?_
    have em : D (10 + 3) 0 = s 11 := rm.2.1.trans hc.2.2.2.2.2.symm
    rw [em]; exact h
  · rw [if_neg e0, if_neg e1, if_neg e2, if_neg e3, if_neg e4, if_neg e5, if_neg e6] at h; exact h
theorem v_craneOf {M : St} {Q : Int32 → Prop} {x : Int32} (h : Q (a_craneOf (M 0) x)) : q_X6_craneOf x M Q := by
  unfold q_X6_craneOf
  unfold a_craneOf at h
  refine ⟨fun e => ?_, fun e0 => ⟨fun e => ?_, fun e1 => ⟨fun e => ?_, fun e2 => ⟨fun e => ?_, fun e3 => ⟨fun e => ?_, fun e4 => ⟨fun e => ?_, fun e5 => ⟨fun e => ?_, fun e6 => ?_⟩⟩⟩⟩⟩⟩⟩
  · rw [if_pos e] at h; exact h
  · rw [if_neg e0, if_pos e] at h
    refine ⟨fun c => ⟨by rw [e]; exact vp_in_nI (n := 7) (N := 86) (by decide) (by decide), ?_⟩, fun c => ?_⟩
    · rw [if_pos c] at h
      rw [show ((7 : Int32) + x - 1).toNatClampNeg = 7 by rw [e]; decide]; exact h
    · rw [if_neg c] at h; exact h
  · rw [if_neg e0, if_neg e1, if_pos e] at h
    refine ⟨fun c => ⟨by rw [e]; exact vp_in_nI (n := 8) (N := 86) (by decide) (by decide), ?_⟩, fun c => ?_⟩
    · rw [if_pos c] at h
      rw [show ((7 : Int32) + x - 1).toNatClampNeg = 8 by rw [e]; decide]; exact h
    · rw [if_neg c] at h; exact h
  · rw [if_neg e0, if_neg e1, if_neg e2, if_pos e] at h
    refine ⟨by rw [e]; exact vp_in_nI (n := 17) (N := 86) (by decide) (by decide), ?_⟩
    rw [show ((17 : Int32) + x - 3).toNatClampNeg = 17 by rw [e]; decide]; exact h
  · rw [if_neg e0, if_neg e1, if_neg e2, if_neg e3, if_pos e] at h
    refine ⟨by rw [e]; exact vp_in_nI (n := 18) (N := 86) (by decide) (by decide), ?_⟩
    rw [show ((17 : Int32) + x - 3).toNatClampNeg = 18 by rw [e]; decide]; exact h
  · rw [if_neg e0, if_neg e1, if_neg e2, if_neg e3, if_neg e4, if_pos e] at h
    refine ⟨by rw [e]; exact vp_in_nI (n := 19) (N := 86) (by decide) (by decide), ?_⟩
    rw [show ((17 : Int32) + x - 3).toNatClampNeg = 19 by rw [e]; decide]; exact h
  · rw [if_neg e0, if_neg e1, if_neg e2, if_neg e3, if_neg e4, if_neg e5, if_pos e] at h; exact h
  · rw [if_neg e0, if_neg e1, if_neg e2, if_neg e3, if_neg e4, if_neg e5, if_neg e6] at h; exact h
theorem s_craneOf {X : Nat → St} {M : St} {x : Int32} (hJ : Jr X M) : q_X5_craneOf x X (fun r => q_X6_craneOf x M (fun r1 => r = r1 ∧ Jr X M)) := by
  obtain ⟨-, jR, ⟨n, no, nm, hC, ho⟩, -⟩ := id hJ
  unfold q_X5_craneOf
  exact c_ofCrane jR hC (v_craneOf ⟨rfl, hJ⟩)
theorem s_orderAt {X : Nat → St} {M : St} {x : Int32} (hJ : Jr X M) : q_X5_orderAt x X (fun r => q_X6_orderAt x M (fun r1 => r = r1 ∧ Jr X M)) := by
  obtain ⟨-, jR, ⟨n, no, nm, hC, ho⟩, -⟩ := id hJ
  have hc := hC.1
  have ho8 := hc.2.1
  obtain ⟨rg, ro, rm, rs, rn, r7, r8⟩ := jR n no nm hc
  have a5 := hc.2.2.2.2.1
  have eo : (X 1) (6 + 3) 0 = nI no := ro.2.1
  unfold q_X5_orderAt q_X0_gateOfOrder q_X0_gateIn_O
  refine ⟨fun c => c_size4 ?_, fun c => ?_⟩
  · obtain ⟨j, hj, e⟩ := nI_of (Int32.not_lt.mpr c)
    rw [eo]
    unfold q_X6_orderAt
    rw [a5]
    refine ⟨fun c2 => ⟨fun _ => ⟨fun _ => ⟨rfl, hJ⟩, fun q => absurd c2 q⟩, fun q => absurd c q⟩, fun c2 => ?_⟩
    have hjn : j < no := Nat.not_le.mp fun q => c2 (by rw [e]; exact nI_le q hj)
    refine c_gateAt (T := fun i => (X 1) (6 + i)) ro ho8 hjn e ⟨fun _ => ⟨fun q => absurd q c2, fun _ => ?_⟩, fun q => absurd c q⟩
    rw [e, show (20 : Int32) = nI 20 from rfl, ix_row]
    refine ⟨vp_in_nI (by omega) (by omega), ?_, hJ⟩
    rw [nI_c _ (by omega)]; rfl
  · unfold q_X6_orderAt
    exact ⟨fun q => absurd q c, fun _ => ⟨rfl, hJ⟩⟩
theorem s_markAt {X : Nat → St} {M : St} {x : Int32} (hJ : Jr X M) : q_X5_markAt x X (fun r => q_X6_markAt x M (fun r1 => r = r1 ∧ Jr X M)) := by
  obtain ⟨-, jR, ⟨n, no, nm, hC, ho⟩, -⟩ := id hJ
  have hc := hC.1
  have hm4 := hc.2.2.1
  obtain ⟨rg, ro, rm, rs, rn, r7, r8⟩ := jR n no nm hc
  have a6 := hc.2.2.2.2.2
  have eo : (X 1) (10 + 3) 0 = nI nm := rm.2.1
  unfold q_X5_markAt q_X0_gateOfMark q_X0_gateIn_K
  refine ⟨fun c => c_size4 ?_, fun c => ?_⟩
  · obtain ⟨j, hj, e⟩ := nI_of (Int32.not_lt.mpr c)
    rw [eo]
    unfold q_X6_markAt
    rw [a6]
    refine ⟨fun c2 => ⟨fun _ => ⟨fun _ => ⟨rfl, hJ⟩, fun q => absurd c2 q⟩, fun q => absurd c q⟩, fun c2 => ?_⟩
    have hjn : j < nm := Nat.not_le.mp fun q => c2 (by rw [e]; exact nI_le q hj)
    refine c_gateAt (T := fun i => (X 1) (10 + i)) rm (by omega) hjn e ⟨fun _ => ⟨fun q => absurd q c2, fun _ => ?_⟩, fun q => absurd c q⟩
    rw [e, show (36 : Int32) = nI 36 from rfl, ix_row]
    refine ⟨vp_in_nI (by omega) (by omega), ?_, hJ⟩
    rw [nI_c _ (by omega)]; rfl
  · unfold q_X6_markAt
    exact ⟨fun q => absurd q c, fun _ => ⟨rfl, hJ⟩⟩
def a_num (s : Rw) (x : Int32) : Int32 := if x = 0 then s 3 else if x = 1 then s 4 else if x = 2 then s 5 else if x = 3 then s 4 / 1000 + 1 else if x = 4 then s 12 else if x = 5 then s 13 else if x = 6 then s 14 else if x = 7 then s 15 else if x = 8 then s 10 else if x = 9 then s 9 else if x = 10 then s 16 else if x = 11 then -1000001 else if x = 12 then -1000001 else if x = 13 then -1000001 else if x = 14 then -1000001 else if x = 15 then -1000001 else if x = 16 then -1000001 else if x = 17 then -1000001 else if x = 18 then -1000001 else if x = 19 then -1000001 else if x = 20 then s 0 else if x = 21 then s 1 else if x = 22 then s 2 else -1000001
theorem c_number {d B n no nm : Nat} {D : St} {s : Rw} {Q : Int32 → Prop} {x : Int32} (hR : Rl D s) (hC : Core d B n no nm s) (h : Q (a_num s x)) : q_X0_number x D Q := by
  have hc := hC.1
  obtain ⟨rg, ro, rm, rs, rn, r7, r8⟩ := hR n no nm hc
  obtain ⟨n1, n2, n3, n4, n5, n6, n7, n8, n9, n10, n11, n12⟩ := rn
  unfold q_X0_number
  unfold a_num at h
  refine ⟨fun e => ?_, fun e0 => ⟨fun e => ?_, fun e1 => ⟨fun e => ?_, fun e2 => ⟨fun e => ?_, fun e3 => ⟨fun e => ?_, fun e4 => ⟨fun e => ?_, fun e5 => ⟨fun e => ?_, fun e6 => ⟨fun e => ?_, fun e7 => ⟨fun e => ?_, fun e8 => ⟨fun e => ?_, fun e9 => ⟨fun e => ?_, fun e10 => ⟨fun e => ?_, fun e11 => ⟨fun e => ?_, fun e12 => ⟨fun e => ?_, fun e13 => ⟨fun e => ?_, fun e14 => ⟨fun e => ?_, fun e15 => ⟨fun e => ?_, fun e16 => ⟨fun e => ?_, fun e17 => ⟨fun e => ?_, fun e18 => ⟨fun e => ?_, fun e19 => ⟨fun e => ?_, fun e20 => ⟨fun e => ?_, fun e21 => ⟨fun e => ?_, fun e22 => ?_⟩⟩⟩⟩⟩⟩⟩⟩⟩⟩⟩⟩⟩⟩⟩⟩⟩⟩⟩⟩⟩⟩⟩
  · rw [if_pos e] at h
    unfold q_X1_size
    rw [rg.1, ← hc.2.2.2.1]; exact h
  · rw [if_neg e0, if_pos e] at h
    rw [n1]; exact h
  · rw [if_neg e0, if_neg e1, if_pos e] at h
    rw [n2]; exact h
  · rw [if_neg e0, if_neg e1, if_neg e2, if_pos e] at h
    unfold q_X0_head
    rw [n1]; exact h
  · rw [if_neg e0, if_neg e1, if_neg e2, if_neg e3, if_pos e] at h
    rw [n6]; exact h
  · rw [if_neg e0, if_neg e1, if_neg e2, if_neg e3, if_neg e4, if_pos e] at h
    rw [n3]; exact h
  · rw [if_neg e0, if_neg e1, if_neg e2, if_neg e3, if_neg e4, if_neg e5, if_pos e] at h
    rw [n4]; exact h
  · rw [if_neg e0, if_neg e1, if_neg e2, if_neg e3, if_neg e4, if_neg e5, if_neg e6, if_pos e] at h
    rw [n5]; exact h
  · rw [if_neg e0, if_neg e1, if_neg e2, if_neg e3, if_neg e4, if_neg e5, if_neg e6, if_neg e7, if_pos e] at h
    refine c_size4 ?_
    have em : D (6 + 3) 0 = s 10 := ro.2.1.trans hc.2.2.2.2.1.symm
    rw [em]; exact h
  · rw [if_neg e0, if_neg e1, if_neg e2, if_neg e3, if_neg e4, if_neg e5, if_neg e6, if_neg e7, if_neg e8, if_pos e] at h
    have hF := isF n7 hC.2.2.2.2.1.2.1
    exact ⟨fun c => by rw [hF.1.mp c] at h; exact h, fun c => by rw [hF.2.mp c] at h; exact h⟩
  · rw [if_neg e0, if_neg e1, if_neg e2, if_neg e3, if_neg e4, if_neg e5, if_neg e6, if_neg e7, if_neg e8, if_neg e9, if_pos e] at h
    rw [n8]; exact h
  · rw [if_neg e0, if_neg e1, if_neg e2, if_neg e3, if_neg e4, if_neg e5, if_neg e6, if_neg e7, if_neg e8, if_neg e9, if_neg e10, if_pos e] at h
    exact h
  · rw [if_neg e0, if_neg e1, if_neg e2, if_neg e3, if_neg e4, if_neg e5, if_neg e6, if_neg e7, if_neg e8, if_neg e9, if_neg e10, if_neg e11, if_pos e] at h
    exact h
  · rw [if_neg e0, if_neg e1, if_neg e2, if_neg e3, if_neg e4, if_neg e5, if_neg e6, if_neg e7, if_neg e8, if_neg e9, if_neg e10, if_neg e11, if_neg e12, if_pos e] at h
    exact h
  · rw [if_neg e0, if_neg e1, if_neg e2, if_neg e3, if_neg e4, if_neg e5, if_neg e6, if_neg e7, if_neg e8, if_neg e9, if_neg e10, if_neg e11, if_neg e12, if_neg e13, if_pos e] at h
    exact h
  · rw [if_neg e0, if_neg e1, if_neg e2, if_neg e3, if_neg e4, if_neg e5, if_neg e6, if_neg e7, if_neg e8, if_neg e9, if_neg e10, if_neg e11, if_neg e12, if_neg e13, if_neg e14, if_pos e] at h
    exact h
  · rw [if_neg e0, if_neg e1, if_neg e2, if_neg e3, if_neg e4, if_neg e5, if_neg e6, if_neg e7, if_neg e8, if_neg e9, if_neg e10, if_neg e11, if_neg e12, if_neg e13, if_neg e14, if_neg e15, if_pos e] at h
    exact h
  · rw [if_neg e0, if_neg e1, if_neg e2, if_neg e3, if_neg e4, if_neg e5, if_neg e6, if_neg e7, if_neg e8, if_neg e9, if_neg e10, if_neg e11, if_neg e12, if_neg e13, if_neg e14, if_neg e15, if_neg e16, if_pos e] at h
    exact h
  · rw [if_neg e0, if_neg e1, if_neg e2, if_neg e3, if_neg e4, if_neg e5, if_neg e6, if_neg e7, if_neg e8, if_neg e9, if_neg e10, if_neg e11, if_neg e12, if_neg e13, if_neg e14, if_neg e15, if_neg e16, if_neg e17, if_pos e] at h
    exact h
  · rw [if_neg e0, if_neg e1, if_neg e2, if_neg e3, if_neg e4, if_neg e5, if_neg e6, if_neg e7, if_neg e8, if_neg e9, if_neg e10, if_neg e11, if_neg e12, if_neg e13, if_neg e14, if_neg e15, if_neg e16, if_neg e17, if_neg e18, if_pos e] at h
    exact h
  · rw [if_neg e0, if_neg e1, if_neg e2, if_neg e3, if_neg e4, if_neg e5, if_neg e6, if_neg e7, if_neg e8, if_neg e9, if_neg e10, if_neg e11, if_neg e12, if_neg e13, if_neg e14, if_neg e15, if_neg e16, if_neg e17, if_neg e18, if_neg e19, if_pos e] at h
    rw [rs.1]; exact h
  · rw [if_neg e0, if_neg e1, if_neg e2, if_neg e3, if_neg e4, if_neg e5, if_neg e6, if_neg e7, if_neg e8, if_neg e9, if_neg e10, if_neg e11, if_neg e12, if_neg e13, if_neg e14, if_neg e15, if_neg e16, if_neg e17, if_neg e18, if_neg e19, if_neg e20, if_pos e] at h
    rw [rs.2.1]; exact h
  · rw [if_neg e0, if_neg e1, if_neg e2, if_neg e3, if_neg e4, if_neg e5, if_neg e6, if_neg e7, if_neg e8, if_neg e9, if_neg e10, if_neg e11, if_neg e12, if_neg e13, if_neg e14, if_neg e15, if_neg e16, if_neg e17, if_neg e18, if_neg e19, if_neg e20, if_neg e21, if_pos e] at h
    rw [rs.2.2]; exact h
  · rw [if_neg e0, if_neg e1, if_neg e2, if_neg e3, if_neg e4, if_neg e5, if_neg e6, if_neg e7, if_neg e8, if_neg e9, if_neg e10, if_neg e11, if_neg e12, if_neg e13, if_neg e14, if_neg e15, if_neg e16, if_neg e17, if_neg e18, if_neg e19, if_neg e20, if_neg e21, if_neg e22] at h; exact h
theorem v_count {M : St} {Q : Int32 → Prop} {x : Int32} (h11 : x = 11 → Q (M 4 0)) (h12 : x = 12 → Q (M 7 0)) (h : x ≠ 11 → x ≠ 12 → Q (a_num (M 0) x)) : q_X6_count x M Q := by
  unfold q_X6_count
  unfold a_num at h
  refine ⟨fun e => ?_, fun e0 => ⟨fun e => ?_, fun e1 => ⟨fun e => ?_, fun e2 => ⟨fun e => ?_, fun e3 => ⟨fun e => ?_, fun e4 => ⟨fun e => ?_, fun e5 => ⟨fun e => ?_, fun e6 => ⟨fun e => ?_, fun e7 => ⟨fun e => ?_, fun e8 => ⟨fun e => ?_, fun e9 => ⟨fun e => ?_, fun e10 => ⟨fun e => ?_, fun e11 => ⟨fun e => ?_, fun e12 => ⟨fun e => ?_, fun e13 => ⟨fun e => ?_, fun e14 => ⟨fun e => ?_, fun e15 => ⟨fun e => ?_, fun e16 => ⟨fun e => ?_, fun e17 => ⟨fun e => ?_, fun e18 => ⟨fun e => ?_, fun e19 => ⟨fun e => ?_, fun e20 => ⟨fun e => ?_, fun e21 => ⟨fun e => ?_, fun e22 => ?_⟩⟩⟩⟩⟩⟩⟩⟩⟩⟩⟩⟩⟩⟩⟩⟩⟩⟩⟩⟩⟩⟩⟩
  · have h := h (by rw [e]; decide) (by rw [e]; decide)
    rw [if_pos e] at h
    refine ⟨by rw [e]; exact vp_in_nI (n := 3) (N := 86) (by decide) (by decide), ?_⟩
    rw [show ((3 : Int32) + x).toNatClampNeg = 3 by rw [e]; decide]; exact h
  · have h := h (by rw [e]; decide) (by rw [e]; decide)
    rw [if_neg e0, if_pos e] at h
    refine ⟨by rw [e]; exact vp_in_nI (n := 4) (N := 86) (by decide) (by decide), ?_⟩
    rw [show ((3 : Int32) + x).toNatClampNeg = 4 by rw [e]; decide]; exact h
  · have h := h (by rw [e]; decide) (by rw [e]; decide)
    rw [if_neg e0, if_neg e1, if_pos e] at h
    refine ⟨by rw [e]; exact vp_in_nI (n := 5) (N := 86) (by decide) (by decide), ?_⟩
    rw [show ((3 : Int32) + x).toNatClampNeg = 5 by rw [e]; decide]; exact h
  · have h := h (by rw [e]; decide) (by rw [e]; decide)
    rw [if_neg e0, if_neg e1, if_neg e2, if_pos e] at h
    exact h
  · have h := h (by rw [e]; decide) (by rw [e]; decide)
    rw [if_neg e0, if_neg e1, if_neg e2, if_neg e3, if_pos e] at h
    refine ⟨by rw [e]; exact vp_in_nI (n := 12) (N := 86) (by decide) (by decide), ?_⟩
    rw [show ((12 : Int32) + x - 4).toNatClampNeg = 12 by rw [e]; decide]; exact h
  · have h := h (by rw [e]; decide) (by rw [e]; decide)
    rw [if_neg e0, if_neg e1, if_neg e2, if_neg e3, if_neg e4, if_pos e] at h
    refine ⟨by rw [e]; exact vp_in_nI (n := 13) (N := 86) (by decide) (by decide), ?_⟩
    rw [show ((12 : Int32) + x - 4).toNatClampNeg = 13 by rw [e]; decide]; exact h
  · have h := h (by rw [e]; decide) (by rw [e]; decide)
    rw [if_neg e0, if_neg e1, if_neg e2, if_neg e3, if_neg e4, if_neg e5, if_pos e] at h
    refine ⟨by rw [e]; exact vp_in_nI (n := 14) (N := 86) (by decide) (by decide), ?_⟩
    rw [show ((12 : Int32) + x - 4).toNatClampNeg = 14 by rw [e]; decide]; exact h
  · have h := h (by rw [e]; decide) (by rw [e]; decide)
    rw [if_neg e0, if_neg e1, if_neg e2, if_neg e3, if_neg e4, if_neg e5, if_neg e6, if_pos e] at h
    refine ⟨by rw [e]; exact vp_in_nI (n := 15) (N := 86) (by decide) (by decide), ?_⟩
    rw [show ((12 : Int32) + x - 4).toNatClampNeg = 15 by rw [e]; decide]; exact h
  · have h := h (by rw [e]; decide) (by rw [e]; decide)
    rw [if_neg e0, if_neg e1, if_neg e2, if_neg e3, if_neg e4, if_neg e5, if_neg e6, if_neg e7, if_pos e] at h
    exact h
  · have h := h (by rw [e]; decide) (by rw [e]; decide)
    rw [if_neg e0, if_neg e1, if_neg e2, if_neg e3, if_neg e4, if_neg e5, if_neg e6, if_neg e7, if_neg e8, if_pos e] at h
    exact h
  · have h := h (by rw [e]; decide) (by rw [e]; decide)
    rw [if_neg e0, if_neg e1, if_neg e2, if_neg e3, if_neg e4, if_neg e5, if_neg e6, if_neg e7, if_neg e8, if_neg e9, if_pos e] at h
    exact h
  · exact h11 e
  · exact h12 e
  · have h := h (by rw [e]; decide) (by rw [e]; decide)
    rw [if_neg e0, if_neg e1, if_neg e2, if_neg e3, if_neg e4, if_neg e5, if_neg e6, if_neg e7, if_neg e8, if_neg e9, if_neg e10, if_neg e11, if_neg e12, if_pos e] at h
    exact h
  · have h := h (by rw [e]; decide) (by rw [e]; decide)
    rw [if_neg e0, if_neg e1, if_neg e2, if_neg e3, if_neg e4, if_neg e5, if_neg e6, if_neg e7, if_neg e8, if_neg e9, if_neg e10, if_neg e11, if_neg e12, if_neg e13, if_pos e] at h
    exact h
  · have h := h (by rw [e]; decide) (by rw [e]; decide)
    rw [if_neg e0, if_neg e1, if_neg e2, if_neg e3, if_neg e4, if_neg e5, if_neg e6, if_neg e7, if_neg e8, if_neg e9, if_neg e10, if_neg e11, if_neg e12, if_neg e13, if_neg e14, if_pos e] at h
    exact h
  · have h := h (by rw [e]; decide) (by rw [e]; decide)
    rw [if_neg e0, if_neg e1, if_neg e2, if_neg e3, if_neg e4, if_neg e5, if_neg e6, if_neg e7, if_neg e8, if_neg e9, if_neg e10, if_neg e11, if_neg e12, if_neg e13, if_neg e14, if_neg e15, if_pos e] at h
    exact h
  · have h := h (by rw [e]; decide) (by rw [e]; decide)
    rw [if_neg e0, if_neg e1, if_neg e2, if_neg e3, if_neg e4, if_neg e5, if_neg e6, if_neg e7, if_neg e8, if_neg e9, if_neg e10, if_neg e11, if_neg e12, if_neg e13, if_neg e14, if_neg e15, if_neg e16, if_pos e] at h
    exact h
  · have h := h (by rw [e]; decide) (by rw [e]; decide)
    rw [if_neg e0, if_neg e1, if_neg e2, if_neg e3, if_neg e4, if_neg e5, if_neg e6, if_neg e7, if_neg e8, if_neg e9, if_neg e10, if_neg e11, if_neg e12, if_neg e13, if_neg e14, if_neg e15, if_neg e16, if_neg e17, if_pos e] at h
    exact h
  · have h := h (by rw [e]; decide) (by rw [e]; decide)
    rw [if_neg e0, if_neg e1, if_neg e2, if_neg e3, if_neg e4, if_neg e5, if_neg e6, if_neg e7, if_neg e8, if_neg e9, if_neg e10, if_neg e11, if_neg e12, if_neg e13, if_neg e14, if_neg e15, if_neg e16, if_neg e17, if_neg e18, if_pos e] at h
    exact h
  · have h := h (by rw [e]; decide) (by rw [e]; decide)
    rw [if_neg e0, if_neg e1, if_neg e2, if_neg e3, if_neg e4, if_neg e5, if_neg e6, if_neg e7, if_neg e8, if_neg e9, if_neg e10, if_neg e11, if_neg e12, if_neg e13, if_neg e14, if_neg e15, if_neg e16, if_neg e17, if_neg e18, if_neg e19, if_pos e] at h
    refine ⟨by rw [e]; exact vp_in_nI (n := 0) (N := 86) (by decide) (by decide), ?_⟩
    rw [show (x - 20 : Int32).toNatClampNeg = 0 by rw [e]; decide]; exact h
  · have h := h (by rw [e]; decide) (by rw [e]; decide)
    rw [if_neg e0, if_neg e1, if_neg e2, if_neg e3, if_neg e4, if_neg e5, if_neg e6, if_neg e7, if_neg e8, if_neg e9, if_neg e10, if_neg e11, if_neg e12, if_neg e13, if_neg e14, if_neg e15, if_neg e16, if_neg e17, if_neg e18, if_neg e19, if_neg e20, if_pos e] at h
    refine ⟨by rw [e]; exact vp_in_nI (n := 1) (N := 86) (by decide) (by decide), ?_⟩
    rw [show (x - 20 : Int32).toNatClampNeg = 1 by rw [e]; decide]; exact h
  · have h := h (by rw [e]; decide) (by rw [e]; decide)
    rw [if_neg e0, if_neg e1, if_neg e2, if_neg e3, if_neg e4, if_neg e5, if_neg e6, if_neg e7, if_neg e8, if_neg e9, if_neg e10, if_neg e11, if_neg e12, if_neg e13, if_neg e14, if_neg e15, if_neg e16, if_neg e17, if_neg e18, if_neg e19, if_neg e20, if_neg e21, if_pos e] at h
    refine ⟨by rw [e]; exact vp_in_nI (n := 2) (N := 86) (by decide) (by decide), ?_⟩
    rw [show (x - 20 : Int32).toNatClampNeg = 2 by rw [e]; decide]; exact h
  · have h := h e11 e12
    rw [if_neg e0, if_neg e1, if_neg e2, if_neg e3, if_neg e4, if_neg e5, if_neg e6, if_neg e7, if_neg e8, if_neg e9, if_neg e10, if_neg e11, if_neg e12, if_neg e13, if_neg e14, if_neg e15, if_neg e16, if_neg e17, if_neg e18, if_neg e19, if_neg e20, if_neg e21, if_neg e22] at h; exact h
theorem s_count {X : Nat → St} {M : St} {x : Int32} (hJ : Jr X M) : q_X5_count x X (fun r => q_X6_count x M (fun r1 => r = r1 ∧ Jr X M)) := by
  obtain ⟨-, jR, ⟨n, no, nm, hC, ho⟩, -, ⟨p, hp, j8, j4, -⟩, ⟨t, ht, t1, t2, -⟩⟩ := id hJ
  unfold q_X5_count q_X2_size q_X3_length
  refine ⟨fun c => ?_, fun c => ⟨fun c2 => ?_, fun c2 => ?_⟩⟩
  · rw [j8]
    exact v_count (fun _ => ⟨j4.symm, hJ⟩) (fun q => absurd (c.symm.trans q) (by decide)) (fun q => absurd c q)
  · rw [t1]
    exact v_count (fun q => absurd q c) (fun _ => ⟨t2.symm, hJ⟩) (fun _ q => absurd c2 q)
  · exact c_number jR hC (v_count (fun q => absurd q c) (fun q => absurd q c2) (fun _ _ => ⟨rfl, hJ⟩))
