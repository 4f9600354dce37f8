/-! What would be: would, minutesUntil, minutesToRest, bestRule. -/
theorem te_n {y : Int32} {g : Nat} (h : y - 10 = nI g) : y = nI (g + 10) := by
  have e : y = (y - 10) + 10 := by grind
  rw [e, h, show (10 : Int32) = nI 10 from rfl, nI_add]
def a_out (s : Rw) (y : Int32) : Int32 := if y = 0 then s 4 else if y = 1 then s 6 else if y = 2 then s 11 else if y = 3 then s 10 else if y = 4 then s 9 else if isG s (y - 10) then s (46 + 5 * (y - 10).toNatClampNeg + 2) else -1000001
theorem c_outlook {d B n no nm : Nat} {D : St} {s : Rw} {Q : Int32 → Prop} {y : Int32} (hR : Rl D s) (hC : Core d B n no nm s) (h : Q (a_out s y)) : q_X0_outlook y D Q := by
  have hc := hC.1
  have a1 := hc.1
  have a4 : s 3 = nI n := hc.2.2.2.1
  obtain ⟨rg, ro, rm, rs, rn, r7, r8⟩ := hR n no nm hc
  obtain ⟨n1, n2, n3, n4, n5, n6, n7, n8, n9, n10, n11, n12⟩ := rn
  unfold q_X0_outlook
  unfold a_out at h
  refine ⟨fun e => ?_, fun e0 => ⟨fun e => ?_, fun e1 => ⟨fun e => ?_, fun e2 => ⟨fun e => ?_, fun e3 => ⟨fun e => ?_, fun e4 => ⟨fun c => ?_, fun c => ?_⟩⟩⟩⟩⟩⟩
  · rw [if_pos e] at h; rw [n1]; exact h
  · rw [if_neg e0, if_pos e] at h; rw [n9]; exact h
  · rw [if_neg e0, if_neg e1, if_pos e] at h
    refine c_size4 ?_
    have em : D (10 + 3) 0 = s 11 := rm.2.1.trans hc.2.2.2.2.2.symm
    rw [em]; exact h
  · rw [if_neg e0, if_neg e1, if_neg e2, if_pos e] at h
    refine c_size4 ?_
    have em : D (6 + 3) 0 = s 10 := ro.2.1.trans hc.2.2.2.2.1.symm
    rw [em]; exact h
  · rw [if_neg e0, if_neg e1, if_neg e2, if_neg e3, if_pos e] at h
    have hF := isF n7 hC.2.2.2.2.1.2.1
    exact ⟨fun c => by rw [hF.1.mp c] at h; exact h, fun c => by rw [hF.2.mp c] at h; exact h⟩
  · rw [if_neg e0, if_neg e1, if_neg e2, if_neg e3, if_neg e4, if_neg] at h
    · exact h
    · intro q
      obtain ⟨g, hg, e⟩ := (isG_of a4 a1).mp q
      rw [te_n e] at c
      have := (nI_ltI (b := 10) (by omega) (by omega)).mp c
      omega
  · rw [if_neg e0, if_neg e1, if_neg e2, if_neg e3, if_neg e4] at h
    refine c_has rg a1 (fun g hg eg => ⟨fun q => absurd q (by decide), fun _ => ?_⟩) (fun hne => ⟨fun _ => ?_, fun q => absurd rfl q⟩)
    · rw [if_pos ((isG_of a4 a1).mpr ⟨g, hg, eg⟩), eg, nI_c _ (by omega)] at h
      exact c_opening rg a1 hg eg h
    · rw [if_neg fun q => by obtain ⟨g, hg, e⟩ := (isG_of a4 a1).mp q; exact hne g hg e] at h
      exact h
def a_would (s : Rw) (x y : Int32) : Int32 := if 0 ≤ x ∧ x ≤ 500 then a_out (t_mins x.toNatClampNeg s) y else -1000001
theorem v_seen {d B n no nm : Nat} {M : St} {Q : Int32 → Prop} {y : Int32} (hC : Core d B n no nm (M 0)) (hy : (0 ≤ y ∧ y ≤ 4) ∨ isG (M 0) (y - 10)) (h : Q (a_out (M 0) y)) : q_X6_seen y M Q := by
  have a1 := hC.1.1
  have a4 := hC.1.2.2.2.1
  unfold q_X6_seen
  unfold a_out at h
  refine ⟨fun e => ?_, fun e0 => ⟨fun e => ?_, fun e1 => ⟨fun e => ?_, fun e2 => ⟨fun e => ?_, fun e3 => ⟨fun e => ?_, fun e4 => ?_⟩⟩⟩⟩⟩
  · rw [if_pos e] at h; exact h
  · rw [if_neg e0, if_pos e] at h; exact h
  · rw [if_neg e0, if_neg e1, if_pos e] at h; exact h
  · rw [if_neg e0, if_neg e1, if_neg e2, if_pos e] at h; exact h
  · rw [if_neg e0, if_neg e1, if_neg e2, if_neg e3, if_pos e] at h; exact h
  · rw [if_neg e0, if_neg e1, if_neg e2, if_neg e3, if_neg e4] at h
    rcases hy with hy | hy
    · obtain ⟨k, hk, ek⟩ := nat_of hy.1 hy.2 (b := 4) rfl (by omega)
      rcases (show k = 0 ∨ k = 1 ∨ k = 2 ∨ k = 3 ∨ k = 4 by omega) with rfl | rfl | rfl | rfl | rfl
      · exact absurd ek e0
      · exact absurd ek e1
      · exact absurd ek e2
      · exact absurd ek e3
      · exact absurd ek e4
    · rw [if_pos hy] at h
      obtain ⟨g, hg, e⟩ := (isG_of a4 a1).mp hy
      rw [e, nI_c _ (by omega)] at h
      exact v_of g 2 e rfl (by omega) (by decide) h
theorem mins_86 {B : Nat} {s : Rw} (h : Iv B s) (k : Nat) : ∀ j, 86 ≤ j → t_mins k s j = s j := fun j hj => mins_keep h (Or.inr (Or.inr hj)) k
theorem v_would {M : St} {Q : Int32 → St → Prop} {x y : Int32} {B : Nat} (hI : Iv B (M 0)) (h : ∀ M', Bk M M' → Q (a_would (M 0) x y) M') : q_X6_would x y M Q := by
  obtain ⟨n, no, nm, hC, ho⟩ := id hI
  unfold a_would at h
  unfold q_X6_would
  refine v_in (fun h1 h2 => ⟨fun q => absurd q (by decide), fun _ => ?_⟩) (fun hne => ⟨fun _ => ?_, fun q => absurd rfl q⟩)
  · rw [if_pos ⟨h1, h2⟩] at h
    obtain ⟨k, hk, ek⟩ := nat_of h1 h2 (b := 500) rfl (by omega)
    have ex : x.toNatClampNeg = k := by rw [ek]; exact nI_c _ (by omega)
    rw [ex] at h
    obtain ⟨no', nm', hC', -⟩ := mins_3 hC ho k
    have run : ((0 ≤ y ∧ y ≤ 4) ∨ isG (M 0) (y - 10)) → q_X6_copies (fun i => cond (Nat.beq i 0) (M 0) (M 3)) (fun u_5 => ∃ (I_7 : Nat → Int32 → St → Prop) (n_11 : Nat), I_7 n_11 0 (uA (uA M 0 (u_5 0)) 3 (u_5 1)) ∧ ∀ (n_6 : Nat) (x3_8 : Int32) (D_9 : St), I_7 n_6 x3_8 D_9 → ((x ≤ x3_8 → q_X6_seen y D_9 (fun r_16 => q_X6_copies (fun i => cond (Nat.beq i 0) (D_9 3) (D_9 0)) (fun u_17 => Q r_16 (uA (uA D_9 3 (u_17 0)) 0 (u_17 1))))) ∧ (¬ (x ≤ x3_8) → q_X6_passes D_9 (fun u_18 => ∃ n_19, n_19 < n_6 ∧ I_7 n_19 (x3_8 + 1) u_18)))) := fun hy => by
      refine v_aside (M := M) (Q := fun U => ∃ (I_7 : Nat → Int32 → St → Prop) (n_11 : Nat), I_7 n_11 0 U ∧ ∀ (n_6 : Nat) (x3_8 : Int32) (D_9 : St), I_7 n_6 x3_8 D_9 → ((x ≤ x3_8 → q_X6_seen y D_9 (fun r_16 => q_X6_copies (fun i => cond (Nat.beq i 0) (D_9 3) (D_9 0)) (fun u_17 => Q r_16 (uA (uA D_9 3 (u_17 0)) 0 (u_17 1))))) ∧ (¬ (x ≤ x3_8) → q_X6_passes D_9 (fun u_18 => ∃ n_19, n_19 < n_6 ∧ I_7 n_19 (x3_8 + 1) u_18)))) ?_
      refine v_many (B := B) k ek (by omega) hI ?_
      show q_X6_seen y (uA (uA (uA M 0 (M 0)) 3 (fun k => if k < 86 then M 0 k else M 3 k)) 0 (t_mins k (M 0))) _
      refine v_seen (d := 0) (B := B + k) (n := n) (no := no') (nm := nm') (by rw [uA_s]; exact hC') ?_ ?_
      · rcases hy with q | q
        · exact Or.inl q
        · refine Or.inr ?_
          rw [uA_s]
          exact (isG_of hC'.1.2.2.2.1 hC'.1.1).mpr ((isG_of hC.1.2.2.2.1 hC.1.1).mp q)
      · rw [uA_s]
        exact v_backX (M := M) (D := uA (uA (uA M 0 (M 0)) 3 (fun k => if k < 86 then M 0 k else M 3 k)) 0 (t_mins k (M 0))) (Q := fun M' => Q (a_out (t_mins k (M 0)) y) M') rfl (mins_86 hI k) ⟨rfl, rfl, rfl, rfl, rfl⟩ h
    refine v_in (fun h3 h4 => ⟨fun q => absurd q (by decide), fun _ => run (Or.inl ⟨h3, h4⟩)⟩) (fun hn4 => ⟨fun _ => v_isGate hC.1.2.2.2.1 hC.1.1 (fun g hg eg => ⟨fun q => absurd q (by decide), fun _ => run (Or.inr ((isG_of hC.1.2.2.2.1 hC.1.1).mpr ⟨g, hg, eg⟩))⟩) (fun hng => ⟨fun _ => ?_, fun q => absurd rfl q⟩), fun q => absurd rfl q⟩)
    have := h M (Bk.rfl' M)
    rw [a_out, if_neg (fun q => hn4 (by rw [q]; decide)), if_neg (fun q => hn4 (by rw [q]; decide)), if_neg (fun q => hn4 (by rw [q]; decide)), if_neg (fun q => hn4 (by rw [q]; decide)), if_neg (fun q => hn4 (by rw [q]; decide)), if_neg] at this
    · exact this
    · intro q
      obtain ⟨g, hg, e⟩ := (isG_of hC'.1.2.2.2.1 hC'.1.1).mp q
      exact hng g hg e
  · rw [if_neg hne] at h
    exact h M (Bk.rfl' M)
theorem mo_of {B k : Nat} {D : St} {s : Rw} (hI : Iv B s) (hR : Rl D (t_mins k s)) : Mo D := (iv_mins hI k).mo hR
theorem s_would {X : Nat → St} {M : St} {x y : Int32} (hJ : Jr X M) : q_X5_would x y X (fun r X1 => q_X6_would x y M (fun r1 M1 => r = r1 ∧ Jr X1 M1)) := by
  obtain ⟨-, jR, jI, jM, -⟩ := id hJ
  obtain ⟨n, no, nm, hC, ho⟩ := id jI
  unfold q_X5_would
  have bad : ¬ (0 ≤ x ∧ x ≤ 500) → q_X6_would x y M (fun r1 M1 => (-1000001) = r1 ∧ Jr X M1) := fun q => v_would jI fun M' hM => by
    rw [a_would, if_neg q]
    exact ⟨rfl, hJ.back hM (fun _ _ _ => rfl) rfl rfl (jM 2 (by decide) (by decide))⟩
  refine ⟨fun c => bad fun q => absurd q.1 (Int32.not_le.mpr c), fun c1 => ⟨fun c2 => ?_, fun c => bad fun q => c q.2⟩⟩
  have hin : 0 ≤ x ∧ x ≤ 500 := ⟨Int32.not_lt.mp c1, c2⟩
  obtain ⟨k, hk, ek⟩ := nat_of hin.1 hin.2 (b := 500) rfl (by omega)
  have ex : x.toNatClampNeg = k := by rw [ek]; exact nI_c _ (by omega)
  refine c_copy jR hC (jM 2 (by decide) (by decide)) fun E hE => c_letPass k (by omega) ek hE jI fun E2 hE2 => ?_
  obtain ⟨no', nm', hC', -⟩ := mins_3 hC ho k
  refine c_outlook hE2 hC' (v_would jI fun M' hM => ⟨?_, ?_⟩)
  · rw [a_would, if_pos hin, ex]
  · exact hJ.back hM (fun j z1 z2 => by rw [uX_n z2, uX_n z2]) rfl rfl (by rw [uX_s]; exact mo_of jI hE2)
/-- the first of 1001 minutes from which on something is so -/
def sk_c (c : Rw → Prop) [∀ s, Decidable (c s)] (s : Rw) : Nat → Nat → Int32
  | 0, _ => -1000004
  | f + 1, j => if c (t_mins j s) then nI j else sk_c c s f (j + 1)
theorem sk_val (c : Rw → Prop) [∀ s, Decidable (c s)] (s : Rw) : ∀ f j, sk_c c s f j = -1000004 ∨ ∃ k, k < j + f ∧ sk_c c s f j = nI k
  | 0, _ => Or.inl rfl
  | f + 1, j => by
    unfold sk_c
    split
    · exact Or.inr ⟨j, by omega, rfl⟩
    · rcases sk_val c s f (j + 1) with h | ⟨k, hk, e⟩
      · exact Or.inl h
      · exact Or.inr ⟨k, by omega, e⟩
theorem mins_1 (s : Rw) : t_mins 1 s = t_min s := rfl
/-- the class's loop that seeks -/
theorem c_seek {B : Nat} {X0 : Nat → St} {s : Rw} {Q : Int32 → (Nat → St) → Prop} (c : Rw → Prop) [∀ s, Decidable (c s)] (hI : Iv B s) (hR : Rl (X0 2) s)
    (hQ : ∀ X', (∀ j, j ≠ 2 → X' j = X0 j) → Mo (X' 2) → Q (sk_c c s 1001 0) X') (body : (Nat → Int32 → (Nat → St) → Prop) → Nat → Int32 → (Nat → St) → Prop)
    (hbody : ∀ (I : Nat → Int32 → (Nat → St) → Prop) (n : Nat) (x : Int32) (Y : Nat → St) (z : Rw) (B' : Nat), Iv B' z → Rl (Y 2) z → (c z → Q x Y) → (¬ c z → ∀ D', Rl D' (t_min z) → ∃ n1, n1 < n ∧ I n1 (x + 1) (uX Y 2 D')) → body I n x Y) :
    ∃ (I : Nat → Int32 → (Nat → St) → Prop) (n0 : Nat), I n0 0 X0 ∧ ∀ (n : Nat) (x : Int32) (Y : Nat → St), I n x Y → ((1000 < x → Q (-1000004) Y) ∧ (¬ (1000 < x) → body I n x Y)) := by
  refine ⟨fun m x Y => ∃ j : Nat, j ≤ 1001 ∧ m = 1001 - j ∧ x = nI j ∧ (∀ i, i ≠ 2 → Y i = X0 i) ∧ Rl (Y 2) (t_mins j s) ∧ sk_c c s (1001 - j) j = sk_c c s 1001 0, 1001, ⟨0, by omega, rfl, rfl, fun _ _ => rfl, hR, rfl⟩, ?_⟩
  rintro m x Y ⟨j, hj, rfl, rfl, hY, hYR, hs⟩
  have hIj := iv_mins hI j
  refine ⟨fun q => ?_, fun q => ?_⟩
  · have := (nI_ltI (a := 1000) (by omega) (by omega)).mp q
    have e : j = 1001 := by omega
    subst e
    have := hQ Y hY (mo_of hI hYR)
    rw [← hs] at this
    exact this
  · have hj1 : j < 1001 := by
      have : ¬ 1000 < j := fun z => q (nI_lt (a := 1000) z (by omega))
      omega
    rw [show 1001 - j = (1000 - j) + 1 by omega, sk_c] at hs
    refine hbody _ _ _ _ (t_mins j s) (B + j) hIj hYR (fun hc => ?_) (fun hc D' hD' => ⟨1001 - (j + 1), by omega, j + 1, hj1, rfl, nI_1 j, fun i hi => by rw [uX_n hi, hY i hi], by rw [uX_s]; exact hD', ?_⟩)
    · rw [if_pos hc] at hs
      have := hQ Y hY (mo_of hI hYR)
      rw [← hs] at this
      exact this
    · rw [if_neg hc] at hs
      rw [show 1001 - (j + 1) = 1000 - j by omega]
      exact hs
/-- the reference's loop that seeks -/
theorem v_seek {B : Nat} {U : St} {Q : Int32 → St → Prop} (c : Rw → Prop) [∀ s, Decidable (c s)] (hI : Iv B (U 0))
    (hQ : ∀ j, j ≤ 1001 → ∀ r, r = sk_c c (U 0) 1001 0 → (j ≤ 1000 → r = nI j) → (j = 1001 → r = -1000004) → Q (nI j) (uA U 0 (t_mins j (U 0)))) (body : (Nat → Int32 → St → Prop) → Nat → Int32 → St → Prop)
    (hbody : ∀ (I : Nat → Int32 → St → Prop) (n : Nat) (x : Int32) (z : Rw) (B' : Nat), Iv B' z → (c z → Q x (uA U 0 z)) → (¬ c z → ∃ n1, n1 < n ∧ I n1 (x + 1) (uA U 0 (t_min z))) → body I n x (uA U 0 z)) :
    ∃ (I : Nat → Int32 → St → Prop) (n0 : Nat), I n0 0 U ∧ ∀ (n : Nat) (x : Int32) (D : St), I n x D → ((1000 < x → Q x D) ∧ (¬ (1000 < x) → body I n x D)) := by
  refine ⟨fun m x D => ∃ j : Nat, j ≤ 1001 ∧ m = 1001 - j ∧ x = nI j ∧ D = uA U 0 (t_mins j (U 0)) ∧ sk_c c (U 0) (1001 - j) j = sk_c c (U 0) 1001 0, 1001, ⟨0, by omega, rfl, rfl, (uA_id U 0).symm, rfl⟩, ?_⟩
  rintro m x D ⟨j, hj, rfl, rfl, rfl, hs⟩
  have hIj := iv_mins hI j
  refine ⟨fun q => ?_, fun q => ?_⟩
  · have := (nI_ltI (a := 1000) (by omega) (by omega)).mp q
    have e : j = 1001 := by omega
    subst e
    exact hQ 1001 (by omega) _ rfl (fun z => by omega) (fun _ => hs.symm)
  · have hj1 : j < 1001 := by
      have : ¬ 1000 < j := fun z => q (nI_lt (a := 1000) z (by omega))
      omega
    rw [show 1001 - j = (1000 - j) + 1 by omega, sk_c] at hs
    refine hbody _ _ _ (t_mins j (U 0)) (B + j) hIj (fun hc => ?_) (fun hc => ⟨1001 - (j + 1), by omega, j + 1, hj1, rfl, nI_1 j, rfl, ?_⟩)
    · rw [if_pos hc] at hs
      exact hQ j hj _ rfl (fun _ => hs.symm) (fun z => by omega)
    · rw [if_neg hc] at hs
      rw [show 1001 - (j + 1) = 1000 - j by omega]
      exact hs
/-- the answer at the end of the reference's loop -/
theorem v_seekEnd {M D : St} {Q : Int32 → St → Prop} {j : Nat} {r : Int32} (hj : j ≤ 1001) (h1 : j ≤ 1000 → r = nI j) (h2 : j = 1001 → r = -1000004) (hD : D 3 = fun k => if k < 86 then M 0 k else M 3 k) (h86 : ∀ j, 86 ≤ j → D 0 j = M 0 j) (hr : D 1 = M 1 ∧ D 4 = M 4 ∧ D 5 = M 5 ∧ D 6 = M 6 ∧ D 7 = M 7) (h : ∀ M', Bk M M' → Q r M') :
    q_X6_copies (fun i => cond (Nat.beq i 0) (D 3) (D 0)) (fun u => (nI j ≤ 1000 → Q (nI j) (uA (uA D 3 (u 0)) 0 (u 1))) ∧ (¬ (nI j ≤ 1000) → Q (-1000004) (uA (uA D 3 (u 0)) 0 (u 1)))) := by
  refine v_backX (M := M) (Q := fun M' => (nI j ≤ 1000 → Q (nI j) M') ∧ (¬ (nI j ≤ 1000) → Q (-1000004) M')) hD h86 hr fun M' hM => ⟨fun c => ?_, fun c => ?_⟩
  · have := (nI_leI (b := 1000) (by omega) (by omega)).mp c
    rw [← h1 this]
    exact h M' hM
  · have : ¬ j ≤ 1000 := fun q => c (nI_le (b := 1000) q (by omega))
    rw [← h2 (by omega)]
    exact h M' hM
abbrev soP (x y : Int32) (s : Rw) : Prop := if y = 0 then ¬ s 4 < x else ¬ x < s 4
def a_until (s : Rw) (x y : Int32) : Int32 := if (0 ≤ x ∧ x ≤ 9999) ∧ (0 ≤ y ∧ y ≤ 1) then sk_c (soP x y) s 1001 0 else -1000001
theorem v_until {M : St} {Q : Int32 → St → Prop} {x y : Int32} {B : Nat} (hI : Iv B (M 0)) (h : ∀ M', Bk M M' → Q (a_until (M 0) x y) M') : q_X6_minutesUntil x y M Q := by
  unfold a_until at h
  unfold q_X6_minutesUntil
  refine v_in (fun h1 h2 => ⟨fun q => absurd q (by decide), fun _ => v_in (fun h3 h4 => ⟨fun q => absurd q (by decide), fun _ => ?_⟩) (fun hne => ⟨fun _ => ?_, fun q => absurd rfl q⟩)⟩) (fun hne => ⟨fun _ => ?_, fun q => absurd rfl q⟩)
  · rw [if_pos ⟨⟨h1, h2⟩, ⟨h3, h4⟩⟩] at h
    refine v_aside (M := M) (Q := fun U => ∃ (I_7 : Nat → Int32 → St → Prop) (n_11 : Nat), I_7 n_11 0 U ∧ ∀ (n_6 : Nat) (x3_8 : Int32) (D_9 : St), I_7 n_6 x3_8 D_9 → ((1000 < x3_8 → q_X6_copies (fun i => cond (Nat.beq i 0) (D_9 3) (D_9 0)) (fun u_16 => (x3_8 ≤ 1000 → Q x3_8 (uA (uA D_9 3 (u_16 0)) 0 (u_16 1))) ∧ (¬ (x3_8 ≤ 1000) → Q (-1000004) (uA (uA D_9 3 (u_16 0)) 0 (u_16 1))))) ∧ (¬ (1000 < x3_8) → q_X6_isSo x y D_9 (fun r_18 => (r_18 = 0 → q_X6_passes D_9 (fun u_22 => ∃ n_23, n_23 < n_6 ∧ I_7 n_23 (x3_8 + 1) u_22)) ∧ (¬ (r_18 = 0) → q_X6_copies (fun i => cond (Nat.beq i 0) (D_9 3) (D_9 0)) (fun u_20 => (x3_8 ≤ 1000 → Q x3_8 (uA (uA D_9 3 (u_20 0)) 0 (u_20 1))) ∧ (¬ (x3_8 ≤ 1000) → Q (-1000004) (uA (uA D_9 3 (u_20 0)) 0 (u_20 1)))))))) ) ?_
    refine v_seek (B := B) (c := soP x y) (U := uA (uA M 0 (M 0)) 3 (fun k => if k < 86 then M 0 k else M 3 k)) (Q := fun x3 D => q_X6_copies (fun i => cond (Nat.beq i 0) (D 3) (D 0)) (fun u_16 => (x3 ≤ 1000 → Q x3 (uA (uA D 3 (u_16 0)) 0 (u_16 1))) ∧ (¬ (x3 ≤ 1000) → Q (-1000004) (uA (uA D 3 (u_16 0)) 0 (u_16 1))))) hI (fun j hj r hr h1 h2 => ?_) (fun I n_6 x3_8 D_9 => q_X6_isSo x y D_9 (fun r_18 => (r_18 = 0 → q_X6_passes D_9 (fun u_22 => ∃ n_23, n_23 < n_6 ∧ I n_23 (x3_8 + 1) u_22)) ∧ (¬ (r_18 = 0) → q_X6_copies (fun i => cond (Nat.beq i 0) (D_9 3) (D_9 0)) (fun u_20 => (x3_8 ≤ 1000 → Q x3_8 (uA (uA D_9 3 (u_20 0)) 0 (u_20 1))) ∧ (¬ (x3_8 ≤ 1000) → Q (-1000004) (uA (uA D_9 3 (u_20 0)) 0 (u_20 1))))))) (fun I n x3 z B' hz hyes hno => ?_)
    · refine v_seekEnd (M := M) hj h1 h2 rfl (mins_86 hI j) ⟨rfl, rfl, rfl, rfl, rfl⟩ ?_
      rw [hr]; exact h
    · obtain ⟨nz, noz, nmz, hCz, hoz⟩ := hz
      have no : ¬ soP x y z → q_X6_passes (uA (uA (uA M 0 (M 0)) 3 (fun k => if k < 86 then M 0 k else M 3 k)) 0 z) (fun u_22 => ∃ n_23, n_23 < n ∧ I n_23 (x3 + 1) u_22) := fun q => by
        refine v_passes (B := B') (n := nz) (no := noz) (nm := nmz) (by rw [uA_s]; exact hCz) (by rw [uA_s]; exact hoz) ?_
        have := hno q
        rw [uA_s, uA_uA]
        exact this
      unfold q_X6_isSo
      rw [uA_s]
      refine ⟨fun e => ⟨fun q => ⟨fun _ => no ?_, fun z => absurd rfl z⟩, fun q => ⟨fun z => absurd z (by decide), fun _ => hyes ?_⟩⟩, fun e => ⟨fun q => ⟨fun _ => no ?_, fun z => absurd rfl z⟩, fun q => ⟨fun z => absurd z (by decide), fun _ => hyes ?_⟩⟩⟩
      · show ¬ (if y = 0 then ¬ z 4 < x else ¬ x < z 4)
        rw [if_pos e]; exact fun w => w q
      · show (if y = 0 then ¬ z 4 < x else ¬ x < z 4)
        rw [if_pos e]; exact q
      · show ¬ (if y = 0 then ¬ z 4 < x else ¬ x < z 4)
        rw [if_neg e]; exact fun w => w q
      · show (if y = 0 then ¬ z 4 < x else ¬ x < z 4)
        rw [if_neg e]; exact q
  · rw [if_neg fun q => hne q.2] at h
    exact h M (Bk.rfl' M)
  · rw [if_neg fun q => hne q.1] at h
    exact h M (Bk.rfl' M)
theorem s_until {X : Nat → St} {M : St} {x y : Int32} (hJ : Jr X M) : q_X5_minutesUntil x y X (fun r X1 => q_X6_minutesUntil x y M (fun r1 M1 => r = r1 ∧ Jr X1 M1)) := by
  obtain ⟨-, jR, jI, jM, -⟩ := id hJ
  obtain ⟨n, no, nm, hC, ho⟩ := id jI
  unfold q_X5_minutesUntil
  have bad : ¬ ((0 ≤ x ∧ x ≤ 9999) ∧ (0 ≤ y ∧ y ≤ 1)) → q_X6_minutesUntil x y M (fun r1 M1 => (-1000001) = r1 ∧ Jr X M1) := fun q => v_until jI fun M' hM => by
    rw [a_until, if_neg q]
    exact ⟨rfl, hJ.back hM (fun _ _ _ => rfl) rfl rfl (jM 2 (by decide) (by decide))⟩
  refine ⟨fun c => bad fun q => absurd q.1.1 (Int32.not_le.mpr c), fun c1 => ⟨fun c => bad fun q => absurd q.1.2 (Int32.not_le.mpr c), fun c2 => ⟨fun c => bad fun q => absurd q.2.1 (Int32.not_le.mpr c), fun c3 => ⟨fun c4 => ?_, fun c => bad fun q => c q.2.2⟩⟩⟩⟩
  have hin : (0 ≤ x ∧ x ≤ 9999) ∧ (0 ≤ y ∧ y ≤ 1) := ⟨⟨Int32.not_lt.mp c1, Int32.not_lt.mp c2⟩, Int32.not_lt.mp c3, c4⟩
  refine c_copy jR hC (jM 2 (by decide) (by decide)) fun E hE => ?_
  refine c_seek (B := 50000) (X0 := uX X 2 E) (s := M 0) (c := soP x y) (Q := fun r X1 => q_X6_minutesUntil x y M (fun r1 M1 => r = r1 ∧ Jr X1 M1)) jI (by rw [uX_s]; exact hE) (fun X' hX hm => v_until jI fun M' hM => ⟨?_, ?_⟩) (fun I n_6 x3_8 D_9 => q_X0_water (D_9 2) (fun r_16 => (y = 0 → (r_16 < x → q_X0_letPass 1 (D_9 2) (fun u_24 => ∃ n_25, n_25 < n_6 ∧ I n_25 (x3_8 + 1) (uX D_9 2 u_24))) ∧ (¬ (r_16 < x) → q_X6_minutesUntil x y M (fun r1 M1 => x3_8 = r1 ∧ Jr D_9 M1))) ∧ (¬ (y = 0) → (x < r_16 → q_X0_letPass 1 (D_9 2) (fun u_19 => ∃ n_20, n_20 < n_6 ∧ I n_20 (x3_8 + 1) (uX D_9 2 u_19))) ∧ (¬ (x < r_16) → q_X6_minutesUntil x y M (fun r1 M1 => x3_8 = r1 ∧ Jr D_9 M1))))) (fun I m x3 Y z B' hz hR hyes hno => ?_)
  · rw [a_until, if_pos hin]
  · exact hJ.back hM (fun j z1 z2 => by rw [hX j z2, uX_n z2]) (by rw [hX 0 (by decide)]; rfl) (by rw [hX 0 (by decide)]; rfl) hm
  · have no : ¬ soP x y z → q_X0_letPass 1 (Y 2) (fun u_24 => ∃ n_25, n_25 < m ∧ I n_25 (x3 + 1) (uX Y 2 u_24)) := fun q => c_letPass 1 (by decide) rfl hR hz fun D' hD' => hno q D' hD'
    obtain ⟨nz, noz, nmz, hCz, -⟩ := hz
    unfold q_X0_water
    rw [(hR nz noz nmz hCz.1).2.2.2.2.1.1]
    refine ⟨fun e => ⟨fun q => no ?_, fun q => hyes ?_⟩, fun e => ⟨fun q => no ?_, fun q => hyes ?_⟩⟩
    · show ¬ (if y = 0 then ¬ z 4 < x else ¬ x < z 4)
      rw [if_pos e]; exact fun w => w q
    · show (if y = 0 then ¬ z 4 < x else ¬ x < z 4)
      rw [if_pos e]; exact q
    · show ¬ (if y = 0 then ¬ z 4 < x else ¬ x < z 4)
      rw [if_neg e]; exact fun w => w q
    · show (if y = 0 then ¬ z 4 < x else ¬ x < z 4)
      rw [if_neg e]; exact q
