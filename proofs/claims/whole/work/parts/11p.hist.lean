/-! Minutes as a change; copies; what was; the relation of class and reference. -/
theorem v_many {B : Nat} {K : St → Prop} {U : St} {x0 : Int32} (k : Nat) (hx : x0 = nI k) (hk : k < 1000000) (hI : Iv B (U 0)) (h : K (uA U 0 (t_mins k (U 0)))) :
    ∃ (I : Nat → Int32 → St → Prop) (n0 : Nat), I n0 0 U ∧ ∀ (n : Nat) (x : Int32) (D : St), I n x D → ((x0 ≤ x → K D) ∧ (¬ (x0 ≤ x) → q_X6_passes D (fun u => ∃ n1, n1 < n ∧ I n1 (x + 1) u))) := by
  subst hx
  refine ⟨fun m x D => ∃ j : Nat, j ≤ k ∧ m = k - j ∧ x = nI j ∧ D = uA U 0 (t_mins j (U 0)), k, ⟨0, Nat.zero_le _, rfl, rfl, (uA_id U 0).symm⟩, ?_⟩
  rintro m x D ⟨j, hj, rfl, rfl, rfl⟩
  refine ⟨fun c => ?_, fun c => ?_⟩
  · have := (nI_leI (by omega) (by omega)).mp c
    rw [show j = k by omega]
    exact h
  · have hjk : j < k := Nat.not_le.mp fun q => c (nI_le q (by omega))
    obtain ⟨n, no, nm, hC, ho⟩ := iv_mins hI j
    refine v_passes (B := B + j) (n := n) (no := no) (nm := nm) (by rw [uA_s]; exact hC) (by rw [uA_s]; exact ho) ⟨k - (j + 1), by omega, j + 1, hjk, rfl, nI_1 j, ?_⟩
    rw [uA_s, uA_uA]
    rfl
def a_ref (s : Rw) (x : Int32) : Int32 := if 1 ≤ x ∧ x ≤ 240 then (if s 12 + x ≤ 50000 then 0 else -1000003) else -1000001
theorem ref_ok {s : Rw} {x : Int32} (h : ¬ a_ref s x < 0) : (∃ k, k ≤ 240 ∧ x = nI k) ∧ s 12 + x ≤ 50000 ∧ a_ref s x = 0 := by
  unfold a_ref at h ⊢
  by_cases c : 1 ≤ x ∧ x ≤ 240
  · rw [if_pos c] at h ⊢
    by_cases c2 : s 12 + x ≤ 50000
    · rw [if_pos c2]
      exact ⟨nat_of (Int32.le_trans (by decide) c.1) c.2 (b := 240) rfl (by omega), c2, rfl⟩
    · rw [if_neg c2] at h
      exact absurd (by decide) h
  · rw [if_neg c] at h
    exact absurd (by decide) h
theorem v_pass {B : Nat} {M : St} {P : St → Prop} {Q : Int32 → St → Prop} {x : Int32} (hch : Chg M P) (hI : Iv B (M 0))
    (he : a_ref (M 0) x < 0 → Q (a_ref (M 0) x) M) (hok : ¬ a_ref (M 0) x < 0 → ∀ u, u 0 = M 0 → P u → Q (t_mins x.toNatClampNeg (M 0) 4) (uA u 0 (t_mins x.toNatClampNeg (M 0)))) : q_X6_pass x M Q := by
  unfold q_X6_pass
  have hr := @ref_ok (M 0) x
  unfold a_ref at he hok hr
  refine v_in (fun h1 h2 => ⟨fun q => absurd q (by decide), fun _ => ?_⟩) (fun hne => ⟨fun _ => ?_, fun q => absurd rfl q⟩)
  · rw [if_pos ⟨h1, h2⟩] at he hok hr
    refine ⟨fun c => hch _ fun u hu hP => ?_, fun c => ?_⟩
    · rw [if_pos c] at hok hr
      obtain ⟨⟨k, hk, e⟩, -⟩ := hr (by decide)
      have ek : x.toNatClampNeg = k := by rw [e]; exact nI_c _ (by omega)
      have := hok (by decide) u hu hP
      rw [ek] at this
      exact v_many (B := B) k e (by omega) (by rw [hu]; exact hI) (by rw [uA_s, hu]; exact this)
    · rw [if_neg c] at he
      exact he (by decide)
  · rw [if_neg hne] at he
    exact he (by decide)
theorem c_refusal {n no nm : Nat} {D : St} {s : Rw} {Q : Int32 → Prop} {x : Int32} (hR : Rl D s) (hc : Cn n no nm s) (h : Q (a_ref s x)) : q_X0_refusalToPass x D Q := by
  have e : D 20 0 = s 12 := (hR n no nm hc).2.2.2.2.1.2.2.2.2.2.1
  unfold q_X0_refusalToPass
  rw [e]
  unfold a_ref at h
  refine ⟨fun c => ?_, fun c1 => ⟨fun c2 => ⟨fun c3 => ?_, fun c3 => ?_⟩, fun c2 => ?_⟩⟩
  · rw [if_neg fun q => absurd q.1 (Int32.not_le.mpr c)] at h; exact h
  · rw [if_pos ⟨Int32.not_lt.mp c1, c2⟩, if_pos c3] at h; exact h
  · rw [if_pos ⟨Int32.not_lt.mp c1, c2⟩, if_neg c3] at h; exact h
  · rw [if_neg fun q => c2 q.2] at h; exact h
theorem Iv.mono {B B' : Nat} {s : Rw} (h : Iv B s) (hB : B ≤ B') : Iv B' s := by
  obtain ⟨n, no, nm, ⟨h1, h2, h3, h4, h5, f, m, v1, v2, v3, v4⟩, ho⟩ := h
  exact ⟨n, no, nm, ⟨h1, h2, h3, h4, h5, f, m, v1, by omega, v3, v4⟩, ho⟩
theorem iv_pass {s : Rw} {x : Int32} {k : Nat} (hI : Iv 50000 s) (hx : x = nI k) (hk : k ≤ 240) (h : s 12 + x ≤ 50000) : Iv 50000 (t_mins k s) := by
  obtain ⟨n, no, nm, ⟨h1, h2, h3, h4, h5, f, m, v1, v2, v3, v4⟩, ho⟩ := hI
  have hm : Iv m s := ⟨n, no, nm, ⟨h1, h2, h3, h4, h5, f, m, v1, Nat.le_refl _, v3, v4⟩, ho⟩
  rw [v4, hx, nI_add] at h
  have := (nI_leI (b := 50000) (by omega) (by omega)).mp h
  exact (iv_mins hm k).mono this
theorem iv_water {B : Nat} {s : Rw} (h : Iv B s) : ∃ w, w ≤ 9999 ∧ s 4 = nI w := by
  obtain ⟨n, no, nm, h1, -⟩ := h
  exact h1.2.2.2.2.1.2.2.2.1
theorem v_copies {S : St} {Q : St → Prop} (h : ∀ f : Nat → Int32, (∀ k, k < 86 → f k = S 0 k) → Q (uA S 1 f)) : q_X6_copies S Q := by
  unfold q_X6_copies
  refine ⟨fun m x D => ∃ k : Nat, k ≤ 86 ∧ m = 86 - k ∧ x = nI k ∧ ∃ f, D = uA S 1 f ∧ ∀ j, j < k → f j = S 0 j, 86, ⟨0, by omega, rfl, rfl, S 1, (uA_id S 1).symm, fun j hj => by omega⟩, ?_⟩
  rintro m x D ⟨k, hk, rfl, rfl, f, rfl, hf⟩
  refine ⟨fun c => h f fun j hj => hf j ?_, fun c => ?_⟩
  · have := (nI_leI (a := 86) (by omega) (by omega)).mp c
    omega
  · have hk86 : k < 86 := Nat.not_le.mp fun q => c (nI_le (a := 86) q (by omega))
    refine ⟨vp_in_nI hk86 (by omega), 86 - (k + 1), by omega, k + 1, hk86, rfl, nI_1 k, _, by rw [uA_uA], fun j hj => ?_⟩
    rw [nI_c _ (by omega), uA_s]
    by_cases e : j = k
    · subst e; rw [upd_s]; rfl
    · rw [upd_n e]; exact hf j (by omega)
theorem Core.ag {d B n no nm : Nat} {s s' : Rw} (h : Core d B n no nm s) (hj : ∀ j, j < 86 → s' j = s j) : Core d B n no nm s' :=
  ⟨h.1.cong (hj _ (by decide)) (hj _ (by decide)) (hj _ (by decide)), h.2.1.cong h.1.2.1 h.1.2.2.1 fun j _ b => hj j (by omega), h.2.2.1.cong fun g w hg _ => hj _ (by have := h.1.1; omega), h.2.2.2.1.cong (hj _ (by decide)) (hj _ (by decide)), h.2.2.2.2.1.cong (hj _ (by decide)) (hj _ (by decide)) (hj _ (by decide)) (hj _ (by decide)) (hj _ (by decide)) (hj _ (by decide)) (hj _ (by decide)), h.2.2.2.2.2.cong (hj _ (by decide)) (hj _ (by decide))⟩
theorem Iv.ag {B : Nat} {s s' : Rw} (h : Iv B s) (hj : ∀ j, j < 86 → s' j = s j) : Iv B s' := by
  obtain ⟨n, no, nm, h1, h2⟩ := h
  exact ⟨n, no, nm, h1.ag hj, h2.cong h1.2.2.2.1 h1.1.1 (hj _ (by decide)) (hj _ (by decide)) fun g hg => hj _ (by have := h1.1.1; omega)⟩
theorem Rl.ag {D : St} {s s' : Rw} (h : Rl D s) (hj : ∀ j, j < 86 → s' j = s j) : Rl D s' := by
  intro n no nm hc'
  have hc : Cn n no nm s := hc'.cong (hj _ (by decide)).symm (hj _ (by decide)).symm (hj _ (by decide)).symm
  obtain ⟨rg, ro, rm, rs, rn, r7, r8⟩ := h n no nm hc
  have h8 := hc.1
  have ho8 := hc.2.1
  have hm4 := hc.2.2.1
  refine ⟨rg.cong fun g w hg hw => (hj _ (by omega)).symm, ro.cong (fun k hk => (hj _ (by omega)).symm) (fun k hk => (hj _ (by omega)).symm), rm.cong (fun k hk => (hj _ (by omega)).symm) (fun k hk => (hj _ (by omega)).symm), rs.cong fun j q => (hj _ (by omega)).symm, rn.cong fun j z1 z2 z3 z4 z5 z6 => (hj _ (by omega)).symm, r7.trans (hj _ (by decide)).symm, fun q => ?_⟩
  rw [hj 7 (by decide)] at q
  exact (r8 q).trans (hj _ (by decide)).symm
def Mo (D : St) : Prop := D 8 0 = 8 ∧ D 12 0 = 4
theorem Rl.mo {n no nm : Nat} {D : St} {s : Rw} (h : Rl D s) (hc : Cn n no nm s) : Mo D := ⟨(h n no nm hc).2.1.1, (h n no nm hc).2.2.1.1⟩
theorem cpy8 {f g : Nat → Int32} {j : Nat} (h : j < 8) : va_cpy f g 0 0 8 j = f j := by
  rw [pk_cpy_in (Nat.zero_le j) (by omega), Nat.zero_add, Nat.sub_zero]
theorem cpy3 {f g : Nat → Int32} {j : Nat} (h : j < 3) : va_cpy f g 0 0 3 j = f j := by
  rw [pk_cpy_in (Nat.zero_le j) (by omega), Nat.zero_add, Nat.sub_zero]
theorem c_copy {d B n no nm : Nat} {D E : St} {s : Rw} {Q : St → Prop} (hR : Rl E s) (hC : Core d B n no nm s) (hD : Mo D) (h : ∀ D', Rl D' s → Q D') : q_X0_copyFrom D E Q := by
  have hc := hC.1
  have h8 := hc.1
  have ho8 := hc.2.1
  have hm4 := hc.2.2.1
  obtain ⟨rg, ro, rm, rs, rn, r7, r8⟩ := hR n no nm hc
  obtain ⟨n1, n2, n3, n4, n5, n6, n7, n8, n9, n10, n11, n12⟩ := rn
  unfold q_X0_copyFrom q_X1_copyFrom q_X4_copyFrom
  refine ⟨?_, h _ (Rl.of hc ⟨⟨rg.1, fun g hg => (cpy8 (by omega)).trans (rg.2.1 g hg), fun g hg => (cpy8 (by omega)).trans (rg.2.2.1 g hg), fun g hg => (cpy8 (by omega)).trans (rg.2.2.2.1 g hg), fun g hg => (cpy8 (by omega)).trans (rg.2.2.2.2.1 g hg), fun g hg => (cpy8 (by omega)).trans (rg.2.2.2.2.2 g hg)⟩, ⟨hD.1, ro.2.1, fun k hk => (cpy8 (by omega)).trans (ro.2.2.1 k hk), fun k hk => (cpy8 (by omega)).trans (ro.2.2.2 k hk)⟩, ⟨hD.2, rm.2.1, fun k hk => (cpy8 (by omega)).trans (rm.2.2.1 k hk), fun k hk => (cpy8 (by omega)).trans (rm.2.2.2 k hk)⟩, ⟨(cpy3 (g := D 14) (by omega)).trans rs.1, (cpy3 (g := D 14) (by omega)).trans rs.2.1, (cpy3 (g := D 14) (by omega)).trans rs.2.2⟩, ⟨n1, n2, n3, n4, n5, n6, n7, n8, n9, n10, n11, n12⟩, r7, r8⟩)⟩
  rw [n7]
  exact hC.2.2.2.2.1.2.1
theorem chg_run {M : St} (h5 : ¬ M 5 0 = 0) : Chg M (fun u => u = M) := fun Q' hQ => by
  unfold q_X6_changes
  exact ⟨fun c => absurd c h5, fun _ => hQ M rfl rfl⟩
def Psh (p : Nat) (M u : St) : Prop := (∀ j, j ≠ 1 → j ≠ 4 → u j = M j) ∧ (p < 4 → u 4 0 = nI (p + 1) ∧ (∀ i k, i < p → k < 86 → u 1 (86 * i + k) = M 1 (86 * i + k)) ∧ ∀ k, k < 86 → u 1 (86 * p + k) = M 0 k) ∧ (p = 4 → u 4 0 = nI 4 ∧ (∀ i k, i < 3 → k < 86 → u 1 (86 * i + k) = M 1 (86 * (i + 1) + k)) ∧ ∀ k, k < 86 → u 1 (86 * 3 + k) = M 0 k)
theorem v_push {E : St} {Q : St → Prop} (p : Nat) (hp : p < 4) (h4 : E 4 0 = nI p) (h : ∀ f, (∀ k, k < 86 → f (86 * p + k) = E 0 k) → (∀ b, b < 86 * p → f b = E 1 b) → Q (uA (uA E 1 f) 4 (fun _ => nI (p + 1)))) :
    ∃ (I_4 : Nat → Int32 → St → Prop) (n_8 : Nat), I_4 n_8 0 E ∧ ∀ (n_3 : Nat) (x1_5 : Int32) (D_6 : St), I_4 n_3 x1_5 D_6 → ((86 ≤ x1_5 → Q (uA D_6 4 (fun _ => ((D_6 4 0) + 1)))) ∧ (¬ (86 ≤ x1_5) → vp_in x1_5 86 ∧ (vp_in ((86 * (D_6 4 0)) + x1_5) 344 ∧ (∃ n_15, n_15 < n_3 ∧ I_4 n_15 (x1_5 + 1) (uA D_6 1 (upd (D_6 1) ((((86 * (D_6 4 0)) + x1_5)).toNatClampNeg) ((D_6 0) ((x1_5).toNatClampNeg)))))))) := by
  refine ⟨fun m x D => ∃ k : Nat, k ≤ 86 ∧ m = 86 - k ∧ x = nI k ∧ ∃ f, D = uA E 1 f ∧ (∀ j, j < k → f (86 * p + j) = E 0 j) ∧ ∀ b, b < 86 * p → f b = E 1 b, 86, ⟨0, by omega, rfl, rfl, E 1, (uA_id E 1).symm, fun j hj => by omega, fun _ _ => rfl⟩, ?_⟩
  rintro m x D ⟨k, hk, rfl, rfl, f, rfl, hf, hb⟩
  have e4 : (uA E 1 f) 4 0 = nI p := h4
  rw [e4, nI_1]
  refine ⟨fun c => h f (fun j hj => hf j ?_) hb, fun c => ?_⟩
  · have := (nI_leI (a := 86) (by omega) (by omega)).mp c
    omega
  · have hk86 : k < 86 := Nat.not_le.mp fun q => c (nI_le (a := 86) q (by omega))
    have e : (86 : Int32) * nI p + nI k = nI (86 * p + k) := by
      rw [show (86 : Int32) = nI 86 from rfl, pk_mul, nI_add]
    rw [e]
    refine ⟨vp_in_nI hk86 (by omega), vp_in_nI (by omega) (by omega), 86 - (k + 1), by omega, k + 1, hk86, rfl, nI_1 k, _, by rw [uA_uA], fun j hj => ?_, fun b hb2 => ?_⟩
    · rw [nI_c _ (by omega), nI_c _ (by omega), uA_s]
      by_cases e : j = k
      · subst e; rw [upd_s]; rfl
      · rw [upd_n (by omega)]; exact hf j (by omega)
    · rw [nI_c _ (by omega), uA_s, upd_n (by omega)]
      exact hb b hb2
theorem chg_push {M : St} {p : Nat} (h5 : M 5 0 = 0) (hp : p ≤ 4) (h4 : M 4 0 = nI p) : Chg M (Psh p M) := fun Q' hQ => by
  unfold q_X6_changes
  refine ⟨fun _ => ⟨fun c4 => ?_, fun c4 => ?_⟩, fun c => absurd h5 c⟩
  · have e : p = 4 := (nI_eq (b := 4) (by omega) (by omega)).mp (h4.symm.trans c4)
    subst e
    refine ⟨fun m x D => ∃ k : Nat, k ≤ 258 ∧ m = 258 - k ∧ x = nI k ∧ ∃ f, D = uA M 1 f ∧ (∀ b, b < k → f b = M 1 (b + 86)) ∧ ∀ b, k ≤ b → f b = M 1 b, 258, ⟨0, by omega, rfl, rfl, M 1, (uA_id M 1).symm, fun b hb => by omega, fun _ _ => rfl⟩, ?_⟩
    rintro m x D ⟨k, hk, rfl, rfl, f, rfl, hf, hb⟩
    refine ⟨fun c => ?_, fun c => ?_⟩
    · have := (nI_leI (a := 258) (by omega) (by omega)).mp c
      have hk : k = 258 := by omega
      subst hk
      have e4 : (uA M 1 f) 4 0 = nI 4 := h4
      rw [e4]
      refine v_push (E := uA (uA M 1 f) 4 (fun _ => nI 4 - 1)) 3 (by decide) rfl fun g h1 h2 => hQ _ rfl ⟨fun j z1 z2 => ?_, fun q => by omega, fun _ => ⟨rfl, fun i k hi hk => ?_, h1⟩⟩
      · rw [uA_n z2, uA_n z1, uA_n z2, uA_n z1]
      · show g (86 * i + k) = _
        rw [h2 _ (by omega)]
        show f (86 * i + k) = _
        rw [hf _ (by omega), show 86 * i + k + 86 = 86 * (i + 1) + k by omega]
    · have hk86 : k < 258 := Nat.not_le.mp fun q => c (nI_le (a := 258) q (by omega))
      have e : nI k + 86 = nI (k + 86) := nI_add k 86
      rw [e]
      refine ⟨vp_in_nI (by omega) (by omega), vp_in_nI (by omega) (by omega), 258 - (k + 1), by omega, k + 1, hk86, rfl, nI_1 k, _, by rw [uA_uA], fun b hb2 => ?_, fun b hb2 => ?_⟩
      · rw [nI_c _ (by omega), nI_c _ (by omega), uA_s]
        by_cases e : b = k
        · subst e; rw [upd_s]; exact hb _ (by omega)
        · rw [upd_n e]; exact hf b (by omega)
      · rw [nI_c _ (by omega), uA_s, upd_n (by omega)]
        exact hb b (by omega)
  · have hp4 : p < 4 := by
      rcases Nat.lt_or_ge p 4 with q | q
      · exact q
      · exact absurd (by rw [h4, show p = 4 by omega]; rfl) c4
    refine v_push p hp4 h4 fun f h1 h2 => hQ _ rfl ⟨fun j z1 z2 => ?_, fun _ => ⟨rfl, fun i k hi hk => ?_, h1⟩, fun q => by omega⟩
    · rw [uA_n z2, uA_n z1]
    · exact h2 _ (by have : 86 * i + 86 ≤ 86 * p := by omega
                     omega)
