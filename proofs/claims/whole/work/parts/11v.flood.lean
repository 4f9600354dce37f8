/-! The least inflow by which a flood begins. -/
theorem flows_water {d B n no nm w i : Nat} {s : Rw} (h : Core d B n no nm s) (hw : w ≤ 9999) (ew : s 4 = nI w) (hi : i ≤ 300) (ei : s 5 = nI i) : ∃ w', w' ≤ w + i ∧ t_flows s 4 = nI w' := by
  obtain ⟨⟨a1, a2, a3, a4, a5, a6⟩, b, c, t, u, v⟩ := id h
  obtain ⟨u1, u2, u3, -, -, u6, u7⟩ := u
  have ehd : s 4 / 1000 + 1 = nI (w / 1000 + 1) := by
    rw [ew, show (1000 : Int32) = nI 1000 from rfl, pk_div (by omega) (by decide) (by decide), nI_1]
  unfold t_flows
  rw [cn_of a4 (by omega), ehd]
  have h1 : CoreW d B (w + i) n no nm (upd (upd s 4 (s 4 + s 5)) 13 (s 13 + s 5)) := by
    refine ⟨?_, w + i, Nat.le_refl _, ?_⟩
    · exact core_low (CoreW.of h) (fun j hj => by rw [upd_n (by omega), upd_n (by omega), upd_n (by omega), upd_n (by omega)]) rfl rfl rfl (t.cong rfl rfl) ⟨u1, u2, u3, ⟨0, by omega, rfl⟩, ⟨i, hi, ei⟩, u6, u7⟩ (v.cong rfl rfl)
    · rw [upd_n (by decide), upd_s, ew, ei, nI_add]
  have hfl := fl_ok (hd := w / 1000 + 1) (by omega) n (by omega) h1 (Nat.le_refl n)
  generalize t_fl (nI (w / 1000 + 1)) n (upd (upd s 4 (s 4 + s 5)) 13 (s 13 + s 5)) = z at hfl
  obtain ⟨h2, w2, hw2, ew2⟩ := hfl
  unfold t_over
  rw [upd_s, ew2, show (9999 : Int32) = nI 9999 from rfl]
  by_cases hle : w2 ≤ 9999
  · rw [if_pos ((nI_leI (b := 9999) (by omega) (by omega)).mpr hle)]
    exact ⟨w2, hw2, by rw [show (0 : Int32) = nI 0 from rfl, pk_sub (by omega)]; rfl⟩
  · rw [if_neg fun q => hle ((nI_leI (b := 9999) (by omega) (by omega)).mp q)]
    refine ⟨9999, by omega, ?_⟩
    rw [pk_sub (by omega), pk_sub (by omega), show w2 - (w2 - 9999) = 9999 by omega]
theorem min_water {B n no nm w i : Nat} {s : Rw} (h : Core 0 B n no nm s) (ho : Opn s) (hw : w ≤ 9999) (ew : s 4 = nI w) (hi : i ≤ 300) (ei : s 5 = nI i) : ∃ w', w' ≤ w + i ∧ t_min s 4 = nI w' := by
  obtain ⟨no', nm', h1, -, k, -⟩ := half_core h ho
  obtain ⟨w', hw', e⟩ := flows_water h1 hw ((k 4 (Or.inr rfl)).trans ew) hi ((k 5 (Or.inl (Or.inr (Or.inl rfl)))).trans ei)
  exact ⟨w', hw', by rw [t_min_half, upd_n (by decide)]; exact e⟩
theorem mins_water {B w i : Nat} {s : Rw} (hI : Iv B s) (hw : w ≤ 9999) (ew : s 4 = nI w) (hi : i ≤ 300) (ei : s 5 = nI i) : ∀ t, ∃ w', w' ≤ 9999 ∧ w' ≤ w + i * t ∧ t_mins t s 4 = nI w'
  | 0 => ⟨w, hw, by omega, ew⟩
  | t + 1 => by
    obtain ⟨w1, h1, h2, e1⟩ := mins_water hI hw ew hi ei t
    obtain ⟨n, no, nm, hC, ho⟩ := iv_mins hI t
    obtain ⟨w2, h3, e2⟩ := min_water hC ho h1 e1 hi ((mins_keep hI (Or.inr (Or.inl rfl)) t).trans ei)
    obtain ⟨w3, h4, e3⟩ := iv_water (iv_mins hI (t + 1))
    have e2 : t_mins (t + 1) s 4 = nI w2 := e2
    have e : w3 = w2 := (nI_eq (by omega) (by omega)).mp (e3.symm.trans e2)
    refine ⟨w2, by omega, ?_, e2⟩
    rw [Nat.mul_succ]
    omega
theorem mins_add (s : Rw) (j : Nat) : ∀ t, t_mins t (t_mins j s) = t_mins (j + t) s
  | 0 => rfl
  | t + 1 => congrArg t_min (mins_add s j t)
abbrev duP (s : Rw) : Prop := s 9 = 0 ∧ ¬ s 4 < s 0
/-- 1 if a flood begins at the beginning of one of f minutes, from j on -/
def fb_d (s : Rw) : Nat → Nat → Int32
  | 0, _ => 0
  | f + 1, j => if duP (t_mins j s) then 1 else fb_d s f (j + 1)
theorem fbd_01 (s : Rw) : ∀ f j, fb_d s f j = 0 ∨ fb_d s f j = 1
  | 0, _ => Or.inl rfl
  | f + 1, j => by
    unfold fb_d
    split
    · exact Or.inr rfl
    · exact fbd_01 s f (j + 1)
theorem fbd_none (s : Rw) : ∀ f j, (∀ t, t < f → ¬ duP (t_mins (j + t) s)) → fb_d s f j = 0
  | 0, _, _ => rfl
  | f + 1, j, h => by
    unfold fb_d
    rw [if_neg (show ¬ duP (t_mins j s) from h 0 (by omega))]
    exact fbd_none s f (j + 1) fun t ht => by
      have := h (t + 1) (by omega)
      rw [show j + 1 + t = j + (t + 1) by omega]
      exact this
theorem iv_in {B : Nat} {s : Rw} {x : Int32} (hI : Iv B s) (hx : 0 ≤ x ∧ x ≤ 300) : Iv B (upd s 5 x) := by
  obtain ⟨n, no, nm, hC, ho⟩ := hI
  have := core_num (p := 5) hC (by omega) (nums_inflow hC.2.2.2.2.1 hx)
  exact ⟨n, no, nm, this.1, this.2 ho⟩
theorem c_due {D : St} {s : Rw} {n no nm : Nat} {Q : Int32 → Prop} (hR : Rl D s) (hc : Cn n no nm s) (h : Q (if duP s then 1 else 0)) : q_X0_floodIsDue D Q := by
  obtain ⟨rg, ro, rm, rs, rn, r7, r8⟩ := hR n no nm hc
  obtain ⟨n1, n2, n3, n4, n5, n6, n7, n8, n9, n10, n11, n12⟩ := rn
  unfold q_X0_floodIsDue
  rw [n7, n1, rs.1]
  refine ⟨fun c => ⟨fun c2 => ?_, fun c2 => ?_⟩, fun c => ?_⟩
  · rw [if_neg fun q : duP s => q.2 c2] at h; exact h
  · rw [if_pos (show duP s from ⟨c, c2⟩)] at h; exact h
  · rw [if_neg fun q : duP s => c q.1] at h; exact h
theorem neg1 : ¬ (0 : Int32) ≤ -1 := by decide
/-- the class: does a flood begin within k minutes -/
theorem c_begins {B : Nat} {X : Nat → St} {s : Rw} {Q : Int32 → (Nat → St) → Prop} {x y : Int32} {k i : Nat} (hI : Iv B s) (hR : Rl (X 1) s) (hM : Mo (X 2)) (hi : i ≤ 300) (ex : x = nI i) (hk : k ≤ 60) (hk1 : 1 ≤ k) (ey : y = nI k)
    (hQ : ∀ X', (∀ j, j ≠ 2 → X' j = X j) → Mo (X' 2) → Q (fb_d (upd s 5 x) k 0) X') : q_X5_floodBegins x y X Q := by
  obtain ⟨n, no, nm, hC, ho⟩ := id hI
  have hp := num_pos hC.2.2.2.2.1
  have hx : 0 ≤ x ∧ x ≤ 300 := by rw [ex]; exact ⟨nI_pos' (by omega), nI_le (b := 300) hi (by omega)⟩
  have hI2 := iv_in hI hx
  have e5 : (upd s 5 x) 5 = nI i := by rw [upd_s, ex]
  unfold q_X5_floodBegins
  refine c_copy hR hC hM fun E hE => ?_
  have ea : a_inflow s x = s 5 := by
    unfold a_inflow
    rw [if_pos hx]
  refine c_inflow hE hC.1 hp.2.2 (fun q => absurd q (by rw [ea]; exact hp.2.2)) (fun _ D' hD' => ?_)
  generalize upd s 5 x = s0 at hQ hI2 e5 hD'
  refine ⟨fun m z Y => ∃ j : Nat, j ≤ k ∧ m = k - j ∧ z = nI (k - j) - 1 ∧ (∀ i, i ≠ 2 → Y i = X i) ∧ Rl (Y 2) (t_mins j s0) ∧ fb_d s0 (k - j) j = fb_d s0 k 0, k, ⟨0, by omega, rfl, by rw [ey, Nat.sub_zero], fun j hj => by rw [uX_n hj, uX_n hj], by rw [uX_s]; exact hD', rfl⟩, ?_⟩
  rintro m z Y ⟨j, hj, rfl, rfl, hY, hYR, hf⟩
  have hIj := iv_mins hI2 j
  have fin : ∀ r : Int32, r = fb_d s0 k 0 → Q r Y := fun r e => by
    rw [e]; exact hQ Y hY (mo_of hI2 hYR)
  rcases Nat.eq_zero_or_pos (k - j) with hz | hz
  · rw [hz] at hf ⊢
    exact ⟨fun _ => fin 0 hf, fun c => absurd (show nI 0 - 1 < 0 by decide) c⟩
  · obtain ⟨e, he⟩ : ∃ e, k - j = e + 1 := ⟨k - j - 1, by omega⟩
    rw [he] at hf ⊢
    rw [nI_pred]
    refine ⟨fun c => absurd c (nI_pos (by omega)), fun _ => ?_⟩
    obtain ⟨nz, noz, nmz, hCz, hoz⟩ := id hIj
    have hc := hCz.1
    rw [fb_d] at hf
    refine c_due hYR hc ⟨fun q => ?_, fun q => ?_⟩
    · have hnd := no_of q
      rw [if_neg hnd] at hf
      obtain ⟨rg, ro, rm, rs, rn, r7, r8⟩ := hYR nz noz nmz hc
      obtain ⟨w, hw, ew⟩ := hCz.2.2.2.2.1.2.2.2.1
      obtain ⟨a, ha, ea0⟩ := hCz.2.2.2.2.1.2.2.2.2.2.1
      have ei : t_mins j s0 5 = nI i := (mins_keep hI2 (Or.inr (Or.inl rfl)) j).trans e5
      unfold q_X0_water q_X0_floodLevel
      rw [rn.1, rs.1, ew, ea0, ex, pk_mul]
      dsimp only
      rw [nI_add]
      have hie : i * e ≤ 300 * 59 := Nat.mul_le_mul hi (by omega)
      refine ⟨fun _ => c_letPass 1 (by decide) rfl hYR hIj fun D2 hD2 => ⟨k - (j + 1), by omega, j + 1, by omega, rfl, ?_, fun i hi => by rw [uX_n hi, hY i hi], by rw [uX_s]; exact hD2, ?_⟩, fun c => ?_⟩
      · rw [show k - (j + 1) = e by omega]; exact (Int32.sub_eq_add_neg _ _).symm
      · rw [show k - (j + 1) = e by omega]; exact hf
      · refine fin 0 ?_
        rw [← hf]
        have hlt : w + i * e < a := by
          have : ¬ a ≤ w + i * e := fun q => c (nI_le q (by omega))
          omega
        refine (fbd_none s0 e (j + 1) fun t ht hdu => ?_).symm
        rw [show j + 1 + t = j + (1 + t) by omega, ← mins_add] at hdu
        obtain ⟨w', h9, hw', ew'⟩ := mins_water hIj hw ew hi ei (1 + t)
        refine hdu.2 ?_
        rw [ew', mins_keep hIj (Or.inl (by decide)) (1 + t), ea0]
        refine nI_lt ?_ (by omega)
        have : i * (1 + t) ≤ i * e := Nat.mul_le_mul (Nat.le_refl i) (by omega)
        omega
    · have hdu := yes_of q
      rw [if_pos hdu] at hf
      exact fin 1 hf
/-- the reference: the same -/
theorem v_wouldFlood {B : Nat} {M : St} {Q : Int32 → St → Prop} {x y : Int32} {k i : Nat} (hI : Iv B (M 0)) (hB : B ≤ 50000) (hi : i ≤ 300) (ex : x = nI i) (hk : k ≤ 60) (ey : y = nI k)
    (hQ : ∀ M', Bk M M' → Q (fb_d (upd (M 0) 5 x) k 0) M') : q_X6_wouldFlood x y M Q := by
  have hx : 0 ≤ x ∧ x ≤ 300 := by rw [ex]; exact ⟨nI_pos' (by omega), nI_le (b := 300) hi (by omega)⟩
  have hI2 := iv_in hI hx
  obtain ⟨f, hf, ef⟩ : ∃ f, f ≤ 50000 ∧ M 0 16 = nI f := by
    obtain ⟨n, no, nm, hC, -⟩ := hI
    obtain ⟨f, m, v1, v2, v3, -⟩ := hC.2.2.2.2.2
    exact ⟨f, by omega, v3⟩
  have e16 : (upd (M 0) 5 x) 16 = nI f := by rw [upd_n (by decide)]; exact ef
  have e86 : ∀ j, 86 ≤ j → (upd (M 0) 5 x) j = M 0 j := fun j hj => upd_n (by omega)
  unfold q_X6_wouldFlood
  refine v_copiesE fun u hu0 hu1 => ?_
  have hu0 : u 0 = M 0 := hu0
  have hu1 : u 1 = fun k => if k < 86 then M 0 k else M 3 k := hu1
  rw [hu0, hu1, ef]
  have gU : ∃ U : St, uA (uA (uA M 0 (M 0)) 3 (fun k => if k < 86 then M 0 k else M 3 k)) 0 (upd (M 0) 5 x) = U ∧ U 0 = upd (M 0) 5 x ∧ (U 3 = fun k => if k < 86 then M 0 k else M 3 k) ∧ U 1 = M 1 ∧ U 4 = M 4 ∧ U 5 = M 5 ∧ U 6 = M 6 ∧ U 7 = M 7 := ⟨_, rfl, rfl, rfl, rfl, rfl, rfl, rfl, rfl⟩
  obtain ⟨U, eU, u0, u3, u1, u4, u5, u6, u7⟩ := gU
  rw [eU]
  generalize hs0 : upd (M 0) 5 x = s0 at hQ hI2 e16 e86 u0
  subst ey
  have back : ∀ (D : St) (r : Int32) (s : Rw), D = uA U 0 s → (∀ j, 86 ≤ j → s j = M 0 j) → r = fb_d s0 k 0 → q_X6_copies (fun i => cond (Nat.beq i 0) (D 3) (D 0)) (fun u => Q r (uA (uA D 3 (u 0)) 0 (u 1))) := by
    rintro D r s rfl h86 rfl
    exact v_backX (M := M) (Q := fun M' => Q (fb_d s0 k 0) M') u3 h86 ⟨u1, u4, u5, u6, u7⟩ hQ
  refine ⟨fun m z D => ∃ j : Nat, j ≤ k ∧ m = k - j ∧ z = nI j ∧ D = uA U 0 (t_mins j s0) ∧ ((t_mins j s0 16 = nI f ∧ fb_d s0 (k - j) j = fb_d s0 k 0) ∨ (t_mins j s0 16 = nI (f + 1) ∧ fb_d s0 k 0 = 1)), k, ⟨0, by omega, rfl, rfl, by rw [show t_mins 0 s0 = U 0 from u0.symm]; exact (uA_id U 0).symm, Or.inl ⟨e16, rfl⟩⟩, ?_⟩
  rintro m z D ⟨j, hj, rfl, rfl, rfl, hst⟩
  have h86 : ∀ j', 86 ≤ j' → t_mins j s0 j' = M 0 j' := fun j' hj' => (mins_86 hI2 j j' hj').trans (e86 j' hj')
  rw [uA_s]
  have one : fb_d s0 k 0 = 1 → t_mins j s0 16 = nI (f + 1) → (t_mins j s0 16 ≤ nI f → q_X6_copies (fun i => cond (Nat.beq i 0) ((uA U 0 (t_mins j s0)) 3) ((uA U 0 (t_mins j s0)) 0)) (fun u => Q 0 (uA (uA (uA U 0 (t_mins j s0)) 3 (u 0)) 0 (u 1)))) ∧ (¬ (t_mins j s0 16 ≤ nI f) → q_X6_copies (fun i => cond (Nat.beq i 0) ((uA U 0 (t_mins j s0)) 3) ((uA U 0 (t_mins j s0)) 0)) (fun u => Q 1 (uA (uA (uA U 0 (t_mins j s0)) 3 (u 0)) 0 (u 1)))) := fun e1 e2 => by
    rw [e2]
    exact ⟨fun c => absurd c (nI_ge (by omega) (by omega)), fun _ => back _ 1 _ rfl h86 e1.symm⟩
  rcases hst with ⟨est, hfb⟩ | ⟨est, hfb⟩
  · refine ⟨fun c => ?_, fun c => ?_⟩
    · have := (nI_leI (by omega) (by omega)).mp c
      have e : k - j = 0 := by omega
      rw [e] at hfb
      have hfb : 0 = fb_d s0 k 0 := hfb
      rw [est]
      exact ⟨fun _ => back _ 0 _ rfl h86 hfb, fun c => absurd (nI_le (Nat.le_refl f) (by omega)) c⟩
    · have hjk : j < k := Nat.not_le.mp fun q => c (nI_le q (by omega))
      refine ⟨fun _ => ?_, fun c => absurd est c⟩
      obtain ⟨nz, noz, nmz, hCz, hoz⟩ := iv_mins hI2 j
      have hmk := (min_keep hCz hoz).2
      refine v_passes (B := B + j) (n := nz) (no := noz) (nm := nmz) (by rw [uA_s]; exact hCz) (by rw [uA_s]; exact hoz) ?_
      rw [uA_s, uA_uA]
      refine ⟨k - (j + 1), by omega, j + 1, hjk, rfl, nI_1 j, rfl, ?_⟩
      rw [show k - j = (k - (j + 1)) + 1 by omega, fb_d] at hfb
      by_cases hdu : duP (t_mins j s0)
      · rw [if_pos hdu] at hfb
        refine Or.inr ⟨(hmk.1 hdu).trans ?_, hfb.symm⟩
        rw [est, nI_1]
      · rw [if_neg hdu] at hfb
        exact Or.inl ⟨(hmk.2 hdu).trans est, hfb⟩
  · refine ⟨fun _ => one hfb est, fun _ => ⟨fun c => ?_, fun _ => one hfb est⟩⟩
    have := (nI_eq (by omega) (by omega)).mp (est.symm.trans c)
    omega
/-- the least of f inflows, from j on -/
def lf_l (s : Rw) (k : Nat) : Nat → Nat → Int32
  | 0, _ => -1000004
  | f + 1, j => if fb_d (upd s 5 (nI j)) k 0 = 0 then lf_l s k f (j + 1) else nI j
def a_least (s : Rw) (x : Int32) : Int32 := if 1 ≤ x ∧ x ≤ 60 then (if s 9 = 1 then 0 else lf_l s x.toNatClampNeg 301 0) else -1000001
theorem sixty {x : Int32} (h : 1 ≤ x ∧ x ≤ 60) : ∃ k, 1 ≤ k ∧ k ≤ 60 ∧ x = nI k := by
  obtain ⟨k, hk, e⟩ := nat_of (Int32.le_trans (by decide) h.1) h.2 (b := 60) rfl (by omega)
  refine ⟨k, ?_, hk, e⟩
  have h1 := h.1
  rw [e] at h1
  exact (nI_leI (a := 1) (by omega) (by omega)).mp h1
theorem v_least {M : St} {Q : Int32 → St → Prop} {x : Int32} (hI : Iv 50000 (M 0)) (h : ∀ M', Bk M M' → Q (a_least (M 0) x) M') : q_X6_leastFlood x M Q := by
  unfold a_least at h
  unfold q_X6_leastFlood
  refine v_in (fun h1 h2 => ⟨fun q => absurd q (by decide), fun _ => ⟨fun c9 => ?_, fun c9 => ?_⟩⟩) (fun hne => ⟨fun _ => ?_, fun q => absurd rfl q⟩)
  · rw [if_pos ⟨h1, h2⟩, if_pos c9] at h
    exact h M (Bk.rfl' M)
  · rw [if_pos ⟨h1, h2⟩, if_neg c9] at h
    obtain ⟨k, hk1, hk, ek⟩ := sixty ⟨h1, h2⟩
    have exk : x.toNatClampNeg = k := by rw [ek]; exact nI_c _ (by omega)
    rw [exk] at h
    refine ⟨fun m z r D => ∃ j : Nat, j ≤ 301 ∧ m = 301 - j ∧ z = nI j ∧ Bk M D ∧ ((r = -1000004 ∧ lf_l (M 0) k (301 - j) j = lf_l (M 0) k 301 0) ∨ (¬ r < 0 ∧ r = lf_l (M 0) k 301 0)), 301, ⟨0, by omega, rfl, rfl, Bk.rfl' M, Or.inl ⟨rfl, rfl⟩⟩, ?_⟩
    rintro m z r D ⟨j, hj, rfl, rfl, hD, hst⟩
    rcases hst with ⟨rfl, hst⟩ | ⟨hr, hst⟩
    · refine ⟨fun c => ?_, fun c => ⟨fun q => absurd q (by decide), fun _ => ?_⟩⟩
      · have := (nI_ltI (a := 300) (by omega) (by omega)).mp c
        rw [show 301 - j = 0 by omega] at hst
        have hst : (-1000004 : Int32) = lf_l (M 0) k 301 0 := hst
        have := h D hD
        rw [← hst] at this
        exact this
      · have hj3 : j < 301 := by
          have : ¬ 300 < j := fun z => c (nI_lt (a := 300) z (by omega))
          omega
        have e0 : D 0 = M 0 := hD.1
        refine v_wouldFlood (B := 50000) (k := k) (i := j) (by rw [e0]; exact hI) (Nat.le_refl _) (by omega) rfl hk ek fun M' hM => ?_
        rw [e0]
        rw [show 301 - j = (301 - (j + 1)) + 1 by omega, lf_l] at hst
        refine ⟨fun q => ⟨301 - (j + 1), by omega, j + 1, hj3, rfl, nI_1 j, hD.trans hM, Or.inl ⟨rfl, ?_⟩⟩, fun q => ⟨301 - (j + 1), by omega, j + 1, hj3, rfl, nI_1 j, hD.trans hM, Or.inr ⟨nI_pos (by omega), ?_⟩⟩⟩
        · rw [if_pos q] at hst; exact hst
        · rw [if_neg q] at hst; exact hst
    · have go : Q r D := by
        have := h D hD
        rw [← hst] at this
        exact this
      exact ⟨fun _ => go, fun _ => ⟨fun _ => go, fun q => absurd (Int32.not_lt.mp hr) q⟩⟩
  · rw [if_neg hne] at h
    exact h M (Bk.rfl' M)
theorem s_least {X : Nat → St} {M : St} {x : Int32} (hJ : Jr X M) : q_X5_leastFlood x X (fun r X1 => q_X6_leastFlood x M (fun r1 M1 => r = r1 ∧ Jr X1 M1)) := by
  obtain ⟨-, jR, jI, jM, -⟩ := id hJ
  obtain ⟨n, no, nm, hC, ho⟩ := id jI
  have bad : ∀ r : Int32, r = a_least (M 0) x → q_X6_leastFlood x M (fun r1 M1 => r = r1 ∧ Jr X M1) := fun r e => v_least jI fun M' hM => ⟨e, hJ.back hM (fun _ _ _ => rfl) rfl rfl (jM 2 (by decide) (by decide))⟩
  have n7 : X 1 21 0 = M 0 9 := (jR n no nm hC.1).2.2.2.2.1.2.2.2.2.2.2.1
  have hF := isF n7 hC.2.2.2.2.1.2.1
  unfold q_X5_leastFlood
  refine ⟨fun c => bad _ ?_, fun c1 => ⟨fun c2 => ?_, fun c => bad _ ?_⟩⟩
  · rw [a_least, if_neg fun q => absurd q.1 (Int32.not_le.mpr c)]
  · have hin : 1 ≤ x ∧ x ≤ 60 := ⟨Int32.not_lt.mp c1, c2⟩
    unfold q_X0_isFlooded
    refine ⟨?_, fun c9 => ?_, fun c9 => bad _ ?_⟩
    · rcases hC.2.2.2.2.1.2.1 with e | e
      · exact Or.inl (n7.trans e)
      · exact Or.inr (n7.trans e)
    · have h9 : ¬ M 0 9 = 1 := fun q => by rw [hF.1.mp c9] at q; exact absurd q (by decide)
      obtain ⟨k, hk1, hk, ek⟩ := sixty hin
      have exk : x.toNatClampNeg = k := by rw [ek]; exact nI_c _ (by omega)
      have ea : a_least (M 0) x = lf_l (M 0) k 301 0 := by rw [a_least, if_pos hin, if_neg h9, exk]
      refine ⟨fun m z Y => ∃ j : Nat, j ≤ 301 ∧ m = 301 - j ∧ z = nI j ∧ (∀ i, i ≠ 2 → Y i = X i) ∧ Mo (Y 2) ∧ lf_l (M 0) k (301 - j) j = lf_l (M 0) k 301 0, 301, ⟨0, by omega, rfl, rfl, fun _ _ => rfl, jM 2 (by decide) (by decide), rfl⟩, ?_⟩
      rintro m z Y ⟨j, hj, rfl, rfl, hY, hm, hst⟩
      have fin : ∀ (r : Int32) (Y' : Nat → St), (∀ i, i ≠ 2 → Y' i = X i) → Mo (Y' 2) → r = lf_l (M 0) k 301 0 → q_X6_leastFlood x M (fun r1 M1 => r = r1 ∧ Jr Y' M1) := fun r Y' hY' hm' e => v_least jI fun M' hM => ⟨e.trans ea.symm, hJ.back hM (fun j z1 z2 => hY' j z2) (by rw [hY' 0 (by decide)]) (by rw [hY' 0 (by decide)]) hm'⟩
      refine ⟨fun c => ?_, fun c => ?_⟩
      · have := (nI_ltI (a := 300) (by omega) (by omega)).mp c
        rw [show 301 - j = 0 by omega] at hst
        exact fin _ Y hY hm hst
      · have hj3 : j < 301 := by
          have : ¬ 300 < j := fun z => c (nI_lt (a := 300) z (by omega))
          omega
        refine c_begins (k := k) (i := j) jI (by rw [hY 1 (by decide)]; exact jR) hm (by omega) rfl hk hk1 ek fun X' hX hm' => ?_
        have hX2 : ∀ i, i ≠ 2 → X' i = X i := fun i hi => (hX i hi).trans (hY i hi)
        rw [show 301 - j = (301 - (j + 1)) + 1 by omega, lf_l] at hst
        refine ⟨fun q => ⟨301 - (j + 1), by omega, j + 1, hj3, rfl, nI_1 j, hX2, hm', ?_⟩, fun q => fin _ X' hX2 hm' ?_⟩
        · rw [if_pos q] at hst; exact hst
        · rw [if_neg q] at hst; exact hst
    · have h9 : M 0 9 = 1 := hF.2.mp c9
      rw [a_least, if_pos hin, if_pos h9]
  · rw [a_least, if_neg fun q => c q.2]
