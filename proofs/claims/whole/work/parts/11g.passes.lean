/-! The water's way keeps what holds; a whole minute; many minutes; and the reference's minute is that one. -/
theorem pour_ok {d B n no nm g : Nat} {s : Rw} (h : Core d B n no nm s) (hg : g < n) {w o : Nat} (hw : s 4 = nI w) (hw9 : w ≤ 9999) (hle : o ≤ w) : Core d B n no nm (t_pour s g (nI o)) := by
  have h' := h
  obtain ⟨⟨a1, a2, a3, a4, a5, a6⟩, b, c, t, u, v⟩ := h'
  have k1 : ∀ j, j ≠ 4 → j ≠ 14 → j ≠ 46 + 5 * g + 3 → t_pour s g (nI o) j = s j := fun j h1 h2 h3 => t_pour_n h1 h2 h3
  have k4 : t_pour s g (nI o) 4 = nI (w - o) := by
    unfold t_pour
    rw [upd_n (by omega), upd_n (by decide), upd_s, hw, pk_sub hle]
  refine ⟨h.1.cong (k1 _ (by decide) (by decide) (by omega)) (k1 _ (by decide) (by decide) (by omega)) (k1 _ (by decide) (by decide) (by omega)), b.cong a2 a3 fun j h1 h2 => k1 j (by omega) (by omega) (by omega), c.cong fun g2 w2 hg2 hw2 => k1 _ (by omega) (by omega) (by omega), t.cong (k1 _ (by decide) (by decide) (by omega)) (k1 _ (by decide) (by decide) (by omega)), ?_, v.cong (k1 _ (by decide) (by decide) (by omega)) (k1 _ (by decide) (by decide) (by omega))⟩
  obtain ⟨u1, u2, u3, u4, u5, u6, u7⟩ := u
  refine ⟨?_, ?_, ?_, ⟨w - o, by omega, k4⟩, ?_, ?_, ?_⟩
  · rw [k1 6 (by decide) (by decide) (by omega)]; exact u1
  · rw [k1 9 (by decide) (by decide) (by omega)]; exact u2
  · rw [k1 2 (by decide) (by decide) (by omega)]; exact u3
  · rw [k1 5 (by decide) (by decide) (by omega)]; exact u5
  · rw [k1 0 (by decide) (by decide) (by omega)]; exact u6
  · rw [k1 1 (by decide) (by decide) (by omega)]; exact u7
/-- the same, but for the water's bound, which comes in between -/
def CoreW (d B W n no nm : Nat) (s : Rw) : Prop := Core d B n no nm (upd s 4 0) ∧ ∃ w, w ≤ W ∧ s 4 = nI w
theorem CoreW.of {d B n no nm : Nat} {s : Rw} (h : Core d B n no nm s) : Core d B n no nm (upd s 4 0) :=
  core_low h (fun j hj => upd_n (by omega)) rfl rfl rfl (h.2.2.2.1.cong rfl rfl) ⟨h.2.2.2.2.1.1, h.2.2.2.2.1.2.1, h.2.2.2.2.1.2.2.1, ⟨0, by omega, rfl⟩, h.2.2.2.2.1.2.2.2.2⟩ (h.2.2.2.2.2.cong rfl rfl)
theorem CoreW.to {d B n no nm : Nat} {s : Rw} (h : CoreW d B 9999 n no nm s) : Core d B n no nm s := by
  obtain ⟨h, w, hw, ew⟩ := h
  exact core_low h (fun j hj => (upd_n (f := s) (v := 0) (by omega)).symm) rfl rfl rfl (h.2.2.2.1.cong rfl rfl) ⟨h.2.2.2.2.1.1, h.2.2.2.2.1.2.1, h.2.2.2.2.1.2.2.1, ⟨w, hw, ew⟩, h.2.2.2.2.1.2.2.2.2⟩ (h.2.2.2.2.2.cong rfl rfl)
/-- Core looks neither at number 14 nor at what went out by the gates -/
theorem core_agree {d B n no nm : Nat} {s s' : Rw} (h : Core d B n no nm s) (hj : ∀ j, j ≠ 14 → (∀ g, j ≠ 46 + 5 * g + 3) → s' j = s j) : Core d B n no nm s' := by
  have k : ∀ j, j < 46 → j ≠ 14 → s' j = s j := fun j h1 h2 => hj j h2 fun g => by omega
  exact ⟨h.1.cong (k _ (by decide) (by decide)) (k _ (by decide) (by decide)) (k _ (by decide) (by decide)), h.2.1.cong h.1.2.1 h.1.2.2.1 fun j a b => k j b (by omega), h.2.2.1.cong fun g w _ hw => hj _ (by omega) fun g2 => by omega, h.2.2.2.1.cong (k _ (by decide) (by decide)) (k _ (by decide) (by decide)), h.2.2.2.2.1.cong (k _ (by decide) (by decide)) (k _ (by decide) (by decide)) (k _ (by decide) (by decide)) (k _ (by decide) (by decide)) (k _ (by decide) (by decide)) (k _ (by decide) (by decide)) (k _ (by decide) (by decide)), h.2.2.2.2.2.cong (k _ (by decide) (by decide)) (k _ (by decide) (by decide))⟩
theorem fl_ok {d B n no nm hd : Nat} (hh : hd ≤ 20) : ∀ (k : Nat) {W : Nat} {s : Rw}, W ≤ 20000 → CoreW d B W n no nm s → k ≤ n → CoreW d B W n no nm (t_fl (nI hd) k s)
  | 0, _, _, _, h, _ => h
  | k + 1, W, s, hW, h, hk => by
    obtain ⟨h1, w, hw, ew⟩ := fl_ok hh k hW h (by omega)
    have h8 := h1.1.1
    unfold t_fl
    generalize t_fl (nI hd) k s = z at h1 ew
    obtain ⟨⟨kk, -, e0⟩, ⟨wd, hwd, e1⟩, ⟨o, ho, e2⟩⟩ := h1.2.2.1 k (by omega)
    rw [upd_n (by omega)] at e0 e1 e2
    obtain ⟨r, hr, er⟩ := rate_ok e0 hwd e1 ho e2 hh
    have hout : ∃ q, q ≤ w ∧ t_out z k (nI hd) = nI q := by
      unfold t_out
      rw [er, ew]
      by_cases hle : r ≤ w
      · rw [if_pos ((nI_leI (by omega) (by omega)).mpr hle)]; exact ⟨r, hle, rfl⟩
      · rw [if_neg fun q => hle ((nI_leI (by omega) (by omega)).mp q)]; exact ⟨w, Nat.le_refl _, rfl⟩
    obtain ⟨q, hq, eq⟩ := hout
    rw [eq]
    refine ⟨?_, w - q, by omega, ?_⟩
    · have h2 : Core d B n no nm (t_pour (upd z 4 0) k (nI 0)) := pour_ok h1 (by omega) (w := 0) rfl (by omega) (Nat.le_refl _)
      refine core_agree h2 (fun j h14 h3 => ?_)
      by_cases e4 : j = 4
      · subst e4
        rw [upd_s]
        unfold t_pour
        rw [upd_n (by omega), upd_n (by decide), upd_s, upd_s]
        decide
      · rw [upd_n e4]
        by_cases e3 : j = 46 + 5 * k + 3
        · exact absurd e3 (h3 k)
        · rw [t_pour_n e4 h14 e3, t_pour_n e4 h14 e3, upd_n e4]
    · unfold t_pour
      rw [upd_n (by omega), upd_n (by decide), upd_s, ew, pk_sub hq]
theorem core_flows {d B n no nm : Nat} {s : Rw} (h : Core d B n no nm s) (ho : Opn s) : Core d B n no nm (t_flows s) ∧ Opn (t_flows s) := by
  have h' := h
  obtain ⟨⟨a1, a2, a3, a4, a5, a6⟩, b, c, t, u, v⟩ := h'
  obtain ⟨u1, u2, u3, ⟨w, hw, ew⟩, ⟨i, hi, ei⟩, u6, u7⟩ := u
  have ehd : s 4 / 1000 + 1 = nI (w / 1000 + 1) := by
    rw [ew, show (1000 : Int32) = nI 1000 from rfl, pk_div (by omega) (by decide) (by decide), nI_1]
  unfold t_flows
  rw [cn_of a4 (by omega), ehd]
  have h1 : CoreW d B 10299 n no nm (upd (upd s 4 (s 4 + s 5)) 13 (s 13 + s 5)) := by
    refine ⟨?_, w + i, by omega, ?_⟩
    · exact core_low (CoreW.of h) (fun j hj => by rw [upd_n (by omega), upd_n (by omega), upd_n (by omega), upd_n (by omega)]) rfl rfl rfl (t.cong rfl rfl) ⟨u1, u2, u3, ⟨0, by omega, rfl⟩, ⟨i, hi, ei⟩, u6, u7⟩ (v.cong rfl rfl)
    · rw [upd_n (by decide), upd_s, ew, ei, nI_add]
  have hfl := fl_ok (hd := w / 1000 + 1) (by omega) n (by omega) h1 (Nat.le_refl n)
  have keep : ∀ j, j ≠ 4 → j ≠ 14 → j ≠ 13 → (∀ g, g < n → j ≠ 46 + 5 * g + 3) → t_fl (nI (w / 1000 + 1)) n (upd (upd s 4 (s 4 + s 5)) 13 (s 13 + s 5)) j = s j := fun j e4 e14 e13 e3 => by
    rw [t_fl_n e4 e14 n _ e3, upd_n e13, upd_n e4]
  generalize t_fl (nI (w / 1000 + 1)) n (upd (upd s 4 (s 4 + s 5)) 13 (s 13 + s 5)) = z at hfl keep
  obtain ⟨h2, w2, hw2, ew2⟩ := hfl
  have h3 : CoreW d B 9999 n no nm (t_over z) := by
    unfold t_over
    have hc : ∀ v, Core d B n no nm (upd (upd (upd z 15 v) 4 (z 4)) 4 0) := fun v => core_low h2 (fun j hj => by rw [upd_n (by omega), upd_n (by omega), upd_n (by omega), upd_n (by omega)]) rfl rfl rfl (h2.2.2.2.1.cong rfl rfl) (h2.2.2.2.2.1.cong rfl rfl rfl rfl rfl rfl rfl) (h2.2.2.2.2.2.cong rfl rfl)
    have hc2 : ∀ v q, Core d B n no nm (upd (upd (upd z 15 v) 4 q) 4 0) := fun v q => by
      have := hc v
      rw [upd_upd] at this
      rw [upd_upd]
      exact this
    refine ⟨hc2 _ _, ?_⟩
    rw [upd_s, ew2, show (9999 : Int32) = nI 9999 from rfl]
    by_cases hle : w2 ≤ 9999
    · rw [if_pos ((nI_leI (b := 9999) (by omega) (by omega)).mpr hle)]
      exact ⟨w2, hle, by rw [show (0 : Int32) = nI 0 from rfl, pk_sub (by omega)]; rfl⟩
    · rw [if_neg fun q => hle ((nI_leI (b := 9999) (by omega) (by omega)).mp q)]
      refine ⟨9999, Nat.le_refl _, ?_⟩
      rw [pk_sub (by omega), pk_sub (by omega), show w2 - (w2 - 9999) = 9999 by omega]
  refine ⟨h3.to, fun q => ?_⟩
  have e7 : t_over z 7 = s 7 := by
    show z 7 = s 7
    exact keep 7 (by decide) (by decide) (by decide) fun g _ => by omega
  have e8 : t_over z 8 = s 8 := by
    show z 8 = s 8
    exact keep 8 (by decide) (by decide) (by decide) fun g _ => by omega
  rw [e7] at q
  obtain ⟨g, y, hg, hy, g7, g8⟩ := t.g q
  have ho := ho q
  have ec : cn (t_over z) 7 = g := cn_of (e7.trans g7) (by omega)
  rw [cn7 g7 (by omega)] at ho
  rw [ec, e8]
  unfold t_over
  rw [upd_n (by omega), upd_n (by omega), keep _ (by omega) (by omega) (by omega) fun g2 _ => by omega]
  exact ho
def t_min (s : Rw) : Rw := upd (t_flows (if t_take (t_floods s) 7 < 0 then t_take (t_floods s) else t_works (t_take (t_floods s)))) 12 (t_flows (if t_take (t_floods s) 7 < 0 then t_take (t_floods s) else t_works (t_take (t_floods s))) 12 + 1)
theorem core_min {B n no nm : Nat} {s : Rw} (h : Core 0 B n no nm s) (ho : Opn s) : ∃ no' nm', Core 0 (B + 1) n no' nm' (t_min s) ∧ Opn (t_min s) := by
  obtain ⟨nm1, h1, o1⟩ := core_floods h ho
  obtain ⟨no2, nm2, h2, o2⟩ := core_take h1 o1
  have h3 : Core 1 B n no2 nm2 (if t_take (t_floods s) 7 < 0 then t_take (t_floods s) else t_works (t_take (t_floods s))) ∧ Opn (if t_take (t_floods s) 7 < 0 then t_take (t_floods s) else t_works (t_take (t_floods s))) := by
    split
    · exact ⟨h2, o2⟩
    · rename_i c
      exact core_works h2 o2 c
  unfold t_min
  generalize (if t_take (t_floods s) 7 < 0 then t_take (t_floods s) else t_works (t_take (t_floods s))) = z at h3
  obtain ⟨h4, o4⟩ := core_flows h3.1 h3.2
  refine ⟨no2, nm2, ?_, ?_⟩
  · obtain ⟨f, m, v1, v2, v3, v4⟩ := h4.2.2.2.2.2
    exact core_low h4 (fun j hj => upd_n (by omega)) rfl rfl rfl (h4.2.2.2.1.cong rfl rfl) (h4.2.2.2.2.1.cong rfl rfl rfl rfl rfl rfl rfl) ⟨f, m + 1, by omega, by omega, v3, by rw [upd_s, v4, nI_1]⟩
  · intro q
    have := o4 q
    show (upd (t_flows z) 12 (t_flows z 12 + 1)) (46 + 5 * cn (t_flows z) 7 + 2) ≠ t_flows z 8
    rw [upd_n (by omega)]
    exact this
theorem iv_min {B : Nat} {s : Rw} (h : Iv B s) : Iv (B + 1) (t_min s) := by
  obtain ⟨n, no, nm, h1, h2⟩ := h
  obtain ⟨no', nm', h3, h4⟩ := core_min h1 h2
  exact ⟨n, no', nm', h3, h4⟩
def t_mins : Nat → Rw → Rw
  | 0, s => s
  | k + 1, s => t_min (t_mins k s)
theorem iv_mins {B : Nat} {s : Rw} (h : Iv B s) : ∀ k, Iv (B + k) (t_mins k s)
  | 0 => h
  | k + 1 => iv_min (iv_mins h k)
/-- the reference's loop that takes tasks -/
theorem v_lp {n : Nat} {d B : Nat} {M : St} {Q : St → Prop} (hQ : ∀ no' nm', Core d B n no' nm' (t_lp 13 (M 0)) → Opn (t_lp 13 (M 0)) → Q (uA M 0 (t_lp 13 (M 0)))) {no nm : Nat} (h : Core d B n no nm (M 0)) :
    ∃ (I : Nat → Int32 → St → Prop) (n0 : Nat), I n0 1 M ∧ ∀ (k : Nat) (x : Int32) (D : St), I k x D → ((x = 0 → Q D) ∧ (¬ (x = 0) → q_X6_takes D (fun r u => q_X6_looks u (fun u1 => (r = 0 → ∃ k1, k1 < k ∧ I k1 0 u1) ∧ (¬ (r = 0) → (0 ≤ ((u1 0) 7) → ∃ k1, k1 < k ∧ I k1 0 u1) ∧ (¬ (0 ≤ ((u1 0) 7)) → ∃ k1, k1 < k ∧ I k1 1 u1)))))) := by
  have ha := h.1.2.1
  have hb := h.1.2.2.1
  refine ⟨fun k x D => (x = 0 ∧ k = 0 ∧ D = uA M 0 (t_lp 13 (M 0))) ∨ (x = 1 ∧ ∃ s no nm, D = uA M 0 s ∧ Core d B n no nm s ∧ no + nm < k ∧ t_lp k s = t_lp 13 (M 0)), 13, Or.inr ⟨rfl, M 0, no, nm, (uA_id M 0).symm, h, by omega, rfl⟩, ?_⟩
  rintro k x D (⟨rfl, rfl, rfl⟩ | ⟨rfl, s, no, nm, rfl, hc, hk, e⟩)
  · obtain ⟨no', nm', h1, h2⟩ := core_lp 13 h (by omega)
    exact ⟨fun _ => hQ no' nm' h1 h2, fun c => absurd rfl c⟩
  · refine ⟨fun c => absurd c (by decide), fun _ => ?_⟩
    obtain ⟨k, rfl⟩ : ∃ z, k = z + 1 := ⟨k - 1, by omega⟩
    obtain ⟨⟨a1, a2, a3, a4, a5, a6⟩, ⟨b1, b2⟩, -⟩ := id hc
    obtain ⟨no', nm', h1, h9, e9, hw⟩ := core_takes hc
    obtain ⟨h2, ho, -⟩ := core_looks h1
    refine v_takes n no nm (by rw [uA_s]; exact a4) a1 (by rw [uA_s]; exact a5) a2 (by rw [uA_s]; exact a6) a3 (fun j hj => ?_) ?_
    · obtain ⟨g, hg, eg⟩ := b1.1 j hj
      exact ⟨g, by omega, by rw [uA_s]; exact eg⟩
    · rw [uA_s, uA_uA]
      refine v_looks (fun c => ?_) ?_
      · rw [uA_s] at c
        obtain ⟨g, y, hg, -, e7, -⟩ := h1.2.2.2.1.g c
        exact ⟨g, by omega, by rw [uA_s]; exact e7⟩
      · rw [uA_s, uA_uA]
        rw [t_lp] at e
        have e7 : (uA M 0 (t_looks (t_takes s))) 0 7 = t_looks (t_takes s) 7 := by rw [uA_s]
        rw [e7]
        by_cases c : t_takes s 7 < 0
        · rw [if_pos c] at e ⊢
          exact ⟨fun _ => ⟨0, by omega, Or.inl ⟨rfl, rfl, by rw [e]⟩⟩, fun q => absurd rfl q⟩
        · rw [if_neg c] at e ⊢
          refine ⟨fun q => absurd q (by decide), fun _ => ⟨fun c2 => ?_, fun c2 => ?_⟩⟩
          · rw [if_pos c2] at e
            exact ⟨0, by omega, Or.inl ⟨rfl, rfl, by rw [e]⟩⟩
          · rw [if_neg c2] at e
            rcases hw with hw | hw | hw
            · exact ⟨k, by omega, Or.inr ⟨rfl, _, no', nm', rfl, h2, by omega, e⟩⟩
            · exact absurd hw c
            · have := opn_looks (h9 hw)
              rw [this] at c2
              exact absurd (Int32.not_lt.mp c) c2
theorem v_passes {B n no nm : Nat} {M : St} {Q : St → Prop} (h : Core 0 B n no nm (M 0)) (ho : Opn (M 0)) (hQ : Q (uA M 0 (t_min (M 0)))) : q_X6_passes M Q := by
  unfold q_X6_passes
  obtain ⟨nm1, h1, o1⟩ := core_floods h ho
  refine v_floods nm h.1.2.2.2.2.2 h.1.2.2.1 ?_
  rw [uA_s]
  have hn1 := h1.1.2.2.2.1
  have h8 := h1.1.1
  -- the end of the minute, from where the crane has taken its task
  have fin : ∀ z, z = t_take (t_floods (M 0)) → (∃ no' nm', Core 1 B n no' nm' z) → Opn z → (((uA M 0 z) 0 7 < 0 → q_X6_flows (uA M 0 z) (fun u => Q (uA u 0 (upd (u 0) 12 (((u 0) 12) + 1))))) ∧ (¬ ((uA M 0 z) 0 7 < 0) → q_X6_works (uA M 0 z) (fun u1 => q_X6_flows u1 (fun u => Q (uA u 0 (upd (u 0) 12 (((u 0) 12) + 1))))))) := by
    rintro z hz ⟨no', nm', hc⟩ hoz
    rw [uA_s]
    refine ⟨fun c => ?_, fun c => ?_⟩
    · refine v_flows n (by rw [uA_s]; exact hc.1.2.2.2.1) h8 ?_
      rw [uA_s, uA_uA, uA_s, uA_uA]
      rw [t_min, ← hz, if_pos c] at hQ
      exact hQ
    · obtain ⟨g, y, hg, -, e7, -⟩ := hc.2.2.2.1.g c
      refine v_works g (by omega) (by rw [uA_s]; exact e7) ?_
      rw [uA_s, uA_uA]
      have hw := (core_works hc hoz c).1
      refine v_flows n (by rw [uA_s]; exact hw.1.2.2.2.1) h8 ?_
      rw [uA_s, uA_uA, uA_s, uA_uA]
      rw [t_min, ← hz, if_neg c] at hQ
      exact hQ
  refine ⟨fun c => ?_, fun c => ?_⟩
  · have ez : t_floods (M 0) = t_take (t_floods (M 0)) := by rw [t_take, if_pos c]
    refine ⟨fun k x D => x = 0 ∧ D = uA M 0 (t_floods (M 0)), 0, ⟨rfl, rfl⟩, ?_⟩
    rintro k x D ⟨rfl, rfl⟩
    exact ⟨fun _ => fin _ ez ⟨no, nm1, h1⟩ o1, fun q => absurd rfl q⟩
  · have ez : t_lp 13 (t_floods (M 0)) = t_take (t_floods (M 0)) := by rw [t_take, if_neg c]
    have := v_lp (M := uA M 0 (t_floods (M 0))) (d := 1) (B := B) (n := n) (no := no) (nm := nm1) (Q := fun D => ((D 0 7 < 0 → q_X6_flows D (fun u => Q (uA u 0 (upd (u 0) 12 (((u 0) 12) + 1))))) ∧ (¬ (D 0 7 < 0) → q_X6_works D (fun u1 => q_X6_flows u1 (fun u => Q (uA u 0 (upd (u 0) 12 (((u 0) 12) + 1)))))))) (fun no' nm' hc hoz => ?_) (by rw [uA_s]; exact h1)
    · exact this
    · rw [uA_s] at hc hoz ⊢
      rw [uA_uA]
      exact fin _ ez ⟨no', nm', hc⟩ hoz
