/-! Changes: gate. -/
def Chg (M : St) (P : St → Prop) : Prop := ∀ Q' : St → Prop, (∀ u, u 0 = M 0 → P u → Q' u) → q_X6_changes M Q'
theorem RowOk.mono {n n' m : Nat} {g o : Nat → Int32} (h : RowOk n m g o) (hn : n ≤ n') : RowOk n' m g o :=
  ⟨fun k hk => by obtain ⟨x, hx, e⟩ := h.1 k hk; exact ⟨x, by omega, e⟩, h.2.1, h.2.2⟩
theorem RowOk.le : ∀ {n m : Nat} {g o : Nat → Int32}, n ≤ 8 → m ≤ 8 → RowOk n m g o → m ≤ n
  | 0, m, g, o, _, _, h => by
    rcases Nat.eq_zero_or_pos m with e | e
    · omega
    · obtain ⟨x, hx, -⟩ := h.1 0 e
      omega
  | n + 1, m, g, o, h8, hm8, h => by
    by_cases c : ∃ k, k < m ∧ g k = nI n
    · obtain ⟨i, hi, ei⟩ := c
      have h1 := h.rem hi
      have h2 := h.rem_ne hi
      have h3 : RowOk n (m - 1) (fun k => if k < i then g k else g (k + 1)) (fun k => if k < i then o k else o (k + 1)) := by
        refine ⟨fun k hk => ?_, h1.2.1, h1.2.2⟩
        obtain ⟨x, hx, e⟩ := h1.1 k hk
        refine ⟨x, ?_, e⟩
        have := h2 k hk
        rcases Nat.lt_or_ge x n with q | q
        · exact q
        · exact absurd (e.trans ((show x = n by omega) ▸ ei.symm)) this
      have := RowOk.le (n := n) (by omega) (by omega) h3
      omega
    · have h3 : RowOk n m g o := by
        refine ⟨fun k hk => ?_, h.2.1, h.2.2⟩
        obtain ⟨x, hx, e⟩ := h.1 k hk
        refine ⟨x, ?_, e⟩
        rcases Nat.lt_or_ge x n with q | q
        · exact q
        · exact absurd ⟨k, hk, (show x = n by omega) ▸ e⟩ c
      have := RowOk.le (n := n) (by omega) hm8 h3
      omega
theorem nat_of {x M : Int32} {b : Nat} (h0 : 0 ≤ x) (h1 : x ≤ M) (hM : M = nI b) (hb : b < 2147483648) : ∃ k, k ≤ b ∧ x = nI k := by
  obtain ⟨j, hj, e⟩ := nI_of (Int32.not_lt.mpr h0)
  rw [e, hM] at h1
  exact ⟨j, (nI_leI hj hb).mp h1, e⟩
theorem Opn.cong {n : Nat} {s s' : Rw} (h : Opn s) (hT : Tsk n s) (h8 : n ≤ 8) (h7 : s' 7 = s 7) (h8' : s' 8 = s 8) (hg : ∀ g, g < n → s' (46 + 5 * g + 2) = s (46 + 5 * g + 2)) : Opn s' := by
  intro q
  rw [h7] at q
  have := h q
  obtain ⟨g, y, hg', -, e7, -⟩ := hT.g q
  rw [cn7 e7 (by omega)] at this
  rw [cn7 (h7.trans e7) (by omega), h8', hg g hg']
  exact this
def a_gate (s : Rw) (x y : Int32) : Int32 := if (0 ≤ x ∧ x ≤ 2) ∧ (1 ≤ y ∧ y ≤ 20) then (if s 3 = 8 then -1000003 else s 3) else -1000001
def g_put (s : Rw) (g : Nat) (x y : Int32) : Nat → Rw
  | 0 => upd s 3 (s 3 + 1)
  | k + 1 => upd (g_put s g x y k) (46 + 5 * g + k) (if k = 0 then x else if k = 1 then y else 0)
def t_gate (s : Rw) (x y : Int32) : Rw := g_put s (cn s 3) x y 5
theorem v_gate {n : Nat} {M : St} {P : St → Prop} {Q : Int32 → St → Prop} {x y : Int32} (hch : Chg M P) (hn : M 0 3 = nI n) (hn8 : n ≤ 8)
    (he : a_gate (M 0) x y < 0 → Q (a_gate (M 0) x y) M) (hok : ¬ a_gate (M 0) x y < 0 → ∀ u, u 0 = M 0 → P u → Q (a_gate (M 0) x y) (uA u 0 (t_gate (M 0) x y))) : q_X6_gate x y M Q := by
  unfold q_X6_gate
  unfold a_gate at he hok
  refine v_in (fun h1 h2 => ⟨fun q => absurd q (by decide), fun _ => v_in (fun h3 h4 => ⟨fun q => absurd q (by decide), fun _ => ?_⟩) (fun hne => ⟨fun _ => ?_, fun q => absurd rfl q⟩)⟩) (fun hne => ⟨fun _ => ?_, fun q => absurd rfl q⟩)
  · rw [if_pos ⟨⟨h1, h2⟩, ⟨h3, h4⟩⟩] at he hok
    refine ⟨fun c => ?_, fun c => hch _ fun u hu hp => ?_⟩
    · rw [if_pos c] at he
      exact he (by decide)
    · rw [if_neg c] at hok
      have hlt : n < 8 := by
        rcases Nat.lt_or_ge n 8 with q | q
        · exact q
        · exact absurd (by rw [hn, show n = 8 by omega]; rfl) c
      have hk := hok (by rw [hn]; exact nI_pos (by omega)) u hu hp
      rw [hu]
      rw [t_gate, cn_of hn (by omega)] at hk
      refine ⟨fun m k D => ∃ j : Nat, j ≤ 5 ∧ m = 5 - j ∧ k = nI j ∧ D = uA u 0 (g_put (M 0) n x y j), 5, ⟨0, by omega, rfl, rfl, rfl⟩, ?_⟩
      rintro m k D ⟨j, hj, rfl, rfl, rfl⟩
      refine ⟨fun c5 => ?_, fun c5 => ?_⟩
      · have := (nI_leI (a := 5) (by omega) (by omega)).mp c5
        rw [show j = 5 by omega]
        exact hk
      · have hj5 : j < 5 := Nat.not_le.mp fun q => c5 (nI_le (a := 5) q (by omega))
        refine ⟨fun c0 => ?_, fun c0 => ⟨fun c1 => ?_, fun c1 => ?_⟩⟩
        · have e : j = 0 := (nI_eq (b := 0) (by omega) (by omega)).mp c0
          refine v_puts n j hn rfl hlt hj5 ⟨5 - (j + 1), by omega, j + 1, hj5, rfl, nI_1 j, ?_⟩
          rw [uA_uA, uA_s, g_put, if_pos e]
        · have e0 : j ≠ 0 := fun e => c0 (by rw [e]; rfl)
          have e : j = 1 := (nI_eq (b := 1) (by omega) (by omega)).mp c1
          refine v_puts n j hn rfl hlt hj5 ⟨5 - (j + 1), by omega, j + 1, hj5, rfl, nI_1 j, ?_⟩
          rw [uA_uA, uA_s, g_put, if_neg e0, if_pos e]
        · have e0 : j ≠ 0 := fun e => c0 (by rw [e]; rfl)
          have e1 : j ≠ 1 := fun e => c1 (by rw [e]; rfl)
          refine v_puts n j hn rfl hlt hj5 ⟨5 - (j + 1), by omega, j + 1, hj5, rfl, nI_1 j, ?_⟩
          rw [uA_uA, uA_s, g_put, if_neg e0, if_neg e1]
  · rw [if_neg fun q => hne q.2] at he
    exact he (by decide)
  · rw [if_neg fun q => hne q.1] at he
    exact he (by decide)
theorem gate_ok {s : Rw} {x y : Int32} {n : Nat} (hn : s 3 = nI n) (h8 : n ≤ 8) (h : ¬ a_gate s x y < 0) : n < 8 ∧ (∃ k, k ≤ 2 ∧ x = nI k) ∧ (∃ w, w ≤ 20 ∧ y = nI w) ∧ a_gate s x y = nI n := by
  unfold a_gate at h ⊢
  by_cases c : (0 ≤ x ∧ x ≤ 2) ∧ (1 ≤ y ∧ y ≤ 20)
  · rw [if_pos c] at h ⊢
    by_cases c2 : s 3 = 8
    · rw [if_pos c2] at h
      exact absurd (by decide) h
    · rw [if_neg c2]
      refine ⟨?_, nat_of c.1.1 c.1.2 (b := 2) rfl (by omega), nat_of (Int32.le_trans (by decide) c.2.1) c.2.2 (b := 20) rfl (by omega), hn⟩
      rcases Nat.lt_or_ge n 8 with q | q
      · exact q
      · exact absurd (by rw [hn, show n = 8 by omega]; rfl) c2
  · rw [if_neg c] at h
    exact absurd (by decide) h
theorem g_put_lo {s : Rw} {g : Nat} {x y : Int32} {j : Nat} (h3 : j ≠ 3) (hj : ∀ w, w < 5 → j ≠ 46 + 5 * g + w) : ∀ k, k ≤ 5 → g_put s g x y k j = s j
  | 0, _ => upd_n h3
  | k + 1, hk => by
    rw [g_put, upd_n (hj k (by omega))]
    exact g_put_lo h3 hj k (by omega)
theorem t_gate_lo {s : Rw} {x y : Int32} {n j : Nat} (hn : s 3 = nI n) (h8 : n ≤ 8) (h3 : j ≠ 3) (hj : ∀ w, w < 5 → j ≠ 46 + 5 * n + w) : t_gate s x y j = s j := by
  rw [t_gate, cn_of hn (by omega)]
  exact g_put_lo h3 hj 5 (by omega)
theorem t_gate_3 {s : Rw} {x y : Int32} : t_gate s x y 3 = s 3 + 1 := by
  unfold t_gate
  simp only [g_put]
  rw [upd_n (by omega), upd_n (by omega), upd_n (by omega), upd_n (by omega), upd_n (by omega), upd_s]
theorem t_gate_g {s : Rw} {x y : Int32} {n : Nat} (hn : s 3 = nI n) (h8 : n ≤ 8) : t_gate s x y (46 + 5 * n + 0) = x ∧ t_gate s x y (46 + 5 * n + 1) = y ∧ t_gate s x y (46 + 5 * n + 2) = 0 ∧ t_gate s x y (46 + 5 * n + 3) = 0 ∧ t_gate s x y (46 + 5 * n + 4) = 0 := by
  unfold t_gate
  rw [cn_of hn (by omega)]
  simp only [g_put]
  refine ⟨?_, ?_, ?_, ?_, ?_⟩
  · rw [upd_n (by omega), upd_n (by omega), upd_n (by omega), upd_n (by omega), upd_s]; rfl
  · rw [upd_n (by omega), upd_n (by omega), upd_n (by omega), upd_s]; rfl
  · rw [upd_n (by omega), upd_n (by omega), upd_s]; rfl
  · rw [upd_n (by omega), upd_s]; rfl
  · rw [upd_s]; rfl
theorem core_gate {d B n no nm : Nat} {s : Rw} {x y : Int32} (h : Core d B n no nm s) (ha : ¬ a_gate s x y < 0) : Core d B (n + 1) no nm (t_gate s x y) ∧ (Opn s → Opn (t_gate s x y)) := by
  obtain ⟨⟨a1, a2, a3, a4, a5, a6⟩, ⟨b1, b2⟩, c, t, u, v⟩ := id h
  obtain ⟨hlt, ⟨k, hk, ek⟩, ⟨w, hw, ew⟩, -⟩ := gate_ok a4 a1 ha
  have lo : ∀ j, j < 46 → j ≠ 3 → t_gate s x y j = s j := fun j h1 h2 => t_gate_lo a4 a1 h2 fun w _ => by omega
  have old : ∀ g w, g < n → w < 5 → t_gate s x y (46 + 5 * g + w) = s (46 + 5 * g + w) := fun g w hg hw => t_gate_lo a4 a1 (by omega) fun w2 hw2 => by omega
  obtain ⟨g0, g1, g2, -, -⟩ := t_gate_g (x := x) (y := y) a4 a1
  refine ⟨⟨⟨by omega, a2, a3, by rw [t_gate_3, a4, nI_1], (lo _ (by decide) (by decide)).trans a5, (lo _ (by decide) (by decide)).trans a6⟩, ⟨(b1.mono (by omega)).cong (fun k hk => lo _ (by omega) (by omega)) (fun k hk => lo _ (by omega) (by omega)), (b2.mono (by omega)).cong (fun k hk => lo _ (by omega) (by omega)) (fun k hk => lo _ (by omega) (by omega))⟩, ?_, ?_, u.cong (lo _ (by decide) (by decide)) (lo _ (by decide) (by decide)) (lo _ (by decide) (by decide)) (lo _ (by decide) (by decide)) (lo _ (by decide) (by decide)) (lo _ (by decide) (by decide)) (lo _ (by decide) (by decide)), v.cong (lo _ (by decide) (by decide)) (lo _ (by decide) (by decide))⟩, fun ho => ho.cong t a1 (lo _ (by decide) (by decide)) (lo _ (by decide) (by decide)) fun g hg => old g 2 hg (by decide)⟩
  · intro g hg
    rcases Nat.lt_or_ge g n with q | q
    · rw [old g 0 q (by decide), old g 1 q (by decide), old g 2 q (by decide)]
      exact c g q
    · rw [show g = n by omega, g0, g1, g2]
      exact ⟨⟨k, hk, ek⟩, ⟨w, hw, ew⟩, 0, by omega, rfl⟩
  · rcases t with h | ⟨g, y2, hg, hy, e1, e2⟩
    · exact Or.inl ((lo _ (by decide) (by decide)).trans h)
    · exact Or.inr ⟨g, y2, by omega, hy, (lo _ (by decide) (by decide)).trans e1, (lo _ (by decide) (by decide)).trans e2⟩
theorem c_addGate {d B n no nm : Nat} {D : St} {s : Rw} {Q : Int32 → St → Prop} {x y : Int32} (hR : Rl D s) (hC : Core d B n no nm s)
    (he : a_gate s x y < 0 → Q (a_gate s x y) D) (hok : ¬ a_gate s x y < 0 → ∀ D', Rl D' (t_gate s x y) → Q (a_gate s x y) D') : q_X0_addGate x y D Q := by
  have hc := hC.1
  have ha1 := hc.1
  obtain ⟨rg, ro, rm, rs, rn, r7, r8⟩ := hR n no nm hc
  have e3 : s 3 = nI n := hc.2.2.2.1
  have bad : ¬ ((0 ≤ x ∧ x ≤ 2) ∧ (1 ≤ y ∧ y ≤ 20)) → Q (-1000001) D := fun q => by
    unfold a_gate at he
    rw [if_neg q] at he
    exact he (by decide)
  unfold q_X0_addGate q_X1_isFull
  refine ⟨fun c => bad fun q => absurd q.1.1 (Int32.not_le.mpr c), fun c1 => ⟨fun c => bad fun q => absurd q.1.2 (Int32.not_le.mpr c), fun c2 => ⟨fun c => bad fun q => absurd q.2.1 (Int32.not_le.mpr c), fun c3 => ⟨fun c4 => ?_, fun c => bad fun q => absurd q.2.2 c⟩⟩⟩⟩
  have hin : (0 ≤ x ∧ x ≤ 2) ∧ (1 ≤ y ∧ y ≤ 20) := ⟨⟨Int32.not_lt.mp c1, Int32.not_lt.mp c2⟩, Int32.not_lt.mp c3, c4⟩
  rw [rg.1]
  refine ⟨fun c8 => ⟨fun _ => ?_, fun q => absurd rfl q⟩, fun c8 => ⟨fun q => absurd q (by decide), fun _ => ?_⟩⟩
  · have hlt : n < 8 := (nI_ltI (b := 8) (by omega) (by omega)).mp c8
    have hne : ¬ s 3 = 8 := fun e => by
      have := (nI_eq (b := 8) (by omega) (by omega)).mp (e3.symm.trans e)
      omega
    have ea : a_gate s x y = nI n := by
      unfold a_gate
      rw [if_pos hin, if_neg hne, e3]
    have hpos : ¬ a_gate s x y < 0 := by rw [ea]; exact nI_pos (by omega)
    unfold q_X1_append q_X1_isFull q_X1_size
    rw [rg.1]
    refine ⟨fun _ => ⟨fun _ => ⟨vp_in_nI hlt (by omega), ?_⟩, fun q => absurd rfl q⟩, fun q => absurd c8 q⟩
    rw [nI_c _ (by omega), nI_1]
    have e : ∀ u : St, Rl u (t_gate s x y) → Q (nI (n + 1) - 1) u := fun u hu => by
      rw [nI_pred, ← ea]
      exact hok hpos u hu
    refine e _ (Rl.of (core_gate hC hpos).1.1 ?_)
    have lo : ∀ j, j < 46 → j ≠ 3 → s j = t_gate s x y j := fun j h1 h2 => (t_gate_lo e3 ha1 h2 fun w _ => by omega).symm
    have old : ∀ g w, g < n → w < 5 → s (46 + 5 * g + w) = t_gate s x y (46 + 5 * g + w) := fun g w hg hw => (t_gate_lo e3 ha1 (by omega) fun w2 hw2 => by omega).symm
    obtain ⟨g0, g1, g2, g3, g4⟩ := t_gate_g (x := x) (y := y) e3 ha1
    generalize t_gate s x y = s' at lo old g0 g1 g2 g3 g4
    have ho8 := hc.2.1
    have hm4 := hc.2.2.1
    have cell : ∀ (f : Nat → Int32) (v : Int32) (w : Nat), w < 5 → (∀ g, g < n → f g = s (46 + 5 * g + w)) → s' (46 + 5 * n + w) = v → ∀ g, g < n + 1 → upd f n v g = s' (46 + 5 * g + w) := by
      intro f v w hw hf hv g hg
      by_cases q : g = n
      · subst q; rw [upd_s, hv]
      · rw [upd_n q, hf g (by omega), old g w (by omega) hw]
    refine ⟨⟨rfl, cell (D 0) x 0 (by decide) rg.2.1 g0, cell (D 1) y 1 (by decide) rg.2.2.1 g1, cell (D 2) 0 2 (by decide) rg.2.2.2.1 g2, cell (D 3) 0 3 (by decide) rg.2.2.2.2.1 g3, cell (D 4) 0 4 (by decide) rg.2.2.2.2.2 g4⟩, ro.cong (fun k hk => lo _ (by omega) (by omega)) (fun k hk => lo _ (by omega) (by omega)), rm.cong (fun k hk => lo _ (by omega) (by omega)) (fun k hk => lo _ (by omega) (by omega)), rs.cong ?_, rn.cong fun j h1 h2 h3 h4 h5 h6 => lo j (by omega) (by omega), r7.trans (lo _ (by decide) (by decide)), fun q => ?_⟩
    · intro j hj; exact lo j (by omega) (by omega)
    · rw [← lo 7 (by decide) (by decide)] at q
      exact (r8 q).trans (lo _ (by decide) (by decide))
  · have e8 : s 3 = 8 := by
      have : ¬ n < 8 := fun q => c8 (nI_lt (b := 8) q (by omega))
      rw [e3, show n = 8 by omega]; rfl
    unfold a_gate at he
    rw [if_pos hin, if_pos e8] at he
    exact he (by decide)
