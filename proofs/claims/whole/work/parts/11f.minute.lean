/-! A minute keeps what holds. -/
theorem cn7 {s : Rw} {g : Nat} (h : s 7 = nI g) (hg : g < 8) : cn s 7 = g := cn_of h (by omega)
theorem core_floods {B n no nm : Nat} {s : Rw} (h : Core 0 B n no nm s) (ho : Opn s) : ∃ nm', Core 1 B n no nm' (t_floods s) ∧ Opn (t_floods s) := by
  have h' := h
  obtain ⟨⟨a1, a2, a3, a4, a5, a6⟩, b, c, t, ⟨u1, u2, u3⟩, f, m, v1, v2, v3, v4⟩ := h'
  unfold t_floods
  have low : ∀ s' : Rw, (∀ j, 20 ≤ j → s' j = s j) → s' 3 = s 3 → s' 10 = s 10 → s' 11 = s 11 → Tsk n s' → Nums s' → Tm 1 B s' → Core 1 B n no nm s' := fun s' => core_low h
  split
  · rename_i hb
    have hT : Tm 1 B (upd (upd s 9 1) 16 (s 16 + 1)) := ⟨f + 1, m, by omega, v2, by rw [upd_s, v3, nI_1], v4⟩
    have hU : Nums (upd (upd s 9 1) 16 (s 16 + 1)) := ⟨u1, Or.inr rfl, u3⟩
    split
    · rename_i h7
      refine ⟨nm, low _ (fun j hj => by rw [upd_n (by omega), upd_n (by omega)]) rfl rfl rfl (t.cong rfl rfl) hU hT, fun q => absurd h7 q⟩
    · rename_i h7
      obtain ⟨g, y, hg, hy, e7, e8⟩ := t.g h7
      have h1 : Core 1 B n no nm (upd (upd s 9 1) 16 (s 16 + 1)) := low _ (fun j hj => by rw [upd_n (by omega), upd_n (by omega)]) rfl rfl rfl (t.cong rfl rfl) hU hT
      obtain ⟨nm', h2⟩ := core_marks h1 (x := s 7) (y := s 8) ⟨g, hg, e7⟩ ⟨y, hy, e8⟩
      refine ⟨nm', core_low h2 (fun j hj => by rw [upd_n (by omega), upd_n (by omega)]) rfl rfl rfl (Tsk.none rfl) (h2.2.2.2.2.1.cong rfl rfl rfl rfl rfl rfl rfl) (h2.2.2.2.2.2.cong rfl rfl), fun q => absurd (show (-1 : Int32) < 0 by decide) q⟩
  · split
    · rename_i he
      have hT : ∀ v, Tm 1 B (upd (upd (upd s 9 0) 19 v) 7 (-1)) := fun v => ⟨f, m, by omega, v2, v3, v4⟩
      have hU : ∀ v, Nums (upd (upd (upd s 9 0) 19 v) 7 (-1)) := fun v => ⟨u1, Or.inl rfl, u3⟩
      split
      · exact ⟨nm, low _ (fun j hj => by rw [upd_n (by omega), upd_n (by omega), upd_n (by omega)]) rfl rfl rfl (Tsk.none rfl) (hU _) (hT _), fun q => absurd (show (-1 : Int32) < 0 by decide) q⟩
      · exact ⟨nm, low _ (fun j hj => by rw [upd_n (by omega), upd_n (by omega), upd_n (by omega)]) rfl rfl rfl (Tsk.none rfl) (hU _) (hT _), fun q => absurd (show (-1 : Int32) < 0 by decide) q⟩
    · exact ⟨nm, low s (fun _ _ => rfl) rfl rfl rfl t ⟨u1, u2, u3⟩ ⟨f, m, by omega, v2, v3, v4⟩, ho⟩
theorem nr_of {d B n no nm : Nat} {s : Rw} (h : Core d B n no nm s) {f : Nat} (hf : nrO (fun g => s (46 + 5 * g + 2)) (s 6) n = some f) : f < n ∧ s (46 + 5 * f + 2) ≠ 10 := by
  obtain ⟨h1, h2⟩ := nrO_some hf
  refine ⟨h1, fun e => h2 ?_⟩
  show (10 : Int32) ≤ s (46 + 5 * f + 2)
  rw [e]
  decide
theorem core_takes {d B n no nm : Nat} {s : Rw} (h : Core d B n no nm s) : ∃ no' nm', Core d B n no' nm' (t_takes s) ∧ (s 9 = 1 → Opn (t_takes s)) ∧ t_takes s 9 = s 9 ∧ (no' + nm' < no + nm ∨ t_takes s 7 < 0 ∨ s 9 = 1) := by
  have h' := h
  obtain ⟨⟨a1, a2, a3, a4, a5, a6⟩, ⟨b1, b2⟩, c, t, u, v⟩ := h'
  have low : ∀ x y : Int32, Tsk n (upd (upd s 7 x) 8 y) → Core d B n no nm (upd (upd s 7 x) 8 y) := fun x y ht => core_low h (fun j hj => by rw [upd_n (by omega), upd_n (by omega)]) rfl rfl rfl ht (u.cong rfl rfl rfl rfl rfl rfl rfl) (v.cong rfl rfl)
  unfold t_takes
  rw [cn_of a4 (by omega), cn_of a5 (by omega), cn_of a6 (by omega)]
  split
  · rename_i h9
    cases hf : nrO (fun g => s (46 + 5 * g + 2)) (s 6) n with
    | none => exact ⟨no, nm, low _ _ (Tsk.none rfl), fun _ q => absurd (show (-1 : Int32) < 0 by decide) q, rfl, Or.inr (Or.inr h9)⟩
    | some g =>
      obtain ⟨hg, h10⟩ := nr_of h hf
      refine ⟨no, nm, low _ _ (Or.inr ⟨g, 10, hg, Nat.le_refl _, rfl, rfl⟩), fun _ _ => ?_, rfl, Or.inr (Or.inr h9)⟩
      rw [cn7 (g := g) rfl (by omega)]
      intro e
      have e : upd (upd s 7 (nI g)) 8 10 (46 + 5 * g + 2) = 10 := e
      rw [upd_n (by omega), upd_n (by omega)] at e
      exact h10 e
  · rename_i h9
    split
    · cases hf : (nxO (itO s) no).1 with
      | none => exact ⟨no, nm, low _ _ (Tsk.none rfl), fun q => absurd q h9, rfl, Or.inr (Or.inl (show (-1 : Int32) < 0 by decide))⟩
      | some k =>
        have hk : k < no := nxO_some (b := (nxO (itO s) no).2) (by rw [← hf])
        obtain ⟨g, hg, eg⟩ := b1.1 k hk
        obtain ⟨y, hy, ey⟩ := b1.2.1 k hk
        have h1 := low (s (20 + 2 * k)) (s (20 + 2 * k + 1)) (Or.inr ⟨g, y, hg, hy, eg, ey⟩)
        exact ⟨no - 1, nm, core_dO h1 hk, fun q => absurd q h9, t_dO_n a2 (by decide) (by omega), Or.inl (by omega)⟩
    · rename_i h11
      have hm0 : 0 < nm := by
        rcases Nat.eq_zero_or_pos nm with e | e
        · exact absurd (by rw [a6, e]; decide) h11
        · exact e
      obtain ⟨g, hg, eg⟩ := b2.1 0 hm0
      obtain ⟨y, hy, ey⟩ := b2.2.1 0 hm0
      have h1 := low (s 36) (s 37) (Or.inr ⟨g, y, hg, hy, eg, ey⟩)
      exact ⟨no, nm - 1, core_dM h1 hm0, fun q => absurd q h9, t_dM_n a3 (by decide) (by omega), Or.inl (by omega)⟩
theorem core_looks {d B n no nm : Nat} {s : Rw} (h : Core d B n no nm s) : Core d B n no nm (t_looks s) ∧ Opn (t_looks s) ∧ t_looks s 9 = s 9 := by
  unfold t_looks
  split
  · rename_i h7
    exact ⟨h, fun q => absurd h7 q, rfl⟩
  · split
    · exact ⟨core_low h (fun j hj => by rw [upd_n (by omega), upd_n (by omega)]) rfl rfl rfl (Tsk.none rfl) (h.2.2.2.2.1.cong rfl rfl rfl rfl rfl rfl rfl) (h.2.2.2.2.2.cong rfl rfl), fun q => absurd (show (-1 : Int32) < 0 by decide) q, rfl⟩
    · rename_i hne
      exact ⟨h, fun _ => hne, rfl⟩
/-- the crane takes tasks, as long as those that it takes are done at once; k bounds how often -/
def t_lp : Nat → Rw → Rw
  | 0, s => s
  | k + 1, s => if t_takes s 7 < 0 then t_looks (t_takes s) else if 0 ≤ t_looks (t_takes s) 7 then t_looks (t_takes s) else t_lp k (t_looks (t_takes s))
theorem opn_looks {s : Rw} (h : Opn s) : t_looks s = s := by
  unfold t_looks
  split
  · rfl
  · rename_i h7
    rw [if_neg (h h7)]
theorem core_lp {d B n : Nat} : ∀ (k : Nat) {no nm : Nat} {s : Rw}, Core d B n no nm s → no + nm < k → ∃ no' nm', Core d B n no' nm' (t_lp k s) ∧ Opn (t_lp k s)
  | 0, _, _, _, _, hk => by omega
  | k + 1, no, nm, s, h, hk => by
    obtain ⟨no', nm', h1, h9, e9, hw⟩ := core_takes h
    obtain ⟨h2, ho, -⟩ := core_looks h1
    unfold t_lp
    split
    · exact ⟨no', nm', h2, ho⟩
    · rename_i h7
      split
      · exact ⟨no', nm', h2, ho⟩
      · rename_i h7b
        rcases hw with hw | hw | hw
        · exact core_lp k h2 (by omega)
        · exact absurd hw h7
        · have := opn_looks (h9 hw)
          rw [this] at h7b
          exact absurd (Int32.not_lt.mp h7) h7b
def t_take (s : Rw) : Rw := if 0 ≤ s 7 then s else t_lp 13 s
theorem core_take {d B n no nm : Nat} {s : Rw} (h : Core d B n no nm s) (ho : Opn s) : ∃ no' nm', Core d B n no' nm' (t_take s) ∧ Opn (t_take s) := by
  unfold t_take
  split
  · exact ⟨no, nm, h, ho⟩
  · have h2 := h.1.2.1
    have h4 := h.1.2.2.1
    exact core_lp 13 h (by omega)
theorem step_ok : ∀ a, a < 11 → ∀ y, y < 11 → a ≠ y → (∃ b, b < 11 ∧ nI a + (if nI y - nI a ≤ 0 then -1 else 1) = nI b) ∧ (¬ abI (nI y - nI a) ≤ 1 → ∃ b, b < 11 ∧ nI a + (if nI y - nI a ≤ 0 then -2 else 2) = nI b) := by decide +kernel
theorem core_works {d B n no nm : Nat} {s : Rw} (h : Core d B n no nm s) (ho : Opn s) (h7 : ¬ s 7 < 0) : Core d B n no nm (t_works s) ∧ Opn (t_works s) := by
  have h' := h
  obtain ⟨⟨a1, a2, a3, a4, a5, a6⟩, b, c, t, u, v⟩ := h'
  obtain ⟨g, y, hg, hy, e7, e8⟩ := t.g h7
  unfold t_works
  split
  · rw [cn7 e7 (by omega)]
    have hC : Core d B n no nm (t_moves s g) := by
      obtain ⟨c1, c2, a, ha, ea⟩ := c g hg
      have hne : a ≠ y := by
        intro e
        have := ho h7
        rw [cn7 e7 (by omega), ea, e8, e] at this
        exact this rfl
      have hs : ∃ b, b ≤ 10 ∧ s (46 + 5 * g + 2) + t_step s g = nI b := by
        obtain ⟨s1, s2⟩ := step_ok a (by omega) y (by omega) hne
        unfold t_step
        rw [ea, e8]
        by_cases hk : s (46 + 5 * g + 0) = 2 ∧ ¬ abI (nI y - nI a) ≤ 1
        · rw [if_pos hk, if_pos hk]
          obtain ⟨b, hb, eb⟩ := s2 hk.2
          exact ⟨b, by omega, eb⟩
        · rw [if_neg hk, if_neg hk]
          obtain ⟨b, hb, eb⟩ := s1
          exact ⟨b, by omega, eb⟩
      have lowj : ∀ j, j < 46 → j ≠ 17 → t_moves s g j = s j := fun j h1 h2 => by
        unfold t_moves
        rw [upd_n (by omega), upd_n (by omega), upd_n h2]
      refine ⟨h.1.cong (lowj 3 (by decide) (by decide)) (lowj 10 (by decide) (by decide)) (lowj 11 (by decide) (by decide)), b.cong a2 a3 fun j h1 h2 => lowj j h2 (by omega), ?_, t.cong (lowj 7 (by decide) (by decide)) (lowj 8 (by decide) (by decide)), u.cong (lowj _ (by decide) (by decide)) (lowj _ (by decide) (by decide)) (lowj _ (by decide) (by decide)) (lowj _ (by decide) (by decide)) (lowj _ (by decide) (by decide)) (lowj _ (by decide) (by decide)) (lowj _ (by decide) (by decide)), v.cong (lowj _ (by decide) (by decide)) (lowj _ (by decide) (by decide))⟩
      intro g2 hg2
      have e0 : t_moves s g (46 + 5 * g2 + 0) = s (46 + 5 * g2 + 0) := by
        unfold t_moves
        rw [upd_n (by omega), upd_n (by omega), upd_n (by omega)]
      have e1 : t_moves s g (46 + 5 * g2 + 1) = s (46 + 5 * g2 + 1) := by
        unfold t_moves
        rw [upd_n (by omega), upd_n (by omega), upd_n (by omega)]
      obtain ⟨d1, d2, d3⟩ := c g2 hg2
      rw [e0, e1]
      refine ⟨d1, d2, ?_⟩
      by_cases e : g2 = g
      · subst e
        unfold t_moves
        rw [upd_n (by omega), upd_s]
        exact hs
      · unfold t_moves
        rw [upd_n (by omega), upd_n (by omega), upd_n (by omega)]
        exact d3
    exact ⟨(core_looks hC).1, (core_looks hC).2.1⟩
  · rename_i hne
    have hC : Core d B n no nm (upd (upd s 17 (s 17 + 1)) 6 (s 6 + (if s 7 ≤ s 6 then -1 else 1))) := by
      obtain ⟨⟨p, hp, ep⟩, u2⟩ := u
      refine core_low h (fun j hj => by rw [upd_n (by omega), upd_n (by omega)]) rfl rfl rfl (t.cong rfl rfl) ⟨?_, u2⟩ (v.cong rfl rfl)
      rw [upd_s, ep, e7]
      have hgp : g ≠ p := fun e => hne (by rw [e7, ep, e])
      by_cases hle : g ≤ p
      · rw [if_pos ((nI_leI (by omega) (by omega)).mpr hle)]
        refine ⟨p - 1, by omega, ?_⟩
        obtain ⟨z, rfl⟩ : ∃ z, p = z + 1 := ⟨p - 1, by omega⟩
        exact pk_m1 z
      · rw [if_neg fun q => hle ((nI_leI (by omega) (by omega)).mp q)]
        exact ⟨p + 1, by omega, nI_1 p⟩
    exact ⟨(core_looks hC).1, (core_looks hC).2.1⟩
theorem rate_ok {s : Rw} {g hd : Nat} {kk w o : Nat} (h0 : s (46 + 5 * g + 0) = nI kk) (hw : w ≤ 20) (h1 : s (46 + 5 * g + 1) = nI w) (ho : o ≤ 10) (h2 : s (46 + 5 * g + 2) = nI o) (hh : hd ≤ 20) : ∃ r, r ≤ 1000 ∧ t_rate s g (nI hd) = nI r := by
  have e : ((s (46 + 5 * g + 1) * s (46 + 5 * g + 2)) * nI hd) / 10 = nI (w * o * hd / 10) := by
    have hb : w * o * hd < 2 ^ 31 := by
      have h1 : w * o ≤ 20 * 10 := Nat.mul_le_mul hw ho
      have h2 : w * o * hd ≤ 20 * 10 * 20 := Nat.mul_le_mul h1 hh
      omega
    rw [h1, h2, pk_mul, pk_mul, show (10 : Int32) = nI 10 from rfl, pk_div hb (by decide) (by decide)]
  have hb : w * o * hd / 10 ≤ 400 := by
    have h1 : w * o ≤ 20 * 10 := Nat.mul_le_mul hw ho
    have h2 : w * o * hd ≤ 20 * 10 * 20 := Nat.mul_le_mul h1 hh
    omega
  unfold t_rate
  rw [e, h1]
  split
  · exact ⟨w * o * hd / 10 + w, by omega, nI_add _ _⟩
  · split
    · exact ⟨0, by omega, rfl⟩
    · exact ⟨_, by omega, rfl⟩
