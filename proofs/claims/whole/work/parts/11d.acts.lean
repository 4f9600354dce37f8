/-! The reference: taking a task, looking whether it is done, working, the water's way. -/
def t_takes (s : Rw) : Rw :=
  if s 9 = 1 then match nrO (fun g => s (46 + 5 * g + 2)) (s 6) (cn s 3) with
    | some g => upd (upd s 7 (nI g)) 8 10
    | none => upd (upd s 7 (-1)) 8 10
  else if s 11 ≤ 0 then match (nxO (itO s) (cn s 10)).1 with
    | some k => t_dO (upd (upd s 7 (s (20 + 2 * k))) 8 (s (20 + 2 * k + 1))) (cn s 10) k
    | none => upd (upd s 7 (-1)) 8 0
  else t_dM (upd (upd s 7 (s 36)) 8 (s 37)) (cn s 11) 0
theorem t_dO_7 (s : Rw) (n i : Nat) : t_dO s n i 7 = s 7 := by
  simp only [t_dO]
  rw [upd_n (by decide)]
  simp only [shf]
  rw [if_neg (by omega)]
theorem t_dM_7 (s : Rw) (n i : Nat) : t_dM s n i 7 = s 7 := by
  simp only [t_dM]
  rw [upd_n (by decide)]
  simp only [shf]
  rw [if_neg (by omega)]
theorem v_takes {M : St} {Q : Int32 → St → Prop} (n no nm : Nat) (hn : M 0 3 = nI n) (h8 : n ≤ 8) (hno : M 0 10 = nI no) (ho8 : no ≤ 8) (hnm : M 0 11 = nI nm) (hm4 : nm ≤ 4) (hg : ∀ k, k < no → ∃ g, g < 8 ∧ M 0 (20 + 2 * k) = nI g)
    (h : Q (if t_takes (M 0) 7 < 0 then 0 else 1) (uA M 0 (t_takes (M 0)))) : q_X6_takes M Q := by
  unfold q_X6_takes
  have key : ∀ (r : Int32) (f : Rw), f = t_takes (M 0) → r = (if f 7 < 0 then 0 else 1) → Q r (uA M 0 f) := fun r f e1 e2 => by
    rw [e2, e1]; exact h
  refine ⟨fun c0 => ?_, fun c0 => ⟨fun c1 => ?_, fun c1 => ?_⟩⟩
  · refine v_nearest n hn h8 ?_
    have e : t_takes (M 0) = match nrO (fun g => M 0 (46 + 5 * g + 2)) (M 0 6) n with
        | some g => upd (upd (M 0) 7 (nI g)) 8 10
        | none => upd (upd (M 0) 7 (-1)) 8 10 := by
      rw [t_takes, if_pos c0, cn_of hn (by omega)]
    cases hf : nrO (fun g => M 0 (46 + 5 * g + 2)) (M 0 6) n with
    | none =>
      rw [hf] at e
      refine ⟨fun c => absurd ixR_none (Int32.not_lt.mpr c), fun _ => ⟨fun c => ?_, fun c => absurd (show ((-1 : Int32)) < 0 by decide) c⟩⟩
      rw [uA_uA]
      exact key _ _ e.symm (by rw [if_pos (show (upd (upd (M 0) 7 (-1)) 8 10) 7 < 0 from c)])
    | some g =>
      rw [hf] at e
      obtain ⟨hg1, -⟩ := nrO_some hf
      refine ⟨fun _ => ⟨fun c => absurd c (ixR_some (k := g) (by omega)), fun c => ?_⟩, fun c => absurd (Int32.not_lt.mp (ixR_some (k := g) (by omega))) c⟩
      rw [uA_uA]
      exact key _ _ e.symm (if_neg c).symm
  · refine v_next no hno ho8 hg ?_
    have e : t_takes (M 0) = match (nxO (itO (M 0)) no).1 with
        | some k => t_dO (upd (upd (M 0) 7 (M 0 (20 + 2 * k))) 8 (M 0 (20 + 2 * k + 1))) no k
        | none => upd (upd (M 0) 7 (-1)) 8 0 := by
      rw [t_takes, if_neg c0, if_pos c1, cn_of hno (by omega)]
    cases hf : (nxO (itO (M 0)) no).1 with
    | none =>
      rw [hf] at e
      refine ⟨fun c => absurd ixR_none (Int32.not_lt.mpr c), fun _ => ⟨fun _ => ⟨fun c => ?_, fun c => absurd (show ((-1 : Int32)) < 0 by decide) c⟩, fun c => absurd ixR_none c⟩⟩
      rw [uA_uA]
      exact key _ _ e.symm (by rw [if_pos (show (upd (upd (M 0) 7 (-1)) 8 0) 7 < 0 from c)])
    | some k =>
      rw [hf] at e
      have hk : k < no := nxO_some (b := (nxO (itO (M 0)) no).2) (by rw [← hf])
      have e1 : ixR (some k) = nI k := rfl
      rw [e1, show (20 : Int32) = nI 20 from rfl, ix_row, nI_1, nI_c _ (by omega), nI_c _ (by omega)]
      refine ⟨fun _ => ⟨vp_in_nI (by omega) (by omega), vp_in_nI (by omega) (by omega), fun c => absurd c (nI_pos (by omega)), fun _ => ?_⟩, fun c => absurd (nI_pos' (by omega)) c⟩
      have e8 : (upd (M 0) 7 (M 0 (20 + 2 * k))) (20 + 2 * k + 1) = M 0 (20 + 2 * k + 1) := upd_n (by omega)
      rw [e8, uA_uA]
      refine v_dropsOrder no k (by rw [uA_s, upd_n (by decide), upd_n (by decide)]; exact hno) ho8 hk rfl ?_
      simp only [uA_s, uA_uA]
      exact ⟨fun c => key _ _ e.symm (by rw [if_pos c]), fun c => key _ _ e.symm (by rw [if_neg c])⟩
  · have hm0 : 0 < nm := by
      rcases Nat.eq_zero_or_pos nm with e | e
      · exact absurd (by rw [hnm, e]; decide) c1
      · exact e
    have e : t_takes (M 0) = t_dM (upd (upd (M 0) 7 (M 0 36)) 8 (M 0 37)) nm 0 := by
      rw [t_takes, if_neg c0, if_neg c1, cn_of hnm (by omega)]
    have e8 : (upd (M 0) 7 (M 0 36)) 37 = M 0 37 := rfl
    rw [e8, uA_uA]
    refine v_dropsMark nm 0 (by rw [uA_s, upd_n (by decide), upd_n (by decide)]; exact hnm) hm4 hm0 rfl ?_
    simp only [uA_s, uA_uA]
    exact ⟨fun c => key _ _ e.symm (by rw [if_pos c]), fun c => key _ _ e.symm (by rw [if_neg c])⟩
def t_looks (s : Rw) : Rw := if s 7 < 0 then s else if s (46 + 5 * cn s 7 + 2) = s 8 then upd (upd s 7 (-1)) 18 (s 18 + 1) else s
theorem v_looks {M : St} {Q : St → Prop} (hg : ¬ M 0 7 < 0 → ∃ g, g < 8 ∧ M 0 7 = nI g) (h : Q (uA M 0 (t_looks (M 0)))) : q_X6_looks M Q := by
  unfold q_X6_looks
  refine ⟨fun c => ?_, fun c => ?_⟩
  · rw [t_looks, if_pos c, uA_id] at h
    exact h
  · obtain ⟨g, hg8, hge⟩ := hg c
    rw [t_looks, if_neg c, cn_of hge (by omega)] at h
    refine v_of g 2 hge rfl hg8 (by decide) ⟨fun c2 => ?_, fun c2 => ?_⟩
    · rw [if_pos c2] at h
      rw [uA_uA]
      exact h
    · rw [if_neg c2, uA_id] at h
      exact h
def t_step (s : Rw) (g : Nat) : Int32 := if s 8 - s (46 + 5 * g + 2) ≤ 0 then (if s (46 + 5 * g + 0) = 2 ∧ ¬ abI (s 8 - s (46 + 5 * g + 2)) ≤ 1 then -2 else -1) else (if s (46 + 5 * g + 0) = 2 ∧ ¬ abI (s 8 - s (46 + 5 * g + 2)) ≤ 1 then 2 else 1)
def t_moves (s : Rw) (g : Nat) : Rw := upd (upd (upd s 17 (s 17 + 1)) (46 + 5 * g + 2) (s (46 + 5 * g + 2) + t_step s g)) (46 + 5 * g + 4) (s (46 + 5 * g + 4) + 1)
def t_works (s : Rw) : Rw :=
  if s 7 = s 6 then t_looks (t_moves s (cn s 7))
  else t_looks (upd (upd s 17 (s 17 + 1)) 6 (s 6 + (if s 7 ≤ s 6 then -1 else 1)))
theorem v_works {M : St} {Q : St → Prop} (g : Nat) (hg8 : g < 8) (hge : M 0 7 = nI g) (h : Q (uA M 0 (t_works (M 0)))) : q_X6_works M Q := by
  unfold q_X6_works
  have e6 : (upd (M 0) 17 (M 0 17 + 1)) 6 = M 0 6 := rfl
  have e8 : (upd (M 0) 17 (M 0 17 + 1)) 8 = M 0 8 := rfl
  have e2 : (upd (M 0) 17 (M 0 17 + 1)) (46 + 5 * g + 2) = M 0 (46 + 5 * g + 2) := upd_n (by omega)
  have e0 : (upd (M 0) 17 (M 0 17 + 1)) (46 + 5 * g + 0) = M 0 (46 + 5 * g + 0) := upd_n (by omega)
  have e4 : (upd (M 0) 17 (M 0 17 + 1)) (46 + 5 * g + 4) = M 0 (46 + 5 * g + 4) := upd_n (by omega)
  rw [e6, e8]
  have fin : M 0 7 = M 0 6 → ∀ z : Int32, z = t_step (M 0) g → q_X6_puts (M 0 7) 2 (M 0 (46 + 5 * g + 2) + z) (uA M 0 (upd (M 0) 17 (M 0 17 + 1))) (fun u_7 => q_X6_of (M 0 7) 4 u_7 (fun r_8 => q_X6_puts (M 0 7) 4 (r_8 + 1) u_7 (fun u_9 => q_X6_looks u_9 (fun u_10 => Q u_10)))) := by
    rintro c z rfl
    refine v_puts g 2 hge rfl hg8 (by decide) ?_
    rw [uA_s, uA_uA]
    refine v_of g 4 hge rfl hg8 (by decide) ?_
    rw [uA_s, upd_n (by omega), e4]
    refine v_puts g 4 hge rfl hg8 (by decide) ?_
    rw [uA_s, uA_uA]
    refine v_looks (fun _ => ⟨g, hg8, by rw [uA_s, upd_n (by omega), upd_n (by omega), upd_n (by decide)]; exact hge⟩) ?_
    rw [uA_s, uA_uA]
    rw [t_works, if_pos c, cn_of hge (by omega)] at h
    exact h
  refine ⟨fun c => ?_, fun c => ?_⟩
  · refine v_of g 2 hge rfl hg8 (by decide) (v_of g 0 hge rfl hg8 (by decide) ?_)
    rw [uA_s, e2, e0]
    refine ⟨fun k2 => v_size ⟨fun s1 => v_of g 2 hge rfl hg8 (by decide) ?_, fun s1 => v_of g 2 hge rfl hg8 (by decide) ?_⟩, fun k2 => v_of g 2 hge rfl hg8 (by decide) ?_⟩
    · rw [uA_s, e2]
      exact ⟨fun l => fin c _ (by rw [t_step, if_pos l, if_neg fun q => q.2 s1]), fun l => fin c _ (by rw [t_step, if_neg l, if_neg fun q => q.2 s1])⟩
    · rw [uA_s, e2]
      exact ⟨fun l => fin c _ (by rw [t_step, if_pos l, if_pos ⟨k2, s1⟩]), fun l => fin c _ (by rw [t_step, if_neg l, if_pos ⟨k2, s1⟩])⟩
    · rw [uA_s, e2]
      exact ⟨fun l => fin c _ (by rw [t_step, if_pos l, if_neg fun q => k2 q.1]), fun l => fin c _ (by rw [t_step, if_neg l, if_neg fun q => k2 q.1])⟩
  · rw [uA_uA]
    rw [t_works, if_neg c] at h
    refine ⟨fun l => ?_, fun l => ?_⟩
    · rw [if_pos l] at h
      refine v_looks (fun _ => ⟨g, hg8, by rw [uA_s]; exact hge⟩) ?_
      rw [uA_s, uA_uA]
      exact h
    · rw [if_neg l] at h
      rw [uA_uA]
      refine v_looks (fun _ => ⟨g, hg8, by rw [uA_s]; exact hge⟩) ?_
      rw [uA_s, uA_uA]
      exact h
def t_out (s : Rw) (g : Nat) (h : Int32) : Int32 := if t_rate s g h ≤ s 4 then t_rate s g h else s 4
def t_pour (s : Rw) (g : Nat) (o : Int32) : Rw := upd (upd (upd s 4 (s 4 - o)) 14 (s 14 + o)) (46 + 5 * g + 3) (s (46 + 5 * g + 3) + o)
def t_fl (h : Int32) : Nat → Rw → Rw
  | 0, s => s
  | k + 1, s => t_pour (t_fl h k s) k (t_out (t_fl h k s) k h)
def t_over (s : Rw) : Rw := upd (upd s 15 (s 15 + (if s 4 ≤ 9999 then 0 else s 4 - 9999))) 4 (s 4 - (if s 4 ≤ 9999 then 0 else s 4 - 9999))
def t_flows (s : Rw) : Rw := t_over (t_fl (s 4 / 1000 + 1) (cn s 3) (upd (upd s 4 (s 4 + s 5)) 13 (s 13 + s 5)))
theorem t_pour_n {s : Rw} {g : Nat} {o : Int32} {j : Nat} (h4 : j ≠ 4) (h14 : j ≠ 14) (h3 : j ≠ 46 + 5 * g + 3) : t_pour s g o j = s j := by
  unfold t_pour
  rw [upd_n h3, upd_n h14, upd_n h4]
theorem t_fl_n {h : Int32} {j : Nat} (h4 : j ≠ 4) (h14 : j ≠ 14) : ∀ (k : Nat) (s : Rw), (∀ g, g < k → j ≠ 46 + 5 * g + 3) → t_fl h k s j = s j
  | 0, _, _ => rfl
  | k + 1, s, hj => by
    rw [t_fl, t_pour_n h4 h14 (hj k (Nat.lt_succ_self k))]
    exact t_fl_n h4 h14 k s fun g hg => hj g (by omega)
theorem v_flows {M : St} {Q : St → Prop} (n : Nat) (hn : M 0 3 = nI n) (h8 : n ≤ 8) (h : Q (uA M 0 (t_flows (M 0)))) : q_X6_flows M Q := by
  unfold q_X6_flows q_X6_head
  rw [uA_uA]
  rw [t_flows, cn_of hn (by omega)] at h
  generalize M 0 4 / 1000 + 1 = hd at h ⊢
  refine ⟨fun m x D => ∃ k : Nat, k ≤ n ∧ m = n - k ∧ x = nI k ∧ D = uA M 0 (t_fl hd k (upd (upd (M 0) 4 (M 0 4 + M 0 5)) 13 (M 0 13 + M 0 5))), n, ⟨0, Nat.zero_le _, rfl, rfl, rfl⟩, ?_⟩
  rintro m x D ⟨k, hk, rfl, rfl, rfl⟩
  rw [uA_s]
  have e3 : t_fl hd k (upd (upd (M 0) 4 (M 0 4 + M 0 5)) 13 (M 0 13 + M 0 5)) 3 = nI n := by
    rw [t_fl_n (by decide) (by decide) k _ fun g _ => by omega]
    exact hn
  rw [e3]
  generalize hs : t_fl hd k (upd (upd (M 0) 4 (M 0 4 + M 0 5)) 13 (M 0 13 + M 0 5)) = s at e3 ⊢
  refine ⟨fun c => ?_, fun c => ?_⟩
  · have : n ≤ k := (nI_leI (by omega) (by omega)).mp c
    have hkn : k = n := by omega
    subst hkn
    rw [hs, t_over] at h
    refine ⟨fun c4 => ?_, fun c4 => ?_⟩
    · rw [if_pos c4] at h
      rw [uA_uA, uA_uA]
      exact h
    · rw [if_neg c4] at h
      rw [uA_uA, uA_uA]
      exact h
  · have hkn : k < n := Nat.not_le.mp fun q => c (nI_le q (by omega))
    refine v_rate k rfl (by omega) ?_
    rw [uA_s, uA_uA, uA_uA, uA_uA, uA_uA]
    have fin : ∀ o : Int32, o = t_out s k hd → q_X6_of (nI k) 3 (uA M 0 (upd (upd s 4 (s 4 - o)) 14 (s 14 + o))) (fun r_15 => q_X6_puts (nI k) 3 (r_15 + o) (uA M 0 (upd (upd s 4 (s 4 - o)) 14 (s 14 + o))) (fun u_16 => ∃ n_17, n_17 < n - k ∧ ∃ k1 : Nat, k1 ≤ n ∧ n_17 = n - k1 ∧ nI k + 1 = nI k1 ∧ u_16 = uA M 0 (t_fl hd k1 (upd (upd (M 0) 4 (M 0 4 + M 0 5)) 13 (M 0 13 + M 0 5))))) := by
      intro o ho
      refine v_of k 3 rfl rfl (by omega) (by decide) ?_
      rw [uA_s, upd_n (by omega), upd_n (by omega)]
      refine v_puts k 3 rfl rfl (by omega) (by decide) ?_
      rw [uA_s, uA_uA]
      refine ⟨n - (k + 1), by omega, k + 1, hkn, rfl, nI_1 k, ?_⟩
      rw [t_fl, hs, ← ho]
      rfl
    refine ⟨fun c4 => fin _ (by rw [t_out, if_pos c4]), fun c4 => fin _ (by rw [t_out, if_neg c4])⟩
