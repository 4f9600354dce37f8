/-! The reference: seeking a gate, seeking an order, what goes out by a gate. -/
def abI (x : Int32) : Int32 := if 0 ≤ x then x else -x
def nrO (op : Nat → Int32) (c : Int32) : Nat → Option Nat
  | 0 => none
  | k + 1 => if 10 ≤ op k then nrO op c k else match nrO op c k with
    | none => some k
    | some f => if abI (nI f - c) ≤ abI (nI k - c) then some f else some k
theorem nrO_some {op : Nat → Int32} {c : Int32} : ∀ {n f : Nat}, nrO op c n = some f → f < n ∧ ¬ 10 ≤ op f
  | 0, f, h => by simp [nrO] at h
  | n + 1, f, h => by
    unfold nrO at h
    split at h
    · obtain ⟨a, b⟩ := nrO_some h
      exact ⟨by omega, b⟩
    · rename_i h10
      split at h
      · cases h; exact ⟨Nat.lt_succ_self _, h10⟩
      · rename_i f2 h2
        split at h
        · cases h
          obtain ⟨a, b⟩ := nrO_some h2
          exact ⟨by omega, b⟩
        · cases h; exact ⟨Nat.lt_succ_self _, h10⟩
theorem v_nearest {M : St} {Q : Int32 → Prop} (n : Nat) (hn : M 0 3 = nI n) (h8 : n ≤ 8) (h : Q (ixR (nrO (fun g => M 0 (46 + 5 * g + 2)) (M 0 6) n))) : q_X6_nearestToOpen M Q := by
  unfold q_X6_nearestToOpen
  refine ⟨fun m x f => ∃ k : Nat, k ≤ n ∧ m = n - k ∧ x = nI k ∧ f = ixR (nrO (fun g => M 0 (46 + 5 * g + 2)) (M 0 6) k), n, ⟨0, Nat.zero_le _, rfl, rfl, rfl⟩, ?_⟩
  rintro m x f ⟨k, hk, rfl, rfl, rfl⟩
  rw [hn]
  refine ⟨fun c => ?_, fun c => ?_⟩
  · have : n ≤ k := (nI_leI (by omega) (by omega)).mp c
    rw [show k = n by omega]
    exact h
  · have hkn : k < n := Nat.not_le.mp fun q => c (nI_le q (by omega))
    refine v_of k 2 rfl rfl (by omega) (by decide) ?_
    refine ⟨fun c2 => ⟨n - (k + 1), by omega, k + 1, hkn, rfl, nI_1 k, ?_⟩, fun c2 => ?_⟩
    · rw [nrO, if_pos c2]
    · cases hf : nrO (fun g => M 0 (46 + 5 * g + 2)) (M 0 6) k with
      | none =>
        refine ⟨fun _ => ⟨n - (k + 1), by omega, k + 1, hkn, rfl, nI_1 k, ?_⟩, fun c3 => absurd ixR_none c3⟩
        rw [nrO, if_neg c2, hf]
        rfl
      | some g =>
        obtain ⟨hg, -⟩ := nrO_some hf
        refine ⟨fun c3 => absurd c3 (ixR_some (by omega)), fun _ => ?_⟩
        refine v_size (v_size ?_)
        refine ⟨fun c3 => ⟨n - (k + 1), by omega, k + 1, hkn, rfl, nI_1 k, ?_⟩, fun c3 => ⟨n - (k + 1), by omega, k + 1, hkn, rfl, nI_1 k, ?_⟩⟩
        · rw [nrO, if_neg c2, hf]
          show ixR (some g) = ixR (if abI (nI g - M 0 6) ≤ abI (nI k - M 0 6) then some g else some k)
          rw [if_pos (show abI (nI g - M 0 6) ≤ abI (nI k - M 0 6) from c3)]
        · rw [nrO, if_neg c2, hf]
          show nI k = ixR (if abI (nI g - M 0 6) ≤ abI (nI k - M 0 6) then some g else some k)
          rw [if_neg (show ¬ abI (nI g - M 0 6) ≤ abI (nI k - M 0 6) from c3)]
          rfl
def nxO (its : Nat → Int32) : Nat → Option Nat × Int32
  | 0 => (none, 0)
  | k + 1 => match nxO its k with
    | (none, _) => (some k, its k)
    | (some f, b) => if its k ≤ b then (some f, b) else (some k, its k)
def itO (s : Rw) (k : Nat) : Int32 := if s 2 = 0 then 0 else if s 2 = 1 then -(abI (s (20 + 2 * k) - s 6)) else abI (s (20 + 2 * k + 1) - s (46 + 5 * cn s (20 + 2 * k) + 2))
theorem nxO_some {its : Nat → Int32} : ∀ {n f : Nat} {b : Int32}, nxO its n = (some f, b) → f < n
  | 0, f, b, h => by simp [nxO] at h
  | n + 1, f, b, h => by
    unfold nxO at h
    split at h
    · cases h; exact Nat.lt_succ_self _
    · rename_i f2 b2 h2
      split at h
      · cases h
        have := nxO_some h2
        omega
      · cases h; exact Nat.lt_succ_self _
theorem nxO_none {its : Nat → Int32} {n : Nat} (hn : 0 < n) : (nxO its n).1 ≠ none := by
  obtain ⟨m, rfl⟩ : ∃ m, n = m + 1 := ⟨n - 1, by omega⟩
  unfold nxO
  split
  · simp
  · split <;> simp
theorem ix_row1 {r k : Nat} : (nI r + 2 * nI k) + 1 = nI (r + 2 * k + 1) := by rw [ix_row, nI_1]
theorem v_next {M : St} {Q : Int32 → Prop} (n : Nat) (hn : M 0 10 = nI n) (h8 : n ≤ 8) (hg : ∀ k, k < n → ∃ g, g < 8 ∧ M 0 (20 + 2 * k) = nI g) (h : Q (ixR (nxO (itO (M 0)) n).1)) : q_X6_nextOrder M Q := by
  unfold q_X6_nextOrder
  refine ⟨fun m x b f => ∃ k : Nat, k ≤ n ∧ m = n - k ∧ x = nI k ∧ f = ixR (nxO (itO (M 0)) k).1 ∧ b = (nxO (itO (M 0)) k).2, n, ⟨0, Nat.zero_le _, rfl, rfl, rfl, rfl⟩, ?_⟩
  rintro m x b f ⟨k, hk, rfl, rfl, rfl, rfl⟩
  rw [hn]
  refine ⟨fun c => ?_, fun c => ?_⟩
  · have : n ≤ k := (nI_leI (by omega) (by omega)).mp c
    rw [show k = n by omega]
    exact h
  have hkn : k < n := Nat.not_le.mp fun q => c (nI_le q (by omega))
  rw [show (20 : Int32) = nI 20 from rfl, ix_row, nI_1 (20 + 2 * k), nI_c _ (by omega), nI_c _ (by omega)]
  refine ⟨vp_in_nI (by omega) (by omega), ?_⟩
  have go : ∀ z : Int32, z = itO (M 0) k → (ixR (nxO (itO (M 0)) k).1 < 0 → ixR (some k) = ixR (nxO (itO (M 0)) (k + 1)).1 ∧ z = (nxO (itO (M 0)) (k + 1)).2) ∧ (¬ ixR (nxO (itO (M 0)) k).1 < 0 → (z ≤ (nxO (itO (M 0)) k).2 → ixR (nxO (itO (M 0)) k).1 = ixR (nxO (itO (M 0)) (k + 1)).1 ∧ (nxO (itO (M 0)) k).2 = (nxO (itO (M 0)) (k + 1)).2) ∧ (¬ z ≤ (nxO (itO (M 0)) k).2 → ixR (some k) = ixR (nxO (itO (M 0)) (k + 1)).1 ∧ z = (nxO (itO (M 0)) (k + 1)).2)) := by
    rintro z rfl
    conv => rw [nxO]
    cases hw : nxO (itO (M 0)) k with
    | mk o w =>
    cases o with
    | none => exact ⟨fun _ => ⟨rfl, rfl⟩, fun c => absurd ixR_none c⟩
    | some g =>
      have := nxO_some hw
      refine ⟨fun c => absurd c (ixR_some (by omega)), fun _ => ⟨fun c => ?_, fun c => ?_⟩⟩
      · show ixR (some g) = ixR (if itO (M 0) k ≤ w then (some g, w) else (some k, itO (M 0) k)).1 ∧ w = (if itO (M 0) k ≤ w then (some g, w) else (some k, itO (M 0) k)).2
        rw [if_pos c]; exact ⟨rfl, rfl⟩
      · show ixR (some k) = ixR (if itO (M 0) k ≤ w then (some g, w) else (some k, itO (M 0) k)).1 ∧ itO (M 0) k = (if itO (M 0) k ≤ w then (some g, w) else (some k, itO (M 0) k)).2
        rw [if_neg c]; exact ⟨rfl, rfl⟩
  have fin : ∀ {f1 b1 : Int32}, f1 = ixR (nxO (itO (M 0)) (k + 1)).1 ∧ b1 = (nxO (itO (M 0)) (k + 1)).2 → ∃ n1, n1 < n - k ∧ ∃ k1 : Nat, k1 ≤ n ∧ n1 = n - k1 ∧ nI k + 1 = nI k1 ∧ f1 = ixR (nxO (itO (M 0)) k1).1 ∧ b1 = (nxO (itO (M 0)) k1).2 := fun h => ⟨n - (k + 1), by omega, k + 1, hkn, rfl, nI_1 k, h.1, h.2⟩
  refine ⟨fun c0 => ?_, fun c0 => ⟨fun c1 => ?_, fun c1 => ?_⟩⟩
  · obtain ⟨g1, g2⟩ := go 0 (by rw [itO, if_pos c0])
    exact ⟨fun c => fin (g1 c), fun c => ⟨fun c2 => fin ((g2 c).1 c2), fun c2 => fin ((g2 c).2 c2)⟩⟩
  · refine v_size ?_
    obtain ⟨g1, g2⟩ := go (-(if 0 ≤ M 0 (20 + 2 * k) - M 0 6 then M 0 (20 + 2 * k) - M 0 6 else -(M 0 (20 + 2 * k) - M 0 6))) (by rw [itO, if_neg c0, if_pos c1]; rfl)
    exact ⟨fun c => fin (g1 c), fun c => ⟨fun c2 => fin ((g2 c).1 c2), fun c2 => fin ((g2 c).2 c2)⟩⟩
  · refine ⟨vp_in_nI (by omega) (by omega), ?_⟩
    obtain ⟨g, hg8, hge⟩ := hg k hkn
    refine v_of g 2 hge rfl hg8 (by decide) ?_
    refine v_size ?_
    obtain ⟨g1, g2⟩ := go (if 0 ≤ M 0 (20 + 2 * k + 1) - M 0 (46 + 5 * g + 2) then M 0 (20 + 2 * k + 1) - M 0 (46 + 5 * g + 2) else -(M 0 (20 + 2 * k + 1) - M 0 (46 + 5 * g + 2))) (by rw [itO, if_neg c0, if_neg c1, cn_of hge (by omega)]; rfl)
    exact ⟨fun c => fin (g1 c), fun c => ⟨fun c2 => fin ((g2 c).1 c2), fun c2 => fin ((g2 c).2 c2)⟩⟩
def t_rate (s : Rw) (g : Nat) (h : Int32) : Int32 :=
  if s (46 + 5 * g + 0) = 1 ∧ ¬ h < 8 then ((s (46 + 5 * g + 1) * s (46 + 5 * g + 2)) * h) / 10 + s (46 + 5 * g + 1)
  else if s (46 + 5 * g + 0) = 2 ∧ ¬ 10 ≤ s (46 + 5 * g + 2) then 0
  else ((s (46 + 5 * g + 1) * s (46 + 5 * g + 2)) * h) / 10
theorem v_rate {M : St} {Q : Int32 → Prop} {x y : Int32} (g : Nat) (hx : x = nI g) (hg : g < 8) (h : Q (t_rate (M 0) g y)) : q_X6_rate x y M Q := by
  unfold q_X6_rate
  refine v_of g 0 hx rfl hg (by decide) (v_of g 1 hx rfl hg (by decide) (v_of g 2 hx rfl hg (by decide) ?_))
  unfold t_rate at h
  refine ⟨fun c1 => ⟨fun c2 => ⟨fun c3 => ?_, fun c3 => ?_⟩, fun c2 => ?_⟩, fun c1 => ⟨fun c3 => v_of g 2 hx rfl hg (by decide) ⟨fun c4 => ?_, fun c4 => ?_⟩, fun c3 => ?_⟩⟩
  · exact absurd (c1.symm.trans c3) (by decide)
  · rw [if_neg fun q => q.2 c2, if_neg fun q => c3 q.1] at h; exact h
  · rw [if_pos ⟨c1, c2⟩] at h; exact h
  · rw [if_neg fun q => c1 q.1, if_neg fun q => q.2 c4] at h; exact h
  · rw [if_neg fun q => c1 q.1, if_pos ⟨c3, c4⟩] at h; exact h
  · rw [if_neg fun q => c1 q.1, if_neg fun q => c3 q.1] at h; exact h
