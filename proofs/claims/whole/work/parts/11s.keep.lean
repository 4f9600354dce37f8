/-! What a minute leaves as it is; copies of rows, exactly. -/
def Kp (j : Nat) : Prop := j < 3 ∨ j = 5 ∨ 86 ≤ j
theorem takes_keep {d B n no nm : Nat} {s : Rw} (h : Core d B n no nm s) {j : Nat} (hj : Kp j ∨ j = 4 ∨ j = 16) : t_takes s j = s j := by
  obtain ⟨a1, a2, a3, a4, a5, a6⟩ := h.1
  have hj : j < 6 ∨ j = 16 ∨ 86 ≤ j := by unfold Kp at hj; omega
  unfold t_takes
  rw [cn_of a4 (by omega), cn_of a5 (by omega), cn_of a6 (by omega)]
  split
  · cases nrO (fun g => s (46 + 5 * g + 2)) (s 6) n with
    | none => show upd (upd s 7 (-1)) 8 10 j = s j; rw [upd_n (by omega), upd_n (by omega)]
    | some g => show upd (upd s 7 (nI g)) 8 10 j = s j; rw [upd_n (by omega), upd_n (by omega)]
  · split
    · cases (nxO (itO s) no).1 with
      | none => show upd (upd s 7 (-1)) 8 0 j = s j; rw [upd_n (by omega), upd_n (by omega)]
      | some k =>
        show t_dO (upd (upd s 7 (s (20 + 2 * k))) 8 (s (20 + 2 * k + 1))) no k j = s j
        rw [t_dO_n a2 (by omega) (by omega), upd_n (by omega), upd_n (by omega)]
    · rw [t_dM_n a3 (by omega) (by omega), upd_n (by omega), upd_n (by omega)]
theorem looks_keep {s : Rw} {j : Nat} (hj : Kp j ∨ j = 4 ∨ j = 16) : t_looks s j = s j := by
  have hj : j < 6 ∨ j = 16 ∨ 86 ≤ j := by unfold Kp at hj; omega
  unfold t_looks
  split
  · rfl
  · split
    · rw [upd_n (by omega), upd_n (by omega)]
    · rfl
theorem lp_keep {d B n : Nat} {j : Nat} (hj : Kp j ∨ j = 4 ∨ j = 16) : ∀ (k : Nat) {no nm : Nat} {s : Rw}, Core d B n no nm s → t_lp k s j = s j
  | 0, _, _, _, _ => rfl
  | k + 1, no, nm, s, h => by
    obtain ⟨no', nm', h1, -⟩ := core_takes h
    have h2 := (core_looks h1).1
    have e : t_looks (t_takes s) j = s j := (looks_keep hj).trans (takes_keep h hj)
    unfold t_lp
    split
    · exact e
    · split
      · exact e
      · exact (lp_keep hj k h2).trans e
theorem take_keep {d B n no nm : Nat} {s : Rw} (h : Core d B n no nm s) {j : Nat} (hj : Kp j ∨ j = 4 ∨ j = 16) : t_take s j = s j := by
  unfold t_take
  split
  · rfl
  · exact lp_keep hj 13 h
theorem works_keep {d B n no nm : Nat} {s : Rw} (h : Core d B n no nm s) (h7 : ¬ s 7 < 0) {j : Nat} (hj : Kp j ∨ j = 4 ∨ j = 16) : t_works s j = s j := by
  obtain ⟨g, y, hg, hy, e7, e8⟩ := h.2.2.2.1.g h7
  have h8 := h.1.1
  unfold t_works
  split
  · rw [looks_keep hj, cn7 e7 (by omega)]
    unfold t_moves
    unfold Kp at hj
    rw [upd_n (by omega), upd_n (by omega), upd_n (by omega)]
  · rw [looks_keep hj]
    unfold Kp at hj
    rw [upd_n (by omega), upd_n (by omega)]
theorem flows_keep {d B n no nm : Nat} {s : Rw} (h : Core d B n no nm s) {j : Nat} (hj : Kp j ∨ j = 16) : t_flows s j = s j := by
  have h8 := h.1.1
  unfold Kp at hj
  unfold t_flows t_over
  rw [upd_n (by omega), upd_n (by omega), cn_of h.1.2.2.2.1 (by omega), t_fl_n (by omega) (by omega) n _ (fun g hg => by omega), upd_n (by omega), upd_n (by omega)]
theorem floods_keep {B n no nm : Nat} {s : Rw} (h : Core 0 B n no nm s) {j : Nat} (hj : Kp j ∨ j = 4) : t_floods s j = s j := by
  have hm4 := h.1.2.2.1
  have hj : j < 6 ∨ 86 ≤ j := by unfold Kp at hj; omega
  unfold t_floods
  split
  · split
    · rw [upd_n (by omega), upd_n (by omega)]
    · rw [upd_n (by omega), upd_n (by omega), t_marks_n (nm := nm) (by rw [upd_n (by decide), upd_n (by decide)]; exact h.1.2.2.2.2.2) hm4 (by omega) (by omega), upd_n (by omega), upd_n (by omega)]
  · split
    · split
      · rw [upd_n (by omega), upd_n (by omega), upd_n (by omega)]
      · rw [upd_n (by omega), upd_n (by omega), upd_n (by omega)]
    · rfl
def due (s : Rw) : Prop := s 9 = 0 ∧ ¬ s 4 < s 0
theorem floods_16 {B n no nm : Nat} {s : Rw} (h : Core 0 B n no nm s) : (due s → t_floods s 16 = s 16 + 1) ∧ (¬ due s → t_floods s 16 = s 16) := by
  have hm4 := h.1.2.2.1
  unfold due t_floods
  refine ⟨fun c => ?_, fun c => ?_⟩
  · rw [if_pos c]
    split
    · exact upd_s _ _ _
    · rw [upd_n (by decide), upd_n (by decide), t_marks_n (nm := nm) (by rw [upd_n (by decide), upd_n (by decide)]; exact h.1.2.2.2.2.2) hm4 (by decide) (by omega)]
      exact upd_s _ _ _
  · rw [if_neg c]
    split
    · split
      · rw [upd_n (by decide), upd_n (by decide), upd_n (by decide)]
      · rw [upd_n (by decide), upd_n (by decide), upd_n (by decide)]
    · rfl
/-- the state behind the crane's part of a minute -/
def t_half (s : Rw) : Rw := if t_take (t_floods s) 7 < 0 then t_take (t_floods s) else t_works (t_take (t_floods s))
theorem t_min_half (s : Rw) : t_min s = upd (t_flows (t_half s)) 12 (t_flows (t_half s) 12 + 1) := rfl
theorem half_core {B n no nm : Nat} {s : Rw} (h : Core 0 B n no nm s) (ho : Opn s) : ∃ no' nm', Core 1 B n no' nm' (t_half s) ∧ Opn (t_half s) ∧ (∀ j, Kp j ∨ j = 4 → t_half s j = s j) ∧ (due s → t_half s 16 = s 16 + 1) ∧ (¬ due s → t_half s 16 = s 16) := by
  obtain ⟨nm1, h1, o1⟩ := core_floods h ho
  obtain ⟨no2, nm2, h2, o2⟩ := core_take h1 o1
  have k2 : ∀ j, Kp j ∨ j = 4 ∨ j = 16 → t_half s j = t_floods s j := fun j hj => by
    unfold t_half
    split
    · exact take_keep h1 hj
    · rename_i c
      exact (works_keep h2 c hj).trans (take_keep h1 hj)
  refine ⟨no2, nm2, ?_, ?_, fun j hj => (k2 j (by rcases hj with q | q; exact Or.inl q; exact Or.inr (Or.inl q))).trans (floods_keep h hj), fun c => (k2 16 (Or.inr (Or.inr rfl))).trans ((floods_16 h).1 c), fun c => (k2 16 (Or.inr (Or.inr rfl))).trans ((floods_16 h).2 c)⟩
  · unfold t_half
    split
    · exact h2
    · rename_i c
      exact (core_works h2 o2 c).1
  · unfold t_half
    split
    · exact o2
    · rename_i c
      exact (core_works h2 o2 c).2
theorem min_keep {B n no nm : Nat} {s : Rw} (h : Core 0 B n no nm s) (ho : Opn s) : (∀ j, Kp j → t_min s j = s j) ∧ (due s → t_min s 16 = s 16 + 1) ∧ (¬ due s → t_min s 16 = s 16) := by
  obtain ⟨no', nm', h1, -, k, f1, f2⟩ := half_core h ho
  rw [t_min_half]
  refine ⟨fun j hj => ?_, fun c => ?_, fun c => ?_⟩
  · have := flows_keep h1 (Or.inl hj)
    rw [upd_n (by unfold Kp at hj; omega), this]
    exact k j (Or.inl hj)
  · rw [upd_n (by decide), flows_keep h1 (Or.inr rfl)]
    exact f1 c
  · rw [upd_n (by decide), flows_keep h1 (Or.inr rfl)]
    exact f2 c
theorem mins_keep {B : Nat} {s : Rw} (h : Iv B s) {j : Nat} (hj : Kp j) : ∀ k, t_mins k s j = s j
  | 0 => rfl
  | k + 1 => by
    obtain ⟨n, no, nm, h1, ho⟩ := iv_mins h k
    exact ((min_keep h1 ho).1 j hj).trans (mins_keep h hj k)
theorem mins_3 {B n no nm : Nat} {s : Rw} (h : Core 0 B n no nm s) (ho : Opn s) : ∀ k, ∃ no' nm', Core 0 (B + k) n no' nm' (t_mins k s) ∧ Opn (t_mins k s)
  | 0 => ⟨no, nm, h, ho⟩
  | k + 1 => by
    obtain ⟨no', nm', h1, o1⟩ := mins_3 h ho k
    exact core_min h1 o1
theorem v_copiesX {S : St} {Q : St → Prop} (h : Q (uA S 1 (fun k => if k < 86 then S 0 k else S 1 k))) : q_X6_copies S Q := by
  unfold q_X6_copies
  refine ⟨fun m x D => ∃ k : Nat, k ≤ 86 ∧ m = 86 - k ∧ x = nI k ∧ D = uA S 1 (fun b => if b < k then S 0 b else S 1 b), 86, ⟨0, by omega, rfl, rfl, ?_⟩, ?_⟩
  · have : (fun b => if b < 0 then S 0 b else S 1 b) = S 1 := by
      funext b
      rw [if_neg (by omega)]
    rw [this, uA_id]
  rintro m x D ⟨k, hk, rfl, rfl, rfl⟩
  refine ⟨fun c => ?_, fun c => ?_⟩
  · have := (nI_leI (a := 86) (by omega) (by omega)).mp c
    rw [show k = 86 by omega]
    exact h
  · have hk86 : k < 86 := Nat.not_le.mp fun q => c (nI_le (a := 86) q (by omega))
    refine ⟨vp_in_nI hk86 (by omega), 86 - (k + 1), by omega, k + 1, hk86, rfl, nI_1 k, ?_⟩
    rw [nI_c _ (by omega), uA_s, uA_uA]
    congr 1
    funext b
    by_cases e : b = k
    · subst e
      rw [upd_s, if_pos (by omega)]
      rfl
    · rw [upd_n e]
      by_cases c2 : b < k
      · rw [if_pos c2, if_pos (by omega)]
      · rw [if_neg c2, if_neg (by omega)]
/-- the reference's row is as before, and what the calls look at as well -/
def Bk (M M' : St) : Prop := M' 0 = M 0 ∧ M' 1 = M 1 ∧ M' 4 = M 4 ∧ M' 5 = M 5 ∧ M' 6 = M 6 ∧ M' 7 = M 7
theorem Bk.rfl' (M : St) : Bk M M := ⟨rfl, rfl, rfl, rfl, rfl, rfl⟩
theorem Bk.trans {M M' M2 : St} (h : Bk M M') (h' : Bk M' M2) : Bk M M2 := ⟨h'.1.trans h.1, h'.2.1.trans h.2.1, h'.2.2.1.trans h.2.2.1, h'.2.2.2.1.trans h.2.2.2.1, h'.2.2.2.2.1.trans h.2.2.2.2.1, h'.2.2.2.2.2.trans h.2.2.2.2.2⟩
/-- laying a row aside, and laying it back -/
theorem v_aside {M : St} {Q : St → Prop} (h : Q (uA (uA M 0 (M 0)) 3 (fun k => if k < 86 then M 0 k else M 3 k))) : q_X6_copies (fun i => cond (Nat.beq i 0) (M 0) (M 3)) (fun u => Q (uA (uA M 0 (u 0)) 3 (u 1))) := v_copiesX h
theorem v_backX {M D : St} {Q : St → Prop} (hD : D 3 = fun k => if k < 86 then M 0 k else M 3 k) (h86 : ∀ j, 86 ≤ j → D 0 j = M 0 j) (hr : D 1 = M 1 ∧ D 4 = M 4 ∧ D 5 = M 5 ∧ D 6 = M 6 ∧ D 7 = M 7) (h : ∀ M', Bk M M' → Q M') : q_X6_copies (fun i => cond (Nat.beq i 0) (D 3) (D 0)) (fun u => Q (uA (uA D 3 (u 0)) 0 (u 1))) := by
  refine v_copiesX (h _ ⟨?_, hr⟩)
  rw [uA_s]
  show (fun k => if k < 86 then D 3 k else D 0 k) = M 0
  funext k
  by_cases c : k < 86
  · rw [if_pos c, hD]
    show (if k < 86 then M 0 k else M 3 k) = M 0 k
    rw [if_pos c]
  · rw [if_neg c]
    exact h86 k (by omega)
theorem Jr.back {X X' : Nat → St} {M M' : St} (h : Jr X M) (hM : Bk M M') (hX : ∀ j, j ≠ 0 → j ≠ 2 → X' j = X j) (h0 : X' 0 0 = X 0 0) (h1 : X' 0 1 = X 0 1) (h2 : Mo (X' 2)) : Jr X' M' := by
  obtain ⟨m0, m1, m4, m5, m6, m7⟩ := hM
  obtain ⟨j5, jR, jI, jM, ⟨p, hp, j8, j4, jH⟩, ⟨t, ht, t1, t2, t3⟩⟩ := h
  refine ⟨by rw [m5]; exact j5, by rw [m0, hX 1 (by decide) (by decide)]; exact jR, by rw [m0]; exact jI, fun i hi1 hi7 => ?_, ⟨p, hp, by rw [hX 8 (by decide) (by decide)]; exact j8, by rw [m4]; exact j4, fun i hi => ?_⟩, t, ht, by rw [h1]; exact t1, by rw [m7]; exact t2, by rw [h0, m6]; exact t3⟩
  · by_cases e : i = 2
    · rw [e]; exact h2
    · rw [hX i (by omega) e]; exact jM i hi1 hi7
  · rw [m1, hX _ (by omega) (by omega)]
    exact jH i hi
