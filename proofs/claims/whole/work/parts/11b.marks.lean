/-! The reference: marks and floods. -/
def cn (s : Rw) (k : Nat) : Nat := (s k).toNatClampNeg
theorem cn_of {s : Rw} {k n : Nat} (h : s k = nI n) (hn : n < 2147483648) : cn s k = n := by unfold cn; rw [h]; exact nI_c n hn
def shr (s : Rw) (hi : Nat) : Rw := fun k => if 38 ≤ k ∧ k < hi then s (k - 2) else s k
def t_mk (s : Rw) (m : Nat) (x y : Int32) : Rw := upd (upd (upd (shr s (38 + 2 * m)) 36 x) 37 y) 11 (nI (m + 1))
theorem t_mk_11 (s : Rw) (v : Int32) (m : Nat) (x y : Int32) : t_mk (upd s 11 v) m x y = t_mk s m x y := by
  funext k
  simp only [t_mk, upd, shr]
  by_cases h1 : k = 11
  · simp [h1]
  · simp only [if_neg h1]
    by_cases h2 : k = 37
    · simp [h2]
    · simp only [if_neg h2]
      by_cases h3 : k = 36
      · simp [h3]
      · simp only [if_neg h3]
        by_cases h4 : 38 ≤ k ∧ k < 38 + 2 * m
        · have h5 : k - 2 ≠ 11 := by omega
          rw [if_pos h4, if_pos h4, if_neg h5]
        · rw [if_neg h4, if_neg h4]
def t_marks (s : Rw) (x y : Int32) : Rw := match ixO (fun k => s (36 + 2 * k)) x (cn s 11) with
  | none => t_mk s (if cn s 11 = 4 then 3 else cn s 11) x y
  | some i => t_mk (t_dM s (cn s 11) i) (cn s 11 - 1) x y
theorem ix_mk (m : Nat) : (36 + 2 * nI m) + 1 = nI (37 + 2 * m) := by
  rw [show (36 : Int32) = nI 36 from rfl, ix_row, nI_1, show 36 + 2 * m + 1 = 37 + 2 * m by omega]
theorem v_mkl {D1 : St} {Q : St → Prop} {j x0 y0 : Int32} (m : Nat) (hm : m ≤ 3) (hc : D1 0 11 = nI m) (hj : j = nI (37 + 2 * m)) (h : Q (uA D1 0 (t_mk (D1 0) m x0 y0))) :
    ∃ (I : Nat → Int32 → St → Prop) (n0 : Nat), I n0 j D1 ∧ ∀ (n : Nat) (x : Int32) (D : St), I n x D → ((x < 38 → Q (uA (uA (uA D 0 (upd (D 0) 36 x0)) 0 (upd (upd (D 0) 36 x0) 37 y0)) 0 (upd (upd (upd (D 0) 36 x0) 37 y0) 11 (((upd (upd (D 0) 36 x0) 37 y0) 11) + 1)))) ∧ (¬ (x < 38) → vp_in (x - 2) 86 ∧ (vp_in x 86 ∧ (∃ n1, n1 < n ∧ I n1 (x + (-1)) (uA D 0 (upd (D 0) ((x).toNatClampNeg) ((D 0) (((x - 2)).toNatClampNeg)))))))) := by
  subst hj
  refine ⟨fun n x D => ∃ k : Nat, 37 ≤ k ∧ k ≤ 37 + 2 * m ∧ n = k ∧ x = nI k ∧ D = uA D1 0 (fun b => if k < b ∧ b < 38 + 2 * m then D1 0 (b - 2) else D1 0 b), 37 + 2 * m, ⟨37 + 2 * m, by omega, Nat.le_refl _, rfl, rfl, ?_⟩, ?_⟩
  · funext a
    unfold uA
    cases hb : Nat.beq a 0 with
    | false => rfl
    | true =>
      have : a = 0 := Nat.eq_of_beq_eq_true hb
      subst this
      funext b
      show D1 0 b = if 37 + 2 * m < b ∧ b < 38 + 2 * m then _ else _
      rw [if_neg (by omega)]
  rintro n x D ⟨k, hk1, hk2, rfl, rfl, rfl⟩
  refine ⟨fun c => ?_, fun c => ?_⟩
  · have hk : n < 38 := by
      rw [show (38 : Int32) = nI 38 from rfl] at c
      exact (nI_ltI (by omega) (by omega)).mp c
    rw [uA_uA, uA_uA, uA_uA, uA_s]
    have e1 : (fun b => if n < b ∧ b < 38 + 2 * m then D1 0 (b - 2) else D1 0 b) = shr (D1 0) (38 + 2 * m) := by
      funext b
      simp only [shr]
      by_cases hb : 38 ≤ b ∧ b < 38 + 2 * m
      · rw [if_pos hb, if_pos (by omega)]
      · rw [if_neg hb, if_neg (by omega)]
    rw [e1]
    have e2 : (upd (upd (shr (D1 0) (38 + 2 * m)) 36 x0) 37 y0) 11 = nI m := by
      rw [upd_n (by decide), upd_n (by decide)]
      simp only [shr]
      rw [if_neg (by omega)]
      exact hc
    rw [e2, nI_1]
    exact h
  · have hk : 38 ≤ n := by
      rw [show (38 : Int32) = nI 38 from rfl] at c
      exact Nat.not_lt.mp fun q => c (nI_lt q (by omega))
    have hk2' : 2 ≤ n := by omega
    have e1 : nI n - 2 = nI (n - 2) := pk_sub (b := 2) hk2'
    have e2 : nI n + (-1) = nI (n - 1) := by
      obtain ⟨z, rfl⟩ : ∃ z, n = z + 1 := ⟨n - 1, by omega⟩
      exact pk_m1 z
    rw [e1, e2]
    refine ⟨vp_in_nI (by omega) (by omega), vp_in_nI (by omega) (by omega), n - 1, by omega, n - 1, by omega, by omega, rfl, rfl, ?_⟩
    rw [nI_c _ (by omega), nI_c _ (by omega), uA_uA, uA_s]
    congr 1
    funext b
    simp only [upd]
    by_cases hb : b = n
    · subst hb
      rw [if_pos rfl, if_neg (by omega), if_pos (by omega)]
    · rw [if_neg hb]
      by_cases h1 : n < b ∧ b < 38 + 2 * m
      · rw [if_pos h1, if_pos (by omega)]
      · rw [if_neg h1, if_neg (by omega)]
theorem ixR_none : ixR none < 0 := by decide
theorem ixR_some {k : Nat} (h : k < 2147483648) : ¬ ixR (some k) < 0 := nI_pos h
theorem v_marks {M : St} {Q : St → Prop} {x y : Int32} (n : Nat) (hn : M 0 11 = nI n) (h4 : n ≤ 4) (h : Q (uA M 0 (t_marks (M 0) x y))) : q_X6_marks x y M Q := by
  unfold q_X6_marks
  refine v_markOf hn h4 ?_
  unfold t_marks at h
  rw [cn_of hn (by omega)] at h
  cases hi : ixO (fun k => M 0 (36 + 2 * k)) x n with
  | none =>
    rw [hi] at h
    refine ⟨fun _ => ⟨fun c => ?_, fun c => ?_⟩, fun c => absurd ixR_none c⟩
    · have e : n = 4 := (nI_eq (b := 4) (by omega) (by omega)).mp (hn.symm.trans c)
      subst e
      refine v_mkl 3 (Nat.le_refl 3) ?_ ?_ ?_
      · rw [uA_s, upd_s, hn]; rfl
      · rw [upd_s, hn]; rfl
      · rw [uA_s, uA_uA, t_mk_11]
        exact h
    · have e : n ≠ 4 := fun e => c (by rw [hn, e]; rfl)
      refine v_mkl n (by omega) hn (by rw [hn]; exact ix_mk n) ?_
      simp only [if_neg e] at h
      exact h
  | some i =>
    rw [hi] at h
    obtain ⟨hin, -⟩ := ixO_some hi
    refine ⟨fun c => absurd c (ixR_some (by omega)), fun _ => ?_⟩
    refine v_dropsMark n i hn h4 hin rfl ?_
    have e11 : (uA M 0 (t_dM (M 0) n i)) 0 11 = nI (n - 1) := by rw [uA_s]; exact upd_s _ _ _
    refine ⟨fun c => ?_, fun _ => ?_⟩
    · rw [e11] at c
      have : n - 1 = 4 := (nI_eq (b := 4) (by omega) (by omega)).mp c
      omega
    · refine v_mkl (n - 1) (by omega) e11 (by rw [e11]; exact ix_mk _) ?_
      rw [uA_s, uA_uA]
      exact h
def t_floods (s : Rw) : Rw :=
  if s 9 = 0 ∧ ¬ s 4 < s 0 then
    if s 7 < 0 then upd (upd s 9 1) 16 (s 16 + 1)
    else upd (upd (t_marks (upd (upd s 9 1) 16 (s 16 + 1)) (s 7) (s 8)) 7 (-1)) 19 ((t_marks (upd (upd s 9 1) 16 (s 16 + 1)) (s 7) (s 8)) 19 + 1)
  else if s 9 = 1 ∧ ¬ s 1 ≤ s 4 then
    if s 7 < 0 then upd (upd (upd s 9 0) 19 (s 19 + 0)) 7 (-1) else upd (upd (upd s 9 0) 19 (s 19 + 1)) 7 (-1)
  else s
theorem uA_id (M : St) (j : Nat) : uA M j (M j) = M := by
  funext i
  unfold uA
  cases hb : Nat.beq i j with
  | false => rfl
  | true => rw [Nat.eq_of_beq_eq_true hb]; rfl
theorem v_floods {M : St} {Q : St → Prop} (n : Nat) (hn : M 0 11 = nI n) (h4 : n ≤ 4) (h : Q (uA M 0 (t_floods (M 0)))) : q_X6_floods M Q := by
  unfold q_X6_floods
  have key : ∀ f : Rw, f = t_floods (M 0) → Q (uA M 0 f) := fun f e => by rw [e]; exact h
  have keep : M 0 = t_floods (M 0) → Q M := fun e => by
    have := key (M 0) e
    rwa [uA_id] at this
  refine ⟨fun c1 => ⟨fun c2 => ⟨fun c3 => ⟨fun c4 => ?_, fun c4 => ⟨fun c5 => ?_, fun c5 => ?_⟩⟩, fun c3 => ?_⟩, fun c2 => ⟨fun c3 => ?_, fun c3 => ?_⟩⟩, fun c1 => ⟨fun c3 => ⟨fun c4 => ?_, fun c4 => ⟨fun c5 => ?_, fun c5 => ?_⟩⟩, fun c3 => ?_⟩⟩
  · exact absurd (c1.symm.trans c3) (by decide)
  · exact absurd (c1.symm.trans c3) (by decide)
  · exact absurd (c1.symm.trans c3) (by decide)
  · exact keep (by rw [t_floods, if_neg fun q => q.2 c2, if_neg fun q => c3 q.1])
  · rw [uA_uA]
    exact key _ (by rw [t_floods, if_pos ⟨c1, c2⟩, if_pos (show M 0 7 < 0 from c3)]; rfl)
  · refine v_marks n (by rw [uA_uA, uA_s]; exact hn) h4 ?_
    rw [uA_uA, uA_s, uA_uA, uA_uA, uA_s, uA_uA]
    exact key _ (by rw [t_floods, if_pos ⟨c1, c2⟩, if_neg (show ¬ M 0 7 < 0 from c3)]; rfl)
  · exact keep (by rw [t_floods, if_neg fun q => c1 q.1, if_neg fun q => q.2 c4])
  · rw [uA_uA, uA_uA]
    exact key _ (by rw [t_floods, if_neg fun q => c1 q.1, if_pos ⟨c3, c4⟩, if_pos (show M 0 7 < 0 from c5)]; rfl)
  · rw [uA_uA, uA_uA]
    exact key _ (by rw [t_floods, if_neg fun q => c1 q.1, if_pos ⟨c3, c4⟩, if_neg (show ¬ M 0 7 < 0 from c5)]; rfl)
  · exact keep (by rw [t_floods, if_neg fun q => c1 q.1, if_neg fun q => c3 q.1])
