/-! The reference's small methods, as equations: what each asks holds where its places are in range. -/
abbrev Rw : Type := Nat → Int32
theorem uA_uA (D : St) (j : Nat) (f g : Nat → Int32) : uA (uA D j f) j g = uA D j g := by
  funext i
  unfold uA
  cases Nat.beq i j <;> rfl
theorem upd_s (f : Nat → Int32) (k : Nat) (v : Int32) : upd f k v k = v := by simp [upd]
theorem upd_n {f : Nat → Int32} {j k : Nat} {v : Int32} (h : j ≠ k) : upd f k v j = f j := by simp [upd, h]
theorem upd_upd (f : Nat → Int32) (k : Nat) (v w : Int32) : upd (upd f k v) k w = upd f k w := by
  funext j
  by_cases h : j = k
  · subst h; simp [upd]
  · simp [upd, h]
theorem nI_c (n : Nat) (h : n < 2147483648) : (nI n).toNatClampNeg = n := nI_clamp h
theorem nI_sub1 {n : Nat} (h : 0 < n) : nI n - 1 = nI (n - 1) := by
  obtain ⟨m, rfl⟩ : ∃ m, n = m + 1 := ⟨n - 1, by omega⟩
  exact nI_pred m
theorem ix_of {g w : Nat} (hg : g < 8) (hw : w < 5) : (46 + 5 * nI g) + nI w = nI (46 + 5 * g + w) := by
  rw [show (46 : Int32) = nI 46 from rfl, show (5 : Int32) = nI 5 from rfl, pk_mul, nI_add, nI_add]
theorem v_in {x a b : Int32} {Q : Int32 → Prop} (h1 : a ≤ x → x ≤ b → Q 1) (h0 : ¬ (a ≤ x ∧ x ≤ b) → Q 0) : q_X6_in x a b Q := by
  unfold q_X6_in
  refine ⟨fun c => h0 fun q => absurd q.1 (Int32.not_le.mpr c), fun c1 => ⟨fun c => h0 fun q => absurd q.2 (Int32.not_le.mpr c), fun c2 => h1 (Int32.not_lt.mp c1) (Int32.not_lt.mp c2)⟩⟩
theorem v_of {M : St} {Q : Int32 → Prop} {x y : Int32} (g w : Nat) (hx : x = nI g) (hy : y = nI w) (hg : g < 8) (hw : w < 5) (h : Q (M 0 (46 + 5 * g + w))) : q_X6_of x y M Q := by
  subst hx; subst hy
  unfold q_X6_of
  rw [ix_of hg hw]
  refine ⟨vp_in_nI (by omega) (by omega), ?_⟩
  rw [nI_c _ (by omega)]
  exact h
theorem v_puts {M : St} {Q : St → Prop} {x y z : Int32} (g w : Nat) (hx : x = nI g) (hy : y = nI w) (hg : g < 8) (hw : w < 5) (h : Q (uA M 0 (upd (M 0) (46 + 5 * g + w) z))) : q_X6_puts x y z M Q := by
  subst hx; subst hy
  unfold q_X6_puts
  rw [ix_of hg hw]
  refine ⟨vp_in_nI (by omega) (by omega), ?_⟩
  rw [nI_c _ (by omega)]
  exact h
theorem v_size {x : Int32} {Q : Int32 → Prop} (h : Q (if 0 ≤ x then x else -x)) : q_X6_size x Q := by
  unfold q_X6_size
  refine ⟨fun c => ?_, fun c => ?_⟩
  · rw [if_pos c] at h; exact h
  · rw [if_neg c] at h; exact h
/-- a gate's number -/
theorem v_isGate {M : St} {Q : Int32 → Prop} {x : Int32} {n : Nat} (hn : M 0 3 = nI n) (hn8 : n ≤ 8) (h1 : ∀ g, g < n → x = nI g → Q 1) (h0 : (∀ g, g < n → x ≠ nI g) → Q 0) : q_X6_isGate x M Q := by
  unfold q_X6_isGate
  rw [hn]
  refine ⟨fun c => h0 fun g hg e => ?_, fun c1 => ⟨fun c => h0 fun g hg e => ?_, fun c2 => ?_⟩⟩
  · rw [e] at c; exact nI_pos (by omega) c
  · rw [e] at c; exact nI_ge hg (by omega) c
  · obtain ⟨j, hj, e⟩ := nI_of c1
    rw [e] at c2
    exact h1 j (Nat.not_le.mp fun q => c2 ((nI_leI (by omega) hj).mpr q)) e
/-- the place of a gate in a row, the last one -/
def ixO (f : Nat → Int32) (g : Int32) : Nat → Option Nat
  | 0 => none
  | n + 1 => if f n = g then some n else ixO f g n
theorem ixO_some {f : Nat → Int32} {g : Int32} : ∀ {n k : Nat}, ixO f g n = some k → k < n ∧ f k = g
  | 0, k, h => by simp [ixO] at h
  | n + 1, k, h => by
    unfold ixO at h
    split at h
    · cases h; exact ⟨Nat.lt_succ_self _, by assumption⟩
    · obtain ⟨a, b⟩ := ixO_some h
      exact ⟨by omega, b⟩
theorem ixO_none {f : Nat → Int32} {g : Int32} : ∀ {n : Nat}, ixO f g n = none → ∀ k, k < n → f k ≠ g
  | 0, _, k, hk => by omega
  | n + 1, h, k, hk => by
    unfold ixO at h
    split at h
    · cases h
    · rcases Nat.lt_or_ge k n with h1 | h1
      · exact ixO_none h k h1
      · rw [show k = n by omega]; assumption
theorem ixO_congr {f f' : Nat → Int32} {g : Int32} : ∀ {n : Nat}, (∀ k, k < n → f k = f' k) → ixO f g n = ixO f' g n
  | 0, _ => rfl
  | n + 1, h => by
    unfold ixO
    rw [h n (Nat.lt_succ_self _), ixO_congr (n := n) fun k hk => h k (by omega)]
def ixR (o : Option Nat) : Int32 := match o with
  | some k => nI k
  | none => -1000004
theorem ix_row {r k : Nat} : nI r + 2 * nI k = nI (r + 2 * k) := by
  rw [show (2 : Int32) = nI 2 from rfl, pk_mul, nI_add]
theorem v_placeIn {M : St} {Q : Int32 → Prop} {x y g : Int32} (r n : Nat) (hx : x = nI r) (hy : y = nI n) (hr : r + 2 * n ≤ 86) (h : Q (ixR (ixO (fun k => M 0 (r + 2 * k)) g n))) : q_X6_placeIn x y g M Q := by
  subst hx; subst hy
  unfold q_X6_placeIn
  refine ⟨fun m i f => ∃ k : Nat, k ≤ n ∧ m = n - k ∧ i = nI k ∧ f = ixR (ixO (fun k => M 0 (r + 2 * k)) g k), n, ⟨0, Nat.zero_le _, rfl, rfl, rfl⟩, ?_⟩
  rintro m i f ⟨k, hk, rfl, rfl, rfl⟩
  refine ⟨fun c => ?_, fun c => ?_⟩
  · have : n ≤ k := (nI_leI (by omega) (by omega)).mp c
    rw [show k = n by omega]
    exact h
  · have hkn : k < n := Nat.not_le.mp fun q => c (nI_le q (by omega))
    rw [ix_row]
    refine ⟨vp_in_nI (by omega) (by omega), ?_⟩
    rw [nI_c _ (by omega)]
    refine ⟨fun e => ⟨n - (k + 1), by omega, k + 1, hkn, rfl, nI_1 k, ?_⟩, fun e => ⟨n - (k + 1), by omega, k + 1, hkn, rfl, nI_1 k, ?_⟩⟩
    · show nI k = _
      rw [ixO, if_pos e]; rfl
    · rw [ixO, if_neg e]
theorem v_orderOf {M : St} {Q : Int32 → Prop} {g : Int32} {n : Nat} (hn : M 0 10 = nI n) (h8 : n ≤ 8) (h : Q (ixR (ixO (fun k => M 0 (20 + 2 * k)) g n))) : q_X6_orderOf g M Q := by
  unfold q_X6_orderOf
  exact v_placeIn 20 n rfl hn (by omega) h
theorem v_markOf {M : St} {Q : Int32 → Prop} {g : Int32} {n : Nat} (hn : M 0 11 = nI n) (h4 : n ≤ 4) (h : Q (ixR (ixO (fun k => M 0 (36 + 2 * k)) g n))) : q_X6_markOf g M Q := by
  unfold q_X6_markOf
  exact v_placeIn 36 n rfl hn (by omega) h
/-- a pair taken out of a row of pairs -/
def shf (s : Rw) (lo hi : Nat) : Rw := fun k => if lo ≤ k ∧ k < hi then s (k + 2) else s k
theorem v_takesOut {M : St} {Q : St → Prop} {x y z : Int32} (r n i : Nat) (hx : x = nI r) (hy : y = nI n) (hz : z = nI i) (hi : i < n) (hr : r + 2 * n ≤ 86) (h : Q (uA M 0 (shf (M 0) (r + 2 * i) (r + 2 * n - 2)))) : q_X6_takesOut x y z M Q := by
  subst hx; subst hy; subst hz
  unfold q_X6_takesOut
  rw [ix_row, ix_row, show (2 : Int32) = nI 2 from rfl, pk_sub (by omega)]
  refine ⟨fun m j D => ∃ k : Nat, r + 2 * i ≤ k ∧ k ≤ r + 2 * n - 2 ∧ m = r + 2 * n - 2 - k ∧ j = nI k ∧ D = uA M 0 (shf (M 0) (r + 2 * i) k), _, ⟨r + 2 * i, Nat.le_refl _, by omega, rfl, rfl, ?_⟩, ?_⟩
  · funext a
    unfold uA
    by_cases e : a = 0
    · subst e
      funext b
      simp [shf]
      omega
    · have : Nat.beq a 0 = false := by cases a with
        | zero => exact absurd rfl e
        | succ a => rfl
      simp [this]
  rintro m j D ⟨k, hk1, hk2, rfl, rfl, rfl⟩
  refine ⟨fun c => ?_, fun c => ?_⟩
  · have : r + 2 * n - 2 ≤ k := (nI_leI (by omega) (by omega)).mp c
    rw [show k = r + 2 * n - 2 by omega]
    exact h
  · have hkn : k < r + 2 * n - 2 := Nat.not_le.mp fun q => c (nI_le q (by omega))
    rw [nI_add]
    refine ⟨vp_in_nI (by omega) (by omega), vp_in_nI (by omega) (by omega), r + 2 * n - 2 - (k + 1), by omega, k + 1, by omega, by omega, rfl, nI_1 k, ?_⟩
    rw [nI_c _ (by omega), nI_c _ (by omega), uA_uA, uA_s]
    congr 1
    funext b
    simp only [shf, upd]
    by_cases hb : b = k
    · subst hb
      rw [if_pos rfl, if_neg (by omega), if_pos (by omega)]
    · rw [if_neg hb]
      by_cases h1 : r + 2 * i ≤ b ∧ b < k
      · rw [if_pos h1, if_pos (by omega)]
      · rw [if_neg h1, if_neg (by omega)]
def t_dO (s : Rw) (n i : Nat) : Rw := upd (shf s (20 + 2 * i) (20 + 2 * n - 2)) 10 (nI (n - 1))
def t_dM (s : Rw) (n i : Nat) : Rw := upd (shf s (36 + 2 * i) (36 + 2 * n - 2)) 11 (nI (n - 1))
theorem v_dropsOrder {M : St} {Q : St → Prop} {x : Int32} (n i : Nat) (hn : M 0 10 = nI n) (h8 : n ≤ 8) (hi : i < n) (hx : x = nI i) (h : Q (uA M 0 (t_dO (M 0) n i))) : q_X6_dropsOrder x M Q := by
  unfold q_X6_dropsOrder
  refine v_takesOut 20 n i rfl hn hx hi (by omega) ?_
  rw [uA_uA, uA_s, show shf (M 0) (20 + 2 * i) (20 + 2 * n - 2) 10 = nI n from by simp only [shf]; rw [if_neg (by omega)]; exact hn, nI_sub1 (by omega)]
  exact h
theorem v_dropsMark {M : St} {Q : St → Prop} {x : Int32} (n i : Nat) (hn : M 0 11 = nI n) (h4 : n ≤ 4) (hi : i < n) (hx : x = nI i) (h : Q (uA M 0 (t_dM (M 0) n i))) : q_X6_dropsMark x M Q := by
  unfold q_X6_dropsMark
  refine v_takesOut 36 n i rfl hn hx hi (by omega) ?_
  rw [uA_uA, uA_s, show shf (M 0) (36 + 2 * i) (36 + 2 * n - 2) 11 = nI n from by simp only [shf]; rw [if_neg (by omega)]; exact hn, nI_sub1 (by omega)]
  exact h
