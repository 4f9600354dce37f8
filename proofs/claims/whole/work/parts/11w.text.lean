/-! undo, type, clearText. -/
theorem Jr.sim {X : Nat → St} {M M' : St} (h : Jr X M) (m0 : M' 0 = M 0) (m1 : M' 1 = M 1) (m4 : M' 4 = M 4) (m5 : M' 5 0 = M 5 0) (m6 : M' 6 = M 6) (m7 : M' 7 = M 7) : Jr X M' := by
  obtain ⟨j5, jR, jI, jM, ⟨p, hp, j8, j4, jH⟩, ⟨t, ht, t1, t2, t3⟩⟩ := h
  exact ⟨m5.trans j5, by rw [m0]; exact jR, by rw [m0]; exact jI, jM, ⟨p, hp, j8, by rw [m4]; exact j4, by rw [m1]; exact jH⟩, t, ht, t1, by rw [m7]; exact t2, by rw [m6]; exact t3⟩
theorem uX_id (X : Nat → St) (j : Nat) : uX X j (X j) = X := by
  funext i
  by_cases h : i = j
  · subst h; exact uX_s _ _ _
  · exact uX_n h
theorem c_restore {p : Nat} {X : Nat → St} {Q : (Nat → St) → Prop} {s : Rw} (hp : p < 4) (h8 : X 8 0 0 = nI (p + 1)) (hR : Rl (X (3 + p)) s) (hI : Iv 50000 s) (hM : Mo (X 1)) (h : ∀ D', Rl D' s → Q (uX (uX X 1 D') 8 (uA (X 8) 0 (fun _ => nI p)))) : q_X2_restore X Q := by
  obtain ⟨n, no, nm, hC, ho⟩ := hI
  unfold q_X2_restore
  rcases (show p = 0 ∨ p = 1 ∨ p = 2 ∨ p = 3 by omega) with rfl | rfl | rfl | rfl
  · exact Or.inl ⟨h8, c_copy hR hC hM h⟩
  · exact Or.inr (Or.inl ⟨h8, c_copy hR hC hM h⟩)
  · exact Or.inr (Or.inr (Or.inl ⟨h8, c_copy hR hC hM h⟩))
  · exact Or.inr (Or.inr (Or.inr ⟨h8, c_copy hR hC hM h⟩))
theorem v_undo {M : St} {Q : Int32 → St → Prop} {p : Nat} (hp : p ≤ 4) (h4 : M 4 0 = nI p) (h0 : p = 0 → Q (-1000002) M) (h1 : ∀ q, p = q + 1 → ∀ f : Rw, (∀ k, k < 86 → f k = M 1 (86 * q + k)) → Q (nI q) (uA (uA M 4 (fun _ => nI q)) 0 f)) : q_X6_undo M Q := by
  unfold q_X6_undo
  rw [h4]
  refine ⟨fun c => h0 ((nI_eq (b := 0) (by omega) (by omega)).mp c), fun c => ?_⟩
  obtain ⟨q, rfl⟩ : ∃ q, p = q + 1 := ⟨p - 1, by
    have : p ≠ 0 := fun e => c (by rw [e]; rfl)
    omega⟩
  rw [nI_pred]
  refine ⟨fun m x D => ∃ k : Nat, k ≤ 86 ∧ m = 86 - k ∧ x = nI k ∧ ∃ f, D = uA (uA M 4 (fun _ => nI q)) 0 f ∧ ∀ j, j < k → f j = M 1 (86 * q + j), 86, ⟨0, by omega, rfl, rfl, M 0, (uA_id (uA M 4 (fun _ => nI q)) 0).symm, fun j hj => by omega⟩, ?_⟩
  rintro m x D ⟨k, hk, rfl, rfl, f, rfl, hf⟩
  have e4 : (uA (uA M 4 (fun _ => nI q)) 0 f) 4 0 = nI q := rfl
  have e1 : (uA (uA M 4 (fun _ => nI q)) 0 f) 1 = M 1 := rfl
  rw [e4]
  refine ⟨fun c => ?_, fun c => ?_⟩
  · have := (nI_leI (a := 86) (by omega) (by omega)).mp c
    exact h1 q rfl f fun j hj => hf j (by omega)
  · have hk86 : k < 86 := Nat.not_le.mp fun z => c (nI_le (a := 86) z (by omega))
    have e : (86 : Int32) * nI q + nI k = nI (86 * q + k) := by rw [show (86 : Int32) = nI 86 from rfl, pk_mul, nI_add]
    rw [e]
    refine ⟨vp_in_nI (by omega) (by omega), vp_in_nI hk86 (by omega), 86 - (k + 1), by omega, k + 1, hk86, rfl, nI_1 k, _, by rw [uA_uA], fun j hj => ?_⟩
    rw [nI_c _ (by omega), nI_c _ (by omega), uA_s, e1]
    by_cases e : j = k
    · subst e; rw [upd_s]
    · rw [upd_n e]; exact hf j (by omega)
theorem s_undo {X : Nat → St} {M : St} (hJ : Jr X M) : q_X5_undo X (fun r X1 => q_X6_undo M (fun r1 M1 => r = r1 ∧ Jr X1 M1)) := by
  obtain ⟨j5, jR, jI, jM, ⟨p, hp, j8, j4, jH⟩, jT⟩ := id hJ
  unfold q_X5_undo q_X2_size
  rw [j8]
  refine ⟨fun c => ?_, fun c => ?_⟩
  · have e : p = 0 := (nI_eq (b := 0) (by omega) (by omega)).mp c
    exact v_undo hp j4 (fun _ => ⟨rfl, hJ⟩) (fun q hq => by omega)
  · obtain ⟨q, rfl⟩ : ∃ q, p = q + 1 := ⟨p - 1, by
      have : p ≠ 0 := fun e => c (by rw [e]; rfl)
      omega⟩
    have hq := jH q (by omega)
    refine c_restore (p := q) (by omega) j8 hq.1 hq.2 (jM 1 (by decide) (by decide)) fun D' hD' => ?_
    have e8 : (uX (uX X 1 D') 8 (uA (X 8) 0 (fun _ => nI q))) 8 0 0 = nI q := rfl
    rw [e8]
    refine v_undo hp j4 (fun z => by omega) fun q' hq' f hf => ?_
    have e : q' = q := by omega
    subst e
    refine ⟨rfl, j5, ?_, ?_, fun i h1 h7 => ?_, ⟨q', by omega, rfl, rfl, fun i hi => ?_⟩, ?_⟩
    · show Rl D' f
      exact hD'.ag hf
    · show Iv 50000 f
      exact hq.2.ag hf
    · by_cases e : i = 1
      · subst e
        exact hq.2.mo hD'
      · rw [uX_n (by omega), uX_n e]; exact jM i h1 h7
    · rw [uX_n (by omega), uX_n (by omega)]
      exact jH i (by omega)
    · exact jT
theorem v_type {M : St} {Q : Int32 → St → Prop} {x : Int32} {t : Nat} (h7 : M 7 0 = nI t) (ht : t ≤ 60) (hi : ¬ (32 ≤ x ∧ x ≤ 126) → Q (-1000001) M) (hl : 32 ≤ x ∧ x ≤ 126 → t = 60 → Q (-1000003) M) (hok : 32 ≤ x ∧ x ≤ 126 → t < 60 → Q (nI (t + 1)) (uA (uA M 6 (upd (M 6) t x)) 7 (fun _ => nI (t + 1)))) : q_X6_type x M Q := by
  unfold q_X6_type
  rw [h7]
  refine v_in (fun h1 h2 => ⟨fun q => absurd q (by decide), fun _ => ⟨fun c => hl ⟨h1, h2⟩ ((nI_eq (b := 60) (by omega) (by omega)).mp c), fun c => ?_⟩⟩) (fun hne => ⟨fun _ => hi hne, fun q => absurd rfl q⟩)
  have hlt : t < 60 := by
    have : t ≠ 60 := fun e => c (by rw [e]; rfl)
    omega
  refine ⟨vp_in_nI hlt (by omega), ?_⟩
  rw [nI_1, nI_c _ (by omega)]
  exact hok ⟨h1, h2⟩ hlt
theorem char_all : ∀ c, c < 127 → vp_nar .char (((nI c).toUInt32 % 65536).toInt32) = nI c := by decide +kernel
theorem sign_of {x : Int32} (h : 32 ≤ x ∧ x ≤ 126) : ∃ c, 32 ≤ c ∧ c ≤ 126 ∧ x = nI c := by
  obtain ⟨c, hc, e⟩ := nat_of (Int32.le_trans (by decide) h.1) h.2 (b := 126) rfl (by omega)
  refine ⟨c, ?_, hc, e⟩
  have h1 := h.1
  rw [e] at h1
  exact (nI_leI (a := 32) (by omega) (by omega)).mp h1
theorem s_type {X : Nat → St} {M : St} {x : Int32} (hJ : Jr X M) : q_X5_type x X (fun r X1 => q_X6_type x M (fun r1 M1 => r = r1 ∧ Jr X1 M1)) := by
  obtain ⟨j5, jR, jI, jM, ⟨p, hp, j8, j4, jH⟩, ⟨t, ht, t1, t2, t3⟩⟩ := id hJ
  unfold q_X5_type q_X3_append
  dsimp only
  rw [uX_id, t1]
  have bad : ¬ (32 ≤ x ∧ x ≤ 126) → q_X6_type x M (fun r1 M1 => (-1000001) = r1 ∧ Jr X M1) := fun q => v_type t2 ht (fun _ => ⟨rfl, hJ⟩) (fun z => absurd z q) (fun z => absurd z q)
  refine ⟨fun c => bad fun q => absurd q.1 (Int32.not_le.mpr c), fun c1 => ⟨fun c2 => ⟨fun c3 => ?_, fun c3 => ?_⟩, fun c => bad fun q => c q.2⟩⟩
  · have hin : 32 ≤ x ∧ x ≤ 126 := ⟨Int32.not_lt.mp c1, c2⟩
    have hlt : t < 60 := (nI_ltI (b := 60) (by omega) (by omega)).mp c3
    obtain ⟨c, hc1, hc2, ec⟩ := sign_of hin
    refine ⟨vp_in_nI hlt (by omega), ?_⟩
    rw [nI_1, nI_c _ (by omega)]
    refine v_type t2 ht (fun q => absurd hin q) (fun _ e => by omega) fun _ _ => ⟨rfl, j5, jR, jI, fun i h1 h7 => ?_, ⟨p, hp, j8, j4, fun i hi => ?_⟩, t + 1, hlt, rfl, rfl, fun k hk => ?_⟩
    · rw [uX_n (by omega)]; exact jM i h1 h7
    · rw [uX_n (by omega)]; exact jH i hi
    · show upd (X 0 0) t (vp_nar .char ((x.toUInt32 % 65536).toInt32)) k = upd (M 6) t x k ∧ ∃ c, 32 ≤ c ∧ c ≤ 126 ∧ upd (M 6) t x k = nI c
      by_cases e : k = t
      · subst e
        rw [upd_s, upd_s, ec, char_all c (by omega)]
        exact ⟨rfl, c, hc1, hc2, rfl⟩
      · rw [upd_n e, upd_n e]
        exact t3 k (by omega)
  · have hin : 32 ≤ x ∧ x ≤ 126 := ⟨Int32.not_lt.mp c1, c2⟩
    have hlt : t = 60 := by
      have : ¬ t < 60 := fun q => c3 (nI_lt (b := 60) q (by omega))
      omega
    exact v_type t2 ht (fun q => absurd hin q) (fun _ _ => ⟨rfl, hJ⟩) fun _ q => by omega
theorem s_clear {X : Nat → St} {M : St} (hJ : Jr X M) : q_X5_clearText X (fun r X1 => q_X6_clearText M (fun r1 M1 => r = r1 ∧ Jr X1 M1)) := by
  obtain ⟨j5, jR, jI, jM, ⟨p, hp, j8, j4, jH⟩, ⟨t, ht, t1, t2, t3⟩⟩ := id hJ
  unfold q_X5_clearText q_X3_empty q_X6_clearText
  refine ⟨t1.trans t2.symm, j5, jR, jI, fun i h1 h7 => ?_, ⟨p, hp, j8, j4, fun i hi => ?_⟩, 0, by omega, rfl, rfl, fun k hk => by omega⟩
  · rw [uX_n (by omega)]; exact jM i h1 h7
  · rw [uX_n (by omega)]; exact jH i hi
