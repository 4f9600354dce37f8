/-! Texts: the reference's reading of an order. -/
def ag_r (M D : St) : Prop := ∀ j, j ≠ 8 → j ≠ 10 → D j = M j
theorem ag_r.trans {M D E : St} (h : ag_r M D) (h' : ag_r D E) : ag_r M E := fun j z1 z2 => (h' j z1 z2).trans (h j z1 z2)
theorem v_isAt {M : St} {Q : Int32 → Prop} {x y : Int32} {t p : Nat} (h7 : M 7 0 = nI t) (h8 : M 8 0 = nI p) (ht : t ≤ 60) (hp2 : p < 1000) (h : Q (if p < t ∧ (x ≤ M 6 p ∧ M 6 p ≤ y) then 1 else 0)) : q_X6_isAt x y M Q := by
  unfold q_X6_isAt
  rw [h7, h8]
  refine ⟨fun c => ?_, fun c => ?_⟩
  · have hle := (nI_leI (by omega) (by omega)).mp c
    rw [if_neg fun q => by have := q.1; omega] at h; exact h
  · have hlt : p < t := Nat.not_le.mp fun q => c (nI_le q (by omega))
    rw [nI_c _ (by omega)]
    refine ⟨vp_in_nI (by omega) (by omega), v_in (fun h1 h2 => ⟨fun q => absurd q (by decide), fun _ => ?_⟩) (fun hne => ⟨fun _ => ?_, fun q => absurd rfl q⟩)⟩
    · rw [if_pos ⟨hlt, h1, h2⟩] at h; exact h
    · rw [if_neg fun q => hne q.2] at h; exact h
theorem digs (v x : Int32) : ((10 * v) + x) - 48 = v * 10 + (x - 48) := by
  rw [Int32.mul_comm 10 v, Int32.sub_eq_add_neg, Int32.add_assoc, ← Int32.sub_eq_add_neg]
theorem v_number {M : St} {Q : Int32 → St → Prop} {t p i : Nat} {x y : Int32} (h7 : M 7 0 = nI t) (h8 : M 8 0 = nI p) (ht : t ≤ 60) (hp2 : p < 900) (hi : i < 2) (ex : x = nI i)
    (h0 : nu_m (M 6) t p y = none → ∀ D, ag_r M D → Q 0 D)
    (h1 : ∀ p' a, nu_m (M 6) t p y = some (p', a) → ∀ D, ag_r M D → D 8 0 = nI p' → D 10 = upd (M 10) i a → Q 1 D) : q_X6_number x y M Q := by
  subst ex
  unfold q_X6_number
  rw [nI_c _ (by omega)]
  refine ⟨vp_in_nI hi (by omega), fun m D => ∃ k : Nat, ∃ v : Int32, k ≤ 3 ∧ m = 3 - k ∧ ag_r M D ∧ D 8 0 = nI (p + k) ∧ D 10 = upd (M 10) i v ∧ nr_d (M 6) t (3 - k) (p + k) v = nr_d (M 6) t 3 p 0, 3, ⟨0, 0, by omega, rfl, fun j z1 z2 => uA_n z2, h8, uA_s _ _ _, rfl⟩, ?_⟩
  rintro m D ⟨k, v, hk, rfl, hD, hD8, hD10, hn⟩
  have hD7 : D 7 0 = nI t := by rw [hD 7 (by decide) (by decide)]; exact h7
  have hD6 : D 6 = M 6 := hD 6 (by decide) (by decide)
  have agE : ag_r M (uA D 8 (fun _ => D 8 0 + 1)) := fun j z1 z2 => by rw [uA_n z1, hD j z1 z2]
  have fin : nr_d (M 6) t (3 - k) (p + k) v = (p + k, v) → (D 8 0 ≤ M 8 0 → Q 0 (uA D 8 (fun _ => D 8 0 + 1))) ∧ (¬ (D 8 0 ≤ M 8 0) → q_X6_isAt y y D (fun r => (r = 0 → Q 0 (uA D 8 (fun _ => D 8 0 + 1))) ∧ (¬ (r = 0) → Q 1 (uA D 8 (fun _ => D 8 0 + 1))))) := fun e => by
    rw [e] at hn
    unfold nu_m at h0 h1
    rw [← hn] at h0 h1
    rw [h8, hD8]
    refine ⟨fun c => ?_, fun c => ?_⟩
    · have := (nI_leI (by omega) (by omega)).mp c
      rw [if_pos (show p + k = p by omega)] at h0
      rw [← hD8]
      exact h0 rfl _ agE
    · have hk0 : k ≠ 0 := fun e => c (by rw [e]; exact nI_le (Nat.le_refl _) (by omega))
      rw [if_neg (show ¬ p + k = p by omega)] at h0 h1
      refine v_isAt hD7 hD8 ht (by omega) ⟨fun q => ?_, fun q => ?_⟩
      · have hno := no_of q
        rw [if_neg fun z : atP (M 6) t (p + k) y => hno ⟨z.1, by rw [hD6, z.2]; exact Int32.le_refl _, by rw [hD6, z.2]; exact Int32.le_refl _⟩] at h0
        rw [← hD8]
        exact h0 rfl _ agE
      · have hyes := yes_of q
        rw [hD6] at hyes
        rw [if_pos (show atP (M 6) t (p + k) y from ⟨hyes.1, Int32.le_antisymm hyes.2.2 hyes.2.1⟩)] at h1
        rw [← hD8]
        refine h1 _ _ rfl _ agE (by rw [uA_s, hD8, nI_1]) ?_
        rw [uA_n (by decide)]; exact hD10
  refine v_isAt hD7 hD8 ht (by omega) ?_
  rw [hD6]
  refine ⟨fun q => fin ?_, fun q => ⟨fun c3 => fin ?_, fun c3 => ?_⟩⟩
  · have hno := no_of q
    rcases Nat.eq_zero_or_pos (3 - k) with z | z
    · rw [z]; rfl
    · obtain ⟨f, hf⟩ : ∃ f, 3 - k = f + 1 := ⟨3 - k - 1, by omega⟩
      rw [hf, nr_d, if_neg fun z => hno ⟨z.1, Int32.not_lt.mp z.2.1, Int32.not_lt.mp z.2.2⟩]
  · rw [hD8, h8, pk_sub (by omega), show p + k - p = k by omega] at c3
    have := (nI_leI (a := 3) (by omega) (by omega)).mp c3
    rw [show 3 - k = 0 by omega]
    rfl
  · have hyes := yes_of q
    rw [hD8, h8, pk_sub (by omega), show p + k - p = k by omega] at c3
    have hk3 : k < 3 := Nat.not_le.mp fun q => c3 (nI_le (a := 3) q (by omega))
    have hlt := hyes.1
    obtain ⟨f, hf⟩ : ∃ f, 3 - k = f + 1 := ⟨3 - k - 1, by omega⟩
    rw [hf, nr_d, if_pos (show dgP (M 6) t (p + k) from ⟨hyes.1, Int32.not_lt.mpr hyes.2.1, Int32.not_lt.mpr hyes.2.2⟩)] at hn
    rw [hD8, nI_c _ (by omega)]
    refine ⟨vp_in_nI (by omega) (by omega), 3 - (k + 1), by omega, k + 1, v * 10 + (M 6 (p + k) - 48), hk3, rfl, fun j z1 z2 => ?_, ?_, ?_, ?_⟩
    · rw [uA_n z1, uA_n z2, hD j z1 z2]
    · rw [uA_s, nI_1, Nat.add_assoc]
    · rw [uA_n (by decide), uA_s, hD10, upd_upd, upd_s, digs]
    · rw [show 3 - (k + 1) = f by omega]; exact hn
/-- an order of two numbers -/
theorem v_two {M : St} {K : Int32 → St → Prop} {R : St → Prop} {t p : Nat} (h7 : M 7 0 = nI t) (h8 : M 8 0 = nI p) (ht : t ≤ 60) (hpt : p < t) (hl : M 6 p = 111 ∨ M 6 p = 119)
    (h0 : pr_s (M 6) t p = none → ∀ D, ag_r M D → K 1 D)
    (h1 : ∀ p' a b, pr_s (M 6) t p = some (p', a, b) → ∀ D, ag_r M D → D 8 0 = nI p' → D 10 0 = a → D 10 1 = b → R D) :
    ∃ (I : Nat → Int32 → Int32 → St → Prop) (n0 : Nat), I n0 0 1 (uA M 8 (fun _ => ((M 8 0) + 1))) ∧ ∀ (n : Nat) (x : Int32) (z : Int32) (D : St), I n x z D → ((2 ≤ x → (z = 0 → K 1 D) ∧ (¬ (z = 0) → R D)) ∧ (¬ (2 ≤ x) → (z = 0 → K 1 D) ∧ (¬ (z = 0) → (x = (2 - 1) → q_X6_number x 59 D (fun r u => ∃ n1, n1 < n ∧ I n1 (x + 1) r u)) ∧ (¬ (x = (2 - 1)) → q_X6_number x 44 D (fun r u => ∃ n1, n1 < n ∧ I n1 (x + 1) r u))))) := by
  unfold pr_s at h0 h1
  rw [if_pos hl] at h0 h1
  refine ⟨fun n x z D => ag_r M D ∧ ((n = 2 ∧ x = nI 0 ∧ z = 1 ∧ D 8 0 = nI (p + 1)) ∨ (z = 0 ∧ K 1 D) ∨ (n = 1 ∧ x = nI 1 ∧ z = 1 ∧ ∃ p1 a, nu_m (M 6) t (p + 1) 44 = some (p1, a) ∧ D 8 0 = nI p1 ∧ D 10 0 = a) ∨ (x = nI 2 ∧ z = 1 ∧ R D)), 2, ⟨fun j z1 z2 => uA_n z1, Or.inl ⟨rfl, rfl, rfl, by rw [uA_s, h8, nI_1]⟩⟩, ?_⟩
  rintro n x z D ⟨hD, hst⟩
  have hD7 : D 7 0 = nI t := by rw [hD 7 (by decide) (by decide)]; exact h7
  have hD6 : D 6 = M 6 := hD 6 (by decide) (by decide)
  rcases hst with ⟨rfl, rfl, rfl, hD8⟩ | ⟨rfl, hK⟩ | ⟨rfl, rfl, rfl, p1, a, hs, hD8, hD10⟩ | ⟨rfl, rfl, hR⟩
  · refine ⟨fun c => absurd c (by decide), fun _ => ⟨fun c => absurd c (by decide), fun _ => ⟨fun c => absurd c (by decide), fun _ => ?_⟩⟩⟩
    refine v_number (i := 0) hD7 hD8 ht (by omega) (by decide) rfl (fun hn E hE => ⟨1, by decide, hD.trans hE, Or.inr (Or.inl ⟨rfl, ?_⟩)⟩) (fun p1 a hs E hE hE8 hE10 => ⟨1, by decide, hD.trans hE, Or.inr (Or.inr (Or.inl ⟨rfl, rfl, rfl, p1, a, ?_, hE8, ?_⟩))⟩)
    · rw [hD6] at hn
      rw [hn] at h0
      exact h0 rfl E (hD.trans hE)
    · rw [hD6] at hs; exact hs
    · rw [hE10, upd_s]
  · exact ⟨fun _ => ⟨fun _ => hK, fun c => absurd rfl c⟩, fun _ => ⟨fun _ => hK, fun c => absurd rfl c⟩⟩
  · rw [hs] at h0 h1
    have h0 : (match nu_m (M 6) t p1 59 with | none => none | some (p2, b) => some (p2, a, b)) = none → ∀ D, ag_r M D → K 1 D := h0
    have hl1 := num_lt hs
    refine ⟨fun c => absurd c (by decide), fun _ => ⟨fun c => absurd c (by decide), fun _ => ⟨fun _ => ?_, fun c => absurd (by decide) c⟩⟩⟩
    refine v_number (i := 1) hD7 hD8 ht (by omega) (by decide) rfl (fun hn E hE => ⟨0, by decide, hD.trans hE, Or.inr (Or.inl ⟨rfl, ?_⟩)⟩) (fun p2 b hs2 E hE hE8 hE10 => ⟨0, by decide, hD.trans hE, Or.inr (Or.inr (Or.inr ⟨rfl, rfl, ?_⟩))⟩)
    · rw [hD6] at hn
      rw [hn] at h0
      exact h0 rfl E (hD.trans hE)
    · rw [hD6] at hs2
      refine h1 p2 a b ?_ E (hD.trans hE) hE8 ?_ ?_
      · show (match nu_m (M 6) t p1 59 with | none => none | some (p2, b) => some (p2, a, b)) = some (p2, a, b)
        rw [hs2]
      · rw [hE10, upd_n (by decide)]; exact hD10
      · rw [hE10, upd_s]
  · exact ⟨fun _ => ⟨fun c => absurd c (by decide), fun _ => hR⟩, fun c => absurd (by decide) c⟩
/-- an order of one number -/
theorem v_one {M : St} {K : Int32 → St → Prop} {R : St → Prop} {t p : Nat} (h7 : M 7 0 = nI t) (h8 : M 8 0 = nI p) (ht : t ≤ 60) (hpt : p < t) (hl0 : ¬ (M 6 p = 111 ∨ M 6 p = 119)) (hl : M 6 p = 105 ∨ M 6 p = 112 ∨ M 6 p = 120)
    (h0 : pr_s (M 6) t p = none → ∀ D, ag_r M D → K 1 D)
    (h1 : ∀ p' a b, pr_s (M 6) t p = some (p', a, b) → ∀ D, ag_r M D → D 8 0 = nI p' → D 10 0 = a → R D) :
    ∃ (I : Nat → Int32 → Int32 → St → Prop) (n0 : Nat), I n0 0 1 (uA M 8 (fun _ => ((M 8 0) + 1))) ∧ ∀ (n : Nat) (x : Int32) (z : Int32) (D : St), I n x z D → ((1 ≤ x → (z = 0 → K 1 D) ∧ (¬ (z = 0) → R D)) ∧ (¬ (1 ≤ x) → (z = 0 → K 1 D) ∧ (¬ (z = 0) → (x = (1 - 1) → q_X6_number x 59 D (fun r u => ∃ n1, n1 < n ∧ I n1 (x + 1) r u)) ∧ (¬ (x = (1 - 1)) → q_X6_number x 44 D (fun r u => ∃ n1, n1 < n ∧ I n1 (x + 1) r u))))) := by
  unfold pr_s at h0 h1
  rw [if_neg hl0, if_pos hl] at h0 h1
  refine ⟨fun n x z D => ag_r M D ∧ ((n = 1 ∧ x = nI 0 ∧ z = 1 ∧ D 8 0 = nI (p + 1)) ∨ (z = 0 ∧ K 1 D) ∨ (x = nI 1 ∧ z = 1 ∧ R D)), 1, ⟨fun j z1 z2 => uA_n z1, Or.inl ⟨rfl, rfl, rfl, by rw [uA_s, h8, nI_1]⟩⟩, ?_⟩
  rintro n x z D ⟨hD, hst⟩
  have hD7 : D 7 0 = nI t := by rw [hD 7 (by decide) (by decide)]; exact h7
  have hD6 : D 6 = M 6 := hD 6 (by decide) (by decide)
  rcases hst with ⟨rfl, rfl, rfl, hD8⟩ | ⟨rfl, hK⟩ | ⟨rfl, rfl, hR⟩
  · refine ⟨fun c => absurd c (by decide), fun _ => ⟨fun c => absurd c (by decide), fun _ => ⟨fun _ => ?_, fun c => absurd (by decide) c⟩⟩⟩
    refine v_number (i := 0) hD7 hD8 ht (by omega) (by decide) rfl (fun hn E hE => ⟨0, by decide, hD.trans hE, Or.inr (Or.inl ⟨rfl, ?_⟩)⟩) (fun p1 a hs E hE hE8 hE10 => ⟨0, by decide, hD.trans hE, Or.inr (Or.inr ⟨rfl, rfl, ?_⟩)⟩)
    · rw [hD6] at hn
      rw [hn] at h0
      exact h0 rfl E (hD.trans hE)
    · rw [hD6] at hs
      rw [hs] at h1
      exact h1 p1 a 0 rfl E (hD.trans hE) hE8 (by rw [hE10, upd_s])
  · exact ⟨fun _ => ⟨fun _ => hK, fun c => absurd rfl c⟩, fun _ => ⟨fun _ => hK, fun c => absurd rfl c⟩⟩
  · exact ⟨fun _ => ⟨fun c => absurd c (by decide), fun _ => hR⟩, fun c => absurd (by decide) c⟩
/-- the call that an order stands for -/
def doR (l a b : Int32) (D : St) (K : Int32 → St → Prop) : Prop := (l = 111 → q_X6_order a b D K) ∧ (l = 119 → q_X6_gate a b D K) ∧ (l = 105 → q_X6_inflow a D K) ∧ (l = 112 → q_X6_pass a D K) ∧ (l = 120 → q_X6_cancel a D K)
theorem v_does {M : St} {Q : Int32 → St → Prop} {t p : Nat} (h7 : M 7 0 = nI t) (h8 : M 8 0 = nI p) (ht : t ≤ 60) (hpt : p < t)
    (h0 : pr_s (M 6) t p = none → ∀ D, ag_r M D → Q 1 D)
    (h1 : ∀ p' a b, pr_s (M 6) t p = some (p', a, b) → ∀ D, ag_r M D → D 8 0 = nI p' → doR (M 6 p) a b D (fun r u => q_X6_asReason r (fun r2 => Q r2 u))) : q_X6_does M Q := by
  unfold q_X6_does
  have e8 : (M 8 0).toNatClampNeg = p := by rw [h8]; exact nI_c _ (by omega)
  refine ⟨by rw [h8]; exact vp_in_nI (by omega) (by omega), ?_⟩
  rw [e8]
  refine ⟨fun l1 => ?_, fun l1 => ⟨fun l2 => ?_, fun l2 => ⟨fun l3 => ?_, fun l3 => ⟨fun l4 => ?_, fun l4 => ⟨fun l5 => ?_, fun l5 => ?_⟩⟩⟩⟩⟩
  · exact v_two (K := Q) (R := fun D => q_X6_order ((D 10) 0) ((D 10) 1) D (fun r u => q_X6_asReason r (fun r2 => Q r2 u))) h7 h8 ht hpt (Or.inl l1) h0 (fun p' a b hs D hD hD8 ha hb => by
      rw [ha, hb]; exact (h1 p' a b hs D hD hD8).1 l1)
  · exact v_two (K := Q) (R := fun D => q_X6_gate ((D 10) 0) ((D 10) 1) D (fun r u => q_X6_asReason r (fun r2 => Q r2 u))) h7 h8 ht hpt (Or.inr l2) h0 (fun p' a b hs D hD hD8 ha hb => by
      rw [ha, hb]; exact (h1 p' a b hs D hD hD8).2.1 l2)
  · exact v_one (K := Q) (R := fun D => q_X6_inflow ((D 10) 0) D (fun r u => q_X6_asReason r (fun r2 => Q r2 u))) h7 h8 ht hpt (by rintro (q | q); exact l1 q; exact l2 q) (Or.inl l3) h0 (fun p' a b hs D hD hD8 ha => by
      rw [ha]; exact (h1 p' a b hs D hD hD8).2.2.1 l3)
  · exact v_one (K := Q) (R := fun D => q_X6_pass ((D 10) 0) D (fun r u => q_X6_asReason r (fun r2 => Q r2 u))) h7 h8 ht hpt (by rintro (q | q); exact l1 q; exact l2 q) (Or.inr (Or.inl l4)) h0 (fun p' a b hs D hD hD8 ha => by
      rw [ha]; exact (h1 p' a b hs D hD hD8).2.2.2.1 l4)
  · exact v_one (K := Q) (R := fun D => q_X6_cancel ((D 10) 0) D (fun r u => q_X6_asReason r (fun r2 => Q r2 u))) h7 h8 ht hpt (by rintro (q | q); exact l1 q; exact l2 q) (Or.inr (Or.inr l5)) h0 (fun p' a b hs D hD hD8 ha => by
      rw [ha]; exact (h1 p' a b hs D hD hD8).2.2.2.2 l5)
  · have go : Q 1 (uA M 8 (fun _ => ((M 8 0) + 1))) := by
      refine h0 ?_ _ (fun j z1 z2 => uA_n z1)
      unfold pr_s
      rw [if_neg (by rintro (q | q); exact l1 q; exact l2 q), if_neg (by rintro (q | q | q); exact l3 q; exact l4 q; exact l5 q)]
    refine ⟨fun n x z D => x = 0 ∧ z = 0 ∧ D = uA M 8 (fun _ => ((M 8 0) + 1)), 0, ⟨rfl, rfl, rfl⟩, ?_⟩
    rintro n x z D ⟨rfl, rfl, rfl⟩
    exact ⟨fun _ => ⟨fun _ => go, fun c => absurd rfl c⟩, fun c => absurd (by decide) c⟩
