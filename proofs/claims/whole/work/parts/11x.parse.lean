/-! Texts: what is read of an order, on both sides. -/
abbrev dgP (τ : Rw) (t p : Nat) : Prop := p < t ∧ ¬ τ p < 48 ∧ ¬ 57 < τ p
def nr_d (τ : Rw) (t : Nat) : Nat → Nat → Int32 → Nat × Int32
  | 0, p, v => (p, v)
  | f + 1, p, v => if dgP τ t p then nr_d τ t f (p + 1) (v * 10 + (τ p - 48)) else (p, v)
abbrev atP (τ : Rw) (t p : Nat) (x : Int32) : Prop := p < t ∧ τ p = x
/-- a number with the sign behind it -/
def nu_m (τ : Rw) (t p : Nat) (x : Int32) : Option (Nat × Int32) := if (nr_d τ t 3 p 0).1 = p then none else if atP τ t (nr_d τ t 3 p 0).1 x then some ((nr_d τ t 3 p 0).1 + 1, (nr_d τ t 3 p 0).2) else none
/-- an order: the place behind it, its numbers -/
def pr_s (τ : Rw) (t p : Nat) : Option (Nat × Int32 × Int32) :=
  if τ p = 111 ∨ τ p = 119 then match nu_m τ t (p + 1) 44 with
    | none => none
    | some (p1, a) => match nu_m τ t p1 59 with
      | none => none
      | some (p2, b) => some (p2, a, b)
  else if τ p = 105 ∨ τ p = 112 ∨ τ p = 120 then match nu_m τ t (p + 1) 59 with
    | none => none
    | some (p1, a) => some (p1, a, 0)
  else none
theorem nrd_le (τ : Rw) (t : Nat) : ∀ f p v, p ≤ (nr_d τ t f p v).1 ∧ (nr_d τ t f p v).1 ≤ p + f
  | 0, p, v => ⟨Nat.le_refl p, Nat.le_refl p⟩
  | f + 1, p, v => by
    unfold nr_d
    split
    · have := nrd_le τ t f (p + 1) (v * 10 + (τ p - 48))
      omega
    · show p ≤ p ∧ p ≤ p + (f + 1)
      omega
theorem dg_of {x : Int32} (h1 : ¬ x < 48) (h2 : ¬ 57 < x) : ∃ d, d ≤ 9 ∧ x - 48 = nI d := by
  obtain ⟨c, hc, e⟩ := nat_of (Int32.le_trans (by decide) (Int32.not_lt.mp h1)) (Int32.not_lt.mp h2) (b := 57) rfl (by omega)
  rw [e] at h1 ⊢
  have : 48 ≤ c := by
    have : ¬ c < 48 := fun q => h1 (nI_lt (b := 48) q (by omega))
    omega
  exact ⟨c - 48, by omega, pk_sub (b := 48) this⟩
theorem nrd_val (τ : Rw) (t : Nat) : ∀ f p a, ∃ b, b < (a + 1) * 10 ^ f ∧ (nr_d τ t f p (nI a)).2 = nI b
  | 0, p, a => ⟨a, by omega, rfl⟩
  | f + 1, p, a => by
    unfold nr_d
    split
    · rename_i h
      obtain ⟨d, hd, e⟩ := dg_of h.2.1 h.2.2
      rw [e, show (10 : Int32) = nI 10 from rfl, pk_mul, nI_add]
      obtain ⟨b, hb, eb⟩ := nrd_val τ t f (p + 1) (a * 10 + d)
      refine ⟨b, ?_, eb⟩
      have : (a * 10 + d + 1) * 10 ^ f ≤ ((a + 1) * 10) * 10 ^ f := Nat.mul_le_mul (by omega) (Nat.le_refl _)
      rw [Nat.pow_succ, Nat.mul_comm (10 ^ f) 10, ← Nat.mul_assoc]
      omega
    · refine ⟨a, ?_, rfl⟩
      have : 1 ≤ 10 ^ (f + 1) := Nat.pow_pos (by decide)
      have : (a + 1) * 1 ≤ (a + 1) * 10 ^ (f + 1) := Nat.mul_le_mul (Nat.le_refl _) this
      omega
theorem nrd_ne (τ : Rw) (t p : Nat) : ¬ (nr_d τ t 3 p 0).2 = -1 := fun e => by
  obtain ⟨b, hb, eb⟩ := nrd_val τ t 3 p 0
  have eb : (nr_d τ t 3 p 0).2 = nI b := eb
  rw [eb] at e
  have := nI_pos (n := b) (by omega)
  rw [e] at this
  exact this (by decide)
theorem num_lt {τ : Rw} {t p : Nat} {x : Int32} {p' : Nat} {a : Int32} (h : nu_m τ t p x = some (p', a)) : p < p' ∧ p' ≤ t := by
  unfold nu_m at h
  have := nrd_le τ t 3 p 0
  split at h
  · cases h
  · split at h
    · rename_i q
      have q1 := q.1
      cases h
      omega
    · cases h
theorem prs_lt {τ : Rw} {t p p' : Nat} {a b : Int32} (h : pr_s τ t p = some (p', a, b)) : p < p' ∧ p' ≤ t := by
  unfold pr_s at h
  split at h
  · split at h
    · cases h
    · rename_i p1 a1 e1
      split at h
      · cases h
      · rename_i p2 a2 e2
        cases h
        have := num_lt e1
        have := num_lt e2
        omega
  · split at h
    · split at h
      · cases h
      · rename_i p1 a1 e1
        cases h
        have := num_lt e1
        omega
    · cases h
/-! the class -/
def Txc (C : St) (τ : Rw) (t : Nat) : Prop := C 1 0 = nI t ∧ t ≤ 60 ∧ ∀ k, k < t → C 0 k = τ k ∧ ∃ c, 32 ≤ c ∧ c ≤ 126 ∧ τ k = nI c
theorem Txc.cong {C C' : St} {τ : Rw} {t : Nat} (h : Txc C τ t) (h0 : C' 0 = C 0) (h1 : C' 1 = C 1) : Txc C' τ t := by
  unfold Txc at *
  rw [h0, h1]; exact h
theorem isC_all : ∀ c, c < 127 → (narrow .char (.int (nI c)) = .int (nI c) ∧ fits .char (.int (nI c)) = true) := by decide +kernel
theorem c_sign {C : St} {Q : Int32 → Prop} {τ : Rw} {t p : Nat} (hT : Txc C τ t) (hp : C 2 0 = nI p) (hp2 : p < 1000) (h1 : p < t → Q (τ p)) (h0 : t ≤ p → Q 0) : q_X3_sign C Q := by
  obtain ⟨t1, t60, tt⟩ := hT
  unfold q_X3_sign
  rw [hp, t1]
  refine ⟨fun c => absurd c (nI_pos (by omega)), fun _ => ⟨fun c => h0 ((nI_leI (by omega) (by omega)).mp c), fun c => ?_⟩⟩
  have hlt : p < t := Nat.not_le.mp fun q => c (nI_le q (by omega))
  refine ⟨fun c6 => absurd c6 (nI_ge (b := 60) (by omega) (by omega)), fun _ => ⟨vp_in_nI (by omega) (by omega), ?_⟩⟩
  rw [nI_c _ (by omega)]
  obtain ⟨e, c, hc1, hc2, ec⟩ := tt p hlt
  rw [e]
  exact ⟨by rw [ec]; exact isC_all c (by omega), h1 hlt⟩
theorem c_readNumber {C : St} {Q : Int32 → St → Prop} {τ : Rw} {t p : Nat} (hT : Txc C τ t) (hp : C 2 0 = nI p) (hp2 : p < 900)
    (h : ∀ C', (∀ j, j ≠ 2 → C' j = C j) → C' 2 0 = nI (nr_d τ t 3 p 0).1 → Q (if (nr_d τ t 3 p 0).1 = p then -1 else (nr_d τ t 3 p 0).2) C') : q_X3_readNumber C Q := by
  unfold q_X3_readNumber
  refine ⟨fun m x v D => ∃ k : Nat, k ≤ 3 ∧ m = 3 - k ∧ x = nI k ∧ (∀ j, j ≠ 2 → D j = C j) ∧ D 2 0 = nI (p + k) ∧ nr_d τ t (3 - k) (p + k) v = nr_d τ t 3 p 0, 3, ⟨0, by omega, rfl, rfl, fun _ _ => rfl, hp, rfl⟩, ?_⟩
  rintro m x v D ⟨k, hk, rfl, rfl, hD, hD2, hn⟩
  have hTD : Txc D τ t := hT.cong (hD 0 (by decide)) (hD 1 (by decide))
  have fin : nr_d τ t (3 - k) (p + k) v = (p + k, v) → (nI k = 0 → Q (-1) D) ∧ (¬ (nI k = 0) → Q v D) := fun e => by
    rw [e] at hn
    have hh := h D hD (by rw [← hn]; exact hD2)
    rw [← hn] at hh
    refine ⟨fun c => ?_, fun c => ?_⟩
    · have : k = 0 := (nI_eq (b := 0) (by omega) (by omega)).mp c
      rw [if_pos (show p + k = p by omega)] at hh
      exact hh
    · have : k ≠ 0 := fun e => c (by rw [e]; rfl)
      rw [if_neg (show ¬ p + k = p by omega)] at hh
      exact hh
  refine ⟨fun c => fin ?_, fun c => ?_⟩
  · have := (nI_leI (a := 3) (by omega) (by omega)).mp c
    rw [show 3 - k = 0 by omega]
    rfl
  · have hk3 : k < 3 := Nat.not_le.mp fun q => c (nI_le (a := 3) q (by omega))
    obtain ⟨f, hf⟩ : ∃ f, 3 - k = f + 1 := ⟨3 - k - 1, by omega⟩
    have stop : ¬ dgP τ t (p + k) → nr_d τ t (3 - k) (p + k) v = (p + k, v) := fun q => by
      rw [hf, nr_d, if_neg q]
    refine c_sign hTD hD2 (by omega) (fun hlt => ⟨fun c1 => fin (stop fun q => q.2.1 c1), fun c1 => c_sign hTD hD2 (by omega) (fun _ => ⟨fun c2 => fin (stop fun q => q.2.2 c2), fun c2 => c_sign hTD hD2 (by omega) (fun _ => ?_) (fun q => by omega)⟩) (fun q => by omega)⟩) (fun hle => ⟨fun _ => fin (stop fun q => by have := q.1; omega), fun c1 => absurd (by decide) c1⟩)
    refine ⟨3 - (k + 1), by omega, k + 1, hk3, rfl, nI_1 k, fun j hj => by rw [uA_n hj, hD j hj], ?_, ?_⟩
    · rw [uA_s, hD2, nI_1, Nat.add_assoc]
    · rw [← hn, hf, nr_d, if_pos (show dgP τ t (p + k) from ⟨hlt, c1, c2⟩), show 3 - (k + 1) = f by omega, Nat.add_assoc]
theorem c_readSign {C : St} {Q : Int32 → St → Prop} {τ : Rw} {t p : Nat} {x : Int32} (hT : Txc C τ t) (hp : C 2 0 = nI p) (hp2 : p < 900) (hx : ¬ (0 : Int32) = x)
    (h : ∀ C', (∀ j, j ≠ 2 → C' j = C j) → C' 2 0 = nI (p + 1) → Q (if atP τ t p x then 1 else 0) C') : q_X3_readSign x C Q := by
  unfold q_X3_readSign
  have hh := h (uA C 2 (fun _ => C 2 0 + 1)) (fun j hj => uA_n hj) (by rw [uA_s, hp, nI_1])
  refine c_sign hT hp (by omega) (fun hlt => ⟨fun c => ?_, fun c => ?_⟩) (fun hle => ⟨fun c => absurd c hx, fun _ => ?_⟩)
  · rw [if_pos (show atP τ t p x from ⟨hlt, c⟩)] at hh; exact hh
  · rw [if_neg fun q : atP τ t p x => c q.2] at hh; exact hh
  · rw [if_neg fun q : atP τ t p x => by have := q.1; omega] at hh; exact hh
/-- a number and the sign behind it, the number laid into F -/
theorem c_num {C : St} {K0 : St → Prop} {R : Int32 → St → Prop} {τ : Rw} {t p F : Nat} {x : Int32} (hT : Txc C τ t) (hp : C 2 0 = nI p) (hp2 : p < 800) (hx : ¬ (0 : Int32) = x) (hF : F = 4 ∨ F = 5)
    (h0 : nu_m τ t p x = none → ∀ u, (∀ j, j ≠ 2 → j ≠ F → u j = C j) → K0 u ∧ R 0 u)
    (h1 : ∀ p' a, nu_m τ t p x = some (p', a) → ∀ u, (∀ j, j ≠ 2 → j ≠ F → u j = C j) → u 2 0 = nI p' → u F 0 = a → R 1 u) :
    q_X3_readNumber C (fun r u => (r = (-1) → K0 (uA u F (fun _ => r))) ∧ (¬ (r = (-1)) → q_X3_readSign x (uA u F (fun _ => r)) R)) := by
  have hle := nrd_le τ t 3 p 0
  refine c_readNumber hT hp (by omega) fun C' hC h2 => ?_
  unfold nu_m at h0 h1
  by_cases c : (nr_d τ t 3 p 0).1 = p
  · rw [if_pos c] at h0 ⊢
    exact ⟨fun _ => (h0 rfl _ fun j z1 z2 => by rw [uA_n z2, hC j z1]).1, fun q => absurd rfl q⟩
  · rw [if_neg c] at h0 h1 ⊢
    refine ⟨fun q => absurd q (nrd_ne τ t p), fun _ => ?_⟩
    have hT' : Txc (uA C' F (fun _ => (nr_d τ t 3 p 0).2)) τ t := hT.cong (by rw [uA_n (by omega), hC 0 (by decide)]) (by rw [uA_n (by omega), hC 1 (by decide)])
    refine c_readSign hT' (by rw [uA_n (by omega)]; exact h2) (by omega) hx fun C2 hC2 h22 => ?_
    have ag : ∀ j, j ≠ 2 → j ≠ F → C2 j = C j := fun j z1 z2 => by rw [hC2 j z1, uA_n z2, hC j z1]
    by_cases c2 : atP τ t (nr_d τ t 3 p 0).1 x
    · rw [if_pos c2] at h1 ⊢
      exact h1 _ _ rfl C2 ag h22 (by rw [hC2 F (by omega), uA_s])
    · rw [if_neg c2] at h0 ⊢
      exact (h0 rfl C2 ag).2
theorem c_readOrder {C : St} {Q : Int32 → St → Prop} {τ : Rw} {t p : Nat} (hT : Txc C τ t) (hp : C 2 0 = nI p) (hpt : p < t)
    (h0 : pr_s τ t p = none → ∀ u, u 0 = C 0 → u 1 = C 1 → u 6 = C 6 → u 7 = C 7 → Q 0 u)
    (h1 : ∀ p' a b, pr_s τ t p = some (p', a, b) → ∀ u, u 0 = C 0 → u 1 = C 1 → u 6 = C 6 → u 7 = C 7 → u 2 0 = nI p' → u 3 0 = τ p → u 4 0 = a → ((τ p = 111 ∨ τ p = 119) → u 5 0 = b) → Q 1 u) : q_X3_readOrder C Q := by
  have t60 := hT.2.1
  unfold q_X3_readOrder
  refine c_sign hT hp (by omega) (fun _ => ?_) (fun q => by omega)
  obtain ⟨-, cc, hc1, hc2, ec⟩ := hT.2.2 p hpt
  refine ⟨by rw [ec]; exact isC_all cc (by omega), ?_⟩
  rw [hp, nI_1]
  have hT1 : Txc (uA (uA C 3 (fun _ => τ p)) 2 (fun _ => nI (p + 1))) τ t := hT.cong rfl rfl
  have hp1 : (uA (uA C 3 (fun _ => τ p)) 2 (fun _ => nI (p + 1))) 2 0 = nI (p + 1) := rfl
  have e3 : (uA (uA C 3 (fun _ => τ p)) 2 (fun _ => nI (p + 1))) 3 0 = τ p := rfl
  have e0 : (uA (uA C 3 (fun _ => τ p)) 2 (fun _ => nI (p + 1))) 0 = C 0 := rfl
  have e1 : (uA (uA C 3 (fun _ => τ p)) 2 (fun _ => nI (p + 1))) 1 = C 1 := rfl
  have e6 : (uA (uA C 3 (fun _ => τ p)) 2 (fun _ => nI (p + 1))) 6 = C 6 := rfl
  have e7 : (uA (uA C 3 (fun _ => τ p)) 2 (fun _ => nI (p + 1))) 7 = C 7 := rfl
  generalize uA (uA C 3 (fun _ => τ p)) 2 (fun _ => nI (p + 1)) = V at hT1 hp1 e3 e0 e1 e6 e7
  have two : (τ p = 111 ∨ τ p = 119) → q_X3_readNumber V (fun r_4 u_5 => (r_4 = (-1) → Q 0 (uA u_5 4 (fun _ => r_4))) ∧ (¬ (r_4 = (-1)) → q_X3_readSign 44 (uA u_5 4 (fun _ => r_4)) (fun r_7 u_8 => (r_7 = 0 → Q 0 u_8) ∧ (¬ (r_7 = 0) → q_X3_readNumber u_8 (fun r_10 u_11 => (r_10 = (-1) → Q 0 (uA u_11 5 (fun _ => r_10))) ∧ (¬ (r_10 = (-1)) → q_X3_readSign 59 (uA u_11 5 (fun _ => r_10)) (fun r_13 u_14 => isZ r_13 ∧ (Q r_13 u_14)))))))) := fun hl => by
    unfold pr_s at h0 h1
    rw [if_pos hl] at h0 h1
    refine c_num (K0 := fun u => Q 0 u) (F := 4) hT1 hp1 (by omega) (by decide) (Or.inl rfl) (fun hn u hu => ?_) (fun p1 a hs u hu hu2 hu4 => ⟨fun q => absurd q (by decide), fun _ => ?_⟩)
    · rw [hn] at h0
      have go : Q 0 u := h0 rfl u ((hu 0 (by decide) (by decide)).trans e0) ((hu 1 (by decide) (by decide)).trans e1) ((hu 6 (by decide) (by decide)).trans e6) ((hu 7 (by decide) (by decide)).trans e7)
      exact ⟨go, fun _ => go, fun q => absurd rfl q⟩
    · rw [hs] at h0 h1
      have hl1 := num_lt hs
      refine c_num (K0 := fun u => Q 0 u) (F := 5) (hT1.cong (hu 0 (by decide) (by decide)) (hu 1 (by decide) (by decide))) hu2 (by omega) (by decide) (Or.inr rfl) (fun hn w hw => ?_) (fun p2 b hs2 w hw hw2 hw5 => ⟨Or.inr rfl, ?_⟩)
      · have h0 : (match nu_m τ t p1 59 with | none => none | some (p2, b) => some (p2, a, b)) = none → ∀ u, u 0 = C 0 → u 1 = C 1 → u 6 = C 6 → u 7 = C 7 → Q 0 u := h0
        rw [hn] at h0
        have go : Q 0 w := h0 rfl w ((hw 0 (by decide) (by decide)).trans ((hu 0 (by decide) (by decide)).trans e0)) ((hw 1 (by decide) (by decide)).trans ((hu 1 (by decide) (by decide)).trans e1)) ((hw 6 (by decide) (by decide)).trans ((hu 6 (by decide) (by decide)).trans e6)) ((hw 7 (by decide) (by decide)).trans ((hu 7 (by decide) (by decide)).trans e7))
        exact ⟨go, Or.inl rfl, go⟩
      · refine h1 p2 a b ?_ w ((hw 0 (by decide) (by decide)).trans ((hu 0 (by decide) (by decide)).trans e0)) ((hw 1 (by decide) (by decide)).trans ((hu 1 (by decide) (by decide)).trans e1)) ((hw 6 (by decide) (by decide)).trans ((hu 6 (by decide) (by decide)).trans e6)) ((hw 7 (by decide) (by decide)).trans ((hu 7 (by decide) (by decide)).trans e7)) hw2 ?_ ?_ (fun _ => hw5)
        · show (match nu_m τ t p1 59 with | none => none | some (p2, b) => some (p2, a, b)) = some (p2, a, b)
          rw [hs2]
        · rw [hw 3 (by decide) (by decide), hu 3 (by decide) (by decide)]; exact e3
        · rw [hw 4 (by decide) (by decide)]; exact hu4
  have one : ¬ (τ p = 111 ∨ τ p = 119) → (τ p = 105 ∨ τ p = 112 ∨ τ p = 120) → q_X3_readNumber V (fun r_18 u_19 => (r_18 = (-1) → Q 0 (uA u_19 4 (fun _ => r_18))) ∧ (¬ (r_18 = (-1)) → q_X3_readSign 59 (uA u_19 4 (fun _ => r_18)) (fun r_21 u_22 => isZ r_21 ∧ (Q r_21 u_22)))) := fun hl0 hl => by
    unfold pr_s at h0 h1
    rw [if_neg hl0, if_pos hl] at h0 h1
    refine c_num (K0 := fun u => Q 0 u) (F := 4) hT1 hp1 (by omega) (by decide) (Or.inl rfl) (fun hn u hu => ?_) (fun p1 a hs u hu hu2 hu4 => ⟨Or.inr rfl, ?_⟩)
    · rw [hn] at h0
      have go : Q 0 u := h0 rfl u ((hu 0 (by decide) (by decide)).trans e0) ((hu 1 (by decide) (by decide)).trans e1) ((hu 6 (by decide) (by decide)).trans e6) ((hu 7 (by decide) (by decide)).trans e7)
      exact ⟨go, Or.inl rfl, go⟩
    · rw [hs] at h1
      exact h1 p1 a 0 rfl u ((hu 0 (by decide) (by decide)).trans e0) ((hu 1 (by decide) (by decide)).trans e1) ((hu 6 (by decide) (by decide)).trans e6) ((hu 7 (by decide) (by decide)).trans e7) hu2 ((congrFun (hu 3 (by decide) (by decide)) 0).trans e3) hu4 (fun q => absurd q hl0)
  refine ⟨fun l1 => two (Or.inl l1), fun l1 => ⟨fun l2 => two (Or.inr l2), fun l2 => ⟨fun l3 => one ?_ (Or.inl l3), fun l3 => ⟨fun l4 => one ?_ (Or.inr (Or.inl l4)), fun l4 => ⟨fun l5 => one ?_ (Or.inr (Or.inr l5)), fun l5 => ?_⟩⟩⟩⟩⟩
  · rintro (q | q)
    · exact l1 q
    · exact l2 q
  · rintro (q | q)
    · exact l1 q
    · exact l2 q
  · rintro (q | q)
    · exact l1 q
    · exact l2 q
  · refine h0 ?_ V e0 e1 e6 e7
    unfold pr_s
    rw [if_neg (by rintro (q | q); exact l1 q; exact l2 q), if_neg (by rintro (q | q | q); exact l3 q; exact l4 q; exact l5 q)]
