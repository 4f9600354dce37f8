/-! Texts: the doing of an order. -/
def v_l (l : Int32) : Prop := l = 111 ∨ l = 119 ∨ l = 105 ∨ l = 112 ∨ l = 120
def an_s (s : Rw) (l a b : Int32) : Int32 := if l = 111 then a_order s a b else if l = 119 then a_gate s a b else if l = 105 then a_inflow s a else if l = 112 then a_ref s a else a_cancel s a
def nx_t (s : Rw) (l a b : Int32) : Rw := if l = 111 then t_order s a b else if l = 119 then t_gate s a b else if l = 105 then upd s 5 a else if l = 112 then t_mins a.toNatClampNeg s else t_cancel s a
def rs_n (r : Int32) : Int32 := if r < 0 then (if r = -1000001 then 2 else 3) else 0
theorem rsn_0 {r : Int32} (h : ¬ r < 0) : rs_n r = 0 := if_neg h
theorem rsn_n {r : Int32} (h : r < 0) : ¬ rs_n r = 0 := by
  unfold rs_n
  rw [if_pos h]
  split <;> decide
theorem v_reason {x : Int32} {Q : Int32 → Prop} (h : Q (rs_n x)) : q_X6_asReason x Q := by
  unfold rs_n at h
  unfold q_X6_asReason
  refine ⟨fun c => ⟨fun c2 => ?_, fun c2 => ?_⟩, fun c => ?_⟩
  · rw [if_pos c, if_pos c2] at h; exact h
  · rw [if_pos c, if_neg c2] at h; exact h
  · rw [if_neg c] at h; exact h
theorem c_reason {x : Int32} {C : St} {Q : Int32 → Prop} (h : Q (rs_n x)) : q_X3_reasonOf x C Q := by
  unfold rs_n at h
  unfold q_X3_reasonOf q_X5_isError
  refine ⟨fun c => ⟨fun _ => ?_, fun q => absurd rfl q⟩, fun c => ⟨fun q => absurd q (by decide), fun _ => ⟨fun c2 => ?_, fun c2 => ?_⟩⟩⟩
  · rw [if_neg (Int32.not_lt.mpr c)] at h; exact h
  · rw [if_pos (Int32.not_le.mp c), if_pos c2] at h; exact h
  · rw [if_pos (Int32.not_le.mp c), if_neg c2] at h; exact h
theorem an_o (s : Rw) (a b : Int32) : an_s s 111 a b = a_order s a b ∧ nx_t s 111 a b = t_order s a b := by
  constructor
  · rw [an_s, if_pos rfl]
  · rw [nx_t, if_pos rfl]
theorem an_w (s : Rw) (a b : Int32) : an_s s 119 a b = a_gate s a b ∧ nx_t s 119 a b = t_gate s a b := by
  constructor
  · rw [an_s, if_neg (by decide), if_pos rfl]
  · rw [nx_t, if_neg (by decide), if_pos rfl]
theorem an_i (s : Rw) (a b : Int32) : an_s s 105 a b = a_inflow s a ∧ nx_t s 105 a b = upd s 5 a := by
  constructor
  · rw [an_s, if_neg (by decide), if_neg (by decide), if_pos rfl]
  · rw [nx_t, if_neg (by decide), if_neg (by decide), if_pos rfl]
theorem an_p (s : Rw) (a b : Int32) : an_s s 112 a b = a_ref s a ∧ nx_t s 112 a b = t_mins a.toNatClampNeg s := by
  constructor
  · rw [an_s, if_neg (by decide), if_neg (by decide), if_neg (by decide), if_pos rfl]
  · rw [nx_t, if_neg (by decide), if_neg (by decide), if_neg (by decide), if_pos rfl]
theorem an_x (s : Rw) (a b : Int32) : an_s s 120 a b = a_cancel s a ∧ nx_t s 120 a b = t_cancel s a := by
  constructor
  · rw [an_s, if_neg (by decide), if_neg (by decide), if_neg (by decide), if_neg (by decide)]
  · rw [nx_t, if_neg (by decide), if_neg (by decide), if_neg (by decide), if_neg (by decide)]
theorem c_doOrder {C D : St} {s : Rw} {Q : Int32 → St → St → Prop} {l a b : Int32} (hR : Rl D s) (hI : Iv 50000 s) (hl : v_l l) (e3 : C 3 0 = l) (e4 : C 4 0 = a) (e5 : (l = 111 ∨ l = 119) → C 5 0 = b)
    (he : an_s s l a b < 0 → Q (an_s s l a b) C D) (hok : ¬ an_s s l a b < 0 → ∀ D', Rl D' (nx_t s l a b) → Q (an_s s l a b) C D') : q_X3_doOrder C D Q := by
  obtain ⟨n, no, nm, hC, ho⟩ := id hI
  have hp := num_pos hC.2.2.2.2.1
  unfold q_X3_doOrder
  rw [e3, e4]
  rcases hl with rfl | rfl | rfl | rfl | rfl
  · rw [e5 (Or.inl rfl)]
    rw [(an_o s a b).1] at he hok
    rw [(an_o s a b).2] at hok
    exact ⟨fun c => absurd c (by decide), fun _ => ⟨fun _ => c_giveOrder hR hC he hok, fun c => absurd rfl c⟩⟩
  · rw [e5 (Or.inr rfl)]
    rw [(an_w s a b).1] at he hok
    rw [(an_w s a b).2] at hok
    exact ⟨fun c => absurd c (by decide), fun _ => ⟨fun c => absurd c (by decide), fun _ => ⟨fun _ => c_addGate hR hC he hok, fun c => absurd rfl c⟩⟩⟩
  · rw [(an_i s a b).1] at he hok
    rw [(an_i s a b).2] at hok
    exact ⟨fun _ => c_inflow hR hC.1 hp.2.2 he hok, fun c => absurd rfl c⟩
  · rw [(an_p s a b).1] at he hok
    rw [(an_p s a b).2] at hok
    refine ⟨fun c => absurd c (by decide), fun _ => ⟨fun c => absurd c (by decide), fun _ => ⟨fun c => absurd c (by decide), fun _ => ⟨fun c => absurd c (by decide), fun _ => c_refusal hR hC.1 ?_⟩⟩⟩⟩
    unfold q_X5_isError
    refine ⟨fun c => ⟨fun _ => ?_, fun q => absurd rfl q⟩, fun c => ⟨fun q => absurd q (by decide), fun _ => he (Int32.not_le.mp c)⟩⟩
    have ha : ¬ a_ref s a < 0 := Int32.not_lt.mpr c
    obtain ⟨⟨k, hk, ek⟩, -, -⟩ := ref_ok ha
    have ex : a.toNatClampNeg = k := by rw [ek]; exact nI_c _ (by omega)
    rw [ex] at hok
    exact c_letPass k (by omega) ek hR hI fun D' hD' => hok ha D' hD'
  · rw [(an_x s a b).1] at he hok
    rw [(an_x s a b).2] at hok
    exact ⟨fun c => absurd c (by decide), fun _ => ⟨fun c => absurd c (by decide), fun _ => ⟨fun c => absurd c (by decide), fun _ => ⟨fun _ => c_cancelOrder hR hC he hok, fun c => absurd rfl c⟩⟩⟩⟩
theorem iv_nxt {s : Rw} {l a b : Int32} (hI : Iv 50000 s) (hl : v_l l) (ha : ¬ an_s s l a b < 0) : Iv 50000 (nx_t s l a b) := by
  obtain ⟨n, no, nm, hC, ho⟩ := id hI
  rcases hl with rfl | rfl | rfl | rfl | rfl
  · rw [(an_o s a b).1] at ha
    rw [(an_o s a b).2]
    obtain ⟨hx, hy, -⟩ := order_ok hC ha
    obtain ⟨no', nm', h1, h2⟩ := core_order hC hx hy
    exact ⟨n, no', nm', h1, h2 ho⟩
  · rw [(an_w s a b).1] at ha
    rw [(an_w s a b).2]
    exact ⟨n + 1, no, nm, (core_gate hC ha).1, (core_gate hC ha).2 ho⟩
  · rw [(an_i s a b).1] at ha
    rw [(an_i s a b).2]
    exact iv_inflow hI ha
  · rw [(an_p s a b).1] at ha
    rw [(an_p s a b).2]
    obtain ⟨⟨k, hk, ek⟩, h12, -⟩ := ref_ok ha
    have ex : a.toNatClampNeg = k := by rw [ek]; exact nI_c _ (by omega)
    rw [ex]
    exact iv_pass hI ek hk h12
  · rw [(an_x s a b).1] at ha
    rw [(an_x s a b).2]
    exact ⟨n, no - 1, nm, (core_cancel hC ha).1, (core_cancel hC ha).2 ho⟩
theorem nxt_86 {s : Rw} {l a b : Int32} (hI : Iv 50000 s) (hl : v_l l) (ha : ¬ an_s s l a b < 0) {j : Nat} (hj : 86 ≤ j) : nx_t s l a b j = s j := by
  obtain ⟨n, no, nm, hC, ho⟩ := id hI
  have h8 := hC.1.1
  have ho8 := hC.1.2.1
  rcases hl with rfl | rfl | rfl | rfl | rfl
  · rw [(an_o s a b).1] at ha
    rw [(an_o s a b).2]
    obtain ⟨hx, hy, -⟩ := order_ok hC ha
    obtain ⟨no', h1, lo1, -, -⟩ := ord_facts hC hx hy
    obtain ⟨nm', h2, lo2⟩ := unm_facts (x := a) h1
    exact (lo2 j (by omega) (by omega)).trans (lo1 j (by omega) (by omega))
  · rw [(an_w s a b).1] at ha
    rw [(an_w s a b).2]
    obtain ⟨hlt, -⟩ := gate_ok hC.1.2.2.2.1 h8 ha
    exact t_gate_lo hC.1.2.2.2.1 h8 (by omega) fun w hw => by omega
  · rw [(an_i s a b).2]
    exact upd_n (by omega)
  · rw [(an_p s a b).2]
    exact mins_86 hI _ j hj
  · rw [(an_x s a b).1] at ha
    rw [(an_x s a b).2]
    obtain ⟨k, hk, -, -, -, e⟩ := cancel_ok hC ha
    rw [e]
    exact t_dO_n ho8 (by omega) (by omega)
theorem v_do {M : St} {Q : Int32 → St → Prop} {l a b : Int32} (h5 : ¬ M 5 0 = 0) (hI : Iv 50000 (M 0)) (hl : v_l l)
    (he : an_s (M 0) l a b < 0 → Q (rs_n (an_s (M 0) l a b)) M) (hok : ¬ an_s (M 0) l a b < 0 → Q 0 (uA M 0 (nx_t (M 0) l a b))) : doR l a b M (fun r u => q_X6_asReason r (fun r2 => Q r2 u)) := by
  obtain ⟨n, no, nm, hC, ho⟩ := id hI
  have hp := num_pos hC.2.2.2.2.1
  have hch := chg_run h5
  have e0 : ∀ r : Int32, ¬ r < 0 → ∀ u f, u = M → Q 0 (uA M 0 f) → q_X6_asReason r (fun r2 => Q r2 (uA u 0 f)) := fun r hr u f hu h => v_reason (by rw [rsn_0 hr, hu]; exact h)
  refine ⟨fun e => ?_, fun e => ?_, fun e => ?_, fun e => ?_, fun e => ?_⟩
  · subst e
    rw [(an_o (M 0) a b).1] at he hok
    rw [(an_o (M 0) a b).2] at hok
    exact v_order hch hC (fun h => v_reason (he h)) (fun h u _ hu => e0 _ h u _ hu (hok h))
  · subst e
    rw [(an_w (M 0) a b).1] at he hok
    rw [(an_w (M 0) a b).2] at hok
    exact v_gate hch hC.1.2.2.2.1 hC.1.1 (fun h => v_reason (he h)) (fun h u _ hu => e0 _ h u _ hu (hok h))
  · subst e
    rw [(an_i (M 0) a b).1] at he hok
    rw [(an_i (M 0) a b).2] at hok
    exact v_inflow hch hp.2.2 (fun h => v_reason (he h)) (fun h u _ hu => e0 _ h u _ hu (hok h))
  · subst e
    rw [(an_p (M 0) a b).1] at he hok
    rw [(an_p (M 0) a b).2] at hok
    refine v_pass hch hI (fun h => v_reason (he h)) (fun h u _ hu => ?_)
    obtain ⟨⟨k, hk, ek⟩, h12, -⟩ := ref_ok h
    have ex : a.toNatClampNeg = k := by rw [ek]; exact nI_c _ (by omega)
    rw [ex] at hok ⊢
    obtain ⟨w, hw, ew⟩ := iv_water (iv_pass hI ek hk h12)
    exact e0 _ (by rw [ew]; exact nI_pos (by omega)) u _ hu (hok h)
  · subst e
    rw [(an_x (M 0) a b).1] at he hok
    rw [(an_x (M 0) a b).2] at hok
    exact v_cancel hch hC (fun h => v_reason (he h)) (fun h u _ hu => e0 _ h u _ hu (hok h))
theorem prs_vl {τ : Rw} {t p p' : Nat} {a b : Int32} (h : pr_s τ t p = some (p', a, b)) : v_l (τ p) := by
  unfold pr_s at h
  unfold v_l
  by_cases c : τ p = 111 ∨ τ p = 119
  · rcases c with c | c
    · exact Or.inl c
    · exact Or.inr (Or.inl c)
  · rw [if_neg c] at h
    by_cases c2 : τ p = 105 ∨ τ p = 112 ∨ τ p = 120
    · exact Or.inr (Or.inr c2)
    · rw [if_neg c2] at h; cases h
/-- all orders of the text from p on: the reason of a fault, its place, the state then -/
def pl_r (τ : Rw) (t : Nat) : Nat → Nat → Rw → Int32 × Nat × Rw
  | 0, p, s => (0, p, s)
  | f + 1, p, s => if t ≤ p then (0, p, s) else match pr_s τ t p with
    | none => (1, p, s)
    | some (p', a, b) => if an_s s (τ p) a b < 0 then (rs_n (an_s s (τ p) a b), p, s) else pl_r τ t f p' (nx_t s (τ p) a b)
theorem plr_end {τ : Rw} {t p : Nat} {s : Rw} (h : t ≤ p) : ∀ f, pl_r τ t f p s = (0, p, s)
  | 0 => rfl
  | f + 1 => by unfold pl_r; rw [if_pos h]
theorem plr_none {τ : Rw} {t p f : Nat} {s : Rw} (h : p < t) (hn : pr_s τ t p = none) : pl_r τ t (f + 1) p s = (1, p, s) := by
  rw [pl_r, if_neg (Nat.not_le.mpr h), hn]
theorem plr_err {τ : Rw} {t p p' f : Nat} {s : Rw} {a b : Int32} (h : p < t) (hn : pr_s τ t p = some (p', a, b)) (ha : an_s s (τ p) a b < 0) : pl_r τ t (f + 1) p s = (rs_n (an_s s (τ p) a b), p, s) := by
  rw [pl_r, if_neg (Nat.not_le.mpr h), hn]
  exact if_pos ha
theorem plr_ok {τ : Rw} {t p p' f : Nat} {s : Rw} {a b : Int32} (h : p < t) (hn : pr_s τ t p = some (p', a, b)) (ha : ¬ an_s s (τ p) a b < 0) : pl_r τ t (f + 1) p s = pl_r τ t f p' (nx_t s (τ p) a b) := by
  rw [pl_r, if_neg (Nat.not_le.mpr h), hn]
  exact if_neg ha
theorem plr_facts (τ : Rw) (t : Nat) : ∀ f p s, Iv 50000 s → Iv 50000 (pl_r τ t f p s).2.2 ∧ (∀ j, 86 ≤ j → (pl_r τ t f p s).2.2 j = s j) ∧ (¬ (pl_r τ t f p s).1 = 0 → (pl_r τ t f p s).2.1 < t)
  | 0, p, s, hI => ⟨hI, fun _ _ => rfl, fun q => absurd rfl q⟩
  | f + 1, p, s, hI => by
    rcases Nat.lt_or_ge p t with h | h
    · cases hn : pr_s τ t p with
      | none => rw [plr_none h hn]; exact ⟨hI, fun _ _ => rfl, fun _ => h⟩
      | some q =>
        obtain ⟨p', a, b⟩ := q
        by_cases ha : an_s s (τ p) a b < 0
        · rw [plr_err h hn ha]; exact ⟨hI, fun _ _ => rfl, fun _ => h⟩
        · rw [plr_ok h hn ha]
          obtain ⟨h1, h2, h3⟩ := plr_facts τ t f p' (nx_t s (τ p) a b) (iv_nxt hI (prs_vl hn) ha)
          exact ⟨h1, fun j hj => (h2 j hj).trans (nxt_86 hI (prs_vl hn) ha hj), h3⟩
    · rw [plr_end h]; exact ⟨hI, fun _ _ => rfl, fun q => absurd rfl q⟩
