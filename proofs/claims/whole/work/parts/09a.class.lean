def q_X5_kept (x : Int32) (X : (Nat → St)) (Q : Int32 → (Nat → St) → Prop) : Prop :=
  q_X5_isError x (fun r_1 => (r_1 = 0 → q_X2_keepPrepared X (fun u_3 => Q x u_3)) ∧ (¬ (r_1 = 0) → Q x X))
set_option maxHeartbeats 4000000 in
set_option maxRecDepth 100000 in
theorem c_X5_kept (l : Launch) (G : va_G) (cI cC cD : ClassId) (ad : Nat → Nat → Nat) (rf : Nat → Option Nat) (hrf : rfOk ad rf) (sz : Nat) (X : (Nat → St)) (x : Int32) (Q : Int32 → (Nat → St) → Prop) (h : q_X5_kept x X Q) : Met l yX5_kept wsX5_kept ({ frames := 1, cells := 0, slots := 0, locals := 22 }) (va_Pc [.ref (ad 0 0), .int x] (PW G (ty3 cI cC cD) (wA cI cC cD ad X rf) sz)) (va_Qi (fun (r : Int32) (u : (Nat → St) × (Nat → Nat → Nat) × (Nat → Option Nat)) => Q r u.1 ∧ aOk ad u.2.1 u.2.2) (BW G (fun u : (Nat → St) × (Nat → Nat → Nat) × (Nat → Option Nat) => (wA cI cC cD u.2.1 u.1 u.2.2)) (va_A (wA cI cC cD ad X rf) sz)) (va_A (wA cI cC cD ad X rf) sz)) 0 0 (va_A (wA cI cC cD ad X rf) sz) := by
  refine Met.ofW (cc := cX5_kept) (maxL := 2) (ret := (some .int)) (by decide) rfl ?_
  intro p e s m args below meth c s₁ B hml hv
  obtain ⟨rfl, hsz, hP, hK, hD0, hN⟩ := hv
  have hx := B.exec
  have hb := B.bytes
  have hr := B.returns
  have hts := atoms_spec (ws := wsX5_kept) B.pre
  have hown : s.vm.findClass RX5 = some m.cls := findClass_of_methodNamed B.named
  have hlocks := B.notSynchronized
  subst hsz
  have hD := hD0.self (sz := s.heap.size)
  generalize hAe : va_A (wA cI cC cD ad X rf) s.heap.size = A at hD ⊢
  have hA : ∀ q : Nat, s.heap.size ≤ q → A q := fun q h => by rw [← hAe]; exact Or.inr h
  have hS : va_S A s.heap s.heap [] := va_S.rf
  have hl := lv_entry ([.ref (ad 0 0), .int x]) (n := 2) (Nat.le_of_ble_eq_true rfl)
  rw [lg_entry_eq]
  generalize (lg_sl ([.ref (ad 0 0), .int x]) ++ List.replicate (2 - (lg_sl ([.ref (ad 0 0), .int x])).length) Slot.unset).toArray = ls at hl ⊢
  have hl : lv_has ls 2 [(0, .ref (ad 0 0)), (1, .int x)] := hl
  have hinX5 : ∀ w ∈ wsX50, w ∈ wsX5_kept := by decide +kernel
  have hL22 := hts (.fieldLink RX5 22 "CraneGates" "history" "LCraneGates$History;") (by decide +kernel)
  unfold q_X5_kept at h
  refine lv_iload_n hx hb dX5_kept_0 rfl (lv_at hl 1 rfl) ?_
  refine ks_i (As := [.int x]) (rest := []) (wg := (fun _ => (wA cI cC cD ad X rf))) ⟨hx, hb, hml, hown, hts⟩ (c_X5_isError l G cI cC cD  _  x _ h) (va_cwS 1 hts gX5_kept_X5_isError rfl rfl rfl (by decide +kernel) ⟨Nat.le_of_ble_eq_true rfl, Nat.le_of_ble_eq_true rfl⟩) hK hN hP hD hS hA (em_0 _) (fun _ => rp_self (em_0 _)) rfl hl.1 rfl (Nat.le_of_ble_eq_true rfl) dX5_kept_1 ⟨Nat.zero_le _, Nat.zero_le _⟩ (fun r_1 _ H locs h hP hD hS => ?_)
  refine lv_if_ne (tgt := 14) hx hb dX5_kept_4 (by decide) (fun c_2 => ?_) (fun c_2 => ?_)
  · have h := h.2 c_2
    refine lv_iload_n hx hb dX5_kept_14 rfl (lv_at hl 1 rfl) ?_
    exact W.iret (v := x) hx hb hr (fun t ht hW => ⟨⟨x, (X, ad, rf), rfl, ⟨h, ⟨rfl, rfl, rfl, hrf⟩⟩, by rw [ht]; exact hP, hD⟩, hS.F ht⟩) hS.2.2 dX5_kept_15
  · have h := h.1 c_2
    refine lv_aload_n hx hb dX5_kept_7 rfl (lv_at hl 0 rfl) ?_
    refine va_get (D := G) (ci := 5) (v := .ref (ad 0 1)) (C := RX5) (T := TX5) (N := 4) hx hb hts hinX5 hown hK hP 0 rfl rfl 2 (by decide) hL22 (fun _ h9 => h9) rfl dX5_kept_8 ?_
    refine kw_v (k0 := 1) (As := []) (rest := []) ⟨hx, hb, hml, hown, hts⟩ (c_X2_keepPrepared l G cI cC cD ad rf hrf _ X  _ h) (cwV 0 hts gX5_kept_X2_keepPrepared rfl rfl rfl (by decide +kernel) ⟨Nat.le_of_ble_eq_true rfl, Nat.le_of_ble_eq_true rfl⟩) hK hN hP hD hS hA rfl rfl rfl rfl hl.1 rfl (Nat.le_of_ble_eq_true rfl) dX5_kept_11 ⟨Nat.zero_le _, Nat.zero_le _⟩ (fun u_3 H locs h hP hD hS => ?_)
    obtain ⟨u_3, ad_u_3, rf_u_3⟩ := u_3
    obtain ⟨h, hu_4⟩ := h
    refine lv_iload_n hx hb dX5_kept_14 rfl (lv_at hl 1 rfl) ?_
    exact W.iret (v := x) hx hb hr (fun t ht hW => ⟨⟨x, (u_3, ad_u_3, rf_u_3), rfl, ⟨h, hu_4⟩, by rw [ht]; exact hP, hD⟩, hS.F ht⟩) hS.2.2 dX5_kept_15
def q_X5_gate (x : Int32) (y : Int32) (X : (Nat → St)) (Q : Int32 → (Nat → St) → Prop) : Prop :=
  q_X2_prepare X (fun u_1 => q_X0_addGate x y (u_1 1) (fun r_2 u_3 => q_X5_kept r_2 (uX u_1 1 u_3) (fun r_4 u_5 => Q r_4 u_5)))
set_option maxHeartbeats 4000000 in
set_option maxRecDepth 100000 in
theorem c_X5_gate (l : Launch) (G : va_G) (cI cC cD : ClassId) (ad : Nat → Nat → Nat) (rf : Nat → Option Nat) (hrf : rfOk ad rf) (sz : Nat) (X : (Nat → St)) (x : Int32) (y : Int32) (Q : Int32 → (Nat → St) → Prop) (h : q_X5_gate x y X Q) : Met l yX5_gate wsX5_gate ({ frames := 4, cells := 0, slots := 0, locals := 104 }) (va_Pc [.ref (ad 0 0), .int x, .int y] (PW G (ty3 cI cC cD) (wA cI cC cD ad X rf) sz)) (va_Qi (fun (r : Int32) (u : (Nat → St) × (Nat → Nat → Nat) × (Nat → Option Nat)) => Q r u.1 ∧ aOk ad u.2.1 u.2.2) (BW G (fun u : (Nat → St) × (Nat → Nat → Nat) × (Nat → Option Nat) => (wA cI cC cD u.2.1 u.1 u.2.2)) (va_A (wA cI cC cD ad X rf) sz)) (va_A (wA cI cC cD ad X rf) sz)) 0 0 (va_A (wA cI cC cD ad X rf) sz) := by
  refine Met.ofW (cc := cX5_gate) (maxL := 3) (ret := (some .int)) (by decide) rfl ?_
  intro p e s m args below meth c s₁ B hml hv
  obtain ⟨rfl, hsz, hP, hK, hD0, hN⟩ := hv
  have hx := B.exec
  have hb := B.bytes
  have hr := B.returns
  have hts := atoms_spec (ws := wsX5_gate) B.pre
  have hown : s.vm.findClass RX5 = some m.cls := findClass_of_methodNamed B.named
  have hlocks := B.notSynchronized
  subst hsz
  have hD := hD0.self (sz := s.heap.size)
  generalize hAe : va_A (wA cI cC cD ad X rf) s.heap.size = A at hD ⊢
  have hA : ∀ q : Nat, s.heap.size ≤ q → A q := fun q h => by rw [← hAe]; exact Or.inr h
  have hS : va_S A s.heap s.heap [] := va_S.rf
  have hl := lv_entry ([.ref (ad 0 0), .int x, .int y]) (n := 3) (Nat.le_of_ble_eq_true rfl)
  rw [lg_entry_eq]
  generalize (lg_sl ([.ref (ad 0 0), .int x, .int y]) ++ List.replicate (3 - (lg_sl ([.ref (ad 0 0), .int x, .int y])).length) Slot.unset).toArray = ls at hl ⊢
  have hl : lv_has ls 3 [(0, .ref (ad 0 0)), (1, .int x), (2, .int y)] := hl
  have hinX5 : ∀ w ∈ wsX50, w ∈ wsX5_gate := by decide +kernel
  have hL10 := hts (.fieldLink RX5 10 "CraneGates" "dam" "LCraneGates$Dam;") (by decide +kernel)
  have hL22 := hts (.fieldLink RX5 22 "CraneGates" "history" "LCraneGates$History;") (by decide +kernel)
  unfold q_X5_gate at h
  refine lv_aload_n hx hb dX5_gate_0 rfl (lv_at hl 0 rfl) ?_
  refine va_get (D := G) (ci := 5) (v := .ref (ad 0 1)) (C := RX5) (T := TX5) (N := 4) hx hb hts hinX5 hown hK hP 0 rfl rfl 2 (by decide) hL22 (fun _ h9 => h9) rfl dX5_gate_1 ?_
  refine lv_aload_n hx hb dX5_gate_4 rfl (lv_at hl 0 rfl) ?_
  refine va_get (D := G) (ci := 5) (v := .ref (ad 1 0)) (C := RX5) (T := TX5) (N := 4) hx hb hts hinX5 hown hK hP 0 rfl rfl 0 (by decide) hL10 (fun _ h9 => h9) rfl dX5_gate_5 ?_
  refine kw_v (k0 := 1) (As := [.ref (ad 1 0)]) (rest := []) ⟨hx, hb, hml, hown, hts⟩ (c_X2_prepare l G cI cC cD ad rf hrf _ X  _ h) (cwV 1 hts gX5_gate_X2_prepare rfl rfl rfl (by decide +kernel) ⟨Nat.le_of_ble_eq_true rfl, Nat.le_of_ble_eq_true rfl⟩) hK hN hP hD hS hA rfl rfl rfl rfl hl.1 rfl (Nat.le_of_ble_eq_true rfl) dX5_gate_8 ⟨Nat.zero_le _, Nat.zero_le _⟩ (fun u_1 H locs h hP hD hS => ?_)
  refine lv_aload_n hx hb dX5_gate_11 rfl (lv_at hl 0 rfl) ?_
  refine lv_aload_n hx hb dX5_gate_12 rfl (lv_at hl 0 rfl) ?_
  refine va_get (D := G) (ci := 5) (v := .ref (ad 1 0)) (C := RX5) (T := TX5) (N := 4) hx hb hts hinX5 hown hK hP 0 rfl rfl 0 (by decide) hL10 (fun _ h9 => h9) rfl dX5_gate_13 ?_
  refine lv_iload_n hx hb dX5_gate_16 rfl (lv_at hl 1 rfl) ?_
  refine lv_iload_n hx hb dX5_gate_17 rfl (lv_at hl 2 rfl) ?_
  refine kc_i (As := [.int x, .int y]) (rest := [.ref (ad 0 0)]) (wg := (fun u => (wA cI cC cD ad (uX u_1 1 u) rf))) ⟨hx, hb, hml, hown, hts⟩ (c_X0_addGate l G cI cC cD (ad 1) _ (u_1 1) x y _ h) (cwV 2 hts gX5_gate_X0_addGate rfl rfl rfl (by decide +kernel) ⟨Nat.le_of_ble_eq_true rfl, Nat.le_of_ble_eq_true rfl⟩) hK hN hP hD hS hA (em_A_1 cI cC cD ad u_1 rf) (fun u => rp_A_1 cI cC cD ad u_1 rf u) rfl rfl rfl rfl hl.1 rfl (Nat.le_of_ble_eq_true rfl) dX5_gate_18 ⟨Nat.zero_le _, Nat.zero_le _⟩ (fun r_2 u_3 H locs h hP hD hS => ?_)
  refine kw_i (k0 := 0) (As := [.int r_2]) (rest := []) ⟨hx, hb, hml, hown, hts⟩ (c_X5_kept l G cI cC cD ad rf hrf _ (uX u_1 1 u_3) r_2 _ h) (cwV 1 hts gX5_gate_X5_kept rfl rfl rfl (by decide +kernel) ⟨Nat.le_of_ble_eq_true rfl, Nat.le_of_ble_eq_true rfl⟩) hK hN hP hD hS hA rfl rfl rfl rfl hl.1 rfl (Nat.le_of_ble_eq_true rfl) dX5_gate_21 ⟨Nat.zero_le _, Nat.zero_le _⟩ (fun r_4 u_5 H locs h hP hD hS => ?_)
  obtain ⟨u_5, ad_u_5, rf_u_5⟩ := u_5
  obtain ⟨h, hu_6⟩ := h
  exact W.iret (v := r_4) hx hb hr (fun t ht hW => ⟨⟨r_4, (u_5, ad_u_5, rf_u_5), rfl, ⟨h, hu_6⟩, by rw [ht]; exact hP, hD⟩, hS.F ht⟩) hS.2.2 dX5_gate_24
def q_X5_order (x : Int32) (y : Int32) (X : (Nat → St)) (Q : Int32 → (Nat → St) → Prop) : Prop :=
  q_X2_prepare X (fun u_1 => q_X0_giveOrder x y (u_1 1) (fun r_2 u_3 => q_X5_kept r_2 (uX u_1 1 u_3) (fun r_4 u_5 => Q r_4 u_5)))
set_option maxHeartbeats 4000000 in
set_option maxRecDepth 100000 in
theorem c_X5_order (l : Launch) (G : va_G) (cI cC cD : ClassId) (ad : Nat → Nat → Nat) (rf : Nat → Option Nat) (hrf : rfOk ad rf) (sz : Nat) (X : (Nat → St)) (x : Int32) (y : Int32) (Q : Int32 → (Nat → St) → Prop) (h : q_X5_order x y X Q) : Met l yX5_order wsX5_order ({ frames := 4, cells := 0, slots := 0, locals := 104 }) (va_Pc [.ref (ad 0 0), .int x, .int y] (PW G (ty3 cI cC cD) (wA cI cC cD ad X rf) sz)) (va_Qi (fun (r : Int32) (u : (Nat → St) × (Nat → Nat → Nat) × (Nat → Option Nat)) => Q r u.1 ∧ aOk ad u.2.1 u.2.2) (BW G (fun u : (Nat → St) × (Nat → Nat → Nat) × (Nat → Option Nat) => (wA cI cC cD u.2.1 u.1 u.2.2)) (va_A (wA cI cC cD ad X rf) sz)) (va_A (wA cI cC cD ad X rf) sz)) 0 0 (va_A (wA cI cC cD ad X rf) sz) := by
  refine Met.ofW (cc := cX5_order) (maxL := 3) (ret := (some .int)) (by decide) rfl ?_
  intro p e s m args below meth c s₁ B hml hv
  obtain ⟨rfl, hsz, hP, hK, hD0, hN⟩ := hv
  have hx := B.exec
  have hb := B.bytes
  have hr := B.returns
  have hts := atoms_spec (ws := wsX5_order) B.pre
  have hown : s.vm.findClass RX5 = some m.cls := findClass_of_methodNamed B.named
  have hlocks := B.notSynchronized
  subst hsz
  have hD := hD0.self (sz := s.heap.size)
  generalize hAe : va_A (wA cI cC cD ad X rf) s.heap.size = A at hD ⊢
  have hA : ∀ q : Nat, s.heap.size ≤ q → A q := fun q h => by rw [← hAe]; exact Or.inr h
  have hS : va_S A s.heap s.heap [] := va_S.rf
  have hl := lv_entry ([.ref (ad 0 0), .int x, .int y]) (n := 3) (Nat.le_of_ble_eq_true rfl)
  rw [lg_entry_eq]
  generalize (lg_sl ([.ref (ad 0 0), .int x, .int y]) ++ List.replicate (3 - (lg_sl ([.ref (ad 0 0), .int x, .int y])).length) Slot.unset).toArray = ls at hl ⊢
  have hl : lv_has ls 3 [(0, .ref (ad 0 0)), (1, .int x), (2, .int y)] := hl
  have hinX5 : ∀ w ∈ wsX50, w ∈ wsX5_order := by decide +kernel
  have hL10 := hts (.fieldLink RX5 10 "CraneGates" "dam" "LCraneGates$Dam;") (by decide +kernel)
  have hL22 := hts (.fieldLink RX5 22 "CraneGates" "history" "LCraneGates$History;") (by decide +kernel)
  unfold q_X5_order at h
  refine lv_aload_n hx hb dX5_order_0 rfl (lv_at hl 0 rfl) ?_
  refine va_get (D := G) (ci := 5) (v := .ref (ad 0 1)) (C := RX5) (T := TX5) (N := 4) hx hb hts hinX5 hown hK hP 0 rfl rfl 2 (by decide) hL22 (fun _ h9 => h9) rfl dX5_order_1 ?_
  refine lv_aload_n hx hb dX5_order_4 rfl (lv_at hl 0 rfl) ?_
  refine va_get (D := G) (ci := 5) (v := .ref (ad 1 0)) (C := RX5) (T := TX5) (N := 4) hx hb hts hinX5 hown hK hP 0 rfl rfl 0 (by decide) hL10 (fun _ h9 => h9) rfl dX5_order_5 ?_
  refine kw_v (k0 := 1) (As := [.ref (ad 1 0)]) (rest := []) ⟨hx, hb, hml, hown, hts⟩ (c_X2_prepare l G cI cC cD ad rf hrf _ X  _ h) (cwV 1 hts gX5_order_X2_prepare rfl rfl rfl (by decide +kernel) ⟨Nat.le_of_ble_eq_true rfl, Nat.le_of_ble_eq_true rfl⟩) hK hN hP hD hS hA rfl rfl rfl rfl hl.1 rfl (Nat.le_of_ble_eq_true rfl) dX5_order_8 ⟨Nat.zero_le _, Nat.zero_le _⟩ (fun u_1 H locs h hP hD hS => ?_)
  refine lv_aload_n hx hb dX5_order_11 rfl (lv_at hl 0 rfl) ?_
  refine lv_aload_n hx hb dX5_order_12 rfl (lv_at hl 0 rfl) ?_
  refine va_get (D := G) (ci := 5) (v := .ref (ad 1 0)) (C := RX5) (T := TX5) (N := 4) hx hb hts hinX5 hown hK hP 0 rfl rfl 0 (by decide) hL10 (fun _ h9 => h9) rfl dX5_order_13 ?_
  refine lv_iload_n hx hb dX5_order_16 rfl (lv_at hl 1 rfl) ?_
  refine lv_iload_n hx hb dX5_order_17 rfl (lv_at hl 2 rfl) ?_
  refine kc_i (As := [.int x, .int y]) (rest := [.ref (ad 0 0)]) (wg := (fun u => (wA cI cC cD ad (uX u_1 1 u) rf))) ⟨hx, hb, hml, hown, hts⟩ (c_X0_giveOrder l G cI cC cD (ad 1) _ (u_1 1) x y _ h) (cwV 2 hts gX5_order_X0_giveOrder rfl rfl rfl (by decide +kernel) ⟨Nat.le_of_ble_eq_true rfl, Nat.le_of_ble_eq_true rfl⟩) hK hN hP hD hS hA (em_A_1 cI cC cD ad u_1 rf) (fun u => rp_A_1 cI cC cD ad u_1 rf u) rfl rfl rfl rfl hl.1 rfl (Nat.le_of_ble_eq_true rfl) dX5_order_18 ⟨Nat.zero_le _, Nat.zero_le _⟩ (fun r_2 u_3 H locs h hP hD hS => ?_)
  refine kw_i (k0 := 0) (As := [.int r_2]) (rest := []) ⟨hx, hb, hml, hown, hts⟩ (c_X5_kept l G cI cC cD ad rf hrf _ (uX u_1 1 u_3) r_2 _ h) (cwV 1 hts gX5_order_X5_kept rfl rfl rfl (by decide +kernel) ⟨Nat.le_of_ble_eq_true rfl, Nat.le_of_ble_eq_true rfl⟩) hK hN hP hD hS hA rfl rfl rfl rfl hl.1 rfl (Nat.le_of_ble_eq_true rfl) dX5_order_21 ⟨Nat.zero_le _, Nat.zero_le _⟩ (fun r_4 u_5 H locs h hP hD hS => ?_)
  obtain ⟨u_5, ad_u_5, rf_u_5⟩ := u_5
  obtain ⟨h, hu_6⟩ := h
  exact W.iret (v := r_4) hx hb hr (fun t ht hW => ⟨⟨r_4, (u_5, ad_u_5, rf_u_5), rfl, ⟨h, hu_6⟩, by rw [ht]; exact hP, hD⟩, hS.F ht⟩) hS.2.2 dX5_order_24
def q_X5_cancel (x : Int32) (X : (Nat → St)) (Q : Int32 → (Nat → St) → Prop) : Prop :=
  q_X2_prepare X (fun u_1 => q_X0_cancelOrder x (u_1 1) (fun r_2 u_3 => q_X5_kept r_2 (uX u_1 1 u_3) (fun r_4 u_5 => Q r_4 u_5)))
set_option maxHeartbeats 4000000 in
set_option maxRecDepth 100000 in
theorem c_X5_cancel (l : Launch) (G : va_G) (cI cC cD : ClassId) (ad : Nat → Nat → Nat) (rf : Nat → Option Nat) (hrf : rfOk ad rf) (sz : Nat) (X : (Nat → St)) (x : Int32) (Q : Int32 → (Nat → St) → Prop) (h : q_X5_cancel x X Q) : Met l yX5_cancel wsX5_cancel ({ frames := 4, cells := 0, slots := 0, locals := 104 }) (va_Pc [.ref (ad 0 0), .int x] (PW G (ty3 cI cC cD) (wA cI cC cD ad X rf) sz)) (va_Qi (fun (r : Int32) (u : (Nat → St) × (Nat → Nat → Nat) × (Nat → Option Nat)) => Q r u.1 ∧ aOk ad u.2.1 u.2.2) (BW G (fun u : (Nat → St) × (Nat → Nat → Nat) × (Nat → Option Nat) => (wA cI cC cD u.2.1 u.1 u.2.2)) (va_A (wA cI cC cD ad X rf) sz)) (va_A (wA cI cC cD ad X rf) sz)) 0 0 (va_A (wA cI cC cD ad X rf) sz) := by
  refine Met.ofW (cc := cX5_cancel) (maxL := 2) (ret := (some .int)) (by decide) rfl ?_
  intro p e s m args below meth c s₁ B hml hv
  obtain ⟨rfl, hsz, hP, hK, hD0, hN⟩ := hv
  have hx := B.exec
  have hb := B.bytes
  have hr := B.returns
  have hts := atoms_spec (ws := wsX5_cancel) B.pre
  have hown : s.vm.findClass RX5 = some m.cls := findClass_of_methodNamed B.named
  have hlocks := B.notSynchronized
  subst hsz
  have hD := hD0.self (sz := s.heap.size)
  generalize hAe : va_A (wA cI cC cD ad X rf) s.heap.size = A at hD ⊢
  have hA : ∀ q : Nat, s.heap.size ≤ q → A q := fun q h => by rw [← hAe]; exact Or.inr h
  have hS : va_S A s.heap s.heap [] := va_S.rf
  have hl := lv_entry ([.ref (ad 0 0), .int x]) (n := 2) (Nat.le_of_ble_eq_true rfl)
  rw [lg_entry_eq]
  generalize (lg_sl ([.ref (ad 0 0), .int x]) ++ List.replicate (2 - (lg_sl ([.ref (ad 0 0), .int x])).length) Slot.unset).toArray = ls at hl ⊢
  have hl : lv_has ls 2 [(0, .ref (ad 0 0)), (1, .int x)] := hl
  have hinX5 : ∀ w ∈ wsX50, w ∈ wsX5_cancel := by decide +kernel
  have hL10 := hts (.fieldLink RX5 10 "CraneGates" "dam" "LCraneGates$Dam;") (by decide +kernel)
  have hL22 := hts (.fieldLink RX5 22 "CraneGates" "history" "LCraneGates$History;") (by decide +kernel)
  unfold q_X5_cancel at h
  refine lv_aload_n hx hb dX5_cancel_0 rfl (lv_at hl 0 rfl) ?_
  refine va_get (D := G) (ci := 5) (v := .ref (ad 0 1)) (C := RX5) (T := TX5) (N := 4) hx hb hts hinX5 hown hK hP 0 rfl rfl 2 (by decide) hL22 (fun _ h9 => h9) rfl dX5_cancel_1 ?_
  refine lv_aload_n hx hb dX5_cancel_4 rfl (lv_at hl 0 rfl) ?_
  refine va_get (D := G) (ci := 5) (v := .ref (ad 1 0)) (C := RX5) (T := TX5) (N := 4) hx hb hts hinX5 hown hK hP 0 rfl rfl 0 (by decide) hL10 (fun _ h9 => h9) rfl dX5_cancel_5 ?_
  refine kw_v (k0 := 1) (As := [.ref (ad 1 0)]) (rest := []) ⟨hx, hb, hml, hown, hts⟩ (c_X2_prepare l G cI cC cD ad rf hrf _ X  _ h) (cwV 1 hts gX5_cancel_X2_prepare rfl rfl rfl (by decide +kernel) ⟨Nat.le_of_ble_eq_true rfl, Nat.le_of_ble_eq_true rfl⟩) hK hN hP hD hS hA rfl rfl rfl rfl hl.1 rfl (Nat.le_of_ble_eq_true rfl) dX5_cancel_8 ⟨Nat.zero_le _, Nat.zero_le _⟩ (fun u_1 H locs h hP hD hS => ?_)
  refine lv_aload_n hx hb dX5_cancel_11 rfl (lv_at hl 0 rfl) ?_
  refine lv_aload_n hx hb dX5_cancel_12 rfl (lv_at hl 0 rfl) ?_
  refine va_get (D := G) (ci := 5) (v := .ref (ad 1 0)) (C := RX5) (T := TX5) (N := 4) hx hb hts hinX5 hown hK hP 0 rfl rfl 0 (by decide) hL10 (fun _ h9 => h9) rfl dX5_cancel_13 ?_
  refine lv_iload_n hx hb dX5_cancel_16 rfl (lv_at hl 1 rfl) ?_
  refine kc_i (As := [.int x]) (rest := [.ref (ad 0 0)]) (wg := (fun u => (wA cI cC cD ad (uX u_1 1 u) rf))) ⟨hx, hb, hml, hown, hts⟩ (c_X0_cancelOrder l G cI cC cD (ad 1) _ (u_1 1) x _ h) (cwV 1 hts gX5_cancel_X0_cancelOrder rfl rfl rfl (by decide +kernel) ⟨Nat.le_of_ble_eq_true rfl, Nat.le_of_ble_eq_true rfl⟩) hK hN hP hD hS hA (em_A_1 cI cC cD ad u_1 rf) (fun u => rp_A_1 cI cC cD ad u_1 rf u) rfl rfl rfl rfl hl.1 rfl (Nat.le_of_ble_eq_true rfl) dX5_cancel_17 ⟨Nat.zero_le _, Nat.zero_le _⟩ (fun r_2 u_3 H locs h hP hD hS => ?_)
  refine kw_i (k0 := 0) (As := [.int r_2]) (rest := []) ⟨hx, hb, hml, hown, hts⟩ (c_X5_kept l G cI cC cD ad rf hrf _ (uX u_1 1 u_3) r_2 _ h) (cwV 1 hts gX5_cancel_X5_kept rfl rfl rfl (by decide +kernel) ⟨Nat.le_of_ble_eq_true rfl, Nat.le_of_ble_eq_true rfl⟩) hK hN hP hD hS hA rfl rfl rfl rfl hl.1 rfl (Nat.le_of_ble_eq_true rfl) dX5_cancel_20 ⟨Nat.zero_le _, Nat.zero_le _⟩ (fun r_4 u_5 H locs h hP hD hS => ?_)
  obtain ⟨u_5, ad_u_5, rf_u_5⟩ := u_5
  obtain ⟨h, hu_6⟩ := h
  exact W.iret (v := r_4) hx hb hr (fun t ht hW => ⟨⟨r_4, (u_5, ad_u_5, rf_u_5), rfl, ⟨h, hu_6⟩, by rw [ht]; exact hP, hD⟩, hS.F ht⟩) hS.2.2 dX5_cancel_23
def q_X5_inflow (x : Int32) (X : (Nat → St)) (Q : Int32 → (Nat → St) → Prop) : Prop :=
  q_X2_prepare X (fun u_1 => q_X0_changeInflow x (u_1 1) (fun r_2 u_3 => q_X5_kept r_2 (uX u_1 1 u_3) (fun r_4 u_5 => Q r_4 u_5)))
set_option maxHeartbeats 4000000 in
set_option maxRecDepth 100000 in
theorem c_X5_inflow (l : Launch) (G : va_G) (cI cC cD : ClassId) (ad : Nat → Nat → Nat) (rf : Nat → Option Nat) (hrf : rfOk ad rf) (sz : Nat) (X : (Nat → St)) (x : Int32) (Q : Int32 → (Nat → St) → Prop) (h : q_X5_inflow x X Q) : Met l yX5_inflow wsX5_inflow ({ frames := 4, cells := 0, slots := 0, locals := 104 }) (va_Pc [.ref (ad 0 0), .int x] (PW G (ty3 cI cC cD) (wA cI cC cD ad X rf) sz)) (va_Qi (fun (r : Int32) (u : (Nat → St) × (Nat → Nat → Nat) × (Nat → Option Nat)) => Q r u.1 ∧ aOk ad u.2.1 u.2.2) (BW G (fun u : (Nat → St) × (Nat → Nat → Nat) × (Nat → Option Nat) => (wA cI cC cD u.2.1 u.1 u.2.2)) (va_A (wA cI cC cD ad X rf) sz)) (va_A (wA cI cC cD ad X rf) sz)) 0 0 (va_A (wA cI cC cD ad X rf) sz) := by
  refine Met.ofW (cc := cX5_inflow) (maxL := 2) (ret := (some .int)) (by decide) rfl ?_
  intro p e s m args below meth c s₁ B hml hv
  obtain ⟨rfl, hsz, hP, hK, hD0, hN⟩ := hv
  have hx := B.exec
  have hb := B.bytes
  have hr := B.returns
  have hts := atoms_spec (ws := wsX5_inflow) B.pre
  have hown : s.vm.findClass RX5 = some m.cls := findClass_of_methodNamed B.named
  have hlocks := B.notSynchronized
  subst hsz
  have hD := hD0.self (sz := s.heap.size)
  generalize hAe : va_A (wA cI cC cD ad X rf) s.heap.size = A at hD ⊢
  have hA : ∀ q : Nat, s.heap.size ≤ q → A q := fun q h => by rw [← hAe]; exact Or.inr h
  have hS : va_S A s.heap s.heap [] := va_S.rf
  have hl := lv_entry ([.ref (ad 0 0), .int x]) (n := 2) (Nat.le_of_ble_eq_true rfl)
  rw [lg_entry_eq]
  generalize (lg_sl ([.ref (ad 0 0), .int x]) ++ List.replicate (2 - (lg_sl ([.ref (ad 0 0), .int x])).length) Slot.unset).toArray = ls at hl ⊢
  have hl : lv_has ls 2 [(0, .ref (ad 0 0)), (1, .int x)] := hl
  have hinX5 : ∀ w ∈ wsX50, w ∈ wsX5_inflow := by decide +kernel
  have hL10 := hts (.fieldLink RX5 10 "CraneGates" "dam" "LCraneGates$Dam;") (by decide +kernel)
  have hL22 := hts (.fieldLink RX5 22 "CraneGates" "history" "LCraneGates$History;") (by decide +kernel)
  unfold q_X5_inflow at h
  refine lv_aload_n hx hb dX5_inflow_0 rfl (lv_at hl 0 rfl) ?_
  refine va_get (D := G) (ci := 5) (v := .ref (ad 0 1)) (C := RX5) (T := TX5) (N := 4) hx hb hts hinX5 hown hK hP 0 rfl rfl 2 (by decide) hL22 (fun _ h9 => h9) rfl dX5_inflow_1 ?_
  refine lv_aload_n hx hb dX5_inflow_4 rfl (lv_at hl 0 rfl) ?_
  refine va_get (D := G) (ci := 5) (v := .ref (ad 1 0)) (C := RX5) (T := TX5) (N := 4) hx hb hts hinX5 hown hK hP 0 rfl rfl 0 (by decide) hL10 (fun _ h9 => h9) rfl dX5_inflow_5 ?_
  refine kw_v (k0 := 1) (As := [.ref (ad 1 0)]) (rest := []) ⟨hx, hb, hml, hown, hts⟩ (c_X2_prepare l G cI cC cD ad rf hrf _ X  _ h) (cwV 1 hts gX5_inflow_X2_prepare rfl rfl rfl (by decide +kernel) ⟨Nat.le_of_ble_eq_true rfl, Nat.le_of_ble_eq_true rfl⟩) hK hN hP hD hS hA rfl rfl rfl rfl hl.1 rfl (Nat.le_of_ble_eq_true rfl) dX5_inflow_8 ⟨Nat.zero_le _, Nat.zero_le _⟩ (fun u_1 H locs h hP hD hS => ?_)
  refine lv_aload_n hx hb dX5_inflow_11 rfl (lv_at hl 0 rfl) ?_
  refine lv_aload_n hx hb dX5_inflow_12 rfl (lv_at hl 0 rfl) ?_
  refine va_get (D := G) (ci := 5) (v := .ref (ad 1 0)) (C := RX5) (T := TX5) (N := 4) hx hb hts hinX5 hown hK hP 0 rfl rfl 0 (by decide) hL10 (fun _ h9 => h9) rfl dX5_inflow_13 ?_
  refine lv_iload_n hx hb dX5_inflow_16 rfl (lv_at hl 1 rfl) ?_
  refine kc_i (As := [.int x]) (rest := [.ref (ad 0 0)]) (wg := (fun u => (wA cI cC cD ad (uX u_1 1 u) rf))) ⟨hx, hb, hml, hown, hts⟩ (c_X0_changeInflow l G cI cC cD (ad 1) _ (u_1 1) x _ h) (cwV 1 hts gX5_inflow_X0_changeInflow rfl rfl rfl (by decide +kernel) ⟨Nat.le_of_ble_eq_true rfl, Nat.le_of_ble_eq_true rfl⟩) hK hN hP hD hS hA (em_A_1 cI cC cD ad u_1 rf) (fun u => rp_A_1 cI cC cD ad u_1 rf u) rfl rfl rfl rfl hl.1 rfl (Nat.le_of_ble_eq_true rfl) dX5_inflow_17 ⟨Nat.zero_le _, Nat.zero_le _⟩ (fun r_2 u_3 H locs h hP hD hS => ?_)
  refine kw_i (k0 := 0) (As := [.int r_2]) (rest := []) ⟨hx, hb, hml, hown, hts⟩ (c_X5_kept l G cI cC cD ad rf hrf _ (uX u_1 1 u_3) r_2 _ h) (cwV 1 hts gX5_inflow_X5_kept rfl rfl rfl (by decide +kernel) ⟨Nat.le_of_ble_eq_true rfl, Nat.le_of_ble_eq_true rfl⟩) hK hN hP hD hS hA rfl rfl rfl rfl hl.1 rfl (Nat.le_of_ble_eq_true rfl) dX5_inflow_20 ⟨Nat.zero_le _, Nat.zero_le _⟩ (fun r_4 u_5 H locs h hP hD hS => ?_)
  obtain ⟨u_5, ad_u_5, rf_u_5⟩ := u_5
  obtain ⟨h, hu_6⟩ := h
  exact W.iret (v := r_4) hx hb hr (fun t ht hW => ⟨⟨r_4, (u_5, ad_u_5, rf_u_5), rfl, ⟨h, hu_6⟩, by rw [ht]; exact hP, hD⟩, hS.F ht⟩) hS.2.2 dX5_inflow_23
def q_X5_fill (x : Int32) (X : (Nat → St)) (Q : Int32 → (Nat → St) → Prop) : Prop :=
  q_X2_prepare X (fun u_1 => q_X0_changeWater x (u_1 1) (fun r_2 u_3 => q_X5_kept r_2 (uX u_1 1 u_3) (fun r_4 u_5 => Q r_4 u_5)))
set_option maxHeartbeats 4000000 in
set_option maxRecDepth 100000 in
theorem c_X5_fill (l : Launch) (G : va_G) (cI cC cD : ClassId) (ad : Nat → Nat → Nat) (rf : Nat → Option Nat) (hrf : rfOk ad rf) (sz : Nat) (X : (Nat → St)) (x : Int32) (Q : Int32 → (Nat → St) → Prop) (h : q_X5_fill x X Q) : Met l yX5_fill wsX5_fill ({ frames := 4, cells := 0, slots := 0, locals := 104 }) (va_Pc [.ref (ad 0 0), .int x] (PW G (ty3 cI cC cD) (wA cI cC cD ad X rf) sz)) (va_Qi (fun (r : Int32) (u : (Nat → St) × (Nat → Nat → Nat) × (Nat → Option Nat)) => Q r u.1 ∧ aOk ad u.2.1 u.2.2) (BW G (fun u : (Nat → St) × (Nat → Nat → Nat) × (Nat → Option Nat) => (wA cI cC cD u.2.1 u.1 u.2.2)) (va_A (wA cI cC cD ad X rf) sz)) (va_A (wA cI cC cD ad X rf) sz)) 0 0 (va_A (wA cI cC cD ad X rf) sz) := by
  refine Met.ofW (cc := cX5_fill) (maxL := 2) (ret := (some .int)) (by decide) rfl ?_
  intro p e s m args below meth c s₁ B hml hv
  obtain ⟨rfl, hsz, hP, hK, hD0, hN⟩ := hv
  have hx := B.exec
  have hb := B.bytes
  have hr := B.returns
  have hts := atoms_spec (ws := wsX5_fill) B.pre
  have hown : s.vm.findClass RX5 = some m.cls := findClass_of_methodNamed B.named
  have hlocks := B.notSynchronized
  subst hsz
  have hD := hD0.self (sz := s.heap.size)
  generalize hAe : va_A (wA cI cC cD ad X rf) s.heap.size = A at hD ⊢
  have hA : ∀ q : Nat, s.heap.size ≤ q → A q := fun q h => by rw [← hAe]; exact Or.inr h
  have hS : va_S A s.heap s.heap [] := va_S.rf
  have hl := lv_entry ([.ref (ad 0 0), .int x]) (n := 2) (Nat.le_of_ble_eq_true rfl)
  rw [lg_entry_eq]
  generalize (lg_sl ([.ref (ad 0 0), .int x]) ++ List.replicate (2 - (lg_sl ([.ref (ad 0 0), .int x])).length) Slot.unset).toArray = ls at hl ⊢
  have hl : lv_has ls 2 [(0, .ref (ad 0 0)), (1, .int x)] := hl
  have hinX5 : ∀ w ∈ wsX50, w ∈ wsX5_fill := by decide +kernel
  have hL10 := hts (.fieldLink RX5 10 "CraneGates" "dam" "LCraneGates$Dam;") (by decide +kernel)
  have hL22 := hts (.fieldLink RX5 22 "CraneGates" "history" "LCraneGates$History;") (by decide +kernel)
  unfold q_X5_fill at h
  refine lv_aload_n hx hb dX5_fill_0 rfl (lv_at hl 0 rfl) ?_
  refine va_get (D := G) (ci := 5) (v := .ref (ad 0 1)) (C := RX5) (T := TX5) (N := 4) hx hb hts hinX5 hown hK hP 0 rfl rfl 2 (by decide) hL22 (fun _ h9 => h9) rfl dX5_fill_1 ?_
  refine lv_aload_n hx hb dX5_fill_4 rfl (lv_at hl 0 rfl) ?_
  refine va_get (D := G) (ci := 5) (v := .ref (ad 1 0)) (C := RX5) (T := TX5) (N := 4) hx hb hts hinX5 hown hK hP 0 rfl rfl 0 (by decide) hL10 (fun _ h9 => h9) rfl dX5_fill_5 ?_
  refine kw_v (k0 := 1) (As := [.ref (ad 1 0)]) (rest := []) ⟨hx, hb, hml, hown, hts⟩ (c_X2_prepare l G cI cC cD ad rf hrf _ X  _ h) (cwV 1 hts gX5_fill_X2_prepare rfl rfl rfl (by decide +kernel) ⟨Nat.le_of_ble_eq_true rfl, Nat.le_of_ble_eq_true rfl⟩) hK hN hP hD hS hA rfl rfl rfl rfl hl.1 rfl (Nat.le_of_ble_eq_true rfl) dX5_fill_8 ⟨Nat.zero_le _, Nat.zero_le _⟩ (fun u_1 H locs h hP hD hS => ?_)
  refine lv_aload_n hx hb dX5_fill_11 rfl (lv_at hl 0 rfl) ?_
  refine lv_aload_n hx hb dX5_fill_12 rfl (lv_at hl 0 rfl) ?_
  refine va_get (D := G) (ci := 5) (v := .ref (ad 1 0)) (C := RX5) (T := TX5) (N := 4) hx hb hts hinX5 hown hK hP 0 rfl rfl 0 (by decide) hL10 (fun _ h9 => h9) rfl dX5_fill_13 ?_
  refine lv_iload_n hx hb dX5_fill_16 rfl (lv_at hl 1 rfl) ?_
  refine kc_i (As := [.int x]) (rest := [.ref (ad 0 0)]) (wg := (fun u => (wA cI cC cD ad (uX u_1 1 u) rf))) ⟨hx, hb, hml, hown, hts⟩ (c_X0_changeWater l G cI cC cD (ad 1) _ (u_1 1) x _ h) (cwV 1 hts gX5_fill_X0_changeWater rfl rfl rfl (by decide +kernel) ⟨Nat.le_of_ble_eq_true rfl, Nat.le_of_ble_eq_true rfl⟩) hK hN hP hD hS hA (em_A_1 cI cC cD ad u_1 rf) (fun u => rp_A_1 cI cC cD ad u_1 rf u) rfl rfl rfl rfl hl.1 rfl (Nat.le_of_ble_eq_true rfl) dX5_fill_17 ⟨Nat.zero_le _, Nat.zero_le _⟩ (fun r_2 u_3 H locs h hP hD hS => ?_)
  refine kw_i (k0 := 0) (As := [.int r_2]) (rest := []) ⟨hx, hb, hml, hown, hts⟩ (c_X5_kept l G cI cC cD ad rf hrf _ (uX u_1 1 u_3) r_2 _ h) (cwV 1 hts gX5_fill_X5_kept rfl rfl rfl (by decide +kernel) ⟨Nat.le_of_ble_eq_true rfl, Nat.le_of_ble_eq_true rfl⟩) hK hN hP hD hS hA rfl rfl rfl rfl hl.1 rfl (Nat.le_of_ble_eq_true rfl) dX5_fill_20 ⟨Nat.zero_le _, Nat.zero_le _⟩ (fun r_4 u_5 H locs h hP hD hS => ?_)
  obtain ⟨u_5, ad_u_5, rf_u_5⟩ := u_5
  obtain ⟨h, hu_6⟩ := h
  exact W.iret (v := r_4) hx hb hr (fun t ht hW => ⟨⟨r_4, (u_5, ad_u_5, rf_u_5), rfl, ⟨h, hu_6⟩, by rw [ht]; exact hP, hD⟩, hS.F ht⟩) hS.2.2 dX5_fill_23
def q_X5_set (x : Int32) (y : Int32) (X : (Nat → St)) (Q : Int32 → (Nat → St) → Prop) : Prop :=
  q_X2_prepare X (fun u_1 => q_X0_changeSetting x y (u_1 1) (fun r_2 u_3 => q_X5_kept r_2 (uX u_1 1 u_3) (fun r_4 u_5 => Q r_4 u_5)))
set_option maxHeartbeats 4000000 in
set_option maxRecDepth 100000 in
theorem c_X5_set (l : Launch) (G : va_G) (cI cC cD : ClassId) (ad : Nat → Nat → Nat) (rf : Nat → Option Nat) (hrf : rfOk ad rf) (sz : Nat) (X : (Nat → St)) (x : Int32) (y : Int32) (Q : Int32 → (Nat → St) → Prop) (h : q_X5_set x y X Q) : Met l yX5_set wsX5_set ({ frames := 4, cells := 0, slots := 0, locals := 104 }) (va_Pc [.ref (ad 0 0), .int x, .int y] (PW G (ty3 cI cC cD) (wA cI cC cD ad X rf) sz)) (va_Qi (fun (r : Int32) (u : (Nat → St) × (Nat → Nat → Nat) × (Nat → Option Nat)) => Q r u.1 ∧ aOk ad u.2.1 u.2.2) (BW G (fun u : (Nat → St) × (Nat → Nat → Nat) × (Nat → Option Nat) => (wA cI cC cD u.2.1 u.1 u.2.2)) (va_A (wA cI cC cD ad X rf) sz)) (va_A (wA cI cC cD ad X rf) sz)) 0 0 (va_A (wA cI cC cD ad X rf) sz) := by
  refine Met.ofW (cc := cX5_set) (maxL := 3) (ret := (some .int)) (by decide) rfl ?_
  intro p e s m args below meth c s₁ B hml hv
  obtain ⟨rfl, hsz, hP, hK, hD0, hN⟩ := hv
  have hx := B.exec
  have hb := B.bytes
  have hr := B.returns
  have hts := atoms_spec (ws := wsX5_set) B.pre
  have hown : s.vm.findClass RX5 = some m.cls := findClass_of_methodNamed B.named
  have hlocks := B.notSynchronized
  subst hsz
  have hD := hD0.self (sz := s.heap.size)
  generalize hAe : va_A (wA cI cC cD ad X rf) s.heap.size = A at hD ⊢
  have hA : ∀ q : Nat, s.heap.size ≤ q → A q := fun q h => by rw [← hAe]; exact Or.inr h
  have hS : va_S A s.heap s.heap [] := va_S.rf
  have hl := lv_entry ([.ref (ad 0 0), .int x, .int y]) (n := 3) (Nat.le_of_ble_eq_true rfl)
  rw [lg_entry_eq]
  generalize (lg_sl ([.ref (ad 0 0), .int x, .int y]) ++ List.replicate (3 - (lg_sl ([.ref (ad 0 0), .int x, .int y])).length) Slot.unset).toArray = ls at hl ⊢
  have hl : lv_has ls 3 [(0, .ref (ad 0 0)), (1, .int x), (2, .int y)] := hl
  have hinX5 : ∀ w ∈ wsX50, w ∈ wsX5_set := by decide +kernel
  have hL10 := hts (.fieldLink RX5 10 "CraneGates" "dam" "LCraneGates$Dam;") (by decide +kernel)
  have hL22 := hts (.fieldLink RX5 22 "CraneGates" "history" "LCraneGates$History;") (by decide +kernel)
  unfold q_X5_set at h
  refine lv_aload_n hx hb dX5_set_0 rfl (lv_at hl 0 rfl) ?_
  refine va_get (D := G) (ci := 5) (v := .ref (ad 0 1)) (C := RX5) (T := TX5) (N := 4) hx hb hts hinX5 hown hK hP 0 rfl rfl 2 (by decide) hL22 (fun _ h9 => h9) rfl dX5_set_1 ?_
  refine lv_aload_n hx hb dX5_set_4 rfl (lv_at hl 0 rfl) ?_
  refine va_get (D := G) (ci := 5) (v := .ref (ad 1 0)) (C := RX5) (T := TX5) (N := 4) hx hb hts hinX5 hown hK hP 0 rfl rfl 0 (by decide) hL10 (fun _ h9 => h9) rfl dX5_set_5 ?_
  refine kw_v (k0 := 1) (As := [.ref (ad 1 0)]) (rest := []) ⟨hx, hb, hml, hown, hts⟩ (c_X2_prepare l G cI cC cD ad rf hrf _ X  _ h) (cwV 1 hts gX5_set_X2_prepare rfl rfl rfl (by decide +kernel) ⟨Nat.le_of_ble_eq_true rfl, Nat.le_of_ble_eq_true rfl⟩) hK hN hP hD hS hA rfl rfl rfl rfl hl.1 rfl (Nat.le_of_ble_eq_true rfl) dX5_set_8 ⟨Nat.zero_le _, Nat.zero_le _⟩ (fun u_1 H locs h hP hD hS => ?_)
  refine lv_aload_n hx hb dX5_set_11 rfl (lv_at hl 0 rfl) ?_
  refine lv_aload_n hx hb dX5_set_12 rfl (lv_at hl 0 rfl) ?_
  refine va_get (D := G) (ci := 5) (v := .ref (ad 1 0)) (C := RX5) (T := TX5) (N := 4) hx hb hts hinX5 hown hK hP 0 rfl rfl 0 (by decide) hL10 (fun _ h9 => h9) rfl dX5_set_13 ?_
  refine lv_iload_n hx hb dX5_set_16 rfl (lv_at hl 1 rfl) ?_
  refine lv_iload_n hx hb dX5_set_17 rfl (lv_at hl 2 rfl) ?_
  refine kc_i (As := [.int x, .int y]) (rest := [.ref (ad 0 0)]) (wg := (fun u => (wA cI cC cD ad (uX u_1 1 u) rf))) ⟨hx, hb, hml, hown, hts⟩ (c_X0_changeSetting l G cI cC cD (ad 1) _ (u_1 1) x y _ h) (cwV 2 hts gX5_set_X0_changeSetting rfl rfl rfl (by decide +kernel) ⟨Nat.le_of_ble_eq_true rfl, Nat.le_of_ble_eq_true rfl⟩) hK hN hP hD hS hA (em_A_1 cI cC cD ad u_1 rf) (fun u => rp_A_1 cI cC cD ad u_1 rf u) rfl rfl rfl rfl hl.1 rfl (Nat.le_of_ble_eq_true rfl) dX5_set_18 ⟨Nat.zero_le _, Nat.zero_le _⟩ (fun r_2 u_3 H locs h hP hD hS => ?_)
  refine kw_i (k0 := 0) (As := [.int r_2]) (rest := []) ⟨hx, hb, hml, hown, hts⟩ (c_X5_kept l G cI cC cD ad rf hrf _ (uX u_1 1 u_3) r_2 _ h) (cwV 1 hts gX5_set_X5_kept rfl rfl rfl (by decide +kernel) ⟨Nat.le_of_ble_eq_true rfl, Nat.le_of_ble_eq_true rfl⟩) hK hN hP hD hS hA rfl rfl rfl rfl hl.1 rfl (Nat.le_of_ble_eq_true rfl) dX5_set_21 ⟨Nat.zero_le _, Nat.zero_le _⟩ (fun r_4 u_5 H locs h hP hD hS => ?_)
  obtain ⟨u_5, ad_u_5, rf_u_5⟩ := u_5
  obtain ⟨h, hu_6⟩ := h
  exact W.iret (v := r_4) hx hb hr (fun t ht hW => ⟨⟨r_4, (u_5, ad_u_5, rf_u_5), rfl, ⟨h, hu_6⟩, by rw [ht]; exact hP, hD⟩, hS.F ht⟩) hS.2.2 dX5_set_24
def q_X5_pass (x : Int32) (X : (Nat → St)) (Q : Int32 → (Nat → St) → Prop) : Prop :=
  q_X0_refusalToPass x (X 1) (fun r_1 => q_X5_isError r_1 (fun r_2 => (r_2 = 0 → q_X2_prepare X (fun u_4 => q_X0_letPass x (u_4 1) (fun u_5 => q_X0_water u_5 (fun r_6 => q_X5_kept r_6 (uX u_4 1 u_5) (fun r_7 u_8 => Q r_7 u_8))))) ∧ (¬ (r_2 = 0) → Q r_1 X)))
set_option maxHeartbeats 4000000 in
set_option maxRecDepth 100000 in
theorem c_X5_pass (l : Launch) (G : va_G) (cI cC cD : ClassId) (ad : Nat → Nat → Nat) (rf : Nat → Option Nat) (hrf : rfOk ad rf) (sz : Nat) (X : (Nat → St)) (x : Int32) (Q : Int32 → (Nat → St) → Prop) (h : q_X5_pass x X Q) : Met l yX5_pass wsX5_pass ({ frames := 4, cells := 0, slots := 0, locals := 104 }) (va_Pc [.ref (ad 0 0), .int x] (PW G (ty3 cI cC cD) (wA cI cC cD ad X rf) sz)) (va_Qi (fun (r : Int32) (u : (Nat → St) × (Nat → Nat → Nat) × (Nat → Option Nat)) => Q r u.1 ∧ aOk ad u.2.1 u.2.2) (BW G (fun u : (Nat → St) × (Nat → Nat → Nat) × (Nat → Option Nat) => (wA cI cC cD u.2.1 u.1 u.2.2)) (va_A (wA cI cC cD ad X rf) sz)) (va_A (wA cI cC cD ad X rf) sz)) 0 0 (va_A (wA cI cC cD ad X rf) sz) := by
  refine Met.ofW (cc := cX5_pass) (maxL := 3) (ret := (some .int)) (by decide) rfl ?_
  intro p e s m args below meth c s₁ B hml hv
  obtain ⟨rfl, hsz, hP, hK, hD0, hN⟩ := hv
  have hx := B.exec
  have hb := B.bytes
  have hr := B.returns
  have hts := atoms_spec (ws := wsX5_pass) B.pre
  have hown : s.vm.findClass RX5 = some m.cls := findClass_of_methodNamed B.named
  have hlocks := B.notSynchronized
  subst hsz
  have hD := hD0.self (sz := s.heap.size)
  generalize hAe : va_A (wA cI cC cD ad X rf) s.heap.size = A at hD ⊢
  have hA : ∀ q : Nat, s.heap.size ≤ q → A q := fun q h => by rw [← hAe]; exact Or.inr h
  have hS : va_S A s.heap s.heap [] := va_S.rf
  have hl := lv_entry ([.ref (ad 0 0), .int x]) (n := 3) (Nat.le_of_ble_eq_true rfl)
  rw [lg_entry_eq]
  generalize (lg_sl ([.ref (ad 0 0), .int x]) ++ List.replicate (3 - (lg_sl ([.ref (ad 0 0), .int x])).length) Slot.unset).toArray = ls at hl ⊢
  have hl : lv_has ls 3 [(0, .ref (ad 0 0)), (1, .int x)] := hl
  have hinX5 : ∀ w ∈ wsX50, w ∈ wsX5_pass := by decide +kernel
  have hL10 := hts (.fieldLink RX5 10 "CraneGates" "dam" "LCraneGates$Dam;") (by decide +kernel)
  have hL22 := hts (.fieldLink RX5 22 "CraneGates" "history" "LCraneGates$History;") (by decide +kernel)
  unfold q_X5_pass at h
  refine lv_aload_n hx hb dX5_pass_0 rfl (lv_at hl 0 rfl) ?_
  refine va_get (D := G) (ci := 5) (v := .ref (ad 1 0)) (C := RX5) (T := TX5) (N := 4) hx hb hts hinX5 hown hK hP 0 rfl rfl 0 (by decide) hL10 (fun _ h9 => h9) rfl dX5_pass_1 ?_
  refine lv_iload_n hx hb dX5_pass_4 rfl (lv_at hl 1 rfl) ?_
  refine kc_i (As := [.int x]) (rest := []) (wg := (fun _ => (wA cI cC cD ad X rf))) ⟨hx, hb, hml, hown, hts⟩ (c_X0_refusalToPass l G cI cC cD (ad 1) _ (X 1) x _ h) (cwV 1 hts gX5_pass_X0_refusalToPass rfl rfl rfl (by decide +kernel) ⟨Nat.le_of_ble_eq_true rfl, Nat.le_of_ble_eq_true rfl⟩) hK hN hP hD hS hA (em_A_1 cI cC cD ad X rf) (fun _ => rp_self (em_A_1 cI cC cD ad X rf)) rfl rfl rfl rfl hl.1 rfl (Nat.le_of_ble_eq_true rfl) dX5_pass_5 ⟨Nat.zero_le _, Nat.zero_le _⟩ (fun r_1 _ H locs h hP hD hS => ?_)
  refine lv_istore_n (lv' := [(2, .int r_1), (0, .ref (ad 0 0)), (1, .int x)]) hx hb dX5_pass_8 rfl hl (by decide) rfl (fun ls hl => ?_)
  refine lv_iload_n hx hb dX5_pass_9 rfl (lv_at hl 0 rfl) ?_
  refine ks_i (As := [.int r_1]) (rest := []) (wg := (fun _ => (wA cI cC cD ad X rf))) ⟨hx, hb, hml, hown, hts⟩ (c_X5_isError l G cI cC cD  _  r_1 _ h) (va_cwS 1 hts gX5_pass_X5_isError rfl rfl rfl (by decide +kernel) ⟨Nat.le_of_ble_eq_true rfl, Nat.le_of_ble_eq_true rfl⟩) hK hN hP hD hS hA (em_0 _) (fun _ => rp_self (em_0 _)) rfl hl.1 rfl (Nat.le_of_ble_eq_true rfl) dX5_pass_10 ⟨Nat.zero_le _, Nat.zero_le _⟩ (fun r_2 _ H locs h hP hD hS => ?_)
  refine lv_if_eq (tgt := 18) hx hb dX5_pass_13 (by decide) (fun c_3 => ?_) (fun c_3 => ?_)
  · have h := h.1 c_3
    refine lv_aload_n hx hb dX5_pass_18 rfl (lv_at hl 1 rfl) ?_
    refine va_get (D := G) (ci := 5) (v := .ref (ad 0 1)) (C := RX5) (T := TX5) (N := 4) hx hb hts hinX5 hown hK hP 0 rfl rfl 2 (by decide) hL22 (fun _ h9 => h9) rfl dX5_pass_19 ?_
    refine lv_aload_n hx hb dX5_pass_22 rfl (lv_at hl 1 rfl) ?_
    refine va_get (D := G) (ci := 5) (v := .ref (ad 1 0)) (C := RX5) (T := TX5) (N := 4) hx hb hts hinX5 hown hK hP 0 rfl rfl 0 (by decide) hL10 (fun _ h9 => h9) rfl dX5_pass_23 ?_
    refine kw_v (k0 := 1) (As := [.ref (ad 1 0)]) (rest := []) ⟨hx, hb, hml, hown, hts⟩ (c_X2_prepare l G cI cC cD ad rf hrf _ X  _ h) (cwV 1 hts gX5_pass_X2_prepare rfl rfl rfl (by decide +kernel) ⟨Nat.le_of_ble_eq_true rfl, Nat.le_of_ble_eq_true rfl⟩) hK hN hP hD hS hA rfl rfl rfl rfl hl.1 rfl (Nat.le_of_ble_eq_true rfl) dX5_pass_26 ⟨Nat.zero_le _, Nat.zero_le _⟩ (fun u_4 H locs h hP hD hS => ?_)
    refine lv_aload_n hx hb dX5_pass_29 rfl (lv_at hl 1 rfl) ?_
    refine va_get (D := G) (ci := 5) (v := .ref (ad 1 0)) (C := RX5) (T := TX5) (N := 4) hx hb hts hinX5 hown hK hP 0 rfl rfl 0 (by decide) hL10 (fun _ h9 => h9) rfl dX5_pass_30 ?_
    refine lv_iload_n hx hb dX5_pass_33 rfl (lv_at hl 2 rfl) ?_
    refine kc_v (As := [.int x]) (rest := []) (wg := (fun u => (wA cI cC cD ad (uX u_4 1 u) rf))) ⟨hx, hb, hml, hown, hts⟩ (c_X0_letPass l G cI cC cD (ad 1) _ (u_4 1) x _ h) (cwV 1 hts gX5_pass_X0_letPass rfl rfl rfl (by decide +kernel) ⟨Nat.le_of_ble_eq_true rfl, Nat.le_of_ble_eq_true rfl⟩) hK hN hP hD hS hA (em_A_1 cI cC cD ad u_4 rf) (fun u => rp_A_1 cI cC cD ad u_4 rf u) rfl rfl rfl rfl hl.1 rfl (Nat.le_of_ble_eq_true rfl) dX5_pass_34 ⟨Nat.zero_le _, Nat.zero_le _⟩ (fun u_5 H locs h hP hD hS => ?_)
    refine lv_aload_n hx hb dX5_pass_37 rfl (lv_at hl 1 rfl) ?_
    refine lv_aload_n hx hb dX5_pass_38 rfl (lv_at hl 1 rfl) ?_
    refine va_get (D := G) (ci := 5) (v := .ref (ad 1 0)) (C := RX5) (T := TX5) (N := 4) hx hb hts hinX5 hown hK hP 0 rfl rfl 0 (by decide) hL10 (fun _ h9 => h9) rfl dX5_pass_39 ?_
    refine kc_i (As := []) (rest := [.ref (ad 0 0)]) (wg := (fun _ => (wA cI cC cD ad (uX u_4 1 u_5) rf))) ⟨hx, hb, hml, hown, hts⟩ (c_X0_water l G cI cC cD (ad 1) _ u_5  _ h) (cwV 0 hts gX5_pass_X0_water rfl rfl rfl (by decide +kernel) ⟨Nat.le_of_ble_eq_true rfl, Nat.le_of_ble_eq_true rfl⟩) hK hN hP hD hS hA (em_A_1 cI cC cD ad (uX u_4 1 u_5) rf) (fun _ => rp_self (em_A_1 cI cC cD ad (uX u_4 1 u_5) rf)) rfl rfl rfl rfl hl.1 rfl (Nat.le_of_ble_eq_true rfl) dX5_pass_42 ⟨Nat.zero_le _, Nat.zero_le _⟩ (fun r_6 _ H locs h hP hD hS => ?_)
    refine kw_i (k0 := 0) (As := [.int r_6]) (rest := []) ⟨hx, hb, hml, hown, hts⟩ (c_X5_kept l G cI cC cD ad rf hrf _ (uX u_4 1 u_5) r_6 _ h) (cwV 1 hts gX5_pass_X5_kept rfl rfl rfl (by decide +kernel) ⟨Nat.le_of_ble_eq_true rfl, Nat.le_of_ble_eq_true rfl⟩) hK hN hP hD hS hA rfl rfl rfl rfl hl.1 rfl (Nat.le_of_ble_eq_true rfl) dX5_pass_45 ⟨Nat.zero_le _, Nat.zero_le _⟩ (fun r_7 u_8 H locs h hP hD hS => ?_)
    obtain ⟨u_8, ad_u_8, rf_u_8⟩ := u_8
    obtain ⟨h, hu_9⟩ := h
    exact W.iret (v := r_7) hx hb hr (fun t ht hW => ⟨⟨r_7, (u_8, ad_u_8, rf_u_8), rfl, ⟨h, hu_9⟩, by rw [ht]; exact hP, hD⟩, hS.F ht⟩) hS.2.2 dX5_pass_48
  · have h := h.2 c_3
    refine lv_iload_n hx hb dX5_pass_16 rfl (lv_at hl 0 rfl) ?_
    exact W.iret (v := r_1) hx hb hr (fun t ht hW => ⟨⟨r_1, (X, ad, rf), rfl, ⟨h, ⟨rfl, rfl, rfl, hrf⟩⟩, by rw [ht]; exact hP, hD⟩, hS.F ht⟩) hS.2.2 dX5_pass_17
def q_X5_gateOf (x : Int32) (y : Int32) (X : (Nat → St)) (Q : Int32 → Prop) : Prop :=
  q_X0_ofGate x y (X 1) (fun r_1 => Q r_1)
set_option maxHeartbeats 4000000 in
set_option maxRecDepth 100000 in
theorem c_X5_gateOf (l : Launch) (G : va_G) (cI cC cD : ClassId) (ad : Nat → Nat → Nat) (rf : Nat → Option Nat) (hrf : rfOk ad rf) (sz : Nat) (X : (Nat → St)) (x : Int32) (y : Int32) (Q : Int32 → Prop) (h : q_X5_gateOf x y X Q) : Met l yX5_gateOf wsX5_gateOf ({ frames := 3, cells := 0, slots := 0, locals := 67 }) (va_Pc [.ref (ad 0 0), .int x, .int y] (PW G (ty3 cI cC cD) (wA cI cC cD ad X rf) sz)) (va_Qi (fun (r : Int32) (_ : Unit) => Q r) (BW G (fun _ : Unit => (wA cI cC cD ad X rf)) (va_A (wA cI cC cD ad X rf) sz)) (va_A (wA cI cC cD ad X rf) sz)) 0 0 (va_A (wA cI cC cD ad X rf) sz) := by
  refine Met.ofW (cc := cX5_gateOf) (maxL := 3) (ret := (some .int)) (by decide) rfl ?_
  intro p e s m args below meth c s₁ B hml hv
  obtain ⟨rfl, hsz, hP, hK, hD0, hN⟩ := hv
  have hx := B.exec
  have hb := B.bytes
  have hr := B.returns
  have hts := atoms_spec (ws := wsX5_gateOf) B.pre
  have hown : s.vm.findClass RX5 = some m.cls := findClass_of_methodNamed B.named
  have hlocks := B.notSynchronized
  subst hsz
  have hD := hD0.self (sz := s.heap.size)
  generalize hAe : va_A (wA cI cC cD ad X rf) s.heap.size = A at hD ⊢
  have hA : ∀ q : Nat, s.heap.size ≤ q → A q := fun q h => by rw [← hAe]; exact Or.inr h
  have hS : va_S A s.heap s.heap [] := va_S.rf
  have hl := lv_entry ([.ref (ad 0 0), .int x, .int y]) (n := 3) (Nat.le_of_ble_eq_true rfl)
  rw [lg_entry_eq]
  generalize (lg_sl ([.ref (ad 0 0), .int x, .int y]) ++ List.replicate (3 - (lg_sl ([.ref (ad 0 0), .int x, .int y])).length) Slot.unset).toArray = ls at hl ⊢
  have hl : lv_has ls 3 [(0, .ref (ad 0 0)), (1, .int x), (2, .int y)] := hl
  have hinX5 : ∀ w ∈ wsX50, w ∈ wsX5_gateOf := by decide +kernel
  have hL10 := hts (.fieldLink RX5 10 "CraneGates" "dam" "LCraneGates$Dam;") (by decide +kernel)
  unfold q_X5_gateOf at h
  refine lv_aload_n hx hb dX5_gateOf_0 rfl (lv_at hl 0 rfl) ?_
  refine va_get (D := G) (ci := 5) (v := .ref (ad 1 0)) (C := RX5) (T := TX5) (N := 4) hx hb hts hinX5 hown hK hP 0 rfl rfl 0 (by decide) hL10 (fun _ h9 => h9) rfl dX5_gateOf_1 ?_
  refine lv_iload_n hx hb dX5_gateOf_4 rfl (lv_at hl 1 rfl) ?_
  refine lv_iload_n hx hb dX5_gateOf_5 rfl (lv_at hl 2 rfl) ?_
  refine kc_i (As := [.int x, .int y]) (rest := []) (wg := (fun _ => (wA cI cC cD ad X rf))) ⟨hx, hb, hml, hown, hts⟩ (c_X0_ofGate l G cI cC cD (ad 1) _ (X 1) x y _ h) (cwV 2 hts gX5_gateOf_X0_ofGate rfl rfl rfl (by decide +kernel) ⟨Nat.le_of_ble_eq_true rfl, Nat.le_of_ble_eq_true rfl⟩) hK hN hP hD hS hA (em_A_1 cI cC cD ad X rf) (fun _ => rp_self (em_A_1 cI cC cD ad X rf)) rfl rfl rfl rfl hl.1 rfl (Nat.le_of_ble_eq_true rfl) dX5_gateOf_6 ⟨Nat.zero_le _, Nat.zero_le _⟩ (fun r_1 _ H locs h hP hD hS => ?_)
  exact W.iret (v := r_1) hx hb hr (fun t ht hW => ⟨⟨r_1, (), rfl, h, by rw [ht]; exact hP, hD⟩, hS.F ht⟩) hS.2.2 dX5_gateOf_9
def q_X5_craneOf (x : Int32) (X : (Nat → St)) (Q : Int32 → Prop) : Prop :=
  q_X0_ofCrane x (X 1) (fun r_1 => Q r_1)
set_option maxHeartbeats 4000000 in
set_option maxRecDepth 100000 in
theorem c_X5_craneOf (l : Launch) (G : va_G) (cI cC cD : ClassId) (ad : Nat → Nat → Nat) (rf : Nat → Option Nat) (hrf : rfOk ad rf) (sz : Nat) (X : (Nat → St)) (x : Int32) (Q : Int32 → Prop) (h : q_X5_craneOf x X Q) : Met l yX5_craneOf wsX5_craneOf ({ frames := 2, cells := 0, slots := 0, locals := 41 }) (va_Pc [.ref (ad 0 0), .int x] (PW G (ty3 cI cC cD) (wA cI cC cD ad X rf) sz)) (va_Qi (fun (r : Int32) (_ : Unit) => Q r) (BW G (fun _ : Unit => (wA cI cC cD ad X rf)) (va_A (wA cI cC cD ad X rf) sz)) (va_A (wA cI cC cD ad X rf) sz)) 0 0 (va_A (wA cI cC cD ad X rf) sz) := by
  refine Met.ofW (cc := cX5_craneOf) (maxL := 2) (ret := (some .int)) (by decide) rfl ?_
  intro p e s m args below meth c s₁ B hml hv
  obtain ⟨rfl, hsz, hP, hK, hD0, hN⟩ := hv
  have hx := B.exec
  have hb := B.bytes
  have hr := B.returns
  have hts := atoms_spec (ws := wsX5_craneOf) B.pre
  have hown : s.vm.findClass RX5 = some m.cls := findClass_of_methodNamed B.named
  have hlocks := B.notSynchronized
  subst hsz
  have hD := hD0.self (sz := s.heap.size)
  generalize hAe : va_A (wA cI cC cD ad X rf) s.heap.size = A at hD ⊢
  have hA : ∀ q : Nat, s.heap.size ≤ q → A q := fun q h => by rw [← hAe]; exact Or.inr h
  have hS : va_S A s.heap s.heap [] := va_S.rf
  have hl := lv_entry ([.ref (ad 0 0), .int x]) (n := 2) (Nat.le_of_ble_eq_true rfl)
  rw [lg_entry_eq]
  generalize (lg_sl ([.ref (ad 0 0), .int x]) ++ List.replicate (2 - (lg_sl ([.ref (ad 0 0), .int x])).length) Slot.unset).toArray = ls at hl ⊢
  have hl : lv_has ls 2 [(0, .ref (ad 0 0)), (1, .int x)] := hl
  have hinX5 : ∀ w ∈ wsX50, w ∈ wsX5_craneOf := by decide +kernel
  have hL10 := hts (.fieldLink RX5 10 "CraneGates" "dam" "LCraneGates$Dam;") (by decide +kernel)
  unfold q_X5_craneOf at h
  refine lv_aload_n hx hb dX5_craneOf_0 rfl (lv_at hl 0 rfl) ?_
  refine va_get (D := G) (ci := 5) (v := .ref (ad 1 0)) (C := RX5) (T := TX5) (N := 4) hx hb hts hinX5 hown hK hP 0 rfl rfl 0 (by decide) hL10 (fun _ h9 => h9) rfl dX5_craneOf_1 ?_
  refine lv_iload_n hx hb dX5_craneOf_4 rfl (lv_at hl 1 rfl) ?_
  refine kc_i (As := [.int x]) (rest := []) (wg := (fun _ => (wA cI cC cD ad X rf))) ⟨hx, hb, hml, hown, hts⟩ (c_X0_ofCrane l G cI cC cD (ad 1) _ (X 1) x _ h) (cwV 1 hts gX5_craneOf_X0_ofCrane rfl rfl rfl (by decide +kernel) ⟨Nat.le_of_ble_eq_true rfl, Nat.le_of_ble_eq_true rfl⟩) hK hN hP hD hS hA (em_A_1 cI cC cD ad X rf) (fun _ => rp_self (em_A_1 cI cC cD ad X rf)) rfl rfl rfl rfl hl.1 rfl (Nat.le_of_ble_eq_true rfl) dX5_craneOf_5 ⟨Nat.zero_le _, Nat.zero_le _⟩ (fun r_1 _ H locs h hP hD hS => ?_)
  exact W.iret (v := r_1) hx hb hr (fun t ht hW => ⟨⟨r_1, (), rfl, h, by rw [ht]; exact hP, hD⟩, hS.F ht⟩) hS.2.2 dX5_craneOf_8
def q_X5_orderAt (x : Int32) (X : (Nat → St)) (Q : Int32 → Prop) : Prop :=
  q_X0_gateOfOrder x (X 1) (fun r_1 => Q r_1)
set_option maxHeartbeats 4000000 in
set_option maxRecDepth 100000 in
theorem c_X5_orderAt (l : Launch) (G : va_G) (cI cC cD : ClassId) (ad : Nat → Nat → Nat) (rf : Nat → Option Nat) (hrf : rfOk ad rf) (sz : Nat) (X : (Nat → St)) (x : Int32) (Q : Int32 → Prop) (h : q_X5_orderAt x X Q) : Met l yX5_orderAt wsX5_orderAt ({ frames := 3, cells := 0, slots := 0, locals := 64 }) (va_Pc [.ref (ad 0 0), .int x] (PW G (ty3 cI cC cD) (wA cI cC cD ad X rf) sz)) (va_Qi (fun (r : Int32) (_ : Unit) => Q r) (BW G (fun _ : Unit => (wA cI cC cD ad X rf)) (va_A (wA cI cC cD ad X rf) sz)) (va_A (wA cI cC cD ad X rf) sz)) 0 0 (va_A (wA cI cC cD ad X rf) sz) := by
  refine Met.ofW (cc := cX5_orderAt) (maxL := 2) (ret := (some .int)) (by decide) rfl ?_
  intro p e s m args below meth c s₁ B hml hv
  obtain ⟨rfl, hsz, hP, hK, hD0, hN⟩ := hv
  have hx := B.exec
  have hb := B.bytes
  have hr := B.returns
  have hts := atoms_spec (ws := wsX5_orderAt) B.pre
  have hown : s.vm.findClass RX5 = some m.cls := findClass_of_methodNamed B.named
  have hlocks := B.notSynchronized
  subst hsz
  have hD := hD0.self (sz := s.heap.size)
  generalize hAe : va_A (wA cI cC cD ad X rf) s.heap.size = A at hD ⊢
  have hA : ∀ q : Nat, s.heap.size ≤ q → A q := fun q h => by rw [← hAe]; exact Or.inr h
  have hS : va_S A s.heap s.heap [] := va_S.rf
  have hl := lv_entry ([.ref (ad 0 0), .int x]) (n := 2) (Nat.le_of_ble_eq_true rfl)
  rw [lg_entry_eq]
  generalize (lg_sl ([.ref (ad 0 0), .int x]) ++ List.replicate (2 - (lg_sl ([.ref (ad 0 0), .int x])).length) Slot.unset).toArray = ls at hl ⊢
  have hl : lv_has ls 2 [(0, .ref (ad 0 0)), (1, .int x)] := hl
  have hinX5 : ∀ w ∈ wsX50, w ∈ wsX5_orderAt := by decide +kernel
  have hL10 := hts (.fieldLink RX5 10 "CraneGates" "dam" "LCraneGates$Dam;") (by decide +kernel)
  unfold q_X5_orderAt at h
  refine lv_aload_n hx hb dX5_orderAt_0 rfl (lv_at hl 0 rfl) ?_
  refine va_get (D := G) (ci := 5) (v := .ref (ad 1 0)) (C := RX5) (T := TX5) (N := 4) hx hb hts hinX5 hown hK hP 0 rfl rfl 0 (by decide) hL10 (fun _ h9 => h9) rfl dX5_orderAt_1 ?_
  refine lv_iload_n hx hb dX5_orderAt_4 rfl (lv_at hl 1 rfl) ?_
  refine kc_i (As := [.int x]) (rest := []) (wg := (fun _ => (wA cI cC cD ad X rf))) ⟨hx, hb, hml, hown, hts⟩ (c_X0_gateOfOrder l G cI cC cD (ad 1) _ (X 1) x _ h) (cwV 1 hts gX5_orderAt_X0_gateOfOrder rfl rfl rfl (by decide +kernel) ⟨Nat.le_of_ble_eq_true rfl, Nat.le_of_ble_eq_true rfl⟩) hK hN hP hD hS hA (em_A_1 cI cC cD ad X rf) (fun _ => rp_self (em_A_1 cI cC cD ad X rf)) rfl rfl rfl rfl hl.1 rfl (Nat.le_of_ble_eq_true rfl) dX5_orderAt_5 ⟨Nat.zero_le _, Nat.zero_le _⟩ (fun r_1 _ H locs h hP hD hS => ?_)
  exact W.iret (v := r_1) hx hb hr (fun t ht hW => ⟨⟨r_1, (), rfl, h, by rw [ht]; exact hP, hD⟩, hS.F ht⟩) hS.2.2 dX5_orderAt_8
def q_X5_markAt (x : Int32) (X : (Nat → St)) (Q : Int32 → Prop) : Prop :=
  q_X0_gateOfMark x (X 1) (fun r_1 => Q r_1)
set_option maxHeartbeats 4000000 in
set_option maxRecDepth 100000 in
theorem c_X5_markAt (l : Launch) (G : va_G) (cI cC cD : ClassId) (ad : Nat → Nat → Nat) (rf : Nat → Option Nat) (hrf : rfOk ad rf) (sz : Nat) (X : (Nat → St)) (x : Int32) (Q : Int32 → Prop) (h : q_X5_markAt x X Q) : Met l yX5_markAt wsX5_markAt ({ frames := 3, cells := 0, slots := 0, locals := 64 }) (va_Pc [.ref (ad 0 0), .int x] (PW G (ty3 cI cC cD) (wA cI cC cD ad X rf) sz)) (va_Qi (fun (r : Int32) (_ : Unit) => Q r) (BW G (fun _ : Unit => (wA cI cC cD ad X rf)) (va_A (wA cI cC cD ad X rf) sz)) (va_A (wA cI cC cD ad X rf) sz)) 0 0 (va_A (wA cI cC cD ad X rf) sz) := by
  refine Met.ofW (cc := cX5_markAt) (maxL := 2) (ret := (some .int)) (by decide) rfl ?_
  intro p e s m args below meth c s₁ B hml hv
  obtain ⟨rfl, hsz, hP, hK, hD0, hN⟩ := hv
  have hx := B.exec
  have hb := B.bytes
  have hr := B.returns
  have hts := atoms_spec (ws := wsX5_markAt) B.pre
  have hown : s.vm.findClass RX5 = some m.cls := findClass_of_methodNamed B.named
  have hlocks := B.notSynchronized
  subst hsz
  have hD := hD0.self (sz := s.heap.size)
  generalize hAe : va_A (wA cI cC cD ad X rf) s.heap.size = A at hD ⊢
  have hA : ∀ q : Nat, s.heap.size ≤ q → A q := fun q h => by rw [← hAe]; exact Or.inr h
  have hS : va_S A s.heap s.heap [] := va_S.rf
  have hl := lv_entry ([.ref (ad 0 0), .int x]) (n := 2) (Nat.le_of_ble_eq_true rfl)
  rw [lg_entry_eq]
  generalize (lg_sl ([.ref (ad 0 0), .int x]) ++ List.replicate (2 - (lg_sl ([.ref (ad 0 0), .int x])).length) Slot.unset).toArray = ls at hl ⊢
  have hl : lv_has ls 2 [(0, .ref (ad 0 0)), (1, .int x)] := hl
  have hinX5 : ∀ w ∈ wsX50, w ∈ wsX5_markAt := by decide +kernel
  have hL10 := hts (.fieldLink RX5 10 "CraneGates" "dam" "LCraneGates$Dam;") (by decide +kernel)
  unfold q_X5_markAt at h
  refine lv_aload_n hx hb dX5_markAt_0 rfl (lv_at hl 0 rfl) ?_
  refine va_get (D := G) (ci := 5) (v := .ref (ad 1 0)) (C := RX5) (T := TX5) (N := 4) hx hb hts hinX5 hown hK hP 0 rfl rfl 0 (by decide) hL10 (fun _ h9 => h9) rfl dX5_markAt_1 ?_
  refine lv_iload_n hx hb dX5_markAt_4 rfl (lv_at hl 1 rfl) ?_
  refine kc_i (As := [.int x]) (rest := []) (wg := (fun _ => (wA cI cC cD ad X rf))) ⟨hx, hb, hml, hown, hts⟩ (c_X0_gateOfMark l G cI cC cD (ad 1) _ (X 1) x _ h) (cwV 1 hts gX5_markAt_X0_gateOfMark rfl rfl rfl (by decide +kernel) ⟨Nat.le_of_ble_eq_true rfl, Nat.le_of_ble_eq_true rfl⟩) hK hN hP hD hS hA (em_A_1 cI cC cD ad X rf) (fun _ => rp_self (em_A_1 cI cC cD ad X rf)) rfl rfl rfl rfl hl.1 rfl (Nat.le_of_ble_eq_true rfl) dX5_markAt_5 ⟨Nat.zero_le _, Nat.zero_le _⟩ (fun r_1 _ H locs h hP hD hS => ?_)
  exact W.iret (v := r_1) hx hb hr (fun t ht hW => ⟨⟨r_1, (), rfl, h, by rw [ht]; exact hP, hD⟩, hS.F ht⟩) hS.2.2 dX5_markAt_8
