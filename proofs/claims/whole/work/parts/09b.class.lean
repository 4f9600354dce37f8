def q_X5_would (x : Int32) (y : Int32) (X : (Nat → St)) (Q : Int32 → (Nat → St) → Prop) : Prop :=
  (x < 0 → Q (-1000001) X) ∧ (¬ (x < 0) → (x ≤ 500 → q_X0_copyFrom (X 2) (X 1) (fun u_3 => q_X0_letPass x u_3 (fun u_4 => q_X0_outlook y u_4 (fun r_5 => Q r_5 (uX (uX X 2 u_3) 2 u_4))))) ∧ (¬ (x ≤ 500) → Q (-1000001) X))
set_option maxHeartbeats 4000000 in
set_option maxRecDepth 100000 in
theorem c_X5_would (l : Launch) (G : va_G) (cI cC cD : ClassId) (ad : Nat → Nat → Nat) (rf : Nat → Option Nat) (hrf : rfOk ad rf) (sz : Nat) (X : (Nat → St)) (x : Int32) (y : Int32) (Q : Int32 → (Nat → St) → Prop) (h : q_X5_would x y X Q) : Met l yX5_would wsX5_would ({ frames := 4, cells := 0, slots := 0, locals := 89 }) (va_Pc [.ref (ad 0 0), .int x, .int y] (PW G (ty3 cI cC cD) (wA cI cC cD ad X rf) sz)) (va_Qi Q (BW G (fun u : (Nat → St) => (wA cI cC cD ad u rf)) (va_A (wA cI cC cD ad X rf) sz)) (va_A (wA cI cC cD ad X rf) sz)) 0 0 (va_A (wA cI cC cD ad X rf) sz) := by
  refine Met.ofW (cc := cX5_would) (maxL := 3) (ret := (some .int)) (by decide) rfl ?_
  intro p e s m args below meth c s₁ B hml hv
  obtain ⟨rfl, hsz, hP, hK, hD0, hN⟩ := hv
  have hx := B.exec
  have hb := B.bytes
  have hr := B.returns
  have hts := atoms_spec (ws := wsX5_would) B.pre
  have hown : s.vm.findClass RX5 = some m.cls := findClass_of_methodNamed B.named
  have hlocks := B.notSynchronized
  subst hsz
  have hD := hD0.self (sz := s.heap.size)
  generalize hAe : va_A (wA cI cC cD ad X rf) s.heap.size = A at hD ⊢
  have hA : ∀ q : Nat, s.heap.size ≤ q → A q := fun q h => by rw [← hAe]; exact Or.inr h
  have hS : va_S A s.heap s.heap [] := va_S.rf
  have hl := lv_entry ([.ref (ad 0 0), .int x, .int y]) (n := 3) (Nat.le_of_ble_eq_true rfl)
  rw [lg_entry_eq]
  generalize (lg_sl ([.ref (ad 0 0), .int x, .int y]) ++ List.replicate (3 - (lg_sl ([.ref (ad 0 0), .int x, .int y])).length) Slot.unset).toArray = ls at hl ⊢
  have hl : lv_has ls 3 [(0, .ref (ad 0 0)), (1, .int x), (2, .int y)] := hl
  have hinX5 : ∀ w ∈ wsX50, w ∈ wsX5_would := by decide +kernel
  have hL10 := hts (.fieldLink RX5 10 "CraneGates" "dam" "LCraneGates$Dam;") (by decide +kernel)
  have hL16 := hts (.fieldLink RX5 16 "CraneGates" "trial" "LCraneGates$Dam;") (by decide +kernel)
  unfold q_X5_would at h
  refine lv_iload_n hx hb dX5_would_0 rfl (lv_at hl 1 rfl) ?_
  refine lv_if_lt (tgt := 11) hx hb dX5_would_1 (by decide) (fun c_1 => ?_) (fun c_1 => ?_)
  · have h := h.1 c_1
    refine lv_ldc hx hb hown (hts (.constant RX5 87 (-1000001)) (by decide +kernel)) dX5_would_11 ?_
    exact W.iret (v := (-1000001)) hx hb hr (fun t ht hW => ⟨⟨(-1000001), X, rfl, h, by rw [ht]; exact hP, hD⟩, hS.F ht⟩) hS.2.2 dX5_would_13
  · have h := h.2 c_1
    refine lv_iload_n hx hb dX5_would_4 rfl (lv_at hl 1 rfl) ?_
    refine lv_sipush (v := 500) hx hb dX5_would_5 (by decide) ?_
    refine lv_icmp_le (tgt := 14) hx hb dX5_would_8 (by decide) (fun c_2 => ?_) (fun c_2 => ?_)
    · have h := h.1 c_2
      refine lv_aload_n hx hb dX5_would_14 rfl (lv_at hl 0 rfl) ?_
      refine va_get (D := G) (ci := 5) (v := .ref (ad 2 0)) (C := RX5) (T := TX5) (N := 4) hx hb hts hinX5 hown hK hP 0 rfl rfl 1 (by decide) hL16 (fun _ h9 => h9) rfl dX5_would_15 ?_
      refine lv_aload_n hx hb dX5_would_18 rfl (lv_at hl 0 rfl) ?_
      refine va_get (D := G) (ci := 5) (v := .ref (ad 1 0)) (C := RX5) (T := TX5) (N := 4) hx hb hts hinX5 hown hK hP 0 rfl rfl 0 (by decide) hL10 (fun _ h9 => h9) rfl dX5_would_19 ?_
      refine kc_v (As := [.ref (ad 1 0)]) (rest := []) (wg := (fun u => (wA cI cC cD ad (uX X 2 u) rf))) ⟨hx, hb, hml, hown, hts⟩ (c_X0_copyFrom l G cI cC cD (ad 2) (ad 1) _ (X 2) (X 1)  _ h) (cwV 1 hts gX5_would_X0_copyFrom rfl rfl rfl (by decide +kernel) ⟨Nat.le_of_ble_eq_true rfl, Nat.le_of_ble_eq_true rfl⟩) hK hN hP hD hS hA (em_A_21 cI cC cD ad X rf) (fun u => rp_A_21 cI cC cD ad X rf u) rfl rfl rfl rfl hl.1 rfl (Nat.le_of_ble_eq_true rfl) dX5_would_22 ⟨Nat.zero_le _, Nat.zero_le _⟩ (fun u_3 H locs h hP hD hS => ?_)
      refine lv_aload_n hx hb dX5_would_25 rfl (lv_at hl 0 rfl) ?_
      refine va_get (D := G) (ci := 5) (v := .ref (ad 2 0)) (C := RX5) (T := TX5) (N := 4) hx hb hts hinX5 hown hK hP 0 rfl rfl 1 (by decide) hL16 (fun _ h9 => h9) rfl dX5_would_26 ?_
      refine lv_iload_n hx hb dX5_would_29 rfl (lv_at hl 1 rfl) ?_
      refine kc_v (As := [.int x]) (rest := []) (wg := (fun u => (wA cI cC cD ad (uX (uX X 2 u_3) 2 u) rf))) ⟨hx, hb, hml, hown, hts⟩ (c_X0_letPass l G cI cC cD (ad 2) _ u_3 x _ h) (cwV 1 hts gX5_would_X0_letPass rfl rfl rfl (by decide +kernel) ⟨Nat.le_of_ble_eq_true rfl, Nat.le_of_ble_eq_true rfl⟩) hK hN hP hD hS hA (em_A_2 cI cC cD ad (uX X 2 u_3) rf) (fun u => rp_A_2 cI cC cD ad (uX X 2 u_3) rf u) rfl rfl rfl rfl hl.1 rfl (Nat.le_of_ble_eq_true rfl) dX5_would_30 ⟨Nat.zero_le _, Nat.zero_le _⟩ (fun u_4 H locs h hP hD hS => ?_)
      refine lv_aload_n hx hb dX5_would_33 rfl (lv_at hl 0 rfl) ?_
      refine va_get (D := G) (ci := 5) (v := .ref (ad 2 0)) (C := RX5) (T := TX5) (N := 4) hx hb hts hinX5 hown hK hP 0 rfl rfl 1 (by decide) hL16 (fun _ h9 => h9) rfl dX5_would_34 ?_
      refine lv_iload_n hx hb dX5_would_37 rfl (lv_at hl 2 rfl) ?_
      refine kc_i (As := [.int y]) (rest := []) (wg := (fun _ => (wA cI cC cD ad (uX (uX X 2 u_3) 2 u_4) rf))) ⟨hx, hb, hml, hown, hts⟩ (c_X0_outlook l G cI cC cD (ad 2) _ u_4 y _ h) (cwV 1 hts gX5_would_X0_outlook rfl rfl rfl (by decide +kernel) ⟨Nat.le_of_ble_eq_true rfl, Nat.le_of_ble_eq_true rfl⟩) hK hN hP hD hS hA (em_A_2 cI cC cD ad (uX (uX X 2 u_3) 2 u_4) rf) (fun _ => rp_self (em_A_2 cI cC cD ad (uX (uX X 2 u_3) 2 u_4) rf)) rfl rfl rfl rfl hl.1 rfl (Nat.le_of_ble_eq_true rfl) dX5_would_38 ⟨Nat.zero_le _, Nat.zero_le _⟩ (fun r_5 _ H locs h hP hD hS => ?_)
      exact W.iret (v := r_5) hx hb hr (fun t ht hW => ⟨⟨r_5, (uX (uX X 2 u_3) 2 u_4), rfl, h, by rw [ht]; exact hP, hD⟩, hS.F ht⟩) hS.2.2 dX5_would_41
    · have h := h.2 c_2
      refine lv_ldc hx hb hown (hts (.constant RX5 87 (-1000001)) (by decide +kernel)) dX5_would_11 ?_
      exact W.iret (v := (-1000001)) hx hb hr (fun t ht hW => ⟨⟨(-1000001), X, rfl, h, by rw [ht]; exact hP, hD⟩, hS.F ht⟩) hS.2.2 dX5_would_13
def q_X5_minutesUntil (x : Int32) (y : Int32) (X : (Nat → St)) (Q : Int32 → (Nat → St) → Prop) : Prop :=
  (x < 0 → Q (-1000001) X) ∧ (¬ (x < 0) → (9999 < x → Q (-1000001) X) ∧ (¬ (9999 < x) → (y < 0 → Q (-1000001) X) ∧ (¬ (y < 0) → (y ≤ 1 → q_X0_copyFrom (X 2) (X 1) (fun u_5 => ∃ (I_7 : Nat → Int32 → (Nat → St) → Prop) (n_11 : Nat), I_7 n_11 0 (uX X 2 u_5) ∧ ∀ (n_6 : Nat) (x3_8 : Int32) (D_9 : (Nat → St)), I_7 n_6 x3_8 D_9 → ((1000 < x3_8 → Q (-1000004) D_9) ∧ (¬ (1000 < x3_8) → q_X0_water (D_9 2) (fun r_16 => (y = 0 → (r_16 < x → q_X0_letPass 1 (D_9 2) (fun u_24 => ∃ n_25, n_25 < n_6 ∧ I_7 n_25 (x3_8 + 1) (uX D_9 2 u_24))) ∧ (¬ (r_16 < x) → Q x3_8 D_9)) ∧ (¬ (y = 0) → (x < r_16 → q_X0_letPass 1 (D_9 2) (fun u_19 => ∃ n_20, n_20 < n_6 ∧ I_7 n_20 (x3_8 + 1) (uX D_9 2 u_19))) ∧ (¬ (x < r_16) → Q x3_8 D_9))))))) ∧ (¬ (y ≤ 1) → Q (-1000001) X))))
set_option maxHeartbeats 4000000 in
set_option maxRecDepth 100000 in
theorem c_X5_minutesUntil (l : Launch) (G : va_G) (cI cC cD : ClassId) (ad : Nat → Nat → Nat) (rf : Nat → Option Nat) (hrf : rfOk ad rf) (sz : Nat) (X : (Nat → St)) (x : Int32) (y : Int32) (Q : Int32 → (Nat → St) → Prop) (h : q_X5_minutesUntil x y X Q) : Met l yX5_minutesUntil wsX5_minutesUntil ({ frames := 4, cells := 0, slots := 0, locals := 89 }) (va_Pc [.ref (ad 0 0), .int x, .int y] (PW G (ty3 cI cC cD) (wA cI cC cD ad X rf) sz)) (va_Qi Q (BW G (fun u : (Nat → St) => (wA cI cC cD ad u rf)) (va_A (wA cI cC cD ad X rf) sz)) (va_A (wA cI cC cD ad X rf) sz)) 0 0 (va_A (wA cI cC cD ad X rf) sz) := by
  refine Met.ofW (cc := cX5_minutesUntil) (maxL := 5) (ret := (some .int)) (by decide) rfl ?_
  intro p e s m args below meth c s₁ B hml hv
  obtain ⟨rfl, hsz, hP, hK, hD0, hN⟩ := hv
  have hx := B.exec
  have hb := B.bytes
  have hr := B.returns
  have hts := atoms_spec (ws := wsX5_minutesUntil) B.pre
  have hown : s.vm.findClass RX5 = some m.cls := findClass_of_methodNamed B.named
  have hlocks := B.notSynchronized
  subst hsz
  have hD := hD0.self (sz := s.heap.size)
  generalize hAe : va_A (wA cI cC cD ad X rf) s.heap.size = A at hD ⊢
  have hA : ∀ q : Nat, s.heap.size ≤ q → A q := fun q h => by rw [← hAe]; exact Or.inr h
  have hS : va_S A s.heap s.heap [] := va_S.rf
  have hl := lv_entry ([.ref (ad 0 0), .int x, .int y]) (n := 5) (Nat.le_of_ble_eq_true rfl)
  rw [lg_entry_eq]
  generalize (lg_sl ([.ref (ad 0 0), .int x, .int y]) ++ List.replicate (5 - (lg_sl ([.ref (ad 0 0), .int x, .int y])).length) Slot.unset).toArray = ls at hl ⊢
  have hl : lv_has ls 5 [(0, .ref (ad 0 0)), (1, .int x), (2, .int y)] := hl
  have hinX5 : ∀ w ∈ wsX50, w ∈ wsX5_minutesUntil := by decide +kernel
  have hL10 := hts (.fieldLink RX5 10 "CraneGates" "dam" "LCraneGates$Dam;") (by decide +kernel)
  have hL16 := hts (.fieldLink RX5 16 "CraneGates" "trial" "LCraneGates$Dam;") (by decide +kernel)
  unfold q_X5_minutesUntil at h
  refine lv_iload_n hx hb dX5_minutesUntil_0 rfl (lv_at hl 1 rfl) ?_
  refine lv_if_lt (tgt := 20) hx hb dX5_minutesUntil_1 (by decide) (fun c_1 => ?_) (fun c_1 => ?_)
  · have h := h.1 c_1
    refine lv_ldc hx hb hown (hts (.constant RX5 87 (-1000001)) (by decide +kernel)) dX5_minutesUntil_20 ?_
    exact W.iret (v := (-1000001)) hx hb hr (fun t ht hW => ⟨⟨(-1000001), X, rfl, h, by rw [ht]; exact hP, hD⟩, hS.F ht⟩) hS.2.2 dX5_minutesUntil_22
  · have h := h.2 c_1
    refine lv_iload_n hx hb dX5_minutesUntil_4 rfl (lv_at hl 1 rfl) ?_
    refine lv_sipush (v := 9999) hx hb dX5_minutesUntil_5 (by decide) ?_
    refine lv_icmp_gt (tgt := 20) hx hb dX5_minutesUntil_8 (by decide) (fun c_2 => ?_) (fun c_2 => ?_)
    · have h := h.1 c_2
      refine lv_ldc hx hb hown (hts (.constant RX5 87 (-1000001)) (by decide +kernel)) dX5_minutesUntil_20 ?_
      exact W.iret (v := (-1000001)) hx hb hr (fun t ht hW => ⟨⟨(-1000001), X, rfl, h, by rw [ht]; exact hP, hD⟩, hS.F ht⟩) hS.2.2 dX5_minutesUntil_22
    · have h := h.2 c_2
      refine lv_iload_n hx hb dX5_minutesUntil_11 rfl (lv_at hl 2 rfl) ?_
      refine lv_if_lt (tgt := 20) hx hb dX5_minutesUntil_12 (by decide) (fun c_3 => ?_) (fun c_3 => ?_)
      · have h := h.1 c_3
        refine lv_ldc hx hb hown (hts (.constant RX5 87 (-1000001)) (by decide +kernel)) dX5_minutesUntil_20 ?_
        exact W.iret (v := (-1000001)) hx hb hr (fun t ht hW => ⟨⟨(-1000001), X, rfl, h, by rw [ht]; exact hP, hD⟩, hS.F ht⟩) hS.2.2 dX5_minutesUntil_22
      · have h := h.2 c_3
        refine lv_iload_n hx hb dX5_minutesUntil_15 rfl (lv_at hl 2 rfl) ?_
        refine lv_iconst (v := 1) hx hb dX5_minutesUntil_16 (by decide) ?_
        refine lv_icmp_le (tgt := 23) hx hb dX5_minutesUntil_17 (by decide) (fun c_4 => ?_) (fun c_4 => ?_)
        · have h := h.1 c_4
          refine lv_aload_n hx hb dX5_minutesUntil_23 rfl (lv_at hl 0 rfl) ?_
          refine va_get (D := G) (ci := 5) (v := .ref (ad 2 0)) (C := RX5) (T := TX5) (N := 4) hx hb hts hinX5 hown hK hP 0 rfl rfl 1 (by decide) hL16 (fun _ h9 => h9) rfl dX5_minutesUntil_24 ?_
          refine lv_aload_n hx hb dX5_minutesUntil_27 rfl (lv_at hl 0 rfl) ?_
          refine va_get (D := G) (ci := 5) (v := .ref (ad 1 0)) (C := RX5) (T := TX5) (N := 4) hx hb hts hinX5 hown hK hP 0 rfl rfl 0 (by decide) hL10 (fun _ h9 => h9) rfl dX5_minutesUntil_28 ?_
          refine kc_v (As := [.ref (ad 1 0)]) (rest := []) (wg := (fun u => (wA cI cC cD ad (uX X 2 u) rf))) ⟨hx, hb, hml, hown, hts⟩ (c_X0_copyFrom l G cI cC cD (ad 2) (ad 1) _ (X 2) (X 1)  _ h) (cwV 1 hts gX5_minutesUntil_X0_copyFrom rfl rfl rfl (by decide +kernel) ⟨Nat.le_of_ble_eq_true rfl, Nat.le_of_ble_eq_true rfl⟩) hK hN hP hD hS hA (em_A_21 cI cC cD ad X rf) (fun u => rp_A_21 cI cC cD ad X rf u) rfl rfl rfl rfl hl.1 rfl (Nat.le_of_ble_eq_true rfl) dX5_minutesUntil_31 ⟨Nat.zero_le _, Nat.zero_le _⟩ (fun u_5 H locs h hP hD hS => ?_)
          refine lv_iconst (v := 0) hx hb dX5_minutesUntil_34 (by decide) ?_
          refine lv_istore_n (lv' := [(3, .int 0), (0, .ref (ad 0 0)), (1, .int x), (2, .int y)]) hx hb dX5_minutesUntil_35 rfl hl (by decide) rfl (fun ls hl => ?_)
          obtain ⟨I_7, n_11, h_12, hI_13⟩ := h
          have lp_14 : ∀ (n_6 : Nat) (x3_8 : Int32) (D_9 : (Nat → St)), I_7 n_6 x3_8 D_9 → ∀ (H : Heap) (locs : List Loc) (ls : Array Slot), va_P G vwCl (wA cI cC cD ad D_9 rf) H → va_D A (wA cI cC cD ad D_9 rf) → va_S A s.heap H locs → lv_has ls 5 [(3, .int x3_8), (0, .ref (ad 0 0)), (1, .int x), (2, .int y)] → W p l e (headSpec wsX5_minutesUntil ({ frames := 4, cells := 0, slots := 0, locals := 89 })).room s m ([.ref (ad 0 0), .int x, .int y] : List Value).toArray below meth c H locs 0 0 (MQ below (va_Qi Q (BW G (fun u : (Nat → St) => (wA cI cC cD ad u rf)) A) A) ([.ref (ad 0 0), .int x, .int y] : List Value).toArray s 0 0 A) (F0 m 36 ls []) := by
            intro n_6
            induction n_6 using Nat.strongRecOn with
            | ind n_6 ih_10 =>
              intro x3_8 D_9 hIn H locs ls hP hD hS hl
              have h := hI_13 n_6 x3_8 D_9 hIn
              refine lv_iload_n hx hb dX5_minutesUntil_36 rfl (lv_at hl 0 rfl) ?_
              refine lv_sipush (v := 1000) hx hb dX5_minutesUntil_37 (by decide) ?_
              refine lv_icmp_gt (tgt := 87) hx hb dX5_minutesUntil_40 (by decide) (fun c_15 => ?_) (fun c_15 => ?_)
              · have h := h.1 c_15
                refine lv_ldc hx hb hown (hts (.constant RX5 94 (-1000004)) (by decide +kernel)) dX5_minutesUntil_87 ?_
                exact W.iret (v := (-1000004)) hx hb hr (fun t ht hW => ⟨⟨(-1000004), D_9, rfl, h, by rw [ht]; exact hP, hD⟩, hS.F ht⟩) hS.2.2 dX5_minutesUntil_89
              · have h := h.2 c_15
                refine lv_aload_n hx hb dX5_minutesUntil_43 rfl (lv_at hl 1 rfl) ?_
                refine va_get (D := G) (ci := 5) (v := .ref (ad 2 0)) (C := RX5) (T := TX5) (N := 4) hx hb hts hinX5 hown hK hP 0 rfl rfl 1 (by decide) hL16 (fun _ h9 => h9) rfl dX5_minutesUntil_44 ?_
                refine kc_i (As := []) (rest := []) (wg := (fun _ => (wA cI cC cD ad D_9 rf))) ⟨hx, hb, hml, hown, hts⟩ (c_X0_water l G cI cC cD (ad 2) _ (D_9 2)  _ h) (cwV 0 hts gX5_minutesUntil_X0_water rfl rfl rfl (by decide +kernel) ⟨Nat.le_of_ble_eq_true rfl, Nat.le_of_ble_eq_true rfl⟩) hK hN hP hD hS hA (em_A_2 cI cC cD ad D_9 rf) (fun _ => rp_self (em_A_2 cI cC cD ad D_9 rf)) rfl rfl rfl rfl hl.1 rfl (Nat.le_of_ble_eq_true rfl) dX5_minutesUntil_47 ⟨Nat.zero_le _, Nat.zero_le _⟩ (fun r_16 _ H locs h hP hD hS => ?_)
                refine lv_istore (lv' := [(4, .int r_16), (3, .int x3_8), (0, .ref (ad 0 0)), (1, .int x), (2, .int y)]) hx hb dX5_minutesUntil_50 hl (by decide) rfl (fun ls hl => ?_)
                refine lv_iload_n hx hb dX5_minutesUntil_52 rfl (lv_at hl 4 rfl) ?_
                refine lv_if_ne (tgt := 65) hx hb dX5_minutesUntil_53 (by decide) (fun c_17 => ?_) (fun c_17 => ?_)
                · have h := h.2 c_17
                  refine lv_iload hx hb dX5_minutesUntil_65 (lv_at hl 0 rfl) ?_
                  refine lv_iload_n hx hb dX5_minutesUntil_67 rfl (lv_at hl 3 rfl) ?_
                  refine lv_icmp_gt (tgt := 73) hx hb dX5_minutesUntil_68 (by decide) (fun c_18 => ?_) (fun c_18 => ?_)
                  · have h := h.1 c_18
                    refine lv_aload_n hx hb dX5_minutesUntil_73 rfl (lv_at hl 2 rfl) ?_
                    refine va_get (D := G) (ci := 5) (v := .ref (ad 2 0)) (C := RX5) (T := TX5) (N := 4) hx hb hts hinX5 hown hK hP 0 rfl rfl 1 (by decide) hL16 (fun _ h9 => h9) rfl dX5_minutesUntil_74 ?_
                    refine lv_iconst (v := 1) hx hb dX5_minutesUntil_77 (by decide) ?_
                    refine kc_v (As := [.int 1]) (rest := []) (wg := (fun u => (wA cI cC cD ad (uX D_9 2 u) rf))) ⟨hx, hb, hml, hown, hts⟩ (c_X0_letPass l G cI cC cD (ad 2) _ (D_9 2) 1 _ h) (cwV 1 hts gX5_minutesUntil_X0_letPass rfl rfl rfl (by decide +kernel) ⟨Nat.le_of_ble_eq_true rfl, Nat.le_of_ble_eq_true rfl⟩) hK hN hP hD hS hA (em_A_2 cI cC cD ad D_9 rf) (fun u => rp_A_2 cI cC cD ad D_9 rf u) rfl rfl rfl rfl hl.1 rfl (Nat.le_of_ble_eq_true rfl) dX5_minutesUntil_78 ⟨Nat.zero_le _, Nat.zero_le _⟩ (fun u_19 H locs h hP hD hS => ?_)
                    refine lv_iinc (v := x3_8 + 1) (lv' := [(3, .int (x3_8 + 1)), (4, .int r_16), (0, .ref (ad 0 0)), (1, .int x), (2, .int y)]) hx hb dX5_minutesUntil_81 hl (k := 1) rfl rfl (by decide) rfl (fun ls hl => ?_)
                    refine lv_goto (tgt := 36) hx hb dX5_minutesUntil_84 (by decide) ?_
                    obtain ⟨n_20, lt_21, h_22⟩ := h
                    exact ih_10 n_20 lt_21 _ _ h_22 _ _ _ hP hD hS (lv_sub hl [0, 2, 3, 4] rfl)
                  · have h := h.2 c_18
                    refine lv_iload_n hx hb dX5_minutesUntil_71 rfl (lv_at hl 1 rfl) ?_
                    exact W.iret (v := x3_8) hx hb hr (fun t ht hW => ⟨⟨x3_8, D_9, rfl, h, by rw [ht]; exact hP, hD⟩, hS.F ht⟩) hS.2.2 dX5_minutesUntil_72
                · have h := h.1 c_17
                  refine lv_iload hx hb dX5_minutesUntil_56 (lv_at hl 0 rfl) ?_
                  refine lv_iload_n hx hb dX5_minutesUntil_58 rfl (lv_at hl 3 rfl) ?_
                  refine lv_icmp_lt (tgt := 73) hx hb dX5_minutesUntil_59 (by decide) (fun c_23 => ?_) (fun c_23 => ?_)
                  · have h := h.1 c_23
                    refine lv_aload_n hx hb dX5_minutesUntil_73 rfl (lv_at hl 2 rfl) ?_
                    refine va_get (D := G) (ci := 5) (v := .ref (ad 2 0)) (C := RX5) (T := TX5) (N := 4) hx hb hts hinX5 hown hK hP 0 rfl rfl 1 (by decide) hL16 (fun _ h9 => h9) rfl dX5_minutesUntil_74 ?_
                    refine lv_iconst (v := 1) hx hb dX5_minutesUntil_77 (by decide) ?_
                    refine kc_v (As := [.int 1]) (rest := []) (wg := (fun u => (wA cI cC cD ad (uX D_9 2 u) rf))) ⟨hx, hb, hml, hown, hts⟩ (c_X0_letPass l G cI cC cD (ad 2) _ (D_9 2) 1 _ h) (cwV 1 hts gX5_minutesUntil_X0_letPass rfl rfl rfl (by decide +kernel) ⟨Nat.le_of_ble_eq_true rfl, Nat.le_of_ble_eq_true rfl⟩) hK hN hP hD hS hA (em_A_2 cI cC cD ad D_9 rf) (fun u => rp_A_2 cI cC cD ad D_9 rf u) rfl rfl rfl rfl hl.1 rfl (Nat.le_of_ble_eq_true rfl) dX5_minutesUntil_78 ⟨Nat.zero_le _, Nat.zero_le _⟩ (fun u_24 H locs h hP hD hS => ?_)
                    refine lv_iinc (v := x3_8 + 1) (lv' := [(3, .int (x3_8 + 1)), (4, .int r_16), (0, .ref (ad 0 0)), (1, .int x), (2, .int y)]) hx hb dX5_minutesUntil_81 hl (k := 1) rfl rfl (by decide) rfl (fun ls hl => ?_)
                    refine lv_goto (tgt := 36) hx hb dX5_minutesUntil_84 (by decide) ?_
                    obtain ⟨n_25, lt_26, h_27⟩ := h
                    exact ih_10 n_25 lt_26 _ _ h_27 _ _ _ hP hD hS (lv_sub hl [0, 2, 3, 4] rfl)
                  · have h := h.2 c_23
                    refine lv_goto (tgt := 71) hx hb dX5_minutesUntil_62 (by decide) ?_
                    refine lv_iload_n hx hb dX5_minutesUntil_71 rfl (lv_at hl 1 rfl) ?_
                    exact W.iret (v := x3_8) hx hb hr (fun t ht hW => ⟨⟨x3_8, D_9, rfl, h, by rw [ht]; exact hP, hD⟩, hS.F ht⟩) hS.2.2 dX5_minutesUntil_72
          exact lp_14 _ _ _ h_12 _ _ _ hP hD hS hl
        · have h := h.2 c_4
          refine lv_ldc hx hb hown (hts (.constant RX5 87 (-1000001)) (by decide +kernel)) dX5_minutesUntil_20 ?_
          exact W.iret (v := (-1000001)) hx hb hr (fun t ht hW => ⟨⟨(-1000001), X, rfl, h, by rw [ht]; exact hP, hD⟩, hS.F ht⟩) hS.2.2 dX5_minutesUntil_22
def q_X5_minutesToRestBy (x : Int32) (X : (Nat → St)) (Q : Int32 → (Nat → St) → Prop) : Prop :=
  q_X0_copyFrom (X 2) (X 1) (fun u_1 => q_X0_changeSetting 2 x u_1 (fun r_2 u_3 => ∃ (I_5 : Nat → Int32 → (Nat → St) → Prop) (n_9 : Nat), I_5 n_9 0 (uX (uX X 2 u_1) 2 u_3) ∧ ∀ (n_4 : Nat) (x2_6 : Int32) (D_7 : (Nat → St)), I_5 n_4 x2_6 D_7 → ((1000 < x2_6 → Q (-1000004) D_7) ∧ (¬ (1000 < x2_6) → q_X0_rests (D_7 2) (fun r_14 => (r_14 = 0 → q_X0_letPass 1 (D_7 2) (fun u_16 => ∃ n_17, n_17 < n_4 ∧ I_5 n_17 (x2_6 + 1) (uX D_7 2 u_16))) ∧ (¬ (r_14 = 0) → Q x2_6 D_7))))))
set_option maxHeartbeats 4000000 in
set_option maxRecDepth 100000 in
theorem c_X5_minutesToRestBy (l : Launch) (G : va_G) (cI cC cD : ClassId) (ad : Nat → Nat → Nat) (rf : Nat → Option Nat) (hrf : rfOk ad rf) (sz : Nat) (X : (Nat → St)) (x : Int32) (Q : Int32 → (Nat → St) → Prop) (h : q_X5_minutesToRestBy x X Q) : Met l yX5_minutesToRestBy wsX5_minutesToRestBy ({ frames := 4, cells := 0, slots := 0, locals := 89 }) (va_Pc [.ref (ad 0 0), .int x] (PW G (ty3 cI cC cD) (wA cI cC cD ad X rf) sz)) (va_Qi Q (BW G (fun u : (Nat → St) => (wA cI cC cD ad u rf)) (va_A (wA cI cC cD ad X rf) sz)) (va_A (wA cI cC cD ad X rf) sz)) 0 0 (va_A (wA cI cC cD ad X rf) sz) := by
  refine Met.ofW (cc := cX5_minutesToRestBy) (maxL := 3) (ret := (some .int)) (by decide) rfl ?_
  intro p e s m args below meth c s₁ B hml hv
  obtain ⟨rfl, hsz, hP, hK, hD0, hN⟩ := hv
  have hx := B.exec
  have hb := B.bytes
  have hr := B.returns
  have hts := atoms_spec (ws := wsX5_minutesToRestBy) B.pre
  have hown : s.vm.findClass RX5 = some m.cls := findClass_of_methodNamed B.named
  have hlocks := B.notSynchronized
  subst hsz
  have hD := hD0.self (sz := s.heap.size)
  generalize hAe : va_A (wA cI cC cD ad X rf) s.heap.size = A at hD ⊢
  have hA : ∀ q : Nat, s.heap.size ≤ q → A q := fun q h => by rw [← hAe]; exact Or.inr h
  have hS : va_S A s.heap s.heap [] := va_S.rf
  have hl := lv_entry ([.ref (ad 0 0), .int x]) (n := 3) (Nat.le_of_ble_eq_true rfl)
  rw [lg_entry_eq]
  generalize (lg_sl ([.ref (ad 0 0), .int x]) ++ List.replicate (3 - (lg_sl ([.ref (ad 0 0), .int x])).length) Slot.unset).toArray = ls at hl ⊢
  have hl : lv_has ls 3 [(0, .ref (ad 0 0)), (1, .int x)] := hl
  have hinX5 : ∀ w ∈ wsX50, w ∈ wsX5_minutesToRestBy := by decide +kernel
  have hL10 := hts (.fieldLink RX5 10 "CraneGates" "dam" "LCraneGates$Dam;") (by decide +kernel)
  have hL16 := hts (.fieldLink RX5 16 "CraneGates" "trial" "LCraneGates$Dam;") (by decide +kernel)
  unfold q_X5_minutesToRestBy at h
  refine lv_aload_n hx hb dX5_minutesToRestBy_0 rfl (lv_at hl 0 rfl) ?_
  refine va_get (D := G) (ci := 5) (v := .ref (ad 2 0)) (C := RX5) (T := TX5) (N := 4) hx hb hts hinX5 hown hK hP 0 rfl rfl 1 (by decide) hL16 (fun _ h9 => h9) rfl dX5_minutesToRestBy_1 ?_
  refine lv_aload_n hx hb dX5_minutesToRestBy_4 rfl (lv_at hl 0 rfl) ?_
  refine va_get (D := G) (ci := 5) (v := .ref (ad 1 0)) (C := RX5) (T := TX5) (N := 4) hx hb hts hinX5 hown hK hP 0 rfl rfl 0 (by decide) hL10 (fun _ h9 => h9) rfl dX5_minutesToRestBy_5 ?_
  refine kc_v (As := [.ref (ad 1 0)]) (rest := []) (wg := (fun u => (wA cI cC cD ad (uX X 2 u) rf))) ⟨hx, hb, hml, hown, hts⟩ (c_X0_copyFrom l G cI cC cD (ad 2) (ad 1) _ (X 2) (X 1)  _ h) (cwV 1 hts gX5_minutesToRestBy_X0_copyFrom rfl rfl rfl (by decide +kernel) ⟨Nat.le_of_ble_eq_true rfl, Nat.le_of_ble_eq_true rfl⟩) hK hN hP hD hS hA (em_A_21 cI cC cD ad X rf) (fun u => rp_A_21 cI cC cD ad X rf u) rfl rfl rfl rfl hl.1 rfl (Nat.le_of_ble_eq_true rfl) dX5_minutesToRestBy_8 ⟨Nat.zero_le _, Nat.zero_le _⟩ (fun u_1 H locs h hP hD hS => ?_)
  refine lv_aload_n hx hb dX5_minutesToRestBy_11 rfl (lv_at hl 0 rfl) ?_
  refine va_get (D := G) (ci := 5) (v := .ref (ad 2 0)) (C := RX5) (T := TX5) (N := 4) hx hb hts hinX5 hown hK hP 0 rfl rfl 1 (by decide) hL16 (fun _ h9 => h9) rfl dX5_minutesToRestBy_12 ?_
  refine lv_iconst (v := 2) hx hb dX5_minutesToRestBy_15 (by decide) ?_
  refine lv_iload_n hx hb dX5_minutesToRestBy_16 rfl (lv_at hl 1 rfl) ?_
  refine kc_i (As := [.int 2, .int x]) (rest := []) (wg := (fun u => (wA cI cC cD ad (uX (uX X 2 u_1) 2 u) rf))) ⟨hx, hb, hml, hown, hts⟩ (c_X0_changeSetting l G cI cC cD (ad 2) _ u_1 2 x _ h) (cwV 2 hts gX5_minutesToRestBy_X0_changeSetting rfl rfl rfl (by decide +kernel) ⟨Nat.le_of_ble_eq_true rfl, Nat.le_of_ble_eq_true rfl⟩) hK hN hP hD hS hA (em_A_2 cI cC cD ad (uX X 2 u_1) rf) (fun u => rp_A_2 cI cC cD ad (uX X 2 u_1) rf u) rfl rfl rfl rfl hl.1 rfl (Nat.le_of_ble_eq_true rfl) dX5_minutesToRestBy_17 ⟨Nat.zero_le _, Nat.zero_le _⟩ (fun r_2 u_3 H locs h hP hD hS => ?_)
  refine lv_pop hx hb dX5_minutesToRestBy_20 rfl ?_
  refine lv_iconst (v := 0) hx hb dX5_minutesToRestBy_21 (by decide) ?_
  refine lv_istore_n (lv' := [(2, .int 0), (0, .ref (ad 0 0)), (1, .int x)]) hx hb dX5_minutesToRestBy_22 rfl hl (by decide) rfl (fun ls hl => ?_)
  obtain ⟨I_5, n_9, h_10, hI_11⟩ := h
  have lp_12 : ∀ (n_4 : Nat) (x2_6 : Int32) (D_7 : (Nat → St)), I_5 n_4 x2_6 D_7 → ∀ (H : Heap) (locs : List Loc) (ls : Array Slot), va_P G vwCl (wA cI cC cD ad D_7 rf) H → va_D A (wA cI cC cD ad D_7 rf) → va_S A s.heap H locs → lv_has ls 3 [(2, .int x2_6), (0, .ref (ad 0 0)), (1, .int x)] → W p l e (headSpec wsX5_minutesToRestBy ({ frames := 4, cells := 0, slots := 0, locals := 89 })).room s m ([.ref (ad 0 0), .int x] : List Value).toArray below meth c H locs 0 0 (MQ below (va_Qi Q (BW G (fun u : (Nat → St) => (wA cI cC cD ad u rf)) A) A) ([.ref (ad 0 0), .int x] : List Value).toArray s 0 0 A) (F0 m 23 ls []) := by
    intro n_4
    induction n_4 using Nat.strongRecOn with
    | ind n_4 ih_8 =>
      intro x2_6 D_7 hIn H locs ls hP hD hS hl
      have h := hI_11 n_4 x2_6 D_7 hIn
      refine lv_iload_n hx hb dX5_minutesToRestBy_23 rfl (lv_at hl 0 rfl) ?_
      refine lv_sipush (v := 1000) hx hb dX5_minutesToRestBy_24 (by decide) ?_
      refine lv_icmp_gt (tgt := 56) hx hb dX5_minutesToRestBy_27 (by decide) (fun c_13 => ?_) (fun c_13 => ?_)
      · have h := h.1 c_13
        refine lv_ldc hx hb hown (hts (.constant RX5 94 (-1000004)) (by decide +kernel)) dX5_minutesToRestBy_56 ?_
        exact W.iret (v := (-1000004)) hx hb hr (fun t ht hW => ⟨⟨(-1000004), D_7, rfl, h, by rw [ht]; exact hP, hD⟩, hS.F ht⟩) hS.2.2 dX5_minutesToRestBy_58
      · have h := h.2 c_13
        refine lv_aload_n hx hb dX5_minutesToRestBy_30 rfl (lv_at hl 1 rfl) ?_
        refine va_get (D := G) (ci := 5) (v := .ref (ad 2 0)) (C := RX5) (T := TX5) (N := 4) hx hb hts hinX5 hown hK hP 0 rfl rfl 1 (by decide) hL16 (fun _ h9 => h9) rfl dX5_minutesToRestBy_31 ?_
        refine kc_i (As := []) (rest := []) (wg := (fun _ => (wA cI cC cD ad D_7 rf))) ⟨hx, hb, hml, hown, hts⟩ (c_X0_rests l G cI cC cD (ad 2) _ (D_7 2)  _ h) (cwV 0 hts gX5_minutesToRestBy_X0_rests rfl rfl rfl (by decide +kernel) ⟨Nat.le_of_ble_eq_true rfl, Nat.le_of_ble_eq_true rfl⟩) hK hN hP hD hS hA (em_A_2 cI cC cD ad D_7 rf) (fun _ => rp_self (em_A_2 cI cC cD ad D_7 rf)) rfl rfl rfl rfl hl.1 rfl (Nat.le_of_ble_eq_true rfl) dX5_minutesToRestBy_34 ⟨Nat.zero_le _, Nat.zero_le _⟩ (fun r_14 _ H locs h hP hD hS => ?_)
        refine lv_if_eq (tgt := 42) hx hb dX5_minutesToRestBy_37 (by decide) (fun c_15 => ?_) (fun c_15 => ?_)
        · have h := h.1 c_15
          refine lv_aload_n hx hb dX5_minutesToRestBy_42 rfl (lv_at hl 1 rfl) ?_
          refine va_get (D := G) (ci := 5) (v := .ref (ad 2 0)) (C := RX5) (T := TX5) (N := 4) hx hb hts hinX5 hown hK hP 0 rfl rfl 1 (by decide) hL16 (fun _ h9 => h9) rfl dX5_minutesToRestBy_43 ?_
          refine lv_iconst (v := 1) hx hb dX5_minutesToRestBy_46 (by decide) ?_
          refine kc_v (As := [.int 1]) (rest := []) (wg := (fun u => (wA cI cC cD ad (uX D_7 2 u) rf))) ⟨hx, hb, hml, hown, hts⟩ (c_X0_letPass l G cI cC cD (ad 2) _ (D_7 2) 1 _ h) (cwV 1 hts gX5_minutesToRestBy_X0_letPass rfl rfl rfl (by decide +kernel) ⟨Nat.le_of_ble_eq_true rfl, Nat.le_of_ble_eq_true rfl⟩) hK hN hP hD hS hA (em_A_2 cI cC cD ad D_7 rf) (fun u => rp_A_2 cI cC cD ad D_7 rf u) rfl rfl rfl rfl hl.1 rfl (Nat.le_of_ble_eq_true rfl) dX5_minutesToRestBy_47 ⟨Nat.zero_le _, Nat.zero_le _⟩ (fun u_16 H locs h hP hD hS => ?_)
          refine lv_iinc (v := x2_6 + 1) (lv' := [(2, .int (x2_6 + 1)), (0, .ref (ad 0 0)), (1, .int x)]) hx hb dX5_minutesToRestBy_50 hl (k := 0) rfl rfl (by decide) rfl (fun ls hl => ?_)
          refine lv_goto (tgt := 23) hx hb dX5_minutesToRestBy_53 (by decide) ?_
          obtain ⟨n_17, lt_18, h_19⟩ := h
          exact ih_8 n_17 lt_18 _ _ h_19 _ _ _ hP hD hS (lv_sub hl [0, 1, 2] rfl)
        · have h := h.2 c_15
          refine lv_iload_n hx hb dX5_minutesToRestBy_40 rfl (lv_at hl 0 rfl) ?_
          exact W.iret (v := x2_6) hx hb hr (fun t ht hW => ⟨⟨x2_6, D_7, rfl, h, by rw [ht]; exact hP, hD⟩, hS.F ht⟩) hS.2.2 dX5_minutesToRestBy_41
  exact lp_12 _ _ _ h_10 _ _ _ hP hD hS hl
def q_X5_minutesToRest (X : (Nat → St)) (Q : Int32 → (Nat → St) → Prop) : Prop :=
  q_X0_rule (X 1) (fun r_1 => q_X5_minutesToRestBy r_1 X (fun r_2 u_3 => Q r_2 u_3))
set_option maxHeartbeats 4000000 in
set_option maxRecDepth 100000 in
theorem c_X5_minutesToRest (l : Launch) (G : va_G) (cI cC cD : ClassId) (ad : Nat → Nat → Nat) (rf : Nat → Option Nat) (hrf : rfOk ad rf) (sz : Nat) (X : (Nat → St))  (Q : Int32 → (Nat → St) → Prop) (h : q_X5_minutesToRest  X Q) : Met l yX5_minutesToRest wsX5_minutesToRest ({ frames := 5, cells := 0, slots := 0, locals := 111 }) (va_Pc [.ref (ad 0 0)] (PW G (ty3 cI cC cD) (wA cI cC cD ad X rf) sz)) (va_Qi Q (BW G (fun u : (Nat → St) => (wA cI cC cD ad u rf)) (va_A (wA cI cC cD ad X rf) sz)) (va_A (wA cI cC cD ad X rf) sz)) 0 0 (va_A (wA cI cC cD ad X rf) sz) := by
  refine Met.ofW (cc := cX5_minutesToRest) (maxL := 1) (ret := (some .int)) (by decide) rfl ?_
  intro p e s m args below meth c s₁ B hml hv
  obtain ⟨rfl, hsz, hP, hK, hD0, hN⟩ := hv
  have hx := B.exec
  have hb := B.bytes
  have hr := B.returns
  have hts := atoms_spec (ws := wsX5_minutesToRest) B.pre
  have hown : s.vm.findClass RX5 = some m.cls := findClass_of_methodNamed B.named
  have hlocks := B.notSynchronized
  subst hsz
  have hD := hD0.self (sz := s.heap.size)
  generalize hAe : va_A (wA cI cC cD ad X rf) s.heap.size = A at hD ⊢
  have hA : ∀ q : Nat, s.heap.size ≤ q → A q := fun q h => by rw [← hAe]; exact Or.inr h
  have hS : va_S A s.heap s.heap [] := va_S.rf
  have hl := lv_entry ([.ref (ad 0 0)]) (n := 1) (Nat.le_of_ble_eq_true rfl)
  rw [lg_entry_eq]
  generalize (lg_sl ([.ref (ad 0 0)]) ++ List.replicate (1 - (lg_sl ([.ref (ad 0 0)])).length) Slot.unset).toArray = ls at hl ⊢
  have hl : lv_has ls 1 [(0, .ref (ad 0 0))] := hl
  have hinX5 : ∀ w ∈ wsX50, w ∈ wsX5_minutesToRest := by decide +kernel
  have hL10 := hts (.fieldLink RX5 10 "CraneGates" "dam" "LCraneGates$Dam;") (by decide +kernel)
  unfold q_X5_minutesToRest at h
  refine lv_aload_n hx hb dX5_minutesToRest_0 rfl (lv_at hl 0 rfl) ?_
  refine lv_aload_n hx hb dX5_minutesToRest_1 rfl (lv_at hl 0 rfl) ?_
  refine va_get (D := G) (ci := 5) (v := .ref (ad 1 0)) (C := RX5) (T := TX5) (N := 4) hx hb hts hinX5 hown hK hP 0 rfl rfl 0 (by decide) hL10 (fun _ h9 => h9) rfl dX5_minutesToRest_2 ?_
  refine kc_i (As := []) (rest := [.ref (ad 0 0)]) (wg := (fun _ => (wA cI cC cD ad X rf))) ⟨hx, hb, hml, hown, hts⟩ (c_X0_rule l G cI cC cD (ad 1) _ (X 1)  _ h) (cwV 0 hts gX5_minutesToRest_X0_rule rfl rfl rfl (by decide +kernel) ⟨Nat.le_of_ble_eq_true rfl, Nat.le_of_ble_eq_true rfl⟩) hK hN hP hD hS hA (em_A_1 cI cC cD ad X rf) (fun _ => rp_self (em_A_1 cI cC cD ad X rf)) rfl rfl rfl rfl hl.1 rfl (Nat.le_of_ble_eq_true rfl) dX5_minutesToRest_5 ⟨Nat.zero_le _, Nat.zero_le _⟩ (fun r_1 _ H locs h hP hD hS => ?_)
  refine kw_i (k0 := 0) (As := [.int r_1]) (rest := []) ⟨hx, hb, hml, hown, hts⟩ (c_X5_minutesToRestBy l G cI cC cD ad rf hrf _ X r_1 _ h) (cwV 1 hts gX5_minutesToRest_X5_minutesToRestBy rfl rfl rfl (by decide +kernel) ⟨Nat.le_of_ble_eq_true rfl, Nat.le_of_ble_eq_true rfl⟩) hK hN hP hD hS hA rfl rfl rfl rfl hl.1 rfl (Nat.le_of_ble_eq_true rfl) dX5_minutesToRest_8 ⟨Nat.zero_le _, Nat.zero_le _⟩ (fun r_2 u_3 H locs h hP hD hS => ?_)
  exact W.iret (v := r_2) hx hb hr (fun t ht hW => ⟨⟨r_2, u_3, rfl, h, by rw [ht]; exact hP, hD⟩, hS.F ht⟩) hS.2.2 dX5_minutesToRest_11
def q_X5_bestRule (x : Int32) (X : (Nat → St)) (Q : Int32 → (Nat → St) → Prop) : Prop :=
  (x < 0 → Q (-1000001) X) ∧ (¬ (x < 0) → (x ≤ 1 → ∃ (I_4 : Nat → Int32 → Int32 → Int32 → (Nat → St) → Prop) (n_10 : Nat), I_4 n_10 0 (-1000004) (-1000004) X ∧ ∀ (n_3 : Nat) (x4_5 : Int32) (x3_6 : Int32) (x2_7 : Int32) (D_8 : (Nat → St)), I_4 n_3 x4_5 x3_6 x2_7 D_8 → ((2 < x4_5 → (x = 0 → Q x2_7 D_8) ∧ (¬ (x = 0) → Q x3_6 D_8)) ∧ (¬ (2 < x4_5) → q_X5_minutesToRestBy x4_5 D_8 (fun r_16 u_17 => (r_16 = (-1000004) → ∃ n_19, n_19 < n_3 ∧ I_4 n_19 (x4_5 + 1) x3_6 x2_7 u_17) ∧ (¬ (r_16 = (-1000004)) → (x2_7 = (-1000004) → ∃ n_23, n_23 < n_3 ∧ I_4 n_23 (x4_5 + 1) r_16 x4_5 u_17) ∧ (¬ (x2_7 = (-1000004)) → (x3_6 ≤ r_16 → ∃ n_27, n_27 < n_3 ∧ I_4 n_27 (x4_5 + 1) x3_6 x2_7 u_17) ∧ (¬ (x3_6 ≤ r_16) → ∃ n_30, n_30 < n_3 ∧ I_4 n_30 (x4_5 + 1) r_16 x4_5 u_17))))))) ∧ (¬ (x ≤ 1) → Q (-1000001) X))
set_option maxHeartbeats 4000000 in
set_option maxRecDepth 100000 in
theorem c_X5_bestRule (l : Launch) (G : va_G) (cI cC cD : ClassId) (ad : Nat → Nat → Nat) (rf : Nat → Option Nat) (hrf : rfOk ad rf) (sz : Nat) (X : (Nat → St)) (x : Int32) (Q : Int32 → (Nat → St) → Prop) (h : q_X5_bestRule x X Q) : Met l yX5_bestRule wsX5_bestRule ({ frames := 5, cells := 0, slots := 0, locals := 111 }) (va_Pc [.ref (ad 0 0), .int x] (PW G (ty3 cI cC cD) (wA cI cC cD ad X rf) sz)) (va_Qi Q (BW G (fun u : (Nat → St) => (wA cI cC cD ad u rf)) (va_A (wA cI cC cD ad X rf) sz)) (va_A (wA cI cC cD ad X rf) sz)) 0 0 (va_A (wA cI cC cD ad X rf) sz) := by
  refine Met.ofW (cc := cX5_bestRule) (maxL := 6) (ret := (some .int)) (by decide) rfl ?_
  intro p e s m args below meth c s₁ B hml hv
  obtain ⟨rfl, hsz, hP, hK, hD0, hN⟩ := hv
  have hx := B.exec
  have hb := B.bytes
  have hr := B.returns
  have hts := atoms_spec (ws := wsX5_bestRule) B.pre
  have hown : s.vm.findClass RX5 = some m.cls := findClass_of_methodNamed B.named
  have hlocks := B.notSynchronized
  subst hsz
  have hD := hD0.self (sz := s.heap.size)
  generalize hAe : va_A (wA cI cC cD ad X rf) s.heap.size = A at hD ⊢
  have hA : ∀ q : Nat, s.heap.size ≤ q → A q := fun q h => by rw [← hAe]; exact Or.inr h
  have hS : va_S A s.heap s.heap [] := va_S.rf
  have hl := lv_entry ([.ref (ad 0 0), .int x]) (n := 6) (Nat.le_of_ble_eq_true rfl)
  rw [lg_entry_eq]
  generalize (lg_sl ([.ref (ad 0 0), .int x]) ++ List.replicate (6 - (lg_sl ([.ref (ad 0 0), .int x])).length) Slot.unset).toArray = ls at hl ⊢
  have hl : lv_has ls 6 [(0, .ref (ad 0 0)), (1, .int x)] := hl
  unfold q_X5_bestRule at h
  refine lv_iload_n hx hb dX5_bestRule_0 rfl (lv_at hl 1 rfl) ?_
  refine lv_if_lt (tgt := 9) hx hb dX5_bestRule_1 (by decide) (fun c_1 => ?_) (fun c_1 => ?_)
  · have h := h.1 c_1
    refine lv_ldc hx hb hown (hts (.constant RX5 87 (-1000001)) (by decide +kernel)) dX5_bestRule_9 ?_
    exact W.iret (v := (-1000001)) hx hb hr (fun t ht hW => ⟨⟨(-1000001), X, rfl, h, by rw [ht]; exact hP, hD⟩, hS.F ht⟩) hS.2.2 dX5_bestRule_11
  · have h := h.2 c_1
    refine lv_iload_n hx hb dX5_bestRule_4 rfl (lv_at hl 1 rfl) ?_
    refine lv_iconst (v := 1) hx hb dX5_bestRule_5 (by decide) ?_
    refine lv_icmp_le (tgt := 12) hx hb dX5_bestRule_6 (by decide) (fun c_2 => ?_) (fun c_2 => ?_)
    · have h := h.1 c_2
      refine lv_ldc hx hb hown (hts (.constant RX5 94 (-1000004)) (by decide +kernel)) dX5_bestRule_12 ?_
      refine lv_istore_n (lv' := [(2, .int (-1000004)), (0, .ref (ad 0 0)), (1, .int x)]) hx hb dX5_bestRule_14 rfl hl (by decide) rfl (fun ls hl => ?_)
      refine lv_ldc hx hb hown (hts (.constant RX5 94 (-1000004)) (by decide +kernel)) dX5_bestRule_15 ?_
      refine lv_istore_n (lv' := [(3, .int (-1000004)), (2, .int (-1000004)), (0, .ref (ad 0 0)), (1, .int x)]) hx hb dX5_bestRule_17 rfl hl (by decide) rfl (fun ls hl => ?_)
      refine lv_iconst (v := 0) hx hb dX5_bestRule_18 (by decide) ?_
      refine lv_istore (lv' := [(4, .int 0), (3, .int (-1000004)), (2, .int (-1000004)), (0, .ref (ad 0 0)), (1, .int x)]) hx hb dX5_bestRule_19 hl (by decide) rfl (fun ls hl => ?_)
      obtain ⟨I_4, n_10, h_11, hI_12⟩ := h
      have lp_13 : ∀ (n_3 : Nat) (x4_5 : Int32) (x3_6 : Int32) (x2_7 : Int32) (D_8 : (Nat → St)), I_4 n_3 x4_5 x3_6 x2_7 D_8 → ∀ (H : Heap) (locs : List Loc) (ls : Array Slot), va_P G vwCl (wA cI cC cD ad D_8 rf) H → va_D A (wA cI cC cD ad D_8 rf) → va_S A s.heap H locs → lv_has ls 6 [(4, .int x4_5), (3, .int x3_6), (2, .int x2_7), (0, .ref (ad 0 0)), (1, .int x)] → W p l e (headSpec wsX5_bestRule ({ frames := 5, cells := 0, slots := 0, locals := 111 })).room s m ([.ref (ad 0 0), .int x] : List Value).toArray below meth c H locs 0 0 (MQ below (va_Qi Q (BW G (fun u : (Nat → St) => (wA cI cC cD ad u rf)) A) A) ([.ref (ad 0 0), .int x] : List Value).toArray s 0 0 A) (F0 m 21 ls []) := by
        intro n_3
        induction n_3 using Nat.strongRecOn with
        | ind n_3 ih_9 =>
          intro x4_5 x3_6 x2_7 D_8 hIn H locs ls hP hD hS hl
          have h := hI_12 n_3 x4_5 x3_6 x2_7 D_8 hIn
          refine lv_iload hx hb dX5_bestRule_21 (lv_at hl 0 rfl) ?_
          refine lv_iconst (v := 2) hx hb dX5_bestRule_23 (by decide) ?_
          refine lv_icmp_gt (tgt := 66) hx hb dX5_bestRule_24 (by decide) (fun c_14 => ?_) (fun c_14 => ?_)
          · have h := h.1 c_14
            refine lv_iload_n hx hb dX5_bestRule_66 rfl (lv_at hl 4 rfl) ?_
            refine lv_if_ne (tgt := 74) hx hb dX5_bestRule_67 (by decide) (fun c_15 => ?_) (fun c_15 => ?_)
            · have h := h.2 c_15
              refine lv_iload_n hx hb dX5_bestRule_74 rfl (lv_at hl 1 rfl) ?_
              exact W.iret (v := x3_6) hx hb hr (fun t ht hW => ⟨⟨x3_6, D_8, rfl, h, by rw [ht]; exact hP, hD⟩, hS.F ht⟩) hS.2.2 dX5_bestRule_75
            · have h := h.1 c_15
              refine lv_iload_n hx hb dX5_bestRule_70 rfl (lv_at hl 2 rfl) ?_
              refine lv_goto (tgt := 75) hx hb dX5_bestRule_71 (by decide) ?_
              exact W.iret (v := x2_7) hx hb hr (fun t ht hW => ⟨⟨x2_7, D_8, rfl, h, by rw [ht]; exact hP, hD⟩, hS.F ht⟩) hS.2.2 dX5_bestRule_75
          · have h := h.2 c_14
            refine lv_aload_n hx hb dX5_bestRule_27 rfl (lv_at hl 3 rfl) ?_
            refine lv_iload hx hb dX5_bestRule_28 (lv_at hl 0 rfl) ?_
            refine kw_i (k0 := 0) (As := [.int x4_5]) (rest := []) ⟨hx, hb, hml, hown, hts⟩ (c_X5_minutesToRestBy l G cI cC cD ad rf hrf _ D_8 x4_5 _ h) (cwV 1 hts gX5_bestRule_X5_minutesToRestBy rfl rfl rfl (by decide +kernel) ⟨Nat.le_of_ble_eq_true rfl, Nat.le_of_ble_eq_true rfl⟩) hK hN hP hD hS hA rfl rfl rfl rfl hl.1 rfl (Nat.le_of_ble_eq_true rfl) dX5_bestRule_30 ⟨Nat.zero_le _, Nat.zero_le _⟩ (fun r_16 u_17 H locs h hP hD hS => ?_)
            refine lv_istore (lv' := [(5, .int r_16), (4, .int x4_5), (3, .int x3_6), (2, .int x2_7), (0, .ref (ad 0 0)), (1, .int x)]) hx hb dX5_bestRule_33 hl (by decide) rfl (fun ls hl => ?_)
            refine lv_iload hx hb dX5_bestRule_35 (lv_at hl 0 rfl) ?_
            refine lv_ldc hx hb hown (hts (.constant RX5 94 (-1000004)) (by decide +kernel)) dX5_bestRule_37 ?_
            refine lv_icmp_eq (tgt := 60) hx hb dX5_bestRule_39 (by decide) (fun c_18 => ?_) (fun c_18 => ?_)
            · have h := h.1 c_18
              refine lv_iinc (v := x4_5 + 1) (lv' := [(4, .int (x4_5 + 1)), (5, .int r_16), (3, .int x3_6), (2, .int x2_7), (0, .ref (ad 0 0)), (1, .int x)]) hx hb dX5_bestRule_60 hl (k := 1) rfl rfl (by decide) rfl (fun ls hl => ?_)
              refine lv_goto (tgt := 21) hx hb dX5_bestRule_63 (by decide) ?_
              obtain ⟨n_19, lt_20, h_21⟩ := h
              exact ih_9 n_19 lt_20 _ _ _ _ h_21 _ _ _ hP hD hS (lv_sub hl [0, 2, 3, 4, 5] rfl)
            · have h := h.2 c_18
              refine lv_iload_n hx hb dX5_bestRule_42 rfl (lv_at hl 3 rfl) ?_
              refine lv_ldc hx hb hown (hts (.constant RX5 94 (-1000004)) (by decide +kernel)) dX5_bestRule_43 ?_
              refine lv_icmp_eq (tgt := 54) hx hb dX5_bestRule_45 (by decide) (fun c_22 => ?_) (fun c_22 => ?_)
              · have h := h.1 c_22
                refine lv_iload hx hb dX5_bestRule_54 (lv_at hl 1 rfl) ?_
                refine lv_istore_n (lv' := [(2, .int x4_5), (5, .int r_16), (4, .int x4_5), (3, .int x3_6), (0, .ref (ad 0 0)), (1, .int x)]) hx hb dX5_bestRule_56 rfl hl (by decide) rfl (fun ls hl => ?_)
                refine lv_iload hx hb dX5_bestRule_57 (lv_at hl 1 rfl) ?_
                refine lv_istore_n (lv' := [(3, .int r_16), (2, .int x4_5), (5, .int r_16), (4, .int x4_5), (0, .ref (ad 0 0)), (1, .int x)]) hx hb dX5_bestRule_59 rfl hl (by decide) rfl (fun ls hl => ?_)
                refine lv_iinc (v := x4_5 + 1) (lv' := [(4, .int (x4_5 + 1)), (3, .int r_16), (2, .int x4_5), (5, .int r_16), (0, .ref (ad 0 0)), (1, .int x)]) hx hb dX5_bestRule_60 hl (k := 3) rfl rfl (by decide) rfl (fun ls hl => ?_)
                refine lv_goto (tgt := 21) hx hb dX5_bestRule_63 (by decide) ?_
                obtain ⟨n_23, lt_24, h_25⟩ := h
                exact ih_9 n_23 lt_24 _ _ _ _ h_25 _ _ _ hP hD hS (lv_sub hl [0, 1, 2, 4, 5] rfl)
              · have h := h.2 c_22
                refine lv_iload hx hb dX5_bestRule_48 (lv_at hl 0 rfl) ?_
                refine lv_iload_n hx hb dX5_bestRule_50 rfl (lv_at hl 2 rfl) ?_
                refine lv_icmp_ge (tgt := 60) hx hb dX5_bestRule_51 (by decide) (fun c_26 => ?_) (fun c_26 => ?_)
                · have h := h.1 c_26
                  refine lv_iinc (v := x4_5 + 1) (lv' := [(4, .int (x4_5 + 1)), (5, .int r_16), (3, .int x3_6), (2, .int x2_7), (0, .ref (ad 0 0)), (1, .int x)]) hx hb dX5_bestRule_60 hl (k := 1) rfl rfl (by decide) rfl (fun ls hl => ?_)
                  refine lv_goto (tgt := 21) hx hb dX5_bestRule_63 (by decide) ?_
                  obtain ⟨n_27, lt_28, h_29⟩ := h
                  exact ih_9 n_27 lt_28 _ _ _ _ h_29 _ _ _ hP hD hS (lv_sub hl [0, 2, 3, 4, 5] rfl)
                · have h := h.2 c_26
                  refine lv_iload hx hb dX5_bestRule_54 (lv_at hl 1 rfl) ?_
                  refine lv_istore_n (lv' := [(2, .int x4_5), (5, .int r_16), (4, .int x4_5), (3, .int x3_6), (0, .ref (ad 0 0)), (1, .int x)]) hx hb dX5_bestRule_56 rfl hl (by decide) rfl (fun ls hl => ?_)
                  refine lv_iload hx hb dX5_bestRule_57 (lv_at hl 1 rfl) ?_
                  refine lv_istore_n (lv' := [(3, .int r_16), (2, .int x4_5), (5, .int r_16), (4, .int x4_5), (0, .ref (ad 0 0)), (1, .int x)]) hx hb dX5_bestRule_59 rfl hl (by decide) rfl (fun ls hl => ?_)
                  refine lv_iinc (v := x4_5 + 1) (lv' := [(4, .int (x4_5 + 1)), (3, .int r_16), (2, .int x4_5), (5, .int r_16), (0, .ref (ad 0 0)), (1, .int x)]) hx hb dX5_bestRule_60 hl (k := 3) rfl rfl (by decide) rfl (fun ls hl => ?_)
                  refine lv_goto (tgt := 21) hx hb dX5_bestRule_63 (by decide) ?_
                  obtain ⟨n_30, lt_31, h_32⟩ := h
                  exact ih_9 n_30 lt_31 _ _ _ _ h_32 _ _ _ hP hD hS (lv_sub hl [0, 1, 2, 4, 5] rfl)
      exact lp_13 _ _ _ _ _ h_11 _ _ _ hP hD hS hl
    · have h := h.2 c_2
      refine lv_ldc hx hb hown (hts (.constant RX5 87 (-1000001)) (by decide +kernel)) dX5_bestRule_9 ?_
      exact W.iret (v := (-1000001)) hx hb hr (fun t ht hW => ⟨⟨(-1000001), X, rfl, h, by rw [ht]; exact hP, hD⟩, hS.F ht⟩) hS.2.2 dX5_bestRule_11
def q_X5_floodBegins (x : Int32) (y : Int32) (X : (Nat → St)) (Q : Int32 → (Nat → St) → Prop) : Prop :=
  q_X0_copyFrom (X 2) (X 1) (fun u_1 => q_X0_changeInflow x u_1 (fun r_2 u_3 => ∃ (I_5 : Nat → Int32 → (Nat → St) → Prop) (n_9 : Nat), I_5 n_9 (y - 1) (uX (uX X 2 u_1) 2 u_3) ∧ ∀ (n_4 : Nat) (x3_6 : Int32) (D_7 : (Nat → St)), I_5 n_4 x3_6 D_7 → ((x3_6 < 0 → Q 0 D_7) ∧ (¬ (x3_6 < 0) → q_X0_floodIsDue (D_7 2) (fun r_14 => (r_14 = 0 → q_X0_water (D_7 2) (fun r_16 => q_X0_floodLevel (D_7 2) (fun r_17 => (r_17 ≤ (r_16 + (x * x3_6)) → q_X0_letPass 1 (D_7 2) (fun u_19 => ∃ n_20, n_20 < n_4 ∧ I_5 n_20 (x3_6 + (-1)) (uX D_7 2 u_19))) ∧ (¬ (r_17 ≤ (r_16 + (x * x3_6))) → Q 0 D_7)))) ∧ (¬ (r_14 = 0) → Q 1 D_7))))))
set_option maxHeartbeats 4000000 in
set_option maxRecDepth 100000 in
theorem c_X5_floodBegins (l : Launch) (G : va_G) (cI cC cD : ClassId) (ad : Nat → Nat → Nat) (rf : Nat → Option Nat) (hrf : rfOk ad rf) (sz : Nat) (X : (Nat → St)) (x : Int32) (y : Int32) (Q : Int32 → (Nat → St) → Prop) (h : q_X5_floodBegins x y X Q) : Met l yX5_floodBegins wsX5_floodBegins ({ frames := 4, cells := 0, slots := 0, locals := 89 }) (va_Pc [.ref (ad 0 0), .int x, .int y] (PW G (ty3 cI cC cD) (wA cI cC cD ad X rf) sz)) (va_Qi Q (BW G (fun u : (Nat → St) => (wA cI cC cD ad u rf)) (va_A (wA cI cC cD ad X rf) sz)) (va_A (wA cI cC cD ad X rf) sz)) 0 0 (va_A (wA cI cC cD ad X rf) sz) := by
  refine Met.ofW (cc := cX5_floodBegins) (maxL := 4) (ret := (some .boolean)) (by decide) rfl ?_
  intro p e s m args below meth c s₁ B hml hv
  obtain ⟨rfl, hsz, hP, hK, hD0, hN⟩ := hv
  have hx := B.exec
  have hb := B.bytes
  have hr := B.returns
  have hts := atoms_spec (ws := wsX5_floodBegins) B.pre
  have hown : s.vm.findClass RX5 = some m.cls := findClass_of_methodNamed B.named
  have hlocks := B.notSynchronized
  subst hsz
  have hD := hD0.self (sz := s.heap.size)
  generalize hAe : va_A (wA cI cC cD ad X rf) s.heap.size = A at hD ⊢
  have hA : ∀ q : Nat, s.heap.size ≤ q → A q := fun q h => by rw [← hAe]; exact Or.inr h
  have hS : va_S A s.heap s.heap [] := va_S.rf
  have hl := lv_entry ([.ref (ad 0 0), .int x, .int y]) (n := 4) (Nat.le_of_ble_eq_true rfl)
  rw [lg_entry_eq]
  generalize (lg_sl ([.ref (ad 0 0), .int x, .int y]) ++ List.replicate (4 - (lg_sl ([.ref (ad 0 0), .int x, .int y])).length) Slot.unset).toArray = ls at hl ⊢
  have hl : lv_has ls 4 [(0, .ref (ad 0 0)), (1, .int x), (2, .int y)] := hl
  have hinX5 : ∀ w ∈ wsX50, w ∈ wsX5_floodBegins := by decide +kernel
  have hL10 := hts (.fieldLink RX5 10 "CraneGates" "dam" "LCraneGates$Dam;") (by decide +kernel)
  have hL16 := hts (.fieldLink RX5 16 "CraneGates" "trial" "LCraneGates$Dam;") (by decide +kernel)
  unfold q_X5_floodBegins at h
  refine lv_aload_n hx hb dX5_floodBegins_0 rfl (lv_at hl 0 rfl) ?_
  refine va_get (D := G) (ci := 5) (v := .ref (ad 2 0)) (C := RX5) (T := TX5) (N := 4) hx hb hts hinX5 hown hK hP 0 rfl rfl 1 (by decide) hL16 (fun _ h9 => h9) rfl dX5_floodBegins_1 ?_
  refine lv_aload_n hx hb dX5_floodBegins_4 rfl (lv_at hl 0 rfl) ?_
  refine va_get (D := G) (ci := 5) (v := .ref (ad 1 0)) (C := RX5) (T := TX5) (N := 4) hx hb hts hinX5 hown hK hP 0 rfl rfl 0 (by decide) hL10 (fun _ h9 => h9) rfl dX5_floodBegins_5 ?_
  refine kc_v (As := [.ref (ad 1 0)]) (rest := []) (wg := (fun u => (wA cI cC cD ad (uX X 2 u) rf))) ⟨hx, hb, hml, hown, hts⟩ (c_X0_copyFrom l G cI cC cD (ad 2) (ad 1) _ (X 2) (X 1)  _ h) (cwV 1 hts gX5_floodBegins_X0_copyFrom rfl rfl rfl (by decide +kernel) ⟨Nat.le_of_ble_eq_true rfl, Nat.le_of_ble_eq_true rfl⟩) hK hN hP hD hS hA (em_A_21 cI cC cD ad X rf) (fun u => rp_A_21 cI cC cD ad X rf u) rfl rfl rfl rfl hl.1 rfl (Nat.le_of_ble_eq_true rfl) dX5_floodBegins_8 ⟨Nat.zero_le _, Nat.zero_le _⟩ (fun u_1 H locs h hP hD hS => ?_)
  refine lv_aload_n hx hb dX5_floodBegins_11 rfl (lv_at hl 0 rfl) ?_
  refine va_get (D := G) (ci := 5) (v := .ref (ad 2 0)) (C := RX5) (T := TX5) (N := 4) hx hb hts hinX5 hown hK hP 0 rfl rfl 1 (by decide) hL16 (fun _ h9 => h9) rfl dX5_floodBegins_12 ?_
  refine lv_iload_n hx hb dX5_floodBegins_15 rfl (lv_at hl 1 rfl) ?_
  refine kc_i (As := [.int x]) (rest := []) (wg := (fun u => (wA cI cC cD ad (uX (uX X 2 u_1) 2 u) rf))) ⟨hx, hb, hml, hown, hts⟩ (c_X0_changeInflow l G cI cC cD (ad 2) _ u_1 x _ h) (cwV 1 hts gX5_floodBegins_X0_changeInflow rfl rfl rfl (by decide +kernel) ⟨Nat.le_of_ble_eq_true rfl, Nat.le_of_ble_eq_true rfl⟩) hK hN hP hD hS hA (em_A_2 cI cC cD ad (uX X 2 u_1) rf) (fun u => rp_A_2 cI cC cD ad (uX X 2 u_1) rf u) rfl rfl rfl rfl hl.1 rfl (Nat.le_of_ble_eq_true rfl) dX5_floodBegins_16 ⟨Nat.zero_le _, Nat.zero_le _⟩ (fun r_2 u_3 H locs h hP hD hS => ?_)
  refine lv_pop hx hb dX5_floodBegins_19 rfl ?_
  refine lv_iload_n hx hb dX5_floodBegins_20 rfl (lv_at hl 2 rfl) ?_
  refine lv_iconst (v := 1) hx hb dX5_floodBegins_21 (by decide) ?_
  refine lv_isub hx hb dX5_floodBegins_22 ?_
  refine lv_istore_n (lv' := [(3, .int (y - 1)), (0, .ref (ad 0 0)), (1, .int x), (2, .int y)]) hx hb dX5_floodBegins_23 rfl hl (by decide) rfl (fun ls hl => ?_)
  obtain ⟨I_5, n_9, h_10, hI_11⟩ := h
  have lp_12 : ∀ (n_4 : Nat) (x3_6 : Int32) (D_7 : (Nat → St)), I_5 n_4 x3_6 D_7 → ∀ (H : Heap) (locs : List Loc) (ls : Array Slot), va_P G vwCl (wA cI cC cD ad D_7 rf) H → va_D A (wA cI cC cD ad D_7 rf) → va_S A s.heap H locs → lv_has ls 4 [(3, .int x3_6), (0, .ref (ad 0 0)), (1, .int x), (2, .int y)] → W p l e (headSpec wsX5_floodBegins ({ frames := 4, cells := 0, slots := 0, locals := 89 })).room s m ([.ref (ad 0 0), .int x, .int y] : List Value).toArray below meth c H locs 0 0 (MQ below (va_Qi Q (BW G (fun u : (Nat → St) => (wA cI cC cD ad u rf)) A) A) ([.ref (ad 0 0), .int x, .int y] : List Value).toArray s 0 0 A) (F0 m 24 ls []) := by
    intro n_4
    induction n_4 using Nat.strongRecOn with
    | ind n_4 ih_8 =>
      intro x3_6 D_7 hIn H locs ls hP hD hS hl
      have h := hI_11 n_4 x3_6 D_7 hIn
      refine lv_iload_n hx hb dX5_floodBegins_24 rfl (lv_at hl 0 rfl) ?_
      refine lv_if_lt (tgt := 77) hx hb dX5_floodBegins_25 (by decide) (fun c_13 => ?_) (fun c_13 => ?_)
      · have h := h.1 c_13
        refine lv_iconst (v := 0) hx hb dX5_floodBegins_77 (by decide) ?_
        exact W.zret (v := 0) hx hb hr rfl (fun t ht hW => ⟨⟨0, D_7, rfl, h, by rw [ht]; exact hP, hD⟩, hS.F ht⟩) hS.2.2 dX5_floodBegins_78
      · have h := h.2 c_13
        refine lv_aload_n hx hb dX5_floodBegins_28 rfl (lv_at hl 1 rfl) ?_
        refine va_get (D := G) (ci := 5) (v := .ref (ad 2 0)) (C := RX5) (T := TX5) (N := 4) hx hb hts hinX5 hown hK hP 0 rfl rfl 1 (by decide) hL16 (fun _ h9 => h9) rfl dX5_floodBegins_29 ?_
        refine kc_i (As := []) (rest := []) (wg := (fun _ => (wA cI cC cD ad D_7 rf))) ⟨hx, hb, hml, hown, hts⟩ (c_X0_floodIsDue l G cI cC cD (ad 2) _ (D_7 2)  _ h) (cwV 0 hts gX5_floodBegins_X0_floodIsDue rfl rfl rfl (by decide +kernel) ⟨Nat.le_of_ble_eq_true rfl, Nat.le_of_ble_eq_true rfl⟩) hK hN hP hD hS hA (em_A_2 cI cC cD ad D_7 rf) (fun _ => rp_self (em_A_2 cI cC cD ad D_7 rf)) rfl rfl rfl rfl hl.1 rfl (Nat.le_of_ble_eq_true rfl) dX5_floodBegins_32 ⟨Nat.zero_le _, Nat.zero_le _⟩ (fun r_14 _ H locs h hP hD hS => ?_)
        refine lv_if_eq (tgt := 40) hx hb dX5_floodBegins_35 (by decide) (fun c_15 => ?_) (fun c_15 => ?_)
        · have h := h.1 c_15
          refine lv_aload_n hx hb dX5_floodBegins_40 rfl (lv_at hl 1 rfl) ?_
          refine va_get (D := G) (ci := 5) (v := .ref (ad 2 0)) (C := RX5) (T := TX5) (N := 4) hx hb hts hinX5 hown hK hP 0 rfl rfl 1 (by decide) hL16 (fun _ h9 => h9) rfl dX5_floodBegins_41 ?_
          refine kc_i (As := []) (rest := []) (wg := (fun _ => (wA cI cC cD ad D_7 rf))) ⟨hx, hb, hml, hown, hts⟩ (c_X0_water l G cI cC cD (ad 2) _ (D_7 2)  _ h) (cwV 0 hts gX5_floodBegins_X0_water rfl rfl rfl (by decide +kernel) ⟨Nat.le_of_ble_eq_true rfl, Nat.le_of_ble_eq_true rfl⟩) hK hN hP hD hS hA (em_A_2 cI cC cD ad D_7 rf) (fun _ => rp_self (em_A_2 cI cC cD ad D_7 rf)) rfl rfl rfl rfl hl.1 rfl (Nat.le_of_ble_eq_true rfl) dX5_floodBegins_44 ⟨Nat.zero_le _, Nat.zero_le _⟩ (fun r_16 _ H locs h hP hD hS => ?_)
          refine lv_iload_n hx hb dX5_floodBegins_47 rfl (lv_at hl 2 rfl) ?_
          refine lv_iload_n hx hb dX5_floodBegins_48 rfl (lv_at hl 0 rfl) ?_
          refine lv_imul hx hb dX5_floodBegins_49 ?_
          refine lv_iadd hx hb dX5_floodBegins_50 ?_
          refine lv_aload_n hx hb dX5_floodBegins_51 rfl (lv_at hl 1 rfl) ?_
          refine va_get (D := G) (ci := 5) (v := .ref (ad 2 0)) (C := RX5) (T := TX5) (N := 4) hx hb hts hinX5 hown hK hP 0 rfl rfl 1 (by decide) hL16 (fun _ h9 => h9) rfl dX5_floodBegins_52 ?_
          refine kc_i (As := []) (rest := [.int (r_16 + (x * x3_6))]) (wg := (fun _ => (wA cI cC cD ad D_7 rf))) ⟨hx, hb, hml, hown, hts⟩ (c_X0_floodLevel l G cI cC cD (ad 2) _ (D_7 2)  _ h) (cwV 0 hts gX5_floodBegins_X0_floodLevel rfl rfl rfl (by decide +kernel) ⟨Nat.le_of_ble_eq_true rfl, Nat.le_of_ble_eq_true rfl⟩) hK hN hP hD hS hA (em_A_2 cI cC cD ad D_7 rf) (fun _ => rp_self (em_A_2 cI cC cD ad D_7 rf)) rfl rfl rfl rfl hl.1 rfl (Nat.le_of_ble_eq_true rfl) dX5_floodBegins_55 ⟨Nat.zero_le _, Nat.zero_le _⟩ (fun r_17 _ H locs h hP hD hS => ?_)
          refine lv_icmp_ge (tgt := 63) hx hb dX5_floodBegins_58 (by decide) (fun c_18 => ?_) (fun c_18 => ?_)
          · have h := h.1 c_18
            refine lv_aload_n hx hb dX5_floodBegins_63 rfl (lv_at hl 1 rfl) ?_
            refine va_get (D := G) (ci := 5) (v := .ref (ad 2 0)) (C := RX5) (T := TX5) (N := 4) hx hb hts hinX5 hown hK hP 0 rfl rfl 1 (by decide) hL16 (fun _ h9 => h9) rfl dX5_floodBegins_64 ?_
            refine lv_iconst (v := 1) hx hb dX5_floodBegins_67 (by decide) ?_
            refine kc_v (As := [.int 1]) (rest := []) (wg := (fun u => (wA cI cC cD ad (uX D_7 2 u) rf))) ⟨hx, hb, hml, hown, hts⟩ (c_X0_letPass l G cI cC cD (ad 2) _ (D_7 2) 1 _ h) (cwV 1 hts gX5_floodBegins_X0_letPass rfl rfl rfl (by decide +kernel) ⟨Nat.le_of_ble_eq_true rfl, Nat.le_of_ble_eq_true rfl⟩) hK hN hP hD hS hA (em_A_2 cI cC cD ad D_7 rf) (fun u => rp_A_2 cI cC cD ad D_7 rf u) rfl rfl rfl rfl hl.1 rfl (Nat.le_of_ble_eq_true rfl) dX5_floodBegins_68 ⟨Nat.zero_le _, Nat.zero_le _⟩ (fun u_19 H locs h hP hD hS => ?_)
            refine lv_iinc (v := x3_6 + (-1)) (lv' := [(3, .int (x3_6 + (-1))), (0, .ref (ad 0 0)), (1, .int x), (2, .int y)]) hx hb dX5_floodBegins_71 hl (k := 0) rfl rfl (by decide) rfl (fun ls hl => ?_)
            refine lv_goto (tgt := 24) hx hb dX5_floodBegins_74 (by decide) ?_
            obtain ⟨n_20, lt_21, h_22⟩ := h
            exact ih_8 n_20 lt_21 _ _ h_22 _ _ _ hP hD hS (lv_sub hl [0, 1, 2, 3] rfl)
          · have h := h.2 c_18
            refine lv_iconst (v := 0) hx hb dX5_floodBegins_61 (by decide) ?_
            exact W.zret (v := 0) hx hb hr rfl (fun t ht hW => ⟨⟨0, D_7, rfl, h, by rw [ht]; exact hP, hD⟩, hS.F ht⟩) hS.2.2 dX5_floodBegins_62
        · have h := h.2 c_15
          refine lv_iconst (v := 1) hx hb dX5_floodBegins_38 (by decide) ?_
          exact W.zret (v := 1) hx hb hr rfl (fun t ht hW => ⟨⟨1, D_7, rfl, h, by rw [ht]; exact hP, hD⟩, hS.F ht⟩) hS.2.2 dX5_floodBegins_39
  exact lp_12 _ _ _ h_10 _ _ _ hP hD hS hl
def q_X5_leastFlood (x : Int32) (X : (Nat → St)) (Q : Int32 → (Nat → St) → Prop) : Prop :=
  (x < 1 → Q (-1000001) X) ∧ (¬ (x < 1) → (x ≤ 60 → q_X0_isFlooded (X 1) (fun r_3 => (r_3 = 0 → ∃ (I_6 : Nat → Int32 → (Nat → St) → Prop) (n_10 : Nat), I_6 n_10 0 X ∧ ∀ (n_5 : Nat) (x2_7 : Int32) (D_8 : (Nat → St)), I_6 n_5 x2_7 D_8 → ((300 < x2_7 → Q (-1000004) D_8) ∧ (¬ (300 < x2_7) → q_X5_floodBegins x2_7 x D_8 (fun r_15 u_16 => (r_15 = 0 → ∃ n_18, n_18 < n_5 ∧ I_6 n_18 (x2_7 + 1) u_16) ∧ (¬ (r_15 = 0) → Q x2_7 u_16))))) ∧ (¬ (r_3 = 0) → Q 0 X))) ∧ (¬ (x ≤ 60) → Q (-1000001) X))
set_option maxHeartbeats 4000000 in
set_option maxRecDepth 100000 in
theorem c_X5_leastFlood (l : Launch) (G : va_G) (cI cC cD : ClassId) (ad : Nat → Nat → Nat) (rf : Nat → Option Nat) (hrf : rfOk ad rf) (sz : Nat) (X : (Nat → St)) (x : Int32) (Q : Int32 → (Nat → St) → Prop) (h : q_X5_leastFlood x X Q) : Met l yX5_leastFlood wsX5_leastFlood ({ frames := 5, cells := 0, slots := 0, locals := 112 }) (va_Pc [.ref (ad 0 0), .int x] (PW G (ty3 cI cC cD) (wA cI cC cD ad X rf) sz)) (va_Qi Q (BW G (fun u : (Nat → St) => (wA cI cC cD ad u rf)) (va_A (wA cI cC cD ad X rf) sz)) (va_A (wA cI cC cD ad X rf) sz)) 0 0 (va_A (wA cI cC cD ad X rf) sz) := by
  refine Met.ofW (cc := cX5_leastFlood) (maxL := 3) (ret := (some .int)) (by decide) rfl ?_
  intro p e s m args below meth c s₁ B hml hv
  obtain ⟨rfl, hsz, hP, hK, hD0, hN⟩ := hv
  have hx := B.exec
  have hb := B.bytes
  have hr := B.returns
  have hts := atoms_spec (ws := wsX5_leastFlood) B.pre
  have hown : s.vm.findClass RX5 = some m.cls := findClass_of_methodNamed B.named
  have hlocks := B.notSynchronized
  subst hsz
  have hD := hD0.self (sz := s.heap.size)
  generalize hAe : va_A (wA cI cC cD ad X rf) s.heap.size = A at hD ⊢
  have hA : ∀ q : Nat, s.heap.size ≤ q → A q := fun q h => by rw [← hAe]; exact Or.inr h
  have hS : va_S A s.heap s.heap [] := va_S.rf
  have hl := lv_entry ([.ref (ad 0 0), .int x]) (n := 3) (Nat.le_of_ble_eq_true rfl)
  rw [lg_entry_eq]
  generalize (lg_sl ([.ref (ad 0 0), .int x]) ++ List.replicate (3 - (lg_sl ([.ref (ad 0 0), .int x])).length) Slot.unset).toArray = ls at hl ⊢
  have hl : lv_has ls 3 [(0, .ref (ad 0 0)), (1, .int x)] := hl
  have hinX5 : ∀ w ∈ wsX50, w ∈ wsX5_leastFlood := by decide +kernel
  have hL10 := hts (.fieldLink RX5 10 "CraneGates" "dam" "LCraneGates$Dam;") (by decide +kernel)
  unfold q_X5_leastFlood at h
  refine lv_iload_n hx hb dX5_leastFlood_0 rfl (lv_at hl 1 rfl) ?_
  refine lv_iconst (v := 1) hx hb dX5_leastFlood_1 (by decide) ?_
  refine lv_icmp_lt (tgt := 11) hx hb dX5_leastFlood_2 (by decide) (fun c_1 => ?_) (fun c_1 => ?_)
  · have h := h.1 c_1
    refine lv_ldc hx hb hown (hts (.constant RX5 87 (-1000001)) (by decide +kernel)) dX5_leastFlood_11 ?_
    exact W.iret (v := (-1000001)) hx hb hr (fun t ht hW => ⟨⟨(-1000001), X, rfl, h, by rw [ht]; exact hP, hD⟩, hS.F ht⟩) hS.2.2 dX5_leastFlood_13
  · have h := h.2 c_1
    refine lv_iload_n hx hb dX5_leastFlood_5 rfl (lv_at hl 1 rfl) ?_
    refine lv_bipush (v := 60) hx hb dX5_leastFlood_6 (by decide) ?_
    refine lv_icmp_le (tgt := 14) hx hb dX5_leastFlood_8 (by decide) (fun c_2 => ?_) (fun c_2 => ?_)
    · have h := h.1 c_2
      refine lv_aload_n hx hb dX5_leastFlood_14 rfl (lv_at hl 0 rfl) ?_
      refine va_get (D := G) (ci := 5) (v := .ref (ad 1 0)) (C := RX5) (T := TX5) (N := 4) hx hb hts hinX5 hown hK hP 0 rfl rfl 0 (by decide) hL10 (fun _ h9 => h9) rfl dX5_leastFlood_15 ?_
      refine kc_i (As := []) (rest := []) (wg := (fun _ => (wA cI cC cD ad X rf))) ⟨hx, hb, hml, hown, hts⟩ (c_X0_isFlooded l G cI cC cD (ad 1) _ (X 1)  _ h) (cwV 0 hts gX5_leastFlood_X0_isFlooded rfl rfl rfl (by decide +kernel) ⟨Nat.le_of_ble_eq_true rfl, Nat.le_of_ble_eq_true rfl⟩) hK hN hP hD hS hA (em_A_1 cI cC cD ad X rf) (fun _ => rp_self (em_A_1 cI cC cD ad X rf)) rfl rfl rfl rfl hl.1 rfl (Nat.le_of_ble_eq_true rfl) dX5_leastFlood_18 ⟨Nat.zero_le _, Nat.zero_le _⟩ (fun r_3 _ H locs h hP hD hS => ?_)
      refine lv_if_eq (tgt := 26) hx hb dX5_leastFlood_21 (by decide) (fun c_4 => ?_) (fun c_4 => ?_)
      · have h := h.1 c_4
        refine lv_iconst (v := 0) hx hb dX5_leastFlood_26 (by decide) ?_
        refine lv_istore_n (lv' := [(2, .int 0), (0, .ref (ad 0 0)), (1, .int x)]) hx hb dX5_leastFlood_27 rfl hl (by decide) rfl (fun ls hl => ?_)
        obtain ⟨I_6, n_10, h_11, hI_12⟩ := h
        have lp_13 : ∀ (n_5 : Nat) (x2_7 : Int32) (D_8 : (Nat → St)), I_6 n_5 x2_7 D_8 → ∀ (H : Heap) (locs : List Loc) (ls : Array Slot), va_P G vwCl (wA cI cC cD ad D_8 rf) H → va_D A (wA cI cC cD ad D_8 rf) → va_S A s.heap H locs → lv_has ls 3 [(2, .int x2_7), (0, .ref (ad 0 0)), (1, .int x)] → W p l e (headSpec wsX5_leastFlood ({ frames := 5, cells := 0, slots := 0, locals := 112 })).room s m ([.ref (ad 0 0), .int x] : List Value).toArray below meth c H locs 0 0 (MQ below (va_Qi Q (BW G (fun u : (Nat → St) => (wA cI cC cD ad u rf)) A) A) ([.ref (ad 0 0), .int x] : List Value).toArray s 0 0 A) (F0 m 28 ls []) := by
          intro n_5
          induction n_5 using Nat.strongRecOn with
          | ind n_5 ih_9 =>
            intro x2_7 D_8 hIn H locs ls hP hD hS hl
            have h := hI_12 n_5 x2_7 D_8 hIn
            refine lv_iload_n hx hb dX5_leastFlood_28 rfl (lv_at hl 0 rfl) ?_
            refine lv_sipush (v := 300) hx hb dX5_leastFlood_29 (by decide) ?_
            refine lv_icmp_gt (tgt := 52) hx hb dX5_leastFlood_32 (by decide) (fun c_14 => ?_) (fun c_14 => ?_)
            · have h := h.1 c_14
              refine lv_ldc hx hb hown (hts (.constant RX5 94 (-1000004)) (by decide +kernel)) dX5_leastFlood_52 ?_
              exact W.iret (v := (-1000004)) hx hb hr (fun t ht hW => ⟨⟨(-1000004), D_8, rfl, h, by rw [ht]; exact hP, hD⟩, hS.F ht⟩) hS.2.2 dX5_leastFlood_54
            · have h := h.2 c_14
              refine lv_aload_n hx hb dX5_leastFlood_35 rfl (lv_at hl 1 rfl) ?_
              refine lv_iload_n hx hb dX5_leastFlood_36 rfl (lv_at hl 0 rfl) ?_
              refine lv_iload_n hx hb dX5_leastFlood_37 rfl (lv_at hl 2 rfl) ?_
              refine kw_i (k0 := 0) (As := [.int x2_7, .int x]) (rest := []) ⟨hx, hb, hml, hown, hts⟩ (c_X5_floodBegins l G cI cC cD ad rf hrf _ D_8 x2_7 x _ h) (cwV 2 hts gX5_leastFlood_X5_floodBegins rfl rfl rfl (by decide +kernel) ⟨Nat.le_of_ble_eq_true rfl, Nat.le_of_ble_eq_true rfl⟩) hK hN hP hD hS hA rfl rfl rfl rfl hl.1 rfl (Nat.le_of_ble_eq_true rfl) dX5_leastFlood_38 ⟨Nat.zero_le _, Nat.zero_le _⟩ (fun r_15 u_16 H locs h hP hD hS => ?_)
              refine lv_if_eq (tgt := 46) hx hb dX5_leastFlood_41 (by decide) (fun c_17 => ?_) (fun c_17 => ?_)
              · have h := h.1 c_17
                refine lv_iinc (v := x2_7 + 1) (lv' := [(2, .int (x2_7 + 1)), (0, .ref (ad 0 0)), (1, .int x)]) hx hb dX5_leastFlood_46 hl (k := 0) rfl rfl (by decide) rfl (fun ls hl => ?_)
                refine lv_goto (tgt := 28) hx hb dX5_leastFlood_49 (by decide) ?_
                obtain ⟨n_18, lt_19, h_20⟩ := h
                exact ih_9 n_18 lt_19 _ _ h_20 _ _ _ hP hD hS (lv_sub hl [0, 1, 2] rfl)
              · have h := h.2 c_17
                refine lv_iload_n hx hb dX5_leastFlood_44 rfl (lv_at hl 0 rfl) ?_
                exact W.iret (v := x2_7) hx hb hr (fun t ht hW => ⟨⟨x2_7, u_16, rfl, h, by rw [ht]; exact hP, hD⟩, hS.F ht⟩) hS.2.2 dX5_leastFlood_45
        exact lp_13 _ _ _ h_11 _ _ _ hP hD hS hl
      · have h := h.2 c_4
        refine lv_iconst (v := 0) hx hb dX5_leastFlood_24 (by decide) ?_
        exact W.iret (v := 0) hx hb hr (fun t ht hW => ⟨⟨0, X, rfl, h, by rw [ht]; exact hP, hD⟩, hS.F ht⟩) hS.2.2 dX5_leastFlood_25
    · have h := h.2 c_2
      refine lv_ldc hx hb hown (hts (.constant RX5 87 (-1000001)) (by decide +kernel)) dX5_leastFlood_11 ?_
      exact W.iret (v := (-1000001)) hx hb hr (fun t ht hW => ⟨⟨(-1000001), X, rfl, h, by rw [ht]; exact hP, hD⟩, hS.F ht⟩) hS.2.2 dX5_leastFlood_13
def q_X5_count (x : Int32) (X : (Nat → St)) (Q : Int32 → Prop) : Prop :=
  (x = 11 → q_X2_size (X 8) (fun r_5 => Q r_5)) ∧ (¬ (x = 11) → (x = 12 → q_X3_length (X 0) (fun r_4 => Q r_4)) ∧ (¬ (x = 12) → q_X0_number x (X 1) (fun r_3 => Q r_3)))
set_option maxHeartbeats 4000000 in
set_option maxRecDepth 100000 in
theorem c_X5_count (l : Launch) (G : va_G) (cI cC cD : ClassId) (ad : Nat → Nat → Nat) (rf : Nat → Option Nat) (hrf : rfOk ad rf) (sz : Nat) (X : (Nat → St)) (x : Int32) (Q : Int32 → Prop) (h : q_X5_count x X Q) : Met l yX5_count wsX5_count ({ frames := 2, cells := 0, slots := 0, locals := 41 }) (va_Pc [.ref (ad 0 0), .int x] (PW G (ty3 cI cC cD) (wA cI cC cD ad X rf) sz)) (va_Qi (fun (r : Int32) (_ : Unit) => Q r) (BW G (fun _ : Unit => (wA cI cC cD ad X rf)) (va_A (wA cI cC cD ad X rf) sz)) (va_A (wA cI cC cD ad X rf) sz)) 0 0 (va_A (wA cI cC cD ad X rf) sz) := by
  refine Met.ofW (cc := cX5_count) (maxL := 2) (ret := (some .int)) (by decide) rfl ?_
  intro p e s m args below meth c s₁ B hml hv
  obtain ⟨rfl, hsz, hP, hK, hD0, hN⟩ := hv
  have hx := B.exec
  have hb := B.bytes
  have hr := B.returns
  have hts := atoms_spec (ws := wsX5_count) B.pre
  have hown : s.vm.findClass RX5 = some m.cls := findClass_of_methodNamed B.named
  have hlocks := B.notSynchronized
  subst hsz
  have hD := hD0.self (sz := s.heap.size)
  generalize hAe : va_A (wA cI cC cD ad X rf) s.heap.size = A at hD ⊢
  have hA : ∀ q : Nat, s.heap.size ≤ q → A q := fun q h => by rw [← hAe]; exact Or.inr h
  have hS : va_S A s.heap s.heap [] := va_S.rf
  have hl := lv_entry ([.ref (ad 0 0), .int x]) (n := 2) (Nat.le_of_ble_eq_true rfl)
  rw [lg_entry_eq]
  generalize (lg_sl ([.ref (ad 0 0), .int x]) ++ List.replicate (2 - (lg_sl ([.ref (ad 0 0), .int x])).length) Slot.unset).toArray = ls at hl ⊢
  have hl : lv_has ls 2 [(0, .ref (ad 0 0)), (1, .int x)] := hl
  have hinX5 : ∀ w ∈ wsX50, w ∈ wsX5_count := by decide +kernel
  have hL10 := hts (.fieldLink RX5 10 "CraneGates" "dam" "LCraneGates$Dam;") (by decide +kernel)
  have hL22 := hts (.fieldLink RX5 22 "CraneGates" "history" "LCraneGates$History;") (by decide +kernel)
  have hL29 := hts (.fieldLink RX5 29 "CraneGates" "script" "LCraneGates$Script;") (by decide +kernel)
  unfold q_X5_count at h
  refine lv_iload_n hx hb dX5_count_0 rfl (lv_at hl 1 rfl) ?_
  refine lv_bipush (v := 11) hx hb dX5_count_1 (by decide) ?_
  refine lv_icmp_ne (tgt := 14) hx hb dX5_count_3 (by decide) (fun c_1 => ?_) (fun c_1 => ?_)
  · have h := h.2 c_1
    refine lv_iload_n hx hb dX5_count_14 rfl (lv_at hl 1 rfl) ?_
    refine lv_bipush (v := 12) hx hb dX5_count_15 (by decide) ?_
    refine lv_icmp_ne (tgt := 28) hx hb dX5_count_17 (by decide) (fun c_2 => ?_) (fun c_2 => ?_)
    · have h := h.2 c_2
      refine lv_aload_n hx hb dX5_count_28 rfl (lv_at hl 0 rfl) ?_
      refine va_get (D := G) (ci := 5) (v := .ref (ad 1 0)) (C := RX5) (T := TX5) (N := 4) hx hb hts hinX5 hown hK hP 0 rfl rfl 0 (by decide) hL10 (fun _ h9 => h9) rfl dX5_count_29 ?_
      refine lv_iload_n hx hb dX5_count_32 rfl (lv_at hl 1 rfl) ?_
      refine kc_i (As := [.int x]) (rest := []) (wg := (fun _ => (wA cI cC cD ad X rf))) ⟨hx, hb, hml, hown, hts⟩ (c_X0_number l G cI cC cD (ad 1) _ (X 1) x _ h) (cwV 1 hts gX5_count_X0_number rfl rfl rfl (by decide +kernel) ⟨Nat.le_of_ble_eq_true rfl, Nat.le_of_ble_eq_true rfl⟩) hK hN hP hD hS hA (em_A_1 cI cC cD ad X rf) (fun _ => rp_self (em_A_1 cI cC cD ad X rf)) rfl rfl rfl rfl hl.1 rfl (Nat.le_of_ble_eq_true rfl) dX5_count_33 ⟨Nat.zero_le _, Nat.zero_le _⟩ (fun r_3 _ H locs h hP hD hS => ?_)
      exact W.iret (v := r_3) hx hb hr (fun t ht hW => ⟨⟨r_3, (), rfl, h, by rw [ht]; exact hP, hD⟩, hS.F ht⟩) hS.2.2 dX5_count_36
    · have h := h.1 c_2
      refine lv_aload_n hx hb dX5_count_20 rfl (lv_at hl 0 rfl) ?_
      refine va_get (D := G) (ci := 5) (v := .ref (ad 0 3)) (C := RX5) (T := TX5) (N := 4) hx hb hts hinX5 hown hK hP 0 rfl rfl 3 (by decide) hL29 (fun _ h9 => h9) rfl dX5_count_21 ?_
      refine kc_i (As := []) (rest := []) (wg := (fun _ => (wA cI cC cD ad X rf))) ⟨hx, hb, hml, hown, hts⟩ (c_X3_length l G cI cC cD (ad 0 3) (ad 0 4) _ (X 0)  _ h) (cwV 0 hts gX5_count_X3_length rfl rfl rfl (by decide +kernel) ⟨Nat.le_of_ble_eq_true rfl, Nat.le_of_ble_eq_true rfl⟩) hK hN hP hD hS hA (em_A_S cI cC cD ad X rf) (fun _ => rp_self (em_A_S cI cC cD ad X rf)) rfl rfl rfl rfl hl.1 rfl (Nat.le_of_ble_eq_true rfl) dX5_count_24 ⟨Nat.zero_le _, Nat.zero_le _⟩ (fun r_4 _ H locs h hP hD hS => ?_)
      exact W.iret (v := r_4) hx hb hr (fun t ht hW => ⟨⟨r_4, (), rfl, h, by rw [ht]; exact hP, hD⟩, hS.F ht⟩) hS.2.2 dX5_count_27
  · have h := h.1 c_1
    refine lv_aload_n hx hb dX5_count_6 rfl (lv_at hl 0 rfl) ?_
    refine va_get (D := G) (ci := 5) (v := .ref (ad 0 1)) (C := RX5) (T := TX5) (N := 4) hx hb hts hinX5 hown hK hP 0 rfl rfl 2 (by decide) hL22 (fun _ h9 => h9) rfl dX5_count_7 ?_
    refine kc_i (As := []) (rest := []) (wg := (fun _ => (wA cI cC cD ad X rf))) ⟨hx, hb, hml, hown, hts⟩ (c_X2_size l G cI cC cD (ad 0 1) (ad 0 2) rf _ (X 8)  _ h) (cwV 0 hts gX5_count_X2_size rfl rfl rfl (by decide +kernel) ⟨Nat.le_of_ble_eq_true rfl, Nat.le_of_ble_eq_true rfl⟩) hK hN hP hD hS hA (em_A_H cI cC cD ad X rf) (fun _ => rp_self (em_A_H cI cC cD ad X rf)) rfl rfl rfl rfl hl.1 rfl (Nat.le_of_ble_eq_true rfl) dX5_count_10 ⟨Nat.zero_le _, Nat.zero_le _⟩ (fun r_5 _ H locs h hP hD hS => ?_)
    exact W.iret (v := r_5) hx hb hr (fun t ht hW => ⟨⟨r_5, (), rfl, h, by rw [ht]; exact hP, hD⟩, hS.F ht⟩) hS.2.2 dX5_count_13
def q_X5_undo (X : (Nat → St)) (Q : Int32 → (Nat → St) → Prop) : Prop :=
  q_X2_size (X 8) (fun r_1 => (r_1 = 0 → Q (-1000002) X) ∧ (¬ (r_1 = 0) → q_X2_restore X (fun u_3 => q_X2_size (u_3 8) (fun r_4 => Q r_4 u_3))))
set_option maxHeartbeats 4000000 in
set_option maxRecDepth 100000 in
theorem c_X5_undo (l : Launch) (G : va_G) (cI cC cD : ClassId) (ad : Nat → Nat → Nat) (rf : Nat → Option Nat) (hrf : rfOk ad rf) (sz : Nat) (X : (Nat → St))  (Q : Int32 → (Nat → St) → Prop) (h : q_X5_undo  X Q) : Met l yX5_undo wsX5_undo ({ frames := 4, cells := 0, slots := 0, locals := 104 }) (va_Pc [.ref (ad 0 0)] (PW G (ty3 cI cC cD) (wA cI cC cD ad X rf) sz)) (va_Qi Q (BW G (fun u : (Nat → St) => (wA cI cC cD ad u rf)) (va_A (wA cI cC cD ad X rf) sz)) (va_A (wA cI cC cD ad X rf) sz)) 0 0 (va_A (wA cI cC cD ad X rf) sz) := by
  refine Met.ofW (cc := cX5_undo) (maxL := 1) (ret := (some .int)) (by decide) rfl ?_
  intro p e s m args below meth c s₁ B hml hv
  obtain ⟨rfl, hsz, hP, hK, hD0, hN⟩ := hv
  have hx := B.exec
  have hb := B.bytes
  have hr := B.returns
  have hts := atoms_spec (ws := wsX5_undo) B.pre
  have hown : s.vm.findClass RX5 = some m.cls := findClass_of_methodNamed B.named
  have hlocks := B.notSynchronized
  subst hsz
  have hD := hD0.self (sz := s.heap.size)
  generalize hAe : va_A (wA cI cC cD ad X rf) s.heap.size = A at hD ⊢
  have hA : ∀ q : Nat, s.heap.size ≤ q → A q := fun q h => by rw [← hAe]; exact Or.inr h
  have hS : va_S A s.heap s.heap [] := va_S.rf
  have hl := lv_entry ([.ref (ad 0 0)]) (n := 1) (Nat.le_of_ble_eq_true rfl)
  rw [lg_entry_eq]
  generalize (lg_sl ([.ref (ad 0 0)]) ++ List.replicate (1 - (lg_sl ([.ref (ad 0 0)])).length) Slot.unset).toArray = ls at hl ⊢
  have hl : lv_has ls 1 [(0, .ref (ad 0 0))] := hl
  have hinX5 : ∀ w ∈ wsX50, w ∈ wsX5_undo := by decide +kernel
  have hL10 := hts (.fieldLink RX5 10 "CraneGates" "dam" "LCraneGates$Dam;") (by decide +kernel)
  have hL22 := hts (.fieldLink RX5 22 "CraneGates" "history" "LCraneGates$History;") (by decide +kernel)
  unfold q_X5_undo at h
  refine lv_aload_n hx hb dX5_undo_0 rfl (lv_at hl 0 rfl) ?_
  refine va_get (D := G) (ci := 5) (v := .ref (ad 0 1)) (C := RX5) (T := TX5) (N := 4) hx hb hts hinX5 hown hK hP 0 rfl rfl 2 (by decide) hL22 (fun _ h9 => h9) rfl dX5_undo_1 ?_
  refine kc_i (As := []) (rest := []) (wg := (fun _ => (wA cI cC cD ad X rf))) ⟨hx, hb, hml, hown, hts⟩ (c_X2_size l G cI cC cD (ad 0 1) (ad 0 2) rf _ (X 8)  _ h) (cwV 0 hts gX5_undo_X2_size rfl rfl rfl (by decide +kernel) ⟨Nat.le_of_ble_eq_true rfl, Nat.le_of_ble_eq_true rfl⟩) hK hN hP hD hS hA (em_A_H cI cC cD ad X rf) (fun _ => rp_self (em_A_H cI cC cD ad X rf)) rfl rfl rfl rfl hl.1 rfl (Nat.le_of_ble_eq_true rfl) dX5_undo_4 ⟨Nat.zero_le _, Nat.zero_le _⟩ (fun r_1 _ H locs h hP hD hS => ?_)
  refine lv_if_ne (tgt := 13) hx hb dX5_undo_7 (by decide) (fun c_2 => ?_) (fun c_2 => ?_)
  · have h := h.2 c_2
    refine lv_aload_n hx hb dX5_undo_13 rfl (lv_at hl 0 rfl) ?_
    refine va_get (D := G) (ci := 5) (v := .ref (ad 0 1)) (C := RX5) (T := TX5) (N := 4) hx hb hts hinX5 hown hK hP 0 rfl rfl 2 (by decide) hL22 (fun _ h9 => h9) rfl dX5_undo_14 ?_
    refine lv_aload_n hx hb dX5_undo_17 rfl (lv_at hl 0 rfl) ?_
    refine va_get (D := G) (ci := 5) (v := .ref (ad 1 0)) (C := RX5) (T := TX5) (N := 4) hx hb hts hinX5 hown hK hP 0 rfl rfl 0 (by decide) hL10 (fun _ h9 => h9) rfl dX5_undo_18 ?_
    refine kw_v (k0 := 1) (As := [.ref (ad 1 0)]) (rest := []) ⟨hx, hb, hml, hown, hts⟩ (c_X2_restore l G cI cC cD ad rf hrf _ X  _ h) (cwV 1 hts gX5_undo_X2_restore rfl rfl rfl (by decide +kernel) ⟨Nat.le_of_ble_eq_true rfl, Nat.le_of_ble_eq_true rfl⟩) hK hN hP hD hS hA rfl rfl rfl rfl hl.1 rfl (Nat.le_of_ble_eq_true rfl) dX5_undo_21 ⟨Nat.zero_le _, Nat.zero_le _⟩ (fun u_3 H locs h hP hD hS => ?_)
    refine lv_aload_n hx hb dX5_undo_24 rfl (lv_at hl 0 rfl) ?_
    refine va_get (D := G) (ci := 5) (v := .ref (ad 0 1)) (C := RX5) (T := TX5) (N := 4) hx hb hts hinX5 hown hK hP 0 rfl rfl 2 (by decide) hL22 (fun _ h9 => h9) rfl dX5_undo_25 ?_
    refine kc_i (As := []) (rest := []) (wg := (fun _ => (wA cI cC cD ad u_3 rf))) ⟨hx, hb, hml, hown, hts⟩ (c_X2_size l G cI cC cD (ad 0 1) (ad 0 2) rf _ (u_3 8)  _ h) (cwV 0 hts gX5_undo_X2_size rfl rfl rfl (by decide +kernel) ⟨Nat.le_of_ble_eq_true rfl, Nat.le_of_ble_eq_true rfl⟩) hK hN hP hD hS hA (em_A_H cI cC cD ad u_3 rf) (fun _ => rp_self (em_A_H cI cC cD ad u_3 rf)) rfl rfl rfl rfl hl.1 rfl (Nat.le_of_ble_eq_true rfl) dX5_undo_28 ⟨Nat.zero_le _, Nat.zero_le _⟩ (fun r_4 _ H locs h hP hD hS => ?_)
    exact W.iret (v := r_4) hx hb hr (fun t ht hW => ⟨⟨r_4, u_3, rfl, h, by rw [ht]; exact hP, hD⟩, hS.F ht⟩) hS.2.2 dX5_undo_31
  · have h := h.1 c_2
    refine lv_ldc hx hb hown (hts (.constant RX5 118 (-1000002)) (by decide +kernel)) dX5_undo_10 ?_
    exact W.iret (v := (-1000002)) hx hb hr (fun t ht hW => ⟨⟨(-1000002), X, rfl, h, by rw [ht]; exact hP, hD⟩, hS.F ht⟩) hS.2.2 dX5_undo_12
def q_X5_type (x : Int32) (X : (Nat → St)) (Q : Int32 → (Nat → St) → Prop) : Prop :=
  q_X3_append x (X 0) (fun r_1 u_2 => Q r_1 (uX X 0 u_2))
set_option maxHeartbeats 4000000 in
set_option maxRecDepth 100000 in
theorem c_X5_type (l : Launch) (G : va_G) (cI cC cD : ClassId) (ad : Nat → Nat → Nat) (rf : Nat → Option Nat) (hrf : rfOk ad rf) (sz : Nat) (X : (Nat → St)) (x : Int32) (Q : Int32 → (Nat → St) → Prop) (h : q_X5_type x X Q) : Met l yX5_type wsX5_type ({ frames := 1, cells := 0, slots := 0, locals := 21 }) (va_Pc [.ref (ad 0 0), .int x] (PW G (ty3 cI cC cD) (wA cI cC cD ad X rf) sz)) (va_Qi Q (BW G (fun u : (Nat → St) => (wA cI cC cD ad u rf)) (va_A (wA cI cC cD ad X rf) sz)) (va_A (wA cI cC cD ad X rf) sz)) 0 0 (va_A (wA cI cC cD ad X rf) sz) := by
  refine Met.ofW (cc := cX5_type) (maxL := 2) (ret := (some .int)) (by decide) rfl ?_
  intro p e s m args below meth c s₁ B hml hv
  obtain ⟨rfl, hsz, hP, hK, hD0, hN⟩ := hv
  have hx := B.exec
  have hb := B.bytes
  have hr := B.returns
  have hts := atoms_spec (ws := wsX5_type) B.pre
  have hown : s.vm.findClass RX5 = some m.cls := findClass_of_methodNamed B.named
  have hlocks := B.notSynchronized
  subst hsz
  have hD := hD0.self (sz := s.heap.size)
  generalize hAe : va_A (wA cI cC cD ad X rf) s.heap.size = A at hD ⊢
  have hA : ∀ q : Nat, s.heap.size ≤ q → A q := fun q h => by rw [← hAe]; exact Or.inr h
  have hS : va_S A s.heap s.heap [] := va_S.rf
  have hl := lv_entry ([.ref (ad 0 0), .int x]) (n := 2) (Nat.le_of_ble_eq_true rfl)
  rw [lg_entry_eq]
  generalize (lg_sl ([.ref (ad 0 0), .int x]) ++ List.replicate (2 - (lg_sl ([.ref (ad 0 0), .int x])).length) Slot.unset).toArray = ls at hl ⊢
  have hl : lv_has ls 2 [(0, .ref (ad 0 0)), (1, .int x)] := hl
  have hinX5 : ∀ w ∈ wsX50, w ∈ wsX5_type := by decide +kernel
  have hL29 := hts (.fieldLink RX5 29 "CraneGates" "script" "LCraneGates$Script;") (by decide +kernel)
  unfold q_X5_type at h
  refine lv_aload_n hx hb dX5_type_0 rfl (lv_at hl 0 rfl) ?_
  refine va_get (D := G) (ci := 5) (v := .ref (ad 0 3)) (C := RX5) (T := TX5) (N := 4) hx hb hts hinX5 hown hK hP 0 rfl rfl 3 (by decide) hL29 (fun _ h9 => h9) rfl dX5_type_1 ?_
  refine lv_iload_n hx hb dX5_type_4 rfl (lv_at hl 1 rfl) ?_
  refine kc_i (As := [.int x]) (rest := []) (wg := (fun u => (wA cI cC cD ad (uX X 0 u) rf))) ⟨hx, hb, hml, hown, hts⟩ (c_X3_append l G cI cC cD (ad 0 3) (ad 0 4) _ (X 0) x _ h) (cwV 1 hts gX5_type_X3_append rfl rfl rfl (by decide +kernel) ⟨Nat.le_of_ble_eq_true rfl, Nat.le_of_ble_eq_true rfl⟩) hK hN hP hD hS hA (em_A_S cI cC cD ad X rf) (fun u => rp_A_S cI cC cD ad X rf u) rfl rfl rfl rfl hl.1 rfl (Nat.le_of_ble_eq_true rfl) dX5_type_5 ⟨Nat.zero_le _, Nat.zero_le _⟩ (fun r_1 u_2 H locs h hP hD hS => ?_)
  exact W.iret (v := r_1) hx hb hr (fun t ht hW => ⟨⟨r_1, (uX X 0 u_2), rfl, h, by rw [ht]; exact hP, hD⟩, hS.F ht⟩) hS.2.2 dX5_type_8
def q_X5_clearText (X : (Nat → St)) (Q : Int32 → (Nat → St) → Prop) : Prop :=
  q_X3_empty (X 0) (fun r_1 u_2 => Q r_1 (uX X 0 u_2))
set_option maxHeartbeats 4000000 in
set_option maxRecDepth 100000 in
theorem c_X5_clearText (l : Launch) (G : va_G) (cI cC cD : ClassId) (ad : Nat → Nat → Nat) (rf : Nat → Option Nat) (hrf : rfOk ad rf) (sz : Nat) (X : (Nat → St))  (Q : Int32 → (Nat → St) → Prop) (h : q_X5_clearText  X Q) : Met l yX5_clearText wsX5_clearText ({ frames := 1, cells := 0, slots := 0, locals := 21 }) (va_Pc [.ref (ad 0 0)] (PW G (ty3 cI cC cD) (wA cI cC cD ad X rf) sz)) (va_Qi Q (BW G (fun u : (Nat → St) => (wA cI cC cD ad u rf)) (va_A (wA cI cC cD ad X rf) sz)) (va_A (wA cI cC cD ad X rf) sz)) 0 0 (va_A (wA cI cC cD ad X rf) sz) := by
  refine Met.ofW (cc := cX5_clearText) (maxL := 1) (ret := (some .int)) (by decide) rfl ?_
  intro p e s m args below meth c s₁ B hml hv
  obtain ⟨rfl, hsz, hP, hK, hD0, hN⟩ := hv
  have hx := B.exec
  have hb := B.bytes
  have hr := B.returns
  have hts := atoms_spec (ws := wsX5_clearText) B.pre
  have hown : s.vm.findClass RX5 = some m.cls := findClass_of_methodNamed B.named
  have hlocks := B.notSynchronized
  subst hsz
  have hD := hD0.self (sz := s.heap.size)
  generalize hAe : va_A (wA cI cC cD ad X rf) s.heap.size = A at hD ⊢
  have hA : ∀ q : Nat, s.heap.size ≤ q → A q := fun q h => by rw [← hAe]; exact Or.inr h
  have hS : va_S A s.heap s.heap [] := va_S.rf
  have hl := lv_entry ([.ref (ad 0 0)]) (n := 1) (Nat.le_of_ble_eq_true rfl)
  rw [lg_entry_eq]
  generalize (lg_sl ([.ref (ad 0 0)]) ++ List.replicate (1 - (lg_sl ([.ref (ad 0 0)])).length) Slot.unset).toArray = ls at hl ⊢
  have hl : lv_has ls 1 [(0, .ref (ad 0 0))] := hl
  have hinX5 : ∀ w ∈ wsX50, w ∈ wsX5_clearText := by decide +kernel
  have hL29 := hts (.fieldLink RX5 29 "CraneGates" "script" "LCraneGates$Script;") (by decide +kernel)
  unfold q_X5_clearText at h
  refine lv_aload_n hx hb dX5_clearText_0 rfl (lv_at hl 0 rfl) ?_
  refine va_get (D := G) (ci := 5) (v := .ref (ad 0 3)) (C := RX5) (T := TX5) (N := 4) hx hb hts hinX5 hown hK hP 0 rfl rfl 3 (by decide) hL29 (fun _ h9 => h9) rfl dX5_clearText_1 ?_
  refine kc_i (As := []) (rest := []) (wg := (fun u => (wA cI cC cD ad (uX X 0 u) rf))) ⟨hx, hb, hml, hown, hts⟩ (c_X3_empty l G cI cC cD (ad 0 3) (ad 0 4) _ (X 0)  _ h) (cwV 0 hts gX5_clearText_X3_empty rfl rfl rfl (by decide +kernel) ⟨Nat.le_of_ble_eq_true rfl, Nat.le_of_ble_eq_true rfl⟩) hK hN hP hD hS hA (em_A_S cI cC cD ad X rf) (fun u => rp_A_S cI cC cD ad X rf u) rfl rfl rfl rfl hl.1 rfl (Nat.le_of_ble_eq_true rfl) dX5_clearText_4 ⟨Nat.zero_le _, Nat.zero_le _⟩ (fun r_1 u_2 H locs h hP hD hS => ?_)
  exact W.iret (v := r_1) hx hb hr (fun t ht hW => ⟨⟨r_1, (uX X 0 u_2), rfl, h, by rw [ht]; exact hP, hD⟩, hS.F ht⟩) hS.2.2 dX5_clearText_7
def q_X5_fault (x : Int32) (X : (Nat → St)) (Q : Int32 → (Nat → St) → Prop) : Prop :=
  (x < 0 → Q (-1000001) X) ∧ (¬ (x < 0) → (x ≤ 1 → q_X0_copyFrom (X 2) (X 1) (fun u_3 => q_X3_doOrdersOn (X 0) u_3 (fun u_4a u_4b => q_X3_faultReason u_4a (fun r_5 => (r_5 = 0 → Q (-1000004) (uX (uX (uX X 2 u_3) 0 u_4a) 2 u_4b)) ∧ (¬ (r_5 = 0) → (x = 0 → q_X3_faultPlace u_4a (fun r_9 => Q r_9 (uX (uX (uX X 2 u_3) 0 u_4a) 2 u_4b))) ∧ (¬ (x = 0) → q_X3_faultReason u_4a (fun r_8 => Q r_8 (uX (uX (uX X 2 u_3) 0 u_4a) 2 u_4b)))))))) ∧ (¬ (x ≤ 1) → Q (-1000001) X))
set_option maxHeartbeats 4000000 in
set_option maxRecDepth 100000 in
theorem c_X5_fault (l : Launch) (G : va_G) (cI cC cD : ClassId) (ad : Nat → Nat → Nat) (rf : Nat → Option Nat) (hrf : rfOk ad rf) (sz : Nat) (X : (Nat → St)) (x : Int32) (Q : Int32 → (Nat → St) → Prop) (h : q_X5_fault x X Q) : Met l yX5_fault wsX5_fault ({ frames := 6, cells := 0, slots := 0, locals := 133 }) (va_Pc [.ref (ad 0 0), .int x] (PW G (ty3 cI cC cD) (wA cI cC cD ad X rf) sz)) (va_Qi Q (BW G (fun u : (Nat → St) => (wA cI cC cD ad u rf)) (va_A (wA cI cC cD ad X rf) sz)) (va_A (wA cI cC cD ad X rf) sz)) 0 0 (va_A (wA cI cC cD ad X rf) sz) := by
  refine Met.ofW (cc := cX5_fault) (maxL := 2) (ret := (some .int)) (by decide) rfl ?_
  intro p e s m args below meth c s₁ B hml hv
  obtain ⟨rfl, hsz, hP, hK, hD0, hN⟩ := hv
  have hx := B.exec
  have hb := B.bytes
  have hr := B.returns
  have hts := atoms_spec (ws := wsX5_fault) B.pre
  have hown : s.vm.findClass RX5 = some m.cls := findClass_of_methodNamed B.named
  have hlocks := B.notSynchronized
  subst hsz
  have hD := hD0.self (sz := s.heap.size)
  generalize hAe : va_A (wA cI cC cD ad X rf) s.heap.size = A at hD ⊢
  have hA : ∀ q : Nat, s.heap.size ≤ q → A q := fun q h => by rw [← hAe]; exact Or.inr h
  have hS : va_S A s.heap s.heap [] := va_S.rf
  have hl := lv_entry ([.ref (ad 0 0), .int x]) (n := 2) (Nat.le_of_ble_eq_true rfl)
  rw [lg_entry_eq]
  generalize (lg_sl ([.ref (ad 0 0), .int x]) ++ List.replicate (2 - (lg_sl ([.ref (ad 0 0), .int x])).length) Slot.unset).toArray = ls at hl ⊢
  have hl : lv_has ls 2 [(0, .ref (ad 0 0)), (1, .int x)] := hl
  have hinX5 : ∀ w ∈ wsX50, w ∈ wsX5_fault := by decide +kernel
  have hL10 := hts (.fieldLink RX5 10 "CraneGates" "dam" "LCraneGates$Dam;") (by decide +kernel)
  have hL16 := hts (.fieldLink RX5 16 "CraneGates" "trial" "LCraneGates$Dam;") (by decide +kernel)
  have hL29 := hts (.fieldLink RX5 29 "CraneGates" "script" "LCraneGates$Script;") (by decide +kernel)
  unfold q_X5_fault at h
  refine lv_iload_n hx hb dX5_fault_0 rfl (lv_at hl 1 rfl) ?_
  refine lv_if_lt (tgt := 9) hx hb dX5_fault_1 (by decide) (fun c_1 => ?_) (fun c_1 => ?_)
  · have h := h.1 c_1
    refine lv_ldc hx hb hown (hts (.constant RX5 87 (-1000001)) (by decide +kernel)) dX5_fault_9 ?_
    exact W.iret (v := (-1000001)) hx hb hr (fun t ht hW => ⟨⟨(-1000001), X, rfl, h, by rw [ht]; exact hP, hD⟩, hS.F ht⟩) hS.2.2 dX5_fault_11
  · have h := h.2 c_1
    refine lv_iload_n hx hb dX5_fault_4 rfl (lv_at hl 1 rfl) ?_
    refine lv_iconst (v := 1) hx hb dX5_fault_5 (by decide) ?_
    refine lv_icmp_le (tgt := 12) hx hb dX5_fault_6 (by decide) (fun c_2 => ?_) (fun c_2 => ?_)
    · have h := h.1 c_2
      refine lv_aload_n hx hb dX5_fault_12 rfl (lv_at hl 0 rfl) ?_
      refine va_get (D := G) (ci := 5) (v := .ref (ad 2 0)) (C := RX5) (T := TX5) (N := 4) hx hb hts hinX5 hown hK hP 0 rfl rfl 1 (by decide) hL16 (fun _ h9 => h9) rfl dX5_fault_13 ?_
      refine lv_aload_n hx hb dX5_fault_16 rfl (lv_at hl 0 rfl) ?_
      refine va_get (D := G) (ci := 5) (v := .ref (ad 1 0)) (C := RX5) (T := TX5) (N := 4) hx hb hts hinX5 hown hK hP 0 rfl rfl 0 (by decide) hL10 (fun _ h9 => h9) rfl dX5_fault_17 ?_
      refine kc_v (As := [.ref (ad 1 0)]) (rest := []) (wg := (fun u => (wA cI cC cD ad (uX X 2 u) rf))) ⟨hx, hb, hml, hown, hts⟩ (c_X0_copyFrom l G cI cC cD (ad 2) (ad 1) _ (X 2) (X 1)  _ h) (cwV 1 hts gX5_fault_X0_copyFrom rfl rfl rfl (by decide +kernel) ⟨Nat.le_of_ble_eq_true rfl, Nat.le_of_ble_eq_true rfl⟩) hK hN hP hD hS hA (em_A_21 cI cC cD ad X rf) (fun u => rp_A_21 cI cC cD ad X rf u) rfl rfl rfl rfl hl.1 rfl (Nat.le_of_ble_eq_true rfl) dX5_fault_20 ⟨Nat.zero_le _, Nat.zero_le _⟩ (fun u_3 H locs h hP hD hS => ?_)
      refine lv_aload_n hx hb dX5_fault_23 rfl (lv_at hl 0 rfl) ?_
      refine va_get (D := G) (ci := 5) (v := .ref (ad 0 3)) (C := RX5) (T := TX5) (N := 4) hx hb hts hinX5 hown hK hP 0 rfl rfl 3 (by decide) hL29 (fun _ h9 => h9) rfl dX5_fault_24 ?_
      refine lv_aload_n hx hb dX5_fault_27 rfl (lv_at hl 0 rfl) ?_
      refine va_get (D := G) (ci := 5) (v := .ref (ad 2 0)) (C := RX5) (T := TX5) (N := 4) hx hb hts hinX5 hown hK hP 0 rfl rfl 1 (by decide) hL16 (fun _ h9 => h9) rfl dX5_fault_28 ?_
      refine kc_v (As := [.ref (ad 2 0)]) (rest := []) (wg := (fun u => (wA cI cC cD ad (uX (uX (uX X 2 u_3) 0 u.1) 2 u.2) rf))) ⟨hx, hb, hml, hown, hts⟩ (c_X3_doOrdersOn l G cI cC cD (ad 0 3) (ad 0 4) (ad 2) _ (X 0) u_3  _ h) (cwV 1 hts gX5_fault_X3_doOrdersOn rfl rfl rfl (by decide +kernel) ⟨Nat.le_of_ble_eq_true rfl, Nat.le_of_ble_eq_true rfl⟩) hK hN hP hD hS hA (em_A_S2 cI cC cD ad (uX X 2 u_3) rf) (fun u => rp_A_S2 cI cC cD ad (uX X 2 u_3) rf u) rfl rfl rfl rfl hl.1 rfl (Nat.le_of_ble_eq_true rfl) dX5_fault_31 ⟨Nat.zero_le _, Nat.zero_le _⟩ (fun u_4 H locs h hP hD hS => ?_)
      obtain ⟨u_4a, u_4b⟩ := u_4
      refine lv_aload_n hx hb dX5_fault_34 rfl (lv_at hl 0 rfl) ?_
      refine va_get (D := G) (ci := 5) (v := .ref (ad 0 3)) (C := RX5) (T := TX5) (N := 4) hx hb hts hinX5 hown hK hP 0 rfl rfl 3 (by decide) hL29 (fun _ h9 => h9) rfl dX5_fault_35 ?_
      refine kc_i (As := []) (rest := []) (wg := (fun _ => (wA cI cC cD ad (uX (uX (uX X 2 u_3) 0 u_4a) 2 u_4b) rf))) ⟨hx, hb, hml, hown, hts⟩ (c_X3_faultReason l G cI cC cD (ad 0 3) (ad 0 4) _ u_4a  _ h) (cwV 0 hts gX5_fault_X3_faultReason rfl rfl rfl (by decide +kernel) ⟨Nat.le_of_ble_eq_true rfl, Nat.le_of_ble_eq_true rfl⟩) hK hN hP hD hS hA (em_A_S cI cC cD ad (uX (uX (uX X 2 u_3) 0 u_4a) 2 u_4b) rf) (fun _ => rp_self (em_A_S cI cC cD ad (uX (uX (uX X 2 u_3) 0 u_4a) 2 u_4b) rf)) rfl rfl rfl rfl hl.1 rfl (Nat.le_of_ble_eq_true rfl) dX5_fault_38 ⟨Nat.zero_le _, Nat.zero_le _⟩ (fun r_5 _ H locs h hP hD hS => ?_)
      refine lv_if_ne (tgt := 47) hx hb dX5_fault_41 (by decide) (fun c_6 => ?_) (fun c_6 => ?_)
      · have h := h.2 c_6
        refine lv_iload_n hx hb dX5_fault_47 rfl (lv_at hl 1 rfl) ?_
        refine lv_if_ne (tgt := 61) hx hb dX5_fault_48 (by decide) (fun c_7 => ?_) (fun c_7 => ?_)
        · have h := h.2 c_7
          refine lv_aload_n hx hb dX5_fault_61 rfl (lv_at hl 0 rfl) ?_
          refine va_get (D := G) (ci := 5) (v := .ref (ad 0 3)) (C := RX5) (T := TX5) (N := 4) hx hb hts hinX5 hown hK hP 0 rfl rfl 3 (by decide) hL29 (fun _ h9 => h9) rfl dX5_fault_62 ?_
          refine kc_i (As := []) (rest := []) (wg := (fun _ => (wA cI cC cD ad (uX (uX (uX X 2 u_3) 0 u_4a) 2 u_4b) rf))) ⟨hx, hb, hml, hown, hts⟩ (c_X3_faultReason l G cI cC cD (ad 0 3) (ad 0 4) _ u_4a  _ h) (cwV 0 hts gX5_fault_X3_faultReason rfl rfl rfl (by decide +kernel) ⟨Nat.le_of_ble_eq_true rfl, Nat.le_of_ble_eq_true rfl⟩) hK hN hP hD hS hA (em_A_S cI cC cD ad (uX (uX (uX X 2 u_3) 0 u_4a) 2 u_4b) rf) (fun _ => rp_self (em_A_S cI cC cD ad (uX (uX (uX X 2 u_3) 0 u_4a) 2 u_4b) rf)) rfl rfl rfl rfl hl.1 rfl (Nat.le_of_ble_eq_true rfl) dX5_fault_65 ⟨Nat.zero_le _, Nat.zero_le _⟩ (fun r_8 _ H locs h hP hD hS => ?_)
          exact W.iret (v := r_8) hx hb hr (fun t ht hW => ⟨⟨r_8, (uX (uX (uX X 2 u_3) 0 u_4a) 2 u_4b), rfl, h, by rw [ht]; exact hP, hD⟩, hS.F ht⟩) hS.2.2 dX5_fault_68
        · have h := h.1 c_7
          refine lv_aload_n hx hb dX5_fault_51 rfl (lv_at hl 0 rfl) ?_
          refine va_get (D := G) (ci := 5) (v := .ref (ad 0 3)) (C := RX5) (T := TX5) (N := 4) hx hb hts hinX5 hown hK hP 0 rfl rfl 3 (by decide) hL29 (fun _ h9 => h9) rfl dX5_fault_52 ?_
          refine kc_i (As := []) (rest := []) (wg := (fun _ => (wA cI cC cD ad (uX (uX (uX X 2 u_3) 0 u_4a) 2 u_4b) rf))) ⟨hx, hb, hml, hown, hts⟩ (c_X3_faultPlace l G cI cC cD (ad 0 3) (ad 0 4) _ u_4a  _ h) (cwV 0 hts gX5_fault_X3_faultPlace rfl rfl rfl (by decide +kernel) ⟨Nat.le_of_ble_eq_true rfl, Nat.le_of_ble_eq_true rfl⟩) hK hN hP hD hS hA (em_A_S cI cC cD ad (uX (uX (uX X 2 u_3) 0 u_4a) 2 u_4b) rf) (fun _ => rp_self (em_A_S cI cC cD ad (uX (uX (uX X 2 u_3) 0 u_4a) 2 u_4b) rf)) rfl rfl rfl rfl hl.1 rfl (Nat.le_of_ble_eq_true rfl) dX5_fault_55 ⟨Nat.zero_le _, Nat.zero_le _⟩ (fun r_9 _ H locs h hP hD hS => ?_)
          refine lv_goto (tgt := 68) hx hb dX5_fault_58 (by decide) ?_
          exact W.iret (v := r_9) hx hb hr (fun t ht hW => ⟨⟨r_9, (uX (uX (uX X 2 u_3) 0 u_4a) 2 u_4b), rfl, h, by rw [ht]; exact hP, hD⟩, hS.F ht⟩) hS.2.2 dX5_fault_68
      · have h := h.1 c_6
        refine lv_ldc hx hb hown (hts (.constant RX5 94 (-1000004)) (by decide +kernel)) dX5_fault_44 ?_
        exact W.iret (v := (-1000004)) hx hb hr (fun t ht hW => ⟨⟨(-1000004), (uX (uX (uX X 2 u_3) 0 u_4a) 2 u_4b), rfl, h, by rw [ht]; exact hP, hD⟩, hS.F ht⟩) hS.2.2 dX5_fault_46
    · have h := h.2 c_2
      refine lv_ldc hx hb hown (hts (.constant RX5 87 (-1000001)) (by decide +kernel)) dX5_fault_9 ?_
      exact W.iret (v := (-1000001)) hx hb hr (fun t ht hW => ⟨⟨(-1000001), X, rfl, h, by rw [ht]; exact hP, hD⟩, hS.F ht⟩) hS.2.2 dX5_fault_11
def q_X5_play (X : (Nat → St)) (Q : Int32 → (Nat → St) → Prop) : Prop :=
  q_X0_copyFrom (X 2) (X 1) (fun u_1 => q_X3_doOrdersOn (X 0) u_1 (fun u_2a u_2b => q_X3_faultReason u_2a (fun r_3 => (r_3 = 0 → q_X2_prepare (uX (uX (uX X 2 u_1) 0 u_2a) 2 u_2b) (fun u_5 => q_X0_copyFrom (u_5 1) (u_5 2) (fun u_6 => q_X0_water u_6 (fun r_7 => q_X5_kept r_7 (uX u_5 1 u_6) (fun r_8 u_9 => Q r_8 u_9))))) ∧ (¬ (r_3 = 0) → Q (-1000002) (uX (uX (uX X 2 u_1) 0 u_2a) 2 u_2b)))))
set_option maxHeartbeats 4000000 in
set_option maxRecDepth 100000 in
theorem c_X5_play (l : Launch) (G : va_G) (cI cC cD : ClassId) (ad : Nat → Nat → Nat) (rf : Nat → Option Nat) (hrf : rfOk ad rf) (sz : Nat) (X : (Nat → St))  (Q : Int32 → (Nat → St) → Prop) (h : q_X5_play  X Q) : Met l yX5_play wsX5_play ({ frames := 6, cells := 0, slots := 0, locals := 133 }) (va_Pc [.ref (ad 0 0)] (PW G (ty3 cI cC cD) (wA cI cC cD ad X rf) sz)) (va_Qi (fun (r : Int32) (u : (Nat → St) × (Nat → Nat → Nat) × (Nat → Option Nat)) => Q r u.1 ∧ aOk ad u.2.1 u.2.2) (BW G (fun u : (Nat → St) × (Nat → Nat → Nat) × (Nat → Option Nat) => (wA cI cC cD u.2.1 u.1 u.2.2)) (va_A (wA cI cC cD ad X rf) sz)) (va_A (wA cI cC cD ad X rf) sz)) 0 0 (va_A (wA cI cC cD ad X rf) sz) := by
  refine Met.ofW (cc := cX5_play) (maxL := 1) (ret := (some .int)) (by decide) rfl ?_
  intro p e s m args below meth c s₁ B hml hv
  obtain ⟨rfl, hsz, hP, hK, hD0, hN⟩ := hv
  have hx := B.exec
  have hb := B.bytes
  have hr := B.returns
  have hts := atoms_spec (ws := wsX5_play) B.pre
  have hown : s.vm.findClass RX5 = some m.cls := findClass_of_methodNamed B.named
  have hlocks := B.notSynchronized
  subst hsz
  have hD := hD0.self (sz := s.heap.size)
  generalize hAe : va_A (wA cI cC cD ad X rf) s.heap.size = A at hD ⊢
  have hA : ∀ q : Nat, s.heap.size ≤ q → A q := fun q h => by rw [← hAe]; exact Or.inr h
  have hS : va_S A s.heap s.heap [] := va_S.rf
  have hl := lv_entry ([.ref (ad 0 0)]) (n := 1) (Nat.le_of_ble_eq_true rfl)
  rw [lg_entry_eq]
  generalize (lg_sl ([.ref (ad 0 0)]) ++ List.replicate (1 - (lg_sl ([.ref (ad 0 0)])).length) Slot.unset).toArray = ls at hl ⊢
  have hl : lv_has ls 1 [(0, .ref (ad 0 0))] := hl
  have hinX5 : ∀ w ∈ wsX50, w ∈ wsX5_play := by decide +kernel
  have hL10 := hts (.fieldLink RX5 10 "CraneGates" "dam" "LCraneGates$Dam;") (by decide +kernel)
  have hL16 := hts (.fieldLink RX5 16 "CraneGates" "trial" "LCraneGates$Dam;") (by decide +kernel)
  have hL22 := hts (.fieldLink RX5 22 "CraneGates" "history" "LCraneGates$History;") (by decide +kernel)
  have hL29 := hts (.fieldLink RX5 29 "CraneGates" "script" "LCraneGates$Script;") (by decide +kernel)
  unfold q_X5_play at h
  refine lv_aload_n hx hb dX5_play_0 rfl (lv_at hl 0 rfl) ?_
  refine va_get (D := G) (ci := 5) (v := .ref (ad 2 0)) (C := RX5) (T := TX5) (N := 4) hx hb hts hinX5 hown hK hP 0 rfl rfl 1 (by decide) hL16 (fun _ h9 => h9) rfl dX5_play_1 ?_
  refine lv_aload_n hx hb dX5_play_4 rfl (lv_at hl 0 rfl) ?_
  refine va_get (D := G) (ci := 5) (v := .ref (ad 1 0)) (C := RX5) (T := TX5) (N := 4) hx hb hts hinX5 hown hK hP 0 rfl rfl 0 (by decide) hL10 (fun _ h9 => h9) rfl dX5_play_5 ?_
  refine kc_v (As := [.ref (ad 1 0)]) (rest := []) (wg := (fun u => (wA cI cC cD ad (uX X 2 u) rf))) ⟨hx, hb, hml, hown, hts⟩ (c_X0_copyFrom l G cI cC cD (ad 2) (ad 1) _ (X 2) (X 1)  _ h) (cwV 1 hts gX5_play_X0_copyFrom rfl rfl rfl (by decide +kernel) ⟨Nat.le_of_ble_eq_true rfl, Nat.le_of_ble_eq_true rfl⟩) hK hN hP hD hS hA (em_A_21 cI cC cD ad X rf) (fun u => rp_A_21 cI cC cD ad X rf u) rfl rfl rfl rfl hl.1 rfl (Nat.le_of_ble_eq_true rfl) dX5_play_8 ⟨Nat.zero_le _, Nat.zero_le _⟩ (fun u_1 H locs h hP hD hS => ?_)
  refine lv_aload_n hx hb dX5_play_11 rfl (lv_at hl 0 rfl) ?_
  refine va_get (D := G) (ci := 5) (v := .ref (ad 0 3)) (C := RX5) (T := TX5) (N := 4) hx hb hts hinX5 hown hK hP 0 rfl rfl 3 (by decide) hL29 (fun _ h9 => h9) rfl dX5_play_12 ?_
  refine lv_aload_n hx hb dX5_play_15 rfl (lv_at hl 0 rfl) ?_
  refine va_get (D := G) (ci := 5) (v := .ref (ad 2 0)) (C := RX5) (T := TX5) (N := 4) hx hb hts hinX5 hown hK hP 0 rfl rfl 1 (by decide) hL16 (fun _ h9 => h9) rfl dX5_play_16 ?_
  refine kc_v (As := [.ref (ad 2 0)]) (rest := []) (wg := (fun u => (wA cI cC cD ad (uX (uX (uX X 2 u_1) 0 u.1) 2 u.2) rf))) ⟨hx, hb, hml, hown, hts⟩ (c_X3_doOrdersOn l G cI cC cD (ad 0 3) (ad 0 4) (ad 2) _ (X 0) u_1  _ h) (cwV 1 hts gX5_play_X3_doOrdersOn rfl rfl rfl (by decide +kernel) ⟨Nat.le_of_ble_eq_true rfl, Nat.le_of_ble_eq_true rfl⟩) hK hN hP hD hS hA (em_A_S2 cI cC cD ad (uX X 2 u_1) rf) (fun u => rp_A_S2 cI cC cD ad (uX X 2 u_1) rf u) rfl rfl rfl rfl hl.1 rfl (Nat.le_of_ble_eq_true rfl) dX5_play_19 ⟨Nat.zero_le _, Nat.zero_le _⟩ (fun u_2 H locs h hP hD hS => ?_)
  obtain ⟨u_2a, u_2b⟩ := u_2
  refine lv_aload_n hx hb dX5_play_22 rfl (lv_at hl 0 rfl) ?_
  refine va_get (D := G) (ci := 5) (v := .ref (ad 0 3)) (C := RX5) (T := TX5) (N := 4) hx hb hts hinX5 hown hK hP 0 rfl rfl 3 (by decide) hL29 (fun _ h9 => h9) rfl dX5_play_23 ?_
  refine kc_i (As := []) (rest := []) (wg := (fun _ => (wA cI cC cD ad (uX (uX (uX X 2 u_1) 0 u_2a) 2 u_2b) rf))) ⟨hx, hb, hml, hown, hts⟩ (c_X3_faultReason l G cI cC cD (ad 0 3) (ad 0 4) _ u_2a  _ h) (cwV 0 hts gX5_play_X3_faultReason rfl rfl rfl (by decide +kernel) ⟨Nat.le_of_ble_eq_true rfl, Nat.le_of_ble_eq_true rfl⟩) hK hN hP hD hS hA (em_A_S cI cC cD ad (uX (uX (uX X 2 u_1) 0 u_2a) 2 u_2b) rf) (fun _ => rp_self (em_A_S cI cC cD ad (uX (uX (uX X 2 u_1) 0 u_2a) 2 u_2b) rf)) rfl rfl rfl rfl hl.1 rfl (Nat.le_of_ble_eq_true rfl) dX5_play_26 ⟨Nat.zero_le _, Nat.zero_le _⟩ (fun r_3 _ H locs h hP hD hS => ?_)
  refine lv_if_eq (tgt := 35) hx hb dX5_play_29 (by decide) (fun c_4 => ?_) (fun c_4 => ?_)
  · have h := h.1 c_4
    refine lv_aload_n hx hb dX5_play_35 rfl (lv_at hl 0 rfl) ?_
    refine va_get (D := G) (ci := 5) (v := .ref (ad 0 1)) (C := RX5) (T := TX5) (N := 4) hx hb hts hinX5 hown hK hP 0 rfl rfl 2 (by decide) hL22 (fun _ h9 => h9) rfl dX5_play_36 ?_
    refine lv_aload_n hx hb dX5_play_39 rfl (lv_at hl 0 rfl) ?_
    refine va_get (D := G) (ci := 5) (v := .ref (ad 1 0)) (C := RX5) (T := TX5) (N := 4) hx hb hts hinX5 hown hK hP 0 rfl rfl 0 (by decide) hL10 (fun _ h9 => h9) rfl dX5_play_40 ?_
    refine kw_v (k0 := 1) (As := [.ref (ad 1 0)]) (rest := []) ⟨hx, hb, hml, hown, hts⟩ (c_X2_prepare l G cI cC cD ad rf hrf _ (uX (uX (uX X 2 u_1) 0 u_2a) 2 u_2b)  _ h) (cwV 1 hts gX5_play_X2_prepare rfl rfl rfl (by decide +kernel) ⟨Nat.le_of_ble_eq_true rfl, Nat.le_of_ble_eq_true rfl⟩) hK hN hP hD hS hA rfl rfl rfl rfl hl.1 rfl (Nat.le_of_ble_eq_true rfl) dX5_play_43 ⟨Nat.zero_le _, Nat.zero_le _⟩ (fun u_5 H locs h hP hD hS => ?_)
    refine lv_aload_n hx hb dX5_play_46 rfl (lv_at hl 0 rfl) ?_
    refine va_get (D := G) (ci := 5) (v := .ref (ad 1 0)) (C := RX5) (T := TX5) (N := 4) hx hb hts hinX5 hown hK hP 0 rfl rfl 0 (by decide) hL10 (fun _ h9 => h9) rfl dX5_play_47 ?_
    refine lv_aload_n hx hb dX5_play_50 rfl (lv_at hl 0 rfl) ?_
    refine va_get (D := G) (ci := 5) (v := .ref (ad 2 0)) (C := RX5) (T := TX5) (N := 4) hx hb hts hinX5 hown hK hP 0 rfl rfl 1 (by decide) hL16 (fun _ h9 => h9) rfl dX5_play_51 ?_
    refine kc_v (As := [.ref (ad 2 0)]) (rest := []) (wg := (fun u => (wA cI cC cD ad (uX u_5 1 u) rf))) ⟨hx, hb, hml, hown, hts⟩ (c_X0_copyFrom l G cI cC cD (ad 1) (ad 2) _ (u_5 1) (u_5 2)  _ h) (cwV 1 hts gX5_play_X0_copyFrom rfl rfl rfl (by decide +kernel) ⟨Nat.le_of_ble_eq_true rfl, Nat.le_of_ble_eq_true rfl⟩) hK hN hP hD hS hA (em_A_12 cI cC cD ad u_5 rf) (fun u => rp_A_12 cI cC cD ad u_5 rf u) rfl rfl rfl rfl hl.1 rfl (Nat.le_of_ble_eq_true rfl) dX5_play_54 ⟨Nat.zero_le _, Nat.zero_le _⟩ (fun u_6 H locs h hP hD hS => ?_)
    refine lv_aload_n hx hb dX5_play_57 rfl (lv_at hl 0 rfl) ?_
    refine lv_aload_n hx hb dX5_play_58 rfl (lv_at hl 0 rfl) ?_
    refine va_get (D := G) (ci := 5) (v := .ref (ad 1 0)) (C := RX5) (T := TX5) (N := 4) hx hb hts hinX5 hown hK hP 0 rfl rfl 0 (by decide) hL10 (fun _ h9 => h9) rfl dX5_play_59 ?_
    refine kc_i (As := []) (rest := [.ref (ad 0 0)]) (wg := (fun _ => (wA cI cC cD ad (uX u_5 1 u_6) rf))) ⟨hx, hb, hml, hown, hts⟩ (c_X0_water l G cI cC cD (ad 1) _ u_6  _ h) (cwV 0 hts gX5_play_X0_water rfl rfl rfl (by decide +kernel) ⟨Nat.le_of_ble_eq_true rfl, Nat.le_of_ble_eq_true rfl⟩) hK hN hP hD hS hA (em_A_1 cI cC cD ad (uX u_5 1 u_6) rf) (fun _ => rp_self (em_A_1 cI cC cD ad (uX u_5 1 u_6) rf)) rfl rfl rfl rfl hl.1 rfl (Nat.le_of_ble_eq_true rfl) dX5_play_62 ⟨Nat.zero_le _, Nat.zero_le _⟩ (fun r_7 _ H locs h hP hD hS => ?_)
    refine kw_i (k0 := 0) (As := [.int r_7]) (rest := []) ⟨hx, hb, hml, hown, hts⟩ (c_X5_kept l G cI cC cD ad rf hrf _ (uX u_5 1 u_6) r_7 _ h) (cwV 1 hts gX5_play_X5_kept rfl rfl rfl (by decide +kernel) ⟨Nat.le_of_ble_eq_true rfl, Nat.le_of_ble_eq_true rfl⟩) hK hN hP hD hS hA rfl rfl rfl rfl hl.1 rfl (Nat.le_of_ble_eq_true rfl) dX5_play_65 ⟨Nat.zero_le _, Nat.zero_le _⟩ (fun r_8 u_9 H locs h hP hD hS => ?_)
    obtain ⟨u_9, ad_u_9, rf_u_9⟩ := u_9
    obtain ⟨h, hu_10⟩ := h
    exact W.iret (v := r_8) hx hb hr (fun t ht hW => ⟨⟨r_8, (u_9, ad_u_9, rf_u_9), rfl, ⟨h, hu_10⟩, by rw [ht]; exact hP, hD⟩, hS.F ht⟩) hS.2.2 dX5_play_68
  · have h := h.2 c_4
    refine lv_ldc hx hb hown (hts (.constant RX5 118 (-1000002)) (by decide +kernel)) dX5_play_32 ?_
    exact W.iret (v := (-1000002)) hx hb hr (fun t ht hW => ⟨⟨(-1000002), ((uX (uX (uX X 2 u_1) 0 u_2a) 2 u_2b), ad, rf), rfl, ⟨h, ⟨rfl, rfl, rfl, hrf⟩⟩, by rw [ht]; exact hP, hD⟩, hS.F ht⟩) hS.2.2 dX5_play_34
