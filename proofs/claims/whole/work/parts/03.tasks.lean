def q_X4_copyFrom (T : St) (E : St) (Q : St → Prop) : Prop :=
  Q (uA (uA (uA T 3 (fun _ => (E 3 0))) 0 (va_cpy (E 0) (T 0) 0 0 8)) 1 (va_cpy (E 1) (T 1) 0 0 8))
set_option maxHeartbeats 4000000 in
set_option maxRecDepth 100000 in
theorem c_X4_copyFrom (l : Launch) (G : va_G) (cI cC cD : ClassId) (k0 k1 k2 : Nat) (k0' k1' k2' : Nat) (sz : Nat) (T : St) (E : St)  (Q : St → Prop) (h : q_X4_copyFrom  T E Q) : Met l yX4_copyFrom wsX4_copyFrom ({ frames := 1, cells := 0, slots := 0, locals := 40 }) (va_Pc [.ref k0, .ref (k0')] (PW G (ty3 cI cC cD) (wT cI k0 k1 k2 T ++ wT cI k0' k1' k2' E) sz)) (va_Qv Q (BW G (fun u : St => (wT cI k0 k1 k2 u ++ wT cI k0' k1' k2' E)) (va_A (wT cI k0 k1 k2 T ++ wT cI k0' k1' k2' E) sz)) (va_A (wT cI k0 k1 k2 T ++ wT cI k0' k1' k2' E) sz)) 0 0 (va_A (wT cI k0 k1 k2 T ++ wT cI k0' k1' k2' E) sz) := by
  refine Met.ofW (cc := cX4_copyFrom) (maxL := 2) (ret := none) (by decide) rfl ?_
  intro p e s m args below meth c s₁ B hml hv
  obtain ⟨rfl, hsz, hP, hK, hD0, hN⟩ := hv
  have hx := B.exec
  have hb := B.bytes
  have hr := B.returns
  have hts := atoms_spec (ws := wsX4_copyFrom) B.pre
  have hown : s.vm.findClass RX4 = some m.cls := findClass_of_methodNamed B.named
  have hlocks := B.notSynchronized
  subst hsz
  have hD := hD0.self (sz := s.heap.size)
  generalize hAe : va_A (wT cI k0 k1 k2 T ++ wT cI k0' k1' k2' E) s.heap.size = A at hD ⊢
  have hA : ∀ q : Nat, s.heap.size ≤ q → A q := fun q h => by rw [← hAe]; exact Or.inr h
  have hS : va_S A s.heap s.heap [] := va_S.rf
  have hl := lv_entry ([.ref k0, .ref (k0')]) (n := 2) (Nat.le_of_ble_eq_true rfl)
  rw [lg_entry_eq]
  generalize (lg_sl ([.ref k0, .ref (k0')]) ++ List.replicate (2 - (lg_sl ([.ref k0, .ref (k0')])).length) Slot.unset).toArray = ls at hl ⊢
  have hl : lv_has ls 2 [(0, .ref k0), (1, .ref (k0'))] := hl
  have hinX4 : ∀ w ∈ wsX40, w ∈ wsX4_copyFrom := by decide +kernel
  have hL9 := hts (.fieldLink RX4 9 "CraneGates$Tasks" "gates" "[I") (by decide +kernel)
  have hL15 := hts (.fieldLink RX4 15 "CraneGates$Tasks" "openings" "[I") (by decide +kernel)
  have hL28 := hts (.fieldLink RX4 28 "CraneGates$Tasks" "size" "I") (by decide +kernel)
  unfold q_X4_copyFrom at h
  refine lv_aload_n hx hb dX4_copyFrom_0 rfl (lv_at hl 0 rfl) ?_
  refine lv_aload_n hx hb dX4_copyFrom_1 rfl (lv_at hl 1 rfl) ?_
  refine va_get (D := G) (ci := 4) (v := .int (E 3 0)) (C := RX4) (T := TX4) (N := 4) hx hb hts hinX4 hown hK hP 3 rfl rfl 3 (by decide) hL28 (fun _ h9 => h9) rfl dX4_copyFrom_2 ?_
  refine va_put (D := G) (ci := 4) (v := .int (E 3 0)) (ty := .int) (C := RX4) (T := TX4) (N := 4) hx hb hts hinX4 tyX4 tyX4_ok nmX4 hown hK hP hD hS 0 rfl rfl 3 (by decide) hL28 (fun _ h9 => h9) rfl (by decide +kernel) rfl rfl (Nat.le_of_ble_eq_true rfl) dX4_copyFrom_5 (fun H locs hP hD hS => ?_)
  have hP : va_P G vwCl (wT cI k0 k1 k2 (uA T 3 (fun _ => (E 3 0))) ++ wT cI k0' k1' k2' E) H := hP
  have hD : va_D A (wT cI k0 k1 k2 (uA T 3 (fun _ => (E 3 0))) ++ wT cI k0' k1' k2' E) := hD
  refine lv_aload_n hx hb dX4_copyFrom_8 rfl (lv_at hl 1 rfl) ?_
  refine va_get (D := G) (ci := 4) (v := .ref (k1')) (C := RX4) (T := TX4) (N := 4) hx hb hts hinX4 hown hK hP 3 rfl rfl 0 (by decide) hL9 (fun _ h9 => h9) rfl dX4_copyFrom_9 ?_
  refine lv_iconst (v := 0) hx hb dX4_copyFrom_12 (by decide) ?_
  refine lv_aload_n hx hb dX4_copyFrom_13 rfl (lv_at hl 0 rfl) ?_
  refine va_get (D := G) (ci := 4) (v := .ref k1) (C := RX4) (T := TX4) (N := 4) hx hb hts hinX4 hown hK hP 0 rfl rfl 0 (by decide) hL9 (fun _ h9 => h9) rfl dX4_copyFrom_14 ?_
  refine lv_iconst (v := 0) hx hb dX4_copyFrom_17 (by decide) ?_
  refine lv_bipush (v := 8) hx hb dX4_copyFrom_18 (by decide) ?_
  refine va_copyi (f := (E 0)) (g := (T 0)) (ty := .int) hx hb (hl.1 ▸ hml) hown (hts (.methodLink RX4 31 arraycopyName) (by decide +kernel)) (hts (.native arraycopyName) (by decide +kernel)) (hts (.static arraycopyName) (by decide +kernel)) (hts (.initialized "java/lang/System") (by decide +kernel)) hK hP hD hS 4 1 0 0 rfl rfl rfl rfl rfl (by decide) (by decide) (by decide) (by decide) (by decide) (fun i _ => rfl) (Nat.le_of_ble_eq_true rfl) (Nat.le_of_ble_eq_true rfl) dX4_copyFrom_20 (fun H locs hP hD hS => ?_)
  have hP : va_P G vwCl (wT cI k0 k1 k2 (uA (uA T 3 (fun _ => (E 3 0))) 0 (va_cpy (E 0) (T 0) 0 0 8)) ++ wT cI k0' k1' k2' E) H := hP
  have hD : va_D A (wT cI k0 k1 k2 (uA (uA T 3 (fun _ => (E 3 0))) 0 (va_cpy (E 0) (T 0) 0 0 8)) ++ wT cI k0' k1' k2' E) := hD
  refine lv_aload_n hx hb dX4_copyFrom_23 rfl (lv_at hl 1 rfl) ?_
  refine va_get (D := G) (ci := 4) (v := .ref (k2')) (C := RX4) (T := TX4) (N := 4) hx hb hts hinX4 hown hK hP 3 rfl rfl 1 (by decide) hL15 (fun _ h9 => h9) rfl dX4_copyFrom_24 ?_
  refine lv_iconst (v := 0) hx hb dX4_copyFrom_27 (by decide) ?_
  refine lv_aload_n hx hb dX4_copyFrom_28 rfl (lv_at hl 0 rfl) ?_
  refine va_get (D := G) (ci := 4) (v := .ref k2) (C := RX4) (T := TX4) (N := 4) hx hb hts hinX4 hown hK hP 0 rfl rfl 1 (by decide) hL15 (fun _ h9 => h9) rfl dX4_copyFrom_29 ?_
  refine lv_iconst (v := 0) hx hb dX4_copyFrom_32 (by decide) ?_
  refine lv_bipush (v := 8) hx hb dX4_copyFrom_33 (by decide) ?_
  refine va_copyi (f := (E 1)) (g := (T 1)) (ty := .int) hx hb (hl.1 ▸ hml) hown (hts (.methodLink RX4 31 arraycopyName) (by decide +kernel)) (hts (.native arraycopyName) (by decide +kernel)) (hts (.static arraycopyName) (by decide +kernel)) (hts (.initialized "java/lang/System") (by decide +kernel)) hK hP hD hS 5 2 0 0 rfl rfl rfl rfl rfl (by decide) (by decide) (by decide) (by decide) (by decide) (fun i _ => rfl) (Nat.le_of_ble_eq_true rfl) (Nat.le_of_ble_eq_true rfl) dX4_copyFrom_35 (fun H locs hP hD hS => ?_)
  have hP : va_P G vwCl (wT cI k0 k1 k2 (uA (uA (uA T 3 (fun _ => (E 3 0))) 0 (va_cpy (E 0) (T 0) 0 0 8)) 1 (va_cpy (E 1) (T 1) 0 0 8)) ++ wT cI k0' k1' k2' E) H := hP
  have hD : va_D A (wT cI k0 k1 k2 (uA (uA (uA T 3 (fun _ => (E 3 0))) 0 (va_cpy (E 0) (T 0) 0 0 8)) 1 (va_cpy (E 1) (T 1) 0 0 8)) ++ wT cI k0' k1' k2' E) := hD
  exact W.vret hx hb hr (fun t ht hW => ⟨⟨(uA (uA (uA T 3 (fun _ => (E 3 0))) 0 (va_cpy (E 0) (T 0) 0 0 8)) 1 (va_cpy (E 1) (T 1) 0 0 8)), rfl, h, by rw [ht]; exact hP, hD⟩, hS.F ht⟩) hS.2.2 dX4_copyFrom_38
def q_X4_size (T : St) (Q : Int32 → Prop) : Prop :=
  Q (T 3 0)
set_option maxHeartbeats 4000000 in
set_option maxRecDepth 100000 in
theorem c_X4_size (l : Launch) (G : va_G) (cI cC cD : ClassId) (k0 k1 k2 : Nat) (sz : Nat) (T : St)  (Q : Int32 → Prop) (h : q_X4_size  T Q) : Met l yX4_size wsX4_size ({ frames := 0, cells := 0, slots := 0, locals := 0 }) (va_Pc [.ref k0] (PW G (ty3 cI cC cD) (wT cI k0 k1 k2 T) sz)) (va_Qi (fun (r : Int32) (_ : Unit) => Q r) (BW G (fun _ : Unit => (wT cI k0 k1 k2 T)) (va_A (wT cI k0 k1 k2 T) sz)) (va_A (wT cI k0 k1 k2 T) sz)) 0 0 (va_A (wT cI k0 k1 k2 T) sz) := by
  refine Met.ofW (cc := cX4_size) (maxL := 1) (ret := (some .int)) (by decide) rfl ?_
  intro p e s m args below meth c s₁ B hml hv
  obtain ⟨rfl, hsz, hP, hK, hD0, hN⟩ := hv
  have hx := B.exec
  have hb := B.bytes
  have hr := B.returns
  have hts := atoms_spec (ws := wsX4_size) B.pre
  have hown : s.vm.findClass RX4 = some m.cls := findClass_of_methodNamed B.named
  have hlocks := B.notSynchronized
  subst hsz
  have hD := hD0.self (sz := s.heap.size)
  generalize hAe : va_A (wT cI k0 k1 k2 T) s.heap.size = A at hD ⊢
  have hA : ∀ q : Nat, s.heap.size ≤ q → A q := fun q h => by rw [← hAe]; exact Or.inr h
  have hS : va_S A s.heap s.heap [] := va_S.rf
  have hl := lv_entry ([.ref k0]) (n := 1) (Nat.le_of_ble_eq_true rfl)
  rw [lg_entry_eq]
  generalize (lg_sl ([.ref k0]) ++ List.replicate (1 - (lg_sl ([.ref k0])).length) Slot.unset).toArray = ls at hl ⊢
  have hl : lv_has ls 1 [(0, .ref k0)] := hl
  have hinX4 : ∀ w ∈ wsX40, w ∈ wsX4_size := by decide +kernel
  have hL28 := hts (.fieldLink RX4 28 "CraneGates$Tasks" "size" "I") (by decide +kernel)
  unfold q_X4_size at h
  refine lv_aload_n hx hb dX4_size_0 rfl (lv_at hl 0 rfl) ?_
  refine va_get (D := G) (ci := 4) (v := .int (T 3 0)) (C := RX4) (T := TX4) (N := 4) hx hb hts hinX4 hown hK hP 0 rfl rfl 3 (by decide) hL28 (fun _ h9 => h9) rfl dX4_size_1 ?_
  exact W.iret (v := (T 3 0)) hx hb hr (fun t ht hW => ⟨⟨(T 3 0), (), rfl, h, by rw [ht]; exact hP, hD⟩, hS.F ht⟩) hS.2.2 dX4_size_4
def q_X4_gateAt (x : Int32) (T : St) (Q : Int32 → Prop) : Prop :=
  (x < 0 → Q (-1)) ∧ (¬ (x < 0) → ((T 3 0) ≤ x → Q (-1)) ∧ (¬ ((T 3 0) ≤ x) → (8 ≤ x → Q (-1)) ∧ (¬ (8 ≤ x) → vp_in x 8 ∧ (Q ((T 0) ((x).toNatClampNeg))))))
set_option maxHeartbeats 4000000 in
set_option maxRecDepth 100000 in
theorem c_X4_gateAt (l : Launch) (G : va_G) (cI cC cD : ClassId) (k0 k1 k2 : Nat) (sz : Nat) (T : St) (x : Int32) (Q : Int32 → Prop) (h : q_X4_gateAt x T Q) : Met l yX4_gateAt wsX4_gateAt ({ frames := 0, cells := 0, slots := 0, locals := 0 }) (va_Pc [.ref k0, .int x] (PW G (ty3 cI cC cD) (wT cI k0 k1 k2 T) sz)) (va_Qi (fun (r : Int32) (_ : Unit) => Q r) (BW G (fun _ : Unit => (wT cI k0 k1 k2 T)) (va_A (wT cI k0 k1 k2 T) sz)) (va_A (wT cI k0 k1 k2 T) sz)) 0 0 (va_A (wT cI k0 k1 k2 T) sz) := by
  refine Met.ofW (cc := cX4_gateAt) (maxL := 2) (ret := (some .int)) (by decide) rfl ?_
  intro p e s m args below meth c s₁ B hml hv
  obtain ⟨rfl, hsz, hP, hK, hD0, hN⟩ := hv
  have hx := B.exec
  have hb := B.bytes
  have hr := B.returns
  have hts := atoms_spec (ws := wsX4_gateAt) B.pre
  have hown : s.vm.findClass RX4 = some m.cls := findClass_of_methodNamed B.named
  have hlocks := B.notSynchronized
  subst hsz
  have hD := hD0.self (sz := s.heap.size)
  generalize hAe : va_A (wT cI k0 k1 k2 T) s.heap.size = A at hD ⊢
  have hA : ∀ q : Nat, s.heap.size ≤ q → A q := fun q h => by rw [← hAe]; exact Or.inr h
  have hS : va_S A s.heap s.heap [] := va_S.rf
  have hl := lv_entry ([.ref k0, .int x]) (n := 2) (Nat.le_of_ble_eq_true rfl)
  rw [lg_entry_eq]
  generalize (lg_sl ([.ref k0, .int x]) ++ List.replicate (2 - (lg_sl ([.ref k0, .int x])).length) Slot.unset).toArray = ls at hl ⊢
  have hl : lv_has ls 2 [(0, .ref k0), (1, .int x)] := hl
  have hinX4 : ∀ w ∈ wsX40, w ∈ wsX4_gateAt := by decide +kernel
  have hL9 := hts (.fieldLink RX4 9 "CraneGates$Tasks" "gates" "[I") (by decide +kernel)
  have hL28 := hts (.fieldLink RX4 28 "CraneGates$Tasks" "size" "I") (by decide +kernel)
  unfold q_X4_gateAt at h
  refine lv_iload_n hx hb dX4_gateAt_0 rfl (lv_at hl 1 rfl) ?_
  refine lv_if_lt (tgt := 27) hx hb dX4_gateAt_1 (by decide) (fun c_1 => ?_) (fun c_1 => ?_)
  · have h := h.1 c_1
    refine lv_iconst (v := (-1)) hx hb dX4_gateAt_27 (by decide) ?_
    exact W.iret (v := (-1)) hx hb hr (fun t ht hW => ⟨⟨(-1), (), rfl, h, by rw [ht]; exact hP, hD⟩, hS.F ht⟩) hS.2.2 dX4_gateAt_28
  · have h := h.2 c_1
    refine lv_iload_n hx hb dX4_gateAt_4 rfl (lv_at hl 1 rfl) ?_
    refine lv_aload_n hx hb dX4_gateAt_5 rfl (lv_at hl 0 rfl) ?_
    refine va_get (D := G) (ci := 4) (v := .int (T 3 0)) (C := RX4) (T := TX4) (N := 4) hx hb hts hinX4 hown hK hP 0 rfl rfl 3 (by decide) hL28 (fun _ h9 => h9) rfl dX4_gateAt_6 ?_
    refine lv_icmp_ge (tgt := 27) hx hb dX4_gateAt_9 (by decide) (fun c_2 => ?_) (fun c_2 => ?_)
    · have h := h.1 c_2
      refine lv_iconst (v := (-1)) hx hb dX4_gateAt_27 (by decide) ?_
      exact W.iret (v := (-1)) hx hb hr (fun t ht hW => ⟨⟨(-1), (), rfl, h, by rw [ht]; exact hP, hD⟩, hS.F ht⟩) hS.2.2 dX4_gateAt_28
    · have h := h.2 c_2
      refine lv_iload_n hx hb dX4_gateAt_12 rfl (lv_at hl 1 rfl) ?_
      refine lv_bipush (v := 8) hx hb dX4_gateAt_13 (by decide) ?_
      refine lv_icmp_ge (tgt := 27) hx hb dX4_gateAt_15 (by decide) (fun c_3 => ?_) (fun c_3 => ?_)
      · have h := h.1 c_3
        refine lv_iconst (v := (-1)) hx hb dX4_gateAt_27 (by decide) ?_
        exact W.iret (v := (-1)) hx hb hr (fun t ht hW => ⟨⟨(-1), (), rfl, h, by rw [ht]; exact hP, hD⟩, hS.F ht⟩) hS.2.2 dX4_gateAt_28
      · have h := h.2 c_3
        refine lv_aload_n hx hb dX4_gateAt_18 rfl (lv_at hl 0 rfl) ?_
        refine va_get (D := G) (ci := 4) (v := .ref k1) (C := RX4) (T := TX4) (N := 4) hx hb hts hinX4 hown hK hP 0 rfl rfl 0 (by decide) hL9 (fun _ h9 => h9) rfl dX4_gateAt_19 ?_
        refine lv_iload_n hx hb dX4_gateAt_22 rfl (lv_at hl 1 rfl) ?_
        obtain ⟨hi_4, h⟩ := h
        refine k_ald (f := (T 0)) (j := (x).toNatClampNeg) (v := ((T 0) ((x).toNatClampNeg))) hx hb hK hP 1 0 rfl rfl hi_4 rfl rfl dX4_gateAt_23 ?_
        refine lv_goto (tgt := 28) hx hb dX4_gateAt_24 (by decide) ?_
        exact W.iret (v := ((T 0) ((x).toNatClampNeg))) hx hb hr (fun t ht hW => ⟨⟨((T 0) ((x).toNatClampNeg)), (), rfl, h, by rw [ht]; exact hP, hD⟩, hS.F ht⟩) hS.2.2 dX4_gateAt_28
def q_X4_openingAt (x : Int32) (T : St) (Q : Int32 → Prop) : Prop :=
  (x < 0 → Q 0) ∧ (¬ (x < 0) → ((T 3 0) ≤ x → Q 0) ∧ (¬ ((T 3 0) ≤ x) → (8 ≤ x → Q 0) ∧ (¬ (8 ≤ x) → vp_in x 8 ∧ (Q ((T 1) ((x).toNatClampNeg))))))
set_option maxHeartbeats 4000000 in
set_option maxRecDepth 100000 in
theorem c_X4_openingAt (l : Launch) (G : va_G) (cI cC cD : ClassId) (k0 k1 k2 : Nat) (sz : Nat) (T : St) (x : Int32) (Q : Int32 → Prop) (h : q_X4_openingAt x T Q) : Met l yX4_openingAt wsX4_openingAt ({ frames := 0, cells := 0, slots := 0, locals := 0 }) (va_Pc [.ref k0, .int x] (PW G (ty3 cI cC cD) (wT cI k0 k1 k2 T) sz)) (va_Qi (fun (r : Int32) (_ : Unit) => Q r) (BW G (fun _ : Unit => (wT cI k0 k1 k2 T)) (va_A (wT cI k0 k1 k2 T) sz)) (va_A (wT cI k0 k1 k2 T) sz)) 0 0 (va_A (wT cI k0 k1 k2 T) sz) := by
  refine Met.ofW (cc := cX4_openingAt) (maxL := 2) (ret := (some .int)) (by decide) rfl ?_
  intro p e s m args below meth c s₁ B hml hv
  obtain ⟨rfl, hsz, hP, hK, hD0, hN⟩ := hv
  have hx := B.exec
  have hb := B.bytes
  have hr := B.returns
  have hts := atoms_spec (ws := wsX4_openingAt) B.pre
  have hown : s.vm.findClass RX4 = some m.cls := findClass_of_methodNamed B.named
  have hlocks := B.notSynchronized
  subst hsz
  have hD := hD0.self (sz := s.heap.size)
  generalize hAe : va_A (wT cI k0 k1 k2 T) s.heap.size = A at hD ⊢
  have hA : ∀ q : Nat, s.heap.size ≤ q → A q := fun q h => by rw [← hAe]; exact Or.inr h
  have hS : va_S A s.heap s.heap [] := va_S.rf
  have hl := lv_entry ([.ref k0, .int x]) (n := 2) (Nat.le_of_ble_eq_true rfl)
  rw [lg_entry_eq]
  generalize (lg_sl ([.ref k0, .int x]) ++ List.replicate (2 - (lg_sl ([.ref k0, .int x])).length) Slot.unset).toArray = ls at hl ⊢
  have hl : lv_has ls 2 [(0, .ref k0), (1, .int x)] := hl
  have hinX4 : ∀ w ∈ wsX40, w ∈ wsX4_openingAt := by decide +kernel
  have hL15 := hts (.fieldLink RX4 15 "CraneGates$Tasks" "openings" "[I") (by decide +kernel)
  have hL28 := hts (.fieldLink RX4 28 "CraneGates$Tasks" "size" "I") (by decide +kernel)
  unfold q_X4_openingAt at h
  refine lv_iload_n hx hb dX4_openingAt_0 rfl (lv_at hl 1 rfl) ?_
  refine lv_if_lt (tgt := 27) hx hb dX4_openingAt_1 (by decide) (fun c_1 => ?_) (fun c_1 => ?_)
  · have h := h.1 c_1
    refine lv_iconst (v := 0) hx hb dX4_openingAt_27 (by decide) ?_
    exact W.iret (v := 0) hx hb hr (fun t ht hW => ⟨⟨0, (), rfl, h, by rw [ht]; exact hP, hD⟩, hS.F ht⟩) hS.2.2 dX4_openingAt_28
  · have h := h.2 c_1
    refine lv_iload_n hx hb dX4_openingAt_4 rfl (lv_at hl 1 rfl) ?_
    refine lv_aload_n hx hb dX4_openingAt_5 rfl (lv_at hl 0 rfl) ?_
    refine va_get (D := G) (ci := 4) (v := .int (T 3 0)) (C := RX4) (T := TX4) (N := 4) hx hb hts hinX4 hown hK hP 0 rfl rfl 3 (by decide) hL28 (fun _ h9 => h9) rfl dX4_openingAt_6 ?_
    refine lv_icmp_ge (tgt := 27) hx hb dX4_openingAt_9 (by decide) (fun c_2 => ?_) (fun c_2 => ?_)
    · have h := h.1 c_2
      refine lv_iconst (v := 0) hx hb dX4_openingAt_27 (by decide) ?_
      exact W.iret (v := 0) hx hb hr (fun t ht hW => ⟨⟨0, (), rfl, h, by rw [ht]; exact hP, hD⟩, hS.F ht⟩) hS.2.2 dX4_openingAt_28
    · have h := h.2 c_2
      refine lv_iload_n hx hb dX4_openingAt_12 rfl (lv_at hl 1 rfl) ?_
      refine lv_bipush (v := 8) hx hb dX4_openingAt_13 (by decide) ?_
      refine lv_icmp_ge (tgt := 27) hx hb dX4_openingAt_15 (by decide) (fun c_3 => ?_) (fun c_3 => ?_)
      · have h := h.1 c_3
        refine lv_iconst (v := 0) hx hb dX4_openingAt_27 (by decide) ?_
        exact W.iret (v := 0) hx hb hr (fun t ht hW => ⟨⟨0, (), rfl, h, by rw [ht]; exact hP, hD⟩, hS.F ht⟩) hS.2.2 dX4_openingAt_28
      · have h := h.2 c_3
        refine lv_aload_n hx hb dX4_openingAt_18 rfl (lv_at hl 0 rfl) ?_
        refine va_get (D := G) (ci := 4) (v := .ref k2) (C := RX4) (T := TX4) (N := 4) hx hb hts hinX4 hown hK hP 0 rfl rfl 1 (by decide) hL15 (fun _ h9 => h9) rfl dX4_openingAt_19 ?_
        refine lv_iload_n hx hb dX4_openingAt_22 rfl (lv_at hl 1 rfl) ?_
        obtain ⟨hi_4, h⟩ := h
        refine k_ald (f := (T 1)) (j := (x).toNatClampNeg) (v := ((T 1) ((x).toNatClampNeg))) hx hb hK hP 2 0 rfl rfl hi_4 rfl rfl dX4_openingAt_23 ?_
        refine lv_goto (tgt := 28) hx hb dX4_openingAt_24 (by decide) ?_
        exact W.iret (v := ((T 1) ((x).toNatClampNeg))) hx hb hr (fun t ht hW => ⟨⟨((T 1) ((x).toNatClampNeg)), (), rfl, h, by rw [ht]; exact hP, hD⟩, hS.F ht⟩) hS.2.2 dX4_openingAt_28
def q_X4_indexOf (x : Int32) (T : St) (Q : Int32 → Prop) : Prop :=
  ∃ (I_2 : Nat → Int32 → Prop) (n_5 : Nat), I_2 n_5 0 ∧ ∀ (n_1 : Nat) (x2_3 : Int32), I_2 n_1 x2_3 → (((T 3 0) ≤ x2_3 → Q (-1)) ∧ (¬ ((T 3 0) ≤ x2_3) → (8 ≤ x2_3 → Q (-1)) ∧ (¬ (8 ≤ x2_3) → vp_in x2_3 8 ∧ ((((T 0) ((x2_3).toNatClampNeg)) = x → Q x2_3) ∧ (¬ (((T 0) ((x2_3).toNatClampNeg)) = x) → ∃ n_13, n_13 < n_1 ∧ I_2 n_13 (x2_3 + 1))))))
set_option maxHeartbeats 4000000 in
set_option maxRecDepth 100000 in
theorem c_X4_indexOf (l : Launch) (G : va_G) (cI cC cD : ClassId) (k0 k1 k2 : Nat) (sz : Nat) (T : St) (x : Int32) (Q : Int32 → Prop) (h : q_X4_indexOf x T Q) : Met l yX4_indexOf wsX4_indexOf ({ frames := 0, cells := 0, slots := 0, locals := 0 }) (va_Pc [.ref k0, .int x] (PW G (ty3 cI cC cD) (wT cI k0 k1 k2 T) sz)) (va_Qi (fun (r : Int32) (_ : Unit) => Q r) (BW G (fun _ : Unit => (wT cI k0 k1 k2 T)) (va_A (wT cI k0 k1 k2 T) sz)) (va_A (wT cI k0 k1 k2 T) sz)) 0 0 (va_A (wT cI k0 k1 k2 T) sz) := by
  refine Met.ofW (cc := cX4_indexOf) (maxL := 3) (ret := (some .int)) (by decide) rfl ?_
  intro p e s m args below meth c s₁ B hml hv
  obtain ⟨rfl, hsz, hP, hK, hD0, hN⟩ := hv
  have hx := B.exec
  have hb := B.bytes
  have hr := B.returns
  have hts := atoms_spec (ws := wsX4_indexOf) B.pre
  have hown : s.vm.findClass RX4 = some m.cls := findClass_of_methodNamed B.named
  have hlocks := B.notSynchronized
  subst hsz
  have hD := hD0.self (sz := s.heap.size)
  generalize hAe : va_A (wT cI k0 k1 k2 T) s.heap.size = A at hD ⊢
  have hA : ∀ q : Nat, s.heap.size ≤ q → A q := fun q h => by rw [← hAe]; exact Or.inr h
  have hS : va_S A s.heap s.heap [] := va_S.rf
  have hl := lv_entry ([.ref k0, .int x]) (n := 3) (Nat.le_of_ble_eq_true rfl)
  rw [lg_entry_eq]
  generalize (lg_sl ([.ref k0, .int x]) ++ List.replicate (3 - (lg_sl ([.ref k0, .int x])).length) Slot.unset).toArray = ls at hl ⊢
  have hl : lv_has ls 3 [(0, .ref k0), (1, .int x)] := hl
  have hinX4 : ∀ w ∈ wsX40, w ∈ wsX4_indexOf := by decide +kernel
  have hL9 := hts (.fieldLink RX4 9 "CraneGates$Tasks" "gates" "[I") (by decide +kernel)
  have hL28 := hts (.fieldLink RX4 28 "CraneGates$Tasks" "size" "I") (by decide +kernel)
  unfold q_X4_indexOf at h
  refine lv_iconst (v := 0) hx hb dX4_indexOf_0 (by decide) ?_
  refine lv_istore_n (lv' := [(2, .int 0), (0, .ref k0), (1, .int x)]) hx hb dX4_indexOf_1 rfl hl (by decide) rfl (fun ls hl => ?_)
  obtain ⟨I_2, n_5, h_6, hI_7⟩ := h
  have lp_8 : ∀ (n_1 : Nat) (x2_3 : Int32), I_2 n_1 x2_3 → ∀ (H : Heap) (locs : List Loc) (ls : Array Slot), va_P G vwCl (wT cI k0 k1 k2 T) H → va_D A (wT cI k0 k1 k2 T) → va_S A s.heap H locs → lv_has ls 3 [(2, .int x2_3), (0, .ref k0), (1, .int x)] → W p l e (headSpec wsX4_indexOf ({ frames := 0, cells := 0, slots := 0, locals := 0 })).room s m ([.ref k0, .int x] : List Value).toArray below meth c H locs 0 0 (MQ below (va_Qi (fun (r : Int32) (_ : Unit) => Q r) (BW G (fun _ : Unit => (wT cI k0 k1 k2 T)) A) A) ([.ref k0, .int x] : List Value).toArray s 0 0 A) (F0 m 2 ls []) := by
    intro n_1
    induction n_1 using Nat.strongRecOn with
    | ind n_1 ih_4 =>
      intro x2_3 hIn H locs ls hP hD hS hl
      have h := hI_7 n_1 x2_3 hIn
      refine lv_iload_n hx hb dX4_indexOf_2 rfl (lv_at hl 0 rfl) ?_
      refine lv_aload_n hx hb dX4_indexOf_3 rfl (lv_at hl 1 rfl) ?_
      refine va_get (D := G) (ci := 4) (v := .int (T 3 0)) (C := RX4) (T := TX4) (N := 4) hx hb hts hinX4 hown hK hP 0 rfl rfl 3 (by decide) hL28 (fun _ h9 => h9) rfl dX4_indexOf_4 ?_
      refine lv_icmp_ge (tgt := 34) hx hb dX4_indexOf_7 (by decide) (fun c_9 => ?_) (fun c_9 => ?_)
      · have h := h.1 c_9
        refine lv_iconst (v := (-1)) hx hb dX4_indexOf_34 (by decide) ?_
        exact W.iret (v := (-1)) hx hb hr (fun t ht hW => ⟨⟨(-1), (), rfl, h, by rw [ht]; exact hP, hD⟩, hS.F ht⟩) hS.2.2 dX4_indexOf_35
      · have h := h.2 c_9
        refine lv_iload_n hx hb dX4_indexOf_10 rfl (lv_at hl 0 rfl) ?_
        refine lv_bipush (v := 8) hx hb dX4_indexOf_11 (by decide) ?_
        refine lv_icmp_ge (tgt := 34) hx hb dX4_indexOf_13 (by decide) (fun c_10 => ?_) (fun c_10 => ?_)
        · have h := h.1 c_10
          refine lv_iconst (v := (-1)) hx hb dX4_indexOf_34 (by decide) ?_
          exact W.iret (v := (-1)) hx hb hr (fun t ht hW => ⟨⟨(-1), (), rfl, h, by rw [ht]; exact hP, hD⟩, hS.F ht⟩) hS.2.2 dX4_indexOf_35
        · have h := h.2 c_10
          refine lv_aload_n hx hb dX4_indexOf_16 rfl (lv_at hl 1 rfl) ?_
          refine va_get (D := G) (ci := 4) (v := .ref k1) (C := RX4) (T := TX4) (N := 4) hx hb hts hinX4 hown hK hP 0 rfl rfl 0 (by decide) hL9 (fun _ h9 => h9) rfl dX4_indexOf_17 ?_
          refine lv_iload_n hx hb dX4_indexOf_20 rfl (lv_at hl 0 rfl) ?_
          obtain ⟨hi_11, h⟩ := h
          refine k_ald (f := (T 0)) (j := (x2_3).toNatClampNeg) (v := ((T 0) ((x2_3).toNatClampNeg))) hx hb hK hP 1 0 rfl rfl hi_11 rfl rfl dX4_indexOf_21 ?_
          refine lv_iload_n hx hb dX4_indexOf_22 rfl (lv_at hl 2 rfl) ?_
          refine lv_icmp_ne (tgt := 28) hx hb dX4_indexOf_23 (by decide) (fun c_12 => ?_) (fun c_12 => ?_)
          · have h := h.2 c_12
            refine lv_iinc (v := x2_3 + 1) (lv' := [(2, .int (x2_3 + 1)), (0, .ref k0), (1, .int x)]) hx hb dX4_indexOf_28 hl (k := 0) rfl rfl (by decide) rfl (fun ls hl => ?_)
            refine lv_goto (tgt := 2) hx hb dX4_indexOf_31 (by decide) ?_
            obtain ⟨n_13, lt_14, h_15⟩ := h
            exact ih_4 n_13 lt_14 _ h_15 _ _ _ hP hD hS (lv_sub hl [0, 1, 2] rfl)
          · have h := h.1 c_12
            refine lv_iload_n hx hb dX4_indexOf_26 rfl (lv_at hl 0 rfl) ?_
            exact W.iret (v := x2_3) hx hb hr (fun t ht hW => ⟨⟨x2_3, (), rfl, h, by rw [ht]; exact hP, hD⟩, hS.F ht⟩) hS.2.2 dX4_indexOf_27
  exact lp_8 _ _ h_6 _ _ _ hP hD hS hl
def q_X4_put (x : Int32) (y : Int32) (T : St) (Q : St → Prop) : Prop :=
  q_X4_indexOf x T (fun r_1 => (r_1 = (-1) → ((T 2 0) ≤ (T 3 0) → (r_1 < 0 → Q T) ∧ (¬ (r_1 < 0) → (8 ≤ r_1 → Q T) ∧ (¬ (8 ≤ r_1) → vp_in r_1 8 ∧ (Q (uA (uA T 0 (upd (T 0) ((r_1).toNatClampNeg) x)) 1 (upd (T 1) ((r_1).toNatClampNeg) y)))))) ∧ (¬ ((T 2 0) ≤ (T 3 0)) → ((T 3 0) < 0 → Q (uA T 3 (fun _ => ((T 3 0) + 1)))) ∧ (¬ ((T 3 0) < 0) → (8 ≤ (T 3 0) → Q (uA T 3 (fun _ => ((T 3 0) + 1)))) ∧ (¬ (8 ≤ (T 3 0)) → vp_in (T 3 0) 8 ∧ (Q (uA (uA (uA T 3 (fun _ => ((T 3 0) + 1))) 0 (upd (T 0) (((T 3 0)).toNatClampNeg) x)) 1 (upd (T 1) (((T 3 0)).toNatClampNeg) y))))))) ∧ (¬ (r_1 = (-1)) → (r_1 < 0 → Q T) ∧ (¬ (r_1 < 0) → (8 ≤ r_1 → Q T) ∧ (¬ (8 ≤ r_1) → vp_in r_1 8 ∧ (Q (uA (uA T 0 (upd (T 0) ((r_1).toNatClampNeg) x)) 1 (upd (T 1) ((r_1).toNatClampNeg) y)))))))
set_option maxHeartbeats 4000000 in
set_option maxRecDepth 100000 in
theorem c_X4_put (l : Launch) (G : va_G) (cI cC cD : ClassId) (k0 k1 k2 : Nat) (sz : Nat) (T : St) (x : Int32) (y : Int32) (Q : St → Prop) (h : q_X4_put x y T Q) : Met l yX4_put wsX4_put ({ frames := 1, cells := 0, slots := 0, locals := 22 }) (va_Pc [.ref k0, .int x, .int y] (PW G (ty3 cI cC cD) (wT cI k0 k1 k2 T) sz)) (va_Qv Q (BW G (fun u : St => (wT cI k0 k1 k2 u)) (va_A (wT cI k0 k1 k2 T) sz)) (va_A (wT cI k0 k1 k2 T) sz)) 0 0 (va_A (wT cI k0 k1 k2 T) sz) := by
  refine Met.ofW (cc := cX4_put) (maxL := 4) (ret := none) (by decide) rfl ?_
  intro p e s m args below meth c s₁ B hml hv
  obtain ⟨rfl, hsz, hP, hK, hD0, hN⟩ := hv
  have hx := B.exec
  have hb := B.bytes
  have hr := B.returns
  have hts := atoms_spec (ws := wsX4_put) B.pre
  have hown : s.vm.findClass RX4 = some m.cls := findClass_of_methodNamed B.named
  have hlocks := B.notSynchronized
  subst hsz
  have hD := hD0.self (sz := s.heap.size)
  generalize hAe : va_A (wT cI k0 k1 k2 T) s.heap.size = A at hD ⊢
  have hA : ∀ q : Nat, s.heap.size ≤ q → A q := fun q h => by rw [← hAe]; exact Or.inr h
  have hS : va_S A s.heap s.heap [] := va_S.rf
  have hl := lv_entry ([.ref k0, .int x, .int y]) (n := 4) (Nat.le_of_ble_eq_true rfl)
  rw [lg_entry_eq]
  generalize (lg_sl ([.ref k0, .int x, .int y]) ++ List.replicate (4 - (lg_sl ([.ref k0, .int x, .int y])).length) Slot.unset).toArray = ls at hl ⊢
  have hl : lv_has ls 4 [(0, .ref k0), (1, .int x), (2, .int y)] := hl
  have hinX4 : ∀ w ∈ wsX40, w ∈ wsX4_put := by decide +kernel
  have hL9 := hts (.fieldLink RX4 9 "CraneGates$Tasks" "gates" "[I") (by decide +kernel)
  have hL15 := hts (.fieldLink RX4 15 "CraneGates$Tasks" "openings" "[I") (by decide +kernel)
  have hL24 := hts (.fieldLink RX4 24 "CraneGates$Tasks" "most" "I") (by decide +kernel)
  have hL28 := hts (.fieldLink RX4 28 "CraneGates$Tasks" "size" "I") (by decide +kernel)
  unfold q_X4_put at h
  refine lv_aload_n hx hb dX4_put_0 rfl (lv_at hl 0 rfl) ?_
  refine lv_iload_n hx hb dX4_put_1 rfl (lv_at hl 1 rfl) ?_
  refine kc_i (As := [.int x]) (rest := []) (wg := (fun _ => (wT cI k0 k1 k2 T))) ⟨hx, hb, hml, hown, hts⟩ (c_X4_indexOf l G cI cC cD k0 k1 k2 _ T x _ h) (cwV 1 hts gX4_put_X4_indexOf rfl rfl rfl (by decide +kernel) ⟨Nat.le_of_ble_eq_true rfl, Nat.le_of_ble_eq_true rfl⟩) hK hN hP hD hS hA (em_TT cI k0 k1 k2 T) (fun _ => rp_self (em_TT cI k0 k1 k2 T)) rfl rfl rfl rfl hl.1 rfl (Nat.le_of_ble_eq_true rfl) dX4_put_2 ⟨Nat.zero_le _, Nat.zero_le _⟩ (fun r_1 _ H locs h hP hD hS => ?_)
  refine lv_istore_n (lv' := [(3, .int r_1), (0, .ref k0), (1, .int x), (2, .int y)]) hx hb dX4_put_5 rfl hl (by decide) rfl (fun ls hl => ?_)
  refine lv_iload_n hx hb dX4_put_6 rfl (lv_at hl 0 rfl) ?_
  refine lv_iconst (v := (-1)) hx hb dX4_put_7 (by decide) ?_
  refine lv_icmp_ne (tgt := 37) hx hb dX4_put_8 (by decide) (fun c_2 => ?_) (fun c_2 => ?_)
  · have h := h.2 c_2
    refine lv_iload_n hx hb dX4_put_37 rfl (lv_at hl 0 rfl) ?_
    refine lv_if_lt (tgt := 61) hx hb dX4_put_38 (by decide) (fun c_3 => ?_) (fun c_3 => ?_)
    · have h := h.1 c_3
      exact W.vret hx hb hr (fun t ht hW => ⟨⟨T, rfl, h, by rw [ht]; exact hP, hD⟩, hS.F ht⟩) hS.2.2 dX4_put_61
    · have h := h.2 c_3
      refine lv_iload_n hx hb dX4_put_41 rfl (lv_at hl 0 rfl) ?_
      refine lv_bipush (v := 8) hx hb dX4_put_42 (by decide) ?_
      refine lv_icmp_ge (tgt := 61) hx hb dX4_put_44 (by decide) (fun c_4 => ?_) (fun c_4 => ?_)
      · have h := h.1 c_4
        exact W.vret hx hb hr (fun t ht hW => ⟨⟨T, rfl, h, by rw [ht]; exact hP, hD⟩, hS.F ht⟩) hS.2.2 dX4_put_61
      · have h := h.2 c_4
        refine lv_aload_n hx hb dX4_put_47 rfl (lv_at hl 1 rfl) ?_
        refine va_get (D := G) (ci := 4) (v := .ref k1) (C := RX4) (T := TX4) (N := 4) hx hb hts hinX4 hown hK hP 0 rfl rfl 0 (by decide) hL9 (fun _ h9 => h9) rfl dX4_put_48 ?_
        refine lv_iload_n hx hb dX4_put_51 rfl (lv_at hl 0 rfl) ?_
        refine lv_iload_n hx hb dX4_put_52 rfl (lv_at hl 2 rfl) ?_
        obtain ⟨hi_5, h⟩ := h
        refine k_ast (f := (T 0)) (j := (r_1).toNatClampNeg) (ws' := (wT cI k0 k1 k2 (uA T 0 (upd (T 0) ((r_1).toNatClampNeg) x)))) hx hb hK hP hD hS 1 0 rfl rfl hi_5 rfl dX4_put_53 rfl (fun H locs hP hD hS => ?_)
        refine lv_aload_n hx hb dX4_put_54 rfl (lv_at hl 1 rfl) ?_
        refine va_get (D := G) (ci := 4) (v := .ref k2) (C := RX4) (T := TX4) (N := 4) hx hb hts hinX4 hown hK hP 0 rfl rfl 1 (by decide) hL15 (fun _ h9 => h9) rfl dX4_put_55 ?_
        refine lv_iload_n hx hb dX4_put_58 rfl (lv_at hl 0 rfl) ?_
        refine lv_iload_n hx hb dX4_put_59 rfl (lv_at hl 3 rfl) ?_
        refine k_ast (f := (T 1)) (j := (r_1).toNatClampNeg) (ws' := (wT cI k0 k1 k2 (uA (uA T 0 (upd (T 0) ((r_1).toNatClampNeg) x)) 1 (upd (T 1) ((r_1).toNatClampNeg) y)))) hx hb hK hP hD hS 2 0 rfl rfl hi_5 rfl dX4_put_60 rfl (fun H locs hP hD hS => ?_)
        exact W.vret hx hb hr (fun t ht hW => ⟨⟨(uA (uA T 0 (upd (T 0) ((r_1).toNatClampNeg) x)) 1 (upd (T 1) ((r_1).toNatClampNeg) y)), rfl, h, by rw [ht]; exact hP, hD⟩, hS.F ht⟩) hS.2.2 dX4_put_61
  · have h := h.1 c_2
    refine lv_aload_n hx hb dX4_put_11 rfl (lv_at hl 1 rfl) ?_
    refine va_get (D := G) (ci := 4) (v := .int (T 3 0)) (C := RX4) (T := TX4) (N := 4) hx hb hts hinX4 hown hK hP 0 rfl rfl 3 (by decide) hL28 (fun _ h9 => h9) rfl dX4_put_12 ?_
    refine lv_aload_n hx hb dX4_put_15 rfl (lv_at hl 1 rfl) ?_
    refine va_get (D := G) (ci := 4) (v := .int (T 2 0)) (C := RX4) (T := TX4) (N := 4) hx hb hts hinX4 hown hK hP 0 rfl rfl 2 (by decide) hL24 (fun _ h9 => h9) rfl dX4_put_16 ?_
    refine lv_icmp_ge (tgt := 37) hx hb dX4_put_19 (by decide) (fun c_6 => ?_) (fun c_6 => ?_)
    · have h := h.1 c_6
      refine lv_iload_n hx hb dX4_put_37 rfl (lv_at hl 0 rfl) ?_
      refine lv_if_lt (tgt := 61) hx hb dX4_put_38 (by decide) (fun c_7 => ?_) (fun c_7 => ?_)
      · have h := h.1 c_7
        exact W.vret hx hb hr (fun t ht hW => ⟨⟨T, rfl, h, by rw [ht]; exact hP, hD⟩, hS.F ht⟩) hS.2.2 dX4_put_61
      · have h := h.2 c_7
        refine lv_iload_n hx hb dX4_put_41 rfl (lv_at hl 0 rfl) ?_
        refine lv_bipush (v := 8) hx hb dX4_put_42 (by decide) ?_
        refine lv_icmp_ge (tgt := 61) hx hb dX4_put_44 (by decide) (fun c_8 => ?_) (fun c_8 => ?_)
        · have h := h.1 c_8
          exact W.vret hx hb hr (fun t ht hW => ⟨⟨T, rfl, h, by rw [ht]; exact hP, hD⟩, hS.F ht⟩) hS.2.2 dX4_put_61
        · have h := h.2 c_8
          refine lv_aload_n hx hb dX4_put_47 rfl (lv_at hl 1 rfl) ?_
          refine va_get (D := G) (ci := 4) (v := .ref k1) (C := RX4) (T := TX4) (N := 4) hx hb hts hinX4 hown hK hP 0 rfl rfl 0 (by decide) hL9 (fun _ h9 => h9) rfl dX4_put_48 ?_
          refine lv_iload_n hx hb dX4_put_51 rfl (lv_at hl 0 rfl) ?_
          refine lv_iload_n hx hb dX4_put_52 rfl (lv_at hl 2 rfl) ?_
          obtain ⟨hi_9, h⟩ := h
          refine k_ast (f := (T 0)) (j := (r_1).toNatClampNeg) (ws' := (wT cI k0 k1 k2 (uA T 0 (upd (T 0) ((r_1).toNatClampNeg) x)))) hx hb hK hP hD hS 1 0 rfl rfl hi_9 rfl dX4_put_53 rfl (fun H locs hP hD hS => ?_)
          refine lv_aload_n hx hb dX4_put_54 rfl (lv_at hl 1 rfl) ?_
          refine va_get (D := G) (ci := 4) (v := .ref k2) (C := RX4) (T := TX4) (N := 4) hx hb hts hinX4 hown hK hP 0 rfl rfl 1 (by decide) hL15 (fun _ h9 => h9) rfl dX4_put_55 ?_
          refine lv_iload_n hx hb dX4_put_58 rfl (lv_at hl 0 rfl) ?_
          refine lv_iload_n hx hb dX4_put_59 rfl (lv_at hl 3 rfl) ?_
          refine k_ast (f := (T 1)) (j := (r_1).toNatClampNeg) (ws' := (wT cI k0 k1 k2 (uA (uA T 0 (upd (T 0) ((r_1).toNatClampNeg) x)) 1 (upd (T 1) ((r_1).toNatClampNeg) y)))) hx hb hK hP hD hS 2 0 rfl rfl hi_9 rfl dX4_put_60 rfl (fun H locs hP hD hS => ?_)
          exact W.vret hx hb hr (fun t ht hW => ⟨⟨(uA (uA T 0 (upd (T 0) ((r_1).toNatClampNeg) x)) 1 (upd (T 1) ((r_1).toNatClampNeg) y)), rfl, h, by rw [ht]; exact hP, hD⟩, hS.F ht⟩) hS.2.2 dX4_put_61
    · have h := h.2 c_6
      refine lv_aload_n hx hb dX4_put_22 rfl (lv_at hl 1 rfl) ?_
      refine va_get (D := G) (ci := 4) (v := .int (T 3 0)) (C := RX4) (T := TX4) (N := 4) hx hb hts hinX4 hown hK hP 0 rfl rfl 3 (by decide) hL28 (fun _ h9 => h9) rfl dX4_put_23 ?_
      refine lv_istore_n (lv' := [(3, .int (T 3 0)), (0, .ref k0), (1, .int x), (2, .int y)]) hx hb dX4_put_26 rfl hl (by decide) rfl (fun ls hl => ?_)
      refine lv_aload_n hx hb dX4_put_27 rfl (lv_at hl 1 rfl) ?_
      refine lv_dup hx hb dX4_put_28 rfl ?_
      refine va_get (D := G) (ci := 4) (v := .int (T 3 0)) (C := RX4) (T := TX4) (N := 4) hx hb hts hinX4 hown hK hP 0 rfl rfl 3 (by decide) hL28 (fun _ h9 => h9) rfl dX4_put_29 ?_
      refine lv_iconst (v := 1) hx hb dX4_put_32 (by decide) ?_
      refine lv_iadd hx hb dX4_put_33 ?_
      refine va_put (D := G) (ci := 4) (v := .int ((T 3 0) + 1)) (ty := .int) (C := RX4) (T := TX4) (N := 4) hx hb hts hinX4 tyX4 tyX4_ok nmX4 hown hK hP hD hS 0 rfl rfl 3 (by decide) hL28 (fun _ h9 => h9) rfl (by decide +kernel) rfl rfl (Nat.le_of_ble_eq_true rfl) dX4_put_34 (fun H locs hP hD hS => ?_)
      have hP : va_P G vwCl (wT cI k0 k1 k2 (uA T 3 (fun _ => ((T 3 0) + 1)))) H := hP
      have hD : va_D A (wT cI k0 k1 k2 (uA T 3 (fun _ => ((T 3 0) + 1)))) := hD
      refine lv_iload_n hx hb dX4_put_37 rfl (lv_at hl 0 rfl) ?_
      refine lv_if_lt (tgt := 61) hx hb dX4_put_38 (by decide) (fun c_10 => ?_) (fun c_10 => ?_)
      · have h := h.1 c_10
        exact W.vret hx hb hr (fun t ht hW => ⟨⟨(uA T 3 (fun _ => ((T 3 0) + 1))), rfl, h, by rw [ht]; exact hP, hD⟩, hS.F ht⟩) hS.2.2 dX4_put_61
      · have h := h.2 c_10
        refine lv_iload_n hx hb dX4_put_41 rfl (lv_at hl 0 rfl) ?_
        refine lv_bipush (v := 8) hx hb dX4_put_42 (by decide) ?_
        refine lv_icmp_ge (tgt := 61) hx hb dX4_put_44 (by decide) (fun c_11 => ?_) (fun c_11 => ?_)
        · have h := h.1 c_11
          exact W.vret hx hb hr (fun t ht hW => ⟨⟨(uA T 3 (fun _ => ((T 3 0) + 1))), rfl, h, by rw [ht]; exact hP, hD⟩, hS.F ht⟩) hS.2.2 dX4_put_61
        · have h := h.2 c_11
          refine lv_aload_n hx hb dX4_put_47 rfl (lv_at hl 1 rfl) ?_
          refine va_get (D := G) (ci := 4) (v := .ref k1) (C := RX4) (T := TX4) (N := 4) hx hb hts hinX4 hown hK hP 0 rfl rfl 0 (by decide) hL9 (fun _ h9 => h9) rfl dX4_put_48 ?_
          refine lv_iload_n hx hb dX4_put_51 rfl (lv_at hl 0 rfl) ?_
          refine lv_iload_n hx hb dX4_put_52 rfl (lv_at hl 2 rfl) ?_
          obtain ⟨hi_12, h⟩ := h
          refine k_ast (f := (T 0)) (j := ((T 3 0)).toNatClampNeg) (ws' := (wT cI k0 k1 k2 (uA (uA T 3 (fun _ => ((T 3 0) + 1))) 0 (upd (T 0) (((T 3 0)).toNatClampNeg) x)))) hx hb hK hP hD hS 1 0 rfl rfl hi_12 rfl dX4_put_53 rfl (fun H locs hP hD hS => ?_)
          refine lv_aload_n hx hb dX4_put_54 rfl (lv_at hl 1 rfl) ?_
          refine va_get (D := G) (ci := 4) (v := .ref k2) (C := RX4) (T := TX4) (N := 4) hx hb hts hinX4 hown hK hP 0 rfl rfl 1 (by decide) hL15 (fun _ h9 => h9) rfl dX4_put_55 ?_
          refine lv_iload_n hx hb dX4_put_58 rfl (lv_at hl 0 rfl) ?_
          refine lv_iload_n hx hb dX4_put_59 rfl (lv_at hl 3 rfl) ?_
          refine k_ast (f := (T 1)) (j := ((T 3 0)).toNatClampNeg) (ws' := (wT cI k0 k1 k2 (uA (uA (uA T 3 (fun _ => ((T 3 0) + 1))) 0 (upd (T 0) (((T 3 0)).toNatClampNeg) x)) 1 (upd (T 1) (((T 3 0)).toNatClampNeg) y)))) hx hb hK hP hD hS 2 0 rfl rfl hi_12 rfl dX4_put_60 rfl (fun H locs hP hD hS => ?_)
          exact W.vret hx hb hr (fun t ht hW => ⟨⟨(uA (uA (uA T 3 (fun _ => ((T 3 0) + 1))) 0 (upd (T 0) (((T 3 0)).toNatClampNeg) x)) 1 (upd (T 1) (((T 3 0)).toNatClampNeg) y)), rfl, h, by rw [ht]; exact hP, hD⟩, hS.F ht⟩) hS.2.2 dX4_put_61
def q_X4_removeAt (x : Int32) (T : St) (Q : St → Prop) : Prop :=
  (x < 0 → Q T) ∧ (¬ (x < 0) → (x < (T 3 0) → ∃ (I_4 : Nat → Int32 → St → Prop) (n_8 : Nat), I_4 n_8 x T ∧ ∀ (n_3 : Nat) (x2_5 : Int32) (D_6 : St), I_4 n_3 x2_5 D_6 → ((((D_6 3 0) - 1) ≤ x2_5 → Q (uA D_6 3 (fun _ => ((D_6 3 0) - 1)))) ∧ (¬ (((D_6 3 0) - 1) ≤ x2_5) → (7 ≤ x2_5 → Q (uA D_6 3 (fun _ => ((D_6 3 0) - 1)))) ∧ (¬ (7 ≤ x2_5) → vp_in (x2_5 + 1) 8 ∧ (vp_in x2_5 8 ∧ (∃ n_16, n_16 < n_3 ∧ I_4 n_16 (x2_5 + 1) (uA (uA D_6 0 (upd (D_6 0) ((x2_5).toNatClampNeg) ((D_6 0) (((x2_5 + 1)).toNatClampNeg)))) 1 (upd (D_6 1) ((x2_5).toNatClampNeg) ((D_6 1) (((x2_5 + 1)).toNatClampNeg)))))))))) ∧ (¬ (x < (T 3 0)) → Q T))
set_option maxHeartbeats 4000000 in
set_option maxRecDepth 100000 in
theorem c_X4_removeAt (l : Launch) (G : va_G) (cI cC cD : ClassId) (k0 k1 k2 : Nat) (sz : Nat) (T : St) (x : Int32) (Q : St → Prop) (h : q_X4_removeAt x T Q) : Met l yX4_removeAt wsX4_removeAt ({ frames := 0, cells := 0, slots := 0, locals := 0 }) (va_Pc [.ref k0, .int x] (PW G (ty3 cI cC cD) (wT cI k0 k1 k2 T) sz)) (va_Qv Q (BW G (fun u : St => (wT cI k0 k1 k2 u)) (va_A (wT cI k0 k1 k2 T) sz)) (va_A (wT cI k0 k1 k2 T) sz)) 0 0 (va_A (wT cI k0 k1 k2 T) sz) := by
  refine Met.ofW (cc := cX4_removeAt) (maxL := 3) (ret := none) (by decide) rfl ?_
  intro p e s m args below meth c s₁ B hml hv
  obtain ⟨rfl, hsz, hP, hK, hD0, hN⟩ := hv
  have hx := B.exec
  have hb := B.bytes
  have hr := B.returns
  have hts := atoms_spec (ws := wsX4_removeAt) B.pre
  have hown : s.vm.findClass RX4 = some m.cls := findClass_of_methodNamed B.named
  have hlocks := B.notSynchronized
  subst hsz
  have hD := hD0.self (sz := s.heap.size)
  generalize hAe : va_A (wT cI k0 k1 k2 T) s.heap.size = A at hD ⊢
  have hA : ∀ q : Nat, s.heap.size ≤ q → A q := fun q h => by rw [← hAe]; exact Or.inr h
  have hS : va_S A s.heap s.heap [] := va_S.rf
  have hl := lv_entry ([.ref k0, .int x]) (n := 3) (Nat.le_of_ble_eq_true rfl)
  rw [lg_entry_eq]
  generalize (lg_sl ([.ref k0, .int x]) ++ List.replicate (3 - (lg_sl ([.ref k0, .int x])).length) Slot.unset).toArray = ls at hl ⊢
  have hl : lv_has ls 3 [(0, .ref k0), (1, .int x)] := hl
  have hinX4 : ∀ w ∈ wsX40, w ∈ wsX4_removeAt := by decide +kernel
  have hL9 := hts (.fieldLink RX4 9 "CraneGates$Tasks" "gates" "[I") (by decide +kernel)
  have hL15 := hts (.fieldLink RX4 15 "CraneGates$Tasks" "openings" "[I") (by decide +kernel)
  have hL28 := hts (.fieldLink RX4 28 "CraneGates$Tasks" "size" "I") (by decide +kernel)
  unfold q_X4_removeAt at h
  refine lv_iload_n hx hb dX4_removeAt_0 rfl (lv_at hl 1 rfl) ?_
  refine lv_if_lt (tgt := 12) hx hb dX4_removeAt_1 (by decide) (fun c_1 => ?_) (fun c_1 => ?_)
  · have h := h.1 c_1
    exact W.vret hx hb hr (fun t ht hW => ⟨⟨T, rfl, h, by rw [ht]; exact hP, hD⟩, hS.F ht⟩) hS.2.2 dX4_removeAt_12
  · have h := h.2 c_1
    refine lv_iload_n hx hb dX4_removeAt_4 rfl (lv_at hl 1 rfl) ?_
    refine lv_aload_n hx hb dX4_removeAt_5 rfl (lv_at hl 0 rfl) ?_
    refine va_get (D := G) (ci := 4) (v := .int (T 3 0)) (C := RX4) (T := TX4) (N := 4) hx hb hts hinX4 hown hK hP 0 rfl rfl 3 (by decide) hL28 (fun _ h9 => h9) rfl dX4_removeAt_6 ?_
    refine lv_icmp_lt (tgt := 13) hx hb dX4_removeAt_9 (by decide) (fun c_2 => ?_) (fun c_2 => ?_)
    · have h := h.1 c_2
      refine lv_iload_n hx hb dX4_removeAt_13 rfl (lv_at hl 1 rfl) ?_
      refine lv_istore_n (lv' := [(2, .int x), (0, .ref k0), (1, .int x)]) hx hb dX4_removeAt_14 rfl hl (by decide) rfl (fun ls hl => ?_)
      obtain ⟨I_4, n_8, h_9, hI_10⟩ := h
      have lp_11 : ∀ (n_3 : Nat) (x2_5 : Int32) (D_6 : St), I_4 n_3 x2_5 D_6 → ∀ (H : Heap) (locs : List Loc) (ls : Array Slot), va_P G vwCl (wT cI k0 k1 k2 D_6) H → va_D A (wT cI k0 k1 k2 D_6) → va_S A s.heap H locs → lv_has ls 3 [(2, .int x2_5), (0, .ref k0), (1, .int x)] → W p l e (headSpec wsX4_removeAt ({ frames := 0, cells := 0, slots := 0, locals := 0 })).room s m ([.ref k0, .int x] : List Value).toArray below meth c H locs 0 0 (MQ below (va_Qv Q (BW G (fun u : St => (wT cI k0 k1 k2 u)) A) A) ([.ref k0, .int x] : List Value).toArray s 0 0 A) (F0 m 15 ls []) := by
        intro n_3
        induction n_3 using Nat.strongRecOn with
        | ind n_3 ih_7 =>
          intro x2_5 D_6 hIn H locs ls hP hD hS hl
          have h := hI_10 n_3 x2_5 D_6 hIn
          refine lv_iload_n hx hb dX4_removeAt_15 rfl (lv_at hl 0 rfl) ?_
          refine lv_aload_n hx hb dX4_removeAt_16 rfl (lv_at hl 1 rfl) ?_
          refine va_get (D := G) (ci := 4) (v := .int (D_6 3 0)) (C := RX4) (T := TX4) (N := 4) hx hb hts hinX4 hown hK hP 0 rfl rfl 3 (by decide) hL28 (fun _ h9 => h9) rfl dX4_removeAt_17 ?_
          refine lv_iconst (v := 1) hx hb dX4_removeAt_20 (by decide) ?_
          refine lv_isub hx hb dX4_removeAt_21 ?_
          refine lv_icmp_ge (tgt := 65) hx hb dX4_removeAt_22 (by decide) (fun c_12 => ?_) (fun c_12 => ?_)
          · have h := h.1 c_12
            refine lv_aload_n hx hb dX4_removeAt_65 rfl (lv_at hl 1 rfl) ?_
            refine lv_dup hx hb dX4_removeAt_66 rfl ?_
            refine va_get (D := G) (ci := 4) (v := .int (D_6 3 0)) (C := RX4) (T := TX4) (N := 4) hx hb hts hinX4 hown hK hP 0 rfl rfl 3 (by decide) hL28 (fun _ h9 => h9) rfl dX4_removeAt_67 ?_
            refine lv_iconst (v := 1) hx hb dX4_removeAt_70 (by decide) ?_
            refine lv_isub hx hb dX4_removeAt_71 ?_
            refine va_put (D := G) (ci := 4) (v := .int ((D_6 3 0) - 1)) (ty := .int) (C := RX4) (T := TX4) (N := 4) hx hb hts hinX4 tyX4 tyX4_ok nmX4 hown hK hP hD hS 0 rfl rfl 3 (by decide) hL28 (fun _ h9 => h9) rfl (by decide +kernel) rfl rfl (Nat.le_of_ble_eq_true rfl) dX4_removeAt_72 (fun H locs hP hD hS => ?_)
            have hP : va_P G vwCl (wT cI k0 k1 k2 (uA D_6 3 (fun _ => ((D_6 3 0) - 1)))) H := hP
            have hD : va_D A (wT cI k0 k1 k2 (uA D_6 3 (fun _ => ((D_6 3 0) - 1)))) := hD
            exact W.vret hx hb hr (fun t ht hW => ⟨⟨(uA D_6 3 (fun _ => ((D_6 3 0) - 1))), rfl, h, by rw [ht]; exact hP, hD⟩, hS.F ht⟩) hS.2.2 dX4_removeAt_75
          · have h := h.2 c_12
            refine lv_iload_n hx hb dX4_removeAt_25 rfl (lv_at hl 0 rfl) ?_
            refine lv_bipush (v := 7) hx hb dX4_removeAt_26 (by decide) ?_
            refine lv_icmp_ge (tgt := 65) hx hb dX4_removeAt_28 (by decide) (fun c_13 => ?_) (fun c_13 => ?_)
            · have h := h.1 c_13
              refine lv_aload_n hx hb dX4_removeAt_65 rfl (lv_at hl 1 rfl) ?_
              refine lv_dup hx hb dX4_removeAt_66 rfl ?_
              refine va_get (D := G) (ci := 4) (v := .int (D_6 3 0)) (C := RX4) (T := TX4) (N := 4) hx hb hts hinX4 hown hK hP 0 rfl rfl 3 (by decide) hL28 (fun _ h9 => h9) rfl dX4_removeAt_67 ?_
              refine lv_iconst (v := 1) hx hb dX4_removeAt_70 (by decide) ?_
              refine lv_isub hx hb dX4_removeAt_71 ?_
              refine va_put (D := G) (ci := 4) (v := .int ((D_6 3 0) - 1)) (ty := .int) (C := RX4) (T := TX4) (N := 4) hx hb hts hinX4 tyX4 tyX4_ok nmX4 hown hK hP hD hS 0 rfl rfl 3 (by decide) hL28 (fun _ h9 => h9) rfl (by decide +kernel) rfl rfl (Nat.le_of_ble_eq_true rfl) dX4_removeAt_72 (fun H locs hP hD hS => ?_)
              have hP : va_P G vwCl (wT cI k0 k1 k2 (uA D_6 3 (fun _ => ((D_6 3 0) - 1)))) H := hP
              have hD : va_D A (wT cI k0 k1 k2 (uA D_6 3 (fun _ => ((D_6 3 0) - 1)))) := hD
              exact W.vret hx hb hr (fun t ht hW => ⟨⟨(uA D_6 3 (fun _ => ((D_6 3 0) - 1))), rfl, h, by rw [ht]; exact hP, hD⟩, hS.F ht⟩) hS.2.2 dX4_removeAt_75
            · have h := h.2 c_13
              refine lv_aload_n hx hb dX4_removeAt_31 rfl (lv_at hl 1 rfl) ?_
              refine va_get (D := G) (ci := 4) (v := .ref k1) (C := RX4) (T := TX4) (N := 4) hx hb hts hinX4 hown hK hP 0 rfl rfl 0 (by decide) hL9 (fun _ h9 => h9) rfl dX4_removeAt_32 ?_
              refine lv_iload_n hx hb dX4_removeAt_35 rfl (lv_at hl 0 rfl) ?_
              refine lv_aload_n hx hb dX4_removeAt_36 rfl (lv_at hl 1 rfl) ?_
              refine va_get (D := G) (ci := 4) (v := .ref k1) (C := RX4) (T := TX4) (N := 4) hx hb hts hinX4 hown hK hP 0 rfl rfl 0 (by decide) hL9 (fun _ h9 => h9) rfl dX4_removeAt_37 ?_
              refine lv_iload_n hx hb dX4_removeAt_40 rfl (lv_at hl 0 rfl) ?_
              refine lv_iconst (v := 1) hx hb dX4_removeAt_41 (by decide) ?_
              refine lv_iadd hx hb dX4_removeAt_42 ?_
              obtain ⟨hi_14, h⟩ := h
              refine k_ald (f := (D_6 0)) (j := ((x2_5 + 1)).toNatClampNeg) (v := ((D_6 0) (((x2_5 + 1)).toNatClampNeg))) hx hb hK hP 1 0 rfl rfl hi_14 rfl rfl dX4_removeAt_43 ?_
              obtain ⟨hi_15, h⟩ := h
              refine k_ast (f := (D_6 0)) (j := (x2_5).toNatClampNeg) (ws' := (wT cI k0 k1 k2 (uA D_6 0 (upd (D_6 0) ((x2_5).toNatClampNeg) ((D_6 0) (((x2_5 + 1)).toNatClampNeg)))))) hx hb hK hP hD hS 1 0 rfl rfl hi_15 rfl dX4_removeAt_44 rfl (fun H locs hP hD hS => ?_)
              refine lv_aload_n hx hb dX4_removeAt_45 rfl (lv_at hl 1 rfl) ?_
              refine va_get (D := G) (ci := 4) (v := .ref k2) (C := RX4) (T := TX4) (N := 4) hx hb hts hinX4 hown hK hP 0 rfl rfl 1 (by decide) hL15 (fun _ h9 => h9) rfl dX4_removeAt_46 ?_
              refine lv_iload_n hx hb dX4_removeAt_49 rfl (lv_at hl 0 rfl) ?_
              refine lv_aload_n hx hb dX4_removeAt_50 rfl (lv_at hl 1 rfl) ?_
              refine va_get (D := G) (ci := 4) (v := .ref k2) (C := RX4) (T := TX4) (N := 4) hx hb hts hinX4 hown hK hP 0 rfl rfl 1 (by decide) hL15 (fun _ h9 => h9) rfl dX4_removeAt_51 ?_
              refine lv_iload_n hx hb dX4_removeAt_54 rfl (lv_at hl 0 rfl) ?_
              refine lv_iconst (v := 1) hx hb dX4_removeAt_55 (by decide) ?_
              refine lv_iadd hx hb dX4_removeAt_56 ?_
              refine k_ald (f := (D_6 1)) (j := ((x2_5 + 1)).toNatClampNeg) (v := ((D_6 1) (((x2_5 + 1)).toNatClampNeg))) hx hb hK hP 2 0 rfl rfl hi_14 rfl rfl dX4_removeAt_57 ?_
              refine k_ast (f := (D_6 1)) (j := (x2_5).toNatClampNeg) (ws' := (wT cI k0 k1 k2 (uA (uA D_6 0 (upd (D_6 0) ((x2_5).toNatClampNeg) ((D_6 0) (((x2_5 + 1)).toNatClampNeg)))) 1 (upd (D_6 1) ((x2_5).toNatClampNeg) ((D_6 1) (((x2_5 + 1)).toNatClampNeg)))))) hx hb hK hP hD hS 2 0 rfl rfl hi_15 rfl dX4_removeAt_58 rfl (fun H locs hP hD hS => ?_)
              refine lv_iinc (v := x2_5 + 1) (lv' := [(2, .int (x2_5 + 1)), (0, .ref k0), (1, .int x)]) hx hb dX4_removeAt_59 hl (k := 0) rfl rfl (by decide) rfl (fun ls hl => ?_)
              refine lv_goto (tgt := 15) hx hb dX4_removeAt_62 (by decide) ?_
              obtain ⟨n_16, lt_17, h_18⟩ := h
              exact ih_7 n_16 lt_17 _ _ h_18 _ _ _ hP hD hS (lv_sub hl [0, 1, 2] rfl)
      exact lp_11 _ _ _ h_9 _ _ _ hP hD hS hl
    · have h := h.2 c_2
      exact W.vret hx hb hr (fun t ht hW => ⟨⟨T, rfl, h, by rw [ht]; exact hP, hD⟩, hS.F ht⟩) hS.2.2 dX4_removeAt_12
def q_X4_putFirst (x : Int32) (y : Int32) (T : St) (Q : St → Prop) : Prop :=
  q_X4_indexOf x T (fun r_1 => q_X4_removeAt r_1 T (fun u_2 => ((u_2 3 0) < (u_2 2 0) → ∃ (I_5 : Nat → Int32 → St → Prop) (n_9 : Nat), I_5 n_9 (if 7 < (u_2 3 0) then 7 else (u_2 3 0)) u_2 ∧ ∀ (n_4 : Nat) (x3_6 : Int32) (D_7 : St), I_5 n_4 x3_6 D_7 → ((x3_6 ≤ 0 → Q (uA (uA (uA D_7 0 (upd (D_7 0) 0 x)) 1 (upd (D_7 1) 0 y)) 3 (fun _ => ((D_7 3 0) + 1)))) ∧ (¬ (x3_6 ≤ 0) → vp_in (x3_6 - 1) 8 ∧ (vp_in x3_6 8 ∧ (∃ n_16, n_16 < n_4 ∧ I_5 n_16 (x3_6 + (-1)) (uA (uA D_7 0 (upd (D_7 0) ((x3_6).toNatClampNeg) ((D_7 0) (((x3_6 - 1)).toNatClampNeg)))) 1 (upd (D_7 1) ((x3_6).toNatClampNeg) ((D_7 1) (((x3_6 - 1)).toNatClampNeg))))))))) ∧ (¬ ((u_2 3 0) < (u_2 2 0)) → q_X4_removeAt ((u_2 3 0) - 1) u_2 (fun u_19 => ∃ (I_21 : Nat → Int32 → St → Prop) (n_25 : Nat), I_21 n_25 (if 7 < (u_19 3 0) then 7 else (u_19 3 0)) u_19 ∧ ∀ (n_20 : Nat) (x3_22 : Int32) (D_23 : St), I_21 n_20 x3_22 D_23 → ((x3_22 ≤ 0 → Q (uA (uA (uA D_23 0 (upd (D_23 0) 0 x)) 1 (upd (D_23 1) 0 y)) 3 (fun _ => ((D_23 3 0) + 1)))) ∧ (¬ (x3_22 ≤ 0) → vp_in (x3_22 - 1) 8 ∧ (vp_in x3_22 8 ∧ (∃ n_32, n_32 < n_20 ∧ I_21 n_32 (x3_22 + (-1)) (uA (uA D_23 0 (upd (D_23 0) ((x3_22).toNatClampNeg) ((D_23 0) (((x3_22 - 1)).toNatClampNeg)))) 1 (upd (D_23 1) ((x3_22).toNatClampNeg) ((D_23 1) (((x3_22 - 1)).toNatClampNeg))))))))))))
set_option maxHeartbeats 4000000 in
set_option maxRecDepth 100000 in
theorem c_X4_putFirst (l : Launch) (G : va_G) (cI cC cD : ClassId) (k0 k1 k2 : Nat) (sz : Nat) (T : St) (x : Int32) (y : Int32) (Q : St → Prop) (h : q_X4_putFirst x y T Q) : Met l yX4_putFirst wsX4_putFirst ({ frames := 1, cells := 0, slots := 0, locals := 22 }) (va_Pc [.ref k0, .int x, .int y] (PW G (ty3 cI cC cD) (wT cI k0 k1 k2 T) sz)) (va_Qv Q (BW G (fun u : St => (wT cI k0 k1 k2 u)) (va_A (wT cI k0 k1 k2 T) sz)) (va_A (wT cI k0 k1 k2 T) sz)) 0 0 (va_A (wT cI k0 k1 k2 T) sz) := by
  refine Met.ofW (cc := cX4_putFirst) (maxL := 4) (ret := none) (by decide) rfl ?_
  intro p e s m args below meth c s₁ B hml hv
  obtain ⟨rfl, hsz, hP, hK, hD0, hN⟩ := hv
  have hx := B.exec
  have hb := B.bytes
  have hr := B.returns
  have hts := atoms_spec (ws := wsX4_putFirst) B.pre
  have hown : s.vm.findClass RX4 = some m.cls := findClass_of_methodNamed B.named
  have hlocks := B.notSynchronized
  subst hsz
  have hD := hD0.self (sz := s.heap.size)
  generalize hAe : va_A (wT cI k0 k1 k2 T) s.heap.size = A at hD ⊢
  have hA : ∀ q : Nat, s.heap.size ≤ q → A q := fun q h => by rw [← hAe]; exact Or.inr h
  have hS : va_S A s.heap s.heap [] := va_S.rf
  have hl := lv_entry ([.ref k0, .int x, .int y]) (n := 4) (Nat.le_of_ble_eq_true rfl)
  rw [lg_entry_eq]
  generalize (lg_sl ([.ref k0, .int x, .int y]) ++ List.replicate (4 - (lg_sl ([.ref k0, .int x, .int y])).length) Slot.unset).toArray = ls at hl ⊢
  have hl : lv_has ls 4 [(0, .ref k0), (1, .int x), (2, .int y)] := hl
  have hinX4 : ∀ w ∈ wsX40, w ∈ wsX4_putFirst := by decide +kernel
  have hL9 := hts (.fieldLink RX4 9 "CraneGates$Tasks" "gates" "[I") (by decide +kernel)
  have hL15 := hts (.fieldLink RX4 15 "CraneGates$Tasks" "openings" "[I") (by decide +kernel)
  have hL24 := hts (.fieldLink RX4 24 "CraneGates$Tasks" "most" "I") (by decide +kernel)
  have hL28 := hts (.fieldLink RX4 28 "CraneGates$Tasks" "size" "I") (by decide +kernel)
  unfold q_X4_putFirst at h
  refine lv_aload_n hx hb dX4_putFirst_0 rfl (lv_at hl 0 rfl) ?_
  refine lv_aload_n hx hb dX4_putFirst_1 rfl (lv_at hl 0 rfl) ?_
  refine lv_iload_n hx hb dX4_putFirst_2 rfl (lv_at hl 1 rfl) ?_
  refine kc_i (As := [.int x]) (rest := [.ref k0]) (wg := (fun _ => (wT cI k0 k1 k2 T))) ⟨hx, hb, hml, hown, hts⟩ (c_X4_indexOf l G cI cC cD k0 k1 k2 _ T x _ h) (cwV 1 hts gX4_putFirst_X4_indexOf rfl rfl rfl (by decide +kernel) ⟨Nat.le_of_ble_eq_true rfl, Nat.le_of_ble_eq_true rfl⟩) hK hN hP hD hS hA (em_TT cI k0 k1 k2 T) (fun _ => rp_self (em_TT cI k0 k1 k2 T)) rfl rfl rfl rfl hl.1 rfl (Nat.le_of_ble_eq_true rfl) dX4_putFirst_3 ⟨Nat.zero_le _, Nat.zero_le _⟩ (fun r_1 _ H locs h hP hD hS => ?_)
  refine kc_v (As := [.int r_1]) (rest := []) (wg := (fun u => (wT cI k0 k1 k2 u))) ⟨hx, hb, hml, hown, hts⟩ (c_X4_removeAt l G cI cC cD k0 k1 k2 _ T r_1 _ h) (cwV 1 hts gX4_putFirst_X4_removeAt rfl rfl rfl (by decide +kernel) ⟨Nat.le_of_ble_eq_true rfl, Nat.le_of_ble_eq_true rfl⟩) hK hN hP hD hS hA (em_TT cI k0 k1 k2 T) (fun u => rp_TT cI k0 k1 k2 T u) rfl rfl rfl rfl hl.1 rfl (Nat.le_of_ble_eq_true rfl) dX4_putFirst_6 ⟨Nat.zero_le _, Nat.zero_le _⟩ (fun u_2 H locs h hP hD hS => ?_)
  refine lv_aload_n hx hb dX4_putFirst_9 rfl (lv_at hl 0 rfl) ?_
  refine va_get (D := G) (ci := 4) (v := .int (u_2 3 0)) (C := RX4) (T := TX4) (N := 4) hx hb hts hinX4 hown hK hP 0 rfl rfl 3 (by decide) hL28 (fun _ h9 => h9) rfl dX4_putFirst_10 ?_
  refine lv_aload_n hx hb dX4_putFirst_13 rfl (lv_at hl 0 rfl) ?_
  refine va_get (D := G) (ci := 4) (v := .int (u_2 2 0)) (C := RX4) (T := TX4) (N := 4) hx hb hts hinX4 hown hK hP 0 rfl rfl 2 (by decide) hL24 (fun _ h9 => h9) rfl dX4_putFirst_14 ?_
  refine lv_icmp_lt (tgt := 30) hx hb dX4_putFirst_17 (by decide) (fun c_3 => ?_) (fun c_3 => ?_)
  · have h := h.1 c_3
    refine lv_aload_n hx hb dX4_putFirst_30 rfl (lv_at hl 0 rfl) ?_
    refine va_get (D := G) (ci := 4) (v := .int (u_2 3 0)) (C := RX4) (T := TX4) (N := 4) hx hb hts hinX4 hown hK hP 0 rfl rfl 3 (by decide) hL28 (fun _ h9 => h9) rfl dX4_putFirst_31 ?_
    refine lv_bipush (v := 7) hx hb dX4_putFirst_34 (by decide) ?_
    refine va_mmin hx hb (hl.1 ▸ hml) hown (hts (.methodLink RX4 18 Lib.Math.min.name) (by decide +kernel)) (hts (.static Lib.Math.min.name) (by decide +kernel)) (hts (.initialized "java/lang/Math") (by decide +kernel)) (hts (.code Lib.Math.min.name Lib.Math.min.code 2 (some .int)) (by decide +kernel)) (Nat.le_of_ble_eq_true rfl) (Nat.le_of_ble_eq_true rfl) (Nat.zero_le _) (Nat.zero_le _) dX4_putFirst_36 ?_
    refine lv_istore_n (lv' := [(3, .int (if 7 < (u_2 3 0) then 7 else (u_2 3 0))), (0, .ref k0), (1, .int x), (2, .int y)]) hx hb dX4_putFirst_39 rfl hl (by decide) rfl (fun ls hl => ?_)
    obtain ⟨I_5, n_9, h_10, hI_11⟩ := h
    have lp_12 : ∀ (n_4 : Nat) (x3_6 : Int32) (D_7 : St), I_5 n_4 x3_6 D_7 → ∀ (H : Heap) (locs : List Loc) (ls : Array Slot), va_P G vwCl (wT cI k0 k1 k2 D_7) H → va_D A (wT cI k0 k1 k2 D_7) → va_S A s.heap H locs → lv_has ls 4 [(3, .int x3_6), (0, .ref k0), (1, .int x), (2, .int y)] → W p l e (headSpec wsX4_putFirst ({ frames := 1, cells := 0, slots := 0, locals := 22 })).room s m ([.ref k0, .int x, .int y] : List Value).toArray below meth c H locs 0 0 (MQ below (va_Qv Q (BW G (fun u : St => (wT cI k0 k1 k2 u)) A) A) ([.ref k0, .int x, .int y] : List Value).toArray s 0 0 A) (F0 m 40 ls []) := by
      intro n_4
      induction n_4 using Nat.strongRecOn with
      | ind n_4 ih_8 =>
        intro x3_6 D_7 hIn H locs ls hP hD hS hl
        have h := hI_11 n_4 x3_6 D_7 hIn
        refine lv_iload_n hx hb dX4_putFirst_40 rfl (lv_at hl 0 rfl) ?_
        refine lv_if_le (tgt := 78) hx hb dX4_putFirst_41 (by decide) (fun c_13 => ?_) (fun c_13 => ?_)
        · have h := h.1 c_13
          refine lv_aload_n hx hb dX4_putFirst_78 rfl (lv_at hl 1 rfl) ?_
          refine va_get (D := G) (ci := 4) (v := .ref k1) (C := RX4) (T := TX4) (N := 4) hx hb hts hinX4 hown hK hP 0 rfl rfl 0 (by decide) hL9 (fun _ h9 => h9) rfl dX4_putFirst_79 ?_
          refine lv_iconst (v := 0) hx hb dX4_putFirst_82 (by decide) ?_
          refine lv_iload_n hx hb dX4_putFirst_83 rfl (lv_at hl 2 rfl) ?_
          refine k_ast (f := (D_7 0)) (j := 0) (ws' := (wT cI k0 k1 k2 (uA D_7 0 (upd (D_7 0) 0 x)))) hx hb hK hP hD hS 1 0 rfl rfl (show ¬ ((0 : Int32) < 0 ∨ 8 ≤ (0 : Int32).toNatClampNeg) by decide) rfl dX4_putFirst_84 rfl (fun H locs hP hD hS => ?_)
          refine lv_aload_n hx hb dX4_putFirst_85 rfl (lv_at hl 1 rfl) ?_
          refine va_get (D := G) (ci := 4) (v := .ref k2) (C := RX4) (T := TX4) (N := 4) hx hb hts hinX4 hown hK hP 0 rfl rfl 1 (by decide) hL15 (fun _ h9 => h9) rfl dX4_putFirst_86 ?_
          refine lv_iconst (v := 0) hx hb dX4_putFirst_89 (by decide) ?_
          refine lv_iload_n hx hb dX4_putFirst_90 rfl (lv_at hl 3 rfl) ?_
          refine k_ast (f := (D_7 1)) (j := 0) (ws' := (wT cI k0 k1 k2 (uA (uA D_7 0 (upd (D_7 0) 0 x)) 1 (upd (D_7 1) 0 y)))) hx hb hK hP hD hS 2 0 rfl rfl (show ¬ ((0 : Int32) < 0 ∨ 8 ≤ (0 : Int32).toNatClampNeg) by decide) rfl dX4_putFirst_91 rfl (fun H locs hP hD hS => ?_)
          refine lv_aload_n hx hb dX4_putFirst_92 rfl (lv_at hl 1 rfl) ?_
          refine lv_dup hx hb dX4_putFirst_93 rfl ?_
          refine va_get (D := G) (ci := 4) (v := .int (D_7 3 0)) (C := RX4) (T := TX4) (N := 4) hx hb hts hinX4 hown hK hP 0 rfl rfl 3 (by decide) hL28 (fun _ h9 => h9) rfl dX4_putFirst_94 ?_
          refine lv_iconst (v := 1) hx hb dX4_putFirst_97 (by decide) ?_
          refine lv_iadd hx hb dX4_putFirst_98 ?_
          refine va_put (D := G) (ci := 4) (v := .int ((D_7 3 0) + 1)) (ty := .int) (C := RX4) (T := TX4) (N := 4) hx hb hts hinX4 tyX4 tyX4_ok nmX4 hown hK hP hD hS 0 rfl rfl 3 (by decide) hL28 (fun _ h9 => h9) rfl (by decide +kernel) rfl rfl (Nat.le_of_ble_eq_true rfl) dX4_putFirst_99 (fun H locs hP hD hS => ?_)
          have hP : va_P G vwCl (wT cI k0 k1 k2 (uA (uA (uA D_7 0 (upd (D_7 0) 0 x)) 1 (upd (D_7 1) 0 y)) 3 (fun _ => ((D_7 3 0) + 1)))) H := hP
          have hD : va_D A (wT cI k0 k1 k2 (uA (uA (uA D_7 0 (upd (D_7 0) 0 x)) 1 (upd (D_7 1) 0 y)) 3 (fun _ => ((D_7 3 0) + 1)))) := hD
          exact W.vret hx hb hr (fun t ht hW => ⟨⟨(uA (uA (uA D_7 0 (upd (D_7 0) 0 x)) 1 (upd (D_7 1) 0 y)) 3 (fun _ => ((D_7 3 0) + 1))), rfl, h, by rw [ht]; exact hP, hD⟩, hS.F ht⟩) hS.2.2 dX4_putFirst_102
        · have h := h.2 c_13
          refine lv_aload_n hx hb dX4_putFirst_44 rfl (lv_at hl 1 rfl) ?_
          refine va_get (D := G) (ci := 4) (v := .ref k1) (C := RX4) (T := TX4) (N := 4) hx hb hts hinX4 hown hK hP 0 rfl rfl 0 (by decide) hL9 (fun _ h9 => h9) rfl dX4_putFirst_45 ?_
          refine lv_iload_n hx hb dX4_putFirst_48 rfl (lv_at hl 0 rfl) ?_
          refine lv_aload_n hx hb dX4_putFirst_49 rfl (lv_at hl 1 rfl) ?_
          refine va_get (D := G) (ci := 4) (v := .ref k1) (C := RX4) (T := TX4) (N := 4) hx hb hts hinX4 hown hK hP 0 rfl rfl 0 (by decide) hL9 (fun _ h9 => h9) rfl dX4_putFirst_50 ?_
          refine lv_iload_n hx hb dX4_putFirst_53 rfl (lv_at hl 0 rfl) ?_
          refine lv_iconst (v := 1) hx hb dX4_putFirst_54 (by decide) ?_
          refine lv_isub hx hb dX4_putFirst_55 ?_
          obtain ⟨hi_14, h⟩ := h
          refine k_ald (f := (D_7 0)) (j := ((x3_6 - 1)).toNatClampNeg) (v := ((D_7 0) (((x3_6 - 1)).toNatClampNeg))) hx hb hK hP 1 0 rfl rfl hi_14 rfl rfl dX4_putFirst_56 ?_
          obtain ⟨hi_15, h⟩ := h
          refine k_ast (f := (D_7 0)) (j := (x3_6).toNatClampNeg) (ws' := (wT cI k0 k1 k2 (uA D_7 0 (upd (D_7 0) ((x3_6).toNatClampNeg) ((D_7 0) (((x3_6 - 1)).toNatClampNeg)))))) hx hb hK hP hD hS 1 0 rfl rfl hi_15 rfl dX4_putFirst_57 rfl (fun H locs hP hD hS => ?_)
          refine lv_aload_n hx hb dX4_putFirst_58 rfl (lv_at hl 1 rfl) ?_
          refine va_get (D := G) (ci := 4) (v := .ref k2) (C := RX4) (T := TX4) (N := 4) hx hb hts hinX4 hown hK hP 0 rfl rfl 1 (by decide) hL15 (fun _ h9 => h9) rfl dX4_putFirst_59 ?_
          refine lv_iload_n hx hb dX4_putFirst_62 rfl (lv_at hl 0 rfl) ?_
          refine lv_aload_n hx hb dX4_putFirst_63 rfl (lv_at hl 1 rfl) ?_
          refine va_get (D := G) (ci := 4) (v := .ref k2) (C := RX4) (T := TX4) (N := 4) hx hb hts hinX4 hown hK hP 0 rfl rfl 1 (by decide) hL15 (fun _ h9 => h9) rfl dX4_putFirst_64 ?_
          refine lv_iload_n hx hb dX4_putFirst_67 rfl (lv_at hl 0 rfl) ?_
          refine lv_iconst (v := 1) hx hb dX4_putFirst_68 (by decide) ?_
          refine lv_isub hx hb dX4_putFirst_69 ?_
          refine k_ald (f := (D_7 1)) (j := ((x3_6 - 1)).toNatClampNeg) (v := ((D_7 1) (((x3_6 - 1)).toNatClampNeg))) hx hb hK hP 2 0 rfl rfl hi_14 rfl rfl dX4_putFirst_70 ?_
          refine k_ast (f := (D_7 1)) (j := (x3_6).toNatClampNeg) (ws' := (wT cI k0 k1 k2 (uA (uA D_7 0 (upd (D_7 0) ((x3_6).toNatClampNeg) ((D_7 0) (((x3_6 - 1)).toNatClampNeg)))) 1 (upd (D_7 1) ((x3_6).toNatClampNeg) ((D_7 1) (((x3_6 - 1)).toNatClampNeg)))))) hx hb hK hP hD hS 2 0 rfl rfl hi_15 rfl dX4_putFirst_71 rfl (fun H locs hP hD hS => ?_)
          refine lv_iinc (v := x3_6 + (-1)) (lv' := [(3, .int (x3_6 + (-1))), (0, .ref k0), (1, .int x), (2, .int y)]) hx hb dX4_putFirst_72 hl (k := 0) rfl rfl (by decide) rfl (fun ls hl => ?_)
          refine lv_goto (tgt := 40) hx hb dX4_putFirst_75 (by decide) ?_
          obtain ⟨n_16, lt_17, h_18⟩ := h
          exact ih_8 n_16 lt_17 _ _ h_18 _ _ _ hP hD hS (lv_sub hl [0, 1, 2, 3] rfl)
    exact lp_12 _ _ _ h_10 _ _ _ hP hD hS hl
  · have h := h.2 c_3
    refine lv_aload_n hx hb dX4_putFirst_20 rfl (lv_at hl 0 rfl) ?_
    refine lv_aload_n hx hb dX4_putFirst_21 rfl (lv_at hl 0 rfl) ?_
    refine va_get (D := G) (ci := 4) (v := .int (u_2 3 0)) (C := RX4) (T := TX4) (N := 4) hx hb hts hinX4 hown hK hP 0 rfl rfl 3 (by decide) hL28 (fun _ h9 => h9) rfl dX4_putFirst_22 ?_
    refine lv_iconst (v := 1) hx hb dX4_putFirst_25 (by decide) ?_
    refine lv_isub hx hb dX4_putFirst_26 ?_
    refine kc_v (As := [.int ((u_2 3 0) - 1)]) (rest := []) (wg := (fun u => (wT cI k0 k1 k2 u))) ⟨hx, hb, hml, hown, hts⟩ (c_X4_removeAt l G cI cC cD k0 k1 k2 _ u_2 ((u_2 3 0) - 1) _ h) (cwV 1 hts gX4_putFirst_X4_removeAt rfl rfl rfl (by decide +kernel) ⟨Nat.le_of_ble_eq_true rfl, Nat.le_of_ble_eq_true rfl⟩) hK hN hP hD hS hA (em_TT cI k0 k1 k2 u_2) (fun u => rp_TT cI k0 k1 k2 u_2 u) rfl rfl rfl rfl hl.1 rfl (Nat.le_of_ble_eq_true rfl) dX4_putFirst_27 ⟨Nat.zero_le _, Nat.zero_le _⟩ (fun u_19 H locs h hP hD hS => ?_)
    refine lv_aload_n hx hb dX4_putFirst_30 rfl (lv_at hl 0 rfl) ?_
    refine va_get (D := G) (ci := 4) (v := .int (u_19 3 0)) (C := RX4) (T := TX4) (N := 4) hx hb hts hinX4 hown hK hP 0 rfl rfl 3 (by decide) hL28 (fun _ h9 => h9) rfl dX4_putFirst_31 ?_
    refine lv_bipush (v := 7) hx hb dX4_putFirst_34 (by decide) ?_
    refine va_mmin hx hb (hl.1 ▸ hml) hown (hts (.methodLink RX4 18 Lib.Math.min.name) (by decide +kernel)) (hts (.static Lib.Math.min.name) (by decide +kernel)) (hts (.initialized "java/lang/Math") (by decide +kernel)) (hts (.code Lib.Math.min.name Lib.Math.min.code 2 (some .int)) (by decide +kernel)) (Nat.le_of_ble_eq_true rfl) (Nat.le_of_ble_eq_true rfl) (Nat.zero_le _) (Nat.zero_le _) dX4_putFirst_36 ?_
    refine lv_istore_n (lv' := [(3, .int (if 7 < (u_19 3 0) then 7 else (u_19 3 0))), (0, .ref k0), (1, .int x), (2, .int y)]) hx hb dX4_putFirst_39 rfl hl (by decide) rfl (fun ls hl => ?_)
    obtain ⟨I_21, n_25, h_26, hI_27⟩ := h
    have lp_28 : ∀ (n_20 : Nat) (x3_22 : Int32) (D_23 : St), I_21 n_20 x3_22 D_23 → ∀ (H : Heap) (locs : List Loc) (ls : Array Slot), va_P G vwCl (wT cI k0 k1 k2 D_23) H → va_D A (wT cI k0 k1 k2 D_23) → va_S A s.heap H locs → lv_has ls 4 [(3, .int x3_22), (0, .ref k0), (1, .int x), (2, .int y)] → W p l e (headSpec wsX4_putFirst ({ frames := 1, cells := 0, slots := 0, locals := 22 })).room s m ([.ref k0, .int x, .int y] : List Value).toArray below meth c H locs 0 0 (MQ below (va_Qv Q (BW G (fun u : St => (wT cI k0 k1 k2 u)) A) A) ([.ref k0, .int x, .int y] : List Value).toArray s 0 0 A) (F0 m 40 ls []) := by
      intro n_20
      induction n_20 using Nat.strongRecOn with
      | ind n_20 ih_24 =>
        intro x3_22 D_23 hIn H locs ls hP hD hS hl
        have h := hI_27 n_20 x3_22 D_23 hIn
        refine lv_iload_n hx hb dX4_putFirst_40 rfl (lv_at hl 0 rfl) ?_
        refine lv_if_le (tgt := 78) hx hb dX4_putFirst_41 (by decide) (fun c_29 => ?_) (fun c_29 => ?_)
        · have h := h.1 c_29
          refine lv_aload_n hx hb dX4_putFirst_78 rfl (lv_at hl 1 rfl) ?_
          refine va_get (D := G) (ci := 4) (v := .ref k1) (C := RX4) (T := TX4) (N := 4) hx hb hts hinX4 hown hK hP 0 rfl rfl 0 (by decide) hL9 (fun _ h9 => h9) rfl dX4_putFirst_79 ?_
          refine lv_iconst (v := 0) hx hb dX4_putFirst_82 (by decide) ?_
          refine lv_iload_n hx hb dX4_putFirst_83 rfl (lv_at hl 2 rfl) ?_
          refine k_ast (f := (D_23 0)) (j := 0) (ws' := (wT cI k0 k1 k2 (uA D_23 0 (upd (D_23 0) 0 x)))) hx hb hK hP hD hS 1 0 rfl rfl (show ¬ ((0 : Int32) < 0 ∨ 8 ≤ (0 : Int32).toNatClampNeg) by decide) rfl dX4_putFirst_84 rfl (fun H locs hP hD hS => ?_)
          refine lv_aload_n hx hb dX4_putFirst_85 rfl (lv_at hl 1 rfl) ?_
          refine va_get (D := G) (ci := 4) (v := .ref k2) (C := RX4) (T := TX4) (N := 4) hx hb hts hinX4 hown hK hP 0 rfl rfl 1 (by decide) hL15 (fun _ h9 => h9) rfl dX4_putFirst_86 ?_
          refine lv_iconst (v := 0) hx hb dX4_putFirst_89 (by decide) ?_
          refine lv_iload_n hx hb dX4_putFirst_90 rfl (lv_at hl 3 rfl) ?_
          refine k_ast (f := (D_23 1)) (j := 0) (ws' := (wT cI k0 k1 k2 (uA (uA D_23 0 (upd (D_23 0) 0 x)) 1 (upd (D_23 1) 0 y)))) hx hb hK hP hD hS 2 0 rfl rfl (show ¬ ((0 : Int32) < 0 ∨ 8 ≤ (0 : Int32).toNatClampNeg) by decide) rfl dX4_putFirst_91 rfl (fun H locs hP hD hS => ?_)
          refine lv_aload_n hx hb dX4_putFirst_92 rfl (lv_at hl 1 rfl) ?_
          refine lv_dup hx hb dX4_putFirst_93 rfl ?_
          refine va_get (D := G) (ci := 4) (v := .int (D_23 3 0)) (C := RX4) (T := TX4) (N := 4) hx hb hts hinX4 hown hK hP 0 rfl rfl 3 (by decide) hL28 (fun _ h9 => h9) rfl dX4_putFirst_94 ?_
          refine lv_iconst (v := 1) hx hb dX4_putFirst_97 (by decide) ?_
          refine lv_iadd hx hb dX4_putFirst_98 ?_
          refine va_put (D := G) (ci := 4) (v := .int ((D_23 3 0) + 1)) (ty := .int) (C := RX4) (T := TX4) (N := 4) hx hb hts hinX4 tyX4 tyX4_ok nmX4 hown hK hP hD hS 0 rfl rfl 3 (by decide) hL28 (fun _ h9 => h9) rfl (by decide +kernel) rfl rfl (Nat.le_of_ble_eq_true rfl) dX4_putFirst_99 (fun H locs hP hD hS => ?_)
          have hP : va_P G vwCl (wT cI k0 k1 k2 (uA (uA (uA D_23 0 (upd (D_23 0) 0 x)) 1 (upd (D_23 1) 0 y)) 3 (fun _ => ((D_23 3 0) + 1)))) H := hP
          have hD : va_D A (wT cI k0 k1 k2 (uA (uA (uA D_23 0 (upd (D_23 0) 0 x)) 1 (upd (D_23 1) 0 y)) 3 (fun _ => ((D_23 3 0) + 1)))) := hD
          exact W.vret hx hb hr (fun t ht hW => ⟨⟨(uA (uA (uA D_23 0 (upd (D_23 0) 0 x)) 1 (upd (D_23 1) 0 y)) 3 (fun _ => ((D_23 3 0) + 1))), rfl, h, by rw [ht]; exact hP, hD⟩, hS.F ht⟩) hS.2.2 dX4_putFirst_102
        · have h := h.2 c_29
          refine lv_aload_n hx hb dX4_putFirst_44 rfl (lv_at hl 1 rfl) ?_
          refine va_get (D := G) (ci := 4) (v := .ref k1) (C := RX4) (T := TX4) (N := 4) hx hb hts hinX4 hown hK hP 0 rfl rfl 0 (by decide) hL9 (fun _ h9 => h9) rfl dX4_putFirst_45 ?_
          refine lv_iload_n hx hb dX4_putFirst_48 rfl (lv_at hl 0 rfl) ?_
          refine lv_aload_n hx hb dX4_putFirst_49 rfl (lv_at hl 1 rfl) ?_
          refine va_get (D := G) (ci := 4) (v := .ref k1) (C := RX4) (T := TX4) (N := 4) hx hb hts hinX4 hown hK hP 0 rfl rfl 0 (by decide) hL9 (fun _ h9 => h9) rfl dX4_putFirst_50 ?_
          refine lv_iload_n hx hb dX4_putFirst_53 rfl (lv_at hl 0 rfl) ?_
          refine lv_iconst (v := 1) hx hb dX4_putFirst_54 (by decide) ?_
          refine lv_isub hx hb dX4_putFirst_55 ?_
          obtain ⟨hi_30, h⟩ := h
          refine k_ald (f := (D_23 0)) (j := ((x3_22 - 1)).toNatClampNeg) (v := ((D_23 0) (((x3_22 - 1)).toNatClampNeg))) hx hb hK hP 1 0 rfl rfl hi_30 rfl rfl dX4_putFirst_56 ?_
          obtain ⟨hi_31, h⟩ := h
          refine k_ast (f := (D_23 0)) (j := (x3_22).toNatClampNeg) (ws' := (wT cI k0 k1 k2 (uA D_23 0 (upd (D_23 0) ((x3_22).toNatClampNeg) ((D_23 0) (((x3_22 - 1)).toNatClampNeg)))))) hx hb hK hP hD hS 1 0 rfl rfl hi_31 rfl dX4_putFirst_57 rfl (fun H locs hP hD hS => ?_)
          refine lv_aload_n hx hb dX4_putFirst_58 rfl (lv_at hl 1 rfl) ?_
          refine va_get (D := G) (ci := 4) (v := .ref k2) (C := RX4) (T := TX4) (N := 4) hx hb hts hinX4 hown hK hP 0 rfl rfl 1 (by decide) hL15 (fun _ h9 => h9) rfl dX4_putFirst_59 ?_
          refine lv_iload_n hx hb dX4_putFirst_62 rfl (lv_at hl 0 rfl) ?_
          refine lv_aload_n hx hb dX4_putFirst_63 rfl (lv_at hl 1 rfl) ?_
          refine va_get (D := G) (ci := 4) (v := .ref k2) (C := RX4) (T := TX4) (N := 4) hx hb hts hinX4 hown hK hP 0 rfl rfl 1 (by decide) hL15 (fun _ h9 => h9) rfl dX4_putFirst_64 ?_
          refine lv_iload_n hx hb dX4_putFirst_67 rfl (lv_at hl 0 rfl) ?_
          refine lv_iconst (v := 1) hx hb dX4_putFirst_68 (by decide) ?_
          refine lv_isub hx hb dX4_putFirst_69 ?_
          refine k_ald (f := (D_23 1)) (j := ((x3_22 - 1)).toNatClampNeg) (v := ((D_23 1) (((x3_22 - 1)).toNatClampNeg))) hx hb hK hP 2 0 rfl rfl hi_30 rfl rfl dX4_putFirst_70 ?_
          refine k_ast (f := (D_23 1)) (j := (x3_22).toNatClampNeg) (ws' := (wT cI k0 k1 k2 (uA (uA D_23 0 (upd (D_23 0) ((x3_22).toNatClampNeg) ((D_23 0) (((x3_22 - 1)).toNatClampNeg)))) 1 (upd (D_23 1) ((x3_22).toNatClampNeg) ((D_23 1) (((x3_22 - 1)).toNatClampNeg)))))) hx hb hK hP hD hS 2 0 rfl rfl hi_31 rfl dX4_putFirst_71 rfl (fun H locs hP hD hS => ?_)
          refine lv_iinc (v := x3_22 + (-1)) (lv' := [(3, .int (x3_22 + (-1))), (0, .ref k0), (1, .int x), (2, .int y)]) hx hb dX4_putFirst_72 hl (k := 0) rfl rfl (by decide) rfl (fun ls hl => ?_)
          refine lv_goto (tgt := 40) hx hb dX4_putFirst_75 (by decide) ?_
          obtain ⟨n_32, lt_33, h_34⟩ := h
          exact ih_24 n_32 lt_33 _ _ h_34 _ _ _ hP hD hS (lv_sub hl [0, 1, 2, 3] rfl)
    exact lp_28 _ _ _ h_26 _ _ _ hP hD hS hl
