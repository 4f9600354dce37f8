def q_X2_size (N : St) (Q : Int32 → Prop) : Prop :=
  Q (N 0 0)
set_option maxHeartbeats 4000000 in
set_option maxRecDepth 100000 in
theorem c_X2_size (l : Launch) (G : va_G) (cI cC cD : ClassId) (k0 k1 : Nat) (rf : Nat → Option Nat) (sz : Nat) (N : St)  (Q : Int32 → Prop) (h : q_X2_size  N Q) : Met l yX2_size wsX2_size ({ frames := 0, cells := 0, slots := 0, locals := 0 }) (va_Pc [.ref k0] (PW G (ty3 cI cC cD) (wH cD k0 k1 (N 0 0) rf) sz)) (va_Qi (fun (r : Int32) (_ : Unit) => Q r) (BW G (fun _ : Unit => (wH cD k0 k1 (N 0 0) rf)) (va_A (wH cD k0 k1 (N 0 0) rf) sz)) (va_A (wH cD k0 k1 (N 0 0) rf) sz)) 0 0 (va_A (wH cD k0 k1 (N 0 0) rf) sz) := by
  refine Met.ofW (cc := cX2_size) (maxL := 1) (ret := (some .int)) (by decide) rfl ?_
  intro p e s m args below meth c s₁ B hml hv
  obtain ⟨rfl, hsz, hP, hK, hD0, hN⟩ := hv
  have hx := B.exec
  have hb := B.bytes
  have hr := B.returns
  have hts := atoms_spec (ws := wsX2_size) B.pre
  have hown : s.vm.findClass RX2 = some m.cls := findClass_of_methodNamed B.named
  have hlocks := B.notSynchronized
  subst hsz
  have hD := hD0.self (sz := s.heap.size)
  generalize hAe : va_A (wH cD k0 k1 (N 0 0) rf) s.heap.size = A at hD ⊢
  have hA : ∀ q : Nat, s.heap.size ≤ q → A q := fun q h => by rw [← hAe]; exact Or.inr h
  have hS : va_S A s.heap s.heap [] := va_S.rf
  have hl := lv_entry ([.ref k0]) (n := 1) (Nat.le_of_ble_eq_true rfl)
  rw [lg_entry_eq]
  generalize (lg_sl ([.ref k0]) ++ List.replicate (1 - (lg_sl ([.ref k0])).length) Slot.unset).toArray = ls at hl ⊢
  have hl : lv_has ls 1 [(0, .ref k0)] := hl
  have hinX2 : ∀ w ∈ wsX20, w ∈ wsX2_size := by decide +kernel
  have hL18 := hts (.fieldLink RX2 18 "CraneGates$History" "size" "I") (by decide +kernel)
  unfold q_X2_size at h
  refine lv_aload_n hx hb dX2_size_0 rfl (lv_at hl 0 rfl) ?_
  refine va_get (D := G) (ci := 2) (v := .int (N 0 0)) (C := RX2) (T := TX2) (N := 2) hx hb hts hinX2 hown hK hP 0 rfl rfl 1 (by decide) hL18 (fun _ h9 => h9) rfl dX2_size_1 ?_
  exact W.iret (v := (N 0 0)) hx hb hr (fun t ht hW => ⟨⟨(N 0 0), (), rfl, h, by rw [ht]; exact hP, hD⟩, hS.F ht⟩) hS.2.2 dX2_size_4
set_option maxHeartbeats 4000000 in
set_option maxRecDepth 100000 in
theorem c_X2_state_0 (l : Launch) (G : va_G) (cI cC cD : ClassId) (k0 k1 : Nat) (rf : Nat → Option Nat) (a : Nat) (ha : rf 0 = some a) (sz : Nat) (N : St) : Met l yX2_state wsX2_state ({ frames := 0, cells := 0, slots := 0, locals := 0 }) (va_Pc [.ref k0, .int 0] (PW G (ty3 cI cC cD) (wH cD k0 k1 (N 0 0) rf) sz)) (va_Qr (fun _ : Unit => True) (fun _ ra t => ra = a ∧ va_P G vwCl (wH cD k0 k1 (N 0 0) rf) t.heap ∧ va_D (va_A (wH cD k0 k1 (N 0 0) rf) sz) (wH cD k0 k1 (N 0 0) rf)) (va_A (wH cD k0 k1 (N 0 0) rf) sz)) 0 0 (va_A (wH cD k0 k1 (N 0 0) rf) sz) := by
  refine Met.ofW (cc := cX2_state) (maxL := 2) (ret := (some (.object "CraneGates$Dam"))) (by decide) rfl ?_
  intro p e s m args below meth c s₁ B hml hv
  obtain ⟨rfl, hsz, hP, hK, hD0, hN⟩ := hv
  have hx := B.exec
  have hb := B.bytes
  have hr := B.returns
  have hts := atoms_spec (ws := wsX2_state) B.pre
  have hown : s.vm.findClass RX2 = some m.cls := findClass_of_methodNamed B.named
  have hlocks := B.notSynchronized
  subst hsz
  have hD := hD0.self (sz := s.heap.size)
  generalize hAe : va_A (wH cD k0 k1 (N 0 0) rf) s.heap.size = A at hD ⊢
  have hA : ∀ q : Nat, s.heap.size ≤ q → A q := fun q h => by rw [← hAe]; exact Or.inr h
  have hS : va_S A s.heap s.heap [] := va_S.rf
  have hl := lv_entry ([.ref k0, .int 0]) (n := 2) (Nat.le_of_ble_eq_true rfl)
  rw [lg_entry_eq]
  generalize (lg_sl ([.ref k0, .int 0]) ++ List.replicate (2 - (lg_sl ([.ref k0, .int 0])).length) Slot.unset).toArray = ls at hl ⊢
  have hl : lv_has ls 2 [(0, .ref k0), (1, .int 0)] := hl
  have hinX2 : ∀ w ∈ wsX20, w ∈ wsX2_state := by decide +kernel
  have hL11 := hts (.fieldLink RX2 11 "CraneGates$History" "states" "[LCraneGates$Dam;") (by decide +kernel)
  refine lv_iload_n hx hb dX2_state_0 rfl (lv_at hl 1 rfl) ?_
  refine lv_if_lt (tgt := 22) hx hb dX2_state_1 (by decide) (fun c => absurd c (by decide)) (fun _ => ?_)
  refine lv_iload_n hx hb dX2_state_4 rfl (lv_at hl 1 rfl) ?_
  refine lv_aload_n hx hb dX2_state_5 rfl (lv_at hl 0 rfl) ?_
  refine va_get (D := G) (ci := 2) (v := .ref k1) (C := RX2) (T := TX2) (N := 2) hx hb hts hinX2 hown hK hP 0 rfl rfl 0 (by decide) hL11 (fun _ h9 => h9) rfl dX2_state_6 ?_
  refine va_alen hx hb hK hP 1 2 rfl rfl (v := 5) rfl dX2_state_9 ?_
  refine lv_icmp_ge (tgt := 22) hx hb dX2_state_10 (by decide) (fun c => absurd c (by decide)) (fun _ => ?_)
  refine lv_aload_n hx hb dX2_state_13 rfl (lv_at hl 0 rfl) ?_
  refine va_get (D := G) (ci := 2) (v := .ref k1) (C := RX2) (T := TX2) (N := 2) hx hb hts hinX2 hown hK hP 0 rfl rfl 0 (by decide) hL11 (fun _ h9 => h9) rfl dX2_state_14 ?_
  refine lv_iload_n hx hb dX2_state_17 rfl (lv_at hl 1 rfl) ?_
  refine k_rld (j := 0) (v := a) hx hb hK hP 1 2 rfl rfl (show ¬ ((0 : Int32) < 0 ∨ 5 ≤ (0 : Int32).toNatClampNeg) by decide) rfl ha dX2_state_18 ?_
  refine lv_goto (tgt := 23) hx hb dX2_state_19 (by decide) ?_
  exact W.aret (v := .ref a) hx hb hr (Or.inl ⟨_, rfl⟩) (Or.inr ⟨a, rfl⟩) (fun t ht hW => ⟨⟨(), a, rfl, trivial, rfl, by rw [ht]; exact hP, hD⟩, hS.F ht⟩) hS.2.2 dX2_state_23
set_option maxHeartbeats 4000000 in
set_option maxRecDepth 100000 in
theorem c_X2_state_1 (l : Launch) (G : va_G) (cI cC cD : ClassId) (k0 k1 : Nat) (rf : Nat → Option Nat) (a : Nat) (ha : rf 1 = some a) (sz : Nat) (N : St) : Met l yX2_state wsX2_state ({ frames := 0, cells := 0, slots := 0, locals := 0 }) (va_Pc [.ref k0, .int 1] (PW G (ty3 cI cC cD) (wH cD k0 k1 (N 0 0) rf) sz)) (va_Qr (fun _ : Unit => True) (fun _ ra t => ra = a ∧ va_P G vwCl (wH cD k0 k1 (N 0 0) rf) t.heap ∧ va_D (va_A (wH cD k0 k1 (N 0 0) rf) sz) (wH cD k0 k1 (N 0 0) rf)) (va_A (wH cD k0 k1 (N 0 0) rf) sz)) 0 0 (va_A (wH cD k0 k1 (N 0 0) rf) sz) := by
  refine Met.ofW (cc := cX2_state) (maxL := 2) (ret := (some (.object "CraneGates$Dam"))) (by decide) rfl ?_
  intro p e s m args below meth c s₁ B hml hv
  obtain ⟨rfl, hsz, hP, hK, hD0, hN⟩ := hv
  have hx := B.exec
  have hb := B.bytes
  have hr := B.returns
  have hts := atoms_spec (ws := wsX2_state) B.pre
  have hown : s.vm.findClass RX2 = some m.cls := findClass_of_methodNamed B.named
  have hlocks := B.notSynchronized
  subst hsz
  have hD := hD0.self (sz := s.heap.size)
  generalize hAe : va_A (wH cD k0 k1 (N 0 0) rf) s.heap.size = A at hD ⊢
  have hA : ∀ q : Nat, s.heap.size ≤ q → A q := fun q h => by rw [← hAe]; exact Or.inr h
  have hS : va_S A s.heap s.heap [] := va_S.rf
  have hl := lv_entry ([.ref k0, .int 1]) (n := 2) (Nat.le_of_ble_eq_true rfl)
  rw [lg_entry_eq]
  generalize (lg_sl ([.ref k0, .int 1]) ++ List.replicate (2 - (lg_sl ([.ref k0, .int 1])).length) Slot.unset).toArray = ls at hl ⊢
  have hl : lv_has ls 2 [(0, .ref k0), (1, .int 1)] := hl
  have hinX2 : ∀ w ∈ wsX20, w ∈ wsX2_state := by decide +kernel
  have hL11 := hts (.fieldLink RX2 11 "CraneGates$History" "states" "[LCraneGates$Dam;") (by decide +kernel)
  refine lv_iload_n hx hb dX2_state_0 rfl (lv_at hl 1 rfl) ?_
  refine lv_if_lt (tgt := 22) hx hb dX2_state_1 (by decide) (fun c => absurd c (by decide)) (fun _ => ?_)
  refine lv_iload_n hx hb dX2_state_4 rfl (lv_at hl 1 rfl) ?_
  refine lv_aload_n hx hb dX2_state_5 rfl (lv_at hl 0 rfl) ?_
  refine va_get (D := G) (ci := 2) (v := .ref k1) (C := RX2) (T := TX2) (N := 2) hx hb hts hinX2 hown hK hP 0 rfl rfl 0 (by decide) hL11 (fun _ h9 => h9) rfl dX2_state_6 ?_
  refine va_alen hx hb hK hP 1 2 rfl rfl (v := 5) rfl dX2_state_9 ?_
  refine lv_icmp_ge (tgt := 22) hx hb dX2_state_10 (by decide) (fun c => absurd c (by decide)) (fun _ => ?_)
  refine lv_aload_n hx hb dX2_state_13 rfl (lv_at hl 0 rfl) ?_
  refine va_get (D := G) (ci := 2) (v := .ref k1) (C := RX2) (T := TX2) (N := 2) hx hb hts hinX2 hown hK hP 0 rfl rfl 0 (by decide) hL11 (fun _ h9 => h9) rfl dX2_state_14 ?_
  refine lv_iload_n hx hb dX2_state_17 rfl (lv_at hl 1 rfl) ?_
  refine k_rld (j := 1) (v := a) hx hb hK hP 1 2 rfl rfl (show ¬ ((1 : Int32) < 0 ∨ 5 ≤ (1 : Int32).toNatClampNeg) by decide) rfl ha dX2_state_18 ?_
  refine lv_goto (tgt := 23) hx hb dX2_state_19 (by decide) ?_
  exact W.aret (v := .ref a) hx hb hr (Or.inl ⟨_, rfl⟩) (Or.inr ⟨a, rfl⟩) (fun t ht hW => ⟨⟨(), a, rfl, trivial, rfl, by rw [ht]; exact hP, hD⟩, hS.F ht⟩) hS.2.2 dX2_state_23
set_option maxHeartbeats 4000000 in
set_option maxRecDepth 100000 in
theorem c_X2_state_2 (l : Launch) (G : va_G) (cI cC cD : ClassId) (k0 k1 : Nat) (rf : Nat → Option Nat) (a : Nat) (ha : rf 2 = some a) (sz : Nat) (N : St) : Met l yX2_state wsX2_state ({ frames := 0, cells := 0, slots := 0, locals := 0 }) (va_Pc [.ref k0, .int 2] (PW G (ty3 cI cC cD) (wH cD k0 k1 (N 0 0) rf) sz)) (va_Qr (fun _ : Unit => True) (fun _ ra t => ra = a ∧ va_P G vwCl (wH cD k0 k1 (N 0 0) rf) t.heap ∧ va_D (va_A (wH cD k0 k1 (N 0 0) rf) sz) (wH cD k0 k1 (N 0 0) rf)) (va_A (wH cD k0 k1 (N 0 0) rf) sz)) 0 0 (va_A (wH cD k0 k1 (N 0 0) rf) sz) := by
  refine Met.ofW (cc := cX2_state) (maxL := 2) (ret := (some (.object "CraneGates$Dam"))) (by decide) rfl ?_
  intro p e s m args below meth c s₁ B hml hv
  obtain ⟨rfl, hsz, hP, hK, hD0, hN⟩ := hv
  have hx := B.exec
  have hb := B.bytes
  have hr := B.returns
  have hts := atoms_spec (ws := wsX2_state) B.pre
  have hown : s.vm.findClass RX2 = some m.cls := findClass_of_methodNamed B.named
  have hlocks := B.notSynchronized
  subst hsz
  have hD := hD0.self (sz := s.heap.size)
  generalize hAe : va_A (wH cD k0 k1 (N 0 0) rf) s.heap.size = A at hD ⊢
  have hA : ∀ q : Nat, s.heap.size ≤ q → A q := fun q h => by rw [← hAe]; exact Or.inr h
  have hS : va_S A s.heap s.heap [] := va_S.rf
  have hl := lv_entry ([.ref k0, .int 2]) (n := 2) (Nat.le_of_ble_eq_true rfl)
  rw [lg_entry_eq]
  generalize (lg_sl ([.ref k0, .int 2]) ++ List.replicate (2 - (lg_sl ([.ref k0, .int 2])).length) Slot.unset).toArray = ls at hl ⊢
  have hl : lv_has ls 2 [(0, .ref k0), (1, .int 2)] := hl
  have hinX2 : ∀ w ∈ wsX20, w ∈ wsX2_state := by decide +kernel
  have hL11 := hts (.fieldLink RX2 11 "CraneGates$History" "states" "[LCraneGates$Dam;") (by decide +kernel)
  refine lv_iload_n hx hb dX2_state_0 rfl (lv_at hl 1 rfl) ?_
  refine lv_if_lt (tgt := 22) hx hb dX2_state_1 (by decide) (fun c => absurd c (by decide)) (fun _ => ?_)
  refine lv_iload_n hx hb dX2_state_4 rfl (lv_at hl 1 rfl) ?_
  refine lv_aload_n hx hb dX2_state_5 rfl (lv_at hl 0 rfl) ?_
  refine va_get (D := G) (ci := 2) (v := .ref k1) (C := RX2) (T := TX2) (N := 2) hx hb hts hinX2 hown hK hP 0 rfl rfl 0 (by decide) hL11 (fun _ h9 => h9) rfl dX2_state_6 ?_
  refine va_alen hx hb hK hP 1 2 rfl rfl (v := 5) rfl dX2_state_9 ?_
  refine lv_icmp_ge (tgt := 22) hx hb dX2_state_10 (by decide) (fun c => absurd c (by decide)) (fun _ => ?_)
  refine lv_aload_n hx hb dX2_state_13 rfl (lv_at hl 0 rfl) ?_
  refine va_get (D := G) (ci := 2) (v := .ref k1) (C := RX2) (T := TX2) (N := 2) hx hb hts hinX2 hown hK hP 0 rfl rfl 0 (by decide) hL11 (fun _ h9 => h9) rfl dX2_state_14 ?_
  refine lv_iload_n hx hb dX2_state_17 rfl (lv_at hl 1 rfl) ?_
  refine k_rld (j := 2) (v := a) hx hb hK hP 1 2 rfl rfl (show ¬ ((2 : Int32) < 0 ∨ 5 ≤ (2 : Int32).toNatClampNeg) by decide) rfl ha dX2_state_18 ?_
  refine lv_goto (tgt := 23) hx hb dX2_state_19 (by decide) ?_
  exact W.aret (v := .ref a) hx hb hr (Or.inl ⟨_, rfl⟩) (Or.inr ⟨a, rfl⟩) (fun t ht hW => ⟨⟨(), a, rfl, trivial, rfl, by rw [ht]; exact hP, hD⟩, hS.F ht⟩) hS.2.2 dX2_state_23
set_option maxHeartbeats 4000000 in
set_option maxRecDepth 100000 in
theorem c_X2_state_3 (l : Launch) (G : va_G) (cI cC cD : ClassId) (k0 k1 : Nat) (rf : Nat → Option Nat) (a : Nat) (ha : rf 3 = some a) (sz : Nat) (N : St) : Met l yX2_state wsX2_state ({ frames := 0, cells := 0, slots := 0, locals := 0 }) (va_Pc [.ref k0, .int 3] (PW G (ty3 cI cC cD) (wH cD k0 k1 (N 0 0) rf) sz)) (va_Qr (fun _ : Unit => True) (fun _ ra t => ra = a ∧ va_P G vwCl (wH cD k0 k1 (N 0 0) rf) t.heap ∧ va_D (va_A (wH cD k0 k1 (N 0 0) rf) sz) (wH cD k0 k1 (N 0 0) rf)) (va_A (wH cD k0 k1 (N 0 0) rf) sz)) 0 0 (va_A (wH cD k0 k1 (N 0 0) rf) sz) := by
  refine Met.ofW (cc := cX2_state) (maxL := 2) (ret := (some (.object "CraneGates$Dam"))) (by decide) rfl ?_
  intro p e s m args below meth c s₁ B hml hv
  obtain ⟨rfl, hsz, hP, hK, hD0, hN⟩ := hv
  have hx := B.exec
  have hb := B.bytes
  have hr := B.returns
  have hts := atoms_spec (ws := wsX2_state) B.pre
  have hown : s.vm.findClass RX2 = some m.cls := findClass_of_methodNamed B.named
  have hlocks := B.notSynchronized
  subst hsz
  have hD := hD0.self (sz := s.heap.size)
  generalize hAe : va_A (wH cD k0 k1 (N 0 0) rf) s.heap.size = A at hD ⊢
  have hA : ∀ q : Nat, s.heap.size ≤ q → A q := fun q h => by rw [← hAe]; exact Or.inr h
  have hS : va_S A s.heap s.heap [] := va_S.rf
  have hl := lv_entry ([.ref k0, .int 3]) (n := 2) (Nat.le_of_ble_eq_true rfl)
  rw [lg_entry_eq]
  generalize (lg_sl ([.ref k0, .int 3]) ++ List.replicate (2 - (lg_sl ([.ref k0, .int 3])).length) Slot.unset).toArray = ls at hl ⊢
  have hl : lv_has ls 2 [(0, .ref k0), (1, .int 3)] := hl
  have hinX2 : ∀ w ∈ wsX20, w ∈ wsX2_state := by decide +kernel
  have hL11 := hts (.fieldLink RX2 11 "CraneGates$History" "states" "[LCraneGates$Dam;") (by decide +kernel)
  refine lv_iload_n hx hb dX2_state_0 rfl (lv_at hl 1 rfl) ?_
  refine lv_if_lt (tgt := 22) hx hb dX2_state_1 (by decide) (fun c => absurd c (by decide)) (fun _ => ?_)
  refine lv_iload_n hx hb dX2_state_4 rfl (lv_at hl 1 rfl) ?_
  refine lv_aload_n hx hb dX2_state_5 rfl (lv_at hl 0 rfl) ?_
  refine va_get (D := G) (ci := 2) (v := .ref k1) (C := RX2) (T := TX2) (N := 2) hx hb hts hinX2 hown hK hP 0 rfl rfl 0 (by decide) hL11 (fun _ h9 => h9) rfl dX2_state_6 ?_
  refine va_alen hx hb hK hP 1 2 rfl rfl (v := 5) rfl dX2_state_9 ?_
  refine lv_icmp_ge (tgt := 22) hx hb dX2_state_10 (by decide) (fun c => absurd c (by decide)) (fun _ => ?_)
  refine lv_aload_n hx hb dX2_state_13 rfl (lv_at hl 0 rfl) ?_
  refine va_get (D := G) (ci := 2) (v := .ref k1) (C := RX2) (T := TX2) (N := 2) hx hb hts hinX2 hown hK hP 0 rfl rfl 0 (by decide) hL11 (fun _ h9 => h9) rfl dX2_state_14 ?_
  refine lv_iload_n hx hb dX2_state_17 rfl (lv_at hl 1 rfl) ?_
  refine k_rld (j := 3) (v := a) hx hb hK hP 1 2 rfl rfl (show ¬ ((3 : Int32) < 0 ∨ 5 ≤ (3 : Int32).toNatClampNeg) by decide) rfl ha dX2_state_18 ?_
  refine lv_goto (tgt := 23) hx hb dX2_state_19 (by decide) ?_
  exact W.aret (v := .ref a) hx hb hr (Or.inl ⟨_, rfl⟩) (Or.inr ⟨a, rfl⟩) (fun t ht hW => ⟨⟨(), a, rfl, trivial, rfl, by rw [ht]; exact hP, hD⟩, hS.F ht⟩) hS.2.2 dX2_state_23
set_option maxHeartbeats 4000000 in
set_option maxRecDepth 100000 in
theorem c_X2_state_4 (l : Launch) (G : va_G) (cI cC cD : ClassId) (k0 k1 : Nat) (rf : Nat → Option Nat) (a : Nat) (ha : rf 4 = some a) (sz : Nat) (N : St) : Met l yX2_state wsX2_state ({ frames := 0, cells := 0, slots := 0, locals := 0 }) (va_Pc [.ref k0, .int 4] (PW G (ty3 cI cC cD) (wH cD k0 k1 (N 0 0) rf) sz)) (va_Qr (fun _ : Unit => True) (fun _ ra t => ra = a ∧ va_P G vwCl (wH cD k0 k1 (N 0 0) rf) t.heap ∧ va_D (va_A (wH cD k0 k1 (N 0 0) rf) sz) (wH cD k0 k1 (N 0 0) rf)) (va_A (wH cD k0 k1 (N 0 0) rf) sz)) 0 0 (va_A (wH cD k0 k1 (N 0 0) rf) sz) := by
  refine Met.ofW (cc := cX2_state) (maxL := 2) (ret := (some (.object "CraneGates$Dam"))) (by decide) rfl ?_
  intro p e s m args below meth c s₁ B hml hv
  obtain ⟨rfl, hsz, hP, hK, hD0, hN⟩ := hv
  have hx := B.exec
  have hb := B.bytes
  have hr := B.returns
  have hts := atoms_spec (ws := wsX2_state) B.pre
  have hown : s.vm.findClass RX2 = some m.cls := findClass_of_methodNamed B.named
  have hlocks := B.notSynchronized
  subst hsz
  have hD := hD0.self (sz := s.heap.size)
  generalize hAe : va_A (wH cD k0 k1 (N 0 0) rf) s.heap.size = A at hD ⊢
  have hA : ∀ q : Nat, s.heap.size ≤ q → A q := fun q h => by rw [← hAe]; exact Or.inr h
  have hS : va_S A s.heap s.heap [] := va_S.rf
  have hl := lv_entry ([.ref k0, .int 4]) (n := 2) (Nat.le_of_ble_eq_true rfl)
  rw [lg_entry_eq]
  generalize (lg_sl ([.ref k0, .int 4]) ++ List.replicate (2 - (lg_sl ([.ref k0, .int 4])).length) Slot.unset).toArray = ls at hl ⊢
  have hl : lv_has ls 2 [(0, .ref k0), (1, .int 4)] := hl
  have hinX2 : ∀ w ∈ wsX20, w ∈ wsX2_state := by decide +kernel
  have hL11 := hts (.fieldLink RX2 11 "CraneGates$History" "states" "[LCraneGates$Dam;") (by decide +kernel)
  refine lv_iload_n hx hb dX2_state_0 rfl (lv_at hl 1 rfl) ?_
  refine lv_if_lt (tgt := 22) hx hb dX2_state_1 (by decide) (fun c => absurd c (by decide)) (fun _ => ?_)
  refine lv_iload_n hx hb dX2_state_4 rfl (lv_at hl 1 rfl) ?_
  refine lv_aload_n hx hb dX2_state_5 rfl (lv_at hl 0 rfl) ?_
  refine va_get (D := G) (ci := 2) (v := .ref k1) (C := RX2) (T := TX2) (N := 2) hx hb hts hinX2 hown hK hP 0 rfl rfl 0 (by decide) hL11 (fun _ h9 => h9) rfl dX2_state_6 ?_
  refine va_alen hx hb hK hP 1 2 rfl rfl (v := 5) rfl dX2_state_9 ?_
  refine lv_icmp_ge (tgt := 22) hx hb dX2_state_10 (by decide) (fun c => absurd c (by decide)) (fun _ => ?_)
  refine lv_aload_n hx hb dX2_state_13 rfl (lv_at hl 0 rfl) ?_
  refine va_get (D := G) (ci := 2) (v := .ref k1) (C := RX2) (T := TX2) (N := 2) hx hb hts hinX2 hown hK hP 0 rfl rfl 0 (by decide) hL11 (fun _ h9 => h9) rfl dX2_state_14 ?_
  refine lv_iload_n hx hb dX2_state_17 rfl (lv_at hl 1 rfl) ?_
  refine k_rld (j := 4) (v := a) hx hb hK hP 1 2 rfl rfl (show ¬ ((4 : Int32) < 0 ∨ 5 ≤ (4 : Int32).toNatClampNeg) by decide) rfl ha dX2_state_18 ?_
  refine lv_goto (tgt := 23) hx hb dX2_state_19 (by decide) ?_
  exact W.aret (v := .ref a) hx hb hr (Or.inl ⟨_, rfl⟩) (Or.inr ⟨a, rfl⟩) (fun t ht hW => ⟨⟨(), a, rfl, trivial, rfl, by rw [ht]; exact hP, hD⟩, hS.F ht⟩) hS.2.2 dX2_state_23
def q_X2_prepare (X : Nat → St) (Q : (Nat → St) → Prop) : Prop :=
  (X 8 0 0 = 0 ∧ q_X0_copyFrom (X 3) (X 1) (fun u => Q (uX X 3 u))) ∨ (X 8 0 0 = 1 ∧ q_X0_copyFrom (X 4) (X 1) (fun u => Q (uX X 4 u))) ∨ (X 8 0 0 = 2 ∧ q_X0_copyFrom (X 5) (X 1) (fun u => Q (uX X 5 u))) ∨ (X 8 0 0 = 3 ∧ q_X0_copyFrom (X 6) (X 1) (fun u => Q (uX X 6 u))) ∨ (X 8 0 0 = 4 ∧ q_X0_copyFrom (X 7) (X 1) (fun u => Q (uX X 7 u)))
set_option maxHeartbeats 4000000 in
set_option maxRecDepth 100000 in
theorem c_X2_prepare (l : Launch) (G : va_G) (cI cC cD : ClassId) (ad : Nat → Nat → Nat) (rf : Nat → Option Nat) (hrf : rfOk ad rf) (sz : Nat) (X : Nat → St) (Q : (Nat → St) → Prop) (h : q_X2_prepare X Q) : Met l yX2_prepare wsX2_prepare ({ frames := 3, cells := 0, slots := 0, locals := 82 }) (va_Pc [.ref (ad 0 1), .ref (ad 1 0)] (PW G (ty3 cI cC cD) (wA cI cC cD ad X rf) sz)) (va_Qv Q (BW G (fun u : Nat → St => (wA cI cC cD ad u rf)) (va_A (wA cI cC cD ad X rf) sz)) (va_A (wA cI cC cD ad X rf) sz)) 0 0 (va_A (wA cI cC cD ad X rf) sz) := by
  refine Met.ofW (cc := cX2_prepare) (maxL := 3) (ret := none) (by decide) rfl ?_
  intro p e s m args below meth c s₁ B hml hv
  obtain ⟨rfl, hsz, hP, hK, hD0, hN⟩ := hv
  have hx := B.exec
  have hb := B.bytes
  have hr := B.returns
  have hts := atoms_spec (ws := wsX2_prepare) B.pre
  have hown : s.vm.findClass RX2 = some m.cls := findClass_of_methodNamed B.named
  have hlocks := B.notSynchronized
  subst hsz
  have hD := hD0.self (sz := s.heap.size)
  generalize hAe : va_A (wA cI cC cD ad X rf) s.heap.size = A at hD ⊢
  have hA : ∀ q : Nat, s.heap.size ≤ q → A q := fun q h => by rw [← hAe]; exact Or.inr h
  have hS : va_S A s.heap s.heap [] := va_S.rf
  have hl := lv_entry ([.ref (ad 0 1), .ref (ad 1 0)]) (n := 3) (Nat.le_of_ble_eq_true rfl)
  rw [lg_entry_eq]
  generalize (lg_sl ([.ref (ad 0 1), .ref (ad 1 0)]) ++ List.replicate (3 - (lg_sl ([.ref (ad 0 1), .ref (ad 1 0)])).length) Slot.unset).toArray = ls at hl ⊢
  have hl : lv_has ls 3 [(0, .ref (ad 0 1)), (1, .ref (ad 1 0))] := hl
  have hinX2 : ∀ w ∈ wsX20, w ∈ wsX2_prepare := by decide +kernel
  have hL18 := hts (.fieldLink RX2 18 "CraneGates$History" "size" "I") (by decide +kernel)
  unfold q_X2_prepare at h
  rcases h with ⟨hn, h⟩ | ⟨hn, h⟩ | ⟨hn, h⟩ | ⟨hn, h⟩ | ⟨hn, h⟩
  · refine lv_aload_n hx hb dX2_prepare_0 rfl (lv_at hl 0 rfl) ?_
    refine lv_aload_n hx hb dX2_prepare_1 rfl (lv_at hl 0 rfl) ?_
    refine va_get (D := G) (ci := 2) (v := .int 0) (C := RX2) (T := TX2) (N := 2) hx hb hts hinX2 hown hK hP 1 rfl rfl 1 (by decide) hL18 (fun _ h9 => h9) (by show some (Value.int (X 8 0 0)) = _; rw [hn]) dX2_prepare_2 ?_
    refine kc_r (a := ad 3 0) (As := [.int 0]) (rest := []) ⟨hx, hb, hml, hown, hts⟩ (c_X2_state_0 l G cI cC cD (ad 0 1) (ad 0 2) rf (ad 3 0) (hrf 0 (by decide)) _ (X 8)) (cwV 1 hts gX2_prepare_X2_state rfl rfl rfl (by decide +kernel) ⟨Nat.le_of_ble_eq_true rfl, Nat.le_of_ble_eq_true rfl⟩) hK hN hP hD hS hA (em_A_H cI cC cD ad X rf) rfl rfl rfl rfl hl.1 rfl (Nat.le_of_ble_eq_true rfl) dX2_prepare_5 ⟨Nat.zero_le _, Nat.zero_le _⟩ (fun H locs hP hD hS => ?_)
    refine lv_astore_n (lv' := [(2, .ref (ad 3 0)), (0, .ref (ad 0 1)), (1, .ref (ad 1 0))]) hx hb dX2_prepare_8 rfl hl (by decide) rfl (fun ls hl => ?_)
    refine lv_aload_n hx hb dX2_prepare_9 rfl (lv_at hl 0 rfl) ?_
    refine lv_ifnull hx hb dX2_prepare_10 ?_
    refine lv_aload_n hx hb dX2_prepare_13 rfl (lv_at hl 0 rfl) ?_
    refine lv_aload_n hx hb dX2_prepare_14 rfl (lv_at hl 2 rfl) ?_
    refine kc_v (As := [.ref (ad 1 0)]) (rest := []) (wg := (fun u => (wA cI cC cD ad (uX X 3 u) rf))) ⟨hx, hb, hml, hown, hts⟩ (c_X0_copyFrom l G cI cC cD (ad 3) (ad 1) _ (X 3) (X 1) _ h) (cwV 1 hts gX2_prepare_X0_copyFrom rfl rfl rfl (by decide +kernel) ⟨Nat.le_of_ble_eq_true rfl, Nat.le_of_ble_eq_true rfl⟩) hK hN hP hD hS hA (em_A_31 cI cC cD ad X rf) (fun u => rp_A_31 cI cC cD ad X rf u) rfl rfl rfl rfl hl.1 rfl (Nat.le_of_ble_eq_true rfl) dX2_prepare_15 ⟨Nat.zero_le _, Nat.zero_le _⟩ (fun u H locs h hP hD hS => ?_)
    exact W.vret hx hb hr (fun t ht hW => ⟨⟨(uX X 3 u), rfl, h, by rw [ht]; exact hP, hD⟩, hS.F ht⟩) hS.2.2 dX2_prepare_18
  · refine lv_aload_n hx hb dX2_prepare_0 rfl (lv_at hl 0 rfl) ?_
    refine lv_aload_n hx hb dX2_prepare_1 rfl (lv_at hl 0 rfl) ?_
    refine va_get (D := G) (ci := 2) (v := .int 1) (C := RX2) (T := TX2) (N := 2) hx hb hts hinX2 hown hK hP 1 rfl rfl 1 (by decide) hL18 (fun _ h9 => h9) (by show some (Value.int (X 8 0 0)) = _; rw [hn]) dX2_prepare_2 ?_
    refine kc_r (a := ad 4 0) (As := [.int 1]) (rest := []) ⟨hx, hb, hml, hown, hts⟩ (c_X2_state_1 l G cI cC cD (ad 0 1) (ad 0 2) rf (ad 4 0) (hrf 1 (by decide)) _ (X 8)) (cwV 1 hts gX2_prepare_X2_state rfl rfl rfl (by decide +kernel) ⟨Nat.le_of_ble_eq_true rfl, Nat.le_of_ble_eq_true rfl⟩) hK hN hP hD hS hA (em_A_H cI cC cD ad X rf) rfl rfl rfl rfl hl.1 rfl (Nat.le_of_ble_eq_true rfl) dX2_prepare_5 ⟨Nat.zero_le _, Nat.zero_le _⟩ (fun H locs hP hD hS => ?_)
    refine lv_astore_n (lv' := [(2, .ref (ad 4 0)), (0, .ref (ad 0 1)), (1, .ref (ad 1 0))]) hx hb dX2_prepare_8 rfl hl (by decide) rfl (fun ls hl => ?_)
    refine lv_aload_n hx hb dX2_prepare_9 rfl (lv_at hl 0 rfl) ?_
    refine lv_ifnull hx hb dX2_prepare_10 ?_
    refine lv_aload_n hx hb dX2_prepare_13 rfl (lv_at hl 0 rfl) ?_
    refine lv_aload_n hx hb dX2_prepare_14 rfl (lv_at hl 2 rfl) ?_
    refine kc_v (As := [.ref (ad 1 0)]) (rest := []) (wg := (fun u => (wA cI cC cD ad (uX X 4 u) rf))) ⟨hx, hb, hml, hown, hts⟩ (c_X0_copyFrom l G cI cC cD (ad 4) (ad 1) _ (X 4) (X 1) _ h) (cwV 1 hts gX2_prepare_X0_copyFrom rfl rfl rfl (by decide +kernel) ⟨Nat.le_of_ble_eq_true rfl, Nat.le_of_ble_eq_true rfl⟩) hK hN hP hD hS hA (em_A_41 cI cC cD ad X rf) (fun u => rp_A_41 cI cC cD ad X rf u) rfl rfl rfl rfl hl.1 rfl (Nat.le_of_ble_eq_true rfl) dX2_prepare_15 ⟨Nat.zero_le _, Nat.zero_le _⟩ (fun u H locs h hP hD hS => ?_)
    exact W.vret hx hb hr (fun t ht hW => ⟨⟨(uX X 4 u), rfl, h, by rw [ht]; exact hP, hD⟩, hS.F ht⟩) hS.2.2 dX2_prepare_18
  · refine lv_aload_n hx hb dX2_prepare_0 rfl (lv_at hl 0 rfl) ?_
    refine lv_aload_n hx hb dX2_prepare_1 rfl (lv_at hl 0 rfl) ?_
    refine va_get (D := G) (ci := 2) (v := .int 2) (C := RX2) (T := TX2) (N := 2) hx hb hts hinX2 hown hK hP 1 rfl rfl 1 (by decide) hL18 (fun _ h9 => h9) (by show some (Value.int (X 8 0 0)) = _; rw [hn]) dX2_prepare_2 ?_
    refine kc_r (a := ad 5 0) (As := [.int 2]) (rest := []) ⟨hx, hb, hml, hown, hts⟩ (c_X2_state_2 l G cI cC cD (ad 0 1) (ad 0 2) rf (ad 5 0) (hrf 2 (by decide)) _ (X 8)) (cwV 1 hts gX2_prepare_X2_state rfl rfl rfl (by decide +kernel) ⟨Nat.le_of_ble_eq_true rfl, Nat.le_of_ble_eq_true rfl⟩) hK hN hP hD hS hA (em_A_H cI cC cD ad X rf) rfl rfl rfl rfl hl.1 rfl (Nat.le_of_ble_eq_true rfl) dX2_prepare_5 ⟨Nat.zero_le _, Nat.zero_le _⟩ (fun H locs hP hD hS => ?_)
    refine lv_astore_n (lv' := [(2, .ref (ad 5 0)), (0, .ref (ad 0 1)), (1, .ref (ad 1 0))]) hx hb dX2_prepare_8 rfl hl (by decide) rfl (fun ls hl => ?_)
    refine lv_aload_n hx hb dX2_prepare_9 rfl (lv_at hl 0 rfl) ?_
    refine lv_ifnull hx hb dX2_prepare_10 ?_
    refine lv_aload_n hx hb dX2_prepare_13 rfl (lv_at hl 0 rfl) ?_
    refine lv_aload_n hx hb dX2_prepare_14 rfl (lv_at hl 2 rfl) ?_
    refine kc_v (As := [.ref (ad 1 0)]) (rest := []) (wg := (fun u => (wA cI cC cD ad (uX X 5 u) rf))) ⟨hx, hb, hml, hown, hts⟩ (c_X0_copyFrom l G cI cC cD (ad 5) (ad 1) _ (X 5) (X 1) _ h) (cwV 1 hts gX2_prepare_X0_copyFrom rfl rfl rfl (by decide +kernel) ⟨Nat.le_of_ble_eq_true rfl, Nat.le_of_ble_eq_true rfl⟩) hK hN hP hD hS hA (em_A_51 cI cC cD ad X rf) (fun u => rp_A_51 cI cC cD ad X rf u) rfl rfl rfl rfl hl.1 rfl (Nat.le_of_ble_eq_true rfl) dX2_prepare_15 ⟨Nat.zero_le _, Nat.zero_le _⟩ (fun u H locs h hP hD hS => ?_)
    exact W.vret hx hb hr (fun t ht hW => ⟨⟨(uX X 5 u), rfl, h, by rw [ht]; exact hP, hD⟩, hS.F ht⟩) hS.2.2 dX2_prepare_18
  · refine lv_aload_n hx hb dX2_prepare_0 rfl (lv_at hl 0 rfl) ?_
    refine lv_aload_n hx hb dX2_prepare_1 rfl (lv_at hl 0 rfl) ?_
    refine va_get (D := G) (ci := 2) (v := .int 3) (C := RX2) (T := TX2) (N := 2) hx hb hts hinX2 hown hK hP 1 rfl rfl 1 (by decide) hL18 (fun _ h9 => h9) (by show some (Value.int (X 8 0 0)) = _; rw [hn]) dX2_prepare_2 ?_
    refine kc_r (a := ad 6 0) (As := [.int 3]) (rest := []) ⟨hx, hb, hml, hown, hts⟩ (c_X2_state_3 l G cI cC cD (ad 0 1) (ad 0 2) rf (ad 6 0) (hrf 3 (by decide)) _ (X 8)) (cwV 1 hts gX2_prepare_X2_state rfl rfl rfl (by decide +kernel) ⟨Nat.le_of_ble_eq_true rfl, Nat.le_of_ble_eq_true rfl⟩) hK hN hP hD hS hA (em_A_H cI cC cD ad X rf) rfl rfl rfl rfl hl.1 rfl (Nat.le_of_ble_eq_true rfl) dX2_prepare_5 ⟨Nat.zero_le _, Nat.zero_le _⟩ (fun H locs hP hD hS => ?_)
    refine lv_astore_n (lv' := [(2, .ref (ad 6 0)), (0, .ref (ad 0 1)), (1, .ref (ad 1 0))]) hx hb dX2_prepare_8 rfl hl (by decide) rfl (fun ls hl => ?_)
    refine lv_aload_n hx hb dX2_prepare_9 rfl (lv_at hl 0 rfl) ?_
    refine lv_ifnull hx hb dX2_prepare_10 ?_
    refine lv_aload_n hx hb dX2_prepare_13 rfl (lv_at hl 0 rfl) ?_
    refine lv_aload_n hx hb dX2_prepare_14 rfl (lv_at hl 2 rfl) ?_
    refine kc_v (As := [.ref (ad 1 0)]) (rest := []) (wg := (fun u => (wA cI cC cD ad (uX X 6 u) rf))) ⟨hx, hb, hml, hown, hts⟩ (c_X0_copyFrom l G cI cC cD (ad 6) (ad 1) _ (X 6) (X 1) _ h) (cwV 1 hts gX2_prepare_X0_copyFrom rfl rfl rfl (by decide +kernel) ⟨Nat.le_of_ble_eq_true rfl, Nat.le_of_ble_eq_true rfl⟩) hK hN hP hD hS hA (em_A_61 cI cC cD ad X rf) (fun u => rp_A_61 cI cC cD ad X rf u) rfl rfl rfl rfl hl.1 rfl (Nat.le_of_ble_eq_true rfl) dX2_prepare_15 ⟨Nat.zero_le _, Nat.zero_le _⟩ (fun u H locs h hP hD hS => ?_)
    exact W.vret hx hb hr (fun t ht hW => ⟨⟨(uX X 6 u), rfl, h, by rw [ht]; exact hP, hD⟩, hS.F ht⟩) hS.2.2 dX2_prepare_18
  · refine lv_aload_n hx hb dX2_prepare_0 rfl (lv_at hl 0 rfl) ?_
    refine lv_aload_n hx hb dX2_prepare_1 rfl (lv_at hl 0 rfl) ?_
    refine va_get (D := G) (ci := 2) (v := .int 4) (C := RX2) (T := TX2) (N := 2) hx hb hts hinX2 hown hK hP 1 rfl rfl 1 (by decide) hL18 (fun _ h9 => h9) (by show some (Value.int (X 8 0 0)) = _; rw [hn]) dX2_prepare_2 ?_
    refine kc_r (a := ad 7 0) (As := [.int 4]) (rest := []) ⟨hx, hb, hml, hown, hts⟩ (c_X2_state_4 l G cI cC cD (ad 0 1) (ad 0 2) rf (ad 7 0) (hrf 4 (by decide)) _ (X 8)) (cwV 1 hts gX2_prepare_X2_state rfl rfl rfl (by decide +kernel) ⟨Nat.le_of_ble_eq_true rfl, Nat.le_of_ble_eq_true rfl⟩) hK hN hP hD hS hA (em_A_H cI cC cD ad X rf) rfl rfl rfl rfl hl.1 rfl (Nat.le_of_ble_eq_true rfl) dX2_prepare_5 ⟨Nat.zero_le _, Nat.zero_le _⟩ (fun H locs hP hD hS => ?_)
    refine lv_astore_n (lv' := [(2, .ref (ad 7 0)), (0, .ref (ad 0 1)), (1, .ref (ad 1 0))]) hx hb dX2_prepare_8 rfl hl (by decide) rfl (fun ls hl => ?_)
    refine lv_aload_n hx hb dX2_prepare_9 rfl (lv_at hl 0 rfl) ?_
    refine lv_ifnull hx hb dX2_prepare_10 ?_
    refine lv_aload_n hx hb dX2_prepare_13 rfl (lv_at hl 0 rfl) ?_
    refine lv_aload_n hx hb dX2_prepare_14 rfl (lv_at hl 2 rfl) ?_
    refine kc_v (As := [.ref (ad 1 0)]) (rest := []) (wg := (fun u => (wA cI cC cD ad (uX X 7 u) rf))) ⟨hx, hb, hml, hown, hts⟩ (c_X0_copyFrom l G cI cC cD (ad 7) (ad 1) _ (X 7) (X 1) _ h) (cwV 1 hts gX2_prepare_X0_copyFrom rfl rfl rfl (by decide +kernel) ⟨Nat.le_of_ble_eq_true rfl, Nat.le_of_ble_eq_true rfl⟩) hK hN hP hD hS hA (em_A_71 cI cC cD ad X rf) (fun u => rp_A_71 cI cC cD ad X rf u) rfl rfl rfl rfl hl.1 rfl (Nat.le_of_ble_eq_true rfl) dX2_prepare_15 ⟨Nat.zero_le _, Nat.zero_le _⟩ (fun u H locs h hP hD hS => ?_)
    exact W.vret hx hb hr (fun t ht hW => ⟨⟨(uX X 7 u), rfl, h, by rw [ht]; exact hP, hD⟩, hS.F ht⟩) hS.2.2 dX2_prepare_18
def q_X2_restore (X : Nat → St) (Q : (Nat → St) → Prop) : Prop :=
  (X 8 0 0 = 1 ∧ q_X0_copyFrom (X 1) (X 3) (fun u => Q (uX (uX X 1 u) 8 (uA (X 8) 0 (fun _ => 0))))) ∨ (X 8 0 0 = 2 ∧ q_X0_copyFrom (X 1) (X 4) (fun u => Q (uX (uX X 1 u) 8 (uA (X 8) 0 (fun _ => 1))))) ∨ (X 8 0 0 = 3 ∧ q_X0_copyFrom (X 1) (X 5) (fun u => Q (uX (uX X 1 u) 8 (uA (X 8) 0 (fun _ => 2))))) ∨ (X 8 0 0 = 4 ∧ q_X0_copyFrom (X 1) (X 6) (fun u => Q (uX (uX X 1 u) 8 (uA (X 8) 0 (fun _ => 3)))))
set_option maxHeartbeats 4000000 in
set_option maxRecDepth 100000 in
theorem c_X2_restore (l : Launch) (G : va_G) (cI cC cD : ClassId) (ad : Nat → Nat → Nat) (rf : Nat → Option Nat) (hrf : rfOk ad rf) (sz : Nat) (X : Nat → St) (Q : (Nat → St) → Prop) (h : q_X2_restore X Q) : Met l yX2_restore wsX2_restore ({ frames := 3, cells := 0, slots := 0, locals := 82 }) (va_Pc [.ref (ad 0 1), .ref (ad 1 0)] (PW G (ty3 cI cC cD) (wA cI cC cD ad X rf) sz)) (va_Qv Q (BW G (fun u : Nat → St => (wA cI cC cD ad u rf)) (va_A (wA cI cC cD ad X rf) sz)) (va_A (wA cI cC cD ad X rf) sz)) 0 0 (va_A (wA cI cC cD ad X rf) sz) := by
  refine Met.ofW (cc := cX2_restore) (maxL := 3) (ret := none) (by decide) rfl ?_
  intro p e s m args below meth c s₁ B hml hv
  obtain ⟨rfl, hsz, hP, hK, hD0, hN⟩ := hv
  have hx := B.exec
  have hb := B.bytes
  have hr := B.returns
  have hts := atoms_spec (ws := wsX2_restore) B.pre
  have hown : s.vm.findClass RX2 = some m.cls := findClass_of_methodNamed B.named
  have hlocks := B.notSynchronized
  subst hsz
  have hD := hD0.self (sz := s.heap.size)
  generalize hAe : va_A (wA cI cC cD ad X rf) s.heap.size = A at hD ⊢
  have hA : ∀ q : Nat, s.heap.size ≤ q → A q := fun q h => by rw [← hAe]; exact Or.inr h
  have hS : va_S A s.heap s.heap [] := va_S.rf
  have hl := lv_entry ([.ref (ad 0 1), .ref (ad 1 0)]) (n := 3) (Nat.le_of_ble_eq_true rfl)
  rw [lg_entry_eq]
  generalize (lg_sl ([.ref (ad 0 1), .ref (ad 1 0)]) ++ List.replicate (3 - (lg_sl ([.ref (ad 0 1), .ref (ad 1 0)])).length) Slot.unset).toArray = ls at hl ⊢
  have hl : lv_has ls 3 [(0, .ref (ad 0 1)), (1, .ref (ad 1 0))] := hl
  have hinX2 : ∀ w ∈ wsX20, w ∈ wsX2_restore := by decide +kernel
  have hL18 := hts (.fieldLink RX2 18 "CraneGates$History" "size" "I") (by decide +kernel)
  unfold q_X2_restore at h
  rcases h with ⟨hn, h⟩ | ⟨hn, h⟩ | ⟨hn, h⟩ | ⟨hn, h⟩
  · refine lv_aload_n hx hb dX2_restore_0 rfl (lv_at hl 0 rfl) ?_
    refine lv_aload_n hx hb dX2_restore_1 rfl (lv_at hl 0 rfl) ?_
    refine va_get (D := G) (ci := 2) (v := .int 1) (C := RX2) (T := TX2) (N := 2) hx hb hts hinX2 hown hK hP 1 rfl rfl 1 (by decide) hL18 (fun _ h9 => h9) (by show some (Value.int (X 8 0 0)) = _; rw [hn]) dX2_restore_2 ?_
    refine lv_iconst (v := 1) hx hb dX2_restore_5 (by decide) ?_
    refine lv_isub hx hb dX2_restore_6 ?_
    refine kc_r (a := ad 3 0) (As := [.int 0]) (rest := []) ⟨hx, hb, hml, hown, hts⟩ (c_X2_state_0 l G cI cC cD (ad 0 1) (ad 0 2) rf (ad 3 0) (hrf 0 (by decide)) _ (X 8)) (cwV 1 hts gX2_restore_X2_state rfl rfl rfl (by decide +kernel) ⟨Nat.le_of_ble_eq_true rfl, Nat.le_of_ble_eq_true rfl⟩) hK hN hP hD hS hA (em_A_H cI cC cD ad X rf) rfl rfl rfl rfl hl.1 rfl (Nat.le_of_ble_eq_true rfl) dX2_restore_7 ⟨Nat.zero_le _, Nat.zero_le _⟩ (fun H locs hP hD hS => ?_)
    refine lv_astore_n (lv' := [(2, .ref (ad 3 0)), (0, .ref (ad 0 1)), (1, .ref (ad 1 0))]) hx hb dX2_restore_10 rfl hl (by decide) rfl (fun ls hl => ?_)
    refine lv_aload_n hx hb dX2_restore_11 rfl (lv_at hl 0 rfl) ?_
    refine lv_ifnull hx hb dX2_restore_12 ?_
    refine lv_aload_n hx hb dX2_restore_15 rfl (lv_at hl 2 rfl) ?_
    refine lv_aload_n hx hb dX2_restore_16 rfl (lv_at hl 0 rfl) ?_
    refine kc_v (As := [.ref (ad 3 0)]) (rest := []) (wg := (fun u => (wA cI cC cD ad (uX X 1 u) rf))) ⟨hx, hb, hml, hown, hts⟩ (c_X0_copyFrom l G cI cC cD (ad 1) (ad 3) _ (X 1) (X 3) _ h) (cwV 1 hts gX2_restore_X0_copyFrom rfl rfl rfl (by decide +kernel) ⟨Nat.le_of_ble_eq_true rfl, Nat.le_of_ble_eq_true rfl⟩) hK hN hP hD hS hA (em_A_13 cI cC cD ad X rf) (fun u => rp_A_13 cI cC cD ad X rf u) rfl rfl rfl rfl hl.1 rfl (Nat.le_of_ble_eq_true rfl) dX2_restore_17 ⟨Nat.zero_le _, Nat.zero_le _⟩ (fun u H locs h hP hD hS => ?_)
    refine lv_aload_n hx hb dX2_restore_20 rfl (lv_at hl 1 rfl) ?_
    refine lv_dup hx hb dX2_restore_21 rfl ?_
    refine va_get (D := G) (ci := 2) (v := .int 1) (C := RX2) (T := TX2) (N := 2) hx hb hts hinX2 hown hK hP 1 rfl rfl 1 (by decide) hL18 (fun _ h9 => h9) (by show some (Value.int (X 8 0 0)) = _; rw [hn]) dX2_restore_22 ?_
    refine lv_iconst (v := 1) hx hb dX2_restore_25 (by decide) ?_
    refine lv_isub hx hb dX2_restore_26 ?_
    refine va_put (D := G) (ci := 2) (v := .int 0) (ty := .int) (C := RX2) (T := TX2) (N := 2) hx hb hts hinX2 tyX2 tyX2_ok nmX2 hown hK hP hD hS 1 rfl rfl 1 (by decide) hL18 (fun _ h9 => h9) rfl (by decide +kernel) rfl rfl (Nat.le_of_ble_eq_true rfl) dX2_restore_27 (fun H locs hP hD hS => ?_)
    have hP : va_P G vwCl (wA cI cC cD ad (uX (uX X 1 u) 8 (uA (X 8) 0 (fun _ => 0))) rf) H := hP
    have hD : va_D A (wA cI cC cD ad (uX (uX X 1 u) 8 (uA (X 8) 0 (fun _ => 0))) rf) := hD
    exact W.vret hx hb hr (fun t ht hW => ⟨⟨(uX (uX X 1 u) 8 (uA (X 8) 0 (fun _ => 0))), rfl, h, by rw [ht]; exact hP, hD⟩, hS.F ht⟩) hS.2.2 dX2_restore_30
  · refine lv_aload_n hx hb dX2_restore_0 rfl (lv_at hl 0 rfl) ?_
    refine lv_aload_n hx hb dX2_restore_1 rfl (lv_at hl 0 rfl) ?_
    refine va_get (D := G) (ci := 2) (v := .int 2) (C := RX2) (T := TX2) (N := 2) hx hb hts hinX2 hown hK hP 1 rfl rfl 1 (by decide) hL18 (fun _ h9 => h9) (by show some (Value.int (X 8 0 0)) = _; rw [hn]) dX2_restore_2 ?_
    refine lv_iconst (v := 1) hx hb dX2_restore_5 (by decide) ?_
    refine lv_isub hx hb dX2_restore_6 ?_
    refine kc_r (a := ad 4 0) (As := [.int 1]) (rest := []) ⟨hx, hb, hml, hown, hts⟩ (c_X2_state_1 l G cI cC cD (ad 0 1) (ad 0 2) rf (ad 4 0) (hrf 1 (by decide)) _ (X 8)) (cwV 1 hts gX2_restore_X2_state rfl rfl rfl (by decide +kernel) ⟨Nat.le_of_ble_eq_true rfl, Nat.le_of_ble_eq_true rfl⟩) hK hN hP hD hS hA (em_A_H cI cC cD ad X rf) rfl rfl rfl rfl hl.1 rfl (Nat.le_of_ble_eq_true rfl) dX2_restore_7 ⟨Nat.zero_le _, Nat.zero_le _⟩ (fun H locs hP hD hS => ?_)
    refine lv_astore_n (lv' := [(2, .ref (ad 4 0)), (0, .ref (ad 0 1)), (1, .ref (ad 1 0))]) hx hb dX2_restore_10 rfl hl (by decide) rfl (fun ls hl => ?_)
    refine lv_aload_n hx hb dX2_restore_11 rfl (lv_at hl 0 rfl) ?_
    refine lv_ifnull hx hb dX2_restore_12 ?_
    refine lv_aload_n hx hb dX2_restore_15 rfl (lv_at hl 2 rfl) ?_
    refine lv_aload_n hx hb dX2_restore_16 rfl (lv_at hl 0 rfl) ?_
    refine kc_v (As := [.ref (ad 4 0)]) (rest := []) (wg := (fun u => (wA cI cC cD ad (uX X 1 u) rf))) ⟨hx, hb, hml, hown, hts⟩ (c_X0_copyFrom l G cI cC cD (ad 1) (ad 4) _ (X 1) (X 4) _ h) (cwV 1 hts gX2_restore_X0_copyFrom rfl rfl rfl (by decide +kernel) ⟨Nat.le_of_ble_eq_true rfl, Nat.le_of_ble_eq_true rfl⟩) hK hN hP hD hS hA (em_A_14 cI cC cD ad X rf) (fun u => rp_A_14 cI cC cD ad X rf u) rfl rfl rfl rfl hl.1 rfl (Nat.le_of_ble_eq_true rfl) dX2_restore_17 ⟨Nat.zero_le _, Nat.zero_le _⟩ (fun u H locs h hP hD hS => ?_)
    refine lv_aload_n hx hb dX2_restore_20 rfl (lv_at hl 1 rfl) ?_
    refine lv_dup hx hb dX2_restore_21 rfl ?_
    refine va_get (D := G) (ci := 2) (v := .int 2) (C := RX2) (T := TX2) (N := 2) hx hb hts hinX2 hown hK hP 1 rfl rfl 1 (by decide) hL18 (fun _ h9 => h9) (by show some (Value.int (X 8 0 0)) = _; rw [hn]) dX2_restore_22 ?_
    refine lv_iconst (v := 1) hx hb dX2_restore_25 (by decide) ?_
    refine lv_isub hx hb dX2_restore_26 ?_
    refine va_put (D := G) (ci := 2) (v := .int 1) (ty := .int) (C := RX2) (T := TX2) (N := 2) hx hb hts hinX2 tyX2 tyX2_ok nmX2 hown hK hP hD hS 1 rfl rfl 1 (by decide) hL18 (fun _ h9 => h9) rfl (by decide +kernel) rfl rfl (Nat.le_of_ble_eq_true rfl) dX2_restore_27 (fun H locs hP hD hS => ?_)
    have hP : va_P G vwCl (wA cI cC cD ad (uX (uX X 1 u) 8 (uA (X 8) 0 (fun _ => 1))) rf) H := hP
    have hD : va_D A (wA cI cC cD ad (uX (uX X 1 u) 8 (uA (X 8) 0 (fun _ => 1))) rf) := hD
    exact W.vret hx hb hr (fun t ht hW => ⟨⟨(uX (uX X 1 u) 8 (uA (X 8) 0 (fun _ => 1))), rfl, h, by rw [ht]; exact hP, hD⟩, hS.F ht⟩) hS.2.2 dX2_restore_30
  · refine lv_aload_n hx hb dX2_restore_0 rfl (lv_at hl 0 rfl) ?_
    refine lv_aload_n hx hb dX2_restore_1 rfl (lv_at hl 0 rfl) ?_
    refine va_get (D := G) (ci := 2) (v := .int 3) (C := RX2) (T := TX2) (N := 2) hx hb hts hinX2 hown hK hP 1 rfl rfl 1 (by decide) hL18 (fun _ h9 => h9) (by show some (Value.int (X 8 0 0)) = _; rw [hn]) dX2_restore_2 ?_
    refine lv_iconst (v := 1) hx hb dX2_restore_5 (by decide) ?_
    refine lv_isub hx hb dX2_restore_6 ?_
    refine kc_r (a := ad 5 0) (As := [.int 2]) (rest := []) ⟨hx, hb, hml, hown, hts⟩ (c_X2_state_2 l G cI cC cD (ad 0 1) (ad 0 2) rf (ad 5 0) (hrf 2 (by decide)) _ (X 8)) (cwV 1 hts gX2_restore_X2_state rfl rfl rfl (by decide +kernel) ⟨Nat.le_of_ble_eq_true rfl, Nat.le_of_ble_eq_true rfl⟩) hK hN hP hD hS hA (em_A_H cI cC cD ad X rf) rfl rfl rfl rfl hl.1 rfl (Nat.le_of_ble_eq_true rfl) dX2_restore_7 ⟨Nat.zero_le _, Nat.zero_le _⟩ (fun H locs hP hD hS => ?_)
    refine lv_astore_n (lv' := [(2, .ref (ad 5 0)), (0, .ref (ad 0 1)), (1, .ref (ad 1 0))]) hx hb dX2_restore_10 rfl hl (by decide) rfl (fun ls hl => ?_)
    refine lv_aload_n hx hb dX2_restore_11 rfl (lv_at hl 0 rfl) ?_
    refine lv_ifnull hx hb dX2_restore_12 ?_
    refine lv_aload_n hx hb dX2_restore_15 rfl (lv_at hl 2 rfl) ?_
    refine lv_aload_n hx hb dX2_restore_16 rfl (lv_at hl 0 rfl) ?_
    refine kc_v (As := [.ref (ad 5 0)]) (rest := []) (wg := (fun u => (wA cI cC cD ad (uX X 1 u) rf))) ⟨hx, hb, hml, hown, hts⟩ (c_X0_copyFrom l G cI cC cD (ad 1) (ad 5) _ (X 1) (X 5) _ h) (cwV 1 hts gX2_restore_X0_copyFrom rfl rfl rfl (by decide +kernel) ⟨Nat.le_of_ble_eq_true rfl, Nat.le_of_ble_eq_true rfl⟩) hK hN hP hD hS hA (em_A_15 cI cC cD ad X rf) (fun u => rp_A_15 cI cC cD ad X rf u) rfl rfl rfl rfl hl.1 rfl (Nat.le_of_ble_eq_true rfl) dX2_restore_17 ⟨Nat.zero_le _, Nat.zero_le _⟩ (fun u H locs h hP hD hS => ?_)
    refine lv_aload_n hx hb dX2_restore_20 rfl (lv_at hl 1 rfl) ?_
    refine lv_dup hx hb dX2_restore_21 rfl ?_
    refine va_get (D := G) (ci := 2) (v := .int 3) (C := RX2) (T := TX2) (N := 2) hx hb hts hinX2 hown hK hP 1 rfl rfl 1 (by decide) hL18 (fun _ h9 => h9) (by show some (Value.int (X 8 0 0)) = _; rw [hn]) dX2_restore_22 ?_
    refine lv_iconst (v := 1) hx hb dX2_restore_25 (by decide) ?_
    refine lv_isub hx hb dX2_restore_26 ?_
    refine va_put (D := G) (ci := 2) (v := .int 2) (ty := .int) (C := RX2) (T := TX2) (N := 2) hx hb hts hinX2 tyX2 tyX2_ok nmX2 hown hK hP hD hS 1 rfl rfl 1 (by decide) hL18 (fun _ h9 => h9) rfl (by decide +kernel) rfl rfl (Nat.le_of_ble_eq_true rfl) dX2_restore_27 (fun H locs hP hD hS => ?_)
    have hP : va_P G vwCl (wA cI cC cD ad (uX (uX X 1 u) 8 (uA (X 8) 0 (fun _ => 2))) rf) H := hP
    have hD : va_D A (wA cI cC cD ad (uX (uX X 1 u) 8 (uA (X 8) 0 (fun _ => 2))) rf) := hD
    exact W.vret hx hb hr (fun t ht hW => ⟨⟨(uX (uX X 1 u) 8 (uA (X 8) 0 (fun _ => 2))), rfl, h, by rw [ht]; exact hP, hD⟩, hS.F ht⟩) hS.2.2 dX2_restore_30
  · refine lv_aload_n hx hb dX2_restore_0 rfl (lv_at hl 0 rfl) ?_
    refine lv_aload_n hx hb dX2_restore_1 rfl (lv_at hl 0 rfl) ?_
    refine va_get (D := G) (ci := 2) (v := .int 4) (C := RX2) (T := TX2) (N := 2) hx hb hts hinX2 hown hK hP 1 rfl rfl 1 (by decide) hL18 (fun _ h9 => h9) (by show some (Value.int (X 8 0 0)) = _; rw [hn]) dX2_restore_2 ?_
    refine lv_iconst (v := 1) hx hb dX2_restore_5 (by decide) ?_
    refine lv_isub hx hb dX2_restore_6 ?_
    refine kc_r (a := ad 6 0) (As := [.int 3]) (rest := []) ⟨hx, hb, hml, hown, hts⟩ (c_X2_state_3 l G cI cC cD (ad 0 1) (ad 0 2) rf (ad 6 0) (hrf 3 (by decide)) _ (X 8)) (cwV 1 hts gX2_restore_X2_state rfl rfl rfl (by decide +kernel) ⟨Nat.le_of_ble_eq_true rfl, Nat.le_of_ble_eq_true rfl⟩) hK hN hP hD hS hA (em_A_H cI cC cD ad X rf) rfl rfl rfl rfl hl.1 rfl (Nat.le_of_ble_eq_true rfl) dX2_restore_7 ⟨Nat.zero_le _, Nat.zero_le _⟩ (fun H locs hP hD hS => ?_)
    refine lv_astore_n (lv' := [(2, .ref (ad 6 0)), (0, .ref (ad 0 1)), (1, .ref (ad 1 0))]) hx hb dX2_restore_10 rfl hl (by decide) rfl (fun ls hl => ?_)
    refine lv_aload_n hx hb dX2_restore_11 rfl (lv_at hl 0 rfl) ?_
    refine lv_ifnull hx hb dX2_restore_12 ?_
    refine lv_aload_n hx hb dX2_restore_15 rfl (lv_at hl 2 rfl) ?_
    refine lv_aload_n hx hb dX2_restore_16 rfl (lv_at hl 0 rfl) ?_
    refine kc_v (As := [.ref (ad 6 0)]) (rest := []) (wg := (fun u => (wA cI cC cD ad (uX X 1 u) rf))) ⟨hx, hb, hml, hown, hts⟩ (c_X0_copyFrom l G cI cC cD (ad 1) (ad 6) _ (X 1) (X 6) _ h) (cwV 1 hts gX2_restore_X0_copyFrom rfl rfl rfl (by decide +kernel) ⟨Nat.le_of_ble_eq_true rfl, Nat.le_of_ble_eq_true rfl⟩) hK hN hP hD hS hA (em_A_16 cI cC cD ad X rf) (fun u => rp_A_16 cI cC cD ad X rf u) rfl rfl rfl rfl hl.1 rfl (Nat.le_of_ble_eq_true rfl) dX2_restore_17 ⟨Nat.zero_le _, Nat.zero_le _⟩ (fun u H locs h hP hD hS => ?_)
    refine lv_aload_n hx hb dX2_restore_20 rfl (lv_at hl 1 rfl) ?_
    refine lv_dup hx hb dX2_restore_21 rfl ?_
    refine va_get (D := G) (ci := 2) (v := .int 4) (C := RX2) (T := TX2) (N := 2) hx hb hts hinX2 hown hK hP 1 rfl rfl 1 (by decide) hL18 (fun _ h9 => h9) (by show some (Value.int (X 8 0 0)) = _; rw [hn]) dX2_restore_22 ?_
    refine lv_iconst (v := 1) hx hb dX2_restore_25 (by decide) ?_
    refine lv_isub hx hb dX2_restore_26 ?_
    refine va_put (D := G) (ci := 2) (v := .int 3) (ty := .int) (C := RX2) (T := TX2) (N := 2) hx hb hts hinX2 tyX2 tyX2_ok nmX2 hown hK hP hD hS 1 rfl rfl 1 (by decide) hL18 (fun _ h9 => h9) rfl (by decide +kernel) rfl rfl (Nat.le_of_ble_eq_true rfl) dX2_restore_27 (fun H locs hP hD hS => ?_)
    have hP : va_P G vwCl (wA cI cC cD ad (uX (uX X 1 u) 8 (uA (X 8) 0 (fun _ => 3))) rf) H := hP
    have hD : va_D A (wA cI cC cD ad (uX (uX X 1 u) 8 (uA (X 8) 0 (fun _ => 3))) rf) := hD
    exact W.vret hx hb hr (fun t ht hW => ⟨⟨(uX (uX X 1 u) 8 (uA (X 8) 0 (fun _ => 3))), rfl, h, by rw [ht]; exact hP, hD⟩, hS.F ht⟩) hS.2.2 dX2_restore_30
def q_X2_keepPrepared (X : Nat → St) (Q : (Nat → St) → Prop) : Prop :=
  (4 ≤ (X 8 0 0) → Q (mvX X)) ∧ (¬ 4 ≤ (X 8 0 0) → Q (uX X 8 (uA (X 8) 0 (fun _ => (X 8 0 0) + 1))))
set_option maxHeartbeats 4000000 in
set_option maxRecDepth 100000 in
theorem c_X2_keepPrepared (l : Launch) (G : va_G) (cI cC cD : ClassId) (ad : Nat → Nat → Nat) (rf : Nat → Option Nat) (hrf : rfOk ad rf) (sz : Nat) (X : Nat → St) (Q : (Nat → St) → Prop) (h : q_X2_keepPrepared X Q) : Met l yX2_keepPrepared wsX2_keepPrepared ({ frames := 0, cells := 0, slots := 0, locals := 0 }) (va_Pc [.ref (ad 0 1)] (PW G (ty3 cI cC cD) (wA cI cC cD ad X rf) sz)) (va_Qv (fun u : (Nat → St) × (Nat → Nat → Nat) × (Nat → Option Nat) => Q u.1 ∧ aOk ad u.2.1 u.2.2) (BW G (fun u : (Nat → St) × (Nat → Nat → Nat) × (Nat → Option Nat) => (wA cI cC cD u.2.1 u.1 u.2.2)) (va_A (wA cI cC cD ad X rf) sz)) (va_A (wA cI cC cD ad X rf) sz)) 0 0 (va_A (wA cI cC cD ad X rf) sz) := by
  refine Met.ofW (cc := cX2_keepPrepared) (maxL := 3) (ret := none) (by decide) rfl ?_
  intro p e s m args below meth c s₁ B hml hv
  obtain ⟨rfl, hsz, hP, hK, hD0, hN⟩ := hv
  have hx := B.exec
  have hb := B.bytes
  have hr := B.returns
  have hts := atoms_spec (ws := wsX2_keepPrepared) B.pre
  have hown : s.vm.findClass RX2 = some m.cls := findClass_of_methodNamed B.named
  have hlocks := B.notSynchronized
  subst hsz
  have hD := hD0.self (sz := s.heap.size)
  generalize hAe : va_A (wA cI cC cD ad X rf) s.heap.size = A at hD ⊢
  have hA : ∀ q : Nat, s.heap.size ≤ q → A q := fun q h => by rw [← hAe]; exact Or.inr h
  have hS : va_S A s.heap s.heap [] := va_S.rf
  have hl := lv_entry ([.ref (ad 0 1)]) (n := 3) (Nat.le_of_ble_eq_true rfl)
  rw [lg_entry_eq]
  generalize (lg_sl ([.ref (ad 0 1)]) ++ List.replicate (3 - (lg_sl ([.ref (ad 0 1)])).length) Slot.unset).toArray = ls at hl ⊢
  have hl : lv_has ls 3 [(0, .ref (ad 0 1))] := hl
  have hinX2 : ∀ w ∈ wsX20, w ∈ wsX2_keepPrepared := by decide +kernel
  have hL18 := hts (.fieldLink RX2 18 "CraneGates$History" "size" "I") (by decide +kernel)
  have hL11 := hts (.fieldLink RX2 11 "CraneGates$History" "states" "[LCraneGates$Dam;") (by decide +kernel)
  unfold q_X2_keepPrepared at h
  refine lv_aload_n hx hb dX2_keepPrepared_0 rfl (lv_at hl 0 rfl) ?_
  refine va_get (D := G) (ci := 2) (v := .int (X 8 0 0)) (C := RX2) (T := TX2) (N := 2) hx hb hts hinX2 hown hK hP 1 rfl rfl 1 (by decide) hL18 (fun _ h9 => h9) rfl dX2_keepPrepared_1 ?_
  refine lv_iconst (v := 4) hx hb dX2_keepPrepared_4 (by decide) ?_
  refine lv_icmp_ge (tgt := 19) hx hb dX2_keepPrepared_5 (by decide) (fun c => ?_) (fun c => ?_)
  · have h := h.1 c
    refine lv_aload_n hx hb dX2_keepPrepared_19 rfl (lv_at hl 0 rfl) ?_
    refine va_get (D := G) (ci := 2) (v := .ref (ad 0 2)) (C := RX2) (T := TX2) (N := 2) hx hb hts hinX2 hown hK hP 1 rfl rfl 0 (by decide) hL11 (fun _ h9 => h9) rfl dX2_keepPrepared_20 ?_
    refine lv_iconst (v := 0) hx hb dX2_keepPrepared_23 (by decide) ?_
    refine k_rld (j := 0) (v := ad 3 0) hx hb hK hP 2 2 rfl rfl (show ¬ ((0 : Int32) < 0 ∨ 5 ≤ (0 : Int32).toNatClampNeg) by decide) rfl (hrf 0 (by decide)) dX2_keepPrepared_24 ?_
    refine lv_astore_n (lv' := [(1, .ref (ad 3 0)), (0, .ref (ad 0 1))]) hx hb dX2_keepPrepared_25 rfl hl (by decide) rfl (fun ls hl => ?_)
    refine lv_iconst (v := 1) hx hb dX2_keepPrepared_26 (by decide) ?_
    refine lv_istore_n (lv' := [(2, .int 1), (1, .ref (ad 3 0)), (0, .ref (ad 0 1))]) hx hb dX2_keepPrepared_27 rfl hl (by decide) rfl (fun ls hl => ?_)
    refine lv_iload_n hx hb dX2_keepPrepared_28 rfl (lv_at hl 0 rfl) ?_
    refine lv_aload_n hx hb dX2_keepPrepared_29 rfl (lv_at hl 2 rfl) ?_
    refine va_get (D := G) (ci := 2) (v := .ref (ad 0 2)) (C := RX2) (T := TX2) (N := 2) hx hb hts hinX2 hown hK hP 1 rfl rfl 0 (by decide) hL11 (fun _ h9 => h9) rfl dX2_keepPrepared_30 ?_
    refine va_alen hx hb hK hP 2 2 rfl rfl (v := 5) rfl dX2_keepPrepared_33 ?_
    refine lv_icmp_ge (tgt := 57) hx hb dX2_keepPrepared_34 (by decide) (fun c => absurd c (by decide)) (fun _ => ?_)
    refine lv_aload_n hx hb dX2_keepPrepared_37 rfl (lv_at hl 2 rfl) ?_
    refine va_get (D := G) (ci := 2) (v := .ref (ad 0 2)) (C := RX2) (T := TX2) (N := 2) hx hb hts hinX2 hown hK hP 1 rfl rfl 0 (by decide) hL11 (fun _ h9 => h9) rfl dX2_keepPrepared_38 ?_
    refine lv_iload_n hx hb dX2_keepPrepared_41 rfl (lv_at hl 0 rfl) ?_
    refine lv_iconst (v := 1) hx hb dX2_keepPrepared_42 (by decide) ?_
    refine lv_isub hx hb dX2_keepPrepared_43 ?_
    refine lv_aload_n hx hb dX2_keepPrepared_44 rfl (lv_at hl 2 rfl) ?_
    refine va_get (D := G) (ci := 2) (v := .ref (ad 0 2)) (C := RX2) (T := TX2) (N := 2) hx hb hts hinX2 hown hK hP 1 rfl rfl 0 (by decide) hL11 (fun _ h9 => h9) rfl dX2_keepPrepared_45 ?_
    refine lv_iload_n hx hb dX2_keepPrepared_48 rfl (lv_at hl 0 rfl) ?_
    refine k_rld (j := 1) (v := ad 4 0) hx hb hK hP 2 2 rfl rfl (show ¬ ((1 : Int32) < 0 ∨ 5 ≤ (1 : Int32).toNatClampNeg) by decide) rfl (hrf 1 (by decide)) dX2_keepPrepared_49 ?_
    refine k_rst (j := 0) (ws' := (wA cI cC cD ad X (va_up rf 0 (some (ad 4 0))))) hx hb hK hP hD hS 2 2 47 0 rfl rfl rfl rfl (show ¬ (((1 : Int32) - 1) < 0 ∨ 5 ≤ ((1 : Int32) - 1).toNatClampNeg) by decide) rfl dX2_keepPrepared_50 rfl (fun H locs hP hD hS => ?_)
    refine lv_iinc (v := 2) (lv' := [(2, .int 2), (1, .ref (ad 3 0)), (0, .ref (ad 0 1))]) hx hb dX2_keepPrepared_51 hl (k := 0) rfl rfl (by decide) rfl (fun ls hl => ?_)
    refine lv_goto (tgt := 28) hx hb dX2_keepPrepared_54 (by decide) ?_
    refine lv_iload_n hx hb dX2_keepPrepared_28 rfl (lv_at hl 0 rfl) ?_
    refine lv_aload_n hx hb dX2_keepPrepared_29 rfl (lv_at hl 2 rfl) ?_
    refine va_get (D := G) (ci := 2) (v := .ref (ad 0 2)) (C := RX2) (T := TX2) (N := 2) hx hb hts hinX2 hown hK hP 1 rfl rfl 0 (by decide) hL11 (fun _ h9 => h9) rfl dX2_keepPrepared_30 ?_
    refine va_alen hx hb hK hP 2 2 rfl rfl (v := 5) rfl dX2_keepPrepared_33 ?_
    refine lv_icmp_ge (tgt := 57) hx hb dX2_keepPrepared_34 (by decide) (fun c => absurd c (by decide)) (fun _ => ?_)
    refine lv_aload_n hx hb dX2_keepPrepared_37 rfl (lv_at hl 2 rfl) ?_
    refine va_get (D := G) (ci := 2) (v := .ref (ad 0 2)) (C := RX2) (T := TX2) (N := 2) hx hb hts hinX2 hown hK hP 1 rfl rfl 0 (by decide) hL11 (fun _ h9 => h9) rfl dX2_keepPrepared_38 ?_
    refine lv_iload_n hx hb dX2_keepPrepared_41 rfl (lv_at hl 0 rfl) ?_
    refine lv_iconst (v := 1) hx hb dX2_keepPrepared_42 (by decide) ?_
    refine lv_isub hx hb dX2_keepPrepared_43 ?_
    refine lv_aload_n hx hb dX2_keepPrepared_44 rfl (lv_at hl 2 rfl) ?_
    refine va_get (D := G) (ci := 2) (v := .ref (ad 0 2)) (C := RX2) (T := TX2) (N := 2) hx hb hts hinX2 hown hK hP 1 rfl rfl 0 (by decide) hL11 (fun _ h9 => h9) rfl dX2_keepPrepared_45 ?_
    refine lv_iload_n hx hb dX2_keepPrepared_48 rfl (lv_at hl 0 rfl) ?_
    refine k_rld (j := 2) (v := ad 5 0) hx hb hK hP 2 2 rfl rfl (show ¬ ((2 : Int32) < 0 ∨ 5 ≤ (2 : Int32).toNatClampNeg) by decide) rfl (hrf 2 (by decide)) dX2_keepPrepared_49 ?_
    refine k_rst (j := 1) (ws' := (wA cI cC cD ad X (va_up (va_up rf 0 (some (ad 4 0))) 1 (some (ad 5 0))))) hx hb hK hP hD hS 2 2 61 0 rfl rfl rfl rfl (show ¬ (((2 : Int32) - 1) < 0 ∨ 5 ≤ ((2 : Int32) - 1).toNatClampNeg) by decide) rfl dX2_keepPrepared_50 rfl (fun H locs hP hD hS => ?_)
    refine lv_iinc (v := 3) (lv' := [(2, .int 3), (1, .ref (ad 3 0)), (0, .ref (ad 0 1))]) hx hb dX2_keepPrepared_51 hl (k := 0) rfl rfl (by decide) rfl (fun ls hl => ?_)
    refine lv_goto (tgt := 28) hx hb dX2_keepPrepared_54 (by decide) ?_
    refine lv_iload_n hx hb dX2_keepPrepared_28 rfl (lv_at hl 0 rfl) ?_
    refine lv_aload_n hx hb dX2_keepPrepared_29 rfl (lv_at hl 2 rfl) ?_
    refine va_get (D := G) (ci := 2) (v := .ref (ad 0 2)) (C := RX2) (T := TX2) (N := 2) hx hb hts hinX2 hown hK hP 1 rfl rfl 0 (by decide) hL11 (fun _ h9 => h9) rfl dX2_keepPrepared_30 ?_
    refine va_alen hx hb hK hP 2 2 rfl rfl (v := 5) rfl dX2_keepPrepared_33 ?_
    refine lv_icmp_ge (tgt := 57) hx hb dX2_keepPrepared_34 (by decide) (fun c => absurd c (by decide)) (fun _ => ?_)
    refine lv_aload_n hx hb dX2_keepPrepared_37 rfl (lv_at hl 2 rfl) ?_
    refine va_get (D := G) (ci := 2) (v := .ref (ad 0 2)) (C := RX2) (T := TX2) (N := 2) hx hb hts hinX2 hown hK hP 1 rfl rfl 0 (by decide) hL11 (fun _ h9 => h9) rfl dX2_keepPrepared_38 ?_
    refine lv_iload_n hx hb dX2_keepPrepared_41 rfl (lv_at hl 0 rfl) ?_
    refine lv_iconst (v := 1) hx hb dX2_keepPrepared_42 (by decide) ?_
    refine lv_isub hx hb dX2_keepPrepared_43 ?_
    refine lv_aload_n hx hb dX2_keepPrepared_44 rfl (lv_at hl 2 rfl) ?_
    refine va_get (D := G) (ci := 2) (v := .ref (ad 0 2)) (C := RX2) (T := TX2) (N := 2) hx hb hts hinX2 hown hK hP 1 rfl rfl 0 (by decide) hL11 (fun _ h9 => h9) rfl dX2_keepPrepared_45 ?_
    refine lv_iload_n hx hb dX2_keepPrepared_48 rfl (lv_at hl 0 rfl) ?_
    refine k_rld (j := 3) (v := ad 6 0) hx hb hK hP 2 2 rfl rfl (show ¬ ((3 : Int32) < 0 ∨ 5 ≤ (3 : Int32).toNatClampNeg) by decide) rfl (hrf 3 (by decide)) dX2_keepPrepared_49 ?_
    refine k_rst (j := 2) (ws' := (wA cI cC cD ad X (va_up (va_up (va_up rf 0 (some (ad 4 0))) 1 (some (ad 5 0))) 2 (some (ad 6 0))))) hx hb hK hP hD hS 2 2 75 0 rfl rfl rfl rfl (show ¬ (((3 : Int32) - 1) < 0 ∨ 5 ≤ ((3 : Int32) - 1).toNatClampNeg) by decide) rfl dX2_keepPrepared_50 rfl (fun H locs hP hD hS => ?_)
    refine lv_iinc (v := 4) (lv' := [(2, .int 4), (1, .ref (ad 3 0)), (0, .ref (ad 0 1))]) hx hb dX2_keepPrepared_51 hl (k := 0) rfl rfl (by decide) rfl (fun ls hl => ?_)
    refine lv_goto (tgt := 28) hx hb dX2_keepPrepared_54 (by decide) ?_
    refine lv_iload_n hx hb dX2_keepPrepared_28 rfl (lv_at hl 0 rfl) ?_
    refine lv_aload_n hx hb dX2_keepPrepared_29 rfl (lv_at hl 2 rfl) ?_
    refine va_get (D := G) (ci := 2) (v := .ref (ad 0 2)) (C := RX2) (T := TX2) (N := 2) hx hb hts hinX2 hown hK hP 1 rfl rfl 0 (by decide) hL11 (fun _ h9 => h9) rfl dX2_keepPrepared_30 ?_
    refine va_alen hx hb hK hP 2 2 rfl rfl (v := 5) rfl dX2_keepPrepared_33 ?_
    refine lv_icmp_ge (tgt := 57) hx hb dX2_keepPrepared_34 (by decide) (fun c => absurd c (by decide)) (fun _ => ?_)
    refine lv_aload_n hx hb dX2_keepPrepared_37 rfl (lv_at hl 2 rfl) ?_
    refine va_get (D := G) (ci := 2) (v := .ref (ad 0 2)) (C := RX2) (T := TX2) (N := 2) hx hb hts hinX2 hown hK hP 1 rfl rfl 0 (by decide) hL11 (fun _ h9 => h9) rfl dX2_keepPrepared_38 ?_
    refine lv_iload_n hx hb dX2_keepPrepared_41 rfl (lv_at hl 0 rfl) ?_
    refine lv_iconst (v := 1) hx hb dX2_keepPrepared_42 (by decide) ?_
    refine lv_isub hx hb dX2_keepPrepared_43 ?_
    refine lv_aload_n hx hb dX2_keepPrepared_44 rfl (lv_at hl 2 rfl) ?_
    refine va_get (D := G) (ci := 2) (v := .ref (ad 0 2)) (C := RX2) (T := TX2) (N := 2) hx hb hts hinX2 hown hK hP 1 rfl rfl 0 (by decide) hL11 (fun _ h9 => h9) rfl dX2_keepPrepared_45 ?_
    refine lv_iload_n hx hb dX2_keepPrepared_48 rfl (lv_at hl 0 rfl) ?_
    refine k_rld (j := 4) (v := ad 7 0) hx hb hK hP 2 2 rfl rfl (show ¬ ((4 : Int32) < 0 ∨ 5 ≤ (4 : Int32).toNatClampNeg) by decide) rfl (hrf 4 (by decide)) dX2_keepPrepared_49 ?_
    refine k_rst (j := 3) (ws' := (wA cI cC cD ad X (va_up (va_up (va_up (va_up rf 0 (some (ad 4 0))) 1 (some (ad 5 0))) 2 (some (ad 6 0))) 3 (some (ad 7 0))))) hx hb hK hP hD hS 2 2 89 0 rfl rfl rfl rfl (show ¬ (((4 : Int32) - 1) < 0 ∨ 5 ≤ ((4 : Int32) - 1).toNatClampNeg) by decide) rfl dX2_keepPrepared_50 rfl (fun H locs hP hD hS => ?_)
    refine lv_iinc (v := 5) (lv' := [(2, .int 5), (1, .ref (ad 3 0)), (0, .ref (ad 0 1))]) hx hb dX2_keepPrepared_51 hl (k := 0) rfl rfl (by decide) rfl (fun ls hl => ?_)
    refine lv_goto (tgt := 28) hx hb dX2_keepPrepared_54 (by decide) ?_
    refine lv_iload_n hx hb dX2_keepPrepared_28 rfl (lv_at hl 0 rfl) ?_
    refine lv_aload_n hx hb dX2_keepPrepared_29 rfl (lv_at hl 2 rfl) ?_
    refine va_get (D := G) (ci := 2) (v := .ref (ad 0 2)) (C := RX2) (T := TX2) (N := 2) hx hb hts hinX2 hown hK hP 1 rfl rfl 0 (by decide) hL11 (fun _ h9 => h9) rfl dX2_keepPrepared_30 ?_
    refine va_alen hx hb hK hP 2 2 rfl rfl (v := 5) rfl dX2_keepPrepared_33 ?_
    refine lv_icmp_ge (tgt := 57) hx hb dX2_keepPrepared_34 (by decide) (fun _ => ?_) (fun c => absurd (by decide) c)
    refine lv_aload_n hx hb dX2_keepPrepared_57 rfl (lv_at hl 2 rfl) ?_
    refine va_get (D := G) (ci := 2) (v := .ref (ad 0 2)) (C := RX2) (T := TX2) (N := 2) hx hb hts hinX2 hown hK hP 1 rfl rfl 0 (by decide) hL11 (fun _ h9 => h9) rfl dX2_keepPrepared_58 ?_
    refine lv_iconst (v := 4) hx hb dX2_keepPrepared_61 (by decide) ?_
    refine lv_aload_n hx hb dX2_keepPrepared_62 rfl (lv_at hl 1 rfl) ?_
    refine k_rst (j := 4) (ws' := (wA cI cC cD ad X (va_up (va_up (va_up (va_up (va_up rf 0 (some (ad 4 0))) 1 (some (ad 5 0))) 2 (some (ad 6 0))) 3 (some (ad 7 0))) 4 (some (ad 3 0))))) hx hb hK hP hD hS 2 2 33 0 rfl rfl rfl rfl (show ¬ ((4 : Int32) < 0 ∨ 5 ≤ (4 : Int32).toNatClampNeg) by decide) rfl dX2_keepPrepared_63 rfl (fun H locs hP hD hS => ?_)
    have hP : va_P G vwCl (wA cI cC cD (mvA ad) (mvX X) (va_up (va_up (va_up (va_up (va_up rf 0 (some (ad 4 0))) 1 (some (ad 5 0))) 2 (some (ad 6 0))) 3 (some (ad 7 0))) 4 (some (ad 3 0)))) H := hP.sub [0, 1, 2, 3, 4, 5, 6, 7, 8, 9, 10, 11, 12, 13, 14, 15, 16, 17, 18, 19, 20, 21, 22, 23, 24, 25, 26, 27, 28, 29, 30, 31, 32, 47, 48, 49, 50, 51, 52, 53, 54, 55, 56, 57, 58, 59, 60, 61, 62, 63, 64, 65, 66, 67, 68, 69, 70, 71, 72, 73, 74, 75, 76, 77, 78, 79, 80, 81, 82, 83, 84, 85, 86, 87, 88, 89, 90, 91, 92, 93, 94, 95, 96, 97, 98, 99, 100, 101, 102, 33, 34, 35, 36, 37, 38, 39, 40, 41, 42, 43, 44, 45, 46] rfl
    have hD : va_D A (wA cI cC cD (mvA ad) (mvX X) (va_up (va_up (va_up (va_up (va_up rf 0 (some (ad 4 0))) 1 (some (ad 5 0))) 2 (some (ad 6 0))) 3 (some (ad 7 0))) 4 (some (ad 3 0)))) := hD.sub [0, 1, 2, 3, 4, 5, 6, 7, 8, 9, 10, 11, 12, 13, 14, 15, 16, 17, 18, 19, 20, 21, 22, 23, 24, 25, 26, 27, 28, 29, 30, 31, 32, 47, 48, 49, 50, 51, 52, 53, 54, 55, 56, 57, 58, 59, 60, 61, 62, 63, 64, 65, 66, 67, 68, 69, 70, 71, 72, 73, 74, 75, 76, 77, 78, 79, 80, 81, 82, 83, 84, 85, 86, 87, 88, 89, 90, 91, 92, 93, 94, 95, 96, 97, 98, 99, 100, 101, 102, 33, 34, 35, 36, 37, 38, 39, 40, 41, 42, 43, 44, 45, 46] (by decide +kernel) rfl
    have hok : aOk ad (mvA ad) (va_up (va_up (va_up (va_up (va_up rf 0 (some (ad 4 0))) 1 (some (ad 5 0))) 2 (some (ad 6 0))) 3 (some (ad 7 0))) 4 (some (ad 3 0))) := ⟨rfl, rfl, rfl, fun i hi => by rcases (show i = 0 ∨ i = 1 ∨ i = 2 ∨ i = 3 ∨ i = 4 by omega) with rfl | rfl | rfl | rfl | rfl <;> rfl⟩
    exact W.vret hx hb hr (fun t ht hW => ⟨⟨(mvX X, mvA ad, (va_up (va_up (va_up (va_up (va_up rf 0 (some (ad 4 0))) 1 (some (ad 5 0))) 2 (some (ad 6 0))) 3 (some (ad 7 0))) 4 (some (ad 3 0)))), rfl, ⟨h, hok⟩, by rw [ht]; exact hP, hD⟩, hS.F ht⟩) hS.2.2 dX2_keepPrepared_64
  · have h := h.2 c
    refine lv_aload_n hx hb dX2_keepPrepared_8 rfl (lv_at hl 0 rfl) ?_
    refine lv_dup hx hb dX2_keepPrepared_9 rfl ?_
    refine va_get (D := G) (ci := 2) (v := .int (X 8 0 0)) (C := RX2) (T := TX2) (N := 2) hx hb hts hinX2 hown hK hP 1 rfl rfl 1 (by decide) hL18 (fun _ h9 => h9) rfl dX2_keepPrepared_10 ?_
    refine lv_iconst (v := 1) hx hb dX2_keepPrepared_13 (by decide) ?_
    refine lv_iadd hx hb dX2_keepPrepared_14 ?_
    refine va_put (D := G) (ci := 2) (v := .int ((X 8 0 0) + 1)) (ty := .int) (C := RX2) (T := TX2) (N := 2) hx hb hts hinX2 tyX2 tyX2_ok nmX2 hown hK hP hD hS 1 rfl rfl 1 (by decide) hL18 (fun _ h9 => h9) rfl (by decide +kernel) rfl rfl (Nat.le_of_ble_eq_true rfl) dX2_keepPrepared_15 (fun H locs hP hD hS => ?_)
    have hP : va_P G vwCl (wA cI cC cD ad (uX X 8 (uA (X 8) 0 (fun _ => (X 8 0 0) + 1))) rf) H := hP
    have hD : va_D A (wA cI cC cD ad (uX X 8 (uA (X 8) 0 (fun _ => (X 8 0 0) + 1))) rf) := hD
    exact W.vret hx hb hr (fun t ht hW => ⟨⟨((uX X 8 (uA (X 8) 0 (fun _ => (X 8 0 0) + 1))), ad, rf), rfl, ⟨h, rfl, rfl, rfl, hrf⟩, by rw [ht]; exact hP, hD⟩, hS.F ht⟩) hS.2.2 dX2_keepPrepared_18
