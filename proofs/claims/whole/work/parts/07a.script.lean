def q_X5_isError (x : Int32) (Q : Int32 → Prop) : Prop :=
  (0 ≤ x → Q 0) ∧ (¬ (0 ≤ x) → Q 1)
set_option maxHeartbeats 4000000 in
set_option maxRecDepth 100000 in
theorem c_X5_isError (l : Launch) (G : va_G) (cI cC cD : ClassId)  (sz : Nat)  (x : Int32) (Q : Int32 → Prop) (h : q_X5_isError x  Q) : Met l yX5_isError wsX5_isError ({ frames := 0, cells := 0, slots := 0, locals := 0 }) (va_Pc [.int x] (PW G (ty3 cI cC cD) [] sz)) (va_Qi (fun (r : Int32) (_ : Unit) => Q r) (BW G (fun _ : Unit => []) (va_A [] sz)) (va_A [] sz)) 0 0 (va_A [] sz) := by
  refine Met.ofW (cc := cX5_isError) (maxL := 1) (ret := (some .boolean)) (by decide) rfl ?_
  intro p e s m args below meth c s₁ B hml hv
  obtain ⟨rfl, hsz, hP, hK, hD0, hN⟩ := hv
  have hx := B.exec
  have hb := B.bytes
  have hr := B.returns
  have hts := atoms_spec (ws := wsX5_isError) B.pre
  have hown : s.vm.findClass RX5 = some m.cls := findClass_of_methodNamed B.named
  have hlocks := B.notSynchronized
  subst hsz
  have hD := hD0.self (sz := s.heap.size)
  generalize hAe : va_A [] s.heap.size = A at hD ⊢
  have hA : ∀ q : Nat, s.heap.size ≤ q → A q := fun q h => by rw [← hAe]; exact Or.inr h
  have hS : va_S A s.heap s.heap [] := va_S.rf
  have hl := lv_entry ([.int x]) (n := 1) (Nat.le_of_ble_eq_true rfl)
  rw [lg_entry_eq]
  generalize (lg_sl ([.int x]) ++ List.replicate (1 - (lg_sl ([.int x])).length) Slot.unset).toArray = ls at hl ⊢
  have hl : lv_has ls 1 [(0, .int x)] := hl
  unfold q_X5_isError at h
  refine lv_iload_n hx hb dX5_isError_0 rfl (lv_at hl 0 rfl) ?_
  refine lv_if_ge (tgt := 8) hx hb dX5_isError_1 (by decide) (fun c_1 => ?_) (fun c_1 => ?_)
  · have h := h.1 c_1
    refine lv_iconst (v := 0) hx hb dX5_isError_8 (by decide) ?_
    exact W.zret (v := 0) hx hb hr rfl (fun t ht hW => ⟨⟨0, (), rfl, h, by rw [ht]; exact hP, hD⟩, hS.F ht⟩) hS.2.2 dX5_isError_9
  · have h := h.2 c_1
    refine lv_iconst (v := 1) hx hb dX5_isError_4 (by decide) ?_
    refine lv_goto (tgt := 9) hx hb dX5_isError_5 (by decide) ?_
    exact W.zret (v := 1) hx hb hr rfl (fun t ht hW => ⟨⟨1, (), rfl, h, by rw [ht]; exact hP, hD⟩, hS.F ht⟩) hS.2.2 dX5_isError_9
def q_X3_length (C : St) (Q : Int32 → Prop) : Prop :=
  Q (C 1 0)
set_option maxHeartbeats 4000000 in
set_option maxRecDepth 100000 in
theorem c_X3_length (l : Launch) (G : va_G) (cI cC cD : ClassId) (k0 k1 : Nat) (sz : Nat) (C : St)  (Q : Int32 → Prop) (h : q_X3_length  C Q) : Met l yX3_length wsX3_length ({ frames := 0, cells := 0, slots := 0, locals := 0 }) (va_Pc [.ref k0] (PW G (ty3 cI cC cD) (wS cC k0 k1 C) sz)) (va_Qi (fun (r : Int32) (_ : Unit) => Q r) (BW G (fun _ : Unit => (wS cC k0 k1 C)) (va_A (wS cC k0 k1 C) sz)) (va_A (wS cC k0 k1 C) sz)) 0 0 (va_A (wS cC k0 k1 C) sz) := by
  refine Met.ofW (cc := cX3_length) (maxL := 1) (ret := (some .int)) (by decide) rfl ?_
  intro p e s m args below meth c s₁ B hml hv
  obtain ⟨rfl, hsz, hP, hK, hD0, hN⟩ := hv
  have hx := B.exec
  have hb := B.bytes
  have hr := B.returns
  have hts := atoms_spec (ws := wsX3_length) B.pre
  have hown : s.vm.findClass RX3 = some m.cls := findClass_of_methodNamed B.named
  have hlocks := B.notSynchronized
  subst hsz
  have hD := hD0.self (sz := s.heap.size)
  generalize hAe : va_A (wS cC k0 k1 C) s.heap.size = A at hD ⊢
  have hA : ∀ q : Nat, s.heap.size ≤ q → A q := fun q h => by rw [← hAe]; exact Or.inr h
  have hS : va_S A s.heap s.heap [] := va_S.rf
  have hl := lv_entry ([.ref k0]) (n := 1) (Nat.le_of_ble_eq_true rfl)
  rw [lg_entry_eq]
  generalize (lg_sl ([.ref k0]) ++ List.replicate (1 - (lg_sl ([.ref k0])).length) Slot.unset).toArray = ls at hl ⊢
  have hl : lv_has ls 1 [(0, .ref k0)] := hl
  have hinX3 : ∀ w ∈ wsX30, w ∈ wsX3_length := by decide +kernel
  have hL15 := hts (.fieldLink RX3 15 "CraneGates$Script" "length" "I") (by decide +kernel)
  unfold q_X3_length at h
  refine lv_aload_n hx hb dX3_length_0 rfl (lv_at hl 0 rfl) ?_
  refine va_get (D := G) (ci := 3) (v := .int (C 1 0)) (C := RX3) (T := TX3) (N := 8) hx hb hts hinX3 hown hK hP 0 rfl rfl 1 (by decide) hL15 (fun _ h9 => h9) rfl dX3_length_1 ?_
  exact W.iret (v := (C 1 0)) hx hb hr (fun t ht hW => ⟨⟨(C 1 0), (), rfl, h, by rw [ht]; exact hP, hD⟩, hS.F ht⟩) hS.2.2 dX3_length_4
def q_X3_faultPlace (C : St) (Q : Int32 → Prop) : Prop :=
  Q (C 6 0)
set_option maxHeartbeats 4000000 in
set_option maxRecDepth 100000 in
theorem c_X3_faultPlace (l : Launch) (G : va_G) (cI cC cD : ClassId) (k0 k1 : Nat) (sz : Nat) (C : St)  (Q : Int32 → Prop) (h : q_X3_faultPlace  C Q) : Met l yX3_faultPlace wsX3_faultPlace ({ frames := 0, cells := 0, slots := 0, locals := 0 }) (va_Pc [.ref k0] (PW G (ty3 cI cC cD) (wS cC k0 k1 C) sz)) (va_Qi (fun (r : Int32) (_ : Unit) => Q r) (BW G (fun _ : Unit => (wS cC k0 k1 C)) (va_A (wS cC k0 k1 C) sz)) (va_A (wS cC k0 k1 C) sz)) 0 0 (va_A (wS cC k0 k1 C) sz) := by
  refine Met.ofW (cc := cX3_faultPlace) (maxL := 1) (ret := (some .int)) (by decide) rfl ?_
  intro p e s m args below meth c s₁ B hml hv
  obtain ⟨rfl, hsz, hP, hK, hD0, hN⟩ := hv
  have hx := B.exec
  have hb := B.bytes
  have hr := B.returns
  have hts := atoms_spec (ws := wsX3_faultPlace) B.pre
  have hown : s.vm.findClass RX3 = some m.cls := findClass_of_methodNamed B.named
  have hlocks := B.notSynchronized
  subst hsz
  have hD := hD0.self (sz := s.heap.size)
  generalize hAe : va_A (wS cC k0 k1 C) s.heap.size = A at hD ⊢
  have hA : ∀ q : Nat, s.heap.size ≤ q → A q := fun q h => by rw [← hAe]; exact Or.inr h
  have hS : va_S A s.heap s.heap [] := va_S.rf
  have hl := lv_entry ([.ref k0]) (n := 1) (Nat.le_of_ble_eq_true rfl)
  rw [lg_entry_eq]
  generalize (lg_sl ([.ref k0]) ++ List.replicate (1 - (lg_sl ([.ref k0])).length) Slot.unset).toArray = ls at hl ⊢
  have hl : lv_has ls 1 [(0, .ref k0)] := hl
  have hinX3 : ∀ w ∈ wsX30, w ∈ wsX3_faultPlace := by decide +kernel
  have hL19 := hts (.fieldLink RX3 19 "CraneGates$Script" "faultPlace" "I") (by decide +kernel)
  unfold q_X3_faultPlace at h
  refine lv_aload_n hx hb dX3_faultPlace_0 rfl (lv_at hl 0 rfl) ?_
  refine va_get (D := G) (ci := 3) (v := .int (C 6 0)) (C := RX3) (T := TX3) (N := 8) hx hb hts hinX3 hown hK hP 0 rfl rfl 6 (by decide) hL19 (fun _ h9 => h9) rfl dX3_faultPlace_1 ?_
  exact W.iret (v := (C 6 0)) hx hb hr (fun t ht hW => ⟨⟨(C 6 0), (), rfl, h, by rw [ht]; exact hP, hD⟩, hS.F ht⟩) hS.2.2 dX3_faultPlace_4
def q_X3_faultReason (C : St) (Q : Int32 → Prop) : Prop :=
  Q (C 7 0)
set_option maxHeartbeats 4000000 in
set_option maxRecDepth 100000 in
theorem c_X3_faultReason (l : Launch) (G : va_G) (cI cC cD : ClassId) (k0 k1 : Nat) (sz : Nat) (C : St)  (Q : Int32 → Prop) (h : q_X3_faultReason  C Q) : Met l yX3_faultReason wsX3_faultReason ({ frames := 0, cells := 0, slots := 0, locals := 0 }) (va_Pc [.ref k0] (PW G (ty3 cI cC cD) (wS cC k0 k1 C) sz)) (va_Qi (fun (r : Int32) (_ : Unit) => Q r) (BW G (fun _ : Unit => (wS cC k0 k1 C)) (va_A (wS cC k0 k1 C) sz)) (va_A (wS cC k0 k1 C) sz)) 0 0 (va_A (wS cC k0 k1 C) sz) := by
  refine Met.ofW (cc := cX3_faultReason) (maxL := 1) (ret := (some .int)) (by decide) rfl ?_
  intro p e s m args below meth c s₁ B hml hv
  obtain ⟨rfl, hsz, hP, hK, hD0, hN⟩ := hv
  have hx := B.exec
  have hb := B.bytes
  have hr := B.returns
  have hts := atoms_spec (ws := wsX3_faultReason) B.pre
  have hown : s.vm.findClass RX3 = some m.cls := findClass_of_methodNamed B.named
  have hlocks := B.notSynchronized
  subst hsz
  have hD := hD0.self (sz := s.heap.size)
  generalize hAe : va_A (wS cC k0 k1 C) s.heap.size = A at hD ⊢
  have hA : ∀ q : Nat, s.heap.size ≤ q → A q := fun q h => by rw [← hAe]; exact Or.inr h
  have hS : va_S A s.heap s.heap [] := va_S.rf
  have hl := lv_entry ([.ref k0]) (n := 1) (Nat.le_of_ble_eq_true rfl)
  rw [lg_entry_eq]
  generalize (lg_sl ([.ref k0]) ++ List.replicate (1 - (lg_sl ([.ref k0])).length) Slot.unset).toArray = ls at hl ⊢
  have hl : lv_has ls 1 [(0, .ref k0)] := hl
  have hinX3 : ∀ w ∈ wsX30, w ∈ wsX3_faultReason := by decide +kernel
  have hL22 := hts (.fieldLink RX3 22 "CraneGates$Script" "faultReason" "I") (by decide +kernel)
  unfold q_X3_faultReason at h
  refine lv_aload_n hx hb dX3_faultReason_0 rfl (lv_at hl 0 rfl) ?_
  refine va_get (D := G) (ci := 3) (v := .int (C 7 0)) (C := RX3) (T := TX3) (N := 8) hx hb hts hinX3 hown hK hP 0 rfl rfl 7 (by decide) hL22 (fun _ h9 => h9) rfl dX3_faultReason_1 ?_
  exact W.iret (v := (C 7 0)) hx hb hr (fun t ht hW => ⟨⟨(C 7 0), (), rfl, h, by rw [ht]; exact hP, hD⟩, hS.F ht⟩) hS.2.2 dX3_faultReason_4
def q_X3_append (x : Int32) (C : St) (Q : Int32 → St → Prop) : Prop :=
  (x < 32 → Q (-1000001) C) ∧ (¬ (x < 32) → (x ≤ 126 → ((C 1 0) < 60 → vp_in (C 1 0) 60 ∧ (Q ((C 1 0) + 1) (uA (uA C 0 (upd (C 0) (((C 1 0)).toNatClampNeg) (vp_nar .char (((x).toUInt32 % 65536).toInt32)))) 1 (fun _ => ((C 1 0) + 1))))) ∧ (¬ ((C 1 0) < 60) → Q (-1000003) C)) ∧ (¬ (x ≤ 126) → Q (-1000001) C))
set_option maxHeartbeats 4000000 in
set_option maxRecDepth 100000 in
theorem c_X3_append (l : Launch) (G : va_G) (cI cC cD : ClassId) (k0 k1 : Nat) (sz : Nat) (C : St) (x : Int32) (Q : Int32 → St → Prop) (h : q_X3_append x C Q) : Met l yX3_append wsX3_append ({ frames := 0, cells := 0, slots := 0, locals := 0 }) (va_Pc [.ref k0, .int x] (PW G (ty3 cI cC cD) (wS cC k0 k1 C) sz)) (va_Qi Q (BW G (fun u : St => (wS cC k0 k1 u)) (va_A (wS cC k0 k1 C) sz)) (va_A (wS cC k0 k1 C) sz)) 0 0 (va_A (wS cC k0 k1 C) sz) := by
  refine Met.ofW (cc := cX3_append) (maxL := 2) (ret := (some .int)) (by decide) rfl ?_
  intro p e s m args below meth c s₁ B hml hv
  obtain ⟨rfl, hsz, hP, hK, hD0, hN⟩ := hv
  have hx := B.exec
  have hb := B.bytes
  have hr := B.returns
  have hts := atoms_spec (ws := wsX3_append) B.pre
  have hown : s.vm.findClass RX3 = some m.cls := findClass_of_methodNamed B.named
  have hlocks := B.notSynchronized
  subst hsz
  have hD := hD0.self (sz := s.heap.size)
  generalize hAe : va_A (wS cC k0 k1 C) s.heap.size = A at hD ⊢
  have hA : ∀ q : Nat, s.heap.size ≤ q → A q := fun q h => by rw [← hAe]; exact Or.inr h
  have hS : va_S A s.heap s.heap [] := va_S.rf
  have hl := lv_entry ([.ref k0, .int x]) (n := 2) (Nat.le_of_ble_eq_true rfl)
  rw [lg_entry_eq]
  generalize (lg_sl ([.ref k0, .int x]) ++ List.replicate (2 - (lg_sl ([.ref k0, .int x])).length) Slot.unset).toArray = ls at hl ⊢
  have hl : lv_has ls 2 [(0, .ref k0), (1, .int x)] := hl
  have hinX3 : ∀ w ∈ wsX30, w ∈ wsX3_append := by decide +kernel
  have hL9 := hts (.fieldLink RX3 9 "CraneGates$Script" "signs" "[C") (by decide +kernel)
  have hL15 := hts (.fieldLink RX3 15 "CraneGates$Script" "length" "I") (by decide +kernel)
  unfold q_X3_append at h
  refine lv_iload_n hx hb dX3_append_0 rfl (lv_at hl 1 rfl) ?_
  refine lv_bipush (v := 32) hx hb dX3_append_1 (by decide) ?_
  refine lv_icmp_lt (tgt := 12) hx hb dX3_append_3 (by decide) (fun c_1 => ?_) (fun c_1 => ?_)
  · have h := h.1 c_1
    refine lv_ldc hx hb hown (hts (.constant RX3 25 (-1000001)) (by decide +kernel)) dX3_append_12 ?_
    exact W.iret (v := (-1000001)) hx hb hr (fun t ht hW => ⟨⟨(-1000001), C, rfl, h, by rw [ht]; exact hP, hD⟩, hS.F ht⟩) hS.2.2 dX3_append_14
  · have h := h.2 c_1
    refine lv_iload_n hx hb dX3_append_6 rfl (lv_at hl 1 rfl) ?_
    refine lv_bipush (v := 126) hx hb dX3_append_7 (by decide) ?_
    refine lv_icmp_le (tgt := 15) hx hb dX3_append_9 (by decide) (fun c_2 => ?_) (fun c_2 => ?_)
    · have h := h.1 c_2
      refine lv_aload_n hx hb dX3_append_15 rfl (lv_at hl 0 rfl) ?_
      refine va_get (D := G) (ci := 3) (v := .int (C 1 0)) (C := RX3) (T := TX3) (N := 8) hx hb hts hinX3 hown hK hP 0 rfl rfl 1 (by decide) hL15 (fun _ h9 => h9) rfl dX3_append_16 ?_
      refine lv_bipush (v := 60) hx hb dX3_append_19 (by decide) ?_
      refine lv_icmp_lt (tgt := 27) hx hb dX3_append_21 (by decide) (fun c_3 => ?_) (fun c_3 => ?_)
      · have h := h.1 c_3
        refine lv_aload_n hx hb dX3_append_27 rfl (lv_at hl 0 rfl) ?_
        refine va_get (D := G) (ci := 3) (v := .ref k1) (C := RX3) (T := TX3) (N := 8) hx hb hts hinX3 hown hK hP 0 rfl rfl 0 (by decide) hL9 (fun _ h9 => h9) rfl dX3_append_28 ?_
        refine lv_aload_n hx hb dX3_append_31 rfl (lv_at hl 0 rfl) ?_
        refine va_get (D := G) (ci := 3) (v := .int (C 1 0)) (C := RX3) (T := TX3) (N := 8) hx hb hts hinX3 hown hK hP 0 rfl rfl 1 (by decide) hL15 (fun _ h9 => h9) rfl dX3_append_32 ?_
        refine lv_iload_n hx hb dX3_append_35 rfl (lv_at hl 1 rfl) ?_
        refine lv_i2c (v := ((x).toUInt32 % 65536).toInt32) hx hb dX3_append_36 rfl ?_
        obtain ⟨hi_4, h⟩ := h
        refine k_cst (f := (C 0)) (j := ((C 1 0)).toNatClampNeg) (ws' := (wS cC k0 k1 (uA C 0 (upd (C 0) (((C 1 0)).toNatClampNeg) (vp_nar .char (((x).toUInt32 % 65536).toInt32)))))) hx hb hK hP hD hS 1 1 rfl rfl hi_4 rfl dX3_append_37 rfl (fun H locs hP hD hS => ?_)
        refine lv_aload_n hx hb dX3_append_38 rfl (lv_at hl 0 rfl) ?_
        refine lv_dup hx hb dX3_append_39 rfl ?_
        refine va_get (D := G) (ci := 3) (v := .int (C 1 0)) (C := RX3) (T := TX3) (N := 8) hx hb hts hinX3 hown hK hP 0 rfl rfl 1 (by decide) hL15 (fun _ h9 => h9) rfl dX3_append_40 ?_
        refine lv_iconst (v := 1) hx hb dX3_append_43 (by decide) ?_
        refine lv_iadd hx hb dX3_append_44 ?_
        refine va_put (D := G) (ci := 3) (v := .int ((C 1 0) + 1)) (ty := .int) (C := RX3) (T := TX3) (N := 8) hx hb hts hinX3 tyX3 tyX3_ok nmX3 hown hK hP hD hS 0 rfl rfl 1 (by decide) hL15 (fun _ h9 => h9) rfl (by decide +kernel) rfl rfl (Nat.le_of_ble_eq_true rfl) dX3_append_45 (fun H locs hP hD hS => ?_)
        have hP : va_P G vwCl (wS cC k0 k1 (uA (uA C 0 (upd (C 0) (((C 1 0)).toNatClampNeg) (vp_nar .char (((x).toUInt32 % 65536).toInt32)))) 1 (fun _ => ((C 1 0) + 1)))) H := hP
        have hD : va_D A (wS cC k0 k1 (uA (uA C 0 (upd (C 0) (((C 1 0)).toNatClampNeg) (vp_nar .char (((x).toUInt32 % 65536).toInt32)))) 1 (fun _ => ((C 1 0) + 1)))) := hD
        refine lv_aload_n hx hb dX3_append_48 rfl (lv_at hl 0 rfl) ?_
        refine va_get (D := G) (ci := 3) (v := .int ((C 1 0) + 1)) (C := RX3) (T := TX3) (N := 8) hx hb hts hinX3 hown hK hP 0 rfl rfl 1 (by decide) hL15 (fun _ h9 => h9) rfl dX3_append_49 ?_
        exact W.iret (v := ((C 1 0) + 1)) hx hb hr (fun t ht hW => ⟨⟨((C 1 0) + 1), (uA (uA C 0 (upd (C 0) (((C 1 0)).toNatClampNeg) (vp_nar .char (((x).toUInt32 % 65536).toInt32)))) 1 (fun _ => ((C 1 0) + 1))), rfl, h, by rw [ht]; exact hP, hD⟩, hS.F ht⟩) hS.2.2 dX3_append_52
      · have h := h.2 c_3
        refine lv_ldc hx hb hown (hts (.constant RX3 26 (-1000003)) (by decide +kernel)) dX3_append_24 ?_
        exact W.iret (v := (-1000003)) hx hb hr (fun t ht hW => ⟨⟨(-1000003), C, rfl, h, by rw [ht]; exact hP, hD⟩, hS.F ht⟩) hS.2.2 dX3_append_26
    · have h := h.2 c_2
      refine lv_ldc hx hb hown (hts (.constant RX3 25 (-1000001)) (by decide +kernel)) dX3_append_12 ?_
      exact W.iret (v := (-1000001)) hx hb hr (fun t ht hW => ⟨⟨(-1000001), C, rfl, h, by rw [ht]; exact hP, hD⟩, hS.F ht⟩) hS.2.2 dX3_append_14
def q_X3_empty (C : St) (Q : Int32 → St → Prop) : Prop :=
  Q (C 1 0) (uA C 1 (fun _ => 0))
set_option maxHeartbeats 4000000 in
set_option maxRecDepth 100000 in
theorem c_X3_empty (l : Launch) (G : va_G) (cI cC cD : ClassId) (k0 k1 : Nat) (sz : Nat) (C : St)  (Q : Int32 → St → Prop) (h : q_X3_empty  C Q) : Met l yX3_empty wsX3_empty ({ frames := 0, cells := 0, slots := 0, locals := 0 }) (va_Pc [.ref k0] (PW G (ty3 cI cC cD) (wS cC k0 k1 C) sz)) (va_Qi Q (BW G (fun u : St => (wS cC k0 k1 u)) (va_A (wS cC k0 k1 C) sz)) (va_A (wS cC k0 k1 C) sz)) 0 0 (va_A (wS cC k0 k1 C) sz) := by
  refine Met.ofW (cc := cX3_empty) (maxL := 2) (ret := (some .int)) (by decide) rfl ?_
  intro p e s m args below meth c s₁ B hml hv
  obtain ⟨rfl, hsz, hP, hK, hD0, hN⟩ := hv
  have hx := B.exec
  have hb := B.bytes
  have hr := B.returns
  have hts := atoms_spec (ws := wsX3_empty) B.pre
  have hown : s.vm.findClass RX3 = some m.cls := findClass_of_methodNamed B.named
  have hlocks := B.notSynchronized
  subst hsz
  have hD := hD0.self (sz := s.heap.size)
  generalize hAe : va_A (wS cC k0 k1 C) s.heap.size = A at hD ⊢
  have hA : ∀ q : Nat, s.heap.size ≤ q → A q := fun q h => by rw [← hAe]; exact Or.inr h
  have hS : va_S A s.heap s.heap [] := va_S.rf
  have hl := lv_entry ([.ref k0]) (n := 2) (Nat.le_of_ble_eq_true rfl)
  rw [lg_entry_eq]
  generalize (lg_sl ([.ref k0]) ++ List.replicate (2 - (lg_sl ([.ref k0])).length) Slot.unset).toArray = ls at hl ⊢
  have hl : lv_has ls 2 [(0, .ref k0)] := hl
  have hinX3 : ∀ w ∈ wsX30, w ∈ wsX3_empty := by decide +kernel
  have hL15 := hts (.fieldLink RX3 15 "CraneGates$Script" "length" "I") (by decide +kernel)
  unfold q_X3_empty at h
  refine lv_aload_n hx hb dX3_empty_0 rfl (lv_at hl 0 rfl) ?_
  refine va_get (D := G) (ci := 3) (v := .int (C 1 0)) (C := RX3) (T := TX3) (N := 8) hx hb hts hinX3 hown hK hP 0 rfl rfl 1 (by decide) hL15 (fun _ h9 => h9) rfl dX3_empty_1 ?_
  refine lv_istore_n (lv' := [(1, .int (C 1 0)), (0, .ref k0)]) hx hb dX3_empty_4 rfl hl (by decide) rfl (fun ls hl => ?_)
  refine lv_aload_n hx hb dX3_empty_5 rfl (lv_at hl 1 rfl) ?_
  refine lv_iconst (v := 0) hx hb dX3_empty_6 (by decide) ?_
  refine va_put (D := G) (ci := 3) (v := .int 0) (ty := .int) (C := RX3) (T := TX3) (N := 8) hx hb hts hinX3 tyX3 tyX3_ok nmX3 hown hK hP hD hS 0 rfl rfl 1 (by decide) hL15 (fun _ h9 => h9) rfl (by decide +kernel) rfl rfl (Nat.le_of_ble_eq_true rfl) dX3_empty_7 (fun H locs hP hD hS => ?_)
  have hP : va_P G vwCl (wS cC k0 k1 (uA C 1 (fun _ => 0))) H := hP
  have hD : va_D A (wS cC k0 k1 (uA C 1 (fun _ => 0))) := hD
  refine lv_iload_n hx hb dX3_empty_10 rfl (lv_at hl 0 rfl) ?_
  exact W.iret (v := (C 1 0)) hx hb hr (fun t ht hW => ⟨⟨(C 1 0), (uA C 1 (fun _ => 0)), rfl, h, by rw [ht]; exact hP, hD⟩, hS.F ht⟩) hS.2.2 dX3_empty_11
def q_X3_sign (C : St) (Q : Int32 → Prop) : Prop :=
  ((C 2 0) < 0 → Q 0) ∧ (¬ ((C 2 0) < 0) → ((C 1 0) ≤ (C 2 0) → Q 0) ∧ (¬ ((C 1 0) ≤ (C 2 0)) → (60 ≤ (C 2 0) → Q 0) ∧ (¬ (60 ≤ (C 2 0)) → vp_in (C 2 0) 60 ∧ (isC ((C 0) (((C 2 0)).toNatClampNeg)) ∧ (Q ((C 0) (((C 2 0)).toNatClampNeg)))))))
set_option maxHeartbeats 4000000 in
set_option maxRecDepth 100000 in
theorem c_X3_sign (l : Launch) (G : va_G) (cI cC cD : ClassId) (k0 k1 : Nat) (sz : Nat) (C : St)  (Q : Int32 → Prop) (h : q_X3_sign  C Q) : Met l yX3_sign wsX3_sign ({ frames := 0, cells := 0, slots := 0, locals := 0 }) (va_Pc [.ref k0] (PW G (ty3 cI cC cD) (wS cC k0 k1 C) sz)) (va_Qi (fun (r : Int32) (_ : Unit) => Q r) (BW G (fun _ : Unit => (wS cC k0 k1 C)) (va_A (wS cC k0 k1 C) sz)) (va_A (wS cC k0 k1 C) sz)) 0 0 (va_A (wS cC k0 k1 C) sz) := by
  refine Met.ofW (cc := cX3_sign) (maxL := 1) (ret := (some .char)) (by decide) rfl ?_
  intro p e s m args below meth c s₁ B hml hv
  obtain ⟨rfl, hsz, hP, hK, hD0, hN⟩ := hv
  have hx := B.exec
  have hb := B.bytes
  have hr := B.returns
  have hts := atoms_spec (ws := wsX3_sign) B.pre
  have hown : s.vm.findClass RX3 = some m.cls := findClass_of_methodNamed B.named
  have hlocks := B.notSynchronized
  subst hsz
  have hD := hD0.self (sz := s.heap.size)
  generalize hAe : va_A (wS cC k0 k1 C) s.heap.size = A at hD ⊢
  have hA : ∀ q : Nat, s.heap.size ≤ q → A q := fun q h => by rw [← hAe]; exact Or.inr h
  have hS : va_S A s.heap s.heap [] := va_S.rf
  have hl := lv_entry ([.ref k0]) (n := 1) (Nat.le_of_ble_eq_true rfl)
  rw [lg_entry_eq]
  generalize (lg_sl ([.ref k0]) ++ List.replicate (1 - (lg_sl ([.ref k0])).length) Slot.unset).toArray = ls at hl ⊢
  have hl : lv_has ls 1 [(0, .ref k0)] := hl
  have hinX3 : ∀ w ∈ wsX30, w ∈ wsX3_sign := by decide +kernel
  have hL9 := hts (.fieldLink RX3 9 "CraneGates$Script" "signs" "[C") (by decide +kernel)
  have hL15 := hts (.fieldLink RX3 15 "CraneGates$Script" "length" "I") (by decide +kernel)
  have hL27 := hts (.fieldLink RX3 27 "CraneGates$Script" "next" "I") (by decide +kernel)
  unfold q_X3_sign at h
  refine lv_aload_n hx hb dX3_sign_0 rfl (lv_at hl 0 rfl) ?_
  refine va_get (D := G) (ci := 3) (v := .int (C 2 0)) (C := RX3) (T := TX3) (N := 8) hx hb hts hinX3 hown hK hP 0 rfl rfl 2 (by decide) hL27 (fun _ h9 => h9) rfl dX3_sign_1 ?_
  refine lv_if_lt (tgt := 39) hx hb dX3_sign_4 (by decide) (fun c_1 => ?_) (fun c_1 => ?_)
  · have h := h.1 c_1
    refine lv_iconst (v := 0) hx hb dX3_sign_39 (by decide) ?_
    exact W.zret (v := 0) hx hb hr rfl (fun t ht hW => ⟨⟨0, (), rfl, h, by rw [ht]; exact hP, hD⟩, hS.F ht⟩) hS.2.2 dX3_sign_40
  · have h := h.2 c_1
    refine lv_aload_n hx hb dX3_sign_7 rfl (lv_at hl 0 rfl) ?_
    refine va_get (D := G) (ci := 3) (v := .int (C 2 0)) (C := RX3) (T := TX3) (N := 8) hx hb hts hinX3 hown hK hP 0 rfl rfl 2 (by decide) hL27 (fun _ h9 => h9) rfl dX3_sign_8 ?_
    refine lv_aload_n hx hb dX3_sign_11 rfl (lv_at hl 0 rfl) ?_
    refine va_get (D := G) (ci := 3) (v := .int (C 1 0)) (C := RX3) (T := TX3) (N := 8) hx hb hts hinX3 hown hK hP 0 rfl rfl 1 (by decide) hL15 (fun _ h9 => h9) rfl dX3_sign_12 ?_
    refine lv_icmp_ge (tgt := 39) hx hb dX3_sign_15 (by decide) (fun c_2 => ?_) (fun c_2 => ?_)
    · have h := h.1 c_2
      refine lv_iconst (v := 0) hx hb dX3_sign_39 (by decide) ?_
      exact W.zret (v := 0) hx hb hr rfl (fun t ht hW => ⟨⟨0, (), rfl, h, by rw [ht]; exact hP, hD⟩, hS.F ht⟩) hS.2.2 dX3_sign_40
    · have h := h.2 c_2
      refine lv_aload_n hx hb dX3_sign_18 rfl (lv_at hl 0 rfl) ?_
      refine va_get (D := G) (ci := 3) (v := .int (C 2 0)) (C := RX3) (T := TX3) (N := 8) hx hb hts hinX3 hown hK hP 0 rfl rfl 2 (by decide) hL27 (fun _ h9 => h9) rfl dX3_sign_19 ?_
      refine lv_bipush (v := 60) hx hb dX3_sign_22 (by decide) ?_
      refine lv_icmp_ge (tgt := 39) hx hb dX3_sign_24 (by decide) (fun c_3 => ?_) (fun c_3 => ?_)
      · have h := h.1 c_3
        refine lv_iconst (v := 0) hx hb dX3_sign_39 (by decide) ?_
        exact W.zret (v := 0) hx hb hr rfl (fun t ht hW => ⟨⟨0, (), rfl, h, by rw [ht]; exact hP, hD⟩, hS.F ht⟩) hS.2.2 dX3_sign_40
      · have h := h.2 c_3
        refine lv_aload_n hx hb dX3_sign_27 rfl (lv_at hl 0 rfl) ?_
        refine va_get (D := G) (ci := 3) (v := .ref k1) (C := RX3) (T := TX3) (N := 8) hx hb hts hinX3 hown hK hP 0 rfl rfl 0 (by decide) hL9 (fun _ h9 => h9) rfl dX3_sign_28 ?_
        refine lv_aload_n hx hb dX3_sign_31 rfl (lv_at hl 0 rfl) ?_
        refine va_get (D := G) (ci := 3) (v := .int (C 2 0)) (C := RX3) (T := TX3) (N := 8) hx hb hts hinX3 hown hK hP 0 rfl rfl 2 (by decide) hL27 (fun _ h9 => h9) rfl dX3_sign_32 ?_
        obtain ⟨hi_4, h⟩ := h
        refine k_cld (f := (C 0)) (j := ((C 2 0)).toNatClampNeg) (v := ((C 0) (((C 2 0)).toNatClampNeg))) hx hb hK hP 1 1 rfl rfl hi_4 rfl rfl dX3_sign_35 ?_
        refine lv_goto (tgt := 40) hx hb dX3_sign_36 (by decide) ?_
        obtain ⟨hz_5, h⟩ := h
        exact W.zret (v := ((C 0) (((C 2 0)).toNatClampNeg))) hx hb hr hz_5.1 (fun t ht hW => ⟨⟨((C 0) (((C 2 0)).toNatClampNeg)), (), rfl, h, by rw [ht]; exact hP, hD⟩, hS.F ht⟩) hS.2.2 dX3_sign_40
def q_X3_readNumber (C : St) (Q : Int32 → St → Prop) : Prop :=
  ∃ (I_2 : Nat → Int32 → Int32 → St → Prop) (n_7 : Nat), I_2 n_7 0 0 C ∧ ∀ (n_1 : Nat) (x2_3 : Int32) (x1_4 : Int32) (D_5 : St), I_2 n_1 x2_3 x1_4 D_5 → ((3 ≤ x2_3 → (x2_3 = 0 → Q (-1) D_5) ∧ (¬ (x2_3 = 0) → Q x1_4 D_5)) ∧ (¬ (3 ≤ x2_3) → q_X3_sign D_5 (fun r_13 => (r_13 < 48 → (x2_3 = 0 → Q (-1) D_5) ∧ (¬ (x2_3 = 0) → Q x1_4 D_5)) ∧ (¬ (r_13 < 48) → q_X3_sign D_5 (fun r_16 => (57 < r_16 → (x2_3 = 0 → Q (-1) D_5) ∧ (¬ (x2_3 = 0) → Q x1_4 D_5)) ∧ (¬ (57 < r_16) → q_X3_sign D_5 (fun r_19 => ∃ n_20, n_20 < n_1 ∧ I_2 n_20 (x2_3 + 1) ((x1_4 * 10) + (r_19 - 48)) (uA D_5 2 (fun _ => ((D_5 2 0) + 1))))))))))
set_option maxHeartbeats 4000000 in
set_option maxRecDepth 100000 in
theorem c_X3_readNumber (l : Launch) (G : va_G) (cI cC cD : ClassId) (k0 k1 : Nat) (sz : Nat) (C : St)  (Q : Int32 → St → Prop) (h : q_X3_readNumber  C Q) : Met l yX3_readNumber wsX3_readNumber ({ frames := 1, cells := 0, slots := 0, locals := 20 }) (va_Pc [.ref k0] (PW G (ty3 cI cC cD) (wS cC k0 k1 C) sz)) (va_Qi Q (BW G (fun u : St => (wS cC k0 k1 u)) (va_A (wS cC k0 k1 C) sz)) (va_A (wS cC k0 k1 C) sz)) 0 0 (va_A (wS cC k0 k1 C) sz) := by
  refine Met.ofW (cc := cX3_readNumber) (maxL := 3) (ret := (some .int)) (by decide) rfl ?_
  intro p e s m args below meth c s₁ B hml hv
  obtain ⟨rfl, hsz, hP, hK, hD0, hN⟩ := hv
  have hx := B.exec
  have hb := B.bytes
  have hr := B.returns
  have hts := atoms_spec (ws := wsX3_readNumber) B.pre
  have hown : s.vm.findClass RX3 = some m.cls := findClass_of_methodNamed B.named
  have hlocks := B.notSynchronized
  subst hsz
  have hD := hD0.self (sz := s.heap.size)
  generalize hAe : va_A (wS cC k0 k1 C) s.heap.size = A at hD ⊢
  have hA : ∀ q : Nat, s.heap.size ≤ q → A q := fun q h => by rw [← hAe]; exact Or.inr h
  have hS : va_S A s.heap s.heap [] := va_S.rf
  have hl := lv_entry ([.ref k0]) (n := 3) (Nat.le_of_ble_eq_true rfl)
  rw [lg_entry_eq]
  generalize (lg_sl ([.ref k0]) ++ List.replicate (3 - (lg_sl ([.ref k0])).length) Slot.unset).toArray = ls at hl ⊢
  have hl : lv_has ls 3 [(0, .ref k0)] := hl
  have hinX3 : ∀ w ∈ wsX30, w ∈ wsX3_readNumber := by decide +kernel
  have hL27 := hts (.fieldLink RX3 27 "CraneGates$Script" "next" "I") (by decide +kernel)
  unfold q_X3_readNumber at h
  refine lv_iconst (v := 0) hx hb dX3_readNumber_0 (by decide) ?_
  refine lv_istore_n (lv' := [(1, .int 0), (0, .ref k0)]) hx hb dX3_readNumber_1 rfl hl (by decide) rfl (fun ls hl => ?_)
  refine lv_iconst (v := 0) hx hb dX3_readNumber_2 (by decide) ?_
  refine lv_istore_n (lv' := [(2, .int 0), (1, .int 0), (0, .ref k0)]) hx hb dX3_readNumber_3 rfl hl (by decide) rfl (fun ls hl => ?_)
  obtain ⟨I_2, n_7, h_8, hI_9⟩ := h
  have lp_10 : ∀ (n_1 : Nat) (x2_3 : Int32) (x1_4 : Int32) (D_5 : St), I_2 n_1 x2_3 x1_4 D_5 → ∀ (H : Heap) (locs : List Loc) (ls : Array Slot), va_P G vwCl (wS cC k0 k1 D_5) H → va_D A (wS cC k0 k1 D_5) → va_S A s.heap H locs → lv_has ls 3 [(2, .int x2_3), (1, .int x1_4), (0, .ref k0)] → W p l e (headSpec wsX3_readNumber ({ frames := 1, cells := 0, slots := 0, locals := 20 })).room s m ([.ref k0] : List Value).toArray below meth c H locs 0 0 (MQ below (va_Qi Q (BW G (fun u : St => (wS cC k0 k1 u)) A) A) ([.ref k0] : List Value).toArray s 0 0 A) (F0 m 4 ls []) := by
    intro n_1
    induction n_1 using Nat.strongRecOn with
    | ind n_1 ih_6 =>
      intro x2_3 x1_4 D_5 hIn H locs ls hP hD hS hl
      have h := hI_9 n_1 x2_3 x1_4 D_5 hIn
      refine lv_iload_n hx hb dX3_readNumber_4 rfl (lv_at hl 0 rfl) ?_
      refine lv_iconst (v := 3) hx hb dX3_readNumber_5 (by decide) ?_
      refine lv_icmp_ge (tgt := 56) hx hb dX3_readNumber_6 (by decide) (fun c_11 => ?_) (fun c_11 => ?_)
      · have h := h.1 c_11
        refine lv_iload_n hx hb dX3_readNumber_56 rfl (lv_at hl 0 rfl) ?_
        refine lv_if_ne (tgt := 64) hx hb dX3_readNumber_57 (by decide) (fun c_12 => ?_) (fun c_12 => ?_)
        · have h := h.2 c_12
          refine lv_iload_n hx hb dX3_readNumber_64 rfl (lv_at hl 1 rfl) ?_
          exact W.iret (v := x1_4) hx hb hr (fun t ht hW => ⟨⟨x1_4, D_5, rfl, h, by rw [ht]; exact hP, hD⟩, hS.F ht⟩) hS.2.2 dX3_readNumber_65
        · have h := h.1 c_12
          refine lv_iconst (v := (-1)) hx hb dX3_readNumber_60 (by decide) ?_
          refine lv_goto (tgt := 65) hx hb dX3_readNumber_61 (by decide) ?_
          exact W.iret (v := (-1)) hx hb hr (fun t ht hW => ⟨⟨(-1), D_5, rfl, h, by rw [ht]; exact hP, hD⟩, hS.F ht⟩) hS.2.2 dX3_readNumber_65
      · have h := h.2 c_11
        refine lv_aload_n hx hb dX3_readNumber_9 rfl (lv_at hl 2 rfl) ?_
        refine kc_i (As := []) (rest := []) (wg := (fun _ => (wS cC k0 k1 D_5))) ⟨hx, hb, hml, hown, hts⟩ (c_X3_sign l G cI cC cD k0 k1 _ D_5  _ h) (cwV 0 hts gX3_readNumber_X3_sign rfl rfl rfl (by decide +kernel) ⟨Nat.le_of_ble_eq_true rfl, Nat.le_of_ble_eq_true rfl⟩) hK hN hP hD hS hA (em_SS cC k0 k1 D_5) (fun _ => rp_self (em_SS cC k0 k1 D_5)) rfl rfl rfl rfl hl.1 rfl (Nat.le_of_ble_eq_true rfl) dX3_readNumber_10 ⟨Nat.zero_le _, Nat.zero_le _⟩ (fun r_13 _ H locs h hP hD hS => ?_)
        refine lv_bipush (v := 48) hx hb dX3_readNumber_13 (by decide) ?_
        refine lv_icmp_lt (tgt := 56) hx hb dX3_readNumber_15 (by decide) (fun c_14 => ?_) (fun c_14 => ?_)
        · have h := h.1 c_14
          refine lv_iload_n hx hb dX3_readNumber_56 rfl (lv_at hl 0 rfl) ?_
          refine lv_if_ne (tgt := 64) hx hb dX3_readNumber_57 (by decide) (fun c_15 => ?_) (fun c_15 => ?_)
          · have h := h.2 c_15
            refine lv_iload_n hx hb dX3_readNumber_64 rfl (lv_at hl 1 rfl) ?_
            exact W.iret (v := x1_4) hx hb hr (fun t ht hW => ⟨⟨x1_4, D_5, rfl, h, by rw [ht]; exact hP, hD⟩, hS.F ht⟩) hS.2.2 dX3_readNumber_65
          · have h := h.1 c_15
            refine lv_iconst (v := (-1)) hx hb dX3_readNumber_60 (by decide) ?_
            refine lv_goto (tgt := 65) hx hb dX3_readNumber_61 (by decide) ?_
            exact W.iret (v := (-1)) hx hb hr (fun t ht hW => ⟨⟨(-1), D_5, rfl, h, by rw [ht]; exact hP, hD⟩, hS.F ht⟩) hS.2.2 dX3_readNumber_65
        · have h := h.2 c_14
          refine lv_aload_n hx hb dX3_readNumber_18 rfl (lv_at hl 2 rfl) ?_
          refine kc_i (As := []) (rest := []) (wg := (fun _ => (wS cC k0 k1 D_5))) ⟨hx, hb, hml, hown, hts⟩ (c_X3_sign l G cI cC cD k0 k1 _ D_5  _ h) (cwV 0 hts gX3_readNumber_X3_sign rfl rfl rfl (by decide +kernel) ⟨Nat.le_of_ble_eq_true rfl, Nat.le_of_ble_eq_true rfl⟩) hK hN hP hD hS hA (em_SS cC k0 k1 D_5) (fun _ => rp_self (em_SS cC k0 k1 D_5)) rfl rfl rfl rfl hl.1 rfl (Nat.le_of_ble_eq_true rfl) dX3_readNumber_19 ⟨Nat.zero_le _, Nat.zero_le _⟩ (fun r_16 _ H locs h hP hD hS => ?_)
          refine lv_bipush (v := 57) hx hb dX3_readNumber_22 (by decide) ?_
          refine lv_icmp_gt (tgt := 56) hx hb dX3_readNumber_24 (by decide) (fun c_17 => ?_) (fun c_17 => ?_)
          · have h := h.1 c_17
            refine lv_iload_n hx hb dX3_readNumber_56 rfl (lv_at hl 0 rfl) ?_
            refine lv_if_ne (tgt := 64) hx hb dX3_readNumber_57 (by decide) (fun c_18 => ?_) (fun c_18 => ?_)
            · have h := h.2 c_18
              refine lv_iload_n hx hb dX3_readNumber_64 rfl (lv_at hl 1 rfl) ?_
              exact W.iret (v := x1_4) hx hb hr (fun t ht hW => ⟨⟨x1_4, D_5, rfl, h, by rw [ht]; exact hP, hD⟩, hS.F ht⟩) hS.2.2 dX3_readNumber_65
            · have h := h.1 c_18
              refine lv_iconst (v := (-1)) hx hb dX3_readNumber_60 (by decide) ?_
              refine lv_goto (tgt := 65) hx hb dX3_readNumber_61 (by decide) ?_
              exact W.iret (v := (-1)) hx hb hr (fun t ht hW => ⟨⟨(-1), D_5, rfl, h, by rw [ht]; exact hP, hD⟩, hS.F ht⟩) hS.2.2 dX3_readNumber_65
          · have h := h.2 c_17
            refine lv_iload_n hx hb dX3_readNumber_27 rfl (lv_at hl 1 rfl) ?_
            refine lv_bipush (v := 10) hx hb dX3_readNumber_28 (by decide) ?_
            refine lv_imul hx hb dX3_readNumber_30 ?_
            refine lv_aload_n hx hb dX3_readNumber_31 rfl (lv_at hl 2 rfl) ?_
            refine kc_i (As := []) (rest := [.int (x1_4 * 10)]) (wg := (fun _ => (wS cC k0 k1 D_5))) ⟨hx, hb, hml, hown, hts⟩ (c_X3_sign l G cI cC cD k0 k1 _ D_5  _ h) (cwV 0 hts gX3_readNumber_X3_sign rfl rfl rfl (by decide +kernel) ⟨Nat.le_of_ble_eq_true rfl, Nat.le_of_ble_eq_true rfl⟩) hK hN hP hD hS hA (em_SS cC k0 k1 D_5) (fun _ => rp_self (em_SS cC k0 k1 D_5)) rfl rfl rfl rfl hl.1 rfl (Nat.le_of_ble_eq_true rfl) dX3_readNumber_32 ⟨Nat.zero_le _, Nat.zero_le _⟩ (fun r_19 _ H locs h hP hD hS => ?_)
            refine lv_bipush (v := 48) hx hb dX3_readNumber_35 (by decide) ?_
            refine lv_isub hx hb dX3_readNumber_37 ?_
            refine lv_iadd hx hb dX3_readNumber_38 ?_
            refine lv_istore_n (lv' := [(1, .int ((x1_4 * 10) + (r_19 - 48))), (2, .int x2_3), (0, .ref k0)]) hx hb dX3_readNumber_39 rfl hl (by decide) rfl (fun ls hl => ?_)
            refine lv_iinc (v := x2_3 + 1) (lv' := [(2, .int (x2_3 + 1)), (1, .int ((x1_4 * 10) + (r_19 - 48))), (0, .ref k0)]) hx hb dX3_readNumber_40 hl (k := 1) rfl rfl (by decide) rfl (fun ls hl => ?_)
            refine lv_aload_n hx hb dX3_readNumber_43 rfl (lv_at hl 2 rfl) ?_
            refine lv_dup hx hb dX3_readNumber_44 rfl ?_
            refine va_get (D := G) (ci := 3) (v := .int (D_5 2 0)) (C := RX3) (T := TX3) (N := 8) hx hb hts hinX3 hown hK hP 0 rfl rfl 2 (by decide) hL27 (fun _ h9 => h9) rfl dX3_readNumber_45 ?_
            refine lv_iconst (v := 1) hx hb dX3_readNumber_48 (by decide) ?_
            refine lv_iadd hx hb dX3_readNumber_49 ?_
            refine va_put (D := G) (ci := 3) (v := .int ((D_5 2 0) + 1)) (ty := .int) (C := RX3) (T := TX3) (N := 8) hx hb hts hinX3 tyX3 tyX3_ok nmX3 hown hK hP hD hS 0 rfl rfl 2 (by decide) hL27 (fun _ h9 => h9) rfl (by decide +kernel) rfl rfl (Nat.le_of_ble_eq_true rfl) dX3_readNumber_50 (fun H locs hP hD hS => ?_)
            have hP : va_P G vwCl (wS cC k0 k1 (uA D_5 2 (fun _ => ((D_5 2 0) + 1)))) H := hP
            have hD : va_D A (wS cC k0 k1 (uA D_5 2 (fun _ => ((D_5 2 0) + 1)))) := hD
            refine lv_goto (tgt := 4) hx hb dX3_readNumber_53 (by decide) ?_
            obtain ⟨n_20, lt_21, h_22⟩ := h
            exact ih_6 n_20 lt_21 _ _ _ h_22 _ _ _ hP hD hS (lv_sub hl [0, 1, 2] rfl)
  exact lp_10 _ _ _ _ h_8 _ _ _ hP hD hS hl
def q_X3_readSign (x : Int32) (C : St) (Q : Int32 → St → Prop) : Prop :=
  q_X3_sign C (fun r_1 => (r_1 = x → Q 1 (uA C 2 (fun _ => ((C 2 0) + 1)))) ∧ (¬ (r_1 = x) → Q 0 (uA C 2 (fun _ => ((C 2 0) + 1)))))
set_option maxHeartbeats 4000000 in
set_option maxRecDepth 100000 in
theorem c_X3_readSign (l : Launch) (G : va_G) (cI cC cD : ClassId) (k0 k1 : Nat) (sz : Nat) (C : St) (x : Int32) (Q : Int32 → St → Prop) (h : q_X3_readSign x C Q) : Met l yX3_readSign wsX3_readSign ({ frames := 1, cells := 0, slots := 0, locals := 20 }) (va_Pc [.ref k0, .int x] (PW G (ty3 cI cC cD) (wS cC k0 k1 C) sz)) (va_Qi Q (BW G (fun u : St => (wS cC k0 k1 u)) (va_A (wS cC k0 k1 C) sz)) (va_A (wS cC k0 k1 C) sz)) 0 0 (va_A (wS cC k0 k1 C) sz) := by
  refine Met.ofW (cc := cX3_readSign) (maxL := 3) (ret := (some .boolean)) (by decide) rfl ?_
  intro p e s m args below meth c s₁ B hml hv
  obtain ⟨rfl, hsz, hP, hK, hD0, hN⟩ := hv
  have hx := B.exec
  have hb := B.bytes
  have hr := B.returns
  have hts := atoms_spec (ws := wsX3_readSign) B.pre
  have hown : s.vm.findClass RX3 = some m.cls := findClass_of_methodNamed B.named
  have hlocks := B.notSynchronized
  subst hsz
  have hD := hD0.self (sz := s.heap.size)
  generalize hAe : va_A (wS cC k0 k1 C) s.heap.size = A at hD ⊢
  have hA : ∀ q : Nat, s.heap.size ≤ q → A q := fun q h => by rw [← hAe]; exact Or.inr h
  have hS : va_S A s.heap s.heap [] := va_S.rf
  have hl := lv_entry ([.ref k0, .int x]) (n := 3) (Nat.le_of_ble_eq_true rfl)
  rw [lg_entry_eq]
  generalize (lg_sl ([.ref k0, .int x]) ++ List.replicate (3 - (lg_sl ([.ref k0, .int x])).length) Slot.unset).toArray = ls at hl ⊢
  have hl : lv_has ls 3 [(0, .ref k0), (1, .int x)] := hl
  have hinX3 : ∀ w ∈ wsX30, w ∈ wsX3_readSign := by decide +kernel
  have hL27 := hts (.fieldLink RX3 27 "CraneGates$Script" "next" "I") (by decide +kernel)
  unfold q_X3_readSign at h
  refine lv_aload_n hx hb dX3_readSign_0 rfl (lv_at hl 0 rfl) ?_
  refine kc_i (As := []) (rest := []) (wg := (fun _ => (wS cC k0 k1 C))) ⟨hx, hb, hml, hown, hts⟩ (c_X3_sign l G cI cC cD k0 k1 _ C  _ h) (cwV 0 hts gX3_readSign_X3_sign rfl rfl rfl (by decide +kernel) ⟨Nat.le_of_ble_eq_true rfl, Nat.le_of_ble_eq_true rfl⟩) hK hN hP hD hS hA (em_SS cC k0 k1 C) (fun _ => rp_self (em_SS cC k0 k1 C)) rfl rfl rfl rfl hl.1 rfl (Nat.le_of_ble_eq_true rfl) dX3_readSign_1 ⟨Nat.zero_le _, Nat.zero_le _⟩ (fun r_1 _ H locs h hP hD hS => ?_)
  refine lv_iload_n hx hb dX3_readSign_4 rfl (lv_at hl 1 rfl) ?_
  refine lv_icmp_ne (tgt := 12) hx hb dX3_readSign_5 (by decide) (fun c_2 => ?_) (fun c_2 => ?_)
  · have h := h.2 c_2
    refine lv_iconst (v := 0) hx hb dX3_readSign_12 (by decide) ?_
    refine lv_istore_n (lv' := [(2, .int 0), (0, .ref k0), (1, .int x)]) hx hb dX3_readSign_13 rfl hl (by decide) rfl (fun ls hl => ?_)
    refine lv_aload_n hx hb dX3_readSign_14 rfl (lv_at hl 1 rfl) ?_
    refine lv_dup hx hb dX3_readSign_15 rfl ?_
    refine va_get (D := G) (ci := 3) (v := .int (C 2 0)) (C := RX3) (T := TX3) (N := 8) hx hb hts hinX3 hown hK hP 0 rfl rfl 2 (by decide) hL27 (fun _ h9 => h9) rfl dX3_readSign_16 ?_
    refine lv_iconst (v := 1) hx hb dX3_readSign_19 (by decide) ?_
    refine lv_iadd hx hb dX3_readSign_20 ?_
    refine va_put (D := G) (ci := 3) (v := .int ((C 2 0) + 1)) (ty := .int) (C := RX3) (T := TX3) (N := 8) hx hb hts hinX3 tyX3 tyX3_ok nmX3 hown hK hP hD hS 0 rfl rfl 2 (by decide) hL27 (fun _ h9 => h9) rfl (by decide +kernel) rfl rfl (Nat.le_of_ble_eq_true rfl) dX3_readSign_21 (fun H locs hP hD hS => ?_)
    have hP : va_P G vwCl (wS cC k0 k1 (uA C 2 (fun _ => ((C 2 0) + 1)))) H := hP
    have hD : va_D A (wS cC k0 k1 (uA C 2 (fun _ => ((C 2 0) + 1)))) := hD
    refine lv_iload_n hx hb dX3_readSign_24 rfl (lv_at hl 0 rfl) ?_
    exact W.zret (v := 0) hx hb hr rfl (fun t ht hW => ⟨⟨0, (uA C 2 (fun _ => ((C 2 0) + 1))), rfl, h, by rw [ht]; exact hP, hD⟩, hS.F ht⟩) hS.2.2 dX3_readSign_25
  · have h := h.1 c_2
    refine lv_iconst (v := 1) hx hb dX3_readSign_8 (by decide) ?_
    refine lv_goto (tgt := 13) hx hb dX3_readSign_9 (by decide) ?_
    refine lv_istore_n (lv' := [(2, .int 1), (0, .ref k0), (1, .int x)]) hx hb dX3_readSign_13 rfl hl (by decide) rfl (fun ls hl => ?_)
    refine lv_aload_n hx hb dX3_readSign_14 rfl (lv_at hl 1 rfl) ?_
    refine lv_dup hx hb dX3_readSign_15 rfl ?_
    refine va_get (D := G) (ci := 3) (v := .int (C 2 0)) (C := RX3) (T := TX3) (N := 8) hx hb hts hinX3 hown hK hP 0 rfl rfl 2 (by decide) hL27 (fun _ h9 => h9) rfl dX3_readSign_16 ?_
    refine lv_iconst (v := 1) hx hb dX3_readSign_19 (by decide) ?_
    refine lv_iadd hx hb dX3_readSign_20 ?_
    refine va_put (D := G) (ci := 3) (v := .int ((C 2 0) + 1)) (ty := .int) (C := RX3) (T := TX3) (N := 8) hx hb hts hinX3 tyX3 tyX3_ok nmX3 hown hK hP hD hS 0 rfl rfl 2 (by decide) hL27 (fun _ h9 => h9) rfl (by decide +kernel) rfl rfl (Nat.le_of_ble_eq_true rfl) dX3_readSign_21 (fun H locs hP hD hS => ?_)
    have hP : va_P G vwCl (wS cC k0 k1 (uA C 2 (fun _ => ((C 2 0) + 1)))) H := hP
    have hD : va_D A (wS cC k0 k1 (uA C 2 (fun _ => ((C 2 0) + 1)))) := hD
    refine lv_iload_n hx hb dX3_readSign_24 rfl (lv_at hl 0 rfl) ?_
    exact W.zret (v := 1) hx hb hr rfl (fun t ht hW => ⟨⟨1, (uA C 2 (fun _ => ((C 2 0) + 1))), rfl, h, by rw [ht]; exact hP, hD⟩, hS.F ht⟩) hS.2.2 dX3_readSign_25
def q_X3_readOrder (C : St) (Q : Int32 → St → Prop) : Prop :=
  q_X3_sign C (fun r_1 => isC r_1 ∧ ((r_1 = 111 → q_X3_readNumber (uA (uA C 3 (fun _ => r_1)) 2 (fun _ => ((C 2 0) + 1))) (fun r_4 u_5 => (r_4 = (-1) → Q 0 (uA u_5 4 (fun _ => r_4))) ∧ (¬ (r_4 = (-1)) → q_X3_readSign 44 (uA u_5 4 (fun _ => r_4)) (fun r_7 u_8 => (r_7 = 0 → Q 0 u_8) ∧ (¬ (r_7 = 0) → q_X3_readNumber u_8 (fun r_10 u_11 => (r_10 = (-1) → Q 0 (uA u_11 5 (fun _ => r_10))) ∧ (¬ (r_10 = (-1)) → q_X3_readSign 59 (uA u_11 5 (fun _ => r_10)) (fun r_13 u_14 => isZ r_13 ∧ (Q r_13 u_14))))))))) ∧ (¬ (r_1 = 111) → (r_1 = 119 → q_X3_readNumber (uA (uA C 3 (fun _ => r_1)) 2 (fun _ => ((C 2 0) + 1))) (fun r_38 u_39 => (r_38 = (-1) → Q 0 (uA u_39 4 (fun _ => r_38))) ∧ (¬ (r_38 = (-1)) → q_X3_readSign 44 (uA u_39 4 (fun _ => r_38)) (fun r_41 u_42 => (r_41 = 0 → Q 0 u_42) ∧ (¬ (r_41 = 0) → q_X3_readNumber u_42 (fun r_44 u_45 => (r_44 = (-1) → Q 0 (uA u_45 5 (fun _ => r_44))) ∧ (¬ (r_44 = (-1)) → q_X3_readSign 59 (uA u_45 5 (fun _ => r_44)) (fun r_47 u_48 => isZ r_47 ∧ (Q r_47 u_48))))))))) ∧ (¬ (r_1 = 119) → (r_1 = 105 → q_X3_readNumber (uA (uA C 3 (fun _ => r_1)) 2 (fun _ => ((C 2 0) + 1))) (fun r_18 u_19 => (r_18 = (-1) → Q 0 (uA u_19 4 (fun _ => r_18))) ∧ (¬ (r_18 = (-1)) → q_X3_readSign 59 (uA u_19 4 (fun _ => r_18)) (fun r_21 u_22 => isZ r_21 ∧ (Q r_21 u_22))))) ∧ (¬ (r_1 = 105) → (r_1 = 112 → q_X3_readNumber (uA (uA C 3 (fun _ => r_1)) 2 (fun _ => ((C 2 0) + 1))) (fun r_25 u_26 => (r_25 = (-1) → Q 0 (uA u_26 4 (fun _ => r_25))) ∧ (¬ (r_25 = (-1)) → q_X3_readSign 59 (uA u_26 4 (fun _ => r_25)) (fun r_28 u_29 => isZ r_28 ∧ (Q r_28 u_29))))) ∧ (¬ (r_1 = 112) → (r_1 = 120 → q_X3_readNumber (uA (uA C 3 (fun _ => r_1)) 2 (fun _ => ((C 2 0) + 1))) (fun r_32 u_33 => (r_32 = (-1) → Q 0 (uA u_33 4 (fun _ => r_32))) ∧ (¬ (r_32 = (-1)) → q_X3_readSign 59 (uA u_33 4 (fun _ => r_32)) (fun r_35 u_36 => isZ r_35 ∧ (Q r_35 u_36))))) ∧ (¬ (r_1 = 120) → Q 0 (uA (uA C 3 (fun _ => r_1)) 2 (fun _ => ((C 2 0) + 1))))))))))
set_option maxHeartbeats 4000000 in
set_option maxRecDepth 100000 in
theorem c_X3_readOrder (l : Launch) (G : va_G) (cI cC cD : ClassId) (k0 k1 : Nat) (sz : Nat) (C : St)  (Q : Int32 → St → Prop) (h : q_X3_readOrder  C Q) : Met l yX3_readOrder wsX3_readOrder ({ frames := 2, cells := 0, slots := 0, locals := 42 }) (va_Pc [.ref k0] (PW G (ty3 cI cC cD) (wS cC k0 k1 C) sz)) (va_Qi Q (BW G (fun u : St => (wS cC k0 k1 u)) (va_A (wS cC k0 k1 C) sz)) (va_A (wS cC k0 k1 C) sz)) 0 0 (va_A (wS cC k0 k1 C) sz) := by
  refine Met.ofW (cc := cX3_readOrder) (maxL := 2) (ret := (some .boolean)) (by decide) rfl ?_
  intro p e s m args below meth c s₁ B hml hv
  obtain ⟨rfl, hsz, hP, hK, hD0, hN⟩ := hv
  have hx := B.exec
  have hb := B.bytes
  have hr := B.returns
  have hts := atoms_spec (ws := wsX3_readOrder) B.pre
  have hown : s.vm.findClass RX3 = some m.cls := findClass_of_methodNamed B.named
  have hlocks := B.notSynchronized
  subst hsz
  have hD := hD0.self (sz := s.heap.size)
  generalize hAe : va_A (wS cC k0 k1 C) s.heap.size = A at hD ⊢
  have hA : ∀ q : Nat, s.heap.size ≤ q → A q := fun q h => by rw [← hAe]; exact Or.inr h
  have hS : va_S A s.heap s.heap [] := va_S.rf
  have hl := lv_entry ([.ref k0]) (n := 2) (Nat.le_of_ble_eq_true rfl)
  rw [lg_entry_eq]
  generalize (lg_sl ([.ref k0]) ++ List.replicate (2 - (lg_sl ([.ref k0])).length) Slot.unset).toArray = ls at hl ⊢
  have hl : lv_has ls 2 [(0, .ref k0)] := hl
  have hinX3 : ∀ w ∈ wsX30, w ∈ wsX3_readOrder := by decide +kernel
  have hL27 := hts (.fieldLink RX3 27 "CraneGates$Script" "next" "I") (by decide +kernel)
  have hL46 := hts (.fieldLink RX3 46 "CraneGates$Script" "letter" "C") (by decide +kernel)
  have hL50 := hts (.fieldLink RX3 50 "CraneGates$Script" "first" "I") (by decide +kernel)
  have hL53 := hts (.fieldLink RX3 53 "CraneGates$Script" "second" "I") (by decide +kernel)
  unfold q_X3_readOrder at h
  refine lv_aload_n hx hb dX3_readOrder_0 rfl (lv_at hl 0 rfl) ?_
  refine lv_aload_n hx hb dX3_readOrder_1 rfl (lv_at hl 0 rfl) ?_
  refine kc_i (As := []) (rest := [.ref k0]) (wg := (fun _ => (wS cC k0 k1 C))) ⟨hx, hb, hml, hown, hts⟩ (c_X3_sign l G cI cC cD k0 k1 _ C  _ h) (cwV 0 hts gX3_readOrder_X3_sign rfl rfl rfl (by decide +kernel) ⟨Nat.le_of_ble_eq_true rfl, Nat.le_of_ble_eq_true rfl⟩) hK hN hP hD hS hA (em_SS cC k0 k1 C) (fun _ => rp_self (em_SS cC k0 k1 C)) rfl rfl rfl rfl hl.1 rfl (Nat.le_of_ble_eq_true rfl) dX3_readOrder_2 ⟨Nat.zero_le _, Nat.zero_le _⟩ (fun r_1 _ H locs h hP hD hS => ?_)
  obtain ⟨hz_2, h⟩ := h
  refine va_put (D := G) (ci := 3) (v := .int r_1) (ty := .char) (C := RX3) (T := TX3) (N := 8) hx hb hts hinX3 tyX3 tyX3_ok nmX3 hown hK hP hD hS 0 rfl rfl 3 (by decide) hL46 (fun _ h9 => h9) rfl (by decide +kernel) hz_2.1 hz_2.2 (Nat.le_of_ble_eq_true rfl) dX3_readOrder_5 (fun H locs hP hD hS => ?_)
  have hP : va_P G vwCl (wS cC k0 k1 (uA C 3 (fun _ => r_1))) H := hP
  have hD : va_D A (wS cC k0 k1 (uA C 3 (fun _ => r_1))) := hD
  refine lv_aload_n hx hb dX3_readOrder_8 rfl (lv_at hl 0 rfl) ?_
  refine lv_dup hx hb dX3_readOrder_9 rfl ?_
  refine va_get (D := G) (ci := 3) (v := .int (C 2 0)) (C := RX3) (T := TX3) (N := 8) hx hb hts hinX3 hown hK hP 0 rfl rfl 2 (by decide) hL27 (fun _ h9 => h9) rfl dX3_readOrder_10 ?_
  refine lv_iconst (v := 1) hx hb dX3_readOrder_13 (by decide) ?_
  refine lv_iadd hx hb dX3_readOrder_14 ?_
  refine va_put (D := G) (ci := 3) (v := .int ((C 2 0) + 1)) (ty := .int) (C := RX3) (T := TX3) (N := 8) hx hb hts hinX3 tyX3 tyX3_ok nmX3 hown hK hP hD hS 0 rfl rfl 2 (by decide) hL27 (fun _ h9 => h9) rfl (by decide +kernel) rfl rfl (Nat.le_of_ble_eq_true rfl) dX3_readOrder_15 (fun H locs hP hD hS => ?_)
  have hP : va_P G vwCl (wS cC k0 k1 (uA (uA C 3 (fun _ => r_1)) 2 (fun _ => ((C 2 0) + 1)))) H := hP
  have hD : va_D A (wS cC k0 k1 (uA (uA C 3 (fun _ => r_1)) 2 (fun _ => ((C 2 0) + 1)))) := hD
  refine lv_aload_n hx hb dX3_readOrder_18 rfl (lv_at hl 0 rfl) ?_
  refine va_get (D := G) (ci := 3) (v := .int r_1) (C := RX3) (T := TX3) (N := 8) hx hb hts hinX3 hown hK hP 0 rfl rfl 3 (by decide) hL46 (fun _ h9 => h9) rfl dX3_readOrder_19 ?_
  refine lv_bipush (v := 111) hx hb dX3_readOrder_22 (by decide) ?_
  refine lv_icmp_eq (tgt := 36) hx hb dX3_readOrder_24 (by decide) (fun c_3 => ?_) (fun c_3 => ?_)
  · have h := h.1 c_3
    refine lv_iconst (v := 1) hx hb dX3_readOrder_36 (by decide) ?_
    refine lv_goto (tgt := 41) hx hb dX3_readOrder_37 (by decide) ?_
    refine lv_istore_n (lv' := [(1, .int 1), (0, .ref k0)]) hx hb dX3_readOrder_41 rfl hl (by decide) rfl (fun ls hl => ?_)
    refine lv_iload_n hx hb dX3_readOrder_42 rfl (lv_at hl 0 rfl) ?_
    refine lv_if_ne (tgt := 75) hx hb dX3_readOrder_43 (by decide) (fun _ => ?_) (fun c => absurd c (by decide))
    refine lv_aload_n hx hb dX3_readOrder_75 rfl (lv_at hl 1 rfl) ?_
    refine lv_aload_n hx hb dX3_readOrder_76 rfl (lv_at hl 1 rfl) ?_
    refine kc_i (As := []) (rest := [.ref k0]) (wg := (fun u => (wS cC k0 k1 u))) ⟨hx, hb, hml, hown, hts⟩ (c_X3_readNumber l G cI cC cD k0 k1 _ (uA (uA C 3 (fun _ => r_1)) 2 (fun _ => ((C 2 0) + 1)))  _ h) (cwV 0 hts gX3_readOrder_X3_readNumber rfl rfl rfl (by decide +kernel) ⟨Nat.le_of_ble_eq_true rfl, Nat.le_of_ble_eq_true rfl⟩) hK hN hP hD hS hA (em_SS cC k0 k1 (uA (uA C 3 (fun _ => r_1)) 2 (fun _ => ((C 2 0) + 1)))) (fun u => rp_SS cC k0 k1 (uA (uA C 3 (fun _ => r_1)) 2 (fun _ => ((C 2 0) + 1))) u) rfl rfl rfl rfl hl.1 rfl (Nat.le_of_ble_eq_true rfl) dX3_readOrder_77 ⟨Nat.zero_le _, Nat.zero_le _⟩ (fun r_4 u_5 H locs h hP hD hS => ?_)
    refine va_put (D := G) (ci := 3) (v := .int r_4) (ty := .int) (C := RX3) (T := TX3) (N := 8) hx hb hts hinX3 tyX3 tyX3_ok nmX3 hown hK hP hD hS 0 rfl rfl 4 (by decide) hL50 (fun _ h9 => h9) rfl (by decide +kernel) rfl rfl (Nat.le_of_ble_eq_true rfl) dX3_readOrder_80 (fun H locs hP hD hS => ?_)
    have hP : va_P G vwCl (wS cC k0 k1 (uA u_5 4 (fun _ => r_4))) H := hP
    have hD : va_D A (wS cC k0 k1 (uA u_5 4 (fun _ => r_4))) := hD
    refine lv_aload_n hx hb dX3_readOrder_83 rfl (lv_at hl 1 rfl) ?_
    refine va_get (D := G) (ci := 3) (v := .int r_4) (C := RX3) (T := TX3) (N := 8) hx hb hts hinX3 hown hK hP 0 rfl rfl 4 (by decide) hL50 (fun _ h9 => h9) rfl dX3_readOrder_84 ?_
    refine lv_iconst (v := (-1)) hx hb dX3_readOrder_87 (by decide) ?_
    refine lv_icmp_ne (tgt := 93) hx hb dX3_readOrder_88 (by decide) (fun c_6 => ?_) (fun c_6 => ?_)
    · have h := h.2 c_6
      refine lv_iload_n hx hb dX3_readOrder_93 rfl (lv_at hl 0 rfl) ?_
      refine lv_if_eq (tgt := 126) hx hb dX3_readOrder_94 (by decide) (fun c => absurd c (by decide)) (fun _ => ?_)
      refine lv_aload_n hx hb dX3_readOrder_97 rfl (lv_at hl 1 rfl) ?_
      refine lv_bipush (v := 44) hx hb dX3_readOrder_98 (by decide) ?_
      refine kc_i (As := [.int 44]) (rest := []) (wg := (fun u => (wS cC k0 k1 u))) ⟨hx, hb, hml, hown, hts⟩ (c_X3_readSign l G cI cC cD k0 k1 _ (uA u_5 4 (fun _ => r_4)) 44 _ h) (cwV 1 hts gX3_readOrder_X3_readSign rfl rfl rfl (by decide +kernel) ⟨Nat.le_of_ble_eq_true rfl, Nat.le_of_ble_eq_true rfl⟩) hK hN hP hD hS hA (em_SS cC k0 k1 (uA u_5 4 (fun _ => r_4))) (fun u => rp_SS cC k0 k1 (uA u_5 4 (fun _ => r_4)) u) rfl rfl rfl rfl hl.1 rfl (Nat.le_of_ble_eq_true rfl) dX3_readOrder_100 ⟨Nat.zero_le _, Nat.zero_le _⟩ (fun r_7 u_8 H locs h hP hD hS => ?_)
      refine lv_if_ne (tgt := 108) hx hb dX3_readOrder_103 (by decide) (fun c_9 => ?_) (fun c_9 => ?_)
      · have h := h.2 c_9
        refine lv_aload_n hx hb dX3_readOrder_108 rfl (lv_at hl 1 rfl) ?_
        refine lv_aload_n hx hb dX3_readOrder_109 rfl (lv_at hl 1 rfl) ?_
        refine kc_i (As := []) (rest := [.ref k0]) (wg := (fun u => (wS cC k0 k1 u))) ⟨hx, hb, hml, hown, hts⟩ (c_X3_readNumber l G cI cC cD k0 k1 _ u_8  _ h) (cwV 0 hts gX3_readOrder_X3_readNumber rfl rfl rfl (by decide +kernel) ⟨Nat.le_of_ble_eq_true rfl, Nat.le_of_ble_eq_true rfl⟩) hK hN hP hD hS hA (em_SS cC k0 k1 u_8) (fun u => rp_SS cC k0 k1 u_8 u) rfl rfl rfl rfl hl.1 rfl (Nat.le_of_ble_eq_true rfl) dX3_readOrder_110 ⟨Nat.zero_le _, Nat.zero_le _⟩ (fun r_10 u_11 H locs h hP hD hS => ?_)
        refine va_put (D := G) (ci := 3) (v := .int r_10) (ty := .int) (C := RX3) (T := TX3) (N := 8) hx hb hts hinX3 tyX3 tyX3_ok nmX3 hown hK hP hD hS 0 rfl rfl 5 (by decide) hL53 (fun _ h9 => h9) rfl (by decide +kernel) rfl rfl (Nat.le_of_ble_eq_true rfl) dX3_readOrder_113 (fun H locs hP hD hS => ?_)
        have hP : va_P G vwCl (wS cC k0 k1 (uA u_11 5 (fun _ => r_10))) H := hP
        have hD : va_D A (wS cC k0 k1 (uA u_11 5 (fun _ => r_10))) := hD
        refine lv_aload_n hx hb dX3_readOrder_116 rfl (lv_at hl 1 rfl) ?_
        refine va_get (D := G) (ci := 3) (v := .int r_10) (C := RX3) (T := TX3) (N := 8) hx hb hts hinX3 hown hK hP 0 rfl rfl 5 (by decide) hL53 (fun _ h9 => h9) rfl dX3_readOrder_117 ?_
        refine lv_iconst (v := (-1)) hx hb dX3_readOrder_120 (by decide) ?_
        refine lv_icmp_ne (tgt := 126) hx hb dX3_readOrder_121 (by decide) (fun c_12 => ?_) (fun c_12 => ?_)
        · have h := h.2 c_12
          refine lv_aload_n hx hb dX3_readOrder_126 rfl (lv_at hl 1 rfl) ?_
          refine lv_bipush (v := 59) hx hb dX3_readOrder_127 (by decide) ?_
          refine kc_i (As := [.int 59]) (rest := []) (wg := (fun u => (wS cC k0 k1 u))) ⟨hx, hb, hml, hown, hts⟩ (c_X3_readSign l G cI cC cD k0 k1 _ (uA u_11 5 (fun _ => r_10)) 59 _ h) (cwV 1 hts gX3_readOrder_X3_readSign rfl rfl rfl (by decide +kernel) ⟨Nat.le_of_ble_eq_true rfl, Nat.le_of_ble_eq_true rfl⟩) hK hN hP hD hS hA (em_SS cC k0 k1 (uA u_11 5 (fun _ => r_10))) (fun u => rp_SS cC k0 k1 (uA u_11 5 (fun _ => r_10)) u) rfl rfl rfl rfl hl.1 rfl (Nat.le_of_ble_eq_true rfl) dX3_readOrder_129 ⟨Nat.zero_le _, Nat.zero_le _⟩ (fun r_13 u_14 H locs h hP hD hS => ?_)
          obtain ⟨hz_15, h⟩ := h
          exact W.zret (v := r_13) hx hb hr (isZ_n hz_15) (fun t ht hW => ⟨⟨r_13, u_14, rfl, h, by rw [ht]; exact hP, hD⟩, hS.F ht⟩) hS.2.2 dX3_readOrder_132
        · have h := h.1 c_12
          refine lv_iconst (v := 0) hx hb dX3_readOrder_124 (by decide) ?_
          exact W.zret (v := 0) hx hb hr rfl (fun t ht hW => ⟨⟨0, (uA u_11 5 (fun _ => r_10)), rfl, h, by rw [ht]; exact hP, hD⟩, hS.F ht⟩) hS.2.2 dX3_readOrder_125
      · have h := h.1 c_9
        refine lv_iconst (v := 0) hx hb dX3_readOrder_106 (by decide) ?_
        exact W.zret (v := 0) hx hb hr rfl (fun t ht hW => ⟨⟨0, u_8, rfl, h, by rw [ht]; exact hP, hD⟩, hS.F ht⟩) hS.2.2 dX3_readOrder_107
    · have h := h.1 c_6
      refine lv_iconst (v := 0) hx hb dX3_readOrder_91 (by decide) ?_
      exact W.zret (v := 0) hx hb hr rfl (fun t ht hW => ⟨⟨0, (uA u_5 4 (fun _ => r_4)), rfl, h, by rw [ht]; exact hP, hD⟩, hS.F ht⟩) hS.2.2 dX3_readOrder_92
  · have h := h.2 c_3
    refine lv_aload_n hx hb dX3_readOrder_27 rfl (lv_at hl 0 rfl) ?_
    refine va_get (D := G) (ci := 3) (v := .int r_1) (C := RX3) (T := TX3) (N := 8) hx hb hts hinX3 hown hK hP 0 rfl rfl 3 (by decide) hL46 (fun _ h9 => h9) rfl dX3_readOrder_28 ?_
    refine lv_bipush (v := 119) hx hb dX3_readOrder_31 (by decide) ?_
    refine lv_icmp_ne (tgt := 40) hx hb dX3_readOrder_33 (by decide) (fun c_16 => ?_) (fun c_16 => ?_)
    · have h := h.2 c_16
      refine lv_iconst (v := 0) hx hb dX3_readOrder_40 (by decide) ?_
      refine lv_istore_n (lv' := [(1, .int 0), (0, .ref k0)]) hx hb dX3_readOrder_41 rfl hl (by decide) rfl (fun ls hl => ?_)
      refine lv_iload_n hx hb dX3_readOrder_42 rfl (lv_at hl 0 rfl) ?_
      refine lv_if_ne (tgt := 75) hx hb dX3_readOrder_43 (by decide) (fun c => absurd c (by decide)) (fun _ => ?_)
      refine lv_aload_n hx hb dX3_readOrder_46 rfl (lv_at hl 1 rfl) ?_
      refine va_get (D := G) (ci := 3) (v := .int r_1) (C := RX3) (T := TX3) (N := 8) hx hb hts hinX3 hown hK hP 0 rfl rfl 3 (by decide) hL46 (fun _ h9 => h9) rfl dX3_readOrder_47 ?_
      refine lv_bipush (v := 105) hx hb dX3_readOrder_50 (by decide) ?_
      refine lv_icmp_eq (tgt := 75) hx hb dX3_readOrder_52 (by decide) (fun c_17 => ?_) (fun c_17 => ?_)
      · have h := h.1 c_17
        refine lv_aload_n hx hb dX3_readOrder_75 rfl (lv_at hl 1 rfl) ?_
        refine lv_aload_n hx hb dX3_readOrder_76 rfl (lv_at hl 1 rfl) ?_
        refine kc_i (As := []) (rest := [.ref k0]) (wg := (fun u => (wS cC k0 k1 u))) ⟨hx, hb, hml, hown, hts⟩ (c_X3_readNumber l G cI cC cD k0 k1 _ (uA (uA C 3 (fun _ => r_1)) 2 (fun _ => ((C 2 0) + 1)))  _ h) (cwV 0 hts gX3_readOrder_X3_readNumber rfl rfl rfl (by decide +kernel) ⟨Nat.le_of_ble_eq_true rfl, Nat.le_of_ble_eq_true rfl⟩) hK hN hP hD hS hA (em_SS cC k0 k1 (uA (uA C 3 (fun _ => r_1)) 2 (fun _ => ((C 2 0) + 1)))) (fun u => rp_SS cC k0 k1 (uA (uA C 3 (fun _ => r_1)) 2 (fun _ => ((C 2 0) + 1))) u) rfl rfl rfl rfl hl.1 rfl (Nat.le_of_ble_eq_true rfl) dX3_readOrder_77 ⟨Nat.zero_le _, Nat.zero_le _⟩ (fun r_18 u_19 H locs h hP hD hS => ?_)
        refine va_put (D := G) (ci := 3) (v := .int r_18) (ty := .int) (C := RX3) (T := TX3) (N := 8) hx hb hts hinX3 tyX3 tyX3_ok nmX3 hown hK hP hD hS 0 rfl rfl 4 (by decide) hL50 (fun _ h9 => h9) rfl (by decide +kernel) rfl rfl (Nat.le_of_ble_eq_true rfl) dX3_readOrder_80 (fun H locs hP hD hS => ?_)
        have hP : va_P G vwCl (wS cC k0 k1 (uA u_19 4 (fun _ => r_18))) H := hP
        have hD : va_D A (wS cC k0 k1 (uA u_19 4 (fun _ => r_18))) := hD
        refine lv_aload_n hx hb dX3_readOrder_83 rfl (lv_at hl 1 rfl) ?_
        refine va_get (D := G) (ci := 3) (v := .int r_18) (C := RX3) (T := TX3) (N := 8) hx hb hts hinX3 hown hK hP 0 rfl rfl 4 (by decide) hL50 (fun _ h9 => h9) rfl dX3_readOrder_84 ?_
        refine lv_iconst (v := (-1)) hx hb dX3_readOrder_87 (by decide) ?_
        refine lv_icmp_ne (tgt := 93) hx hb dX3_readOrder_88 (by decide) (fun c_20 => ?_) (fun c_20 => ?_)
        · have h := h.2 c_20
          refine lv_iload_n hx hb dX3_readOrder_93 rfl (lv_at hl 0 rfl) ?_
          refine lv_if_eq (tgt := 126) hx hb dX3_readOrder_94 (by decide) (fun _ => ?_) (fun c => absurd c (by decide))
          refine lv_aload_n hx hb dX3_readOrder_126 rfl (lv_at hl 1 rfl) ?_
          refine lv_bipush (v := 59) hx hb dX3_readOrder_127 (by decide) ?_
          refine kc_i (As := [.int 59]) (rest := []) (wg := (fun u => (wS cC k0 k1 u))) ⟨hx, hb, hml, hown, hts⟩ (c_X3_readSign l G cI cC cD k0 k1 _ (uA u_19 4 (fun _ => r_18)) 59 _ h) (cwV 1 hts gX3_readOrder_X3_readSign rfl rfl rfl (by decide +kernel) ⟨Nat.le_of_ble_eq_true rfl, Nat.le_of_ble_eq_true rfl⟩) hK hN hP hD hS hA (em_SS cC k0 k1 (uA u_19 4 (fun _ => r_18))) (fun u => rp_SS cC k0 k1 (uA u_19 4 (fun _ => r_18)) u) rfl rfl rfl rfl hl.1 rfl (Nat.le_of_ble_eq_true rfl) dX3_readOrder_129 ⟨Nat.zero_le _, Nat.zero_le _⟩ (fun r_21 u_22 H locs h hP hD hS => ?_)
          obtain ⟨hz_23, h⟩ := h
          exact W.zret (v := r_21) hx hb hr (isZ_n hz_23) (fun t ht hW => ⟨⟨r_21, u_22, rfl, h, by rw [ht]; exact hP, hD⟩, hS.F ht⟩) hS.2.2 dX3_readOrder_132
        · have h := h.1 c_20
          refine lv_iconst (v := 0) hx hb dX3_readOrder_91 (by decide) ?_
          exact W.zret (v := 0) hx hb hr rfl (fun t ht hW => ⟨⟨0, (uA u_19 4 (fun _ => r_18)), rfl, h, by rw [ht]; exact hP, hD⟩, hS.F ht⟩) hS.2.2 dX3_readOrder_92
      · have h := h.2 c_17
        refine lv_aload_n hx hb dX3_readOrder_55 rfl (lv_at hl 1 rfl) ?_
        refine va_get (D := G) (ci := 3) (v := .int r_1) (C := RX3) (T := TX3) (N := 8) hx hb hts hinX3 hown hK hP 0 rfl rfl 3 (by decide) hL46 (fun _ h9 => h9) rfl dX3_readOrder_56 ?_
        refine lv_bipush (v := 112) hx hb dX3_readOrder_59 (by decide) ?_
        refine lv_icmp_eq (tgt := 75) hx hb dX3_readOrder_61 (by decide) (fun c_24 => ?_) (fun c_24 => ?_)
        · have h := h.1 c_24
          refine lv_aload_n hx hb dX3_readOrder_75 rfl (lv_at hl 1 rfl) ?_
          refine lv_aload_n hx hb dX3_readOrder_76 rfl (lv_at hl 1 rfl) ?_
          refine kc_i (As := []) (rest := [.ref k0]) (wg := (fun u => (wS cC k0 k1 u))) ⟨hx, hb, hml, hown, hts⟩ (c_X3_readNumber l G cI cC cD k0 k1 _ (uA (uA C 3 (fun _ => r_1)) 2 (fun _ => ((C 2 0) + 1)))  _ h) (cwV 0 hts gX3_readOrder_X3_readNumber rfl rfl rfl (by decide +kernel) ⟨Nat.le_of_ble_eq_true rfl, Nat.le_of_ble_eq_true rfl⟩) hK hN hP hD hS hA (em_SS cC k0 k1 (uA (uA C 3 (fun _ => r_1)) 2 (fun _ => ((C 2 0) + 1)))) (fun u => rp_SS cC k0 k1 (uA (uA C 3 (fun _ => r_1)) 2 (fun _ => ((C 2 0) + 1))) u) rfl rfl rfl rfl hl.1 rfl (Nat.le_of_ble_eq_true rfl) dX3_readOrder_77 ⟨Nat.zero_le _, Nat.zero_le _⟩ (fun r_25 u_26 H locs h hP hD hS => ?_)
          refine va_put (D := G) (ci := 3) (v := .int r_25) (ty := .int) (C := RX3) (T := TX3) (N := 8) hx hb hts hinX3 tyX3 tyX3_ok nmX3 hown hK hP hD hS 0 rfl rfl 4 (by decide) hL50 (fun _ h9 => h9) rfl (by decide +kernel) rfl rfl (Nat.le_of_ble_eq_true rfl) dX3_readOrder_80 (fun H locs hP hD hS => ?_)
          have hP : va_P G vwCl (wS cC k0 k1 (uA u_26 4 (fun _ => r_25))) H := hP
          have hD : va_D A (wS cC k0 k1 (uA u_26 4 (fun _ => r_25))) := hD
          refine lv_aload_n hx hb dX3_readOrder_83 rfl (lv_at hl 1 rfl) ?_
          refine va_get (D := G) (ci := 3) (v := .int r_25) (C := RX3) (T := TX3) (N := 8) hx hb hts hinX3 hown hK hP 0 rfl rfl 4 (by decide) hL50 (fun _ h9 => h9) rfl dX3_readOrder_84 ?_
          refine lv_iconst (v := (-1)) hx hb dX3_readOrder_87 (by decide) ?_
          refine lv_icmp_ne (tgt := 93) hx hb dX3_readOrder_88 (by decide) (fun c_27 => ?_) (fun c_27 => ?_)
          · have h := h.2 c_27
            refine lv_iload_n hx hb dX3_readOrder_93 rfl (lv_at hl 0 rfl) ?_
            refine lv_if_eq (tgt := 126) hx hb dX3_readOrder_94 (by decide) (fun _ => ?_) (fun c => absurd c (by decide))
            refine lv_aload_n hx hb dX3_readOrder_126 rfl (lv_at hl 1 rfl) ?_
            refine lv_bipush (v := 59) hx hb dX3_readOrder_127 (by decide) ?_
            refine kc_i (As := [.int 59]) (rest := []) (wg := (fun u => (wS cC k0 k1 u))) ⟨hx, hb, hml, hown, hts⟩ (c_X3_readSign l G cI cC cD k0 k1 _ (uA u_26 4 (fun _ => r_25)) 59 _ h) (cwV 1 hts gX3_readOrder_X3_readSign rfl rfl rfl (by decide +kernel) ⟨Nat.le_of_ble_eq_true rfl, Nat.le_of_ble_eq_true rfl⟩) hK hN hP hD hS hA (em_SS cC k0 k1 (uA u_26 4 (fun _ => r_25))) (fun u => rp_SS cC k0 k1 (uA u_26 4 (fun _ => r_25)) u) rfl rfl rfl rfl hl.1 rfl (Nat.le_of_ble_eq_true rfl) dX3_readOrder_129 ⟨Nat.zero_le _, Nat.zero_le _⟩ (fun r_28 u_29 H locs h hP hD hS => ?_)
            obtain ⟨hz_30, h⟩ := h
            exact W.zret (v := r_28) hx hb hr (isZ_n hz_30) (fun t ht hW => ⟨⟨r_28, u_29, rfl, h, by rw [ht]; exact hP, hD⟩, hS.F ht⟩) hS.2.2 dX3_readOrder_132
          · have h := h.1 c_27
            refine lv_iconst (v := 0) hx hb dX3_readOrder_91 (by decide) ?_
            exact W.zret (v := 0) hx hb hr rfl (fun t ht hW => ⟨⟨0, (uA u_26 4 (fun _ => r_25)), rfl, h, by rw [ht]; exact hP, hD⟩, hS.F ht⟩) hS.2.2 dX3_readOrder_92
        · have h := h.2 c_24
          refine lv_aload_n hx hb dX3_readOrder_64 rfl (lv_at hl 1 rfl) ?_
          refine va_get (D := G) (ci := 3) (v := .int r_1) (C := RX3) (T := TX3) (N := 8) hx hb hts hinX3 hown hK hP 0 rfl rfl 3 (by decide) hL46 (fun _ h9 => h9) rfl dX3_readOrder_65 ?_
          refine lv_bipush (v := 120) hx hb dX3_readOrder_68 (by decide) ?_
          refine lv_icmp_eq (tgt := 75) hx hb dX3_readOrder_70 (by decide) (fun c_31 => ?_) (fun c_31 => ?_)
          · have h := h.1 c_31
            refine lv_aload_n hx hb dX3_readOrder_75 rfl (lv_at hl 1 rfl) ?_
            refine lv_aload_n hx hb dX3_readOrder_76 rfl (lv_at hl 1 rfl) ?_
            refine kc_i (As := []) (rest := [.ref k0]) (wg := (fun u => (wS cC k0 k1 u))) ⟨hx, hb, hml, hown, hts⟩ (c_X3_readNumber l G cI cC cD k0 k1 _ (uA (uA C 3 (fun _ => r_1)) 2 (fun _ => ((C 2 0) + 1)))  _ h) (cwV 0 hts gX3_readOrder_X3_readNumber rfl rfl rfl (by decide +kernel) ⟨Nat.le_of_ble_eq_true rfl, Nat.le_of_ble_eq_true rfl⟩) hK hN hP hD hS hA (em_SS cC k0 k1 (uA (uA C 3 (fun _ => r_1)) 2 (fun _ => ((C 2 0) + 1)))) (fun u => rp_SS cC k0 k1 (uA (uA C 3 (fun _ => r_1)) 2 (fun _ => ((C 2 0) + 1))) u) rfl rfl rfl rfl hl.1 rfl (Nat.le_of_ble_eq_true rfl) dX3_readOrder_77 ⟨Nat.zero_le _, Nat.zero_le _⟩ (fun r_32 u_33 H locs h hP hD hS => ?_)
            refine va_put (D := G) (ci := 3) (v := .int r_32) (ty := .int) (C := RX3) (T := TX3) (N := 8) hx hb hts hinX3 tyX3 tyX3_ok nmX3 hown hK hP hD hS 0 rfl rfl 4 (by decide) hL50 (fun _ h9 => h9) rfl (by decide +kernel) rfl rfl (Nat.le_of_ble_eq_true rfl) dX3_readOrder_80 (fun H locs hP hD hS => ?_)
            have hP : va_P G vwCl (wS cC k0 k1 (uA u_33 4 (fun _ => r_32))) H := hP
            have hD : va_D A (wS cC k0 k1 (uA u_33 4 (fun _ => r_32))) := hD
            refine lv_aload_n hx hb dX3_readOrder_83 rfl (lv_at hl 1 rfl) ?_
            refine va_get (D := G) (ci := 3) (v := .int r_32) (C := RX3) (T := TX3) (N := 8) hx hb hts hinX3 hown hK hP 0 rfl rfl 4 (by decide) hL50 (fun _ h9 => h9) rfl dX3_readOrder_84 ?_
            refine lv_iconst (v := (-1)) hx hb dX3_readOrder_87 (by decide) ?_
            refine lv_icmp_ne (tgt := 93) hx hb dX3_readOrder_88 (by decide) (fun c_34 => ?_) (fun c_34 => ?_)
            · have h := h.2 c_34
              refine lv_iload_n hx hb dX3_readOrder_93 rfl (lv_at hl 0 rfl) ?_
              refine lv_if_eq (tgt := 126) hx hb dX3_readOrder_94 (by decide) (fun _ => ?_) (fun c => absurd c (by decide))
              refine lv_aload_n hx hb dX3_readOrder_126 rfl (lv_at hl 1 rfl) ?_
              refine lv_bipush (v := 59) hx hb dX3_readOrder_127 (by decide) ?_
              refine kc_i (As := [.int 59]) (rest := []) (wg := (fun u => (wS cC k0 k1 u))) ⟨hx, hb, hml, hown, hts⟩ (c_X3_readSign l G cI cC cD k0 k1 _ (uA u_33 4 (fun _ => r_32)) 59 _ h) (cwV 1 hts gX3_readOrder_X3_readSign rfl rfl rfl (by decide +kernel) ⟨Nat.le_of_ble_eq_true rfl, Nat.le_of_ble_eq_true rfl⟩) hK hN hP hD hS hA (em_SS cC k0 k1 (uA u_33 4 (fun _ => r_32))) (fun u => rp_SS cC k0 k1 (uA u_33 4 (fun _ => r_32)) u) rfl rfl rfl rfl hl.1 rfl (Nat.le_of_ble_eq_true rfl) dX3_readOrder_129 ⟨Nat.zero_le _, Nat.zero_le _⟩ (fun r_35 u_36 H locs h hP hD hS => ?_)
              obtain ⟨hz_37, h⟩ := h
              exact W.zret (v := r_35) hx hb hr (isZ_n hz_37) (fun t ht hW => ⟨⟨r_35, u_36, rfl, h, by rw [ht]; exact hP, hD⟩, hS.F ht⟩) hS.2.2 dX3_readOrder_132
            · have h := h.1 c_34
              refine lv_iconst (v := 0) hx hb dX3_readOrder_91 (by decide) ?_
              exact W.zret (v := 0) hx hb hr rfl (fun t ht hW => ⟨⟨0, (uA u_33 4 (fun _ => r_32)), rfl, h, by rw [ht]; exact hP, hD⟩, hS.F ht⟩) hS.2.2 dX3_readOrder_92
          · have h := h.2 c_31
            refine lv_iconst (v := 0) hx hb dX3_readOrder_73 (by decide) ?_
            exact W.zret (v := 0) hx hb hr rfl (fun t ht hW => ⟨⟨0, (uA (uA C 3 (fun _ => r_1)) 2 (fun _ => ((C 2 0) + 1))), rfl, h, by rw [ht]; exact hP, hD⟩, hS.F ht⟩) hS.2.2 dX3_readOrder_74
    · have h := h.1 c_16
      refine lv_iconst (v := 1) hx hb dX3_readOrder_36 (by decide) ?_
      refine lv_goto (tgt := 41) hx hb dX3_readOrder_37 (by decide) ?_
      refine lv_istore_n (lv' := [(1, .int 1), (0, .ref k0)]) hx hb dX3_readOrder_41 rfl hl (by decide) rfl (fun ls hl => ?_)
      refine lv_iload_n hx hb dX3_readOrder_42 rfl (lv_at hl 0 rfl) ?_
      refine lv_if_ne (tgt := 75) hx hb dX3_readOrder_43 (by decide) (fun _ => ?_) (fun c => absurd c (by decide))
      refine lv_aload_n hx hb dX3_readOrder_75 rfl (lv_at hl 1 rfl) ?_
      refine lv_aload_n hx hb dX3_readOrder_76 rfl (lv_at hl 1 rfl) ?_
      refine kc_i (As := []) (rest := [.ref k0]) (wg := (fun u => (wS cC k0 k1 u))) ⟨hx, hb, hml, hown, hts⟩ (c_X3_readNumber l G cI cC cD k0 k1 _ (uA (uA C 3 (fun _ => r_1)) 2 (fun _ => ((C 2 0) + 1)))  _ h) (cwV 0 hts gX3_readOrder_X3_readNumber rfl rfl rfl (by decide +kernel) ⟨Nat.le_of_ble_eq_true rfl, Nat.le_of_ble_eq_true rfl⟩) hK hN hP hD hS hA (em_SS cC k0 k1 (uA (uA C 3 (fun _ => r_1)) 2 (fun _ => ((C 2 0) + 1)))) (fun u => rp_SS cC k0 k1 (uA (uA C 3 (fun _ => r_1)) 2 (fun _ => ((C 2 0) + 1))) u) rfl rfl rfl rfl hl.1 rfl (Nat.le_of_ble_eq_true rfl) dX3_readOrder_77 ⟨Nat.zero_le _, Nat.zero_le _⟩ (fun r_38 u_39 H locs h hP hD hS => ?_)
      refine va_put (D := G) (ci := 3) (v := .int r_38) (ty := .int) (C := RX3) (T := TX3) (N := 8) hx hb hts hinX3 tyX3 tyX3_ok nmX3 hown hK hP hD hS 0 rfl rfl 4 (by decide) hL50 (fun _ h9 => h9) rfl (by decide +kernel) rfl rfl (Nat.le_of_ble_eq_true rfl) dX3_readOrder_80 (fun H locs hP hD hS => ?_)
      have hP : va_P G vwCl (wS cC k0 k1 (uA u_39 4 (fun _ => r_38))) H := hP
      have hD : va_D A (wS cC k0 k1 (uA u_39 4 (fun _ => r_38))) := hD
      refine lv_aload_n hx hb dX3_readOrder_83 rfl (lv_at hl 1 rfl) ?_
      refine va_get (D := G) (ci := 3) (v := .int r_38) (C := RX3) (T := TX3) (N := 8) hx hb hts hinX3 hown hK hP 0 rfl rfl 4 (by decide) hL50 (fun _ h9 => h9) rfl dX3_readOrder_84 ?_
      refine lv_iconst (v := (-1)) hx hb dX3_readOrder_87 (by decide) ?_
      refine lv_icmp_ne (tgt := 93) hx hb dX3_readOrder_88 (by decide) (fun c_40 => ?_) (fun c_40 => ?_)
      · have h := h.2 c_40
        refine lv_iload_n hx hb dX3_readOrder_93 rfl (lv_at hl 0 rfl) ?_
        refine lv_if_eq (tgt := 126) hx hb dX3_readOrder_94 (by decide) (fun c => absurd c (by decide)) (fun _ => ?_)
        refine lv_aload_n hx hb dX3_readOrder_97 rfl (lv_at hl 1 rfl) ?_
        refine lv_bipush (v := 44) hx hb dX3_readOrder_98 (by decide) ?_
        refine kc_i (As := [.int 44]) (rest := []) (wg := (fun u => (wS cC k0 k1 u))) ⟨hx, hb, hml, hown, hts⟩ (c_X3_readSign l G cI cC cD k0 k1 _ (uA u_39 4 (fun _ => r_38)) 44 _ h) (cwV 1 hts gX3_readOrder_X3_readSign rfl rfl rfl (by decide +kernel) ⟨Nat.le_of_ble_eq_true rfl, Nat.le_of_ble_eq_true rfl⟩) hK hN hP hD hS hA (em_SS cC k0 k1 (uA u_39 4 (fun _ => r_38))) (fun u => rp_SS cC k0 k1 (uA u_39 4 (fun _ => r_38)) u) rfl rfl rfl rfl hl.1 rfl (Nat.le_of_ble_eq_true rfl) dX3_readOrder_100 ⟨Nat.zero_le _, Nat.zero_le _⟩ (fun r_41 u_42 H locs h hP hD hS => ?_)
        refine lv_if_ne (tgt := 108) hx hb dX3_readOrder_103 (by decide) (fun c_43 => ?_) (fun c_43 => ?_)
        · have h := h.2 c_43
          refine lv_aload_n hx hb dX3_readOrder_108 rfl (lv_at hl 1 rfl) ?_
          refine lv_aload_n hx hb dX3_readOrder_109 rfl (lv_at hl 1 rfl) ?_
          refine kc_i (As := []) (rest := [.ref k0]) (wg := (fun u => (wS cC k0 k1 u))) ⟨hx, hb, hml, hown, hts⟩ (c_X3_readNumber l G cI cC cD k0 k1 _ u_42  _ h) (cwV 0 hts gX3_readOrder_X3_readNumber rfl rfl rfl (by decide +kernel) ⟨Nat.le_of_ble_eq_true rfl, Nat.le_of_ble_eq_true rfl⟩) hK hN hP hD hS hA (em_SS cC k0 k1 u_42) (fun u => rp_SS cC k0 k1 u_42 u) rfl rfl rfl rfl hl.1 rfl (Nat.le_of_ble_eq_true rfl) dX3_readOrder_110 ⟨Nat.zero_le _, Nat.zero_le _⟩ (fun r_44 u_45 H locs h hP hD hS => ?_)
          refine va_put (D := G) (ci := 3) (v := .int r_44) (ty := .int) (C := RX3) (T := TX3) (N := 8) hx hb hts hinX3 tyX3 tyX3_ok nmX3 hown hK hP hD hS 0 rfl rfl 5 (by decide) hL53 (fun _ h9 => h9) rfl (by decide +kernel) rfl rfl (Nat.le_of_ble_eq_true rfl) dX3_readOrder_113 (fun H locs hP hD hS => ?_)
          have hP : va_P G vwCl (wS cC k0 k1 (uA u_45 5 (fun _ => r_44))) H := hP
          have hD : va_D A (wS cC k0 k1 (uA u_45 5 (fun _ => r_44))) := hD
          refine lv_aload_n hx hb dX3_readOrder_116 rfl (lv_at hl 1 rfl) ?_
          refine va_get (D := G) (ci := 3) (v := .int r_44) (C := RX3) (T := TX3) (N := 8) hx hb hts hinX3 hown hK hP 0 rfl rfl 5 (by decide) hL53 (fun _ h9 => h9) rfl dX3_readOrder_117 ?_
          refine lv_iconst (v := (-1)) hx hb dX3_readOrder_120 (by decide) ?_
          refine lv_icmp_ne (tgt := 126) hx hb dX3_readOrder_121 (by decide) (fun c_46 => ?_) (fun c_46 => ?_)
          · have h := h.2 c_46
            refine lv_aload_n hx hb dX3_readOrder_126 rfl (lv_at hl 1 rfl) ?_
            refine lv_bipush (v := 59) hx hb dX3_readOrder_127 (by decide) ?_
            refine kc_i (As := [.int 59]) (rest := []) (wg := (fun u => (wS cC k0 k1 u))) ⟨hx, hb, hml, hown, hts⟩ (c_X3_readSign l G cI cC cD k0 k1 _ (uA u_45 5 (fun _ => r_44)) 59 _ h) (cwV 1 hts gX3_readOrder_X3_readSign rfl rfl rfl (by decide +kernel) ⟨Nat.le_of_ble_eq_true rfl, Nat.le_of_ble_eq_true rfl⟩) hK hN hP hD hS hA (em_SS cC k0 k1 (uA u_45 5 (fun _ => r_44))) (fun u => rp_SS cC k0 k1 (uA u_45 5 (fun _ => r_44)) u) rfl rfl rfl rfl hl.1 rfl (Nat.le_of_ble_eq_true rfl) dX3_readOrder_129 ⟨Nat.zero_le _, Nat.zero_le _⟩ (fun r_47 u_48 H locs h hP hD hS => ?_)
            obtain ⟨hz_49, h⟩ := h
            exact W.zret (v := r_47) hx hb hr (isZ_n hz_49) (fun t ht hW => ⟨⟨r_47, u_48, rfl, h, by rw [ht]; exact hP, hD⟩, hS.F ht⟩) hS.2.2 dX3_readOrder_132
          · have h := h.1 c_46
            refine lv_iconst (v := 0) hx hb dX3_readOrder_124 (by decide) ?_
            exact W.zret (v := 0) hx hb hr rfl (fun t ht hW => ⟨⟨0, (uA u_45 5 (fun _ => r_44)), rfl, h, by rw [ht]; exact hP, hD⟩, hS.F ht⟩) hS.2.2 dX3_readOrder_125
        · have h := h.1 c_43
          refine lv_iconst (v := 0) hx hb dX3_readOrder_106 (by decide) ?_
          exact W.zret (v := 0) hx hb hr rfl (fun t ht hW => ⟨⟨0, u_42, rfl, h, by rw [ht]; exact hP, hD⟩, hS.F ht⟩) hS.2.2 dX3_readOrder_107
      · have h := h.1 c_40
        refine lv_iconst (v := 0) hx hb dX3_readOrder_91 (by decide) ?_
        exact W.zret (v := 0) hx hb hr rfl (fun t ht hW => ⟨⟨0, (uA u_39 4 (fun _ => r_38)), rfl, h, by rw [ht]; exact hP, hD⟩, hS.F ht⟩) hS.2.2 dX3_readOrder_92
def q_X3_doOrder (C : St) (D : St) (Q : Int32 → St → St → Prop) : Prop :=
  ((C 3 0) = 105 → q_X0_changeInflow (C 4 0) D (fun r_2 u_3 => Q r_2 C u_3)) ∧ (¬ ((C 3 0) = 105) → ((C 3 0) = 111 → q_X0_giveOrder (C 4 0) (C 5 0) D (fun r_5 u_6 => Q r_5 C u_6)) ∧ (¬ ((C 3 0) = 111) → ((C 3 0) = 119 → q_X0_addGate (C 4 0) (C 5 0) D (fun r_8 u_9 => Q r_8 C u_9)) ∧ (¬ ((C 3 0) = 119) → ((C 3 0) = 120 → q_X0_cancelOrder (C 4 0) D (fun r_11 u_12 => Q r_11 C u_12)) ∧ (¬ ((C 3 0) = 120) → q_X0_refusalToPass (C 4 0) D (fun r_13 => q_X5_isError r_13 (fun r_14 => (r_14 = 0 → q_X0_letPass (C 4 0) D (fun u_16 => Q r_13 C u_16)) ∧ (¬ (r_14 = 0) → Q r_13 C D)))))))
set_option maxHeartbeats 4000000 in
set_option maxRecDepth 100000 in
theorem c_X3_doOrder (l : Launch) (G : va_G) (cI cC cD : ClassId) (k0 k1 : Nat) (q : Nat → Nat) (sz : Nat) (C : St) (D : St)  (Q : Int32 → St → St → Prop) (h : q_X3_doOrder  C D Q) : Met l yX3_doOrder wsX3_doOrder ({ frames := 4, cells := 0, slots := 0, locals := 89 }) (va_Pc [.ref k0, .ref (q 0)] (PW G (ty3 cI cC cD) (wS cC k0 k1 C ++ wD cI q D) sz)) (va_Qi (fun (r : Int32) (u : (St × St)) => Q r u.1 u.2) (BW G (fun u : (St × St) => (wS cC k0 k1 u.1 ++ wD cI q u.2)) (va_A (wS cC k0 k1 C ++ wD cI q D) sz)) (va_A (wS cC k0 k1 C ++ wD cI q D) sz)) 0 0 (va_A (wS cC k0 k1 C ++ wD cI q D) sz) := by
  refine Met.ofW (cc := cX3_doOrder) (maxL := 3) (ret := (some .int)) (by decide) rfl ?_
  intro p e s m args below meth c s₁ B hml hv
  obtain ⟨rfl, hsz, hP, hK, hD0, hN⟩ := hv
  have hx := B.exec
  have hb := B.bytes
  have hr := B.returns
  have hts := atoms_spec (ws := wsX3_doOrder) B.pre
  have hown : s.vm.findClass RX3 = some m.cls := findClass_of_methodNamed B.named
  have hlocks := B.notSynchronized
  subst hsz
  have hD := hD0.self (sz := s.heap.size)
  generalize hAe : va_A (wS cC k0 k1 C ++ wD cI q D) s.heap.size = A at hD ⊢
  have hA : ∀ q : Nat, s.heap.size ≤ q → A q := fun q h => by rw [← hAe]; exact Or.inr h
  have hS : va_S A s.heap s.heap [] := va_S.rf
  have hl := lv_entry ([.ref k0, .ref (q 0)]) (n := 3) (Nat.le_of_ble_eq_true rfl)
  rw [lg_entry_eq]
  generalize (lg_sl ([.ref k0, .ref (q 0)]) ++ List.replicate (3 - (lg_sl ([.ref k0, .ref (q 0)])).length) Slot.unset).toArray = ls at hl ⊢
  have hl : lv_has ls 3 [(0, .ref k0), (1, .ref (q 0))] := hl
  have hinX3 : ∀ w ∈ wsX30, w ∈ wsX3_doOrder := by decide +kernel
  have hL46 := hts (.fieldLink RX3 46 "CraneGates$Script" "letter" "C") (by decide +kernel)
  have hL50 := hts (.fieldLink RX3 50 "CraneGates$Script" "first" "I") (by decide +kernel)
  have hL53 := hts (.fieldLink RX3 53 "CraneGates$Script" "second" "I") (by decide +kernel)
  unfold q_X3_doOrder at h
  refine lv_aload_n hx hb dX3_doOrder_0 rfl (lv_at hl 0 rfl) ?_
  refine va_get (D := G) (ci := 3) (v := .int (C 3 0)) (C := RX3) (T := TX3) (N := 8) hx hb hts hinX3 hown hK hP 0 rfl rfl 3 (by decide) hL46 (fun _ h9 => h9) rfl dX3_doOrder_1 ?_
  by_cases c_1 : (C 3 0) = 105
  · have h := h.1 c_1
    refine lv_lookup (off := 57) (tgt := 61) hx hb dX3_doOrder_4 (by decide) (by rw [c_1]; decide) (by decide) ?_
    refine lv_aload_n hx hb dX3_doOrder_61 rfl (lv_at hl 1 rfl) ?_
    refine lv_aload_n hx hb dX3_doOrder_62 rfl (lv_at hl 0 rfl) ?_
    refine va_get (D := G) (ci := 3) (v := .int (C 4 0)) (C := RX3) (T := TX3) (N := 8) hx hb hts hinX3 hown hK hP 0 rfl rfl 4 (by decide) hL50 (fun _ h9 => h9) rfl dX3_doOrder_63 ?_
    refine kc_i (As := [.int (C 4 0)]) (rest := []) (wg := (fun u => (wS cC k0 k1 C ++ wD cI q u))) ⟨hx, hb, hml, hown, hts⟩ (c_X0_changeInflow l G cI cC cD q _ D (C 4 0) _ h) (cwV 1 hts gX3_doOrder_X0_changeInflow rfl rfl rfl (by decide +kernel) ⟨Nat.le_of_ble_eq_true rfl, Nat.le_of_ble_eq_true rfl⟩) hK hN hP hD hS hA (em_SD_D cI cC k0 k1 C q D) (fun u => rp_SD_D cI cC k0 k1 C q D u) rfl rfl rfl rfl hl.1 rfl (Nat.le_of_ble_eq_true rfl) dX3_doOrder_66 ⟨Nat.zero_le _, Nat.zero_le _⟩ (fun r_2 u_3 H locs h hP hD hS => ?_)
    exact W.iret (v := r_2) hx hb hr (fun t ht hW => ⟨⟨r_2, (C, u_3), rfl, h, by rw [ht]; exact hP, hD⟩, hS.F ht⟩) hS.2.2 dX3_doOrder_69
  · have h := h.2 c_1
    by_cases c_4 : (C 3 0) = 111
    · have h := h.1 c_4
      refine lv_lookup (off := 44) (tgt := 48) hx hb dX3_doOrder_4 (by decide) (by rw [c_4]; decide) (by decide) ?_
      refine lv_aload_n hx hb dX3_doOrder_48 rfl (lv_at hl 1 rfl) ?_
      refine lv_aload_n hx hb dX3_doOrder_49 rfl (lv_at hl 0 rfl) ?_
      refine va_get (D := G) (ci := 3) (v := .int (C 4 0)) (C := RX3) (T := TX3) (N := 8) hx hb hts hinX3 hown hK hP 0 rfl rfl 4 (by decide) hL50 (fun _ h9 => h9) rfl dX3_doOrder_50 ?_
      refine lv_aload_n hx hb dX3_doOrder_53 rfl (lv_at hl 0 rfl) ?_
      refine va_get (D := G) (ci := 3) (v := .int (C 5 0)) (C := RX3) (T := TX3) (N := 8) hx hb hts hinX3 hown hK hP 0 rfl rfl 5 (by decide) hL53 (fun _ h9 => h9) rfl dX3_doOrder_54 ?_
      refine kc_i (As := [.int (C 4 0), .int (C 5 0)]) (rest := []) (wg := (fun u => (wS cC k0 k1 C ++ wD cI q u))) ⟨hx, hb, hml, hown, hts⟩ (c_X0_giveOrder l G cI cC cD q _ D (C 4 0) (C 5 0) _ h) (cwV 2 hts gX3_doOrder_X0_giveOrder rfl rfl rfl (by decide +kernel) ⟨Nat.le_of_ble_eq_true rfl, Nat.le_of_ble_eq_true rfl⟩) hK hN hP hD hS hA (em_SD_D cI cC k0 k1 C q D) (fun u => rp_SD_D cI cC k0 k1 C q D u) rfl rfl rfl rfl hl.1 rfl (Nat.le_of_ble_eq_true rfl) dX3_doOrder_57 ⟨Nat.zero_le _, Nat.zero_le _⟩ (fun r_5 u_6 H locs h hP hD hS => ?_)
      exact W.iret (v := r_5) hx hb hr (fun t ht hW => ⟨⟨r_5, (C, u_6), rfl, h, by rw [ht]; exact hP, hD⟩, hS.F ht⟩) hS.2.2 dX3_doOrder_60
    · have h := h.2 c_4
      by_cases c_7 : (C 3 0) = 119
      · have h := h.1 c_7
        refine lv_lookup (off := 75) (tgt := 79) hx hb dX3_doOrder_4 (by decide) (by rw [c_7]; decide) (by decide) ?_
        refine lv_aload_n hx hb dX3_doOrder_79 rfl (lv_at hl 1 rfl) ?_
        refine lv_aload_n hx hb dX3_doOrder_80 rfl (lv_at hl 0 rfl) ?_
        refine va_get (D := G) (ci := 3) (v := .int (C 4 0)) (C := RX3) (T := TX3) (N := 8) hx hb hts hinX3 hown hK hP 0 rfl rfl 4 (by decide) hL50 (fun _ h9 => h9) rfl dX3_doOrder_81 ?_
        refine lv_aload_n hx hb dX3_doOrder_84 rfl (lv_at hl 0 rfl) ?_
        refine va_get (D := G) (ci := 3) (v := .int (C 5 0)) (C := RX3) (T := TX3) (N := 8) hx hb hts hinX3 hown hK hP 0 rfl rfl 5 (by decide) hL53 (fun _ h9 => h9) rfl dX3_doOrder_85 ?_
        refine kc_i (As := [.int (C 4 0), .int (C 5 0)]) (rest := []) (wg := (fun u => (wS cC k0 k1 C ++ wD cI q u))) ⟨hx, hb, hml, hown, hts⟩ (c_X0_addGate l G cI cC cD q _ D (C 4 0) (C 5 0) _ h) (cwV 2 hts gX3_doOrder_X0_addGate rfl rfl rfl (by decide +kernel) ⟨Nat.le_of_ble_eq_true rfl, Nat.le_of_ble_eq_true rfl⟩) hK hN hP hD hS hA (em_SD_D cI cC k0 k1 C q D) (fun u => rp_SD_D cI cC k0 k1 C q D u) rfl rfl rfl rfl hl.1 rfl (Nat.le_of_ble_eq_true rfl) dX3_doOrder_88 ⟨Nat.zero_le _, Nat.zero_le _⟩ (fun r_8 u_9 H locs h hP hD hS => ?_)
        exact W.iret (v := r_8) hx hb hr (fun t ht hW => ⟨⟨r_8, (C, u_9), rfl, h, by rw [ht]; exact hP, hD⟩, hS.F ht⟩) hS.2.2 dX3_doOrder_91
      · have h := h.2 c_7
        by_cases c_10 : (C 3 0) = 120
        · have h := h.1 c_10
          refine lv_lookup (off := 66) (tgt := 70) hx hb dX3_doOrder_4 (by decide) (by rw [c_10]; decide) (by decide) ?_
          refine lv_aload_n hx hb dX3_doOrder_70 rfl (lv_at hl 1 rfl) ?_
          refine lv_aload_n hx hb dX3_doOrder_71 rfl (lv_at hl 0 rfl) ?_
          refine va_get (D := G) (ci := 3) (v := .int (C 4 0)) (C := RX3) (T := TX3) (N := 8) hx hb hts hinX3 hown hK hP 0 rfl rfl 4 (by decide) hL50 (fun _ h9 => h9) rfl dX3_doOrder_72 ?_
          refine kc_i (As := [.int (C 4 0)]) (rest := []) (wg := (fun u => (wS cC k0 k1 C ++ wD cI q u))) ⟨hx, hb, hml, hown, hts⟩ (c_X0_cancelOrder l G cI cC cD q _ D (C 4 0) _ h) (cwV 1 hts gX3_doOrder_X0_cancelOrder rfl rfl rfl (by decide +kernel) ⟨Nat.le_of_ble_eq_true rfl, Nat.le_of_ble_eq_true rfl⟩) hK hN hP hD hS hA (em_SD_D cI cC k0 k1 C q D) (fun u => rp_SD_D cI cC k0 k1 C q D u) rfl rfl rfl rfl hl.1 rfl (Nat.le_of_ble_eq_true rfl) dX3_doOrder_75 ⟨Nat.zero_le _, Nat.zero_le _⟩ (fun r_11 u_12 H locs h hP hD hS => ?_)
          exact W.iret (v := r_11) hx hb hr (fun t ht hW => ⟨⟨r_11, (C, u_12), rfl, h, by rw [ht]; exact hP, hD⟩, hS.F ht⟩) hS.2.2 dX3_doOrder_78
        · have h := h.2 c_10
          refine lv_lookup (off := 88) (tgt := 92) hx hb dX3_doOrder_4 (by decide) (by show Op.lookupswitch.offset _ _ _ = _; rw [lv_osw (k := 105) c_1 (by decide), lv_osw (k := 111) c_4 (by decide), lv_osw (k := 119) c_7 (by decide), lv_osw (k := 120) c_10 (by decide)]; rfl) (by decide) ?_
          refine lv_aload_n hx hb dX3_doOrder_92 rfl (lv_at hl 1 rfl) ?_
          refine lv_aload_n hx hb dX3_doOrder_93 rfl (lv_at hl 0 rfl) ?_
          refine va_get (D := G) (ci := 3) (v := .int (C 4 0)) (C := RX3) (T := TX3) (N := 8) hx hb hts hinX3 hown hK hP 0 rfl rfl 4 (by decide) hL50 (fun _ h9 => h9) rfl dX3_doOrder_94 ?_
          refine kc_i (As := [.int (C 4 0)]) (rest := []) (wg := (fun _ => (wS cC k0 k1 C ++ wD cI q D))) ⟨hx, hb, hml, hown, hts⟩ (c_X0_refusalToPass l G cI cC cD q _ D (C 4 0) _ h) (cwV 1 hts gX3_doOrder_X0_refusalToPass rfl rfl rfl (by decide +kernel) ⟨Nat.le_of_ble_eq_true rfl, Nat.le_of_ble_eq_true rfl⟩) hK hN hP hD hS hA (em_SD_D cI cC k0 k1 C q D) (fun _ => rp_self (em_SD_D cI cC k0 k1 C q D)) rfl rfl rfl rfl hl.1 rfl (Nat.le_of_ble_eq_true rfl) dX3_doOrder_97 ⟨Nat.zero_le _, Nat.zero_le _⟩ (fun r_13 _ H locs h hP hD hS => ?_)
          refine lv_istore_n (lv' := [(2, .int r_13), (0, .ref k0), (1, .ref (q 0))]) hx hb dX3_doOrder_100 rfl hl (by decide) rfl (fun ls hl => ?_)
          refine lv_iload_n hx hb dX3_doOrder_101 rfl (lv_at hl 0 rfl) ?_
          refine kn_i (As := [.int r_13]) (rest := []) (wg := (fun _ => (wS cC k0 k1 C ++ wD cI q D))) ⟨hx, hb, hml, hown, hts⟩ (c_X5_isError l G cI cC cD  _  r_13 _ h) ⟨va_cnB (host := "CraneGates") 1 hts gX3_doOrder_X5_isError_n42 rfl rfl rfl (hN (.methodLinkNest "CraneGates$Script" 42 yX5_isError "CraneGates") (by simp [nestW])) (hts (.initialized RX5) (by decide +kernel)) (by decide +kernel) ⟨Nat.le_of_ble_eq_true rfl, Nat.le_of_ble_eq_true rfl⟩, hts (.static yX5_isError) (by decide +kernel), trivial⟩ hK hN hP hD hS hA (em_0 _) (fun _ => rp_self (em_0 _)) rfl hl.1 rfl (Nat.le_of_ble_eq_true rfl) dX3_doOrder_102 ⟨Nat.zero_le _, Nat.zero_le _⟩ (fun r_14 _ H locs h hP hD hS => ?_)
          refine lv_if_ne (tgt := 116) hx hb dX3_doOrder_105 (by decide) (fun c_15 => ?_) (fun c_15 => ?_)
          · have h := h.2 c_15
            refine lv_iload_n hx hb dX3_doOrder_116 rfl (lv_at hl 0 rfl) ?_
            exact W.iret (v := r_13) hx hb hr (fun t ht hW => ⟨⟨r_13, (C, D), rfl, h, by rw [ht]; exact hP, hD⟩, hS.F ht⟩) hS.2.2 dX3_doOrder_117
          · have h := h.1 c_15
            refine lv_aload_n hx hb dX3_doOrder_108 rfl (lv_at hl 2 rfl) ?_
            refine lv_aload_n hx hb dX3_doOrder_109 rfl (lv_at hl 1 rfl) ?_
            refine va_get (D := G) (ci := 3) (v := .int (C 4 0)) (C := RX3) (T := TX3) (N := 8) hx hb hts hinX3 hown hK hP 0 rfl rfl 4 (by decide) hL50 (fun _ h9 => h9) rfl dX3_doOrder_110 ?_
            refine kc_v (As := [.int (C 4 0)]) (rest := []) (wg := (fun u => (wS cC k0 k1 C ++ wD cI q u))) ⟨hx, hb, hml, hown, hts⟩ (c_X0_letPass l G cI cC cD q _ D (C 4 0) _ h) (cwV 1 hts gX3_doOrder_X0_letPass rfl rfl rfl (by decide +kernel) ⟨Nat.le_of_ble_eq_true rfl, Nat.le_of_ble_eq_true rfl⟩) hK hN hP hD hS hA (em_SD_D cI cC k0 k1 C q D) (fun u => rp_SD_D cI cC k0 k1 C q D u) rfl rfl rfl rfl hl.1 rfl (Nat.le_of_ble_eq_true rfl) dX3_doOrder_113 ⟨Nat.zero_le _, Nat.zero_le _⟩ (fun u_16 H locs h hP hD hS => ?_)
            refine lv_iload_n hx hb dX3_doOrder_116 rfl (lv_at hl 0 rfl) ?_
            exact W.iret (v := r_13) hx hb hr (fun t ht hW => ⟨⟨r_13, (C, u_16), rfl, h, by rw [ht]; exact hP, hD⟩, hS.F ht⟩) hS.2.2 dX3_doOrder_117
def q_X3_reasonOf (x : Int32) (C : St) (Q : Int32 → Prop) : Prop :=
  q_X5_isError x (fun r_1 => (r_1 = 0 → Q 0) ∧ (¬ (r_1 = 0) → (x = (-1000001) → Q 2) ∧ (¬ (x = (-1000001)) → Q 3)))
set_option maxHeartbeats 4000000 in
set_option maxRecDepth 100000 in
theorem c_X3_reasonOf (l : Launch) (G : va_G) (cI cC cD : ClassId) (k0 k1 : Nat) (sz : Nat) (C : St) (x : Int32) (Q : Int32 → Prop) (h : q_X3_reasonOf x C Q) : Met l yX3_reasonOf wsX3_reasonOf ({ frames := 1, cells := 0, slots := 0, locals := 20 }) (va_Pc [.ref k0, .int x] (PW G (ty3 cI cC cD) (wS cC k0 k1 C) sz)) (va_Qi (fun (r : Int32) (_ : Unit) => Q r) (BW G (fun _ : Unit => (wS cC k0 k1 C)) (va_A (wS cC k0 k1 C) sz)) (va_A (wS cC k0 k1 C) sz)) 0 0 (va_A (wS cC k0 k1 C) sz) := by
  refine Met.ofW (cc := cX3_reasonOf) (maxL := 2) (ret := (some .int)) (by decide) rfl ?_
  intro p e s m args below meth c s₁ B hml hv
  obtain ⟨rfl, hsz, hP, hK, hD0, hN⟩ := hv
  have hx := B.exec
  have hb := B.bytes
  have hr := B.returns
  have hts := atoms_spec (ws := wsX3_reasonOf) B.pre
  have hown : s.vm.findClass RX3 = some m.cls := findClass_of_methodNamed B.named
  have hlocks := B.notSynchronized
  subst hsz
  have hD := hD0.self (sz := s.heap.size)
  generalize hAe : va_A (wS cC k0 k1 C) s.heap.size = A at hD ⊢
  have hA : ∀ q : Nat, s.heap.size ≤ q → A q := fun q h => by rw [← hAe]; exact Or.inr h
  have hS : va_S A s.heap s.heap [] := va_S.rf
  have hl := lv_entry ([.ref k0, .int x]) (n := 2) (Nat.le_of_ble_eq_true rfl)
  rw [lg_entry_eq]
  generalize (lg_sl ([.ref k0, .int x]) ++ List.replicate (2 - (lg_sl ([.ref k0, .int x])).length) Slot.unset).toArray = ls at hl ⊢
  have hl : lv_has ls 2 [(0, .ref k0), (1, .int x)] := hl
  unfold q_X3_reasonOf at h
  refine lv_iload_n hx hb dX3_reasonOf_0 rfl (lv_at hl 1 rfl) ?_
  refine kn_i (As := [.int x]) (rest := []) (wg := (fun _ => (wS cC k0 k1 C))) ⟨hx, hb, hml, hown, hts⟩ (c_X5_isError l G cI cC cD  _  x _ h) ⟨va_cnB (host := "CraneGates") 1 hts gX3_reasonOf_X5_isError_n42 rfl rfl rfl (hN (.methodLinkNest "CraneGates$Script" 42 yX5_isError "CraneGates") (by simp [nestW])) (hts (.initialized RX5) (by decide +kernel)) (by decide +kernel) ⟨Nat.le_of_ble_eq_true rfl, Nat.le_of_ble_eq_true rfl⟩, hts (.static yX5_isError) (by decide +kernel), trivial⟩ hK hN hP hD hS hA (em_0 _) (fun _ => rp_self (em_0 _)) rfl hl.1 rfl (Nat.le_of_ble_eq_true rfl) dX3_reasonOf_1 ⟨Nat.zero_le _, Nat.zero_le _⟩ (fun r_1 _ H locs h hP hD hS => ?_)
  refine lv_if_ne (tgt := 9) hx hb dX3_reasonOf_4 (by decide) (fun c_2 => ?_) (fun c_2 => ?_)
  · have h := h.2 c_2
    refine lv_iload_n hx hb dX3_reasonOf_9 rfl (lv_at hl 1 rfl) ?_
    refine lv_ldc hx hb hown (hts (.constant RX3 25 (-1000001)) (by decide +kernel)) dX3_reasonOf_10 ?_
    refine lv_icmp_ne (tgt := 19) hx hb dX3_reasonOf_12 (by decide) (fun c_3 => ?_) (fun c_3 => ?_)
    · have h := h.2 c_3
      refine lv_iconst (v := 3) hx hb dX3_reasonOf_19 (by decide) ?_
      exact W.iret (v := 3) hx hb hr (fun t ht hW => ⟨⟨3, (), rfl, h, by rw [ht]; exact hP, hD⟩, hS.F ht⟩) hS.2.2 dX3_reasonOf_20
    · have h := h.1 c_3
      refine lv_iconst (v := 2) hx hb dX3_reasonOf_15 (by decide) ?_
      refine lv_goto (tgt := 20) hx hb dX3_reasonOf_16 (by decide) ?_
      exact W.iret (v := 2) hx hb hr (fun t ht hW => ⟨⟨2, (), rfl, h, by rw [ht]; exact hP, hD⟩, hS.F ht⟩) hS.2.2 dX3_reasonOf_20
  · have h := h.1 c_2
    refine lv_iconst (v := 0) hx hb dX3_reasonOf_7 (by decide) ?_
    exact W.iret (v := 0) hx hb hr (fun t ht hW => ⟨⟨0, (), rfl, h, by rw [ht]; exact hP, hD⟩, hS.F ht⟩) hS.2.2 dX3_reasonOf_8
def q_X3_doOrdersOn (C : St) (D : St) (Q : St → St → Prop) : Prop :=
  ∃ (I_2 : Nat → Int32 → St → St → Prop) (n_7 : Nat), I_2 n_7 0 (uA (uA C 2 (fun _ => 0)) 7 (fun _ => 0)) D ∧ ∀ (n_1 : Nat) (x2_3 : Int32) (D_4 : St) (D_5 : St), I_2 n_1 x2_3 D_4 D_5 → ((60 ≤ x2_3 → Q D_4 D_5) ∧ (¬ (60 ≤ x2_3) → ((D_4 1 0) ≤ (D_4 2 0) → Q D_4 D_5) ∧ (¬ ((D_4 1 0) ≤ (D_4 2 0)) → ((D_4 7 0) = 0 → q_X3_readOrder (uA D_4 6 (fun _ => (D_4 2 0))) (fun r_14 u_15 => (r_14 = 0 → ∃ n_17, n_17 < n_1 ∧ I_2 n_17 (x2_3 + 1) (uA u_15 7 (fun _ => 1)) D_5) ∧ (¬ (r_14 = 0) → q_X3_doOrder u_15 D_5 (fun r_20 u_21a u_21b => q_X3_reasonOf r_20 u_21a (fun r_22 => ∃ n_23, n_23 < n_1 ∧ I_2 n_23 (x2_3 + 1) (uA u_21a 7 (fun _ => r_22)) u_21b))))) ∧ (¬ ((D_4 7 0) = 0) → Q D_4 D_5))))
set_option maxHeartbeats 4000000 in
set_option maxRecDepth 100000 in
theorem c_X3_doOrdersOn (l : Launch) (G : va_G) (cI cC cD : ClassId) (k0 k1 : Nat) (q : Nat → Nat) (sz : Nat) (C : St) (D : St)  (Q : St → St → Prop) (h : q_X3_doOrdersOn  C D Q) : Met l yX3_doOrdersOn wsX3_doOrdersOn ({ frames := 5, cells := 0, slots := 0, locals := 111 }) (va_Pc [.ref k0, .ref (q 0)] (PW G (ty3 cI cC cD) (wS cC k0 k1 C ++ wD cI q D) sz)) (va_Qv (fun (u : (St × St)) => Q u.1 u.2) (BW G (fun u : (St × St) => (wS cC k0 k1 u.1 ++ wD cI q u.2)) (va_A (wS cC k0 k1 C ++ wD cI q D) sz)) (va_A (wS cC k0 k1 C ++ wD cI q D) sz)) 0 0 (va_A (wS cC k0 k1 C ++ wD cI q D) sz) := by
  refine Met.ofW (cc := cX3_doOrdersOn) (maxL := 3) (ret := none) (by decide) rfl ?_
  intro p e s m args below meth c s₁ B hml hv
  obtain ⟨rfl, hsz, hP, hK, hD0, hN⟩ := hv
  have hx := B.exec
  have hb := B.bytes
  have hr := B.returns
  have hts := atoms_spec (ws := wsX3_doOrdersOn) B.pre
  have hown : s.vm.findClass RX3 = some m.cls := findClass_of_methodNamed B.named
  have hlocks := B.notSynchronized
  subst hsz
  have hD := hD0.self (sz := s.heap.size)
  generalize hAe : va_A (wS cC k0 k1 C ++ wD cI q D) s.heap.size = A at hD ⊢
  have hA : ∀ q : Nat, s.heap.size ≤ q → A q := fun q h => by rw [← hAe]; exact Or.inr h
  have hS : va_S A s.heap s.heap [] := va_S.rf
  have hl := lv_entry ([.ref k0, .ref (q 0)]) (n := 3) (Nat.le_of_ble_eq_true rfl)
  rw [lg_entry_eq]
  generalize (lg_sl ([.ref k0, .ref (q 0)]) ++ List.replicate (3 - (lg_sl ([.ref k0, .ref (q 0)])).length) Slot.unset).toArray = ls at hl ⊢
  have hl : lv_has ls 3 [(0, .ref k0), (1, .ref (q 0))] := hl
  have hinX3 : ∀ w ∈ wsX30, w ∈ wsX3_doOrdersOn := by decide +kernel
  have hL15 := hts (.fieldLink RX3 15 "CraneGates$Script" "length" "I") (by decide +kernel)
  have hL19 := hts (.fieldLink RX3 19 "CraneGates$Script" "faultPlace" "I") (by decide +kernel)
  have hL22 := hts (.fieldLink RX3 22 "CraneGates$Script" "faultReason" "I") (by decide +kernel)
  have hL27 := hts (.fieldLink RX3 27 "CraneGates$Script" "next" "I") (by decide +kernel)
  unfold q_X3_doOrdersOn at h
  refine lv_aload_n hx hb dX3_doOrdersOn_0 rfl (lv_at hl 0 rfl) ?_
  refine lv_iconst (v := 0) hx hb dX3_doOrdersOn_1 (by decide) ?_
  refine va_put (D := G) (ci := 3) (v := .int 0) (ty := .int) (C := RX3) (T := TX3) (N := 8) hx hb hts hinX3 tyX3 tyX3_ok nmX3 hown hK hP hD hS 0 rfl rfl 2 (by decide) hL27 (fun _ h9 => h9) rfl (by decide +kernel) rfl rfl (Nat.le_of_ble_eq_true rfl) dX3_doOrdersOn_2 (fun H locs hP hD hS => ?_)
  have hP : va_P G vwCl (wS cC k0 k1 (uA C 2 (fun _ => 0)) ++ wD cI q D) H := hP
  have hD : va_D A (wS cC k0 k1 (uA C 2 (fun _ => 0)) ++ wD cI q D) := hD
  refine lv_aload_n hx hb dX3_doOrdersOn_5 rfl (lv_at hl 0 rfl) ?_
  refine lv_iconst (v := 0) hx hb dX3_doOrdersOn_6 (by decide) ?_
  refine va_put (D := G) (ci := 3) (v := .int 0) (ty := .int) (C := RX3) (T := TX3) (N := 8) hx hb hts hinX3 tyX3 tyX3_ok nmX3 hown hK hP hD hS 0 rfl rfl 7 (by decide) hL22 (fun _ h9 => h9) rfl (by decide +kernel) rfl rfl (Nat.le_of_ble_eq_true rfl) dX3_doOrdersOn_7 (fun H locs hP hD hS => ?_)
  have hP : va_P G vwCl (wS cC k0 k1 (uA (uA C 2 (fun _ => 0)) 7 (fun _ => 0)) ++ wD cI q D) H := hP
  have hD : va_D A (wS cC k0 k1 (uA (uA C 2 (fun _ => 0)) 7 (fun _ => 0)) ++ wD cI q D) := hD
  refine lv_iconst (v := 0) hx hb dX3_doOrdersOn_10 (by decide) ?_
  refine lv_istore_n (lv' := [(2, .int 0), (0, .ref k0), (1, .ref (q 0))]) hx hb dX3_doOrdersOn_11 rfl hl (by decide) rfl (fun ls hl => ?_)
  obtain ⟨I_2, n_7, h_8, hI_9⟩ := h
  have lp_10 : ∀ (n_1 : Nat) (x2_3 : Int32) (D_4 : St) (D_5 : St), I_2 n_1 x2_3 D_4 D_5 → ∀ (H : Heap) (locs : List Loc) (ls : Array Slot), va_P G vwCl (wS cC k0 k1 D_4 ++ wD cI q D_5) H → va_D A (wS cC k0 k1 D_4 ++ wD cI q D_5) → va_S A s.heap H locs → lv_has ls 3 [(2, .int x2_3), (0, .ref k0), (1, .ref (q 0))] → W p l e (headSpec wsX3_doOrdersOn ({ frames := 5, cells := 0, slots := 0, locals := 111 })).room s m ([.ref k0, .ref (q 0)] : List Value).toArray below meth c H locs 0 0 (MQ below (va_Qv (fun (u : (St × St)) => Q u.1 u.2) (BW G (fun u : (St × St) => (wS cC k0 k1 u.1 ++ wD cI q u.2)) A) A) ([.ref k0, .ref (q 0)] : List Value).toArray s 0 0 A) (F0 m 12 ls []) := by
    intro n_1
    induction n_1 using Nat.strongRecOn with
    | ind n_1 ih_6 =>
      intro x2_3 D_4 D_5 hIn H locs ls hP hD hS hl
      have h := hI_9 n_1 x2_3 D_4 D_5 hIn
      refine lv_iload_n hx hb dX3_doOrdersOn_12 rfl (lv_at hl 0 rfl) ?_
      refine lv_bipush (v := 60) hx hb dX3_doOrdersOn_13 (by decide) ?_
      refine lv_icmp_ge (tgt := 74) hx hb dX3_doOrdersOn_15 (by decide) (fun c_11 => ?_) (fun c_11 => ?_)
      · have h := h.1 c_11
        exact W.vret hx hb hr (fun t ht hW => ⟨⟨(D_4, D_5), rfl, h, by rw [ht]; exact hP, hD⟩, hS.F ht⟩) hS.2.2 dX3_doOrdersOn_74
      · have h := h.2 c_11
        refine lv_aload_n hx hb dX3_doOrdersOn_18 rfl (lv_at hl 1 rfl) ?_
        refine va_get (D := G) (ci := 3) (v := .int (D_4 2 0)) (C := RX3) (T := TX3) (N := 8) hx hb hts hinX3 hown hK hP 0 rfl rfl 2 (by decide) hL27 (fun _ h9 => h9) rfl dX3_doOrdersOn_19 ?_
        refine lv_aload_n hx hb dX3_doOrdersOn_22 rfl (lv_at hl 1 rfl) ?_
        refine va_get (D := G) (ci := 3) (v := .int (D_4 1 0)) (C := RX3) (T := TX3) (N := 8) hx hb hts hinX3 hown hK hP 0 rfl rfl 1 (by decide) hL15 (fun _ h9 => h9) rfl dX3_doOrdersOn_23 ?_
        refine lv_icmp_ge (tgt := 74) hx hb dX3_doOrdersOn_26 (by decide) (fun c_12 => ?_) (fun c_12 => ?_)
        · have h := h.1 c_12
          exact W.vret hx hb hr (fun t ht hW => ⟨⟨(D_4, D_5), rfl, h, by rw [ht]; exact hP, hD⟩, hS.F ht⟩) hS.2.2 dX3_doOrdersOn_74
        · have h := h.2 c_12
          refine lv_aload_n hx hb dX3_doOrdersOn_29 rfl (lv_at hl 1 rfl) ?_
          refine va_get (D := G) (ci := 3) (v := .int (D_4 7 0)) (C := RX3) (T := TX3) (N := 8) hx hb hts hinX3 hown hK hP 0 rfl rfl 7 (by decide) hL22 (fun _ h9 => h9) rfl dX3_doOrdersOn_30 ?_
          refine lv_if_ne (tgt := 74) hx hb dX3_doOrdersOn_33 (by decide) (fun c_13 => ?_) (fun c_13 => ?_)
          · have h := h.2 c_13
            exact W.vret hx hb hr (fun t ht hW => ⟨⟨(D_4, D_5), rfl, h, by rw [ht]; exact hP, hD⟩, hS.F ht⟩) hS.2.2 dX3_doOrdersOn_74
          · have h := h.1 c_13
            refine lv_aload_n hx hb dX3_doOrdersOn_36 rfl (lv_at hl 1 rfl) ?_
            refine lv_aload_n hx hb dX3_doOrdersOn_37 rfl (lv_at hl 1 rfl) ?_
            refine va_get (D := G) (ci := 3) (v := .int (D_4 2 0)) (C := RX3) (T := TX3) (N := 8) hx hb hts hinX3 hown hK hP 0 rfl rfl 2 (by decide) hL27 (fun _ h9 => h9) rfl dX3_doOrdersOn_38 ?_
            refine va_put (D := G) (ci := 3) (v := .int (D_4 2 0)) (ty := .int) (C := RX3) (T := TX3) (N := 8) hx hb hts hinX3 tyX3 tyX3_ok nmX3 hown hK hP hD hS 0 rfl rfl 6 (by decide) hL19 (fun _ h9 => h9) rfl (by decide +kernel) rfl rfl (Nat.le_of_ble_eq_true rfl) dX3_doOrdersOn_41 (fun H locs hP hD hS => ?_)
            have hP : va_P G vwCl (wS cC k0 k1 (uA D_4 6 (fun _ => (D_4 2 0))) ++ wD cI q D_5) H := hP
            have hD : va_D A (wS cC k0 k1 (uA D_4 6 (fun _ => (D_4 2 0))) ++ wD cI q D_5) := hD
            refine lv_aload_n hx hb dX3_doOrdersOn_44 rfl (lv_at hl 1 rfl) ?_
            refine lv_aload_n hx hb dX3_doOrdersOn_45 rfl (lv_at hl 1 rfl) ?_
            refine kc_i (As := []) (rest := [.ref k0]) (wg := (fun u => (wS cC k0 k1 u ++ wD cI q D_5))) ⟨hx, hb, hml, hown, hts⟩ (c_X3_readOrder l G cI cC cD k0 k1 _ (uA D_4 6 (fun _ => (D_4 2 0)))  _ h) (cwV 0 hts gX3_doOrdersOn_X3_readOrder rfl rfl rfl (by decide +kernel) ⟨Nat.le_of_ble_eq_true rfl, Nat.le_of_ble_eq_true rfl⟩) hK hN hP hD hS hA (em_SD_S cI cC k0 k1 (uA D_4 6 (fun _ => (D_4 2 0))) q D_5) (fun u => rp_SD_S cI cC k0 k1 (uA D_4 6 (fun _ => (D_4 2 0))) q D_5 u) rfl rfl rfl rfl hl.1 rfl (Nat.le_of_ble_eq_true rfl) dX3_doOrdersOn_46 ⟨Nat.zero_le _, Nat.zero_le _⟩ (fun r_14 u_15 H locs h hP hD hS => ?_)
            refine lv_if_eq (tgt := 64) hx hb dX3_doOrdersOn_49 (by decide) (fun c_16 => ?_) (fun c_16 => ?_)
            · have h := h.1 c_16
              refine lv_iconst (v := 1) hx hb dX3_doOrdersOn_64 (by decide) ?_
              refine va_put (D := G) (ci := 3) (v := .int 1) (ty := .int) (C := RX3) (T := TX3) (N := 8) hx hb hts hinX3 tyX3 tyX3_ok nmX3 hown hK hP hD hS 0 rfl rfl 7 (by decide) hL22 (fun _ h9 => h9) rfl (by decide +kernel) rfl rfl (Nat.le_of_ble_eq_true rfl) dX3_doOrdersOn_65 (fun H locs hP hD hS => ?_)
              have hP : va_P G vwCl (wS cC k0 k1 (uA u_15 7 (fun _ => 1)) ++ wD cI q D_5) H := hP
              have hD : va_D A (wS cC k0 k1 (uA u_15 7 (fun _ => 1)) ++ wD cI q D_5) := hD
              refine lv_iinc (v := x2_3 + 1) (lv' := [(2, .int (x2_3 + 1)), (0, .ref k0), (1, .ref (q 0))]) hx hb dX3_doOrdersOn_68 hl (k := 0) rfl rfl (by decide) rfl (fun ls hl => ?_)
              refine lv_goto (tgt := 12) hx hb dX3_doOrdersOn_71 (by decide) ?_
              obtain ⟨n_17, lt_18, h_19⟩ := h
              exact ih_6 n_17 lt_18 _ _ _ h_19 _ _ _ hP hD hS (lv_sub hl [0, 1, 2] rfl)
            · have h := h.2 c_16
              refine lv_aload_n hx hb dX3_doOrdersOn_52 rfl (lv_at hl 1 rfl) ?_
              refine lv_aload_n hx hb dX3_doOrdersOn_53 rfl (lv_at hl 1 rfl) ?_
              refine lv_aload_n hx hb dX3_doOrdersOn_54 rfl (lv_at hl 2 rfl) ?_
              refine kc_i (As := [.ref (q 0)]) (rest := [.ref k0, .ref k0]) (wg := (fun u => (wS cC k0 k1 u.1 ++ wD cI q u.2))) ⟨hx, hb, hml, hown, hts⟩ (c_X3_doOrder l G cI cC cD k0 k1 q _ u_15 D_5  _ h) (cwV 1 hts gX3_doOrdersOn_X3_doOrder rfl rfl rfl (by decide +kernel) ⟨Nat.le_of_ble_eq_true rfl, Nat.le_of_ble_eq_true rfl⟩) hK hN hP hD hS hA (em_SDD cI cC k0 k1 u_15 q D_5) (fun u => rp_SDD cI cC k0 k1 u_15 q D_5 u) rfl rfl rfl rfl hl.1 rfl (Nat.le_of_ble_eq_true rfl) dX3_doOrdersOn_55 ⟨Nat.zero_le _, Nat.zero_le _⟩ (fun r_20 u_21 H locs h hP hD hS => ?_)
              obtain ⟨u_21a, u_21b⟩ := u_21
              refine kc_i (As := [.int r_20]) (rest := [.ref k0]) (wg := (fun _ => (wS cC k0 k1 u_21a ++ wD cI q u_21b))) ⟨hx, hb, hml, hown, hts⟩ (c_X3_reasonOf l G cI cC cD k0 k1 _ u_21a r_20 _ h) (cwV 1 hts gX3_doOrdersOn_X3_reasonOf rfl rfl rfl (by decide +kernel) ⟨Nat.le_of_ble_eq_true rfl, Nat.le_of_ble_eq_true rfl⟩) hK hN hP hD hS hA (em_SD_S cI cC k0 k1 u_21a q u_21b) (fun _ => rp_self (em_SD_S cI cC k0 k1 u_21a q u_21b)) rfl rfl rfl rfl hl.1 rfl (Nat.le_of_ble_eq_true rfl) dX3_doOrdersOn_58 ⟨Nat.zero_le _, Nat.zero_le _⟩ (fun r_22 _ H locs h hP hD hS => ?_)
              refine lv_goto (tgt := 65) hx hb dX3_doOrdersOn_61 (by decide) ?_
              refine va_put (D := G) (ci := 3) (v := .int r_22) (ty := .int) (C := RX3) (T := TX3) (N := 8) hx hb hts hinX3 tyX3 tyX3_ok nmX3 hown hK hP hD hS 0 rfl rfl 7 (by decide) hL22 (fun _ h9 => h9) rfl (by decide +kernel) rfl rfl (Nat.le_of_ble_eq_true rfl) dX3_doOrdersOn_65 (fun H locs hP hD hS => ?_)
              have hP : va_P G vwCl (wS cC k0 k1 (uA u_21a 7 (fun _ => r_22)) ++ wD cI q u_21b) H := hP
              have hD : va_D A (wS cC k0 k1 (uA u_21a 7 (fun _ => r_22)) ++ wD cI q u_21b) := hD
              refine lv_iinc (v := x2_3 + 1) (lv' := [(2, .int (x2_3 + 1)), (0, .ref k0), (1, .ref (q 0))]) hx hb dX3_doOrdersOn_68 hl (k := 0) rfl rfl (by decide) rfl (fun ls hl => ?_)
              refine lv_goto (tgt := 12) hx hb dX3_doOrdersOn_71 (by decide) ?_
              obtain ⟨n_23, lt_24, h_25⟩ := h
              exact ih_6 n_23 lt_24 _ _ _ h_25 _ _ _ hP hD hS (lv_sub hl [0, 1, 2] rfl)
  exact lp_10 _ _ _ _ h_8 _ _ _ hP hD hS hl
