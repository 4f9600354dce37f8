def q_X6_looks (M : St) (Q : St → Prop) : Prop :=
  (((M 0) 7) < 0 → Q M) ∧ (¬ (((M 0) 7) < 0) → q_X6_of ((M 0) 7) 2 M (fun r_2 => (r_2 = ((M 0) 8) → Q (uA (uA M 0 (upd (M 0) 7 (-1))) 0 (upd (upd (M 0) 7 (-1)) 18 (((upd (M 0) 7 (-1)) 18) + 1)))) ∧ (¬ (r_2 = ((M 0) 8)) → Q M)))
set_option maxHeartbeats 4000000 in
set_option maxRecDepth 100000 in
theorem c_X6_looks (l : Launch) (G : va_G) (cI cC cD : ClassId) (q : Nat → Nat) (sz : Nat) (M : St)  (Q : St → Prop) (h : q_X6_looks  M Q) : Met l yX6_looks wsX6_looks ({ frames := 1, cells := 0, slots := 0, locals := 22 }) (va_Pc [.ref (q 0)] (PW G (ty3 cI cC cD) (wM cI q M) sz)) (va_Qv Q (BW G (fun u : St => (wM cI q u)) (va_A (wM cI q M) sz)) (va_A (wM cI q M) sz)) 0 0 (va_A (wM cI q M) sz) := by
  refine Met.ofW (cc := cX6_looks) (maxL := 1) (ret := none) (by decide) rfl ?_
  intro p e s m args below meth c s₁ B hml hv
  obtain ⟨rfl, hsz, hP, hK, hD0, hN⟩ := hv
  have hx := B.exec
  have hb := B.bytes
  have hr := B.returns
  have hts := atoms_spec (ws := wsX6_looks) B.pre
  have hown : s.vm.findClass RX6 = some m.cls := findClass_of_methodNamed B.named
  have hlocks := B.notSynchronized
  subst hsz
  have hD := hD0.self (sz := s.heap.size)
  generalize hAe : va_A (wM cI q M) s.heap.size = A at hD ⊢
  have hA : ∀ q : Nat, s.heap.size ≤ q → A q := fun q h => by rw [← hAe]; exact Or.inr h
  have hS : va_S A s.heap s.heap [] := va_S.rf
  have hl := lv_entry ([.ref (q 0)]) (n := 1) (Nat.le_of_ble_eq_true rfl)
  rw [lg_entry_eq]
  generalize (lg_sl ([.ref (q 0)]) ++ List.replicate (1 - (lg_sl ([.ref (q 0)])).length) Slot.unset).toArray = ls at hl ⊢
  have hl : lv_has ls 1 [(0, .ref (q 0))] := hl
  have hinX6 : ∀ w ∈ wsX60, w ∈ wsX6_looks := by decide +kernel
  have hL7 := hts (.fieldLink RX6 7 "CraneGatesModel" "s" "[I") (by decide +kernel)
  unfold q_X6_looks at h
  refine lv_aload_n hx hb dX6_looks_0 rfl (lv_at hl 0 rfl) ?_
  refine va_get (D := G) (ci := 6) (v := .ref (q 1)) (C := RX6) (T := TX6) (N := 11) hx hb hts hinX6 hown hK hP 0 rfl rfl 0 (by decide) hL7 (fun _ h9 => h9) rfl dX6_looks_1 ?_
  refine lv_bipush (v := 7) hx hb dX6_looks_4 (by decide) ?_
  refine k_ald (f := (M 0)) (j := 7) (v := ((M 0) 7)) hx hb hK hP 1 0 rfl rfl (show ¬ ((7 : Int32) < 0 ∨ 86 ≤ (7 : Int32).toNatClampNeg) by decide) rfl rfl dX6_looks_6 ?_
  refine lv_if_lt (tgt := 51) hx hb dX6_looks_7 (by decide) (fun c_1 => ?_) (fun c_1 => ?_)
  · have h := h.1 c_1
    exact W.vret hx hb hr (fun t ht hW => ⟨⟨M, rfl, h, by rw [ht]; exact hP, hD⟩, hS.F ht⟩) hS.2.2 dX6_looks_51
  · have h := h.2 c_1
    refine lv_aload_n hx hb dX6_looks_10 rfl (lv_at hl 0 rfl) ?_
    refine lv_aload_n hx hb dX6_looks_11 rfl (lv_at hl 0 rfl) ?_
    refine va_get (D := G) (ci := 6) (v := .ref (q 1)) (C := RX6) (T := TX6) (N := 11) hx hb hts hinX6 hown hK hP 0 rfl rfl 0 (by decide) hL7 (fun _ h9 => h9) rfl dX6_looks_12 ?_
    refine lv_bipush (v := 7) hx hb dX6_looks_15 (by decide) ?_
    refine k_ald (f := (M 0)) (j := 7) (v := ((M 0) 7)) hx hb hK hP 1 0 rfl rfl (show ¬ ((7 : Int32) < 0 ∨ 86 ≤ (7 : Int32).toNatClampNeg) by decide) rfl rfl dX6_looks_17 ?_
    refine lv_iconst (v := 2) hx hb dX6_looks_18 (by decide) ?_
    refine kc_i (As := [.int ((M 0) 7), .int 2]) (rest := []) (wg := (fun _ => (wM cI q M))) ⟨hx, hb, hml, hown, hts⟩ (c_X6_of l G cI cC cD q _ M ((M 0) 7) 2 _ h) (cwV 2 hts gX6_looks_X6_of rfl rfl rfl (by decide +kernel) ⟨Nat.le_of_ble_eq_true rfl, Nat.le_of_ble_eq_true rfl⟩) hK hN hP hD hS hA (em_MM cI q M) (fun _ => rp_self (em_MM cI q M)) rfl rfl rfl rfl hl.1 rfl (Nat.le_of_ble_eq_true rfl) dX6_looks_19 ⟨Nat.zero_le _, Nat.zero_le _⟩ (fun r_2 _ H locs h hP hD hS => ?_)
    refine lv_aload_n hx hb dX6_looks_22 rfl (lv_at hl 0 rfl) ?_
    refine va_get (D := G) (ci := 6) (v := .ref (q 1)) (C := RX6) (T := TX6) (N := 11) hx hb hts hinX6 hown hK hP 0 rfl rfl 0 (by decide) hL7 (fun _ h9 => h9) rfl dX6_looks_23 ?_
    refine lv_bipush (v := 8) hx hb dX6_looks_26 (by decide) ?_
    refine k_ald (f := (M 0)) (j := 8) (v := ((M 0) 8)) hx hb hK hP 1 0 rfl rfl (show ¬ ((8 : Int32) < 0 ∨ 86 ≤ (8 : Int32).toNatClampNeg) by decide) rfl rfl dX6_looks_28 ?_
    refine lv_icmp_ne (tgt := 51) hx hb dX6_looks_29 (by decide) (fun c_3 => ?_) (fun c_3 => ?_)
    · have h := h.2 c_3
      exact W.vret hx hb hr (fun t ht hW => ⟨⟨M, rfl, h, by rw [ht]; exact hP, hD⟩, hS.F ht⟩) hS.2.2 dX6_looks_51
    · have h := h.1 c_3
      refine lv_aload_n hx hb dX6_looks_32 rfl (lv_at hl 0 rfl) ?_
      refine va_get (D := G) (ci := 6) (v := .ref (q 1)) (C := RX6) (T := TX6) (N := 11) hx hb hts hinX6 hown hK hP 0 rfl rfl 0 (by decide) hL7 (fun _ h9 => h9) rfl dX6_looks_33 ?_
      refine lv_bipush (v := 7) hx hb dX6_looks_36 (by decide) ?_
      refine lv_iconst (v := (-1)) hx hb dX6_looks_38 (by decide) ?_
      refine k_ast (f := (M 0)) (j := 7) (ws' := (wM cI q (uA M 0 (upd (M 0) 7 (-1))))) hx hb hK hP hD hS 1 0 rfl rfl (show ¬ ((7 : Int32) < 0 ∨ 86 ≤ (7 : Int32).toNatClampNeg) by decide) rfl dX6_looks_39 (st_M_0 cI q M (upd (M 0) 7 (-1))) (fun H locs hP hD hS => ?_)
      refine lv_aload_n hx hb dX6_looks_40 rfl (lv_at hl 0 rfl) ?_
      refine va_get (D := G) (ci := 6) (v := .ref (q 1)) (C := RX6) (T := TX6) (N := 11) hx hb hts hinX6 hown hK hP 0 rfl rfl 0 (by decide) hL7 (fun _ h9 => h9) rfl dX6_looks_41 ?_
      refine lv_bipush (v := 18) hx hb dX6_looks_44 (by decide) ?_
      refine lv_dup2_11 hx hb dX6_looks_46 rfl rfl ?_
      refine k_ald (f := (upd (M 0) 7 (-1))) (j := 18) (v := ((upd (M 0) 7 (-1)) 18)) hx hb hK hP 1 0 rfl rfl (show ¬ ((18 : Int32) < 0 ∨ 86 ≤ (18 : Int32).toNatClampNeg) by decide) rfl rfl dX6_looks_47 ?_
      refine lv_iconst (v := 1) hx hb dX6_looks_48 (by decide) ?_
      refine lv_iadd hx hb dX6_looks_49 ?_
      refine k_ast (f := (upd (M 0) 7 (-1))) (j := 18) (ws' := (wM cI q (uA (uA M 0 (upd (M 0) 7 (-1))) 0 (upd (upd (M 0) 7 (-1)) 18 (((upd (M 0) 7 (-1)) 18) + 1))))) hx hb hK hP hD hS 1 0 rfl rfl (show ¬ ((18 : Int32) < 0 ∨ 86 ≤ (18 : Int32).toNatClampNeg) by decide) rfl dX6_looks_50 (st_M_0 cI q (uA M 0 (upd (M 0) 7 (-1))) (upd (upd (M 0) 7 (-1)) 18 (((upd (M 0) 7 (-1)) 18) + 1))) (fun H locs hP hD hS => ?_)
      exact W.vret hx hb hr (fun t ht hW => ⟨⟨(uA (uA M 0 (upd (M 0) 7 (-1))) 0 (upd (upd (M 0) 7 (-1)) 18 (((upd (M 0) 7 (-1)) 18) + 1))), rfl, h, by rw [ht]; exact hP, hD⟩, hS.F ht⟩) hS.2.2 dX6_looks_51
def q_X6_works (M : St) (Q : St → Prop) : Prop :=
  (((M 0) 7) = ((upd (M 0) 17 (((M 0) 17) + 1)) 6) → q_X6_of ((M 0) 7) 2 (uA M 0 (upd (M 0) 17 (((M 0) 17) + 1))) (fun r_2 => q_X6_of ((M 0) 7) 0 (uA M 0 (upd (M 0) 17 (((M 0) 17) + 1))) (fun r_3 => (r_3 = 2 → q_X6_size (((upd (M 0) 17 (((M 0) 17) + 1)) 8) - r_2) (fun r_15 => (r_15 ≤ 1 → q_X6_of ((M 0) 7) 2 (uA M 0 (upd (M 0) 17 (((M 0) 17) + 1))) (fun r_17 => ((((upd (M 0) 17 (((M 0) 17) + 1)) 8) - r_2) ≤ 0 → q_X6_puts ((M 0) 7) 2 (r_17 + (-1)) (uA M 0 (upd (M 0) 17 (((M 0) 17) + 1))) (fun u_19 => q_X6_of ((M 0) 7) 4 u_19 (fun r_20 => q_X6_puts ((M 0) 7) 4 (r_20 + 1) u_19 (fun u_21 => q_X6_looks u_21 (fun u_22 => Q u_22))))) ∧ (¬ ((((upd (M 0) 17 (((M 0) 17) + 1)) 8) - r_2) ≤ 0) → q_X6_puts ((M 0) 7) 2 (r_17 + 1) (uA M 0 (upd (M 0) 17 (((M 0) 17) + 1))) (fun u_23 => q_X6_of ((M 0) 7) 4 u_23 (fun r_24 => q_X6_puts ((M 0) 7) 4 (r_24 + 1) u_23 (fun u_25 => q_X6_looks u_25 (fun u_26 => Q u_26))))))) ∧ (¬ (r_15 ≤ 1) → q_X6_of ((M 0) 7) 2 (uA M 0 (upd (M 0) 17 (((M 0) 17) + 1))) (fun r_27 => ((((upd (M 0) 17 (((M 0) 17) + 1)) 8) - r_2) ≤ 0 → q_X6_puts ((M 0) 7) 2 (r_27 + (-2)) (uA M 0 (upd (M 0) 17 (((M 0) 17) + 1))) (fun u_29 => q_X6_of ((M 0) 7) 4 u_29 (fun r_30 => q_X6_puts ((M 0) 7) 4 (r_30 + 1) u_29 (fun u_31 => q_X6_looks u_31 (fun u_32 => Q u_32))))) ∧ (¬ ((((upd (M 0) 17 (((M 0) 17) + 1)) 8) - r_2) ≤ 0) → q_X6_puts ((M 0) 7) 2 (r_27 + 2) (uA M 0 (upd (M 0) 17 (((M 0) 17) + 1))) (fun u_33 => q_X6_of ((M 0) 7) 4 u_33 (fun r_34 => q_X6_puts ((M 0) 7) 4 (r_34 + 1) u_33 (fun u_35 => q_X6_looks u_35 (fun u_36 => Q u_36))))))))) ∧ (¬ (r_3 = 2) → q_X6_of ((M 0) 7) 2 (uA M 0 (upd (M 0) 17 (((M 0) 17) + 1))) (fun r_5 => ((((upd (M 0) 17 (((M 0) 17) + 1)) 8) - r_2) ≤ 0 → q_X6_puts ((M 0) 7) 2 (r_5 + (-1)) (uA M 0 (upd (M 0) 17 (((M 0) 17) + 1))) (fun u_7 => q_X6_of ((M 0) 7) 4 u_7 (fun r_8 => q_X6_puts ((M 0) 7) 4 (r_8 + 1) u_7 (fun u_9 => q_X6_looks u_9 (fun u_10 => Q u_10))))) ∧ (¬ ((((upd (M 0) 17 (((M 0) 17) + 1)) 8) - r_2) ≤ 0) → q_X6_puts ((M 0) 7) 2 (r_5 + 1) (uA M 0 (upd (M 0) 17 (((M 0) 17) + 1))) (fun u_11 => q_X6_of ((M 0) 7) 4 u_11 (fun r_12 => q_X6_puts ((M 0) 7) 4 (r_12 + 1) u_11 (fun u_13 => q_X6_looks u_13 (fun u_14 => Q u_14)))))))))) ∧ (¬ (((M 0) 7) = ((upd (M 0) 17 (((M 0) 17) + 1)) 6)) → (((M 0) 7) ≤ ((upd (M 0) 17 (((M 0) 17) + 1)) 6) → q_X6_looks (uA (uA M 0 (upd (M 0) 17 (((M 0) 17) + 1))) 0 (upd (upd (M 0) 17 (((M 0) 17) + 1)) 6 (((upd (M 0) 17 (((M 0) 17) + 1)) 6) + (-1)))) (fun u_38 => Q u_38)) ∧ (¬ (((M 0) 7) ≤ ((upd (M 0) 17 (((M 0) 17) + 1)) 6)) → q_X6_looks (uA (uA M 0 (upd (M 0) 17 (((M 0) 17) + 1))) 0 (upd (upd (M 0) 17 (((M 0) 17) + 1)) 6 (((upd (M 0) 17 (((M 0) 17) + 1)) 6) + 1))) (fun u_39 => Q u_39)))
set_option maxHeartbeats 4000000 in
set_option maxRecDepth 100000 in
theorem c_X6_works (l : Launch) (G : va_G) (cI cC cD : ClassId) (q : Nat → Nat) (sz : Nat) (M : St)  (Q : St → Prop) (h : q_X6_works  M Q) : Met l yX6_works wsX6_works ({ frames := 2, cells := 0, slots := 0, locals := 42 }) (va_Pc [.ref (q 0)] (PW G (ty3 cI cC cD) (wM cI q M) sz)) (va_Qv Q (BW G (fun u : St => (wM cI q u)) (va_A (wM cI q M) sz)) (va_A (wM cI q M) sz)) 0 0 (va_A (wM cI q M) sz) := by
  refine Met.ofW (cc := cX6_works) (maxL := 4) (ret := none) (by decide) rfl ?_
  intro p e s m args below meth c s₁ B hml hv
  obtain ⟨rfl, hsz, hP, hK, hD0, hN⟩ := hv
  have hx := B.exec
  have hb := B.bytes
  have hr := B.returns
  have hts := atoms_spec (ws := wsX6_works) B.pre
  have hown : s.vm.findClass RX6 = some m.cls := findClass_of_methodNamed B.named
  have hlocks := B.notSynchronized
  subst hsz
  have hD := hD0.self (sz := s.heap.size)
  generalize hAe : va_A (wM cI q M) s.heap.size = A at hD ⊢
  have hA : ∀ q : Nat, s.heap.size ≤ q → A q := fun q h => by rw [← hAe]; exact Or.inr h
  have hS : va_S A s.heap s.heap [] := va_S.rf
  have hl := lv_entry ([.ref (q 0)]) (n := 4) (Nat.le_of_ble_eq_true rfl)
  rw [lg_entry_eq]
  generalize (lg_sl ([.ref (q 0)]) ++ List.replicate (4 - (lg_sl ([.ref (q 0)])).length) Slot.unset).toArray = ls at hl ⊢
  have hl : lv_has ls 4 [(0, .ref (q 0))] := hl
  have hinX6 : ∀ w ∈ wsX60, w ∈ wsX6_works := by decide +kernel
  have hL7 := hts (.fieldLink RX6 7 "CraneGatesModel" "s" "[I") (by decide +kernel)
  unfold q_X6_works at h
  refine lv_aload_n hx hb dX6_works_0 rfl (lv_at hl 0 rfl) ?_
  refine va_get (D := G) (ci := 6) (v := .ref (q 1)) (C := RX6) (T := TX6) (N := 11) hx hb hts hinX6 hown hK hP 0 rfl rfl 0 (by decide) hL7 (fun _ h9 => h9) rfl dX6_works_1 ?_
  refine lv_bipush (v := 7) hx hb dX6_works_4 (by decide) ?_
  refine k_ald (f := (M 0)) (j := 7) (v := ((M 0) 7)) hx hb hK hP 1 0 rfl rfl (show ¬ ((7 : Int32) < 0 ∨ 86 ≤ (7 : Int32).toNatClampNeg) by decide) rfl rfl dX6_works_6 ?_
  refine lv_istore_n (lv' := [(1, .int ((M 0) 7)), (0, .ref (q 0))]) hx hb dX6_works_7 rfl hl (by decide) rfl (fun ls hl => ?_)
  refine lv_aload_n hx hb dX6_works_8 rfl (lv_at hl 1 rfl) ?_
  refine va_get (D := G) (ci := 6) (v := .ref (q 1)) (C := RX6) (T := TX6) (N := 11) hx hb hts hinX6 hown hK hP 0 rfl rfl 0 (by decide) hL7 (fun _ h9 => h9) rfl dX6_works_9 ?_
  refine lv_bipush (v := 17) hx hb dX6_works_12 (by decide) ?_
  refine lv_dup2_11 hx hb dX6_works_14 rfl rfl ?_
  refine k_ald (f := (M 0)) (j := 17) (v := ((M 0) 17)) hx hb hK hP 1 0 rfl rfl (show ¬ ((17 : Int32) < 0 ∨ 86 ≤ (17 : Int32).toNatClampNeg) by decide) rfl rfl dX6_works_15 ?_
  refine lv_iconst (v := 1) hx hb dX6_works_16 (by decide) ?_
  refine lv_iadd hx hb dX6_works_17 ?_
  refine k_ast (f := (M 0)) (j := 17) (ws' := (wM cI q (uA M 0 (upd (M 0) 17 (((M 0) 17) + 1))))) hx hb hK hP hD hS 1 0 rfl rfl (show ¬ ((17 : Int32) < 0 ∨ 86 ≤ (17 : Int32).toNatClampNeg) by decide) rfl dX6_works_18 (st_M_0 cI q M (upd (M 0) 17 (((M 0) 17) + 1))) (fun H locs hP hD hS => ?_)
  refine lv_iload_n hx hb dX6_works_19 rfl (lv_at hl 0 rfl) ?_
  refine lv_aload_n hx hb dX6_works_20 rfl (lv_at hl 1 rfl) ?_
  refine va_get (D := G) (ci := 6) (v := .ref (q 1)) (C := RX6) (T := TX6) (N := 11) hx hb hts hinX6 hown hK hP 0 rfl rfl 0 (by decide) hL7 (fun _ h9 => h9) rfl dX6_works_21 ?_
  refine lv_bipush (v := 6) hx hb dX6_works_24 (by decide) ?_
  refine k_ald (f := (upd (M 0) 17 (((M 0) 17) + 1))) (j := 6) (v := ((upd (M 0) 17 (((M 0) 17) + 1)) 6)) hx hb hK hP 1 0 rfl rfl (show ¬ ((6 : Int32) < 0 ∨ 86 ≤ (6 : Int32).toNatClampNeg) by decide) rfl rfl dX6_works_26 ?_
  refine lv_icmp_eq (tgt := 59) hx hb dX6_works_27 (by decide) (fun c_1 => ?_) (fun c_1 => ?_)
  · have h := h.1 c_1
    refine lv_aload_n hx hb dX6_works_59 rfl (lv_at hl 1 rfl) ?_
    refine va_get (D := G) (ci := 6) (v := .ref (q 1)) (C := RX6) (T := TX6) (N := 11) hx hb hts hinX6 hown hK hP 0 rfl rfl 0 (by decide) hL7 (fun _ h9 => h9) rfl dX6_works_60 ?_
    refine lv_bipush (v := 8) hx hb dX6_works_63 (by decide) ?_
    refine k_ald (f := (upd (M 0) 17 (((M 0) 17) + 1))) (j := 8) (v := ((upd (M 0) 17 (((M 0) 17) + 1)) 8)) hx hb hK hP 1 0 rfl rfl (show ¬ ((8 : Int32) < 0 ∨ 86 ≤ (8 : Int32).toNatClampNeg) by decide) rfl rfl dX6_works_65 ?_
    refine lv_aload_n hx hb dX6_works_66 rfl (lv_at hl 1 rfl) ?_
    refine lv_iload_n hx hb dX6_works_67 rfl (lv_at hl 0 rfl) ?_
    refine lv_iconst (v := 2) hx hb dX6_works_68 (by decide) ?_
    refine kc_i (As := [.int ((M 0) 7), .int 2]) (rest := [.int ((upd (M 0) 17 (((M 0) 17) + 1)) 8)]) (wg := (fun _ => (wM cI q (uA M 0 (upd (M 0) 17 (((M 0) 17) + 1)))))) ⟨hx, hb, hml, hown, hts⟩ (c_X6_of l G cI cC cD q _ (uA M 0 (upd (M 0) 17 (((M 0) 17) + 1))) ((M 0) 7) 2 _ h) (cwV 2 hts gX6_works_X6_of rfl rfl rfl (by decide +kernel) ⟨Nat.le_of_ble_eq_true rfl, Nat.le_of_ble_eq_true rfl⟩) hK hN hP hD hS hA (em_MM cI q (uA M 0 (upd (M 0) 17 (((M 0) 17) + 1)))) (fun _ => rp_self (em_MM cI q (uA M 0 (upd (M 0) 17 (((M 0) 17) + 1))))) rfl rfl rfl rfl hl.1 rfl (Nat.le_of_ble_eq_true rfl) dX6_works_69 ⟨Nat.zero_le _, Nat.zero_le _⟩ (fun r_2 _ H locs h hP hD hS => ?_)
    refine lv_isub hx hb dX6_works_72 ?_
    refine lv_istore_n (lv' := [(2, .int (((upd (M 0) 17 (((M 0) 17) + 1)) 8) - r_2)), (1, .int ((M 0) 7)), (0, .ref (q 0))]) hx hb dX6_works_73 rfl hl (by decide) rfl (fun ls hl => ?_)
    refine lv_aload_n hx hb dX6_works_74 rfl (lv_at hl 2 rfl) ?_
    refine lv_iload_n hx hb dX6_works_75 rfl (lv_at hl 1 rfl) ?_
    refine lv_iconst (v := 0) hx hb dX6_works_76 (by decide) ?_
    refine kc_i (As := [.int ((M 0) 7), .int 0]) (rest := []) (wg := (fun _ => (wM cI q (uA M 0 (upd (M 0) 17 (((M 0) 17) + 1)))))) ⟨hx, hb, hml, hown, hts⟩ (c_X6_of l G cI cC cD q _ (uA M 0 (upd (M 0) 17 (((M 0) 17) + 1))) ((M 0) 7) 0 _ h) (cwV 2 hts gX6_works_X6_of rfl rfl rfl (by decide +kernel) ⟨Nat.le_of_ble_eq_true rfl, Nat.le_of_ble_eq_true rfl⟩) hK hN hP hD hS hA (em_MM cI q (uA M 0 (upd (M 0) 17 (((M 0) 17) + 1)))) (fun _ => rp_self (em_MM cI q (uA M 0 (upd (M 0) 17 (((M 0) 17) + 1))))) rfl rfl rfl rfl hl.1 rfl (Nat.le_of_ble_eq_true rfl) dX6_works_77 ⟨Nat.zero_le _, Nat.zero_le _⟩ (fun r_3 _ H locs h hP hD hS => ?_)
    refine lv_iconst (v := 2) hx hb dX6_works_80 (by decide) ?_
    refine lv_icmp_ne (tgt := 96) hx hb dX6_works_81 (by decide) (fun c_4 => ?_) (fun c_4 => ?_)
    · have h := h.2 c_4
      refine lv_iconst (v := 1) hx hb dX6_works_96 (by decide) ?_
      refine lv_istore_n (lv' := [(3, .int 1), (2, .int (((upd (M 0) 17 (((M 0) 17) + 1)) 8) - r_2)), (1, .int ((M 0) 7)), (0, .ref (q 0))]) hx hb dX6_works_97 rfl hl (by decide) rfl (fun ls hl => ?_)
      refine lv_aload_n hx hb dX6_works_98 rfl (lv_at hl 3 rfl) ?_
      refine lv_iload_n hx hb dX6_works_99 rfl (lv_at hl 2 rfl) ?_
      refine lv_iconst (v := 2) hx hb dX6_works_100 (by decide) ?_
      refine lv_aload_n hx hb dX6_works_101 rfl (lv_at hl 3 rfl) ?_
      refine lv_iload_n hx hb dX6_works_102 rfl (lv_at hl 2 rfl) ?_
      refine lv_iconst (v := 2) hx hb dX6_works_103 (by decide) ?_
      refine kc_i (As := [.int ((M 0) 7), .int 2]) (rest := [.int 2, .int ((M 0) 7), .ref (q 0)]) (wg := (fun _ => (wM cI q (uA M 0 (upd (M 0) 17 (((M 0) 17) + 1)))))) ⟨hx, hb, hml, hown, hts⟩ (c_X6_of l G cI cC cD q _ (uA M 0 (upd (M 0) 17 (((M 0) 17) + 1))) ((M 0) 7) 2 _ h) (cwV 2 hts gX6_works_X6_of rfl rfl rfl (by decide +kernel) ⟨Nat.le_of_ble_eq_true rfl, Nat.le_of_ble_eq_true rfl⟩) hK hN hP hD hS hA (em_MM cI q (uA M 0 (upd (M 0) 17 (((M 0) 17) + 1)))) (fun _ => rp_self (em_MM cI q (uA M 0 (upd (M 0) 17 (((M 0) 17) + 1))))) rfl rfl rfl rfl hl.1 rfl (Nat.le_of_ble_eq_true rfl) dX6_works_104 ⟨Nat.zero_le _, Nat.zero_le _⟩ (fun r_5 _ H locs h hP hD hS => ?_)
      refine lv_iload_n hx hb dX6_works_107 rfl (lv_at hl 1 rfl) ?_
      refine lv_if_le (tgt := 115) hx hb dX6_works_108 (by decide) (fun c_6 => ?_) (fun c_6 => ?_)
      · have h := h.1 c_6
        refine lv_iload_n hx hb dX6_works_115 rfl (lv_at hl 0 rfl) ?_
        refine lv_ineg hx hb dX6_works_116 ?_
        refine lv_iadd hx hb dX6_works_117 ?_
        refine kc_v (As := [.int ((M 0) 7), .int 2, .int (r_5 + (-1))]) (rest := []) (wg := (fun u => (wM cI q u))) ⟨hx, hb, hml, hown, hts⟩ (c_X6_puts l G cI cC cD q _ (uA M 0 (upd (M 0) 17 (((M 0) 17) + 1))) ((M 0) 7) 2 (r_5 + (-1)) _ h) (cwV 3 hts gX6_works_X6_puts rfl rfl rfl (by decide +kernel) ⟨Nat.le_of_ble_eq_true rfl, Nat.le_of_ble_eq_true rfl⟩) hK hN hP hD hS hA (em_MM cI q (uA M 0 (upd (M 0) 17 (((M 0) 17) + 1)))) (fun u => rp_MM cI q (uA M 0 (upd (M 0) 17 (((M 0) 17) + 1))) u) rfl rfl rfl rfl hl.1 rfl (Nat.le_of_ble_eq_true rfl) dX6_works_118 ⟨Nat.zero_le _, Nat.zero_le _⟩ (fun u_7 H locs h hP hD hS => ?_)
        refine lv_aload_n hx hb dX6_works_121 rfl (lv_at hl 3 rfl) ?_
        refine lv_iload_n hx hb dX6_works_122 rfl (lv_at hl 2 rfl) ?_
        refine lv_iconst (v := 4) hx hb dX6_works_123 (by decide) ?_
        refine lv_aload_n hx hb dX6_works_124 rfl (lv_at hl 3 rfl) ?_
        refine lv_iload_n hx hb dX6_works_125 rfl (lv_at hl 2 rfl) ?_
        refine lv_iconst (v := 4) hx hb dX6_works_126 (by decide) ?_
        refine kc_i (As := [.int ((M 0) 7), .int 4]) (rest := [.int 4, .int ((M 0) 7), .ref (q 0)]) (wg := (fun _ => (wM cI q u_7))) ⟨hx, hb, hml, hown, hts⟩ (c_X6_of l G cI cC cD q _ u_7 ((M 0) 7) 4 _ h) (cwV 2 hts gX6_works_X6_of rfl rfl rfl (by decide +kernel) ⟨Nat.le_of_ble_eq_true rfl, Nat.le_of_ble_eq_true rfl⟩) hK hN hP hD hS hA (em_MM cI q u_7) (fun _ => rp_self (em_MM cI q u_7)) rfl rfl rfl rfl hl.1 rfl (Nat.le_of_ble_eq_true rfl) dX6_works_127 ⟨Nat.zero_le _, Nat.zero_le _⟩ (fun r_8 _ H locs h hP hD hS => ?_)
        refine lv_iconst (v := 1) hx hb dX6_works_130 (by decide) ?_
        refine lv_iadd hx hb dX6_works_131 ?_
        refine kc_v (As := [.int ((M 0) 7), .int 4, .int (r_8 + 1)]) (rest := []) (wg := (fun u => (wM cI q u))) ⟨hx, hb, hml, hown, hts⟩ (c_X6_puts l G cI cC cD q _ u_7 ((M 0) 7) 4 (r_8 + 1) _ h) (cwV 3 hts gX6_works_X6_puts rfl rfl rfl (by decide +kernel) ⟨Nat.le_of_ble_eq_true rfl, Nat.le_of_ble_eq_true rfl⟩) hK hN hP hD hS hA (em_MM cI q u_7) (fun u => rp_MM cI q u_7 u) rfl rfl rfl rfl hl.1 rfl (Nat.le_of_ble_eq_true rfl) dX6_works_132 ⟨Nat.zero_le _, Nat.zero_le _⟩ (fun u_9 H locs h hP hD hS => ?_)
        refine lv_aload_n hx hb dX6_works_135 rfl (lv_at hl 3 rfl) ?_
        refine kc_v (As := []) (rest := []) (wg := (fun u => (wM cI q u))) ⟨hx, hb, hml, hown, hts⟩ (c_X6_looks l G cI cC cD q _ u_9  _ h) (cwV 0 hts gX6_works_X6_looks rfl rfl rfl (by decide +kernel) ⟨Nat.le_of_ble_eq_true rfl, Nat.le_of_ble_eq_true rfl⟩) hK hN hP hD hS hA (em_MM cI q u_9) (fun u => rp_MM cI q u_9 u) rfl rfl rfl rfl hl.1 rfl (Nat.le_of_ble_eq_true rfl) dX6_works_136 ⟨Nat.zero_le _, Nat.zero_le _⟩ (fun u_10 H locs h hP hD hS => ?_)
        exact W.vret hx hb hr (fun t ht hW => ⟨⟨u_10, rfl, h, by rw [ht]; exact hP, hD⟩, hS.F ht⟩) hS.2.2 dX6_works_139
      · have h := h.2 c_6
        refine lv_iload_n hx hb dX6_works_111 rfl (lv_at hl 0 rfl) ?_
        refine lv_goto (tgt := 117) hx hb dX6_works_112 (by decide) ?_
        refine lv_iadd hx hb dX6_works_117 ?_
        refine kc_v (As := [.int ((M 0) 7), .int 2, .int (r_5 + 1)]) (rest := []) (wg := (fun u => (wM cI q u))) ⟨hx, hb, hml, hown, hts⟩ (c_X6_puts l G cI cC cD q _ (uA M 0 (upd (M 0) 17 (((M 0) 17) + 1))) ((M 0) 7) 2 (r_5 + 1) _ h) (cwV 3 hts gX6_works_X6_puts rfl rfl rfl (by decide +kernel) ⟨Nat.le_of_ble_eq_true rfl, Nat.le_of_ble_eq_true rfl⟩) hK hN hP hD hS hA (em_MM cI q (uA M 0 (upd (M 0) 17 (((M 0) 17) + 1)))) (fun u => rp_MM cI q (uA M 0 (upd (M 0) 17 (((M 0) 17) + 1))) u) rfl rfl rfl rfl hl.1 rfl (Nat.le_of_ble_eq_true rfl) dX6_works_118 ⟨Nat.zero_le _, Nat.zero_le _⟩ (fun u_11 H locs h hP hD hS => ?_)
        refine lv_aload_n hx hb dX6_works_121 rfl (lv_at hl 3 rfl) ?_
        refine lv_iload_n hx hb dX6_works_122 rfl (lv_at hl 2 rfl) ?_
        refine lv_iconst (v := 4) hx hb dX6_works_123 (by decide) ?_
        refine lv_aload_n hx hb dX6_works_124 rfl (lv_at hl 3 rfl) ?_
        refine lv_iload_n hx hb dX6_works_125 rfl (lv_at hl 2 rfl) ?_
        refine lv_iconst (v := 4) hx hb dX6_works_126 (by decide) ?_
        refine kc_i (As := [.int ((M 0) 7), .int 4]) (rest := [.int 4, .int ((M 0) 7), .ref (q 0)]) (wg := (fun _ => (wM cI q u_11))) ⟨hx, hb, hml, hown, hts⟩ (c_X6_of l G cI cC cD q _ u_11 ((M 0) 7) 4 _ h) (cwV 2 hts gX6_works_X6_of rfl rfl rfl (by decide +kernel) ⟨Nat.le_of_ble_eq_true rfl, Nat.le_of_ble_eq_true rfl⟩) hK hN hP hD hS hA (em_MM cI q u_11) (fun _ => rp_self (em_MM cI q u_11)) rfl rfl rfl rfl hl.1 rfl (Nat.le_of_ble_eq_true rfl) dX6_works_127 ⟨Nat.zero_le _, Nat.zero_le _⟩ (fun r_12 _ H locs h hP hD hS => ?_)
        refine lv_iconst (v := 1) hx hb dX6_works_130 (by decide) ?_
        refine lv_iadd hx hb dX6_works_131 ?_
        refine kc_v (As := [.int ((M 0) 7), .int 4, .int (r_12 + 1)]) (rest := []) (wg := (fun u => (wM cI q u))) ⟨hx, hb, hml, hown, hts⟩ (c_X6_puts l G cI cC cD q _ u_11 ((M 0) 7) 4 (r_12 + 1) _ h) (cwV 3 hts gX6_works_X6_puts rfl rfl rfl (by decide +kernel) ⟨Nat.le_of_ble_eq_true rfl, Nat.le_of_ble_eq_true rfl⟩) hK hN hP hD hS hA (em_MM cI q u_11) (fun u => rp_MM cI q u_11 u) rfl rfl rfl rfl hl.1 rfl (Nat.le_of_ble_eq_true rfl) dX6_works_132 ⟨Nat.zero_le _, Nat.zero_le _⟩ (fun u_13 H locs h hP hD hS => ?_)
        refine lv_aload_n hx hb dX6_works_135 rfl (lv_at hl 3 rfl) ?_
        refine kc_v (As := []) (rest := []) (wg := (fun u => (wM cI q u))) ⟨hx, hb, hml, hown, hts⟩ (c_X6_looks l G cI cC cD q _ u_13  _ h) (cwV 0 hts gX6_works_X6_looks rfl rfl rfl (by decide +kernel) ⟨Nat.le_of_ble_eq_true rfl, Nat.le_of_ble_eq_true rfl⟩) hK hN hP hD hS hA (em_MM cI q u_13) (fun u => rp_MM cI q u_13 u) rfl rfl rfl rfl hl.1 rfl (Nat.le_of_ble_eq_true rfl) dX6_works_136 ⟨Nat.zero_le _, Nat.zero_le _⟩ (fun u_14 H locs h hP hD hS => ?_)
        exact W.vret hx hb hr (fun t ht hW => ⟨⟨u_14, rfl, h, by rw [ht]; exact hP, hD⟩, hS.F ht⟩) hS.2.2 dX6_works_139
    · have h := h.1 c_4
      refine lv_iload_n hx hb dX6_works_84 rfl (lv_at hl 0 rfl) ?_
      refine ks_i (As := [.int (((upd (M 0) 17 (((M 0) 17) + 1)) 8) - r_2)]) (rest := []) (wg := (fun _ => (wM cI q (uA M 0 (upd (M 0) 17 (((M 0) 17) + 1)))))) ⟨hx, hb, hml, hown, hts⟩ (c_X6_size l G cI cC cD  _  (((upd (M 0) 17 (((M 0) 17) + 1)) 8) - r_2) _ h) (va_cwS 1 hts gX6_works_X6_size rfl rfl rfl (by decide +kernel) ⟨Nat.le_of_ble_eq_true rfl, Nat.le_of_ble_eq_true rfl⟩) hK hN hP hD hS hA (em_0 _) (fun _ => rp_self (em_0 _)) rfl hl.1 rfl (Nat.le_of_ble_eq_true rfl) dX6_works_85 ⟨Nat.zero_le _, Nat.zero_le _⟩ (fun r_15 _ H locs h hP hD hS => ?_)
      refine lv_iconst (v := 1) hx hb dX6_works_88 (by decide) ?_
      refine lv_icmp_le (tgt := 96) hx hb dX6_works_89 (by decide) (fun c_16 => ?_) (fun c_16 => ?_)
      · have h := h.1 c_16
        refine lv_iconst (v := 1) hx hb dX6_works_96 (by decide) ?_
        refine lv_istore_n (lv' := [(3, .int 1), (2, .int (((upd (M 0) 17 (((M 0) 17) + 1)) 8) - r_2)), (1, .int ((M 0) 7)), (0, .ref (q 0))]) hx hb dX6_works_97 rfl hl (by decide) rfl (fun ls hl => ?_)
        refine lv_aload_n hx hb dX6_works_98 rfl (lv_at hl 3 rfl) ?_
        refine lv_iload_n hx hb dX6_works_99 rfl (lv_at hl 2 rfl) ?_
        refine lv_iconst (v := 2) hx hb dX6_works_100 (by decide) ?_
        refine lv_aload_n hx hb dX6_works_101 rfl (lv_at hl 3 rfl) ?_
        refine lv_iload_n hx hb dX6_works_102 rfl (lv_at hl 2 rfl) ?_
        refine lv_iconst (v := 2) hx hb dX6_works_103 (by decide) ?_
        refine kc_i (As := [.int ((M 0) 7), .int 2]) (rest := [.int 2, .int ((M 0) 7), .ref (q 0)]) (wg := (fun _ => (wM cI q (uA M 0 (upd (M 0) 17 (((M 0) 17) + 1)))))) ⟨hx, hb, hml, hown, hts⟩ (c_X6_of l G cI cC cD q _ (uA M 0 (upd (M 0) 17 (((M 0) 17) + 1))) ((M 0) 7) 2 _ h) (cwV 2 hts gX6_works_X6_of rfl rfl rfl (by decide +kernel) ⟨Nat.le_of_ble_eq_true rfl, Nat.le_of_ble_eq_true rfl⟩) hK hN hP hD hS hA (em_MM cI q (uA M 0 (upd (M 0) 17 (((M 0) 17) + 1)))) (fun _ => rp_self (em_MM cI q (uA M 0 (upd (M 0) 17 (((M 0) 17) + 1))))) rfl rfl rfl rfl hl.1 rfl (Nat.le_of_ble_eq_true rfl) dX6_works_104 ⟨Nat.zero_le _, Nat.zero_le _⟩ (fun r_17 _ H locs h hP hD hS => ?_)
        refine lv_iload_n hx hb dX6_works_107 rfl (lv_at hl 1 rfl) ?_
        refine lv_if_le (tgt := 115) hx hb dX6_works_108 (by decide) (fun c_18 => ?_) (fun c_18 => ?_)
        · have h := h.1 c_18
          refine lv_iload_n hx hb dX6_works_115 rfl (lv_at hl 0 rfl) ?_
          refine lv_ineg hx hb dX6_works_116 ?_
          refine lv_iadd hx hb dX6_works_117 ?_
          refine kc_v (As := [.int ((M 0) 7), .int 2, .int (r_17 + (-1))]) (rest := []) (wg := (fun u => (wM cI q u))) ⟨hx, hb, hml, hown, hts⟩ (c_X6_puts l G cI cC cD q _ (uA M 0 (upd (M 0) 17 (((M 0) 17) + 1))) ((M 0) 7) 2 (r_17 + (-1)) _ h) (cwV 3 hts gX6_works_X6_puts rfl rfl rfl (by decide +kernel) ⟨Nat.le_of_ble_eq_true rfl, Nat.le_of_ble_eq_true rfl⟩) hK hN hP hD hS hA (em_MM cI q (uA M 0 (upd (M 0) 17 (((M 0) 17) + 1)))) (fun u => rp_MM cI q (uA M 0 (upd (M 0) 17 (((M 0) 17) + 1))) u) rfl rfl rfl rfl hl.1 rfl (Nat.le_of_ble_eq_true rfl) dX6_works_118 ⟨Nat.zero_le _, Nat.zero_le _⟩ (fun u_19 H locs h hP hD hS => ?_)
          refine lv_aload_n hx hb dX6_works_121 rfl (lv_at hl 3 rfl) ?_
          refine lv_iload_n hx hb dX6_works_122 rfl (lv_at hl 2 rfl) ?_
          refine lv_iconst (v := 4) hx hb dX6_works_123 (by decide) ?_
          refine lv_aload_n hx hb dX6_works_124 rfl (lv_at hl 3 rfl) ?_
          refine lv_iload_n hx hb dX6_works_125 rfl (lv_at hl 2 rfl) ?_
          refine lv_iconst (v := 4) hx hb dX6_works_126 (by decide) ?_
          refine kc_i (As := [.int ((M 0) 7), .int 4]) (rest := [.int 4, .int ((M 0) 7), .ref (q 0)]) (wg := (fun _ => (wM cI q u_19))) ⟨hx, hb, hml, hown, hts⟩ (c_X6_of l G cI cC cD q _ u_19 ((M 0) 7) 4 _ h) (cwV 2 hts gX6_works_X6_of rfl rfl rfl (by decide +kernel) ⟨Nat.le_of_ble_eq_true rfl, Nat.le_of_ble_eq_true rfl⟩) hK hN hP hD hS hA (em_MM cI q u_19) (fun _ => rp_self (em_MM cI q u_19)) rfl rfl rfl rfl hl.1 rfl (Nat.le_of_ble_eq_true rfl) dX6_works_127 ⟨Nat.zero_le _, Nat.zero_le _⟩ (fun r_20 _ H locs h hP hD hS => ?_)
          refine lv_iconst (v := 1) hx hb dX6_works_130 (by decide) ?_
          refine lv_iadd hx hb dX6_works_131 ?_
          refine kc_v (As := [.int ((M 0) 7), .int 4, .int (r_20 + 1)]) (rest := []) (wg := (fun u => (wM cI q u))) ⟨hx, hb, hml, hown, hts⟩ (c_X6_puts l G cI cC cD q _ u_19 ((M 0) 7) 4 (r_20 + 1) _ h) (cwV 3 hts gX6_works_X6_puts rfl rfl rfl (by decide +kernel) ⟨Nat.le_of_ble_eq_true rfl, Nat.le_of_ble_eq_true rfl⟩) hK hN hP hD hS hA (em_MM cI q u_19) (fun u => rp_MM cI q u_19 u) rfl rfl rfl rfl hl.1 rfl (Nat.le_of_ble_eq_true rfl) dX6_works_132 ⟨Nat.zero_le _, Nat.zero_le _⟩ (fun u_21 H locs h hP hD hS => ?_)
          refine lv_aload_n hx hb dX6_works_135 rfl (lv_at hl 3 rfl) ?_
          refine kc_v (As := []) (rest := []) (wg := (fun u => (wM cI q u))) ⟨hx, hb, hml, hown, hts⟩ (c_X6_looks l G cI cC cD q _ u_21  _ h) (cwV 0 hts gX6_works_X6_looks rfl rfl rfl (by decide +kernel) ⟨Nat.le_of_ble_eq_true rfl, Nat.le_of_ble_eq_true rfl⟩) hK hN hP hD hS hA (em_MM cI q u_21) (fun u => rp_MM cI q u_21 u) rfl rfl rfl rfl hl.1 rfl (Nat.le_of_ble_eq_true rfl) dX6_works_136 ⟨Nat.zero_le _, Nat.zero_le _⟩ (fun u_22 H locs h hP hD hS => ?_)
          exact W.vret hx hb hr (fun t ht hW => ⟨⟨u_22, rfl, h, by rw [ht]; exact hP, hD⟩, hS.F ht⟩) hS.2.2 dX6_works_139
        · have h := h.2 c_18
          refine lv_iload_n hx hb dX6_works_111 rfl (lv_at hl 0 rfl) ?_
          refine lv_goto (tgt := 117) hx hb dX6_works_112 (by decide) ?_
          refine lv_iadd hx hb dX6_works_117 ?_
          refine kc_v (As := [.int ((M 0) 7), .int 2, .int (r_17 + 1)]) (rest := []) (wg := (fun u => (wM cI q u))) ⟨hx, hb, hml, hown, hts⟩ (c_X6_puts l G cI cC cD q _ (uA M 0 (upd (M 0) 17 (((M 0) 17) + 1))) ((M 0) 7) 2 (r_17 + 1) _ h) (cwV 3 hts gX6_works_X6_puts rfl rfl rfl (by decide +kernel) ⟨Nat.le_of_ble_eq_true rfl, Nat.le_of_ble_eq_true rfl⟩) hK hN hP hD hS hA (em_MM cI q (uA M 0 (upd (M 0) 17 (((M 0) 17) + 1)))) (fun u => rp_MM cI q (uA M 0 (upd (M 0) 17 (((M 0) 17) + 1))) u) rfl rfl rfl rfl hl.1 rfl (Nat.le_of_ble_eq_true rfl) dX6_works_118 ⟨Nat.zero_le _, Nat.zero_le _⟩ (fun u_23 H locs h hP hD hS => ?_)
          refine lv_aload_n hx hb dX6_works_121 rfl (lv_at hl 3 rfl) ?_
          refine lv_iload_n hx hb dX6_works_122 rfl (lv_at hl 2 rfl) ?_
          refine lv_iconst (v := 4) hx hb dX6_works_123 (by decide) ?_
          refine lv_aload_n hx hb dX6_works_124 rfl (lv_at hl 3 rfl) ?_
          refine lv_iload_n hx hb dX6_works_125 rfl (lv_at hl 2 rfl) ?_
          refine lv_iconst (v := 4) hx hb dX6_works_126 (by decide) ?_
          refine kc_i (As := [.int ((M 0) 7), .int 4]) (rest := [.int 4, .int ((M 0) 7), .ref (q 0)]) (wg := (fun _ => (wM cI q u_23))) ⟨hx, hb, hml, hown, hts⟩ (c_X6_of l G cI cC cD q _ u_23 ((M 0) 7) 4 _ h) (cwV 2 hts gX6_works_X6_of rfl rfl rfl (by decide +kernel) ⟨Nat.le_of_ble_eq_true rfl, Nat.le_of_ble_eq_true rfl⟩) hK hN hP hD hS hA (em_MM cI q u_23) (fun _ => rp_self (em_MM cI q u_23)) rfl rfl rfl rfl hl.1 rfl (Nat.le_of_ble_eq_true rfl) dX6_works_127 ⟨Nat.zero_le _, Nat.zero_le _⟩ (fun r_24 _ H locs h hP hD hS => ?_)
          refine lv_iconst (v := 1) hx hb dX6_works_130 (by decide) ?_
          refine lv_iadd hx hb dX6_works_131 ?_
          refine kc_v (As := [.int ((M 0) 7), .int 4, .int (r_24 + 1)]) (rest := []) (wg := (fun u => (wM cI q u))) ⟨hx, hb, hml, hown, hts⟩ (c_X6_puts l G cI cC cD q _ u_23 ((M 0) 7) 4 (r_24 + 1) _ h) (cwV 3 hts gX6_works_X6_puts rfl rfl rfl (by decide +kernel) ⟨Nat.le_of_ble_eq_true rfl, Nat.le_of_ble_eq_true rfl⟩) hK hN hP hD hS hA (em_MM cI q u_23) (fun u => rp_MM cI q u_23 u) rfl rfl rfl rfl hl.1 rfl (Nat.le_of_ble_eq_true rfl) dX6_works_132 ⟨Nat.zero_le _, Nat.zero_le _⟩ (fun u_25 H locs h hP hD hS => ?_)
          refine lv_aload_n hx hb dX6_works_135 rfl (lv_at hl 3 rfl) ?_
          refine kc_v (As := []) (rest := []) (wg := (fun u => (wM cI q u))) ⟨hx, hb, hml, hown, hts⟩ (c_X6_looks l G cI cC cD q _ u_25  _ h) (cwV 0 hts gX6_works_X6_looks rfl rfl rfl (by decide +kernel) ⟨Nat.le_of_ble_eq_true rfl, Nat.le_of_ble_eq_true rfl⟩) hK hN hP hD hS hA (em_MM cI q u_25) (fun u => rp_MM cI q u_25 u) rfl rfl rfl rfl hl.1 rfl (Nat.le_of_ble_eq_true rfl) dX6_works_136 ⟨Nat.zero_le _, Nat.zero_le _⟩ (fun u_26 H locs h hP hD hS => ?_)
          exact W.vret hx hb hr (fun t ht hW => ⟨⟨u_26, rfl, h, by rw [ht]; exact hP, hD⟩, hS.F ht⟩) hS.2.2 dX6_works_139
      · have h := h.2 c_16
        refine lv_iconst (v := 2) hx hb dX6_works_92 (by decide) ?_
        refine lv_goto (tgt := 97) hx hb dX6_works_93 (by decide) ?_
        refine lv_istore_n (lv' := [(3, .int 2), (2, .int (((upd (M 0) 17 (((M 0) 17) + 1)) 8) - r_2)), (1, .int ((M 0) 7)), (0, .ref (q 0))]) hx hb dX6_works_97 rfl hl (by decide) rfl (fun ls hl => ?_)
        refine lv_aload_n hx hb dX6_works_98 rfl (lv_at hl 3 rfl) ?_
        refine lv_iload_n hx hb dX6_works_99 rfl (lv_at hl 2 rfl) ?_
        refine lv_iconst (v := 2) hx hb dX6_works_100 (by decide) ?_
        refine lv_aload_n hx hb dX6_works_101 rfl (lv_at hl 3 rfl) ?_
        refine lv_iload_n hx hb dX6_works_102 rfl (lv_at hl 2 rfl) ?_
        refine lv_iconst (v := 2) hx hb dX6_works_103 (by decide) ?_
        refine kc_i (As := [.int ((M 0) 7), .int 2]) (rest := [.int 2, .int ((M 0) 7), .ref (q 0)]) (wg := (fun _ => (wM cI q (uA M 0 (upd (M 0) 17 (((M 0) 17) + 1)))))) ⟨hx, hb, hml, hown, hts⟩ (c_X6_of l G cI cC cD q _ (uA M 0 (upd (M 0) 17 (((M 0) 17) + 1))) ((M 0) 7) 2 _ h) (cwV 2 hts gX6_works_X6_of rfl rfl rfl (by decide +kernel) ⟨Nat.le_of_ble_eq_true rfl, Nat.le_of_ble_eq_true rfl⟩) hK hN hP hD hS hA (em_MM cI q (uA M 0 (upd (M 0) 17 (((M 0) 17) + 1)))) (fun _ => rp_self (em_MM cI q (uA M 0 (upd (M 0) 17 (((M 0) 17) + 1))))) rfl rfl rfl rfl hl.1 rfl (Nat.le_of_ble_eq_true rfl) dX6_works_104 ⟨Nat.zero_le _, Nat.zero_le _⟩ (fun r_27 _ H locs h hP hD hS => ?_)
        refine lv_iload_n hx hb dX6_works_107 rfl (lv_at hl 1 rfl) ?_
        refine lv_if_le (tgt := 115) hx hb dX6_works_108 (by decide) (fun c_28 => ?_) (fun c_28 => ?_)
        · have h := h.1 c_28
          refine lv_iload_n hx hb dX6_works_115 rfl (lv_at hl 0 rfl) ?_
          refine lv_ineg hx hb dX6_works_116 ?_
          refine lv_iadd hx hb dX6_works_117 ?_
          refine kc_v (As := [.int ((M 0) 7), .int 2, .int (r_27 + (-2))]) (rest := []) (wg := (fun u => (wM cI q u))) ⟨hx, hb, hml, hown, hts⟩ (c_X6_puts l G cI cC cD q _ (uA M 0 (upd (M 0) 17 (((M 0) 17) + 1))) ((M 0) 7) 2 (r_27 + (-2)) _ h) (cwV 3 hts gX6_works_X6_puts rfl rfl rfl (by decide +kernel) ⟨Nat.le_of_ble_eq_true rfl, Nat.le_of_ble_eq_true rfl⟩) hK hN hP hD hS hA (em_MM cI q (uA M 0 (upd (M 0) 17 (((M 0) 17) + 1)))) (fun u => rp_MM cI q (uA M 0 (upd (M 0) 17 (((M 0) 17) + 1))) u) rfl rfl rfl rfl hl.1 rfl (Nat.le_of_ble_eq_true rfl) dX6_works_118 ⟨Nat.zero_le _, Nat.zero_le _⟩ (fun u_29 H locs h hP hD hS => ?_)
          refine lv_aload_n hx hb dX6_works_121 rfl (lv_at hl 3 rfl) ?_
          refine lv_iload_n hx hb dX6_works_122 rfl (lv_at hl 2 rfl) ?_
          refine lv_iconst (v := 4) hx hb dX6_works_123 (by decide) ?_
          refine lv_aload_n hx hb dX6_works_124 rfl (lv_at hl 3 rfl) ?_
          refine lv_iload_n hx hb dX6_works_125 rfl (lv_at hl 2 rfl) ?_
          refine lv_iconst (v := 4) hx hb dX6_works_126 (by decide) ?_
          refine kc_i (As := [.int ((M 0) 7), .int 4]) (rest := [.int 4, .int ((M 0) 7), .ref (q 0)]) (wg := (fun _ => (wM cI q u_29))) ⟨hx, hb, hml, hown, hts⟩ (c_X6_of l G cI cC cD q _ u_29 ((M 0) 7) 4 _ h) (cwV 2 hts gX6_works_X6_of rfl rfl rfl (by decide +kernel) ⟨Nat.le_of_ble_eq_true rfl, Nat.le_of_ble_eq_true rfl⟩) hK hN hP hD hS hA (em_MM cI q u_29) (fun _ => rp_self (em_MM cI q u_29)) rfl rfl rfl rfl hl.1 rfl (Nat.le_of_ble_eq_true rfl) dX6_works_127 ⟨Nat.zero_le _, Nat.zero_le _⟩ (fun r_30 _ H locs h hP hD hS => ?_)
          refine lv_iconst (v := 1) hx hb dX6_works_130 (by decide) ?_
          refine lv_iadd hx hb dX6_works_131 ?_
          refine kc_v (As := [.int ((M 0) 7), .int 4, .int (r_30 + 1)]) (rest := []) (wg := (fun u => (wM cI q u))) ⟨hx, hb, hml, hown, hts⟩ (c_X6_puts l G cI cC cD q _ u_29 ((M 0) 7) 4 (r_30 + 1) _ h) (cwV 3 hts gX6_works_X6_puts rfl rfl rfl (by decide +kernel) ⟨Nat.le_of_ble_eq_true rfl, Nat.le_of_ble_eq_true rfl⟩) hK hN hP hD hS hA (em_MM cI q u_29) (fun u => rp_MM cI q u_29 u) rfl rfl rfl rfl hl.1 rfl (Nat.le_of_ble_eq_true rfl) dX6_works_132 ⟨Nat.zero_le _, Nat.zero_le _⟩ (fun u_31 H locs h hP hD hS => ?_)
          refine lv_aload_n hx hb dX6_works_135 rfl (lv_at hl 3 rfl) ?_
          refine kc_v (As := []) (rest := []) (wg := (fun u => (wM cI q u))) ⟨hx, hb, hml, hown, hts⟩ (c_X6_looks l G cI cC cD q _ u_31  _ h) (cwV 0 hts gX6_works_X6_looks rfl rfl rfl (by decide +kernel) ⟨Nat.le_of_ble_eq_true rfl, Nat.le_of_ble_eq_true rfl⟩) hK hN hP hD hS hA (em_MM cI q u_31) (fun u => rp_MM cI q u_31 u) rfl rfl rfl rfl hl.1 rfl (Nat.le_of_ble_eq_true rfl) dX6_works_136 ⟨Nat.zero_le _, Nat.zero_le _⟩ (fun u_32 H locs h hP hD hS => ?_)
          exact W.vret hx hb hr (fun t ht hW => ⟨⟨u_32, rfl, h, by rw [ht]; exact hP, hD⟩, hS.F ht⟩) hS.2.2 dX6_works_139
        · have h := h.2 c_28
          refine lv_iload_n hx hb dX6_works_111 rfl (lv_at hl 0 rfl) ?_
          refine lv_goto (tgt := 117) hx hb dX6_works_112 (by decide) ?_
          refine lv_iadd hx hb dX6_works_117 ?_
          refine kc_v (As := [.int ((M 0) 7), .int 2, .int (r_27 + 2)]) (rest := []) (wg := (fun u => (wM cI q u))) ⟨hx, hb, hml, hown, hts⟩ (c_X6_puts l G cI cC cD q _ (uA M 0 (upd (M 0) 17 (((M 0) 17) + 1))) ((M 0) 7) 2 (r_27 + 2) _ h) (cwV 3 hts gX6_works_X6_puts rfl rfl rfl (by decide +kernel) ⟨Nat.le_of_ble_eq_true rfl, Nat.le_of_ble_eq_true rfl⟩) hK hN hP hD hS hA (em_MM cI q (uA M 0 (upd (M 0) 17 (((M 0) 17) + 1)))) (fun u => rp_MM cI q (uA M 0 (upd (M 0) 17 (((M 0) 17) + 1))) u) rfl rfl rfl rfl hl.1 rfl (Nat.le_of_ble_eq_true rfl) dX6_works_118 ⟨Nat.zero_le _, Nat.zero_le _⟩ (fun u_33 H locs h hP hD hS => ?_)
          refine lv_aload_n hx hb dX6_works_121 rfl (lv_at hl 3 rfl) ?_
          refine lv_iload_n hx hb dX6_works_122 rfl (lv_at hl 2 rfl) ?_
          refine lv_iconst (v := 4) hx hb dX6_works_123 (by decide) ?_
          refine lv_aload_n hx hb dX6_works_124 rfl (lv_at hl 3 rfl) ?_
          refine lv_iload_n hx hb dX6_works_125 rfl (lv_at hl 2 rfl) ?_
          refine lv_iconst (v := 4) hx hb dX6_works_126 (by decide) ?_
          refine kc_i (As := [.int ((M 0) 7), .int 4]) (rest := [.int 4, .int ((M 0) 7), .ref (q 0)]) (wg := (fun _ => (wM cI q u_33))) ⟨hx, hb, hml, hown, hts⟩ (c_X6_of l G cI cC cD q _ u_33 ((M 0) 7) 4 _ h) (cwV 2 hts gX6_works_X6_of rfl rfl rfl (by decide +kernel) ⟨Nat.le_of_ble_eq_true rfl, Nat.le_of_ble_eq_true rfl⟩) hK hN hP hD hS hA (em_MM cI q u_33) (fun _ => rp_self (em_MM cI q u_33)) rfl rfl rfl rfl hl.1 rfl (Nat.le_of_ble_eq_true rfl) dX6_works_127 ⟨Nat.zero_le _, Nat.zero_le _⟩ (fun r_34 _ H locs h hP hD hS => ?_)
          refine lv_iconst (v := 1) hx hb dX6_works_130 (by decide) ?_
          refine lv_iadd hx hb dX6_works_131 ?_
          refine kc_v (As := [.int ((M 0) 7), .int 4, .int (r_34 + 1)]) (rest := []) (wg := (fun u => (wM cI q u))) ⟨hx, hb, hml, hown, hts⟩ (c_X6_puts l G cI cC cD q _ u_33 ((M 0) 7) 4 (r_34 + 1) _ h) (cwV 3 hts gX6_works_X6_puts rfl rfl rfl (by decide +kernel) ⟨Nat.le_of_ble_eq_true rfl, Nat.le_of_ble_eq_true rfl⟩) hK hN hP hD hS hA (em_MM cI q u_33) (fun u => rp_MM cI q u_33 u) rfl rfl rfl rfl hl.1 rfl (Nat.le_of_ble_eq_true rfl) dX6_works_132 ⟨Nat.zero_le _, Nat.zero_le _⟩ (fun u_35 H locs h hP hD hS => ?_)
          refine lv_aload_n hx hb dX6_works_135 rfl (lv_at hl 3 rfl) ?_
          refine kc_v (As := []) (rest := []) (wg := (fun u => (wM cI q u))) ⟨hx, hb, hml, hown, hts⟩ (c_X6_looks l G cI cC cD q _ u_35  _ h) (cwV 0 hts gX6_works_X6_looks rfl rfl rfl (by decide +kernel) ⟨Nat.le_of_ble_eq_true rfl, Nat.le_of_ble_eq_true rfl⟩) hK hN hP hD hS hA (em_MM cI q u_35) (fun u => rp_MM cI q u_35 u) rfl rfl rfl rfl hl.1 rfl (Nat.le_of_ble_eq_true rfl) dX6_works_136 ⟨Nat.zero_le _, Nat.zero_le _⟩ (fun u_36 H locs h hP hD hS => ?_)
          exact W.vret hx hb hr (fun t ht hW => ⟨⟨u_36, rfl, h, by rw [ht]; exact hP, hD⟩, hS.F ht⟩) hS.2.2 dX6_works_139
  · have h := h.2 c_1
    refine lv_aload_n hx hb dX6_works_30 rfl (lv_at hl 1 rfl) ?_
    refine va_get (D := G) (ci := 6) (v := .ref (q 1)) (C := RX6) (T := TX6) (N := 11) hx hb hts hinX6 hown hK hP 0 rfl rfl 0 (by decide) hL7 (fun _ h9 => h9) rfl dX6_works_31 ?_
    refine lv_bipush (v := 6) hx hb dX6_works_34 (by decide) ?_
    refine lv_dup2_11 hx hb dX6_works_36 rfl rfl ?_
    refine k_ald (f := (upd (M 0) 17 (((M 0) 17) + 1))) (j := 6) (v := ((upd (M 0) 17 (((M 0) 17) + 1)) 6)) hx hb hK hP 1 0 rfl rfl (show ¬ ((6 : Int32) < 0 ∨ 86 ≤ (6 : Int32).toNatClampNeg) by decide) rfl rfl dX6_works_37 ?_
    refine lv_iload_n hx hb dX6_works_38 rfl (lv_at hl 0 rfl) ?_
    refine lv_aload_n hx hb dX6_works_39 rfl (lv_at hl 1 rfl) ?_
    refine va_get (D := G) (ci := 6) (v := .ref (q 1)) (C := RX6) (T := TX6) (N := 11) hx hb hts hinX6 hown hK hP 0 rfl rfl 0 (by decide) hL7 (fun _ h9 => h9) rfl dX6_works_40 ?_
    refine lv_bipush (v := 6) hx hb dX6_works_43 (by decide) ?_
    refine k_ald (f := (upd (M 0) 17 (((M 0) 17) + 1))) (j := 6) (v := ((upd (M 0) 17 (((M 0) 17) + 1)) 6)) hx hb hK hP 1 0 rfl rfl (show ¬ ((6 : Int32) < 0 ∨ 86 ≤ (6 : Int32).toNatClampNeg) by decide) rfl rfl dX6_works_45 ?_
    refine lv_icmp_le (tgt := 53) hx hb dX6_works_46 (by decide) (fun c_37 => ?_) (fun c_37 => ?_)
    · have h := h.1 c_37
      refine lv_iconst (v := (-1)) hx hb dX6_works_53 (by decide) ?_
      refine lv_iadd hx hb dX6_works_54 ?_
      refine k_ast (f := (upd (M 0) 17 (((M 0) 17) + 1))) (j := 6) (ws' := (wM cI q (uA (uA M 0 (upd (M 0) 17 (((M 0) 17) + 1))) 0 (upd (upd (M 0) 17 (((M 0) 17) + 1)) 6 (((upd (M 0) 17 (((M 0) 17) + 1)) 6) + (-1)))))) hx hb hK hP hD hS 1 0 rfl rfl (show ¬ ((6 : Int32) < 0 ∨ 86 ≤ (6 : Int32).toNatClampNeg) by decide) rfl dX6_works_55 (st_M_0 cI q (uA M 0 (upd (M 0) 17 (((M 0) 17) + 1))) (upd (upd (M 0) 17 (((M 0) 17) + 1)) 6 (((upd (M 0) 17 (((M 0) 17) + 1)) 6) + (-1)))) (fun H locs hP hD hS => ?_)
      refine lv_goto (tgt := 135) hx hb dX6_works_56 (by decide) ?_
      refine lv_aload_n hx hb dX6_works_135 rfl (lv_at hl 1 rfl) ?_
      refine kc_v (As := []) (rest := []) (wg := (fun u => (wM cI q u))) ⟨hx, hb, hml, hown, hts⟩ (c_X6_looks l G cI cC cD q _ (uA (uA M 0 (upd (M 0) 17 (((M 0) 17) + 1))) 0 (upd (upd (M 0) 17 (((M 0) 17) + 1)) 6 (((upd (M 0) 17 (((M 0) 17) + 1)) 6) + (-1))))  _ h) (cwV 0 hts gX6_works_X6_looks rfl rfl rfl (by decide +kernel) ⟨Nat.le_of_ble_eq_true rfl, Nat.le_of_ble_eq_true rfl⟩) hK hN hP hD hS hA (em_MM cI q (uA (uA M 0 (upd (M 0) 17 (((M 0) 17) + 1))) 0 (upd (upd (M 0) 17 (((M 0) 17) + 1)) 6 (((upd (M 0) 17 (((M 0) 17) + 1)) 6) + (-1))))) (fun u => rp_MM cI q (uA (uA M 0 (upd (M 0) 17 (((M 0) 17) + 1))) 0 (upd (upd (M 0) 17 (((M 0) 17) + 1)) 6 (((upd (M 0) 17 (((M 0) 17) + 1)) 6) + (-1)))) u) rfl rfl rfl rfl hl.1 rfl (Nat.le_of_ble_eq_true rfl) dX6_works_136 ⟨Nat.zero_le _, Nat.zero_le _⟩ (fun u_38 H locs h hP hD hS => ?_)
      exact W.vret hx hb hr (fun t ht hW => ⟨⟨u_38, rfl, h, by rw [ht]; exact hP, hD⟩, hS.F ht⟩) hS.2.2 dX6_works_139
    · have h := h.2 c_37
      refine lv_iconst (v := 1) hx hb dX6_works_49 (by decide) ?_
      refine lv_goto (tgt := 54) hx hb dX6_works_50 (by decide) ?_
      refine lv_iadd hx hb dX6_works_54 ?_
      refine k_ast (f := (upd (M 0) 17 (((M 0) 17) + 1))) (j := 6) (ws' := (wM cI q (uA (uA M 0 (upd (M 0) 17 (((M 0) 17) + 1))) 0 (upd (upd (M 0) 17 (((M 0) 17) + 1)) 6 (((upd (M 0) 17 (((M 0) 17) + 1)) 6) + 1))))) hx hb hK hP hD hS 1 0 rfl rfl (show ¬ ((6 : Int32) < 0 ∨ 86 ≤ (6 : Int32).toNatClampNeg) by decide) rfl dX6_works_55 (st_M_0 cI q (uA M 0 (upd (M 0) 17 (((M 0) 17) + 1))) (upd (upd (M 0) 17 (((M 0) 17) + 1)) 6 (((upd (M 0) 17 (((M 0) 17) + 1)) 6) + 1))) (fun H locs hP hD hS => ?_)
      refine lv_goto (tgt := 135) hx hb dX6_works_56 (by decide) ?_
      refine lv_aload_n hx hb dX6_works_135 rfl (lv_at hl 1 rfl) ?_
      refine kc_v (As := []) (rest := []) (wg := (fun u => (wM cI q u))) ⟨hx, hb, hml, hown, hts⟩ (c_X6_looks l G cI cC cD q _ (uA (uA M 0 (upd (M 0) 17 (((M 0) 17) + 1))) 0 (upd (upd (M 0) 17 (((M 0) 17) + 1)) 6 (((upd (M 0) 17 (((M 0) 17) + 1)) 6) + 1)))  _ h) (cwV 0 hts gX6_works_X6_looks rfl rfl rfl (by decide +kernel) ⟨Nat.le_of_ble_eq_true rfl, Nat.le_of_ble_eq_true rfl⟩) hK hN hP hD hS hA (em_MM cI q (uA (uA M 0 (upd (M 0) 17 (((M 0) 17) + 1))) 0 (upd (upd (M 0) 17 (((M 0) 17) + 1)) 6 (((upd (M 0) 17 (((M 0) 17) + 1)) 6) + 1)))) (fun u => rp_MM cI q (uA (uA M 0 (upd (M 0) 17 (((M 0) 17) + 1))) 0 (upd (upd (M 0) 17 (((M 0) 17) + 1)) 6 (((upd (M 0) 17 (((M 0) 17) + 1)) 6) + 1))) u) rfl rfl rfl rfl hl.1 rfl (Nat.le_of_ble_eq_true rfl) dX6_works_136 ⟨Nat.zero_le _, Nat.zero_le _⟩ (fun u_39 H locs h hP hD hS => ?_)
      exact W.vret hx hb hr (fun t ht hW => ⟨⟨u_39, rfl, h, by rw [ht]; exact hP, hD⟩, hS.F ht⟩) hS.2.2 dX6_works_139
def q_X6_flows (M : St) (Q : St → Prop) : Prop :=
  q_X6_head M (fun r_1 => ∃ (I_3 : Nat → Int32 → St → Prop) (n_7 : Nat), I_3 n_7 0 (uA (uA M 0 (upd (M 0) 4 (((M 0) 4) + ((M 0) 5)))) 0 (upd (upd (M 0) 4 (((M 0) 4) + ((M 0) 5))) 13 (((upd (M 0) 4 (((M 0) 4) + ((M 0) 5))) 13) + ((upd (M 0) 4 (((M 0) 4) + ((M 0) 5))) 5)))) ∧ ∀ (n_2 : Nat) (x2_4 : Int32) (D_5 : St), I_3 n_2 x2_4 D_5 → ((((D_5 0) 3) ≤ x2_4 → (((D_5 0) 4) ≤ 9999 → Q (uA (uA D_5 0 (upd (D_5 0) 15 (((D_5 0) 15) + 0))) 0 (upd (upd (D_5 0) 15 (((D_5 0) 15) + 0)) 4 (((upd (D_5 0) 15 (((D_5 0) 15) + 0)) 4) - 0)))) ∧ (¬ (((D_5 0) 4) ≤ 9999) → Q (uA (uA D_5 0 (upd (D_5 0) 15 (((D_5 0) 15) + (((D_5 0) 4) - 9999)))) 0 (upd (upd (D_5 0) 15 (((D_5 0) 15) + (((D_5 0) 4) - 9999))) 4 (((upd (D_5 0) 15 (((D_5 0) 15) + (((D_5 0) 4) - 9999))) 4) - (((D_5 0) 4) - 9999)))))) ∧ (¬ (((D_5 0) 3) ≤ x2_4) → q_X6_rate x2_4 r_1 D_5 (fun r_13 => (r_13 ≤ ((D_5 0) 4) → q_X6_of x2_4 3 (uA (uA D_5 0 (upd (D_5 0) 4 (((D_5 0) 4) - r_13))) 0 (upd (upd (D_5 0) 4 (((D_5 0) 4) - r_13)) 14 (((upd (D_5 0) 4 (((D_5 0) 4) - r_13)) 14) + r_13))) (fun r_15 => q_X6_puts x2_4 3 (r_15 + r_13) (uA (uA D_5 0 (upd (D_5 0) 4 (((D_5 0) 4) - r_13))) 0 (upd (upd (D_5 0) 4 (((D_5 0) 4) - r_13)) 14 (((upd (D_5 0) 4 (((D_5 0) 4) - r_13)) 14) + r_13))) (fun u_16 => ∃ n_17, n_17 < n_2 ∧ I_3 n_17 (x2_4 + 1) u_16))) ∧ (¬ (r_13 ≤ ((D_5 0) 4)) → q_X6_of x2_4 3 (uA (uA D_5 0 (upd (D_5 0) 4 (((D_5 0) 4) - ((D_5 0) 4)))) 0 (upd (upd (D_5 0) 4 (((D_5 0) 4) - ((D_5 0) 4))) 14 (((upd (D_5 0) 4 (((D_5 0) 4) - ((D_5 0) 4))) 14) + ((D_5 0) 4)))) (fun r_20 => q_X6_puts x2_4 3 (r_20 + ((D_5 0) 4)) (uA (uA D_5 0 (upd (D_5 0) 4 (((D_5 0) 4) - ((D_5 0) 4)))) 0 (upd (upd (D_5 0) 4 (((D_5 0) 4) - ((D_5 0) 4))) 14 (((upd (D_5 0) 4 (((D_5 0) 4) - ((D_5 0) 4))) 14) + ((D_5 0) 4)))) (fun u_21 => ∃ n_22, n_22 < n_2 ∧ I_3 n_22 (x2_4 + 1) u_21)))))))
set_option maxHeartbeats 4000000 in
set_option maxRecDepth 100000 in
theorem c_X6_flows (l : Launch) (G : va_G) (cI cC cD : ClassId) (q : Nat → Nat) (sz : Nat) (M : St)  (Q : St → Prop) (h : q_X6_flows  M Q) : Met l yX6_flows wsX6_flows ({ frames := 2, cells := 0, slots := 0, locals := 47 }) (va_Pc [.ref (q 0)] (PW G (ty3 cI cC cD) (wM cI q M) sz)) (va_Qv Q (BW G (fun u : St => (wM cI q u)) (va_A (wM cI q M) sz)) (va_A (wM cI q M) sz)) 0 0 (va_A (wM cI q M) sz) := by
  refine Met.ofW (cc := cX6_flows) (maxL := 4) (ret := none) (by decide) rfl ?_
  intro p e s m args below meth c s₁ B hml hv
  obtain ⟨rfl, hsz, hP, hK, hD0, hN⟩ := hv
  have hx := B.exec
  have hb := B.bytes
  have hr := B.returns
  have hts := atoms_spec (ws := wsX6_flows) B.pre
  have hown : s.vm.findClass RX6 = some m.cls := findClass_of_methodNamed B.named
  have hlocks := B.notSynchronized
  subst hsz
  have hD := hD0.self (sz := s.heap.size)
  generalize hAe : va_A (wM cI q M) s.heap.size = A at hD ⊢
  have hA : ∀ q : Nat, s.heap.size ≤ q → A q := fun q h => by rw [← hAe]; exact Or.inr h
  have hS : va_S A s.heap s.heap [] := va_S.rf
  have hl := lv_entry ([.ref (q 0)]) (n := 4) (Nat.le_of_ble_eq_true rfl)
  rw [lg_entry_eq]
  generalize (lg_sl ([.ref (q 0)]) ++ List.replicate (4 - (lg_sl ([.ref (q 0)])).length) Slot.unset).toArray = ls at hl ⊢
  have hl : lv_has ls 4 [(0, .ref (q 0))] := hl
  have hinX6 : ∀ w ∈ wsX60, w ∈ wsX6_flows := by decide +kernel
  have hL7 := hts (.fieldLink RX6 7 "CraneGatesModel" "s" "[I") (by decide +kernel)
  unfold q_X6_flows at h
  refine lv_aload_n hx hb dX6_flows_0 rfl (lv_at hl 0 rfl) ?_
  refine kc_i (As := []) (rest := []) (wg := (fun _ => (wM cI q M))) ⟨hx, hb, hml, hown, hts⟩ (c_X6_head l G cI cC cD q _ M  _ h) (cwV 0 hts gX6_flows_X6_head rfl rfl rfl (by decide +kernel) ⟨Nat.le_of_ble_eq_true rfl, Nat.le_of_ble_eq_true rfl⟩) hK hN hP hD hS hA (em_MM cI q M) (fun _ => rp_self (em_MM cI q M)) rfl rfl rfl rfl hl.1 rfl (Nat.le_of_ble_eq_true rfl) dX6_flows_1 ⟨Nat.zero_le _, Nat.zero_le _⟩ (fun r_1 _ H locs h hP hD hS => ?_)
  refine lv_istore_n (lv' := [(1, .int r_1), (0, .ref (q 0))]) hx hb dX6_flows_4 rfl hl (by decide) rfl (fun ls hl => ?_)
  refine lv_aload_n hx hb dX6_flows_5 rfl (lv_at hl 1 rfl) ?_
  refine va_get (D := G) (ci := 6) (v := .ref (q 1)) (C := RX6) (T := TX6) (N := 11) hx hb hts hinX6 hown hK hP 0 rfl rfl 0 (by decide) hL7 (fun _ h9 => h9) rfl dX6_flows_6 ?_
  refine lv_iconst (v := 4) hx hb dX6_flows_9 (by decide) ?_
  refine lv_dup2_11 hx hb dX6_flows_10 rfl rfl ?_
  refine k_ald (f := (M 0)) (j := 4) (v := ((M 0) 4)) hx hb hK hP 1 0 rfl rfl (show ¬ ((4 : Int32) < 0 ∨ 86 ≤ (4 : Int32).toNatClampNeg) by decide) rfl rfl dX6_flows_11 ?_
  refine lv_aload_n hx hb dX6_flows_12 rfl (lv_at hl 1 rfl) ?_
  refine va_get (D := G) (ci := 6) (v := .ref (q 1)) (C := RX6) (T := TX6) (N := 11) hx hb hts hinX6 hown hK hP 0 rfl rfl 0 (by decide) hL7 (fun _ h9 => h9) rfl dX6_flows_13 ?_
  refine lv_iconst (v := 5) hx hb dX6_flows_16 (by decide) ?_
  refine k_ald (f := (M 0)) (j := 5) (v := ((M 0) 5)) hx hb hK hP 1 0 rfl rfl (show ¬ ((5 : Int32) < 0 ∨ 86 ≤ (5 : Int32).toNatClampNeg) by decide) rfl rfl dX6_flows_17 ?_
  refine lv_iadd hx hb dX6_flows_18 ?_
  refine k_ast (f := (M 0)) (j := 4) (ws' := (wM cI q (uA M 0 (upd (M 0) 4 (((M 0) 4) + ((M 0) 5)))))) hx hb hK hP hD hS 1 0 rfl rfl (show ¬ ((4 : Int32) < 0 ∨ 86 ≤ (4 : Int32).toNatClampNeg) by decide) rfl dX6_flows_19 (st_M_0 cI q M (upd (M 0) 4 (((M 0) 4) + ((M 0) 5)))) (fun H locs hP hD hS => ?_)
  refine lv_aload_n hx hb dX6_flows_20 rfl (lv_at hl 1 rfl) ?_
  refine va_get (D := G) (ci := 6) (v := .ref (q 1)) (C := RX6) (T := TX6) (N := 11) hx hb hts hinX6 hown hK hP 0 rfl rfl 0 (by decide) hL7 (fun _ h9 => h9) rfl dX6_flows_21 ?_
  refine lv_bipush (v := 13) hx hb dX6_flows_24 (by decide) ?_
  refine lv_dup2_11 hx hb dX6_flows_26 rfl rfl ?_
  refine k_ald (f := (upd (M 0) 4 (((M 0) 4) + ((M 0) 5)))) (j := 13) (v := ((upd (M 0) 4 (((M 0) 4) + ((M 0) 5))) 13)) hx hb hK hP 1 0 rfl rfl (show ¬ ((13 : Int32) < 0 ∨ 86 ≤ (13 : Int32).toNatClampNeg) by decide) rfl rfl dX6_flows_27 ?_
  refine lv_aload_n hx hb dX6_flows_28 rfl (lv_at hl 1 rfl) ?_
  refine va_get (D := G) (ci := 6) (v := .ref (q 1)) (C := RX6) (T := TX6) (N := 11) hx hb hts hinX6 hown hK hP 0 rfl rfl 0 (by decide) hL7 (fun _ h9 => h9) rfl dX6_flows_29 ?_
  refine lv_iconst (v := 5) hx hb dX6_flows_32 (by decide) ?_
  refine k_ald (f := (upd (M 0) 4 (((M 0) 4) + ((M 0) 5)))) (j := 5) (v := ((upd (M 0) 4 (((M 0) 4) + ((M 0) 5))) 5)) hx hb hK hP 1 0 rfl rfl (show ¬ ((5 : Int32) < 0 ∨ 86 ≤ (5 : Int32).toNatClampNeg) by decide) rfl rfl dX6_flows_33 ?_
  refine lv_iadd hx hb dX6_flows_34 ?_
  refine k_ast (f := (upd (M 0) 4 (((M 0) 4) + ((M 0) 5)))) (j := 13) (ws' := (wM cI q (uA (uA M 0 (upd (M 0) 4 (((M 0) 4) + ((M 0) 5)))) 0 (upd (upd (M 0) 4 (((M 0) 4) + ((M 0) 5))) 13 (((upd (M 0) 4 (((M 0) 4) + ((M 0) 5))) 13) + ((upd (M 0) 4 (((M 0) 4) + ((M 0) 5))) 5)))))) hx hb hK hP hD hS 1 0 rfl rfl (show ¬ ((13 : Int32) < 0 ∨ 86 ≤ (13 : Int32).toNatClampNeg) by decide) rfl dX6_flows_35 (st_M_0 cI q (uA M 0 (upd (M 0) 4 (((M 0) 4) + ((M 0) 5)))) (upd (upd (M 0) 4 (((M 0) 4) + ((M 0) 5))) 13 (((upd (M 0) 4 (((M 0) 4) + ((M 0) 5))) 13) + ((upd (M 0) 4 (((M 0) 4) + ((M 0) 5))) 5)))) (fun H locs hP hD hS => ?_)
  refine lv_iconst (v := 0) hx hb dX6_flows_36 (by decide) ?_
  refine lv_istore_n (lv' := [(2, .int 0), (1, .int r_1), (0, .ref (q 0))]) hx hb dX6_flows_37 rfl hl (by decide) rfl (fun ls hl => ?_)
  obtain ⟨I_3, n_7, h_8, hI_9⟩ := h
  have lp_10 : ∀ (n_2 : Nat) (x2_4 : Int32) (D_5 : St), I_3 n_2 x2_4 D_5 → ∀ (H : Heap) (locs : List Loc) (ls : Array Slot), va_P G vwCl (wM cI q D_5) H → va_D A (wM cI q D_5) → va_S A s.heap H locs → lv_has ls 4 [(2, .int x2_4), (1, .int r_1), (0, .ref (q 0))] → W p l e (headSpec wsX6_flows ({ frames := 2, cells := 0, slots := 0, locals := 47 })).room s m ([.ref (q 0)] : List Value).toArray below meth c H locs 0 0 (MQ below (va_Qv Q (BW G (fun u : St => (wM cI q u)) A) A) ([.ref (q 0)] : List Value).toArray s 0 0 A) (F0 m 38 ls []) := by
    intro n_2
    induction n_2 using Nat.strongRecOn with
    | ind n_2 ih_6 =>
      intro x2_4 D_5 hIn H locs ls hP hD hS hl
      have h := hI_9 n_2 x2_4 D_5 hIn
      refine lv_iload_n hx hb dX6_flows_38 rfl (lv_at hl 0 rfl) ?_
      refine lv_aload_n hx hb dX6_flows_39 rfl (lv_at hl 2 rfl) ?_
      refine va_get (D := G) (ci := 6) (v := .ref (q 1)) (C := RX6) (T := TX6) (N := 11) hx hb hts hinX6 hown hK hP 0 rfl rfl 0 (by decide) hL7 (fun _ h9 => h9) rfl dX6_flows_40 ?_
      refine lv_iconst (v := 3) hx hb dX6_flows_43 (by decide) ?_
      refine k_ald (f := (D_5 0)) (j := 3) (v := ((D_5 0) 3)) hx hb hK hP 1 0 rfl rfl (show ¬ ((3 : Int32) < 0 ∨ 86 ≤ (3 : Int32).toNatClampNeg) by decide) rfl rfl dX6_flows_44 ?_
      refine lv_icmp_ge (tgt := 117) hx hb dX6_flows_45 (by decide) (fun c_11 => ?_) (fun c_11 => ?_)
      · have h := h.1 c_11
        refine lv_aload_n hx hb dX6_flows_117 rfl (lv_at hl 2 rfl) ?_
        refine va_get (D := G) (ci := 6) (v := .ref (q 1)) (C := RX6) (T := TX6) (N := 11) hx hb hts hinX6 hown hK hP 0 rfl rfl 0 (by decide) hL7 (fun _ h9 => h9) rfl dX6_flows_118 ?_
        refine lv_iconst (v := 4) hx hb dX6_flows_121 (by decide) ?_
        refine k_ald (f := (D_5 0)) (j := 4) (v := ((D_5 0) 4)) hx hb hK hP 1 0 rfl rfl (show ¬ ((4 : Int32) < 0 ∨ 86 ≤ (4 : Int32).toNatClampNeg) by decide) rfl rfl dX6_flows_122 ?_
        refine lv_sipush (v := 9999) hx hb dX6_flows_123 (by decide) ?_
        refine lv_icmp_le (tgt := 142) hx hb dX6_flows_126 (by decide) (fun c_12 => ?_) (fun c_12 => ?_)
        · have h := h.1 c_12
          refine lv_iconst (v := 0) hx hb dX6_flows_142 (by decide) ?_
          refine lv_istore_n (lv' := [(2, .int 0), (1, .int r_1), (0, .ref (q 0))]) hx hb dX6_flows_143 rfl hl (by decide) rfl (fun ls hl => ?_)
          refine lv_aload_n hx hb dX6_flows_144 rfl (lv_at hl 2 rfl) ?_
          refine va_get (D := G) (ci := 6) (v := .ref (q 1)) (C := RX6) (T := TX6) (N := 11) hx hb hts hinX6 hown hK hP 0 rfl rfl 0 (by decide) hL7 (fun _ h9 => h9) rfl dX6_flows_145 ?_
          refine lv_bipush (v := 15) hx hb dX6_flows_148 (by decide) ?_
          refine lv_dup2_11 hx hb dX6_flows_150 rfl rfl ?_
          refine k_ald (f := (D_5 0)) (j := 15) (v := ((D_5 0) 15)) hx hb hK hP 1 0 rfl rfl (show ¬ ((15 : Int32) < 0 ∨ 86 ≤ (15 : Int32).toNatClampNeg) by decide) rfl rfl dX6_flows_151 ?_
          refine lv_iload_n hx hb dX6_flows_152 rfl (lv_at hl 0 rfl) ?_
          refine lv_iadd hx hb dX6_flows_153 ?_
          refine k_ast (f := (D_5 0)) (j := 15) (ws' := (wM cI q (uA D_5 0 (upd (D_5 0) 15 (((D_5 0) 15) + 0))))) hx hb hK hP hD hS 1 0 rfl rfl (show ¬ ((15 : Int32) < 0 ∨ 86 ≤ (15 : Int32).toNatClampNeg) by decide) rfl dX6_flows_154 (st_M_0 cI q D_5 (upd (D_5 0) 15 (((D_5 0) 15) + 0))) (fun H locs hP hD hS => ?_)
          refine lv_aload_n hx hb dX6_flows_155 rfl (lv_at hl 2 rfl) ?_
          refine va_get (D := G) (ci := 6) (v := .ref (q 1)) (C := RX6) (T := TX6) (N := 11) hx hb hts hinX6 hown hK hP 0 rfl rfl 0 (by decide) hL7 (fun _ h9 => h9) rfl dX6_flows_156 ?_
          refine lv_iconst (v := 4) hx hb dX6_flows_159 (by decide) ?_
          refine lv_dup2_11 hx hb dX6_flows_160 rfl rfl ?_
          refine k_ald (f := (upd (D_5 0) 15 (((D_5 0) 15) + 0))) (j := 4) (v := ((upd (D_5 0) 15 (((D_5 0) 15) + 0)) 4)) hx hb hK hP 1 0 rfl rfl (show ¬ ((4 : Int32) < 0 ∨ 86 ≤ (4 : Int32).toNatClampNeg) by decide) rfl rfl dX6_flows_161 ?_
          refine lv_iload_n hx hb dX6_flows_162 rfl (lv_at hl 0 rfl) ?_
          refine lv_isub hx hb dX6_flows_163 ?_
          refine k_ast (f := (upd (D_5 0) 15 (((D_5 0) 15) + 0))) (j := 4) (ws' := (wM cI q (uA (uA D_5 0 (upd (D_5 0) 15 (((D_5 0) 15) + 0))) 0 (upd (upd (D_5 0) 15 (((D_5 0) 15) + 0)) 4 (((upd (D_5 0) 15 (((D_5 0) 15) + 0)) 4) - 0))))) hx hb hK hP hD hS 1 0 rfl rfl (show ¬ ((4 : Int32) < 0 ∨ 86 ≤ (4 : Int32).toNatClampNeg) by decide) rfl dX6_flows_164 (st_M_0 cI q (uA D_5 0 (upd (D_5 0) 15 (((D_5 0) 15) + 0))) (upd (upd (D_5 0) 15 (((D_5 0) 15) + 0)) 4 (((upd (D_5 0) 15 (((D_5 0) 15) + 0)) 4) - 0))) (fun H locs hP hD hS => ?_)
          exact W.vret hx hb hr (fun t ht hW => ⟨⟨(uA (uA D_5 0 (upd (D_5 0) 15 (((D_5 0) 15) + 0))) 0 (upd (upd (D_5 0) 15 (((D_5 0) 15) + 0)) 4 (((upd (D_5 0) 15 (((D_5 0) 15) + 0)) 4) - 0))), rfl, h, by rw [ht]; exact hP, hD⟩, hS.F ht⟩) hS.2.2 dX6_flows_165
        · have h := h.2 c_12
          refine lv_aload_n hx hb dX6_flows_129 rfl (lv_at hl 2 rfl) ?_
          refine va_get (D := G) (ci := 6) (v := .ref (q 1)) (C := RX6) (T := TX6) (N := 11) hx hb hts hinX6 hown hK hP 0 rfl rfl 0 (by decide) hL7 (fun _ h9 => h9) rfl dX6_flows_130 ?_
          refine lv_iconst (v := 4) hx hb dX6_flows_133 (by decide) ?_
          refine k_ald (f := (D_5 0)) (j := 4) (v := ((D_5 0) 4)) hx hb hK hP 1 0 rfl rfl (show ¬ ((4 : Int32) < 0 ∨ 86 ≤ (4 : Int32).toNatClampNeg) by decide) rfl rfl dX6_flows_134 ?_
          refine lv_sipush (v := 9999) hx hb dX6_flows_135 (by decide) ?_
          refine lv_isub hx hb dX6_flows_138 ?_
          refine lv_goto (tgt := 143) hx hb dX6_flows_139 (by decide) ?_
          refine lv_istore_n (lv' := [(2, .int (((D_5 0) 4) - 9999)), (1, .int r_1), (0, .ref (q 0))]) hx hb dX6_flows_143 rfl hl (by decide) rfl (fun ls hl => ?_)
          refine lv_aload_n hx hb dX6_flows_144 rfl (lv_at hl 2 rfl) ?_
          refine va_get (D := G) (ci := 6) (v := .ref (q 1)) (C := RX6) (T := TX6) (N := 11) hx hb hts hinX6 hown hK hP 0 rfl rfl 0 (by decide) hL7 (fun _ h9 => h9) rfl dX6_flows_145 ?_
          refine lv_bipush (v := 15) hx hb dX6_flows_148 (by decide) ?_
          refine lv_dup2_11 hx hb dX6_flows_150 rfl rfl ?_
          refine k_ald (f := (D_5 0)) (j := 15) (v := ((D_5 0) 15)) hx hb hK hP 1 0 rfl rfl (show ¬ ((15 : Int32) < 0 ∨ 86 ≤ (15 : Int32).toNatClampNeg) by decide) rfl rfl dX6_flows_151 ?_
          refine lv_iload_n hx hb dX6_flows_152 rfl (lv_at hl 0 rfl) ?_
          refine lv_iadd hx hb dX6_flows_153 ?_
          refine k_ast (f := (D_5 0)) (j := 15) (ws' := (wM cI q (uA D_5 0 (upd (D_5 0) 15 (((D_5 0) 15) + (((D_5 0) 4) - 9999)))))) hx hb hK hP hD hS 1 0 rfl rfl (show ¬ ((15 : Int32) < 0 ∨ 86 ≤ (15 : Int32).toNatClampNeg) by decide) rfl dX6_flows_154 (st_M_0 cI q D_5 (upd (D_5 0) 15 (((D_5 0) 15) + (((D_5 0) 4) - 9999)))) (fun H locs hP hD hS => ?_)
          refine lv_aload_n hx hb dX6_flows_155 rfl (lv_at hl 2 rfl) ?_
          refine va_get (D := G) (ci := 6) (v := .ref (q 1)) (C := RX6) (T := TX6) (N := 11) hx hb hts hinX6 hown hK hP 0 rfl rfl 0 (by decide) hL7 (fun _ h9 => h9) rfl dX6_flows_156 ?_
          refine lv_iconst (v := 4) hx hb dX6_flows_159 (by decide) ?_
          refine lv_dup2_11 hx hb dX6_flows_160 rfl rfl ?_
          refine k_ald (f := (upd (D_5 0) 15 (((D_5 0) 15) + (((D_5 0) 4) - 9999)))) (j := 4) (v := ((upd (D_5 0) 15 (((D_5 0) 15) + (((D_5 0) 4) - 9999))) 4)) hx hb hK hP 1 0 rfl rfl (show ¬ ((4 : Int32) < 0 ∨ 86 ≤ (4 : Int32).toNatClampNeg) by decide) rfl rfl dX6_flows_161 ?_
          refine lv_iload_n hx hb dX6_flows_162 rfl (lv_at hl 0 rfl) ?_
          refine lv_isub hx hb dX6_flows_163 ?_
          refine k_ast (f := (upd (D_5 0) 15 (((D_5 0) 15) + (((D_5 0) 4) - 9999)))) (j := 4) (ws' := (wM cI q (uA (uA D_5 0 (upd (D_5 0) 15 (((D_5 0) 15) + (((D_5 0) 4) - 9999)))) 0 (upd (upd (D_5 0) 15 (((D_5 0) 15) + (((D_5 0) 4) - 9999))) 4 (((upd (D_5 0) 15 (((D_5 0) 15) + (((D_5 0) 4) - 9999))) 4) - (((D_5 0) 4) - 9999)))))) hx hb hK hP hD hS 1 0 rfl rfl (show ¬ ((4 : Int32) < 0 ∨ 86 ≤ (4 : Int32).toNatClampNeg) by decide) rfl dX6_flows_164 (st_M_0 cI q (uA D_5 0 (upd (D_5 0) 15 (((D_5 0) 15) + (((D_5 0) 4) - 9999)))) (upd (upd (D_5 0) 15 (((D_5 0) 15) + (((D_5 0) 4) - 9999))) 4 (((upd (D_5 0) 15 (((D_5 0) 15) + (((D_5 0) 4) - 9999))) 4) - (((D_5 0) 4) - 9999)))) (fun H locs hP hD hS => ?_)
          exact W.vret hx hb hr (fun t ht hW => ⟨⟨(uA (uA D_5 0 (upd (D_5 0) 15 (((D_5 0) 15) + (((D_5 0) 4) - 9999)))) 0 (upd (upd (D_5 0) 15 (((D_5 0) 15) + (((D_5 0) 4) - 9999))) 4 (((upd (D_5 0) 15 (((D_5 0) 15) + (((D_5 0) 4) - 9999))) 4) - (((D_5 0) 4) - 9999)))), rfl, h, by rw [ht]; exact hP, hD⟩, hS.F ht⟩) hS.2.2 dX6_flows_165
      · have h := h.2 c_11
        refine lv_aload_n hx hb dX6_flows_48 rfl (lv_at hl 2 rfl) ?_
        refine lv_iload_n hx hb dX6_flows_49 rfl (lv_at hl 0 rfl) ?_
        refine lv_iload_n hx hb dX6_flows_50 rfl (lv_at hl 1 rfl) ?_
        refine kc_i (As := [.int x2_4, .int r_1]) (rest := []) (wg := (fun _ => (wM cI q D_5))) ⟨hx, hb, hml, hown, hts⟩ (c_X6_rate l G cI cC cD q _ D_5 x2_4 r_1 _ h) (cwV 2 hts gX6_flows_X6_rate rfl rfl rfl (by decide +kernel) ⟨Nat.le_of_ble_eq_true rfl, Nat.le_of_ble_eq_true rfl⟩) hK hN hP hD hS hA (em_MM cI q D_5) (fun _ => rp_self (em_MM cI q D_5)) rfl rfl rfl rfl hl.1 rfl (Nat.le_of_ble_eq_true rfl) dX6_flows_51 ⟨Nat.zero_le _, Nat.zero_le _⟩ (fun r_13 _ H locs h hP hD hS => ?_)
        refine lv_istore_n (lv' := [(3, .int r_13), (2, .int x2_4), (1, .int r_1), (0, .ref (q 0))]) hx hb dX6_flows_54 rfl hl (by decide) rfl (fun ls hl => ?_)
        refine lv_iload_n hx hb dX6_flows_55 rfl (lv_at hl 0 rfl) ?_
        refine lv_aload_n hx hb dX6_flows_56 rfl (lv_at hl 3 rfl) ?_
        refine va_get (D := G) (ci := 6) (v := .ref (q 1)) (C := RX6) (T := TX6) (N := 11) hx hb hts hinX6 hown hK hP 0 rfl rfl 0 (by decide) hL7 (fun _ h9 => h9) rfl dX6_flows_57 ?_
        refine lv_iconst (v := 4) hx hb dX6_flows_60 (by decide) ?_
        refine k_ald (f := (D_5 0)) (j := 4) (v := ((D_5 0) 4)) hx hb hK hP 1 0 rfl rfl (show ¬ ((4 : Int32) < 0 ∨ 86 ≤ (4 : Int32).toNatClampNeg) by decide) rfl rfl dX6_flows_61 ?_
        refine lv_icmp_le (tgt := 74) hx hb dX6_flows_62 (by decide) (fun c_14 => ?_) (fun c_14 => ?_)
        · have h := h.1 c_14
          refine lv_iload_n hx hb dX6_flows_74 rfl (lv_at hl 0 rfl) ?_
          refine lv_istore_n (lv' := [(3, .int r_13), (2, .int x2_4), (1, .int r_1), (0, .ref (q 0))]) hx hb dX6_flows_75 rfl hl (by decide) rfl (fun ls hl => ?_)
          refine lv_aload_n hx hb dX6_flows_76 rfl (lv_at hl 3 rfl) ?_
          refine va_get (D := G) (ci := 6) (v := .ref (q 1)) (C := RX6) (T := TX6) (N := 11) hx hb hts hinX6 hown hK hP 0 rfl rfl 0 (by decide) hL7 (fun _ h9 => h9) rfl dX6_flows_77 ?_
          refine lv_iconst (v := 4) hx hb dX6_flows_80 (by decide) ?_
          refine lv_dup2_11 hx hb dX6_flows_81 rfl rfl ?_
          refine k_ald (f := (D_5 0)) (j := 4) (v := ((D_5 0) 4)) hx hb hK hP 1 0 rfl rfl (show ¬ ((4 : Int32) < 0 ∨ 86 ≤ (4 : Int32).toNatClampNeg) by decide) rfl rfl dX6_flows_82 ?_
          refine lv_iload_n hx hb dX6_flows_83 rfl (lv_at hl 0 rfl) ?_
          refine lv_isub hx hb dX6_flows_84 ?_
          refine k_ast (f := (D_5 0)) (j := 4) (ws' := (wM cI q (uA D_5 0 (upd (D_5 0) 4 (((D_5 0) 4) - r_13))))) hx hb hK hP hD hS 1 0 rfl rfl (show ¬ ((4 : Int32) < 0 ∨ 86 ≤ (4 : Int32).toNatClampNeg) by decide) rfl dX6_flows_85 (st_M_0 cI q D_5 (upd (D_5 0) 4 (((D_5 0) 4) - r_13))) (fun H locs hP hD hS => ?_)
          refine lv_aload_n hx hb dX6_flows_86 rfl (lv_at hl 3 rfl) ?_
          refine va_get (D := G) (ci := 6) (v := .ref (q 1)) (C := RX6) (T := TX6) (N := 11) hx hb hts hinX6 hown hK hP 0 rfl rfl 0 (by decide) hL7 (fun _ h9 => h9) rfl dX6_flows_87 ?_
          refine lv_bipush (v := 14) hx hb dX6_flows_90 (by decide) ?_
          refine lv_dup2_11 hx hb dX6_flows_92 rfl rfl ?_
          refine k_ald (f := (upd (D_5 0) 4 (((D_5 0) 4) - r_13))) (j := 14) (v := ((upd (D_5 0) 4 (((D_5 0) 4) - r_13)) 14)) hx hb hK hP 1 0 rfl rfl (show ¬ ((14 : Int32) < 0 ∨ 86 ≤ (14 : Int32).toNatClampNeg) by decide) rfl rfl dX6_flows_93 ?_
          refine lv_iload_n hx hb dX6_flows_94 rfl (lv_at hl 0 rfl) ?_
          refine lv_iadd hx hb dX6_flows_95 ?_
          refine k_ast (f := (upd (D_5 0) 4 (((D_5 0) 4) - r_13))) (j := 14) (ws' := (wM cI q (uA (uA D_5 0 (upd (D_5 0) 4 (((D_5 0) 4) - r_13))) 0 (upd (upd (D_5 0) 4 (((D_5 0) 4) - r_13)) 14 (((upd (D_5 0) 4 (((D_5 0) 4) - r_13)) 14) + r_13))))) hx hb hK hP hD hS 1 0 rfl rfl (show ¬ ((14 : Int32) < 0 ∨ 86 ≤ (14 : Int32).toNatClampNeg) by decide) rfl dX6_flows_96 (st_M_0 cI q (uA D_5 0 (upd (D_5 0) 4 (((D_5 0) 4) - r_13))) (upd (upd (D_5 0) 4 (((D_5 0) 4) - r_13)) 14 (((upd (D_5 0) 4 (((D_5 0) 4) - r_13)) 14) + r_13))) (fun H locs hP hD hS => ?_)
          refine lv_aload_n hx hb dX6_flows_97 rfl (lv_at hl 3 rfl) ?_
          refine lv_iload_n hx hb dX6_flows_98 rfl (lv_at hl 1 rfl) ?_
          refine lv_iconst (v := 3) hx hb dX6_flows_99 (by decide) ?_
          refine lv_aload_n hx hb dX6_flows_100 rfl (lv_at hl 3 rfl) ?_
          refine lv_iload_n hx hb dX6_flows_101 rfl (lv_at hl 1 rfl) ?_
          refine lv_iconst (v := 3) hx hb dX6_flows_102 (by decide) ?_
          refine kc_i (As := [.int x2_4, .int 3]) (rest := [.int 3, .int x2_4, .ref (q 0)]) (wg := (fun _ => (wM cI q (uA (uA D_5 0 (upd (D_5 0) 4 (((D_5 0) 4) - r_13))) 0 (upd (upd (D_5 0) 4 (((D_5 0) 4) - r_13)) 14 (((upd (D_5 0) 4 (((D_5 0) 4) - r_13)) 14) + r_13)))))) ⟨hx, hb, hml, hown, hts⟩ (c_X6_of l G cI cC cD q _ (uA (uA D_5 0 (upd (D_5 0) 4 (((D_5 0) 4) - r_13))) 0 (upd (upd (D_5 0) 4 (((D_5 0) 4) - r_13)) 14 (((upd (D_5 0) 4 (((D_5 0) 4) - r_13)) 14) + r_13))) x2_4 3 _ h) (cwV 2 hts gX6_flows_X6_of rfl rfl rfl (by decide +kernel) ⟨Nat.le_of_ble_eq_true rfl, Nat.le_of_ble_eq_true rfl⟩) hK hN hP hD hS hA (em_MM cI q (uA (uA D_5 0 (upd (D_5 0) 4 (((D_5 0) 4) - r_13))) 0 (upd (upd (D_5 0) 4 (((D_5 0) 4) - r_13)) 14 (((upd (D_5 0) 4 (((D_5 0) 4) - r_13)) 14) + r_13)))) (fun _ => rp_self (em_MM cI q (uA (uA D_5 0 (upd (D_5 0) 4 (((D_5 0) 4) - r_13))) 0 (upd (upd (D_5 0) 4 (((D_5 0) 4) - r_13)) 14 (((upd (D_5 0) 4 (((D_5 0) 4) - r_13)) 14) + r_13))))) rfl rfl rfl rfl hl.1 rfl (Nat.le_of_ble_eq_true rfl) dX6_flows_103 ⟨Nat.zero_le _, Nat.zero_le _⟩ (fun r_15 _ H locs h hP hD hS => ?_)
          refine lv_iload_n hx hb dX6_flows_106 rfl (lv_at hl 0 rfl) ?_
          refine lv_iadd hx hb dX6_flows_107 ?_
          refine kc_v (As := [.int x2_4, .int 3, .int (r_15 + r_13)]) (rest := []) (wg := (fun u => (wM cI q u))) ⟨hx, hb, hml, hown, hts⟩ (c_X6_puts l G cI cC cD q _ (uA (uA D_5 0 (upd (D_5 0) 4 (((D_5 0) 4) - r_13))) 0 (upd (upd (D_5 0) 4 (((D_5 0) 4) - r_13)) 14 (((upd (D_5 0) 4 (((D_5 0) 4) - r_13)) 14) + r_13))) x2_4 3 (r_15 + r_13) _ h) (cwV 3 hts gX6_flows_X6_puts rfl rfl rfl (by decide +kernel) ⟨Nat.le_of_ble_eq_true rfl, Nat.le_of_ble_eq_true rfl⟩) hK hN hP hD hS hA (em_MM cI q (uA (uA D_5 0 (upd (D_5 0) 4 (((D_5 0) 4) - r_13))) 0 (upd (upd (D_5 0) 4 (((D_5 0) 4) - r_13)) 14 (((upd (D_5 0) 4 (((D_5 0) 4) - r_13)) 14) + r_13)))) (fun u => rp_MM cI q (uA (uA D_5 0 (upd (D_5 0) 4 (((D_5 0) 4) - r_13))) 0 (upd (upd (D_5 0) 4 (((D_5 0) 4) - r_13)) 14 (((upd (D_5 0) 4 (((D_5 0) 4) - r_13)) 14) + r_13))) u) rfl rfl rfl rfl hl.1 rfl (Nat.le_of_ble_eq_true rfl) dX6_flows_108 ⟨Nat.zero_le _, Nat.zero_le _⟩ (fun u_16 H locs h hP hD hS => ?_)
          refine lv_iinc (v := x2_4 + 1) (lv' := [(2, .int (x2_4 + 1)), (3, .int r_13), (1, .int r_1), (0, .ref (q 0))]) hx hb dX6_flows_111 hl (k := 1) rfl rfl (by decide) rfl (fun ls hl => ?_)
          refine lv_goto (tgt := 38) hx hb dX6_flows_114 (by decide) ?_
          obtain ⟨n_17, lt_18, h_19⟩ := h
          exact ih_6 n_17 lt_18 _ _ h_19 _ _ _ hP hD hS (lv_sub hl [0, 2, 3] rfl)
        · have h := h.2 c_14
          refine lv_aload_n hx hb dX6_flows_65 rfl (lv_at hl 3 rfl) ?_
          refine va_get (D := G) (ci := 6) (v := .ref (q 1)) (C := RX6) (T := TX6) (N := 11) hx hb hts hinX6 hown hK hP 0 rfl rfl 0 (by decide) hL7 (fun _ h9 => h9) rfl dX6_flows_66 ?_
          refine lv_iconst (v := 4) hx hb dX6_flows_69 (by decide) ?_
          refine k_ald (f := (D_5 0)) (j := 4) (v := ((D_5 0) 4)) hx hb hK hP 1 0 rfl rfl (show ¬ ((4 : Int32) < 0 ∨ 86 ≤ (4 : Int32).toNatClampNeg) by decide) rfl rfl dX6_flows_70 ?_
          refine lv_goto (tgt := 75) hx hb dX6_flows_71 (by decide) ?_
          refine lv_istore_n (lv' := [(3, .int ((D_5 0) 4)), (2, .int x2_4), (1, .int r_1), (0, .ref (q 0))]) hx hb dX6_flows_75 rfl hl (by decide) rfl (fun ls hl => ?_)
          refine lv_aload_n hx hb dX6_flows_76 rfl (lv_at hl 3 rfl) ?_
          refine va_get (D := G) (ci := 6) (v := .ref (q 1)) (C := RX6) (T := TX6) (N := 11) hx hb hts hinX6 hown hK hP 0 rfl rfl 0 (by decide) hL7 (fun _ h9 => h9) rfl dX6_flows_77 ?_
          refine lv_iconst (v := 4) hx hb dX6_flows_80 (by decide) ?_
          refine lv_dup2_11 hx hb dX6_flows_81 rfl rfl ?_
          refine k_ald (f := (D_5 0)) (j := 4) (v := ((D_5 0) 4)) hx hb hK hP 1 0 rfl rfl (show ¬ ((4 : Int32) < 0 ∨ 86 ≤ (4 : Int32).toNatClampNeg) by decide) rfl rfl dX6_flows_82 ?_
          refine lv_iload_n hx hb dX6_flows_83 rfl (lv_at hl 0 rfl) ?_
          refine lv_isub hx hb dX6_flows_84 ?_
          refine k_ast (f := (D_5 0)) (j := 4) (ws' := (wM cI q (uA D_5 0 (upd (D_5 0) 4 (((D_5 0) 4) - ((D_5 0) 4)))))) hx hb hK hP hD hS 1 0 rfl rfl (show ¬ ((4 : Int32) < 0 ∨ 86 ≤ (4 : Int32).toNatClampNeg) by decide) rfl dX6_flows_85 (st_M_0 cI q D_5 (upd (D_5 0) 4 (((D_5 0) 4) - ((D_5 0) 4)))) (fun H locs hP hD hS => ?_)
          refine lv_aload_n hx hb dX6_flows_86 rfl (lv_at hl 3 rfl) ?_
          refine va_get (D := G) (ci := 6) (v := .ref (q 1)) (C := RX6) (T := TX6) (N := 11) hx hb hts hinX6 hown hK hP 0 rfl rfl 0 (by decide) hL7 (fun _ h9 => h9) rfl dX6_flows_87 ?_
          refine lv_bipush (v := 14) hx hb dX6_flows_90 (by decide) ?_
          refine lv_dup2_11 hx hb dX6_flows_92 rfl rfl ?_
          refine k_ald (f := (upd (D_5 0) 4 (((D_5 0) 4) - ((D_5 0) 4)))) (j := 14) (v := ((upd (D_5 0) 4 (((D_5 0) 4) - ((D_5 0) 4))) 14)) hx hb hK hP 1 0 rfl rfl (show ¬ ((14 : Int32) < 0 ∨ 86 ≤ (14 : Int32).toNatClampNeg) by decide) rfl rfl dX6_flows_93 ?_
          refine lv_iload_n hx hb dX6_flows_94 rfl (lv_at hl 0 rfl) ?_
          refine lv_iadd hx hb dX6_flows_95 ?_
          refine k_ast (f := (upd (D_5 0) 4 (((D_5 0) 4) - ((D_5 0) 4)))) (j := 14) (ws' := (wM cI q (uA (uA D_5 0 (upd (D_5 0) 4 (((D_5 0) 4) - ((D_5 0) 4)))) 0 (upd (upd (D_5 0) 4 (((D_5 0) 4) - ((D_5 0) 4))) 14 (((upd (D_5 0) 4 (((D_5 0) 4) - ((D_5 0) 4))) 14) + ((D_5 0) 4)))))) hx hb hK hP hD hS 1 0 rfl rfl (show ¬ ((14 : Int32) < 0 ∨ 86 ≤ (14 : Int32).toNatClampNeg) by decide) rfl dX6_flows_96 (st_M_0 cI q (uA D_5 0 (upd (D_5 0) 4 (((D_5 0) 4) - ((D_5 0) 4)))) (upd (upd (D_5 0) 4 (((D_5 0) 4) - ((D_5 0) 4))) 14 (((upd (D_5 0) 4 (((D_5 0) 4) - ((D_5 0) 4))) 14) + ((D_5 0) 4)))) (fun H locs hP hD hS => ?_)
          refine lv_aload_n hx hb dX6_flows_97 rfl (lv_at hl 3 rfl) ?_
          refine lv_iload_n hx hb dX6_flows_98 rfl (lv_at hl 1 rfl) ?_
          refine lv_iconst (v := 3) hx hb dX6_flows_99 (by decide) ?_
          refine lv_aload_n hx hb dX6_flows_100 rfl (lv_at hl 3 rfl) ?_
          refine lv_iload_n hx hb dX6_flows_101 rfl (lv_at hl 1 rfl) ?_
          refine lv_iconst (v := 3) hx hb dX6_flows_102 (by decide) ?_
          refine kc_i (As := [.int x2_4, .int 3]) (rest := [.int 3, .int x2_4, .ref (q 0)]) (wg := (fun _ => (wM cI q (uA (uA D_5 0 (upd (D_5 0) 4 (((D_5 0) 4) - ((D_5 0) 4)))) 0 (upd (upd (D_5 0) 4 (((D_5 0) 4) - ((D_5 0) 4))) 14 (((upd (D_5 0) 4 (((D_5 0) 4) - ((D_5 0) 4))) 14) + ((D_5 0) 4))))))) ⟨hx, hb, hml, hown, hts⟩ (c_X6_of l G cI cC cD q _ (uA (uA D_5 0 (upd (D_5 0) 4 (((D_5 0) 4) - ((D_5 0) 4)))) 0 (upd (upd (D_5 0) 4 (((D_5 0) 4) - ((D_5 0) 4))) 14 (((upd (D_5 0) 4 (((D_5 0) 4) - ((D_5 0) 4))) 14) + ((D_5 0) 4)))) x2_4 3 _ h) (cwV 2 hts gX6_flows_X6_of rfl rfl rfl (by decide +kernel) ⟨Nat.le_of_ble_eq_true rfl, Nat.le_of_ble_eq_true rfl⟩) hK hN hP hD hS hA (em_MM cI q (uA (uA D_5 0 (upd (D_5 0) 4 (((D_5 0) 4) - ((D_5 0) 4)))) 0 (upd (upd (D_5 0) 4 (((D_5 0) 4) - ((D_5 0) 4))) 14 (((upd (D_5 0) 4 (((D_5 0) 4) - ((D_5 0) 4))) 14) + ((D_5 0) 4))))) (fun _ => rp_self (em_MM cI q (uA (uA D_5 0 (upd (D_5 0) 4 (((D_5 0) 4) - ((D_5 0) 4)))) 0 (upd (upd (D_5 0) 4 (((D_5 0) 4) - ((D_5 0) 4))) 14 (((upd (D_5 0) 4 (((D_5 0) 4) - ((D_5 0) 4))) 14) + ((D_5 0) 4)))))) rfl rfl rfl rfl hl.1 rfl (Nat.le_of_ble_eq_true rfl) dX6_flows_103 ⟨Nat.zero_le _, Nat.zero_le _⟩ (fun r_20 _ H locs h hP hD hS => ?_)
          refine lv_iload_n hx hb dX6_flows_106 rfl (lv_at hl 0 rfl) ?_
          refine lv_iadd hx hb dX6_flows_107 ?_
          refine kc_v (As := [.int x2_4, .int 3, .int (r_20 + ((D_5 0) 4))]) (rest := []) (wg := (fun u => (wM cI q u))) ⟨hx, hb, hml, hown, hts⟩ (c_X6_puts l G cI cC cD q _ (uA (uA D_5 0 (upd (D_5 0) 4 (((D_5 0) 4) - ((D_5 0) 4)))) 0 (upd (upd (D_5 0) 4 (((D_5 0) 4) - ((D_5 0) 4))) 14 (((upd (D_5 0) 4 (((D_5 0) 4) - ((D_5 0) 4))) 14) + ((D_5 0) 4)))) x2_4 3 (r_20 + ((D_5 0) 4)) _ h) (cwV 3 hts gX6_flows_X6_puts rfl rfl rfl (by decide +kernel) ⟨Nat.le_of_ble_eq_true rfl, Nat.le_of_ble_eq_true rfl⟩) hK hN hP hD hS hA (em_MM cI q (uA (uA D_5 0 (upd (D_5 0) 4 (((D_5 0) 4) - ((D_5 0) 4)))) 0 (upd (upd (D_5 0) 4 (((D_5 0) 4) - ((D_5 0) 4))) 14 (((upd (D_5 0) 4 (((D_5 0) 4) - ((D_5 0) 4))) 14) + ((D_5 0) 4))))) (fun u => rp_MM cI q (uA (uA D_5 0 (upd (D_5 0) 4 (((D_5 0) 4) - ((D_5 0) 4)))) 0 (upd (upd (D_5 0) 4 (((D_5 0) 4) - ((D_5 0) 4))) 14 (((upd (D_5 0) 4 (((D_5 0) 4) - ((D_5 0) 4))) 14) + ((D_5 0) 4)))) u) rfl rfl rfl rfl hl.1 rfl (Nat.le_of_ble_eq_true rfl) dX6_flows_108 ⟨Nat.zero_le _, Nat.zero_le _⟩ (fun u_21 H locs h hP hD hS => ?_)
          refine lv_iinc (v := x2_4 + 1) (lv' := [(2, .int (x2_4 + 1)), (3, .int ((D_5 0) 4)), (1, .int r_1), (0, .ref (q 0))]) hx hb dX6_flows_111 hl (k := 1) rfl rfl (by decide) rfl (fun ls hl => ?_)
          refine lv_goto (tgt := 38) hx hb dX6_flows_114 (by decide) ?_
          obtain ⟨n_22, lt_23, h_24⟩ := h
          exact ih_6 n_22 lt_23 _ _ h_24 _ _ _ hP hD hS (lv_sub hl [0, 2, 3] rfl)
  exact lp_10 _ _ _ h_8 _ _ _ hP hD hS hl
