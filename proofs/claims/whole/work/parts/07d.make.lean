set_option maxHeartbeats 4000000 in
set_option maxRecDepth 100000 in
theorem c_X1_init (l : Launch) (G : va_G) (cI cC cD : ClassId) (k0 : Nat) (sz : Nat) : Met l yX1_init wsX1_init ({ frames := 1, cells := 5, slots := 40, locals := 12 }) (va_Pc [.ref k0] (PO G (ty3 cI cC cD) [(k0, .inr (1, [.null, .null, .null, .null, .null, .int 0]))] sz)) (va_Qv (fun u : Nat → Nat => u 0 = k0) (BW G (fun u : Nat → Nat => (wG cI (u 0) (u 1) (u 2) (u 3) (u 4) (u 5) Z0)) (va_A [(k0, .inr (1, [.null, .null, .null, .null, .null, .int 0]))] sz)) (va_A [(k0, .inr (1, [.null, .null, .null, .null, .null, .int 0]))] sz)) 5 40 (va_A [(k0, .inr (1, [.null, .null, .null, .null, .null, .int 0]))] sz) := by
  refine Met.ofW (cc := cX1_init) (maxL := 1) (ret := none) (by decide) rfl ?_
  intro p e s m args below meth c s₁ B hml hv
  obtain ⟨rfl, ⟨hsz, hP, hK, hD0, hN⟩, hO⟩ := hv
  have hx := B.exec
  have hb := B.bytes
  have hr := B.returns
  have hts := atoms_spec (ws := wsX1_init) B.pre
  have hown : s.vm.findClass RX1 = some m.cls := findClass_of_methodNamed B.named
  have hlocks := B.notSynchronized
  have hin : meth.name = "<init>" := (name_of_methodNamed B.named B.method).1
  subst hsz
  have hD := hD0.self (sz := s.heap.size)
  generalize hAe : va_A [(k0, .inr (1, [.null, .null, .null, .null, .null, .int 0]))] s.heap.size = A at hD ⊢
  have hA : ∀ q : Nat, s.heap.size ≤ q → A q := fun q h => by rw [← hAe]; exact Or.inr h
  have hS : va_S A s.heap s.heap [] := va_S.rf
  have hl := lv_entry ([.ref k0]) (n := 1) (Nat.le_of_ble_eq_true rfl)
  rw [lg_entry_eq]
  generalize (lg_sl ([.ref k0]) ++ List.replicate (1 - (lg_sl ([.ref k0])).length) Slot.unset).toArray = ls at hl ⊢
  have hl : lv_has ls 1 [(0, .ref k0)] := hl
  have hinX1 : ∀ w ∈ wsX10, w ∈ wsX1_init := by decide +kernel
  have hL9 := hts (.fieldLink RX1 9 "CraneGates$Gates" "kinds" "[I") (by decide +kernel)
  have hL15 := hts (.fieldLink RX1 15 "CraneGates$Gates" "widths" "[I") (by decide +kernel)
  have hL18 := hts (.fieldLink RX1 18 "CraneGates$Gates" "openings" "[I") (by decide +kernel)
  have hL21 := hts (.fieldLink RX1 21 "CraneGates$Gates" "waterOut" "[I") (by decide +kernel)
  have hL24 := hts (.fieldLink RX1 24 "CraneGates$Gates" "moves" "[I") (by decide +kernel)
  refine lv_aload_n hx hb dX1_init_0 rfl (lv_at hl 0 rfl) ?_
  refine W.objInit hx hb hown (hts (.methodLink RX1 3 objectInit) (by decide +kernel)) (hts (.instanceMethod objectInit) (by decide +kernel)) (hts (.code objectInit ⟨#[0xb1]⟩ 1 none) (by decide +kernel)) rfl (by rw [hml]; exact hl.1) rfl dX1_init_1 (Nat.le_of_ble_eq_true rfl) (Nat.le_of_ble_eq_true rfl) ?_
  refine W.eq (g2 := F0 m 4 ls []) rfl ?_
  refine lv_aload_n hx hb dX1_init_4 rfl (lv_at hl 0 rfl) ?_
  refine lv_bipush (v := 8) hx hb dX1_init_5 (by decide) ?_
  refine k_newi (N' := 8) hx hb (hts (.arrayClass .int) (by decide +kernel)) hK hP hD hS hA (by decide) rfl (by decide) (Nat.le_of_ble_eq_true rfl) (Nat.le_of_ble_eq_true rfl) dX1_init_7 (fun a1 H hP hD hS => ?_)
  have hP : va_P G vwCl ([(k0, .inr (1, [.null, .null, .null, .null, .null, .int 0])), (a1, .inl (cI, 8, .inl (fun _ => 0)))]) H := hP
  have hD : va_D A ([(k0, .inr (1, [.null, .null, .null, .null, .null, .int 0])), (a1, .inl (cI, 8, .inl (fun _ => 0)))]) := hD
  refine W.cs (cells' := 1) (slots' := 8) rfl rfl ?_
  refine va_putF (D := G) (ci := 1) (v := .ref a1) (ty := .array .int) (C := RX1) (T := TX1) (N := 6) hx hb hts hinX1 tyX1 tyX1_ok nmX1 hown hK hP hD hS 0 rfl rfl 0 (by decide) hL9 (fun _ h9 => h9) rfl hin rfl (by decide +kernel) rfl rfl (Nat.le_of_ble_eq_true rfl) dX1_init_9 (fun H locs hP hD hS => ?_)
  have hP : va_P G vwCl ([(k0, .inr (1, [.ref a1, .null, .null, .null, .null, .int 0])), (a1, .inl (cI, 8, .inl (fun _ => 0)))]) H := hP
  have hD : va_D A ([(k0, .inr (1, [.ref a1, .null, .null, .null, .null, .int 0])), (a1, .inl (cI, 8, .inl (fun _ => 0)))]) := hD
  refine lv_aload_n hx hb dX1_init_12 rfl (lv_at hl 0 rfl) ?_
  refine lv_bipush (v := 8) hx hb dX1_init_13 (by decide) ?_
  refine k_newi (N' := 8) hx hb (hts (.arrayClass .int) (by decide +kernel)) hK hP hD hS hA (by decide) rfl (by decide) (Nat.le_of_ble_eq_true rfl) (Nat.le_of_ble_eq_true rfl) dX1_init_15 (fun a2 H hP hD hS => ?_)
  have hP : va_P G vwCl ([(k0, .inr (1, [.ref a1, .null, .null, .null, .null, .int 0])), (a1, .inl (cI, 8, .inl (fun _ => 0))), (a2, .inl (cI, 8, .inl (fun _ => 0)))]) H := hP
  have hD : va_D A ([(k0, .inr (1, [.ref a1, .null, .null, .null, .null, .int 0])), (a1, .inl (cI, 8, .inl (fun _ => 0))), (a2, .inl (cI, 8, .inl (fun _ => 0)))]) := hD
  refine W.cs (cells' := 2) (slots' := 16) rfl rfl ?_
  refine va_putF (D := G) (ci := 1) (v := .ref a2) (ty := .array .int) (C := RX1) (T := TX1) (N := 6) hx hb hts hinX1 tyX1 tyX1_ok nmX1 hown hK hP hD hS 0 rfl rfl 1 (by decide) hL15 (fun _ h9 => h9) rfl hin rfl (by decide +kernel) rfl rfl (Nat.le_of_ble_eq_true rfl) dX1_init_17 (fun H locs hP hD hS => ?_)
  have hP : va_P G vwCl ([(k0, .inr (1, [.ref a1, .ref a2, .null, .null, .null, .int 0])), (a1, .inl (cI, 8, .inl (fun _ => 0))), (a2, .inl (cI, 8, .inl (fun _ => 0)))]) H := hP
  have hD : va_D A ([(k0, .inr (1, [.ref a1, .ref a2, .null, .null, .null, .int 0])), (a1, .inl (cI, 8, .inl (fun _ => 0))), (a2, .inl (cI, 8, .inl (fun _ => 0)))]) := hD
  refine lv_aload_n hx hb dX1_init_20 rfl (lv_at hl 0 rfl) ?_
  refine lv_bipush (v := 8) hx hb dX1_init_21 (by decide) ?_
  refine k_newi (N' := 8) hx hb (hts (.arrayClass .int) (by decide +kernel)) hK hP hD hS hA (by decide) rfl (by decide) (Nat.le_of_ble_eq_true rfl) (Nat.le_of_ble_eq_true rfl) dX1_init_23 (fun a3 H hP hD hS => ?_)
  have hP : va_P G vwCl ([(k0, .inr (1, [.ref a1, .ref a2, .null, .null, .null, .int 0])), (a1, .inl (cI, 8, .inl (fun _ => 0))), (a2, .inl (cI, 8, .inl (fun _ => 0))), (a3, .inl (cI, 8, .inl (fun _ => 0)))]) H := hP
  have hD : va_D A ([(k0, .inr (1, [.ref a1, .ref a2, .null, .null, .null, .int 0])), (a1, .inl (cI, 8, .inl (fun _ => 0))), (a2, .inl (cI, 8, .inl (fun _ => 0))), (a3, .inl (cI, 8, .inl (fun _ => 0)))]) := hD
  refine W.cs (cells' := 3) (slots' := 24) rfl rfl ?_
  refine va_putF (D := G) (ci := 1) (v := .ref a3) (ty := .array .int) (C := RX1) (T := TX1) (N := 6) hx hb hts hinX1 tyX1 tyX1_ok nmX1 hown hK hP hD hS 0 rfl rfl 2 (by decide) hL18 (fun _ h9 => h9) rfl hin rfl (by decide +kernel) rfl rfl (Nat.le_of_ble_eq_true rfl) dX1_init_25 (fun H locs hP hD hS => ?_)
  have hP : va_P G vwCl ([(k0, .inr (1, [.ref a1, .ref a2, .ref a3, .null, .null, .int 0])), (a1, .inl (cI, 8, .inl (fun _ => 0))), (a2, .inl (cI, 8, .inl (fun _ => 0))), (a3, .inl (cI, 8, .inl (fun _ => 0)))]) H := hP
  have hD : va_D A ([(k0, .inr (1, [.ref a1, .ref a2, .ref a3, .null, .null, .int 0])), (a1, .inl (cI, 8, .inl (fun _ => 0))), (a2, .inl (cI, 8, .inl (fun _ => 0))), (a3, .inl (cI, 8, .inl (fun _ => 0)))]) := hD
  refine lv_aload_n hx hb dX1_init_28 rfl (lv_at hl 0 rfl) ?_
  refine lv_bipush (v := 8) hx hb dX1_init_29 (by decide) ?_
  refine k_newi (N' := 8) hx hb (hts (.arrayClass .int) (by decide +kernel)) hK hP hD hS hA (by decide) rfl (by decide) (Nat.le_of_ble_eq_true rfl) (Nat.le_of_ble_eq_true rfl) dX1_init_31 (fun a4 H hP hD hS => ?_)
  have hP : va_P G vwCl ([(k0, .inr (1, [.ref a1, .ref a2, .ref a3, .null, .null, .int 0])), (a1, .inl (cI, 8, .inl (fun _ => 0))), (a2, .inl (cI, 8, .inl (fun _ => 0))), (a3, .inl (cI, 8, .inl (fun _ => 0))), (a4, .inl (cI, 8, .inl (fun _ => 0)))]) H := hP
  have hD : va_D A ([(k0, .inr (1, [.ref a1, .ref a2, .ref a3, .null, .null, .int 0])), (a1, .inl (cI, 8, .inl (fun _ => 0))), (a2, .inl (cI, 8, .inl (fun _ => 0))), (a3, .inl (cI, 8, .inl (fun _ => 0))), (a4, .inl (cI, 8, .inl (fun _ => 0)))]) := hD
  refine W.cs (cells' := 4) (slots' := 32) rfl rfl ?_
  refine va_putF (D := G) (ci := 1) (v := .ref a4) (ty := .array .int) (C := RX1) (T := TX1) (N := 6) hx hb hts hinX1 tyX1 tyX1_ok nmX1 hown hK hP hD hS 0 rfl rfl 3 (by decide) hL21 (fun _ h9 => h9) rfl hin rfl (by decide +kernel) rfl rfl (Nat.le_of_ble_eq_true rfl) dX1_init_33 (fun H locs hP hD hS => ?_)
  have hP : va_P G vwCl ([(k0, .inr (1, [.ref a1, .ref a2, .ref a3, .ref a4, .null, .int 0])), (a1, .inl (cI, 8, .inl (fun _ => 0))), (a2, .inl (cI, 8, .inl (fun _ => 0))), (a3, .inl (cI, 8, .inl (fun _ => 0))), (a4, .inl (cI, 8, .inl (fun _ => 0)))]) H := hP
  have hD : va_D A ([(k0, .inr (1, [.ref a1, .ref a2, .ref a3, .ref a4, .null, .int 0])), (a1, .inl (cI, 8, .inl (fun _ => 0))), (a2, .inl (cI, 8, .inl (fun _ => 0))), (a3, .inl (cI, 8, .inl (fun _ => 0))), (a4, .inl (cI, 8, .inl (fun _ => 0)))]) := hD
  refine lv_aload_n hx hb dX1_init_36 rfl (lv_at hl 0 rfl) ?_
  refine lv_bipush (v := 8) hx hb dX1_init_37 (by decide) ?_
  refine k_newi (N' := 8) hx hb (hts (.arrayClass .int) (by decide +kernel)) hK hP hD hS hA (by decide) rfl (by decide) (Nat.le_of_ble_eq_true rfl) (Nat.le_of_ble_eq_true rfl) dX1_init_39 (fun a5 H hP hD hS => ?_)
  have hP : va_P G vwCl ([(k0, .inr (1, [.ref a1, .ref a2, .ref a3, .ref a4, .null, .int 0])), (a1, .inl (cI, 8, .inl (fun _ => 0))), (a2, .inl (cI, 8, .inl (fun _ => 0))), (a3, .inl (cI, 8, .inl (fun _ => 0))), (a4, .inl (cI, 8, .inl (fun _ => 0))), (a5, .inl (cI, 8, .inl (fun _ => 0)))]) H := hP
  have hD : va_D A ([(k0, .inr (1, [.ref a1, .ref a2, .ref a3, .ref a4, .null, .int 0])), (a1, .inl (cI, 8, .inl (fun _ => 0))), (a2, .inl (cI, 8, .inl (fun _ => 0))), (a3, .inl (cI, 8, .inl (fun _ => 0))), (a4, .inl (cI, 8, .inl (fun _ => 0))), (a5, .inl (cI, 8, .inl (fun _ => 0)))]) := hD
  refine W.cs (cells' := 5) (slots' := 40) rfl rfl ?_
  refine va_putF (D := G) (ci := 1) (v := .ref a5) (ty := .array .int) (C := RX1) (T := TX1) (N := 6) hx hb hts hinX1 tyX1 tyX1_ok nmX1 hown hK hP hD hS 0 rfl rfl 4 (by decide) hL24 (fun _ h9 => h9) rfl hin rfl (by decide +kernel) rfl rfl (Nat.le_of_ble_eq_true rfl) dX1_init_41 (fun H locs hP hD hS => ?_)
  have hP : va_P G vwCl ([(k0, .inr (1, [.ref a1, .ref a2, .ref a3, .ref a4, .ref a5, .int 0])), (a1, .inl (cI, 8, .inl (fun _ => 0))), (a2, .inl (cI, 8, .inl (fun _ => 0))), (a3, .inl (cI, 8, .inl (fun _ => 0))), (a4, .inl (cI, 8, .inl (fun _ => 0))), (a5, .inl (cI, 8, .inl (fun _ => 0)))]) H := hP
  have hD : va_D A ([(k0, .inr (1, [.ref a1, .ref a2, .ref a3, .ref a4, .ref a5, .int 0])), (a1, .inl (cI, 8, .inl (fun _ => 0))), (a2, .inl (cI, 8, .inl (fun _ => 0))), (a3, .inl (cI, 8, .inl (fun _ => 0))), (a4, .inl (cI, 8, .inl (fun _ => 0))), (a5, .inl (cI, 8, .inl (fun _ => 0)))]) := hD
  have hP : va_P G vwCl ((fun u : Nat → Nat => (wG cI (u 0) (u 1) (u 2) (u 3) (u 4) (u 5) Z0)) (fun i => cond (Nat.beq i 0) k0 ((fun i => cond (Nat.beq i 1) a1 ((fun i => cond (Nat.beq i 2) a2 ((fun i => cond (Nat.beq i 3) a3 ((fun i => cond (Nat.beq i 4) a4 ((fun i => cond (Nat.beq i 5) a5 ((fun _ => 0) i)) i)) i)) i)) i)) i))) H := hP
  have hD : va_D A ((fun u : Nat → Nat => (wG cI (u 0) (u 1) (u 2) (u 3) (u 4) (u 5) Z0)) (fun i => cond (Nat.beq i 0) k0 ((fun i => cond (Nat.beq i 1) a1 ((fun i => cond (Nat.beq i 2) a2 ((fun i => cond (Nat.beq i 3) a3 ((fun i => cond (Nat.beq i 4) a4 ((fun i => cond (Nat.beq i 5) a5 ((fun _ => 0) i)) i)) i)) i)) i)) i))) := hD
  exact W.vret hx hb hr (fun t ht hW => ⟨⟨(fun i => cond (Nat.beq i 0) k0 ((fun i => cond (Nat.beq i 1) a1 ((fun i => cond (Nat.beq i 2) a2 ((fun i => cond (Nat.beq i 3) a3 ((fun i => cond (Nat.beq i 4) a4 ((fun i => cond (Nat.beq i 5) a5 ((fun _ => 0) i)) i)) i)) i)) i)) i)), rfl, rfl, by rw [ht]; exact hP, hD⟩, hS.F ht⟩) hS.2.2 dX1_init_44
set_option maxHeartbeats 4000000 in
set_option maxRecDepth 100000 in
theorem c_X4_init (l : Launch) (G : va_G) (cI cC cD : ClassId) (k0 : Nat) (x : Int32) (sz : Nat) : Met l yX4_init wsX4_init ({ frames := 1, cells := 2, slots := 16, locals := 21 }) (va_Pc [.ref k0, .int x] (PO G (ty3 cI cC cD) [(k0, .inr (4, [.null, .null, .int 0, .int 0]))] sz)) (va_Qv (fun u : Nat → Nat => u 0 = k0) (BW G (fun u : Nat → Nat => (wT cI (u 0) (u 1) (u 2) (Tz x))) (va_A [(k0, .inr (4, [.null, .null, .int 0, .int 0]))] sz)) (va_A [(k0, .inr (4, [.null, .null, .int 0, .int 0]))] sz)) 2 16 (va_A [(k0, .inr (4, [.null, .null, .int 0, .int 0]))] sz) := by
  refine Met.ofW (cc := cX4_init) (maxL := 2) (ret := none) (by decide) rfl ?_
  intro p e s m args below meth c s₁ B hml hv
  obtain ⟨rfl, ⟨hsz, hP, hK, hD0, hN⟩, hO⟩ := hv
  have hx := B.exec
  have hb := B.bytes
  have hr := B.returns
  have hts := atoms_spec (ws := wsX4_init) B.pre
  have hown : s.vm.findClass RX4 = some m.cls := findClass_of_methodNamed B.named
  have hlocks := B.notSynchronized
  have hin : meth.name = "<init>" := (name_of_methodNamed B.named B.method).1
  subst hsz
  have hD := hD0.self (sz := s.heap.size)
  generalize hAe : va_A [(k0, .inr (4, [.null, .null, .int 0, .int 0]))] s.heap.size = A at hD ⊢
  have hA : ∀ q : Nat, s.heap.size ≤ q → A q := fun q h => by rw [← hAe]; exact Or.inr h
  have hS : va_S A s.heap s.heap [] := va_S.rf
  have hl := lv_entry ([.ref k0, .int x]) (n := 2) (Nat.le_of_ble_eq_true rfl)
  rw [lg_entry_eq]
  generalize (lg_sl ([.ref k0, .int x]) ++ List.replicate (2 - (lg_sl ([.ref k0, .int x])).length) Slot.unset).toArray = ls at hl ⊢
  have hl : lv_has ls 2 [(0, .ref k0), (1, .int x)] := hl
  have hinX4 : ∀ w ∈ wsX40, w ∈ wsX4_init := by decide +kernel
  have hL9 := hts (.fieldLink RX4 9 "CraneGates$Tasks" "gates" "[I") (by decide +kernel)
  have hL15 := hts (.fieldLink RX4 15 "CraneGates$Tasks" "openings" "[I") (by decide +kernel)
  have hL24 := hts (.fieldLink RX4 24 "CraneGates$Tasks" "most" "I") (by decide +kernel)
  refine lv_aload_n hx hb dX4_init_0 rfl (lv_at hl 0 rfl) ?_
  refine W.objInit hx hb hown (hts (.methodLink RX4 3 objectInit) (by decide +kernel)) (hts (.instanceMethod objectInit) (by decide +kernel)) (hts (.code objectInit ⟨#[0xb1]⟩ 1 none) (by decide +kernel)) rfl (by rw [hml]; exact hl.1) rfl dX4_init_1 (Nat.le_of_ble_eq_true rfl) (Nat.le_of_ble_eq_true rfl) ?_
  refine W.eq (g2 := F0 m 4 ls []) rfl ?_
  refine lv_aload_n hx hb dX4_init_4 rfl (lv_at hl 0 rfl) ?_
  refine lv_bipush (v := 8) hx hb dX4_init_5 (by decide) ?_
  refine k_newi (N' := 8) hx hb (hts (.arrayClass .int) (by decide +kernel)) hK hP hD hS hA (by decide) rfl (by decide) (Nat.le_of_ble_eq_true rfl) (Nat.le_of_ble_eq_true rfl) dX4_init_7 (fun a1 H hP hD hS => ?_)
  have hP : va_P G vwCl ([(k0, .inr (4, [.null, .null, .int 0, .int 0])), (a1, .inl (cI, 8, .inl (fun _ => 0)))]) H := hP
  have hD : va_D A ([(k0, .inr (4, [.null, .null, .int 0, .int 0])), (a1, .inl (cI, 8, .inl (fun _ => 0)))]) := hD
  refine W.cs (cells' := 1) (slots' := 8) rfl rfl ?_
  refine va_putF (D := G) (ci := 4) (v := .ref a1) (ty := .array .int) (C := RX4) (T := TX4) (N := 4) hx hb hts hinX4 tyX4 tyX4_ok nmX4 hown hK hP hD hS 0 rfl rfl 0 (by decide) hL9 (fun _ h9 => h9) rfl hin rfl (by decide +kernel) rfl rfl (Nat.le_of_ble_eq_true rfl) dX4_init_9 (fun H locs hP hD hS => ?_)
  have hP : va_P G vwCl ([(k0, .inr (4, [.ref a1, .null, .int 0, .int 0])), (a1, .inl (cI, 8, .inl (fun _ => 0)))]) H := hP
  have hD : va_D A ([(k0, .inr (4, [.ref a1, .null, .int 0, .int 0])), (a1, .inl (cI, 8, .inl (fun _ => 0)))]) := hD
  refine lv_aload_n hx hb dX4_init_12 rfl (lv_at hl 0 rfl) ?_
  refine lv_bipush (v := 8) hx hb dX4_init_13 (by decide) ?_
  refine k_newi (N' := 8) hx hb (hts (.arrayClass .int) (by decide +kernel)) hK hP hD hS hA (by decide) rfl (by decide) (Nat.le_of_ble_eq_true rfl) (Nat.le_of_ble_eq_true rfl) dX4_init_15 (fun a2 H hP hD hS => ?_)
  have hP : va_P G vwCl ([(k0, .inr (4, [.ref a1, .null, .int 0, .int 0])), (a1, .inl (cI, 8, .inl (fun _ => 0))), (a2, .inl (cI, 8, .inl (fun _ => 0)))]) H := hP
  have hD : va_D A ([(k0, .inr (4, [.ref a1, .null, .int 0, .int 0])), (a1, .inl (cI, 8, .inl (fun _ => 0))), (a2, .inl (cI, 8, .inl (fun _ => 0)))]) := hD
  refine W.cs (cells' := 2) (slots' := 16) rfl rfl ?_
  refine va_putF (D := G) (ci := 4) (v := .ref a2) (ty := .array .int) (C := RX4) (T := TX4) (N := 4) hx hb hts hinX4 tyX4 tyX4_ok nmX4 hown hK hP hD hS 0 rfl rfl 1 (by decide) hL15 (fun _ h9 => h9) rfl hin rfl (by decide +kernel) rfl rfl (Nat.le_of_ble_eq_true rfl) dX4_init_17 (fun H locs hP hD hS => ?_)
  have hP : va_P G vwCl ([(k0, .inr (4, [.ref a1, .ref a2, .int 0, .int 0])), (a1, .inl (cI, 8, .inl (fun _ => 0))), (a2, .inl (cI, 8, .inl (fun _ => 0)))]) H := hP
  have hD : va_D A ([(k0, .inr (4, [.ref a1, .ref a2, .int 0, .int 0])), (a1, .inl (cI, 8, .inl (fun _ => 0))), (a2, .inl (cI, 8, .inl (fun _ => 0)))]) := hD
  refine lv_aload_n hx hb dX4_init_20 rfl (lv_at hl 0 rfl) ?_
  refine lv_iload_n hx hb dX4_init_21 rfl (lv_at hl 1 rfl) ?_
  refine lv_bipush (v := 8) hx hb dX4_init_22 (by decide) ?_
  refine va_mmin hx hb (hl.1 ▸ hml) hown (hts (.methodLink RX4 18 Lib.Math.min.name) (by decide +kernel)) (hts (.static Lib.Math.min.name) (by decide +kernel)) (hts (.initialized "java/lang/Math") (by decide +kernel)) (hts (.code Lib.Math.min.name Lib.Math.min.code 2 (some .int)) (by decide +kernel)) (Nat.le_of_ble_eq_true rfl) (Nat.le_of_ble_eq_true rfl) (Nat.le_of_ble_eq_true rfl) (Nat.le_of_ble_eq_true rfl) dX4_init_24 ?_
  refine va_putF (D := G) (ci := 4) (v := .int (if (8 : Int32) < x then 8 else x)) (ty := .int) (C := RX4) (T := TX4) (N := 4) hx hb hts hinX4 tyX4 tyX4_ok nmX4 hown hK hP hD hS 0 rfl rfl 2 (by decide) hL24 (fun _ h9 => h9) rfl hin rfl (by decide +kernel) rfl rfl (Nat.le_of_ble_eq_true rfl) dX4_init_27 (fun H locs hP hD hS => ?_)
  have hP : va_P G vwCl ([(k0, .inr (4, [.ref a1, .ref a2, .int (if (8 : Int32) < x then 8 else x), .int 0])), (a1, .inl (cI, 8, .inl (fun _ => 0))), (a2, .inl (cI, 8, .inl (fun _ => 0)))]) H := hP
  have hD : va_D A ([(k0, .inr (4, [.ref a1, .ref a2, .int (if (8 : Int32) < x then 8 else x), .int 0])), (a1, .inl (cI, 8, .inl (fun _ => 0))), (a2, .inl (cI, 8, .inl (fun _ => 0)))]) := hD
  have hP : va_P G vwCl ((fun u : Nat → Nat => (wT cI (u 0) (u 1) (u 2) (Tz x))) (fun i => cond (Nat.beq i 0) k0 ((fun i => cond (Nat.beq i 1) a1 ((fun i => cond (Nat.beq i 2) a2 ((fun _ => 0) i)) i)) i))) H := hP
  have hD : va_D A ((fun u : Nat → Nat => (wT cI (u 0) (u 1) (u 2) (Tz x))) (fun i => cond (Nat.beq i 0) k0 ((fun i => cond (Nat.beq i 1) a1 ((fun i => cond (Nat.beq i 2) a2 ((fun _ => 0) i)) i)) i))) := hD
  exact W.vret hx hb hr (fun t ht hW => ⟨⟨(fun i => cond (Nat.beq i 0) k0 ((fun i => cond (Nat.beq i 1) a1 ((fun i => cond (Nat.beq i 2) a2 ((fun _ => 0) i)) i)) i)), rfl, rfl, by rw [ht]; exact hP, hD⟩, hS.F ht⟩) hS.2.2 dX4_init_30
set_option maxHeartbeats 4000000 in
set_option maxRecDepth 100000 in
theorem c_X0_init (l : Launch) (G : va_G) (cI cC cD : ClassId) (k0 : Nat) (sz : Nat) : Met l yX0_init wsX0_init ({ frames := 2, cells := 13, slots := 89, locals := 42 }) (va_Pc [.ref k0] (PO G (ty3 cI cC cD) [(k0, .inr (0, [.null, .null, .null, .null, .int 0, .int 0, .int 0, .int 0, .int 0, .int 0, .int 0, .int 0, .int 0, .int 0, .int 0, .int 0, .int 0, .int 0]))] sz)) (va_Qv (fun u : Nat → Nat => u 0 = k0) (BW G (fun u : Nat → Nat => (wD cI u D0)) (va_A [(k0, .inr (0, [.null, .null, .null, .null, .int 0, .int 0, .int 0, .int 0, .int 0, .int 0, .int 0, .int 0, .int 0, .int 0, .int 0, .int 0, .int 0, .int 0]))] sz)) (va_A [(k0, .inr (0, [.null, .null, .null, .null, .int 0, .int 0, .int 0, .int 0, .int 0, .int 0, .int 0, .int 0, .int 0, .int 0, .int 0, .int 0, .int 0, .int 0]))] sz)) 13 89 (va_A [(k0, .inr (0, [.null, .null, .null, .null, .int 0, .int 0, .int 0, .int 0, .int 0, .int 0, .int 0, .int 0, .int 0, .int 0, .int 0, .int 0, .int 0, .int 0]))] sz) := by
  refine Met.ofW (cc := cX0_init) (maxL := 1) (ret := none) (by decide) rfl ?_
  intro p e s m args below meth c s₁ B hml hv
  obtain ⟨rfl, ⟨hsz, hP, hK, hD0, hN⟩, hO⟩ := hv
  have hx := B.exec
  have hb := B.bytes
  have hr := B.returns
  have hts := atoms_spec (ws := wsX0_init) B.pre
  have hown : s.vm.findClass RX0 = some m.cls := findClass_of_methodNamed B.named
  have hlocks := B.notSynchronized
  have hin : meth.name = "<init>" := (name_of_methodNamed B.named B.method).1
  subst hsz
  have hD := hD0.self (sz := s.heap.size)
  generalize hAe : va_A [(k0, .inr (0, [.null, .null, .null, .null, .int 0, .int 0, .int 0, .int 0, .int 0, .int 0, .int 0, .int 0, .int 0, .int 0, .int 0, .int 0, .int 0, .int 0]))] s.heap.size = A at hD ⊢
  have hA : ∀ q : Nat, s.heap.size ≤ q → A q := fun q h => by rw [← hAe]; exact Or.inr h
  have hS : va_S A s.heap s.heap [] := va_S.rf
  have hl := lv_entry ([.ref k0]) (n := 1) (Nat.le_of_ble_eq_true rfl)
  rw [lg_entry_eq]
  generalize (lg_sl ([.ref k0]) ++ List.replicate (1 - (lg_sl ([.ref k0])).length) Slot.unset).toArray = ls at hl ⊢
  have hl : lv_has ls 1 [(0, .ref k0)] := hl
  have hinX0 : ∀ w ∈ wsX00, w ∈ wsX0_init := by decide +kernel
  have hinX1 : ∀ w ∈ wsX10, w ∈ wsX0_init := by decide +kernel
  have hinX4 : ∀ w ∈ wsX40, w ∈ wsX0_init := by decide +kernel
  have hL12 := hts (.fieldLink RX0 12 "CraneGates$Dam" "gates" "LCraneGates$Gates;") (by decide +kernel)
  have hL23 := hts (.fieldLink RX0 23 "CraneGates$Dam" "orders" "LCraneGates$Tasks;") (by decide +kernel)
  have hL27 := hts (.fieldLink RX0 27 "CraneGates$Dam" "marks" "LCraneGates$Tasks;") (by decide +kernel)
  have hL30 := hts (.fieldLink RX0 30 "CraneGates$Dam" "settings" "[I") (by decide +kernel)
  have hL34 := hts (.fieldLink RX0 34 "CraneGates$Dam" "water" "I") (by decide +kernel)
  have hL38 := hts (.fieldLink RX0 38 "CraneGates$Dam" "taskGate" "I") (by decide +kernel)
  refine lv_aload_n hx hb dX0_init_0 rfl (lv_at hl 0 rfl) ?_
  refine W.objInit hx hb hown (hts (.methodLink RX0 3 objectInit) (by decide +kernel)) (hts (.instanceMethod objectInit) (by decide +kernel)) (hts (.code objectInit ⟨#[0xb1]⟩ 1 none) (by decide +kernel)) rfl (by rw [hml]; exact hl.1) rfl dX0_init_1 (Nat.le_of_ble_eq_true rfl) (Nat.le_of_ble_eq_true rfl) ?_
  refine W.eq (g2 := F0 m 4 ls []) rfl ?_
  refine lv_aload_n hx hb dX0_init_4 rfl (lv_at hl 0 rfl) ?_
  refine va_new (ci := 1) (fs := [.null, .null, .null, .null, .null, .int 0]) (C := RX1) (T := TX1) (N := 6) hx hb hts hinX1 tyX1 tyX1_ok hown (hts (.classLink RX0 9 RX1) (by decide +kernel)) (hts (.instantiable RX1 6) (by decide +kernel)) (hts (.initialized RX1) (by decide +kernel)) hK hP hD hS hA rfl (fun j hj => by rcases (show j = 0 ∨ j = 1 ∨ j = 2 ∨ j = 3 ∨ j = 4 ∨ j = 5 by omega) with rfl | rfl | rfl | rfl | rfl | rfl <;> rfl) (Nat.le_of_ble_eq_true rfl) (Nat.le_of_ble_eq_true rfl) dX0_init_5 (fun a1 H hP hD hS => ?_)
  refine W.cs (cells' := 1) (slots' := 6) rfl rfl ?_
  refine lv_dup hx hb dX0_init_8 rfl ?_
  have hP : va_P G vwCl (([(k0, .inr (0, [.null, .null, .null, .null, .int 0, .int 0, .int 0, .int 0, .int 0, .int 0, .int 0, .int 0, .int 0, .int 0, .int 0, .int 0, .int 0, .int 0]))]) ++ [(a1, .inr (1, [.null, .null, .null, .null, .null, .int 0]))]) H := hP
  have hD : va_D A (([(k0, .inr (0, [.null, .null, .null, .null, .int 0, .int 0, .int 0, .int 0, .int 0, .int 0, .int 0, .int 0, .int 0, .int 0, .int 0, .int 0, .int 0, .int 0]))]) ++ [(a1, .inr (1, [.null, .null, .null, .null, .null, .int 0]))]) := hD
  refine k_ctorN (As := []) (rest := [.ref a1, .ref k0]) (ws := ([(k0, .inr (0, [.null, .null, .null, .null, .int 0, .int 0, .int 0, .int 0, .int 0, .int 0, .int 0, .int 0, .int 0, .int 0, .int 0, .int 0, .int 0, .int 0]))])) (x := (a1, .inr (1, [.null, .null, .null, .null, .null, .int 0]))) ⟨hx, hb, hml, hown, hts⟩ (c_X1_init l G cI cC cD a1 _) ⟨va_cnB (host := "CraneGates") 0 hts gX0_init_X1_init_n11 rfl rfl rfl (hN (.methodLinkNest "CraneGates$Dam" 11 yX1_init "CraneGates") (by simp [nestW])) (hts (.initialized RX1) (by decide +kernel)) (by decide +kernel) ⟨Nat.le_of_ble_eq_true rfl, Nat.le_of_ble_eq_true rfl⟩, rfl, hts (.instanceMethod yX1_init) (by decide +kernel)⟩ hK hN hO hP hD hS hA (N := 1) rfl (by decide +kernel) rfl hl.1 rfl (Nat.le_of_ble_eq_true rfl) dX0_init_9 ⟨Nat.le_of_ble_eq_true rfl, Nat.le_of_ble_eq_true rfl⟩ (fun u2 H locs hu hP9 hD9 hS => ?_)
  refine W.cs (cells' := 6) (slots' := 46) rfl rfl ?_
  subst hu
  have hP : va_P G vwCl ([(k0, .inr (0, [.null, .null, .null, .null, .int 0, .int 0, .int 0, .int 0, .int 0, .int 0, .int 0, .int 0, .int 0, .int 0, .int 0, .int 0, .int 0, .int 0]))] ++ wG cI (u2 0) (u2 1) (u2 2) (u2 3) (u2 4) (u2 5) Z0) H := hP9
  have hD : va_D A ([(k0, .inr (0, [.null, .null, .null, .null, .int 0, .int 0, .int 0, .int 0, .int 0, .int 0, .int 0, .int 0, .int 0, .int 0, .int 0, .int 0, .int 0, .int 0]))] ++ wG cI (u2 0) (u2 1) (u2 2) (u2 3) (u2 4) (u2 5) Z0) := hD9
  refine va_putF (D := G) (ci := 0) (v := .ref (u2 0)) (ty := .object "CraneGates$Gates") (C := RX0) (T := TX0) (N := 18) hx hb hts hinX0 tyX0 tyX0_ok nmX0 hown hK hP hD hS 0 rfl rfl 0 (by decide) hL12 (fun _ h9 => h9) rfl hin rfl (by decide +kernel) rfl rfl (Nat.le_of_ble_eq_true rfl) dX0_init_12 (fun H locs hP hD hS => ?_)
  have hP : va_P G vwCl ([(k0, .inr (0, [.ref (u2 0), .null, .null, .null, .int 0, .int 0, .int 0, .int 0, .int 0, .int 0, .int 0, .int 0, .int 0, .int 0, .int 0, .int 0, .int 0, .int 0]))] ++ wG cI (u2 0) (u2 1) (u2 2) (u2 3) (u2 4) (u2 5) Z0) H := hP
  have hD : va_D A ([(k0, .inr (0, [.ref (u2 0), .null, .null, .null, .int 0, .int 0, .int 0, .int 0, .int 0, .int 0, .int 0, .int 0, .int 0, .int 0, .int 0, .int 0, .int 0, .int 0]))] ++ wG cI (u2 0) (u2 1) (u2 2) (u2 3) (u2 4) (u2 5) Z0) := hD
  refine lv_aload_n hx hb dX0_init_15 rfl (lv_at hl 0 rfl) ?_
  refine va_new (ci := 4) (fs := [.null, .null, .int 0, .int 0]) (C := RX4) (T := TX4) (N := 4) hx hb hts hinX4 tyX4 tyX4_ok hown (hts (.classLink RX0 18 RX4) (by decide +kernel)) (hts (.instantiable RX4 4) (by decide +kernel)) (hts (.initialized RX4) (by decide +kernel)) hK hP hD hS hA rfl (fun j hj => by rcases (show j = 0 ∨ j = 1 ∨ j = 2 ∨ j = 3 by omega) with rfl | rfl | rfl | rfl <;> rfl) (Nat.le_of_ble_eq_true rfl) (Nat.le_of_ble_eq_true rfl) dX0_init_16 (fun a3 H hP hD hS => ?_)
  refine W.cs (cells' := 7) (slots' := 50) rfl rfl ?_
  refine lv_dup hx hb dX0_init_19 rfl ?_
  refine lv_bipush (v := 8) hx hb dX0_init_20 (by decide) ?_
  have hP : va_P G vwCl (([(k0, .inr (0, [.ref (u2 0), .null, .null, .null, .int 0, .int 0, .int 0, .int 0, .int 0, .int 0, .int 0, .int 0, .int 0, .int 0, .int 0, .int 0, .int 0, .int 0]))] ++ wG cI (u2 0) (u2 1) (u2 2) (u2 3) (u2 4) (u2 5) Z0) ++ [(a3, .inr (4, [.null, .null, .int 0, .int 0]))]) H := hP
  have hD : va_D A (([(k0, .inr (0, [.ref (u2 0), .null, .null, .null, .int 0, .int 0, .int 0, .int 0, .int 0, .int 0, .int 0, .int 0, .int 0, .int 0, .int 0, .int 0, .int 0, .int 0]))] ++ wG cI (u2 0) (u2 1) (u2 2) (u2 3) (u2 4) (u2 5) Z0) ++ [(a3, .inr (4, [.null, .null, .int 0, .int 0]))]) := hD
  refine k_ctorN (As := [.int 8]) (rest := [.ref a3, .ref k0]) (ws := ([(k0, .inr (0, [.ref (u2 0), .null, .null, .null, .int 0, .int 0, .int 0, .int 0, .int 0, .int 0, .int 0, .int 0, .int 0, .int 0, .int 0, .int 0, .int 0, .int 0]))] ++ wG cI (u2 0) (u2 1) (u2 2) (u2 3) (u2 4) (u2 5) Z0)) (x := (a3, .inr (4, [.null, .null, .int 0, .int 0]))) ⟨hx, hb, hml, hown, hts⟩ (c_X4_init l G cI cC cD a3 8 _) ⟨va_cnB (host := "CraneGates") 1 hts gX0_init_X4_init_n20 rfl rfl rfl (hN (.methodLinkNest "CraneGates$Dam" 20 yX4_init "CraneGates") (by simp [nestW])) (hts (.initialized RX4) (by decide +kernel)) (by decide +kernel) ⟨Nat.le_of_ble_eq_true rfl, Nat.le_of_ble_eq_true rfl⟩, rfl, hts (.instanceMethod yX4_init) (by decide +kernel)⟩ hK hN hO hP hD hS hA (N := 7) rfl (by decide +kernel) rfl hl.1 rfl (Nat.le_of_ble_eq_true rfl) dX0_init_22 ⟨Nat.le_of_ble_eq_true rfl, Nat.le_of_ble_eq_true rfl⟩ (fun u4 H locs hu hP9 hD9 hS => ?_)
  refine W.cs (cells' := 9) (slots' := 66) rfl rfl ?_
  subst hu
  have hP : va_P G vwCl ([(k0, .inr (0, [.ref (u2 0), .null, .null, .null, .int 0, .int 0, .int 0, .int 0, .int 0, .int 0, .int 0, .int 0, .int 0, .int 0, .int 0, .int 0, .int 0, .int 0]))] ++ wG cI (u2 0) (u2 1) (u2 2) (u2 3) (u2 4) (u2 5) Z0 ++ wT cI (u4 0) (u4 1) (u4 2) (Tz 8)) H := hP9
  have hD : va_D A ([(k0, .inr (0, [.ref (u2 0), .null, .null, .null, .int 0, .int 0, .int 0, .int 0, .int 0, .int 0, .int 0, .int 0, .int 0, .int 0, .int 0, .int 0, .int 0, .int 0]))] ++ wG cI (u2 0) (u2 1) (u2 2) (u2 3) (u2 4) (u2 5) Z0 ++ wT cI (u4 0) (u4 1) (u4 2) (Tz 8)) := hD9
  refine va_putF (D := G) (ci := 0) (v := .ref (u4 0)) (ty := .object "CraneGates$Tasks") (C := RX0) (T := TX0) (N := 18) hx hb hts hinX0 tyX0 tyX0_ok nmX0 hown hK hP hD hS 0 rfl rfl 1 (by decide) hL23 (fun _ h9 => h9) rfl hin rfl (by decide +kernel) rfl rfl (Nat.le_of_ble_eq_true rfl) dX0_init_25 (fun H locs hP hD hS => ?_)
  have hP : va_P G vwCl ([(k0, .inr (0, [.ref (u2 0), .ref (u4 0), .null, .null, .int 0, .int 0, .int 0, .int 0, .int 0, .int 0, .int 0, .int 0, .int 0, .int 0, .int 0, .int 0, .int 0, .int 0]))] ++ wG cI (u2 0) (u2 1) (u2 2) (u2 3) (u2 4) (u2 5) Z0 ++ wT cI (u4 0) (u4 1) (u4 2) (Tz 8)) H := hP
  have hD : va_D A ([(k0, .inr (0, [.ref (u2 0), .ref (u4 0), .null, .null, .int 0, .int 0, .int 0, .int 0, .int 0, .int 0, .int 0, .int 0, .int 0, .int 0, .int 0, .int 0, .int 0, .int 0]))] ++ wG cI (u2 0) (u2 1) (u2 2) (u2 3) (u2 4) (u2 5) Z0 ++ wT cI (u4 0) (u4 1) (u4 2) (Tz 8)) := hD
  refine lv_aload_n hx hb dX0_init_28 rfl (lv_at hl 0 rfl) ?_
  refine va_new (ci := 4) (fs := [.null, .null, .int 0, .int 0]) (C := RX4) (T := TX4) (N := 4) hx hb hts hinX4 tyX4 tyX4_ok hown (hts (.classLink RX0 18 RX4) (by decide +kernel)) (hts (.instantiable RX4 4) (by decide +kernel)) (hts (.initialized RX4) (by decide +kernel)) hK hP hD hS hA rfl (fun j hj => by rcases (show j = 0 ∨ j = 1 ∨ j = 2 ∨ j = 3 by omega) with rfl | rfl | rfl | rfl <;> rfl) (Nat.le_of_ble_eq_true rfl) (Nat.le_of_ble_eq_true rfl) dX0_init_29 (fun a5 H hP hD hS => ?_)
  refine W.cs (cells' := 10) (slots' := 70) rfl rfl ?_
  refine lv_dup hx hb dX0_init_32 rfl ?_
  refine lv_iconst (v := 4) hx hb dX0_init_33 (by decide) ?_
  have hP : va_P G vwCl (([(k0, .inr (0, [.ref (u2 0), .ref (u4 0), .null, .null, .int 0, .int 0, .int 0, .int 0, .int 0, .int 0, .int 0, .int 0, .int 0, .int 0, .int 0, .int 0, .int 0, .int 0]))] ++ wG cI (u2 0) (u2 1) (u2 2) (u2 3) (u2 4) (u2 5) Z0 ++ wT cI (u4 0) (u4 1) (u4 2) (Tz 8)) ++ [(a5, .inr (4, [.null, .null, .int 0, .int 0]))]) H := hP
  have hD : va_D A (([(k0, .inr (0, [.ref (u2 0), .ref (u4 0), .null, .null, .int 0, .int 0, .int 0, .int 0, .int 0, .int 0, .int 0, .int 0, .int 0, .int 0, .int 0, .int 0, .int 0, .int 0]))] ++ wG cI (u2 0) (u2 1) (u2 2) (u2 3) (u2 4) (u2 5) Z0 ++ wT cI (u4 0) (u4 1) (u4 2) (Tz 8)) ++ [(a5, .inr (4, [.null, .null, .int 0, .int 0]))]) := hD
  refine k_ctorN (As := [.int 4]) (rest := [.ref a5, .ref k0]) (ws := ([(k0, .inr (0, [.ref (u2 0), .ref (u4 0), .null, .null, .int 0, .int 0, .int 0, .int 0, .int 0, .int 0, .int 0, .int 0, .int 0, .int 0, .int 0, .int 0, .int 0, .int 0]))] ++ wG cI (u2 0) (u2 1) (u2 2) (u2 3) (u2 4) (u2 5) Z0 ++ wT cI (u4 0) (u4 1) (u4 2) (Tz 8))) (x := (a5, .inr (4, [.null, .null, .int 0, .int 0]))) ⟨hx, hb, hml, hown, hts⟩ (c_X4_init l G cI cC cD a5 4 _) ⟨va_cnB (host := "CraneGates") 1 hts gX0_init_X4_init_n20 rfl rfl rfl (hN (.methodLinkNest "CraneGates$Dam" 20 yX4_init "CraneGates") (by simp [nestW])) (hts (.initialized RX4) (by decide +kernel)) (by decide +kernel) ⟨Nat.le_of_ble_eq_true rfl, Nat.le_of_ble_eq_true rfl⟩, rfl, hts (.instanceMethod yX4_init) (by decide +kernel)⟩ hK hN hO hP hD hS hA (N := 10) rfl (by decide +kernel) rfl hl.1 rfl (Nat.le_of_ble_eq_true rfl) dX0_init_34 ⟨Nat.le_of_ble_eq_true rfl, Nat.le_of_ble_eq_true rfl⟩ (fun u6 H locs hu hP9 hD9 hS => ?_)
  refine W.cs (cells' := 12) (slots' := 86) rfl rfl ?_
  subst hu
  have hP : va_P G vwCl ([(k0, .inr (0, [.ref (u2 0), .ref (u4 0), .null, .null, .int 0, .int 0, .int 0, .int 0, .int 0, .int 0, .int 0, .int 0, .int 0, .int 0, .int 0, .int 0, .int 0, .int 0]))] ++ wG cI (u2 0) (u2 1) (u2 2) (u2 3) (u2 4) (u2 5) Z0 ++ wT cI (u4 0) (u4 1) (u4 2) (Tz 8) ++ wT cI (u6 0) (u6 1) (u6 2) (Tz 4)) H := hP9
  have hD : va_D A ([(k0, .inr (0, [.ref (u2 0), .ref (u4 0), .null, .null, .int 0, .int 0, .int 0, .int 0, .int 0, .int 0, .int 0, .int 0, .int 0, .int 0, .int 0, .int 0, .int 0, .int 0]))] ++ wG cI (u2 0) (u2 1) (u2 2) (u2 3) (u2 4) (u2 5) Z0 ++ wT cI (u4 0) (u4 1) (u4 2) (Tz 8) ++ wT cI (u6 0) (u6 1) (u6 2) (Tz 4)) := hD9
  refine va_putF (D := G) (ci := 0) (v := .ref (u6 0)) (ty := .object "CraneGates$Tasks") (C := RX0) (T := TX0) (N := 18) hx hb hts hinX0 tyX0 tyX0_ok nmX0 hown hK hP hD hS 0 rfl rfl 2 (by decide) hL27 (fun _ h9 => h9) rfl hin rfl (by decide +kernel) rfl rfl (Nat.le_of_ble_eq_true rfl) dX0_init_37 (fun H locs hP hD hS => ?_)
  have hP : va_P G vwCl ([(k0, .inr (0, [.ref (u2 0), .ref (u4 0), .ref (u6 0), .null, .int 0, .int 0, .int 0, .int 0, .int 0, .int 0, .int 0, .int 0, .int 0, .int 0, .int 0, .int 0, .int 0, .int 0]))] ++ wG cI (u2 0) (u2 1) (u2 2) (u2 3) (u2 4) (u2 5) Z0 ++ wT cI (u4 0) (u4 1) (u4 2) (Tz 8) ++ wT cI (u6 0) (u6 1) (u6 2) (Tz 4)) H := hP
  have hD : va_D A ([(k0, .inr (0, [.ref (u2 0), .ref (u4 0), .ref (u6 0), .null, .int 0, .int 0, .int 0, .int 0, .int 0, .int 0, .int 0, .int 0, .int 0, .int 0, .int 0, .int 0, .int 0, .int 0]))] ++ wG cI (u2 0) (u2 1) (u2 2) (u2 3) (u2 4) (u2 5) Z0 ++ wT cI (u4 0) (u4 1) (u4 2) (Tz 8) ++ wT cI (u6 0) (u6 1) (u6 2) (Tz 4)) := hD
  refine lv_aload_n hx hb dX0_init_40 rfl (lv_at hl 0 rfl) ?_
  refine lv_iconst (v := 3) hx hb dX0_init_41 (by decide) ?_
  refine k_newi (N' := 3) hx hb (hts (.arrayClass .int) (by decide +kernel)) hK hP hD hS hA (by decide) rfl (by decide) (Nat.le_of_ble_eq_true rfl) (Nat.le_of_ble_eq_true rfl) dX0_init_42 (fun a7 H hP hD hS => ?_)
  have hP : va_P G vwCl ([(k0, .inr (0, [.ref (u2 0), .ref (u4 0), .ref (u6 0), .null, .int 0, .int 0, .int 0, .int 0, .int 0, .int 0, .int 0, .int 0, .int 0, .int 0, .int 0, .int 0, .int 0, .int 0]))] ++ wG cI (u2 0) (u2 1) (u2 2) (u2 3) (u2 4) (u2 5) Z0 ++ wT cI (u4 0) (u4 1) (u4 2) (Tz 8) ++ wT cI (u6 0) (u6 1) (u6 2) (Tz 4) ++ [(a7, .inl (cI, 3, .inl (fun _ => 0)))]) H := hP
  have hD : va_D A ([(k0, .inr (0, [.ref (u2 0), .ref (u4 0), .ref (u6 0), .null, .int 0, .int 0, .int 0, .int 0, .int 0, .int 0, .int 0, .int 0, .int 0, .int 0, .int 0, .int 0, .int 0, .int 0]))] ++ wG cI (u2 0) (u2 1) (u2 2) (u2 3) (u2 4) (u2 5) Z0 ++ wT cI (u4 0) (u4 1) (u4 2) (Tz 8) ++ wT cI (u6 0) (u6 1) (u6 2) (Tz 4) ++ [(a7, .inl (cI, 3, .inl (fun _ => 0)))]) := hD
  refine W.cs (cells' := 13) (slots' := 89) rfl rfl ?_
  refine va_putF (D := G) (ci := 0) (v := .ref a7) (ty := .array .int) (C := RX0) (T := TX0) (N := 18) hx hb hts hinX0 tyX0 tyX0_ok nmX0 hown hK hP hD hS 0 rfl rfl 3 (by decide) hL30 (fun _ h9 => h9) rfl hin rfl (by decide +kernel) rfl rfl (Nat.le_of_ble_eq_true rfl) dX0_init_44 (fun H locs hP hD hS => ?_)
  have hP : va_P G vwCl ([(k0, .inr (0, [.ref (u2 0), .ref (u4 0), .ref (u6 0), .ref a7, .int 0, .int 0, .int 0, .int 0, .int 0, .int 0, .int 0, .int 0, .int 0, .int 0, .int 0, .int 0, .int 0, .int 0]))] ++ wG cI (u2 0) (u2 1) (u2 2) (u2 3) (u2 4) (u2 5) Z0 ++ wT cI (u4 0) (u4 1) (u4 2) (Tz 8) ++ wT cI (u6 0) (u6 1) (u6 2) (Tz 4) ++ [(a7, .inl (cI, 3, .inl (fun _ => 0)))]) H := hP
  have hD : va_D A ([(k0, .inr (0, [.ref (u2 0), .ref (u4 0), .ref (u6 0), .ref a7, .int 0, .int 0, .int 0, .int 0, .int 0, .int 0, .int 0, .int 0, .int 0, .int 0, .int 0, .int 0, .int 0, .int 0]))] ++ wG cI (u2 0) (u2 1) (u2 2) (u2 3) (u2 4) (u2 5) Z0 ++ wT cI (u4 0) (u4 1) (u4 2) (Tz 8) ++ wT cI (u6 0) (u6 1) (u6 2) (Tz 4) ++ [(a7, .inl (cI, 3, .inl (fun _ => 0)))]) := hD
  refine lv_aload_n hx hb dX0_init_47 rfl (lv_at hl 0 rfl) ?_
  refine lv_sipush (v := 2000) hx hb dX0_init_48 (by decide) ?_
  refine va_put (D := G) (ci := 0) (v := .int 2000) (ty := .int) (C := RX0) (T := TX0) (N := 18) hx hb hts hinX0 tyX0 tyX0_ok nmX0 hown hK hP hD hS 0 rfl rfl 4 (by decide) hL34 (fun _ h9 => h9) rfl (by decide +kernel) rfl rfl (Nat.le_of_ble_eq_true rfl) dX0_init_51 (fun H locs hP hD hS => ?_)
  have hP : va_P G vwCl ([(k0, .inr (0, [.ref (u2 0), .ref (u4 0), .ref (u6 0), .ref a7, .int 2000, .int 0, .int 0, .int 0, .int 0, .int 0, .int 0, .int 0, .int 0, .int 0, .int 0, .int 0, .int 0, .int 0]))] ++ wG cI (u2 0) (u2 1) (u2 2) (u2 3) (u2 4) (u2 5) Z0 ++ wT cI (u4 0) (u4 1) (u4 2) (Tz 8) ++ wT cI (u6 0) (u6 1) (u6 2) (Tz 4) ++ [(a7, .inl (cI, 3, .inl (fun _ => 0)))]) H := hP
  have hD : va_D A ([(k0, .inr (0, [.ref (u2 0), .ref (u4 0), .ref (u6 0), .ref a7, .int 2000, .int 0, .int 0, .int 0, .int 0, .int 0, .int 0, .int 0, .int 0, .int 0, .int 0, .int 0, .int 0, .int 0]))] ++ wG cI (u2 0) (u2 1) (u2 2) (u2 3) (u2 4) (u2 5) Z0 ++ wT cI (u4 0) (u4 1) (u4 2) (Tz 8) ++ wT cI (u6 0) (u6 1) (u6 2) (Tz 4) ++ [(a7, .inl (cI, 3, .inl (fun _ => 0)))]) := hD
  refine lv_aload_n hx hb dX0_init_54 rfl (lv_at hl 0 rfl) ?_
  refine lv_iconst (v := (-1)) hx hb dX0_init_55 (by decide) ?_
  refine va_put (D := G) (ci := 0) (v := .int (-1)) (ty := .int) (C := RX0) (T := TX0) (N := 18) hx hb hts hinX0 tyX0 tyX0_ok nmX0 hown hK hP hD hS 0 rfl rfl 13 (by decide) hL38 (fun _ h9 => h9) rfl (by decide +kernel) rfl rfl (Nat.le_of_ble_eq_true rfl) dX0_init_56 (fun H locs hP hD hS => ?_)
  have hP : va_P G vwCl ([(k0, .inr (0, [.ref (u2 0), .ref (u4 0), .ref (u6 0), .ref a7, .int 2000, .int 0, .int 0, .int 0, .int 0, .int 0, .int 0, .int 0, .int 0, .int (-1), .int 0, .int 0, .int 0, .int 0]))] ++ wG cI (u2 0) (u2 1) (u2 2) (u2 3) (u2 4) (u2 5) Z0 ++ wT cI (u4 0) (u4 1) (u4 2) (Tz 8) ++ wT cI (u6 0) (u6 1) (u6 2) (Tz 4) ++ [(a7, .inl (cI, 3, .inl (fun _ => 0)))]) H := hP
  have hD : va_D A ([(k0, .inr (0, [.ref (u2 0), .ref (u4 0), .ref (u6 0), .ref a7, .int 2000, .int 0, .int 0, .int 0, .int 0, .int 0, .int 0, .int 0, .int 0, .int (-1), .int 0, .int 0, .int 0, .int 0]))] ++ wG cI (u2 0) (u2 1) (u2 2) (u2 3) (u2 4) (u2 5) Z0 ++ wT cI (u4 0) (u4 1) (u4 2) (Tz 8) ++ wT cI (u6 0) (u6 1) (u6 2) (Tz 4) ++ [(a7, .inl (cI, 3, .inl (fun _ => 0)))]) := hD
  refine lv_aload_n hx hb dX0_init_59 rfl (lv_at hl 0 rfl) ?_
  refine va_get (D := G) (ci := 0) (v := .ref a7) (C := RX0) (T := TX0) (N := 18) hx hb hts hinX0 hown hK hP 0 rfl rfl 3 (by decide) hL30 (fun _ h9 => h9) rfl dX0_init_60 ?_
  refine lv_iconst (v := 0) hx hb dX0_init_63 (by decide) ?_
  refine lv_sipush (v := 8000) hx hb dX0_init_64 (by decide) ?_
  refine k_ast (f := (fun _ => 0)) (j := 0) (ws' := ([(k0, .inr (0, [.ref (u2 0), .ref (u4 0), .ref (u6 0), .ref a7, .int 2000, .int 0, .int 0, .int 0, .int 0, .int 0, .int 0, .int 0, .int 0, .int (-1), .int 0, .int 0, .int 0, .int 0]))] ++ wG cI (u2 0) (u2 1) (u2 2) (u2 3) (u2 4) (u2 5) Z0 ++ wT cI (u4 0) (u4 1) (u4 2) (Tz 8) ++ wT cI (u6 0) (u6 1) (u6 2) (Tz 4) ++ [(a7, .inl (cI, 3, .inl (upd (fun _ => 0) 0 8000)))])) hx hb hK hP hD hS 13 0 rfl rfl (show ¬ ((0 : Int32) < 0 ∨ 3 ≤ (0 : Int32).toNatClampNeg) by decide) rfl dX0_init_67 rfl (fun H locs hP hD hS => ?_)
  refine lv_aload_n hx hb dX0_init_68 rfl (lv_at hl 0 rfl) ?_
  refine va_get (D := G) (ci := 0) (v := .ref a7) (C := RX0) (T := TX0) (N := 18) hx hb hts hinX0 hown hK hP 0 rfl rfl 3 (by decide) hL30 (fun _ h9 => h9) rfl dX0_init_69 ?_
  refine lv_iconst (v := 1) hx hb dX0_init_72 (by decide) ?_
  refine lv_sipush (v := 6000) hx hb dX0_init_73 (by decide) ?_
  refine k_ast (f := (upd (fun _ => 0) 0 8000)) (j := 1) (ws' := ([(k0, .inr (0, [.ref (u2 0), .ref (u4 0), .ref (u6 0), .ref a7, .int 2000, .int 0, .int 0, .int 0, .int 0, .int 0, .int 0, .int 0, .int 0, .int (-1), .int 0, .int 0, .int 0, .int 0]))] ++ wG cI (u2 0) (u2 1) (u2 2) (u2 3) (u2 4) (u2 5) Z0 ++ wT cI (u4 0) (u4 1) (u4 2) (Tz 8) ++ wT cI (u6 0) (u6 1) (u6 2) (Tz 4) ++ [(a7, .inl (cI, 3, .inl (upd (upd (fun _ => 0) 0 8000) 1 6000)))])) hx hb hK hP hD hS 13 0 rfl rfl (show ¬ ((1 : Int32) < 0 ∨ 3 ≤ (1 : Int32).toNatClampNeg) by decide) rfl dX0_init_76 rfl (fun H locs hP hD hS => ?_)
  refine lv_aload_n hx hb dX0_init_77 rfl (lv_at hl 0 rfl) ?_
  refine va_get (D := G) (ci := 0) (v := .ref a7) (C := RX0) (T := TX0) (N := 18) hx hb hts hinX0 hown hK hP 0 rfl rfl 3 (by decide) hL30 (fun _ h9 => h9) rfl dX0_init_78 ?_
  refine lv_iconst (v := 2) hx hb dX0_init_81 (by decide) ?_
  refine lv_iconst (v := 0) hx hb dX0_init_82 (by decide) ?_
  refine k_ast (f := (upd (upd (fun _ => 0) 0 8000) 1 6000)) (j := 2) (ws' := ([(k0, .inr (0, [.ref (u2 0), .ref (u4 0), .ref (u6 0), .ref a7, .int 2000, .int 0, .int 0, .int 0, .int 0, .int 0, .int 0, .int 0, .int 0, .int (-1), .int 0, .int 0, .int 0, .int 0]))] ++ wG cI (u2 0) (u2 1) (u2 2) (u2 3) (u2 4) (u2 5) Z0 ++ wT cI (u4 0) (u4 1) (u4 2) (Tz 8) ++ wT cI (u6 0) (u6 1) (u6 2) (Tz 4) ++ [(a7, .inl (cI, 3, .inl (upd (upd (upd (fun _ => 0) 0 8000) 1 6000) 2 0)))])) hx hb hK hP hD hS 13 0 rfl rfl (show ¬ ((2 : Int32) < 0 ∨ 3 ≤ (2 : Int32).toNatClampNeg) by decide) rfl dX0_init_83 rfl (fun H locs hP hD hS => ?_)
  have hP : va_P G vwCl ((fun u : Nat → Nat => (wD cI u D0)) (fun i => cond (Nat.beq i 0) k0 ((fun i => cond (Nat.beq i 1) (u2 0) ((fun i => cond (Nat.beq i 2) (u2 1) ((fun i => cond (Nat.beq i 3) (u2 2) ((fun i => cond (Nat.beq i 4) (u2 3) ((fun i => cond (Nat.beq i 5) (u2 4) ((fun i => cond (Nat.beq i 6) (u2 5) ((fun i => cond (Nat.beq i 7) (u4 0) ((fun i => cond (Nat.beq i 8) (u4 1) ((fun i => cond (Nat.beq i 9) (u4 2) ((fun i => cond (Nat.beq i 10) (u6 0) ((fun i => cond (Nat.beq i 11) (u6 1) ((fun i => cond (Nat.beq i 12) (u6 2) ((fun i => cond (Nat.beq i 13) a7 ((fun _ => 0) i)) i)) i)) i)) i)) i)) i)) i)) i)) i)) i)) i)) i)) i))) H := hP
  have hD : va_D A ((fun u : Nat → Nat => (wD cI u D0)) (fun i => cond (Nat.beq i 0) k0 ((fun i => cond (Nat.beq i 1) (u2 0) ((fun i => cond (Nat.beq i 2) (u2 1) ((fun i => cond (Nat.beq i 3) (u2 2) ((fun i => cond (Nat.beq i 4) (u2 3) ((fun i => cond (Nat.beq i 5) (u2 4) ((fun i => cond (Nat.beq i 6) (u2 5) ((fun i => cond (Nat.beq i 7) (u4 0) ((fun i => cond (Nat.beq i 8) (u4 1) ((fun i => cond (Nat.beq i 9) (u4 2) ((fun i => cond (Nat.beq i 10) (u6 0) ((fun i => cond (Nat.beq i 11) (u6 1) ((fun i => cond (Nat.beq i 12) (u6 2) ((fun i => cond (Nat.beq i 13) a7 ((fun _ => 0) i)) i)) i)) i)) i)) i)) i)) i)) i)) i)) i)) i)) i)) i))) := hD
  exact W.vret hx hb hr (fun t ht hW => ⟨⟨(fun i => cond (Nat.beq i 0) k0 ((fun i => cond (Nat.beq i 1) (u2 0) ((fun i => cond (Nat.beq i 2) (u2 1) ((fun i => cond (Nat.beq i 3) (u2 2) ((fun i => cond (Nat.beq i 4) (u2 3) ((fun i => cond (Nat.beq i 5) (u2 4) ((fun i => cond (Nat.beq i 6) (u2 5) ((fun i => cond (Nat.beq i 7) (u4 0) ((fun i => cond (Nat.beq i 8) (u4 1) ((fun i => cond (Nat.beq i 9) (u4 2) ((fun i => cond (Nat.beq i 10) (u6 0) ((fun i => cond (Nat.beq i 11) (u6 1) ((fun i => cond (Nat.beq i 12) (u6 2) ((fun i => cond (Nat.beq i 13) a7 ((fun _ => 0) i)) i)) i)) i)) i)) i)) i)) i)) i)) i)) i)) i)) i)) i)), rfl, rfl, by rw [ht]; exact hP, hD⟩, hS.F ht⟩) hS.2.2 dX0_init_84
set_option maxHeartbeats 4000000 in
set_option maxRecDepth 100000 in
theorem c_X3_init (l : Launch) (G : va_G) (cI cC cD : ClassId) (k0 : Nat) (sz : Nat) : Met l yX3_init wsX3_init ({ frames := 1, cells := 1, slots := 60, locals := 12 }) (va_Pc [.ref k0] (PO G (ty3 cI cC cD) [(k0, .inr (3, [.null, .int 0, .int 0, .int 0, .int 0, .int 0, .int 0, .int 0]))] sz)) (va_Qv (fun u : Nat → Nat => u 0 = k0) (BW G (fun u : Nat → Nat => (wS cC (u 0) (u 1) Z0)) (va_A [(k0, .inr (3, [.null, .int 0, .int 0, .int 0, .int 0, .int 0, .int 0, .int 0]))] sz)) (va_A [(k0, .inr (3, [.null, .int 0, .int 0, .int 0, .int 0, .int 0, .int 0, .int 0]))] sz)) 1 60 (va_A [(k0, .inr (3, [.null, .int 0, .int 0, .int 0, .int 0, .int 0, .int 0, .int 0]))] sz) := by
  refine Met.ofW (cc := cX3_init) (maxL := 1) (ret := none) (by decide) rfl ?_
  intro p e s m args below meth c s₁ B hml hv
  obtain ⟨rfl, ⟨hsz, hP, hK, hD0, hN⟩, hO⟩ := hv
  have hx := B.exec
  have hb := B.bytes
  have hr := B.returns
  have hts := atoms_spec (ws := wsX3_init) B.pre
  have hown : s.vm.findClass RX3 = some m.cls := findClass_of_methodNamed B.named
  have hlocks := B.notSynchronized
  have hin : meth.name = "<init>" := (name_of_methodNamed B.named B.method).1
  subst hsz
  have hD := hD0.self (sz := s.heap.size)
  generalize hAe : va_A [(k0, .inr (3, [.null, .int 0, .int 0, .int 0, .int 0, .int 0, .int 0, .int 0]))] s.heap.size = A at hD ⊢
  have hA : ∀ q : Nat, s.heap.size ≤ q → A q := fun q h => by rw [← hAe]; exact Or.inr h
  have hS : va_S A s.heap s.heap [] := va_S.rf
  have hl := lv_entry ([.ref k0]) (n := 1) (Nat.le_of_ble_eq_true rfl)
  rw [lg_entry_eq]
  generalize (lg_sl ([.ref k0]) ++ List.replicate (1 - (lg_sl ([.ref k0])).length) Slot.unset).toArray = ls at hl ⊢
  have hl : lv_has ls 1 [(0, .ref k0)] := hl
  have hinX3 : ∀ w ∈ wsX30, w ∈ wsX3_init := by decide +kernel
  have hL9 := hts (.fieldLink RX3 9 "CraneGates$Script" "signs" "[C") (by decide +kernel)
  refine lv_aload_n hx hb dX3_init_0 rfl (lv_at hl 0 rfl) ?_
  refine W.objInit hx hb hown (hts (.methodLink RX3 3 objectInit) (by decide +kernel)) (hts (.instanceMethod objectInit) (by decide +kernel)) (hts (.code objectInit ⟨#[0xb1]⟩ 1 none) (by decide +kernel)) rfl (by rw [hml]; exact hl.1) rfl dX3_init_1 (Nat.le_of_ble_eq_true rfl) (Nat.le_of_ble_eq_true rfl) ?_
  refine W.eq (g2 := F0 m 4 ls []) rfl ?_
  refine lv_aload_n hx hb dX3_init_4 rfl (lv_at hl 0 rfl) ?_
  refine lv_bipush (v := 60) hx hb dX3_init_5 (by decide) ?_
  refine k_newc (N' := 60) hx hb (hts (.arrayClass .char) (by decide +kernel)) hK hP hD hS hA (by decide) rfl (by decide) (Nat.le_of_ble_eq_true rfl) (Nat.le_of_ble_eq_true rfl) dX3_init_7 (fun a1 H hP hD hS => ?_)
  have hP : va_P G vwCl ([(k0, .inr (3, [.null, .int 0, .int 0, .int 0, .int 0, .int 0, .int 0, .int 0])), (a1, .inl (cC, 60, .inl (fun _ => 0)))]) H := hP
  have hD : va_D A ([(k0, .inr (3, [.null, .int 0, .int 0, .int 0, .int 0, .int 0, .int 0, .int 0])), (a1, .inl (cC, 60, .inl (fun _ => 0)))]) := hD
  refine W.cs (cells' := 1) (slots' := 60) rfl rfl ?_
  refine va_putF (D := G) (ci := 3) (v := .ref a1) (ty := .array .char) (C := RX3) (T := TX3) (N := 8) hx hb hts hinX3 tyX3 tyX3_ok nmX3 hown hK hP hD hS 0 rfl rfl 0 (by decide) hL9 (fun _ h9 => h9) rfl hin rfl (by decide +kernel) rfl rfl (Nat.le_of_ble_eq_true rfl) dX3_init_9 (fun H locs hP hD hS => ?_)
  have hP : va_P G vwCl ([(k0, .inr (3, [.ref a1, .int 0, .int 0, .int 0, .int 0, .int 0, .int 0, .int 0])), (a1, .inl (cC, 60, .inl (fun _ => 0)))]) H := hP
  have hD : va_D A ([(k0, .inr (3, [.ref a1, .int 0, .int 0, .int 0, .int 0, .int 0, .int 0, .int 0])), (a1, .inl (cC, 60, .inl (fun _ => 0)))]) := hD
  have hP : va_P G vwCl ((fun u : Nat → Nat => (wS cC (u 0) (u 1) Z0)) (fun i => cond (Nat.beq i 0) k0 ((fun i => cond (Nat.beq i 1) a1 ((fun _ => 0) i)) i))) H := hP
  have hD : va_D A ((fun u : Nat → Nat => (wS cC (u 0) (u 1) Z0)) (fun i => cond (Nat.beq i 0) k0 ((fun i => cond (Nat.beq i 1) a1 ((fun _ => 0) i)) i))) := hD
  exact W.vret hx hb hr (fun t ht hW => ⟨⟨(fun i => cond (Nat.beq i 0) k0 ((fun i => cond (Nat.beq i 1) a1 ((fun _ => 0) i)) i)), rfl, rfl, by rw [ht]; exact hP, hD⟩, hS.F ht⟩) hS.2.2 dX3_init_12
set_option maxHeartbeats 4000000 in
set_option maxRecDepth 100000 in
theorem c_X6_init (l : Launch) (G : va_G) (cI cC cD : ClassId) (k0 : Nat) (sz : Nat) : Met l yX6_init wsX6_init ({ frames := 1, cells := 6, slots := 664, locals := 12 }) (va_Pc [.ref k0] (PO G (ty3 cI cC cD) [(k0, .inr (6, [.null, .null, .null, .null, .int 0, .int 0, .null, .int 0, .int 0, .int 0, .null]))] sz)) (va_Qv (fun u : Nat → Nat => u 0 = k0) (BW G (fun u : Nat → Nat => (wM cI u M0)) (va_A [(k0, .inr (6, [.null, .null, .null, .null, .int 0, .int 0, .null, .int 0, .int 0, .int 0, .null]))] sz)) (va_A [(k0, .inr (6, [.null, .null, .null, .null, .int 0, .int 0, .null, .int 0, .int 0, .int 0, .null]))] sz)) 6 664 (va_A [(k0, .inr (6, [.null, .null, .null, .null, .int 0, .int 0, .null, .int 0, .int 0, .int 0, .null]))] sz) := by
  refine Met.ofW (cc := cX6_init) (maxL := 1) (ret := none) (by decide) rfl ?_
  intro p e s m args below meth c s₁ B hml hv
  obtain ⟨rfl, ⟨hsz, hP, hK, hD0, hN⟩, hO⟩ := hv
  have hx := B.exec
  have hb := B.bytes
  have hr := B.returns
  have hts := atoms_spec (ws := wsX6_init) B.pre
  have hown : s.vm.findClass RX6 = some m.cls := findClass_of_methodNamed B.named
  have hlocks := B.notSynchronized
  have hin : meth.name = "<init>" := (name_of_methodNamed B.named B.method).1
  subst hsz
  have hD := hD0.self (sz := s.heap.size)
  generalize hAe : va_A [(k0, .inr (6, [.null, .null, .null, .null, .int 0, .int 0, .null, .int 0, .int 0, .int 0, .null]))] s.heap.size = A at hD ⊢
  have hA : ∀ q : Nat, s.heap.size ≤ q → A q := fun q h => by rw [← hAe]; exact Or.inr h
  have hS : va_S A s.heap s.heap [] := va_S.rf
  have hl := lv_entry ([.ref k0]) (n := 1) (Nat.le_of_ble_eq_true rfl)
  rw [lg_entry_eq]
  generalize (lg_sl ([.ref k0]) ++ List.replicate (1 - (lg_sl ([.ref k0])).length) Slot.unset).toArray = ls at hl ⊢
  have hl : lv_has ls 1 [(0, .ref k0)] := hl
  have hinX6 : ∀ w ∈ wsX60, w ∈ wsX6_init := by decide +kernel
  have hL7 := hts (.fieldLink RX6 7 "CraneGatesModel" "s" "[I") (by decide +kernel)
  have hL13 := hts (.fieldLink RX6 13 "CraneGatesModel" "past" "[I") (by decide +kernel)
  have hL16 := hts (.fieldLink RX6 16 "CraneGatesModel" "held" "[I") (by decide +kernel)
  have hL19 := hts (.fieldLink RX6 19 "CraneGatesModel" "tried" "[I") (by decide +kernel)
  have hL22 := hts (.fieldLink RX6 22 "CraneGatesModel" "text" "[I") (by decide +kernel)
  have hL25 := hts (.fieldLink RX6 25 "CraneGatesModel" "told" "[I") (by decide +kernel)
  refine lv_aload_n hx hb dX6_init_0 rfl (lv_at hl 0 rfl) ?_
  refine W.objInit hx hb hown (hts (.methodLink RX6 1 objectInit) (by decide +kernel)) (hts (.instanceMethod objectInit) (by decide +kernel)) (hts (.code objectInit ⟨#[0xb1]⟩ 1 none) (by decide +kernel)) rfl (by rw [hml]; exact hl.1) rfl dX6_init_1 (Nat.le_of_ble_eq_true rfl) (Nat.le_of_ble_eq_true rfl) ?_
  refine W.eq (g2 := F0 m 4 ls []) rfl ?_
  refine lv_aload_n hx hb dX6_init_4 rfl (lv_at hl 0 rfl) ?_
  refine lv_bipush (v := 86) hx hb dX6_init_5 (by decide) ?_
  refine k_newi (N' := 86) hx hb (hts (.arrayClass .int) (by decide +kernel)) hK hP hD hS hA (by decide) rfl (by decide) (Nat.le_of_ble_eq_true rfl) (Nat.le_of_ble_eq_true rfl) dX6_init_7 (fun a1 H hP hD hS => ?_)
  have hP : va_P G vwCl ([(k0, .inr (6, [.null, .null, .null, .null, .int 0, .int 0, .null, .int 0, .int 0, .int 0, .null])), (a1, .inl (cI, 86, .inl (fun _ => 0)))]) H := hP
  have hD : va_D A ([(k0, .inr (6, [.null, .null, .null, .null, .int 0, .int 0, .null, .int 0, .int 0, .int 0, .null])), (a1, .inl (cI, 86, .inl (fun _ => 0)))]) := hD
  refine W.cs (cells' := 1) (slots' := 86) rfl rfl ?_
  refine va_putF (D := G) (ci := 6) (v := .ref a1) (ty := .array .int) (C := RX6) (T := TX6) (N := 11) hx hb hts hinX6 tyX6 tyX6_ok nmX6 hown hK hP hD hS 0 rfl rfl 0 (by decide) hL7 (fun _ h9 => h9) rfl hin rfl (by decide +kernel) rfl rfl (Nat.le_of_ble_eq_true rfl) dX6_init_9 (fun H locs hP hD hS => ?_)
  have hP : va_P G vwCl ([(k0, .inr (6, [.ref a1, .null, .null, .null, .int 0, .int 0, .null, .int 0, .int 0, .int 0, .null])), (a1, .inl (cI, 86, .inl (fun _ => 0)))]) H := hP
  have hD : va_D A ([(k0, .inr (6, [.ref a1, .null, .null, .null, .int 0, .int 0, .null, .int 0, .int 0, .int 0, .null])), (a1, .inl (cI, 86, .inl (fun _ => 0)))]) := hD
  refine lv_aload_n hx hb dX6_init_12 rfl (lv_at hl 0 rfl) ?_
  refine lv_sipush (v := 344) hx hb dX6_init_13 (by decide) ?_
  refine k_newi (N' := 344) hx hb (hts (.arrayClass .int) (by decide +kernel)) hK hP hD hS hA (by decide) rfl (by decide) (Nat.le_of_ble_eq_true rfl) (Nat.le_of_ble_eq_true rfl) dX6_init_16 (fun a2 H hP hD hS => ?_)
  have hP : va_P G vwCl ([(k0, .inr (6, [.ref a1, .null, .null, .null, .int 0, .int 0, .null, .int 0, .int 0, .int 0, .null])), (a1, .inl (cI, 86, .inl (fun _ => 0))), (a2, .inl (cI, 344, .inl (fun _ => 0)))]) H := hP
  have hD : va_D A ([(k0, .inr (6, [.ref a1, .null, .null, .null, .int 0, .int 0, .null, .int 0, .int 0, .int 0, .null])), (a1, .inl (cI, 86, .inl (fun _ => 0))), (a2, .inl (cI, 344, .inl (fun _ => 0)))]) := hD
  refine W.cs (cells' := 2) (slots' := 430) rfl rfl ?_
  refine va_putF (D := G) (ci := 6) (v := .ref a2) (ty := .array .int) (C := RX6) (T := TX6) (N := 11) hx hb hts hinX6 tyX6 tyX6_ok nmX6 hown hK hP hD hS 0 rfl rfl 1 (by decide) hL13 (fun _ h9 => h9) rfl hin rfl (by decide +kernel) rfl rfl (Nat.le_of_ble_eq_true rfl) dX6_init_18 (fun H locs hP hD hS => ?_)
  have hP : va_P G vwCl ([(k0, .inr (6, [.ref a1, .ref a2, .null, .null, .int 0, .int 0, .null, .int 0, .int 0, .int 0, .null])), (a1, .inl (cI, 86, .inl (fun _ => 0))), (a2, .inl (cI, 344, .inl (fun _ => 0)))]) H := hP
  have hD : va_D A ([(k0, .inr (6, [.ref a1, .ref a2, .null, .null, .int 0, .int 0, .null, .int 0, .int 0, .int 0, .null])), (a1, .inl (cI, 86, .inl (fun _ => 0))), (a2, .inl (cI, 344, .inl (fun _ => 0)))]) := hD
  refine lv_aload_n hx hb dX6_init_21 rfl (lv_at hl 0 rfl) ?_
  refine lv_bipush (v := 86) hx hb dX6_init_22 (by decide) ?_
  refine k_newi (N' := 86) hx hb (hts (.arrayClass .int) (by decide +kernel)) hK hP hD hS hA (by decide) rfl (by decide) (Nat.le_of_ble_eq_true rfl) (Nat.le_of_ble_eq_true rfl) dX6_init_24 (fun a3 H hP hD hS => ?_)
  have hP : va_P G vwCl ([(k0, .inr (6, [.ref a1, .ref a2, .null, .null, .int 0, .int 0, .null, .int 0, .int 0, .int 0, .null])), (a1, .inl (cI, 86, .inl (fun _ => 0))), (a2, .inl (cI, 344, .inl (fun _ => 0))), (a3, .inl (cI, 86, .inl (fun _ => 0)))]) H := hP
  have hD : va_D A ([(k0, .inr (6, [.ref a1, .ref a2, .null, .null, .int 0, .int 0, .null, .int 0, .int 0, .int 0, .null])), (a1, .inl (cI, 86, .inl (fun _ => 0))), (a2, .inl (cI, 344, .inl (fun _ => 0))), (a3, .inl (cI, 86, .inl (fun _ => 0)))]) := hD
  refine W.cs (cells' := 3) (slots' := 516) rfl rfl ?_
  refine va_putF (D := G) (ci := 6) (v := .ref a3) (ty := .array .int) (C := RX6) (T := TX6) (N := 11) hx hb hts hinX6 tyX6 tyX6_ok nmX6 hown hK hP hD hS 0 rfl rfl 2 (by decide) hL16 (fun _ h9 => h9) rfl hin rfl (by decide +kernel) rfl rfl (Nat.le_of_ble_eq_true rfl) dX6_init_26 (fun H locs hP hD hS => ?_)
  have hP : va_P G vwCl ([(k0, .inr (6, [.ref a1, .ref a2, .ref a3, .null, .int 0, .int 0, .null, .int 0, .int 0, .int 0, .null])), (a1, .inl (cI, 86, .inl (fun _ => 0))), (a2, .inl (cI, 344, .inl (fun _ => 0))), (a3, .inl (cI, 86, .inl (fun _ => 0)))]) H := hP
  have hD : va_D A ([(k0, .inr (6, [.ref a1, .ref a2, .ref a3, .null, .int 0, .int 0, .null, .int 0, .int 0, .int 0, .null])), (a1, .inl (cI, 86, .inl (fun _ => 0))), (a2, .inl (cI, 344, .inl (fun _ => 0))), (a3, .inl (cI, 86, .inl (fun _ => 0)))]) := hD
  refine lv_aload_n hx hb dX6_init_29 rfl (lv_at hl 0 rfl) ?_
  refine lv_bipush (v := 86) hx hb dX6_init_30 (by decide) ?_
  refine k_newi (N' := 86) hx hb (hts (.arrayClass .int) (by decide +kernel)) hK hP hD hS hA (by decide) rfl (by decide) (Nat.le_of_ble_eq_true rfl) (Nat.le_of_ble_eq_true rfl) dX6_init_32 (fun a4 H hP hD hS => ?_)
  have hP : va_P G vwCl ([(k0, .inr (6, [.ref a1, .ref a2, .ref a3, .null, .int 0, .int 0, .null, .int 0, .int 0, .int 0, .null])), (a1, .inl (cI, 86, .inl (fun _ => 0))), (a2, .inl (cI, 344, .inl (fun _ => 0))), (a3, .inl (cI, 86, .inl (fun _ => 0))), (a4, .inl (cI, 86, .inl (fun _ => 0)))]) H := hP
  have hD : va_D A ([(k0, .inr (6, [.ref a1, .ref a2, .ref a3, .null, .int 0, .int 0, .null, .int 0, .int 0, .int 0, .null])), (a1, .inl (cI, 86, .inl (fun _ => 0))), (a2, .inl (cI, 344, .inl (fun _ => 0))), (a3, .inl (cI, 86, .inl (fun _ => 0))), (a4, .inl (cI, 86, .inl (fun _ => 0)))]) := hD
  refine W.cs (cells' := 4) (slots' := 602) rfl rfl ?_
  refine va_putF (D := G) (ci := 6) (v := .ref a4) (ty := .array .int) (C := RX6) (T := TX6) (N := 11) hx hb hts hinX6 tyX6 tyX6_ok nmX6 hown hK hP hD hS 0 rfl rfl 3 (by decide) hL19 (fun _ h9 => h9) rfl hin rfl (by decide +kernel) rfl rfl (Nat.le_of_ble_eq_true rfl) dX6_init_34 (fun H locs hP hD hS => ?_)
  have hP : va_P G vwCl ([(k0, .inr (6, [.ref a1, .ref a2, .ref a3, .ref a4, .int 0, .int 0, .null, .int 0, .int 0, .int 0, .null])), (a1, .inl (cI, 86, .inl (fun _ => 0))), (a2, .inl (cI, 344, .inl (fun _ => 0))), (a3, .inl (cI, 86, .inl (fun _ => 0))), (a4, .inl (cI, 86, .inl (fun _ => 0)))]) H := hP
  have hD : va_D A ([(k0, .inr (6, [.ref a1, .ref a2, .ref a3, .ref a4, .int 0, .int 0, .null, .int 0, .int 0, .int 0, .null])), (a1, .inl (cI, 86, .inl (fun _ => 0))), (a2, .inl (cI, 344, .inl (fun _ => 0))), (a3, .inl (cI, 86, .inl (fun _ => 0))), (a4, .inl (cI, 86, .inl (fun _ => 0)))]) := hD
  refine lv_aload_n hx hb dX6_init_37 rfl (lv_at hl 0 rfl) ?_
  refine lv_bipush (v := 60) hx hb dX6_init_38 (by decide) ?_
  refine k_newi (N' := 60) hx hb (hts (.arrayClass .int) (by decide +kernel)) hK hP hD hS hA (by decide) rfl (by decide) (Nat.le_of_ble_eq_true rfl) (Nat.le_of_ble_eq_true rfl) dX6_init_40 (fun a5 H hP hD hS => ?_)
  have hP : va_P G vwCl ([(k0, .inr (6, [.ref a1, .ref a2, .ref a3, .ref a4, .int 0, .int 0, .null, .int 0, .int 0, .int 0, .null])), (a1, .inl (cI, 86, .inl (fun _ => 0))), (a2, .inl (cI, 344, .inl (fun _ => 0))), (a3, .inl (cI, 86, .inl (fun _ => 0))), (a4, .inl (cI, 86, .inl (fun _ => 0))), (a5, .inl (cI, 60, .inl (fun _ => 0)))]) H := hP
  have hD : va_D A ([(k0, .inr (6, [.ref a1, .ref a2, .ref a3, .ref a4, .int 0, .int 0, .null, .int 0, .int 0, .int 0, .null])), (a1, .inl (cI, 86, .inl (fun _ => 0))), (a2, .inl (cI, 344, .inl (fun _ => 0))), (a3, .inl (cI, 86, .inl (fun _ => 0))), (a4, .inl (cI, 86, .inl (fun _ => 0))), (a5, .inl (cI, 60, .inl (fun _ => 0)))]) := hD
  refine W.cs (cells' := 5) (slots' := 662) rfl rfl ?_
  refine va_putF (D := G) (ci := 6) (v := .ref a5) (ty := .array .int) (C := RX6) (T := TX6) (N := 11) hx hb hts hinX6 tyX6 tyX6_ok nmX6 hown hK hP hD hS 0 rfl rfl 6 (by decide) hL22 (fun _ h9 => h9) rfl hin rfl (by decide +kernel) rfl rfl (Nat.le_of_ble_eq_true rfl) dX6_init_42 (fun H locs hP hD hS => ?_)
  have hP : va_P G vwCl ([(k0, .inr (6, [.ref a1, .ref a2, .ref a3, .ref a4, .int 0, .int 0, .ref a5, .int 0, .int 0, .int 0, .null])), (a1, .inl (cI, 86, .inl (fun _ => 0))), (a2, .inl (cI, 344, .inl (fun _ => 0))), (a3, .inl (cI, 86, .inl (fun _ => 0))), (a4, .inl (cI, 86, .inl (fun _ => 0))), (a5, .inl (cI, 60, .inl (fun _ => 0)))]) H := hP
  have hD : va_D A ([(k0, .inr (6, [.ref a1, .ref a2, .ref a3, .ref a4, .int 0, .int 0, .ref a5, .int 0, .int 0, .int 0, .null])), (a1, .inl (cI, 86, .inl (fun _ => 0))), (a2, .inl (cI, 344, .inl (fun _ => 0))), (a3, .inl (cI, 86, .inl (fun _ => 0))), (a4, .inl (cI, 86, .inl (fun _ => 0))), (a5, .inl (cI, 60, .inl (fun _ => 0)))]) := hD
  refine lv_aload_n hx hb dX6_init_45 rfl (lv_at hl 0 rfl) ?_
  refine lv_iconst (v := 2) hx hb dX6_init_46 (by decide) ?_
  refine k_newi (N' := 2) hx hb (hts (.arrayClass .int) (by decide +kernel)) hK hP hD hS hA (by decide) rfl (by decide) (Nat.le_of_ble_eq_true rfl) (Nat.le_of_ble_eq_true rfl) dX6_init_47 (fun a6 H hP hD hS => ?_)
  have hP : va_P G vwCl ([(k0, .inr (6, [.ref a1, .ref a2, .ref a3, .ref a4, .int 0, .int 0, .ref a5, .int 0, .int 0, .int 0, .null])), (a1, .inl (cI, 86, .inl (fun _ => 0))), (a2, .inl (cI, 344, .inl (fun _ => 0))), (a3, .inl (cI, 86, .inl (fun _ => 0))), (a4, .inl (cI, 86, .inl (fun _ => 0))), (a5, .inl (cI, 60, .inl (fun _ => 0))), (a6, .inl (cI, 2, .inl (fun _ => 0)))]) H := hP
  have hD : va_D A ([(k0, .inr (6, [.ref a1, .ref a2, .ref a3, .ref a4, .int 0, .int 0, .ref a5, .int 0, .int 0, .int 0, .null])), (a1, .inl (cI, 86, .inl (fun _ => 0))), (a2, .inl (cI, 344, .inl (fun _ => 0))), (a3, .inl (cI, 86, .inl (fun _ => 0))), (a4, .inl (cI, 86, .inl (fun _ => 0))), (a5, .inl (cI, 60, .inl (fun _ => 0))), (a6, .inl (cI, 2, .inl (fun _ => 0)))]) := hD
  refine W.cs (cells' := 6) (slots' := 664) rfl rfl ?_
  refine va_putF (D := G) (ci := 6) (v := .ref a6) (ty := .array .int) (C := RX6) (T := TX6) (N := 11) hx hb hts hinX6 tyX6 tyX6_ok nmX6 hown hK hP hD hS 0 rfl rfl 10 (by decide) hL25 (fun _ h9 => h9) rfl hin rfl (by decide +kernel) rfl rfl (Nat.le_of_ble_eq_true rfl) dX6_init_49 (fun H locs hP hD hS => ?_)
  have hP : va_P G vwCl ([(k0, .inr (6, [.ref a1, .ref a2, .ref a3, .ref a4, .int 0, .int 0, .ref a5, .int 0, .int 0, .int 0, .ref a6])), (a1, .inl (cI, 86, .inl (fun _ => 0))), (a2, .inl (cI, 344, .inl (fun _ => 0))), (a3, .inl (cI, 86, .inl (fun _ => 0))), (a4, .inl (cI, 86, .inl (fun _ => 0))), (a5, .inl (cI, 60, .inl (fun _ => 0))), (a6, .inl (cI, 2, .inl (fun _ => 0)))]) H := hP
  have hD : va_D A ([(k0, .inr (6, [.ref a1, .ref a2, .ref a3, .ref a4, .int 0, .int 0, .ref a5, .int 0, .int 0, .int 0, .ref a6])), (a1, .inl (cI, 86, .inl (fun _ => 0))), (a2, .inl (cI, 344, .inl (fun _ => 0))), (a3, .inl (cI, 86, .inl (fun _ => 0))), (a4, .inl (cI, 86, .inl (fun _ => 0))), (a5, .inl (cI, 60, .inl (fun _ => 0))), (a6, .inl (cI, 2, .inl (fun _ => 0)))]) := hD
  refine lv_aload_n hx hb dX6_init_52 rfl (lv_at hl 0 rfl) ?_
  refine va_get (D := G) (ci := 6) (v := .ref a1) (C := RX6) (T := TX6) (N := 11) hx hb hts hinX6 hown hK hP 0 rfl rfl 0 (by decide) hL7 (fun _ h9 => h9) rfl dX6_init_53 ?_
  refine lv_iconst (v := 0) hx hb dX6_init_56 (by decide) ?_
  refine lv_sipush (v := 8000) hx hb dX6_init_57 (by decide) ?_
  refine k_ast (f := (fun _ => 0)) (j := 0) (ws' := ([(k0, .inr (6, [.ref a1, .ref a2, .ref a3, .ref a4, .int 0, .int 0, .ref a5, .int 0, .int 0, .int 0, .ref a6])), (a1, .inl (cI, 86, .inl (upd (fun _ => 0) 0 8000))), (a2, .inl (cI, 344, .inl (fun _ => 0))), (a3, .inl (cI, 86, .inl (fun _ => 0))), (a4, .inl (cI, 86, .inl (fun _ => 0))), (a5, .inl (cI, 60, .inl (fun _ => 0))), (a6, .inl (cI, 2, .inl (fun _ => 0)))])) hx hb hK hP hD hS 1 0 rfl rfl (show ¬ ((0 : Int32) < 0 ∨ 86 ≤ (0 : Int32).toNatClampNeg) by decide) rfl dX6_init_60 rfl (fun H locs hP hD hS => ?_)
  refine lv_aload_n hx hb dX6_init_61 rfl (lv_at hl 0 rfl) ?_
  refine va_get (D := G) (ci := 6) (v := .ref a1) (C := RX6) (T := TX6) (N := 11) hx hb hts hinX6 hown hK hP 0 rfl rfl 0 (by decide) hL7 (fun _ h9 => h9) rfl dX6_init_62 ?_
  refine lv_iconst (v := 1) hx hb dX6_init_65 (by decide) ?_
  refine lv_sipush (v := 6000) hx hb dX6_init_66 (by decide) ?_
  refine k_ast (f := (upd (fun _ => 0) 0 8000)) (j := 1) (ws' := ([(k0, .inr (6, [.ref a1, .ref a2, .ref a3, .ref a4, .int 0, .int 0, .ref a5, .int 0, .int 0, .int 0, .ref a6])), (a1, .inl (cI, 86, .inl (upd (upd (fun _ => 0) 0 8000) 1 6000))), (a2, .inl (cI, 344, .inl (fun _ => 0))), (a3, .inl (cI, 86, .inl (fun _ => 0))), (a4, .inl (cI, 86, .inl (fun _ => 0))), (a5, .inl (cI, 60, .inl (fun _ => 0))), (a6, .inl (cI, 2, .inl (fun _ => 0)))])) hx hb hK hP hD hS 1 0 rfl rfl (show ¬ ((1 : Int32) < 0 ∨ 86 ≤ (1 : Int32).toNatClampNeg) by decide) rfl dX6_init_69 rfl (fun H locs hP hD hS => ?_)
  refine lv_aload_n hx hb dX6_init_70 rfl (lv_at hl 0 rfl) ?_
  refine va_get (D := G) (ci := 6) (v := .ref a1) (C := RX6) (T := TX6) (N := 11) hx hb hts hinX6 hown hK hP 0 rfl rfl 0 (by decide) hL7 (fun _ h9 => h9) rfl dX6_init_71 ?_
  refine lv_iconst (v := 4) hx hb dX6_init_74 (by decide) ?_
  refine lv_sipush (v := 2000) hx hb dX6_init_75 (by decide) ?_
  refine k_ast (f := (upd (upd (fun _ => 0) 0 8000) 1 6000)) (j := 4) (ws' := ([(k0, .inr (6, [.ref a1, .ref a2, .ref a3, .ref a4, .int 0, .int 0, .ref a5, .int 0, .int 0, .int 0, .ref a6])), (a1, .inl (cI, 86, .inl (upd (upd (upd (fun _ => 0) 0 8000) 1 6000) 4 2000))), (a2, .inl (cI, 344, .inl (fun _ => 0))), (a3, .inl (cI, 86, .inl (fun _ => 0))), (a4, .inl (cI, 86, .inl (fun _ => 0))), (a5, .inl (cI, 60, .inl (fun _ => 0))), (a6, .inl (cI, 2, .inl (fun _ => 0)))])) hx hb hK hP hD hS 1 0 rfl rfl (show ¬ ((4 : Int32) < 0 ∨ 86 ≤ (4 : Int32).toNatClampNeg) by decide) rfl dX6_init_78 rfl (fun H locs hP hD hS => ?_)
  refine lv_aload_n hx hb dX6_init_79 rfl (lv_at hl 0 rfl) ?_
  refine va_get (D := G) (ci := 6) (v := .ref a1) (C := RX6) (T := TX6) (N := 11) hx hb hts hinX6 hown hK hP 0 rfl rfl 0 (by decide) hL7 (fun _ h9 => h9) rfl dX6_init_80 ?_
  refine lv_bipush (v := 7) hx hb dX6_init_83 (by decide) ?_
  refine lv_iconst (v := (-1)) hx hb dX6_init_85 (by decide) ?_
  refine k_ast (f := (upd (upd (upd (fun _ => 0) 0 8000) 1 6000) 4 2000)) (j := 7) (ws' := ([(k0, .inr (6, [.ref a1, .ref a2, .ref a3, .ref a4, .int 0, .int 0, .ref a5, .int 0, .int 0, .int 0, .ref a6])), (a1, .inl (cI, 86, .inl (upd (upd (upd (upd (fun _ => 0) 0 8000) 1 6000) 4 2000) 7 (-1)))), (a2, .inl (cI, 344, .inl (fun _ => 0))), (a3, .inl (cI, 86, .inl (fun _ => 0))), (a4, .inl (cI, 86, .inl (fun _ => 0))), (a5, .inl (cI, 60, .inl (fun _ => 0))), (a6, .inl (cI, 2, .inl (fun _ => 0)))])) hx hb hK hP hD hS 1 0 rfl rfl (show ¬ ((7 : Int32) < 0 ∨ 86 ≤ (7 : Int32).toNatClampNeg) by decide) rfl dX6_init_86 rfl (fun H locs hP hD hS => ?_)
  have hP : va_P G vwCl ((fun u : Nat → Nat => (wM cI u M0)) (fun i => cond (Nat.beq i 0) k0 ((fun i => cond (Nat.beq i 1) a1 ((fun i => cond (Nat.beq i 2) a2 ((fun i => cond (Nat.beq i 3) a3 ((fun i => cond (Nat.beq i 4) a4 ((fun i => cond (Nat.beq i 5) a5 ((fun i => cond (Nat.beq i 6) a6 ((fun _ => 0) i)) i)) i)) i)) i)) i)) i))) H := hP
  have hD : va_D A ((fun u : Nat → Nat => (wM cI u M0)) (fun i => cond (Nat.beq i 0) k0 ((fun i => cond (Nat.beq i 1) a1 ((fun i => cond (Nat.beq i 2) a2 ((fun i => cond (Nat.beq i 3) a3 ((fun i => cond (Nat.beq i 4) a4 ((fun i => cond (Nat.beq i 5) a5 ((fun i => cond (Nat.beq i 6) a6 ((fun _ => 0) i)) i)) i)) i)) i)) i)) i))) := hD
  exact W.vret hx hb hr (fun t ht hW => ⟨⟨(fun i => cond (Nat.beq i 0) k0 ((fun i => cond (Nat.beq i 1) a1 ((fun i => cond (Nat.beq i 2) a2 ((fun i => cond (Nat.beq i 3) a3 ((fun i => cond (Nat.beq i 4) a4 ((fun i => cond (Nat.beq i 5) a5 ((fun i => cond (Nat.beq i 6) a6 ((fun _ => 0) i)) i)) i)) i)) i)) i)) i)), rfl, rfl, by rw [ht]; exact hP, hD⟩, hS.F ht⟩) hS.2.2 dX6_init_87
set_option maxHeartbeats 4000000 in
set_option maxRecDepth 100000 in
theorem c_X2_init (l : Launch) (G : va_G) (cI cC cD : ClassId) (k0 : Nat) (sz : Nat) : Met l yX2_init wsX2_init ({ frames := 3, cells := 71, slots := 540, locals := 62 }) (va_Pc [.ref k0] (PO G (ty3 cI cC cD) [(k0, .inr (2, [.null, .int 0]))] sz)) (va_Qv (fun u : (Nat → Nat → Nat) × (Nat → Option Nat) => u.1 0 1 = k0 ∧ rfOk u.1 u.2) (BW G (fun u : (Nat → Nat → Nat) × (Nat → Option Nat) => (wH cD (u.1 0 1) (u.1 0 2) 0 u.2 ++ (wD cI (u.1 3) D0 ++ (wD cI (u.1 4) D0 ++ (wD cI (u.1 5) D0 ++ (wD cI (u.1 6) D0 ++ (wD cI (u.1 7) D0))))))) (va_A [(k0, .inr (2, [.null, .int 0]))] sz)) (va_A [(k0, .inr (2, [.null, .int 0]))] sz)) 71 540 (va_A [(k0, .inr (2, [.null, .int 0]))] sz) := by
  refine Met.ofW (cc := cX2_init) (maxL := 2) (ret := none) (by decide) rfl ?_
  intro p e s m args below meth c s₁ B hml hv
  obtain ⟨rfl, ⟨hsz, hP, hK, hD0, hN⟩, hO⟩ := hv
  have hx := B.exec
  have hb := B.bytes
  have hr := B.returns
  have hts := atoms_spec (ws := wsX2_init) B.pre
  have hown : s.vm.findClass RX2 = some m.cls := findClass_of_methodNamed B.named
  have hlocks := B.notSynchronized
  have hin : meth.name = "<init>" := (name_of_methodNamed B.named B.method).1
  subst hsz
  have hD := hD0.self (sz := s.heap.size)
  generalize hAe : va_A [(k0, .inr (2, [.null, .int 0]))] s.heap.size = A at hD ⊢
  have hA : ∀ q : Nat, s.heap.size ≤ q → A q := fun q h => by rw [← hAe]; exact Or.inr h
  have hS : va_S A s.heap s.heap [] := va_S.rf
  have hl := lv_entry ([.ref k0]) (n := 2) (Nat.le_of_ble_eq_true rfl)
  rw [lg_entry_eq]
  generalize (lg_sl ([.ref k0]) ++ List.replicate (2 - (lg_sl ([.ref k0])).length) Slot.unset).toArray = ls at hl ⊢
  have hl : lv_has ls 2 [(0, .ref k0)] := hl
  have hinX0 : ∀ w ∈ wsX00, w ∈ wsX2_init := by decide +kernel
  have hinX2 : ∀ w ∈ wsX20, w ∈ wsX2_init := by decide +kernel
  have hL11 := hts (.fieldLink RX2 11 "CraneGates$History" "states" "[LCraneGates$Dam;") (by decide +kernel)
  refine lv_aload_n hx hb dX2_init_0 rfl (lv_at hl 0 rfl) ?_
  refine W.objInit hx hb hown (hts (.methodLink RX2 3 objectInit) (by decide +kernel)) (hts (.instanceMethod objectInit) (by decide +kernel)) (hts (.code objectInit ⟨#[0xb1]⟩ 1 none) (by decide +kernel)) rfl (by rw [hml]; exact hl.1) rfl dX2_init_1 (Nat.le_of_ble_eq_true rfl) (Nat.le_of_ble_eq_true rfl) ?_
  refine W.eq (g2 := F0 m 4 ls []) rfl ?_
  refine lv_aload_n hx hb dX2_init_4 rfl (lv_at hl 0 rfl) ?_
  refine lv_iconst (v := 5) hx hb dX2_init_5 (by decide) ?_
  refine k_newr (N' := 5) hx hb hown (hts (.classLink RX2 9 RX0) (by decide +kernel)) hO hK hP hD hS hA (by decide) rfl (by decide) (Nat.le_of_ble_eq_true rfl) (Nat.le_of_ble_eq_true rfl) dX2_init_6 (fun a1 H hP hD hS => ?_)
  have hP : va_P G vwCl ([(k0, .inr (2, [.null, .int 0])), (a1, .inl (cD, 5, .inr (.inr (.inr (.inr (fun _ => none))))))]) H := hP
  have hD : va_D A ([(k0, .inr (2, [.null, .int 0])), (a1, .inl (cD, 5, .inr (.inr (.inr (.inr (fun _ => none))))))]) := hD
  refine W.cs (cells' := 1) (slots' := 5) rfl rfl ?_
  refine va_putF (D := G) (ci := 2) (v := .ref a1) (ty := .array (.object "CraneGates$Dam")) (C := RX2) (T := TX2) (N := 2) hx hb hts hinX2 tyX2 tyX2_ok nmX2 hown hK hP hD hS 0 rfl rfl 0 (by decide) hL11 (fun _ h9 => h9) rfl hin rfl (by decide +kernel) rfl rfl (Nat.le_of_ble_eq_true rfl) dX2_init_9 (fun H locs hP hD hS => ?_)
  have hP : va_P G vwCl ([(k0, .inr (2, [.ref a1, .int 0])), (a1, .inl (cD, 5, .inr (.inr (.inr (.inr (fun _ => none))))))]) H := hP
  have hD : va_D A ([(k0, .inr (2, [.ref a1, .int 0])), (a1, .inl (cD, 5, .inr (.inr (.inr (.inr (fun _ => none))))))]) := hD
  refine lv_iconst (v := 0) hx hb dX2_init_12 (by decide) ?_
  refine lv_istore_n (lv' := [(1, .int 0), (0, .ref k0)]) hx hb dX2_init_13 rfl hl (by decide) rfl (fun ls hl => ?_)
  refine lv_iload_n hx hb dX2_init_14 rfl (lv_at hl 0 rfl) ?_
  refine lv_aload_n hx hb dX2_init_15 rfl (lv_at hl 1 rfl) ?_
  refine va_get (D := G) (ci := 2) (v := .ref a1) (C := RX2) (T := TX2) (N := 2) hx hb hts hinX2 hown hK hP 0 rfl rfl 0 (by decide) hL11 (fun _ h9 => h9) rfl dX2_init_16 ?_
  refine va_alen hx hb hK hP 1 2 rfl rfl (v := 5) rfl dX2_init_19 ?_
  refine lv_icmp_ge (tgt := 42) hx hb dX2_init_20 (by decide) (fun c => absurd c (by decide)) (fun _ => ?_)
  refine lv_aload_n hx hb dX2_init_23 rfl (lv_at hl 1 rfl) ?_
  refine va_get (D := G) (ci := 2) (v := .ref a1) (C := RX2) (T := TX2) (N := 2) hx hb hts hinX2 hown hK hP 0 rfl rfl 0 (by decide) hL11 (fun _ h9 => h9) rfl dX2_init_24 ?_
  refine lv_iload_n hx hb dX2_init_27 rfl (lv_at hl 0 rfl) ?_
  refine va_new (ci := 0) (fs := [.null, .null, .null, .null, .int 0, .int 0, .int 0, .int 0, .int 0, .int 0, .int 0, .int 0, .int 0, .int 0, .int 0, .int 0, .int 0, .int 0]) (C := RX0) (T := TX0) (N := 18) hx hb hts hinX0 tyX0 tyX0_ok hown (hts (.classLink RX2 9 RX0) (by decide +kernel)) (hts (.instantiable RX0 18) (by decide +kernel)) (hts (.initialized RX0) (by decide +kernel)) hK hP hD hS hA rfl (fun j hj => by rcases (show j = 0 ∨ j = 1 ∨ j = 2 ∨ j = 3 ∨ j = 4 ∨ j = 5 ∨ j = 6 ∨ j = 7 ∨ j = 8 ∨ j = 9 ∨ j = 10 ∨ j = 11 ∨ j = 12 ∨ j = 13 ∨ j = 14 ∨ j = 15 ∨ j = 16 ∨ j = 17 by omega) with rfl | rfl | rfl | rfl | rfl | rfl | rfl | rfl | rfl | rfl | rfl | rfl | rfl | rfl | rfl | rfl | rfl | rfl <;> rfl) (Nat.le_of_ble_eq_true rfl) (Nat.le_of_ble_eq_true rfl) dX2_init_28 (fun a2 H hP hD hS => ?_)
  refine W.cs (cells' := 2) (slots' := 23) rfl rfl ?_
  refine lv_dup hx hb dX2_init_31 rfl ?_
  have hP : va_P G vwCl (([(k0, .inr (2, [.ref a1, .int 0])), (a1, .inl (cD, 5, .inr (.inr (.inr (.inr (fun _ => none))))))]) ++ [(a2, .inr (0, [.null, .null, .null, .null, .int 0, .int 0, .int 0, .int 0, .int 0, .int 0, .int 0, .int 0, .int 0, .int 0, .int 0, .int 0, .int 0, .int 0]))]) H := hP
  have hD : va_D A (([(k0, .inr (2, [.ref a1, .int 0])), (a1, .inl (cD, 5, .inr (.inr (.inr (.inr (fun _ => none))))))]) ++ [(a2, .inr (0, [.null, .null, .null, .null, .int 0, .int 0, .int 0, .int 0, .int 0, .int 0, .int 0, .int 0, .int 0, .int 0, .int 0, .int 0, .int 0, .int 0]))]) := hD
  refine k_ctorN (As := []) (rest := [.ref a2, .int 0, .ref a1]) (ws := ([(k0, .inr (2, [.ref a1, .int 0])), (a1, .inl (cD, 5, .inr (.inr (.inr (.inr (fun _ => none))))))])) (x := (a2, .inr (0, [.null, .null, .null, .null, .int 0, .int 0, .int 0, .int 0, .int 0, .int 0, .int 0, .int 0, .int 0, .int 0, .int 0, .int 0, .int 0, .int 0]))) ⟨hx, hb, hml, hown, hts⟩ (c_X0_init l G cI cC cD a2 _) ⟨va_cnB (host := "CraneGates") 0 hts gX2_init_X0_init_n17 rfl rfl rfl (hN (.methodLinkNest "CraneGates$History" 17 yX0_init "CraneGates") (by simp [nestW])) (hts (.initialized RX0) (by decide +kernel)) (by decide +kernel) ⟨Nat.le_of_ble_eq_true rfl, Nat.le_of_ble_eq_true rfl⟩, rfl, hts (.instanceMethod yX0_init) (by decide +kernel)⟩ hK hN hO hP hD hS hA (N := 2) rfl (by decide +kernel) rfl hl.1 rfl (Nat.le_of_ble_eq_true rfl) dX2_init_32 ⟨Nat.le_of_ble_eq_true rfl, Nat.le_of_ble_eq_true rfl⟩ (fun u3 H locs hu hP9 hD9 hS => ?_)
  refine W.cs (cells' := 15) (slots' := 112) rfl rfl ?_
  subst hu
  have hP : va_P G vwCl ([(k0, .inr (2, [.ref a1, .int 0])), (a1, .inl (cD, 5, .inr (.inr (.inr (.inr (fun _ => none))))))] ++ wD cI u3 D0) H := hP9
  have hD : va_D A ([(k0, .inr (2, [.ref a1, .int 0])), (a1, .inl (cD, 5, .inr (.inr (.inr (.inr (fun _ => none))))))] ++ wD cI u3 D0) := hD9
  refine k_rst (j := 0) (ws' := ([(k0, .inr (2, [.ref a1, .int 0])), (a1, .inl (cD, 5, .inr (.inr (.inr (.inr (va_up (fun _ => none) 0 (some (u3 0))))))))] ++ wD cI u3 D0)) hx hb hK hP hD hS 1 2 2 0 rfl rfl rfl rfl (show ¬ ((0 : Int32) < 0 ∨ 5 ≤ (0 : Int32).toNatClampNeg) by decide) rfl dX2_init_35 rfl (fun H locs hP hD hS => ?_)
  refine lv_iinc (v := 1) (lv' := [(1, .int 1), (0, .ref k0)]) hx hb dX2_init_36 hl (k := 0) rfl rfl (by decide) rfl (fun ls hl => ?_)
  refine lv_goto (tgt := 14) hx hb dX2_init_39 (by decide) ?_
  refine lv_iload_n hx hb dX2_init_14 rfl (lv_at hl 0 rfl) ?_
  refine lv_aload_n hx hb dX2_init_15 rfl (lv_at hl 1 rfl) ?_
  refine va_get (D := G) (ci := 2) (v := .ref a1) (C := RX2) (T := TX2) (N := 2) hx hb hts hinX2 hown hK hP 0 rfl rfl 0 (by decide) hL11 (fun _ h9 => h9) rfl dX2_init_16 ?_
  refine va_alen hx hb hK hP 1 2 rfl rfl (v := 5) rfl dX2_init_19 ?_
  refine lv_icmp_ge (tgt := 42) hx hb dX2_init_20 (by decide) (fun c => absurd c (by decide)) (fun _ => ?_)
  refine lv_aload_n hx hb dX2_init_23 rfl (lv_at hl 1 rfl) ?_
  refine va_get (D := G) (ci := 2) (v := .ref a1) (C := RX2) (T := TX2) (N := 2) hx hb hts hinX2 hown hK hP 0 rfl rfl 0 (by decide) hL11 (fun _ h9 => h9) rfl dX2_init_24 ?_
  refine lv_iload_n hx hb dX2_init_27 rfl (lv_at hl 0 rfl) ?_
  refine va_new (ci := 0) (fs := [.null, .null, .null, .null, .int 0, .int 0, .int 0, .int 0, .int 0, .int 0, .int 0, .int 0, .int 0, .int 0, .int 0, .int 0, .int 0, .int 0]) (C := RX0) (T := TX0) (N := 18) hx hb hts hinX0 tyX0 tyX0_ok hown (hts (.classLink RX2 9 RX0) (by decide +kernel)) (hts (.instantiable RX0 18) (by decide +kernel)) (hts (.initialized RX0) (by decide +kernel)) hK hP hD hS hA rfl (fun j hj => by rcases (show j = 0 ∨ j = 1 ∨ j = 2 ∨ j = 3 ∨ j = 4 ∨ j = 5 ∨ j = 6 ∨ j = 7 ∨ j = 8 ∨ j = 9 ∨ j = 10 ∨ j = 11 ∨ j = 12 ∨ j = 13 ∨ j = 14 ∨ j = 15 ∨ j = 16 ∨ j = 17 by omega) with rfl | rfl | rfl | rfl | rfl | rfl | rfl | rfl | rfl | rfl | rfl | rfl | rfl | rfl | rfl | rfl | rfl | rfl <;> rfl) (Nat.le_of_ble_eq_true rfl) (Nat.le_of_ble_eq_true rfl) dX2_init_28 (fun a4 H hP hD hS => ?_)
  refine W.cs (cells' := 16) (slots' := 130) rfl rfl ?_
  refine lv_dup hx hb dX2_init_31 rfl ?_
  have hP : va_P G vwCl (([(k0, .inr (2, [.ref a1, .int 0])), (a1, .inl (cD, 5, .inr (.inr (.inr (.inr (va_up (fun _ => none) 0 (some (u3 0))))))))] ++ wD cI u3 D0) ++ [(a4, .inr (0, [.null, .null, .null, .null, .int 0, .int 0, .int 0, .int 0, .int 0, .int 0, .int 0, .int 0, .int 0, .int 0, .int 0, .int 0, .int 0, .int 0]))]) H := hP
  have hD : va_D A (([(k0, .inr (2, [.ref a1, .int 0])), (a1, .inl (cD, 5, .inr (.inr (.inr (.inr (va_up (fun _ => none) 0 (some (u3 0))))))))] ++ wD cI u3 D0) ++ [(a4, .inr (0, [.null, .null, .null, .null, .int 0, .int 0, .int 0, .int 0, .int 0, .int 0, .int 0, .int 0, .int 0, .int 0, .int 0, .int 0, .int 0, .int 0]))]) := hD
  refine k_ctorN (As := []) (rest := [.ref a4, .int 1, .ref a1]) (ws := ([(k0, .inr (2, [.ref a1, .int 0])), (a1, .inl (cD, 5, .inr (.inr (.inr (.inr (va_up (fun _ => none) 0 (some (u3 0))))))))] ++ wD cI u3 D0)) (x := (a4, .inr (0, [.null, .null, .null, .null, .int 0, .int 0, .int 0, .int 0, .int 0, .int 0, .int 0, .int 0, .int 0, .int 0, .int 0, .int 0, .int 0, .int 0]))) ⟨hx, hb, hml, hown, hts⟩ (c_X0_init l G cI cC cD a4 _) ⟨va_cnB (host := "CraneGates") 0 hts gX2_init_X0_init_n17 rfl rfl rfl (hN (.methodLinkNest "CraneGates$History" 17 yX0_init "CraneGates") (by simp [nestW])) (hts (.initialized RX0) (by decide +kernel)) (by decide +kernel) ⟨Nat.le_of_ble_eq_true rfl, Nat.le_of_ble_eq_true rfl⟩, rfl, hts (.instanceMethod yX0_init) (by decide +kernel)⟩ hK hN hO hP hD hS hA (N := 16) rfl (by decide +kernel) rfl hl.1 rfl (Nat.le_of_ble_eq_true rfl) dX2_init_32 ⟨Nat.le_of_ble_eq_true rfl, Nat.le_of_ble_eq_true rfl⟩ (fun u5 H locs hu hP9 hD9 hS => ?_)
  refine W.cs (cells' := 29) (slots' := 219) rfl rfl ?_
  subst hu
  have hP : va_P G vwCl ([(k0, .inr (2, [.ref a1, .int 0])), (a1, .inl (cD, 5, .inr (.inr (.inr (.inr (va_up (fun _ => none) 0 (some (u3 0))))))))] ++ wD cI u3 D0 ++ wD cI u5 D0) H := hP9
  have hD : va_D A ([(k0, .inr (2, [.ref a1, .int 0])), (a1, .inl (cD, 5, .inr (.inr (.inr (.inr (va_up (fun _ => none) 0 (some (u3 0))))))))] ++ wD cI u3 D0 ++ wD cI u5 D0) := hD9
  refine k_rst (j := 1) (ws' := ([(k0, .inr (2, [.ref a1, .int 0])), (a1, .inl (cD, 5, .inr (.inr (.inr (.inr (va_up (va_up (fun _ => none) 0 (some (u3 0))) 1 (some (u5 0))))))))] ++ wD cI u3 D0 ++ wD cI u5 D0)) hx hb hK hP hD hS 1 2 16 0 rfl rfl rfl rfl (show ¬ ((1 : Int32) < 0 ∨ 5 ≤ (1 : Int32).toNatClampNeg) by decide) rfl dX2_init_35 rfl (fun H locs hP hD hS => ?_)
  refine lv_iinc (v := 2) (lv' := [(1, .int 2), (0, .ref k0)]) hx hb dX2_init_36 hl (k := 0) rfl rfl (by decide) rfl (fun ls hl => ?_)
  refine lv_goto (tgt := 14) hx hb dX2_init_39 (by decide) ?_
  refine lv_iload_n hx hb dX2_init_14 rfl (lv_at hl 0 rfl) ?_
  refine lv_aload_n hx hb dX2_init_15 rfl (lv_at hl 1 rfl) ?_
  refine va_get (D := G) (ci := 2) (v := .ref a1) (C := RX2) (T := TX2) (N := 2) hx hb hts hinX2 hown hK hP 0 rfl rfl 0 (by decide) hL11 (fun _ h9 => h9) rfl dX2_init_16 ?_
  refine va_alen hx hb hK hP 1 2 rfl rfl (v := 5) rfl dX2_init_19 ?_
  refine lv_icmp_ge (tgt := 42) hx hb dX2_init_20 (by decide) (fun c => absurd c (by decide)) (fun _ => ?_)
  refine lv_aload_n hx hb dX2_init_23 rfl (lv_at hl 1 rfl) ?_
  refine va_get (D := G) (ci := 2) (v := .ref a1) (C := RX2) (T := TX2) (N := 2) hx hb hts hinX2 hown hK hP 0 rfl rfl 0 (by decide) hL11 (fun _ h9 => h9) rfl dX2_init_24 ?_
  refine lv_iload_n hx hb dX2_init_27 rfl (lv_at hl 0 rfl) ?_
  refine va_new (ci := 0) (fs := [.null, .null, .null, .null, .int 0, .int 0, .int 0, .int 0, .int 0, .int 0, .int 0, .int 0, .int 0, .int 0, .int 0, .int 0, .int 0, .int 0]) (C := RX0) (T := TX0) (N := 18) hx hb hts hinX0 tyX0 tyX0_ok hown (hts (.classLink RX2 9 RX0) (by decide +kernel)) (hts (.instantiable RX0 18) (by decide +kernel)) (hts (.initialized RX0) (by decide +kernel)) hK hP hD hS hA rfl (fun j hj => by rcases (show j = 0 ∨ j = 1 ∨ j = 2 ∨ j = 3 ∨ j = 4 ∨ j = 5 ∨ j = 6 ∨ j = 7 ∨ j = 8 ∨ j = 9 ∨ j = 10 ∨ j = 11 ∨ j = 12 ∨ j = 13 ∨ j = 14 ∨ j = 15 ∨ j = 16 ∨ j = 17 by omega) with rfl | rfl | rfl | rfl | rfl | rfl | rfl | rfl | rfl | rfl | rfl | rfl | rfl | rfl | rfl | rfl | rfl | rfl <;> rfl) (Nat.le_of_ble_eq_true rfl) (Nat.le_of_ble_eq_true rfl) dX2_init_28 (fun a6 H hP hD hS => ?_)
  refine W.cs (cells' := 30) (slots' := 237) rfl rfl ?_
  refine lv_dup hx hb dX2_init_31 rfl ?_
  have hP : va_P G vwCl (([(k0, .inr (2, [.ref a1, .int 0])), (a1, .inl (cD, 5, .inr (.inr (.inr (.inr (va_up (va_up (fun _ => none) 0 (some (u3 0))) 1 (some (u5 0))))))))] ++ wD cI u3 D0 ++ wD cI u5 D0) ++ [(a6, .inr (0, [.null, .null, .null, .null, .int 0, .int 0, .int 0, .int 0, .int 0, .int 0, .int 0, .int 0, .int 0, .int 0, .int 0, .int 0, .int 0, .int 0]))]) H := hP
  have hD : va_D A (([(k0, .inr (2, [.ref a1, .int 0])), (a1, .inl (cD, 5, .inr (.inr (.inr (.inr (va_up (va_up (fun _ => none) 0 (some (u3 0))) 1 (some (u5 0))))))))] ++ wD cI u3 D0 ++ wD cI u5 D0) ++ [(a6, .inr (0, [.null, .null, .null, .null, .int 0, .int 0, .int 0, .int 0, .int 0, .int 0, .int 0, .int 0, .int 0, .int 0, .int 0, .int 0, .int 0, .int 0]))]) := hD
  refine k_ctorN (As := []) (rest := [.ref a6, .int 2, .ref a1]) (ws := ([(k0, .inr (2, [.ref a1, .int 0])), (a1, .inl (cD, 5, .inr (.inr (.inr (.inr (va_up (va_up (fun _ => none) 0 (some (u3 0))) 1 (some (u5 0))))))))] ++ wD cI u3 D0 ++ wD cI u5 D0)) (x := (a6, .inr (0, [.null, .null, .null, .null, .int 0, .int 0, .int 0, .int 0, .int 0, .int 0, .int 0, .int 0, .int 0, .int 0, .int 0, .int 0, .int 0, .int 0]))) ⟨hx, hb, hml, hown, hts⟩ (c_X0_init l G cI cC cD a6 _) ⟨va_cnB (host := "CraneGates") 0 hts gX2_init_X0_init_n17 rfl rfl rfl (hN (.methodLinkNest "CraneGates$History" 17 yX0_init "CraneGates") (by simp [nestW])) (hts (.initialized RX0) (by decide +kernel)) (by decide +kernel) ⟨Nat.le_of_ble_eq_true rfl, Nat.le_of_ble_eq_true rfl⟩, rfl, hts (.instanceMethod yX0_init) (by decide +kernel)⟩ hK hN hO hP hD hS hA (N := 30) rfl (by decide +kernel) rfl hl.1 rfl (Nat.le_of_ble_eq_true rfl) dX2_init_32 ⟨Nat.le_of_ble_eq_true rfl, Nat.le_of_ble_eq_true rfl⟩ (fun u7 H locs hu hP9 hD9 hS => ?_)
  refine W.cs (cells' := 43) (slots' := 326) rfl rfl ?_
  subst hu
  have hP : va_P G vwCl ([(k0, .inr (2, [.ref a1, .int 0])), (a1, .inl (cD, 5, .inr (.inr (.inr (.inr (va_up (va_up (fun _ => none) 0 (some (u3 0))) 1 (some (u5 0))))))))] ++ wD cI u3 D0 ++ wD cI u5 D0 ++ wD cI u7 D0) H := hP9
  have hD : va_D A ([(k0, .inr (2, [.ref a1, .int 0])), (a1, .inl (cD, 5, .inr (.inr (.inr (.inr (va_up (va_up (fun _ => none) 0 (some (u3 0))) 1 (some (u5 0))))))))] ++ wD cI u3 D0 ++ wD cI u5 D0 ++ wD cI u7 D0) := hD9
  refine k_rst (j := 2) (ws' := ([(k0, .inr (2, [.ref a1, .int 0])), (a1, .inl (cD, 5, .inr (.inr (.inr (.inr (va_up (va_up (va_up (fun _ => none) 0 (some (u3 0))) 1 (some (u5 0))) 2 (some (u7 0))))))))] ++ wD cI u3 D0 ++ wD cI u5 D0 ++ wD cI u7 D0)) hx hb hK hP hD hS 1 2 30 0 rfl rfl rfl rfl (show ¬ ((2 : Int32) < 0 ∨ 5 ≤ (2 : Int32).toNatClampNeg) by decide) rfl dX2_init_35 rfl (fun H locs hP hD hS => ?_)
  refine lv_iinc (v := 3) (lv' := [(1, .int 3), (0, .ref k0)]) hx hb dX2_init_36 hl (k := 0) rfl rfl (by decide) rfl (fun ls hl => ?_)
  refine lv_goto (tgt := 14) hx hb dX2_init_39 (by decide) ?_
  refine lv_iload_n hx hb dX2_init_14 rfl (lv_at hl 0 rfl) ?_
  refine lv_aload_n hx hb dX2_init_15 rfl (lv_at hl 1 rfl) ?_
  refine va_get (D := G) (ci := 2) (v := .ref a1) (C := RX2) (T := TX2) (N := 2) hx hb hts hinX2 hown hK hP 0 rfl rfl 0 (by decide) hL11 (fun _ h9 => h9) rfl dX2_init_16 ?_
  refine va_alen hx hb hK hP 1 2 rfl rfl (v := 5) rfl dX2_init_19 ?_
  refine lv_icmp_ge (tgt := 42) hx hb dX2_init_20 (by decide) (fun c => absurd c (by decide)) (fun _ => ?_)
  refine lv_aload_n hx hb dX2_init_23 rfl (lv_at hl 1 rfl) ?_
  refine va_get (D := G) (ci := 2) (v := .ref a1) (C := RX2) (T := TX2) (N := 2) hx hb hts hinX2 hown hK hP 0 rfl rfl 0 (by decide) hL11 (fun _ h9 => h9) rfl dX2_init_24 ?_
  refine lv_iload_n hx hb dX2_init_27 rfl (lv_at hl 0 rfl) ?_
  refine va_new (ci := 0) (fs := [.null, .null, .null, .null, .int 0, .int 0, .int 0, .int 0, .int 0, .int 0, .int 0, .int 0, .int 0, .int 0, .int 0, .int 0, .int 0, .int 0]) (C := RX0) (T := TX0) (N := 18) hx hb hts hinX0 tyX0 tyX0_ok hown (hts (.classLink RX2 9 RX0) (by decide +kernel)) (hts (.instantiable RX0 18) (by decide +kernel)) (hts (.initialized RX0) (by decide +kernel)) hK hP hD hS hA rfl (fun j hj => by rcases (show j = 0 ∨ j = 1 ∨ j = 2 ∨ j = 3 ∨ j = 4 ∨ j = 5 ∨ j = 6 ∨ j = 7 ∨ j = 8 ∨ j = 9 ∨ j = 10 ∨ j = 11 ∨ j = 12 ∨ j = 13 ∨ j = 14 ∨ j = 15 ∨ j = 16 ∨ j = 17 by omega) with rfl | rfl | rfl | rfl | rfl | rfl | rfl | rfl | rfl | rfl | rfl | rfl | rfl | rfl | rfl | rfl | rfl | rfl <;> rfl) (Nat.le_of_ble_eq_true rfl) (Nat.le_of_ble_eq_true rfl) dX2_init_28 (fun a8 H hP hD hS => ?_)
  refine W.cs (cells' := 44) (slots' := 344) rfl rfl ?_
  refine lv_dup hx hb dX2_init_31 rfl ?_
  have hP : va_P G vwCl (([(k0, .inr (2, [.ref a1, .int 0])), (a1, .inl (cD, 5, .inr (.inr (.inr (.inr (va_up (va_up (va_up (fun _ => none) 0 (some (u3 0))) 1 (some (u5 0))) 2 (some (u7 0))))))))] ++ wD cI u3 D0 ++ wD cI u5 D0 ++ wD cI u7 D0) ++ [(a8, .inr (0, [.null, .null, .null, .null, .int 0, .int 0, .int 0, .int 0, .int 0, .int 0, .int 0, .int 0, .int 0, .int 0, .int 0, .int 0, .int 0, .int 0]))]) H := hP
  have hD : va_D A (([(k0, .inr (2, [.ref a1, .int 0])), (a1, .inl (cD, 5, .inr (.inr (.inr (.inr (va_up (va_up (va_up (fun _ => none) 0 (some (u3 0))) 1 (some (u5 0))) 2 (some (u7 0))))))))] ++ wD cI u3 D0 ++ wD cI u5 D0 ++ wD cI u7 D0) ++ [(a8, .inr (0, [.null, .null, .null, .null, .int 0, .int 0, .int 0, .int 0, .int 0, .int 0, .int 0, .int 0, .int 0, .int 0, .int 0, .int 0, .int 0, .int 0]))]) := hD
  refine k_ctorN (As := []) (rest := [.ref a8, .int 3, .ref a1]) (ws := ([(k0, .inr (2, [.ref a1, .int 0])), (a1, .inl (cD, 5, .inr (.inr (.inr (.inr (va_up (va_up (va_up (fun _ => none) 0 (some (u3 0))) 1 (some (u5 0))) 2 (some (u7 0))))))))] ++ wD cI u3 D0 ++ wD cI u5 D0 ++ wD cI u7 D0)) (x := (a8, .inr (0, [.null, .null, .null, .null, .int 0, .int 0, .int 0, .int 0, .int 0, .int 0, .int 0, .int 0, .int 0, .int 0, .int 0, .int 0, .int 0, .int 0]))) ⟨hx, hb, hml, hown, hts⟩ (c_X0_init l G cI cC cD a8 _) ⟨va_cnB (host := "CraneGates") 0 hts gX2_init_X0_init_n17 rfl rfl rfl (hN (.methodLinkNest "CraneGates$History" 17 yX0_init "CraneGates") (by simp [nestW])) (hts (.initialized RX0) (by decide +kernel)) (by decide +kernel) ⟨Nat.le_of_ble_eq_true rfl, Nat.le_of_ble_eq_true rfl⟩, rfl, hts (.instanceMethod yX0_init) (by decide +kernel)⟩ hK hN hO hP hD hS hA (N := 44) rfl (by decide +kernel) rfl hl.1 rfl (Nat.le_of_ble_eq_true rfl) dX2_init_32 ⟨Nat.le_of_ble_eq_true rfl, Nat.le_of_ble_eq_true rfl⟩ (fun u9 H locs hu hP9 hD9 hS => ?_)
  refine W.cs (cells' := 57) (slots' := 433) rfl rfl ?_
  subst hu
  have hP : va_P G vwCl ([(k0, .inr (2, [.ref a1, .int 0])), (a1, .inl (cD, 5, .inr (.inr (.inr (.inr (va_up (va_up (va_up (fun _ => none) 0 (some (u3 0))) 1 (some (u5 0))) 2 (some (u7 0))))))))] ++ wD cI u3 D0 ++ wD cI u5 D0 ++ wD cI u7 D0 ++ wD cI u9 D0) H := hP9
  have hD : va_D A ([(k0, .inr (2, [.ref a1, .int 0])), (a1, .inl (cD, 5, .inr (.inr (.inr (.inr (va_up (va_up (va_up (fun _ => none) 0 (some (u3 0))) 1 (some (u5 0))) 2 (some (u7 0))))))))] ++ wD cI u3 D0 ++ wD cI u5 D0 ++ wD cI u7 D0 ++ wD cI u9 D0) := hD9
  refine k_rst (j := 3) (ws' := ([(k0, .inr (2, [.ref a1, .int 0])), (a1, .inl (cD, 5, .inr (.inr (.inr (.inr (va_up (va_up (va_up (va_up (fun _ => none) 0 (some (u3 0))) 1 (some (u5 0))) 2 (some (u7 0))) 3 (some (u9 0))))))))] ++ wD cI u3 D0 ++ wD cI u5 D0 ++ wD cI u7 D0 ++ wD cI u9 D0)) hx hb hK hP hD hS 1 2 44 0 rfl rfl rfl rfl (show ¬ ((3 : Int32) < 0 ∨ 5 ≤ (3 : Int32).toNatClampNeg) by decide) rfl dX2_init_35 rfl (fun H locs hP hD hS => ?_)
  refine lv_iinc (v := 4) (lv' := [(1, .int 4), (0, .ref k0)]) hx hb dX2_init_36 hl (k := 0) rfl rfl (by decide) rfl (fun ls hl => ?_)
  refine lv_goto (tgt := 14) hx hb dX2_init_39 (by decide) ?_
  refine lv_iload_n hx hb dX2_init_14 rfl (lv_at hl 0 rfl) ?_
  refine lv_aload_n hx hb dX2_init_15 rfl (lv_at hl 1 rfl) ?_
  refine va_get (D := G) (ci := 2) (v := .ref a1) (C := RX2) (T := TX2) (N := 2) hx hb hts hinX2 hown hK hP 0 rfl rfl 0 (by decide) hL11 (fun _ h9 => h9) rfl dX2_init_16 ?_
  refine va_alen hx hb hK hP 1 2 rfl rfl (v := 5) rfl dX2_init_19 ?_
  refine lv_icmp_ge (tgt := 42) hx hb dX2_init_20 (by decide) (fun c => absurd c (by decide)) (fun _ => ?_)
  refine lv_aload_n hx hb dX2_init_23 rfl (lv_at hl 1 rfl) ?_
  refine va_get (D := G) (ci := 2) (v := .ref a1) (C := RX2) (T := TX2) (N := 2) hx hb hts hinX2 hown hK hP 0 rfl rfl 0 (by decide) hL11 (fun _ h9 => h9) rfl dX2_init_24 ?_
  refine lv_iload_n hx hb dX2_init_27 rfl (lv_at hl 0 rfl) ?_
  refine va_new (ci := 0) (fs := [.null, .null, .null, .null, .int 0, .int 0, .int 0, .int 0, .int 0, .int 0, .int 0, .int 0, .int 0, .int 0, .int 0, .int 0, .int 0, .int 0]) (C := RX0) (T := TX0) (N := 18) hx hb hts hinX0 tyX0 tyX0_ok hown (hts (.classLink RX2 9 RX0) (by decide +kernel)) (hts (.instantiable RX0 18) (by decide +kernel)) (hts (.initialized RX0) (by decide +kernel)) hK hP hD hS hA rfl (fun j hj => by rcases (show j = 0 ∨ j = 1 ∨ j = 2 ∨ j = 3 ∨ j = 4 ∨ j = 5 ∨ j = 6 ∨ j = 7 ∨ j = 8 ∨ j = 9 ∨ j = 10 ∨ j = 11 ∨ j = 12 ∨ j = 13 ∨ j = 14 ∨ j = 15 ∨ j = 16 ∨ j = 17 by omega) with rfl | rfl | rfl | rfl | rfl | rfl | rfl | rfl | rfl | rfl | rfl | rfl | rfl | rfl | rfl | rfl | rfl | rfl <;> rfl) (Nat.le_of_ble_eq_true rfl) (Nat.le_of_ble_eq_true rfl) dX2_init_28 (fun a10 H hP hD hS => ?_)
  refine W.cs (cells' := 58) (slots' := 451) rfl rfl ?_
  refine lv_dup hx hb dX2_init_31 rfl ?_
  have hP : va_P G vwCl (([(k0, .inr (2, [.ref a1, .int 0])), (a1, .inl (cD, 5, .inr (.inr (.inr (.inr (va_up (va_up (va_up (va_up (fun _ => none) 0 (some (u3 0))) 1 (some (u5 0))) 2 (some (u7 0))) 3 (some (u9 0))))))))] ++ wD cI u3 D0 ++ wD cI u5 D0 ++ wD cI u7 D0 ++ wD cI u9 D0) ++ [(a10, .inr (0, [.null, .null, .null, .null, .int 0, .int 0, .int 0, .int 0, .int 0, .int 0, .int 0, .int 0, .int 0, .int 0, .int 0, .int 0, .int 0, .int 0]))]) H := hP
  have hD : va_D A (([(k0, .inr (2, [.ref a1, .int 0])), (a1, .inl (cD, 5, .inr (.inr (.inr (.inr (va_up (va_up (va_up (va_up (fun _ => none) 0 (some (u3 0))) 1 (some (u5 0))) 2 (some (u7 0))) 3 (some (u9 0))))))))] ++ wD cI u3 D0 ++ wD cI u5 D0 ++ wD cI u7 D0 ++ wD cI u9 D0) ++ [(a10, .inr (0, [.null, .null, .null, .null, .int 0, .int 0, .int 0, .int 0, .int 0, .int 0, .int 0, .int 0, .int 0, .int 0, .int 0, .int 0, .int 0, .int 0]))]) := hD
  refine k_ctorN (As := []) (rest := [.ref a10, .int 4, .ref a1]) (ws := ([(k0, .inr (2, [.ref a1, .int 0])), (a1, .inl (cD, 5, .inr (.inr (.inr (.inr (va_up (va_up (va_up (va_up (fun _ => none) 0 (some (u3 0))) 1 (some (u5 0))) 2 (some (u7 0))) 3 (some (u9 0))))))))] ++ wD cI u3 D0 ++ wD cI u5 D0 ++ wD cI u7 D0 ++ wD cI u9 D0)) (x := (a10, .inr (0, [.null, .null, .null, .null, .int 0, .int 0, .int 0, .int 0, .int 0, .int 0, .int 0, .int 0, .int 0, .int 0, .int 0, .int 0, .int 0, .int 0]))) ⟨hx, hb, hml, hown, hts⟩ (c_X0_init l G cI cC cD a10 _) ⟨va_cnB (host := "CraneGates") 0 hts gX2_init_X0_init_n17 rfl rfl rfl (hN (.methodLinkNest "CraneGates$History" 17 yX0_init "CraneGates") (by simp [nestW])) (hts (.initialized RX0) (by decide +kernel)) (by decide +kernel) ⟨Nat.le_of_ble_eq_true rfl, Nat.le_of_ble_eq_true rfl⟩, rfl, hts (.instanceMethod yX0_init) (by decide +kernel)⟩ hK hN hO hP hD hS hA (N := 58) rfl (by decide +kernel) rfl hl.1 rfl (Nat.le_of_ble_eq_true rfl) dX2_init_32 ⟨Nat.le_of_ble_eq_true rfl, Nat.le_of_ble_eq_true rfl⟩ (fun u11 H locs hu hP9 hD9 hS => ?_)
  refine W.cs (cells' := 71) (slots' := 540) rfl rfl ?_
  subst hu
  have hP : va_P G vwCl ([(k0, .inr (2, [.ref a1, .int 0])), (a1, .inl (cD, 5, .inr (.inr (.inr (.inr (va_up (va_up (va_up (va_up (fun _ => none) 0 (some (u3 0))) 1 (some (u5 0))) 2 (some (u7 0))) 3 (some (u9 0))))))))] ++ wD cI u3 D0 ++ wD cI u5 D0 ++ wD cI u7 D0 ++ wD cI u9 D0 ++ wD cI u11 D0) H := hP9
  have hD : va_D A ([(k0, .inr (2, [.ref a1, .int 0])), (a1, .inl (cD, 5, .inr (.inr (.inr (.inr (va_up (va_up (va_up (va_up (fun _ => none) 0 (some (u3 0))) 1 (some (u5 0))) 2 (some (u7 0))) 3 (some (u9 0))))))))] ++ wD cI u3 D0 ++ wD cI u5 D0 ++ wD cI u7 D0 ++ wD cI u9 D0 ++ wD cI u11 D0) := hD9
  refine k_rst (j := 4) (ws' := ([(k0, .inr (2, [.ref a1, .int 0])), (a1, .inl (cD, 5, .inr (.inr (.inr (.inr (va_up (va_up (va_up (va_up (va_up (fun _ => none) 0 (some (u3 0))) 1 (some (u5 0))) 2 (some (u7 0))) 3 (some (u9 0))) 4 (some (u11 0))))))))] ++ wD cI u3 D0 ++ wD cI u5 D0 ++ wD cI u7 D0 ++ wD cI u9 D0 ++ wD cI u11 D0)) hx hb hK hP hD hS 1 2 58 0 rfl rfl rfl rfl (show ¬ ((4 : Int32) < 0 ∨ 5 ≤ (4 : Int32).toNatClampNeg) by decide) rfl dX2_init_35 rfl (fun H locs hP hD hS => ?_)
  refine lv_iinc (v := 5) (lv' := [(1, .int 5), (0, .ref k0)]) hx hb dX2_init_36 hl (k := 0) rfl rfl (by decide) rfl (fun ls hl => ?_)
  refine lv_goto (tgt := 14) hx hb dX2_init_39 (by decide) ?_
  refine lv_iload_n hx hb dX2_init_14 rfl (lv_at hl 0 rfl) ?_
  refine lv_aload_n hx hb dX2_init_15 rfl (lv_at hl 1 rfl) ?_
  refine va_get (D := G) (ci := 2) (v := .ref a1) (C := RX2) (T := TX2) (N := 2) hx hb hts hinX2 hown hK hP 0 rfl rfl 0 (by decide) hL11 (fun _ h9 => h9) rfl dX2_init_16 ?_
  refine va_alen hx hb hK hP 1 2 rfl rfl (v := 5) rfl dX2_init_19 ?_
  refine lv_icmp_ge (tgt := 42) hx hb dX2_init_20 (by decide) (fun _ => ?_) (fun c => absurd (by decide) c)
  have hP : va_P G vwCl ((fun u : (Nat → Nat → Nat) × (Nat → Option Nat) => (wH cD (u.1 0 1) (u.1 0 2) 0 u.2 ++ (wD cI (u.1 3) D0 ++ (wD cI (u.1 4) D0 ++ (wD cI (u.1 5) D0 ++ (wD cI (u.1 6) D0 ++ (wD cI (u.1 7) D0))))))) ((fun i => cond (Nat.beq i 0) (fun i => cond (Nat.beq i 0) 0 ((fun i => cond (Nat.beq i 1) k0 ((fun i => cond (Nat.beq i 2) a1 ((fun _ => 0) i)) i)) i)) (cond (Nat.beq i 1) (fun _ => 0) (cond (Nat.beq i 2) (fun _ => 0) (cond (Nat.beq i 3) u3 (cond (Nat.beq i 4) u5 (cond (Nat.beq i 5) u7 (cond (Nat.beq i 6) u9 (cond (Nat.beq i 7) u11 ((fun _ => 0)))))))))), (va_up (va_up (va_up (va_up (va_up (fun _ => none) 0 (some (u3 0))) 1 (some (u5 0))) 2 (some (u7 0))) 3 (some (u9 0))) 4 (some (u11 0))))) H := hP
  have hD : va_D A ((fun u : (Nat → Nat → Nat) × (Nat → Option Nat) => (wH cD (u.1 0 1) (u.1 0 2) 0 u.2 ++ (wD cI (u.1 3) D0 ++ (wD cI (u.1 4) D0 ++ (wD cI (u.1 5) D0 ++ (wD cI (u.1 6) D0 ++ (wD cI (u.1 7) D0))))))) ((fun i => cond (Nat.beq i 0) (fun i => cond (Nat.beq i 0) 0 ((fun i => cond (Nat.beq i 1) k0 ((fun i => cond (Nat.beq i 2) a1 ((fun _ => 0) i)) i)) i)) (cond (Nat.beq i 1) (fun _ => 0) (cond (Nat.beq i 2) (fun _ => 0) (cond (Nat.beq i 3) u3 (cond (Nat.beq i 4) u5 (cond (Nat.beq i 5) u7 (cond (Nat.beq i 6) u9 (cond (Nat.beq i 7) u11 ((fun _ => 0)))))))))), (va_up (va_up (va_up (va_up (va_up (fun _ => none) 0 (some (u3 0))) 1 (some (u5 0))) 2 (some (u7 0))) 3 (some (u9 0))) 4 (some (u11 0))))) := hD
  exact W.vret hx hb hr (fun t ht hW => ⟨⟨((fun i => cond (Nat.beq i 0) (fun i => cond (Nat.beq i 0) 0 ((fun i => cond (Nat.beq i 1) k0 ((fun i => cond (Nat.beq i 2) a1 ((fun _ => 0) i)) i)) i)) (cond (Nat.beq i 1) (fun _ => 0) (cond (Nat.beq i 2) (fun _ => 0) (cond (Nat.beq i 3) u3 (cond (Nat.beq i 4) u5 (cond (Nat.beq i 5) u7 (cond (Nat.beq i 6) u9 (cond (Nat.beq i 7) u11 ((fun _ => 0)))))))))), (va_up (va_up (va_up (va_up (va_up (fun _ => none) 0 (some (u3 0))) 1 (some (u5 0))) 2 (some (u7 0))) 3 (some (u9 0))) 4 (some (u11 0)))), rfl, ⟨rfl, fun i hi => by rcases (show i = 0 ∨ i = 1 ∨ i = 2 ∨ i = 3 ∨ i = 4 by omega) with rfl | rfl | rfl | rfl | rfl <;> rfl⟩, by rw [ht]; exact hP, hD⟩, hS.F ht⟩) hS.2.2 dX2_init_42
set_option maxHeartbeats 4000000 in
set_option maxRecDepth 100000 in
theorem c_X5_init (l : Launch) (G : va_G) (cI cC cD : ClassId) (k0 : Nat) (sz : Nat) : Met l yX5_init wsX5_init ({ frames := 4, cells := 102, slots := 824, locals := 83 }) (va_Pc [.ref k0] (PO G (ty3 cI cC cD) [(k0, .inr (5, [.null, .null, .null, .null]))] sz)) (va_Qv (fun u : (Nat → Nat → Nat) × (Nat → Option Nat) => u.1 0 0 = k0 ∧ rfOk u.1 u.2) (BW G (fun u : (Nat → Nat → Nat) × (Nat → Option Nat) => (wA cI cC cD u.1 X0 u.2)) (va_A [(k0, .inr (5, [.null, .null, .null, .null]))] sz)) (va_A [(k0, .inr (5, [.null, .null, .null, .null]))] sz)) 102 824 (va_A [(k0, .inr (5, [.null, .null, .null, .null]))] sz) := by
  refine Met.ofW (cc := cX5_init) (maxL := 1) (ret := none) (by decide) rfl ?_
  intro p e s m args below meth c s₁ B hml hv
  obtain ⟨rfl, ⟨hsz, hP, hK, hD0, hN⟩, hO⟩ := hv
  have hx := B.exec
  have hb := B.bytes
  have hr := B.returns
  have hts := atoms_spec (ws := wsX5_init) B.pre
  have hown : s.vm.findClass RX5 = some m.cls := findClass_of_methodNamed B.named
  have hlocks := B.notSynchronized
  have hin : meth.name = "<init>" := (name_of_methodNamed B.named B.method).1
  subst hsz
  have hD := hD0.self (sz := s.heap.size)
  generalize hAe : va_A [(k0, .inr (5, [.null, .null, .null, .null]))] s.heap.size = A at hD ⊢
  have hA : ∀ q : Nat, s.heap.size ≤ q → A q := fun q h => by rw [← hAe]; exact Or.inr h
  have hS : va_S A s.heap s.heap [] := va_S.rf
  have hl := lv_entry ([.ref k0]) (n := 1) (Nat.le_of_ble_eq_true rfl)
  rw [lg_entry_eq]
  generalize (lg_sl ([.ref k0]) ++ List.replicate (1 - (lg_sl ([.ref k0])).length) Slot.unset).toArray = ls at hl ⊢
  have hl : lv_has ls 1 [(0, .ref k0)] := hl
  have hinX0 : ∀ w ∈ wsX00, w ∈ wsX5_init := by decide +kernel
  have hinX2 : ∀ w ∈ wsX20, w ∈ wsX5_init := by decide +kernel
  have hinX3 : ∀ w ∈ wsX30, w ∈ wsX5_init := by decide +kernel
  have hinX5 : ∀ w ∈ wsX50, w ∈ wsX5_init := by decide +kernel
  have hL10 := hts (.fieldLink RX5 10 "CraneGates" "dam" "LCraneGates$Dam;") (by decide +kernel)
  have hL16 := hts (.fieldLink RX5 16 "CraneGates" "trial" "LCraneGates$Dam;") (by decide +kernel)
  have hL22 := hts (.fieldLink RX5 22 "CraneGates" "history" "LCraneGates$History;") (by decide +kernel)
  have hL29 := hts (.fieldLink RX5 29 "CraneGates" "script" "LCraneGates$Script;") (by decide +kernel)
  refine lv_aload_n hx hb dX5_init_0 rfl (lv_at hl 0 rfl) ?_
  refine W.objInit hx hb hown (hts (.methodLink RX5 1 objectInit) (by decide +kernel)) (hts (.instanceMethod objectInit) (by decide +kernel)) (hts (.code objectInit ⟨#[0xb1]⟩ 1 none) (by decide +kernel)) rfl (by rw [hml]; exact hl.1) rfl dX5_init_1 (Nat.le_of_ble_eq_true rfl) (Nat.le_of_ble_eq_true rfl) ?_
  refine W.eq (g2 := F0 m 4 ls []) rfl ?_
  refine lv_aload_n hx hb dX5_init_4 rfl (lv_at hl 0 rfl) ?_
  refine va_new (ci := 0) (fs := [.null, .null, .null, .null, .int 0, .int 0, .int 0, .int 0, .int 0, .int 0, .int 0, .int 0, .int 0, .int 0, .int 0, .int 0, .int 0, .int 0]) (C := RX0) (T := TX0) (N := 18) hx hb hts hinX0 tyX0 tyX0_ok hown (hts (.classLink RX5 7 RX0) (by decide +kernel)) (hts (.instantiable RX0 18) (by decide +kernel)) (hts (.initialized RX0) (by decide +kernel)) hK hP hD hS hA rfl (fun j hj => by rcases (show j = 0 ∨ j = 1 ∨ j = 2 ∨ j = 3 ∨ j = 4 ∨ j = 5 ∨ j = 6 ∨ j = 7 ∨ j = 8 ∨ j = 9 ∨ j = 10 ∨ j = 11 ∨ j = 12 ∨ j = 13 ∨ j = 14 ∨ j = 15 ∨ j = 16 ∨ j = 17 by omega) with rfl | rfl | rfl | rfl | rfl | rfl | rfl | rfl | rfl | rfl | rfl | rfl | rfl | rfl | rfl | rfl | rfl | rfl <;> rfl) (Nat.le_of_ble_eq_true rfl) (Nat.le_of_ble_eq_true rfl) dX5_init_5 (fun a1 H hP hD hS => ?_)
  refine W.cs (cells' := 1) (slots' := 18) rfl rfl ?_
  refine lv_dup hx hb dX5_init_8 rfl ?_
  have hP : va_P G vwCl (([(k0, .inr (5, [.null, .null, .null, .null]))]) ++ [(a1, .inr (0, [.null, .null, .null, .null, .int 0, .int 0, .int 0, .int 0, .int 0, .int 0, .int 0, .int 0, .int 0, .int 0, .int 0, .int 0, .int 0, .int 0]))]) H := hP
  have hD : va_D A (([(k0, .inr (5, [.null, .null, .null, .null]))]) ++ [(a1, .inr (0, [.null, .null, .null, .null, .int 0, .int 0, .int 0, .int 0, .int 0, .int 0, .int 0, .int 0, .int 0, .int 0, .int 0, .int 0, .int 0, .int 0]))]) := hD
  refine k_ctorN (As := []) (rest := [.ref a1, .ref k0]) (ws := ([(k0, .inr (5, [.null, .null, .null, .null]))])) (x := (a1, .inr (0, [.null, .null, .null, .null, .int 0, .int 0, .int 0, .int 0, .int 0, .int 0, .int 0, .int 0, .int 0, .int 0, .int 0, .int 0, .int 0, .int 0]))) ⟨hx, hb, hml, hown, hts⟩ (c_X0_init l G cI cC cD a1 _) ⟨va_cnB (host := "CraneGates") 0 hts gX5_init_X0_init_n9 rfl rfl rfl (hN (.methodLinkNest "CraneGates" 9 yX0_init "CraneGates") (by simp [nestW])) (hts (.initialized RX0) (by decide +kernel)) (by decide +kernel) ⟨Nat.le_of_ble_eq_true rfl, Nat.le_of_ble_eq_true rfl⟩, rfl, hts (.instanceMethod yX0_init) (by decide +kernel)⟩ hK hN hO hP hD hS hA (N := 1) rfl (by decide +kernel) rfl hl.1 rfl (Nat.le_of_ble_eq_true rfl) dX5_init_9 ⟨Nat.le_of_ble_eq_true rfl, Nat.le_of_ble_eq_true rfl⟩ (fun u2 H locs hu hP9 hD9 hS => ?_)
  refine W.cs (cells' := 14) (slots' := 107) rfl rfl ?_
  subst hu
  have hP : va_P G vwCl ([(k0, .inr (5, [.null, .null, .null, .null]))] ++ wD cI u2 D0) H := hP9
  have hD : va_D A ([(k0, .inr (5, [.null, .null, .null, .null]))] ++ wD cI u2 D0) := hD9
  refine va_putF (D := G) (ci := 5) (v := .ref (u2 0)) (ty := .object "CraneGates$Dam") (C := RX5) (T := TX5) (N := 4) hx hb hts hinX5 tyX5 tyX5_ok nmX5 hown hK hP hD hS 0 rfl rfl 0 (by decide) hL10 (fun _ h9 => h9) rfl hin rfl (by decide +kernel) rfl rfl (Nat.le_of_ble_eq_true rfl) dX5_init_12 (fun H locs hP hD hS => ?_)
  have hP : va_P G vwCl ([(k0, .inr (5, [.ref (u2 0), .null, .null, .null]))] ++ wD cI u2 D0) H := hP
  have hD : va_D A ([(k0, .inr (5, [.ref (u2 0), .null, .null, .null]))] ++ wD cI u2 D0) := hD
  refine lv_aload_n hx hb dX5_init_15 rfl (lv_at hl 0 rfl) ?_
  refine va_new (ci := 0) (fs := [.null, .null, .null, .null, .int 0, .int 0, .int 0, .int 0, .int 0, .int 0, .int 0, .int 0, .int 0, .int 0, .int 0, .int 0, .int 0, .int 0]) (C := RX0) (T := TX0) (N := 18) hx hb hts hinX0 tyX0 tyX0_ok hown (hts (.classLink RX5 7 RX0) (by decide +kernel)) (hts (.instantiable RX0 18) (by decide +kernel)) (hts (.initialized RX0) (by decide +kernel)) hK hP hD hS hA rfl (fun j hj => by rcases (show j = 0 ∨ j = 1 ∨ j = 2 ∨ j = 3 ∨ j = 4 ∨ j = 5 ∨ j = 6 ∨ j = 7 ∨ j = 8 ∨ j = 9 ∨ j = 10 ∨ j = 11 ∨ j = 12 ∨ j = 13 ∨ j = 14 ∨ j = 15 ∨ j = 16 ∨ j = 17 by omega) with rfl | rfl | rfl | rfl | rfl | rfl | rfl | rfl | rfl | rfl | rfl | rfl | rfl | rfl | rfl | rfl | rfl | rfl <;> rfl) (Nat.le_of_ble_eq_true rfl) (Nat.le_of_ble_eq_true rfl) dX5_init_16 (fun a3 H hP hD hS => ?_)
  refine W.cs (cells' := 15) (slots' := 125) rfl rfl ?_
  refine lv_dup hx hb dX5_init_19 rfl ?_
  have hP : va_P G vwCl (([(k0, .inr (5, [.ref (u2 0), .null, .null, .null]))] ++ wD cI u2 D0) ++ [(a3, .inr (0, [.null, .null, .null, .null, .int 0, .int 0, .int 0, .int 0, .int 0, .int 0, .int 0, .int 0, .int 0, .int 0, .int 0, .int 0, .int 0, .int 0]))]) H := hP
  have hD : va_D A (([(k0, .inr (5, [.ref (u2 0), .null, .null, .null]))] ++ wD cI u2 D0) ++ [(a3, .inr (0, [.null, .null, .null, .null, .int 0, .int 0, .int 0, .int 0, .int 0, .int 0, .int 0, .int 0, .int 0, .int 0, .int 0, .int 0, .int 0, .int 0]))]) := hD
  refine k_ctorN (As := []) (rest := [.ref a3, .ref k0]) (ws := ([(k0, .inr (5, [.ref (u2 0), .null, .null, .null]))] ++ wD cI u2 D0)) (x := (a3, .inr (0, [.null, .null, .null, .null, .int 0, .int 0, .int 0, .int 0, .int 0, .int 0, .int 0, .int 0, .int 0, .int 0, .int 0, .int 0, .int 0, .int 0]))) ⟨hx, hb, hml, hown, hts⟩ (c_X0_init l G cI cC cD a3 _) ⟨va_cnB (host := "CraneGates") 0 hts gX5_init_X0_init_n9 rfl rfl rfl (hN (.methodLinkNest "CraneGates" 9 yX0_init "CraneGates") (by simp [nestW])) (hts (.initialized RX0) (by decide +kernel)) (by decide +kernel) ⟨Nat.le_of_ble_eq_true rfl, Nat.le_of_ble_eq_true rfl⟩, rfl, hts (.instanceMethod yX0_init) (by decide +kernel)⟩ hK hN hO hP hD hS hA (N := 15) rfl (by decide +kernel) rfl hl.1 rfl (Nat.le_of_ble_eq_true rfl) dX5_init_20 ⟨Nat.le_of_ble_eq_true rfl, Nat.le_of_ble_eq_true rfl⟩ (fun u4 H locs hu hP9 hD9 hS => ?_)
  refine W.cs (cells' := 28) (slots' := 214) rfl rfl ?_
  subst hu
  have hP : va_P G vwCl ([(k0, .inr (5, [.ref (u2 0), .null, .null, .null]))] ++ wD cI u2 D0 ++ wD cI u4 D0) H := hP9
  have hD : va_D A ([(k0, .inr (5, [.ref (u2 0), .null, .null, .null]))] ++ wD cI u2 D0 ++ wD cI u4 D0) := hD9
  refine va_putF (D := G) (ci := 5) (v := .ref (u4 0)) (ty := .object "CraneGates$Dam") (C := RX5) (T := TX5) (N := 4) hx hb hts hinX5 tyX5 tyX5_ok nmX5 hown hK hP hD hS 0 rfl rfl 1 (by decide) hL16 (fun _ h9 => h9) rfl hin rfl (by decide +kernel) rfl rfl (Nat.le_of_ble_eq_true rfl) dX5_init_23 (fun H locs hP hD hS => ?_)
  have hP : va_P G vwCl ([(k0, .inr (5, [.ref (u2 0), .ref (u4 0), .null, .null]))] ++ wD cI u2 D0 ++ wD cI u4 D0) H := hP
  have hD : va_D A ([(k0, .inr (5, [.ref (u2 0), .ref (u4 0), .null, .null]))] ++ wD cI u2 D0 ++ wD cI u4 D0) := hD
  refine lv_aload_n hx hb dX5_init_26 rfl (lv_at hl 0 rfl) ?_
  refine va_new (ci := 2) (fs := [.null, .int 0]) (C := RX2) (T := TX2) (N := 2) hx hb hts hinX2 tyX2 tyX2_ok hown (hts (.classLink RX5 19 RX2) (by decide +kernel)) (hts (.instantiable RX2 2) (by decide +kernel)) (hts (.initialized RX2) (by decide +kernel)) hK hP hD hS hA rfl (fun j hj => by rcases (show j = 0 ∨ j = 1 by omega) with rfl | rfl <;> rfl) (Nat.le_of_ble_eq_true rfl) (Nat.le_of_ble_eq_true rfl) dX5_init_27 (fun a5 H hP hD hS => ?_)
  refine W.cs (cells' := 29) (slots' := 216) rfl rfl ?_
  refine lv_dup hx hb dX5_init_30 rfl ?_
  have hP : va_P G vwCl (([(k0, .inr (5, [.ref (u2 0), .ref (u4 0), .null, .null]))] ++ wD cI u2 D0 ++ wD cI u4 D0) ++ [(a5, .inr (2, [.null, .int 0]))]) H := hP
  have hD : va_D A (([(k0, .inr (5, [.ref (u2 0), .ref (u4 0), .null, .null]))] ++ wD cI u2 D0 ++ wD cI u4 D0) ++ [(a5, .inr (2, [.null, .int 0]))]) := hD
  refine k_ctorN (As := []) (rest := [.ref a5, .ref k0]) (ws := ([(k0, .inr (5, [.ref (u2 0), .ref (u4 0), .null, .null]))] ++ wD cI u2 D0 ++ wD cI u4 D0)) (x := (a5, .inr (2, [.null, .int 0]))) ⟨hx, hb, hml, hown, hts⟩ (c_X2_init l G cI cC cD a5 _) ⟨va_cnB (host := "CraneGates") 0 hts gX5_init_X2_init_n21 rfl rfl rfl (hN (.methodLinkNest "CraneGates" 21 yX2_init "CraneGates") (by simp [nestW])) (hts (.initialized RX2) (by decide +kernel)) (by decide +kernel) ⟨Nat.le_of_ble_eq_true rfl, Nat.le_of_ble_eq_true rfl⟩, rfl, hts (.instanceMethod yX2_init) (by decide +kernel)⟩ hK hN hO hP hD hS hA (N := 29) rfl (by decide +kernel) rfl hl.1 rfl (Nat.le_of_ble_eq_true rfl) dX5_init_31 ⟨Nat.le_of_ble_eq_true rfl, Nat.le_of_ble_eq_true rfl⟩ (fun u6 H locs hu hP9 hD9 hS => ?_)
  refine W.cs (cells' := 100) (slots' := 756) rfl rfl ?_
  obtain ⟨u6, u6r⟩ := u6
  obtain ⟨hu, hrf⟩ := hu
  dsimp only at hu hrf hP9 hD9
  subst hu
  have hP : va_P G vwCl ([(k0, .inr (5, [.ref (u2 0), .ref (u4 0), .null, .null]))] ++ wD cI u2 D0 ++ wD cI u4 D0 ++ (wH cD (u6 0 1) (u6 0 2) 0 u6r ++ (wD cI (u6 3) D0 ++ (wD cI (u6 4) D0 ++ (wD cI (u6 5) D0 ++ (wD cI (u6 6) D0 ++ (wD cI (u6 7) D0))))))) H := hP9
  have hD : va_D A ([(k0, .inr (5, [.ref (u2 0), .ref (u4 0), .null, .null]))] ++ wD cI u2 D0 ++ wD cI u4 D0 ++ (wH cD (u6 0 1) (u6 0 2) 0 u6r ++ (wD cI (u6 3) D0 ++ (wD cI (u6 4) D0 ++ (wD cI (u6 5) D0 ++ (wD cI (u6 6) D0 ++ (wD cI (u6 7) D0))))))) := hD9
  refine va_putF (D := G) (ci := 5) (v := .ref (u6 0 1)) (ty := .object "CraneGates$History") (C := RX5) (T := TX5) (N := 4) hx hb hts hinX5 tyX5 tyX5_ok nmX5 hown hK hP hD hS 0 rfl rfl 2 (by decide) hL22 (fun _ h9 => h9) rfl hin rfl (by decide +kernel) rfl rfl (Nat.le_of_ble_eq_true rfl) dX5_init_34 (fun H locs hP hD hS => ?_)
  have hP : va_P G vwCl ([(k0, .inr (5, [.ref (u2 0), .ref (u4 0), .ref (u6 0 1), .null]))] ++ wD cI u2 D0 ++ wD cI u4 D0 ++ (wH cD (u6 0 1) (u6 0 2) 0 u6r ++ (wD cI (u6 3) D0 ++ (wD cI (u6 4) D0 ++ (wD cI (u6 5) D0 ++ (wD cI (u6 6) D0 ++ (wD cI (u6 7) D0))))))) H := hP
  have hD : va_D A ([(k0, .inr (5, [.ref (u2 0), .ref (u4 0), .ref (u6 0 1), .null]))] ++ wD cI u2 D0 ++ wD cI u4 D0 ++ (wH cD (u6 0 1) (u6 0 2) 0 u6r ++ (wD cI (u6 3) D0 ++ (wD cI (u6 4) D0 ++ (wD cI (u6 5) D0 ++ (wD cI (u6 6) D0 ++ (wD cI (u6 7) D0))))))) := hD
  refine lv_aload_n hx hb dX5_init_37 rfl (lv_at hl 0 rfl) ?_
  refine va_new (ci := 3) (fs := [.null, .int 0, .int 0, .int 0, .int 0, .int 0, .int 0, .int 0]) (C := RX3) (T := TX3) (N := 8) hx hb hts hinX3 tyX3 tyX3_ok hown (hts (.classLink RX5 26 RX3) (by decide +kernel)) (hts (.instantiable RX3 8) (by decide +kernel)) (hts (.initialized RX3) (by decide +kernel)) hK hP hD hS hA rfl (fun j hj => by rcases (show j = 0 ∨ j = 1 ∨ j = 2 ∨ j = 3 ∨ j = 4 ∨ j = 5 ∨ j = 6 ∨ j = 7 by omega) with rfl | rfl | rfl | rfl | rfl | rfl | rfl | rfl <;> rfl) (Nat.le_of_ble_eq_true rfl) (Nat.le_of_ble_eq_true rfl) dX5_init_38 (fun a7 H hP hD hS => ?_)
  refine W.cs (cells' := 101) (slots' := 764) rfl rfl ?_
  refine lv_dup hx hb dX5_init_41 rfl ?_
  have hP : va_P G vwCl (([(k0, .inr (5, [.ref (u2 0), .ref (u4 0), .ref (u6 0 1), .null]))] ++ wD cI u2 D0 ++ wD cI u4 D0 ++ (wH cD (u6 0 1) (u6 0 2) 0 u6r ++ (wD cI (u6 3) D0 ++ (wD cI (u6 4) D0 ++ (wD cI (u6 5) D0 ++ (wD cI (u6 6) D0 ++ (wD cI (u6 7) D0))))))) ++ [(a7, .inr (3, [.null, .int 0, .int 0, .int 0, .int 0, .int 0, .int 0, .int 0]))]) H := hP
  have hD : va_D A (([(k0, .inr (5, [.ref (u2 0), .ref (u4 0), .ref (u6 0 1), .null]))] ++ wD cI u2 D0 ++ wD cI u4 D0 ++ (wH cD (u6 0 1) (u6 0 2) 0 u6r ++ (wD cI (u6 3) D0 ++ (wD cI (u6 4) D0 ++ (wD cI (u6 5) D0 ++ (wD cI (u6 6) D0 ++ (wD cI (u6 7) D0))))))) ++ [(a7, .inr (3, [.null, .int 0, .int 0, .int 0, .int 0, .int 0, .int 0, .int 0]))]) := hD
  refine k_ctorN (As := []) (rest := [.ref a7, .ref k0]) (ws := ([(k0, .inr (5, [.ref (u2 0), .ref (u4 0), .ref (u6 0 1), .null]))] ++ wD cI u2 D0 ++ wD cI u4 D0 ++ (wH cD (u6 0 1) (u6 0 2) 0 u6r ++ (wD cI (u6 3) D0 ++ (wD cI (u6 4) D0 ++ (wD cI (u6 5) D0 ++ (wD cI (u6 6) D0 ++ (wD cI (u6 7) D0)))))))) (x := (a7, .inr (3, [.null, .int 0, .int 0, .int 0, .int 0, .int 0, .int 0, .int 0]))) ⟨hx, hb, hml, hown, hts⟩ (c_X3_init l G cI cC cD a7 _) ⟨va_cnB (host := "CraneGates") 0 hts gX5_init_X3_init_n28 rfl rfl rfl (hN (.methodLinkNest "CraneGates" 28 yX3_init "CraneGates") (by simp [nestW])) (hts (.initialized RX3) (by decide +kernel)) (by decide +kernel) ⟨Nat.le_of_ble_eq_true rfl, Nat.le_of_ble_eq_true rfl⟩, rfl, hts (.instanceMethod yX3_init) (by decide +kernel)⟩ hK hN hO hP hD hS hA (N := 101) rfl (by decide +kernel) rfl hl.1 rfl (Nat.le_of_ble_eq_true rfl) dX5_init_42 ⟨Nat.le_of_ble_eq_true rfl, Nat.le_of_ble_eq_true rfl⟩ (fun u8 H locs hu hP9 hD9 hS => ?_)
  refine W.cs (cells' := 102) (slots' := 824) rfl rfl ?_
  subst hu
  have hP : va_P G vwCl ([(k0, .inr (5, [.ref (u2 0), .ref (u4 0), .ref (u6 0 1), .null]))] ++ wD cI u2 D0 ++ wD cI u4 D0 ++ (wH cD (u6 0 1) (u6 0 2) 0 u6r ++ (wD cI (u6 3) D0 ++ (wD cI (u6 4) D0 ++ (wD cI (u6 5) D0 ++ (wD cI (u6 6) D0 ++ (wD cI (u6 7) D0)))))) ++ wS cC (u8 0) (u8 1) Z0) H := hP9
  have hD : va_D A ([(k0, .inr (5, [.ref (u2 0), .ref (u4 0), .ref (u6 0 1), .null]))] ++ wD cI u2 D0 ++ wD cI u4 D0 ++ (wH cD (u6 0 1) (u6 0 2) 0 u6r ++ (wD cI (u6 3) D0 ++ (wD cI (u6 4) D0 ++ (wD cI (u6 5) D0 ++ (wD cI (u6 6) D0 ++ (wD cI (u6 7) D0)))))) ++ wS cC (u8 0) (u8 1) Z0) := hD9
  refine va_putF (D := G) (ci := 5) (v := .ref (u8 0)) (ty := .object "CraneGates$Script") (C := RX5) (T := TX5) (N := 4) hx hb hts hinX5 tyX5 tyX5_ok nmX5 hown hK hP hD hS 0 rfl rfl 3 (by decide) hL29 (fun _ h9 => h9) rfl hin rfl (by decide +kernel) rfl rfl (Nat.le_of_ble_eq_true rfl) dX5_init_45 (fun H locs hP hD hS => ?_)
  have hP : va_P G vwCl ([(k0, .inr (5, [.ref (u2 0), .ref (u4 0), .ref (u6 0 1), .ref (u8 0)]))] ++ wD cI u2 D0 ++ wD cI u4 D0 ++ (wH cD (u6 0 1) (u6 0 2) 0 u6r ++ (wD cI (u6 3) D0 ++ (wD cI (u6 4) D0 ++ (wD cI (u6 5) D0 ++ (wD cI (u6 6) D0 ++ (wD cI (u6 7) D0)))))) ++ wS cC (u8 0) (u8 1) Z0) H := hP
  have hD : va_D A ([(k0, .inr (5, [.ref (u2 0), .ref (u4 0), .ref (u6 0 1), .ref (u8 0)]))] ++ wD cI u2 D0 ++ wD cI u4 D0 ++ (wH cD (u6 0 1) (u6 0 2) 0 u6r ++ (wD cI (u6 3) D0 ++ (wD cI (u6 4) D0 ++ (wD cI (u6 5) D0 ++ (wD cI (u6 6) D0 ++ (wD cI (u6 7) D0)))))) ++ wS cC (u8 0) (u8 1) Z0) := hD
  have hP : va_P G vwCl ((fun u : (Nat → Nat → Nat) × (Nat → Option Nat) => (wA cI cC cD u.1 X0 u.2)) ((fun i => cond (Nat.beq i 0) (fun i => cond (Nat.beq i 0) k0 ((fun i => cond (Nat.beq i 1) (u6 0 1) ((fun i => cond (Nat.beq i 2) (u6 0 2) ((fun i => cond (Nat.beq i 3) (u8 0) ((fun i => cond (Nat.beq i 4) (u8 1) ((fun _ => 0) i)) i)) i)) i)) i)) (cond (Nat.beq i 1) u2 (cond (Nat.beq i 2) u4 (cond (Nat.beq i 3) (u6 3) (cond (Nat.beq i 4) (u6 4) (cond (Nat.beq i 5) (u6 5) (cond (Nat.beq i 6) (u6 6) (cond (Nat.beq i 7) (u6 7) ((fun _ => 0)))))))))), u6r)) H := hP.sub [0, 29, 30, 101, 102, 1, 2, 3, 4, 5, 6, 7, 8, 9, 10, 11, 12, 13, 14, 15, 16, 17, 18, 19, 20, 21, 22, 23, 24, 25, 26, 27, 28, 31, 32, 33, 34, 35, 36, 37, 38, 39, 40, 41, 42, 43, 44, 45, 46, 47, 48, 49, 50, 51, 52, 53, 54, 55, 56, 57, 58, 59, 60, 61, 62, 63, 64, 65, 66, 67, 68, 69, 70, 71, 72, 73, 74, 75, 76, 77, 78, 79, 80, 81, 82, 83, 84, 85, 86, 87, 88, 89, 90, 91, 92, 93, 94, 95, 96, 97, 98, 99, 100] rfl
  have hD : va_D A ((fun u : (Nat → Nat → Nat) × (Nat → Option Nat) => (wA cI cC cD u.1 X0 u.2)) ((fun i => cond (Nat.beq i 0) (fun i => cond (Nat.beq i 0) k0 ((fun i => cond (Nat.beq i 1) (u6 0 1) ((fun i => cond (Nat.beq i 2) (u6 0 2) ((fun i => cond (Nat.beq i 3) (u8 0) ((fun i => cond (Nat.beq i 4) (u8 1) ((fun _ => 0) i)) i)) i)) i)) i)) (cond (Nat.beq i 1) u2 (cond (Nat.beq i 2) u4 (cond (Nat.beq i 3) (u6 3) (cond (Nat.beq i 4) (u6 4) (cond (Nat.beq i 5) (u6 5) (cond (Nat.beq i 6) (u6 6) (cond (Nat.beq i 7) (u6 7) ((fun _ => 0)))))))))), u6r)) := hD.sub [0, 29, 30, 101, 102, 1, 2, 3, 4, 5, 6, 7, 8, 9, 10, 11, 12, 13, 14, 15, 16, 17, 18, 19, 20, 21, 22, 23, 24, 25, 26, 27, 28, 31, 32, 33, 34, 35, 36, 37, 38, 39, 40, 41, 42, 43, 44, 45, 46, 47, 48, 49, 50, 51, 52, 53, 54, 55, 56, 57, 58, 59, 60, 61, 62, 63, 64, 65, 66, 67, 68, 69, 70, 71, 72, 73, 74, 75, 76, 77, 78, 79, 80, 81, 82, 83, 84, 85, 86, 87, 88, 89, 90, 91, 92, 93, 94, 95, 96, 97, 98, 99, 100] (by decide +kernel) rfl
  exact W.vret hx hb hr (fun t ht hW => ⟨⟨((fun i => cond (Nat.beq i 0) (fun i => cond (Nat.beq i 0) k0 ((fun i => cond (Nat.beq i 1) (u6 0 1) ((fun i => cond (Nat.beq i 2) (u6 0 2) ((fun i => cond (Nat.beq i 3) (u8 0) ((fun i => cond (Nat.beq i 4) (u8 1) ((fun _ => 0) i)) i)) i)) i)) i)) (cond (Nat.beq i 1) u2 (cond (Nat.beq i 2) u4 (cond (Nat.beq i 3) (u6 3) (cond (Nat.beq i 4) (u6 4) (cond (Nat.beq i 5) (u6 5) (cond (Nat.beq i 6) (u6 6) (cond (Nat.beq i 7) (u6 7) ((fun _ => 0)))))))))), u6r), rfl, ⟨rfl, fun i hi => (hrf i hi).trans (by rcases (show i = 0 ∨ i = 1 ∨ i = 2 ∨ i = 3 ∨ i = 4 by omega) with rfl | rfl | rfl | rfl | rfl <;> rfl)⟩, by rw [ht]; exact hP, hD⟩, hS.F ht⟩) hS.2.2 dX5_init_48
