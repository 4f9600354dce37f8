def q_X0_copyFrom (D : St) (E : St) (Q : St → Prop) : Prop :=
  q_X1_copyFrom D E (fun u_1 => q_X4_copyFrom (fun i => (mgG D u_1) (6 + i)) (fun i => E (6 + i)) (fun u_2 => q_X4_copyFrom (fun i => (mgO (mgG D u_1) u_2) (10 + i)) (fun i => E (10 + i)) (fun u_3 => isZ (E 21 0) ∧ (Q (uA (uA (uA (uA (uA (uA (uA (uA (uA (uA (uA (uA (uA (uA (uA (mgK (mgO (mgG D u_1) u_2) u_3) 14 (va_cpy (E 14) (D 14) 0 0 3)) 15 (fun _ => (E 15 0))) 16 (fun _ => (E 16 0))) 17 (fun _ => (E 17 0))) 18 (fun _ => (E 18 0))) 19 (fun _ => (E 19 0))) 20 (fun _ => (E 20 0))) 21 (fun _ => (E 21 0))) 22 (fun _ => (E 22 0))) 23 (fun _ => (E 23 0))) 24 (fun _ => (E 24 0))) 25 (fun _ => (E 25 0))) 26 (fun _ => (E 26 0))) 27 (fun _ => (E 27 0))) 28 (fun _ => (E 28 0)))))))
set_option maxHeartbeats 4000000 in
set_option maxRecDepth 100000 in
theorem c_X0_copyFrom (l : Launch) (G : va_G) (cI cC cD : ClassId) (q : Nat → Nat) (q' : Nat → Nat) (sz : Nat) (D : St) (E : St)  (Q : St → Prop) (h : q_X0_copyFrom  D E Q) : Met l yX0_copyFrom wsX0_copyFrom ({ frames := 2, cells := 0, slots := 0, locals := 61 }) (va_Pc [.ref (q 0), .ref (q' 0)] (PW G (ty3 cI cC cD) (wD cI q D ++ wD cI q' E) sz)) (va_Qv Q (BW G (fun u : St => (wD cI q u ++ wD cI q' E)) (va_A (wD cI q D ++ wD cI q' E) sz)) (va_A (wD cI q D ++ wD cI q' E) sz)) 0 0 (va_A (wD cI q D ++ wD cI q' E) sz) := by
  refine Met.ofW (cc := cX0_copyFrom) (maxL := 2) (ret := none) (by decide) rfl ?_
  intro p e s m args below meth c s₁ B hml hv
  obtain ⟨rfl, hsz, hP, hK, hD0, hN⟩ := hv
  have hx := B.exec
  have hb := B.bytes
  have hr := B.returns
  have hts := atoms_spec (ws := wsX0_copyFrom) B.pre
  have hown : s.vm.findClass RX0 = some m.cls := findClass_of_methodNamed B.named
  have hlocks := B.notSynchronized
  subst hsz
  have hD := hD0.self (sz := s.heap.size)
  generalize hAe : va_A (wD cI q D ++ wD cI q' E) s.heap.size = A at hD ⊢
  have hA : ∀ q : Nat, s.heap.size ≤ q → A q := fun q h => by rw [← hAe]; exact Or.inr h
  have hS : va_S A s.heap s.heap [] := va_S.rf
  have hl := lv_entry ([.ref (q 0), .ref (q' 0)]) (n := 2) (Nat.le_of_ble_eq_true rfl)
  rw [lg_entry_eq]
  generalize (lg_sl ([.ref (q 0), .ref (q' 0)]) ++ List.replicate (2 - (lg_sl ([.ref (q 0), .ref (q' 0)])).length) Slot.unset).toArray = ls at hl ⊢
  have hl : lv_has ls 2 [(0, .ref (q 0)), (1, .ref (q' 0))] := hl
  have hinX0 : ∀ w ∈ wsX00, w ∈ wsX0_copyFrom := by decide +kernel
  have hL12 := hts (.fieldLink RX0 12 "CraneGates$Dam" "gates" "LCraneGates$Gates;") (by decide +kernel)
  have hL23 := hts (.fieldLink RX0 23 "CraneGates$Dam" "orders" "LCraneGates$Tasks;") (by decide +kernel)
  have hL27 := hts (.fieldLink RX0 27 "CraneGates$Dam" "marks" "LCraneGates$Tasks;") (by decide +kernel)
  have hL30 := hts (.fieldLink RX0 30 "CraneGates$Dam" "settings" "[I") (by decide +kernel)
  have hL34 := hts (.fieldLink RX0 34 "CraneGates$Dam" "water" "I") (by decide +kernel)
  have hL38 := hts (.fieldLink RX0 38 "CraneGates$Dam" "taskGate" "I") (by decide +kernel)
  have hL54 := hts (.fieldLink RX0 54 "CraneGates$Dam" "inflow" "I") (by decide +kernel)
  have hL57 := hts (.fieldLink RX0 57 "CraneGates$Dam" "waterIn" "I") (by decide +kernel)
  have hL60 := hts (.fieldLink RX0 60 "CraneGates$Dam" "waterOut" "I") (by decide +kernel)
  have hL63 := hts (.fieldLink RX0 63 "CraneGates$Dam" "waterOver" "I") (by decide +kernel)
  have hL66 := hts (.fieldLink RX0 66 "CraneGates$Dam" "minutesSoFar" "I") (by decide +kernel)
  have hL69 := hts (.fieldLink RX0 69 "CraneGates$Dam" "flooded" "Z") (by decide +kernel)
  have hL73 := hts (.fieldLink RX0 73 "CraneGates$Dam" "floods" "I") (by decide +kernel)
  have hL76 := hts (.fieldLink RX0 76 "CraneGates$Dam" "place" "I") (by decide +kernel)
  have hL79 := hts (.fieldLink RX0 79 "CraneGates$Dam" "taskOpening" "I") (by decide +kernel)
  have hL82 := hts (.fieldLink RX0 82 "CraneGates$Dam" "minutesWorked" "I") (by decide +kernel)
  have hL85 := hts (.fieldLink RX0 85 "CraneGates$Dam" "tasksDone" "I") (by decide +kernel)
  have hL88 := hts (.fieldLink RX0 88 "CraneGates$Dam" "tasksLeft" "I") (by decide +kernel)
  unfold q_X0_copyFrom at h
  refine lv_aload_n hx hb dX0_copyFrom_0 rfl (lv_at hl 0 rfl) ?_
  refine va_get (D := G) (ci := 0) (v := .ref (q 1)) (C := RX0) (T := TX0) (N := 18) hx hb hts hinX0 hown hK hP 0 rfl rfl 0 (by decide) hL12 (fun _ h9 => h9) rfl dX0_copyFrom_1 ?_
  refine lv_aload_n hx hb dX0_copyFrom_4 rfl (lv_at hl 1 rfl) ?_
  refine va_get (D := G) (ci := 0) (v := .ref (q' 1)) (C := RX0) (T := TX0) (N := 18) hx hb hts hinX0 hown hK hP 14 rfl rfl 0 (by decide) hL12 (fun _ h9 => h9) rfl dX0_copyFrom_5 ?_
  refine kc_v (As := [.ref (q' 1)]) (rest := []) (wg := (fun u => (wD cI q (mgG D u) ++ wD cI q' E))) ⟨hx, hb, hml, hown, hts⟩ (c_X1_copyFrom l G cI cC cD (q 1) (q 2) (q 3) (q 4) (q 5) (q 6) (q' 1) (q' 2) (q' 3) (q' 4) (q' 5) (q' 6) _ D E  _ h) (cwV 1 hts gX0_copyFrom_X1_copyFrom rfl rfl rfl (by decide +kernel) ⟨Nat.le_of_ble_eq_true rfl, Nat.le_of_ble_eq_true rfl⟩) hK hN hP hD hS hA (em_DG2 cI q q' D E) (fun u => rp_DG2 cI q q' D E u) rfl rfl rfl rfl hl.1 rfl (Nat.le_of_ble_eq_true rfl) dX0_copyFrom_8 ⟨Nat.zero_le _, Nat.zero_le _⟩ (fun u_1 H locs h hP hD hS => ?_)
  refine lv_aload_n hx hb dX0_copyFrom_11 rfl (lv_at hl 0 rfl) ?_
  refine va_get (D := G) (ci := 0) (v := .ref (q 7)) (C := RX0) (T := TX0) (N := 18) hx hb hts hinX0 hown hK hP 0 rfl rfl 1 (by decide) hL23 (fun _ h9 => h9) rfl dX0_copyFrom_12 ?_
  refine lv_aload_n hx hb dX0_copyFrom_15 rfl (lv_at hl 1 rfl) ?_
  refine va_get (D := G) (ci := 0) (v := .ref (q' 7)) (C := RX0) (T := TX0) (N := 18) hx hb hts hinX0 hown hK hP 14 rfl rfl 1 (by decide) hL23 (fun _ h9 => h9) rfl dX0_copyFrom_16 ?_
  refine kc_v (As := [.ref (q' 7)]) (rest := []) (wg := (fun u => (wD cI q (mgO (mgG D u_1) u) ++ wD cI q' E))) ⟨hx, hb, hml, hown, hts⟩ (c_X4_copyFrom l G cI cC cD (q 7) (q 8) (q 9) (q' 7) (q' 8) (q' 9) _ (fun i => (mgG D u_1) (6 + i)) (fun i => E (6 + i))  _ h) (cwV 1 hts gX0_copyFrom_X4_copyFrom rfl rfl rfl (by decide +kernel) ⟨Nat.le_of_ble_eq_true rfl, Nat.le_of_ble_eq_true rfl⟩) hK hN hP hD hS hA (em_DO2 cI q q' (mgG D u_1) E) (fun u => rp_DO2 cI q q' (mgG D u_1) E u) rfl rfl rfl rfl hl.1 rfl (Nat.le_of_ble_eq_true rfl) dX0_copyFrom_19 ⟨Nat.zero_le _, Nat.zero_le _⟩ (fun u_2 H locs h hP hD hS => ?_)
  refine lv_aload_n hx hb dX0_copyFrom_22 rfl (lv_at hl 0 rfl) ?_
  refine va_get (D := G) (ci := 0) (v := .ref (q 10)) (C := RX0) (T := TX0) (N := 18) hx hb hts hinX0 hown hK hP 0 rfl rfl 2 (by decide) hL27 (fun _ h9 => h9) rfl dX0_copyFrom_23 ?_
  refine lv_aload_n hx hb dX0_copyFrom_26 rfl (lv_at hl 1 rfl) ?_
  refine va_get (D := G) (ci := 0) (v := .ref (q' 10)) (C := RX0) (T := TX0) (N := 18) hx hb hts hinX0 hown hK hP 14 rfl rfl 2 (by decide) hL27 (fun _ h9 => h9) rfl dX0_copyFrom_27 ?_
  refine kc_v (As := [.ref (q' 10)]) (rest := []) (wg := (fun u => (wD cI q (mgK (mgO (mgG D u_1) u_2) u) ++ wD cI q' E))) ⟨hx, hb, hml, hown, hts⟩ (c_X4_copyFrom l G cI cC cD (q 10) (q 11) (q 12) (q' 10) (q' 11) (q' 12) _ (fun i => (mgO (mgG D u_1) u_2) (10 + i)) (fun i => E (10 + i))  _ h) (cwV 1 hts gX0_copyFrom_X4_copyFrom rfl rfl rfl (by decide +kernel) ⟨Nat.le_of_ble_eq_true rfl, Nat.le_of_ble_eq_true rfl⟩) hK hN hP hD hS hA (em_DK2 cI q q' (mgO (mgG D u_1) u_2) E) (fun u => rp_DK2 cI q q' (mgO (mgG D u_1) u_2) E u) rfl rfl rfl rfl hl.1 rfl (Nat.le_of_ble_eq_true rfl) dX0_copyFrom_30 ⟨Nat.zero_le _, Nat.zero_le _⟩ (fun u_3 H locs h hP hD hS => ?_)
  refine lv_aload_n hx hb dX0_copyFrom_33 rfl (lv_at hl 1 rfl) ?_
  refine va_get (D := G) (ci := 0) (v := .ref (q' 13)) (C := RX0) (T := TX0) (N := 18) hx hb hts hinX0 hown hK hP 14 rfl rfl 3 (by decide) hL30 (fun _ h9 => h9) rfl dX0_copyFrom_34 ?_
  refine lv_iconst (v := 0) hx hb dX0_copyFrom_37 (by decide) ?_
  refine lv_aload_n hx hb dX0_copyFrom_38 rfl (lv_at hl 0 rfl) ?_
  refine va_get (D := G) (ci := 0) (v := .ref (q 13)) (C := RX0) (T := TX0) (N := 18) hx hb hts hinX0 hown hK hP 0 rfl rfl 3 (by decide) hL30 (fun _ h9 => h9) rfl dX0_copyFrom_39 ?_
  refine lv_iconst (v := 0) hx hb dX0_copyFrom_42 (by decide) ?_
  refine lv_iconst (v := 3) hx hb dX0_copyFrom_43 (by decide) ?_
  refine va_copyi (f := (E 14)) (g := (D 14)) (ty := .int) hx hb (hl.1 ▸ hml) hown (hts (.methodLink RX0 48 arraycopyName) (by decide +kernel)) (hts (.native arraycopyName) (by decide +kernel)) (hts (.static arraycopyName) (by decide +kernel)) (hts (.initialized "java/lang/System") (by decide +kernel)) hK hP hD hS 27 13 0 0 rfl rfl rfl rfl rfl (by decide) (by decide) (by decide) (by decide) (by decide) (fun i _ => rfl) (Nat.le_of_ble_eq_true rfl) (Nat.le_of_ble_eq_true rfl) dX0_copyFrom_44 (fun H locs hP hD hS => ?_)
  have hP : va_P G vwCl (wD cI q (uA (mgK (mgO (mgG D u_1) u_2) u_3) 14 (va_cpy (E 14) (D 14) 0 0 3)) ++ wD cI q' E) H := hP
  have hD : va_D A (wD cI q (uA (mgK (mgO (mgG D u_1) u_2) u_3) 14 (va_cpy (E 14) (D 14) 0 0 3)) ++ wD cI q' E) := hD
  refine lv_aload_n hx hb dX0_copyFrom_47 rfl (lv_at hl 0 rfl) ?_
  refine lv_aload_n hx hb dX0_copyFrom_48 rfl (lv_at hl 1 rfl) ?_
  refine va_get (D := G) (ci := 0) (v := .int (E 15 0)) (C := RX0) (T := TX0) (N := 18) hx hb hts hinX0 hown hK hP 14 rfl rfl 4 (by decide) hL34 (fun _ h9 => h9) rfl dX0_copyFrom_49 ?_
  refine va_put (D := G) (ci := 0) (v := .int (E 15 0)) (ty := .int) (C := RX0) (T := TX0) (N := 18) hx hb hts hinX0 tyX0 tyX0_ok nmX0 hown hK hP hD hS 0 rfl rfl 4 (by decide) hL34 (fun _ h9 => h9) rfl (by decide +kernel) rfl rfl (Nat.le_of_ble_eq_true rfl) dX0_copyFrom_52 (fun H locs hP hD hS => ?_)
  have hP : va_P G vwCl (wD cI q (uA (uA (mgK (mgO (mgG D u_1) u_2) u_3) 14 (va_cpy (E 14) (D 14) 0 0 3)) 15 (fun _ => (E 15 0))) ++ wD cI q' E) H := hP
  have hD : va_D A (wD cI q (uA (uA (mgK (mgO (mgG D u_1) u_2) u_3) 14 (va_cpy (E 14) (D 14) 0 0 3)) 15 (fun _ => (E 15 0))) ++ wD cI q' E) := hD
  refine lv_aload_n hx hb dX0_copyFrom_55 rfl (lv_at hl 0 rfl) ?_
  refine lv_aload_n hx hb dX0_copyFrom_56 rfl (lv_at hl 1 rfl) ?_
  refine va_get (D := G) (ci := 0) (v := .int (E 16 0)) (C := RX0) (T := TX0) (N := 18) hx hb hts hinX0 hown hK hP 14 rfl rfl 5 (by decide) hL54 (fun _ h9 => h9) rfl dX0_copyFrom_57 ?_
  refine va_put (D := G) (ci := 0) (v := .int (E 16 0)) (ty := .int) (C := RX0) (T := TX0) (N := 18) hx hb hts hinX0 tyX0 tyX0_ok nmX0 hown hK hP hD hS 0 rfl rfl 5 (by decide) hL54 (fun _ h9 => h9) rfl (by decide +kernel) rfl rfl (Nat.le_of_ble_eq_true rfl) dX0_copyFrom_60 (fun H locs hP hD hS => ?_)
  have hP : va_P G vwCl (wD cI q (uA (uA (uA (mgK (mgO (mgG D u_1) u_2) u_3) 14 (va_cpy (E 14) (D 14) 0 0 3)) 15 (fun _ => (E 15 0))) 16 (fun _ => (E 16 0))) ++ wD cI q' E) H := hP
  have hD : va_D A (wD cI q (uA (uA (uA (mgK (mgO (mgG D u_1) u_2) u_3) 14 (va_cpy (E 14) (D 14) 0 0 3)) 15 (fun _ => (E 15 0))) 16 (fun _ => (E 16 0))) ++ wD cI q' E) := hD
  refine lv_aload_n hx hb dX0_copyFrom_63 rfl (lv_at hl 0 rfl) ?_
  refine lv_aload_n hx hb dX0_copyFrom_64 rfl (lv_at hl 1 rfl) ?_
  refine va_get (D := G) (ci := 0) (v := .int (E 17 0)) (C := RX0) (T := TX0) (N := 18) hx hb hts hinX0 hown hK hP 14 rfl rfl 6 (by decide) hL57 (fun _ h9 => h9) rfl dX0_copyFrom_65 ?_
  refine va_put (D := G) (ci := 0) (v := .int (E 17 0)) (ty := .int) (C := RX0) (T := TX0) (N := 18) hx hb hts hinX0 tyX0 tyX0_ok nmX0 hown hK hP hD hS 0 rfl rfl 6 (by decide) hL57 (fun _ h9 => h9) rfl (by decide +kernel) rfl rfl (Nat.le_of_ble_eq_true rfl) dX0_copyFrom_68 (fun H locs hP hD hS => ?_)
  have hP : va_P G vwCl (wD cI q (uA (uA (uA (uA (mgK (mgO (mgG D u_1) u_2) u_3) 14 (va_cpy (E 14) (D 14) 0 0 3)) 15 (fun _ => (E 15 0))) 16 (fun _ => (E 16 0))) 17 (fun _ => (E 17 0))) ++ wD cI q' E) H := hP
  have hD : va_D A (wD cI q (uA (uA (uA (uA (mgK (mgO (mgG D u_1) u_2) u_3) 14 (va_cpy (E 14) (D 14) 0 0 3)) 15 (fun _ => (E 15 0))) 16 (fun _ => (E 16 0))) 17 (fun _ => (E 17 0))) ++ wD cI q' E) := hD
  refine lv_aload_n hx hb dX0_copyFrom_71 rfl (lv_at hl 0 rfl) ?_
  refine lv_aload_n hx hb dX0_copyFrom_72 rfl (lv_at hl 1 rfl) ?_
  refine va_get (D := G) (ci := 0) (v := .int (E 18 0)) (C := RX0) (T := TX0) (N := 18) hx hb hts hinX0 hown hK hP 14 rfl rfl 7 (by decide) hL60 (fun _ h9 => h9) rfl dX0_copyFrom_73 ?_
  refine va_put (D := G) (ci := 0) (v := .int (E 18 0)) (ty := .int) (C := RX0) (T := TX0) (N := 18) hx hb hts hinX0 tyX0 tyX0_ok nmX0 hown hK hP hD hS 0 rfl rfl 7 (by decide) hL60 (fun _ h9 => h9) rfl (by decide +kernel) rfl rfl (Nat.le_of_ble_eq_true rfl) dX0_copyFrom_76 (fun H locs hP hD hS => ?_)
  have hP : va_P G vwCl (wD cI q (uA (uA (uA (uA (uA (mgK (mgO (mgG D u_1) u_2) u_3) 14 (va_cpy (E 14) (D 14) 0 0 3)) 15 (fun _ => (E 15 0))) 16 (fun _ => (E 16 0))) 17 (fun _ => (E 17 0))) 18 (fun _ => (E 18 0))) ++ wD cI q' E) H := hP
  have hD : va_D A (wD cI q (uA (uA (uA (uA (uA (mgK (mgO (mgG D u_1) u_2) u_3) 14 (va_cpy (E 14) (D 14) 0 0 3)) 15 (fun _ => (E 15 0))) 16 (fun _ => (E 16 0))) 17 (fun _ => (E 17 0))) 18 (fun _ => (E 18 0))) ++ wD cI q' E) := hD
  refine lv_aload_n hx hb dX0_copyFrom_79 rfl (lv_at hl 0 rfl) ?_
  refine lv_aload_n hx hb dX0_copyFrom_80 rfl (lv_at hl 1 rfl) ?_
  refine va_get (D := G) (ci := 0) (v := .int (E 19 0)) (C := RX0) (T := TX0) (N := 18) hx hb hts hinX0 hown hK hP 14 rfl rfl 8 (by decide) hL63 (fun _ h9 => h9) rfl dX0_copyFrom_81 ?_
  refine va_put (D := G) (ci := 0) (v := .int (E 19 0)) (ty := .int) (C := RX0) (T := TX0) (N := 18) hx hb hts hinX0 tyX0 tyX0_ok nmX0 hown hK hP hD hS 0 rfl rfl 8 (by decide) hL63 (fun _ h9 => h9) rfl (by decide +kernel) rfl rfl (Nat.le_of_ble_eq_true rfl) dX0_copyFrom_84 (fun H locs hP hD hS => ?_)
  have hP : va_P G vwCl (wD cI q (uA (uA (uA (uA (uA (uA (mgK (mgO (mgG D u_1) u_2) u_3) 14 (va_cpy (E 14) (D 14) 0 0 3)) 15 (fun _ => (E 15 0))) 16 (fun _ => (E 16 0))) 17 (fun _ => (E 17 0))) 18 (fun _ => (E 18 0))) 19 (fun _ => (E 19 0))) ++ wD cI q' E) H := hP
  have hD : va_D A (wD cI q (uA (uA (uA (uA (uA (uA (mgK (mgO (mgG D u_1) u_2) u_3) 14 (va_cpy (E 14) (D 14) 0 0 3)) 15 (fun _ => (E 15 0))) 16 (fun _ => (E 16 0))) 17 (fun _ => (E 17 0))) 18 (fun _ => (E 18 0))) 19 (fun _ => (E 19 0))) ++ wD cI q' E) := hD
  refine lv_aload_n hx hb dX0_copyFrom_87 rfl (lv_at hl 0 rfl) ?_
  refine lv_aload_n hx hb dX0_copyFrom_88 rfl (lv_at hl 1 rfl) ?_
  refine va_get (D := G) (ci := 0) (v := .int (E 20 0)) (C := RX0) (T := TX0) (N := 18) hx hb hts hinX0 hown hK hP 14 rfl rfl 9 (by decide) hL66 (fun _ h9 => h9) rfl dX0_copyFrom_89 ?_
  refine va_put (D := G) (ci := 0) (v := .int (E 20 0)) (ty := .int) (C := RX0) (T := TX0) (N := 18) hx hb hts hinX0 tyX0 tyX0_ok nmX0 hown hK hP hD hS 0 rfl rfl 9 (by decide) hL66 (fun _ h9 => h9) rfl (by decide +kernel) rfl rfl (Nat.le_of_ble_eq_true rfl) dX0_copyFrom_92 (fun H locs hP hD hS => ?_)
  have hP : va_P G vwCl (wD cI q (uA (uA (uA (uA (uA (uA (uA (mgK (mgO (mgG D u_1) u_2) u_3) 14 (va_cpy (E 14) (D 14) 0 0 3)) 15 (fun _ => (E 15 0))) 16 (fun _ => (E 16 0))) 17 (fun _ => (E 17 0))) 18 (fun _ => (E 18 0))) 19 (fun _ => (E 19 0))) 20 (fun _ => (E 20 0))) ++ wD cI q' E) H := hP
  have hD : va_D A (wD cI q (uA (uA (uA (uA (uA (uA (uA (mgK (mgO (mgG D u_1) u_2) u_3) 14 (va_cpy (E 14) (D 14) 0 0 3)) 15 (fun _ => (E 15 0))) 16 (fun _ => (E 16 0))) 17 (fun _ => (E 17 0))) 18 (fun _ => (E 18 0))) 19 (fun _ => (E 19 0))) 20 (fun _ => (E 20 0))) ++ wD cI q' E) := hD
  refine lv_aload_n hx hb dX0_copyFrom_95 rfl (lv_at hl 0 rfl) ?_
  refine lv_aload_n hx hb dX0_copyFrom_96 rfl (lv_at hl 1 rfl) ?_
  refine va_get (D := G) (ci := 0) (v := .int (E 21 0)) (C := RX0) (T := TX0) (N := 18) hx hb hts hinX0 hown hK hP 14 rfl rfl 10 (by decide) hL69 (fun _ h9 => h9) rfl dX0_copyFrom_97 ?_
  obtain ⟨hz_4, h⟩ := h
  refine va_put (D := G) (ci := 0) (v := .int (E 21 0)) (ty := .boolean) (C := RX0) (T := TX0) (N := 18) hx hb hts hinX0 tyX0 tyX0_ok nmX0 hown hK hP hD hS 0 rfl rfl 10 (by decide) hL69 (fun _ h9 => h9) rfl (by decide +kernel) (isZ_n hz_4) (isZ_f hz_4) (Nat.le_of_ble_eq_true rfl) dX0_copyFrom_100 (fun H locs hP hD hS => ?_)
  have hP : va_P G vwCl (wD cI q (uA (uA (uA (uA (uA (uA (uA (uA (mgK (mgO (mgG D u_1) u_2) u_3) 14 (va_cpy (E 14) (D 14) 0 0 3)) 15 (fun _ => (E 15 0))) 16 (fun _ => (E 16 0))) 17 (fun _ => (E 17 0))) 18 (fun _ => (E 18 0))) 19 (fun _ => (E 19 0))) 20 (fun _ => (E 20 0))) 21 (fun _ => (E 21 0))) ++ wD cI q' E) H := hP
  have hD : va_D A (wD cI q (uA (uA (uA (uA (uA (uA (uA (uA (mgK (mgO (mgG D u_1) u_2) u_3) 14 (va_cpy (E 14) (D 14) 0 0 3)) 15 (fun _ => (E 15 0))) 16 (fun _ => (E 16 0))) 17 (fun _ => (E 17 0))) 18 (fun _ => (E 18 0))) 19 (fun _ => (E 19 0))) 20 (fun _ => (E 20 0))) 21 (fun _ => (E 21 0))) ++ wD cI q' E) := hD
  refine lv_aload_n hx hb dX0_copyFrom_103 rfl (lv_at hl 0 rfl) ?_
  refine lv_aload_n hx hb dX0_copyFrom_104 rfl (lv_at hl 1 rfl) ?_
  refine va_get (D := G) (ci := 0) (v := .int (E 22 0)) (C := RX0) (T := TX0) (N := 18) hx hb hts hinX0 hown hK hP 14 rfl rfl 11 (by decide) hL73 (fun _ h9 => h9) rfl dX0_copyFrom_105 ?_
  refine va_put (D := G) (ci := 0) (v := .int (E 22 0)) (ty := .int) (C := RX0) (T := TX0) (N := 18) hx hb hts hinX0 tyX0 tyX0_ok nmX0 hown hK hP hD hS 0 rfl rfl 11 (by decide) hL73 (fun _ h9 => h9) rfl (by decide +kernel) rfl rfl (Nat.le_of_ble_eq_true rfl) dX0_copyFrom_108 (fun H locs hP hD hS => ?_)
  have hP : va_P G vwCl (wD cI q (uA (uA (uA (uA (uA (uA (uA (uA (uA (mgK (mgO (mgG D u_1) u_2) u_3) 14 (va_cpy (E 14) (D 14) 0 0 3)) 15 (fun _ => (E 15 0))) 16 (fun _ => (E 16 0))) 17 (fun _ => (E 17 0))) 18 (fun _ => (E 18 0))) 19 (fun _ => (E 19 0))) 20 (fun _ => (E 20 0))) 21 (fun _ => (E 21 0))) 22 (fun _ => (E 22 0))) ++ wD cI q' E) H := hP
  have hD : va_D A (wD cI q (uA (uA (uA (uA (uA (uA (uA (uA (uA (mgK (mgO (mgG D u_1) u_2) u_3) 14 (va_cpy (E 14) (D 14) 0 0 3)) 15 (fun _ => (E 15 0))) 16 (fun _ => (E 16 0))) 17 (fun _ => (E 17 0))) 18 (fun _ => (E 18 0))) 19 (fun _ => (E 19 0))) 20 (fun _ => (E 20 0))) 21 (fun _ => (E 21 0))) 22 (fun _ => (E 22 0))) ++ wD cI q' E) := hD
  refine lv_aload_n hx hb dX0_copyFrom_111 rfl (lv_at hl 0 rfl) ?_
  refine lv_aload_n hx hb dX0_copyFrom_112 rfl (lv_at hl 1 rfl) ?_
  refine va_get (D := G) (ci := 0) (v := .int (E 23 0)) (C := RX0) (T := TX0) (N := 18) hx hb hts hinX0 hown hK hP 14 rfl rfl 12 (by decide) hL76 (fun _ h9 => h9) rfl dX0_copyFrom_113 ?_
  refine va_put (D := G) (ci := 0) (v := .int (E 23 0)) (ty := .int) (C := RX0) (T := TX0) (N := 18) hx hb hts hinX0 tyX0 tyX0_ok nmX0 hown hK hP hD hS 0 rfl rfl 12 (by decide) hL76 (fun _ h9 => h9) rfl (by decide +kernel) rfl rfl (Nat.le_of_ble_eq_true rfl) dX0_copyFrom_116 (fun H locs hP hD hS => ?_)
  have hP : va_P G vwCl (wD cI q (uA (uA (uA (uA (uA (uA (uA (uA (uA (uA (mgK (mgO (mgG D u_1) u_2) u_3) 14 (va_cpy (E 14) (D 14) 0 0 3)) 15 (fun _ => (E 15 0))) 16 (fun _ => (E 16 0))) 17 (fun _ => (E 17 0))) 18 (fun _ => (E 18 0))) 19 (fun _ => (E 19 0))) 20 (fun _ => (E 20 0))) 21 (fun _ => (E 21 0))) 22 (fun _ => (E 22 0))) 23 (fun _ => (E 23 0))) ++ wD cI q' E) H := hP
  have hD : va_D A (wD cI q (uA (uA (uA (uA (uA (uA (uA (uA (uA (uA (mgK (mgO (mgG D u_1) u_2) u_3) 14 (va_cpy (E 14) (D 14) 0 0 3)) 15 (fun _ => (E 15 0))) 16 (fun _ => (E 16 0))) 17 (fun _ => (E 17 0))) 18 (fun _ => (E 18 0))) 19 (fun _ => (E 19 0))) 20 (fun _ => (E 20 0))) 21 (fun _ => (E 21 0))) 22 (fun _ => (E 22 0))) 23 (fun _ => (E 23 0))) ++ wD cI q' E) := hD
  refine lv_aload_n hx hb dX0_copyFrom_119 rfl (lv_at hl 0 rfl) ?_
  refine lv_aload_n hx hb dX0_copyFrom_120 rfl (lv_at hl 1 rfl) ?_
  refine va_get (D := G) (ci := 0) (v := .int (E 24 0)) (C := RX0) (T := TX0) (N := 18) hx hb hts hinX0 hown hK hP 14 rfl rfl 13 (by decide) hL38 (fun _ h9 => h9) rfl dX0_copyFrom_121 ?_
  refine va_put (D := G) (ci := 0) (v := .int (E 24 0)) (ty := .int) (C := RX0) (T := TX0) (N := 18) hx hb hts hinX0 tyX0 tyX0_ok nmX0 hown hK hP hD hS 0 rfl rfl 13 (by decide) hL38 (fun _ h9 => h9) rfl (by decide +kernel) rfl rfl (Nat.le_of_ble_eq_true rfl) dX0_copyFrom_124 (fun H locs hP hD hS => ?_)
  have hP : va_P G vwCl (wD cI q (uA (uA (uA (uA (uA (uA (uA (uA (uA (uA (uA (mgK (mgO (mgG D u_1) u_2) u_3) 14 (va_cpy (E 14) (D 14) 0 0 3)) 15 (fun _ => (E 15 0))) 16 (fun _ => (E 16 0))) 17 (fun _ => (E 17 0))) 18 (fun _ => (E 18 0))) 19 (fun _ => (E 19 0))) 20 (fun _ => (E 20 0))) 21 (fun _ => (E 21 0))) 22 (fun _ => (E 22 0))) 23 (fun _ => (E 23 0))) 24 (fun _ => (E 24 0))) ++ wD cI q' E) H := hP
  have hD : va_D A (wD cI q (uA (uA (uA (uA (uA (uA (uA (uA (uA (uA (uA (mgK (mgO (mgG D u_1) u_2) u_3) 14 (va_cpy (E 14) (D 14) 0 0 3)) 15 (fun _ => (E 15 0))) 16 (fun _ => (E 16 0))) 17 (fun _ => (E 17 0))) 18 (fun _ => (E 18 0))) 19 (fun _ => (E 19 0))) 20 (fun _ => (E 20 0))) 21 (fun _ => (E 21 0))) 22 (fun _ => (E 22 0))) 23 (fun _ => (E 23 0))) 24 (fun _ => (E 24 0))) ++ wD cI q' E) := hD
  refine lv_aload_n hx hb dX0_copyFrom_127 rfl (lv_at hl 0 rfl) ?_
  refine lv_aload_n hx hb dX0_copyFrom_128 rfl (lv_at hl 1 rfl) ?_
  refine va_get (D := G) (ci := 0) (v := .int (E 25 0)) (C := RX0) (T := TX0) (N := 18) hx hb hts hinX0 hown hK hP 14 rfl rfl 14 (by decide) hL79 (fun _ h9 => h9) rfl dX0_copyFrom_129 ?_
  refine va_put (D := G) (ci := 0) (v := .int (E 25 0)) (ty := .int) (C := RX0) (T := TX0) (N := 18) hx hb hts hinX0 tyX0 tyX0_ok nmX0 hown hK hP hD hS 0 rfl rfl 14 (by decide) hL79 (fun _ h9 => h9) rfl (by decide +kernel) rfl rfl (Nat.le_of_ble_eq_true rfl) dX0_copyFrom_132 (fun H locs hP hD hS => ?_)
  have hP : va_P G vwCl (wD cI q (uA (uA (uA (uA (uA (uA (uA (uA (uA (uA (uA (uA (mgK (mgO (mgG D u_1) u_2) u_3) 14 (va_cpy (E 14) (D 14) 0 0 3)) 15 (fun _ => (E 15 0))) 16 (fun _ => (E 16 0))) 17 (fun _ => (E 17 0))) 18 (fun _ => (E 18 0))) 19 (fun _ => (E 19 0))) 20 (fun _ => (E 20 0))) 21 (fun _ => (E 21 0))) 22 (fun _ => (E 22 0))) 23 (fun _ => (E 23 0))) 24 (fun _ => (E 24 0))) 25 (fun _ => (E 25 0))) ++ wD cI q' E) H := hP
  have hD : va_D A (wD cI q (uA (uA (uA (uA (uA (uA (uA (uA (uA (uA (uA (uA (mgK (mgO (mgG D u_1) u_2) u_3) 14 (va_cpy (E 14) (D 14) 0 0 3)) 15 (fun _ => (E 15 0))) 16 (fun _ => (E 16 0))) 17 (fun _ => (E 17 0))) 18 (fun _ => (E 18 0))) 19 (fun _ => (E 19 0))) 20 (fun _ => (E 20 0))) 21 (fun _ => (E 21 0))) 22 (fun _ => (E 22 0))) 23 (fun _ => (E 23 0))) 24 (fun _ => (E 24 0))) 25 (fun _ => (E 25 0))) ++ wD cI q' E) := hD
  refine lv_aload_n hx hb dX0_copyFrom_135 rfl (lv_at hl 0 rfl) ?_
  refine lv_aload_n hx hb dX0_copyFrom_136 rfl (lv_at hl 1 rfl) ?_
  refine va_get (D := G) (ci := 0) (v := .int (E 26 0)) (C := RX0) (T := TX0) (N := 18) hx hb hts hinX0 hown hK hP 14 rfl rfl 15 (by decide) hL82 (fun _ h9 => h9) rfl dX0_copyFrom_137 ?_
  refine va_put (D := G) (ci := 0) (v := .int (E 26 0)) (ty := .int) (C := RX0) (T := TX0) (N := 18) hx hb hts hinX0 tyX0 tyX0_ok nmX0 hown hK hP hD hS 0 rfl rfl 15 (by decide) hL82 (fun _ h9 => h9) rfl (by decide +kernel) rfl rfl (Nat.le_of_ble_eq_true rfl) dX0_copyFrom_140 (fun H locs hP hD hS => ?_)
  have hP : va_P G vwCl (wD cI q (uA (uA (uA (uA (uA (uA (uA (uA (uA (uA (uA (uA (uA (mgK (mgO (mgG D u_1) u_2) u_3) 14 (va_cpy (E 14) (D 14) 0 0 3)) 15 (fun _ => (E 15 0))) 16 (fun _ => (E 16 0))) 17 (fun _ => (E 17 0))) 18 (fun _ => (E 18 0))) 19 (fun _ => (E 19 0))) 20 (fun _ => (E 20 0))) 21 (fun _ => (E 21 0))) 22 (fun _ => (E 22 0))) 23 (fun _ => (E 23 0))) 24 (fun _ => (E 24 0))) 25 (fun _ => (E 25 0))) 26 (fun _ => (E 26 0))) ++ wD cI q' E) H := hP
  have hD : va_D A (wD cI q (uA (uA (uA (uA (uA (uA (uA (uA (uA (uA (uA (uA (uA (mgK (mgO (mgG D u_1) u_2) u_3) 14 (va_cpy (E 14) (D 14) 0 0 3)) 15 (fun _ => (E 15 0))) 16 (fun _ => (E 16 0))) 17 (fun _ => (E 17 0))) 18 (fun _ => (E 18 0))) 19 (fun _ => (E 19 0))) 20 (fun _ => (E 20 0))) 21 (fun _ => (E 21 0))) 22 (fun _ => (E 22 0))) 23 (fun _ => (E 23 0))) 24 (fun _ => (E 24 0))) 25 (fun _ => (E 25 0))) 26 (fun _ => (E 26 0))) ++ wD cI q' E) := hD
  refine lv_aload_n hx hb dX0_copyFrom_143 rfl (lv_at hl 0 rfl) ?_
  refine lv_aload_n hx hb dX0_copyFrom_144 rfl (lv_at hl 1 rfl) ?_
  refine va_get (D := G) (ci := 0) (v := .int (E 27 0)) (C := RX0) (T := TX0) (N := 18) hx hb hts hinX0 hown hK hP 14 rfl rfl 16 (by decide) hL85 (fun _ h9 => h9) rfl dX0_copyFrom_145 ?_
  refine va_put (D := G) (ci := 0) (v := .int (E 27 0)) (ty := .int) (C := RX0) (T := TX0) (N := 18) hx hb hts hinX0 tyX0 tyX0_ok nmX0 hown hK hP hD hS 0 rfl rfl 16 (by decide) hL85 (fun _ h9 => h9) rfl (by decide +kernel) rfl rfl (Nat.le_of_ble_eq_true rfl) dX0_copyFrom_148 (fun H locs hP hD hS => ?_)
  have hP : va_P G vwCl (wD cI q (uA (uA (uA (uA (uA (uA (uA (uA (uA (uA (uA (uA (uA (uA (mgK (mgO (mgG D u_1) u_2) u_3) 14 (va_cpy (E 14) (D 14) 0 0 3)) 15 (fun _ => (E 15 0))) 16 (fun _ => (E 16 0))) 17 (fun _ => (E 17 0))) 18 (fun _ => (E 18 0))) 19 (fun _ => (E 19 0))) 20 (fun _ => (E 20 0))) 21 (fun _ => (E 21 0))) 22 (fun _ => (E 22 0))) 23 (fun _ => (E 23 0))) 24 (fun _ => (E 24 0))) 25 (fun _ => (E 25 0))) 26 (fun _ => (E 26 0))) 27 (fun _ => (E 27 0))) ++ wD cI q' E) H := hP
  have hD : va_D A (wD cI q (uA (uA (uA (uA (uA (uA (uA (uA (uA (uA (uA (uA (uA (uA (mgK (mgO (mgG D u_1) u_2) u_3) 14 (va_cpy (E 14) (D 14) 0 0 3)) 15 (fun _ => (E 15 0))) 16 (fun _ => (E 16 0))) 17 (fun _ => (E 17 0))) 18 (fun _ => (E 18 0))) 19 (fun _ => (E 19 0))) 20 (fun _ => (E 20 0))) 21 (fun _ => (E 21 0))) 22 (fun _ => (E 22 0))) 23 (fun _ => (E 23 0))) 24 (fun _ => (E 24 0))) 25 (fun _ => (E 25 0))) 26 (fun _ => (E 26 0))) 27 (fun _ => (E 27 0))) ++ wD cI q' E) := hD
  refine lv_aload_n hx hb dX0_copyFrom_151 rfl (lv_at hl 0 rfl) ?_
  refine lv_aload_n hx hb dX0_copyFrom_152 rfl (lv_at hl 1 rfl) ?_
  refine va_get (D := G) (ci := 0) (v := .int (E 28 0)) (C := RX0) (T := TX0) (N := 18) hx hb hts hinX0 hown hK hP 14 rfl rfl 17 (by decide) hL88 (fun _ h9 => h9) rfl dX0_copyFrom_153 ?_
  refine va_put (D := G) (ci := 0) (v := .int (E 28 0)) (ty := .int) (C := RX0) (T := TX0) (N := 18) hx hb hts hinX0 tyX0 tyX0_ok nmX0 hown hK hP hD hS 0 rfl rfl 17 (by decide) hL88 (fun _ h9 => h9) rfl (by decide +kernel) rfl rfl (Nat.le_of_ble_eq_true rfl) dX0_copyFrom_156 (fun H locs hP hD hS => ?_)
  have hP : va_P G vwCl (wD cI q (uA (uA (uA (uA (uA (uA (uA (uA (uA (uA (uA (uA (uA (uA (uA (mgK (mgO (mgG D u_1) u_2) u_3) 14 (va_cpy (E 14) (D 14) 0 0 3)) 15 (fun _ => (E 15 0))) 16 (fun _ => (E 16 0))) 17 (fun _ => (E 17 0))) 18 (fun _ => (E 18 0))) 19 (fun _ => (E 19 0))) 20 (fun _ => (E 20 0))) 21 (fun _ => (E 21 0))) 22 (fun _ => (E 22 0))) 23 (fun _ => (E 23 0))) 24 (fun _ => (E 24 0))) 25 (fun _ => (E 25 0))) 26 (fun _ => (E 26 0))) 27 (fun _ => (E 27 0))) 28 (fun _ => (E 28 0))) ++ wD cI q' E) H := hP
  have hD : va_D A (wD cI q (uA (uA (uA (uA (uA (uA (uA (uA (uA (uA (uA (uA (uA (uA (uA (mgK (mgO (mgG D u_1) u_2) u_3) 14 (va_cpy (E 14) (D 14) 0 0 3)) 15 (fun _ => (E 15 0))) 16 (fun _ => (E 16 0))) 17 (fun _ => (E 17 0))) 18 (fun _ => (E 18 0))) 19 (fun _ => (E 19 0))) 20 (fun _ => (E 20 0))) 21 (fun _ => (E 21 0))) 22 (fun _ => (E 22 0))) 23 (fun _ => (E 23 0))) 24 (fun _ => (E 24 0))) 25 (fun _ => (E 25 0))) 26 (fun _ => (E 26 0))) 27 (fun _ => (E 27 0))) 28 (fun _ => (E 28 0))) ++ wD cI q' E) := hD
  exact W.vret hx hb hr (fun t ht hW => ⟨⟨(uA (uA (uA (uA (uA (uA (uA (uA (uA (uA (uA (uA (uA (uA (uA (mgK (mgO (mgG D u_1) u_2) u_3) 14 (va_cpy (E 14) (D 14) 0 0 3)) 15 (fun _ => (E 15 0))) 16 (fun _ => (E 16 0))) 17 (fun _ => (E 17 0))) 18 (fun _ => (E 18 0))) 19 (fun _ => (E 19 0))) 20 (fun _ => (E 20 0))) 21 (fun _ => (E 21 0))) 22 (fun _ => (E 22 0))) 23 (fun _ => (E 23 0))) 24 (fun _ => (E 24 0))) 25 (fun _ => (E 25 0))) 26 (fun _ => (E 26 0))) 27 (fun _ => (E 27 0))) 28 (fun _ => (E 28 0))), rfl, h, by rw [ht]; exact hP, hD⟩, hS.F ht⟩) hS.2.2 dX0_copyFrom_159
def q_X0_addGate (x : Int32) (y : Int32) (D : St) (Q : Int32 → St → Prop) : Prop :=
  (x < 0 → Q (-1000001) D) ∧ (¬ (x < 0) → (2 < x → Q (-1000001) D) ∧ (¬ (2 < x) → (y < 1 → Q (-1000001) D) ∧ (¬ (y < 1) → (y ≤ 20 → q_X1_isFull D (fun r_5 => (r_5 = 0 → q_X1_append x y D (fun u_7 => q_X1_size (mgG D u_7) (fun r_8 => Q (r_8 - 1) (mgG D u_7)))) ∧ (¬ (r_5 = 0) → Q (-1000003) D))) ∧ (¬ (y ≤ 20) → Q (-1000001) D))))
set_option maxHeartbeats 4000000 in
set_option maxRecDepth 100000 in
theorem c_X0_addGate (l : Launch) (G : va_G) (cI cC cD : ClassId) (q : Nat → Nat) (sz : Nat) (D : St) (x : Int32) (y : Int32) (Q : Int32 → St → Prop) (h : q_X0_addGate x y D Q) : Met l yX0_addGate wsX0_addGate ({ frames := 2, cells := 0, slots := 0, locals := 42 }) (va_Pc [.ref (q 0), .int x, .int y] (PW G (ty3 cI cC cD) (wD cI q D) sz)) (va_Qi Q (BW G (fun u : St => (wD cI q u)) (va_A (wD cI q D) sz)) (va_A (wD cI q D) sz)) 0 0 (va_A (wD cI q D) sz) := by
  refine Met.ofW (cc := cX0_addGate) (maxL := 3) (ret := (some .int)) (by decide) rfl ?_
  intro p e s m args below meth c s₁ B hml hv
  obtain ⟨rfl, hsz, hP, hK, hD0, hN⟩ := hv
  have hx := B.exec
  have hb := B.bytes
  have hr := B.returns
  have hts := atoms_spec (ws := wsX0_addGate) B.pre
  have hown : s.vm.findClass RX0 = some m.cls := findClass_of_methodNamed B.named
  have hlocks := B.notSynchronized
  subst hsz
  have hD := hD0.self (sz := s.heap.size)
  generalize hAe : va_A (wD cI q D) s.heap.size = A at hD ⊢
  have hA : ∀ q : Nat, s.heap.size ≤ q → A q := fun q h => by rw [← hAe]; exact Or.inr h
  have hS : va_S A s.heap s.heap [] := va_S.rf
  have hl := lv_entry ([.ref (q 0), .int x, .int y]) (n := 3) (Nat.le_of_ble_eq_true rfl)
  rw [lg_entry_eq]
  generalize (lg_sl ([.ref (q 0), .int x, .int y]) ++ List.replicate (3 - (lg_sl ([.ref (q 0), .int x, .int y])).length) Slot.unset).toArray = ls at hl ⊢
  have hl : lv_has ls 3 [(0, .ref (q 0)), (1, .int x), (2, .int y)] := hl
  have hinX0 : ∀ w ∈ wsX00, w ∈ wsX0_addGate := by decide +kernel
  have hL12 := hts (.fieldLink RX0 12 "CraneGates$Dam" "gates" "LCraneGates$Gates;") (by decide +kernel)
  unfold q_X0_addGate at h
  refine lv_iload_n hx hb dX0_addGate_0 rfl (lv_at hl 1 rfl) ?_
  refine lv_if_lt (tgt := 20) hx hb dX0_addGate_1 (by decide) (fun c_1 => ?_) (fun c_1 => ?_)
  · have h := h.1 c_1
    refine lv_ldc hx hb hown (hts (.constant RX0 91 (-1000001)) (by decide +kernel)) dX0_addGate_20 ?_
    exact W.iret (v := (-1000001)) hx hb hr (fun t ht hW => ⟨⟨(-1000001), D, rfl, h, by rw [ht]; exact hP, hD⟩, hS.F ht⟩) hS.2.2 dX0_addGate_22
  · have h := h.2 c_1
    refine lv_iload_n hx hb dX0_addGate_4 rfl (lv_at hl 1 rfl) ?_
    refine lv_iconst (v := 2) hx hb dX0_addGate_5 (by decide) ?_
    refine lv_icmp_gt (tgt := 20) hx hb dX0_addGate_6 (by decide) (fun c_2 => ?_) (fun c_2 => ?_)
    · have h := h.1 c_2
      refine lv_ldc hx hb hown (hts (.constant RX0 91 (-1000001)) (by decide +kernel)) dX0_addGate_20 ?_
      exact W.iret (v := (-1000001)) hx hb hr (fun t ht hW => ⟨⟨(-1000001), D, rfl, h, by rw [ht]; exact hP, hD⟩, hS.F ht⟩) hS.2.2 dX0_addGate_22
    · have h := h.2 c_2
      refine lv_iload_n hx hb dX0_addGate_9 rfl (lv_at hl 2 rfl) ?_
      refine lv_iconst (v := 1) hx hb dX0_addGate_10 (by decide) ?_
      refine lv_icmp_lt (tgt := 20) hx hb dX0_addGate_11 (by decide) (fun c_3 => ?_) (fun c_3 => ?_)
      · have h := h.1 c_3
        refine lv_ldc hx hb hown (hts (.constant RX0 91 (-1000001)) (by decide +kernel)) dX0_addGate_20 ?_
        exact W.iret (v := (-1000001)) hx hb hr (fun t ht hW => ⟨⟨(-1000001), D, rfl, h, by rw [ht]; exact hP, hD⟩, hS.F ht⟩) hS.2.2 dX0_addGate_22
      · have h := h.2 c_3
        refine lv_iload_n hx hb dX0_addGate_14 rfl (lv_at hl 2 rfl) ?_
        refine lv_bipush (v := 20) hx hb dX0_addGate_15 (by decide) ?_
        refine lv_icmp_le (tgt := 23) hx hb dX0_addGate_17 (by decide) (fun c_4 => ?_) (fun c_4 => ?_)
        · have h := h.1 c_4
          refine lv_aload_n hx hb dX0_addGate_23 rfl (lv_at hl 0 rfl) ?_
          refine va_get (D := G) (ci := 0) (v := .ref (q 1)) (C := RX0) (T := TX0) (N := 18) hx hb hts hinX0 hown hK hP 0 rfl rfl 0 (by decide) hL12 (fun _ h9 => h9) rfl dX0_addGate_24 ?_
          refine kc_i (As := []) (rest := []) (wg := (fun _ => (wD cI q D))) ⟨hx, hb, hml, hown, hts⟩ (c_X1_isFull l G cI cC cD (q 1) (q 2) (q 3) (q 4) (q 5) (q 6) _ D  _ h) (cwV 0 hts gX0_addGate_X1_isFull rfl rfl rfl (by decide +kernel) ⟨Nat.le_of_ble_eq_true rfl, Nat.le_of_ble_eq_true rfl⟩) hK hN hP hD hS hA (em_DG cI q D) (fun _ => rp_self (em_DG cI q D)) rfl rfl rfl rfl hl.1 rfl (Nat.le_of_ble_eq_true rfl) dX0_addGate_27 ⟨Nat.zero_le _, Nat.zero_le _⟩ (fun r_5 _ H locs h hP hD hS => ?_)
          refine lv_if_eq (tgt := 36) hx hb dX0_addGate_30 (by decide) (fun c_6 => ?_) (fun c_6 => ?_)
          · have h := h.1 c_6
            refine lv_aload_n hx hb dX0_addGate_36 rfl (lv_at hl 0 rfl) ?_
            refine va_get (D := G) (ci := 0) (v := .ref (q 1)) (C := RX0) (T := TX0) (N := 18) hx hb hts hinX0 hown hK hP 0 rfl rfl 0 (by decide) hL12 (fun _ h9 => h9) rfl dX0_addGate_37 ?_
            refine lv_iload_n hx hb dX0_addGate_40 rfl (lv_at hl 1 rfl) ?_
            refine lv_iload_n hx hb dX0_addGate_41 rfl (lv_at hl 2 rfl) ?_
            refine kc_v (As := [.int x, .int y]) (rest := []) (wg := (fun u => (wD cI q (mgG D u)))) ⟨hx, hb, hml, hown, hts⟩ (c_X1_append l G cI cC cD (q 1) (q 2) (q 3) (q 4) (q 5) (q 6) _ D x y _ h) (cwV 2 hts gX0_addGate_X1_append rfl rfl rfl (by decide +kernel) ⟨Nat.le_of_ble_eq_true rfl, Nat.le_of_ble_eq_true rfl⟩) hK hN hP hD hS hA (em_DG cI q D) (fun u => rp_DG cI q D u) rfl rfl rfl rfl hl.1 rfl (Nat.le_of_ble_eq_true rfl) dX0_addGate_42 ⟨Nat.zero_le _, Nat.zero_le _⟩ (fun u_7 H locs h hP hD hS => ?_)
            refine lv_aload_n hx hb dX0_addGate_45 rfl (lv_at hl 0 rfl) ?_
            refine va_get (D := G) (ci := 0) (v := .ref (q 1)) (C := RX0) (T := TX0) (N := 18) hx hb hts hinX0 hown hK hP 0 rfl rfl 0 (by decide) hL12 (fun _ h9 => h9) rfl dX0_addGate_46 ?_
            refine kc_i (As := []) (rest := []) (wg := (fun _ => (wD cI q (mgG D u_7)))) ⟨hx, hb, hml, hown, hts⟩ (c_X1_size l G cI cC cD (q 1) (q 2) (q 3) (q 4) (q 5) (q 6) _ (mgG D u_7)  _ h) (cwV 0 hts gX0_addGate_X1_size rfl rfl rfl (by decide +kernel) ⟨Nat.le_of_ble_eq_true rfl, Nat.le_of_ble_eq_true rfl⟩) hK hN hP hD hS hA (em_DG cI q (mgG D u_7)) (fun _ => rp_self (em_DG cI q (mgG D u_7))) rfl rfl rfl rfl hl.1 rfl (Nat.le_of_ble_eq_true rfl) dX0_addGate_49 ⟨Nat.zero_le _, Nat.zero_le _⟩ (fun r_8 _ H locs h hP hD hS => ?_)
            refine lv_iconst (v := 1) hx hb dX0_addGate_52 (by decide) ?_
            refine lv_isub hx hb dX0_addGate_53 ?_
            exact W.iret (v := (r_8 - 1)) hx hb hr (fun t ht hW => ⟨⟨(r_8 - 1), (mgG D u_7), rfl, h, by rw [ht]; exact hP, hD⟩, hS.F ht⟩) hS.2.2 dX0_addGate_54
          · have h := h.2 c_6
            refine lv_ldc hx hb hown (hts (.constant RX0 96 (-1000003)) (by decide +kernel)) dX0_addGate_33 ?_
            exact W.iret (v := (-1000003)) hx hb hr (fun t ht hW => ⟨⟨(-1000003), D, rfl, h, by rw [ht]; exact hP, hD⟩, hS.F ht⟩) hS.2.2 dX0_addGate_35
        · have h := h.2 c_4
          refine lv_ldc hx hb hown (hts (.constant RX0 91 (-1000001)) (by decide +kernel)) dX0_addGate_20 ?_
          exact W.iret (v := (-1000001)) hx hb hr (fun t ht hW => ⟨⟨(-1000001), D, rfl, h, by rw [ht]; exact hP, hD⟩, hS.F ht⟩) hS.2.2 dX0_addGate_22
def q_X0_giveOrder (x : Int32) (y : Int32) (D : St) (Q : Int32 → St → Prop) : Prop :=
  q_X1_has x D (fun r_1 => (r_1 = 0 → Q (-1000001) D) ∧ (¬ (r_1 = 0) → (y < 0 → Q (-1000001) D) ∧ (¬ (y < 0) → (y ≤ 10 → q_X1_kind x D (fun r_5 => (r_5 = 2 → ((y - y / 2 * 2) = 0 → q_X4_indexOf x (fun i => D (10 + i)) (fun r_12 => q_X4_removeAt r_12 (fun i => D (10 + i)) (fun u_13 => q_X4_put x y (fun i => (mgK D u_13) (6 + i)) (fun u_14 => q_X4_size (fun i => (mgO (mgK D u_13) u_14) (6 + i)) (fun r_15 => Q r_15 (mgO (mgK D u_13) u_14)))))) ∧ (¬ ((y - y / 2 * 2) = 0) → Q (-1000002) D)) ∧ (¬ (r_5 = 2) → q_X4_indexOf x (fun i => D (10 + i)) (fun r_7 => q_X4_removeAt r_7 (fun i => D (10 + i)) (fun u_8 => q_X4_put x y (fun i => (mgK D u_8) (6 + i)) (fun u_9 => q_X4_size (fun i => (mgO (mgK D u_8) u_9) (6 + i)) (fun r_10 => Q r_10 (mgO (mgK D u_8) u_9)))))))) ∧ (¬ (y ≤ 10) → Q (-1000001) D))))
set_option maxHeartbeats 4000000 in
set_option maxRecDepth 100000 in
theorem c_X0_giveOrder (l : Launch) (G : va_G) (cI cC cD : ClassId) (q : Nat → Nat) (sz : Nat) (D : St) (x : Int32) (y : Int32) (Q : Int32 → St → Prop) (h : q_X0_giveOrder x y D Q) : Met l yX0_giveOrder wsX0_giveOrder ({ frames := 2, cells := 0, slots := 0, locals := 45 }) (va_Pc [.ref (q 0), .int x, .int y] (PW G (ty3 cI cC cD) (wD cI q D) sz)) (va_Qi Q (BW G (fun u : St => (wD cI q u)) (va_A (wD cI q D) sz)) (va_A (wD cI q D) sz)) 0 0 (va_A (wD cI q D) sz) := by
  refine Met.ofW (cc := cX0_giveOrder) (maxL := 3) (ret := (some .int)) (by decide) rfl ?_
  intro p e s m args below meth c s₁ B hml hv
  obtain ⟨rfl, hsz, hP, hK, hD0, hN⟩ := hv
  have hx := B.exec
  have hb := B.bytes
  have hr := B.returns
  have hts := atoms_spec (ws := wsX0_giveOrder) B.pre
  have hown : s.vm.findClass RX0 = some m.cls := findClass_of_methodNamed B.named
  have hlocks := B.notSynchronized
  subst hsz
  have hD := hD0.self (sz := s.heap.size)
  generalize hAe : va_A (wD cI q D) s.heap.size = A at hD ⊢
  have hA : ∀ q : Nat, s.heap.size ≤ q → A q := fun q h => by rw [← hAe]; exact Or.inr h
  have hS : va_S A s.heap s.heap [] := va_S.rf
  have hl := lv_entry ([.ref (q 0), .int x, .int y]) (n := 3) (Nat.le_of_ble_eq_true rfl)
  rw [lg_entry_eq]
  generalize (lg_sl ([.ref (q 0), .int x, .int y]) ++ List.replicate (3 - (lg_sl ([.ref (q 0), .int x, .int y])).length) Slot.unset).toArray = ls at hl ⊢
  have hl : lv_has ls 3 [(0, .ref (q 0)), (1, .int x), (2, .int y)] := hl
  have hinX0 : ∀ w ∈ wsX00, w ∈ wsX0_giveOrder := by decide +kernel
  have hL12 := hts (.fieldLink RX0 12 "CraneGates$Dam" "gates" "LCraneGates$Gates;") (by decide +kernel)
  have hL23 := hts (.fieldLink RX0 23 "CraneGates$Dam" "orders" "LCraneGates$Tasks;") (by decide +kernel)
  have hL27 := hts (.fieldLink RX0 27 "CraneGates$Dam" "marks" "LCraneGates$Tasks;") (by decide +kernel)
  unfold q_X0_giveOrder at h
  refine lv_aload_n hx hb dX0_giveOrder_0 rfl (lv_at hl 0 rfl) ?_
  refine va_get (D := G) (ci := 0) (v := .ref (q 1)) (C := RX0) (T := TX0) (N := 18) hx hb hts hinX0 hown hK hP 0 rfl rfl 0 (by decide) hL12 (fun _ h9 => h9) rfl dX0_giveOrder_1 ?_
  refine lv_iload_n hx hb dX0_giveOrder_4 rfl (lv_at hl 1 rfl) ?_
  refine kc_i (As := [.int x]) (rest := []) (wg := (fun _ => (wD cI q D))) ⟨hx, hb, hml, hown, hts⟩ (c_X1_has l G cI cC cD (q 1) (q 2) (q 3) (q 4) (q 5) (q 6) _ D x _ h) (cwV 1 hts gX0_giveOrder_X1_has rfl rfl rfl (by decide +kernel) ⟨Nat.le_of_ble_eq_true rfl, Nat.le_of_ble_eq_true rfl⟩) hK hN hP hD hS hA (em_DG cI q D) (fun _ => rp_self (em_DG cI q D)) rfl rfl rfl rfl hl.1 rfl (Nat.le_of_ble_eq_true rfl) dX0_giveOrder_5 ⟨Nat.zero_le _, Nat.zero_le _⟩ (fun r_1 _ H locs h hP hD hS => ?_)
  refine lv_if_eq (tgt := 21) hx hb dX0_giveOrder_8 (by decide) (fun c_2 => ?_) (fun c_2 => ?_)
  · have h := h.1 c_2
    refine lv_ldc hx hb hown (hts (.constant RX0 91 (-1000001)) (by decide +kernel)) dX0_giveOrder_21 ?_
    exact W.iret (v := (-1000001)) hx hb hr (fun t ht hW => ⟨⟨(-1000001), D, rfl, h, by rw [ht]; exact hP, hD⟩, hS.F ht⟩) hS.2.2 dX0_giveOrder_23
  · have h := h.2 c_2
    refine lv_iload_n hx hb dX0_giveOrder_11 rfl (lv_at hl 2 rfl) ?_
    refine lv_if_lt (tgt := 21) hx hb dX0_giveOrder_12 (by decide) (fun c_3 => ?_) (fun c_3 => ?_)
    · have h := h.1 c_3
      refine lv_ldc hx hb hown (hts (.constant RX0 91 (-1000001)) (by decide +kernel)) dX0_giveOrder_21 ?_
      exact W.iret (v := (-1000001)) hx hb hr (fun t ht hW => ⟨⟨(-1000001), D, rfl, h, by rw [ht]; exact hP, hD⟩, hS.F ht⟩) hS.2.2 dX0_giveOrder_23
    · have h := h.2 c_3
      refine lv_iload_n hx hb dX0_giveOrder_15 rfl (lv_at hl 2 rfl) ?_
      refine lv_bipush (v := 10) hx hb dX0_giveOrder_16 (by decide) ?_
      refine lv_icmp_le (tgt := 24) hx hb dX0_giveOrder_18 (by decide) (fun c_4 => ?_) (fun c_4 => ?_)
      · have h := h.1 c_4
        refine lv_aload_n hx hb dX0_giveOrder_24 rfl (lv_at hl 0 rfl) ?_
        refine va_get (D := G) (ci := 0) (v := .ref (q 1)) (C := RX0) (T := TX0) (N := 18) hx hb hts hinX0 hown hK hP 0 rfl rfl 0 (by decide) hL12 (fun _ h9 => h9) rfl dX0_giveOrder_25 ?_
        refine lv_iload_n hx hb dX0_giveOrder_28 rfl (lv_at hl 1 rfl) ?_
        refine kc_i (As := [.int x]) (rest := []) (wg := (fun _ => (wD cI q D))) ⟨hx, hb, hml, hown, hts⟩ (c_X1_kind l G cI cC cD (q 1) (q 2) (q 3) (q 4) (q 5) (q 6) _ D x _ h) (cwV 1 hts gX0_giveOrder_X1_kind rfl rfl rfl (by decide +kernel) ⟨Nat.le_of_ble_eq_true rfl, Nat.le_of_ble_eq_true rfl⟩) hK hN hP hD hS hA (em_DG cI q D) (fun _ => rp_self (em_DG cI q D)) rfl rfl rfl rfl hl.1 rfl (Nat.le_of_ble_eq_true rfl) dX0_giveOrder_29 ⟨Nat.zero_le _, Nat.zero_le _⟩ (fun r_5 _ H locs h hP hD hS => ?_)
        refine lv_iconst (v := 2) hx hb dX0_giveOrder_32 (by decide) ?_
        refine lv_icmp_ne (tgt := 45) hx hb dX0_giveOrder_33 (by decide) (fun c_6 => ?_) (fun c_6 => ?_)
        · have h := h.2 c_6
          refine lv_aload_n hx hb dX0_giveOrder_45 rfl (lv_at hl 0 rfl) ?_
          refine va_get (D := G) (ci := 0) (v := .ref (q 10)) (C := RX0) (T := TX0) (N := 18) hx hb hts hinX0 hown hK hP 0 rfl rfl 2 (by decide) hL27 (fun _ h9 => h9) rfl dX0_giveOrder_46 ?_
          refine lv_aload_n hx hb dX0_giveOrder_49 rfl (lv_at hl 0 rfl) ?_
          refine va_get (D := G) (ci := 0) (v := .ref (q 10)) (C := RX0) (T := TX0) (N := 18) hx hb hts hinX0 hown hK hP 0 rfl rfl 2 (by decide) hL27 (fun _ h9 => h9) rfl dX0_giveOrder_50 ?_
          refine lv_iload_n hx hb dX0_giveOrder_53 rfl (lv_at hl 1 rfl) ?_
          refine kc_i (As := [.int x]) (rest := [.ref (q 10)]) (wg := (fun _ => (wD cI q D))) ⟨hx, hb, hml, hown, hts⟩ (c_X4_indexOf l G cI cC cD (q 10) (q 11) (q 12) _ (fun i => D (10 + i)) x _ h) (cwV 1 hts gX0_giveOrder_X4_indexOf rfl rfl rfl (by decide +kernel) ⟨Nat.le_of_ble_eq_true rfl, Nat.le_of_ble_eq_true rfl⟩) hK hN hP hD hS hA (em_DK cI q D) (fun _ => rp_self (em_DK cI q D)) rfl rfl rfl rfl hl.1 rfl (Nat.le_of_ble_eq_true rfl) dX0_giveOrder_54 ⟨Nat.zero_le _, Nat.zero_le _⟩ (fun r_7 _ H locs h hP hD hS => ?_)
          refine kc_v (As := [.int r_7]) (rest := []) (wg := (fun u => (wD cI q (mgK D u)))) ⟨hx, hb, hml, hown, hts⟩ (c_X4_removeAt l G cI cC cD (q 10) (q 11) (q 12) _ (fun i => D (10 + i)) r_7 _ h) (cwV 1 hts gX0_giveOrder_X4_removeAt rfl rfl rfl (by decide +kernel) ⟨Nat.le_of_ble_eq_true rfl, Nat.le_of_ble_eq_true rfl⟩) hK hN hP hD hS hA (em_DK cI q D) (fun u => rp_DK cI q D u) rfl rfl rfl rfl hl.1 rfl (Nat.le_of_ble_eq_true rfl) dX0_giveOrder_57 ⟨Nat.zero_le _, Nat.zero_le _⟩ (fun u_8 H locs h hP hD hS => ?_)
          refine lv_aload_n hx hb dX0_giveOrder_60 rfl (lv_at hl 0 rfl) ?_
          refine va_get (D := G) (ci := 0) (v := .ref (q 7)) (C := RX0) (T := TX0) (N := 18) hx hb hts hinX0 hown hK hP 0 rfl rfl 1 (by decide) hL23 (fun _ h9 => h9) rfl dX0_giveOrder_61 ?_
          refine lv_iload_n hx hb dX0_giveOrder_64 rfl (lv_at hl 1 rfl) ?_
          refine lv_iload_n hx hb dX0_giveOrder_65 rfl (lv_at hl 2 rfl) ?_
          refine kc_v (As := [.int x, .int y]) (rest := []) (wg := (fun u => (wD cI q (mgO (mgK D u_8) u)))) ⟨hx, hb, hml, hown, hts⟩ (c_X4_put l G cI cC cD (q 7) (q 8) (q 9) _ (fun i => (mgK D u_8) (6 + i)) x y _ h) (cwV 2 hts gX0_giveOrder_X4_put rfl rfl rfl (by decide +kernel) ⟨Nat.le_of_ble_eq_true rfl, Nat.le_of_ble_eq_true rfl⟩) hK hN hP hD hS hA (em_DO cI q (mgK D u_8)) (fun u => rp_DO cI q (mgK D u_8) u) rfl rfl rfl rfl hl.1 rfl (Nat.le_of_ble_eq_true rfl) dX0_giveOrder_66 ⟨Nat.zero_le _, Nat.zero_le _⟩ (fun u_9 H locs h hP hD hS => ?_)
          refine lv_aload_n hx hb dX0_giveOrder_69 rfl (lv_at hl 0 rfl) ?_
          refine va_get (D := G) (ci := 0) (v := .ref (q 7)) (C := RX0) (T := TX0) (N := 18) hx hb hts hinX0 hown hK hP 0 rfl rfl 1 (by decide) hL23 (fun _ h9 => h9) rfl dX0_giveOrder_70 ?_
          refine kc_i (As := []) (rest := []) (wg := (fun _ => (wD cI q (mgO (mgK D u_8) u_9)))) ⟨hx, hb, hml, hown, hts⟩ (c_X4_size l G cI cC cD (q 7) (q 8) (q 9) _ (fun i => (mgO (mgK D u_8) u_9) (6 + i))  _ h) (cwV 0 hts gX0_giveOrder_X4_size rfl rfl rfl (by decide +kernel) ⟨Nat.le_of_ble_eq_true rfl, Nat.le_of_ble_eq_true rfl⟩) hK hN hP hD hS hA (em_DO cI q (mgO (mgK D u_8) u_9)) (fun _ => rp_self (em_DO cI q (mgO (mgK D u_8) u_9))) rfl rfl rfl rfl hl.1 rfl (Nat.le_of_ble_eq_true rfl) dX0_giveOrder_73 ⟨Nat.zero_le _, Nat.zero_le _⟩ (fun r_10 _ H locs h hP hD hS => ?_)
          exact W.iret (v := r_10) hx hb hr (fun t ht hW => ⟨⟨r_10, (mgO (mgK D u_8) u_9), rfl, h, by rw [ht]; exact hP, hD⟩, hS.F ht⟩) hS.2.2 dX0_giveOrder_76
        · have h := h.1 c_6
          refine lv_iload_n hx hb dX0_giveOrder_36 rfl (lv_at hl 2 rfl) ?_
          refine lv_iconst (v := 2) hx hb dX0_giveOrder_37 (by decide) ?_
          refine lv_irem hx hb dX0_giveOrder_38 (by decide) ?_
          refine lv_if_eq (tgt := 45) hx hb dX0_giveOrder_39 (by decide) (fun c_11 => ?_) (fun c_11 => ?_)
          · have h := h.1 c_11
            refine lv_aload_n hx hb dX0_giveOrder_45 rfl (lv_at hl 0 rfl) ?_
            refine va_get (D := G) (ci := 0) (v := .ref (q 10)) (C := RX0) (T := TX0) (N := 18) hx hb hts hinX0 hown hK hP 0 rfl rfl 2 (by decide) hL27 (fun _ h9 => h9) rfl dX0_giveOrder_46 ?_
            refine lv_aload_n hx hb dX0_giveOrder_49 rfl (lv_at hl 0 rfl) ?_
            refine va_get (D := G) (ci := 0) (v := .ref (q 10)) (C := RX0) (T := TX0) (N := 18) hx hb hts hinX0 hown hK hP 0 rfl rfl 2 (by decide) hL27 (fun _ h9 => h9) rfl dX0_giveOrder_50 ?_
            refine lv_iload_n hx hb dX0_giveOrder_53 rfl (lv_at hl 1 rfl) ?_
            refine kc_i (As := [.int x]) (rest := [.ref (q 10)]) (wg := (fun _ => (wD cI q D))) ⟨hx, hb, hml, hown, hts⟩ (c_X4_indexOf l G cI cC cD (q 10) (q 11) (q 12) _ (fun i => D (10 + i)) x _ h) (cwV 1 hts gX0_giveOrder_X4_indexOf rfl rfl rfl (by decide +kernel) ⟨Nat.le_of_ble_eq_true rfl, Nat.le_of_ble_eq_true rfl⟩) hK hN hP hD hS hA (em_DK cI q D) (fun _ => rp_self (em_DK cI q D)) rfl rfl rfl rfl hl.1 rfl (Nat.le_of_ble_eq_true rfl) dX0_giveOrder_54 ⟨Nat.zero_le _, Nat.zero_le _⟩ (fun r_12 _ H locs h hP hD hS => ?_)
            refine kc_v (As := [.int r_12]) (rest := []) (wg := (fun u => (wD cI q (mgK D u)))) ⟨hx, hb, hml, hown, hts⟩ (c_X4_removeAt l G cI cC cD (q 10) (q 11) (q 12) _ (fun i => D (10 + i)) r_12 _ h) (cwV 1 hts gX0_giveOrder_X4_removeAt rfl rfl rfl (by decide +kernel) ⟨Nat.le_of_ble_eq_true rfl, Nat.le_of_ble_eq_true rfl⟩) hK hN hP hD hS hA (em_DK cI q D) (fun u => rp_DK cI q D u) rfl rfl rfl rfl hl.1 rfl (Nat.le_of_ble_eq_true rfl) dX0_giveOrder_57 ⟨Nat.zero_le _, Nat.zero_le _⟩ (fun u_13 H locs h hP hD hS => ?_)
            refine lv_aload_n hx hb dX0_giveOrder_60 rfl (lv_at hl 0 rfl) ?_
            refine va_get (D := G) (ci := 0) (v := .ref (q 7)) (C := RX0) (T := TX0) (N := 18) hx hb hts hinX0 hown hK hP 0 rfl rfl 1 (by decide) hL23 (fun _ h9 => h9) rfl dX0_giveOrder_61 ?_
            refine lv_iload_n hx hb dX0_giveOrder_64 rfl (lv_at hl 1 rfl) ?_
            refine lv_iload_n hx hb dX0_giveOrder_65 rfl (lv_at hl 2 rfl) ?_
            refine kc_v (As := [.int x, .int y]) (rest := []) (wg := (fun u => (wD cI q (mgO (mgK D u_13) u)))) ⟨hx, hb, hml, hown, hts⟩ (c_X4_put l G cI cC cD (q 7) (q 8) (q 9) _ (fun i => (mgK D u_13) (6 + i)) x y _ h) (cwV 2 hts gX0_giveOrder_X4_put rfl rfl rfl (by decide +kernel) ⟨Nat.le_of_ble_eq_true rfl, Nat.le_of_ble_eq_true rfl⟩) hK hN hP hD hS hA (em_DO cI q (mgK D u_13)) (fun u => rp_DO cI q (mgK D u_13) u) rfl rfl rfl rfl hl.1 rfl (Nat.le_of_ble_eq_true rfl) dX0_giveOrder_66 ⟨Nat.zero_le _, Nat.zero_le _⟩ (fun u_14 H locs h hP hD hS => ?_)
            refine lv_aload_n hx hb dX0_giveOrder_69 rfl (lv_at hl 0 rfl) ?_
            refine va_get (D := G) (ci := 0) (v := .ref (q 7)) (C := RX0) (T := TX0) (N := 18) hx hb hts hinX0 hown hK hP 0 rfl rfl 1 (by decide) hL23 (fun _ h9 => h9) rfl dX0_giveOrder_70 ?_
            refine kc_i (As := []) (rest := []) (wg := (fun _ => (wD cI q (mgO (mgK D u_13) u_14)))) ⟨hx, hb, hml, hown, hts⟩ (c_X4_size l G cI cC cD (q 7) (q 8) (q 9) _ (fun i => (mgO (mgK D u_13) u_14) (6 + i))  _ h) (cwV 0 hts gX0_giveOrder_X4_size rfl rfl rfl (by decide +kernel) ⟨Nat.le_of_ble_eq_true rfl, Nat.le_of_ble_eq_true rfl⟩) hK hN hP hD hS hA (em_DO cI q (mgO (mgK D u_13) u_14)) (fun _ => rp_self (em_DO cI q (mgO (mgK D u_13) u_14))) rfl rfl rfl rfl hl.1 rfl (Nat.le_of_ble_eq_true rfl) dX0_giveOrder_73 ⟨Nat.zero_le _, Nat.zero_le _⟩ (fun r_15 _ H locs h hP hD hS => ?_)
            exact W.iret (v := r_15) hx hb hr (fun t ht hW => ⟨⟨r_15, (mgO (mgK D u_13) u_14), rfl, h, by rw [ht]; exact hP, hD⟩, hS.F ht⟩) hS.2.2 dX0_giveOrder_76
          · have h := h.2 c_11
            refine lv_ldc hx hb hown (hts (.constant RX0 113 (-1000002)) (by decide +kernel)) dX0_giveOrder_42 ?_
            exact W.iret (v := (-1000002)) hx hb hr (fun t ht hW => ⟨⟨(-1000002), D, rfl, h, by rw [ht]; exact hP, hD⟩, hS.F ht⟩) hS.2.2 dX0_giveOrder_44
      · have h := h.2 c_4
        refine lv_ldc hx hb hown (hts (.constant RX0 91 (-1000001)) (by decide +kernel)) dX0_giveOrder_21 ?_
        exact W.iret (v := (-1000001)) hx hb hr (fun t ht hW => ⟨⟨(-1000001), D, rfl, h, by rw [ht]; exact hP, hD⟩, hS.F ht⟩) hS.2.2 dX0_giveOrder_23
def q_X0_cancelOrder (x : Int32) (D : St) (Q : Int32 → St → Prop) : Prop :=
  q_X1_has x D (fun r_1 => (r_1 = 0 → Q (-1000001) D) ∧ (¬ (r_1 = 0) → q_X4_indexOf x (fun i => D (6 + i)) (fun r_3 => (r_3 = (-1) → Q (-1000002) D) ∧ (¬ (r_3 = (-1)) → q_X4_openingAt r_3 (fun i => D (6 + i)) (fun r_5 => q_X4_removeAt r_3 (fun i => D (6 + i)) (fun u_6 => Q r_5 (mgO D u_6)))))))
set_option maxHeartbeats 4000000 in
set_option maxRecDepth 100000 in
theorem c_X0_cancelOrder (l : Launch) (G : va_G) (cI cC cD : ClassId) (q : Nat → Nat) (sz : Nat) (D : St) (x : Int32) (Q : Int32 → St → Prop) (h : q_X0_cancelOrder x D Q) : Met l yX0_cancelOrder wsX0_cancelOrder ({ frames := 1, cells := 0, slots := 0, locals := 22 }) (va_Pc [.ref (q 0), .int x] (PW G (ty3 cI cC cD) (wD cI q D) sz)) (va_Qi Q (BW G (fun u : St => (wD cI q u)) (va_A (wD cI q D) sz)) (va_A (wD cI q D) sz)) 0 0 (va_A (wD cI q D) sz) := by
  refine Met.ofW (cc := cX0_cancelOrder) (maxL := 4) (ret := (some .int)) (by decide) rfl ?_
  intro p e s m args below meth c s₁ B hml hv
  obtain ⟨rfl, hsz, hP, hK, hD0, hN⟩ := hv
  have hx := B.exec
  have hb := B.bytes
  have hr := B.returns
  have hts := atoms_spec (ws := wsX0_cancelOrder) B.pre
  have hown : s.vm.findClass RX0 = some m.cls := findClass_of_methodNamed B.named
  have hlocks := B.notSynchronized
  subst hsz
  have hD := hD0.self (sz := s.heap.size)
  generalize hAe : va_A (wD cI q D) s.heap.size = A at hD ⊢
  have hA : ∀ q : Nat, s.heap.size ≤ q → A q := fun q h => by rw [← hAe]; exact Or.inr h
  have hS : va_S A s.heap s.heap [] := va_S.rf
  have hl := lv_entry ([.ref (q 0), .int x]) (n := 4) (Nat.le_of_ble_eq_true rfl)
  rw [lg_entry_eq]
  generalize (lg_sl ([.ref (q 0), .int x]) ++ List.replicate (4 - (lg_sl ([.ref (q 0), .int x])).length) Slot.unset).toArray = ls at hl ⊢
  have hl : lv_has ls 4 [(0, .ref (q 0)), (1, .int x)] := hl
  have hinX0 : ∀ w ∈ wsX00, w ∈ wsX0_cancelOrder := by decide +kernel
  have hL12 := hts (.fieldLink RX0 12 "CraneGates$Dam" "gates" "LCraneGates$Gates;") (by decide +kernel)
  have hL23 := hts (.fieldLink RX0 23 "CraneGates$Dam" "orders" "LCraneGates$Tasks;") (by decide +kernel)
  unfold q_X0_cancelOrder at h
  refine lv_aload_n hx hb dX0_cancelOrder_0 rfl (lv_at hl 0 rfl) ?_
  refine va_get (D := G) (ci := 0) (v := .ref (q 1)) (C := RX0) (T := TX0) (N := 18) hx hb hts hinX0 hown hK hP 0 rfl rfl 0 (by decide) hL12 (fun _ h9 => h9) rfl dX0_cancelOrder_1 ?_
  refine lv_iload_n hx hb dX0_cancelOrder_4 rfl (lv_at hl 1 rfl) ?_
  refine kc_i (As := [.int x]) (rest := []) (wg := (fun _ => (wD cI q D))) ⟨hx, hb, hml, hown, hts⟩ (c_X1_has l G cI cC cD (q 1) (q 2) (q 3) (q 4) (q 5) (q 6) _ D x _ h) (cwV 1 hts gX0_cancelOrder_X1_has rfl rfl rfl (by decide +kernel) ⟨Nat.le_of_ble_eq_true rfl, Nat.le_of_ble_eq_true rfl⟩) hK hN hP hD hS hA (em_DG cI q D) (fun _ => rp_self (em_DG cI q D)) rfl rfl rfl rfl hl.1 rfl (Nat.le_of_ble_eq_true rfl) dX0_cancelOrder_5 ⟨Nat.zero_le _, Nat.zero_le _⟩ (fun r_1 _ H locs h hP hD hS => ?_)
  refine lv_if_ne (tgt := 14) hx hb dX0_cancelOrder_8 (by decide) (fun c_2 => ?_) (fun c_2 => ?_)
  · have h := h.2 c_2
    refine lv_aload_n hx hb dX0_cancelOrder_14 rfl (lv_at hl 0 rfl) ?_
    refine va_get (D := G) (ci := 0) (v := .ref (q 7)) (C := RX0) (T := TX0) (N := 18) hx hb hts hinX0 hown hK hP 0 rfl rfl 1 (by decide) hL23 (fun _ h9 => h9) rfl dX0_cancelOrder_15 ?_
    refine lv_iload_n hx hb dX0_cancelOrder_18 rfl (lv_at hl 1 rfl) ?_
    refine kc_i (As := [.int x]) (rest := []) (wg := (fun _ => (wD cI q D))) ⟨hx, hb, hml, hown, hts⟩ (c_X4_indexOf l G cI cC cD (q 7) (q 8) (q 9) _ (fun i => D (6 + i)) x _ h) (cwV 1 hts gX0_cancelOrder_X4_indexOf rfl rfl rfl (by decide +kernel) ⟨Nat.le_of_ble_eq_true rfl, Nat.le_of_ble_eq_true rfl⟩) hK hN hP hD hS hA (em_DO cI q D) (fun _ => rp_self (em_DO cI q D)) rfl rfl rfl rfl hl.1 rfl (Nat.le_of_ble_eq_true rfl) dX0_cancelOrder_19 ⟨Nat.zero_le _, Nat.zero_le _⟩ (fun r_3 _ H locs h hP hD hS => ?_)
    refine lv_istore_n (lv' := [(2, .int r_3), (0, .ref (q 0)), (1, .int x)]) hx hb dX0_cancelOrder_22 rfl hl (by decide) rfl (fun ls hl => ?_)
    refine lv_iload_n hx hb dX0_cancelOrder_23 rfl (lv_at hl 0 rfl) ?_
    refine lv_iconst (v := (-1)) hx hb dX0_cancelOrder_24 (by decide) ?_
    refine lv_icmp_ne (tgt := 31) hx hb dX0_cancelOrder_25 (by decide) (fun c_4 => ?_) (fun c_4 => ?_)
    · have h := h.2 c_4
      refine lv_aload_n hx hb dX0_cancelOrder_31 rfl (lv_at hl 1 rfl) ?_
      refine va_get (D := G) (ci := 0) (v := .ref (q 7)) (C := RX0) (T := TX0) (N := 18) hx hb hts hinX0 hown hK hP 0 rfl rfl 1 (by decide) hL23 (fun _ h9 => h9) rfl dX0_cancelOrder_32 ?_
      refine lv_iload_n hx hb dX0_cancelOrder_35 rfl (lv_at hl 0 rfl) ?_
      refine kc_i (As := [.int r_3]) (rest := []) (wg := (fun _ => (wD cI q D))) ⟨hx, hb, hml, hown, hts⟩ (c_X4_openingAt l G cI cC cD (q 7) (q 8) (q 9) _ (fun i => D (6 + i)) r_3 _ h) (cwV 1 hts gX0_cancelOrder_X4_openingAt rfl rfl rfl (by decide +kernel) ⟨Nat.le_of_ble_eq_true rfl, Nat.le_of_ble_eq_true rfl⟩) hK hN hP hD hS hA (em_DO cI q D) (fun _ => rp_self (em_DO cI q D)) rfl rfl rfl rfl hl.1 rfl (Nat.le_of_ble_eq_true rfl) dX0_cancelOrder_36 ⟨Nat.zero_le _, Nat.zero_le _⟩ (fun r_5 _ H locs h hP hD hS => ?_)
      refine lv_istore_n (lv' := [(3, .int r_5), (2, .int r_3), (0, .ref (q 0)), (1, .int x)]) hx hb dX0_cancelOrder_39 rfl hl (by decide) rfl (fun ls hl => ?_)
      refine lv_aload_n hx hb dX0_cancelOrder_40 rfl (lv_at hl 2 rfl) ?_
      refine va_get (D := G) (ci := 0) (v := .ref (q 7)) (C := RX0) (T := TX0) (N := 18) hx hb hts hinX0 hown hK hP 0 rfl rfl 1 (by decide) hL23 (fun _ h9 => h9) rfl dX0_cancelOrder_41 ?_
      refine lv_iload_n hx hb dX0_cancelOrder_44 rfl (lv_at hl 1 rfl) ?_
      refine kc_v (As := [.int r_3]) (rest := []) (wg := (fun u => (wD cI q (mgO D u)))) ⟨hx, hb, hml, hown, hts⟩ (c_X4_removeAt l G cI cC cD (q 7) (q 8) (q 9) _ (fun i => D (6 + i)) r_3 _ h) (cwV 1 hts gX0_cancelOrder_X4_removeAt rfl rfl rfl (by decide +kernel) ⟨Nat.le_of_ble_eq_true rfl, Nat.le_of_ble_eq_true rfl⟩) hK hN hP hD hS hA (em_DO cI q D) (fun u => rp_DO cI q D u) rfl rfl rfl rfl hl.1 rfl (Nat.le_of_ble_eq_true rfl) dX0_cancelOrder_45 ⟨Nat.zero_le _, Nat.zero_le _⟩ (fun u_6 H locs h hP hD hS => ?_)
      refine lv_iload_n hx hb dX0_cancelOrder_48 rfl (lv_at hl 0 rfl) ?_
      exact W.iret (v := r_5) hx hb hr (fun t ht hW => ⟨⟨r_5, (mgO D u_6), rfl, h, by rw [ht]; exact hP, hD⟩, hS.F ht⟩) hS.2.2 dX0_cancelOrder_49
    · have h := h.1 c_4
      refine lv_ldc hx hb hown (hts (.constant RX0 113 (-1000002)) (by decide +kernel)) dX0_cancelOrder_28 ?_
      exact W.iret (v := (-1000002)) hx hb hr (fun t ht hW => ⟨⟨(-1000002), D, rfl, h, by rw [ht]; exact hP, hD⟩, hS.F ht⟩) hS.2.2 dX0_cancelOrder_30
  · have h := h.1 c_2
    refine lv_ldc hx hb hown (hts (.constant RX0 91 (-1000001)) (by decide +kernel)) dX0_cancelOrder_11 ?_
    exact W.iret (v := (-1000001)) hx hb hr (fun t ht hW => ⟨⟨(-1000001), D, rfl, h, by rw [ht]; exact hP, hD⟩, hS.F ht⟩) hS.2.2 dX0_cancelOrder_13
def q_X0_changeInflow (x : Int32) (D : St) (Q : Int32 → St → Prop) : Prop :=
  (x < 0 → Q (-1000001) D) ∧ (¬ (x < 0) → (x ≤ 300 → Q (D 16 0) (uA D 16 (fun _ => x))) ∧ (¬ (x ≤ 300) → Q (-1000001) D))
set_option maxHeartbeats 4000000 in
set_option maxRecDepth 100000 in
theorem c_X0_changeInflow (l : Launch) (G : va_G) (cI cC cD : ClassId) (q : Nat → Nat) (sz : Nat) (D : St) (x : Int32) (Q : Int32 → St → Prop) (h : q_X0_changeInflow x D Q) : Met l yX0_changeInflow wsX0_changeInflow ({ frames := 0, cells := 0, slots := 0, locals := 0 }) (va_Pc [.ref (q 0), .int x] (PW G (ty3 cI cC cD) (wD cI q D) sz)) (va_Qi Q (BW G (fun u : St => (wD cI q u)) (va_A (wD cI q D) sz)) (va_A (wD cI q D) sz)) 0 0 (va_A (wD cI q D) sz) := by
  refine Met.ofW (cc := cX0_changeInflow) (maxL := 3) (ret := (some .int)) (by decide) rfl ?_
  intro p e s m args below meth c s₁ B hml hv
  obtain ⟨rfl, hsz, hP, hK, hD0, hN⟩ := hv
  have hx := B.exec
  have hb := B.bytes
  have hr := B.returns
  have hts := atoms_spec (ws := wsX0_changeInflow) B.pre
  have hown : s.vm.findClass RX0 = some m.cls := findClass_of_methodNamed B.named
  have hlocks := B.notSynchronized
  subst hsz
  have hD := hD0.self (sz := s.heap.size)
  generalize hAe : va_A (wD cI q D) s.heap.size = A at hD ⊢
  have hA : ∀ q : Nat, s.heap.size ≤ q → A q := fun q h => by rw [← hAe]; exact Or.inr h
  have hS : va_S A s.heap s.heap [] := va_S.rf
  have hl := lv_entry ([.ref (q 0), .int x]) (n := 3) (Nat.le_of_ble_eq_true rfl)
  rw [lg_entry_eq]
  generalize (lg_sl ([.ref (q 0), .int x]) ++ List.replicate (3 - (lg_sl ([.ref (q 0), .int x])).length) Slot.unset).toArray = ls at hl ⊢
  have hl : lv_has ls 3 [(0, .ref (q 0)), (1, .int x)] := hl
  have hinX0 : ∀ w ∈ wsX00, w ∈ wsX0_changeInflow := by decide +kernel
  have hL54 := hts (.fieldLink RX0 54 "CraneGates$Dam" "inflow" "I") (by decide +kernel)
  unfold q_X0_changeInflow at h
  refine lv_iload_n hx hb dX0_changeInflow_0 rfl (lv_at hl 1 rfl) ?_
  refine lv_if_lt (tgt := 11) hx hb dX0_changeInflow_1 (by decide) (fun c_1 => ?_) (fun c_1 => ?_)
  · have h := h.1 c_1
    refine lv_ldc hx hb hown (hts (.constant RX0 91 (-1000001)) (by decide +kernel)) dX0_changeInflow_11 ?_
    exact W.iret (v := (-1000001)) hx hb hr (fun t ht hW => ⟨⟨(-1000001), D, rfl, h, by rw [ht]; exact hP, hD⟩, hS.F ht⟩) hS.2.2 dX0_changeInflow_13
  · have h := h.2 c_1
    refine lv_iload_n hx hb dX0_changeInflow_4 rfl (lv_at hl 1 rfl) ?_
    refine lv_sipush (v := 300) hx hb dX0_changeInflow_5 (by decide) ?_
    refine lv_icmp_le (tgt := 14) hx hb dX0_changeInflow_8 (by decide) (fun c_2 => ?_) (fun c_2 => ?_)
    · have h := h.1 c_2
      refine lv_aload_n hx hb dX0_changeInflow_14 rfl (lv_at hl 0 rfl) ?_
      refine va_get (D := G) (ci := 0) (v := .int (D 16 0)) (C := RX0) (T := TX0) (N := 18) hx hb hts hinX0 hown hK hP 0 rfl rfl 5 (by decide) hL54 (fun _ h9 => h9) rfl dX0_changeInflow_15 ?_
      refine lv_istore_n (lv' := [(2, .int (D 16 0)), (0, .ref (q 0)), (1, .int x)]) hx hb dX0_changeInflow_18 rfl hl (by decide) rfl (fun ls hl => ?_)
      refine lv_aload_n hx hb dX0_changeInflow_19 rfl (lv_at hl 1 rfl) ?_
      refine lv_iload_n hx hb dX0_changeInflow_20 rfl (lv_at hl 2 rfl) ?_
      refine va_put (D := G) (ci := 0) (v := .int x) (ty := .int) (C := RX0) (T := TX0) (N := 18) hx hb hts hinX0 tyX0 tyX0_ok nmX0 hown hK hP hD hS 0 rfl rfl 5 (by decide) hL54 (fun _ h9 => h9) rfl (by decide +kernel) rfl rfl (Nat.le_of_ble_eq_true rfl) dX0_changeInflow_21 (fun H locs hP hD hS => ?_)
      have hP : va_P G vwCl (wD cI q (uA D 16 (fun _ => x))) H := hP
      have hD : va_D A (wD cI q (uA D 16 (fun _ => x))) := hD
      refine lv_iload_n hx hb dX0_changeInflow_24 rfl (lv_at hl 0 rfl) ?_
      exact W.iret (v := (D 16 0)) hx hb hr (fun t ht hW => ⟨⟨(D 16 0), (uA D 16 (fun _ => x)), rfl, h, by rw [ht]; exact hP, hD⟩, hS.F ht⟩) hS.2.2 dX0_changeInflow_25
    · have h := h.2 c_2
      refine lv_ldc hx hb hown (hts (.constant RX0 91 (-1000001)) (by decide +kernel)) dX0_changeInflow_11 ?_
      exact W.iret (v := (-1000001)) hx hb hr (fun t ht hW => ⟨⟨(-1000001), D, rfl, h, by rw [ht]; exact hP, hD⟩, hS.F ht⟩) hS.2.2 dX0_changeInflow_13
def q_X0_changeWater (x : Int32) (D : St) (Q : Int32 → St → Prop) : Prop :=
  (x < 0 → Q (-1000001) D) ∧ (¬ (x < 0) → (x ≤ 9999 → Q (D 15 0) (uA D 15 (fun _ => x))) ∧ (¬ (x ≤ 9999) → Q (-1000001) D))
set_option maxHeartbeats 4000000 in
set_option maxRecDepth 100000 in
theorem c_X0_changeWater (l : Launch) (G : va_G) (cI cC cD : ClassId) (q : Nat → Nat) (sz : Nat) (D : St) (x : Int32) (Q : Int32 → St → Prop) (h : q_X0_changeWater x D Q) : Met l yX0_changeWater wsX0_changeWater ({ frames := 0, cells := 0, slots := 0, locals := 0 }) (va_Pc [.ref (q 0), .int x] (PW G (ty3 cI cC cD) (wD cI q D) sz)) (va_Qi Q (BW G (fun u : St => (wD cI q u)) (va_A (wD cI q D) sz)) (va_A (wD cI q D) sz)) 0 0 (va_A (wD cI q D) sz) := by
  refine Met.ofW (cc := cX0_changeWater) (maxL := 3) (ret := (some .int)) (by decide) rfl ?_
  intro p e s m args below meth c s₁ B hml hv
  obtain ⟨rfl, hsz, hP, hK, hD0, hN⟩ := hv
  have hx := B.exec
  have hb := B.bytes
  have hr := B.returns
  have hts := atoms_spec (ws := wsX0_changeWater) B.pre
  have hown : s.vm.findClass RX0 = some m.cls := findClass_of_methodNamed B.named
  have hlocks := B.notSynchronized
  subst hsz
  have hD := hD0.self (sz := s.heap.size)
  generalize hAe : va_A (wD cI q D) s.heap.size = A at hD ⊢
  have hA : ∀ q : Nat, s.heap.size ≤ q → A q := fun q h => by rw [← hAe]; exact Or.inr h
  have hS : va_S A s.heap s.heap [] := va_S.rf
  have hl := lv_entry ([.ref (q 0), .int x]) (n := 3) (Nat.le_of_ble_eq_true rfl)
  rw [lg_entry_eq]
  generalize (lg_sl ([.ref (q 0), .int x]) ++ List.replicate (3 - (lg_sl ([.ref (q 0), .int x])).length) Slot.unset).toArray = ls at hl ⊢
  have hl : lv_has ls 3 [(0, .ref (q 0)), (1, .int x)] := hl
  have hinX0 : ∀ w ∈ wsX00, w ∈ wsX0_changeWater := by decide +kernel
  have hL34 := hts (.fieldLink RX0 34 "CraneGates$Dam" "water" "I") (by decide +kernel)
  unfold q_X0_changeWater at h
  refine lv_iload_n hx hb dX0_changeWater_0 rfl (lv_at hl 1 rfl) ?_
  refine lv_if_lt (tgt := 11) hx hb dX0_changeWater_1 (by decide) (fun c_1 => ?_) (fun c_1 => ?_)
  · have h := h.1 c_1
    refine lv_ldc hx hb hown (hts (.constant RX0 91 (-1000001)) (by decide +kernel)) dX0_changeWater_11 ?_
    exact W.iret (v := (-1000001)) hx hb hr (fun t ht hW => ⟨⟨(-1000001), D, rfl, h, by rw [ht]; exact hP, hD⟩, hS.F ht⟩) hS.2.2 dX0_changeWater_13
  · have h := h.2 c_1
    refine lv_iload_n hx hb dX0_changeWater_4 rfl (lv_at hl 1 rfl) ?_
    refine lv_sipush (v := 9999) hx hb dX0_changeWater_5 (by decide) ?_
    refine lv_icmp_le (tgt := 14) hx hb dX0_changeWater_8 (by decide) (fun c_2 => ?_) (fun c_2 => ?_)
    · have h := h.1 c_2
      refine lv_aload_n hx hb dX0_changeWater_14 rfl (lv_at hl 0 rfl) ?_
      refine va_get (D := G) (ci := 0) (v := .int (D 15 0)) (C := RX0) (T := TX0) (N := 18) hx hb hts hinX0 hown hK hP 0 rfl rfl 4 (by decide) hL34 (fun _ h9 => h9) rfl dX0_changeWater_15 ?_
      refine lv_istore_n (lv' := [(2, .int (D 15 0)), (0, .ref (q 0)), (1, .int x)]) hx hb dX0_changeWater_18 rfl hl (by decide) rfl (fun ls hl => ?_)
      refine lv_aload_n hx hb dX0_changeWater_19 rfl (lv_at hl 1 rfl) ?_
      refine lv_iload_n hx hb dX0_changeWater_20 rfl (lv_at hl 2 rfl) ?_
      refine va_put (D := G) (ci := 0) (v := .int x) (ty := .int) (C := RX0) (T := TX0) (N := 18) hx hb hts hinX0 tyX0 tyX0_ok nmX0 hown hK hP hD hS 0 rfl rfl 4 (by decide) hL34 (fun _ h9 => h9) rfl (by decide +kernel) rfl rfl (Nat.le_of_ble_eq_true rfl) dX0_changeWater_21 (fun H locs hP hD hS => ?_)
      have hP : va_P G vwCl (wD cI q (uA D 15 (fun _ => x))) H := hP
      have hD : va_D A (wD cI q (uA D 15 (fun _ => x))) := hD
      refine lv_iload_n hx hb dX0_changeWater_24 rfl (lv_at hl 0 rfl) ?_
      exact W.iret (v := (D 15 0)) hx hb hr (fun t ht hW => ⟨⟨(D 15 0), (uA D 15 (fun _ => x)), rfl, h, by rw [ht]; exact hP, hD⟩, hS.F ht⟩) hS.2.2 dX0_changeWater_25
    · have h := h.2 c_2
      refine lv_ldc hx hb hown (hts (.constant RX0 91 (-1000001)) (by decide +kernel)) dX0_changeWater_11 ?_
      exact W.iret (v := (-1000001)) hx hb hr (fun t ht hW => ⟨⟨(-1000001), D, rfl, h, by rw [ht]; exact hP, hD⟩, hS.F ht⟩) hS.2.2 dX0_changeWater_13
def q_X0_changeSetting (x : Int32) (y : Int32) (D : St) (Q : Int32 → St → Prop) : Prop :=
  (x < 0 → Q (-1000001) D) ∧ (¬ (x < 0) → (x < 3 → (x = 2 → (y < 0 → Q (-1000001) D) ∧ (¬ (y < 0) → (y ≤ 2 → vp_in x 3 ∧ (Q ((D 14) ((x).toNatClampNeg)) (uA D 14 (upd (D 14) ((x).toNatClampNeg) y)))) ∧ (¬ (y ≤ 2) → Q (-1000001) D))) ∧ (¬ (x = 2) → (y < 1 → Q (-1000001) D) ∧ (¬ (y < 1) → (y ≤ 9999 → vp_in x 3 ∧ (Q ((D 14) ((x).toNatClampNeg)) (uA D 14 (upd (D 14) ((x).toNatClampNeg) y)))) ∧ (¬ (y ≤ 9999) → Q (-1000001) D)))) ∧ (¬ (x < 3) → Q (-1000001) D))
set_option maxHeartbeats 4000000 in
set_option maxRecDepth 100000 in
theorem c_X0_changeSetting (l : Launch) (G : va_G) (cI cC cD : ClassId) (q : Nat → Nat) (sz : Nat) (D : St) (x : Int32) (y : Int32) (Q : Int32 → St → Prop) (h : q_X0_changeSetting x y D Q) : Met l yX0_changeSetting wsX0_changeSetting ({ frames := 0, cells := 0, slots := 0, locals := 0 }) (va_Pc [.ref (q 0), .int x, .int y] (PW G (ty3 cI cC cD) (wD cI q D) sz)) (va_Qi Q (BW G (fun u : St => (wD cI q u)) (va_A (wD cI q D) sz)) (va_A (wD cI q D) sz)) 0 0 (va_A (wD cI q D) sz) := by
  refine Met.ofW (cc := cX0_changeSetting) (maxL := 6) (ret := (some .int)) (by decide) rfl ?_
  intro p e s m args below meth c s₁ B hml hv
  obtain ⟨rfl, hsz, hP, hK, hD0, hN⟩ := hv
  have hx := B.exec
  have hb := B.bytes
  have hr := B.returns
  have hts := atoms_spec (ws := wsX0_changeSetting) B.pre
  have hown : s.vm.findClass RX0 = some m.cls := findClass_of_methodNamed B.named
  have hlocks := B.notSynchronized
  subst hsz
  have hD := hD0.self (sz := s.heap.size)
  generalize hAe : va_A (wD cI q D) s.heap.size = A at hD ⊢
  have hA : ∀ q : Nat, s.heap.size ≤ q → A q := fun q h => by rw [← hAe]; exact Or.inr h
  have hS : va_S A s.heap s.heap [] := va_S.rf
  have hl := lv_entry ([.ref (q 0), .int x, .int y]) (n := 6) (Nat.le_of_ble_eq_true rfl)
  rw [lg_entry_eq]
  generalize (lg_sl ([.ref (q 0), .int x, .int y]) ++ List.replicate (6 - (lg_sl ([.ref (q 0), .int x, .int y])).length) Slot.unset).toArray = ls at hl ⊢
  have hl : lv_has ls 6 [(0, .ref (q 0)), (1, .int x), (2, .int y)] := hl
  have hinX0 : ∀ w ∈ wsX00, w ∈ wsX0_changeSetting := by decide +kernel
  have hL30 := hts (.fieldLink RX0 30 "CraneGates$Dam" "settings" "[I") (by decide +kernel)
  unfold q_X0_changeSetting at h
  refine lv_iload_n hx hb dX0_changeSetting_0 rfl (lv_at hl 1 rfl) ?_
  refine lv_if_lt (tgt := 9) hx hb dX0_changeSetting_1 (by decide) (fun c_1 => ?_) (fun c_1 => ?_)
  · have h := h.1 c_1
    refine lv_ldc hx hb hown (hts (.constant RX0 91 (-1000001)) (by decide +kernel)) dX0_changeSetting_9 ?_
    exact W.iret (v := (-1000001)) hx hb hr (fun t ht hW => ⟨⟨(-1000001), D, rfl, h, by rw [ht]; exact hP, hD⟩, hS.F ht⟩) hS.2.2 dX0_changeSetting_11
  · have h := h.2 c_1
    refine lv_iload_n hx hb dX0_changeSetting_4 rfl (lv_at hl 1 rfl) ?_
    refine lv_iconst (v := 3) hx hb dX0_changeSetting_5 (by decide) ?_
    refine lv_icmp_lt (tgt := 12) hx hb dX0_changeSetting_6 (by decide) (fun c_2 => ?_) (fun c_2 => ?_)
    · have h := h.1 c_2
      refine lv_iload_n hx hb dX0_changeSetting_12 rfl (lv_at hl 1 rfl) ?_
      refine lv_iconst (v := 2) hx hb dX0_changeSetting_13 (by decide) ?_
      refine lv_icmp_ne (tgt := 21) hx hb dX0_changeSetting_14 (by decide) (fun c_3 => ?_) (fun c_3 => ?_)
      · have h := h.2 c_3
        refine lv_iconst (v := 1) hx hb dX0_changeSetting_21 (by decide) ?_
        refine lv_istore_n (lv' := [(3, .int 1), (0, .ref (q 0)), (1, .int x), (2, .int y)]) hx hb dX0_changeSetting_22 rfl hl (by decide) rfl (fun ls hl => ?_)
        refine lv_iload_n hx hb dX0_changeSetting_23 rfl (lv_at hl 2 rfl) ?_
        refine lv_iconst (v := 2) hx hb dX0_changeSetting_24 (by decide) ?_
        refine lv_icmp_ne (tgt := 32) hx hb dX0_changeSetting_25 (by decide) (fun _ => ?_) (fun c => absurd c c_3)
        refine lv_sipush (v := 9999) hx hb dX0_changeSetting_32 (by decide) ?_
        refine lv_istore (lv' := [(4, .int 9999), (3, .int 1), (0, .ref (q 0)), (1, .int x), (2, .int y)]) hx hb dX0_changeSetting_35 hl (by decide) rfl (fun ls hl => ?_)
        refine lv_iload_n hx hb dX0_changeSetting_37 rfl (lv_at hl 4 rfl) ?_
        refine lv_iload_n hx hb dX0_changeSetting_38 rfl (lv_at hl 1 rfl) ?_
        refine lv_icmp_lt (tgt := 48) hx hb dX0_changeSetting_39 (by decide) (fun c_4 => ?_) (fun c_4 => ?_)
        · have h := h.1 c_4
          refine lv_ldc hx hb hown (hts (.constant RX0 91 (-1000001)) (by decide +kernel)) dX0_changeSetting_48 ?_
          exact W.iret (v := (-1000001)) hx hb hr (fun t ht hW => ⟨⟨(-1000001), D, rfl, h, by rw [ht]; exact hP, hD⟩, hS.F ht⟩) hS.2.2 dX0_changeSetting_50
        · have h := h.2 c_4
          refine lv_iload_n hx hb dX0_changeSetting_42 rfl (lv_at hl 4 rfl) ?_
          refine lv_iload hx hb dX0_changeSetting_43 (lv_at hl 0 rfl) ?_
          refine lv_icmp_le (tgt := 51) hx hb dX0_changeSetting_45 (by decide) (fun c_5 => ?_) (fun c_5 => ?_)
          · have h := h.1 c_5
            refine lv_aload_n hx hb dX0_changeSetting_51 rfl (lv_at hl 2 rfl) ?_
            refine va_get (D := G) (ci := 0) (v := .ref (q 13)) (C := RX0) (T := TX0) (N := 18) hx hb hts hinX0 hown hK hP 0 rfl rfl 3 (by decide) hL30 (fun _ h9 => h9) rfl dX0_changeSetting_52 ?_
            refine lv_iload_n hx hb dX0_changeSetting_55 rfl (lv_at hl 3 rfl) ?_
            obtain ⟨hi_6, h⟩ := h
            refine k_ald (f := (D 14)) (j := (x).toNatClampNeg) (v := ((D 14) ((x).toNatClampNeg))) hx hb hK hP 13 0 rfl rfl hi_6 rfl rfl dX0_changeSetting_56 ?_
            refine lv_istore (lv' := [(5, .int ((D 14) ((x).toNatClampNeg))), (4, .int 9999), (3, .int 1), (0, .ref (q 0)), (1, .int x), (2, .int y)]) hx hb dX0_changeSetting_57 hl (by decide) rfl (fun ls hl => ?_)
            refine lv_aload_n hx hb dX0_changeSetting_59 rfl (lv_at hl 3 rfl) ?_
            refine va_get (D := G) (ci := 0) (v := .ref (q 13)) (C := RX0) (T := TX0) (N := 18) hx hb hts hinX0 hown hK hP 0 rfl rfl 3 (by decide) hL30 (fun _ h9 => h9) rfl dX0_changeSetting_60 ?_
            refine lv_iload_n hx hb dX0_changeSetting_63 rfl (lv_at hl 4 rfl) ?_
            refine lv_iload_n hx hb dX0_changeSetting_64 rfl (lv_at hl 5 rfl) ?_
            refine k_ast (f := (D 14)) (j := (x).toNatClampNeg) (ws' := (wD cI q (uA D 14 (upd (D 14) ((x).toNatClampNeg) y)))) hx hb hK hP hD hS 13 0 rfl rfl hi_6 rfl dX0_changeSetting_65 rfl (fun H locs hP hD hS => ?_)
            refine lv_iload hx hb dX0_changeSetting_66 (lv_at hl 0 rfl) ?_
            exact W.iret (v := ((D 14) ((x).toNatClampNeg))) hx hb hr (fun t ht hW => ⟨⟨((D 14) ((x).toNatClampNeg)), (uA D 14 (upd (D 14) ((x).toNatClampNeg) y)), rfl, h, by rw [ht]; exact hP, hD⟩, hS.F ht⟩) hS.2.2 dX0_changeSetting_68
          · have h := h.2 c_5
            refine lv_ldc hx hb hown (hts (.constant RX0 91 (-1000001)) (by decide +kernel)) dX0_changeSetting_48 ?_
            exact W.iret (v := (-1000001)) hx hb hr (fun t ht hW => ⟨⟨(-1000001), D, rfl, h, by rw [ht]; exact hP, hD⟩, hS.F ht⟩) hS.2.2 dX0_changeSetting_50
      · have h := h.1 c_3
        refine lv_iconst (v := 0) hx hb dX0_changeSetting_17 (by decide) ?_
        refine lv_goto (tgt := 22) hx hb dX0_changeSetting_18 (by decide) ?_
        refine lv_istore_n (lv' := [(3, .int 0), (0, .ref (q 0)), (1, .int x), (2, .int y)]) hx hb dX0_changeSetting_22 rfl hl (by decide) rfl (fun ls hl => ?_)
        refine lv_iload_n hx hb dX0_changeSetting_23 rfl (lv_at hl 2 rfl) ?_
        refine lv_iconst (v := 2) hx hb dX0_changeSetting_24 (by decide) ?_
        refine lv_icmp_ne (tgt := 32) hx hb dX0_changeSetting_25 (by decide) (fun c => absurd c_3 c) (fun _ => ?_)
        refine lv_iconst (v := 2) hx hb dX0_changeSetting_28 (by decide) ?_
        refine lv_goto (tgt := 35) hx hb dX0_changeSetting_29 (by decide) ?_
        refine lv_istore (lv' := [(4, .int 2), (3, .int 0), (0, .ref (q 0)), (1, .int x), (2, .int y)]) hx hb dX0_changeSetting_35 hl (by decide) rfl (fun ls hl => ?_)
        refine lv_iload_n hx hb dX0_changeSetting_37 rfl (lv_at hl 4 rfl) ?_
        refine lv_iload_n hx hb dX0_changeSetting_38 rfl (lv_at hl 1 rfl) ?_
        refine lv_icmp_lt (tgt := 48) hx hb dX0_changeSetting_39 (by decide) (fun c_7 => ?_) (fun c_7 => ?_)
        · have h := h.1 c_7
          refine lv_ldc hx hb hown (hts (.constant RX0 91 (-1000001)) (by decide +kernel)) dX0_changeSetting_48 ?_
          exact W.iret (v := (-1000001)) hx hb hr (fun t ht hW => ⟨⟨(-1000001), D, rfl, h, by rw [ht]; exact hP, hD⟩, hS.F ht⟩) hS.2.2 dX0_changeSetting_50
        · have h := h.2 c_7
          refine lv_iload_n hx hb dX0_changeSetting_42 rfl (lv_at hl 4 rfl) ?_
          refine lv_iload hx hb dX0_changeSetting_43 (lv_at hl 0 rfl) ?_
          refine lv_icmp_le (tgt := 51) hx hb dX0_changeSetting_45 (by decide) (fun c_8 => ?_) (fun c_8 => ?_)
          · have h := h.1 c_8
            refine lv_aload_n hx hb dX0_changeSetting_51 rfl (lv_at hl 2 rfl) ?_
            refine va_get (D := G) (ci := 0) (v := .ref (q 13)) (C := RX0) (T := TX0) (N := 18) hx hb hts hinX0 hown hK hP 0 rfl rfl 3 (by decide) hL30 (fun _ h9 => h9) rfl dX0_changeSetting_52 ?_
            refine lv_iload_n hx hb dX0_changeSetting_55 rfl (lv_at hl 3 rfl) ?_
            obtain ⟨hi_9, h⟩ := h
            refine k_ald (f := (D 14)) (j := (x).toNatClampNeg) (v := ((D 14) ((x).toNatClampNeg))) hx hb hK hP 13 0 rfl rfl hi_9 rfl rfl dX0_changeSetting_56 ?_
            refine lv_istore (lv' := [(5, .int ((D 14) ((x).toNatClampNeg))), (4, .int 2), (3, .int 0), (0, .ref (q 0)), (1, .int x), (2, .int y)]) hx hb dX0_changeSetting_57 hl (by decide) rfl (fun ls hl => ?_)
            refine lv_aload_n hx hb dX0_changeSetting_59 rfl (lv_at hl 3 rfl) ?_
            refine va_get (D := G) (ci := 0) (v := .ref (q 13)) (C := RX0) (T := TX0) (N := 18) hx hb hts hinX0 hown hK hP 0 rfl rfl 3 (by decide) hL30 (fun _ h9 => h9) rfl dX0_changeSetting_60 ?_
            refine lv_iload_n hx hb dX0_changeSetting_63 rfl (lv_at hl 4 rfl) ?_
            refine lv_iload_n hx hb dX0_changeSetting_64 rfl (lv_at hl 5 rfl) ?_
            refine k_ast (f := (D 14)) (j := (x).toNatClampNeg) (ws' := (wD cI q (uA D 14 (upd (D 14) ((x).toNatClampNeg) y)))) hx hb hK hP hD hS 13 0 rfl rfl hi_9 rfl dX0_changeSetting_65 rfl (fun H locs hP hD hS => ?_)
            refine lv_iload hx hb dX0_changeSetting_66 (lv_at hl 0 rfl) ?_
            exact W.iret (v := ((D 14) ((x).toNatClampNeg))) hx hb hr (fun t ht hW => ⟨⟨((D 14) ((x).toNatClampNeg)), (uA D 14 (upd (D 14) ((x).toNatClampNeg) y)), rfl, h, by rw [ht]; exact hP, hD⟩, hS.F ht⟩) hS.2.2 dX0_changeSetting_68
          · have h := h.2 c_8
            refine lv_ldc hx hb hown (hts (.constant RX0 91 (-1000001)) (by decide +kernel)) dX0_changeSetting_48 ?_
            exact W.iret (v := (-1000001)) hx hb hr (fun t ht hW => ⟨⟨(-1000001), D, rfl, h, by rw [ht]; exact hP, hD⟩, hS.F ht⟩) hS.2.2 dX0_changeSetting_50
    · have h := h.2 c_2
      refine lv_ldc hx hb hown (hts (.constant RX0 91 (-1000001)) (by decide +kernel)) dX0_changeSetting_9 ?_
      exact W.iret (v := (-1000001)) hx hb hr (fun t ht hW => ⟨⟨(-1000001), D, rfl, h, by rw [ht]; exact hP, hD⟩, hS.F ht⟩) hS.2.2 dX0_changeSetting_11
def q_X0_refusalToPass (x : Int32) (D : St) (Q : Int32 → Prop) : Prop :=
  (x < 1 → Q (-1000001)) ∧ (¬ (x < 1) → (x ≤ 240 → (((D 20 0) + x) ≤ 50000 → Q 0) ∧ (¬ (((D 20 0) + x) ≤ 50000) → Q (-1000003))) ∧ (¬ (x ≤ 240) → Q (-1000001)))
set_option maxHeartbeats 4000000 in
set_option maxRecDepth 100000 in
theorem c_X0_refusalToPass (l : Launch) (G : va_G) (cI cC cD : ClassId) (q : Nat → Nat) (sz : Nat) (D : St) (x : Int32) (Q : Int32 → Prop) (h : q_X0_refusalToPass x D Q) : Met l yX0_refusalToPass wsX0_refusalToPass ({ frames := 0, cells := 0, slots := 0, locals := 0 }) (va_Pc [.ref (q 0), .int x] (PW G (ty3 cI cC cD) (wD cI q D) sz)) (va_Qi (fun (r : Int32) (_ : Unit) => Q r) (BW G (fun _ : Unit => (wD cI q D)) (va_A (wD cI q D) sz)) (va_A (wD cI q D) sz)) 0 0 (va_A (wD cI q D) sz) := by
  refine Met.ofW (cc := cX0_refusalToPass) (maxL := 2) (ret := (some .int)) (by decide) rfl ?_
  intro p e s m args below meth c s₁ B hml hv
  obtain ⟨rfl, hsz, hP, hK, hD0, hN⟩ := hv
  have hx := B.exec
  have hb := B.bytes
  have hr := B.returns
  have hts := atoms_spec (ws := wsX0_refusalToPass) B.pre
  have hown : s.vm.findClass RX0 = some m.cls := findClass_of_methodNamed B.named
  have hlocks := B.notSynchronized
  subst hsz
  have hD := hD0.self (sz := s.heap.size)
  generalize hAe : va_A (wD cI q D) s.heap.size = A at hD ⊢
  have hA : ∀ q : Nat, s.heap.size ≤ q → A q := fun q h => by rw [← hAe]; exact Or.inr h
  have hS : va_S A s.heap s.heap [] := va_S.rf
  have hl := lv_entry ([.ref (q 0), .int x]) (n := 2) (Nat.le_of_ble_eq_true rfl)
  rw [lg_entry_eq]
  generalize (lg_sl ([.ref (q 0), .int x]) ++ List.replicate (2 - (lg_sl ([.ref (q 0), .int x])).length) Slot.unset).toArray = ls at hl ⊢
  have hl : lv_has ls 2 [(0, .ref (q 0)), (1, .int x)] := hl
  have hinX0 : ∀ w ∈ wsX00, w ∈ wsX0_refusalToPass := by decide +kernel
  have hL66 := hts (.fieldLink RX0 66 "CraneGates$Dam" "minutesSoFar" "I") (by decide +kernel)
  unfold q_X0_refusalToPass at h
  refine lv_iload_n hx hb dX0_refusalToPass_0 rfl (lv_at hl 1 rfl) ?_
  refine lv_iconst (v := 1) hx hb dX0_refusalToPass_1 (by decide) ?_
  refine lv_icmp_lt (tgt := 12) hx hb dX0_refusalToPass_2 (by decide) (fun c_1 => ?_) (fun c_1 => ?_)
  · have h := h.1 c_1
    refine lv_ldc hx hb hown (hts (.constant RX0 91 (-1000001)) (by decide +kernel)) dX0_refusalToPass_12 ?_
    exact W.iret (v := (-1000001)) hx hb hr (fun t ht hW => ⟨⟨(-1000001), (), rfl, h, by rw [ht]; exact hP, hD⟩, hS.F ht⟩) hS.2.2 dX0_refusalToPass_14
  · have h := h.2 c_1
    refine lv_iload_n hx hb dX0_refusalToPass_5 rfl (lv_at hl 1 rfl) ?_
    refine lv_sipush (v := 240) hx hb dX0_refusalToPass_6 (by decide) ?_
    refine lv_icmp_le (tgt := 15) hx hb dX0_refusalToPass_9 (by decide) (fun c_2 => ?_) (fun c_2 => ?_)
    · have h := h.1 c_2
      refine lv_aload_n hx hb dX0_refusalToPass_15 rfl (lv_at hl 0 rfl) ?_
      refine va_get (D := G) (ci := 0) (v := .int (D 20 0)) (C := RX0) (T := TX0) (N := 18) hx hb hts hinX0 hown hK hP 0 rfl rfl 9 (by decide) hL66 (fun _ h9 => h9) rfl dX0_refusalToPass_16 ?_
      refine lv_iload_n hx hb dX0_refusalToPass_19 rfl (lv_at hl 1 rfl) ?_
      refine lv_iadd hx hb dX0_refusalToPass_20 ?_
      refine lv_ldc hx hb hown (hts (.constant RX0 127 (50000)) (by decide +kernel)) dX0_refusalToPass_21 ?_
      refine lv_icmp_le (tgt := 31) hx hb dX0_refusalToPass_23 (by decide) (fun c_3 => ?_) (fun c_3 => ?_)
      · have h := h.1 c_3
        refine lv_iconst (v := 0) hx hb dX0_refusalToPass_31 (by decide) ?_
        exact W.iret (v := 0) hx hb hr (fun t ht hW => ⟨⟨0, (), rfl, h, by rw [ht]; exact hP, hD⟩, hS.F ht⟩) hS.2.2 dX0_refusalToPass_32
      · have h := h.2 c_3
        refine lv_ldc hx hb hown (hts (.constant RX0 96 (-1000003)) (by decide +kernel)) dX0_refusalToPass_26 ?_
        refine lv_goto (tgt := 32) hx hb dX0_refusalToPass_28 (by decide) ?_
        exact W.iret (v := (-1000003)) hx hb hr (fun t ht hW => ⟨⟨(-1000003), (), rfl, h, by rw [ht]; exact hP, hD⟩, hS.F ht⟩) hS.2.2 dX0_refusalToPass_32
    · have h := h.2 c_2
      refine lv_ldc hx hb hown (hts (.constant RX0 91 (-1000001)) (by decide +kernel)) dX0_refusalToPass_12 ?_
      exact W.iret (v := (-1000001)) hx hb hr (fun t ht hW => ⟨⟨(-1000001), (), rfl, h, by rw [ht]; exact hP, hD⟩, hS.F ht⟩) hS.2.2 dX0_refusalToPass_14
def q_X0_floodIsDue (D : St) (Q : Int32 → Prop) : Prop :=
  ((D 21 0) = 0 → ((D 15 0) < ((D 14) 0) → Q 0) ∧ (¬ ((D 15 0) < ((D 14) 0)) → Q 1)) ∧ (¬ ((D 21 0) = 0) → Q 0)
set_option maxHeartbeats 4000000 in
set_option maxRecDepth 100000 in
theorem c_X0_floodIsDue (l : Launch) (G : va_G) (cI cC cD : ClassId) (q : Nat → Nat) (sz : Nat) (D : St)  (Q : Int32 → Prop) (h : q_X0_floodIsDue  D Q) : Met l yX0_floodIsDue wsX0_floodIsDue ({ frames := 0, cells := 0, slots := 0, locals := 0 }) (va_Pc [.ref (q 0)] (PW G (ty3 cI cC cD) (wD cI q D) sz)) (va_Qi (fun (r : Int32) (_ : Unit) => Q r) (BW G (fun _ : Unit => (wD cI q D)) (va_A (wD cI q D) sz)) (va_A (wD cI q D) sz)) 0 0 (va_A (wD cI q D) sz) := by
  refine Met.ofW (cc := cX0_floodIsDue) (maxL := 1) (ret := (some .boolean)) (by decide) rfl ?_
  intro p e s m args below meth c s₁ B hml hv
  obtain ⟨rfl, hsz, hP, hK, hD0, hN⟩ := hv
  have hx := B.exec
  have hb := B.bytes
  have hr := B.returns
  have hts := atoms_spec (ws := wsX0_floodIsDue) B.pre
  have hown : s.vm.findClass RX0 = some m.cls := findClass_of_methodNamed B.named
  have hlocks := B.notSynchronized
  subst hsz
  have hD := hD0.self (sz := s.heap.size)
  generalize hAe : va_A (wD cI q D) s.heap.size = A at hD ⊢
  have hA : ∀ q : Nat, s.heap.size ≤ q → A q := fun q h => by rw [← hAe]; exact Or.inr h
  have hS : va_S A s.heap s.heap [] := va_S.rf
  have hl := lv_entry ([.ref (q 0)]) (n := 1) (Nat.le_of_ble_eq_true rfl)
  rw [lg_entry_eq]
  generalize (lg_sl ([.ref (q 0)]) ++ List.replicate (1 - (lg_sl ([.ref (q 0)])).length) Slot.unset).toArray = ls at hl ⊢
  have hl : lv_has ls 1 [(0, .ref (q 0))] := hl
  have hinX0 : ∀ w ∈ wsX00, w ∈ wsX0_floodIsDue := by decide +kernel
  have hL30 := hts (.fieldLink RX0 30 "CraneGates$Dam" "settings" "[I") (by decide +kernel)
  have hL34 := hts (.fieldLink RX0 34 "CraneGates$Dam" "water" "I") (by decide +kernel)
  have hL69 := hts (.fieldLink RX0 69 "CraneGates$Dam" "flooded" "Z") (by decide +kernel)
  unfold q_X0_floodIsDue at h
  refine lv_aload_n hx hb dX0_floodIsDue_0 rfl (lv_at hl 0 rfl) ?_
  refine va_get (D := G) (ci := 0) (v := .int (D 21 0)) (C := RX0) (T := TX0) (N := 18) hx hb hts hinX0 hown hK hP 0 rfl rfl 10 (by decide) hL69 (fun _ h9 => h9) rfl dX0_floodIsDue_1 ?_
  refine lv_if_ne (tgt := 24) hx hb dX0_floodIsDue_4 (by decide) (fun c_1 => ?_) (fun c_1 => ?_)
  · have h := h.2 c_1
    refine lv_iconst (v := 0) hx hb dX0_floodIsDue_24 (by decide) ?_
    exact W.zret (v := 0) hx hb hr rfl (fun t ht hW => ⟨⟨0, (), rfl, h, by rw [ht]; exact hP, hD⟩, hS.F ht⟩) hS.2.2 dX0_floodIsDue_25
  · have h := h.1 c_1
    refine lv_aload_n hx hb dX0_floodIsDue_7 rfl (lv_at hl 0 rfl) ?_
    refine va_get (D := G) (ci := 0) (v := .int (D 15 0)) (C := RX0) (T := TX0) (N := 18) hx hb hts hinX0 hown hK hP 0 rfl rfl 4 (by decide) hL34 (fun _ h9 => h9) rfl dX0_floodIsDue_8 ?_
    refine lv_aload_n hx hb dX0_floodIsDue_11 rfl (lv_at hl 0 rfl) ?_
    refine va_get (D := G) (ci := 0) (v := .ref (q 13)) (C := RX0) (T := TX0) (N := 18) hx hb hts hinX0 hown hK hP 0 rfl rfl 3 (by decide) hL30 (fun _ h9 => h9) rfl dX0_floodIsDue_12 ?_
    refine lv_iconst (v := 0) hx hb dX0_floodIsDue_15 (by decide) ?_
    refine k_ald (f := (D 14)) (j := 0) (v := ((D 14) 0)) hx hb hK hP 13 0 rfl rfl (show ¬ ((0 : Int32) < 0 ∨ 3 ≤ (0 : Int32).toNatClampNeg) by decide) rfl rfl dX0_floodIsDue_16 ?_
    refine lv_icmp_lt (tgt := 24) hx hb dX0_floodIsDue_17 (by decide) (fun c_2 => ?_) (fun c_2 => ?_)
    · have h := h.1 c_2
      refine lv_iconst (v := 0) hx hb dX0_floodIsDue_24 (by decide) ?_
      exact W.zret (v := 0) hx hb hr rfl (fun t ht hW => ⟨⟨0, (), rfl, h, by rw [ht]; exact hP, hD⟩, hS.F ht⟩) hS.2.2 dX0_floodIsDue_25
    · have h := h.2 c_2
      refine lv_iconst (v := 1) hx hb dX0_floodIsDue_20 (by decide) ?_
      refine lv_goto (tgt := 25) hx hb dX0_floodIsDue_21 (by decide) ?_
      exact W.zret (v := 1) hx hb hr rfl (fun t ht hW => ⟨⟨1, (), rfl, h, by rw [ht]; exact hP, hD⟩, hS.F ht⟩) hS.2.2 dX0_floodIsDue_25
def q_X0_hasTask (D : St) (Q : Int32 → Prop) : Prop :=
  ((D 24 0) = (-1) → Q 0) ∧ (¬ ((D 24 0) = (-1)) → Q 1)
set_option maxHeartbeats 4000000 in
set_option maxRecDepth 100000 in
theorem c_X0_hasTask (l : Launch) (G : va_G) (cI cC cD : ClassId) (q : Nat → Nat) (sz : Nat) (D : St)  (Q : Int32 → Prop) (h : q_X0_hasTask  D Q) : Met l yX0_hasTask wsX0_hasTask ({ frames := 0, cells := 0, slots := 0, locals := 0 }) (va_Pc [.ref (q 0)] (PW G (ty3 cI cC cD) (wD cI q D) sz)) (va_Qi (fun (r : Int32) (_ : Unit) => Q r) (BW G (fun _ : Unit => (wD cI q D)) (va_A (wD cI q D) sz)) (va_A (wD cI q D) sz)) 0 0 (va_A (wD cI q D) sz) := by
  refine Met.ofW (cc := cX0_hasTask) (maxL := 1) (ret := (some .boolean)) (by decide) rfl ?_
  intro p e s m args below meth c s₁ B hml hv
  obtain ⟨rfl, hsz, hP, hK, hD0, hN⟩ := hv
  have hx := B.exec
  have hb := B.bytes
  have hr := B.returns
  have hts := atoms_spec (ws := wsX0_hasTask) B.pre
  have hown : s.vm.findClass RX0 = some m.cls := findClass_of_methodNamed B.named
  have hlocks := B.notSynchronized
  subst hsz
  have hD := hD0.self (sz := s.heap.size)
  generalize hAe : va_A (wD cI q D) s.heap.size = A at hD ⊢
  have hA : ∀ q : Nat, s.heap.size ≤ q → A q := fun q h => by rw [← hAe]; exact Or.inr h
  have hS : va_S A s.heap s.heap [] := va_S.rf
  have hl := lv_entry ([.ref (q 0)]) (n := 1) (Nat.le_of_ble_eq_true rfl)
  rw [lg_entry_eq]
  generalize (lg_sl ([.ref (q 0)]) ++ List.replicate (1 - (lg_sl ([.ref (q 0)])).length) Slot.unset).toArray = ls at hl ⊢
  have hl : lv_has ls 1 [(0, .ref (q 0))] := hl
  have hinX0 : ∀ w ∈ wsX00, w ∈ wsX0_hasTask := by decide +kernel
  have hL38 := hts (.fieldLink RX0 38 "CraneGates$Dam" "taskGate" "I") (by decide +kernel)
  unfold q_X0_hasTask at h
  refine lv_aload_n hx hb dX0_hasTask_0 rfl (lv_at hl 0 rfl) ?_
  refine va_get (D := G) (ci := 0) (v := .int (D 24 0)) (C := RX0) (T := TX0) (N := 18) hx hb hts hinX0 hown hK hP 0 rfl rfl 13 (by decide) hL38 (fun _ h9 => h9) rfl dX0_hasTask_1 ?_
  refine lv_iconst (v := (-1)) hx hb dX0_hasTask_4 (by decide) ?_
  refine lv_icmp_eq (tgt := 12) hx hb dX0_hasTask_5 (by decide) (fun c_1 => ?_) (fun c_1 => ?_)
  · have h := h.1 c_1
    refine lv_iconst (v := 0) hx hb dX0_hasTask_12 (by decide) ?_
    exact W.zret (v := 0) hx hb hr rfl (fun t ht hW => ⟨⟨0, (), rfl, h, by rw [ht]; exact hP, hD⟩, hS.F ht⟩) hS.2.2 dX0_hasTask_13
  · have h := h.2 c_1
    refine lv_iconst (v := 1) hx hb dX0_hasTask_8 (by decide) ?_
    refine lv_goto (tgt := 13) hx hb dX0_hasTask_9 (by decide) ?_
    exact W.zret (v := 1) hx hb hr rfl (fun t ht hW => ⟨⟨1, (), rfl, h, by rw [ht]; exact hP, hD⟩, hS.F ht⟩) hS.2.2 dX0_hasTask_13
def q_X0_leaveTask (D : St) (Q : St → Prop) : Prop :=
  q_X0_hasTask D (fun r_1 => (r_1 = 0 → Q D) ∧ (¬ (r_1 = 0) → Q (uA (uA D 24 (fun _ => (-1))) 28 (fun _ => ((D 28 0) + 1)))))
set_option maxHeartbeats 4000000 in
set_option maxRecDepth 100000 in
theorem c_X0_leaveTask (l : Launch) (G : va_G) (cI cC cD : ClassId) (q : Nat → Nat) (sz : Nat) (D : St)  (Q : St → Prop) (h : q_X0_leaveTask  D Q) : Met l yX0_leaveTask wsX0_leaveTask ({ frames := 1, cells := 0, slots := 0, locals := 20 }) (va_Pc [.ref (q 0)] (PW G (ty3 cI cC cD) (wD cI q D) sz)) (va_Qv Q (BW G (fun u : St => (wD cI q u)) (va_A (wD cI q D) sz)) (va_A (wD cI q D) sz)) 0 0 (va_A (wD cI q D) sz) := by
  refine Met.ofW (cc := cX0_leaveTask) (maxL := 1) (ret := none) (by decide) rfl ?_
  intro p e s m args below meth c s₁ B hml hv
  obtain ⟨rfl, hsz, hP, hK, hD0, hN⟩ := hv
  have hx := B.exec
  have hb := B.bytes
  have hr := B.returns
  have hts := atoms_spec (ws := wsX0_leaveTask) B.pre
  have hown : s.vm.findClass RX0 = some m.cls := findClass_of_methodNamed B.named
  have hlocks := B.notSynchronized
  subst hsz
  have hD := hD0.self (sz := s.heap.size)
  generalize hAe : va_A (wD cI q D) s.heap.size = A at hD ⊢
  have hA : ∀ q : Nat, s.heap.size ≤ q → A q := fun q h => by rw [← hAe]; exact Or.inr h
  have hS : va_S A s.heap s.heap [] := va_S.rf
  have hl := lv_entry ([.ref (q 0)]) (n := 1) (Nat.le_of_ble_eq_true rfl)
  rw [lg_entry_eq]
  generalize (lg_sl ([.ref (q 0)]) ++ List.replicate (1 - (lg_sl ([.ref (q 0)])).length) Slot.unset).toArray = ls at hl ⊢
  have hl : lv_has ls 1 [(0, .ref (q 0))] := hl
  have hinX0 : ∀ w ∈ wsX00, w ∈ wsX0_leaveTask := by decide +kernel
  have hL38 := hts (.fieldLink RX0 38 "CraneGates$Dam" "taskGate" "I") (by decide +kernel)
  have hL88 := hts (.fieldLink RX0 88 "CraneGates$Dam" "tasksLeft" "I") (by decide +kernel)
  unfold q_X0_leaveTask at h
  refine lv_aload_n hx hb dX0_leaveTask_0 rfl (lv_at hl 0 rfl) ?_
  refine kc_i (As := []) (rest := []) (wg := (fun _ => (wD cI q D))) ⟨hx, hb, hml, hown, hts⟩ (c_X0_hasTask l G cI cC cD q _ D  _ h) (cwV 0 hts gX0_leaveTask_X0_hasTask rfl rfl rfl (by decide +kernel) ⟨Nat.le_of_ble_eq_true rfl, Nat.le_of_ble_eq_true rfl⟩) hK hN hP hD hS hA (em_DD cI q D) (fun _ => rp_self (em_DD cI q D)) rfl rfl rfl rfl hl.1 rfl (Nat.le_of_ble_eq_true rfl) dX0_leaveTask_1 ⟨Nat.zero_le _, Nat.zero_le _⟩ (fun r_1 _ H locs h hP hD hS => ?_)
  refine lv_if_eq (tgt := 22) hx hb dX0_leaveTask_4 (by decide) (fun c_2 => ?_) (fun c_2 => ?_)
  · have h := h.1 c_2
    exact W.vret hx hb hr (fun t ht hW => ⟨⟨D, rfl, h, by rw [ht]; exact hP, hD⟩, hS.F ht⟩) hS.2.2 dX0_leaveTask_22
  · have h := h.2 c_2
    refine lv_aload_n hx hb dX0_leaveTask_7 rfl (lv_at hl 0 rfl) ?_
    refine lv_iconst (v := (-1)) hx hb dX0_leaveTask_8 (by decide) ?_
    refine va_put (D := G) (ci := 0) (v := .int (-1)) (ty := .int) (C := RX0) (T := TX0) (N := 18) hx hb hts hinX0 tyX0 tyX0_ok nmX0 hown hK hP hD hS 0 rfl rfl 13 (by decide) hL38 (fun _ h9 => h9) rfl (by decide +kernel) rfl rfl (Nat.le_of_ble_eq_true rfl) dX0_leaveTask_9 (fun H locs hP hD hS => ?_)
    have hP : va_P G vwCl (wD cI q (uA D 24 (fun _ => (-1)))) H := hP
    have hD : va_D A (wD cI q (uA D 24 (fun _ => (-1)))) := hD
    refine lv_aload_n hx hb dX0_leaveTask_12 rfl (lv_at hl 0 rfl) ?_
    refine lv_dup hx hb dX0_leaveTask_13 rfl ?_
    refine va_get (D := G) (ci := 0) (v := .int (D 28 0)) (C := RX0) (T := TX0) (N := 18) hx hb hts hinX0 hown hK hP 0 rfl rfl 17 (by decide) hL88 (fun _ h9 => h9) rfl dX0_leaveTask_14 ?_
    refine lv_iconst (v := 1) hx hb dX0_leaveTask_17 (by decide) ?_
    refine lv_iadd hx hb dX0_leaveTask_18 ?_
    refine va_put (D := G) (ci := 0) (v := .int ((D 28 0) + 1)) (ty := .int) (C := RX0) (T := TX0) (N := 18) hx hb hts hinX0 tyX0 tyX0_ok nmX0 hown hK hP hD hS 0 rfl rfl 17 (by decide) hL88 (fun _ h9 => h9) rfl (by decide +kernel) rfl rfl (Nat.le_of_ble_eq_true rfl) dX0_leaveTask_19 (fun H locs hP hD hS => ?_)
    have hP : va_P G vwCl (wD cI q (uA (uA D 24 (fun _ => (-1))) 28 (fun _ => ((D 28 0) + 1)))) H := hP
    have hD : va_D A (wD cI q (uA (uA D 24 (fun _ => (-1))) 28 (fun _ => ((D 28 0) + 1)))) := hD
    exact W.vret hx hb hr (fun t ht hW => ⟨⟨(uA (uA D 24 (fun _ => (-1))) 28 (fun _ => ((D 28 0) + 1))), rfl, h, by rw [ht]; exact hP, hD⟩, hS.F ht⟩) hS.2.2 dX0_leaveTask_22
def q_X0_beginOrEndFlood (D : St) (Q : St → Prop) : Prop :=
  q_X0_floodIsDue D (fun r_1 => (r_1 = 0 → ((D 21 0) = 0 → Q D) ∧ (¬ ((D 21 0) = 0) → (((D 14) 1) ≤ (D 15 0) → Q D) ∧ (¬ (((D 14) 1) ≤ (D 15 0)) → q_X0_leaveTask (uA D 21 (fun _ => 0)) (fun u_5 => Q u_5)))) ∧ (¬ (r_1 = 0) → q_X0_hasTask (uA (uA D 21 (fun _ => 1)) 22 (fun _ => ((D 22 0) + 1))) (fun r_6 => (r_6 = 0 → q_X0_leaveTask (uA (uA D 21 (fun _ => 1)) 22 (fun _ => ((D 22 0) + 1))) (fun u_8 => Q u_8)) ∧ (¬ (r_6 = 0) → q_X4_putFirst (D 24 0) (D 25 0) (fun i => (uA (uA D 21 (fun _ => 1)) 22 (fun _ => ((D 22 0) + 1))) (10 + i)) (fun u_9 => q_X0_leaveTask (mgK (uA (uA D 21 (fun _ => 1)) 22 (fun _ => ((D 22 0) + 1))) u_9) (fun u_10 => Q u_10))))))
set_option maxHeartbeats 4000000 in
set_option maxRecDepth 100000 in
theorem c_X0_beginOrEndFlood (l : Launch) (G : va_G) (cI cC cD : ClassId) (q : Nat → Nat) (sz : Nat) (D : St)  (Q : St → Prop) (h : q_X0_beginOrEndFlood  D Q) : Met l yX0_beginOrEndFlood wsX0_beginOrEndFlood ({ frames := 2, cells := 0, slots := 0, locals := 45 }) (va_Pc [.ref (q 0)] (PW G (ty3 cI cC cD) (wD cI q D) sz)) (va_Qv Q (BW G (fun u : St => (wD cI q u)) (va_A (wD cI q D) sz)) (va_A (wD cI q D) sz)) 0 0 (va_A (wD cI q D) sz) := by
  refine Met.ofW (cc := cX0_beginOrEndFlood) (maxL := 1) (ret := none) (by decide) rfl ?_
  intro p e s m args below meth c s₁ B hml hv
  obtain ⟨rfl, hsz, hP, hK, hD0, hN⟩ := hv
  have hx := B.exec
  have hb := B.bytes
  have hr := B.returns
  have hts := atoms_spec (ws := wsX0_beginOrEndFlood) B.pre
  have hown : s.vm.findClass RX0 = some m.cls := findClass_of_methodNamed B.named
  have hlocks := B.notSynchronized
  subst hsz
  have hD := hD0.self (sz := s.heap.size)
  generalize hAe : va_A (wD cI q D) s.heap.size = A at hD ⊢
  have hA : ∀ q : Nat, s.heap.size ≤ q → A q := fun q h => by rw [← hAe]; exact Or.inr h
  have hS : va_S A s.heap s.heap [] := va_S.rf
  have hl := lv_entry ([.ref (q 0)]) (n := 1) (Nat.le_of_ble_eq_true rfl)
  rw [lg_entry_eq]
  generalize (lg_sl ([.ref (q 0)]) ++ List.replicate (1 - (lg_sl ([.ref (q 0)])).length) Slot.unset).toArray = ls at hl ⊢
  have hl : lv_has ls 1 [(0, .ref (q 0))] := hl
  have hinX0 : ∀ w ∈ wsX00, w ∈ wsX0_beginOrEndFlood := by decide +kernel
  have hL27 := hts (.fieldLink RX0 27 "CraneGates$Dam" "marks" "LCraneGates$Tasks;") (by decide +kernel)
  have hL30 := hts (.fieldLink RX0 30 "CraneGates$Dam" "settings" "[I") (by decide +kernel)
  have hL34 := hts (.fieldLink RX0 34 "CraneGates$Dam" "water" "I") (by decide +kernel)
  have hL38 := hts (.fieldLink RX0 38 "CraneGates$Dam" "taskGate" "I") (by decide +kernel)
  have hL69 := hts (.fieldLink RX0 69 "CraneGates$Dam" "flooded" "Z") (by decide +kernel)
  have hL73 := hts (.fieldLink RX0 73 "CraneGates$Dam" "floods" "I") (by decide +kernel)
  have hL79 := hts (.fieldLink RX0 79 "CraneGates$Dam" "taskOpening" "I") (by decide +kernel)
  unfold q_X0_beginOrEndFlood at h
  refine lv_aload_n hx hb dX0_beginOrEndFlood_0 rfl (lv_at hl 0 rfl) ?_
  refine kc_i (As := []) (rest := []) (wg := (fun _ => (wD cI q D))) ⟨hx, hb, hml, hown, hts⟩ (c_X0_floodIsDue l G cI cC cD q _ D  _ h) (cwV 0 hts gX0_beginOrEndFlood_X0_floodIsDue rfl rfl rfl (by decide +kernel) ⟨Nat.le_of_ble_eq_true rfl, Nat.le_of_ble_eq_true rfl⟩) hK hN hP hD hS hA (em_DD cI q D) (fun _ => rp_self (em_DD cI q D)) rfl rfl rfl rfl hl.1 rfl (Nat.le_of_ble_eq_true rfl) dX0_beginOrEndFlood_1 ⟨Nat.zero_le _, Nat.zero_le _⟩ (fun r_1 _ H locs h hP hD hS => ?_)
  refine lv_if_eq (tgt := 51) hx hb dX0_beginOrEndFlood_4 (by decide) (fun c_2 => ?_) (fun c_2 => ?_)
  · have h := h.1 c_2
    refine lv_aload_n hx hb dX0_beginOrEndFlood_51 rfl (lv_at hl 0 rfl) ?_
    refine va_get (D := G) (ci := 0) (v := .int (D 21 0)) (C := RX0) (T := TX0) (N := 18) hx hb hts hinX0 hown hK hP 0 rfl rfl 10 (by decide) hL69 (fun _ h9 => h9) rfl dX0_beginOrEndFlood_52 ?_
    refine lv_if_eq (tgt := 80) hx hb dX0_beginOrEndFlood_55 (by decide) (fun c_3 => ?_) (fun c_3 => ?_)
    · have h := h.1 c_3
      exact W.vret hx hb hr (fun t ht hW => ⟨⟨D, rfl, h, by rw [ht]; exact hP, hD⟩, hS.F ht⟩) hS.2.2 dX0_beginOrEndFlood_80
    · have h := h.2 c_3
      refine lv_aload_n hx hb dX0_beginOrEndFlood_58 rfl (lv_at hl 0 rfl) ?_
      refine va_get (D := G) (ci := 0) (v := .int (D 15 0)) (C := RX0) (T := TX0) (N := 18) hx hb hts hinX0 hown hK hP 0 rfl rfl 4 (by decide) hL34 (fun _ h9 => h9) rfl dX0_beginOrEndFlood_59 ?_
      refine lv_aload_n hx hb dX0_beginOrEndFlood_62 rfl (lv_at hl 0 rfl) ?_
      refine va_get (D := G) (ci := 0) (v := .ref (q 13)) (C := RX0) (T := TX0) (N := 18) hx hb hts hinX0 hown hK hP 0 rfl rfl 3 (by decide) hL30 (fun _ h9 => h9) rfl dX0_beginOrEndFlood_63 ?_
      refine lv_iconst (v := 1) hx hb dX0_beginOrEndFlood_66 (by decide) ?_
      refine k_ald (f := (D 14)) (j := 1) (v := ((D 14) 1)) hx hb hK hP 13 0 rfl rfl (show ¬ ((1 : Int32) < 0 ∨ 3 ≤ (1 : Int32).toNatClampNeg) by decide) rfl rfl dX0_beginOrEndFlood_67 ?_
      refine lv_icmp_ge (tgt := 80) hx hb dX0_beginOrEndFlood_68 (by decide) (fun c_4 => ?_) (fun c_4 => ?_)
      · have h := h.1 c_4
        exact W.vret hx hb hr (fun t ht hW => ⟨⟨D, rfl, h, by rw [ht]; exact hP, hD⟩, hS.F ht⟩) hS.2.2 dX0_beginOrEndFlood_80
      · have h := h.2 c_4
        refine lv_aload_n hx hb dX0_beginOrEndFlood_71 rfl (lv_at hl 0 rfl) ?_
        refine lv_iconst (v := 0) hx hb dX0_beginOrEndFlood_72 (by decide) ?_
        refine va_put (D := G) (ci := 0) (v := .int 0) (ty := .boolean) (C := RX0) (T := TX0) (N := 18) hx hb hts hinX0 tyX0 tyX0_ok nmX0 hown hK hP hD hS 0 rfl rfl 10 (by decide) hL69 (fun _ h9 => h9) rfl (by decide +kernel) rfl rfl (Nat.le_of_ble_eq_true rfl) dX0_beginOrEndFlood_73 (fun H locs hP hD hS => ?_)
        have hP : va_P G vwCl (wD cI q (uA D 21 (fun _ => 0))) H := hP
        have hD : va_D A (wD cI q (uA D 21 (fun _ => 0))) := hD
        refine lv_aload_n hx hb dX0_beginOrEndFlood_76 rfl (lv_at hl 0 rfl) ?_
        refine kc_v (As := []) (rest := []) (wg := (fun u => (wD cI q u))) ⟨hx, hb, hml, hown, hts⟩ (c_X0_leaveTask l G cI cC cD q _ (uA D 21 (fun _ => 0))  _ h) (cwV 0 hts gX0_beginOrEndFlood_X0_leaveTask rfl rfl rfl (by decide +kernel) ⟨Nat.le_of_ble_eq_true rfl, Nat.le_of_ble_eq_true rfl⟩) hK hN hP hD hS hA (em_DD cI q (uA D 21 (fun _ => 0))) (fun u => rp_DD cI q (uA D 21 (fun _ => 0)) u) rfl rfl rfl rfl hl.1 rfl (Nat.le_of_ble_eq_true rfl) dX0_beginOrEndFlood_77 ⟨Nat.zero_le _, Nat.zero_le _⟩ (fun u_5 H locs h hP hD hS => ?_)
        exact W.vret hx hb hr (fun t ht hW => ⟨⟨u_5, rfl, h, by rw [ht]; exact hP, hD⟩, hS.F ht⟩) hS.2.2 dX0_beginOrEndFlood_80
  · have h := h.2 c_2
    refine lv_aload_n hx hb dX0_beginOrEndFlood_7 rfl (lv_at hl 0 rfl) ?_
    refine lv_iconst (v := 1) hx hb dX0_beginOrEndFlood_8 (by decide) ?_
    refine va_put (D := G) (ci := 0) (v := .int 1) (ty := .boolean) (C := RX0) (T := TX0) (N := 18) hx hb hts hinX0 tyX0 tyX0_ok nmX0 hown hK hP hD hS 0 rfl rfl 10 (by decide) hL69 (fun _ h9 => h9) rfl (by decide +kernel) rfl rfl (Nat.le_of_ble_eq_true rfl) dX0_beginOrEndFlood_9 (fun H locs hP hD hS => ?_)
    have hP : va_P G vwCl (wD cI q (uA D 21 (fun _ => 1))) H := hP
    have hD : va_D A (wD cI q (uA D 21 (fun _ => 1))) := hD
    refine lv_aload_n hx hb dX0_beginOrEndFlood_12 rfl (lv_at hl 0 rfl) ?_
    refine lv_dup hx hb dX0_beginOrEndFlood_13 rfl ?_
    refine va_get (D := G) (ci := 0) (v := .int (D 22 0)) (C := RX0) (T := TX0) (N := 18) hx hb hts hinX0 hown hK hP 0 rfl rfl 11 (by decide) hL73 (fun _ h9 => h9) rfl dX0_beginOrEndFlood_14 ?_
    refine lv_iconst (v := 1) hx hb dX0_beginOrEndFlood_17 (by decide) ?_
    refine lv_iadd hx hb dX0_beginOrEndFlood_18 ?_
    refine va_put (D := G) (ci := 0) (v := .int ((D 22 0) + 1)) (ty := .int) (C := RX0) (T := TX0) (N := 18) hx hb hts hinX0 tyX0 tyX0_ok nmX0 hown hK hP hD hS 0 rfl rfl 11 (by decide) hL73 (fun _ h9 => h9) rfl (by decide +kernel) rfl rfl (Nat.le_of_ble_eq_true rfl) dX0_beginOrEndFlood_19 (fun H locs hP hD hS => ?_)
    have hP : va_P G vwCl (wD cI q (uA (uA D 21 (fun _ => 1)) 22 (fun _ => ((D 22 0) + 1)))) H := hP
    have hD : va_D A (wD cI q (uA (uA D 21 (fun _ => 1)) 22 (fun _ => ((D 22 0) + 1)))) := hD
    refine lv_aload_n hx hb dX0_beginOrEndFlood_22 rfl (lv_at hl 0 rfl) ?_
    refine kc_i (As := []) (rest := []) (wg := (fun _ => (wD cI q (uA (uA D 21 (fun _ => 1)) 22 (fun _ => ((D 22 0) + 1)))))) ⟨hx, hb, hml, hown, hts⟩ (c_X0_hasTask l G cI cC cD q _ (uA (uA D 21 (fun _ => 1)) 22 (fun _ => ((D 22 0) + 1)))  _ h) (cwV 0 hts gX0_beginOrEndFlood_X0_hasTask rfl rfl rfl (by decide +kernel) ⟨Nat.le_of_ble_eq_true rfl, Nat.le_of_ble_eq_true rfl⟩) hK hN hP hD hS hA (em_DD cI q (uA (uA D 21 (fun _ => 1)) 22 (fun _ => ((D 22 0) + 1)))) (fun _ => rp_self (em_DD cI q (uA (uA D 21 (fun _ => 1)) 22 (fun _ => ((D 22 0) + 1))))) rfl rfl rfl rfl hl.1 rfl (Nat.le_of_ble_eq_true rfl) dX0_beginOrEndFlood_23 ⟨Nat.zero_le _, Nat.zero_le _⟩ (fun r_6 _ H locs h hP hD hS => ?_)
    refine lv_if_eq (tgt := 44) hx hb dX0_beginOrEndFlood_26 (by decide) (fun c_7 => ?_) (fun c_7 => ?_)
    · have h := h.1 c_7
      refine lv_aload_n hx hb dX0_beginOrEndFlood_44 rfl (lv_at hl 0 rfl) ?_
      refine kc_v (As := []) (rest := []) (wg := (fun u => (wD cI q u))) ⟨hx, hb, hml, hown, hts⟩ (c_X0_leaveTask l G cI cC cD q _ (uA (uA D 21 (fun _ => 1)) 22 (fun _ => ((D 22 0) + 1)))  _ h) (cwV 0 hts gX0_beginOrEndFlood_X0_leaveTask rfl rfl rfl (by decide +kernel) ⟨Nat.le_of_ble_eq_true rfl, Nat.le_of_ble_eq_true rfl⟩) hK hN hP hD hS hA (em_DD cI q (uA (uA D 21 (fun _ => 1)) 22 (fun _ => ((D 22 0) + 1)))) (fun u => rp_DD cI q (uA (uA D 21 (fun _ => 1)) 22 (fun _ => ((D 22 0) + 1))) u) rfl rfl rfl rfl hl.1 rfl (Nat.le_of_ble_eq_true rfl) dX0_beginOrEndFlood_45 ⟨Nat.zero_le _, Nat.zero_le _⟩ (fun u_8 H locs h hP hD hS => ?_)
      refine lv_goto (tgt := 80) hx hb dX0_beginOrEndFlood_48 (by decide) ?_
      exact W.vret hx hb hr (fun t ht hW => ⟨⟨u_8, rfl, h, by rw [ht]; exact hP, hD⟩, hS.F ht⟩) hS.2.2 dX0_beginOrEndFlood_80
    · have h := h.2 c_7
      refine lv_aload_n hx hb dX0_beginOrEndFlood_29 rfl (lv_at hl 0 rfl) ?_
      refine va_get (D := G) (ci := 0) (v := .ref (q 10)) (C := RX0) (T := TX0) (N := 18) hx hb hts hinX0 hown hK hP 0 rfl rfl 2 (by decide) hL27 (fun _ h9 => h9) rfl dX0_beginOrEndFlood_30 ?_
      refine lv_aload_n hx hb dX0_beginOrEndFlood_33 rfl (lv_at hl 0 rfl) ?_
      refine va_get (D := G) (ci := 0) (v := .int (D 24 0)) (C := RX0) (T := TX0) (N := 18) hx hb hts hinX0 hown hK hP 0 rfl rfl 13 (by decide) hL38 (fun _ h9 => h9) rfl dX0_beginOrEndFlood_34 ?_
      refine lv_aload_n hx hb dX0_beginOrEndFlood_37 rfl (lv_at hl 0 rfl) ?_
      refine va_get (D := G) (ci := 0) (v := .int (D 25 0)) (C := RX0) (T := TX0) (N := 18) hx hb hts hinX0 hown hK hP 0 rfl rfl 14 (by decide) hL79 (fun _ h9 => h9) rfl dX0_beginOrEndFlood_38 ?_
      refine kc_v (As := [.int (D 24 0), .int (D 25 0)]) (rest := []) (wg := (fun u => (wD cI q (mgK (uA (uA D 21 (fun _ => 1)) 22 (fun _ => ((D 22 0) + 1))) u)))) ⟨hx, hb, hml, hown, hts⟩ (c_X4_putFirst l G cI cC cD (q 10) (q 11) (q 12) _ (fun i => (uA (uA D 21 (fun _ => 1)) 22 (fun _ => ((D 22 0) + 1))) (10 + i)) (D 24 0) (D 25 0) _ h) (cwV 2 hts gX0_beginOrEndFlood_X4_putFirst rfl rfl rfl (by decide +kernel) ⟨Nat.le_of_ble_eq_true rfl, Nat.le_of_ble_eq_true rfl⟩) hK hN hP hD hS hA (em_DK cI q (uA (uA D 21 (fun _ => 1)) 22 (fun _ => ((D 22 0) + 1)))) (fun u => rp_DK cI q (uA (uA D 21 (fun _ => 1)) 22 (fun _ => ((D 22 0) + 1))) u) rfl rfl rfl rfl hl.1 rfl (Nat.le_of_ble_eq_true rfl) dX0_beginOrEndFlood_41 ⟨Nat.zero_le _, Nat.zero_le _⟩ (fun u_9 H locs h hP hD hS => ?_)
      refine lv_aload_n hx hb dX0_beginOrEndFlood_44 rfl (lv_at hl 0 rfl) ?_
      refine kc_v (As := []) (rest := []) (wg := (fun u => (wD cI q u))) ⟨hx, hb, hml, hown, hts⟩ (c_X0_leaveTask l G cI cC cD q _ (mgK (uA (uA D 21 (fun _ => 1)) 22 (fun _ => ((D 22 0) + 1))) u_9)  _ h) (cwV 0 hts gX0_beginOrEndFlood_X0_leaveTask rfl rfl rfl (by decide +kernel) ⟨Nat.le_of_ble_eq_true rfl, Nat.le_of_ble_eq_true rfl⟩) hK hN hP hD hS hA (em_DD cI q (mgK (uA (uA D 21 (fun _ => 1)) 22 (fun _ => ((D 22 0) + 1))) u_9)) (fun u => rp_DD cI q (mgK (uA (uA D 21 (fun _ => 1)) 22 (fun _ => ((D 22 0) + 1))) u_9) u) rfl rfl rfl rfl hl.1 rfl (Nat.le_of_ble_eq_true rfl) dX0_beginOrEndFlood_45 ⟨Nat.zero_le _, Nat.zero_le _⟩ (fun u_10 H locs h hP hD hS => ?_)
      refine lv_goto (tgt := 80) hx hb dX0_beginOrEndFlood_48 (by decide) ?_
      exact W.vret hx hb hr (fun t ht hW => ⟨⟨u_10, rfl, h, by rw [ht]; exact hP, hD⟩, hS.F ht⟩) hS.2.2 dX0_beginOrEndFlood_80
def q_X0_somethingWaits (D : St) (Q : Int32 → Prop) : Prop :=
  q_X4_size (fun i => D (10 + i)) (fun r_1 => (0 < r_1 → Q 1) ∧ (¬ (0 < r_1) → q_X4_size (fun i => D (6 + i)) (fun r_3 => (r_3 ≤ 0 → Q 0) ∧ (¬ (r_3 ≤ 0) → Q 1))))
set_option maxHeartbeats 4000000 in
set_option maxRecDepth 100000 in
theorem c_X0_somethingWaits (l : Launch) (G : va_G) (cI cC cD : ClassId) (q : Nat → Nat) (sz : Nat) (D : St)  (Q : Int32 → Prop) (h : q_X0_somethingWaits  D Q) : Met l yX0_somethingWaits wsX0_somethingWaits ({ frames := 1, cells := 0, slots := 0, locals := 20 }) (va_Pc [.ref (q 0)] (PW G (ty3 cI cC cD) (wD cI q D) sz)) (va_Qi (fun (r : Int32) (_ : Unit) => Q r) (BW G (fun _ : Unit => (wD cI q D)) (va_A (wD cI q D) sz)) (va_A (wD cI q D) sz)) 0 0 (va_A (wD cI q D) sz) := by
  refine Met.ofW (cc := cX0_somethingWaits) (maxL := 1) (ret := (some .boolean)) (by decide) rfl ?_
  intro p e s m args below meth c s₁ B hml hv
  obtain ⟨rfl, hsz, hP, hK, hD0, hN⟩ := hv
  have hx := B.exec
  have hb := B.bytes
  have hr := B.returns
  have hts := atoms_spec (ws := wsX0_somethingWaits) B.pre
  have hown : s.vm.findClass RX0 = some m.cls := findClass_of_methodNamed B.named
  have hlocks := B.notSynchronized
  subst hsz
  have hD := hD0.self (sz := s.heap.size)
  generalize hAe : va_A (wD cI q D) s.heap.size = A at hD ⊢
  have hA : ∀ q : Nat, s.heap.size ≤ q → A q := fun q h => by rw [← hAe]; exact Or.inr h
  have hS : va_S A s.heap s.heap [] := va_S.rf
  have hl := lv_entry ([.ref (q 0)]) (n := 1) (Nat.le_of_ble_eq_true rfl)
  rw [lg_entry_eq]
  generalize (lg_sl ([.ref (q 0)]) ++ List.replicate (1 - (lg_sl ([.ref (q 0)])).length) Slot.unset).toArray = ls at hl ⊢
  have hl : lv_has ls 1 [(0, .ref (q 0))] := hl
  have hinX0 : ∀ w ∈ wsX00, w ∈ wsX0_somethingWaits := by decide +kernel
  have hL23 := hts (.fieldLink RX0 23 "CraneGates$Dam" "orders" "LCraneGates$Tasks;") (by decide +kernel)
  have hL27 := hts (.fieldLink RX0 27 "CraneGates$Dam" "marks" "LCraneGates$Tasks;") (by decide +kernel)
  unfold q_X0_somethingWaits at h
  refine lv_aload_n hx hb dX0_somethingWaits_0 rfl (lv_at hl 0 rfl) ?_
  refine va_get (D := G) (ci := 0) (v := .ref (q 10)) (C := RX0) (T := TX0) (N := 18) hx hb hts hinX0 hown hK hP 0 rfl rfl 2 (by decide) hL27 (fun _ h9 => h9) rfl dX0_somethingWaits_1 ?_
  refine kc_i (As := []) (rest := []) (wg := (fun _ => (wD cI q D))) ⟨hx, hb, hml, hown, hts⟩ (c_X4_size l G cI cC cD (q 10) (q 11) (q 12) _ (fun i => D (10 + i))  _ h) (cwV 0 hts gX0_somethingWaits_X4_size rfl rfl rfl (by decide +kernel) ⟨Nat.le_of_ble_eq_true rfl, Nat.le_of_ble_eq_true rfl⟩) hK hN hP hD hS hA (em_DK cI q D) (fun _ => rp_self (em_DK cI q D)) rfl rfl rfl rfl hl.1 rfl (Nat.le_of_ble_eq_true rfl) dX0_somethingWaits_4 ⟨Nat.zero_le _, Nat.zero_le _⟩ (fun r_1 _ H locs h hP hD hS => ?_)
  refine lv_if_gt (tgt := 20) hx hb dX0_somethingWaits_7 (by decide) (fun c_2 => ?_) (fun c_2 => ?_)
  · have h := h.1 c_2
    refine lv_iconst (v := 1) hx hb dX0_somethingWaits_20 (by decide) ?_
    refine lv_goto (tgt := 25) hx hb dX0_somethingWaits_21 (by decide) ?_
    exact W.zret (v := 1) hx hb hr rfl (fun t ht hW => ⟨⟨1, (), rfl, h, by rw [ht]; exact hP, hD⟩, hS.F ht⟩) hS.2.2 dX0_somethingWaits_25
  · have h := h.2 c_2
    refine lv_aload_n hx hb dX0_somethingWaits_10 rfl (lv_at hl 0 rfl) ?_
    refine va_get (D := G) (ci := 0) (v := .ref (q 7)) (C := RX0) (T := TX0) (N := 18) hx hb hts hinX0 hown hK hP 0 rfl rfl 1 (by decide) hL23 (fun _ h9 => h9) rfl dX0_somethingWaits_11 ?_
    refine kc_i (As := []) (rest := []) (wg := (fun _ => (wD cI q D))) ⟨hx, hb, hml, hown, hts⟩ (c_X4_size l G cI cC cD (q 7) (q 8) (q 9) _ (fun i => D (6 + i))  _ h) (cwV 0 hts gX0_somethingWaits_X4_size rfl rfl rfl (by decide +kernel) ⟨Nat.le_of_ble_eq_true rfl, Nat.le_of_ble_eq_true rfl⟩) hK hN hP hD hS hA (em_DO cI q D) (fun _ => rp_self (em_DO cI q D)) rfl rfl rfl rfl hl.1 rfl (Nat.le_of_ble_eq_true rfl) dX0_somethingWaits_14 ⟨Nat.zero_le _, Nat.zero_le _⟩ (fun r_3 _ H locs h hP hD hS => ?_)
    refine lv_if_le (tgt := 24) hx hb dX0_somethingWaits_17 (by decide) (fun c_4 => ?_) (fun c_4 => ?_)
    · have h := h.1 c_4
      refine lv_iconst (v := 0) hx hb dX0_somethingWaits_24 (by decide) ?_
      exact W.zret (v := 0) hx hb hr rfl (fun t ht hW => ⟨⟨0, (), rfl, h, by rw [ht]; exact hP, hD⟩, hS.F ht⟩) hS.2.2 dX0_somethingWaits_25
    · have h := h.2 c_4
      refine lv_iconst (v := 1) hx hb dX0_somethingWaits_20 (by decide) ?_
      refine lv_goto (tgt := 25) hx hb dX0_somethingWaits_21 (by decide) ?_
      exact W.zret (v := 1) hx hb hr rfl (fun t ht hW => ⟨⟨1, (), rfl, h, by rw [ht]; exact hP, hD⟩, hS.F ht⟩) hS.2.2 dX0_somethingWaits_25
def q_X0_takeFrom_O (x : Int32) (D : St) (Q : St → Prop) : Prop :=
  q_X4_gateAt x (fun i => D (6 + i)) (fun r_1 => q_X4_openingAt x (fun i => (uA D 24 (fun _ => r_1)) (6 + i)) (fun r_2 => q_X4_removeAt x (fun i => (uA (uA D 24 (fun _ => r_1)) 25 (fun _ => r_2)) (6 + i)) (fun u_3 => Q (mgO (uA (uA D 24 (fun _ => r_1)) 25 (fun _ => r_2)) u_3))))
set_option maxHeartbeats 4000000 in
set_option maxRecDepth 100000 in
theorem c_X0_takeFrom_O (l : Launch) (G : va_G) (cI cC cD : ClassId) (q : Nat → Nat) (sz : Nat) (D : St) (x : Int32) (Q : St → Prop) (h : q_X0_takeFrom_O x D Q) : Met l yX0_takeFrom wsX0_takeFrom ({ frames := 1, cells := 0, slots := 0, locals := 22 }) (va_Pc [.ref (q 0), .ref (q 7), .int x] (PW G (ty3 cI cC cD) (wD cI q D) sz)) (va_Qv Q (BW G (fun u : St => (wD cI q u)) (va_A (wD cI q D) sz)) (va_A (wD cI q D) sz)) 0 0 (va_A (wD cI q D) sz) := by
  refine Met.ofW (cc := cX0_takeFrom) (maxL := 3) (ret := none) (by decide) rfl ?_
  intro p e s m args below meth c s₁ B hml hv
  obtain ⟨rfl, hsz, hP, hK, hD0, hN⟩ := hv
  have hx := B.exec
  have hb := B.bytes
  have hr := B.returns
  have hts := atoms_spec (ws := wsX0_takeFrom) B.pre
  have hown : s.vm.findClass RX0 = some m.cls := findClass_of_methodNamed B.named
  have hlocks := B.notSynchronized
  subst hsz
  have hD := hD0.self (sz := s.heap.size)
  generalize hAe : va_A (wD cI q D) s.heap.size = A at hD ⊢
  have hA : ∀ q : Nat, s.heap.size ≤ q → A q := fun q h => by rw [← hAe]; exact Or.inr h
  have hS : va_S A s.heap s.heap [] := va_S.rf
  have hl := lv_entry ([.ref (q 0), .ref (q 7), .int x]) (n := 3) (Nat.le_of_ble_eq_true rfl)
  rw [lg_entry_eq]
  generalize (lg_sl ([.ref (q 0), .ref (q 7), .int x]) ++ List.replicate (3 - (lg_sl ([.ref (q 0), .ref (q 7), .int x])).length) Slot.unset).toArray = ls at hl ⊢
  have hl : lv_has ls 3 [(0, .ref (q 0)), (1, .ref (q 7)), (2, .int x)] := hl
  have hinX0 : ∀ w ∈ wsX00, w ∈ wsX0_takeFrom := by decide +kernel
  have hL38 := hts (.fieldLink RX0 38 "CraneGates$Dam" "taskGate" "I") (by decide +kernel)
  have hL79 := hts (.fieldLink RX0 79 "CraneGates$Dam" "taskOpening" "I") (by decide +kernel)
  unfold q_X0_takeFrom_O at h
  refine lv_aload_n hx hb dX0_takeFrom_0 rfl (lv_at hl 0 rfl) ?_
  refine lv_aload_n hx hb dX0_takeFrom_1 rfl (lv_at hl 1 rfl) ?_
  refine lv_iload_n hx hb dX0_takeFrom_2 rfl (lv_at hl 2 rfl) ?_
  refine kc_i (As := [.int x]) (rest := [.ref (q 0)]) (wg := (fun _ => (wD cI q D))) ⟨hx, hb, hml, hown, hts⟩ (c_X4_gateAt l G cI cC cD (q 7) (q 8) (q 9) _ (fun i => D (6 + i)) x _ h) (cwV 1 hts gX0_takeFrom_X4_gateAt rfl rfl rfl (by decide +kernel) ⟨Nat.le_of_ble_eq_true rfl, Nat.le_of_ble_eq_true rfl⟩) hK hN hP hD hS hA (em_DO cI q D) (fun _ => rp_self (em_DO cI q D)) rfl rfl rfl rfl hl.1 rfl (Nat.le_of_ble_eq_true rfl) dX0_takeFrom_3 ⟨Nat.zero_le _, Nat.zero_le _⟩ (fun r_1 _ H locs h hP hD hS => ?_)
  refine va_put (D := G) (ci := 0) (v := .int r_1) (ty := .int) (C := RX0) (T := TX0) (N := 18) hx hb hts hinX0 tyX0 tyX0_ok nmX0 hown hK hP hD hS 0 rfl rfl 13 (by decide) hL38 (fun _ h9 => h9) rfl (by decide +kernel) rfl rfl (Nat.le_of_ble_eq_true rfl) dX0_takeFrom_6 (fun H locs hP hD hS => ?_)
  have hP : va_P G vwCl (wD cI q (uA D 24 (fun _ => r_1))) H := hP
  have hD : va_D A (wD cI q (uA D 24 (fun _ => r_1))) := hD
  refine lv_aload_n hx hb dX0_takeFrom_9 rfl (lv_at hl 0 rfl) ?_
  refine lv_aload_n hx hb dX0_takeFrom_10 rfl (lv_at hl 1 rfl) ?_
  refine lv_iload_n hx hb dX0_takeFrom_11 rfl (lv_at hl 2 rfl) ?_
  refine kc_i (As := [.int x]) (rest := [.ref (q 0)]) (wg := (fun _ => (wD cI q (uA D 24 (fun _ => r_1))))) ⟨hx, hb, hml, hown, hts⟩ (c_X4_openingAt l G cI cC cD (q 7) (q 8) (q 9) _ (fun i => (uA D 24 (fun _ => r_1)) (6 + i)) x _ h) (cwV 1 hts gX0_takeFrom_X4_openingAt rfl rfl rfl (by decide +kernel) ⟨Nat.le_of_ble_eq_true rfl, Nat.le_of_ble_eq_true rfl⟩) hK hN hP hD hS hA (em_DO cI q (uA D 24 (fun _ => r_1))) (fun _ => rp_self (em_DO cI q (uA D 24 (fun _ => r_1)))) rfl rfl rfl rfl hl.1 rfl (Nat.le_of_ble_eq_true rfl) dX0_takeFrom_12 ⟨Nat.zero_le _, Nat.zero_le _⟩ (fun r_2 _ H locs h hP hD hS => ?_)
  refine va_put (D := G) (ci := 0) (v := .int r_2) (ty := .int) (C := RX0) (T := TX0) (N := 18) hx hb hts hinX0 tyX0 tyX0_ok nmX0 hown hK hP hD hS 0 rfl rfl 14 (by decide) hL79 (fun _ h9 => h9) rfl (by decide +kernel) rfl rfl (Nat.le_of_ble_eq_true rfl) dX0_takeFrom_15 (fun H locs hP hD hS => ?_)
  have hP : va_P G vwCl (wD cI q (uA (uA D 24 (fun _ => r_1)) 25 (fun _ => r_2))) H := hP
  have hD : va_D A (wD cI q (uA (uA D 24 (fun _ => r_1)) 25 (fun _ => r_2))) := hD
  refine lv_aload_n hx hb dX0_takeFrom_18 rfl (lv_at hl 1 rfl) ?_
  refine lv_iload_n hx hb dX0_takeFrom_19 rfl (lv_at hl 2 rfl) ?_
  refine kc_v (As := [.int x]) (rest := []) (wg := (fun u => (wD cI q (mgO (uA (uA D 24 (fun _ => r_1)) 25 (fun _ => r_2)) u)))) ⟨hx, hb, hml, hown, hts⟩ (c_X4_removeAt l G cI cC cD (q 7) (q 8) (q 9) _ (fun i => (uA (uA D 24 (fun _ => r_1)) 25 (fun _ => r_2)) (6 + i)) x _ h) (cwV 1 hts gX0_takeFrom_X4_removeAt rfl rfl rfl (by decide +kernel) ⟨Nat.le_of_ble_eq_true rfl, Nat.le_of_ble_eq_true rfl⟩) hK hN hP hD hS hA (em_DO cI q (uA (uA D 24 (fun _ => r_1)) 25 (fun _ => r_2))) (fun u => rp_DO cI q (uA (uA D 24 (fun _ => r_1)) 25 (fun _ => r_2)) u) rfl rfl rfl rfl hl.1 rfl (Nat.le_of_ble_eq_true rfl) dX0_takeFrom_20 ⟨Nat.zero_le _, Nat.zero_le _⟩ (fun u_3 H locs h hP hD hS => ?_)
  exact W.vret hx hb hr (fun t ht hW => ⟨⟨(mgO (uA (uA D 24 (fun _ => r_1)) 25 (fun _ => r_2)) u_3), rfl, h, by rw [ht]; exact hP, hD⟩, hS.F ht⟩) hS.2.2 dX0_takeFrom_23
def q_X0_takeFrom_K (x : Int32) (D : St) (Q : St → Prop) : Prop :=
  q_X4_gateAt x (fun i => D (10 + i)) (fun r_1 => q_X4_openingAt x (fun i => (uA D 24 (fun _ => r_1)) (10 + i)) (fun r_2 => q_X4_removeAt x (fun i => (uA (uA D 24 (fun _ => r_1)) 25 (fun _ => r_2)) (10 + i)) (fun u_3 => Q (mgK (uA (uA D 24 (fun _ => r_1)) 25 (fun _ => r_2)) u_3))))
set_option maxHeartbeats 4000000 in
set_option maxRecDepth 100000 in
theorem c_X0_takeFrom_K (l : Launch) (G : va_G) (cI cC cD : ClassId) (q : Nat → Nat) (sz : Nat) (D : St) (x : Int32) (Q : St → Prop) (h : q_X0_takeFrom_K x D Q) : Met l yX0_takeFrom wsX0_takeFrom ({ frames := 1, cells := 0, slots := 0, locals := 22 }) (va_Pc [.ref (q 0), .ref (q 10), .int x] (PW G (ty3 cI cC cD) (wD cI q D) sz)) (va_Qv Q (BW G (fun u : St => (wD cI q u)) (va_A (wD cI q D) sz)) (va_A (wD cI q D) sz)) 0 0 (va_A (wD cI q D) sz) := by
  refine Met.ofW (cc := cX0_takeFrom) (maxL := 3) (ret := none) (by decide) rfl ?_
  intro p e s m args below meth c s₁ B hml hv
  obtain ⟨rfl, hsz, hP, hK, hD0, hN⟩ := hv
  have hx := B.exec
  have hb := B.bytes
  have hr := B.returns
  have hts := atoms_spec (ws := wsX0_takeFrom) B.pre
  have hown : s.vm.findClass RX0 = some m.cls := findClass_of_methodNamed B.named
  have hlocks := B.notSynchronized
  subst hsz
  have hD := hD0.self (sz := s.heap.size)
  generalize hAe : va_A (wD cI q D) s.heap.size = A at hD ⊢
  have hA : ∀ q : Nat, s.heap.size ≤ q → A q := fun q h => by rw [← hAe]; exact Or.inr h
  have hS : va_S A s.heap s.heap [] := va_S.rf
  have hl := lv_entry ([.ref (q 0), .ref (q 10), .int x]) (n := 3) (Nat.le_of_ble_eq_true rfl)
  rw [lg_entry_eq]
  generalize (lg_sl ([.ref (q 0), .ref (q 10), .int x]) ++ List.replicate (3 - (lg_sl ([.ref (q 0), .ref (q 10), .int x])).length) Slot.unset).toArray = ls at hl ⊢
  have hl : lv_has ls 3 [(0, .ref (q 0)), (1, .ref (q 10)), (2, .int x)] := hl
  have hinX0 : ∀ w ∈ wsX00, w ∈ wsX0_takeFrom := by decide +kernel
  have hL38 := hts (.fieldLink RX0 38 "CraneGates$Dam" "taskGate" "I") (by decide +kernel)
  have hL79 := hts (.fieldLink RX0 79 "CraneGates$Dam" "taskOpening" "I") (by decide +kernel)
  unfold q_X0_takeFrom_K at h
  refine lv_aload_n hx hb dX0_takeFrom_0 rfl (lv_at hl 0 rfl) ?_
  refine lv_aload_n hx hb dX0_takeFrom_1 rfl (lv_at hl 1 rfl) ?_
  refine lv_iload_n hx hb dX0_takeFrom_2 rfl (lv_at hl 2 rfl) ?_
  refine kc_i (As := [.int x]) (rest := [.ref (q 0)]) (wg := (fun _ => (wD cI q D))) ⟨hx, hb, hml, hown, hts⟩ (c_X4_gateAt l G cI cC cD (q 10) (q 11) (q 12) _ (fun i => D (10 + i)) x _ h) (cwV 1 hts gX0_takeFrom_X4_gateAt rfl rfl rfl (by decide +kernel) ⟨Nat.le_of_ble_eq_true rfl, Nat.le_of_ble_eq_true rfl⟩) hK hN hP hD hS hA (em_DK cI q D) (fun _ => rp_self (em_DK cI q D)) rfl rfl rfl rfl hl.1 rfl (Nat.le_of_ble_eq_true rfl) dX0_takeFrom_3 ⟨Nat.zero_le _, Nat.zero_le _⟩ (fun r_1 _ H locs h hP hD hS => ?_)
  refine va_put (D := G) (ci := 0) (v := .int r_1) (ty := .int) (C := RX0) (T := TX0) (N := 18) hx hb hts hinX0 tyX0 tyX0_ok nmX0 hown hK hP hD hS 0 rfl rfl 13 (by decide) hL38 (fun _ h9 => h9) rfl (by decide +kernel) rfl rfl (Nat.le_of_ble_eq_true rfl) dX0_takeFrom_6 (fun H locs hP hD hS => ?_)
  have hP : va_P G vwCl (wD cI q (uA D 24 (fun _ => r_1))) H := hP
  have hD : va_D A (wD cI q (uA D 24 (fun _ => r_1))) := hD
  refine lv_aload_n hx hb dX0_takeFrom_9 rfl (lv_at hl 0 rfl) ?_
  refine lv_aload_n hx hb dX0_takeFrom_10 rfl (lv_at hl 1 rfl) ?_
  refine lv_iload_n hx hb dX0_takeFrom_11 rfl (lv_at hl 2 rfl) ?_
  refine kc_i (As := [.int x]) (rest := [.ref (q 0)]) (wg := (fun _ => (wD cI q (uA D 24 (fun _ => r_1))))) ⟨hx, hb, hml, hown, hts⟩ (c_X4_openingAt l G cI cC cD (q 10) (q 11) (q 12) _ (fun i => (uA D 24 (fun _ => r_1)) (10 + i)) x _ h) (cwV 1 hts gX0_takeFrom_X4_openingAt rfl rfl rfl (by decide +kernel) ⟨Nat.le_of_ble_eq_true rfl, Nat.le_of_ble_eq_true rfl⟩) hK hN hP hD hS hA (em_DK cI q (uA D 24 (fun _ => r_1))) (fun _ => rp_self (em_DK cI q (uA D 24 (fun _ => r_1)))) rfl rfl rfl rfl hl.1 rfl (Nat.le_of_ble_eq_true rfl) dX0_takeFrom_12 ⟨Nat.zero_le _, Nat.zero_le _⟩ (fun r_2 _ H locs h hP hD hS => ?_)
  refine va_put (D := G) (ci := 0) (v := .int r_2) (ty := .int) (C := RX0) (T := TX0) (N := 18) hx hb hts hinX0 tyX0 tyX0_ok nmX0 hown hK hP hD hS 0 rfl rfl 14 (by decide) hL79 (fun _ h9 => h9) rfl (by decide +kernel) rfl rfl (Nat.le_of_ble_eq_true rfl) dX0_takeFrom_15 (fun H locs hP hD hS => ?_)
  have hP : va_P G vwCl (wD cI q (uA (uA D 24 (fun _ => r_1)) 25 (fun _ => r_2))) H := hP
  have hD : va_D A (wD cI q (uA (uA D 24 (fun _ => r_1)) 25 (fun _ => r_2))) := hD
  refine lv_aload_n hx hb dX0_takeFrom_18 rfl (lv_at hl 1 rfl) ?_
  refine lv_iload_n hx hb dX0_takeFrom_19 rfl (lv_at hl 2 rfl) ?_
  refine kc_v (As := [.int x]) (rest := []) (wg := (fun u => (wD cI q (mgK (uA (uA D 24 (fun _ => r_1)) 25 (fun _ => r_2)) u)))) ⟨hx, hb, hml, hown, hts⟩ (c_X4_removeAt l G cI cC cD (q 10) (q 11) (q 12) _ (fun i => (uA (uA D 24 (fun _ => r_1)) 25 (fun _ => r_2)) (10 + i)) x _ h) (cwV 1 hts gX0_takeFrom_X4_removeAt rfl rfl rfl (by decide +kernel) ⟨Nat.le_of_ble_eq_true rfl, Nat.le_of_ble_eq_true rfl⟩) hK hN hP hD hS hA (em_DK cI q (uA (uA D 24 (fun _ => r_1)) 25 (fun _ => r_2))) (fun u => rp_DK cI q (uA (uA D 24 (fun _ => r_1)) 25 (fun _ => r_2)) u) rfl rfl rfl rfl hl.1 rfl (Nat.le_of_ble_eq_true rfl) dX0_takeFrom_20 ⟨Nat.zero_le _, Nat.zero_le _⟩ (fun u_3 H locs h hP hD hS => ?_)
  exact W.vret hx hb hr (fun t ht hW => ⟨⟨(mgK (uA (uA D 24 (fun _ => r_1)) 25 (fun _ => r_2)) u_3), rfl, h, by rw [ht]; exact hP, hD⟩, hS.F ht⟩) hS.2.2 dX0_takeFrom_23
def q_X0_chosenOrder (D : St) (Q : Int32 → Prop) : Prop :=
  ∃ (I_2 : Nat → Int32 → Int32 → Int32 → Prop) (n_7 : Nat), I_2 n_7 0 0 (-1) ∧ ∀ (n_1 : Nat) (x3_3 : Int32) (x2_4 : Int32) (x1_5 : Int32), I_2 n_1 x3_3 x2_4 x1_5 → (q_X4_size (fun i => D (6 + i)) (fun r_11 => (r_11 ≤ x3_3 → Q x1_5) ∧ (¬ (r_11 ≤ x3_3) → (8 ≤ x3_3 → Q x1_5) ∧ (¬ (8 ≤ x3_3) → (((D 14) 2) = 1 → q_X4_gateAt x3_3 (fun i => D (6 + i)) (fun r_41 => (x1_5 = (-1) → ∃ n_43, n_43 < n_1 ∧ I_2 n_43 (x3_3 + 1) (if 0 ≤ (r_41 - (D 23 0)) then (r_41 - (D 23 0)) else 0 - (r_41 - (D 23 0))) x3_3) ∧ (¬ (x1_5 = (-1)) → (x2_4 ≤ (if 0 ≤ (r_41 - (D 23 0)) then (r_41 - (D 23 0)) else 0 - (r_41 - (D 23 0))) → ∃ n_47, n_47 < n_1 ∧ I_2 n_47 (x3_3 + 1) x2_4 x1_5) ∧ (¬ (x2_4 ≤ (if 0 ≤ (r_41 - (D 23 0)) then (r_41 - (D 23 0)) else 0 - (r_41 - (D 23 0)))) → ∃ n_50, n_50 < n_1 ∧ I_2 n_50 (x3_3 + 1) (if 0 ≤ (r_41 - (D 23 0)) then (r_41 - (D 23 0)) else 0 - (r_41 - (D 23 0))) x3_3)))) ∧ (¬ (((D 14) 2) = 1) → (((D 14) 2) = 2 → q_X4_openingAt x3_3 (fun i => D (6 + i)) (fun r_27 => q_X4_gateAt x3_3 (fun i => D (6 + i)) (fun r_28 => q_X1_opening r_28 D (fun r_29 => (x1_5 = (-1) → ∃ n_31, n_31 < n_1 ∧ I_2 n_31 (x3_3 + 1) (-(if 0 ≤ (r_27 - r_29) then (r_27 - r_29) else 0 - (r_27 - r_29))) x3_3) ∧ (¬ (x1_5 = (-1)) → (x2_4 ≤ (-(if 0 ≤ (r_27 - r_29) then (r_27 - r_29) else 0 - (r_27 - r_29))) → ∃ n_35, n_35 < n_1 ∧ I_2 n_35 (x3_3 + 1) x2_4 x1_5) ∧ (¬ (x2_4 ≤ (-(if 0 ≤ (r_27 - r_29) then (r_27 - r_29) else 0 - (r_27 - r_29)))) → ∃ n_38, n_38 < n_1 ∧ I_2 n_38 (x3_3 + 1) (-(if 0 ≤ (r_27 - r_29) then (r_27 - r_29) else 0 - (r_27 - r_29))) x3_3)))))) ∧ (¬ (((D 14) 2) = 2) → (x1_5 = (-1) → ∃ n_17, n_17 < n_1 ∧ I_2 n_17 (x3_3 + 1) 0 x3_3) ∧ (¬ (x1_5 = (-1)) → (x2_4 ≤ 0 → ∃ n_21, n_21 < n_1 ∧ I_2 n_21 (x3_3 + 1) x2_4 x1_5) ∧ (¬ (x2_4 ≤ 0) → ∃ n_24, n_24 < n_1 ∧ I_2 n_24 (x3_3 + 1) 0 x3_3))))))))
set_option maxHeartbeats 4000000 in
set_option maxRecDepth 100000 in
theorem c_X0_chosenOrder (l : Launch) (G : va_G) (cI cC cD : ClassId) (q : Nat → Nat) (sz : Nat) (D : St)  (Q : Int32 → Prop) (h : q_X0_chosenOrder  D Q) : Met l yX0_chosenOrder wsX0_chosenOrder ({ frames := 1, cells := 0, slots := 0, locals := 21 }) (va_Pc [.ref (q 0)] (PW G (ty3 cI cC cD) (wD cI q D) sz)) (va_Qi (fun (r : Int32) (_ : Unit) => Q r) (BW G (fun _ : Unit => (wD cI q D)) (va_A (wD cI q D) sz)) (va_A (wD cI q D) sz)) 0 0 (va_A (wD cI q D) sz) := by
  refine Met.ofW (cc := cX0_chosenOrder) (maxL := 5) (ret := (some .int)) (by decide) rfl ?_
  intro p e s m args below meth c s₁ B hml hv
  obtain ⟨rfl, hsz, hP, hK, hD0, hN⟩ := hv
  have hx := B.exec
  have hb := B.bytes
  have hr := B.returns
  have hts := atoms_spec (ws := wsX0_chosenOrder) B.pre
  have hown : s.vm.findClass RX0 = some m.cls := findClass_of_methodNamed B.named
  have hlocks := B.notSynchronized
  subst hsz
  have hD := hD0.self (sz := s.heap.size)
  generalize hAe : va_A (wD cI q D) s.heap.size = A at hD ⊢
  have hA : ∀ q : Nat, s.heap.size ≤ q → A q := fun q h => by rw [← hAe]; exact Or.inr h
  have hS : va_S A s.heap s.heap [] := va_S.rf
  have hl := lv_entry ([.ref (q 0)]) (n := 5) (Nat.le_of_ble_eq_true rfl)
  rw [lg_entry_eq]
  generalize (lg_sl ([.ref (q 0)]) ++ List.replicate (5 - (lg_sl ([.ref (q 0)])).length) Slot.unset).toArray = ls at hl ⊢
  have hl : lv_has ls 5 [(0, .ref (q 0))] := hl
  have hinX0 : ∀ w ∈ wsX00, w ∈ wsX0_chosenOrder := by decide +kernel
  have hL12 := hts (.fieldLink RX0 12 "CraneGates$Dam" "gates" "LCraneGates$Gates;") (by decide +kernel)
  have hL23 := hts (.fieldLink RX0 23 "CraneGates$Dam" "orders" "LCraneGates$Tasks;") (by decide +kernel)
  have hL30 := hts (.fieldLink RX0 30 "CraneGates$Dam" "settings" "[I") (by decide +kernel)
  have hL76 := hts (.fieldLink RX0 76 "CraneGates$Dam" "place" "I") (by decide +kernel)
  unfold q_X0_chosenOrder at h
  refine lv_iconst (v := (-1)) hx hb dX0_chosenOrder_0 (by decide) ?_
  refine lv_istore_n (lv' := [(1, .int (-1)), (0, .ref (q 0))]) hx hb dX0_chosenOrder_1 rfl hl (by decide) rfl (fun ls hl => ?_)
  refine lv_iconst (v := 0) hx hb dX0_chosenOrder_2 (by decide) ?_
  refine lv_istore_n (lv' := [(2, .int 0), (1, .int (-1)), (0, .ref (q 0))]) hx hb dX0_chosenOrder_3 rfl hl (by decide) rfl (fun ls hl => ?_)
  refine lv_iconst (v := 0) hx hb dX0_chosenOrder_4 (by decide) ?_
  refine lv_istore_n (lv' := [(3, .int 0), (2, .int 0), (1, .int (-1)), (0, .ref (q 0))]) hx hb dX0_chosenOrder_5 rfl hl (by decide) rfl (fun ls hl => ?_)
  obtain ⟨I_2, n_7, h_8, hI_9⟩ := h
  have lp_10 : ∀ (n_1 : Nat) (x3_3 : Int32) (x2_4 : Int32) (x1_5 : Int32), I_2 n_1 x3_3 x2_4 x1_5 → ∀ (H : Heap) (locs : List Loc) (ls : Array Slot), va_P G vwCl (wD cI q D) H → va_D A (wD cI q D) → va_S A s.heap H locs → lv_has ls 5 [(3, .int x3_3), (2, .int x2_4), (1, .int x1_5), (0, .ref (q 0))] → W p l e (headSpec wsX0_chosenOrder ({ frames := 1, cells := 0, slots := 0, locals := 21 })).room s m ([.ref (q 0)] : List Value).toArray below meth c H locs 0 0 (MQ below (va_Qi (fun (r : Int32) (_ : Unit) => Q r) (BW G (fun _ : Unit => (wD cI q D)) A) A) ([.ref (q 0)] : List Value).toArray s 0 0 A) (F0 m 6 ls []) := by
    intro n_1
    induction n_1 using Nat.strongRecOn with
    | ind n_1 ih_6 =>
      intro x3_3 x2_4 x1_5 hIn H locs ls hP hD hS hl
      have h := hI_9 n_1 x3_3 x2_4 x1_5 hIn
      refine lv_iload_n hx hb dX0_chosenOrder_6 rfl (lv_at hl 0 rfl) ?_
      refine lv_aload_n hx hb dX0_chosenOrder_7 rfl (lv_at hl 3 rfl) ?_
      refine va_get (D := G) (ci := 0) (v := .ref (q 7)) (C := RX0) (T := TX0) (N := 18) hx hb hts hinX0 hown hK hP 0 rfl rfl 1 (by decide) hL23 (fun _ h9 => h9) rfl dX0_chosenOrder_8 ?_
      refine kc_i (As := []) (rest := [.int x3_3]) (wg := (fun _ => (wD cI q D))) ⟨hx, hb, hml, hown, hts⟩ (c_X4_size l G cI cC cD (q 7) (q 8) (q 9) _ (fun i => D (6 + i))  _ h) (cwV 0 hts gX0_chosenOrder_X4_size rfl rfl rfl (by decide +kernel) ⟨Nat.le_of_ble_eq_true rfl, Nat.le_of_ble_eq_true rfl⟩) hK hN hP hD hS hA (em_DO cI q D) (fun _ => rp_self (em_DO cI q D)) rfl rfl rfl rfl hl.1 rfl (Nat.le_of_ble_eq_true rfl) dX0_chosenOrder_11 ⟨Nat.zero_le _, Nat.zero_le _⟩ (fun r_11 _ H locs h hP hD hS => ?_)
      refine lv_icmp_ge (tgt := 119) hx hb dX0_chosenOrder_14 (by decide) (fun c_12 => ?_) (fun c_12 => ?_)
      · have h := h.1 c_12
        refine lv_iload_n hx hb dX0_chosenOrder_119 rfl (lv_at hl 2 rfl) ?_
        exact W.iret (v := x1_5) hx hb hr (fun t ht hW => ⟨⟨x1_5, (), rfl, h, by rw [ht]; exact hP, hD⟩, hS.F ht⟩) hS.2.2 dX0_chosenOrder_120
      · have h := h.2 c_12
        refine lv_iload_n hx hb dX0_chosenOrder_17 rfl (lv_at hl 0 rfl) ?_
        refine lv_bipush (v := 8) hx hb dX0_chosenOrder_18 (by decide) ?_
        refine lv_icmp_ge (tgt := 119) hx hb dX0_chosenOrder_20 (by decide) (fun c_13 => ?_) (fun c_13 => ?_)
        · have h := h.1 c_13
          refine lv_iload_n hx hb dX0_chosenOrder_119 rfl (lv_at hl 2 rfl) ?_
          exact W.iret (v := x1_5) hx hb hr (fun t ht hW => ⟨⟨x1_5, (), rfl, h, by rw [ht]; exact hP, hD⟩, hS.F ht⟩) hS.2.2 dX0_chosenOrder_120
        · have h := h.2 c_13
          refine lv_iconst (v := 0) hx hb dX0_chosenOrder_23 (by decide) ?_
          refine lv_istore (lv' := [(4, .int 0), (3, .int x3_3), (2, .int x2_4), (1, .int x1_5), (0, .ref (q 0))]) hx hb dX0_chosenOrder_24 hl (by decide) rfl (fun ls hl => ?_)
          refine lv_aload_n hx hb dX0_chosenOrder_26 rfl (lv_at hl 4 rfl) ?_
          refine va_get (D := G) (ci := 0) (v := .ref (q 13)) (C := RX0) (T := TX0) (N := 18) hx hb hts hinX0 hown hK hP 0 rfl rfl 3 (by decide) hL30 (fun _ h9 => h9) rfl dX0_chosenOrder_27 ?_
          refine lv_iconst (v := 2) hx hb dX0_chosenOrder_30 (by decide) ?_
          refine k_ald (f := (D 14)) (j := 2) (v := ((D 14) 2)) hx hb hK hP 13 0 rfl rfl (show ¬ ((2 : Int32) < 0 ∨ 3 ≤ (2 : Int32).toNatClampNeg) by decide) rfl rfl dX0_chosenOrder_31 ?_
          refine lv_iconst (v := 1) hx hb dX0_chosenOrder_32 (by decide) ?_
          refine lv_icmp_ne (tgt := 57) hx hb dX0_chosenOrder_33 (by decide) (fun c_14 => ?_) (fun c_14 => ?_)
          · have h := h.2 c_14
            refine lv_aload_n hx hb dX0_chosenOrder_57 rfl (lv_at hl 4 rfl) ?_
            refine va_get (D := G) (ci := 0) (v := .ref (q 13)) (C := RX0) (T := TX0) (N := 18) hx hb hts hinX0 hown hK hP 0 rfl rfl 3 (by decide) hL30 (fun _ h9 => h9) rfl dX0_chosenOrder_58 ?_
            refine lv_iconst (v := 2) hx hb dX0_chosenOrder_61 (by decide) ?_
            refine k_ald (f := (D 14)) (j := 2) (v := ((D 14) 2)) hx hb hK hP 13 0 rfl rfl (show ¬ ((2 : Int32) < 0 ∨ 3 ≤ (2 : Int32).toNatClampNeg) by decide) rfl rfl dX0_chosenOrder_62 ?_
            refine lv_iconst (v := 2) hx hb dX0_chosenOrder_63 (by decide) ?_
            refine lv_icmp_ne (tgt := 97) hx hb dX0_chosenOrder_64 (by decide) (fun c_15 => ?_) (fun c_15 => ?_)
            · have h := h.2 c_15
              refine lv_iload_n hx hb dX0_chosenOrder_97 rfl (lv_at hl 3 rfl) ?_
              refine lv_iconst (v := (-1)) hx hb dX0_chosenOrder_98 (by decide) ?_
              refine lv_icmp_eq (tgt := 108) hx hb dX0_chosenOrder_99 (by decide) (fun c_16 => ?_) (fun c_16 => ?_)
              · have h := h.1 c_16
                refine lv_iload_n hx hb dX0_chosenOrder_108 rfl (lv_at hl 1 rfl) ?_
                refine lv_istore_n (lv' := [(1, .int x3_3), (4, .int 0), (3, .int x3_3), (2, .int x2_4), (0, .ref (q 0))]) hx hb dX0_chosenOrder_109 rfl hl (by decide) rfl (fun ls hl => ?_)
                refine lv_iload hx hb dX0_chosenOrder_110 (lv_at hl 1 rfl) ?_
                refine lv_istore_n (lv' := [(2, .int 0), (1, .int x3_3), (4, .int 0), (3, .int x3_3), (0, .ref (q 0))]) hx hb dX0_chosenOrder_112 rfl hl (by decide) rfl (fun ls hl => ?_)
                refine lv_iinc (v := x3_3 + 1) (lv' := [(3, .int (x3_3 + 1)), (2, .int 0), (1, .int x3_3), (4, .int 0), (0, .ref (q 0))]) hx hb dX0_chosenOrder_113 hl (k := 3) rfl rfl (by decide) rfl (fun ls hl => ?_)
                refine lv_goto (tgt := 6) hx hb dX0_chosenOrder_116 (by decide) ?_
                obtain ⟨n_17, lt_18, h_19⟩ := h
                exact ih_6 n_17 lt_18 _ _ _ h_19 _ _ _ hP hD hS (lv_sub hl [0, 1, 2, 4] rfl)
              · have h := h.2 c_16
                refine lv_iload hx hb dX0_chosenOrder_102 (lv_at hl 0 rfl) ?_
                refine lv_iload_n hx hb dX0_chosenOrder_104 rfl (lv_at hl 2 rfl) ?_
                refine lv_icmp_ge (tgt := 113) hx hb dX0_chosenOrder_105 (by decide) (fun c_20 => ?_) (fun c_20 => ?_)
                · have h := h.1 c_20
                  refine lv_iinc (v := x3_3 + 1) (lv' := [(3, .int (x3_3 + 1)), (4, .int 0), (2, .int x2_4), (1, .int x1_5), (0, .ref (q 0))]) hx hb dX0_chosenOrder_113 hl (k := 1) rfl rfl (by decide) rfl (fun ls hl => ?_)
                  refine lv_goto (tgt := 6) hx hb dX0_chosenOrder_116 (by decide) ?_
                  obtain ⟨n_21, lt_22, h_23⟩ := h
                  exact ih_6 n_21 lt_22 _ _ _ h_23 _ _ _ hP hD hS (lv_sub hl [0, 2, 3, 4] rfl)
                · have h := h.2 c_20
                  refine lv_iload_n hx hb dX0_chosenOrder_108 rfl (lv_at hl 1 rfl) ?_
                  refine lv_istore_n (lv' := [(1, .int x3_3), (4, .int 0), (3, .int x3_3), (2, .int x2_4), (0, .ref (q 0))]) hx hb dX0_chosenOrder_109 rfl hl (by decide) rfl (fun ls hl => ?_)
                  refine lv_iload hx hb dX0_chosenOrder_110 (lv_at hl 1 rfl) ?_
                  refine lv_istore_n (lv' := [(2, .int 0), (1, .int x3_3), (4, .int 0), (3, .int x3_3), (0, .ref (q 0))]) hx hb dX0_chosenOrder_112 rfl hl (by decide) rfl (fun ls hl => ?_)
                  refine lv_iinc (v := x3_3 + 1) (lv' := [(3, .int (x3_3 + 1)), (2, .int 0), (1, .int x3_3), (4, .int 0), (0, .ref (q 0))]) hx hb dX0_chosenOrder_113 hl (k := 3) rfl rfl (by decide) rfl (fun ls hl => ?_)
                  refine lv_goto (tgt := 6) hx hb dX0_chosenOrder_116 (by decide) ?_
                  obtain ⟨n_24, lt_25, h_26⟩ := h
                  exact ih_6 n_24 lt_25 _ _ _ h_26 _ _ _ hP hD hS (lv_sub hl [0, 1, 2, 4] rfl)
            · have h := h.1 c_15
              refine lv_aload_n hx hb dX0_chosenOrder_67 rfl (lv_at hl 4 rfl) ?_
              refine va_get (D := G) (ci := 0) (v := .ref (q 7)) (C := RX0) (T := TX0) (N := 18) hx hb hts hinX0 hown hK hP 0 rfl rfl 1 (by decide) hL23 (fun _ h9 => h9) rfl dX0_chosenOrder_68 ?_
              refine lv_iload_n hx hb dX0_chosenOrder_71 rfl (lv_at hl 1 rfl) ?_
              refine kc_i (As := [.int x3_3]) (rest := []) (wg := (fun _ => (wD cI q D))) ⟨hx, hb, hml, hown, hts⟩ (c_X4_openingAt l G cI cC cD (q 7) (q 8) (q 9) _ (fun i => D (6 + i)) x3_3 _ h) (cwV 1 hts gX0_chosenOrder_X4_openingAt rfl rfl rfl (by decide +kernel) ⟨Nat.le_of_ble_eq_true rfl, Nat.le_of_ble_eq_true rfl⟩) hK hN hP hD hS hA (em_DO cI q D) (fun _ => rp_self (em_DO cI q D)) rfl rfl rfl rfl hl.1 rfl (Nat.le_of_ble_eq_true rfl) dX0_chosenOrder_72 ⟨Nat.zero_le _, Nat.zero_le _⟩ (fun r_27 _ H locs h hP hD hS => ?_)
              refine lv_aload_n hx hb dX0_chosenOrder_75 rfl (lv_at hl 4 rfl) ?_
              refine va_get (D := G) (ci := 0) (v := .ref (q 1)) (C := RX0) (T := TX0) (N := 18) hx hb hts hinX0 hown hK hP 0 rfl rfl 0 (by decide) hL12 (fun _ h9 => h9) rfl dX0_chosenOrder_76 ?_
              refine lv_aload_n hx hb dX0_chosenOrder_79 rfl (lv_at hl 4 rfl) ?_
              refine va_get (D := G) (ci := 0) (v := .ref (q 7)) (C := RX0) (T := TX0) (N := 18) hx hb hts hinX0 hown hK hP 0 rfl rfl 1 (by decide) hL23 (fun _ h9 => h9) rfl dX0_chosenOrder_80 ?_
              refine lv_iload_n hx hb dX0_chosenOrder_83 rfl (lv_at hl 1 rfl) ?_
              refine kc_i (As := [.int x3_3]) (rest := [.ref (q 1), .int r_27]) (wg := (fun _ => (wD cI q D))) ⟨hx, hb, hml, hown, hts⟩ (c_X4_gateAt l G cI cC cD (q 7) (q 8) (q 9) _ (fun i => D (6 + i)) x3_3 _ h) (cwV 1 hts gX0_chosenOrder_X4_gateAt rfl rfl rfl (by decide +kernel) ⟨Nat.le_of_ble_eq_true rfl, Nat.le_of_ble_eq_true rfl⟩) hK hN hP hD hS hA (em_DO cI q D) (fun _ => rp_self (em_DO cI q D)) rfl rfl rfl rfl hl.1 rfl (Nat.le_of_ble_eq_true rfl) dX0_chosenOrder_84 ⟨Nat.zero_le _, Nat.zero_le _⟩ (fun r_28 _ H locs h hP hD hS => ?_)
              refine kc_i (As := [.int r_28]) (rest := [.int r_27]) (wg := (fun _ => (wD cI q D))) ⟨hx, hb, hml, hown, hts⟩ (c_X1_opening l G cI cC cD (q 1) (q 2) (q 3) (q 4) (q 5) (q 6) _ D r_28 _ h) (cwV 1 hts gX0_chosenOrder_X1_opening rfl rfl rfl (by decide +kernel) ⟨Nat.le_of_ble_eq_true rfl, Nat.le_of_ble_eq_true rfl⟩) hK hN hP hD hS hA (em_DG cI q D) (fun _ => rp_self (em_DG cI q D)) rfl rfl rfl rfl hl.1 rfl (Nat.le_of_ble_eq_true rfl) dX0_chosenOrder_87 ⟨Nat.zero_le _, Nat.zero_le _⟩ (fun r_29 _ H locs h hP hD hS => ?_)
              refine lv_isub hx hb dX0_chosenOrder_90 ?_
              refine va_mabs hx hb (hl.1 ▸ hml) hown (hts (.methodLink RX0 171 Lib.Math.abs.name) (by decide +kernel)) (hts (.static Lib.Math.abs.name) (by decide +kernel)) (hts (.initialized "java/lang/Math") (by decide +kernel)) (hts (.code Lib.Math.abs.name Lib.Math.abs.code 1 (some .int)) (by decide +kernel)) (Nat.le_of_ble_eq_true rfl) (Nat.le_of_ble_eq_true rfl) (Nat.zero_le _) (Nat.zero_le _) dX0_chosenOrder_91 ?_
              refine lv_ineg hx hb dX0_chosenOrder_94 ?_
              refine lv_istore (lv' := [(4, .int (-(if 0 ≤ (r_27 - r_29) then (r_27 - r_29) else 0 - (r_27 - r_29)))), (3, .int x3_3), (2, .int x2_4), (1, .int x1_5), (0, .ref (q 0))]) hx hb dX0_chosenOrder_95 hl (by decide) rfl (fun ls hl => ?_)
              refine lv_iload_n hx hb dX0_chosenOrder_97 rfl (lv_at hl 3 rfl) ?_
              refine lv_iconst (v := (-1)) hx hb dX0_chosenOrder_98 (by decide) ?_
              refine lv_icmp_eq (tgt := 108) hx hb dX0_chosenOrder_99 (by decide) (fun c_30 => ?_) (fun c_30 => ?_)
              · have h := h.1 c_30
                refine lv_iload_n hx hb dX0_chosenOrder_108 rfl (lv_at hl 1 rfl) ?_
                refine lv_istore_n (lv' := [(1, .int x3_3), (4, .int (-(if 0 ≤ (r_27 - r_29) then (r_27 - r_29) else 0 - (r_27 - r_29)))), (3, .int x3_3), (2, .int x2_4), (0, .ref (q 0))]) hx hb dX0_chosenOrder_109 rfl hl (by decide) rfl (fun ls hl => ?_)
                refine lv_iload hx hb dX0_chosenOrder_110 (lv_at hl 1 rfl) ?_
                refine lv_istore_n (lv' := [(2, .int (-(if 0 ≤ (r_27 - r_29) then (r_27 - r_29) else 0 - (r_27 - r_29)))), (1, .int x3_3), (4, .int (-(if 0 ≤ (r_27 - r_29) then (r_27 - r_29) else 0 - (r_27 - r_29)))), (3, .int x3_3), (0, .ref (q 0))]) hx hb dX0_chosenOrder_112 rfl hl (by decide) rfl (fun ls hl => ?_)
                refine lv_iinc (v := x3_3 + 1) (lv' := [(3, .int (x3_3 + 1)), (2, .int (-(if 0 ≤ (r_27 - r_29) then (r_27 - r_29) else 0 - (r_27 - r_29)))), (1, .int x3_3), (4, .int (-(if 0 ≤ (r_27 - r_29) then (r_27 - r_29) else 0 - (r_27 - r_29)))), (0, .ref (q 0))]) hx hb dX0_chosenOrder_113 hl (k := 3) rfl rfl (by decide) rfl (fun ls hl => ?_)
                refine lv_goto (tgt := 6) hx hb dX0_chosenOrder_116 (by decide) ?_
                obtain ⟨n_31, lt_32, h_33⟩ := h
                exact ih_6 n_31 lt_32 _ _ _ h_33 _ _ _ hP hD hS (lv_sub hl [0, 1, 2, 4] rfl)
              · have h := h.2 c_30
                refine lv_iload hx hb dX0_chosenOrder_102 (lv_at hl 0 rfl) ?_
                refine lv_iload_n hx hb dX0_chosenOrder_104 rfl (lv_at hl 2 rfl) ?_
                refine lv_icmp_ge (tgt := 113) hx hb dX0_chosenOrder_105 (by decide) (fun c_34 => ?_) (fun c_34 => ?_)
                · have h := h.1 c_34
                  refine lv_iinc (v := x3_3 + 1) (lv' := [(3, .int (x3_3 + 1)), (4, .int (-(if 0 ≤ (r_27 - r_29) then (r_27 - r_29) else 0 - (r_27 - r_29)))), (2, .int x2_4), (1, .int x1_5), (0, .ref (q 0))]) hx hb dX0_chosenOrder_113 hl (k := 1) rfl rfl (by decide) rfl (fun ls hl => ?_)
                  refine lv_goto (tgt := 6) hx hb dX0_chosenOrder_116 (by decide) ?_
                  obtain ⟨n_35, lt_36, h_37⟩ := h
                  exact ih_6 n_35 lt_36 _ _ _ h_37 _ _ _ hP hD hS (lv_sub hl [0, 2, 3, 4] rfl)
                · have h := h.2 c_34
                  refine lv_iload_n hx hb dX0_chosenOrder_108 rfl (lv_at hl 1 rfl) ?_
                  refine lv_istore_n (lv' := [(1, .int x3_3), (4, .int (-(if 0 ≤ (r_27 - r_29) then (r_27 - r_29) else 0 - (r_27 - r_29)))), (3, .int x3_3), (2, .int x2_4), (0, .ref (q 0))]) hx hb dX0_chosenOrder_109 rfl hl (by decide) rfl (fun ls hl => ?_)
                  refine lv_iload hx hb dX0_chosenOrder_110 (lv_at hl 1 rfl) ?_
                  refine lv_istore_n (lv' := [(2, .int (-(if 0 ≤ (r_27 - r_29) then (r_27 - r_29) else 0 - (r_27 - r_29)))), (1, .int x3_3), (4, .int (-(if 0 ≤ (r_27 - r_29) then (r_27 - r_29) else 0 - (r_27 - r_29)))), (3, .int x3_3), (0, .ref (q 0))]) hx hb dX0_chosenOrder_112 rfl hl (by decide) rfl (fun ls hl => ?_)
                  refine lv_iinc (v := x3_3 + 1) (lv' := [(3, .int (x3_3 + 1)), (2, .int (-(if 0 ≤ (r_27 - r_29) then (r_27 - r_29) else 0 - (r_27 - r_29)))), (1, .int x3_3), (4, .int (-(if 0 ≤ (r_27 - r_29) then (r_27 - r_29) else 0 - (r_27 - r_29)))), (0, .ref (q 0))]) hx hb dX0_chosenOrder_113 hl (k := 3) rfl rfl (by decide) rfl (fun ls hl => ?_)
                  refine lv_goto (tgt := 6) hx hb dX0_chosenOrder_116 (by decide) ?_
                  obtain ⟨n_38, lt_39, h_40⟩ := h
                  exact ih_6 n_38 lt_39 _ _ _ h_40 _ _ _ hP hD hS (lv_sub hl [0, 1, 2, 4] rfl)
          · have h := h.1 c_14
            refine lv_aload_n hx hb dX0_chosenOrder_36 rfl (lv_at hl 4 rfl) ?_
            refine va_get (D := G) (ci := 0) (v := .ref (q 7)) (C := RX0) (T := TX0) (N := 18) hx hb hts hinX0 hown hK hP 0 rfl rfl 1 (by decide) hL23 (fun _ h9 => h9) rfl dX0_chosenOrder_37 ?_
            refine lv_iload_n hx hb dX0_chosenOrder_40 rfl (lv_at hl 1 rfl) ?_
            refine kc_i (As := [.int x3_3]) (rest := []) (wg := (fun _ => (wD cI q D))) ⟨hx, hb, hml, hown, hts⟩ (c_X4_gateAt l G cI cC cD (q 7) (q 8) (q 9) _ (fun i => D (6 + i)) x3_3 _ h) (cwV 1 hts gX0_chosenOrder_X4_gateAt rfl rfl rfl (by decide +kernel) ⟨Nat.le_of_ble_eq_true rfl, Nat.le_of_ble_eq_true rfl⟩) hK hN hP hD hS hA (em_DO cI q D) (fun _ => rp_self (em_DO cI q D)) rfl rfl rfl rfl hl.1 rfl (Nat.le_of_ble_eq_true rfl) dX0_chosenOrder_41 ⟨Nat.zero_le _, Nat.zero_le _⟩ (fun r_41 _ H locs h hP hD hS => ?_)
            refine lv_aload_n hx hb dX0_chosenOrder_44 rfl (lv_at hl 4 rfl) ?_
            refine va_get (D := G) (ci := 0) (v := .int (D 23 0)) (C := RX0) (T := TX0) (N := 18) hx hb hts hinX0 hown hK hP 0 rfl rfl 12 (by decide) hL76 (fun _ h9 => h9) rfl dX0_chosenOrder_45 ?_
            refine lv_isub hx hb dX0_chosenOrder_48 ?_
            refine va_mabs hx hb (hl.1 ▸ hml) hown (hts (.methodLink RX0 171 Lib.Math.abs.name) (by decide +kernel)) (hts (.static Lib.Math.abs.name) (by decide +kernel)) (hts (.initialized "java/lang/Math") (by decide +kernel)) (hts (.code Lib.Math.abs.name Lib.Math.abs.code 1 (some .int)) (by decide +kernel)) (Nat.le_of_ble_eq_true rfl) (Nat.le_of_ble_eq_true rfl) (Nat.zero_le _) (Nat.zero_le _) dX0_chosenOrder_49 ?_
            refine lv_istore (lv' := [(4, .int (if 0 ≤ (r_41 - (D 23 0)) then (r_41 - (D 23 0)) else 0 - (r_41 - (D 23 0)))), (3, .int x3_3), (2, .int x2_4), (1, .int x1_5), (0, .ref (q 0))]) hx hb dX0_chosenOrder_52 hl (by decide) rfl (fun ls hl => ?_)
            refine lv_goto (tgt := 97) hx hb dX0_chosenOrder_54 (by decide) ?_
            refine lv_iload_n hx hb dX0_chosenOrder_97 rfl (lv_at hl 3 rfl) ?_
            refine lv_iconst (v := (-1)) hx hb dX0_chosenOrder_98 (by decide) ?_
            refine lv_icmp_eq (tgt := 108) hx hb dX0_chosenOrder_99 (by decide) (fun c_42 => ?_) (fun c_42 => ?_)
            · have h := h.1 c_42
              refine lv_iload_n hx hb dX0_chosenOrder_108 rfl (lv_at hl 1 rfl) ?_
              refine lv_istore_n (lv' := [(1, .int x3_3), (4, .int (if 0 ≤ (r_41 - (D 23 0)) then (r_41 - (D 23 0)) else 0 - (r_41 - (D 23 0)))), (3, .int x3_3), (2, .int x2_4), (0, .ref (q 0))]) hx hb dX0_chosenOrder_109 rfl hl (by decide) rfl (fun ls hl => ?_)
              refine lv_iload hx hb dX0_chosenOrder_110 (lv_at hl 1 rfl) ?_
              refine lv_istore_n (lv' := [(2, .int (if 0 ≤ (r_41 - (D 23 0)) then (r_41 - (D 23 0)) else 0 - (r_41 - (D 23 0)))), (1, .int x3_3), (4, .int (if 0 ≤ (r_41 - (D 23 0)) then (r_41 - (D 23 0)) else 0 - (r_41 - (D 23 0)))), (3, .int x3_3), (0, .ref (q 0))]) hx hb dX0_chosenOrder_112 rfl hl (by decide) rfl (fun ls hl => ?_)
              refine lv_iinc (v := x3_3 + 1) (lv' := [(3, .int (x3_3 + 1)), (2, .int (if 0 ≤ (r_41 - (D 23 0)) then (r_41 - (D 23 0)) else 0 - (r_41 - (D 23 0)))), (1, .int x3_3), (4, .int (if 0 ≤ (r_41 - (D 23 0)) then (r_41 - (D 23 0)) else 0 - (r_41 - (D 23 0)))), (0, .ref (q 0))]) hx hb dX0_chosenOrder_113 hl (k := 3) rfl rfl (by decide) rfl (fun ls hl => ?_)
              refine lv_goto (tgt := 6) hx hb dX0_chosenOrder_116 (by decide) ?_
              obtain ⟨n_43, lt_44, h_45⟩ := h
              exact ih_6 n_43 lt_44 _ _ _ h_45 _ _ _ hP hD hS (lv_sub hl [0, 1, 2, 4] rfl)
            · have h := h.2 c_42
              refine lv_iload hx hb dX0_chosenOrder_102 (lv_at hl 0 rfl) ?_
              refine lv_iload_n hx hb dX0_chosenOrder_104 rfl (lv_at hl 2 rfl) ?_
              refine lv_icmp_ge (tgt := 113) hx hb dX0_chosenOrder_105 (by decide) (fun c_46 => ?_) (fun c_46 => ?_)
              · have h := h.1 c_46
                refine lv_iinc (v := x3_3 + 1) (lv' := [(3, .int (x3_3 + 1)), (4, .int (if 0 ≤ (r_41 - (D 23 0)) then (r_41 - (D 23 0)) else 0 - (r_41 - (D 23 0)))), (2, .int x2_4), (1, .int x1_5), (0, .ref (q 0))]) hx hb dX0_chosenOrder_113 hl (k := 1) rfl rfl (by decide) rfl (fun ls hl => ?_)
                refine lv_goto (tgt := 6) hx hb dX0_chosenOrder_116 (by decide) ?_
                obtain ⟨n_47, lt_48, h_49⟩ := h
                exact ih_6 n_47 lt_48 _ _ _ h_49 _ _ _ hP hD hS (lv_sub hl [0, 2, 3, 4] rfl)
              · have h := h.2 c_46
                refine lv_iload_n hx hb dX0_chosenOrder_108 rfl (lv_at hl 1 rfl) ?_
                refine lv_istore_n (lv' := [(1, .int x3_3), (4, .int (if 0 ≤ (r_41 - (D 23 0)) then (r_41 - (D 23 0)) else 0 - (r_41 - (D 23 0)))), (3, .int x3_3), (2, .int x2_4), (0, .ref (q 0))]) hx hb dX0_chosenOrder_109 rfl hl (by decide) rfl (fun ls hl => ?_)
                refine lv_iload hx hb dX0_chosenOrder_110 (lv_at hl 1 rfl) ?_
                refine lv_istore_n (lv' := [(2, .int (if 0 ≤ (r_41 - (D 23 0)) then (r_41 - (D 23 0)) else 0 - (r_41 - (D 23 0)))), (1, .int x3_3), (4, .int (if 0 ≤ (r_41 - (D 23 0)) then (r_41 - (D 23 0)) else 0 - (r_41 - (D 23 0)))), (3, .int x3_3), (0, .ref (q 0))]) hx hb dX0_chosenOrder_112 rfl hl (by decide) rfl (fun ls hl => ?_)
                refine lv_iinc (v := x3_3 + 1) (lv' := [(3, .int (x3_3 + 1)), (2, .int (if 0 ≤ (r_41 - (D 23 0)) then (r_41 - (D 23 0)) else 0 - (r_41 - (D 23 0)))), (1, .int x3_3), (4, .int (if 0 ≤ (r_41 - (D 23 0)) then (r_41 - (D 23 0)) else 0 - (r_41 - (D 23 0)))), (0, .ref (q 0))]) hx hb dX0_chosenOrder_113 hl (k := 3) rfl rfl (by decide) rfl (fun ls hl => ?_)
                refine lv_goto (tgt := 6) hx hb dX0_chosenOrder_116 (by decide) ?_
                obtain ⟨n_50, lt_51, h_52⟩ := h
                exact ih_6 n_50 lt_51 _ _ _ h_52 _ _ _ hP hD hS (lv_sub hl [0, 1, 2, 4] rfl)
  exact lp_10 _ _ _ _ h_8 _ _ _ hP hD hS hl
def q_X0_endTaskIfDone (D : St) (Q : St → Prop) : Prop :=
  q_X0_hasTask D (fun r_1 => (r_1 = 0 → Q D) ∧ (¬ (r_1 = 0) → q_X1_opening (D 24 0) D (fun r_3 => (r_3 = (D 25 0) → Q (uA (uA D 24 (fun _ => (-1))) 27 (fun _ => ((D 27 0) + 1)))) ∧ (¬ (r_3 = (D 25 0)) → Q D))))
set_option maxHeartbeats 4000000 in
set_option maxRecDepth 100000 in
theorem c_X0_endTaskIfDone (l : Launch) (G : va_G) (cI cC cD : ClassId) (q : Nat → Nat) (sz : Nat) (D : St)  (Q : St → Prop) (h : q_X0_endTaskIfDone  D Q) : Met l yX0_endTaskIfDone wsX0_endTaskIfDone ({ frames := 1, cells := 0, slots := 0, locals := 21 }) (va_Pc [.ref (q 0)] (PW G (ty3 cI cC cD) (wD cI q D) sz)) (va_Qv Q (BW G (fun u : St => (wD cI q u)) (va_A (wD cI q D) sz)) (va_A (wD cI q D) sz)) 0 0 (va_A (wD cI q D) sz) := by
  refine Met.ofW (cc := cX0_endTaskIfDone) (maxL := 1) (ret := none) (by decide) rfl ?_
  intro p e s m args below meth c s₁ B hml hv
  obtain ⟨rfl, hsz, hP, hK, hD0, hN⟩ := hv
  have hx := B.exec
  have hb := B.bytes
  have hr := B.returns
  have hts := atoms_spec (ws := wsX0_endTaskIfDone) B.pre
  have hown : s.vm.findClass RX0 = some m.cls := findClass_of_methodNamed B.named
  have hlocks := B.notSynchronized
  subst hsz
  have hD := hD0.self (sz := s.heap.size)
  generalize hAe : va_A (wD cI q D) s.heap.size = A at hD ⊢
  have hA : ∀ q : Nat, s.heap.size ≤ q → A q := fun q h => by rw [← hAe]; exact Or.inr h
  have hS : va_S A s.heap s.heap [] := va_S.rf
  have hl := lv_entry ([.ref (q 0)]) (n := 1) (Nat.le_of_ble_eq_true rfl)
  rw [lg_entry_eq]
  generalize (lg_sl ([.ref (q 0)]) ++ List.replicate (1 - (lg_sl ([.ref (q 0)])).length) Slot.unset).toArray = ls at hl ⊢
  have hl : lv_has ls 1 [(0, .ref (q 0))] := hl
  have hinX0 : ∀ w ∈ wsX00, w ∈ wsX0_endTaskIfDone := by decide +kernel
  have hL12 := hts (.fieldLink RX0 12 "CraneGates$Dam" "gates" "LCraneGates$Gates;") (by decide +kernel)
  have hL38 := hts (.fieldLink RX0 38 "CraneGates$Dam" "taskGate" "I") (by decide +kernel)
  have hL79 := hts (.fieldLink RX0 79 "CraneGates$Dam" "taskOpening" "I") (by decide +kernel)
  have hL85 := hts (.fieldLink RX0 85 "CraneGates$Dam" "tasksDone" "I") (by decide +kernel)
  unfold q_X0_endTaskIfDone at h
  refine lv_aload_n hx hb dX0_endTaskIfDone_0 rfl (lv_at hl 0 rfl) ?_
  refine kc_i (As := []) (rest := []) (wg := (fun _ => (wD cI q D))) ⟨hx, hb, hml, hown, hts⟩ (c_X0_hasTask l G cI cC cD q _ D  _ h) (cwV 0 hts gX0_endTaskIfDone_X0_hasTask rfl rfl rfl (by decide +kernel) ⟨Nat.le_of_ble_eq_true rfl, Nat.le_of_ble_eq_true rfl⟩) hK hN hP hD hS hA (em_DD cI q D) (fun _ => rp_self (em_DD cI q D)) rfl rfl rfl rfl hl.1 rfl (Nat.le_of_ble_eq_true rfl) dX0_endTaskIfDone_1 ⟨Nat.zero_le _, Nat.zero_le _⟩ (fun r_1 _ H locs h hP hD hS => ?_)
  refine lv_if_eq (tgt := 40) hx hb dX0_endTaskIfDone_4 (by decide) (fun c_2 => ?_) (fun c_2 => ?_)
  · have h := h.1 c_2
    exact W.vret hx hb hr (fun t ht hW => ⟨⟨D, rfl, h, by rw [ht]; exact hP, hD⟩, hS.F ht⟩) hS.2.2 dX0_endTaskIfDone_40
  · have h := h.2 c_2
    refine lv_aload_n hx hb dX0_endTaskIfDone_7 rfl (lv_at hl 0 rfl) ?_
    refine va_get (D := G) (ci := 0) (v := .ref (q 1)) (C := RX0) (T := TX0) (N := 18) hx hb hts hinX0 hown hK hP 0 rfl rfl 0 (by decide) hL12 (fun _ h9 => h9) rfl dX0_endTaskIfDone_8 ?_
    refine lv_aload_n hx hb dX0_endTaskIfDone_11 rfl (lv_at hl 0 rfl) ?_
    refine va_get (D := G) (ci := 0) (v := .int (D 24 0)) (C := RX0) (T := TX0) (N := 18) hx hb hts hinX0 hown hK hP 0 rfl rfl 13 (by decide) hL38 (fun _ h9 => h9) rfl dX0_endTaskIfDone_12 ?_
    refine kc_i (As := [.int (D 24 0)]) (rest := []) (wg := (fun _ => (wD cI q D))) ⟨hx, hb, hml, hown, hts⟩ (c_X1_opening l G cI cC cD (q 1) (q 2) (q 3) (q 4) (q 5) (q 6) _ D (D 24 0) _ h) (cwV 1 hts gX0_endTaskIfDone_X1_opening rfl rfl rfl (by decide +kernel) ⟨Nat.le_of_ble_eq_true rfl, Nat.le_of_ble_eq_true rfl⟩) hK hN hP hD hS hA (em_DG cI q D) (fun _ => rp_self (em_DG cI q D)) rfl rfl rfl rfl hl.1 rfl (Nat.le_of_ble_eq_true rfl) dX0_endTaskIfDone_15 ⟨Nat.zero_le _, Nat.zero_le _⟩ (fun r_3 _ H locs h hP hD hS => ?_)
    refine lv_aload_n hx hb dX0_endTaskIfDone_18 rfl (lv_at hl 0 rfl) ?_
    refine va_get (D := G) (ci := 0) (v := .int (D 25 0)) (C := RX0) (T := TX0) (N := 18) hx hb hts hinX0 hown hK hP 0 rfl rfl 14 (by decide) hL79 (fun _ h9 => h9) rfl dX0_endTaskIfDone_19 ?_
    refine lv_icmp_ne (tgt := 40) hx hb dX0_endTaskIfDone_22 (by decide) (fun c_4 => ?_) (fun c_4 => ?_)
    · have h := h.2 c_4
      exact W.vret hx hb hr (fun t ht hW => ⟨⟨D, rfl, h, by rw [ht]; exact hP, hD⟩, hS.F ht⟩) hS.2.2 dX0_endTaskIfDone_40
    · have h := h.1 c_4
      refine lv_aload_n hx hb dX0_endTaskIfDone_25 rfl (lv_at hl 0 rfl) ?_
      refine lv_iconst (v := (-1)) hx hb dX0_endTaskIfDone_26 (by decide) ?_
      refine va_put (D := G) (ci := 0) (v := .int (-1)) (ty := .int) (C := RX0) (T := TX0) (N := 18) hx hb hts hinX0 tyX0 tyX0_ok nmX0 hown hK hP hD hS 0 rfl rfl 13 (by decide) hL38 (fun _ h9 => h9) rfl (by decide +kernel) rfl rfl (Nat.le_of_ble_eq_true rfl) dX0_endTaskIfDone_27 (fun H locs hP hD hS => ?_)
      have hP : va_P G vwCl (wD cI q (uA D 24 (fun _ => (-1)))) H := hP
      have hD : va_D A (wD cI q (uA D 24 (fun _ => (-1)))) := hD
      refine lv_aload_n hx hb dX0_endTaskIfDone_30 rfl (lv_at hl 0 rfl) ?_
      refine lv_dup hx hb dX0_endTaskIfDone_31 rfl ?_
      refine va_get (D := G) (ci := 0) (v := .int (D 27 0)) (C := RX0) (T := TX0) (N := 18) hx hb hts hinX0 hown hK hP 0 rfl rfl 16 (by decide) hL85 (fun _ h9 => h9) rfl dX0_endTaskIfDone_32 ?_
      refine lv_iconst (v := 1) hx hb dX0_endTaskIfDone_35 (by decide) ?_
      refine lv_iadd hx hb dX0_endTaskIfDone_36 ?_
      refine va_put (D := G) (ci := 0) (v := .int ((D 27 0) + 1)) (ty := .int) (C := RX0) (T := TX0) (N := 18) hx hb hts hinX0 tyX0 tyX0_ok nmX0 hown hK hP hD hS 0 rfl rfl 16 (by decide) hL85 (fun _ h9 => h9) rfl (by decide +kernel) rfl rfl (Nat.le_of_ble_eq_true rfl) dX0_endTaskIfDone_37 (fun H locs hP hD hS => ?_)
      have hP : va_P G vwCl (wD cI q (uA (uA D 24 (fun _ => (-1))) 27 (fun _ => ((D 27 0) + 1)))) H := hP
      have hD : va_D A (wD cI q (uA (uA D 24 (fun _ => (-1))) 27 (fun _ => ((D 27 0) + 1)))) := hD
      exact W.vret hx hb hr (fun t ht hW => ⟨⟨(uA (uA D 24 (fun _ => (-1))) 27 (fun _ => ((D 27 0) + 1))), rfl, h, by rw [ht]; exact hP, hD⟩, hS.F ht⟩) hS.2.2 dX0_endTaskIfDone_40
