def q_X1_copyFrom (T : St) (E : St) (Q : St → Prop) : Prop :=
  Q (uA (uA (uA (uA (uA (uA T 5 (fun _ => (E 5 0))) 0 (va_cpy (E 0) (T 0) 0 0 8)) 1 (va_cpy (E 1) (T 1) 0 0 8)) 2 (va_cpy (E 2) (T 2) 0 0 8)) 3 (va_cpy (E 3) (T 3) 0 0 8)) 4 (va_cpy (E 4) (T 4) 0 0 8))
set_option maxHeartbeats 4000000 in
set_option maxRecDepth 100000 in
theorem c_X1_copyFrom (l : Launch) (G : va_G) (cI cC cD : ClassId) (k0 k1 k2 k3 k4 k5 : Nat) (k0' k1' k2' k3' k4' k5' : Nat) (sz : Nat) (T : St) (E : St)  (Q : St → Prop) (h : q_X1_copyFrom  T E Q) : Met l yX1_copyFrom wsX1_copyFrom ({ frames := 1, cells := 0, slots := 0, locals := 40 }) (va_Pc [.ref k0, .ref (k0')] (PW G (ty3 cI cC cD) (wG cI k0 k1 k2 k3 k4 k5 T ++ wG cI k0' k1' k2' k3' k4' k5' E) sz)) (va_Qv Q (BW G (fun u : St => (wG cI k0 k1 k2 k3 k4 k5 u ++ wG cI k0' k1' k2' k3' k4' k5' E)) (va_A (wG cI k0 k1 k2 k3 k4 k5 T ++ wG cI k0' k1' k2' k3' k4' k5' E) sz)) (va_A (wG cI k0 k1 k2 k3 k4 k5 T ++ wG cI k0' k1' k2' k3' k4' k5' E) sz)) 0 0 (va_A (wG cI k0 k1 k2 k3 k4 k5 T ++ wG cI k0' k1' k2' k3' k4' k5' E) sz) := by
  refine Met.ofW (cc := cX1_copyFrom) (maxL := 2) (ret := none) (by decide) rfl ?_
  intro p e s m args below meth c s₁ B hml hv
  obtain ⟨rfl, hsz, hP, hK, hD0, hN⟩ := hv
  have hx := B.exec
  have hb := B.bytes
  have hr := B.returns
  have hts := atoms_spec (ws := wsX1_copyFrom) B.pre
  have hown : s.vm.findClass RX1 = some m.cls := findClass_of_methodNamed B.named
  have hlocks := B.notSynchronized
  subst hsz
  have hD := hD0.self (sz := s.heap.size)
  generalize hAe : va_A (wG cI k0 k1 k2 k3 k4 k5 T ++ wG cI k0' k1' k2' k3' k4' k5' E) s.heap.size = A at hD ⊢
  have hA : ∀ q : Nat, s.heap.size ≤ q → A q := fun q h => by rw [← hAe]; exact Or.inr h
  have hS : va_S A s.heap s.heap [] := va_S.rf
  have hl := lv_entry ([.ref k0, .ref (k0')]) (n := 2) (Nat.le_of_ble_eq_true rfl)
  rw [lg_entry_eq]
  generalize (lg_sl ([.ref k0, .ref (k0')]) ++ List.replicate (2 - (lg_sl ([.ref k0, .ref (k0')])).length) Slot.unset).toArray = ls at hl ⊢
  have hl : lv_has ls 2 [(0, .ref k0), (1, .ref (k0'))] := hl
  have hinX1 : ∀ w ∈ wsX10, w ∈ wsX1_copyFrom := by decide +kernel
  have hL9 := hts (.fieldLink RX1 9 "CraneGates$Gates" "kinds" "[I") (by decide +kernel)
  have hL15 := hts (.fieldLink RX1 15 "CraneGates$Gates" "widths" "[I") (by decide +kernel)
  have hL18 := hts (.fieldLink RX1 18 "CraneGates$Gates" "openings" "[I") (by decide +kernel)
  have hL21 := hts (.fieldLink RX1 21 "CraneGates$Gates" "waterOut" "[I") (by decide +kernel)
  have hL24 := hts (.fieldLink RX1 24 "CraneGates$Gates" "moves" "[I") (by decide +kernel)
  have hL27 := hts (.fieldLink RX1 27 "CraneGates$Gates" "size" "I") (by decide +kernel)
  unfold q_X1_copyFrom at h
  refine lv_aload_n hx hb dX1_copyFrom_0 rfl (lv_at hl 0 rfl) ?_
  refine lv_aload_n hx hb dX1_copyFrom_1 rfl (lv_at hl 1 rfl) ?_
  refine va_get (D := G) (ci := 1) (v := .int (E 5 0)) (C := RX1) (T := TX1) (N := 6) hx hb hts hinX1 hown hK hP 6 rfl rfl 5 (by decide) hL27 (fun _ h9 => h9) rfl dX1_copyFrom_2 ?_
  refine va_put (D := G) (ci := 1) (v := .int (E 5 0)) (ty := .int) (C := RX1) (T := TX1) (N := 6) hx hb hts hinX1 tyX1 tyX1_ok nmX1 hown hK hP hD hS 0 rfl rfl 5 (by decide) hL27 (fun _ h9 => h9) rfl (by decide +kernel) rfl rfl (Nat.le_of_ble_eq_true rfl) dX1_copyFrom_5 (fun H locs hP hD hS => ?_)
  have hP : va_P G vwCl (wG cI k0 k1 k2 k3 k4 k5 (uA T 5 (fun _ => (E 5 0))) ++ wG cI k0' k1' k2' k3' k4' k5' E) H := hP
  have hD : va_D A (wG cI k0 k1 k2 k3 k4 k5 (uA T 5 (fun _ => (E 5 0))) ++ wG cI k0' k1' k2' k3' k4' k5' E) := hD
  refine lv_aload_n hx hb dX1_copyFrom_8 rfl (lv_at hl 1 rfl) ?_
  refine va_get (D := G) (ci := 1) (v := .ref (k1')) (C := RX1) (T := TX1) (N := 6) hx hb hts hinX1 hown hK hP 6 rfl rfl 0 (by decide) hL9 (fun _ h9 => h9) rfl dX1_copyFrom_9 ?_
  refine lv_iconst (v := 0) hx hb dX1_copyFrom_12 (by decide) ?_
  refine lv_aload_n hx hb dX1_copyFrom_13 rfl (lv_at hl 0 rfl) ?_
  refine va_get (D := G) (ci := 1) (v := .ref k1) (C := RX1) (T := TX1) (N := 6) hx hb hts hinX1 hown hK hP 0 rfl rfl 0 (by decide) hL9 (fun _ h9 => h9) rfl dX1_copyFrom_14 ?_
  refine lv_iconst (v := 0) hx hb dX1_copyFrom_17 (by decide) ?_
  refine lv_bipush (v := 8) hx hb dX1_copyFrom_18 (by decide) ?_
  refine va_copyi (f := (E 0)) (g := (T 0)) (ty := .int) hx hb (hl.1 ▸ hml) hown (hts (.methodLink RX1 31 arraycopyName) (by decide +kernel)) (hts (.native arraycopyName) (by decide +kernel)) (hts (.static arraycopyName) (by decide +kernel)) (hts (.initialized "java/lang/System") (by decide +kernel)) hK hP hD hS 7 1 0 0 rfl rfl rfl rfl rfl (by decide) (by decide) (by decide) (by decide) (by decide) (fun i _ => rfl) (Nat.le_of_ble_eq_true rfl) (Nat.le_of_ble_eq_true rfl) dX1_copyFrom_20 (fun H locs hP hD hS => ?_)
  have hP : va_P G vwCl (wG cI k0 k1 k2 k3 k4 k5 (uA (uA T 5 (fun _ => (E 5 0))) 0 (va_cpy (E 0) (T 0) 0 0 8)) ++ wG cI k0' k1' k2' k3' k4' k5' E) H := hP
  have hD : va_D A (wG cI k0 k1 k2 k3 k4 k5 (uA (uA T 5 (fun _ => (E 5 0))) 0 (va_cpy (E 0) (T 0) 0 0 8)) ++ wG cI k0' k1' k2' k3' k4' k5' E) := hD
  refine lv_aload_n hx hb dX1_copyFrom_23 rfl (lv_at hl 1 rfl) ?_
  refine va_get (D := G) (ci := 1) (v := .ref (k2')) (C := RX1) (T := TX1) (N := 6) hx hb hts hinX1 hown hK hP 6 rfl rfl 1 (by decide) hL15 (fun _ h9 => h9) rfl dX1_copyFrom_24 ?_
  refine lv_iconst (v := 0) hx hb dX1_copyFrom_27 (by decide) ?_
  refine lv_aload_n hx hb dX1_copyFrom_28 rfl (lv_at hl 0 rfl) ?_
  refine va_get (D := G) (ci := 1) (v := .ref k2) (C := RX1) (T := TX1) (N := 6) hx hb hts hinX1 hown hK hP 0 rfl rfl 1 (by decide) hL15 (fun _ h9 => h9) rfl dX1_copyFrom_29 ?_
  refine lv_iconst (v := 0) hx hb dX1_copyFrom_32 (by decide) ?_
  refine lv_bipush (v := 8) hx hb dX1_copyFrom_33 (by decide) ?_
  refine va_copyi (f := (E 1)) (g := (T 1)) (ty := .int) hx hb (hl.1 ▸ hml) hown (hts (.methodLink RX1 31 arraycopyName) (by decide +kernel)) (hts (.native arraycopyName) (by decide +kernel)) (hts (.static arraycopyName) (by decide +kernel)) (hts (.initialized "java/lang/System") (by decide +kernel)) hK hP hD hS 8 2 0 0 rfl rfl rfl rfl rfl (by decide) (by decide) (by decide) (by decide) (by decide) (fun i _ => rfl) (Nat.le_of_ble_eq_true rfl) (Nat.le_of_ble_eq_true rfl) dX1_copyFrom_35 (fun H locs hP hD hS => ?_)
  have hP : va_P G vwCl (wG cI k0 k1 k2 k3 k4 k5 (uA (uA (uA T 5 (fun _ => (E 5 0))) 0 (va_cpy (E 0) (T 0) 0 0 8)) 1 (va_cpy (E 1) (T 1) 0 0 8)) ++ wG cI k0' k1' k2' k3' k4' k5' E) H := hP
  have hD : va_D A (wG cI k0 k1 k2 k3 k4 k5 (uA (uA (uA T 5 (fun _ => (E 5 0))) 0 (va_cpy (E 0) (T 0) 0 0 8)) 1 (va_cpy (E 1) (T 1) 0 0 8)) ++ wG cI k0' k1' k2' k3' k4' k5' E) := hD
  refine lv_aload_n hx hb dX1_copyFrom_38 rfl (lv_at hl 1 rfl) ?_
  refine va_get (D := G) (ci := 1) (v := .ref (k3')) (C := RX1) (T := TX1) (N := 6) hx hb hts hinX1 hown hK hP 6 rfl rfl 2 (by decide) hL18 (fun _ h9 => h9) rfl dX1_copyFrom_39 ?_
  refine lv_iconst (v := 0) hx hb dX1_copyFrom_42 (by decide) ?_
  refine lv_aload_n hx hb dX1_copyFrom_43 rfl (lv_at hl 0 rfl) ?_
  refine va_get (D := G) (ci := 1) (v := .ref k3) (C := RX1) (T := TX1) (N := 6) hx hb hts hinX1 hown hK hP 0 rfl rfl 2 (by decide) hL18 (fun _ h9 => h9) rfl dX1_copyFrom_44 ?_
  refine lv_iconst (v := 0) hx hb dX1_copyFrom_47 (by decide) ?_
  refine lv_bipush (v := 8) hx hb dX1_copyFrom_48 (by decide) ?_
  refine va_copyi (f := (E 2)) (g := (T 2)) (ty := .int) hx hb (hl.1 ▸ hml) hown (hts (.methodLink RX1 31 arraycopyName) (by decide +kernel)) (hts (.native arraycopyName) (by decide +kernel)) (hts (.static arraycopyName) (by decide +kernel)) (hts (.initialized "java/lang/System") (by decide +kernel)) hK hP hD hS 9 3 0 0 rfl rfl rfl rfl rfl (by decide) (by decide) (by decide) (by decide) (by decide) (fun i _ => rfl) (Nat.le_of_ble_eq_true rfl) (Nat.le_of_ble_eq_true rfl) dX1_copyFrom_50 (fun H locs hP hD hS => ?_)
  have hP : va_P G vwCl (wG cI k0 k1 k2 k3 k4 k5 (uA (uA (uA (uA T 5 (fun _ => (E 5 0))) 0 (va_cpy (E 0) (T 0) 0 0 8)) 1 (va_cpy (E 1) (T 1) 0 0 8)) 2 (va_cpy (E 2) (T 2) 0 0 8)) ++ wG cI k0' k1' k2' k3' k4' k5' E) H := hP
  have hD : va_D A (wG cI k0 k1 k2 k3 k4 k5 (uA (uA (uA (uA T 5 (fun _ => (E 5 0))) 0 (va_cpy (E 0) (T 0) 0 0 8)) 1 (va_cpy (E 1) (T 1) 0 0 8)) 2 (va_cpy (E 2) (T 2) 0 0 8)) ++ wG cI k0' k1' k2' k3' k4' k5' E) := hD
  refine lv_aload_n hx hb dX1_copyFrom_53 rfl (lv_at hl 1 rfl) ?_
  refine va_get (D := G) (ci := 1) (v := .ref (k4')) (C := RX1) (T := TX1) (N := 6) hx hb hts hinX1 hown hK hP 6 rfl rfl 3 (by decide) hL21 (fun _ h9 => h9) rfl dX1_copyFrom_54 ?_
  refine lv_iconst (v := 0) hx hb dX1_copyFrom_57 (by decide) ?_
  refine lv_aload_n hx hb dX1_copyFrom_58 rfl (lv_at hl 0 rfl) ?_
  refine va_get (D := G) (ci := 1) (v := .ref k4) (C := RX1) (T := TX1) (N := 6) hx hb hts hinX1 hown hK hP 0 rfl rfl 3 (by decide) hL21 (fun _ h9 => h9) rfl dX1_copyFrom_59 ?_
  refine lv_iconst (v := 0) hx hb dX1_copyFrom_62 (by decide) ?_
  refine lv_bipush (v := 8) hx hb dX1_copyFrom_63 (by decide) ?_
  refine va_copyi (f := (E 3)) (g := (T 3)) (ty := .int) hx hb (hl.1 ▸ hml) hown (hts (.methodLink RX1 31 arraycopyName) (by decide +kernel)) (hts (.native arraycopyName) (by decide +kernel)) (hts (.static arraycopyName) (by decide +kernel)) (hts (.initialized "java/lang/System") (by decide +kernel)) hK hP hD hS 10 4 0 0 rfl rfl rfl rfl rfl (by decide) (by decide) (by decide) (by decide) (by decide) (fun i _ => rfl) (Nat.le_of_ble_eq_true rfl) (Nat.le_of_ble_eq_true rfl) dX1_copyFrom_65 (fun H locs hP hD hS => ?_)
  have hP : va_P G vwCl (wG cI k0 k1 k2 k3 k4 k5 (uA (uA (uA (uA (uA T 5 (fun _ => (E 5 0))) 0 (va_cpy (E 0) (T 0) 0 0 8)) 1 (va_cpy (E 1) (T 1) 0 0 8)) 2 (va_cpy (E 2) (T 2) 0 0 8)) 3 (va_cpy (E 3) (T 3) 0 0 8)) ++ wG cI k0' k1' k2' k3' k4' k5' E) H := hP
  have hD : va_D A (wG cI k0 k1 k2 k3 k4 k5 (uA (uA (uA (uA (uA T 5 (fun _ => (E 5 0))) 0 (va_cpy (E 0) (T 0) 0 0 8)) 1 (va_cpy (E 1) (T 1) 0 0 8)) 2 (va_cpy (E 2) (T 2) 0 0 8)) 3 (va_cpy (E 3) (T 3) 0 0 8)) ++ wG cI k0' k1' k2' k3' k4' k5' E) := hD
  refine lv_aload_n hx hb dX1_copyFrom_68 rfl (lv_at hl 1 rfl) ?_
  refine va_get (D := G) (ci := 1) (v := .ref (k5')) (C := RX1) (T := TX1) (N := 6) hx hb hts hinX1 hown hK hP 6 rfl rfl 4 (by decide) hL24 (fun _ h9 => h9) rfl dX1_copyFrom_69 ?_
  refine lv_iconst (v := 0) hx hb dX1_copyFrom_72 (by decide) ?_
  refine lv_aload_n hx hb dX1_copyFrom_73 rfl (lv_at hl 0 rfl) ?_
  refine va_get (D := G) (ci := 1) (v := .ref k5) (C := RX1) (T := TX1) (N := 6) hx hb hts hinX1 hown hK hP 0 rfl rfl 4 (by decide) hL24 (fun _ h9 => h9) rfl dX1_copyFrom_74 ?_
  refine lv_iconst (v := 0) hx hb dX1_copyFrom_77 (by decide) ?_
  refine lv_bipush (v := 8) hx hb dX1_copyFrom_78 (by decide) ?_
  refine va_copyi (f := (E 4)) (g := (T 4)) (ty := .int) hx hb (hl.1 ▸ hml) hown (hts (.methodLink RX1 31 arraycopyName) (by decide +kernel)) (hts (.native arraycopyName) (by decide +kernel)) (hts (.static arraycopyName) (by decide +kernel)) (hts (.initialized "java/lang/System") (by decide +kernel)) hK hP hD hS 11 5 0 0 rfl rfl rfl rfl rfl (by decide) (by decide) (by decide) (by decide) (by decide) (fun i _ => rfl) (Nat.le_of_ble_eq_true rfl) (Nat.le_of_ble_eq_true rfl) dX1_copyFrom_80 (fun H locs hP hD hS => ?_)
  have hP : va_P G vwCl (wG cI k0 k1 k2 k3 k4 k5 (uA (uA (uA (uA (uA (uA T 5 (fun _ => (E 5 0))) 0 (va_cpy (E 0) (T 0) 0 0 8)) 1 (va_cpy (E 1) (T 1) 0 0 8)) 2 (va_cpy (E 2) (T 2) 0 0 8)) 3 (va_cpy (E 3) (T 3) 0 0 8)) 4 (va_cpy (E 4) (T 4) 0 0 8)) ++ wG cI k0' k1' k2' k3' k4' k5' E) H := hP
  have hD : va_D A (wG cI k0 k1 k2 k3 k4 k5 (uA (uA (uA (uA (uA (uA T 5 (fun _ => (E 5 0))) 0 (va_cpy (E 0) (T 0) 0 0 8)) 1 (va_cpy (E 1) (T 1) 0 0 8)) 2 (va_cpy (E 2) (T 2) 0 0 8)) 3 (va_cpy (E 3) (T 3) 0 0 8)) 4 (va_cpy (E 4) (T 4) 0 0 8)) ++ wG cI k0' k1' k2' k3' k4' k5' E) := hD
  exact W.vret hx hb hr (fun t ht hW => ⟨⟨(uA (uA (uA (uA (uA (uA T 5 (fun _ => (E 5 0))) 0 (va_cpy (E 0) (T 0) 0 0 8)) 1 (va_cpy (E 1) (T 1) 0 0 8)) 2 (va_cpy (E 2) (T 2) 0 0 8)) 3 (va_cpy (E 3) (T 3) 0 0 8)) 4 (va_cpy (E 4) (T 4) 0 0 8)), rfl, h, by rw [ht]; exact hP, hD⟩, hS.F ht⟩) hS.2.2 dX1_copyFrom_83
def q_X1_size (T : St) (Q : Int32 → Prop) : Prop :=
  Q (T 5 0)
set_option maxHeartbeats 4000000 in
set_option maxRecDepth 100000 in
theorem c_X1_size (l : Launch) (G : va_G) (cI cC cD : ClassId) (k0 k1 k2 k3 k4 k5 : Nat) (sz : Nat) (T : St)  (Q : Int32 → Prop) (h : q_X1_size  T Q) : Met l yX1_size wsX1_size ({ frames := 0, cells := 0, slots := 0, locals := 0 }) (va_Pc [.ref k0] (PW G (ty3 cI cC cD) (wG cI k0 k1 k2 k3 k4 k5 T) sz)) (va_Qi (fun (r : Int32) (_ : Unit) => Q r) (BW G (fun _ : Unit => (wG cI k0 k1 k2 k3 k4 k5 T)) (va_A (wG cI k0 k1 k2 k3 k4 k5 T) sz)) (va_A (wG cI k0 k1 k2 k3 k4 k5 T) sz)) 0 0 (va_A (wG cI k0 k1 k2 k3 k4 k5 T) sz) := by
  refine Met.ofW (cc := cX1_size) (maxL := 1) (ret := (some .int)) (by decide) rfl ?_
  intro p e s m args below meth c s₁ B hml hv
  obtain ⟨rfl, hsz, hP, hK, hD0, hN⟩ := hv
  have hx := B.exec
  have hb := B.bytes
  have hr := B.returns
  have hts := atoms_spec (ws := wsX1_size) B.pre
  have hown : s.vm.findClass RX1 = some m.cls := findClass_of_methodNamed B.named
  have hlocks := B.notSynchronized
  subst hsz
  have hD := hD0.self (sz := s.heap.size)
  generalize hAe : va_A (wG cI k0 k1 k2 k3 k4 k5 T) s.heap.size = A at hD ⊢
  have hA : ∀ q : Nat, s.heap.size ≤ q → A q := fun q h => by rw [← hAe]; exact Or.inr h
  have hS : va_S A s.heap s.heap [] := va_S.rf
  have hl := lv_entry ([.ref k0]) (n := 1) (Nat.le_of_ble_eq_true rfl)
  rw [lg_entry_eq]
  generalize (lg_sl ([.ref k0]) ++ List.replicate (1 - (lg_sl ([.ref k0])).length) Slot.unset).toArray = ls at hl ⊢
  have hl : lv_has ls 1 [(0, .ref k0)] := hl
  have hinX1 : ∀ w ∈ wsX10, w ∈ wsX1_size := by decide +kernel
  have hL27 := hts (.fieldLink RX1 27 "CraneGates$Gates" "size" "I") (by decide +kernel)
  unfold q_X1_size at h
  refine lv_aload_n hx hb dX1_size_0 rfl (lv_at hl 0 rfl) ?_
  refine va_get (D := G) (ci := 1) (v := .int (T 5 0)) (C := RX1) (T := TX1) (N := 6) hx hb hts hinX1 hown hK hP 0 rfl rfl 5 (by decide) hL27 (fun _ h9 => h9) rfl dX1_size_1 ?_
  exact W.iret (v := (T 5 0)) hx hb hr (fun t ht hW => ⟨⟨(T 5 0), (), rfl, h, by rw [ht]; exact hP, hD⟩, hS.F ht⟩) hS.2.2 dX1_size_4
def q_X1_has (x : Int32) (T : St) (Q : Int32 → Prop) : Prop :=
  (x < 0 → Q 0) ∧ (¬ (x < 0) → ((T 5 0) ≤ x → Q 0) ∧ (¬ ((T 5 0) ≤ x) → (8 ≤ x → Q 0) ∧ (¬ (8 ≤ x) → Q 1)))
set_option maxHeartbeats 4000000 in
set_option maxRecDepth 100000 in
theorem c_X1_has (l : Launch) (G : va_G) (cI cC cD : ClassId) (k0 k1 k2 k3 k4 k5 : Nat) (sz : Nat) (T : St) (x : Int32) (Q : Int32 → Prop) (h : q_X1_has x T Q) : Met l yX1_has wsX1_has ({ frames := 0, cells := 0, slots := 0, locals := 0 }) (va_Pc [.ref k0, .int x] (PW G (ty3 cI cC cD) (wG cI k0 k1 k2 k3 k4 k5 T) sz)) (va_Qi (fun (r : Int32) (_ : Unit) => Q r) (BW G (fun _ : Unit => (wG cI k0 k1 k2 k3 k4 k5 T)) (va_A (wG cI k0 k1 k2 k3 k4 k5 T) sz)) (va_A (wG cI k0 k1 k2 k3 k4 k5 T) sz)) 0 0 (va_A (wG cI k0 k1 k2 k3 k4 k5 T) sz) := by
  refine Met.ofW (cc := cX1_has) (maxL := 2) (ret := (some .boolean)) (by decide) rfl ?_
  intro p e s m args below meth c s₁ B hml hv
  obtain ⟨rfl, hsz, hP, hK, hD0, hN⟩ := hv
  have hx := B.exec
  have hb := B.bytes
  have hr := B.returns
  have hts := atoms_spec (ws := wsX1_has) B.pre
  have hown : s.vm.findClass RX1 = some m.cls := findClass_of_methodNamed B.named
  have hlocks := B.notSynchronized
  subst hsz
  have hD := hD0.self (sz := s.heap.size)
  generalize hAe : va_A (wG cI k0 k1 k2 k3 k4 k5 T) s.heap.size = A at hD ⊢
  have hA : ∀ q : Nat, s.heap.size ≤ q → A q := fun q h => by rw [← hAe]; exact Or.inr h
  have hS : va_S A s.heap s.heap [] := va_S.rf
  have hl := lv_entry ([.ref k0, .int x]) (n := 2) (Nat.le_of_ble_eq_true rfl)
  rw [lg_entry_eq]
  generalize (lg_sl ([.ref k0, .int x]) ++ List.replicate (2 - (lg_sl ([.ref k0, .int x])).length) Slot.unset).toArray = ls at hl ⊢
  have hl : lv_has ls 2 [(0, .ref k0), (1, .int x)] := hl
  have hinX1 : ∀ w ∈ wsX10, w ∈ wsX1_has := by decide +kernel
  have hL27 := hts (.fieldLink RX1 27 "CraneGates$Gates" "size" "I") (by decide +kernel)
  unfold q_X1_has at h
  refine lv_iload_n hx hb dX1_has_0 rfl (lv_at hl 1 rfl) ?_
  refine lv_if_lt (tgt := 22) hx hb dX1_has_1 (by decide) (fun c_1 => ?_) (fun c_1 => ?_)
  · have h := h.1 c_1
    refine lv_iconst (v := 0) hx hb dX1_has_22 (by decide) ?_
    exact W.zret (v := 0) hx hb hr rfl (fun t ht hW => ⟨⟨0, (), rfl, h, by rw [ht]; exact hP, hD⟩, hS.F ht⟩) hS.2.2 dX1_has_23
  · have h := h.2 c_1
    refine lv_iload_n hx hb dX1_has_4 rfl (lv_at hl 1 rfl) ?_
    refine lv_aload_n hx hb dX1_has_5 rfl (lv_at hl 0 rfl) ?_
    refine va_get (D := G) (ci := 1) (v := .int (T 5 0)) (C := RX1) (T := TX1) (N := 6) hx hb hts hinX1 hown hK hP 0 rfl rfl 5 (by decide) hL27 (fun _ h9 => h9) rfl dX1_has_6 ?_
    refine lv_icmp_ge (tgt := 22) hx hb dX1_has_9 (by decide) (fun c_2 => ?_) (fun c_2 => ?_)
    · have h := h.1 c_2
      refine lv_iconst (v := 0) hx hb dX1_has_22 (by decide) ?_
      exact W.zret (v := 0) hx hb hr rfl (fun t ht hW => ⟨⟨0, (), rfl, h, by rw [ht]; exact hP, hD⟩, hS.F ht⟩) hS.2.2 dX1_has_23
    · have h := h.2 c_2
      refine lv_iload_n hx hb dX1_has_12 rfl (lv_at hl 1 rfl) ?_
      refine lv_bipush (v := 8) hx hb dX1_has_13 (by decide) ?_
      refine lv_icmp_ge (tgt := 22) hx hb dX1_has_15 (by decide) (fun c_3 => ?_) (fun c_3 => ?_)
      · have h := h.1 c_3
        refine lv_iconst (v := 0) hx hb dX1_has_22 (by decide) ?_
        exact W.zret (v := 0) hx hb hr rfl (fun t ht hW => ⟨⟨0, (), rfl, h, by rw [ht]; exact hP, hD⟩, hS.F ht⟩) hS.2.2 dX1_has_23
      · have h := h.2 c_3
        refine lv_iconst (v := 1) hx hb dX1_has_18 (by decide) ?_
        refine lv_goto (tgt := 23) hx hb dX1_has_19 (by decide) ?_
        exact W.zret (v := 1) hx hb hr rfl (fun t ht hW => ⟨⟨1, (), rfl, h, by rw [ht]; exact hP, hD⟩, hS.F ht⟩) hS.2.2 dX1_has_23
def q_X1_isFull (T : St) (Q : Int32 → Prop) : Prop :=
  ((T 5 0) < 8 → Q 0) ∧ (¬ ((T 5 0) < 8) → Q 1)
set_option maxHeartbeats 4000000 in
set_option maxRecDepth 100000 in
theorem c_X1_isFull (l : Launch) (G : va_G) (cI cC cD : ClassId) (k0 k1 k2 k3 k4 k5 : Nat) (sz : Nat) (T : St)  (Q : Int32 → Prop) (h : q_X1_isFull  T Q) : Met l yX1_isFull wsX1_isFull ({ frames := 0, cells := 0, slots := 0, locals := 0 }) (va_Pc [.ref k0] (PW G (ty3 cI cC cD) (wG cI k0 k1 k2 k3 k4 k5 T) sz)) (va_Qi (fun (r : Int32) (_ : Unit) => Q r) (BW G (fun _ : Unit => (wG cI k0 k1 k2 k3 k4 k5 T)) (va_A (wG cI k0 k1 k2 k3 k4 k5 T) sz)) (va_A (wG cI k0 k1 k2 k3 k4 k5 T) sz)) 0 0 (va_A (wG cI k0 k1 k2 k3 k4 k5 T) sz) := by
  refine Met.ofW (cc := cX1_isFull) (maxL := 1) (ret := (some .boolean)) (by decide) rfl ?_
  intro p e s m args below meth c s₁ B hml hv
  obtain ⟨rfl, hsz, hP, hK, hD0, hN⟩ := hv
  have hx := B.exec
  have hb := B.bytes
  have hr := B.returns
  have hts := atoms_spec (ws := wsX1_isFull) B.pre
  have hown : s.vm.findClass RX1 = some m.cls := findClass_of_methodNamed B.named
  have hlocks := B.notSynchronized
  subst hsz
  have hD := hD0.self (sz := s.heap.size)
  generalize hAe : va_A (wG cI k0 k1 k2 k3 k4 k5 T) s.heap.size = A at hD ⊢
  have hA : ∀ q : Nat, s.heap.size ≤ q → A q := fun q h => by rw [← hAe]; exact Or.inr h
  have hS : va_S A s.heap s.heap [] := va_S.rf
  have hl := lv_entry ([.ref k0]) (n := 1) (Nat.le_of_ble_eq_true rfl)
  rw [lg_entry_eq]
  generalize (lg_sl ([.ref k0]) ++ List.replicate (1 - (lg_sl ([.ref k0])).length) Slot.unset).toArray = ls at hl ⊢
  have hl : lv_has ls 1 [(0, .ref k0)] := hl
  have hinX1 : ∀ w ∈ wsX10, w ∈ wsX1_isFull := by decide +kernel
  have hL27 := hts (.fieldLink RX1 27 "CraneGates$Gates" "size" "I") (by decide +kernel)
  unfold q_X1_isFull at h
  refine lv_aload_n hx hb dX1_isFull_0 rfl (lv_at hl 0 rfl) ?_
  refine va_get (D := G) (ci := 1) (v := .int (T 5 0)) (C := RX1) (T := TX1) (N := 6) hx hb hts hinX1 hown hK hP 0 rfl rfl 5 (by decide) hL27 (fun _ h9 => h9) rfl dX1_isFull_1 ?_
  refine lv_bipush (v := 8) hx hb dX1_isFull_4 (by decide) ?_
  refine lv_icmp_lt (tgt := 13) hx hb dX1_isFull_6 (by decide) (fun c_1 => ?_) (fun c_1 => ?_)
  · have h := h.1 c_1
    refine lv_iconst (v := 0) hx hb dX1_isFull_13 (by decide) ?_
    exact W.zret (v := 0) hx hb hr rfl (fun t ht hW => ⟨⟨0, (), rfl, h, by rw [ht]; exact hP, hD⟩, hS.F ht⟩) hS.2.2 dX1_isFull_14
  · have h := h.2 c_1
    refine lv_iconst (v := 1) hx hb dX1_isFull_9 (by decide) ?_
    refine lv_goto (tgt := 14) hx hb dX1_isFull_10 (by decide) ?_
    exact W.zret (v := 1) hx hb hr rfl (fun t ht hW => ⟨⟨1, (), rfl, h, by rw [ht]; exact hP, hD⟩, hS.F ht⟩) hS.2.2 dX1_isFull_14
def q_X1_append (x : Int32) (y : Int32) (T : St) (Q : St → Prop) : Prop :=
  q_X1_isFull T (fun r_1 => (r_1 = 0 → vp_in (T 5 0) 8 ∧ (Q (uA (uA (uA (uA (uA (uA T 0 (upd (T 0) (((T 5 0)).toNatClampNeg) x)) 1 (upd (T 1) (((T 5 0)).toNatClampNeg) y)) 2 (upd (T 2) (((T 5 0)).toNatClampNeg) 0)) 3 (upd (T 3) (((T 5 0)).toNatClampNeg) 0)) 4 (upd (T 4) (((T 5 0)).toNatClampNeg) 0)) 5 (fun _ => ((T 5 0) + 1))))) ∧ (¬ (r_1 = 0) → Q T))
set_option maxHeartbeats 4000000 in
set_option maxRecDepth 100000 in
theorem c_X1_append (l : Launch) (G : va_G) (cI cC cD : ClassId) (k0 k1 k2 k3 k4 k5 : Nat) (sz : Nat) (T : St) (x : Int32) (y : Int32) (Q : St → Prop) (h : q_X1_append x y T Q) : Met l yX1_append wsX1_append ({ frames := 1, cells := 0, slots := 0, locals := 20 }) (va_Pc [.ref k0, .int x, .int y] (PW G (ty3 cI cC cD) (wG cI k0 k1 k2 k3 k4 k5 T) sz)) (va_Qv Q (BW G (fun u : St => (wG cI k0 k1 k2 k3 k4 k5 u)) (va_A (wG cI k0 k1 k2 k3 k4 k5 T) sz)) (va_A (wG cI k0 k1 k2 k3 k4 k5 T) sz)) 0 0 (va_A (wG cI k0 k1 k2 k3 k4 k5 T) sz) := by
  refine Met.ofW (cc := cX1_append) (maxL := 3) (ret := none) (by decide) rfl ?_
  intro p e s m args below meth c s₁ B hml hv
  obtain ⟨rfl, hsz, hP, hK, hD0, hN⟩ := hv
  have hx := B.exec
  have hb := B.bytes
  have hr := B.returns
  have hts := atoms_spec (ws := wsX1_append) B.pre
  have hown : s.vm.findClass RX1 = some m.cls := findClass_of_methodNamed B.named
  have hlocks := B.notSynchronized
  subst hsz
  have hD := hD0.self (sz := s.heap.size)
  generalize hAe : va_A (wG cI k0 k1 k2 k3 k4 k5 T) s.heap.size = A at hD ⊢
  have hA : ∀ q : Nat, s.heap.size ≤ q → A q := fun q h => by rw [← hAe]; exact Or.inr h
  have hS : va_S A s.heap s.heap [] := va_S.rf
  have hl := lv_entry ([.ref k0, .int x, .int y]) (n := 3) (Nat.le_of_ble_eq_true rfl)
  rw [lg_entry_eq]
  generalize (lg_sl ([.ref k0, .int x, .int y]) ++ List.replicate (3 - (lg_sl ([.ref k0, .int x, .int y])).length) Slot.unset).toArray = ls at hl ⊢
  have hl : lv_has ls 3 [(0, .ref k0), (1, .int x), (2, .int y)] := hl
  have hinX1 : ∀ w ∈ wsX10, w ∈ wsX1_append := by decide +kernel
  have hL9 := hts (.fieldLink RX1 9 "CraneGates$Gates" "kinds" "[I") (by decide +kernel)
  have hL15 := hts (.fieldLink RX1 15 "CraneGates$Gates" "widths" "[I") (by decide +kernel)
  have hL18 := hts (.fieldLink RX1 18 "CraneGates$Gates" "openings" "[I") (by decide +kernel)
  have hL21 := hts (.fieldLink RX1 21 "CraneGates$Gates" "waterOut" "[I") (by decide +kernel)
  have hL24 := hts (.fieldLink RX1 24 "CraneGates$Gates" "moves" "[I") (by decide +kernel)
  have hL27 := hts (.fieldLink RX1 27 "CraneGates$Gates" "size" "I") (by decide +kernel)
  unfold q_X1_append at h
  refine lv_aload_n hx hb dX1_append_0 rfl (lv_at hl 0 rfl) ?_
  refine kc_i (As := []) (rest := []) (wg := (fun _ => (wG cI k0 k1 k2 k3 k4 k5 T))) ⟨hx, hb, hml, hown, hts⟩ (c_X1_isFull l G cI cC cD k0 k1 k2 k3 k4 k5 _ T  _ h) (cwV 0 hts gX1_append_X1_isFull rfl rfl rfl (by decide +kernel) ⟨Nat.le_of_ble_eq_true rfl, Nat.le_of_ble_eq_true rfl⟩) hK hN hP hD hS hA (em_GG cI k0 k1 k2 k3 k4 k5 T) (fun _ => rp_self (em_GG cI k0 k1 k2 k3 k4 k5 T)) rfl rfl rfl rfl hl.1 rfl (Nat.le_of_ble_eq_true rfl) dX1_append_1 ⟨Nat.zero_le _, Nat.zero_le _⟩ (fun r_1 _ H locs h hP hD hS => ?_)
  refine lv_if_eq (tgt := 8) hx hb dX1_append_4 (by decide) (fun c_2 => ?_) (fun c_2 => ?_)
  · have h := h.1 c_2
    refine lv_aload_n hx hb dX1_append_8 rfl (lv_at hl 0 rfl) ?_
    refine va_get (D := G) (ci := 1) (v := .ref k1) (C := RX1) (T := TX1) (N := 6) hx hb hts hinX1 hown hK hP 0 rfl rfl 0 (by decide) hL9 (fun _ h9 => h9) rfl dX1_append_9 ?_
    refine lv_aload_n hx hb dX1_append_12 rfl (lv_at hl 0 rfl) ?_
    refine va_get (D := G) (ci := 1) (v := .int (T 5 0)) (C := RX1) (T := TX1) (N := 6) hx hb hts hinX1 hown hK hP 0 rfl rfl 5 (by decide) hL27 (fun _ h9 => h9) rfl dX1_append_13 ?_
    refine lv_iload_n hx hb dX1_append_16 rfl (lv_at hl 1 rfl) ?_
    obtain ⟨hi_3, h⟩ := h
    refine k_ast (f := (T 0)) (j := ((T 5 0)).toNatClampNeg) (ws' := (wG cI k0 k1 k2 k3 k4 k5 (uA T 0 (upd (T 0) (((T 5 0)).toNatClampNeg) x)))) hx hb hK hP hD hS 1 0 rfl rfl hi_3 rfl dX1_append_17 rfl (fun H locs hP hD hS => ?_)
    refine lv_aload_n hx hb dX1_append_18 rfl (lv_at hl 0 rfl) ?_
    refine va_get (D := G) (ci := 1) (v := .ref k2) (C := RX1) (T := TX1) (N := 6) hx hb hts hinX1 hown hK hP 0 rfl rfl 1 (by decide) hL15 (fun _ h9 => h9) rfl dX1_append_19 ?_
    refine lv_aload_n hx hb dX1_append_22 rfl (lv_at hl 0 rfl) ?_
    refine va_get (D := G) (ci := 1) (v := .int (T 5 0)) (C := RX1) (T := TX1) (N := 6) hx hb hts hinX1 hown hK hP 0 rfl rfl 5 (by decide) hL27 (fun _ h9 => h9) rfl dX1_append_23 ?_
    refine lv_iload_n hx hb dX1_append_26 rfl (lv_at hl 2 rfl) ?_
    refine k_ast (f := (T 1)) (j := ((T 5 0)).toNatClampNeg) (ws' := (wG cI k0 k1 k2 k3 k4 k5 (uA (uA T 0 (upd (T 0) (((T 5 0)).toNatClampNeg) x)) 1 (upd (T 1) (((T 5 0)).toNatClampNeg) y)))) hx hb hK hP hD hS 2 0 rfl rfl hi_3 rfl dX1_append_27 rfl (fun H locs hP hD hS => ?_)
    refine lv_aload_n hx hb dX1_append_28 rfl (lv_at hl 0 rfl) ?_
    refine va_get (D := G) (ci := 1) (v := .ref k3) (C := RX1) (T := TX1) (N := 6) hx hb hts hinX1 hown hK hP 0 rfl rfl 2 (by decide) hL18 (fun _ h9 => h9) rfl dX1_append_29 ?_
    refine lv_aload_n hx hb dX1_append_32 rfl (lv_at hl 0 rfl) ?_
    refine va_get (D := G) (ci := 1) (v := .int (T 5 0)) (C := RX1) (T := TX1) (N := 6) hx hb hts hinX1 hown hK hP 0 rfl rfl 5 (by decide) hL27 (fun _ h9 => h9) rfl dX1_append_33 ?_
    refine lv_iconst (v := 0) hx hb dX1_append_36 (by decide) ?_
    refine k_ast (f := (T 2)) (j := ((T 5 0)).toNatClampNeg) (ws' := (wG cI k0 k1 k2 k3 k4 k5 (uA (uA (uA T 0 (upd (T 0) (((T 5 0)).toNatClampNeg) x)) 1 (upd (T 1) (((T 5 0)).toNatClampNeg) y)) 2 (upd (T 2) (((T 5 0)).toNatClampNeg) 0)))) hx hb hK hP hD hS 3 0 rfl rfl hi_3 rfl dX1_append_37 rfl (fun H locs hP hD hS => ?_)
    refine lv_aload_n hx hb dX1_append_38 rfl (lv_at hl 0 rfl) ?_
    refine va_get (D := G) (ci := 1) (v := .ref k4) (C := RX1) (T := TX1) (N := 6) hx hb hts hinX1 hown hK hP 0 rfl rfl 3 (by decide) hL21 (fun _ h9 => h9) rfl dX1_append_39 ?_
    refine lv_aload_n hx hb dX1_append_42 rfl (lv_at hl 0 rfl) ?_
    refine va_get (D := G) (ci := 1) (v := .int (T 5 0)) (C := RX1) (T := TX1) (N := 6) hx hb hts hinX1 hown hK hP 0 rfl rfl 5 (by decide) hL27 (fun _ h9 => h9) rfl dX1_append_43 ?_
    refine lv_iconst (v := 0) hx hb dX1_append_46 (by decide) ?_
    refine k_ast (f := (T 3)) (j := ((T 5 0)).toNatClampNeg) (ws' := (wG cI k0 k1 k2 k3 k4 k5 (uA (uA (uA (uA T 0 (upd (T 0) (((T 5 0)).toNatClampNeg) x)) 1 (upd (T 1) (((T 5 0)).toNatClampNeg) y)) 2 (upd (T 2) (((T 5 0)).toNatClampNeg) 0)) 3 (upd (T 3) (((T 5 0)).toNatClampNeg) 0)))) hx hb hK hP hD hS 4 0 rfl rfl hi_3 rfl dX1_append_47 rfl (fun H locs hP hD hS => ?_)
    refine lv_aload_n hx hb dX1_append_48 rfl (lv_at hl 0 rfl) ?_
    refine va_get (D := G) (ci := 1) (v := .ref k5) (C := RX1) (T := TX1) (N := 6) hx hb hts hinX1 hown hK hP 0 rfl rfl 4 (by decide) hL24 (fun _ h9 => h9) rfl dX1_append_49 ?_
    refine lv_aload_n hx hb dX1_append_52 rfl (lv_at hl 0 rfl) ?_
    refine va_get (D := G) (ci := 1) (v := .int (T 5 0)) (C := RX1) (T := TX1) (N := 6) hx hb hts hinX1 hown hK hP 0 rfl rfl 5 (by decide) hL27 (fun _ h9 => h9) rfl dX1_append_53 ?_
    refine lv_iconst (v := 0) hx hb dX1_append_56 (by decide) ?_
    refine k_ast (f := (T 4)) (j := ((T 5 0)).toNatClampNeg) (ws' := (wG cI k0 k1 k2 k3 k4 k5 (uA (uA (uA (uA (uA T 0 (upd (T 0) (((T 5 0)).toNatClampNeg) x)) 1 (upd (T 1) (((T 5 0)).toNatClampNeg) y)) 2 (upd (T 2) (((T 5 0)).toNatClampNeg) 0)) 3 (upd (T 3) (((T 5 0)).toNatClampNeg) 0)) 4 (upd (T 4) (((T 5 0)).toNatClampNeg) 0)))) hx hb hK hP hD hS 5 0 rfl rfl hi_3 rfl dX1_append_57 rfl (fun H locs hP hD hS => ?_)
    refine lv_aload_n hx hb dX1_append_58 rfl (lv_at hl 0 rfl) ?_
    refine lv_dup hx hb dX1_append_59 rfl ?_
    refine va_get (D := G) (ci := 1) (v := .int (T 5 0)) (C := RX1) (T := TX1) (N := 6) hx hb hts hinX1 hown hK hP 0 rfl rfl 5 (by decide) hL27 (fun _ h9 => h9) rfl dX1_append_60 ?_
    refine lv_iconst (v := 1) hx hb dX1_append_63 (by decide) ?_
    refine lv_iadd hx hb dX1_append_64 ?_
    refine va_put (D := G) (ci := 1) (v := .int ((T 5 0) + 1)) (ty := .int) (C := RX1) (T := TX1) (N := 6) hx hb hts hinX1 tyX1 tyX1_ok nmX1 hown hK hP hD hS 0 rfl rfl 5 (by decide) hL27 (fun _ h9 => h9) rfl (by decide +kernel) rfl rfl (Nat.le_of_ble_eq_true rfl) dX1_append_65 (fun H locs hP hD hS => ?_)
    have hP : va_P G vwCl (wG cI k0 k1 k2 k3 k4 k5 (uA (uA (uA (uA (uA (uA T 0 (upd (T 0) (((T 5 0)).toNatClampNeg) x)) 1 (upd (T 1) (((T 5 0)).toNatClampNeg) y)) 2 (upd (T 2) (((T 5 0)).toNatClampNeg) 0)) 3 (upd (T 3) (((T 5 0)).toNatClampNeg) 0)) 4 (upd (T 4) (((T 5 0)).toNatClampNeg) 0)) 5 (fun _ => ((T 5 0) + 1)))) H := hP
    have hD : va_D A (wG cI k0 k1 k2 k3 k4 k5 (uA (uA (uA (uA (uA (uA T 0 (upd (T 0) (((T 5 0)).toNatClampNeg) x)) 1 (upd (T 1) (((T 5 0)).toNatClampNeg) y)) 2 (upd (T 2) (((T 5 0)).toNatClampNeg) 0)) 3 (upd (T 3) (((T 5 0)).toNatClampNeg) 0)) 4 (upd (T 4) (((T 5 0)).toNatClampNeg) 0)) 5 (fun _ => ((T 5 0) + 1)))) := hD
    exact W.vret hx hb hr (fun t ht hW => ⟨⟨(uA (uA (uA (uA (uA (uA T 0 (upd (T 0) (((T 5 0)).toNatClampNeg) x)) 1 (upd (T 1) (((T 5 0)).toNatClampNeg) y)) 2 (upd (T 2) (((T 5 0)).toNatClampNeg) 0)) 3 (upd (T 3) (((T 5 0)).toNatClampNeg) 0)) 4 (upd (T 4) (((T 5 0)).toNatClampNeg) 0)) 5 (fun _ => ((T 5 0) + 1))), rfl, h, by rw [ht]; exact hP, hD⟩, hS.F ht⟩) hS.2.2 dX1_append_68
  · have h := h.2 c_2
    exact W.vret hx hb hr (fun t ht hW => ⟨⟨T, rfl, h, by rw [ht]; exact hP, hD⟩, hS.F ht⟩) hS.2.2 dX1_append_7
def q_X1_kind (x : Int32) (T : St) (Q : Int32 → Prop) : Prop :=
  q_X1_has x T (fun r_1 => (r_1 = 0 → Q 0) ∧ (¬ (r_1 = 0) → vp_in x 8 ∧ (Q ((T 0) ((x).toNatClampNeg)))))
set_option maxHeartbeats 4000000 in
set_option maxRecDepth 100000 in
theorem c_X1_kind (l : Launch) (G : va_G) (cI cC cD : ClassId) (k0 k1 k2 k3 k4 k5 : Nat) (sz : Nat) (T : St) (x : Int32) (Q : Int32 → Prop) (h : q_X1_kind x T Q) : Met l yX1_kind wsX1_kind ({ frames := 1, cells := 0, slots := 0, locals := 21 }) (va_Pc [.ref k0, .int x] (PW G (ty3 cI cC cD) (wG cI k0 k1 k2 k3 k4 k5 T) sz)) (va_Qi (fun (r : Int32) (_ : Unit) => Q r) (BW G (fun _ : Unit => (wG cI k0 k1 k2 k3 k4 k5 T)) (va_A (wG cI k0 k1 k2 k3 k4 k5 T) sz)) (va_A (wG cI k0 k1 k2 k3 k4 k5 T) sz)) 0 0 (va_A (wG cI k0 k1 k2 k3 k4 k5 T) sz) := by
  refine Met.ofW (cc := cX1_kind) (maxL := 2) (ret := (some .int)) (by decide) rfl ?_
  intro p e s m args below meth c s₁ B hml hv
  obtain ⟨rfl, hsz, hP, hK, hD0, hN⟩ := hv
  have hx := B.exec
  have hb := B.bytes
  have hr := B.returns
  have hts := atoms_spec (ws := wsX1_kind) B.pre
  have hown : s.vm.findClass RX1 = some m.cls := findClass_of_methodNamed B.named
  have hlocks := B.notSynchronized
  subst hsz
  have hD := hD0.self (sz := s.heap.size)
  generalize hAe : va_A (wG cI k0 k1 k2 k3 k4 k5 T) s.heap.size = A at hD ⊢
  have hA : ∀ q : Nat, s.heap.size ≤ q → A q := fun q h => by rw [← hAe]; exact Or.inr h
  have hS : va_S A s.heap s.heap [] := va_S.rf
  have hl := lv_entry ([.ref k0, .int x]) (n := 2) (Nat.le_of_ble_eq_true rfl)
  rw [lg_entry_eq]
  generalize (lg_sl ([.ref k0, .int x]) ++ List.replicate (2 - (lg_sl ([.ref k0, .int x])).length) Slot.unset).toArray = ls at hl ⊢
  have hl : lv_has ls 2 [(0, .ref k0), (1, .int x)] := hl
  have hinX1 : ∀ w ∈ wsX10, w ∈ wsX1_kind := by decide +kernel
  have hL9 := hts (.fieldLink RX1 9 "CraneGates$Gates" "kinds" "[I") (by decide +kernel)
  unfold q_X1_kind at h
  refine lv_aload_n hx hb dX1_kind_0 rfl (lv_at hl 0 rfl) ?_
  refine lv_iload_n hx hb dX1_kind_1 rfl (lv_at hl 1 rfl) ?_
  refine kc_i (As := [.int x]) (rest := []) (wg := (fun _ => (wG cI k0 k1 k2 k3 k4 k5 T))) ⟨hx, hb, hml, hown, hts⟩ (c_X1_has l G cI cC cD k0 k1 k2 k3 k4 k5 _ T x _ h) (cwV 1 hts gX1_kind_X1_has rfl rfl rfl (by decide +kernel) ⟨Nat.le_of_ble_eq_true rfl, Nat.le_of_ble_eq_true rfl⟩) hK hN hP hD hS hA (em_GG cI k0 k1 k2 k3 k4 k5 T) (fun _ => rp_self (em_GG cI k0 k1 k2 k3 k4 k5 T)) rfl rfl rfl rfl hl.1 rfl (Nat.le_of_ble_eq_true rfl) dX1_kind_2 ⟨Nat.zero_le _, Nat.zero_le _⟩ (fun r_1 _ H locs h hP hD hS => ?_)
  refine lv_if_eq (tgt := 17) hx hb dX1_kind_5 (by decide) (fun c_2 => ?_) (fun c_2 => ?_)
  · have h := h.1 c_2
    refine lv_iconst (v := 0) hx hb dX1_kind_17 (by decide) ?_
    exact W.iret (v := 0) hx hb hr (fun t ht hW => ⟨⟨0, (), rfl, h, by rw [ht]; exact hP, hD⟩, hS.F ht⟩) hS.2.2 dX1_kind_18
  · have h := h.2 c_2
    refine lv_aload_n hx hb dX1_kind_8 rfl (lv_at hl 0 rfl) ?_
    refine va_get (D := G) (ci := 1) (v := .ref k1) (C := RX1) (T := TX1) (N := 6) hx hb hts hinX1 hown hK hP 0 rfl rfl 0 (by decide) hL9 (fun _ h9 => h9) rfl dX1_kind_9 ?_
    refine lv_iload_n hx hb dX1_kind_12 rfl (lv_at hl 1 rfl) ?_
    obtain ⟨hi_3, h⟩ := h
    refine k_ald (f := (T 0)) (j := (x).toNatClampNeg) (v := ((T 0) ((x).toNatClampNeg))) hx hb hK hP 1 0 rfl rfl hi_3 rfl rfl dX1_kind_13 ?_
    refine lv_goto (tgt := 18) hx hb dX1_kind_14 (by decide) ?_
    exact W.iret (v := ((T 0) ((x).toNatClampNeg))) hx hb hr (fun t ht hW => ⟨⟨((T 0) ((x).toNatClampNeg)), (), rfl, h, by rw [ht]; exact hP, hD⟩, hS.F ht⟩) hS.2.2 dX1_kind_18
def q_X1_width (x : Int32) (T : St) (Q : Int32 → Prop) : Prop :=
  q_X1_has x T (fun r_1 => (r_1 = 0 → Q 0) ∧ (¬ (r_1 = 0) → vp_in x 8 ∧ (Q ((T 1) ((x).toNatClampNeg)))))
set_option maxHeartbeats 4000000 in
set_option maxRecDepth 100000 in
theorem c_X1_width (l : Launch) (G : va_G) (cI cC cD : ClassId) (k0 k1 k2 k3 k4 k5 : Nat) (sz : Nat) (T : St) (x : Int32) (Q : Int32 → Prop) (h : q_X1_width x T Q) : Met l yX1_width wsX1_width ({ frames := 1, cells := 0, slots := 0, locals := 21 }) (va_Pc [.ref k0, .int x] (PW G (ty3 cI cC cD) (wG cI k0 k1 k2 k3 k4 k5 T) sz)) (va_Qi (fun (r : Int32) (_ : Unit) => Q r) (BW G (fun _ : Unit => (wG cI k0 k1 k2 k3 k4 k5 T)) (va_A (wG cI k0 k1 k2 k3 k4 k5 T) sz)) (va_A (wG cI k0 k1 k2 k3 k4 k5 T) sz)) 0 0 (va_A (wG cI k0 k1 k2 k3 k4 k5 T) sz) := by
  refine Met.ofW (cc := cX1_width) (maxL := 2) (ret := (some .int)) (by decide) rfl ?_
  intro p e s m args below meth c s₁ B hml hv
  obtain ⟨rfl, hsz, hP, hK, hD0, hN⟩ := hv
  have hx := B.exec
  have hb := B.bytes
  have hr := B.returns
  have hts := atoms_spec (ws := wsX1_width) B.pre
  have hown : s.vm.findClass RX1 = some m.cls := findClass_of_methodNamed B.named
  have hlocks := B.notSynchronized
  subst hsz
  have hD := hD0.self (sz := s.heap.size)
  generalize hAe : va_A (wG cI k0 k1 k2 k3 k4 k5 T) s.heap.size = A at hD ⊢
  have hA : ∀ q : Nat, s.heap.size ≤ q → A q := fun q h => by rw [← hAe]; exact Or.inr h
  have hS : va_S A s.heap s.heap [] := va_S.rf
  have hl := lv_entry ([.ref k0, .int x]) (n := 2) (Nat.le_of_ble_eq_true rfl)
  rw [lg_entry_eq]
  generalize (lg_sl ([.ref k0, .int x]) ++ List.replicate (2 - (lg_sl ([.ref k0, .int x])).length) Slot.unset).toArray = ls at hl ⊢
  have hl : lv_has ls 2 [(0, .ref k0), (1, .int x)] := hl
  have hinX1 : ∀ w ∈ wsX10, w ∈ wsX1_width := by decide +kernel
  have hL15 := hts (.fieldLink RX1 15 "CraneGates$Gates" "widths" "[I") (by decide +kernel)
  unfold q_X1_width at h
  refine lv_aload_n hx hb dX1_width_0 rfl (lv_at hl 0 rfl) ?_
  refine lv_iload_n hx hb dX1_width_1 rfl (lv_at hl 1 rfl) ?_
  refine kc_i (As := [.int x]) (rest := []) (wg := (fun _ => (wG cI k0 k1 k2 k3 k4 k5 T))) ⟨hx, hb, hml, hown, hts⟩ (c_X1_has l G cI cC cD k0 k1 k2 k3 k4 k5 _ T x _ h) (cwV 1 hts gX1_width_X1_has rfl rfl rfl (by decide +kernel) ⟨Nat.le_of_ble_eq_true rfl, Nat.le_of_ble_eq_true rfl⟩) hK hN hP hD hS hA (em_GG cI k0 k1 k2 k3 k4 k5 T) (fun _ => rp_self (em_GG cI k0 k1 k2 k3 k4 k5 T)) rfl rfl rfl rfl hl.1 rfl (Nat.le_of_ble_eq_true rfl) dX1_width_2 ⟨Nat.zero_le _, Nat.zero_le _⟩ (fun r_1 _ H locs h hP hD hS => ?_)
  refine lv_if_eq (tgt := 17) hx hb dX1_width_5 (by decide) (fun c_2 => ?_) (fun c_2 => ?_)
  · have h := h.1 c_2
    refine lv_iconst (v := 0) hx hb dX1_width_17 (by decide) ?_
    exact W.iret (v := 0) hx hb hr (fun t ht hW => ⟨⟨0, (), rfl, h, by rw [ht]; exact hP, hD⟩, hS.F ht⟩) hS.2.2 dX1_width_18
  · have h := h.2 c_2
    refine lv_aload_n hx hb dX1_width_8 rfl (lv_at hl 0 rfl) ?_
    refine va_get (D := G) (ci := 1) (v := .ref k2) (C := RX1) (T := TX1) (N := 6) hx hb hts hinX1 hown hK hP 0 rfl rfl 1 (by decide) hL15 (fun _ h9 => h9) rfl dX1_width_9 ?_
    refine lv_iload_n hx hb dX1_width_12 rfl (lv_at hl 1 rfl) ?_
    obtain ⟨hi_3, h⟩ := h
    refine k_ald (f := (T 1)) (j := (x).toNatClampNeg) (v := ((T 1) ((x).toNatClampNeg))) hx hb hK hP 2 0 rfl rfl hi_3 rfl rfl dX1_width_13 ?_
    refine lv_goto (tgt := 18) hx hb dX1_width_14 (by decide) ?_
    exact W.iret (v := ((T 1) ((x).toNatClampNeg))) hx hb hr (fun t ht hW => ⟨⟨((T 1) ((x).toNatClampNeg)), (), rfl, h, by rw [ht]; exact hP, hD⟩, hS.F ht⟩) hS.2.2 dX1_width_18
def q_X1_opening (x : Int32) (T : St) (Q : Int32 → Prop) : Prop :=
  (x < 0 → Q 0) ∧ (¬ (x < 0) → ((T 5 0) ≤ x → Q 0) ∧ (¬ ((T 5 0) ≤ x) → (8 ≤ x → Q 0) ∧ (¬ (8 ≤ x) → vp_in x 8 ∧ (Q ((T 2) ((x).toNatClampNeg))))))
set_option maxHeartbeats 4000000 in
set_option maxRecDepth 100000 in
theorem c_X1_opening (l : Launch) (G : va_G) (cI cC cD : ClassId) (k0 k1 k2 k3 k4 k5 : Nat) (sz : Nat) (T : St) (x : Int32) (Q : Int32 → Prop) (h : q_X1_opening x T Q) : Met l yX1_opening wsX1_opening ({ frames := 0, cells := 0, slots := 0, locals := 0 }) (va_Pc [.ref k0, .int x] (PW G (ty3 cI cC cD) (wG cI k0 k1 k2 k3 k4 k5 T) sz)) (va_Qi (fun (r : Int32) (_ : Unit) => Q r) (BW G (fun _ : Unit => (wG cI k0 k1 k2 k3 k4 k5 T)) (va_A (wG cI k0 k1 k2 k3 k4 k5 T) sz)) (va_A (wG cI k0 k1 k2 k3 k4 k5 T) sz)) 0 0 (va_A (wG cI k0 k1 k2 k3 k4 k5 T) sz) := by
  refine Met.ofW (cc := cX1_opening) (maxL := 2) (ret := (some .int)) (by decide) rfl ?_
  intro p e s m args below meth c s₁ B hml hv
  obtain ⟨rfl, hsz, hP, hK, hD0, hN⟩ := hv
  have hx := B.exec
  have hb := B.bytes
  have hr := B.returns
  have hts := atoms_spec (ws := wsX1_opening) B.pre
  have hown : s.vm.findClass RX1 = some m.cls := findClass_of_methodNamed B.named
  have hlocks := B.notSynchronized
  subst hsz
  have hD := hD0.self (sz := s.heap.size)
  generalize hAe : va_A (wG cI k0 k1 k2 k3 k4 k5 T) s.heap.size = A at hD ⊢
  have hA : ∀ q : Nat, s.heap.size ≤ q → A q := fun q h => by rw [← hAe]; exact Or.inr h
  have hS : va_S A s.heap s.heap [] := va_S.rf
  have hl := lv_entry ([.ref k0, .int x]) (n := 2) (Nat.le_of_ble_eq_true rfl)
  rw [lg_entry_eq]
  generalize (lg_sl ([.ref k0, .int x]) ++ List.replicate (2 - (lg_sl ([.ref k0, .int x])).length) Slot.unset).toArray = ls at hl ⊢
  have hl : lv_has ls 2 [(0, .ref k0), (1, .int x)] := hl
  have hinX1 : ∀ w ∈ wsX10, w ∈ wsX1_opening := by decide +kernel
  have hL18 := hts (.fieldLink RX1 18 "CraneGates$Gates" "openings" "[I") (by decide +kernel)
  have hL27 := hts (.fieldLink RX1 27 "CraneGates$Gates" "size" "I") (by decide +kernel)
  unfold q_X1_opening at h
  refine lv_iload_n hx hb dX1_opening_0 rfl (lv_at hl 1 rfl) ?_
  refine lv_if_lt (tgt := 27) hx hb dX1_opening_1 (by decide) (fun c_1 => ?_) (fun c_1 => ?_)
  · have h := h.1 c_1
    refine lv_iconst (v := 0) hx hb dX1_opening_27 (by decide) ?_
    exact W.iret (v := 0) hx hb hr (fun t ht hW => ⟨⟨0, (), rfl, h, by rw [ht]; exact hP, hD⟩, hS.F ht⟩) hS.2.2 dX1_opening_28
  · have h := h.2 c_1
    refine lv_iload_n hx hb dX1_opening_4 rfl (lv_at hl 1 rfl) ?_
    refine lv_aload_n hx hb dX1_opening_5 rfl (lv_at hl 0 rfl) ?_
    refine va_get (D := G) (ci := 1) (v := .int (T 5 0)) (C := RX1) (T := TX1) (N := 6) hx hb hts hinX1 hown hK hP 0 rfl rfl 5 (by decide) hL27 (fun _ h9 => h9) rfl dX1_opening_6 ?_
    refine lv_icmp_ge (tgt := 27) hx hb dX1_opening_9 (by decide) (fun c_2 => ?_) (fun c_2 => ?_)
    · have h := h.1 c_2
      refine lv_iconst (v := 0) hx hb dX1_opening_27 (by decide) ?_
      exact W.iret (v := 0) hx hb hr (fun t ht hW => ⟨⟨0, (), rfl, h, by rw [ht]; exact hP, hD⟩, hS.F ht⟩) hS.2.2 dX1_opening_28
    · have h := h.2 c_2
      refine lv_iload_n hx hb dX1_opening_12 rfl (lv_at hl 1 rfl) ?_
      refine lv_bipush (v := 8) hx hb dX1_opening_13 (by decide) ?_
      refine lv_icmp_ge (tgt := 27) hx hb dX1_opening_15 (by decide) (fun c_3 => ?_) (fun c_3 => ?_)
      · have h := h.1 c_3
        refine lv_iconst (v := 0) hx hb dX1_opening_27 (by decide) ?_
        exact W.iret (v := 0) hx hb hr (fun t ht hW => ⟨⟨0, (), rfl, h, by rw [ht]; exact hP, hD⟩, hS.F ht⟩) hS.2.2 dX1_opening_28
      · have h := h.2 c_3
        refine lv_aload_n hx hb dX1_opening_18 rfl (lv_at hl 0 rfl) ?_
        refine va_get (D := G) (ci := 1) (v := .ref k3) (C := RX1) (T := TX1) (N := 6) hx hb hts hinX1 hown hK hP 0 rfl rfl 2 (by decide) hL18 (fun _ h9 => h9) rfl dX1_opening_19 ?_
        refine lv_iload_n hx hb dX1_opening_22 rfl (lv_at hl 1 rfl) ?_
        obtain ⟨hi_4, h⟩ := h
        refine k_ald (f := (T 2)) (j := (x).toNatClampNeg) (v := ((T 2) ((x).toNatClampNeg))) hx hb hK hP 3 0 rfl rfl hi_4 rfl rfl dX1_opening_23 ?_
        refine lv_goto (tgt := 28) hx hb dX1_opening_24 (by decide) ?_
        exact W.iret (v := ((T 2) ((x).toNatClampNeg))) hx hb hr (fun t ht hW => ⟨⟨((T 2) ((x).toNatClampNeg)), (), rfl, h, by rw [ht]; exact hP, hD⟩, hS.F ht⟩) hS.2.2 dX1_opening_28
def q_X1_waterOut (x : Int32) (T : St) (Q : Int32 → Prop) : Prop :=
  q_X1_has x T (fun r_1 => (r_1 = 0 → Q 0) ∧ (¬ (r_1 = 0) → vp_in x 8 ∧ (Q ((T 3) ((x).toNatClampNeg)))))
set_option maxHeartbeats 4000000 in
set_option maxRecDepth 100000 in
theorem c_X1_waterOut (l : Launch) (G : va_G) (cI cC cD : ClassId) (k0 k1 k2 k3 k4 k5 : Nat) (sz : Nat) (T : St) (x : Int32) (Q : Int32 → Prop) (h : q_X1_waterOut x T Q) : Met l yX1_waterOut wsX1_waterOut ({ frames := 1, cells := 0, slots := 0, locals := 21 }) (va_Pc [.ref k0, .int x] (PW G (ty3 cI cC cD) (wG cI k0 k1 k2 k3 k4 k5 T) sz)) (va_Qi (fun (r : Int32) (_ : Unit) => Q r) (BW G (fun _ : Unit => (wG cI k0 k1 k2 k3 k4 k5 T)) (va_A (wG cI k0 k1 k2 k3 k4 k5 T) sz)) (va_A (wG cI k0 k1 k2 k3 k4 k5 T) sz)) 0 0 (va_A (wG cI k0 k1 k2 k3 k4 k5 T) sz) := by
  refine Met.ofW (cc := cX1_waterOut) (maxL := 2) (ret := (some .int)) (by decide) rfl ?_
  intro p e s m args below meth c s₁ B hml hv
  obtain ⟨rfl, hsz, hP, hK, hD0, hN⟩ := hv
  have hx := B.exec
  have hb := B.bytes
  have hr := B.returns
  have hts := atoms_spec (ws := wsX1_waterOut) B.pre
  have hown : s.vm.findClass RX1 = some m.cls := findClass_of_methodNamed B.named
  have hlocks := B.notSynchronized
  subst hsz
  have hD := hD0.self (sz := s.heap.size)
  generalize hAe : va_A (wG cI k0 k1 k2 k3 k4 k5 T) s.heap.size = A at hD ⊢
  have hA : ∀ q : Nat, s.heap.size ≤ q → A q := fun q h => by rw [← hAe]; exact Or.inr h
  have hS : va_S A s.heap s.heap [] := va_S.rf
  have hl := lv_entry ([.ref k0, .int x]) (n := 2) (Nat.le_of_ble_eq_true rfl)
  rw [lg_entry_eq]
  generalize (lg_sl ([.ref k0, .int x]) ++ List.replicate (2 - (lg_sl ([.ref k0, .int x])).length) Slot.unset).toArray = ls at hl ⊢
  have hl : lv_has ls 2 [(0, .ref k0), (1, .int x)] := hl
  have hinX1 : ∀ w ∈ wsX10, w ∈ wsX1_waterOut := by decide +kernel
  have hL21 := hts (.fieldLink RX1 21 "CraneGates$Gates" "waterOut" "[I") (by decide +kernel)
  unfold q_X1_waterOut at h
  refine lv_aload_n hx hb dX1_waterOut_0 rfl (lv_at hl 0 rfl) ?_
  refine lv_iload_n hx hb dX1_waterOut_1 rfl (lv_at hl 1 rfl) ?_
  refine kc_i (As := [.int x]) (rest := []) (wg := (fun _ => (wG cI k0 k1 k2 k3 k4 k5 T))) ⟨hx, hb, hml, hown, hts⟩ (c_X1_has l G cI cC cD k0 k1 k2 k3 k4 k5 _ T x _ h) (cwV 1 hts gX1_waterOut_X1_has rfl rfl rfl (by decide +kernel) ⟨Nat.le_of_ble_eq_true rfl, Nat.le_of_ble_eq_true rfl⟩) hK hN hP hD hS hA (em_GG cI k0 k1 k2 k3 k4 k5 T) (fun _ => rp_self (em_GG cI k0 k1 k2 k3 k4 k5 T)) rfl rfl rfl rfl hl.1 rfl (Nat.le_of_ble_eq_true rfl) dX1_waterOut_2 ⟨Nat.zero_le _, Nat.zero_le _⟩ (fun r_1 _ H locs h hP hD hS => ?_)
  refine lv_if_eq (tgt := 17) hx hb dX1_waterOut_5 (by decide) (fun c_2 => ?_) (fun c_2 => ?_)
  · have h := h.1 c_2
    refine lv_iconst (v := 0) hx hb dX1_waterOut_17 (by decide) ?_
    exact W.iret (v := 0) hx hb hr (fun t ht hW => ⟨⟨0, (), rfl, h, by rw [ht]; exact hP, hD⟩, hS.F ht⟩) hS.2.2 dX1_waterOut_18
  · have h := h.2 c_2
    refine lv_aload_n hx hb dX1_waterOut_8 rfl (lv_at hl 0 rfl) ?_
    refine va_get (D := G) (ci := 1) (v := .ref k4) (C := RX1) (T := TX1) (N := 6) hx hb hts hinX1 hown hK hP 0 rfl rfl 3 (by decide) hL21 (fun _ h9 => h9) rfl dX1_waterOut_9 ?_
    refine lv_iload_n hx hb dX1_waterOut_12 rfl (lv_at hl 1 rfl) ?_
    obtain ⟨hi_3, h⟩ := h
    refine k_ald (f := (T 3)) (j := (x).toNatClampNeg) (v := ((T 3) ((x).toNatClampNeg))) hx hb hK hP 4 0 rfl rfl hi_3 rfl rfl dX1_waterOut_13 ?_
    refine lv_goto (tgt := 18) hx hb dX1_waterOut_14 (by decide) ?_
    exact W.iret (v := ((T 3) ((x).toNatClampNeg))) hx hb hr (fun t ht hW => ⟨⟨((T 3) ((x).toNatClampNeg)), (), rfl, h, by rw [ht]; exact hP, hD⟩, hS.F ht⟩) hS.2.2 dX1_waterOut_18
def q_X1_moves (x : Int32) (T : St) (Q : Int32 → Prop) : Prop :=
  q_X1_has x T (fun r_1 => (r_1 = 0 → Q 0) ∧ (¬ (r_1 = 0) → vp_in x 8 ∧ (Q ((T 4) ((x).toNatClampNeg)))))
set_option maxHeartbeats 4000000 in
set_option maxRecDepth 100000 in
theorem c_X1_moves (l : Launch) (G : va_G) (cI cC cD : ClassId) (k0 k1 k2 k3 k4 k5 : Nat) (sz : Nat) (T : St) (x : Int32) (Q : Int32 → Prop) (h : q_X1_moves x T Q) : Met l yX1_moves wsX1_moves ({ frames := 1, cells := 0, slots := 0, locals := 21 }) (va_Pc [.ref k0, .int x] (PW G (ty3 cI cC cD) (wG cI k0 k1 k2 k3 k4 k5 T) sz)) (va_Qi (fun (r : Int32) (_ : Unit) => Q r) (BW G (fun _ : Unit => (wG cI k0 k1 k2 k3 k4 k5 T)) (va_A (wG cI k0 k1 k2 k3 k4 k5 T) sz)) (va_A (wG cI k0 k1 k2 k3 k4 k5 T) sz)) 0 0 (va_A (wG cI k0 k1 k2 k3 k4 k5 T) sz) := by
  refine Met.ofW (cc := cX1_moves) (maxL := 2) (ret := (some .int)) (by decide) rfl ?_
  intro p e s m args below meth c s₁ B hml hv
  obtain ⟨rfl, hsz, hP, hK, hD0, hN⟩ := hv
  have hx := B.exec
  have hb := B.bytes
  have hr := B.returns
  have hts := atoms_spec (ws := wsX1_moves) B.pre
  have hown : s.vm.findClass RX1 = some m.cls := findClass_of_methodNamed B.named
  have hlocks := B.notSynchronized
  subst hsz
  have hD := hD0.self (sz := s.heap.size)
  generalize hAe : va_A (wG cI k0 k1 k2 k3 k4 k5 T) s.heap.size = A at hD ⊢
  have hA : ∀ q : Nat, s.heap.size ≤ q → A q := fun q h => by rw [← hAe]; exact Or.inr h
  have hS : va_S A s.heap s.heap [] := va_S.rf
  have hl := lv_entry ([.ref k0, .int x]) (n := 2) (Nat.le_of_ble_eq_true rfl)
  rw [lg_entry_eq]
  generalize (lg_sl ([.ref k0, .int x]) ++ List.replicate (2 - (lg_sl ([.ref k0, .int x])).length) Slot.unset).toArray = ls at hl ⊢
  have hl : lv_has ls 2 [(0, .ref k0), (1, .int x)] := hl
  have hinX1 : ∀ w ∈ wsX10, w ∈ wsX1_moves := by decide +kernel
  have hL24 := hts (.fieldLink RX1 24 "CraneGates$Gates" "moves" "[I") (by decide +kernel)
  unfold q_X1_moves at h
  refine lv_aload_n hx hb dX1_moves_0 rfl (lv_at hl 0 rfl) ?_
  refine lv_iload_n hx hb dX1_moves_1 rfl (lv_at hl 1 rfl) ?_
  refine kc_i (As := [.int x]) (rest := []) (wg := (fun _ => (wG cI k0 k1 k2 k3 k4 k5 T))) ⟨hx, hb, hml, hown, hts⟩ (c_X1_has l G cI cC cD k0 k1 k2 k3 k4 k5 _ T x _ h) (cwV 1 hts gX1_moves_X1_has rfl rfl rfl (by decide +kernel) ⟨Nat.le_of_ble_eq_true rfl, Nat.le_of_ble_eq_true rfl⟩) hK hN hP hD hS hA (em_GG cI k0 k1 k2 k3 k4 k5 T) (fun _ => rp_self (em_GG cI k0 k1 k2 k3 k4 k5 T)) rfl rfl rfl rfl hl.1 rfl (Nat.le_of_ble_eq_true rfl) dX1_moves_2 ⟨Nat.zero_le _, Nat.zero_le _⟩ (fun r_1 _ H locs h hP hD hS => ?_)
  refine lv_if_eq (tgt := 17) hx hb dX1_moves_5 (by decide) (fun c_2 => ?_) (fun c_2 => ?_)
  · have h := h.1 c_2
    refine lv_iconst (v := 0) hx hb dX1_moves_17 (by decide) ?_
    exact W.iret (v := 0) hx hb hr (fun t ht hW => ⟨⟨0, (), rfl, h, by rw [ht]; exact hP, hD⟩, hS.F ht⟩) hS.2.2 dX1_moves_18
  · have h := h.2 c_2
    refine lv_aload_n hx hb dX1_moves_8 rfl (lv_at hl 0 rfl) ?_
    refine va_get (D := G) (ci := 1) (v := .ref k5) (C := RX1) (T := TX1) (N := 6) hx hb hts hinX1 hown hK hP 0 rfl rfl 4 (by decide) hL24 (fun _ h9 => h9) rfl dX1_moves_9 ?_
    refine lv_iload_n hx hb dX1_moves_12 rfl (lv_at hl 1 rfl) ?_
    obtain ⟨hi_3, h⟩ := h
    refine k_ald (f := (T 4)) (j := (x).toNatClampNeg) (v := ((T 4) ((x).toNatClampNeg))) hx hb hK hP 5 0 rfl rfl hi_3 rfl rfl dX1_moves_13 ?_
    refine lv_goto (tgt := 18) hx hb dX1_moves_14 (by decide) ?_
    exact W.iret (v := ((T 4) ((x).toNatClampNeg))) hx hb hr (fun t ht hW => ⟨⟨((T 4) ((x).toNatClampNeg)), (), rfl, h, by rw [ht]; exact hP, hD⟩, hS.F ht⟩) hS.2.2 dX1_moves_18
def q_X1_flow (x : Int32) (y : Int32) (T : St) (Q : Int32 → Prop) : Prop :=
  q_X1_has x T (fun r_1 => (r_1 = 0 → Q 0) ∧ (¬ (r_1 = 0) → vp_in x 8 ∧ ((((T 0) ((x).toNatClampNeg)) = 2 → (10 ≤ ((T 2) ((x).toNatClampNeg)) → (((T 0) ((x).toNatClampNeg)) = 1 → (y < 8 → Q (((((T 1) ((x).toNatClampNeg)) * ((T 2) ((x).toNatClampNeg))) * y) / 10)) ∧ (¬ (y < 8) → Q ((((((T 1) ((x).toNatClampNeg)) * ((T 2) ((x).toNatClampNeg))) * y) / 10) + ((T 1) ((x).toNatClampNeg))))) ∧ (¬ (((T 0) ((x).toNatClampNeg)) = 1) → Q (((((T 1) ((x).toNatClampNeg)) * ((T 2) ((x).toNatClampNeg))) * y) / 10))) ∧ (¬ (10 ≤ ((T 2) ((x).toNatClampNeg))) → Q 0)) ∧ (¬ (((T 0) ((x).toNatClampNeg)) = 2) → (((T 0) ((x).toNatClampNeg)) = 1 → (y < 8 → Q (((((T 1) ((x).toNatClampNeg)) * ((T 2) ((x).toNatClampNeg))) * y) / 10)) ∧ (¬ (y < 8) → Q ((((((T 1) ((x).toNatClampNeg)) * ((T 2) ((x).toNatClampNeg))) * y) / 10) + ((T 1) ((x).toNatClampNeg))))) ∧ (¬ (((T 0) ((x).toNatClampNeg)) = 1) → Q (((((T 1) ((x).toNatClampNeg)) * ((T 2) ((x).toNatClampNeg))) * y) / 10))))))
set_option maxHeartbeats 4000000 in
set_option maxRecDepth 100000 in
theorem c_X1_flow (l : Launch) (G : va_G) (cI cC cD : ClassId) (k0 k1 k2 k3 k4 k5 : Nat) (sz : Nat) (T : St) (x : Int32) (y : Int32) (Q : Int32 → Prop) (h : q_X1_flow x y T Q) : Met l yX1_flow wsX1_flow ({ frames := 1, cells := 0, slots := 0, locals := 21 }) (va_Pc [.ref k0, .int x, .int y] (PW G (ty3 cI cC cD) (wG cI k0 k1 k2 k3 k4 k5 T) sz)) (va_Qi (fun (r : Int32) (_ : Unit) => Q r) (BW G (fun _ : Unit => (wG cI k0 k1 k2 k3 k4 k5 T)) (va_A (wG cI k0 k1 k2 k3 k4 k5 T) sz)) (va_A (wG cI k0 k1 k2 k3 k4 k5 T) sz)) 0 0 (va_A (wG cI k0 k1 k2 k3 k4 k5 T) sz) := by
  refine Met.ofW (cc := cX1_flow) (maxL := 4) (ret := (some .int)) (by decide) rfl ?_
  intro p e s m args below meth c s₁ B hml hv
  obtain ⟨rfl, hsz, hP, hK, hD0, hN⟩ := hv
  have hx := B.exec
  have hb := B.bytes
  have hr := B.returns
  have hts := atoms_spec (ws := wsX1_flow) B.pre
  have hown : s.vm.findClass RX1 = some m.cls := findClass_of_methodNamed B.named
  have hlocks := B.notSynchronized
  subst hsz
  have hD := hD0.self (sz := s.heap.size)
  generalize hAe : va_A (wG cI k0 k1 k2 k3 k4 k5 T) s.heap.size = A at hD ⊢
  have hA : ∀ q : Nat, s.heap.size ≤ q → A q := fun q h => by rw [← hAe]; exact Or.inr h
  have hS : va_S A s.heap s.heap [] := va_S.rf
  have hl := lv_entry ([.ref k0, .int x, .int y]) (n := 4) (Nat.le_of_ble_eq_true rfl)
  rw [lg_entry_eq]
  generalize (lg_sl ([.ref k0, .int x, .int y]) ++ List.replicate (4 - (lg_sl ([.ref k0, .int x, .int y])).length) Slot.unset).toArray = ls at hl ⊢
  have hl : lv_has ls 4 [(0, .ref k0), (1, .int x), (2, .int y)] := hl
  have hinX1 : ∀ w ∈ wsX10, w ∈ wsX1_flow := by decide +kernel
  have hL9 := hts (.fieldLink RX1 9 "CraneGates$Gates" "kinds" "[I") (by decide +kernel)
  have hL15 := hts (.fieldLink RX1 15 "CraneGates$Gates" "widths" "[I") (by decide +kernel)
  have hL18 := hts (.fieldLink RX1 18 "CraneGates$Gates" "openings" "[I") (by decide +kernel)
  unfold q_X1_flow at h
  refine lv_aload_n hx hb dX1_flow_0 rfl (lv_at hl 0 rfl) ?_
  refine lv_iload_n hx hb dX1_flow_1 rfl (lv_at hl 1 rfl) ?_
  refine kc_i (As := [.int x]) (rest := []) (wg := (fun _ => (wG cI k0 k1 k2 k3 k4 k5 T))) ⟨hx, hb, hml, hown, hts⟩ (c_X1_has l G cI cC cD k0 k1 k2 k3 k4 k5 _ T x _ h) (cwV 1 hts gX1_flow_X1_has rfl rfl rfl (by decide +kernel) ⟨Nat.le_of_ble_eq_true rfl, Nat.le_of_ble_eq_true rfl⟩) hK hN hP hD hS hA (em_GG cI k0 k1 k2 k3 k4 k5 T) (fun _ => rp_self (em_GG cI k0 k1 k2 k3 k4 k5 T)) rfl rfl rfl rfl hl.1 rfl (Nat.le_of_ble_eq_true rfl) dX1_flow_2 ⟨Nat.zero_le _, Nat.zero_le _⟩ (fun r_1 _ H locs h hP hD hS => ?_)
  refine lv_if_eq (tgt := 29) hx hb dX1_flow_5 (by decide) (fun c_2 => ?_) (fun c_2 => ?_)
  · have h := h.1 c_2
    refine lv_iconst (v := 0) hx hb dX1_flow_29 (by decide) ?_
    exact W.iret (v := 0) hx hb hr (fun t ht hW => ⟨⟨0, (), rfl, h, by rw [ht]; exact hP, hD⟩, hS.F ht⟩) hS.2.2 dX1_flow_30
  · have h := h.2 c_2
    refine lv_aload_n hx hb dX1_flow_8 rfl (lv_at hl 0 rfl) ?_
    refine va_get (D := G) (ci := 1) (v := .ref k1) (C := RX1) (T := TX1) (N := 6) hx hb hts hinX1 hown hK hP 0 rfl rfl 0 (by decide) hL9 (fun _ h9 => h9) rfl dX1_flow_9 ?_
    refine lv_iload_n hx hb dX1_flow_12 rfl (lv_at hl 1 rfl) ?_
    obtain ⟨hi_3, h⟩ := h
    refine k_ald (f := (T 0)) (j := (x).toNatClampNeg) (v := ((T 0) ((x).toNatClampNeg))) hx hb hK hP 1 0 rfl rfl hi_3 rfl rfl dX1_flow_13 ?_
    refine lv_iconst (v := 2) hx hb dX1_flow_14 (by decide) ?_
    refine lv_icmp_ne (tgt := 31) hx hb dX1_flow_15 (by decide) (fun c_4 => ?_) (fun c_4 => ?_)
    · have h := h.2 c_4
      refine lv_aload_n hx hb dX1_flow_31 rfl (lv_at hl 0 rfl) ?_
      refine va_get (D := G) (ci := 1) (v := .ref k2) (C := RX1) (T := TX1) (N := 6) hx hb hts hinX1 hown hK hP 0 rfl rfl 1 (by decide) hL15 (fun _ h9 => h9) rfl dX1_flow_32 ?_
      refine lv_iload_n hx hb dX1_flow_35 rfl (lv_at hl 1 rfl) ?_
      refine k_ald (f := (T 1)) (j := (x).toNatClampNeg) (v := ((T 1) ((x).toNatClampNeg))) hx hb hK hP 2 0 rfl rfl hi_3 rfl rfl dX1_flow_36 ?_
      refine lv_aload_n hx hb dX1_flow_37 rfl (lv_at hl 0 rfl) ?_
      refine va_get (D := G) (ci := 1) (v := .ref k3) (C := RX1) (T := TX1) (N := 6) hx hb hts hinX1 hown hK hP 0 rfl rfl 2 (by decide) hL18 (fun _ h9 => h9) rfl dX1_flow_38 ?_
      refine lv_iload_n hx hb dX1_flow_41 rfl (lv_at hl 1 rfl) ?_
      refine k_ald (f := (T 2)) (j := (x).toNatClampNeg) (v := ((T 2) ((x).toNatClampNeg))) hx hb hK hP 3 0 rfl rfl hi_3 rfl rfl dX1_flow_42 ?_
      refine lv_imul hx hb dX1_flow_43 ?_
      refine lv_iload_n hx hb dX1_flow_44 rfl (lv_at hl 2 rfl) ?_
      refine lv_imul hx hb dX1_flow_45 ?_
      refine lv_bipush (v := 10) hx hb dX1_flow_46 (by decide) ?_
      refine lv_idiv hx hb dX1_flow_48 (by decide) ?_
      refine lv_istore_n (lv' := [(3, .int (((((T 1) ((x).toNatClampNeg)) * ((T 2) ((x).toNatClampNeg))) * y) / 10)), (0, .ref k0), (1, .int x), (2, .int y)]) hx hb dX1_flow_49 rfl hl (by decide) rfl (fun ls hl => ?_)
      refine lv_aload_n hx hb dX1_flow_50 rfl (lv_at hl 1 rfl) ?_
      refine va_get (D := G) (ci := 1) (v := .ref k1) (C := RX1) (T := TX1) (N := 6) hx hb hts hinX1 hown hK hP 0 rfl rfl 0 (by decide) hL9 (fun _ h9 => h9) rfl dX1_flow_51 ?_
      refine lv_iload_n hx hb dX1_flow_54 rfl (lv_at hl 2 rfl) ?_
      refine k_ald (f := (T 0)) (j := (x).toNatClampNeg) (v := ((T 0) ((x).toNatClampNeg))) hx hb hK hP 1 0 rfl rfl hi_3 rfl rfl dX1_flow_55 ?_
      refine lv_iconst (v := 1) hx hb dX1_flow_56 (by decide) ?_
      refine lv_icmp_ne (tgt := 77) hx hb dX1_flow_57 (by decide) (fun c_5 => ?_) (fun c_5 => ?_)
      · have h := h.2 c_5
        refine lv_iload_n hx hb dX1_flow_77 rfl (lv_at hl 0 rfl) ?_
        exact W.iret (v := (((((T 1) ((x).toNatClampNeg)) * ((T 2) ((x).toNatClampNeg))) * y) / 10)) hx hb hr (fun t ht hW => ⟨⟨(((((T 1) ((x).toNatClampNeg)) * ((T 2) ((x).toNatClampNeg))) * y) / 10), (), rfl, h, by rw [ht]; exact hP, hD⟩, hS.F ht⟩) hS.2.2 dX1_flow_78
      · have h := h.1 c_5
        refine lv_iload_n hx hb dX1_flow_60 rfl (lv_at hl 3 rfl) ?_
        refine lv_bipush (v := 8) hx hb dX1_flow_61 (by decide) ?_
        refine lv_icmp_lt (tgt := 77) hx hb dX1_flow_63 (by decide) (fun c_6 => ?_) (fun c_6 => ?_)
        · have h := h.1 c_6
          refine lv_iload_n hx hb dX1_flow_77 rfl (lv_at hl 0 rfl) ?_
          exact W.iret (v := (((((T 1) ((x).toNatClampNeg)) * ((T 2) ((x).toNatClampNeg))) * y) / 10)) hx hb hr (fun t ht hW => ⟨⟨(((((T 1) ((x).toNatClampNeg)) * ((T 2) ((x).toNatClampNeg))) * y) / 10), (), rfl, h, by rw [ht]; exact hP, hD⟩, hS.F ht⟩) hS.2.2 dX1_flow_78
        · have h := h.2 c_6
          refine lv_iload_n hx hb dX1_flow_66 rfl (lv_at hl 0 rfl) ?_
          refine lv_aload_n hx hb dX1_flow_67 rfl (lv_at hl 1 rfl) ?_
          refine va_get (D := G) (ci := 1) (v := .ref k2) (C := RX1) (T := TX1) (N := 6) hx hb hts hinX1 hown hK hP 0 rfl rfl 1 (by decide) hL15 (fun _ h9 => h9) rfl dX1_flow_68 ?_
          refine lv_iload_n hx hb dX1_flow_71 rfl (lv_at hl 2 rfl) ?_
          refine k_ald (f := (T 1)) (j := (x).toNatClampNeg) (v := ((T 1) ((x).toNatClampNeg))) hx hb hK hP 2 0 rfl rfl hi_3 rfl rfl dX1_flow_72 ?_
          refine lv_iadd hx hb dX1_flow_73 ?_
          refine lv_goto (tgt := 78) hx hb dX1_flow_74 (by decide) ?_
          exact W.iret (v := ((((((T 1) ((x).toNatClampNeg)) * ((T 2) ((x).toNatClampNeg))) * y) / 10) + ((T 1) ((x).toNatClampNeg)))) hx hb hr (fun t ht hW => ⟨⟨((((((T 1) ((x).toNatClampNeg)) * ((T 2) ((x).toNatClampNeg))) * y) / 10) + ((T 1) ((x).toNatClampNeg))), (), rfl, h, by rw [ht]; exact hP, hD⟩, hS.F ht⟩) hS.2.2 dX1_flow_78
    · have h := h.1 c_4
      refine lv_aload_n hx hb dX1_flow_18 rfl (lv_at hl 0 rfl) ?_
      refine va_get (D := G) (ci := 1) (v := .ref k3) (C := RX1) (T := TX1) (N := 6) hx hb hts hinX1 hown hK hP 0 rfl rfl 2 (by decide) hL18 (fun _ h9 => h9) rfl dX1_flow_19 ?_
      refine lv_iload_n hx hb dX1_flow_22 rfl (lv_at hl 1 rfl) ?_
      refine k_ald (f := (T 2)) (j := (x).toNatClampNeg) (v := ((T 2) ((x).toNatClampNeg))) hx hb hK hP 3 0 rfl rfl hi_3 rfl rfl dX1_flow_23 ?_
      refine lv_bipush (v := 10) hx hb dX1_flow_24 (by decide) ?_
      refine lv_icmp_ge (tgt := 31) hx hb dX1_flow_26 (by decide) (fun c_7 => ?_) (fun c_7 => ?_)
      · have h := h.1 c_7
        refine lv_aload_n hx hb dX1_flow_31 rfl (lv_at hl 0 rfl) ?_
        refine va_get (D := G) (ci := 1) (v := .ref k2) (C := RX1) (T := TX1) (N := 6) hx hb hts hinX1 hown hK hP 0 rfl rfl 1 (by decide) hL15 (fun _ h9 => h9) rfl dX1_flow_32 ?_
        refine lv_iload_n hx hb dX1_flow_35 rfl (lv_at hl 1 rfl) ?_
        refine k_ald (f := (T 1)) (j := (x).toNatClampNeg) (v := ((T 1) ((x).toNatClampNeg))) hx hb hK hP 2 0 rfl rfl hi_3 rfl rfl dX1_flow_36 ?_
        refine lv_aload_n hx hb dX1_flow_37 rfl (lv_at hl 0 rfl) ?_
        refine va_get (D := G) (ci := 1) (v := .ref k3) (C := RX1) (T := TX1) (N := 6) hx hb hts hinX1 hown hK hP 0 rfl rfl 2 (by decide) hL18 (fun _ h9 => h9) rfl dX1_flow_38 ?_
        refine lv_iload_n hx hb dX1_flow_41 rfl (lv_at hl 1 rfl) ?_
        refine k_ald (f := (T 2)) (j := (x).toNatClampNeg) (v := ((T 2) ((x).toNatClampNeg))) hx hb hK hP 3 0 rfl rfl hi_3 rfl rfl dX1_flow_42 ?_
        refine lv_imul hx hb dX1_flow_43 ?_
        refine lv_iload_n hx hb dX1_flow_44 rfl (lv_at hl 2 rfl) ?_
        refine lv_imul hx hb dX1_flow_45 ?_
        refine lv_bipush (v := 10) hx hb dX1_flow_46 (by decide) ?_
        refine lv_idiv hx hb dX1_flow_48 (by decide) ?_
        refine lv_istore_n (lv' := [(3, .int (((((T 1) ((x).toNatClampNeg)) * ((T 2) ((x).toNatClampNeg))) * y) / 10)), (0, .ref k0), (1, .int x), (2, .int y)]) hx hb dX1_flow_49 rfl hl (by decide) rfl (fun ls hl => ?_)
        refine lv_aload_n hx hb dX1_flow_50 rfl (lv_at hl 1 rfl) ?_
        refine va_get (D := G) (ci := 1) (v := .ref k1) (C := RX1) (T := TX1) (N := 6) hx hb hts hinX1 hown hK hP 0 rfl rfl 0 (by decide) hL9 (fun _ h9 => h9) rfl dX1_flow_51 ?_
        refine lv_iload_n hx hb dX1_flow_54 rfl (lv_at hl 2 rfl) ?_
        refine k_ald (f := (T 0)) (j := (x).toNatClampNeg) (v := ((T 0) ((x).toNatClampNeg))) hx hb hK hP 1 0 rfl rfl hi_3 rfl rfl dX1_flow_55 ?_
        refine lv_iconst (v := 1) hx hb dX1_flow_56 (by decide) ?_
        refine lv_icmp_ne (tgt := 77) hx hb dX1_flow_57 (by decide) (fun c_8 => ?_) (fun c_8 => ?_)
        · have h := h.2 c_8
          refine lv_iload_n hx hb dX1_flow_77 rfl (lv_at hl 0 rfl) ?_
          exact W.iret (v := (((((T 1) ((x).toNatClampNeg)) * ((T 2) ((x).toNatClampNeg))) * y) / 10)) hx hb hr (fun t ht hW => ⟨⟨(((((T 1) ((x).toNatClampNeg)) * ((T 2) ((x).toNatClampNeg))) * y) / 10), (), rfl, h, by rw [ht]; exact hP, hD⟩, hS.F ht⟩) hS.2.2 dX1_flow_78
        · have h := h.1 c_8
          refine lv_iload_n hx hb dX1_flow_60 rfl (lv_at hl 3 rfl) ?_
          refine lv_bipush (v := 8) hx hb dX1_flow_61 (by decide) ?_
          refine lv_icmp_lt (tgt := 77) hx hb dX1_flow_63 (by decide) (fun c_9 => ?_) (fun c_9 => ?_)
          · have h := h.1 c_9
            refine lv_iload_n hx hb dX1_flow_77 rfl (lv_at hl 0 rfl) ?_
            exact W.iret (v := (((((T 1) ((x).toNatClampNeg)) * ((T 2) ((x).toNatClampNeg))) * y) / 10)) hx hb hr (fun t ht hW => ⟨⟨(((((T 1) ((x).toNatClampNeg)) * ((T 2) ((x).toNatClampNeg))) * y) / 10), (), rfl, h, by rw [ht]; exact hP, hD⟩, hS.F ht⟩) hS.2.2 dX1_flow_78
          · have h := h.2 c_9
            refine lv_iload_n hx hb dX1_flow_66 rfl (lv_at hl 0 rfl) ?_
            refine lv_aload_n hx hb dX1_flow_67 rfl (lv_at hl 1 rfl) ?_
            refine va_get (D := G) (ci := 1) (v := .ref k2) (C := RX1) (T := TX1) (N := 6) hx hb hts hinX1 hown hK hP 0 rfl rfl 1 (by decide) hL15 (fun _ h9 => h9) rfl dX1_flow_68 ?_
            refine lv_iload_n hx hb dX1_flow_71 rfl (lv_at hl 2 rfl) ?_
            refine k_ald (f := (T 1)) (j := (x).toNatClampNeg) (v := ((T 1) ((x).toNatClampNeg))) hx hb hK hP 2 0 rfl rfl hi_3 rfl rfl dX1_flow_72 ?_
            refine lv_iadd hx hb dX1_flow_73 ?_
            refine lv_goto (tgt := 78) hx hb dX1_flow_74 (by decide) ?_
            exact W.iret (v := ((((((T 1) ((x).toNatClampNeg)) * ((T 2) ((x).toNatClampNeg))) * y) / 10) + ((T 1) ((x).toNatClampNeg)))) hx hb hr (fun t ht hW => ⟨⟨((((((T 1) ((x).toNatClampNeg)) * ((T 2) ((x).toNatClampNeg))) * y) / 10) + ((T 1) ((x).toNatClampNeg))), (), rfl, h, by rw [ht]; exact hP, hD⟩, hS.F ht⟩) hS.2.2 dX1_flow_78
      · have h := h.2 c_7
        refine lv_iconst (v := 0) hx hb dX1_flow_29 (by decide) ?_
        exact W.iret (v := 0) hx hb hr (fun t ht hW => ⟨⟨0, (), rfl, h, by rw [ht]; exact hP, hD⟩, hS.F ht⟩) hS.2.2 dX1_flow_30
def q_X1_letOut (x : Int32) (y : Int32) (T : St) (Q : St → Prop) : Prop :=
  q_X1_has x T (fun r_1 => (r_1 = 0 → Q T) ∧ (¬ (r_1 = 0) → vp_in x 8 ∧ (Q (uA T 3 (upd (T 3) ((x).toNatClampNeg) (((T 3) ((x).toNatClampNeg)) + y))))))
set_option maxHeartbeats 4000000 in
set_option maxRecDepth 100000 in
theorem c_X1_letOut (l : Launch) (G : va_G) (cI cC cD : ClassId) (k0 k1 k2 k3 k4 k5 : Nat) (sz : Nat) (T : St) (x : Int32) (y : Int32) (Q : St → Prop) (h : q_X1_letOut x y T Q) : Met l yX1_letOut wsX1_letOut ({ frames := 1, cells := 0, slots := 0, locals := 21 }) (va_Pc [.ref k0, .int x, .int y] (PW G (ty3 cI cC cD) (wG cI k0 k1 k2 k3 k4 k5 T) sz)) (va_Qv Q (BW G (fun u : St => (wG cI k0 k1 k2 k3 k4 k5 u)) (va_A (wG cI k0 k1 k2 k3 k4 k5 T) sz)) (va_A (wG cI k0 k1 k2 k3 k4 k5 T) sz)) 0 0 (va_A (wG cI k0 k1 k2 k3 k4 k5 T) sz) := by
  refine Met.ofW (cc := cX1_letOut) (maxL := 3) (ret := none) (by decide) rfl ?_
  intro p e s m args below meth c s₁ B hml hv
  obtain ⟨rfl, hsz, hP, hK, hD0, hN⟩ := hv
  have hx := B.exec
  have hb := B.bytes
  have hr := B.returns
  have hts := atoms_spec (ws := wsX1_letOut) B.pre
  have hown : s.vm.findClass RX1 = some m.cls := findClass_of_methodNamed B.named
  have hlocks := B.notSynchronized
  subst hsz
  have hD := hD0.self (sz := s.heap.size)
  generalize hAe : va_A (wG cI k0 k1 k2 k3 k4 k5 T) s.heap.size = A at hD ⊢
  have hA : ∀ q : Nat, s.heap.size ≤ q → A q := fun q h => by rw [← hAe]; exact Or.inr h
  have hS : va_S A s.heap s.heap [] := va_S.rf
  have hl := lv_entry ([.ref k0, .int x, .int y]) (n := 3) (Nat.le_of_ble_eq_true rfl)
  rw [lg_entry_eq]
  generalize (lg_sl ([.ref k0, .int x, .int y]) ++ List.replicate (3 - (lg_sl ([.ref k0, .int x, .int y])).length) Slot.unset).toArray = ls at hl ⊢
  have hl : lv_has ls 3 [(0, .ref k0), (1, .int x), (2, .int y)] := hl
  have hinX1 : ∀ w ∈ wsX10, w ∈ wsX1_letOut := by decide +kernel
  have hL21 := hts (.fieldLink RX1 21 "CraneGates$Gates" "waterOut" "[I") (by decide +kernel)
  unfold q_X1_letOut at h
  refine lv_aload_n hx hb dX1_letOut_0 rfl (lv_at hl 0 rfl) ?_
  refine lv_iload_n hx hb dX1_letOut_1 rfl (lv_at hl 1 rfl) ?_
  refine kc_i (As := [.int x]) (rest := []) (wg := (fun _ => (wG cI k0 k1 k2 k3 k4 k5 T))) ⟨hx, hb, hml, hown, hts⟩ (c_X1_has l G cI cC cD k0 k1 k2 k3 k4 k5 _ T x _ h) (cwV 1 hts gX1_letOut_X1_has rfl rfl rfl (by decide +kernel) ⟨Nat.le_of_ble_eq_true rfl, Nat.le_of_ble_eq_true rfl⟩) hK hN hP hD hS hA (em_GG cI k0 k1 k2 k3 k4 k5 T) (fun _ => rp_self (em_GG cI k0 k1 k2 k3 k4 k5 T)) rfl rfl rfl rfl hl.1 rfl (Nat.le_of_ble_eq_true rfl) dX1_letOut_2 ⟨Nat.zero_le _, Nat.zero_le _⟩ (fun r_1 _ H locs h hP hD hS => ?_)
  refine lv_if_eq (tgt := 18) hx hb dX1_letOut_5 (by decide) (fun c_2 => ?_) (fun c_2 => ?_)
  · have h := h.1 c_2
    exact W.vret hx hb hr (fun t ht hW => ⟨⟨T, rfl, h, by rw [ht]; exact hP, hD⟩, hS.F ht⟩) hS.2.2 dX1_letOut_18
  · have h := h.2 c_2
    refine lv_aload_n hx hb dX1_letOut_8 rfl (lv_at hl 0 rfl) ?_
    refine va_get (D := G) (ci := 1) (v := .ref k4) (C := RX1) (T := TX1) (N := 6) hx hb hts hinX1 hown hK hP 0 rfl rfl 3 (by decide) hL21 (fun _ h9 => h9) rfl dX1_letOut_9 ?_
    refine lv_iload_n hx hb dX1_letOut_12 rfl (lv_at hl 1 rfl) ?_
    refine lv_dup2_11 hx hb dX1_letOut_13 rfl rfl ?_
    obtain ⟨hi_3, h⟩ := h
    refine k_ald (f := (T 3)) (j := (x).toNatClampNeg) (v := ((T 3) ((x).toNatClampNeg))) hx hb hK hP 4 0 rfl rfl hi_3 rfl rfl dX1_letOut_14 ?_
    refine lv_iload_n hx hb dX1_letOut_15 rfl (lv_at hl 2 rfl) ?_
    refine lv_iadd hx hb dX1_letOut_16 ?_
    refine k_ast (f := (T 3)) (j := (x).toNatClampNeg) (ws' := (wG cI k0 k1 k2 k3 k4 k5 (uA T 3 (upd (T 3) ((x).toNatClampNeg) (((T 3) ((x).toNatClampNeg)) + y))))) hx hb hK hP hD hS 4 0 rfl rfl hi_3 rfl dX1_letOut_17 rfl (fun H locs hP hD hS => ?_)
    exact W.vret hx hb hr (fun t ht hW => ⟨⟨(uA T 3 (upd (T 3) ((x).toNatClampNeg) (((T 3) ((x).toNatClampNeg)) + y))), rfl, h, by rw [ht]; exact hP, hD⟩, hS.F ht⟩) hS.2.2 dX1_letOut_18
def q_X1_moveTowards (x : Int32) (y : Int32) (T : St) (Q : St → Prop) : Prop :=
  q_X1_has x T (fun r_1 => (r_1 = 0 → Q T) ∧ (¬ (r_1 = 0) → vp_in x 8 ∧ ((((T 0) ((x).toNatClampNeg)) = 2 → (0 ≤ (y - ((T 2) ((x).toNatClampNeg))) → Q (uA (uA T 2 (upd (T 2) ((x).toNatClampNeg) (((T 2) ((x).toNatClampNeg)) + (if (if 0 ≤ (y - ((T 2) ((x).toNatClampNeg))) then (y - ((T 2) ((x).toNatClampNeg))) else 0 - (y - ((T 2) ((x).toNatClampNeg)))) < 2 then (if 0 ≤ (y - ((T 2) ((x).toNatClampNeg))) then (y - ((T 2) ((x).toNatClampNeg))) else 0 - (y - ((T 2) ((x).toNatClampNeg)))) else 2)))) 4 (upd (T 4) ((x).toNatClampNeg) (((T 4) ((x).toNatClampNeg)) + 1)))) ∧ (¬ (0 ≤ (y - ((T 2) ((x).toNatClampNeg)))) → Q (uA (uA T 2 (upd (T 2) ((x).toNatClampNeg) (((T 2) ((x).toNatClampNeg)) + (-(if (if 0 ≤ (y - ((T 2) ((x).toNatClampNeg))) then (y - ((T 2) ((x).toNatClampNeg))) else 0 - (y - ((T 2) ((x).toNatClampNeg)))) < 2 then (if 0 ≤ (y - ((T 2) ((x).toNatClampNeg))) then (y - ((T 2) ((x).toNatClampNeg))) else 0 - (y - ((T 2) ((x).toNatClampNeg)))) else 2))))) 4 (upd (T 4) ((x).toNatClampNeg) (((T 4) ((x).toNatClampNeg)) + 1))))) ∧ (¬ (((T 0) ((x).toNatClampNeg)) = 2) → (0 ≤ (y - ((T 2) ((x).toNatClampNeg))) → Q (uA (uA T 2 (upd (T 2) ((x).toNatClampNeg) (((T 2) ((x).toNatClampNeg)) + (if (if 0 ≤ (y - ((T 2) ((x).toNatClampNeg))) then (y - ((T 2) ((x).toNatClampNeg))) else 0 - (y - ((T 2) ((x).toNatClampNeg)))) < 1 then (if 0 ≤ (y - ((T 2) ((x).toNatClampNeg))) then (y - ((T 2) ((x).toNatClampNeg))) else 0 - (y - ((T 2) ((x).toNatClampNeg)))) else 1)))) 4 (upd (T 4) ((x).toNatClampNeg) (((T 4) ((x).toNatClampNeg)) + 1)))) ∧ (¬ (0 ≤ (y - ((T 2) ((x).toNatClampNeg)))) → Q (uA (uA T 2 (upd (T 2) ((x).toNatClampNeg) (((T 2) ((x).toNatClampNeg)) + (-(if (if 0 ≤ (y - ((T 2) ((x).toNatClampNeg))) then (y - ((T 2) ((x).toNatClampNeg))) else 0 - (y - ((T 2) ((x).toNatClampNeg)))) < 1 then (if 0 ≤ (y - ((T 2) ((x).toNatClampNeg))) then (y - ((T 2) ((x).toNatClampNeg))) else 0 - (y - ((T 2) ((x).toNatClampNeg)))) else 1))))) 4 (upd (T 4) ((x).toNatClampNeg) (((T 4) ((x).toNatClampNeg)) + 1))))))))
set_option maxHeartbeats 4000000 in
set_option maxRecDepth 100000 in
theorem c_X1_moveTowards (l : Launch) (G : va_G) (cI cC cD : ClassId) (k0 k1 k2 k3 k4 k5 : Nat) (sz : Nat) (T : St) (x : Int32) (y : Int32) (Q : St → Prop) (h : q_X1_moveTowards x y T Q) : Met l yX1_moveTowards wsX1_moveTowards ({ frames := 1, cells := 0, slots := 0, locals := 21 }) (va_Pc [.ref k0, .int x, .int y] (PW G (ty3 cI cC cD) (wG cI k0 k1 k2 k3 k4 k5 T) sz)) (va_Qv Q (BW G (fun u : St => (wG cI k0 k1 k2 k3 k4 k5 u)) (va_A (wG cI k0 k1 k2 k3 k4 k5 T) sz)) (va_A (wG cI k0 k1 k2 k3 k4 k5 T) sz)) 0 0 (va_A (wG cI k0 k1 k2 k3 k4 k5 T) sz) := by
  refine Met.ofW (cc := cX1_moveTowards) (maxL := 5) (ret := none) (by decide) rfl ?_
  intro p e s m args below meth c s₁ B hml hv
  obtain ⟨rfl, hsz, hP, hK, hD0, hN⟩ := hv
  have hx := B.exec
  have hb := B.bytes
  have hr := B.returns
  have hts := atoms_spec (ws := wsX1_moveTowards) B.pre
  have hown : s.vm.findClass RX1 = some m.cls := findClass_of_methodNamed B.named
  have hlocks := B.notSynchronized
  subst hsz
  have hD := hD0.self (sz := s.heap.size)
  generalize hAe : va_A (wG cI k0 k1 k2 k3 k4 k5 T) s.heap.size = A at hD ⊢
  have hA : ∀ q : Nat, s.heap.size ≤ q → A q := fun q h => by rw [← hAe]; exact Or.inr h
  have hS : va_S A s.heap s.heap [] := va_S.rf
  have hl := lv_entry ([.ref k0, .int x, .int y]) (n := 5) (Nat.le_of_ble_eq_true rfl)
  rw [lg_entry_eq]
  generalize (lg_sl ([.ref k0, .int x, .int y]) ++ List.replicate (5 - (lg_sl ([.ref k0, .int x, .int y])).length) Slot.unset).toArray = ls at hl ⊢
  have hl : lv_has ls 5 [(0, .ref k0), (1, .int x), (2, .int y)] := hl
  have hinX1 : ∀ w ∈ wsX10, w ∈ wsX1_moveTowards := by decide +kernel
  have hL9 := hts (.fieldLink RX1 9 "CraneGates$Gates" "kinds" "[I") (by decide +kernel)
  have hL18 := hts (.fieldLink RX1 18 "CraneGates$Gates" "openings" "[I") (by decide +kernel)
  have hL24 := hts (.fieldLink RX1 24 "CraneGates$Gates" "moves" "[I") (by decide +kernel)
  unfold q_X1_moveTowards at h
  refine lv_aload_n hx hb dX1_moveTowards_0 rfl (lv_at hl 0 rfl) ?_
  refine lv_iload_n hx hb dX1_moveTowards_1 rfl (lv_at hl 1 rfl) ?_
  refine kc_i (As := [.int x]) (rest := []) (wg := (fun _ => (wG cI k0 k1 k2 k3 k4 k5 T))) ⟨hx, hb, hml, hown, hts⟩ (c_X1_has l G cI cC cD k0 k1 k2 k3 k4 k5 _ T x _ h) (cwV 1 hts gX1_moveTowards_X1_has rfl rfl rfl (by decide +kernel) ⟨Nat.le_of_ble_eq_true rfl, Nat.le_of_ble_eq_true rfl⟩) hK hN hP hD hS hA (em_GG cI k0 k1 k2 k3 k4 k5 T) (fun _ => rp_self (em_GG cI k0 k1 k2 k3 k4 k5 T)) rfl rfl rfl rfl hl.1 rfl (Nat.le_of_ble_eq_true rfl) dX1_moveTowards_2 ⟨Nat.zero_le _, Nat.zero_le _⟩ (fun r_1 _ H locs h hP hD hS => ?_)
  refine lv_if_ne (tgt := 9) hx hb dX1_moveTowards_5 (by decide) (fun c_2 => ?_) (fun c_2 => ?_)
  · have h := h.2 c_2
    refine lv_iload_n hx hb dX1_moveTowards_9 rfl (lv_at hl 2 rfl) ?_
    refine lv_aload_n hx hb dX1_moveTowards_10 rfl (lv_at hl 0 rfl) ?_
    refine va_get (D := G) (ci := 1) (v := .ref k3) (C := RX1) (T := TX1) (N := 6) hx hb hts hinX1 hown hK hP 0 rfl rfl 2 (by decide) hL18 (fun _ h9 => h9) rfl dX1_moveTowards_11 ?_
    refine lv_iload_n hx hb dX1_moveTowards_14 rfl (lv_at hl 1 rfl) ?_
    obtain ⟨hi_3, h⟩ := h
    refine k_ald (f := (T 2)) (j := (x).toNatClampNeg) (v := ((T 2) ((x).toNatClampNeg))) hx hb hK hP 3 0 rfl rfl hi_3 rfl rfl dX1_moveTowards_15 ?_
    refine lv_isub hx hb dX1_moveTowards_16 ?_
    refine lv_istore_n (lv' := [(3, .int (y - ((T 2) ((x).toNatClampNeg)))), (0, .ref k0), (1, .int x), (2, .int y)]) hx hb dX1_moveTowards_17 rfl hl (by decide) rfl (fun ls hl => ?_)
    refine lv_aload_n hx hb dX1_moveTowards_18 rfl (lv_at hl 1 rfl) ?_
    refine va_get (D := G) (ci := 1) (v := .ref k1) (C := RX1) (T := TX1) (N := 6) hx hb hts hinX1 hown hK hP 0 rfl rfl 0 (by decide) hL9 (fun _ h9 => h9) rfl dX1_moveTowards_19 ?_
    refine lv_iload_n hx hb dX1_moveTowards_22 rfl (lv_at hl 2 rfl) ?_
    refine k_ald (f := (T 0)) (j := (x).toNatClampNeg) (v := ((T 0) ((x).toNatClampNeg))) hx hb hK hP 1 0 rfl rfl hi_3 rfl rfl dX1_moveTowards_23 ?_
    refine lv_iconst (v := 2) hx hb dX1_moveTowards_24 (by decide) ?_
    refine lv_icmp_ne (tgt := 32) hx hb dX1_moveTowards_25 (by decide) (fun c_4 => ?_) (fun c_4 => ?_)
    · have h := h.2 c_4
      refine lv_iconst (v := 1) hx hb dX1_moveTowards_32 (by decide) ?_
      refine lv_iload_n hx hb dX1_moveTowards_33 rfl (lv_at hl 0 rfl) ?_
      refine va_mabs hx hb (hl.1 ▸ hml) hown (hts (.methodLink RX1 45 Lib.Math.abs.name) (by decide +kernel)) (hts (.static Lib.Math.abs.name) (by decide +kernel)) (hts (.initialized "java/lang/Math") (by decide +kernel)) (hts (.code Lib.Math.abs.name Lib.Math.abs.code 1 (some .int)) (by decide +kernel)) (Nat.le_of_ble_eq_true rfl) (Nat.le_of_ble_eq_true rfl) (Nat.zero_le _) (Nat.zero_le _) dX1_moveTowards_34 ?_
      refine va_mmin hx hb (hl.1 ▸ hml) hown (hts (.methodLink RX1 51 Lib.Math.min.name) (by decide +kernel)) (hts (.static Lib.Math.min.name) (by decide +kernel)) (hts (.initialized "java/lang/Math") (by decide +kernel)) (hts (.code Lib.Math.min.name Lib.Math.min.code 2 (some .int)) (by decide +kernel)) (Nat.le_of_ble_eq_true rfl) (Nat.le_of_ble_eq_true rfl) (Nat.zero_le _) (Nat.zero_le _) dX1_moveTowards_37 ?_
      refine lv_istore (lv' := [(4, .int (if (if 0 ≤ (y - ((T 2) ((x).toNatClampNeg))) then (y - ((T 2) ((x).toNatClampNeg))) else 0 - (y - ((T 2) ((x).toNatClampNeg)))) < 1 then (if 0 ≤ (y - ((T 2) ((x).toNatClampNeg))) then (y - ((T 2) ((x).toNatClampNeg))) else 0 - (y - ((T 2) ((x).toNatClampNeg)))) else 1)), (3, .int (y - ((T 2) ((x).toNatClampNeg)))), (0, .ref k0), (1, .int x), (2, .int y)]) hx hb dX1_moveTowards_40 hl (by decide) rfl (fun ls hl => ?_)
      refine lv_aload_n hx hb dX1_moveTowards_42 rfl (lv_at hl 2 rfl) ?_
      refine va_get (D := G) (ci := 1) (v := .ref k3) (C := RX1) (T := TX1) (N := 6) hx hb hts hinX1 hown hK hP 0 rfl rfl 2 (by decide) hL18 (fun _ h9 => h9) rfl dX1_moveTowards_43 ?_
      refine lv_iload_n hx hb dX1_moveTowards_46 rfl (lv_at hl 3 rfl) ?_
      refine lv_dup2_11 hx hb dX1_moveTowards_47 rfl rfl ?_
      refine k_ald (f := (T 2)) (j := (x).toNatClampNeg) (v := ((T 2) ((x).toNatClampNeg))) hx hb hK hP 3 0 rfl rfl hi_3 rfl rfl dX1_moveTowards_48 ?_
      refine lv_iload_n hx hb dX1_moveTowards_49 rfl (lv_at hl 1 rfl) ?_
      refine lv_if_ge (tgt := 59) hx hb dX1_moveTowards_50 (by decide) (fun c_5 => ?_) (fun c_5 => ?_)
      · have h := h.1 c_5
        refine lv_iload hx hb dX1_moveTowards_59 (lv_at hl 0 rfl) ?_
        refine lv_iadd hx hb dX1_moveTowards_61 ?_
        refine k_ast (f := (T 2)) (j := (x).toNatClampNeg) (ws' := (wG cI k0 k1 k2 k3 k4 k5 (uA T 2 (upd (T 2) ((x).toNatClampNeg) (((T 2) ((x).toNatClampNeg)) + (if (if 0 ≤ (y - ((T 2) ((x).toNatClampNeg))) then (y - ((T 2) ((x).toNatClampNeg))) else 0 - (y - ((T 2) ((x).toNatClampNeg)))) < 1 then (if 0 ≤ (y - ((T 2) ((x).toNatClampNeg))) then (y - ((T 2) ((x).toNatClampNeg))) else 0 - (y - ((T 2) ((x).toNatClampNeg)))) else 1)))))) hx hb hK hP hD hS 3 0 rfl rfl hi_3 rfl dX1_moveTowards_62 rfl (fun H locs hP hD hS => ?_)
        refine lv_aload_n hx hb dX1_moveTowards_63 rfl (lv_at hl 2 rfl) ?_
        refine va_get (D := G) (ci := 1) (v := .ref k5) (C := RX1) (T := TX1) (N := 6) hx hb hts hinX1 hown hK hP 0 rfl rfl 4 (by decide) hL24 (fun _ h9 => h9) rfl dX1_moveTowards_64 ?_
        refine lv_iload_n hx hb dX1_moveTowards_67 rfl (lv_at hl 3 rfl) ?_
        refine lv_dup2_11 hx hb dX1_moveTowards_68 rfl rfl ?_
        refine k_ald (f := (T 4)) (j := (x).toNatClampNeg) (v := ((T 4) ((x).toNatClampNeg))) hx hb hK hP 5 0 rfl rfl hi_3 rfl rfl dX1_moveTowards_69 ?_
        refine lv_iconst (v := 1) hx hb dX1_moveTowards_70 (by decide) ?_
        refine lv_iadd hx hb dX1_moveTowards_71 ?_
        refine k_ast (f := (T 4)) (j := (x).toNatClampNeg) (ws' := (wG cI k0 k1 k2 k3 k4 k5 (uA (uA T 2 (upd (T 2) ((x).toNatClampNeg) (((T 2) ((x).toNatClampNeg)) + (if (if 0 ≤ (y - ((T 2) ((x).toNatClampNeg))) then (y - ((T 2) ((x).toNatClampNeg))) else 0 - (y - ((T 2) ((x).toNatClampNeg)))) < 1 then (if 0 ≤ (y - ((T 2) ((x).toNatClampNeg))) then (y - ((T 2) ((x).toNatClampNeg))) else 0 - (y - ((T 2) ((x).toNatClampNeg)))) else 1)))) 4 (upd (T 4) ((x).toNatClampNeg) (((T 4) ((x).toNatClampNeg)) + 1))))) hx hb hK hP hD hS 5 0 rfl rfl hi_3 rfl dX1_moveTowards_72 rfl (fun H locs hP hD hS => ?_)
        exact W.vret hx hb hr (fun t ht hW => ⟨⟨(uA (uA T 2 (upd (T 2) ((x).toNatClampNeg) (((T 2) ((x).toNatClampNeg)) + (if (if 0 ≤ (y - ((T 2) ((x).toNatClampNeg))) then (y - ((T 2) ((x).toNatClampNeg))) else 0 - (y - ((T 2) ((x).toNatClampNeg)))) < 1 then (if 0 ≤ (y - ((T 2) ((x).toNatClampNeg))) then (y - ((T 2) ((x).toNatClampNeg))) else 0 - (y - ((T 2) ((x).toNatClampNeg)))) else 1)))) 4 (upd (T 4) ((x).toNatClampNeg) (((T 4) ((x).toNatClampNeg)) + 1))), rfl, h, by rw [ht]; exact hP, hD⟩, hS.F ht⟩) hS.2.2 dX1_moveTowards_73
      · have h := h.2 c_5
        refine lv_iload hx hb dX1_moveTowards_53 (lv_at hl 0 rfl) ?_
        refine lv_ineg hx hb dX1_moveTowards_55 ?_
        refine lv_goto (tgt := 61) hx hb dX1_moveTowards_56 (by decide) ?_
        refine lv_iadd hx hb dX1_moveTowards_61 ?_
        refine k_ast (f := (T 2)) (j := (x).toNatClampNeg) (ws' := (wG cI k0 k1 k2 k3 k4 k5 (uA T 2 (upd (T 2) ((x).toNatClampNeg) (((T 2) ((x).toNatClampNeg)) + (-(if (if 0 ≤ (y - ((T 2) ((x).toNatClampNeg))) then (y - ((T 2) ((x).toNatClampNeg))) else 0 - (y - ((T 2) ((x).toNatClampNeg)))) < 1 then (if 0 ≤ (y - ((T 2) ((x).toNatClampNeg))) then (y - ((T 2) ((x).toNatClampNeg))) else 0 - (y - ((T 2) ((x).toNatClampNeg)))) else 1))))))) hx hb hK hP hD hS 3 0 rfl rfl hi_3 rfl dX1_moveTowards_62 rfl (fun H locs hP hD hS => ?_)
        refine lv_aload_n hx hb dX1_moveTowards_63 rfl (lv_at hl 2 rfl) ?_
        refine va_get (D := G) (ci := 1) (v := .ref k5) (C := RX1) (T := TX1) (N := 6) hx hb hts hinX1 hown hK hP 0 rfl rfl 4 (by decide) hL24 (fun _ h9 => h9) rfl dX1_moveTowards_64 ?_
        refine lv_iload_n hx hb dX1_moveTowards_67 rfl (lv_at hl 3 rfl) ?_
        refine lv_dup2_11 hx hb dX1_moveTowards_68 rfl rfl ?_
        refine k_ald (f := (T 4)) (j := (x).toNatClampNeg) (v := ((T 4) ((x).toNatClampNeg))) hx hb hK hP 5 0 rfl rfl hi_3 rfl rfl dX1_moveTowards_69 ?_
        refine lv_iconst (v := 1) hx hb dX1_moveTowards_70 (by decide) ?_
        refine lv_iadd hx hb dX1_moveTowards_71 ?_
        refine k_ast (f := (T 4)) (j := (x).toNatClampNeg) (ws' := (wG cI k0 k1 k2 k3 k4 k5 (uA (uA T 2 (upd (T 2) ((x).toNatClampNeg) (((T 2) ((x).toNatClampNeg)) + (-(if (if 0 ≤ (y - ((T 2) ((x).toNatClampNeg))) then (y - ((T 2) ((x).toNatClampNeg))) else 0 - (y - ((T 2) ((x).toNatClampNeg)))) < 1 then (if 0 ≤ (y - ((T 2) ((x).toNatClampNeg))) then (y - ((T 2) ((x).toNatClampNeg))) else 0 - (y - ((T 2) ((x).toNatClampNeg)))) else 1))))) 4 (upd (T 4) ((x).toNatClampNeg) (((T 4) ((x).toNatClampNeg)) + 1))))) hx hb hK hP hD hS 5 0 rfl rfl hi_3 rfl dX1_moveTowards_72 rfl (fun H locs hP hD hS => ?_)
        exact W.vret hx hb hr (fun t ht hW => ⟨⟨(uA (uA T 2 (upd (T 2) ((x).toNatClampNeg) (((T 2) ((x).toNatClampNeg)) + (-(if (if 0 ≤ (y - ((T 2) ((x).toNatClampNeg))) then (y - ((T 2) ((x).toNatClampNeg))) else 0 - (y - ((T 2) ((x).toNatClampNeg)))) < 1 then (if 0 ≤ (y - ((T 2) ((x).toNatClampNeg))) then (y - ((T 2) ((x).toNatClampNeg))) else 0 - (y - ((T 2) ((x).toNatClampNeg)))) else 1))))) 4 (upd (T 4) ((x).toNatClampNeg) (((T 4) ((x).toNatClampNeg)) + 1))), rfl, h, by rw [ht]; exact hP, hD⟩, hS.F ht⟩) hS.2.2 dX1_moveTowards_73
    · have h := h.1 c_4
      refine lv_iconst (v := 2) hx hb dX1_moveTowards_28 (by decide) ?_
      refine lv_goto (tgt := 33) hx hb dX1_moveTowards_29 (by decide) ?_
      refine lv_iload_n hx hb dX1_moveTowards_33 rfl (lv_at hl 0 rfl) ?_
      refine va_mabs hx hb (hl.1 ▸ hml) hown (hts (.methodLink RX1 45 Lib.Math.abs.name) (by decide +kernel)) (hts (.static Lib.Math.abs.name) (by decide +kernel)) (hts (.initialized "java/lang/Math") (by decide +kernel)) (hts (.code Lib.Math.abs.name Lib.Math.abs.code 1 (some .int)) (by decide +kernel)) (Nat.le_of_ble_eq_true rfl) (Nat.le_of_ble_eq_true rfl) (Nat.zero_le _) (Nat.zero_le _) dX1_moveTowards_34 ?_
      refine va_mmin hx hb (hl.1 ▸ hml) hown (hts (.methodLink RX1 51 Lib.Math.min.name) (by decide +kernel)) (hts (.static Lib.Math.min.name) (by decide +kernel)) (hts (.initialized "java/lang/Math") (by decide +kernel)) (hts (.code Lib.Math.min.name Lib.Math.min.code 2 (some .int)) (by decide +kernel)) (Nat.le_of_ble_eq_true rfl) (Nat.le_of_ble_eq_true rfl) (Nat.zero_le _) (Nat.zero_le _) dX1_moveTowards_37 ?_
      refine lv_istore (lv' := [(4, .int (if (if 0 ≤ (y - ((T 2) ((x).toNatClampNeg))) then (y - ((T 2) ((x).toNatClampNeg))) else 0 - (y - ((T 2) ((x).toNatClampNeg)))) < 2 then (if 0 ≤ (y - ((T 2) ((x).toNatClampNeg))) then (y - ((T 2) ((x).toNatClampNeg))) else 0 - (y - ((T 2) ((x).toNatClampNeg)))) else 2)), (3, .int (y - ((T 2) ((x).toNatClampNeg)))), (0, .ref k0), (1, .int x), (2, .int y)]) hx hb dX1_moveTowards_40 hl (by decide) rfl (fun ls hl => ?_)
      refine lv_aload_n hx hb dX1_moveTowards_42 rfl (lv_at hl 2 rfl) ?_
      refine va_get (D := G) (ci := 1) (v := .ref k3) (C := RX1) (T := TX1) (N := 6) hx hb hts hinX1 hown hK hP 0 rfl rfl 2 (by decide) hL18 (fun _ h9 => h9) rfl dX1_moveTowards_43 ?_
      refine lv_iload_n hx hb dX1_moveTowards_46 rfl (lv_at hl 3 rfl) ?_
      refine lv_dup2_11 hx hb dX1_moveTowards_47 rfl rfl ?_
      refine k_ald (f := (T 2)) (j := (x).toNatClampNeg) (v := ((T 2) ((x).toNatClampNeg))) hx hb hK hP 3 0 rfl rfl hi_3 rfl rfl dX1_moveTowards_48 ?_
      refine lv_iload_n hx hb dX1_moveTowards_49 rfl (lv_at hl 1 rfl) ?_
      refine lv_if_ge (tgt := 59) hx hb dX1_moveTowards_50 (by decide) (fun c_6 => ?_) (fun c_6 => ?_)
      · have h := h.1 c_6
        refine lv_iload hx hb dX1_moveTowards_59 (lv_at hl 0 rfl) ?_
        refine lv_iadd hx hb dX1_moveTowards_61 ?_
        refine k_ast (f := (T 2)) (j := (x).toNatClampNeg) (ws' := (wG cI k0 k1 k2 k3 k4 k5 (uA T 2 (upd (T 2) ((x).toNatClampNeg) (((T 2) ((x).toNatClampNeg)) + (if (if 0 ≤ (y - ((T 2) ((x).toNatClampNeg))) then (y - ((T 2) ((x).toNatClampNeg))) else 0 - (y - ((T 2) ((x).toNatClampNeg)))) < 2 then (if 0 ≤ (y - ((T 2) ((x).toNatClampNeg))) then (y - ((T 2) ((x).toNatClampNeg))) else 0 - (y - ((T 2) ((x).toNatClampNeg)))) else 2)))))) hx hb hK hP hD hS 3 0 rfl rfl hi_3 rfl dX1_moveTowards_62 rfl (fun H locs hP hD hS => ?_)
        refine lv_aload_n hx hb dX1_moveTowards_63 rfl (lv_at hl 2 rfl) ?_
        refine va_get (D := G) (ci := 1) (v := .ref k5) (C := RX1) (T := TX1) (N := 6) hx hb hts hinX1 hown hK hP 0 rfl rfl 4 (by decide) hL24 (fun _ h9 => h9) rfl dX1_moveTowards_64 ?_
        refine lv_iload_n hx hb dX1_moveTowards_67 rfl (lv_at hl 3 rfl) ?_
        refine lv_dup2_11 hx hb dX1_moveTowards_68 rfl rfl ?_
        refine k_ald (f := (T 4)) (j := (x).toNatClampNeg) (v := ((T 4) ((x).toNatClampNeg))) hx hb hK hP 5 0 rfl rfl hi_3 rfl rfl dX1_moveTowards_69 ?_
        refine lv_iconst (v := 1) hx hb dX1_moveTowards_70 (by decide) ?_
        refine lv_iadd hx hb dX1_moveTowards_71 ?_
        refine k_ast (f := (T 4)) (j := (x).toNatClampNeg) (ws' := (wG cI k0 k1 k2 k3 k4 k5 (uA (uA T 2 (upd (T 2) ((x).toNatClampNeg) (((T 2) ((x).toNatClampNeg)) + (if (if 0 ≤ (y - ((T 2) ((x).toNatClampNeg))) then (y - ((T 2) ((x).toNatClampNeg))) else 0 - (y - ((T 2) ((x).toNatClampNeg)))) < 2 then (if 0 ≤ (y - ((T 2) ((x).toNatClampNeg))) then (y - ((T 2) ((x).toNatClampNeg))) else 0 - (y - ((T 2) ((x).toNatClampNeg)))) else 2)))) 4 (upd (T 4) ((x).toNatClampNeg) (((T 4) ((x).toNatClampNeg)) + 1))))) hx hb hK hP hD hS 5 0 rfl rfl hi_3 rfl dX1_moveTowards_72 rfl (fun H locs hP hD hS => ?_)
        exact W.vret hx hb hr (fun t ht hW => ⟨⟨(uA (uA T 2 (upd (T 2) ((x).toNatClampNeg) (((T 2) ((x).toNatClampNeg)) + (if (if 0 ≤ (y - ((T 2) ((x).toNatClampNeg))) then (y - ((T 2) ((x).toNatClampNeg))) else 0 - (y - ((T 2) ((x).toNatClampNeg)))) < 2 then (if 0 ≤ (y - ((T 2) ((x).toNatClampNeg))) then (y - ((T 2) ((x).toNatClampNeg))) else 0 - (y - ((T 2) ((x).toNatClampNeg)))) else 2)))) 4 (upd (T 4) ((x).toNatClampNeg) (((T 4) ((x).toNatClampNeg)) + 1))), rfl, h, by rw [ht]; exact hP, hD⟩, hS.F ht⟩) hS.2.2 dX1_moveTowards_73
      · have h := h.2 c_6
        refine lv_iload hx hb dX1_moveTowards_53 (lv_at hl 0 rfl) ?_
        refine lv_ineg hx hb dX1_moveTowards_55 ?_
        refine lv_goto (tgt := 61) hx hb dX1_moveTowards_56 (by decide) ?_
        refine lv_iadd hx hb dX1_moveTowards_61 ?_
        refine k_ast (f := (T 2)) (j := (x).toNatClampNeg) (ws' := (wG cI k0 k1 k2 k3 k4 k5 (uA T 2 (upd (T 2) ((x).toNatClampNeg) (((T 2) ((x).toNatClampNeg)) + (-(if (if 0 ≤ (y - ((T 2) ((x).toNatClampNeg))) then (y - ((T 2) ((x).toNatClampNeg))) else 0 - (y - ((T 2) ((x).toNatClampNeg)))) < 2 then (if 0 ≤ (y - ((T 2) ((x).toNatClampNeg))) then (y - ((T 2) ((x).toNatClampNeg))) else 0 - (y - ((T 2) ((x).toNatClampNeg)))) else 2))))))) hx hb hK hP hD hS 3 0 rfl rfl hi_3 rfl dX1_moveTowards_62 rfl (fun H locs hP hD hS => ?_)
        refine lv_aload_n hx hb dX1_moveTowards_63 rfl (lv_at hl 2 rfl) ?_
        refine va_get (D := G) (ci := 1) (v := .ref k5) (C := RX1) (T := TX1) (N := 6) hx hb hts hinX1 hown hK hP 0 rfl rfl 4 (by decide) hL24 (fun _ h9 => h9) rfl dX1_moveTowards_64 ?_
        refine lv_iload_n hx hb dX1_moveTowards_67 rfl (lv_at hl 3 rfl) ?_
        refine lv_dup2_11 hx hb dX1_moveTowards_68 rfl rfl ?_
        refine k_ald (f := (T 4)) (j := (x).toNatClampNeg) (v := ((T 4) ((x).toNatClampNeg))) hx hb hK hP 5 0 rfl rfl hi_3 rfl rfl dX1_moveTowards_69 ?_
        refine lv_iconst (v := 1) hx hb dX1_moveTowards_70 (by decide) ?_
        refine lv_iadd hx hb dX1_moveTowards_71 ?_
        refine k_ast (f := (T 4)) (j := (x).toNatClampNeg) (ws' := (wG cI k0 k1 k2 k3 k4 k5 (uA (uA T 2 (upd (T 2) ((x).toNatClampNeg) (((T 2) ((x).toNatClampNeg)) + (-(if (if 0 ≤ (y - ((T 2) ((x).toNatClampNeg))) then (y - ((T 2) ((x).toNatClampNeg))) else 0 - (y - ((T 2) ((x).toNatClampNeg)))) < 2 then (if 0 ≤ (y - ((T 2) ((x).toNatClampNeg))) then (y - ((T 2) ((x).toNatClampNeg))) else 0 - (y - ((T 2) ((x).toNatClampNeg)))) else 2))))) 4 (upd (T 4) ((x).toNatClampNeg) (((T 4) ((x).toNatClampNeg)) + 1))))) hx hb hK hP hD hS 5 0 rfl rfl hi_3 rfl dX1_moveTowards_72 rfl (fun H locs hP hD hS => ?_)
        exact W.vret hx hb hr (fun t ht hW => ⟨⟨(uA (uA T 2 (upd (T 2) ((x).toNatClampNeg) (((T 2) ((x).toNatClampNeg)) + (-(if (if 0 ≤ (y - ((T 2) ((x).toNatClampNeg))) then (y - ((T 2) ((x).toNatClampNeg))) else 0 - (y - ((T 2) ((x).toNatClampNeg)))) < 2 then (if 0 ≤ (y - ((T 2) ((x).toNatClampNeg))) then (y - ((T 2) ((x).toNatClampNeg))) else 0 - (y - ((T 2) ((x).toNatClampNeg)))) else 2))))) 4 (upd (T 4) ((x).toNatClampNeg) (((T 4) ((x).toNatClampNeg)) + 1))), rfl, h, by rw [ht]; exact hP, hD⟩, hS.F ht⟩) hS.2.2 dX1_moveTowards_73
  · have h := h.1 c_2
    exact W.vret hx hb hr (fun t ht hW => ⟨⟨T, rfl, h, by rw [ht]; exact hP, hD⟩, hS.F ht⟩) hS.2.2 dX1_moveTowards_8
def q_X1_nearestNotOpen (x : Int32) (T : St) (Q : Int32 → Prop) : Prop :=
  ∃ (I_2 : Nat → Int32 → Int32 → Prop) (n_6 : Nat), I_2 n_6 0 (-1) ∧ ∀ (n_1 : Nat) (x3_3 : Int32) (x2_4 : Int32), I_2 n_1 x3_3 x2_4 → (((T 5 0) ≤ x3_3 → Q x2_4) ∧ (¬ ((T 5 0) ≤ x3_3) → (8 ≤ x3_3 → Q x2_4) ∧ (¬ (8 ≤ x3_3) → (x2_4 = (-1) → vp_in x3_3 8 ∧ ((((T 2) ((x3_3).toNatClampNeg)) = 10 → ∃ n_15, n_15 < n_1 ∧ I_2 n_15 (x3_3 + 1) x2_4) ∧ (¬ (((T 2) ((x3_3).toNatClampNeg)) = 10) → ∃ n_18, n_18 < n_1 ∧ I_2 n_18 (x3_3 + 1) x3_3))) ∧ (¬ (x2_4 = (-1)) → ((if 0 ≤ (x2_4 - x) then (x2_4 - x) else 0 - (x2_4 - x)) ≤ (if 0 ≤ (x3_3 - x) then (x3_3 - x) else 0 - (x3_3 - x)) → vp_in x3_3 8 ∧ ((((T 2) ((x3_3).toNatClampNeg)) = 10 → ∃ n_24, n_24 < n_1 ∧ I_2 n_24 (x3_3 + 1) x2_4) ∧ (¬ (((T 2) ((x3_3).toNatClampNeg)) = 10) → ∃ n_27, n_27 < n_1 ∧ I_2 n_27 (x3_3 + 1) x2_4))) ∧ (¬ ((if 0 ≤ (x2_4 - x) then (x2_4 - x) else 0 - (x2_4 - x)) ≤ (if 0 ≤ (x3_3 - x) then (x3_3 - x) else 0 - (x3_3 - x))) → vp_in x3_3 8 ∧ ((((T 2) ((x3_3).toNatClampNeg)) = 10 → ∃ n_32, n_32 < n_1 ∧ I_2 n_32 (x3_3 + 1) x2_4) ∧ (¬ (((T 2) ((x3_3).toNatClampNeg)) = 10) → ∃ n_35, n_35 < n_1 ∧ I_2 n_35 (x3_3 + 1) x3_3)))))))
set_option maxHeartbeats 4000000 in
set_option maxRecDepth 100000 in
theorem c_X1_nearestNotOpen (l : Launch) (G : va_G) (cI cC cD : ClassId) (k0 k1 k2 k3 k4 k5 : Nat) (sz : Nat) (T : St) (x : Int32) (Q : Int32 → Prop) (h : q_X1_nearestNotOpen x T Q) : Met l yX1_nearestNotOpen wsX1_nearestNotOpen ({ frames := 1, cells := 0, slots := 0, locals := 21 }) (va_Pc [.ref k0, .int x] (PW G (ty3 cI cC cD) (wG cI k0 k1 k2 k3 k4 k5 T) sz)) (va_Qi (fun (r : Int32) (_ : Unit) => Q r) (BW G (fun _ : Unit => (wG cI k0 k1 k2 k3 k4 k5 T)) (va_A (wG cI k0 k1 k2 k3 k4 k5 T) sz)) (va_A (wG cI k0 k1 k2 k3 k4 k5 T) sz)) 0 0 (va_A (wG cI k0 k1 k2 k3 k4 k5 T) sz) := by
  refine Met.ofW (cc := cX1_nearestNotOpen) (maxL := 5) (ret := (some .int)) (by decide) rfl ?_
  intro p e s m args below meth c s₁ B hml hv
  obtain ⟨rfl, hsz, hP, hK, hD0, hN⟩ := hv
  have hx := B.exec
  have hb := B.bytes
  have hr := B.returns
  have hts := atoms_spec (ws := wsX1_nearestNotOpen) B.pre
  have hown : s.vm.findClass RX1 = some m.cls := findClass_of_methodNamed B.named
  have hlocks := B.notSynchronized
  subst hsz
  have hD := hD0.self (sz := s.heap.size)
  generalize hAe : va_A (wG cI k0 k1 k2 k3 k4 k5 T) s.heap.size = A at hD ⊢
  have hA : ∀ q : Nat, s.heap.size ≤ q → A q := fun q h => by rw [← hAe]; exact Or.inr h
  have hS : va_S A s.heap s.heap [] := va_S.rf
  have hl := lv_entry ([.ref k0, .int x]) (n := 5) (Nat.le_of_ble_eq_true rfl)
  rw [lg_entry_eq]
  generalize (lg_sl ([.ref k0, .int x]) ++ List.replicate (5 - (lg_sl ([.ref k0, .int x])).length) Slot.unset).toArray = ls at hl ⊢
  have hl : lv_has ls 5 [(0, .ref k0), (1, .int x)] := hl
  have hinX1 : ∀ w ∈ wsX10, w ∈ wsX1_nearestNotOpen := by decide +kernel
  have hL18 := hts (.fieldLink RX1 18 "CraneGates$Gates" "openings" "[I") (by decide +kernel)
  have hL27 := hts (.fieldLink RX1 27 "CraneGates$Gates" "size" "I") (by decide +kernel)
  unfold q_X1_nearestNotOpen at h
  refine lv_iconst (v := (-1)) hx hb dX1_nearestNotOpen_0 (by decide) ?_
  refine lv_istore_n (lv' := [(2, .int (-1)), (0, .ref k0), (1, .int x)]) hx hb dX1_nearestNotOpen_1 rfl hl (by decide) rfl (fun ls hl => ?_)
  refine lv_iconst (v := 0) hx hb dX1_nearestNotOpen_2 (by decide) ?_
  refine lv_istore_n (lv' := [(3, .int 0), (2, .int (-1)), (0, .ref k0), (1, .int x)]) hx hb dX1_nearestNotOpen_3 rfl hl (by decide) rfl (fun ls hl => ?_)
  obtain ⟨I_2, n_6, h_7, hI_8⟩ := h
  have lp_9 : ∀ (n_1 : Nat) (x3_3 : Int32) (x2_4 : Int32), I_2 n_1 x3_3 x2_4 → ∀ (H : Heap) (locs : List Loc) (ls : Array Slot), va_P G vwCl (wG cI k0 k1 k2 k3 k4 k5 T) H → va_D A (wG cI k0 k1 k2 k3 k4 k5 T) → va_S A s.heap H locs → lv_has ls 5 [(3, .int x3_3), (2, .int x2_4), (0, .ref k0), (1, .int x)] → W p l e (headSpec wsX1_nearestNotOpen ({ frames := 1, cells := 0, slots := 0, locals := 21 })).room s m ([.ref k0, .int x] : List Value).toArray below meth c H locs 0 0 (MQ below (va_Qi (fun (r : Int32) (_ : Unit) => Q r) (BW G (fun _ : Unit => (wG cI k0 k1 k2 k3 k4 k5 T)) A) A) ([.ref k0, .int x] : List Value).toArray s 0 0 A) (F0 m 4 ls []) := by
    intro n_1
    induction n_1 using Nat.strongRecOn with
    | ind n_1 ih_5 =>
      intro x3_3 x2_4 hIn H locs ls hP hD hS hl
      have h := hI_8 n_1 x3_3 x2_4 hIn
      refine lv_iload_n hx hb dX1_nearestNotOpen_4 rfl (lv_at hl 0 rfl) ?_
      refine lv_aload_n hx hb dX1_nearestNotOpen_5 rfl (lv_at hl 2 rfl) ?_
      refine va_get (D := G) (ci := 1) (v := .int (T 5 0)) (C := RX1) (T := TX1) (N := 6) hx hb hts hinX1 hown hK hP 0 rfl rfl 5 (by decide) hL27 (fun _ h9 => h9) rfl dX1_nearestNotOpen_6 ?_
      refine lv_icmp_ge (tgt := 69) hx hb dX1_nearestNotOpen_9 (by decide) (fun c_10 => ?_) (fun c_10 => ?_)
      · have h := h.1 c_10
        refine lv_iload_n hx hb dX1_nearestNotOpen_69 rfl (lv_at hl 1 rfl) ?_
        exact W.iret (v := x2_4) hx hb hr (fun t ht hW => ⟨⟨x2_4, (), rfl, h, by rw [ht]; exact hP, hD⟩, hS.F ht⟩) hS.2.2 dX1_nearestNotOpen_70
      · have h := h.2 c_10
        refine lv_iload_n hx hb dX1_nearestNotOpen_12 rfl (lv_at hl 0 rfl) ?_
        refine lv_bipush (v := 8) hx hb dX1_nearestNotOpen_13 (by decide) ?_
        refine lv_icmp_ge (tgt := 69) hx hb dX1_nearestNotOpen_15 (by decide) (fun c_11 => ?_) (fun c_11 => ?_)
        · have h := h.1 c_11
          refine lv_iload_n hx hb dX1_nearestNotOpen_69 rfl (lv_at hl 1 rfl) ?_
          exact W.iret (v := x2_4) hx hb hr (fun t ht hW => ⟨⟨x2_4, (), rfl, h, by rw [ht]; exact hP, hD⟩, hS.F ht⟩) hS.2.2 dX1_nearestNotOpen_70
        · have h := h.2 c_11
          refine lv_iload_n hx hb dX1_nearestNotOpen_18 rfl (lv_at hl 1 rfl) ?_
          refine lv_iconst (v := (-1)) hx hb dX1_nearestNotOpen_19 (by decide) ?_
          refine lv_icmp_eq (tgt := 38) hx hb dX1_nearestNotOpen_20 (by decide) (fun c_12 => ?_) (fun c_12 => ?_)
          · have h := h.1 c_12
            refine lv_iconst (v := 1) hx hb dX1_nearestNotOpen_38 (by decide) ?_
            refine lv_goto (tgt := 43) hx hb dX1_nearestNotOpen_39 (by decide) ?_
            refine lv_istore (lv' := [(4, .int 1), (3, .int x3_3), (2, .int x2_4), (0, .ref k0), (1, .int x)]) hx hb dX1_nearestNotOpen_43 hl (by decide) rfl (fun ls hl => ?_)
            refine lv_aload_n hx hb dX1_nearestNotOpen_45 rfl (lv_at hl 3 rfl) ?_
            refine va_get (D := G) (ci := 1) (v := .ref k3) (C := RX1) (T := TX1) (N := 6) hx hb hts hinX1 hown hK hP 0 rfl rfl 2 (by decide) hL18 (fun _ h9 => h9) rfl dX1_nearestNotOpen_46 ?_
            refine lv_iload_n hx hb dX1_nearestNotOpen_49 rfl (lv_at hl 1 rfl) ?_
            obtain ⟨hi_13, h⟩ := h
            refine k_ald (f := (T 2)) (j := (x3_3).toNatClampNeg) (v := ((T 2) ((x3_3).toNatClampNeg))) hx hb hK hP 3 0 rfl rfl hi_13 rfl rfl dX1_nearestNotOpen_50 ?_
            refine lv_bipush (v := 10) hx hb dX1_nearestNotOpen_51 (by decide) ?_
            refine lv_icmp_eq (tgt := 63) hx hb dX1_nearestNotOpen_53 (by decide) (fun c_14 => ?_) (fun c_14 => ?_)
            · have h := h.1 c_14
              refine lv_iinc (v := x3_3 + 1) (lv' := [(3, .int (x3_3 + 1)), (4, .int 1), (2, .int x2_4), (0, .ref k0), (1, .int x)]) hx hb dX1_nearestNotOpen_63 hl (k := 1) rfl rfl (by decide) rfl (fun ls hl => ?_)
              refine lv_goto (tgt := 4) hx hb dX1_nearestNotOpen_66 (by decide) ?_
              obtain ⟨n_15, lt_16, h_17⟩ := h
              exact ih_5 n_15 lt_16 _ _ h_17 _ _ _ hP hD hS (lv_sub hl [0, 2, 3, 4] rfl)
            · have h := h.2 c_14
              refine lv_iload hx hb dX1_nearestNotOpen_56 (lv_at hl 0 rfl) ?_
              refine lv_if_eq (tgt := 63) hx hb dX1_nearestNotOpen_58 (by decide) (fun c => absurd c (by decide)) (fun _ => ?_)
              refine lv_iload_n hx hb dX1_nearestNotOpen_61 rfl (lv_at hl 1 rfl) ?_
              refine lv_istore_n (lv' := [(2, .int x3_3), (4, .int 1), (3, .int x3_3), (0, .ref k0), (1, .int x)]) hx hb dX1_nearestNotOpen_62 rfl hl (by decide) rfl (fun ls hl => ?_)
              refine lv_iinc (v := x3_3 + 1) (lv' := [(3, .int (x3_3 + 1)), (2, .int x3_3), (4, .int 1), (0, .ref k0), (1, .int x)]) hx hb dX1_nearestNotOpen_63 hl (k := 2) rfl rfl (by decide) rfl (fun ls hl => ?_)
              refine lv_goto (tgt := 4) hx hb dX1_nearestNotOpen_66 (by decide) ?_
              obtain ⟨n_18, lt_19, h_20⟩ := h
              exact ih_5 n_18 lt_19 _ _ h_20 _ _ _ hP hD hS (lv_sub hl [0, 1, 3, 4] rfl)
          · have h := h.2 c_12
            refine lv_iload_n hx hb dX1_nearestNotOpen_23 rfl (lv_at hl 0 rfl) ?_
            refine lv_iload_n hx hb dX1_nearestNotOpen_24 rfl (lv_at hl 3 rfl) ?_
            refine lv_isub hx hb dX1_nearestNotOpen_25 ?_
            refine va_mabs hx hb (hl.1 ▸ hml) hown (hts (.methodLink RX1 45 Lib.Math.abs.name) (by decide +kernel)) (hts (.static Lib.Math.abs.name) (by decide +kernel)) (hts (.initialized "java/lang/Math") (by decide +kernel)) (hts (.code Lib.Math.abs.name Lib.Math.abs.code 1 (some .int)) (by decide +kernel)) (Nat.le_of_ble_eq_true rfl) (Nat.le_of_ble_eq_true rfl) (Nat.zero_le _) (Nat.zero_le _) dX1_nearestNotOpen_26 ?_
            refine lv_iload_n hx hb dX1_nearestNotOpen_29 rfl (lv_at hl 1 rfl) ?_
            refine lv_iload_n hx hb dX1_nearestNotOpen_30 rfl (lv_at hl 3 rfl) ?_
            refine lv_isub hx hb dX1_nearestNotOpen_31 ?_
            refine va_mabs hx hb (hl.1 ▸ hml) hown (hts (.methodLink RX1 45 Lib.Math.abs.name) (by decide +kernel)) (hts (.static Lib.Math.abs.name) (by decide +kernel)) (hts (.initialized "java/lang/Math") (by decide +kernel)) (hts (.code Lib.Math.abs.name Lib.Math.abs.code 1 (some .int)) (by decide +kernel)) (Nat.le_of_ble_eq_true rfl) (Nat.le_of_ble_eq_true rfl) (Nat.zero_le _) (Nat.zero_le _) dX1_nearestNotOpen_32 ?_
            refine lv_icmp_ge (tgt := 42) hx hb dX1_nearestNotOpen_35 (by decide) (fun c_21 => ?_) (fun c_21 => ?_)
            · have h := h.1 c_21
              refine lv_iconst (v := 0) hx hb dX1_nearestNotOpen_42 (by decide) ?_
              refine lv_istore (lv' := [(4, .int 0), (3, .int x3_3), (2, .int x2_4), (0, .ref k0), (1, .int x)]) hx hb dX1_nearestNotOpen_43 hl (by decide) rfl (fun ls hl => ?_)
              refine lv_aload_n hx hb dX1_nearestNotOpen_45 rfl (lv_at hl 3 rfl) ?_
              refine va_get (D := G) (ci := 1) (v := .ref k3) (C := RX1) (T := TX1) (N := 6) hx hb hts hinX1 hown hK hP 0 rfl rfl 2 (by decide) hL18 (fun _ h9 => h9) rfl dX1_nearestNotOpen_46 ?_
              refine lv_iload_n hx hb dX1_nearestNotOpen_49 rfl (lv_at hl 1 rfl) ?_
              obtain ⟨hi_22, h⟩ := h
              refine k_ald (f := (T 2)) (j := (x3_3).toNatClampNeg) (v := ((T 2) ((x3_3).toNatClampNeg))) hx hb hK hP 3 0 rfl rfl hi_22 rfl rfl dX1_nearestNotOpen_50 ?_
              refine lv_bipush (v := 10) hx hb dX1_nearestNotOpen_51 (by decide) ?_
              refine lv_icmp_eq (tgt := 63) hx hb dX1_nearestNotOpen_53 (by decide) (fun c_23 => ?_) (fun c_23 => ?_)
              · have h := h.1 c_23
                refine lv_iinc (v := x3_3 + 1) (lv' := [(3, .int (x3_3 + 1)), (4, .int 0), (2, .int x2_4), (0, .ref k0), (1, .int x)]) hx hb dX1_nearestNotOpen_63 hl (k := 1) rfl rfl (by decide) rfl (fun ls hl => ?_)
                refine lv_goto (tgt := 4) hx hb dX1_nearestNotOpen_66 (by decide) ?_
                obtain ⟨n_24, lt_25, h_26⟩ := h
                exact ih_5 n_24 lt_25 _ _ h_26 _ _ _ hP hD hS (lv_sub hl [0, 2, 3, 4] rfl)
              · have h := h.2 c_23
                refine lv_iload hx hb dX1_nearestNotOpen_56 (lv_at hl 0 rfl) ?_
                refine lv_if_eq (tgt := 63) hx hb dX1_nearestNotOpen_58 (by decide) (fun _ => ?_) (fun c => absurd c (by decide))
                refine lv_iinc (v := x3_3 + 1) (lv' := [(3, .int (x3_3 + 1)), (4, .int 0), (2, .int x2_4), (0, .ref k0), (1, .int x)]) hx hb dX1_nearestNotOpen_63 hl (k := 1) rfl rfl (by decide) rfl (fun ls hl => ?_)
                refine lv_goto (tgt := 4) hx hb dX1_nearestNotOpen_66 (by decide) ?_
                obtain ⟨n_27, lt_28, h_29⟩ := h
                exact ih_5 n_27 lt_28 _ _ h_29 _ _ _ hP hD hS (lv_sub hl [0, 2, 3, 4] rfl)
            · have h := h.2 c_21
              refine lv_iconst (v := 1) hx hb dX1_nearestNotOpen_38 (by decide) ?_
              refine lv_goto (tgt := 43) hx hb dX1_nearestNotOpen_39 (by decide) ?_
              refine lv_istore (lv' := [(4, .int 1), (3, .int x3_3), (2, .int x2_4), (0, .ref k0), (1, .int x)]) hx hb dX1_nearestNotOpen_43 hl (by decide) rfl (fun ls hl => ?_)
              refine lv_aload_n hx hb dX1_nearestNotOpen_45 rfl (lv_at hl 3 rfl) ?_
              refine va_get (D := G) (ci := 1) (v := .ref k3) (C := RX1) (T := TX1) (N := 6) hx hb hts hinX1 hown hK hP 0 rfl rfl 2 (by decide) hL18 (fun _ h9 => h9) rfl dX1_nearestNotOpen_46 ?_
              refine lv_iload_n hx hb dX1_nearestNotOpen_49 rfl (lv_at hl 1 rfl) ?_
              obtain ⟨hi_30, h⟩ := h
              refine k_ald (f := (T 2)) (j := (x3_3).toNatClampNeg) (v := ((T 2) ((x3_3).toNatClampNeg))) hx hb hK hP 3 0 rfl rfl hi_30 rfl rfl dX1_nearestNotOpen_50 ?_
              refine lv_bipush (v := 10) hx hb dX1_nearestNotOpen_51 (by decide) ?_
              refine lv_icmp_eq (tgt := 63) hx hb dX1_nearestNotOpen_53 (by decide) (fun c_31 => ?_) (fun c_31 => ?_)
              · have h := h.1 c_31
                refine lv_iinc (v := x3_3 + 1) (lv' := [(3, .int (x3_3 + 1)), (4, .int 1), (2, .int x2_4), (0, .ref k0), (1, .int x)]) hx hb dX1_nearestNotOpen_63 hl (k := 1) rfl rfl (by decide) rfl (fun ls hl => ?_)
                refine lv_goto (tgt := 4) hx hb dX1_nearestNotOpen_66 (by decide) ?_
                obtain ⟨n_32, lt_33, h_34⟩ := h
                exact ih_5 n_32 lt_33 _ _ h_34 _ _ _ hP hD hS (lv_sub hl [0, 2, 3, 4] rfl)
              · have h := h.2 c_31
                refine lv_iload hx hb dX1_nearestNotOpen_56 (lv_at hl 0 rfl) ?_
                refine lv_if_eq (tgt := 63) hx hb dX1_nearestNotOpen_58 (by decide) (fun c => absurd c (by decide)) (fun _ => ?_)
                refine lv_iload_n hx hb dX1_nearestNotOpen_61 rfl (lv_at hl 1 rfl) ?_
                refine lv_istore_n (lv' := [(2, .int x3_3), (4, .int 1), (3, .int x3_3), (0, .ref k0), (1, .int x)]) hx hb dX1_nearestNotOpen_62 rfl hl (by decide) rfl (fun ls hl => ?_)
                refine lv_iinc (v := x3_3 + 1) (lv' := [(3, .int (x3_3 + 1)), (2, .int x3_3), (4, .int 1), (0, .ref k0), (1, .int x)]) hx hb dX1_nearestNotOpen_63 hl (k := 2) rfl rfl (by decide) rfl (fun ls hl => ?_)
                refine lv_goto (tgt := 4) hx hb dX1_nearestNotOpen_66 (by decide) ?_
                obtain ⟨n_35, lt_36, h_37⟩ := h
                exact ih_5 n_35 lt_36 _ _ h_37 _ _ _ hP hD hS (lv_sub hl [0, 1, 3, 4] rfl)
  exact lp_9 _ _ _ h_7 _ _ _ hP hD hS hl
