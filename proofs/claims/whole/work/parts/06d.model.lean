def q_X6_would (x : Int32) (y : Int32) (M : St) (Q : Int32 → St → Prop) : Prop :=
  q_X6_in x 0 500 (fun r_1 => (r_1 = 0 → Q (-1000001) M) ∧ (¬ (r_1 = 0) → q_X6_in y 0 4 (fun r_3 => (r_3 = 0 → q_X6_isGate (y - 10) M (fun r_22 => (r_22 = 0 → Q (-1000001) M) ∧ (¬ (r_22 = 0) → q_X6_copies (fun i => cond (Nat.beq i 0) (M 0) (M 3)) (fun u_24 => ∃ (I_26 : Nat → Int32 → St → Prop) (n_30 : Nat), I_26 n_30 0 (uA (uA M 0 (u_24 0)) 3 (u_24 1)) ∧ ∀ (n_25 : Nat) (x3_27 : Int32) (D_28 : St), I_26 n_25 x3_27 D_28 → ((x ≤ x3_27 → q_X6_seen y D_28 (fun r_35 => q_X6_copies (fun i => cond (Nat.beq i 0) (D_28 3) (D_28 0)) (fun u_36 => Q r_35 (uA (uA D_28 3 (u_36 0)) 0 (u_36 1))))) ∧ (¬ (x ≤ x3_27) → q_X6_passes D_28 (fun u_37 => ∃ n_38, n_38 < n_25 ∧ I_26 n_38 (x3_27 + 1) u_37))))))) ∧ (¬ (r_3 = 0) → q_X6_copies (fun i => cond (Nat.beq i 0) (M 0) (M 3)) (fun u_5 => ∃ (I_7 : Nat → Int32 → St → Prop) (n_11 : Nat), I_7 n_11 0 (uA (uA M 0 (u_5 0)) 3 (u_5 1)) ∧ ∀ (n_6 : Nat) (x3_8 : Int32) (D_9 : St), I_7 n_6 x3_8 D_9 → ((x ≤ x3_8 → q_X6_seen y D_9 (fun r_16 => q_X6_copies (fun i => cond (Nat.beq i 0) (D_9 3) (D_9 0)) (fun u_17 => Q r_16 (uA (uA D_9 3 (u_17 0)) 0 (u_17 1))))) ∧ (¬ (x ≤ x3_8) → q_X6_passes D_9 (fun u_18 => ∃ n_19, n_19 < n_6 ∧ I_7 n_19 (x3_8 + 1) u_18))))))))
set_option maxHeartbeats 4000000 in
set_option maxRecDepth 100000 in
theorem c_X6_would (l : Launch) (G : va_G) (cI cC cD : ClassId) (q : Nat → Nat) (sz : Nat) (M : St) (x : Int32) (y : Int32) (Q : Int32 → St → Prop) (h : q_X6_would x y M Q) : Met l yX6_would wsX6_would ({ frames := 5, cells := 0, slots := 0, locals := 111 }) (va_Pc [.ref (q 0), .int x, .int y] (PW G (ty3 cI cC cD) (wM cI q M) sz)) (va_Qi Q (BW G (fun u : St => (wM cI q u)) (va_A (wM cI q M) sz)) (va_A (wM cI q M) sz)) 0 0 (va_A (wM cI q M) sz) := by
  refine Met.ofW (cc := cX6_would) (maxL := 4) (ret := (some .int)) (by decide) rfl ?_
  intro p e s m args below meth c s₁ B hml hv
  obtain ⟨rfl, hsz, hP, hK, hD0, hN⟩ := hv
  have hx := B.exec
  have hb := B.bytes
  have hr := B.returns
  have hts := atoms_spec (ws := wsX6_would) B.pre
  have hown : s.vm.findClass RX6 = some m.cls := findClass_of_methodNamed B.named
  have hlocks := B.notSynchronized
  subst hsz
  have hD := hD0.self (sz := s.heap.size)
  generalize hAe : va_A (wM cI q M) s.heap.size = A at hD ⊢
  have hA : ∀ q : Nat, s.heap.size ≤ q → A q := fun q h => by rw [← hAe]; exact Or.inr h
  have hS : va_S A s.heap s.heap [] := va_S.rf
  have hl := lv_entry ([.ref (q 0), .int x, .int y]) (n := 4) (Nat.le_of_ble_eq_true rfl)
  rw [lg_entry_eq]
  generalize (lg_sl ([.ref (q 0), .int x, .int y]) ++ List.replicate (4 - (lg_sl ([.ref (q 0), .int x, .int y])).length) Slot.unset).toArray = ls at hl ⊢
  have hl : lv_has ls 4 [(0, .ref (q 0)), (1, .int x), (2, .int y)] := hl
  have hinX6 : ∀ w ∈ wsX60, w ∈ wsX6_would := by decide +kernel
  have hL7 := hts (.fieldLink RX6 7 "CraneGatesModel" "s" "[I") (by decide +kernel)
  have hL19 := hts (.fieldLink RX6 19 "CraneGatesModel" "tried" "[I") (by decide +kernel)
  unfold q_X6_would at h
  refine lv_iload_n hx hb dX6_would_0 rfl (lv_at hl 1 rfl) ?_
  refine lv_iconst (v := 0) hx hb dX6_would_1 (by decide) ?_
  refine lv_sipush (v := 500) hx hb dX6_would_2 (by decide) ?_
  refine ks_i (As := [.int x, .int 0, .int 500]) (rest := []) (wg := (fun _ => (wM cI q M))) ⟨hx, hb, hml, hown, hts⟩ (c_X6_in l G cI cC cD  _  x 0 500 _ h) (va_cwS 3 hts gX6_would_X6_in rfl rfl rfl (by decide +kernel) ⟨Nat.le_of_ble_eq_true rfl, Nat.le_of_ble_eq_true rfl⟩) hK hN hP hD hS hA (em_0 _) (fun _ => rp_self (em_0 _)) rfl hl.1 rfl (Nat.le_of_ble_eq_true rfl) dX6_would_5 ⟨Nat.zero_le _, Nat.zero_le _⟩ (fun r_1 _ H locs h hP hD hS => ?_)
  refine lv_if_eq (tgt := 31) hx hb dX6_would_8 (by decide) (fun c_2 => ?_) (fun c_2 => ?_)
  · have h := h.1 c_2
    refine lv_ldc hx hb hown (hts (.constant RX6 103 (-1000001)) (by decide +kernel)) dX6_would_31 ?_
    exact W.iret (v := (-1000001)) hx hb hr (fun t ht hW => ⟨⟨(-1000001), M, rfl, h, by rw [ht]; exact hP, hD⟩, hS.F ht⟩) hS.2.2 dX6_would_33
  · have h := h.2 c_2
    refine lv_iload_n hx hb dX6_would_11 rfl (lv_at hl 2 rfl) ?_
    refine lv_iconst (v := 0) hx hb dX6_would_12 (by decide) ?_
    refine lv_iconst (v := 4) hx hb dX6_would_13 (by decide) ?_
    refine ks_i (As := [.int y, .int 0, .int 4]) (rest := []) (wg := (fun _ => (wM cI q M))) ⟨hx, hb, hml, hown, hts⟩ (c_X6_in l G cI cC cD  _  y 0 4 _ h) (va_cwS 3 hts gX6_would_X6_in rfl rfl rfl (by decide +kernel) ⟨Nat.le_of_ble_eq_true rfl, Nat.le_of_ble_eq_true rfl⟩) hK hN hP hD hS hA (em_0 _) (fun _ => rp_self (em_0 _)) rfl hl.1 rfl (Nat.le_of_ble_eq_true rfl) dX6_would_14 ⟨Nat.zero_le _, Nat.zero_le _⟩ (fun r_3 _ H locs h hP hD hS => ?_)
    refine lv_if_ne (tgt := 34) hx hb dX6_would_17 (by decide) (fun c_4 => ?_) (fun c_4 => ?_)
    · have h := h.2 c_4
      refine lv_aload_n hx hb dX6_would_34 rfl (lv_at hl 0 rfl) ?_
      refine va_get (D := G) (ci := 6) (v := .ref (q 1)) (C := RX6) (T := TX6) (N := 11) hx hb hts hinX6 hown hK hP 0 rfl rfl 0 (by decide) hL7 (fun _ h9 => h9) rfl dX6_would_35 ?_
      refine lv_aload_n hx hb dX6_would_38 rfl (lv_at hl 0 rfl) ?_
      refine va_get (D := G) (ci := 6) (v := .ref (q 4)) (C := RX6) (T := TX6) (N := 11) hx hb hts hinX6 hown hK hP 0 rfl rfl 3 (by decide) hL19 (fun _ h9 => h9) rfl dX6_would_39 ?_
      refine ks_v (As := [.ref (q 1), .ref (q 4)]) (rest := []) (wg := (fun u => (wM cI q (uA (uA M 0 (u 0)) 3 (u 1))))) ⟨hx, hb, hml, hown, hts⟩ (c_X6_copies l G cI cC cD (q 1) (q 4) _ (fun i => cond (Nat.beq i 0) (M 0) (M 3))  _ h) (va_cwS 2 hts gX6_would_X6_copies rfl rfl rfl (by decide +kernel) ⟨Nat.le_of_ble_eq_true rfl, Nat.le_of_ble_eq_true rfl⟩) hK hN hP hD hS hA (em_M2_03 cI q M) (fun u => rp_M2_03 cI q M u) rfl hl.1 rfl (Nat.le_of_ble_eq_true rfl) dX6_would_42 ⟨Nat.zero_le _, Nat.zero_le _⟩ (fun u_5 H locs h hP hD hS => ?_)
      refine lv_iconst (v := 0) hx hb dX6_would_45 (by decide) ?_
      refine lv_istore_n (lv' := [(3, .int 0), (0, .ref (q 0)), (1, .int x), (2, .int y)]) hx hb dX6_would_46 rfl hl (by decide) rfl (fun ls hl => ?_)
      obtain ⟨I_7, n_11, h_12, hI_13⟩ := h
      have lp_14 : ∀ (n_6 : Nat) (x3_8 : Int32) (D_9 : St), I_7 n_6 x3_8 D_9 → ∀ (H : Heap) (locs : List Loc) (ls : Array Slot), va_P G vwCl (wM cI q D_9) H → va_D A (wM cI q D_9) → va_S A s.heap H locs → lv_has ls 4 [(3, .int x3_8), (0, .ref (q 0)), (1, .int x), (2, .int y)] → W p l e (headSpec wsX6_would ({ frames := 5, cells := 0, slots := 0, locals := 111 })).room s m ([.ref (q 0), .int x, .int y] : List Value).toArray below meth c H locs 0 0 (MQ below (va_Qi Q (BW G (fun u : St => (wM cI q u)) A) A) ([.ref (q 0), .int x, .int y] : List Value).toArray s 0 0 A) (F0 m 47 ls []) := by
        intro n_6
        induction n_6 using Nat.strongRecOn with
        | ind n_6 ih_10 =>
          intro x3_8 D_9 hIn H locs ls hP hD hS hl
          have h := hI_13 n_6 x3_8 D_9 hIn
          refine lv_iload_n hx hb dX6_would_47 rfl (lv_at hl 0 rfl) ?_
          refine lv_iload_n hx hb dX6_would_48 rfl (lv_at hl 2 rfl) ?_
          refine lv_icmp_ge (tgt := 62) hx hb dX6_would_49 (by decide) (fun c_15 => ?_) (fun c_15 => ?_)
          · have h := h.1 c_15
            refine lv_aload_n hx hb dX6_would_62 rfl (lv_at hl 1 rfl) ?_
            refine lv_iload_n hx hb dX6_would_63 rfl (lv_at hl 3 rfl) ?_
            refine kc_i (As := [.int y]) (rest := []) (wg := (fun _ => (wM cI q D_9))) ⟨hx, hb, hml, hown, hts⟩ (c_X6_seen l G cI cC cD q _ D_9 y _ h) (cwV 1 hts gX6_would_X6_seen rfl rfl rfl (by decide +kernel) ⟨Nat.le_of_ble_eq_true rfl, Nat.le_of_ble_eq_true rfl⟩) hK hN hP hD hS hA (em_MM cI q D_9) (fun _ => rp_self (em_MM cI q D_9)) rfl rfl rfl rfl hl.1 rfl (Nat.le_of_ble_eq_true rfl) dX6_would_64 ⟨Nat.zero_le _, Nat.zero_le _⟩ (fun r_16 _ H locs h hP hD hS => ?_)
            refine lv_istore_n (lv' := [(3, .int r_16), (0, .ref (q 0)), (1, .int x), (2, .int y)]) hx hb dX6_would_67 rfl hl (by decide) rfl (fun ls hl => ?_)
            refine lv_aload_n hx hb dX6_would_68 rfl (lv_at hl 1 rfl) ?_
            refine va_get (D := G) (ci := 6) (v := .ref (q 4)) (C := RX6) (T := TX6) (N := 11) hx hb hts hinX6 hown hK hP 0 rfl rfl 3 (by decide) hL19 (fun _ h9 => h9) rfl dX6_would_69 ?_
            refine lv_aload_n hx hb dX6_would_72 rfl (lv_at hl 1 rfl) ?_
            refine va_get (D := G) (ci := 6) (v := .ref (q 1)) (C := RX6) (T := TX6) (N := 11) hx hb hts hinX6 hown hK hP 0 rfl rfl 0 (by decide) hL7 (fun _ h9 => h9) rfl dX6_would_73 ?_
            refine ks_v (As := [.ref (q 4), .ref (q 1)]) (rest := []) (wg := (fun u => (wM cI q (uA (uA D_9 3 (u 0)) 0 (u 1))))) ⟨hx, hb, hml, hown, hts⟩ (c_X6_copies l G cI cC cD (q 4) (q 1) _ (fun i => cond (Nat.beq i 0) (D_9 3) (D_9 0))  _ h) (va_cwS 2 hts gX6_would_X6_copies rfl rfl rfl (by decide +kernel) ⟨Nat.le_of_ble_eq_true rfl, Nat.le_of_ble_eq_true rfl⟩) hK hN hP hD hS hA (em_M2_30 cI q D_9) (fun u => rp_M2_30 cI q D_9 u) rfl hl.1 rfl (Nat.le_of_ble_eq_true rfl) dX6_would_76 ⟨Nat.zero_le _, Nat.zero_le _⟩ (fun u_17 H locs h hP hD hS => ?_)
            refine lv_iload_n hx hb dX6_would_79 rfl (lv_at hl 0 rfl) ?_
            exact W.iret (v := r_16) hx hb hr (fun t ht hW => ⟨⟨r_16, (uA (uA D_9 3 (u_17 0)) 0 (u_17 1)), rfl, h, by rw [ht]; exact hP, hD⟩, hS.F ht⟩) hS.2.2 dX6_would_80
          · have h := h.2 c_15
            refine lv_aload_n hx hb dX6_would_52 rfl (lv_at hl 1 rfl) ?_
            refine kc_v (As := []) (rest := []) (wg := (fun u => (wM cI q u))) ⟨hx, hb, hml, hown, hts⟩ (c_X6_passes l G cI cC cD q _ D_9  _ h) (cwV 0 hts gX6_would_X6_passes rfl rfl rfl (by decide +kernel) ⟨Nat.le_of_ble_eq_true rfl, Nat.le_of_ble_eq_true rfl⟩) hK hN hP hD hS hA (em_MM cI q D_9) (fun u => rp_MM cI q D_9 u) rfl rfl rfl rfl hl.1 rfl (Nat.le_of_ble_eq_true rfl) dX6_would_53 ⟨Nat.zero_le _, Nat.zero_le _⟩ (fun u_18 H locs h hP hD hS => ?_)
            refine lv_iinc (v := x3_8 + 1) (lv' := [(3, .int (x3_8 + 1)), (0, .ref (q 0)), (1, .int x), (2, .int y)]) hx hb dX6_would_56 hl (k := 0) rfl rfl (by decide) rfl (fun ls hl => ?_)
            refine lv_goto (tgt := 47) hx hb dX6_would_59 (by decide) ?_
            obtain ⟨n_19, lt_20, h_21⟩ := h
            exact ih_10 n_19 lt_20 _ _ h_21 _ _ _ hP hD hS (lv_sub hl [0, 1, 2, 3] rfl)
      exact lp_14 _ _ _ h_12 _ _ _ hP hD hS hl
    · have h := h.1 c_4
      refine lv_aload_n hx hb dX6_would_20 rfl (lv_at hl 0 rfl) ?_
      refine lv_iload_n hx hb dX6_would_21 rfl (lv_at hl 2 rfl) ?_
      refine lv_bipush (v := 10) hx hb dX6_would_22 (by decide) ?_
      refine lv_isub hx hb dX6_would_24 ?_
      refine kc_i (As := [.int (y - 10)]) (rest := []) (wg := (fun _ => (wM cI q M))) ⟨hx, hb, hml, hown, hts⟩ (c_X6_isGate l G cI cC cD q _ M (y - 10) _ h) (cwV 1 hts gX6_would_X6_isGate rfl rfl rfl (by decide +kernel) ⟨Nat.le_of_ble_eq_true rfl, Nat.le_of_ble_eq_true rfl⟩) hK hN hP hD hS hA (em_MM cI q M) (fun _ => rp_self (em_MM cI q M)) rfl rfl rfl rfl hl.1 rfl (Nat.le_of_ble_eq_true rfl) dX6_would_25 ⟨Nat.zero_le _, Nat.zero_le _⟩ (fun r_22 _ H locs h hP hD hS => ?_)
      refine lv_if_ne (tgt := 34) hx hb dX6_would_28 (by decide) (fun c_23 => ?_) (fun c_23 => ?_)
      · have h := h.2 c_23
        refine lv_aload_n hx hb dX6_would_34 rfl (lv_at hl 0 rfl) ?_
        refine va_get (D := G) (ci := 6) (v := .ref (q 1)) (C := RX6) (T := TX6) (N := 11) hx hb hts hinX6 hown hK hP 0 rfl rfl 0 (by decide) hL7 (fun _ h9 => h9) rfl dX6_would_35 ?_
        refine lv_aload_n hx hb dX6_would_38 rfl (lv_at hl 0 rfl) ?_
        refine va_get (D := G) (ci := 6) (v := .ref (q 4)) (C := RX6) (T := TX6) (N := 11) hx hb hts hinX6 hown hK hP 0 rfl rfl 3 (by decide) hL19 (fun _ h9 => h9) rfl dX6_would_39 ?_
        refine ks_v (As := [.ref (q 1), .ref (q 4)]) (rest := []) (wg := (fun u => (wM cI q (uA (uA M 0 (u 0)) 3 (u 1))))) ⟨hx, hb, hml, hown, hts⟩ (c_X6_copies l G cI cC cD (q 1) (q 4) _ (fun i => cond (Nat.beq i 0) (M 0) (M 3))  _ h) (va_cwS 2 hts gX6_would_X6_copies rfl rfl rfl (by decide +kernel) ⟨Nat.le_of_ble_eq_true rfl, Nat.le_of_ble_eq_true rfl⟩) hK hN hP hD hS hA (em_M2_03 cI q M) (fun u => rp_M2_03 cI q M u) rfl hl.1 rfl (Nat.le_of_ble_eq_true rfl) dX6_would_42 ⟨Nat.zero_le _, Nat.zero_le _⟩ (fun u_24 H locs h hP hD hS => ?_)
        refine lv_iconst (v := 0) hx hb dX6_would_45 (by decide) ?_
        refine lv_istore_n (lv' := [(3, .int 0), (0, .ref (q 0)), (1, .int x), (2, .int y)]) hx hb dX6_would_46 rfl hl (by decide) rfl (fun ls hl => ?_)
        obtain ⟨I_26, n_30, h_31, hI_32⟩ := h
        have lp_33 : ∀ (n_25 : Nat) (x3_27 : Int32) (D_28 : St), I_26 n_25 x3_27 D_28 → ∀ (H : Heap) (locs : List Loc) (ls : Array Slot), va_P G vwCl (wM cI q D_28) H → va_D A (wM cI q D_28) → va_S A s.heap H locs → lv_has ls 4 [(3, .int x3_27), (0, .ref (q 0)), (1, .int x), (2, .int y)] → W p l e (headSpec wsX6_would ({ frames := 5, cells := 0, slots := 0, locals := 111 })).room s m ([.ref (q 0), .int x, .int y] : List Value).toArray below meth c H locs 0 0 (MQ below (va_Qi Q (BW G (fun u : St => (wM cI q u)) A) A) ([.ref (q 0), .int x, .int y] : List Value).toArray s 0 0 A) (F0 m 47 ls []) := by
          intro n_25
          induction n_25 using Nat.strongRecOn with
          | ind n_25 ih_29 =>
            intro x3_27 D_28 hIn H locs ls hP hD hS hl
            have h := hI_32 n_25 x3_27 D_28 hIn
            refine lv_iload_n hx hb dX6_would_47 rfl (lv_at hl 0 rfl) ?_
            refine lv_iload_n hx hb dX6_would_48 rfl (lv_at hl 2 rfl) ?_
            refine lv_icmp_ge (tgt := 62) hx hb dX6_would_49 (by decide) (fun c_34 => ?_) (fun c_34 => ?_)
            · have h := h.1 c_34
              refine lv_aload_n hx hb dX6_would_62 rfl (lv_at hl 1 rfl) ?_
              refine lv_iload_n hx hb dX6_would_63 rfl (lv_at hl 3 rfl) ?_
              refine kc_i (As := [.int y]) (rest := []) (wg := (fun _ => (wM cI q D_28))) ⟨hx, hb, hml, hown, hts⟩ (c_X6_seen l G cI cC cD q _ D_28 y _ h) (cwV 1 hts gX6_would_X6_seen rfl rfl rfl (by decide +kernel) ⟨Nat.le_of_ble_eq_true rfl, Nat.le_of_ble_eq_true rfl⟩) hK hN hP hD hS hA (em_MM cI q D_28) (fun _ => rp_self (em_MM cI q D_28)) rfl rfl rfl rfl hl.1 rfl (Nat.le_of_ble_eq_true rfl) dX6_would_64 ⟨Nat.zero_le _, Nat.zero_le _⟩ (fun r_35 _ H locs h hP hD hS => ?_)
              refine lv_istore_n (lv' := [(3, .int r_35), (0, .ref (q 0)), (1, .int x), (2, .int y)]) hx hb dX6_would_67 rfl hl (by decide) rfl (fun ls hl => ?_)
              refine lv_aload_n hx hb dX6_would_68 rfl (lv_at hl 1 rfl) ?_
              refine va_get (D := G) (ci := 6) (v := .ref (q 4)) (C := RX6) (T := TX6) (N := 11) hx hb hts hinX6 hown hK hP 0 rfl rfl 3 (by decide) hL19 (fun _ h9 => h9) rfl dX6_would_69 ?_
              refine lv_aload_n hx hb dX6_would_72 rfl (lv_at hl 1 rfl) ?_
              refine va_get (D := G) (ci := 6) (v := .ref (q 1)) (C := RX6) (T := TX6) (N := 11) hx hb hts hinX6 hown hK hP 0 rfl rfl 0 (by decide) hL7 (fun _ h9 => h9) rfl dX6_would_73 ?_
              refine ks_v (As := [.ref (q 4), .ref (q 1)]) (rest := []) (wg := (fun u => (wM cI q (uA (uA D_28 3 (u 0)) 0 (u 1))))) ⟨hx, hb, hml, hown, hts⟩ (c_X6_copies l G cI cC cD (q 4) (q 1) _ (fun i => cond (Nat.beq i 0) (D_28 3) (D_28 0))  _ h) (va_cwS 2 hts gX6_would_X6_copies rfl rfl rfl (by decide +kernel) ⟨Nat.le_of_ble_eq_true rfl, Nat.le_of_ble_eq_true rfl⟩) hK hN hP hD hS hA (em_M2_30 cI q D_28) (fun u => rp_M2_30 cI q D_28 u) rfl hl.1 rfl (Nat.le_of_ble_eq_true rfl) dX6_would_76 ⟨Nat.zero_le _, Nat.zero_le _⟩ (fun u_36 H locs h hP hD hS => ?_)
              refine lv_iload_n hx hb dX6_would_79 rfl (lv_at hl 0 rfl) ?_
              exact W.iret (v := r_35) hx hb hr (fun t ht hW => ⟨⟨r_35, (uA (uA D_28 3 (u_36 0)) 0 (u_36 1)), rfl, h, by rw [ht]; exact hP, hD⟩, hS.F ht⟩) hS.2.2 dX6_would_80
            · have h := h.2 c_34
              refine lv_aload_n hx hb dX6_would_52 rfl (lv_at hl 1 rfl) ?_
              refine kc_v (As := []) (rest := []) (wg := (fun u => (wM cI q u))) ⟨hx, hb, hml, hown, hts⟩ (c_X6_passes l G cI cC cD q _ D_28  _ h) (cwV 0 hts gX6_would_X6_passes rfl rfl rfl (by decide +kernel) ⟨Nat.le_of_ble_eq_true rfl, Nat.le_of_ble_eq_true rfl⟩) hK hN hP hD hS hA (em_MM cI q D_28) (fun u => rp_MM cI q D_28 u) rfl rfl rfl rfl hl.1 rfl (Nat.le_of_ble_eq_true rfl) dX6_would_53 ⟨Nat.zero_le _, Nat.zero_le _⟩ (fun u_37 H locs h hP hD hS => ?_)
              refine lv_iinc (v := x3_27 + 1) (lv' := [(3, .int (x3_27 + 1)), (0, .ref (q 0)), (1, .int x), (2, .int y)]) hx hb dX6_would_56 hl (k := 0) rfl rfl (by decide) rfl (fun ls hl => ?_)
              refine lv_goto (tgt := 47) hx hb dX6_would_59 (by decide) ?_
              obtain ⟨n_38, lt_39, h_40⟩ := h
              exact ih_29 n_38 lt_39 _ _ h_40 _ _ _ hP hD hS (lv_sub hl [0, 1, 2, 3] rfl)
        exact lp_33 _ _ _ h_31 _ _ _ hP hD hS hl
      · have h := h.1 c_23
        refine lv_ldc hx hb hown (hts (.constant RX6 103 (-1000001)) (by decide +kernel)) dX6_would_31 ?_
        exact W.iret (v := (-1000001)) hx hb hr (fun t ht hW => ⟨⟨(-1000001), M, rfl, h, by rw [ht]; exact hP, hD⟩, hS.F ht⟩) hS.2.2 dX6_would_33
def q_X6_isSo (x : Int32) (y : Int32) (M : St) (Q : Int32 → Prop) : Prop :=
  (y = 0 → (((M 0) 4) < x → Q 0) ∧ (¬ (((M 0) 4) < x) → Q 1)) ∧ (¬ (y = 0) → (x < ((M 0) 4) → Q 0) ∧ (¬ (x < ((M 0) 4)) → Q 1))
set_option maxHeartbeats 4000000 in
set_option maxRecDepth 100000 in
theorem c_X6_isSo (l : Launch) (G : va_G) (cI cC cD : ClassId) (q : Nat → Nat) (sz : Nat) (M : St) (x : Int32) (y : Int32) (Q : Int32 → Prop) (h : q_X6_isSo x y M Q) : Met l yX6_isSo wsX6_isSo ({ frames := 0, cells := 0, slots := 0, locals := 0 }) (va_Pc [.ref (q 0), .int x, .int y] (PW G (ty3 cI cC cD) (wM cI q M) sz)) (va_Qi (fun (r : Int32) (_ : Unit) => Q r) (BW G (fun _ : Unit => (wM cI q M)) (va_A (wM cI q M) sz)) (va_A (wM cI q M) sz)) 0 0 (va_A (wM cI q M) sz) := by
  refine Met.ofW (cc := cX6_isSo) (maxL := 3) (ret := (some .boolean)) (by decide) rfl ?_
  intro p e s m args below meth c s₁ B hml hv
  obtain ⟨rfl, hsz, hP, hK, hD0, hN⟩ := hv
  have hx := B.exec
  have hb := B.bytes
  have hr := B.returns
  have hts := atoms_spec (ws := wsX6_isSo) B.pre
  have hown : s.vm.findClass RX6 = some m.cls := findClass_of_methodNamed B.named
  have hlocks := B.notSynchronized
  subst hsz
  have hD := hD0.self (sz := s.heap.size)
  generalize hAe : va_A (wM cI q M) s.heap.size = A at hD ⊢
  have hA : ∀ q : Nat, s.heap.size ≤ q → A q := fun q h => by rw [← hAe]; exact Or.inr h
  have hS : va_S A s.heap s.heap [] := va_S.rf
  have hl := lv_entry ([.ref (q 0), .int x, .int y]) (n := 3) (Nat.le_of_ble_eq_true rfl)
  rw [lg_entry_eq]
  generalize (lg_sl ([.ref (q 0), .int x, .int y]) ++ List.replicate (3 - (lg_sl ([.ref (q 0), .int x, .int y])).length) Slot.unset).toArray = ls at hl ⊢
  have hl : lv_has ls 3 [(0, .ref (q 0)), (1, .int x), (2, .int y)] := hl
  have hinX6 : ∀ w ∈ wsX60, w ∈ wsX6_isSo := by decide +kernel
  have hL7 := hts (.fieldLink RX6 7 "CraneGatesModel" "s" "[I") (by decide +kernel)
  unfold q_X6_isSo at h
  refine lv_iload_n hx hb dX6_isSo_0 rfl (lv_at hl 2 rfl) ?_
  refine lv_if_ne (tgt := 22) hx hb dX6_isSo_1 (by decide) (fun c_1 => ?_) (fun c_1 => ?_)
  · have h := h.2 c_1
    refine lv_aload_n hx hb dX6_isSo_22 rfl (lv_at hl 0 rfl) ?_
    refine va_get (D := G) (ci := 6) (v := .ref (q 1)) (C := RX6) (T := TX6) (N := 11) hx hb hts hinX6 hown hK hP 0 rfl rfl 0 (by decide) hL7 (fun _ h9 => h9) rfl dX6_isSo_23 ?_
    refine lv_iconst (v := 4) hx hb dX6_isSo_26 (by decide) ?_
    refine k_ald (f := (M 0)) (j := 4) (v := ((M 0) 4)) hx hb hK hP 1 0 rfl rfl (show ¬ ((4 : Int32) < 0 ∨ 86 ≤ (4 : Int32).toNatClampNeg) by decide) rfl rfl dX6_isSo_27 ?_
    refine lv_iload_n hx hb dX6_isSo_28 rfl (lv_at hl 1 rfl) ?_
    refine lv_icmp_gt (tgt := 36) hx hb dX6_isSo_29 (by decide) (fun c_2 => ?_) (fun c_2 => ?_)
    · have h := h.1 c_2
      refine lv_iconst (v := 0) hx hb dX6_isSo_36 (by decide) ?_
      exact W.zret (v := 0) hx hb hr rfl (fun t ht hW => ⟨⟨0, (), rfl, h, by rw [ht]; exact hP, hD⟩, hS.F ht⟩) hS.2.2 dX6_isSo_37
    · have h := h.2 c_2
      refine lv_iconst (v := 1) hx hb dX6_isSo_32 (by decide) ?_
      refine lv_goto (tgt := 37) hx hb dX6_isSo_33 (by decide) ?_
      exact W.zret (v := 1) hx hb hr rfl (fun t ht hW => ⟨⟨1, (), rfl, h, by rw [ht]; exact hP, hD⟩, hS.F ht⟩) hS.2.2 dX6_isSo_37
  · have h := h.1 c_1
    refine lv_aload_n hx hb dX6_isSo_4 rfl (lv_at hl 0 rfl) ?_
    refine va_get (D := G) (ci := 6) (v := .ref (q 1)) (C := RX6) (T := TX6) (N := 11) hx hb hts hinX6 hown hK hP 0 rfl rfl 0 (by decide) hL7 (fun _ h9 => h9) rfl dX6_isSo_5 ?_
    refine lv_iconst (v := 4) hx hb dX6_isSo_8 (by decide) ?_
    refine k_ald (f := (M 0)) (j := 4) (v := ((M 0) 4)) hx hb hK hP 1 0 rfl rfl (show ¬ ((4 : Int32) < 0 ∨ 86 ≤ (4 : Int32).toNatClampNeg) by decide) rfl rfl dX6_isSo_9 ?_
    refine lv_iload_n hx hb dX6_isSo_10 rfl (lv_at hl 1 rfl) ?_
    refine lv_icmp_lt (tgt := 18) hx hb dX6_isSo_11 (by decide) (fun c_3 => ?_) (fun c_3 => ?_)
    · have h := h.1 c_3
      refine lv_iconst (v := 0) hx hb dX6_isSo_18 (by decide) ?_
      refine lv_goto (tgt := 37) hx hb dX6_isSo_19 (by decide) ?_
      exact W.zret (v := 0) hx hb hr rfl (fun t ht hW => ⟨⟨0, (), rfl, h, by rw [ht]; exact hP, hD⟩, hS.F ht⟩) hS.2.2 dX6_isSo_37
    · have h := h.2 c_3
      refine lv_iconst (v := 1) hx hb dX6_isSo_14 (by decide) ?_
      refine lv_goto (tgt := 37) hx hb dX6_isSo_15 (by decide) ?_
      exact W.zret (v := 1) hx hb hr rfl (fun t ht hW => ⟨⟨1, (), rfl, h, by rw [ht]; exact hP, hD⟩, hS.F ht⟩) hS.2.2 dX6_isSo_37
def q_X6_minutesUntil (x : Int32) (y : Int32) (M : St) (Q : Int32 → St → Prop) : Prop :=
  q_X6_in x 0 9999 (fun r_1 => (r_1 = 0 → Q (-1000001) M) ∧ (¬ (r_1 = 0) → q_X6_in y 0 1 (fun r_3 => (r_3 = 0 → Q (-1000001) M) ∧ (¬ (r_3 = 0) → q_X6_copies (fun i => cond (Nat.beq i 0) (M 0) (M 3)) (fun u_5 => ∃ (I_7 : Nat → Int32 → St → Prop) (n_11 : Nat), I_7 n_11 0 (uA (uA M 0 (u_5 0)) 3 (u_5 1)) ∧ ∀ (n_6 : Nat) (x3_8 : Int32) (D_9 : St), I_7 n_6 x3_8 D_9 → ((1000 < x3_8 → q_X6_copies (fun i => cond (Nat.beq i 0) (D_9 3) (D_9 0)) (fun u_16 => (x3_8 ≤ 1000 → Q x3_8 (uA (uA D_9 3 (u_16 0)) 0 (u_16 1))) ∧ (¬ (x3_8 ≤ 1000) → Q (-1000004) (uA (uA D_9 3 (u_16 0)) 0 (u_16 1))))) ∧ (¬ (1000 < x3_8) → q_X6_isSo x y D_9 (fun r_18 => (r_18 = 0 → q_X6_passes D_9 (fun u_22 => ∃ n_23, n_23 < n_6 ∧ I_7 n_23 (x3_8 + 1) u_22)) ∧ (¬ (r_18 = 0) → q_X6_copies (fun i => cond (Nat.beq i 0) (D_9 3) (D_9 0)) (fun u_20 => (x3_8 ≤ 1000 → Q x3_8 (uA (uA D_9 3 (u_20 0)) 0 (u_20 1))) ∧ (¬ (x3_8 ≤ 1000) → Q (-1000004) (uA (uA D_9 3 (u_20 0)) 0 (u_20 1)))))))))))))
set_option maxHeartbeats 4000000 in
set_option maxRecDepth 100000 in
theorem c_X6_minutesUntil (l : Launch) (G : va_G) (cI cC cD : ClassId) (q : Nat → Nat) (sz : Nat) (M : St) (x : Int32) (y : Int32) (Q : Int32 → St → Prop) (h : q_X6_minutesUntil x y M Q) : Met l yX6_minutesUntil wsX6_minutesUntil ({ frames := 5, cells := 0, slots := 0, locals := 111 }) (va_Pc [.ref (q 0), .int x, .int y] (PW G (ty3 cI cC cD) (wM cI q M) sz)) (va_Qi Q (BW G (fun u : St => (wM cI q u)) (va_A (wM cI q M) sz)) (va_A (wM cI q M) sz)) 0 0 (va_A (wM cI q M) sz) := by
  refine Met.ofW (cc := cX6_minutesUntil) (maxL := 4) (ret := (some .int)) (by decide) rfl ?_
  intro p e s m args below meth c s₁ B hml hv
  obtain ⟨rfl, hsz, hP, hK, hD0, hN⟩ := hv
  have hx := B.exec
  have hb := B.bytes
  have hr := B.returns
  have hts := atoms_spec (ws := wsX6_minutesUntil) B.pre
  have hown : s.vm.findClass RX6 = some m.cls := findClass_of_methodNamed B.named
  have hlocks := B.notSynchronized
  subst hsz
  have hD := hD0.self (sz := s.heap.size)
  generalize hAe : va_A (wM cI q M) s.heap.size = A at hD ⊢
  have hA : ∀ q : Nat, s.heap.size ≤ q → A q := fun q h => by rw [← hAe]; exact Or.inr h
  have hS : va_S A s.heap s.heap [] := va_S.rf
  have hl := lv_entry ([.ref (q 0), .int x, .int y]) (n := 4) (Nat.le_of_ble_eq_true rfl)
  rw [lg_entry_eq]
  generalize (lg_sl ([.ref (q 0), .int x, .int y]) ++ List.replicate (4 - (lg_sl ([.ref (q 0), .int x, .int y])).length) Slot.unset).toArray = ls at hl ⊢
  have hl : lv_has ls 4 [(0, .ref (q 0)), (1, .int x), (2, .int y)] := hl
  have hinX6 : ∀ w ∈ wsX60, w ∈ wsX6_minutesUntil := by decide +kernel
  have hL7 := hts (.fieldLink RX6 7 "CraneGatesModel" "s" "[I") (by decide +kernel)
  have hL19 := hts (.fieldLink RX6 19 "CraneGatesModel" "tried" "[I") (by decide +kernel)
  unfold q_X6_minutesUntil at h
  refine lv_iload_n hx hb dX6_minutesUntil_0 rfl (lv_at hl 1 rfl) ?_
  refine lv_iconst (v := 0) hx hb dX6_minutesUntil_1 (by decide) ?_
  refine lv_sipush (v := 9999) hx hb dX6_minutesUntil_2 (by decide) ?_
  refine ks_i (As := [.int x, .int 0, .int 9999]) (rest := []) (wg := (fun _ => (wM cI q M))) ⟨hx, hb, hml, hown, hts⟩ (c_X6_in l G cI cC cD  _  x 0 9999 _ h) (va_cwS 3 hts gX6_minutesUntil_X6_in rfl rfl rfl (by decide +kernel) ⟨Nat.le_of_ble_eq_true rfl, Nat.le_of_ble_eq_true rfl⟩) hK hN hP hD hS hA (em_0 _) (fun _ => rp_self (em_0 _)) rfl hl.1 rfl (Nat.le_of_ble_eq_true rfl) dX6_minutesUntil_5 ⟨Nat.zero_le _, Nat.zero_le _⟩ (fun r_1 _ H locs h hP hD hS => ?_)
  refine lv_if_eq (tgt := 20) hx hb dX6_minutesUntil_8 (by decide) (fun c_2 => ?_) (fun c_2 => ?_)
  · have h := h.1 c_2
    refine lv_ldc hx hb hown (hts (.constant RX6 103 (-1000001)) (by decide +kernel)) dX6_minutesUntil_20 ?_
    exact W.iret (v := (-1000001)) hx hb hr (fun t ht hW => ⟨⟨(-1000001), M, rfl, h, by rw [ht]; exact hP, hD⟩, hS.F ht⟩) hS.2.2 dX6_minutesUntil_22
  · have h := h.2 c_2
    refine lv_iload_n hx hb dX6_minutesUntil_11 rfl (lv_at hl 2 rfl) ?_
    refine lv_iconst (v := 0) hx hb dX6_minutesUntil_12 (by decide) ?_
    refine lv_iconst (v := 1) hx hb dX6_minutesUntil_13 (by decide) ?_
    refine ks_i (As := [.int y, .int 0, .int 1]) (rest := []) (wg := (fun _ => (wM cI q M))) ⟨hx, hb, hml, hown, hts⟩ (c_X6_in l G cI cC cD  _  y 0 1 _ h) (va_cwS 3 hts gX6_minutesUntil_X6_in rfl rfl rfl (by decide +kernel) ⟨Nat.le_of_ble_eq_true rfl, Nat.le_of_ble_eq_true rfl⟩) hK hN hP hD hS hA (em_0 _) (fun _ => rp_self (em_0 _)) rfl hl.1 rfl (Nat.le_of_ble_eq_true rfl) dX6_minutesUntil_14 ⟨Nat.zero_le _, Nat.zero_le _⟩ (fun r_3 _ H locs h hP hD hS => ?_)
    refine lv_if_ne (tgt := 23) hx hb dX6_minutesUntil_17 (by decide) (fun c_4 => ?_) (fun c_4 => ?_)
    · have h := h.2 c_4
      refine lv_aload_n hx hb dX6_minutesUntil_23 rfl (lv_at hl 0 rfl) ?_
      refine va_get (D := G) (ci := 6) (v := .ref (q 1)) (C := RX6) (T := TX6) (N := 11) hx hb hts hinX6 hown hK hP 0 rfl rfl 0 (by decide) hL7 (fun _ h9 => h9) rfl dX6_minutesUntil_24 ?_
      refine lv_aload_n hx hb dX6_minutesUntil_27 rfl (lv_at hl 0 rfl) ?_
      refine va_get (D := G) (ci := 6) (v := .ref (q 4)) (C := RX6) (T := TX6) (N := 11) hx hb hts hinX6 hown hK hP 0 rfl rfl 3 (by decide) hL19 (fun _ h9 => h9) rfl dX6_minutesUntil_28 ?_
      refine ks_v (As := [.ref (q 1), .ref (q 4)]) (rest := []) (wg := (fun u => (wM cI q (uA (uA M 0 (u 0)) 3 (u 1))))) ⟨hx, hb, hml, hown, hts⟩ (c_X6_copies l G cI cC cD (q 1) (q 4) _ (fun i => cond (Nat.beq i 0) (M 0) (M 3))  _ h) (va_cwS 2 hts gX6_minutesUntil_X6_copies rfl rfl rfl (by decide +kernel) ⟨Nat.le_of_ble_eq_true rfl, Nat.le_of_ble_eq_true rfl⟩) hK hN hP hD hS hA (em_M2_03 cI q M) (fun u => rp_M2_03 cI q M u) rfl hl.1 rfl (Nat.le_of_ble_eq_true rfl) dX6_minutesUntil_31 ⟨Nat.zero_le _, Nat.zero_le _⟩ (fun u_5 H locs h hP hD hS => ?_)
      refine lv_iconst (v := 0) hx hb dX6_minutesUntil_34 (by decide) ?_
      refine lv_istore_n (lv' := [(3, .int 0), (0, .ref (q 0)), (1, .int x), (2, .int y)]) hx hb dX6_minutesUntil_35 rfl hl (by decide) rfl (fun ls hl => ?_)
      obtain ⟨I_7, n_11, h_12, hI_13⟩ := h
      have lp_14 : ∀ (n_6 : Nat) (x3_8 : Int32) (D_9 : St), I_7 n_6 x3_8 D_9 → ∀ (H : Heap) (locs : List Loc) (ls : Array Slot), va_P G vwCl (wM cI q D_9) H → va_D A (wM cI q D_9) → va_S A s.heap H locs → lv_has ls 4 [(3, .int x3_8), (0, .ref (q 0)), (1, .int x), (2, .int y)] → W p l e (headSpec wsX6_minutesUntil ({ frames := 5, cells := 0, slots := 0, locals := 111 })).room s m ([.ref (q 0), .int x, .int y] : List Value).toArray below meth c H locs 0 0 (MQ below (va_Qi Q (BW G (fun u : St => (wM cI q u)) A) A) ([.ref (q 0), .int x, .int y] : List Value).toArray s 0 0 A) (F0 m 36 ls []) := by
        intro n_6
        induction n_6 using Nat.strongRecOn with
        | ind n_6 ih_10 =>
          intro x3_8 D_9 hIn H locs ls hP hD hS hl
          have h := hI_13 n_6 x3_8 D_9 hIn
          refine lv_iload_n hx hb dX6_minutesUntil_36 rfl (lv_at hl 0 rfl) ?_
          refine lv_sipush (v := 1000) hx hb dX6_minutesUntil_37 (by decide) ?_
          refine lv_icmp_gt (tgt := 62) hx hb dX6_minutesUntil_40 (by decide) (fun c_15 => ?_) (fun c_15 => ?_)
          · have h := h.1 c_15
            refine lv_aload_n hx hb dX6_minutesUntil_62 rfl (lv_at hl 1 rfl) ?_
            refine va_get (D := G) (ci := 6) (v := .ref (q 4)) (C := RX6) (T := TX6) (N := 11) hx hb hts hinX6 hown hK hP 0 rfl rfl 3 (by decide) hL19 (fun _ h9 => h9) rfl dX6_minutesUntil_63 ?_
            refine lv_aload_n hx hb dX6_minutesUntil_66 rfl (lv_at hl 1 rfl) ?_
            refine va_get (D := G) (ci := 6) (v := .ref (q 1)) (C := RX6) (T := TX6) (N := 11) hx hb hts hinX6 hown hK hP 0 rfl rfl 0 (by decide) hL7 (fun _ h9 => h9) rfl dX6_minutesUntil_67 ?_
            refine ks_v (As := [.ref (q 4), .ref (q 1)]) (rest := []) (wg := (fun u => (wM cI q (uA (uA D_9 3 (u 0)) 0 (u 1))))) ⟨hx, hb, hml, hown, hts⟩ (c_X6_copies l G cI cC cD (q 4) (q 1) _ (fun i => cond (Nat.beq i 0) (D_9 3) (D_9 0))  _ h) (va_cwS 2 hts gX6_minutesUntil_X6_copies rfl rfl rfl (by decide +kernel) ⟨Nat.le_of_ble_eq_true rfl, Nat.le_of_ble_eq_true rfl⟩) hK hN hP hD hS hA (em_M2_30 cI q D_9) (fun u => rp_M2_30 cI q D_9 u) rfl hl.1 rfl (Nat.le_of_ble_eq_true rfl) dX6_minutesUntil_70 ⟨Nat.zero_le _, Nat.zero_le _⟩ (fun u_16 H locs h hP hD hS => ?_)
            refine lv_iload_n hx hb dX6_minutesUntil_73 rfl (lv_at hl 0 rfl) ?_
            refine lv_sipush (v := 1000) hx hb dX6_minutesUntil_74 (by decide) ?_
            refine lv_icmp_le (tgt := 85) hx hb dX6_minutesUntil_77 (by decide) (fun c_17 => ?_) (fun c_17 => ?_)
            · have h := h.1 c_17
              refine lv_iload_n hx hb dX6_minutesUntil_85 rfl (lv_at hl 0 rfl) ?_
              exact W.iret (v := x3_8) hx hb hr (fun t ht hW => ⟨⟨x3_8, (uA (uA D_9 3 (u_16 0)) 0 (u_16 1)), rfl, h, by rw [ht]; exact hP, hD⟩, hS.F ht⟩) hS.2.2 dX6_minutesUntil_86
            · have h := h.2 c_17
              refine lv_ldc hx hb hown (hts (.constant RX6 40 (-1000004)) (by decide +kernel)) dX6_minutesUntil_80 ?_
              refine lv_goto (tgt := 86) hx hb dX6_minutesUntil_82 (by decide) ?_
              exact W.iret (v := (-1000004)) hx hb hr (fun t ht hW => ⟨⟨(-1000004), (uA (uA D_9 3 (u_16 0)) 0 (u_16 1)), rfl, h, by rw [ht]; exact hP, hD⟩, hS.F ht⟩) hS.2.2 dX6_minutesUntil_86
          · have h := h.2 c_15
            refine lv_aload_n hx hb dX6_minutesUntil_43 rfl (lv_at hl 1 rfl) ?_
            refine lv_iload_n hx hb dX6_minutesUntil_44 rfl (lv_at hl 2 rfl) ?_
            refine lv_iload_n hx hb dX6_minutesUntil_45 rfl (lv_at hl 3 rfl) ?_
            refine kc_i (As := [.int x, .int y]) (rest := []) (wg := (fun _ => (wM cI q D_9))) ⟨hx, hb, hml, hown, hts⟩ (c_X6_isSo l G cI cC cD q _ D_9 x y _ h) (cwV 2 hts gX6_minutesUntil_X6_isSo rfl rfl rfl (by decide +kernel) ⟨Nat.le_of_ble_eq_true rfl, Nat.le_of_ble_eq_true rfl⟩) hK hN hP hD hS hA (em_MM cI q D_9) (fun _ => rp_self (em_MM cI q D_9)) rfl rfl rfl rfl hl.1 rfl (Nat.le_of_ble_eq_true rfl) dX6_minutesUntil_46 ⟨Nat.zero_le _, Nat.zero_le _⟩ (fun r_18 _ H locs h hP hD hS => ?_)
            refine lv_if_ne (tgt := 62) hx hb dX6_minutesUntil_49 (by decide) (fun c_19 => ?_) (fun c_19 => ?_)
            · have h := h.2 c_19
              refine lv_aload_n hx hb dX6_minutesUntil_62 rfl (lv_at hl 1 rfl) ?_
              refine va_get (D := G) (ci := 6) (v := .ref (q 4)) (C := RX6) (T := TX6) (N := 11) hx hb hts hinX6 hown hK hP 0 rfl rfl 3 (by decide) hL19 (fun _ h9 => h9) rfl dX6_minutesUntil_63 ?_
              refine lv_aload_n hx hb dX6_minutesUntil_66 rfl (lv_at hl 1 rfl) ?_
              refine va_get (D := G) (ci := 6) (v := .ref (q 1)) (C := RX6) (T := TX6) (N := 11) hx hb hts hinX6 hown hK hP 0 rfl rfl 0 (by decide) hL7 (fun _ h9 => h9) rfl dX6_minutesUntil_67 ?_
              refine ks_v (As := [.ref (q 4), .ref (q 1)]) (rest := []) (wg := (fun u => (wM cI q (uA (uA D_9 3 (u 0)) 0 (u 1))))) ⟨hx, hb, hml, hown, hts⟩ (c_X6_copies l G cI cC cD (q 4) (q 1) _ (fun i => cond (Nat.beq i 0) (D_9 3) (D_9 0))  _ h) (va_cwS 2 hts gX6_minutesUntil_X6_copies rfl rfl rfl (by decide +kernel) ⟨Nat.le_of_ble_eq_true rfl, Nat.le_of_ble_eq_true rfl⟩) hK hN hP hD hS hA (em_M2_30 cI q D_9) (fun u => rp_M2_30 cI q D_9 u) rfl hl.1 rfl (Nat.le_of_ble_eq_true rfl) dX6_minutesUntil_70 ⟨Nat.zero_le _, Nat.zero_le _⟩ (fun u_20 H locs h hP hD hS => ?_)
              refine lv_iload_n hx hb dX6_minutesUntil_73 rfl (lv_at hl 0 rfl) ?_
              refine lv_sipush (v := 1000) hx hb dX6_minutesUntil_74 (by decide) ?_
              refine lv_icmp_le (tgt := 85) hx hb dX6_minutesUntil_77 (by decide) (fun c_21 => ?_) (fun c_21 => ?_)
              · have h := h.1 c_21
                refine lv_iload_n hx hb dX6_minutesUntil_85 rfl (lv_at hl 0 rfl) ?_
                exact W.iret (v := x3_8) hx hb hr (fun t ht hW => ⟨⟨x3_8, (uA (uA D_9 3 (u_20 0)) 0 (u_20 1)), rfl, h, by rw [ht]; exact hP, hD⟩, hS.F ht⟩) hS.2.2 dX6_minutesUntil_86
              · have h := h.2 c_21
                refine lv_ldc hx hb hown (hts (.constant RX6 40 (-1000004)) (by decide +kernel)) dX6_minutesUntil_80 ?_
                refine lv_goto (tgt := 86) hx hb dX6_minutesUntil_82 (by decide) ?_
                exact W.iret (v := (-1000004)) hx hb hr (fun t ht hW => ⟨⟨(-1000004), (uA (uA D_9 3 (u_20 0)) 0 (u_20 1)), rfl, h, by rw [ht]; exact hP, hD⟩, hS.F ht⟩) hS.2.2 dX6_minutesUntil_86
            · have h := h.1 c_19
              refine lv_aload_n hx hb dX6_minutesUntil_52 rfl (lv_at hl 1 rfl) ?_
              refine kc_v (As := []) (rest := []) (wg := (fun u => (wM cI q u))) ⟨hx, hb, hml, hown, hts⟩ (c_X6_passes l G cI cC cD q _ D_9  _ h) (cwV 0 hts gX6_minutesUntil_X6_passes rfl rfl rfl (by decide +kernel) ⟨Nat.le_of_ble_eq_true rfl, Nat.le_of_ble_eq_true rfl⟩) hK hN hP hD hS hA (em_MM cI q D_9) (fun u => rp_MM cI q D_9 u) rfl rfl rfl rfl hl.1 rfl (Nat.le_of_ble_eq_true rfl) dX6_minutesUntil_53 ⟨Nat.zero_le _, Nat.zero_le _⟩ (fun u_22 H locs h hP hD hS => ?_)
              refine lv_iinc (v := x3_8 + 1) (lv' := [(3, .int (x3_8 + 1)), (0, .ref (q 0)), (1, .int x), (2, .int y)]) hx hb dX6_minutesUntil_56 hl (k := 0) rfl rfl (by decide) rfl (fun ls hl => ?_)
              refine lv_goto (tgt := 36) hx hb dX6_minutesUntil_59 (by decide) ?_
              obtain ⟨n_23, lt_24, h_25⟩ := h
              exact ih_10 n_23 lt_24 _ _ h_25 _ _ _ hP hD hS (lv_sub hl [0, 1, 2, 3] rfl)
      exact lp_14 _ _ _ h_12 _ _ _ hP hD hS hl
    · have h := h.1 c_4
      refine lv_ldc hx hb hown (hts (.constant RX6 103 (-1000001)) (by decide +kernel)) dX6_minutesUntil_20 ?_
      exact W.iret (v := (-1000001)) hx hb hr (fun t ht hW => ⟨⟨(-1000001), M, rfl, h, by rw [ht]; exact hP, hD⟩, hS.F ht⟩) hS.2.2 dX6_minutesUntil_22
def q_X6_isAtRest (M : St) (Q : Int32 → Prop) : Prop :=
  (0 ≤ ((M 0) 7) → Q 0) ∧ (¬ (0 ≤ ((M 0) 7)) → (((M 0) 10) = 0 → (((M 0) 11) = 0 → (((M 0) 9) = 0 → Q 1) ∧ (¬ (((M 0) 9) = 0) → Q 0)) ∧ (¬ (((M 0) 11) = 0) → Q 0)) ∧ (¬ (((M 0) 10) = 0) → Q 0))
set_option maxHeartbeats 4000000 in
set_option maxRecDepth 100000 in
theorem c_X6_isAtRest (l : Launch) (G : va_G) (cI cC cD : ClassId) (q : Nat → Nat) (sz : Nat) (M : St)  (Q : Int32 → Prop) (h : q_X6_isAtRest  M Q) : Met l yX6_isAtRest wsX6_isAtRest ({ frames := 0, cells := 0, slots := 0, locals := 0 }) (va_Pc [.ref (q 0)] (PW G (ty3 cI cC cD) (wM cI q M) sz)) (va_Qi (fun (r : Int32) (_ : Unit) => Q r) (BW G (fun _ : Unit => (wM cI q M)) (va_A (wM cI q M) sz)) (va_A (wM cI q M) sz)) 0 0 (va_A (wM cI q M) sz) := by
  refine Met.ofW (cc := cX6_isAtRest) (maxL := 1) (ret := (some .boolean)) (by decide) rfl ?_
  intro p e s m args below meth c s₁ B hml hv
  obtain ⟨rfl, hsz, hP, hK, hD0, hN⟩ := hv
  have hx := B.exec
  have hb := B.bytes
  have hr := B.returns
  have hts := atoms_spec (ws := wsX6_isAtRest) B.pre
  have hown : s.vm.findClass RX6 = some m.cls := findClass_of_methodNamed B.named
  have hlocks := B.notSynchronized
  subst hsz
  have hD := hD0.self (sz := s.heap.size)
  generalize hAe : va_A (wM cI q M) s.heap.size = A at hD ⊢
  have hA : ∀ q : Nat, s.heap.size ≤ q → A q := fun q h => by rw [← hAe]; exact Or.inr h
  have hS : va_S A s.heap s.heap [] := va_S.rf
  have hl := lv_entry ([.ref (q 0)]) (n := 1) (Nat.le_of_ble_eq_true rfl)
  rw [lg_entry_eq]
  generalize (lg_sl ([.ref (q 0)]) ++ List.replicate (1 - (lg_sl ([.ref (q 0)])).length) Slot.unset).toArray = ls at hl ⊢
  have hl : lv_has ls 1 [(0, .ref (q 0))] := hl
  have hinX6 : ∀ w ∈ wsX60, w ∈ wsX6_isAtRest := by decide +kernel
  have hL7 := hts (.fieldLink RX6 7 "CraneGatesModel" "s" "[I") (by decide +kernel)
  unfold q_X6_isAtRest at h
  refine lv_aload_n hx hb dX6_isAtRest_0 rfl (lv_at hl 0 rfl) ?_
  refine va_get (D := G) (ci := 6) (v := .ref (q 1)) (C := RX6) (T := TX6) (N := 11) hx hb hts hinX6 hown hK hP 0 rfl rfl 0 (by decide) hL7 (fun _ h9 => h9) rfl dX6_isAtRest_1 ?_
  refine lv_bipush (v := 7) hx hb dX6_isAtRest_4 (by decide) ?_
  refine k_ald (f := (M 0)) (j := 7) (v := ((M 0) 7)) hx hb hK hP 1 0 rfl rfl (show ¬ ((7 : Int32) < 0 ∨ 86 ≤ (7 : Int32).toNatClampNeg) by decide) rfl rfl dX6_isAtRest_6 ?_
  refine lv_if_ge (tgt := 44) hx hb dX6_isAtRest_7 (by decide) (fun c_1 => ?_) (fun c_1 => ?_)
  · have h := h.1 c_1
    refine lv_iconst (v := 0) hx hb dX6_isAtRest_44 (by decide) ?_
    exact W.zret (v := 0) hx hb hr rfl (fun t ht hW => ⟨⟨0, (), rfl, h, by rw [ht]; exact hP, hD⟩, hS.F ht⟩) hS.2.2 dX6_isAtRest_45
  · have h := h.2 c_1
    refine lv_aload_n hx hb dX6_isAtRest_10 rfl (lv_at hl 0 rfl) ?_
    refine va_get (D := G) (ci := 6) (v := .ref (q 1)) (C := RX6) (T := TX6) (N := 11) hx hb hts hinX6 hown hK hP 0 rfl rfl 0 (by decide) hL7 (fun _ h9 => h9) rfl dX6_isAtRest_11 ?_
    refine lv_bipush (v := 10) hx hb dX6_isAtRest_14 (by decide) ?_
    refine k_ald (f := (M 0)) (j := 10) (v := ((M 0) 10)) hx hb hK hP 1 0 rfl rfl (show ¬ ((10 : Int32) < 0 ∨ 86 ≤ (10 : Int32).toNatClampNeg) by decide) rfl rfl dX6_isAtRest_16 ?_
    refine lv_if_ne (tgt := 44) hx hb dX6_isAtRest_17 (by decide) (fun c_2 => ?_) (fun c_2 => ?_)
    · have h := h.2 c_2
      refine lv_iconst (v := 0) hx hb dX6_isAtRest_44 (by decide) ?_
      exact W.zret (v := 0) hx hb hr rfl (fun t ht hW => ⟨⟨0, (), rfl, h, by rw [ht]; exact hP, hD⟩, hS.F ht⟩) hS.2.2 dX6_isAtRest_45
    · have h := h.1 c_2
      refine lv_aload_n hx hb dX6_isAtRest_20 rfl (lv_at hl 0 rfl) ?_
      refine va_get (D := G) (ci := 6) (v := .ref (q 1)) (C := RX6) (T := TX6) (N := 11) hx hb hts hinX6 hown hK hP 0 rfl rfl 0 (by decide) hL7 (fun _ h9 => h9) rfl dX6_isAtRest_21 ?_
      refine lv_bipush (v := 11) hx hb dX6_isAtRest_24 (by decide) ?_
      refine k_ald (f := (M 0)) (j := 11) (v := ((M 0) 11)) hx hb hK hP 1 0 rfl rfl (show ¬ ((11 : Int32) < 0 ∨ 86 ≤ (11 : Int32).toNatClampNeg) by decide) rfl rfl dX6_isAtRest_26 ?_
      refine lv_if_ne (tgt := 44) hx hb dX6_isAtRest_27 (by decide) (fun c_3 => ?_) (fun c_3 => ?_)
      · have h := h.2 c_3
        refine lv_iconst (v := 0) hx hb dX6_isAtRest_44 (by decide) ?_
        exact W.zret (v := 0) hx hb hr rfl (fun t ht hW => ⟨⟨0, (), rfl, h, by rw [ht]; exact hP, hD⟩, hS.F ht⟩) hS.2.2 dX6_isAtRest_45
      · have h := h.1 c_3
        refine lv_aload_n hx hb dX6_isAtRest_30 rfl (lv_at hl 0 rfl) ?_
        refine va_get (D := G) (ci := 6) (v := .ref (q 1)) (C := RX6) (T := TX6) (N := 11) hx hb hts hinX6 hown hK hP 0 rfl rfl 0 (by decide) hL7 (fun _ h9 => h9) rfl dX6_isAtRest_31 ?_
        refine lv_bipush (v := 9) hx hb dX6_isAtRest_34 (by decide) ?_
        refine k_ald (f := (M 0)) (j := 9) (v := ((M 0) 9)) hx hb hK hP 1 0 rfl rfl (show ¬ ((9 : Int32) < 0 ∨ 86 ≤ (9 : Int32).toNatClampNeg) by decide) rfl rfl dX6_isAtRest_36 ?_
        refine lv_if_ne (tgt := 44) hx hb dX6_isAtRest_37 (by decide) (fun c_4 => ?_) (fun c_4 => ?_)
        · have h := h.2 c_4
          refine lv_iconst (v := 0) hx hb dX6_isAtRest_44 (by decide) ?_
          exact W.zret (v := 0) hx hb hr rfl (fun t ht hW => ⟨⟨0, (), rfl, h, by rw [ht]; exact hP, hD⟩, hS.F ht⟩) hS.2.2 dX6_isAtRest_45
        · have h := h.1 c_4
          refine lv_iconst (v := 1) hx hb dX6_isAtRest_40 (by decide) ?_
          refine lv_goto (tgt := 45) hx hb dX6_isAtRest_41 (by decide) ?_
          exact W.zret (v := 1) hx hb hr rfl (fun t ht hW => ⟨⟨1, (), rfl, h, by rw [ht]; exact hP, hD⟩, hS.F ht⟩) hS.2.2 dX6_isAtRest_45
def q_X6_restIn (x : Int32) (M : St) (Q : Int32 → St → Prop) : Prop :=
  q_X6_copies (fun i => cond (Nat.beq i 0) (M 0) (M 3)) (fun u_1 => ∃ (I_3 : Nat → Int32 → St → Prop) (n_7 : Nat), I_3 n_7 0 (uA (uA (uA M 0 (u_1 0)) 3 (u_1 1)) 0 (upd (u_1 0) 2 x)) ∧ ∀ (n_2 : Nat) (x2_4 : Int32) (D_5 : St), I_3 n_2 x2_4 D_5 → ((1000 < x2_4 → q_X6_copies (fun i => cond (Nat.beq i 0) (D_5 3) (D_5 0)) (fun u_12 => (x2_4 ≤ 1000 → Q x2_4 (uA (uA D_5 3 (u_12 0)) 0 (u_12 1))) ∧ (¬ (x2_4 ≤ 1000) → Q (-1000004) (uA (uA D_5 3 (u_12 0)) 0 (u_12 1))))) ∧ (¬ (1000 < x2_4) → q_X6_isAtRest D_5 (fun r_14 => (r_14 = 0 → q_X6_passes D_5 (fun u_18 => ∃ n_19, n_19 < n_2 ∧ I_3 n_19 (x2_4 + 1) u_18)) ∧ (¬ (r_14 = 0) → q_X6_copies (fun i => cond (Nat.beq i 0) (D_5 3) (D_5 0)) (fun u_16 => (x2_4 ≤ 1000 → Q x2_4 (uA (uA D_5 3 (u_16 0)) 0 (u_16 1))) ∧ (¬ (x2_4 ≤ 1000) → Q (-1000004) (uA (uA D_5 3 (u_16 0)) 0 (u_16 1)))))))))
set_option maxHeartbeats 4000000 in
set_option maxRecDepth 100000 in
theorem c_X6_restIn (l : Launch) (G : va_G) (cI cC cD : ClassId) (q : Nat → Nat) (sz : Nat) (M : St) (x : Int32) (Q : Int32 → St → Prop) (h : q_X6_restIn x M Q) : Met l yX6_restIn wsX6_restIn ({ frames := 5, cells := 0, slots := 0, locals := 111 }) (va_Pc [.ref (q 0), .int x] (PW G (ty3 cI cC cD) (wM cI q M) sz)) (va_Qi Q (BW G (fun u : St => (wM cI q u)) (va_A (wM cI q M) sz)) (va_A (wM cI q M) sz)) 0 0 (va_A (wM cI q M) sz) := by
  refine Met.ofW (cc := cX6_restIn) (maxL := 3) (ret := (some .int)) (by decide) rfl ?_
  intro p e s m args below meth c s₁ B hml hv
  obtain ⟨rfl, hsz, hP, hK, hD0, hN⟩ := hv
  have hx := B.exec
  have hb := B.bytes
  have hr := B.returns
  have hts := atoms_spec (ws := wsX6_restIn) B.pre
  have hown : s.vm.findClass RX6 = some m.cls := findClass_of_methodNamed B.named
  have hlocks := B.notSynchronized
  subst hsz
  have hD := hD0.self (sz := s.heap.size)
  generalize hAe : va_A (wM cI q M) s.heap.size = A at hD ⊢
  have hA : ∀ q : Nat, s.heap.size ≤ q → A q := fun q h => by rw [← hAe]; exact Or.inr h
  have hS : va_S A s.heap s.heap [] := va_S.rf
  have hl := lv_entry ([.ref (q 0), .int x]) (n := 3) (Nat.le_of_ble_eq_true rfl)
  rw [lg_entry_eq]
  generalize (lg_sl ([.ref (q 0), .int x]) ++ List.replicate (3 - (lg_sl ([.ref (q 0), .int x])).length) Slot.unset).toArray = ls at hl ⊢
  have hl : lv_has ls 3 [(0, .ref (q 0)), (1, .int x)] := hl
  have hinX6 : ∀ w ∈ wsX60, w ∈ wsX6_restIn := by decide +kernel
  have hL7 := hts (.fieldLink RX6 7 "CraneGatesModel" "s" "[I") (by decide +kernel)
  have hL19 := hts (.fieldLink RX6 19 "CraneGatesModel" "tried" "[I") (by decide +kernel)
  unfold q_X6_restIn at h
  refine lv_aload_n hx hb dX6_restIn_0 rfl (lv_at hl 0 rfl) ?_
  refine va_get (D := G) (ci := 6) (v := .ref (q 1)) (C := RX6) (T := TX6) (N := 11) hx hb hts hinX6 hown hK hP 0 rfl rfl 0 (by decide) hL7 (fun _ h9 => h9) rfl dX6_restIn_1 ?_
  refine lv_aload_n hx hb dX6_restIn_4 rfl (lv_at hl 0 rfl) ?_
  refine va_get (D := G) (ci := 6) (v := .ref (q 4)) (C := RX6) (T := TX6) (N := 11) hx hb hts hinX6 hown hK hP 0 rfl rfl 3 (by decide) hL19 (fun _ h9 => h9) rfl dX6_restIn_5 ?_
  refine ks_v (As := [.ref (q 1), .ref (q 4)]) (rest := []) (wg := (fun u => (wM cI q (uA (uA M 0 (u 0)) 3 (u 1))))) ⟨hx, hb, hml, hown, hts⟩ (c_X6_copies l G cI cC cD (q 1) (q 4) _ (fun i => cond (Nat.beq i 0) (M 0) (M 3))  _ h) (va_cwS 2 hts gX6_restIn_X6_copies rfl rfl rfl (by decide +kernel) ⟨Nat.le_of_ble_eq_true rfl, Nat.le_of_ble_eq_true rfl⟩) hK hN hP hD hS hA (em_M2_03 cI q M) (fun u => rp_M2_03 cI q M u) rfl hl.1 rfl (Nat.le_of_ble_eq_true rfl) dX6_restIn_8 ⟨Nat.zero_le _, Nat.zero_le _⟩ (fun u_1 H locs h hP hD hS => ?_)
  refine lv_aload_n hx hb dX6_restIn_11 rfl (lv_at hl 0 rfl) ?_
  refine va_get (D := G) (ci := 6) (v := .ref (q 1)) (C := RX6) (T := TX6) (N := 11) hx hb hts hinX6 hown hK hP 0 rfl rfl 0 (by decide) hL7 (fun _ h9 => h9) rfl dX6_restIn_12 ?_
  refine lv_iconst (v := 2) hx hb dX6_restIn_15 (by decide) ?_
  refine lv_iload_n hx hb dX6_restIn_16 rfl (lv_at hl 1 rfl) ?_
  refine k_ast (f := (u_1 0)) (j := 2) (ws' := (wM cI q (uA (uA (uA M 0 (u_1 0)) 3 (u_1 1)) 0 (upd (u_1 0) 2 x)))) hx hb hK hP hD hS 1 0 rfl rfl (show ¬ ((2 : Int32) < 0 ∨ 86 ≤ (2 : Int32).toNatClampNeg) by decide) rfl dX6_restIn_17 rfl (fun H locs hP hD hS => ?_)
  refine lv_iconst (v := 0) hx hb dX6_restIn_18 (by decide) ?_
  refine lv_istore_n (lv' := [(2, .int 0), (0, .ref (q 0)), (1, .int x)]) hx hb dX6_restIn_19 rfl hl (by decide) rfl (fun ls hl => ?_)
  obtain ⟨I_3, n_7, h_8, hI_9⟩ := h
  have lp_10 : ∀ (n_2 : Nat) (x2_4 : Int32) (D_5 : St), I_3 n_2 x2_4 D_5 → ∀ (H : Heap) (locs : List Loc) (ls : Array Slot), va_P G vwCl (wM cI q D_5) H → va_D A (wM cI q D_5) → va_S A s.heap H locs → lv_has ls 3 [(2, .int x2_4), (0, .ref (q 0)), (1, .int x)] → W p l e (headSpec wsX6_restIn ({ frames := 5, cells := 0, slots := 0, locals := 111 })).room s m ([.ref (q 0), .int x] : List Value).toArray below meth c H locs 0 0 (MQ below (va_Qi Q (BW G (fun u : St => (wM cI q u)) A) A) ([.ref (q 0), .int x] : List Value).toArray s 0 0 A) (F0 m 20 ls []) := by
    intro n_2
    induction n_2 using Nat.strongRecOn with
    | ind n_2 ih_6 =>
      intro x2_4 D_5 hIn H locs ls hP hD hS hl
      have h := hI_9 n_2 x2_4 D_5 hIn
      refine lv_iload_n hx hb dX6_restIn_20 rfl (lv_at hl 0 rfl) ?_
      refine lv_sipush (v := 1000) hx hb dX6_restIn_21 (by decide) ?_
      refine lv_icmp_gt (tgt := 44) hx hb dX6_restIn_24 (by decide) (fun c_11 => ?_) (fun c_11 => ?_)
      · have h := h.1 c_11
        refine lv_aload_n hx hb dX6_restIn_44 rfl (lv_at hl 1 rfl) ?_
        refine va_get (D := G) (ci := 6) (v := .ref (q 4)) (C := RX6) (T := TX6) (N := 11) hx hb hts hinX6 hown hK hP 0 rfl rfl 3 (by decide) hL19 (fun _ h9 => h9) rfl dX6_restIn_45 ?_
        refine lv_aload_n hx hb dX6_restIn_48 rfl (lv_at hl 1 rfl) ?_
        refine va_get (D := G) (ci := 6) (v := .ref (q 1)) (C := RX6) (T := TX6) (N := 11) hx hb hts hinX6 hown hK hP 0 rfl rfl 0 (by decide) hL7 (fun _ h9 => h9) rfl dX6_restIn_49 ?_
        refine ks_v (As := [.ref (q 4), .ref (q 1)]) (rest := []) (wg := (fun u => (wM cI q (uA (uA D_5 3 (u 0)) 0 (u 1))))) ⟨hx, hb, hml, hown, hts⟩ (c_X6_copies l G cI cC cD (q 4) (q 1) _ (fun i => cond (Nat.beq i 0) (D_5 3) (D_5 0))  _ h) (va_cwS 2 hts gX6_restIn_X6_copies rfl rfl rfl (by decide +kernel) ⟨Nat.le_of_ble_eq_true rfl, Nat.le_of_ble_eq_true rfl⟩) hK hN hP hD hS hA (em_M2_30 cI q D_5) (fun u => rp_M2_30 cI q D_5 u) rfl hl.1 rfl (Nat.le_of_ble_eq_true rfl) dX6_restIn_52 ⟨Nat.zero_le _, Nat.zero_le _⟩ (fun u_12 H locs h hP hD hS => ?_)
        refine lv_iload_n hx hb dX6_restIn_55 rfl (lv_at hl 0 rfl) ?_
        refine lv_sipush (v := 1000) hx hb dX6_restIn_56 (by decide) ?_
        refine lv_icmp_le (tgt := 67) hx hb dX6_restIn_59 (by decide) (fun c_13 => ?_) (fun c_13 => ?_)
        · have h := h.1 c_13
          refine lv_iload_n hx hb dX6_restIn_67 rfl (lv_at hl 0 rfl) ?_
          exact W.iret (v := x2_4) hx hb hr (fun t ht hW => ⟨⟨x2_4, (uA (uA D_5 3 (u_12 0)) 0 (u_12 1)), rfl, h, by rw [ht]; exact hP, hD⟩, hS.F ht⟩) hS.2.2 dX6_restIn_68
        · have h := h.2 c_13
          refine lv_ldc hx hb hown (hts (.constant RX6 40 (-1000004)) (by decide +kernel)) dX6_restIn_62 ?_
          refine lv_goto (tgt := 68) hx hb dX6_restIn_64 (by decide) ?_
          exact W.iret (v := (-1000004)) hx hb hr (fun t ht hW => ⟨⟨(-1000004), (uA (uA D_5 3 (u_12 0)) 0 (u_12 1)), rfl, h, by rw [ht]; exact hP, hD⟩, hS.F ht⟩) hS.2.2 dX6_restIn_68
      · have h := h.2 c_11
        refine lv_aload_n hx hb dX6_restIn_27 rfl (lv_at hl 1 rfl) ?_
        refine kc_i (As := []) (rest := []) (wg := (fun _ => (wM cI q D_5))) ⟨hx, hb, hml, hown, hts⟩ (c_X6_isAtRest l G cI cC cD q _ D_5  _ h) (cwV 0 hts gX6_restIn_X6_isAtRest rfl rfl rfl (by decide +kernel) ⟨Nat.le_of_ble_eq_true rfl, Nat.le_of_ble_eq_true rfl⟩) hK hN hP hD hS hA (em_MM cI q D_5) (fun _ => rp_self (em_MM cI q D_5)) rfl rfl rfl rfl hl.1 rfl (Nat.le_of_ble_eq_true rfl) dX6_restIn_28 ⟨Nat.zero_le _, Nat.zero_le _⟩ (fun r_14 _ H locs h hP hD hS => ?_)
        refine lv_if_ne (tgt := 44) hx hb dX6_restIn_31 (by decide) (fun c_15 => ?_) (fun c_15 => ?_)
        · have h := h.2 c_15
          refine lv_aload_n hx hb dX6_restIn_44 rfl (lv_at hl 1 rfl) ?_
          refine va_get (D := G) (ci := 6) (v := .ref (q 4)) (C := RX6) (T := TX6) (N := 11) hx hb hts hinX6 hown hK hP 0 rfl rfl 3 (by decide) hL19 (fun _ h9 => h9) rfl dX6_restIn_45 ?_
          refine lv_aload_n hx hb dX6_restIn_48 rfl (lv_at hl 1 rfl) ?_
          refine va_get (D := G) (ci := 6) (v := .ref (q 1)) (C := RX6) (T := TX6) (N := 11) hx hb hts hinX6 hown hK hP 0 rfl rfl 0 (by decide) hL7 (fun _ h9 => h9) rfl dX6_restIn_49 ?_
          refine ks_v (As := [.ref (q 4), .ref (q 1)]) (rest := []) (wg := (fun u => (wM cI q (uA (uA D_5 3 (u 0)) 0 (u 1))))) ⟨hx, hb, hml, hown, hts⟩ (c_X6_copies l G cI cC cD (q 4) (q 1) _ (fun i => cond (Nat.beq i 0) (D_5 3) (D_5 0))  _ h) (va_cwS 2 hts gX6_restIn_X6_copies rfl rfl rfl (by decide +kernel) ⟨Nat.le_of_ble_eq_true rfl, Nat.le_of_ble_eq_true rfl⟩) hK hN hP hD hS hA (em_M2_30 cI q D_5) (fun u => rp_M2_30 cI q D_5 u) rfl hl.1 rfl (Nat.le_of_ble_eq_true rfl) dX6_restIn_52 ⟨Nat.zero_le _, Nat.zero_le _⟩ (fun u_16 H locs h hP hD hS => ?_)
          refine lv_iload_n hx hb dX6_restIn_55 rfl (lv_at hl 0 rfl) ?_
          refine lv_sipush (v := 1000) hx hb dX6_restIn_56 (by decide) ?_
          refine lv_icmp_le (tgt := 67) hx hb dX6_restIn_59 (by decide) (fun c_17 => ?_) (fun c_17 => ?_)
          · have h := h.1 c_17
            refine lv_iload_n hx hb dX6_restIn_67 rfl (lv_at hl 0 rfl) ?_
            exact W.iret (v := x2_4) hx hb hr (fun t ht hW => ⟨⟨x2_4, (uA (uA D_5 3 (u_16 0)) 0 (u_16 1)), rfl, h, by rw [ht]; exact hP, hD⟩, hS.F ht⟩) hS.2.2 dX6_restIn_68
          · have h := h.2 c_17
            refine lv_ldc hx hb hown (hts (.constant RX6 40 (-1000004)) (by decide +kernel)) dX6_restIn_62 ?_
            refine lv_goto (tgt := 68) hx hb dX6_restIn_64 (by decide) ?_
            exact W.iret (v := (-1000004)) hx hb hr (fun t ht hW => ⟨⟨(-1000004), (uA (uA D_5 3 (u_16 0)) 0 (u_16 1)), rfl, h, by rw [ht]; exact hP, hD⟩, hS.F ht⟩) hS.2.2 dX6_restIn_68
        · have h := h.1 c_15
          refine lv_aload_n hx hb dX6_restIn_34 rfl (lv_at hl 1 rfl) ?_
          refine kc_v (As := []) (rest := []) (wg := (fun u => (wM cI q u))) ⟨hx, hb, hml, hown, hts⟩ (c_X6_passes l G cI cC cD q _ D_5  _ h) (cwV 0 hts gX6_restIn_X6_passes rfl rfl rfl (by decide +kernel) ⟨Nat.le_of_ble_eq_true rfl, Nat.le_of_ble_eq_true rfl⟩) hK hN hP hD hS hA (em_MM cI q D_5) (fun u => rp_MM cI q D_5 u) rfl rfl rfl rfl hl.1 rfl (Nat.le_of_ble_eq_true rfl) dX6_restIn_35 ⟨Nat.zero_le _, Nat.zero_le _⟩ (fun u_18 H locs h hP hD hS => ?_)
          refine lv_iinc (v := x2_4 + 1) (lv' := [(2, .int (x2_4 + 1)), (0, .ref (q 0)), (1, .int x)]) hx hb dX6_restIn_38 hl (k := 0) rfl rfl (by decide) rfl (fun ls hl => ?_)
          refine lv_goto (tgt := 20) hx hb dX6_restIn_41 (by decide) ?_
          obtain ⟨n_19, lt_20, h_21⟩ := h
          exact ih_6 n_19 lt_20 _ _ h_21 _ _ _ hP hD hS (lv_sub hl [0, 1, 2] rfl)
  exact lp_10 _ _ _ h_8 _ _ _ hP hD hS hl
def q_X6_minutesToRest (M : St) (Q : Int32 → St → Prop) : Prop :=
  q_X6_restIn ((M 0) 2) M (fun r_1 u_2 => Q r_1 u_2)
set_option maxHeartbeats 4000000 in
set_option maxRecDepth 100000 in
theorem c_X6_minutesToRest (l : Launch) (G : va_G) (cI cC cD : ClassId) (q : Nat → Nat) (sz : Nat) (M : St)  (Q : Int32 → St → Prop) (h : q_X6_minutesToRest  M Q) : Met l yX6_minutesToRest wsX6_minutesToRest ({ frames := 6, cells := 0, slots := 0, locals := 133 }) (va_Pc [.ref (q 0)] (PW G (ty3 cI cC cD) (wM cI q M) sz)) (va_Qi Q (BW G (fun u : St => (wM cI q u)) (va_A (wM cI q M) sz)) (va_A (wM cI q M) sz)) 0 0 (va_A (wM cI q M) sz) := by
  refine Met.ofW (cc := cX6_minutesToRest) (maxL := 1) (ret := (some .int)) (by decide) rfl ?_
  intro p e s m args below meth c s₁ B hml hv
  obtain ⟨rfl, hsz, hP, hK, hD0, hN⟩ := hv
  have hx := B.exec
  have hb := B.bytes
  have hr := B.returns
  have hts := atoms_spec (ws := wsX6_minutesToRest) B.pre
  have hown : s.vm.findClass RX6 = some m.cls := findClass_of_methodNamed B.named
  have hlocks := B.notSynchronized
  subst hsz
  have hD := hD0.self (sz := s.heap.size)
  generalize hAe : va_A (wM cI q M) s.heap.size = A at hD ⊢
  have hA : ∀ q : Nat, s.heap.size ≤ q → A q := fun q h => by rw [← hAe]; exact Or.inr h
  have hS : va_S A s.heap s.heap [] := va_S.rf
  have hl := lv_entry ([.ref (q 0)]) (n := 1) (Nat.le_of_ble_eq_true rfl)
  rw [lg_entry_eq]
  generalize (lg_sl ([.ref (q 0)]) ++ List.replicate (1 - (lg_sl ([.ref (q 0)])).length) Slot.unset).toArray = ls at hl ⊢
  have hl : lv_has ls 1 [(0, .ref (q 0))] := hl
  have hinX6 : ∀ w ∈ wsX60, w ∈ wsX6_minutesToRest := by decide +kernel
  have hL7 := hts (.fieldLink RX6 7 "CraneGatesModel" "s" "[I") (by decide +kernel)
  unfold q_X6_minutesToRest at h
  refine lv_aload_n hx hb dX6_minutesToRest_0 rfl (lv_at hl 0 rfl) ?_
  refine lv_aload_n hx hb dX6_minutesToRest_1 rfl (lv_at hl 0 rfl) ?_
  refine va_get (D := G) (ci := 6) (v := .ref (q 1)) (C := RX6) (T := TX6) (N := 11) hx hb hts hinX6 hown hK hP 0 rfl rfl 0 (by decide) hL7 (fun _ h9 => h9) rfl dX6_minutesToRest_2 ?_
  refine lv_iconst (v := 2) hx hb dX6_minutesToRest_5 (by decide) ?_
  refine k_ald (f := (M 0)) (j := 2) (v := ((M 0) 2)) hx hb hK hP 1 0 rfl rfl (show ¬ ((2 : Int32) < 0 ∨ 86 ≤ (2 : Int32).toNatClampNeg) by decide) rfl rfl dX6_minutesToRest_6 ?_
  refine kc_i (As := [.int ((M 0) 2)]) (rest := []) (wg := (fun u => (wM cI q u))) ⟨hx, hb, hml, hown, hts⟩ (c_X6_restIn l G cI cC cD q _ M ((M 0) 2) _ h) (cwV 1 hts gX6_minutesToRest_X6_restIn rfl rfl rfl (by decide +kernel) ⟨Nat.le_of_ble_eq_true rfl, Nat.le_of_ble_eq_true rfl⟩) hK hN hP hD hS hA (em_MM cI q M) (fun u => rp_MM cI q M u) rfl rfl rfl rfl hl.1 rfl (Nat.le_of_ble_eq_true rfl) dX6_minutesToRest_7 ⟨Nat.zero_le _, Nat.zero_le _⟩ (fun r_1 u_2 H locs h hP hD hS => ?_)
  exact W.iret (v := r_1) hx hb hr (fun t ht hW => ⟨⟨r_1, u_2, rfl, h, by rw [ht]; exact hP, hD⟩, hS.F ht⟩) hS.2.2 dX6_minutesToRest_10
def q_X6_bestRule (x : Int32) (M : St) (Q : Int32 → St → Prop) : Prop :=
  q_X6_in x 0 1 (fun r_1 => (r_1 = 0 → Q (-1000001) M) ∧ (¬ (r_1 = 0) → ∃ (I_4 : Nat → Int32 → Int32 → Int32 → St → Prop) (n_10 : Nat), I_4 n_10 0 (-1000004) (-1000004) M ∧ ∀ (n_3 : Nat) (x4_5 : Int32) (x3_6 : Int32) (x2_7 : Int32) (D_8 : St), I_4 n_3 x4_5 x3_6 x2_7 D_8 → ((3 ≤ x4_5 → (x = 0 → Q x2_7 D_8) ∧ (¬ (x = 0) → Q x3_6 D_8)) ∧ (¬ (3 ≤ x4_5) → q_X6_restIn x4_5 D_8 (fun r_16 u_17 => (r_16 < 0 → ∃ n_19, n_19 < n_3 ∧ I_4 n_19 (x4_5 + 1) x3_6 x2_7 u_17) ∧ (¬ (r_16 < 0) → (x3_6 < 0 → ∃ n_23, n_23 < n_3 ∧ I_4 n_23 (x4_5 + 1) r_16 x4_5 u_17) ∧ (¬ (x3_6 < 0) → (x3_6 ≤ r_16 → ∃ n_27, n_27 < n_3 ∧ I_4 n_27 (x4_5 + 1) x3_6 x2_7 u_17) ∧ (¬ (x3_6 ≤ r_16) → ∃ n_30, n_30 < n_3 ∧ I_4 n_30 (x4_5 + 1) r_16 x4_5 u_17))))))))
set_option maxHeartbeats 4000000 in
set_option maxRecDepth 100000 in
theorem c_X6_bestRule (l : Launch) (G : va_G) (cI cC cD : ClassId) (q : Nat → Nat) (sz : Nat) (M : St) (x : Int32) (Q : Int32 → St → Prop) (h : q_X6_bestRule x M Q) : Met l yX6_bestRule wsX6_bestRule ({ frames := 6, cells := 0, slots := 0, locals := 133 }) (va_Pc [.ref (q 0), .int x] (PW G (ty3 cI cC cD) (wM cI q M) sz)) (va_Qi Q (BW G (fun u : St => (wM cI q u)) (va_A (wM cI q M) sz)) (va_A (wM cI q M) sz)) 0 0 (va_A (wM cI q M) sz) := by
  refine Met.ofW (cc := cX6_bestRule) (maxL := 7) (ret := (some .int)) (by decide) rfl ?_
  intro p e s m args below meth c s₁ B hml hv
  obtain ⟨rfl, hsz, hP, hK, hD0, hN⟩ := hv
  have hx := B.exec
  have hb := B.bytes
  have hr := B.returns
  have hts := atoms_spec (ws := wsX6_bestRule) B.pre
  have hown : s.vm.findClass RX6 = some m.cls := findClass_of_methodNamed B.named
  have hlocks := B.notSynchronized
  subst hsz
  have hD := hD0.self (sz := s.heap.size)
  generalize hAe : va_A (wM cI q M) s.heap.size = A at hD ⊢
  have hA : ∀ q : Nat, s.heap.size ≤ q → A q := fun q h => by rw [← hAe]; exact Or.inr h
  have hS : va_S A s.heap s.heap [] := va_S.rf
  have hl := lv_entry ([.ref (q 0), .int x]) (n := 7) (Nat.le_of_ble_eq_true rfl)
  rw [lg_entry_eq]
  generalize (lg_sl ([.ref (q 0), .int x]) ++ List.replicate (7 - (lg_sl ([.ref (q 0), .int x])).length) Slot.unset).toArray = ls at hl ⊢
  have hl : lv_has ls 7 [(0, .ref (q 0)), (1, .int x)] := hl
  unfold q_X6_bestRule at h
  refine lv_iload_n hx hb dX6_bestRule_0 rfl (lv_at hl 1 rfl) ?_
  refine lv_iconst (v := 0) hx hb dX6_bestRule_1 (by decide) ?_
  refine lv_iconst (v := 1) hx hb dX6_bestRule_2 (by decide) ?_
  refine ks_i (As := [.int x, .int 0, .int 1]) (rest := []) (wg := (fun _ => (wM cI q M))) ⟨hx, hb, hml, hown, hts⟩ (c_X6_in l G cI cC cD  _  x 0 1 _ h) (va_cwS 3 hts gX6_bestRule_X6_in rfl rfl rfl (by decide +kernel) ⟨Nat.le_of_ble_eq_true rfl, Nat.le_of_ble_eq_true rfl⟩) hK hN hP hD hS hA (em_0 _) (fun _ => rp_self (em_0 _)) rfl hl.1 rfl (Nat.le_of_ble_eq_true rfl) dX6_bestRule_3 ⟨Nat.zero_le _, Nat.zero_le _⟩ (fun r_1 _ H locs h hP hD hS => ?_)
  refine lv_if_ne (tgt := 12) hx hb dX6_bestRule_6 (by decide) (fun c_2 => ?_) (fun c_2 => ?_)
  · have h := h.2 c_2
    refine lv_ldc hx hb hown (hts (.constant RX6 40 (-1000004)) (by decide +kernel)) dX6_bestRule_12 ?_
    refine lv_istore_n (lv' := [(2, .int (-1000004)), (0, .ref (q 0)), (1, .int x)]) hx hb dX6_bestRule_14 rfl hl (by decide) rfl (fun ls hl => ?_)
    refine lv_ldc hx hb hown (hts (.constant RX6 40 (-1000004)) (by decide +kernel)) dX6_bestRule_15 ?_
    refine lv_istore_n (lv' := [(3, .int (-1000004)), (2, .int (-1000004)), (0, .ref (q 0)), (1, .int x)]) hx hb dX6_bestRule_17 rfl hl (by decide) rfl (fun ls hl => ?_)
    refine lv_iconst (v := 0) hx hb dX6_bestRule_18 (by decide) ?_
    refine lv_istore (lv' := [(4, .int 0), (3, .int (-1000004)), (2, .int (-1000004)), (0, .ref (q 0)), (1, .int x)]) hx hb dX6_bestRule_19 hl (by decide) rfl (fun ls hl => ?_)
    obtain ⟨I_4, n_10, h_11, hI_12⟩ := h
    have lp_13 : ∀ (n_3 : Nat) (x4_5 : Int32) (x3_6 : Int32) (x2_7 : Int32) (D_8 : St), I_4 n_3 x4_5 x3_6 x2_7 D_8 → ∀ (H : Heap) (locs : List Loc) (ls : Array Slot), va_P G vwCl (wM cI q D_8) H → va_D A (wM cI q D_8) → va_S A s.heap H locs → lv_has ls 7 [(4, .int x4_5), (3, .int x3_6), (2, .int x2_7), (0, .ref (q 0)), (1, .int x)] → W p l e (headSpec wsX6_bestRule ({ frames := 6, cells := 0, slots := 0, locals := 133 })).room s m ([.ref (q 0), .int x] : List Value).toArray below meth c H locs 0 0 (MQ below (va_Qi Q (BW G (fun u : St => (wM cI q u)) A) A) ([.ref (q 0), .int x] : List Value).toArray s 0 0 A) (F0 m 21 ls []) := by
      intro n_3
      induction n_3 using Nat.strongRecOn with
      | ind n_3 ih_9 =>
        intro x4_5 x3_6 x2_7 D_8 hIn H locs ls hP hD hS hl
        have h := hI_12 n_3 x4_5 x3_6 x2_7 D_8 hIn
        refine lv_iload hx hb dX6_bestRule_21 (lv_at hl 0 rfl) ?_
        refine lv_iconst (v := 3) hx hb dX6_bestRule_23 (by decide) ?_
        refine lv_icmp_ge (tgt := 87) hx hb dX6_bestRule_24 (by decide) (fun c_14 => ?_) (fun c_14 => ?_)
        · have h := h.1 c_14
          refine lv_iload_n hx hb dX6_bestRule_87 rfl (lv_at hl 4 rfl) ?_
          refine lv_if_ne (tgt := 95) hx hb dX6_bestRule_88 (by decide) (fun c_15 => ?_) (fun c_15 => ?_)
          · have h := h.2 c_15
            refine lv_iload_n hx hb dX6_bestRule_95 rfl (lv_at hl 1 rfl) ?_
            exact W.iret (v := x3_6) hx hb hr (fun t ht hW => ⟨⟨x3_6, D_8, rfl, h, by rw [ht]; exact hP, hD⟩, hS.F ht⟩) hS.2.2 dX6_bestRule_96
          · have h := h.1 c_15
            refine lv_iload_n hx hb dX6_bestRule_91 rfl (lv_at hl 2 rfl) ?_
            refine lv_goto (tgt := 96) hx hb dX6_bestRule_92 (by decide) ?_
            exact W.iret (v := x2_7) hx hb hr (fun t ht hW => ⟨⟨x2_7, D_8, rfl, h, by rw [ht]; exact hP, hD⟩, hS.F ht⟩) hS.2.2 dX6_bestRule_96
        · have h := h.2 c_14
          refine lv_aload_n hx hb dX6_bestRule_27 rfl (lv_at hl 3 rfl) ?_
          refine lv_iload hx hb dX6_bestRule_28 (lv_at hl 0 rfl) ?_
          refine kc_i (As := [.int x4_5]) (rest := []) (wg := (fun u => (wM cI q u))) ⟨hx, hb, hml, hown, hts⟩ (c_X6_restIn l G cI cC cD q _ D_8 x4_5 _ h) (cwV 1 hts gX6_bestRule_X6_restIn rfl rfl rfl (by decide +kernel) ⟨Nat.le_of_ble_eq_true rfl, Nat.le_of_ble_eq_true rfl⟩) hK hN hP hD hS hA (em_MM cI q D_8) (fun u => rp_MM cI q D_8 u) rfl rfl rfl rfl hl.1 rfl (Nat.le_of_ble_eq_true rfl) dX6_bestRule_30 ⟨Nat.zero_le _, Nat.zero_le _⟩ (fun r_16 u_17 H locs h hP hD hS => ?_)
          refine lv_istore (lv' := [(5, .int r_16), (4, .int x4_5), (3, .int x3_6), (2, .int x2_7), (0, .ref (q 0)), (1, .int x)]) hx hb dX6_bestRule_33 hl (by decide) rfl (fun ls hl => ?_)
          refine lv_iload hx hb dX6_bestRule_35 (lv_at hl 0 rfl) ?_
          refine lv_if_lt (tgt := 54) hx hb dX6_bestRule_37 (by decide) (fun c_18 => ?_) (fun c_18 => ?_)
          · have h := h.1 c_18
            refine lv_iconst (v := 0) hx hb dX6_bestRule_54 (by decide) ?_
            refine lv_istore (lv' := [(6, .int 0), (5, .int r_16), (4, .int x4_5), (3, .int x3_6), (2, .int x2_7), (0, .ref (q 0)), (1, .int x)]) hx hb dX6_bestRule_55 hl (by decide) rfl (fun ls hl => ?_)
            refine lv_iload hx hb dX6_bestRule_57 (lv_at hl 0 rfl) ?_
            refine lv_if_eq (tgt := 67) hx hb dX6_bestRule_59 (by decide) (fun _ => ?_) (fun c => absurd c (by decide))
            refine lv_iload_n hx hb dX6_bestRule_67 rfl (lv_at hl 4 rfl) ?_
            refine lv_istore_n (lv' := [(2, .int x2_7), (6, .int 0), (5, .int r_16), (4, .int x4_5), (3, .int x3_6), (0, .ref (q 0)), (1, .int x)]) hx hb dX6_bestRule_68 rfl hl (by decide) rfl (fun ls hl => ?_)
            refine lv_iload hx hb dX6_bestRule_69 (lv_at hl 1 rfl) ?_
            refine lv_if_eq (tgt := 79) hx hb dX6_bestRule_71 (by decide) (fun _ => ?_) (fun c => absurd c (by decide))
            refine lv_iload_n hx hb dX6_bestRule_79 rfl (lv_at hl 4 rfl) ?_
            refine lv_istore_n (lv' := [(3, .int x3_6), (2, .int x2_7), (6, .int 0), (5, .int r_16), (4, .int x4_5), (0, .ref (q 0)), (1, .int x)]) hx hb dX6_bestRule_80 rfl hl (by decide) rfl (fun ls hl => ?_)
            refine lv_iinc (v := x4_5 + 1) (lv' := [(4, .int (x4_5 + 1)), (3, .int x3_6), (2, .int x2_7), (6, .int 0), (5, .int r_16), (0, .ref (q 0)), (1, .int x)]) hx hb dX6_bestRule_81 hl (k := 4) rfl rfl (by decide) rfl (fun ls hl => ?_)
            refine lv_goto (tgt := 21) hx hb dX6_bestRule_84 (by decide) ?_
            obtain ⟨n_19, lt_20, h_21⟩ := h
            exact ih_9 n_19 lt_20 _ _ _ _ h_21 _ _ _ hP hD hS (lv_sub hl [0, 1, 2, 5, 6] rfl)
          · have h := h.2 c_18
            refine lv_iload_n hx hb dX6_bestRule_40 rfl (lv_at hl 2 rfl) ?_
            refine lv_if_lt (tgt := 50) hx hb dX6_bestRule_41 (by decide) (fun c_22 => ?_) (fun c_22 => ?_)
            · have h := h.1 c_22
              refine lv_iconst (v := 1) hx hb dX6_bestRule_50 (by decide) ?_
              refine lv_goto (tgt := 55) hx hb dX6_bestRule_51 (by decide) ?_
              refine lv_istore (lv' := [(6, .int 1), (5, .int r_16), (4, .int x4_5), (3, .int x3_6), (2, .int x2_7), (0, .ref (q 0)), (1, .int x)]) hx hb dX6_bestRule_55 hl (by decide) rfl (fun ls hl => ?_)
              refine lv_iload hx hb dX6_bestRule_57 (lv_at hl 0 rfl) ?_
              refine lv_if_eq (tgt := 67) hx hb dX6_bestRule_59 (by decide) (fun c => absurd c (by decide)) (fun _ => ?_)
              refine lv_iload hx hb dX6_bestRule_62 (lv_at hl 2 rfl) ?_
              refine lv_goto (tgt := 68) hx hb dX6_bestRule_64 (by decide) ?_
              refine lv_istore_n (lv' := [(2, .int x4_5), (6, .int 1), (5, .int r_16), (4, .int x4_5), (3, .int x3_6), (0, .ref (q 0)), (1, .int x)]) hx hb dX6_bestRule_68 rfl hl (by decide) rfl (fun ls hl => ?_)
              refine lv_iload hx hb dX6_bestRule_69 (lv_at hl 1 rfl) ?_
              refine lv_if_eq (tgt := 79) hx hb dX6_bestRule_71 (by decide) (fun c => absurd c (by decide)) (fun _ => ?_)
              refine lv_iload hx hb dX6_bestRule_74 (lv_at hl 2 rfl) ?_
              refine lv_goto (tgt := 80) hx hb dX6_bestRule_76 (by decide) ?_
              refine lv_istore_n (lv' := [(3, .int r_16), (2, .int x4_5), (6, .int 1), (5, .int r_16), (4, .int x4_5), (0, .ref (q 0)), (1, .int x)]) hx hb dX6_bestRule_80 rfl hl (by decide) rfl (fun ls hl => ?_)
              refine lv_iinc (v := x4_5 + 1) (lv' := [(4, .int (x4_5 + 1)), (3, .int r_16), (2, .int x4_5), (6, .int 1), (5, .int r_16), (0, .ref (q 0)), (1, .int x)]) hx hb dX6_bestRule_81 hl (k := 4) rfl rfl (by decide) rfl (fun ls hl => ?_)
              refine lv_goto (tgt := 21) hx hb dX6_bestRule_84 (by decide) ?_
              obtain ⟨n_23, lt_24, h_25⟩ := h
              exact ih_9 n_23 lt_24 _ _ _ _ h_25 _ _ _ hP hD hS (lv_sub hl [0, 1, 2, 5, 6] rfl)
            · have h := h.2 c_22
              refine lv_iload hx hb dX6_bestRule_44 (lv_at hl 0 rfl) ?_
              refine lv_iload_n hx hb dX6_bestRule_46 rfl (lv_at hl 2 rfl) ?_
              refine lv_icmp_ge (tgt := 54) hx hb dX6_bestRule_47 (by decide) (fun c_26 => ?_) (fun c_26 => ?_)
              · have h := h.1 c_26
                refine lv_iconst (v := 0) hx hb dX6_bestRule_54 (by decide) ?_
                refine lv_istore (lv' := [(6, .int 0), (5, .int r_16), (4, .int x4_5), (3, .int x3_6), (2, .int x2_7), (0, .ref (q 0)), (1, .int x)]) hx hb dX6_bestRule_55 hl (by decide) rfl (fun ls hl => ?_)
                refine lv_iload hx hb dX6_bestRule_57 (lv_at hl 0 rfl) ?_
                refine lv_if_eq (tgt := 67) hx hb dX6_bestRule_59 (by decide) (fun _ => ?_) (fun c => absurd c (by decide))
                refine lv_iload_n hx hb dX6_bestRule_67 rfl (lv_at hl 4 rfl) ?_
                refine lv_istore_n (lv' := [(2, .int x2_7), (6, .int 0), (5, .int r_16), (4, .int x4_5), (3, .int x3_6), (0, .ref (q 0)), (1, .int x)]) hx hb dX6_bestRule_68 rfl hl (by decide) rfl (fun ls hl => ?_)
                refine lv_iload hx hb dX6_bestRule_69 (lv_at hl 1 rfl) ?_
                refine lv_if_eq (tgt := 79) hx hb dX6_bestRule_71 (by decide) (fun _ => ?_) (fun c => absurd c (by decide))
                refine lv_iload_n hx hb dX6_bestRule_79 rfl (lv_at hl 4 rfl) ?_
                refine lv_istore_n (lv' := [(3, .int x3_6), (2, .int x2_7), (6, .int 0), (5, .int r_16), (4, .int x4_5), (0, .ref (q 0)), (1, .int x)]) hx hb dX6_bestRule_80 rfl hl (by decide) rfl (fun ls hl => ?_)
                refine lv_iinc (v := x4_5 + 1) (lv' := [(4, .int (x4_5 + 1)), (3, .int x3_6), (2, .int x2_7), (6, .int 0), (5, .int r_16), (0, .ref (q 0)), (1, .int x)]) hx hb dX6_bestRule_81 hl (k := 4) rfl rfl (by decide) rfl (fun ls hl => ?_)
                refine lv_goto (tgt := 21) hx hb dX6_bestRule_84 (by decide) ?_
                obtain ⟨n_27, lt_28, h_29⟩ := h
                exact ih_9 n_27 lt_28 _ _ _ _ h_29 _ _ _ hP hD hS (lv_sub hl [0, 1, 2, 5, 6] rfl)
              · have h := h.2 c_26
                refine lv_iconst (v := 1) hx hb dX6_bestRule_50 (by decide) ?_
                refine lv_goto (tgt := 55) hx hb dX6_bestRule_51 (by decide) ?_
                refine lv_istore (lv' := [(6, .int 1), (5, .int r_16), (4, .int x4_5), (3, .int x3_6), (2, .int x2_7), (0, .ref (q 0)), (1, .int x)]) hx hb dX6_bestRule_55 hl (by decide) rfl (fun ls hl => ?_)
                refine lv_iload hx hb dX6_bestRule_57 (lv_at hl 0 rfl) ?_
                refine lv_if_eq (tgt := 67) hx hb dX6_bestRule_59 (by decide) (fun c => absurd c (by decide)) (fun _ => ?_)
                refine lv_iload hx hb dX6_bestRule_62 (lv_at hl 2 rfl) ?_
                refine lv_goto (tgt := 68) hx hb dX6_bestRule_64 (by decide) ?_
                refine lv_istore_n (lv' := [(2, .int x4_5), (6, .int 1), (5, .int r_16), (4, .int x4_5), (3, .int x3_6), (0, .ref (q 0)), (1, .int x)]) hx hb dX6_bestRule_68 rfl hl (by decide) rfl (fun ls hl => ?_)
                refine lv_iload hx hb dX6_bestRule_69 (lv_at hl 1 rfl) ?_
                refine lv_if_eq (tgt := 79) hx hb dX6_bestRule_71 (by decide) (fun c => absurd c (by decide)) (fun _ => ?_)
                refine lv_iload hx hb dX6_bestRule_74 (lv_at hl 2 rfl) ?_
                refine lv_goto (tgt := 80) hx hb dX6_bestRule_76 (by decide) ?_
                refine lv_istore_n (lv' := [(3, .int r_16), (2, .int x4_5), (6, .int 1), (5, .int r_16), (4, .int x4_5), (0, .ref (q 0)), (1, .int x)]) hx hb dX6_bestRule_80 rfl hl (by decide) rfl (fun ls hl => ?_)
                refine lv_iinc (v := x4_5 + 1) (lv' := [(4, .int (x4_5 + 1)), (3, .int r_16), (2, .int x4_5), (6, .int 1), (5, .int r_16), (0, .ref (q 0)), (1, .int x)]) hx hb dX6_bestRule_81 hl (k := 4) rfl rfl (by decide) rfl (fun ls hl => ?_)
                refine lv_goto (tgt := 21) hx hb dX6_bestRule_84 (by decide) ?_
                obtain ⟨n_30, lt_31, h_32⟩ := h
                exact ih_9 n_30 lt_31 _ _ _ _ h_32 _ _ _ hP hD hS (lv_sub hl [0, 1, 2, 5, 6] rfl)
    exact lp_13 _ _ _ _ _ h_11 _ _ _ hP hD hS hl
  · have h := h.1 c_2
    refine lv_ldc hx hb hown (hts (.constant RX6 103 (-1000001)) (by decide +kernel)) dX6_bestRule_9 ?_
    exact W.iret (v := (-1000001)) hx hb hr (fun t ht hW => ⟨⟨(-1000001), M, rfl, h, by rw [ht]; exact hP, hD⟩, hS.F ht⟩) hS.2.2 dX6_bestRule_11
def q_X6_wouldFlood (x : Int32) (y : Int32) (M : St) (Q : Int32 → St → Prop) : Prop :=
  q_X6_copies (fun i => cond (Nat.beq i 0) (M 0) (M 3)) (fun u_1 => ∃ (I_3 : Nat → Int32 → St → Prop) (n_7 : Nat), I_3 n_7 0 (uA (uA (uA M 0 (u_1 0)) 3 (u_1 1)) 0 (upd (u_1 0) 5 x)) ∧ ∀ (n_2 : Nat) (x4_4 : Int32) (D_5 : St), I_3 n_2 x4_4 D_5 → ((y ≤ x4_4 → (((D_5 0) 16) ≤ ((u_1 0) 16) → q_X6_copies (fun i => cond (Nat.beq i 0) (D_5 3) (D_5 0)) (fun u_13 => Q 0 (uA (uA D_5 3 (u_13 0)) 0 (u_13 1)))) ∧ (¬ (((D_5 0) 16) ≤ ((u_1 0) 16)) → q_X6_copies (fun i => cond (Nat.beq i 0) (D_5 3) (D_5 0)) (fun u_14 => Q 1 (uA (uA D_5 3 (u_14 0)) 0 (u_14 1))))) ∧ (¬ (y ≤ x4_4) → (((D_5 0) 16) = ((u_1 0) 16) → q_X6_passes D_5 (fun u_19 => ∃ n_20, n_20 < n_2 ∧ I_3 n_20 (x4_4 + 1) u_19)) ∧ (¬ (((D_5 0) 16) = ((u_1 0) 16)) → (((D_5 0) 16) ≤ ((u_1 0) 16) → q_X6_copies (fun i => cond (Nat.beq i 0) (D_5 3) (D_5 0)) (fun u_17 => Q 0 (uA (uA D_5 3 (u_17 0)) 0 (u_17 1)))) ∧ (¬ (((D_5 0) 16) ≤ ((u_1 0) 16)) → q_X6_copies (fun i => cond (Nat.beq i 0) (D_5 3) (D_5 0)) (fun u_18 => Q 1 (uA (uA D_5 3 (u_18 0)) 0 (u_18 1))))))))
set_option maxHeartbeats 4000000 in
set_option maxRecDepth 100000 in
theorem c_X6_wouldFlood (l : Launch) (G : va_G) (cI cC cD : ClassId) (q : Nat → Nat) (sz : Nat) (M : St) (x : Int32) (y : Int32) (Q : Int32 → St → Prop) (h : q_X6_wouldFlood x y M Q) : Met l yX6_wouldFlood wsX6_wouldFlood ({ frames := 5, cells := 0, slots := 0, locals := 111 }) (va_Pc [.ref (q 0), .int x, .int y] (PW G (ty3 cI cC cD) (wM cI q M) sz)) (va_Qi Q (BW G (fun u : St => (wM cI q u)) (va_A (wM cI q M) sz)) (va_A (wM cI q M) sz)) 0 0 (va_A (wM cI q M) sz) := by
  refine Met.ofW (cc := cX6_wouldFlood) (maxL := 5) (ret := (some .boolean)) (by decide) rfl ?_
  intro p e s m args below meth c s₁ B hml hv
  obtain ⟨rfl, hsz, hP, hK, hD0, hN⟩ := hv
  have hx := B.exec
  have hb := B.bytes
  have hr := B.returns
  have hts := atoms_spec (ws := wsX6_wouldFlood) B.pre
  have hown : s.vm.findClass RX6 = some m.cls := findClass_of_methodNamed B.named
  have hlocks := B.notSynchronized
  subst hsz
  have hD := hD0.self (sz := s.heap.size)
  generalize hAe : va_A (wM cI q M) s.heap.size = A at hD ⊢
  have hA : ∀ q : Nat, s.heap.size ≤ q → A q := fun q h => by rw [← hAe]; exact Or.inr h
  have hS : va_S A s.heap s.heap [] := va_S.rf
  have hl := lv_entry ([.ref (q 0), .int x, .int y]) (n := 5) (Nat.le_of_ble_eq_true rfl)
  rw [lg_entry_eq]
  generalize (lg_sl ([.ref (q 0), .int x, .int y]) ++ List.replicate (5 - (lg_sl ([.ref (q 0), .int x, .int y])).length) Slot.unset).toArray = ls at hl ⊢
  have hl : lv_has ls 5 [(0, .ref (q 0)), (1, .int x), (2, .int y)] := hl
  have hinX6 : ∀ w ∈ wsX60, w ∈ wsX6_wouldFlood := by decide +kernel
  have hL7 := hts (.fieldLink RX6 7 "CraneGatesModel" "s" "[I") (by decide +kernel)
  have hL19 := hts (.fieldLink RX6 19 "CraneGatesModel" "tried" "[I") (by decide +kernel)
  unfold q_X6_wouldFlood at h
  refine lv_aload_n hx hb dX6_wouldFlood_0 rfl (lv_at hl 0 rfl) ?_
  refine va_get (D := G) (ci := 6) (v := .ref (q 1)) (C := RX6) (T := TX6) (N := 11) hx hb hts hinX6 hown hK hP 0 rfl rfl 0 (by decide) hL7 (fun _ h9 => h9) rfl dX6_wouldFlood_1 ?_
  refine lv_aload_n hx hb dX6_wouldFlood_4 rfl (lv_at hl 0 rfl) ?_
  refine va_get (D := G) (ci := 6) (v := .ref (q 4)) (C := RX6) (T := TX6) (N := 11) hx hb hts hinX6 hown hK hP 0 rfl rfl 3 (by decide) hL19 (fun _ h9 => h9) rfl dX6_wouldFlood_5 ?_
  refine ks_v (As := [.ref (q 1), .ref (q 4)]) (rest := []) (wg := (fun u => (wM cI q (uA (uA M 0 (u 0)) 3 (u 1))))) ⟨hx, hb, hml, hown, hts⟩ (c_X6_copies l G cI cC cD (q 1) (q 4) _ (fun i => cond (Nat.beq i 0) (M 0) (M 3))  _ h) (va_cwS 2 hts gX6_wouldFlood_X6_copies rfl rfl rfl (by decide +kernel) ⟨Nat.le_of_ble_eq_true rfl, Nat.le_of_ble_eq_true rfl⟩) hK hN hP hD hS hA (em_M2_03 cI q M) (fun u => rp_M2_03 cI q M u) rfl hl.1 rfl (Nat.le_of_ble_eq_true rfl) dX6_wouldFlood_8 ⟨Nat.zero_le _, Nat.zero_le _⟩ (fun u_1 H locs h hP hD hS => ?_)
  refine lv_aload_n hx hb dX6_wouldFlood_11 rfl (lv_at hl 0 rfl) ?_
  refine va_get (D := G) (ci := 6) (v := .ref (q 1)) (C := RX6) (T := TX6) (N := 11) hx hb hts hinX6 hown hK hP 0 rfl rfl 0 (by decide) hL7 (fun _ h9 => h9) rfl dX6_wouldFlood_12 ?_
  refine lv_bipush (v := 16) hx hb dX6_wouldFlood_15 (by decide) ?_
  refine k_ald (f := (u_1 0)) (j := 16) (v := ((u_1 0) 16)) hx hb hK hP 1 0 rfl rfl (show ¬ ((16 : Int32) < 0 ∨ 86 ≤ (16 : Int32).toNatClampNeg) by decide) rfl rfl dX6_wouldFlood_17 ?_
  refine lv_istore_n (lv' := [(3, .int ((u_1 0) 16)), (0, .ref (q 0)), (1, .int x), (2, .int y)]) hx hb dX6_wouldFlood_18 rfl hl (by decide) rfl (fun ls hl => ?_)
  refine lv_aload_n hx hb dX6_wouldFlood_19 rfl (lv_at hl 1 rfl) ?_
  refine va_get (D := G) (ci := 6) (v := .ref (q 1)) (C := RX6) (T := TX6) (N := 11) hx hb hts hinX6 hown hK hP 0 rfl rfl 0 (by decide) hL7 (fun _ h9 => h9) rfl dX6_wouldFlood_20 ?_
  refine lv_iconst (v := 5) hx hb dX6_wouldFlood_23 (by decide) ?_
  refine lv_iload_n hx hb dX6_wouldFlood_24 rfl (lv_at hl 2 rfl) ?_
  refine k_ast (f := (u_1 0)) (j := 5) (ws' := (wM cI q (uA (uA (uA M 0 (u_1 0)) 3 (u_1 1)) 0 (upd (u_1 0) 5 x)))) hx hb hK hP hD hS 1 0 rfl rfl (show ¬ ((5 : Int32) < 0 ∨ 86 ≤ (5 : Int32).toNatClampNeg) by decide) rfl dX6_wouldFlood_25 rfl (fun H locs hP hD hS => ?_)
  refine lv_iconst (v := 0) hx hb dX6_wouldFlood_26 (by decide) ?_
  refine lv_istore (lv' := [(4, .int 0), (3, .int ((u_1 0) 16)), (0, .ref (q 0)), (1, .int x), (2, .int y)]) hx hb dX6_wouldFlood_27 hl (by decide) rfl (fun ls hl => ?_)
  obtain ⟨I_3, n_7, h_8, hI_9⟩ := h
  have lp_10 : ∀ (n_2 : Nat) (x4_4 : Int32) (D_5 : St), I_3 n_2 x4_4 D_5 → ∀ (H : Heap) (locs : List Loc) (ls : Array Slot), va_P G vwCl (wM cI q D_5) H → va_D A (wM cI q D_5) → va_S A s.heap H locs → lv_has ls 5 [(4, .int x4_4), (3, .int ((u_1 0) 16)), (0, .ref (q 0)), (1, .int x), (2, .int y)] → W p l e (headSpec wsX6_wouldFlood ({ frames := 5, cells := 0, slots := 0, locals := 111 })).room s m ([.ref (q 0), .int x, .int y] : List Value).toArray below meth c H locs 0 0 (MQ below (va_Qi Q (BW G (fun u : St => (wM cI q u)) A) A) ([.ref (q 0), .int x, .int y] : List Value).toArray s 0 0 A) (F0 m 29 ls []) := by
    intro n_2
    induction n_2 using Nat.strongRecOn with
    | ind n_2 ih_6 =>
      intro x4_4 D_5 hIn H locs ls hP hD hS hl
      have h := hI_9 n_2 x4_4 D_5 hIn
      refine lv_iload hx hb dX6_wouldFlood_29 (lv_at hl 0 rfl) ?_
      refine lv_iload_n hx hb dX6_wouldFlood_31 rfl (lv_at hl 4 rfl) ?_
      refine lv_icmp_ge (tgt := 56) hx hb dX6_wouldFlood_32 (by decide) (fun c_11 => ?_) (fun c_11 => ?_)
      · have h := h.1 c_11
        refine lv_aload_n hx hb dX6_wouldFlood_56 rfl (lv_at hl 2 rfl) ?_
        refine va_get (D := G) (ci := 6) (v := .ref (q 1)) (C := RX6) (T := TX6) (N := 11) hx hb hts hinX6 hown hK hP 0 rfl rfl 0 (by decide) hL7 (fun _ h9 => h9) rfl dX6_wouldFlood_57 ?_
        refine lv_bipush (v := 16) hx hb dX6_wouldFlood_60 (by decide) ?_
        refine k_ald (f := (D_5 0)) (j := 16) (v := ((D_5 0) 16)) hx hb hK hP 1 0 rfl rfl (show ¬ ((16 : Int32) < 0 ∨ 86 ≤ (16 : Int32).toNatClampNeg) by decide) rfl rfl dX6_wouldFlood_62 ?_
        refine lv_iload_n hx hb dX6_wouldFlood_63 rfl (lv_at hl 1 rfl) ?_
        refine lv_icmp_le (tgt := 71) hx hb dX6_wouldFlood_64 (by decide) (fun c_12 => ?_) (fun c_12 => ?_)
        · have h := h.1 c_12
          refine lv_iconst (v := 0) hx hb dX6_wouldFlood_71 (by decide) ?_
          refine lv_istore (lv' := [(4, .int 0), (3, .int ((u_1 0) 16)), (0, .ref (q 0)), (1, .int x), (2, .int y)]) hx hb dX6_wouldFlood_72 hl (by decide) rfl (fun ls hl => ?_)
          refine lv_aload_n hx hb dX6_wouldFlood_74 rfl (lv_at hl 2 rfl) ?_
          refine va_get (D := G) (ci := 6) (v := .ref (q 4)) (C := RX6) (T := TX6) (N := 11) hx hb hts hinX6 hown hK hP 0 rfl rfl 3 (by decide) hL19 (fun _ h9 => h9) rfl dX6_wouldFlood_75 ?_
          refine lv_aload_n hx hb dX6_wouldFlood_78 rfl (lv_at hl 2 rfl) ?_
          refine va_get (D := G) (ci := 6) (v := .ref (q 1)) (C := RX6) (T := TX6) (N := 11) hx hb hts hinX6 hown hK hP 0 rfl rfl 0 (by decide) hL7 (fun _ h9 => h9) rfl dX6_wouldFlood_79 ?_
          refine ks_v (As := [.ref (q 4), .ref (q 1)]) (rest := []) (wg := (fun u => (wM cI q (uA (uA D_5 3 (u 0)) 0 (u 1))))) ⟨hx, hb, hml, hown, hts⟩ (c_X6_copies l G cI cC cD (q 4) (q 1) _ (fun i => cond (Nat.beq i 0) (D_5 3) (D_5 0))  _ h) (va_cwS 2 hts gX6_wouldFlood_X6_copies rfl rfl rfl (by decide +kernel) ⟨Nat.le_of_ble_eq_true rfl, Nat.le_of_ble_eq_true rfl⟩) hK hN hP hD hS hA (em_M2_30 cI q D_5) (fun u => rp_M2_30 cI q D_5 u) rfl hl.1 rfl (Nat.le_of_ble_eq_true rfl) dX6_wouldFlood_82 ⟨Nat.zero_le _, Nat.zero_le _⟩ (fun u_13 H locs h hP hD hS => ?_)
          refine lv_iload hx hb dX6_wouldFlood_85 (lv_at hl 0 rfl) ?_
          exact W.zret (v := 0) hx hb hr rfl (fun t ht hW => ⟨⟨0, (uA (uA D_5 3 (u_13 0)) 0 (u_13 1)), rfl, h, by rw [ht]; exact hP, hD⟩, hS.F ht⟩) hS.2.2 dX6_wouldFlood_87
        · have h := h.2 c_12
          refine lv_iconst (v := 1) hx hb dX6_wouldFlood_67 (by decide) ?_
          refine lv_goto (tgt := 72) hx hb dX6_wouldFlood_68 (by decide) ?_
          refine lv_istore (lv' := [(4, .int 1), (3, .int ((u_1 0) 16)), (0, .ref (q 0)), (1, .int x), (2, .int y)]) hx hb dX6_wouldFlood_72 hl (by decide) rfl (fun ls hl => ?_)
          refine lv_aload_n hx hb dX6_wouldFlood_74 rfl (lv_at hl 2 rfl) ?_
          refine va_get (D := G) (ci := 6) (v := .ref (q 4)) (C := RX6) (T := TX6) (N := 11) hx hb hts hinX6 hown hK hP 0 rfl rfl 3 (by decide) hL19 (fun _ h9 => h9) rfl dX6_wouldFlood_75 ?_
          refine lv_aload_n hx hb dX6_wouldFlood_78 rfl (lv_at hl 2 rfl) ?_
          refine va_get (D := G) (ci := 6) (v := .ref (q 1)) (C := RX6) (T := TX6) (N := 11) hx hb hts hinX6 hown hK hP 0 rfl rfl 0 (by decide) hL7 (fun _ h9 => h9) rfl dX6_wouldFlood_79 ?_
          refine ks_v (As := [.ref (q 4), .ref (q 1)]) (rest := []) (wg := (fun u => (wM cI q (uA (uA D_5 3 (u 0)) 0 (u 1))))) ⟨hx, hb, hml, hown, hts⟩ (c_X6_copies l G cI cC cD (q 4) (q 1) _ (fun i => cond (Nat.beq i 0) (D_5 3) (D_5 0))  _ h) (va_cwS 2 hts gX6_wouldFlood_X6_copies rfl rfl rfl (by decide +kernel) ⟨Nat.le_of_ble_eq_true rfl, Nat.le_of_ble_eq_true rfl⟩) hK hN hP hD hS hA (em_M2_30 cI q D_5) (fun u => rp_M2_30 cI q D_5 u) rfl hl.1 rfl (Nat.le_of_ble_eq_true rfl) dX6_wouldFlood_82 ⟨Nat.zero_le _, Nat.zero_le _⟩ (fun u_14 H locs h hP hD hS => ?_)
          refine lv_iload hx hb dX6_wouldFlood_85 (lv_at hl 0 rfl) ?_
          exact W.zret (v := 1) hx hb hr rfl (fun t ht hW => ⟨⟨1, (uA (uA D_5 3 (u_14 0)) 0 (u_14 1)), rfl, h, by rw [ht]; exact hP, hD⟩, hS.F ht⟩) hS.2.2 dX6_wouldFlood_87
      · have h := h.2 c_11
        refine lv_aload_n hx hb dX6_wouldFlood_35 rfl (lv_at hl 2 rfl) ?_
        refine va_get (D := G) (ci := 6) (v := .ref (q 1)) (C := RX6) (T := TX6) (N := 11) hx hb hts hinX6 hown hK hP 0 rfl rfl 0 (by decide) hL7 (fun _ h9 => h9) rfl dX6_wouldFlood_36 ?_
        refine lv_bipush (v := 16) hx hb dX6_wouldFlood_39 (by decide) ?_
        refine k_ald (f := (D_5 0)) (j := 16) (v := ((D_5 0) 16)) hx hb hK hP 1 0 rfl rfl (show ¬ ((16 : Int32) < 0 ∨ 86 ≤ (16 : Int32).toNatClampNeg) by decide) rfl rfl dX6_wouldFlood_41 ?_
        refine lv_iload_n hx hb dX6_wouldFlood_42 rfl (lv_at hl 1 rfl) ?_
        refine lv_icmp_ne (tgt := 56) hx hb dX6_wouldFlood_43 (by decide) (fun c_15 => ?_) (fun c_15 => ?_)
        · have h := h.2 c_15
          refine lv_aload_n hx hb dX6_wouldFlood_56 rfl (lv_at hl 2 rfl) ?_
          refine va_get (D := G) (ci := 6) (v := .ref (q 1)) (C := RX6) (T := TX6) (N := 11) hx hb hts hinX6 hown hK hP 0 rfl rfl 0 (by decide) hL7 (fun _ h9 => h9) rfl dX6_wouldFlood_57 ?_
          refine lv_bipush (v := 16) hx hb dX6_wouldFlood_60 (by decide) ?_
          refine k_ald (f := (D_5 0)) (j := 16) (v := ((D_5 0) 16)) hx hb hK hP 1 0 rfl rfl (show ¬ ((16 : Int32) < 0 ∨ 86 ≤ (16 : Int32).toNatClampNeg) by decide) rfl rfl dX6_wouldFlood_62 ?_
          refine lv_iload_n hx hb dX6_wouldFlood_63 rfl (lv_at hl 1 rfl) ?_
          refine lv_icmp_le (tgt := 71) hx hb dX6_wouldFlood_64 (by decide) (fun c_16 => ?_) (fun c_16 => ?_)
          · have h := h.1 c_16
            refine lv_iconst (v := 0) hx hb dX6_wouldFlood_71 (by decide) ?_
            refine lv_istore (lv' := [(4, .int 0), (3, .int ((u_1 0) 16)), (0, .ref (q 0)), (1, .int x), (2, .int y)]) hx hb dX6_wouldFlood_72 hl (by decide) rfl (fun ls hl => ?_)
            refine lv_aload_n hx hb dX6_wouldFlood_74 rfl (lv_at hl 2 rfl) ?_
            refine va_get (D := G) (ci := 6) (v := .ref (q 4)) (C := RX6) (T := TX6) (N := 11) hx hb hts hinX6 hown hK hP 0 rfl rfl 3 (by decide) hL19 (fun _ h9 => h9) rfl dX6_wouldFlood_75 ?_
            refine lv_aload_n hx hb dX6_wouldFlood_78 rfl (lv_at hl 2 rfl) ?_
            refine va_get (D := G) (ci := 6) (v := .ref (q 1)) (C := RX6) (T := TX6) (N := 11) hx hb hts hinX6 hown hK hP 0 rfl rfl 0 (by decide) hL7 (fun _ h9 => h9) rfl dX6_wouldFlood_79 ?_
            refine ks_v (As := [.ref (q 4), .ref (q 1)]) (rest := []) (wg := (fun u => (wM cI q (uA (uA D_5 3 (u 0)) 0 (u 1))))) ⟨hx, hb, hml, hown, hts⟩ (c_X6_copies l G cI cC cD (q 4) (q 1) _ (fun i => cond (Nat.beq i 0) (D_5 3) (D_5 0))  _ h) (va_cwS 2 hts gX6_wouldFlood_X6_copies rfl rfl rfl (by decide +kernel) ⟨Nat.le_of_ble_eq_true rfl, Nat.le_of_ble_eq_true rfl⟩) hK hN hP hD hS hA (em_M2_30 cI q D_5) (fun u => rp_M2_30 cI q D_5 u) rfl hl.1 rfl (Nat.le_of_ble_eq_true rfl) dX6_wouldFlood_82 ⟨Nat.zero_le _, Nat.zero_le _⟩ (fun u_17 H locs h hP hD hS => ?_)
            refine lv_iload hx hb dX6_wouldFlood_85 (lv_at hl 0 rfl) ?_
            exact W.zret (v := 0) hx hb hr rfl (fun t ht hW => ⟨⟨0, (uA (uA D_5 3 (u_17 0)) 0 (u_17 1)), rfl, h, by rw [ht]; exact hP, hD⟩, hS.F ht⟩) hS.2.2 dX6_wouldFlood_87
          · have h := h.2 c_16
            refine lv_iconst (v := 1) hx hb dX6_wouldFlood_67 (by decide) ?_
            refine lv_goto (tgt := 72) hx hb dX6_wouldFlood_68 (by decide) ?_
            refine lv_istore (lv' := [(4, .int 1), (3, .int ((u_1 0) 16)), (0, .ref (q 0)), (1, .int x), (2, .int y)]) hx hb dX6_wouldFlood_72 hl (by decide) rfl (fun ls hl => ?_)
            refine lv_aload_n hx hb dX6_wouldFlood_74 rfl (lv_at hl 2 rfl) ?_
            refine va_get (D := G) (ci := 6) (v := .ref (q 4)) (C := RX6) (T := TX6) (N := 11) hx hb hts hinX6 hown hK hP 0 rfl rfl 3 (by decide) hL19 (fun _ h9 => h9) rfl dX6_wouldFlood_75 ?_
            refine lv_aload_n hx hb dX6_wouldFlood_78 rfl (lv_at hl 2 rfl) ?_
            refine va_get (D := G) (ci := 6) (v := .ref (q 1)) (C := RX6) (T := TX6) (N := 11) hx hb hts hinX6 hown hK hP 0 rfl rfl 0 (by decide) hL7 (fun _ h9 => h9) rfl dX6_wouldFlood_79 ?_
            refine ks_v (As := [.ref (q 4), .ref (q 1)]) (rest := []) (wg := (fun u => (wM cI q (uA (uA D_5 3 (u 0)) 0 (u 1))))) ⟨hx, hb, hml, hown, hts⟩ (c_X6_copies l G cI cC cD (q 4) (q 1) _ (fun i => cond (Nat.beq i 0) (D_5 3) (D_5 0))  _ h) (va_cwS 2 hts gX6_wouldFlood_X6_copies rfl rfl rfl (by decide +kernel) ⟨Nat.le_of_ble_eq_true rfl, Nat.le_of_ble_eq_true rfl⟩) hK hN hP hD hS hA (em_M2_30 cI q D_5) (fun u => rp_M2_30 cI q D_5 u) rfl hl.1 rfl (Nat.le_of_ble_eq_true rfl) dX6_wouldFlood_82 ⟨Nat.zero_le _, Nat.zero_le _⟩ (fun u_18 H locs h hP hD hS => ?_)
            refine lv_iload hx hb dX6_wouldFlood_85 (lv_at hl 0 rfl) ?_
            exact W.zret (v := 1) hx hb hr rfl (fun t ht hW => ⟨⟨1, (uA (uA D_5 3 (u_18 0)) 0 (u_18 1)), rfl, h, by rw [ht]; exact hP, hD⟩, hS.F ht⟩) hS.2.2 dX6_wouldFlood_87
        · have h := h.1 c_15
          refine lv_aload_n hx hb dX6_wouldFlood_46 rfl (lv_at hl 2 rfl) ?_
          refine kc_v (As := []) (rest := []) (wg := (fun u => (wM cI q u))) ⟨hx, hb, hml, hown, hts⟩ (c_X6_passes l G cI cC cD q _ D_5  _ h) (cwV 0 hts gX6_wouldFlood_X6_passes rfl rfl rfl (by decide +kernel) ⟨Nat.le_of_ble_eq_true rfl, Nat.le_of_ble_eq_true rfl⟩) hK hN hP hD hS hA (em_MM cI q D_5) (fun u => rp_MM cI q D_5 u) rfl rfl rfl rfl hl.1 rfl (Nat.le_of_ble_eq_true rfl) dX6_wouldFlood_47 ⟨Nat.zero_le _, Nat.zero_le _⟩ (fun u_19 H locs h hP hD hS => ?_)
          refine lv_iinc (v := x4_4 + 1) (lv' := [(4, .int (x4_4 + 1)), (3, .int ((u_1 0) 16)), (0, .ref (q 0)), (1, .int x), (2, .int y)]) hx hb dX6_wouldFlood_50 hl (k := 0) rfl rfl (by decide) rfl (fun ls hl => ?_)
          refine lv_goto (tgt := 29) hx hb dX6_wouldFlood_53 (by decide) ?_
          obtain ⟨n_20, lt_21, h_22⟩ := h
          exact ih_6 n_20 lt_21 _ _ h_22 _ _ _ hP hD hS (lv_sub hl [0, 1, 2, 3, 4] rfl)
  exact lp_10 _ _ _ h_8 _ _ _ hP hD hS hl
def q_X6_leastFlood (x : Int32) (M : St) (Q : Int32 → St → Prop) : Prop :=
  q_X6_in x 1 60 (fun r_1 => (r_1 = 0 → Q (-1000001) M) ∧ (¬ (r_1 = 0) → (((M 0) 9) = 1 → Q 0 M) ∧ (¬ (((M 0) 9) = 1) → ∃ (I_5 : Nat → Int32 → Int32 → St → Prop) (n_10 : Nat), I_5 n_10 0 (-1000004) M ∧ ∀ (n_4 : Nat) (x3_6 : Int32) (x2_7 : Int32) (D_8 : St), I_5 n_4 x3_6 x2_7 D_8 → ((300 < x3_6 → Q x2_7 D_8) ∧ (¬ (300 < x3_6) → (0 ≤ x2_7 → Q x2_7 D_8) ∧ (¬ (0 ≤ x2_7) → q_X6_wouldFlood x3_6 x D_8 (fun r_16 u_17 => (r_16 = 0 → ∃ n_19, n_19 < n_4 ∧ I_5 n_19 (x3_6 + 1) x2_7 u_17) ∧ (¬ (r_16 = 0) → ∃ n_22, n_22 < n_4 ∧ I_5 n_22 (x3_6 + 1) x3_6 u_17))))))))
set_option maxHeartbeats 4000000 in
set_option maxRecDepth 100000 in
theorem c_X6_leastFlood (l : Launch) (G : va_G) (cI cC cD : ClassId) (q : Nat → Nat) (sz : Nat) (M : St) (x : Int32) (Q : Int32 → St → Prop) (h : q_X6_leastFlood x M Q) : Met l yX6_leastFlood wsX6_leastFlood ({ frames := 6, cells := 0, slots := 0, locals := 135 }) (va_Pc [.ref (q 0), .int x] (PW G (ty3 cI cC cD) (wM cI q M) sz)) (va_Qi Q (BW G (fun u : St => (wM cI q u)) (va_A (wM cI q M) sz)) (va_A (wM cI q M) sz)) 0 0 (va_A (wM cI q M) sz) := by
  refine Met.ofW (cc := cX6_leastFlood) (maxL := 4) (ret := (some .int)) (by decide) rfl ?_
  intro p e s m args below meth c s₁ B hml hv
  obtain ⟨rfl, hsz, hP, hK, hD0, hN⟩ := hv
  have hx := B.exec
  have hb := B.bytes
  have hr := B.returns
  have hts := atoms_spec (ws := wsX6_leastFlood) B.pre
  have hown : s.vm.findClass RX6 = some m.cls := findClass_of_methodNamed B.named
  have hlocks := B.notSynchronized
  subst hsz
  have hD := hD0.self (sz := s.heap.size)
  generalize hAe : va_A (wM cI q M) s.heap.size = A at hD ⊢
  have hA : ∀ q : Nat, s.heap.size ≤ q → A q := fun q h => by rw [← hAe]; exact Or.inr h
  have hS : va_S A s.heap s.heap [] := va_S.rf
  have hl := lv_entry ([.ref (q 0), .int x]) (n := 4) (Nat.le_of_ble_eq_true rfl)
  rw [lg_entry_eq]
  generalize (lg_sl ([.ref (q 0), .int x]) ++ List.replicate (4 - (lg_sl ([.ref (q 0), .int x])).length) Slot.unset).toArray = ls at hl ⊢
  have hl : lv_has ls 4 [(0, .ref (q 0)), (1, .int x)] := hl
  have hinX6 : ∀ w ∈ wsX60, w ∈ wsX6_leastFlood := by decide +kernel
  have hL7 := hts (.fieldLink RX6 7 "CraneGatesModel" "s" "[I") (by decide +kernel)
  unfold q_X6_leastFlood at h
  refine lv_iload_n hx hb dX6_leastFlood_0 rfl (lv_at hl 1 rfl) ?_
  refine lv_iconst (v := 1) hx hb dX6_leastFlood_1 (by decide) ?_
  refine lv_bipush (v := 60) hx hb dX6_leastFlood_2 (by decide) ?_
  refine ks_i (As := [.int x, .int 1, .int 60]) (rest := []) (wg := (fun _ => (wM cI q M))) ⟨hx, hb, hml, hown, hts⟩ (c_X6_in l G cI cC cD  _  x 1 60 _ h) (va_cwS 3 hts gX6_leastFlood_X6_in rfl rfl rfl (by decide +kernel) ⟨Nat.le_of_ble_eq_true rfl, Nat.le_of_ble_eq_true rfl⟩) hK hN hP hD hS hA (em_0 _) (fun _ => rp_self (em_0 _)) rfl hl.1 rfl (Nat.le_of_ble_eq_true rfl) dX6_leastFlood_4 ⟨Nat.zero_le _, Nat.zero_le _⟩ (fun r_1 _ H locs h hP hD hS => ?_)
  refine lv_if_ne (tgt := 13) hx hb dX6_leastFlood_7 (by decide) (fun c_2 => ?_) (fun c_2 => ?_)
  · have h := h.2 c_2
    refine lv_aload_n hx hb dX6_leastFlood_13 rfl (lv_at hl 0 rfl) ?_
    refine va_get (D := G) (ci := 6) (v := .ref (q 1)) (C := RX6) (T := TX6) (N := 11) hx hb hts hinX6 hown hK hP 0 rfl rfl 0 (by decide) hL7 (fun _ h9 => h9) rfl dX6_leastFlood_14 ?_
    refine lv_bipush (v := 9) hx hb dX6_leastFlood_17 (by decide) ?_
    refine k_ald (f := (M 0)) (j := 9) (v := ((M 0) 9)) hx hb hK hP 1 0 rfl rfl (show ¬ ((9 : Int32) < 0 ∨ 86 ≤ (9 : Int32).toNatClampNeg) by decide) rfl rfl dX6_leastFlood_19 ?_
    refine lv_iconst (v := 1) hx hb dX6_leastFlood_20 (by decide) ?_
    refine lv_icmp_ne (tgt := 26) hx hb dX6_leastFlood_21 (by decide) (fun c_3 => ?_) (fun c_3 => ?_)
    · have h := h.2 c_3
      refine lv_ldc hx hb hown (hts (.constant RX6 40 (-1000004)) (by decide +kernel)) dX6_leastFlood_26 ?_
      refine lv_istore_n (lv' := [(2, .int (-1000004)), (0, .ref (q 0)), (1, .int x)]) hx hb dX6_leastFlood_28 rfl hl (by decide) rfl (fun ls hl => ?_)
      refine lv_iconst (v := 0) hx hb dX6_leastFlood_29 (by decide) ?_
      refine lv_istore_n (lv' := [(3, .int 0), (2, .int (-1000004)), (0, .ref (q 0)), (1, .int x)]) hx hb dX6_leastFlood_30 rfl hl (by decide) rfl (fun ls hl => ?_)
      obtain ⟨I_5, n_10, h_11, hI_12⟩ := h
      have lp_13 : ∀ (n_4 : Nat) (x3_6 : Int32) (x2_7 : Int32) (D_8 : St), I_5 n_4 x3_6 x2_7 D_8 → ∀ (H : Heap) (locs : List Loc) (ls : Array Slot), va_P G vwCl (wM cI q D_8) H → va_D A (wM cI q D_8) → va_S A s.heap H locs → lv_has ls 4 [(3, .int x3_6), (2, .int x2_7), (0, .ref (q 0)), (1, .int x)] → W p l e (headSpec wsX6_leastFlood ({ frames := 6, cells := 0, slots := 0, locals := 135 })).room s m ([.ref (q 0), .int x] : List Value).toArray below meth c H locs 0 0 (MQ below (va_Qi Q (BW G (fun u : St => (wM cI q u)) A) A) ([.ref (q 0), .int x] : List Value).toArray s 0 0 A) (F0 m 31 ls []) := by
        intro n_4
        induction n_4 using Nat.strongRecOn with
        | ind n_4 ih_9 =>
          intro x3_6 x2_7 D_8 hIn H locs ls hP hD hS hl
          have h := hI_12 n_4 x3_6 x2_7 D_8 hIn
          refine lv_iload_n hx hb dX6_leastFlood_31 rfl (lv_at hl 0 rfl) ?_
          refine lv_sipush (v := 300) hx hb dX6_leastFlood_32 (by decide) ?_
          refine lv_icmp_gt (tgt := 63) hx hb dX6_leastFlood_35 (by decide) (fun c_14 => ?_) (fun c_14 => ?_)
          · have h := h.1 c_14
            refine lv_iload_n hx hb dX6_leastFlood_63 rfl (lv_at hl 1 rfl) ?_
            exact W.iret (v := x2_7) hx hb hr (fun t ht hW => ⟨⟨x2_7, D_8, rfl, h, by rw [ht]; exact hP, hD⟩, hS.F ht⟩) hS.2.2 dX6_leastFlood_64
          · have h := h.2 c_14
            refine lv_iload_n hx hb dX6_leastFlood_38 rfl (lv_at hl 1 rfl) ?_
            refine lv_if_ge (tgt := 63) hx hb dX6_leastFlood_39 (by decide) (fun c_15 => ?_) (fun c_15 => ?_)
            · have h := h.1 c_15
              refine lv_iload_n hx hb dX6_leastFlood_63 rfl (lv_at hl 1 rfl) ?_
              exact W.iret (v := x2_7) hx hb hr (fun t ht hW => ⟨⟨x2_7, D_8, rfl, h, by rw [ht]; exact hP, hD⟩, hS.F ht⟩) hS.2.2 dX6_leastFlood_64
            · have h := h.2 c_15
              refine lv_aload_n hx hb dX6_leastFlood_42 rfl (lv_at hl 2 rfl) ?_
              refine lv_iload_n hx hb dX6_leastFlood_43 rfl (lv_at hl 0 rfl) ?_
              refine lv_iload_n hx hb dX6_leastFlood_44 rfl (lv_at hl 3 rfl) ?_
              refine kc_i (As := [.int x3_6, .int x]) (rest := []) (wg := (fun u => (wM cI q u))) ⟨hx, hb, hml, hown, hts⟩ (c_X6_wouldFlood l G cI cC cD q _ D_8 x3_6 x _ h) (cwV 2 hts gX6_leastFlood_X6_wouldFlood rfl rfl rfl (by decide +kernel) ⟨Nat.le_of_ble_eq_true rfl, Nat.le_of_ble_eq_true rfl⟩) hK hN hP hD hS hA (em_MM cI q D_8) (fun u => rp_MM cI q D_8 u) rfl rfl rfl rfl hl.1 rfl (Nat.le_of_ble_eq_true rfl) dX6_leastFlood_45 ⟨Nat.zero_le _, Nat.zero_le _⟩ (fun r_16 u_17 H locs h hP hD hS => ?_)
              refine lv_if_eq (tgt := 55) hx hb dX6_leastFlood_48 (by decide) (fun c_18 => ?_) (fun c_18 => ?_)
              · have h := h.1 c_18
                refine lv_iload_n hx hb dX6_leastFlood_55 rfl (lv_at hl 1 rfl) ?_
                refine lv_istore_n (lv' := [(2, .int x2_7), (3, .int x3_6), (0, .ref (q 0)), (1, .int x)]) hx hb dX6_leastFlood_56 rfl hl (by decide) rfl (fun ls hl => ?_)
                refine lv_iinc (v := x3_6 + 1) (lv' := [(3, .int (x3_6 + 1)), (2, .int x2_7), (0, .ref (q 0)), (1, .int x)]) hx hb dX6_leastFlood_57 hl (k := 1) rfl rfl (by decide) rfl (fun ls hl => ?_)
                refine lv_goto (tgt := 31) hx hb dX6_leastFlood_60 (by decide) ?_
                obtain ⟨n_19, lt_20, h_21⟩ := h
                exact ih_9 n_19 lt_20 _ _ _ h_21 _ _ _ hP hD hS (lv_sub hl [0, 1, 2, 3] rfl)
              · have h := h.2 c_18
                refine lv_iload_n hx hb dX6_leastFlood_51 rfl (lv_at hl 0 rfl) ?_
                refine lv_goto (tgt := 56) hx hb dX6_leastFlood_52 (by decide) ?_
                refine lv_istore_n (lv' := [(2, .int x3_6), (3, .int x3_6), (0, .ref (q 0)), (1, .int x)]) hx hb dX6_leastFlood_56 rfl hl (by decide) rfl (fun ls hl => ?_)
                refine lv_iinc (v := x3_6 + 1) (lv' := [(3, .int (x3_6 + 1)), (2, .int x3_6), (0, .ref (q 0)), (1, .int x)]) hx hb dX6_leastFlood_57 hl (k := 1) rfl rfl (by decide) rfl (fun ls hl => ?_)
                refine lv_goto (tgt := 31) hx hb dX6_leastFlood_60 (by decide) ?_
                obtain ⟨n_22, lt_23, h_24⟩ := h
                exact ih_9 n_22 lt_23 _ _ _ h_24 _ _ _ hP hD hS (lv_sub hl [0, 1, 2, 3] rfl)
      exact lp_13 _ _ _ _ h_11 _ _ _ hP hD hS hl
    · have h := h.1 c_3
      refine lv_iconst (v := 0) hx hb dX6_leastFlood_24 (by decide) ?_
      exact W.iret (v := 0) hx hb hr (fun t ht hW => ⟨⟨0, M, rfl, h, by rw [ht]; exact hP, hD⟩, hS.F ht⟩) hS.2.2 dX6_leastFlood_25
  · have h := h.1 c_2
    refine lv_ldc hx hb hown (hts (.constant RX6 103 (-1000001)) (by decide +kernel)) dX6_leastFlood_10 ?_
    exact W.iret (v := (-1000001)) hx hb hr (fun t ht hW => ⟨⟨(-1000001), M, rfl, h, by rw [ht]; exact hP, hD⟩, hS.F ht⟩) hS.2.2 dX6_leastFlood_12
def q_X6_count (x : Int32) (M : St) (Q : Int32 → Prop) : Prop :=
  (x = 0 → vp_in (3 + x) 86 ∧ (Q ((M 0) (((3 + x)).toNatClampNeg)))) ∧ (¬ (x = 0) → (x = 1 → vp_in (3 + x) 86 ∧ (Q ((M 0) (((3 + x)).toNatClampNeg)))) ∧ (¬ (x = 1) → (x = 2 → vp_in (3 + x) 86 ∧ (Q ((M 0) (((3 + x)).toNatClampNeg)))) ∧ (¬ (x = 2) → (x = 3 → q_X6_head M (fun r_8 => Q r_8)) ∧ (¬ (x = 3) → (x = 4 → vp_in ((12 + x) - 4) 86 ∧ (Q ((M 0) ((((12 + x) - 4)).toNatClampNeg)))) ∧ (¬ (x = 4) → (x = 5 → vp_in ((12 + x) - 4) 86 ∧ (Q ((M 0) ((((12 + x) - 4)).toNatClampNeg)))) ∧ (¬ (x = 5) → (x = 6 → vp_in ((12 + x) - 4) 86 ∧ (Q ((M 0) ((((12 + x) - 4)).toNatClampNeg)))) ∧ (¬ (x = 6) → (x = 7 → vp_in ((12 + x) - 4) 86 ∧ (Q ((M 0) ((((12 + x) - 4)).toNatClampNeg)))) ∧ (¬ (x = 7) → (x = 8 → Q ((M 0) 10)) ∧ (¬ (x = 8) → (x = 9 → Q ((M 0) 9)) ∧ (¬ (x = 9) → (x = 10 → Q ((M 0) 16)) ∧ (¬ (x = 10) → (x = 11 → Q (M 4 0)) ∧ (¬ (x = 11) → (x = 12 → Q (M 7 0)) ∧ (¬ (x = 12) → (x = 13 → Q (-1000001)) ∧ (¬ (x = 13) → (x = 14 → Q (-1000001)) ∧ (¬ (x = 14) → (x = 15 → Q (-1000001)) ∧ (¬ (x = 15) → (x = 16 → Q (-1000001)) ∧ (¬ (x = 16) → (x = 17 → Q (-1000001)) ∧ (¬ (x = 17) → (x = 18 → Q (-1000001)) ∧ (¬ (x = 18) → (x = 19 → Q (-1000001)) ∧ (¬ (x = 19) → (x = 20 → vp_in (x - 20) 86 ∧ (Q ((M 0) (((x - 20)).toNatClampNeg)))) ∧ (¬ (x = 20) → (x = 21 → vp_in (x - 20) 86 ∧ (Q ((M 0) (((x - 20)).toNatClampNeg)))) ∧ (¬ (x = 21) → (x = 22 → vp_in (x - 20) 86 ∧ (Q ((M 0) (((x - 20)).toNatClampNeg)))) ∧ (¬ (x = 22) → Q (-1000001))))))))))))))))))))))))
set_option maxHeartbeats 4000000 in
set_option maxRecDepth 100000 in
theorem c_X6_count (l : Launch) (G : va_G) (cI cC cD : ClassId) (q : Nat → Nat) (sz : Nat) (M : St) (x : Int32) (Q : Int32 → Prop) (h : q_X6_count x M Q) : Met l yX6_count wsX6_count ({ frames := 1, cells := 0, slots := 0, locals := 20 }) (va_Pc [.ref (q 0), .int x] (PW G (ty3 cI cC cD) (wM cI q M) sz)) (va_Qi (fun (r : Int32) (_ : Unit) => Q r) (BW G (fun _ : Unit => (wM cI q M)) (va_A (wM cI q M) sz)) (va_A (wM cI q M) sz)) 0 0 (va_A (wM cI q M) sz) := by
  refine Met.ofW (cc := cX6_count) (maxL := 2) (ret := (some .int)) (by decide) rfl ?_
  intro p e s m args below meth c s₁ B hml hv
  obtain ⟨rfl, hsz, hP, hK, hD0, hN⟩ := hv
  have hx := B.exec
  have hb := B.bytes
  have hr := B.returns
  have hts := atoms_spec (ws := wsX6_count) B.pre
  have hown : s.vm.findClass RX6 = some m.cls := findClass_of_methodNamed B.named
  have hlocks := B.notSynchronized
  subst hsz
  have hD := hD0.self (sz := s.heap.size)
  generalize hAe : va_A (wM cI q M) s.heap.size = A at hD ⊢
  have hA : ∀ q : Nat, s.heap.size ≤ q → A q := fun q h => by rw [← hAe]; exact Or.inr h
  have hS : va_S A s.heap s.heap [] := va_S.rf
  have hl := lv_entry ([.ref (q 0), .int x]) (n := 2) (Nat.le_of_ble_eq_true rfl)
  rw [lg_entry_eq]
  generalize (lg_sl ([.ref (q 0), .int x]) ++ List.replicate (2 - (lg_sl ([.ref (q 0), .int x])).length) Slot.unset).toArray = ls at hl ⊢
  have hl : lv_has ls 2 [(0, .ref (q 0)), (1, .int x)] := hl
  have hinX6 : ∀ w ∈ wsX60, w ∈ wsX6_count := by decide +kernel
  have hL7 := hts (.fieldLink RX6 7 "CraneGatesModel" "s" "[I") (by decide +kernel)
  have hL32 := hts (.fieldLink RX6 32 "CraneGatesModel" "pasts" "I") (by decide +kernel)
  have hL143 := hts (.fieldLink RX6 143 "CraneGatesModel" "typed" "I") (by decide +kernel)
  unfold q_X6_count at h
  refine lv_iload_n hx hb dX6_count_0 rfl (lv_at hl 1 rfl) ?_
  by_cases c_1 : x = 0
  · have h := h.1 c_1
    refine lv_tableIn (off := 107) (tgt := 108) hx hb dX6_count_1 (by rw [c_1]; decide) (by rw [c_1]; decide) (by rw [c_1]; rfl) (by decide) ?_
    refine lv_aload_n hx hb dX6_count_108 rfl (lv_at hl 0 rfl) ?_
    refine va_get (D := G) (ci := 6) (v := .ref (q 1)) (C := RX6) (T := TX6) (N := 11) hx hb hts hinX6 hown hK hP 0 rfl rfl 0 (by decide) hL7 (fun _ h9 => h9) rfl dX6_count_109 ?_
    refine lv_iconst (v := 3) hx hb dX6_count_112 (by decide) ?_
    refine lv_iload_n hx hb dX6_count_113 rfl (lv_at hl 1 rfl) ?_
    refine lv_iadd hx hb dX6_count_114 ?_
    obtain ⟨hi_2, h⟩ := h
    refine k_ald (f := (M 0)) (j := ((3 + x)).toNatClampNeg) (v := ((M 0) (((3 + x)).toNatClampNeg))) hx hb hK hP 1 0 rfl rfl hi_2 rfl rfl dX6_count_115 ?_
    exact W.iret (v := ((M 0) (((3 + x)).toNatClampNeg))) hx hb hr (fun t ht hW => ⟨⟨((M 0) (((3 + x)).toNatClampNeg)), (), rfl, h, by rw [ht]; exact hP, hD⟩, hS.F ht⟩) hS.2.2 dX6_count_116
  · have h := h.2 c_1
    by_cases c_3 : x = 1
    · have h := h.1 c_3
      refine lv_tableIn (off := 107) (tgt := 108) hx hb dX6_count_1 (by rw [c_3]; decide) (by rw [c_3]; decide) (by rw [c_3]; rfl) (by decide) ?_
      refine lv_aload_n hx hb dX6_count_108 rfl (lv_at hl 0 rfl) ?_
      refine va_get (D := G) (ci := 6) (v := .ref (q 1)) (C := RX6) (T := TX6) (N := 11) hx hb hts hinX6 hown hK hP 0 rfl rfl 0 (by decide) hL7 (fun _ h9 => h9) rfl dX6_count_109 ?_
      refine lv_iconst (v := 3) hx hb dX6_count_112 (by decide) ?_
      refine lv_iload_n hx hb dX6_count_113 rfl (lv_at hl 1 rfl) ?_
      refine lv_iadd hx hb dX6_count_114 ?_
      obtain ⟨hi_4, h⟩ := h
      refine k_ald (f := (M 0)) (j := ((3 + x)).toNatClampNeg) (v := ((M 0) (((3 + x)).toNatClampNeg))) hx hb hK hP 1 0 rfl rfl hi_4 rfl rfl dX6_count_115 ?_
      exact W.iret (v := ((M 0) (((3 + x)).toNatClampNeg))) hx hb hr (fun t ht hW => ⟨⟨((M 0) (((3 + x)).toNatClampNeg)), (), rfl, h, by rw [ht]; exact hP, hD⟩, hS.F ht⟩) hS.2.2 dX6_count_116
    · have h := h.2 c_3
      by_cases c_5 : x = 2
      · have h := h.1 c_5
        refine lv_tableIn (off := 107) (tgt := 108) hx hb dX6_count_1 (by rw [c_5]; decide) (by rw [c_5]; decide) (by rw [c_5]; rfl) (by decide) ?_
        refine lv_aload_n hx hb dX6_count_108 rfl (lv_at hl 0 rfl) ?_
        refine va_get (D := G) (ci := 6) (v := .ref (q 1)) (C := RX6) (T := TX6) (N := 11) hx hb hts hinX6 hown hK hP 0 rfl rfl 0 (by decide) hL7 (fun _ h9 => h9) rfl dX6_count_109 ?_
        refine lv_iconst (v := 3) hx hb dX6_count_112 (by decide) ?_
        refine lv_iload_n hx hb dX6_count_113 rfl (lv_at hl 1 rfl) ?_
        refine lv_iadd hx hb dX6_count_114 ?_
        obtain ⟨hi_6, h⟩ := h
        refine k_ald (f := (M 0)) (j := ((3 + x)).toNatClampNeg) (v := ((M 0) (((3 + x)).toNatClampNeg))) hx hb hK hP 1 0 rfl rfl hi_6 rfl rfl dX6_count_115 ?_
        exact W.iret (v := ((M 0) (((3 + x)).toNatClampNeg))) hx hb hr (fun t ht hW => ⟨⟨((M 0) (((3 + x)).toNatClampNeg)), (), rfl, h, by rw [ht]; exact hP, hD⟩, hS.F ht⟩) hS.2.2 dX6_count_116
      · have h := h.2 c_5
        by_cases c_7 : x = 3
        · have h := h.1 c_7
          refine lv_tableIn (off := 116) (tgt := 117) hx hb dX6_count_1 (by rw [c_7]; decide) (by rw [c_7]; decide) (by rw [c_7]; rfl) (by decide) ?_
          refine lv_aload_n hx hb dX6_count_117 rfl (lv_at hl 0 rfl) ?_
          refine kc_i (As := []) (rest := []) (wg := (fun _ => (wM cI q M))) ⟨hx, hb, hml, hown, hts⟩ (c_X6_head l G cI cC cD q _ M  _ h) (cwV 0 hts gX6_count_X6_head rfl rfl rfl (by decide +kernel) ⟨Nat.le_of_ble_eq_true rfl, Nat.le_of_ble_eq_true rfl⟩) hK hN hP hD hS hA (em_MM cI q M) (fun _ => rp_self (em_MM cI q M)) rfl rfl rfl rfl hl.1 rfl (Nat.le_of_ble_eq_true rfl) dX6_count_118 ⟨Nat.zero_le _, Nat.zero_le _⟩ (fun r_8 _ H locs h hP hD hS => ?_)
          exact W.iret (v := r_8) hx hb hr (fun t ht hW => ⟨⟨r_8, (), rfl, h, by rw [ht]; exact hP, hD⟩, hS.F ht⟩) hS.2.2 dX6_count_121
        · have h := h.2 c_7
          by_cases c_9 : x = 4
          · have h := h.1 c_9
            refine lv_tableIn (off := 121) (tgt := 122) hx hb dX6_count_1 (by rw [c_9]; decide) (by rw [c_9]; decide) (by rw [c_9]; rfl) (by decide) ?_
            refine lv_aload_n hx hb dX6_count_122 rfl (lv_at hl 0 rfl) ?_
            refine va_get (D := G) (ci := 6) (v := .ref (q 1)) (C := RX6) (T := TX6) (N := 11) hx hb hts hinX6 hown hK hP 0 rfl rfl 0 (by decide) hL7 (fun _ h9 => h9) rfl dX6_count_123 ?_
            refine lv_bipush (v := 12) hx hb dX6_count_126 (by decide) ?_
            refine lv_iload_n hx hb dX6_count_128 rfl (lv_at hl 1 rfl) ?_
            refine lv_iadd hx hb dX6_count_129 ?_
            refine lv_iconst (v := 4) hx hb dX6_count_130 (by decide) ?_
            refine lv_isub hx hb dX6_count_131 ?_
            obtain ⟨hi_10, h⟩ := h
            refine k_ald (f := (M 0)) (j := (((12 + x) - 4)).toNatClampNeg) (v := ((M 0) ((((12 + x) - 4)).toNatClampNeg))) hx hb hK hP 1 0 rfl rfl hi_10 rfl rfl dX6_count_132 ?_
            exact W.iret (v := ((M 0) ((((12 + x) - 4)).toNatClampNeg))) hx hb hr (fun t ht hW => ⟨⟨((M 0) ((((12 + x) - 4)).toNatClampNeg)), (), rfl, h, by rw [ht]; exact hP, hD⟩, hS.F ht⟩) hS.2.2 dX6_count_133
          · have h := h.2 c_9
            by_cases c_11 : x = 5
            · have h := h.1 c_11
              refine lv_tableIn (off := 121) (tgt := 122) hx hb dX6_count_1 (by rw [c_11]; decide) (by rw [c_11]; decide) (by rw [c_11]; rfl) (by decide) ?_
              refine lv_aload_n hx hb dX6_count_122 rfl (lv_at hl 0 rfl) ?_
              refine va_get (D := G) (ci := 6) (v := .ref (q 1)) (C := RX6) (T := TX6) (N := 11) hx hb hts hinX6 hown hK hP 0 rfl rfl 0 (by decide) hL7 (fun _ h9 => h9) rfl dX6_count_123 ?_
              refine lv_bipush (v := 12) hx hb dX6_count_126 (by decide) ?_
              refine lv_iload_n hx hb dX6_count_128 rfl (lv_at hl 1 rfl) ?_
              refine lv_iadd hx hb dX6_count_129 ?_
              refine lv_iconst (v := 4) hx hb dX6_count_130 (by decide) ?_
              refine lv_isub hx hb dX6_count_131 ?_
              obtain ⟨hi_12, h⟩ := h
              refine k_ald (f := (M 0)) (j := (((12 + x) - 4)).toNatClampNeg) (v := ((M 0) ((((12 + x) - 4)).toNatClampNeg))) hx hb hK hP 1 0 rfl rfl hi_12 rfl rfl dX6_count_132 ?_
              exact W.iret (v := ((M 0) ((((12 + x) - 4)).toNatClampNeg))) hx hb hr (fun t ht hW => ⟨⟨((M 0) ((((12 + x) - 4)).toNatClampNeg)), (), rfl, h, by rw [ht]; exact hP, hD⟩, hS.F ht⟩) hS.2.2 dX6_count_133
            · have h := h.2 c_11
              by_cases c_13 : x = 6
              · have h := h.1 c_13
                refine lv_tableIn (off := 121) (tgt := 122) hx hb dX6_count_1 (by rw [c_13]; decide) (by rw [c_13]; decide) (by rw [c_13]; rfl) (by decide) ?_
                refine lv_aload_n hx hb dX6_count_122 rfl (lv_at hl 0 rfl) ?_
                refine va_get (D := G) (ci := 6) (v := .ref (q 1)) (C := RX6) (T := TX6) (N := 11) hx hb hts hinX6 hown hK hP 0 rfl rfl 0 (by decide) hL7 (fun _ h9 => h9) rfl dX6_count_123 ?_
                refine lv_bipush (v := 12) hx hb dX6_count_126 (by decide) ?_
                refine lv_iload_n hx hb dX6_count_128 rfl (lv_at hl 1 rfl) ?_
                refine lv_iadd hx hb dX6_count_129 ?_
                refine lv_iconst (v := 4) hx hb dX6_count_130 (by decide) ?_
                refine lv_isub hx hb dX6_count_131 ?_
                obtain ⟨hi_14, h⟩ := h
                refine k_ald (f := (M 0)) (j := (((12 + x) - 4)).toNatClampNeg) (v := ((M 0) ((((12 + x) - 4)).toNatClampNeg))) hx hb hK hP 1 0 rfl rfl hi_14 rfl rfl dX6_count_132 ?_
                exact W.iret (v := ((M 0) ((((12 + x) - 4)).toNatClampNeg))) hx hb hr (fun t ht hW => ⟨⟨((M 0) ((((12 + x) - 4)).toNatClampNeg)), (), rfl, h, by rw [ht]; exact hP, hD⟩, hS.F ht⟩) hS.2.2 dX6_count_133
              · have h := h.2 c_13
                by_cases c_15 : x = 7
                · have h := h.1 c_15
                  refine lv_tableIn (off := 121) (tgt := 122) hx hb dX6_count_1 (by rw [c_15]; decide) (by rw [c_15]; decide) (by rw [c_15]; rfl) (by decide) ?_
                  refine lv_aload_n hx hb dX6_count_122 rfl (lv_at hl 0 rfl) ?_
                  refine va_get (D := G) (ci := 6) (v := .ref (q 1)) (C := RX6) (T := TX6) (N := 11) hx hb hts hinX6 hown hK hP 0 rfl rfl 0 (by decide) hL7 (fun _ h9 => h9) rfl dX6_count_123 ?_
                  refine lv_bipush (v := 12) hx hb dX6_count_126 (by decide) ?_
                  refine lv_iload_n hx hb dX6_count_128 rfl (lv_at hl 1 rfl) ?_
                  refine lv_iadd hx hb dX6_count_129 ?_
                  refine lv_iconst (v := 4) hx hb dX6_count_130 (by decide) ?_
                  refine lv_isub hx hb dX6_count_131 ?_
                  obtain ⟨hi_16, h⟩ := h
                  refine k_ald (f := (M 0)) (j := (((12 + x) - 4)).toNatClampNeg) (v := ((M 0) ((((12 + x) - 4)).toNatClampNeg))) hx hb hK hP 1 0 rfl rfl hi_16 rfl rfl dX6_count_132 ?_
                  exact W.iret (v := ((M 0) ((((12 + x) - 4)).toNatClampNeg))) hx hb hr (fun t ht hW => ⟨⟨((M 0) ((((12 + x) - 4)).toNatClampNeg)), (), rfl, h, by rw [ht]; exact hP, hD⟩, hS.F ht⟩) hS.2.2 dX6_count_133
                · have h := h.2 c_15
                  by_cases c_17 : x = 8
                  · have h := h.1 c_17
                    refine lv_tableIn (off := 133) (tgt := 134) hx hb dX6_count_1 (by rw [c_17]; decide) (by rw [c_17]; decide) (by rw [c_17]; rfl) (by decide) ?_
                    refine lv_aload_n hx hb dX6_count_134 rfl (lv_at hl 0 rfl) ?_
                    refine va_get (D := G) (ci := 6) (v := .ref (q 1)) (C := RX6) (T := TX6) (N := 11) hx hb hts hinX6 hown hK hP 0 rfl rfl 0 (by decide) hL7 (fun _ h9 => h9) rfl dX6_count_135 ?_
                    refine lv_bipush (v := 10) hx hb dX6_count_138 (by decide) ?_
                    refine k_ald (f := (M 0)) (j := 10) (v := ((M 0) 10)) hx hb hK hP 1 0 rfl rfl (show ¬ ((10 : Int32) < 0 ∨ 86 ≤ (10 : Int32).toNatClampNeg) by decide) rfl rfl dX6_count_140 ?_
                    exact W.iret (v := ((M 0) 10)) hx hb hr (fun t ht hW => ⟨⟨((M 0) 10), (), rfl, h, by rw [ht]; exact hP, hD⟩, hS.F ht⟩) hS.2.2 dX6_count_141
                  · have h := h.2 c_17
                    by_cases c_18 : x = 9
                    · have h := h.1 c_18
                      refine lv_tableIn (off := 141) (tgt := 142) hx hb dX6_count_1 (by rw [c_18]; decide) (by rw [c_18]; decide) (by rw [c_18]; rfl) (by decide) ?_
                      refine lv_aload_n hx hb dX6_count_142 rfl (lv_at hl 0 rfl) ?_
                      refine va_get (D := G) (ci := 6) (v := .ref (q 1)) (C := RX6) (T := TX6) (N := 11) hx hb hts hinX6 hown hK hP 0 rfl rfl 0 (by decide) hL7 (fun _ h9 => h9) rfl dX6_count_143 ?_
                      refine lv_bipush (v := 9) hx hb dX6_count_146 (by decide) ?_
                      refine k_ald (f := (M 0)) (j := 9) (v := ((M 0) 9)) hx hb hK hP 1 0 rfl rfl (show ¬ ((9 : Int32) < 0 ∨ 86 ≤ (9 : Int32).toNatClampNeg) by decide) rfl rfl dX6_count_148 ?_
                      exact W.iret (v := ((M 0) 9)) hx hb hr (fun t ht hW => ⟨⟨((M 0) 9), (), rfl, h, by rw [ht]; exact hP, hD⟩, hS.F ht⟩) hS.2.2 dX6_count_149
                    · have h := h.2 c_18
                      by_cases c_19 : x = 10
                      · have h := h.1 c_19
                        refine lv_tableIn (off := 149) (tgt := 150) hx hb dX6_count_1 (by rw [c_19]; decide) (by rw [c_19]; decide) (by rw [c_19]; rfl) (by decide) ?_
                        refine lv_aload_n hx hb dX6_count_150 rfl (lv_at hl 0 rfl) ?_
                        refine va_get (D := G) (ci := 6) (v := .ref (q 1)) (C := RX6) (T := TX6) (N := 11) hx hb hts hinX6 hown hK hP 0 rfl rfl 0 (by decide) hL7 (fun _ h9 => h9) rfl dX6_count_151 ?_
                        refine lv_bipush (v := 16) hx hb dX6_count_154 (by decide) ?_
                        refine k_ald (f := (M 0)) (j := 16) (v := ((M 0) 16)) hx hb hK hP 1 0 rfl rfl (show ¬ ((16 : Int32) < 0 ∨ 86 ≤ (16 : Int32).toNatClampNeg) by decide) rfl rfl dX6_count_156 ?_
                        exact W.iret (v := ((M 0) 16)) hx hb hr (fun t ht hW => ⟨⟨((M 0) 16), (), rfl, h, by rw [ht]; exact hP, hD⟩, hS.F ht⟩) hS.2.2 dX6_count_157
                      · have h := h.2 c_19
                        by_cases c_20 : x = 11
                        · have h := h.1 c_20
                          refine lv_tableIn (off := 157) (tgt := 158) hx hb dX6_count_1 (by rw [c_20]; decide) (by rw [c_20]; decide) (by rw [c_20]; rfl) (by decide) ?_
                          refine lv_aload_n hx hb dX6_count_158 rfl (lv_at hl 0 rfl) ?_
                          refine va_get (D := G) (ci := 6) (v := .int (M 4 0)) (C := RX6) (T := TX6) (N := 11) hx hb hts hinX6 hown hK hP 0 rfl rfl 4 (by decide) hL32 (fun _ h9 => h9) rfl dX6_count_159 ?_
                          exact W.iret (v := (M 4 0)) hx hb hr (fun t ht hW => ⟨⟨(M 4 0), (), rfl, h, by rw [ht]; exact hP, hD⟩, hS.F ht⟩) hS.2.2 dX6_count_162
                        · have h := h.2 c_20
                          by_cases c_21 : x = 12
                          · have h := h.1 c_21
                            refine lv_tableIn (off := 162) (tgt := 163) hx hb dX6_count_1 (by rw [c_21]; decide) (by rw [c_21]; decide) (by rw [c_21]; rfl) (by decide) ?_
                            refine lv_aload_n hx hb dX6_count_163 rfl (lv_at hl 0 rfl) ?_
                            refine va_get (D := G) (ci := 6) (v := .int (M 7 0)) (C := RX6) (T := TX6) (N := 11) hx hb hts hinX6 hown hK hP 0 rfl rfl 7 (by decide) hL143 (fun _ h9 => h9) rfl dX6_count_164 ?_
                            exact W.iret (v := (M 7 0)) hx hb hr (fun t ht hW => ⟨⟨(M 7 0), (), rfl, h, by rw [ht]; exact hP, hD⟩, hS.F ht⟩) hS.2.2 dX6_count_167
                          · have h := h.2 c_21
                            by_cases c_22 : x = 13
                            · have h := h.1 c_22
                              refine lv_tableIn (off := 177) (tgt := 178) hx hb dX6_count_1 (by rw [c_22]; decide) (by rw [c_22]; decide) (by rw [c_22]; rfl) (by decide) ?_
                              refine lv_ldc hx hb hown (hts (.constant RX6 103 (-1000001)) (by decide +kernel)) dX6_count_178 ?_
                              exact W.iret (v := (-1000001)) hx hb hr (fun t ht hW => ⟨⟨(-1000001), (), rfl, h, by rw [ht]; exact hP, hD⟩, hS.F ht⟩) hS.2.2 dX6_count_180
                            · have h := h.2 c_22
                              by_cases c_23 : x = 14
                              · have h := h.1 c_23
                                refine lv_tableIn (off := 177) (tgt := 178) hx hb dX6_count_1 (by rw [c_23]; decide) (by rw [c_23]; decide) (by rw [c_23]; rfl) (by decide) ?_
                                refine lv_ldc hx hb hown (hts (.constant RX6 103 (-1000001)) (by decide +kernel)) dX6_count_178 ?_
                                exact W.iret (v := (-1000001)) hx hb hr (fun t ht hW => ⟨⟨(-1000001), (), rfl, h, by rw [ht]; exact hP, hD⟩, hS.F ht⟩) hS.2.2 dX6_count_180
                              · have h := h.2 c_23
                                by_cases c_24 : x = 15
                                · have h := h.1 c_24
                                  refine lv_tableIn (off := 177) (tgt := 178) hx hb dX6_count_1 (by rw [c_24]; decide) (by rw [c_24]; decide) (by rw [c_24]; rfl) (by decide) ?_
                                  refine lv_ldc hx hb hown (hts (.constant RX6 103 (-1000001)) (by decide +kernel)) dX6_count_178 ?_
                                  exact W.iret (v := (-1000001)) hx hb hr (fun t ht hW => ⟨⟨(-1000001), (), rfl, h, by rw [ht]; exact hP, hD⟩, hS.F ht⟩) hS.2.2 dX6_count_180
                                · have h := h.2 c_24
                                  by_cases c_25 : x = 16
                                  · have h := h.1 c_25
                                    refine lv_tableIn (off := 177) (tgt := 178) hx hb dX6_count_1 (by rw [c_25]; decide) (by rw [c_25]; decide) (by rw [c_25]; rfl) (by decide) ?_
                                    refine lv_ldc hx hb hown (hts (.constant RX6 103 (-1000001)) (by decide +kernel)) dX6_count_178 ?_
                                    exact W.iret (v := (-1000001)) hx hb hr (fun t ht hW => ⟨⟨(-1000001), (), rfl, h, by rw [ht]; exact hP, hD⟩, hS.F ht⟩) hS.2.2 dX6_count_180
                                  · have h := h.2 c_25
                                    by_cases c_26 : x = 17
                                    · have h := h.1 c_26
                                      refine lv_tableIn (off := 177) (tgt := 178) hx hb dX6_count_1 (by rw [c_26]; decide) (by rw [c_26]; decide) (by rw [c_26]; rfl) (by decide) ?_
                                      refine lv_ldc hx hb hown (hts (.constant RX6 103 (-1000001)) (by decide +kernel)) dX6_count_178 ?_
                                      exact W.iret (v := (-1000001)) hx hb hr (fun t ht hW => ⟨⟨(-1000001), (), rfl, h, by rw [ht]; exact hP, hD⟩, hS.F ht⟩) hS.2.2 dX6_count_180
                                    · have h := h.2 c_26
                                      by_cases c_27 : x = 18
                                      · have h := h.1 c_27
                                        refine lv_tableIn (off := 177) (tgt := 178) hx hb dX6_count_1 (by rw [c_27]; decide) (by rw [c_27]; decide) (by rw [c_27]; rfl) (by decide) ?_
                                        refine lv_ldc hx hb hown (hts (.constant RX6 103 (-1000001)) (by decide +kernel)) dX6_count_178 ?_
                                        exact W.iret (v := (-1000001)) hx hb hr (fun t ht hW => ⟨⟨(-1000001), (), rfl, h, by rw [ht]; exact hP, hD⟩, hS.F ht⟩) hS.2.2 dX6_count_180
                                      · have h := h.2 c_27
                                        by_cases c_28 : x = 19
                                        · have h := h.1 c_28
                                          refine lv_tableIn (off := 177) (tgt := 178) hx hb dX6_count_1 (by rw [c_28]; decide) (by rw [c_28]; decide) (by rw [c_28]; rfl) (by decide) ?_
                                          refine lv_ldc hx hb hown (hts (.constant RX6 103 (-1000001)) (by decide +kernel)) dX6_count_178 ?_
                                          exact W.iret (v := (-1000001)) hx hb hr (fun t ht hW => ⟨⟨(-1000001), (), rfl, h, by rw [ht]; exact hP, hD⟩, hS.F ht⟩) hS.2.2 dX6_count_180
                                        · have h := h.2 c_28
                                          by_cases c_29 : x = 20
                                          · have h := h.1 c_29
                                            refine lv_tableIn (off := 167) (tgt := 168) hx hb dX6_count_1 (by rw [c_29]; decide) (by rw [c_29]; decide) (by rw [c_29]; rfl) (by decide) ?_
                                            refine lv_aload_n hx hb dX6_count_168 rfl (lv_at hl 0 rfl) ?_
                                            refine va_get (D := G) (ci := 6) (v := .ref (q 1)) (C := RX6) (T := TX6) (N := 11) hx hb hts hinX6 hown hK hP 0 rfl rfl 0 (by decide) hL7 (fun _ h9 => h9) rfl dX6_count_169 ?_
                                            refine lv_iload_n hx hb dX6_count_172 rfl (lv_at hl 1 rfl) ?_
                                            refine lv_bipush (v := 20) hx hb dX6_count_173 (by decide) ?_
                                            refine lv_isub hx hb dX6_count_175 ?_
                                            obtain ⟨hi_30, h⟩ := h
                                            refine k_ald (f := (M 0)) (j := ((x - 20)).toNatClampNeg) (v := ((M 0) (((x - 20)).toNatClampNeg))) hx hb hK hP 1 0 rfl rfl hi_30 rfl rfl dX6_count_176 ?_
                                            exact W.iret (v := ((M 0) (((x - 20)).toNatClampNeg))) hx hb hr (fun t ht hW => ⟨⟨((M 0) (((x - 20)).toNatClampNeg)), (), rfl, h, by rw [ht]; exact hP, hD⟩, hS.F ht⟩) hS.2.2 dX6_count_177
                                          · have h := h.2 c_29
                                            by_cases c_31 : x = 21
                                            · have h := h.1 c_31
                                              refine lv_tableIn (off := 167) (tgt := 168) hx hb dX6_count_1 (by rw [c_31]; decide) (by rw [c_31]; decide) (by rw [c_31]; rfl) (by decide) ?_
                                              refine lv_aload_n hx hb dX6_count_168 rfl (lv_at hl 0 rfl) ?_
                                              refine va_get (D := G) (ci := 6) (v := .ref (q 1)) (C := RX6) (T := TX6) (N := 11) hx hb hts hinX6 hown hK hP 0 rfl rfl 0 (by decide) hL7 (fun _ h9 => h9) rfl dX6_count_169 ?_
                                              refine lv_iload_n hx hb dX6_count_172 rfl (lv_at hl 1 rfl) ?_
                                              refine lv_bipush (v := 20) hx hb dX6_count_173 (by decide) ?_
                                              refine lv_isub hx hb dX6_count_175 ?_
                                              obtain ⟨hi_32, h⟩ := h
                                              refine k_ald (f := (M 0)) (j := ((x - 20)).toNatClampNeg) (v := ((M 0) (((x - 20)).toNatClampNeg))) hx hb hK hP 1 0 rfl rfl hi_32 rfl rfl dX6_count_176 ?_
                                              exact W.iret (v := ((M 0) (((x - 20)).toNatClampNeg))) hx hb hr (fun t ht hW => ⟨⟨((M 0) (((x - 20)).toNatClampNeg)), (), rfl, h, by rw [ht]; exact hP, hD⟩, hS.F ht⟩) hS.2.2 dX6_count_177
                                            · have h := h.2 c_31
                                              by_cases c_33 : x = 22
                                              · have h := h.1 c_33
                                                refine lv_tableIn (off := 167) (tgt := 168) hx hb dX6_count_1 (by rw [c_33]; decide) (by rw [c_33]; decide) (by rw [c_33]; rfl) (by decide) ?_
                                                refine lv_aload_n hx hb dX6_count_168 rfl (lv_at hl 0 rfl) ?_
                                                refine va_get (D := G) (ci := 6) (v := .ref (q 1)) (C := RX6) (T := TX6) (N := 11) hx hb hts hinX6 hown hK hP 0 rfl rfl 0 (by decide) hL7 (fun _ h9 => h9) rfl dX6_count_169 ?_
                                                refine lv_iload_n hx hb dX6_count_172 rfl (lv_at hl 1 rfl) ?_
                                                refine lv_bipush (v := 20) hx hb dX6_count_173 (by decide) ?_
                                                refine lv_isub hx hb dX6_count_175 ?_
                                                obtain ⟨hi_34, h⟩ := h
                                                refine k_ald (f := (M 0)) (j := ((x - 20)).toNatClampNeg) (v := ((M 0) (((x - 20)).toNatClampNeg))) hx hb hK hP 1 0 rfl rfl hi_34 rfl rfl dX6_count_176 ?_
                                                exact W.iret (v := ((M 0) (((x - 20)).toNatClampNeg))) hx hb hr (fun t ht hW => ⟨⟨((M 0) (((x - 20)).toNatClampNeg)), (), rfl, h, by rw [ht]; exact hP, hD⟩, hS.F ht⟩) hS.2.2 dX6_count_177
                                              · have h := h.2 c_33
                                                have ho : (x).toInt < 0 ∨ 22 < (x).toInt := by
                                                  have n0 := sw_o (a := 0) c_1 (by decide)
                                                  have n1 := sw_o (a := 1) c_3 (by decide)
                                                  have n2 := sw_o (a := 2) c_5 (by decide)
                                                  have n3 := sw_o (a := 3) c_7 (by decide)
                                                  have n4 := sw_o (a := 4) c_9 (by decide)
                                                  have n5 := sw_o (a := 5) c_11 (by decide)
                                                  have n6 := sw_o (a := 6) c_13 (by decide)
                                                  have n7 := sw_o (a := 7) c_15 (by decide)
                                                  have n8 := sw_o (a := 8) c_17 (by decide)
                                                  have n9 := sw_o (a := 9) c_18 (by decide)
                                                  have n10 := sw_o (a := 10) c_19 (by decide)
                                                  have n11 := sw_o (a := 11) c_20 (by decide)
                                                  have n12 := sw_o (a := 12) c_21 (by decide)
                                                  have n13 := sw_o (a := 13) c_22 (by decide)
                                                  have n14 := sw_o (a := 14) c_23 (by decide)
                                                  have n15 := sw_o (a := 15) c_24 (by decide)
                                                  have n16 := sw_o (a := 16) c_25 (by decide)
                                                  have n17 := sw_o (a := 17) c_26 (by decide)
                                                  have n18 := sw_o (a := 18) c_27 (by decide)
                                                  have n19 := sw_o (a := 19) c_28 (by decide)
                                                  have n20 := sw_o (a := 20) c_29 (by decide)
                                                  have n21 := sw_o (a := 21) c_31 (by decide)
                                                  have n22 := sw_o (a := 22) c_33 (by decide)
                                                  omega
                                                refine lv_tableOut (tgt := 178) hx hb dX6_count_1 ho (by decide) ?_
                                                refine lv_ldc hx hb hown (hts (.constant RX6 103 (-1000001)) (by decide +kernel)) dX6_count_178 ?_
                                                exact W.iret (v := (-1000001)) hx hb hr (fun t ht hW => ⟨⟨(-1000001), (), rfl, h, by rw [ht]; exact hP, hD⟩, hS.F ht⟩) hS.2.2 dX6_count_180
def q_X6_undo (M : St) (Q : Int32 → St → Prop) : Prop :=
  ((M 4 0) = 0 → Q (-1000002) M) ∧ (¬ ((M 4 0) = 0) → ∃ (I_3 : Nat → Int32 → St → Prop) (n_7 : Nat), I_3 n_7 0 (uA M 4 (fun _ => ((M 4 0) - 1))) ∧ ∀ (n_2 : Nat) (x1_4 : Int32) (D_5 : St), I_3 n_2 x1_4 D_5 → ((86 ≤ x1_4 → Q (D_5 4 0) D_5) ∧ (¬ (86 ≤ x1_4) → vp_in ((86 * (D_5 4 0)) + x1_4) 344 ∧ (vp_in x1_4 86 ∧ (∃ n_14, n_14 < n_2 ∧ I_3 n_14 (x1_4 + 1) (uA D_5 0 (upd (D_5 0) ((x1_4).toNatClampNeg) ((D_5 1) ((((86 * (D_5 4 0)) + x1_4)).toNatClampNeg)))))))))
set_option maxHeartbeats 4000000 in
set_option maxRecDepth 100000 in
theorem c_X6_undo (l : Launch) (G : va_G) (cI cC cD : ClassId) (q : Nat → Nat) (sz : Nat) (M : St)  (Q : Int32 → St → Prop) (h : q_X6_undo  M Q) : Met l yX6_undo wsX6_undo ({ frames := 0, cells := 0, slots := 0, locals := 0 }) (va_Pc [.ref (q 0)] (PW G (ty3 cI cC cD) (wM cI q M) sz)) (va_Qi Q (BW G (fun u : St => (wM cI q u)) (va_A (wM cI q M) sz)) (va_A (wM cI q M) sz)) 0 0 (va_A (wM cI q M) sz) := by
  refine Met.ofW (cc := cX6_undo) (maxL := 2) (ret := (some .int)) (by decide) rfl ?_
  intro p e s m args below meth c s₁ B hml hv
  obtain ⟨rfl, hsz, hP, hK, hD0, hN⟩ := hv
  have hx := B.exec
  have hb := B.bytes
  have hr := B.returns
  have hts := atoms_spec (ws := wsX6_undo) B.pre
  have hown : s.vm.findClass RX6 = some m.cls := findClass_of_methodNamed B.named
  have hlocks := B.notSynchronized
  subst hsz
  have hD := hD0.self (sz := s.heap.size)
  generalize hAe : va_A (wM cI q M) s.heap.size = A at hD ⊢
  have hA : ∀ q : Nat, s.heap.size ≤ q → A q := fun q h => by rw [← hAe]; exact Or.inr h
  have hS : va_S A s.heap s.heap [] := va_S.rf
  have hl := lv_entry ([.ref (q 0)]) (n := 2) (Nat.le_of_ble_eq_true rfl)
  rw [lg_entry_eq]
  generalize (lg_sl ([.ref (q 0)]) ++ List.replicate (2 - (lg_sl ([.ref (q 0)])).length) Slot.unset).toArray = ls at hl ⊢
  have hl : lv_has ls 2 [(0, .ref (q 0))] := hl
  have hinX6 : ∀ w ∈ wsX60, w ∈ wsX6_undo := by decide +kernel
  have hL7 := hts (.fieldLink RX6 7 "CraneGatesModel" "s" "[I") (by decide +kernel)
  have hL13 := hts (.fieldLink RX6 13 "CraneGatesModel" "past" "[I") (by decide +kernel)
  have hL32 := hts (.fieldLink RX6 32 "CraneGatesModel" "pasts" "I") (by decide +kernel)
  unfold q_X6_undo at h
  refine lv_aload_n hx hb dX6_undo_0 rfl (lv_at hl 0 rfl) ?_
  refine va_get (D := G) (ci := 6) (v := .int (M 4 0)) (C := RX6) (T := TX6) (N := 11) hx hb hts hinX6 hown hK hP 0 rfl rfl 4 (by decide) hL32 (fun _ h9 => h9) rfl dX6_undo_1 ?_
  refine lv_if_ne (tgt := 10) hx hb dX6_undo_4 (by decide) (fun c_1 => ?_) (fun c_1 => ?_)
  · have h := h.2 c_1
    refine lv_aload_n hx hb dX6_undo_10 rfl (lv_at hl 0 rfl) ?_
    refine lv_dup hx hb dX6_undo_11 rfl ?_
    refine va_get (D := G) (ci := 6) (v := .int (M 4 0)) (C := RX6) (T := TX6) (N := 11) hx hb hts hinX6 hown hK hP 0 rfl rfl 4 (by decide) hL32 (fun _ h9 => h9) rfl dX6_undo_12 ?_
    refine lv_iconst (v := 1) hx hb dX6_undo_15 (by decide) ?_
    refine lv_isub hx hb dX6_undo_16 ?_
    refine va_put (D := G) (ci := 6) (v := .int ((M 4 0) - 1)) (ty := .int) (C := RX6) (T := TX6) (N := 11) hx hb hts hinX6 tyX6 tyX6_ok nmX6 hown hK hP hD hS 0 rfl rfl 4 (by decide) hL32 (fun _ h9 => h9) rfl (by decide +kernel) rfl rfl (Nat.le_of_ble_eq_true rfl) dX6_undo_17 (fun H locs hP hD hS => ?_)
    have hP : va_P G vwCl (wM cI q (uA M 4 (fun _ => ((M 4 0) - 1)))) H := hP
    have hD : va_D A (wM cI q (uA M 4 (fun _ => ((M 4 0) - 1)))) := hD
    refine lv_iconst (v := 0) hx hb dX6_undo_20 (by decide) ?_
    refine lv_istore_n (lv' := [(1, .int 0), (0, .ref (q 0))]) hx hb dX6_undo_21 rfl hl (by decide) rfl (fun ls hl => ?_)
    obtain ⟨I_3, n_7, h_8, hI_9⟩ := h
    have lp_10 : ∀ (n_2 : Nat) (x1_4 : Int32) (D_5 : St), I_3 n_2 x1_4 D_5 → ∀ (H : Heap) (locs : List Loc) (ls : Array Slot), va_P G vwCl (wM cI q D_5) H → va_D A (wM cI q D_5) → va_S A s.heap H locs → lv_has ls 2 [(1, .int x1_4), (0, .ref (q 0))] → W p l e (headSpec wsX6_undo ({ frames := 0, cells := 0, slots := 0, locals := 0 })).room s m ([.ref (q 0)] : List Value).toArray below meth c H locs 0 0 (MQ below (va_Qi Q (BW G (fun u : St => (wM cI q u)) A) A) ([.ref (q 0)] : List Value).toArray s 0 0 A) (F0 m 22 ls []) := by
      intro n_2
      induction n_2 using Nat.strongRecOn with
      | ind n_2 ih_6 =>
        intro x1_4 D_5 hIn H locs ls hP hD hS hl
        have h := hI_9 n_2 x1_4 D_5 hIn
        refine lv_iload_n hx hb dX6_undo_22 rfl (lv_at hl 0 rfl) ?_
        refine lv_bipush (v := 86) hx hb dX6_undo_23 (by decide) ?_
        refine lv_icmp_ge (tgt := 54) hx hb dX6_undo_25 (by decide) (fun c_11 => ?_) (fun c_11 => ?_)
        · have h := h.1 c_11
          refine lv_aload_n hx hb dX6_undo_54 rfl (lv_at hl 1 rfl) ?_
          refine va_get (D := G) (ci := 6) (v := .int (D_5 4 0)) (C := RX6) (T := TX6) (N := 11) hx hb hts hinX6 hown hK hP 0 rfl rfl 4 (by decide) hL32 (fun _ h9 => h9) rfl dX6_undo_55 ?_
          exact W.iret (v := (D_5 4 0)) hx hb hr (fun t ht hW => ⟨⟨(D_5 4 0), D_5, rfl, h, by rw [ht]; exact hP, hD⟩, hS.F ht⟩) hS.2.2 dX6_undo_58
        · have h := h.2 c_11
          refine lv_aload_n hx hb dX6_undo_28 rfl (lv_at hl 1 rfl) ?_
          refine va_get (D := G) (ci := 6) (v := .ref (q 1)) (C := RX6) (T := TX6) (N := 11) hx hb hts hinX6 hown hK hP 0 rfl rfl 0 (by decide) hL7 (fun _ h9 => h9) rfl dX6_undo_29 ?_
          refine lv_iload_n hx hb dX6_undo_32 rfl (lv_at hl 0 rfl) ?_
          refine lv_aload_n hx hb dX6_undo_33 rfl (lv_at hl 1 rfl) ?_
          refine va_get (D := G) (ci := 6) (v := .ref (q 2)) (C := RX6) (T := TX6) (N := 11) hx hb hts hinX6 hown hK hP 0 rfl rfl 1 (by decide) hL13 (fun _ h9 => h9) rfl dX6_undo_34 ?_
          refine lv_bipush (v := 86) hx hb dX6_undo_37 (by decide) ?_
          refine lv_aload_n hx hb dX6_undo_39 rfl (lv_at hl 1 rfl) ?_
          refine va_get (D := G) (ci := 6) (v := .int (D_5 4 0)) (C := RX6) (T := TX6) (N := 11) hx hb hts hinX6 hown hK hP 0 rfl rfl 4 (by decide) hL32 (fun _ h9 => h9) rfl dX6_undo_40 ?_
          refine lv_imul hx hb dX6_undo_43 ?_
          refine lv_iload_n hx hb dX6_undo_44 rfl (lv_at hl 0 rfl) ?_
          refine lv_iadd hx hb dX6_undo_45 ?_
          obtain ⟨hi_12, h⟩ := h
          refine k_ald (f := (D_5 1)) (j := (((86 * (D_5 4 0)) + x1_4)).toNatClampNeg) (v := ((D_5 1) ((((86 * (D_5 4 0)) + x1_4)).toNatClampNeg))) hx hb hK hP 2 0 rfl rfl hi_12 rfl rfl dX6_undo_46 ?_
          obtain ⟨hi_13, h⟩ := h
          refine k_ast (f := (D_5 0)) (j := (x1_4).toNatClampNeg) (ws' := (wM cI q (uA D_5 0 (upd (D_5 0) ((x1_4).toNatClampNeg) ((D_5 1) ((((86 * (D_5 4 0)) + x1_4)).toNatClampNeg)))))) hx hb hK hP hD hS 1 0 rfl rfl hi_13 rfl dX6_undo_47 rfl (fun H locs hP hD hS => ?_)
          refine lv_iinc (v := x1_4 + 1) (lv' := [(1, .int (x1_4 + 1)), (0, .ref (q 0))]) hx hb dX6_undo_48 hl (k := 0) rfl rfl (by decide) rfl (fun ls hl => ?_)
          refine lv_goto (tgt := 22) hx hb dX6_undo_51 (by decide) ?_
          obtain ⟨n_14, lt_15, h_16⟩ := h
          exact ih_6 n_14 lt_15 _ _ h_16 _ _ _ hP hD hS (lv_sub hl [0, 1] rfl)
    exact lp_10 _ _ _ h_8 _ _ _ hP hD hS hl
  · have h := h.1 c_1
    refine lv_ldc hx hb hown (hts (.constant RX6 112 (-1000002)) (by decide +kernel)) dX6_undo_7 ?_
    exact W.iret (v := (-1000002)) hx hb hr (fun t ht hW => ⟨⟨(-1000002), M, rfl, h, by rw [ht]; exact hP, hD⟩, hS.F ht⟩) hS.2.2 dX6_undo_9
def q_X6_type (x : Int32) (M : St) (Q : Int32 → St → Prop) : Prop :=
  q_X6_in x 32 126 (fun r_1 => (r_1 = 0 → Q (-1000001) M) ∧ (¬ (r_1 = 0) → ((M 7 0) = 60 → Q (-1000003) M) ∧ (¬ ((M 7 0) = 60) → vp_in (M 7 0) 60 ∧ (Q ((M 7 0) + 1) (uA (uA M 6 (upd (M 6) (((M 7 0)).toNatClampNeg) x)) 7 (fun _ => ((M 7 0) + 1)))))))
set_option maxHeartbeats 4000000 in
set_option maxRecDepth 100000 in
theorem c_X6_type (l : Launch) (G : va_G) (cI cC cD : ClassId) (q : Nat → Nat) (sz : Nat) (M : St) (x : Int32) (Q : Int32 → St → Prop) (h : q_X6_type x M Q) : Met l yX6_type wsX6_type ({ frames := 1, cells := 0, slots := 0, locals := 22 }) (va_Pc [.ref (q 0), .int x] (PW G (ty3 cI cC cD) (wM cI q M) sz)) (va_Qi Q (BW G (fun u : St => (wM cI q u)) (va_A (wM cI q M) sz)) (va_A (wM cI q M) sz)) 0 0 (va_A (wM cI q M) sz) := by
  refine Met.ofW (cc := cX6_type) (maxL := 2) (ret := (some .int)) (by decide) rfl ?_
  intro p e s m args below meth c s₁ B hml hv
  obtain ⟨rfl, hsz, hP, hK, hD0, hN⟩ := hv
  have hx := B.exec
  have hb := B.bytes
  have hr := B.returns
  have hts := atoms_spec (ws := wsX6_type) B.pre
  have hown : s.vm.findClass RX6 = some m.cls := findClass_of_methodNamed B.named
  have hlocks := B.notSynchronized
  subst hsz
  have hD := hD0.self (sz := s.heap.size)
  generalize hAe : va_A (wM cI q M) s.heap.size = A at hD ⊢
  have hA : ∀ q : Nat, s.heap.size ≤ q → A q := fun q h => by rw [← hAe]; exact Or.inr h
  have hS : va_S A s.heap s.heap [] := va_S.rf
  have hl := lv_entry ([.ref (q 0), .int x]) (n := 2) (Nat.le_of_ble_eq_true rfl)
  rw [lg_entry_eq]
  generalize (lg_sl ([.ref (q 0), .int x]) ++ List.replicate (2 - (lg_sl ([.ref (q 0), .int x])).length) Slot.unset).toArray = ls at hl ⊢
  have hl : lv_has ls 2 [(0, .ref (q 0)), (1, .int x)] := hl
  have hinX6 : ∀ w ∈ wsX60, w ∈ wsX6_type := by decide +kernel
  have hL22 := hts (.fieldLink RX6 22 "CraneGatesModel" "text" "[I") (by decide +kernel)
  have hL143 := hts (.fieldLink RX6 143 "CraneGatesModel" "typed" "I") (by decide +kernel)
  unfold q_X6_type at h
  refine lv_iload_n hx hb dX6_type_0 rfl (lv_at hl 1 rfl) ?_
  refine lv_bipush (v := 32) hx hb dX6_type_1 (by decide) ?_
  refine lv_bipush (v := 126) hx hb dX6_type_3 (by decide) ?_
  refine ks_i (As := [.int x, .int 32, .int 126]) (rest := []) (wg := (fun _ => (wM cI q M))) ⟨hx, hb, hml, hown, hts⟩ (c_X6_in l G cI cC cD  _  x 32 126 _ h) (va_cwS 3 hts gX6_type_X6_in rfl rfl rfl (by decide +kernel) ⟨Nat.le_of_ble_eq_true rfl, Nat.le_of_ble_eq_true rfl⟩) hK hN hP hD hS hA (em_0 _) (fun _ => rp_self (em_0 _)) rfl hl.1 rfl (Nat.le_of_ble_eq_true rfl) dX6_type_5 ⟨Nat.zero_le _, Nat.zero_le _⟩ (fun r_1 _ H locs h hP hD hS => ?_)
  refine lv_if_ne (tgt := 14) hx hb dX6_type_8 (by decide) (fun c_2 => ?_) (fun c_2 => ?_)
  · have h := h.2 c_2
    refine lv_aload_n hx hb dX6_type_14 rfl (lv_at hl 0 rfl) ?_
    refine va_get (D := G) (ci := 6) (v := .int (M 7 0)) (C := RX6) (T := TX6) (N := 11) hx hb hts hinX6 hown hK hP 0 rfl rfl 7 (by decide) hL143 (fun _ h9 => h9) rfl dX6_type_15 ?_
    refine lv_bipush (v := 60) hx hb dX6_type_18 (by decide) ?_
    refine lv_icmp_ne (tgt := 26) hx hb dX6_type_20 (by decide) (fun c_3 => ?_) (fun c_3 => ?_)
    · have h := h.2 c_3
      refine lv_aload_n hx hb dX6_type_26 rfl (lv_at hl 0 rfl) ?_
      refine va_get (D := G) (ci := 6) (v := .ref (q 5)) (C := RX6) (T := TX6) (N := 11) hx hb hts hinX6 hown hK hP 0 rfl rfl 6 (by decide) hL22 (fun _ h9 => h9) rfl dX6_type_27 ?_
      refine lv_aload_n hx hb dX6_type_30 rfl (lv_at hl 0 rfl) ?_
      refine va_get (D := G) (ci := 6) (v := .int (M 7 0)) (C := RX6) (T := TX6) (N := 11) hx hb hts hinX6 hown hK hP 0 rfl rfl 7 (by decide) hL143 (fun _ h9 => h9) rfl dX6_type_31 ?_
      refine lv_iload_n hx hb dX6_type_34 rfl (lv_at hl 1 rfl) ?_
      obtain ⟨hi_4, h⟩ := h
      refine k_ast (f := (M 6)) (j := ((M 7 0)).toNatClampNeg) (ws' := (wM cI q (uA M 6 (upd (M 6) (((M 7 0)).toNatClampNeg) x)))) hx hb hK hP hD hS 5 0 rfl rfl hi_4 rfl dX6_type_35 rfl (fun H locs hP hD hS => ?_)
      refine lv_aload_n hx hb dX6_type_36 rfl (lv_at hl 0 rfl) ?_
      refine lv_dup hx hb dX6_type_37 rfl ?_
      refine va_get (D := G) (ci := 6) (v := .int (M 7 0)) (C := RX6) (T := TX6) (N := 11) hx hb hts hinX6 hown hK hP 0 rfl rfl 7 (by decide) hL143 (fun _ h9 => h9) rfl dX6_type_38 ?_
      refine lv_iconst (v := 1) hx hb dX6_type_41 (by decide) ?_
      refine lv_iadd hx hb dX6_type_42 ?_
      refine va_put (D := G) (ci := 6) (v := .int ((M 7 0) + 1)) (ty := .int) (C := RX6) (T := TX6) (N := 11) hx hb hts hinX6 tyX6 tyX6_ok nmX6 hown hK hP hD hS 0 rfl rfl 7 (by decide) hL143 (fun _ h9 => h9) rfl (by decide +kernel) rfl rfl (Nat.le_of_ble_eq_true rfl) dX6_type_43 (fun H locs hP hD hS => ?_)
      have hP : va_P G vwCl (wM cI q (uA (uA M 6 (upd (M 6) (((M 7 0)).toNatClampNeg) x)) 7 (fun _ => ((M 7 0) + 1)))) H := hP
      have hD : va_D A (wM cI q (uA (uA M 6 (upd (M 6) (((M 7 0)).toNatClampNeg) x)) 7 (fun _ => ((M 7 0) + 1)))) := hD
      refine lv_aload_n hx hb dX6_type_46 rfl (lv_at hl 0 rfl) ?_
      refine va_get (D := G) (ci := 6) (v := .int ((M 7 0) + 1)) (C := RX6) (T := TX6) (N := 11) hx hb hts hinX6 hown hK hP 0 rfl rfl 7 (by decide) hL143 (fun _ h9 => h9) rfl dX6_type_47 ?_
      exact W.iret (v := ((M 7 0) + 1)) hx hb hr (fun t ht hW => ⟨⟨((M 7 0) + 1), (uA (uA M 6 (upd (M 6) (((M 7 0)).toNatClampNeg) x)) 7 (fun _ => ((M 7 0) + 1))), rfl, h, by rw [ht]; exact hP, hD⟩, hS.F ht⟩) hS.2.2 dX6_type_50
    · have h := h.1 c_3
      refine lv_ldc hx hb hown (hts (.constant RX6 104 (-1000003)) (by decide +kernel)) dX6_type_23 ?_
      exact W.iret (v := (-1000003)) hx hb hr (fun t ht hW => ⟨⟨(-1000003), M, rfl, h, by rw [ht]; exact hP, hD⟩, hS.F ht⟩) hS.2.2 dX6_type_25
  · have h := h.1 c_2
    refine lv_ldc hx hb hown (hts (.constant RX6 103 (-1000001)) (by decide +kernel)) dX6_type_11 ?_
    exact W.iret (v := (-1000001)) hx hb hr (fun t ht hW => ⟨⟨(-1000001), M, rfl, h, by rw [ht]; exact hP, hD⟩, hS.F ht⟩) hS.2.2 dX6_type_13
def q_X6_clearText (M : St) (Q : Int32 → St → Prop) : Prop :=
  Q (M 7 0) (uA M 7 (fun _ => 0))
set_option maxHeartbeats 4000000 in
set_option maxRecDepth 100000 in
theorem c_X6_clearText (l : Launch) (G : va_G) (cI cC cD : ClassId) (q : Nat → Nat) (sz : Nat) (M : St)  (Q : Int32 → St → Prop) (h : q_X6_clearText  M Q) : Met l yX6_clearText wsX6_clearText ({ frames := 0, cells := 0, slots := 0, locals := 0 }) (va_Pc [.ref (q 0)] (PW G (ty3 cI cC cD) (wM cI q M) sz)) (va_Qi Q (BW G (fun u : St => (wM cI q u)) (va_A (wM cI q M) sz)) (va_A (wM cI q M) sz)) 0 0 (va_A (wM cI q M) sz) := by
  refine Met.ofW (cc := cX6_clearText) (maxL := 2) (ret := (some .int)) (by decide) rfl ?_
  intro p e s m args below meth c s₁ B hml hv
  obtain ⟨rfl, hsz, hP, hK, hD0, hN⟩ := hv
  have hx := B.exec
  have hb := B.bytes
  have hr := B.returns
  have hts := atoms_spec (ws := wsX6_clearText) B.pre
  have hown : s.vm.findClass RX6 = some m.cls := findClass_of_methodNamed B.named
  have hlocks := B.notSynchronized
  subst hsz
  have hD := hD0.self (sz := s.heap.size)
  generalize hAe : va_A (wM cI q M) s.heap.size = A at hD ⊢
  have hA : ∀ q : Nat, s.heap.size ≤ q → A q := fun q h => by rw [← hAe]; exact Or.inr h
  have hS : va_S A s.heap s.heap [] := va_S.rf
  have hl := lv_entry ([.ref (q 0)]) (n := 2) (Nat.le_of_ble_eq_true rfl)
  rw [lg_entry_eq]
  generalize (lg_sl ([.ref (q 0)]) ++ List.replicate (2 - (lg_sl ([.ref (q 0)])).length) Slot.unset).toArray = ls at hl ⊢
  have hl : lv_has ls 2 [(0, .ref (q 0))] := hl
  have hinX6 : ∀ w ∈ wsX60, w ∈ wsX6_clearText := by decide +kernel
  have hL143 := hts (.fieldLink RX6 143 "CraneGatesModel" "typed" "I") (by decide +kernel)
  unfold q_X6_clearText at h
  refine lv_aload_n hx hb dX6_clearText_0 rfl (lv_at hl 0 rfl) ?_
  refine va_get (D := G) (ci := 6) (v := .int (M 7 0)) (C := RX6) (T := TX6) (N := 11) hx hb hts hinX6 hown hK hP 0 rfl rfl 7 (by decide) hL143 (fun _ h9 => h9) rfl dX6_clearText_1 ?_
  refine lv_istore_n (lv' := [(1, .int (M 7 0)), (0, .ref (q 0))]) hx hb dX6_clearText_4 rfl hl (by decide) rfl (fun ls hl => ?_)
  refine lv_aload_n hx hb dX6_clearText_5 rfl (lv_at hl 1 rfl) ?_
  refine lv_iconst (v := 0) hx hb dX6_clearText_6 (by decide) ?_
  refine va_put (D := G) (ci := 6) (v := .int 0) (ty := .int) (C := RX6) (T := TX6) (N := 11) hx hb hts hinX6 tyX6 tyX6_ok nmX6 hown hK hP hD hS 0 rfl rfl 7 (by decide) hL143 (fun _ h9 => h9) rfl (by decide +kernel) rfl rfl (Nat.le_of_ble_eq_true rfl) dX6_clearText_7 (fun H locs hP hD hS => ?_)
  have hP : va_P G vwCl (wM cI q (uA M 7 (fun _ => 0))) H := hP
  have hD : va_D A (wM cI q (uA M 7 (fun _ => 0))) := hD
  refine lv_iload_n hx hb dX6_clearText_10 rfl (lv_at hl 0 rfl) ?_
  exact W.iret (v := (M 7 0)) hx hb hr (fun t ht hW => ⟨⟨(M 7 0), (uA M 7 (fun _ => 0)), rfl, h, by rw [ht]; exact hP, hD⟩, hS.F ht⟩) hS.2.2 dX6_clearText_11
def q_X6_isAt (x : Int32) (y : Int32) (M : St) (Q : Int32 → Prop) : Prop :=
  ((M 7 0) ≤ (M 8 0) → Q 0) ∧ (¬ ((M 7 0) ≤ (M 8 0)) → vp_in (M 8 0) 60 ∧ (q_X6_in ((M 6) (((M 8 0)).toNatClampNeg)) x y (fun r_3 => (r_3 = 0 → Q 0) ∧ (¬ (r_3 = 0) → Q 1))))
set_option maxHeartbeats 4000000 in
set_option maxRecDepth 100000 in
theorem c_X6_isAt (l : Launch) (G : va_G) (cI cC cD : ClassId) (q : Nat → Nat) (sz : Nat) (M : St) (x : Int32) (y : Int32) (Q : Int32 → Prop) (h : q_X6_isAt x y M Q) : Met l yX6_isAt wsX6_isAt ({ frames := 1, cells := 0, slots := 0, locals := 22 }) (va_Pc [.ref (q 0), .int x, .int y] (PW G (ty3 cI cC cD) (wM cI q M) sz)) (va_Qi (fun (r : Int32) (_ : Unit) => Q r) (BW G (fun _ : Unit => (wM cI q M)) (va_A (wM cI q M) sz)) (va_A (wM cI q M) sz)) 0 0 (va_A (wM cI q M) sz) := by
  refine Met.ofW (cc := cX6_isAt) (maxL := 3) (ret := (some .boolean)) (by decide) rfl ?_
  intro p e s m args below meth c s₁ B hml hv
  obtain ⟨rfl, hsz, hP, hK, hD0, hN⟩ := hv
  have hx := B.exec
  have hb := B.bytes
  have hr := B.returns
  have hts := atoms_spec (ws := wsX6_isAt) B.pre
  have hown : s.vm.findClass RX6 = some m.cls := findClass_of_methodNamed B.named
  have hlocks := B.notSynchronized
  subst hsz
  have hD := hD0.self (sz := s.heap.size)
  generalize hAe : va_A (wM cI q M) s.heap.size = A at hD ⊢
  have hA : ∀ q : Nat, s.heap.size ≤ q → A q := fun q h => by rw [← hAe]; exact Or.inr h
  have hS : va_S A s.heap s.heap [] := va_S.rf
  have hl := lv_entry ([.ref (q 0), .int x, .int y]) (n := 3) (Nat.le_of_ble_eq_true rfl)
  rw [lg_entry_eq]
  generalize (lg_sl ([.ref (q 0), .int x, .int y]) ++ List.replicate (3 - (lg_sl ([.ref (q 0), .int x, .int y])).length) Slot.unset).toArray = ls at hl ⊢
  have hl : lv_has ls 3 [(0, .ref (q 0)), (1, .int x), (2, .int y)] := hl
  have hinX6 : ∀ w ∈ wsX60, w ∈ wsX6_isAt := by decide +kernel
  have hL22 := hts (.fieldLink RX6 22 "CraneGatesModel" "text" "[I") (by decide +kernel)
  have hL143 := hts (.fieldLink RX6 143 "CraneGatesModel" "typed" "I") (by decide +kernel)
  have hL146 := hts (.fieldLink RX6 146 "CraneGatesModel" "spot" "I") (by decide +kernel)
  unfold q_X6_isAt at h
  refine lv_aload_n hx hb dX6_isAt_0 rfl (lv_at hl 0 rfl) ?_
  refine va_get (D := G) (ci := 6) (v := .int (M 8 0)) (C := RX6) (T := TX6) (N := 11) hx hb hts hinX6 hown hK hP 0 rfl rfl 8 (by decide) hL146 (fun _ h9 => h9) rfl dX6_isAt_1 ?_
  refine lv_aload_n hx hb dX6_isAt_4 rfl (lv_at hl 0 rfl) ?_
  refine va_get (D := G) (ci := 6) (v := .int (M 7 0)) (C := RX6) (T := TX6) (N := 11) hx hb hts hinX6 hown hK hP 0 rfl rfl 7 (by decide) hL143 (fun _ h9 => h9) rfl dX6_isAt_5 ?_
  refine lv_icmp_ge (tgt := 32) hx hb dX6_isAt_8 (by decide) (fun c_1 => ?_) (fun c_1 => ?_)
  · have h := h.1 c_1
    refine lv_iconst (v := 0) hx hb dX6_isAt_32 (by decide) ?_
    exact W.zret (v := 0) hx hb hr rfl (fun t ht hW => ⟨⟨0, (), rfl, h, by rw [ht]; exact hP, hD⟩, hS.F ht⟩) hS.2.2 dX6_isAt_33
  · have h := h.2 c_1
    refine lv_aload_n hx hb dX6_isAt_11 rfl (lv_at hl 0 rfl) ?_
    refine va_get (D := G) (ci := 6) (v := .ref (q 5)) (C := RX6) (T := TX6) (N := 11) hx hb hts hinX6 hown hK hP 0 rfl rfl 6 (by decide) hL22 (fun _ h9 => h9) rfl dX6_isAt_12 ?_
    refine lv_aload_n hx hb dX6_isAt_15 rfl (lv_at hl 0 rfl) ?_
    refine va_get (D := G) (ci := 6) (v := .int (M 8 0)) (C := RX6) (T := TX6) (N := 11) hx hb hts hinX6 hown hK hP 0 rfl rfl 8 (by decide) hL146 (fun _ h9 => h9) rfl dX6_isAt_16 ?_
    obtain ⟨hi_2, h⟩ := h
    refine k_ald (f := (M 6)) (j := ((M 8 0)).toNatClampNeg) (v := ((M 6) (((M 8 0)).toNatClampNeg))) hx hb hK hP 5 0 rfl rfl hi_2 rfl rfl dX6_isAt_19 ?_
    refine lv_iload_n hx hb dX6_isAt_20 rfl (lv_at hl 1 rfl) ?_
    refine lv_iload_n hx hb dX6_isAt_21 rfl (lv_at hl 2 rfl) ?_
    refine ks_i (As := [.int ((M 6) (((M 8 0)).toNatClampNeg)), .int x, .int y]) (rest := []) (wg := (fun _ => (wM cI q M))) ⟨hx, hb, hml, hown, hts⟩ (c_X6_in l G cI cC cD  _  ((M 6) (((M 8 0)).toNatClampNeg)) x y _ h) (va_cwS 3 hts gX6_isAt_X6_in rfl rfl rfl (by decide +kernel) ⟨Nat.le_of_ble_eq_true rfl, Nat.le_of_ble_eq_true rfl⟩) hK hN hP hD hS hA (em_0 _) (fun _ => rp_self (em_0 _)) rfl hl.1 rfl (Nat.le_of_ble_eq_true rfl) dX6_isAt_22 ⟨Nat.zero_le _, Nat.zero_le _⟩ (fun r_3 _ H locs h hP hD hS => ?_)
    refine lv_if_eq (tgt := 32) hx hb dX6_isAt_25 (by decide) (fun c_4 => ?_) (fun c_4 => ?_)
    · have h := h.1 c_4
      refine lv_iconst (v := 0) hx hb dX6_isAt_32 (by decide) ?_
      exact W.zret (v := 0) hx hb hr rfl (fun t ht hW => ⟨⟨0, (), rfl, h, by rw [ht]; exact hP, hD⟩, hS.F ht⟩) hS.2.2 dX6_isAt_33
    · have h := h.2 c_4
      refine lv_iconst (v := 1) hx hb dX6_isAt_28 (by decide) ?_
      refine lv_goto (tgt := 33) hx hb dX6_isAt_29 (by decide) ?_
      exact W.zret (v := 1) hx hb hr rfl (fun t ht hW => ⟨⟨1, (), rfl, h, by rw [ht]; exact hP, hD⟩, hS.F ht⟩) hS.2.2 dX6_isAt_33
def q_X6_number (x : Int32) (y : Int32) (M : St) (Q : Int32 → St → Prop) : Prop :=
  vp_in x 2 ∧ (∃ (I_3 : Nat → St → Prop) (n_6 : Nat), I_3 n_6 (uA M 10 (upd (M 10) ((x).toNatClampNeg) 0)) ∧ ∀ (n_2 : Nat) (D_4 : St), I_3 n_2 D_4 → (q_X6_isAt 48 57 D_4 (fun r_10 => (r_10 = 0 → ((D_4 8 0) ≤ (M 8 0) → Q 0 (uA D_4 8 (fun _ => ((D_4 8 0) + 1)))) ∧ (¬ ((D_4 8 0) ≤ (M 8 0)) → q_X6_isAt y y D_4 (fun r_13 => (r_13 = 0 → Q 0 (uA D_4 8 (fun _ => ((D_4 8 0) + 1)))) ∧ (¬ (r_13 = 0) → Q 1 (uA D_4 8 (fun _ => ((D_4 8 0) + 1))))))) ∧ (¬ (r_10 = 0) → (3 ≤ ((D_4 8 0) - (M 8 0)) → ((D_4 8 0) ≤ (M 8 0) → Q 0 (uA D_4 8 (fun _ => ((D_4 8 0) + 1)))) ∧ (¬ ((D_4 8 0) ≤ (M 8 0)) → q_X6_isAt y y D_4 (fun r_17 => (r_17 = 0 → Q 0 (uA D_4 8 (fun _ => ((D_4 8 0) + 1)))) ∧ (¬ (r_17 = 0) → Q 1 (uA D_4 8 (fun _ => ((D_4 8 0) + 1))))))) ∧ (¬ (3 ≤ ((D_4 8 0) - (M 8 0))) → vp_in (D_4 8 0) 60 ∧ (∃ n_20, n_20 < n_2 ∧ I_3 n_20 (uA (uA D_4 10 (upd (D_4 10) ((x).toNatClampNeg) (((10 * ((D_4 10) ((x).toNatClampNeg))) + ((D_4 6) (((D_4 8 0)).toNatClampNeg))) - 48))) 8 (fun _ => ((D_4 8 0) + 1)))))))))
set_option maxHeartbeats 4000000 in
set_option maxRecDepth 100000 in
theorem c_X6_number (l : Launch) (G : va_G) (cI cC cD : ClassId) (q : Nat → Nat) (sz : Nat) (M : St) (x : Int32) (y : Int32) (Q : Int32 → St → Prop) (h : q_X6_number x y M Q) : Met l yX6_number wsX6_number ({ frames := 2, cells := 0, slots := 0, locals := 44 }) (va_Pc [.ref (q 0), .int x, .int y] (PW G (ty3 cI cC cD) (wM cI q M) sz)) (va_Qi Q (BW G (fun u : St => (wM cI q u)) (va_A (wM cI q M) sz)) (va_A (wM cI q M) sz)) 0 0 (va_A (wM cI q M) sz) := by
  refine Met.ofW (cc := cX6_number) (maxL := 5) (ret := (some .boolean)) (by decide) rfl ?_
  intro p e s m args below meth c s₁ B hml hv
  obtain ⟨rfl, hsz, hP, hK, hD0, hN⟩ := hv
  have hx := B.exec
  have hb := B.bytes
  have hr := B.returns
  have hts := atoms_spec (ws := wsX6_number) B.pre
  have hown : s.vm.findClass RX6 = some m.cls := findClass_of_methodNamed B.named
  have hlocks := B.notSynchronized
  subst hsz
  have hD := hD0.self (sz := s.heap.size)
  generalize hAe : va_A (wM cI q M) s.heap.size = A at hD ⊢
  have hA : ∀ q : Nat, s.heap.size ≤ q → A q := fun q h => by rw [← hAe]; exact Or.inr h
  have hS : va_S A s.heap s.heap [] := va_S.rf
  have hl := lv_entry ([.ref (q 0), .int x, .int y]) (n := 5) (Nat.le_of_ble_eq_true rfl)
  rw [lg_entry_eq]
  generalize (lg_sl ([.ref (q 0), .int x, .int y]) ++ List.replicate (5 - (lg_sl ([.ref (q 0), .int x, .int y])).length) Slot.unset).toArray = ls at hl ⊢
  have hl : lv_has ls 5 [(0, .ref (q 0)), (1, .int x), (2, .int y)] := hl
  have hinX6 : ∀ w ∈ wsX60, w ∈ wsX6_number := by decide +kernel
  have hL22 := hts (.fieldLink RX6 22 "CraneGatesModel" "text" "[I") (by decide +kernel)
  have hL25 := hts (.fieldLink RX6 25 "CraneGatesModel" "told" "[I") (by decide +kernel)
  have hL146 := hts (.fieldLink RX6 146 "CraneGatesModel" "spot" "I") (by decide +kernel)
  unfold q_X6_number at h
  refine lv_aload_n hx hb dX6_number_0 rfl (lv_at hl 0 rfl) ?_
  refine va_get (D := G) (ci := 6) (v := .int (M 8 0)) (C := RX6) (T := TX6) (N := 11) hx hb hts hinX6 hown hK hP 0 rfl rfl 8 (by decide) hL146 (fun _ h9 => h9) rfl dX6_number_1 ?_
  refine lv_istore_n (lv' := [(3, .int (M 8 0)), (0, .ref (q 0)), (1, .int x), (2, .int y)]) hx hb dX6_number_4 rfl hl (by decide) rfl (fun ls hl => ?_)
  refine lv_aload_n hx hb dX6_number_5 rfl (lv_at hl 1 rfl) ?_
  refine va_get (D := G) (ci := 6) (v := .ref (q 6)) (C := RX6) (T := TX6) (N := 11) hx hb hts hinX6 hown hK hP 0 rfl rfl 10 (by decide) hL25 (fun _ h9 => h9) rfl dX6_number_6 ?_
  refine lv_iload_n hx hb dX6_number_9 rfl (lv_at hl 2 rfl) ?_
  refine lv_iconst (v := 0) hx hb dX6_number_10 (by decide) ?_
  obtain ⟨hi_1, h⟩ := h
  refine k_ast (f := (M 10)) (j := (x).toNatClampNeg) (ws' := (wM cI q (uA M 10 (upd (M 10) ((x).toNatClampNeg) 0)))) hx hb hK hP hD hS 6 0 rfl rfl hi_1 rfl dX6_number_11 rfl (fun H locs hP hD hS => ?_)
  obtain ⟨I_3, n_6, h_7, hI_8⟩ := h
  have lp_9 : ∀ (n_2 : Nat) (D_4 : St), I_3 n_2 D_4 → ∀ (H : Heap) (locs : List Loc) (ls : Array Slot), va_P G vwCl (wM cI q D_4) H → va_D A (wM cI q D_4) → va_S A s.heap H locs → lv_has ls 5 [(3, .int (M 8 0)), (0, .ref (q 0)), (1, .int x), (2, .int y)] → W p l e (headSpec wsX6_number ({ frames := 2, cells := 0, slots := 0, locals := 44 })).room s m ([.ref (q 0), .int x, .int y] : List Value).toArray below meth c H locs 0 0 (MQ below (va_Qi Q (BW G (fun u : St => (wM cI q u)) A) A) ([.ref (q 0), .int x, .int y] : List Value).toArray s 0 0 A) (F0 m 12 ls []) := by
    intro n_2
    induction n_2 using Nat.strongRecOn with
    | ind n_2 ih_5 =>
      intro D_4 hIn H locs ls hP hD hS hl
      have h := hI_8 n_2 D_4 hIn
      refine lv_aload_n hx hb dX6_number_12 rfl (lv_at hl 1 rfl) ?_
      refine lv_bipush (v := 48) hx hb dX6_number_13 (by decide) ?_
      refine lv_bipush (v := 57) hx hb dX6_number_15 (by decide) ?_
      refine kc_i (As := [.int 48, .int 57]) (rest := []) (wg := (fun _ => (wM cI q D_4))) ⟨hx, hb, hml, hown, hts⟩ (c_X6_isAt l G cI cC cD q _ D_4 48 57 _ h) (cwV 2 hts gX6_number_X6_isAt rfl rfl rfl (by decide +kernel) ⟨Nat.le_of_ble_eq_true rfl, Nat.le_of_ble_eq_true rfl⟩) hK hN hP hD hS hA (em_MM cI q D_4) (fun _ => rp_self (em_MM cI q D_4)) rfl rfl rfl rfl hl.1 rfl (Nat.le_of_ble_eq_true rfl) dX6_number_17 ⟨Nat.zero_le _, Nat.zero_le _⟩ (fun r_10 _ H locs h hP hD hS => ?_)
      refine lv_if_eq (tgt := 74) hx hb dX6_number_20 (by decide) (fun c_11 => ?_) (fun c_11 => ?_)
      · have h := h.1 c_11
        refine lv_aload_n hx hb dX6_number_74 rfl (lv_at hl 1 rfl) ?_
        refine va_get (D := G) (ci := 6) (v := .int (D_4 8 0)) (C := RX6) (T := TX6) (N := 11) hx hb hts hinX6 hown hK hP 0 rfl rfl 8 (by decide) hL146 (fun _ h9 => h9) rfl dX6_number_75 ?_
        refine lv_iload_n hx hb dX6_number_78 rfl (lv_at hl 0 rfl) ?_
        refine lv_icmp_le (tgt := 95) hx hb dX6_number_79 (by decide) (fun c_12 => ?_) (fun c_12 => ?_)
        · have h := h.1 c_12
          refine lv_iconst (v := 0) hx hb dX6_number_95 (by decide) ?_
          refine lv_istore (lv' := [(4, .int 0), (3, .int (M 8 0)), (0, .ref (q 0)), (1, .int x), (2, .int y)]) hx hb dX6_number_96 hl (by decide) rfl (fun ls hl => ?_)
          refine lv_aload_n hx hb dX6_number_98 rfl (lv_at hl 2 rfl) ?_
          refine lv_dup hx hb dX6_number_99 rfl ?_
          refine va_get (D := G) (ci := 6) (v := .int (D_4 8 0)) (C := RX6) (T := TX6) (N := 11) hx hb hts hinX6 hown hK hP 0 rfl rfl 8 (by decide) hL146 (fun _ h9 => h9) rfl dX6_number_100 ?_
          refine lv_iconst (v := 1) hx hb dX6_number_103 (by decide) ?_
          refine lv_iadd hx hb dX6_number_104 ?_
          refine va_put (D := G) (ci := 6) (v := .int ((D_4 8 0) + 1)) (ty := .int) (C := RX6) (T := TX6) (N := 11) hx hb hts hinX6 tyX6 tyX6_ok nmX6 hown hK hP hD hS 0 rfl rfl 8 (by decide) hL146 (fun _ h9 => h9) rfl (by decide +kernel) rfl rfl (Nat.le_of_ble_eq_true rfl) dX6_number_105 (fun H locs hP hD hS => ?_)
          have hP : va_P G vwCl (wM cI q (uA D_4 8 (fun _ => ((D_4 8 0) + 1)))) H := hP
          have hD : va_D A (wM cI q (uA D_4 8 (fun _ => ((D_4 8 0) + 1)))) := hD
          refine lv_iload hx hb dX6_number_108 (lv_at hl 0 rfl) ?_
          exact W.zret (v := 0) hx hb hr rfl (fun t ht hW => ⟨⟨0, (uA D_4 8 (fun _ => ((D_4 8 0) + 1))), rfl, h, by rw [ht]; exact hP, hD⟩, hS.F ht⟩) hS.2.2 dX6_number_110
        · have h := h.2 c_12
          refine lv_aload_n hx hb dX6_number_82 rfl (lv_at hl 1 rfl) ?_
          refine lv_iload_n hx hb dX6_number_83 rfl (lv_at hl 3 rfl) ?_
          refine lv_iload_n hx hb dX6_number_84 rfl (lv_at hl 3 rfl) ?_
          refine kc_i (As := [.int y, .int y]) (rest := []) (wg := (fun _ => (wM cI q D_4))) ⟨hx, hb, hml, hown, hts⟩ (c_X6_isAt l G cI cC cD q _ D_4 y y _ h) (cwV 2 hts gX6_number_X6_isAt rfl rfl rfl (by decide +kernel) ⟨Nat.le_of_ble_eq_true rfl, Nat.le_of_ble_eq_true rfl⟩) hK hN hP hD hS hA (em_MM cI q D_4) (fun _ => rp_self (em_MM cI q D_4)) rfl rfl rfl rfl hl.1 rfl (Nat.le_of_ble_eq_true rfl) dX6_number_85 ⟨Nat.zero_le _, Nat.zero_le _⟩ (fun r_13 _ H locs h hP hD hS => ?_)
          refine lv_if_eq (tgt := 95) hx hb dX6_number_88 (by decide) (fun c_14 => ?_) (fun c_14 => ?_)
          · have h := h.1 c_14
            refine lv_iconst (v := 0) hx hb dX6_number_95 (by decide) ?_
            refine lv_istore (lv' := [(4, .int 0), (3, .int (M 8 0)), (0, .ref (q 0)), (1, .int x), (2, .int y)]) hx hb dX6_number_96 hl (by decide) rfl (fun ls hl => ?_)
            refine lv_aload_n hx hb dX6_number_98 rfl (lv_at hl 2 rfl) ?_
            refine lv_dup hx hb dX6_number_99 rfl ?_
            refine va_get (D := G) (ci := 6) (v := .int (D_4 8 0)) (C := RX6) (T := TX6) (N := 11) hx hb hts hinX6 hown hK hP 0 rfl rfl 8 (by decide) hL146 (fun _ h9 => h9) rfl dX6_number_100 ?_
            refine lv_iconst (v := 1) hx hb dX6_number_103 (by decide) ?_
            refine lv_iadd hx hb dX6_number_104 ?_
            refine va_put (D := G) (ci := 6) (v := .int ((D_4 8 0) + 1)) (ty := .int) (C := RX6) (T := TX6) (N := 11) hx hb hts hinX6 tyX6 tyX6_ok nmX6 hown hK hP hD hS 0 rfl rfl 8 (by decide) hL146 (fun _ h9 => h9) rfl (by decide +kernel) rfl rfl (Nat.le_of_ble_eq_true rfl) dX6_number_105 (fun H locs hP hD hS => ?_)
            have hP : va_P G vwCl (wM cI q (uA D_4 8 (fun _ => ((D_4 8 0) + 1)))) H := hP
            have hD : va_D A (wM cI q (uA D_4 8 (fun _ => ((D_4 8 0) + 1)))) := hD
            refine lv_iload hx hb dX6_number_108 (lv_at hl 0 rfl) ?_
            exact W.zret (v := 0) hx hb hr rfl (fun t ht hW => ⟨⟨0, (uA D_4 8 (fun _ => ((D_4 8 0) + 1))), rfl, h, by rw [ht]; exact hP, hD⟩, hS.F ht⟩) hS.2.2 dX6_number_110
          · have h := h.2 c_14
            refine lv_iconst (v := 1) hx hb dX6_number_91 (by decide) ?_
            refine lv_goto (tgt := 96) hx hb dX6_number_92 (by decide) ?_
            refine lv_istore (lv' := [(4, .int 1), (3, .int (M 8 0)), (0, .ref (q 0)), (1, .int x), (2, .int y)]) hx hb dX6_number_96 hl (by decide) rfl (fun ls hl => ?_)
            refine lv_aload_n hx hb dX6_number_98 rfl (lv_at hl 2 rfl) ?_
            refine lv_dup hx hb dX6_number_99 rfl ?_
            refine va_get (D := G) (ci := 6) (v := .int (D_4 8 0)) (C := RX6) (T := TX6) (N := 11) hx hb hts hinX6 hown hK hP 0 rfl rfl 8 (by decide) hL146 (fun _ h9 => h9) rfl dX6_number_100 ?_
            refine lv_iconst (v := 1) hx hb dX6_number_103 (by decide) ?_
            refine lv_iadd hx hb dX6_number_104 ?_
            refine va_put (D := G) (ci := 6) (v := .int ((D_4 8 0) + 1)) (ty := .int) (C := RX6) (T := TX6) (N := 11) hx hb hts hinX6 tyX6 tyX6_ok nmX6 hown hK hP hD hS 0 rfl rfl 8 (by decide) hL146 (fun _ h9 => h9) rfl (by decide +kernel) rfl rfl (Nat.le_of_ble_eq_true rfl) dX6_number_105 (fun H locs hP hD hS => ?_)
            have hP : va_P G vwCl (wM cI q (uA D_4 8 (fun _ => ((D_4 8 0) + 1)))) H := hP
            have hD : va_D A (wM cI q (uA D_4 8 (fun _ => ((D_4 8 0) + 1)))) := hD
            refine lv_iload hx hb dX6_number_108 (lv_at hl 0 rfl) ?_
            exact W.zret (v := 1) hx hb hr rfl (fun t ht hW => ⟨⟨1, (uA D_4 8 (fun _ => ((D_4 8 0) + 1))), rfl, h, by rw [ht]; exact hP, hD⟩, hS.F ht⟩) hS.2.2 dX6_number_110
      · have h := h.2 c_11
        refine lv_aload_n hx hb dX6_number_23 rfl (lv_at hl 1 rfl) ?_
        refine va_get (D := G) (ci := 6) (v := .int (D_4 8 0)) (C := RX6) (T := TX6) (N := 11) hx hb hts hinX6 hown hK hP 0 rfl rfl 8 (by decide) hL146 (fun _ h9 => h9) rfl dX6_number_24 ?_
        refine lv_iload_n hx hb dX6_number_27 rfl (lv_at hl 0 rfl) ?_
        refine lv_isub hx hb dX6_number_28 ?_
        refine lv_iconst (v := 3) hx hb dX6_number_29 (by decide) ?_
        refine lv_icmp_ge (tgt := 74) hx hb dX6_number_30 (by decide) (fun c_15 => ?_) (fun c_15 => ?_)
        · have h := h.1 c_15
          refine lv_aload_n hx hb dX6_number_74 rfl (lv_at hl 1 rfl) ?_
          refine va_get (D := G) (ci := 6) (v := .int (D_4 8 0)) (C := RX6) (T := TX6) (N := 11) hx hb hts hinX6 hown hK hP 0 rfl rfl 8 (by decide) hL146 (fun _ h9 => h9) rfl dX6_number_75 ?_
          refine lv_iload_n hx hb dX6_number_78 rfl (lv_at hl 0 rfl) ?_
          refine lv_icmp_le (tgt := 95) hx hb dX6_number_79 (by decide) (fun c_16 => ?_) (fun c_16 => ?_)
          · have h := h.1 c_16
            refine lv_iconst (v := 0) hx hb dX6_number_95 (by decide) ?_
            refine lv_istore (lv' := [(4, .int 0), (3, .int (M 8 0)), (0, .ref (q 0)), (1, .int x), (2, .int y)]) hx hb dX6_number_96 hl (by decide) rfl (fun ls hl => ?_)
            refine lv_aload_n hx hb dX6_number_98 rfl (lv_at hl 2 rfl) ?_
            refine lv_dup hx hb dX6_number_99 rfl ?_
            refine va_get (D := G) (ci := 6) (v := .int (D_4 8 0)) (C := RX6) (T := TX6) (N := 11) hx hb hts hinX6 hown hK hP 0 rfl rfl 8 (by decide) hL146 (fun _ h9 => h9) rfl dX6_number_100 ?_
            refine lv_iconst (v := 1) hx hb dX6_number_103 (by decide) ?_
            refine lv_iadd hx hb dX6_number_104 ?_
            refine va_put (D := G) (ci := 6) (v := .int ((D_4 8 0) + 1)) (ty := .int) (C := RX6) (T := TX6) (N := 11) hx hb hts hinX6 tyX6 tyX6_ok nmX6 hown hK hP hD hS 0 rfl rfl 8 (by decide) hL146 (fun _ h9 => h9) rfl (by decide +kernel) rfl rfl (Nat.le_of_ble_eq_true rfl) dX6_number_105 (fun H locs hP hD hS => ?_)
            have hP : va_P G vwCl (wM cI q (uA D_4 8 (fun _ => ((D_4 8 0) + 1)))) H := hP
            have hD : va_D A (wM cI q (uA D_4 8 (fun _ => ((D_4 8 0) + 1)))) := hD
            refine lv_iload hx hb dX6_number_108 (lv_at hl 0 rfl) ?_
            exact W.zret (v := 0) hx hb hr rfl (fun t ht hW => ⟨⟨0, (uA D_4 8 (fun _ => ((D_4 8 0) + 1))), rfl, h, by rw [ht]; exact hP, hD⟩, hS.F ht⟩) hS.2.2 dX6_number_110
          · have h := h.2 c_16
            refine lv_aload_n hx hb dX6_number_82 rfl (lv_at hl 1 rfl) ?_
            refine lv_iload_n hx hb dX6_number_83 rfl (lv_at hl 3 rfl) ?_
            refine lv_iload_n hx hb dX6_number_84 rfl (lv_at hl 3 rfl) ?_
            refine kc_i (As := [.int y, .int y]) (rest := []) (wg := (fun _ => (wM cI q D_4))) ⟨hx, hb, hml, hown, hts⟩ (c_X6_isAt l G cI cC cD q _ D_4 y y _ h) (cwV 2 hts gX6_number_X6_isAt rfl rfl rfl (by decide +kernel) ⟨Nat.le_of_ble_eq_true rfl, Nat.le_of_ble_eq_true rfl⟩) hK hN hP hD hS hA (em_MM cI q D_4) (fun _ => rp_self (em_MM cI q D_4)) rfl rfl rfl rfl hl.1 rfl (Nat.le_of_ble_eq_true rfl) dX6_number_85 ⟨Nat.zero_le _, Nat.zero_le _⟩ (fun r_17 _ H locs h hP hD hS => ?_)
            refine lv_if_eq (tgt := 95) hx hb dX6_number_88 (by decide) (fun c_18 => ?_) (fun c_18 => ?_)
            · have h := h.1 c_18
              refine lv_iconst (v := 0) hx hb dX6_number_95 (by decide) ?_
              refine lv_istore (lv' := [(4, .int 0), (3, .int (M 8 0)), (0, .ref (q 0)), (1, .int x), (2, .int y)]) hx hb dX6_number_96 hl (by decide) rfl (fun ls hl => ?_)
              refine lv_aload_n hx hb dX6_number_98 rfl (lv_at hl 2 rfl) ?_
              refine lv_dup hx hb dX6_number_99 rfl ?_
              refine va_get (D := G) (ci := 6) (v := .int (D_4 8 0)) (C := RX6) (T := TX6) (N := 11) hx hb hts hinX6 hown hK hP 0 rfl rfl 8 (by decide) hL146 (fun _ h9 => h9) rfl dX6_number_100 ?_
              refine lv_iconst (v := 1) hx hb dX6_number_103 (by decide) ?_
              refine lv_iadd hx hb dX6_number_104 ?_
              refine va_put (D := G) (ci := 6) (v := .int ((D_4 8 0) + 1)) (ty := .int) (C := RX6) (T := TX6) (N := 11) hx hb hts hinX6 tyX6 tyX6_ok nmX6 hown hK hP hD hS 0 rfl rfl 8 (by decide) hL146 (fun _ h9 => h9) rfl (by decide +kernel) rfl rfl (Nat.le_of_ble_eq_true rfl) dX6_number_105 (fun H locs hP hD hS => ?_)
              have hP : va_P G vwCl (wM cI q (uA D_4 8 (fun _ => ((D_4 8 0) + 1)))) H := hP
              have hD : va_D A (wM cI q (uA D_4 8 (fun _ => ((D_4 8 0) + 1)))) := hD
              refine lv_iload hx hb dX6_number_108 (lv_at hl 0 rfl) ?_
              exact W.zret (v := 0) hx hb hr rfl (fun t ht hW => ⟨⟨0, (uA D_4 8 (fun _ => ((D_4 8 0) + 1))), rfl, h, by rw [ht]; exact hP, hD⟩, hS.F ht⟩) hS.2.2 dX6_number_110
            · have h := h.2 c_18
              refine lv_iconst (v := 1) hx hb dX6_number_91 (by decide) ?_
              refine lv_goto (tgt := 96) hx hb dX6_number_92 (by decide) ?_
              refine lv_istore (lv' := [(4, .int 1), (3, .int (M 8 0)), (0, .ref (q 0)), (1, .int x), (2, .int y)]) hx hb dX6_number_96 hl (by decide) rfl (fun ls hl => ?_)
              refine lv_aload_n hx hb dX6_number_98 rfl (lv_at hl 2 rfl) ?_
              refine lv_dup hx hb dX6_number_99 rfl ?_
              refine va_get (D := G) (ci := 6) (v := .int (D_4 8 0)) (C := RX6) (T := TX6) (N := 11) hx hb hts hinX6 hown hK hP 0 rfl rfl 8 (by decide) hL146 (fun _ h9 => h9) rfl dX6_number_100 ?_
              refine lv_iconst (v := 1) hx hb dX6_number_103 (by decide) ?_
              refine lv_iadd hx hb dX6_number_104 ?_
              refine va_put (D := G) (ci := 6) (v := .int ((D_4 8 0) + 1)) (ty := .int) (C := RX6) (T := TX6) (N := 11) hx hb hts hinX6 tyX6 tyX6_ok nmX6 hown hK hP hD hS 0 rfl rfl 8 (by decide) hL146 (fun _ h9 => h9) rfl (by decide +kernel) rfl rfl (Nat.le_of_ble_eq_true rfl) dX6_number_105 (fun H locs hP hD hS => ?_)
              have hP : va_P G vwCl (wM cI q (uA D_4 8 (fun _ => ((D_4 8 0) + 1)))) H := hP
              have hD : va_D A (wM cI q (uA D_4 8 (fun _ => ((D_4 8 0) + 1)))) := hD
              refine lv_iload hx hb dX6_number_108 (lv_at hl 0 rfl) ?_
              exact W.zret (v := 1) hx hb hr rfl (fun t ht hW => ⟨⟨1, (uA D_4 8 (fun _ => ((D_4 8 0) + 1))), rfl, h, by rw [ht]; exact hP, hD⟩, hS.F ht⟩) hS.2.2 dX6_number_110
        · have h := h.2 c_15
          refine lv_aload_n hx hb dX6_number_33 rfl (lv_at hl 1 rfl) ?_
          refine va_get (D := G) (ci := 6) (v := .ref (q 6)) (C := RX6) (T := TX6) (N := 11) hx hb hts hinX6 hown hK hP 0 rfl rfl 10 (by decide) hL25 (fun _ h9 => h9) rfl dX6_number_34 ?_
          refine lv_iload_n hx hb dX6_number_37 rfl (lv_at hl 2 rfl) ?_
          refine lv_bipush (v := 10) hx hb dX6_number_38 (by decide) ?_
          refine lv_aload_n hx hb dX6_number_40 rfl (lv_at hl 1 rfl) ?_
          refine va_get (D := G) (ci := 6) (v := .ref (q 6)) (C := RX6) (T := TX6) (N := 11) hx hb hts hinX6 hown hK hP 0 rfl rfl 10 (by decide) hL25 (fun _ h9 => h9) rfl dX6_number_41 ?_
          refine lv_iload_n hx hb dX6_number_44 rfl (lv_at hl 2 rfl) ?_
          refine k_ald (f := (D_4 10)) (j := (x).toNatClampNeg) (v := ((D_4 10) ((x).toNatClampNeg))) hx hb hK hP 6 0 rfl rfl hi_1 rfl rfl dX6_number_45 ?_
          refine lv_imul hx hb dX6_number_46 ?_
          refine lv_aload_n hx hb dX6_number_47 rfl (lv_at hl 1 rfl) ?_
          refine va_get (D := G) (ci := 6) (v := .ref (q 5)) (C := RX6) (T := TX6) (N := 11) hx hb hts hinX6 hown hK hP 0 rfl rfl 6 (by decide) hL22 (fun _ h9 => h9) rfl dX6_number_48 ?_
          refine lv_aload_n hx hb dX6_number_51 rfl (lv_at hl 1 rfl) ?_
          refine va_get (D := G) (ci := 6) (v := .int (D_4 8 0)) (C := RX6) (T := TX6) (N := 11) hx hb hts hinX6 hown hK hP 0 rfl rfl 8 (by decide) hL146 (fun _ h9 => h9) rfl dX6_number_52 ?_
          obtain ⟨hi_19, h⟩ := h
          refine k_ald (f := (D_4 6)) (j := ((D_4 8 0)).toNatClampNeg) (v := ((D_4 6) (((D_4 8 0)).toNatClampNeg))) hx hb hK hP 5 0 rfl rfl hi_19 rfl rfl dX6_number_55 ?_
          refine lv_iadd hx hb dX6_number_56 ?_
          refine lv_bipush (v := 48) hx hb dX6_number_57 (by decide) ?_
          refine lv_isub hx hb dX6_number_59 ?_
          refine k_ast (f := (D_4 10)) (j := (x).toNatClampNeg) (ws' := (wM cI q (uA D_4 10 (upd (D_4 10) ((x).toNatClampNeg) (((10 * ((D_4 10) ((x).toNatClampNeg))) + ((D_4 6) (((D_4 8 0)).toNatClampNeg))) - 48))))) hx hb hK hP hD hS 6 0 rfl rfl hi_1 rfl dX6_number_60 rfl (fun H locs hP hD hS => ?_)
          refine lv_aload_n hx hb dX6_number_61 rfl (lv_at hl 1 rfl) ?_
          refine lv_dup hx hb dX6_number_62 rfl ?_
          refine va_get (D := G) (ci := 6) (v := .int (D_4 8 0)) (C := RX6) (T := TX6) (N := 11) hx hb hts hinX6 hown hK hP 0 rfl rfl 8 (by decide) hL146 (fun _ h9 => h9) rfl dX6_number_63 ?_
          refine lv_iconst (v := 1) hx hb dX6_number_66 (by decide) ?_
          refine lv_iadd hx hb dX6_number_67 ?_
          refine va_put (D := G) (ci := 6) (v := .int ((D_4 8 0) + 1)) (ty := .int) (C := RX6) (T := TX6) (N := 11) hx hb hts hinX6 tyX6 tyX6_ok nmX6 hown hK hP hD hS 0 rfl rfl 8 (by decide) hL146 (fun _ h9 => h9) rfl (by decide +kernel) rfl rfl (Nat.le_of_ble_eq_true rfl) dX6_number_68 (fun H locs hP hD hS => ?_)
          have hP : va_P G vwCl (wM cI q (uA (uA D_4 10 (upd (D_4 10) ((x).toNatClampNeg) (((10 * ((D_4 10) ((x).toNatClampNeg))) + ((D_4 6) (((D_4 8 0)).toNatClampNeg))) - 48))) 8 (fun _ => ((D_4 8 0) + 1)))) H := hP
          have hD : va_D A (wM cI q (uA (uA D_4 10 (upd (D_4 10) ((x).toNatClampNeg) (((10 * ((D_4 10) ((x).toNatClampNeg))) + ((D_4 6) (((D_4 8 0)).toNatClampNeg))) - 48))) 8 (fun _ => ((D_4 8 0) + 1)))) := hD
          refine lv_goto (tgt := 12) hx hb dX6_number_71 (by decide) ?_
          obtain ⟨n_20, lt_21, h_22⟩ := h
          exact ih_5 n_20 lt_21 _ h_22 _ _ _ hP hD hS (lv_sub hl [0, 1, 2, 3] rfl)
  exact lp_9 _ _ h_7 _ _ _ hP hD hS hl
def q_X6_asReason (x : Int32) (Q : Int32 → Prop) : Prop :=
  (x < 0 → (x = (-1000001) → Q 2) ∧ (¬ (x = (-1000001)) → Q 3)) ∧ (¬ (x < 0) → Q 0)
set_option maxHeartbeats 4000000 in
set_option maxRecDepth 100000 in
theorem c_X6_asReason (l : Launch) (G : va_G) (cI cC cD : ClassId)  (sz : Nat)  (x : Int32) (Q : Int32 → Prop) (h : q_X6_asReason x  Q) : Met l yX6_asReason wsX6_asReason ({ frames := 0, cells := 0, slots := 0, locals := 0 }) (va_Pc [.int x] (PW G (ty3 cI cC cD) [] sz)) (va_Qi (fun (r : Int32) (_ : Unit) => Q r) (BW G (fun _ : Unit => []) (va_A [] sz)) (va_A [] sz)) 0 0 (va_A [] sz) := by
  refine Met.ofW (cc := cX6_asReason) (maxL := 1) (ret := (some .int)) (by decide) rfl ?_
  intro p e s m args below meth c s₁ B hml hv
  obtain ⟨rfl, hsz, hP, hK, hD0, hN⟩ := hv
  have hx := B.exec
  have hb := B.bytes
  have hr := B.returns
  have hts := atoms_spec (ws := wsX6_asReason) B.pre
  have hown : s.vm.findClass RX6 = some m.cls := findClass_of_methodNamed B.named
  have hlocks := B.notSynchronized
  subst hsz
  have hD := hD0.self (sz := s.heap.size)
  generalize hAe : va_A [] s.heap.size = A at hD ⊢
  have hA : ∀ q : Nat, s.heap.size ≤ q → A q := fun q h => by rw [← hAe]; exact Or.inr h
  have hS : va_S A s.heap s.heap [] := va_S.rf
  have hl := lv_entry ([.int x]) (n := 1) (Nat.le_of_ble_eq_true rfl)
  rw [lg_entry_eq]
  generalize (lg_sl ([.int x]) ++ List.replicate (1 - (lg_sl ([.int x])).length) Slot.unset).toArray = ls at hl ⊢
  have hl : lv_has ls 1 [(0, .int x)] := hl
  unfold q_X6_asReason at h
  refine lv_iload_n hx hb dX6_asReason_0 rfl (lv_at hl 0 rfl) ?_
  refine lv_if_lt (tgt := 8) hx hb dX6_asReason_1 (by decide) (fun c_1 => ?_) (fun c_1 => ?_)
  · have h := h.1 c_1
    refine lv_iload_n hx hb dX6_asReason_8 rfl (lv_at hl 0 rfl) ?_
    refine lv_ldc hx hb hown (hts (.constant RX6 103 (-1000001)) (by decide +kernel)) dX6_asReason_9 ?_
    refine lv_icmp_ne (tgt := 18) hx hb dX6_asReason_11 (by decide) (fun c_2 => ?_) (fun c_2 => ?_)
    · have h := h.2 c_2
      refine lv_iconst (v := 3) hx hb dX6_asReason_18 (by decide) ?_
      exact W.iret (v := 3) hx hb hr (fun t ht hW => ⟨⟨3, (), rfl, h, by rw [ht]; exact hP, hD⟩, hS.F ht⟩) hS.2.2 dX6_asReason_19
    · have h := h.1 c_2
      refine lv_iconst (v := 2) hx hb dX6_asReason_14 (by decide) ?_
      refine lv_goto (tgt := 19) hx hb dX6_asReason_15 (by decide) ?_
      exact W.iret (v := 2) hx hb hr (fun t ht hW => ⟨⟨2, (), rfl, h, by rw [ht]; exact hP, hD⟩, hS.F ht⟩) hS.2.2 dX6_asReason_19
  · have h := h.2 c_1
    refine lv_iconst (v := 0) hx hb dX6_asReason_4 (by decide) ?_
    refine lv_goto (tgt := 19) hx hb dX6_asReason_5 (by decide) ?_
    exact W.iret (v := 0) hx hb hr (fun t ht hW => ⟨⟨0, (), rfl, h, by rw [ht]; exact hP, hD⟩, hS.F ht⟩) hS.2.2 dX6_asReason_19
def q_X6_does (M : St) (Q : Int32 → St → Prop) : Prop :=
  vp_in (M 8 0) 60 ∧ ((((M 6) (((M 8 0)).toNatClampNeg)) = 111 → ∃ (I_4 : Nat → Int32 → Int32 → St → Prop) (n_9 : Nat), I_4 n_9 0 1 (uA M 8 (fun _ => ((M 8 0) + 1))) ∧ ∀ (n_3 : Nat) (x4_5 : Int32) (x3_6 : Int32) (D_7 : St), I_4 n_3 x4_5 x3_6 D_7 → ((2 ≤ x4_5 → (x3_6 = 0 → Q 1 D_7) ∧ (¬ (x3_6 = 0) → q_X6_order ((D_7 10) 0) ((D_7 10) 1) D_7 (fun r_15 u_16 => q_X6_asReason r_15 (fun r_17 => Q r_17 u_16)))) ∧ (¬ (2 ≤ x4_5) → (x3_6 = 0 → Q 1 D_7) ∧ (¬ (x3_6 = 0) → (x4_5 = (2 - 1) → q_X6_number x4_5 59 D_7 (fun r_25 u_26 => ∃ n_27, n_27 < n_3 ∧ I_4 n_27 (x4_5 + 1) r_25 u_26)) ∧ (¬ (x4_5 = (2 - 1)) → q_X6_number x4_5 44 D_7 (fun r_20 u_21 => ∃ n_22, n_22 < n_3 ∧ I_4 n_22 (x4_5 + 1) r_20 u_21)))))) ∧ (¬ (((M 6) (((M 8 0)).toNatClampNeg)) = 111) → (((M 6) (((M 8 0)).toNatClampNeg)) = 119 → ∃ (I_143 : Nat → Int32 → Int32 → St → Prop) (n_148 : Nat), I_143 n_148 0 1 (uA M 8 (fun _ => ((M 8 0) + 1))) ∧ ∀ (n_142 : Nat) (x4_144 : Int32) (x3_145 : Int32) (D_146 : St), I_143 n_142 x4_144 x3_145 D_146 → ((2 ≤ x4_144 → (x3_145 = 0 → Q 1 D_146) ∧ (¬ (x3_145 = 0) → q_X6_gate ((D_146 10) 0) ((D_146 10) 1) D_146 (fun r_154 u_155 => q_X6_asReason r_154 (fun r_156 => Q r_156 u_155)))) ∧ (¬ (2 ≤ x4_144) → (x3_145 = 0 → Q 1 D_146) ∧ (¬ (x3_145 = 0) → (x4_144 = (2 - 1) → q_X6_number x4_144 59 D_146 (fun r_164 u_165 => ∃ n_166, n_166 < n_142 ∧ I_143 n_166 (x4_144 + 1) r_164 u_165)) ∧ (¬ (x4_144 = (2 - 1)) → q_X6_number x4_144 44 D_146 (fun r_159 u_160 => ∃ n_161, n_161 < n_142 ∧ I_143 n_161 (x4_144 + 1) r_159 u_160)))))) ∧ (¬ (((M 6) (((M 8 0)).toNatClampNeg)) = 119) → (((M 6) (((M 8 0)).toNatClampNeg)) = 105 → ∃ (I_33 : Nat → Int32 → Int32 → St → Prop) (n_38 : Nat), I_33 n_38 0 1 (uA M 8 (fun _ => ((M 8 0) + 1))) ∧ ∀ (n_32 : Nat) (x4_34 : Int32) (x3_35 : Int32) (D_36 : St), I_33 n_32 x4_34 x3_35 D_36 → ((1 ≤ x4_34 → (x3_35 = 0 → Q 1 D_36) ∧ (¬ (x3_35 = 0) → q_X6_inflow ((D_36 10) 0) D_36 (fun r_44 u_45 => q_X6_asReason r_44 (fun r_46 => Q r_46 u_45)))) ∧ (¬ (1 ≤ x4_34) → (x3_35 = 0 → Q 1 D_36) ∧ (¬ (x3_35 = 0) → (x4_34 = (1 - 1) → q_X6_number x4_34 59 D_36 (fun r_54 u_55 => ∃ n_56, n_56 < n_32 ∧ I_33 n_56 (x4_34 + 1) r_54 u_55)) ∧ (¬ (x4_34 = (1 - 1)) → q_X6_number x4_34 44 D_36 (fun r_49 u_50 => ∃ n_51, n_51 < n_32 ∧ I_33 n_51 (x4_34 + 1) r_49 u_50)))))) ∧ (¬ (((M 6) (((M 8 0)).toNatClampNeg)) = 105) → (((M 6) (((M 8 0)).toNatClampNeg)) = 112 → ∃ (I_61 : Nat → Int32 → Int32 → St → Prop) (n_66 : Nat), I_61 n_66 0 1 (uA M 8 (fun _ => ((M 8 0) + 1))) ∧ ∀ (n_60 : Nat) (x4_62 : Int32) (x3_63 : Int32) (D_64 : St), I_61 n_60 x4_62 x3_63 D_64 → ((1 ≤ x4_62 → (x3_63 = 0 → Q 1 D_64) ∧ (¬ (x3_63 = 0) → q_X6_pass ((D_64 10) 0) D_64 (fun r_72 u_73 => q_X6_asReason r_72 (fun r_74 => Q r_74 u_73)))) ∧ (¬ (1 ≤ x4_62) → (x3_63 = 0 → Q 1 D_64) ∧ (¬ (x3_63 = 0) → (x4_62 = (1 - 1) → q_X6_number x4_62 59 D_64 (fun r_82 u_83 => ∃ n_84, n_84 < n_60 ∧ I_61 n_84 (x4_62 + 1) r_82 u_83)) ∧ (¬ (x4_62 = (1 - 1)) → q_X6_number x4_62 44 D_64 (fun r_77 u_78 => ∃ n_79, n_79 < n_60 ∧ I_61 n_79 (x4_62 + 1) r_77 u_78)))))) ∧ (¬ (((M 6) (((M 8 0)).toNatClampNeg)) = 112) → (((M 6) (((M 8 0)).toNatClampNeg)) = 120 → ∃ (I_116 : Nat → Int32 → Int32 → St → Prop) (n_121 : Nat), I_116 n_121 0 1 (uA M 8 (fun _ => ((M 8 0) + 1))) ∧ ∀ (n_115 : Nat) (x4_117 : Int32) (x3_118 : Int32) (D_119 : St), I_116 n_115 x4_117 x3_118 D_119 → ((1 ≤ x4_117 → (x3_118 = 0 → Q 1 D_119) ∧ (¬ (x3_118 = 0) → q_X6_cancel ((D_119 10) 0) D_119 (fun r_127 u_128 => q_X6_asReason r_127 (fun r_129 => Q r_129 u_128)))) ∧ (¬ (1 ≤ x4_117) → (x3_118 = 0 → Q 1 D_119) ∧ (¬ (x3_118 = 0) → (x4_117 = (1 - 1) → q_X6_number x4_117 59 D_119 (fun r_137 u_138 => ∃ n_139, n_139 < n_115 ∧ I_116 n_139 (x4_117 + 1) r_137 u_138)) ∧ (¬ (x4_117 = (1 - 1)) → q_X6_number x4_117 44 D_119 (fun r_132 u_133 => ∃ n_134, n_134 < n_115 ∧ I_116 n_134 (x4_117 + 1) r_132 u_133)))))) ∧ (¬ (((M 6) (((M 8 0)).toNatClampNeg)) = 120) → ∃ (I_89 : Nat → Int32 → Int32 → St → Prop) (n_94 : Nat), I_89 n_94 0 0 (uA M 8 (fun _ => ((M 8 0) + 1))) ∧ ∀ (n_88 : Nat) (x4_90 : Int32) (x3_91 : Int32) (D_92 : St), I_89 n_88 x4_90 x3_91 D_92 → ((0 ≤ x4_90 → (x3_91 = 0 → Q 1 D_92) ∧ (¬ (x3_91 = 0) → q_X6_cancel ((D_92 10) 0) D_92 (fun r_100 u_101 => q_X6_asReason r_100 (fun r_102 => Q r_102 u_101)))) ∧ (¬ (0 ≤ x4_90) → (x3_91 = 0 → Q 1 D_92) ∧ (¬ (x3_91 = 0) → (x4_90 = (0 - 1) → q_X6_number x4_90 59 D_92 (fun r_110 u_111 => ∃ n_112, n_112 < n_88 ∧ I_89 n_112 (x4_90 + 1) r_110 u_111)) ∧ (¬ (x4_90 = (0 - 1)) → q_X6_number x4_90 44 D_92 (fun r_105 u_106 => ∃ n_107, n_107 < n_88 ∧ I_89 n_107 (x4_90 + 1) r_105 u_106)))))))))))
set_option maxHeartbeats 4000000 in
set_option maxRecDepth 100000 in
theorem c_X6_does (l : Launch) (G : va_G) (cI cC cD : ClassId) (q : Nat → Nat) (sz : Nat) (M : St)  (Q : Int32 → St → Prop) (h : q_X6_does  M Q) : Met l yX6_does wsX6_does ({ frames := 6, cells := 0, slots := 0, locals := 133 }) (va_Pc [.ref (q 0)] (PW G (ty3 cI cC cD) (wM cI q M) sz)) (va_Qi Q (BW G (fun u : St => (wM cI q u)) (va_A (wM cI q M) sz)) (va_A (wM cI q M) sz)) 0 0 (va_A (wM cI q M) sz) := by
  refine Met.ofW (cc := cX6_does) (maxL := 5) (ret := (some .int)) (by decide) rfl ?_
  intro p e s m args below meth c s₁ B hml hv
  obtain ⟨rfl, hsz, hP, hK, hD0, hN⟩ := hv
  have hx := B.exec
  have hb := B.bytes
  have hr := B.returns
  have hts := atoms_spec (ws := wsX6_does) B.pre
  have hown : s.vm.findClass RX6 = some m.cls := findClass_of_methodNamed B.named
  have hlocks := B.notSynchronized
  subst hsz
  have hD := hD0.self (sz := s.heap.size)
  generalize hAe : va_A (wM cI q M) s.heap.size = A at hD ⊢
  have hA : ∀ q : Nat, s.heap.size ≤ q → A q := fun q h => by rw [← hAe]; exact Or.inr h
  have hS : va_S A s.heap s.heap [] := va_S.rf
  have hl := lv_entry ([.ref (q 0)]) (n := 5) (Nat.le_of_ble_eq_true rfl)
  rw [lg_entry_eq]
  generalize (lg_sl ([.ref (q 0)]) ++ List.replicate (5 - (lg_sl ([.ref (q 0)])).length) Slot.unset).toArray = ls at hl ⊢
  have hl : lv_has ls 5 [(0, .ref (q 0))] := hl
  have hinX6 : ∀ w ∈ wsX60, w ∈ wsX6_does := by decide +kernel
  have hL22 := hts (.fieldLink RX6 22 "CraneGatesModel" "text" "[I") (by decide +kernel)
  have hL25 := hts (.fieldLink RX6 25 "CraneGatesModel" "told" "[I") (by decide +kernel)
  have hL146 := hts (.fieldLink RX6 146 "CraneGatesModel" "spot" "I") (by decide +kernel)
  unfold q_X6_does at h
  refine lv_aload_n hx hb dX6_does_0 rfl (lv_at hl 0 rfl) ?_
  refine va_get (D := G) (ci := 6) (v := .ref (q 5)) (C := RX6) (T := TX6) (N := 11) hx hb hts hinX6 hown hK hP 0 rfl rfl 6 (by decide) hL22 (fun _ h9 => h9) rfl dX6_does_1 ?_
  refine lv_aload_n hx hb dX6_does_4 rfl (lv_at hl 0 rfl) ?_
  refine va_get (D := G) (ci := 6) (v := .int (M 8 0)) (C := RX6) (T := TX6) (N := 11) hx hb hts hinX6 hown hK hP 0 rfl rfl 8 (by decide) hL146 (fun _ h9 => h9) rfl dX6_does_5 ?_
  obtain ⟨hi_1, h⟩ := h
  refine k_ald (f := (M 6)) (j := ((M 8 0)).toNatClampNeg) (v := ((M 6) (((M 8 0)).toNatClampNeg))) hx hb hK hP 5 0 rfl rfl hi_1 rfl rfl dX6_does_8 ?_
  refine lv_istore_n (lv' := [(1, .int ((M 6) (((M 8 0)).toNatClampNeg))), (0, .ref (q 0))]) hx hb dX6_does_9 rfl hl (by decide) rfl (fun ls hl => ?_)
  refine lv_aload_n hx hb dX6_does_10 rfl (lv_at hl 1 rfl) ?_
  refine lv_dup hx hb dX6_does_11 rfl ?_
  refine va_get (D := G) (ci := 6) (v := .int (M 8 0)) (C := RX6) (T := TX6) (N := 11) hx hb hts hinX6 hown hK hP 0 rfl rfl 8 (by decide) hL146 (fun _ h9 => h9) rfl dX6_does_12 ?_
  refine lv_iconst (v := 1) hx hb dX6_does_15 (by decide) ?_
  refine lv_iadd hx hb dX6_does_16 ?_
  refine va_put (D := G) (ci := 6) (v := .int ((M 8 0) + 1)) (ty := .int) (C := RX6) (T := TX6) (N := 11) hx hb hts hinX6 tyX6 tyX6_ok nmX6 hown hK hP hD hS 0 rfl rfl 8 (by decide) hL146 (fun _ h9 => h9) rfl (by decide +kernel) rfl rfl (Nat.le_of_ble_eq_true rfl) dX6_does_17 (fun H locs hP hD hS => ?_)
  have hP : va_P G vwCl (wM cI q (uA M 8 (fun _ => ((M 8 0) + 1)))) H := hP
  have hD : va_D A (wM cI q (uA M 8 (fun _ => ((M 8 0) + 1)))) := hD
  refine lv_iload_n hx hb dX6_does_20 rfl (lv_at hl 0 rfl) ?_
  refine lv_bipush (v := 111) hx hb dX6_does_21 (by decide) ?_
  refine lv_icmp_eq (tgt := 32) hx hb dX6_does_23 (by decide) (fun c_2 => ?_) (fun c_2 => ?_)
  · have h := h.1 c_2
    refine lv_iconst (v := 2) hx hb dX6_does_32 (by decide) ?_
    refine lv_goto (tgt := 59) hx hb dX6_does_33 (by decide) ?_
    refine lv_istore_n (lv' := [(2, .int 2), (1, .int ((M 6) (((M 8 0)).toNatClampNeg))), (0, .ref (q 0))]) hx hb dX6_does_59 rfl hl (by decide) rfl (fun ls hl => ?_)
    refine lv_iload_n hx hb dX6_does_60 rfl (lv_at hl 0 rfl) ?_
    refine lv_if_le (tgt := 68) hx hb dX6_does_61 (by decide) (fun c => absurd c (by decide)) (fun _ => ?_)
    refine lv_iconst (v := 1) hx hb dX6_does_64 (by decide) ?_
    refine lv_goto (tgt := 69) hx hb dX6_does_65 (by decide) ?_
    refine lv_istore_n (lv' := [(3, .int 1), (2, .int 2), (1, .int ((M 6) (((M 8 0)).toNatClampNeg))), (0, .ref (q 0))]) hx hb dX6_does_69 rfl hl (by decide) rfl (fun ls hl => ?_)
    refine lv_iconst (v := 0) hx hb dX6_does_70 (by decide) ?_
    refine lv_istore (lv' := [(4, .int 0), (3, .int 1), (2, .int 2), (1, .int ((M 6) (((M 8 0)).toNatClampNeg))), (0, .ref (q 0))]) hx hb dX6_does_71 hl (by decide) rfl (fun ls hl => ?_)
    obtain ⟨I_4, n_9, h_10, hI_11⟩ := h
    have lp_12 : ∀ (n_3 : Nat) (x4_5 : Int32) (x3_6 : Int32) (D_7 : St), I_4 n_3 x4_5 x3_6 D_7 → ∀ (H : Heap) (locs : List Loc) (ls : Array Slot), va_P G vwCl (wM cI q D_7) H → va_D A (wM cI q D_7) → va_S A s.heap H locs → lv_has ls 5 [(4, .int x4_5), (3, .int x3_6), (2, .int 2), (1, .int ((M 6) (((M 8 0)).toNatClampNeg))), (0, .ref (q 0))] → W p l e (headSpec wsX6_does ({ frames := 6, cells := 0, slots := 0, locals := 133 })).room s m ([.ref (q 0)] : List Value).toArray below meth c H locs 0 0 (MQ below (va_Qi Q (BW G (fun u : St => (wM cI q u)) A) A) ([.ref (q 0)] : List Value).toArray s 0 0 A) (F0 m 73 ls []) := by
      intro n_3
      induction n_3 using Nat.strongRecOn with
      | ind n_3 ih_8 =>
        intro x4_5 x3_6 D_7 hIn H locs ls hP hD hS hl
        have h := hI_11 n_3 x4_5 x3_6 D_7 hIn
        refine lv_iload hx hb dX6_does_73 (lv_at hl 0 rfl) ?_
        refine lv_iload_n hx hb dX6_does_75 rfl (lv_at hl 2 rfl) ?_
        refine lv_icmp_ge (tgt := 111) hx hb dX6_does_76 (by decide) (fun c_13 => ?_) (fun c_13 => ?_)
        · have h := h.1 c_13
          refine lv_iload_n hx hb dX6_does_111 rfl (lv_at hl 1 rfl) ?_
          refine lv_if_ne (tgt := 117) hx hb dX6_does_112 (by decide) (fun c_14 => ?_) (fun c_14 => ?_)
          · have h := h.2 c_14
            refine lv_iload_n hx hb dX6_does_117 rfl (lv_at hl 3 rfl) ?_
            refine lv_lookup (off := 42) (tgt := 160) hx hb dX6_does_118 (by decide) (by rw [c_2]; decide) (by decide) ?_
            refine lv_aload_n hx hb dX6_does_160 rfl (lv_at hl 4 rfl) ?_
            refine lv_aload_n hx hb dX6_does_161 rfl (lv_at hl 4 rfl) ?_
            refine va_get (D := G) (ci := 6) (v := .ref (q 6)) (C := RX6) (T := TX6) (N := 11) hx hb hts hinX6 hown hK hP 0 rfl rfl 10 (by decide) hL25 (fun _ h9 => h9) rfl dX6_does_162 ?_
            refine lv_iconst (v := 0) hx hb dX6_does_165 (by decide) ?_
            refine k_ald (f := (D_7 10)) (j := 0) (v := ((D_7 10) 0)) hx hb hK hP 6 0 rfl rfl (show ¬ ((0 : Int32) < 0 ∨ 2 ≤ (0 : Int32).toNatClampNeg) by decide) rfl rfl dX6_does_166 ?_
            refine lv_aload_n hx hb dX6_does_167 rfl (lv_at hl 4 rfl) ?_
            refine va_get (D := G) (ci := 6) (v := .ref (q 6)) (C := RX6) (T := TX6) (N := 11) hx hb hts hinX6 hown hK hP 0 rfl rfl 10 (by decide) hL25 (fun _ h9 => h9) rfl dX6_does_168 ?_
            refine lv_iconst (v := 1) hx hb dX6_does_171 (by decide) ?_
            refine k_ald (f := (D_7 10)) (j := 1) (v := ((D_7 10) 1)) hx hb hK hP 6 0 rfl rfl (show ¬ ((1 : Int32) < 0 ∨ 2 ≤ (1 : Int32).toNatClampNeg) by decide) rfl rfl dX6_does_172 ?_
            refine kc_i (As := [.int ((D_7 10) 0), .int ((D_7 10) 1)]) (rest := []) (wg := (fun u => (wM cI q u))) ⟨hx, hb, hml, hown, hts⟩ (c_X6_order l G cI cC cD q _ D_7 ((D_7 10) 0) ((D_7 10) 1) _ h) (cwV 2 hts gX6_does_X6_order rfl rfl rfl (by decide +kernel) ⟨Nat.le_of_ble_eq_true rfl, Nat.le_of_ble_eq_true rfl⟩) hK hN hP hD hS hA (em_MM cI q D_7) (fun u => rp_MM cI q D_7 u) rfl rfl rfl rfl hl.1 rfl (Nat.le_of_ble_eq_true rfl) dX6_does_173 ⟨Nat.zero_le _, Nat.zero_le _⟩ (fun r_15 u_16 H locs h hP hD hS => ?_)
            refine ks_i (As := [.int r_15]) (rest := []) (wg := (fun _ => (wM cI q u_16))) ⟨hx, hb, hml, hown, hts⟩ (c_X6_asReason l G cI cC cD  _  r_15 _ h) (va_cwS 1 hts gX6_does_X6_asReason rfl rfl rfl (by decide +kernel) ⟨Nat.le_of_ble_eq_true rfl, Nat.le_of_ble_eq_true rfl⟩) hK hN hP hD hS hA (em_0 _) (fun _ => rp_self (em_0 _)) rfl hl.1 rfl (Nat.le_of_ble_eq_true rfl) dX6_does_176 ⟨Nat.zero_le _, Nat.zero_le _⟩ (fun r_17 _ H locs h hP hD hS => ?_)
            exact W.iret (v := r_17) hx hb hr (fun t ht hW => ⟨⟨r_17, u_16, rfl, h, by rw [ht]; exact hP, hD⟩, hS.F ht⟩) hS.2.2 dX6_does_179
          · have h := h.1 c_14
            refine lv_iconst (v := 1) hx hb dX6_does_115 (by decide) ?_
            exact W.iret (v := 1) hx hb hr (fun t ht hW => ⟨⟨1, D_7, rfl, h, by rw [ht]; exact hP, hD⟩, hS.F ht⟩) hS.2.2 dX6_does_116
        · have h := h.2 c_13
          refine lv_iload_n hx hb dX6_does_79 rfl (lv_at hl 1 rfl) ?_
          refine lv_if_eq (tgt := 111) hx hb dX6_does_80 (by decide) (fun c_18 => ?_) (fun c_18 => ?_)
          · have h := h.1 c_18
            refine lv_iload_n hx hb dX6_does_111 rfl (lv_at hl 1 rfl) ?_
            refine lv_if_ne (tgt := 117) hx hb dX6_does_112 (by decide) (fun c => absurd c_18 c) (fun _ => ?_)
            refine lv_iconst (v := 1) hx hb dX6_does_115 (by decide) ?_
            exact W.iret (v := 1) hx hb hr (fun t ht hW => ⟨⟨1, D_7, rfl, h, by rw [ht]; exact hP, hD⟩, hS.F ht⟩) hS.2.2 dX6_does_116
          · have h := h.2 c_18
            refine lv_aload_n hx hb dX6_does_83 rfl (lv_at hl 4 rfl) ?_
            refine lv_iload hx hb dX6_does_84 (lv_at hl 0 rfl) ?_
            refine lv_iload hx hb dX6_does_86 (lv_at hl 0 rfl) ?_
            refine lv_iload_n hx hb dX6_does_88 rfl (lv_at hl 2 rfl) ?_
            refine lv_iconst (v := 1) hx hb dX6_does_89 (by decide) ?_
            refine lv_isub hx hb dX6_does_90 ?_
            refine lv_icmp_ne (tgt := 99) hx hb dX6_does_91 (by decide) (fun c_19 => ?_) (fun c_19 => ?_)
            · have h := h.2 c_19
              refine lv_bipush (v := 44) hx hb dX6_does_99 (by decide) ?_
              refine kc_i (As := [.int x4_5, .int 44]) (rest := []) (wg := (fun u => (wM cI q u))) ⟨hx, hb, hml, hown, hts⟩ (c_X6_number l G cI cC cD q _ D_7 x4_5 44 _ h) (cwV 2 hts gX6_does_X6_number rfl rfl rfl (by decide +kernel) ⟨Nat.le_of_ble_eq_true rfl, Nat.le_of_ble_eq_true rfl⟩) hK hN hP hD hS hA (em_MM cI q D_7) (fun u => rp_MM cI q D_7 u) rfl rfl rfl rfl hl.1 rfl (Nat.le_of_ble_eq_true rfl) dX6_does_101 ⟨Nat.zero_le _, Nat.zero_le _⟩ (fun r_20 u_21 H locs h hP hD hS => ?_)
              refine lv_istore_n (lv' := [(3, .int r_20), (4, .int x4_5), (2, .int 2), (1, .int ((M 6) (((M 8 0)).toNatClampNeg))), (0, .ref (q 0))]) hx hb dX6_does_104 rfl hl (by decide) rfl (fun ls hl => ?_)
              refine lv_iinc (v := x4_5 + 1) (lv' := [(4, .int (x4_5 + 1)), (3, .int r_20), (2, .int 2), (1, .int ((M 6) (((M 8 0)).toNatClampNeg))), (0, .ref (q 0))]) hx hb dX6_does_105 hl (k := 1) rfl rfl (by decide) rfl (fun ls hl => ?_)
              refine lv_goto (tgt := 73) hx hb dX6_does_108 (by decide) ?_
              obtain ⟨n_22, lt_23, h_24⟩ := h
              exact ih_8 n_22 lt_23 _ _ _ h_24 _ _ _ hP hD hS (lv_sub hl [0, 1, 2, 3, 4] rfl)
            · have h := h.1 c_19
              refine lv_bipush (v := 59) hx hb dX6_does_94 (by decide) ?_
              refine lv_goto (tgt := 101) hx hb dX6_does_96 (by decide) ?_
              refine kc_i (As := [.int x4_5, .int 59]) (rest := []) (wg := (fun u => (wM cI q u))) ⟨hx, hb, hml, hown, hts⟩ (c_X6_number l G cI cC cD q _ D_7 x4_5 59 _ h) (cwV 2 hts gX6_does_X6_number rfl rfl rfl (by decide +kernel) ⟨Nat.le_of_ble_eq_true rfl, Nat.le_of_ble_eq_true rfl⟩) hK hN hP hD hS hA (em_MM cI q D_7) (fun u => rp_MM cI q D_7 u) rfl rfl rfl rfl hl.1 rfl (Nat.le_of_ble_eq_true rfl) dX6_does_101 ⟨Nat.zero_le _, Nat.zero_le _⟩ (fun r_25 u_26 H locs h hP hD hS => ?_)
              refine lv_istore_n (lv' := [(3, .int r_25), (4, .int x4_5), (2, .int 2), (1, .int ((M 6) (((M 8 0)).toNatClampNeg))), (0, .ref (q 0))]) hx hb dX6_does_104 rfl hl (by decide) rfl (fun ls hl => ?_)
              refine lv_iinc (v := x4_5 + 1) (lv' := [(4, .int (x4_5 + 1)), (3, .int r_25), (2, .int 2), (1, .int ((M 6) (((M 8 0)).toNatClampNeg))), (0, .ref (q 0))]) hx hb dX6_does_105 hl (k := 1) rfl rfl (by decide) rfl (fun ls hl => ?_)
              refine lv_goto (tgt := 73) hx hb dX6_does_108 (by decide) ?_
              obtain ⟨n_27, lt_28, h_29⟩ := h
              exact ih_8 n_27 lt_28 _ _ _ h_29 _ _ _ hP hD hS (lv_sub hl [0, 1, 2, 3, 4] rfl)
    exact lp_12 _ _ _ _ h_10 _ _ _ hP hD hS hl
  · have h := h.2 c_2
    refine lv_iload_n hx hb dX6_does_26 rfl (lv_at hl 0 rfl) ?_
    refine lv_bipush (v := 119) hx hb dX6_does_27 (by decide) ?_
    refine lv_icmp_ne (tgt := 36) hx hb dX6_does_29 (by decide) (fun c_30 => ?_) (fun c_30 => ?_)
    · have h := h.2 c_30
      refine lv_iload_n hx hb dX6_does_36 rfl (lv_at hl 0 rfl) ?_
      refine lv_bipush (v := 105) hx hb dX6_does_37 (by decide) ?_
      refine lv_icmp_eq (tgt := 54) hx hb dX6_does_39 (by decide) (fun c_31 => ?_) (fun c_31 => ?_)
      · have h := h.1 c_31
        refine lv_iconst (v := 1) hx hb dX6_does_54 (by decide) ?_
        refine lv_goto (tgt := 59) hx hb dX6_does_55 (by decide) ?_
        refine lv_istore_n (lv' := [(2, .int 1), (1, .int ((M 6) (((M 8 0)).toNatClampNeg))), (0, .ref (q 0))]) hx hb dX6_does_59 rfl hl (by decide) rfl (fun ls hl => ?_)
        refine lv_iload_n hx hb dX6_does_60 rfl (lv_at hl 0 rfl) ?_
        refine lv_if_le (tgt := 68) hx hb dX6_does_61 (by decide) (fun c => absurd c (by decide)) (fun _ => ?_)
        refine lv_iconst (v := 1) hx hb dX6_does_64 (by decide) ?_
        refine lv_goto (tgt := 69) hx hb dX6_does_65 (by decide) ?_
        refine lv_istore_n (lv' := [(3, .int 1), (2, .int 1), (1, .int ((M 6) (((M 8 0)).toNatClampNeg))), (0, .ref (q 0))]) hx hb dX6_does_69 rfl hl (by decide) rfl (fun ls hl => ?_)
        refine lv_iconst (v := 0) hx hb dX6_does_70 (by decide) ?_
        refine lv_istore (lv' := [(4, .int 0), (3, .int 1), (2, .int 1), (1, .int ((M 6) (((M 8 0)).toNatClampNeg))), (0, .ref (q 0))]) hx hb dX6_does_71 hl (by decide) rfl (fun ls hl => ?_)
        obtain ⟨I_33, n_38, h_39, hI_40⟩ := h
        have lp_41 : ∀ (n_32 : Nat) (x4_34 : Int32) (x3_35 : Int32) (D_36 : St), I_33 n_32 x4_34 x3_35 D_36 → ∀ (H : Heap) (locs : List Loc) (ls : Array Slot), va_P G vwCl (wM cI q D_36) H → va_D A (wM cI q D_36) → va_S A s.heap H locs → lv_has ls 5 [(4, .int x4_34), (3, .int x3_35), (2, .int 1), (1, .int ((M 6) (((M 8 0)).toNatClampNeg))), (0, .ref (q 0))] → W p l e (headSpec wsX6_does ({ frames := 6, cells := 0, slots := 0, locals := 133 })).room s m ([.ref (q 0)] : List Value).toArray below meth c H locs 0 0 (MQ below (va_Qi Q (BW G (fun u : St => (wM cI q u)) A) A) ([.ref (q 0)] : List Value).toArray s 0 0 A) (F0 m 73 ls []) := by
          intro n_32
          induction n_32 using Nat.strongRecOn with
          | ind n_32 ih_37 =>
            intro x4_34 x3_35 D_36 hIn H locs ls hP hD hS hl
            have h := hI_40 n_32 x4_34 x3_35 D_36 hIn
            refine lv_iload hx hb dX6_does_73 (lv_at hl 0 rfl) ?_
            refine lv_iload_n hx hb dX6_does_75 rfl (lv_at hl 2 rfl) ?_
            refine lv_icmp_ge (tgt := 111) hx hb dX6_does_76 (by decide) (fun c_42 => ?_) (fun c_42 => ?_)
            · have h := h.1 c_42
              refine lv_iload_n hx hb dX6_does_111 rfl (lv_at hl 1 rfl) ?_
              refine lv_if_ne (tgt := 117) hx hb dX6_does_112 (by decide) (fun c_43 => ?_) (fun c_43 => ?_)
              · have h := h.2 c_43
                refine lv_iload_n hx hb dX6_does_117 rfl (lv_at hl 3 rfl) ?_
                refine lv_lookup (off := 82) (tgt := 200) hx hb dX6_does_118 (by decide) (by rw [c_31]; decide) (by decide) ?_
                refine lv_aload_n hx hb dX6_does_200 rfl (lv_at hl 4 rfl) ?_
                refine lv_aload_n hx hb dX6_does_201 rfl (lv_at hl 4 rfl) ?_
                refine va_get (D := G) (ci := 6) (v := .ref (q 6)) (C := RX6) (T := TX6) (N := 11) hx hb hts hinX6 hown hK hP 0 rfl rfl 10 (by decide) hL25 (fun _ h9 => h9) rfl dX6_does_202 ?_
                refine lv_iconst (v := 0) hx hb dX6_does_205 (by decide) ?_
                refine k_ald (f := (D_36 10)) (j := 0) (v := ((D_36 10) 0)) hx hb hK hP 6 0 rfl rfl (show ¬ ((0 : Int32) < 0 ∨ 2 ≤ (0 : Int32).toNatClampNeg) by decide) rfl rfl dX6_does_206 ?_
                refine kc_i (As := [.int ((D_36 10) 0)]) (rest := []) (wg := (fun u => (wM cI q u))) ⟨hx, hb, hml, hown, hts⟩ (c_X6_inflow l G cI cC cD q _ D_36 ((D_36 10) 0) _ h) (cwV 1 hts gX6_does_X6_inflow rfl rfl rfl (by decide +kernel) ⟨Nat.le_of_ble_eq_true rfl, Nat.le_of_ble_eq_true rfl⟩) hK hN hP hD hS hA (em_MM cI q D_36) (fun u => rp_MM cI q D_36 u) rfl rfl rfl rfl hl.1 rfl (Nat.le_of_ble_eq_true rfl) dX6_does_207 ⟨Nat.zero_le _, Nat.zero_le _⟩ (fun r_44 u_45 H locs h hP hD hS => ?_)
                refine ks_i (As := [.int r_44]) (rest := []) (wg := (fun _ => (wM cI q u_45))) ⟨hx, hb, hml, hown, hts⟩ (c_X6_asReason l G cI cC cD  _  r_44 _ h) (va_cwS 1 hts gX6_does_X6_asReason rfl rfl rfl (by decide +kernel) ⟨Nat.le_of_ble_eq_true rfl, Nat.le_of_ble_eq_true rfl⟩) hK hN hP hD hS hA (em_0 _) (fun _ => rp_self (em_0 _)) rfl hl.1 rfl (Nat.le_of_ble_eq_true rfl) dX6_does_210 ⟨Nat.zero_le _, Nat.zero_le _⟩ (fun r_46 _ H locs h hP hD hS => ?_)
                exact W.iret (v := r_46) hx hb hr (fun t ht hW => ⟨⟨r_46, u_45, rfl, h, by rw [ht]; exact hP, hD⟩, hS.F ht⟩) hS.2.2 dX6_does_213
              · have h := h.1 c_43
                refine lv_iconst (v := 1) hx hb dX6_does_115 (by decide) ?_
                exact W.iret (v := 1) hx hb hr (fun t ht hW => ⟨⟨1, D_36, rfl, h, by rw [ht]; exact hP, hD⟩, hS.F ht⟩) hS.2.2 dX6_does_116
            · have h := h.2 c_42
              refine lv_iload_n hx hb dX6_does_79 rfl (lv_at hl 1 rfl) ?_
              refine lv_if_eq (tgt := 111) hx hb dX6_does_80 (by decide) (fun c_47 => ?_) (fun c_47 => ?_)
              · have h := h.1 c_47
                refine lv_iload_n hx hb dX6_does_111 rfl (lv_at hl 1 rfl) ?_
                refine lv_if_ne (tgt := 117) hx hb dX6_does_112 (by decide) (fun c => absurd c_47 c) (fun _ => ?_)
                refine lv_iconst (v := 1) hx hb dX6_does_115 (by decide) ?_
                exact W.iret (v := 1) hx hb hr (fun t ht hW => ⟨⟨1, D_36, rfl, h, by rw [ht]; exact hP, hD⟩, hS.F ht⟩) hS.2.2 dX6_does_116
              · have h := h.2 c_47
                refine lv_aload_n hx hb dX6_does_83 rfl (lv_at hl 4 rfl) ?_
                refine lv_iload hx hb dX6_does_84 (lv_at hl 0 rfl) ?_
                refine lv_iload hx hb dX6_does_86 (lv_at hl 0 rfl) ?_
                refine lv_iload_n hx hb dX6_does_88 rfl (lv_at hl 2 rfl) ?_
                refine lv_iconst (v := 1) hx hb dX6_does_89 (by decide) ?_
                refine lv_isub hx hb dX6_does_90 ?_
                refine lv_icmp_ne (tgt := 99) hx hb dX6_does_91 (by decide) (fun c_48 => ?_) (fun c_48 => ?_)
                · have h := h.2 c_48
                  refine lv_bipush (v := 44) hx hb dX6_does_99 (by decide) ?_
                  refine kc_i (As := [.int x4_34, .int 44]) (rest := []) (wg := (fun u => (wM cI q u))) ⟨hx, hb, hml, hown, hts⟩ (c_X6_number l G cI cC cD q _ D_36 x4_34 44 _ h) (cwV 2 hts gX6_does_X6_number rfl rfl rfl (by decide +kernel) ⟨Nat.le_of_ble_eq_true rfl, Nat.le_of_ble_eq_true rfl⟩) hK hN hP hD hS hA (em_MM cI q D_36) (fun u => rp_MM cI q D_36 u) rfl rfl rfl rfl hl.1 rfl (Nat.le_of_ble_eq_true rfl) dX6_does_101 ⟨Nat.zero_le _, Nat.zero_le _⟩ (fun r_49 u_50 H locs h hP hD hS => ?_)
                  refine lv_istore_n (lv' := [(3, .int r_49), (4, .int x4_34), (2, .int 1), (1, .int ((M 6) (((M 8 0)).toNatClampNeg))), (0, .ref (q 0))]) hx hb dX6_does_104 rfl hl (by decide) rfl (fun ls hl => ?_)
                  refine lv_iinc (v := x4_34 + 1) (lv' := [(4, .int (x4_34 + 1)), (3, .int r_49), (2, .int 1), (1, .int ((M 6) (((M 8 0)).toNatClampNeg))), (0, .ref (q 0))]) hx hb dX6_does_105 hl (k := 1) rfl rfl (by decide) rfl (fun ls hl => ?_)
                  refine lv_goto (tgt := 73) hx hb dX6_does_108 (by decide) ?_
                  obtain ⟨n_51, lt_52, h_53⟩ := h
                  exact ih_37 n_51 lt_52 _ _ _ h_53 _ _ _ hP hD hS (lv_sub hl [0, 1, 2, 3, 4] rfl)
                · have h := h.1 c_48
                  refine lv_bipush (v := 59) hx hb dX6_does_94 (by decide) ?_
                  refine lv_goto (tgt := 101) hx hb dX6_does_96 (by decide) ?_
                  refine kc_i (As := [.int x4_34, .int 59]) (rest := []) (wg := (fun u => (wM cI q u))) ⟨hx, hb, hml, hown, hts⟩ (c_X6_number l G cI cC cD q _ D_36 x4_34 59 _ h) (cwV 2 hts gX6_does_X6_number rfl rfl rfl (by decide +kernel) ⟨Nat.le_of_ble_eq_true rfl, Nat.le_of_ble_eq_true rfl⟩) hK hN hP hD hS hA (em_MM cI q D_36) (fun u => rp_MM cI q D_36 u) rfl rfl rfl rfl hl.1 rfl (Nat.le_of_ble_eq_true rfl) dX6_does_101 ⟨Nat.zero_le _, Nat.zero_le _⟩ (fun r_54 u_55 H locs h hP hD hS => ?_)
                  refine lv_istore_n (lv' := [(3, .int r_54), (4, .int x4_34), (2, .int 1), (1, .int ((M 6) (((M 8 0)).toNatClampNeg))), (0, .ref (q 0))]) hx hb dX6_does_104 rfl hl (by decide) rfl (fun ls hl => ?_)
                  refine lv_iinc (v := x4_34 + 1) (lv' := [(4, .int (x4_34 + 1)), (3, .int r_54), (2, .int 1), (1, .int ((M 6) (((M 8 0)).toNatClampNeg))), (0, .ref (q 0))]) hx hb dX6_does_105 hl (k := 1) rfl rfl (by decide) rfl (fun ls hl => ?_)
                  refine lv_goto (tgt := 73) hx hb dX6_does_108 (by decide) ?_
                  obtain ⟨n_56, lt_57, h_58⟩ := h
                  exact ih_37 n_56 lt_57 _ _ _ h_58 _ _ _ hP hD hS (lv_sub hl [0, 1, 2, 3, 4] rfl)
        exact lp_41 _ _ _ _ h_39 _ _ _ hP hD hS hl
      · have h := h.2 c_31
        refine lv_iload_n hx hb dX6_does_42 rfl (lv_at hl 0 rfl) ?_
        refine lv_bipush (v := 112) hx hb dX6_does_43 (by decide) ?_
        refine lv_icmp_eq (tgt := 54) hx hb dX6_does_45 (by decide) (fun c_59 => ?_) (fun c_59 => ?_)
        · have h := h.1 c_59
          refine lv_iconst (v := 1) hx hb dX6_does_54 (by decide) ?_
          refine lv_goto (tgt := 59) hx hb dX6_does_55 (by decide) ?_
          refine lv_istore_n (lv' := [(2, .int 1), (1, .int ((M 6) (((M 8 0)).toNatClampNeg))), (0, .ref (q 0))]) hx hb dX6_does_59 rfl hl (by decide) rfl (fun ls hl => ?_)
          refine lv_iload_n hx hb dX6_does_60 rfl (lv_at hl 0 rfl) ?_
          refine lv_if_le (tgt := 68) hx hb dX6_does_61 (by decide) (fun c => absurd c (by decide)) (fun _ => ?_)
          refine lv_iconst (v := 1) hx hb dX6_does_64 (by decide) ?_
          refine lv_goto (tgt := 69) hx hb dX6_does_65 (by decide) ?_
          refine lv_istore_n (lv' := [(3, .int 1), (2, .int 1), (1, .int ((M 6) (((M 8 0)).toNatClampNeg))), (0, .ref (q 0))]) hx hb dX6_does_69 rfl hl (by decide) rfl (fun ls hl => ?_)
          refine lv_iconst (v := 0) hx hb dX6_does_70 (by decide) ?_
          refine lv_istore (lv' := [(4, .int 0), (3, .int 1), (2, .int 1), (1, .int ((M 6) (((M 8 0)).toNatClampNeg))), (0, .ref (q 0))]) hx hb dX6_does_71 hl (by decide) rfl (fun ls hl => ?_)
          obtain ⟨I_61, n_66, h_67, hI_68⟩ := h
          have lp_69 : ∀ (n_60 : Nat) (x4_62 : Int32) (x3_63 : Int32) (D_64 : St), I_61 n_60 x4_62 x3_63 D_64 → ∀ (H : Heap) (locs : List Loc) (ls : Array Slot), va_P G vwCl (wM cI q D_64) H → va_D A (wM cI q D_64) → va_S A s.heap H locs → lv_has ls 5 [(4, .int x4_62), (3, .int x3_63), (2, .int 1), (1, .int ((M 6) (((M 8 0)).toNatClampNeg))), (0, .ref (q 0))] → W p l e (headSpec wsX6_does ({ frames := 6, cells := 0, slots := 0, locals := 133 })).room s m ([.ref (q 0)] : List Value).toArray below meth c H locs 0 0 (MQ below (va_Qi Q (BW G (fun u : St => (wM cI q u)) A) A) ([.ref (q 0)] : List Value).toArray s 0 0 A) (F0 m 73 ls []) := by
            intro n_60
            induction n_60 using Nat.strongRecOn with
            | ind n_60 ih_65 =>
              intro x4_62 x3_63 D_64 hIn H locs ls hP hD hS hl
              have h := hI_68 n_60 x4_62 x3_63 D_64 hIn
              refine lv_iload hx hb dX6_does_73 (lv_at hl 0 rfl) ?_
              refine lv_iload_n hx hb dX6_does_75 rfl (lv_at hl 2 rfl) ?_
              refine lv_icmp_ge (tgt := 111) hx hb dX6_does_76 (by decide) (fun c_70 => ?_) (fun c_70 => ?_)
              · have h := h.1 c_70
                refine lv_iload_n hx hb dX6_does_111 rfl (lv_at hl 1 rfl) ?_
                refine lv_if_ne (tgt := 117) hx hb dX6_does_112 (by decide) (fun c_71 => ?_) (fun c_71 => ?_)
                · have h := h.2 c_71
                  refine lv_iload_n hx hb dX6_does_117 rfl (lv_at hl 3 rfl) ?_
                  refine lv_lookup (off := 96) (tgt := 214) hx hb dX6_does_118 (by decide) (by rw [c_59]; decide) (by decide) ?_
                  refine lv_aload_n hx hb dX6_does_214 rfl (lv_at hl 4 rfl) ?_
                  refine lv_aload_n hx hb dX6_does_215 rfl (lv_at hl 4 rfl) ?_
                  refine va_get (D := G) (ci := 6) (v := .ref (q 6)) (C := RX6) (T := TX6) (N := 11) hx hb hts hinX6 hown hK hP 0 rfl rfl 10 (by decide) hL25 (fun _ h9 => h9) rfl dX6_does_216 ?_
                  refine lv_iconst (v := 0) hx hb dX6_does_219 (by decide) ?_
                  refine k_ald (f := (D_64 10)) (j := 0) (v := ((D_64 10) 0)) hx hb hK hP 6 0 rfl rfl (show ¬ ((0 : Int32) < 0 ∨ 2 ≤ (0 : Int32).toNatClampNeg) by decide) rfl rfl dX6_does_220 ?_
                  refine kc_i (As := [.int ((D_64 10) 0)]) (rest := []) (wg := (fun u => (wM cI q u))) ⟨hx, hb, hml, hown, hts⟩ (c_X6_pass l G cI cC cD q _ D_64 ((D_64 10) 0) _ h) (cwV 1 hts gX6_does_X6_pass rfl rfl rfl (by decide +kernel) ⟨Nat.le_of_ble_eq_true rfl, Nat.le_of_ble_eq_true rfl⟩) hK hN hP hD hS hA (em_MM cI q D_64) (fun u => rp_MM cI q D_64 u) rfl rfl rfl rfl hl.1 rfl (Nat.le_of_ble_eq_true rfl) dX6_does_221 ⟨Nat.zero_le _, Nat.zero_le _⟩ (fun r_72 u_73 H locs h hP hD hS => ?_)
                  refine ks_i (As := [.int r_72]) (rest := []) (wg := (fun _ => (wM cI q u_73))) ⟨hx, hb, hml, hown, hts⟩ (c_X6_asReason l G cI cC cD  _  r_72 _ h) (va_cwS 1 hts gX6_does_X6_asReason rfl rfl rfl (by decide +kernel) ⟨Nat.le_of_ble_eq_true rfl, Nat.le_of_ble_eq_true rfl⟩) hK hN hP hD hS hA (em_0 _) (fun _ => rp_self (em_0 _)) rfl hl.1 rfl (Nat.le_of_ble_eq_true rfl) dX6_does_224 ⟨Nat.zero_le _, Nat.zero_le _⟩ (fun r_74 _ H locs h hP hD hS => ?_)
                  exact W.iret (v := r_74) hx hb hr (fun t ht hW => ⟨⟨r_74, u_73, rfl, h, by rw [ht]; exact hP, hD⟩, hS.F ht⟩) hS.2.2 dX6_does_227
                · have h := h.1 c_71
                  refine lv_iconst (v := 1) hx hb dX6_does_115 (by decide) ?_
                  exact W.iret (v := 1) hx hb hr (fun t ht hW => ⟨⟨1, D_64, rfl, h, by rw [ht]; exact hP, hD⟩, hS.F ht⟩) hS.2.2 dX6_does_116
              · have h := h.2 c_70
                refine lv_iload_n hx hb dX6_does_79 rfl (lv_at hl 1 rfl) ?_
                refine lv_if_eq (tgt := 111) hx hb dX6_does_80 (by decide) (fun c_75 => ?_) (fun c_75 => ?_)
                · have h := h.1 c_75
                  refine lv_iload_n hx hb dX6_does_111 rfl (lv_at hl 1 rfl) ?_
                  refine lv_if_ne (tgt := 117) hx hb dX6_does_112 (by decide) (fun c => absurd c_75 c) (fun _ => ?_)
                  refine lv_iconst (v := 1) hx hb dX6_does_115 (by decide) ?_
                  exact W.iret (v := 1) hx hb hr (fun t ht hW => ⟨⟨1, D_64, rfl, h, by rw [ht]; exact hP, hD⟩, hS.F ht⟩) hS.2.2 dX6_does_116
                · have h := h.2 c_75
                  refine lv_aload_n hx hb dX6_does_83 rfl (lv_at hl 4 rfl) ?_
                  refine lv_iload hx hb dX6_does_84 (lv_at hl 0 rfl) ?_
                  refine lv_iload hx hb dX6_does_86 (lv_at hl 0 rfl) ?_
                  refine lv_iload_n hx hb dX6_does_88 rfl (lv_at hl 2 rfl) ?_
                  refine lv_iconst (v := 1) hx hb dX6_does_89 (by decide) ?_
                  refine lv_isub hx hb dX6_does_90 ?_
                  refine lv_icmp_ne (tgt := 99) hx hb dX6_does_91 (by decide) (fun c_76 => ?_) (fun c_76 => ?_)
                  · have h := h.2 c_76
                    refine lv_bipush (v := 44) hx hb dX6_does_99 (by decide) ?_
                    refine kc_i (As := [.int x4_62, .int 44]) (rest := []) (wg := (fun u => (wM cI q u))) ⟨hx, hb, hml, hown, hts⟩ (c_X6_number l G cI cC cD q _ D_64 x4_62 44 _ h) (cwV 2 hts gX6_does_X6_number rfl rfl rfl (by decide +kernel) ⟨Nat.le_of_ble_eq_true rfl, Nat.le_of_ble_eq_true rfl⟩) hK hN hP hD hS hA (em_MM cI q D_64) (fun u => rp_MM cI q D_64 u) rfl rfl rfl rfl hl.1 rfl (Nat.le_of_ble_eq_true rfl) dX6_does_101 ⟨Nat.zero_le _, Nat.zero_le _⟩ (fun r_77 u_78 H locs h hP hD hS => ?_)
                    refine lv_istore_n (lv' := [(3, .int r_77), (4, .int x4_62), (2, .int 1), (1, .int ((M 6) (((M 8 0)).toNatClampNeg))), (0, .ref (q 0))]) hx hb dX6_does_104 rfl hl (by decide) rfl (fun ls hl => ?_)
                    refine lv_iinc (v := x4_62 + 1) (lv' := [(4, .int (x4_62 + 1)), (3, .int r_77), (2, .int 1), (1, .int ((M 6) (((M 8 0)).toNatClampNeg))), (0, .ref (q 0))]) hx hb dX6_does_105 hl (k := 1) rfl rfl (by decide) rfl (fun ls hl => ?_)
                    refine lv_goto (tgt := 73) hx hb dX6_does_108 (by decide) ?_
                    obtain ⟨n_79, lt_80, h_81⟩ := h
                    exact ih_65 n_79 lt_80 _ _ _ h_81 _ _ _ hP hD hS (lv_sub hl [0, 1, 2, 3, 4] rfl)
                  · have h := h.1 c_76
                    refine lv_bipush (v := 59) hx hb dX6_does_94 (by decide) ?_
                    refine lv_goto (tgt := 101) hx hb dX6_does_96 (by decide) ?_
                    refine kc_i (As := [.int x4_62, .int 59]) (rest := []) (wg := (fun u => (wM cI q u))) ⟨hx, hb, hml, hown, hts⟩ (c_X6_number l G cI cC cD q _ D_64 x4_62 59 _ h) (cwV 2 hts gX6_does_X6_number rfl rfl rfl (by decide +kernel) ⟨Nat.le_of_ble_eq_true rfl, Nat.le_of_ble_eq_true rfl⟩) hK hN hP hD hS hA (em_MM cI q D_64) (fun u => rp_MM cI q D_64 u) rfl rfl rfl rfl hl.1 rfl (Nat.le_of_ble_eq_true rfl) dX6_does_101 ⟨Nat.zero_le _, Nat.zero_le _⟩ (fun r_82 u_83 H locs h hP hD hS => ?_)
                    refine lv_istore_n (lv' := [(3, .int r_82), (4, .int x4_62), (2, .int 1), (1, .int ((M 6) (((M 8 0)).toNatClampNeg))), (0, .ref (q 0))]) hx hb dX6_does_104 rfl hl (by decide) rfl (fun ls hl => ?_)
                    refine lv_iinc (v := x4_62 + 1) (lv' := [(4, .int (x4_62 + 1)), (3, .int r_82), (2, .int 1), (1, .int ((M 6) (((M 8 0)).toNatClampNeg))), (0, .ref (q 0))]) hx hb dX6_does_105 hl (k := 1) rfl rfl (by decide) rfl (fun ls hl => ?_)
                    refine lv_goto (tgt := 73) hx hb dX6_does_108 (by decide) ?_
                    obtain ⟨n_84, lt_85, h_86⟩ := h
                    exact ih_65 n_84 lt_85 _ _ _ h_86 _ _ _ hP hD hS (lv_sub hl [0, 1, 2, 3, 4] rfl)
          exact lp_69 _ _ _ _ h_67 _ _ _ hP hD hS hl
        · have h := h.2 c_59
          refine lv_iload_n hx hb dX6_does_48 rfl (lv_at hl 0 rfl) ?_
          refine lv_bipush (v := 120) hx hb dX6_does_49 (by decide) ?_
          refine lv_icmp_ne (tgt := 58) hx hb dX6_does_51 (by decide) (fun c_87 => ?_) (fun c_87 => ?_)
          · have h := h.2 c_87
            refine lv_iconst (v := 0) hx hb dX6_does_58 (by decide) ?_
            refine lv_istore_n (lv' := [(2, .int 0), (1, .int ((M 6) (((M 8 0)).toNatClampNeg))), (0, .ref (q 0))]) hx hb dX6_does_59 rfl hl (by decide) rfl (fun ls hl => ?_)
            refine lv_iload_n hx hb dX6_does_60 rfl (lv_at hl 0 rfl) ?_
            refine lv_if_le (tgt := 68) hx hb dX6_does_61 (by decide) (fun _ => ?_) (fun c => absurd c (by decide))
            refine lv_iconst (v := 0) hx hb dX6_does_68 (by decide) ?_
            refine lv_istore_n (lv' := [(3, .int 0), (2, .int 0), (1, .int ((M 6) (((M 8 0)).toNatClampNeg))), (0, .ref (q 0))]) hx hb dX6_does_69 rfl hl (by decide) rfl (fun ls hl => ?_)
            refine lv_iconst (v := 0) hx hb dX6_does_70 (by decide) ?_
            refine lv_istore (lv' := [(4, .int 0), (3, .int 0), (2, .int 0), (1, .int ((M 6) (((M 8 0)).toNatClampNeg))), (0, .ref (q 0))]) hx hb dX6_does_71 hl (by decide) rfl (fun ls hl => ?_)
            obtain ⟨I_89, n_94, h_95, hI_96⟩ := h
            have lp_97 : ∀ (n_88 : Nat) (x4_90 : Int32) (x3_91 : Int32) (D_92 : St), I_89 n_88 x4_90 x3_91 D_92 → ∀ (H : Heap) (locs : List Loc) (ls : Array Slot), va_P G vwCl (wM cI q D_92) H → va_D A (wM cI q D_92) → va_S A s.heap H locs → lv_has ls 5 [(4, .int x4_90), (3, .int x3_91), (2, .int 0), (1, .int ((M 6) (((M 8 0)).toNatClampNeg))), (0, .ref (q 0))] → W p l e (headSpec wsX6_does ({ frames := 6, cells := 0, slots := 0, locals := 133 })).room s m ([.ref (q 0)] : List Value).toArray below meth c H locs 0 0 (MQ below (va_Qi Q (BW G (fun u : St => (wM cI q u)) A) A) ([.ref (q 0)] : List Value).toArray s 0 0 A) (F0 m 73 ls []) := by
              intro n_88
              induction n_88 using Nat.strongRecOn with
              | ind n_88 ih_93 =>
                intro x4_90 x3_91 D_92 hIn H locs ls hP hD hS hl
                have h := hI_96 n_88 x4_90 x3_91 D_92 hIn
                refine lv_iload hx hb dX6_does_73 (lv_at hl 0 rfl) ?_
                refine lv_iload_n hx hb dX6_does_75 rfl (lv_at hl 2 rfl) ?_
                refine lv_icmp_ge (tgt := 111) hx hb dX6_does_76 (by decide) (fun c_98 => ?_) (fun c_98 => ?_)
                · have h := h.1 c_98
                  refine lv_iload_n hx hb dX6_does_111 rfl (lv_at hl 1 rfl) ?_
                  refine lv_if_ne (tgt := 117) hx hb dX6_does_112 (by decide) (fun c_99 => ?_) (fun c_99 => ?_)
                  · have h := h.2 c_99
                    refine lv_iload_n hx hb dX6_does_117 rfl (lv_at hl 3 rfl) ?_
                    refine lv_lookup (off := 110) (tgt := 228) hx hb dX6_does_118 (by decide) (by show Op.lookupswitch.offset _ _ _ = _; rw [lv_osw (k := 105) c_31 (by decide), lv_osw (k := 111) c_2 (by decide), lv_osw (k := 112) c_59 (by decide), lv_osw (k := 119) c_30 (by decide)]; rfl) (by decide) ?_
                    refine lv_aload_n hx hb dX6_does_228 rfl (lv_at hl 4 rfl) ?_
                    refine lv_aload_n hx hb dX6_does_229 rfl (lv_at hl 4 rfl) ?_
                    refine va_get (D := G) (ci := 6) (v := .ref (q 6)) (C := RX6) (T := TX6) (N := 11) hx hb hts hinX6 hown hK hP 0 rfl rfl 10 (by decide) hL25 (fun _ h9 => h9) rfl dX6_does_230 ?_
                    refine lv_iconst (v := 0) hx hb dX6_does_233 (by decide) ?_
                    refine k_ald (f := (D_92 10)) (j := 0) (v := ((D_92 10) 0)) hx hb hK hP 6 0 rfl rfl (show ¬ ((0 : Int32) < 0 ∨ 2 ≤ (0 : Int32).toNatClampNeg) by decide) rfl rfl dX6_does_234 ?_
                    refine kc_i (As := [.int ((D_92 10) 0)]) (rest := []) (wg := (fun u => (wM cI q u))) ⟨hx, hb, hml, hown, hts⟩ (c_X6_cancel l G cI cC cD q _ D_92 ((D_92 10) 0) _ h) (cwV 1 hts gX6_does_X6_cancel rfl rfl rfl (by decide +kernel) ⟨Nat.le_of_ble_eq_true rfl, Nat.le_of_ble_eq_true rfl⟩) hK hN hP hD hS hA (em_MM cI q D_92) (fun u => rp_MM cI q D_92 u) rfl rfl rfl rfl hl.1 rfl (Nat.le_of_ble_eq_true rfl) dX6_does_235 ⟨Nat.zero_le _, Nat.zero_le _⟩ (fun r_100 u_101 H locs h hP hD hS => ?_)
                    refine ks_i (As := [.int r_100]) (rest := []) (wg := (fun _ => (wM cI q u_101))) ⟨hx, hb, hml, hown, hts⟩ (c_X6_asReason l G cI cC cD  _  r_100 _ h) (va_cwS 1 hts gX6_does_X6_asReason rfl rfl rfl (by decide +kernel) ⟨Nat.le_of_ble_eq_true rfl, Nat.le_of_ble_eq_true rfl⟩) hK hN hP hD hS hA (em_0 _) (fun _ => rp_self (em_0 _)) rfl hl.1 rfl (Nat.le_of_ble_eq_true rfl) dX6_does_238 ⟨Nat.zero_le _, Nat.zero_le _⟩ (fun r_102 _ H locs h hP hD hS => ?_)
                    exact W.iret (v := r_102) hx hb hr (fun t ht hW => ⟨⟨r_102, u_101, rfl, h, by rw [ht]; exact hP, hD⟩, hS.F ht⟩) hS.2.2 dX6_does_241
                  · have h := h.1 c_99
                    refine lv_iconst (v := 1) hx hb dX6_does_115 (by decide) ?_
                    exact W.iret (v := 1) hx hb hr (fun t ht hW => ⟨⟨1, D_92, rfl, h, by rw [ht]; exact hP, hD⟩, hS.F ht⟩) hS.2.2 dX6_does_116
                · have h := h.2 c_98
                  refine lv_iload_n hx hb dX6_does_79 rfl (lv_at hl 1 rfl) ?_
                  refine lv_if_eq (tgt := 111) hx hb dX6_does_80 (by decide) (fun c_103 => ?_) (fun c_103 => ?_)
                  · have h := h.1 c_103
                    refine lv_iload_n hx hb dX6_does_111 rfl (lv_at hl 1 rfl) ?_
                    refine lv_if_ne (tgt := 117) hx hb dX6_does_112 (by decide) (fun c => absurd c_103 c) (fun _ => ?_)
                    refine lv_iconst (v := 1) hx hb dX6_does_115 (by decide) ?_
                    exact W.iret (v := 1) hx hb hr (fun t ht hW => ⟨⟨1, D_92, rfl, h, by rw [ht]; exact hP, hD⟩, hS.F ht⟩) hS.2.2 dX6_does_116
                  · have h := h.2 c_103
                    refine lv_aload_n hx hb dX6_does_83 rfl (lv_at hl 4 rfl) ?_
                    refine lv_iload hx hb dX6_does_84 (lv_at hl 0 rfl) ?_
                    refine lv_iload hx hb dX6_does_86 (lv_at hl 0 rfl) ?_
                    refine lv_iload_n hx hb dX6_does_88 rfl (lv_at hl 2 rfl) ?_
                    refine lv_iconst (v := 1) hx hb dX6_does_89 (by decide) ?_
                    refine lv_isub hx hb dX6_does_90 ?_
                    refine lv_icmp_ne (tgt := 99) hx hb dX6_does_91 (by decide) (fun c_104 => ?_) (fun c_104 => ?_)
                    · have h := h.2 c_104
                      refine lv_bipush (v := 44) hx hb dX6_does_99 (by decide) ?_
                      refine kc_i (As := [.int x4_90, .int 44]) (rest := []) (wg := (fun u => (wM cI q u))) ⟨hx, hb, hml, hown, hts⟩ (c_X6_number l G cI cC cD q _ D_92 x4_90 44 _ h) (cwV 2 hts gX6_does_X6_number rfl rfl rfl (by decide +kernel) ⟨Nat.le_of_ble_eq_true rfl, Nat.le_of_ble_eq_true rfl⟩) hK hN hP hD hS hA (em_MM cI q D_92) (fun u => rp_MM cI q D_92 u) rfl rfl rfl rfl hl.1 rfl (Nat.le_of_ble_eq_true rfl) dX6_does_101 ⟨Nat.zero_le _, Nat.zero_le _⟩ (fun r_105 u_106 H locs h hP hD hS => ?_)
                      refine lv_istore_n (lv' := [(3, .int r_105), (4, .int x4_90), (2, .int 0), (1, .int ((M 6) (((M 8 0)).toNatClampNeg))), (0, .ref (q 0))]) hx hb dX6_does_104 rfl hl (by decide) rfl (fun ls hl => ?_)
                      refine lv_iinc (v := x4_90 + 1) (lv' := [(4, .int (x4_90 + 1)), (3, .int r_105), (2, .int 0), (1, .int ((M 6) (((M 8 0)).toNatClampNeg))), (0, .ref (q 0))]) hx hb dX6_does_105 hl (k := 1) rfl rfl (by decide) rfl (fun ls hl => ?_)
                      refine lv_goto (tgt := 73) hx hb dX6_does_108 (by decide) ?_
                      obtain ⟨n_107, lt_108, h_109⟩ := h
                      exact ih_93 n_107 lt_108 _ _ _ h_109 _ _ _ hP hD hS (lv_sub hl [0, 1, 2, 3, 4] rfl)
                    · have h := h.1 c_104
                      refine lv_bipush (v := 59) hx hb dX6_does_94 (by decide) ?_
                      refine lv_goto (tgt := 101) hx hb dX6_does_96 (by decide) ?_
                      refine kc_i (As := [.int x4_90, .int 59]) (rest := []) (wg := (fun u => (wM cI q u))) ⟨hx, hb, hml, hown, hts⟩ (c_X6_number l G cI cC cD q _ D_92 x4_90 59 _ h) (cwV 2 hts gX6_does_X6_number rfl rfl rfl (by decide +kernel) ⟨Nat.le_of_ble_eq_true rfl, Nat.le_of_ble_eq_true rfl⟩) hK hN hP hD hS hA (em_MM cI q D_92) (fun u => rp_MM cI q D_92 u) rfl rfl rfl rfl hl.1 rfl (Nat.le_of_ble_eq_true rfl) dX6_does_101 ⟨Nat.zero_le _, Nat.zero_le _⟩ (fun r_110 u_111 H locs h hP hD hS => ?_)
                      refine lv_istore_n (lv' := [(3, .int r_110), (4, .int x4_90), (2, .int 0), (1, .int ((M 6) (((M 8 0)).toNatClampNeg))), (0, .ref (q 0))]) hx hb dX6_does_104 rfl hl (by decide) rfl (fun ls hl => ?_)
                      refine lv_iinc (v := x4_90 + 1) (lv' := [(4, .int (x4_90 + 1)), (3, .int r_110), (2, .int 0), (1, .int ((M 6) (((M 8 0)).toNatClampNeg))), (0, .ref (q 0))]) hx hb dX6_does_105 hl (k := 1) rfl rfl (by decide) rfl (fun ls hl => ?_)
                      refine lv_goto (tgt := 73) hx hb dX6_does_108 (by decide) ?_
                      obtain ⟨n_112, lt_113, h_114⟩ := h
                      exact ih_93 n_112 lt_113 _ _ _ h_114 _ _ _ hP hD hS (lv_sub hl [0, 1, 2, 3, 4] rfl)
            exact lp_97 _ _ _ _ h_95 _ _ _ hP hD hS hl
          · have h := h.1 c_87
            refine lv_iconst (v := 1) hx hb dX6_does_54 (by decide) ?_
            refine lv_goto (tgt := 59) hx hb dX6_does_55 (by decide) ?_
            refine lv_istore_n (lv' := [(2, .int 1), (1, .int ((M 6) (((M 8 0)).toNatClampNeg))), (0, .ref (q 0))]) hx hb dX6_does_59 rfl hl (by decide) rfl (fun ls hl => ?_)
            refine lv_iload_n hx hb dX6_does_60 rfl (lv_at hl 0 rfl) ?_
            refine lv_if_le (tgt := 68) hx hb dX6_does_61 (by decide) (fun c => absurd c (by decide)) (fun _ => ?_)
            refine lv_iconst (v := 1) hx hb dX6_does_64 (by decide) ?_
            refine lv_goto (tgt := 69) hx hb dX6_does_65 (by decide) ?_
            refine lv_istore_n (lv' := [(3, .int 1), (2, .int 1), (1, .int ((M 6) (((M 8 0)).toNatClampNeg))), (0, .ref (q 0))]) hx hb dX6_does_69 rfl hl (by decide) rfl (fun ls hl => ?_)
            refine lv_iconst (v := 0) hx hb dX6_does_70 (by decide) ?_
            refine lv_istore (lv' := [(4, .int 0), (3, .int 1), (2, .int 1), (1, .int ((M 6) (((M 8 0)).toNatClampNeg))), (0, .ref (q 0))]) hx hb dX6_does_71 hl (by decide) rfl (fun ls hl => ?_)
            obtain ⟨I_116, n_121, h_122, hI_123⟩ := h
            have lp_124 : ∀ (n_115 : Nat) (x4_117 : Int32) (x3_118 : Int32) (D_119 : St), I_116 n_115 x4_117 x3_118 D_119 → ∀ (H : Heap) (locs : List Loc) (ls : Array Slot), va_P G vwCl (wM cI q D_119) H → va_D A (wM cI q D_119) → va_S A s.heap H locs → lv_has ls 5 [(4, .int x4_117), (3, .int x3_118), (2, .int 1), (1, .int ((M 6) (((M 8 0)).toNatClampNeg))), (0, .ref (q 0))] → W p l e (headSpec wsX6_does ({ frames := 6, cells := 0, slots := 0, locals := 133 })).room s m ([.ref (q 0)] : List Value).toArray below meth c H locs 0 0 (MQ below (va_Qi Q (BW G (fun u : St => (wM cI q u)) A) A) ([.ref (q 0)] : List Value).toArray s 0 0 A) (F0 m 73 ls []) := by
              intro n_115
              induction n_115 using Nat.strongRecOn with
              | ind n_115 ih_120 =>
                intro x4_117 x3_118 D_119 hIn H locs ls hP hD hS hl
                have h := hI_123 n_115 x4_117 x3_118 D_119 hIn
                refine lv_iload hx hb dX6_does_73 (lv_at hl 0 rfl) ?_
                refine lv_iload_n hx hb dX6_does_75 rfl (lv_at hl 2 rfl) ?_
                refine lv_icmp_ge (tgt := 111) hx hb dX6_does_76 (by decide) (fun c_125 => ?_) (fun c_125 => ?_)
                · have h := h.1 c_125
                  refine lv_iload_n hx hb dX6_does_111 rfl (lv_at hl 1 rfl) ?_
                  refine lv_if_ne (tgt := 117) hx hb dX6_does_112 (by decide) (fun c_126 => ?_) (fun c_126 => ?_)
                  · have h := h.2 c_126
                    refine lv_iload_n hx hb dX6_does_117 rfl (lv_at hl 3 rfl) ?_
                    refine lv_lookup (off := 110) (tgt := 228) hx hb dX6_does_118 (by decide) (by show Op.lookupswitch.offset _ _ _ = _; rw [lv_osw (k := 105) c_31 (by decide), lv_osw (k := 111) c_2 (by decide), lv_osw (k := 112) c_59 (by decide), lv_osw (k := 119) c_30 (by decide)]; rfl) (by decide) ?_
                    refine lv_aload_n hx hb dX6_does_228 rfl (lv_at hl 4 rfl) ?_
                    refine lv_aload_n hx hb dX6_does_229 rfl (lv_at hl 4 rfl) ?_
                    refine va_get (D := G) (ci := 6) (v := .ref (q 6)) (C := RX6) (T := TX6) (N := 11) hx hb hts hinX6 hown hK hP 0 rfl rfl 10 (by decide) hL25 (fun _ h9 => h9) rfl dX6_does_230 ?_
                    refine lv_iconst (v := 0) hx hb dX6_does_233 (by decide) ?_
                    refine k_ald (f := (D_119 10)) (j := 0) (v := ((D_119 10) 0)) hx hb hK hP 6 0 rfl rfl (show ¬ ((0 : Int32) < 0 ∨ 2 ≤ (0 : Int32).toNatClampNeg) by decide) rfl rfl dX6_does_234 ?_
                    refine kc_i (As := [.int ((D_119 10) 0)]) (rest := []) (wg := (fun u => (wM cI q u))) ⟨hx, hb, hml, hown, hts⟩ (c_X6_cancel l G cI cC cD q _ D_119 ((D_119 10) 0) _ h) (cwV 1 hts gX6_does_X6_cancel rfl rfl rfl (by decide +kernel) ⟨Nat.le_of_ble_eq_true rfl, Nat.le_of_ble_eq_true rfl⟩) hK hN hP hD hS hA (em_MM cI q D_119) (fun u => rp_MM cI q D_119 u) rfl rfl rfl rfl hl.1 rfl (Nat.le_of_ble_eq_true rfl) dX6_does_235 ⟨Nat.zero_le _, Nat.zero_le _⟩ (fun r_127 u_128 H locs h hP hD hS => ?_)
                    refine ks_i (As := [.int r_127]) (rest := []) (wg := (fun _ => (wM cI q u_128))) ⟨hx, hb, hml, hown, hts⟩ (c_X6_asReason l G cI cC cD  _  r_127 _ h) (va_cwS 1 hts gX6_does_X6_asReason rfl rfl rfl (by decide +kernel) ⟨Nat.le_of_ble_eq_true rfl, Nat.le_of_ble_eq_true rfl⟩) hK hN hP hD hS hA (em_0 _) (fun _ => rp_self (em_0 _)) rfl hl.1 rfl (Nat.le_of_ble_eq_true rfl) dX6_does_238 ⟨Nat.zero_le _, Nat.zero_le _⟩ (fun r_129 _ H locs h hP hD hS => ?_)
                    exact W.iret (v := r_129) hx hb hr (fun t ht hW => ⟨⟨r_129, u_128, rfl, h, by rw [ht]; exact hP, hD⟩, hS.F ht⟩) hS.2.2 dX6_does_241
                  · have h := h.1 c_126
                    refine lv_iconst (v := 1) hx hb dX6_does_115 (by decide) ?_
                    exact W.iret (v := 1) hx hb hr (fun t ht hW => ⟨⟨1, D_119, rfl, h, by rw [ht]; exact hP, hD⟩, hS.F ht⟩) hS.2.2 dX6_does_116
                · have h := h.2 c_125
                  refine lv_iload_n hx hb dX6_does_79 rfl (lv_at hl 1 rfl) ?_
                  refine lv_if_eq (tgt := 111) hx hb dX6_does_80 (by decide) (fun c_130 => ?_) (fun c_130 => ?_)
                  · have h := h.1 c_130
                    refine lv_iload_n hx hb dX6_does_111 rfl (lv_at hl 1 rfl) ?_
                    refine lv_if_ne (tgt := 117) hx hb dX6_does_112 (by decide) (fun c => absurd c_130 c) (fun _ => ?_)
                    refine lv_iconst (v := 1) hx hb dX6_does_115 (by decide) ?_
                    exact W.iret (v := 1) hx hb hr (fun t ht hW => ⟨⟨1, D_119, rfl, h, by rw [ht]; exact hP, hD⟩, hS.F ht⟩) hS.2.2 dX6_does_116
                  · have h := h.2 c_130
                    refine lv_aload_n hx hb dX6_does_83 rfl (lv_at hl 4 rfl) ?_
                    refine lv_iload hx hb dX6_does_84 (lv_at hl 0 rfl) ?_
                    refine lv_iload hx hb dX6_does_86 (lv_at hl 0 rfl) ?_
                    refine lv_iload_n hx hb dX6_does_88 rfl (lv_at hl 2 rfl) ?_
                    refine lv_iconst (v := 1) hx hb dX6_does_89 (by decide) ?_
                    refine lv_isub hx hb dX6_does_90 ?_
                    refine lv_icmp_ne (tgt := 99) hx hb dX6_does_91 (by decide) (fun c_131 => ?_) (fun c_131 => ?_)
                    · have h := h.2 c_131
                      refine lv_bipush (v := 44) hx hb dX6_does_99 (by decide) ?_
                      refine kc_i (As := [.int x4_117, .int 44]) (rest := []) (wg := (fun u => (wM cI q u))) ⟨hx, hb, hml, hown, hts⟩ (c_X6_number l G cI cC cD q _ D_119 x4_117 44 _ h) (cwV 2 hts gX6_does_X6_number rfl rfl rfl (by decide +kernel) ⟨Nat.le_of_ble_eq_true rfl, Nat.le_of_ble_eq_true rfl⟩) hK hN hP hD hS hA (em_MM cI q D_119) (fun u => rp_MM cI q D_119 u) rfl rfl rfl rfl hl.1 rfl (Nat.le_of_ble_eq_true rfl) dX6_does_101 ⟨Nat.zero_le _, Nat.zero_le _⟩ (fun r_132 u_133 H locs h hP hD hS => ?_)
                      refine lv_istore_n (lv' := [(3, .int r_132), (4, .int x4_117), (2, .int 1), (1, .int ((M 6) (((M 8 0)).toNatClampNeg))), (0, .ref (q 0))]) hx hb dX6_does_104 rfl hl (by decide) rfl (fun ls hl => ?_)
                      refine lv_iinc (v := x4_117 + 1) (lv' := [(4, .int (x4_117 + 1)), (3, .int r_132), (2, .int 1), (1, .int ((M 6) (((M 8 0)).toNatClampNeg))), (0, .ref (q 0))]) hx hb dX6_does_105 hl (k := 1) rfl rfl (by decide) rfl (fun ls hl => ?_)
                      refine lv_goto (tgt := 73) hx hb dX6_does_108 (by decide) ?_
                      obtain ⟨n_134, lt_135, h_136⟩ := h
                      exact ih_120 n_134 lt_135 _ _ _ h_136 _ _ _ hP hD hS (lv_sub hl [0, 1, 2, 3, 4] rfl)
                    · have h := h.1 c_131
                      refine lv_bipush (v := 59) hx hb dX6_does_94 (by decide) ?_
                      refine lv_goto (tgt := 101) hx hb dX6_does_96 (by decide) ?_
                      refine kc_i (As := [.int x4_117, .int 59]) (rest := []) (wg := (fun u => (wM cI q u))) ⟨hx, hb, hml, hown, hts⟩ (c_X6_number l G cI cC cD q _ D_119 x4_117 59 _ h) (cwV 2 hts gX6_does_X6_number rfl rfl rfl (by decide +kernel) ⟨Nat.le_of_ble_eq_true rfl, Nat.le_of_ble_eq_true rfl⟩) hK hN hP hD hS hA (em_MM cI q D_119) (fun u => rp_MM cI q D_119 u) rfl rfl rfl rfl hl.1 rfl (Nat.le_of_ble_eq_true rfl) dX6_does_101 ⟨Nat.zero_le _, Nat.zero_le _⟩ (fun r_137 u_138 H locs h hP hD hS => ?_)
                      refine lv_istore_n (lv' := [(3, .int r_137), (4, .int x4_117), (2, .int 1), (1, .int ((M 6) (((M 8 0)).toNatClampNeg))), (0, .ref (q 0))]) hx hb dX6_does_104 rfl hl (by decide) rfl (fun ls hl => ?_)
                      refine lv_iinc (v := x4_117 + 1) (lv' := [(4, .int (x4_117 + 1)), (3, .int r_137), (2, .int 1), (1, .int ((M 6) (((M 8 0)).toNatClampNeg))), (0, .ref (q 0))]) hx hb dX6_does_105 hl (k := 1) rfl rfl (by decide) rfl (fun ls hl => ?_)
                      refine lv_goto (tgt := 73) hx hb dX6_does_108 (by decide) ?_
                      obtain ⟨n_139, lt_140, h_141⟩ := h
                      exact ih_120 n_139 lt_140 _ _ _ h_141 _ _ _ hP hD hS (lv_sub hl [0, 1, 2, 3, 4] rfl)
            exact lp_124 _ _ _ _ h_122 _ _ _ hP hD hS hl
    · have h := h.1 c_30
      refine lv_iconst (v := 2) hx hb dX6_does_32 (by decide) ?_
      refine lv_goto (tgt := 59) hx hb dX6_does_33 (by decide) ?_
      refine lv_istore_n (lv' := [(2, .int 2), (1, .int ((M 6) (((M 8 0)).toNatClampNeg))), (0, .ref (q 0))]) hx hb dX6_does_59 rfl hl (by decide) rfl (fun ls hl => ?_)
      refine lv_iload_n hx hb dX6_does_60 rfl (lv_at hl 0 rfl) ?_
      refine lv_if_le (tgt := 68) hx hb dX6_does_61 (by decide) (fun c => absurd c (by decide)) (fun _ => ?_)
      refine lv_iconst (v := 1) hx hb dX6_does_64 (by decide) ?_
      refine lv_goto (tgt := 69) hx hb dX6_does_65 (by decide) ?_
      refine lv_istore_n (lv' := [(3, .int 1), (2, .int 2), (1, .int ((M 6) (((M 8 0)).toNatClampNeg))), (0, .ref (q 0))]) hx hb dX6_does_69 rfl hl (by decide) rfl (fun ls hl => ?_)
      refine lv_iconst (v := 0) hx hb dX6_does_70 (by decide) ?_
      refine lv_istore (lv' := [(4, .int 0), (3, .int 1), (2, .int 2), (1, .int ((M 6) (((M 8 0)).toNatClampNeg))), (0, .ref (q 0))]) hx hb dX6_does_71 hl (by decide) rfl (fun ls hl => ?_)
      obtain ⟨I_143, n_148, h_149, hI_150⟩ := h
      have lp_151 : ∀ (n_142 : Nat) (x4_144 : Int32) (x3_145 : Int32) (D_146 : St), I_143 n_142 x4_144 x3_145 D_146 → ∀ (H : Heap) (locs : List Loc) (ls : Array Slot), va_P G vwCl (wM cI q D_146) H → va_D A (wM cI q D_146) → va_S A s.heap H locs → lv_has ls 5 [(4, .int x4_144), (3, .int x3_145), (2, .int 2), (1, .int ((M 6) (((M 8 0)).toNatClampNeg))), (0, .ref (q 0))] → W p l e (headSpec wsX6_does ({ frames := 6, cells := 0, slots := 0, locals := 133 })).room s m ([.ref (q 0)] : List Value).toArray below meth c H locs 0 0 (MQ below (va_Qi Q (BW G (fun u : St => (wM cI q u)) A) A) ([.ref (q 0)] : List Value).toArray s 0 0 A) (F0 m 73 ls []) := by
        intro n_142
        induction n_142 using Nat.strongRecOn with
        | ind n_142 ih_147 =>
          intro x4_144 x3_145 D_146 hIn H locs ls hP hD hS hl
          have h := hI_150 n_142 x4_144 x3_145 D_146 hIn
          refine lv_iload hx hb dX6_does_73 (lv_at hl 0 rfl) ?_
          refine lv_iload_n hx hb dX6_does_75 rfl (lv_at hl 2 rfl) ?_
          refine lv_icmp_ge (tgt := 111) hx hb dX6_does_76 (by decide) (fun c_152 => ?_) (fun c_152 => ?_)
          · have h := h.1 c_152
            refine lv_iload_n hx hb dX6_does_111 rfl (lv_at hl 1 rfl) ?_
            refine lv_if_ne (tgt := 117) hx hb dX6_does_112 (by decide) (fun c_153 => ?_) (fun c_153 => ?_)
            · have h := h.2 c_153
              refine lv_iload_n hx hb dX6_does_117 rfl (lv_at hl 3 rfl) ?_
              refine lv_lookup (off := 62) (tgt := 180) hx hb dX6_does_118 (by decide) (by rw [c_30]; decide) (by decide) ?_
              refine lv_aload_n hx hb dX6_does_180 rfl (lv_at hl 4 rfl) ?_
              refine lv_aload_n hx hb dX6_does_181 rfl (lv_at hl 4 rfl) ?_
              refine va_get (D := G) (ci := 6) (v := .ref (q 6)) (C := RX6) (T := TX6) (N := 11) hx hb hts hinX6 hown hK hP 0 rfl rfl 10 (by decide) hL25 (fun _ h9 => h9) rfl dX6_does_182 ?_
              refine lv_iconst (v := 0) hx hb dX6_does_185 (by decide) ?_
              refine k_ald (f := (D_146 10)) (j := 0) (v := ((D_146 10) 0)) hx hb hK hP 6 0 rfl rfl (show ¬ ((0 : Int32) < 0 ∨ 2 ≤ (0 : Int32).toNatClampNeg) by decide) rfl rfl dX6_does_186 ?_
              refine lv_aload_n hx hb dX6_does_187 rfl (lv_at hl 4 rfl) ?_
              refine va_get (D := G) (ci := 6) (v := .ref (q 6)) (C := RX6) (T := TX6) (N := 11) hx hb hts hinX6 hown hK hP 0 rfl rfl 10 (by decide) hL25 (fun _ h9 => h9) rfl dX6_does_188 ?_
              refine lv_iconst (v := 1) hx hb dX6_does_191 (by decide) ?_
              refine k_ald (f := (D_146 10)) (j := 1) (v := ((D_146 10) 1)) hx hb hK hP 6 0 rfl rfl (show ¬ ((1 : Int32) < 0 ∨ 2 ≤ (1 : Int32).toNatClampNeg) by decide) rfl rfl dX6_does_192 ?_
              refine kc_i (As := [.int ((D_146 10) 0), .int ((D_146 10) 1)]) (rest := []) (wg := (fun u => (wM cI q u))) ⟨hx, hb, hml, hown, hts⟩ (c_X6_gate l G cI cC cD q _ D_146 ((D_146 10) 0) ((D_146 10) 1) _ h) (cwV 2 hts gX6_does_X6_gate rfl rfl rfl (by decide +kernel) ⟨Nat.le_of_ble_eq_true rfl, Nat.le_of_ble_eq_true rfl⟩) hK hN hP hD hS hA (em_MM cI q D_146) (fun u => rp_MM cI q D_146 u) rfl rfl rfl rfl hl.1 rfl (Nat.le_of_ble_eq_true rfl) dX6_does_193 ⟨Nat.zero_le _, Nat.zero_le _⟩ (fun r_154 u_155 H locs h hP hD hS => ?_)
              refine ks_i (As := [.int r_154]) (rest := []) (wg := (fun _ => (wM cI q u_155))) ⟨hx, hb, hml, hown, hts⟩ (c_X6_asReason l G cI cC cD  _  r_154 _ h) (va_cwS 1 hts gX6_does_X6_asReason rfl rfl rfl (by decide +kernel) ⟨Nat.le_of_ble_eq_true rfl, Nat.le_of_ble_eq_true rfl⟩) hK hN hP hD hS hA (em_0 _) (fun _ => rp_self (em_0 _)) rfl hl.1 rfl (Nat.le_of_ble_eq_true rfl) dX6_does_196 ⟨Nat.zero_le _, Nat.zero_le _⟩ (fun r_156 _ H locs h hP hD hS => ?_)
              exact W.iret (v := r_156) hx hb hr (fun t ht hW => ⟨⟨r_156, u_155, rfl, h, by rw [ht]; exact hP, hD⟩, hS.F ht⟩) hS.2.2 dX6_does_199
            · have h := h.1 c_153
              refine lv_iconst (v := 1) hx hb dX6_does_115 (by decide) ?_
              exact W.iret (v := 1) hx hb hr (fun t ht hW => ⟨⟨1, D_146, rfl, h, by rw [ht]; exact hP, hD⟩, hS.F ht⟩) hS.2.2 dX6_does_116
          · have h := h.2 c_152
            refine lv_iload_n hx hb dX6_does_79 rfl (lv_at hl 1 rfl) ?_
            refine lv_if_eq (tgt := 111) hx hb dX6_does_80 (by decide) (fun c_157 => ?_) (fun c_157 => ?_)
            · have h := h.1 c_157
              refine lv_iload_n hx hb dX6_does_111 rfl (lv_at hl 1 rfl) ?_
              refine lv_if_ne (tgt := 117) hx hb dX6_does_112 (by decide) (fun c => absurd c_157 c) (fun _ => ?_)
              refine lv_iconst (v := 1) hx hb dX6_does_115 (by decide) ?_
              exact W.iret (v := 1) hx hb hr (fun t ht hW => ⟨⟨1, D_146, rfl, h, by rw [ht]; exact hP, hD⟩, hS.F ht⟩) hS.2.2 dX6_does_116
            · have h := h.2 c_157
              refine lv_aload_n hx hb dX6_does_83 rfl (lv_at hl 4 rfl) ?_
              refine lv_iload hx hb dX6_does_84 (lv_at hl 0 rfl) ?_
              refine lv_iload hx hb dX6_does_86 (lv_at hl 0 rfl) ?_
              refine lv_iload_n hx hb dX6_does_88 rfl (lv_at hl 2 rfl) ?_
              refine lv_iconst (v := 1) hx hb dX6_does_89 (by decide) ?_
              refine lv_isub hx hb dX6_does_90 ?_
              refine lv_icmp_ne (tgt := 99) hx hb dX6_does_91 (by decide) (fun c_158 => ?_) (fun c_158 => ?_)
              · have h := h.2 c_158
                refine lv_bipush (v := 44) hx hb dX6_does_99 (by decide) ?_
                refine kc_i (As := [.int x4_144, .int 44]) (rest := []) (wg := (fun u => (wM cI q u))) ⟨hx, hb, hml, hown, hts⟩ (c_X6_number l G cI cC cD q _ D_146 x4_144 44 _ h) (cwV 2 hts gX6_does_X6_number rfl rfl rfl (by decide +kernel) ⟨Nat.le_of_ble_eq_true rfl, Nat.le_of_ble_eq_true rfl⟩) hK hN hP hD hS hA (em_MM cI q D_146) (fun u => rp_MM cI q D_146 u) rfl rfl rfl rfl hl.1 rfl (Nat.le_of_ble_eq_true rfl) dX6_does_101 ⟨Nat.zero_le _, Nat.zero_le _⟩ (fun r_159 u_160 H locs h hP hD hS => ?_)
                refine lv_istore_n (lv' := [(3, .int r_159), (4, .int x4_144), (2, .int 2), (1, .int ((M 6) (((M 8 0)).toNatClampNeg))), (0, .ref (q 0))]) hx hb dX6_does_104 rfl hl (by decide) rfl (fun ls hl => ?_)
                refine lv_iinc (v := x4_144 + 1) (lv' := [(4, .int (x4_144 + 1)), (3, .int r_159), (2, .int 2), (1, .int ((M 6) (((M 8 0)).toNatClampNeg))), (0, .ref (q 0))]) hx hb dX6_does_105 hl (k := 1) rfl rfl (by decide) rfl (fun ls hl => ?_)
                refine lv_goto (tgt := 73) hx hb dX6_does_108 (by decide) ?_
                obtain ⟨n_161, lt_162, h_163⟩ := h
                exact ih_147 n_161 lt_162 _ _ _ h_163 _ _ _ hP hD hS (lv_sub hl [0, 1, 2, 3, 4] rfl)
              · have h := h.1 c_158
                refine lv_bipush (v := 59) hx hb dX6_does_94 (by decide) ?_
                refine lv_goto (tgt := 101) hx hb dX6_does_96 (by decide) ?_
                refine kc_i (As := [.int x4_144, .int 59]) (rest := []) (wg := (fun u => (wM cI q u))) ⟨hx, hb, hml, hown, hts⟩ (c_X6_number l G cI cC cD q _ D_146 x4_144 59 _ h) (cwV 2 hts gX6_does_X6_number rfl rfl rfl (by decide +kernel) ⟨Nat.le_of_ble_eq_true rfl, Nat.le_of_ble_eq_true rfl⟩) hK hN hP hD hS hA (em_MM cI q D_146) (fun u => rp_MM cI q D_146 u) rfl rfl rfl rfl hl.1 rfl (Nat.le_of_ble_eq_true rfl) dX6_does_101 ⟨Nat.zero_le _, Nat.zero_le _⟩ (fun r_164 u_165 H locs h hP hD hS => ?_)
                refine lv_istore_n (lv' := [(3, .int r_164), (4, .int x4_144), (2, .int 2), (1, .int ((M 6) (((M 8 0)).toNatClampNeg))), (0, .ref (q 0))]) hx hb dX6_does_104 rfl hl (by decide) rfl (fun ls hl => ?_)
                refine lv_iinc (v := x4_144 + 1) (lv' := [(4, .int (x4_144 + 1)), (3, .int r_164), (2, .int 2), (1, .int ((M 6) (((M 8 0)).toNatClampNeg))), (0, .ref (q 0))]) hx hb dX6_does_105 hl (k := 1) rfl rfl (by decide) rfl (fun ls hl => ?_)
                refine lv_goto (tgt := 73) hx hb dX6_does_108 (by decide) ?_
                obtain ⟨n_166, lt_167, h_168⟩ := h
                exact ih_147 n_166 lt_167 _ _ _ h_168 _ _ _ hP hD hS (lv_sub hl [0, 1, 2, 3, 4] rfl)
      exact lp_151 _ _ _ _ h_149 _ _ _ hP hD hS hl
def q_X6_plays (M : St) (Q : Int32 → St → Prop) : Prop :=
  ∃ (I_2 : Nat → Int32 → St → Prop) (n_6 : Nat), I_2 n_6 0 (uA (uA (uA M 5 (fun _ => 1)) 8 (fun _ => 0)) 9 (fun _ => 0)) ∧ ∀ (n_1 : Nat) (x1_3 : Int32) (D_4 : St), I_2 n_1 x1_3 D_4 → (((D_4 7 0) ≤ (D_4 8 0) → ((D_4 9 0) = 0 → Q (-1000004) (uA D_4 5 (fun _ => 0))) ∧ (¬ ((D_4 9 0) = 0) → Q x1_3 (uA D_4 5 (fun _ => 0)))) ∧ (¬ ((D_4 7 0) ≤ (D_4 8 0)) → ((D_4 9 0) = 0 → q_X6_does D_4 (fun r_13 u_14 => ∃ n_15, n_15 < n_1 ∧ I_2 n_15 (D_4 8 0) (uA u_14 9 (fun _ => r_13)))) ∧ (¬ ((D_4 9 0) = 0) → Q x1_3 (uA D_4 5 (fun _ => 0)))))
set_option maxHeartbeats 4000000 in
set_option maxRecDepth 100000 in
theorem c_X6_plays (l : Launch) (G : va_G) (cI cC cD : ClassId) (q : Nat → Nat) (sz : Nat) (M : St)  (Q : Int32 → St → Prop) (h : q_X6_plays  M Q) : Met l yX6_plays wsX6_plays ({ frames := 7, cells := 0, slots := 0, locals := 157 }) (va_Pc [.ref (q 0)] (PW G (ty3 cI cC cD) (wM cI q M) sz)) (va_Qi Q (BW G (fun u : St => (wM cI q u)) (va_A (wM cI q M) sz)) (va_A (wM cI q M) sz)) 0 0 (va_A (wM cI q M) sz) := by
  refine Met.ofW (cc := cX6_plays) (maxL := 2) (ret := (some .int)) (by decide) rfl ?_
  intro p e s m args below meth c s₁ B hml hv
  obtain ⟨rfl, hsz, hP, hK, hD0, hN⟩ := hv
  have hx := B.exec
  have hb := B.bytes
  have hr := B.returns
  have hts := atoms_spec (ws := wsX6_plays) B.pre
  have hown : s.vm.findClass RX6 = some m.cls := findClass_of_methodNamed B.named
  have hlocks := B.notSynchronized
  subst hsz
  have hD := hD0.self (sz := s.heap.size)
  generalize hAe : va_A (wM cI q M) s.heap.size = A at hD ⊢
  have hA : ∀ q : Nat, s.heap.size ≤ q → A q := fun q h => by rw [← hAe]; exact Or.inr h
  have hS : va_S A s.heap s.heap [] := va_S.rf
  have hl := lv_entry ([.ref (q 0)]) (n := 2) (Nat.le_of_ble_eq_true rfl)
  rw [lg_entry_eq]
  generalize (lg_sl ([.ref (q 0)]) ++ List.replicate (2 - (lg_sl ([.ref (q 0)])).length) Slot.unset).toArray = ls at hl ⊢
  have hl : lv_has ls 2 [(0, .ref (q 0))] := hl
  have hinX6 : ∀ w ∈ wsX60, w ∈ wsX6_plays := by decide +kernel
  have hL28 := hts (.fieldLink RX6 28 "CraneGatesModel" "runs" "Z") (by decide +kernel)
  have hL143 := hts (.fieldLink RX6 143 "CraneGatesModel" "typed" "I") (by decide +kernel)
  have hL146 := hts (.fieldLink RX6 146 "CraneGatesModel" "spot" "I") (by decide +kernel)
  have hL173 := hts (.fieldLink RX6 173 "CraneGatesModel" "reason" "I") (by decide +kernel)
  unfold q_X6_plays at h
  refine lv_aload_n hx hb dX6_plays_0 rfl (lv_at hl 0 rfl) ?_
  refine lv_iconst (v := 1) hx hb dX6_plays_1 (by decide) ?_
  refine va_put (D := G) (ci := 6) (v := .int 1) (ty := .boolean) (C := RX6) (T := TX6) (N := 11) hx hb hts hinX6 tyX6 tyX6_ok nmX6 hown hK hP hD hS 0 rfl rfl 5 (by decide) hL28 (fun _ h9 => h9) rfl (by decide +kernel) rfl rfl (Nat.le_of_ble_eq_true rfl) dX6_plays_2 (fun H locs hP hD hS => ?_)
  have hP : va_P G vwCl (wM cI q (uA M 5 (fun _ => 1))) H := hP
  have hD : va_D A (wM cI q (uA M 5 (fun _ => 1))) := hD
  refine lv_aload_n hx hb dX6_plays_5 rfl (lv_at hl 0 rfl) ?_
  refine lv_iconst (v := 0) hx hb dX6_plays_6 (by decide) ?_
  refine va_put (D := G) (ci := 6) (v := .int 0) (ty := .int) (C := RX6) (T := TX6) (N := 11) hx hb hts hinX6 tyX6 tyX6_ok nmX6 hown hK hP hD hS 0 rfl rfl 8 (by decide) hL146 (fun _ h9 => h9) rfl (by decide +kernel) rfl rfl (Nat.le_of_ble_eq_true rfl) dX6_plays_7 (fun H locs hP hD hS => ?_)
  have hP : va_P G vwCl (wM cI q (uA (uA M 5 (fun _ => 1)) 8 (fun _ => 0))) H := hP
  have hD : va_D A (wM cI q (uA (uA M 5 (fun _ => 1)) 8 (fun _ => 0))) := hD
  refine lv_aload_n hx hb dX6_plays_10 rfl (lv_at hl 0 rfl) ?_
  refine lv_iconst (v := 0) hx hb dX6_plays_11 (by decide) ?_
  refine va_put (D := G) (ci := 6) (v := .int 0) (ty := .int) (C := RX6) (T := TX6) (N := 11) hx hb hts hinX6 tyX6 tyX6_ok nmX6 hown hK hP hD hS 0 rfl rfl 9 (by decide) hL173 (fun _ h9 => h9) rfl (by decide +kernel) rfl rfl (Nat.le_of_ble_eq_true rfl) dX6_plays_12 (fun H locs hP hD hS => ?_)
  have hP : va_P G vwCl (wM cI q (uA (uA (uA M 5 (fun _ => 1)) 8 (fun _ => 0)) 9 (fun _ => 0))) H := hP
  have hD : va_D A (wM cI q (uA (uA (uA M 5 (fun _ => 1)) 8 (fun _ => 0)) 9 (fun _ => 0))) := hD
  refine lv_iconst (v := 0) hx hb dX6_plays_15 (by decide) ?_
  refine lv_istore_n (lv' := [(1, .int 0), (0, .ref (q 0))]) hx hb dX6_plays_16 rfl hl (by decide) rfl (fun ls hl => ?_)
  obtain ⟨I_2, n_6, h_7, hI_8⟩ := h
  have lp_9 : ∀ (n_1 : Nat) (x1_3 : Int32) (D_4 : St), I_2 n_1 x1_3 D_4 → ∀ (H : Heap) (locs : List Loc) (ls : Array Slot), va_P G vwCl (wM cI q D_4) H → va_D A (wM cI q D_4) → va_S A s.heap H locs → lv_has ls 2 [(1, .int x1_3), (0, .ref (q 0))] → W p l e (headSpec wsX6_plays ({ frames := 7, cells := 0, slots := 0, locals := 157 })).room s m ([.ref (q 0)] : List Value).toArray below meth c H locs 0 0 (MQ below (va_Qi Q (BW G (fun u : St => (wM cI q u)) A) A) ([.ref (q 0)] : List Value).toArray s 0 0 A) (F0 m 17 ls []) := by
    intro n_1
    induction n_1 using Nat.strongRecOn with
    | ind n_1 ih_5 =>
      intro x1_3 D_4 hIn H locs ls hP hD hS hl
      have h := hI_8 n_1 x1_3 D_4 hIn
      refine lv_aload_n hx hb dX6_plays_17 rfl (lv_at hl 1 rfl) ?_
      refine va_get (D := G) (ci := 6) (v := .int (D_4 8 0)) (C := RX6) (T := TX6) (N := 11) hx hb hts hinX6 hown hK hP 0 rfl rfl 8 (by decide) hL146 (fun _ h9 => h9) rfl dX6_plays_18 ?_
      refine lv_aload_n hx hb dX6_plays_21 rfl (lv_at hl 1 rfl) ?_
      refine va_get (D := G) (ci := 6) (v := .int (D_4 7 0)) (C := RX6) (T := TX6) (N := 11) hx hb hts hinX6 hown hK hP 0 rfl rfl 7 (by decide) hL143 (fun _ h9 => h9) rfl dX6_plays_22 ?_
      refine lv_icmp_ge (tgt := 51) hx hb dX6_plays_25 (by decide) (fun c_10 => ?_) (fun c_10 => ?_)
      · have h := h.1 c_10
        refine lv_aload_n hx hb dX6_plays_51 rfl (lv_at hl 1 rfl) ?_
        refine lv_iconst (v := 0) hx hb dX6_plays_52 (by decide) ?_
        refine va_put (D := G) (ci := 6) (v := .int 0) (ty := .boolean) (C := RX6) (T := TX6) (N := 11) hx hb hts hinX6 tyX6 tyX6_ok nmX6 hown hK hP hD hS 0 rfl rfl 5 (by decide) hL28 (fun _ h9 => h9) rfl (by decide +kernel) rfl rfl (Nat.le_of_ble_eq_true rfl) dX6_plays_53 (fun H locs hP hD hS => ?_)
        have hP : va_P G vwCl (wM cI q (uA D_4 5 (fun _ => 0))) H := hP
        have hD : va_D A (wM cI q (uA D_4 5 (fun _ => 0))) := hD
        refine lv_aload_n hx hb dX6_plays_56 rfl (lv_at hl 1 rfl) ?_
        refine va_get (D := G) (ci := 6) (v := .int (D_4 9 0)) (C := RX6) (T := TX6) (N := 11) hx hb hts hinX6 hown hK hP 0 rfl rfl 9 (by decide) hL173 (fun _ h9 => h9) rfl dX6_plays_57 ?_
        refine lv_if_ne (tgt := 68) hx hb dX6_plays_60 (by decide) (fun c_11 => ?_) (fun c_11 => ?_)
        · have h := h.2 c_11
          refine lv_iload_n hx hb dX6_plays_68 rfl (lv_at hl 0 rfl) ?_
          exact W.iret (v := x1_3) hx hb hr (fun t ht hW => ⟨⟨x1_3, (uA D_4 5 (fun _ => 0)), rfl, h, by rw [ht]; exact hP, hD⟩, hS.F ht⟩) hS.2.2 dX6_plays_69
        · have h := h.1 c_11
          refine lv_ldc hx hb hown (hts (.constant RX6 40 (-1000004)) (by decide +kernel)) dX6_plays_63 ?_
          refine lv_goto (tgt := 69) hx hb dX6_plays_65 (by decide) ?_
          exact W.iret (v := (-1000004)) hx hb hr (fun t ht hW => ⟨⟨(-1000004), (uA D_4 5 (fun _ => 0)), rfl, h, by rw [ht]; exact hP, hD⟩, hS.F ht⟩) hS.2.2 dX6_plays_69
      · have h := h.2 c_10
        refine lv_aload_n hx hb dX6_plays_28 rfl (lv_at hl 1 rfl) ?_
        refine va_get (D := G) (ci := 6) (v := .int (D_4 9 0)) (C := RX6) (T := TX6) (N := 11) hx hb hts hinX6 hown hK hP 0 rfl rfl 9 (by decide) hL173 (fun _ h9 => h9) rfl dX6_plays_29 ?_
        refine lv_if_ne (tgt := 51) hx hb dX6_plays_32 (by decide) (fun c_12 => ?_) (fun c_12 => ?_)
        · have h := h.2 c_12
          refine lv_aload_n hx hb dX6_plays_51 rfl (lv_at hl 1 rfl) ?_
          refine lv_iconst (v := 0) hx hb dX6_plays_52 (by decide) ?_
          refine va_put (D := G) (ci := 6) (v := .int 0) (ty := .boolean) (C := RX6) (T := TX6) (N := 11) hx hb hts hinX6 tyX6 tyX6_ok nmX6 hown hK hP hD hS 0 rfl rfl 5 (by decide) hL28 (fun _ h9 => h9) rfl (by decide +kernel) rfl rfl (Nat.le_of_ble_eq_true rfl) dX6_plays_53 (fun H locs hP hD hS => ?_)
          have hP : va_P G vwCl (wM cI q (uA D_4 5 (fun _ => 0))) H := hP
          have hD : va_D A (wM cI q (uA D_4 5 (fun _ => 0))) := hD
          refine lv_aload_n hx hb dX6_plays_56 rfl (lv_at hl 1 rfl) ?_
          refine va_get (D := G) (ci := 6) (v := .int (D_4 9 0)) (C := RX6) (T := TX6) (N := 11) hx hb hts hinX6 hown hK hP 0 rfl rfl 9 (by decide) hL173 (fun _ h9 => h9) rfl dX6_plays_57 ?_
          refine lv_if_ne (tgt := 68) hx hb dX6_plays_60 (by decide) (fun _ => ?_) (fun c => absurd c c_12)
          refine lv_iload_n hx hb dX6_plays_68 rfl (lv_at hl 0 rfl) ?_
          exact W.iret (v := x1_3) hx hb hr (fun t ht hW => ⟨⟨x1_3, (uA D_4 5 (fun _ => 0)), rfl, h, by rw [ht]; exact hP, hD⟩, hS.F ht⟩) hS.2.2 dX6_plays_69
        · have h := h.1 c_12
          refine lv_aload_n hx hb dX6_plays_35 rfl (lv_at hl 1 rfl) ?_
          refine va_get (D := G) (ci := 6) (v := .int (D_4 8 0)) (C := RX6) (T := TX6) (N := 11) hx hb hts hinX6 hown hK hP 0 rfl rfl 8 (by decide) hL146 (fun _ h9 => h9) rfl dX6_plays_36 ?_
          refine lv_istore_n (lv' := [(1, .int (D_4 8 0)), (0, .ref (q 0))]) hx hb dX6_plays_39 rfl hl (by decide) rfl (fun ls hl => ?_)
          refine lv_aload_n hx hb dX6_plays_40 rfl (lv_at hl 1 rfl) ?_
          refine lv_aload_n hx hb dX6_plays_41 rfl (lv_at hl 1 rfl) ?_
          refine kc_i (As := []) (rest := [.ref (q 0)]) (wg := (fun u => (wM cI q u))) ⟨hx, hb, hml, hown, hts⟩ (c_X6_does l G cI cC cD q _ D_4  _ h) (cwV 0 hts gX6_plays_X6_does rfl rfl rfl (by decide +kernel) ⟨Nat.le_of_ble_eq_true rfl, Nat.le_of_ble_eq_true rfl⟩) hK hN hP hD hS hA (em_MM cI q D_4) (fun u => rp_MM cI q D_4 u) rfl rfl rfl rfl hl.1 rfl (Nat.le_of_ble_eq_true rfl) dX6_plays_42 ⟨Nat.zero_le _, Nat.zero_le _⟩ (fun r_13 u_14 H locs h hP hD hS => ?_)
          refine va_put (D := G) (ci := 6) (v := .int r_13) (ty := .int) (C := RX6) (T := TX6) (N := 11) hx hb hts hinX6 tyX6 tyX6_ok nmX6 hown hK hP hD hS 0 rfl rfl 9 (by decide) hL173 (fun _ h9 => h9) rfl (by decide +kernel) rfl rfl (Nat.le_of_ble_eq_true rfl) dX6_plays_45 (fun H locs hP hD hS => ?_)
          have hP : va_P G vwCl (wM cI q (uA u_14 9 (fun _ => r_13))) H := hP
          have hD : va_D A (wM cI q (uA u_14 9 (fun _ => r_13))) := hD
          refine lv_goto (tgt := 17) hx hb dX6_plays_48 (by decide) ?_
          obtain ⟨n_15, lt_16, h_17⟩ := h
          exact ih_5 n_15 lt_16 _ _ h_17 _ _ _ hP hD hS (lv_sub hl [0, 1] rfl)
  exact lp_9 _ _ _ h_7 _ _ _ hP hD hS hl
def q_X6_fault (x : Int32) (M : St) (Q : Int32 → St → Prop) : Prop :=
  q_X6_in x 0 1 (fun r_1 => (r_1 = 0 → Q (-1000001) M) ∧ (¬ (r_1 = 0) → q_X6_copies (fun i => cond (Nat.beq i 0) (M 0) (M 2)) (fun u_3 => q_X6_plays (uA (uA M 0 (u_3 0)) 2 (u_3 1)) (fun r_4 u_5 => q_X6_copies (fun i => cond (Nat.beq i 0) (u_5 2) (u_5 0)) (fun u_6 => (r_4 = (-1000004) → Q r_4 (uA (uA u_5 2 (u_6 0)) 0 (u_6 1))) ∧ (¬ (r_4 = (-1000004)) → (x = 0 → Q r_4 (uA (uA u_5 2 (u_6 0)) 0 (u_6 1))) ∧ (¬ (x = 0) → Q (u_5 9 0) (uA (uA u_5 2 (u_6 0)) 0 (u_6 1)))))))))
set_option maxHeartbeats 4000000 in
set_option maxRecDepth 100000 in
theorem c_X6_fault (l : Launch) (G : va_G) (cI cC cD : ClassId) (q : Nat → Nat) (sz : Nat) (M : St) (x : Int32) (Q : Int32 → St → Prop) (h : q_X6_fault x M Q) : Met l yX6_fault wsX6_fault ({ frames := 8, cells := 0, slots := 0, locals := 178 }) (va_Pc [.ref (q 0), .int x] (PW G (ty3 cI cC cD) (wM cI q M) sz)) (va_Qi Q (BW G (fun u : St => (wM cI q u)) (va_A (wM cI q M) sz)) (va_A (wM cI q M) sz)) 0 0 (va_A (wM cI q M) sz) := by
  refine Met.ofW (cc := cX6_fault) (maxL := 3) (ret := (some .int)) (by decide) rfl ?_
  intro p e s m args below meth c s₁ B hml hv
  obtain ⟨rfl, hsz, hP, hK, hD0, hN⟩ := hv
  have hx := B.exec
  have hb := B.bytes
  have hr := B.returns
  have hts := atoms_spec (ws := wsX6_fault) B.pre
  have hown : s.vm.findClass RX6 = some m.cls := findClass_of_methodNamed B.named
  have hlocks := B.notSynchronized
  subst hsz
  have hD := hD0.self (sz := s.heap.size)
  generalize hAe : va_A (wM cI q M) s.heap.size = A at hD ⊢
  have hA : ∀ q : Nat, s.heap.size ≤ q → A q := fun q h => by rw [← hAe]; exact Or.inr h
  have hS : va_S A s.heap s.heap [] := va_S.rf
  have hl := lv_entry ([.ref (q 0), .int x]) (n := 3) (Nat.le_of_ble_eq_true rfl)
  rw [lg_entry_eq]
  generalize (lg_sl ([.ref (q 0), .int x]) ++ List.replicate (3 - (lg_sl ([.ref (q 0), .int x])).length) Slot.unset).toArray = ls at hl ⊢
  have hl : lv_has ls 3 [(0, .ref (q 0)), (1, .int x)] := hl
  have hinX6 : ∀ w ∈ wsX60, w ∈ wsX6_fault := by decide +kernel
  have hL7 := hts (.fieldLink RX6 7 "CraneGatesModel" "s" "[I") (by decide +kernel)
  have hL16 := hts (.fieldLink RX6 16 "CraneGatesModel" "held" "[I") (by decide +kernel)
  have hL173 := hts (.fieldLink RX6 173 "CraneGatesModel" "reason" "I") (by decide +kernel)
  unfold q_X6_fault at h
  refine lv_iload_n hx hb dX6_fault_0 rfl (lv_at hl 1 rfl) ?_
  refine lv_iconst (v := 0) hx hb dX6_fault_1 (by decide) ?_
  refine lv_iconst (v := 1) hx hb dX6_fault_2 (by decide) ?_
  refine ks_i (As := [.int x, .int 0, .int 1]) (rest := []) (wg := (fun _ => (wM cI q M))) ⟨hx, hb, hml, hown, hts⟩ (c_X6_in l G cI cC cD  _  x 0 1 _ h) (va_cwS 3 hts gX6_fault_X6_in rfl rfl rfl (by decide +kernel) ⟨Nat.le_of_ble_eq_true rfl, Nat.le_of_ble_eq_true rfl⟩) hK hN hP hD hS hA (em_0 _) (fun _ => rp_self (em_0 _)) rfl hl.1 rfl (Nat.le_of_ble_eq_true rfl) dX6_fault_3 ⟨Nat.zero_le _, Nat.zero_le _⟩ (fun r_1 _ H locs h hP hD hS => ?_)
  refine lv_if_ne (tgt := 12) hx hb dX6_fault_6 (by decide) (fun c_2 => ?_) (fun c_2 => ?_)
  · have h := h.2 c_2
    refine lv_aload_n hx hb dX6_fault_12 rfl (lv_at hl 0 rfl) ?_
    refine va_get (D := G) (ci := 6) (v := .ref (q 1)) (C := RX6) (T := TX6) (N := 11) hx hb hts hinX6 hown hK hP 0 rfl rfl 0 (by decide) hL7 (fun _ h9 => h9) rfl dX6_fault_13 ?_
    refine lv_aload_n hx hb dX6_fault_16 rfl (lv_at hl 0 rfl) ?_
    refine va_get (D := G) (ci := 6) (v := .ref (q 3)) (C := RX6) (T := TX6) (N := 11) hx hb hts hinX6 hown hK hP 0 rfl rfl 2 (by decide) hL16 (fun _ h9 => h9) rfl dX6_fault_17 ?_
    refine ks_v (As := [.ref (q 1), .ref (q 3)]) (rest := []) (wg := (fun u => (wM cI q (uA (uA M 0 (u 0)) 2 (u 1))))) ⟨hx, hb, hml, hown, hts⟩ (c_X6_copies l G cI cC cD (q 1) (q 3) _ (fun i => cond (Nat.beq i 0) (M 0) (M 2))  _ h) (va_cwS 2 hts gX6_fault_X6_copies rfl rfl rfl (by decide +kernel) ⟨Nat.le_of_ble_eq_true rfl, Nat.le_of_ble_eq_true rfl⟩) hK hN hP hD hS hA (em_M2_02 cI q M) (fun u => rp_M2_02 cI q M u) rfl hl.1 rfl (Nat.le_of_ble_eq_true rfl) dX6_fault_20 ⟨Nat.zero_le _, Nat.zero_le _⟩ (fun u_3 H locs h hP hD hS => ?_)
    refine lv_aload_n hx hb dX6_fault_23 rfl (lv_at hl 0 rfl) ?_
    refine kc_i (As := []) (rest := []) (wg := (fun u => (wM cI q u))) ⟨hx, hb, hml, hown, hts⟩ (c_X6_plays l G cI cC cD q _ (uA (uA M 0 (u_3 0)) 2 (u_3 1))  _ h) (cwV 0 hts gX6_fault_X6_plays rfl rfl rfl (by decide +kernel) ⟨Nat.le_of_ble_eq_true rfl, Nat.le_of_ble_eq_true rfl⟩) hK hN hP hD hS hA (em_MM cI q (uA (uA M 0 (u_3 0)) 2 (u_3 1))) (fun u => rp_MM cI q (uA (uA M 0 (u_3 0)) 2 (u_3 1)) u) rfl rfl rfl rfl hl.1 rfl (Nat.le_of_ble_eq_true rfl) dX6_fault_24 ⟨Nat.zero_le _, Nat.zero_le _⟩ (fun r_4 u_5 H locs h hP hD hS => ?_)
    refine lv_istore_n (lv' := [(2, .int r_4), (0, .ref (q 0)), (1, .int x)]) hx hb dX6_fault_27 rfl hl (by decide) rfl (fun ls hl => ?_)
    refine lv_aload_n hx hb dX6_fault_28 rfl (lv_at hl 1 rfl) ?_
    refine va_get (D := G) (ci := 6) (v := .ref (q 3)) (C := RX6) (T := TX6) (N := 11) hx hb hts hinX6 hown hK hP 0 rfl rfl 2 (by decide) hL16 (fun _ h9 => h9) rfl dX6_fault_29 ?_
    refine lv_aload_n hx hb dX6_fault_32 rfl (lv_at hl 1 rfl) ?_
    refine va_get (D := G) (ci := 6) (v := .ref (q 1)) (C := RX6) (T := TX6) (N := 11) hx hb hts hinX6 hown hK hP 0 rfl rfl 0 (by decide) hL7 (fun _ h9 => h9) rfl dX6_fault_33 ?_
    refine ks_v (As := [.ref (q 3), .ref (q 1)]) (rest := []) (wg := (fun u => (wM cI q (uA (uA u_5 2 (u 0)) 0 (u 1))))) ⟨hx, hb, hml, hown, hts⟩ (c_X6_copies l G cI cC cD (q 3) (q 1) _ (fun i => cond (Nat.beq i 0) (u_5 2) (u_5 0))  _ h) (va_cwS 2 hts gX6_fault_X6_copies rfl rfl rfl (by decide +kernel) ⟨Nat.le_of_ble_eq_true rfl, Nat.le_of_ble_eq_true rfl⟩) hK hN hP hD hS hA (em_M2_20 cI q u_5) (fun u => rp_M2_20 cI q u_5 u) rfl hl.1 rfl (Nat.le_of_ble_eq_true rfl) dX6_fault_36 ⟨Nat.zero_le _, Nat.zero_le _⟩ (fun u_6 H locs h hP hD hS => ?_)
    refine lv_iload_n hx hb dX6_fault_39 rfl (lv_at hl 0 rfl) ?_
    refine lv_ldc hx hb hown (hts (.constant RX6 40 (-1000004)) (by decide +kernel)) dX6_fault_40 ?_
    refine lv_icmp_eq (tgt := 49) hx hb dX6_fault_42 (by decide) (fun c_7 => ?_) (fun c_7 => ?_)
    · have h := h.1 c_7
      refine lv_iload_n hx hb dX6_fault_49 rfl (lv_at hl 0 rfl) ?_
      refine lv_goto (tgt := 57) hx hb dX6_fault_50 (by decide) ?_
      exact W.iret (v := r_4) hx hb hr (fun t ht hW => ⟨⟨r_4, (uA (uA u_5 2 (u_6 0)) 0 (u_6 1)), rfl, h, by rw [ht]; exact hP, hD⟩, hS.F ht⟩) hS.2.2 dX6_fault_57
    · have h := h.2 c_7
      refine lv_iload_n hx hb dX6_fault_45 rfl (lv_at hl 2 rfl) ?_
      refine lv_if_ne (tgt := 53) hx hb dX6_fault_46 (by decide) (fun c_8 => ?_) (fun c_8 => ?_)
      · have h := h.2 c_8
        refine lv_aload_n hx hb dX6_fault_53 rfl (lv_at hl 1 rfl) ?_
        refine va_get (D := G) (ci := 6) (v := .int (u_5 9 0)) (C := RX6) (T := TX6) (N := 11) hx hb hts hinX6 hown hK hP 0 rfl rfl 9 (by decide) hL173 (fun _ h9 => h9) rfl dX6_fault_54 ?_
        exact W.iret (v := (u_5 9 0)) hx hb hr (fun t ht hW => ⟨⟨(u_5 9 0), (uA (uA u_5 2 (u_6 0)) 0 (u_6 1)), rfl, h, by rw [ht]; exact hP, hD⟩, hS.F ht⟩) hS.2.2 dX6_fault_57
      · have h := h.1 c_8
        refine lv_iload_n hx hb dX6_fault_49 rfl (lv_at hl 0 rfl) ?_
        refine lv_goto (tgt := 57) hx hb dX6_fault_50 (by decide) ?_
        exact W.iret (v := r_4) hx hb hr (fun t ht hW => ⟨⟨r_4, (uA (uA u_5 2 (u_6 0)) 0 (u_6 1)), rfl, h, by rw [ht]; exact hP, hD⟩, hS.F ht⟩) hS.2.2 dX6_fault_57
  · have h := h.1 c_2
    refine lv_ldc hx hb hown (hts (.constant RX6 103 (-1000001)) (by decide +kernel)) dX6_fault_9 ?_
    exact W.iret (v := (-1000001)) hx hb hr (fun t ht hW => ⟨⟨(-1000001), M, rfl, h, by rw [ht]; exact hP, hD⟩, hS.F ht⟩) hS.2.2 dX6_fault_11
def q_X6_play (M : St) (Q : Int32 → St → Prop) : Prop :=
  q_X6_copies (fun i => cond (Nat.beq i 0) (M 0) (M 2)) (fun u_1 => q_X6_plays (uA (uA M 0 (u_1 0)) 2 (u_1 1)) (fun r_2 u_3 => q_X6_copies (fun i => cond (Nat.beq i 0) (u_3 2) (u_3 0)) (fun u_4 => (r_2 = (-1000004) → q_X6_changes (uA (uA u_3 2 (u_4 0)) 0 (u_4 1)) (fun u_6 => q_X6_plays u_6 (fun r_7 u_8 => (r_7 = (-1000004) → Q ((u_8 0) 4) u_8) ∧ (¬ (r_7 = (-1000004)) → Q (-1000004) u_8)))) ∧ (¬ (r_2 = (-1000004)) → Q (-1000002) (uA (uA u_3 2 (u_4 0)) 0 (u_4 1))))))
set_option maxHeartbeats 4000000 in
set_option maxRecDepth 100000 in
theorem c_X6_play (l : Launch) (G : va_G) (cI cC cD : ClassId) (q : Nat → Nat) (sz : Nat) (M : St)  (Q : Int32 → St → Prop) (h : q_X6_play  M Q) : Met l yX6_play wsX6_play ({ frames := 8, cells := 0, slots := 0, locals := 178 }) (va_Pc [.ref (q 0)] (PW G (ty3 cI cC cD) (wM cI q M) sz)) (va_Qi Q (BW G (fun u : St => (wM cI q u)) (va_A (wM cI q M) sz)) (va_A (wM cI q M) sz)) 0 0 (va_A (wM cI q M) sz) := by
  refine Met.ofW (cc := cX6_play) (maxL := 2) (ret := (some .int)) (by decide) rfl ?_
  intro p e s m args below meth c s₁ B hml hv
  obtain ⟨rfl, hsz, hP, hK, hD0, hN⟩ := hv
  have hx := B.exec
  have hb := B.bytes
  have hr := B.returns
  have hts := atoms_spec (ws := wsX6_play) B.pre
  have hown : s.vm.findClass RX6 = some m.cls := findClass_of_methodNamed B.named
  have hlocks := B.notSynchronized
  subst hsz
  have hD := hD0.self (sz := s.heap.size)
  generalize hAe : va_A (wM cI q M) s.heap.size = A at hD ⊢
  have hA : ∀ q : Nat, s.heap.size ≤ q → A q := fun q h => by rw [← hAe]; exact Or.inr h
  have hS : va_S A s.heap s.heap [] := va_S.rf
  have hl := lv_entry ([.ref (q 0)]) (n := 2) (Nat.le_of_ble_eq_true rfl)
  rw [lg_entry_eq]
  generalize (lg_sl ([.ref (q 0)]) ++ List.replicate (2 - (lg_sl ([.ref (q 0)])).length) Slot.unset).toArray = ls at hl ⊢
  have hl : lv_has ls 2 [(0, .ref (q 0))] := hl
  have hinX6 : ∀ w ∈ wsX60, w ∈ wsX6_play := by decide +kernel
  have hL7 := hts (.fieldLink RX6 7 "CraneGatesModel" "s" "[I") (by decide +kernel)
  have hL16 := hts (.fieldLink RX6 16 "CraneGatesModel" "held" "[I") (by decide +kernel)
  unfold q_X6_play at h
  refine lv_aload_n hx hb dX6_play_0 rfl (lv_at hl 0 rfl) ?_
  refine va_get (D := G) (ci := 6) (v := .ref (q 1)) (C := RX6) (T := TX6) (N := 11) hx hb hts hinX6 hown hK hP 0 rfl rfl 0 (by decide) hL7 (fun _ h9 => h9) rfl dX6_play_1 ?_
  refine lv_aload_n hx hb dX6_play_4 rfl (lv_at hl 0 rfl) ?_
  refine va_get (D := G) (ci := 6) (v := .ref (q 3)) (C := RX6) (T := TX6) (N := 11) hx hb hts hinX6 hown hK hP 0 rfl rfl 2 (by decide) hL16 (fun _ h9 => h9) rfl dX6_play_5 ?_
  refine ks_v (As := [.ref (q 1), .ref (q 3)]) (rest := []) (wg := (fun u => (wM cI q (uA (uA M 0 (u 0)) 2 (u 1))))) ⟨hx, hb, hml, hown, hts⟩ (c_X6_copies l G cI cC cD (q 1) (q 3) _ (fun i => cond (Nat.beq i 0) (M 0) (M 2))  _ h) (va_cwS 2 hts gX6_play_X6_copies rfl rfl rfl (by decide +kernel) ⟨Nat.le_of_ble_eq_true rfl, Nat.le_of_ble_eq_true rfl⟩) hK hN hP hD hS hA (em_M2_02 cI q M) (fun u => rp_M2_02 cI q M u) rfl hl.1 rfl (Nat.le_of_ble_eq_true rfl) dX6_play_8 ⟨Nat.zero_le _, Nat.zero_le _⟩ (fun u_1 H locs h hP hD hS => ?_)
  refine lv_aload_n hx hb dX6_play_11 rfl (lv_at hl 0 rfl) ?_
  refine kc_i (As := []) (rest := []) (wg := (fun u => (wM cI q u))) ⟨hx, hb, hml, hown, hts⟩ (c_X6_plays l G cI cC cD q _ (uA (uA M 0 (u_1 0)) 2 (u_1 1))  _ h) (cwV 0 hts gX6_play_X6_plays rfl rfl rfl (by decide +kernel) ⟨Nat.le_of_ble_eq_true rfl, Nat.le_of_ble_eq_true rfl⟩) hK hN hP hD hS hA (em_MM cI q (uA (uA M 0 (u_1 0)) 2 (u_1 1))) (fun u => rp_MM cI q (uA (uA M 0 (u_1 0)) 2 (u_1 1)) u) rfl rfl rfl rfl hl.1 rfl (Nat.le_of_ble_eq_true rfl) dX6_play_12 ⟨Nat.zero_le _, Nat.zero_le _⟩ (fun r_2 u_3 H locs h hP hD hS => ?_)
  refine lv_istore_n (lv' := [(1, .int r_2), (0, .ref (q 0))]) hx hb dX6_play_15 rfl hl (by decide) rfl (fun ls hl => ?_)
  refine lv_aload_n hx hb dX6_play_16 rfl (lv_at hl 1 rfl) ?_
  refine va_get (D := G) (ci := 6) (v := .ref (q 3)) (C := RX6) (T := TX6) (N := 11) hx hb hts hinX6 hown hK hP 0 rfl rfl 2 (by decide) hL16 (fun _ h9 => h9) rfl dX6_play_17 ?_
  refine lv_aload_n hx hb dX6_play_20 rfl (lv_at hl 1 rfl) ?_
  refine va_get (D := G) (ci := 6) (v := .ref (q 1)) (C := RX6) (T := TX6) (N := 11) hx hb hts hinX6 hown hK hP 0 rfl rfl 0 (by decide) hL7 (fun _ h9 => h9) rfl dX6_play_21 ?_
  refine ks_v (As := [.ref (q 3), .ref (q 1)]) (rest := []) (wg := (fun u => (wM cI q (uA (uA u_3 2 (u 0)) 0 (u 1))))) ⟨hx, hb, hml, hown, hts⟩ (c_X6_copies l G cI cC cD (q 3) (q 1) _ (fun i => cond (Nat.beq i 0) (u_3 2) (u_3 0))  _ h) (va_cwS 2 hts gX6_play_X6_copies rfl rfl rfl (by decide +kernel) ⟨Nat.le_of_ble_eq_true rfl, Nat.le_of_ble_eq_true rfl⟩) hK hN hP hD hS hA (em_M2_20 cI q u_3) (fun u => rp_M2_20 cI q u_3 u) rfl hl.1 rfl (Nat.le_of_ble_eq_true rfl) dX6_play_24 ⟨Nat.zero_le _, Nat.zero_le _⟩ (fun u_4 H locs h hP hD hS => ?_)
  refine lv_iload_n hx hb dX6_play_27 rfl (lv_at hl 0 rfl) ?_
  refine lv_ldc hx hb hown (hts (.constant RX6 40 (-1000004)) (by decide +kernel)) dX6_play_28 ?_
  refine lv_icmp_eq (tgt := 36) hx hb dX6_play_30 (by decide) (fun c_5 => ?_) (fun c_5 => ?_)
  · have h := h.1 c_5
    refine lv_aload_n hx hb dX6_play_36 rfl (lv_at hl 1 rfl) ?_
    refine kc_v (As := []) (rest := []) (wg := (fun u => (wM cI q u))) ⟨hx, hb, hml, hown, hts⟩ (c_X6_changes l G cI cC cD q _ (uA (uA u_3 2 (u_4 0)) 0 (u_4 1))  _ h) (cwV 0 hts gX6_play_X6_changes rfl rfl rfl (by decide +kernel) ⟨Nat.le_of_ble_eq_true rfl, Nat.le_of_ble_eq_true rfl⟩) hK hN hP hD hS hA (em_MM cI q (uA (uA u_3 2 (u_4 0)) 0 (u_4 1))) (fun u => rp_MM cI q (uA (uA u_3 2 (u_4 0)) 0 (u_4 1)) u) rfl rfl rfl rfl hl.1 rfl (Nat.le_of_ble_eq_true rfl) dX6_play_37 ⟨Nat.zero_le _, Nat.zero_le _⟩ (fun u_6 H locs h hP hD hS => ?_)
    refine lv_aload_n hx hb dX6_play_40 rfl (lv_at hl 1 rfl) ?_
    refine kc_i (As := []) (rest := []) (wg := (fun u => (wM cI q u))) ⟨hx, hb, hml, hown, hts⟩ (c_X6_plays l G cI cC cD q _ u_6  _ h) (cwV 0 hts gX6_play_X6_plays rfl rfl rfl (by decide +kernel) ⟨Nat.le_of_ble_eq_true rfl, Nat.le_of_ble_eq_true rfl⟩) hK hN hP hD hS hA (em_MM cI q u_6) (fun u => rp_MM cI q u_6 u) rfl rfl rfl rfl hl.1 rfl (Nat.le_of_ble_eq_true rfl) dX6_play_41 ⟨Nat.zero_le _, Nat.zero_le _⟩ (fun r_7 u_8 H locs h hP hD hS => ?_)
    refine lv_ldc hx hb hown (hts (.constant RX6 40 (-1000004)) (by decide +kernel)) dX6_play_44 ?_
    refine lv_icmp_ne (tgt := 58) hx hb dX6_play_46 (by decide) (fun c_9 => ?_) (fun c_9 => ?_)
    · have h := h.2 c_9
      refine lv_ldc hx hb hown (hts (.constant RX6 40 (-1000004)) (by decide +kernel)) dX6_play_58 ?_
      exact W.iret (v := (-1000004)) hx hb hr (fun t ht hW => ⟨⟨(-1000004), u_8, rfl, h, by rw [ht]; exact hP, hD⟩, hS.F ht⟩) hS.2.2 dX6_play_60
    · have h := h.1 c_9
      refine lv_aload_n hx hb dX6_play_49 rfl (lv_at hl 1 rfl) ?_
      refine va_get (D := G) (ci := 6) (v := .ref (q 1)) (C := RX6) (T := TX6) (N := 11) hx hb hts hinX6 hown hK hP 0 rfl rfl 0 (by decide) hL7 (fun _ h9 => h9) rfl dX6_play_50 ?_
      refine lv_iconst (v := 4) hx hb dX6_play_53 (by decide) ?_
      refine k_ald (f := (u_8 0)) (j := 4) (v := ((u_8 0) 4)) hx hb hK hP 1 0 rfl rfl (show ¬ ((4 : Int32) < 0 ∨ 86 ≤ (4 : Int32).toNatClampNeg) by decide) rfl rfl dX6_play_54 ?_
      refine lv_goto (tgt := 60) hx hb dX6_play_55 (by decide) ?_
      exact W.iret (v := ((u_8 0) 4)) hx hb hr (fun t ht hW => ⟨⟨((u_8 0) 4), u_8, rfl, h, by rw [ht]; exact hP, hD⟩, hS.F ht⟩) hS.2.2 dX6_play_60
  · have h := h.2 c_5
    refine lv_ldc hx hb hown (hts (.constant RX6 112 (-1000002)) (by decide +kernel)) dX6_play_33 ?_
    exact W.iret (v := (-1000002)) hx hb hr (fun t ht hW => ⟨⟨(-1000002), (uA (uA u_3 2 (u_4 0)) 0 (u_4 1)), rfl, h, by rw [ht]; exact hP, hD⟩, hS.F ht⟩) hS.2.2 dX6_play_35
