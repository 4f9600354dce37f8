def q_X6_would (x : Int32) (y : Int32) (M : St) (Q : Int32 → St → Prop) : Prop :=
  q_X6_in x 0 500 (fun r_1 => (r_1 = 0 → Q (-1000001) M) ∧ (¬ (r_1 = 0) → q_X6_in y 0 4 (fun r_3 => (r_3 = 0 → q_X6_isGate (y - 10) M (fun r_22 => (r_22 = 0 → Q (-1000001) M) ∧ (¬ (r_22 = 0) → q_X6_copies (fun i => cond (Nat.beq i 0) (M 0) (M 3)) (fun u_24 => ∃ (I_26 : Nat → Int32 → St → Prop) (n_30 : Nat), I_26 n_30 0 (uA (uA M 0 (u_24 0)) 3 (u_24 1)) ∧ ∀ (n_25 : Nat) (x3_27 : Int32) (D_28 : St), I_26 n_25 x3_27 D_28 → ((x ≤ x3_27 → q_X6_seen y D_28 (fun r_35 => q_X6_copies (fun i => cond (Nat.beq i 0) (D_28 3) (D_28 0)) (fun u_36 => Q r_35 (uA (uA D_28 3 (u_36 0)) 0 (u_36 1))))) ∧ (¬ (x ≤ x3_27) → q_X6_passes D_28 (fun u_37 => ∃ n_38, n_38 < n_25 ∧ I_26 n_38 (x3_27 + 1) u_37))))))) ∧ (¬ (r_3 = 0) → q_X6_copies (fun i => cond (Nat.beq i 0) (M 0) (M 3)) (fun u_5 => ∃ (I_7 : Nat → Int32 → St → Prop) (n_11 : Nat), I_7 n_11 0 (uA (uA M 0 (u_5 0)) 3 (u_5 1)) ∧ ∀ (n_6 : Nat) (x3_8 : Int32) (D_9 : St), I_7 n_6 x3_8 D_9 → ((x ≤ x3_8 → q_X6_seen y D_9 (fun r_16 => q_X6_copies (fun i => cond (Nat.beq i 0) (D_9 3) (D_9 0)) (fun u_17 => Q r_16 (uA (uA D_9 3 (u_17 0)) 0 (u_17 1))))) ∧ (¬ (x ≤ x3_8) → q_X6_passes D_9 (fun u_18 => ∃ n_19, n_19 < n_6 ∧ I_7 n_19 (x3_8 + 1) u_18))))))))
set_option maxHeartbeats 4000000 in
set_option maxRecDepth 100000 in
theorem c_X6_would (l : Launch) (G : va_G) (cI cC cD : ClassId) (q : Nat → Nat) (sz : Nat) (M : St) (x : Int32) (y : Int32) (Q : Int32 → St → Prop) (h : q_X6_would x y M Q) : Met l yX6_would wsX6_would ({ frames := 5, cells := 0, slots := 0, locals := 111 }) (va_Pc [.ref (q 0), .int x, .int y] (PW G (ty3 cI cC cD) (wM cI q M) sz)) (va_Qi Q (BW G (fun u : St => (wM cI q u)) (va_A (wM cI q M) sz)) (va_A (wM cI q M) sz)) 0 0 (va_A (wM cI q M) sz) := by
  refine Met.ofW (cc := cX6_would) (maxL := 4) (ret := (some .int)) (by decide) rfl ?_
  intro p e s m args below meth c s₁ B hml hv
  obtain ⟨rfl, hsz, hP, hK, hD0, hN⟩ := hv
  have hx := B.exec
  have hb := B.bytes
  have hr := B.returns
  have hts := atoms_spec (ws := wsX6_would) B.pre
  have hown : s.vm.findClass RX6 = some m.cls := findClass_of_methodNamed B.named
  have hlocks := B.notSynchronized
  subst hsz
  have hD := hD0.self (sz := s.heap.size)
  generalize hAe : va_A (wM cI q M) s.heap.size = A at hD ⊢
  have hA : ∀ q : Nat, s.heap.size ≤ q → A q := fun q h => by rw [← hAe]; exact Or.inr h
  have hS : va_S A s.heap s.heap [] := va_S.rf
  have hl := lv_entry ([.ref (q 0), .int x, .int y]) (n := 4) (Nat.le_of_ble_eq_true rfl)
  rw [lg_entry_eq]
  generalize (lg_sl ([.ref (q 0), .int x, .int y]) ++ List.replicate (4 - (lg_sl ([.ref (q 0), .int x, .int y])).length) Slot.unset).toArray = ls at hl ⊢
  have hl : lv_has ls 4 [(0, .ref (q 0)), (1, .int x), (2, .int y)] := hl
  have hinX6 : ∀ w ∈ wsX60, w ∈ wsX6_would := by decide +kernel
  have hL7 := hts (.fieldLink RX6 7 "CraneGatesModel" "s" "[I") (by decide +kernel)
  have hL19 := hts (.fieldLink RX6 19 "CraneGatesModel" "tried" "[I") (by decide +kernel)
  unfold q_X6_would at h
  refine lv_iload_n hx hb dX6_would_0 rfl (lv_at hl 1 rfl) ?_
  refine lv_iconst (v := 0) hx hb dX6_would_1 (by decide) ?_
  refine lv_sipush (v := 500) hx hb dX6_would_2 (by decide) ?_
  refine ks_i (As := [.int x, .int 0, .int 500]) (rest := []) (wg := (fun _ => (wM cI q M))) ⟨hx, hb, hml, hown, hts⟩ (c_X6_in l G cI cC cD  _  x 0 500 _ h) (va_cwS 3 hts gX6_would_X6_in rfl rfl rfl (by decide +kernel) ⟨Nat.le_of_ble_eq_true rfl, Nat.le_of_ble_eq_true rfl⟩) hK hN hP hD hS hA (em_0 _) (fun _ => rp_self (em_0 _)) rfl hl.1 rfl (Nat.le_of_ble_eq_true rfl) dX6_would_5 ⟨Nat.zero_le _, Nat.zero_le _⟩ (fun r_1 _ H locs h hP hD hS => ?_)
  refine lv_if_eq (tgt := 31) hx hb dX6_would_8 (by decide) (fun c_2 => ?_) (fun c_2 => ?_)
  · have h := h.1 c_2
    refine lv_ldc hx hb hown (hts (.constant RX6 103 (-1000001)) (by decide +kernel)) dX6_would_31 ?_
    exact W.iret (v := (-1000001)) hx hb hr (fun t ht hW => ⟨⟨(-1000001), M, rfl, h, by rw [ht]; exact hP, hD⟩, hS.F ht⟩) hS.2.2 dX6_would_33
  · have h := h.2 c_2
    refine lv_iload_n hx hb dX6_would_11 rfl (lv_at hl 2 rfl) ?_
    refine lv_iconst (v := 0) hx hb dX6_would_12 (by decide) ?_
    refine lv_iconst (v := 4) hx hb dX6_would_13 (by decide) ?_
    refine ks_i (As := [.int y, .int 0, .int 4]) (rest := []) (wg := (fun _ => (wM cI q M))) ⟨hx, hb, hml, hown, hts⟩ (c_X6_in l G cI cC cD  _  y 0 4 _ h) (va_cwS 3 hts gX6_would_X6_in rfl rfl rfl (by decide +kernel) ⟨Nat.le_of_ble_eq_true rfl, Nat.le_of_ble_eq_true rfl⟩) hK hN hP hD hS hA (em_0 _) (fun _ => rp_self (em_0 _)) rfl hl.1 rfl (Nat.le_of_ble_eq_true rfl) dX6_would_14 ⟨Nat.zero_le _, Nat.zero_le _⟩ (fun r_3 _ H locs h hP hD hS => ?_)
    refine lv_if_ne (tgt := 34) hx hb dX6_would_17 (by decide) (fun c_4 => ?_) (fun c_4 => ?_)
    · have h := h.2 c_4
      refine lv_aload_n hx hb dX6_would_34 rfl (lv_at hl 0 rfl) ?_
      refine va_get (D := G) (ci := 6) (v := .ref (q 1)) (C := RX6) (T := TX6) (N := 11) hx hb hts hinX6 hown hK hP 0 rfl rfl 0 (by decide) hL7 (fun _ h9 => h9) rfl dX6_would_35 ?_
      refine lv_aload_n hx hb dX6_would_38 rfl (lv_at hl 0 rfl) ?_
      refine va_get (D := G) (ci := 6) (v := .ref (q 4)) (C := RX6) (T := TX6) (N := 11) hx hb hts hinX6 hown hK hP 0 rfl rfl 3 (by decide) hL19 (fun _ h9 => h9) rfl dX6_would_39 ?_
      refine ks_v (As := [.ref (q 1), .ref (q 4)]) (rest := []) (wg := (fun u => (wM cI q (uA (uA M 0 (u 0)) 3 (u 1))))) ⟨hx, hb, hml, hown, hts⟩ (c_X6_copies l G cI cC cD (q 1) (q 4) _ (fun i => cond (Nat.beq i 0) (M 0) (M 3))  _ h) (va_cwS 2 hts gX6_would_X6_copies rfl rfl rfl (by decide +kernel) ⟨Nat.le_of_ble_eq_true rfl, Nat.le_of_ble_eq_true rfl⟩) hK hN hP hD hS hA (em_M2_03 cI q M) (fun u => rp_M2_03 cI q M u) rfl hl.1 rfl (Nat.le_of_ble_eq_true rfl) dX6_would_42 ⟨Nat.zero_le _, Nat.zero_le _⟩ (fun u_5 H locs h hP hD hS => ?_)
      refine lv_iconst (v := 0) hx hb dX6_would_45 (by decide) ?_
      refine lv_istore_n (lv' := [(3, .int 0), (0, .ref (q 0)), (1, .int x), (2, .int y)]) hx hb dX6_would_46 rfl hl (by decide) rfl (fun ls hl => ?_)
      obtain ⟨I_7, n_11, h_12, hI_13⟩ := h
      have lp_14 : ∀ (n_6 : Nat) (x3_8 : Int32) (D_9 : St), I_7 n_6 x3_8 D_9 → ∀ (H : Heap) (locs : List Loc) (ls : Array Slot), va_P G vwCl (wM cI q D_9) H → va_D A (wM cI q D_9) → va_S A s.heap H locs → lv_has ls 4 [(3, .int x3_8), (0, .ref (q 0)), (1, .int x), (2, .int y)] → W p l e (headSpec wsX6_would ({ frames := 5, cells := 0, slots := 0, locals := 111 })).room s m ([.ref (q 0), .int x, .int y] : List Value).toArray below meth c H locs 0 0 (MQ below (va_Qi Q (BW G (fun u : St => (wM cI q u)) A) A) ([.ref (q 0), .int x, .int y] : List Value).toArray s 0 0 A) (F0 m 47 ls []) := by
        intro n_6
        induction n_6 using Nat.strongRecOn with
        | ind n_6 ih_10 =>
          intro x3_8 D_9 hIn H locs ls hP hD hS hl
          have h := hI_13 n_6 x3_8 D_9 hIn
          refine lv_iload_n hx hb dX6_would_47 rfl (lv_at hl 0 rfl) ?_
          refine lv_iload_n hx hb dX6_would_48 rfl (lv_at hl 2 rfl) ?_
          refine lv_icmp_ge (tgt := 62) hx hb dX6_would_49 (by decide) (fun c_15 => ?_) (fun c_15 => ?_)
          · have h := h.1 c_15
            refine lv_aload_n hx hb dX6_would_62 rfl (lv_at hl 1 rfl) ?_
            refine lv_iload_n hx hb dX6_would_63 rfl (lv_at hl 3 rfl) ?_
            refine kc_i (As := [.int y]) (rest := []) (wg := (fun _ => (wM cI q D_9))) ⟨hx, hb, hml, hown, hts⟩ (c_X6_seen l G cI cC cD q _ D_9 y _ h) (cwV 1 hts gX6_would_X6_seen rfl rfl rfl (by decide +kernel) ⟨Nat.le_of_ble_eq_true rfl, Nat.le_of_ble_eq_true rfl⟩) hK hN hP hD hS hA (em_MM cI q D_9) (fun _ => rp_self (em_MM cI q D_9)) rfl rfl rfl rfl hl.1 rfl (Nat.le_of_ble_eq_true rfl) dX6_would_64 ⟨Nat.zero_le _, Nat.zero_le _⟩ (fun r_16 _ H locs h hP hD hS => ?_)
            refine lv_istore_n (lv' := [(3, .int r_16), (0, .ref (q 0)), (1, .int x), (2, .int y)]) hx hb dX6_would_67 rfl hl (by decide) rfl (fun ls hl => ?_)
            refine lv_aload_n hx hb dX6_would_68 rfl (lv_at hl 1 rfl) ?_
            refine va_get (D := G) (ci := 6) (v := .ref (q 4)) (C := RX6) (T := TX6) (N := 11) hx hb hts hinX6 hown hK hP 0 rfl rfl 3 (by decide) hL19 (fun _ h9 => h9) rfl dX6_would_69 ?_
            refine lv_aload_n hx hb dX6_would_72 rfl (lv_at hl 1 rfl) ?_
            refine va_get (D := G) (ci := 6) (v := .ref (q 1)) (C := RX6) (T := TX6) (N := 11) hx hb hts hinX6 hown hK hP 0 rfl rfl 0 (by decide) hL7 (fun _ h9 => h9) rfl dX6_would_73 ?_
            refine ks_v (As := [.ref (q 4), .ref (q 1)]) (rest := []) (wg := (fun u => (wM cI q (uA (uA D_9 3 (u 0)) 0 (u 1))))) ⟨hx, hb, hml, hown, hts⟩ (c_X6_copies l G cI cC cD (q 4) (q 1) _ (fun i => cond (Nat.beq i 0) (D_9 3) (D_9 0))  _ h) (va_cwS 2 hts gX6_would_X6_copies rfl rfl rfl (by decide +kernel) ⟨Nat.le_of_ble_eq_true rfl, Nat.le_of_ble_eq_true rfl⟩) hK hN hP hD hS hA (em_M2_30 cI q D_9) (fun u => rp_M2_30 cI q D_9 u) rfl hl.1 rfl (Nat.le_of_ble_eq_true rfl) dX6_would_76 ⟨Nat.zero_le _, Nat.zero_le _⟩ (fun u_17 H locs h hP hD hS => ?_)
            refine lv_iload_n hx hb dX6_would_79 rfl (lv_at hl 0 rfl) ?_
            exact W.iret (v := r_16) hx hb hr (fun t ht hW => ⟨⟨r_16, (uA (uA D_9 3 (u_17 0)) 0 (u_17 1)), rfl, h, by rw [ht]; exact hP, hD⟩, hS.F ht⟩) hS.2.2 dX6_would_80
          · have h := h.2 c_15
            refine lv_aload_n hx hb dX6_would_52 rfl (lv_at hl 1 rfl) ?_
            refine kc_v (As := []) (rest := []) (wg := (fun u => (wM cI q u))) ⟨hx, hb, hml, hown, hts⟩ (c_X6_passes l G cI cC cD q _ D_9  _ h) (cwV 0 hts gX6_would_X6_passes rfl rfl rfl (by decide +kernel) ⟨Nat.le_of_ble_eq_true rfl, Nat.le_of_ble_eq_true rfl⟩) hK hN hP hD hS hA (em_MM cI q D_9) (fun u => rp_MM cI q D_9 u) rfl rfl rfl rfl hl.1 rfl (Nat.le_of_ble_eq_true rfl) dX6_would_53 ⟨Nat.zero_le _, Nat.zero_le _⟩ (fun u_18 H locs h hP hD hS => ?_)
            refine lv_iinc (v := x3_8 + 1) (lv' := [(3, .int (x3_8 + 1)), (0, .ref (q 0)), (1, .int x), (2, .int y)]) hx hb dX6_would_56 hl (k := 0) rfl rfl (by decide) rfl (fun ls hl => ?_)
            refine lv_goto (tgt := 47) hx hb dX6_would_59 (by decide) ?_
            obtain ⟨n_19, lt_20, h_21⟩ := h
            exact ih_10 n_19 lt_20 _ _ h_21 _ _ _ hP hD hS (lv_sub hl [0, 1, 2, 3] rfl)
      exact lp_14 _ _ _ h_12 _ _ _ hP hD hS hl
    · have h := h.1 c_4
      refine lv_aload_n hx hb dX6_would_20 rfl (lv_at hl 0 rfl) ?_
      refine lv_iload_n hx hb dX6_would_21 rfl (lv_at hl 2 rfl) ?_
      refine lv_bipush (v := 10) hx hb dX6_would_22 (by decide) ?_
      refine lv_isub hx hb dX6_would_24 ?_
      refine kc_i (As := [.int (y - 10)]) (rest := []) (wg := (fun _ => (wM cI q M))) ⟨hx, hb, hml, hown, hts⟩ (c_X6_isGate l G cI cC cD q _ M (y - 10) _ h) (cwV 1 hts gX6_would_X6_isGate rfl rfl rfl (by decide +kernel) ⟨Nat.le_of_ble_eq_true rfl, Nat.le_of_ble_eq_true rfl⟩) hK hN hP hD hS hA (em_MM cI q M) (fun _ => rp_self (em_MM cI q M)) rfl rfl rfl rfl hl.1 rfl (Nat.le_of_ble_eq_true rfl) dX6_would_25 ⟨Nat.zero_le _, Nat.zero_le _⟩ (fun r_22 _ H locs h hP hD hS => ?_)
      refine lv_if_ne (tgt := 34) hx hb dX6_would_28 (by decide) (fun c_23 => ?_) (fun c_23 => ?_)
      · have h := h.2 c_23
        refine lv_aload_n hx hb dX6_would_34 rfl (lv_at hl 0 rfl) ?_
        refine va_get (D := G) (ci := 6) (v := .ref (q 1)) (C := RX6) (T := TX6) (N := 11) hx hb hts hinX6 hown hK hP 0 rfl rfl 0 (by decide) hL7 (fun _ h9 => h9) rfl dX6_would_35 ?_
        refine lv_aload_n hx hb dX6_would_38 rfl (lv_at hl 0 rfl) ?_
        refine va_get (D := G) (ci := 6) (v := .ref (q 4)) (C := RX6) (T := TX6) (N := 11) hx hb hts hinX6 hown hK hP 0 rfl rfl 3 (by decide) hL19 (fun _ h9 => h9) rfl dX6_would_39 ?_
        refine ks_v (As := [.ref (q 1), .ref (q 4)]) (rest := []) (wg := (fun u => (wM cI q (uA (uA M 0 (u 0)) 3 (u 1))))) ⟨hx, hb, hml, hown, hts⟩ (c_X6_copies l G cI cC cD (q 1) (q 4) _ (fun i => cond (Nat.beq i 0) (M 0) (M 3))  _ h) (va_cwS 2 hts gX6_would_X6_copies rfl rfl rfl (by decide +kernel) ⟨Nat.le_of_ble_eq_true rfl, Nat.le_of_ble_eq_true rfl⟩) hK hN hP hD hS hA (em_M2_03 cI q M) (fun u => rp_M2_03 cI q M u) rfl hl.1 rfl (Nat.le_of_ble_eq_true rfl) dX6_would_42 ⟨Nat.zero_le _, Nat.zero_le _⟩ (fun u_24 H locs h hP hD hS => ?_)
        refine lv_iconst (v := 0) hx hb dX6_would_45 (by decide) ?_
        refine lv_istore_n (lv' := [(3, .int 0), (0, .ref (q 0)), (1, .int x), (2, .int y)]) hx hb dX6_would_46 rfl hl (by decide) rfl (fun ls hl => ?_)
        obtain ⟨I_26, n_30, h_31, hI_32⟩ := h
        have lp_33 : ∀ (n_25 : Nat) (x3_27 : Int32) (D_28 : St), I_26 n_25 x3_27 D_28 → ∀ (H : Heap) (locs : List Loc) (ls : Array Slot), va_P G vwCl (wM cI q D_28) H → va_D A (wM cI q D_28) → va_S A s.heap H locs → lv_has ls 4 [(3, .int x3_27), (0, .ref (q 0)), (1, .int x), (2, .int y)] → W p l e (headSpec wsX6_would ({ frames := 5, cells := 0, slots := 0, locals := 111 })).room s m ([.ref (q 0), .int x, .int y] : List Value).toArray below meth c H locs 0 0 (MQ below (va_Qi Q (BW G (fun u : St => (wM cI q u)) A) A) ([.ref (q 0), .int x, .int y] : List Value).toArray s 0 0 A) (F0 m 47 ls []) := by
          intro n_25
          induction n_25 using Nat.strongRecOn with
          | ind n_25 ih_29 =>
            intro x3_27 D_28 hIn H locs ls hP hD hS hl
            have h := hI_32 n_25 x3_27 D_28 hIn
            refine lv_iload_n hx hb dX6_would_47 rfl (lv_at hl 0 rfl) ?_
            refine lv_iload_n hx hb dX6_would_48 rfl (lv_at hl 2 rfl) ?_
            refine lv_icmp_ge (tgt := 62) hx hb dX6_would_49 (by decide) (fun c_34 => ?_) (fun c_34 => ?_)
            · have h := h.1 c_34
              refine lv_aload_n hx hb dX6_would_62 rfl (lv_at hl 1 rfl) ?_
              refine lv_iload_n hx hb dX6_would_63 rfl (lv_at hl 3 rfl) ?_
              refine kc_i (As := [.int y]) (rest := []) (wg := (fun _ => (wM cI q D_28))) ⟨hx, hb, hml, hown, hts⟩ (c_X6_seen l G cI cC cD q _ D_28 y _ h) (cwV 1 hts gX6_would_X6_seen rfl rfl rfl (by decide +kernel) ⟨Nat.le_of_ble_eq_true rfl, Nat.le_of_ble_eq_true rfl⟩) hK hN hP hD hS hA (em_MM cI q D_28) (fun _ => rp_self (em_MM cI q D_28)) rfl rfl rfl rfl hl.1 rfl (Nat.le_of_ble_eq_true rfl) dX6_would_64 ⟨Nat.zero_le _, Nat.zero_le _⟩ (fun r_35 _ H locs h hP hD hS => ?_)
              refine lv_istore_n (lv' := [(3, .int r_35), (0, .ref (q 0)), (1, .int x), (2, .int y)]) hx hb dX6_would_67 rfl hl (by decide) rfl (fun ls hl => ?_)
              refine lv_aload_n hx hb dX6_would_68 rfl (lv_at hl 1 rfl) ?_
              refine va_get (D := G) (ci := 6) (v := .ref (q 4)) (C := RX6) (T := TX6) (N := 11) hx hb hts hinX6 hown hK hP 0 rfl rfl 3 (by decide) hL19 (fun _ h9 => h9) rfl dX6_would_69 ?_
              refine lv_aload_n hx hb dX6_would_72 rfl (lv_at hl 1 rfl) ?_
              refine va_get (D := G) (ci := 6) (v := .ref (q 1)) (C := RX6) (T := TX6) (N := 11) hx hb hts hinX6 hown hK hP 0 rfl rfl 0 (by decide) hL7 (fun _ h9 => h9) rfl dX6_would_73 ?_
              refine ks_v (As := [.ref (q 4), .ref (q 1)]) (rest := []) (wg := (fun u => (wM cI q (uA (uA D_28 3 (u 0)) 0 (u 1))))) ⟨hx, hb, hml, hown, hts⟩ (c_X6_copies l G cI cC cD (q 4) (q 1) _ (fun i => cond (Nat.beq i 0) (D_28 3) (D_28 0))  _ h) (va_cwS 2 hts gX6_would_X6_copies rfl rfl rfl (by decide +kernel) ⟨Nat.le_of_ble_eq_true rfl, Nat.le_of_ble_eq_true rfl⟩) hK hN hP hD hS hA (em_M2_30 cI q D_28) (fun u => rp_M2_30 cI q D_28 u) rfl hl.1 rfl (Nat.le_of_ble_eq_true rfl) dX6_would_76 ⟨Nat.zero_le _, Nat.zero_le _⟩ (fun u_36 H locs h hP hD hS => ?_)
              refine lv_iload_n hx hb dX6_would_79 rfl (lv_at hl 0 rfl) ?_
              exact W.iret (v := r_35) hx hb hr (fun t ht hW => ⟨⟨r_35, (uA (uA D_28 3 (u_36 0)) 0 (u_36 1)), rfl, h, by rw [ht]; exact hP, hD⟩, hS.F ht⟩) hS.2.2 dX6_would_80
            · have h := h.2 c_34
              refine lv_aload_n hx hb dX6_would_52 rfl (lv_at hl 1 rfl) ?_
              refine kc_v (As := []) (rest := []) (wg := (fun u => (wM cI q u))) ⟨hx, hb, hml, hown, hts⟩ (c_X6_passes l G cI cC cD q _ D_28  _ h) (cwV 0 hts gX6_would_X6_passes rfl rfl rfl (by decide +kernel) ⟨Nat.le_of_ble_eq_true rfl, Nat.le_of_ble_eq_true rfl⟩) hK hN hP hD hS hA (em_MM cI q D_28) (fun u => rp_MM cI q D_28 u) rfl rfl rfl rfl hl.1 rfl (Nat.le_of_ble_eq_true rfl) dX6_would_53 ⟨Nat.zero_le _, Nat.zero_le _⟩ (fun u_37 H locs h hP hD hS => ?_)
              refine lv_iinc (v := x3_27 + 1) (lv' := [(3, .int (x3_27 + 1)), (0, .ref (q 0)), (1, .int x), (2, .int y)]) hx hb dX6_would_56 hl (k := 0) rfl rfl (by decide) rfl (fun ls hl => ?_)
              refine lv_goto (tgt := 47) hx hb dX6_would_59 (by decide) ?_
              obtain ⟨n_38, lt_39, h_40⟩ := h
              exact ih_29 n_38 lt_39 _ _ h_40 _ _ _ hP hD hS (lv_sub hl [0, 1, 2, 3] rfl)
        exact lp_33 _ _ _ h_31 _ _ _ hP hD hS hl
      · have h := h.1 c_23
        refine lv_ldc hx hb hown (hts (.constant RX6 103 (-1000001)) (by decide +kernel)) dX6_would_31 ?_
        exact W.iret (v := (-1000001)) hx hb hr (fun t ht hW => ⟨⟨(-1000001), M, rfl, h, by rw [ht]; exact hP, hD⟩, hS.F ht⟩) hS.2.2 dX6_would_33
def q_X6_isSo (x : Int32) (y : Int32) (M : St) (Q : Int32 → Prop) : Prop :=
  (y = 0 → (((M 0) 4) < x → Q 0) ∧ (¬ (((M 0) 4) < x) → Q 1)) ∧ (¬ (y = 0) → (x < ((M 0) 4) → Q 0) ∧ (¬ (x < ((M 0) 4)) → Q 1))
set_option maxHeartbeats 4000000 in
set_option maxRecDepth 100000 in
theorem c_X6_isSo (l : Launch) (G : va_G) (cI cC cD : ClassId) (q : Nat → Nat) (sz : Nat) (M : St) (x : Int32) (y : Int32) (Q : Int32 → Prop) (h : q_X6_isSo x y M Q) : Met l yX6_isSo wsX6_isSo ({ frames := 0, cells := 0, slots := 0, locals := 0 }) (va_Pc [.ref (q 0), .int x, .int y] (PW G (ty3 cI cC cD) (wM cI q M) sz)) (va_Qi (fun (r : Int32) (_ : Unit) => Q r) (BW G (fun _ : Unit => (wM cI q M)) (va_A (wM cI q M) sz)) (va_A (wM cI q M) sz)) 0 0 (va_A (wM cI q M) sz) := by
  refine Met.ofW (cc := cX6_isSo) (maxL := 3) (ret := (some .boolean)) (by decide) rfl ?_
  intro p e s m args below meth c s₁ B hml hv
  obtain ⟨rfl, hsz, hP, hK, hD0, hN⟩ := hv
  have hx := B.exec
  have hb := B.bytes
  have hr := B.returns
  have hts := atoms_spec (ws := wsX6_isSo) B.pre
  have hown : s.vm.findClass RX6 = some m.cls := findClass_of_methodNamed B.named
  have hlocks := B.notSynchronized
  subst hsz
  have hD := hD0.self (sz := s.heap.size)
  generalize hAe : va_A (wM cI q M) s.heap.size = A at hD ⊢
  have hA : ∀ q : Nat, s.heap.size ≤ q → A q := fun q h => by rw [← hAe]; exact Or.inr h
  have hS : va_S A s.heap s.heap [] := va_S.rf
  have hl := lv_entry ([.ref (q 0), .int x, .int y]) (n := 3) (Nat.le_of_ble_eq_true rfl)
  rw [lg_entry_eq]
  generalize (lg_sl ([.ref (q 0), .int x, .int y]) ++ List.replicate (3 - (lg_sl ([.ref (q 0), .int x, .int y])).length) Slot.unset).toArray = ls at hl ⊢
  have hl : lv_has ls 3 [(0, .ref (q 0)), (1, .int x), (2, .int y)] := hl
  have hinX6 : ∀ w ∈ wsX60, w ∈ wsX6_isSo := by decide +kernel
  have hL7 := hts (.fieldLink RX6 7 "CraneGatesModel" "s" "[I") (by decide +kernel)
  unfold q_X6_isSo at h
  refine lv_iload_n hx hb dX6_isSo_0 rfl (lv_at hl 2 rfl) ?_
  refine lv_if_ne (tgt := 22) hx hb dX6_isSo_1 (by decide) (fun c_1 => ?_) (fun c_1 => ?_)
  · have h := h.2 c_1
    refine lv_aload_n hx hb dX6_isSo_22 rfl (lv_at hl 0 rfl) ?_
    refine va_get (D := G) (ci := 6) (v := .ref (q 1)) (C := RX6) (T := TX6) (N := 11) hx hb hts hinX6 hown hK hP 0 rfl rfl 0 (by decide) hL7 (fun _ h9 => h9) rfl dX6_isSo_23 ?_
    refine lv_iconst (v := 4) hx hb dX6_isSo_26 (by decide) ?_
    refine k_ald (f := (M 0)) (j := 4) (v := ((M 0) 4)) hx hb hK hP 1 0 rfl rfl (show ¬ ((4 : Int32) < 0 ∨ 86 ≤ (4 : Int32).toNatClampNeg) by decide) rfl rfl dX6_isSo_27 ?_
    refine lv_iload_n hx hb dX6_isSo_28 rfl (lv_at hl 1 rfl) ?_
    refine lv_icmp_gt (tgt := 36) hx hb dX6_isSo_29 (by decide) (fun c_2 => ?_) (fun c_2 => ?_)
    · have h := h.1 c_2
      refine lv_iconst (v := 0) hx hb dX6_isSo_36 (by decide) ?_
      exact W.zret (v := 0) hx hb hr rfl (fun t ht hW => ⟨⟨0, (), rfl, h, by rw [ht]; exact hP, hD⟩, hS.F ht⟩) hS.2.2 dX6_isSo_37
    · have h := h.2 c_2
      refine lv_iconst (v := 1) hx hb dX6_isSo_32 (by decide) ?_
      refine lv_goto (tgt := 37) hx hb dX6_isSo_33 (by decide) ?_
      exact W.zret (v := 1) hx hb hr rfl (fun t ht hW => ⟨⟨1, (), rfl, h, by rw [ht]; exact hP, hD⟩, hS.F ht⟩) hS.2.2 dX6_isSo_37
  · have h := h.1 c_1
    refine lv_aload_n hx hb dX6_isSo_4 rfl (lv_at hl 0 rfl) ?_
    refine va_get (D := G) (ci := 6) (v := .ref (q 1)) (C := RX6) (T := TX6) (N := 11) hx hb hts hinX6 hown hK hP 0 rfl rfl 0 (by decide) hL7 (fun _ h9 => h9) rfl dX6_isSo_5 ?_
    refine lv_iconst (v := 4) hx hb dX6_isSo_8 (by decide) ?_
    refine k_ald (f := (M 0)) (j := 4) (v := ((M 0) 4)) hx hb hK hP 1 0 rfl rfl (show ¬ ((4 : Int32) < 0 ∨ 86 ≤ (4 : Int32).toNatClampNeg) by decide) rfl rfl dX6_isSo_9 ?_
    refine lv_iload_n hx hb dX6_isSo_10 rfl (lv_at hl 1 rfl) ?_
    refine lv_icmp_lt (tgt := 18) hx hb dX6_isSo_11 (by decide) (fun c_3 => ?_) (fun c_3 => ?_)
    · have h := h.1 c_3
      refine lv_iconst (v := 0) hx hb dX6_isSo_18 (by decide) ?_
      refine lv_goto (tgt := 37) hx hb dX6_isSo_19 (by decide) ?_
      exact W.zret (v := 0) hx hb hr rfl (fun t ht hW => ⟨⟨0, (), rfl, h, by rw [ht]; exact hP, hD⟩, hS.F ht⟩) hS.2.2 dX6_isSo_37
    · have h := h.2 c_3
      refine lv_iconst (v := 1) hx hb dX6_isSo_14 (by decide) ?_
      refine lv_goto (tgt := 37) hx hb dX6_isSo_15 (by decide) ?_
      exact W.zret (v := 1) hx hb hr rfl (fun t ht hW => ⟨⟨1, (), rfl, h, by rw [ht]; exact hP, hD⟩, hS.F ht⟩) hS.2.2 dX6_isSo_37
def q_X6_minutesUntil (x : Int32) (y : Int32) (M : St) (Q : Int32 → St → Prop) : Prop :=
  q_X6_in x 0 9999 (fun r_1 => (r_1 = 0 → Q (-1000001) M) ∧ (¬ (r_1 = 0) → q_X6_in y 0 1 (fun r_3 => (r_3 = 0 → Q (-1000001) M) ∧ (¬ (r_3 = 0) → q_X6_copies (fun i => cond (Nat.beq i 0) (M 0) (M 3)) (fun u_5 => ∃ (I_7 : Nat → Int32 → St → Prop) (n_11 : Nat), I_7 n_11 0 (uA (uA M 0 (u_5 0)) 3 (u_5 1)) ∧ ∀ (n_6 : Nat) (x3_8 : Int32) (D_9 : St), I_7 n_6 x3_8 D_9 → ((1000 < x3_8 → q_X6_copies (fun i => cond (Nat.beq i 0) (D_9 3) (D_9 0)) (fun u_16 => (x3_8 ≤ 1000 → Q x3_8 (uA (uA D_9 3 (u_16 0)) 0 (u_16 1))) ∧ (¬ (x3_8 ≤ 1000) → Q (-1000004) (uA (uA D_9 3 (u_16 0)) 0 (u_16 1))))) ∧ (¬ (1000 < x3_8) → q_X6_isSo x y D_9 (fun r_18 => (r_18 = 0 → q_X6_passes D_9 (fun u_22 => ∃ n_23, n_23 < n_6 ∧ I_7 n_23 (x3_8 + 1) u_22)) ∧ (¬ (r_18 = 0) → q_X6_copies (fun i => cond (Nat.beq i 0) (D_9 3) (D_9 0)) (fun u_20 => (x3_8 ≤ 1000 → Q x3_8 (uA (uA D_9 3 (u_20 0)) 0 (u_20 1))) ∧ (¬ (x3_8 ≤ 1000) → Q (-1000004) (uA (uA D_9 3 (u_20 0)) 0 (u_20 1)))))))))))))
set_option maxHeartbeats 4000000 in
set_option maxRecDepth 100000 in
theorem c_X6_minutesUntil (l : Launch) (G : va_G) (cI cC cD : ClassId) (q : Nat → Nat) (sz : Nat) (M : St) (x : Int32) (y : Int32) (Q : Int32 → St → Prop) (h : q_X6_minutesUntil x y M Q) : Met l yX6_minutesUntil wsX6_minutesUntil ({ frames := 5, cells := 0, slots := 0, locals := 111 }) (va_Pc [.ref (q 0), .int x, .int y] (PW G (ty3 cI cC cD) (wM cI q M) sz)) (va_Qi Q (BW G (fun u : St => (wM cI q u)) (va_A (wM cI q M) sz)) (va_A (wM cI q M) sz)) 0 0 (va_A (wM cI q M) sz) := by
  refine Met.ofW (cc := cX6_minutesUntil) (maxL := 4) (ret := (some .int)) (by decide) rfl ?_
  intro p e s m args below meth c s₁ B hml hv
  obtain ⟨rfl, hsz, hP, hK, hD0, hN⟩ := hv
  have hx := B.exec
  have hb := B.bytes
  have hr := B.returns
  have hts := atoms_spec (ws := wsX6_minutesUntil) B.pre
  have hown : s.vm.findClass RX6 = some m.cls := findClass_of_methodNamed B.named
  have hlocks := B.notSynchronized
  subst hsz
  have hD := hD0.self (sz := s.heap.size)
  generalize hAe : va_A (wM cI q M) s.heap.size = A at hD ⊢
  have hA : ∀ q : Nat, s.heap.size ≤ q → A q := fun q h => by rw [← hAe]; exact Or.inr h
  have hS : va_S A s.heap s.heap [] := va_S.rf
  have hl := lv_entry ([.ref (q 0), .int x, .int y]) (n := 4) (Nat.le_of_ble_eq_true rfl)
  rw [lg_entry_eq]
  generalize (lg_sl ([.ref (q 0), .int x, .int y]) ++ List.replicate (4 - (lg_sl ([.ref (q 0), .int x, .int y])).length) Slot.unset).toArray = ls at hl ⊢
  have hl : lv_has ls 4 [(0, .ref (q 0)), (1, .int x), (2, .int y)] := hl
  have hinX6 : ∀ w ∈ wsX60, w ∈ wsX6_minutesUntil := by decide +kernel
  have hL7 := hts (.fieldLink RX6 7 "CraneGatesModel" "s" "[I") (by decide +kernel)
  have hL19 := hts (.fieldLink RX6 19 "CraneGatesModel" "tried" "[I") (by decide +kernel)
  unfold q_X6_minutesUntil at h
  refine lv_iload_n hx hb dX6_minutesUntil_0 rfl (lv_at hl 1 rfl) ?_
  refine lv_iconst (v := 0) hx hb dX6_minutesUntil_1 (by decide) ?_
  refine lv_sipush (v := 9999) hx hb dX6_minutesUntil_2 (by decide) ?_
  refine ks_i (As := [.int x, .int 0, .int 9999]) (rest := []) (wg := (fun _ => (wM cI q M))) ⟨hx, hb, hml, hown, hts⟩ (c_X6_in l G cI cC cD  _  x 0 9999 _ h) (va_cwS 3 hts gX6_minutesUntil_X6_in rfl rfl rfl (by decide +kernel) ⟨Nat.le_of_ble_eq_true rfl, Nat.le_of_ble_eq_true rfl⟩) hK hN hP hD hS hA (em_0 _) (fun _ => rp_self (em_0 _)) rfl hl.1 rfl (Nat.le_of_ble_eq_true rfl) dX6_minutesUntil_5 ⟨Nat.zero_le _, Nat.zero_le _⟩ (fun r_1 _ H locs h hP hD hS => ?_)
  refine lv_if_eq (tgt := 20) hx hb dX6_minutesUntil_8 (by decide) (fun c_2 => ?_) (fun c_2 => ?_)
  · have h := h.1 c_2
    refine lv_ldc hx hb hown (hts (.constant RX6 103 (-1000001)) (by decide +kernel)) dX6_minutesUntil_20 ?_
    exact W.iret (v := (-1000001)) hx hb hr (fun t ht hW => ⟨⟨(-1000001), M, rfl, h, by rw [ht]; exact hP, hD⟩, hS.F ht⟩) hS.2.2 dX6_minutesUntil_22
  · have h := h.2 c_2
    refine lv_iload_n hx hb dX6_minutesUntil_11 rfl (lv_at hl 2 rfl) ?_
    refine lv_iconst (v := 0) hx hb dX6_minutesUntil_12 (by decide) ?_
    refine lv_iconst (v := 1) hx hb dX6_minutesUntil_13 (by decide) ?_
    refine ks_i (As := [.int y, .int 0, .int 1]) (rest := []) (wg := (fun _ => (wM cI q M))) ⟨hx, hb, hml, hown, hts⟩ (c_X6_in l G cI cC cD  _  y 0 1 _ h) (va_cwS 3 hts gX6_minutesUntil_X6_in rfl rfl rfl (by decide +kernel) ⟨Nat.le_of_ble_eq_true rfl, Nat.le_of_ble_eq_true rfl⟩) hK hN hP hD hS hA (em_0 _) (fun _ => rp_self (em_0 _)) rfl hl.1 rfl (Nat.le_of_ble_eq_true rfl) dX6_minutesUntil_14 ⟨Nat.zero_le _, Nat.zero_le _⟩ (fun r_3 _ H locs h hP hD hS => ?_)
    refine lv_if_ne (tgt := 23) hx hb dX6_minutesUntil_17 (by decide) (fun c_4 => ?_) (fun c_4 => ?_)
    · have h := h.2 c_4
      refine lv_aload_n hx hb dX6_minutesUntil_23 rfl (lv_at hl 0 rfl) ?_
      refine va_get (D := G) (ci := 6) (v := .ref (q 1)) (C := RX6) (T := TX6) (N := 11) hx hb hts hinX6 hown hK hP 0 rfl rfl 0 (by decide) hL7 (fun _ h9 => h9) rfl dX6_minutesUntil_24 ?_
      refine lv_aload_n hx hb dX6_minutesUntil_27 rfl (lv_at hl 0 rfl) ?_
      refine va_get (D := G) (ci := 6) (v := .ref (q 4)) (C := RX6) (T := TX6) (N := 11) hx hb hts hinX6 hown hK hP 0 rfl rfl 3 (by decide) hL19 (fun _ h9 => h9) rfl dX6_minutesUntil_28 ?_
      refine ks_v (As := [.ref (q 1), .ref (q 4)]) (rest := []) (wg := (fun u => (wM cI q (uA (uA M 0 (u 0)) 3 (u 1))))) ⟨hx, hb, hml, hown, hts⟩ (c_X6_copies l G cI cC cD (q 1) (q 4) _ (fun i => cond (Nat.beq i 0) (M 0) (M 3))  _ h) (va_cwS 2 hts gX6_minutesUntil_X6_copies rfl rfl rfl (by decide +kernel) ⟨Nat.le_of_ble_eq_true rfl, Nat.le_of_ble_eq_true rfl⟩) hK hN hP hD hS hA (em_M2_03 cI q M) (fun u => rp_M2_03 cI q M u) rfl hl.1 rfl (Nat.le_of_ble_eq_true rfl) dX6_minutesUntil_31 ⟨Nat.zero_le _, Nat.zero_le _⟩ (fun u_5 H locs h hP hD hS => ?_)
      refine lv_iconst (v := 0) hx hb dX6_minutesUntil_34 (by decide) ?_
      refine lv_istore_n (lv' := [(3, .int 0), (0, .ref (q 0)), (1, .int x), (2, .int y)]) hx hb dX6_minutesUntil_35 rfl hl (by decide) rfl (fun ls hl => ?_)
      obtain ⟨I_7, n_11, h_12, hI_13⟩ := h
      have lp_14 : ∀ (n_6 : Nat) (x3_8 : Int32) (D_9 : St), I_7 n_6 x3_8 D_9 → ∀ (H : Heap) (locs : List Loc) (ls : Array Slot), va_P G vwCl (wM cI q D_9) H → va_D A (wM cI q D_9) → va_S A s.heap H locs → lv_has ls 4 [(3, .int x3_8), (0, .ref (q 0)), (1, .int x), (2, .int y)] → W p l e (headSpec wsX6_minutesUntil ({ frames := 5, cells := 0, slots := 0, locals := 111 })).room s m ([.ref (q 0), .int x, .int y] : List Value).toArray below meth c H locs 0 0 (MQ below (va_Qi Q (BW G (fun u : St => (wM cI q u)) A) A) ([.ref (q 0), .int x, .int y] : List Value).toArray s 0 0 A) (F0 m 36 ls []) := by
        intro n_6
        induction n_6 using Nat.strongRecOn with
        | ind n_6 ih_10 =>
          intro x3_8 D_9 hIn H locs ls hP hD hS hl
          have h := hI_13 n_6 x3_8 D_9 hIn
          refine lv_iload_n hx hb dX6_minutesUntil_36 rfl (lv_at hl 0 rfl) ?_
          refine lv_sipush (v := 1000) hx hb dX6_minutesUntil_37 (by decide) ?_
          refine lv_icmp_gt (tgt := 62) hx hb dX6_minutesUntil_40 (by decide) (fun c_15 => ?_) (fun c_15 => ?_)
          · have h := h.1 c_15
            refine lv_aload_n hx hb dX6_minutesUntil_62 rfl (lv_at hl 1 rfl) ?_
            refine va_get (D := G) (ci := 6) (v := .ref (q 4)) (C := RX6) (T := TX6) (N := 11) hx hb hts hinX6 hown hK hP 0 rfl rfl 3 (by decide) hL19 (fun _ h9 => h9) rfl dX6_minutesUntil_63 ?_
            refine lv_aload_n hx hb dX6_minutesUntil_66 rfl (lv_at hl 1 rfl) ?_
            refine va_get (D := G) (ci := 6) (v := .ref (q 1)) (C := RX6) (T := TX6) (N := 11) hx hb hts hinX6 hown hK hP 0 rfl rfl 0 (by decide) hL7 (fun _ h9 => h9) rfl dX6_minutesUntil_67 ?_
            refine ks_v (As := [.ref (q 4), .ref (q 1)]) (rest := []) (wg := (fun u => (wM cI q (uA (uA D_9 3 (u 0)) 0 (u 1))))) ⟨hx, hb, hml, hown, hts⟩ (c_X6_copies l G cI cC cD (q 4) (q 1) _ (fun i => cond (Nat.beq i 0) (D_9 3) (D_9 0))  _ h) (va_cwS 2 hts gX6_minutesUntil_X6_copies rfl rfl rfl (by decide +kernel) ⟨Nat.le_of_ble_eq_true rfl, Nat.le_of_ble_eq_true rfl⟩) hK hN hP hD hS hA (em_M2_30 cI q D_9) (fun u => rp_M2_30 cI q D_9 u) rfl hl.1 rfl (Nat.le_of_ble_eq_true rfl) dX6_minutesUntil_70 ⟨Nat.zero_le _, Nat.zero_le _⟩ (fun u_16 H locs h hP hD hS => ?_)
            refine lv_iload_n hx hb dX6_minutesUntil_73 rfl (lv_at hl 0 rfl) ?_
            refine lv_sipush (v := 1000) hx hb dX6_minutesUntil_74 (by decide) ?_
            refine lv_icmp_le (tgt := 85) hx hb dX6_minutesUntil_77 (by decide) (fun c_17 => ?_) (fun c_17 => ?_)
            · have h := h.1 c_17
              refine lv_iload_n hx hb dX6_minutesUntil_85 rfl (lv_at hl 0 rfl) ?_
              exact W.iret (v := x3_8) hx hb hr (fun t ht hW => ⟨⟨x3_8, (uA (uA D_9 3 (u_16 0)) 0 (u_16 1)), rfl, h, by rw [ht]; exact hP, hD⟩, hS.F ht⟩) hS.2.2 dX6_minutesUntil_86
            · have h := h.2 c_17
              refine lv_ldc hx hb hown (hts (.constant RX6 40 (-1000004)) (by decide +kernel)) dX6_minutesUntil_80 ?_
              refine lv_goto (tgt := 86) hx hb dX6_minutesUntil_82 (by decide) ?_
              exact W.iret (v := (-1000004)) hx hb hr (fun t ht hW => ⟨⟨(-1000004), (uA (uA D_9 3 (u_16 0)) 0 (u_16 1)), rfl, h, by rw [ht]; exact hP, hD⟩, hS.F ht⟩) hS.2.2 dX6_minutesUntil_86
          · have h := h.2 c_15
            refine lv_aload_n hx hb dX6_minutesUntil_43 rfl (lv_at hl 1 rfl) ?_
            refine lv_iload_n hx hb dX6_minutesUntil_44 rfl (lv_at hl 2 rfl) ?_
            refine lv_iload_n hx hb dX6_minutesUntil_45 rfl (lv_at hl 3 rfl) ?_
            refine kc_i (As := [.int x, .int y]) (rest := []) (wg := (fun _ => (wM cI q D_9))) ⟨hx, hb, hml, hown, hts⟩ (c_X6_isSo l G cI cC cD q _ D_9 x y _ h) (cwV 2 hts gX6_minutesUntil_X6_isSo rfl rfl rfl (by decide +kernel) ⟨Nat.le_of_ble_eq_true rfl, Nat.le_of_ble_eq_true rfl⟩) hK hN hP hD hS hA (em_MM cI q D_9) (fun _ => rp_self (em_MM cI q D_9)) rfl rfl rfl rfl hl.1 rfl (Nat.le_of_ble_eq_true rfl) dX6_minutesUntil_46 ⟨Nat.zero_le _, Nat.zero_le _⟩ (fun r_18 _ H locs h hP hD hS => ?_)
            refine lv_if_ne (tgt := 62) hx hb dX6_minutesUntil_49 (by decide) (fun c_19 => ?_) (fun c_19 => ?_)
            · have h := h.2 c_19
              refine lv_aload_n hx hb dX6_minutesUntil_62 rfl (lv_at hl 1 rfl) ?_
              refine va_get (D := G) (ci := 6) (v := .ref (q 4)) (C := RX6) (T := TX6) (N := 11) hx hb hts hinX6 hown hK hP 0 rfl rfl 3 (by decide) hL19 (fun _ h9 => h9) rfl dX6_minutesUntil_63 ?_
              refine lv_aload_n hx hb dX6_minutesUntil_66 rfl (lv_at hl 1 rfl) ?_
              refine va_get (D := G) (ci := 6) (v := .ref (q 1)) (C := RX6) (T := TX6) (N := 11) hx hb hts hinX6 hown hK hP 0 rfl rfl 0 (by decide) hL7 (fun _ h9 => h9) rfl dX6_minutesUntil_67 ?_
              refine ks_v (As := [.ref (q 4), .ref (q 1)]) (rest := []) (wg := (fun u => (wM cI q (uA (uA D_9 3 (u 0)) 0 (u 1))))) ⟨hx, hb, hml, hown, hts⟩ (c_X6_copies l G cI cC cD (q 4) (q 1) _ (fun i => cond (Nat.beq i 0) (D_9 3) (D_9 0))  _ h) (va_cwS 2 hts gX6_minutesUntil_X6_copies rfl rfl rfl (by decide +kernel) ⟨Nat.le_of_ble_eq_true rfl, Nat.le_of_ble_eq_true rfl⟩) hK hN hP hD hS hA (em_M2_30 cI q D_9) (fun u => rp_M2_30 cI q D_9 u) rfl hl.1 rfl (Nat.le_of_ble_eq_true rfl) dX6_minutesUntil_70 ⟨Nat.zero_le _, Nat.zero_le _⟩ (fun u_20 H locs h hP hD hS => ?_)
              refine lv_iload_n hx hb dX6_minutesUntil_73 rfl (lv_at hl 0 rfl) ?_
              refine lv_sipush (v := 1000) hx hb dX6_minutesUntil_74 (by decide) ?_
              refine lv_icmp_le (tgt := 85) hx hb dX6_minutesUntil_77 (by decide) (fun c_21 => ?_) (fun c_21 => ?_)
              · have h := h.1 c_21
                refine lv_iload_n hx hb dX6_minutesUntil_85 rfl (lv_at hl 0 rfl) ?_
                exact W.iret (v := x3_8) hx hb hr (fun t ht hW => ⟨⟨x3_8, (uA (uA D_9 3 (u_20 0)) 0 (u_20 1)), rfl, h, by rw [ht]; exact hP, hD⟩, hS.F ht⟩) hS.2.2 dX6_minutesUntil_86
              · have h := h.2 c_21
                refine lv_ldc hx hb hown (hts (.constant RX6 40 (-1000004)) (by decide +kernel)) dX6_minutesUntil_80 ?_
                refine lv_goto (tgt := 86) hx hb dX6_minutesUntil_82 (by decide) ?_
                exact W.iret (v := (-1000004)) hx hb hr (fun t ht hW => ⟨⟨(-1000004), (uA (uA D_9 3 (u_20 0)) 0 (u_20 1)), rfl, h, by rw [ht]; exact hP, hD⟩, hS.F ht⟩) hS.2.2 dX6_minutesUntil_86
            · have h := h.1 c_19
              refine lv_aload_n hx hb dX6_minutesUntil_52 rfl (lv_at hl 1 rfl) ?_
              refine kc_v (As := []) (rest := []) (wg := (fun u => (wM cI q u))) ⟨hx, hb, hml, hown, hts⟩ (c_X6_passes l G cI cC cD q _ D_9  _ h) (cwV 0 hts gX6_minutesUntil_X6_passes rfl rfl rfl (by decide +kernel) ⟨Nat.le_of_ble_eq_true rfl, Nat.le_of_ble_eq_true rfl⟩) hK hN hP hD hS hA (em_MM cI q D_9) (fun u => rp_MM cI q D_9 u) rfl rfl rfl rfl hl.1 rfl (Nat.le_of_ble_eq_true rfl) dX6_minutesUntil_53 ⟨Nat.zero_le _, Nat.zero_le _⟩ (fun u_22 H locs h hP hD hS => ?_)
              refine lv_iinc (v := x3_8 + 1) (lv' := [(3, .int (x3_8 + 1)), (0, .ref (q 0)), (1, .int x), (2, .int y)]) hx hb dX6_minutesUntil_56 hl (k := 0) rfl rfl (by decide) rfl (fun ls hl => ?_)
              refine lv_goto (tgt := 36) hx hb dX6_minutesUntil_59 (by decide) ?_
              obtain ⟨n_23, lt_24, h_25⟩ := h
              exact ih_10 n_23 lt_24 _ _ h_25 _ _ _ hP hD hS (lv_sub hl [0, 1, 2, 3] rfl)
      exact lp_14 _ _ _ h_12 _ _ _ hP hD hS hl
    · have h := h.1 c_4
      refine lv_ldc hx hb hown (hts (.constant RX6 103 (-1000001)) (by decide +kernel)) dX6_minutesUntil_20 ?_
      exact W.iret (v := (-1000001)) hx hb hr (fun t ht hW => ⟨⟨(-1000001), M, rfl, h, by rw [ht]; exact hP, hD⟩, hS.F ht⟩) hS.2.2 dX6_minutesUntil_22
def q_X6_isAtRest (M : St) (Q : Int32 → Prop) : Prop :=
  (0 ≤ ((M 0) 7) → Q 0) ∧ (¬ (0 ≤ ((M 0) 7)) → (((M 0) 10) = 0 → (((M 0) 11) = 0 → (((M 0) 9) = 0 → Q 1) ∧ (¬ (((M 0) 9) = 0) → Q 0)) ∧ (¬ (((M 0) 11) = 0) → Q 0)) ∧ (¬ (((M 0) 10) = 0) → Q 0))
set_option maxHeartbeats 4000000 in
set_option maxRecDepth 100000 in
theorem c_X6_isAtRest (l : Launch) (G : va_G) (cI cC cD : ClassId) (q : Nat → Nat) (sz : Nat) (M : St)  (Q : Int32 → Prop) (h : q_X6_isAtRest  M Q) : Met l yX6_isAtRest wsX6_isAtRest ({ frames := 0, cells := 0, slots := 0, locals := 0 }) (va_Pc [.ref (q 0)] (PW G (ty3 cI cC cD) (wM cI q M) sz)) (va_Qi (fun (r : Int32) (_ : Unit) => Q r) (BW G (fun _ : Unit => (wM cI q M)) (va_A (wM cI q M) sz)) (va_A (wM cI q M) sz)) 0 0 (va_A (wM cI q M) sz) := by
  refine Met.ofW (cc := cX6_isAtRest) (maxL := 1) (ret := (some .boolean)) (by decide) rfl ?_
  intro p e s m args below meth c s₁ B hml hv
  obtain ⟨rfl, hsz, hP, hK, hD0, hN⟩ := hv
  have hx := B.exec
  have hb := B.bytes
  have hr := B.returns
  have hts := atoms_spec (ws := wsX6_isAtRest) B.pre
  have hown : s.vm.findClass RX6 = some m.cls := findClass_of_methodNamed B.named
  have hlocks := B.notSynchronized
  subst hsz
  have hD := hD0.self (sz := s.heap.size)
  generalize hAe : va_A (wM cI q M) s.heap.size = A at hD ⊢
  have hA : ∀ q : Nat, s.heap.size ≤ q → A q := fun q h => by rw [← hAe]; exact Or.inr h
  have hS : va_S A s.heap s.heap [] := va_S.rf
  have hl := lv_entry ([.ref (q 0)]) (n := 1) (Nat.le_of_ble_eq_true rfl)
  rw [lg_entry_eq]
  generalize (lg_sl ([.ref (q 0)]) ++ List.replicate (1 - (lg_sl ([.ref (q 0)])).length) Slot.unset).toArray = ls at hl ⊢
  have hl : lv_has ls 1 [(0, .ref (q 0))] := hl
  have hinX6 : ∀ w ∈ wsX60, w ∈ wsX6_isAtRest := by decide +kernel
  have hL7 := hts (.fieldLink RX6 7 "CraneGatesModel" "s" "[I") (by decide +kernel)
  unfold q_X6_isAtRest at h
  refine lv_aload_n hx hb dX6_isAtRest_0 rfl (lv_at hl 0 rfl) ?_
  refine va_get (D := G) (ci := 6) (v := .ref (q 1)) (C := RX6) (T := TX6) (N := 11) hx hb hts hinX6 hown hK hP 0 rfl rfl 0 (by decide) hL7 (fun _ h9 => h9) rfl dX6_isAtRest_1 ?_
  refine lv_bipush (v := 7) hx hb dX6_isAtRest_4 (by decide) ?_
  refine k_ald (f := (M 0)) (j := 7) (v := ((M 0) 7)) hx hb hK hP 1 0 rfl rfl (show ¬ ((7 : Int32) < 0 ∨ 86 ≤ (7 : Int32).toNatClampNeg) by decide) rfl rfl dX6_isAtRest_6 ?_
  refine lv_if_ge (tgt := 44) hx hb dX6_isAtRest_7 (by decide) (fun c_1 => ?_) (fun c_1 => ?_)
  · have h := h.1 c_1
    refine lv_iconst (v := 0) hx hb dX6_isAtRest_44 (by decide) ?_
    exact W.zret (v := 0) hx hb hr rfl (fun t ht hW => ⟨⟨0, (), rfl, h, by rw [ht]; exact hP, hD⟩, hS.F ht⟩) hS.2.2 dX6_isAtRest_45
  · have h := h.2 c_1
    refine lv_aload_n hx hb dX6_isAtRest_10 rfl (lv_at hl 0 rfl) ?_
    refine va_get (D := G) (ci := 6) (v := .ref (q 1)) (C := RX6) (T := TX6) (N := 11) hx hb hts hinX6 hown hK hP 0 rfl rfl 0 (by decide) hL7 (fun _ h9 => h9) rfl dX6_isAtRest_11 ?_
    refine lv_bipush (v := 10) hx hb dX6_isAtRest_14 (by decide) ?_
    refine k_ald (f := (M 0)) (j := 10) (v := ((M 0) 10)) hx hb hK hP 1 0 rfl rfl (show ¬ ((10 : Int32) < 0 ∨ 86 ≤ (10 : Int32).toNatClampNeg) by decide) rfl rfl dX6_isAtRest_16 ?_
    refine lv_if_ne (tgt := 44) hx hb dX6_isAtRest_17 (by decide) (fun c_2 => ?_) (fun c_2 => ?_)
    · have h := h.2 c_2
      refine lv_iconst (v := 0) hx hb dX6_isAtRest_44 (by decide) ?_
      exact W.zret (v := 0) hx hb hr rfl (fun t ht hW => ⟨⟨0, (), rfl, h, by rw [ht]; exact hP, hD⟩, hS.F ht⟩) hS.2.2 dX6_isAtRest_45
    · have h := h.1 c_2
      refine lv_aload_n hx hb dX6_isAtRest_20 rfl (lv_at hl 0 rfl) ?_
      refine va_get (D := G) (ci := 6) (v := .ref (q 1)) (C := RX6) (T := TX6) (N := 11) hx hb hts hinX6 hown hK hP 0 rfl rfl 0 (by decide) hL7 (fun _ h9 => h9) rfl dX6_isAtRest_21 ?_
      refine lv_bipush (v := 11) hx hb dX6_isAtRest_24 (by decide) ?_
      refine k_ald (f := (M 0)) (j := 11) (v := ((M 0) 11)) hx hb hK hP 1 0 rfl rfl (show ¬ ((11 : Int32) < 0 ∨ 86 ≤ (11 : Int32).toNatClampNeg) by decide) rfl rfl dX6_isAtRest_26 ?_
      refine lv_if_ne (tgt := 44) hx hb dX6_isAtRest_27 (by decide) (fun c_3 => ?_) (fun c_3 => ?_)
      · have h := h.2 c_3
        refine lv_iconst (v := 0) hx hb dX6_isAtRest_44 (by decide) ?_
        exact W.zret (v := 0) hx hb hr rfl (fun t ht hW => ⟨⟨0, (), rfl, h, by rw [ht]; exact hP, hD⟩, hS.F ht⟩) hS.2.2 dX6_isAtRest_45
      · have h := h.1 c_3
        refine lv_aload_n hx hb dX6_isAtRest_30 rfl (lv_at hl 0 rfl) ?_
        refine va_get (D := G) (ci := 6) (v := .ref (q 1)) (C := RX6) (T := TX6) (N := 11) hx hb hts hinX6 hown hK hP 0 rfl rfl 0 (by decide) hL7 (fun _ h9 => h9) rfl dX6_isAtRest_31 ?_
        refine lv_bipush (v := 9) hx hb dX6_isAtRest_34 (by decide) ?_
        refine k_ald (f := (M 0)) (j := 9) (v := ((M 0) 9)) hx hb hK hP 1 0 rfl rfl (show ¬ ((9 : Int32) < 0 ∨ 86 ≤ (9 : Int32).toNatClampNeg) by decide) rfl rfl dX6_isAtRest_36 ?_
        refine lv_if_ne (tgt := 44) hx hb dX6_isAtRest_37 (by decide) (fun c_4 => ?_) (fun c_4 => ?_)
        · have h := h.2 c_4
          refine lv_iconst (v := 0) hx hb dX6_isAtRest_44 (by decide) ?_
          exact W.zret (v := 0) hx hb hr rfl (fun t ht hW => ⟨⟨0, (), rfl, h, by rw [ht]; exact hP, hD⟩, hS.F ht⟩) hS.2.2 dX6_isAtRest_45
        · have h := h.1 c_4
          refine lv_iconst (v := 1) hx hb dX6_isAtRest_40 (by decide) ?_
          refine lv_goto (tgt := 45) hx hb dX6_isAtRest_41 (by decide) ?_
          exact W.zret (v := 1) hx hb hr rfl (fun t ht hW => ⟨⟨1, (), rfl, h, by rw [ht]; exact hP, hD⟩, hS.F ht⟩) hS.2.2 dX6_isAtRest_45
def q_X6_restIn (x : Int32) (M : St) (Q : Int32 → St → Prop) : Prop :=
  q_X6_copies (fun i => cond (Nat.beq i 0) (M 0) (M 3)) (fun u_1 => ∃ (I_3 : Nat → Int32 → St → Prop) (n_7 : Nat), I_3 n_7 0 (uA (uA (uA M 0 (u_1 0)) 3 (u_1 1)) 0 (upd (u_1 0) 2 x)) ∧ ∀ (n_2 : Nat) (x2_4 : Int32) (D_5 : St), I_3 n_2 x2_4 D_5 → ((1000 < x2_4 → q_X6_copies (fun i => cond (Nat.beq i 0) (D_5 3) (D_5 0)) (fun u_12 => (x2_4 ≤ 1000 → Q x2_4 (uA (uA D_5 3 (u_12 0)) 0 (u_12 1))) ∧ (¬ (x2_4 ≤ 1000) → Q (-1000004) (uA (uA D_5 3 (u_12 0)) 0 (u_12 1))))) ∧ (¬ (1000 < x2_4) → q_X6_isAtRest D_5 (fun r_14 => (r_14 = 0 → q_X6_passes D_5 (fun u_18 => ∃ n_19, n_19 < n_2 ∧ I_3 n_19 (x2_4 + 1) u_18)) ∧ (¬ (r_14 = 0) → q_X6_copies (fun i => cond (Nat.beq i 0) (D_5 3) (D_5 0)) (fun u_16 => (x2_4 ≤ 1000 → Q x2_4 (uA (uA D_5 3 (u_16 0)) 0 (u_16 1))) ∧ (¬ (x2_4 ≤ 1000) → Q (-1000004) (uA (uA D_5 3 (u_16 0)) 0 (u_16 1)))))))))
set_option maxHeartbeats 4000000 in
set_option maxRecDepth 100000 in
theorem c_X6_restIn (l : Launch) (G : va_G) (cI cC cD : ClassId) (q : Nat → Nat) (sz : Nat) (M : St) (x : Int32) (Q : Int32 → St → Prop) (h : q_X6_restIn x M Q) : Met l yX6_restIn wsX6_restIn ({ frames := 5, cells := 0, slots := 0, locals := 111 }) (va_Pc [.ref (q 0), .int x] (PW G (ty3 cI cC cD) (wM cI q M) sz)) (va_Qi Q (BW G (fun u : St => (wM cI q u)) (va_A (wM cI q M) sz)) (va_A (wM cI q M) sz)) 0 0 (va_A (wM cI q M) sz) := by
  refine Met.ofW (cc := cX6_restIn) (maxL := 3) (ret := (some .int)) (by decide) rfl ?_
  intro p e s m args below meth c s₁ B hml hv
  obtain ⟨rfl, hsz, hP, hK, hD0, hN⟩ := hv
  have hx := B.exec
  have hb := B.bytes
  have hr := B.returns
  have hts := atoms_spec (ws := wsX6_restIn) B.pre
  have hown : s.vm.findClass RX6 = some m.cls := findClass_of_methodNamed B.named
  have hlocks := B.notSynchronized
  subst hsz
  have hD := hD0.self (sz := s.heap.size)
  generalize hAe : va_A (wM cI q M) s.heap.size = A at hD ⊢
  have hA : ∀ q : Nat, s.heap.size ≤ q → A q := fun q h => by rw [← hAe]; exact Or.inr h
  have hS : va_S A s.heap s.heap [] := va_S.rf
  have hl := lv_entry ([.ref (q 0), .int x]) (n := 3) (Nat.le_of_ble_eq_true rfl)
  rw [lg_entry_eq]
  generalize (lg_sl ([.ref (q 0), .int x]) ++ List.replicate (3 - (lg_sl ([.ref (q 0), .int x])).length) Slot.unset).toArray = ls at hl ⊢
  have hl : lv_has ls 3 [(0, .ref (q 0)), (1, .int x)] := hl
  have hinX6 : ∀ w ∈ wsX60, w ∈ wsX6_restIn := by decide +kernel
  have hL7 := hts (.fieldLink RX6 7 "CraneGatesModel" "s" "[I") (by decide +kernel)
  have hL19 := hts (.fieldLink RX6 19 "CraneGatesModel" "tried" "[I") (by decide +kernel)
  unfold q_X6_restIn at h
  refine lv_aload_n hx hb dX6_restIn_0 rfl (lv_at hl 0 rfl) ?_
  refine va_get (D := G) (ci := 6) (v := .ref (q 1)) (C := RX6) (T := TX6) (N := 11) hx hb hts hinX6 hown hK hP 0 rfl rfl 0 (by decide) hL7 (fun _ h9 => h9) rfl dX6_restIn_1 ?_
  refine lv_aload_n hx hb dX6_restIn_4 rfl (lv_at hl 0 rfl) ?_
  refine va_get (D := G) (ci := 6) (v := .ref (q 4)) (C := RX6) (T := TX6) (N := 11) hx hb hts hinX6 hown hK hP 0 rfl rfl 3 (by decide) hL19 (fun _ h9 => h9) rfl dX6_restIn_5 ?_
  refine ks_v (As := [.ref (q 1), .ref (q 4)]) (rest := []) (wg := (fun u => (wM cI q (uA (uA M 0 (u 0)) 3 (u 1))))) ⟨hx, hb, hml, hown, hts⟩ (c_X6_copies l G cI cC cD (q 1) (q 4) _ (fun i => cond (Nat.beq i 0) (M 0) (M 3))  _ h) (va_cwS 2 hts gX6_restIn_X6_copies rfl rfl rfl (by decide +kernel) ⟨Nat.le_of_ble_eq_true rfl, Nat.le_of_ble_eq_true rfl⟩) hK hN hP hD hS hA (em_M2_03 cI q M) (fun u => rp_M2_03 cI q M u) rfl hl.1 rfl (Nat.le_of_ble_eq_true rfl) dX6_restIn_8 ⟨Nat.zero_le _, Nat.zero_le _⟩ (fun u_1 H locs h hP hD hS => ?_)
  refine lv_aload_n hx hb dX6_restIn_11 rfl (lv_at hl 0 rfl) ?_
  refine va_get (D := G) (ci := 6) (v := .ref (q 1)) (C := RX6) (T := TX6) (N := 11) hx hb hts hinX6 hown hK hP 0 rfl rfl 0 (by decide) hL7 (fun _ h9 => h9) rfl dX6_restIn_12 ?_
  refine lv_iconst (v := 2) hx hb dX6_restIn_15 (by decide) ?_
  refine lv_iload_n hx hb dX6_restIn_16 rfl (lv_at hl 1 rfl) ?_
  refine k_ast (f := (u_1 0)) (j := 2) (ws' := (wM cI q (uA (uA (uA M 0 (u_1 0)) 3 (u_1 1)) 0 (upd (u_1 0) 2 x)))) hx hb hK hP hD hS 1 0 rfl rfl (show ¬ ((2 : Int32) < 0 ∨ 86 ≤ (2 : Int32).toNatClampNeg) by decide) rfl dX6_restIn_17 (st_M_0 cI q (uA (uA M 0 (u_1 0)) 3 (u_1 1)) (upd (u_1 0) 2 x)) (fun H locs hP hD hS => ?_)
  refine lv_iconst (v := 0) hx hb dX6_restIn_18 (by decide) ?_
  refine lv_istore_n (lv' := [(2, .int 0), (0, .ref (q 0)), (1, .int x)]) hx hb dX6_restIn_19 rfl hl (by decide) rfl (fun ls hl => ?_)
  obtain ⟨I_3, n_7, h_8, hI_9⟩ := h
  have lp_10 : ∀ (n_2 : Nat) (x2_4 : Int32) (D_5 : St), I_3 n_2 x2_4 D_5 → ∀ (H : Heap) (locs : List Loc) (ls : Array Slot), va_P G vwCl (wM cI q D_5) H → va_D A (wM cI q D_5) → va_S A s.heap H locs → lv_has ls 3 [(2, .int x2_4), (0, .ref (q 0)), (1, .int x)] → W p l e (headSpec wsX6_restIn ({ frames := 5, cells := 0, slots := 0, locals := 111 })).room s m ([.ref (q 0), .int x] : List Value).toArray below meth c H locs 0 0 (MQ below (va_Qi Q (BW G (fun u : St => (wM cI q u)) A) A) ([.ref (q 0), .int x] : List Value).toArray s 0 0 A) (F0 m 20 ls []) := by
    intro n_2
    induction n_2 using Nat.strongRecOn with
    | ind n_2 ih_6 =>
      intro x2_4 D_5 hIn H locs ls hP hD hS hl
      have h := hI_9 n_2 x2_4 D_5 hIn
      refine lv_iload_n hx hb dX6_restIn_20 rfl (lv_at hl 0 rfl) ?_
      refine lv_sipush (v := 1000) hx hb dX6_restIn_21 (by decide) ?_
      refine lv_icmp_gt (tgt := 44) hx hb dX6_restIn_24 (by decide) (fun c_11 => ?_) (fun c_11 => ?_)
      · have h := h.1 c_11
        refine lv_aload_n hx hb dX6_restIn_44 rfl (lv_at hl 1 rfl) ?_
        refine va_get (D := G) (ci := 6) (v := .ref (q 4)) (C := RX6) (T := TX6) (N := 11) hx hb hts hinX6 hown hK hP 0 rfl rfl 3 (by decide) hL19 (fun _ h9 => h9) rfl dX6_restIn_45 ?_
        refine lv_aload_n hx hb dX6_restIn_48 rfl (lv_at hl 1 rfl) ?_
        refine va_get (D := G) (ci := 6) (v := .ref (q 1)) (C := RX6) (T := TX6) (N := 11) hx hb hts hinX6 hown hK hP 0 rfl rfl 0 (by decide) hL7 (fun _ h9 => h9) rfl dX6_restIn_49 ?_
        refine ks_v (As := [.ref (q 4), .ref (q 1)]) (rest := []) (wg := (fun u => (wM cI q (uA (uA D_5 3 (u 0)) 0 (u 1))))) ⟨hx, hb, hml, hown, hts⟩ (c_X6_copies l G cI cC cD (q 4) (q 1) _ (fun i => cond (Nat.beq i 0) (D_5 3) (D_5 0))  _ h) (va_cwS 2 hts gX6_restIn_X6_copies rfl rfl rfl (by decide +kernel) ⟨Nat.le_of_ble_eq_true rfl, Nat.le_of_ble_eq_true rfl⟩) hK hN hP hD hS hA (em_M2_30 cI q D_5) (fun u => rp_M2_30 cI q D_5 u) rfl hl.1 rfl (Nat.le_of_ble_eq_true rfl) dX6_restIn_52 ⟨Nat.zero_le _, Nat.zero_le _⟩ (fun u_12 H locs h hP hD hS => ?_)
        refine lv_iload_n hx hb dX6_restIn_55 rfl (lv_at hl 0 rfl) ?_
        refine lv_sipush (v := 1000) hx hb dX6_restIn_56 (by decide) ?_
        refine lv_icmp_le (tgt := 67) hx hb dX6_restIn_59 (by decide) (fun c_13 => ?_) (fun c_13 => ?_)
        · have h := h.1 c_13
          refine lv_iload_n hx hb dX6_restIn_67 rfl (lv_at hl 0 rfl) ?_
          exact W.iret (v := x2_4) hx hb hr (fun t ht hW => ⟨⟨x2_4, (uA (uA D_5 3 (u_12 0)) 0 (u_12 1)), rfl, h, by rw [ht]; exact hP, hD⟩, hS.F ht⟩) hS.2.2 dX6_restIn_68
        · have h := h.2 c_13
          refine lv_ldc hx hb hown (hts (.constant RX6 40 (-1000004)) (by decide +kernel)) dX6_restIn_62 ?_
          refine lv_goto (tgt := 68) hx hb dX6_restIn_64 (by decide) ?_
          exact W.iret (v := (-1000004)) hx hb hr (fun t ht hW => ⟨⟨(-1000004), (uA (uA D_5 3 (u_12 0)) 0 (u_12 1)), rfl, h, by rw [ht]; exact hP, hD⟩, hS.F ht⟩) hS.2.2 dX6_restIn_68
      · have h := h.2 c_11
        refine lv_aload_n hx hb dX6_restIn_27 rfl (lv_at hl 1 rfl) ?_
        refine kc_i (As := []) (rest := []) (wg := (fun _ => (wM cI q D_5))) ⟨hx, hb, hml, hown, hts⟩ (c_X6_isAtRest l G cI cC cD q _ D_5  _ h) (cwV 0 hts gX6_restIn_X6_isAtRest rfl rfl rfl (by decide +kernel) ⟨Nat.le_of_ble_eq_true rfl, Nat.le_of_ble_eq_true rfl⟩) hK hN hP hD hS hA (em_MM cI q D_5) (fun _ => rp_self (em_MM cI q D_5)) rfl rfl rfl rfl hl.1 rfl (Nat.le_of_ble_eq_true rfl) dX6_restIn_28 ⟨Nat.zero_le _, Nat.zero_le _⟩ (fun r_14 _ H locs h hP hD hS => ?_)
        refine lv_if_ne (tgt := 44) hx hb dX6_restIn_31 (by decide) (fun c_15 => ?_) (fun c_15 => ?_)
        · have h := h.2 c_15
          refine lv_aload_n hx hb dX6_restIn_44 rfl (lv_at hl 1 rfl) ?_
          refine va_get (D := G) (ci := 6) (v := .ref (q 4)) (C := RX6) (T := TX6) (N := 11) hx hb hts hinX6 hown hK hP 0 rfl rfl 3 (by decide) hL19 (fun _ h9 => h9) rfl dX6_restIn_45 ?_
          refine lv_aload_n hx hb dX6_restIn_48 rfl (lv_at hl 1 rfl) ?_
          refine va_get (D := G) (ci := 6) (v := .ref (q 1)) (C := RX6) (T := TX6) (N := 11) hx hb hts hinX6 hown hK hP 0 rfl rfl 0 (by decide) hL7 (fun _ h9 => h9) rfl dX6_restIn_49 ?_
          refine ks_v (As := [.ref (q 4), .ref (q 1)]) (rest := []) (wg := (fun u => (wM cI q (uA (uA D_5 3 (u 0)) 0 (u 1))))) ⟨hx, hb, hml, hown, hts⟩ (c_X6_copies l G cI cC cD (q 4) (q 1) _ (fun i => cond (Nat.beq i 0) (D_5 3) (D_5 0))  _ h) (va_cwS 2 hts gX6_restIn_X6_copies rfl rfl rfl (by decide +kernel) ⟨Nat.le_of_ble_eq_true rfl, Nat.le_of_ble_eq_true rfl⟩) hK hN hP hD hS hA (em_M2_30 cI q D_5) (fun u => rp_M2_30 cI q D_5 u) rfl hl.1 rfl (Nat.le_of_ble_eq_true rfl) dX6_restIn_52 ⟨Nat.zero_le _, Nat.zero_le _⟩ (fun u_16 H locs h hP hD hS => ?_)
          refine lv_iload_n hx hb dX6_restIn_55 rfl (lv_at hl 0 rfl) ?_
          refine lv_sipush (v := 1000) hx hb dX6_restIn_56 (by decide) ?_
          refine lv_icmp_le (tgt := 67) hx hb dX6_restIn_59 (by decide) (fun c_17 => ?_) (fun c_17 => ?_)
          · have h := h.1 c_17
            refine lv_iload_n hx hb dX6_restIn_67 rfl (lv_at hl 0 rfl) ?_
            exact W.iret (v := x2_4) hx hb hr (fun t ht hW => ⟨⟨x2_4, (uA (uA D_5 3 (u_16 0)) 0 (u_16 1)), rfl, h, by rw [ht]; exact hP, hD⟩, hS.F ht⟩) hS.2.2 dX6_restIn_68
          · have h := h.2 c_17
            refine lv_ldc hx hb hown (hts (.constant RX6 40 (-1000004)) (by decide +kernel)) dX6_restIn_62 ?_
            refine lv_goto (tgt := 68) hx hb dX6_restIn_64 (by decide) ?_
            exact W.iret (v := (-1000004)) hx hb hr (fun t ht hW => ⟨⟨(-1000004), (uA (uA D_5 3 (u_16 0)) 0 (u_16 1)), rfl, h, by rw [ht]; exact hP, hD⟩, hS.F ht⟩) hS.2.2 dX6_restIn_68
        · have h := h.1 c_15
          refine lv_aload_n hx hb dX6_restIn_34 rfl (lv_at hl 1 rfl) ?_
          refine kc_v (As := []) (rest := []) (wg := (fun u => (wM cI q u))) ⟨hx, hb, hml, hown, hts⟩ (c_X6_passes l G cI cC cD q _ D_5  _ h) (cwV 0 hts gX6_restIn_X6_passes rfl rfl rfl (by decide +kernel) ⟨Nat.le_of_ble_eq_true rfl, Nat.le_of_ble_eq_true rfl⟩) hK hN hP hD hS hA (em_MM cI q D_5) (fun u => rp_MM cI q D_5 u) rfl rfl rfl rfl hl.1 rfl (Nat.le_of_ble_eq_true rfl) dX6_restIn_35 ⟨Nat.zero_le _, Nat.zero_le _⟩ (fun u_18 H locs h hP hD hS => ?_)
          refine lv_iinc (v := x2_4 + 1) (lv' := [(2, .int (x2_4 + 1)), (0, .ref (q 0)), (1, .int x)]) hx hb dX6_restIn_38 hl (k := 0) rfl rfl (by decide) rfl (fun ls hl => ?_)
          refine lv_goto (tgt := 20) hx hb dX6_restIn_41 (by decide) ?_
          obtain ⟨n_19, lt_20, h_21⟩ := h
          exact ih_6 n_19 lt_20 _ _ h_21 _ _ _ hP hD hS (lv_sub hl [0, 1, 2] rfl)
  exact lp_10 _ _ _ h_8 _ _ _ hP hD hS hl
def q_X6_minutesToRest (M : St) (Q : Int32 → St → Prop) : Prop :=
  q_X6_restIn ((M 0) 2) M (fun r_1 u_2 => Q r_1 u_2)
set_option maxHeartbeats 4000000 in
set_option maxRecDepth 100000 in
theorem c_X6_minutesToRest (l : Launch) (G : va_G) (cI cC cD : ClassId) (q : Nat → Nat) (sz : Nat) (M : St)  (Q : Int32 → St → Prop) (h : q_X6_minutesToRest  M Q) : Met l yX6_minutesToRest wsX6_minutesToRest ({ frames := 6, cells := 0, slots := 0, locals := 133 }) (va_Pc [.ref (q 0)] (PW G (ty3 cI cC cD) (wM cI q M) sz)) (va_Qi Q (BW G (fun u : St => (wM cI q u)) (va_A (wM cI q M) sz)) (va_A (wM cI q M) sz)) 0 0 (va_A (wM cI q M) sz) := by
  refine Met.ofW (cc := cX6_minutesToRest) (maxL := 1) (ret := (some .int)) (by decide) rfl ?_
  intro p e s m args below meth c s₁ B hml hv
  obtain ⟨rfl, hsz, hP, hK, hD0, hN⟩ := hv
  have hx := B.exec
  have hb := B.bytes
  have hr := B.returns
  have hts := atoms_spec (ws := wsX6_minutesToRest) B.pre
  have hown : s.vm.findClass RX6 = some m.cls := findClass_of_methodNamed B.named
  have hlocks := B.notSynchronized
  subst hsz
  have hD := hD0.self (sz := s.heap.size)
  generalize hAe : va_A (wM cI q M) s.heap.size = A at hD ⊢
  have hA : ∀ q : Nat, s.heap.size ≤ q → A q := fun q h => by rw [← hAe]; exact Or.inr h
  have hS : va_S A s.heap s.heap [] := va_S.rf
  have hl := lv_entry ([.ref (q 0)]) (n := 1) (Nat.le_of_ble_eq_true rfl)
  rw [lg_entry_eq]
  generalize (lg_sl ([.ref (q 0)]) ++ List.replicate (1 - (lg_sl ([.ref (q 0)])).length) Slot.unset).toArray = ls at hl ⊢
  have hl : lv_has ls 1 [(0, .ref (q 0))] := hl
  have hinX6 : ∀ w ∈ wsX60, w ∈ wsX6_minutesToRest := by decide +kernel
  have hL7 := hts (.fieldLink RX6 7 "CraneGatesModel" "s" "[I") (by decide +kernel)
  unfold q_X6_minutesToRest at h
  refine lv_aload_n hx hb dX6_minutesToRest_0 rfl (lv_at hl 0 rfl) ?_
  refine lv_aload_n hx hb dX6_minutesToRest_1 rfl (lv_at hl 0 rfl) ?_
  refine va_get (D := G) (ci := 6) (v := .ref (q 1)) (C := RX6) (T := TX6) (N := 11) hx hb hts hinX6 hown hK hP 0 rfl rfl 0 (by decide) hL7 (fun _ h9 => h9) rfl dX6_minutesToRest_2 ?_
  refine lv_iconst (v := 2) hx hb dX6_minutesToRest_5 (by decide) ?_
  refine k_ald (f := (M 0)) (j := 2) (v := ((M 0) 2)) hx hb hK hP 1 0 rfl rfl (show ¬ ((2 : Int32) < 0 ∨ 86 ≤ (2 : Int32).toNatClampNeg) by decide) rfl rfl dX6_minutesToRest_6 ?_
  refine kc_i (As := [.int ((M 0) 2)]) (rest := []) (wg := (fun u => (wM cI q u))) ⟨hx, hb, hml, hown, hts⟩ (c_X6_restIn l G cI cC cD q _ M ((M 0) 2) _ h) (cwV 1 hts gX6_minutesToRest_X6_restIn rfl rfl rfl (by decide +kernel) ⟨Nat.le_of_ble_eq_true rfl, Nat.le_of_ble_eq_true rfl⟩) hK hN hP hD hS hA (em_MM cI q M) (fun u => rp_MM cI q M u) rfl rfl rfl rfl hl.1 rfl (Nat.le_of_ble_eq_true rfl) dX6_minutesToRest_7 ⟨Nat.zero_le _, Nat.zero_le _⟩ (fun r_1 u_2 H locs h hP hD hS => ?_)
  exact W.iret (v := r_1) hx hb hr (fun t ht hW => ⟨⟨r_1, u_2, rfl, h, by rw [ht]; exact hP, hD⟩, hS.F ht⟩) hS.2.2 dX6_minutesToRest_10
def q_X6_bestRule (x : Int32) (M : St) (Q : Int32 → St → Prop) : Prop :=
  q_X6_in x 0 1 (fun r_1 => (r_1 = 0 → Q (-1000001) M) ∧ (¬ (r_1 = 0) → ∃ (I_4 : Nat → Int32 → Int32 → Int32 → St → Prop) (n_10 : Nat), I_4 n_10 0 (-1000004) (-1000004) M ∧ ∀ (n_3 : Nat) (x4_5 : Int32) (x3_6 : Int32) (x2_7 : Int32) (D_8 : St), I_4 n_3 x4_5 x3_6 x2_7 D_8 → ((3 ≤ x4_5 → (x = 0 → Q x2_7 D_8) ∧ (¬ (x = 0) → Q x3_6 D_8)) ∧ (¬ (3 ≤ x4_5) → q_X6_restIn x4_5 D_8 (fun r_16 u_17 => (r_16 < 0 → ∃ n_19, n_19 < n_3 ∧ I_4 n_19 (x4_5 + 1) x3_6 x2_7 u_17) ∧ (¬ (r_16 < 0) → (x3_6 < 0 → ∃ n_23, n_23 < n_3 ∧ I_4 n_23 (x4_5 + 1) r_16 x4_5 u_17) ∧ (¬ (x3_6 < 0) → (x3_6 ≤ r_16 → ∃ n_27, n_27 < n_3 ∧ I_4 n_27 (x4_5 + 1) x3_6 x2_7 u_17) ∧ (¬ (x3_6 ≤ r_16) → ∃ n_30, n_30 < n_3 ∧ I_4 n_30 (x4_5 + 1) r_16 x4_5 u_17))))))))
set_option maxHeartbeats 4000000 in
set_option maxRecDepth 100000 in
theorem c_X6_bestRule (l : Launch) (G : va_G) (cI cC cD : ClassId) (q : Nat → Nat) (sz : Nat) (M : St) (x : Int32) (Q : Int32 → St → Prop) (h : q_X6_bestRule x M Q) : Met l yX6_bestRule wsX6_bestRule ({ frames := 6, cells := 0, slots := 0, locals := 133 }) (va_Pc [.ref (q 0), .int x] (PW G (ty3 cI cC cD) (wM cI q M) sz)) (va_Qi Q (BW G (fun u : St => (wM cI q u)) (va_A (wM cI q M) sz)) (va_A (wM cI q M) sz)) 0 0 (va_A (wM cI q M) sz) := by
  refine Met.ofW (cc := cX6_bestRule) (maxL := 7) (ret := (some .int)) (by decide) rfl ?_
  intro p e s m args below meth c s₁ B hml hv
  obtain ⟨rfl, hsz, hP, hK, hD0, hN⟩ := hv
  have hx := B.exec
  have hb := B.bytes
  have hr := B.returns
  have hts := atoms_spec (ws := wsX6_bestRule) B.pre
  have hown : s.vm.findClass RX6 = some m.cls := findClass_of_methodNamed B.named
  have hlocks := B.notSynchronized
  subst hsz
  have hD := hD0.self (sz := s.heap.size)
  generalize hAe : va_A (wM cI q M) s.heap.size = A at hD ⊢
  have hA : ∀ q : Nat, s.heap.size ≤ q → A q := fun q h => by rw [← hAe]; exact Or.inr h
  have hS : va_S A s.heap s.heap [] := va_S.rf
  have hl := lv_entry ([.ref (q 0), .int x]) (n := 7) (Nat.le_of_ble_eq_true rfl)
  rw [lg_entry_eq]
  generalize (lg_sl ([.ref (q 0), .int x]) ++ List.replicate (7 - (lg_sl ([.ref (q 0), .int x])).length) Slot.unset).toArray = ls at hl ⊢
  have hl : lv_has ls 7 [(0, .ref (q 0)), (1, .int x)] := hl
  unfold q_X6_bestRule at h
  refine lv_iload_n hx hb dX6_bestRule_0 rfl (lv_at hl 1 rfl) ?_
  refine lv_iconst (v := 0) hx hb dX6_bestRule_1 (by decide) ?_
  refine lv_iconst (v := 1) hx hb dX6_bestRule_2 (by decide) ?_
  refine ks_i (As := [.int x, .int 0, .int 1]) (rest := []) (wg := (fun _ => (wM cI q M))) ⟨hx, hb, hml, hown, hts⟩ (c_X6_in l G cI cC cD  _  x 0 1 _ h) (va_cwS 3 hts gX6_bestRule_X6_in rfl rfl rfl (by decide +kernel) ⟨Nat.le_of_ble_eq_true rfl, Nat.le_of_ble_eq_true rfl⟩) hK hN hP hD hS hA (em_0 _) (fun _ => rp_self (em_0 _)) rfl hl.1 rfl (Nat.le_of_ble_eq_true rfl) dX6_bestRule_3 ⟨Nat.zero_le _, Nat.zero_le _⟩ (fun r_1 _ H locs h hP hD hS => ?_)
  refine lv_if_ne (tgt := 12) hx hb dX6_bestRule_6 (by decide) (fun c_2 => ?_) (fun c_2 => ?_)
  · have h := h.2 c_2
    refine lv_ldc hx hb hown (hts (.constant RX6 40 (-1000004)) (by decide +kernel)) dX6_bestRule_12 ?_
    refine lv_istore_n (lv' := [(2, .int (-1000004)), (0, .ref (q 0)), (1, .int x)]) hx hb dX6_bestRule_14 rfl hl (by decide) rfl (fun ls hl => ?_)
    refine lv_ldc hx hb hown (hts (.constant RX6 40 (-1000004)) (by decide +kernel)) dX6_bestRule_15 ?_
    refine lv_istore_n (lv' := [(3, .int (-1000004)), (2, .int (-1000004)), (0, .ref (q 0)), (1, .int x)]) hx hb dX6_bestRule_17 rfl hl (by decide) rfl (fun ls hl => ?_)
    refine lv_iconst (v := 0) hx hb dX6_bestRule_18 (by decide) ?_
    refine lv_istore (lv' := [(4, .int 0), (3, .int (-1000004)), (2, .int (-1000004)), (0, .ref (q 0)), (1, .int x)]) hx hb dX6_bestRule_19 hl (by decide) rfl (fun ls hl => ?_)
    obtain ⟨I_4, n_10, h_11, hI_12⟩ := h
    have lp_13 : ∀ (n_3 : Nat) (x4_5 : Int32) (x3_6 : Int32) (x2_7 : Int32) (D_8 : St), I_4 n_3 x4_5 x3_6 x2_7 D_8 → ∀ (H : Heap) (locs : List Loc) (ls : Array Slot), va_P G vwCl (wM cI q D_8) H → va_D A (wM cI q D_8) → va_S A s.heap H locs → lv_has ls 7 [(4, .int x4_5), (3, .int x3_6), (2, .int x2_7), (0, .ref (q 0)), (1, .int x)] → W p l e (headSpec wsX6_bestRule ({ frames := 6, cells := 0, slots := 0, locals := 133 })).room s m ([.ref (q 0), .int x] : List Value).toArray below meth c H locs 0 0 (MQ below (va_Qi Q (BW G (fun u : St => (wM cI q u)) A) A) ([.ref (q 0), .int x] : List Value).toArray s 0 0 A) (F0 m 21 ls []) := by
      intro n_3
      induction n_3 using Nat.strongRecOn with
      | ind n_3 ih_9 =>
        intro x4_5 x3_6 x2_7 D_8 hIn H locs ls hP hD hS hl
        have h := hI_12 n_3 x4_5 x3_6 x2_7 D_8 hIn
        refine lv_iload hx hb dX6_bestRule_21 (lv_at hl 0 rfl) ?_
        refine lv_iconst (v := 3) hx hb dX6_bestRule_23 (by decide) ?_
        refine lv_icmp_ge (tgt := 87) hx hb dX6_bestRule_24 (by decide) (fun c_14 => ?_) (fun c_14 => ?_)
        · have h := h.1 c_14
          refine lv_iload_n hx hb dX6_bestRule_87 rfl (lv_at hl 4 rfl) ?_
          refine lv_if_ne (tgt := 95) hx hb dX6_bestRule_88 (by decide) (fun c_15 => ?_) (fun c_15 => ?_)
          · have h := h.2 c_15
            refine lv_iload_n hx hb dX6_bestRule_95 rfl (lv_at hl 1 rfl) ?_
            exact W.iret (v := x3_6) hx hb hr (fun t ht hW => ⟨⟨x3_6, D_8, rfl, h, by rw [ht]; exact hP, hD⟩, hS.F ht⟩) hS.2.2 dX6_bestRule_96
          · have h := h.1 c_15
            refine lv_iload_n hx hb dX6_bestRule_91 rfl (lv_at hl 2 rfl) ?_
            refine lv_goto (tgt := 96) hx hb dX6_bestRule_92 (by decide) ?_
            exact W.iret (v := x2_7) hx hb hr (fun t ht hW => ⟨⟨x2_7, D_8, rfl, h, by rw [ht]; exact hP, hD⟩, hS.F ht⟩) hS.2.2 dX6_bestRule_96
        · have h := h.2 c_14
          refine lv_aload_n hx hb dX6_bestRule_27 rfl (lv_at hl 3 rfl) ?_
          refine lv_iload hx hb dX6_bestRule_28 (lv_at hl 0 rfl) ?_
          refine kc_i (As := [.int x4_5]) (rest := []) (wg := (fun u => (wM cI q u))) ⟨hx, hb, hml, hown, hts⟩ (c_X6_restIn l G cI cC cD q _ D_8 x4_5 _ h) (cwV 1 hts gX6_bestRule_X6_restIn rfl rfl rfl (by decide +kernel) ⟨Nat.le_of_ble_eq_true rfl, Nat.le_of_ble_eq_true rfl⟩) hK hN hP hD hS hA (em_MM cI q D_8) (fun u => rp_MM cI q D_8 u) rfl rfl rfl rfl hl.1 rfl (Nat.le_of_ble_eq_true rfl) dX6_bestRule_30 ⟨Nat.zero_le _, Nat.zero_le _⟩ (fun r_16 u_17 H locs h hP hD hS => ?_)
          refine lv_istore (lv' := [(5, .int r_16), (4, .int x4_5), (3, .int x3_6), (2, .int x2_7), (0, .ref (q 0)), (1, .int x)]) hx hb dX6_bestRule_33 hl (by decide) rfl (fun ls hl => ?_)
          refine lv_iload hx hb dX6_bestRule_35 (lv_at hl 0 rfl) ?_
          refine lv_if_lt (tgt := 54) hx hb dX6_bestRule_37 (by decide) (fun c_18 => ?_) (fun c_18 => ?_)
          · have h := h.1 c_18
            refine lv_iconst (v := 0) hx hb dX6_bestRule_54 (by decide) ?_
            refine lv_istore (lv' := [(6, .int 0), (5, .int r_16), (4, .int x4_5), (3, .int x3_6), (2, .int x2_7), (0, .ref (q 0)), (1, .int x)]) hx hb dX6_bestRule_55 hl (by decide) rfl (fun ls hl => ?_)
            refine lv_iload hx hb dX6_bestRule_57 (lv_at hl 0 rfl) ?_
            refine lv_if_eq (tgt := 67) hx hb dX6_bestRule_59 (by decide) (fun _ => ?_) (fun c => absurd c (by decide))
            refine lv_iload_n hx hb dX6_bestRule_67 rfl (lv_at hl 4 rfl) ?_
            refine lv_istore_n (lv' := [(2, .int x2_7), (6, .int 0), (5, .int r_16), (4, .int x4_5), (3, .int x3_6), (0, .ref (q 0)), (1, .int x)]) hx hb dX6_bestRule_68 rfl hl (by decide) rfl (fun ls hl => ?_)
            refine lv_iload hx hb dX6_bestRule_69 (lv_at hl 1 rfl) ?_
            refine lv_if_eq (tgt := 79) hx hb dX6_bestRule_71 (by decide) (fun _ => ?_) (fun c => absurd c (by decide))
            refine lv_iload_n hx hb dX6_bestRule_79 rfl (lv_at hl 4 rfl) ?_
            refine lv_istore_n (lv' := [(3, .int x3_6), (2, .int x2_7), (6, .int 0), (5, .int r_16), (4, .int x4_5), (0, .ref (q 0)), (1, .int x)]) hx hb dX6_bestRule_80 rfl hl (by decide) rfl (fun ls hl => ?_)
            refine lv_iinc (v := x4_5 + 1) (lv' := [(4, .int (x4_5 + 1)), (3, .int x3_6), (2, .int x2_7), (6, .int 0), (5, .int r_16), (0, .ref (q 0)), (1, .int x)]) hx hb dX6_bestRule_81 hl (k := 4) rfl rfl (by decide) rfl (fun ls hl => ?_)
            refine lv_goto (tgt := 21) hx hb dX6_bestRule_84 (by decide) ?_
            obtain ⟨n_19, lt_20, h_21⟩ := h
            exact ih_9 n_19 lt_20 _ _ _ _ h_21 _ _ _ hP hD hS (lv_sub hl [0, 1, 2, 5, 6] rfl)
          · have h := h.2 c_18
            refine lv_iload_n hx hb dX6_bestRule_40 rfl (lv_at hl 2 rfl) ?_
            refine lv_if_lt (tgt := 50) hx hb dX6_bestRule_41 (by decide) (fun c_22 => ?_) (fun c_22 => ?_)
            · have h := h.1 c_22
              refine lv_iconst (v := 1) hx hb dX6_bestRule_50 (by decide) ?_
              refine lv_goto (tgt := 55) hx hb dX6_bestRule_51 (by decide) ?_
              refine lv_istore (lv' := [(6, .int 1), (5, .int r_16), (4, .int x4_5), (3, .int x3_6), (2, .int x2_7), (0, .ref (q 0)), (1, .int x)]) hx hb dX6_bestRule_55 hl (by decide) rfl (fun ls hl => ?_)
              refine lv_iload hx hb dX6_bestRule_57 (lv_at hl 0 rfl) ?_
              refine lv_if_eq (tgt := 67) hx hb dX6_bestRule_59 (by decide) (fun c => absurd c (by decide)) (fun _ => ?_)
              refine lv_iload hx hb dX6_bestRule_62 (lv_at hl 2 rfl) ?_
              refine lv_goto (tgt := 68) hx hb dX6_bestRule_64 (by decide) ?_
              refine lv_istore_n (lv' := [(2, .int x4_5), (6, .int 1), (5, .int r_16), (4, .int x4_5), (3, .int x3_6), (0, .ref (q 0)), (1, .int x)]) hx hb dX6_bestRule_68 rfl hl (by decide) rfl (fun ls hl => ?_)
              refine lv_iload hx hb dX6_bestRule_69 (lv_at hl 1 rfl) ?_
              refine lv_if_eq (tgt := 79) hx hb dX6_bestRule_71 (by decide) (fun c => absurd c (by decide)) (fun _ => ?_)
              refine lv_iload hx hb dX6_bestRule_74 (lv_at hl 2 rfl) ?_
              refine lv_goto (tgt := 80) hx hb dX6_bestRule_76 (by decide) ?_
              refine lv_istore_n (lv' := [(3, .int r_16), (2, .int x4_5), (6, .int 1), (5, .int r_16), (4, .int x4_5), (0, .ref (q 0)), (1, .int x)]) hx hb dX6_bestRule_80 rfl hl (by decide) rfl (fun ls hl => ?_)
              refine lv_iinc (v := x4_5 + 1) (lv' := [(4, .int (x4_5 + 1)), (3, .int r_16), (2, .int x4_5), (6, .int 1), (5, .int r_16), (0, .ref (q 0)), (1, .int x)]) hx hb dX6_bestRule_81 hl (k := 4) rfl rfl (by decide) rfl (fun ls hl => ?_)
              refine lv_goto (tgt := 21) hx hb dX6_bestRule_84 (by decide) ?_
              obtain ⟨n_23, lt_24, h_25⟩ := h
              exact ih_9 n_23 lt_24 _ _ _ _ h_25 _ _ _ hP hD hS (lv_sub hl [0, 1, 2, 5, 6] rfl)
            · have h := h.2 c_22
              refine lv_iload hx hb dX6_bestRule_44 (lv_at hl 0 rfl) ?_
              refine lv_iload_n hx hb dX6_bestRule_46 rfl (lv_at hl 2 rfl) ?_
              refine lv_icmp_ge (tgt := 54) hx hb dX6_bestRule_47 (by decide) (fun c_26 => ?_) (fun c_26 => ?_)
              · have h := h.1 c_26
                refine lv_iconst (v := 0) hx hb dX6_bestRule_54 (by decide) ?_
                refine lv_istore (lv' := [(6, .int 0), (5, .int r_16), (4, .int x4_5), (3, .int x3_6), (2, .int x2_7), (0, .ref (q 0)), (1, .int x)]) hx hb dX6_bestRule_55 hl (by decide) rfl (fun ls hl => ?_)
                refine lv_iload hx hb dX6_bestRule_57 (lv_at hl 0 rfl) ?_
                refine lv_if_eq (tgt := 67) hx hb dX6_bestRule_59 (by decide) (fun _ => ?_) (fun c => absurd c (by decide))
                refine lv_iload_n hx hb dX6_bestRule_67 rfl (lv_at hl 4 rfl) ?_
                refine lv_istore_n (lv' := [(2, .int x2_7), (6, .int 0), (5, .int r_16), (4, .int x4_5), (3, .int x3_6), (0, .ref (q 0)), (1, .int x)]) hx hb dX6_bestRule_68 rfl hl (by decide) rfl (fun ls hl => ?_)
                refine lv_iload hx hb dX6_bestRule_69 (lv_at hl 1 rfl) ?_
                refine lv_if_eq (tgt := 79) hx hb dX6_bestRule_71 (by decide) (fun _ => ?_) (fun c => absurd c (by decide))
                refine lv_iload_n hx hb dX6_bestRule_79 rfl (lv_at hl 4 rfl) ?_
                refine lv_istore_n (lv' := [(3, .int x3_6), (2, .int x2_7), (6, .int 0), (5, .int r_16), (4, .int x4_5), (0, .ref (q 0)), (1, .int x)]) hx hb dX6_bestRule_80 rfl hl (by decide) rfl (fun ls hl => ?_)
                refine lv_iinc (v := x4_5 + 1) (lv' := [(4, .int (x4_5 + 1)), (3, .int x3_6), (2, .int x2_7), (6, .int 0), (5, .int r_16), (0, .ref (q 0)), (1, .int x)]) hx hb dX6_bestRule_81 hl (k := 4) rfl rfl (by decide) rfl (fun ls hl => ?_)
                refine lv_goto (tgt := 21) hx hb dX6_bestRule_84 (by decide) ?_
                obtain ⟨n_27, lt_28, h_29⟩ := h
                exact ih_9 n_27 lt_28 _ _ _ _ h_29 _ _ _ hP hD hS (lv_sub hl [0, 1, 2, 5, 6] rfl)
              · have h := h.2 c_26
                refine lv_iconst (v := 1) hx hb dX6_bestRule_50 (by decide) ?_
                refine lv_goto (tgt := 55) hx hb dX6_bestRule_51 (by decide) ?_
                refine lv_istore (lv' := [(6, .int 1), (5, .int r_16), (4, .int x4_5), (3, .int x3_6), (2, .int x2_7), (0, .ref (q 0)), (1, .int x)]) hx hb dX6_bestRule_55 hl (by decide) rfl (fun ls hl => ?_)
                refine lv_iload hx hb dX6_bestRule_57 (lv_at hl 0 rfl) ?_
                refine lv_if_eq (tgt := 67) hx hb dX6_bestRule_59 (by decide) (fun c => absurd c (by decide)) (fun _ => ?_)
                refine lv_iload hx hb dX6_bestRule_62 (lv_at hl 2 rfl) ?_
                refine lv_goto (tgt := 68) hx hb dX6_bestRule_64 (by decide) ?_
                refine lv_istore_n (lv' := [(2, .int x4_5), (6, .int 1), (5, .int r_16), (4, .int x4_5), (3, .int x3_6), (0, .ref (q 0)), (1, .int x)]) hx hb dX6_bestRule_68 rfl hl (by decide) rfl (fun ls hl => ?_)
                refine lv_iload hx hb dX6_bestRule_69 (lv_at hl 1 rfl) ?_
                refine lv_if_eq (tgt := 79) hx hb dX6_bestRule_71 (by decide) (fun c => absurd c (by decide)) (fun _ => ?_)
                refine lv_iload hx hb dX6_bestRule_74 (lv_at hl 2 rfl) ?_
                refine lv_goto (tgt := 80) hx hb dX6_bestRule_76 (by decide) ?_
                refine lv_istore_n (lv' := [(3, .int r_16), (2, .int x4_5), (6, .int 1), (5, .int r_16), (4, .int x4_5), (0, .ref (q 0)), (1, .int x)]) hx hb dX6_bestRule_80 rfl hl (by decide) rfl (fun ls hl => ?_)
                refine lv_iinc (v := x4_5 + 1) (lv' := [(4, .int (x4_5 + 1)), (3, .int r_16), (2, .int x4_5), (6, .int 1), (5, .int r_16), (0, .ref (q 0)), (1, .int x)]) hx hb dX6_bestRule_81 hl (k := 4) rfl rfl (by decide) rfl (fun ls hl => ?_)
                refine lv_goto (tgt := 21) hx hb dX6_bestRule_84 (by decide) ?_
                obtain ⟨n_30, lt_31, h_32⟩ := h
                exact ih_9 n_30 lt_31 _ _ _ _ h_32 _ _ _ hP hD hS (lv_sub hl [0, 1, 2, 5, 6] rfl)
    exact lp_13 _ _ _ _ _ h_11 _ _ _ hP hD hS hl
  · have h := h.1 c_2
    refine lv_ldc hx hb hown (hts (.constant RX6 103 (-1000001)) (by decide +kernel)) dX6_bestRule_9 ?_
    exact W.iret (v := (-1000001)) hx hb hr (fun t ht hW => ⟨⟨(-1000001), M, rfl, h, by rw [ht]; exact hP, hD⟩, hS.F ht⟩) hS.2.2 dX6_bestRule_11
def q_X6_wouldFlood (x : Int32) (y : Int32) (M : St) (Q : Int32 → St → Prop) : Prop :=
  q_X6_copies (fun i => cond (Nat.beq i 0) (M 0) (M 3)) (fun u_1 => ∃ (I_3 : Nat → Int32 → St → Prop) (n_7 : Nat), I_3 n_7 0 (uA (uA (uA M 0 (u_1 0)) 3 (u_1 1)) 0 (upd (u_1 0) 5 x)) ∧ ∀ (n_2 : Nat) (x4_4 : Int32) (D_5 : St), I_3 n_2 x4_4 D_5 → ((y ≤ x4_4 → (((D_5 0) 16) ≤ ((u_1 0) 16) → q_X6_copies (fun i => cond (Nat.beq i 0) (D_5 3) (D_5 0)) (fun u_13 => Q 0 (uA (uA D_5 3 (u_13 0)) 0 (u_13 1)))) ∧ (¬ (((D_5 0) 16) ≤ ((u_1 0) 16)) → q_X6_copies (fun i => cond (Nat.beq i 0) (D_5 3) (D_5 0)) (fun u_14 => Q 1 (uA (uA D_5 3 (u_14 0)) 0 (u_14 1))))) ∧ (¬ (y ≤ x4_4) → (((D_5 0) 16) = ((u_1 0) 16) → q_X6_passes D_5 (fun u_19 => ∃ n_20, n_20 < n_2 ∧ I_3 n_20 (x4_4 + 1) u_19)) ∧ (¬ (((D_5 0) 16) = ((u_1 0) 16)) → (((D_5 0) 16) ≤ ((u_1 0) 16) → q_X6_copies (fun i => cond (Nat.beq i 0) (D_5 3) (D_5 0)) (fun u_17 => Q 0 (uA (uA D_5 3 (u_17 0)) 0 (u_17 1)))) ∧ (¬ (((D_5 0) 16) ≤ ((u_1 0) 16)) → q_X6_copies (fun i => cond (Nat.beq i 0) (D_5 3) (D_5 0)) (fun u_18 => Q 1 (uA (uA D_5 3 (u_18 0)) 0 (u_18 1))))))))
set_option maxHeartbeats 4000000 in
set_option maxRecDepth 100000 in
theorem c_X6_wouldFlood (l : Launch) (G : va_G) (cI cC cD : ClassId) (q : Nat → Nat) (sz : Nat) (M : St) (x : Int32) (y : Int32) (Q : Int32 → St → Prop) (h : q_X6_wouldFlood x y M Q) : Met l yX6_wouldFlood wsX6_wouldFlood ({ frames := 5, cells := 0, slots := 0, locals := 111 }) (va_Pc [.ref (q 0), .int x, .int y] (PW G (ty3 cI cC cD) (wM cI q M) sz)) (va_Qi Q (BW G (fun u : St => (wM cI q u)) (va_A (wM cI q M) sz)) (va_A (wM cI q M) sz)) 0 0 (va_A (wM cI q M) sz) := by
  refine Met.ofW (cc := cX6_wouldFlood) (maxL := 5) (ret := (some .boolean)) (by decide) rfl ?_
  intro p e s m args below meth c s₁ B hml hv
  obtain ⟨rfl, hsz, hP, hK, hD0, hN⟩ := hv
  have hx := B.exec
  have hb := B.bytes
  have hr := B.returns
  have hts := atoms_spec (ws := wsX6_wouldFlood) B.pre
  have hown : s.vm.findClass RX6 = some m.cls := findClass_of_methodNamed B.named
  have hlocks := B.notSynchronized
  subst hsz
  have hD := hD0.self (sz := s.heap.size)
  generalize hAe : va_A (wM cI q M) s.heap.size = A at hD ⊢
  have hA : ∀ q : Nat, s.heap.size ≤ q → A q := fun q h => by rw [← hAe]; exact Or.inr h
  have hS : va_S A s.heap s.heap [] := va_S.rf
  have hl := lv_entry ([.ref (q 0), .int x, .int y]) (n := 5) (Nat.le_of_ble_eq_true rfl)
  rw [lg_entry_eq]
  generalize (lg_sl ([.ref (q 0), .int x, .int y]) ++ List.replicate (5 - (lg_sl ([.ref (q 0), .int x, .int y])).length) Slot.unset).toArray = ls at hl ⊢
  have hl : lv_has ls 5 [(0, .ref (q 0)), (1, .int x), (2, .int y)] := hl
  have hinX6 : ∀ w ∈ wsX60, w ∈ wsX6_wouldFlood := by decide +kernel
  have hL7 := hts (.fieldLink RX6 7 "CraneGatesModel" "s" "[I") (by decide +kernel)
  have hL19 := hts (.fieldLink RX6 19 "CraneGatesModel" "tried" "[I") (by decide +kernel)
  unfold q_X6_wouldFlood at h
  refine lv_aload_n hx hb dX6_wouldFlood_0 rfl (lv_at hl 0 rfl) ?_
  refine va_get (D := G) (ci := 6) (v := .ref (q 1)) (C := RX6) (T := TX6) (N := 11) hx hb hts hinX6 hown hK hP 0 rfl rfl 0 (by decide) hL7 (fun _ h9 => h9) rfl dX6_wouldFlood_1 ?_
  refine lv_aload_n hx hb dX6_wouldFlood_4 rfl (lv_at hl 0 rfl) ?_
  refine va_get (D := G) (ci := 6) (v := .ref (q 4)) (C := RX6) (T := TX6) (N := 11) hx hb hts hinX6 hown hK hP 0 rfl rfl 3 (by decide) hL19 (fun _ h9 => h9) rfl dX6_wouldFlood_5 ?_
  refine ks_v (As := [.ref (q 1), .ref (q 4)]) (rest := []) (wg := (fun u => (wM cI q (uA (uA M 0 (u 0)) 3 (u 1))))) ⟨hx, hb, hml, hown, hts⟩ (c_X6_copies l G cI cC cD (q 1) (q 4) _ (fun i => cond (Nat.beq i 0) (M 0) (M 3))  _ h) (va_cwS 2 hts gX6_wouldFlood_X6_copies rfl rfl rfl (by decide +kernel) ⟨Nat.le_of_ble_eq_true rfl, Nat.le_of_ble_eq_true rfl⟩) hK hN hP hD hS hA (em_M2_03 cI q M) (fun u => rp_M2_03 cI q M u) rfl hl.1 rfl (Nat.le_of_ble_eq_true rfl) dX6_wouldFlood_8 ⟨Nat.zero_le _, Nat.zero_le _⟩ (fun u_1 H locs h hP hD hS => ?_)
  refine lv_aload_n hx hb dX6_wouldFlood_11 rfl (lv_at hl 0 rfl) ?_
  refine va_get (D := G) (ci := 6) (v := .ref (q 1)) (C := RX6) (T := TX6) (N := 11) hx hb hts hinX6 hown hK hP 0 rfl rfl 0 (by decide) hL7 (fun _ h9 => h9) rfl dX6_wouldFlood_12 ?_
  refine lv_bipush (v := 16) hx hb dX6_wouldFlood_15 (by decide) ?_
  refine k_ald (f := (u_1 0)) (j := 16) (v := ((u_1 0) 16)) hx hb hK hP 1 0 rfl rfl (show ¬ ((16 : Int32) < 0 ∨ 86 ≤ (16 : Int32).toNatClampNeg) by decide) rfl rfl dX6_wouldFlood_17 ?_
  refine lv_istore_n (lv' := [(3, .int ((u_1 0) 16)), (0, .ref (q 0)), (1, .int x), (2, .int y)]) hx hb dX6_wouldFlood_18 rfl hl (by decide) rfl (fun ls hl => ?_)
  refine lv_aload_n hx hb dX6_wouldFlood_19 rfl (lv_at hl 1 rfl) ?_
  refine va_get (D := G) (ci := 6) (v := .ref (q 1)) (C := RX6) (T := TX6) (N := 11) hx hb hts hinX6 hown hK hP 0 rfl rfl 0 (by decide) hL7 (fun _ h9 => h9) rfl dX6_wouldFlood_20 ?_
  refine lv_iconst (v := 5) hx hb dX6_wouldFlood_23 (by decide) ?_
  refine lv_iload_n hx hb dX6_wouldFlood_24 rfl (lv_at hl 2 rfl) ?_
  refine k_ast (f := (u_1 0)) (j := 5) (ws' := (wM cI q (uA (uA (uA M 0 (u_1 0)) 3 (u_1 1)) 0 (upd (u_1 0) 5 x)))) hx hb hK hP hD hS 1 0 rfl rfl (show ¬ ((5 : Int32) < 0 ∨ 86 ≤ (5 : Int32).toNatClampNeg) by decide) rfl dX6_wouldFlood_25 (st_M_0 cI q (uA (uA M 0 (u_1 0)) 3 (u_1 1)) (upd (u_1 0) 5 x)) (fun H locs hP hD hS => ?_)
  refine lv_iconst (v := 0) hx hb dX6_wouldFlood_26 (by decide) ?_
  refine lv_istore (lv' := [(4, .int 0), (3, .int ((u_1 0) 16)), (0, .ref (q 0)), (1, .int x), (2, .int y)]) hx hb dX6_wouldFlood_27 hl (by decide) rfl (fun ls hl => ?_)
  obtain ⟨I_3, n_7, h_8, hI_9⟩ := h
  have lp_10 : ∀ (n_2 : Nat) (x4_4 : Int32) (D_5 : St), I_3 n_2 x4_4 D_5 → ∀ (H : Heap) (locs : List Loc) (ls : Array Slot), va_P G vwCl (wM cI q D_5) H → va_D A (wM cI q D_5) → va_S A s.heap H locs → lv_has ls 5 [(4, .int x4_4), (3, .int ((u_1 0) 16)), (0, .ref (q 0)), (1, .int x), (2, .int y)] → W p l e (headSpec wsX6_wouldFlood ({ frames := 5, cells := 0, slots := 0, locals := 111 })).room s m ([.ref (q 0), .int x, .int y] : List Value).toArray below meth c H locs 0 0 (MQ below (va_Qi Q (BW G (fun u : St => (wM cI q u)) A) A) ([.ref (q 0), .int x, .int y] : List Value).toArray s 0 0 A) (F0 m 29 ls []) := by
    intro n_2
    induction n_2 using Nat.strongRecOn with
    | ind n_2 ih_6 =>
      intro x4_4 D_5 hIn H locs ls hP hD hS hl
      have h := hI_9 n_2 x4_4 D_5 hIn
      refine lv_iload hx hb dX6_wouldFlood_29 (lv_at hl 0 rfl) ?_
      refine lv_iload_n hx hb dX6_wouldFlood_31 rfl (lv_at hl 4 rfl) ?_
      refine lv_icmp_ge (tgt := 56) hx hb dX6_wouldFlood_32 (by decide) (fun c_11 => ?_) (fun c_11 => ?_)
      · have h := h.1 c_11
        refine lv_aload_n hx hb dX6_wouldFlood_56 rfl (lv_at hl 2 rfl) ?_
        refine va_get (D := G) (ci := 6) (v := .ref (q 1)) (C := RX6) (T := TX6) (N := 11) hx hb hts hinX6 hown hK hP 0 rfl rfl 0 (by decide) hL7 (fun _ h9 => h9) rfl dX6_wouldFlood_57 ?_
        refine lv_bipush (v := 16) hx hb dX6_wouldFlood_60 (by decide) ?_
        refine k_ald (f := (D_5 0)) (j := 16) (v := ((D_5 0) 16)) hx hb hK hP 1 0 rfl rfl (show ¬ ((16 : Int32) < 0 ∨ 86 ≤ (16 : Int32).toNatClampNeg) by decide) rfl rfl dX6_wouldFlood_62 ?_
        refine lv_iload_n hx hb dX6_wouldFlood_63 rfl (lv_at hl 1 rfl) ?_
        refine lv_icmp_le (tgt := 71) hx hb dX6_wouldFlood_64 (by decide) (fun c_12 => ?_) (fun c_12 => ?_)
        · have h := h.1 c_12
          refine lv_iconst (v := 0) hx hb dX6_wouldFlood_71 (by decide) ?_
          refine lv_istore (lv' := [(4, .int 0), (3, .int ((u_1 0) 16)), (0, .ref (q 0)), (1, .int x), (2, .int y)]) hx hb dX6_wouldFlood_72 hl (by decide) rfl (fun ls hl => ?_)
          refine lv_aload_n hx hb dX6_wouldFlood_74 rfl (lv_at hl 2 rfl) ?_
          refine va_get (D := G) (ci := 6) (v := .ref (q 4)) (C := RX6) (T := TX6) (N := 11) hx hb hts hinX6 hown hK hP 0 rfl rfl 3 (by decide) hL19 (fun _ h9 => h9) rfl dX6_wouldFlood_75 ?_
          refine lv_aload_n hx hb dX6_wouldFlood_78 rfl (lv_at hl 2 rfl) ?_
          refine va_get (D := G) (ci := 6) (v := .ref (q 1)) (C := RX6) (T := TX6) (N := 11) hx hb hts hinX6 hown hK hP 0 rfl rfl 0 (by decide) hL7 (fun _ h9 => h9) rfl dX6_wouldFlood_79 ?_
          refine ks_v (As := [.ref (q 4), .ref (q 1)]) (rest := []) (wg := (fun u => (wM cI q (uA (uA D_5 3 (u 0)) 0 (u 1))))) ⟨hx, hb, hml, hown, hts⟩ (c_X6_copies l G cI cC cD (q 4) (q 1) _ (fun i => cond (Nat.beq i 0) (D_5 3) (D_5 0))  _ h) (va_cwS 2 hts gX6_wouldFlood_X6_copies rfl rfl rfl (by decide +kernel) ⟨Nat.le_of_ble_eq_true rfl, Nat.le_of_ble_eq_true rfl⟩) hK hN hP hD hS hA (em_M2_30 cI q D_5) (fun u => rp_M2_30 cI q D_5 u) rfl hl.1 rfl (Nat.le_of_ble_eq_true rfl) dX6_wouldFlood_82 ⟨Nat.zero_le _, Nat.zero_le _⟩ (fun u_13 H locs h hP hD hS => ?_)
          refine lv_iload hx hb dX6_wouldFlood_85 (lv_at hl 0 rfl) ?_
          exact W.zret (v := 0) hx hb hr rfl (fun t ht hW => ⟨⟨0, (uA (uA D_5 3 (u_13 0)) 0 (u_13 1)), rfl, h, by rw [ht]; exact hP, hD⟩, hS.F ht⟩) hS.2.2 dX6_wouldFlood_87
        · have h := h.2 c_12
          refine lv_iconst (v := 1) hx hb dX6_wouldFlood_67 (by decide) ?_
          refine lv_goto (tgt := 72) hx hb dX6_wouldFlood_68 (by decide) ?_
          refine lv_istore (lv' := [(4, .int 1), (3, .int ((u_1 0) 16)), (0, .ref (q 0)), (1, .int x), (2, .int y)]) hx hb dX6_wouldFlood_72 hl (by decide) rfl (fun ls hl => ?_)
          refine lv_aload_n hx hb dX6_wouldFlood_74 rfl (lv_at hl 2 rfl) ?_
          refine va_get (D := G) (ci := 6) (v := .ref (q 4)) (C := RX6) (T := TX6) (N := 11) hx hb hts hinX6 hown hK hP 0 rfl rfl 3 (by decide) hL19 (fun _ h9 => h9) rfl dX6_wouldFlood_75 ?_
          refine lv_aload_n hx hb dX6_wouldFlood_78 rfl (lv_at hl 2 rfl) ?_
          refine va_get (D := G) (ci := 6) (v := .ref (q 1)) (C := RX6) (T := TX6) (N := 11) hx hb hts hinX6 hown hK hP 0 rfl rfl 0 (by decide) hL7 (fun _ h9 => h9) rfl dX6_wouldFlood_79 ?_
          refine ks_v (As := [.ref (q 4), .ref (q 1)]) (rest := []) (wg := (fun u => (wM cI q (uA (uA D_5 3 (u 0)) 0 (u 1))))) ⟨hx, hb, hml, hown, hts⟩ (c_X6_copies l G cI cC cD (q 4) (q 1) _ (fun i => cond (Nat.beq i 0) (D_5 3) (D_5 0))  _ h) (va_cwS 2 hts gX6_wouldFlood_X6_copies rfl rfl rfl (by decide +kernel) ⟨Nat.le_of_ble_eq_true rfl, Nat.le_of_ble_eq_true rfl⟩) hK hN hP hD hS hA (em_M2_30 cI q D_5) (fun u => rp_M2_30 cI q D_5 u) rfl hl.1 rfl (Nat.le_of_ble_eq_true rfl) dX6_wouldFlood_82 ⟨Nat.zero_le _, Nat.zero_le _⟩ (fun u_14 H locs h hP hD hS => ?_)
          refine lv_iload hx hb dX6_wouldFlood_85 (lv_at hl 0 rfl) ?_
          exact W.zret (v := 1) hx hb hr rfl (fun t ht hW => ⟨⟨1, (uA (uA D_5 3 (u_14 0)) 0 (u_14 1)), rfl, h, by rw [ht]; exact hP, hD⟩, hS.F ht⟩) hS.2.2 dX6_wouldFlood_87
      · have h := h.2 c_11
        refine lv_aload_n hx hb dX6_wouldFlood_35 rfl (lv_at hl 2 rfl) ?_
        refine va_get (D := G) (ci := 6) (v := .ref (q 1)) (C := RX6) (T := TX6) (N := 11) hx hb hts hinX6 hown hK hP 0 rfl rfl 0 (by decide) hL7 (fun _ h9 => h9) rfl dX6_wouldFlood_36 ?_
        refine lv_bipush (v := 16) hx hb dX6_wouldFlood_39 (by decide) ?_
        refine k_ald (f := (D_5 0)) (j := 16) (v := ((D_5 0) 16)) hx hb hK hP 1 0 rfl rfl (show ¬ ((16 : Int32) < 0 ∨ 86 ≤ (16 : Int32).toNatClampNeg) by decide) rfl rfl dX6_wouldFlood_41 ?_
        refine lv_iload_n hx hb dX6_wouldFlood_42 rfl (lv_at hl 1 rfl) ?_
        refine lv_icmp_ne (tgt := 56) hx hb dX6_wouldFlood_43 (by decide) (fun c_15 => ?_) (fun c_15 => ?_)
        · have h := h.2 c_15
          refine lv_aload_n hx hb dX6_wouldFlood_56 rfl (lv_at hl 2 rfl) ?_
          refine va_get (D := G) (ci := 6) (v := .ref (q 1)) (C := RX6) (T := TX6) (N := 11) hx hb hts hinX6 hown hK hP 0 rfl rfl 0 (by decide) hL7 (fun _ h9 => h9) rfl dX6_wouldFlood_57 ?_
          refine lv_bipush (v := 16) hx hb dX6_wouldFlood_60 (by decide) ?_
          refine k_ald (f := (D_5 0)) (j := 16) (v := ((D_5 0) 16)) hx hb hK hP 1 0 rfl rfl (show ¬ ((16 : Int32) < 0 ∨ 86 ≤ (16 : Int32).toNatClampNeg) by decide) rfl rfl dX6_wouldFlood_62 ?_
          refine lv_iload_n hx hb dX6_wouldFlood_63 rfl (lv_at hl 1 rfl) ?_
          refine lv_icmp_le (tgt := 71) hx hb dX6_wouldFlood_64 (by decide) (fun c_16 => ?_) (fun c_16 => ?_)
          · have h := h.1 c_16
            refine lv_iconst (v := 0) hx hb dX6_wouldFlood_71 (by decide) ?_
            refine lv_istore (lv' := [(4, .int 0), (3, .int ((u_1 0) 16)), (0, .ref (q 0)), (1, .int x), (2, .int y)]) hx hb dX6_wouldFlood_72 hl (by decide) rfl (fun ls hl => ?_)
            refine lv_aload_n hx hb dX6_wouldFlood_74 rfl (lv_at hl 2 rfl) ?_
            refine va_get (D := G) (ci := 6) (v := .ref (q 4)) (C := RX6) (T := TX6) (N := 11) hx hb hts hinX6 hown hK hP 0 rfl rfl 3 (by decide) hL19 (fun _ h9 => h9) rfl dX6_wouldFlood_75 ?_
            refine lv_aload_n hx hb dX6_wouldFlood_78 rfl (lv_at hl 2 rfl) ?_
            refine va_get (D := G) (ci := 6) (v := .ref (q 1)) (C := RX6) (T := TX6) (N := 11) hx hb hts hinX6 hown hK hP 0 rfl rfl 0 (by decide) hL7 (fun _ h9 => h9) rfl dX6_wouldFlood_79 ?_
            refine ks_v (As := [.ref (q 4), .ref (q 1)]) (rest := []) (wg := (fun u => (wM cI q (uA (uA D_5 3 (u 0)) 0 (u 1))))) ⟨hx, hb, hml, hown, hts⟩ (c_X6_copies l G cI cC cD (q 4) (q 1) _ (fun i => cond (Nat.beq i 0) (D_5 3) (D_5 0))  _ h) (va_cwS 2 hts gX6_wouldFlood_X6_copies rfl rfl rfl (by decide +kernel) ⟨Nat.le_of_ble_eq_true rfl, Nat.le_of_ble_eq_true rfl⟩) hK hN hP hD hS hA (em_M2_30 cI q D_5) (fun u => rp_M2_30 cI q D_5 u) rfl hl.1 rfl (Nat.le_of_ble_eq_true rfl) dX6_wouldFlood_82 ⟨Nat.zero_le _, Nat.zero_le _⟩ (fun u_17 H locs h hP hD hS => ?_)
            refine lv_iload hx hb dX6_wouldFlood_85 (lv_at hl 0 rfl) ?_
            exact W.zret (v := 0) hx hb hr rfl (fun t ht hW => ⟨⟨0, (uA (uA D_5 3 (u_17 0)) 0 (u_17 1)), rfl, h, by rw [ht]; exact hP, hD⟩, hS.F ht⟩) hS.2.2 dX6_wouldFlood_87
          · have h := h.2 c_16
            refine lv_iconst (v := 1) hx hb dX6_wouldFlood_67 (by decide) ?_
            refine lv_goto (tgt := 72) hx hb dX6_wouldFlood_68 (by decide) ?_
            refine lv_istore (lv' := [(4, .int 1), (3, .int ((u_1 0) 16)), (0, .ref (q 0)), (1, .int x), (2, .int y)]) hx hb dX6_wouldFlood_72 hl (by decide) rfl (fun ls hl => ?_)
            refine lv_aload_n hx hb dX6_wouldFlood_74 rfl (lv_at hl 2 rfl) ?_
            refine va_get (D := G) (ci := 6) (v := .ref (q 4)) (C := RX6) (T := TX6) (N := 11) hx hb hts hinX6 hown hK hP 0 rfl rfl 3 (by decide) hL19 (fun _ h9 => h9) rfl dX6_wouldFlood_75 ?_
            refine lv_aload_n hx hb dX6_wouldFlood_78 rfl (lv_at hl 2 rfl) ?_
            refine va_get (D := G) (ci := 6) (v := .ref (q 1)) (C := RX6) (T := TX6) (N := 11) hx hb hts hinX6 hown hK hP 0 rfl rfl 0 (by decide) hL7 (fun _ h9 => h9) rfl dX6_wouldFlood_79 ?_
            refine ks_v (As := [.ref (q 4), .ref (q 1)]) (rest := []) (wg := (fun u => (wM cI q (uA (uA D_5 3 (u 0)) 0 (u 1))))) ⟨hx, hb, hml, hown, hts⟩ (c_X6_copies l G cI cC cD (q 4) (q 1) _ (fun i => cond (Nat.beq i 0) (D_5 3) (D_5 0))  _ h) (va_cwS 2 hts gX6_wouldFlood_X6_copies rfl rfl rfl (by decide +kernel) ⟨Nat.le_of_ble_eq_true rfl, Nat.le_of_ble_eq_true rfl⟩) hK hN hP hD hS hA (em_M2_30 cI q D_5) (fun u => rp_M2_30 cI q D_5 u) rfl hl.1 rfl (Nat.le_of_ble_eq_true rfl) dX6_wouldFlood_82 ⟨Nat.zero_le _, Nat.zero_le _⟩ (fun u_18 H locs h hP hD hS => ?_)
            refine lv_iload hx hb dX6_wouldFlood_85 (lv_at hl 0 rfl) ?_
            exact W.zret (v := 1) hx hb hr rfl (fun t ht hW => ⟨⟨1, (uA (uA D_5 3 (u_18 0)) 0 (u_18 1)), rfl, h, by rw [ht]; exact hP, hD⟩, hS.F ht⟩) hS.2.2 dX6_wouldFlood_87
        · have h := h.1 c_15
          refine lv_aload_n hx hb dX6_wouldFlood_46 rfl (lv_at hl 2 rfl) ?_
          refine kc_v (As := []) (rest := []) (wg := (fun u => (wM cI q u))) ⟨hx, hb, hml, hown, hts⟩ (c_X6_passes l G cI cC cD q _ D_5  _ h) (cwV 0 hts gX6_wouldFlood_X6_passes rfl rfl rfl (by decide +kernel) ⟨Nat.le_of_ble_eq_true rfl, Nat.le_of_ble_eq_true rfl⟩) hK hN hP hD hS hA (em_MM cI q D_5) (fun u => rp_MM cI q D_5 u) rfl rfl rfl rfl hl.1 rfl (Nat.le_of_ble_eq_true rfl) dX6_wouldFlood_47 ⟨Nat.zero_le _, Nat.zero_le _⟩ (fun u_19 H locs h hP hD hS => ?_)
          refine lv_iinc (v := x4_4 + 1) (lv' := [(4, .int (x4_4 + 1)), (3, .int ((u_1 0) 16)), (0, .ref (q 0)), (1, .int x), (2, .int y)]) hx hb dX6_wouldFlood_50 hl (k := 0) rfl rfl (by decide) rfl (fun ls hl => ?_)
          refine lv_goto (tgt := 29) hx hb dX6_wouldFlood_53 (by decide) ?_
          obtain ⟨n_20, lt_21, h_22⟩ := h
          exact ih_6 n_20 lt_21 _ _ h_22 _ _ _ hP hD hS (lv_sub hl [0, 1, 2, 3, 4] rfl)
  exact lp_10 _ _ _ h_8 _ _ _ hP hD hS hl
