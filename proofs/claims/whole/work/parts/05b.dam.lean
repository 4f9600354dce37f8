def q_X0_takeTask (D : St) (Q : St → Prop) : Prop :=
  ((D 21 0) = 0 → ∃ (I_3 : Nat → Int32 → St → Prop) (n_7 : Nat), I_3 n_7 0 D ∧ ∀ (n_2 : Nat) (x1_4 : Int32) (D_5 : St), I_3 n_2 x1_4 D_5 → ((12 ≤ x1_4 → Q D_5) ∧ (¬ (12 ≤ x1_4) → ((D_5 21 0) = 0 → q_X0_hasTask D_5 (fun r_13 => (r_13 = 0 → q_X0_somethingWaits D_5 (fun r_15 => (r_15 = 0 → Q D_5) ∧ (¬ (r_15 = 0) → q_X4_size (fun i => D_5 (10 + i)) (fun r_17 => (r_17 ≤ 0 → q_X0_chosenOrder D_5 (fun r_19 => q_X0_takeFrom_O r_19 D_5 (fun u_20 => q_X0_endTaskIfDone u_20 (fun u_21 => ∃ n_22, n_22 < n_2 ∧ I_3 n_22 (x1_4 + 1) u_21)))) ∧ (¬ (r_17 ≤ 0) → q_X0_takeFrom_K 0 D_5 (fun u_25 => q_X0_endTaskIfDone u_25 (fun u_26 => ∃ n_27, n_27 < n_2 ∧ I_3 n_27 (x1_4 + 1) u_26))))))) ∧ (¬ (r_13 = 0) → Q D_5))) ∧ (¬ ((D_5 21 0) = 0) → Q D_5)))) ∧ (¬ ((D 21 0) = 0) → q_X0_hasTask D (fun r_30 => (r_30 = 0 → q_X1_nearestNotOpen (D 23 0) D (fun r_60 => ∃ (I_62 : Nat → Int32 → St → Prop) (n_66 : Nat), I_62 n_66 0 (uA (uA D 24 (fun _ => r_60)) 25 (fun _ => 10)) ∧ ∀ (n_61 : Nat) (x1_63 : Int32) (D_64 : St), I_62 n_61 x1_63 D_64 → ((12 ≤ x1_63 → Q D_64) ∧ (¬ (12 ≤ x1_63) → ((D_64 21 0) = 0 → q_X0_hasTask D_64 (fun r_72 => (r_72 = 0 → q_X0_somethingWaits D_64 (fun r_74 => (r_74 = 0 → Q D_64) ∧ (¬ (r_74 = 0) → q_X4_size (fun i => D_64 (10 + i)) (fun r_76 => (r_76 ≤ 0 → q_X0_chosenOrder D_64 (fun r_78 => q_X0_takeFrom_O r_78 D_64 (fun u_79 => q_X0_endTaskIfDone u_79 (fun u_80 => ∃ n_81, n_81 < n_61 ∧ I_62 n_81 (x1_63 + 1) u_80)))) ∧ (¬ (r_76 ≤ 0) → q_X0_takeFrom_K 0 D_64 (fun u_84 => q_X0_endTaskIfDone u_84 (fun u_85 => ∃ n_86, n_86 < n_61 ∧ I_62 n_86 (x1_63 + 1) u_85))))))) ∧ (¬ (r_72 = 0) → Q D_64))) ∧ (¬ ((D_64 21 0) = 0) → Q D_64))))) ∧ (¬ (r_30 = 0) → ∃ (I_33 : Nat → Int32 → St → Prop) (n_37 : Nat), I_33 n_37 0 D ∧ ∀ (n_32 : Nat) (x1_34 : Int32) (D_35 : St), I_33 n_32 x1_34 D_35 → ((12 ≤ x1_34 → Q D_35) ∧ (¬ (12 ≤ x1_34) → ((D_35 21 0) = 0 → q_X0_hasTask D_35 (fun r_43 => (r_43 = 0 → q_X0_somethingWaits D_35 (fun r_45 => (r_45 = 0 → Q D_35) ∧ (¬ (r_45 = 0) → q_X4_size (fun i => D_35 (10 + i)) (fun r_47 => (r_47 ≤ 0 → q_X0_chosenOrder D_35 (fun r_49 => q_X0_takeFrom_O r_49 D_35 (fun u_50 => q_X0_endTaskIfDone u_50 (fun u_51 => ∃ n_52, n_52 < n_32 ∧ I_33 n_52 (x1_34 + 1) u_51)))) ∧ (¬ (r_47 ≤ 0) → q_X0_takeFrom_K 0 D_35 (fun u_55 => q_X0_endTaskIfDone u_55 (fun u_56 => ∃ n_57, n_57 < n_32 ∧ I_33 n_57 (x1_34 + 1) u_56))))))) ∧ (¬ (r_43 = 0) → Q D_35))) ∧ (¬ ((D_35 21 0) = 0) → Q D_35))))))
set_option maxHeartbeats 4000000 in
set_option maxRecDepth 100000 in
theorem c_X0_takeTask (l : Launch) (G : va_G) (cI cC cD : ClassId) (q : Nat → Nat) (sz : Nat) (D : St)  (Q : St → Prop) (h : q_X0_takeTask  D Q) : Met l yX0_takeTask wsX0_takeTask ({ frames := 2, cells := 0, slots := 0, locals := 45 }) (va_Pc [.ref (q 0)] (PW G (ty3 cI cC cD) (wD cI q D) sz)) (va_Qv Q (BW G (fun u : St => (wD cI q u)) (va_A (wD cI q D) sz)) (va_A (wD cI q D) sz)) 0 0 (va_A (wD cI q D) sz) := by
  refine Met.ofW (cc := cX0_takeTask) (maxL := 2) (ret := none) (by decide) rfl ?_
  intro p e s m args below meth c s₁ B hml hv
  obtain ⟨rfl, hsz, hP, hK, hD0, hN⟩ := hv
  have hx := B.exec
  have hb := B.bytes
  have hr := B.returns
  have hts := atoms_spec (ws := wsX0_takeTask) B.pre
  have hown : s.vm.findClass RX0 = some m.cls := findClass_of_methodNamed B.named
  have hlocks := B.notSynchronized
  subst hsz
  have hD := hD0.self (sz := s.heap.size)
  generalize hAe : va_A (wD cI q D) s.heap.size = A at hD ⊢
  have hA : ∀ q : Nat, s.heap.size ≤ q → A q := fun q h => by rw [← hAe]; exact Or.inr h
  have hS : va_S A s.heap s.heap [] := va_S.rf
  have hl := lv_entry ([.ref (q 0)]) (n := 2) (Nat.le_of_ble_eq_true rfl)
  rw [lg_entry_eq]
  generalize (lg_sl ([.ref (q 0)]) ++ List.replicate (2 - (lg_sl ([.ref (q 0)])).length) Slot.unset).toArray = ls at hl ⊢
  have hl : lv_has ls 2 [(0, .ref (q 0))] := hl
  have hinX0 : ∀ w ∈ wsX00, w ∈ wsX0_takeTask := by decide +kernel
  have hL12 := hts (.fieldLink RX0 12 "CraneGates$Dam" "gates" "LCraneGates$Gates;") (by decide +kernel)
  have hL23 := hts (.fieldLink RX0 23 "CraneGates$Dam" "orders" "LCraneGates$Tasks;") (by decide +kernel)
  have hL27 := hts (.fieldLink RX0 27 "CraneGates$Dam" "marks" "LCraneGates$Tasks;") (by decide +kernel)
  have hL38 := hts (.fieldLink RX0 38 "CraneGates$Dam" "taskGate" "I") (by decide +kernel)
  have hL69 := hts (.fieldLink RX0 69 "CraneGates$Dam" "flooded" "Z") (by decide +kernel)
  have hL76 := hts (.fieldLink RX0 76 "CraneGates$Dam" "place" "I") (by decide +kernel)
  have hL79 := hts (.fieldLink RX0 79 "CraneGates$Dam" "taskOpening" "I") (by decide +kernel)
  unfold q_X0_takeTask at h
  refine lv_aload_n hx hb dX0_takeTask_0 rfl (lv_at hl 0 rfl) ?_
  refine va_get (D := G) (ci := 0) (v := .int (D 21 0)) (C := RX0) (T := TX0) (N := 18) hx hb hts hinX0 hown hK hP 0 rfl rfl 10 (by decide) hL69 (fun _ h9 => h9) rfl dX0_takeTask_1 ?_
  refine lv_if_eq (tgt := 35) hx hb dX0_takeTask_4 (by decide) (fun c_1 => ?_) (fun c_1 => ?_)
  · have h := h.1 c_1
    refine lv_iconst (v := 0) hx hb dX0_takeTask_35 (by decide) ?_
    refine lv_istore_n (lv' := [(1, .int 0), (0, .ref (q 0))]) hx hb dX0_takeTask_36 rfl hl (by decide) rfl (fun ls hl => ?_)
    obtain ⟨I_3, n_7, h_8, hI_9⟩ := h
    have lp_10 : ∀ (n_2 : Nat) (x1_4 : Int32) (D_5 : St), I_3 n_2 x1_4 D_5 → ∀ (H : Heap) (locs : List Loc) (ls : Array Slot), va_P G vwCl (wD cI q D_5) H → va_D A (wD cI q D_5) → va_S A s.heap H locs → lv_has ls 2 [(1, .int x1_4), (0, .ref (q 0))] → W p l e (headSpec wsX0_takeTask ({ frames := 2, cells := 0, slots := 0, locals := 45 })).room s m ([.ref (q 0)] : List Value).toArray below meth c H locs 0 0 (MQ below (va_Qv Q (BW G (fun u : St => (wD cI q u)) A) A) ([.ref (q 0)] : List Value).toArray s 0 0 A) (F0 m 37 ls []) := by
      intro n_2
      induction n_2 using Nat.strongRecOn with
      | ind n_2 ih_6 =>
        intro x1_4 D_5 hIn H locs ls hP hD hS hl
        have h := hI_9 n_2 x1_4 D_5 hIn
        refine lv_iload_n hx hb dX0_takeTask_37 rfl (lv_at hl 0 rfl) ?_
        refine lv_bipush (v := 12) hx hb dX0_takeTask_38 (by decide) ?_
        refine lv_icmp_ge (tgt := 108) hx hb dX0_takeTask_40 (by decide) (fun c_11 => ?_) (fun c_11 => ?_)
        · have h := h.1 c_11
          exact W.vret hx hb hr (fun t ht hW => ⟨⟨D_5, rfl, h, by rw [ht]; exact hP, hD⟩, hS.F ht⟩) hS.2.2 dX0_takeTask_108
        · have h := h.2 c_11
          refine lv_aload_n hx hb dX0_takeTask_43 rfl (lv_at hl 1 rfl) ?_
          refine va_get (D := G) (ci := 0) (v := .int (D_5 21 0)) (C := RX0) (T := TX0) (N := 18) hx hb hts hinX0 hown hK hP 0 rfl rfl 10 (by decide) hL69 (fun _ h9 => h9) rfl dX0_takeTask_44 ?_
          refine lv_if_ne (tgt := 108) hx hb dX0_takeTask_47 (by decide) (fun c_12 => ?_) (fun c_12 => ?_)
          · have h := h.2 c_12
            exact W.vret hx hb hr (fun t ht hW => ⟨⟨D_5, rfl, h, by rw [ht]; exact hP, hD⟩, hS.F ht⟩) hS.2.2 dX0_takeTask_108
          · have h := h.1 c_12
            refine lv_aload_n hx hb dX0_takeTask_50 rfl (lv_at hl 1 rfl) ?_
            refine kc_i (As := []) (rest := []) (wg := (fun _ => (wD cI q D_5))) ⟨hx, hb, hml, hown, hts⟩ (c_X0_hasTask l G cI cC cD q _ D_5  _ h) (cwV 0 hts gX0_takeTask_X0_hasTask rfl rfl rfl (by decide +kernel) ⟨Nat.le_of_ble_eq_true rfl, Nat.le_of_ble_eq_true rfl⟩) hK hN hP hD hS hA (em_DD cI q D_5) (fun _ => rp_self (em_DD cI q D_5)) rfl rfl rfl rfl hl.1 rfl (Nat.le_of_ble_eq_true rfl) dX0_takeTask_51 ⟨Nat.zero_le _, Nat.zero_le _⟩ (fun r_13 _ H locs h hP hD hS => ?_)
            refine lv_if_ne (tgt := 108) hx hb dX0_takeTask_54 (by decide) (fun c_14 => ?_) (fun c_14 => ?_)
            · have h := h.2 c_14
              exact W.vret hx hb hr (fun t ht hW => ⟨⟨D_5, rfl, h, by rw [ht]; exact hP, hD⟩, hS.F ht⟩) hS.2.2 dX0_takeTask_108
            · have h := h.1 c_14
              refine lv_aload_n hx hb dX0_takeTask_57 rfl (lv_at hl 1 rfl) ?_
              refine kc_i (As := []) (rest := []) (wg := (fun _ => (wD cI q D_5))) ⟨hx, hb, hml, hown, hts⟩ (c_X0_somethingWaits l G cI cC cD q _ D_5  _ h) (cwV 0 hts gX0_takeTask_X0_somethingWaits rfl rfl rfl (by decide +kernel) ⟨Nat.le_of_ble_eq_true rfl, Nat.le_of_ble_eq_true rfl⟩) hK hN hP hD hS hA (em_DD cI q D_5) (fun _ => rp_self (em_DD cI q D_5)) rfl rfl rfl rfl hl.1 rfl (Nat.le_of_ble_eq_true rfl) dX0_takeTask_58 ⟨Nat.zero_le _, Nat.zero_le _⟩ (fun r_15 _ H locs h hP hD hS => ?_)
              refine lv_if_eq (tgt := 108) hx hb dX0_takeTask_61 (by decide) (fun c_16 => ?_) (fun c_16 => ?_)
              · have h := h.1 c_16
                exact W.vret hx hb hr (fun t ht hW => ⟨⟨D_5, rfl, h, by rw [ht]; exact hP, hD⟩, hS.F ht⟩) hS.2.2 dX0_takeTask_108
              · have h := h.2 c_16
                refine lv_aload_n hx hb dX0_takeTask_64 rfl (lv_at hl 1 rfl) ?_
                refine va_get (D := G) (ci := 0) (v := .ref (q 10)) (C := RX0) (T := TX0) (N := 18) hx hb hts hinX0 hown hK hP 0 rfl rfl 2 (by decide) hL27 (fun _ h9 => h9) rfl dX0_takeTask_65 ?_
                refine kc_i (As := []) (rest := []) (wg := (fun _ => (wD cI q D_5))) ⟨hx, hb, hml, hown, hts⟩ (c_X4_size l G cI cC cD (q 10) (q 11) (q 12) _ (fun i => D_5 (10 + i))  _ h) (cwV 0 hts gX0_takeTask_X4_size rfl rfl rfl (by decide +kernel) ⟨Nat.le_of_ble_eq_true rfl, Nat.le_of_ble_eq_true rfl⟩) hK hN hP hD hS hA (em_DK cI q D_5) (fun _ => rp_self (em_DK cI q D_5)) rfl rfl rfl rfl hl.1 rfl (Nat.le_of_ble_eq_true rfl) dX0_takeTask_68 ⟨Nat.zero_le _, Nat.zero_le _⟩ (fun r_17 _ H locs h hP hD hS => ?_)
                refine lv_if_le (tgt := 86) hx hb dX0_takeTask_71 (by decide) (fun c_18 => ?_) (fun c_18 => ?_)
                · have h := h.1 c_18
                  refine lv_aload_n hx hb dX0_takeTask_86 rfl (lv_at hl 1 rfl) ?_
                  refine lv_aload_n hx hb dX0_takeTask_87 rfl (lv_at hl 1 rfl) ?_
                  refine va_get (D := G) (ci := 0) (v := .ref (q 7)) (C := RX0) (T := TX0) (N := 18) hx hb hts hinX0 hown hK hP 0 rfl rfl 1 (by decide) hL23 (fun _ h9 => h9) rfl dX0_takeTask_88 ?_
                  refine lv_aload_n hx hb dX0_takeTask_91 rfl (lv_at hl 1 rfl) ?_
                  refine kc_i (As := []) (rest := [.ref (q 7), .ref (q 0)]) (wg := (fun _ => (wD cI q D_5))) ⟨hx, hb, hml, hown, hts⟩ (c_X0_chosenOrder l G cI cC cD q _ D_5  _ h) (cwV 0 hts gX0_takeTask_X0_chosenOrder rfl rfl rfl (by decide +kernel) ⟨Nat.le_of_ble_eq_true rfl, Nat.le_of_ble_eq_true rfl⟩) hK hN hP hD hS hA (em_DD cI q D_5) (fun _ => rp_self (em_DD cI q D_5)) rfl rfl rfl rfl hl.1 rfl (Nat.le_of_ble_eq_true rfl) dX0_takeTask_92 ⟨Nat.zero_le _, Nat.zero_le _⟩ (fun r_19 _ H locs h hP hD hS => ?_)
                  refine kc_v (As := [.ref (q 7), .int r_19]) (rest := []) (wg := (fun u => (wD cI q u))) ⟨hx, hb, hml, hown, hts⟩ (c_X0_takeFrom_O l G cI cC cD q _ D_5 r_19 _ h) (cwV 2 hts gX0_takeTask_X0_takeFrom rfl rfl rfl (by decide +kernel) ⟨Nat.le_of_ble_eq_true rfl, Nat.le_of_ble_eq_true rfl⟩) hK hN hP hD hS hA (em_DD cI q D_5) (fun u => rp_DD cI q D_5 u) rfl rfl rfl rfl hl.1 rfl (Nat.le_of_ble_eq_true rfl) dX0_takeTask_95 ⟨Nat.zero_le _, Nat.zero_le _⟩ (fun u_20 H locs h hP hD hS => ?_)
                  refine lv_aload_n hx hb dX0_takeTask_98 rfl (lv_at hl 1 rfl) ?_
                  refine kc_v (As := []) (rest := []) (wg := (fun u => (wD cI q u))) ⟨hx, hb, hml, hown, hts⟩ (c_X0_endTaskIfDone l G cI cC cD q _ u_20  _ h) (cwV 0 hts gX0_takeTask_X0_endTaskIfDone rfl rfl rfl (by decide +kernel) ⟨Nat.le_of_ble_eq_true rfl, Nat.le_of_ble_eq_true rfl⟩) hK hN hP hD hS hA (em_DD cI q u_20) (fun u => rp_DD cI q u_20 u) rfl rfl rfl rfl hl.1 rfl (Nat.le_of_ble_eq_true rfl) dX0_takeTask_99 ⟨Nat.zero_le _, Nat.zero_le _⟩ (fun u_21 H locs h hP hD hS => ?_)
                  refine lv_iinc (v := x1_4 + 1) (lv' := [(1, .int (x1_4 + 1)), (0, .ref (q 0))]) hx hb dX0_takeTask_102 hl (k := 0) rfl rfl (by decide) rfl (fun ls hl => ?_)
                  refine lv_goto (tgt := 37) hx hb dX0_takeTask_105 (by decide) ?_
                  obtain ⟨n_22, lt_23, h_24⟩ := h
                  exact ih_6 n_22 lt_23 _ _ h_24 _ _ _ hP hD hS (lv_sub hl [0, 1] rfl)
                · have h := h.2 c_18
                  refine lv_aload_n hx hb dX0_takeTask_74 rfl (lv_at hl 1 rfl) ?_
                  refine lv_aload_n hx hb dX0_takeTask_75 rfl (lv_at hl 1 rfl) ?_
                  refine va_get (D := G) (ci := 0) (v := .ref (q 10)) (C := RX0) (T := TX0) (N := 18) hx hb hts hinX0 hown hK hP 0 rfl rfl 2 (by decide) hL27 (fun _ h9 => h9) rfl dX0_takeTask_76 ?_
                  refine lv_iconst (v := 0) hx hb dX0_takeTask_79 (by decide) ?_
                  refine kc_v (As := [.ref (q 10), .int 0]) (rest := []) (wg := (fun u => (wD cI q u))) ⟨hx, hb, hml, hown, hts⟩ (c_X0_takeFrom_K l G cI cC cD q _ D_5 0 _ h) (cwV 2 hts gX0_takeTask_X0_takeFrom rfl rfl rfl (by decide +kernel) ⟨Nat.le_of_ble_eq_true rfl, Nat.le_of_ble_eq_true rfl⟩) hK hN hP hD hS hA (em_DD cI q D_5) (fun u => rp_DD cI q D_5 u) rfl rfl rfl rfl hl.1 rfl (Nat.le_of_ble_eq_true rfl) dX0_takeTask_80 ⟨Nat.zero_le _, Nat.zero_le _⟩ (fun u_25 H locs h hP hD hS => ?_)
                  refine lv_goto (tgt := 98) hx hb dX0_takeTask_83 (by decide) ?_
                  refine lv_aload_n hx hb dX0_takeTask_98 rfl (lv_at hl 1 rfl) ?_
                  refine kc_v (As := []) (rest := []) (wg := (fun u => (wD cI q u))) ⟨hx, hb, hml, hown, hts⟩ (c_X0_endTaskIfDone l G cI cC cD q _ u_25  _ h) (cwV 0 hts gX0_takeTask_X0_endTaskIfDone rfl rfl rfl (by decide +kernel) ⟨Nat.le_of_ble_eq_true rfl, Nat.le_of_ble_eq_true rfl⟩) hK hN hP hD hS hA (em_DD cI q u_25) (fun u => rp_DD cI q u_25 u) rfl rfl rfl rfl hl.1 rfl (Nat.le_of_ble_eq_true rfl) dX0_takeTask_99 ⟨Nat.zero_le _, Nat.zero_le _⟩ (fun u_26 H locs h hP hD hS => ?_)
                  refine lv_iinc (v := x1_4 + 1) (lv' := [(1, .int (x1_4 + 1)), (0, .ref (q 0))]) hx hb dX0_takeTask_102 hl (k := 0) rfl rfl (by decide) rfl (fun ls hl => ?_)
                  refine lv_goto (tgt := 37) hx hb dX0_takeTask_105 (by decide) ?_
                  obtain ⟨n_27, lt_28, h_29⟩ := h
                  exact ih_6 n_27 lt_28 _ _ h_29 _ _ _ hP hD hS (lv_sub hl [0, 1] rfl)
    exact lp_10 _ _ _ h_8 _ _ _ hP hD hS hl
  · have h := h.2 c_1
    refine lv_aload_n hx hb dX0_takeTask_7 rfl (lv_at hl 0 rfl) ?_
    refine kc_i (As := []) (rest := []) (wg := (fun _ => (wD cI q D))) ⟨hx, hb, hml, hown, hts⟩ (c_X0_hasTask l G cI cC cD q _ D  _ h) (cwV 0 hts gX0_takeTask_X0_hasTask rfl rfl rfl (by decide +kernel) ⟨Nat.le_of_ble_eq_true rfl, Nat.le_of_ble_eq_true rfl⟩) hK hN hP hD hS hA (em_DD cI q D) (fun _ => rp_self (em_DD cI q D)) rfl rfl rfl rfl hl.1 rfl (Nat.le_of_ble_eq_true rfl) dX0_takeTask_8 ⟨Nat.zero_le _, Nat.zero_le _⟩ (fun r_30 _ H locs h hP hD hS => ?_)
    refine lv_if_ne (tgt := 35) hx hb dX0_takeTask_11 (by decide) (fun c_31 => ?_) (fun c_31 => ?_)
    · have h := h.2 c_31
      refine lv_iconst (v := 0) hx hb dX0_takeTask_35 (by decide) ?_
      refine lv_istore_n (lv' := [(1, .int 0), (0, .ref (q 0))]) hx hb dX0_takeTask_36 rfl hl (by decide) rfl (fun ls hl => ?_)
      obtain ⟨I_33, n_37, h_38, hI_39⟩ := h
      have lp_40 : ∀ (n_32 : Nat) (x1_34 : Int32) (D_35 : St), I_33 n_32 x1_34 D_35 → ∀ (H : Heap) (locs : List Loc) (ls : Array Slot), va_P G vwCl (wD cI q D_35) H → va_D A (wD cI q D_35) → va_S A s.heap H locs → lv_has ls 2 [(1, .int x1_34), (0, .ref (q 0))] → W p l e (headSpec wsX0_takeTask ({ frames := 2, cells := 0, slots := 0, locals := 45 })).room s m ([.ref (q 0)] : List Value).toArray below meth c H locs 0 0 (MQ below (va_Qv Q (BW G (fun u : St => (wD cI q u)) A) A) ([.ref (q 0)] : List Value).toArray s 0 0 A) (F0 m 37 ls []) := by
        intro n_32
        induction n_32 using Nat.strongRecOn with
        | ind n_32 ih_36 =>
          intro x1_34 D_35 hIn H locs ls hP hD hS hl
          have h := hI_39 n_32 x1_34 D_35 hIn
          refine lv_iload_n hx hb dX0_takeTask_37 rfl (lv_at hl 0 rfl) ?_
          refine lv_bipush (v := 12) hx hb dX0_takeTask_38 (by decide) ?_
          refine lv_icmp_ge (tgt := 108) hx hb dX0_takeTask_40 (by decide) (fun c_41 => ?_) (fun c_41 => ?_)
          · have h := h.1 c_41
            exact W.vret hx hb hr (fun t ht hW => ⟨⟨D_35, rfl, h, by rw [ht]; exact hP, hD⟩, hS.F ht⟩) hS.2.2 dX0_takeTask_108
          · have h := h.2 c_41
            refine lv_aload_n hx hb dX0_takeTask_43 rfl (lv_at hl 1 rfl) ?_
            refine va_get (D := G) (ci := 0) (v := .int (D_35 21 0)) (C := RX0) (T := TX0) (N := 18) hx hb hts hinX0 hown hK hP 0 rfl rfl 10 (by decide) hL69 (fun _ h9 => h9) rfl dX0_takeTask_44 ?_
            refine lv_if_ne (tgt := 108) hx hb dX0_takeTask_47 (by decide) (fun c_42 => ?_) (fun c_42 => ?_)
            · have h := h.2 c_42
              exact W.vret hx hb hr (fun t ht hW => ⟨⟨D_35, rfl, h, by rw [ht]; exact hP, hD⟩, hS.F ht⟩) hS.2.2 dX0_takeTask_108
            · have h := h.1 c_42
              refine lv_aload_n hx hb dX0_takeTask_50 rfl (lv_at hl 1 rfl) ?_
              refine kc_i (As := []) (rest := []) (wg := (fun _ => (wD cI q D_35))) ⟨hx, hb, hml, hown, hts⟩ (c_X0_hasTask l G cI cC cD q _ D_35  _ h) (cwV 0 hts gX0_takeTask_X0_hasTask rfl rfl rfl (by decide +kernel) ⟨Nat.le_of_ble_eq_true rfl, Nat.le_of_ble_eq_true rfl⟩) hK hN hP hD hS hA (em_DD cI q D_35) (fun _ => rp_self (em_DD cI q D_35)) rfl rfl rfl rfl hl.1 rfl (Nat.le_of_ble_eq_true rfl) dX0_takeTask_51 ⟨Nat.zero_le _, Nat.zero_le _⟩ (fun r_43 _ H locs h hP hD hS => ?_)
              refine lv_if_ne (tgt := 108) hx hb dX0_takeTask_54 (by decide) (fun c_44 => ?_) (fun c_44 => ?_)
              · have h := h.2 c_44
                exact W.vret hx hb hr (fun t ht hW => ⟨⟨D_35, rfl, h, by rw [ht]; exact hP, hD⟩, hS.F ht⟩) hS.2.2 dX0_takeTask_108
              · have h := h.1 c_44
                refine lv_aload_n hx hb dX0_takeTask_57 rfl (lv_at hl 1 rfl) ?_
                refine kc_i (As := []) (rest := []) (wg := (fun _ => (wD cI q D_35))) ⟨hx, hb, hml, hown, hts⟩ (c_X0_somethingWaits l G cI cC cD q _ D_35  _ h) (cwV 0 hts gX0_takeTask_X0_somethingWaits rfl rfl rfl (by decide +kernel) ⟨Nat.le_of_ble_eq_true rfl, Nat.le_of_ble_eq_true rfl⟩) hK hN hP hD hS hA (em_DD cI q D_35) (fun _ => rp_self (em_DD cI q D_35)) rfl rfl rfl rfl hl.1 rfl (Nat.le_of_ble_eq_true rfl) dX0_takeTask_58 ⟨Nat.zero_le _, Nat.zero_le _⟩ (fun r_45 _ H locs h hP hD hS => ?_)
                refine lv_if_eq (tgt := 108) hx hb dX0_takeTask_61 (by decide) (fun c_46 => ?_) (fun c_46 => ?_)
                · have h := h.1 c_46
                  exact W.vret hx hb hr (fun t ht hW => ⟨⟨D_35, rfl, h, by rw [ht]; exact hP, hD⟩, hS.F ht⟩) hS.2.2 dX0_takeTask_108
                · have h := h.2 c_46
                  refine lv_aload_n hx hb dX0_takeTask_64 rfl (lv_at hl 1 rfl) ?_
                  refine va_get (D := G) (ci := 0) (v := .ref (q 10)) (C := RX0) (T := TX0) (N := 18) hx hb hts hinX0 hown hK hP 0 rfl rfl 2 (by decide) hL27 (fun _ h9 => h9) rfl dX0_takeTask_65 ?_
                  refine kc_i (As := []) (rest := []) (wg := (fun _ => (wD cI q D_35))) ⟨hx, hb, hml, hown, hts⟩ (c_X4_size l G cI cC cD (q 10) (q 11) (q 12) _ (fun i => D_35 (10 + i))  _ h) (cwV 0 hts gX0_takeTask_X4_size rfl rfl rfl (by decide +kernel) ⟨Nat.le_of_ble_eq_true rfl, Nat.le_of_ble_eq_true rfl⟩) hK hN hP hD hS hA (em_DK cI q D_35) (fun _ => rp_self (em_DK cI q D_35)) rfl rfl rfl rfl hl.1 rfl (Nat.le_of_ble_eq_true rfl) dX0_takeTask_68 ⟨Nat.zero_le _, Nat.zero_le _⟩ (fun r_47 _ H locs h hP hD hS => ?_)
                  refine lv_if_le (tgt := 86) hx hb dX0_takeTask_71 (by decide) (fun c_48 => ?_) (fun c_48 => ?_)
                  · have h := h.1 c_48
                    refine lv_aload_n hx hb dX0_takeTask_86 rfl (lv_at hl 1 rfl) ?_
                    refine lv_aload_n hx hb dX0_takeTask_87 rfl (lv_at hl 1 rfl) ?_
                    refine va_get (D := G) (ci := 0) (v := .ref (q 7)) (C := RX0) (T := TX0) (N := 18) hx hb hts hinX0 hown hK hP 0 rfl rfl 1 (by decide) hL23 (fun _ h9 => h9) rfl dX0_takeTask_88 ?_
                    refine lv_aload_n hx hb dX0_takeTask_91 rfl (lv_at hl 1 rfl) ?_
                    refine kc_i (As := []) (rest := [.ref (q 7), .ref (q 0)]) (wg := (fun _ => (wD cI q D_35))) ⟨hx, hb, hml, hown, hts⟩ (c_X0_chosenOrder l G cI cC cD q _ D_35  _ h) (cwV 0 hts gX0_takeTask_X0_chosenOrder rfl rfl rfl (by decide +kernel) ⟨Nat.le_of_ble_eq_true rfl, Nat.le_of_ble_eq_true rfl⟩) hK hN hP hD hS hA (em_DD cI q D_35) (fun _ => rp_self (em_DD cI q D_35)) rfl rfl rfl rfl hl.1 rfl (Nat.le_of_ble_eq_true rfl) dX0_takeTask_92 ⟨Nat.zero_le _, Nat.zero_le _⟩ (fun r_49 _ H locs h hP hD hS => ?_)
                    refine kc_v (As := [.ref (q 7), .int r_49]) (rest := []) (wg := (fun u => (wD cI q u))) ⟨hx, hb, hml, hown, hts⟩ (c_X0_takeFrom_O l G cI cC cD q _ D_35 r_49 _ h) (cwV 2 hts gX0_takeTask_X0_takeFrom rfl rfl rfl (by decide +kernel) ⟨Nat.le_of_ble_eq_true rfl, Nat.le_of_ble_eq_true rfl⟩) hK hN hP hD hS hA (em_DD cI q D_35) (fun u => rp_DD cI q D_35 u) rfl rfl rfl rfl hl.1 rfl (Nat.le_of_ble_eq_true rfl) dX0_takeTask_95 ⟨Nat.zero_le _, Nat.zero_le _⟩ (fun u_50 H locs h hP hD hS => ?_)
                    refine lv_aload_n hx hb dX0_takeTask_98 rfl (lv_at hl 1 rfl) ?_
                    refine kc_v (As := []) (rest := []) (wg := (fun u => (wD cI q u))) ⟨hx, hb, hml, hown, hts⟩ (c_X0_endTaskIfDone l G cI cC cD q _ u_50  _ h) (cwV 0 hts gX0_takeTask_X0_endTaskIfDone rfl rfl rfl (by decide +kernel) ⟨Nat.le_of_ble_eq_true rfl, Nat.le_of_ble_eq_true rfl⟩) hK hN hP hD hS hA (em_DD cI q u_50) (fun u => rp_DD cI q u_50 u) rfl rfl rfl rfl hl.1 rfl (Nat.le_of_ble_eq_true rfl) dX0_takeTask_99 ⟨Nat.zero_le _, Nat.zero_le _⟩ (fun u_51 H locs h hP hD hS => ?_)
                    refine lv_iinc (v := x1_34 + 1) (lv' := [(1, .int (x1_34 + 1)), (0, .ref (q 0))]) hx hb dX0_takeTask_102 hl (k := 0) rfl rfl (by decide) rfl (fun ls hl => ?_)
                    refine lv_goto (tgt := 37) hx hb dX0_takeTask_105 (by decide) ?_
                    obtain ⟨n_52, lt_53, h_54⟩ := h
                    exact ih_36 n_52 lt_53 _ _ h_54 _ _ _ hP hD hS (lv_sub hl [0, 1] rfl)
                  · have h := h.2 c_48
                    refine lv_aload_n hx hb dX0_takeTask_74 rfl (lv_at hl 1 rfl) ?_
                    refine lv_aload_n hx hb dX0_takeTask_75 rfl (lv_at hl 1 rfl) ?_
                    refine va_get (D := G) (ci := 0) (v := .ref (q 10)) (C := RX0) (T := TX0) (N := 18) hx hb hts hinX0 hown hK hP 0 rfl rfl 2 (by decide) hL27 (fun _ h9 => h9) rfl dX0_takeTask_76 ?_
                    refine lv_iconst (v := 0) hx hb dX0_takeTask_79 (by decide) ?_
                    refine kc_v (As := [.ref (q 10), .int 0]) (rest := []) (wg := (fun u => (wD cI q u))) ⟨hx, hb, hml, hown, hts⟩ (c_X0_takeFrom_K l G cI cC cD q _ D_35 0 _ h) (cwV 2 hts gX0_takeTask_X0_takeFrom rfl rfl rfl (by decide +kernel) ⟨Nat.le_of_ble_eq_true rfl, Nat.le_of_ble_eq_true rfl⟩) hK hN hP hD hS hA (em_DD cI q D_35) (fun u => rp_DD cI q D_35 u) rfl rfl rfl rfl hl.1 rfl (Nat.le_of_ble_eq_true rfl) dX0_takeTask_80 ⟨Nat.zero_le _, Nat.zero_le _⟩ (fun u_55 H locs h hP hD hS => ?_)
                    refine lv_goto (tgt := 98) hx hb dX0_takeTask_83 (by decide) ?_
                    refine lv_aload_n hx hb dX0_takeTask_98 rfl (lv_at hl 1 rfl) ?_
                    refine kc_v (As := []) (rest := []) (wg := (fun u => (wD cI q u))) ⟨hx, hb, hml, hown, hts⟩ (c_X0_endTaskIfDone l G cI cC cD q _ u_55  _ h) (cwV 0 hts gX0_takeTask_X0_endTaskIfDone rfl rfl rfl (by decide +kernel) ⟨Nat.le_of_ble_eq_true rfl, Nat.le_of_ble_eq_true rfl⟩) hK hN hP hD hS hA (em_DD cI q u_55) (fun u => rp_DD cI q u_55 u) rfl rfl rfl rfl hl.1 rfl (Nat.le_of_ble_eq_true rfl) dX0_takeTask_99 ⟨Nat.zero_le _, Nat.zero_le _⟩ (fun u_56 H locs h hP hD hS => ?_)
                    refine lv_iinc (v := x1_34 + 1) (lv' := [(1, .int (x1_34 + 1)), (0, .ref (q 0))]) hx hb dX0_takeTask_102 hl (k := 0) rfl rfl (by decide) rfl (fun ls hl => ?_)
                    refine lv_goto (tgt := 37) hx hb dX0_takeTask_105 (by decide) ?_
                    obtain ⟨n_57, lt_58, h_59⟩ := h
                    exact ih_36 n_57 lt_58 _ _ h_59 _ _ _ hP hD hS (lv_sub hl [0, 1] rfl)
      exact lp_40 _ _ _ h_38 _ _ _ hP hD hS hl
    · have h := h.1 c_31
      refine lv_aload_n hx hb dX0_takeTask_14 rfl (lv_at hl 0 rfl) ?_
      refine lv_aload_n hx hb dX0_takeTask_15 rfl (lv_at hl 0 rfl) ?_
      refine va_get (D := G) (ci := 0) (v := .ref (q 1)) (C := RX0) (T := TX0) (N := 18) hx hb hts hinX0 hown hK hP 0 rfl rfl 0 (by decide) hL12 (fun _ h9 => h9) rfl dX0_takeTask_16 ?_
      refine lv_aload_n hx hb dX0_takeTask_19 rfl (lv_at hl 0 rfl) ?_
      refine va_get (D := G) (ci := 0) (v := .int (D 23 0)) (C := RX0) (T := TX0) (N := 18) hx hb hts hinX0 hown hK hP 0 rfl rfl 12 (by decide) hL76 (fun _ h9 => h9) rfl dX0_takeTask_20 ?_
      refine kc_i (As := [.int (D 23 0)]) (rest := [.ref (q 0)]) (wg := (fun _ => (wD cI q D))) ⟨hx, hb, hml, hown, hts⟩ (c_X1_nearestNotOpen l G cI cC cD (q 1) (q 2) (q 3) (q 4) (q 5) (q 6) _ D (D 23 0) _ h) (cwV 1 hts gX0_takeTask_X1_nearestNotOpen rfl rfl rfl (by decide +kernel) ⟨Nat.le_of_ble_eq_true rfl, Nat.le_of_ble_eq_true rfl⟩) hK hN hP hD hS hA (em_DG cI q D) (fun _ => rp_self (em_DG cI q D)) rfl rfl rfl rfl hl.1 rfl (Nat.le_of_ble_eq_true rfl) dX0_takeTask_23 ⟨Nat.zero_le _, Nat.zero_le _⟩ (fun r_60 _ H locs h hP hD hS => ?_)
      refine va_put (D := G) (ci := 0) (v := .int r_60) (ty := .int) (C := RX0) (T := TX0) (N := 18) hx hb hts hinX0 tyX0 tyX0_ok nmX0 hown hK hP hD hS 0 rfl rfl 13 (by decide) hL38 (fun _ h9 => h9) rfl (by decide +kernel) rfl rfl (Nat.le_of_ble_eq_true rfl) dX0_takeTask_26 (fun H locs hP hD hS => ?_)
      have hP : va_P G vwCl (wD cI q (uA D 24 (fun _ => r_60))) H := hP
      have hD : va_D A (wD cI q (uA D 24 (fun _ => r_60))) := hD
      refine lv_aload_n hx hb dX0_takeTask_29 rfl (lv_at hl 0 rfl) ?_
      refine lv_bipush (v := 10) hx hb dX0_takeTask_30 (by decide) ?_
      refine va_put (D := G) (ci := 0) (v := .int 10) (ty := .int) (C := RX0) (T := TX0) (N := 18) hx hb hts hinX0 tyX0 tyX0_ok nmX0 hown hK hP hD hS 0 rfl rfl 14 (by decide) hL79 (fun _ h9 => h9) rfl (by decide +kernel) rfl rfl (Nat.le_of_ble_eq_true rfl) dX0_takeTask_32 (fun H locs hP hD hS => ?_)
      have hP : va_P G vwCl (wD cI q (uA (uA D 24 (fun _ => r_60)) 25 (fun _ => 10))) H := hP
      have hD : va_D A (wD cI q (uA (uA D 24 (fun _ => r_60)) 25 (fun _ => 10))) := hD
      refine lv_iconst (v := 0) hx hb dX0_takeTask_35 (by decide) ?_
      refine lv_istore_n (lv' := [(1, .int 0), (0, .ref (q 0))]) hx hb dX0_takeTask_36 rfl hl (by decide) rfl (fun ls hl => ?_)
      obtain ⟨I_62, n_66, h_67, hI_68⟩ := h
      have lp_69 : ∀ (n_61 : Nat) (x1_63 : Int32) (D_64 : St), I_62 n_61 x1_63 D_64 → ∀ (H : Heap) (locs : List Loc) (ls : Array Slot), va_P G vwCl (wD cI q D_64) H → va_D A (wD cI q D_64) → va_S A s.heap H locs → lv_has ls 2 [(1, .int x1_63), (0, .ref (q 0))] → W p l e (headSpec wsX0_takeTask ({ frames := 2, cells := 0, slots := 0, locals := 45 })).room s m ([.ref (q 0)] : List Value).toArray below meth c H locs 0 0 (MQ below (va_Qv Q (BW G (fun u : St => (wD cI q u)) A) A) ([.ref (q 0)] : List Value).toArray s 0 0 A) (F0 m 37 ls []) := by
        intro n_61
        induction n_61 using Nat.strongRecOn with
        | ind n_61 ih_65 =>
          intro x1_63 D_64 hIn H locs ls hP hD hS hl
          have h := hI_68 n_61 x1_63 D_64 hIn
          refine lv_iload_n hx hb dX0_takeTask_37 rfl (lv_at hl 0 rfl) ?_
          refine lv_bipush (v := 12) hx hb dX0_takeTask_38 (by decide) ?_
          refine lv_icmp_ge (tgt := 108) hx hb dX0_takeTask_40 (by decide) (fun c_70 => ?_) (fun c_70 => ?_)
          · have h := h.1 c_70
            exact W.vret hx hb hr (fun t ht hW => ⟨⟨D_64, rfl, h, by rw [ht]; exact hP, hD⟩, hS.F ht⟩) hS.2.2 dX0_takeTask_108
          · have h := h.2 c_70
            refine lv_aload_n hx hb dX0_takeTask_43 rfl (lv_at hl 1 rfl) ?_
            refine va_get (D := G) (ci := 0) (v := .int (D_64 21 0)) (C := RX0) (T := TX0) (N := 18) hx hb hts hinX0 hown hK hP 0 rfl rfl 10 (by decide) hL69 (fun _ h9 => h9) rfl dX0_takeTask_44 ?_
            refine lv_if_ne (tgt := 108) hx hb dX0_takeTask_47 (by decide) (fun c_71 => ?_) (fun c_71 => ?_)
            · have h := h.2 c_71
              exact W.vret hx hb hr (fun t ht hW => ⟨⟨D_64, rfl, h, by rw [ht]; exact hP, hD⟩, hS.F ht⟩) hS.2.2 dX0_takeTask_108
            · have h := h.1 c_71
              refine lv_aload_n hx hb dX0_takeTask_50 rfl (lv_at hl 1 rfl) ?_
              refine kc_i (As := []) (rest := []) (wg := (fun _ => (wD cI q D_64))) ⟨hx, hb, hml, hown, hts⟩ (c_X0_hasTask l G cI cC cD q _ D_64  _ h) (cwV 0 hts gX0_takeTask_X0_hasTask rfl rfl rfl (by decide +kernel) ⟨Nat.le_of_ble_eq_true rfl, Nat.le_of_ble_eq_true rfl⟩) hK hN hP hD hS hA (em_DD cI q D_64) (fun _ => rp_self (em_DD cI q D_64)) rfl rfl rfl rfl hl.1 rfl (Nat.le_of_ble_eq_true rfl) dX0_takeTask_51 ⟨Nat.zero_le _, Nat.zero_le _⟩ (fun r_72 _ H locs h hP hD hS => ?_)
              refine lv_if_ne (tgt := 108) hx hb dX0_takeTask_54 (by decide) (fun c_73 => ?_) (fun c_73 => ?_)
              · have h := h.2 c_73
                exact W.vret hx hb hr (fun t ht hW => ⟨⟨D_64, rfl, h, by rw [ht]; exact hP, hD⟩, hS.F ht⟩) hS.2.2 dX0_takeTask_108
              · have h := h.1 c_73
                refine lv_aload_n hx hb dX0_takeTask_57 rfl (lv_at hl 1 rfl) ?_
                refine kc_i (As := []) (rest := []) (wg := (fun _ => (wD cI q D_64))) ⟨hx, hb, hml, hown, hts⟩ (c_X0_somethingWaits l G cI cC cD q _ D_64  _ h) (cwV 0 hts gX0_takeTask_X0_somethingWaits rfl rfl rfl (by decide +kernel) ⟨Nat.le_of_ble_eq_true rfl, Nat.le_of_ble_eq_true rfl⟩) hK hN hP hD hS hA (em_DD cI q D_64) (fun _ => rp_self (em_DD cI q D_64)) rfl rfl rfl rfl hl.1 rfl (Nat.le_of_ble_eq_true rfl) dX0_takeTask_58 ⟨Nat.zero_le _, Nat.zero_le _⟩ (fun r_74 _ H locs h hP hD hS => ?_)
                refine lv_if_eq (tgt := 108) hx hb dX0_takeTask_61 (by decide) (fun c_75 => ?_) (fun c_75 => ?_)
                · have h := h.1 c_75
                  exact W.vret hx hb hr (fun t ht hW => ⟨⟨D_64, rfl, h, by rw [ht]; exact hP, hD⟩, hS.F ht⟩) hS.2.2 dX0_takeTask_108
                · have h := h.2 c_75
                  refine lv_aload_n hx hb dX0_takeTask_64 rfl (lv_at hl 1 rfl) ?_
                  refine va_get (D := G) (ci := 0) (v := .ref (q 10)) (C := RX0) (T := TX0) (N := 18) hx hb hts hinX0 hown hK hP 0 rfl rfl 2 (by decide) hL27 (fun _ h9 => h9) rfl dX0_takeTask_65 ?_
                  refine kc_i (As := []) (rest := []) (wg := (fun _ => (wD cI q D_64))) ⟨hx, hb, hml, hown, hts⟩ (c_X4_size l G cI cC cD (q 10) (q 11) (q 12) _ (fun i => D_64 (10 + i))  _ h) (cwV 0 hts gX0_takeTask_X4_size rfl rfl rfl (by decide +kernel) ⟨Nat.le_of_ble_eq_true rfl, Nat.le_of_ble_eq_true rfl⟩) hK hN hP hD hS hA (em_DK cI q D_64) (fun _ => rp_self (em_DK cI q D_64)) rfl rfl rfl rfl hl.1 rfl (Nat.le_of_ble_eq_true rfl) dX0_takeTask_68 ⟨Nat.zero_le _, Nat.zero_le _⟩ (fun r_76 _ H locs h hP hD hS => ?_)
                  refine lv_if_le (tgt := 86) hx hb dX0_takeTask_71 (by decide) (fun c_77 => ?_) (fun c_77 => ?_)
                  · have h := h.1 c_77
                    refine lv_aload_n hx hb dX0_takeTask_86 rfl (lv_at hl 1 rfl) ?_
                    refine lv_aload_n hx hb dX0_takeTask_87 rfl (lv_at hl 1 rfl) ?_
                    refine va_get (D := G) (ci := 0) (v := .ref (q 7)) (C := RX0) (T := TX0) (N := 18) hx hb hts hinX0 hown hK hP 0 rfl rfl 1 (by decide) hL23 (fun _ h9 => h9) rfl dX0_takeTask_88 ?_
                    refine lv_aload_n hx hb dX0_takeTask_91 rfl (lv_at hl 1 rfl) ?_
                    refine kc_i (As := []) (rest := [.ref (q 7), .ref (q 0)]) (wg := (fun _ => (wD cI q D_64))) ⟨hx, hb, hml, hown, hts⟩ (c_X0_chosenOrder l G cI cC cD q _ D_64  _ h) (cwV 0 hts gX0_takeTask_X0_chosenOrder rfl rfl rfl (by decide +kernel) ⟨Nat.le_of_ble_eq_true rfl, Nat.le_of_ble_eq_true rfl⟩) hK hN hP hD hS hA (em_DD cI q D_64) (fun _ => rp_self (em_DD cI q D_64)) rfl rfl rfl rfl hl.1 rfl (Nat.le_of_ble_eq_true rfl) dX0_takeTask_92 ⟨Nat.zero_le _, Nat.zero_le _⟩ (fun r_78 _ H locs h hP hD hS => ?_)
                    refine kc_v (As := [.ref (q 7), .int r_78]) (rest := []) (wg := (fun u => (wD cI q u))) ⟨hx, hb, hml, hown, hts⟩ (c_X0_takeFrom_O l G cI cC cD q _ D_64 r_78 _ h) (cwV 2 hts gX0_takeTask_X0_takeFrom rfl rfl rfl (by decide +kernel) ⟨Nat.le_of_ble_eq_true rfl, Nat.le_of_ble_eq_true rfl⟩) hK hN hP hD hS hA (em_DD cI q D_64) (fun u => rp_DD cI q D_64 u) rfl rfl rfl rfl hl.1 rfl (Nat.le_of_ble_eq_true rfl) dX0_takeTask_95 ⟨Nat.zero_le _, Nat.zero_le _⟩ (fun u_79 H locs h hP hD hS => ?_)
                    refine lv_aload_n hx hb dX0_takeTask_98 rfl (lv_at hl 1 rfl) ?_
                    refine kc_v (As := []) (rest := []) (wg := (fun u => (wD cI q u))) ⟨hx, hb, hml, hown, hts⟩ (c_X0_endTaskIfDone l G cI cC cD q _ u_79  _ h) (cwV 0 hts gX0_takeTask_X0_endTaskIfDone rfl rfl rfl (by decide +kernel) ⟨Nat.le_of_ble_eq_true rfl, Nat.le_of_ble_eq_true rfl⟩) hK hN hP hD hS hA (em_DD cI q u_79) (fun u => rp_DD cI q u_79 u) rfl rfl rfl rfl hl.1 rfl (Nat.le_of_ble_eq_true rfl) dX0_takeTask_99 ⟨Nat.zero_le _, Nat.zero_le _⟩ (fun u_80 H locs h hP hD hS => ?_)
                    refine lv_iinc (v := x1_63 + 1) (lv' := [(1, .int (x1_63 + 1)), (0, .ref (q 0))]) hx hb dX0_takeTask_102 hl (k := 0) rfl rfl (by decide) rfl (fun ls hl => ?_)
                    refine lv_goto (tgt := 37) hx hb dX0_takeTask_105 (by decide) ?_
                    obtain ⟨n_81, lt_82, h_83⟩ := h
                    exact ih_65 n_81 lt_82 _ _ h_83 _ _ _ hP hD hS (lv_sub hl [0, 1] rfl)
                  · have h := h.2 c_77
                    refine lv_aload_n hx hb dX0_takeTask_74 rfl (lv_at hl 1 rfl) ?_
                    refine lv_aload_n hx hb dX0_takeTask_75 rfl (lv_at hl 1 rfl) ?_
                    refine va_get (D := G) (ci := 0) (v := .ref (q 10)) (C := RX0) (T := TX0) (N := 18) hx hb hts hinX0 hown hK hP 0 rfl rfl 2 (by decide) hL27 (fun _ h9 => h9) rfl dX0_takeTask_76 ?_
                    refine lv_iconst (v := 0) hx hb dX0_takeTask_79 (by decide) ?_
                    refine kc_v (As := [.ref (q 10), .int 0]) (rest := []) (wg := (fun u => (wD cI q u))) ⟨hx, hb, hml, hown, hts⟩ (c_X0_takeFrom_K l G cI cC cD q _ D_64 0 _ h) (cwV 2 hts gX0_takeTask_X0_takeFrom rfl rfl rfl (by decide +kernel) ⟨Nat.le_of_ble_eq_true rfl, Nat.le_of_ble_eq_true rfl⟩) hK hN hP hD hS hA (em_DD cI q D_64) (fun u => rp_DD cI q D_64 u) rfl rfl rfl rfl hl.1 rfl (Nat.le_of_ble_eq_true rfl) dX0_takeTask_80 ⟨Nat.zero_le _, Nat.zero_le _⟩ (fun u_84 H locs h hP hD hS => ?_)
                    refine lv_goto (tgt := 98) hx hb dX0_takeTask_83 (by decide) ?_
                    refine lv_aload_n hx hb dX0_takeTask_98 rfl (lv_at hl 1 rfl) ?_
                    refine kc_v (As := []) (rest := []) (wg := (fun u => (wD cI q u))) ⟨hx, hb, hml, hown, hts⟩ (c_X0_endTaskIfDone l G cI cC cD q _ u_84  _ h) (cwV 0 hts gX0_takeTask_X0_endTaskIfDone rfl rfl rfl (by decide +kernel) ⟨Nat.le_of_ble_eq_true rfl, Nat.le_of_ble_eq_true rfl⟩) hK hN hP hD hS hA (em_DD cI q u_84) (fun u => rp_DD cI q u_84 u) rfl rfl rfl rfl hl.1 rfl (Nat.le_of_ble_eq_true rfl) dX0_takeTask_99 ⟨Nat.zero_le _, Nat.zero_le _⟩ (fun u_85 H locs h hP hD hS => ?_)
                    refine lv_iinc (v := x1_63 + 1) (lv' := [(1, .int (x1_63 + 1)), (0, .ref (q 0))]) hx hb dX0_takeTask_102 hl (k := 0) rfl rfl (by decide) rfl (fun ls hl => ?_)
                    refine lv_goto (tgt := 37) hx hb dX0_takeTask_105 (by decide) ?_
                    obtain ⟨n_86, lt_87, h_88⟩ := h
                    exact ih_65 n_86 lt_87 _ _ h_88 _ _ _ hP hD hS (lv_sub hl [0, 1] rfl)
      exact lp_69 _ _ _ h_67 _ _ _ hP hD hS hl
def q_X0_work (D : St) (Q : St → Prop) : Prop :=
  q_X0_hasTask D (fun r_1 => (r_1 = 0 → Q D) ∧ (¬ (r_1 = 0) → ((D 24 0) ≤ (D 23 0) → ((D 23 0) ≤ (D 24 0) → q_X1_moveTowards (D 24 0) (D 25 0) (uA D 26 (fun _ => ((D 26 0) + 1))) (fun u_5 => q_X0_endTaskIfDone (mgG (uA D 26 (fun _ => ((D 26 0) + 1))) u_5) (fun u_6 => Q u_6))) ∧ (¬ ((D 23 0) ≤ (D 24 0)) → Q (uA (uA D 26 (fun _ => ((D 26 0) + 1))) 23 (fun _ => ((D 23 0) - 1))))) ∧ (¬ ((D 24 0) ≤ (D 23 0)) → Q (uA (uA D 26 (fun _ => ((D 26 0) + 1))) 23 (fun _ => ((D 23 0) + 1))))))
set_option maxHeartbeats 4000000 in
set_option maxRecDepth 100000 in
theorem c_X0_work (l : Launch) (G : va_G) (cI cC cD : ClassId) (q : Nat → Nat) (sz : Nat) (D : St)  (Q : St → Prop) (h : q_X0_work  D Q) : Met l yX0_work wsX0_work ({ frames := 2, cells := 0, slots := 0, locals := 45 }) (va_Pc [.ref (q 0)] (PW G (ty3 cI cC cD) (wD cI q D) sz)) (va_Qv Q (BW G (fun u : St => (wD cI q u)) (va_A (wD cI q D) sz)) (va_A (wD cI q D) sz)) 0 0 (va_A (wD cI q D) sz) := by
  refine Met.ofW (cc := cX0_work) (maxL := 1) (ret := none) (by decide) rfl ?_
  intro p e s m args below meth c s₁ B hml hv
  obtain ⟨rfl, hsz, hP, hK, hD0, hN⟩ := hv
  have hx := B.exec
  have hb := B.bytes
  have hr := B.returns
  have hts := atoms_spec (ws := wsX0_work) B.pre
  have hown : s.vm.findClass RX0 = some m.cls := findClass_of_methodNamed B.named
  have hlocks := B.notSynchronized
  subst hsz
  have hD := hD0.self (sz := s.heap.size)
  generalize hAe : va_A (wD cI q D) s.heap.size = A at hD ⊢
  have hA : ∀ q : Nat, s.heap.size ≤ q → A q := fun q h => by rw [← hAe]; exact Or.inr h
  have hS : va_S A s.heap s.heap [] := va_S.rf
  have hl := lv_entry ([.ref (q 0)]) (n := 1) (Nat.le_of_ble_eq_true rfl)
  rw [lg_entry_eq]
  generalize (lg_sl ([.ref (q 0)]) ++ List.replicate (1 - (lg_sl ([.ref (q 0)])).length) Slot.unset).toArray = ls at hl ⊢
  have hl : lv_has ls 1 [(0, .ref (q 0))] := hl
  have hinX0 : ∀ w ∈ wsX00, w ∈ wsX0_work := by decide +kernel
  have hL12 := hts (.fieldLink RX0 12 "CraneGates$Dam" "gates" "LCraneGates$Gates;") (by decide +kernel)
  have hL38 := hts (.fieldLink RX0 38 "CraneGates$Dam" "taskGate" "I") (by decide +kernel)
  have hL76 := hts (.fieldLink RX0 76 "CraneGates$Dam" "place" "I") (by decide +kernel)
  have hL79 := hts (.fieldLink RX0 79 "CraneGates$Dam" "taskOpening" "I") (by decide +kernel)
  have hL82 := hts (.fieldLink RX0 82 "CraneGates$Dam" "minutesWorked" "I") (by decide +kernel)
  unfold q_X0_work at h
  refine lv_aload_n hx hb dX0_work_0 rfl (lv_at hl 0 rfl) ?_
  refine kc_i (As := []) (rest := []) (wg := (fun _ => (wD cI q D))) ⟨hx, hb, hml, hown, hts⟩ (c_X0_hasTask l G cI cC cD q _ D  _ h) (cwV 0 hts gX0_work_X0_hasTask rfl rfl rfl (by decide +kernel) ⟨Nat.le_of_ble_eq_true rfl, Nat.le_of_ble_eq_true rfl⟩) hK hN hP hD hS hA (em_DD cI q D) (fun _ => rp_self (em_DD cI q D)) rfl rfl rfl rfl hl.1 rfl (Nat.le_of_ble_eq_true rfl) dX0_work_1 ⟨Nat.zero_le _, Nat.zero_le _⟩ (fun r_1 _ H locs h hP hD hS => ?_)
  refine lv_if_ne (tgt := 8) hx hb dX0_work_4 (by decide) (fun c_2 => ?_) (fun c_2 => ?_)
  · have h := h.2 c_2
    refine lv_aload_n hx hb dX0_work_8 rfl (lv_at hl 0 rfl) ?_
    refine lv_dup hx hb dX0_work_9 rfl ?_
    refine va_get (D := G) (ci := 0) (v := .int (D 26 0)) (C := RX0) (T := TX0) (N := 18) hx hb hts hinX0 hown hK hP 0 rfl rfl 15 (by decide) hL82 (fun _ h9 => h9) rfl dX0_work_10 ?_
    refine lv_iconst (v := 1) hx hb dX0_work_13 (by decide) ?_
    refine lv_iadd hx hb dX0_work_14 ?_
    refine va_put (D := G) (ci := 0) (v := .int ((D 26 0) + 1)) (ty := .int) (C := RX0) (T := TX0) (N := 18) hx hb hts hinX0 tyX0 tyX0_ok nmX0 hown hK hP hD hS 0 rfl rfl 15 (by decide) hL82 (fun _ h9 => h9) rfl (by decide +kernel) rfl rfl (Nat.le_of_ble_eq_true rfl) dX0_work_15 (fun H locs hP hD hS => ?_)
    have hP : va_P G vwCl (wD cI q (uA D 26 (fun _ => ((D 26 0) + 1)))) H := hP
    have hD : va_D A (wD cI q (uA D 26 (fun _ => ((D 26 0) + 1)))) := hD
    refine lv_aload_n hx hb dX0_work_18 rfl (lv_at hl 0 rfl) ?_
    refine va_get (D := G) (ci := 0) (v := .int (D 23 0)) (C := RX0) (T := TX0) (N := 18) hx hb hts hinX0 hown hK hP 0 rfl rfl 12 (by decide) hL76 (fun _ h9 => h9) rfl dX0_work_19 ?_
    refine lv_aload_n hx hb dX0_work_22 rfl (lv_at hl 0 rfl) ?_
    refine va_get (D := G) (ci := 0) (v := .int (D 24 0)) (C := RX0) (T := TX0) (N := 18) hx hb hts hinX0 hown hK hP 0 rfl rfl 13 (by decide) hL38 (fun _ h9 => h9) rfl dX0_work_23 ?_
    refine lv_icmp_ge (tgt := 42) hx hb dX0_work_26 (by decide) (fun c_3 => ?_) (fun c_3 => ?_)
    · have h := h.1 c_3
      refine lv_aload_n hx hb dX0_work_42 rfl (lv_at hl 0 rfl) ?_
      refine va_get (D := G) (ci := 0) (v := .int (D 23 0)) (C := RX0) (T := TX0) (N := 18) hx hb hts hinX0 hown hK hP 0 rfl rfl 12 (by decide) hL76 (fun _ h9 => h9) rfl dX0_work_43 ?_
      refine lv_aload_n hx hb dX0_work_46 rfl (lv_at hl 0 rfl) ?_
      refine va_get (D := G) (ci := 0) (v := .int (D 24 0)) (C := RX0) (T := TX0) (N := 18) hx hb hts hinX0 hown hK hP 0 rfl rfl 13 (by decide) hL38 (fun _ h9 => h9) rfl dX0_work_47 ?_
      refine lv_icmp_le (tgt := 66) hx hb dX0_work_50 (by decide) (fun c_4 => ?_) (fun c_4 => ?_)
      · have h := h.1 c_4
        refine lv_aload_n hx hb dX0_work_66 rfl (lv_at hl 0 rfl) ?_
        refine va_get (D := G) (ci := 0) (v := .ref (q 1)) (C := RX0) (T := TX0) (N := 18) hx hb hts hinX0 hown hK hP 0 rfl rfl 0 (by decide) hL12 (fun _ h9 => h9) rfl dX0_work_67 ?_
        refine lv_aload_n hx hb dX0_work_70 rfl (lv_at hl 0 rfl) ?_
        refine va_get (D := G) (ci := 0) (v := .int (D 24 0)) (C := RX0) (T := TX0) (N := 18) hx hb hts hinX0 hown hK hP 0 rfl rfl 13 (by decide) hL38 (fun _ h9 => h9) rfl dX0_work_71 ?_
        refine lv_aload_n hx hb dX0_work_74 rfl (lv_at hl 0 rfl) ?_
        refine va_get (D := G) (ci := 0) (v := .int (D 25 0)) (C := RX0) (T := TX0) (N := 18) hx hb hts hinX0 hown hK hP 0 rfl rfl 14 (by decide) hL79 (fun _ h9 => h9) rfl dX0_work_75 ?_
        refine kc_v (As := [.int (D 24 0), .int (D 25 0)]) (rest := []) (wg := (fun u => (wD cI q (mgG (uA D 26 (fun _ => ((D 26 0) + 1))) u)))) ⟨hx, hb, hml, hown, hts⟩ (c_X1_moveTowards l G cI cC cD (q 1) (q 2) (q 3) (q 4) (q 5) (q 6) _ (uA D 26 (fun _ => ((D 26 0) + 1))) (D 24 0) (D 25 0) _ h) (cwV 2 hts gX0_work_X1_moveTowards rfl rfl rfl (by decide +kernel) ⟨Nat.le_of_ble_eq_true rfl, Nat.le_of_ble_eq_true rfl⟩) hK hN hP hD hS hA (em_DG cI q (uA D 26 (fun _ => ((D 26 0) + 1)))) (fun u => rp_DG cI q (uA D 26 (fun _ => ((D 26 0) + 1))) u) rfl rfl rfl rfl hl.1 rfl (Nat.le_of_ble_eq_true rfl) dX0_work_78 ⟨Nat.zero_le _, Nat.zero_le _⟩ (fun u_5 H locs h hP hD hS => ?_)
        refine lv_aload_n hx hb dX0_work_81 rfl (lv_at hl 0 rfl) ?_
        refine kc_v (As := []) (rest := []) (wg := (fun u => (wD cI q u))) ⟨hx, hb, hml, hown, hts⟩ (c_X0_endTaskIfDone l G cI cC cD q _ (mgG (uA D 26 (fun _ => ((D 26 0) + 1))) u_5)  _ h) (cwV 0 hts gX0_work_X0_endTaskIfDone rfl rfl rfl (by decide +kernel) ⟨Nat.le_of_ble_eq_true rfl, Nat.le_of_ble_eq_true rfl⟩) hK hN hP hD hS hA (em_DD cI q (mgG (uA D 26 (fun _ => ((D 26 0) + 1))) u_5)) (fun u => rp_DD cI q (mgG (uA D 26 (fun _ => ((D 26 0) + 1))) u_5) u) rfl rfl rfl rfl hl.1 rfl (Nat.le_of_ble_eq_true rfl) dX0_work_82 ⟨Nat.zero_le _, Nat.zero_le _⟩ (fun u_6 H locs h hP hD hS => ?_)
        exact W.vret hx hb hr (fun t ht hW => ⟨⟨u_6, rfl, h, by rw [ht]; exact hP, hD⟩, hS.F ht⟩) hS.2.2 dX0_work_85
      · have h := h.2 c_4
        refine lv_aload_n hx hb dX0_work_53 rfl (lv_at hl 0 rfl) ?_
        refine lv_dup hx hb dX0_work_54 rfl ?_
        refine va_get (D := G) (ci := 0) (v := .int (D 23 0)) (C := RX0) (T := TX0) (N := 18) hx hb hts hinX0 hown hK hP 0 rfl rfl 12 (by decide) hL76 (fun _ h9 => h9) rfl dX0_work_55 ?_
        refine lv_iconst (v := 1) hx hb dX0_work_58 (by decide) ?_
        refine lv_isub hx hb dX0_work_59 ?_
        refine va_put (D := G) (ci := 0) (v := .int ((D 23 0) - 1)) (ty := .int) (C := RX0) (T := TX0) (N := 18) hx hb hts hinX0 tyX0 tyX0_ok nmX0 hown hK hP hD hS 0 rfl rfl 12 (by decide) hL76 (fun _ h9 => h9) rfl (by decide +kernel) rfl rfl (Nat.le_of_ble_eq_true rfl) dX0_work_60 (fun H locs hP hD hS => ?_)
        have hP : va_P G vwCl (wD cI q (uA (uA D 26 (fun _ => ((D 26 0) + 1))) 23 (fun _ => ((D 23 0) - 1)))) H := hP
        have hD : va_D A (wD cI q (uA (uA D 26 (fun _ => ((D 26 0) + 1))) 23 (fun _ => ((D 23 0) - 1)))) := hD
        refine lv_goto (tgt := 85) hx hb dX0_work_63 (by decide) ?_
        exact W.vret hx hb hr (fun t ht hW => ⟨⟨(uA (uA D 26 (fun _ => ((D 26 0) + 1))) 23 (fun _ => ((D 23 0) - 1))), rfl, h, by rw [ht]; exact hP, hD⟩, hS.F ht⟩) hS.2.2 dX0_work_85
    · have h := h.2 c_3
      refine lv_aload_n hx hb dX0_work_29 rfl (lv_at hl 0 rfl) ?_
      refine lv_dup hx hb dX0_work_30 rfl ?_
      refine va_get (D := G) (ci := 0) (v := .int (D 23 0)) (C := RX0) (T := TX0) (N := 18) hx hb hts hinX0 hown hK hP 0 rfl rfl 12 (by decide) hL76 (fun _ h9 => h9) rfl dX0_work_31 ?_
      refine lv_iconst (v := 1) hx hb dX0_work_34 (by decide) ?_
      refine lv_iadd hx hb dX0_work_35 ?_
      refine va_put (D := G) (ci := 0) (v := .int ((D 23 0) + 1)) (ty := .int) (C := RX0) (T := TX0) (N := 18) hx hb hts hinX0 tyX0 tyX0_ok nmX0 hown hK hP hD hS 0 rfl rfl 12 (by decide) hL76 (fun _ h9 => h9) rfl (by decide +kernel) rfl rfl (Nat.le_of_ble_eq_true rfl) dX0_work_36 (fun H locs hP hD hS => ?_)
      have hP : va_P G vwCl (wD cI q (uA (uA D 26 (fun _ => ((D 26 0) + 1))) 23 (fun _ => ((D 23 0) + 1)))) H := hP
      have hD : va_D A (wD cI q (uA (uA D 26 (fun _ => ((D 26 0) + 1))) 23 (fun _ => ((D 23 0) + 1)))) := hD
      refine lv_goto (tgt := 85) hx hb dX0_work_39 (by decide) ?_
      exact W.vret hx hb hr (fun t ht hW => ⟨⟨(uA (uA D 26 (fun _ => ((D 26 0) + 1))) 23 (fun _ => ((D 23 0) + 1))), rfl, h, by rw [ht]; exact hP, hD⟩, hS.F ht⟩) hS.2.2 dX0_work_85
  · have h := h.1 c_2
    exact W.vret hx hb hr (fun t ht hW => ⟨⟨D, rfl, h, by rw [ht]; exact hP, hD⟩, hS.F ht⟩) hS.2.2 dX0_work_7
def q_X0_head (D : St) (Q : Int32 → Prop) : Prop :=
  Q (((D 15 0) / 1000) + 1)
set_option maxHeartbeats 4000000 in
set_option maxRecDepth 100000 in
theorem c_X0_head (l : Launch) (G : va_G) (cI cC cD : ClassId) (q : Nat → Nat) (sz : Nat) (D : St)  (Q : Int32 → Prop) (h : q_X0_head  D Q) : Met l yX0_head wsX0_head ({ frames := 0, cells := 0, slots := 0, locals := 0 }) (va_Pc [.ref (q 0)] (PW G (ty3 cI cC cD) (wD cI q D) sz)) (va_Qi (fun (r : Int32) (_ : Unit) => Q r) (BW G (fun _ : Unit => (wD cI q D)) (va_A (wD cI q D) sz)) (va_A (wD cI q D) sz)) 0 0 (va_A (wD cI q D) sz) := by
  refine Met.ofW (cc := cX0_head) (maxL := 1) (ret := (some .int)) (by decide) rfl ?_
  intro p e s m args below meth c s₁ B hml hv
  obtain ⟨rfl, hsz, hP, hK, hD0, hN⟩ := hv
  have hx := B.exec
  have hb := B.bytes
  have hr := B.returns
  have hts := atoms_spec (ws := wsX0_head) B.pre
  have hown : s.vm.findClass RX0 = some m.cls := findClass_of_methodNamed B.named
  have hlocks := B.notSynchronized
  subst hsz
  have hD := hD0.self (sz := s.heap.size)
  generalize hAe : va_A (wD cI q D) s.heap.size = A at hD ⊢
  have hA : ∀ q : Nat, s.heap.size ≤ q → A q := fun q h => by rw [← hAe]; exact Or.inr h
  have hS : va_S A s.heap s.heap [] := va_S.rf
  have hl := lv_entry ([.ref (q 0)]) (n := 1) (Nat.le_of_ble_eq_true rfl)
  rw [lg_entry_eq]
  generalize (lg_sl ([.ref (q 0)]) ++ List.replicate (1 - (lg_sl ([.ref (q 0)])).length) Slot.unset).toArray = ls at hl ⊢
  have hl : lv_has ls 1 [(0, .ref (q 0))] := hl
  have hinX0 : ∀ w ∈ wsX00, w ∈ wsX0_head := by decide +kernel
  have hL34 := hts (.fieldLink RX0 34 "CraneGates$Dam" "water" "I") (by decide +kernel)
  unfold q_X0_head at h
  refine lv_aload_n hx hb dX0_head_0 rfl (lv_at hl 0 rfl) ?_
  refine va_get (D := G) (ci := 0) (v := .int (D 15 0)) (C := RX0) (T := TX0) (N := 18) hx hb hts hinX0 hown hK hP 0 rfl rfl 4 (by decide) hL34 (fun _ h9 => h9) rfl dX0_head_1 ?_
  refine lv_sipush (v := 1000) hx hb dX0_head_4 (by decide) ?_
  refine lv_idiv hx hb dX0_head_7 (by decide) ?_
  refine lv_iconst (v := 1) hx hb dX0_head_8 (by decide) ?_
  refine lv_iadd hx hb dX0_head_9 ?_
  exact W.iret (v := (((D 15 0) / 1000) + 1)) hx hb hr (fun t ht hW => ⟨⟨(((D 15 0) / 1000) + 1), (), rfl, h, by rw [ht]; exact hP, hD⟩, hS.F ht⟩) hS.2.2 dX0_head_10
def q_X0_letWaterFlow (D : St) (Q : St → Prop) : Prop :=
  q_X0_head D (fun r_1 => ∃ (I_3 : Nat → Int32 → St → Prop) (n_7 : Nat), I_3 n_7 0 (uA (uA D 15 (fun _ => ((D 15 0) + (D 16 0)))) 17 (fun _ => ((D 17 0) + (D 16 0)))) ∧ ∀ (n_2 : Nat) (x2_4 : Int32) (D_5 : St), I_3 n_2 x2_4 D_5 → (q_X1_size D_5 (fun r_11 => (r_11 ≤ x2_4 → ((D_5 15 0) ≤ 9999 → Q D_5) ∧ (¬ ((D_5 15 0) ≤ 9999) → Q (uA (uA D_5 19 (fun _ => ((D_5 19 0) + ((D_5 15 0) - 9999)))) 15 (fun _ => 9999)))) ∧ (¬ (r_11 ≤ x2_4) → (8 ≤ x2_4 → ((D_5 15 0) ≤ 9999 → Q D_5) ∧ (¬ ((D_5 15 0) ≤ 9999) → Q (uA (uA D_5 19 (fun _ => ((D_5 19 0) + ((D_5 15 0) - 9999)))) 15 (fun _ => 9999)))) ∧ (¬ (8 ≤ x2_4) → q_X1_flow x2_4 r_1 D_5 (fun r_16 => q_X1_letOut x2_4 (if (D_5 15 0) < r_16 then (D_5 15 0) else r_16) D_5 (fun u_17 => ∃ n_18, n_18 < n_2 ∧ I_3 n_18 (x2_4 + 1) (uA (uA (mgG D_5 u_17) 15 (fun _ => ((D_5 15 0) - (if (D_5 15 0) < r_16 then (D_5 15 0) else r_16)))) 18 (fun _ => ((D_5 18 0) + (if (D_5 15 0) < r_16 then (D_5 15 0) else r_16)))))))))))
set_option maxHeartbeats 4000000 in
set_option maxRecDepth 100000 in
theorem c_X0_letWaterFlow (l : Launch) (G : va_G) (cI cC cD : ClassId) (q : Nat → Nat) (sz : Nat) (D : St)  (Q : St → Prop) (h : q_X0_letWaterFlow  D Q) : Met l yX0_letWaterFlow wsX0_letWaterFlow ({ frames := 2, cells := 0, slots := 0, locals := 44 }) (va_Pc [.ref (q 0)] (PW G (ty3 cI cC cD) (wD cI q D) sz)) (va_Qv Q (BW G (fun u : St => (wD cI q u)) (va_A (wD cI q D) sz)) (va_A (wD cI q D) sz)) 0 0 (va_A (wD cI q D) sz) := by
  refine Met.ofW (cc := cX0_letWaterFlow) (maxL := 4) (ret := none) (by decide) rfl ?_
  intro p e s m args below meth c s₁ B hml hv
  obtain ⟨rfl, hsz, hP, hK, hD0, hN⟩ := hv
  have hx := B.exec
  have hb := B.bytes
  have hr := B.returns
  have hts := atoms_spec (ws := wsX0_letWaterFlow) B.pre
  have hown : s.vm.findClass RX0 = some m.cls := findClass_of_methodNamed B.named
  have hlocks := B.notSynchronized
  subst hsz
  have hD := hD0.self (sz := s.heap.size)
  generalize hAe : va_A (wD cI q D) s.heap.size = A at hD ⊢
  have hA : ∀ q : Nat, s.heap.size ≤ q → A q := fun q h => by rw [← hAe]; exact Or.inr h
  have hS : va_S A s.heap s.heap [] := va_S.rf
  have hl := lv_entry ([.ref (q 0)]) (n := 4) (Nat.le_of_ble_eq_true rfl)
  rw [lg_entry_eq]
  generalize (lg_sl ([.ref (q 0)]) ++ List.replicate (4 - (lg_sl ([.ref (q 0)])).length) Slot.unset).toArray = ls at hl ⊢
  have hl : lv_has ls 4 [(0, .ref (q 0))] := hl
  have hinX0 : ∀ w ∈ wsX00, w ∈ wsX0_letWaterFlow := by decide +kernel
  have hL12 := hts (.fieldLink RX0 12 "CraneGates$Dam" "gates" "LCraneGates$Gates;") (by decide +kernel)
  have hL34 := hts (.fieldLink RX0 34 "CraneGates$Dam" "water" "I") (by decide +kernel)
  have hL54 := hts (.fieldLink RX0 54 "CraneGates$Dam" "inflow" "I") (by decide +kernel)
  have hL57 := hts (.fieldLink RX0 57 "CraneGates$Dam" "waterIn" "I") (by decide +kernel)
  have hL60 := hts (.fieldLink RX0 60 "CraneGates$Dam" "waterOut" "I") (by decide +kernel)
  have hL63 := hts (.fieldLink RX0 63 "CraneGates$Dam" "waterOver" "I") (by decide +kernel)
  unfold q_X0_letWaterFlow at h
  refine lv_aload_n hx hb dX0_letWaterFlow_0 rfl (lv_at hl 0 rfl) ?_
  refine kc_i (As := []) (rest := []) (wg := (fun _ => (wD cI q D))) ⟨hx, hb, hml, hown, hts⟩ (c_X0_head l G cI cC cD q _ D  _ h) (cwV 0 hts gX0_letWaterFlow_X0_head rfl rfl rfl (by decide +kernel) ⟨Nat.le_of_ble_eq_true rfl, Nat.le_of_ble_eq_true rfl⟩) hK hN hP hD hS hA (em_DD cI q D) (fun _ => rp_self (em_DD cI q D)) rfl rfl rfl rfl hl.1 rfl (Nat.le_of_ble_eq_true rfl) dX0_letWaterFlow_1 ⟨Nat.zero_le _, Nat.zero_le _⟩ (fun r_1 _ H locs h hP hD hS => ?_)
  refine lv_istore_n (lv' := [(1, .int r_1), (0, .ref (q 0))]) hx hb dX0_letWaterFlow_4 rfl hl (by decide) rfl (fun ls hl => ?_)
  refine lv_aload_n hx hb dX0_letWaterFlow_5 rfl (lv_at hl 1 rfl) ?_
  refine lv_dup hx hb dX0_letWaterFlow_6 rfl ?_
  refine va_get (D := G) (ci := 0) (v := .int (D 15 0)) (C := RX0) (T := TX0) (N := 18) hx hb hts hinX0 hown hK hP 0 rfl rfl 4 (by decide) hL34 (fun _ h9 => h9) rfl dX0_letWaterFlow_7 ?_
  refine lv_aload_n hx hb dX0_letWaterFlow_10 rfl (lv_at hl 1 rfl) ?_
  refine va_get (D := G) (ci := 0) (v := .int (D 16 0)) (C := RX0) (T := TX0) (N := 18) hx hb hts hinX0 hown hK hP 0 rfl rfl 5 (by decide) hL54 (fun _ h9 => h9) rfl dX0_letWaterFlow_11 ?_
  refine lv_iadd hx hb dX0_letWaterFlow_14 ?_
  refine va_put (D := G) (ci := 0) (v := .int ((D 15 0) + (D 16 0))) (ty := .int) (C := RX0) (T := TX0) (N := 18) hx hb hts hinX0 tyX0 tyX0_ok nmX0 hown hK hP hD hS 0 rfl rfl 4 (by decide) hL34 (fun _ h9 => h9) rfl (by decide +kernel) rfl rfl (Nat.le_of_ble_eq_true rfl) dX0_letWaterFlow_15 (fun H locs hP hD hS => ?_)
  have hP : va_P G vwCl (wD cI q (uA D 15 (fun _ => ((D 15 0) + (D 16 0))))) H := hP
  have hD : va_D A (wD cI q (uA D 15 (fun _ => ((D 15 0) + (D 16 0))))) := hD
  refine lv_aload_n hx hb dX0_letWaterFlow_18 rfl (lv_at hl 1 rfl) ?_
  refine lv_dup hx hb dX0_letWaterFlow_19 rfl ?_
  refine va_get (D := G) (ci := 0) (v := .int (D 17 0)) (C := RX0) (T := TX0) (N := 18) hx hb hts hinX0 hown hK hP 0 rfl rfl 6 (by decide) hL57 (fun _ h9 => h9) rfl dX0_letWaterFlow_20 ?_
  refine lv_aload_n hx hb dX0_letWaterFlow_23 rfl (lv_at hl 1 rfl) ?_
  refine va_get (D := G) (ci := 0) (v := .int (D 16 0)) (C := RX0) (T := TX0) (N := 18) hx hb hts hinX0 hown hK hP 0 rfl rfl 5 (by decide) hL54 (fun _ h9 => h9) rfl dX0_letWaterFlow_24 ?_
  refine lv_iadd hx hb dX0_letWaterFlow_27 ?_
  refine va_put (D := G) (ci := 0) (v := .int ((D 17 0) + (D 16 0))) (ty := .int) (C := RX0) (T := TX0) (N := 18) hx hb hts hinX0 tyX0 tyX0_ok nmX0 hown hK hP hD hS 0 rfl rfl 6 (by decide) hL57 (fun _ h9 => h9) rfl (by decide +kernel) rfl rfl (Nat.le_of_ble_eq_true rfl) dX0_letWaterFlow_28 (fun H locs hP hD hS => ?_)
  have hP : va_P G vwCl (wD cI q (uA (uA D 15 (fun _ => ((D 15 0) + (D 16 0)))) 17 (fun _ => ((D 17 0) + (D 16 0))))) H := hP
  have hD : va_D A (wD cI q (uA (uA D 15 (fun _ => ((D 15 0) + (D 16 0)))) 17 (fun _ => ((D 17 0) + (D 16 0))))) := hD
  refine lv_iconst (v := 0) hx hb dX0_letWaterFlow_31 (by decide) ?_
  refine lv_istore_n (lv' := [(2, .int 0), (1, .int r_1), (0, .ref (q 0))]) hx hb dX0_letWaterFlow_32 rfl hl (by decide) rfl (fun ls hl => ?_)
  obtain ⟨I_3, n_7, h_8, hI_9⟩ := h
  have lp_10 : ∀ (n_2 : Nat) (x2_4 : Int32) (D_5 : St), I_3 n_2 x2_4 D_5 → ∀ (H : Heap) (locs : List Loc) (ls : Array Slot), va_P G vwCl (wD cI q D_5) H → va_D A (wD cI q D_5) → va_S A s.heap H locs → lv_has ls 4 [(2, .int x2_4), (1, .int r_1), (0, .ref (q 0))] → W p l e (headSpec wsX0_letWaterFlow ({ frames := 2, cells := 0, slots := 0, locals := 44 })).room s m ([.ref (q 0)] : List Value).toArray below meth c H locs 0 0 (MQ below (va_Qv Q (BW G (fun u : St => (wD cI q u)) A) A) ([.ref (q 0)] : List Value).toArray s 0 0 A) (F0 m 33 ls []) := by
    intro n_2
    induction n_2 using Nat.strongRecOn with
    | ind n_2 ih_6 =>
      intro x2_4 D_5 hIn H locs ls hP hD hS hl
      have h := hI_9 n_2 x2_4 D_5 hIn
      refine lv_iload_n hx hb dX0_letWaterFlow_33 rfl (lv_at hl 0 rfl) ?_
      refine lv_aload_n hx hb dX0_letWaterFlow_34 rfl (lv_at hl 2 rfl) ?_
      refine va_get (D := G) (ci := 0) (v := .ref (q 1)) (C := RX0) (T := TX0) (N := 18) hx hb hts hinX0 hown hK hP 0 rfl rfl 0 (by decide) hL12 (fun _ h9 => h9) rfl dX0_letWaterFlow_35 ?_
      refine kc_i (As := []) (rest := [.int x2_4]) (wg := (fun _ => (wD cI q D_5))) ⟨hx, hb, hml, hown, hts⟩ (c_X1_size l G cI cC cD (q 1) (q 2) (q 3) (q 4) (q 5) (q 6) _ D_5  _ h) (cwV 0 hts gX0_letWaterFlow_X1_size rfl rfl rfl (by decide +kernel) ⟨Nat.le_of_ble_eq_true rfl, Nat.le_of_ble_eq_true rfl⟩) hK hN hP hD hS hA (em_DG cI q D_5) (fun _ => rp_self (em_DG cI q D_5)) rfl rfl rfl rfl hl.1 rfl (Nat.le_of_ble_eq_true rfl) dX0_letWaterFlow_38 ⟨Nat.zero_le _, Nat.zero_le _⟩ (fun r_11 _ H locs h hP hD hS => ?_)
      refine lv_icmp_ge (tgt := 102) hx hb dX0_letWaterFlow_41 (by decide) (fun c_12 => ?_) (fun c_12 => ?_)
      · have h := h.1 c_12
        refine lv_aload_n hx hb dX0_letWaterFlow_102 rfl (lv_at hl 2 rfl) ?_
        refine va_get (D := G) (ci := 0) (v := .int (D_5 15 0)) (C := RX0) (T := TX0) (N := 18) hx hb hts hinX0 hown hK hP 0 rfl rfl 4 (by decide) hL34 (fun _ h9 => h9) rfl dX0_letWaterFlow_103 ?_
        refine lv_sipush (v := 9999) hx hb dX0_letWaterFlow_106 (by decide) ?_
        refine lv_icmp_le (tgt := 136) hx hb dX0_letWaterFlow_109 (by decide) (fun c_13 => ?_) (fun c_13 => ?_)
        · have h := h.1 c_13
          exact W.vret hx hb hr (fun t ht hW => ⟨⟨D_5, rfl, h, by rw [ht]; exact hP, hD⟩, hS.F ht⟩) hS.2.2 dX0_letWaterFlow_136
        · have h := h.2 c_13
          refine lv_aload_n hx hb dX0_letWaterFlow_112 rfl (lv_at hl 2 rfl) ?_
          refine lv_dup hx hb dX0_letWaterFlow_113 rfl ?_
          refine va_get (D := G) (ci := 0) (v := .int (D_5 19 0)) (C := RX0) (T := TX0) (N := 18) hx hb hts hinX0 hown hK hP 0 rfl rfl 8 (by decide) hL63 (fun _ h9 => h9) rfl dX0_letWaterFlow_114 ?_
          refine lv_aload_n hx hb dX0_letWaterFlow_117 rfl (lv_at hl 2 rfl) ?_
          refine va_get (D := G) (ci := 0) (v := .int (D_5 15 0)) (C := RX0) (T := TX0) (N := 18) hx hb hts hinX0 hown hK hP 0 rfl rfl 4 (by decide) hL34 (fun _ h9 => h9) rfl dX0_letWaterFlow_118 ?_
          refine lv_sipush (v := 9999) hx hb dX0_letWaterFlow_121 (by decide) ?_
          refine lv_isub hx hb dX0_letWaterFlow_124 ?_
          refine lv_iadd hx hb dX0_letWaterFlow_125 ?_
          refine va_put (D := G) (ci := 0) (v := .int ((D_5 19 0) + ((D_5 15 0) - 9999))) (ty := .int) (C := RX0) (T := TX0) (N := 18) hx hb hts hinX0 tyX0 tyX0_ok nmX0 hown hK hP hD hS 0 rfl rfl 8 (by decide) hL63 (fun _ h9 => h9) rfl (by decide +kernel) rfl rfl (Nat.le_of_ble_eq_true rfl) dX0_letWaterFlow_126 (fun H locs hP hD hS => ?_)
          have hP : va_P G vwCl (wD cI q (uA D_5 19 (fun _ => ((D_5 19 0) + ((D_5 15 0) - 9999))))) H := hP
          have hD : va_D A (wD cI q (uA D_5 19 (fun _ => ((D_5 19 0) + ((D_5 15 0) - 9999))))) := hD
          refine lv_aload_n hx hb dX0_letWaterFlow_129 rfl (lv_at hl 2 rfl) ?_
          refine lv_sipush (v := 9999) hx hb dX0_letWaterFlow_130 (by decide) ?_
          refine va_put (D := G) (ci := 0) (v := .int 9999) (ty := .int) (C := RX0) (T := TX0) (N := 18) hx hb hts hinX0 tyX0 tyX0_ok nmX0 hown hK hP hD hS 0 rfl rfl 4 (by decide) hL34 (fun _ h9 => h9) rfl (by decide +kernel) rfl rfl (Nat.le_of_ble_eq_true rfl) dX0_letWaterFlow_133 (fun H locs hP hD hS => ?_)
          have hP : va_P G vwCl (wD cI q (uA (uA D_5 19 (fun _ => ((D_5 19 0) + ((D_5 15 0) - 9999)))) 15 (fun _ => 9999))) H := hP
          have hD : va_D A (wD cI q (uA (uA D_5 19 (fun _ => ((D_5 19 0) + ((D_5 15 0) - 9999)))) 15 (fun _ => 9999))) := hD
          exact W.vret hx hb hr (fun t ht hW => ⟨⟨(uA (uA D_5 19 (fun _ => ((D_5 19 0) + ((D_5 15 0) - 9999)))) 15 (fun _ => 9999)), rfl, h, by rw [ht]; exact hP, hD⟩, hS.F ht⟩) hS.2.2 dX0_letWaterFlow_136
      · have h := h.2 c_12
        refine lv_iload_n hx hb dX0_letWaterFlow_44 rfl (lv_at hl 0 rfl) ?_
        refine lv_bipush (v := 8) hx hb dX0_letWaterFlow_45 (by decide) ?_
        refine lv_icmp_ge (tgt := 102) hx hb dX0_letWaterFlow_47 (by decide) (fun c_14 => ?_) (fun c_14 => ?_)
        · have h := h.1 c_14
          refine lv_aload_n hx hb dX0_letWaterFlow_102 rfl (lv_at hl 2 rfl) ?_
          refine va_get (D := G) (ci := 0) (v := .int (D_5 15 0)) (C := RX0) (T := TX0) (N := 18) hx hb hts hinX0 hown hK hP 0 rfl rfl 4 (by decide) hL34 (fun _ h9 => h9) rfl dX0_letWaterFlow_103 ?_
          refine lv_sipush (v := 9999) hx hb dX0_letWaterFlow_106 (by decide) ?_
          refine lv_icmp_le (tgt := 136) hx hb dX0_letWaterFlow_109 (by decide) (fun c_15 => ?_) (fun c_15 => ?_)
          · have h := h.1 c_15
            exact W.vret hx hb hr (fun t ht hW => ⟨⟨D_5, rfl, h, by rw [ht]; exact hP, hD⟩, hS.F ht⟩) hS.2.2 dX0_letWaterFlow_136
          · have h := h.2 c_15
            refine lv_aload_n hx hb dX0_letWaterFlow_112 rfl (lv_at hl 2 rfl) ?_
            refine lv_dup hx hb dX0_letWaterFlow_113 rfl ?_
            refine va_get (D := G) (ci := 0) (v := .int (D_5 19 0)) (C := RX0) (T := TX0) (N := 18) hx hb hts hinX0 hown hK hP 0 rfl rfl 8 (by decide) hL63 (fun _ h9 => h9) rfl dX0_letWaterFlow_114 ?_
            refine lv_aload_n hx hb dX0_letWaterFlow_117 rfl (lv_at hl 2 rfl) ?_
            refine va_get (D := G) (ci := 0) (v := .int (D_5 15 0)) (C := RX0) (T := TX0) (N := 18) hx hb hts hinX0 hown hK hP 0 rfl rfl 4 (by decide) hL34 (fun _ h9 => h9) rfl dX0_letWaterFlow_118 ?_
            refine lv_sipush (v := 9999) hx hb dX0_letWaterFlow_121 (by decide) ?_
            refine lv_isub hx hb dX0_letWaterFlow_124 ?_
            refine lv_iadd hx hb dX0_letWaterFlow_125 ?_
            refine va_put (D := G) (ci := 0) (v := .int ((D_5 19 0) + ((D_5 15 0) - 9999))) (ty := .int) (C := RX0) (T := TX0) (N := 18) hx hb hts hinX0 tyX0 tyX0_ok nmX0 hown hK hP hD hS 0 rfl rfl 8 (by decide) hL63 (fun _ h9 => h9) rfl (by decide +kernel) rfl rfl (Nat.le_of_ble_eq_true rfl) dX0_letWaterFlow_126 (fun H locs hP hD hS => ?_)
            have hP : va_P G vwCl (wD cI q (uA D_5 19 (fun _ => ((D_5 19 0) + ((D_5 15 0) - 9999))))) H := hP
            have hD : va_D A (wD cI q (uA D_5 19 (fun _ => ((D_5 19 0) + ((D_5 15 0) - 9999))))) := hD
            refine lv_aload_n hx hb dX0_letWaterFlow_129 rfl (lv_at hl 2 rfl) ?_
            refine lv_sipush (v := 9999) hx hb dX0_letWaterFlow_130 (by decide) ?_
            refine va_put (D := G) (ci := 0) (v := .int 9999) (ty := .int) (C := RX0) (T := TX0) (N := 18) hx hb hts hinX0 tyX0 tyX0_ok nmX0 hown hK hP hD hS 0 rfl rfl 4 (by decide) hL34 (fun _ h9 => h9) rfl (by decide +kernel) rfl rfl (Nat.le_of_ble_eq_true rfl) dX0_letWaterFlow_133 (fun H locs hP hD hS => ?_)
            have hP : va_P G vwCl (wD cI q (uA (uA D_5 19 (fun _ => ((D_5 19 0) + ((D_5 15 0) - 9999)))) 15 (fun _ => 9999))) H := hP
            have hD : va_D A (wD cI q (uA (uA D_5 19 (fun _ => ((D_5 19 0) + ((D_5 15 0) - 9999)))) 15 (fun _ => 9999))) := hD
            exact W.vret hx hb hr (fun t ht hW => ⟨⟨(uA (uA D_5 19 (fun _ => ((D_5 19 0) + ((D_5 15 0) - 9999)))) 15 (fun _ => 9999)), rfl, h, by rw [ht]; exact hP, hD⟩, hS.F ht⟩) hS.2.2 dX0_letWaterFlow_136
        · have h := h.2 c_14
          refine lv_aload_n hx hb dX0_letWaterFlow_50 rfl (lv_at hl 2 rfl) ?_
          refine va_get (D := G) (ci := 0) (v := .ref (q 1)) (C := RX0) (T := TX0) (N := 18) hx hb hts hinX0 hown hK hP 0 rfl rfl 0 (by decide) hL12 (fun _ h9 => h9) rfl dX0_letWaterFlow_51 ?_
          refine lv_iload_n hx hb dX0_letWaterFlow_54 rfl (lv_at hl 0 rfl) ?_
          refine lv_iload_n hx hb dX0_letWaterFlow_55 rfl (lv_at hl 1 rfl) ?_
          refine kc_i (As := [.int x2_4, .int r_1]) (rest := []) (wg := (fun _ => (wD cI q D_5))) ⟨hx, hb, hml, hown, hts⟩ (c_X1_flow l G cI cC cD (q 1) (q 2) (q 3) (q 4) (q 5) (q 6) _ D_5 x2_4 r_1 _ h) (cwV 2 hts gX0_letWaterFlow_X1_flow rfl rfl rfl (by decide +kernel) ⟨Nat.le_of_ble_eq_true rfl, Nat.le_of_ble_eq_true rfl⟩) hK hN hP hD hS hA (em_DG cI q D_5) (fun _ => rp_self (em_DG cI q D_5)) rfl rfl rfl rfl hl.1 rfl (Nat.le_of_ble_eq_true rfl) dX0_letWaterFlow_56 ⟨Nat.zero_le _, Nat.zero_le _⟩ (fun r_16 _ H locs h hP hD hS => ?_)
          refine lv_aload_n hx hb dX0_letWaterFlow_59 rfl (lv_at hl 2 rfl) ?_
          refine va_get (D := G) (ci := 0) (v := .int (D_5 15 0)) (C := RX0) (T := TX0) (N := 18) hx hb hts hinX0 hown hK hP 0 rfl rfl 4 (by decide) hL34 (fun _ h9 => h9) rfl dX0_letWaterFlow_60 ?_
          refine va_mmin hx hb (hl.1 ▸ hml) hown (hts (.methodLink RX0 189 Lib.Math.min.name) (by decide +kernel)) (hts (.static Lib.Math.min.name) (by decide +kernel)) (hts (.initialized "java/lang/Math") (by decide +kernel)) (hts (.code Lib.Math.min.name Lib.Math.min.code 2 (some .int)) (by decide +kernel)) (Nat.le_of_ble_eq_true rfl) (Nat.le_of_ble_eq_true rfl) (Nat.zero_le _) (Nat.zero_le _) dX0_letWaterFlow_63 ?_
          refine lv_istore_n (lv' := [(3, .int (if (D_5 15 0) < r_16 then (D_5 15 0) else r_16)), (2, .int x2_4), (1, .int r_1), (0, .ref (q 0))]) hx hb dX0_letWaterFlow_66 rfl hl (by decide) rfl (fun ls hl => ?_)
          refine lv_aload_n hx hb dX0_letWaterFlow_67 rfl (lv_at hl 3 rfl) ?_
          refine va_get (D := G) (ci := 0) (v := .ref (q 1)) (C := RX0) (T := TX0) (N := 18) hx hb hts hinX0 hown hK hP 0 rfl rfl 0 (by decide) hL12 (fun _ h9 => h9) rfl dX0_letWaterFlow_68 ?_
          refine lv_iload_n hx hb dX0_letWaterFlow_71 rfl (lv_at hl 1 rfl) ?_
          refine lv_iload_n hx hb dX0_letWaterFlow_72 rfl (lv_at hl 0 rfl) ?_
          refine kc_v (As := [.int x2_4, .int (if (D_5 15 0) < r_16 then (D_5 15 0) else r_16)]) (rest := []) (wg := (fun u => (wD cI q (mgG D_5 u)))) ⟨hx, hb, hml, hown, hts⟩ (c_X1_letOut l G cI cC cD (q 1) (q 2) (q 3) (q 4) (q 5) (q 6) _ D_5 x2_4 (if (D_5 15 0) < r_16 then (D_5 15 0) else r_16) _ h) (cwV 2 hts gX0_letWaterFlow_X1_letOut rfl rfl rfl (by decide +kernel) ⟨Nat.le_of_ble_eq_true rfl, Nat.le_of_ble_eq_true rfl⟩) hK hN hP hD hS hA (em_DG cI q D_5) (fun u => rp_DG cI q D_5 u) rfl rfl rfl rfl hl.1 rfl (Nat.le_of_ble_eq_true rfl) dX0_letWaterFlow_73 ⟨Nat.zero_le _, Nat.zero_le _⟩ (fun u_17 H locs h hP hD hS => ?_)
          refine lv_aload_n hx hb dX0_letWaterFlow_76 rfl (lv_at hl 3 rfl) ?_
          refine lv_dup hx hb dX0_letWaterFlow_77 rfl ?_
          refine va_get (D := G) (ci := 0) (v := .int (D_5 15 0)) (C := RX0) (T := TX0) (N := 18) hx hb hts hinX0 hown hK hP 0 rfl rfl 4 (by decide) hL34 (fun _ h9 => h9) rfl dX0_letWaterFlow_78 ?_
          refine lv_iload_n hx hb dX0_letWaterFlow_81 rfl (lv_at hl 0 rfl) ?_
          refine lv_isub hx hb dX0_letWaterFlow_82 ?_
          refine va_put (D := G) (ci := 0) (v := .int ((D_5 15 0) - (if (D_5 15 0) < r_16 then (D_5 15 0) else r_16))) (ty := .int) (C := RX0) (T := TX0) (N := 18) hx hb hts hinX0 tyX0 tyX0_ok nmX0 hown hK hP hD hS 0 rfl rfl 4 (by decide) hL34 (fun _ h9 => h9) rfl (by decide +kernel) rfl rfl (Nat.le_of_ble_eq_true rfl) dX0_letWaterFlow_83 (fun H locs hP hD hS => ?_)
          have hP : va_P G vwCl (wD cI q (uA (mgG D_5 u_17) 15 (fun _ => ((D_5 15 0) - (if (D_5 15 0) < r_16 then (D_5 15 0) else r_16))))) H := hP
          have hD : va_D A (wD cI q (uA (mgG D_5 u_17) 15 (fun _ => ((D_5 15 0) - (if (D_5 15 0) < r_16 then (D_5 15 0) else r_16))))) := hD
          refine lv_aload_n hx hb dX0_letWaterFlow_86 rfl (lv_at hl 3 rfl) ?_
          refine lv_dup hx hb dX0_letWaterFlow_87 rfl ?_
          refine va_get (D := G) (ci := 0) (v := .int (D_5 18 0)) (C := RX0) (T := TX0) (N := 18) hx hb hts hinX0 hown hK hP 0 rfl rfl 7 (by decide) hL60 (fun _ h9 => h9) rfl dX0_letWaterFlow_88 ?_
          refine lv_iload_n hx hb dX0_letWaterFlow_91 rfl (lv_at hl 0 rfl) ?_
          refine lv_iadd hx hb dX0_letWaterFlow_92 ?_
          refine va_put (D := G) (ci := 0) (v := .int ((D_5 18 0) + (if (D_5 15 0) < r_16 then (D_5 15 0) else r_16))) (ty := .int) (C := RX0) (T := TX0) (N := 18) hx hb hts hinX0 tyX0 tyX0_ok nmX0 hown hK hP hD hS 0 rfl rfl 7 (by decide) hL60 (fun _ h9 => h9) rfl (by decide +kernel) rfl rfl (Nat.le_of_ble_eq_true rfl) dX0_letWaterFlow_93 (fun H locs hP hD hS => ?_)
          have hP : va_P G vwCl (wD cI q (uA (uA (mgG D_5 u_17) 15 (fun _ => ((D_5 15 0) - (if (D_5 15 0) < r_16 then (D_5 15 0) else r_16)))) 18 (fun _ => ((D_5 18 0) + (if (D_5 15 0) < r_16 then (D_5 15 0) else r_16))))) H := hP
          have hD : va_D A (wD cI q (uA (uA (mgG D_5 u_17) 15 (fun _ => ((D_5 15 0) - (if (D_5 15 0) < r_16 then (D_5 15 0) else r_16)))) 18 (fun _ => ((D_5 18 0) + (if (D_5 15 0) < r_16 then (D_5 15 0) else r_16))))) := hD
          refine lv_iinc (v := x2_4 + 1) (lv' := [(2, .int (x2_4 + 1)), (3, .int (if (D_5 15 0) < r_16 then (D_5 15 0) else r_16)), (1, .int r_1), (0, .ref (q 0))]) hx hb dX0_letWaterFlow_96 hl (k := 1) rfl rfl (by decide) rfl (fun ls hl => ?_)
          refine lv_goto (tgt := 33) hx hb dX0_letWaterFlow_99 (by decide) ?_
          obtain ⟨n_18, lt_19, h_20⟩ := h
          exact ih_6 n_18 lt_19 _ _ h_20 _ _ _ hP hD hS (lv_sub hl [0, 2, 3] rfl)
  exact lp_10 _ _ _ h_8 _ _ _ hP hD hS hl
def q_X0_letPass (x : Int32) (D : St) (Q : St → Prop) : Prop :=
  ∃ (I_2 : Nat → Int32 → St → Prop) (n_6 : Nat), I_2 n_6 0 D ∧ ∀ (n_1 : Nat) (x2_3 : Int32) (D_4 : St), I_2 n_1 x2_3 D_4 → ((x ≤ x2_3 → Q D_4) ∧ (¬ (x ≤ x2_3) → q_X0_beginOrEndFlood D_4 (fun u_11 => q_X0_takeTask u_11 (fun u_12 => q_X0_work u_12 (fun u_13 => q_X0_letWaterFlow u_13 (fun u_14 => ∃ n_15, n_15 < n_1 ∧ I_2 n_15 (x2_3 + 1) (uA u_14 20 (fun _ => ((u_14 20 0) + 1)))))))))
set_option maxHeartbeats 4000000 in
set_option maxRecDepth 100000 in
theorem c_X0_letPass (l : Launch) (G : va_G) (cI cC cD : ClassId) (q : Nat → Nat) (sz : Nat) (D : St) (x : Int32) (Q : St → Prop) (h : q_X0_letPass x D Q) : Met l yX0_letPass wsX0_letPass ({ frames := 3, cells := 0, slots := 0, locals := 67 }) (va_Pc [.ref (q 0), .int x] (PW G (ty3 cI cC cD) (wD cI q D) sz)) (va_Qv Q (BW G (fun u : St => (wD cI q u)) (va_A (wD cI q D) sz)) (va_A (wD cI q D) sz)) 0 0 (va_A (wD cI q D) sz) := by
  refine Met.ofW (cc := cX0_letPass) (maxL := 3) (ret := none) (by decide) rfl ?_
  intro p e s m args below meth c s₁ B hml hv
  obtain ⟨rfl, hsz, hP, hK, hD0, hN⟩ := hv
  have hx := B.exec
  have hb := B.bytes
  have hr := B.returns
  have hts := atoms_spec (ws := wsX0_letPass) B.pre
  have hown : s.vm.findClass RX0 = some m.cls := findClass_of_methodNamed B.named
  have hlocks := B.notSynchronized
  subst hsz
  have hD := hD0.self (sz := s.heap.size)
  generalize hAe : va_A (wD cI q D) s.heap.size = A at hD ⊢
  have hA : ∀ q : Nat, s.heap.size ≤ q → A q := fun q h => by rw [← hAe]; exact Or.inr h
  have hS : va_S A s.heap s.heap [] := va_S.rf
  have hl := lv_entry ([.ref (q 0), .int x]) (n := 3) (Nat.le_of_ble_eq_true rfl)
  rw [lg_entry_eq]
  generalize (lg_sl ([.ref (q 0), .int x]) ++ List.replicate (3 - (lg_sl ([.ref (q 0), .int x])).length) Slot.unset).toArray = ls at hl ⊢
  have hl : lv_has ls 3 [(0, .ref (q 0)), (1, .int x)] := hl
  have hinX0 : ∀ w ∈ wsX00, w ∈ wsX0_letPass := by decide +kernel
  have hL66 := hts (.fieldLink RX0 66 "CraneGates$Dam" "minutesSoFar" "I") (by decide +kernel)
  unfold q_X0_letPass at h
  refine lv_iconst (v := 0) hx hb dX0_letPass_0 (by decide) ?_
  refine lv_istore_n (lv' := [(2, .int 0), (0, .ref (q 0)), (1, .int x)]) hx hb dX0_letPass_1 rfl hl (by decide) rfl (fun ls hl => ?_)
  obtain ⟨I_2, n_6, h_7, hI_8⟩ := h
  have lp_9 : ∀ (n_1 : Nat) (x2_3 : Int32) (D_4 : St), I_2 n_1 x2_3 D_4 → ∀ (H : Heap) (locs : List Loc) (ls : Array Slot), va_P G vwCl (wD cI q D_4) H → va_D A (wD cI q D_4) → va_S A s.heap H locs → lv_has ls 3 [(2, .int x2_3), (0, .ref (q 0)), (1, .int x)] → W p l e (headSpec wsX0_letPass ({ frames := 3, cells := 0, slots := 0, locals := 67 })).room s m ([.ref (q 0), .int x] : List Value).toArray below meth c H locs 0 0 (MQ below (va_Qv Q (BW G (fun u : St => (wD cI q u)) A) A) ([.ref (q 0), .int x] : List Value).toArray s 0 0 A) (F0 m 2 ls []) := by
    intro n_1
    induction n_1 using Nat.strongRecOn with
    | ind n_1 ih_5 =>
      intro x2_3 D_4 hIn H locs ls hP hD hS hl
      have h := hI_8 n_1 x2_3 D_4 hIn
      refine lv_iload_n hx hb dX0_letPass_2 rfl (lv_at hl 0 rfl) ?_
      refine lv_iload_n hx hb dX0_letPass_3 rfl (lv_at hl 2 rfl) ?_
      refine lv_icmp_ge (tgt := 39) hx hb dX0_letPass_4 (by decide) (fun c_10 => ?_) (fun c_10 => ?_)
      · have h := h.1 c_10
        exact W.vret hx hb hr (fun t ht hW => ⟨⟨D_4, rfl, h, by rw [ht]; exact hP, hD⟩, hS.F ht⟩) hS.2.2 dX0_letPass_39
      · have h := h.2 c_10
        refine lv_aload_n hx hb dX0_letPass_7 rfl (lv_at hl 1 rfl) ?_
        refine kc_v (As := []) (rest := []) (wg := (fun u => (wD cI q u))) ⟨hx, hb, hml, hown, hts⟩ (c_X0_beginOrEndFlood l G cI cC cD q _ D_4  _ h) (cwV 0 hts gX0_letPass_X0_beginOrEndFlood rfl rfl rfl (by decide +kernel) ⟨Nat.le_of_ble_eq_true rfl, Nat.le_of_ble_eq_true rfl⟩) hK hN hP hD hS hA (em_DD cI q D_4) (fun u => rp_DD cI q D_4 u) rfl rfl rfl rfl hl.1 rfl (Nat.le_of_ble_eq_true rfl) dX0_letPass_8 ⟨Nat.zero_le _, Nat.zero_le _⟩ (fun u_11 H locs h hP hD hS => ?_)
        refine lv_aload_n hx hb dX0_letPass_11 rfl (lv_at hl 1 rfl) ?_
        refine kc_v (As := []) (rest := []) (wg := (fun u => (wD cI q u))) ⟨hx, hb, hml, hown, hts⟩ (c_X0_takeTask l G cI cC cD q _ u_11  _ h) (cwV 0 hts gX0_letPass_X0_takeTask rfl rfl rfl (by decide +kernel) ⟨Nat.le_of_ble_eq_true rfl, Nat.le_of_ble_eq_true rfl⟩) hK hN hP hD hS hA (em_DD cI q u_11) (fun u => rp_DD cI q u_11 u) rfl rfl rfl rfl hl.1 rfl (Nat.le_of_ble_eq_true rfl) dX0_letPass_12 ⟨Nat.zero_le _, Nat.zero_le _⟩ (fun u_12 H locs h hP hD hS => ?_)
        refine lv_aload_n hx hb dX0_letPass_15 rfl (lv_at hl 1 rfl) ?_
        refine kc_v (As := []) (rest := []) (wg := (fun u => (wD cI q u))) ⟨hx, hb, hml, hown, hts⟩ (c_X0_work l G cI cC cD q _ u_12  _ h) (cwV 0 hts gX0_letPass_X0_work rfl rfl rfl (by decide +kernel) ⟨Nat.le_of_ble_eq_true rfl, Nat.le_of_ble_eq_true rfl⟩) hK hN hP hD hS hA (em_DD cI q u_12) (fun u => rp_DD cI q u_12 u) rfl rfl rfl rfl hl.1 rfl (Nat.le_of_ble_eq_true rfl) dX0_letPass_16 ⟨Nat.zero_le _, Nat.zero_le _⟩ (fun u_13 H locs h hP hD hS => ?_)
        refine lv_aload_n hx hb dX0_letPass_19 rfl (lv_at hl 1 rfl) ?_
        refine kc_v (As := []) (rest := []) (wg := (fun u => (wD cI q u))) ⟨hx, hb, hml, hown, hts⟩ (c_X0_letWaterFlow l G cI cC cD q _ u_13  _ h) (cwV 0 hts gX0_letPass_X0_letWaterFlow rfl rfl rfl (by decide +kernel) ⟨Nat.le_of_ble_eq_true rfl, Nat.le_of_ble_eq_true rfl⟩) hK hN hP hD hS hA (em_DD cI q u_13) (fun u => rp_DD cI q u_13 u) rfl rfl rfl rfl hl.1 rfl (Nat.le_of_ble_eq_true rfl) dX0_letPass_20 ⟨Nat.zero_le _, Nat.zero_le _⟩ (fun u_14 H locs h hP hD hS => ?_)
        refine lv_aload_n hx hb dX0_letPass_23 rfl (lv_at hl 1 rfl) ?_
        refine lv_dup hx hb dX0_letPass_24 rfl ?_
        refine va_get (D := G) (ci := 0) (v := .int (u_14 20 0)) (C := RX0) (T := TX0) (N := 18) hx hb hts hinX0 hown hK hP 0 rfl rfl 9 (by decide) hL66 (fun _ h9 => h9) rfl dX0_letPass_25 ?_
        refine lv_iconst (v := 1) hx hb dX0_letPass_28 (by decide) ?_
        refine lv_iadd hx hb dX0_letPass_29 ?_
        refine va_put (D := G) (ci := 0) (v := .int ((u_14 20 0) + 1)) (ty := .int) (C := RX0) (T := TX0) (N := 18) hx hb hts hinX0 tyX0 tyX0_ok nmX0 hown hK hP hD hS 0 rfl rfl 9 (by decide) hL66 (fun _ h9 => h9) rfl (by decide +kernel) rfl rfl (Nat.le_of_ble_eq_true rfl) dX0_letPass_30 (fun H locs hP hD hS => ?_)
        have hP : va_P G vwCl (wD cI q (uA u_14 20 (fun _ => ((u_14 20 0) + 1)))) H := hP
        have hD : va_D A (wD cI q (uA u_14 20 (fun _ => ((u_14 20 0) + 1)))) := hD
        refine lv_iinc (v := x2_3 + 1) (lv' := [(2, .int (x2_3 + 1)), (0, .ref (q 0)), (1, .int x)]) hx hb dX0_letPass_33 hl (k := 0) rfl rfl (by decide) rfl (fun ls hl => ?_)
        refine lv_goto (tgt := 2) hx hb dX0_letPass_36 (by decide) ?_
        obtain ⟨n_15, lt_16, h_17⟩ := h
        exact ih_5 n_15 lt_16 _ _ h_17 _ _ _ hP hD hS (lv_sub hl [0, 1, 2] rfl)
  exact lp_9 _ _ _ h_7 _ _ _ hP hD hS hl
def q_X0_water (D : St) (Q : Int32 → Prop) : Prop :=
  Q (D 15 0)
set_option maxHeartbeats 4000000 in
set_option maxRecDepth 100000 in
theorem c_X0_water (l : Launch) (G : va_G) (cI cC cD : ClassId) (q : Nat → Nat) (sz : Nat) (D : St)  (Q : Int32 → Prop) (h : q_X0_water  D Q) : Met l yX0_water wsX0_water ({ frames := 0, cells := 0, slots := 0, locals := 0 }) (va_Pc [.ref (q 0)] (PW G (ty3 cI cC cD) (wD cI q D) sz)) (va_Qi (fun (r : Int32) (_ : Unit) => Q r) (BW G (fun _ : Unit => (wD cI q D)) (va_A (wD cI q D) sz)) (va_A (wD cI q D) sz)) 0 0 (va_A (wD cI q D) sz) := by
  refine Met.ofW (cc := cX0_water) (maxL := 1) (ret := (some .int)) (by decide) rfl ?_
  intro p e s m args below meth c s₁ B hml hv
  obtain ⟨rfl, hsz, hP, hK, hD0, hN⟩ := hv
  have hx := B.exec
  have hb := B.bytes
  have hr := B.returns
  have hts := atoms_spec (ws := wsX0_water) B.pre
  have hown : s.vm.findClass RX0 = some m.cls := findClass_of_methodNamed B.named
  have hlocks := B.notSynchronized
  subst hsz
  have hD := hD0.self (sz := s.heap.size)
  generalize hAe : va_A (wD cI q D) s.heap.size = A at hD ⊢
  have hA : ∀ q : Nat, s.heap.size ≤ q → A q := fun q h => by rw [← hAe]; exact Or.inr h
  have hS : va_S A s.heap s.heap [] := va_S.rf
  have hl := lv_entry ([.ref (q 0)]) (n := 1) (Nat.le_of_ble_eq_true rfl)
  rw [lg_entry_eq]
  generalize (lg_sl ([.ref (q 0)]) ++ List.replicate (1 - (lg_sl ([.ref (q 0)])).length) Slot.unset).toArray = ls at hl ⊢
  have hl : lv_has ls 1 [(0, .ref (q 0))] := hl
  have hinX0 : ∀ w ∈ wsX00, w ∈ wsX0_water := by decide +kernel
  have hL34 := hts (.fieldLink RX0 34 "CraneGates$Dam" "water" "I") (by decide +kernel)
  unfold q_X0_water at h
  refine lv_aload_n hx hb dX0_water_0 rfl (lv_at hl 0 rfl) ?_
  refine va_get (D := G) (ci := 0) (v := .int (D 15 0)) (C := RX0) (T := TX0) (N := 18) hx hb hts hinX0 hown hK hP 0 rfl rfl 4 (by decide) hL34 (fun _ h9 => h9) rfl dX0_water_1 ?_
  exact W.iret (v := (D 15 0)) hx hb hr (fun t ht hW => ⟨⟨(D 15 0), (), rfl, h, by rw [ht]; exact hP, hD⟩, hS.F ht⟩) hS.2.2 dX0_water_4
def q_X0_rule (D : St) (Q : Int32 → Prop) : Prop :=
  Q ((D 14) 2)
set_option maxHeartbeats 4000000 in
set_option maxRecDepth 100000 in
theorem c_X0_rule (l : Launch) (G : va_G) (cI cC cD : ClassId) (q : Nat → Nat) (sz : Nat) (D : St)  (Q : Int32 → Prop) (h : q_X0_rule  D Q) : Met l yX0_rule wsX0_rule ({ frames := 0, cells := 0, slots := 0, locals := 0 }) (va_Pc [.ref (q 0)] (PW G (ty3 cI cC cD) (wD cI q D) sz)) (va_Qi (fun (r : Int32) (_ : Unit) => Q r) (BW G (fun _ : Unit => (wD cI q D)) (va_A (wD cI q D) sz)) (va_A (wD cI q D) sz)) 0 0 (va_A (wD cI q D) sz) := by
  refine Met.ofW (cc := cX0_rule) (maxL := 1) (ret := (some .int)) (by decide) rfl ?_
  intro p e s m args below meth c s₁ B hml hv
  obtain ⟨rfl, hsz, hP, hK, hD0, hN⟩ := hv
  have hx := B.exec
  have hb := B.bytes
  have hr := B.returns
  have hts := atoms_spec (ws := wsX0_rule) B.pre
  have hown : s.vm.findClass RX0 = some m.cls := findClass_of_methodNamed B.named
  have hlocks := B.notSynchronized
  subst hsz
  have hD := hD0.self (sz := s.heap.size)
  generalize hAe : va_A (wD cI q D) s.heap.size = A at hD ⊢
  have hA : ∀ q : Nat, s.heap.size ≤ q → A q := fun q h => by rw [← hAe]; exact Or.inr h
  have hS : va_S A s.heap s.heap [] := va_S.rf
  have hl := lv_entry ([.ref (q 0)]) (n := 1) (Nat.le_of_ble_eq_true rfl)
  rw [lg_entry_eq]
  generalize (lg_sl ([.ref (q 0)]) ++ List.replicate (1 - (lg_sl ([.ref (q 0)])).length) Slot.unset).toArray = ls at hl ⊢
  have hl : lv_has ls 1 [(0, .ref (q 0))] := hl
  have hinX0 : ∀ w ∈ wsX00, w ∈ wsX0_rule := by decide +kernel
  have hL30 := hts (.fieldLink RX0 30 "CraneGates$Dam" "settings" "[I") (by decide +kernel)
  unfold q_X0_rule at h
  refine lv_aload_n hx hb dX0_rule_0 rfl (lv_at hl 0 rfl) ?_
  refine va_get (D := G) (ci := 0) (v := .ref (q 13)) (C := RX0) (T := TX0) (N := 18) hx hb hts hinX0 hown hK hP 0 rfl rfl 3 (by decide) hL30 (fun _ h9 => h9) rfl dX0_rule_1 ?_
  refine lv_iconst (v := 2) hx hb dX0_rule_4 (by decide) ?_
  refine k_ald (f := (D 14)) (j := 2) (v := ((D 14) 2)) hx hb hK hP 13 0 rfl rfl (show ¬ ((2 : Int32) < 0 ∨ 3 ≤ (2 : Int32).toNatClampNeg) by decide) rfl rfl dX0_rule_5 ?_
  exact W.iret (v := ((D 14) 2)) hx hb hr (fun t ht hW => ⟨⟨((D 14) 2), (), rfl, h, by rw [ht]; exact hP, hD⟩, hS.F ht⟩) hS.2.2 dX0_rule_6
def q_X0_floodLevel (D : St) (Q : Int32 → Prop) : Prop :=
  Q ((D 14) 0)
set_option maxHeartbeats 4000000 in
set_option maxRecDepth 100000 in
theorem c_X0_floodLevel (l : Launch) (G : va_G) (cI cC cD : ClassId) (q : Nat → Nat) (sz : Nat) (D : St)  (Q : Int32 → Prop) (h : q_X0_floodLevel  D Q) : Met l yX0_floodLevel wsX0_floodLevel ({ frames := 0, cells := 0, slots := 0, locals := 0 }) (va_Pc [.ref (q 0)] (PW G (ty3 cI cC cD) (wD cI q D) sz)) (va_Qi (fun (r : Int32) (_ : Unit) => Q r) (BW G (fun _ : Unit => (wD cI q D)) (va_A (wD cI q D) sz)) (va_A (wD cI q D) sz)) 0 0 (va_A (wD cI q D) sz) := by
  refine Met.ofW (cc := cX0_floodLevel) (maxL := 1) (ret := (some .int)) (by decide) rfl ?_
  intro p e s m args below meth c s₁ B hml hv
  obtain ⟨rfl, hsz, hP, hK, hD0, hN⟩ := hv
  have hx := B.exec
  have hb := B.bytes
  have hr := B.returns
  have hts := atoms_spec (ws := wsX0_floodLevel) B.pre
  have hown : s.vm.findClass RX0 = some m.cls := findClass_of_methodNamed B.named
  have hlocks := B.notSynchronized
  subst hsz
  have hD := hD0.self (sz := s.heap.size)
  generalize hAe : va_A (wD cI q D) s.heap.size = A at hD ⊢
  have hA : ∀ q : Nat, s.heap.size ≤ q → A q := fun q h => by rw [← hAe]; exact Or.inr h
  have hS : va_S A s.heap s.heap [] := va_S.rf
  have hl := lv_entry ([.ref (q 0)]) (n := 1) (Nat.le_of_ble_eq_true rfl)
  rw [lg_entry_eq]
  generalize (lg_sl ([.ref (q 0)]) ++ List.replicate (1 - (lg_sl ([.ref (q 0)])).length) Slot.unset).toArray = ls at hl ⊢
  have hl : lv_has ls 1 [(0, .ref (q 0))] := hl
  have hinX0 : ∀ w ∈ wsX00, w ∈ wsX0_floodLevel := by decide +kernel
  have hL30 := hts (.fieldLink RX0 30 "CraneGates$Dam" "settings" "[I") (by decide +kernel)
  unfold q_X0_floodLevel at h
  refine lv_aload_n hx hb dX0_floodLevel_0 rfl (lv_at hl 0 rfl) ?_
  refine va_get (D := G) (ci := 0) (v := .ref (q 13)) (C := RX0) (T := TX0) (N := 18) hx hb hts hinX0 hown hK hP 0 rfl rfl 3 (by decide) hL30 (fun _ h9 => h9) rfl dX0_floodLevel_1 ?_
  refine lv_iconst (v := 0) hx hb dX0_floodLevel_4 (by decide) ?_
  refine k_ald (f := (D 14)) (j := 0) (v := ((D 14) 0)) hx hb hK hP 13 0 rfl rfl (show ¬ ((0 : Int32) < 0 ∨ 3 ≤ (0 : Int32).toNatClampNeg) by decide) rfl rfl dX0_floodLevel_5 ?_
  exact W.iret (v := ((D 14) 0)) hx hb hr (fun t ht hW => ⟨⟨((D 14) 0), (), rfl, h, by rw [ht]; exact hP, hD⟩, hS.F ht⟩) hS.2.2 dX0_floodLevel_6
def q_X0_isFlooded (D : St) (Q : Int32 → Prop) : Prop :=
  isZ (D 21 0) ∧ (Q (D 21 0))
set_option maxHeartbeats 4000000 in
set_option maxRecDepth 100000 in
theorem c_X0_isFlooded (l : Launch) (G : va_G) (cI cC cD : ClassId) (q : Nat → Nat) (sz : Nat) (D : St)  (Q : Int32 → Prop) (h : q_X0_isFlooded  D Q) : Met l yX0_isFlooded wsX0_isFlooded ({ frames := 0, cells := 0, slots := 0, locals := 0 }) (va_Pc [.ref (q 0)] (PW G (ty3 cI cC cD) (wD cI q D) sz)) (va_Qi (fun (r : Int32) (_ : Unit) => Q r) (BW G (fun _ : Unit => (wD cI q D)) (va_A (wD cI q D) sz)) (va_A (wD cI q D) sz)) 0 0 (va_A (wD cI q D) sz) := by
  refine Met.ofW (cc := cX0_isFlooded) (maxL := 1) (ret := (some .boolean)) (by decide) rfl ?_
  intro p e s m args below meth c s₁ B hml hv
  obtain ⟨rfl, hsz, hP, hK, hD0, hN⟩ := hv
  have hx := B.exec
  have hb := B.bytes
  have hr := B.returns
  have hts := atoms_spec (ws := wsX0_isFlooded) B.pre
  have hown : s.vm.findClass RX0 = some m.cls := findClass_of_methodNamed B.named
  have hlocks := B.notSynchronized
  subst hsz
  have hD := hD0.self (sz := s.heap.size)
  generalize hAe : va_A (wD cI q D) s.heap.size = A at hD ⊢
  have hA : ∀ q : Nat, s.heap.size ≤ q → A q := fun q h => by rw [← hAe]; exact Or.inr h
  have hS : va_S A s.heap s.heap [] := va_S.rf
  have hl := lv_entry ([.ref (q 0)]) (n := 1) (Nat.le_of_ble_eq_true rfl)
  rw [lg_entry_eq]
  generalize (lg_sl ([.ref (q 0)]) ++ List.replicate (1 - (lg_sl ([.ref (q 0)])).length) Slot.unset).toArray = ls at hl ⊢
  have hl : lv_has ls 1 [(0, .ref (q 0))] := hl
  have hinX0 : ∀ w ∈ wsX00, w ∈ wsX0_isFlooded := by decide +kernel
  have hL69 := hts (.fieldLink RX0 69 "CraneGates$Dam" "flooded" "Z") (by decide +kernel)
  unfold q_X0_isFlooded at h
  refine lv_aload_n hx hb dX0_isFlooded_0 rfl (lv_at hl 0 rfl) ?_
  refine va_get (D := G) (ci := 0) (v := .int (D 21 0)) (C := RX0) (T := TX0) (N := 18) hx hb hts hinX0 hown hK hP 0 rfl rfl 10 (by decide) hL69 (fun _ h9 => h9) rfl dX0_isFlooded_1 ?_
  obtain ⟨hz_1, h⟩ := h
  exact W.zret (v := (D 21 0)) hx hb hr (isZ_n hz_1) (fun t ht hW => ⟨⟨(D 21 0), (), rfl, h, by rw [ht]; exact hP, hD⟩, hS.F ht⟩) hS.2.2 dX0_isFlooded_4
def q_X0_rests (D : St) (Q : Int32 → Prop) : Prop :=
  q_X0_hasTask D (fun r_1 => (r_1 = 0 → q_X0_somethingWaits D (fun r_3 => (r_3 = 0 → ((D 21 0) = 0 → Q 1) ∧ (¬ ((D 21 0) = 0) → Q 0)) ∧ (¬ (r_3 = 0) → Q 0))) ∧ (¬ (r_1 = 0) → Q 0))
set_option maxHeartbeats 4000000 in
set_option maxRecDepth 100000 in
theorem c_X0_rests (l : Launch) (G : va_G) (cI cC cD : ClassId) (q : Nat → Nat) (sz : Nat) (D : St)  (Q : Int32 → Prop) (h : q_X0_rests  D Q) : Met l yX0_rests wsX0_rests ({ frames := 2, cells := 0, slots := 0, locals := 40 }) (va_Pc [.ref (q 0)] (PW G (ty3 cI cC cD) (wD cI q D) sz)) (va_Qi (fun (r : Int32) (_ : Unit) => Q r) (BW G (fun _ : Unit => (wD cI q D)) (va_A (wD cI q D) sz)) (va_A (wD cI q D) sz)) 0 0 (va_A (wD cI q D) sz) := by
  refine Met.ofW (cc := cX0_rests) (maxL := 1) (ret := (some .boolean)) (by decide) rfl ?_
  intro p e s m args below meth c s₁ B hml hv
  obtain ⟨rfl, hsz, hP, hK, hD0, hN⟩ := hv
  have hx := B.exec
  have hb := B.bytes
  have hr := B.returns
  have hts := atoms_spec (ws := wsX0_rests) B.pre
  have hown : s.vm.findClass RX0 = some m.cls := findClass_of_methodNamed B.named
  have hlocks := B.notSynchronized
  subst hsz
  have hD := hD0.self (sz := s.heap.size)
  generalize hAe : va_A (wD cI q D) s.heap.size = A at hD ⊢
  have hA : ∀ q : Nat, s.heap.size ≤ q → A q := fun q h => by rw [← hAe]; exact Or.inr h
  have hS : va_S A s.heap s.heap [] := va_S.rf
  have hl := lv_entry ([.ref (q 0)]) (n := 1) (Nat.le_of_ble_eq_true rfl)
  rw [lg_entry_eq]
  generalize (lg_sl ([.ref (q 0)]) ++ List.replicate (1 - (lg_sl ([.ref (q 0)])).length) Slot.unset).toArray = ls at hl ⊢
  have hl : lv_has ls 1 [(0, .ref (q 0))] := hl
  have hinX0 : ∀ w ∈ wsX00, w ∈ wsX0_rests := by decide +kernel
  have hL69 := hts (.fieldLink RX0 69 "CraneGates$Dam" "flooded" "Z") (by decide +kernel)
  unfold q_X0_rests at h
  refine lv_aload_n hx hb dX0_rests_0 rfl (lv_at hl 0 rfl) ?_
  refine kc_i (As := []) (rest := []) (wg := (fun _ => (wD cI q D))) ⟨hx, hb, hml, hown, hts⟩ (c_X0_hasTask l G cI cC cD q _ D  _ h) (cwV 0 hts gX0_rests_X0_hasTask rfl rfl rfl (by decide +kernel) ⟨Nat.le_of_ble_eq_true rfl, Nat.le_of_ble_eq_true rfl⟩) hK hN hP hD hS hA (em_DD cI q D) (fun _ => rp_self (em_DD cI q D)) rfl rfl rfl rfl hl.1 rfl (Nat.le_of_ble_eq_true rfl) dX0_rests_1 ⟨Nat.zero_le _, Nat.zero_le _⟩ (fun r_1 _ H locs h hP hD hS => ?_)
  refine lv_if_ne (tgt := 25) hx hb dX0_rests_4 (by decide) (fun c_2 => ?_) (fun c_2 => ?_)
  · have h := h.2 c_2
    refine lv_iconst (v := 0) hx hb dX0_rests_25 (by decide) ?_
    exact W.zret (v := 0) hx hb hr rfl (fun t ht hW => ⟨⟨0, (), rfl, h, by rw [ht]; exact hP, hD⟩, hS.F ht⟩) hS.2.2 dX0_rests_26
  · have h := h.1 c_2
    refine lv_aload_n hx hb dX0_rests_7 rfl (lv_at hl 0 rfl) ?_
    refine kc_i (As := []) (rest := []) (wg := (fun _ => (wD cI q D))) ⟨hx, hb, hml, hown, hts⟩ (c_X0_somethingWaits l G cI cC cD q _ D  _ h) (cwV 0 hts gX0_rests_X0_somethingWaits rfl rfl rfl (by decide +kernel) ⟨Nat.le_of_ble_eq_true rfl, Nat.le_of_ble_eq_true rfl⟩) hK hN hP hD hS hA (em_DD cI q D) (fun _ => rp_self (em_DD cI q D)) rfl rfl rfl rfl hl.1 rfl (Nat.le_of_ble_eq_true rfl) dX0_rests_8 ⟨Nat.zero_le _, Nat.zero_le _⟩ (fun r_3 _ H locs h hP hD hS => ?_)
    refine lv_if_ne (tgt := 25) hx hb dX0_rests_11 (by decide) (fun c_4 => ?_) (fun c_4 => ?_)
    · have h := h.2 c_4
      refine lv_iconst (v := 0) hx hb dX0_rests_25 (by decide) ?_
      exact W.zret (v := 0) hx hb hr rfl (fun t ht hW => ⟨⟨0, (), rfl, h, by rw [ht]; exact hP, hD⟩, hS.F ht⟩) hS.2.2 dX0_rests_26
    · have h := h.1 c_4
      refine lv_aload_n hx hb dX0_rests_14 rfl (lv_at hl 0 rfl) ?_
      refine va_get (D := G) (ci := 0) (v := .int (D 21 0)) (C := RX0) (T := TX0) (N := 18) hx hb hts hinX0 hown hK hP 0 rfl rfl 10 (by decide) hL69 (fun _ h9 => h9) rfl dX0_rests_15 ?_
      refine lv_if_ne (tgt := 25) hx hb dX0_rests_18 (by decide) (fun c_5 => ?_) (fun c_5 => ?_)
      · have h := h.2 c_5
        refine lv_iconst (v := 0) hx hb dX0_rests_25 (by decide) ?_
        exact W.zret (v := 0) hx hb hr rfl (fun t ht hW => ⟨⟨0, (), rfl, h, by rw [ht]; exact hP, hD⟩, hS.F ht⟩) hS.2.2 dX0_rests_26
      · have h := h.1 c_5
        refine lv_iconst (v := 1) hx hb dX0_rests_21 (by decide) ?_
        refine lv_goto (tgt := 26) hx hb dX0_rests_22 (by decide) ?_
        exact W.zret (v := 1) hx hb hr rfl (fun t ht hW => ⟨⟨1, (), rfl, h, by rw [ht]; exact hP, hD⟩, hS.F ht⟩) hS.2.2 dX0_rests_26
def q_X0_openingTold_O (x : Int32) (D : St) (Q : Int32 → Prop) : Prop :=
  q_X4_indexOf x (fun i => D (6 + i)) (fun r_1 => (r_1 = (-1) → Q (-1000004)) ∧ (¬ (r_1 = (-1)) → q_X4_openingAt r_1 (fun i => D (6 + i)) (fun r_3 => Q r_3)))
set_option maxHeartbeats 4000000 in
set_option maxRecDepth 100000 in
theorem c_X0_openingTold_O (l : Launch) (G : va_G) (cI cC cD : ClassId) (q : Nat → Nat) (sz : Nat) (D : St) (x : Int32) (Q : Int32 → Prop) (h : q_X0_openingTold_O x D Q) : Met l yX0_openingTold wsX0_openingTold ({ frames := 1, cells := 0, slots := 0, locals := 22 }) (va_Pc [.ref (q 0), .ref (q 7), .int x] (PW G (ty3 cI cC cD) (wD cI q D) sz)) (va_Qi (fun (r : Int32) (_ : Unit) => Q r) (BW G (fun _ : Unit => (wD cI q D)) (va_A (wD cI q D) sz)) (va_A (wD cI q D) sz)) 0 0 (va_A (wD cI q D) sz) := by
  refine Met.ofW (cc := cX0_openingTold) (maxL := 4) (ret := (some .int)) (by decide) rfl ?_
  intro p e s m args below meth c s₁ B hml hv
  obtain ⟨rfl, hsz, hP, hK, hD0, hN⟩ := hv
  have hx := B.exec
  have hb := B.bytes
  have hr := B.returns
  have hts := atoms_spec (ws := wsX0_openingTold) B.pre
  have hown : s.vm.findClass RX0 = some m.cls := findClass_of_methodNamed B.named
  have hlocks := B.notSynchronized
  subst hsz
  have hD := hD0.self (sz := s.heap.size)
  generalize hAe : va_A (wD cI q D) s.heap.size = A at hD ⊢
  have hA : ∀ q : Nat, s.heap.size ≤ q → A q := fun q h => by rw [← hAe]; exact Or.inr h
  have hS : va_S A s.heap s.heap [] := va_S.rf
  have hl := lv_entry ([.ref (q 0), .ref (q 7), .int x]) (n := 4) (Nat.le_of_ble_eq_true rfl)
  rw [lg_entry_eq]
  generalize (lg_sl ([.ref (q 0), .ref (q 7), .int x]) ++ List.replicate (4 - (lg_sl ([.ref (q 0), .ref (q 7), .int x])).length) Slot.unset).toArray = ls at hl ⊢
  have hl : lv_has ls 4 [(0, .ref (q 0)), (1, .ref (q 7)), (2, .int x)] := hl
  unfold q_X0_openingTold_O at h
  refine lv_aload_n hx hb dX0_openingTold_0 rfl (lv_at hl 1 rfl) ?_
  refine lv_iload_n hx hb dX0_openingTold_1 rfl (lv_at hl 2 rfl) ?_
  refine kc_i (As := [.int x]) (rest := []) (wg := (fun _ => (wD cI q D))) ⟨hx, hb, hml, hown, hts⟩ (c_X4_indexOf l G cI cC cD (q 7) (q 8) (q 9) _ (fun i => D (6 + i)) x _ h) (cwV 1 hts gX0_openingTold_X4_indexOf rfl rfl rfl (by decide +kernel) ⟨Nat.le_of_ble_eq_true rfl, Nat.le_of_ble_eq_true rfl⟩) hK hN hP hD hS hA (em_DO cI q D) (fun _ => rp_self (em_DO cI q D)) rfl rfl rfl rfl hl.1 rfl (Nat.le_of_ble_eq_true rfl) dX0_openingTold_2 ⟨Nat.zero_le _, Nat.zero_le _⟩ (fun r_1 _ H locs h hP hD hS => ?_)
  refine lv_istore_n (lv' := [(3, .int r_1), (0, .ref (q 0)), (1, .ref (q 7)), (2, .int x)]) hx hb dX0_openingTold_5 rfl hl (by decide) rfl (fun ls hl => ?_)
  refine lv_iload_n hx hb dX0_openingTold_6 rfl (lv_at hl 0 rfl) ?_
  refine lv_iconst (v := (-1)) hx hb dX0_openingTold_7 (by decide) ?_
  refine lv_icmp_ne (tgt := 16) hx hb dX0_openingTold_8 (by decide) (fun c_2 => ?_) (fun c_2 => ?_)
  · have h := h.2 c_2
    refine lv_aload_n hx hb dX0_openingTold_16 rfl (lv_at hl 2 rfl) ?_
    refine lv_iload_n hx hb dX0_openingTold_17 rfl (lv_at hl 0 rfl) ?_
    refine kc_i (As := [.int r_1]) (rest := []) (wg := (fun _ => (wD cI q D))) ⟨hx, hb, hml, hown, hts⟩ (c_X4_openingAt l G cI cC cD (q 7) (q 8) (q 9) _ (fun i => D (6 + i)) r_1 _ h) (cwV 1 hts gX0_openingTold_X4_openingAt rfl rfl rfl (by decide +kernel) ⟨Nat.le_of_ble_eq_true rfl, Nat.le_of_ble_eq_true rfl⟩) hK hN hP hD hS hA (em_DO cI q D) (fun _ => rp_self (em_DO cI q D)) rfl rfl rfl rfl hl.1 rfl (Nat.le_of_ble_eq_true rfl) dX0_openingTold_18 ⟨Nat.zero_le _, Nat.zero_le _⟩ (fun r_3 _ H locs h hP hD hS => ?_)
    exact W.iret (v := r_3) hx hb hr (fun t ht hW => ⟨⟨r_3, (), rfl, h, by rw [ht]; exact hP, hD⟩, hS.F ht⟩) hS.2.2 dX0_openingTold_21
  · have h := h.1 c_2
    refine lv_ldc hx hb hown (hts (.constant RX0 207 (-1000004)) (by decide +kernel)) dX0_openingTold_11 ?_
    refine lv_goto (tgt := 21) hx hb dX0_openingTold_13 (by decide) ?_
    exact W.iret (v := (-1000004)) hx hb hr (fun t ht hW => ⟨⟨(-1000004), (), rfl, h, by rw [ht]; exact hP, hD⟩, hS.F ht⟩) hS.2.2 dX0_openingTold_21
def q_X0_openingTold_K (x : Int32) (D : St) (Q : Int32 → Prop) : Prop :=
  q_X4_indexOf x (fun i => D (10 + i)) (fun r_1 => (r_1 = (-1) → Q (-1000004)) ∧ (¬ (r_1 = (-1)) → q_X4_openingAt r_1 (fun i => D (10 + i)) (fun r_3 => Q r_3)))
set_option maxHeartbeats 4000000 in
set_option maxRecDepth 100000 in
theorem c_X0_openingTold_K (l : Launch) (G : va_G) (cI cC cD : ClassId) (q : Nat → Nat) (sz : Nat) (D : St) (x : Int32) (Q : Int32 → Prop) (h : q_X0_openingTold_K x D Q) : Met l yX0_openingTold wsX0_openingTold ({ frames := 1, cells := 0, slots := 0, locals := 22 }) (va_Pc [.ref (q 0), .ref (q 10), .int x] (PW G (ty3 cI cC cD) (wD cI q D) sz)) (va_Qi (fun (r : Int32) (_ : Unit) => Q r) (BW G (fun _ : Unit => (wD cI q D)) (va_A (wD cI q D) sz)) (va_A (wD cI q D) sz)) 0 0 (va_A (wD cI q D) sz) := by
  refine Met.ofW (cc := cX0_openingTold) (maxL := 4) (ret := (some .int)) (by decide) rfl ?_
  intro p e s m args below meth c s₁ B hml hv
  obtain ⟨rfl, hsz, hP, hK, hD0, hN⟩ := hv
  have hx := B.exec
  have hb := B.bytes
  have hr := B.returns
  have hts := atoms_spec (ws := wsX0_openingTold) B.pre
  have hown : s.vm.findClass RX0 = some m.cls := findClass_of_methodNamed B.named
  have hlocks := B.notSynchronized
  subst hsz
  have hD := hD0.self (sz := s.heap.size)
  generalize hAe : va_A (wD cI q D) s.heap.size = A at hD ⊢
  have hA : ∀ q : Nat, s.heap.size ≤ q → A q := fun q h => by rw [← hAe]; exact Or.inr h
  have hS : va_S A s.heap s.heap [] := va_S.rf
  have hl := lv_entry ([.ref (q 0), .ref (q 10), .int x]) (n := 4) (Nat.le_of_ble_eq_true rfl)
  rw [lg_entry_eq]
  generalize (lg_sl ([.ref (q 0), .ref (q 10), .int x]) ++ List.replicate (4 - (lg_sl ([.ref (q 0), .ref (q 10), .int x])).length) Slot.unset).toArray = ls at hl ⊢
  have hl : lv_has ls 4 [(0, .ref (q 0)), (1, .ref (q 10)), (2, .int x)] := hl
  unfold q_X0_openingTold_K at h
  refine lv_aload_n hx hb dX0_openingTold_0 rfl (lv_at hl 1 rfl) ?_
  refine lv_iload_n hx hb dX0_openingTold_1 rfl (lv_at hl 2 rfl) ?_
  refine kc_i (As := [.int x]) (rest := []) (wg := (fun _ => (wD cI q D))) ⟨hx, hb, hml, hown, hts⟩ (c_X4_indexOf l G cI cC cD (q 10) (q 11) (q 12) _ (fun i => D (10 + i)) x _ h) (cwV 1 hts gX0_openingTold_X4_indexOf rfl rfl rfl (by decide +kernel) ⟨Nat.le_of_ble_eq_true rfl, Nat.le_of_ble_eq_true rfl⟩) hK hN hP hD hS hA (em_DK cI q D) (fun _ => rp_self (em_DK cI q D)) rfl rfl rfl rfl hl.1 rfl (Nat.le_of_ble_eq_true rfl) dX0_openingTold_2 ⟨Nat.zero_le _, Nat.zero_le _⟩ (fun r_1 _ H locs h hP hD hS => ?_)
  refine lv_istore_n (lv' := [(3, .int r_1), (0, .ref (q 0)), (1, .ref (q 10)), (2, .int x)]) hx hb dX0_openingTold_5 rfl hl (by decide) rfl (fun ls hl => ?_)
  refine lv_iload_n hx hb dX0_openingTold_6 rfl (lv_at hl 0 rfl) ?_
  refine lv_iconst (v := (-1)) hx hb dX0_openingTold_7 (by decide) ?_
  refine lv_icmp_ne (tgt := 16) hx hb dX0_openingTold_8 (by decide) (fun c_2 => ?_) (fun c_2 => ?_)
  · have h := h.2 c_2
    refine lv_aload_n hx hb dX0_openingTold_16 rfl (lv_at hl 2 rfl) ?_
    refine lv_iload_n hx hb dX0_openingTold_17 rfl (lv_at hl 0 rfl) ?_
    refine kc_i (As := [.int r_1]) (rest := []) (wg := (fun _ => (wD cI q D))) ⟨hx, hb, hml, hown, hts⟩ (c_X4_openingAt l G cI cC cD (q 10) (q 11) (q 12) _ (fun i => D (10 + i)) r_1 _ h) (cwV 1 hts gX0_openingTold_X4_openingAt rfl rfl rfl (by decide +kernel) ⟨Nat.le_of_ble_eq_true rfl, Nat.le_of_ble_eq_true rfl⟩) hK hN hP hD hS hA (em_DK cI q D) (fun _ => rp_self (em_DK cI q D)) rfl rfl rfl rfl hl.1 rfl (Nat.le_of_ble_eq_true rfl) dX0_openingTold_18 ⟨Nat.zero_le _, Nat.zero_le _⟩ (fun r_3 _ H locs h hP hD hS => ?_)
    exact W.iret (v := r_3) hx hb hr (fun t ht hW => ⟨⟨r_3, (), rfl, h, by rw [ht]; exact hP, hD⟩, hS.F ht⟩) hS.2.2 dX0_openingTold_21
  · have h := h.1 c_2
    refine lv_ldc hx hb hown (hts (.constant RX0 207 (-1000004)) (by decide +kernel)) dX0_openingTold_11 ?_
    refine lv_goto (tgt := 21) hx hb dX0_openingTold_13 (by decide) ?_
    exact W.iret (v := (-1000004)) hx hb hr (fun t ht hW => ⟨⟨(-1000004), (), rfl, h, by rw [ht]; exact hP, hD⟩, hS.F ht⟩) hS.2.2 dX0_openingTold_21
def q_X0_ofGate (x : Int32) (y : Int32) (D : St) (Q : Int32 → Prop) : Prop :=
  q_X1_has x D (fun r_1 => (r_1 = 0 → Q (-1000001)) ∧ (¬ (r_1 = 0) → (y = 0 → q_X1_kind x D (fun r_4 => Q r_4)) ∧ (¬ (y = 0) → (y = 1 → q_X1_width x D (fun r_6 => Q r_6)) ∧ (¬ (y = 1) → (y = 2 → q_X1_opening x D (fun r_8 => Q r_8)) ∧ (¬ (y = 2) → (y = 3 → q_X0_head D (fun r_10 => q_X1_flow x r_10 D (fun r_11 => Q r_11))) ∧ (¬ (y = 3) → (y = 4 → q_X1_waterOut x D (fun r_13 => Q r_13)) ∧ (¬ (y = 4) → (y = 5 → q_X0_openingTold_O x D (fun r_15 => Q r_15)) ∧ (¬ (y = 5) → (y = 6 → q_X0_openingTold_K x D (fun r_17 => Q r_17)) ∧ (¬ (y = 6) → (y = 7 → q_X1_moves x D (fun r_19 => Q r_19)) ∧ (¬ (y = 7) → Q (-1000001)))))))))))
set_option maxHeartbeats 4000000 in
set_option maxRecDepth 100000 in
theorem c_X0_ofGate (l : Launch) (G : va_G) (cI cC cD : ClassId) (q : Nat → Nat) (sz : Nat) (D : St) (x : Int32) (y : Int32) (Q : Int32 → Prop) (h : q_X0_ofGate x y D Q) : Met l yX0_ofGate wsX0_ofGate ({ frames := 2, cells := 0, slots := 0, locals := 45 }) (va_Pc [.ref (q 0), .int x, .int y] (PW G (ty3 cI cC cD) (wD cI q D) sz)) (va_Qi (fun (r : Int32) (_ : Unit) => Q r) (BW G (fun _ : Unit => (wD cI q D)) (va_A (wD cI q D) sz)) (va_A (wD cI q D) sz)) 0 0 (va_A (wD cI q D) sz) := by
  refine Met.ofW (cc := cX0_ofGate) (maxL := 3) (ret := (some .int)) (by decide) rfl ?_
  intro p e s m args below meth c s₁ B hml hv
  obtain ⟨rfl, hsz, hP, hK, hD0, hN⟩ := hv
  have hx := B.exec
  have hb := B.bytes
  have hr := B.returns
  have hts := atoms_spec (ws := wsX0_ofGate) B.pre
  have hown : s.vm.findClass RX0 = some m.cls := findClass_of_methodNamed B.named
  have hlocks := B.notSynchronized
  subst hsz
  have hD := hD0.self (sz := s.heap.size)
  generalize hAe : va_A (wD cI q D) s.heap.size = A at hD ⊢
  have hA : ∀ q : Nat, s.heap.size ≤ q → A q := fun q h => by rw [← hAe]; exact Or.inr h
  have hS : va_S A s.heap s.heap [] := va_S.rf
  have hl := lv_entry ([.ref (q 0), .int x, .int y]) (n := 3) (Nat.le_of_ble_eq_true rfl)
  rw [lg_entry_eq]
  generalize (lg_sl ([.ref (q 0), .int x, .int y]) ++ List.replicate (3 - (lg_sl ([.ref (q 0), .int x, .int y])).length) Slot.unset).toArray = ls at hl ⊢
  have hl : lv_has ls 3 [(0, .ref (q 0)), (1, .int x), (2, .int y)] := hl
  have hinX0 : ∀ w ∈ wsX00, w ∈ wsX0_ofGate := by decide +kernel
  have hL12 := hts (.fieldLink RX0 12 "CraneGates$Dam" "gates" "LCraneGates$Gates;") (by decide +kernel)
  have hL23 := hts (.fieldLink RX0 23 "CraneGates$Dam" "orders" "LCraneGates$Tasks;") (by decide +kernel)
  have hL27 := hts (.fieldLink RX0 27 "CraneGates$Dam" "marks" "LCraneGates$Tasks;") (by decide +kernel)
  unfold q_X0_ofGate at h
  refine lv_aload_n hx hb dX0_ofGate_0 rfl (lv_at hl 0 rfl) ?_
  refine va_get (D := G) (ci := 0) (v := .ref (q 1)) (C := RX0) (T := TX0) (N := 18) hx hb hts hinX0 hown hK hP 0 rfl rfl 0 (by decide) hL12 (fun _ h9 => h9) rfl dX0_ofGate_1 ?_
  refine lv_iload_n hx hb dX0_ofGate_4 rfl (lv_at hl 1 rfl) ?_
  refine kc_i (As := [.int x]) (rest := []) (wg := (fun _ => (wD cI q D))) ⟨hx, hb, hml, hown, hts⟩ (c_X1_has l G cI cC cD (q 1) (q 2) (q 3) (q 4) (q 5) (q 6) _ D x _ h) (cwV 1 hts gX0_ofGate_X1_has rfl rfl rfl (by decide +kernel) ⟨Nat.le_of_ble_eq_true rfl, Nat.le_of_ble_eq_true rfl⟩) hK hN hP hD hS hA (em_DG cI q D) (fun _ => rp_self (em_DG cI q D)) rfl rfl rfl rfl hl.1 rfl (Nat.le_of_ble_eq_true rfl) dX0_ofGate_5 ⟨Nat.zero_le _, Nat.zero_le _⟩ (fun r_1 _ H locs h hP hD hS => ?_)
  refine lv_if_ne (tgt := 14) hx hb dX0_ofGate_8 (by decide) (fun c_2 => ?_) (fun c_2 => ?_)
  · have h := h.2 c_2
    refine lv_iload_n hx hb dX0_ofGate_14 rfl (lv_at hl 2 rfl) ?_
    by_cases c_3 : y = 0
    · have h := h.1 c_3
      refine lv_tableIn (off := 45) (tgt := 60) hx hb dX0_ofGate_15 (by rw [c_3]; decide) (by rw [c_3]; decide) (by rw [c_3]; rfl) (by decide) ?_
      refine lv_aload_n hx hb dX0_ofGate_60 rfl (lv_at hl 0 rfl) ?_
      refine va_get (D := G) (ci := 0) (v := .ref (q 1)) (C := RX0) (T := TX0) (N := 18) hx hb hts hinX0 hown hK hP 0 rfl rfl 0 (by decide) hL12 (fun _ h9 => h9) rfl dX0_ofGate_61 ?_
      refine lv_iload_n hx hb dX0_ofGate_64 rfl (lv_at hl 1 rfl) ?_
      refine kc_i (As := [.int x]) (rest := []) (wg := (fun _ => (wD cI q D))) ⟨hx, hb, hml, hown, hts⟩ (c_X1_kind l G cI cC cD (q 1) (q 2) (q 3) (q 4) (q 5) (q 6) _ D x _ h) (cwV 1 hts gX0_ofGate_X1_kind rfl rfl rfl (by decide +kernel) ⟨Nat.le_of_ble_eq_true rfl, Nat.le_of_ble_eq_true rfl⟩) hK hN hP hD hS hA (em_DG cI q D) (fun _ => rp_self (em_DG cI q D)) rfl rfl rfl rfl hl.1 rfl (Nat.le_of_ble_eq_true rfl) dX0_ofGate_65 ⟨Nat.zero_le _, Nat.zero_le _⟩ (fun r_4 _ H locs h hP hD hS => ?_)
      exact W.iret (v := r_4) hx hb hr (fun t ht hW => ⟨⟨r_4, (), rfl, h, by rw [ht]; exact hP, hD⟩, hS.F ht⟩) hS.2.2 dX0_ofGate_68
    · have h := h.2 c_3
      by_cases c_5 : y = 1
      · have h := h.1 c_5
        refine lv_tableIn (off := 54) (tgt := 69) hx hb dX0_ofGate_15 (by rw [c_5]; decide) (by rw [c_5]; decide) (by rw [c_5]; rfl) (by decide) ?_
        refine lv_aload_n hx hb dX0_ofGate_69 rfl (lv_at hl 0 rfl) ?_
        refine va_get (D := G) (ci := 0) (v := .ref (q 1)) (C := RX0) (T := TX0) (N := 18) hx hb hts hinX0 hown hK hP 0 rfl rfl 0 (by decide) hL12 (fun _ h9 => h9) rfl dX0_ofGate_70 ?_
        refine lv_iload_n hx hb dX0_ofGate_73 rfl (lv_at hl 1 rfl) ?_
        refine kc_i (As := [.int x]) (rest := []) (wg := (fun _ => (wD cI q D))) ⟨hx, hb, hml, hown, hts⟩ (c_X1_width l G cI cC cD (q 1) (q 2) (q 3) (q 4) (q 5) (q 6) _ D x _ h) (cwV 1 hts gX0_ofGate_X1_width rfl rfl rfl (by decide +kernel) ⟨Nat.le_of_ble_eq_true rfl, Nat.le_of_ble_eq_true rfl⟩) hK hN hP hD hS hA (em_DG cI q D) (fun _ => rp_self (em_DG cI q D)) rfl rfl rfl rfl hl.1 rfl (Nat.le_of_ble_eq_true rfl) dX0_ofGate_74 ⟨Nat.zero_le _, Nat.zero_le _⟩ (fun r_6 _ H locs h hP hD hS => ?_)
        exact W.iret (v := r_6) hx hb hr (fun t ht hW => ⟨⟨r_6, (), rfl, h, by rw [ht]; exact hP, hD⟩, hS.F ht⟩) hS.2.2 dX0_ofGate_77
      · have h := h.2 c_5
        by_cases c_7 : y = 2
        · have h := h.1 c_7
          refine lv_tableIn (off := 63) (tgt := 78) hx hb dX0_ofGate_15 (by rw [c_7]; decide) (by rw [c_7]; decide) (by rw [c_7]; rfl) (by decide) ?_
          refine lv_aload_n hx hb dX0_ofGate_78 rfl (lv_at hl 0 rfl) ?_
          refine va_get (D := G) (ci := 0) (v := .ref (q 1)) (C := RX0) (T := TX0) (N := 18) hx hb hts hinX0 hown hK hP 0 rfl rfl 0 (by decide) hL12 (fun _ h9 => h9) rfl dX0_ofGate_79 ?_
          refine lv_iload_n hx hb dX0_ofGate_82 rfl (lv_at hl 1 rfl) ?_
          refine kc_i (As := [.int x]) (rest := []) (wg := (fun _ => (wD cI q D))) ⟨hx, hb, hml, hown, hts⟩ (c_X1_opening l G cI cC cD (q 1) (q 2) (q 3) (q 4) (q 5) (q 6) _ D x _ h) (cwV 1 hts gX0_ofGate_X1_opening rfl rfl rfl (by decide +kernel) ⟨Nat.le_of_ble_eq_true rfl, Nat.le_of_ble_eq_true rfl⟩) hK hN hP hD hS hA (em_DG cI q D) (fun _ => rp_self (em_DG cI q D)) rfl rfl rfl rfl hl.1 rfl (Nat.le_of_ble_eq_true rfl) dX0_ofGate_83 ⟨Nat.zero_le _, Nat.zero_le _⟩ (fun r_8 _ H locs h hP hD hS => ?_)
          exact W.iret (v := r_8) hx hb hr (fun t ht hW => ⟨⟨r_8, (), rfl, h, by rw [ht]; exact hP, hD⟩, hS.F ht⟩) hS.2.2 dX0_ofGate_86
        · have h := h.2 c_7
          by_cases c_9 : y = 3
          · have h := h.1 c_9
            refine lv_tableIn (off := 72) (tgt := 87) hx hb dX0_ofGate_15 (by rw [c_9]; decide) (by rw [c_9]; decide) (by rw [c_9]; rfl) (by decide) ?_
            refine lv_aload_n hx hb dX0_ofGate_87 rfl (lv_at hl 0 rfl) ?_
            refine va_get (D := G) (ci := 0) (v := .ref (q 1)) (C := RX0) (T := TX0) (N := 18) hx hb hts hinX0 hown hK hP 0 rfl rfl 0 (by decide) hL12 (fun _ h9 => h9) rfl dX0_ofGate_88 ?_
            refine lv_iload_n hx hb dX0_ofGate_91 rfl (lv_at hl 1 rfl) ?_
            refine lv_aload_n hx hb dX0_ofGate_92 rfl (lv_at hl 0 rfl) ?_
            refine kc_i (As := []) (rest := [.int x, .ref (q 1)]) (wg := (fun _ => (wD cI q D))) ⟨hx, hb, hml, hown, hts⟩ (c_X0_head l G cI cC cD q _ D  _ h) (cwV 0 hts gX0_ofGate_X0_head rfl rfl rfl (by decide +kernel) ⟨Nat.le_of_ble_eq_true rfl, Nat.le_of_ble_eq_true rfl⟩) hK hN hP hD hS hA (em_DD cI q D) (fun _ => rp_self (em_DD cI q D)) rfl rfl rfl rfl hl.1 rfl (Nat.le_of_ble_eq_true rfl) dX0_ofGate_93 ⟨Nat.zero_le _, Nat.zero_le _⟩ (fun r_10 _ H locs h hP hD hS => ?_)
            refine kc_i (As := [.int x, .int r_10]) (rest := []) (wg := (fun _ => (wD cI q D))) ⟨hx, hb, hml, hown, hts⟩ (c_X1_flow l G cI cC cD (q 1) (q 2) (q 3) (q 4) (q 5) (q 6) _ D x r_10 _ h) (cwV 2 hts gX0_ofGate_X1_flow rfl rfl rfl (by decide +kernel) ⟨Nat.le_of_ble_eq_true rfl, Nat.le_of_ble_eq_true rfl⟩) hK hN hP hD hS hA (em_DG cI q D) (fun _ => rp_self (em_DG cI q D)) rfl rfl rfl rfl hl.1 rfl (Nat.le_of_ble_eq_true rfl) dX0_ofGate_96 ⟨Nat.zero_le _, Nat.zero_le _⟩ (fun r_11 _ H locs h hP hD hS => ?_)
            exact W.iret (v := r_11) hx hb hr (fun t ht hW => ⟨⟨r_11, (), rfl, h, by rw [ht]; exact hP, hD⟩, hS.F ht⟩) hS.2.2 dX0_ofGate_99
          · have h := h.2 c_9
            by_cases c_12 : y = 4
            · have h := h.1 c_12
              refine lv_tableIn (off := 85) (tgt := 100) hx hb dX0_ofGate_15 (by rw [c_12]; decide) (by rw [c_12]; decide) (by rw [c_12]; rfl) (by decide) ?_
              refine lv_aload_n hx hb dX0_ofGate_100 rfl (lv_at hl 0 rfl) ?_
              refine va_get (D := G) (ci := 0) (v := .ref (q 1)) (C := RX0) (T := TX0) (N := 18) hx hb hts hinX0 hown hK hP 0 rfl rfl 0 (by decide) hL12 (fun _ h9 => h9) rfl dX0_ofGate_101 ?_
              refine lv_iload_n hx hb dX0_ofGate_104 rfl (lv_at hl 1 rfl) ?_
              refine kc_i (As := [.int x]) (rest := []) (wg := (fun _ => (wD cI q D))) ⟨hx, hb, hml, hown, hts⟩ (c_X1_waterOut l G cI cC cD (q 1) (q 2) (q 3) (q 4) (q 5) (q 6) _ D x _ h) (cwV 1 hts gX0_ofGate_X1_waterOut rfl rfl rfl (by decide +kernel) ⟨Nat.le_of_ble_eq_true rfl, Nat.le_of_ble_eq_true rfl⟩) hK hN hP hD hS hA (em_DG cI q D) (fun _ => rp_self (em_DG cI q D)) rfl rfl rfl rfl hl.1 rfl (Nat.le_of_ble_eq_true rfl) dX0_ofGate_105 ⟨Nat.zero_le _, Nat.zero_le _⟩ (fun r_13 _ H locs h hP hD hS => ?_)
              exact W.iret (v := r_13) hx hb hr (fun t ht hW => ⟨⟨r_13, (), rfl, h, by rw [ht]; exact hP, hD⟩, hS.F ht⟩) hS.2.2 dX0_ofGate_108
            · have h := h.2 c_12
              by_cases c_14 : y = 5
              · have h := h.1 c_14
                refine lv_tableIn (off := 94) (tgt := 109) hx hb dX0_ofGate_15 (by rw [c_14]; decide) (by rw [c_14]; decide) (by rw [c_14]; rfl) (by decide) ?_
                refine lv_aload_n hx hb dX0_ofGate_109 rfl (lv_at hl 0 rfl) ?_
                refine lv_aload_n hx hb dX0_ofGate_110 rfl (lv_at hl 0 rfl) ?_
                refine va_get (D := G) (ci := 0) (v := .ref (q 7)) (C := RX0) (T := TX0) (N := 18) hx hb hts hinX0 hown hK hP 0 rfl rfl 1 (by decide) hL23 (fun _ h9 => h9) rfl dX0_ofGate_111 ?_
                refine lv_iload_n hx hb dX0_ofGate_114 rfl (lv_at hl 1 rfl) ?_
                refine kc_i (As := [.ref (q 7), .int x]) (rest := []) (wg := (fun _ => (wD cI q D))) ⟨hx, hb, hml, hown, hts⟩ (c_X0_openingTold_O l G cI cC cD q _ D x _ h) (cwV 2 hts gX0_ofGate_X0_openingTold rfl rfl rfl (by decide +kernel) ⟨Nat.le_of_ble_eq_true rfl, Nat.le_of_ble_eq_true rfl⟩) hK hN hP hD hS hA (em_DD cI q D) (fun _ => rp_self (em_DD cI q D)) rfl rfl rfl rfl hl.1 rfl (Nat.le_of_ble_eq_true rfl) dX0_ofGate_115 ⟨Nat.zero_le _, Nat.zero_le _⟩ (fun r_15 _ H locs h hP hD hS => ?_)
                exact W.iret (v := r_15) hx hb hr (fun t ht hW => ⟨⟨r_15, (), rfl, h, by rw [ht]; exact hP, hD⟩, hS.F ht⟩) hS.2.2 dX0_ofGate_118
              · have h := h.2 c_14
                by_cases c_16 : y = 6
                · have h := h.1 c_16
                  refine lv_tableIn (off := 104) (tgt := 119) hx hb dX0_ofGate_15 (by rw [c_16]; decide) (by rw [c_16]; decide) (by rw [c_16]; rfl) (by decide) ?_
                  refine lv_aload_n hx hb dX0_ofGate_119 rfl (lv_at hl 0 rfl) ?_
                  refine lv_aload_n hx hb dX0_ofGate_120 rfl (lv_at hl 0 rfl) ?_
                  refine va_get (D := G) (ci := 0) (v := .ref (q 10)) (C := RX0) (T := TX0) (N := 18) hx hb hts hinX0 hown hK hP 0 rfl rfl 2 (by decide) hL27 (fun _ h9 => h9) rfl dX0_ofGate_121 ?_
                  refine lv_iload_n hx hb dX0_ofGate_124 rfl (lv_at hl 1 rfl) ?_
                  refine kc_i (As := [.ref (q 10), .int x]) (rest := []) (wg := (fun _ => (wD cI q D))) ⟨hx, hb, hml, hown, hts⟩ (c_X0_openingTold_K l G cI cC cD q _ D x _ h) (cwV 2 hts gX0_ofGate_X0_openingTold rfl rfl rfl (by decide +kernel) ⟨Nat.le_of_ble_eq_true rfl, Nat.le_of_ble_eq_true rfl⟩) hK hN hP hD hS hA (em_DD cI q D) (fun _ => rp_self (em_DD cI q D)) rfl rfl rfl rfl hl.1 rfl (Nat.le_of_ble_eq_true rfl) dX0_ofGate_125 ⟨Nat.zero_le _, Nat.zero_le _⟩ (fun r_17 _ H locs h hP hD hS => ?_)
                  exact W.iret (v := r_17) hx hb hr (fun t ht hW => ⟨⟨r_17, (), rfl, h, by rw [ht]; exact hP, hD⟩, hS.F ht⟩) hS.2.2 dX0_ofGate_128
                · have h := h.2 c_16
                  by_cases c_18 : y = 7
                  · have h := h.1 c_18
                    refine lv_tableIn (off := 114) (tgt := 129) hx hb dX0_ofGate_15 (by rw [c_18]; decide) (by rw [c_18]; decide) (by rw [c_18]; rfl) (by decide) ?_
                    refine lv_aload_n hx hb dX0_ofGate_129 rfl (lv_at hl 0 rfl) ?_
                    refine va_get (D := G) (ci := 0) (v := .ref (q 1)) (C := RX0) (T := TX0) (N := 18) hx hb hts hinX0 hown hK hP 0 rfl rfl 0 (by decide) hL12 (fun _ h9 => h9) rfl dX0_ofGate_130 ?_
                    refine lv_iload_n hx hb dX0_ofGate_133 rfl (lv_at hl 1 rfl) ?_
                    refine kc_i (As := [.int x]) (rest := []) (wg := (fun _ => (wD cI q D))) ⟨hx, hb, hml, hown, hts⟩ (c_X1_moves l G cI cC cD (q 1) (q 2) (q 3) (q 4) (q 5) (q 6) _ D x _ h) (cwV 1 hts gX0_ofGate_X1_moves rfl rfl rfl (by decide +kernel) ⟨Nat.le_of_ble_eq_true rfl, Nat.le_of_ble_eq_true rfl⟩) hK hN hP hD hS hA (em_DG cI q D) (fun _ => rp_self (em_DG cI q D)) rfl rfl rfl rfl hl.1 rfl (Nat.le_of_ble_eq_true rfl) dX0_ofGate_134 ⟨Nat.zero_le _, Nat.zero_le _⟩ (fun r_19 _ H locs h hP hD hS => ?_)
                    exact W.iret (v := r_19) hx hb hr (fun t ht hW => ⟨⟨r_19, (), rfl, h, by rw [ht]; exact hP, hD⟩, hS.F ht⟩) hS.2.2 dX0_ofGate_137
                  · have h := h.2 c_18
                    have ho : (y).toInt < 0 ∨ 7 < (y).toInt := by
                      have n0 := sw_o (a := 0) c_3 (by decide)
                      have n1 := sw_o (a := 1) c_5 (by decide)
                      have n2 := sw_o (a := 2) c_7 (by decide)
                      have n3 := sw_o (a := 3) c_9 (by decide)
                      have n4 := sw_o (a := 4) c_12 (by decide)
                      have n5 := sw_o (a := 5) c_14 (by decide)
                      have n6 := sw_o (a := 6) c_16 (by decide)
                      have n7 := sw_o (a := 7) c_18 (by decide)
                      omega
                    refine lv_tableOut (tgt := 138) hx hb dX0_ofGate_15 ho (by decide) ?_
                    refine lv_ldc hx hb hown (hts (.constant RX0 91 (-1000001)) (by decide +kernel)) dX0_ofGate_138 ?_
                    exact W.iret (v := (-1000001)) hx hb hr (fun t ht hW => ⟨⟨(-1000001), (), rfl, h, by rw [ht]; exact hP, hD⟩, hS.F ht⟩) hS.2.2 dX0_ofGate_140
  · have h := h.1 c_2
    refine lv_ldc hx hb hown (hts (.constant RX0 91 (-1000001)) (by decide +kernel)) dX0_ofGate_11 ?_
    exact W.iret (v := (-1000001)) hx hb hr (fun t ht hW => ⟨⟨(-1000001), (), rfl, h, by rw [ht]; exact hP, hD⟩, hS.F ht⟩) hS.2.2 dX0_ofGate_13
def q_X0_ofCrane (x : Int32) (D : St) (Q : Int32 → Prop) : Prop :=
  (x = 0 → Q (D 23 0)) ∧ (¬ (x = 0) → (x = 1 → q_X0_hasTask D (fun r_3 => (r_3 = 0 → Q (-1000004)) ∧ (¬ (r_3 = 0) → Q (D 24 0)))) ∧ (¬ (x = 1) → (x = 2 → q_X0_hasTask D (fun r_6 => (r_6 = 0 → Q (-1000004)) ∧ (¬ (r_6 = 0) → Q (D 25 0)))) ∧ (¬ (x = 2) → (x = 3 → Q (D 26 0)) ∧ (¬ (x = 3) → (x = 4 → Q (D 27 0)) ∧ (¬ (x = 4) → (x = 5 → Q (D 28 0)) ∧ (¬ (x = 5) → (x = 6 → q_X4_size (fun i => D (10 + i)) (fun r_12 => Q r_12)) ∧ (¬ (x = 6) → Q (-1000001))))))))
set_option maxHeartbeats 4000000 in
set_option maxRecDepth 100000 in
theorem c_X0_ofCrane (l : Launch) (G : va_G) (cI cC cD : ClassId) (q : Nat → Nat) (sz : Nat) (D : St) (x : Int32) (Q : Int32 → Prop) (h : q_X0_ofCrane x D Q) : Met l yX0_ofCrane wsX0_ofCrane ({ frames := 1, cells := 0, slots := 0, locals := 20 }) (va_Pc [.ref (q 0), .int x] (PW G (ty3 cI cC cD) (wD cI q D) sz)) (va_Qi (fun (r : Int32) (_ : Unit) => Q r) (BW G (fun _ : Unit => (wD cI q D)) (va_A (wD cI q D) sz)) (va_A (wD cI q D) sz)) 0 0 (va_A (wD cI q D) sz) := by
  refine Met.ofW (cc := cX0_ofCrane) (maxL := 2) (ret := (some .int)) (by decide) rfl ?_
  intro p e s m args below meth c s₁ B hml hv
  obtain ⟨rfl, hsz, hP, hK, hD0, hN⟩ := hv
  have hx := B.exec
  have hb := B.bytes
  have hr := B.returns
  have hts := atoms_spec (ws := wsX0_ofCrane) B.pre
  have hown : s.vm.findClass RX0 = some m.cls := findClass_of_methodNamed B.named
  have hlocks := B.notSynchronized
  subst hsz
  have hD := hD0.self (sz := s.heap.size)
  generalize hAe : va_A (wD cI q D) s.heap.size = A at hD ⊢
  have hA : ∀ q : Nat, s.heap.size ≤ q → A q := fun q h => by rw [← hAe]; exact Or.inr h
  have hS : va_S A s.heap s.heap [] := va_S.rf
  have hl := lv_entry ([.ref (q 0), .int x]) (n := 2) (Nat.le_of_ble_eq_true rfl)
  rw [lg_entry_eq]
  generalize (lg_sl ([.ref (q 0), .int x]) ++ List.replicate (2 - (lg_sl ([.ref (q 0), .int x])).length) Slot.unset).toArray = ls at hl ⊢
  have hl : lv_has ls 2 [(0, .ref (q 0)), (1, .int x)] := hl
  have hinX0 : ∀ w ∈ wsX00, w ∈ wsX0_ofCrane := by decide +kernel
  have hL27 := hts (.fieldLink RX0 27 "CraneGates$Dam" "marks" "LCraneGates$Tasks;") (by decide +kernel)
  have hL38 := hts (.fieldLink RX0 38 "CraneGates$Dam" "taskGate" "I") (by decide +kernel)
  have hL76 := hts (.fieldLink RX0 76 "CraneGates$Dam" "place" "I") (by decide +kernel)
  have hL79 := hts (.fieldLink RX0 79 "CraneGates$Dam" "taskOpening" "I") (by decide +kernel)
  have hL82 := hts (.fieldLink RX0 82 "CraneGates$Dam" "minutesWorked" "I") (by decide +kernel)
  have hL85 := hts (.fieldLink RX0 85 "CraneGates$Dam" "tasksDone" "I") (by decide +kernel)
  have hL88 := hts (.fieldLink RX0 88 "CraneGates$Dam" "tasksLeft" "I") (by decide +kernel)
  unfold q_X0_ofCrane at h
  refine lv_iload_n hx hb dX0_ofCrane_0 rfl (lv_at hl 1 rfl) ?_
  by_cases c_1 : x = 0
  · have h := h.1 c_1
    refine lv_tableIn (off := 43) (tgt := 44) hx hb dX0_ofCrane_1 (by rw [c_1]; decide) (by rw [c_1]; decide) (by rw [c_1]; rfl) (by decide) ?_
    refine lv_aload_n hx hb dX0_ofCrane_44 rfl (lv_at hl 0 rfl) ?_
    refine va_get (D := G) (ci := 0) (v := .int (D 23 0)) (C := RX0) (T := TX0) (N := 18) hx hb hts hinX0 hown hK hP 0 rfl rfl 12 (by decide) hL76 (fun _ h9 => h9) rfl dX0_ofCrane_45 ?_
    exact W.iret (v := (D 23 0)) hx hb hr (fun t ht hW => ⟨⟨(D 23 0), (), rfl, h, by rw [ht]; exact hP, hD⟩, hS.F ht⟩) hS.2.2 dX0_ofCrane_48
  · have h := h.2 c_1
    by_cases c_2 : x = 1
    · have h := h.1 c_2
      refine lv_tableIn (off := 48) (tgt := 49) hx hb dX0_ofCrane_1 (by rw [c_2]; decide) (by rw [c_2]; decide) (by rw [c_2]; rfl) (by decide) ?_
      refine lv_aload_n hx hb dX0_ofCrane_49 rfl (lv_at hl 0 rfl) ?_
      refine kc_i (As := []) (rest := []) (wg := (fun _ => (wD cI q D))) ⟨hx, hb, hml, hown, hts⟩ (c_X0_hasTask l G cI cC cD q _ D  _ h) (cwV 0 hts gX0_ofCrane_X0_hasTask rfl rfl rfl (by decide +kernel) ⟨Nat.le_of_ble_eq_true rfl, Nat.le_of_ble_eq_true rfl⟩) hK hN hP hD hS hA (em_DD cI q D) (fun _ => rp_self (em_DD cI q D)) rfl rfl rfl rfl hl.1 rfl (Nat.le_of_ble_eq_true rfl) dX0_ofCrane_50 ⟨Nat.zero_le _, Nat.zero_le _⟩ (fun r_3 _ H locs h hP hD hS => ?_)
      refine lv_if_eq (tgt := 63) hx hb dX0_ofCrane_53 (by decide) (fun c_4 => ?_) (fun c_4 => ?_)
      · have h := h.1 c_4
        refine lv_ldc hx hb hown (hts (.constant RX0 207 (-1000004)) (by decide +kernel)) dX0_ofCrane_63 ?_
        exact W.iret (v := (-1000004)) hx hb hr (fun t ht hW => ⟨⟨(-1000004), (), rfl, h, by rw [ht]; exact hP, hD⟩, hS.F ht⟩) hS.2.2 dX0_ofCrane_65
      · have h := h.2 c_4
        refine lv_aload_n hx hb dX0_ofCrane_56 rfl (lv_at hl 0 rfl) ?_
        refine va_get (D := G) (ci := 0) (v := .int (D 24 0)) (C := RX0) (T := TX0) (N := 18) hx hb hts hinX0 hown hK hP 0 rfl rfl 13 (by decide) hL38 (fun _ h9 => h9) rfl dX0_ofCrane_57 ?_
        refine lv_goto (tgt := 65) hx hb dX0_ofCrane_60 (by decide) ?_
        exact W.iret (v := (D 24 0)) hx hb hr (fun t ht hW => ⟨⟨(D 24 0), (), rfl, h, by rw [ht]; exact hP, hD⟩, hS.F ht⟩) hS.2.2 dX0_ofCrane_65
    · have h := h.2 c_2
      by_cases c_5 : x = 2
      · have h := h.1 c_5
        refine lv_tableIn (off := 65) (tgt := 66) hx hb dX0_ofCrane_1 (by rw [c_5]; decide) (by rw [c_5]; decide) (by rw [c_5]; rfl) (by decide) ?_
        refine lv_aload_n hx hb dX0_ofCrane_66 rfl (lv_at hl 0 rfl) ?_
        refine kc_i (As := []) (rest := []) (wg := (fun _ => (wD cI q D))) ⟨hx, hb, hml, hown, hts⟩ (c_X0_hasTask l G cI cC cD q _ D  _ h) (cwV 0 hts gX0_ofCrane_X0_hasTask rfl rfl rfl (by decide +kernel) ⟨Nat.le_of_ble_eq_true rfl, Nat.le_of_ble_eq_true rfl⟩) hK hN hP hD hS hA (em_DD cI q D) (fun _ => rp_self (em_DD cI q D)) rfl rfl rfl rfl hl.1 rfl (Nat.le_of_ble_eq_true rfl) dX0_ofCrane_67 ⟨Nat.zero_le _, Nat.zero_le _⟩ (fun r_6 _ H locs h hP hD hS => ?_)
        refine lv_if_eq (tgt := 80) hx hb dX0_ofCrane_70 (by decide) (fun c_7 => ?_) (fun c_7 => ?_)
        · have h := h.1 c_7
          refine lv_ldc hx hb hown (hts (.constant RX0 207 (-1000004)) (by decide +kernel)) dX0_ofCrane_80 ?_
          exact W.iret (v := (-1000004)) hx hb hr (fun t ht hW => ⟨⟨(-1000004), (), rfl, h, by rw [ht]; exact hP, hD⟩, hS.F ht⟩) hS.2.2 dX0_ofCrane_82
        · have h := h.2 c_7
          refine lv_aload_n hx hb dX0_ofCrane_73 rfl (lv_at hl 0 rfl) ?_
          refine va_get (D := G) (ci := 0) (v := .int (D 25 0)) (C := RX0) (T := TX0) (N := 18) hx hb hts hinX0 hown hK hP 0 rfl rfl 14 (by decide) hL79 (fun _ h9 => h9) rfl dX0_ofCrane_74 ?_
          refine lv_goto (tgt := 82) hx hb dX0_ofCrane_77 (by decide) ?_
          exact W.iret (v := (D 25 0)) hx hb hr (fun t ht hW => ⟨⟨(D 25 0), (), rfl, h, by rw [ht]; exact hP, hD⟩, hS.F ht⟩) hS.2.2 dX0_ofCrane_82
      · have h := h.2 c_5
        by_cases c_8 : x = 3
        · have h := h.1 c_8
          refine lv_tableIn (off := 82) (tgt := 83) hx hb dX0_ofCrane_1 (by rw [c_8]; decide) (by rw [c_8]; decide) (by rw [c_8]; rfl) (by decide) ?_
          refine lv_aload_n hx hb dX0_ofCrane_83 rfl (lv_at hl 0 rfl) ?_
          refine va_get (D := G) (ci := 0) (v := .int (D 26 0)) (C := RX0) (T := TX0) (N := 18) hx hb hts hinX0 hown hK hP 0 rfl rfl 15 (by decide) hL82 (fun _ h9 => h9) rfl dX0_ofCrane_84 ?_
          exact W.iret (v := (D 26 0)) hx hb hr (fun t ht hW => ⟨⟨(D 26 0), (), rfl, h, by rw [ht]; exact hP, hD⟩, hS.F ht⟩) hS.2.2 dX0_ofCrane_87
        · have h := h.2 c_8
          by_cases c_9 : x = 4
          · have h := h.1 c_9
            refine lv_tableIn (off := 87) (tgt := 88) hx hb dX0_ofCrane_1 (by rw [c_9]; decide) (by rw [c_9]; decide) (by rw [c_9]; rfl) (by decide) ?_
            refine lv_aload_n hx hb dX0_ofCrane_88 rfl (lv_at hl 0 rfl) ?_
            refine va_get (D := G) (ci := 0) (v := .int (D 27 0)) (C := RX0) (T := TX0) (N := 18) hx hb hts hinX0 hown hK hP 0 rfl rfl 16 (by decide) hL85 (fun _ h9 => h9) rfl dX0_ofCrane_89 ?_
            exact W.iret (v := (D 27 0)) hx hb hr (fun t ht hW => ⟨⟨(D 27 0), (), rfl, h, by rw [ht]; exact hP, hD⟩, hS.F ht⟩) hS.2.2 dX0_ofCrane_92
          · have h := h.2 c_9
            by_cases c_10 : x = 5
            · have h := h.1 c_10
              refine lv_tableIn (off := 92) (tgt := 93) hx hb dX0_ofCrane_1 (by rw [c_10]; decide) (by rw [c_10]; decide) (by rw [c_10]; rfl) (by decide) ?_
              refine lv_aload_n hx hb dX0_ofCrane_93 rfl (lv_at hl 0 rfl) ?_
              refine va_get (D := G) (ci := 0) (v := .int (D 28 0)) (C := RX0) (T := TX0) (N := 18) hx hb hts hinX0 hown hK hP 0 rfl rfl 17 (by decide) hL88 (fun _ h9 => h9) rfl dX0_ofCrane_94 ?_
              exact W.iret (v := (D 28 0)) hx hb hr (fun t ht hW => ⟨⟨(D 28 0), (), rfl, h, by rw [ht]; exact hP, hD⟩, hS.F ht⟩) hS.2.2 dX0_ofCrane_97
            · have h := h.2 c_10
              by_cases c_11 : x = 6
              · have h := h.1 c_11
                refine lv_tableIn (off := 97) (tgt := 98) hx hb dX0_ofCrane_1 (by rw [c_11]; decide) (by rw [c_11]; decide) (by rw [c_11]; rfl) (by decide) ?_
                refine lv_aload_n hx hb dX0_ofCrane_98 rfl (lv_at hl 0 rfl) ?_
                refine va_get (D := G) (ci := 0) (v := .ref (q 10)) (C := RX0) (T := TX0) (N := 18) hx hb hts hinX0 hown hK hP 0 rfl rfl 2 (by decide) hL27 (fun _ h9 => h9) rfl dX0_ofCrane_99 ?_
                refine kc_i (As := []) (rest := []) (wg := (fun _ => (wD cI q D))) ⟨hx, hb, hml, hown, hts⟩ (c_X4_size l G cI cC cD (q 10) (q 11) (q 12) _ (fun i => D (10 + i))  _ h) (cwV 0 hts gX0_ofCrane_X4_size rfl rfl rfl (by decide +kernel) ⟨Nat.le_of_ble_eq_true rfl, Nat.le_of_ble_eq_true rfl⟩) hK hN hP hD hS hA (em_DK cI q D) (fun _ => rp_self (em_DK cI q D)) rfl rfl rfl rfl hl.1 rfl (Nat.le_of_ble_eq_true rfl) dX0_ofCrane_102 ⟨Nat.zero_le _, Nat.zero_le _⟩ (fun r_12 _ H locs h hP hD hS => ?_)
                exact W.iret (v := r_12) hx hb hr (fun t ht hW => ⟨⟨r_12, (), rfl, h, by rw [ht]; exact hP, hD⟩, hS.F ht⟩) hS.2.2 dX0_ofCrane_105
              · have h := h.2 c_11
                have ho : (x).toInt < 0 ∨ 6 < (x).toInt := by
                  have n0 := sw_o (a := 0) c_1 (by decide)
                  have n1 := sw_o (a := 1) c_2 (by decide)
                  have n2 := sw_o (a := 2) c_5 (by decide)
                  have n3 := sw_o (a := 3) c_8 (by decide)
                  have n4 := sw_o (a := 4) c_9 (by decide)
                  have n5 := sw_o (a := 5) c_10 (by decide)
                  have n6 := sw_o (a := 6) c_11 (by decide)
                  omega
                refine lv_tableOut (tgt := 106) hx hb dX0_ofCrane_1 ho (by decide) ?_
                refine lv_ldc hx hb hown (hts (.constant RX0 91 (-1000001)) (by decide +kernel)) dX0_ofCrane_106 ?_
                exact W.iret (v := (-1000001)) hx hb hr (fun t ht hW => ⟨⟨(-1000001), (), rfl, h, by rw [ht]; exact hP, hD⟩, hS.F ht⟩) hS.2.2 dX0_ofCrane_108
def q_X0_gateIn_O (x : Int32) (D : St) (Q : Int32 → Prop) : Prop :=
  (0 ≤ x → q_X4_size (fun i => D (6 + i)) (fun r_2 => (r_2 ≤ x → Q (-1000004)) ∧ (¬ (r_2 ≤ x) → q_X4_gateAt x (fun i => D (6 + i)) (fun r_4 => Q r_4)))) ∧ (¬ (0 ≤ x) → Q (-1000001))
set_option maxHeartbeats 4000000 in
set_option maxRecDepth 100000 in
theorem c_X0_gateIn_O (l : Launch) (G : va_G) (cI cC cD : ClassId) (q : Nat → Nat) (sz : Nat) (D : St) (x : Int32) (Q : Int32 → Prop) (h : q_X0_gateIn_O x D Q) : Met l yX0_gateIn wsX0_gateIn ({ frames := 1, cells := 0, slots := 0, locals := 21 }) (va_Pc [.ref (q 0), .ref (q 7), .int x] (PW G (ty3 cI cC cD) (wD cI q D) sz)) (va_Qi (fun (r : Int32) (_ : Unit) => Q r) (BW G (fun _ : Unit => (wD cI q D)) (va_A (wD cI q D) sz)) (va_A (wD cI q D) sz)) 0 0 (va_A (wD cI q D) sz) := by
  refine Met.ofW (cc := cX0_gateIn) (maxL := 3) (ret := (some .int)) (by decide) rfl ?_
  intro p e s m args below meth c s₁ B hml hv
  obtain ⟨rfl, hsz, hP, hK, hD0, hN⟩ := hv
  have hx := B.exec
  have hb := B.bytes
  have hr := B.returns
  have hts := atoms_spec (ws := wsX0_gateIn) B.pre
  have hown : s.vm.findClass RX0 = some m.cls := findClass_of_methodNamed B.named
  have hlocks := B.notSynchronized
  subst hsz
  have hD := hD0.self (sz := s.heap.size)
  generalize hAe : va_A (wD cI q D) s.heap.size = A at hD ⊢
  have hA : ∀ q : Nat, s.heap.size ≤ q → A q := fun q h => by rw [← hAe]; exact Or.inr h
  have hS : va_S A s.heap s.heap [] := va_S.rf
  have hl := lv_entry ([.ref (q 0), .ref (q 7), .int x]) (n := 3) (Nat.le_of_ble_eq_true rfl)
  rw [lg_entry_eq]
  generalize (lg_sl ([.ref (q 0), .ref (q 7), .int x]) ++ List.replicate (3 - (lg_sl ([.ref (q 0), .ref (q 7), .int x])).length) Slot.unset).toArray = ls at hl ⊢
  have hl : lv_has ls 3 [(0, .ref (q 0)), (1, .ref (q 7)), (2, .int x)] := hl
  unfold q_X0_gateIn_O at h
  refine lv_iload_n hx hb dX0_gateIn_0 rfl (lv_at hl 2 rfl) ?_
  refine lv_if_ge (tgt := 7) hx hb dX0_gateIn_1 (by decide) (fun c_1 => ?_) (fun c_1 => ?_)
  · have h := h.1 c_1
    refine lv_iload_n hx hb dX0_gateIn_7 rfl (lv_at hl 2 rfl) ?_
    refine lv_aload_n hx hb dX0_gateIn_8 rfl (lv_at hl 1 rfl) ?_
    refine kc_i (As := []) (rest := [.int x]) (wg := (fun _ => (wD cI q D))) ⟨hx, hb, hml, hown, hts⟩ (c_X4_size l G cI cC cD (q 7) (q 8) (q 9) _ (fun i => D (6 + i))  _ h) (cwV 0 hts gX0_gateIn_X4_size rfl rfl rfl (by decide +kernel) ⟨Nat.le_of_ble_eq_true rfl, Nat.le_of_ble_eq_true rfl⟩) hK hN hP hD hS hA (em_DO cI q D) (fun _ => rp_self (em_DO cI q D)) rfl rfl rfl rfl hl.1 rfl (Nat.le_of_ble_eq_true rfl) dX0_gateIn_9 ⟨Nat.zero_le _, Nat.zero_le _⟩ (fun r_2 _ H locs h hP hD hS => ?_)
    refine lv_icmp_ge (tgt := 23) hx hb dX0_gateIn_12 (by decide) (fun c_3 => ?_) (fun c_3 => ?_)
    · have h := h.1 c_3
      refine lv_ldc hx hb hown (hts (.constant RX0 207 (-1000004)) (by decide +kernel)) dX0_gateIn_23 ?_
      exact W.iret (v := (-1000004)) hx hb hr (fun t ht hW => ⟨⟨(-1000004), (), rfl, h, by rw [ht]; exact hP, hD⟩, hS.F ht⟩) hS.2.2 dX0_gateIn_25
    · have h := h.2 c_3
      refine lv_aload_n hx hb dX0_gateIn_15 rfl (lv_at hl 1 rfl) ?_
      refine lv_iload_n hx hb dX0_gateIn_16 rfl (lv_at hl 2 rfl) ?_
      refine kc_i (As := [.int x]) (rest := []) (wg := (fun _ => (wD cI q D))) ⟨hx, hb, hml, hown, hts⟩ (c_X4_gateAt l G cI cC cD (q 7) (q 8) (q 9) _ (fun i => D (6 + i)) x _ h) (cwV 1 hts gX0_gateIn_X4_gateAt rfl rfl rfl (by decide +kernel) ⟨Nat.le_of_ble_eq_true rfl, Nat.le_of_ble_eq_true rfl⟩) hK hN hP hD hS hA (em_DO cI q D) (fun _ => rp_self (em_DO cI q D)) rfl rfl rfl rfl hl.1 rfl (Nat.le_of_ble_eq_true rfl) dX0_gateIn_17 ⟨Nat.zero_le _, Nat.zero_le _⟩ (fun r_4 _ H locs h hP hD hS => ?_)
      refine lv_goto (tgt := 25) hx hb dX0_gateIn_20 (by decide) ?_
      exact W.iret (v := r_4) hx hb hr (fun t ht hW => ⟨⟨r_4, (), rfl, h, by rw [ht]; exact hP, hD⟩, hS.F ht⟩) hS.2.2 dX0_gateIn_25
  · have h := h.2 c_1
    refine lv_ldc hx hb hown (hts (.constant RX0 91 (-1000001)) (by decide +kernel)) dX0_gateIn_4 ?_
    exact W.iret (v := (-1000001)) hx hb hr (fun t ht hW => ⟨⟨(-1000001), (), rfl, h, by rw [ht]; exact hP, hD⟩, hS.F ht⟩) hS.2.2 dX0_gateIn_6
def q_X0_gateIn_K (x : Int32) (D : St) (Q : Int32 → Prop) : Prop :=
  (0 ≤ x → q_X4_size (fun i => D (10 + i)) (fun r_2 => (r_2 ≤ x → Q (-1000004)) ∧ (¬ (r_2 ≤ x) → q_X4_gateAt x (fun i => D (10 + i)) (fun r_4 => Q r_4)))) ∧ (¬ (0 ≤ x) → Q (-1000001))
set_option maxHeartbeats 4000000 in
set_option maxRecDepth 100000 in
theorem c_X0_gateIn_K (l : Launch) (G : va_G) (cI cC cD : ClassId) (q : Nat → Nat) (sz : Nat) (D : St) (x : Int32) (Q : Int32 → Prop) (h : q_X0_gateIn_K x D Q) : Met l yX0_gateIn wsX0_gateIn ({ frames := 1, cells := 0, slots := 0, locals := 21 }) (va_Pc [.ref (q 0), .ref (q 10), .int x] (PW G (ty3 cI cC cD) (wD cI q D) sz)) (va_Qi (fun (r : Int32) (_ : Unit) => Q r) (BW G (fun _ : Unit => (wD cI q D)) (va_A (wD cI q D) sz)) (va_A (wD cI q D) sz)) 0 0 (va_A (wD cI q D) sz) := by
  refine Met.ofW (cc := cX0_gateIn) (maxL := 3) (ret := (some .int)) (by decide) rfl ?_
  intro p e s m args below meth c s₁ B hml hv
  obtain ⟨rfl, hsz, hP, hK, hD0, hN⟩ := hv
  have hx := B.exec
  have hb := B.bytes
  have hr := B.returns
  have hts := atoms_spec (ws := wsX0_gateIn) B.pre
  have hown : s.vm.findClass RX0 = some m.cls := findClass_of_methodNamed B.named
  have hlocks := B.notSynchronized
  subst hsz
  have hD := hD0.self (sz := s.heap.size)
  generalize hAe : va_A (wD cI q D) s.heap.size = A at hD ⊢
  have hA : ∀ q : Nat, s.heap.size ≤ q → A q := fun q h => by rw [← hAe]; exact Or.inr h
  have hS : va_S A s.heap s.heap [] := va_S.rf
  have hl := lv_entry ([.ref (q 0), .ref (q 10), .int x]) (n := 3) (Nat.le_of_ble_eq_true rfl)
  rw [lg_entry_eq]
  generalize (lg_sl ([.ref (q 0), .ref (q 10), .int x]) ++ List.replicate (3 - (lg_sl ([.ref (q 0), .ref (q 10), .int x])).length) Slot.unset).toArray = ls at hl ⊢
  have hl : lv_has ls 3 [(0, .ref (q 0)), (1, .ref (q 10)), (2, .int x)] := hl
  unfold q_X0_gateIn_K at h
  refine lv_iload_n hx hb dX0_gateIn_0 rfl (lv_at hl 2 rfl) ?_
  refine lv_if_ge (tgt := 7) hx hb dX0_gateIn_1 (by decide) (fun c_1 => ?_) (fun c_1 => ?_)
  · have h := h.1 c_1
    refine lv_iload_n hx hb dX0_gateIn_7 rfl (lv_at hl 2 rfl) ?_
    refine lv_aload_n hx hb dX0_gateIn_8 rfl (lv_at hl 1 rfl) ?_
    refine kc_i (As := []) (rest := [.int x]) (wg := (fun _ => (wD cI q D))) ⟨hx, hb, hml, hown, hts⟩ (c_X4_size l G cI cC cD (q 10) (q 11) (q 12) _ (fun i => D (10 + i))  _ h) (cwV 0 hts gX0_gateIn_X4_size rfl rfl rfl (by decide +kernel) ⟨Nat.le_of_ble_eq_true rfl, Nat.le_of_ble_eq_true rfl⟩) hK hN hP hD hS hA (em_DK cI q D) (fun _ => rp_self (em_DK cI q D)) rfl rfl rfl rfl hl.1 rfl (Nat.le_of_ble_eq_true rfl) dX0_gateIn_9 ⟨Nat.zero_le _, Nat.zero_le _⟩ (fun r_2 _ H locs h hP hD hS => ?_)
    refine lv_icmp_ge (tgt := 23) hx hb dX0_gateIn_12 (by decide) (fun c_3 => ?_) (fun c_3 => ?_)
    · have h := h.1 c_3
      refine lv_ldc hx hb hown (hts (.constant RX0 207 (-1000004)) (by decide +kernel)) dX0_gateIn_23 ?_
      exact W.iret (v := (-1000004)) hx hb hr (fun t ht hW => ⟨⟨(-1000004), (), rfl, h, by rw [ht]; exact hP, hD⟩, hS.F ht⟩) hS.2.2 dX0_gateIn_25
    · have h := h.2 c_3
      refine lv_aload_n hx hb dX0_gateIn_15 rfl (lv_at hl 1 rfl) ?_
      refine lv_iload_n hx hb dX0_gateIn_16 rfl (lv_at hl 2 rfl) ?_
      refine kc_i (As := [.int x]) (rest := []) (wg := (fun _ => (wD cI q D))) ⟨hx, hb, hml, hown, hts⟩ (c_X4_gateAt l G cI cC cD (q 10) (q 11) (q 12) _ (fun i => D (10 + i)) x _ h) (cwV 1 hts gX0_gateIn_X4_gateAt rfl rfl rfl (by decide +kernel) ⟨Nat.le_of_ble_eq_true rfl, Nat.le_of_ble_eq_true rfl⟩) hK hN hP hD hS hA (em_DK cI q D) (fun _ => rp_self (em_DK cI q D)) rfl rfl rfl rfl hl.1 rfl (Nat.le_of_ble_eq_true rfl) dX0_gateIn_17 ⟨Nat.zero_le _, Nat.zero_le _⟩ (fun r_4 _ H locs h hP hD hS => ?_)
      refine lv_goto (tgt := 25) hx hb dX0_gateIn_20 (by decide) ?_
      exact W.iret (v := r_4) hx hb hr (fun t ht hW => ⟨⟨r_4, (), rfl, h, by rw [ht]; exact hP, hD⟩, hS.F ht⟩) hS.2.2 dX0_gateIn_25
  · have h := h.2 c_1
    refine lv_ldc hx hb hown (hts (.constant RX0 91 (-1000001)) (by decide +kernel)) dX0_gateIn_4 ?_
    exact W.iret (v := (-1000001)) hx hb hr (fun t ht hW => ⟨⟨(-1000001), (), rfl, h, by rw [ht]; exact hP, hD⟩, hS.F ht⟩) hS.2.2 dX0_gateIn_6
def q_X0_gateOfOrder (x : Int32) (D : St) (Q : Int32 → Prop) : Prop :=
  q_X0_gateIn_O x D (fun r_1 => Q r_1)
set_option maxHeartbeats 4000000 in
set_option maxRecDepth 100000 in
theorem c_X0_gateOfOrder (l : Launch) (G : va_G) (cI cC cD : ClassId) (q : Nat → Nat) (sz : Nat) (D : St) (x : Int32) (Q : Int32 → Prop) (h : q_X0_gateOfOrder x D Q) : Met l yX0_gateOfOrder wsX0_gateOfOrder ({ frames := 2, cells := 0, slots := 0, locals := 43 }) (va_Pc [.ref (q 0), .int x] (PW G (ty3 cI cC cD) (wD cI q D) sz)) (va_Qi (fun (r : Int32) (_ : Unit) => Q r) (BW G (fun _ : Unit => (wD cI q D)) (va_A (wD cI q D) sz)) (va_A (wD cI q D) sz)) 0 0 (va_A (wD cI q D) sz) := by
  refine Met.ofW (cc := cX0_gateOfOrder) (maxL := 2) (ret := (some .int)) (by decide) rfl ?_
  intro p e s m args below meth c s₁ B hml hv
  obtain ⟨rfl, hsz, hP, hK, hD0, hN⟩ := hv
  have hx := B.exec
  have hb := B.bytes
  have hr := B.returns
  have hts := atoms_spec (ws := wsX0_gateOfOrder) B.pre
  have hown : s.vm.findClass RX0 = some m.cls := findClass_of_methodNamed B.named
  have hlocks := B.notSynchronized
  subst hsz
  have hD := hD0.self (sz := s.heap.size)
  generalize hAe : va_A (wD cI q D) s.heap.size = A at hD ⊢
  have hA : ∀ q : Nat, s.heap.size ≤ q → A q := fun q h => by rw [← hAe]; exact Or.inr h
  have hS : va_S A s.heap s.heap [] := va_S.rf
  have hl := lv_entry ([.ref (q 0), .int x]) (n := 2) (Nat.le_of_ble_eq_true rfl)
  rw [lg_entry_eq]
  generalize (lg_sl ([.ref (q 0), .int x]) ++ List.replicate (2 - (lg_sl ([.ref (q 0), .int x])).length) Slot.unset).toArray = ls at hl ⊢
  have hl : lv_has ls 2 [(0, .ref (q 0)), (1, .int x)] := hl
  have hinX0 : ∀ w ∈ wsX00, w ∈ wsX0_gateOfOrder := by decide +kernel
  have hL23 := hts (.fieldLink RX0 23 "CraneGates$Dam" "orders" "LCraneGates$Tasks;") (by decide +kernel)
  unfold q_X0_gateOfOrder at h
  refine lv_aload_n hx hb dX0_gateOfOrder_0 rfl (lv_at hl 0 rfl) ?_
  refine lv_aload_n hx hb dX0_gateOfOrder_1 rfl (lv_at hl 0 rfl) ?_
  refine va_get (D := G) (ci := 0) (v := .ref (q 7)) (C := RX0) (T := TX0) (N := 18) hx hb hts hinX0 hown hK hP 0 rfl rfl 1 (by decide) hL23 (fun _ h9 => h9) rfl dX0_gateOfOrder_2 ?_
  refine lv_iload_n hx hb dX0_gateOfOrder_5 rfl (lv_at hl 1 rfl) ?_
  refine kc_i (As := [.ref (q 7), .int x]) (rest := []) (wg := (fun _ => (wD cI q D))) ⟨hx, hb, hml, hown, hts⟩ (c_X0_gateIn_O l G cI cC cD q _ D x _ h) (cwV 2 hts gX0_gateOfOrder_X0_gateIn rfl rfl rfl (by decide +kernel) ⟨Nat.le_of_ble_eq_true rfl, Nat.le_of_ble_eq_true rfl⟩) hK hN hP hD hS hA (em_DD cI q D) (fun _ => rp_self (em_DD cI q D)) rfl rfl rfl rfl hl.1 rfl (Nat.le_of_ble_eq_true rfl) dX0_gateOfOrder_6 ⟨Nat.zero_le _, Nat.zero_le _⟩ (fun r_1 _ H locs h hP hD hS => ?_)
  exact W.iret (v := r_1) hx hb hr (fun t ht hW => ⟨⟨r_1, (), rfl, h, by rw [ht]; exact hP, hD⟩, hS.F ht⟩) hS.2.2 dX0_gateOfOrder_9
def q_X0_gateOfMark (x : Int32) (D : St) (Q : Int32 → Prop) : Prop :=
  q_X0_gateIn_K x D (fun r_1 => Q r_1)
set_option maxHeartbeats 4000000 in
set_option maxRecDepth 100000 in
theorem c_X0_gateOfMark (l : Launch) (G : va_G) (cI cC cD : ClassId) (q : Nat → Nat) (sz : Nat) (D : St) (x : Int32) (Q : Int32 → Prop) (h : q_X0_gateOfMark x D Q) : Met l yX0_gateOfMark wsX0_gateOfMark ({ frames := 2, cells := 0, slots := 0, locals := 43 }) (va_Pc [.ref (q 0), .int x] (PW G (ty3 cI cC cD) (wD cI q D) sz)) (va_Qi (fun (r : Int32) (_ : Unit) => Q r) (BW G (fun _ : Unit => (wD cI q D)) (va_A (wD cI q D) sz)) (va_A (wD cI q D) sz)) 0 0 (va_A (wD cI q D) sz) := by
  refine Met.ofW (cc := cX0_gateOfMark) (maxL := 2) (ret := (some .int)) (by decide) rfl ?_
  intro p e s m args below meth c s₁ B hml hv
  obtain ⟨rfl, hsz, hP, hK, hD0, hN⟩ := hv
  have hx := B.exec
  have hb := B.bytes
  have hr := B.returns
  have hts := atoms_spec (ws := wsX0_gateOfMark) B.pre
  have hown : s.vm.findClass RX0 = some m.cls := findClass_of_methodNamed B.named
  have hlocks := B.notSynchronized
  subst hsz
  have hD := hD0.self (sz := s.heap.size)
  generalize hAe : va_A (wD cI q D) s.heap.size = A at hD ⊢
  have hA : ∀ q : Nat, s.heap.size ≤ q → A q := fun q h => by rw [← hAe]; exact Or.inr h
  have hS : va_S A s.heap s.heap [] := va_S.rf
  have hl := lv_entry ([.ref (q 0), .int x]) (n := 2) (Nat.le_of_ble_eq_true rfl)
  rw [lg_entry_eq]
  generalize (lg_sl ([.ref (q 0), .int x]) ++ List.replicate (2 - (lg_sl ([.ref (q 0), .int x])).length) Slot.unset).toArray = ls at hl ⊢
  have hl : lv_has ls 2 [(0, .ref (q 0)), (1, .int x)] := hl
  have hinX0 : ∀ w ∈ wsX00, w ∈ wsX0_gateOfMark := by decide +kernel
  have hL27 := hts (.fieldLink RX0 27 "CraneGates$Dam" "marks" "LCraneGates$Tasks;") (by decide +kernel)
  unfold q_X0_gateOfMark at h
  refine lv_aload_n hx hb dX0_gateOfMark_0 rfl (lv_at hl 0 rfl) ?_
  refine lv_aload_n hx hb dX0_gateOfMark_1 rfl (lv_at hl 0 rfl) ?_
  refine va_get (D := G) (ci := 0) (v := .ref (q 10)) (C := RX0) (T := TX0) (N := 18) hx hb hts hinX0 hown hK hP 0 rfl rfl 2 (by decide) hL27 (fun _ h9 => h9) rfl dX0_gateOfMark_2 ?_
  refine lv_iload_n hx hb dX0_gateOfMark_5 rfl (lv_at hl 1 rfl) ?_
  refine kc_i (As := [.ref (q 10), .int x]) (rest := []) (wg := (fun _ => (wD cI q D))) ⟨hx, hb, hml, hown, hts⟩ (c_X0_gateIn_K l G cI cC cD q _ D x _ h) (cwV 2 hts gX0_gateOfMark_X0_gateIn rfl rfl rfl (by decide +kernel) ⟨Nat.le_of_ble_eq_true rfl, Nat.le_of_ble_eq_true rfl⟩) hK hN hP hD hS hA (em_DD cI q D) (fun _ => rp_self (em_DD cI q D)) rfl rfl rfl rfl hl.1 rfl (Nat.le_of_ble_eq_true rfl) dX0_gateOfMark_6 ⟨Nat.zero_le _, Nat.zero_le _⟩ (fun r_1 _ H locs h hP hD hS => ?_)
  exact W.iret (v := r_1) hx hb hr (fun t ht hW => ⟨⟨r_1, (), rfl, h, by rw [ht]; exact hP, hD⟩, hS.F ht⟩) hS.2.2 dX0_gateOfMark_9
def q_X0_outlook (x : Int32) (D : St) (Q : Int32 → Prop) : Prop :=
  (x = 0 → Q (D 15 0)) ∧ (¬ (x = 0) → (x = 1 → Q (D 23 0)) ∧ (¬ (x = 1) → (x = 2 → q_X4_size (fun i => D (10 + i)) (fun r_4 => Q r_4)) ∧ (¬ (x = 2) → (x = 3 → q_X4_size (fun i => D (6 + i)) (fun r_6 => Q r_6)) ∧ (¬ (x = 3) → (x = 4 → ((D 21 0) = 0 → Q 0) ∧ (¬ ((D 21 0) = 0) → Q 1)) ∧ (¬ (x = 4) → (x < 10 → Q (-1000001)) ∧ (¬ (x < 10) → q_X1_has (x - 10) D (fun r_10 => (r_10 = 0 → Q (-1000001)) ∧ (¬ (r_10 = 0) → q_X1_opening (x - 10) D (fun r_12 => Q r_12)))))))))
set_option maxHeartbeats 4000000 in
set_option maxRecDepth 100000 in
theorem c_X0_outlook (l : Launch) (G : va_G) (cI cC cD : ClassId) (q : Nat → Nat) (sz : Nat) (D : St) (x : Int32) (Q : Int32 → Prop) (h : q_X0_outlook x D Q) : Met l yX0_outlook wsX0_outlook ({ frames := 1, cells := 0, slots := 0, locals := 21 }) (va_Pc [.ref (q 0), .int x] (PW G (ty3 cI cC cD) (wD cI q D) sz)) (va_Qi (fun (r : Int32) (_ : Unit) => Q r) (BW G (fun _ : Unit => (wD cI q D)) (va_A (wD cI q D) sz)) (va_A (wD cI q D) sz)) 0 0 (va_A (wD cI q D) sz) := by
  refine Met.ofW (cc := cX0_outlook) (maxL := 2) (ret := (some .int)) (by decide) rfl ?_
  intro p e s m args below meth c s₁ B hml hv
  obtain ⟨rfl, hsz, hP, hK, hD0, hN⟩ := hv
  have hx := B.exec
  have hb := B.bytes
  have hr := B.returns
  have hts := atoms_spec (ws := wsX0_outlook) B.pre
  have hown : s.vm.findClass RX0 = some m.cls := findClass_of_methodNamed B.named
  have hlocks := B.notSynchronized
  subst hsz
  have hD := hD0.self (sz := s.heap.size)
  generalize hAe : va_A (wD cI q D) s.heap.size = A at hD ⊢
  have hA : ∀ q : Nat, s.heap.size ≤ q → A q := fun q h => by rw [← hAe]; exact Or.inr h
  have hS : va_S A s.heap s.heap [] := va_S.rf
  have hl := lv_entry ([.ref (q 0), .int x]) (n := 2) (Nat.le_of_ble_eq_true rfl)
  rw [lg_entry_eq]
  generalize (lg_sl ([.ref (q 0), .int x]) ++ List.replicate (2 - (lg_sl ([.ref (q 0), .int x])).length) Slot.unset).toArray = ls at hl ⊢
  have hl : lv_has ls 2 [(0, .ref (q 0)), (1, .int x)] := hl
  have hinX0 : ∀ w ∈ wsX00, w ∈ wsX0_outlook := by decide +kernel
  have hL12 := hts (.fieldLink RX0 12 "CraneGates$Dam" "gates" "LCraneGates$Gates;") (by decide +kernel)
  have hL23 := hts (.fieldLink RX0 23 "CraneGates$Dam" "orders" "LCraneGates$Tasks;") (by decide +kernel)
  have hL27 := hts (.fieldLink RX0 27 "CraneGates$Dam" "marks" "LCraneGates$Tasks;") (by decide +kernel)
  have hL34 := hts (.fieldLink RX0 34 "CraneGates$Dam" "water" "I") (by decide +kernel)
  have hL69 := hts (.fieldLink RX0 69 "CraneGates$Dam" "flooded" "Z") (by decide +kernel)
  have hL76 := hts (.fieldLink RX0 76 "CraneGates$Dam" "place" "I") (by decide +kernel)
  unfold q_X0_outlook at h
  refine lv_iload_n hx hb dX0_outlook_0 rfl (lv_at hl 1 rfl) ?_
  by_cases c_1 : x = 0
  · have h := h.1 c_1
    refine lv_tableIn (off := 35) (tgt := 36) hx hb dX0_outlook_1 (by rw [c_1]; decide) (by rw [c_1]; decide) (by rw [c_1]; rfl) (by decide) ?_
    refine lv_aload_n hx hb dX0_outlook_36 rfl (lv_at hl 0 rfl) ?_
    refine va_get (D := G) (ci := 0) (v := .int (D 15 0)) (C := RX0) (T := TX0) (N := 18) hx hb hts hinX0 hown hK hP 0 rfl rfl 4 (by decide) hL34 (fun _ h9 => h9) rfl dX0_outlook_37 ?_
    exact W.iret (v := (D 15 0)) hx hb hr (fun t ht hW => ⟨⟨(D 15 0), (), rfl, h, by rw [ht]; exact hP, hD⟩, hS.F ht⟩) hS.2.2 dX0_outlook_40
  · have h := h.2 c_1
    by_cases c_2 : x = 1
    · have h := h.1 c_2
      refine lv_tableIn (off := 40) (tgt := 41) hx hb dX0_outlook_1 (by rw [c_2]; decide) (by rw [c_2]; decide) (by rw [c_2]; rfl) (by decide) ?_
      refine lv_aload_n hx hb dX0_outlook_41 rfl (lv_at hl 0 rfl) ?_
      refine va_get (D := G) (ci := 0) (v := .int (D 23 0)) (C := RX0) (T := TX0) (N := 18) hx hb hts hinX0 hown hK hP 0 rfl rfl 12 (by decide) hL76 (fun _ h9 => h9) rfl dX0_outlook_42 ?_
      exact W.iret (v := (D 23 0)) hx hb hr (fun t ht hW => ⟨⟨(D 23 0), (), rfl, h, by rw [ht]; exact hP, hD⟩, hS.F ht⟩) hS.2.2 dX0_outlook_45
    · have h := h.2 c_2
      by_cases c_3 : x = 2
      · have h := h.1 c_3
        refine lv_tableIn (off := 45) (tgt := 46) hx hb dX0_outlook_1 (by rw [c_3]; decide) (by rw [c_3]; decide) (by rw [c_3]; rfl) (by decide) ?_
        refine lv_aload_n hx hb dX0_outlook_46 rfl (lv_at hl 0 rfl) ?_
        refine va_get (D := G) (ci := 0) (v := .ref (q 10)) (C := RX0) (T := TX0) (N := 18) hx hb hts hinX0 hown hK hP 0 rfl rfl 2 (by decide) hL27 (fun _ h9 => h9) rfl dX0_outlook_47 ?_
        refine kc_i (As := []) (rest := []) (wg := (fun _ => (wD cI q D))) ⟨hx, hb, hml, hown, hts⟩ (c_X4_size l G cI cC cD (q 10) (q 11) (q 12) _ (fun i => D (10 + i))  _ h) (cwV 0 hts gX0_outlook_X4_size rfl rfl rfl (by decide +kernel) ⟨Nat.le_of_ble_eq_true rfl, Nat.le_of_ble_eq_true rfl⟩) hK hN hP hD hS hA (em_DK cI q D) (fun _ => rp_self (em_DK cI q D)) rfl rfl rfl rfl hl.1 rfl (Nat.le_of_ble_eq_true rfl) dX0_outlook_50 ⟨Nat.zero_le _, Nat.zero_le _⟩ (fun r_4 _ H locs h hP hD hS => ?_)
        exact W.iret (v := r_4) hx hb hr (fun t ht hW => ⟨⟨r_4, (), rfl, h, by rw [ht]; exact hP, hD⟩, hS.F ht⟩) hS.2.2 dX0_outlook_53
      · have h := h.2 c_3
        by_cases c_5 : x = 3
        · have h := h.1 c_5
          refine lv_tableIn (off := 53) (tgt := 54) hx hb dX0_outlook_1 (by rw [c_5]; decide) (by rw [c_5]; decide) (by rw [c_5]; rfl) (by decide) ?_
          refine lv_aload_n hx hb dX0_outlook_54 rfl (lv_at hl 0 rfl) ?_
          refine va_get (D := G) (ci := 0) (v := .ref (q 7)) (C := RX0) (T := TX0) (N := 18) hx hb hts hinX0 hown hK hP 0 rfl rfl 1 (by decide) hL23 (fun _ h9 => h9) rfl dX0_outlook_55 ?_
          refine kc_i (As := []) (rest := []) (wg := (fun _ => (wD cI q D))) ⟨hx, hb, hml, hown, hts⟩ (c_X4_size l G cI cC cD (q 7) (q 8) (q 9) _ (fun i => D (6 + i))  _ h) (cwV 0 hts gX0_outlook_X4_size rfl rfl rfl (by decide +kernel) ⟨Nat.le_of_ble_eq_true rfl, Nat.le_of_ble_eq_true rfl⟩) hK hN hP hD hS hA (em_DO cI q D) (fun _ => rp_self (em_DO cI q D)) rfl rfl rfl rfl hl.1 rfl (Nat.le_of_ble_eq_true rfl) dX0_outlook_58 ⟨Nat.zero_le _, Nat.zero_le _⟩ (fun r_6 _ H locs h hP hD hS => ?_)
          exact W.iret (v := r_6) hx hb hr (fun t ht hW => ⟨⟨r_6, (), rfl, h, by rw [ht]; exact hP, hD⟩, hS.F ht⟩) hS.2.2 dX0_outlook_61
        · have h := h.2 c_5
          by_cases c_7 : x = 4
          · have h := h.1 c_7
            refine lv_tableIn (off := 61) (tgt := 62) hx hb dX0_outlook_1 (by rw [c_7]; decide) (by rw [c_7]; decide) (by rw [c_7]; rfl) (by decide) ?_
            refine lv_aload_n hx hb dX0_outlook_62 rfl (lv_at hl 0 rfl) ?_
            refine va_get (D := G) (ci := 0) (v := .int (D 21 0)) (C := RX0) (T := TX0) (N := 18) hx hb hts hinX0 hown hK hP 0 rfl rfl 10 (by decide) hL69 (fun _ h9 => h9) rfl dX0_outlook_63 ?_
            refine lv_if_eq (tgt := 73) hx hb dX0_outlook_66 (by decide) (fun c_8 => ?_) (fun c_8 => ?_)
            · have h := h.1 c_8
              refine lv_iconst (v := 0) hx hb dX0_outlook_73 (by decide) ?_
              exact W.iret (v := 0) hx hb hr (fun t ht hW => ⟨⟨0, (), rfl, h, by rw [ht]; exact hP, hD⟩, hS.F ht⟩) hS.2.2 dX0_outlook_74
            · have h := h.2 c_8
              refine lv_iconst (v := 1) hx hb dX0_outlook_69 (by decide) ?_
              refine lv_goto (tgt := 74) hx hb dX0_outlook_70 (by decide) ?_
              exact W.iret (v := 1) hx hb hr (fun t ht hW => ⟨⟨1, (), rfl, h, by rw [ht]; exact hP, hD⟩, hS.F ht⟩) hS.2.2 dX0_outlook_74
          · have h := h.2 c_7
            have ho : (x).toInt < 0 ∨ 4 < (x).toInt := by
              have n0 := sw_o (a := 0) c_1 (by decide)
              have n1 := sw_o (a := 1) c_2 (by decide)
              have n2 := sw_o (a := 2) c_3 (by decide)
              have n3 := sw_o (a := 3) c_5 (by decide)
              have n4 := sw_o (a := 4) c_7 (by decide)
              omega
            refine lv_tableOut (tgt := 75) hx hb dX0_outlook_1 ho (by decide) ?_
            refine lv_iload_n hx hb dX0_outlook_75 rfl (lv_at hl 1 rfl) ?_
            refine lv_bipush (v := 10) hx hb dX0_outlook_76 (by decide) ?_
            refine lv_icmp_lt (tgt := 109) hx hb dX0_outlook_78 (by decide) (fun c_9 => ?_) (fun c_9 => ?_)
            · have h := h.1 c_9
              refine lv_ldc hx hb hown (hts (.constant RX0 91 (-1000001)) (by decide +kernel)) dX0_outlook_109 ?_
              exact W.iret (v := (-1000001)) hx hb hr (fun t ht hW => ⟨⟨(-1000001), (), rfl, h, by rw [ht]; exact hP, hD⟩, hS.F ht⟩) hS.2.2 dX0_outlook_111
            · have h := h.2 c_9
              refine lv_aload_n hx hb dX0_outlook_81 rfl (lv_at hl 0 rfl) ?_
              refine va_get (D := G) (ci := 0) (v := .ref (q 1)) (C := RX0) (T := TX0) (N := 18) hx hb hts hinX0 hown hK hP 0 rfl rfl 0 (by decide) hL12 (fun _ h9 => h9) rfl dX0_outlook_82 ?_
              refine lv_iload_n hx hb dX0_outlook_85 rfl (lv_at hl 1 rfl) ?_
              refine lv_bipush (v := 10) hx hb dX0_outlook_86 (by decide) ?_
              refine lv_isub hx hb dX0_outlook_88 ?_
              refine kc_i (As := [.int (x - 10)]) (rest := []) (wg := (fun _ => (wD cI q D))) ⟨hx, hb, hml, hown, hts⟩ (c_X1_has l G cI cC cD (q 1) (q 2) (q 3) (q 4) (q 5) (q 6) _ D (x - 10) _ h) (cwV 1 hts gX0_outlook_X1_has rfl rfl rfl (by decide +kernel) ⟨Nat.le_of_ble_eq_true rfl, Nat.le_of_ble_eq_true rfl⟩) hK hN hP hD hS hA (em_DG cI q D) (fun _ => rp_self (em_DG cI q D)) rfl rfl rfl rfl hl.1 rfl (Nat.le_of_ble_eq_true rfl) dX0_outlook_89 ⟨Nat.zero_le _, Nat.zero_le _⟩ (fun r_10 _ H locs h hP hD hS => ?_)
              refine lv_if_eq (tgt := 109) hx hb dX0_outlook_92 (by decide) (fun c_11 => ?_) (fun c_11 => ?_)
              · have h := h.1 c_11
                refine lv_ldc hx hb hown (hts (.constant RX0 91 (-1000001)) (by decide +kernel)) dX0_outlook_109 ?_
                exact W.iret (v := (-1000001)) hx hb hr (fun t ht hW => ⟨⟨(-1000001), (), rfl, h, by rw [ht]; exact hP, hD⟩, hS.F ht⟩) hS.2.2 dX0_outlook_111
              · have h := h.2 c_11
                refine lv_aload_n hx hb dX0_outlook_95 rfl (lv_at hl 0 rfl) ?_
                refine va_get (D := G) (ci := 0) (v := .ref (q 1)) (C := RX0) (T := TX0) (N := 18) hx hb hts hinX0 hown hK hP 0 rfl rfl 0 (by decide) hL12 (fun _ h9 => h9) rfl dX0_outlook_96 ?_
                refine lv_iload_n hx hb dX0_outlook_99 rfl (lv_at hl 1 rfl) ?_
                refine lv_bipush (v := 10) hx hb dX0_outlook_100 (by decide) ?_
                refine lv_isub hx hb dX0_outlook_102 ?_
                refine kc_i (As := [.int (x - 10)]) (rest := []) (wg := (fun _ => (wD cI q D))) ⟨hx, hb, hml, hown, hts⟩ (c_X1_opening l G cI cC cD (q 1) (q 2) (q 3) (q 4) (q 5) (q 6) _ D (x - 10) _ h) (cwV 1 hts gX0_outlook_X1_opening rfl rfl rfl (by decide +kernel) ⟨Nat.le_of_ble_eq_true rfl, Nat.le_of_ble_eq_true rfl⟩) hK hN hP hD hS hA (em_DG cI q D) (fun _ => rp_self (em_DG cI q D)) rfl rfl rfl rfl hl.1 rfl (Nat.le_of_ble_eq_true rfl) dX0_outlook_103 ⟨Nat.zero_le _, Nat.zero_le _⟩ (fun r_12 _ H locs h hP hD hS => ?_)
                refine lv_goto (tgt := 111) hx hb dX0_outlook_106 (by decide) ?_
                exact W.iret (v := r_12) hx hb hr (fun t ht hW => ⟨⟨r_12, (), rfl, h, by rw [ht]; exact hP, hD⟩, hS.F ht⟩) hS.2.2 dX0_outlook_111
def q_X0_number (x : Int32) (D : St) (Q : Int32 → Prop) : Prop :=
  (x = 0 → q_X1_size D (fun r_2 => Q r_2)) ∧ (¬ (x = 0) → (x = 1 → Q (D 15 0)) ∧ (¬ (x = 1) → (x = 2 → Q (D 16 0)) ∧ (¬ (x = 2) → (x = 3 → q_X0_head D (fun r_6 => Q r_6)) ∧ (¬ (x = 3) → (x = 4 → Q (D 20 0)) ∧ (¬ (x = 4) → (x = 5 → Q (D 17 0)) ∧ (¬ (x = 5) → (x = 6 → Q (D 18 0)) ∧ (¬ (x = 6) → (x = 7 → Q (D 19 0)) ∧ (¬ (x = 7) → (x = 8 → q_X4_size (fun i => D (6 + i)) (fun r_12 => Q r_12)) ∧ (¬ (x = 8) → (x = 9 → ((D 21 0) = 0 → Q 0) ∧ (¬ ((D 21 0) = 0) → Q 1)) ∧ (¬ (x = 9) → (x = 10 → Q (D 22 0)) ∧ (¬ (x = 10) → (x = 11 → Q (-1000001)) ∧ (¬ (x = 11) → (x = 12 → Q (-1000001)) ∧ (¬ (x = 12) → (x = 13 → Q (-1000001)) ∧ (¬ (x = 13) → (x = 14 → Q (-1000001)) ∧ (¬ (x = 14) → (x = 15 → Q (-1000001)) ∧ (¬ (x = 15) → (x = 16 → Q (-1000001)) ∧ (¬ (x = 16) → (x = 17 → Q (-1000001)) ∧ (¬ (x = 17) → (x = 18 → Q (-1000001)) ∧ (¬ (x = 18) → (x = 19 → Q (-1000001)) ∧ (¬ (x = 19) → (x = 20 → Q ((D 14) 0)) ∧ (¬ (x = 20) → (x = 21 → Q ((D 14) 1)) ∧ (¬ (x = 21) → (x = 22 → Q ((D 14) 2)) ∧ (¬ (x = 22) → Q (-1000001))))))))))))))))))))))))
set_option maxHeartbeats 4000000 in
set_option maxRecDepth 100000 in
theorem c_X0_number (l : Launch) (G : va_G) (cI cC cD : ClassId) (q : Nat → Nat) (sz : Nat) (D : St) (x : Int32) (Q : Int32 → Prop) (h : q_X0_number x D Q) : Met l yX0_number wsX0_number ({ frames := 1, cells := 0, slots := 0, locals := 20 }) (va_Pc [.ref (q 0), .int x] (PW G (ty3 cI cC cD) (wD cI q D) sz)) (va_Qi (fun (r : Int32) (_ : Unit) => Q r) (BW G (fun _ : Unit => (wD cI q D)) (va_A (wD cI q D) sz)) (va_A (wD cI q D) sz)) 0 0 (va_A (wD cI q D) sz) := by
  refine Met.ofW (cc := cX0_number) (maxL := 2) (ret := (some .int)) (by decide) rfl ?_
  intro p e s m args below meth c s₁ B hml hv
  obtain ⟨rfl, hsz, hP, hK, hD0, hN⟩ := hv
  have hx := B.exec
  have hb := B.bytes
  have hr := B.returns
  have hts := atoms_spec (ws := wsX0_number) B.pre
  have hown : s.vm.findClass RX0 = some m.cls := findClass_of_methodNamed B.named
  have hlocks := B.notSynchronized
  subst hsz
  have hD := hD0.self (sz := s.heap.size)
  generalize hAe : va_A (wD cI q D) s.heap.size = A at hD ⊢
  have hA : ∀ q : Nat, s.heap.size ≤ q → A q := fun q h => by rw [← hAe]; exact Or.inr h
  have hS : va_S A s.heap s.heap [] := va_S.rf
  have hl := lv_entry ([.ref (q 0), .int x]) (n := 2) (Nat.le_of_ble_eq_true rfl)
  rw [lg_entry_eq]
  generalize (lg_sl ([.ref (q 0), .int x]) ++ List.replicate (2 - (lg_sl ([.ref (q 0), .int x])).length) Slot.unset).toArray = ls at hl ⊢
  have hl : lv_has ls 2 [(0, .ref (q 0)), (1, .int x)] := hl
  have hinX0 : ∀ w ∈ wsX00, w ∈ wsX0_number := by decide +kernel
  have hL12 := hts (.fieldLink RX0 12 "CraneGates$Dam" "gates" "LCraneGates$Gates;") (by decide +kernel)
  have hL23 := hts (.fieldLink RX0 23 "CraneGates$Dam" "orders" "LCraneGates$Tasks;") (by decide +kernel)
  have hL30 := hts (.fieldLink RX0 30 "CraneGates$Dam" "settings" "[I") (by decide +kernel)
  have hL34 := hts (.fieldLink RX0 34 "CraneGates$Dam" "water" "I") (by decide +kernel)
  have hL54 := hts (.fieldLink RX0 54 "CraneGates$Dam" "inflow" "I") (by decide +kernel)
  have hL57 := hts (.fieldLink RX0 57 "CraneGates$Dam" "waterIn" "I") (by decide +kernel)
  have hL60 := hts (.fieldLink RX0 60 "CraneGates$Dam" "waterOut" "I") (by decide +kernel)
  have hL63 := hts (.fieldLink RX0 63 "CraneGates$Dam" "waterOver" "I") (by decide +kernel)
  have hL66 := hts (.fieldLink RX0 66 "CraneGates$Dam" "minutesSoFar" "I") (by decide +kernel)
  have hL69 := hts (.fieldLink RX0 69 "CraneGates$Dam" "flooded" "Z") (by decide +kernel)
  have hL73 := hts (.fieldLink RX0 73 "CraneGates$Dam" "floods" "I") (by decide +kernel)
  unfold q_X0_number at h
  refine lv_iload_n hx hb dX0_number_0 rfl (lv_at hl 1 rfl) ?_
  by_cases c_1 : x = 0
  · have h := h.1 c_1
    refine lv_tableIn (off := 107) (tgt := 108) hx hb dX0_number_1 (by rw [c_1]; decide) (by rw [c_1]; decide) (by rw [c_1]; rfl) (by decide) ?_
    refine lv_aload_n hx hb dX0_number_108 rfl (lv_at hl 0 rfl) ?_
    refine va_get (D := G) (ci := 0) (v := .ref (q 1)) (C := RX0) (T := TX0) (N := 18) hx hb hts hinX0 hown hK hP 0 rfl rfl 0 (by decide) hL12 (fun _ h9 => h9) rfl dX0_number_109 ?_
    refine kc_i (As := []) (rest := []) (wg := (fun _ => (wD cI q D))) ⟨hx, hb, hml, hown, hts⟩ (c_X1_size l G cI cC cD (q 1) (q 2) (q 3) (q 4) (q 5) (q 6) _ D  _ h) (cwV 0 hts gX0_number_X1_size rfl rfl rfl (by decide +kernel) ⟨Nat.le_of_ble_eq_true rfl, Nat.le_of_ble_eq_true rfl⟩) hK hN hP hD hS hA (em_DG cI q D) (fun _ => rp_self (em_DG cI q D)) rfl rfl rfl rfl hl.1 rfl (Nat.le_of_ble_eq_true rfl) dX0_number_112 ⟨Nat.zero_le _, Nat.zero_le _⟩ (fun r_2 _ H locs h hP hD hS => ?_)
    exact W.iret (v := r_2) hx hb hr (fun t ht hW => ⟨⟨r_2, (), rfl, h, by rw [ht]; exact hP, hD⟩, hS.F ht⟩) hS.2.2 dX0_number_115
  · have h := h.2 c_1
    by_cases c_3 : x = 1
    · have h := h.1 c_3
      refine lv_tableIn (off := 115) (tgt := 116) hx hb dX0_number_1 (by rw [c_3]; decide) (by rw [c_3]; decide) (by rw [c_3]; rfl) (by decide) ?_
      refine lv_aload_n hx hb dX0_number_116 rfl (lv_at hl 0 rfl) ?_
      refine va_get (D := G) (ci := 0) (v := .int (D 15 0)) (C := RX0) (T := TX0) (N := 18) hx hb hts hinX0 hown hK hP 0 rfl rfl 4 (by decide) hL34 (fun _ h9 => h9) rfl dX0_number_117 ?_
      exact W.iret (v := (D 15 0)) hx hb hr (fun t ht hW => ⟨⟨(D 15 0), (), rfl, h, by rw [ht]; exact hP, hD⟩, hS.F ht⟩) hS.2.2 dX0_number_120
    · have h := h.2 c_3
      by_cases c_4 : x = 2
      · have h := h.1 c_4
        refine lv_tableIn (off := 120) (tgt := 121) hx hb dX0_number_1 (by rw [c_4]; decide) (by rw [c_4]; decide) (by rw [c_4]; rfl) (by decide) ?_
        refine lv_aload_n hx hb dX0_number_121 rfl (lv_at hl 0 rfl) ?_
        refine va_get (D := G) (ci := 0) (v := .int (D 16 0)) (C := RX0) (T := TX0) (N := 18) hx hb hts hinX0 hown hK hP 0 rfl rfl 5 (by decide) hL54 (fun _ h9 => h9) rfl dX0_number_122 ?_
        exact W.iret (v := (D 16 0)) hx hb hr (fun t ht hW => ⟨⟨(D 16 0), (), rfl, h, by rw [ht]; exact hP, hD⟩, hS.F ht⟩) hS.2.2 dX0_number_125
      · have h := h.2 c_4
        by_cases c_5 : x = 3
        · have h := h.1 c_5
          refine lv_tableIn (off := 125) (tgt := 126) hx hb dX0_number_1 (by rw [c_5]; decide) (by rw [c_5]; decide) (by rw [c_5]; rfl) (by decide) ?_
          refine lv_aload_n hx hb dX0_number_126 rfl (lv_at hl 0 rfl) ?_
          refine kc_i (As := []) (rest := []) (wg := (fun _ => (wD cI q D))) ⟨hx, hb, hml, hown, hts⟩ (c_X0_head l G cI cC cD q _ D  _ h) (cwV 0 hts gX0_number_X0_head rfl rfl rfl (by decide +kernel) ⟨Nat.le_of_ble_eq_true rfl, Nat.le_of_ble_eq_true rfl⟩) hK hN hP hD hS hA (em_DD cI q D) (fun _ => rp_self (em_DD cI q D)) rfl rfl rfl rfl hl.1 rfl (Nat.le_of_ble_eq_true rfl) dX0_number_127 ⟨Nat.zero_le _, Nat.zero_le _⟩ (fun r_6 _ H locs h hP hD hS => ?_)
          exact W.iret (v := r_6) hx hb hr (fun t ht hW => ⟨⟨r_6, (), rfl, h, by rw [ht]; exact hP, hD⟩, hS.F ht⟩) hS.2.2 dX0_number_130
        · have h := h.2 c_5
          by_cases c_7 : x = 4
          · have h := h.1 c_7
            refine lv_tableIn (off := 130) (tgt := 131) hx hb dX0_number_1 (by rw [c_7]; decide) (by rw [c_7]; decide) (by rw [c_7]; rfl) (by decide) ?_
            refine lv_aload_n hx hb dX0_number_131 rfl (lv_at hl 0 rfl) ?_
            refine va_get (D := G) (ci := 0) (v := .int (D 20 0)) (C := RX0) (T := TX0) (N := 18) hx hb hts hinX0 hown hK hP 0 rfl rfl 9 (by decide) hL66 (fun _ h9 => h9) rfl dX0_number_132 ?_
            exact W.iret (v := (D 20 0)) hx hb hr (fun t ht hW => ⟨⟨(D 20 0), (), rfl, h, by rw [ht]; exact hP, hD⟩, hS.F ht⟩) hS.2.2 dX0_number_135
          · have h := h.2 c_7
            by_cases c_8 : x = 5
            · have h := h.1 c_8
              refine lv_tableIn (off := 135) (tgt := 136) hx hb dX0_number_1 (by rw [c_8]; decide) (by rw [c_8]; decide) (by rw [c_8]; rfl) (by decide) ?_
              refine lv_aload_n hx hb dX0_number_136 rfl (lv_at hl 0 rfl) ?_
              refine va_get (D := G) (ci := 0) (v := .int (D 17 0)) (C := RX0) (T := TX0) (N := 18) hx hb hts hinX0 hown hK hP 0 rfl rfl 6 (by decide) hL57 (fun _ h9 => h9) rfl dX0_number_137 ?_
              exact W.iret (v := (D 17 0)) hx hb hr (fun t ht hW => ⟨⟨(D 17 0), (), rfl, h, by rw [ht]; exact hP, hD⟩, hS.F ht⟩) hS.2.2 dX0_number_140
            · have h := h.2 c_8
              by_cases c_9 : x = 6
              · have h := h.1 c_9
                refine lv_tableIn (off := 140) (tgt := 141) hx hb dX0_number_1 (by rw [c_9]; decide) (by rw [c_9]; decide) (by rw [c_9]; rfl) (by decide) ?_
                refine lv_aload_n hx hb dX0_number_141 rfl (lv_at hl 0 rfl) ?_
                refine va_get (D := G) (ci := 0) (v := .int (D 18 0)) (C := RX0) (T := TX0) (N := 18) hx hb hts hinX0 hown hK hP 0 rfl rfl 7 (by decide) hL60 (fun _ h9 => h9) rfl dX0_number_142 ?_
                exact W.iret (v := (D 18 0)) hx hb hr (fun t ht hW => ⟨⟨(D 18 0), (), rfl, h, by rw [ht]; exact hP, hD⟩, hS.F ht⟩) hS.2.2 dX0_number_145
              · have h := h.2 c_9
                by_cases c_10 : x = 7
                · have h := h.1 c_10
                  refine lv_tableIn (off := 145) (tgt := 146) hx hb dX0_number_1 (by rw [c_10]; decide) (by rw [c_10]; decide) (by rw [c_10]; rfl) (by decide) ?_
                  refine lv_aload_n hx hb dX0_number_146 rfl (lv_at hl 0 rfl) ?_
                  refine va_get (D := G) (ci := 0) (v := .int (D 19 0)) (C := RX0) (T := TX0) (N := 18) hx hb hts hinX0 hown hK hP 0 rfl rfl 8 (by decide) hL63 (fun _ h9 => h9) rfl dX0_number_147 ?_
                  exact W.iret (v := (D 19 0)) hx hb hr (fun t ht hW => ⟨⟨(D 19 0), (), rfl, h, by rw [ht]; exact hP, hD⟩, hS.F ht⟩) hS.2.2 dX0_number_150
                · have h := h.2 c_10
                  by_cases c_11 : x = 8
                  · have h := h.1 c_11
                    refine lv_tableIn (off := 150) (tgt := 151) hx hb dX0_number_1 (by rw [c_11]; decide) (by rw [c_11]; decide) (by rw [c_11]; rfl) (by decide) ?_
                    refine lv_aload_n hx hb dX0_number_151 rfl (lv_at hl 0 rfl) ?_
                    refine va_get (D := G) (ci := 0) (v := .ref (q 7)) (C := RX0) (T := TX0) (N := 18) hx hb hts hinX0 hown hK hP 0 rfl rfl 1 (by decide) hL23 (fun _ h9 => h9) rfl dX0_number_152 ?_
                    refine kc_i (As := []) (rest := []) (wg := (fun _ => (wD cI q D))) ⟨hx, hb, hml, hown, hts⟩ (c_X4_size l G cI cC cD (q 7) (q 8) (q 9) _ (fun i => D (6 + i))  _ h) (cwV 0 hts gX0_number_X4_size rfl rfl rfl (by decide +kernel) ⟨Nat.le_of_ble_eq_true rfl, Nat.le_of_ble_eq_true rfl⟩) hK hN hP hD hS hA (em_DO cI q D) (fun _ => rp_self (em_DO cI q D)) rfl rfl rfl rfl hl.1 rfl (Nat.le_of_ble_eq_true rfl) dX0_number_155 ⟨Nat.zero_le _, Nat.zero_le _⟩ (fun r_12 _ H locs h hP hD hS => ?_)
                    exact W.iret (v := r_12) hx hb hr (fun t ht hW => ⟨⟨r_12, (), rfl, h, by rw [ht]; exact hP, hD⟩, hS.F ht⟩) hS.2.2 dX0_number_158
                  · have h := h.2 c_11
                    by_cases c_13 : x = 9
                    · have h := h.1 c_13
                      refine lv_tableIn (off := 158) (tgt := 159) hx hb dX0_number_1 (by rw [c_13]; decide) (by rw [c_13]; decide) (by rw [c_13]; rfl) (by decide) ?_
                      refine lv_aload_n hx hb dX0_number_159 rfl (lv_at hl 0 rfl) ?_
                      refine va_get (D := G) (ci := 0) (v := .int (D 21 0)) (C := RX0) (T := TX0) (N := 18) hx hb hts hinX0 hown hK hP 0 rfl rfl 10 (by decide) hL69 (fun _ h9 => h9) rfl dX0_number_160 ?_
                      refine lv_if_eq (tgt := 170) hx hb dX0_number_163 (by decide) (fun c_14 => ?_) (fun c_14 => ?_)
                      · have h := h.1 c_14
                        refine lv_iconst (v := 0) hx hb dX0_number_170 (by decide) ?_
                        exact W.iret (v := 0) hx hb hr (fun t ht hW => ⟨⟨0, (), rfl, h, by rw [ht]; exact hP, hD⟩, hS.F ht⟩) hS.2.2 dX0_number_171
                      · have h := h.2 c_14
                        refine lv_iconst (v := 1) hx hb dX0_number_166 (by decide) ?_
                        refine lv_goto (tgt := 171) hx hb dX0_number_167 (by decide) ?_
                        exact W.iret (v := 1) hx hb hr (fun t ht hW => ⟨⟨1, (), rfl, h, by rw [ht]; exact hP, hD⟩, hS.F ht⟩) hS.2.2 dX0_number_171
                    · have h := h.2 c_13
                      by_cases c_15 : x = 10
                      · have h := h.1 c_15
                        refine lv_tableIn (off := 171) (tgt := 172) hx hb dX0_number_1 (by rw [c_15]; decide) (by rw [c_15]; decide) (by rw [c_15]; rfl) (by decide) ?_
                        refine lv_aload_n hx hb dX0_number_172 rfl (lv_at hl 0 rfl) ?_
                        refine va_get (D := G) (ci := 0) (v := .int (D 22 0)) (C := RX0) (T := TX0) (N := 18) hx hb hts hinX0 hown hK hP 0 rfl rfl 11 (by decide) hL73 (fun _ h9 => h9) rfl dX0_number_173 ?_
                        exact W.iret (v := (D 22 0)) hx hb hr (fun t ht hW => ⟨⟨(D 22 0), (), rfl, h, by rw [ht]; exact hP, hD⟩, hS.F ht⟩) hS.2.2 dX0_number_176
                      · have h := h.2 c_15
                        by_cases c_16 : x = 11
                        · have h := h.1 c_16
                          refine lv_tableIn (off := 197) (tgt := 198) hx hb dX0_number_1 (by rw [c_16]; decide) (by rw [c_16]; decide) (by rw [c_16]; rfl) (by decide) ?_
                          refine lv_ldc hx hb hown (hts (.constant RX0 91 (-1000001)) (by decide +kernel)) dX0_number_198 ?_
                          exact W.iret (v := (-1000001)) hx hb hr (fun t ht hW => ⟨⟨(-1000001), (), rfl, h, by rw [ht]; exact hP, hD⟩, hS.F ht⟩) hS.2.2 dX0_number_200
                        · have h := h.2 c_16
                          by_cases c_17 : x = 12
                          · have h := h.1 c_17
                            refine lv_tableIn (off := 197) (tgt := 198) hx hb dX0_number_1 (by rw [c_17]; decide) (by rw [c_17]; decide) (by rw [c_17]; rfl) (by decide) ?_
                            refine lv_ldc hx hb hown (hts (.constant RX0 91 (-1000001)) (by decide +kernel)) dX0_number_198 ?_
                            exact W.iret (v := (-1000001)) hx hb hr (fun t ht hW => ⟨⟨(-1000001), (), rfl, h, by rw [ht]; exact hP, hD⟩, hS.F ht⟩) hS.2.2 dX0_number_200
                          · have h := h.2 c_17
                            by_cases c_18 : x = 13
                            · have h := h.1 c_18
                              refine lv_tableIn (off := 197) (tgt := 198) hx hb dX0_number_1 (by rw [c_18]; decide) (by rw [c_18]; decide) (by rw [c_18]; rfl) (by decide) ?_
                              refine lv_ldc hx hb hown (hts (.constant RX0 91 (-1000001)) (by decide +kernel)) dX0_number_198 ?_
                              exact W.iret (v := (-1000001)) hx hb hr (fun t ht hW => ⟨⟨(-1000001), (), rfl, h, by rw [ht]; exact hP, hD⟩, hS.F ht⟩) hS.2.2 dX0_number_200
                            · have h := h.2 c_18
                              by_cases c_19 : x = 14
                              · have h := h.1 c_19
                                refine lv_tableIn (off := 197) (tgt := 198) hx hb dX0_number_1 (by rw [c_19]; decide) (by rw [c_19]; decide) (by rw [c_19]; rfl) (by decide) ?_
                                refine lv_ldc hx hb hown (hts (.constant RX0 91 (-1000001)) (by decide +kernel)) dX0_number_198 ?_
                                exact W.iret (v := (-1000001)) hx hb hr (fun t ht hW => ⟨⟨(-1000001), (), rfl, h, by rw [ht]; exact hP, hD⟩, hS.F ht⟩) hS.2.2 dX0_number_200
                              · have h := h.2 c_19
                                by_cases c_20 : x = 15
                                · have h := h.1 c_20
                                  refine lv_tableIn (off := 197) (tgt := 198) hx hb dX0_number_1 (by rw [c_20]; decide) (by rw [c_20]; decide) (by rw [c_20]; rfl) (by decide) ?_
                                  refine lv_ldc hx hb hown (hts (.constant RX0 91 (-1000001)) (by decide +kernel)) dX0_number_198 ?_
                                  exact W.iret (v := (-1000001)) hx hb hr (fun t ht hW => ⟨⟨(-1000001), (), rfl, h, by rw [ht]; exact hP, hD⟩, hS.F ht⟩) hS.2.2 dX0_number_200
                                · have h := h.2 c_20
                                  by_cases c_21 : x = 16
                                  · have h := h.1 c_21
                                    refine lv_tableIn (off := 197) (tgt := 198) hx hb dX0_number_1 (by rw [c_21]; decide) (by rw [c_21]; decide) (by rw [c_21]; rfl) (by decide) ?_
                                    refine lv_ldc hx hb hown (hts (.constant RX0 91 (-1000001)) (by decide +kernel)) dX0_number_198 ?_
                                    exact W.iret (v := (-1000001)) hx hb hr (fun t ht hW => ⟨⟨(-1000001), (), rfl, h, by rw [ht]; exact hP, hD⟩, hS.F ht⟩) hS.2.2 dX0_number_200
                                  · have h := h.2 c_21
                                    by_cases c_22 : x = 17
                                    · have h := h.1 c_22
                                      refine lv_tableIn (off := 197) (tgt := 198) hx hb dX0_number_1 (by rw [c_22]; decide) (by rw [c_22]; decide) (by rw [c_22]; rfl) (by decide) ?_
                                      refine lv_ldc hx hb hown (hts (.constant RX0 91 (-1000001)) (by decide +kernel)) dX0_number_198 ?_
                                      exact W.iret (v := (-1000001)) hx hb hr (fun t ht hW => ⟨⟨(-1000001), (), rfl, h, by rw [ht]; exact hP, hD⟩, hS.F ht⟩) hS.2.2 dX0_number_200
                                    · have h := h.2 c_22
                                      by_cases c_23 : x = 18
                                      · have h := h.1 c_23
                                        refine lv_tableIn (off := 197) (tgt := 198) hx hb dX0_number_1 (by rw [c_23]; decide) (by rw [c_23]; decide) (by rw [c_23]; rfl) (by decide) ?_
                                        refine lv_ldc hx hb hown (hts (.constant RX0 91 (-1000001)) (by decide +kernel)) dX0_number_198 ?_
                                        exact W.iret (v := (-1000001)) hx hb hr (fun t ht hW => ⟨⟨(-1000001), (), rfl, h, by rw [ht]; exact hP, hD⟩, hS.F ht⟩) hS.2.2 dX0_number_200
                                      · have h := h.2 c_23
                                        by_cases c_24 : x = 19
                                        · have h := h.1 c_24
                                          refine lv_tableIn (off := 197) (tgt := 198) hx hb dX0_number_1 (by rw [c_24]; decide) (by rw [c_24]; decide) (by rw [c_24]; rfl) (by decide) ?_
                                          refine lv_ldc hx hb hown (hts (.constant RX0 91 (-1000001)) (by decide +kernel)) dX0_number_198 ?_
                                          exact W.iret (v := (-1000001)) hx hb hr (fun t ht hW => ⟨⟨(-1000001), (), rfl, h, by rw [ht]; exact hP, hD⟩, hS.F ht⟩) hS.2.2 dX0_number_200
                                        · have h := h.2 c_24
                                          by_cases c_25 : x = 20
                                          · have h := h.1 c_25
                                            refine lv_tableIn (off := 176) (tgt := 177) hx hb dX0_number_1 (by rw [c_25]; decide) (by rw [c_25]; decide) (by rw [c_25]; rfl) (by decide) ?_
                                            refine lv_aload_n hx hb dX0_number_177 rfl (lv_at hl 0 rfl) ?_
                                            refine va_get (D := G) (ci := 0) (v := .ref (q 13)) (C := RX0) (T := TX0) (N := 18) hx hb hts hinX0 hown hK hP 0 rfl rfl 3 (by decide) hL30 (fun _ h9 => h9) rfl dX0_number_178 ?_
                                            refine lv_iconst (v := 0) hx hb dX0_number_181 (by decide) ?_
                                            refine k_ald (f := (D 14)) (j := 0) (v := ((D 14) 0)) hx hb hK hP 13 0 rfl rfl (show ¬ ((0 : Int32) < 0 ∨ 3 ≤ (0 : Int32).toNatClampNeg) by decide) rfl rfl dX0_number_182 ?_
                                            exact W.iret (v := ((D 14) 0)) hx hb hr (fun t ht hW => ⟨⟨((D 14) 0), (), rfl, h, by rw [ht]; exact hP, hD⟩, hS.F ht⟩) hS.2.2 dX0_number_183
                                          · have h := h.2 c_25
                                            by_cases c_26 : x = 21
                                            · have h := h.1 c_26
                                              refine lv_tableIn (off := 183) (tgt := 184) hx hb dX0_number_1 (by rw [c_26]; decide) (by rw [c_26]; decide) (by rw [c_26]; rfl) (by decide) ?_
                                              refine lv_aload_n hx hb dX0_number_184 rfl (lv_at hl 0 rfl) ?_
                                              refine va_get (D := G) (ci := 0) (v := .ref (q 13)) (C := RX0) (T := TX0) (N := 18) hx hb hts hinX0 hown hK hP 0 rfl rfl 3 (by decide) hL30 (fun _ h9 => h9) rfl dX0_number_185 ?_
                                              refine lv_iconst (v := 1) hx hb dX0_number_188 (by decide) ?_
                                              refine k_ald (f := (D 14)) (j := 1) (v := ((D 14) 1)) hx hb hK hP 13 0 rfl rfl (show ¬ ((1 : Int32) < 0 ∨ 3 ≤ (1 : Int32).toNatClampNeg) by decide) rfl rfl dX0_number_189 ?_
                                              exact W.iret (v := ((D 14) 1)) hx hb hr (fun t ht hW => ⟨⟨((D 14) 1), (), rfl, h, by rw [ht]; exact hP, hD⟩, hS.F ht⟩) hS.2.2 dX0_number_190
                                            · have h := h.2 c_26
                                              by_cases c_27 : x = 22
                                              · have h := h.1 c_27
                                                refine lv_tableIn (off := 190) (tgt := 191) hx hb dX0_number_1 (by rw [c_27]; decide) (by rw [c_27]; decide) (by rw [c_27]; rfl) (by decide) ?_
                                                refine lv_aload_n hx hb dX0_number_191 rfl (lv_at hl 0 rfl) ?_
                                                refine va_get (D := G) (ci := 0) (v := .ref (q 13)) (C := RX0) (T := TX0) (N := 18) hx hb hts hinX0 hown hK hP 0 rfl rfl 3 (by decide) hL30 (fun _ h9 => h9) rfl dX0_number_192 ?_
                                                refine lv_iconst (v := 2) hx hb dX0_number_195 (by decide) ?_
                                                refine k_ald (f := (D 14)) (j := 2) (v := ((D 14) 2)) hx hb hK hP 13 0 rfl rfl (show ¬ ((2 : Int32) < 0 ∨ 3 ≤ (2 : Int32).toNatClampNeg) by decide) rfl rfl dX0_number_196 ?_
                                                exact W.iret (v := ((D 14) 2)) hx hb hr (fun t ht hW => ⟨⟨((D 14) 2), (), rfl, h, by rw [ht]; exact hP, hD⟩, hS.F ht⟩) hS.2.2 dX0_number_197
                                              · have h := h.2 c_27
                                                have ho : (x).toInt < 0 ∨ 22 < (x).toInt := by
                                                  have n0 := sw_o (a := 0) c_1 (by decide)
                                                  have n1 := sw_o (a := 1) c_3 (by decide)
                                                  have n2 := sw_o (a := 2) c_4 (by decide)
                                                  have n3 := sw_o (a := 3) c_5 (by decide)
                                                  have n4 := sw_o (a := 4) c_7 (by decide)
                                                  have n5 := sw_o (a := 5) c_8 (by decide)
                                                  have n6 := sw_o (a := 6) c_9 (by decide)
                                                  have n7 := sw_o (a := 7) c_10 (by decide)
                                                  have n8 := sw_o (a := 8) c_11 (by decide)
                                                  have n9 := sw_o (a := 9) c_13 (by decide)
                                                  have n10 := sw_o (a := 10) c_15 (by decide)
                                                  have n11 := sw_o (a := 11) c_16 (by decide)
                                                  have n12 := sw_o (a := 12) c_17 (by decide)
                                                  have n13 := sw_o (a := 13) c_18 (by decide)
                                                  have n14 := sw_o (a := 14) c_19 (by decide)
                                                  have n15 := sw_o (a := 15) c_20 (by decide)
                                                  have n16 := sw_o (a := 16) c_21 (by decide)
                                                  have n17 := sw_o (a := 17) c_22 (by decide)
                                                  have n18 := sw_o (a := 18) c_23 (by decide)
                                                  have n19 := sw_o (a := 19) c_24 (by decide)
                                                  have n20 := sw_o (a := 20) c_25 (by decide)
                                                  have n21 := sw_o (a := 21) c_26 (by decide)
                                                  have n22 := sw_o (a := 22) c_27 (by decide)
                                                  omega
                                                refine lv_tableOut (tgt := 198) hx hb dX0_number_1 ho (by decide) ?_
                                                refine lv_ldc hx hb hown (hts (.constant RX0 91 (-1000001)) (by decide +kernel)) dX0_number_198 ?_
                                                exact W.iret (v := (-1000001)) hx hb hr (fun t ht hW => ⟨⟨(-1000001), (), rfl, h, by rw [ht]; exact hP, hD⟩, hS.F ht⟩) hS.2.2 dX0_number_200
