def q_X6_nextOrder (M : St) (Q : Int32 → Prop) : Prop :=
  ∃ (I_2 : Nat → Int32 → Int32 → Int32 → Prop) (n_7 : Nat), I_2 n_7 0 0 (-1000004) ∧ ∀ (n_1 : Nat) (x3_3 : Int32) (x2_4 : Int32) (x1_5 : Int32), I_2 n_1 x3_3 x2_4 x1_5 → ((((M 0) 10) ≤ x3_3 → Q x1_5) ∧ (¬ (((M 0) 10) ≤ x3_3) → vp_in (20 + (2 * x3_3)) 86 ∧ ((((M 0) 2) = 0 → (x1_5 < 0 → ∃ n_42, n_42 < n_1 ∧ I_2 n_42 (x3_3 + 1) 0 x3_3) ∧ (¬ (x1_5 < 0) → (0 ≤ x2_4 → ∃ n_46, n_46 < n_1 ∧ I_2 n_46 (x3_3 + 1) x2_4 x1_5) ∧ (¬ (0 ≤ x2_4) → ∃ n_49, n_49 < n_1 ∧ I_2 n_49 (x3_3 + 1) 0 x3_3))) ∧ (¬ (((M 0) 2) = 0) → (((M 0) 2) = 1 → q_X6_size (((M 0) (((20 + (2 * x3_3))).toNatClampNeg)) - ((M 0) 6)) (fun r_29 => (x1_5 < 0 → ∃ n_31, n_31 < n_1 ∧ I_2 n_31 (x3_3 + 1) (-r_29) x3_3) ∧ (¬ (x1_5 < 0) → ((-r_29) ≤ x2_4 → ∃ n_35, n_35 < n_1 ∧ I_2 n_35 (x3_3 + 1) x2_4 x1_5) ∧ (¬ ((-r_29) ≤ x2_4) → ∃ n_38, n_38 < n_1 ∧ I_2 n_38 (x3_3 + 1) (-r_29) x3_3)))) ∧ (¬ (((M 0) 2) = 1) → vp_in ((20 + (2 * x3_3)) + 1) 86 ∧ (q_X6_of ((M 0) (((20 + (2 * x3_3))).toNatClampNeg)) 2 M (fun r_16 => q_X6_size (((M 0) ((((20 + (2 * x3_3)) + 1)).toNatClampNeg)) - r_16) (fun r_17 => (x1_5 < 0 → ∃ n_19, n_19 < n_1 ∧ I_2 n_19 (x3_3 + 1) r_17 x3_3) ∧ (¬ (x1_5 < 0) → (r_17 ≤ x2_4 → ∃ n_23, n_23 < n_1 ∧ I_2 n_23 (x3_3 + 1) x2_4 x1_5) ∧ (¬ (r_17 ≤ x2_4) → ∃ n_26, n_26 < n_1 ∧ I_2 n_26 (x3_3 + 1) r_17 x3_3))))))))))
set_option maxHeartbeats 4000000 in
set_option maxRecDepth 100000 in
theorem c_X6_nextOrder (l : Launch) (G : va_G) (cI cC cD : ClassId) (q : Nat → Nat) (sz : Nat) (M : St)  (Q : Int32 → Prop) (h : q_X6_nextOrder  M Q) : Met l yX6_nextOrder wsX6_nextOrder ({ frames := 1, cells := 0, slots := 0, locals := 22 }) (va_Pc [.ref (q 0)] (PW G (ty3 cI cC cD) (wM cI q M) sz)) (va_Qi (fun (r : Int32) (_ : Unit) => Q r) (BW G (fun _ : Unit => (wM cI q M)) (va_A (wM cI q M) sz)) (va_A (wM cI q M) sz)) 0 0 (va_A (wM cI q M) sz) := by
  refine Met.ofW (cc := cX6_nextOrder) (maxL := 7) (ret := (some .int)) (by decide) rfl ?_
  intro p e s m args below meth c s₁ B hml hv
  obtain ⟨rfl, hsz, hP, hK, hD0, hN⟩ := hv
  have hx := B.exec
  have hb := B.bytes
  have hr := B.returns
  have hts := atoms_spec (ws := wsX6_nextOrder) B.pre
  have hown : s.vm.findClass RX6 = some m.cls := findClass_of_methodNamed B.named
  have hlocks := B.notSynchronized
  subst hsz
  have hD := hD0.self (sz := s.heap.size)
  generalize hAe : va_A (wM cI q M) s.heap.size = A at hD ⊢
  have hA : ∀ q : Nat, s.heap.size ≤ q → A q := fun q h => by rw [← hAe]; exact Or.inr h
  have hS : va_S A s.heap s.heap [] := va_S.rf
  have hl := lv_entry ([.ref (q 0)]) (n := 7) (Nat.le_of_ble_eq_true rfl)
  rw [lg_entry_eq]
  generalize (lg_sl ([.ref (q 0)]) ++ List.replicate (7 - (lg_sl ([.ref (q 0)])).length) Slot.unset).toArray = ls at hl ⊢
  have hl : lv_has ls 7 [(0, .ref (q 0))] := hl
  have hinX6 : ∀ w ∈ wsX60, w ∈ wsX6_nextOrder := by decide +kernel
  have hL7 := hts (.fieldLink RX6 7 "CraneGatesModel" "s" "[I") (by decide +kernel)
  unfold q_X6_nextOrder at h
  refine lv_ldc hx hb hown (hts (.constant RX6 40 (-1000004)) (by decide +kernel)) dX6_nextOrder_0 ?_
  refine lv_istore_n (lv' := [(1, .int (-1000004)), (0, .ref (q 0))]) hx hb dX6_nextOrder_2 rfl hl (by decide) rfl (fun ls hl => ?_)
  refine lv_iconst (v := 0) hx hb dX6_nextOrder_3 (by decide) ?_
  refine lv_istore_n (lv' := [(2, .int 0), (1, .int (-1000004)), (0, .ref (q 0))]) hx hb dX6_nextOrder_4 rfl hl (by decide) rfl (fun ls hl => ?_)
  refine lv_iconst (v := 0) hx hb dX6_nextOrder_5 (by decide) ?_
  refine lv_istore_n (lv' := [(3, .int 0), (2, .int 0), (1, .int (-1000004)), (0, .ref (q 0))]) hx hb dX6_nextOrder_6 rfl hl (by decide) rfl (fun ls hl => ?_)
  obtain ⟨I_2, n_7, h_8, hI_9⟩ := h
  have lp_10 : ∀ (n_1 : Nat) (x3_3 : Int32) (x2_4 : Int32) (x1_5 : Int32), I_2 n_1 x3_3 x2_4 x1_5 → ∀ (H : Heap) (locs : List Loc) (ls : Array Slot), va_P G vwCl (wM cI q M) H → va_D A (wM cI q M) → va_S A s.heap H locs → lv_has ls 7 [(3, .int x3_3), (2, .int x2_4), (1, .int x1_5), (0, .ref (q 0))] → W p l e (headSpec wsX6_nextOrder ({ frames := 1, cells := 0, slots := 0, locals := 22 })).room s m ([.ref (q 0)] : List Value).toArray below meth c H locs 0 0 (MQ below (va_Qi (fun (r : Int32) (_ : Unit) => Q r) (BW G (fun _ : Unit => (wM cI q M)) A) A) ([.ref (q 0)] : List Value).toArray s 0 0 A) (F0 m 7 ls []) := by
    intro n_1
    induction n_1 using Nat.strongRecOn with
    | ind n_1 ih_6 =>
      intro x3_3 x2_4 x1_5 hIn H locs ls hP hD hS hl
      have h := hI_9 n_1 x3_3 x2_4 x1_5 hIn
      refine lv_iload_n hx hb dX6_nextOrder_7 rfl (lv_at hl 0 rfl) ?_
      refine lv_aload_n hx hb dX6_nextOrder_8 rfl (lv_at hl 3 rfl) ?_
      refine va_get (D := G) (ci := 6) (v := .ref (q 1)) (C := RX6) (T := TX6) (N := 11) hx hb hts hinX6 hown hK hP 0 rfl rfl 0 (by decide) hL7 (fun _ h9 => h9) rfl dX6_nextOrder_9 ?_
      refine lv_bipush (v := 10) hx hb dX6_nextOrder_12 (by decide) ?_
      refine k_ald (f := (M 0)) (j := 10) (v := ((M 0) 10)) hx hb hK hP 1 0 rfl rfl (show ¬ ((10 : Int32) < 0 ∨ 86 ≤ (10 : Int32).toNatClampNeg) by decide) rfl rfl dX6_nextOrder_14 ?_
      refine lv_icmp_ge (tgt := 143) hx hb dX6_nextOrder_15 (by decide) (fun c_11 => ?_) (fun c_11 => ?_)
      · have h := h.1 c_11
        refine lv_iload_n hx hb dX6_nextOrder_143 rfl (lv_at hl 2 rfl) ?_
        exact W.iret (v := x1_5) hx hb hr (fun t ht hW => ⟨⟨x1_5, (), rfl, h, by rw [ht]; exact hP, hD⟩, hS.F ht⟩) hS.2.2 dX6_nextOrder_144
      · have h := h.2 c_11
        refine lv_aload_n hx hb dX6_nextOrder_18 rfl (lv_at hl 3 rfl) ?_
        refine va_get (D := G) (ci := 6) (v := .ref (q 1)) (C := RX6) (T := TX6) (N := 11) hx hb hts hinX6 hown hK hP 0 rfl rfl 0 (by decide) hL7 (fun _ h9 => h9) rfl dX6_nextOrder_19 ?_
        refine lv_bipush (v := 20) hx hb dX6_nextOrder_22 (by decide) ?_
        refine lv_iconst (v := 2) hx hb dX6_nextOrder_24 (by decide) ?_
        refine lv_iload_n hx hb dX6_nextOrder_25 rfl (lv_at hl 0 rfl) ?_
        refine lv_imul hx hb dX6_nextOrder_26 ?_
        refine lv_iadd hx hb dX6_nextOrder_27 ?_
        obtain ⟨hi_12, h⟩ := h
        refine k_ald (f := (M 0)) (j := ((20 + (2 * x3_3))).toNatClampNeg) (v := ((M 0) (((20 + (2 * x3_3))).toNatClampNeg))) hx hb hK hP 1 0 rfl rfl hi_12 rfl rfl dX6_nextOrder_28 ?_
        refine lv_istore (lv' := [(4, .int ((M 0) (((20 + (2 * x3_3))).toNatClampNeg))), (3, .int x3_3), (2, .int x2_4), (1, .int x1_5), (0, .ref (q 0))]) hx hb dX6_nextOrder_29 hl (by decide) rfl (fun ls hl => ?_)
        refine lv_aload_n hx hb dX6_nextOrder_31 rfl (lv_at hl 4 rfl) ?_
        refine va_get (D := G) (ci := 6) (v := .ref (q 1)) (C := RX6) (T := TX6) (N := 11) hx hb hts hinX6 hown hK hP 0 rfl rfl 0 (by decide) hL7 (fun _ h9 => h9) rfl dX6_nextOrder_32 ?_
        refine lv_iconst (v := 2) hx hb dX6_nextOrder_35 (by decide) ?_
        refine k_ald (f := (M 0)) (j := 2) (v := ((M 0) 2)) hx hb hK hP 1 0 rfl rfl (show ¬ ((2 : Int32) < 0 ∨ 86 ≤ (2 : Int32).toNatClampNeg) by decide) rfl rfl dX6_nextOrder_36 ?_
        refine lv_if_ne (tgt := 44) hx hb dX6_nextOrder_37 (by decide) (fun c_13 => ?_) (fun c_13 => ?_)
        · have h := h.2 c_13
          refine lv_aload_n hx hb dX6_nextOrder_44 rfl (lv_at hl 4 rfl) ?_
          refine va_get (D := G) (ci := 6) (v := .ref (q 1)) (C := RX6) (T := TX6) (N := 11) hx hb hts hinX6 hown hK hP 0 rfl rfl 0 (by decide) hL7 (fun _ h9 => h9) rfl dX6_nextOrder_45 ?_
          refine lv_iconst (v := 2) hx hb dX6_nextOrder_48 (by decide) ?_
          refine k_ald (f := (M 0)) (j := 2) (v := ((M 0) 2)) hx hb hK hP 1 0 rfl rfl (show ¬ ((2 : Int32) < 0 ∨ 86 ≤ (2 : Int32).toNatClampNeg) by decide) rfl rfl dX6_nextOrder_49 ?_
          refine lv_iconst (v := 1) hx hb dX6_nextOrder_50 (by decide) ?_
          refine lv_icmp_ne (tgt := 71) hx hb dX6_nextOrder_51 (by decide) (fun c_14 => ?_) (fun c_14 => ?_)
          · have h := h.2 c_14
            refine lv_aload_n hx hb dX6_nextOrder_71 rfl (lv_at hl 4 rfl) ?_
            refine va_get (D := G) (ci := 6) (v := .ref (q 1)) (C := RX6) (T := TX6) (N := 11) hx hb hts hinX6 hown hK hP 0 rfl rfl 0 (by decide) hL7 (fun _ h9 => h9) rfl dX6_nextOrder_72 ?_
            refine lv_bipush (v := 20) hx hb dX6_nextOrder_75 (by decide) ?_
            refine lv_iconst (v := 2) hx hb dX6_nextOrder_77 (by decide) ?_
            refine lv_iload_n hx hb dX6_nextOrder_78 rfl (lv_at hl 1 rfl) ?_
            refine lv_imul hx hb dX6_nextOrder_79 ?_
            refine lv_iadd hx hb dX6_nextOrder_80 ?_
            refine lv_iconst (v := 1) hx hb dX6_nextOrder_81 (by decide) ?_
            refine lv_iadd hx hb dX6_nextOrder_82 ?_
            obtain ⟨hi_15, h⟩ := h
            refine k_ald (f := (M 0)) (j := (((20 + (2 * x3_3)) + 1)).toNatClampNeg) (v := ((M 0) ((((20 + (2 * x3_3)) + 1)).toNatClampNeg))) hx hb hK hP 1 0 rfl rfl hi_15 rfl rfl dX6_nextOrder_83 ?_
            refine lv_aload_n hx hb dX6_nextOrder_84 rfl (lv_at hl 4 rfl) ?_
            refine lv_iload hx hb dX6_nextOrder_85 (lv_at hl 0 rfl) ?_
            refine lv_iconst (v := 2) hx hb dX6_nextOrder_87 (by decide) ?_
            refine kc_i (As := [.int ((M 0) (((20 + (2 * x3_3))).toNatClampNeg)), .int 2]) (rest := [.int ((M 0) ((((20 + (2 * x3_3)) + 1)).toNatClampNeg))]) (wg := (fun _ => (wM cI q M))) ⟨hx, hb, hml, hown, hts⟩ (c_X6_of l G cI cC cD q _ M ((M 0) (((20 + (2 * x3_3))).toNatClampNeg)) 2 _ h) (cwV 2 hts gX6_nextOrder_X6_of rfl rfl rfl (by decide +kernel) ⟨Nat.le_of_ble_eq_true rfl, Nat.le_of_ble_eq_true rfl⟩) hK hN hP hD hS hA (em_MM cI q M) (fun _ => rp_self (em_MM cI q M)) rfl rfl rfl rfl hl.1 rfl (Nat.le_of_ble_eq_true rfl) dX6_nextOrder_88 ⟨Nat.zero_le _, Nat.zero_le _⟩ (fun r_16 _ H locs h hP hD hS => ?_)
            refine lv_isub hx hb dX6_nextOrder_91 ?_
            refine ks_i (As := [.int (((M 0) ((((20 + (2 * x3_3)) + 1)).toNatClampNeg)) - r_16)]) (rest := []) (wg := (fun _ => (wM cI q M))) ⟨hx, hb, hml, hown, hts⟩ (c_X6_size l G cI cC cD  _  (((M 0) ((((20 + (2 * x3_3)) + 1)).toNatClampNeg)) - r_16) _ h) (va_cwS 1 hts gX6_nextOrder_X6_size rfl rfl rfl (by decide +kernel) ⟨Nat.le_of_ble_eq_true rfl, Nat.le_of_ble_eq_true rfl⟩) hK hN hP hD hS hA (em_0 _) (fun _ => rp_self (em_0 _)) rfl hl.1 rfl (Nat.le_of_ble_eq_true rfl) dX6_nextOrder_92 ⟨Nat.zero_le _, Nat.zero_le _⟩ (fun r_17 _ H locs h hP hD hS => ?_)
            refine lv_istore (lv' := [(5, .int r_17), (4, .int ((M 0) (((20 + (2 * x3_3))).toNatClampNeg))), (3, .int x3_3), (2, .int x2_4), (1, .int x1_5), (0, .ref (q 0))]) hx hb dX6_nextOrder_95 hl (by decide) rfl (fun ls hl => ?_)
            refine lv_iload_n hx hb dX6_nextOrder_97 rfl (lv_at hl 4 rfl) ?_
            refine lv_if_lt (tgt := 107) hx hb dX6_nextOrder_98 (by decide) (fun c_18 => ?_) (fun c_18 => ?_)
            · have h := h.1 c_18
              refine lv_iconst (v := 1) hx hb dX6_nextOrder_107 (by decide) ?_
              refine lv_goto (tgt := 112) hx hb dX6_nextOrder_108 (by decide) ?_
              refine lv_istore (lv' := [(6, .int 1), (5, .int r_17), (4, .int ((M 0) (((20 + (2 * x3_3))).toNatClampNeg))), (3, .int x3_3), (2, .int x2_4), (1, .int x1_5), (0, .ref (q 0))]) hx hb dX6_nextOrder_112 hl (by decide) rfl (fun ls hl => ?_)
              refine lv_iload hx hb dX6_nextOrder_114 (lv_at hl 0 rfl) ?_
              refine lv_if_eq (tgt := 123) hx hb dX6_nextOrder_116 (by decide) (fun c => absurd c (by decide)) (fun _ => ?_)
              refine lv_iload_n hx hb dX6_nextOrder_119 rfl (lv_at hl 3 rfl) ?_
              refine lv_goto (tgt := 124) hx hb dX6_nextOrder_120 (by decide) ?_
              refine lv_istore_n (lv' := [(1, .int x3_3), (6, .int 1), (5, .int r_17), (4, .int ((M 0) (((20 + (2 * x3_3))).toNatClampNeg))), (3, .int x3_3), (2, .int x2_4), (0, .ref (q 0))]) hx hb dX6_nextOrder_124 rfl hl (by decide) rfl (fun ls hl => ?_)
              refine lv_iload hx hb dX6_nextOrder_125 (lv_at hl 1 rfl) ?_
              refine lv_if_eq (tgt := 135) hx hb dX6_nextOrder_127 (by decide) (fun c => absurd c (by decide)) (fun _ => ?_)
              refine lv_iload hx hb dX6_nextOrder_130 (lv_at hl 2 rfl) ?_
              refine lv_goto (tgt := 136) hx hb dX6_nextOrder_132 (by decide) ?_
              refine lv_istore_n (lv' := [(2, .int r_17), (1, .int x3_3), (6, .int 1), (5, .int r_17), (4, .int ((M 0) (((20 + (2 * x3_3))).toNatClampNeg))), (3, .int x3_3), (0, .ref (q 0))]) hx hb dX6_nextOrder_136 rfl hl (by decide) rfl (fun ls hl => ?_)
              refine lv_iinc (v := x3_3 + 1) (lv' := [(3, .int (x3_3 + 1)), (2, .int r_17), (1, .int x3_3), (6, .int 1), (5, .int r_17), (4, .int ((M 0) (((20 + (2 * x3_3))).toNatClampNeg))), (0, .ref (q 0))]) hx hb dX6_nextOrder_137 hl (k := 5) rfl rfl (by decide) rfl (fun ls hl => ?_)
              refine lv_goto (tgt := 7) hx hb dX6_nextOrder_140 (by decide) ?_
              obtain ⟨n_19, lt_20, h_21⟩ := h
              exact ih_6 n_19 lt_20 _ _ _ h_21 _ _ _ hP hD hS (lv_sub hl [0, 1, 2, 6] rfl)
            · have h := h.2 c_18
              refine lv_iload hx hb dX6_nextOrder_101 (lv_at hl 0 rfl) ?_
              refine lv_iload_n hx hb dX6_nextOrder_103 rfl (lv_at hl 3 rfl) ?_
              refine lv_icmp_le (tgt := 111) hx hb dX6_nextOrder_104 (by decide) (fun c_22 => ?_) (fun c_22 => ?_)
              · have h := h.1 c_22
                refine lv_iconst (v := 0) hx hb dX6_nextOrder_111 (by decide) ?_
                refine lv_istore (lv' := [(6, .int 0), (5, .int r_17), (4, .int ((M 0) (((20 + (2 * x3_3))).toNatClampNeg))), (3, .int x3_3), (2, .int x2_4), (1, .int x1_5), (0, .ref (q 0))]) hx hb dX6_nextOrder_112 hl (by decide) rfl (fun ls hl => ?_)
                refine lv_iload hx hb dX6_nextOrder_114 (lv_at hl 0 rfl) ?_
                refine lv_if_eq (tgt := 123) hx hb dX6_nextOrder_116 (by decide) (fun _ => ?_) (fun c => absurd c (by decide))
                refine lv_iload_n hx hb dX6_nextOrder_123 rfl (lv_at hl 5 rfl) ?_
                refine lv_istore_n (lv' := [(1, .int x1_5), (6, .int 0), (5, .int r_17), (4, .int ((M 0) (((20 + (2 * x3_3))).toNatClampNeg))), (3, .int x3_3), (2, .int x2_4), (0, .ref (q 0))]) hx hb dX6_nextOrder_124 rfl hl (by decide) rfl (fun ls hl => ?_)
                refine lv_iload hx hb dX6_nextOrder_125 (lv_at hl 1 rfl) ?_
                refine lv_if_eq (tgt := 135) hx hb dX6_nextOrder_127 (by decide) (fun _ => ?_) (fun c => absurd c (by decide))
                refine lv_iload_n hx hb dX6_nextOrder_135 rfl (lv_at hl 5 rfl) ?_
                refine lv_istore_n (lv' := [(2, .int x2_4), (1, .int x1_5), (6, .int 0), (5, .int r_17), (4, .int ((M 0) (((20 + (2 * x3_3))).toNatClampNeg))), (3, .int x3_3), (0, .ref (q 0))]) hx hb dX6_nextOrder_136 rfl hl (by decide) rfl (fun ls hl => ?_)
                refine lv_iinc (v := x3_3 + 1) (lv' := [(3, .int (x3_3 + 1)), (2, .int x2_4), (1, .int x1_5), (6, .int 0), (5, .int r_17), (4, .int ((M 0) (((20 + (2 * x3_3))).toNatClampNeg))), (0, .ref (q 0))]) hx hb dX6_nextOrder_137 hl (k := 5) rfl rfl (by decide) rfl (fun ls hl => ?_)
                refine lv_goto (tgt := 7) hx hb dX6_nextOrder_140 (by decide) ?_
                obtain ⟨n_23, lt_24, h_25⟩ := h
                exact ih_6 n_23 lt_24 _ _ _ h_25 _ _ _ hP hD hS (lv_sub hl [0, 1, 2, 6] rfl)
              · have h := h.2 c_22
                refine lv_iconst (v := 1) hx hb dX6_nextOrder_107 (by decide) ?_
                refine lv_goto (tgt := 112) hx hb dX6_nextOrder_108 (by decide) ?_
                refine lv_istore (lv' := [(6, .int 1), (5, .int r_17), (4, .int ((M 0) (((20 + (2 * x3_3))).toNatClampNeg))), (3, .int x3_3), (2, .int x2_4), (1, .int x1_5), (0, .ref (q 0))]) hx hb dX6_nextOrder_112 hl (by decide) rfl (fun ls hl => ?_)
                refine lv_iload hx hb dX6_nextOrder_114 (lv_at hl 0 rfl) ?_
                refine lv_if_eq (tgt := 123) hx hb dX6_nextOrder_116 (by decide) (fun c => absurd c (by decide)) (fun _ => ?_)
                refine lv_iload_n hx hb dX6_nextOrder_119 rfl (lv_at hl 3 rfl) ?_
                refine lv_goto (tgt := 124) hx hb dX6_nextOrder_120 (by decide) ?_
                refine lv_istore_n (lv' := [(1, .int x3_3), (6, .int 1), (5, .int r_17), (4, .int ((M 0) (((20 + (2 * x3_3))).toNatClampNeg))), (3, .int x3_3), (2, .int x2_4), (0, .ref (q 0))]) hx hb dX6_nextOrder_124 rfl hl (by decide) rfl (fun ls hl => ?_)
                refine lv_iload hx hb dX6_nextOrder_125 (lv_at hl 1 rfl) ?_
                refine lv_if_eq (tgt := 135) hx hb dX6_nextOrder_127 (by decide) (fun c => absurd c (by decide)) (fun _ => ?_)
                refine lv_iload hx hb dX6_nextOrder_130 (lv_at hl 2 rfl) ?_
                refine lv_goto (tgt := 136) hx hb dX6_nextOrder_132 (by decide) ?_
                refine lv_istore_n (lv' := [(2, .int r_17), (1, .int x3_3), (6, .int 1), (5, .int r_17), (4, .int ((M 0) (((20 + (2 * x3_3))).toNatClampNeg))), (3, .int x3_3), (0, .ref (q 0))]) hx hb dX6_nextOrder_136 rfl hl (by decide) rfl (fun ls hl => ?_)
                refine lv_iinc (v := x3_3 + 1) (lv' := [(3, .int (x3_3 + 1)), (2, .int r_17), (1, .int x3_3), (6, .int 1), (5, .int r_17), (4, .int ((M 0) (((20 + (2 * x3_3))).toNatClampNeg))), (0, .ref (q 0))]) hx hb dX6_nextOrder_137 hl (k := 5) rfl rfl (by decide) rfl (fun ls hl => ?_)
                refine lv_goto (tgt := 7) hx hb dX6_nextOrder_140 (by decide) ?_
                obtain ⟨n_26, lt_27, h_28⟩ := h
                exact ih_6 n_26 lt_27 _ _ _ h_28 _ _ _ hP hD hS (lv_sub hl [0, 1, 2, 6] rfl)
          · have h := h.1 c_14
            refine lv_iload hx hb dX6_nextOrder_54 (lv_at hl 0 rfl) ?_
            refine lv_aload_n hx hb dX6_nextOrder_56 rfl (lv_at hl 4 rfl) ?_
            refine va_get (D := G) (ci := 6) (v := .ref (q 1)) (C := RX6) (T := TX6) (N := 11) hx hb hts hinX6 hown hK hP 0 rfl rfl 0 (by decide) hL7 (fun _ h9 => h9) rfl dX6_nextOrder_57 ?_
            refine lv_bipush (v := 6) hx hb dX6_nextOrder_60 (by decide) ?_
            refine k_ald (f := (M 0)) (j := 6) (v := ((M 0) 6)) hx hb hK hP 1 0 rfl rfl (show ¬ ((6 : Int32) < 0 ∨ 86 ≤ (6 : Int32).toNatClampNeg) by decide) rfl rfl dX6_nextOrder_62 ?_
            refine lv_isub hx hb dX6_nextOrder_63 ?_
            refine ks_i (As := [.int (((M 0) (((20 + (2 * x3_3))).toNatClampNeg)) - ((M 0) 6))]) (rest := []) (wg := (fun _ => (wM cI q M))) ⟨hx, hb, hml, hown, hts⟩ (c_X6_size l G cI cC cD  _  (((M 0) (((20 + (2 * x3_3))).toNatClampNeg)) - ((M 0) 6)) _ h) (va_cwS 1 hts gX6_nextOrder_X6_size rfl rfl rfl (by decide +kernel) ⟨Nat.le_of_ble_eq_true rfl, Nat.le_of_ble_eq_true rfl⟩) hK hN hP hD hS hA (em_0 _) (fun _ => rp_self (em_0 _)) rfl hl.1 rfl (Nat.le_of_ble_eq_true rfl) dX6_nextOrder_64 ⟨Nat.zero_le _, Nat.zero_le _⟩ (fun r_29 _ H locs h hP hD hS => ?_)
            refine lv_ineg hx hb dX6_nextOrder_67 ?_
            refine lv_goto (tgt := 95) hx hb dX6_nextOrder_68 (by decide) ?_
            refine lv_istore (lv' := [(5, .int (-r_29)), (4, .int ((M 0) (((20 + (2 * x3_3))).toNatClampNeg))), (3, .int x3_3), (2, .int x2_4), (1, .int x1_5), (0, .ref (q 0))]) hx hb dX6_nextOrder_95 hl (by decide) rfl (fun ls hl => ?_)
            refine lv_iload_n hx hb dX6_nextOrder_97 rfl (lv_at hl 4 rfl) ?_
            refine lv_if_lt (tgt := 107) hx hb dX6_nextOrder_98 (by decide) (fun c_30 => ?_) (fun c_30 => ?_)
            · have h := h.1 c_30
              refine lv_iconst (v := 1) hx hb dX6_nextOrder_107 (by decide) ?_
              refine lv_goto (tgt := 112) hx hb dX6_nextOrder_108 (by decide) ?_
              refine lv_istore (lv' := [(6, .int 1), (5, .int (-r_29)), (4, .int ((M 0) (((20 + (2 * x3_3))).toNatClampNeg))), (3, .int x3_3), (2, .int x2_4), (1, .int x1_5), (0, .ref (q 0))]) hx hb dX6_nextOrder_112 hl (by decide) rfl (fun ls hl => ?_)
              refine lv_iload hx hb dX6_nextOrder_114 (lv_at hl 0 rfl) ?_
              refine lv_if_eq (tgt := 123) hx hb dX6_nextOrder_116 (by decide) (fun c => absurd c (by decide)) (fun _ => ?_)
              refine lv_iload_n hx hb dX6_nextOrder_119 rfl (lv_at hl 3 rfl) ?_
              refine lv_goto (tgt := 124) hx hb dX6_nextOrder_120 (by decide) ?_
              refine lv_istore_n (lv' := [(1, .int x3_3), (6, .int 1), (5, .int (-r_29)), (4, .int ((M 0) (((20 + (2 * x3_3))).toNatClampNeg))), (3, .int x3_3), (2, .int x2_4), (0, .ref (q 0))]) hx hb dX6_nextOrder_124 rfl hl (by decide) rfl (fun ls hl => ?_)
              refine lv_iload hx hb dX6_nextOrder_125 (lv_at hl 1 rfl) ?_
              refine lv_if_eq (tgt := 135) hx hb dX6_nextOrder_127 (by decide) (fun c => absurd c (by decide)) (fun _ => ?_)
              refine lv_iload hx hb dX6_nextOrder_130 (lv_at hl 2 rfl) ?_
              refine lv_goto (tgt := 136) hx hb dX6_nextOrder_132 (by decide) ?_
              refine lv_istore_n (lv' := [(2, .int (-r_29)), (1, .int x3_3), (6, .int 1), (5, .int (-r_29)), (4, .int ((M 0) (((20 + (2 * x3_3))).toNatClampNeg))), (3, .int x3_3), (0, .ref (q 0))]) hx hb dX6_nextOrder_136 rfl hl (by decide) rfl (fun ls hl => ?_)
              refine lv_iinc (v := x3_3 + 1) (lv' := [(3, .int (x3_3 + 1)), (2, .int (-r_29)), (1, .int x3_3), (6, .int 1), (5, .int (-r_29)), (4, .int ((M 0) (((20 + (2 * x3_3))).toNatClampNeg))), (0, .ref (q 0))]) hx hb dX6_nextOrder_137 hl (k := 5) rfl rfl (by decide) rfl (fun ls hl => ?_)
              refine lv_goto (tgt := 7) hx hb dX6_nextOrder_140 (by decide) ?_
              obtain ⟨n_31, lt_32, h_33⟩ := h
              exact ih_6 n_31 lt_32 _ _ _ h_33 _ _ _ hP hD hS (lv_sub hl [0, 1, 2, 6] rfl)
            · have h := h.2 c_30
              refine lv_iload hx hb dX6_nextOrder_101 (lv_at hl 0 rfl) ?_
              refine lv_iload_n hx hb dX6_nextOrder_103 rfl (lv_at hl 3 rfl) ?_
              refine lv_icmp_le (tgt := 111) hx hb dX6_nextOrder_104 (by decide) (fun c_34 => ?_) (fun c_34 => ?_)
              · have h := h.1 c_34
                refine lv_iconst (v := 0) hx hb dX6_nextOrder_111 (by decide) ?_
                refine lv_istore (lv' := [(6, .int 0), (5, .int (-r_29)), (4, .int ((M 0) (((20 + (2 * x3_3))).toNatClampNeg))), (3, .int x3_3), (2, .int x2_4), (1, .int x1_5), (0, .ref (q 0))]) hx hb dX6_nextOrder_112 hl (by decide) rfl (fun ls hl => ?_)
                refine lv_iload hx hb dX6_nextOrder_114 (lv_at hl 0 rfl) ?_
                refine lv_if_eq (tgt := 123) hx hb dX6_nextOrder_116 (by decide) (fun _ => ?_) (fun c => absurd c (by decide))
                refine lv_iload_n hx hb dX6_nextOrder_123 rfl (lv_at hl 5 rfl) ?_
                refine lv_istore_n (lv' := [(1, .int x1_5), (6, .int 0), (5, .int (-r_29)), (4, .int ((M 0) (((20 + (2 * x3_3))).toNatClampNeg))), (3, .int x3_3), (2, .int x2_4), (0, .ref (q 0))]) hx hb dX6_nextOrder_124 rfl hl (by decide) rfl (fun ls hl => ?_)
                refine lv_iload hx hb dX6_nextOrder_125 (lv_at hl 1 rfl) ?_
                refine lv_if_eq (tgt := 135) hx hb dX6_nextOrder_127 (by decide) (fun _ => ?_) (fun c => absurd c (by decide))
                refine lv_iload_n hx hb dX6_nextOrder_135 rfl (lv_at hl 5 rfl) ?_
                refine lv_istore_n (lv' := [(2, .int x2_4), (1, .int x1_5), (6, .int 0), (5, .int (-r_29)), (4, .int ((M 0) (((20 + (2 * x3_3))).toNatClampNeg))), (3, .int x3_3), (0, .ref (q 0))]) hx hb dX6_nextOrder_136 rfl hl (by decide) rfl (fun ls hl => ?_)
                refine lv_iinc (v := x3_3 + 1) (lv' := [(3, .int (x3_3 + 1)), (2, .int x2_4), (1, .int x1_5), (6, .int 0), (5, .int (-r_29)), (4, .int ((M 0) (((20 + (2 * x3_3))).toNatClampNeg))), (0, .ref (q 0))]) hx hb dX6_nextOrder_137 hl (k := 5) rfl rfl (by decide) rfl (fun ls hl => ?_)
                refine lv_goto (tgt := 7) hx hb dX6_nextOrder_140 (by decide) ?_
                obtain ⟨n_35, lt_36, h_37⟩ := h
                exact ih_6 n_35 lt_36 _ _ _ h_37 _ _ _ hP hD hS (lv_sub hl [0, 1, 2, 6] rfl)
              · have h := h.2 c_34
                refine lv_iconst (v := 1) hx hb dX6_nextOrder_107 (by decide) ?_
                refine lv_goto (tgt := 112) hx hb dX6_nextOrder_108 (by decide) ?_
                refine lv_istore (lv' := [(6, .int 1), (5, .int (-r_29)), (4, .int ((M 0) (((20 + (2 * x3_3))).toNatClampNeg))), (3, .int x3_3), (2, .int x2_4), (1, .int x1_5), (0, .ref (q 0))]) hx hb dX6_nextOrder_112 hl (by decide) rfl (fun ls hl => ?_)
                refine lv_iload hx hb dX6_nextOrder_114 (lv_at hl 0 rfl) ?_
                refine lv_if_eq (tgt := 123) hx hb dX6_nextOrder_116 (by decide) (fun c => absurd c (by decide)) (fun _ => ?_)
                refine lv_iload_n hx hb dX6_nextOrder_119 rfl (lv_at hl 3 rfl) ?_
                refine lv_goto (tgt := 124) hx hb dX6_nextOrder_120 (by decide) ?_
                refine lv_istore_n (lv' := [(1, .int x3_3), (6, .int 1), (5, .int (-r_29)), (4, .int ((M 0) (((20 + (2 * x3_3))).toNatClampNeg))), (3, .int x3_3), (2, .int x2_4), (0, .ref (q 0))]) hx hb dX6_nextOrder_124 rfl hl (by decide) rfl (fun ls hl => ?_)
                refine lv_iload hx hb dX6_nextOrder_125 (lv_at hl 1 rfl) ?_
                refine lv_if_eq (tgt := 135) hx hb dX6_nextOrder_127 (by decide) (fun c => absurd c (by decide)) (fun _ => ?_)
                refine lv_iload hx hb dX6_nextOrder_130 (lv_at hl 2 rfl) ?_
                refine lv_goto (tgt := 136) hx hb dX6_nextOrder_132 (by decide) ?_
                refine lv_istore_n (lv' := [(2, .int (-r_29)), (1, .int x3_3), (6, .int 1), (5, .int (-r_29)), (4, .int ((M 0) (((20 + (2 * x3_3))).toNatClampNeg))), (3, .int x3_3), (0, .ref (q 0))]) hx hb dX6_nextOrder_136 rfl hl (by decide) rfl (fun ls hl => ?_)
                refine lv_iinc (v := x3_3 + 1) (lv' := [(3, .int (x3_3 + 1)), (2, .int (-r_29)), (1, .int x3_3), (6, .int 1), (5, .int (-r_29)), (4, .int ((M 0) (((20 + (2 * x3_3))).toNatClampNeg))), (0, .ref (q 0))]) hx hb dX6_nextOrder_137 hl (k := 5) rfl rfl (by decide) rfl (fun ls hl => ?_)
                refine lv_goto (tgt := 7) hx hb dX6_nextOrder_140 (by decide) ?_
                obtain ⟨n_38, lt_39, h_40⟩ := h
                exact ih_6 n_38 lt_39 _ _ _ h_40 _ _ _ hP hD hS (lv_sub hl [0, 1, 2, 6] rfl)
        · have h := h.1 c_13
          refine lv_iconst (v := 0) hx hb dX6_nextOrder_40 (by decide) ?_
          refine lv_goto (tgt := 95) hx hb dX6_nextOrder_41 (by decide) ?_
          refine lv_istore (lv' := [(5, .int 0), (4, .int ((M 0) (((20 + (2 * x3_3))).toNatClampNeg))), (3, .int x3_3), (2, .int x2_4), (1, .int x1_5), (0, .ref (q 0))]) hx hb dX6_nextOrder_95 hl (by decide) rfl (fun ls hl => ?_)
          refine lv_iload_n hx hb dX6_nextOrder_97 rfl (lv_at hl 4 rfl) ?_
          refine lv_if_lt (tgt := 107) hx hb dX6_nextOrder_98 (by decide) (fun c_41 => ?_) (fun c_41 => ?_)
          · have h := h.1 c_41
            refine lv_iconst (v := 1) hx hb dX6_nextOrder_107 (by decide) ?_
            refine lv_goto (tgt := 112) hx hb dX6_nextOrder_108 (by decide) ?_
            refine lv_istore (lv' := [(6, .int 1), (5, .int 0), (4, .int ((M 0) (((20 + (2 * x3_3))).toNatClampNeg))), (3, .int x3_3), (2, .int x2_4), (1, .int x1_5), (0, .ref (q 0))]) hx hb dX6_nextOrder_112 hl (by decide) rfl (fun ls hl => ?_)
            refine lv_iload hx hb dX6_nextOrder_114 (lv_at hl 0 rfl) ?_
            refine lv_if_eq (tgt := 123) hx hb dX6_nextOrder_116 (by decide) (fun c => absurd c (by decide)) (fun _ => ?_)
            refine lv_iload_n hx hb dX6_nextOrder_119 rfl (lv_at hl 3 rfl) ?_
            refine lv_goto (tgt := 124) hx hb dX6_nextOrder_120 (by decide) ?_
            refine lv_istore_n (lv' := [(1, .int x3_3), (6, .int 1), (5, .int 0), (4, .int ((M 0) (((20 + (2 * x3_3))).toNatClampNeg))), (3, .int x3_3), (2, .int x2_4), (0, .ref (q 0))]) hx hb dX6_nextOrder_124 rfl hl (by decide) rfl (fun ls hl => ?_)
            refine lv_iload hx hb dX6_nextOrder_125 (lv_at hl 1 rfl) ?_
            refine lv_if_eq (tgt := 135) hx hb dX6_nextOrder_127 (by decide) (fun c => absurd c (by decide)) (fun _ => ?_)
            refine lv_iload hx hb dX6_nextOrder_130 (lv_at hl 2 rfl) ?_
            refine lv_goto (tgt := 136) hx hb dX6_nextOrder_132 (by decide) ?_
            refine lv_istore_n (lv' := [(2, .int 0), (1, .int x3_3), (6, .int 1), (5, .int 0), (4, .int ((M 0) (((20 + (2 * x3_3))).toNatClampNeg))), (3, .int x3_3), (0, .ref (q 0))]) hx hb dX6_nextOrder_136 rfl hl (by decide) rfl (fun ls hl => ?_)
            refine lv_iinc (v := x3_3 + 1) (lv' := [(3, .int (x3_3 + 1)), (2, .int 0), (1, .int x3_3), (6, .int 1), (5, .int 0), (4, .int ((M 0) (((20 + (2 * x3_3))).toNatClampNeg))), (0, .ref (q 0))]) hx hb dX6_nextOrder_137 hl (k := 5) rfl rfl (by decide) rfl (fun ls hl => ?_)
            refine lv_goto (tgt := 7) hx hb dX6_nextOrder_140 (by decide) ?_
            obtain ⟨n_42, lt_43, h_44⟩ := h
            exact ih_6 n_42 lt_43 _ _ _ h_44 _ _ _ hP hD hS (lv_sub hl [0, 1, 2, 6] rfl)
          · have h := h.2 c_41
            refine lv_iload hx hb dX6_nextOrder_101 (lv_at hl 0 rfl) ?_
            refine lv_iload_n hx hb dX6_nextOrder_103 rfl (lv_at hl 3 rfl) ?_
            refine lv_icmp_le (tgt := 111) hx hb dX6_nextOrder_104 (by decide) (fun c_45 => ?_) (fun c_45 => ?_)
            · have h := h.1 c_45
              refine lv_iconst (v := 0) hx hb dX6_nextOrder_111 (by decide) ?_
              refine lv_istore (lv' := [(6, .int 0), (5, .int 0), (4, .int ((M 0) (((20 + (2 * x3_3))).toNatClampNeg))), (3, .int x3_3), (2, .int x2_4), (1, .int x1_5), (0, .ref (q 0))]) hx hb dX6_nextOrder_112 hl (by decide) rfl (fun ls hl => ?_)
              refine lv_iload hx hb dX6_nextOrder_114 (lv_at hl 0 rfl) ?_
              refine lv_if_eq (tgt := 123) hx hb dX6_nextOrder_116 (by decide) (fun _ => ?_) (fun c => absurd c (by decide))
              refine lv_iload_n hx hb dX6_nextOrder_123 rfl (lv_at hl 5 rfl) ?_
              refine lv_istore_n (lv' := [(1, .int x1_5), (6, .int 0), (5, .int 0), (4, .int ((M 0) (((20 + (2 * x3_3))).toNatClampNeg))), (3, .int x3_3), (2, .int x2_4), (0, .ref (q 0))]) hx hb dX6_nextOrder_124 rfl hl (by decide) rfl (fun ls hl => ?_)
              refine lv_iload hx hb dX6_nextOrder_125 (lv_at hl 1 rfl) ?_
              refine lv_if_eq (tgt := 135) hx hb dX6_nextOrder_127 (by decide) (fun _ => ?_) (fun c => absurd c (by decide))
              refine lv_iload_n hx hb dX6_nextOrder_135 rfl (lv_at hl 5 rfl) ?_
              refine lv_istore_n (lv' := [(2, .int x2_4), (1, .int x1_5), (6, .int 0), (5, .int 0), (4, .int ((M 0) (((20 + (2 * x3_3))).toNatClampNeg))), (3, .int x3_3), (0, .ref (q 0))]) hx hb dX6_nextOrder_136 rfl hl (by decide) rfl (fun ls hl => ?_)
              refine lv_iinc (v := x3_3 + 1) (lv' := [(3, .int (x3_3 + 1)), (2, .int x2_4), (1, .int x1_5), (6, .int 0), (5, .int 0), (4, .int ((M 0) (((20 + (2 * x3_3))).toNatClampNeg))), (0, .ref (q 0))]) hx hb dX6_nextOrder_137 hl (k := 5) rfl rfl (by decide) rfl (fun ls hl => ?_)
              refine lv_goto (tgt := 7) hx hb dX6_nextOrder_140 (by decide) ?_
              obtain ⟨n_46, lt_47, h_48⟩ := h
              exact ih_6 n_46 lt_47 _ _ _ h_48 _ _ _ hP hD hS (lv_sub hl [0, 1, 2, 6] rfl)
            · have h := h.2 c_45
              refine lv_iconst (v := 1) hx hb dX6_nextOrder_107 (by decide) ?_
              refine lv_goto (tgt := 112) hx hb dX6_nextOrder_108 (by decide) ?_
              refine lv_istore (lv' := [(6, .int 1), (5, .int 0), (4, .int ((M 0) (((20 + (2 * x3_3))).toNatClampNeg))), (3, .int x3_3), (2, .int x2_4), (1, .int x1_5), (0, .ref (q 0))]) hx hb dX6_nextOrder_112 hl (by decide) rfl (fun ls hl => ?_)
              refine lv_iload hx hb dX6_nextOrder_114 (lv_at hl 0 rfl) ?_
              refine lv_if_eq (tgt := 123) hx hb dX6_nextOrder_116 (by decide) (fun c => absurd c (by decide)) (fun _ => ?_)
              refine lv_iload_n hx hb dX6_nextOrder_119 rfl (lv_at hl 3 rfl) ?_
              refine lv_goto (tgt := 124) hx hb dX6_nextOrder_120 (by decide) ?_
              refine lv_istore_n (lv' := [(1, .int x3_3), (6, .int 1), (5, .int 0), (4, .int ((M 0) (((20 + (2 * x3_3))).toNatClampNeg))), (3, .int x3_3), (2, .int x2_4), (0, .ref (q 0))]) hx hb dX6_nextOrder_124 rfl hl (by decide) rfl (fun ls hl => ?_)
              refine lv_iload hx hb dX6_nextOrder_125 (lv_at hl 1 rfl) ?_
              refine lv_if_eq (tgt := 135) hx hb dX6_nextOrder_127 (by decide) (fun c => absurd c (by decide)) (fun _ => ?_)
              refine lv_iload hx hb dX6_nextOrder_130 (lv_at hl 2 rfl) ?_
              refine lv_goto (tgt := 136) hx hb dX6_nextOrder_132 (by decide) ?_
              refine lv_istore_n (lv' := [(2, .int 0), (1, .int x3_3), (6, .int 1), (5, .int 0), (4, .int ((M 0) (((20 + (2 * x3_3))).toNatClampNeg))), (3, .int x3_3), (0, .ref (q 0))]) hx hb dX6_nextOrder_136 rfl hl (by decide) rfl (fun ls hl => ?_)
              refine lv_iinc (v := x3_3 + 1) (lv' := [(3, .int (x3_3 + 1)), (2, .int 0), (1, .int x3_3), (6, .int 1), (5, .int 0), (4, .int ((M 0) (((20 + (2 * x3_3))).toNatClampNeg))), (0, .ref (q 0))]) hx hb dX6_nextOrder_137 hl (k := 5) rfl rfl (by decide) rfl (fun ls hl => ?_)
              refine lv_goto (tgt := 7) hx hb dX6_nextOrder_140 (by decide) ?_
              obtain ⟨n_49, lt_50, h_51⟩ := h
              exact ih_6 n_49 lt_50 _ _ _ h_51 _ _ _ hP hD hS (lv_sub hl [0, 1, 2, 6] rfl)
  exact lp_10 _ _ _ _ h_8 _ _ _ hP hD hS hl
def q_X6_nearestToOpen (M : St) (Q : Int32 → Prop) : Prop :=
  ∃ (I_2 : Nat → Int32 → Int32 → Prop) (n_6 : Nat), I_2 n_6 0 (-1000004) ∧ ∀ (n_1 : Nat) (x2_3 : Int32) (x1_4 : Int32), I_2 n_1 x2_3 x1_4 → ((((M 0) 3) ≤ x2_3 → Q x1_4) ∧ (¬ (((M 0) 3) ≤ x2_3) → q_X6_of x2_3 2 M (fun r_11 => (10 ≤ r_11 → ∃ n_13, n_13 < n_1 ∧ I_2 n_13 (x2_3 + 1) x1_4) ∧ (¬ (10 ≤ r_11) → (x1_4 < 0 → ∃ n_17, n_17 < n_1 ∧ I_2 n_17 (x2_3 + 1) x2_3) ∧ (¬ (x1_4 < 0) → q_X6_size (x2_3 - ((M 0) 6)) (fun r_20 => q_X6_size (x1_4 - ((M 0) 6)) (fun r_21 => (r_21 ≤ r_20 → ∃ n_23, n_23 < n_1 ∧ I_2 n_23 (x2_3 + 1) x1_4) ∧ (¬ (r_21 ≤ r_20) → ∃ n_26, n_26 < n_1 ∧ I_2 n_26 (x2_3 + 1) x2_3))))))))
set_option maxHeartbeats 4000000 in
set_option maxRecDepth 100000 in
theorem c_X6_nearestToOpen (l : Launch) (G : va_G) (cI cC cD : ClassId) (q : Nat → Nat) (sz : Nat) (M : St)  (Q : Int32 → Prop) (h : q_X6_nearestToOpen  M Q) : Met l yX6_nearestToOpen wsX6_nearestToOpen ({ frames := 1, cells := 0, slots := 0, locals := 22 }) (va_Pc [.ref (q 0)] (PW G (ty3 cI cC cD) (wM cI q M) sz)) (va_Qi (fun (r : Int32) (_ : Unit) => Q r) (BW G (fun _ : Unit => (wM cI q M)) (va_A (wM cI q M) sz)) (va_A (wM cI q M) sz)) 0 0 (va_A (wM cI q M) sz) := by
  refine Met.ofW (cc := cX6_nearestToOpen) (maxL := 3) (ret := (some .int)) (by decide) rfl ?_
  intro p e s m args below meth c s₁ B hml hv
  obtain ⟨rfl, hsz, hP, hK, hD0, hN⟩ := hv
  have hx := B.exec
  have hb := B.bytes
  have hr := B.returns
  have hts := atoms_spec (ws := wsX6_nearestToOpen) B.pre
  have hown : s.vm.findClass RX6 = some m.cls := findClass_of_methodNamed B.named
  have hlocks := B.notSynchronized
  subst hsz
  have hD := hD0.self (sz := s.heap.size)
  generalize hAe : va_A (wM cI q M) s.heap.size = A at hD ⊢
  have hA : ∀ q : Nat, s.heap.size ≤ q → A q := fun q h => by rw [← hAe]; exact Or.inr h
  have hS : va_S A s.heap s.heap [] := va_S.rf
  have hl := lv_entry ([.ref (q 0)]) (n := 3) (Nat.le_of_ble_eq_true rfl)
  rw [lg_entry_eq]
  generalize (lg_sl ([.ref (q 0)]) ++ List.replicate (3 - (lg_sl ([.ref (q 0)])).length) Slot.unset).toArray = ls at hl ⊢
  have hl : lv_has ls 3 [(0, .ref (q 0))] := hl
  have hinX6 : ∀ w ∈ wsX60, w ∈ wsX6_nearestToOpen := by decide +kernel
  have hL7 := hts (.fieldLink RX6 7 "CraneGatesModel" "s" "[I") (by decide +kernel)
  unfold q_X6_nearestToOpen at h
  refine lv_ldc hx hb hown (hts (.constant RX6 40 (-1000004)) (by decide +kernel)) dX6_nearestToOpen_0 ?_
  refine lv_istore_n (lv' := [(1, .int (-1000004)), (0, .ref (q 0))]) hx hb dX6_nearestToOpen_2 rfl hl (by decide) rfl (fun ls hl => ?_)
  refine lv_iconst (v := 0) hx hb dX6_nearestToOpen_3 (by decide) ?_
  refine lv_istore_n (lv' := [(2, .int 0), (1, .int (-1000004)), (0, .ref (q 0))]) hx hb dX6_nearestToOpen_4 rfl hl (by decide) rfl (fun ls hl => ?_)
  obtain ⟨I_2, n_6, h_7, hI_8⟩ := h
  have lp_9 : ∀ (n_1 : Nat) (x2_3 : Int32) (x1_4 : Int32), I_2 n_1 x2_3 x1_4 → ∀ (H : Heap) (locs : List Loc) (ls : Array Slot), va_P G vwCl (wM cI q M) H → va_D A (wM cI q M) → va_S A s.heap H locs → lv_has ls 3 [(2, .int x2_3), (1, .int x1_4), (0, .ref (q 0))] → W p l e (headSpec wsX6_nearestToOpen ({ frames := 1, cells := 0, slots := 0, locals := 22 })).room s m ([.ref (q 0)] : List Value).toArray below meth c H locs 0 0 (MQ below (va_Qi (fun (r : Int32) (_ : Unit) => Q r) (BW G (fun _ : Unit => (wM cI q M)) A) A) ([.ref (q 0)] : List Value).toArray s 0 0 A) (F0 m 5 ls []) := by
    intro n_1
    induction n_1 using Nat.strongRecOn with
    | ind n_1 ih_5 =>
      intro x2_3 x1_4 hIn H locs ls hP hD hS hl
      have h := hI_8 n_1 x2_3 x1_4 hIn
      refine lv_iload_n hx hb dX6_nearestToOpen_5 rfl (lv_at hl 0 rfl) ?_
      refine lv_aload_n hx hb dX6_nearestToOpen_6 rfl (lv_at hl 2 rfl) ?_
      refine va_get (D := G) (ci := 6) (v := .ref (q 1)) (C := RX6) (T := TX6) (N := 11) hx hb hts hinX6 hown hK hP 0 rfl rfl 0 (by decide) hL7 (fun _ h9 => h9) rfl dX6_nearestToOpen_7 ?_
      refine lv_iconst (v := 3) hx hb dX6_nearestToOpen_10 (by decide) ?_
      refine k_ald (f := (M 0)) (j := 3) (v := ((M 0) 3)) hx hb hK hP 1 0 rfl rfl (show ¬ ((3 : Int32) < 0 ∨ 86 ≤ (3 : Int32).toNatClampNeg) by decide) rfl rfl dX6_nearestToOpen_11 ?_
      refine lv_icmp_ge (tgt := 69) hx hb dX6_nearestToOpen_12 (by decide) (fun c_10 => ?_) (fun c_10 => ?_)
      · have h := h.1 c_10
        refine lv_iload_n hx hb dX6_nearestToOpen_69 rfl (lv_at hl 1 rfl) ?_
        exact W.iret (v := x1_4) hx hb hr (fun t ht hW => ⟨⟨x1_4, (), rfl, h, by rw [ht]; exact hP, hD⟩, hS.F ht⟩) hS.2.2 dX6_nearestToOpen_70
      · have h := h.2 c_10
        refine lv_aload_n hx hb dX6_nearestToOpen_15 rfl (lv_at hl 2 rfl) ?_
        refine lv_iload_n hx hb dX6_nearestToOpen_16 rfl (lv_at hl 0 rfl) ?_
        refine lv_iconst (v := 2) hx hb dX6_nearestToOpen_17 (by decide) ?_
        refine kc_i (As := [.int x2_3, .int 2]) (rest := []) (wg := (fun _ => (wM cI q M))) ⟨hx, hb, hml, hown, hts⟩ (c_X6_of l G cI cC cD q _ M x2_3 2 _ h) (cwV 2 hts gX6_nearestToOpen_X6_of rfl rfl rfl (by decide +kernel) ⟨Nat.le_of_ble_eq_true rfl, Nat.le_of_ble_eq_true rfl⟩) hK hN hP hD hS hA (em_MM cI q M) (fun _ => rp_self (em_MM cI q M)) rfl rfl rfl rfl hl.1 rfl (Nat.le_of_ble_eq_true rfl) dX6_nearestToOpen_18 ⟨Nat.zero_le _, Nat.zero_le _⟩ (fun r_11 _ H locs h hP hD hS => ?_)
        refine lv_bipush (v := 10) hx hb dX6_nearestToOpen_21 (by decide) ?_
        refine lv_icmp_ge (tgt := 61) hx hb dX6_nearestToOpen_23 (by decide) (fun c_12 => ?_) (fun c_12 => ?_)
        · have h := h.1 c_12
          refine lv_iload_n hx hb dX6_nearestToOpen_61 rfl (lv_at hl 1 rfl) ?_
          refine lv_istore_n (lv' := [(1, .int x1_4), (2, .int x2_3), (0, .ref (q 0))]) hx hb dX6_nearestToOpen_62 rfl hl (by decide) rfl (fun ls hl => ?_)
          refine lv_iinc (v := x2_3 + 1) (lv' := [(2, .int (x2_3 + 1)), (1, .int x1_4), (0, .ref (q 0))]) hx hb dX6_nearestToOpen_63 hl (k := 1) rfl rfl (by decide) rfl (fun ls hl => ?_)
          refine lv_goto (tgt := 5) hx hb dX6_nearestToOpen_66 (by decide) ?_
          obtain ⟨n_13, lt_14, h_15⟩ := h
          exact ih_5 n_13 lt_14 _ _ h_15 _ _ _ hP hD hS (lv_sub hl [0, 1, 2] rfl)
        · have h := h.2 c_12
          refine lv_iload_n hx hb dX6_nearestToOpen_26 rfl (lv_at hl 1 rfl) ?_
          refine lv_if_lt (tgt := 57) hx hb dX6_nearestToOpen_27 (by decide) (fun c_16 => ?_) (fun c_16 => ?_)
          · have h := h.1 c_16
            refine lv_iload_n hx hb dX6_nearestToOpen_57 rfl (lv_at hl 0 rfl) ?_
            refine lv_goto (tgt := 62) hx hb dX6_nearestToOpen_58 (by decide) ?_
            refine lv_istore_n (lv' := [(1, .int x2_3), (2, .int x2_3), (0, .ref (q 0))]) hx hb dX6_nearestToOpen_62 rfl hl (by decide) rfl (fun ls hl => ?_)
            refine lv_iinc (v := x2_3 + 1) (lv' := [(2, .int (x2_3 + 1)), (1, .int x2_3), (0, .ref (q 0))]) hx hb dX6_nearestToOpen_63 hl (k := 1) rfl rfl (by decide) rfl (fun ls hl => ?_)
            refine lv_goto (tgt := 5) hx hb dX6_nearestToOpen_66 (by decide) ?_
            obtain ⟨n_17, lt_18, h_19⟩ := h
            exact ih_5 n_17 lt_18 _ _ h_19 _ _ _ hP hD hS (lv_sub hl [0, 1, 2] rfl)
          · have h := h.2 c_16
            refine lv_iload_n hx hb dX6_nearestToOpen_30 rfl (lv_at hl 0 rfl) ?_
            refine lv_aload_n hx hb dX6_nearestToOpen_31 rfl (lv_at hl 2 rfl) ?_
            refine va_get (D := G) (ci := 6) (v := .ref (q 1)) (C := RX6) (T := TX6) (N := 11) hx hb hts hinX6 hown hK hP 0 rfl rfl 0 (by decide) hL7 (fun _ h9 => h9) rfl dX6_nearestToOpen_32 ?_
            refine lv_bipush (v := 6) hx hb dX6_nearestToOpen_35 (by decide) ?_
            refine k_ald (f := (M 0)) (j := 6) (v := ((M 0) 6)) hx hb hK hP 1 0 rfl rfl (show ¬ ((6 : Int32) < 0 ∨ 86 ≤ (6 : Int32).toNatClampNeg) by decide) rfl rfl dX6_nearestToOpen_37 ?_
            refine lv_isub hx hb dX6_nearestToOpen_38 ?_
            refine ks_i (As := [.int (x2_3 - ((M 0) 6))]) (rest := []) (wg := (fun _ => (wM cI q M))) ⟨hx, hb, hml, hown, hts⟩ (c_X6_size l G cI cC cD  _  (x2_3 - ((M 0) 6)) _ h) (va_cwS 1 hts gX6_nearestToOpen_X6_size rfl rfl rfl (by decide +kernel) ⟨Nat.le_of_ble_eq_true rfl, Nat.le_of_ble_eq_true rfl⟩) hK hN hP hD hS hA (em_0 _) (fun _ => rp_self (em_0 _)) rfl hl.1 rfl (Nat.le_of_ble_eq_true rfl) dX6_nearestToOpen_39 ⟨Nat.zero_le _, Nat.zero_le _⟩ (fun r_20 _ H locs h hP hD hS => ?_)
            refine lv_iload_n hx hb dX6_nearestToOpen_42 rfl (lv_at hl 1 rfl) ?_
            refine lv_aload_n hx hb dX6_nearestToOpen_43 rfl (lv_at hl 2 rfl) ?_
            refine va_get (D := G) (ci := 6) (v := .ref (q 1)) (C := RX6) (T := TX6) (N := 11) hx hb hts hinX6 hown hK hP 0 rfl rfl 0 (by decide) hL7 (fun _ h9 => h9) rfl dX6_nearestToOpen_44 ?_
            refine lv_bipush (v := 6) hx hb dX6_nearestToOpen_47 (by decide) ?_
            refine k_ald (f := (M 0)) (j := 6) (v := ((M 0) 6)) hx hb hK hP 1 0 rfl rfl (show ¬ ((6 : Int32) < 0 ∨ 86 ≤ (6 : Int32).toNatClampNeg) by decide) rfl rfl dX6_nearestToOpen_49 ?_
            refine lv_isub hx hb dX6_nearestToOpen_50 ?_
            refine ks_i (As := [.int (x1_4 - ((M 0) 6))]) (rest := [.int r_20]) (wg := (fun _ => (wM cI q M))) ⟨hx, hb, hml, hown, hts⟩ (c_X6_size l G cI cC cD  _  (x1_4 - ((M 0) 6)) _ h) (va_cwS 1 hts gX6_nearestToOpen_X6_size rfl rfl rfl (by decide +kernel) ⟨Nat.le_of_ble_eq_true rfl, Nat.le_of_ble_eq_true rfl⟩) hK hN hP hD hS hA (em_0 _) (fun _ => rp_self (em_0 _)) rfl hl.1 rfl (Nat.le_of_ble_eq_true rfl) dX6_nearestToOpen_51 ⟨Nat.zero_le _, Nat.zero_le _⟩ (fun r_21 _ H locs h hP hD hS => ?_)
            refine lv_icmp_ge (tgt := 61) hx hb dX6_nearestToOpen_54 (by decide) (fun c_22 => ?_) (fun c_22 => ?_)
            · have h := h.1 c_22
              refine lv_iload_n hx hb dX6_nearestToOpen_61 rfl (lv_at hl 1 rfl) ?_
              refine lv_istore_n (lv' := [(1, .int x1_4), (2, .int x2_3), (0, .ref (q 0))]) hx hb dX6_nearestToOpen_62 rfl hl (by decide) rfl (fun ls hl => ?_)
              refine lv_iinc (v := x2_3 + 1) (lv' := [(2, .int (x2_3 + 1)), (1, .int x1_4), (0, .ref (q 0))]) hx hb dX6_nearestToOpen_63 hl (k := 1) rfl rfl (by decide) rfl (fun ls hl => ?_)
              refine lv_goto (tgt := 5) hx hb dX6_nearestToOpen_66 (by decide) ?_
              obtain ⟨n_23, lt_24, h_25⟩ := h
              exact ih_5 n_23 lt_24 _ _ h_25 _ _ _ hP hD hS (lv_sub hl [0, 1, 2] rfl)
            · have h := h.2 c_22
              refine lv_iload_n hx hb dX6_nearestToOpen_57 rfl (lv_at hl 0 rfl) ?_
              refine lv_goto (tgt := 62) hx hb dX6_nearestToOpen_58 (by decide) ?_
              refine lv_istore_n (lv' := [(1, .int x2_3), (2, .int x2_3), (0, .ref (q 0))]) hx hb dX6_nearestToOpen_62 rfl hl (by decide) rfl (fun ls hl => ?_)
              refine lv_iinc (v := x2_3 + 1) (lv' := [(2, .int (x2_3 + 1)), (1, .int x2_3), (0, .ref (q 0))]) hx hb dX6_nearestToOpen_63 hl (k := 1) rfl rfl (by decide) rfl (fun ls hl => ?_)
              refine lv_goto (tgt := 5) hx hb dX6_nearestToOpen_66 (by decide) ?_
              obtain ⟨n_26, lt_27, h_28⟩ := h
              exact ih_5 n_26 lt_27 _ _ h_28 _ _ _ hP hD hS (lv_sub hl [0, 1, 2] rfl)
  exact lp_9 _ _ _ h_7 _ _ _ hP hD hS hl
def q_X6_takes (M : St) (Q : Int32 → St → Prop) : Prop :=
  (((M 0) 9) = 1 → q_X6_nearestToOpen M (fun r_17 => (0 ≤ r_17 → (((upd (upd (M 0) 7 r_17) 8 10) 7) < 0 → Q 0 (uA (uA M 0 (upd (M 0) 7 r_17)) 0 (upd (upd (M 0) 7 r_17) 8 10))) ∧ (¬ (((upd (upd (M 0) 7 r_17) 8 10) 7) < 0) → Q 1 (uA (uA M 0 (upd (M 0) 7 r_17)) 0 (upd (upd (M 0) 7 r_17) 8 10)))) ∧ (¬ (0 ≤ r_17) → (((upd (upd (M 0) 7 (-1)) 8 10) 7) < 0 → Q 0 (uA (uA M 0 (upd (M 0) 7 (-1))) 0 (upd (upd (M 0) 7 (-1)) 8 10))) ∧ (¬ (((upd (upd (M 0) 7 (-1)) 8 10) 7) < 0) → Q 1 (uA (uA M 0 (upd (M 0) 7 (-1))) 0 (upd (upd (M 0) 7 (-1)) 8 10)))))) ∧ (¬ (((M 0) 9) = 1) → (((M 0) 11) ≤ 0 → q_X6_nextOrder M (fun r_3 => (0 ≤ r_3 → vp_in (20 + (2 * r_3)) 86 ∧ (vp_in ((20 + (2 * r_3)) + 1) 86 ∧ ((r_3 < 0 → (((upd (upd (M 0) 7 ((M 0) (((20 + (2 * r_3))).toNatClampNeg))) 8 ((upd (M 0) 7 ((M 0) (((20 + (2 * r_3))).toNatClampNeg))) ((((20 + (2 * r_3)) + 1)).toNatClampNeg))) 7) < 0 → Q 0 (uA (uA M 0 (upd (M 0) 7 ((M 0) (((20 + (2 * r_3))).toNatClampNeg)))) 0 (upd (upd (M 0) 7 ((M 0) (((20 + (2 * r_3))).toNatClampNeg))) 8 ((upd (M 0) 7 ((M 0) (((20 + (2 * r_3))).toNatClampNeg))) ((((20 + (2 * r_3)) + 1)).toNatClampNeg))))) ∧ (¬ (((upd (upd (M 0) 7 ((M 0) (((20 + (2 * r_3))).toNatClampNeg))) 8 ((upd (M 0) 7 ((M 0) (((20 + (2 * r_3))).toNatClampNeg))) ((((20 + (2 * r_3)) + 1)).toNatClampNeg))) 7) < 0) → Q 1 (uA (uA M 0 (upd (M 0) 7 ((M 0) (((20 + (2 * r_3))).toNatClampNeg)))) 0 (upd (upd (M 0) 7 ((M 0) (((20 + (2 * r_3))).toNatClampNeg))) 8 ((upd (M 0) 7 ((M 0) (((20 + (2 * r_3))).toNatClampNeg))) ((((20 + (2 * r_3)) + 1)).toNatClampNeg)))))) ∧ (¬ (r_3 < 0) → q_X6_dropsOrder r_3 (uA (uA M 0 (upd (M 0) 7 ((M 0) (((20 + (2 * r_3))).toNatClampNeg)))) 0 (upd (upd (M 0) 7 ((M 0) (((20 + (2 * r_3))).toNatClampNeg))) 8 ((upd (M 0) 7 ((M 0) (((20 + (2 * r_3))).toNatClampNeg))) ((((20 + (2 * r_3)) + 1)).toNatClampNeg)))) (fun u_9 => (((u_9 0) 7) < 0 → Q 0 u_9) ∧ (¬ (((u_9 0) 7) < 0) → Q 1 u_9)))))) ∧ (¬ (0 ≤ r_3) → (r_3 < 0 → (((upd (upd (M 0) 7 (-1)) 8 0) 7) < 0 → Q 0 (uA (uA M 0 (upd (M 0) 7 (-1))) 0 (upd (upd (M 0) 7 (-1)) 8 0))) ∧ (¬ (((upd (upd (M 0) 7 (-1)) 8 0) 7) < 0) → Q 1 (uA (uA M 0 (upd (M 0) 7 (-1))) 0 (upd (upd (M 0) 7 (-1)) 8 0)))) ∧ (¬ (r_3 < 0) → q_X6_dropsOrder r_3 (uA (uA M 0 (upd (M 0) 7 (-1))) 0 (upd (upd (M 0) 7 (-1)) 8 0)) (fun u_13 => (((u_13 0) 7) < 0 → Q 0 u_13) ∧ (¬ (((u_13 0) 7) < 0) → Q 1 u_13)))))) ∧ (¬ (((M 0) 11) ≤ 0) → q_X6_dropsMark 0 (uA (uA M 0 (upd (M 0) 7 ((M 0) 36))) 0 (upd (upd (M 0) 7 ((M 0) 36)) 8 ((upd (M 0) 7 ((M 0) 36)) 37))) (fun u_15 => (((u_15 0) 7) < 0 → Q 0 u_15) ∧ (¬ (((u_15 0) 7) < 0) → Q 1 u_15))))
set_option maxHeartbeats 4000000 in
set_option maxRecDepth 100000 in
theorem c_X6_takes (l : Launch) (G : va_G) (cI cC cD : ClassId) (q : Nat → Nat) (sz : Nat) (M : St)  (Q : Int32 → St → Prop) (h : q_X6_takes  M Q) : Met l yX6_takes wsX6_takes ({ frames := 2, cells := 0, slots := 0, locals := 48 }) (va_Pc [.ref (q 0)] (PW G (ty3 cI cC cD) (wM cI q M) sz)) (va_Qi Q (BW G (fun u : St => (wM cI q u)) (va_A (wM cI q M) sz)) (va_A (wM cI q M) sz)) 0 0 (va_A (wM cI q M) sz) := by
  refine Met.ofW (cc := cX6_takes) (maxL := 2) (ret := (some .boolean)) (by decide) rfl ?_
  intro p e s m args below meth c s₁ B hml hv
  obtain ⟨rfl, hsz, hP, hK, hD0, hN⟩ := hv
  have hx := B.exec
  have hb := B.bytes
  have hr := B.returns
  have hts := atoms_spec (ws := wsX6_takes) B.pre
  have hown : s.vm.findClass RX6 = some m.cls := findClass_of_methodNamed B.named
  have hlocks := B.notSynchronized
  subst hsz
  have hD := hD0.self (sz := s.heap.size)
  generalize hAe : va_A (wM cI q M) s.heap.size = A at hD ⊢
  have hA : ∀ q : Nat, s.heap.size ≤ q → A q := fun q h => by rw [← hAe]; exact Or.inr h
  have hS : va_S A s.heap s.heap [] := va_S.rf
  have hl := lv_entry ([.ref (q 0)]) (n := 2) (Nat.le_of_ble_eq_true rfl)
  rw [lg_entry_eq]
  generalize (lg_sl ([.ref (q 0)]) ++ List.replicate (2 - (lg_sl ([.ref (q 0)])).length) Slot.unset).toArray = ls at hl ⊢
  have hl : lv_has ls 2 [(0, .ref (q 0))] := hl
  have hinX6 : ∀ w ∈ wsX60, w ∈ wsX6_takes := by decide +kernel
  have hL7 := hts (.fieldLink RX6 7 "CraneGatesModel" "s" "[I") (by decide +kernel)
  unfold q_X6_takes at h
  refine lv_aload_n hx hb dX6_takes_0 rfl (lv_at hl 0 rfl) ?_
  refine va_get (D := G) (ci := 6) (v := .ref (q 1)) (C := RX6) (T := TX6) (N := 11) hx hb hts hinX6 hown hK hP 0 rfl rfl 0 (by decide) hL7 (fun _ h9 => h9) rfl dX6_takes_1 ?_
  refine lv_bipush (v := 9) hx hb dX6_takes_4 (by decide) ?_
  refine k_ald (f := (M 0)) (j := 9) (v := ((M 0) 9)) hx hb hK hP 1 0 rfl rfl (show ¬ ((9 : Int32) < 0 ∨ 86 ≤ (9 : Int32).toNatClampNeg) by decide) rfl rfl dX6_takes_6 ?_
  refine lv_iconst (v := 1) hx hb dX6_takes_7 (by decide) ?_
  refine lv_icmp_ne (tgt := 44) hx hb dX6_takes_8 (by decide) (fun c_1 => ?_) (fun c_1 => ?_)
  · have h := h.2 c_1
    refine lv_aload_n hx hb dX6_takes_44 rfl (lv_at hl 0 rfl) ?_
    refine va_get (D := G) (ci := 6) (v := .ref (q 1)) (C := RX6) (T := TX6) (N := 11) hx hb hts hinX6 hown hK hP 0 rfl rfl 0 (by decide) hL7 (fun _ h9 => h9) rfl dX6_takes_45 ?_
    refine lv_bipush (v := 11) hx hb dX6_takes_48 (by decide) ?_
    refine k_ald (f := (M 0)) (j := 11) (v := ((M 0) 11)) hx hb hK hP 1 0 rfl rfl (show ¬ ((11 : Int32) < 0 ∨ 86 ≤ (11 : Int32).toNatClampNeg) by decide) rfl rfl dX6_takes_50 ?_
    refine lv_if_le (tgt := 90) hx hb dX6_takes_51 (by decide) (fun c_2 => ?_) (fun c_2 => ?_)
    · have h := h.1 c_2
      refine lv_aload_n hx hb dX6_takes_90 rfl (lv_at hl 0 rfl) ?_
      refine kc_i (As := []) (rest := []) (wg := (fun _ => (wM cI q M))) ⟨hx, hb, hml, hown, hts⟩ (c_X6_nextOrder l G cI cC cD q _ M  _ h) (cwV 0 hts gX6_takes_X6_nextOrder rfl rfl rfl (by decide +kernel) ⟨Nat.le_of_ble_eq_true rfl, Nat.le_of_ble_eq_true rfl⟩) hK hN hP hD hS hA (em_MM cI q M) (fun _ => rp_self (em_MM cI q M)) rfl rfl rfl rfl hl.1 rfl (Nat.le_of_ble_eq_true rfl) dX6_takes_91 ⟨Nat.zero_le _, Nat.zero_le _⟩ (fun r_3 _ H locs h hP hD hS => ?_)
      refine lv_istore_n (lv' := [(1, .int r_3), (0, .ref (q 0))]) hx hb dX6_takes_94 rfl hl (by decide) rfl (fun ls hl => ?_)
      refine lv_aload_n hx hb dX6_takes_95 rfl (lv_at hl 1 rfl) ?_
      refine va_get (D := G) (ci := 6) (v := .ref (q 1)) (C := RX6) (T := TX6) (N := 11) hx hb hts hinX6 hown hK hP 0 rfl rfl 0 (by decide) hL7 (fun _ h9 => h9) rfl dX6_takes_96 ?_
      refine lv_bipush (v := 7) hx hb dX6_takes_99 (by decide) ?_
      refine lv_iload_n hx hb dX6_takes_101 rfl (lv_at hl 0 rfl) ?_
      refine lv_if_ge (tgt := 109) hx hb dX6_takes_102 (by decide) (fun c_4 => ?_) (fun c_4 => ?_)
      · have h := h.1 c_4
        refine lv_aload_n hx hb dX6_takes_109 rfl (lv_at hl 1 rfl) ?_
        refine va_get (D := G) (ci := 6) (v := .ref (q 1)) (C := RX6) (T := TX6) (N := 11) hx hb hts hinX6 hown hK hP 0 rfl rfl 0 (by decide) hL7 (fun _ h9 => h9) rfl dX6_takes_110 ?_
        refine lv_bipush (v := 20) hx hb dX6_takes_113 (by decide) ?_
        refine lv_iconst (v := 2) hx hb dX6_takes_115 (by decide) ?_
        refine lv_iload_n hx hb dX6_takes_116 rfl (lv_at hl 0 rfl) ?_
        refine lv_imul hx hb dX6_takes_117 ?_
        refine lv_iadd hx hb dX6_takes_118 ?_
        obtain ⟨hi_5, h⟩ := h
        refine k_ald (f := (M 0)) (j := ((20 + (2 * r_3))).toNatClampNeg) (v := ((M 0) (((20 + (2 * r_3))).toNatClampNeg))) hx hb hK hP 1 0 rfl rfl hi_5 rfl rfl dX6_takes_119 ?_
        refine k_ast (f := (M 0)) (j := 7) (ws' := (wM cI q (uA M 0 (upd (M 0) 7 ((M 0) (((20 + (2 * r_3))).toNatClampNeg)))))) hx hb hK hP hD hS 1 0 rfl rfl (show ¬ ((7 : Int32) < 0 ∨ 86 ≤ (7 : Int32).toNatClampNeg) by decide) rfl dX6_takes_120 (st_M_0 cI q M (upd (M 0) 7 ((M 0) (((20 + (2 * r_3))).toNatClampNeg)))) (fun H locs hP hD hS => ?_)
        refine lv_aload_n hx hb dX6_takes_121 rfl (lv_at hl 1 rfl) ?_
        refine va_get (D := G) (ci := 6) (v := .ref (q 1)) (C := RX6) (T := TX6) (N := 11) hx hb hts hinX6 hown hK hP 0 rfl rfl 0 (by decide) hL7 (fun _ h9 => h9) rfl dX6_takes_122 ?_
        refine lv_bipush (v := 8) hx hb dX6_takes_125 (by decide) ?_
        refine lv_iload_n hx hb dX6_takes_127 rfl (lv_at hl 0 rfl) ?_
        refine lv_if_ge (tgt := 135) hx hb dX6_takes_128 (by decide) (fun _ => ?_) (fun c => absurd c_4 c)
        refine lv_aload_n hx hb dX6_takes_135 rfl (lv_at hl 1 rfl) ?_
        refine va_get (D := G) (ci := 6) (v := .ref (q 1)) (C := RX6) (T := TX6) (N := 11) hx hb hts hinX6 hown hK hP 0 rfl rfl 0 (by decide) hL7 (fun _ h9 => h9) rfl dX6_takes_136 ?_
        refine lv_bipush (v := 20) hx hb dX6_takes_139 (by decide) ?_
        refine lv_iconst (v := 2) hx hb dX6_takes_141 (by decide) ?_
        refine lv_iload_n hx hb dX6_takes_142 rfl (lv_at hl 0 rfl) ?_
        refine lv_imul hx hb dX6_takes_143 ?_
        refine lv_iadd hx hb dX6_takes_144 ?_
        refine lv_iconst (v := 1) hx hb dX6_takes_145 (by decide) ?_
        refine lv_iadd hx hb dX6_takes_146 ?_
        obtain ⟨hi_6, h⟩ := h
        refine k_ald (f := (upd (M 0) 7 ((M 0) (((20 + (2 * r_3))).toNatClampNeg)))) (j := (((20 + (2 * r_3)) + 1)).toNatClampNeg) (v := ((upd (M 0) 7 ((M 0) (((20 + (2 * r_3))).toNatClampNeg))) ((((20 + (2 * r_3)) + 1)).toNatClampNeg))) hx hb hK hP 1 0 rfl rfl hi_6 rfl rfl dX6_takes_147 ?_
        refine k_ast (f := (upd (M 0) 7 ((M 0) (((20 + (2 * r_3))).toNatClampNeg)))) (j := 8) (ws' := (wM cI q (uA (uA M 0 (upd (M 0) 7 ((M 0) (((20 + (2 * r_3))).toNatClampNeg)))) 0 (upd (upd (M 0) 7 ((M 0) (((20 + (2 * r_3))).toNatClampNeg))) 8 ((upd (M 0) 7 ((M 0) (((20 + (2 * r_3))).toNatClampNeg))) ((((20 + (2 * r_3)) + 1)).toNatClampNeg)))))) hx hb hK hP hD hS 1 0 rfl rfl (show ¬ ((8 : Int32) < 0 ∨ 86 ≤ (8 : Int32).toNatClampNeg) by decide) rfl dX6_takes_148 (st_M_0 cI q (uA M 0 (upd (M 0) 7 ((M 0) (((20 + (2 * r_3))).toNatClampNeg)))) (upd (upd (M 0) 7 ((M 0) (((20 + (2 * r_3))).toNatClampNeg))) 8 ((upd (M 0) 7 ((M 0) (((20 + (2 * r_3))).toNatClampNeg))) ((((20 + (2 * r_3)) + 1)).toNatClampNeg)))) (fun H locs hP hD hS => ?_)
        refine lv_iload_n hx hb dX6_takes_149 rfl (lv_at hl 0 rfl) ?_
        refine lv_if_lt (tgt := 158) hx hb dX6_takes_150 (by decide) (fun c_7 => ?_) (fun c_7 => ?_)
        · have h := h.1 c_7
          refine lv_aload_n hx hb dX6_takes_158 rfl (lv_at hl 1 rfl) ?_
          refine va_get (D := G) (ci := 6) (v := .ref (q 1)) (C := RX6) (T := TX6) (N := 11) hx hb hts hinX6 hown hK hP 0 rfl rfl 0 (by decide) hL7 (fun _ h9 => h9) rfl dX6_takes_159 ?_
          refine lv_bipush (v := 7) hx hb dX6_takes_162 (by decide) ?_
          refine k_ald (f := (upd (upd (M 0) 7 ((M 0) (((20 + (2 * r_3))).toNatClampNeg))) 8 ((upd (M 0) 7 ((M 0) (((20 + (2 * r_3))).toNatClampNeg))) ((((20 + (2 * r_3)) + 1)).toNatClampNeg)))) (j := 7) (v := ((upd (upd (M 0) 7 ((M 0) (((20 + (2 * r_3))).toNatClampNeg))) 8 ((upd (M 0) 7 ((M 0) (((20 + (2 * r_3))).toNatClampNeg))) ((((20 + (2 * r_3)) + 1)).toNatClampNeg))) 7)) hx hb hK hP 1 0 rfl rfl (show ¬ ((7 : Int32) < 0 ∨ 86 ≤ (7 : Int32).toNatClampNeg) by decide) rfl rfl dX6_takes_164 ?_
          refine lv_if_lt (tgt := 172) hx hb dX6_takes_165 (by decide) (fun c_8 => ?_) (fun c_8 => ?_)
          · have h := h.1 c_8
            refine lv_iconst (v := 0) hx hb dX6_takes_172 (by decide) ?_
            exact W.zret (v := 0) hx hb hr rfl (fun t ht hW => ⟨⟨0, (uA (uA M 0 (upd (M 0) 7 ((M 0) (((20 + (2 * r_3))).toNatClampNeg)))) 0 (upd (upd (M 0) 7 ((M 0) (((20 + (2 * r_3))).toNatClampNeg))) 8 ((upd (M 0) 7 ((M 0) (((20 + (2 * r_3))).toNatClampNeg))) ((((20 + (2 * r_3)) + 1)).toNatClampNeg)))), rfl, h, by rw [ht]; exact hP, hD⟩, hS.F ht⟩) hS.2.2 dX6_takes_173
          · have h := h.2 c_8
            refine lv_iconst (v := 1) hx hb dX6_takes_168 (by decide) ?_
            refine lv_goto (tgt := 173) hx hb dX6_takes_169 (by decide) ?_
            exact W.zret (v := 1) hx hb hr rfl (fun t ht hW => ⟨⟨1, (uA (uA M 0 (upd (M 0) 7 ((M 0) (((20 + (2 * r_3))).toNatClampNeg)))) 0 (upd (upd (M 0) 7 ((M 0) (((20 + (2 * r_3))).toNatClampNeg))) 8 ((upd (M 0) 7 ((M 0) (((20 + (2 * r_3))).toNatClampNeg))) ((((20 + (2 * r_3)) + 1)).toNatClampNeg)))), rfl, h, by rw [ht]; exact hP, hD⟩, hS.F ht⟩) hS.2.2 dX6_takes_173
        · have h := h.2 c_7
          refine lv_aload_n hx hb dX6_takes_153 rfl (lv_at hl 1 rfl) ?_
          refine lv_iload_n hx hb dX6_takes_154 rfl (lv_at hl 0 rfl) ?_
          refine kc_v (As := [.int r_3]) (rest := []) (wg := (fun u => (wM cI q u))) ⟨hx, hb, hml, hown, hts⟩ (c_X6_dropsOrder l G cI cC cD q _ (uA (uA M 0 (upd (M 0) 7 ((M 0) (((20 + (2 * r_3))).toNatClampNeg)))) 0 (upd (upd (M 0) 7 ((M 0) (((20 + (2 * r_3))).toNatClampNeg))) 8 ((upd (M 0) 7 ((M 0) (((20 + (2 * r_3))).toNatClampNeg))) ((((20 + (2 * r_3)) + 1)).toNatClampNeg)))) r_3 _ h) (cwV 1 hts gX6_takes_X6_dropsOrder rfl rfl rfl (by decide +kernel) ⟨Nat.le_of_ble_eq_true rfl, Nat.le_of_ble_eq_true rfl⟩) hK hN hP hD hS hA (em_MM cI q (uA (uA M 0 (upd (M 0) 7 ((M 0) (((20 + (2 * r_3))).toNatClampNeg)))) 0 (upd (upd (M 0) 7 ((M 0) (((20 + (2 * r_3))).toNatClampNeg))) 8 ((upd (M 0) 7 ((M 0) (((20 + (2 * r_3))).toNatClampNeg))) ((((20 + (2 * r_3)) + 1)).toNatClampNeg))))) (fun u => rp_MM cI q (uA (uA M 0 (upd (M 0) 7 ((M 0) (((20 + (2 * r_3))).toNatClampNeg)))) 0 (upd (upd (M 0) 7 ((M 0) (((20 + (2 * r_3))).toNatClampNeg))) 8 ((upd (M 0) 7 ((M 0) (((20 + (2 * r_3))).toNatClampNeg))) ((((20 + (2 * r_3)) + 1)).toNatClampNeg)))) u) rfl rfl rfl rfl hl.1 rfl (Nat.le_of_ble_eq_true rfl) dX6_takes_155 ⟨Nat.zero_le _, Nat.zero_le _⟩ (fun u_9 H locs h hP hD hS => ?_)
          refine lv_aload_n hx hb dX6_takes_158 rfl (lv_at hl 1 rfl) ?_
          refine va_get (D := G) (ci := 6) (v := .ref (q 1)) (C := RX6) (T := TX6) (N := 11) hx hb hts hinX6 hown hK hP 0 rfl rfl 0 (by decide) hL7 (fun _ h9 => h9) rfl dX6_takes_159 ?_
          refine lv_bipush (v := 7) hx hb dX6_takes_162 (by decide) ?_
          refine k_ald (f := (u_9 0)) (j := 7) (v := ((u_9 0) 7)) hx hb hK hP 1 0 rfl rfl (show ¬ ((7 : Int32) < 0 ∨ 86 ≤ (7 : Int32).toNatClampNeg) by decide) rfl rfl dX6_takes_164 ?_
          refine lv_if_lt (tgt := 172) hx hb dX6_takes_165 (by decide) (fun c_10 => ?_) (fun c_10 => ?_)
          · have h := h.1 c_10
            refine lv_iconst (v := 0) hx hb dX6_takes_172 (by decide) ?_
            exact W.zret (v := 0) hx hb hr rfl (fun t ht hW => ⟨⟨0, u_9, rfl, h, by rw [ht]; exact hP, hD⟩, hS.F ht⟩) hS.2.2 dX6_takes_173
          · have h := h.2 c_10
            refine lv_iconst (v := 1) hx hb dX6_takes_168 (by decide) ?_
            refine lv_goto (tgt := 173) hx hb dX6_takes_169 (by decide) ?_
            exact W.zret (v := 1) hx hb hr rfl (fun t ht hW => ⟨⟨1, u_9, rfl, h, by rw [ht]; exact hP, hD⟩, hS.F ht⟩) hS.2.2 dX6_takes_173
      · have h := h.2 c_4
        refine lv_iconst (v := (-1)) hx hb dX6_takes_105 (by decide) ?_
        refine lv_goto (tgt := 120) hx hb dX6_takes_106 (by decide) ?_
        refine k_ast (f := (M 0)) (j := 7) (ws' := (wM cI q (uA M 0 (upd (M 0) 7 (-1))))) hx hb hK hP hD hS 1 0 rfl rfl (show ¬ ((7 : Int32) < 0 ∨ 86 ≤ (7 : Int32).toNatClampNeg) by decide) rfl dX6_takes_120 (st_M_0 cI q M (upd (M 0) 7 (-1))) (fun H locs hP hD hS => ?_)
        refine lv_aload_n hx hb dX6_takes_121 rfl (lv_at hl 1 rfl) ?_
        refine va_get (D := G) (ci := 6) (v := .ref (q 1)) (C := RX6) (T := TX6) (N := 11) hx hb hts hinX6 hown hK hP 0 rfl rfl 0 (by decide) hL7 (fun _ h9 => h9) rfl dX6_takes_122 ?_
        refine lv_bipush (v := 8) hx hb dX6_takes_125 (by decide) ?_
        refine lv_iload_n hx hb dX6_takes_127 rfl (lv_at hl 0 rfl) ?_
        refine lv_if_ge (tgt := 135) hx hb dX6_takes_128 (by decide) (fun c => absurd c c_4) (fun _ => ?_)
        refine lv_iconst (v := 0) hx hb dX6_takes_131 (by decide) ?_
        refine lv_goto (tgt := 148) hx hb dX6_takes_132 (by decide) ?_
        refine k_ast (f := (upd (M 0) 7 (-1))) (j := 8) (ws' := (wM cI q (uA (uA M 0 (upd (M 0) 7 (-1))) 0 (upd (upd (M 0) 7 (-1)) 8 0)))) hx hb hK hP hD hS 1 0 rfl rfl (show ¬ ((8 : Int32) < 0 ∨ 86 ≤ (8 : Int32).toNatClampNeg) by decide) rfl dX6_takes_148 (st_M_0 cI q (uA M 0 (upd (M 0) 7 (-1))) (upd (upd (M 0) 7 (-1)) 8 0)) (fun H locs hP hD hS => ?_)
        refine lv_iload_n hx hb dX6_takes_149 rfl (lv_at hl 0 rfl) ?_
        refine lv_if_lt (tgt := 158) hx hb dX6_takes_150 (by decide) (fun c_11 => ?_) (fun c_11 => ?_)
        · have h := h.1 c_11
          refine lv_aload_n hx hb dX6_takes_158 rfl (lv_at hl 1 rfl) ?_
          refine va_get (D := G) (ci := 6) (v := .ref (q 1)) (C := RX6) (T := TX6) (N := 11) hx hb hts hinX6 hown hK hP 0 rfl rfl 0 (by decide) hL7 (fun _ h9 => h9) rfl dX6_takes_159 ?_
          refine lv_bipush (v := 7) hx hb dX6_takes_162 (by decide) ?_
          refine k_ald (f := (upd (upd (M 0) 7 (-1)) 8 0)) (j := 7) (v := ((upd (upd (M 0) 7 (-1)) 8 0) 7)) hx hb hK hP 1 0 rfl rfl (show ¬ ((7 : Int32) < 0 ∨ 86 ≤ (7 : Int32).toNatClampNeg) by decide) rfl rfl dX6_takes_164 ?_
          refine lv_if_lt (tgt := 172) hx hb dX6_takes_165 (by decide) (fun c_12 => ?_) (fun c_12 => ?_)
          · have h := h.1 c_12
            refine lv_iconst (v := 0) hx hb dX6_takes_172 (by decide) ?_
            exact W.zret (v := 0) hx hb hr rfl (fun t ht hW => ⟨⟨0, (uA (uA M 0 (upd (M 0) 7 (-1))) 0 (upd (upd (M 0) 7 (-1)) 8 0)), rfl, h, by rw [ht]; exact hP, hD⟩, hS.F ht⟩) hS.2.2 dX6_takes_173
          · have h := h.2 c_12
            refine lv_iconst (v := 1) hx hb dX6_takes_168 (by decide) ?_
            refine lv_goto (tgt := 173) hx hb dX6_takes_169 (by decide) ?_
            exact W.zret (v := 1) hx hb hr rfl (fun t ht hW => ⟨⟨1, (uA (uA M 0 (upd (M 0) 7 (-1))) 0 (upd (upd (M 0) 7 (-1)) 8 0)), rfl, h, by rw [ht]; exact hP, hD⟩, hS.F ht⟩) hS.2.2 dX6_takes_173
        · have h := h.2 c_11
          refine lv_aload_n hx hb dX6_takes_153 rfl (lv_at hl 1 rfl) ?_
          refine lv_iload_n hx hb dX6_takes_154 rfl (lv_at hl 0 rfl) ?_
          refine kc_v (As := [.int r_3]) (rest := []) (wg := (fun u => (wM cI q u))) ⟨hx, hb, hml, hown, hts⟩ (c_X6_dropsOrder l G cI cC cD q _ (uA (uA M 0 (upd (M 0) 7 (-1))) 0 (upd (upd (M 0) 7 (-1)) 8 0)) r_3 _ h) (cwV 1 hts gX6_takes_X6_dropsOrder rfl rfl rfl (by decide +kernel) ⟨Nat.le_of_ble_eq_true rfl, Nat.le_of_ble_eq_true rfl⟩) hK hN hP hD hS hA (em_MM cI q (uA (uA M 0 (upd (M 0) 7 (-1))) 0 (upd (upd (M 0) 7 (-1)) 8 0))) (fun u => rp_MM cI q (uA (uA M 0 (upd (M 0) 7 (-1))) 0 (upd (upd (M 0) 7 (-1)) 8 0)) u) rfl rfl rfl rfl hl.1 rfl (Nat.le_of_ble_eq_true rfl) dX6_takes_155 ⟨Nat.zero_le _, Nat.zero_le _⟩ (fun u_13 H locs h hP hD hS => ?_)
          refine lv_aload_n hx hb dX6_takes_158 rfl (lv_at hl 1 rfl) ?_
          refine va_get (D := G) (ci := 6) (v := .ref (q 1)) (C := RX6) (T := TX6) (N := 11) hx hb hts hinX6 hown hK hP 0 rfl rfl 0 (by decide) hL7 (fun _ h9 => h9) rfl dX6_takes_159 ?_
          refine lv_bipush (v := 7) hx hb dX6_takes_162 (by decide) ?_
          refine k_ald (f := (u_13 0)) (j := 7) (v := ((u_13 0) 7)) hx hb hK hP 1 0 rfl rfl (show ¬ ((7 : Int32) < 0 ∨ 86 ≤ (7 : Int32).toNatClampNeg) by decide) rfl rfl dX6_takes_164 ?_
          refine lv_if_lt (tgt := 172) hx hb dX6_takes_165 (by decide) (fun c_14 => ?_) (fun c_14 => ?_)
          · have h := h.1 c_14
            refine lv_iconst (v := 0) hx hb dX6_takes_172 (by decide) ?_
            exact W.zret (v := 0) hx hb hr rfl (fun t ht hW => ⟨⟨0, u_13, rfl, h, by rw [ht]; exact hP, hD⟩, hS.F ht⟩) hS.2.2 dX6_takes_173
          · have h := h.2 c_14
            refine lv_iconst (v := 1) hx hb dX6_takes_168 (by decide) ?_
            refine lv_goto (tgt := 173) hx hb dX6_takes_169 (by decide) ?_
            exact W.zret (v := 1) hx hb hr rfl (fun t ht hW => ⟨⟨1, u_13, rfl, h, by rw [ht]; exact hP, hD⟩, hS.F ht⟩) hS.2.2 dX6_takes_173
    · have h := h.2 c_2
      refine lv_aload_n hx hb dX6_takes_54 rfl (lv_at hl 0 rfl) ?_
      refine va_get (D := G) (ci := 6) (v := .ref (q 1)) (C := RX6) (T := TX6) (N := 11) hx hb hts hinX6 hown hK hP 0 rfl rfl 0 (by decide) hL7 (fun _ h9 => h9) rfl dX6_takes_55 ?_
      refine lv_bipush (v := 7) hx hb dX6_takes_58 (by decide) ?_
      refine lv_aload_n hx hb dX6_takes_60 rfl (lv_at hl 0 rfl) ?_
      refine va_get (D := G) (ci := 6) (v := .ref (q 1)) (C := RX6) (T := TX6) (N := 11) hx hb hts hinX6 hown hK hP 0 rfl rfl 0 (by decide) hL7 (fun _ h9 => h9) rfl dX6_takes_61 ?_
      refine lv_bipush (v := 36) hx hb dX6_takes_64 (by decide) ?_
      refine k_ald (f := (M 0)) (j := 36) (v := ((M 0) 36)) hx hb hK hP 1 0 rfl rfl (show ¬ ((36 : Int32) < 0 ∨ 86 ≤ (36 : Int32).toNatClampNeg) by decide) rfl rfl dX6_takes_66 ?_
      refine k_ast (f := (M 0)) (j := 7) (ws' := (wM cI q (uA M 0 (upd (M 0) 7 ((M 0) 36))))) hx hb hK hP hD hS 1 0 rfl rfl (show ¬ ((7 : Int32) < 0 ∨ 86 ≤ (7 : Int32).toNatClampNeg) by decide) rfl dX6_takes_67 (st_M_0 cI q M (upd (M 0) 7 ((M 0) 36))) (fun H locs hP hD hS => ?_)
      refine lv_aload_n hx hb dX6_takes_68 rfl (lv_at hl 0 rfl) ?_
      refine va_get (D := G) (ci := 6) (v := .ref (q 1)) (C := RX6) (T := TX6) (N := 11) hx hb hts hinX6 hown hK hP 0 rfl rfl 0 (by decide) hL7 (fun _ h9 => h9) rfl dX6_takes_69 ?_
      refine lv_bipush (v := 8) hx hb dX6_takes_72 (by decide) ?_
      refine lv_aload_n hx hb dX6_takes_74 rfl (lv_at hl 0 rfl) ?_
      refine va_get (D := G) (ci := 6) (v := .ref (q 1)) (C := RX6) (T := TX6) (N := 11) hx hb hts hinX6 hown hK hP 0 rfl rfl 0 (by decide) hL7 (fun _ h9 => h9) rfl dX6_takes_75 ?_
      refine lv_bipush (v := 37) hx hb dX6_takes_78 (by decide) ?_
      refine k_ald (f := (upd (M 0) 7 ((M 0) 36))) (j := 37) (v := ((upd (M 0) 7 ((M 0) 36)) 37)) hx hb hK hP 1 0 rfl rfl (show ¬ ((37 : Int32) < 0 ∨ 86 ≤ (37 : Int32).toNatClampNeg) by decide) rfl rfl dX6_takes_80 ?_
      refine k_ast (f := (upd (M 0) 7 ((M 0) 36))) (j := 8) (ws' := (wM cI q (uA (uA M 0 (upd (M 0) 7 ((M 0) 36))) 0 (upd (upd (M 0) 7 ((M 0) 36)) 8 ((upd (M 0) 7 ((M 0) 36)) 37))))) hx hb hK hP hD hS 1 0 rfl rfl (show ¬ ((8 : Int32) < 0 ∨ 86 ≤ (8 : Int32).toNatClampNeg) by decide) rfl dX6_takes_81 (st_M_0 cI q (uA M 0 (upd (M 0) 7 ((M 0) 36))) (upd (upd (M 0) 7 ((M 0) 36)) 8 ((upd (M 0) 7 ((M 0) 36)) 37))) (fun H locs hP hD hS => ?_)
      refine lv_aload_n hx hb dX6_takes_82 rfl (lv_at hl 0 rfl) ?_
      refine lv_iconst (v := 0) hx hb dX6_takes_83 (by decide) ?_
      refine kc_v (As := [.int 0]) (rest := []) (wg := (fun u => (wM cI q u))) ⟨hx, hb, hml, hown, hts⟩ (c_X6_dropsMark l G cI cC cD q _ (uA (uA M 0 (upd (M 0) 7 ((M 0) 36))) 0 (upd (upd (M 0) 7 ((M 0) 36)) 8 ((upd (M 0) 7 ((M 0) 36)) 37))) 0 _ h) (cwV 1 hts gX6_takes_X6_dropsMark rfl rfl rfl (by decide +kernel) ⟨Nat.le_of_ble_eq_true rfl, Nat.le_of_ble_eq_true rfl⟩) hK hN hP hD hS hA (em_MM cI q (uA (uA M 0 (upd (M 0) 7 ((M 0) 36))) 0 (upd (upd (M 0) 7 ((M 0) 36)) 8 ((upd (M 0) 7 ((M 0) 36)) 37)))) (fun u => rp_MM cI q (uA (uA M 0 (upd (M 0) 7 ((M 0) 36))) 0 (upd (upd (M 0) 7 ((M 0) 36)) 8 ((upd (M 0) 7 ((M 0) 36)) 37))) u) rfl rfl rfl rfl hl.1 rfl (Nat.le_of_ble_eq_true rfl) dX6_takes_84 ⟨Nat.zero_le _, Nat.zero_le _⟩ (fun u_15 H locs h hP hD hS => ?_)
      refine lv_goto (tgt := 158) hx hb dX6_takes_87 (by decide) ?_
      refine lv_aload_n hx hb dX6_takes_158 rfl (lv_at hl 0 rfl) ?_
      refine va_get (D := G) (ci := 6) (v := .ref (q 1)) (C := RX6) (T := TX6) (N := 11) hx hb hts hinX6 hown hK hP 0 rfl rfl 0 (by decide) hL7 (fun _ h9 => h9) rfl dX6_takes_159 ?_
      refine lv_bipush (v := 7) hx hb dX6_takes_162 (by decide) ?_
      refine k_ald (f := (u_15 0)) (j := 7) (v := ((u_15 0) 7)) hx hb hK hP 1 0 rfl rfl (show ¬ ((7 : Int32) < 0 ∨ 86 ≤ (7 : Int32).toNatClampNeg) by decide) rfl rfl dX6_takes_164 ?_
      refine lv_if_lt (tgt := 172) hx hb dX6_takes_165 (by decide) (fun c_16 => ?_) (fun c_16 => ?_)
      · have h := h.1 c_16
        refine lv_iconst (v := 0) hx hb dX6_takes_172 (by decide) ?_
        exact W.zret (v := 0) hx hb hr rfl (fun t ht hW => ⟨⟨0, u_15, rfl, h, by rw [ht]; exact hP, hD⟩, hS.F ht⟩) hS.2.2 dX6_takes_173
      · have h := h.2 c_16
        refine lv_iconst (v := 1) hx hb dX6_takes_168 (by decide) ?_
        refine lv_goto (tgt := 173) hx hb dX6_takes_169 (by decide) ?_
        exact W.zret (v := 1) hx hb hr rfl (fun t ht hW => ⟨⟨1, u_15, rfl, h, by rw [ht]; exact hP, hD⟩, hS.F ht⟩) hS.2.2 dX6_takes_173
  · have h := h.1 c_1
    refine lv_aload_n hx hb dX6_takes_11 rfl (lv_at hl 0 rfl) ?_
    refine kc_i (As := []) (rest := []) (wg := (fun _ => (wM cI q M))) ⟨hx, hb, hml, hown, hts⟩ (c_X6_nearestToOpen l G cI cC cD q _ M  _ h) (cwV 0 hts gX6_takes_X6_nearestToOpen rfl rfl rfl (by decide +kernel) ⟨Nat.le_of_ble_eq_true rfl, Nat.le_of_ble_eq_true rfl⟩) hK hN hP hD hS hA (em_MM cI q M) (fun _ => rp_self (em_MM cI q M)) rfl rfl rfl rfl hl.1 rfl (Nat.le_of_ble_eq_true rfl) dX6_takes_12 ⟨Nat.zero_le _, Nat.zero_le _⟩ (fun r_17 _ H locs h hP hD hS => ?_)
    refine lv_istore_n (lv' := [(1, .int r_17), (0, .ref (q 0))]) hx hb dX6_takes_15 rfl hl (by decide) rfl (fun ls hl => ?_)
    refine lv_aload_n hx hb dX6_takes_16 rfl (lv_at hl 1 rfl) ?_
    refine va_get (D := G) (ci := 6) (v := .ref (q 1)) (C := RX6) (T := TX6) (N := 11) hx hb hts hinX6 hown hK hP 0 rfl rfl 0 (by decide) hL7 (fun _ h9 => h9) rfl dX6_takes_17 ?_
    refine lv_bipush (v := 7) hx hb dX6_takes_20 (by decide) ?_
    refine lv_iload_n hx hb dX6_takes_22 rfl (lv_at hl 0 rfl) ?_
    refine lv_if_ge (tgt := 30) hx hb dX6_takes_23 (by decide) (fun c_18 => ?_) (fun c_18 => ?_)
    · have h := h.1 c_18
      refine lv_iload_n hx hb dX6_takes_30 rfl (lv_at hl 0 rfl) ?_
      refine k_ast (f := (M 0)) (j := 7) (ws' := (wM cI q (uA M 0 (upd (M 0) 7 r_17)))) hx hb hK hP hD hS 1 0 rfl rfl (show ¬ ((7 : Int32) < 0 ∨ 86 ≤ (7 : Int32).toNatClampNeg) by decide) rfl dX6_takes_31 (st_M_0 cI q M (upd (M 0) 7 r_17)) (fun H locs hP hD hS => ?_)
      refine lv_aload_n hx hb dX6_takes_32 rfl (lv_at hl 1 rfl) ?_
      refine va_get (D := G) (ci := 6) (v := .ref (q 1)) (C := RX6) (T := TX6) (N := 11) hx hb hts hinX6 hown hK hP 0 rfl rfl 0 (by decide) hL7 (fun _ h9 => h9) rfl dX6_takes_33 ?_
      refine lv_bipush (v := 8) hx hb dX6_takes_36 (by decide) ?_
      refine lv_bipush (v := 10) hx hb dX6_takes_38 (by decide) ?_
      refine k_ast (f := (upd (M 0) 7 r_17)) (j := 8) (ws' := (wM cI q (uA (uA M 0 (upd (M 0) 7 r_17)) 0 (upd (upd (M 0) 7 r_17) 8 10)))) hx hb hK hP hD hS 1 0 rfl rfl (show ¬ ((8 : Int32) < 0 ∨ 86 ≤ (8 : Int32).toNatClampNeg) by decide) rfl dX6_takes_40 (st_M_0 cI q (uA M 0 (upd (M 0) 7 r_17)) (upd (upd (M 0) 7 r_17) 8 10)) (fun H locs hP hD hS => ?_)
      refine lv_goto (tgt := 158) hx hb dX6_takes_41 (by decide) ?_
      refine lv_aload_n hx hb dX6_takes_158 rfl (lv_at hl 1 rfl) ?_
      refine va_get (D := G) (ci := 6) (v := .ref (q 1)) (C := RX6) (T := TX6) (N := 11) hx hb hts hinX6 hown hK hP 0 rfl rfl 0 (by decide) hL7 (fun _ h9 => h9) rfl dX6_takes_159 ?_
      refine lv_bipush (v := 7) hx hb dX6_takes_162 (by decide) ?_
      refine k_ald (f := (upd (upd (M 0) 7 r_17) 8 10)) (j := 7) (v := ((upd (upd (M 0) 7 r_17) 8 10) 7)) hx hb hK hP 1 0 rfl rfl (show ¬ ((7 : Int32) < 0 ∨ 86 ≤ (7 : Int32).toNatClampNeg) by decide) rfl rfl dX6_takes_164 ?_
      refine lv_if_lt (tgt := 172) hx hb dX6_takes_165 (by decide) (fun c_19 => ?_) (fun c_19 => ?_)
      · have h := h.1 c_19
        refine lv_iconst (v := 0) hx hb dX6_takes_172 (by decide) ?_
        exact W.zret (v := 0) hx hb hr rfl (fun t ht hW => ⟨⟨0, (uA (uA M 0 (upd (M 0) 7 r_17)) 0 (upd (upd (M 0) 7 r_17) 8 10)), rfl, h, by rw [ht]; exact hP, hD⟩, hS.F ht⟩) hS.2.2 dX6_takes_173
      · have h := h.2 c_19
        refine lv_iconst (v := 1) hx hb dX6_takes_168 (by decide) ?_
        refine lv_goto (tgt := 173) hx hb dX6_takes_169 (by decide) ?_
        exact W.zret (v := 1) hx hb hr rfl (fun t ht hW => ⟨⟨1, (uA (uA M 0 (upd (M 0) 7 r_17)) 0 (upd (upd (M 0) 7 r_17) 8 10)), rfl, h, by rw [ht]; exact hP, hD⟩, hS.F ht⟩) hS.2.2 dX6_takes_173
    · have h := h.2 c_18
      refine lv_iconst (v := (-1)) hx hb dX6_takes_26 (by decide) ?_
      refine lv_goto (tgt := 31) hx hb dX6_takes_27 (by decide) ?_
      refine k_ast (f := (M 0)) (j := 7) (ws' := (wM cI q (uA M 0 (upd (M 0) 7 (-1))))) hx hb hK hP hD hS 1 0 rfl rfl (show ¬ ((7 : Int32) < 0 ∨ 86 ≤ (7 : Int32).toNatClampNeg) by decide) rfl dX6_takes_31 (st_M_0 cI q M (upd (M 0) 7 (-1))) (fun H locs hP hD hS => ?_)
      refine lv_aload_n hx hb dX6_takes_32 rfl (lv_at hl 1 rfl) ?_
      refine va_get (D := G) (ci := 6) (v := .ref (q 1)) (C := RX6) (T := TX6) (N := 11) hx hb hts hinX6 hown hK hP 0 rfl rfl 0 (by decide) hL7 (fun _ h9 => h9) rfl dX6_takes_33 ?_
      refine lv_bipush (v := 8) hx hb dX6_takes_36 (by decide) ?_
      refine lv_bipush (v := 10) hx hb dX6_takes_38 (by decide) ?_
      refine k_ast (f := (upd (M 0) 7 (-1))) (j := 8) (ws' := (wM cI q (uA (uA M 0 (upd (M 0) 7 (-1))) 0 (upd (upd (M 0) 7 (-1)) 8 10)))) hx hb hK hP hD hS 1 0 rfl rfl (show ¬ ((8 : Int32) < 0 ∨ 86 ≤ (8 : Int32).toNatClampNeg) by decide) rfl dX6_takes_40 (st_M_0 cI q (uA M 0 (upd (M 0) 7 (-1))) (upd (upd (M 0) 7 (-1)) 8 10)) (fun H locs hP hD hS => ?_)
      refine lv_goto (tgt := 158) hx hb dX6_takes_41 (by decide) ?_
      refine lv_aload_n hx hb dX6_takes_158 rfl (lv_at hl 1 rfl) ?_
      refine va_get (D := G) (ci := 6) (v := .ref (q 1)) (C := RX6) (T := TX6) (N := 11) hx hb hts hinX6 hown hK hP 0 rfl rfl 0 (by decide) hL7 (fun _ h9 => h9) rfl dX6_takes_159 ?_
      refine lv_bipush (v := 7) hx hb dX6_takes_162 (by decide) ?_
      refine k_ald (f := (upd (upd (M 0) 7 (-1)) 8 10)) (j := 7) (v := ((upd (upd (M 0) 7 (-1)) 8 10) 7)) hx hb hK hP 1 0 rfl rfl (show ¬ ((7 : Int32) < 0 ∨ 86 ≤ (7 : Int32).toNatClampNeg) by decide) rfl rfl dX6_takes_164 ?_
      refine lv_if_lt (tgt := 172) hx hb dX6_takes_165 (by decide) (fun c_20 => ?_) (fun c_20 => ?_)
      · have h := h.1 c_20
        refine lv_iconst (v := 0) hx hb dX6_takes_172 (by decide) ?_
        exact W.zret (v := 0) hx hb hr rfl (fun t ht hW => ⟨⟨0, (uA (uA M 0 (upd (M 0) 7 (-1))) 0 (upd (upd (M 0) 7 (-1)) 8 10)), rfl, h, by rw [ht]; exact hP, hD⟩, hS.F ht⟩) hS.2.2 dX6_takes_173
      · have h := h.2 c_20
        refine lv_iconst (v := 1) hx hb dX6_takes_168 (by decide) ?_
        refine lv_goto (tgt := 173) hx hb dX6_takes_169 (by decide) ?_
        exact W.zret (v := 1) hx hb hr rfl (fun t ht hW => ⟨⟨1, (uA (uA M 0 (upd (M 0) 7 (-1))) 0 (upd (upd (M 0) 7 (-1)) 8 10)), rfl, h, by rw [ht]; exact hP, hD⟩, hS.F ht⟩) hS.2.2 dX6_takes_173
