def q_X6_passes (M : St) (Q : St → Prop) : Prop :=
  q_X6_floods M (fun u_1 => (0 ≤ ((u_1 0) 7) → ∃ (I_4 : Nat → Int32 → St → Prop) (n_8 : Nat), I_4 n_8 0 u_1 ∧ ∀ (n_3 : Nat) (x1_5 : Int32) (D_6 : St), I_4 n_3 x1_5 D_6 → ((x1_5 = 0 → (((D_6 0) 7) < 0 → q_X6_flows D_6 (fun u_14 => Q (uA u_14 0 (upd (u_14 0) 12 (((u_14 0) 12) + 1))))) ∧ (¬ (((D_6 0) 7) < 0) → q_X6_works D_6 (fun u_15 => q_X6_flows u_15 (fun u_16 => Q (uA u_16 0 (upd (u_16 0) 12 (((u_16 0) 12) + 1))))))) ∧ (¬ (x1_5 = 0) → q_X6_takes D_6 (fun r_17 u_18 => q_X6_looks u_18 (fun u_19 => (r_17 = 0 → ∃ n_21, n_21 < n_3 ∧ I_4 n_21 0 u_19) ∧ (¬ (r_17 = 0) → (0 ≤ ((u_19 0) 7) → ∃ n_25, n_25 < n_3 ∧ I_4 n_25 0 u_19) ∧ (¬ (0 ≤ ((u_19 0) 7)) → ∃ n_28, n_28 < n_3 ∧ I_4 n_28 1 u_19))))))) ∧ (¬ (0 ≤ ((u_1 0) 7)) → ∃ (I_32 : Nat → Int32 → St → Prop) (n_36 : Nat), I_32 n_36 1 u_1 ∧ ∀ (n_31 : Nat) (x1_33 : Int32) (D_34 : St), I_32 n_31 x1_33 D_34 → ((x1_33 = 0 → (((D_34 0) 7) < 0 → q_X6_flows D_34 (fun u_42 => Q (uA u_42 0 (upd (u_42 0) 12 (((u_42 0) 12) + 1))))) ∧ (¬ (((D_34 0) 7) < 0) → q_X6_works D_34 (fun u_43 => q_X6_flows u_43 (fun u_44 => Q (uA u_44 0 (upd (u_44 0) 12 (((u_44 0) 12) + 1))))))) ∧ (¬ (x1_33 = 0) → q_X6_takes D_34 (fun r_45 u_46 => q_X6_looks u_46 (fun u_47 => (r_45 = 0 → ∃ n_49, n_49 < n_31 ∧ I_32 n_49 0 u_47) ∧ (¬ (r_45 = 0) → (0 ≤ ((u_47 0) 7) → ∃ n_53, n_53 < n_31 ∧ I_32 n_53 0 u_47) ∧ (¬ (0 ≤ ((u_47 0) 7)) → ∃ n_56, n_56 < n_31 ∧ I_32 n_56 1 u_47))))))))
set_option maxHeartbeats 4000000 in
set_option maxRecDepth 100000 in
theorem c_X6_passes (l : Launch) (G : va_G) (cI cC cD : ClassId) (q : Nat → Nat) (sz : Nat) (M : St)  (Q : St → Prop) (h : q_X6_passes  M Q) : Met l yX6_passes wsX6_passes ({ frames := 4, cells := 0, slots := 0, locals := 90 }) (va_Pc [.ref (q 0)] (PW G (ty3 cI cC cD) (wM cI q M) sz)) (va_Qv Q (BW G (fun u : St => (wM cI q u)) (va_A (wM cI q M) sz)) (va_A (wM cI q M) sz)) 0 0 (va_A (wM cI q M) sz) := by
  refine Met.ofW (cc := cX6_passes) (maxL := 2) (ret := none) (by decide) rfl ?_
  intro p e s m args below meth c s₁ B hml hv
  obtain ⟨rfl, hsz, hP, hK, hD0, hN⟩ := hv
  have hx := B.exec
  have hb := B.bytes
  have hr := B.returns
  have hts := atoms_spec (ws := wsX6_passes) B.pre
  have hown : s.vm.findClass RX6 = some m.cls := findClass_of_methodNamed B.named
  have hlocks := B.notSynchronized
  subst hsz
  have hD := hD0.self (sz := s.heap.size)
  generalize hAe : va_A (wM cI q M) s.heap.size = A at hD ⊢
  have hA : ∀ q : Nat, s.heap.size ≤ q → A q := fun q h => by rw [← hAe]; exact Or.inr h
  have hS : va_S A s.heap s.heap [] := va_S.rf
  have hl := lv_entry ([.ref (q 0)]) (n := 2) (Nat.le_of_ble_eq_true rfl)
  rw [lg_entry_eq]
  generalize (lg_sl ([.ref (q 0)]) ++ List.replicate (2 - (lg_sl ([.ref (q 0)])).length) Slot.unset).toArray = ls at hl ⊢
  have hl : lv_has ls 2 [(0, .ref (q 0))] := hl
  have hinX6 : ∀ w ∈ wsX60, w ∈ wsX6_passes := by decide +kernel
  have hL7 := hts (.fieldLink RX6 7 "CraneGatesModel" "s" "[I") (by decide +kernel)
  unfold q_X6_passes at h
  refine lv_aload_n hx hb dX6_passes_0 rfl (lv_at hl 0 rfl) ?_
  refine kc_v (As := []) (rest := []) (wg := (fun u => (wM cI q u))) ⟨hx, hb, hml, hown, hts⟩ (c_X6_floods l G cI cC cD q _ M  _ h) (cwV 0 hts gX6_passes_X6_floods rfl rfl rfl (by decide +kernel) ⟨Nat.le_of_ble_eq_true rfl, Nat.le_of_ble_eq_true rfl⟩) hK hN hP hD hS hA (em_MM cI q M) (fun u => rp_MM cI q M u) rfl rfl rfl rfl hl.1 rfl (Nat.le_of_ble_eq_true rfl) dX6_passes_1 ⟨Nat.zero_le _, Nat.zero_le _⟩ (fun u_1 H locs h hP hD hS => ?_)
  refine lv_aload_n hx hb dX6_passes_4 rfl (lv_at hl 0 rfl) ?_
  refine va_get (D := G) (ci := 6) (v := .ref (q 1)) (C := RX6) (T := TX6) (N := 11) hx hb hts hinX6 hown hK hP 0 rfl rfl 0 (by decide) hL7 (fun _ h9 => h9) rfl dX6_passes_5 ?_
  refine lv_bipush (v := 7) hx hb dX6_passes_8 (by decide) ?_
  refine k_ald (f := (u_1 0)) (j := 7) (v := ((u_1 0) 7)) hx hb hK hP 1 0 rfl rfl (show ¬ ((7 : Int32) < 0 ∨ 86 ≤ (7 : Int32).toNatClampNeg) by decide) rfl rfl dX6_passes_10 ?_
  refine lv_if_ge (tgt := 18) hx hb dX6_passes_11 (by decide) (fun c_2 => ?_) (fun c_2 => ?_)
  · have h := h.1 c_2
    refine lv_iconst (v := 0) hx hb dX6_passes_18 (by decide) ?_
    refine lv_istore_n (lv' := [(1, .int 0), (0, .ref (q 0))]) hx hb dX6_passes_19 rfl hl (by decide) rfl (fun ls hl => ?_)
    obtain ⟨I_4, n_8, h_9, hI_10⟩ := h
    have lp_11 : ∀ (n_3 : Nat) (x1_5 : Int32) (D_6 : St), I_4 n_3 x1_5 D_6 → ∀ (H : Heap) (locs : List Loc) (ls : Array Slot), va_P G vwCl (wM cI q D_6) H → va_D A (wM cI q D_6) → va_S A s.heap H locs → lv_has ls 2 [(1, .int x1_5), (0, .ref (q 0))] → W p l e (headSpec wsX6_passes ({ frames := 4, cells := 0, slots := 0, locals := 90 })).room s m ([.ref (q 0)] : List Value).toArray below meth c H locs 0 0 (MQ below (va_Qv Q (BW G (fun u : St => (wM cI q u)) A) A) ([.ref (q 0)] : List Value).toArray s 0 0 A) (F0 m 20 ls []) := by
      intro n_3
      induction n_3 using Nat.strongRecOn with
      | ind n_3 ih_7 =>
        intro x1_5 D_6 hIn H locs ls hP hD hS hl
        have h := hI_10 n_3 x1_5 D_6 hIn
        refine lv_iload_n hx hb dX6_passes_20 rfl (lv_at hl 0 rfl) ?_
        refine lv_if_eq (tgt := 56) hx hb dX6_passes_21 (by decide) (fun c_12 => ?_) (fun c_12 => ?_)
        · have h := h.1 c_12
          refine lv_aload_n hx hb dX6_passes_56 rfl (lv_at hl 1 rfl) ?_
          refine va_get (D := G) (ci := 6) (v := .ref (q 1)) (C := RX6) (T := TX6) (N := 11) hx hb hts hinX6 hown hK hP 0 rfl rfl 0 (by decide) hL7 (fun _ h9 => h9) rfl dX6_passes_57 ?_
          refine lv_bipush (v := 7) hx hb dX6_passes_60 (by decide) ?_
          refine k_ald (f := (D_6 0)) (j := 7) (v := ((D_6 0) 7)) hx hb hK hP 1 0 rfl rfl (show ¬ ((7 : Int32) < 0 ∨ 86 ≤ (7 : Int32).toNatClampNeg) by decide) rfl rfl dX6_passes_62 ?_
          refine lv_if_lt (tgt := 70) hx hb dX6_passes_63 (by decide) (fun c_13 => ?_) (fun c_13 => ?_)
          · have h := h.1 c_13
            refine lv_aload_n hx hb dX6_passes_70 rfl (lv_at hl 1 rfl) ?_
            refine kc_v (As := []) (rest := []) (wg := (fun u => (wM cI q u))) ⟨hx, hb, hml, hown, hts⟩ (c_X6_flows l G cI cC cD q _ D_6  _ h) (cwV 0 hts gX6_passes_X6_flows rfl rfl rfl (by decide +kernel) ⟨Nat.le_of_ble_eq_true rfl, Nat.le_of_ble_eq_true rfl⟩) hK hN hP hD hS hA (em_MM cI q D_6) (fun u => rp_MM cI q D_6 u) rfl rfl rfl rfl hl.1 rfl (Nat.le_of_ble_eq_true rfl) dX6_passes_71 ⟨Nat.zero_le _, Nat.zero_le _⟩ (fun u_14 H locs h hP hD hS => ?_)
            refine lv_aload_n hx hb dX6_passes_74 rfl (lv_at hl 1 rfl) ?_
            refine va_get (D := G) (ci := 6) (v := .ref (q 1)) (C := RX6) (T := TX6) (N := 11) hx hb hts hinX6 hown hK hP 0 rfl rfl 0 (by decide) hL7 (fun _ h9 => h9) rfl dX6_passes_75 ?_
            refine lv_bipush (v := 12) hx hb dX6_passes_78 (by decide) ?_
            refine lv_dup2_11 hx hb dX6_passes_80 rfl rfl ?_
            refine k_ald (f := (u_14 0)) (j := 12) (v := ((u_14 0) 12)) hx hb hK hP 1 0 rfl rfl (show ¬ ((12 : Int32) < 0 ∨ 86 ≤ (12 : Int32).toNatClampNeg) by decide) rfl rfl dX6_passes_81 ?_
            refine lv_iconst (v := 1) hx hb dX6_passes_82 (by decide) ?_
            refine lv_iadd hx hb dX6_passes_83 ?_
            refine k_ast (f := (u_14 0)) (j := 12) (ws' := (wM cI q (uA u_14 0 (upd (u_14 0) 12 (((u_14 0) 12) + 1))))) hx hb hK hP hD hS 1 0 rfl rfl (show ¬ ((12 : Int32) < 0 ∨ 86 ≤ (12 : Int32).toNatClampNeg) by decide) rfl dX6_passes_84 (st_M_0 cI q u_14 (upd (u_14 0) 12 (((u_14 0) 12) + 1))) (fun H locs hP hD hS => ?_)
            exact W.vret hx hb hr (fun t ht hW => ⟨⟨(uA u_14 0 (upd (u_14 0) 12 (((u_14 0) 12) + 1))), rfl, h, by rw [ht]; exact hP, hD⟩, hS.F ht⟩) hS.2.2 dX6_passes_85
          · have h := h.2 c_13
            refine lv_aload_n hx hb dX6_passes_66 rfl (lv_at hl 1 rfl) ?_
            refine kc_v (As := []) (rest := []) (wg := (fun u => (wM cI q u))) ⟨hx, hb, hml, hown, hts⟩ (c_X6_works l G cI cC cD q _ D_6  _ h) (cwV 0 hts gX6_passes_X6_works rfl rfl rfl (by decide +kernel) ⟨Nat.le_of_ble_eq_true rfl, Nat.le_of_ble_eq_true rfl⟩) hK hN hP hD hS hA (em_MM cI q D_6) (fun u => rp_MM cI q D_6 u) rfl rfl rfl rfl hl.1 rfl (Nat.le_of_ble_eq_true rfl) dX6_passes_67 ⟨Nat.zero_le _, Nat.zero_le _⟩ (fun u_15 H locs h hP hD hS => ?_)
            refine lv_aload_n hx hb dX6_passes_70 rfl (lv_at hl 1 rfl) ?_
            refine kc_v (As := []) (rest := []) (wg := (fun u => (wM cI q u))) ⟨hx, hb, hml, hown, hts⟩ (c_X6_flows l G cI cC cD q _ u_15  _ h) (cwV 0 hts gX6_passes_X6_flows rfl rfl rfl (by decide +kernel) ⟨Nat.le_of_ble_eq_true rfl, Nat.le_of_ble_eq_true rfl⟩) hK hN hP hD hS hA (em_MM cI q u_15) (fun u => rp_MM cI q u_15 u) rfl rfl rfl rfl hl.1 rfl (Nat.le_of_ble_eq_true rfl) dX6_passes_71 ⟨Nat.zero_le _, Nat.zero_le _⟩ (fun u_16 H locs h hP hD hS => ?_)
            refine lv_aload_n hx hb dX6_passes_74 rfl (lv_at hl 1 rfl) ?_
            refine va_get (D := G) (ci := 6) (v := .ref (q 1)) (C := RX6) (T := TX6) (N := 11) hx hb hts hinX6 hown hK hP 0 rfl rfl 0 (by decide) hL7 (fun _ h9 => h9) rfl dX6_passes_75 ?_
            refine lv_bipush (v := 12) hx hb dX6_passes_78 (by decide) ?_
            refine lv_dup2_11 hx hb dX6_passes_80 rfl rfl ?_
            refine k_ald (f := (u_16 0)) (j := 12) (v := ((u_16 0) 12)) hx hb hK hP 1 0 rfl rfl (show ¬ ((12 : Int32) < 0 ∨ 86 ≤ (12 : Int32).toNatClampNeg) by decide) rfl rfl dX6_passes_81 ?_
            refine lv_iconst (v := 1) hx hb dX6_passes_82 (by decide) ?_
            refine lv_iadd hx hb dX6_passes_83 ?_
            refine k_ast (f := (u_16 0)) (j := 12) (ws' := (wM cI q (uA u_16 0 (upd (u_16 0) 12 (((u_16 0) 12) + 1))))) hx hb hK hP hD hS 1 0 rfl rfl (show ¬ ((12 : Int32) < 0 ∨ 86 ≤ (12 : Int32).toNatClampNeg) by decide) rfl dX6_passes_84 (st_M_0 cI q u_16 (upd (u_16 0) 12 (((u_16 0) 12) + 1))) (fun H locs hP hD hS => ?_)
            exact W.vret hx hb hr (fun t ht hW => ⟨⟨(uA u_16 0 (upd (u_16 0) 12 (((u_16 0) 12) + 1))), rfl, h, by rw [ht]; exact hP, hD⟩, hS.F ht⟩) hS.2.2 dX6_passes_85
        · have h := h.2 c_12
          refine lv_aload_n hx hb dX6_passes_24 rfl (lv_at hl 1 rfl) ?_
          refine kc_i (As := []) (rest := []) (wg := (fun u => (wM cI q u))) ⟨hx, hb, hml, hown, hts⟩ (c_X6_takes l G cI cC cD q _ D_6  _ h) (cwV 0 hts gX6_passes_X6_takes rfl rfl rfl (by decide +kernel) ⟨Nat.le_of_ble_eq_true rfl, Nat.le_of_ble_eq_true rfl⟩) hK hN hP hD hS hA (em_MM cI q D_6) (fun u => rp_MM cI q D_6 u) rfl rfl rfl rfl hl.1 rfl (Nat.le_of_ble_eq_true rfl) dX6_passes_25 ⟨Nat.zero_le _, Nat.zero_le _⟩ (fun r_17 u_18 H locs h hP hD hS => ?_)
          refine lv_istore_n (lv' := [(1, .int r_17), (0, .ref (q 0))]) hx hb dX6_passes_28 rfl hl (by decide) rfl (fun ls hl => ?_)
          refine lv_aload_n hx hb dX6_passes_29 rfl (lv_at hl 1 rfl) ?_
          refine kc_v (As := []) (rest := []) (wg := (fun u => (wM cI q u))) ⟨hx, hb, hml, hown, hts⟩ (c_X6_looks l G cI cC cD q _ u_18  _ h) (cwV 0 hts gX6_passes_X6_looks rfl rfl rfl (by decide +kernel) ⟨Nat.le_of_ble_eq_true rfl, Nat.le_of_ble_eq_true rfl⟩) hK hN hP hD hS hA (em_MM cI q u_18) (fun u => rp_MM cI q u_18 u) rfl rfl rfl rfl hl.1 rfl (Nat.le_of_ble_eq_true rfl) dX6_passes_30 ⟨Nat.zero_le _, Nat.zero_le _⟩ (fun u_19 H locs h hP hD hS => ?_)
          refine lv_iload_n hx hb dX6_passes_33 rfl (lv_at hl 0 rfl) ?_
          refine lv_if_eq (tgt := 51) hx hb dX6_passes_34 (by decide) (fun c_20 => ?_) (fun c_20 => ?_)
          · have h := h.1 c_20
            refine lv_iconst (v := 0) hx hb dX6_passes_51 (by decide) ?_
            refine lv_istore_n (lv' := [(1, .int 0), (0, .ref (q 0))]) hx hb dX6_passes_52 rfl hl (by decide) rfl (fun ls hl => ?_)
            refine lv_goto (tgt := 20) hx hb dX6_passes_53 (by decide) ?_
            obtain ⟨n_21, lt_22, h_23⟩ := h
            exact ih_7 n_21 lt_22 _ _ h_23 _ _ _ hP hD hS (lv_sub hl [0, 1] rfl)
          · have h := h.2 c_20
            refine lv_aload_n hx hb dX6_passes_37 rfl (lv_at hl 1 rfl) ?_
            refine va_get (D := G) (ci := 6) (v := .ref (q 1)) (C := RX6) (T := TX6) (N := 11) hx hb hts hinX6 hown hK hP 0 rfl rfl 0 (by decide) hL7 (fun _ h9 => h9) rfl dX6_passes_38 ?_
            refine lv_bipush (v := 7) hx hb dX6_passes_41 (by decide) ?_
            refine k_ald (f := (u_19 0)) (j := 7) (v := ((u_19 0) 7)) hx hb hK hP 1 0 rfl rfl (show ¬ ((7 : Int32) < 0 ∨ 86 ≤ (7 : Int32).toNatClampNeg) by decide) rfl rfl dX6_passes_43 ?_
            refine lv_if_ge (tgt := 51) hx hb dX6_passes_44 (by decide) (fun c_24 => ?_) (fun c_24 => ?_)
            · have h := h.1 c_24
              refine lv_iconst (v := 0) hx hb dX6_passes_51 (by decide) ?_
              refine lv_istore_n (lv' := [(1, .int 0), (0, .ref (q 0))]) hx hb dX6_passes_52 rfl hl (by decide) rfl (fun ls hl => ?_)
              refine lv_goto (tgt := 20) hx hb dX6_passes_53 (by decide) ?_
              obtain ⟨n_25, lt_26, h_27⟩ := h
              exact ih_7 n_25 lt_26 _ _ h_27 _ _ _ hP hD hS (lv_sub hl [0, 1] rfl)
            · have h := h.2 c_24
              refine lv_iconst (v := 1) hx hb dX6_passes_47 (by decide) ?_
              refine lv_goto (tgt := 52) hx hb dX6_passes_48 (by decide) ?_
              refine lv_istore_n (lv' := [(1, .int 1), (0, .ref (q 0))]) hx hb dX6_passes_52 rfl hl (by decide) rfl (fun ls hl => ?_)
              refine lv_goto (tgt := 20) hx hb dX6_passes_53 (by decide) ?_
              obtain ⟨n_28, lt_29, h_30⟩ := h
              exact ih_7 n_28 lt_29 _ _ h_30 _ _ _ hP hD hS (lv_sub hl [0, 1] rfl)
    exact lp_11 _ _ _ h_9 _ _ _ hP hD hS hl
  · have h := h.2 c_2
    refine lv_iconst (v := 1) hx hb dX6_passes_14 (by decide) ?_
    refine lv_goto (tgt := 19) hx hb dX6_passes_15 (by decide) ?_
    refine lv_istore_n (lv' := [(1, .int 1), (0, .ref (q 0))]) hx hb dX6_passes_19 rfl hl (by decide) rfl (fun ls hl => ?_)
    obtain ⟨I_32, n_36, h_37, hI_38⟩ := h
    have lp_39 : ∀ (n_31 : Nat) (x1_33 : Int32) (D_34 : St), I_32 n_31 x1_33 D_34 → ∀ (H : Heap) (locs : List Loc) (ls : Array Slot), va_P G vwCl (wM cI q D_34) H → va_D A (wM cI q D_34) → va_S A s.heap H locs → lv_has ls 2 [(1, .int x1_33), (0, .ref (q 0))] → W p l e (headSpec wsX6_passes ({ frames := 4, cells := 0, slots := 0, locals := 90 })).room s m ([.ref (q 0)] : List Value).toArray below meth c H locs 0 0 (MQ below (va_Qv Q (BW G (fun u : St => (wM cI q u)) A) A) ([.ref (q 0)] : List Value).toArray s 0 0 A) (F0 m 20 ls []) := by
      intro n_31
      induction n_31 using Nat.strongRecOn with
      | ind n_31 ih_35 =>
        intro x1_33 D_34 hIn H locs ls hP hD hS hl
        have h := hI_38 n_31 x1_33 D_34 hIn
        refine lv_iload_n hx hb dX6_passes_20 rfl (lv_at hl 0 rfl) ?_
        refine lv_if_eq (tgt := 56) hx hb dX6_passes_21 (by decide) (fun c_40 => ?_) (fun c_40 => ?_)
        · have h := h.1 c_40
          refine lv_aload_n hx hb dX6_passes_56 rfl (lv_at hl 1 rfl) ?_
          refine va_get (D := G) (ci := 6) (v := .ref (q 1)) (C := RX6) (T := TX6) (N := 11) hx hb hts hinX6 hown hK hP 0 rfl rfl 0 (by decide) hL7 (fun _ h9 => h9) rfl dX6_passes_57 ?_
          refine lv_bipush (v := 7) hx hb dX6_passes_60 (by decide) ?_
          refine k_ald (f := (D_34 0)) (j := 7) (v := ((D_34 0) 7)) hx hb hK hP 1 0 rfl rfl (show ¬ ((7 : Int32) < 0 ∨ 86 ≤ (7 : Int32).toNatClampNeg) by decide) rfl rfl dX6_passes_62 ?_
          refine lv_if_lt (tgt := 70) hx hb dX6_passes_63 (by decide) (fun c_41 => ?_) (fun c_41 => ?_)
          · have h := h.1 c_41
            refine lv_aload_n hx hb dX6_passes_70 rfl (lv_at hl 1 rfl) ?_
            refine kc_v (As := []) (rest := []) (wg := (fun u => (wM cI q u))) ⟨hx, hb, hml, hown, hts⟩ (c_X6_flows l G cI cC cD q _ D_34  _ h) (cwV 0 hts gX6_passes_X6_flows rfl rfl rfl (by decide +kernel) ⟨Nat.le_of_ble_eq_true rfl, Nat.le_of_ble_eq_true rfl⟩) hK hN hP hD hS hA (em_MM cI q D_34) (fun u => rp_MM cI q D_34 u) rfl rfl rfl rfl hl.1 rfl (Nat.le_of_ble_eq_true rfl) dX6_passes_71 ⟨Nat.zero_le _, Nat.zero_le _⟩ (fun u_42 H locs h hP hD hS => ?_)
            refine lv_aload_n hx hb dX6_passes_74 rfl (lv_at hl 1 rfl) ?_
            refine va_get (D := G) (ci := 6) (v := .ref (q 1)) (C := RX6) (T := TX6) (N := 11) hx hb hts hinX6 hown hK hP 0 rfl rfl 0 (by decide) hL7 (fun _ h9 => h9) rfl dX6_passes_75 ?_
            refine lv_bipush (v := 12) hx hb dX6_passes_78 (by decide) ?_
            refine lv_dup2_11 hx hb dX6_passes_80 rfl rfl ?_
            refine k_ald (f := (u_42 0)) (j := 12) (v := ((u_42 0) 12)) hx hb hK hP 1 0 rfl rfl (show ¬ ((12 : Int32) < 0 ∨ 86 ≤ (12 : Int32).toNatClampNeg) by decide) rfl rfl dX6_passes_81 ?_
            refine lv_iconst (v := 1) hx hb dX6_passes_82 (by decide) ?_
            refine lv_iadd hx hb dX6_passes_83 ?_
            refine k_ast (f := (u_42 0)) (j := 12) (ws' := (wM cI q (uA u_42 0 (upd (u_42 0) 12 (((u_42 0) 12) + 1))))) hx hb hK hP hD hS 1 0 rfl rfl (show ¬ ((12 : Int32) < 0 ∨ 86 ≤ (12 : Int32).toNatClampNeg) by decide) rfl dX6_passes_84 (st_M_0 cI q u_42 (upd (u_42 0) 12 (((u_42 0) 12) + 1))) (fun H locs hP hD hS => ?_)
            exact W.vret hx hb hr (fun t ht hW => ⟨⟨(uA u_42 0 (upd (u_42 0) 12 (((u_42 0) 12) + 1))), rfl, h, by rw [ht]; exact hP, hD⟩, hS.F ht⟩) hS.2.2 dX6_passes_85
          · have h := h.2 c_41
            refine lv_aload_n hx hb dX6_passes_66 rfl (lv_at hl 1 rfl) ?_
            refine kc_v (As := []) (rest := []) (wg := (fun u => (wM cI q u))) ⟨hx, hb, hml, hown, hts⟩ (c_X6_works l G cI cC cD q _ D_34  _ h) (cwV 0 hts gX6_passes_X6_works rfl rfl rfl (by decide +kernel) ⟨Nat.le_of_ble_eq_true rfl, Nat.le_of_ble_eq_true rfl⟩) hK hN hP hD hS hA (em_MM cI q D_34) (fun u => rp_MM cI q D_34 u) rfl rfl rfl rfl hl.1 rfl (Nat.le_of_ble_eq_true rfl) dX6_passes_67 ⟨Nat.zero_le _, Nat.zero_le _⟩ (fun u_43 H locs h hP hD hS => ?_)
            refine lv_aload_n hx hb dX6_passes_70 rfl (lv_at hl 1 rfl) ?_
            refine kc_v (As := []) (rest := []) (wg := (fun u => (wM cI q u))) ⟨hx, hb, hml, hown, hts⟩ (c_X6_flows l G cI cC cD q _ u_43  _ h) (cwV 0 hts gX6_passes_X6_flows rfl rfl rfl (by decide +kernel) ⟨Nat.le_of_ble_eq_true rfl, Nat.le_of_ble_eq_true rfl⟩) hK hN hP hD hS hA (em_MM cI q u_43) (fun u => rp_MM cI q u_43 u) rfl rfl rfl rfl hl.1 rfl (Nat.le_of_ble_eq_true rfl) dX6_passes_71 ⟨Nat.zero_le _, Nat.zero_le _⟩ (fun u_44 H locs h hP hD hS => ?_)
            refine lv_aload_n hx hb dX6_passes_74 rfl (lv_at hl 1 rfl) ?_
            refine va_get (D := G) (ci := 6) (v := .ref (q 1)) (C := RX6) (T := TX6) (N := 11) hx hb hts hinX6 hown hK hP 0 rfl rfl 0 (by decide) hL7 (fun _ h9 => h9) rfl dX6_passes_75 ?_
            refine lv_bipush (v := 12) hx hb dX6_passes_78 (by decide) ?_
            refine lv_dup2_11 hx hb dX6_passes_80 rfl rfl ?_
            refine k_ald (f := (u_44 0)) (j := 12) (v := ((u_44 0) 12)) hx hb hK hP 1 0 rfl rfl (show ¬ ((12 : Int32) < 0 ∨ 86 ≤ (12 : Int32).toNatClampNeg) by decide) rfl rfl dX6_passes_81 ?_
            refine lv_iconst (v := 1) hx hb dX6_passes_82 (by decide) ?_
            refine lv_iadd hx hb dX6_passes_83 ?_
            refine k_ast (f := (u_44 0)) (j := 12) (ws' := (wM cI q (uA u_44 0 (upd (u_44 0) 12 (((u_44 0) 12) + 1))))) hx hb hK hP hD hS 1 0 rfl rfl (show ¬ ((12 : Int32) < 0 ∨ 86 ≤ (12 : Int32).toNatClampNeg) by decide) rfl dX6_passes_84 (st_M_0 cI q u_44 (upd (u_44 0) 12 (((u_44 0) 12) + 1))) (fun H locs hP hD hS => ?_)
            exact W.vret hx hb hr (fun t ht hW => ⟨⟨(uA u_44 0 (upd (u_44 0) 12 (((u_44 0) 12) + 1))), rfl, h, by rw [ht]; exact hP, hD⟩, hS.F ht⟩) hS.2.2 dX6_passes_85
        · have h := h.2 c_40
          refine lv_aload_n hx hb dX6_passes_24 rfl (lv_at hl 1 rfl) ?_
          refine kc_i (As := []) (rest := []) (wg := (fun u => (wM cI q u))) ⟨hx, hb, hml, hown, hts⟩ (c_X6_takes l G cI cC cD q _ D_34  _ h) (cwV 0 hts gX6_passes_X6_takes rfl rfl rfl (by decide +kernel) ⟨Nat.le_of_ble_eq_true rfl, Nat.le_of_ble_eq_true rfl⟩) hK hN hP hD hS hA (em_MM cI q D_34) (fun u => rp_MM cI q D_34 u) rfl rfl rfl rfl hl.1 rfl (Nat.le_of_ble_eq_true rfl) dX6_passes_25 ⟨Nat.zero_le _, Nat.zero_le _⟩ (fun r_45 u_46 H locs h hP hD hS => ?_)
          refine lv_istore_n (lv' := [(1, .int r_45), (0, .ref (q 0))]) hx hb dX6_passes_28 rfl hl (by decide) rfl (fun ls hl => ?_)
          refine lv_aload_n hx hb dX6_passes_29 rfl (lv_at hl 1 rfl) ?_
          refine kc_v (As := []) (rest := []) (wg := (fun u => (wM cI q u))) ⟨hx, hb, hml, hown, hts⟩ (c_X6_looks l G cI cC cD q _ u_46  _ h) (cwV 0 hts gX6_passes_X6_looks rfl rfl rfl (by decide +kernel) ⟨Nat.le_of_ble_eq_true rfl, Nat.le_of_ble_eq_true rfl⟩) hK hN hP hD hS hA (em_MM cI q u_46) (fun u => rp_MM cI q u_46 u) rfl rfl rfl rfl hl.1 rfl (Nat.le_of_ble_eq_true rfl) dX6_passes_30 ⟨Nat.zero_le _, Nat.zero_le _⟩ (fun u_47 H locs h hP hD hS => ?_)
          refine lv_iload_n hx hb dX6_passes_33 rfl (lv_at hl 0 rfl) ?_
          refine lv_if_eq (tgt := 51) hx hb dX6_passes_34 (by decide) (fun c_48 => ?_) (fun c_48 => ?_)
          · have h := h.1 c_48
            refine lv_iconst (v := 0) hx hb dX6_passes_51 (by decide) ?_
            refine lv_istore_n (lv' := [(1, .int 0), (0, .ref (q 0))]) hx hb dX6_passes_52 rfl hl (by decide) rfl (fun ls hl => ?_)
            refine lv_goto (tgt := 20) hx hb dX6_passes_53 (by decide) ?_
            obtain ⟨n_49, lt_50, h_51⟩ := h
            exact ih_35 n_49 lt_50 _ _ h_51 _ _ _ hP hD hS (lv_sub hl [0, 1] rfl)
          · have h := h.2 c_48
            refine lv_aload_n hx hb dX6_passes_37 rfl (lv_at hl 1 rfl) ?_
            refine va_get (D := G) (ci := 6) (v := .ref (q 1)) (C := RX6) (T := TX6) (N := 11) hx hb hts hinX6 hown hK hP 0 rfl rfl 0 (by decide) hL7 (fun _ h9 => h9) rfl dX6_passes_38 ?_
            refine lv_bipush (v := 7) hx hb dX6_passes_41 (by decide) ?_
            refine k_ald (f := (u_47 0)) (j := 7) (v := ((u_47 0) 7)) hx hb hK hP 1 0 rfl rfl (show ¬ ((7 : Int32) < 0 ∨ 86 ≤ (7 : Int32).toNatClampNeg) by decide) rfl rfl dX6_passes_43 ?_
            refine lv_if_ge (tgt := 51) hx hb dX6_passes_44 (by decide) (fun c_52 => ?_) (fun c_52 => ?_)
            · have h := h.1 c_52
              refine lv_iconst (v := 0) hx hb dX6_passes_51 (by decide) ?_
              refine lv_istore_n (lv' := [(1, .int 0), (0, .ref (q 0))]) hx hb dX6_passes_52 rfl hl (by decide) rfl (fun ls hl => ?_)
              refine lv_goto (tgt := 20) hx hb dX6_passes_53 (by decide) ?_
              obtain ⟨n_53, lt_54, h_55⟩ := h
              exact ih_35 n_53 lt_54 _ _ h_55 _ _ _ hP hD hS (lv_sub hl [0, 1] rfl)
            · have h := h.2 c_52
              refine lv_iconst (v := 1) hx hb dX6_passes_47 (by decide) ?_
              refine lv_goto (tgt := 52) hx hb dX6_passes_48 (by decide) ?_
              refine lv_istore_n (lv' := [(1, .int 1), (0, .ref (q 0))]) hx hb dX6_passes_52 rfl hl (by decide) rfl (fun ls hl => ?_)
              refine lv_goto (tgt := 20) hx hb dX6_passes_53 (by decide) ?_
              obtain ⟨n_56, lt_57, h_58⟩ := h
              exact ih_35 n_56 lt_57 _ _ h_58 _ _ _ hP hD hS (lv_sub hl [0, 1] rfl)
    exact lp_39 _ _ _ h_37 _ _ _ hP hD hS hl
