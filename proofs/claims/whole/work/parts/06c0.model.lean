def q_X6_gate (x : Int32) (y : Int32) (M : St) (Q : Int32 → St → Prop) : Prop :=
  q_X6_in x 0 2 (fun r_1 => (r_1 = 0 → Q (-1000001) M) ∧ (¬ (r_1 = 0) → q_X6_in y 1 20 (fun r_3 => (r_3 = 0 → Q (-1000001) M) ∧ (¬ (r_3 = 0) → (((M 0) 3) = 8 → Q (-1000003) M) ∧ (¬ (((M 0) 3) = 8) → q_X6_changes M (fun u_6 => ∃ (I_8 : Nat → Int32 → St → Prop) (n_12 : Nat), I_8 n_12 0 (uA u_6 0 (upd (u_6 0) 3 (((u_6 0) 3) + 1))) ∧ ∀ (n_7 : Nat) (x4_9 : Int32) (D_10 : St), I_8 n_7 x4_9 D_10 → ((5 ≤ x4_9 → Q ((u_6 0) 3) D_10) ∧ (¬ (5 ≤ x4_9) → (x4_9 = 0 → q_X6_puts ((u_6 0) 3) x4_9 x D_10 (fun u_27 => ∃ n_28, n_28 < n_7 ∧ I_8 n_28 (x4_9 + 1) u_27)) ∧ (¬ (x4_9 = 0) → (x4_9 = 1 → q_X6_puts ((u_6 0) 3) x4_9 y D_10 (fun u_23 => ∃ n_24, n_24 < n_7 ∧ I_8 n_24 (x4_9 + 1) u_23)) ∧ (¬ (x4_9 = 1) → q_X6_puts ((u_6 0) 3) x4_9 0 D_10 (fun u_19 => ∃ n_20, n_20 < n_7 ∧ I_8 n_20 (x4_9 + 1) u_19)))))))))))
set_option maxHeartbeats 4000000 in
set_option maxRecDepth 100000 in
theorem c_X6_gate (l : Launch) (G : va_G) (cI cC cD : ClassId) (q : Nat → Nat) (sz : Nat) (M : St) (x : Int32) (y : Int32) (Q : Int32 → St → Prop) (h : q_X6_gate x y M Q) : Met l yX6_gate wsX6_gate ({ frames := 1, cells := 0, slots := 0, locals := 23 }) (va_Pc [.ref (q 0), .int x, .int y] (PW G (ty3 cI cC cD) (wM cI q M) sz)) (va_Qi Q (BW G (fun u : St => (wM cI q u)) (va_A (wM cI q M) sz)) (va_A (wM cI q M) sz)) 0 0 (va_A (wM cI q M) sz) := by
  refine Met.ofW (cc := cX6_gate) (maxL := 5) (ret := (some .int)) (by decide) rfl ?_
  intro p e s m args below meth c s₁ B hml hv
  obtain ⟨rfl, hsz, hP, hK, hD0, hN⟩ := hv
  have hx := B.exec
  have hb := B.bytes
  have hr := B.returns
  have hts := atoms_spec (ws := wsX6_gate) B.pre
  have hown : s.vm.findClass RX6 = some m.cls := findClass_of_methodNamed B.named
  have hlocks := B.notSynchronized
  subst hsz
  have hD := hD0.self (sz := s.heap.size)
  generalize hAe : va_A (wM cI q M) s.heap.size = A at hD ⊢
  have hA : ∀ q : Nat, s.heap.size ≤ q → A q := fun q h => by rw [← hAe]; exact Or.inr h
  have hS : va_S A s.heap s.heap [] := va_S.rf
  have hl := lv_entry ([.ref (q 0), .int x, .int y]) (n := 5) (Nat.le_of_ble_eq_true rfl)
  rw [lg_entry_eq]
  generalize (lg_sl ([.ref (q 0), .int x, .int y]) ++ List.replicate (5 - (lg_sl ([.ref (q 0), .int x, .int y])).length) Slot.unset).toArray = ls at hl ⊢
  have hl : lv_has ls 5 [(0, .ref (q 0)), (1, .int x), (2, .int y)] := hl
  have hinX6 : ∀ w ∈ wsX60, w ∈ wsX6_gate := by decide +kernel
  have hL7 := hts (.fieldLink RX6 7 "CraneGatesModel" "s" "[I") (by decide +kernel)
  unfold q_X6_gate at h
  refine lv_iload_n hx hb dX6_gate_0 rfl (lv_at hl 1 rfl) ?_
  refine lv_iconst (v := 0) hx hb dX6_gate_1 (by decide) ?_
  refine lv_iconst (v := 2) hx hb dX6_gate_2 (by decide) ?_
  refine ks_i (As := [.int x, .int 0, .int 2]) (rest := []) (wg := (fun _ => (wM cI q M))) ⟨hx, hb, hml, hown, hts⟩ (c_X6_in l G cI cC cD  _  x 0 2 _ h) (va_cwS 3 hts gX6_gate_X6_in rfl rfl rfl (by decide +kernel) ⟨Nat.le_of_ble_eq_true rfl, Nat.le_of_ble_eq_true rfl⟩) hK hN hP hD hS hA (em_0 _) (fun _ => rp_self (em_0 _)) rfl hl.1 rfl (Nat.le_of_ble_eq_true rfl) dX6_gate_3 ⟨Nat.zero_le _, Nat.zero_le _⟩ (fun r_1 _ H locs h hP hD hS => ?_)
  refine lv_if_eq (tgt := 19) hx hb dX6_gate_6 (by decide) (fun c_2 => ?_) (fun c_2 => ?_)
  · have h := h.1 c_2
    refine lv_ldc hx hb hown (hts (.constant RX6 103 (-1000001)) (by decide +kernel)) dX6_gate_19 ?_
    exact W.iret (v := (-1000001)) hx hb hr (fun t ht hW => ⟨⟨(-1000001), M, rfl, h, by rw [ht]; exact hP, hD⟩, hS.F ht⟩) hS.2.2 dX6_gate_21
  · have h := h.2 c_2
    refine lv_iload_n hx hb dX6_gate_9 rfl (lv_at hl 2 rfl) ?_
    refine lv_iconst (v := 1) hx hb dX6_gate_10 (by decide) ?_
    refine lv_bipush (v := 20) hx hb dX6_gate_11 (by decide) ?_
    refine ks_i (As := [.int y, .int 1, .int 20]) (rest := []) (wg := (fun _ => (wM cI q M))) ⟨hx, hb, hml, hown, hts⟩ (c_X6_in l G cI cC cD  _  y 1 20 _ h) (va_cwS 3 hts gX6_gate_X6_in rfl rfl rfl (by decide +kernel) ⟨Nat.le_of_ble_eq_true rfl, Nat.le_of_ble_eq_true rfl⟩) hK hN hP hD hS hA (em_0 _) (fun _ => rp_self (em_0 _)) rfl hl.1 rfl (Nat.le_of_ble_eq_true rfl) dX6_gate_13 ⟨Nat.zero_le _, Nat.zero_le _⟩ (fun r_3 _ H locs h hP hD hS => ?_)
    refine lv_if_ne (tgt := 22) hx hb dX6_gate_16 (by decide) (fun c_4 => ?_) (fun c_4 => ?_)
    · have h := h.2 c_4
      refine lv_aload_n hx hb dX6_gate_22 rfl (lv_at hl 0 rfl) ?_
      refine va_get (D := G) (ci := 6) (v := .ref (q 1)) (C := RX6) (T := TX6) (N := 11) hx hb hts hinX6 hown hK hP 0 rfl rfl 0 (by decide) hL7 (fun _ h9 => h9) rfl dX6_gate_23 ?_
      refine lv_iconst (v := 3) hx hb dX6_gate_26 (by decide) ?_
      refine k_ald (f := (M 0)) (j := 3) (v := ((M 0) 3)) hx hb hK hP 1 0 rfl rfl (show ¬ ((3 : Int32) < 0 ∨ 86 ≤ (3 : Int32).toNatClampNeg) by decide) rfl rfl dX6_gate_27 ?_
      refine lv_bipush (v := 8) hx hb dX6_gate_28 (by decide) ?_
      refine lv_icmp_ne (tgt := 36) hx hb dX6_gate_30 (by decide) (fun c_5 => ?_) (fun c_5 => ?_)
      · have h := h.2 c_5
        refine lv_aload_n hx hb dX6_gate_36 rfl (lv_at hl 0 rfl) ?_
        refine kc_v (As := []) (rest := []) (wg := (fun u => (wM cI q u))) ⟨hx, hb, hml, hown, hts⟩ (c_X6_changes l G cI cC cD q _ M  _ h) (cwV 0 hts gX6_gate_X6_changes rfl rfl rfl (by decide +kernel) ⟨Nat.le_of_ble_eq_true rfl, Nat.le_of_ble_eq_true rfl⟩) hK hN hP hD hS hA (em_MM cI q M) (fun u => rp_MM cI q M u) rfl rfl rfl rfl hl.1 rfl (Nat.le_of_ble_eq_true rfl) dX6_gate_37 ⟨Nat.zero_le _, Nat.zero_le _⟩ (fun u_6 H locs h hP hD hS => ?_)
        refine lv_aload_n hx hb dX6_gate_40 rfl (lv_at hl 0 rfl) ?_
        refine va_get (D := G) (ci := 6) (v := .ref (q 1)) (C := RX6) (T := TX6) (N := 11) hx hb hts hinX6 hown hK hP 0 rfl rfl 0 (by decide) hL7 (fun _ h9 => h9) rfl dX6_gate_41 ?_
        refine lv_iconst (v := 3) hx hb dX6_gate_44 (by decide) ?_
        refine k_ald (f := (u_6 0)) (j := 3) (v := ((u_6 0) 3)) hx hb hK hP 1 0 rfl rfl (show ¬ ((3 : Int32) < 0 ∨ 86 ≤ (3 : Int32).toNatClampNeg) by decide) rfl rfl dX6_gate_45 ?_
        refine lv_istore_n (lv' := [(3, .int ((u_6 0) 3)), (0, .ref (q 0)), (1, .int x), (2, .int y)]) hx hb dX6_gate_46 rfl hl (by decide) rfl (fun ls hl => ?_)
        refine lv_aload_n hx hb dX6_gate_47 rfl (lv_at hl 1 rfl) ?_
        refine va_get (D := G) (ci := 6) (v := .ref (q 1)) (C := RX6) (T := TX6) (N := 11) hx hb hts hinX6 hown hK hP 0 rfl rfl 0 (by decide) hL7 (fun _ h9 => h9) rfl dX6_gate_48 ?_
        refine lv_iconst (v := 3) hx hb dX6_gate_51 (by decide) ?_
        refine lv_dup2_11 hx hb dX6_gate_52 rfl rfl ?_
        refine k_ald (f := (u_6 0)) (j := 3) (v := ((u_6 0) 3)) hx hb hK hP 1 0 rfl rfl (show ¬ ((3 : Int32) < 0 ∨ 86 ≤ (3 : Int32).toNatClampNeg) by decide) rfl rfl dX6_gate_53 ?_
        refine lv_iconst (v := 1) hx hb dX6_gate_54 (by decide) ?_
        refine lv_iadd hx hb dX6_gate_55 ?_
        refine k_ast (f := (u_6 0)) (j := 3) (ws' := (wM cI q (uA u_6 0 (upd (u_6 0) 3 (((u_6 0) 3) + 1))))) hx hb hK hP hD hS 1 0 rfl rfl (show ¬ ((3 : Int32) < 0 ∨ 86 ≤ (3 : Int32).toNatClampNeg) by decide) rfl dX6_gate_56 (st_M_0 cI q u_6 (upd (u_6 0) 3 (((u_6 0) 3) + 1))) (fun H locs hP hD hS => ?_)
        refine lv_iconst (v := 0) hx hb dX6_gate_57 (by decide) ?_
        refine lv_istore (lv' := [(4, .int 0), (3, .int ((u_6 0) 3)), (0, .ref (q 0)), (1, .int x), (2, .int y)]) hx hb dX6_gate_58 hl (by decide) rfl (fun ls hl => ?_)
        obtain ⟨I_8, n_12, h_13, hI_14⟩ := h
        have lp_15 : ∀ (n_7 : Nat) (x4_9 : Int32) (D_10 : St), I_8 n_7 x4_9 D_10 → ∀ (H : Heap) (locs : List Loc) (ls : Array Slot), va_P G vwCl (wM cI q D_10) H → va_D A (wM cI q D_10) → va_S A s.heap H locs → lv_has ls 5 [(4, .int x4_9), (3, .int ((u_6 0) 3)), (0, .ref (q 0)), (1, .int x), (2, .int y)] → W p l e (headSpec wsX6_gate ({ frames := 1, cells := 0, slots := 0, locals := 23 })).room s m ([.ref (q 0), .int x, .int y] : List Value).toArray below meth c H locs 0 0 (MQ below (va_Qi Q (BW G (fun u : St => (wM cI q u)) A) A) ([.ref (q 0), .int x, .int y] : List Value).toArray s 0 0 A) (F0 m 60 ls []) := by
          intro n_7
          induction n_7 using Nat.strongRecOn with
          | ind n_7 ih_11 =>
            intro x4_9 D_10 hIn H locs ls hP hD hS hl
            have h := hI_14 n_7 x4_9 D_10 hIn
            refine lv_iload hx hb dX6_gate_60 (lv_at hl 0 rfl) ?_
            refine lv_iconst (v := 5) hx hb dX6_gate_62 (by decide) ?_
            refine lv_icmp_ge (tgt := 99) hx hb dX6_gate_63 (by decide) (fun c_16 => ?_) (fun c_16 => ?_)
            · have h := h.1 c_16
              refine lv_iload_n hx hb dX6_gate_99 rfl (lv_at hl 1 rfl) ?_
              exact W.iret (v := ((u_6 0) 3)) hx hb hr (fun t ht hW => ⟨⟨((u_6 0) 3), D_10, rfl, h, by rw [ht]; exact hP, hD⟩, hS.F ht⟩) hS.2.2 dX6_gate_100
            · have h := h.2 c_16
              refine lv_aload_n hx hb dX6_gate_66 rfl (lv_at hl 2 rfl) ?_
              refine lv_iload_n hx hb dX6_gate_67 rfl (lv_at hl 1 rfl) ?_
              refine lv_iload hx hb dX6_gate_68 (lv_at hl 0 rfl) ?_
              refine lv_iload hx hb dX6_gate_70 (lv_at hl 0 rfl) ?_
              refine lv_if_ne (tgt := 79) hx hb dX6_gate_72 (by decide) (fun c_17 => ?_) (fun c_17 => ?_)
              · have h := h.2 c_17
                refine lv_iload hx hb dX6_gate_79 (lv_at hl 0 rfl) ?_
                refine lv_iconst (v := 1) hx hb dX6_gate_81 (by decide) ?_
                refine lv_icmp_ne (tgt := 89) hx hb dX6_gate_82 (by decide) (fun c_18 => ?_) (fun c_18 => ?_)
                · have h := h.2 c_18
                  refine lv_iconst (v := 0) hx hb dX6_gate_89 (by decide) ?_
                  refine kc_v (As := [.int ((u_6 0) 3), .int x4_9, .int 0]) (rest := []) (wg := (fun u => (wM cI q u))) ⟨hx, hb, hml, hown, hts⟩ (c_X6_puts l G cI cC cD q _ D_10 ((u_6 0) 3) x4_9 0 _ h) (cwV 3 hts gX6_gate_X6_puts rfl rfl rfl (by decide +kernel) ⟨Nat.le_of_ble_eq_true rfl, Nat.le_of_ble_eq_true rfl⟩) hK hN hP hD hS hA (em_MM cI q D_10) (fun u => rp_MM cI q D_10 u) rfl rfl rfl rfl hl.1 rfl (Nat.le_of_ble_eq_true rfl) dX6_gate_90 ⟨Nat.zero_le _, Nat.zero_le _⟩ (fun u_19 H locs h hP hD hS => ?_)
                  refine lv_iinc (v := x4_9 + 1) (lv' := [(4, .int (x4_9 + 1)), (3, .int ((u_6 0) 3)), (0, .ref (q 0)), (1, .int x), (2, .int y)]) hx hb dX6_gate_93 hl (k := 0) rfl rfl (by decide) rfl (fun ls hl => ?_)
                  refine lv_goto (tgt := 60) hx hb dX6_gate_96 (by decide) ?_
                  obtain ⟨n_20, lt_21, h_22⟩ := h
                  exact ih_11 n_20 lt_21 _ _ h_22 _ _ _ hP hD hS (lv_sub hl [0, 1, 2, 3, 4] rfl)
                · have h := h.1 c_18
                  refine lv_iload_n hx hb dX6_gate_85 rfl (lv_at hl 4 rfl) ?_
                  refine lv_goto (tgt := 90) hx hb dX6_gate_86 (by decide) ?_
                  refine kc_v (As := [.int ((u_6 0) 3), .int x4_9, .int y]) (rest := []) (wg := (fun u => (wM cI q u))) ⟨hx, hb, hml, hown, hts⟩ (c_X6_puts l G cI cC cD q _ D_10 ((u_6 0) 3) x4_9 y _ h) (cwV 3 hts gX6_gate_X6_puts rfl rfl rfl (by decide +kernel) ⟨Nat.le_of_ble_eq_true rfl, Nat.le_of_ble_eq_true rfl⟩) hK hN hP hD hS hA (em_MM cI q D_10) (fun u => rp_MM cI q D_10 u) rfl rfl rfl rfl hl.1 rfl (Nat.le_of_ble_eq_true rfl) dX6_gate_90 ⟨Nat.zero_le _, Nat.zero_le _⟩ (fun u_23 H locs h hP hD hS => ?_)
                  refine lv_iinc (v := x4_9 + 1) (lv' := [(4, .int (x4_9 + 1)), (3, .int ((u_6 0) 3)), (0, .ref (q 0)), (1, .int x), (2, .int y)]) hx hb dX6_gate_93 hl (k := 0) rfl rfl (by decide) rfl (fun ls hl => ?_)
                  refine lv_goto (tgt := 60) hx hb dX6_gate_96 (by decide) ?_
                  obtain ⟨n_24, lt_25, h_26⟩ := h
                  exact ih_11 n_24 lt_25 _ _ h_26 _ _ _ hP hD hS (lv_sub hl [0, 1, 2, 3, 4] rfl)
              · have h := h.1 c_17
                refine lv_iload_n hx hb dX6_gate_75 rfl (lv_at hl 3 rfl) ?_
                refine lv_goto (tgt := 90) hx hb dX6_gate_76 (by decide) ?_
                refine kc_v (As := [.int ((u_6 0) 3), .int x4_9, .int x]) (rest := []) (wg := (fun u => (wM cI q u))) ⟨hx, hb, hml, hown, hts⟩ (c_X6_puts l G cI cC cD q _ D_10 ((u_6 0) 3) x4_9 x _ h) (cwV 3 hts gX6_gate_X6_puts rfl rfl rfl (by decide +kernel) ⟨Nat.le_of_ble_eq_true rfl, Nat.le_of_ble_eq_true rfl⟩) hK hN hP hD hS hA (em_MM cI q D_10) (fun u => rp_MM cI q D_10 u) rfl rfl rfl rfl hl.1 rfl (Nat.le_of_ble_eq_true rfl) dX6_gate_90 ⟨Nat.zero_le _, Nat.zero_le _⟩ (fun u_27 H locs h hP hD hS => ?_)
                refine lv_iinc (v := x4_9 + 1) (lv' := [(4, .int (x4_9 + 1)), (3, .int ((u_6 0) 3)), (0, .ref (q 0)), (1, .int x), (2, .int y)]) hx hb dX6_gate_93 hl (k := 0) rfl rfl (by decide) rfl (fun ls hl => ?_)
                refine lv_goto (tgt := 60) hx hb dX6_gate_96 (by decide) ?_
                obtain ⟨n_28, lt_29, h_30⟩ := h
                exact ih_11 n_28 lt_29 _ _ h_30 _ _ _ hP hD hS (lv_sub hl [0, 1, 2, 3, 4] rfl)
        exact lp_15 _ _ _ h_13 _ _ _ hP hD hS hl
      · have h := h.1 c_5
        refine lv_ldc hx hb hown (hts (.constant RX6 104 (-1000003)) (by decide +kernel)) dX6_gate_33 ?_
        exact W.iret (v := (-1000003)) hx hb hr (fun t ht hW => ⟨⟨(-1000003), M, rfl, h, by rw [ht]; exact hP, hD⟩, hS.F ht⟩) hS.2.2 dX6_gate_35
    · have h := h.1 c_4
      refine lv_ldc hx hb hown (hts (.constant RX6 103 (-1000001)) (by decide +kernel)) dX6_gate_19 ?_
      exact W.iret (v := (-1000001)) hx hb hr (fun t ht hW => ⟨⟨(-1000001), M, rfl, h, by rw [ht]; exact hP, hD⟩, hS.F ht⟩) hS.2.2 dX6_gate_21
def q_X6_order (x : Int32) (y : Int32) (M : St) (Q : Int32 → St → Prop) : Prop :=
  q_X6_isGate x M (fun r_1 => (r_1 = 0 → Q (-1000001) M) ∧ (¬ (r_1 = 0) → q_X6_in y 0 10 (fun r_3 => (r_3 = 0 → Q (-1000001) M) ∧ (¬ (r_3 = 0) → q_X6_of x 0 M (fun r_5 => (r_5 = 2 → ((y - y / 2 * 2) = 1 → Q (-1000002) M) ∧ (¬ ((y - y / 2 * 2) = 1) → q_X6_changes M (fun u_23 => q_X6_orderOf x u_23 (fun r_24 => (0 ≤ r_24 → vp_in (20 + (2 * r_24)) 86 ∧ (vp_in ((20 + (2 * r_24)) + 1) 86 ∧ (q_X6_markOf x (uA (uA (uA u_23 0 (upd (u_23 0) 10 (((u_23 0) 10) + 0))) 0 (upd (upd (u_23 0) 10 (((u_23 0) 10) + 0)) (((20 + (2 * r_24))).toNatClampNeg) x)) 0 (upd (upd (upd (u_23 0) 10 (((u_23 0) 10) + 0)) (((20 + (2 * r_24))).toNatClampNeg) x) ((((20 + (2 * r_24)) + 1)).toNatClampNeg) y)) (fun r_28 => (r_28 < 0 → Q ((upd (upd (upd (u_23 0) 10 (((u_23 0) 10) + 0)) (((20 + (2 * r_24))).toNatClampNeg) x) ((((20 + (2 * r_24)) + 1)).toNatClampNeg) y) 10) (uA (uA (uA u_23 0 (upd (u_23 0) 10 (((u_23 0) 10) + 0))) 0 (upd (upd (u_23 0) 10 (((u_23 0) 10) + 0)) (((20 + (2 * r_24))).toNatClampNeg) x)) 0 (upd (upd (upd (u_23 0) 10 (((u_23 0) 10) + 0)) (((20 + (2 * r_24))).toNatClampNeg) x) ((((20 + (2 * r_24)) + 1)).toNatClampNeg) y))) ∧ (¬ (r_28 < 0) → q_X6_markOf x (uA (uA (uA u_23 0 (upd (u_23 0) 10 (((u_23 0) 10) + 0))) 0 (upd (upd (u_23 0) 10 (((u_23 0) 10) + 0)) (((20 + (2 * r_24))).toNatClampNeg) x)) 0 (upd (upd (upd (u_23 0) 10 (((u_23 0) 10) + 0)) (((20 + (2 * r_24))).toNatClampNeg) x) ((((20 + (2 * r_24)) + 1)).toNatClampNeg) y)) (fun r_30 => q_X6_dropsMark r_30 (uA (uA (uA u_23 0 (upd (u_23 0) 10 (((u_23 0) 10) + 0))) 0 (upd (upd (u_23 0) 10 (((u_23 0) 10) + 0)) (((20 + (2 * r_24))).toNatClampNeg) x)) 0 (upd (upd (upd (u_23 0) 10 (((u_23 0) 10) + 0)) (((20 + (2 * r_24))).toNatClampNeg) x) ((((20 + (2 * r_24)) + 1)).toNatClampNeg) y)) (fun u_31 => Q ((u_31 0) 10) u_31))))))) ∧ (¬ (0 ≤ r_24) → vp_in (20 + (2 * ((u_23 0) 10))) 86 ∧ (vp_in ((20 + (2 * ((u_23 0) 10))) + 1) 86 ∧ (q_X6_markOf x (uA (uA (uA u_23 0 (upd (u_23 0) 10 (((u_23 0) 10) + 1))) 0 (upd (upd (u_23 0) 10 (((u_23 0) 10) + 1)) (((20 + (2 * ((u_23 0) 10)))).toNatClampNeg) x)) 0 (upd (upd (upd (u_23 0) 10 (((u_23 0) 10) + 1)) (((20 + (2 * ((u_23 0) 10)))).toNatClampNeg) x) ((((20 + (2 * ((u_23 0) 10))) + 1)).toNatClampNeg) y)) (fun r_34 => (r_34 < 0 → Q ((upd (upd (upd (u_23 0) 10 (((u_23 0) 10) + 1)) (((20 + (2 * ((u_23 0) 10)))).toNatClampNeg) x) ((((20 + (2 * ((u_23 0) 10))) + 1)).toNatClampNeg) y) 10) (uA (uA (uA u_23 0 (upd (u_23 0) 10 (((u_23 0) 10) + 1))) 0 (upd (upd (u_23 0) 10 (((u_23 0) 10) + 1)) (((20 + (2 * ((u_23 0) 10)))).toNatClampNeg) x)) 0 (upd (upd (upd (u_23 0) 10 (((u_23 0) 10) + 1)) (((20 + (2 * ((u_23 0) 10)))).toNatClampNeg) x) ((((20 + (2 * ((u_23 0) 10))) + 1)).toNatClampNeg) y))) ∧ (¬ (r_34 < 0) → q_X6_markOf x (uA (uA (uA u_23 0 (upd (u_23 0) 10 (((u_23 0) 10) + 1))) 0 (upd (upd (u_23 0) 10 (((u_23 0) 10) + 1)) (((20 + (2 * ((u_23 0) 10)))).toNatClampNeg) x)) 0 (upd (upd (upd (u_23 0) 10 (((u_23 0) 10) + 1)) (((20 + (2 * ((u_23 0) 10)))).toNatClampNeg) x) ((((20 + (2 * ((u_23 0) 10))) + 1)).toNatClampNeg) y)) (fun r_36 => q_X6_dropsMark r_36 (uA (uA (uA u_23 0 (upd (u_23 0) 10 (((u_23 0) 10) + 1))) 0 (upd (upd (u_23 0) 10 (((u_23 0) 10) + 1)) (((20 + (2 * ((u_23 0) 10)))).toNatClampNeg) x)) 0 (upd (upd (upd (u_23 0) 10 (((u_23 0) 10) + 1)) (((20 + (2 * ((u_23 0) 10)))).toNatClampNeg) x) ((((20 + (2 * ((u_23 0) 10))) + 1)).toNatClampNeg) y)) (fun u_37 => Q ((u_37 0) 10) u_37))))))))))) ∧ (¬ (r_5 = 2) → q_X6_changes M (fun u_7 => q_X6_orderOf x u_7 (fun r_8 => (0 ≤ r_8 → vp_in (20 + (2 * r_8)) 86 ∧ (vp_in ((20 + (2 * r_8)) + 1) 86 ∧ (q_X6_markOf x (uA (uA (uA u_7 0 (upd (u_7 0) 10 (((u_7 0) 10) + 0))) 0 (upd (upd (u_7 0) 10 (((u_7 0) 10) + 0)) (((20 + (2 * r_8))).toNatClampNeg) x)) 0 (upd (upd (upd (u_7 0) 10 (((u_7 0) 10) + 0)) (((20 + (2 * r_8))).toNatClampNeg) x) ((((20 + (2 * r_8)) + 1)).toNatClampNeg) y)) (fun r_12 => (r_12 < 0 → Q ((upd (upd (upd (u_7 0) 10 (((u_7 0) 10) + 0)) (((20 + (2 * r_8))).toNatClampNeg) x) ((((20 + (2 * r_8)) + 1)).toNatClampNeg) y) 10) (uA (uA (uA u_7 0 (upd (u_7 0) 10 (((u_7 0) 10) + 0))) 0 (upd (upd (u_7 0) 10 (((u_7 0) 10) + 0)) (((20 + (2 * r_8))).toNatClampNeg) x)) 0 (upd (upd (upd (u_7 0) 10 (((u_7 0) 10) + 0)) (((20 + (2 * r_8))).toNatClampNeg) x) ((((20 + (2 * r_8)) + 1)).toNatClampNeg) y))) ∧ (¬ (r_12 < 0) → q_X6_markOf x (uA (uA (uA u_7 0 (upd (u_7 0) 10 (((u_7 0) 10) + 0))) 0 (upd (upd (u_7 0) 10 (((u_7 0) 10) + 0)) (((20 + (2 * r_8))).toNatClampNeg) x)) 0 (upd (upd (upd (u_7 0) 10 (((u_7 0) 10) + 0)) (((20 + (2 * r_8))).toNatClampNeg) x) ((((20 + (2 * r_8)) + 1)).toNatClampNeg) y)) (fun r_14 => q_X6_dropsMark r_14 (uA (uA (uA u_7 0 (upd (u_7 0) 10 (((u_7 0) 10) + 0))) 0 (upd (upd (u_7 0) 10 (((u_7 0) 10) + 0)) (((20 + (2 * r_8))).toNatClampNeg) x)) 0 (upd (upd (upd (u_7 0) 10 (((u_7 0) 10) + 0)) (((20 + (2 * r_8))).toNatClampNeg) x) ((((20 + (2 * r_8)) + 1)).toNatClampNeg) y)) (fun u_15 => Q ((u_15 0) 10) u_15))))))) ∧ (¬ (0 ≤ r_8) → vp_in (20 + (2 * ((u_7 0) 10))) 86 ∧ (vp_in ((20 + (2 * ((u_7 0) 10))) + 1) 86 ∧ (q_X6_markOf x (uA (uA (uA u_7 0 (upd (u_7 0) 10 (((u_7 0) 10) + 1))) 0 (upd (upd (u_7 0) 10 (((u_7 0) 10) + 1)) (((20 + (2 * ((u_7 0) 10)))).toNatClampNeg) x)) 0 (upd (upd (upd (u_7 0) 10 (((u_7 0) 10) + 1)) (((20 + (2 * ((u_7 0) 10)))).toNatClampNeg) x) ((((20 + (2 * ((u_7 0) 10))) + 1)).toNatClampNeg) y)) (fun r_18 => (r_18 < 0 → Q ((upd (upd (upd (u_7 0) 10 (((u_7 0) 10) + 1)) (((20 + (2 * ((u_7 0) 10)))).toNatClampNeg) x) ((((20 + (2 * ((u_7 0) 10))) + 1)).toNatClampNeg) y) 10) (uA (uA (uA u_7 0 (upd (u_7 0) 10 (((u_7 0) 10) + 1))) 0 (upd (upd (u_7 0) 10 (((u_7 0) 10) + 1)) (((20 + (2 * ((u_7 0) 10)))).toNatClampNeg) x)) 0 (upd (upd (upd (u_7 0) 10 (((u_7 0) 10) + 1)) (((20 + (2 * ((u_7 0) 10)))).toNatClampNeg) x) ((((20 + (2 * ((u_7 0) 10))) + 1)).toNatClampNeg) y))) ∧ (¬ (r_18 < 0) → q_X6_markOf x (uA (uA (uA u_7 0 (upd (u_7 0) 10 (((u_7 0) 10) + 1))) 0 (upd (upd (u_7 0) 10 (((u_7 0) 10) + 1)) (((20 + (2 * ((u_7 0) 10)))).toNatClampNeg) x)) 0 (upd (upd (upd (u_7 0) 10 (((u_7 0) 10) + 1)) (((20 + (2 * ((u_7 0) 10)))).toNatClampNeg) x) ((((20 + (2 * ((u_7 0) 10))) + 1)).toNatClampNeg) y)) (fun r_20 => q_X6_dropsMark r_20 (uA (uA (uA u_7 0 (upd (u_7 0) 10 (((u_7 0) 10) + 1))) 0 (upd (upd (u_7 0) 10 (((u_7 0) 10) + 1)) (((20 + (2 * ((u_7 0) 10)))).toNatClampNeg) x)) 0 (upd (upd (upd (u_7 0) 10 (((u_7 0) 10) + 1)) (((20 + (2 * ((u_7 0) 10)))).toNatClampNeg) x) ((((20 + (2 * ((u_7 0) 10))) + 1)).toNatClampNeg) y)) (fun u_21 => Q ((u_21 0) 10) u_21)))))))))))))))
set_option maxHeartbeats 4000000 in
set_option maxRecDepth 100000 in
theorem c_X6_order (l : Launch) (G : va_G) (cI cC cD : ClassId) (q : Nat → Nat) (sz : Nat) (M : St) (x : Int32) (y : Int32) (Q : Int32 → St → Prop) (h : q_X6_order x y M Q) : Met l yX6_order wsX6_order ({ frames := 2, cells := 0, slots := 0, locals := 46 }) (va_Pc [.ref (q 0), .int x, .int y] (PW G (ty3 cI cC cD) (wM cI q M) sz)) (va_Qi Q (BW G (fun u : St => (wM cI q u)) (va_A (wM cI q M) sz)) (va_A (wM cI q M) sz)) 0 0 (va_A (wM cI q M) sz) := by
  refine Met.ofW (cc := cX6_order) (maxL := 5) (ret := (some .int)) (by decide) rfl ?_
  intro p e s m args below meth c s₁ B hml hv
  obtain ⟨rfl, hsz, hP, hK, hD0, hN⟩ := hv
  have hx := B.exec
  have hb := B.bytes
  have hr := B.returns
  have hts := atoms_spec (ws := wsX6_order) B.pre
  have hown : s.vm.findClass RX6 = some m.cls := findClass_of_methodNamed B.named
  have hlocks := B.notSynchronized
  subst hsz
  have hD := hD0.self (sz := s.heap.size)
  generalize hAe : va_A (wM cI q M) s.heap.size = A at hD ⊢
  have hA : ∀ q : Nat, s.heap.size ≤ q → A q := fun q h => by rw [← hAe]; exact Or.inr h
  have hS : va_S A s.heap s.heap [] := va_S.rf
  have hl := lv_entry ([.ref (q 0), .int x, .int y]) (n := 5) (Nat.le_of_ble_eq_true rfl)
  rw [lg_entry_eq]
  generalize (lg_sl ([.ref (q 0), .int x, .int y]) ++ List.replicate (5 - (lg_sl ([.ref (q 0), .int x, .int y])).length) Slot.unset).toArray = ls at hl ⊢
  have hl : lv_has ls 5 [(0, .ref (q 0)), (1, .int x), (2, .int y)] := hl
  have hinX6 : ∀ w ∈ wsX60, w ∈ wsX6_order := by decide +kernel
  have hL7 := hts (.fieldLink RX6 7 "CraneGatesModel" "s" "[I") (by decide +kernel)
  unfold q_X6_order at h
  refine lv_aload_n hx hb dX6_order_0 rfl (lv_at hl 0 rfl) ?_
  refine lv_iload_n hx hb dX6_order_1 rfl (lv_at hl 1 rfl) ?_
  refine kc_i (As := [.int x]) (rest := []) (wg := (fun _ => (wM cI q M))) ⟨hx, hb, hml, hown, hts⟩ (c_X6_isGate l G cI cC cD q _ M x _ h) (cwV 1 hts gX6_order_X6_isGate rfl rfl rfl (by decide +kernel) ⟨Nat.le_of_ble_eq_true rfl, Nat.le_of_ble_eq_true rfl⟩) hK hN hP hD hS hA (em_MM cI q M) (fun _ => rp_self (em_MM cI q M)) rfl rfl rfl rfl hl.1 rfl (Nat.le_of_ble_eq_true rfl) dX6_order_2 ⟨Nat.zero_le _, Nat.zero_le _⟩ (fun r_1 _ H locs h hP hD hS => ?_)
  refine lv_if_eq (tgt := 18) hx hb dX6_order_5 (by decide) (fun c_2 => ?_) (fun c_2 => ?_)
  · have h := h.1 c_2
    refine lv_ldc hx hb hown (hts (.constant RX6 103 (-1000001)) (by decide +kernel)) dX6_order_18 ?_
    exact W.iret (v := (-1000001)) hx hb hr (fun t ht hW => ⟨⟨(-1000001), M, rfl, h, by rw [ht]; exact hP, hD⟩, hS.F ht⟩) hS.2.2 dX6_order_20
  · have h := h.2 c_2
    refine lv_iload_n hx hb dX6_order_8 rfl (lv_at hl 2 rfl) ?_
    refine lv_iconst (v := 0) hx hb dX6_order_9 (by decide) ?_
    refine lv_bipush (v := 10) hx hb dX6_order_10 (by decide) ?_
    refine ks_i (As := [.int y, .int 0, .int 10]) (rest := []) (wg := (fun _ => (wM cI q M))) ⟨hx, hb, hml, hown, hts⟩ (c_X6_in l G cI cC cD  _  y 0 10 _ h) (va_cwS 3 hts gX6_order_X6_in rfl rfl rfl (by decide +kernel) ⟨Nat.le_of_ble_eq_true rfl, Nat.le_of_ble_eq_true rfl⟩) hK hN hP hD hS hA (em_0 _) (fun _ => rp_self (em_0 _)) rfl hl.1 rfl (Nat.le_of_ble_eq_true rfl) dX6_order_12 ⟨Nat.zero_le _, Nat.zero_le _⟩ (fun r_3 _ H locs h hP hD hS => ?_)
    refine lv_if_ne (tgt := 21) hx hb dX6_order_15 (by decide) (fun c_4 => ?_) (fun c_4 => ?_)
    · have h := h.2 c_4
      refine lv_aload_n hx hb dX6_order_21 rfl (lv_at hl 0 rfl) ?_
      refine lv_iload_n hx hb dX6_order_22 rfl (lv_at hl 1 rfl) ?_
      refine lv_iconst (v := 0) hx hb dX6_order_23 (by decide) ?_
      refine kc_i (As := [.int x, .int 0]) (rest := []) (wg := (fun _ => (wM cI q M))) ⟨hx, hb, hml, hown, hts⟩ (c_X6_of l G cI cC cD q _ M x 0 _ h) (cwV 2 hts gX6_order_X6_of rfl rfl rfl (by decide +kernel) ⟨Nat.le_of_ble_eq_true rfl, Nat.le_of_ble_eq_true rfl⟩) hK hN hP hD hS hA (em_MM cI q M) (fun _ => rp_self (em_MM cI q M)) rfl rfl rfl rfl hl.1 rfl (Nat.le_of_ble_eq_true rfl) dX6_order_24 ⟨Nat.zero_le _, Nat.zero_le _⟩ (fun r_5 _ H locs h hP hD hS => ?_)
      refine lv_iconst (v := 2) hx hb dX6_order_27 (by decide) ?_
      refine lv_icmp_ne (tgt := 41) hx hb dX6_order_28 (by decide) (fun c_6 => ?_) (fun c_6 => ?_)
      · have h := h.2 c_6
        refine lv_aload_n hx hb dX6_order_41 rfl (lv_at hl 0 rfl) ?_
        refine kc_v (As := []) (rest := []) (wg := (fun u => (wM cI q u))) ⟨hx, hb, hml, hown, hts⟩ (c_X6_changes l G cI cC cD q _ M  _ h) (cwV 0 hts gX6_order_X6_changes rfl rfl rfl (by decide +kernel) ⟨Nat.le_of_ble_eq_true rfl, Nat.le_of_ble_eq_true rfl⟩) hK hN hP hD hS hA (em_MM cI q M) (fun u => rp_MM cI q M u) rfl rfl rfl rfl hl.1 rfl (Nat.le_of_ble_eq_true rfl) dX6_order_42 ⟨Nat.zero_le _, Nat.zero_le _⟩ (fun u_7 H locs h hP hD hS => ?_)
        refine lv_aload_n hx hb dX6_order_45 rfl (lv_at hl 0 rfl) ?_
        refine lv_iload_n hx hb dX6_order_46 rfl (lv_at hl 1 rfl) ?_
        refine kc_i (As := [.int x]) (rest := []) (wg := (fun _ => (wM cI q u_7))) ⟨hx, hb, hml, hown, hts⟩ (c_X6_orderOf l G cI cC cD q _ u_7 x _ h) (cwV 1 hts gX6_order_X6_orderOf rfl rfl rfl (by decide +kernel) ⟨Nat.le_of_ble_eq_true rfl, Nat.le_of_ble_eq_true rfl⟩) hK hN hP hD hS hA (em_MM cI q u_7) (fun _ => rp_self (em_MM cI q u_7)) rfl rfl rfl rfl hl.1 rfl (Nat.le_of_ble_eq_true rfl) dX6_order_47 ⟨Nat.zero_le _, Nat.zero_le _⟩ (fun r_8 _ H locs h hP hD hS => ?_)
        refine lv_istore_n (lv' := [(3, .int r_8), (0, .ref (q 0)), (1, .int x), (2, .int y)]) hx hb dX6_order_50 rfl hl (by decide) rfl (fun ls hl => ?_)
        refine lv_iload_n hx hb dX6_order_51 rfl (lv_at hl 0 rfl) ?_
        refine lv_if_ge (tgt := 65) hx hb dX6_order_52 (by decide) (fun c_9 => ?_) (fun c_9 => ?_)
        · have h := h.1 c_9
          refine lv_iload_n hx hb dX6_order_65 rfl (lv_at hl 0 rfl) ?_
          refine lv_istore (lv' := [(4, .int r_8), (3, .int r_8), (0, .ref (q 0)), (1, .int x), (2, .int y)]) hx hb dX6_order_66 hl (by decide) rfl (fun ls hl => ?_)
          refine lv_aload_n hx hb dX6_order_68 rfl (lv_at hl 2 rfl) ?_
          refine va_get (D := G) (ci := 6) (v := .ref (q 1)) (C := RX6) (T := TX6) (N := 11) hx hb hts hinX6 hown hK hP 0 rfl rfl 0 (by decide) hL7 (fun _ h9 => h9) rfl dX6_order_69 ?_
          refine lv_bipush (v := 10) hx hb dX6_order_72 (by decide) ?_
          refine lv_dup2_11 hx hb dX6_order_74 rfl rfl ?_
          refine k_ald (f := (u_7 0)) (j := 10) (v := ((u_7 0) 10)) hx hb hK hP 1 0 rfl rfl (show ¬ ((10 : Int32) < 0 ∨ 86 ≤ (10 : Int32).toNatClampNeg) by decide) rfl rfl dX6_order_75 ?_
          refine lv_iload_n hx hb dX6_order_76 rfl (lv_at hl 1 rfl) ?_
          refine lv_if_ge (tgt := 84) hx hb dX6_order_77 (by decide) (fun _ => ?_) (fun c => absurd c_9 c)
          refine lv_iconst (v := 0) hx hb dX6_order_84 (by decide) ?_
          refine lv_iadd hx hb dX6_order_85 ?_
          refine k_ast (f := (u_7 0)) (j := 10) (ws' := (wM cI q (uA u_7 0 (upd (u_7 0) 10 (((u_7 0) 10) + 0))))) hx hb hK hP hD hS 1 0 rfl rfl (show ¬ ((10 : Int32) < 0 ∨ 86 ≤ (10 : Int32).toNatClampNeg) by decide) rfl dX6_order_86 (st_M_0 cI q u_7 (upd (u_7 0) 10 (((u_7 0) 10) + 0))) (fun H locs hP hD hS => ?_)
          refine lv_aload_n hx hb dX6_order_87 rfl (lv_at hl 2 rfl) ?_
          refine va_get (D := G) (ci := 6) (v := .ref (q 1)) (C := RX6) (T := TX6) (N := 11) hx hb hts hinX6 hown hK hP 0 rfl rfl 0 (by decide) hL7 (fun _ h9 => h9) rfl dX6_order_88 ?_
          refine lv_bipush (v := 20) hx hb dX6_order_91 (by decide) ?_
          refine lv_iconst (v := 2) hx hb dX6_order_93 (by decide) ?_
          refine lv_iload hx hb dX6_order_94 (lv_at hl 0 rfl) ?_
          refine lv_imul hx hb dX6_order_96 ?_
          refine lv_iadd hx hb dX6_order_97 ?_
          refine lv_iload_n hx hb dX6_order_98 rfl (lv_at hl 3 rfl) ?_
          obtain ⟨hi_10, h⟩ := h
          refine k_ast (f := (upd (u_7 0) 10 (((u_7 0) 10) + 0))) (j := ((20 + (2 * r_8))).toNatClampNeg) (ws' := (wM cI q (uA (uA u_7 0 (upd (u_7 0) 10 (((u_7 0) 10) + 0))) 0 (upd (upd (u_7 0) 10 (((u_7 0) 10) + 0)) (((20 + (2 * r_8))).toNatClampNeg) x)))) hx hb hK hP hD hS 1 0 rfl rfl hi_10 rfl dX6_order_99 (st_M_0 cI q (uA u_7 0 (upd (u_7 0) 10 (((u_7 0) 10) + 0))) (upd (upd (u_7 0) 10 (((u_7 0) 10) + 0)) (((20 + (2 * r_8))).toNatClampNeg) x)) (fun H locs hP hD hS => ?_)
          refine lv_aload_n hx hb dX6_order_100 rfl (lv_at hl 2 rfl) ?_
          refine va_get (D := G) (ci := 6) (v := .ref (q 1)) (C := RX6) (T := TX6) (N := 11) hx hb hts hinX6 hown hK hP 0 rfl rfl 0 (by decide) hL7 (fun _ h9 => h9) rfl dX6_order_101 ?_
          refine lv_bipush (v := 20) hx hb dX6_order_104 (by decide) ?_
          refine lv_iconst (v := 2) hx hb dX6_order_106 (by decide) ?_
          refine lv_iload hx hb dX6_order_107 (lv_at hl 0 rfl) ?_
          refine lv_imul hx hb dX6_order_109 ?_
          refine lv_iadd hx hb dX6_order_110 ?_
          refine lv_iconst (v := 1) hx hb dX6_order_111 (by decide) ?_
          refine lv_iadd hx hb dX6_order_112 ?_
          refine lv_iload_n hx hb dX6_order_113 rfl (lv_at hl 4 rfl) ?_
          obtain ⟨hi_11, h⟩ := h
          refine k_ast (f := (upd (upd (u_7 0) 10 (((u_7 0) 10) + 0)) (((20 + (2 * r_8))).toNatClampNeg) x)) (j := (((20 + (2 * r_8)) + 1)).toNatClampNeg) (ws' := (wM cI q (uA (uA (uA u_7 0 (upd (u_7 0) 10 (((u_7 0) 10) + 0))) 0 (upd (upd (u_7 0) 10 (((u_7 0) 10) + 0)) (((20 + (2 * r_8))).toNatClampNeg) x)) 0 (upd (upd (upd (u_7 0) 10 (((u_7 0) 10) + 0)) (((20 + (2 * r_8))).toNatClampNeg) x) ((((20 + (2 * r_8)) + 1)).toNatClampNeg) y)))) hx hb hK hP hD hS 1 0 rfl rfl hi_11 rfl dX6_order_114 (st_M_0 cI q (uA (uA u_7 0 (upd (u_7 0) 10 (((u_7 0) 10) + 0))) 0 (upd (upd (u_7 0) 10 (((u_7 0) 10) + 0)) (((20 + (2 * r_8))).toNatClampNeg) x)) (upd (upd (upd (u_7 0) 10 (((u_7 0) 10) + 0)) (((20 + (2 * r_8))).toNatClampNeg) x) ((((20 + (2 * r_8)) + 1)).toNatClampNeg) y)) (fun H locs hP hD hS => ?_)
          refine lv_aload_n hx hb dX6_order_115 rfl (lv_at hl 2 rfl) ?_
          refine lv_iload_n hx hb dX6_order_116 rfl (lv_at hl 3 rfl) ?_
          refine kc_i (As := [.int x]) (rest := []) (wg := (fun _ => (wM cI q (uA (uA (uA u_7 0 (upd (u_7 0) 10 (((u_7 0) 10) + 0))) 0 (upd (upd (u_7 0) 10 (((u_7 0) 10) + 0)) (((20 + (2 * r_8))).toNatClampNeg) x)) 0 (upd (upd (upd (u_7 0) 10 (((u_7 0) 10) + 0)) (((20 + (2 * r_8))).toNatClampNeg) x) ((((20 + (2 * r_8)) + 1)).toNatClampNeg) y))))) ⟨hx, hb, hml, hown, hts⟩ (c_X6_markOf l G cI cC cD q _ (uA (uA (uA u_7 0 (upd (u_7 0) 10 (((u_7 0) 10) + 0))) 0 (upd (upd (u_7 0) 10 (((u_7 0) 10) + 0)) (((20 + (2 * r_8))).toNatClampNeg) x)) 0 (upd (upd (upd (u_7 0) 10 (((u_7 0) 10) + 0)) (((20 + (2 * r_8))).toNatClampNeg) x) ((((20 + (2 * r_8)) + 1)).toNatClampNeg) y)) x _ h) (cwV 1 hts gX6_order_X6_markOf rfl rfl rfl (by decide +kernel) ⟨Nat.le_of_ble_eq_true rfl, Nat.le_of_ble_eq_true rfl⟩) hK hN hP hD hS hA (em_MM cI q (uA (uA (uA u_7 0 (upd (u_7 0) 10 (((u_7 0) 10) + 0))) 0 (upd (upd (u_7 0) 10 (((u_7 0) 10) + 0)) (((20 + (2 * r_8))).toNatClampNeg) x)) 0 (upd (upd (upd (u_7 0) 10 (((u_7 0) 10) + 0)) (((20 + (2 * r_8))).toNatClampNeg) x) ((((20 + (2 * r_8)) + 1)).toNatClampNeg) y))) (fun _ => rp_self (em_MM cI q (uA (uA (uA u_7 0 (upd (u_7 0) 10 (((u_7 0) 10) + 0))) 0 (upd (upd (u_7 0) 10 (((u_7 0) 10) + 0)) (((20 + (2 * r_8))).toNatClampNeg) x)) 0 (upd (upd (upd (u_7 0) 10 (((u_7 0) 10) + 0)) (((20 + (2 * r_8))).toNatClampNeg) x) ((((20 + (2 * r_8)) + 1)).toNatClampNeg) y)))) rfl rfl rfl rfl hl.1 rfl (Nat.le_of_ble_eq_true rfl) dX6_order_117 ⟨Nat.zero_le _, Nat.zero_le _⟩ (fun r_12 _ H locs h hP hD hS => ?_)
          refine lv_if_lt (tgt := 132) hx hb dX6_order_120 (by decide) (fun c_13 => ?_) (fun c_13 => ?_)
          · have h := h.1 c_13
            refine lv_aload_n hx hb dX6_order_132 rfl (lv_at hl 2 rfl) ?_
            refine va_get (D := G) (ci := 6) (v := .ref (q 1)) (C := RX6) (T := TX6) (N := 11) hx hb hts hinX6 hown hK hP 0 rfl rfl 0 (by decide) hL7 (fun _ h9 => h9) rfl dX6_order_133 ?_
            refine lv_bipush (v := 10) hx hb dX6_order_136 (by decide) ?_
            refine k_ald (f := (upd (upd (upd (u_7 0) 10 (((u_7 0) 10) + 0)) (((20 + (2 * r_8))).toNatClampNeg) x) ((((20 + (2 * r_8)) + 1)).toNatClampNeg) y)) (j := 10) (v := ((upd (upd (upd (u_7 0) 10 (((u_7 0) 10) + 0)) (((20 + (2 * r_8))).toNatClampNeg) x) ((((20 + (2 * r_8)) + 1)).toNatClampNeg) y) 10)) hx hb hK hP 1 0 rfl rfl (show ¬ ((10 : Int32) < 0 ∨ 86 ≤ (10 : Int32).toNatClampNeg) by decide) rfl rfl dX6_order_138 ?_
            exact W.iret (v := ((upd (upd (upd (u_7 0) 10 (((u_7 0) 10) + 0)) (((20 + (2 * r_8))).toNatClampNeg) x) ((((20 + (2 * r_8)) + 1)).toNatClampNeg) y) 10)) hx hb hr (fun t ht hW => ⟨⟨((upd (upd (upd (u_7 0) 10 (((u_7 0) 10) + 0)) (((20 + (2 * r_8))).toNatClampNeg) x) ((((20 + (2 * r_8)) + 1)).toNatClampNeg) y) 10), (uA (uA (uA u_7 0 (upd (u_7 0) 10 (((u_7 0) 10) + 0))) 0 (upd (upd (u_7 0) 10 (((u_7 0) 10) + 0)) (((20 + (2 * r_8))).toNatClampNeg) x)) 0 (upd (upd (upd (u_7 0) 10 (((u_7 0) 10) + 0)) (((20 + (2 * r_8))).toNatClampNeg) x) ((((20 + (2 * r_8)) + 1)).toNatClampNeg) y)), rfl, h, by rw [ht]; exact hP, hD⟩, hS.F ht⟩) hS.2.2 dX6_order_139
          · have h := h.2 c_13
            refine lv_aload_n hx hb dX6_order_123 rfl (lv_at hl 2 rfl) ?_
            refine lv_aload_n hx hb dX6_order_124 rfl (lv_at hl 2 rfl) ?_
            refine lv_iload_n hx hb dX6_order_125 rfl (lv_at hl 3 rfl) ?_
            refine kc_i (As := [.int x]) (rest := [.ref (q 0)]) (wg := (fun _ => (wM cI q (uA (uA (uA u_7 0 (upd (u_7 0) 10 (((u_7 0) 10) + 0))) 0 (upd (upd (u_7 0) 10 (((u_7 0) 10) + 0)) (((20 + (2 * r_8))).toNatClampNeg) x)) 0 (upd (upd (upd (u_7 0) 10 (((u_7 0) 10) + 0)) (((20 + (2 * r_8))).toNatClampNeg) x) ((((20 + (2 * r_8)) + 1)).toNatClampNeg) y))))) ⟨hx, hb, hml, hown, hts⟩ (c_X6_markOf l G cI cC cD q _ (uA (uA (uA u_7 0 (upd (u_7 0) 10 (((u_7 0) 10) + 0))) 0 (upd (upd (u_7 0) 10 (((u_7 0) 10) + 0)) (((20 + (2 * r_8))).toNatClampNeg) x)) 0 (upd (upd (upd (u_7 0) 10 (((u_7 0) 10) + 0)) (((20 + (2 * r_8))).toNatClampNeg) x) ((((20 + (2 * r_8)) + 1)).toNatClampNeg) y)) x _ h) (cwV 1 hts gX6_order_X6_markOf rfl rfl rfl (by decide +kernel) ⟨Nat.le_of_ble_eq_true rfl, Nat.le_of_ble_eq_true rfl⟩) hK hN hP hD hS hA (em_MM cI q (uA (uA (uA u_7 0 (upd (u_7 0) 10 (((u_7 0) 10) + 0))) 0 (upd (upd (u_7 0) 10 (((u_7 0) 10) + 0)) (((20 + (2 * r_8))).toNatClampNeg) x)) 0 (upd (upd (upd (u_7 0) 10 (((u_7 0) 10) + 0)) (((20 + (2 * r_8))).toNatClampNeg) x) ((((20 + (2 * r_8)) + 1)).toNatClampNeg) y))) (fun _ => rp_self (em_MM cI q (uA (uA (uA u_7 0 (upd (u_7 0) 10 (((u_7 0) 10) + 0))) 0 (upd (upd (u_7 0) 10 (((u_7 0) 10) + 0)) (((20 + (2 * r_8))).toNatClampNeg) x)) 0 (upd (upd (upd (u_7 0) 10 (((u_7 0) 10) + 0)) (((20 + (2 * r_8))).toNatClampNeg) x) ((((20 + (2 * r_8)) + 1)).toNatClampNeg) y)))) rfl rfl rfl rfl hl.1 rfl (Nat.le_of_ble_eq_true rfl) dX6_order_126 ⟨Nat.zero_le _, Nat.zero_le _⟩ (fun r_14 _ H locs h hP hD hS => ?_)
            refine kc_v (As := [.int r_14]) (rest := []) (wg := (fun u => (wM cI q u))) ⟨hx, hb, hml, hown, hts⟩ (c_X6_dropsMark l G cI cC cD q _ (uA (uA (uA u_7 0 (upd (u_7 0) 10 (((u_7 0) 10) + 0))) 0 (upd (upd (u_7 0) 10 (((u_7 0) 10) + 0)) (((20 + (2 * r_8))).toNatClampNeg) x)) 0 (upd (upd (upd (u_7 0) 10 (((u_7 0) 10) + 0)) (((20 + (2 * r_8))).toNatClampNeg) x) ((((20 + (2 * r_8)) + 1)).toNatClampNeg) y)) r_14 _ h) (cwV 1 hts gX6_order_X6_dropsMark rfl rfl rfl (by decide +kernel) ⟨Nat.le_of_ble_eq_true rfl, Nat.le_of_ble_eq_true rfl⟩) hK hN hP hD hS hA (em_MM cI q (uA (uA (uA u_7 0 (upd (u_7 0) 10 (((u_7 0) 10) + 0))) 0 (upd (upd (u_7 0) 10 (((u_7 0) 10) + 0)) (((20 + (2 * r_8))).toNatClampNeg) x)) 0 (upd (upd (upd (u_7 0) 10 (((u_7 0) 10) + 0)) (((20 + (2 * r_8))).toNatClampNeg) x) ((((20 + (2 * r_8)) + 1)).toNatClampNeg) y))) (fun u => rp_MM cI q (uA (uA (uA u_7 0 (upd (u_7 0) 10 (((u_7 0) 10) + 0))) 0 (upd (upd (u_7 0) 10 (((u_7 0) 10) + 0)) (((20 + (2 * r_8))).toNatClampNeg) x)) 0 (upd (upd (upd (u_7 0) 10 (((u_7 0) 10) + 0)) (((20 + (2 * r_8))).toNatClampNeg) x) ((((20 + (2 * r_8)) + 1)).toNatClampNeg) y)) u) rfl rfl rfl rfl hl.1 rfl (Nat.le_of_ble_eq_true rfl) dX6_order_129 ⟨Nat.zero_le _, Nat.zero_le _⟩ (fun u_15 H locs h hP hD hS => ?_)
            refine lv_aload_n hx hb dX6_order_132 rfl (lv_at hl 2 rfl) ?_
            refine va_get (D := G) (ci := 6) (v := .ref (q 1)) (C := RX6) (T := TX6) (N := 11) hx hb hts hinX6 hown hK hP 0 rfl rfl 0 (by decide) hL7 (fun _ h9 => h9) rfl dX6_order_133 ?_
            refine lv_bipush (v := 10) hx hb dX6_order_136 (by decide) ?_
            refine k_ald (f := (u_15 0)) (j := 10) (v := ((u_15 0) 10)) hx hb hK hP 1 0 rfl rfl (show ¬ ((10 : Int32) < 0 ∨ 86 ≤ (10 : Int32).toNatClampNeg) by decide) rfl rfl dX6_order_138 ?_
            exact W.iret (v := ((u_15 0) 10)) hx hb hr (fun t ht hW => ⟨⟨((u_15 0) 10), u_15, rfl, h, by rw [ht]; exact hP, hD⟩, hS.F ht⟩) hS.2.2 dX6_order_139
        · have h := h.2 c_9
          refine lv_aload_n hx hb dX6_order_55 rfl (lv_at hl 1 rfl) ?_
          refine va_get (D := G) (ci := 6) (v := .ref (q 1)) (C := RX6) (T := TX6) (N := 11) hx hb hts hinX6 hown hK hP 0 rfl rfl 0 (by decide) hL7 (fun _ h9 => h9) rfl dX6_order_56 ?_
          refine lv_bipush (v := 10) hx hb dX6_order_59 (by decide) ?_
          refine k_ald (f := (u_7 0)) (j := 10) (v := ((u_7 0) 10)) hx hb hK hP 1 0 rfl rfl (show ¬ ((10 : Int32) < 0 ∨ 86 ≤ (10 : Int32).toNatClampNeg) by decide) rfl rfl dX6_order_61 ?_
          refine lv_goto (tgt := 66) hx hb dX6_order_62 (by decide) ?_
          refine lv_istore (lv' := [(4, .int ((u_7 0) 10)), (3, .int r_8), (0, .ref (q 0)), (1, .int x), (2, .int y)]) hx hb dX6_order_66 hl (by decide) rfl (fun ls hl => ?_)
          refine lv_aload_n hx hb dX6_order_68 rfl (lv_at hl 2 rfl) ?_
          refine va_get (D := G) (ci := 6) (v := .ref (q 1)) (C := RX6) (T := TX6) (N := 11) hx hb hts hinX6 hown hK hP 0 rfl rfl 0 (by decide) hL7 (fun _ h9 => h9) rfl dX6_order_69 ?_
          refine lv_bipush (v := 10) hx hb dX6_order_72 (by decide) ?_
          refine lv_dup2_11 hx hb dX6_order_74 rfl rfl ?_
          refine k_ald (f := (u_7 0)) (j := 10) (v := ((u_7 0) 10)) hx hb hK hP 1 0 rfl rfl (show ¬ ((10 : Int32) < 0 ∨ 86 ≤ (10 : Int32).toNatClampNeg) by decide) rfl rfl dX6_order_75 ?_
          refine lv_iload_n hx hb dX6_order_76 rfl (lv_at hl 1 rfl) ?_
          refine lv_if_ge (tgt := 84) hx hb dX6_order_77 (by decide) (fun c => absurd c c_9) (fun _ => ?_)
          refine lv_iconst (v := 1) hx hb dX6_order_80 (by decide) ?_
          refine lv_goto (tgt := 85) hx hb dX6_order_81 (by decide) ?_
          refine lv_iadd hx hb dX6_order_85 ?_
          refine k_ast (f := (u_7 0)) (j := 10) (ws' := (wM cI q (uA u_7 0 (upd (u_7 0) 10 (((u_7 0) 10) + 1))))) hx hb hK hP hD hS 1 0 rfl rfl (show ¬ ((10 : Int32) < 0 ∨ 86 ≤ (10 : Int32).toNatClampNeg) by decide) rfl dX6_order_86 (st_M_0 cI q u_7 (upd (u_7 0) 10 (((u_7 0) 10) + 1))) (fun H locs hP hD hS => ?_)
          refine lv_aload_n hx hb dX6_order_87 rfl (lv_at hl 2 rfl) ?_
          refine va_get (D := G) (ci := 6) (v := .ref (q 1)) (C := RX6) (T := TX6) (N := 11) hx hb hts hinX6 hown hK hP 0 rfl rfl 0 (by decide) hL7 (fun _ h9 => h9) rfl dX6_order_88 ?_
          refine lv_bipush (v := 20) hx hb dX6_order_91 (by decide) ?_
          refine lv_iconst (v := 2) hx hb dX6_order_93 (by decide) ?_
          refine lv_iload hx hb dX6_order_94 (lv_at hl 0 rfl) ?_
          refine lv_imul hx hb dX6_order_96 ?_
          refine lv_iadd hx hb dX6_order_97 ?_
          refine lv_iload_n hx hb dX6_order_98 rfl (lv_at hl 3 rfl) ?_
          obtain ⟨hi_16, h⟩ := h
          refine k_ast (f := (upd (u_7 0) 10 (((u_7 0) 10) + 1))) (j := ((20 + (2 * ((u_7 0) 10)))).toNatClampNeg) (ws' := (wM cI q (uA (uA u_7 0 (upd (u_7 0) 10 (((u_7 0) 10) + 1))) 0 (upd (upd (u_7 0) 10 (((u_7 0) 10) + 1)) (((20 + (2 * ((u_7 0) 10)))).toNatClampNeg) x)))) hx hb hK hP hD hS 1 0 rfl rfl hi_16 rfl dX6_order_99 (st_M_0 cI q (uA u_7 0 (upd (u_7 0) 10 (((u_7 0) 10) + 1))) (upd (upd (u_7 0) 10 (((u_7 0) 10) + 1)) (((20 + (2 * ((u_7 0) 10)))).toNatClampNeg) x)) (fun H locs hP hD hS => ?_)
          refine lv_aload_n hx hb dX6_order_100 rfl (lv_at hl 2 rfl) ?_
          refine va_get (D := G) (ci := 6) (v := .ref (q 1)) (C := RX6) (T := TX6) (N := 11) hx hb hts hinX6 hown hK hP 0 rfl rfl 0 (by decide) hL7 (fun _ h9 => h9) rfl dX6_order_101 ?_
          refine lv_bipush (v := 20) hx hb dX6_order_104 (by decide) ?_
          refine lv_iconst (v := 2) hx hb dX6_order_106 (by decide) ?_
          refine lv_iload hx hb dX6_order_107 (lv_at hl 0 rfl) ?_
          refine lv_imul hx hb dX6_order_109 ?_
          refine lv_iadd hx hb dX6_order_110 ?_
          refine lv_iconst (v := 1) hx hb dX6_order_111 (by decide) ?_
          refine lv_iadd hx hb dX6_order_112 ?_
          refine lv_iload_n hx hb dX6_order_113 rfl (lv_at hl 4 rfl) ?_
          obtain ⟨hi_17, h⟩ := h
          refine k_ast (f := (upd (upd (u_7 0) 10 (((u_7 0) 10) + 1)) (((20 + (2 * ((u_7 0) 10)))).toNatClampNeg) x)) (j := (((20 + (2 * ((u_7 0) 10))) + 1)).toNatClampNeg) (ws' := (wM cI q (uA (uA (uA u_7 0 (upd (u_7 0) 10 (((u_7 0) 10) + 1))) 0 (upd (upd (u_7 0) 10 (((u_7 0) 10) + 1)) (((20 + (2 * ((u_7 0) 10)))).toNatClampNeg) x)) 0 (upd (upd (upd (u_7 0) 10 (((u_7 0) 10) + 1)) (((20 + (2 * ((u_7 0) 10)))).toNatClampNeg) x) ((((20 + (2 * ((u_7 0) 10))) + 1)).toNatClampNeg) y)))) hx hb hK hP hD hS 1 0 rfl rfl hi_17 rfl dX6_order_114 (st_M_0 cI q (uA (uA u_7 0 (upd (u_7 0) 10 (((u_7 0) 10) + 1))) 0 (upd (upd (u_7 0) 10 (((u_7 0) 10) + 1)) (((20 + (2 * ((u_7 0) 10)))).toNatClampNeg) x)) (upd (upd (upd (u_7 0) 10 (((u_7 0) 10) + 1)) (((20 + (2 * ((u_7 0) 10)))).toNatClampNeg) x) ((((20 + (2 * ((u_7 0) 10))) + 1)).toNatClampNeg) y)) (fun H locs hP hD hS => ?_)
          refine lv_aload_n hx hb dX6_order_115 rfl (lv_at hl 2 rfl) ?_
          refine lv_iload_n hx hb dX6_order_116 rfl (lv_at hl 3 rfl) ?_
          refine kc_i (As := [.int x]) (rest := []) (wg := (fun _ => (wM cI q (uA (uA (uA u_7 0 (upd (u_7 0) 10 (((u_7 0) 10) + 1))) 0 (upd (upd (u_7 0) 10 (((u_7 0) 10) + 1)) (((20 + (2 * ((u_7 0) 10)))).toNatClampNeg) x)) 0 (upd (upd (upd (u_7 0) 10 (((u_7 0) 10) + 1)) (((20 + (2 * ((u_7 0) 10)))).toNatClampNeg) x) ((((20 + (2 * ((u_7 0) 10))) + 1)).toNatClampNeg) y))))) ⟨hx, hb, hml, hown, hts⟩ (c_X6_markOf l G cI cC cD q _ (uA (uA (uA u_7 0 (upd (u_7 0) 10 (((u_7 0) 10) + 1))) 0 (upd (upd (u_7 0) 10 (((u_7 0) 10) + 1)) (((20 + (2 * ((u_7 0) 10)))).toNatClampNeg) x)) 0 (upd (upd (upd (u_7 0) 10 (((u_7 0) 10) + 1)) (((20 + (2 * ((u_7 0) 10)))).toNatClampNeg) x) ((((20 + (2 * ((u_7 0) 10))) + 1)).toNatClampNeg) y)) x _ h) (cwV 1 hts gX6_order_X6_markOf rfl rfl rfl (by decide +kernel) ⟨Nat.le_of_ble_eq_true rfl, Nat.le_of_ble_eq_true rfl⟩) hK hN hP hD hS hA (em_MM cI q (uA (uA (uA u_7 0 (upd (u_7 0) 10 (((u_7 0) 10) + 1))) 0 (upd (upd (u_7 0) 10 (((u_7 0) 10) + 1)) (((20 + (2 * ((u_7 0) 10)))).toNatClampNeg) x)) 0 (upd (upd (upd (u_7 0) 10 (((u_7 0) 10) + 1)) (((20 + (2 * ((u_7 0) 10)))).toNatClampNeg) x) ((((20 + (2 * ((u_7 0) 10))) + 1)).toNatClampNeg) y))) (fun _ => rp_self (em_MM cI q (uA (uA (uA u_7 0 (upd (u_7 0) 10 (((u_7 0) 10) + 1))) 0 (upd (upd (u_7 0) 10 (((u_7 0) 10) + 1)) (((20 + (2 * ((u_7 0) 10)))).toNatClampNeg) x)) 0 (upd (upd (upd (u_7 0) 10 (((u_7 0) 10) + 1)) (((20 + (2 * ((u_7 0) 10)))).toNatClampNeg) x) ((((20 + (2 * ((u_7 0) 10))) + 1)).toNatClampNeg) y)))) rfl rfl rfl rfl hl.1 rfl (Nat.le_of_ble_eq_true rfl) dX6_order_117 ⟨Nat.zero_le _, Nat.zero_le _⟩ (fun r_18 _ H locs h hP hD hS => ?_)
          refine lv_if_lt (tgt := 132) hx hb dX6_order_120 (by decide) (fun c_19 => ?_) (fun c_19 => ?_)
          · have h := h.1 c_19
            refine lv_aload_n hx hb dX6_order_132 rfl (lv_at hl 2 rfl) ?_
            refine va_get (D := G) (ci := 6) (v := .ref (q 1)) (C := RX6) (T := TX6) (N := 11) hx hb hts hinX6 hown hK hP 0 rfl rfl 0 (by decide) hL7 (fun _ h9 => h9) rfl dX6_order_133 ?_
            refine lv_bipush (v := 10) hx hb dX6_order_136 (by decide) ?_
            refine k_ald (f := (upd (upd (upd (u_7 0) 10 (((u_7 0) 10) + 1)) (((20 + (2 * ((u_7 0) 10)))).toNatClampNeg) x) ((((20 + (2 * ((u_7 0) 10))) + 1)).toNatClampNeg) y)) (j := 10) (v := ((upd (upd (upd (u_7 0) 10 (((u_7 0) 10) + 1)) (((20 + (2 * ((u_7 0) 10)))).toNatClampNeg) x) ((((20 + (2 * ((u_7 0) 10))) + 1)).toNatClampNeg) y) 10)) hx hb hK hP 1 0 rfl rfl (show ¬ ((10 : Int32) < 0 ∨ 86 ≤ (10 : Int32).toNatClampNeg) by decide) rfl rfl dX6_order_138 ?_
            exact W.iret (v := ((upd (upd (upd (u_7 0) 10 (((u_7 0) 10) + 1)) (((20 + (2 * ((u_7 0) 10)))).toNatClampNeg) x) ((((20 + (2 * ((u_7 0) 10))) + 1)).toNatClampNeg) y) 10)) hx hb hr (fun t ht hW => ⟨⟨((upd (upd (upd (u_7 0) 10 (((u_7 0) 10) + 1)) (((20 + (2 * ((u_7 0) 10)))).toNatClampNeg) x) ((((20 + (2 * ((u_7 0) 10))) + 1)).toNatClampNeg) y) 10), (uA (uA (uA u_7 0 (upd (u_7 0) 10 (((u_7 0) 10) + 1))) 0 (upd (upd (u_7 0) 10 (((u_7 0) 10) + 1)) (((20 + (2 * ((u_7 0) 10)))).toNatClampNeg) x)) 0 (upd (upd (upd (u_7 0) 10 (((u_7 0) 10) + 1)) (((20 + (2 * ((u_7 0) 10)))).toNatClampNeg) x) ((((20 + (2 * ((u_7 0) 10))) + 1)).toNatClampNeg) y)), rfl, h, by rw [ht]; exact hP, hD⟩, hS.F ht⟩) hS.2.2 dX6_order_139
          · have h := h.2 c_19
            refine lv_aload_n hx hb dX6_order_123 rfl (lv_at hl 2 rfl) ?_
            refine lv_aload_n hx hb dX6_order_124 rfl (lv_at hl 2 rfl) ?_
            refine lv_iload_n hx hb dX6_order_125 rfl (lv_at hl 3 rfl) ?_
            refine kc_i (As := [.int x]) (rest := [.ref (q 0)]) (wg := (fun _ => (wM cI q (uA (uA (uA u_7 0 (upd (u_7 0) 10 (((u_7 0) 10) + 1))) 0 (upd (upd (u_7 0) 10 (((u_7 0) 10) + 1)) (((20 + (2 * ((u_7 0) 10)))).toNatClampNeg) x)) 0 (upd (upd (upd (u_7 0) 10 (((u_7 0) 10) + 1)) (((20 + (2 * ((u_7 0) 10)))).toNatClampNeg) x) ((((20 + (2 * ((u_7 0) 10))) + 1)).toNatClampNeg) y))))) ⟨hx, hb, hml, hown, hts⟩ (c_X6_markOf l G cI cC cD q _ (uA (uA (uA u_7 0 (upd (u_7 0) 10 (((u_7 0) 10) + 1))) 0 (upd (upd (u_7 0) 10 (((u_7 0) 10) + 1)) (((20 + (2 * ((u_7 0) 10)))).toNatClampNeg) x)) 0 (upd (upd (upd (u_7 0) 10 (((u_7 0) 10) + 1)) (((20 + (2 * ((u_7 0) 10)))).toNatClampNeg) x) ((((20 + (2 * ((u_7 0) 10))) + 1)).toNatClampNeg) y)) x _ h) (cwV 1 hts gX6_order_X6_markOf rfl rfl rfl (by decide +kernel) ⟨Nat.le_of_ble_eq_true rfl, Nat.le_of_ble_eq_true rfl⟩) hK hN hP hD hS hA (em_MM cI q (uA (uA (uA u_7 0 (upd (u_7 0) 10 (((u_7 0) 10) + 1))) 0 (upd (upd (u_7 0) 10 (((u_7 0) 10) + 1)) (((20 + (2 * ((u_7 0) 10)))).toNatClampNeg) x)) 0 (upd (upd (upd (u_7 0) 10 (((u_7 0) 10) + 1)) (((20 + (2 * ((u_7 0) 10)))).toNatClampNeg) x) ((((20 + (2 * ((u_7 0) 10))) + 1)).toNatClampNeg) y))) (fun _ => rp_self (em_MM cI q (uA (uA (uA u_7 0 (upd (u_7 0) 10 (((u_7 0) 10) + 1))) 0 (upd (upd (u_7 0) 10 (((u_7 0) 10) + 1)) (((20 + (2 * ((u_7 0) 10)))).toNatClampNeg) x)) 0 (upd (upd (upd (u_7 0) 10 (((u_7 0) 10) + 1)) (((20 + (2 * ((u_7 0) 10)))).toNatClampNeg) x) ((((20 + (2 * ((u_7 0) 10))) + 1)).toNatClampNeg) y)))) rfl rfl rfl rfl hl.1 rfl (Nat.le_of_ble_eq_true rfl) dX6_order_126 ⟨Nat.zero_le _, Nat.zero_le _⟩ (fun r_20 _ H locs h hP hD hS => ?_)
            refine kc_v (As := [.int r_20]) (rest := []) (wg := (fun u => (wM cI q u))) ⟨hx, hb, hml, hown, hts⟩ (c_X6_dropsMark l G cI cC cD q _ (uA (uA (uA u_7 0 (upd (u_7 0) 10 (((u_7 0) 10) + 1))) 0 (upd (upd (u_7 0) 10 (((u_7 0) 10) + 1)) (((20 + (2 * ((u_7 0) 10)))).toNatClampNeg) x)) 0 (upd (upd (upd (u_7 0) 10 (((u_7 0) 10) + 1)) (((20 + (2 * ((u_7 0) 10)))).toNatClampNeg) x) ((((20 + (2 * ((u_7 0) 10))) + 1)).toNatClampNeg) y)) r_20 _ h) (cwV 1 hts gX6_order_X6_dropsMark rfl rfl rfl (by decide +kernel) ⟨Nat.le_of_ble_eq_true rfl, Nat.le_of_ble_eq_true rfl⟩) hK hN hP hD hS hA (em_MM cI q (uA (uA (uA u_7 0 (upd (u_7 0) 10 (((u_7 0) 10) + 1))) 0 (upd (upd (u_7 0) 10 (((u_7 0) 10) + 1)) (((20 + (2 * ((u_7 0) 10)))).toNatClampNeg) x)) 0 (upd (upd (upd (u_7 0) 10 (((u_7 0) 10) + 1)) (((20 + (2 * ((u_7 0) 10)))).toNatClampNeg) x) ((((20 + (2 * ((u_7 0) 10))) + 1)).toNatClampNeg) y))) (fun u => rp_MM cI q (uA (uA (uA u_7 0 (upd (u_7 0) 10 (((u_7 0) 10) + 1))) 0 (upd (upd (u_7 0) 10 (((u_7 0) 10) + 1)) (((20 + (2 * ((u_7 0) 10)))).toNatClampNeg) x)) 0 (upd (upd (upd (u_7 0) 10 (((u_7 0) 10) + 1)) (((20 + (2 * ((u_7 0) 10)))).toNatClampNeg) x) ((((20 + (2 * ((u_7 0) 10))) + 1)).toNatClampNeg) y)) u) rfl rfl rfl rfl hl.1 rfl (Nat.le_of_ble_eq_true rfl) dX6_order_129 ⟨Nat.zero_le _, Nat.zero_le _⟩ (fun u_21 H locs h hP hD hS => ?_)
            refine lv_aload_n hx hb dX6_order_132 rfl (lv_at hl 2 rfl) ?_
            refine va_get (D := G) (ci := 6) (v := .ref (q 1)) (C := RX6) (T := TX6) (N := 11) hx hb hts hinX6 hown hK hP 0 rfl rfl 0 (by decide) hL7 (fun _ h9 => h9) rfl dX6_order_133 ?_
            refine lv_bipush (v := 10) hx hb dX6_order_136 (by decide) ?_
            refine k_ald (f := (u_21 0)) (j := 10) (v := ((u_21 0) 10)) hx hb hK hP 1 0 rfl rfl (show ¬ ((10 : Int32) < 0 ∨ 86 ≤ (10 : Int32).toNatClampNeg) by decide) rfl rfl dX6_order_138 ?_
            exact W.iret (v := ((u_21 0) 10)) hx hb hr (fun t ht hW => ⟨⟨((u_21 0) 10), u_21, rfl, h, by rw [ht]; exact hP, hD⟩, hS.F ht⟩) hS.2.2 dX6_order_139
      · have h := h.1 c_6
        refine lv_iload_n hx hb dX6_order_31 rfl (lv_at hl 2 rfl) ?_
        refine lv_iconst (v := 2) hx hb dX6_order_32 (by decide) ?_
        refine lv_irem hx hb dX6_order_33 (by decide) ?_
        refine lv_iconst (v := 1) hx hb dX6_order_34 (by decide) ?_
        refine lv_icmp_ne (tgt := 41) hx hb dX6_order_35 (by decide) (fun c_22 => ?_) (fun c_22 => ?_)
        · have h := h.2 c_22
          refine lv_aload_n hx hb dX6_order_41 rfl (lv_at hl 0 rfl) ?_
          refine kc_v (As := []) (rest := []) (wg := (fun u => (wM cI q u))) ⟨hx, hb, hml, hown, hts⟩ (c_X6_changes l G cI cC cD q _ M  _ h) (cwV 0 hts gX6_order_X6_changes rfl rfl rfl (by decide +kernel) ⟨Nat.le_of_ble_eq_true rfl, Nat.le_of_ble_eq_true rfl⟩) hK hN hP hD hS hA (em_MM cI q M) (fun u => rp_MM cI q M u) rfl rfl rfl rfl hl.1 rfl (Nat.le_of_ble_eq_true rfl) dX6_order_42 ⟨Nat.zero_le _, Nat.zero_le _⟩ (fun u_23 H locs h hP hD hS => ?_)
          refine lv_aload_n hx hb dX6_order_45 rfl (lv_at hl 0 rfl) ?_
          refine lv_iload_n hx hb dX6_order_46 rfl (lv_at hl 1 rfl) ?_
          refine kc_i (As := [.int x]) (rest := []) (wg := (fun _ => (wM cI q u_23))) ⟨hx, hb, hml, hown, hts⟩ (c_X6_orderOf l G cI cC cD q _ u_23 x _ h) (cwV 1 hts gX6_order_X6_orderOf rfl rfl rfl (by decide +kernel) ⟨Nat.le_of_ble_eq_true rfl, Nat.le_of_ble_eq_true rfl⟩) hK hN hP hD hS hA (em_MM cI q u_23) (fun _ => rp_self (em_MM cI q u_23)) rfl rfl rfl rfl hl.1 rfl (Nat.le_of_ble_eq_true rfl) dX6_order_47 ⟨Nat.zero_le _, Nat.zero_le _⟩ (fun r_24 _ H locs h hP hD hS => ?_)
          refine lv_istore_n (lv' := [(3, .int r_24), (0, .ref (q 0)), (1, .int x), (2, .int y)]) hx hb dX6_order_50 rfl hl (by decide) rfl (fun ls hl => ?_)
          refine lv_iload_n hx hb dX6_order_51 rfl (lv_at hl 0 rfl) ?_
          refine lv_if_ge (tgt := 65) hx hb dX6_order_52 (by decide) (fun c_25 => ?_) (fun c_25 => ?_)
          · have h := h.1 c_25
            refine lv_iload_n hx hb dX6_order_65 rfl (lv_at hl 0 rfl) ?_
            refine lv_istore (lv' := [(4, .int r_24), (3, .int r_24), (0, .ref (q 0)), (1, .int x), (2, .int y)]) hx hb dX6_order_66 hl (by decide) rfl (fun ls hl => ?_)
            refine lv_aload_n hx hb dX6_order_68 rfl (lv_at hl 2 rfl) ?_
            refine va_get (D := G) (ci := 6) (v := .ref (q 1)) (C := RX6) (T := TX6) (N := 11) hx hb hts hinX6 hown hK hP 0 rfl rfl 0 (by decide) hL7 (fun _ h9 => h9) rfl dX6_order_69 ?_
            refine lv_bipush (v := 10) hx hb dX6_order_72 (by decide) ?_
            refine lv_dup2_11 hx hb dX6_order_74 rfl rfl ?_
            refine k_ald (f := (u_23 0)) (j := 10) (v := ((u_23 0) 10)) hx hb hK hP 1 0 rfl rfl (show ¬ ((10 : Int32) < 0 ∨ 86 ≤ (10 : Int32).toNatClampNeg) by decide) rfl rfl dX6_order_75 ?_
            refine lv_iload_n hx hb dX6_order_76 rfl (lv_at hl 1 rfl) ?_
            refine lv_if_ge (tgt := 84) hx hb dX6_order_77 (by decide) (fun _ => ?_) (fun c => absurd c_25 c)
            refine lv_iconst (v := 0) hx hb dX6_order_84 (by decide) ?_
            refine lv_iadd hx hb dX6_order_85 ?_
            refine k_ast (f := (u_23 0)) (j := 10) (ws' := (wM cI q (uA u_23 0 (upd (u_23 0) 10 (((u_23 0) 10) + 0))))) hx hb hK hP hD hS 1 0 rfl rfl (show ¬ ((10 : Int32) < 0 ∨ 86 ≤ (10 : Int32).toNatClampNeg) by decide) rfl dX6_order_86 (st_M_0 cI q u_23 (upd (u_23 0) 10 (((u_23 0) 10) + 0))) (fun H locs hP hD hS => ?_)
            refine lv_aload_n hx hb dX6_order_87 rfl (lv_at hl 2 rfl) ?_
            refine va_get (D := G) (ci := 6) (v := .ref (q 1)) (C := RX6) (T := TX6) (N := 11) hx hb hts hinX6 hown hK hP 0 rfl rfl 0 (by decide) hL7 (fun _ h9 => h9) rfl dX6_order_88 ?_
            refine lv_bipush (v := 20) hx hb dX6_order_91 (by decide) ?_
            refine lv_iconst (v := 2) hx hb dX6_order_93 (by decide) ?_
            refine lv_iload hx hb dX6_order_94 (lv_at hl 0 rfl) ?_
            refine lv_imul hx hb dX6_order_96 ?_
            refine lv_iadd hx hb dX6_order_97 ?_
            refine lv_iload_n hx hb dX6_order_98 rfl (lv_at hl 3 rfl) ?_
            obtain ⟨hi_26, h⟩ := h
            refine k_ast (f := (upd (u_23 0) 10 (((u_23 0) 10) + 0))) (j := ((20 + (2 * r_24))).toNatClampNeg) (ws' := (wM cI q (uA (uA u_23 0 (upd (u_23 0) 10 (((u_23 0) 10) + 0))) 0 (upd (upd (u_23 0) 10 (((u_23 0) 10) + 0)) (((20 + (2 * r_24))).toNatClampNeg) x)))) hx hb hK hP hD hS 1 0 rfl rfl hi_26 rfl dX6_order_99 (st_M_0 cI q (uA u_23 0 (upd (u_23 0) 10 (((u_23 0) 10) + 0))) (upd (upd (u_23 0) 10 (((u_23 0) 10) + 0)) (((20 + (2 * r_24))).toNatClampNeg) x)) (fun H locs hP hD hS => ?_)
            refine lv_aload_n hx hb dX6_order_100 rfl (lv_at hl 2 rfl) ?_
            refine va_get (D := G) (ci := 6) (v := .ref (q 1)) (C := RX6) (T := TX6) (N := 11) hx hb hts hinX6 hown hK hP 0 rfl rfl 0 (by decide) hL7 (fun _ h9 => h9) rfl dX6_order_101 ?_
            refine lv_bipush (v := 20) hx hb dX6_order_104 (by decide) ?_
            refine lv_iconst (v := 2) hx hb dX6_order_106 (by decide) ?_
            refine lv_iload hx hb dX6_order_107 (lv_at hl 0 rfl) ?_
            refine lv_imul hx hb dX6_order_109 ?_
            refine lv_iadd hx hb dX6_order_110 ?_
            refine lv_iconst (v := 1) hx hb dX6_order_111 (by decide) ?_
            refine lv_iadd hx hb dX6_order_112 ?_
            refine lv_iload_n hx hb dX6_order_113 rfl (lv_at hl 4 rfl) ?_
            obtain ⟨hi_27, h⟩ := h
            refine k_ast (f := (upd (upd (u_23 0) 10 (((u_23 0) 10) + 0)) (((20 + (2 * r_24))).toNatClampNeg) x)) (j := (((20 + (2 * r_24)) + 1)).toNatClampNeg) (ws' := (wM cI q (uA (uA (uA u_23 0 (upd (u_23 0) 10 (((u_23 0) 10) + 0))) 0 (upd (upd (u_23 0) 10 (((u_23 0) 10) + 0)) (((20 + (2 * r_24))).toNatClampNeg) x)) 0 (upd (upd (upd (u_23 0) 10 (((u_23 0) 10) + 0)) (((20 + (2 * r_24))).toNatClampNeg) x) ((((20 + (2 * r_24)) + 1)).toNatClampNeg) y)))) hx hb hK hP hD hS 1 0 rfl rfl hi_27 rfl dX6_order_114 (st_M_0 cI q (uA (uA u_23 0 (upd (u_23 0) 10 (((u_23 0) 10) + 0))) 0 (upd (upd (u_23 0) 10 (((u_23 0) 10) + 0)) (((20 + (2 * r_24))).toNatClampNeg) x)) (upd (upd (upd (u_23 0) 10 (((u_23 0) 10) + 0)) (((20 + (2 * r_24))).toNatClampNeg) x) ((((20 + (2 * r_24)) + 1)).toNatClampNeg) y)) (fun H locs hP hD hS => ?_)
            refine lv_aload_n hx hb dX6_order_115 rfl (lv_at hl 2 rfl) ?_
            refine lv_iload_n hx hb dX6_order_116 rfl (lv_at hl 3 rfl) ?_
            refine kc_i (As := [.int x]) (rest := []) (wg := (fun _ => (wM cI q (uA (uA (uA u_23 0 (upd (u_23 0) 10 (((u_23 0) 10) + 0))) 0 (upd (upd (u_23 0) 10 (((u_23 0) 10) + 0)) (((20 + (2 * r_24))).toNatClampNeg) x)) 0 (upd (upd (upd (u_23 0) 10 (((u_23 0) 10) + 0)) (((20 + (2 * r_24))).toNatClampNeg) x) ((((20 + (2 * r_24)) + 1)).toNatClampNeg) y))))) ⟨hx, hb, hml, hown, hts⟩ (c_X6_markOf l G cI cC cD q _ (uA (uA (uA u_23 0 (upd (u_23 0) 10 (((u_23 0) 10) + 0))) 0 (upd (upd (u_23 0) 10 (((u_23 0) 10) + 0)) (((20 + (2 * r_24))).toNatClampNeg) x)) 0 (upd (upd (upd (u_23 0) 10 (((u_23 0) 10) + 0)) (((20 + (2 * r_24))).toNatClampNeg) x) ((((20 + (2 * r_24)) + 1)).toNatClampNeg) y)) x _ h) (cwV 1 hts gX6_order_X6_markOf rfl rfl rfl (by decide +kernel) ⟨Nat.le_of_ble_eq_true rfl, Nat.le_of_ble_eq_true rfl⟩) hK hN hP hD hS hA (em_MM cI q (uA (uA (uA u_23 0 (upd (u_23 0) 10 (((u_23 0) 10) + 0))) 0 (upd (upd (u_23 0) 10 (((u_23 0) 10) + 0)) (((20 + (2 * r_24))).toNatClampNeg) x)) 0 (upd (upd (upd (u_23 0) 10 (((u_23 0) 10) + 0)) (((20 + (2 * r_24))).toNatClampNeg) x) ((((20 + (2 * r_24)) + 1)).toNatClampNeg) y))) (fun _ => rp_self (em_MM cI q (uA (uA (uA u_23 0 (upd (u_23 0) 10 (((u_23 0) 10) + 0))) 0 (upd (upd (u_23 0) 10 (((u_23 0) 10) + 0)) (((20 + (2 * r_24))).toNatClampNeg) x)) 0 (upd (upd (upd (u_23 0) 10 (((u_23 0) 10) + 0)) (((20 + (2 * r_24))).toNatClampNeg) x) ((((20 + (2 * r_24)) + 1)).toNatClampNeg) y)))) rfl rfl rfl rfl hl.1 rfl (Nat.le_of_ble_eq_true rfl) dX6_order_117 ⟨Nat.zero_le _, Nat.zero_le _⟩ (fun r_28 _ H locs h hP hD hS => ?_)
            refine lv_if_lt (tgt := 132) hx hb dX6_order_120 (by decide) (fun c_29 => ?_) (fun c_29 => ?_)
            · have h := h.1 c_29
              refine lv_aload_n hx hb dX6_order_132 rfl (lv_at hl 2 rfl) ?_
              refine va_get (D := G) (ci := 6) (v := .ref (q 1)) (C := RX6) (T := TX6) (N := 11) hx hb hts hinX6 hown hK hP 0 rfl rfl 0 (by decide) hL7 (fun _ h9 => h9) rfl dX6_order_133 ?_
              refine lv_bipush (v := 10) hx hb dX6_order_136 (by decide) ?_
              refine k_ald (f := (upd (upd (upd (u_23 0) 10 (((u_23 0) 10) + 0)) (((20 + (2 * r_24))).toNatClampNeg) x) ((((20 + (2 * r_24)) + 1)).toNatClampNeg) y)) (j := 10) (v := ((upd (upd (upd (u_23 0) 10 (((u_23 0) 10) + 0)) (((20 + (2 * r_24))).toNatClampNeg) x) ((((20 + (2 * r_24)) + 1)).toNatClampNeg) y) 10)) hx hb hK hP 1 0 rfl rfl (show ¬ ((10 : Int32) < 0 ∨ 86 ≤ (10 : Int32).toNatClampNeg) by decide) rfl rfl dX6_order_138 ?_
              exact W.iret (v := ((upd (upd (upd (u_23 0) 10 (((u_23 0) 10) + 0)) (((20 + (2 * r_24))).toNatClampNeg) x) ((((20 + (2 * r_24)) + 1)).toNatClampNeg) y) 10)) hx hb hr (fun t ht hW => ⟨⟨((upd (upd (upd (u_23 0) 10 (((u_23 0) 10) + 0)) (((20 + (2 * r_24))).toNatClampNeg) x) ((((20 + (2 * r_24)) + 1)).toNatClampNeg) y) 10), (uA (uA (uA u_23 0 (upd (u_23 0) 10 (((u_23 0) 10) + 0))) 0 (upd (upd (u_23 0) 10 (((u_23 0) 10) + 0)) (((20 + (2 * r_24))).toNatClampNeg) x)) 0 (upd (upd (upd (u_23 0) 10 (((u_23 0) 10) + 0)) (((20 + (2 * r_24))).toNatClampNeg) x) ((((20 + (2 * r_24)) + 1)).toNatClampNeg) y)), rfl, h, by rw [ht]; exact hP, hD⟩, hS.F ht⟩) hS.2.2 dX6_order_139
            · have h := h.2 c_29
              refine lv_aload_n hx hb dX6_order_123 rfl (lv_at hl 2 rfl) ?_
              refine lv_aload_n hx hb dX6_order_124 rfl (lv_at hl 2 rfl) ?_
              refine lv_iload_n hx hb dX6_order_125 rfl (lv_at hl 3 rfl) ?_
              refine kc_i (As := [.int x]) (rest := [.ref (q 0)]) (wg := (fun _ => (wM cI q (uA (uA (uA u_23 0 (upd (u_23 0) 10 (((u_23 0) 10) + 0))) 0 (upd (upd (u_23 0) 10 (((u_23 0) 10) + 0)) (((20 + (2 * r_24))).toNatClampNeg) x)) 0 (upd (upd (upd (u_23 0) 10 (((u_23 0) 10) + 0)) (((20 + (2 * r_24))).toNatClampNeg) x) ((((20 + (2 * r_24)) + 1)).toNatClampNeg) y))))) ⟨hx, hb, hml, hown, hts⟩ (c_X6_markOf l G cI cC cD q _ (uA (uA (uA u_23 0 (upd (u_23 0) 10 (((u_23 0) 10) + 0))) 0 (upd (upd (u_23 0) 10 (((u_23 0) 10) + 0)) (((20 + (2 * r_24))).toNatClampNeg) x)) 0 (upd (upd (upd (u_23 0) 10 (((u_23 0) 10) + 0)) (((20 + (2 * r_24))).toNatClampNeg) x) ((((20 + (2 * r_24)) + 1)).toNatClampNeg) y)) x _ h) (cwV 1 hts gX6_order_X6_markOf rfl rfl rfl (by decide +kernel) ⟨Nat.le_of_ble_eq_true rfl, Nat.le_of_ble_eq_true rfl⟩) hK hN hP hD hS hA (em_MM cI q (uA (uA (uA u_23 0 (upd (u_23 0) 10 (((u_23 0) 10) + 0))) 0 (upd (upd (u_23 0) 10 (((u_23 0) 10) + 0)) (((20 + (2 * r_24))).toNatClampNeg) x)) 0 (upd (upd (upd (u_23 0) 10 (((u_23 0) 10) + 0)) (((20 + (2 * r_24))).toNatClampNeg) x) ((((20 + (2 * r_24)) + 1)).toNatClampNeg) y))) (fun _ => rp_self (em_MM cI q (uA (uA (uA u_23 0 (upd (u_23 0) 10 (((u_23 0) 10) + 0))) 0 (upd (upd (u_23 0) 10 (((u_23 0) 10) + 0)) (((20 + (2 * r_24))).toNatClampNeg) x)) 0 (upd (upd (upd (u_23 0) 10 (((u_23 0) 10) + 0)) (((20 + (2 * r_24))).toNatClampNeg) x) ((((20 + (2 * r_24)) + 1)).toNatClampNeg) y)))) rfl rfl rfl rfl hl.1 rfl (Nat.le_of_ble_eq_true rfl) dX6_order_126 ⟨Nat.zero_le _, Nat.zero_le _⟩ (fun r_30 _ H locs h hP hD hS => ?_)
              refine kc_v (As := [.int r_30]) (rest := []) (wg := (fun u => (wM cI q u))) ⟨hx, hb, hml, hown, hts⟩ (c_X6_dropsMark l G cI cC cD q _ (uA (uA (uA u_23 0 (upd (u_23 0) 10 (((u_23 0) 10) + 0))) 0 (upd (upd (u_23 0) 10 (((u_23 0) 10) + 0)) (((20 + (2 * r_24))).toNatClampNeg) x)) 0 (upd (upd (upd (u_23 0) 10 (((u_23 0) 10) + 0)) (((20 + (2 * r_24))).toNatClampNeg) x) ((((20 + (2 * r_24)) + 1)).toNatClampNeg) y)) r_30 _ h) (cwV 1 hts gX6_order_X6_dropsMark rfl rfl rfl (by decide +kernel) ⟨Nat.le_of_ble_eq_true rfl, Nat.le_of_ble_eq_true rfl⟩) hK hN hP hD hS hA (em_MM cI q (uA (uA (uA u_23 0 (upd (u_23 0) 10 (((u_23 0) 10) + 0))) 0 (upd (upd (u_23 0) 10 (((u_23 0) 10) + 0)) (((20 + (2 * r_24))).toNatClampNeg) x)) 0 (upd (upd (upd (u_23 0) 10 (((u_23 0) 10) + 0)) (((20 + (2 * r_24))).toNatClampNeg) x) ((((20 + (2 * r_24)) + 1)).toNatClampNeg) y))) (fun u => rp_MM cI q (uA (uA (uA u_23 0 (upd (u_23 0) 10 (((u_23 0) 10) + 0))) 0 (upd (upd (u_23 0) 10 (((u_23 0) 10) + 0)) (((20 + (2 * r_24))).toNatClampNeg) x)) 0 (upd (upd (upd (u_23 0) 10 (((u_23 0) 10) + 0)) (((20 + (2 * r_24))).toNatClampNeg) x) ((((20 + (2 * r_24)) + 1)).toNatClampNeg) y)) u) rfl rfl rfl rfl hl.1 rfl (Nat.le_of_ble_eq_true rfl) dX6_order_129 ⟨Nat.zero_le _, Nat.zero_le _⟩ (fun u_31 H locs h hP hD hS => ?_)
              refine lv_aload_n hx hb dX6_order_132 rfl (lv_at hl 2 rfl) ?_
              refine va_get (D := G) (ci := 6) (v := .ref (q 1)) (C := RX6) (T := TX6) (N := 11) hx hb hts hinX6 hown hK hP 0 rfl rfl 0 (by decide) hL7 (fun _ h9 => h9) rfl dX6_order_133 ?_
              refine lv_bipush (v := 10) hx hb dX6_order_136 (by decide) ?_
              refine k_ald (f := (u_31 0)) (j := 10) (v := ((u_31 0) 10)) hx hb hK hP 1 0 rfl rfl (show ¬ ((10 : Int32) < 0 ∨ 86 ≤ (10 : Int32).toNatClampNeg) by decide) rfl rfl dX6_order_138 ?_
              exact W.iret (v := ((u_31 0) 10)) hx hb hr (fun t ht hW => ⟨⟨((u_31 0) 10), u_31, rfl, h, by rw [ht]; exact hP, hD⟩, hS.F ht⟩) hS.2.2 dX6_order_139
          · have h := h.2 c_25
            refine lv_aload_n hx hb dX6_order_55 rfl (lv_at hl 1 rfl) ?_
            refine va_get (D := G) (ci := 6) (v := .ref (q 1)) (C := RX6) (T := TX6) (N := 11) hx hb hts hinX6 hown hK hP 0 rfl rfl 0 (by decide) hL7 (fun _ h9 => h9) rfl dX6_order_56 ?_
            refine lv_bipush (v := 10) hx hb dX6_order_59 (by decide) ?_
            refine k_ald (f := (u_23 0)) (j := 10) (v := ((u_23 0) 10)) hx hb hK hP 1 0 rfl rfl (show ¬ ((10 : Int32) < 0 ∨ 86 ≤ (10 : Int32).toNatClampNeg) by decide) rfl rfl dX6_order_61 ?_
            refine lv_goto (tgt := 66) hx hb dX6_order_62 (by decide) ?_
            refine lv_istore (lv' := [(4, .int ((u_23 0) 10)), (3, .int r_24), (0, .ref (q 0)), (1, .int x), (2, .int y)]) hx hb dX6_order_66 hl (by decide) rfl (fun ls hl => ?_)
            refine lv_aload_n hx hb dX6_order_68 rfl (lv_at hl 2 rfl) ?_
            refine va_get (D := G) (ci := 6) (v := .ref (q 1)) (C := RX6) (T := TX6) (N := 11) hx hb hts hinX6 hown hK hP 0 rfl rfl 0 (by decide) hL7 (fun _ h9 => h9) rfl dX6_order_69 ?_
            refine lv_bipush (v := 10) hx hb dX6_order_72 (by decide) ?_
            refine lv_dup2_11 hx hb dX6_order_74 rfl rfl ?_
            refine k_ald (f := (u_23 0)) (j := 10) (v := ((u_23 0) 10)) hx hb hK hP 1 0 rfl rfl (show ¬ ((10 : Int32) < 0 ∨ 86 ≤ (10 : Int32).toNatClampNeg) by decide) rfl rfl dX6_order_75 ?_
            refine lv_iload_n hx hb dX6_order_76 rfl (lv_at hl 1 rfl) ?_
            refine lv_if_ge (tgt := 84) hx hb dX6_order_77 (by decide) (fun c => absurd c c_25) (fun _ => ?_)
            refine lv_iconst (v := 1) hx hb dX6_order_80 (by decide) ?_
            refine lv_goto (tgt := 85) hx hb dX6_order_81 (by decide) ?_
            refine lv_iadd hx hb dX6_order_85 ?_
            refine k_ast (f := (u_23 0)) (j := 10) (ws' := (wM cI q (uA u_23 0 (upd (u_23 0) 10 (((u_23 0) 10) + 1))))) hx hb hK hP hD hS 1 0 rfl rfl (show ¬ ((10 : Int32) < 0 ∨ 86 ≤ (10 : Int32).toNatClampNeg) by decide) rfl dX6_order_86 (st_M_0 cI q u_23 (upd (u_23 0) 10 (((u_23 0) 10) + 1))) (fun H locs hP hD hS => ?_)
            refine lv_aload_n hx hb dX6_order_87 rfl (lv_at hl 2 rfl) ?_
            refine va_get (D := G) (ci := 6) (v := .ref (q 1)) (C := RX6) (T := TX6) (N := 11) hx hb hts hinX6 hown hK hP 0 rfl rfl 0 (by decide) hL7 (fun _ h9 => h9) rfl dX6_order_88 ?_
            refine lv_bipush (v := 20) hx hb dX6_order_91 (by decide) ?_
            refine lv_iconst (v := 2) hx hb dX6_order_93 (by decide) ?_
            refine lv_iload hx hb dX6_order_94 (lv_at hl 0 rfl) ?_
            refine lv_imul hx hb dX6_order_96 ?_
            refine lv_iadd hx hb dX6_order_97 ?_
            refine lv_iload_n hx hb dX6_order_98 rfl (lv_at hl 3 rfl) ?_
            obtain ⟨hi_32, h⟩ := h
            refine k_ast (f := (upd (u_23 0) 10 (((u_23 0) 10) + 1))) (j := ((20 + (2 * ((u_23 0) 10)))).toNatClampNeg) (ws' := (wM cI q (uA (uA u_23 0 (upd (u_23 0) 10 (((u_23 0) 10) + 1))) 0 (upd (upd (u_23 0) 10 (((u_23 0) 10) + 1)) (((20 + (2 * ((u_23 0) 10)))).toNatClampNeg) x)))) hx hb hK hP hD hS 1 0 rfl rfl hi_32 rfl dX6_order_99 (st_M_0 cI q (uA u_23 0 (upd (u_23 0) 10 (((u_23 0) 10) + 1))) (upd (upd (u_23 0) 10 (((u_23 0) 10) + 1)) (((20 + (2 * ((u_23 0) 10)))).toNatClampNeg) x)) (fun H locs hP hD hS => ?_)
            refine lv_aload_n hx hb dX6_order_100 rfl (lv_at hl 2 rfl) ?_
            refine va_get (D := G) (ci := 6) (v := .ref (q 1)) (C := RX6) (T := TX6) (N := 11) hx hb hts hinX6 hown hK hP 0 rfl rfl 0 (by decide) hL7 (fun _ h9 => h9) rfl dX6_order_101 ?_
            refine lv_bipush (v := 20) hx hb dX6_order_104 (by decide) ?_
            refine lv_iconst (v := 2) hx hb dX6_order_106 (by decide) ?_
            refine lv_iload hx hb dX6_order_107 (lv_at hl 0 rfl) ?_
            refine lv_imul hx hb dX6_order_109 ?_
            refine lv_iadd hx hb dX6_order_110 ?_
            refine lv_iconst (v := 1) hx hb dX6_order_111 (by decide) ?_
            refine lv_iadd hx hb dX6_order_112 ?_
            refine lv_iload_n hx hb dX6_order_113 rfl (lv_at hl 4 rfl) ?_
            obtain ⟨hi_33, h⟩ := h
            refine k_ast (f := (upd (upd (u_23 0) 10 (((u_23 0) 10) + 1)) (((20 + (2 * ((u_23 0) 10)))).toNatClampNeg) x)) (j := (((20 + (2 * ((u_23 0) 10))) + 1)).toNatClampNeg) (ws' := (wM cI q (uA (uA (uA u_23 0 (upd (u_23 0) 10 (((u_23 0) 10) + 1))) 0 (upd (upd (u_23 0) 10 (((u_23 0) 10) + 1)) (((20 + (2 * ((u_23 0) 10)))).toNatClampNeg) x)) 0 (upd (upd (upd (u_23 0) 10 (((u_23 0) 10) + 1)) (((20 + (2 * ((u_23 0) 10)))).toNatClampNeg) x) ((((20 + (2 * ((u_23 0) 10))) + 1)).toNatClampNeg) y)))) hx hb hK hP hD hS 1 0 rfl rfl hi_33 rfl dX6_order_114 (st_M_0 cI q (uA (uA u_23 0 (upd (u_23 0) 10 (((u_23 0) 10) + 1))) 0 (upd (upd (u_23 0) 10 (((u_23 0) 10) + 1)) (((20 + (2 * ((u_23 0) 10)))).toNatClampNeg) x)) (upd (upd (upd (u_23 0) 10 (((u_23 0) 10) + 1)) (((20 + (2 * ((u_23 0) 10)))).toNatClampNeg) x) ((((20 + (2 * ((u_23 0) 10))) + 1)).toNatClampNeg) y)) (fun H locs hP hD hS => ?_)
            refine lv_aload_n hx hb dX6_order_115 rfl (lv_at hl 2 rfl) ?_
            refine lv_iload_n hx hb dX6_order_116 rfl (lv_at hl 3 rfl) ?_
            refine kc_i (As := [.int x]) (rest := []) (wg := (fun _ => (wM cI q (uA (uA (uA u_23 0 (upd (u_23 0) 10 (((u_23 0) 10) + 1))) 0 (upd (upd (u_23 0) 10 (((u_23 0) 10) + 1)) (((20 + (2 * ((u_23 0) 10)))).toNatClampNeg) x)) 0 (upd (upd (upd (u_23 0) 10 (((u_23 0) 10) + 1)) (((20 + (2 * ((u_23 0) 10)))).toNatClampNeg) x) ((((20 + (2 * ((u_23 0) 10))) + 1)).toNatClampNeg) y))))) ⟨hx, hb, hml, hown, hts⟩ (c_X6_markOf l G cI cC cD q _ (uA (uA (uA u_23 0 (upd (u_23 0) 10 (((u_23 0) 10) + 1))) 0 (upd (upd (u_23 0) 10 (((u_23 0) 10) + 1)) (((20 + (2 * ((u_23 0) 10)))).toNatClampNeg) x)) 0 (upd (upd (upd (u_23 0) 10 (((u_23 0) 10) + 1)) (((20 + (2 * ((u_23 0) 10)))).toNatClampNeg) x) ((((20 + (2 * ((u_23 0) 10))) + 1)).toNatClampNeg) y)) x _ h) (cwV 1 hts gX6_order_X6_markOf rfl rfl rfl (by decide +kernel) ⟨Nat.le_of_ble_eq_true rfl, Nat.le_of_ble_eq_true rfl⟩) hK hN hP hD hS hA (em_MM cI q (uA (uA (uA u_23 0 (upd (u_23 0) 10 (((u_23 0) 10) + 1))) 0 (upd (upd (u_23 0) 10 (((u_23 0) 10) + 1)) (((20 + (2 * ((u_23 0) 10)))).toNatClampNeg) x)) 0 (upd (upd (upd (u_23 0) 10 (((u_23 0) 10) + 1)) (((20 + (2 * ((u_23 0) 10)))).toNatClampNeg) x) ((((20 + (2 * ((u_23 0) 10))) + 1)).toNatClampNeg) y))) (fun _ => rp_self (em_MM cI q (uA (uA (uA u_23 0 (upd (u_23 0) 10 (((u_23 0) 10) + 1))) 0 (upd (upd (u_23 0) 10 (((u_23 0) 10) + 1)) (((20 + (2 * ((u_23 0) 10)))).toNatClampNeg) x)) 0 (upd (upd (upd (u_23 0) 10 (((u_23 0) 10) + 1)) (((20 + (2 * ((u_23 0) 10)))).toNatClampNeg) x) ((((20 + (2 * ((u_23 0) 10))) + 1)).toNatClampNeg) y)))) rfl rfl rfl rfl hl.1 rfl (Nat.le_of_ble_eq_true rfl) dX6_order_117 ⟨Nat.zero_le _, Nat.zero_le _⟩ (fun r_34 _ H locs h hP hD hS => ?_)
            refine lv_if_lt (tgt := 132) hx hb dX6_order_120 (by decide) (fun c_35 => ?_) (fun c_35 => ?_)
            · have h := h.1 c_35
              refine lv_aload_n hx hb dX6_order_132 rfl (lv_at hl 2 rfl) ?_
              refine va_get (D := G) (ci := 6) (v := .ref (q 1)) (C := RX6) (T := TX6) (N := 11) hx hb hts hinX6 hown hK hP 0 rfl rfl 0 (by decide) hL7 (fun _ h9 => h9) rfl dX6_order_133 ?_
              refine lv_bipush (v := 10) hx hb dX6_order_136 (by decide) ?_
              refine k_ald (f := (upd (upd (upd (u_23 0) 10 (((u_23 0) 10) + 1)) (((20 + (2 * ((u_23 0) 10)))).toNatClampNeg) x) ((((20 + (2 * ((u_23 0) 10))) + 1)).toNatClampNeg) y)) (j := 10) (v := ((upd (upd (upd (u_23 0) 10 (((u_23 0) 10) + 1)) (((20 + (2 * ((u_23 0) 10)))).toNatClampNeg) x) ((((20 + (2 * ((u_23 0) 10))) + 1)).toNatClampNeg) y) 10)) hx hb hK hP 1 0 rfl rfl (show ¬ ((10 : Int32) < 0 ∨ 86 ≤ (10 : Int32).toNatClampNeg) by decide) rfl rfl dX6_order_138 ?_
              exact W.iret (v := ((upd (upd (upd (u_23 0) 10 (((u_23 0) 10) + 1)) (((20 + (2 * ((u_23 0) 10)))).toNatClampNeg) x) ((((20 + (2 * ((u_23 0) 10))) + 1)).toNatClampNeg) y) 10)) hx hb hr (fun t ht hW => ⟨⟨((upd (upd (upd (u_23 0) 10 (((u_23 0) 10) + 1)) (((20 + (2 * ((u_23 0) 10)))).toNatClampNeg) x) ((((20 + (2 * ((u_23 0) 10))) + 1)).toNatClampNeg) y) 10), (uA (uA (uA u_23 0 (upd (u_23 0) 10 (((u_23 0) 10) + 1))) 0 (upd (upd (u_23 0) 10 (((u_23 0) 10) + 1)) (((20 + (2 * ((u_23 0) 10)))).toNatClampNeg) x)) 0 (upd (upd (upd (u_23 0) 10 (((u_23 0) 10) + 1)) (((20 + (2 * ((u_23 0) 10)))).toNatClampNeg) x) ((((20 + (2 * ((u_23 0) 10))) + 1)).toNatClampNeg) y)), rfl, h, by rw [ht]; exact hP, hD⟩, hS.F ht⟩) hS.2.2 dX6_order_139
            · have h := h.2 c_35
              refine lv_aload_n hx hb dX6_order_123 rfl (lv_at hl 2 rfl) ?_
              refine lv_aload_n hx hb dX6_order_124 rfl (lv_at hl 2 rfl) ?_
              refine lv_iload_n hx hb dX6_order_125 rfl (lv_at hl 3 rfl) ?_
              refine kc_i (As := [.int x]) (rest := [.ref (q 0)]) (wg := (fun _ => (wM cI q (uA (uA (uA u_23 0 (upd (u_23 0) 10 (((u_23 0) 10) + 1))) 0 (upd (upd (u_23 0) 10 (((u_23 0) 10) + 1)) (((20 + (2 * ((u_23 0) 10)))).toNatClampNeg) x)) 0 (upd (upd (upd (u_23 0) 10 (((u_23 0) 10) + 1)) (((20 + (2 * ((u_23 0) 10)))).toNatClampNeg) x) ((((20 + (2 * ((u_23 0) 10))) + 1)).toNatClampNeg) y))))) ⟨hx, hb, hml, hown, hts⟩ (c_X6_markOf l G cI cC cD q _ (uA (uA (uA u_23 0 (upd (u_23 0) 10 (((u_23 0) 10) + 1))) 0 (upd (upd (u_23 0) 10 (((u_23 0) 10) + 1)) (((20 + (2 * ((u_23 0) 10)))).toNatClampNeg) x)) 0 (upd (upd (upd (u_23 0) 10 (((u_23 0) 10) + 1)) (((20 + (2 * ((u_23 0) 10)))).toNatClampNeg) x) ((((20 + (2 * ((u_23 0) 10))) + 1)).toNatClampNeg) y)) x _ h) (cwV 1 hts gX6_order_X6_markOf rfl rfl rfl (by decide +kernel) ⟨Nat.le_of_ble_eq_true rfl, Nat.le_of_ble_eq_true rfl⟩) hK hN hP hD hS hA (em_MM cI q (uA (uA (uA u_23 0 (upd (u_23 0) 10 (((u_23 0) 10) + 1))) 0 (upd (upd (u_23 0) 10 (((u_23 0) 10) + 1)) (((20 + (2 * ((u_23 0) 10)))).toNatClampNeg) x)) 0 (upd (upd (upd (u_23 0) 10 (((u_23 0) 10) + 1)) (((20 + (2 * ((u_23 0) 10)))).toNatClampNeg) x) ((((20 + (2 * ((u_23 0) 10))) + 1)).toNatClampNeg) y))) (fun _ => rp_self (em_MM cI q (uA (uA (uA u_23 0 (upd (u_23 0) 10 (((u_23 0) 10) + 1))) 0 (upd (upd (u_23 0) 10 (((u_23 0) 10) + 1)) (((20 + (2 * ((u_23 0) 10)))).toNatClampNeg) x)) 0 (upd (upd (upd (u_23 0) 10 (((u_23 0) 10) + 1)) (((20 + (2 * ((u_23 0) 10)))).toNatClampNeg) x) ((((20 + (2 * ((u_23 0) 10))) + 1)).toNatClampNeg) y)))) rfl rfl rfl rfl hl.1 rfl (Nat.le_of_ble_eq_true rfl) dX6_order_126 ⟨Nat.zero_le _, Nat.zero_le _⟩ (fun r_36 _ H locs h hP hD hS => ?_)
              refine kc_v (As := [.int r_36]) (rest := []) (wg := (fun u => (wM cI q u))) ⟨hx, hb, hml, hown, hts⟩ (c_X6_dropsMark l G cI cC cD q _ (uA (uA (uA u_23 0 (upd (u_23 0) 10 (((u_23 0) 10) + 1))) 0 (upd (upd (u_23 0) 10 (((u_23 0) 10) + 1)) (((20 + (2 * ((u_23 0) 10)))).toNatClampNeg) x)) 0 (upd (upd (upd (u_23 0) 10 (((u_23 0) 10) + 1)) (((20 + (2 * ((u_23 0) 10)))).toNatClampNeg) x) ((((20 + (2 * ((u_23 0) 10))) + 1)).toNatClampNeg) y)) r_36 _ h) (cwV 1 hts gX6_order_X6_dropsMark rfl rfl rfl (by decide +kernel) ⟨Nat.le_of_ble_eq_true rfl, Nat.le_of_ble_eq_true rfl⟩) hK hN hP hD hS hA (em_MM cI q (uA (uA (uA u_23 0 (upd (u_23 0) 10 (((u_23 0) 10) + 1))) 0 (upd (upd (u_23 0) 10 (((u_23 0) 10) + 1)) (((20 + (2 * ((u_23 0) 10)))).toNatClampNeg) x)) 0 (upd (upd (upd (u_23 0) 10 (((u_23 0) 10) + 1)) (((20 + (2 * ((u_23 0) 10)))).toNatClampNeg) x) ((((20 + (2 * ((u_23 0) 10))) + 1)).toNatClampNeg) y))) (fun u => rp_MM cI q (uA (uA (uA u_23 0 (upd (u_23 0) 10 (((u_23 0) 10) + 1))) 0 (upd (upd (u_23 0) 10 (((u_23 0) 10) + 1)) (((20 + (2 * ((u_23 0) 10)))).toNatClampNeg) x)) 0 (upd (upd (upd (u_23 0) 10 (((u_23 0) 10) + 1)) (((20 + (2 * ((u_23 0) 10)))).toNatClampNeg) x) ((((20 + (2 * ((u_23 0) 10))) + 1)).toNatClampNeg) y)) u) rfl rfl rfl rfl hl.1 rfl (Nat.le_of_ble_eq_true rfl) dX6_order_129 ⟨Nat.zero_le _, Nat.zero_le _⟩ (fun u_37 H locs h hP hD hS => ?_)
              refine lv_aload_n hx hb dX6_order_132 rfl (lv_at hl 2 rfl) ?_
              refine va_get (D := G) (ci := 6) (v := .ref (q 1)) (C := RX6) (T := TX6) (N := 11) hx hb hts hinX6 hown hK hP 0 rfl rfl 0 (by decide) hL7 (fun _ h9 => h9) rfl dX6_order_133 ?_
              refine lv_bipush (v := 10) hx hb dX6_order_136 (by decide) ?_
              refine k_ald (f := (u_37 0)) (j := 10) (v := ((u_37 0) 10)) hx hb hK hP 1 0 rfl rfl (show ¬ ((10 : Int32) < 0 ∨ 86 ≤ (10 : Int32).toNatClampNeg) by decide) rfl rfl dX6_order_138 ?_
              exact W.iret (v := ((u_37 0) 10)) hx hb hr (fun t ht hW => ⟨⟨((u_37 0) 10), u_37, rfl, h, by rw [ht]; exact hP, hD⟩, hS.F ht⟩) hS.2.2 dX6_order_139
        · have h := h.1 c_22
          refine lv_ldc hx hb hown (hts (.constant RX6 112 (-1000002)) (by decide +kernel)) dX6_order_38 ?_
          exact W.iret (v := (-1000002)) hx hb hr (fun t ht hW => ⟨⟨(-1000002), M, rfl, h, by rw [ht]; exact hP, hD⟩, hS.F ht⟩) hS.2.2 dX6_order_40
    · have h := h.1 c_4
      refine lv_ldc hx hb hown (hts (.constant RX6 103 (-1000001)) (by decide +kernel)) dX6_order_18 ?_
      exact W.iret (v := (-1000001)) hx hb hr (fun t ht hW => ⟨⟨(-1000001), M, rfl, h, by rw [ht]; exact hP, hD⟩, hS.F ht⟩) hS.2.2 dX6_order_20
def q_X6_cancel (x : Int32) (M : St) (Q : Int32 → St → Prop) : Prop :=
  q_X6_isGate x M (fun r_1 => (r_1 = 0 → Q (-1000001) M) ∧ (¬ (r_1 = 0) → q_X6_orderOf x M (fun r_3 => (0 ≤ r_3 → q_X6_changes M (fun u_5 => vp_in ((20 + (2 * r_3)) + 1) 86 ∧ (q_X6_dropsOrder r_3 u_5 (fun u_7 => Q ((u_5 0) ((((20 + (2 * r_3)) + 1)).toNatClampNeg)) u_7)))) ∧ (¬ (0 ≤ r_3) → Q (-1000002) M))))
set_option maxHeartbeats 4000000 in
set_option maxRecDepth 100000 in
theorem c_X6_cancel (l : Launch) (G : va_G) (cI cC cD : ClassId) (q : Nat → Nat) (sz : Nat) (M : St) (x : Int32) (Q : Int32 → St → Prop) (h : q_X6_cancel x M Q) : Met l yX6_cancel wsX6_cancel ({ frames := 2, cells := 0, slots := 0, locals := 46 }) (va_Pc [.ref (q 0), .int x] (PW G (ty3 cI cC cD) (wM cI q M) sz)) (va_Qi Q (BW G (fun u : St => (wM cI q u)) (va_A (wM cI q M) sz)) (va_A (wM cI q M) sz)) 0 0 (va_A (wM cI q M) sz) := by
  refine Met.ofW (cc := cX6_cancel) (maxL := 4) (ret := (some .int)) (by decide) rfl ?_
  intro p e s m args below meth c s₁ B hml hv
  obtain ⟨rfl, hsz, hP, hK, hD0, hN⟩ := hv
  have hx := B.exec
  have hb := B.bytes
  have hr := B.returns
  have hts := atoms_spec (ws := wsX6_cancel) B.pre
  have hown : s.vm.findClass RX6 = some m.cls := findClass_of_methodNamed B.named
  have hlocks := B.notSynchronized
  subst hsz
  have hD := hD0.self (sz := s.heap.size)
  generalize hAe : va_A (wM cI q M) s.heap.size = A at hD ⊢
  have hA : ∀ q : Nat, s.heap.size ≤ q → A q := fun q h => by rw [← hAe]; exact Or.inr h
  have hS : va_S A s.heap s.heap [] := va_S.rf
  have hl := lv_entry ([.ref (q 0), .int x]) (n := 4) (Nat.le_of_ble_eq_true rfl)
  rw [lg_entry_eq]
  generalize (lg_sl ([.ref (q 0), .int x]) ++ List.replicate (4 - (lg_sl ([.ref (q 0), .int x])).length) Slot.unset).toArray = ls at hl ⊢
  have hl : lv_has ls 4 [(0, .ref (q 0)), (1, .int x)] := hl
  have hinX6 : ∀ w ∈ wsX60, w ∈ wsX6_cancel := by decide +kernel
  have hL7 := hts (.fieldLink RX6 7 "CraneGatesModel" "s" "[I") (by decide +kernel)
  unfold q_X6_cancel at h
  refine lv_aload_n hx hb dX6_cancel_0 rfl (lv_at hl 0 rfl) ?_
  refine lv_iload_n hx hb dX6_cancel_1 rfl (lv_at hl 1 rfl) ?_
  refine kc_i (As := [.int x]) (rest := []) (wg := (fun _ => (wM cI q M))) ⟨hx, hb, hml, hown, hts⟩ (c_X6_isGate l G cI cC cD q _ M x _ h) (cwV 1 hts gX6_cancel_X6_isGate rfl rfl rfl (by decide +kernel) ⟨Nat.le_of_ble_eq_true rfl, Nat.le_of_ble_eq_true rfl⟩) hK hN hP hD hS hA (em_MM cI q M) (fun _ => rp_self (em_MM cI q M)) rfl rfl rfl rfl hl.1 rfl (Nat.le_of_ble_eq_true rfl) dX6_cancel_2 ⟨Nat.zero_le _, Nat.zero_le _⟩ (fun r_1 _ H locs h hP hD hS => ?_)
  refine lv_if_ne (tgt := 11) hx hb dX6_cancel_5 (by decide) (fun c_2 => ?_) (fun c_2 => ?_)
  · have h := h.2 c_2
    refine lv_aload_n hx hb dX6_cancel_11 rfl (lv_at hl 0 rfl) ?_
    refine lv_iload_n hx hb dX6_cancel_12 rfl (lv_at hl 1 rfl) ?_
    refine kc_i (As := [.int x]) (rest := []) (wg := (fun _ => (wM cI q M))) ⟨hx, hb, hml, hown, hts⟩ (c_X6_orderOf l G cI cC cD q _ M x _ h) (cwV 1 hts gX6_cancel_X6_orderOf rfl rfl rfl (by decide +kernel) ⟨Nat.le_of_ble_eq_true rfl, Nat.le_of_ble_eq_true rfl⟩) hK hN hP hD hS hA (em_MM cI q M) (fun _ => rp_self (em_MM cI q M)) rfl rfl rfl rfl hl.1 rfl (Nat.le_of_ble_eq_true rfl) dX6_cancel_13 ⟨Nat.zero_le _, Nat.zero_le _⟩ (fun r_3 _ H locs h hP hD hS => ?_)
    refine lv_istore_n (lv' := [(2, .int r_3), (0, .ref (q 0)), (1, .int x)]) hx hb dX6_cancel_16 rfl hl (by decide) rfl (fun ls hl => ?_)
    refine lv_iload_n hx hb dX6_cancel_17 rfl (lv_at hl 0 rfl) ?_
    refine lv_if_ge (tgt := 24) hx hb dX6_cancel_18 (by decide) (fun c_4 => ?_) (fun c_4 => ?_)
    · have h := h.1 c_4
      refine lv_aload_n hx hb dX6_cancel_24 rfl (lv_at hl 1 rfl) ?_
      refine kc_v (As := []) (rest := []) (wg := (fun u => (wM cI q u))) ⟨hx, hb, hml, hown, hts⟩ (c_X6_changes l G cI cC cD q _ M  _ h) (cwV 0 hts gX6_cancel_X6_changes rfl rfl rfl (by decide +kernel) ⟨Nat.le_of_ble_eq_true rfl, Nat.le_of_ble_eq_true rfl⟩) hK hN hP hD hS hA (em_MM cI q M) (fun u => rp_MM cI q M u) rfl rfl rfl rfl hl.1 rfl (Nat.le_of_ble_eq_true rfl) dX6_cancel_25 ⟨Nat.zero_le _, Nat.zero_le _⟩ (fun u_5 H locs h hP hD hS => ?_)
      refine lv_aload_n hx hb dX6_cancel_28 rfl (lv_at hl 1 rfl) ?_
      refine va_get (D := G) (ci := 6) (v := .ref (q 1)) (C := RX6) (T := TX6) (N := 11) hx hb hts hinX6 hown hK hP 0 rfl rfl 0 (by decide) hL7 (fun _ h9 => h9) rfl dX6_cancel_29 ?_
      refine lv_bipush (v := 20) hx hb dX6_cancel_32 (by decide) ?_
      refine lv_iconst (v := 2) hx hb dX6_cancel_34 (by decide) ?_
      refine lv_iload_n hx hb dX6_cancel_35 rfl (lv_at hl 0 rfl) ?_
      refine lv_imul hx hb dX6_cancel_36 ?_
      refine lv_iadd hx hb dX6_cancel_37 ?_
      refine lv_iconst (v := 1) hx hb dX6_cancel_38 (by decide) ?_
      refine lv_iadd hx hb dX6_cancel_39 ?_
      obtain ⟨hi_6, h⟩ := h
      refine k_ald (f := (u_5 0)) (j := (((20 + (2 * r_3)) + 1)).toNatClampNeg) (v := ((u_5 0) ((((20 + (2 * r_3)) + 1)).toNatClampNeg))) hx hb hK hP 1 0 rfl rfl hi_6 rfl rfl dX6_cancel_40 ?_
      refine lv_istore_n (lv' := [(3, .int ((u_5 0) ((((20 + (2 * r_3)) + 1)).toNatClampNeg))), (2, .int r_3), (0, .ref (q 0)), (1, .int x)]) hx hb dX6_cancel_41 rfl hl (by decide) rfl (fun ls hl => ?_)
      refine lv_aload_n hx hb dX6_cancel_42 rfl (lv_at hl 2 rfl) ?_
      refine lv_iload_n hx hb dX6_cancel_43 rfl (lv_at hl 1 rfl) ?_
      refine kc_v (As := [.int r_3]) (rest := []) (wg := (fun u => (wM cI q u))) ⟨hx, hb, hml, hown, hts⟩ (c_X6_dropsOrder l G cI cC cD q _ u_5 r_3 _ h) (cwV 1 hts gX6_cancel_X6_dropsOrder rfl rfl rfl (by decide +kernel) ⟨Nat.le_of_ble_eq_true rfl, Nat.le_of_ble_eq_true rfl⟩) hK hN hP hD hS hA (em_MM cI q u_5) (fun u => rp_MM cI q u_5 u) rfl rfl rfl rfl hl.1 rfl (Nat.le_of_ble_eq_true rfl) dX6_cancel_44 ⟨Nat.zero_le _, Nat.zero_le _⟩ (fun u_7 H locs h hP hD hS => ?_)
      refine lv_iload_n hx hb dX6_cancel_47 rfl (lv_at hl 0 rfl) ?_
      exact W.iret (v := ((u_5 0) ((((20 + (2 * r_3)) + 1)).toNatClampNeg))) hx hb hr (fun t ht hW => ⟨⟨((u_5 0) ((((20 + (2 * r_3)) + 1)).toNatClampNeg)), u_7, rfl, h, by rw [ht]; exact hP, hD⟩, hS.F ht⟩) hS.2.2 dX6_cancel_48
    · have h := h.2 c_4
      refine lv_ldc hx hb hown (hts (.constant RX6 112 (-1000002)) (by decide +kernel)) dX6_cancel_21 ?_
      exact W.iret (v := (-1000002)) hx hb hr (fun t ht hW => ⟨⟨(-1000002), M, rfl, h, by rw [ht]; exact hP, hD⟩, hS.F ht⟩) hS.2.2 dX6_cancel_23
  · have h := h.1 c_2
    refine lv_ldc hx hb hown (hts (.constant RX6 103 (-1000001)) (by decide +kernel)) dX6_cancel_8 ?_
    exact W.iret (v := (-1000001)) hx hb hr (fun t ht hW => ⟨⟨(-1000001), M, rfl, h, by rw [ht]; exact hP, hD⟩, hS.F ht⟩) hS.2.2 dX6_cancel_10
def q_X6_sets (x : Int32) (y : Int32) (M : St) (Q : Int32 → St → Prop) : Prop :=
  q_X6_changes M (fun u_1 => vp_in x 86 ∧ (Q ((u_1 0) ((x).toNatClampNeg)) (uA u_1 0 (upd (u_1 0) ((x).toNatClampNeg) y))))
set_option maxHeartbeats 4000000 in
set_option maxRecDepth 100000 in
theorem c_X6_sets (l : Launch) (G : va_G) (cI cC cD : ClassId) (q : Nat → Nat) (sz : Nat) (M : St) (x : Int32) (y : Int32) (Q : Int32 → St → Prop) (h : q_X6_sets x y M Q) : Met l yX6_sets wsX6_sets ({ frames := 1, cells := 0, slots := 0, locals := 21 }) (va_Pc [.ref (q 0), .int x, .int y] (PW G (ty3 cI cC cD) (wM cI q M) sz)) (va_Qi Q (BW G (fun u : St => (wM cI q u)) (va_A (wM cI q M) sz)) (va_A (wM cI q M) sz)) 0 0 (va_A (wM cI q M) sz) := by
  refine Met.ofW (cc := cX6_sets) (maxL := 4) (ret := (some .int)) (by decide) rfl ?_
  intro p e s m args below meth c s₁ B hml hv
  obtain ⟨rfl, hsz, hP, hK, hD0, hN⟩ := hv
  have hx := B.exec
  have hb := B.bytes
  have hr := B.returns
  have hts := atoms_spec (ws := wsX6_sets) B.pre
  have hown : s.vm.findClass RX6 = some m.cls := findClass_of_methodNamed B.named
  have hlocks := B.notSynchronized
  subst hsz
  have hD := hD0.self (sz := s.heap.size)
  generalize hAe : va_A (wM cI q M) s.heap.size = A at hD ⊢
  have hA : ∀ q : Nat, s.heap.size ≤ q → A q := fun q h => by rw [← hAe]; exact Or.inr h
  have hS : va_S A s.heap s.heap [] := va_S.rf
  have hl := lv_entry ([.ref (q 0), .int x, .int y]) (n := 4) (Nat.le_of_ble_eq_true rfl)
  rw [lg_entry_eq]
  generalize (lg_sl ([.ref (q 0), .int x, .int y]) ++ List.replicate (4 - (lg_sl ([.ref (q 0), .int x, .int y])).length) Slot.unset).toArray = ls at hl ⊢
  have hl : lv_has ls 4 [(0, .ref (q 0)), (1, .int x), (2, .int y)] := hl
  have hinX6 : ∀ w ∈ wsX60, w ∈ wsX6_sets := by decide +kernel
  have hL7 := hts (.fieldLink RX6 7 "CraneGatesModel" "s" "[I") (by decide +kernel)
  unfold q_X6_sets at h
  refine lv_aload_n hx hb dX6_sets_0 rfl (lv_at hl 0 rfl) ?_
  refine kc_v (As := []) (rest := []) (wg := (fun u => (wM cI q u))) ⟨hx, hb, hml, hown, hts⟩ (c_X6_changes l G cI cC cD q _ M  _ h) (cwV 0 hts gX6_sets_X6_changes rfl rfl rfl (by decide +kernel) ⟨Nat.le_of_ble_eq_true rfl, Nat.le_of_ble_eq_true rfl⟩) hK hN hP hD hS hA (em_MM cI q M) (fun u => rp_MM cI q M u) rfl rfl rfl rfl hl.1 rfl (Nat.le_of_ble_eq_true rfl) dX6_sets_1 ⟨Nat.zero_le _, Nat.zero_le _⟩ (fun u_1 H locs h hP hD hS => ?_)
  refine lv_aload_n hx hb dX6_sets_4 rfl (lv_at hl 0 rfl) ?_
  refine va_get (D := G) (ci := 6) (v := .ref (q 1)) (C := RX6) (T := TX6) (N := 11) hx hb hts hinX6 hown hK hP 0 rfl rfl 0 (by decide) hL7 (fun _ h9 => h9) rfl dX6_sets_5 ?_
  refine lv_iload_n hx hb dX6_sets_8 rfl (lv_at hl 1 rfl) ?_
  obtain ⟨hi_2, h⟩ := h
  refine k_ald (f := (u_1 0)) (j := (x).toNatClampNeg) (v := ((u_1 0) ((x).toNatClampNeg))) hx hb hK hP 1 0 rfl rfl hi_2 rfl rfl dX6_sets_9 ?_
  refine lv_istore_n (lv' := [(3, .int ((u_1 0) ((x).toNatClampNeg))), (0, .ref (q 0)), (1, .int x), (2, .int y)]) hx hb dX6_sets_10 rfl hl (by decide) rfl (fun ls hl => ?_)
  refine lv_aload_n hx hb dX6_sets_11 rfl (lv_at hl 1 rfl) ?_
  refine va_get (D := G) (ci := 6) (v := .ref (q 1)) (C := RX6) (T := TX6) (N := 11) hx hb hts hinX6 hown hK hP 0 rfl rfl 0 (by decide) hL7 (fun _ h9 => h9) rfl dX6_sets_12 ?_
  refine lv_iload_n hx hb dX6_sets_15 rfl (lv_at hl 2 rfl) ?_
  refine lv_iload_n hx hb dX6_sets_16 rfl (lv_at hl 3 rfl) ?_
  refine k_ast (f := (u_1 0)) (j := (x).toNatClampNeg) (ws' := (wM cI q (uA u_1 0 (upd (u_1 0) ((x).toNatClampNeg) y)))) hx hb hK hP hD hS 1 0 rfl rfl hi_2 rfl dX6_sets_17 (st_M_0 cI q u_1 (upd (u_1 0) ((x).toNatClampNeg) y)) (fun H locs hP hD hS => ?_)
  refine lv_iload_n hx hb dX6_sets_18 rfl (lv_at hl 0 rfl) ?_
  exact W.iret (v := ((u_1 0) ((x).toNatClampNeg))) hx hb hr (fun t ht hW => ⟨⟨((u_1 0) ((x).toNatClampNeg)), (uA u_1 0 (upd (u_1 0) ((x).toNatClampNeg) y)), rfl, h, by rw [ht]; exact hP, hD⟩, hS.F ht⟩) hS.2.2 dX6_sets_19
def q_X6_inflow (x : Int32) (M : St) (Q : Int32 → St → Prop) : Prop :=
  q_X6_in x 0 300 (fun r_1 => (r_1 = 0 → Q (-1000001) M) ∧ (¬ (r_1 = 0) → q_X6_sets 5 x M (fun r_3 u_4 => Q r_3 u_4)))
set_option maxHeartbeats 4000000 in
set_option maxRecDepth 100000 in
theorem c_X6_inflow (l : Launch) (G : va_G) (cI cC cD : ClassId) (q : Nat → Nat) (sz : Nat) (M : St) (x : Int32) (Q : Int32 → St → Prop) (h : q_X6_inflow x M Q) : Met l yX6_inflow wsX6_inflow ({ frames := 2, cells := 0, slots := 0, locals := 44 }) (va_Pc [.ref (q 0), .int x] (PW G (ty3 cI cC cD) (wM cI q M) sz)) (va_Qi Q (BW G (fun u : St => (wM cI q u)) (va_A (wM cI q M) sz)) (va_A (wM cI q M) sz)) 0 0 (va_A (wM cI q M) sz) := by
  refine Met.ofW (cc := cX6_inflow) (maxL := 2) (ret := (some .int)) (by decide) rfl ?_
  intro p e s m args below meth c s₁ B hml hv
  obtain ⟨rfl, hsz, hP, hK, hD0, hN⟩ := hv
  have hx := B.exec
  have hb := B.bytes
  have hr := B.returns
  have hts := atoms_spec (ws := wsX6_inflow) B.pre
  have hown : s.vm.findClass RX6 = some m.cls := findClass_of_methodNamed B.named
  have hlocks := B.notSynchronized
  subst hsz
  have hD := hD0.self (sz := s.heap.size)
  generalize hAe : va_A (wM cI q M) s.heap.size = A at hD ⊢
  have hA : ∀ q : Nat, s.heap.size ≤ q → A q := fun q h => by rw [← hAe]; exact Or.inr h
  have hS : va_S A s.heap s.heap [] := va_S.rf
  have hl := lv_entry ([.ref (q 0), .int x]) (n := 2) (Nat.le_of_ble_eq_true rfl)
  rw [lg_entry_eq]
  generalize (lg_sl ([.ref (q 0), .int x]) ++ List.replicate (2 - (lg_sl ([.ref (q 0), .int x])).length) Slot.unset).toArray = ls at hl ⊢
  have hl : lv_has ls 2 [(0, .ref (q 0)), (1, .int x)] := hl
  unfold q_X6_inflow at h
  refine lv_iload_n hx hb dX6_inflow_0 rfl (lv_at hl 1 rfl) ?_
  refine lv_iconst (v := 0) hx hb dX6_inflow_1 (by decide) ?_
  refine lv_sipush (v := 300) hx hb dX6_inflow_2 (by decide) ?_
  refine ks_i (As := [.int x, .int 0, .int 300]) (rest := []) (wg := (fun _ => (wM cI q M))) ⟨hx, hb, hml, hown, hts⟩ (c_X6_in l G cI cC cD  _  x 0 300 _ h) (va_cwS 3 hts gX6_inflow_X6_in rfl rfl rfl (by decide +kernel) ⟨Nat.le_of_ble_eq_true rfl, Nat.le_of_ble_eq_true rfl⟩) hK hN hP hD hS hA (em_0 _) (fun _ => rp_self (em_0 _)) rfl hl.1 rfl (Nat.le_of_ble_eq_true rfl) dX6_inflow_5 ⟨Nat.zero_le _, Nat.zero_le _⟩ (fun r_1 _ H locs h hP hD hS => ?_)
  refine lv_if_eq (tgt := 20) hx hb dX6_inflow_8 (by decide) (fun c_2 => ?_) (fun c_2 => ?_)
  · have h := h.1 c_2
    refine lv_ldc hx hb hown (hts (.constant RX6 103 (-1000001)) (by decide +kernel)) dX6_inflow_20 ?_
    exact W.iret (v := (-1000001)) hx hb hr (fun t ht hW => ⟨⟨(-1000001), M, rfl, h, by rw [ht]; exact hP, hD⟩, hS.F ht⟩) hS.2.2 dX6_inflow_22
  · have h := h.2 c_2
    refine lv_aload_n hx hb dX6_inflow_11 rfl (lv_at hl 0 rfl) ?_
    refine lv_iconst (v := 5) hx hb dX6_inflow_12 (by decide) ?_
    refine lv_iload_n hx hb dX6_inflow_13 rfl (lv_at hl 1 rfl) ?_
    refine kc_i (As := [.int 5, .int x]) (rest := []) (wg := (fun u => (wM cI q u))) ⟨hx, hb, hml, hown, hts⟩ (c_X6_sets l G cI cC cD q _ M 5 x _ h) (cwV 2 hts gX6_inflow_X6_sets rfl rfl rfl (by decide +kernel) ⟨Nat.le_of_ble_eq_true rfl, Nat.le_of_ble_eq_true rfl⟩) hK hN hP hD hS hA (em_MM cI q M) (fun u => rp_MM cI q M u) rfl rfl rfl rfl hl.1 rfl (Nat.le_of_ble_eq_true rfl) dX6_inflow_14 ⟨Nat.zero_le _, Nat.zero_le _⟩ (fun r_3 u_4 H locs h hP hD hS => ?_)
    refine lv_goto (tgt := 22) hx hb dX6_inflow_17 (by decide) ?_
    exact W.iret (v := r_3) hx hb hr (fun t ht hW => ⟨⟨r_3, u_4, rfl, h, by rw [ht]; exact hP, hD⟩, hS.F ht⟩) hS.2.2 dX6_inflow_22
