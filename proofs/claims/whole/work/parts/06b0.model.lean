def q_X6_marks (x : Int32) (y : Int32) (M : St) (Q : St → Prop) : Prop :=
  q_X6_markOf x M (fun r_1 => (r_1 < 0 → (((M 0) 11) = 4 → ∃ (I_20 : Nat → Int32 → St → Prop) (n_24 : Nat), I_20 n_24 ((36 + (2 * ((upd (M 0) 11 (((M 0) 11) - 1)) 11))) + 1) (uA M 0 (upd (M 0) 11 (((M 0) 11) - 1))) ∧ ∀ (n_19 : Nat) (x4_21 : Int32) (D_22 : St), I_20 n_19 x4_21 D_22 → ((x4_21 < 38 → Q (uA (uA (uA D_22 0 (upd (D_22 0) 36 x)) 0 (upd (upd (D_22 0) 36 x) 37 y)) 0 (upd (upd (upd (D_22 0) 36 x) 37 y) 11 (((upd (upd (D_22 0) 36 x) 37 y) 11) + 1)))) ∧ (¬ (x4_21 < 38) → vp_in (x4_21 - 2) 86 ∧ (vp_in x4_21 86 ∧ (∃ n_31, n_31 < n_19 ∧ I_20 n_31 (x4_21 + (-1)) (uA D_22 0 (upd (D_22 0) ((x4_21).toNatClampNeg) ((D_22 0) (((x4_21 - 2)).toNatClampNeg))))))))) ∧ (¬ (((M 0) 11) = 4) → ∃ (I_5 : Nat → Int32 → St → Prop) (n_9 : Nat), I_5 n_9 ((36 + (2 * ((M 0) 11))) + 1) M ∧ ∀ (n_4 : Nat) (x4_6 : Int32) (D_7 : St), I_5 n_4 x4_6 D_7 → ((x4_6 < 38 → Q (uA (uA (uA D_7 0 (upd (D_7 0) 36 x)) 0 (upd (upd (D_7 0) 36 x) 37 y)) 0 (upd (upd (upd (D_7 0) 36 x) 37 y) 11 (((upd (upd (D_7 0) 36 x) 37 y) 11) + 1)))) ∧ (¬ (x4_6 < 38) → vp_in (x4_6 - 2) 86 ∧ (vp_in x4_6 86 ∧ (∃ n_16, n_16 < n_4 ∧ I_5 n_16 (x4_6 + (-1)) (uA D_7 0 (upd (D_7 0) ((x4_6).toNatClampNeg) ((D_7 0) (((x4_6 - 2)).toNatClampNeg)))))))))) ∧ (¬ (r_1 < 0) → q_X6_dropsMark r_1 M (fun u_34 => (((u_34 0) 11) = 4 → ∃ (I_52 : Nat → Int32 → St → Prop) (n_56 : Nat), I_52 n_56 ((36 + (2 * ((upd (u_34 0) 11 (((u_34 0) 11) - 1)) 11))) + 1) (uA u_34 0 (upd (u_34 0) 11 (((u_34 0) 11) - 1))) ∧ ∀ (n_51 : Nat) (x4_53 : Int32) (D_54 : St), I_52 n_51 x4_53 D_54 → ((x4_53 < 38 → Q (uA (uA (uA D_54 0 (upd (D_54 0) 36 x)) 0 (upd (upd (D_54 0) 36 x) 37 y)) 0 (upd (upd (upd (D_54 0) 36 x) 37 y) 11 (((upd (upd (D_54 0) 36 x) 37 y) 11) + 1)))) ∧ (¬ (x4_53 < 38) → vp_in (x4_53 - 2) 86 ∧ (vp_in x4_53 86 ∧ (∃ n_63, n_63 < n_51 ∧ I_52 n_63 (x4_53 + (-1)) (uA D_54 0 (upd (D_54 0) ((x4_53).toNatClampNeg) ((D_54 0) (((x4_53 - 2)).toNatClampNeg))))))))) ∧ (¬ (((u_34 0) 11) = 4) → ∃ (I_37 : Nat → Int32 → St → Prop) (n_41 : Nat), I_37 n_41 ((36 + (2 * ((u_34 0) 11))) + 1) u_34 ∧ ∀ (n_36 : Nat) (x4_38 : Int32) (D_39 : St), I_37 n_36 x4_38 D_39 → ((x4_38 < 38 → Q (uA (uA (uA D_39 0 (upd (D_39 0) 36 x)) 0 (upd (upd (D_39 0) 36 x) 37 y)) 0 (upd (upd (upd (D_39 0) 36 x) 37 y) 11 (((upd (upd (D_39 0) 36 x) 37 y) 11) + 1)))) ∧ (¬ (x4_38 < 38) → vp_in (x4_38 - 2) 86 ∧ (vp_in x4_38 86 ∧ (∃ n_48, n_48 < n_36 ∧ I_37 n_48 (x4_38 + (-1)) (uA D_39 0 (upd (D_39 0) ((x4_38).toNatClampNeg) ((D_39 0) (((x4_38 - 2)).toNatClampNeg))))))))))))
set_option maxHeartbeats 4000000 in
set_option maxRecDepth 100000 in
theorem c_X6_marks (l : Launch) (G : va_G) (cI cC cD : ClassId) (q : Nat → Nat) (sz : Nat) (M : St) (x : Int32) (y : Int32) (Q : St → Prop) (h : q_X6_marks x y M Q) : Met l yX6_marks wsX6_marks ({ frames := 2, cells := 0, slots := 0, locals := 46 }) (va_Pc [.ref (q 0), .int x, .int y] (PW G (ty3 cI cC cD) (wM cI q M) sz)) (va_Qv Q (BW G (fun u : St => (wM cI q u)) (va_A (wM cI q M) sz)) (va_A (wM cI q M) sz)) 0 0 (va_A (wM cI q M) sz) := by
  refine Met.ofW (cc := cX6_marks) (maxL := 5) (ret := none) (by decide) rfl ?_
  intro p e s m args below meth c s₁ B hml hv
  obtain ⟨rfl, hsz, hP, hK, hD0, hN⟩ := hv
  have hx := B.exec
  have hb := B.bytes
  have hr := B.returns
  have hts := atoms_spec (ws := wsX6_marks) B.pre
  have hown : s.vm.findClass RX6 = some m.cls := findClass_of_methodNamed B.named
  have hlocks := B.notSynchronized
  subst hsz
  have hD := hD0.self (sz := s.heap.size)
  generalize hAe : va_A (wM cI q M) s.heap.size = A at hD ⊢
  have hA : ∀ q : Nat, s.heap.size ≤ q → A q := fun q h => by rw [← hAe]; exact Or.inr h
  have hS : va_S A s.heap s.heap [] := va_S.rf
  have hl := lv_entry ([.ref (q 0), .int x, .int y]) (n := 5) (Nat.le_of_ble_eq_true rfl)
  rw [lg_entry_eq]
  generalize (lg_sl ([.ref (q 0), .int x, .int y]) ++ List.replicate (5 - (lg_sl ([.ref (q 0), .int x, .int y])).length) Slot.unset).toArray = ls at hl ⊢
  have hl : lv_has ls 5 [(0, .ref (q 0)), (1, .int x), (2, .int y)] := hl
  have hinX6 : ∀ w ∈ wsX60, w ∈ wsX6_marks := by decide +kernel
  have hL7 := hts (.fieldLink RX6 7 "CraneGatesModel" "s" "[I") (by decide +kernel)
  unfold q_X6_marks at h
  refine lv_aload_n hx hb dX6_marks_0 rfl (lv_at hl 0 rfl) ?_
  refine lv_iload_n hx hb dX6_marks_1 rfl (lv_at hl 1 rfl) ?_
  refine kc_i (As := [.int x]) (rest := []) (wg := (fun _ => (wM cI q M))) ⟨hx, hb, hml, hown, hts⟩ (c_X6_markOf l G cI cC cD q _ M x _ h) (cwV 1 hts gX6_marks_X6_markOf rfl rfl rfl (by decide +kernel) ⟨Nat.le_of_ble_eq_true rfl, Nat.le_of_ble_eq_true rfl⟩) hK hN hP hD hS hA (em_MM cI q M) (fun _ => rp_self (em_MM cI q M)) rfl rfl rfl rfl hl.1 rfl (Nat.le_of_ble_eq_true rfl) dX6_marks_2 ⟨Nat.zero_le _, Nat.zero_le _⟩ (fun r_1 _ H locs h hP hD hS => ?_)
  refine lv_istore_n (lv' := [(3, .int r_1), (0, .ref (q 0)), (1, .int x), (2, .int y)]) hx hb dX6_marks_5 rfl hl (by decide) rfl (fun ls hl => ?_)
  refine lv_iload_n hx hb dX6_marks_6 rfl (lv_at hl 0 rfl) ?_
  refine lv_if_lt (tgt := 15) hx hb dX6_marks_7 (by decide) (fun c_2 => ?_) (fun c_2 => ?_)
  · have h := h.1 c_2
    refine lv_aload_n hx hb dX6_marks_15 rfl (lv_at hl 1 rfl) ?_
    refine va_get (D := G) (ci := 6) (v := .ref (q 1)) (C := RX6) (T := TX6) (N := 11) hx hb hts hinX6 hown hK hP 0 rfl rfl 0 (by decide) hL7 (fun _ h9 => h9) rfl dX6_marks_16 ?_
    refine lv_bipush (v := 11) hx hb dX6_marks_19 (by decide) ?_
    refine k_ald (f := (M 0)) (j := 11) (v := ((M 0) 11)) hx hb hK hP 1 0 rfl rfl (show ¬ ((11 : Int32) < 0 ∨ 86 ≤ (11 : Int32).toNatClampNeg) by decide) rfl rfl dX6_marks_21 ?_
    refine lv_iconst (v := 4) hx hb dX6_marks_22 (by decide) ?_
    refine lv_icmp_ne (tgt := 37) hx hb dX6_marks_23 (by decide) (fun c_3 => ?_) (fun c_3 => ?_)
    · have h := h.2 c_3
      refine lv_bipush (v := 36) hx hb dX6_marks_37 (by decide) ?_
      refine lv_iconst (v := 2) hx hb dX6_marks_39 (by decide) ?_
      refine lv_aload_n hx hb dX6_marks_40 rfl (lv_at hl 1 rfl) ?_
      refine va_get (D := G) (ci := 6) (v := .ref (q 1)) (C := RX6) (T := TX6) (N := 11) hx hb hts hinX6 hown hK hP 0 rfl rfl 0 (by decide) hL7 (fun _ h9 => h9) rfl dX6_marks_41 ?_
      refine lv_bipush (v := 11) hx hb dX6_marks_44 (by decide) ?_
      refine k_ald (f := (M 0)) (j := 11) (v := ((M 0) 11)) hx hb hK hP 1 0 rfl rfl (show ¬ ((11 : Int32) < 0 ∨ 86 ≤ (11 : Int32).toNatClampNeg) by decide) rfl rfl dX6_marks_46 ?_
      refine lv_imul hx hb dX6_marks_47 ?_
      refine lv_iadd hx hb dX6_marks_48 ?_
      refine lv_iconst (v := 1) hx hb dX6_marks_49 (by decide) ?_
      refine lv_iadd hx hb dX6_marks_50 ?_
      refine lv_istore (lv' := [(4, .int ((36 + (2 * ((M 0) 11))) + 1)), (3, .int r_1), (0, .ref (q 0)), (1, .int x), (2, .int y)]) hx hb dX6_marks_51 hl (by decide) rfl (fun ls hl => ?_)
      obtain ⟨I_5, n_9, h_10, hI_11⟩ := h
      have lp_12 : ∀ (n_4 : Nat) (x4_6 : Int32) (D_7 : St), I_5 n_4 x4_6 D_7 → ∀ (H : Heap) (locs : List Loc) (ls : Array Slot), va_P G vwCl (wM cI q D_7) H → va_D A (wM cI q D_7) → va_S A s.heap H locs → lv_has ls 5 [(4, .int x4_6), (3, .int r_1), (0, .ref (q 0)), (1, .int x), (2, .int y)] → W p l e (headSpec wsX6_marks ({ frames := 2, cells := 0, slots := 0, locals := 46 })).room s m ([.ref (q 0), .int x, .int y] : List Value).toArray below meth c H locs 0 0 (MQ below (va_Qv Q (BW G (fun u : St => (wM cI q u)) A) A) ([.ref (q 0), .int x, .int y] : List Value).toArray s 0 0 A) (F0 m 53 ls []) := by
        intro n_4
        induction n_4 using Nat.strongRecOn with
        | ind n_4 ih_8 =>
          intro x4_6 D_7 hIn H locs ls hP hD hS hl
          have h := hI_11 n_4 x4_6 D_7 hIn
          refine lv_iload hx hb dX6_marks_53 (lv_at hl 0 rfl) ?_
          refine lv_bipush (v := 38) hx hb dX6_marks_55 (by decide) ?_
          refine lv_icmp_lt (tgt := 82) hx hb dX6_marks_57 (by decide) (fun c_13 => ?_) (fun c_13 => ?_)
          · have h := h.1 c_13
            refine lv_aload_n hx hb dX6_marks_82 rfl (lv_at hl 2 rfl) ?_
            refine va_get (D := G) (ci := 6) (v := .ref (q 1)) (C := RX6) (T := TX6) (N := 11) hx hb hts hinX6 hown hK hP 0 rfl rfl 0 (by decide) hL7 (fun _ h9 => h9) rfl dX6_marks_83 ?_
            refine lv_bipush (v := 36) hx hb dX6_marks_86 (by decide) ?_
            refine lv_iload_n hx hb dX6_marks_88 rfl (lv_at hl 3 rfl) ?_
            refine k_ast (f := (D_7 0)) (j := 36) (ws' := (wM cI q (uA D_7 0 (upd (D_7 0) 36 x)))) hx hb hK hP hD hS 1 0 rfl rfl (show ¬ ((36 : Int32) < 0 ∨ 86 ≤ (36 : Int32).toNatClampNeg) by decide) rfl dX6_marks_89 (st_M_0 cI q D_7 (upd (D_7 0) 36 x)) (fun H locs hP hD hS => ?_)
            refine lv_aload_n hx hb dX6_marks_90 rfl (lv_at hl 2 rfl) ?_
            refine va_get (D := G) (ci := 6) (v := .ref (q 1)) (C := RX6) (T := TX6) (N := 11) hx hb hts hinX6 hown hK hP 0 rfl rfl 0 (by decide) hL7 (fun _ h9 => h9) rfl dX6_marks_91 ?_
            refine lv_bipush (v := 37) hx hb dX6_marks_94 (by decide) ?_
            refine lv_iload_n hx hb dX6_marks_96 rfl (lv_at hl 4 rfl) ?_
            refine k_ast (f := (upd (D_7 0) 36 x)) (j := 37) (ws' := (wM cI q (uA (uA D_7 0 (upd (D_7 0) 36 x)) 0 (upd (upd (D_7 0) 36 x) 37 y)))) hx hb hK hP hD hS 1 0 rfl rfl (show ¬ ((37 : Int32) < 0 ∨ 86 ≤ (37 : Int32).toNatClampNeg) by decide) rfl dX6_marks_97 (st_M_0 cI q (uA D_7 0 (upd (D_7 0) 36 x)) (upd (upd (D_7 0) 36 x) 37 y)) (fun H locs hP hD hS => ?_)
            refine lv_aload_n hx hb dX6_marks_98 rfl (lv_at hl 2 rfl) ?_
            refine va_get (D := G) (ci := 6) (v := .ref (q 1)) (C := RX6) (T := TX6) (N := 11) hx hb hts hinX6 hown hK hP 0 rfl rfl 0 (by decide) hL7 (fun _ h9 => h9) rfl dX6_marks_99 ?_
            refine lv_bipush (v := 11) hx hb dX6_marks_102 (by decide) ?_
            refine lv_dup2_11 hx hb dX6_marks_104 rfl rfl ?_
            refine k_ald (f := (upd (upd (D_7 0) 36 x) 37 y)) (j := 11) (v := ((upd (upd (D_7 0) 36 x) 37 y) 11)) hx hb hK hP 1 0 rfl rfl (show ¬ ((11 : Int32) < 0 ∨ 86 ≤ (11 : Int32).toNatClampNeg) by decide) rfl rfl dX6_marks_105 ?_
            refine lv_iconst (v := 1) hx hb dX6_marks_106 (by decide) ?_
            refine lv_iadd hx hb dX6_marks_107 ?_
            refine k_ast (f := (upd (upd (D_7 0) 36 x) 37 y)) (j := 11) (ws' := (wM cI q (uA (uA (uA D_7 0 (upd (D_7 0) 36 x)) 0 (upd (upd (D_7 0) 36 x) 37 y)) 0 (upd (upd (upd (D_7 0) 36 x) 37 y) 11 (((upd (upd (D_7 0) 36 x) 37 y) 11) + 1))))) hx hb hK hP hD hS 1 0 rfl rfl (show ¬ ((11 : Int32) < 0 ∨ 86 ≤ (11 : Int32).toNatClampNeg) by decide) rfl dX6_marks_108 (st_M_0 cI q (uA (uA D_7 0 (upd (D_7 0) 36 x)) 0 (upd (upd (D_7 0) 36 x) 37 y)) (upd (upd (upd (D_7 0) 36 x) 37 y) 11 (((upd (upd (D_7 0) 36 x) 37 y) 11) + 1))) (fun H locs hP hD hS => ?_)
            exact W.vret hx hb hr (fun t ht hW => ⟨⟨(uA (uA (uA D_7 0 (upd (D_7 0) 36 x)) 0 (upd (upd (D_7 0) 36 x) 37 y)) 0 (upd (upd (upd (D_7 0) 36 x) 37 y) 11 (((upd (upd (D_7 0) 36 x) 37 y) 11) + 1))), rfl, h, by rw [ht]; exact hP, hD⟩, hS.F ht⟩) hS.2.2 dX6_marks_109
          · have h := h.2 c_13
            refine lv_aload_n hx hb dX6_marks_60 rfl (lv_at hl 2 rfl) ?_
            refine va_get (D := G) (ci := 6) (v := .ref (q 1)) (C := RX6) (T := TX6) (N := 11) hx hb hts hinX6 hown hK hP 0 rfl rfl 0 (by decide) hL7 (fun _ h9 => h9) rfl dX6_marks_61 ?_
            refine lv_iload hx hb dX6_marks_64 (lv_at hl 0 rfl) ?_
            refine lv_aload_n hx hb dX6_marks_66 rfl (lv_at hl 2 rfl) ?_
            refine va_get (D := G) (ci := 6) (v := .ref (q 1)) (C := RX6) (T := TX6) (N := 11) hx hb hts hinX6 hown hK hP 0 rfl rfl 0 (by decide) hL7 (fun _ h9 => h9) rfl dX6_marks_67 ?_
            refine lv_iload hx hb dX6_marks_70 (lv_at hl 0 rfl) ?_
            refine lv_iconst (v := 2) hx hb dX6_marks_72 (by decide) ?_
            refine lv_isub hx hb dX6_marks_73 ?_
            obtain ⟨hi_14, h⟩ := h
            refine k_ald (f := (D_7 0)) (j := ((x4_6 - 2)).toNatClampNeg) (v := ((D_7 0) (((x4_6 - 2)).toNatClampNeg))) hx hb hK hP 1 0 rfl rfl hi_14 rfl rfl dX6_marks_74 ?_
            obtain ⟨hi_15, h⟩ := h
            refine k_ast (f := (D_7 0)) (j := (x4_6).toNatClampNeg) (ws' := (wM cI q (uA D_7 0 (upd (D_7 0) ((x4_6).toNatClampNeg) ((D_7 0) (((x4_6 - 2)).toNatClampNeg)))))) hx hb hK hP hD hS 1 0 rfl rfl hi_15 rfl dX6_marks_75 (st_M_0 cI q D_7 (upd (D_7 0) ((x4_6).toNatClampNeg) ((D_7 0) (((x4_6 - 2)).toNatClampNeg)))) (fun H locs hP hD hS => ?_)
            refine lv_iinc (v := x4_6 + (-1)) (lv' := [(4, .int (x4_6 + (-1))), (3, .int r_1), (0, .ref (q 0)), (1, .int x), (2, .int y)]) hx hb dX6_marks_76 hl (k := 0) rfl rfl (by decide) rfl (fun ls hl => ?_)
            refine lv_goto (tgt := 53) hx hb dX6_marks_79 (by decide) ?_
            obtain ⟨n_16, lt_17, h_18⟩ := h
            exact ih_8 n_16 lt_17 _ _ h_18 _ _ _ hP hD hS (lv_sub hl [0, 1, 2, 3, 4] rfl)
      exact lp_12 _ _ _ h_10 _ _ _ hP hD hS hl
    · have h := h.1 c_3
      refine lv_aload_n hx hb dX6_marks_26 rfl (lv_at hl 1 rfl) ?_
      refine va_get (D := G) (ci := 6) (v := .ref (q 1)) (C := RX6) (T := TX6) (N := 11) hx hb hts hinX6 hown hK hP 0 rfl rfl 0 (by decide) hL7 (fun _ h9 => h9) rfl dX6_marks_27 ?_
      refine lv_bipush (v := 11) hx hb dX6_marks_30 (by decide) ?_
      refine lv_dup2_11 hx hb dX6_marks_32 rfl rfl ?_
      refine k_ald (f := (M 0)) (j := 11) (v := ((M 0) 11)) hx hb hK hP 1 0 rfl rfl (show ¬ ((11 : Int32) < 0 ∨ 86 ≤ (11 : Int32).toNatClampNeg) by decide) rfl rfl dX6_marks_33 ?_
      refine lv_iconst (v := 1) hx hb dX6_marks_34 (by decide) ?_
      refine lv_isub hx hb dX6_marks_35 ?_
      refine k_ast (f := (M 0)) (j := 11) (ws' := (wM cI q (uA M 0 (upd (M 0) 11 (((M 0) 11) - 1))))) hx hb hK hP hD hS 1 0 rfl rfl (show ¬ ((11 : Int32) < 0 ∨ 86 ≤ (11 : Int32).toNatClampNeg) by decide) rfl dX6_marks_36 (st_M_0 cI q M (upd (M 0) 11 (((M 0) 11) - 1))) (fun H locs hP hD hS => ?_)
      refine lv_bipush (v := 36) hx hb dX6_marks_37 (by decide) ?_
      refine lv_iconst (v := 2) hx hb dX6_marks_39 (by decide) ?_
      refine lv_aload_n hx hb dX6_marks_40 rfl (lv_at hl 1 rfl) ?_
      refine va_get (D := G) (ci := 6) (v := .ref (q 1)) (C := RX6) (T := TX6) (N := 11) hx hb hts hinX6 hown hK hP 0 rfl rfl 0 (by decide) hL7 (fun _ h9 => h9) rfl dX6_marks_41 ?_
      refine lv_bipush (v := 11) hx hb dX6_marks_44 (by decide) ?_
      refine k_ald (f := (upd (M 0) 11 (((M 0) 11) - 1))) (j := 11) (v := ((upd (M 0) 11 (((M 0) 11) - 1)) 11)) hx hb hK hP 1 0 rfl rfl (show ¬ ((11 : Int32) < 0 ∨ 86 ≤ (11 : Int32).toNatClampNeg) by decide) rfl rfl dX6_marks_46 ?_
      refine lv_imul hx hb dX6_marks_47 ?_
      refine lv_iadd hx hb dX6_marks_48 ?_
      refine lv_iconst (v := 1) hx hb dX6_marks_49 (by decide) ?_
      refine lv_iadd hx hb dX6_marks_50 ?_
      refine lv_istore (lv' := [(4, .int ((36 + (2 * ((upd (M 0) 11 (((M 0) 11) - 1)) 11))) + 1)), (3, .int r_1), (0, .ref (q 0)), (1, .int x), (2, .int y)]) hx hb dX6_marks_51 hl (by decide) rfl (fun ls hl => ?_)
      obtain ⟨I_20, n_24, h_25, hI_26⟩ := h
      have lp_27 : ∀ (n_19 : Nat) (x4_21 : Int32) (D_22 : St), I_20 n_19 x4_21 D_22 → ∀ (H : Heap) (locs : List Loc) (ls : Array Slot), va_P G vwCl (wM cI q D_22) H → va_D A (wM cI q D_22) → va_S A s.heap H locs → lv_has ls 5 [(4, .int x4_21), (3, .int r_1), (0, .ref (q 0)), (1, .int x), (2, .int y)] → W p l e (headSpec wsX6_marks ({ frames := 2, cells := 0, slots := 0, locals := 46 })).room s m ([.ref (q 0), .int x, .int y] : List Value).toArray below meth c H locs 0 0 (MQ below (va_Qv Q (BW G (fun u : St => (wM cI q u)) A) A) ([.ref (q 0), .int x, .int y] : List Value).toArray s 0 0 A) (F0 m 53 ls []) := by
        intro n_19
        induction n_19 using Nat.strongRecOn with
        | ind n_19 ih_23 =>
          intro x4_21 D_22 hIn H locs ls hP hD hS hl
          have h := hI_26 n_19 x4_21 D_22 hIn
          refine lv_iload hx hb dX6_marks_53 (lv_at hl 0 rfl) ?_
          refine lv_bipush (v := 38) hx hb dX6_marks_55 (by decide) ?_
          refine lv_icmp_lt (tgt := 82) hx hb dX6_marks_57 (by decide) (fun c_28 => ?_) (fun c_28 => ?_)
          · have h := h.1 c_28
            refine lv_aload_n hx hb dX6_marks_82 rfl (lv_at hl 2 rfl) ?_
            refine va_get (D := G) (ci := 6) (v := .ref (q 1)) (C := RX6) (T := TX6) (N := 11) hx hb hts hinX6 hown hK hP 0 rfl rfl 0 (by decide) hL7 (fun _ h9 => h9) rfl dX6_marks_83 ?_
            refine lv_bipush (v := 36) hx hb dX6_marks_86 (by decide) ?_
            refine lv_iload_n hx hb dX6_marks_88 rfl (lv_at hl 3 rfl) ?_
            refine k_ast (f := (D_22 0)) (j := 36) (ws' := (wM cI q (uA D_22 0 (upd (D_22 0) 36 x)))) hx hb hK hP hD hS 1 0 rfl rfl (show ¬ ((36 : Int32) < 0 ∨ 86 ≤ (36 : Int32).toNatClampNeg) by decide) rfl dX6_marks_89 (st_M_0 cI q D_22 (upd (D_22 0) 36 x)) (fun H locs hP hD hS => ?_)
            refine lv_aload_n hx hb dX6_marks_90 rfl (lv_at hl 2 rfl) ?_
            refine va_get (D := G) (ci := 6) (v := .ref (q 1)) (C := RX6) (T := TX6) (N := 11) hx hb hts hinX6 hown hK hP 0 rfl rfl 0 (by decide) hL7 (fun _ h9 => h9) rfl dX6_marks_91 ?_
            refine lv_bipush (v := 37) hx hb dX6_marks_94 (by decide) ?_
            refine lv_iload_n hx hb dX6_marks_96 rfl (lv_at hl 4 rfl) ?_
            refine k_ast (f := (upd (D_22 0) 36 x)) (j := 37) (ws' := (wM cI q (uA (uA D_22 0 (upd (D_22 0) 36 x)) 0 (upd (upd (D_22 0) 36 x) 37 y)))) hx hb hK hP hD hS 1 0 rfl rfl (show ¬ ((37 : Int32) < 0 ∨ 86 ≤ (37 : Int32).toNatClampNeg) by decide) rfl dX6_marks_97 (st_M_0 cI q (uA D_22 0 (upd (D_22 0) 36 x)) (upd (upd (D_22 0) 36 x) 37 y)) (fun H locs hP hD hS => ?_)
            refine lv_aload_n hx hb dX6_marks_98 rfl (lv_at hl 2 rfl) ?_
            refine va_get (D := G) (ci := 6) (v := .ref (q 1)) (C := RX6) (T := TX6) (N := 11) hx hb hts hinX6 hown hK hP 0 rfl rfl 0 (by decide) hL7 (fun _ h9 => h9) rfl dX6_marks_99 ?_
            refine lv_bipush (v := 11) hx hb dX6_marks_102 (by decide) ?_
            refine lv_dup2_11 hx hb dX6_marks_104 rfl rfl ?_
            refine k_ald (f := (upd (upd (D_22 0) 36 x) 37 y)) (j := 11) (v := ((upd (upd (D_22 0) 36 x) 37 y) 11)) hx hb hK hP 1 0 rfl rfl (show ¬ ((11 : Int32) < 0 ∨ 86 ≤ (11 : Int32).toNatClampNeg) by decide) rfl rfl dX6_marks_105 ?_
            refine lv_iconst (v := 1) hx hb dX6_marks_106 (by decide) ?_
            refine lv_iadd hx hb dX6_marks_107 ?_
            refine k_ast (f := (upd (upd (D_22 0) 36 x) 37 y)) (j := 11) (ws' := (wM cI q (uA (uA (uA D_22 0 (upd (D_22 0) 36 x)) 0 (upd (upd (D_22 0) 36 x) 37 y)) 0 (upd (upd (upd (D_22 0) 36 x) 37 y) 11 (((upd (upd (D_22 0) 36 x) 37 y) 11) + 1))))) hx hb hK hP hD hS 1 0 rfl rfl (show ¬ ((11 : Int32) < 0 ∨ 86 ≤ (11 : Int32).toNatClampNeg) by decide) rfl dX6_marks_108 (st_M_0 cI q (uA (uA D_22 0 (upd (D_22 0) 36 x)) 0 (upd (upd (D_22 0) 36 x) 37 y)) (upd (upd (upd (D_22 0) 36 x) 37 y) 11 (((upd (upd (D_22 0) 36 x) 37 y) 11) + 1))) (fun H locs hP hD hS => ?_)
            exact W.vret hx hb hr (fun t ht hW => ⟨⟨(uA (uA (uA D_22 0 (upd (D_22 0) 36 x)) 0 (upd (upd (D_22 0) 36 x) 37 y)) 0 (upd (upd (upd (D_22 0) 36 x) 37 y) 11 (((upd (upd (D_22 0) 36 x) 37 y) 11) + 1))), rfl, h, by rw [ht]; exact hP, hD⟩, hS.F ht⟩) hS.2.2 dX6_marks_109
          · have h := h.2 c_28
            refine lv_aload_n hx hb dX6_marks_60 rfl (lv_at hl 2 rfl) ?_
            refine va_get (D := G) (ci := 6) (v := .ref (q 1)) (C := RX6) (T := TX6) (N := 11) hx hb hts hinX6 hown hK hP 0 rfl rfl 0 (by decide) hL7 (fun _ h9 => h9) rfl dX6_marks_61 ?_
            refine lv_iload hx hb dX6_marks_64 (lv_at hl 0 rfl) ?_
            refine lv_aload_n hx hb dX6_marks_66 rfl (lv_at hl 2 rfl) ?_
            refine va_get (D := G) (ci := 6) (v := .ref (q 1)) (C := RX6) (T := TX6) (N := 11) hx hb hts hinX6 hown hK hP 0 rfl rfl 0 (by decide) hL7 (fun _ h9 => h9) rfl dX6_marks_67 ?_
            refine lv_iload hx hb dX6_marks_70 (lv_at hl 0 rfl) ?_
            refine lv_iconst (v := 2) hx hb dX6_marks_72 (by decide) ?_
            refine lv_isub hx hb dX6_marks_73 ?_
            obtain ⟨hi_29, h⟩ := h
            refine k_ald (f := (D_22 0)) (j := ((x4_21 - 2)).toNatClampNeg) (v := ((D_22 0) (((x4_21 - 2)).toNatClampNeg))) hx hb hK hP 1 0 rfl rfl hi_29 rfl rfl dX6_marks_74 ?_
            obtain ⟨hi_30, h⟩ := h
            refine k_ast (f := (D_22 0)) (j := (x4_21).toNatClampNeg) (ws' := (wM cI q (uA D_22 0 (upd (D_22 0) ((x4_21).toNatClampNeg) ((D_22 0) (((x4_21 - 2)).toNatClampNeg)))))) hx hb hK hP hD hS 1 0 rfl rfl hi_30 rfl dX6_marks_75 (st_M_0 cI q D_22 (upd (D_22 0) ((x4_21).toNatClampNeg) ((D_22 0) (((x4_21 - 2)).toNatClampNeg)))) (fun H locs hP hD hS => ?_)
            refine lv_iinc (v := x4_21 + (-1)) (lv' := [(4, .int (x4_21 + (-1))), (3, .int r_1), (0, .ref (q 0)), (1, .int x), (2, .int y)]) hx hb dX6_marks_76 hl (k := 0) rfl rfl (by decide) rfl (fun ls hl => ?_)
            refine lv_goto (tgt := 53) hx hb dX6_marks_79 (by decide) ?_
            obtain ⟨n_31, lt_32, h_33⟩ := h
            exact ih_23 n_31 lt_32 _ _ h_33 _ _ _ hP hD hS (lv_sub hl [0, 1, 2, 3, 4] rfl)
      exact lp_27 _ _ _ h_25 _ _ _ hP hD hS hl
  · have h := h.2 c_2
    refine lv_aload_n hx hb dX6_marks_10 rfl (lv_at hl 1 rfl) ?_
    refine lv_iload_n hx hb dX6_marks_11 rfl (lv_at hl 0 rfl) ?_
    refine kc_v (As := [.int r_1]) (rest := []) (wg := (fun u => (wM cI q u))) ⟨hx, hb, hml, hown, hts⟩ (c_X6_dropsMark l G cI cC cD q _ M r_1 _ h) (cwV 1 hts gX6_marks_X6_dropsMark rfl rfl rfl (by decide +kernel) ⟨Nat.le_of_ble_eq_true rfl, Nat.le_of_ble_eq_true rfl⟩) hK hN hP hD hS hA (em_MM cI q M) (fun u => rp_MM cI q M u) rfl rfl rfl rfl hl.1 rfl (Nat.le_of_ble_eq_true rfl) dX6_marks_12 ⟨Nat.zero_le _, Nat.zero_le _⟩ (fun u_34 H locs h hP hD hS => ?_)
    refine lv_aload_n hx hb dX6_marks_15 rfl (lv_at hl 1 rfl) ?_
    refine va_get (D := G) (ci := 6) (v := .ref (q 1)) (C := RX6) (T := TX6) (N := 11) hx hb hts hinX6 hown hK hP 0 rfl rfl 0 (by decide) hL7 (fun _ h9 => h9) rfl dX6_marks_16 ?_
    refine lv_bipush (v := 11) hx hb dX6_marks_19 (by decide) ?_
    refine k_ald (f := (u_34 0)) (j := 11) (v := ((u_34 0) 11)) hx hb hK hP 1 0 rfl rfl (show ¬ ((11 : Int32) < 0 ∨ 86 ≤ (11 : Int32).toNatClampNeg) by decide) rfl rfl dX6_marks_21 ?_
    refine lv_iconst (v := 4) hx hb dX6_marks_22 (by decide) ?_
    refine lv_icmp_ne (tgt := 37) hx hb dX6_marks_23 (by decide) (fun c_35 => ?_) (fun c_35 => ?_)
    · have h := h.2 c_35
      refine lv_bipush (v := 36) hx hb dX6_marks_37 (by decide) ?_
      refine lv_iconst (v := 2) hx hb dX6_marks_39 (by decide) ?_
      refine lv_aload_n hx hb dX6_marks_40 rfl (lv_at hl 1 rfl) ?_
      refine va_get (D := G) (ci := 6) (v := .ref (q 1)) (C := RX6) (T := TX6) (N := 11) hx hb hts hinX6 hown hK hP 0 rfl rfl 0 (by decide) hL7 (fun _ h9 => h9) rfl dX6_marks_41 ?_
      refine lv_bipush (v := 11) hx hb dX6_marks_44 (by decide) ?_
      refine k_ald (f := (u_34 0)) (j := 11) (v := ((u_34 0) 11)) hx hb hK hP 1 0 rfl rfl (show ¬ ((11 : Int32) < 0 ∨ 86 ≤ (11 : Int32).toNatClampNeg) by decide) rfl rfl dX6_marks_46 ?_
      refine lv_imul hx hb dX6_marks_47 ?_
      refine lv_iadd hx hb dX6_marks_48 ?_
      refine lv_iconst (v := 1) hx hb dX6_marks_49 (by decide) ?_
      refine lv_iadd hx hb dX6_marks_50 ?_
      refine lv_istore (lv' := [(4, .int ((36 + (2 * ((u_34 0) 11))) + 1)), (3, .int r_1), (0, .ref (q 0)), (1, .int x), (2, .int y)]) hx hb dX6_marks_51 hl (by decide) rfl (fun ls hl => ?_)
      obtain ⟨I_37, n_41, h_42, hI_43⟩ := h
      have lp_44 : ∀ (n_36 : Nat) (x4_38 : Int32) (D_39 : St), I_37 n_36 x4_38 D_39 → ∀ (H : Heap) (locs : List Loc) (ls : Array Slot), va_P G vwCl (wM cI q D_39) H → va_D A (wM cI q D_39) → va_S A s.heap H locs → lv_has ls 5 [(4, .int x4_38), (3, .int r_1), (0, .ref (q 0)), (1, .int x), (2, .int y)] → W p l e (headSpec wsX6_marks ({ frames := 2, cells := 0, slots := 0, locals := 46 })).room s m ([.ref (q 0), .int x, .int y] : List Value).toArray below meth c H locs 0 0 (MQ below (va_Qv Q (BW G (fun u : St => (wM cI q u)) A) A) ([.ref (q 0), .int x, .int y] : List Value).toArray s 0 0 A) (F0 m 53 ls []) := by
        intro n_36
        induction n_36 using Nat.strongRecOn with
        | ind n_36 ih_40 =>
          intro x4_38 D_39 hIn H locs ls hP hD hS hl
          have h := hI_43 n_36 x4_38 D_39 hIn
          refine lv_iload hx hb dX6_marks_53 (lv_at hl 0 rfl) ?_
          refine lv_bipush (v := 38) hx hb dX6_marks_55 (by decide) ?_
          refine lv_icmp_lt (tgt := 82) hx hb dX6_marks_57 (by decide) (fun c_45 => ?_) (fun c_45 => ?_)
          · have h := h.1 c_45
            refine lv_aload_n hx hb dX6_marks_82 rfl (lv_at hl 2 rfl) ?_
            refine va_get (D := G) (ci := 6) (v := .ref (q 1)) (C := RX6) (T := TX6) (N := 11) hx hb hts hinX6 hown hK hP 0 rfl rfl 0 (by decide) hL7 (fun _ h9 => h9) rfl dX6_marks_83 ?_
            refine lv_bipush (v := 36) hx hb dX6_marks_86 (by decide) ?_
            refine lv_iload_n hx hb dX6_marks_88 rfl (lv_at hl 3 rfl) ?_
            refine k_ast (f := (D_39 0)) (j := 36) (ws' := (wM cI q (uA D_39 0 (upd (D_39 0) 36 x)))) hx hb hK hP hD hS 1 0 rfl rfl (show ¬ ((36 : Int32) < 0 ∨ 86 ≤ (36 : Int32).toNatClampNeg) by decide) rfl dX6_marks_89 (st_M_0 cI q D_39 (upd (D_39 0) 36 x)) (fun H locs hP hD hS => ?_)
            refine lv_aload_n hx hb dX6_marks_90 rfl (lv_at hl 2 rfl) ?_
            refine va_get (D := G) (ci := 6) (v := .ref (q 1)) (C := RX6) (T := TX6) (N := 11) hx hb hts hinX6 hown hK hP 0 rfl rfl 0 (by decide) hL7 (fun _ h9 => h9) rfl dX6_marks_91 ?_
            refine lv_bipush (v := 37) hx hb dX6_marks_94 (by decide) ?_
            refine lv_iload_n hx hb dX6_marks_96 rfl (lv_at hl 4 rfl) ?_
            refine k_ast (f := (upd (D_39 0) 36 x)) (j := 37) (ws' := (wM cI q (uA (uA D_39 0 (upd (D_39 0) 36 x)) 0 (upd (upd (D_39 0) 36 x) 37 y)))) hx hb hK hP hD hS 1 0 rfl rfl (show ¬ ((37 : Int32) < 0 ∨ 86 ≤ (37 : Int32).toNatClampNeg) by decide) rfl dX6_marks_97 (st_M_0 cI q (uA D_39 0 (upd (D_39 0) 36 x)) (upd (upd (D_39 0) 36 x) 37 y)) (fun H locs hP hD hS => ?_)
            refine lv_aload_n hx hb dX6_marks_98 rfl (lv_at hl 2 rfl) ?_
            refine va_get (D := G) (ci := 6) (v := .ref (q 1)) (C := RX6) (T := TX6) (N := 11) hx hb hts hinX6 hown hK hP 0 rfl rfl 0 (by decide) hL7 (fun _ h9 => h9) rfl dX6_marks_99 ?_
            refine lv_bipush (v := 11) hx hb dX6_marks_102 (by decide) ?_
            refine lv_dup2_11 hx hb dX6_marks_104 rfl rfl ?_
            refine k_ald (f := (upd (upd (D_39 0) 36 x) 37 y)) (j := 11) (v := ((upd (upd (D_39 0) 36 x) 37 y) 11)) hx hb hK hP 1 0 rfl rfl (show ¬ ((11 : Int32) < 0 ∨ 86 ≤ (11 : Int32).toNatClampNeg) by decide) rfl rfl dX6_marks_105 ?_
            refine lv_iconst (v := 1) hx hb dX6_marks_106 (by decide) ?_
            refine lv_iadd hx hb dX6_marks_107 ?_
            refine k_ast (f := (upd (upd (D_39 0) 36 x) 37 y)) (j := 11) (ws' := (wM cI q (uA (uA (uA D_39 0 (upd (D_39 0) 36 x)) 0 (upd (upd (D_39 0) 36 x) 37 y)) 0 (upd (upd (upd (D_39 0) 36 x) 37 y) 11 (((upd (upd (D_39 0) 36 x) 37 y) 11) + 1))))) hx hb hK hP hD hS 1 0 rfl rfl (show ¬ ((11 : Int32) < 0 ∨ 86 ≤ (11 : Int32).toNatClampNeg) by decide) rfl dX6_marks_108 (st_M_0 cI q (uA (uA D_39 0 (upd (D_39 0) 36 x)) 0 (upd (upd (D_39 0) 36 x) 37 y)) (upd (upd (upd (D_39 0) 36 x) 37 y) 11 (((upd (upd (D_39 0) 36 x) 37 y) 11) + 1))) (fun H locs hP hD hS => ?_)
            exact W.vret hx hb hr (fun t ht hW => ⟨⟨(uA (uA (uA D_39 0 (upd (D_39 0) 36 x)) 0 (upd (upd (D_39 0) 36 x) 37 y)) 0 (upd (upd (upd (D_39 0) 36 x) 37 y) 11 (((upd (upd (D_39 0) 36 x) 37 y) 11) + 1))), rfl, h, by rw [ht]; exact hP, hD⟩, hS.F ht⟩) hS.2.2 dX6_marks_109
          · have h := h.2 c_45
            refine lv_aload_n hx hb dX6_marks_60 rfl (lv_at hl 2 rfl) ?_
            refine va_get (D := G) (ci := 6) (v := .ref (q 1)) (C := RX6) (T := TX6) (N := 11) hx hb hts hinX6 hown hK hP 0 rfl rfl 0 (by decide) hL7 (fun _ h9 => h9) rfl dX6_marks_61 ?_
            refine lv_iload hx hb dX6_marks_64 (lv_at hl 0 rfl) ?_
            refine lv_aload_n hx hb dX6_marks_66 rfl (lv_at hl 2 rfl) ?_
            refine va_get (D := G) (ci := 6) (v := .ref (q 1)) (C := RX6) (T := TX6) (N := 11) hx hb hts hinX6 hown hK hP 0 rfl rfl 0 (by decide) hL7 (fun _ h9 => h9) rfl dX6_marks_67 ?_
            refine lv_iload hx hb dX6_marks_70 (lv_at hl 0 rfl) ?_
            refine lv_iconst (v := 2) hx hb dX6_marks_72 (by decide) ?_
            refine lv_isub hx hb dX6_marks_73 ?_
            obtain ⟨hi_46, h⟩ := h
            refine k_ald (f := (D_39 0)) (j := ((x4_38 - 2)).toNatClampNeg) (v := ((D_39 0) (((x4_38 - 2)).toNatClampNeg))) hx hb hK hP 1 0 rfl rfl hi_46 rfl rfl dX6_marks_74 ?_
            obtain ⟨hi_47, h⟩ := h
            refine k_ast (f := (D_39 0)) (j := (x4_38).toNatClampNeg) (ws' := (wM cI q (uA D_39 0 (upd (D_39 0) ((x4_38).toNatClampNeg) ((D_39 0) (((x4_38 - 2)).toNatClampNeg)))))) hx hb hK hP hD hS 1 0 rfl rfl hi_47 rfl dX6_marks_75 (st_M_0 cI q D_39 (upd (D_39 0) ((x4_38).toNatClampNeg) ((D_39 0) (((x4_38 - 2)).toNatClampNeg)))) (fun H locs hP hD hS => ?_)
            refine lv_iinc (v := x4_38 + (-1)) (lv' := [(4, .int (x4_38 + (-1))), (3, .int r_1), (0, .ref (q 0)), (1, .int x), (2, .int y)]) hx hb dX6_marks_76 hl (k := 0) rfl rfl (by decide) rfl (fun ls hl => ?_)
            refine lv_goto (tgt := 53) hx hb dX6_marks_79 (by decide) ?_
            obtain ⟨n_48, lt_49, h_50⟩ := h
            exact ih_40 n_48 lt_49 _ _ h_50 _ _ _ hP hD hS (lv_sub hl [0, 1, 2, 3, 4] rfl)
      exact lp_44 _ _ _ h_42 _ _ _ hP hD hS hl
    · have h := h.1 c_35
      refine lv_aload_n hx hb dX6_marks_26 rfl (lv_at hl 1 rfl) ?_
      refine va_get (D := G) (ci := 6) (v := .ref (q 1)) (C := RX6) (T := TX6) (N := 11) hx hb hts hinX6 hown hK hP 0 rfl rfl 0 (by decide) hL7 (fun _ h9 => h9) rfl dX6_marks_27 ?_
      refine lv_bipush (v := 11) hx hb dX6_marks_30 (by decide) ?_
      refine lv_dup2_11 hx hb dX6_marks_32 rfl rfl ?_
      refine k_ald (f := (u_34 0)) (j := 11) (v := ((u_34 0) 11)) hx hb hK hP 1 0 rfl rfl (show ¬ ((11 : Int32) < 0 ∨ 86 ≤ (11 : Int32).toNatClampNeg) by decide) rfl rfl dX6_marks_33 ?_
      refine lv_iconst (v := 1) hx hb dX6_marks_34 (by decide) ?_
      refine lv_isub hx hb dX6_marks_35 ?_
      refine k_ast (f := (u_34 0)) (j := 11) (ws' := (wM cI q (uA u_34 0 (upd (u_34 0) 11 (((u_34 0) 11) - 1))))) hx hb hK hP hD hS 1 0 rfl rfl (show ¬ ((11 : Int32) < 0 ∨ 86 ≤ (11 : Int32).toNatClampNeg) by decide) rfl dX6_marks_36 (st_M_0 cI q u_34 (upd (u_34 0) 11 (((u_34 0) 11) - 1))) (fun H locs hP hD hS => ?_)
      refine lv_bipush (v := 36) hx hb dX6_marks_37 (by decide) ?_
      refine lv_iconst (v := 2) hx hb dX6_marks_39 (by decide) ?_
      refine lv_aload_n hx hb dX6_marks_40 rfl (lv_at hl 1 rfl) ?_
      refine va_get (D := G) (ci := 6) (v := .ref (q 1)) (C := RX6) (T := TX6) (N := 11) hx hb hts hinX6 hown hK hP 0 rfl rfl 0 (by decide) hL7 (fun _ h9 => h9) rfl dX6_marks_41 ?_
      refine lv_bipush (v := 11) hx hb dX6_marks_44 (by decide) ?_
      refine k_ald (f := (upd (u_34 0) 11 (((u_34 0) 11) - 1))) (j := 11) (v := ((upd (u_34 0) 11 (((u_34 0) 11) - 1)) 11)) hx hb hK hP 1 0 rfl rfl (show ¬ ((11 : Int32) < 0 ∨ 86 ≤ (11 : Int32).toNatClampNeg) by decide) rfl rfl dX6_marks_46 ?_
      refine lv_imul hx hb dX6_marks_47 ?_
      refine lv_iadd hx hb dX6_marks_48 ?_
      refine lv_iconst (v := 1) hx hb dX6_marks_49 (by decide) ?_
      refine lv_iadd hx hb dX6_marks_50 ?_
      refine lv_istore (lv' := [(4, .int ((36 + (2 * ((upd (u_34 0) 11 (((u_34 0) 11) - 1)) 11))) + 1)), (3, .int r_1), (0, .ref (q 0)), (1, .int x), (2, .int y)]) hx hb dX6_marks_51 hl (by decide) rfl (fun ls hl => ?_)
      obtain ⟨I_52, n_56, h_57, hI_58⟩ := h
      have lp_59 : ∀ (n_51 : Nat) (x4_53 : Int32) (D_54 : St), I_52 n_51 x4_53 D_54 → ∀ (H : Heap) (locs : List Loc) (ls : Array Slot), va_P G vwCl (wM cI q D_54) H → va_D A (wM cI q D_54) → va_S A s.heap H locs → lv_has ls 5 [(4, .int x4_53), (3, .int r_1), (0, .ref (q 0)), (1, .int x), (2, .int y)] → W p l e (headSpec wsX6_marks ({ frames := 2, cells := 0, slots := 0, locals := 46 })).room s m ([.ref (q 0), .int x, .int y] : List Value).toArray below meth c H locs 0 0 (MQ below (va_Qv Q (BW G (fun u : St => (wM cI q u)) A) A) ([.ref (q 0), .int x, .int y] : List Value).toArray s 0 0 A) (F0 m 53 ls []) := by
        intro n_51
        induction n_51 using Nat.strongRecOn with
        | ind n_51 ih_55 =>
          intro x4_53 D_54 hIn H locs ls hP hD hS hl
          have h := hI_58 n_51 x4_53 D_54 hIn
          refine lv_iload hx hb dX6_marks_53 (lv_at hl 0 rfl) ?_
          refine lv_bipush (v := 38) hx hb dX6_marks_55 (by decide) ?_
          refine lv_icmp_lt (tgt := 82) hx hb dX6_marks_57 (by decide) (fun c_60 => ?_) (fun c_60 => ?_)
          · have h := h.1 c_60
            refine lv_aload_n hx hb dX6_marks_82 rfl (lv_at hl 2 rfl) ?_
            refine va_get (D := G) (ci := 6) (v := .ref (q 1)) (C := RX6) (T := TX6) (N := 11) hx hb hts hinX6 hown hK hP 0 rfl rfl 0 (by decide) hL7 (fun _ h9 => h9) rfl dX6_marks_83 ?_
            refine lv_bipush (v := 36) hx hb dX6_marks_86 (by decide) ?_
            refine lv_iload_n hx hb dX6_marks_88 rfl (lv_at hl 3 rfl) ?_
            refine k_ast (f := (D_54 0)) (j := 36) (ws' := (wM cI q (uA D_54 0 (upd (D_54 0) 36 x)))) hx hb hK hP hD hS 1 0 rfl rfl (show ¬ ((36 : Int32) < 0 ∨ 86 ≤ (36 : Int32).toNatClampNeg) by decide) rfl dX6_marks_89 (st_M_0 cI q D_54 (upd (D_54 0) 36 x)) (fun H locs hP hD hS => ?_)
            refine lv_aload_n hx hb dX6_marks_90 rfl (lv_at hl 2 rfl) ?_
            refine va_get (D := G) (ci := 6) (v := .ref (q 1)) (C := RX6) (T := TX6) (N := 11) hx hb hts hinX6 hown hK hP 0 rfl rfl 0 (by decide) hL7 (fun _ h9 => h9) rfl dX6_marks_91 ?_
            refine lv_bipush (v := 37) hx hb dX6_marks_94 (by decide) ?_
            refine lv_iload_n hx hb dX6_marks_96 rfl (lv_at hl 4 rfl) ?_
            refine k_ast (f := (upd (D_54 0) 36 x)) (j := 37) (ws' := (wM cI q (uA (uA D_54 0 (upd (D_54 0) 36 x)) 0 (upd (upd (D_54 0) 36 x) 37 y)))) hx hb hK hP hD hS 1 0 rfl rfl (show ¬ ((37 : Int32) < 0 ∨ 86 ≤ (37 : Int32).toNatClampNeg) by decide) rfl dX6_marks_97 (st_M_0 cI q (uA D_54 0 (upd (D_54 0) 36 x)) (upd (upd (D_54 0) 36 x) 37 y)) (fun H locs hP hD hS => ?_)
            refine lv_aload_n hx hb dX6_marks_98 rfl (lv_at hl 2 rfl) ?_
            refine va_get (D := G) (ci := 6) (v := .ref (q 1)) (C := RX6) (T := TX6) (N := 11) hx hb hts hinX6 hown hK hP 0 rfl rfl 0 (by decide) hL7 (fun _ h9 => h9) rfl dX6_marks_99 ?_
            refine lv_bipush (v := 11) hx hb dX6_marks_102 (by decide) ?_
            refine lv_dup2_11 hx hb dX6_marks_104 rfl rfl ?_
            refine k_ald (f := (upd (upd (D_54 0) 36 x) 37 y)) (j := 11) (v := ((upd (upd (D_54 0) 36 x) 37 y) 11)) hx hb hK hP 1 0 rfl rfl (show ¬ ((11 : Int32) < 0 ∨ 86 ≤ (11 : Int32).toNatClampNeg) by decide) rfl rfl dX6_marks_105 ?_
            refine lv_iconst (v := 1) hx hb dX6_marks_106 (by decide) ?_
            refine lv_iadd hx hb dX6_marks_107 ?_
            refine k_ast (f := (upd (upd (D_54 0) 36 x) 37 y)) (j := 11) (ws' := (wM cI q (uA (uA (uA D_54 0 (upd (D_54 0) 36 x)) 0 (upd (upd (D_54 0) 36 x) 37 y)) 0 (upd (upd (upd (D_54 0) 36 x) 37 y) 11 (((upd (upd (D_54 0) 36 x) 37 y) 11) + 1))))) hx hb hK hP hD hS 1 0 rfl rfl (show ¬ ((11 : Int32) < 0 ∨ 86 ≤ (11 : Int32).toNatClampNeg) by decide) rfl dX6_marks_108 (st_M_0 cI q (uA (uA D_54 0 (upd (D_54 0) 36 x)) 0 (upd (upd (D_54 0) 36 x) 37 y)) (upd (upd (upd (D_54 0) 36 x) 37 y) 11 (((upd (upd (D_54 0) 36 x) 37 y) 11) + 1))) (fun H locs hP hD hS => ?_)
            exact W.vret hx hb hr (fun t ht hW => ⟨⟨(uA (uA (uA D_54 0 (upd (D_54 0) 36 x)) 0 (upd (upd (D_54 0) 36 x) 37 y)) 0 (upd (upd (upd (D_54 0) 36 x) 37 y) 11 (((upd (upd (D_54 0) 36 x) 37 y) 11) + 1))), rfl, h, by rw [ht]; exact hP, hD⟩, hS.F ht⟩) hS.2.2 dX6_marks_109
          · have h := h.2 c_60
            refine lv_aload_n hx hb dX6_marks_60 rfl (lv_at hl 2 rfl) ?_
            refine va_get (D := G) (ci := 6) (v := .ref (q 1)) (C := RX6) (T := TX6) (N := 11) hx hb hts hinX6 hown hK hP 0 rfl rfl 0 (by decide) hL7 (fun _ h9 => h9) rfl dX6_marks_61 ?_
            refine lv_iload hx hb dX6_marks_64 (lv_at hl 0 rfl) ?_
            refine lv_aload_n hx hb dX6_marks_66 rfl (lv_at hl 2 rfl) ?_
            refine va_get (D := G) (ci := 6) (v := .ref (q 1)) (C := RX6) (T := TX6) (N := 11) hx hb hts hinX6 hown hK hP 0 rfl rfl 0 (by decide) hL7 (fun _ h9 => h9) rfl dX6_marks_67 ?_
            refine lv_iload hx hb dX6_marks_70 (lv_at hl 0 rfl) ?_
            refine lv_iconst (v := 2) hx hb dX6_marks_72 (by decide) ?_
            refine lv_isub hx hb dX6_marks_73 ?_
            obtain ⟨hi_61, h⟩ := h
            refine k_ald (f := (D_54 0)) (j := ((x4_53 - 2)).toNatClampNeg) (v := ((D_54 0) (((x4_53 - 2)).toNatClampNeg))) hx hb hK hP 1 0 rfl rfl hi_61 rfl rfl dX6_marks_74 ?_
            obtain ⟨hi_62, h⟩ := h
            refine k_ast (f := (D_54 0)) (j := (x4_53).toNatClampNeg) (ws' := (wM cI q (uA D_54 0 (upd (D_54 0) ((x4_53).toNatClampNeg) ((D_54 0) (((x4_53 - 2)).toNatClampNeg)))))) hx hb hK hP hD hS 1 0 rfl rfl hi_62 rfl dX6_marks_75 (st_M_0 cI q D_54 (upd (D_54 0) ((x4_53).toNatClampNeg) ((D_54 0) (((x4_53 - 2)).toNatClampNeg)))) (fun H locs hP hD hS => ?_)
            refine lv_iinc (v := x4_53 + (-1)) (lv' := [(4, .int (x4_53 + (-1))), (3, .int r_1), (0, .ref (q 0)), (1, .int x), (2, .int y)]) hx hb dX6_marks_76 hl (k := 0) rfl rfl (by decide) rfl (fun ls hl => ?_)
            refine lv_goto (tgt := 53) hx hb dX6_marks_79 (by decide) ?_
            obtain ⟨n_63, lt_64, h_65⟩ := h
            exact ih_55 n_63 lt_64 _ _ h_65 _ _ _ hP hD hS (lv_sub hl [0, 1, 2, 3, 4] rfl)
      exact lp_59 _ _ _ h_57 _ _ _ hP hD hS hl
def q_X6_floods (M : St) (Q : St → Prop) : Prop :=
  (((M 0) 9) = 0 → (((M 0) 4) < ((M 0) 0) → (((M 0) 9) = 1 → (((M 0) 1) ≤ ((M 0) 4) → Q M) ∧ (¬ (((M 0) 1) ≤ ((M 0) 4)) → (((upd (M 0) 9 0) 7) < 0 → Q (uA (uA (uA M 0 (upd (M 0) 9 0)) 0 (upd (upd (M 0) 9 0) 19 (((upd (M 0) 9 0) 19) + 0))) 0 (upd (upd (upd (M 0) 9 0) 19 (((upd (M 0) 9 0) 19) + 0)) 7 (-1)))) ∧ (¬ (((upd (M 0) 9 0) 7) < 0) → Q (uA (uA (uA M 0 (upd (M 0) 9 0)) 0 (upd (upd (M 0) 9 0) 19 (((upd (M 0) 9 0) 19) + 1))) 0 (upd (upd (upd (M 0) 9 0) 19 (((upd (M 0) 9 0) 19) + 1)) 7 (-1)))))) ∧ (¬ (((M 0) 9) = 1) → Q M)) ∧ (¬ (((M 0) 4) < ((M 0) 0)) → (((upd (upd (M 0) 9 1) 16 (((upd (M 0) 9 1) 16) + 1)) 7) < 0 → Q (uA (uA M 0 (upd (M 0) 9 1)) 0 (upd (upd (M 0) 9 1) 16 (((upd (M 0) 9 1) 16) + 1)))) ∧ (¬ (((upd (upd (M 0) 9 1) 16 (((upd (M 0) 9 1) 16) + 1)) 7) < 0) → q_X6_marks ((upd (upd (M 0) 9 1) 16 (((upd (M 0) 9 1) 16) + 1)) 7) ((upd (upd (M 0) 9 1) 16 (((upd (M 0) 9 1) 16) + 1)) 8) (uA (uA M 0 (upd (M 0) 9 1)) 0 (upd (upd (M 0) 9 1) 16 (((upd (M 0) 9 1) 16) + 1))) (fun u_10 => Q (uA (uA u_10 0 (upd (u_10 0) 7 (-1))) 0 (upd (upd (u_10 0) 7 (-1)) 19 (((upd (u_10 0) 7 (-1)) 19) + 1))))))) ∧ (¬ (((M 0) 9) = 0) → (((M 0) 9) = 1 → (((M 0) 1) ≤ ((M 0) 4) → Q M) ∧ (¬ (((M 0) 1) ≤ ((M 0) 4)) → (((upd (M 0) 9 0) 7) < 0 → Q (uA (uA (uA M 0 (upd (M 0) 9 0)) 0 (upd (upd (M 0) 9 0) 19 (((upd (M 0) 9 0) 19) + 0))) 0 (upd (upd (upd (M 0) 9 0) 19 (((upd (M 0) 9 0) 19) + 0)) 7 (-1)))) ∧ (¬ (((upd (M 0) 9 0) 7) < 0) → Q (uA (uA (uA M 0 (upd (M 0) 9 0)) 0 (upd (upd (M 0) 9 0) 19 (((upd (M 0) 9 0) 19) + 1))) 0 (upd (upd (upd (M 0) 9 0) 19 (((upd (M 0) 9 0) 19) + 1)) 7 (-1)))))) ∧ (¬ (((M 0) 9) = 1) → Q M))
set_option maxHeartbeats 4000000 in
set_option maxRecDepth 100000 in
theorem c_X6_floods (l : Launch) (G : va_G) (cI cC cD : ClassId) (q : Nat → Nat) (sz : Nat) (M : St)  (Q : St → Prop) (h : q_X6_floods  M Q) : Met l yX6_floods wsX6_floods ({ frames := 3, cells := 0, slots := 0, locals := 70 }) (va_Pc [.ref (q 0)] (PW G (ty3 cI cC cD) (wM cI q M) sz)) (va_Qv Q (BW G (fun u : St => (wM cI q u)) (va_A (wM cI q M) sz)) (va_A (wM cI q M) sz)) 0 0 (va_A (wM cI q M) sz) := by
  refine Met.ofW (cc := cX6_floods) (maxL := 1) (ret := none) (by decide) rfl ?_
  intro p e s m args below meth c s₁ B hml hv
  obtain ⟨rfl, hsz, hP, hK, hD0, hN⟩ := hv
  have hx := B.exec
  have hb := B.bytes
  have hr := B.returns
  have hts := atoms_spec (ws := wsX6_floods) B.pre
  have hown : s.vm.findClass RX6 = some m.cls := findClass_of_methodNamed B.named
  have hlocks := B.notSynchronized
  subst hsz
  have hD := hD0.self (sz := s.heap.size)
  generalize hAe : va_A (wM cI q M) s.heap.size = A at hD ⊢
  have hA : ∀ q : Nat, s.heap.size ≤ q → A q := fun q h => by rw [← hAe]; exact Or.inr h
  have hS : va_S A s.heap s.heap [] := va_S.rf
  have hl := lv_entry ([.ref (q 0)]) (n := 1) (Nat.le_of_ble_eq_true rfl)
  rw [lg_entry_eq]
  generalize (lg_sl ([.ref (q 0)]) ++ List.replicate (1 - (lg_sl ([.ref (q 0)])).length) Slot.unset).toArray = ls at hl ⊢
  have hl : lv_has ls 1 [(0, .ref (q 0))] := hl
  have hinX6 : ∀ w ∈ wsX60, w ∈ wsX6_floods := by decide +kernel
  have hL7 := hts (.fieldLink RX6 7 "CraneGatesModel" "s" "[I") (by decide +kernel)
  unfold q_X6_floods at h
  refine lv_aload_n hx hb dX6_floods_0 rfl (lv_at hl 0 rfl) ?_
  refine va_get (D := G) (ci := 6) (v := .ref (q 1)) (C := RX6) (T := TX6) (N := 11) hx hb hts hinX6 hown hK hP 0 rfl rfl 0 (by decide) hL7 (fun _ h9 => h9) rfl dX6_floods_1 ?_
  refine lv_bipush (v := 9) hx hb dX6_floods_4 (by decide) ?_
  refine k_ald (f := (M 0)) (j := 9) (v := ((M 0) 9)) hx hb hK hP 1 0 rfl rfl (show ¬ ((9 : Int32) < 0 ∨ 86 ≤ (9 : Int32).toNatClampNeg) by decide) rfl rfl dX6_floods_6 ?_
  refine lv_if_ne (tgt := 94) hx hb dX6_floods_7 (by decide) (fun c_1 => ?_) (fun c_1 => ?_)
  · have h := h.2 c_1
    refine lv_aload_n hx hb dX6_floods_94 rfl (lv_at hl 0 rfl) ?_
    refine va_get (D := G) (ci := 6) (v := .ref (q 1)) (C := RX6) (T := TX6) (N := 11) hx hb hts hinX6 hown hK hP 0 rfl rfl 0 (by decide) hL7 (fun _ h9 => h9) rfl dX6_floods_95 ?_
    refine lv_bipush (v := 9) hx hb dX6_floods_98 (by decide) ?_
    refine k_ald (f := (M 0)) (j := 9) (v := ((M 0) 9)) hx hb hK hP 1 0 rfl rfl (show ¬ ((9 : Int32) < 0 ∨ 86 ≤ (9 : Int32).toNatClampNeg) by decide) rfl rfl dX6_floods_100 ?_
    refine lv_iconst (v := 1) hx hb dX6_floods_101 (by decide) ?_
    refine lv_icmp_ne (tgt := 161) hx hb dX6_floods_102 (by decide) (fun c_2 => ?_) (fun c_2 => ?_)
    · have h := h.2 c_2
      exact W.vret hx hb hr (fun t ht hW => ⟨⟨M, rfl, h, by rw [ht]; exact hP, hD⟩, hS.F ht⟩) hS.2.2 dX6_floods_161
    · have h := h.1 c_2
      refine lv_aload_n hx hb dX6_floods_105 rfl (lv_at hl 0 rfl) ?_
      refine va_get (D := G) (ci := 6) (v := .ref (q 1)) (C := RX6) (T := TX6) (N := 11) hx hb hts hinX6 hown hK hP 0 rfl rfl 0 (by decide) hL7 (fun _ h9 => h9) rfl dX6_floods_106 ?_
      refine lv_iconst (v := 4) hx hb dX6_floods_109 (by decide) ?_
      refine k_ald (f := (M 0)) (j := 4) (v := ((M 0) 4)) hx hb hK hP 1 0 rfl rfl (show ¬ ((4 : Int32) < 0 ∨ 86 ≤ (4 : Int32).toNatClampNeg) by decide) rfl rfl dX6_floods_110 ?_
      refine lv_aload_n hx hb dX6_floods_111 rfl (lv_at hl 0 rfl) ?_
      refine va_get (D := G) (ci := 6) (v := .ref (q 1)) (C := RX6) (T := TX6) (N := 11) hx hb hts hinX6 hown hK hP 0 rfl rfl 0 (by decide) hL7 (fun _ h9 => h9) rfl dX6_floods_112 ?_
      refine lv_iconst (v := 1) hx hb dX6_floods_115 (by decide) ?_
      refine k_ald (f := (M 0)) (j := 1) (v := ((M 0) 1)) hx hb hK hP 1 0 rfl rfl (show ¬ ((1 : Int32) < 0 ∨ 86 ≤ (1 : Int32).toNatClampNeg) by decide) rfl rfl dX6_floods_116 ?_
      refine lv_icmp_ge (tgt := 161) hx hb dX6_floods_117 (by decide) (fun c_3 => ?_) (fun c_3 => ?_)
      · have h := h.1 c_3
        exact W.vret hx hb hr (fun t ht hW => ⟨⟨M, rfl, h, by rw [ht]; exact hP, hD⟩, hS.F ht⟩) hS.2.2 dX6_floods_161
      · have h := h.2 c_3
        refine lv_aload_n hx hb dX6_floods_120 rfl (lv_at hl 0 rfl) ?_
        refine va_get (D := G) (ci := 6) (v := .ref (q 1)) (C := RX6) (T := TX6) (N := 11) hx hb hts hinX6 hown hK hP 0 rfl rfl 0 (by decide) hL7 (fun _ h9 => h9) rfl dX6_floods_121 ?_
        refine lv_bipush (v := 9) hx hb dX6_floods_124 (by decide) ?_
        refine lv_iconst (v := 0) hx hb dX6_floods_126 (by decide) ?_
        refine k_ast (f := (M 0)) (j := 9) (ws' := (wM cI q (uA M 0 (upd (M 0) 9 0)))) hx hb hK hP hD hS 1 0 rfl rfl (show ¬ ((9 : Int32) < 0 ∨ 86 ≤ (9 : Int32).toNatClampNeg) by decide) rfl dX6_floods_127 (st_M_0 cI q M (upd (M 0) 9 0)) (fun H locs hP hD hS => ?_)
        refine lv_aload_n hx hb dX6_floods_128 rfl (lv_at hl 0 rfl) ?_
        refine va_get (D := G) (ci := 6) (v := .ref (q 1)) (C := RX6) (T := TX6) (N := 11) hx hb hts hinX6 hown hK hP 0 rfl rfl 0 (by decide) hL7 (fun _ h9 => h9) rfl dX6_floods_129 ?_
        refine lv_bipush (v := 19) hx hb dX6_floods_132 (by decide) ?_
        refine lv_dup2_11 hx hb dX6_floods_134 rfl rfl ?_
        refine k_ald (f := (upd (M 0) 9 0)) (j := 19) (v := ((upd (M 0) 9 0) 19)) hx hb hK hP 1 0 rfl rfl (show ¬ ((19 : Int32) < 0 ∨ 86 ≤ (19 : Int32).toNatClampNeg) by decide) rfl rfl dX6_floods_135 ?_
        refine lv_aload_n hx hb dX6_floods_136 rfl (lv_at hl 0 rfl) ?_
        refine va_get (D := G) (ci := 6) (v := .ref (q 1)) (C := RX6) (T := TX6) (N := 11) hx hb hts hinX6 hown hK hP 0 rfl rfl 0 (by decide) hL7 (fun _ h9 => h9) rfl dX6_floods_137 ?_
        refine lv_bipush (v := 7) hx hb dX6_floods_140 (by decide) ?_
        refine k_ald (f := (upd (M 0) 9 0)) (j := 7) (v := ((upd (M 0) 9 0) 7)) hx hb hK hP 1 0 rfl rfl (show ¬ ((7 : Int32) < 0 ∨ 86 ≤ (7 : Int32).toNatClampNeg) by decide) rfl rfl dX6_floods_142 ?_
        refine lv_if_lt (tgt := 150) hx hb dX6_floods_143 (by decide) (fun c_4 => ?_) (fun c_4 => ?_)
        · have h := h.1 c_4
          refine lv_iconst (v := 0) hx hb dX6_floods_150 (by decide) ?_
          refine lv_iadd hx hb dX6_floods_151 ?_
          refine k_ast (f := (upd (M 0) 9 0)) (j := 19) (ws' := (wM cI q (uA (uA M 0 (upd (M 0) 9 0)) 0 (upd (upd (M 0) 9 0) 19 (((upd (M 0) 9 0) 19) + 0))))) hx hb hK hP hD hS 1 0 rfl rfl (show ¬ ((19 : Int32) < 0 ∨ 86 ≤ (19 : Int32).toNatClampNeg) by decide) rfl dX6_floods_152 (st_M_0 cI q (uA M 0 (upd (M 0) 9 0)) (upd (upd (M 0) 9 0) 19 (((upd (M 0) 9 0) 19) + 0))) (fun H locs hP hD hS => ?_)
          refine lv_aload_n hx hb dX6_floods_153 rfl (lv_at hl 0 rfl) ?_
          refine va_get (D := G) (ci := 6) (v := .ref (q 1)) (C := RX6) (T := TX6) (N := 11) hx hb hts hinX6 hown hK hP 0 rfl rfl 0 (by decide) hL7 (fun _ h9 => h9) rfl dX6_floods_154 ?_
          refine lv_bipush (v := 7) hx hb dX6_floods_157 (by decide) ?_
          refine lv_iconst (v := (-1)) hx hb dX6_floods_159 (by decide) ?_
          refine k_ast (f := (upd (upd (M 0) 9 0) 19 (((upd (M 0) 9 0) 19) + 0))) (j := 7) (ws' := (wM cI q (uA (uA (uA M 0 (upd (M 0) 9 0)) 0 (upd (upd (M 0) 9 0) 19 (((upd (M 0) 9 0) 19) + 0))) 0 (upd (upd (upd (M 0) 9 0) 19 (((upd (M 0) 9 0) 19) + 0)) 7 (-1))))) hx hb hK hP hD hS 1 0 rfl rfl (show ¬ ((7 : Int32) < 0 ∨ 86 ≤ (7 : Int32).toNatClampNeg) by decide) rfl dX6_floods_160 (st_M_0 cI q (uA (uA M 0 (upd (M 0) 9 0)) 0 (upd (upd (M 0) 9 0) 19 (((upd (M 0) 9 0) 19) + 0))) (upd (upd (upd (M 0) 9 0) 19 (((upd (M 0) 9 0) 19) + 0)) 7 (-1))) (fun H locs hP hD hS => ?_)
          exact W.vret hx hb hr (fun t ht hW => ⟨⟨(uA (uA (uA M 0 (upd (M 0) 9 0)) 0 (upd (upd (M 0) 9 0) 19 (((upd (M 0) 9 0) 19) + 0))) 0 (upd (upd (upd (M 0) 9 0) 19 (((upd (M 0) 9 0) 19) + 0)) 7 (-1))), rfl, h, by rw [ht]; exact hP, hD⟩, hS.F ht⟩) hS.2.2 dX6_floods_161
        · have h := h.2 c_4
          refine lv_iconst (v := 1) hx hb dX6_floods_146 (by decide) ?_
          refine lv_goto (tgt := 151) hx hb dX6_floods_147 (by decide) ?_
          refine lv_iadd hx hb dX6_floods_151 ?_
          refine k_ast (f := (upd (M 0) 9 0)) (j := 19) (ws' := (wM cI q (uA (uA M 0 (upd (M 0) 9 0)) 0 (upd (upd (M 0) 9 0) 19 (((upd (M 0) 9 0) 19) + 1))))) hx hb hK hP hD hS 1 0 rfl rfl (show ¬ ((19 : Int32) < 0 ∨ 86 ≤ (19 : Int32).toNatClampNeg) by decide) rfl dX6_floods_152 (st_M_0 cI q (uA M 0 (upd (M 0) 9 0)) (upd (upd (M 0) 9 0) 19 (((upd (M 0) 9 0) 19) + 1))) (fun H locs hP hD hS => ?_)
          refine lv_aload_n hx hb dX6_floods_153 rfl (lv_at hl 0 rfl) ?_
          refine va_get (D := G) (ci := 6) (v := .ref (q 1)) (C := RX6) (T := TX6) (N := 11) hx hb hts hinX6 hown hK hP 0 rfl rfl 0 (by decide) hL7 (fun _ h9 => h9) rfl dX6_floods_154 ?_
          refine lv_bipush (v := 7) hx hb dX6_floods_157 (by decide) ?_
          refine lv_iconst (v := (-1)) hx hb dX6_floods_159 (by decide) ?_
          refine k_ast (f := (upd (upd (M 0) 9 0) 19 (((upd (M 0) 9 0) 19) + 1))) (j := 7) (ws' := (wM cI q (uA (uA (uA M 0 (upd (M 0) 9 0)) 0 (upd (upd (M 0) 9 0) 19 (((upd (M 0) 9 0) 19) + 1))) 0 (upd (upd (upd (M 0) 9 0) 19 (((upd (M 0) 9 0) 19) + 1)) 7 (-1))))) hx hb hK hP hD hS 1 0 rfl rfl (show ¬ ((7 : Int32) < 0 ∨ 86 ≤ (7 : Int32).toNatClampNeg) by decide) rfl dX6_floods_160 (st_M_0 cI q (uA (uA M 0 (upd (M 0) 9 0)) 0 (upd (upd (M 0) 9 0) 19 (((upd (M 0) 9 0) 19) + 1))) (upd (upd (upd (M 0) 9 0) 19 (((upd (M 0) 9 0) 19) + 1)) 7 (-1))) (fun H locs hP hD hS => ?_)
          exact W.vret hx hb hr (fun t ht hW => ⟨⟨(uA (uA (uA M 0 (upd (M 0) 9 0)) 0 (upd (upd (M 0) 9 0) 19 (((upd (M 0) 9 0) 19) + 1))) 0 (upd (upd (upd (M 0) 9 0) 19 (((upd (M 0) 9 0) 19) + 1)) 7 (-1))), rfl, h, by rw [ht]; exact hP, hD⟩, hS.F ht⟩) hS.2.2 dX6_floods_161
  · have h := h.1 c_1
    refine lv_aload_n hx hb dX6_floods_10 rfl (lv_at hl 0 rfl) ?_
    refine va_get (D := G) (ci := 6) (v := .ref (q 1)) (C := RX6) (T := TX6) (N := 11) hx hb hts hinX6 hown hK hP 0 rfl rfl 0 (by decide) hL7 (fun _ h9 => h9) rfl dX6_floods_11 ?_
    refine lv_iconst (v := 4) hx hb dX6_floods_14 (by decide) ?_
    refine k_ald (f := (M 0)) (j := 4) (v := ((M 0) 4)) hx hb hK hP 1 0 rfl rfl (show ¬ ((4 : Int32) < 0 ∨ 86 ≤ (4 : Int32).toNatClampNeg) by decide) rfl rfl dX6_floods_15 ?_
    refine lv_aload_n hx hb dX6_floods_16 rfl (lv_at hl 0 rfl) ?_
    refine va_get (D := G) (ci := 6) (v := .ref (q 1)) (C := RX6) (T := TX6) (N := 11) hx hb hts hinX6 hown hK hP 0 rfl rfl 0 (by decide) hL7 (fun _ h9 => h9) rfl dX6_floods_17 ?_
    refine lv_iconst (v := 0) hx hb dX6_floods_20 (by decide) ?_
    refine k_ald (f := (M 0)) (j := 0) (v := ((M 0) 0)) hx hb hK hP 1 0 rfl rfl (show ¬ ((0 : Int32) < 0 ∨ 86 ≤ (0 : Int32).toNatClampNeg) by decide) rfl rfl dX6_floods_21 ?_
    refine lv_icmp_lt (tgt := 94) hx hb dX6_floods_22 (by decide) (fun c_5 => ?_) (fun c_5 => ?_)
    · have h := h.1 c_5
      refine lv_aload_n hx hb dX6_floods_94 rfl (lv_at hl 0 rfl) ?_
      refine va_get (D := G) (ci := 6) (v := .ref (q 1)) (C := RX6) (T := TX6) (N := 11) hx hb hts hinX6 hown hK hP 0 rfl rfl 0 (by decide) hL7 (fun _ h9 => h9) rfl dX6_floods_95 ?_
      refine lv_bipush (v := 9) hx hb dX6_floods_98 (by decide) ?_
      refine k_ald (f := (M 0)) (j := 9) (v := ((M 0) 9)) hx hb hK hP 1 0 rfl rfl (show ¬ ((9 : Int32) < 0 ∨ 86 ≤ (9 : Int32).toNatClampNeg) by decide) rfl rfl dX6_floods_100 ?_
      refine lv_iconst (v := 1) hx hb dX6_floods_101 (by decide) ?_
      refine lv_icmp_ne (tgt := 161) hx hb dX6_floods_102 (by decide) (fun c_6 => ?_) (fun c_6 => ?_)
      · have h := h.2 c_6
        exact W.vret hx hb hr (fun t ht hW => ⟨⟨M, rfl, h, by rw [ht]; exact hP, hD⟩, hS.F ht⟩) hS.2.2 dX6_floods_161
      · have h := h.1 c_6
        refine lv_aload_n hx hb dX6_floods_105 rfl (lv_at hl 0 rfl) ?_
        refine va_get (D := G) (ci := 6) (v := .ref (q 1)) (C := RX6) (T := TX6) (N := 11) hx hb hts hinX6 hown hK hP 0 rfl rfl 0 (by decide) hL7 (fun _ h9 => h9) rfl dX6_floods_106 ?_
        refine lv_iconst (v := 4) hx hb dX6_floods_109 (by decide) ?_
        refine k_ald (f := (M 0)) (j := 4) (v := ((M 0) 4)) hx hb hK hP 1 0 rfl rfl (show ¬ ((4 : Int32) < 0 ∨ 86 ≤ (4 : Int32).toNatClampNeg) by decide) rfl rfl dX6_floods_110 ?_
        refine lv_aload_n hx hb dX6_floods_111 rfl (lv_at hl 0 rfl) ?_
        refine va_get (D := G) (ci := 6) (v := .ref (q 1)) (C := RX6) (T := TX6) (N := 11) hx hb hts hinX6 hown hK hP 0 rfl rfl 0 (by decide) hL7 (fun _ h9 => h9) rfl dX6_floods_112 ?_
        refine lv_iconst (v := 1) hx hb dX6_floods_115 (by decide) ?_
        refine k_ald (f := (M 0)) (j := 1) (v := ((M 0) 1)) hx hb hK hP 1 0 rfl rfl (show ¬ ((1 : Int32) < 0 ∨ 86 ≤ (1 : Int32).toNatClampNeg) by decide) rfl rfl dX6_floods_116 ?_
        refine lv_icmp_ge (tgt := 161) hx hb dX6_floods_117 (by decide) (fun c_7 => ?_) (fun c_7 => ?_)
        · have h := h.1 c_7
          exact W.vret hx hb hr (fun t ht hW => ⟨⟨M, rfl, h, by rw [ht]; exact hP, hD⟩, hS.F ht⟩) hS.2.2 dX6_floods_161
        · have h := h.2 c_7
          refine lv_aload_n hx hb dX6_floods_120 rfl (lv_at hl 0 rfl) ?_
          refine va_get (D := G) (ci := 6) (v := .ref (q 1)) (C := RX6) (T := TX6) (N := 11) hx hb hts hinX6 hown hK hP 0 rfl rfl 0 (by decide) hL7 (fun _ h9 => h9) rfl dX6_floods_121 ?_
          refine lv_bipush (v := 9) hx hb dX6_floods_124 (by decide) ?_
          refine lv_iconst (v := 0) hx hb dX6_floods_126 (by decide) ?_
          refine k_ast (f := (M 0)) (j := 9) (ws' := (wM cI q (uA M 0 (upd (M 0) 9 0)))) hx hb hK hP hD hS 1 0 rfl rfl (show ¬ ((9 : Int32) < 0 ∨ 86 ≤ (9 : Int32).toNatClampNeg) by decide) rfl dX6_floods_127 (st_M_0 cI q M (upd (M 0) 9 0)) (fun H locs hP hD hS => ?_)
          refine lv_aload_n hx hb dX6_floods_128 rfl (lv_at hl 0 rfl) ?_
          refine va_get (D := G) (ci := 6) (v := .ref (q 1)) (C := RX6) (T := TX6) (N := 11) hx hb hts hinX6 hown hK hP 0 rfl rfl 0 (by decide) hL7 (fun _ h9 => h9) rfl dX6_floods_129 ?_
          refine lv_bipush (v := 19) hx hb dX6_floods_132 (by decide) ?_
          refine lv_dup2_11 hx hb dX6_floods_134 rfl rfl ?_
          refine k_ald (f := (upd (M 0) 9 0)) (j := 19) (v := ((upd (M 0) 9 0) 19)) hx hb hK hP 1 0 rfl rfl (show ¬ ((19 : Int32) < 0 ∨ 86 ≤ (19 : Int32).toNatClampNeg) by decide) rfl rfl dX6_floods_135 ?_
          refine lv_aload_n hx hb dX6_floods_136 rfl (lv_at hl 0 rfl) ?_
          refine va_get (D := G) (ci := 6) (v := .ref (q 1)) (C := RX6) (T := TX6) (N := 11) hx hb hts hinX6 hown hK hP 0 rfl rfl 0 (by decide) hL7 (fun _ h9 => h9) rfl dX6_floods_137 ?_
          refine lv_bipush (v := 7) hx hb dX6_floods_140 (by decide) ?_
          refine k_ald (f := (upd (M 0) 9 0)) (j := 7) (v := ((upd (M 0) 9 0) 7)) hx hb hK hP 1 0 rfl rfl (show ¬ ((7 : Int32) < 0 ∨ 86 ≤ (7 : Int32).toNatClampNeg) by decide) rfl rfl dX6_floods_142 ?_
          refine lv_if_lt (tgt := 150) hx hb dX6_floods_143 (by decide) (fun c_8 => ?_) (fun c_8 => ?_)
          · have h := h.1 c_8
            refine lv_iconst (v := 0) hx hb dX6_floods_150 (by decide) ?_
            refine lv_iadd hx hb dX6_floods_151 ?_
            refine k_ast (f := (upd (M 0) 9 0)) (j := 19) (ws' := (wM cI q (uA (uA M 0 (upd (M 0) 9 0)) 0 (upd (upd (M 0) 9 0) 19 (((upd (M 0) 9 0) 19) + 0))))) hx hb hK hP hD hS 1 0 rfl rfl (show ¬ ((19 : Int32) < 0 ∨ 86 ≤ (19 : Int32).toNatClampNeg) by decide) rfl dX6_floods_152 (st_M_0 cI q (uA M 0 (upd (M 0) 9 0)) (upd (upd (M 0) 9 0) 19 (((upd (M 0) 9 0) 19) + 0))) (fun H locs hP hD hS => ?_)
            refine lv_aload_n hx hb dX6_floods_153 rfl (lv_at hl 0 rfl) ?_
            refine va_get (D := G) (ci := 6) (v := .ref (q 1)) (C := RX6) (T := TX6) (N := 11) hx hb hts hinX6 hown hK hP 0 rfl rfl 0 (by decide) hL7 (fun _ h9 => h9) rfl dX6_floods_154 ?_
            refine lv_bipush (v := 7) hx hb dX6_floods_157 (by decide) ?_
            refine lv_iconst (v := (-1)) hx hb dX6_floods_159 (by decide) ?_
            refine k_ast (f := (upd (upd (M 0) 9 0) 19 (((upd (M 0) 9 0) 19) + 0))) (j := 7) (ws' := (wM cI q (uA (uA (uA M 0 (upd (M 0) 9 0)) 0 (upd (upd (M 0) 9 0) 19 (((upd (M 0) 9 0) 19) + 0))) 0 (upd (upd (upd (M 0) 9 0) 19 (((upd (M 0) 9 0) 19) + 0)) 7 (-1))))) hx hb hK hP hD hS 1 0 rfl rfl (show ¬ ((7 : Int32) < 0 ∨ 86 ≤ (7 : Int32).toNatClampNeg) by decide) rfl dX6_floods_160 (st_M_0 cI q (uA (uA M 0 (upd (M 0) 9 0)) 0 (upd (upd (M 0) 9 0) 19 (((upd (M 0) 9 0) 19) + 0))) (upd (upd (upd (M 0) 9 0) 19 (((upd (M 0) 9 0) 19) + 0)) 7 (-1))) (fun H locs hP hD hS => ?_)
            exact W.vret hx hb hr (fun t ht hW => ⟨⟨(uA (uA (uA M 0 (upd (M 0) 9 0)) 0 (upd (upd (M 0) 9 0) 19 (((upd (M 0) 9 0) 19) + 0))) 0 (upd (upd (upd (M 0) 9 0) 19 (((upd (M 0) 9 0) 19) + 0)) 7 (-1))), rfl, h, by rw [ht]; exact hP, hD⟩, hS.F ht⟩) hS.2.2 dX6_floods_161
          · have h := h.2 c_8
            refine lv_iconst (v := 1) hx hb dX6_floods_146 (by decide) ?_
            refine lv_goto (tgt := 151) hx hb dX6_floods_147 (by decide) ?_
            refine lv_iadd hx hb dX6_floods_151 ?_
            refine k_ast (f := (upd (M 0) 9 0)) (j := 19) (ws' := (wM cI q (uA (uA M 0 (upd (M 0) 9 0)) 0 (upd (upd (M 0) 9 0) 19 (((upd (M 0) 9 0) 19) + 1))))) hx hb hK hP hD hS 1 0 rfl rfl (show ¬ ((19 : Int32) < 0 ∨ 86 ≤ (19 : Int32).toNatClampNeg) by decide) rfl dX6_floods_152 (st_M_0 cI q (uA M 0 (upd (M 0) 9 0)) (upd (upd (M 0) 9 0) 19 (((upd (M 0) 9 0) 19) + 1))) (fun H locs hP hD hS => ?_)
            refine lv_aload_n hx hb dX6_floods_153 rfl (lv_at hl 0 rfl) ?_
            refine va_get (D := G) (ci := 6) (v := .ref (q 1)) (C := RX6) (T := TX6) (N := 11) hx hb hts hinX6 hown hK hP 0 rfl rfl 0 (by decide) hL7 (fun _ h9 => h9) rfl dX6_floods_154 ?_
            refine lv_bipush (v := 7) hx hb dX6_floods_157 (by decide) ?_
            refine lv_iconst (v := (-1)) hx hb dX6_floods_159 (by decide) ?_
            refine k_ast (f := (upd (upd (M 0) 9 0) 19 (((upd (M 0) 9 0) 19) + 1))) (j := 7) (ws' := (wM cI q (uA (uA (uA M 0 (upd (M 0) 9 0)) 0 (upd (upd (M 0) 9 0) 19 (((upd (M 0) 9 0) 19) + 1))) 0 (upd (upd (upd (M 0) 9 0) 19 (((upd (M 0) 9 0) 19) + 1)) 7 (-1))))) hx hb hK hP hD hS 1 0 rfl rfl (show ¬ ((7 : Int32) < 0 ∨ 86 ≤ (7 : Int32).toNatClampNeg) by decide) rfl dX6_floods_160 (st_M_0 cI q (uA (uA M 0 (upd (M 0) 9 0)) 0 (upd (upd (M 0) 9 0) 19 (((upd (M 0) 9 0) 19) + 1))) (upd (upd (upd (M 0) 9 0) 19 (((upd (M 0) 9 0) 19) + 1)) 7 (-1))) (fun H locs hP hD hS => ?_)
            exact W.vret hx hb hr (fun t ht hW => ⟨⟨(uA (uA (uA M 0 (upd (M 0) 9 0)) 0 (upd (upd (M 0) 9 0) 19 (((upd (M 0) 9 0) 19) + 1))) 0 (upd (upd (upd (M 0) 9 0) 19 (((upd (M 0) 9 0) 19) + 1)) 7 (-1))), rfl, h, by rw [ht]; exact hP, hD⟩, hS.F ht⟩) hS.2.2 dX6_floods_161
    · have h := h.2 c_5
      refine lv_aload_n hx hb dX6_floods_25 rfl (lv_at hl 0 rfl) ?_
      refine va_get (D := G) (ci := 6) (v := .ref (q 1)) (C := RX6) (T := TX6) (N := 11) hx hb hts hinX6 hown hK hP 0 rfl rfl 0 (by decide) hL7 (fun _ h9 => h9) rfl dX6_floods_26 ?_
      refine lv_bipush (v := 9) hx hb dX6_floods_29 (by decide) ?_
      refine lv_iconst (v := 1) hx hb dX6_floods_31 (by decide) ?_
      refine k_ast (f := (M 0)) (j := 9) (ws' := (wM cI q (uA M 0 (upd (M 0) 9 1)))) hx hb hK hP hD hS 1 0 rfl rfl (show ¬ ((9 : Int32) < 0 ∨ 86 ≤ (9 : Int32).toNatClampNeg) by decide) rfl dX6_floods_32 (st_M_0 cI q M (upd (M 0) 9 1)) (fun H locs hP hD hS => ?_)
      refine lv_aload_n hx hb dX6_floods_33 rfl (lv_at hl 0 rfl) ?_
      refine va_get (D := G) (ci := 6) (v := .ref (q 1)) (C := RX6) (T := TX6) (N := 11) hx hb hts hinX6 hown hK hP 0 rfl rfl 0 (by decide) hL7 (fun _ h9 => h9) rfl dX6_floods_34 ?_
      refine lv_bipush (v := 16) hx hb dX6_floods_37 (by decide) ?_
      refine lv_dup2_11 hx hb dX6_floods_39 rfl rfl ?_
      refine k_ald (f := (upd (M 0) 9 1)) (j := 16) (v := ((upd (M 0) 9 1) 16)) hx hb hK hP 1 0 rfl rfl (show ¬ ((16 : Int32) < 0 ∨ 86 ≤ (16 : Int32).toNatClampNeg) by decide) rfl rfl dX6_floods_40 ?_
      refine lv_iconst (v := 1) hx hb dX6_floods_41 (by decide) ?_
      refine lv_iadd hx hb dX6_floods_42 ?_
      refine k_ast (f := (upd (M 0) 9 1)) (j := 16) (ws' := (wM cI q (uA (uA M 0 (upd (M 0) 9 1)) 0 (upd (upd (M 0) 9 1) 16 (((upd (M 0) 9 1) 16) + 1))))) hx hb hK hP hD hS 1 0 rfl rfl (show ¬ ((16 : Int32) < 0 ∨ 86 ≤ (16 : Int32).toNatClampNeg) by decide) rfl dX6_floods_43 (st_M_0 cI q (uA M 0 (upd (M 0) 9 1)) (upd (upd (M 0) 9 1) 16 (((upd (M 0) 9 1) 16) + 1))) (fun H locs hP hD hS => ?_)
      refine lv_aload_n hx hb dX6_floods_44 rfl (lv_at hl 0 rfl) ?_
      refine va_get (D := G) (ci := 6) (v := .ref (q 1)) (C := RX6) (T := TX6) (N := 11) hx hb hts hinX6 hown hK hP 0 rfl rfl 0 (by decide) hL7 (fun _ h9 => h9) rfl dX6_floods_45 ?_
      refine lv_bipush (v := 7) hx hb dX6_floods_48 (by decide) ?_
      refine k_ald (f := (upd (upd (M 0) 9 1) 16 (((upd (M 0) 9 1) 16) + 1))) (j := 7) (v := ((upd (upd (M 0) 9 1) 16 (((upd (M 0) 9 1) 16) + 1)) 7)) hx hb hK hP 1 0 rfl rfl (show ¬ ((7 : Int32) < 0 ∨ 86 ≤ (7 : Int32).toNatClampNeg) by decide) rfl rfl dX6_floods_50 ?_
      refine lv_if_lt (tgt := 161) hx hb dX6_floods_51 (by decide) (fun c_9 => ?_) (fun c_9 => ?_)
      · have h := h.1 c_9
        exact W.vret hx hb hr (fun t ht hW => ⟨⟨(uA (uA M 0 (upd (M 0) 9 1)) 0 (upd (upd (M 0) 9 1) 16 (((upd (M 0) 9 1) 16) + 1))), rfl, h, by rw [ht]; exact hP, hD⟩, hS.F ht⟩) hS.2.2 dX6_floods_161
      · have h := h.2 c_9
        refine lv_aload_n hx hb dX6_floods_54 rfl (lv_at hl 0 rfl) ?_
        refine lv_aload_n hx hb dX6_floods_55 rfl (lv_at hl 0 rfl) ?_
        refine va_get (D := G) (ci := 6) (v := .ref (q 1)) (C := RX6) (T := TX6) (N := 11) hx hb hts hinX6 hown hK hP 0 rfl rfl 0 (by decide) hL7 (fun _ h9 => h9) rfl dX6_floods_56 ?_
        refine lv_bipush (v := 7) hx hb dX6_floods_59 (by decide) ?_
        refine k_ald (f := (upd (upd (M 0) 9 1) 16 (((upd (M 0) 9 1) 16) + 1))) (j := 7) (v := ((upd (upd (M 0) 9 1) 16 (((upd (M 0) 9 1) 16) + 1)) 7)) hx hb hK hP 1 0 rfl rfl (show ¬ ((7 : Int32) < 0 ∨ 86 ≤ (7 : Int32).toNatClampNeg) by decide) rfl rfl dX6_floods_61 ?_
        refine lv_aload_n hx hb dX6_floods_62 rfl (lv_at hl 0 rfl) ?_
        refine va_get (D := G) (ci := 6) (v := .ref (q 1)) (C := RX6) (T := TX6) (N := 11) hx hb hts hinX6 hown hK hP 0 rfl rfl 0 (by decide) hL7 (fun _ h9 => h9) rfl dX6_floods_63 ?_
        refine lv_bipush (v := 8) hx hb dX6_floods_66 (by decide) ?_
        refine k_ald (f := (upd (upd (M 0) 9 1) 16 (((upd (M 0) 9 1) 16) + 1))) (j := 8) (v := ((upd (upd (M 0) 9 1) 16 (((upd (M 0) 9 1) 16) + 1)) 8)) hx hb hK hP 1 0 rfl rfl (show ¬ ((8 : Int32) < 0 ∨ 86 ≤ (8 : Int32).toNatClampNeg) by decide) rfl rfl dX6_floods_68 ?_
        refine kc_v (As := [.int ((upd (upd (M 0) 9 1) 16 (((upd (M 0) 9 1) 16) + 1)) 7), .int ((upd (upd (M 0) 9 1) 16 (((upd (M 0) 9 1) 16) + 1)) 8)]) (rest := []) (wg := (fun u => (wM cI q u))) ⟨hx, hb, hml, hown, hts⟩ (c_X6_marks l G cI cC cD q _ (uA (uA M 0 (upd (M 0) 9 1)) 0 (upd (upd (M 0) 9 1) 16 (((upd (M 0) 9 1) 16) + 1))) ((upd (upd (M 0) 9 1) 16 (((upd (M 0) 9 1) 16) + 1)) 7) ((upd (upd (M 0) 9 1) 16 (((upd (M 0) 9 1) 16) + 1)) 8) _ h) (cwV 2 hts gX6_floods_X6_marks rfl rfl rfl (by decide +kernel) ⟨Nat.le_of_ble_eq_true rfl, Nat.le_of_ble_eq_true rfl⟩) hK hN hP hD hS hA (em_MM cI q (uA (uA M 0 (upd (M 0) 9 1)) 0 (upd (upd (M 0) 9 1) 16 (((upd (M 0) 9 1) 16) + 1)))) (fun u => rp_MM cI q (uA (uA M 0 (upd (M 0) 9 1)) 0 (upd (upd (M 0) 9 1) 16 (((upd (M 0) 9 1) 16) + 1))) u) rfl rfl rfl rfl hl.1 rfl (Nat.le_of_ble_eq_true rfl) dX6_floods_69 ⟨Nat.zero_le _, Nat.zero_le _⟩ (fun u_10 H locs h hP hD hS => ?_)
        refine lv_aload_n hx hb dX6_floods_72 rfl (lv_at hl 0 rfl) ?_
        refine va_get (D := G) (ci := 6) (v := .ref (q 1)) (C := RX6) (T := TX6) (N := 11) hx hb hts hinX6 hown hK hP 0 rfl rfl 0 (by decide) hL7 (fun _ h9 => h9) rfl dX6_floods_73 ?_
        refine lv_bipush (v := 7) hx hb dX6_floods_76 (by decide) ?_
        refine lv_iconst (v := (-1)) hx hb dX6_floods_78 (by decide) ?_
        refine k_ast (f := (u_10 0)) (j := 7) (ws' := (wM cI q (uA u_10 0 (upd (u_10 0) 7 (-1))))) hx hb hK hP hD hS 1 0 rfl rfl (show ¬ ((7 : Int32) < 0 ∨ 86 ≤ (7 : Int32).toNatClampNeg) by decide) rfl dX6_floods_79 (st_M_0 cI q u_10 (upd (u_10 0) 7 (-1))) (fun H locs hP hD hS => ?_)
        refine lv_aload_n hx hb dX6_floods_80 rfl (lv_at hl 0 rfl) ?_
        refine va_get (D := G) (ci := 6) (v := .ref (q 1)) (C := RX6) (T := TX6) (N := 11) hx hb hts hinX6 hown hK hP 0 rfl rfl 0 (by decide) hL7 (fun _ h9 => h9) rfl dX6_floods_81 ?_
        refine lv_bipush (v := 19) hx hb dX6_floods_84 (by decide) ?_
        refine lv_dup2_11 hx hb dX6_floods_86 rfl rfl ?_
        refine k_ald (f := (upd (u_10 0) 7 (-1))) (j := 19) (v := ((upd (u_10 0) 7 (-1)) 19)) hx hb hK hP 1 0 rfl rfl (show ¬ ((19 : Int32) < 0 ∨ 86 ≤ (19 : Int32).toNatClampNeg) by decide) rfl rfl dX6_floods_87 ?_
        refine lv_iconst (v := 1) hx hb dX6_floods_88 (by decide) ?_
        refine lv_iadd hx hb dX6_floods_89 ?_
        refine k_ast (f := (upd (u_10 0) 7 (-1))) (j := 19) (ws' := (wM cI q (uA (uA u_10 0 (upd (u_10 0) 7 (-1))) 0 (upd (upd (u_10 0) 7 (-1)) 19 (((upd (u_10 0) 7 (-1)) 19) + 1))))) hx hb hK hP hD hS 1 0 rfl rfl (show ¬ ((19 : Int32) < 0 ∨ 86 ≤ (19 : Int32).toNatClampNeg) by decide) rfl dX6_floods_90 (st_M_0 cI q (uA u_10 0 (upd (u_10 0) 7 (-1))) (upd (upd (u_10 0) 7 (-1)) 19 (((upd (u_10 0) 7 (-1)) 19) + 1))) (fun H locs hP hD hS => ?_)
        refine lv_goto (tgt := 161) hx hb dX6_floods_91 (by decide) ?_
        exact W.vret hx hb hr (fun t ht hW => ⟨⟨(uA (uA u_10 0 (upd (u_10 0) 7 (-1))) 0 (upd (upd (u_10 0) 7 (-1)) 19 (((upd (u_10 0) 7 (-1)) 19) + 1))), rfl, h, by rw [ht]; exact hP, hD⟩, hS.F ht⟩) hS.2.2 dX6_floods_161
