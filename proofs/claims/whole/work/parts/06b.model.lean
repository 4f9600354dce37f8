def q_X6_marks (x : Int32) (y : Int32) (M : St) (Q : St → Prop) : Prop :=
  q_X6_markOf x M (fun r_1 => (r_1 < 0 → (((M 0) 11) = 4 → ∃ (I_20 : Nat → Int32 → St → Prop) (n_24 : Nat), I_20 n_24 ((36 + (2 * ((upd (M 0) 11 (((M 0) 11) - 1)) 11))) + 1) (uA M 0 (upd (M 0) 11 (((M 0) 11) - 1))) ∧ ∀ (n_19 : Nat) (x4_21 : Int32) (D_22 : St), I_20 n_19 x4_21 D_22 → ((x4_21 < 38 → Q (uA (uA (uA D_22 0 (upd (D_22 0) 36 x)) 0 (upd (upd (D_22 0) 36 x) 37 y)) 0 (upd (upd (upd (D_22 0) 36 x) 37 y) 11 (((upd (upd (D_22 0) 36 x) 37 y) 11) + 1)))) ∧ (¬ (x4_21 < 38) → vp_in (x4_21 - 2) 86 ∧ (vp_in x4_21 86 ∧ (∃ n_31, n_31 < n_19 ∧ I_20 n_31 (x4_21 + (-1)) (uA D_22 0 (upd (D_22 0) ((x4_21).toNatClampNeg) ((D_22 0) (((x4_21 - 2)).toNatClampNeg))))))))) ∧ (¬ (((M 0) 11) = 4) → ∃ (I_5 : Nat → Int32 → St → Prop) (n_9 : Nat), I_5 n_9 ((36 + (2 * ((M 0) 11))) + 1) M ∧ ∀ (n_4 : Nat) (x4_6 : Int32) (D_7 : St), I_5 n_4 x4_6 D_7 → ((x4_6 < 38 → Q (uA (uA (uA D_7 0 (upd (D_7 0) 36 x)) 0 (upd (upd (D_7 0) 36 x) 37 y)) 0 (upd (upd (upd (D_7 0) 36 x) 37 y) 11 (((upd (upd (D_7 0) 36 x) 37 y) 11) + 1)))) ∧ (¬ (x4_6 < 38) → vp_in (x4_6 - 2) 86 ∧ (vp_in x4_6 86 ∧ (∃ n_16, n_16 < n_4 ∧ I_5 n_16 (x4_6 + (-1)) (uA D_7 0 (upd (D_7 0) ((x4_6).toNatClampNeg) ((D_7 0) (((x4_6 - 2)).toNatClampNeg)))))))))) ∧ (¬ (r_1 < 0) → q_X6_dropsMark r_1 M (fun u_34 => (((u_34 0) 11) = 4 → ∃ (I_52 : Nat → Int32 → St → Prop) (n_56 : Nat), I_52 n_56 ((36 + (2 * ((upd (u_34 0) 11 (((u_34 0) 11) - 1)) 11))) + 1) (uA u_34 0 (upd (u_34 0) 11 (((u_34 0) 11) - 1))) ∧ ∀ (n_51 : Nat) (x4_53 : Int32) (D_54 : St), I_52 n_51 x4_53 D_54 → ((x4_53 < 38 → Q (uA (uA (uA D_54 0 (upd (D_54 0) 36 x)) 0 (upd (upd (D_54 0) 36 x) 37 y)) 0 (upd (upd (upd (D_54 0) 36 x) 37 y) 11 (((upd (upd (D_54 0) 36 x) 37 y) 11) + 1)))) ∧ (¬ (x4_53 < 38) → vp_in (x4_53 - 2) 86 ∧ (vp_in x4_53 86 ∧ (∃ n_63, n_63 < n_51 ∧ I_52 n_63 (x4_53 + (-1)) (uA D_54 0 (upd (D_54 0) ((x4_53).toNatClampNeg) ((D_54 0) (((x4_53 - 2)).toNatClampNeg))))))))) ∧ (¬ (((u_34 0) 11) = 4) → ∃ (I_37 : Nat → Int32 → St → Prop) (n_41 : Nat), I_37 n_41 ((36 + (2 * ((u_34 0) 11))) + 1) u_34 ∧ ∀ (n_36 : Nat) (x4_38 : Int32) (D_39 : St), I_37 n_36 x4_38 D_39 → ((x4_38 < 38 → Q (uA (uA (uA D_39 0 (upd (D_39 0) 36 x)) 0 (upd (upd (D_39 0) 36 x) 37 y)) 0 (upd (upd (upd (D_39 0) 36 x) 37 y) 11 (((upd (upd (D_39 0) 36 x) 37 y) 11) + 1)))) ∧ (¬ (x4_38 < 38) → vp_in (x4_38 - 2) 86 ∧ (vp_in x4_38 86 ∧ (∃ n_48, n_48 < n_36 ∧ I_37 n_48 (x4_38 + (-1)) (uA D_39 0 (upd (D_39 0) ((x4_38).toNatClampNeg) ((D_39 0) (((x4_38 - 2)).toNatClampNeg))))))))))))
set_option maxHeartbeats 4000000 in
set_option maxRecDepth 100000 in
theorem c_X6_marks (l : Launch) (G : va_G) (cI cC cD : ClassId) (q : Nat → Nat) (sz : Nat) (M : St) (x : Int32) (y : Int32) (Q : St → Prop) (h : q_X6_marks x y M Q) : Met l yX6_marks wsX6_marks ({ frames := 2, cells := 0, slots := 0, locals := 46 }) (va_Pc [.ref (q 0), .int x, .int y] (PW G (ty3 cI cC cD) (wM cI q M) sz)) (va_Qv Q (BW G (fun u : St => (wM cI q u)) (va_A (wM cI q M) sz)) (va_A (wM cI q M) sz)) 0 0 (va_A (wM cI q M) sz) := by
  refine Met.ofW (cc := cX6_marks) (maxL := 5) (ret := none) (by decide) rfl ?_
  intro p e s m args below meth c s₁ B hml hv
  obtain ⟨rfl, hsz, hP, hK, hD0, hN⟩ := hv
  have hx := B.exec
  have hb := B.bytes
  have hr := B.returns
  have hts := atoms_spec (ws := wsX6_marks) B.pre
  have hown : s.vm.findClass RX6 = some m.cls := findClass_of_methodNamed B.named
  have hlocks := B.notSynchronized
  subst hsz
  have hD := hD0.self (sz := s.heap.size)
  generalize hAe : va_A (wM cI q M) s.heap.size = A at hD ⊢
  have hA : ∀ q : Nat, s.heap.size ≤ q → A q := fun q h => by rw [← hAe]; exact Or.inr h
  have hS : va_S A s.heap s.heap [] := va_S.rf
  have hl := lv_entry ([.ref (q 0), .int x, .int y]) (n := 5) (Nat.le_of_ble_eq_true rfl)
  rw [lg_entry_eq]
  generalize (lg_sl ([.ref (q 0), .int x, .int y]) ++ List.replicate (5 - (lg_sl ([.ref (q 0), .int x, .int y])).length) Slot.unset).toArray = ls at hl ⊢
  have hl : lv_has ls 5 [(0, .ref (q 0)), (1, .int x), (2, .int y)] := hl
  have hinX6 : ∀ w ∈ wsX60, w ∈ wsX6_marks := by decide +kernel
  have hL7 := hts (.fieldLink RX6 7 "CraneGatesModel" "s" "[I") (by decide +kernel)
  unfold q_X6_marks at h
  refine lv_aload_n hx hb dX6_marks_0 rfl (lv_at hl 0 rfl) ?_
  refine lv_iload_n hx hb dX6_marks_1 rfl (lv_at hl 1 rfl) ?_
  refine kc_i (As := [.int x]) (rest := []) (wg := (fun _ => (wM cI q M))) ⟨hx, hb, hml, hown, hts⟩ (c_X6_markOf l G cI cC cD q _ M x _ h) (cwV 1 hts gX6_marks_X6_markOf rfl rfl rfl (by decide +kernel) ⟨Nat.le_of_ble_eq_true rfl, Nat.le_of_ble_eq_true rfl⟩) hK hN hP hD hS hA (em_MM cI q M) (fun _ => rp_self (em_MM cI q M)) rfl rfl rfl rfl hl.1 rfl (Nat.le_of_ble_eq_true rfl) dX6_marks_2 ⟨Nat.zero_le _, Nat.zero_le _⟩ (fun r_1 _ H locs h hP hD hS => ?_)
  refine lv_istore_n (lv' := [(3, .int r_1), (0, .ref (q 0)), (1, .int x), (2, .int y)]) hx hb dX6_marks_5 rfl hl (by decide) rfl (fun ls hl => ?_)
  refine lv_iload_n hx hb dX6_marks_6 rfl (lv_at hl 0 rfl) ?_
  refine lv_if_lt (tgt := 15) hx hb dX6_marks_7 (by decide) (fun c_2 => ?_) (fun c_2 => ?_)
  · have h := h.1 c_2
    refine lv_aload_n hx hb dX6_marks_15 rfl (lv_at hl 1 rfl) ?_
    refine va_get (D := G) (ci := 6) (v := .ref (q 1)) (C := RX6) (T := TX6) (N := 11) hx hb hts hinX6 hown hK hP 0 rfl rfl 0 (by decide) hL7 (fun _ h9 => h9) rfl dX6_marks_16 ?_
    refine lv_bipush (v := 11) hx hb dX6_marks_19 (by decide) ?_
    refine k_ald (f := (M 0)) (j := 11) (v := ((M 0) 11)) hx hb hK hP 1 0 rfl rfl (show ¬ ((11 : Int32) < 0 ∨ 86 ≤ (11 : Int32).toNatClampNeg) by decide) rfl rfl dX6_marks_21 ?_
    refine lv_iconst (v := 4) hx hb dX6_marks_22 (by decide) ?_
    refine lv_icmp_ne (tgt := 37) hx hb dX6_marks_23 (by decide) (fun c_3 => ?_) (fun c_3 => ?_)
    · have h := h.2 c_3
      refine lv_bipush (v := 36) hx hb dX6_marks_37 (by decide) ?_
      refine lv_iconst (v := 2) hx hb dX6_marks_39 (by decide) ?_
      refine lv_aload_n hx hb dX6_marks_40 rfl (lv_at hl 1 rfl) ?_
      refine va_get (D := G) (ci := 6) (v := .ref (q 1)) (C := RX6) (T := TX6) (N := 11) hx hb hts hinX6 hown hK hP 0 rfl rfl 0 (by decide) hL7 (fun _ h9 => h9) rfl dX6_marks_41 ?_
      refine lv_bipush (v := 11) hx hb dX6_marks_44 (by decide) ?_
      refine k_ald (f := (M 0)) (j := 11) (v := ((M 0) 11)) hx hb hK hP 1 0 rfl rfl (show ¬ ((11 : Int32) < 0 ∨ 86 ≤ (11 : Int32).toNatClampNeg) by decide) rfl rfl dX6_marks_46 ?_
      refine lv_imul hx hb dX6_marks_47 ?_
      refine lv_iadd hx hb dX6_marks_48 ?_
      refine lv_iconst (v := 1) hx hb dX6_marks_49 (by decide) ?_
      refine lv_iadd hx hb dX6_marks_50 ?_
      refine lv_istore (lv' := [(4, .int ((36 + (2 * ((M 0) 11))) + 1)), (3, .int r_1), (0, .ref (q 0)), (1, .int x), (2, .int y)]) hx hb dX6_marks_51 hl (by decide) rfl (fun ls hl => ?_)
      obtain ⟨I_5, n_9, h_10, hI_11⟩ := h
      have lp_12 : ∀ (n_4 : Nat) (x4_6 : Int32) (D_7 : St), I_5 n_4 x4_6 D_7 → ∀ (H : Heap) (locs : List Loc) (ls : Array Slot), va_P G vwCl (wM cI q D_7) H → va_D A (wM cI q D_7) → va_S A s.heap H locs → lv_has ls 5 [(4, .int x4_6), (3, .int r_1), (0, .ref (q 0)), (1, .int x), (2, .int y)] → W p l e (headSpec wsX6_marks ({ frames := 2, cells := 0, slots := 0, locals := 46 })).room s m ([.ref (q 0), .int x, .int y] : List Value).toArray below meth c H locs 0 0 (MQ below (va_Qv Q (BW G (fun u : St => (wM cI q u)) A) A) ([.ref (q 0), .int x, .int y] : List Value).toArray s 0 0 A) (F0 m 53 ls []) := by
        intro n_4
        induction n_4 using Nat.strongRecOn with
        | ind n_4 ih_8 =>
          intro x4_6 D_7 hIn H locs ls hP hD hS hl
          have h := hI_11 n_4 x4_6 D_7 hIn
          refine lv_iload hx hb dX6_marks_53 (lv_at hl 0 rfl) ?_
          refine lv_bipush (v := 38) hx hb dX6_marks_55 (by decide) ?_
          refine lv_icmp_lt (tgt := 82) hx hb dX6_marks_57 (by decide) (fun c_13 => ?_) (fun c_13 => ?_)
          · have h := h.1 c_13
            refine lv_aload_n hx hb dX6_marks_82 rfl (lv_at hl 2 rfl) ?_
            refine va_get (D := G) (ci := 6) (v := .ref (q 1)) (C := RX6) (T := TX6) (N := 11) hx hb hts hinX6 hown hK hP 0 rfl rfl 0 (by decide) hL7 (fun _ h9 => h9) rfl dX6_marks_83 ?_
            refine lv_bipush (v := 36) hx hb dX6_marks_86 (by decide) ?_
            refine lv_iload_n hx hb dX6_marks_88 rfl (lv_at hl 3 rfl) ?_
            refine k_ast (f := (D_7 0)) (j := 36) (ws' := (wM cI q (uA D_7 0 (upd (D_7 0) 36 x)))) hx hb hK hP hD hS 1 0 rfl rfl (show ¬ ((36 : Int32) < 0 ∨ 86 ≤ (36 : Int32).toNatClampNeg) by decide) rfl dX6_marks_89 rfl (fun H locs hP hD hS => ?_)
            refine lv_aload_n hx hb dX6_marks_90 rfl (lv_at hl 2 rfl) ?_
            refine va_get (D := G) (ci := 6) (v := .ref (q 1)) (C := RX6) (T := TX6) (N := 11) hx hb hts hinX6 hown hK hP 0 rfl rfl 0 (by decide) hL7 (fun _ h9 => h9) rfl dX6_marks_91 ?_
            refine lv_bipush (v := 37) hx hb dX6_marks_94 (by decide) ?_
            refine lv_iload_n hx hb dX6_marks_96 rfl (lv_at hl 4 rfl) ?_
            refine k_ast (f := (upd (D_7 0) 36 x)) (j := 37) (ws' := (wM cI q (uA (uA D_7 0 (upd (D_7 0) 36 x)) 0 (upd (upd (D_7 0) 36 x) 37 y)))) hx hb hK hP hD hS 1 0 rfl rfl (show ¬ ((37 : Int32) < 0 ∨ 86 ≤ (37 : Int32).toNatClampNeg) by decide) rfl dX6_marks_97 rfl (fun H locs hP hD hS => ?_)
            refine lv_aload_n hx hb dX6_marks_98 rfl (lv_at hl 2 rfl) ?_
            refine va_get (D := G) (ci := 6) (v := .ref (q 1)) (C := RX6) (T := TX6) (N := 11) hx hb hts hinX6 hown hK hP 0 rfl rfl 0 (by decide) hL7 (fun _ h9 => h9) rfl dX6_marks_99 ?_
            refine lv_bipush (v := 11) hx hb dX6_marks_102 (by decide) ?_
            refine lv_dup2_11 hx hb dX6_marks_104 rfl rfl ?_
            refine k_ald (f := (upd (upd (D_7 0) 36 x) 37 y)) (j := 11) (v := ((upd (upd (D_7 0) 36 x) 37 y) 11)) hx hb hK hP 1 0 rfl rfl (show ¬ ((11 : Int32) < 0 ∨ 86 ≤ (11 : Int32).toNatClampNeg) by decide) rfl rfl dX6_marks_105 ?_
            refine lv_iconst (v := 1) hx hb dX6_marks_106 (by decide) ?_
            refine lv_iadd hx hb dX6_marks_107 ?_
            refine k_ast (f := (upd (upd (D_7 0) 36 x) 37 y)) (j := 11) (ws' := (wM cI q (uA (uA (uA D_7 0 (upd (D_7 0) 36 x)) 0 (upd (upd (D_7 0) 36 x) 37 y)) 0 (upd (upd (upd (D_7 0) 36 x) 37 y) 11 (((upd (upd (D_7 0) 36 x) 37 y) 11) + 1))))) hx hb hK hP hD hS 1 0 rfl rfl (show ¬ ((11 : Int32) < 0 ∨ 86 ≤ (11 : Int32).toNatClampNeg) by decide) rfl dX6_marks_108 rfl (fun H locs hP hD hS => ?_)
            exact W.vret hx hb hr (fun t ht hW => ⟨⟨(uA (uA (uA D_7 0 (upd (D_7 0) 36 x)) 0 (upd (upd (D_7 0) 36 x) 37 y)) 0 (upd (upd (upd (D_7 0) 36 x) 37 y) 11 (((upd (upd (D_7 0) 36 x) 37 y) 11) + 1))), rfl, h, by rw [ht]; exact hP, hD⟩, hS.F ht⟩) hS.2.2 dX6_marks_109
          · have h := h.2 c_13
            refine lv_aload_n hx hb dX6_marks_60 rfl (lv_at hl 2 rfl) ?_
            refine va_get (D := G) (ci := 6) (v := .ref (q 1)) (C := RX6) (T := TX6) (N := 11) hx hb hts hinX6 hown hK hP 0 rfl rfl 0 (by decide) hL7 (fun _ h9 => h9) rfl dX6_marks_61 ?_
            refine lv_iload hx hb dX6_marks_64 (lv_at hl 0 rfl) ?_
            refine lv_aload_n hx hb dX6_marks_66 rfl (lv_at hl 2 rfl) ?_
            refine va_get (D := G) (ci := 6) (v := .ref (q 1)) (C := RX6) (T := TX6) (N := 11) hx hb hts hinX6 hown hK hP 0 rfl rfl 0 (by decide) hL7 (fun _ h9 => h9) rfl dX6_marks_67 ?_
            refine lv_iload hx hb dX6_marks_70 (lv_at hl 0 rfl) ?_
            refine lv_iconst (v := 2) hx hb dX6_marks_72 (by decide) ?_
            refine lv_isub hx hb dX6_marks_73 ?_
            obtain ⟨hi_14, h⟩ := h
            refine k_ald (f := (D_7 0)) (j := ((x4_6 - 2)).toNatClampNeg) (v := ((D_7 0) (((x4_6 - 2)).toNatClampNeg))) hx hb hK hP 1 0 rfl rfl hi_14 rfl rfl dX6_marks_74 ?_
            obtain ⟨hi_15, h⟩ := h
            refine k_ast (f := (D_7 0)) (j := (x4_6).toNatClampNeg) (ws' := (wM cI q (uA D_7 0 (upd (D_7 0) ((x4_6).toNatClampNeg) ((D_7 0) (((x4_6 - 2)).toNatClampNeg)))))) hx hb hK hP hD hS 1 0 rfl rfl hi_15 rfl dX6_marks_75 rfl (fun H locs hP hD hS => ?_)
            refine lv_iinc (v := x4_6 + (-1)) (lv' := [(4, .int (x4_6 + (-1))), (3, .int r_1), (0, .ref (q 0)), (1, .int x), (2, .int y)]) hx hb dX6_marks_76 hl (k := 0) rfl rfl (by decide) rfl (fun ls hl => ?_)
            refine lv_goto (tgt := 53) hx hb dX6_marks_79 (by decide) ?_
            obtain ⟨n_16, lt_17, h_18⟩ := h
            exact ih_8 n_16 lt_17 _ _ h_18 _ _ _ hP hD hS (lv_sub hl [0, 1, 2, 3, 4] rfl)
      exact lp_12 _ _ _ h_10 _ _ _ hP hD hS hl
    · have h := h.1 c_3
      refine lv_aload_n hx hb dX6_marks_26 rfl (lv_at hl 1 rfl) ?_
      refine va_get (D := G) (ci := 6) (v := .ref (q 1)) (C := RX6) (T := TX6) (N := 11) hx hb hts hinX6 hown hK hP 0 rfl rfl 0 (by decide) hL7 (fun _ h9 => h9) rfl dX6_marks_27 ?_
      refine lv_bipush (v := 11) hx hb dX6_marks_30 (by decide) ?_
      refine lv_dup2_11 hx hb dX6_marks_32 rfl rfl ?_
      refine k_ald (f := (M 0)) (j := 11) (v := ((M 0) 11)) hx hb hK hP 1 0 rfl rfl (show ¬ ((11 : Int32) < 0 ∨ 86 ≤ (11 : Int32).toNatClampNeg) by decide) rfl rfl dX6_marks_33 ?_
      refine lv_iconst (v := 1) hx hb dX6_marks_34 (by decide) ?_
      refine lv_isub hx hb dX6_marks_35 ?_
      refine k_ast (f := (M 0)) (j := 11) (ws' := (wM cI q (uA M 0 (upd (M 0) 11 (((M 0) 11) - 1))))) hx hb hK hP hD hS 1 0 rfl rfl (show ¬ ((11 : Int32) < 0 ∨ 86 ≤ (11 : Int32).toNatClampNeg) by decide) rfl dX6_marks_36 rfl (fun H locs hP hD hS => ?_)
      refine lv_bipush (v := 36) hx hb dX6_marks_37 (by decide) ?_
      refine lv_iconst (v := 2) hx hb dX6_marks_39 (by decide) ?_
      refine lv_aload_n hx hb dX6_marks_40 rfl (lv_at hl 1 rfl) ?_
      refine va_get (D := G) (ci := 6) (v := .ref (q 1)) (C := RX6) (T := TX6) (N := 11) hx hb hts hinX6 hown hK hP 0 rfl rfl 0 (by decide) hL7 (fun _ h9 => h9) rfl dX6_marks_41 ?_
      refine lv_bipush (v := 11) hx hb dX6_marks_44 (by decide) ?_
      refine k_ald (f := (upd (M 0) 11 (((M 0) 11) - 1))) (j := 11) (v := ((upd (M 0) 11 (((M 0) 11) - 1)) 11)) hx hb hK hP 1 0 rfl rfl (show ¬ ((11 : Int32) < 0 ∨ 86 ≤ (11 : Int32).toNatClampNeg) by decide) rfl rfl dX6_marks_46 ?_
      refine lv_imul hx hb dX6_marks_47 ?_
      refine lv_iadd hx hb dX6_marks_48 ?_
      refine lv_iconst (v := 1) hx hb dX6_marks_49 (by decide) ?_
      refine lv_iadd hx hb dX6_marks_50 ?_
      refine lv_istore (lv' := [(4, .int ((36 + (2 * ((upd (M 0) 11 (((M 0) 11) - 1)) 11))) + 1)), (3, .int r_1), (0, .ref (q 0)), (1, .int x), (2, .int y)]) hx hb dX6_marks_51 hl (by decide) rfl (fun ls hl => ?_)
      obtain ⟨I_20, n_24, h_25, hI_26⟩ := h
      have lp_27 : ∀ (n_19 : Nat) (x4_21 : Int32) (D_22 : St), I_20 n_19 x4_21 D_22 → ∀ (H : Heap) (locs : List Loc) (ls : Array Slot), va_P G vwCl (wM cI q D_22) H → va_D A (wM cI q D_22) → va_S A s.heap H locs → lv_has ls 5 [(4, .int x4_21), (3, .int r_1), (0, .ref (q 0)), (1, .int x), (2, .int y)] → W p l e (headSpec wsX6_marks ({ frames := 2, cells := 0, slots := 0, locals := 46 })).room s m ([.ref (q 0), .int x, .int y] : List Value).toArray below meth c H locs 0 0 (MQ below (va_Qv Q (BW G (fun u : St => (wM cI q u)) A) A) ([.ref (q 0), .int x, .int y] : List Value).toArray s 0 0 A) (F0 m 53 ls []) := by
        intro n_19
        induction n_19 using Nat.strongRecOn with
        | ind n_19 ih_23 =>
          intro x4_21 D_22 hIn H locs ls hP hD hS hl
          have h := hI_26 n_19 x4_21 D_22 hIn
          refine lv_iload hx hb dX6_marks_53 (lv_at hl 0 rfl) ?_
          refine lv_bipush (v := 38) hx hb dX6_marks_55 (by decide) ?_
          refine lv_icmp_lt (tgt := 82) hx hb dX6_marks_57 (by decide) (fun c_28 => ?_) (fun c_28 => ?_)
          · have h := h.1 c_28
            refine lv_aload_n hx hb dX6_marks_82 rfl (lv_at hl 2 rfl) ?_
            refine va_get (D := G) (ci := 6) (v := .ref (q 1)) (C := RX6) (T := TX6) (N := 11) hx hb hts hinX6 hown hK hP 0 rfl rfl 0 (by decide) hL7 (fun _ h9 => h9) rfl dX6_marks_83 ?_
            refine lv_bipush (v := 36) hx hb dX6_marks_86 (by decide) ?_
            refine lv_iload_n hx hb dX6_marks_88 rfl (lv_at hl 3 rfl) ?_
            refine k_ast (f := (D_22 0)) (j := 36) (ws' := (wM cI q (uA D_22 0 (upd (D_22 0) 36 x)))) hx hb hK hP hD hS 1 0 rfl rfl (show ¬ ((36 : Int32) < 0 ∨ 86 ≤ (36 : Int32).toNatClampNeg) by decide) rfl dX6_marks_89 rfl (fun H locs hP hD hS => ?_)
            refine lv_aload_n hx hb dX6_marks_90 rfl (lv_at hl 2 rfl) ?_
            refine va_get (D := G) (ci := 6) (v := .ref (q 1)) (C := RX6) (T := TX6) (N := 11) hx hb hts hinX6 hown hK hP 0 rfl rfl 0 (by decide) hL7 (fun _ h9 => h9) rfl dX6_marks_91 ?_
            refine lv_bipush (v := 37) hx hb dX6_marks_94 (by decide) ?_
            refine lv_iload_n hx hb dX6_marks_96 rfl (lv_at hl 4 rfl) ?_
            refine k_ast (f := (upd (D_22 0) 36 x)) (j := 37) (ws' := (wM cI q (uA (uA D_22 0 (upd (D_22 0) 36 x)) 0 (upd (upd (D_22 0) 36 x) 37 y)))) hx hb hK hP hD hS 1 0 rfl rfl (show ¬ ((37 : Int32) < 0 ∨ 86 ≤ (37 : Int32).toNatClampNeg) by decide) rfl dX6_marks_97 rfl (fun H locs hP hD hS => ?_)
            refine lv_aload_n hx hb dX6_marks_98 rfl (lv_at hl 2 rfl) ?_
            refine va_get (D := G) (ci := 6) (v := .ref (q 1)) (C := RX6) (T := TX6) (N := 11) hx hb hts hinX6 hown hK hP 0 rfl rfl 0 (by decide) hL7 (fun _ h9 => h9) rfl dX6_marks_99 ?_
            refine lv_bipush (v := 11) hx hb dX6_marks_102 (by decide) ?_
            refine lv_dup2_11 hx hb dX6_marks_104 rfl rfl ?_
            refine k_ald (f := (upd (upd (D_22 0) 36 x) 37 y)) (j := 11) (v := ((upd (upd (D_22 0) 36 x) 37 y) 11)) hx hb hK hP 1 0 rfl rfl (show ¬ ((11 : Int32) < 0 ∨ 86 ≤ (11 : Int32).toNatClampNeg) by decide) rfl rfl dX6_marks_105 ?_
            refine lv_iconst (v := 1) hx hb dX6_marks_106 (by decide) ?_
            refine lv_iadd hx hb dX6_marks_107 ?_
            refine k_ast (f := (upd (upd (D_22 0) 36 x) 37 y)) (j := 11) (ws' := (wM cI q (uA (uA (uA D_22 0 (upd (D_22 0) 36 x)) 0 (upd (upd (D_22 0) 36 x) 37 y)) 0 (upd (upd (upd (D_22 0) 36 x) 37 y) 11 (((upd (upd (D_22 0) 36 x) 37 y) 11) + 1))))) hx hb hK hP hD hS 1 0 rfl rfl (show ¬ ((11 : Int32) < 0 ∨ 86 ≤ (11 : Int32).toNatClampNeg) by decide) rfl dX6_marks_108 rfl (fun H locs hP hD hS => ?_)
            exact W.vret hx hb hr (fun t ht hW => ⟨⟨(uA (uA (uA D_22 0 (upd (D_22 0) 36 x)) 0 (upd (upd (D_22 0) 36 x) 37 y)) 0 (upd (upd (upd (D_22 0) 36 x) 37 y) 11 (((upd (upd (D_22 0) 36 x) 37 y) 11) + 1))), rfl, h, by rw [ht]; exact hP, hD⟩, hS.F ht⟩) hS.2.2 dX6_marks_109
          · have h := h.2 c_28
            refine lv_aload_n hx hb dX6_marks_60 rfl (lv_at hl 2 rfl) ?_
            refine va_get (D := G) (ci := 6) (v := .ref (q 1)) (C := RX6) (T := TX6) (N := 11) hx hb hts hinX6 hown hK hP 0 rfl rfl 0 (by decide) hL7 (fun _ h9 => h9) rfl dX6_marks_61 ?_
            refine lv_iload hx hb dX6_marks_64 (lv_at hl 0 rfl) ?_
            refine lv_aload_n hx hb dX6_marks_66 rfl (lv_at hl 2 rfl) ?_
            refine va_get (D := G) (ci := 6) (v := .ref (q 1)) (C := RX6) (T := TX6) (N := 11) hx hb hts hinX6 hown hK hP 0 rfl rfl 0 (by decide) hL7 (fun _ h9 => h9) rfl dX6_marks_67 ?_
            refine lv_iload hx hb dX6_marks_70 (lv_at hl 0 rfl) ?_
            refine lv_iconst (v := 2) hx hb dX6_marks_72 (by decide) ?_
            refine lv_isub hx hb dX6_marks_73 ?_
            obtain ⟨hi_29, h⟩ := h
            refine k_ald (f := (D_22 0)) (j := ((x4_21 - 2)).toNatClampNeg) (v := ((D_22 0) (((x4_21 - 2)).toNatClampNeg))) hx hb hK hP 1 0 rfl rfl hi_29 rfl rfl dX6_marks_74 ?_
            obtain ⟨hi_30, h⟩ := h
            refine k_ast (f := (D_22 0)) (j := (x4_21).toNatClampNeg) (ws' := (wM cI q (uA D_22 0 (upd (D_22 0) ((x4_21).toNatClampNeg) ((D_22 0) (((x4_21 - 2)).toNatClampNeg)))))) hx hb hK hP hD hS 1 0 rfl rfl hi_30 rfl dX6_marks_75 rfl (fun H locs hP hD hS => ?_)
            refine lv_iinc (v := x4_21 + (-1)) (lv' := [(4, .int (x4_21 + (-1))), (3, .int r_1), (0, .ref (q 0)), (1, .int x), (2, .int y)]) hx hb dX6_marks_76 hl (k := 0) rfl rfl (by decide) rfl (fun ls hl => ?_)
            refine lv_goto (tgt := 53) hx hb dX6_marks_79 (by decide) ?_
            obtain ⟨n_31, lt_32, h_33⟩ := h
            exact ih_23 n_31 lt_32 _ _ h_33 _ _ _ hP hD hS (lv_sub hl [0, 1, 2, 3, 4] rfl)
      exact lp_27 _ _ _ h_25 _ _ _ hP hD hS hl
  · have h := h.2 c_2
    refine lv_aload_n hx hb dX6_marks_10 rfl (lv_at hl 1 rfl) ?_
    refine lv_iload_n hx hb dX6_marks_11 rfl (lv_at hl 0 rfl) ?_
    refine kc_v (As := [.int r_1]) (rest := []) (wg := (fun u => (wM cI q u))) ⟨hx, hb, hml, hown, hts⟩ (c_X6_dropsMark l G cI cC cD q _ M r_1 _ h) (cwV 1 hts gX6_marks_X6_dropsMark rfl rfl rfl (by decide +kernel) ⟨Nat.le_of_ble_eq_true rfl, Nat.le_of_ble_eq_true rfl⟩) hK hN hP hD hS hA (em_MM cI q M) (fun u => rp_MM cI q M u) rfl rfl rfl rfl hl.1 rfl (Nat.le_of_ble_eq_true rfl) dX6_marks_12 ⟨Nat.zero_le _, Nat.zero_le _⟩ (fun u_34 H locs h hP hD hS => ?_)
    refine lv_aload_n hx hb dX6_marks_15 rfl (lv_at hl 1 rfl) ?_
    refine va_get (D := G) (ci := 6) (v := .ref (q 1)) (C := RX6) (T := TX6) (N := 11) hx hb hts hinX6 hown hK hP 0 rfl rfl 0 (by decide) hL7 (fun _ h9 => h9) rfl dX6_marks_16 ?_
    refine lv_bipush (v := 11) hx hb dX6_marks_19 (by decide) ?_
    refine k_ald (f := (u_34 0)) (j := 11) (v := ((u_34 0) 11)) hx hb hK hP 1 0 rfl rfl (show ¬ ((11 : Int32) < 0 ∨ 86 ≤ (11 : Int32).toNatClampNeg) by decide) rfl rfl dX6_marks_21 ?_
    refine lv_iconst (v := 4) hx hb dX6_marks_22 (by decide) ?_
    refine lv_icmp_ne (tgt := 37) hx hb dX6_marks_23 (by decide) (fun c_35 => ?_) (fun c_35 => ?_)
    · have h := h.2 c_35
      refine lv_bipush (v := 36) hx hb dX6_marks_37 (by decide) ?_
      refine lv_iconst (v := 2) hx hb dX6_marks_39 (by decide) ?_
      refine lv_aload_n hx hb dX6_marks_40 rfl (lv_at hl 1 rfl) ?_
      refine va_get (D := G) (ci := 6) (v := .ref (q 1)) (C := RX6) (T := TX6) (N := 11) hx hb hts hinX6 hown hK hP 0 rfl rfl 0 (by decide) hL7 (fun _ h9 => h9) rfl dX6_marks_41 ?_
      refine lv_bipush (v := 11) hx hb dX6_marks_44 (by decide) ?_
      refine k_ald (f := (u_34 0)) (j := 11) (v := ((u_34 0) 11)) hx hb hK hP 1 0 rfl rfl (show ¬ ((11 : Int32) < 0 ∨ 86 ≤ (11 : Int32).toNatClampNeg) by decide) rfl rfl dX6_marks_46 ?_
      refine lv_imul hx hb dX6_marks_47 ?_
      refine lv_iadd hx hb dX6_marks_48 ?_
      refine lv_iconst (v := 1) hx hb dX6_marks_49 (by decide) ?_
      refine lv_iadd hx hb dX6_marks_50 ?_
      refine lv_istore (lv' := [(4, .int ((36 + (2 * ((u_34 0) 11))) + 1)), (3, .int r_1), (0, .ref (q 0)), (1, .int x), (2, .int y)]) hx hb dX6_marks_51 hl (by decide) rfl (fun ls hl => ?_)
      obtain ⟨I_37, n_41, h_42, hI_43⟩ := h
      have lp_44 : ∀ (n_36 : Nat) (x4_38 : Int32) (D_39 : St), I_37 n_36 x4_38 D_39 → ∀ (H : Heap) (locs : List Loc) (ls : Array Slot), va_P G vwCl (wM cI q D_39) H → va_D A (wM cI q D_39) → va_S A s.heap H locs → lv_has ls 5 [(4, .int x4_38), (3, .int r_1), (0, .ref (q 0)), (1, .int x), (2, .int y)] → W p l e (headSpec wsX6_marks ({ frames := 2, cells := 0, slots := 0, locals := 46 })).room s m ([.ref (q 0), .int x, .int y] : List Value).toArray below meth c H locs 0 0 (MQ below (va_Qv Q (BW G (fun u : St => (wM cI q u)) A) A) ([.ref (q 0), .int x, .int y] : List Value).toArray s 0 0 A) (F0 m 53 ls []) := by
        intro n_36
        induction n_36 using Nat.strongRecOn with
        | ind n_36 ih_40 =>
          intro x4_38 D_39 hIn H locs ls hP hD hS hl
          have h := hI_43 n_36 x4_38 D_39 hIn
          refine lv_iload hx hb dX6_marks_53 (lv_at hl 0 rfl) ?_
          refine lv_bipush (v := 38) hx hb dX6_marks_55 (by decide) ?_
          refine lv_icmp_lt (tgt := 82) hx hb dX6_marks_57 (by decide) (fun c_45 => ?_) (fun c_45 => ?_)
          · have h := h.1 c_45
            refine lv_aload_n hx hb dX6_marks_82 rfl (lv_at hl 2 rfl) ?_
            refine va_get (D := G) (ci := 6) (v := .ref (q 1)) (C := RX6) (T := TX6) (N := 11) hx hb hts hinX6 hown hK hP 0 rfl rfl 0 (by decide) hL7 (fun _ h9 => h9) rfl dX6_marks_83 ?_
            refine lv_bipush (v := 36) hx hb dX6_marks_86 (by decide) ?_
            refine lv_iload_n hx hb dX6_marks_88 rfl (lv_at hl 3 rfl) ?_
            refine k_ast (f := (D_39 0)) (j := 36) (ws' := (wM cI q (uA D_39 0 (upd (D_39 0) 36 x)))) hx hb hK hP hD hS 1 0 rfl rfl (show ¬ ((36 : Int32) < 0 ∨ 86 ≤ (36 : Int32).toNatClampNeg) by decide) rfl dX6_marks_89 rfl (fun H locs hP hD hS => ?_)
            refine lv_aload_n hx hb dX6_marks_90 rfl (lv_at hl 2 rfl) ?_
            refine va_get (D := G) (ci := 6) (v := .ref (q 1)) (C := RX6) (T := TX6) (N := 11) hx hb hts hinX6 hown hK hP 0 rfl rfl 0 (by decide) hL7 (fun _ h9 => h9) rfl dX6_marks_91 ?_
            refine lv_bipush (v := 37) hx hb dX6_marks_94 (by decide) ?_
            refine lv_iload_n hx hb dX6_marks_96 rfl (lv_at hl 4 rfl) ?_
            refine k_ast (f := (upd (D_39 0) 36 x)) (j := 37) (ws' := (wM cI q (uA (uA D_39 0 (upd (D_39 0) 36 x)) 0 (upd (upd (D_39 0) 36 x) 37 y)))) hx hb hK hP hD hS 1 0 rfl rfl (show ¬ ((37 : Int32) < 0 ∨ 86 ≤ (37 : Int32).toNatClampNeg) by decide) rfl dX6_marks_97 rfl (fun H locs hP hD hS => ?_)
            refine lv_aload_n hx hb dX6_marks_98 rfl (lv_at hl 2 rfl) ?_
            refine va_get (D := G) (ci := 6) (v := .ref (q 1)) (C := RX6) (T := TX6) (N := 11) hx hb hts hinX6 hown hK hP 0 rfl rfl 0 (by decide) hL7 (fun _ h9 => h9) rfl dX6_marks_99 ?_
            refine lv_bipush (v := 11) hx hb dX6_marks_102 (by decide) ?_
            refine lv_dup2_11 hx hb dX6_marks_104 rfl rfl ?_
            refine k_ald (f := (upd (upd (D_39 0) 36 x) 37 y)) (j := 11) (v := ((upd (upd (D_39 0) 36 x) 37 y) 11)) hx hb hK hP 1 0 rfl rfl (show ¬ ((11 : Int32) < 0 ∨ 86 ≤ (11 : Int32).toNatClampNeg) by decide) rfl rfl dX6_marks_105 ?_
            refine lv_iconst (v := 1) hx hb dX6_marks_106 (by decide) ?_
            refine lv_iadd hx hb dX6_marks_107 ?_
            refine k_ast (f := (upd (upd (D_39 0) 36 x) 37 y)) (j := 11) (ws' := (wM cI q (uA (uA (uA D_39 0 (upd (D_39 0) 36 x)) 0 (upd (upd (D_39 0) 36 x) 37 y)) 0 (upd (upd (upd (D_39 0) 36 x) 37 y) 11 (((upd (upd (D_39 0) 36 x) 37 y) 11) + 1))))) hx hb hK hP hD hS 1 0 rfl rfl (show ¬ ((11 : Int32) < 0 ∨ 86 ≤ (11 : Int32).toNatClampNeg) by decide) rfl dX6_marks_108 rfl (fun H locs hP hD hS => ?_)
            exact W.vret hx hb hr (fun t ht hW => ⟨⟨(uA (uA (uA D_39 0 (upd (D_39 0) 36 x)) 0 (upd (upd (D_39 0) 36 x) 37 y)) 0 (upd (upd (upd (D_39 0) 36 x) 37 y) 11 (((upd (upd (D_39 0) 36 x) 37 y) 11) + 1))), rfl, h, by rw [ht]; exact hP, hD⟩, hS.F ht⟩) hS.2.2 dX6_marks_109
          · have h := h.2 c_45
            refine lv_aload_n hx hb dX6_marks_60 rfl (lv_at hl 2 rfl) ?_
            refine va_get (D := G) (ci := 6) (v := .ref (q 1)) (C := RX6) (T := TX6) (N := 11) hx hb hts hinX6 hown hK hP 0 rfl rfl 0 (by decide) hL7 (fun _ h9 => h9) rfl dX6_marks_61 ?_
            refine lv_iload hx hb dX6_marks_64 (lv_at hl 0 rfl) ?_
            refine lv_aload_n hx hb dX6_marks_66 rfl (lv_at hl 2 rfl) ?_
            refine va_get (D := G) (ci := 6) (v := .ref (q 1)) (C := RX6) (T := TX6) (N := 11) hx hb hts hinX6 hown hK hP 0 rfl rfl 0 (by decide) hL7 (fun _ h9 => h9) rfl dX6_marks_67 ?_
            refine lv_iload hx hb dX6_marks_70 (lv_at hl 0 rfl) ?_
            refine lv_iconst (v := 2) hx hb dX6_marks_72 (by decide) ?_
            refine lv_isub hx hb dX6_marks_73 ?_
            obtain ⟨hi_46, h⟩ := h
            refine k_ald (f := (D_39 0)) (j := ((x4_38 - 2)).toNatClampNeg) (v := ((D_39 0) (((x4_38 - 2)).toNatClampNeg))) hx hb hK hP 1 0 rfl rfl hi_46 rfl rfl dX6_marks_74 ?_
            obtain ⟨hi_47, h⟩ := h
            refine k_ast (f := (D_39 0)) (j := (x4_38).toNatClampNeg) (ws' := (wM cI q (uA D_39 0 (upd (D_39 0) ((x4_38).toNatClampNeg) ((D_39 0) (((x4_38 - 2)).toNatClampNeg)))))) hx hb hK hP hD hS 1 0 rfl rfl hi_47 rfl dX6_marks_75 rfl (fun H locs hP hD hS => ?_)
            refine lv_iinc (v := x4_38 + (-1)) (lv' := [(4, .int (x4_38 + (-1))), (3, .int r_1), (0, .ref (q 0)), (1, .int x), (2, .int y)]) hx hb dX6_marks_76 hl (k := 0) rfl rfl (by decide) rfl (fun ls hl => ?_)
            refine lv_goto (tgt := 53) hx hb dX6_marks_79 (by decide) ?_
            obtain ⟨n_48, lt_49, h_50⟩ := h
            exact ih_40 n_48 lt_49 _ _ h_50 _ _ _ hP hD hS (lv_sub hl [0, 1, 2, 3, 4] rfl)
      exact lp_44 _ _ _ h_42 _ _ _ hP hD hS hl
    · have h := h.1 c_35
      refine lv_aload_n hx hb dX6_marks_26 rfl (lv_at hl 1 rfl) ?_
      refine va_get (D := G) (ci := 6) (v := .ref (q 1)) (C := RX6) (T := TX6) (N := 11) hx hb hts hinX6 hown hK hP 0 rfl rfl 0 (by decide) hL7 (fun _ h9 => h9) rfl dX6_marks_27 ?_
      refine lv_bipush (v := 11) hx hb dX6_marks_30 (by decide) ?_
      refine lv_dup2_11 hx hb dX6_marks_32 rfl rfl ?_
      refine k_ald (f := (u_34 0)) (j := 11) (v := ((u_34 0) 11)) hx hb hK hP 1 0 rfl rfl (show ¬ ((11 : Int32) < 0 ∨ 86 ≤ (11 : Int32).toNatClampNeg) by decide) rfl rfl dX6_marks_33 ?_
      refine lv_iconst (v := 1) hx hb dX6_marks_34 (by decide) ?_
      refine lv_isub hx hb dX6_marks_35 ?_
      refine k_ast (f := (u_34 0)) (j := 11) (ws' := (wM cI q (uA u_34 0 (upd (u_34 0) 11 (((u_34 0) 11) - 1))))) hx hb hK hP hD hS 1 0 rfl rfl (show ¬ ((11 : Int32) < 0 ∨ 86 ≤ (11 : Int32).toNatClampNeg) by decide) rfl dX6_marks_36 rfl (fun H locs hP hD hS => ?_)
      refine lv_bipush (v := 36) hx hb dX6_marks_37 (by decide) ?_
      refine lv_iconst (v := 2) hx hb dX6_marks_39 (by decide) ?_
      refine lv_aload_n hx hb dX6_marks_40 rfl (lv_at hl 1 rfl) ?_
      refine va_get (D := G) (ci := 6) (v := .ref (q 1)) (C := RX6) (T := TX6) (N := 11) hx hb hts hinX6 hown hK hP 0 rfl rfl 0 (by decide) hL7 (fun _ h9 => h9) rfl dX6_marks_41 ?_
      refine lv_bipush (v := 11) hx hb dX6_marks_44 (by decide) ?_
      refine k_ald (f := (upd (u_34 0) 11 (((u_34 0) 11) - 1))) (j := 11) (v := ((upd (u_34 0) 11 (((u_34 0) 11) - 1)) 11)) hx hb hK hP 1 0 rfl rfl (show ¬ ((11 : Int32) < 0 ∨ 86 ≤ (11 : Int32).toNatClampNeg) by decide) rfl rfl dX6_marks_46 ?_
      refine lv_imul hx hb dX6_marks_47 ?_
      refine lv_iadd hx hb dX6_marks_48 ?_
      refine lv_iconst (v := 1) hx hb dX6_marks_49 (by decide) ?_
      refine lv_iadd hx hb dX6_marks_50 ?_
      refine lv_istore (lv' := [(4, .int ((36 + (2 * ((upd (u_34 0) 11 (((u_34 0) 11) - 1)) 11))) + 1)), (3, .int r_1), (0, .ref (q 0)), (1, .int x), (2, .int y)]) hx hb dX6_marks_51 hl (by decide) rfl (fun ls hl => ?_)
      obtain ⟨I_52, n_56, h_57, hI_58⟩ := h
      have lp_59 : ∀ (n_51 : Nat) (x4_53 : Int32) (D_54 : St), I_52 n_51 x4_53 D_54 → ∀ (H : Heap) (locs : List Loc) (ls : Array Slot), va_P G vwCl (wM cI q D_54) H → va_D A (wM cI q D_54) → va_S A s.heap H locs → lv_has ls 5 [(4, .int x4_53), (3, .int r_1), (0, .ref (q 0)), (1, .int x), (2, .int y)] → W p l e (headSpec wsX6_marks ({ frames := 2, cells := 0, slots := 0, locals := 46 })).room s m ([.ref (q 0), .int x, .int y] : List Value).toArray below meth c H locs 0 0 (MQ below (va_Qv Q (BW G (fun u : St => (wM cI q u)) A) A) ([.ref (q 0), .int x, .int y] : List Value).toArray s 0 0 A) (F0 m 53 ls []) := by
        intro n_51
        induction n_51 using Nat.strongRecOn with
        | ind n_51 ih_55 =>
          intro x4_53 D_54 hIn H locs ls hP hD hS hl
          have h := hI_58 n_51 x4_53 D_54 hIn
          refine lv_iload hx hb dX6_marks_53 (lv_at hl 0 rfl) ?_
          refine lv_bipush (v := 38) hx hb dX6_marks_55 (by decide) ?_
          refine lv_icmp_lt (tgt := 82) hx hb dX6_marks_57 (by decide) (fun c_60 => ?_) (fun c_60 => ?_)
          · have h := h.1 c_60
            refine lv_aload_n hx hb dX6_marks_82 rfl (lv_at hl 2 rfl) ?_
            refine va_get (D := G) (ci := 6) (v := .ref (q 1)) (C := RX6) (T := TX6) (N := 11) hx hb hts hinX6 hown hK hP 0 rfl rfl 0 (by decide) hL7 (fun _ h9 => h9) rfl dX6_marks_83 ?_
            refine lv_bipush (v := 36) hx hb dX6_marks_86 (by decide) ?_
            refine lv_iload_n hx hb dX6_marks_88 rfl (lv_at hl 3 rfl) ?_
            refine k_ast (f := (D_54 0)) (j := 36) (ws' := (wM cI q (uA D_54 0 (upd (D_54 0) 36 x)))) hx hb hK hP hD hS 1 0 rfl rfl (show ¬ ((36 : Int32) < 0 ∨ 86 ≤ (36 : Int32).toNatClampNeg) by decide) rfl dX6_marks_89 rfl (fun H locs hP hD hS => ?_)
            refine lv_aload_n hx hb dX6_marks_90 rfl (lv_at hl 2 rfl) ?_
            refine va_get (D := G) (ci := 6) (v := .ref (q 1)) (C := RX6) (T := TX6) (N := 11) hx hb hts hinX6 hown hK hP 0 rfl rfl 0 (by decide) hL7 (fun _ h9 => h9) rfl dX6_marks_91 ?_
            refine lv_bipush (v := 37) hx hb dX6_marks_94 (by decide) ?_
            refine lv_iload_n hx hb dX6_marks_96 rfl (lv_at hl 4 rfl) ?_
            refine k_ast (f := (upd (D_54 0) 36 x)) (j := 37) (ws' := (wM cI q (uA (uA D_54 0 (upd (D_54 0) 36 x)) 0 (upd (upd (D_54 0) 36 x) 37 y)))) hx hb hK hP hD hS 1 0 rfl rfl (show ¬ ((37 : Int32) < 0 ∨ 86 ≤ (37 : Int32).toNatClampNeg) by decide) rfl dX6_marks_97 rfl (fun H locs hP hD hS => ?_)
            refine lv_aload_n hx hb dX6_marks_98 rfl (lv_at hl 2 rfl) ?_
            refine va_get (D := G) (ci := 6) (v := .ref (q 1)) (C := RX6) (T := TX6) (N := 11) hx hb hts hinX6 hown hK hP 0 rfl rfl 0 (by decide) hL7 (fun _ h9 => h9) rfl dX6_marks_99 ?_
            refine lv_bipush (v := 11) hx hb dX6_marks_102 (by decide) ?_
            refine lv_dup2_11 hx hb dX6_marks_104 rfl rfl ?_
            refine k_ald (f := (upd (upd (D_54 0) 36 x) 37 y)) (j := 11) (v := ((upd (upd (D_54 0) 36 x) 37 y) 11)) hx hb hK hP 1 0 rfl rfl (show ¬ ((11 : Int32) < 0 ∨ 86 ≤ (11 : Int32).toNatClampNeg) by decide) rfl rfl dX6_marks_105 ?_
            refine lv_iconst (v := 1) hx hb dX6_marks_106 (by decide) ?_
            refine lv_iadd hx hb dX6_marks_107 ?_
            refine k_ast (f := (upd (upd (D_54 0) 36 x) 37 y)) (j := 11) (ws' := (wM cI q (uA (uA (uA D_54 0 (upd (D_54 0) 36 x)) 0 (upd (upd (D_54 0) 36 x) 37 y)) 0 (upd (upd (upd (D_54 0) 36 x) 37 y) 11 (((upd (upd (D_54 0) 36 x) 37 y) 11) + 1))))) hx hb hK hP hD hS 1 0 rfl rfl (show ¬ ((11 : Int32) < 0 ∨ 86 ≤ (11 : Int32).toNatClampNeg) by decide) rfl dX6_marks_108 rfl (fun H locs hP hD hS => ?_)
            exact W.vret hx hb hr (fun t ht hW => ⟨⟨(uA (uA (uA D_54 0 (upd (D_54 0) 36 x)) 0 (upd (upd (D_54 0) 36 x) 37 y)) 0 (upd (upd (upd (D_54 0) 36 x) 37 y) 11 (((upd (upd (D_54 0) 36 x) 37 y) 11) + 1))), rfl, h, by rw [ht]; exact hP, hD⟩, hS.F ht⟩) hS.2.2 dX6_marks_109
          · have h := h.2 c_60
            refine lv_aload_n hx hb dX6_marks_60 rfl (lv_at hl 2 rfl) ?_
            refine va_get (D := G) (ci := 6) (v := .ref (q 1)) (C := RX6) (T := TX6) (N := 11) hx hb hts hinX6 hown hK hP 0 rfl rfl 0 (by decide) hL7 (fun _ h9 => h9) rfl dX6_marks_61 ?_
            refine lv_iload hx hb dX6_marks_64 (lv_at hl 0 rfl) ?_
            refine lv_aload_n hx hb dX6_marks_66 rfl (lv_at hl 2 rfl) ?_
            refine va_get (D := G) (ci := 6) (v := .ref (q 1)) (C := RX6) (T := TX6) (N := 11) hx hb hts hinX6 hown hK hP 0 rfl rfl 0 (by decide) hL7 (fun _ h9 => h9) rfl dX6_marks_67 ?_
            refine lv_iload hx hb dX6_marks_70 (lv_at hl 0 rfl) ?_
            refine lv_iconst (v := 2) hx hb dX6_marks_72 (by decide) ?_
            refine lv_isub hx hb dX6_marks_73 ?_
            obtain ⟨hi_61, h⟩ := h
            refine k_ald (f := (D_54 0)) (j := ((x4_53 - 2)).toNatClampNeg) (v := ((D_54 0) (((x4_53 - 2)).toNatClampNeg))) hx hb hK hP 1 0 rfl rfl hi_61 rfl rfl dX6_marks_74 ?_
            obtain ⟨hi_62, h⟩ := h
            refine k_ast (f := (D_54 0)) (j := (x4_53).toNatClampNeg) (ws' := (wM cI q (uA D_54 0 (upd (D_54 0) ((x4_53).toNatClampNeg) ((D_54 0) (((x4_53 - 2)).toNatClampNeg)))))) hx hb hK hP hD hS 1 0 rfl rfl hi_62 rfl dX6_marks_75 rfl (fun H locs hP hD hS => ?_)
            refine lv_iinc (v := x4_53 + (-1)) (lv' := [(4, .int (x4_53 + (-1))), (3, .int r_1), (0, .ref (q 0)), (1, .int x), (2, .int y)]) hx hb dX6_marks_76 hl (k := 0) rfl rfl (by decide) rfl (fun ls hl => ?_)
            refine lv_goto (tgt := 53) hx hb dX6_marks_79 (by decide) ?_
            obtain ⟨n_63, lt_64, h_65⟩ := h
            exact ih_55 n_63 lt_64 _ _ h_65 _ _ _ hP hD hS (lv_sub hl [0, 1, 2, 3, 4] rfl)
      exact lp_59 _ _ _ h_57 _ _ _ hP hD hS hl
def q_X6_floods (M : St) (Q : St → Prop) : Prop :=
  (((M 0) 9) = 0 → (((M 0) 4) < ((M 0) 0) → (((M 0) 9) = 1 → (((M 0) 1) ≤ ((M 0) 4) → Q M) ∧ (¬ (((M 0) 1) ≤ ((M 0) 4)) → (((upd (M 0) 9 0) 7) < 0 → Q (uA (uA (uA M 0 (upd (M 0) 9 0)) 0 (upd (upd (M 0) 9 0) 19 (((upd (M 0) 9 0) 19) + 0))) 0 (upd (upd (upd (M 0) 9 0) 19 (((upd (M 0) 9 0) 19) + 0)) 7 (-1)))) ∧ (¬ (((upd (M 0) 9 0) 7) < 0) → Q (uA (uA (uA M 0 (upd (M 0) 9 0)) 0 (upd (upd (M 0) 9 0) 19 (((upd (M 0) 9 0) 19) + 1))) 0 (upd (upd (upd (M 0) 9 0) 19 (((upd (M 0) 9 0) 19) + 1)) 7 (-1)))))) ∧ (¬ (((M 0) 9) = 1) → Q M)) ∧ (¬ (((M 0) 4) < ((M 0) 0)) → (((upd (upd (M 0) 9 1) 16 (((upd (M 0) 9 1) 16) + 1)) 7) < 0 → Q (uA (uA M 0 (upd (M 0) 9 1)) 0 (upd (upd (M 0) 9 1) 16 (((upd (M 0) 9 1) 16) + 1)))) ∧ (¬ (((upd (upd (M 0) 9 1) 16 (((upd (M 0) 9 1) 16) + 1)) 7) < 0) → q_X6_marks ((upd (upd (M 0) 9 1) 16 (((upd (M 0) 9 1) 16) + 1)) 7) ((upd (upd (M 0) 9 1) 16 (((upd (M 0) 9 1) 16) + 1)) 8) (uA (uA M 0 (upd (M 0) 9 1)) 0 (upd (upd (M 0) 9 1) 16 (((upd (M 0) 9 1) 16) + 1))) (fun u_10 => Q (uA (uA u_10 0 (upd (u_10 0) 7 (-1))) 0 (upd (upd (u_10 0) 7 (-1)) 19 (((upd (u_10 0) 7 (-1)) 19) + 1))))))) ∧ (¬ (((M 0) 9) = 0) → (((M 0) 9) = 1 → (((M 0) 1) ≤ ((M 0) 4) → Q M) ∧ (¬ (((M 0) 1) ≤ ((M 0) 4)) → (((upd (M 0) 9 0) 7) < 0 → Q (uA (uA (uA M 0 (upd (M 0) 9 0)) 0 (upd (upd (M 0) 9 0) 19 (((upd (M 0) 9 0) 19) + 0))) 0 (upd (upd (upd (M 0) 9 0) 19 (((upd (M 0) 9 0) 19) + 0)) 7 (-1)))) ∧ (¬ (((upd (M 0) 9 0) 7) < 0) → Q (uA (uA (uA M 0 (upd (M 0) 9 0)) 0 (upd (upd (M 0) 9 0) 19 (((upd (M 0) 9 0) 19) + 1))) 0 (upd (upd (upd (M 0) 9 0) 19 (((upd (M 0) 9 0) 19) + 1)) 7 (-1)))))) ∧ (¬ (((M 0) 9) = 1) → Q M))
set_option maxHeartbeats 4000000 in
set_option maxRecDepth 100000 in
theorem c_X6_floods (l : Launch) (G : va_G) (cI cC cD : ClassId) (q : Nat → Nat) (sz : Nat) (M : St)  (Q : St → Prop) (h : q_X6_floods  M Q) : Met l yX6_floods wsX6_floods ({ frames := 3, cells := 0, slots := 0, locals := 70 }) (va_Pc [.ref (q 0)] (PW G (ty3 cI cC cD) (wM cI q M) sz)) (va_Qv Q (BW G (fun u : St => (wM cI q u)) (va_A (wM cI q M) sz)) (va_A (wM cI q M) sz)) 0 0 (va_A (wM cI q M) sz) := by
  refine Met.ofW (cc := cX6_floods) (maxL := 1) (ret := none) (by decide) rfl ?_
  intro p e s m args below meth c s₁ B hml hv
  obtain ⟨rfl, hsz, hP, hK, hD0, hN⟩ := hv
  have hx := B.exec
  have hb := B.bytes
  have hr := B.returns
  have hts := atoms_spec (ws := wsX6_floods) B.pre
  have hown : s.vm.findClass RX6 = some m.cls := findClass_of_methodNamed B.named
  have hlocks := B.notSynchronized
  subst hsz
  have hD := hD0.self (sz := s.heap.size)
  generalize hAe : va_A (wM cI q M) s.heap.size = A at hD ⊢
  have hA : ∀ q : Nat, s.heap.size ≤ q → A q := fun q h => by rw [← hAe]; exact Or.inr h
  have hS : va_S A s.heap s.heap [] := va_S.rf
  have hl := lv_entry ([.ref (q 0)]) (n := 1) (Nat.le_of_ble_eq_true rfl)
  rw [lg_entry_eq]
  generalize (lg_sl ([.ref (q 0)]) ++ List.replicate (1 - (lg_sl ([.ref (q 0)])).length) Slot.unset).toArray = ls at hl ⊢
  have hl : lv_has ls 1 [(0, .ref (q 0))] := hl
  have hinX6 : ∀ w ∈ wsX60, w ∈ wsX6_floods := by decide +kernel
  have hL7 := hts (.fieldLink RX6 7 "CraneGatesModel" "s" "[I") (by decide +kernel)
  unfold q_X6_floods at h
  refine lv_aload_n hx hb dX6_floods_0 rfl (lv_at hl 0 rfl) ?_
  refine va_get (D := G) (ci := 6) (v := .ref (q 1)) (C := RX6) (T := TX6) (N := 11) hx hb hts hinX6 hown hK hP 0 rfl rfl 0 (by decide) hL7 (fun _ h9 => h9) rfl dX6_floods_1 ?_
  refine lv_bipush (v := 9) hx hb dX6_floods_4 (by decide) ?_
  refine k_ald (f := (M 0)) (j := 9) (v := ((M 0) 9)) hx hb hK hP 1 0 rfl rfl (show ¬ ((9 : Int32) < 0 ∨ 86 ≤ (9 : Int32).toNatClampNeg) by decide) rfl rfl dX6_floods_6 ?_
  refine lv_if_ne (tgt := 94) hx hb dX6_floods_7 (by decide) (fun c_1 => ?_) (fun c_1 => ?_)
  · have h := h.2 c_1
    refine lv_aload_n hx hb dX6_floods_94 rfl (lv_at hl 0 rfl) ?_
    refine va_get (D := G) (ci := 6) (v := .ref (q 1)) (C := RX6) (T := TX6) (N := 11) hx hb hts hinX6 hown hK hP 0 rfl rfl 0 (by decide) hL7 (fun _ h9 => h9) rfl dX6_floods_95 ?_
    refine lv_bipush (v := 9) hx hb dX6_floods_98 (by decide) ?_
    refine k_ald (f := (M 0)) (j := 9) (v := ((M 0) 9)) hx hb hK hP 1 0 rfl rfl (show ¬ ((9 : Int32) < 0 ∨ 86 ≤ (9 : Int32).toNatClampNeg) by decide) rfl rfl dX6_floods_100 ?_
    refine lv_iconst (v := 1) hx hb dX6_floods_101 (by decide) ?_
    refine lv_icmp_ne (tgt := 161) hx hb dX6_floods_102 (by decide) (fun c_2 => ?_) (fun c_2 => ?_)
    · have h := h.2 c_2
      exact W.vret hx hb hr (fun t ht hW => ⟨⟨M, rfl, h, by rw [ht]; exact hP, hD⟩, hS.F ht⟩) hS.2.2 dX6_floods_161
    · have h := h.1 c_2
      refine lv_aload_n hx hb dX6_floods_105 rfl (lv_at hl 0 rfl) ?_
      refine va_get (D := G) (ci := 6) (v := .ref (q 1)) (C := RX6) (T := TX6) (N := 11) hx hb hts hinX6 hown hK hP 0 rfl rfl 0 (by decide) hL7 (fun _ h9 => h9) rfl dX6_floods_106 ?_
      refine lv_iconst (v := 4) hx hb dX6_floods_109 (by decide) ?_
      refine k_ald (f := (M 0)) (j := 4) (v := ((M 0) 4)) hx hb hK hP 1 0 rfl rfl (show ¬ ((4 : Int32) < 0 ∨ 86 ≤ (4 : Int32).toNatClampNeg) by decide) rfl rfl dX6_floods_110 ?_
      refine lv_aload_n hx hb dX6_floods_111 rfl (lv_at hl 0 rfl) ?_
      refine va_get (D := G) (ci := 6) (v := .ref (q 1)) (C := RX6) (T := TX6) (N := 11) hx hb hts hinX6 hown hK hP 0 rfl rfl 0 (by decide) hL7 (fun _ h9 => h9) rfl dX6_floods_112 ?_
      refine lv_iconst (v := 1) hx hb dX6_floods_115 (by decide) ?_
      refine k_ald (f := (M 0)) (j := 1) (v := ((M 0) 1)) hx hb hK hP 1 0 rfl rfl (show ¬ ((1 : Int32) < 0 ∨ 86 ≤ (1 : Int32).toNatClampNeg) by decide) rfl rfl dX6_floods_116 ?_
      refine lv_icmp_ge (tgt := 161) hx hb dX6_floods_117 (by decide) (fun c_3 => ?_) (fun c_3 => ?_)
      · have h := h.1 c_3
        exact W.vret hx hb hr (fun t ht hW => ⟨⟨M, rfl, h, by rw [ht]; exact hP, hD⟩, hS.F ht⟩) hS.2.2 dX6_floods_161
      · have h := h.2 c_3
        refine lv_aload_n hx hb dX6_floods_120 rfl (lv_at hl 0 rfl) ?_
        refine va_get (D := G) (ci := 6) (v := .ref (q 1)) (C := RX6) (T := TX6) (N := 11) hx hb hts hinX6 hown hK hP 0 rfl rfl 0 (by decide) hL7 (fun _ h9 => h9) rfl dX6_floods_121 ?_
        refine lv_bipush (v := 9) hx hb dX6_floods_124 (by decide) ?_
        refine lv_iconst (v := 0) hx hb dX6_floods_126 (by decide) ?_
        refine k_ast (f := (M 0)) (j := 9) (ws' := (wM cI q (uA M 0 (upd (M 0) 9 0)))) hx hb hK hP hD hS 1 0 rfl rfl (show ¬ ((9 : Int32) < 0 ∨ 86 ≤ (9 : Int32).toNatClampNeg) by decide) rfl dX6_floods_127 rfl (fun H locs hP hD hS => ?_)
        refine lv_aload_n hx hb dX6_floods_128 rfl (lv_at hl 0 rfl) ?_
        refine va_get (D := G) (ci := 6) (v := .ref (q 1)) (C := RX6) (T := TX6) (N := 11) hx hb hts hinX6 hown hK hP 0 rfl rfl 0 (by decide) hL7 (fun _ h9 => h9) rfl dX6_floods_129 ?_
        refine lv_bipush (v := 19) hx hb dX6_floods_132 (by decide) ?_
        refine lv_dup2_11 hx hb dX6_floods_134 rfl rfl ?_
        refine k_ald (f := (upd (M 0) 9 0)) (j := 19) (v := ((upd (M 0) 9 0) 19)) hx hb hK hP 1 0 rfl rfl (show ¬ ((19 : Int32) < 0 ∨ 86 ≤ (19 : Int32).toNatClampNeg) by decide) rfl rfl dX6_floods_135 ?_
        refine lv_aload_n hx hb dX6_floods_136 rfl (lv_at hl 0 rfl) ?_
        refine va_get (D := G) (ci := 6) (v := .ref (q 1)) (C := RX6) (T := TX6) (N := 11) hx hb hts hinX6 hown hK hP 0 rfl rfl 0 (by decide) hL7 (fun _ h9 => h9) rfl dX6_floods_137 ?_
        refine lv_bipush (v := 7) hx hb dX6_floods_140 (by decide) ?_
        refine k_ald (f := (upd (M 0) 9 0)) (j := 7) (v := ((upd (M 0) 9 0) 7)) hx hb hK hP 1 0 rfl rfl (show ¬ ((7 : Int32) < 0 ∨ 86 ≤ (7 : Int32).toNatClampNeg) by decide) rfl rfl dX6_floods_142 ?_
        refine lv_if_lt (tgt := 150) hx hb dX6_floods_143 (by decide) (fun c_4 => ?_) (fun c_4 => ?_)
        · have h := h.1 c_4
          refine lv_iconst (v := 0) hx hb dX6_floods_150 (by decide) ?_
          refine lv_iadd hx hb dX6_floods_151 ?_
          refine k_ast (f := (upd (M 0) 9 0)) (j := 19) (ws' := (wM cI q (uA (uA M 0 (upd (M 0) 9 0)) 0 (upd (upd (M 0) 9 0) 19 (((upd (M 0) 9 0) 19) + 0))))) hx hb hK hP hD hS 1 0 rfl rfl (show ¬ ((19 : Int32) < 0 ∨ 86 ≤ (19 : Int32).toNatClampNeg) by decide) rfl dX6_floods_152 rfl (fun H locs hP hD hS => ?_)
          refine lv_aload_n hx hb dX6_floods_153 rfl (lv_at hl 0 rfl) ?_
          refine va_get (D := G) (ci := 6) (v := .ref (q 1)) (C := RX6) (T := TX6) (N := 11) hx hb hts hinX6 hown hK hP 0 rfl rfl 0 (by decide) hL7 (fun _ h9 => h9) rfl dX6_floods_154 ?_
          refine lv_bipush (v := 7) hx hb dX6_floods_157 (by decide) ?_
          refine lv_iconst (v := (-1)) hx hb dX6_floods_159 (by decide) ?_
          refine k_ast (f := (upd (upd (M 0) 9 0) 19 (((upd (M 0) 9 0) 19) + 0))) (j := 7) (ws' := (wM cI q (uA (uA (uA M 0 (upd (M 0) 9 0)) 0 (upd (upd (M 0) 9 0) 19 (((upd (M 0) 9 0) 19) + 0))) 0 (upd (upd (upd (M 0) 9 0) 19 (((upd (M 0) 9 0) 19) + 0)) 7 (-1))))) hx hb hK hP hD hS 1 0 rfl rfl (show ¬ ((7 : Int32) < 0 ∨ 86 ≤ (7 : Int32).toNatClampNeg) by decide) rfl dX6_floods_160 rfl (fun H locs hP hD hS => ?_)
          exact W.vret hx hb hr (fun t ht hW => ⟨⟨(uA (uA (uA M 0 (upd (M 0) 9 0)) 0 (upd (upd (M 0) 9 0) 19 (((upd (M 0) 9 0) 19) + 0))) 0 (upd (upd (upd (M 0) 9 0) 19 (((upd (M 0) 9 0) 19) + 0)) 7 (-1))), rfl, h, by rw [ht]; exact hP, hD⟩, hS.F ht⟩) hS.2.2 dX6_floods_161
        · have h := h.2 c_4
          refine lv_iconst (v := 1) hx hb dX6_floods_146 (by decide) ?_
          refine lv_goto (tgt := 151) hx hb dX6_floods_147 (by decide) ?_
          refine lv_iadd hx hb dX6_floods_151 ?_
          refine k_ast (f := (upd (M 0) 9 0)) (j := 19) (ws' := (wM cI q (uA (uA M 0 (upd (M 0) 9 0)) 0 (upd (upd (M 0) 9 0) 19 (((upd (M 0) 9 0) 19) + 1))))) hx hb hK hP hD hS 1 0 rfl rfl (show ¬ ((19 : Int32) < 0 ∨ 86 ≤ (19 : Int32).toNatClampNeg) by decide) rfl dX6_floods_152 rfl (fun H locs hP hD hS => ?_)
          refine lv_aload_n hx hb dX6_floods_153 rfl (lv_at hl 0 rfl) ?_
          refine va_get (D := G) (ci := 6) (v := .ref (q 1)) (C := RX6) (T := TX6) (N := 11) hx hb hts hinX6 hown hK hP 0 rfl rfl 0 (by decide) hL7 (fun _ h9 => h9) rfl dX6_floods_154 ?_
          refine lv_bipush (v := 7) hx hb dX6_floods_157 (by decide) ?_
          refine lv_iconst (v := (-1)) hx hb dX6_floods_159 (by decide) ?_
          refine k_ast (f := (upd (upd (M 0) 9 0) 19 (((upd (M 0) 9 0) 19) + 1))) (j := 7) (ws' := (wM cI q (uA (uA (uA M 0 (upd (M 0) 9 0)) 0 (upd (upd (M 0) 9 0) 19 (((upd (M 0) 9 0) 19) + 1))) 0 (upd (upd (upd (M 0) 9 0) 19 (((upd (M 0) 9 0) 19) + 1)) 7 (-1))))) hx hb hK hP hD hS 1 0 rfl rfl (show ¬ ((7 : Int32) < 0 ∨ 86 ≤ (7 : Int32).toNatClampNeg) by decide) rfl dX6_floods_160 rfl (fun H locs hP hD hS => ?_)
          exact W.vret hx hb hr (fun t ht hW => ⟨⟨(uA (uA (uA M 0 (upd (M 0) 9 0)) 0 (upd (upd (M 0) 9 0) 19 (((upd (M 0) 9 0) 19) + 1))) 0 (upd (upd (upd (M 0) 9 0) 19 (((upd (M 0) 9 0) 19) + 1)) 7 (-1))), rfl, h, by rw [ht]; exact hP, hD⟩, hS.F ht⟩) hS.2.2 dX6_floods_161
  · have h := h.1 c_1
    refine lv_aload_n hx hb dX6_floods_10 rfl (lv_at hl 0 rfl) ?_
    refine va_get (D := G) (ci := 6) (v := .ref (q 1)) (C := RX6) (T := TX6) (N := 11) hx hb hts hinX6 hown hK hP 0 rfl rfl 0 (by decide) hL7 (fun _ h9 => h9) rfl dX6_floods_11 ?_
    refine lv_iconst (v := 4) hx hb dX6_floods_14 (by decide) ?_
    refine k_ald (f := (M 0)) (j := 4) (v := ((M 0) 4)) hx hb hK hP 1 0 rfl rfl (show ¬ ((4 : Int32) < 0 ∨ 86 ≤ (4 : Int32).toNatClampNeg) by decide) rfl rfl dX6_floods_15 ?_
    refine lv_aload_n hx hb dX6_floods_16 rfl (lv_at hl 0 rfl) ?_
    refine va_get (D := G) (ci := 6) (v := .ref (q 1)) (C := RX6) (T := TX6) (N := 11) hx hb hts hinX6 hown hK hP 0 rfl rfl 0 (by decide) hL7 (fun _ h9 => h9) rfl dX6_floods_17 ?_
    refine lv_iconst (v := 0) hx hb dX6_floods_20 (by decide) ?_
    refine k_ald (f := (M 0)) (j := 0) (v := ((M 0) 0)) hx hb hK hP 1 0 rfl rfl (show ¬ ((0 : Int32) < 0 ∨ 86 ≤ (0 : Int32).toNatClampNeg) by decide) rfl rfl dX6_floods_21 ?_
    refine lv_icmp_lt (tgt := 94) hx hb dX6_floods_22 (by decide) (fun c_5 => ?_) (fun c_5 => ?_)
    · have h := h.1 c_5
      refine lv_aload_n hx hb dX6_floods_94 rfl (lv_at hl 0 rfl) ?_
      refine va_get (D := G) (ci := 6) (v := .ref (q 1)) (C := RX6) (T := TX6) (N := 11) hx hb hts hinX6 hown hK hP 0 rfl rfl 0 (by decide) hL7 (fun _ h9 => h9) rfl dX6_floods_95 ?_
      refine lv_bipush (v := 9) hx hb dX6_floods_98 (by decide) ?_
      refine k_ald (f := (M 0)) (j := 9) (v := ((M 0) 9)) hx hb hK hP 1 0 rfl rfl (show ¬ ((9 : Int32) < 0 ∨ 86 ≤ (9 : Int32).toNatClampNeg) by decide) rfl rfl dX6_floods_100 ?_
      refine lv_iconst (v := 1) hx hb dX6_floods_101 (by decide) ?_
      refine lv_icmp_ne (tgt := 161) hx hb dX6_floods_102 (by decide) (fun c_6 => ?_) (fun c_6 => ?_)
      · have h := h.2 c_6
        exact W.vret hx hb hr (fun t ht hW => ⟨⟨M, rfl, h, by rw [ht]; exact hP, hD⟩, hS.F ht⟩) hS.2.2 dX6_floods_161
      · have h := h.1 c_6
        refine lv_aload_n hx hb dX6_floods_105 rfl (lv_at hl 0 rfl) ?_
        refine va_get (D := G) (ci := 6) (v := .ref (q 1)) (C := RX6) (T := TX6) (N := 11) hx hb hts hinX6 hown hK hP 0 rfl rfl 0 (by decide) hL7 (fun _ h9 => h9) rfl dX6_floods_106 ?_
        refine lv_iconst (v := 4) hx hb dX6_floods_109 (by decide) ?_
        refine k_ald (f := (M 0)) (j := 4) (v := ((M 0) 4)) hx hb hK hP 1 0 rfl rfl (show ¬ ((4 : Int32) < 0 ∨ 86 ≤ (4 : Int32).toNatClampNeg) by decide) rfl rfl dX6_floods_110 ?_
        refine lv_aload_n hx hb dX6_floods_111 rfl (lv_at hl 0 rfl) ?_
        refine va_get (D := G) (ci := 6) (v := .ref (q 1)) (C := RX6) (T := TX6) (N := 11) hx hb hts hinX6 hown hK hP 0 rfl rfl 0 (by decide) hL7 (fun _ h9 => h9) rfl dX6_floods_112 ?_
        refine lv_iconst (v := 1) hx hb dX6_floods_115 (by decide) ?_
        refine k_ald (f := (M 0)) (j := 1) (v := ((M 0) 1)) hx hb hK hP 1 0 rfl rfl (show ¬ ((1 : Int32) < 0 ∨ 86 ≤ (1 : Int32).toNatClampNeg) by decide) rfl rfl dX6_floods_116 ?_
        refine lv_icmp_ge (tgt := 161) hx hb dX6_floods_117 (by decide) (fun c_7 => ?_) (fun c_7 => ?_)
        · have h := h.1 c_7
          exact W.vret hx hb hr (fun t ht hW => ⟨⟨M, rfl, h, by rw [ht]; exact hP, hD⟩, hS.F ht⟩) hS.2.2 dX6_floods_161
        · have h := h.2 c_7
          refine lv_aload_n hx hb dX6_floods_120 rfl (lv_at hl 0 rfl) ?_
          refine va_get (D := G) (ci := 6) (v := .ref (q 1)) (C := RX6) (T := TX6) (N := 11) hx hb hts hinX6 hown hK hP 0 rfl rfl 0 (by decide) hL7 (fun _ h9 => h9) rfl dX6_floods_121 ?_
          refine lv_bipush (v := 9) hx hb dX6_floods_124 (by decide) ?_
          refine lv_iconst (v := 0) hx hb dX6_floods_126 (by decide) ?_
          refine k_ast (f := (M 0)) (j := 9) (ws' := (wM cI q (uA M 0 (upd (M 0) 9 0)))) hx hb hK hP hD hS 1 0 rfl rfl (show ¬ ((9 : Int32) < 0 ∨ 86 ≤ (9 : Int32).toNatClampNeg) by decide) rfl dX6_floods_127 rfl (fun H locs hP hD hS => ?_)
          refine lv_aload_n hx hb dX6_floods_128 rfl (lv_at hl 0 rfl) ?_
          refine va_get (D := G) (ci := 6) (v := .ref (q 1)) (C := RX6) (T := TX6) (N := 11) hx hb hts hinX6 hown hK hP 0 rfl rfl 0 (by decide) hL7 (fun _ h9 => h9) rfl dX6_floods_129 ?_
          refine lv_bipush (v := 19) hx hb dX6_floods_132 (by decide) ?_
          refine lv_dup2_11 hx hb dX6_floods_134 rfl rfl ?_
          refine k_ald (f := (upd (M 0) 9 0)) (j := 19) (v := ((upd (M 0) 9 0) 19)) hx hb hK hP 1 0 rfl rfl (show ¬ ((19 : Int32) < 0 ∨ 86 ≤ (19 : Int32).toNatClampNeg) by decide) rfl rfl dX6_floods_135 ?_
          refine lv_aload_n hx hb dX6_floods_136 rfl (lv_at hl 0 rfl) ?_
          refine va_get (D := G) (ci := 6) (v := .ref (q 1)) (C := RX6) (T := TX6) (N := 11) hx hb hts hinX6 hown hK hP 0 rfl rfl 0 (by decide) hL7 (fun _ h9 => h9) rfl dX6_floods_137 ?_
          refine lv_bipush (v := 7) hx hb dX6_floods_140 (by decide) ?_
          refine k_ald (f := (upd (M 0) 9 0)) (j := 7) (v := ((upd (M 0) 9 0) 7)) hx hb hK hP 1 0 rfl rfl (show ¬ ((7 : Int32) < 0 ∨ 86 ≤ (7 : Int32).toNatClampNeg) by decide) rfl rfl dX6_floods_142 ?_
          refine lv_if_lt (tgt := 150) hx hb dX6_floods_143 (by decide) (fun c_8 => ?_) (fun c_8 => ?_)
          · have h := h.1 c_8
            refine lv_iconst (v := 0) hx hb dX6_floods_150 (by decide) ?_
            refine lv_iadd hx hb dX6_floods_151 ?_
            refine k_ast (f := (upd (M 0) 9 0)) (j := 19) (ws' := (wM cI q (uA (uA M 0 (upd (M 0) 9 0)) 0 (upd (upd (M 0) 9 0) 19 (((upd (M 0) 9 0) 19) + 0))))) hx hb hK hP hD hS 1 0 rfl rfl (show ¬ ((19 : Int32) < 0 ∨ 86 ≤ (19 : Int32).toNatClampNeg) by decide) rfl dX6_floods_152 rfl (fun H locs hP hD hS => ?_)
            refine lv_aload_n hx hb dX6_floods_153 rfl (lv_at hl 0 rfl) ?_
            refine va_get (D := G) (ci := 6) (v := .ref (q 1)) (C := RX6) (T := TX6) (N := 11) hx hb hts hinX6 hown hK hP 0 rfl rfl 0 (by decide) hL7 (fun _ h9 => h9) rfl dX6_floods_154 ?_
            refine lv_bipush (v := 7) hx hb dX6_floods_157 (by decide) ?_
            refine lv_iconst (v := (-1)) hx hb dX6_floods_159 (by decide) ?_
            refine k_ast (f := (upd (upd (M 0) 9 0) 19 (((upd (M 0) 9 0) 19) + 0))) (j := 7) (ws' := (wM cI q (uA (uA (uA M 0 (upd (M 0) 9 0)) 0 (upd (upd (M 0) 9 0) 19 (((upd (M 0) 9 0) 19) + 0))) 0 (upd (upd (upd (M 0) 9 0) 19 (((upd (M 0) 9 0) 19) + 0)) 7 (-1))))) hx hb hK hP hD hS 1 0 rfl rfl (show ¬ ((7 : Int32) < 0 ∨ 86 ≤ (7 : Int32).toNatClampNeg) by decide) rfl dX6_floods_160 rfl (fun H locs hP hD hS => ?_)
            exact W.vret hx hb hr (fun t ht hW => ⟨⟨(uA (uA (uA M 0 (upd (M 0) 9 0)) 0 (upd (upd (M 0) 9 0) 19 (((upd (M 0) 9 0) 19) + 0))) 0 (upd (upd (upd (M 0) 9 0) 19 (((upd (M 0) 9 0) 19) + 0)) 7 (-1))), rfl, h, by rw [ht]; exact hP, hD⟩, hS.F ht⟩) hS.2.2 dX6_floods_161
          · have h := h.2 c_8
            refine lv_iconst (v := 1) hx hb dX6_floods_146 (by decide) ?_
            refine lv_goto (tgt := 151) hx hb dX6_floods_147 (by decide) ?_
            refine lv_iadd hx hb dX6_floods_151 ?_
            refine k_ast (f := (upd (M 0) 9 0)) (j := 19) (ws' := (wM cI q (uA (uA M 0 (upd (M 0) 9 0)) 0 (upd (upd (M 0) 9 0) 19 (((upd (M 0) 9 0) 19) + 1))))) hx hb hK hP hD hS 1 0 rfl rfl (show ¬ ((19 : Int32) < 0 ∨ 86 ≤ (19 : Int32).toNatClampNeg) by decide) rfl dX6_floods_152 rfl (fun H locs hP hD hS => ?_)
            refine lv_aload_n hx hb dX6_floods_153 rfl (lv_at hl 0 rfl) ?_
            refine va_get (D := G) (ci := 6) (v := .ref (q 1)) (C := RX6) (T := TX6) (N := 11) hx hb hts hinX6 hown hK hP 0 rfl rfl 0 (by decide) hL7 (fun _ h9 => h9) rfl dX6_floods_154 ?_
            refine lv_bipush (v := 7) hx hb dX6_floods_157 (by decide) ?_
            refine lv_iconst (v := (-1)) hx hb dX6_floods_159 (by decide) ?_
            refine k_ast (f := (upd (upd (M 0) 9 0) 19 (((upd (M 0) 9 0) 19) + 1))) (j := 7) (ws' := (wM cI q (uA (uA (uA M 0 (upd (M 0) 9 0)) 0 (upd (upd (M 0) 9 0) 19 (((upd (M 0) 9 0) 19) + 1))) 0 (upd (upd (upd (M 0) 9 0) 19 (((upd (M 0) 9 0) 19) + 1)) 7 (-1))))) hx hb hK hP hD hS 1 0 rfl rfl (show ¬ ((7 : Int32) < 0 ∨ 86 ≤ (7 : Int32).toNatClampNeg) by decide) rfl dX6_floods_160 rfl (fun H locs hP hD hS => ?_)
            exact W.vret hx hb hr (fun t ht hW => ⟨⟨(uA (uA (uA M 0 (upd (M 0) 9 0)) 0 (upd (upd (M 0) 9 0) 19 (((upd (M 0) 9 0) 19) + 1))) 0 (upd (upd (upd (M 0) 9 0) 19 (((upd (M 0) 9 0) 19) + 1)) 7 (-1))), rfl, h, by rw [ht]; exact hP, hD⟩, hS.F ht⟩) hS.2.2 dX6_floods_161
    · have h := h.2 c_5
      refine lv_aload_n hx hb dX6_floods_25 rfl (lv_at hl 0 rfl) ?_
      refine va_get (D := G) (ci := 6) (v := .ref (q 1)) (C := RX6) (T := TX6) (N := 11) hx hb hts hinX6 hown hK hP 0 rfl rfl 0 (by decide) hL7 (fun _ h9 => h9) rfl dX6_floods_26 ?_
      refine lv_bipush (v := 9) hx hb dX6_floods_29 (by decide) ?_
      refine lv_iconst (v := 1) hx hb dX6_floods_31 (by decide) ?_
      refine k_ast (f := (M 0)) (j := 9) (ws' := (wM cI q (uA M 0 (upd (M 0) 9 1)))) hx hb hK hP hD hS 1 0 rfl rfl (show ¬ ((9 : Int32) < 0 ∨ 86 ≤ (9 : Int32).toNatClampNeg) by decide) rfl dX6_floods_32 rfl (fun H locs hP hD hS => ?_)
      refine lv_aload_n hx hb dX6_floods_33 rfl (lv_at hl 0 rfl) ?_
      refine va_get (D := G) (ci := 6) (v := .ref (q 1)) (C := RX6) (T := TX6) (N := 11) hx hb hts hinX6 hown hK hP 0 rfl rfl 0 (by decide) hL7 (fun _ h9 => h9) rfl dX6_floods_34 ?_
      refine lv_bipush (v := 16) hx hb dX6_floods_37 (by decide) ?_
      refine lv_dup2_11 hx hb dX6_floods_39 rfl rfl ?_
      refine k_ald (f := (upd (M 0) 9 1)) (j := 16) (v := ((upd (M 0) 9 1) 16)) hx hb hK hP 1 0 rfl rfl (show ¬ ((16 : Int32) < 0 ∨ 86 ≤ (16 : Int32).toNatClampNeg) by decide) rfl rfl dX6_floods_40 ?_
      refine lv_iconst (v := 1) hx hb dX6_floods_41 (by decide) ?_
      refine lv_iadd hx hb dX6_floods_42 ?_
      refine k_ast (f := (upd (M 0) 9 1)) (j := 16) (ws' := (wM cI q (uA (uA M 0 (upd (M 0) 9 1)) 0 (upd (upd (M 0) 9 1) 16 (((upd (M 0) 9 1) 16) + 1))))) hx hb hK hP hD hS 1 0 rfl rfl (show ¬ ((16 : Int32) < 0 ∨ 86 ≤ (16 : Int32).toNatClampNeg) by decide) rfl dX6_floods_43 rfl (fun H locs hP hD hS => ?_)
      refine lv_aload_n hx hb dX6_floods_44 rfl (lv_at hl 0 rfl) ?_
      refine va_get (D := G) (ci := 6) (v := .ref (q 1)) (C := RX6) (T := TX6) (N := 11) hx hb hts hinX6 hown hK hP 0 rfl rfl 0 (by decide) hL7 (fun _ h9 => h9) rfl dX6_floods_45 ?_
      refine lv_bipush (v := 7) hx hb dX6_floods_48 (by decide) ?_
      refine k_ald (f := (upd (upd (M 0) 9 1) 16 (((upd (M 0) 9 1) 16) + 1))) (j := 7) (v := ((upd (upd (M 0) 9 1) 16 (((upd (M 0) 9 1) 16) + 1)) 7)) hx hb hK hP 1 0 rfl rfl (show ¬ ((7 : Int32) < 0 ∨ 86 ≤ (7 : Int32).toNatClampNeg) by decide) rfl rfl dX6_floods_50 ?_
      refine lv_if_lt (tgt := 161) hx hb dX6_floods_51 (by decide) (fun c_9 => ?_) (fun c_9 => ?_)
      · have h := h.1 c_9
        exact W.vret hx hb hr (fun t ht hW => ⟨⟨(uA (uA M 0 (upd (M 0) 9 1)) 0 (upd (upd (M 0) 9 1) 16 (((upd (M 0) 9 1) 16) + 1))), rfl, h, by rw [ht]; exact hP, hD⟩, hS.F ht⟩) hS.2.2 dX6_floods_161
      · have h := h.2 c_9
        refine lv_aload_n hx hb dX6_floods_54 rfl (lv_at hl 0 rfl) ?_
        refine lv_aload_n hx hb dX6_floods_55 rfl (lv_at hl 0 rfl) ?_
        refine va_get (D := G) (ci := 6) (v := .ref (q 1)) (C := RX6) (T := TX6) (N := 11) hx hb hts hinX6 hown hK hP 0 rfl rfl 0 (by decide) hL7 (fun _ h9 => h9) rfl dX6_floods_56 ?_
        refine lv_bipush (v := 7) hx hb dX6_floods_59 (by decide) ?_
        refine k_ald (f := (upd (upd (M 0) 9 1) 16 (((upd (M 0) 9 1) 16) + 1))) (j := 7) (v := ((upd (upd (M 0) 9 1) 16 (((upd (M 0) 9 1) 16) + 1)) 7)) hx hb hK hP 1 0 rfl rfl (show ¬ ((7 : Int32) < 0 ∨ 86 ≤ (7 : Int32).toNatClampNeg) by decide) rfl rfl dX6_floods_61 ?_
        refine lv_aload_n hx hb dX6_floods_62 rfl (lv_at hl 0 rfl) ?_
        refine va_get (D := G) (ci := 6) (v := .ref (q 1)) (C := RX6) (T := TX6) (N := 11) hx hb hts hinX6 hown hK hP 0 rfl rfl 0 (by decide) hL7 (fun _ h9 => h9) rfl dX6_floods_63 ?_
        refine lv_bipush (v := 8) hx hb dX6_floods_66 (by decide) ?_
        refine k_ald (f := (upd (upd (M 0) 9 1) 16 (((upd (M 0) 9 1) 16) + 1))) (j := 8) (v := ((upd (upd (M 0) 9 1) 16 (((upd (M 0) 9 1) 16) + 1)) 8)) hx hb hK hP 1 0 rfl rfl (show ¬ ((8 : Int32) < 0 ∨ 86 ≤ (8 : Int32).toNatClampNeg) by decide) rfl rfl dX6_floods_68 ?_
        refine kc_v (As := [.int ((upd (upd (M 0) 9 1) 16 (((upd (M 0) 9 1) 16) + 1)) 7), .int ((upd (upd (M 0) 9 1) 16 (((upd (M 0) 9 1) 16) + 1)) 8)]) (rest := []) (wg := (fun u => (wM cI q u))) ⟨hx, hb, hml, hown, hts⟩ (c_X6_marks l G cI cC cD q _ (uA (uA M 0 (upd (M 0) 9 1)) 0 (upd (upd (M 0) 9 1) 16 (((upd (M 0) 9 1) 16) + 1))) ((upd (upd (M 0) 9 1) 16 (((upd (M 0) 9 1) 16) + 1)) 7) ((upd (upd (M 0) 9 1) 16 (((upd (M 0) 9 1) 16) + 1)) 8) _ h) (cwV 2 hts gX6_floods_X6_marks rfl rfl rfl (by decide +kernel) ⟨Nat.le_of_ble_eq_true rfl, Nat.le_of_ble_eq_true rfl⟩) hK hN hP hD hS hA (em_MM cI q (uA (uA M 0 (upd (M 0) 9 1)) 0 (upd (upd (M 0) 9 1) 16 (((upd (M 0) 9 1) 16) + 1)))) (fun u => rp_MM cI q (uA (uA M 0 (upd (M 0) 9 1)) 0 (upd (upd (M 0) 9 1) 16 (((upd (M 0) 9 1) 16) + 1))) u) rfl rfl rfl rfl hl.1 rfl (Nat.le_of_ble_eq_true rfl) dX6_floods_69 ⟨Nat.zero_le _, Nat.zero_le _⟩ (fun u_10 H locs h hP hD hS => ?_)
        refine lv_aload_n hx hb dX6_floods_72 rfl (lv_at hl 0 rfl) ?_
        refine va_get (D := G) (ci := 6) (v := .ref (q 1)) (C := RX6) (T := TX6) (N := 11) hx hb hts hinX6 hown hK hP 0 rfl rfl 0 (by decide) hL7 (fun _ h9 => h9) rfl dX6_floods_73 ?_
        refine lv_bipush (v := 7) hx hb dX6_floods_76 (by decide) ?_
        refine lv_iconst (v := (-1)) hx hb dX6_floods_78 (by decide) ?_
        refine k_ast (f := (u_10 0)) (j := 7) (ws' := (wM cI q (uA u_10 0 (upd (u_10 0) 7 (-1))))) hx hb hK hP hD hS 1 0 rfl rfl (show ¬ ((7 : Int32) < 0 ∨ 86 ≤ (7 : Int32).toNatClampNeg) by decide) rfl dX6_floods_79 rfl (fun H locs hP hD hS => ?_)
        refine lv_aload_n hx hb dX6_floods_80 rfl (lv_at hl 0 rfl) ?_
        refine va_get (D := G) (ci := 6) (v := .ref (q 1)) (C := RX6) (T := TX6) (N := 11) hx hb hts hinX6 hown hK hP 0 rfl rfl 0 (by decide) hL7 (fun _ h9 => h9) rfl dX6_floods_81 ?_
        refine lv_bipush (v := 19) hx hb dX6_floods_84 (by decide) ?_
        refine lv_dup2_11 hx hb dX6_floods_86 rfl rfl ?_
        refine k_ald (f := (upd (u_10 0) 7 (-1))) (j := 19) (v := ((upd (u_10 0) 7 (-1)) 19)) hx hb hK hP 1 0 rfl rfl (show ¬ ((19 : Int32) < 0 ∨ 86 ≤ (19 : Int32).toNatClampNeg) by decide) rfl rfl dX6_floods_87 ?_
        refine lv_iconst (v := 1) hx hb dX6_floods_88 (by decide) ?_
        refine lv_iadd hx hb dX6_floods_89 ?_
        refine k_ast (f := (upd (u_10 0) 7 (-1))) (j := 19) (ws' := (wM cI q (uA (uA u_10 0 (upd (u_10 0) 7 (-1))) 0 (upd (upd (u_10 0) 7 (-1)) 19 (((upd (u_10 0) 7 (-1)) 19) + 1))))) hx hb hK hP hD hS 1 0 rfl rfl (show ¬ ((19 : Int32) < 0 ∨ 86 ≤ (19 : Int32).toNatClampNeg) by decide) rfl dX6_floods_90 rfl (fun H locs hP hD hS => ?_)
        refine lv_goto (tgt := 161) hx hb dX6_floods_91 (by decide) ?_
        exact W.vret hx hb hr (fun t ht hW => ⟨⟨(uA (uA u_10 0 (upd (u_10 0) 7 (-1))) 0 (upd (upd (u_10 0) 7 (-1)) 19 (((upd (u_10 0) 7 (-1)) 19) + 1))), rfl, h, by rw [ht]; exact hP, hD⟩, hS.F ht⟩) hS.2.2 dX6_floods_161
def q_X6_nextOrder (M : St) (Q : Int32 → Prop) : Prop :=
  ∃ (I_2 : Nat → Int32 → Int32 → Int32 → Prop) (n_7 : Nat), I_2 n_7 0 0 (-1000004) ∧ ∀ (n_1 : Nat) (x3_3 : Int32) (x2_4 : Int32) (x1_5 : Int32), I_2 n_1 x3_3 x2_4 x1_5 → ((((M 0) 10) ≤ x3_3 → Q x1_5) ∧ (¬ (((M 0) 10) ≤ x3_3) → vp_in (20 + (2 * x3_3)) 86 ∧ ((((M 0) 2) = 0 → (x1_5 < 0 → ∃ n_42, n_42 < n_1 ∧ I_2 n_42 (x3_3 + 1) 0 x3_3) ∧ (¬ (x1_5 < 0) → (0 ≤ x2_4 → ∃ n_46, n_46 < n_1 ∧ I_2 n_46 (x3_3 + 1) x2_4 x1_5) ∧ (¬ (0 ≤ x2_4) → ∃ n_49, n_49 < n_1 ∧ I_2 n_49 (x3_3 + 1) 0 x3_3))) ∧ (¬ (((M 0) 2) = 0) → (((M 0) 2) = 1 → q_X6_size (((M 0) (((20 + (2 * x3_3))).toNatClampNeg)) - ((M 0) 6)) (fun r_29 => (x1_5 < 0 → ∃ n_31, n_31 < n_1 ∧ I_2 n_31 (x3_3 + 1) (-r_29) x3_3) ∧ (¬ (x1_5 < 0) → ((-r_29) ≤ x2_4 → ∃ n_35, n_35 < n_1 ∧ I_2 n_35 (x3_3 + 1) x2_4 x1_5) ∧ (¬ ((-r_29) ≤ x2_4) → ∃ n_38, n_38 < n_1 ∧ I_2 n_38 (x3_3 + 1) (-r_29) x3_3)))) ∧ (¬ (((M 0) 2) = 1) → vp_in ((20 + (2 * x3_3)) + 1) 86 ∧ (q_X6_of ((M 0) (((20 + (2 * x3_3))).toNatClampNeg)) 2 M (fun r_16 => q_X6_size (((M 0) ((((20 + (2 * x3_3)) + 1)).toNatClampNeg)) - r_16) (fun r_17 => (x1_5 < 0 → ∃ n_19, n_19 < n_1 ∧ I_2 n_19 (x3_3 + 1) r_17 x3_3) ∧ (¬ (x1_5 < 0) → (r_17 ≤ x2_4 → ∃ n_23, n_23 < n_1 ∧ I_2 n_23 (x3_3 + 1) x2_4 x1_5) ∧ (¬ (r_17 ≤ x2_4) → ∃ n_26, n_26 < n_1 ∧ I_2 n_26 (x3_3 + 1) r_17 x3_3))))))))))
set_option maxHeartbeats 4000000 in
set_option maxRecDepth 100000 in
theorem c_X6_nextOrder (l : Launch) (G : va_G) (cI cC cD : ClassId) (q : Nat → Nat) (sz : Nat) (M : St)  (Q : Int32 → Prop) (h : q_X6_nextOrder  M Q) : Met l yX6_nextOrder wsX6_nextOrder ({ frames := 1, cells := 0, slots := 0, locals := 22 }) (va_Pc [.ref (q 0)] (PW G (ty3 cI cC cD) (wM cI q M) sz)) (va_Qi (fun (r : Int32) (_ : Unit) => Q r) (BW G (fun _ : Unit => (wM cI q M)) (va_A (wM cI q M) sz)) (va_A (wM cI q M) sz)) 0 0 (va_A (wM cI q M) sz) := by
  refine Met.ofW (cc := cX6_nextOrder) (maxL := 7) (ret := (some .int)) (by decide) rfl ?_
  intro p e s m args below meth c s₁ B hml hv
  obtain ⟨rfl, hsz, hP, hK, hD0, hN⟩ := hv
  have hx := B.exec
  have hb := B.bytes
  have hr := B.returns
  have hts := atoms_spec (ws := wsX6_nextOrder) B.pre
  have hown : s.vm.findClass RX6 = some m.cls := findClass_of_methodNamed B.named
  have hlocks := B.notSynchronized
  subst hsz
  have hD := hD0.self (sz := s.heap.size)
  generalize hAe : va_A (wM cI q M) s.heap.size = A at hD ⊢
  have hA : ∀ q : Nat, s.heap.size ≤ q → A q := fun q h => by rw [← hAe]; exact Or.inr h
  have hS : va_S A s.heap s.heap [] := va_S.rf
  have hl := lv_entry ([.ref (q 0)]) (n := 7) (Nat.le_of_ble_eq_true rfl)
  rw [lg_entry_eq]
  generalize (lg_sl ([.ref (q 0)]) ++ List.replicate (7 - (lg_sl ([.ref (q 0)])).length) Slot.unset).toArray = ls at hl ⊢
  have hl : lv_has ls 7 [(0, .ref (q 0))] := hl
  have hinX6 : ∀ w ∈ wsX60, w ∈ wsX6_nextOrder := by decide +kernel
  have hL7 := hts (.fieldLink RX6 7 "CraneGatesModel" "s" "[I") (by decide +kernel)
  unfold q_X6_nextOrder at h
  refine lv_ldc hx hb hown (hts (.constant RX6 40 (-1000004)) (by decide +kernel)) dX6_nextOrder_0 ?_
  refine lv_istore_n (lv' := [(1, .int (-1000004)), (0, .ref (q 0))]) hx hb dX6_nextOrder_2 rfl hl (by decide) rfl (fun ls hl => ?_)
  refine lv_iconst (v := 0) hx hb dX6_nextOrder_3 (by decide) ?_
  refine lv_istore_n (lv' := [(2, .int 0), (1, .int (-1000004)), (0, .ref (q 0))]) hx hb dX6_nextOrder_4 rfl hl (by decide) rfl (fun ls hl => ?_)
  refine lv_iconst (v := 0) hx hb dX6_nextOrder_5 (by decide) ?_
  refine lv_istore_n (lv' := [(3, .int 0), (2, .int 0), (1, .int (-1000004)), (0, .ref (q 0))]) hx hb dX6_nextOrder_6 rfl hl (by decide) rfl (fun ls hl => ?_)
  obtain ⟨I_2, n_7, h_8, hI_9⟩ := h
  have lp_10 : ∀ (n_1 : Nat) (x3_3 : Int32) (x2_4 : Int32) (x1_5 : Int32), I_2 n_1 x3_3 x2_4 x1_5 → ∀ (H : Heap) (locs : List Loc) (ls : Array Slot), va_P G vwCl (wM cI q M) H → va_D A (wM cI q M) → va_S A s.heap H locs → lv_has ls 7 [(3, .int x3_3), (2, .int x2_4), (1, .int x1_5), (0, .ref (q 0))] → W p l e (headSpec wsX6_nextOrder ({ frames := 1, cells := 0, slots := 0, locals := 22 })).room s m ([.ref (q 0)] : List Value).toArray below meth c H locs 0 0 (MQ below (va_Qi (fun (r : Int32) (_ : Unit) => Q r) (BW G (fun _ : Unit => (wM cI q M)) A) A) ([.ref (q 0)] : List Value).toArray s 0 0 A) (F0 m 7 ls []) := by
    intro n_1
    induction n_1 using Nat.strongRecOn with
    | ind n_1 ih_6 =>
      intro x3_3 x2_4 x1_5 hIn H locs ls hP hD hS hl
      have h := hI_9 n_1 x3_3 x2_4 x1_5 hIn
      refine lv_iload_n hx hb dX6_nextOrder_7 rfl (lv_at hl 0 rfl) ?_
      refine lv_aload_n hx hb dX6_nextOrder_8 rfl (lv_at hl 3 rfl) ?_
      refine va_get (D := G) (ci := 6) (v := .ref (q 1)) (C := RX6) (T := TX6) (N := 11) hx hb hts hinX6 hown hK hP 0 rfl rfl 0 (by decide) hL7 (fun _ h9 => h9) rfl dX6_nextOrder_9 ?_
      refine lv_bipush (v := 10) hx hb dX6_nextOrder_12 (by decide) ?_
      refine k_ald (f := (M 0)) (j := 10) (v := ((M 0) 10)) hx hb hK hP 1 0 rfl rfl (show ¬ ((10 : Int32) < 0 ∨ 86 ≤ (10 : Int32).toNatClampNeg) by decide) rfl rfl dX6_nextOrder_14 ?_
      refine lv_icmp_ge (tgt := 143) hx hb dX6_nextOrder_15 (by decide) (fun c_11 => ?_) (fun c_11 => ?_)
      · have h := h.1 c_11
        refine lv_iload_n hx hb dX6_nextOrder_143 rfl (lv_at hl 2 rfl) ?_
        exact W.iret (v := x1_5) hx hb hr (fun t ht hW => ⟨⟨x1_5, (), rfl, h, by rw [ht]; exact hP, hD⟩, hS.F ht⟩) hS.2.2 dX6_nextOrder_144
      · have h := h.2 c_11
        refine lv_aload_n hx hb dX6_nextOrder_18 rfl (lv_at hl 3 rfl) ?_
        refine va_get (D := G) (ci := 6) (v := .ref (q 1)) (C := RX6) (T := TX6) (N := 11) hx hb hts hinX6 hown hK hP 0 rfl rfl 0 (by decide) hL7 (fun _ h9 => h9) rfl dX6_nextOrder_19 ?_
        refine lv_bipush (v := 20) hx hb dX6_nextOrder_22 (by decide) ?_
        refine lv_iconst (v := 2) hx hb dX6_nextOrder_24 (by decide) ?_
        refine lv_iload_n hx hb dX6_nextOrder_25 rfl (lv_at hl 0 rfl) ?_
        refine lv_imul hx hb dX6_nextOrder_26 ?_
        refine lv_iadd hx hb dX6_nextOrder_27 ?_
        obtain ⟨hi_12, h⟩ := h
        refine k_ald (f := (M 0)) (j := ((20 + (2 * x3_3))).toNatClampNeg) (v := ((M 0) (((20 + (2 * x3_3))).toNatClampNeg))) hx hb hK hP 1 0 rfl rfl hi_12 rfl rfl dX6_nextOrder_28 ?_
        refine lv_istore (lv' := [(4, .int ((M 0) (((20 + (2 * x3_3))).toNatClampNeg))), (3, .int x3_3), (2, .int x2_4), (1, .int x1_5), (0, .ref (q 0))]) hx hb dX6_nextOrder_29 hl (by decide) rfl (fun ls hl => ?_)
        refine lv_aload_n hx hb dX6_nextOrder_31 rfl (lv_at hl 4 rfl) ?_
        refine va_get (D := G) (ci := 6) (v := .ref (q 1)) (C := RX6) (T := TX6) (N := 11) hx hb hts hinX6 hown hK hP 0 rfl rfl 0 (by decide) hL7 (fun _ h9 => h9) rfl dX6_nextOrder_32 ?_
        refine lv_iconst (v := 2) hx hb dX6_nextOrder_35 (by decide) ?_
        refine k_ald (f := (M 0)) (j := 2) (v := ((M 0) 2)) hx hb hK hP 1 0 rfl rfl (show ¬ ((2 : Int32) < 0 ∨ 86 ≤ (2 : Int32).toNatClampNeg) by decide) rfl rfl dX6_nextOrder_36 ?_
        refine lv_if_ne (tgt := 44) hx hb dX6_nextOrder_37 (by decide) (fun c_13 => ?_) (fun c_13 => ?_)
        · have h := h.2 c_13
          refine lv_aload_n hx hb dX6_nextOrder_44 rfl (lv_at hl 4 rfl) ?_
          refine va_get (D := G) (ci := 6) (v := .ref (q 1)) (C := RX6) (T := TX6) (N := 11) hx hb hts hinX6 hown hK hP 0 rfl rfl 0 (by decide) hL7 (fun _ h9 => h9) rfl dX6_nextOrder_45 ?_
          refine lv_iconst (v := 2) hx hb dX6_nextOrder_48 (by decide) ?_
          refine k_ald (f := (M 0)) (j := 2) (v := ((M 0) 2)) hx hb hK hP 1 0 rfl rfl (show ¬ ((2 : Int32) < 0 ∨ 86 ≤ (2 : Int32).toNatClampNeg) by decide) rfl rfl dX6_nextOrder_49 ?_
          refine lv_iconst (v := 1) hx hb dX6_nextOrder_50 (by decide) ?_
          refine lv_icmp_ne (tgt := 71) hx hb dX6_nextOrder_51 (by decide) (fun c_14 => ?_) (fun c_14 => ?_)
          · have h := h.2 c_14
            refine lv_aload_n hx hb dX6_nextOrder_71 rfl (lv_at hl 4 rfl) ?_
            refine va_get (D := G) (ci := 6) (v := .ref (q 1)) (C := RX6) (T := TX6) (N := 11) hx hb hts hinX6 hown hK hP 0 rfl rfl 0 (by decide) hL7 (fun _ h9 => h9) rfl dX6_nextOrder_72 ?_
            refine lv_bipush (v := 20) hx hb dX6_nextOrder_75 (by decide) ?_
            refine lv_iconst (v := 2) hx hb dX6_nextOrder_77 (by decide) ?_
            refine lv_iload_n hx hb dX6_nextOrder_78 rfl (lv_at hl 1 rfl) ?_
            refine lv_imul hx hb dX6_nextOrder_79 ?_
            refine lv_iadd hx hb dX6_nextOrder_80 ?_
            refine lv_iconst (v := 1) hx hb dX6_nextOrder_81 (by decide) ?_
            refine lv_iadd hx hb dX6_nextOrder_82 ?_
            obtain ⟨hi_15, h⟩ := h
            refine k_ald (f := (M 0)) (j := (((20 + (2 * x3_3)) + 1)).toNatClampNeg) (v := ((M 0) ((((20 + (2 * x3_3)) + 1)).toNatClampNeg))) hx hb hK hP 1 0 rfl rfl hi_15 rfl rfl dX6_nextOrder_83 ?_
            refine lv_aload_n hx hb dX6_nextOrder_84 rfl (lv_at hl 4 rfl) ?_
            refine lv_iload hx hb dX6_nextOrder_85 (lv_at hl 0 rfl) ?_
            refine lv_iconst (v := 2) hx hb dX6_nextOrder_87 (by decide) ?_
            refine kc_i (As := [.int ((M 0) (((20 + (2 * x3_3))).toNatClampNeg)), .int 2]) (rest := [.int ((M 0) ((((20 + (2 * x3_3)) + 1)).toNatClampNeg))]) (wg := (fun _ => (wM cI q M))) ⟨hx, hb, hml, hown, hts⟩ (c_X6_of l G cI cC cD q _ M ((M 0) (((20 + (2 * x3_3))).toNatClampNeg)) 2 _ h) (cwV 2 hts gX6_nextOrder_X6_of rfl rfl rfl (by decide +kernel) ⟨Nat.le_of_ble_eq_true rfl, Nat.le_of_ble_eq_true rfl⟩) hK hN hP hD hS hA (em_MM cI q M) (fun _ => rp_self (em_MM cI q M)) rfl rfl rfl rfl hl.1 rfl (Nat.le_of_ble_eq_true rfl) dX6_nextOrder_88 ⟨Nat.zero_le _, Nat.zero_le _⟩ (fun r_16 _ H locs h hP hD hS => ?_)
            refine lv_isub hx hb dX6_nextOrder_91 ?_
            refine ks_i (As := [.int (((M 0) ((((20 + (2 * x3_3)) + 1)).toNatClampNeg)) - r_16)]) (rest := []) (wg := (fun _ => (wM cI q M))) ⟨hx, hb, hml, hown, hts⟩ (c_X6_size l G cI cC cD  _  (((M 0) ((((20 + (2 * x3_3)) + 1)).toNatClampNeg)) - r_16) _ h) (va_cwS 1 hts gX6_nextOrder_X6_size rfl rfl rfl (by decide +kernel) ⟨Nat.le_of_ble_eq_true rfl, Nat.le_of_ble_eq_true rfl⟩) hK hN hP hD hS hA (em_0 _) (fun _ => rp_self (em_0 _)) rfl hl.1 rfl (Nat.le_of_ble_eq_true rfl) dX6_nextOrder_92 ⟨Nat.zero_le _, Nat.zero_le _⟩ (fun r_17 _ H locs h hP hD hS => ?_)
            refine lv_istore (lv' := [(5, .int r_17), (4, .int ((M 0) (((20 + (2 * x3_3))).toNatClampNeg))), (3, .int x3_3), (2, .int x2_4), (1, .int x1_5), (0, .ref (q 0))]) hx hb dX6_nextOrder_95 hl (by decide) rfl (fun ls hl => ?_)
            refine lv_iload_n hx hb dX6_nextOrder_97 rfl (lv_at hl 4 rfl) ?_
            refine lv_if_lt (tgt := 107) hx hb dX6_nextOrder_98 (by decide) (fun c_18 => ?_) (fun c_18 => ?_)
            · have h := h.1 c_18
              refine lv_iconst (v := 1) hx hb dX6_nextOrder_107 (by decide) ?_
              refine lv_goto (tgt := 112) hx hb dX6_nextOrder_108 (by decide) ?_
              refine lv_istore (lv' := [(6, .int 1), (5, .int r_17), (4, .int ((M 0) (((20 + (2 * x3_3))).toNatClampNeg))), (3, .int x3_3), (2, .int x2_4), (1, .int x1_5), (0, .ref (q 0))]) hx hb dX6_nextOrder_112 hl (by decide) rfl (fun ls hl => ?_)
              refine lv_iload hx hb dX6_nextOrder_114 (lv_at hl 0 rfl) ?_
              refine lv_if_eq (tgt := 123) hx hb dX6_nextOrder_116 (by decide) (fun c => absurd c (by decide)) (fun _ => ?_)
              refine lv_iload_n hx hb dX6_nextOrder_119 rfl (lv_at hl 3 rfl) ?_
              refine lv_goto (tgt := 124) hx hb dX6_nextOrder_120 (by decide) ?_
              refine lv_istore_n (lv' := [(1, .int x3_3), (6, .int 1), (5, .int r_17), (4, .int ((M 0) (((20 + (2 * x3_3))).toNatClampNeg))), (3, .int x3_3), (2, .int x2_4), (0, .ref (q 0))]) hx hb dX6_nextOrder_124 rfl hl (by decide) rfl (fun ls hl => ?_)
              refine lv_iload hx hb dX6_nextOrder_125 (lv_at hl 1 rfl) ?_
              refine lv_if_eq (tgt := 135) hx hb dX6_nextOrder_127 (by decide) (fun c => absurd c (by decide)) (fun _ => ?_)
              refine lv_iload hx hb dX6_nextOrder_130 (lv_at hl 2 rfl) ?_
              refine lv_goto (tgt := 136) hx hb dX6_nextOrder_132 (by decide) ?_
              refine lv_istore_n (lv' := [(2, .int r_17), (1, .int x3_3), (6, .int 1), (5, .int r_17), (4, .int ((M 0) (((20 + (2 * x3_3))).toNatClampNeg))), (3, .int x3_3), (0, .ref (q 0))]) hx hb dX6_nextOrder_136 rfl hl (by decide) rfl (fun ls hl => ?_)
              refine lv_iinc (v := x3_3 + 1) (lv' := [(3, .int (x3_3 + 1)), (2, .int r_17), (1, .int x3_3), (6, .int 1), (5, .int r_17), (4, .int ((M 0) (((20 + (2 * x3_3))).toNatClampNeg))), (0, .ref (q 0))]) hx hb dX6_nextOrder_137 hl (k := 5) rfl rfl (by decide) rfl (fun ls hl => ?_)
              refine lv_goto (tgt := 7) hx hb dX6_nextOrder_140 (by decide) ?_
              obtain ⟨n_19, lt_20, h_21⟩ := h
              exact ih_6 n_19 lt_20 _ _ _ h_21 _ _ _ hP hD hS (lv_sub hl [0, 1, 2, 6] rfl)
            · have h := h.2 c_18
              refine lv_iload hx hb dX6_nextOrder_101 (lv_at hl 0 rfl) ?_
              refine lv_iload_n hx hb dX6_nextOrder_103 rfl (lv_at hl 3 rfl) ?_
              refine lv_icmp_le (tgt := 111) hx hb dX6_nextOrder_104 (by decide) (fun c_22 => ?_) (fun c_22 => ?_)
              · have h := h.1 c_22
                refine lv_iconst (v := 0) hx hb dX6_nextOrder_111 (by decide) ?_
                refine lv_istore (lv' := [(6, .int 0), (5, .int r_17), (4, .int ((M 0) (((20 + (2 * x3_3))).toNatClampNeg))), (3, .int x3_3), (2, .int x2_4), (1, .int x1_5), (0, .ref (q 0))]) hx hb dX6_nextOrder_112 hl (by decide) rfl (fun ls hl => ?_)
                refine lv_iload hx hb dX6_nextOrder_114 (lv_at hl 0 rfl) ?_
                refine lv_if_eq (tgt := 123) hx hb dX6_nextOrder_116 (by decide) (fun _ => ?_) (fun c => absurd c (by decide))
                refine lv_iload_n hx hb dX6_nextOrder_123 rfl (lv_at hl 5 rfl) ?_
                refine lv_istore_n (lv' := [(1, .int x1_5), (6, .int 0), (5, .int r_17), (4, .int ((M 0) (((20 + (2 * x3_3))).toNatClampNeg))), (3, .int x3_3), (2, .int x2_4), (0, .ref (q 0))]) hx hb dX6_nextOrder_124 rfl hl (by decide) rfl (fun ls hl => ?_)
                refine lv_iload hx hb dX6_nextOrder_125 (lv_at hl 1 rfl) ?_
                refine lv_if_eq (tgt := 135) hx hb dX6_nextOrder_127 (by decide) (fun _ => ?_) (fun c => absurd c (by decide))
                refine lv_iload_n hx hb dX6_nextOrder_135 rfl (lv_at hl 5 rfl) ?_
                refine lv_istore_n (lv' := [(2, .int x2_4), (1, .int x1_5), (6, .int 0), (5, .int r_17), (4, .int ((M 0) (((20 + (2 * x3_3))).toNatClampNeg))), (3, .int x3_3), (0, .ref (q 0))]) hx hb dX6_nextOrder_136 rfl hl (by decide) rfl (fun ls hl => ?_)
                refine lv_iinc (v := x3_3 + 1) (lv' := [(3, .int (x3_3 + 1)), (2, .int x2_4), (1, .int x1_5), (6, .int 0), (5, .int r_17), (4, .int ((M 0) (((20 + (2 * x3_3))).toNatClampNeg))), (0, .ref (q 0))]) hx hb dX6_nextOrder_137 hl (k := 5) rfl rfl (by decide) rfl (fun ls hl => ?_)
                refine lv_goto (tgt := 7) hx hb dX6_nextOrder_140 (by decide) ?_
                obtain ⟨n_23, lt_24, h_25⟩ := h
                exact ih_6 n_23 lt_24 _ _ _ h_25 _ _ _ hP hD hS (lv_sub hl [0, 1, 2, 6] rfl)
              · have h := h.2 c_22
                refine lv_iconst (v := 1) hx hb dX6_nextOrder_107 (by decide) ?_
                refine lv_goto (tgt := 112) hx hb dX6_nextOrder_108 (by decide) ?_
                refine lv_istore (lv' := [(6, .int 1), (5, .int r_17), (4, .int ((M 0) (((20 + (2 * x3_3))).toNatClampNeg))), (3, .int x3_3), (2, .int x2_4), (1, .int x1_5), (0, .ref (q 0))]) hx hb dX6_nextOrder_112 hl (by decide) rfl (fun ls hl => ?_)
                refine lv_iload hx hb dX6_nextOrder_114 (lv_at hl 0 rfl) ?_
                refine lv_if_eq (tgt := 123) hx hb dX6_nextOrder_116 (by decide) (fun c => absurd c (by decide)) (fun _ => ?_)
                refine lv_iload_n hx hb dX6_nextOrder_119 rfl (lv_at hl 3 rfl) ?_
                refine lv_goto (tgt := 124) hx hb dX6_nextOrder_120 (by decide) ?_
                refine lv_istore_n (lv' := [(1, .int x3_3), (6, .int 1), (5, .int r_17), (4, .int ((M 0) (((20 + (2 * x3_3))).toNatClampNeg))), (3, .int x3_3), (2, .int x2_4), (0, .ref (q 0))]) hx hb dX6_nextOrder_124 rfl hl (by decide) rfl (fun ls hl => ?_)
                refine lv_iload hx hb dX6_nextOrder_125 (lv_at hl 1 rfl) ?_
                refine lv_if_eq (tgt := 135) hx hb dX6_nextOrder_127 (by decide) (fun c => absurd c (by decide)) (fun _ => ?_)
                refine lv_iload hx hb dX6_nextOrder_130 (lv_at hl 2 rfl) ?_
                refine lv_goto (tgt := 136) hx hb dX6_nextOrder_132 (by decide) ?_
                refine lv_istore_n (lv' := [(2, .int r_17), (1, .int x3_3), (6, .int 1), (5, .int r_17), (4, .int ((M 0) (((20 + (2 * x3_3))).toNatClampNeg))), (3, .int x3_3), (0, .ref (q 0))]) hx hb dX6_nextOrder_136 rfl hl (by decide) rfl (fun ls hl => ?_)
                refine lv_iinc (v := x3_3 + 1) (lv' := [(3, .int (x3_3 + 1)), (2, .int r_17), (1, .int x3_3), (6, .int 1), (5, .int r_17), (4, .int ((M 0) (((20 + (2 * x3_3))).toNatClampNeg))), (0, .ref (q 0))]) hx hb dX6_nextOrder_137 hl (k := 5) rfl rfl (by decide) rfl (fun ls hl => ?_)
                refine lv_goto (tgt := 7) hx hb dX6_nextOrder_140 (by decide) ?_
                obtain ⟨n_26, lt_27, h_28⟩ := h
                exact ih_6 n_26 lt_27 _ _ _ h_28 _ _ _ hP hD hS (lv_sub hl [0, 1, 2, 6] rfl)
          · have h := h.1 c_14
            refine lv_iload hx hb dX6_nextOrder_54 (lv_at hl 0 rfl) ?_
            refine lv_aload_n hx hb dX6_nextOrder_56 rfl (lv_at hl 4 rfl) ?_
            refine va_get (D := G) (ci := 6) (v := .ref (q 1)) (C := RX6) (T := TX6) (N := 11) hx hb hts hinX6 hown hK hP 0 rfl rfl 0 (by decide) hL7 (fun _ h9 => h9) rfl dX6_nextOrder_57 ?_
            refine lv_bipush (v := 6) hx hb dX6_nextOrder_60 (by decide) ?_
            refine k_ald (f := (M 0)) (j := 6) (v := ((M 0) 6)) hx hb hK hP 1 0 rfl rfl (show ¬ ((6 : Int32) < 0 ∨ 86 ≤ (6 : Int32).toNatClampNeg) by decide) rfl rfl dX6_nextOrder_62 ?_
            refine lv_isub hx hb dX6_nextOrder_63 ?_
            refine ks_i (As := [.int (((M 0) (((20 + (2 * x3_3))).toNatClampNeg)) - ((M 0) 6))]) (rest := []) (wg := (fun _ => (wM cI q M))) ⟨hx, hb, hml, hown, hts⟩ (c_X6_size l G cI cC cD  _  (((M 0) (((20 + (2 * x3_3))).toNatClampNeg)) - ((M 0) 6)) _ h) (va_cwS 1 hts gX6_nextOrder_X6_size rfl rfl rfl (by decide +kernel) ⟨Nat.le_of_ble_eq_true rfl, Nat.le_of_ble_eq_true rfl⟩) hK hN hP hD hS hA (em_0 _) (fun _ => rp_self (em_0 _)) rfl hl.1 rfl (Nat.le_of_ble_eq_true rfl) dX6_nextOrder_64 ⟨Nat.zero_le _, Nat.zero_le _⟩ (fun r_29 _ H locs h hP hD hS => ?_)
            refine lv_ineg hx hb dX6_nextOrder_67 ?_
            refine lv_goto (tgt := 95) hx hb dX6_nextOrder_68 (by decide) ?_
            refine lv_istore (lv' := [(5, .int (-r_29)), (4, .int ((M 0) (((20 + (2 * x3_3))).toNatClampNeg))), (3, .int x3_3), (2, .int x2_4), (1, .int x1_5), (0, .ref (q 0))]) hx hb dX6_nextOrder_95 hl (by decide) rfl (fun ls hl => ?_)
            refine lv_iload_n hx hb dX6_nextOrder_97 rfl (lv_at hl 4 rfl) ?_
            refine lv_if_lt (tgt := 107) hx hb dX6_nextOrder_98 (by decide) (fun c_30 => ?_) (fun c_30 => ?_)
            · have h := h.1 c_30
              refine lv_iconst (v := 1) hx hb dX6_nextOrder_107 (by decide) ?_
              refine lv_goto (tgt := 112) hx hb dX6_nextOrder_108 (by decide) ?_
              refine lv_istore (lv' := [(6, .int 1), (5, .int (-r_29)), (4, .int ((M 0) (((20 + (2 * x3_3))).toNatClampNeg))), (3, .int x3_3), (2, .int x2_4), (1, .int x1_5), (0, .ref (q 0))]) hx hb dX6_nextOrder_112 hl (by decide) rfl (fun ls hl => ?_)
              refine lv_iload hx hb dX6_nextOrder_114 (lv_at hl 0 rfl) ?_
              refine lv_if_eq (tgt := 123) hx hb dX6_nextOrder_116 (by decide) (fun c => absurd c (by decide)) (fun _ => ?_)
              refine lv_iload_n hx hb dX6_nextOrder_119 rfl (lv_at hl 3 rfl) ?_
              refine lv_goto (tgt := 124) hx hb dX6_nextOrder_120 (by decide) ?_
              refine lv_istore_n (lv' := [(1, .int x3_3), (6, .int 1), (5, .int (-r_29)), (4, .int ((M 0) (((20 + (2 * x3_3))).toNatClampNeg))), (3, .int x3_3), (2, .int x2_4), (0, .ref (q 0))]) hx hb dX6_nextOrder_124 rfl hl (by decide) rfl (fun ls hl => ?_)
              refine lv_iload hx hb dX6_nextOrder_125 (lv_at hl 1 rfl) ?_
              refine lv_if_eq (tgt := 135) hx hb dX6_nextOrder_127 (by decide) (fun c => absurd c (by decide)) (fun _ => ?_)
              refine lv_iload hx hb dX6_nextOrder_130 (lv_at hl 2 rfl) ?_
              refine lv_goto (tgt := 136) hx hb dX6_nextOrder_132 (by decide) ?_
              refine lv_istore_n (lv' := [(2, .int (-r_29)), (1, .int x3_3), (6, .int 1), (5, .int (-r_29)), (4, .int ((M 0) (((20 + (2 * x3_3))).toNatClampNeg))), (3, .int x3_3), (0, .ref (q 0))]) hx hb dX6_nextOrder_136 rfl hl (by decide) rfl (fun ls hl => ?_)
              refine lv_iinc (v := x3_3 + 1) (lv' := [(3, .int (x3_3 + 1)), (2, .int (-r_29)), (1, .int x3_3), (6, .int 1), (5, .int (-r_29)), (4, .int ((M 0) (((20 + (2 * x3_3))).toNatClampNeg))), (0, .ref (q 0))]) hx hb dX6_nextOrder_137 hl (k := 5) rfl rfl (by decide) rfl (fun ls hl => ?_)
              refine lv_goto (tgt := 7) hx hb dX6_nextOrder_140 (by decide) ?_
              obtain ⟨n_31, lt_32, h_33⟩ := h
              exact ih_6 n_31 lt_32 _ _ _ h_33 _ _ _ hP hD hS (lv_sub hl [0, 1, 2, 6] rfl)
            · have h := h.2 c_30
              refine lv_iload hx hb dX6_nextOrder_101 (lv_at hl 0 rfl) ?_
              refine lv_iload_n hx hb dX6_nextOrder_103 rfl (lv_at hl 3 rfl) ?_
              refine lv_icmp_le (tgt := 111) hx hb dX6_nextOrder_104 (by decide) (fun c_34 => ?_) (fun c_34 => ?_)
              · have h := h.1 c_34
                refine lv_iconst (v := 0) hx hb dX6_nextOrder_111 (by decide) ?_
                refine lv_istore (lv' := [(6, .int 0), (5, .int (-r_29)), (4, .int ((M 0) (((20 + (2 * x3_3))).toNatClampNeg))), (3, .int x3_3), (2, .int x2_4), (1, .int x1_5), (0, .ref (q 0))]) hx hb dX6_nextOrder_112 hl (by decide) rfl (fun ls hl => ?_)
                refine lv_iload hx hb dX6_nextOrder_114 (lv_at hl 0 rfl) ?_
                refine lv_if_eq (tgt := 123) hx hb dX6_nextOrder_116 (by decide) (fun _ => ?_) (fun c => absurd c (by decide))
                refine lv_iload_n hx hb dX6_nextOrder_123 rfl (lv_at hl 5 rfl) ?_
                refine lv_istore_n (lv' := [(1, .int x1_5), (6, .int 0), (5, .int (-r_29)), (4, .int ((M 0) (((20 + (2 * x3_3))).toNatClampNeg))), (3, .int x3_3), (2, .int x2_4), (0, .ref (q 0))]) hx hb dX6_nextOrder_124 rfl hl (by decide) rfl (fun ls hl => ?_)
                refine lv_iload hx hb dX6_nextOrder_125 (lv_at hl 1 rfl) ?_
                refine lv_if_eq (tgt := 135) hx hb dX6_nextOrder_127 (by decide) (fun _ => ?_) (fun c => absurd c (by decide))
                refine lv_iload_n hx hb dX6_nextOrder_135 rfl (lv_at hl 5 rfl) ?_
                refine lv_istore_n (lv' := [(2, .int x2_4), (1, .int x1_5), (6, .int 0), (5, .int (-r_29)), (4, .int ((M 0) (((20 + (2 * x3_3))).toNatClampNeg))), (3, .int x3_3), (0, .ref (q 0))]) hx hb dX6_nextOrder_136 rfl hl (by decide) rfl (fun ls hl => ?_)
                refine lv_iinc (v := x3_3 + 1) (lv' := [(3, .int (x3_3 + 1)), (2, .int x2_4), (1, .int x1_5), (6, .int 0), (5, .int (-r_29)), (4, .int ((M 0) (((20 + (2 * x3_3))).toNatClampNeg))), (0, .ref (q 0))]) hx hb dX6_nextOrder_137 hl (k := 5) rfl rfl (by decide) rfl (fun ls hl => ?_)
                refine lv_goto (tgt := 7) hx hb dX6_nextOrder_140 (by decide) ?_
                obtain ⟨n_35, lt_36, h_37⟩ := h
                exact ih_6 n_35 lt_36 _ _ _ h_37 _ _ _ hP hD hS (lv_sub hl [0, 1, 2, 6] rfl)
              · have h := h.2 c_34
                refine lv_iconst (v := 1) hx hb dX6_nextOrder_107 (by decide) ?_
                refine lv_goto (tgt := 112) hx hb dX6_nextOrder_108 (by decide) ?_
                refine lv_istore (lv' := [(6, .int 1), (5, .int (-r_29)), (4, .int ((M 0) (((20 + (2 * x3_3))).toNatClampNeg))), (3, .int x3_3), (2, .int x2_4), (1, .int x1_5), (0, .ref (q 0))]) hx hb dX6_nextOrder_112 hl (by decide) rfl (fun ls hl => ?_)
                refine lv_iload hx hb dX6_nextOrder_114 (lv_at hl 0 rfl) ?_
                refine lv_if_eq (tgt := 123) hx hb dX6_nextOrder_116 (by decide) (fun c => absurd c (by decide)) (fun _ => ?_)
                refine lv_iload_n hx hb dX6_nextOrder_119 rfl (lv_at hl 3 rfl) ?_
                refine lv_goto (tgt := 124) hx hb dX6_nextOrder_120 (by decide) ?_
                refine lv_istore_n (lv' := [(1, .int x3_3), (6, .int 1), (5, .int (-r_29)), (4, .int ((M 0) (((20 + (2 * x3_3))).toNatClampNeg))), (3, .int x3_3), (2, .int x2_4), (0, .ref (q 0))]) hx hb dX6_nextOrder_124 rfl hl (by decide) rfl (fun ls hl => ?_)
                refine lv_iload hx hb dX6_nextOrder_125 (lv_at hl 1 rfl) ?_
                refine lv_if_eq (tgt := 135) hx hb dX6_nextOrder_127 (by decide) (fun c => absurd c (by decide)) (fun _ => ?_)
                refine lv_iload hx hb dX6_nextOrder_130 (lv_at hl 2 rfl) ?_
                refine lv_goto (tgt := 136) hx hb dX6_nextOrder_132 (by decide) ?_
                refine lv_istore_n (lv' := [(2, .int (-r_29)), (1, .int x3_3), (6, .int 1), (5, .int (-r_29)), (4, .int ((M 0) (((20 + (2 * x3_3))).toNatClampNeg))), (3, .int x3_3), (0, .ref (q 0))]) hx hb dX6_nextOrder_136 rfl hl (by decide) rfl (fun ls hl => ?_)
                refine lv_iinc (v := x3_3 + 1) (lv' := [(3, .int (x3_3 + 1)), (2, .int (-r_29)), (1, .int x3_3), (6, .int 1), (5, .int (-r_29)), (4, .int ((M 0) (((20 + (2 * x3_3))).toNatClampNeg))), (0, .ref (q 0))]) hx hb dX6_nextOrder_137 hl (k := 5) rfl rfl (by decide) rfl (fun ls hl => ?_)
                refine lv_goto (tgt := 7) hx hb dX6_nextOrder_140 (by decide) ?_
                obtain ⟨n_38, lt_39, h_40⟩ := h
                exact ih_6 n_38 lt_39 _ _ _ h_40 _ _ _ hP hD hS (lv_sub hl [0, 1, 2, 6] rfl)
        · have h := h.1 c_13
          refine lv_iconst (v := 0) hx hb dX6_nextOrder_40 (by decide) ?_
          refine lv_goto (tgt := 95) hx hb dX6_nextOrder_41 (by decide) ?_
          refine lv_istore (lv' := [(5, .int 0), (4, .int ((M 0) (((20 + (2 * x3_3))).toNatClampNeg))), (3, .int x3_3), (2, .int x2_4), (1, .int x1_5), (0, .ref (q 0))]) hx hb dX6_nextOrder_95 hl (by decide) rfl (fun ls hl => ?_)
          refine lv_iload_n hx hb dX6_nextOrder_97 rfl (lv_at hl 4 rfl) ?_
          refine lv_if_lt (tgt := 107) hx hb dX6_nextOrder_98 (by decide) (fun c_41 => ?_) (fun c_41 => ?_)
          · have h := h.1 c_41
            refine lv_iconst (v := 1) hx hb dX6_nextOrder_107 (by decide) ?_
            refine lv_goto (tgt := 112) hx hb dX6_nextOrder_108 (by decide) ?_
            refine lv_istore (lv' := [(6, .int 1), (5, .int 0), (4, .int ((M 0) (((20 + (2 * x3_3))).toNatClampNeg))), (3, .int x3_3), (2, .int x2_4), (1, .int x1_5), (0, .ref (q 0))]) hx hb dX6_nextOrder_112 hl (by decide) rfl (fun ls hl => ?_)
            refine lv_iload hx hb dX6_nextOrder_114 (lv_at hl 0 rfl) ?_
            refine lv_if_eq (tgt := 123) hx hb dX6_nextOrder_116 (by decide) (fun c => absurd c (by decide)) (fun _ => ?_)
            refine lv_iload_n hx hb dX6_nextOrder_119 rfl (lv_at hl 3 rfl) ?_
            refine lv_goto (tgt := 124) hx hb dX6_nextOrder_120 (by decide) ?_
            refine lv_istore_n (lv' := [(1, .int x3_3), (6, .int 1), (5, .int 0), (4, .int ((M 0) (((20 + (2 * x3_3))).toNatClampNeg))), (3, .int x3_3), (2, .int x2_4), (0, .ref (q 0))]) hx hb dX6_nextOrder_124 rfl hl (by decide) rfl (fun ls hl => ?_)
            refine lv_iload hx hb dX6_nextOrder_125 (lv_at hl 1 rfl) ?_
            refine lv_if_eq (tgt := 135) hx hb dX6_nextOrder_127 (by decide) (fun c => absurd c (by decide)) (fun _ => ?_)
            refine lv_iload hx hb dX6_nextOrder_130 (lv_at hl 2 rfl) ?_
            refine lv_goto (tgt := 136) hx hb dX6_nextOrder_132 (by decide) ?_
            refine lv_istore_n (lv' := [(2, .int 0), (1, .int x3_3), (6, .int 1), (5, .int 0), (4, .int ((M 0) (((20 + (2 * x3_3))).toNatClampNeg))), (3, .int x3_3), (0, .ref (q 0))]) hx hb dX6_nextOrder_136 rfl hl (by decide) rfl (fun ls hl => ?_)
            refine lv_iinc (v := x3_3 + 1) (lv' := [(3, .int (x3_3 + 1)), (2, .int 0), (1, .int x3_3), (6, .int 1), (5, .int 0), (4, .int ((M 0) (((20 + (2 * x3_3))).toNatClampNeg))), (0, .ref (q 0))]) hx hb dX6_nextOrder_137 hl (k := 5) rfl rfl (by decide) rfl (fun ls hl => ?_)
            refine lv_goto (tgt := 7) hx hb dX6_nextOrder_140 (by decide) ?_
            obtain ⟨n_42, lt_43, h_44⟩ := h
            exact ih_6 n_42 lt_43 _ _ _ h_44 _ _ _ hP hD hS (lv_sub hl [0, 1, 2, 6] rfl)
          · have h := h.2 c_41
            refine lv_iload hx hb dX6_nextOrder_101 (lv_at hl 0 rfl) ?_
            refine lv_iload_n hx hb dX6_nextOrder_103 rfl (lv_at hl 3 rfl) ?_
            refine lv_icmp_le (tgt := 111) hx hb dX6_nextOrder_104 (by decide) (fun c_45 => ?_) (fun c_45 => ?_)
            · have h := h.1 c_45
              refine lv_iconst (v := 0) hx hb dX6_nextOrder_111 (by decide) ?_
              refine lv_istore (lv' := [(6, .int 0), (5, .int 0), (4, .int ((M 0) (((20 + (2 * x3_3))).toNatClampNeg))), (3, .int x3_3), (2, .int x2_4), (1, .int x1_5), (0, .ref (q 0))]) hx hb dX6_nextOrder_112 hl (by decide) rfl (fun ls hl => ?_)
              refine lv_iload hx hb dX6_nextOrder_114 (lv_at hl 0 rfl) ?_
              refine lv_if_eq (tgt := 123) hx hb dX6_nextOrder_116 (by decide) (fun _ => ?_) (fun c => absurd c (by decide))
              refine lv_iload_n hx hb dX6_nextOrder_123 rfl (lv_at hl 5 rfl) ?_
              refine lv_istore_n (lv' := [(1, .int x1_5), (6, .int 0), (5, .int 0), (4, .int ((M 0) (((20 + (2 * x3_3))).toNatClampNeg))), (3, .int x3_3), (2, .int x2_4), (0, .ref (q 0))]) hx hb dX6_nextOrder_124 rfl hl (by decide) rfl (fun ls hl => ?_)
              refine lv_iload hx hb dX6_nextOrder_125 (lv_at hl 1 rfl) ?_
              refine lv_if_eq (tgt := 135) hx hb dX6_nextOrder_127 (by decide) (fun _ => ?_) (fun c => absurd c (by decide))
              refine lv_iload_n hx hb dX6_nextOrder_135 rfl (lv_at hl 5 rfl) ?_
              refine lv_istore_n (lv' := [(2, .int x2_4), (1, .int x1_5), (6, .int 0), (5, .int 0), (4, .int ((M 0) (((20 + (2 * x3_3))).toNatClampNeg))), (3, .int x3_3), (0, .ref (q 0))]) hx hb dX6_nextOrder_136 rfl hl (by decide) rfl (fun ls hl => ?_)
              refine lv_iinc (v := x3_3 + 1) (lv' := [(3, .int (x3_3 + 1)), (2, .int x2_4), (1, .int x1_5), (6, .int 0), (5, .int 0), (4, .int ((M 0) (((20 + (2 * x3_3))).toNatClampNeg))), (0, .ref (q 0))]) hx hb dX6_nextOrder_137 hl (k := 5) rfl rfl (by decide) rfl (fun ls hl => ?_)
              refine lv_goto (tgt := 7) hx hb dX6_nextOrder_140 (by decide) ?_
              obtain ⟨n_46, lt_47, h_48⟩ := h
              exact ih_6 n_46 lt_47 _ _ _ h_48 _ _ _ hP hD hS (lv_sub hl [0, 1, 2, 6] rfl)
            · have h := h.2 c_45
              refine lv_iconst (v := 1) hx hb dX6_nextOrder_107 (by decide) ?_
              refine lv_goto (tgt := 112) hx hb dX6_nextOrder_108 (by decide) ?_
              refine lv_istore (lv' := [(6, .int 1), (5, .int 0), (4, .int ((M 0) (((20 + (2 * x3_3))).toNatClampNeg))), (3, .int x3_3), (2, .int x2_4), (1, .int x1_5), (0, .ref (q 0))]) hx hb dX6_nextOrder_112 hl (by decide) rfl (fun ls hl => ?_)
              refine lv_iload hx hb dX6_nextOrder_114 (lv_at hl 0 rfl) ?_
              refine lv_if_eq (tgt := 123) hx hb dX6_nextOrder_116 (by decide) (fun c => absurd c (by decide)) (fun _ => ?_)
              refine lv_iload_n hx hb dX6_nextOrder_119 rfl (lv_at hl 3 rfl) ?_
              refine lv_goto (tgt := 124) hx hb dX6_nextOrder_120 (by decide) ?_
              refine lv_istore_n (lv' := [(1, .int x3_3), (6, .int 1), (5, .int 0), (4, .int ((M 0) (((20 + (2 * x3_3))).toNatClampNeg))), (3, .int x3_3), (2, .int x2_4), (0, .ref (q 0))]) hx hb dX6_nextOrder_124 rfl hl (by decide) rfl (fun ls hl => ?_)
              refine lv_iload hx hb dX6_nextOrder_125 (lv_at hl 1 rfl) ?_
              refine lv_if_eq (tgt := 135) hx hb dX6_nextOrder_127 (by decide) (fun c => absurd c (by decide)) (fun _ => ?_)
              refine lv_iload hx hb dX6_nextOrder_130 (lv_at hl 2 rfl) ?_
              refine lv_goto (tgt := 136) hx hb dX6_nextOrder_132 (by decide) ?_
              refine lv_istore_n (lv' := [(2, .int 0), (1, .int x3_3), (6, .int 1), (5, .int 0), (4, .int ((M 0) (((20 + (2 * x3_3))).toNatClampNeg))), (3, .int x3_3), (0, .ref (q 0))]) hx hb dX6_nextOrder_136 rfl hl (by decide) rfl (fun ls hl => ?_)
              refine lv_iinc (v := x3_3 + 1) (lv' := [(3, .int (x3_3 + 1)), (2, .int 0), (1, .int x3_3), (6, .int 1), (5, .int 0), (4, .int ((M 0) (((20 + (2 * x3_3))).toNatClampNeg))), (0, .ref (q 0))]) hx hb dX6_nextOrder_137 hl (k := 5) rfl rfl (by decide) rfl (fun ls hl => ?_)
              refine lv_goto (tgt := 7) hx hb dX6_nextOrder_140 (by decide) ?_
              obtain ⟨n_49, lt_50, h_51⟩ := h
              exact ih_6 n_49 lt_50 _ _ _ h_51 _ _ _ hP hD hS (lv_sub hl [0, 1, 2, 6] rfl)
  exact lp_10 _ _ _ _ h_8 _ _ _ hP hD hS hl
def q_X6_nearestToOpen (M : St) (Q : Int32 → Prop) : Prop :=
  ∃ (I_2 : Nat → Int32 → Int32 → Prop) (n_6 : Nat), I_2 n_6 0 (-1000004) ∧ ∀ (n_1 : Nat) (x2_3 : Int32) (x1_4 : Int32), I_2 n_1 x2_3 x1_4 → ((((M 0) 3) ≤ x2_3 → Q x1_4) ∧ (¬ (((M 0) 3) ≤ x2_3) → q_X6_of x2_3 2 M (fun r_11 => (10 ≤ r_11 → ∃ n_13, n_13 < n_1 ∧ I_2 n_13 (x2_3 + 1) x1_4) ∧ (¬ (10 ≤ r_11) → (x1_4 < 0 → ∃ n_17, n_17 < n_1 ∧ I_2 n_17 (x2_3 + 1) x2_3) ∧ (¬ (x1_4 < 0) → q_X6_size (x2_3 - ((M 0) 6)) (fun r_20 => q_X6_size (x1_4 - ((M 0) 6)) (fun r_21 => (r_21 ≤ r_20 → ∃ n_23, n_23 < n_1 ∧ I_2 n_23 (x2_3 + 1) x1_4) ∧ (¬ (r_21 ≤ r_20) → ∃ n_26, n_26 < n_1 ∧ I_2 n_26 (x2_3 + 1) x2_3))))))))
set_option maxHeartbeats 4000000 in
set_option maxRecDepth 100000 in
theorem c_X6_nearestToOpen (l : Launch) (G : va_G) (cI cC cD : ClassId) (q : Nat → Nat) (sz : Nat) (M : St)  (Q : Int32 → Prop) (h : q_X6_nearestToOpen  M Q) : Met l yX6_nearestToOpen wsX6_nearestToOpen ({ frames := 1, cells := 0, slots := 0, locals := 22 }) (va_Pc [.ref (q 0)] (PW G (ty3 cI cC cD) (wM cI q M) sz)) (va_Qi (fun (r : Int32) (_ : Unit) => Q r) (BW G (fun _ : Unit => (wM cI q M)) (va_A (wM cI q M) sz)) (va_A (wM cI q M) sz)) 0 0 (va_A (wM cI q M) sz) := by
  refine Met.ofW (cc := cX6_nearestToOpen) (maxL := 3) (ret := (some .int)) (by decide) rfl ?_
  intro p e s m args below meth c s₁ B hml hv
  obtain ⟨rfl, hsz, hP, hK, hD0, hN⟩ := hv
  have hx := B.exec
  have hb := B.bytes
  have hr := B.returns
  have hts := atoms_spec (ws := wsX6_nearestToOpen) B.pre
  have hown : s.vm.findClass RX6 = some m.cls := findClass_of_methodNamed B.named
  have hlocks := B.notSynchronized
  subst hsz
  have hD := hD0.self (sz := s.heap.size)
  generalize hAe : va_A (wM cI q M) s.heap.size = A at hD ⊢
  have hA : ∀ q : Nat, s.heap.size ≤ q → A q := fun q h => by rw [← hAe]; exact Or.inr h
  have hS : va_S A s.heap s.heap [] := va_S.rf
  have hl := lv_entry ([.ref (q 0)]) (n := 3) (Nat.le_of_ble_eq_true rfl)
  rw [lg_entry_eq]
  generalize (lg_sl ([.ref (q 0)]) ++ List.replicate (3 - (lg_sl ([.ref (q 0)])).length) Slot.unset).toArray = ls at hl ⊢
  have hl : lv_has ls 3 [(0, .ref (q 0))] := hl
  have hinX6 : ∀ w ∈ wsX60, w ∈ wsX6_nearestToOpen := by decide +kernel
  have hL7 := hts (.fieldLink RX6 7 "CraneGatesModel" "s" "[I") (by decide +kernel)
  unfold q_X6_nearestToOpen at h
  refine lv_ldc hx hb hown (hts (.constant RX6 40 (-1000004)) (by decide +kernel)) dX6_nearestToOpen_0 ?_
  refine lv_istore_n (lv' := [(1, .int (-1000004)), (0, .ref (q 0))]) hx hb dX6_nearestToOpen_2 rfl hl (by decide) rfl (fun ls hl => ?_)
  refine lv_iconst (v := 0) hx hb dX6_nearestToOpen_3 (by decide) ?_
  refine lv_istore_n (lv' := [(2, .int 0), (1, .int (-1000004)), (0, .ref (q 0))]) hx hb dX6_nearestToOpen_4 rfl hl (by decide) rfl (fun ls hl => ?_)
  obtain ⟨I_2, n_6, h_7, hI_8⟩ := h
  have lp_9 : ∀ (n_1 : Nat) (x2_3 : Int32) (x1_4 : Int32), I_2 n_1 x2_3 x1_4 → ∀ (H : Heap) (locs : List Loc) (ls : Array Slot), va_P G vwCl (wM cI q M) H → va_D A (wM cI q M) → va_S A s.heap H locs → lv_has ls 3 [(2, .int x2_3), (1, .int x1_4), (0, .ref (q 0))] → W p l e (headSpec wsX6_nearestToOpen ({ frames := 1, cells := 0, slots := 0, locals := 22 })).room s m ([.ref (q 0)] : List Value).toArray below meth c H locs 0 0 (MQ below (va_Qi (fun (r : Int32) (_ : Unit) => Q r) (BW G (fun _ : Unit => (wM cI q M)) A) A) ([.ref (q 0)] : List Value).toArray s 0 0 A) (F0 m 5 ls []) := by
    intro n_1
    induction n_1 using Nat.strongRecOn with
    | ind n_1 ih_5 =>
      intro x2_3 x1_4 hIn H locs ls hP hD hS hl
      have h := hI_8 n_1 x2_3 x1_4 hIn
      refine lv_iload_n hx hb dX6_nearestToOpen_5 rfl (lv_at hl 0 rfl) ?_
      refine lv_aload_n hx hb dX6_nearestToOpen_6 rfl (lv_at hl 2 rfl) ?_
      refine va_get (D := G) (ci := 6) (v := .ref (q 1)) (C := RX6) (T := TX6) (N := 11) hx hb hts hinX6 hown hK hP 0 rfl rfl 0 (by decide) hL7 (fun _ h9 => h9) rfl dX6_nearestToOpen_7 ?_
      refine lv_iconst (v := 3) hx hb dX6_nearestToOpen_10 (by decide) ?_
      refine k_ald (f := (M 0)) (j := 3) (v := ((M 0) 3)) hx hb hK hP 1 0 rfl rfl (show ¬ ((3 : Int32) < 0 ∨ 86 ≤ (3 : Int32).toNatClampNeg) by decide) rfl rfl dX6_nearestToOpen_11 ?_
      refine lv_icmp_ge (tgt := 69) hx hb dX6_nearestToOpen_12 (by decide) (fun c_10 => ?_) (fun c_10 => ?_)
      · have h := h.1 c_10
        refine lv_iload_n hx hb dX6_nearestToOpen_69 rfl (lv_at hl 1 rfl) ?_
        exact W.iret (v := x1_4) hx hb hr (fun t ht hW => ⟨⟨x1_4, (), rfl, h, by rw [ht]; exact hP, hD⟩, hS.F ht⟩) hS.2.2 dX6_nearestToOpen_70
      · have h := h.2 c_10
        refine lv_aload_n hx hb dX6_nearestToOpen_15 rfl (lv_at hl 2 rfl) ?_
        refine lv_iload_n hx hb dX6_nearestToOpen_16 rfl (lv_at hl 0 rfl) ?_
        refine lv_iconst (v := 2) hx hb dX6_nearestToOpen_17 (by decide) ?_
        refine kc_i (As := [.int x2_3, .int 2]) (rest := []) (wg := (fun _ => (wM cI q M))) ⟨hx, hb, hml, hown, hts⟩ (c_X6_of l G cI cC cD q _ M x2_3 2 _ h) (cwV 2 hts gX6_nearestToOpen_X6_of rfl rfl rfl (by decide +kernel) ⟨Nat.le_of_ble_eq_true rfl, Nat.le_of_ble_eq_true rfl⟩) hK hN hP hD hS hA (em_MM cI q M) (fun _ => rp_self (em_MM cI q M)) rfl rfl rfl rfl hl.1 rfl (Nat.le_of_ble_eq_true rfl) dX6_nearestToOpen_18 ⟨Nat.zero_le _, Nat.zero_le _⟩ (fun r_11 _ H locs h hP hD hS => ?_)
        refine lv_bipush (v := 10) hx hb dX6_nearestToOpen_21 (by decide) ?_
        refine lv_icmp_ge (tgt := 61) hx hb dX6_nearestToOpen_23 (by decide) (fun c_12 => ?_) (fun c_12 => ?_)
        · have h := h.1 c_12
          refine lv_iload_n hx hb dX6_nearestToOpen_61 rfl (lv_at hl 1 rfl) ?_
          refine lv_istore_n (lv' := [(1, .int x1_4), (2, .int x2_3), (0, .ref (q 0))]) hx hb dX6_nearestToOpen_62 rfl hl (by decide) rfl (fun ls hl => ?_)
          refine lv_iinc (v := x2_3 + 1) (lv' := [(2, .int (x2_3 + 1)), (1, .int x1_4), (0, .ref (q 0))]) hx hb dX6_nearestToOpen_63 hl (k := 1) rfl rfl (by decide) rfl (fun ls hl => ?_)
          refine lv_goto (tgt := 5) hx hb dX6_nearestToOpen_66 (by decide) ?_
          obtain ⟨n_13, lt_14, h_15⟩ := h
          exact ih_5 n_13 lt_14 _ _ h_15 _ _ _ hP hD hS (lv_sub hl [0, 1, 2] rfl)
        · have h := h.2 c_12
          refine lv_iload_n hx hb dX6_nearestToOpen_26 rfl (lv_at hl 1 rfl) ?_
          refine lv_if_lt (tgt := 57) hx hb dX6_nearestToOpen_27 (by decide) (fun c_16 => ?_) (fun c_16 => ?_)
          · have h := h.1 c_16
            refine lv_iload_n hx hb dX6_nearestToOpen_57 rfl (lv_at hl 0 rfl) ?_
            refine lv_goto (tgt := 62) hx hb dX6_nearestToOpen_58 (by decide) ?_
            refine lv_istore_n (lv' := [(1, .int x2_3), (2, .int x2_3), (0, .ref (q 0))]) hx hb dX6_nearestToOpen_62 rfl hl (by decide) rfl (fun ls hl => ?_)
            refine lv_iinc (v := x2_3 + 1) (lv' := [(2, .int (x2_3 + 1)), (1, .int x2_3), (0, .ref (q 0))]) hx hb dX6_nearestToOpen_63 hl (k := 1) rfl rfl (by decide) rfl (fun ls hl => ?_)
            refine lv_goto (tgt := 5) hx hb dX6_nearestToOpen_66 (by decide) ?_
            obtain ⟨n_17, lt_18, h_19⟩ := h
            exact ih_5 n_17 lt_18 _ _ h_19 _ _ _ hP hD hS (lv_sub hl [0, 1, 2] rfl)
          · have h := h.2 c_16
            refine lv_iload_n hx hb dX6_nearestToOpen_30 rfl (lv_at hl 0 rfl) ?_
            refine lv_aload_n hx hb dX6_nearestToOpen_31 rfl (lv_at hl 2 rfl) ?_
            refine va_get (D := G) (ci := 6) (v := .ref (q 1)) (C := RX6) (T := TX6) (N := 11) hx hb hts hinX6 hown hK hP 0 rfl rfl 0 (by decide) hL7 (fun _ h9 => h9) rfl dX6_nearestToOpen_32 ?_
            refine lv_bipush (v := 6) hx hb dX6_nearestToOpen_35 (by decide) ?_
            refine k_ald (f := (M 0)) (j := 6) (v := ((M 0) 6)) hx hb hK hP 1 0 rfl rfl (show ¬ ((6 : Int32) < 0 ∨ 86 ≤ (6 : Int32).toNatClampNeg) by decide) rfl rfl dX6_nearestToOpen_37 ?_
            refine lv_isub hx hb dX6_nearestToOpen_38 ?_
            refine ks_i (As := [.int (x2_3 - ((M 0) 6))]) (rest := []) (wg := (fun _ => (wM cI q M))) ⟨hx, hb, hml, hown, hts⟩ (c_X6_size l G cI cC cD  _  (x2_3 - ((M 0) 6)) _ h) (va_cwS 1 hts gX6_nearestToOpen_X6_size rfl rfl rfl (by decide +kernel) ⟨Nat.le_of_ble_eq_true rfl, Nat.le_of_ble_eq_true rfl⟩) hK hN hP hD hS hA (em_0 _) (fun _ => rp_self (em_0 _)) rfl hl.1 rfl (Nat.le_of_ble_eq_true rfl) dX6_nearestToOpen_39 ⟨Nat.zero_le _, Nat.zero_le _⟩ (fun r_20 _ H locs h hP hD hS => ?_)
            refine lv_iload_n hx hb dX6_nearestToOpen_42 rfl (lv_at hl 1 rfl) ?_
            refine lv_aload_n hx hb dX6_nearestToOpen_43 rfl (lv_at hl 2 rfl) ?_
            refine va_get (D := G) (ci := 6) (v := .ref (q 1)) (C := RX6) (T := TX6) (N := 11) hx hb hts hinX6 hown hK hP 0 rfl rfl 0 (by decide) hL7 (fun _ h9 => h9) rfl dX6_nearestToOpen_44 ?_
            refine lv_bipush (v := 6) hx hb dX6_nearestToOpen_47 (by decide) ?_
            refine k_ald (f := (M 0)) (j := 6) (v := ((M 0) 6)) hx hb hK hP 1 0 rfl rfl (show ¬ ((6 : Int32) < 0 ∨ 86 ≤ (6 : Int32).toNatClampNeg) by decide) rfl rfl dX6_nearestToOpen_49 ?_
            refine lv_isub hx hb dX6_nearestToOpen_50 ?_
            refine ks_i (As := [.int (x1_4 - ((M 0) 6))]) (rest := [.int r_20]) (wg := (fun _ => (wM cI q M))) ⟨hx, hb, hml, hown, hts⟩ (c_X6_size l G cI cC cD  _  (x1_4 - ((M 0) 6)) _ h) (va_cwS 1 hts gX6_nearestToOpen_X6_size rfl rfl rfl (by decide +kernel) ⟨Nat.le_of_ble_eq_true rfl, Nat.le_of_ble_eq_true rfl⟩) hK hN hP hD hS hA (em_0 _) (fun _ => rp_self (em_0 _)) rfl hl.1 rfl (Nat.le_of_ble_eq_true rfl) dX6_nearestToOpen_51 ⟨Nat.zero_le _, Nat.zero_le _⟩ (fun r_21 _ H locs h hP hD hS => ?_)
            refine lv_icmp_ge (tgt := 61) hx hb dX6_nearestToOpen_54 (by decide) (fun c_22 => ?_) (fun c_22 => ?_)
            · have h := h.1 c_22
              refine lv_iload_n hx hb dX6_nearestToOpen_61 rfl (lv_at hl 1 rfl) ?_
              refine lv_istore_n (lv' := [(1, .int x1_4), (2, .int x2_3), (0, .ref (q 0))]) hx hb dX6_nearestToOpen_62 rfl hl (by decide) rfl (fun ls hl => ?_)
              refine lv_iinc (v := x2_3 + 1) (lv' := [(2, .int (x2_3 + 1)), (1, .int x1_4), (0, .ref (q 0))]) hx hb dX6_nearestToOpen_63 hl (k := 1) rfl rfl (by decide) rfl (fun ls hl => ?_)
              refine lv_goto (tgt := 5) hx hb dX6_nearestToOpen_66 (by decide) ?_
              obtain ⟨n_23, lt_24, h_25⟩ := h
              exact ih_5 n_23 lt_24 _ _ h_25 _ _ _ hP hD hS (lv_sub hl [0, 1, 2] rfl)
            · have h := h.2 c_22
              refine lv_iload_n hx hb dX6_nearestToOpen_57 rfl (lv_at hl 0 rfl) ?_
              refine lv_goto (tgt := 62) hx hb dX6_nearestToOpen_58 (by decide) ?_
              refine lv_istore_n (lv' := [(1, .int x2_3), (2, .int x2_3), (0, .ref (q 0))]) hx hb dX6_nearestToOpen_62 rfl hl (by decide) rfl (fun ls hl => ?_)
              refine lv_iinc (v := x2_3 + 1) (lv' := [(2, .int (x2_3 + 1)), (1, .int x2_3), (0, .ref (q 0))]) hx hb dX6_nearestToOpen_63 hl (k := 1) rfl rfl (by decide) rfl (fun ls hl => ?_)
              refine lv_goto (tgt := 5) hx hb dX6_nearestToOpen_66 (by decide) ?_
              obtain ⟨n_26, lt_27, h_28⟩ := h
              exact ih_5 n_26 lt_27 _ _ h_28 _ _ _ hP hD hS (lv_sub hl [0, 1, 2] rfl)
  exact lp_9 _ _ _ h_7 _ _ _ hP hD hS hl
def q_X6_takes (M : St) (Q : Int32 → St → Prop) : Prop :=
  (((M 0) 9) = 1 → q_X6_nearestToOpen M (fun r_17 => (0 ≤ r_17 → (((upd (upd (M 0) 7 r_17) 8 10) 7) < 0 → Q 0 (uA (uA M 0 (upd (M 0) 7 r_17)) 0 (upd (upd (M 0) 7 r_17) 8 10))) ∧ (¬ (((upd (upd (M 0) 7 r_17) 8 10) 7) < 0) → Q 1 (uA (uA M 0 (upd (M 0) 7 r_17)) 0 (upd (upd (M 0) 7 r_17) 8 10)))) ∧ (¬ (0 ≤ r_17) → (((upd (upd (M 0) 7 (-1)) 8 10) 7) < 0 → Q 0 (uA (uA M 0 (upd (M 0) 7 (-1))) 0 (upd (upd (M 0) 7 (-1)) 8 10))) ∧ (¬ (((upd (upd (M 0) 7 (-1)) 8 10) 7) < 0) → Q 1 (uA (uA M 0 (upd (M 0) 7 (-1))) 0 (upd (upd (M 0) 7 (-1)) 8 10)))))) ∧ (¬ (((M 0) 9) = 1) → (((M 0) 11) ≤ 0 → q_X6_nextOrder M (fun r_3 => (0 ≤ r_3 → vp_in (20 + (2 * r_3)) 86 ∧ (vp_in ((20 + (2 * r_3)) + 1) 86 ∧ ((r_3 < 0 → (((upd (upd (M 0) 7 ((M 0) (((20 + (2 * r_3))).toNatClampNeg))) 8 ((upd (M 0) 7 ((M 0) (((20 + (2 * r_3))).toNatClampNeg))) ((((20 + (2 * r_3)) + 1)).toNatClampNeg))) 7) < 0 → Q 0 (uA (uA M 0 (upd (M 0) 7 ((M 0) (((20 + (2 * r_3))).toNatClampNeg)))) 0 (upd (upd (M 0) 7 ((M 0) (((20 + (2 * r_3))).toNatClampNeg))) 8 ((upd (M 0) 7 ((M 0) (((20 + (2 * r_3))).toNatClampNeg))) ((((20 + (2 * r_3)) + 1)).toNatClampNeg))))) ∧ (¬ (((upd (upd (M 0) 7 ((M 0) (((20 + (2 * r_3))).toNatClampNeg))) 8 ((upd (M 0) 7 ((M 0) (((20 + (2 * r_3))).toNatClampNeg))) ((((20 + (2 * r_3)) + 1)).toNatClampNeg))) 7) < 0) → Q 1 (uA (uA M 0 (upd (M 0) 7 ((M 0) (((20 + (2 * r_3))).toNatClampNeg)))) 0 (upd (upd (M 0) 7 ((M 0) (((20 + (2 * r_3))).toNatClampNeg))) 8 ((upd (M 0) 7 ((M 0) (((20 + (2 * r_3))).toNatClampNeg))) ((((20 + (2 * r_3)) + 1)).toNatClampNeg)))))) ∧ (¬ (r_3 < 0) → q_X6_dropsOrder r_3 (uA (uA M 0 (upd (M 0) 7 ((M 0) (((20 + (2 * r_3))).toNatClampNeg)))) 0 (upd (upd (M 0) 7 ((M 0) (((20 + (2 * r_3))).toNatClampNeg))) 8 ((upd (M 0) 7 ((M 0) (((20 + (2 * r_3))).toNatClampNeg))) ((((20 + (2 * r_3)) + 1)).toNatClampNeg)))) (fun u_9 => (((u_9 0) 7) < 0 → Q 0 u_9) ∧ (¬ (((u_9 0) 7) < 0) → Q 1 u_9)))))) ∧ (¬ (0 ≤ r_3) → (r_3 < 0 → (((upd (upd (M 0) 7 (-1)) 8 0) 7) < 0 → Q 0 (uA (uA M 0 (upd (M 0) 7 (-1))) 0 (upd (upd (M 0) 7 (-1)) 8 0))) ∧ (¬ (((upd (upd (M 0) 7 (-1)) 8 0) 7) < 0) → Q 1 (uA (uA M 0 (upd (M 0) 7 (-1))) 0 (upd (upd (M 0) 7 (-1)) 8 0)))) ∧ (¬ (r_3 < 0) → q_X6_dropsOrder r_3 (uA (uA M 0 (upd (M 0) 7 (-1))) 0 (upd (upd (M 0) 7 (-1)) 8 0)) (fun u_13 => (((u_13 0) 7) < 0 → Q 0 u_13) ∧ (¬ (((u_13 0) 7) < 0) → Q 1 u_13)))))) ∧ (¬ (((M 0) 11) ≤ 0) → q_X6_dropsMark 0 (uA (uA M 0 (upd (M 0) 7 ((M 0) 36))) 0 (upd (upd (M 0) 7 ((M 0) 36)) 8 ((upd (M 0) 7 ((M 0) 36)) 37))) (fun u_15 => (((u_15 0) 7) < 0 → Q 0 u_15) ∧ (¬ (((u_15 0) 7) < 0) → Q 1 u_15))))
set_option maxHeartbeats 4000000 in
set_option maxRecDepth 100000 in
theorem c_X6_takes (l : Launch) (G : va_G) (cI cC cD : ClassId) (q : Nat → Nat) (sz : Nat) (M : St)  (Q : Int32 → St → Prop) (h : q_X6_takes  M Q) : Met l yX6_takes wsX6_takes ({ frames := 2, cells := 0, slots := 0, locals := 48 }) (va_Pc [.ref (q 0)] (PW G (ty3 cI cC cD) (wM cI q M) sz)) (va_Qi Q (BW G (fun u : St => (wM cI q u)) (va_A (wM cI q M) sz)) (va_A (wM cI q M) sz)) 0 0 (va_A (wM cI q M) sz) := by
  refine Met.ofW (cc := cX6_takes) (maxL := 2) (ret := (some .boolean)) (by decide) rfl ?_
  intro p e s m args below meth c s₁ B hml hv
  obtain ⟨rfl, hsz, hP, hK, hD0, hN⟩ := hv
  have hx := B.exec
  have hb := B.bytes
  have hr := B.returns
  have hts := atoms_spec (ws := wsX6_takes) B.pre
  have hown : s.vm.findClass RX6 = some m.cls := findClass_of_methodNamed B.named
  have hlocks := B.notSynchronized
  subst hsz
  have hD := hD0.self (sz := s.heap.size)
  generalize hAe : va_A (wM cI q M) s.heap.size = A at hD ⊢
  have hA : ∀ q : Nat, s.heap.size ≤ q → A q := fun q h => by rw [← hAe]; exact Or.inr h
  have hS : va_S A s.heap s.heap [] := va_S.rf
  have hl := lv_entry ([.ref (q 0)]) (n := 2) (Nat.le_of_ble_eq_true rfl)
  rw [lg_entry_eq]
  generalize (lg_sl ([.ref (q 0)]) ++ List.replicate (2 - (lg_sl ([.ref (q 0)])).length) Slot.unset).toArray = ls at hl ⊢
  have hl : lv_has ls 2 [(0, .ref (q 0))] := hl
  have hinX6 : ∀ w ∈ wsX60, w ∈ wsX6_takes := by decide +kernel
  have hL7 := hts (.fieldLink RX6 7 "CraneGatesModel" "s" "[I") (by decide +kernel)
  unfold q_X6_takes at h
  refine lv_aload_n hx hb dX6_takes_0 rfl (lv_at hl 0 rfl) ?_
  refine va_get (D := G) (ci := 6) (v := .ref (q 1)) (C := RX6) (T := TX6) (N := 11) hx hb hts hinX6 hown hK hP 0 rfl rfl 0 (by decide) hL7 (fun _ h9 => h9) rfl dX6_takes_1 ?_
  refine lv_bipush (v := 9) hx hb dX6_takes_4 (by decide) ?_
  refine k_ald (f := (M 0)) (j := 9) (v := ((M 0) 9)) hx hb hK hP 1 0 rfl rfl (show ¬ ((9 : Int32) < 0 ∨ 86 ≤ (9 : Int32).toNatClampNeg) by decide) rfl rfl dX6_takes_6 ?_
  refine lv_iconst (v := 1) hx hb dX6_takes_7 (by decide) ?_
  refine lv_icmp_ne (tgt := 44) hx hb dX6_takes_8 (by decide) (fun c_1 => ?_) (fun c_1 => ?_)
  · have h := h.2 c_1
    refine lv_aload_n hx hb dX6_takes_44 rfl (lv_at hl 0 rfl) ?_
    refine va_get (D := G) (ci := 6) (v := .ref (q 1)) (C := RX6) (T := TX6) (N := 11) hx hb hts hinX6 hown hK hP 0 rfl rfl 0 (by decide) hL7 (fun _ h9 => h9) rfl dX6_takes_45 ?_
    refine lv_bipush (v := 11) hx hb dX6_takes_48 (by decide) ?_
    refine k_ald (f := (M 0)) (j := 11) (v := ((M 0) 11)) hx hb hK hP 1 0 rfl rfl (show ¬ ((11 : Int32) < 0 ∨ 86 ≤ (11 : Int32).toNatClampNeg) by decide) rfl rfl dX6_takes_50 ?_
    refine lv_if_le (tgt := 90) hx hb dX6_takes_51 (by decide) (fun c_2 => ?_) (fun c_2 => ?_)
    · have h := h.1 c_2
      refine lv_aload_n hx hb dX6_takes_90 rfl (lv_at hl 0 rfl) ?_
      refine kc_i (As := []) (rest := []) (wg := (fun _ => (wM cI q M))) ⟨hx, hb, hml, hown, hts⟩ (c_X6_nextOrder l G cI cC cD q _ M  _ h) (cwV 0 hts gX6_takes_X6_nextOrder rfl rfl rfl (by decide +kernel) ⟨Nat.le_of_ble_eq_true rfl, Nat.le_of_ble_eq_true rfl⟩) hK hN hP hD hS hA (em_MM cI q M) (fun _ => rp_self (em_MM cI q M)) rfl rfl rfl rfl hl.1 rfl (Nat.le_of_ble_eq_true rfl) dX6_takes_91 ⟨Nat.zero_le _, Nat.zero_le _⟩ (fun r_3 _ H locs h hP hD hS => ?_)
      refine lv_istore_n (lv' := [(1, .int r_3), (0, .ref (q 0))]) hx hb dX6_takes_94 rfl hl (by decide) rfl (fun ls hl => ?_)
      refine lv_aload_n hx hb dX6_takes_95 rfl (lv_at hl 1 rfl) ?_
      refine va_get (D := G) (ci := 6) (v := .ref (q 1)) (C := RX6) (T := TX6) (N := 11) hx hb hts hinX6 hown hK hP 0 rfl rfl 0 (by decide) hL7 (fun _ h9 => h9) rfl dX6_takes_96 ?_
      refine lv_bipush (v := 7) hx hb dX6_takes_99 (by decide) ?_
      refine lv_iload_n hx hb dX6_takes_101 rfl (lv_at hl 0 rfl) ?_
      refine lv_if_ge (tgt := 109) hx hb dX6_takes_102 (by decide) (fun c_4 => ?_) (fun c_4 => ?_)
      · have h := h.1 c_4
        refine lv_aload_n hx hb dX6_takes_109 rfl (lv_at hl 1 rfl) ?_
        refine va_get (D := G) (ci := 6) (v := .ref (q 1)) (C := RX6) (T := TX6) (N := 11) hx hb hts hinX6 hown hK hP 0 rfl rfl 0 (by decide) hL7 (fun _ h9 => h9) rfl dX6_takes_110 ?_
        refine lv_bipush (v := 20) hx hb dX6_takes_113 (by decide) ?_
        refine lv_iconst (v := 2) hx hb dX6_takes_115 (by decide) ?_
        refine lv_iload_n hx hb dX6_takes_116 rfl (lv_at hl 0 rfl) ?_
        refine lv_imul hx hb dX6_takes_117 ?_
        refine lv_iadd hx hb dX6_takes_118 ?_
        obtain ⟨hi_5, h⟩ := h
        refine k_ald (f := (M 0)) (j := ((20 + (2 * r_3))).toNatClampNeg) (v := ((M 0) (((20 + (2 * r_3))).toNatClampNeg))) hx hb hK hP 1 0 rfl rfl hi_5 rfl rfl dX6_takes_119 ?_
        refine k_ast (f := (M 0)) (j := 7) (ws' := (wM cI q (uA M 0 (upd (M 0) 7 ((M 0) (((20 + (2 * r_3))).toNatClampNeg)))))) hx hb hK hP hD hS 1 0 rfl rfl (show ¬ ((7 : Int32) < 0 ∨ 86 ≤ (7 : Int32).toNatClampNeg) by decide) rfl dX6_takes_120 rfl (fun H locs hP hD hS => ?_)
        refine lv_aload_n hx hb dX6_takes_121 rfl (lv_at hl 1 rfl) ?_
        refine va_get (D := G) (ci := 6) (v := .ref (q 1)) (C := RX6) (T := TX6) (N := 11) hx hb hts hinX6 hown hK hP 0 rfl rfl 0 (by decide) hL7 (fun _ h9 => h9) rfl dX6_takes_122 ?_
        refine lv_bipush (v := 8) hx hb dX6_takes_125 (by decide) ?_
        refine lv_iload_n hx hb dX6_takes_127 rfl (lv_at hl 0 rfl) ?_
        refine lv_if_ge (tgt := 135) hx hb dX6_takes_128 (by decide) (fun _ => ?_) (fun c => absurd c_4 c)
        refine lv_aload_n hx hb dX6_takes_135 rfl (lv_at hl 1 rfl) ?_
        refine va_get (D := G) (ci := 6) (v := .ref (q 1)) (C := RX6) (T := TX6) (N := 11) hx hb hts hinX6 hown hK hP 0 rfl rfl 0 (by decide) hL7 (fun _ h9 => h9) rfl dX6_takes_136 ?_
        refine lv_bipush (v := 20) hx hb dX6_takes_139 (by decide) ?_
        refine lv_iconst (v := 2) hx hb dX6_takes_141 (by decide) ?_
        refine lv_iload_n hx hb dX6_takes_142 rfl (lv_at hl 0 rfl) ?_
        refine lv_imul hx hb dX6_takes_143 ?_
        refine lv_iadd hx hb dX6_takes_144 ?_
        refine lv_iconst (v := 1) hx hb dX6_takes_145 (by decide) ?_
        refine lv_iadd hx hb dX6_takes_146 ?_
        obtain ⟨hi_6, h⟩ := h
        refine k_ald (f := (upd (M 0) 7 ((M 0) (((20 + (2 * r_3))).toNatClampNeg)))) (j := (((20 + (2 * r_3)) + 1)).toNatClampNeg) (v := ((upd (M 0) 7 ((M 0) (((20 + (2 * r_3))).toNatClampNeg))) ((((20 + (2 * r_3)) + 1)).toNatClampNeg))) hx hb hK hP 1 0 rfl rfl hi_6 rfl rfl dX6_takes_147 ?_
        refine k_ast (f := (upd (M 0) 7 ((M 0) (((20 + (2 * r_3))).toNatClampNeg)))) (j := 8) (ws' := (wM cI q (uA (uA M 0 (upd (M 0) 7 ((M 0) (((20 + (2 * r_3))).toNatClampNeg)))) 0 (upd (upd (M 0) 7 ((M 0) (((20 + (2 * r_3))).toNatClampNeg))) 8 ((upd (M 0) 7 ((M 0) (((20 + (2 * r_3))).toNatClampNeg))) ((((20 + (2 * r_3)) + 1)).toNatClampNeg)))))) hx hb hK hP hD hS 1 0 rfl rfl (show ¬ ((8 : Int32) < 0 ∨ 86 ≤ (8 : Int32).toNatClampNeg) by decide) rfl dX6_takes_148 rfl (fun H locs hP hD hS => ?_)
        refine lv_iload_n hx hb dX6_takes_149 rfl (lv_at hl 0 rfl) ?_
        refine lv_if_lt (tgt := 158) hx hb dX6_takes_150 (by decide) (fun c_7 => ?_) (fun c_7 => ?_)
        · have h := h.1 c_7
          refine lv_aload_n hx hb dX6_takes_158 rfl (lv_at hl 1 rfl) ?_
          refine va_get (D := G) (ci := 6) (v := .ref (q 1)) (C := RX6) (T := TX6) (N := 11) hx hb hts hinX6 hown hK hP 0 rfl rfl 0 (by decide) hL7 (fun _ h9 => h9) rfl dX6_takes_159 ?_
          refine lv_bipush (v := 7) hx hb dX6_takes_162 (by decide) ?_
          refine k_ald (f := (upd (upd (M 0) 7 ((M 0) (((20 + (2 * r_3))).toNatClampNeg))) 8 ((upd (M 0) 7 ((M 0) (((20 + (2 * r_3))).toNatClampNeg))) ((((20 + (2 * r_3)) + 1)).toNatClampNeg)))) (j := 7) (v := ((upd (upd (M 0) 7 ((M 0) (((20 + (2 * r_3))).toNatClampNeg))) 8 ((upd (M 0) 7 ((M 0) (((20 + (2 * r_3))).toNatClampNeg))) ((((20 + (2 * r_3)) + 1)).toNatClampNeg))) 7)) hx hb hK hP 1 0 rfl rfl (show ¬ ((7 : Int32) < 0 ∨ 86 ≤ (7 : Int32).toNatClampNeg) by decide) rfl rfl dX6_takes_164 ?_
          refine lv_if_lt (tgt := 172) hx hb dX6_takes_165 (by decide) (fun c_8 => ?_) (fun c_8 => ?_)
          · have h := h.1 c_8
            refine lv_iconst (v := 0) hx hb dX6_takes_172 (by decide) ?_
            exact W.zret (v := 0) hx hb hr rfl (fun t ht hW => ⟨⟨0, (uA (uA M 0 (upd (M 0) 7 ((M 0) (((20 + (2 * r_3))).toNatClampNeg)))) 0 (upd (upd (M 0) 7 ((M 0) (((20 + (2 * r_3))).toNatClampNeg))) 8 ((upd (M 0) 7 ((M 0) (((20 + (2 * r_3))).toNatClampNeg))) ((((20 + (2 * r_3)) + 1)).toNatClampNeg)))), rfl, h, by rw [ht]; exact hP, hD⟩, hS.F ht⟩) hS.2.2 dX6_takes_173
          · have h := h.2 c_8
            refine lv_iconst (v := 1) hx hb dX6_takes_168 (by decide) ?_
            refine lv_goto (tgt := 173) hx hb dX6_takes_169 (by decide) ?_
            exact W.zret (v := 1) hx hb hr rfl (fun t ht hW => ⟨⟨1, (uA (uA M 0 (upd (M 0) 7 ((M 0) (((20 + (2 * r_3))).toNatClampNeg)))) 0 (upd (upd (M 0) 7 ((M 0) (((20 + (2 * r_3))).toNatClampNeg))) 8 ((upd (M 0) 7 ((M 0) (((20 + (2 * r_3))).toNatClampNeg))) ((((20 + (2 * r_3)) + 1)).toNatClampNeg)))), rfl, h, by rw [ht]; exact hP, hD⟩, hS.F ht⟩) hS.2.2 dX6_takes_173
        · have h := h.2 c_7
          refine lv_aload_n hx hb dX6_takes_153 rfl (lv_at hl 1 rfl) ?_
          refine lv_iload_n hx hb dX6_takes_154 rfl (lv_at hl 0 rfl) ?_
          refine kc_v (As := [.int r_3]) (rest := []) (wg := (fun u => (wM cI q u))) ⟨hx, hb, hml, hown, hts⟩ (c_X6_dropsOrder l G cI cC cD q _ (uA (uA M 0 (upd (M 0) 7 ((M 0) (((20 + (2 * r_3))).toNatClampNeg)))) 0 (upd (upd (M 0) 7 ((M 0) (((20 + (2 * r_3))).toNatClampNeg))) 8 ((upd (M 0) 7 ((M 0) (((20 + (2 * r_3))).toNatClampNeg))) ((((20 + (2 * r_3)) + 1)).toNatClampNeg)))) r_3 _ h) (cwV 1 hts gX6_takes_X6_dropsOrder rfl rfl rfl (by decide +kernel) ⟨Nat.le_of_ble_eq_true rfl, Nat.le_of_ble_eq_true rfl⟩) hK hN hP hD hS hA (em_MM cI q (uA (uA M 0 (upd (M 0) 7 ((M 0) (((20 + (2 * r_3))).toNatClampNeg)))) 0 (upd (upd (M 0) 7 ((M 0) (((20 + (2 * r_3))).toNatClampNeg))) 8 ((upd (M 0) 7 ((M 0) (((20 + (2 * r_3))).toNatClampNeg))) ((((20 + (2 * r_3)) + 1)).toNatClampNeg))))) (fun u => rp_MM cI q (uA (uA M 0 (upd (M 0) 7 ((M 0) (((20 + (2 * r_3))).toNatClampNeg)))) 0 (upd (upd (M 0) 7 ((M 0) (((20 + (2 * r_3))).toNatClampNeg))) 8 ((upd (M 0) 7 ((M 0) (((20 + (2 * r_3))).toNatClampNeg))) ((((20 + (2 * r_3)) + 1)).toNatClampNeg)))) u) rfl rfl rfl rfl hl.1 rfl (Nat.le_of_ble_eq_true rfl) dX6_takes_155 ⟨Nat.zero_le _, Nat.zero_le _⟩ (fun u_9 H locs h hP hD hS => ?_)
          refine lv_aload_n hx hb dX6_takes_158 rfl (lv_at hl 1 rfl) ?_
          refine va_get (D := G) (ci := 6) (v := .ref (q 1)) (C := RX6) (T := TX6) (N := 11) hx hb hts hinX6 hown hK hP 0 rfl rfl 0 (by decide) hL7 (fun _ h9 => h9) rfl dX6_takes_159 ?_
          refine lv_bipush (v := 7) hx hb dX6_takes_162 (by decide) ?_
          refine k_ald (f := (u_9 0)) (j := 7) (v := ((u_9 0) 7)) hx hb hK hP 1 0 rfl rfl (show ¬ ((7 : Int32) < 0 ∨ 86 ≤ (7 : Int32).toNatClampNeg) by decide) rfl rfl dX6_takes_164 ?_
          refine lv_if_lt (tgt := 172) hx hb dX6_takes_165 (by decide) (fun c_10 => ?_) (fun c_10 => ?_)
          · have h := h.1 c_10
            refine lv_iconst (v := 0) hx hb dX6_takes_172 (by decide) ?_
            exact W.zret (v := 0) hx hb hr rfl (fun t ht hW => ⟨⟨0, u_9, rfl, h, by rw [ht]; exact hP, hD⟩, hS.F ht⟩) hS.2.2 dX6_takes_173
          · have h := h.2 c_10
            refine lv_iconst (v := 1) hx hb dX6_takes_168 (by decide) ?_
            refine lv_goto (tgt := 173) hx hb dX6_takes_169 (by decide) ?_
            exact W.zret (v := 1) hx hb hr rfl (fun t ht hW => ⟨⟨1, u_9, rfl, h, by rw [ht]; exact hP, hD⟩, hS.F ht⟩) hS.2.2 dX6_takes_173
      · have h := h.2 c_4
        refine lv_iconst (v := (-1)) hx hb dX6_takes_105 (by decide) ?_
        refine lv_goto (tgt := 120) hx hb dX6_takes_106 (by decide) ?_
        refine k_ast (f := (M 0)) (j := 7) (ws' := (wM cI q (uA M 0 (upd (M 0) 7 (-1))))) hx hb hK hP hD hS 1 0 rfl rfl (show ¬ ((7 : Int32) < 0 ∨ 86 ≤ (7 : Int32).toNatClampNeg) by decide) rfl dX6_takes_120 rfl (fun H locs hP hD hS => ?_)
        refine lv_aload_n hx hb dX6_takes_121 rfl (lv_at hl 1 rfl) ?_
        refine va_get (D := G) (ci := 6) (v := .ref (q 1)) (C := RX6) (T := TX6) (N := 11) hx hb hts hinX6 hown hK hP 0 rfl rfl 0 (by decide) hL7 (fun _ h9 => h9) rfl dX6_takes_122 ?_
        refine lv_bipush (v := 8) hx hb dX6_takes_125 (by decide) ?_
        refine lv_iload_n hx hb dX6_takes_127 rfl (lv_at hl 0 rfl) ?_
        refine lv_if_ge (tgt := 135) hx hb dX6_takes_128 (by decide) (fun c => absurd c c_4) (fun _ => ?_)
        refine lv_iconst (v := 0) hx hb dX6_takes_131 (by decide) ?_
        refine lv_goto (tgt := 148) hx hb dX6_takes_132 (by decide) ?_
        refine k_ast (f := (upd (M 0) 7 (-1))) (j := 8) (ws' := (wM cI q (uA (uA M 0 (upd (M 0) 7 (-1))) 0 (upd (upd (M 0) 7 (-1)) 8 0)))) hx hb hK hP hD hS 1 0 rfl rfl (show ¬ ((8 : Int32) < 0 ∨ 86 ≤ (8 : Int32).toNatClampNeg) by decide) rfl dX6_takes_148 rfl (fun H locs hP hD hS => ?_)
        refine lv_iload_n hx hb dX6_takes_149 rfl (lv_at hl 0 rfl) ?_
        refine lv_if_lt (tgt := 158) hx hb dX6_takes_150 (by decide) (fun c_11 => ?_) (fun c_11 => ?_)
        · have h := h.1 c_11
          refine lv_aload_n hx hb dX6_takes_158 rfl (lv_at hl 1 rfl) ?_
          refine va_get (D := G) (ci := 6) (v := .ref (q 1)) (C := RX6) (T := TX6) (N := 11) hx hb hts hinX6 hown hK hP 0 rfl rfl 0 (by decide) hL7 (fun _ h9 => h9) rfl dX6_takes_159 ?_
          refine lv_bipush (v := 7) hx hb dX6_takes_162 (by decide) ?_
          refine k_ald (f := (upd (upd (M 0) 7 (-1)) 8 0)) (j := 7) (v := ((upd (upd (M 0) 7 (-1)) 8 0) 7)) hx hb hK hP 1 0 rfl rfl (show ¬ ((7 : Int32) < 0 ∨ 86 ≤ (7 : Int32).toNatClampNeg) by decide) rfl rfl dX6_takes_164 ?_
          refine lv_if_lt (tgt := 172) hx hb dX6_takes_165 (by decide) (fun c_12 => ?_) (fun c_12 => ?_)
          · have h := h.1 c_12
            refine lv_iconst (v := 0) hx hb dX6_takes_172 (by decide) ?_
            exact W.zret (v := 0) hx hb hr rfl (fun t ht hW => ⟨⟨0, (uA (uA M 0 (upd (M 0) 7 (-1))) 0 (upd (upd (M 0) 7 (-1)) 8 0)), rfl, h, by rw [ht]; exact hP, hD⟩, hS.F ht⟩) hS.2.2 dX6_takes_173
          · have h := h.2 c_12
            refine lv_iconst (v := 1) hx hb dX6_takes_168 (by decide) ?_
            refine lv_goto (tgt := 173) hx hb dX6_takes_169 (by decide) ?_
            exact W.zret (v := 1) hx hb hr rfl (fun t ht hW => ⟨⟨1, (uA (uA M 0 (upd (M 0) 7 (-1))) 0 (upd (upd (M 0) 7 (-1)) 8 0)), rfl, h, by rw [ht]; exact hP, hD⟩, hS.F ht⟩) hS.2.2 dX6_takes_173
        · have h := h.2 c_11
          refine lv_aload_n hx hb dX6_takes_153 rfl (lv_at hl 1 rfl) ?_
          refine lv_iload_n hx hb dX6_takes_154 rfl (lv_at hl 0 rfl) ?_
          refine kc_v (As := [.int r_3]) (rest := []) (wg := (fun u => (wM cI q u))) ⟨hx, hb, hml, hown, hts⟩ (c_X6_dropsOrder l G cI cC cD q _ (uA (uA M 0 (upd (M 0) 7 (-1))) 0 (upd (upd (M 0) 7 (-1)) 8 0)) r_3 _ h) (cwV 1 hts gX6_takes_X6_dropsOrder rfl rfl rfl (by decide +kernel) ⟨Nat.le_of_ble_eq_true rfl, Nat.le_of_ble_eq_true rfl⟩) hK hN hP hD hS hA (em_MM cI q (uA (uA M 0 (upd (M 0) 7 (-1))) 0 (upd (upd (M 0) 7 (-1)) 8 0))) (fun u => rp_MM cI q (uA (uA M 0 (upd (M 0) 7 (-1))) 0 (upd (upd (M 0) 7 (-1)) 8 0)) u) rfl rfl rfl rfl hl.1 rfl (Nat.le_of_ble_eq_true rfl) dX6_takes_155 ⟨Nat.zero_le _, Nat.zero_le _⟩ (fun u_13 H locs h hP hD hS => ?_)
          refine lv_aload_n hx hb dX6_takes_158 rfl (lv_at hl 1 rfl) ?_
          refine va_get (D := G) (ci := 6) (v := .ref (q 1)) (C := RX6) (T := TX6) (N := 11) hx hb hts hinX6 hown hK hP 0 rfl rfl 0 (by decide) hL7 (fun _ h9 => h9) rfl dX6_takes_159 ?_
          refine lv_bipush (v := 7) hx hb dX6_takes_162 (by decide) ?_
          refine k_ald (f := (u_13 0)) (j := 7) (v := ((u_13 0) 7)) hx hb hK hP 1 0 rfl rfl (show ¬ ((7 : Int32) < 0 ∨ 86 ≤ (7 : Int32).toNatClampNeg) by decide) rfl rfl dX6_takes_164 ?_
          refine lv_if_lt (tgt := 172) hx hb dX6_takes_165 (by decide) (fun c_14 => ?_) (fun c_14 => ?_)
          · have h := h.1 c_14
            refine lv_iconst (v := 0) hx hb dX6_takes_172 (by decide) ?_
            exact W.zret (v := 0) hx hb hr rfl (fun t ht hW => ⟨⟨0, u_13, rfl, h, by rw [ht]; exact hP, hD⟩, hS.F ht⟩) hS.2.2 dX6_takes_173
          · have h := h.2 c_14
            refine lv_iconst (v := 1) hx hb dX6_takes_168 (by decide) ?_
            refine lv_goto (tgt := 173) hx hb dX6_takes_169 (by decide) ?_
            exact W.zret (v := 1) hx hb hr rfl (fun t ht hW => ⟨⟨1, u_13, rfl, h, by rw [ht]; exact hP, hD⟩, hS.F ht⟩) hS.2.2 dX6_takes_173
    · have h := h.2 c_2
      refine lv_aload_n hx hb dX6_takes_54 rfl (lv_at hl 0 rfl) ?_
      refine va_get (D := G) (ci := 6) (v := .ref (q 1)) (C := RX6) (T := TX6) (N := 11) hx hb hts hinX6 hown hK hP 0 rfl rfl 0 (by decide) hL7 (fun _ h9 => h9) rfl dX6_takes_55 ?_
      refine lv_bipush (v := 7) hx hb dX6_takes_58 (by decide) ?_
      refine lv_aload_n hx hb dX6_takes_60 rfl (lv_at hl 0 rfl) ?_
      refine va_get (D := G) (ci := 6) (v := .ref (q 1)) (C := RX6) (T := TX6) (N := 11) hx hb hts hinX6 hown hK hP 0 rfl rfl 0 (by decide) hL7 (fun _ h9 => h9) rfl dX6_takes_61 ?_
      refine lv_bipush (v := 36) hx hb dX6_takes_64 (by decide) ?_
      refine k_ald (f := (M 0)) (j := 36) (v := ((M 0) 36)) hx hb hK hP 1 0 rfl rfl (show ¬ ((36 : Int32) < 0 ∨ 86 ≤ (36 : Int32).toNatClampNeg) by decide) rfl rfl dX6_takes_66 ?_
      refine k_ast (f := (M 0)) (j := 7) (ws' := (wM cI q (uA M 0 (upd (M 0) 7 ((M 0) 36))))) hx hb hK hP hD hS 1 0 rfl rfl (show ¬ ((7 : Int32) < 0 ∨ 86 ≤ (7 : Int32).toNatClampNeg) by decide) rfl dX6_takes_67 rfl (fun H locs hP hD hS => ?_)
      refine lv_aload_n hx hb dX6_takes_68 rfl (lv_at hl 0 rfl) ?_
      refine va_get (D := G) (ci := 6) (v := .ref (q 1)) (C := RX6) (T := TX6) (N := 11) hx hb hts hinX6 hown hK hP 0 rfl rfl 0 (by decide) hL7 (fun _ h9 => h9) rfl dX6_takes_69 ?_
      refine lv_bipush (v := 8) hx hb dX6_takes_72 (by decide) ?_
      refine lv_aload_n hx hb dX6_takes_74 rfl (lv_at hl 0 rfl) ?_
      refine va_get (D := G) (ci := 6) (v := .ref (q 1)) (C := RX6) (T := TX6) (N := 11) hx hb hts hinX6 hown hK hP 0 rfl rfl 0 (by decide) hL7 (fun _ h9 => h9) rfl dX6_takes_75 ?_
      refine lv_bipush (v := 37) hx hb dX6_takes_78 (by decide) ?_
      refine k_ald (f := (upd (M 0) 7 ((M 0) 36))) (j := 37) (v := ((upd (M 0) 7 ((M 0) 36)) 37)) hx hb hK hP 1 0 rfl rfl (show ¬ ((37 : Int32) < 0 ∨ 86 ≤ (37 : Int32).toNatClampNeg) by decide) rfl rfl dX6_takes_80 ?_
      refine k_ast (f := (upd (M 0) 7 ((M 0) 36))) (j := 8) (ws' := (wM cI q (uA (uA M 0 (upd (M 0) 7 ((M 0) 36))) 0 (upd (upd (M 0) 7 ((M 0) 36)) 8 ((upd (M 0) 7 ((M 0) 36)) 37))))) hx hb hK hP hD hS 1 0 rfl rfl (show ¬ ((8 : Int32) < 0 ∨ 86 ≤ (8 : Int32).toNatClampNeg) by decide) rfl dX6_takes_81 rfl (fun H locs hP hD hS => ?_)
      refine lv_aload_n hx hb dX6_takes_82 rfl (lv_at hl 0 rfl) ?_
      refine lv_iconst (v := 0) hx hb dX6_takes_83 (by decide) ?_
      refine kc_v (As := [.int 0]) (rest := []) (wg := (fun u => (wM cI q u))) ⟨hx, hb, hml, hown, hts⟩ (c_X6_dropsMark l G cI cC cD q _ (uA (uA M 0 (upd (M 0) 7 ((M 0) 36))) 0 (upd (upd (M 0) 7 ((M 0) 36)) 8 ((upd (M 0) 7 ((M 0) 36)) 37))) 0 _ h) (cwV 1 hts gX6_takes_X6_dropsMark rfl rfl rfl (by decide +kernel) ⟨Nat.le_of_ble_eq_true rfl, Nat.le_of_ble_eq_true rfl⟩) hK hN hP hD hS hA (em_MM cI q (uA (uA M 0 (upd (M 0) 7 ((M 0) 36))) 0 (upd (upd (M 0) 7 ((M 0) 36)) 8 ((upd (M 0) 7 ((M 0) 36)) 37)))) (fun u => rp_MM cI q (uA (uA M 0 (upd (M 0) 7 ((M 0) 36))) 0 (upd (upd (M 0) 7 ((M 0) 36)) 8 ((upd (M 0) 7 ((M 0) 36)) 37))) u) rfl rfl rfl rfl hl.1 rfl (Nat.le_of_ble_eq_true rfl) dX6_takes_84 ⟨Nat.zero_le _, Nat.zero_le _⟩ (fun u_15 H locs h hP hD hS => ?_)
      refine lv_goto (tgt := 158) hx hb dX6_takes_87 (by decide) ?_
      refine lv_aload_n hx hb dX6_takes_158 rfl (lv_at hl 0 rfl) ?_
      refine va_get (D := G) (ci := 6) (v := .ref (q 1)) (C := RX6) (T := TX6) (N := 11) hx hb hts hinX6 hown hK hP 0 rfl rfl 0 (by decide) hL7 (fun _ h9 => h9) rfl dX6_takes_159 ?_
      refine lv_bipush (v := 7) hx hb dX6_takes_162 (by decide) ?_
      refine k_ald (f := (u_15 0)) (j := 7) (v := ((u_15 0) 7)) hx hb hK hP 1 0 rfl rfl (show ¬ ((7 : Int32) < 0 ∨ 86 ≤ (7 : Int32).toNatClampNeg) by decide) rfl rfl dX6_takes_164 ?_
      refine lv_if_lt (tgt := 172) hx hb dX6_takes_165 (by decide) (fun c_16 => ?_) (fun c_16 => ?_)
      · have h := h.1 c_16
        refine lv_iconst (v := 0) hx hb dX6_takes_172 (by decide) ?_
        exact W.zret (v := 0) hx hb hr rfl (fun t ht hW => ⟨⟨0, u_15, rfl, h, by rw [ht]; exact hP, hD⟩, hS.F ht⟩) hS.2.2 dX6_takes_173
      · have h := h.2 c_16
        refine lv_iconst (v := 1) hx hb dX6_takes_168 (by decide) ?_
        refine lv_goto (tgt := 173) hx hb dX6_takes_169 (by decide) ?_
        exact W.zret (v := 1) hx hb hr rfl (fun t ht hW => ⟨⟨1, u_15, rfl, h, by rw [ht]; exact hP, hD⟩, hS.F ht⟩) hS.2.2 dX6_takes_173
  · have h := h.1 c_1
    refine lv_aload_n hx hb dX6_takes_11 rfl (lv_at hl 0 rfl) ?_
    refine kc_i (As := []) (rest := []) (wg := (fun _ => (wM cI q M))) ⟨hx, hb, hml, hown, hts⟩ (c_X6_nearestToOpen l G cI cC cD q _ M  _ h) (cwV 0 hts gX6_takes_X6_nearestToOpen rfl rfl rfl (by decide +kernel) ⟨Nat.le_of_ble_eq_true rfl, Nat.le_of_ble_eq_true rfl⟩) hK hN hP hD hS hA (em_MM cI q M) (fun _ => rp_self (em_MM cI q M)) rfl rfl rfl rfl hl.1 rfl (Nat.le_of_ble_eq_true rfl) dX6_takes_12 ⟨Nat.zero_le _, Nat.zero_le _⟩ (fun r_17 _ H locs h hP hD hS => ?_)
    refine lv_istore_n (lv' := [(1, .int r_17), (0, .ref (q 0))]) hx hb dX6_takes_15 rfl hl (by decide) rfl (fun ls hl => ?_)
    refine lv_aload_n hx hb dX6_takes_16 rfl (lv_at hl 1 rfl) ?_
    refine va_get (D := G) (ci := 6) (v := .ref (q 1)) (C := RX6) (T := TX6) (N := 11) hx hb hts hinX6 hown hK hP 0 rfl rfl 0 (by decide) hL7 (fun _ h9 => h9) rfl dX6_takes_17 ?_
    refine lv_bipush (v := 7) hx hb dX6_takes_20 (by decide) ?_
    refine lv_iload_n hx hb dX6_takes_22 rfl (lv_at hl 0 rfl) ?_
    refine lv_if_ge (tgt := 30) hx hb dX6_takes_23 (by decide) (fun c_18 => ?_) (fun c_18 => ?_)
    · have h := h.1 c_18
      refine lv_iload_n hx hb dX6_takes_30 rfl (lv_at hl 0 rfl) ?_
      refine k_ast (f := (M 0)) (j := 7) (ws' := (wM cI q (uA M 0 (upd (M 0) 7 r_17)))) hx hb hK hP hD hS 1 0 rfl rfl (show ¬ ((7 : Int32) < 0 ∨ 86 ≤ (7 : Int32).toNatClampNeg) by decide) rfl dX6_takes_31 rfl (fun H locs hP hD hS => ?_)
      refine lv_aload_n hx hb dX6_takes_32 rfl (lv_at hl 1 rfl) ?_
      refine va_get (D := G) (ci := 6) (v := .ref (q 1)) (C := RX6) (T := TX6) (N := 11) hx hb hts hinX6 hown hK hP 0 rfl rfl 0 (by decide) hL7 (fun _ h9 => h9) rfl dX6_takes_33 ?_
      refine lv_bipush (v := 8) hx hb dX6_takes_36 (by decide) ?_
      refine lv_bipush (v := 10) hx hb dX6_takes_38 (by decide) ?_
      refine k_ast (f := (upd (M 0) 7 r_17)) (j := 8) (ws' := (wM cI q (uA (uA M 0 (upd (M 0) 7 r_17)) 0 (upd (upd (M 0) 7 r_17) 8 10)))) hx hb hK hP hD hS 1 0 rfl rfl (show ¬ ((8 : Int32) < 0 ∨ 86 ≤ (8 : Int32).toNatClampNeg) by decide) rfl dX6_takes_40 rfl (fun H locs hP hD hS => ?_)
      refine lv_goto (tgt := 158) hx hb dX6_takes_41 (by decide) ?_
      refine lv_aload_n hx hb dX6_takes_158 rfl (lv_at hl 1 rfl) ?_
      refine va_get (D := G) (ci := 6) (v := .ref (q 1)) (C := RX6) (T := TX6) (N := 11) hx hb hts hinX6 hown hK hP 0 rfl rfl 0 (by decide) hL7 (fun _ h9 => h9) rfl dX6_takes_159 ?_
      refine lv_bipush (v := 7) hx hb dX6_takes_162 (by decide) ?_
      refine k_ald (f := (upd (upd (M 0) 7 r_17) 8 10)) (j := 7) (v := ((upd (upd (M 0) 7 r_17) 8 10) 7)) hx hb hK hP 1 0 rfl rfl (show ¬ ((7 : Int32) < 0 ∨ 86 ≤ (7 : Int32).toNatClampNeg) by decide) rfl rfl dX6_takes_164 ?_
      refine lv_if_lt (tgt := 172) hx hb dX6_takes_165 (by decide) (fun c_19 => ?_) (fun c_19 => ?_)
      · have h := h.1 c_19
        refine lv_iconst (v := 0) hx hb dX6_takes_172 (by decide) ?_
        exact W.zret (v := 0) hx hb hr rfl (fun t ht hW => ⟨⟨0, (uA (uA M 0 (upd (M 0) 7 r_17)) 0 (upd (upd (M 0) 7 r_17) 8 10)), rfl, h, by rw [ht]; exact hP, hD⟩, hS.F ht⟩) hS.2.2 dX6_takes_173
      · have h := h.2 c_19
        refine lv_iconst (v := 1) hx hb dX6_takes_168 (by decide) ?_
        refine lv_goto (tgt := 173) hx hb dX6_takes_169 (by decide) ?_
        exact W.zret (v := 1) hx hb hr rfl (fun t ht hW => ⟨⟨1, (uA (uA M 0 (upd (M 0) 7 r_17)) 0 (upd (upd (M 0) 7 r_17) 8 10)), rfl, h, by rw [ht]; exact hP, hD⟩, hS.F ht⟩) hS.2.2 dX6_takes_173
    · have h := h.2 c_18
      refine lv_iconst (v := (-1)) hx hb dX6_takes_26 (by decide) ?_
      refine lv_goto (tgt := 31) hx hb dX6_takes_27 (by decide) ?_
      refine k_ast (f := (M 0)) (j := 7) (ws' := (wM cI q (uA M 0 (upd (M 0) 7 (-1))))) hx hb hK hP hD hS 1 0 rfl rfl (show ¬ ((7 : Int32) < 0 ∨ 86 ≤ (7 : Int32).toNatClampNeg) by decide) rfl dX6_takes_31 rfl (fun H locs hP hD hS => ?_)
      refine lv_aload_n hx hb dX6_takes_32 rfl (lv_at hl 1 rfl) ?_
      refine va_get (D := G) (ci := 6) (v := .ref (q 1)) (C := RX6) (T := TX6) (N := 11) hx hb hts hinX6 hown hK hP 0 rfl rfl 0 (by decide) hL7 (fun _ h9 => h9) rfl dX6_takes_33 ?_
      refine lv_bipush (v := 8) hx hb dX6_takes_36 (by decide) ?_
      refine lv_bipush (v := 10) hx hb dX6_takes_38 (by decide) ?_
      refine k_ast (f := (upd (M 0) 7 (-1))) (j := 8) (ws' := (wM cI q (uA (uA M 0 (upd (M 0) 7 (-1))) 0 (upd (upd (M 0) 7 (-1)) 8 10)))) hx hb hK hP hD hS 1 0 rfl rfl (show ¬ ((8 : Int32) < 0 ∨ 86 ≤ (8 : Int32).toNatClampNeg) by decide) rfl dX6_takes_40 rfl (fun H locs hP hD hS => ?_)
      refine lv_goto (tgt := 158) hx hb dX6_takes_41 (by decide) ?_
      refine lv_aload_n hx hb dX6_takes_158 rfl (lv_at hl 1 rfl) ?_
      refine va_get (D := G) (ci := 6) (v := .ref (q 1)) (C := RX6) (T := TX6) (N := 11) hx hb hts hinX6 hown hK hP 0 rfl rfl 0 (by decide) hL7 (fun _ h9 => h9) rfl dX6_takes_159 ?_
      refine lv_bipush (v := 7) hx hb dX6_takes_162 (by decide) ?_
      refine k_ald (f := (upd (upd (M 0) 7 (-1)) 8 10)) (j := 7) (v := ((upd (upd (M 0) 7 (-1)) 8 10) 7)) hx hb hK hP 1 0 rfl rfl (show ¬ ((7 : Int32) < 0 ∨ 86 ≤ (7 : Int32).toNatClampNeg) by decide) rfl rfl dX6_takes_164 ?_
      refine lv_if_lt (tgt := 172) hx hb dX6_takes_165 (by decide) (fun c_20 => ?_) (fun c_20 => ?_)
      · have h := h.1 c_20
        refine lv_iconst (v := 0) hx hb dX6_takes_172 (by decide) ?_
        exact W.zret (v := 0) hx hb hr rfl (fun t ht hW => ⟨⟨0, (uA (uA M 0 (upd (M 0) 7 (-1))) 0 (upd (upd (M 0) 7 (-1)) 8 10)), rfl, h, by rw [ht]; exact hP, hD⟩, hS.F ht⟩) hS.2.2 dX6_takes_173
      · have h := h.2 c_20
        refine lv_iconst (v := 1) hx hb dX6_takes_168 (by decide) ?_
        refine lv_goto (tgt := 173) hx hb dX6_takes_169 (by decide) ?_
        exact W.zret (v := 1) hx hb hr rfl (fun t ht hW => ⟨⟨1, (uA (uA M 0 (upd (M 0) 7 (-1))) 0 (upd (upd (M 0) 7 (-1)) 8 10)), rfl, h, by rw [ht]; exact hP, hD⟩, hS.F ht⟩) hS.2.2 dX6_takes_173
def q_X6_looks (M : St) (Q : St → Prop) : Prop :=
  (((M 0) 7) < 0 → Q M) ∧ (¬ (((M 0) 7) < 0) → q_X6_of ((M 0) 7) 2 M (fun r_2 => (r_2 = ((M 0) 8) → Q (uA (uA M 0 (upd (M 0) 7 (-1))) 0 (upd (upd (M 0) 7 (-1)) 18 (((upd (M 0) 7 (-1)) 18) + 1)))) ∧ (¬ (r_2 = ((M 0) 8)) → Q M)))
set_option maxHeartbeats 4000000 in
set_option maxRecDepth 100000 in
theorem c_X6_looks (l : Launch) (G : va_G) (cI cC cD : ClassId) (q : Nat → Nat) (sz : Nat) (M : St)  (Q : St → Prop) (h : q_X6_looks  M Q) : Met l yX6_looks wsX6_looks ({ frames := 1, cells := 0, slots := 0, locals := 22 }) (va_Pc [.ref (q 0)] (PW G (ty3 cI cC cD) (wM cI q M) sz)) (va_Qv Q (BW G (fun u : St => (wM cI q u)) (va_A (wM cI q M) sz)) (va_A (wM cI q M) sz)) 0 0 (va_A (wM cI q M) sz) := by
  refine Met.ofW (cc := cX6_looks) (maxL := 1) (ret := none) (by decide) rfl ?_
  intro p e s m args below meth c s₁ B hml hv
  obtain ⟨rfl, hsz, hP, hK, hD0, hN⟩ := hv
  have hx := B.exec
  have hb := B.bytes
  have hr := B.returns
  have hts := atoms_spec (ws := wsX6_looks) B.pre
  have hown : s.vm.findClass RX6 = some m.cls := findClass_of_methodNamed B.named
  have hlocks := B.notSynchronized
  subst hsz
  have hD := hD0.self (sz := s.heap.size)
  generalize hAe : va_A (wM cI q M) s.heap.size = A at hD ⊢
  have hA : ∀ q : Nat, s.heap.size ≤ q → A q := fun q h => by rw [← hAe]; exact Or.inr h
  have hS : va_S A s.heap s.heap [] := va_S.rf
  have hl := lv_entry ([.ref (q 0)]) (n := 1) (Nat.le_of_ble_eq_true rfl)
  rw [lg_entry_eq]
  generalize (lg_sl ([.ref (q 0)]) ++ List.replicate (1 - (lg_sl ([.ref (q 0)])).length) Slot.unset).toArray = ls at hl ⊢
  have hl : lv_has ls 1 [(0, .ref (q 0))] := hl
  have hinX6 : ∀ w ∈ wsX60, w ∈ wsX6_looks := by decide +kernel
  have hL7 := hts (.fieldLink RX6 7 "CraneGatesModel" "s" "[I") (by decide +kernel)
  unfold q_X6_looks at h
  refine lv_aload_n hx hb dX6_looks_0 rfl (lv_at hl 0 rfl) ?_
  refine va_get (D := G) (ci := 6) (v := .ref (q 1)) (C := RX6) (T := TX6) (N := 11) hx hb hts hinX6 hown hK hP 0 rfl rfl 0 (by decide) hL7 (fun _ h9 => h9) rfl dX6_looks_1 ?_
  refine lv_bipush (v := 7) hx hb dX6_looks_4 (by decide) ?_
  refine k_ald (f := (M 0)) (j := 7) (v := ((M 0) 7)) hx hb hK hP 1 0 rfl rfl (show ¬ ((7 : Int32) < 0 ∨ 86 ≤ (7 : Int32).toNatClampNeg) by decide) rfl rfl dX6_looks_6 ?_
  refine lv_if_lt (tgt := 51) hx hb dX6_looks_7 (by decide) (fun c_1 => ?_) (fun c_1 => ?_)
  · have h := h.1 c_1
    exact W.vret hx hb hr (fun t ht hW => ⟨⟨M, rfl, h, by rw [ht]; exact hP, hD⟩, hS.F ht⟩) hS.2.2 dX6_looks_51
  · have h := h.2 c_1
    refine lv_aload_n hx hb dX6_looks_10 rfl (lv_at hl 0 rfl) ?_
    refine lv_aload_n hx hb dX6_looks_11 rfl (lv_at hl 0 rfl) ?_
    refine va_get (D := G) (ci := 6) (v := .ref (q 1)) (C := RX6) (T := TX6) (N := 11) hx hb hts hinX6 hown hK hP 0 rfl rfl 0 (by decide) hL7 (fun _ h9 => h9) rfl dX6_looks_12 ?_
    refine lv_bipush (v := 7) hx hb dX6_looks_15 (by decide) ?_
    refine k_ald (f := (M 0)) (j := 7) (v := ((M 0) 7)) hx hb hK hP 1 0 rfl rfl (show ¬ ((7 : Int32) < 0 ∨ 86 ≤ (7 : Int32).toNatClampNeg) by decide) rfl rfl dX6_looks_17 ?_
    refine lv_iconst (v := 2) hx hb dX6_looks_18 (by decide) ?_
    refine kc_i (As := [.int ((M 0) 7), .int 2]) (rest := []) (wg := (fun _ => (wM cI q M))) ⟨hx, hb, hml, hown, hts⟩ (c_X6_of l G cI cC cD q _ M ((M 0) 7) 2 _ h) (cwV 2 hts gX6_looks_X6_of rfl rfl rfl (by decide +kernel) ⟨Nat.le_of_ble_eq_true rfl, Nat.le_of_ble_eq_true rfl⟩) hK hN hP hD hS hA (em_MM cI q M) (fun _ => rp_self (em_MM cI q M)) rfl rfl rfl rfl hl.1 rfl (Nat.le_of_ble_eq_true rfl) dX6_looks_19 ⟨Nat.zero_le _, Nat.zero_le _⟩ (fun r_2 _ H locs h hP hD hS => ?_)
    refine lv_aload_n hx hb dX6_looks_22 rfl (lv_at hl 0 rfl) ?_
    refine va_get (D := G) (ci := 6) (v := .ref (q 1)) (C := RX6) (T := TX6) (N := 11) hx hb hts hinX6 hown hK hP 0 rfl rfl 0 (by decide) hL7 (fun _ h9 => h9) rfl dX6_looks_23 ?_
    refine lv_bipush (v := 8) hx hb dX6_looks_26 (by decide) ?_
    refine k_ald (f := (M 0)) (j := 8) (v := ((M 0) 8)) hx hb hK hP 1 0 rfl rfl (show ¬ ((8 : Int32) < 0 ∨ 86 ≤ (8 : Int32).toNatClampNeg) by decide) rfl rfl dX6_looks_28 ?_
    refine lv_icmp_ne (tgt := 51) hx hb dX6_looks_29 (by decide) (fun c_3 => ?_) (fun c_3 => ?_)
    · have h := h.2 c_3
      exact W.vret hx hb hr (fun t ht hW => ⟨⟨M, rfl, h, by rw [ht]; exact hP, hD⟩, hS.F ht⟩) hS.2.2 dX6_looks_51
    · have h := h.1 c_3
      refine lv_aload_n hx hb dX6_looks_32 rfl (lv_at hl 0 rfl) ?_
      refine va_get (D := G) (ci := 6) (v := .ref (q 1)) (C := RX6) (T := TX6) (N := 11) hx hb hts hinX6 hown hK hP 0 rfl rfl 0 (by decide) hL7 (fun _ h9 => h9) rfl dX6_looks_33 ?_
      refine lv_bipush (v := 7) hx hb dX6_looks_36 (by decide) ?_
      refine lv_iconst (v := (-1)) hx hb dX6_looks_38 (by decide) ?_
      refine k_ast (f := (M 0)) (j := 7) (ws' := (wM cI q (uA M 0 (upd (M 0) 7 (-1))))) hx hb hK hP hD hS 1 0 rfl rfl (show ¬ ((7 : Int32) < 0 ∨ 86 ≤ (7 : Int32).toNatClampNeg) by decide) rfl dX6_looks_39 rfl (fun H locs hP hD hS => ?_)
      refine lv_aload_n hx hb dX6_looks_40 rfl (lv_at hl 0 rfl) ?_
      refine va_get (D := G) (ci := 6) (v := .ref (q 1)) (C := RX6) (T := TX6) (N := 11) hx hb hts hinX6 hown hK hP 0 rfl rfl 0 (by decide) hL7 (fun _ h9 => h9) rfl dX6_looks_41 ?_
      refine lv_bipush (v := 18) hx hb dX6_looks_44 (by decide) ?_
      refine lv_dup2_11 hx hb dX6_looks_46 rfl rfl ?_
      refine k_ald (f := (upd (M 0) 7 (-1))) (j := 18) (v := ((upd (M 0) 7 (-1)) 18)) hx hb hK hP 1 0 rfl rfl (show ¬ ((18 : Int32) < 0 ∨ 86 ≤ (18 : Int32).toNatClampNeg) by decide) rfl rfl dX6_looks_47 ?_
      refine lv_iconst (v := 1) hx hb dX6_looks_48 (by decide) ?_
      refine lv_iadd hx hb dX6_looks_49 ?_
      refine k_ast (f := (upd (M 0) 7 (-1))) (j := 18) (ws' := (wM cI q (uA (uA M 0 (upd (M 0) 7 (-1))) 0 (upd (upd (M 0) 7 (-1)) 18 (((upd (M 0) 7 (-1)) 18) + 1))))) hx hb hK hP hD hS 1 0 rfl rfl (show ¬ ((18 : Int32) < 0 ∨ 86 ≤ (18 : Int32).toNatClampNeg) by decide) rfl dX6_looks_50 rfl (fun H locs hP hD hS => ?_)
      exact W.vret hx hb hr (fun t ht hW => ⟨⟨(uA (uA M 0 (upd (M 0) 7 (-1))) 0 (upd (upd (M 0) 7 (-1)) 18 (((upd (M 0) 7 (-1)) 18) + 1))), rfl, h, by rw [ht]; exact hP, hD⟩, hS.F ht⟩) hS.2.2 dX6_looks_51
def q_X6_works (M : St) (Q : St → Prop) : Prop :=
  (((M 0) 7) = ((upd (M 0) 17 (((M 0) 17) + 1)) 6) → q_X6_of ((M 0) 7) 2 (uA M 0 (upd (M 0) 17 (((M 0) 17) + 1))) (fun r_2 => q_X6_of ((M 0) 7) 0 (uA M 0 (upd (M 0) 17 (((M 0) 17) + 1))) (fun r_3 => (r_3 = 2 → q_X6_size (((upd (M 0) 17 (((M 0) 17) + 1)) 8) - r_2) (fun r_15 => (r_15 ≤ 1 → q_X6_of ((M 0) 7) 2 (uA M 0 (upd (M 0) 17 (((M 0) 17) + 1))) (fun r_17 => ((((upd (M 0) 17 (((M 0) 17) + 1)) 8) - r_2) ≤ 0 → q_X6_puts ((M 0) 7) 2 (r_17 + (-1)) (uA M 0 (upd (M 0) 17 (((M 0) 17) + 1))) (fun u_19 => q_X6_of ((M 0) 7) 4 u_19 (fun r_20 => q_X6_puts ((M 0) 7) 4 (r_20 + 1) u_19 (fun u_21 => q_X6_looks u_21 (fun u_22 => Q u_22))))) ∧ (¬ ((((upd (M 0) 17 (((M 0) 17) + 1)) 8) - r_2) ≤ 0) → q_X6_puts ((M 0) 7) 2 (r_17 + 1) (uA M 0 (upd (M 0) 17 (((M 0) 17) + 1))) (fun u_23 => q_X6_of ((M 0) 7) 4 u_23 (fun r_24 => q_X6_puts ((M 0) 7) 4 (r_24 + 1) u_23 (fun u_25 => q_X6_looks u_25 (fun u_26 => Q u_26))))))) ∧ (¬ (r_15 ≤ 1) → q_X6_of ((M 0) 7) 2 (uA M 0 (upd (M 0) 17 (((M 0) 17) + 1))) (fun r_27 => ((((upd (M 0) 17 (((M 0) 17) + 1)) 8) - r_2) ≤ 0 → q_X6_puts ((M 0) 7) 2 (r_27 + (-2)) (uA M 0 (upd (M 0) 17 (((M 0) 17) + 1))) (fun u_29 => q_X6_of ((M 0) 7) 4 u_29 (fun r_30 => q_X6_puts ((M 0) 7) 4 (r_30 + 1) u_29 (fun u_31 => q_X6_looks u_31 (fun u_32 => Q u_32))))) ∧ (¬ ((((upd (M 0) 17 (((M 0) 17) + 1)) 8) - r_2) ≤ 0) → q_X6_puts ((M 0) 7) 2 (r_27 + 2) (uA M 0 (upd (M 0) 17 (((M 0) 17) + 1))) (fun u_33 => q_X6_of ((M 0) 7) 4 u_33 (fun r_34 => q_X6_puts ((M 0) 7) 4 (r_34 + 1) u_33 (fun u_35 => q_X6_looks u_35 (fun u_36 => Q u_36))))))))) ∧ (¬ (r_3 = 2) → q_X6_of ((M 0) 7) 2 (uA M 0 (upd (M 0) 17 (((M 0) 17) + 1))) (fun r_5 => ((((upd (M 0) 17 (((M 0) 17) + 1)) 8) - r_2) ≤ 0 → q_X6_puts ((M 0) 7) 2 (r_5 + (-1)) (uA M 0 (upd (M 0) 17 (((M 0) 17) + 1))) (fun u_7 => q_X6_of ((M 0) 7) 4 u_7 (fun r_8 => q_X6_puts ((M 0) 7) 4 (r_8 + 1) u_7 (fun u_9 => q_X6_looks u_9 (fun u_10 => Q u_10))))) ∧ (¬ ((((upd (M 0) 17 (((M 0) 17) + 1)) 8) - r_2) ≤ 0) → q_X6_puts ((M 0) 7) 2 (r_5 + 1) (uA M 0 (upd (M 0) 17 (((M 0) 17) + 1))) (fun u_11 => q_X6_of ((M 0) 7) 4 u_11 (fun r_12 => q_X6_puts ((M 0) 7) 4 (r_12 + 1) u_11 (fun u_13 => q_X6_looks u_13 (fun u_14 => Q u_14)))))))))) ∧ (¬ (((M 0) 7) = ((upd (M 0) 17 (((M 0) 17) + 1)) 6)) → (((M 0) 7) ≤ ((upd (M 0) 17 (((M 0) 17) + 1)) 6) → q_X6_looks (uA (uA M 0 (upd (M 0) 17 (((M 0) 17) + 1))) 0 (upd (upd (M 0) 17 (((M 0) 17) + 1)) 6 (((upd (M 0) 17 (((M 0) 17) + 1)) 6) + (-1)))) (fun u_38 => Q u_38)) ∧ (¬ (((M 0) 7) ≤ ((upd (M 0) 17 (((M 0) 17) + 1)) 6)) → q_X6_looks (uA (uA M 0 (upd (M 0) 17 (((M 0) 17) + 1))) 0 (upd (upd (M 0) 17 (((M 0) 17) + 1)) 6 (((upd (M 0) 17 (((M 0) 17) + 1)) 6) + 1))) (fun u_39 => Q u_39)))
set_option maxHeartbeats 4000000 in
set_option maxRecDepth 100000 in
theorem c_X6_works (l : Launch) (G : va_G) (cI cC cD : ClassId) (q : Nat → Nat) (sz : Nat) (M : St)  (Q : St → Prop) (h : q_X6_works  M Q) : Met l yX6_works wsX6_works ({ frames := 2, cells := 0, slots := 0, locals := 42 }) (va_Pc [.ref (q 0)] (PW G (ty3 cI cC cD) (wM cI q M) sz)) (va_Qv Q (BW G (fun u : St => (wM cI q u)) (va_A (wM cI q M) sz)) (va_A (wM cI q M) sz)) 0 0 (va_A (wM cI q M) sz) := by
  refine Met.ofW (cc := cX6_works) (maxL := 4) (ret := none) (by decide) rfl ?_
  intro p e s m args below meth c s₁ B hml hv
  obtain ⟨rfl, hsz, hP, hK, hD0, hN⟩ := hv
  have hx := B.exec
  have hb := B.bytes
  have hr := B.returns
  have hts := atoms_spec (ws := wsX6_works) B.pre
  have hown : s.vm.findClass RX6 = some m.cls := findClass_of_methodNamed B.named
  have hlocks := B.notSynchronized
  subst hsz
  have hD := hD0.self (sz := s.heap.size)
  generalize hAe : va_A (wM cI q M) s.heap.size = A at hD ⊢
  have hA : ∀ q : Nat, s.heap.size ≤ q → A q := fun q h => by rw [← hAe]; exact Or.inr h
  have hS : va_S A s.heap s.heap [] := va_S.rf
  have hl := lv_entry ([.ref (q 0)]) (n := 4) (Nat.le_of_ble_eq_true rfl)
  rw [lg_entry_eq]
  generalize (lg_sl ([.ref (q 0)]) ++ List.replicate (4 - (lg_sl ([.ref (q 0)])).length) Slot.unset).toArray = ls at hl ⊢
  have hl : lv_has ls 4 [(0, .ref (q 0))] := hl
  have hinX6 : ∀ w ∈ wsX60, w ∈ wsX6_works := by decide +kernel
  have hL7 := hts (.fieldLink RX6 7 "CraneGatesModel" "s" "[I") (by decide +kernel)
  unfold q_X6_works at h
  refine lv_aload_n hx hb dX6_works_0 rfl (lv_at hl 0 rfl) ?_
  refine va_get (D := G) (ci := 6) (v := .ref (q 1)) (C := RX6) (T := TX6) (N := 11) hx hb hts hinX6 hown hK hP 0 rfl rfl 0 (by decide) hL7 (fun _ h9 => h9) rfl dX6_works_1 ?_
  refine lv_bipush (v := 7) hx hb dX6_works_4 (by decide) ?_
  refine k_ald (f := (M 0)) (j := 7) (v := ((M 0) 7)) hx hb hK hP 1 0 rfl rfl (show ¬ ((7 : Int32) < 0 ∨ 86 ≤ (7 : Int32).toNatClampNeg) by decide) rfl rfl dX6_works_6 ?_
  refine lv_istore_n (lv' := [(1, .int ((M 0) 7)), (0, .ref (q 0))]) hx hb dX6_works_7 rfl hl (by decide) rfl (fun ls hl => ?_)
  refine lv_aload_n hx hb dX6_works_8 rfl (lv_at hl 1 rfl) ?_
  refine va_get (D := G) (ci := 6) (v := .ref (q 1)) (C := RX6) (T := TX6) (N := 11) hx hb hts hinX6 hown hK hP 0 rfl rfl 0 (by decide) hL7 (fun _ h9 => h9) rfl dX6_works_9 ?_
  refine lv_bipush (v := 17) hx hb dX6_works_12 (by decide) ?_
  refine lv_dup2_11 hx hb dX6_works_14 rfl rfl ?_
  refine k_ald (f := (M 0)) (j := 17) (v := ((M 0) 17)) hx hb hK hP 1 0 rfl rfl (show ¬ ((17 : Int32) < 0 ∨ 86 ≤ (17 : Int32).toNatClampNeg) by decide) rfl rfl dX6_works_15 ?_
  refine lv_iconst (v := 1) hx hb dX6_works_16 (by decide) ?_
  refine lv_iadd hx hb dX6_works_17 ?_
  refine k_ast (f := (M 0)) (j := 17) (ws' := (wM cI q (uA M 0 (upd (M 0) 17 (((M 0) 17) + 1))))) hx hb hK hP hD hS 1 0 rfl rfl (show ¬ ((17 : Int32) < 0 ∨ 86 ≤ (17 : Int32).toNatClampNeg) by decide) rfl dX6_works_18 rfl (fun H locs hP hD hS => ?_)
  refine lv_iload_n hx hb dX6_works_19 rfl (lv_at hl 0 rfl) ?_
  refine lv_aload_n hx hb dX6_works_20 rfl (lv_at hl 1 rfl) ?_
  refine va_get (D := G) (ci := 6) (v := .ref (q 1)) (C := RX6) (T := TX6) (N := 11) hx hb hts hinX6 hown hK hP 0 rfl rfl 0 (by decide) hL7 (fun _ h9 => h9) rfl dX6_works_21 ?_
  refine lv_bipush (v := 6) hx hb dX6_works_24 (by decide) ?_
  refine k_ald (f := (upd (M 0) 17 (((M 0) 17) + 1))) (j := 6) (v := ((upd (M 0) 17 (((M 0) 17) + 1)) 6)) hx hb hK hP 1 0 rfl rfl (show ¬ ((6 : Int32) < 0 ∨ 86 ≤ (6 : Int32).toNatClampNeg) by decide) rfl rfl dX6_works_26 ?_
  refine lv_icmp_eq (tgt := 59) hx hb dX6_works_27 (by decide) (fun c_1 => ?_) (fun c_1 => ?_)
  · have h := h.1 c_1
    refine lv_aload_n hx hb dX6_works_59 rfl (lv_at hl 1 rfl) ?_
    refine va_get (D := G) (ci := 6) (v := .ref (q 1)) (C := RX6) (T := TX6) (N := 11) hx hb hts hinX6 hown hK hP 0 rfl rfl 0 (by decide) hL7 (fun _ h9 => h9) rfl dX6_works_60 ?_
    refine lv_bipush (v := 8) hx hb dX6_works_63 (by decide) ?_
    refine k_ald (f := (upd (M 0) 17 (((M 0) 17) + 1))) (j := 8) (v := ((upd (M 0) 17 (((M 0) 17) + 1)) 8)) hx hb hK hP 1 0 rfl rfl (show ¬ ((8 : Int32) < 0 ∨ 86 ≤ (8 : Int32).toNatClampNeg) by decide) rfl rfl dX6_works_65 ?_
    refine lv_aload_n hx hb dX6_works_66 rfl (lv_at hl 1 rfl) ?_
    refine lv_iload_n hx hb dX6_works_67 rfl (lv_at hl 0 rfl) ?_
    refine lv_iconst (v := 2) hx hb dX6_works_68 (by decide) ?_
    refine kc_i (As := [.int ((M 0) 7), .int 2]) (rest := [.int ((upd (M 0) 17 (((M 0) 17) + 1)) 8)]) (wg := (fun _ => (wM cI q (uA M 0 (upd (M 0) 17 (((M 0) 17) + 1)))))) ⟨hx, hb, hml, hown, hts⟩ (c_X6_of l G cI cC cD q _ (uA M 0 (upd (M 0) 17 (((M 0) 17) + 1))) ((M 0) 7) 2 _ h) (cwV 2 hts gX6_works_X6_of rfl rfl rfl (by decide +kernel) ⟨Nat.le_of_ble_eq_true rfl, Nat.le_of_ble_eq_true rfl⟩) hK hN hP hD hS hA (em_MM cI q (uA M 0 (upd (M 0) 17 (((M 0) 17) + 1)))) (fun _ => rp_self (em_MM cI q (uA M 0 (upd (M 0) 17 (((M 0) 17) + 1))))) rfl rfl rfl rfl hl.1 rfl (Nat.le_of_ble_eq_true rfl) dX6_works_69 ⟨Nat.zero_le _, Nat.zero_le _⟩ (fun r_2 _ H locs h hP hD hS => ?_)
    refine lv_isub hx hb dX6_works_72 ?_
    refine lv_istore_n (lv' := [(2, .int (((upd (M 0) 17 (((M 0) 17) + 1)) 8) - r_2)), (1, .int ((M 0) 7)), (0, .ref (q 0))]) hx hb dX6_works_73 rfl hl (by decide) rfl (fun ls hl => ?_)
    refine lv_aload_n hx hb dX6_works_74 rfl (lv_at hl 2 rfl) ?_
    refine lv_iload_n hx hb dX6_works_75 rfl (lv_at hl 1 rfl) ?_
    refine lv_iconst (v := 0) hx hb dX6_works_76 (by decide) ?_
    refine kc_i (As := [.int ((M 0) 7), .int 0]) (rest := []) (wg := (fun _ => (wM cI q (uA M 0 (upd (M 0) 17 (((M 0) 17) + 1)))))) ⟨hx, hb, hml, hown, hts⟩ (c_X6_of l G cI cC cD q _ (uA M 0 (upd (M 0) 17 (((M 0) 17) + 1))) ((M 0) 7) 0 _ h) (cwV 2 hts gX6_works_X6_of rfl rfl rfl (by decide +kernel) ⟨Nat.le_of_ble_eq_true rfl, Nat.le_of_ble_eq_true rfl⟩) hK hN hP hD hS hA (em_MM cI q (uA M 0 (upd (M 0) 17 (((M 0) 17) + 1)))) (fun _ => rp_self (em_MM cI q (uA M 0 (upd (M 0) 17 (((M 0) 17) + 1))))) rfl rfl rfl rfl hl.1 rfl (Nat.le_of_ble_eq_true rfl) dX6_works_77 ⟨Nat.zero_le _, Nat.zero_le _⟩ (fun r_3 _ H locs h hP hD hS => ?_)
    refine lv_iconst (v := 2) hx hb dX6_works_80 (by decide) ?_
    refine lv_icmp_ne (tgt := 96) hx hb dX6_works_81 (by decide) (fun c_4 => ?_) (fun c_4 => ?_)
    · have h := h.2 c_4
      refine lv_iconst (v := 1) hx hb dX6_works_96 (by decide) ?_
      refine lv_istore_n (lv' := [(3, .int 1), (2, .int (((upd (M 0) 17 (((M 0) 17) + 1)) 8) - r_2)), (1, .int ((M 0) 7)), (0, .ref (q 0))]) hx hb dX6_works_97 rfl hl (by decide) rfl (fun ls hl => ?_)
      refine lv_aload_n hx hb dX6_works_98 rfl (lv_at hl 3 rfl) ?_
      refine lv_iload_n hx hb dX6_works_99 rfl (lv_at hl 2 rfl) ?_
      refine lv_iconst (v := 2) hx hb dX6_works_100 (by decide) ?_
      refine lv_aload_n hx hb dX6_works_101 rfl (lv_at hl 3 rfl) ?_
      refine lv_iload_n hx hb dX6_works_102 rfl (lv_at hl 2 rfl) ?_
      refine lv_iconst (v := 2) hx hb dX6_works_103 (by decide) ?_
      refine kc_i (As := [.int ((M 0) 7), .int 2]) (rest := [.int 2, .int ((M 0) 7), .ref (q 0)]) (wg := (fun _ => (wM cI q (uA M 0 (upd (M 0) 17 (((M 0) 17) + 1)))))) ⟨hx, hb, hml, hown, hts⟩ (c_X6_of l G cI cC cD q _ (uA M 0 (upd (M 0) 17 (((M 0) 17) + 1))) ((M 0) 7) 2 _ h) (cwV 2 hts gX6_works_X6_of rfl rfl rfl (by decide +kernel) ⟨Nat.le_of_ble_eq_true rfl, Nat.le_of_ble_eq_true rfl⟩) hK hN hP hD hS hA (em_MM cI q (uA M 0 (upd (M 0) 17 (((M 0) 17) + 1)))) (fun _ => rp_self (em_MM cI q (uA M 0 (upd (M 0) 17 (((M 0) 17) + 1))))) rfl rfl rfl rfl hl.1 rfl (Nat.le_of_ble_eq_true rfl) dX6_works_104 ⟨Nat.zero_le _, Nat.zero_le _⟩ (fun r_5 _ H locs h hP hD hS => ?_)
      refine lv_iload_n hx hb dX6_works_107 rfl (lv_at hl 1 rfl) ?_
      refine lv_if_le (tgt := 115) hx hb dX6_works_108 (by decide) (fun c_6 => ?_) (fun c_6 => ?_)
      · have h := h.1 c_6
        refine lv_iload_n hx hb dX6_works_115 rfl (lv_at hl 0 rfl) ?_
        refine lv_ineg hx hb dX6_works_116 ?_
        refine lv_iadd hx hb dX6_works_117 ?_
        refine kc_v (As := [.int ((M 0) 7), .int 2, .int (r_5 + (-1))]) (rest := []) (wg := (fun u => (wM cI q u))) ⟨hx, hb, hml, hown, hts⟩ (c_X6_puts l G cI cC cD q _ (uA M 0 (upd (M 0) 17 (((M 0) 17) + 1))) ((M 0) 7) 2 (r_5 + (-1)) _ h) (cwV 3 hts gX6_works_X6_puts rfl rfl rfl (by decide +kernel) ⟨Nat.le_of_ble_eq_true rfl, Nat.le_of_ble_eq_true rfl⟩) hK hN hP hD hS hA (em_MM cI q (uA M 0 (upd (M 0) 17 (((M 0) 17) + 1)))) (fun u => rp_MM cI q (uA M 0 (upd (M 0) 17 (((M 0) 17) + 1))) u) rfl rfl rfl rfl hl.1 rfl (Nat.le_of_ble_eq_true rfl) dX6_works_118 ⟨Nat.zero_le _, Nat.zero_le _⟩ (fun u_7 H locs h hP hD hS => ?_)
        refine lv_aload_n hx hb dX6_works_121 rfl (lv_at hl 3 rfl) ?_
        refine lv_iload_n hx hb dX6_works_122 rfl (lv_at hl 2 rfl) ?_
        refine lv_iconst (v := 4) hx hb dX6_works_123 (by decide) ?_
        refine lv_aload_n hx hb dX6_works_124 rfl (lv_at hl 3 rfl) ?_
        refine lv_iload_n hx hb dX6_works_125 rfl (lv_at hl 2 rfl) ?_
        refine lv_iconst (v := 4) hx hb dX6_works_126 (by decide) ?_
        refine kc_i (As := [.int ((M 0) 7), .int 4]) (rest := [.int 4, .int ((M 0) 7), .ref (q 0)]) (wg := (fun _ => (wM cI q u_7))) ⟨hx, hb, hml, hown, hts⟩ (c_X6_of l G cI cC cD q _ u_7 ((M 0) 7) 4 _ h) (cwV 2 hts gX6_works_X6_of rfl rfl rfl (by decide +kernel) ⟨Nat.le_of_ble_eq_true rfl, Nat.le_of_ble_eq_true rfl⟩) hK hN hP hD hS hA (em_MM cI q u_7) (fun _ => rp_self (em_MM cI q u_7)) rfl rfl rfl rfl hl.1 rfl (Nat.le_of_ble_eq_true rfl) dX6_works_127 ⟨Nat.zero_le _, Nat.zero_le _⟩ (fun r_8 _ H locs h hP hD hS => ?_)
        refine lv_iconst (v := 1) hx hb dX6_works_130 (by decide) ?_
        refine lv_iadd hx hb dX6_works_131 ?_
        refine kc_v (As := [.int ((M 0) 7), .int 4, .int (r_8 + 1)]) (rest := []) (wg := (fun u => (wM cI q u))) ⟨hx, hb, hml, hown, hts⟩ (c_X6_puts l G cI cC cD q _ u_7 ((M 0) 7) 4 (r_8 + 1) _ h) (cwV 3 hts gX6_works_X6_puts rfl rfl rfl (by decide +kernel) ⟨Nat.le_of_ble_eq_true rfl, Nat.le_of_ble_eq_true rfl⟩) hK hN hP hD hS hA (em_MM cI q u_7) (fun u => rp_MM cI q u_7 u) rfl rfl rfl rfl hl.1 rfl (Nat.le_of_ble_eq_true rfl) dX6_works_132 ⟨Nat.zero_le _, Nat.zero_le _⟩ (fun u_9 H locs h hP hD hS => ?_)
        refine lv_aload_n hx hb dX6_works_135 rfl (lv_at hl 3 rfl) ?_
        refine kc_v (As := []) (rest := []) (wg := (fun u => (wM cI q u))) ⟨hx, hb, hml, hown, hts⟩ (c_X6_looks l G cI cC cD q _ u_9  _ h) (cwV 0 hts gX6_works_X6_looks rfl rfl rfl (by decide +kernel) ⟨Nat.le_of_ble_eq_true rfl, Nat.le_of_ble_eq_true rfl⟩) hK hN hP hD hS hA (em_MM cI q u_9) (fun u => rp_MM cI q u_9 u) rfl rfl rfl rfl hl.1 rfl (Nat.le_of_ble_eq_true rfl) dX6_works_136 ⟨Nat.zero_le _, Nat.zero_le _⟩ (fun u_10 H locs h hP hD hS => ?_)
        exact W.vret hx hb hr (fun t ht hW => ⟨⟨u_10, rfl, h, by rw [ht]; exact hP, hD⟩, hS.F ht⟩) hS.2.2 dX6_works_139
      · have h := h.2 c_6
        refine lv_iload_n hx hb dX6_works_111 rfl (lv_at hl 0 rfl) ?_
        refine lv_goto (tgt := 117) hx hb dX6_works_112 (by decide) ?_
        refine lv_iadd hx hb dX6_works_117 ?_
        refine kc_v (As := [.int ((M 0) 7), .int 2, .int (r_5 + 1)]) (rest := []) (wg := (fun u => (wM cI q u))) ⟨hx, hb, hml, hown, hts⟩ (c_X6_puts l G cI cC cD q _ (uA M 0 (upd (M 0) 17 (((M 0) 17) + 1))) ((M 0) 7) 2 (r_5 + 1) _ h) (cwV 3 hts gX6_works_X6_puts rfl rfl rfl (by decide +kernel) ⟨Nat.le_of_ble_eq_true rfl, Nat.le_of_ble_eq_true rfl⟩) hK hN hP hD hS hA (em_MM cI q (uA M 0 (upd (M 0) 17 (((M 0) 17) + 1)))) (fun u => rp_MM cI q (uA M 0 (upd (M 0) 17 (((M 0) 17) + 1))) u) rfl rfl rfl rfl hl.1 rfl (Nat.le_of_ble_eq_true rfl) dX6_works_118 ⟨Nat.zero_le _, Nat.zero_le _⟩ (fun u_11 H locs h hP hD hS => ?_)
        refine lv_aload_n hx hb dX6_works_121 rfl (lv_at hl 3 rfl) ?_
        refine lv_iload_n hx hb dX6_works_122 rfl (lv_at hl 2 rfl) ?_
        refine lv_iconst (v := 4) hx hb dX6_works_123 (by decide) ?_
        refine lv_aload_n hx hb dX6_works_124 rfl (lv_at hl 3 rfl) ?_
        refine lv_iload_n hx hb dX6_works_125 rfl (lv_at hl 2 rfl) ?_
        refine lv_iconst (v := 4) hx hb dX6_works_126 (by decide) ?_
        refine kc_i (As := [.int ((M 0) 7), .int 4]) (rest := [.int 4, .int ((M 0) 7), .ref (q 0)]) (wg := (fun _ => (wM cI q u_11))) ⟨hx, hb, hml, hown, hts⟩ (c_X6_of l G cI cC cD q _ u_11 ((M 0) 7) 4 _ h) (cwV 2 hts gX6_works_X6_of rfl rfl rfl (by decide +kernel) ⟨Nat.le_of_ble_eq_true rfl, Nat.le_of_ble_eq_true rfl⟩) hK hN hP hD hS hA (em_MM cI q u_11) (fun _ => rp_self (em_MM cI q u_11)) rfl rfl rfl rfl hl.1 rfl (Nat.le_of_ble_eq_true rfl) dX6_works_127 ⟨Nat.zero_le _, Nat.zero_le _⟩ (fun r_12 _ H locs h hP hD hS => ?_)
        refine lv_iconst (v := 1) hx hb dX6_works_130 (by decide) ?_
        refine lv_iadd hx hb dX6_works_131 ?_
        refine kc_v (As := [.int ((M 0) 7), .int 4, .int (r_12 + 1)]) (rest := []) (wg := (fun u => (wM cI q u))) ⟨hx, hb, hml, hown, hts⟩ (c_X6_puts l G cI cC cD q _ u_11 ((M 0) 7) 4 (r_12 + 1) _ h) (cwV 3 hts gX6_works_X6_puts rfl rfl rfl (by decide +kernel) ⟨Nat.le_of_ble_eq_true rfl, Nat.le_of_ble_eq_true rfl⟩) hK hN hP hD hS hA (em_MM cI q u_11) (fun u => rp_MM cI q u_11 u) rfl rfl rfl rfl hl.1 rfl (Nat.le_of_ble_eq_true rfl) dX6_works_132 ⟨Nat.zero_le _, Nat.zero_le _⟩ (fun u_13 H locs h hP hD hS => ?_)
        refine lv_aload_n hx hb dX6_works_135 rfl (lv_at hl 3 rfl) ?_
        refine kc_v (As := []) (rest := []) (wg := (fun u => (wM cI q u))) ⟨hx, hb, hml, hown, hts⟩ (c_X6_looks l G cI cC cD q _ u_13  _ h) (cwV 0 hts gX6_works_X6_looks rfl rfl rfl (by decide +kernel) ⟨Nat.le_of_ble_eq_true rfl, Nat.le_of_ble_eq_true rfl⟩) hK hN hP hD hS hA (em_MM cI q u_13) (fun u => rp_MM cI q u_13 u) rfl rfl rfl rfl hl.1 rfl (Nat.le_of_ble_eq_true rfl) dX6_works_136 ⟨Nat.zero_le _, Nat.zero_le _⟩ (fun u_14 H locs h hP hD hS => ?_)
        exact W.vret hx hb hr (fun t ht hW => ⟨⟨u_14, rfl, h, by rw [ht]; exact hP, hD⟩, hS.F ht⟩) hS.2.2 dX6_works_139
    · have h := h.1 c_4
      refine lv_iload_n hx hb dX6_works_84 rfl (lv_at hl 0 rfl) ?_
      refine ks_i (As := [.int (((upd (M 0) 17 (((M 0) 17) + 1)) 8) - r_2)]) (rest := []) (wg := (fun _ => (wM cI q (uA M 0 (upd (M 0) 17 (((M 0) 17) + 1)))))) ⟨hx, hb, hml, hown, hts⟩ (c_X6_size l G cI cC cD  _  (((upd (M 0) 17 (((M 0) 17) + 1)) 8) - r_2) _ h) (va_cwS 1 hts gX6_works_X6_size rfl rfl rfl (by decide +kernel) ⟨Nat.le_of_ble_eq_true rfl, Nat.le_of_ble_eq_true rfl⟩) hK hN hP hD hS hA (em_0 _) (fun _ => rp_self (em_0 _)) rfl hl.1 rfl (Nat.le_of_ble_eq_true rfl) dX6_works_85 ⟨Nat.zero_le _, Nat.zero_le _⟩ (fun r_15 _ H locs h hP hD hS => ?_)
      refine lv_iconst (v := 1) hx hb dX6_works_88 (by decide) ?_
      refine lv_icmp_le (tgt := 96) hx hb dX6_works_89 (by decide) (fun c_16 => ?_) (fun c_16 => ?_)
      · have h := h.1 c_16
        refine lv_iconst (v := 1) hx hb dX6_works_96 (by decide) ?_
        refine lv_istore_n (lv' := [(3, .int 1), (2, .int (((upd (M 0) 17 (((M 0) 17) + 1)) 8) - r_2)), (1, .int ((M 0) 7)), (0, .ref (q 0))]) hx hb dX6_works_97 rfl hl (by decide) rfl (fun ls hl => ?_)
        refine lv_aload_n hx hb dX6_works_98 rfl (lv_at hl 3 rfl) ?_
        refine lv_iload_n hx hb dX6_works_99 rfl (lv_at hl 2 rfl) ?_
        refine lv_iconst (v := 2) hx hb dX6_works_100 (by decide) ?_
        refine lv_aload_n hx hb dX6_works_101 rfl (lv_at hl 3 rfl) ?_
        refine lv_iload_n hx hb dX6_works_102 rfl (lv_at hl 2 rfl) ?_
        refine lv_iconst (v := 2) hx hb dX6_works_103 (by decide) ?_
        refine kc_i (As := [.int ((M 0) 7), .int 2]) (rest := [.int 2, .int ((M 0) 7), .ref (q 0)]) (wg := (fun _ => (wM cI q (uA M 0 (upd (M 0) 17 (((M 0) 17) + 1)))))) ⟨hx, hb, hml, hown, hts⟩ (c_X6_of l G cI cC cD q _ (uA M 0 (upd (M 0) 17 (((M 0) 17) + 1))) ((M 0) 7) 2 _ h) (cwV 2 hts gX6_works_X6_of rfl rfl rfl (by decide +kernel) ⟨Nat.le_of_ble_eq_true rfl, Nat.le_of_ble_eq_true rfl⟩) hK hN hP hD hS hA (em_MM cI q (uA M 0 (upd (M 0) 17 (((M 0) 17) + 1)))) (fun _ => rp_self (em_MM cI q (uA M 0 (upd (M 0) 17 (((M 0) 17) + 1))))) rfl rfl rfl rfl hl.1 rfl (Nat.le_of_ble_eq_true rfl) dX6_works_104 ⟨Nat.zero_le _, Nat.zero_le _⟩ (fun r_17 _ H locs h hP hD hS => ?_)
        refine lv_iload_n hx hb dX6_works_107 rfl (lv_at hl 1 rfl) ?_
        refine lv_if_le (tgt := 115) hx hb dX6_works_108 (by decide) (fun c_18 => ?_) (fun c_18 => ?_)
        · have h := h.1 c_18
          refine lv_iload_n hx hb dX6_works_115 rfl (lv_at hl 0 rfl) ?_
          refine lv_ineg hx hb dX6_works_116 ?_
          refine lv_iadd hx hb dX6_works_117 ?_
          refine kc_v (As := [.int ((M 0) 7), .int 2, .int (r_17 + (-1))]) (rest := []) (wg := (fun u => (wM cI q u))) ⟨hx, hb, hml, hown, hts⟩ (c_X6_puts l G cI cC cD q _ (uA M 0 (upd (M 0) 17 (((M 0) 17) + 1))) ((M 0) 7) 2 (r_17 + (-1)) _ h) (cwV 3 hts gX6_works_X6_puts rfl rfl rfl (by decide +kernel) ⟨Nat.le_of_ble_eq_true rfl, Nat.le_of_ble_eq_true rfl⟩) hK hN hP hD hS hA (em_MM cI q (uA M 0 (upd (M 0) 17 (((M 0) 17) + 1)))) (fun u => rp_MM cI q (uA M 0 (upd (M 0) 17 (((M 0) 17) + 1))) u) rfl rfl rfl rfl hl.1 rfl (Nat.le_of_ble_eq_true rfl) dX6_works_118 ⟨Nat.zero_le _, Nat.zero_le _⟩ (fun u_19 H locs h hP hD hS => ?_)
          refine lv_aload_n hx hb dX6_works_121 rfl (lv_at hl 3 rfl) ?_
          refine lv_iload_n hx hb dX6_works_122 rfl (lv_at hl 2 rfl) ?_
          refine lv_iconst (v := 4) hx hb dX6_works_123 (by decide) ?_
          refine lv_aload_n hx hb dX6_works_124 rfl (lv_at hl 3 rfl) ?_
          refine lv_iload_n hx hb dX6_works_125 rfl (lv_at hl 2 rfl) ?_
          refine lv_iconst (v := 4) hx hb dX6_works_126 (by decide) ?_
          refine kc_i (As := [.int ((M 0) 7), .int 4]) (rest := [.int 4, .int ((M 0) 7), .ref (q 0)]) (wg := (fun _ => (wM cI q u_19))) ⟨hx, hb, hml, hown, hts⟩ (c_X6_of l G cI cC cD q _ u_19 ((M 0) 7) 4 _ h) (cwV 2 hts gX6_works_X6_of rfl rfl rfl (by decide +kernel) ⟨Nat.le_of_ble_eq_true rfl, Nat.le_of_ble_eq_true rfl⟩) hK hN hP hD hS hA (em_MM cI q u_19) (fun _ => rp_self (em_MM cI q u_19)) rfl rfl rfl rfl hl.1 rfl (Nat.le_of_ble_eq_true rfl) dX6_works_127 ⟨Nat.zero_le _, Nat.zero_le _⟩ (fun r_20 _ H locs h hP hD hS => ?_)
          refine lv_iconst (v := 1) hx hb dX6_works_130 (by decide) ?_
          refine lv_iadd hx hb dX6_works_131 ?_
          refine kc_v (As := [.int ((M 0) 7), .int 4, .int (r_20 + 1)]) (rest := []) (wg := (fun u => (wM cI q u))) ⟨hx, hb, hml, hown, hts⟩ (c_X6_puts l G cI cC cD q _ u_19 ((M 0) 7) 4 (r_20 + 1) _ h) (cwV 3 hts gX6_works_X6_puts rfl rfl rfl (by decide +kernel) ⟨Nat.le_of_ble_eq_true rfl, Nat.le_of_ble_eq_true rfl⟩) hK hN hP hD hS hA (em_MM cI q u_19) (fun u => rp_MM cI q u_19 u) rfl rfl rfl rfl hl.1 rfl (Nat.le_of_ble_eq_true rfl) dX6_works_132 ⟨Nat.zero_le _, Nat.zero_le _⟩ (fun u_21 H locs h hP hD hS => ?_)
          refine lv_aload_n hx hb dX6_works_135 rfl (lv_at hl 3 rfl) ?_
          refine kc_v (As := []) (rest := []) (wg := (fun u => (wM cI q u))) ⟨hx, hb, hml, hown, hts⟩ (c_X6_looks l G cI cC cD q _ u_21  _ h) (cwV 0 hts gX6_works_X6_looks rfl rfl rfl (by decide +kernel) ⟨Nat.le_of_ble_eq_true rfl, Nat.le_of_ble_eq_true rfl⟩) hK hN hP hD hS hA (em_MM cI q u_21) (fun u => rp_MM cI q u_21 u) rfl rfl rfl rfl hl.1 rfl (Nat.le_of_ble_eq_true rfl) dX6_works_136 ⟨Nat.zero_le _, Nat.zero_le _⟩ (fun u_22 H locs h hP hD hS => ?_)
          exact W.vret hx hb hr (fun t ht hW => ⟨⟨u_22, rfl, h, by rw [ht]; exact hP, hD⟩, hS.F ht⟩) hS.2.2 dX6_works_139
        · have h := h.2 c_18
          refine lv_iload_n hx hb dX6_works_111 rfl (lv_at hl 0 rfl) ?_
          refine lv_goto (tgt := 117) hx hb dX6_works_112 (by decide) ?_
          refine lv_iadd hx hb dX6_works_117 ?_
          refine kc_v (As := [.int ((M 0) 7), .int 2, .int (r_17 + 1)]) (rest := []) (wg := (fun u => (wM cI q u))) ⟨hx, hb, hml, hown, hts⟩ (c_X6_puts l G cI cC cD q _ (uA M 0 (upd (M 0) 17 (((M 0) 17) + 1))) ((M 0) 7) 2 (r_17 + 1) _ h) (cwV 3 hts gX6_works_X6_puts rfl rfl rfl (by decide +kernel) ⟨Nat.le_of_ble_eq_true rfl, Nat.le_of_ble_eq_true rfl⟩) hK hN hP hD hS hA (em_MM cI q (uA M 0 (upd (M 0) 17 (((M 0) 17) + 1)))) (fun u => rp_MM cI q (uA M 0 (upd (M 0) 17 (((M 0) 17) + 1))) u) rfl rfl rfl rfl hl.1 rfl (Nat.le_of_ble_eq_true rfl) dX6_works_118 ⟨Nat.zero_le _, Nat.zero_le _⟩ (fun u_23 H locs h hP hD hS => ?_)
          refine lv_aload_n hx hb dX6_works_121 rfl (lv_at hl 3 rfl) ?_
          refine lv_iload_n hx hb dX6_works_122 rfl (lv_at hl 2 rfl) ?_
          refine lv_iconst (v := 4) hx hb dX6_works_123 (by decide) ?_
          refine lv_aload_n hx hb dX6_works_124 rfl (lv_at hl 3 rfl) ?_
          refine lv_iload_n hx hb dX6_works_125 rfl (lv_at hl 2 rfl) ?_
          refine lv_iconst (v := 4) hx hb dX6_works_126 (by decide) ?_
          refine kc_i (As := [.int ((M 0) 7), .int 4]) (rest := [.int 4, .int ((M 0) 7), .ref (q 0)]) (wg := (fun _ => (wM cI q u_23))) ⟨hx, hb, hml, hown, hts⟩ (c_X6_of l G cI cC cD q _ u_23 ((M 0) 7) 4 _ h) (cwV 2 hts gX6_works_X6_of rfl rfl rfl (by decide +kernel) ⟨Nat.le_of_ble_eq_true rfl, Nat.le_of_ble_eq_true rfl⟩) hK hN hP hD hS hA (em_MM cI q u_23) (fun _ => rp_self (em_MM cI q u_23)) rfl rfl rfl rfl hl.1 rfl (Nat.le_of_ble_eq_true rfl) dX6_works_127 ⟨Nat.zero_le _, Nat.zero_le _⟩ (fun r_24 _ H locs h hP hD hS => ?_)
          refine lv_iconst (v := 1) hx hb dX6_works_130 (by decide) ?_
          refine lv_iadd hx hb dX6_works_131 ?_
          refine kc_v (As := [.int ((M 0) 7), .int 4, .int (r_24 + 1)]) (rest := []) (wg := (fun u => (wM cI q u))) ⟨hx, hb, hml, hown, hts⟩ (c_X6_puts l G cI cC cD q _ u_23 ((M 0) 7) 4 (r_24 + 1) _ h) (cwV 3 hts gX6_works_X6_puts rfl rfl rfl (by decide +kernel) ⟨Nat.le_of_ble_eq_true rfl, Nat.le_of_ble_eq_true rfl⟩) hK hN hP hD hS hA (em_MM cI q u_23) (fun u => rp_MM cI q u_23 u) rfl rfl rfl rfl hl.1 rfl (Nat.le_of_ble_eq_true rfl) dX6_works_132 ⟨Nat.zero_le _, Nat.zero_le _⟩ (fun u_25 H locs h hP hD hS => ?_)
          refine lv_aload_n hx hb dX6_works_135 rfl (lv_at hl 3 rfl) ?_
          refine kc_v (As := []) (rest := []) (wg := (fun u => (wM cI q u))) ⟨hx, hb, hml, hown, hts⟩ (c_X6_looks l G cI cC cD q _ u_25  _ h) (cwV 0 hts gX6_works_X6_looks rfl rfl rfl (by decide +kernel) ⟨Nat.le_of_ble_eq_true rfl, Nat.le_of_ble_eq_true rfl⟩) hK hN hP hD hS hA (em_MM cI q u_25) (fun u => rp_MM cI q u_25 u) rfl rfl rfl rfl hl.1 rfl (Nat.le_of_ble_eq_true rfl) dX6_works_136 ⟨Nat.zero_le _, Nat.zero_le _⟩ (fun u_26 H locs h hP hD hS => ?_)
          exact W.vret hx hb hr (fun t ht hW => ⟨⟨u_26, rfl, h, by rw [ht]; exact hP, hD⟩, hS.F ht⟩) hS.2.2 dX6_works_139
      · have h := h.2 c_16
        refine lv_iconst (v := 2) hx hb dX6_works_92 (by decide) ?_
        refine lv_goto (tgt := 97) hx hb dX6_works_93 (by decide) ?_
        refine lv_istore_n (lv' := [(3, .int 2), (2, .int (((upd (M 0) 17 (((M 0) 17) + 1)) 8) - r_2)), (1, .int ((M 0) 7)), (0, .ref (q 0))]) hx hb dX6_works_97 rfl hl (by decide) rfl (fun ls hl => ?_)
        refine lv_aload_n hx hb dX6_works_98 rfl (lv_at hl 3 rfl) ?_
        refine lv_iload_n hx hb dX6_works_99 rfl (lv_at hl 2 rfl) ?_
        refine lv_iconst (v := 2) hx hb dX6_works_100 (by decide) ?_
        refine lv_aload_n hx hb dX6_works_101 rfl (lv_at hl 3 rfl) ?_
        refine lv_iload_n hx hb dX6_works_102 rfl (lv_at hl 2 rfl) ?_
        refine lv_iconst (v := 2) hx hb dX6_works_103 (by decide) ?_
        refine kc_i (As := [.int ((M 0) 7), .int 2]) (rest := [.int 2, .int ((M 0) 7), .ref (q 0)]) (wg := (fun _ => (wM cI q (uA M 0 (upd (M 0) 17 (((M 0) 17) + 1)))))) ⟨hx, hb, hml, hown, hts⟩ (c_X6_of l G cI cC cD q _ (uA M 0 (upd (M 0) 17 (((M 0) 17) + 1))) ((M 0) 7) 2 _ h) (cwV 2 hts gX6_works_X6_of rfl rfl rfl (by decide +kernel) ⟨Nat.le_of_ble_eq_true rfl, Nat.le_of_ble_eq_true rfl⟩) hK hN hP hD hS hA (em_MM cI q (uA M 0 (upd (M 0) 17 (((M 0) 17) + 1)))) (fun _ => rp_self (em_MM cI q (uA M 0 (upd (M 0) 17 (((M 0) 17) + 1))))) rfl rfl rfl rfl hl.1 rfl (Nat.le_of_ble_eq_true rfl) dX6_works_104 ⟨Nat.zero_le _, Nat.zero_le _⟩ (fun r_27 _ H locs h hP hD hS => ?_)
        refine lv_iload_n hx hb dX6_works_107 rfl (lv_at hl 1 rfl) ?_
        refine lv_if_le (tgt := 115) hx hb dX6_works_108 (by decide) (fun c_28 => ?_) (fun c_28 => ?_)
        · have h := h.1 c_28
          refine lv_iload_n hx hb dX6_works_115 rfl (lv_at hl 0 rfl) ?_
          refine lv_ineg hx hb dX6_works_116 ?_
          refine lv_iadd hx hb dX6_works_117 ?_
          refine kc_v (As := [.int ((M 0) 7), .int 2, .int (r_27 + (-2))]) (rest := []) (wg := (fun u => (wM cI q u))) ⟨hx, hb, hml, hown, hts⟩ (c_X6_puts l G cI cC cD q _ (uA M 0 (upd (M 0) 17 (((M 0) 17) + 1))) ((M 0) 7) 2 (r_27 + (-2)) _ h) (cwV 3 hts gX6_works_X6_puts rfl rfl rfl (by decide +kernel) ⟨Nat.le_of_ble_eq_true rfl, Nat.le_of_ble_eq_true rfl⟩) hK hN hP hD hS hA (em_MM cI q (uA M 0 (upd (M 0) 17 (((M 0) 17) + 1)))) (fun u => rp_MM cI q (uA M 0 (upd (M 0) 17 (((M 0) 17) + 1))) u) rfl rfl rfl rfl hl.1 rfl (Nat.le_of_ble_eq_true rfl) dX6_works_118 ⟨Nat.zero_le _, Nat.zero_le _⟩ (fun u_29 H locs h hP hD hS => ?_)
          refine lv_aload_n hx hb dX6_works_121 rfl (lv_at hl 3 rfl) ?_
          refine lv_iload_n hx hb dX6_works_122 rfl (lv_at hl 2 rfl) ?_
          refine lv_iconst (v := 4) hx hb dX6_works_123 (by decide) ?_
          refine lv_aload_n hx hb dX6_works_124 rfl (lv_at hl 3 rfl) ?_
          refine lv_iload_n hx hb dX6_works_125 rfl (lv_at hl 2 rfl) ?_
          refine lv_iconst (v := 4) hx hb dX6_works_126 (by decide) ?_
          refine kc_i (As := [.int ((M 0) 7), .int 4]) (rest := [.int 4, .int ((M 0) 7), .ref (q 0)]) (wg := (fun _ => (wM cI q u_29))) ⟨hx, hb, hml, hown, hts⟩ (c_X6_of l G cI cC cD q _ u_29 ((M 0) 7) 4 _ h) (cwV 2 hts gX6_works_X6_of rfl rfl rfl (by decide +kernel) ⟨Nat.le_of_ble_eq_true rfl, Nat.le_of_ble_eq_true rfl⟩) hK hN hP hD hS hA (em_MM cI q u_29) (fun _ => rp_self (em_MM cI q u_29)) rfl rfl rfl rfl hl.1 rfl (Nat.le_of_ble_eq_true rfl) dX6_works_127 ⟨Nat.zero_le _, Nat.zero_le _⟩ (fun r_30 _ H locs h hP hD hS => ?_)
          refine lv_iconst (v := 1) hx hb dX6_works_130 (by decide) ?_
          refine lv_iadd hx hb dX6_works_131 ?_
          refine kc_v (As := [.int ((M 0) 7), .int 4, .int (r_30 + 1)]) (rest := []) (wg := (fun u => (wM cI q u))) ⟨hx, hb, hml, hown, hts⟩ (c_X6_puts l G cI cC cD q _ u_29 ((M 0) 7) 4 (r_30 + 1) _ h) (cwV 3 hts gX6_works_X6_puts rfl rfl rfl (by decide +kernel) ⟨Nat.le_of_ble_eq_true rfl, Nat.le_of_ble_eq_true rfl⟩) hK hN hP hD hS hA (em_MM cI q u_29) (fun u => rp_MM cI q u_29 u) rfl rfl rfl rfl hl.1 rfl (Nat.le_of_ble_eq_true rfl) dX6_works_132 ⟨Nat.zero_le _, Nat.zero_le _⟩ (fun u_31 H locs h hP hD hS => ?_)
          refine lv_aload_n hx hb dX6_works_135 rfl (lv_at hl 3 rfl) ?_
          refine kc_v (As := []) (rest := []) (wg := (fun u => (wM cI q u))) ⟨hx, hb, hml, hown, hts⟩ (c_X6_looks l G cI cC cD q _ u_31  _ h) (cwV 0 hts gX6_works_X6_looks rfl rfl rfl (by decide +kernel) ⟨Nat.le_of_ble_eq_true rfl, Nat.le_of_ble_eq_true rfl⟩) hK hN hP hD hS hA (em_MM cI q u_31) (fun u => rp_MM cI q u_31 u) rfl rfl rfl rfl hl.1 rfl (Nat.le_of_ble_eq_true rfl) dX6_works_136 ⟨Nat.zero_le _, Nat.zero_le _⟩ (fun u_32 H locs h hP hD hS => ?_)
          exact W.vret hx hb hr (fun t ht hW => ⟨⟨u_32, rfl, h, by rw [ht]; exact hP, hD⟩, hS.F ht⟩) hS.2.2 dX6_works_139
        · have h := h.2 c_28
          refine lv_iload_n hx hb dX6_works_111 rfl (lv_at hl 0 rfl) ?_
          refine lv_goto (tgt := 117) hx hb dX6_works_112 (by decide) ?_
          refine lv_iadd hx hb dX6_works_117 ?_
          refine kc_v (As := [.int ((M 0) 7), .int 2, .int (r_27 + 2)]) (rest := []) (wg := (fun u => (wM cI q u))) ⟨hx, hb, hml, hown, hts⟩ (c_X6_puts l G cI cC cD q _ (uA M 0 (upd (M 0) 17 (((M 0) 17) + 1))) ((M 0) 7) 2 (r_27 + 2) _ h) (cwV 3 hts gX6_works_X6_puts rfl rfl rfl (by decide +kernel) ⟨Nat.le_of_ble_eq_true rfl, Nat.le_of_ble_eq_true rfl⟩) hK hN hP hD hS hA (em_MM cI q (uA M 0 (upd (M 0) 17 (((M 0) 17) + 1)))) (fun u => rp_MM cI q (uA M 0 (upd (M 0) 17 (((M 0) 17) + 1))) u) rfl rfl rfl rfl hl.1 rfl (Nat.le_of_ble_eq_true rfl) dX6_works_118 ⟨Nat.zero_le _, Nat.zero_le _⟩ (fun u_33 H locs h hP hD hS => ?_)
          refine lv_aload_n hx hb dX6_works_121 rfl (lv_at hl 3 rfl) ?_
          refine lv_iload_n hx hb dX6_works_122 rfl (lv_at hl 2 rfl) ?_
          refine lv_iconst (v := 4) hx hb dX6_works_123 (by decide) ?_
          refine lv_aload_n hx hb dX6_works_124 rfl (lv_at hl 3 rfl) ?_
          refine lv_iload_n hx hb dX6_works_125 rfl (lv_at hl 2 rfl) ?_
          refine lv_iconst (v := 4) hx hb dX6_works_126 (by decide) ?_
          refine kc_i (As := [.int ((M 0) 7), .int 4]) (rest := [.int 4, .int ((M 0) 7), .ref (q 0)]) (wg := (fun _ => (wM cI q u_33))) ⟨hx, hb, hml, hown, hts⟩ (c_X6_of l G cI cC cD q _ u_33 ((M 0) 7) 4 _ h) (cwV 2 hts gX6_works_X6_of rfl rfl rfl (by decide +kernel) ⟨Nat.le_of_ble_eq_true rfl, Nat.le_of_ble_eq_true rfl⟩) hK hN hP hD hS hA (em_MM cI q u_33) (fun _ => rp_self (em_MM cI q u_33)) rfl rfl rfl rfl hl.1 rfl (Nat.le_of_ble_eq_true rfl) dX6_works_127 ⟨Nat.zero_le _, Nat.zero_le _⟩ (fun r_34 _ H locs h hP hD hS => ?_)
          refine lv_iconst (v := 1) hx hb dX6_works_130 (by decide) ?_
          refine lv_iadd hx hb dX6_works_131 ?_
          refine kc_v (As := [.int ((M 0) 7), .int 4, .int (r_34 + 1)]) (rest := []) (wg := (fun u => (wM cI q u))) ⟨hx, hb, hml, hown, hts⟩ (c_X6_puts l G cI cC cD q _ u_33 ((M 0) 7) 4 (r_34 + 1) _ h) (cwV 3 hts gX6_works_X6_puts rfl rfl rfl (by decide +kernel) ⟨Nat.le_of_ble_eq_true rfl, Nat.le_of_ble_eq_true rfl⟩) hK hN hP hD hS hA (em_MM cI q u_33) (fun u => rp_MM cI q u_33 u) rfl rfl rfl rfl hl.1 rfl (Nat.le_of_ble_eq_true rfl) dX6_works_132 ⟨Nat.zero_le _, Nat.zero_le _⟩ (fun u_35 H locs h hP hD hS => ?_)
          refine lv_aload_n hx hb dX6_works_135 rfl (lv_at hl 3 rfl) ?_
          refine kc_v (As := []) (rest := []) (wg := (fun u => (wM cI q u))) ⟨hx, hb, hml, hown, hts⟩ (c_X6_looks l G cI cC cD q _ u_35  _ h) (cwV 0 hts gX6_works_X6_looks rfl rfl rfl (by decide +kernel) ⟨Nat.le_of_ble_eq_true rfl, Nat.le_of_ble_eq_true rfl⟩) hK hN hP hD hS hA (em_MM cI q u_35) (fun u => rp_MM cI q u_35 u) rfl rfl rfl rfl hl.1 rfl (Nat.le_of_ble_eq_true rfl) dX6_works_136 ⟨Nat.zero_le _, Nat.zero_le _⟩ (fun u_36 H locs h hP hD hS => ?_)
          exact W.vret hx hb hr (fun t ht hW => ⟨⟨u_36, rfl, h, by rw [ht]; exact hP, hD⟩, hS.F ht⟩) hS.2.2 dX6_works_139
  · have h := h.2 c_1
    refine lv_aload_n hx hb dX6_works_30 rfl (lv_at hl 1 rfl) ?_
    refine va_get (D := G) (ci := 6) (v := .ref (q 1)) (C := RX6) (T := TX6) (N := 11) hx hb hts hinX6 hown hK hP 0 rfl rfl 0 (by decide) hL7 (fun _ h9 => h9) rfl dX6_works_31 ?_
    refine lv_bipush (v := 6) hx hb dX6_works_34 (by decide) ?_
    refine lv_dup2_11 hx hb dX6_works_36 rfl rfl ?_
    refine k_ald (f := (upd (M 0) 17 (((M 0) 17) + 1))) (j := 6) (v := ((upd (M 0) 17 (((M 0) 17) + 1)) 6)) hx hb hK hP 1 0 rfl rfl (show ¬ ((6 : Int32) < 0 ∨ 86 ≤ (6 : Int32).toNatClampNeg) by decide) rfl rfl dX6_works_37 ?_
    refine lv_iload_n hx hb dX6_works_38 rfl (lv_at hl 0 rfl) ?_
    refine lv_aload_n hx hb dX6_works_39 rfl (lv_at hl 1 rfl) ?_
    refine va_get (D := G) (ci := 6) (v := .ref (q 1)) (C := RX6) (T := TX6) (N := 11) hx hb hts hinX6 hown hK hP 0 rfl rfl 0 (by decide) hL7 (fun _ h9 => h9) rfl dX6_works_40 ?_
    refine lv_bipush (v := 6) hx hb dX6_works_43 (by decide) ?_
    refine k_ald (f := (upd (M 0) 17 (((M 0) 17) + 1))) (j := 6) (v := ((upd (M 0) 17 (((M 0) 17) + 1)) 6)) hx hb hK hP 1 0 rfl rfl (show ¬ ((6 : Int32) < 0 ∨ 86 ≤ (6 : Int32).toNatClampNeg) by decide) rfl rfl dX6_works_45 ?_
    refine lv_icmp_le (tgt := 53) hx hb dX6_works_46 (by decide) (fun c_37 => ?_) (fun c_37 => ?_)
    · have h := h.1 c_37
      refine lv_iconst (v := (-1)) hx hb dX6_works_53 (by decide) ?_
      refine lv_iadd hx hb dX6_works_54 ?_
      refine k_ast (f := (upd (M 0) 17 (((M 0) 17) + 1))) (j := 6) (ws' := (wM cI q (uA (uA M 0 (upd (M 0) 17 (((M 0) 17) + 1))) 0 (upd (upd (M 0) 17 (((M 0) 17) + 1)) 6 (((upd (M 0) 17 (((M 0) 17) + 1)) 6) + (-1)))))) hx hb hK hP hD hS 1 0 rfl rfl (show ¬ ((6 : Int32) < 0 ∨ 86 ≤ (6 : Int32).toNatClampNeg) by decide) rfl dX6_works_55 rfl (fun H locs hP hD hS => ?_)
      refine lv_goto (tgt := 135) hx hb dX6_works_56 (by decide) ?_
      refine lv_aload_n hx hb dX6_works_135 rfl (lv_at hl 1 rfl) ?_
      refine kc_v (As := []) (rest := []) (wg := (fun u => (wM cI q u))) ⟨hx, hb, hml, hown, hts⟩ (c_X6_looks l G cI cC cD q _ (uA (uA M 0 (upd (M 0) 17 (((M 0) 17) + 1))) 0 (upd (upd (M 0) 17 (((M 0) 17) + 1)) 6 (((upd (M 0) 17 (((M 0) 17) + 1)) 6) + (-1))))  _ h) (cwV 0 hts gX6_works_X6_looks rfl rfl rfl (by decide +kernel) ⟨Nat.le_of_ble_eq_true rfl, Nat.le_of_ble_eq_true rfl⟩) hK hN hP hD hS hA (em_MM cI q (uA (uA M 0 (upd (M 0) 17 (((M 0) 17) + 1))) 0 (upd (upd (M 0) 17 (((M 0) 17) + 1)) 6 (((upd (M 0) 17 (((M 0) 17) + 1)) 6) + (-1))))) (fun u => rp_MM cI q (uA (uA M 0 (upd (M 0) 17 (((M 0) 17) + 1))) 0 (upd (upd (M 0) 17 (((M 0) 17) + 1)) 6 (((upd (M 0) 17 (((M 0) 17) + 1)) 6) + (-1)))) u) rfl rfl rfl rfl hl.1 rfl (Nat.le_of_ble_eq_true rfl) dX6_works_136 ⟨Nat.zero_le _, Nat.zero_le _⟩ (fun u_38 H locs h hP hD hS => ?_)
      exact W.vret hx hb hr (fun t ht hW => ⟨⟨u_38, rfl, h, by rw [ht]; exact hP, hD⟩, hS.F ht⟩) hS.2.2 dX6_works_139
    · have h := h.2 c_37
      refine lv_iconst (v := 1) hx hb dX6_works_49 (by decide) ?_
      refine lv_goto (tgt := 54) hx hb dX6_works_50 (by decide) ?_
      refine lv_iadd hx hb dX6_works_54 ?_
      refine k_ast (f := (upd (M 0) 17 (((M 0) 17) + 1))) (j := 6) (ws' := (wM cI q (uA (uA M 0 (upd (M 0) 17 (((M 0) 17) + 1))) 0 (upd (upd (M 0) 17 (((M 0) 17) + 1)) 6 (((upd (M 0) 17 (((M 0) 17) + 1)) 6) + 1))))) hx hb hK hP hD hS 1 0 rfl rfl (show ¬ ((6 : Int32) < 0 ∨ 86 ≤ (6 : Int32).toNatClampNeg) by decide) rfl dX6_works_55 rfl (fun H locs hP hD hS => ?_)
      refine lv_goto (tgt := 135) hx hb dX6_works_56 (by decide) ?_
      refine lv_aload_n hx hb dX6_works_135 rfl (lv_at hl 1 rfl) ?_
      refine kc_v (As := []) (rest := []) (wg := (fun u => (wM cI q u))) ⟨hx, hb, hml, hown, hts⟩ (c_X6_looks l G cI cC cD q _ (uA (uA M 0 (upd (M 0) 17 (((M 0) 17) + 1))) 0 (upd (upd (M 0) 17 (((M 0) 17) + 1)) 6 (((upd (M 0) 17 (((M 0) 17) + 1)) 6) + 1)))  _ h) (cwV 0 hts gX6_works_X6_looks rfl rfl rfl (by decide +kernel) ⟨Nat.le_of_ble_eq_true rfl, Nat.le_of_ble_eq_true rfl⟩) hK hN hP hD hS hA (em_MM cI q (uA (uA M 0 (upd (M 0) 17 (((M 0) 17) + 1))) 0 (upd (upd (M 0) 17 (((M 0) 17) + 1)) 6 (((upd (M 0) 17 (((M 0) 17) + 1)) 6) + 1)))) (fun u => rp_MM cI q (uA (uA M 0 (upd (M 0) 17 (((M 0) 17) + 1))) 0 (upd (upd (M 0) 17 (((M 0) 17) + 1)) 6 (((upd (M 0) 17 (((M 0) 17) + 1)) 6) + 1))) u) rfl rfl rfl rfl hl.1 rfl (Nat.le_of_ble_eq_true rfl) dX6_works_136 ⟨Nat.zero_le _, Nat.zero_le _⟩ (fun u_39 H locs h hP hD hS => ?_)
      exact W.vret hx hb hr (fun t ht hW => ⟨⟨u_39, rfl, h, by rw [ht]; exact hP, hD⟩, hS.F ht⟩) hS.2.2 dX6_works_139
def q_X6_flows (M : St) (Q : St → Prop) : Prop :=
  q_X6_head M (fun r_1 => ∃ (I_3 : Nat → Int32 → St → Prop) (n_7 : Nat), I_3 n_7 0 (uA (uA M 0 (upd (M 0) 4 (((M 0) 4) + ((M 0) 5)))) 0 (upd (upd (M 0) 4 (((M 0) 4) + ((M 0) 5))) 13 (((upd (M 0) 4 (((M 0) 4) + ((M 0) 5))) 13) + ((upd (M 0) 4 (((M 0) 4) + ((M 0) 5))) 5)))) ∧ ∀ (n_2 : Nat) (x2_4 : Int32) (D_5 : St), I_3 n_2 x2_4 D_5 → ((((D_5 0) 3) ≤ x2_4 → (((D_5 0) 4) ≤ 9999 → Q (uA (uA D_5 0 (upd (D_5 0) 15 (((D_5 0) 15) + 0))) 0 (upd (upd (D_5 0) 15 (((D_5 0) 15) + 0)) 4 (((upd (D_5 0) 15 (((D_5 0) 15) + 0)) 4) - 0)))) ∧ (¬ (((D_5 0) 4) ≤ 9999) → Q (uA (uA D_5 0 (upd (D_5 0) 15 (((D_5 0) 15) + (((D_5 0) 4) - 9999)))) 0 (upd (upd (D_5 0) 15 (((D_5 0) 15) + (((D_5 0) 4) - 9999))) 4 (((upd (D_5 0) 15 (((D_5 0) 15) + (((D_5 0) 4) - 9999))) 4) - (((D_5 0) 4) - 9999)))))) ∧ (¬ (((D_5 0) 3) ≤ x2_4) → q_X6_rate x2_4 r_1 D_5 (fun r_13 => (r_13 ≤ ((D_5 0) 4) → q_X6_of x2_4 3 (uA (uA D_5 0 (upd (D_5 0) 4 (((D_5 0) 4) - r_13))) 0 (upd (upd (D_5 0) 4 (((D_5 0) 4) - r_13)) 14 (((upd (D_5 0) 4 (((D_5 0) 4) - r_13)) 14) + r_13))) (fun r_15 => q_X6_puts x2_4 3 (r_15 + r_13) (uA (uA D_5 0 (upd (D_5 0) 4 (((D_5 0) 4) - r_13))) 0 (upd (upd (D_5 0) 4 (((D_5 0) 4) - r_13)) 14 (((upd (D_5 0) 4 (((D_5 0) 4) - r_13)) 14) + r_13))) (fun u_16 => ∃ n_17, n_17 < n_2 ∧ I_3 n_17 (x2_4 + 1) u_16))) ∧ (¬ (r_13 ≤ ((D_5 0) 4)) → q_X6_of x2_4 3 (uA (uA D_5 0 (upd (D_5 0) 4 (((D_5 0) 4) - ((D_5 0) 4)))) 0 (upd (upd (D_5 0) 4 (((D_5 0) 4) - ((D_5 0) 4))) 14 (((upd (D_5 0) 4 (((D_5 0) 4) - ((D_5 0) 4))) 14) + ((D_5 0) 4)))) (fun r_20 => q_X6_puts x2_4 3 (r_20 + ((D_5 0) 4)) (uA (uA D_5 0 (upd (D_5 0) 4 (((D_5 0) 4) - ((D_5 0) 4)))) 0 (upd (upd (D_5 0) 4 (((D_5 0) 4) - ((D_5 0) 4))) 14 (((upd (D_5 0) 4 (((D_5 0) 4) - ((D_5 0) 4))) 14) + ((D_5 0) 4)))) (fun u_21 => ∃ n_22, n_22 < n_2 ∧ I_3 n_22 (x2_4 + 1) u_21)))))))
set_option maxHeartbeats 4000000 in
set_option maxRecDepth 100000 in
theorem c_X6_flows (l : Launch) (G : va_G) (cI cC cD : ClassId) (q : Nat → Nat) (sz : Nat) (M : St)  (Q : St → Prop) (h : q_X6_flows  M Q) : Met l yX6_flows wsX6_flows ({ frames := 2, cells := 0, slots := 0, locals := 47 }) (va_Pc [.ref (q 0)] (PW G (ty3 cI cC cD) (wM cI q M) sz)) (va_Qv Q (BW G (fun u : St => (wM cI q u)) (va_A (wM cI q M) sz)) (va_A (wM cI q M) sz)) 0 0 (va_A (wM cI q M) sz) := by
  refine Met.ofW (cc := cX6_flows) (maxL := 4) (ret := none) (by decide) rfl ?_
  intro p e s m args below meth c s₁ B hml hv
  obtain ⟨rfl, hsz, hP, hK, hD0, hN⟩ := hv
  have hx := B.exec
  have hb := B.bytes
  have hr := B.returns
  have hts := atoms_spec (ws := wsX6_flows) B.pre
  have hown : s.vm.findClass RX6 = some m.cls := findClass_of_methodNamed B.named
  have hlocks := B.notSynchronized
  subst hsz
  have hD := hD0.self (sz := s.heap.size)
  generalize hAe : va_A (wM cI q M) s.heap.size = A at hD ⊢
  have hA : ∀ q : Nat, s.heap.size ≤ q → A q := fun q h => by rw [← hAe]; exact Or.inr h
  have hS : va_S A s.heap s.heap [] := va_S.rf
  have hl := lv_entry ([.ref (q 0)]) (n := 4) (Nat.le_of_ble_eq_true rfl)
  rw [lg_entry_eq]
  generalize (lg_sl ([.ref (q 0)]) ++ List.replicate (4 - (lg_sl ([.ref (q 0)])).length) Slot.unset).toArray = ls at hl ⊢
  have hl : lv_has ls 4 [(0, .ref (q 0))] := hl
  have hinX6 : ∀ w ∈ wsX60, w ∈ wsX6_flows := by decide +kernel
  have hL7 := hts (.fieldLink RX6 7 "CraneGatesModel" "s" "[I") (by decide +kernel)
  unfold q_X6_flows at h
  refine lv_aload_n hx hb dX6_flows_0 rfl (lv_at hl 0 rfl) ?_
  refine kc_i (As := []) (rest := []) (wg := (fun _ => (wM cI q M))) ⟨hx, hb, hml, hown, hts⟩ (c_X6_head l G cI cC cD q _ M  _ h) (cwV 0 hts gX6_flows_X6_head rfl rfl rfl (by decide +kernel) ⟨Nat.le_of_ble_eq_true rfl, Nat.le_of_ble_eq_true rfl⟩) hK hN hP hD hS hA (em_MM cI q M) (fun _ => rp_self (em_MM cI q M)) rfl rfl rfl rfl hl.1 rfl (Nat.le_of_ble_eq_true rfl) dX6_flows_1 ⟨Nat.zero_le _, Nat.zero_le _⟩ (fun r_1 _ H locs h hP hD hS => ?_)
  refine lv_istore_n (lv' := [(1, .int r_1), (0, .ref (q 0))]) hx hb dX6_flows_4 rfl hl (by decide) rfl (fun ls hl => ?_)
  refine lv_aload_n hx hb dX6_flows_5 rfl (lv_at hl 1 rfl) ?_
  refine va_get (D := G) (ci := 6) (v := .ref (q 1)) (C := RX6) (T := TX6) (N := 11) hx hb hts hinX6 hown hK hP 0 rfl rfl 0 (by decide) hL7 (fun _ h9 => h9) rfl dX6_flows_6 ?_
  refine lv_iconst (v := 4) hx hb dX6_flows_9 (by decide) ?_
  refine lv_dup2_11 hx hb dX6_flows_10 rfl rfl ?_
  refine k_ald (f := (M 0)) (j := 4) (v := ((M 0) 4)) hx hb hK hP 1 0 rfl rfl (show ¬ ((4 : Int32) < 0 ∨ 86 ≤ (4 : Int32).toNatClampNeg) by decide) rfl rfl dX6_flows_11 ?_
  refine lv_aload_n hx hb dX6_flows_12 rfl (lv_at hl 1 rfl) ?_
  refine va_get (D := G) (ci := 6) (v := .ref (q 1)) (C := RX6) (T := TX6) (N := 11) hx hb hts hinX6 hown hK hP 0 rfl rfl 0 (by decide) hL7 (fun _ h9 => h9) rfl dX6_flows_13 ?_
  refine lv_iconst (v := 5) hx hb dX6_flows_16 (by decide) ?_
  refine k_ald (f := (M 0)) (j := 5) (v := ((M 0) 5)) hx hb hK hP 1 0 rfl rfl (show ¬ ((5 : Int32) < 0 ∨ 86 ≤ (5 : Int32).toNatClampNeg) by decide) rfl rfl dX6_flows_17 ?_
  refine lv_iadd hx hb dX6_flows_18 ?_
  refine k_ast (f := (M 0)) (j := 4) (ws' := (wM cI q (uA M 0 (upd (M 0) 4 (((M 0) 4) + ((M 0) 5)))))) hx hb hK hP hD hS 1 0 rfl rfl (show ¬ ((4 : Int32) < 0 ∨ 86 ≤ (4 : Int32).toNatClampNeg) by decide) rfl dX6_flows_19 rfl (fun H locs hP hD hS => ?_)
  refine lv_aload_n hx hb dX6_flows_20 rfl (lv_at hl 1 rfl) ?_
  refine va_get (D := G) (ci := 6) (v := .ref (q 1)) (C := RX6) (T := TX6) (N := 11) hx hb hts hinX6 hown hK hP 0 rfl rfl 0 (by decide) hL7 (fun _ h9 => h9) rfl dX6_flows_21 ?_
  refine lv_bipush (v := 13) hx hb dX6_flows_24 (by decide) ?_
  refine lv_dup2_11 hx hb dX6_flows_26 rfl rfl ?_
  refine k_ald (f := (upd (M 0) 4 (((M 0) 4) + ((M 0) 5)))) (j := 13) (v := ((upd (M 0) 4 (((M 0) 4) + ((M 0) 5))) 13)) hx hb hK hP 1 0 rfl rfl (show ¬ ((13 : Int32) < 0 ∨ 86 ≤ (13 : Int32).toNatClampNeg) by decide) rfl rfl dX6_flows_27 ?_
  refine lv_aload_n hx hb dX6_flows_28 rfl (lv_at hl 1 rfl) ?_
  refine va_get (D := G) (ci := 6) (v := .ref (q 1)) (C := RX6) (T := TX6) (N := 11) hx hb hts hinX6 hown hK hP 0 rfl rfl 0 (by decide) hL7 (fun _ h9 => h9) rfl dX6_flows_29 ?_
  refine lv_iconst (v := 5) hx hb dX6_flows_32 (by decide) ?_
  refine k_ald (f := (upd (M 0) 4 (((M 0) 4) + ((M 0) 5)))) (j := 5) (v := ((upd (M 0) 4 (((M 0) 4) + ((M 0) 5))) 5)) hx hb hK hP 1 0 rfl rfl (show ¬ ((5 : Int32) < 0 ∨ 86 ≤ (5 : Int32).toNatClampNeg) by decide) rfl rfl dX6_flows_33 ?_
  refine lv_iadd hx hb dX6_flows_34 ?_
  refine k_ast (f := (upd (M 0) 4 (((M 0) 4) + ((M 0) 5)))) (j := 13) (ws' := (wM cI q (uA (uA M 0 (upd (M 0) 4 (((M 0) 4) + ((M 0) 5)))) 0 (upd (upd (M 0) 4 (((M 0) 4) + ((M 0) 5))) 13 (((upd (M 0) 4 (((M 0) 4) + ((M 0) 5))) 13) + ((upd (M 0) 4 (((M 0) 4) + ((M 0) 5))) 5)))))) hx hb hK hP hD hS 1 0 rfl rfl (show ¬ ((13 : Int32) < 0 ∨ 86 ≤ (13 : Int32).toNatClampNeg) by decide) rfl dX6_flows_35 rfl (fun H locs hP hD hS => ?_)
  refine lv_iconst (v := 0) hx hb dX6_flows_36 (by decide) ?_
  refine lv_istore_n (lv' := [(2, .int 0), (1, .int r_1), (0, .ref (q 0))]) hx hb dX6_flows_37 rfl hl (by decide) rfl (fun ls hl => ?_)
  obtain ⟨I_3, n_7, h_8, hI_9⟩ := h
  have lp_10 : ∀ (n_2 : Nat) (x2_4 : Int32) (D_5 : St), I_3 n_2 x2_4 D_5 → ∀ (H : Heap) (locs : List Loc) (ls : Array Slot), va_P G vwCl (wM cI q D_5) H → va_D A (wM cI q D_5) → va_S A s.heap H locs → lv_has ls 4 [(2, .int x2_4), (1, .int r_1), (0, .ref (q 0))] → W p l e (headSpec wsX6_flows ({ frames := 2, cells := 0, slots := 0, locals := 47 })).room s m ([.ref (q 0)] : List Value).toArray below meth c H locs 0 0 (MQ below (va_Qv Q (BW G (fun u : St => (wM cI q u)) A) A) ([.ref (q 0)] : List Value).toArray s 0 0 A) (F0 m 38 ls []) := by
    intro n_2
    induction n_2 using Nat.strongRecOn with
    | ind n_2 ih_6 =>
      intro x2_4 D_5 hIn H locs ls hP hD hS hl
      have h := hI_9 n_2 x2_4 D_5 hIn
      refine lv_iload_n hx hb dX6_flows_38 rfl (lv_at hl 0 rfl) ?_
      refine lv_aload_n hx hb dX6_flows_39 rfl (lv_at hl 2 rfl) ?_
      refine va_get (D := G) (ci := 6) (v := .ref (q 1)) (C := RX6) (T := TX6) (N := 11) hx hb hts hinX6 hown hK hP 0 rfl rfl 0 (by decide) hL7 (fun _ h9 => h9) rfl dX6_flows_40 ?_
      refine lv_iconst (v := 3) hx hb dX6_flows_43 (by decide) ?_
      refine k_ald (f := (D_5 0)) (j := 3) (v := ((D_5 0) 3)) hx hb hK hP 1 0 rfl rfl (show ¬ ((3 : Int32) < 0 ∨ 86 ≤ (3 : Int32).toNatClampNeg) by decide) rfl rfl dX6_flows_44 ?_
      refine lv_icmp_ge (tgt := 117) hx hb dX6_flows_45 (by decide) (fun c_11 => ?_) (fun c_11 => ?_)
      · have h := h.1 c_11
        refine lv_aload_n hx hb dX6_flows_117 rfl (lv_at hl 2 rfl) ?_
        refine va_get (D := G) (ci := 6) (v := .ref (q 1)) (C := RX6) (T := TX6) (N := 11) hx hb hts hinX6 hown hK hP 0 rfl rfl 0 (by decide) hL7 (fun _ h9 => h9) rfl dX6_flows_118 ?_
        refine lv_iconst (v := 4) hx hb dX6_flows_121 (by decide) ?_
        refine k_ald (f := (D_5 0)) (j := 4) (v := ((D_5 0) 4)) hx hb hK hP 1 0 rfl rfl (show ¬ ((4 : Int32) < 0 ∨ 86 ≤ (4 : Int32).toNatClampNeg) by decide) rfl rfl dX6_flows_122 ?_
        refine lv_sipush (v := 9999) hx hb dX6_flows_123 (by decide) ?_
        refine lv_icmp_le (tgt := 142) hx hb dX6_flows_126 (by decide) (fun c_12 => ?_) (fun c_12 => ?_)
        · have h := h.1 c_12
          refine lv_iconst (v := 0) hx hb dX6_flows_142 (by decide) ?_
          refine lv_istore_n (lv' := [(2, .int 0), (1, .int r_1), (0, .ref (q 0))]) hx hb dX6_flows_143 rfl hl (by decide) rfl (fun ls hl => ?_)
          refine lv_aload_n hx hb dX6_flows_144 rfl (lv_at hl 2 rfl) ?_
          refine va_get (D := G) (ci := 6) (v := .ref (q 1)) (C := RX6) (T := TX6) (N := 11) hx hb hts hinX6 hown hK hP 0 rfl rfl 0 (by decide) hL7 (fun _ h9 => h9) rfl dX6_flows_145 ?_
          refine lv_bipush (v := 15) hx hb dX6_flows_148 (by decide) ?_
          refine lv_dup2_11 hx hb dX6_flows_150 rfl rfl ?_
          refine k_ald (f := (D_5 0)) (j := 15) (v := ((D_5 0) 15)) hx hb hK hP 1 0 rfl rfl (show ¬ ((15 : Int32) < 0 ∨ 86 ≤ (15 : Int32).toNatClampNeg) by decide) rfl rfl dX6_flows_151 ?_
          refine lv_iload_n hx hb dX6_flows_152 rfl (lv_at hl 0 rfl) ?_
          refine lv_iadd hx hb dX6_flows_153 ?_
          refine k_ast (f := (D_5 0)) (j := 15) (ws' := (wM cI q (uA D_5 0 (upd (D_5 0) 15 (((D_5 0) 15) + 0))))) hx hb hK hP hD hS 1 0 rfl rfl (show ¬ ((15 : Int32) < 0 ∨ 86 ≤ (15 : Int32).toNatClampNeg) by decide) rfl dX6_flows_154 rfl (fun H locs hP hD hS => ?_)
          refine lv_aload_n hx hb dX6_flows_155 rfl (lv_at hl 2 rfl) ?_
          refine va_get (D := G) (ci := 6) (v := .ref (q 1)) (C := RX6) (T := TX6) (N := 11) hx hb hts hinX6 hown hK hP 0 rfl rfl 0 (by decide) hL7 (fun _ h9 => h9) rfl dX6_flows_156 ?_
          refine lv_iconst (v := 4) hx hb dX6_flows_159 (by decide) ?_
          refine lv_dup2_11 hx hb dX6_flows_160 rfl rfl ?_
          refine k_ald (f := (upd (D_5 0) 15 (((D_5 0) 15) + 0))) (j := 4) (v := ((upd (D_5 0) 15 (((D_5 0) 15) + 0)) 4)) hx hb hK hP 1 0 rfl rfl (show ¬ ((4 : Int32) < 0 ∨ 86 ≤ (4 : Int32).toNatClampNeg) by decide) rfl rfl dX6_flows_161 ?_
          refine lv_iload_n hx hb dX6_flows_162 rfl (lv_at hl 0 rfl) ?_
          refine lv_isub hx hb dX6_flows_163 ?_
          refine k_ast (f := (upd (D_5 0) 15 (((D_5 0) 15) + 0))) (j := 4) (ws' := (wM cI q (uA (uA D_5 0 (upd (D_5 0) 15 (((D_5 0) 15) + 0))) 0 (upd (upd (D_5 0) 15 (((D_5 0) 15) + 0)) 4 (((upd (D_5 0) 15 (((D_5 0) 15) + 0)) 4) - 0))))) hx hb hK hP hD hS 1 0 rfl rfl (show ¬ ((4 : Int32) < 0 ∨ 86 ≤ (4 : Int32).toNatClampNeg) by decide) rfl dX6_flows_164 rfl (fun H locs hP hD hS => ?_)
          exact W.vret hx hb hr (fun t ht hW => ⟨⟨(uA (uA D_5 0 (upd (D_5 0) 15 (((D_5 0) 15) + 0))) 0 (upd (upd (D_5 0) 15 (((D_5 0) 15) + 0)) 4 (((upd (D_5 0) 15 (((D_5 0) 15) + 0)) 4) - 0))), rfl, h, by rw [ht]; exact hP, hD⟩, hS.F ht⟩) hS.2.2 dX6_flows_165
        · have h := h.2 c_12
          refine lv_aload_n hx hb dX6_flows_129 rfl (lv_at hl 2 rfl) ?_
          refine va_get (D := G) (ci := 6) (v := .ref (q 1)) (C := RX6) (T := TX6) (N := 11) hx hb hts hinX6 hown hK hP 0 rfl rfl 0 (by decide) hL7 (fun _ h9 => h9) rfl dX6_flows_130 ?_
          refine lv_iconst (v := 4) hx hb dX6_flows_133 (by decide) ?_
          refine k_ald (f := (D_5 0)) (j := 4) (v := ((D_5 0) 4)) hx hb hK hP 1 0 rfl rfl (show ¬ ((4 : Int32) < 0 ∨ 86 ≤ (4 : Int32).toNatClampNeg) by decide) rfl rfl dX6_flows_134 ?_
          refine lv_sipush (v := 9999) hx hb dX6_flows_135 (by decide) ?_
          refine lv_isub hx hb dX6_flows_138 ?_
          refine lv_goto (tgt := 143) hx hb dX6_flows_139 (by decide) ?_
          refine lv_istore_n (lv' := [(2, .int (((D_5 0) 4) - 9999)), (1, .int r_1), (0, .ref (q 0))]) hx hb dX6_flows_143 rfl hl (by decide) rfl (fun ls hl => ?_)
          refine lv_aload_n hx hb dX6_flows_144 rfl (lv_at hl 2 rfl) ?_
          refine va_get (D := G) (ci := 6) (v := .ref (q 1)) (C := RX6) (T := TX6) (N := 11) hx hb hts hinX6 hown hK hP 0 rfl rfl 0 (by decide) hL7 (fun _ h9 => h9) rfl dX6_flows_145 ?_
          refine lv_bipush (v := 15) hx hb dX6_flows_148 (by decide) ?_
          refine lv_dup2_11 hx hb dX6_flows_150 rfl rfl ?_
          refine k_ald (f := (D_5 0)) (j := 15) (v := ((D_5 0) 15)) hx hb hK hP 1 0 rfl rfl (show ¬ ((15 : Int32) < 0 ∨ 86 ≤ (15 : Int32).toNatClampNeg) by decide) rfl rfl dX6_flows_151 ?_
          refine lv_iload_n hx hb dX6_flows_152 rfl (lv_at hl 0 rfl) ?_
          refine lv_iadd hx hb dX6_flows_153 ?_
          refine k_ast (f := (D_5 0)) (j := 15) (ws' := (wM cI q (uA D_5 0 (upd (D_5 0) 15 (((D_5 0) 15) + (((D_5 0) 4) - 9999)))))) hx hb hK hP hD hS 1 0 rfl rfl (show ¬ ((15 : Int32) < 0 ∨ 86 ≤ (15 : Int32).toNatClampNeg) by decide) rfl dX6_flows_154 rfl (fun H locs hP hD hS => ?_)
          refine lv_aload_n hx hb dX6_flows_155 rfl (lv_at hl 2 rfl) ?_
          refine va_get (D := G) (ci := 6) (v := .ref (q 1)) (C := RX6) (T := TX6) (N := 11) hx hb hts hinX6 hown hK hP 0 rfl rfl 0 (by decide) hL7 (fun _ h9 => h9) rfl dX6_flows_156 ?_
          refine lv_iconst (v := 4) hx hb dX6_flows_159 (by decide) ?_
          refine lv_dup2_11 hx hb dX6_flows_160 rfl rfl ?_
          refine k_ald (f := (upd (D_5 0) 15 (((D_5 0) 15) + (((D_5 0) 4) - 9999)))) (j := 4) (v := ((upd (D_5 0) 15 (((D_5 0) 15) + (((D_5 0) 4) - 9999))) 4)) hx hb hK hP 1 0 rfl rfl (show ¬ ((4 : Int32) < 0 ∨ 86 ≤ (4 : Int32).toNatClampNeg) by decide) rfl rfl dX6_flows_161 ?_
          refine lv_iload_n hx hb dX6_flows_162 rfl (lv_at hl 0 rfl) ?_
          refine lv_isub hx hb dX6_flows_163 ?_
          refine k_ast (f := (upd (D_5 0) 15 (((D_5 0) 15) + (((D_5 0) 4) - 9999)))) (j := 4) (ws' := (wM cI q (uA (uA D_5 0 (upd (D_5 0) 15 (((D_5 0) 15) + (((D_5 0) 4) - 9999)))) 0 (upd (upd (D_5 0) 15 (((D_5 0) 15) + (((D_5 0) 4) - 9999))) 4 (((upd (D_5 0) 15 (((D_5 0) 15) + (((D_5 0) 4) - 9999))) 4) - (((D_5 0) 4) - 9999)))))) hx hb hK hP hD hS 1 0 rfl rfl (show ¬ ((4 : Int32) < 0 ∨ 86 ≤ (4 : Int32).toNatClampNeg) by decide) rfl dX6_flows_164 rfl (fun H locs hP hD hS => ?_)
          exact W.vret hx hb hr (fun t ht hW => ⟨⟨(uA (uA D_5 0 (upd (D_5 0) 15 (((D_5 0) 15) + (((D_5 0) 4) - 9999)))) 0 (upd (upd (D_5 0) 15 (((D_5 0) 15) + (((D_5 0) 4) - 9999))) 4 (((upd (D_5 0) 15 (((D_5 0) 15) + (((D_5 0) 4) - 9999))) 4) - (((D_5 0) 4) - 9999)))), rfl, h, by rw [ht]; exact hP, hD⟩, hS.F ht⟩) hS.2.2 dX6_flows_165
      · have h := h.2 c_11
        refine lv_aload_n hx hb dX6_flows_48 rfl (lv_at hl 2 rfl) ?_
        refine lv_iload_n hx hb dX6_flows_49 rfl (lv_at hl 0 rfl) ?_
        refine lv_iload_n hx hb dX6_flows_50 rfl (lv_at hl 1 rfl) ?_
        refine kc_i (As := [.int x2_4, .int r_1]) (rest := []) (wg := (fun _ => (wM cI q D_5))) ⟨hx, hb, hml, hown, hts⟩ (c_X6_rate l G cI cC cD q _ D_5 x2_4 r_1 _ h) (cwV 2 hts gX6_flows_X6_rate rfl rfl rfl (by decide +kernel) ⟨Nat.le_of_ble_eq_true rfl, Nat.le_of_ble_eq_true rfl⟩) hK hN hP hD hS hA (em_MM cI q D_5) (fun _ => rp_self (em_MM cI q D_5)) rfl rfl rfl rfl hl.1 rfl (Nat.le_of_ble_eq_true rfl) dX6_flows_51 ⟨Nat.zero_le _, Nat.zero_le _⟩ (fun r_13 _ H locs h hP hD hS => ?_)
        refine lv_istore_n (lv' := [(3, .int r_13), (2, .int x2_4), (1, .int r_1), (0, .ref (q 0))]) hx hb dX6_flows_54 rfl hl (by decide) rfl (fun ls hl => ?_)
        refine lv_iload_n hx hb dX6_flows_55 rfl (lv_at hl 0 rfl) ?_
        refine lv_aload_n hx hb dX6_flows_56 rfl (lv_at hl 3 rfl) ?_
        refine va_get (D := G) (ci := 6) (v := .ref (q 1)) (C := RX6) (T := TX6) (N := 11) hx hb hts hinX6 hown hK hP 0 rfl rfl 0 (by decide) hL7 (fun _ h9 => h9) rfl dX6_flows_57 ?_
        refine lv_iconst (v := 4) hx hb dX6_flows_60 (by decide) ?_
        refine k_ald (f := (D_5 0)) (j := 4) (v := ((D_5 0) 4)) hx hb hK hP 1 0 rfl rfl (show ¬ ((4 : Int32) < 0 ∨ 86 ≤ (4 : Int32).toNatClampNeg) by decide) rfl rfl dX6_flows_61 ?_
        refine lv_icmp_le (tgt := 74) hx hb dX6_flows_62 (by decide) (fun c_14 => ?_) (fun c_14 => ?_)
        · have h := h.1 c_14
          refine lv_iload_n hx hb dX6_flows_74 rfl (lv_at hl 0 rfl) ?_
          refine lv_istore_n (lv' := [(3, .int r_13), (2, .int x2_4), (1, .int r_1), (0, .ref (q 0))]) hx hb dX6_flows_75 rfl hl (by decide) rfl (fun ls hl => ?_)
          refine lv_aload_n hx hb dX6_flows_76 rfl (lv_at hl 3 rfl) ?_
          refine va_get (D := G) (ci := 6) (v := .ref (q 1)) (C := RX6) (T := TX6) (N := 11) hx hb hts hinX6 hown hK hP 0 rfl rfl 0 (by decide) hL7 (fun _ h9 => h9) rfl dX6_flows_77 ?_
          refine lv_iconst (v := 4) hx hb dX6_flows_80 (by decide) ?_
          refine lv_dup2_11 hx hb dX6_flows_81 rfl rfl ?_
          refine k_ald (f := (D_5 0)) (j := 4) (v := ((D_5 0) 4)) hx hb hK hP 1 0 rfl rfl (show ¬ ((4 : Int32) < 0 ∨ 86 ≤ (4 : Int32).toNatClampNeg) by decide) rfl rfl dX6_flows_82 ?_
          refine lv_iload_n hx hb dX6_flows_83 rfl (lv_at hl 0 rfl) ?_
          refine lv_isub hx hb dX6_flows_84 ?_
          refine k_ast (f := (D_5 0)) (j := 4) (ws' := (wM cI q (uA D_5 0 (upd (D_5 0) 4 (((D_5 0) 4) - r_13))))) hx hb hK hP hD hS 1 0 rfl rfl (show ¬ ((4 : Int32) < 0 ∨ 86 ≤ (4 : Int32).toNatClampNeg) by decide) rfl dX6_flows_85 rfl (fun H locs hP hD hS => ?_)
          refine lv_aload_n hx hb dX6_flows_86 rfl (lv_at hl 3 rfl) ?_
          refine va_get (D := G) (ci := 6) (v := .ref (q 1)) (C := RX6) (T := TX6) (N := 11) hx hb hts hinX6 hown hK hP 0 rfl rfl 0 (by decide) hL7 (fun _ h9 => h9) rfl dX6_flows_87 ?_
          refine lv_bipush (v := 14) hx hb dX6_flows_90 (by decide) ?_
          refine lv_dup2_11 hx hb dX6_flows_92 rfl rfl ?_
          refine k_ald (f := (upd (D_5 0) 4 (((D_5 0) 4) - r_13))) (j := 14) (v := ((upd (D_5 0) 4 (((D_5 0) 4) - r_13)) 14)) hx hb hK hP 1 0 rfl rfl (show ¬ ((14 : Int32) < 0 ∨ 86 ≤ (14 : Int32).toNatClampNeg) by decide) rfl rfl dX6_flows_93 ?_
          refine lv_iload_n hx hb dX6_flows_94 rfl (lv_at hl 0 rfl) ?_
          refine lv_iadd hx hb dX6_flows_95 ?_
          refine k_ast (f := (upd (D_5 0) 4 (((D_5 0) 4) - r_13))) (j := 14) (ws' := (wM cI q (uA (uA D_5 0 (upd (D_5 0) 4 (((D_5 0) 4) - r_13))) 0 (upd (upd (D_5 0) 4 (((D_5 0) 4) - r_13)) 14 (((upd (D_5 0) 4 (((D_5 0) 4) - r_13)) 14) + r_13))))) hx hb hK hP hD hS 1 0 rfl rfl (show ¬ ((14 : Int32) < 0 ∨ 86 ≤ (14 : Int32).toNatClampNeg) by decide) rfl dX6_flows_96 rfl (fun H locs hP hD hS => ?_)
          refine lv_aload_n hx hb dX6_flows_97 rfl (lv_at hl 3 rfl) ?_
          refine lv_iload_n hx hb dX6_flows_98 rfl (lv_at hl 1 rfl) ?_
          refine lv_iconst (v := 3) hx hb dX6_flows_99 (by decide) ?_
          refine lv_aload_n hx hb dX6_flows_100 rfl (lv_at hl 3 rfl) ?_
          refine lv_iload_n hx hb dX6_flows_101 rfl (lv_at hl 1 rfl) ?_
          refine lv_iconst (v := 3) hx hb dX6_flows_102 (by decide) ?_
          refine kc_i (As := [.int x2_4, .int 3]) (rest := [.int 3, .int x2_4, .ref (q 0)]) (wg := (fun _ => (wM cI q (uA (uA D_5 0 (upd (D_5 0) 4 (((D_5 0) 4) - r_13))) 0 (upd (upd (D_5 0) 4 (((D_5 0) 4) - r_13)) 14 (((upd (D_5 0) 4 (((D_5 0) 4) - r_13)) 14) + r_13)))))) ⟨hx, hb, hml, hown, hts⟩ (c_X6_of l G cI cC cD q _ (uA (uA D_5 0 (upd (D_5 0) 4 (((D_5 0) 4) - r_13))) 0 (upd (upd (D_5 0) 4 (((D_5 0) 4) - r_13)) 14 (((upd (D_5 0) 4 (((D_5 0) 4) - r_13)) 14) + r_13))) x2_4 3 _ h) (cwV 2 hts gX6_flows_X6_of rfl rfl rfl (by decide +kernel) ⟨Nat.le_of_ble_eq_true rfl, Nat.le_of_ble_eq_true rfl⟩) hK hN hP hD hS hA (em_MM cI q (uA (uA D_5 0 (upd (D_5 0) 4 (((D_5 0) 4) - r_13))) 0 (upd (upd (D_5 0) 4 (((D_5 0) 4) - r_13)) 14 (((upd (D_5 0) 4 (((D_5 0) 4) - r_13)) 14) + r_13)))) (fun _ => rp_self (em_MM cI q (uA (uA D_5 0 (upd (D_5 0) 4 (((D_5 0) 4) - r_13))) 0 (upd (upd (D_5 0) 4 (((D_5 0) 4) - r_13)) 14 (((upd (D_5 0) 4 (((D_5 0) 4) - r_13)) 14) + r_13))))) rfl rfl rfl rfl hl.1 rfl (Nat.le_of_ble_eq_true rfl) dX6_flows_103 ⟨Nat.zero_le _, Nat.zero_le _⟩ (fun r_15 _ H locs h hP hD hS => ?_)
          refine lv_iload_n hx hb dX6_flows_106 rfl (lv_at hl 0 rfl) ?_
          refine lv_iadd hx hb dX6_flows_107 ?_
          refine kc_v (As := [.int x2_4, .int 3, .int (r_15 + r_13)]) (rest := []) (wg := (fun u => (wM cI q u))) ⟨hx, hb, hml, hown, hts⟩ (c_X6_puts l G cI cC cD q _ (uA (uA D_5 0 (upd (D_5 0) 4 (((D_5 0) 4) - r_13))) 0 (upd (upd (D_5 0) 4 (((D_5 0) 4) - r_13)) 14 (((upd (D_5 0) 4 (((D_5 0) 4) - r_13)) 14) + r_13))) x2_4 3 (r_15 + r_13) _ h) (cwV 3 hts gX6_flows_X6_puts rfl rfl rfl (by decide +kernel) ⟨Nat.le_of_ble_eq_true rfl, Nat.le_of_ble_eq_true rfl⟩) hK hN hP hD hS hA (em_MM cI q (uA (uA D_5 0 (upd (D_5 0) 4 (((D_5 0) 4) - r_13))) 0 (upd (upd (D_5 0) 4 (((D_5 0) 4) - r_13)) 14 (((upd (D_5 0) 4 (((D_5 0) 4) - r_13)) 14) + r_13)))) (fun u => rp_MM cI q (uA (uA D_5 0 (upd (D_5 0) 4 (((D_5 0) 4) - r_13))) 0 (upd (upd (D_5 0) 4 (((D_5 0) 4) - r_13)) 14 (((upd (D_5 0) 4 (((D_5 0) 4) - r_13)) 14) + r_13))) u) rfl rfl rfl rfl hl.1 rfl (Nat.le_of_ble_eq_true rfl) dX6_flows_108 ⟨Nat.zero_le _, Nat.zero_le _⟩ (fun u_16 H locs h hP hD hS => ?_)
          refine lv_iinc (v := x2_4 + 1) (lv' := [(2, .int (x2_4 + 1)), (3, .int r_13), (1, .int r_1), (0, .ref (q 0))]) hx hb dX6_flows_111 hl (k := 1) rfl rfl (by decide) rfl (fun ls hl => ?_)
          refine lv_goto (tgt := 38) hx hb dX6_flows_114 (by decide) ?_
          obtain ⟨n_17, lt_18, h_19⟩ := h
          exact ih_6 n_17 lt_18 _ _ h_19 _ _ _ hP hD hS (lv_sub hl [0, 2, 3] rfl)
        · have h := h.2 c_14
          refine lv_aload_n hx hb dX6_flows_65 rfl (lv_at hl 3 rfl) ?_
          refine va_get (D := G) (ci := 6) (v := .ref (q 1)) (C := RX6) (T := TX6) (N := 11) hx hb hts hinX6 hown hK hP 0 rfl rfl 0 (by decide) hL7 (fun _ h9 => h9) rfl dX6_flows_66 ?_
          refine lv_iconst (v := 4) hx hb dX6_flows_69 (by decide) ?_
          refine k_ald (f := (D_5 0)) (j := 4) (v := ((D_5 0) 4)) hx hb hK hP 1 0 rfl rfl (show ¬ ((4 : Int32) < 0 ∨ 86 ≤ (4 : Int32).toNatClampNeg) by decide) rfl rfl dX6_flows_70 ?_
          refine lv_goto (tgt := 75) hx hb dX6_flows_71 (by decide) ?_
          refine lv_istore_n (lv' := [(3, .int ((D_5 0) 4)), (2, .int x2_4), (1, .int r_1), (0, .ref (q 0))]) hx hb dX6_flows_75 rfl hl (by decide) rfl (fun ls hl => ?_)
          refine lv_aload_n hx hb dX6_flows_76 rfl (lv_at hl 3 rfl) ?_
          refine va_get (D := G) (ci := 6) (v := .ref (q 1)) (C := RX6) (T := TX6) (N := 11) hx hb hts hinX6 hown hK hP 0 rfl rfl 0 (by decide) hL7 (fun _ h9 => h9) rfl dX6_flows_77 ?_
          refine lv_iconst (v := 4) hx hb dX6_flows_80 (by decide) ?_
          refine lv_dup2_11 hx hb dX6_flows_81 rfl rfl ?_
          refine k_ald (f := (D_5 0)) (j := 4) (v := ((D_5 0) 4)) hx hb hK hP 1 0 rfl rfl (show ¬ ((4 : Int32) < 0 ∨ 86 ≤ (4 : Int32).toNatClampNeg) by decide) rfl rfl dX6_flows_82 ?_
          refine lv_iload_n hx hb dX6_flows_83 rfl (lv_at hl 0 rfl) ?_
          refine lv_isub hx hb dX6_flows_84 ?_
          refine k_ast (f := (D_5 0)) (j := 4) (ws' := (wM cI q (uA D_5 0 (upd (D_5 0) 4 (((D_5 0) 4) - ((D_5 0) 4)))))) hx hb hK hP hD hS 1 0 rfl rfl (show ¬ ((4 : Int32) < 0 ∨ 86 ≤ (4 : Int32).toNatClampNeg) by decide) rfl dX6_flows_85 rfl (fun H locs hP hD hS => ?_)
          refine lv_aload_n hx hb dX6_flows_86 rfl (lv_at hl 3 rfl) ?_
          refine va_get (D := G) (ci := 6) (v := .ref (q 1)) (C := RX6) (T := TX6) (N := 11) hx hb hts hinX6 hown hK hP 0 rfl rfl 0 (by decide) hL7 (fun _ h9 => h9) rfl dX6_flows_87 ?_
          refine lv_bipush (v := 14) hx hb dX6_flows_90 (by decide) ?_
          refine lv_dup2_11 hx hb dX6_flows_92 rfl rfl ?_
          refine k_ald (f := (upd (D_5 0) 4 (((D_5 0) 4) - ((D_5 0) 4)))) (j := 14) (v := ((upd (D_5 0) 4 (((D_5 0) 4) - ((D_5 0) 4))) 14)) hx hb hK hP 1 0 rfl rfl (show ¬ ((14 : Int32) < 0 ∨ 86 ≤ (14 : Int32).toNatClampNeg) by decide) rfl rfl dX6_flows_93 ?_
          refine lv_iload_n hx hb dX6_flows_94 rfl (lv_at hl 0 rfl) ?_
          refine lv_iadd hx hb dX6_flows_95 ?_
          refine k_ast (f := (upd (D_5 0) 4 (((D_5 0) 4) - ((D_5 0) 4)))) (j := 14) (ws' := (wM cI q (uA (uA D_5 0 (upd (D_5 0) 4 (((D_5 0) 4) - ((D_5 0) 4)))) 0 (upd (upd (D_5 0) 4 (((D_5 0) 4) - ((D_5 0) 4))) 14 (((upd (D_5 0) 4 (((D_5 0) 4) - ((D_5 0) 4))) 14) + ((D_5 0) 4)))))) hx hb hK hP hD hS 1 0 rfl rfl (show ¬ ((14 : Int32) < 0 ∨ 86 ≤ (14 : Int32).toNatClampNeg) by decide) rfl dX6_flows_96 rfl (fun H locs hP hD hS => ?_)
          refine lv_aload_n hx hb dX6_flows_97 rfl (lv_at hl 3 rfl) ?_
          refine lv_iload_n hx hb dX6_flows_98 rfl (lv_at hl 1 rfl) ?_
          refine lv_iconst (v := 3) hx hb dX6_flows_99 (by decide) ?_
          refine lv_aload_n hx hb dX6_flows_100 rfl (lv_at hl 3 rfl) ?_
          refine lv_iload_n hx hb dX6_flows_101 rfl (lv_at hl 1 rfl) ?_
          refine lv_iconst (v := 3) hx hb dX6_flows_102 (by decide) ?_
          refine kc_i (As := [.int x2_4, .int 3]) (rest := [.int 3, .int x2_4, .ref (q 0)]) (wg := (fun _ => (wM cI q (uA (uA D_5 0 (upd (D_5 0) 4 (((D_5 0) 4) - ((D_5 0) 4)))) 0 (upd (upd (D_5 0) 4 (((D_5 0) 4) - ((D_5 0) 4))) 14 (((upd (D_5 0) 4 (((D_5 0) 4) - ((D_5 0) 4))) 14) + ((D_5 0) 4))))))) ⟨hx, hb, hml, hown, hts⟩ (c_X6_of l G cI cC cD q _ (uA (uA D_5 0 (upd (D_5 0) 4 (((D_5 0) 4) - ((D_5 0) 4)))) 0 (upd (upd (D_5 0) 4 (((D_5 0) 4) - ((D_5 0) 4))) 14 (((upd (D_5 0) 4 (((D_5 0) 4) - ((D_5 0) 4))) 14) + ((D_5 0) 4)))) x2_4 3 _ h) (cwV 2 hts gX6_flows_X6_of rfl rfl rfl (by decide +kernel) ⟨Nat.le_of_ble_eq_true rfl, Nat.le_of_ble_eq_true rfl⟩) hK hN hP hD hS hA (em_MM cI q (uA (uA D_5 0 (upd (D_5 0) 4 (((D_5 0) 4) - ((D_5 0) 4)))) 0 (upd (upd (D_5 0) 4 (((D_5 0) 4) - ((D_5 0) 4))) 14 (((upd (D_5 0) 4 (((D_5 0) 4) - ((D_5 0) 4))) 14) + ((D_5 0) 4))))) (fun _ => rp_self (em_MM cI q (uA (uA D_5 0 (upd (D_5 0) 4 (((D_5 0) 4) - ((D_5 0) 4)))) 0 (upd (upd (D_5 0) 4 (((D_5 0) 4) - ((D_5 0) 4))) 14 (((upd (D_5 0) 4 (((D_5 0) 4) - ((D_5 0) 4))) 14) + ((D_5 0) 4)))))) rfl rfl rfl rfl hl.1 rfl (Nat.le_of_ble_eq_true rfl) dX6_flows_103 ⟨Nat.zero_le _, Nat.zero_le _⟩ (fun r_20 _ H locs h hP hD hS => ?_)
          refine lv_iload_n hx hb dX6_flows_106 rfl (lv_at hl 0 rfl) ?_
          refine lv_iadd hx hb dX6_flows_107 ?_
          refine kc_v (As := [.int x2_4, .int 3, .int (r_20 + ((D_5 0) 4))]) (rest := []) (wg := (fun u => (wM cI q u))) ⟨hx, hb, hml, hown, hts⟩ (c_X6_puts l G cI cC cD q _ (uA (uA D_5 0 (upd (D_5 0) 4 (((D_5 0) 4) - ((D_5 0) 4)))) 0 (upd (upd (D_5 0) 4 (((D_5 0) 4) - ((D_5 0) 4))) 14 (((upd (D_5 0) 4 (((D_5 0) 4) - ((D_5 0) 4))) 14) + ((D_5 0) 4)))) x2_4 3 (r_20 + ((D_5 0) 4)) _ h) (cwV 3 hts gX6_flows_X6_puts rfl rfl rfl (by decide +kernel) ⟨Nat.le_of_ble_eq_true rfl, Nat.le_of_ble_eq_true rfl⟩) hK hN hP hD hS hA (em_MM cI q (uA (uA D_5 0 (upd (D_5 0) 4 (((D_5 0) 4) - ((D_5 0) 4)))) 0 (upd (upd (D_5 0) 4 (((D_5 0) 4) - ((D_5 0) 4))) 14 (((upd (D_5 0) 4 (((D_5 0) 4) - ((D_5 0) 4))) 14) + ((D_5 0) 4))))) (fun u => rp_MM cI q (uA (uA D_5 0 (upd (D_5 0) 4 (((D_5 0) 4) - ((D_5 0) 4)))) 0 (upd (upd (D_5 0) 4 (((D_5 0) 4) - ((D_5 0) 4))) 14 (((upd (D_5 0) 4 (((D_5 0) 4) - ((D_5 0) 4))) 14) + ((D_5 0) 4)))) u) rfl rfl rfl rfl hl.1 rfl (Nat.le_of_ble_eq_true rfl) dX6_flows_108 ⟨Nat.zero_le _, Nat.zero_le _⟩ (fun u_21 H locs h hP hD hS => ?_)
          refine lv_iinc (v := x2_4 + 1) (lv' := [(2, .int (x2_4 + 1)), (3, .int ((D_5 0) 4)), (1, .int r_1), (0, .ref (q 0))]) hx hb dX6_flows_111 hl (k := 1) rfl rfl (by decide) rfl (fun ls hl => ?_)
          refine lv_goto (tgt := 38) hx hb dX6_flows_114 (by decide) ?_
          obtain ⟨n_22, lt_23, h_24⟩ := h
          exact ih_6 n_22 lt_23 _ _ h_24 _ _ _ hP hD hS (lv_sub hl [0, 2, 3] rfl)
  exact lp_10 _ _ _ h_8 _ _ _ hP hD hS hl
def q_X6_passes (M : St) (Q : St → Prop) : Prop :=
  q_X6_floods M (fun u_1 => (0 ≤ ((u_1 0) 7) → ∃ (I_4 : Nat → Int32 → St → Prop) (n_8 : Nat), I_4 n_8 0 u_1 ∧ ∀ (n_3 : Nat) (x1_5 : Int32) (D_6 : St), I_4 n_3 x1_5 D_6 → ((x1_5 = 0 → (((D_6 0) 7) < 0 → q_X6_flows D_6 (fun u_14 => Q (uA u_14 0 (upd (u_14 0) 12 (((u_14 0) 12) + 1))))) ∧ (¬ (((D_6 0) 7) < 0) → q_X6_works D_6 (fun u_15 => q_X6_flows u_15 (fun u_16 => Q (uA u_16 0 (upd (u_16 0) 12 (((u_16 0) 12) + 1))))))) ∧ (¬ (x1_5 = 0) → q_X6_takes D_6 (fun r_17 u_18 => q_X6_looks u_18 (fun u_19 => (r_17 = 0 → ∃ n_21, n_21 < n_3 ∧ I_4 n_21 0 u_19) ∧ (¬ (r_17 = 0) → (0 ≤ ((u_19 0) 7) → ∃ n_25, n_25 < n_3 ∧ I_4 n_25 0 u_19) ∧ (¬ (0 ≤ ((u_19 0) 7)) → ∃ n_28, n_28 < n_3 ∧ I_4 n_28 1 u_19))))))) ∧ (¬ (0 ≤ ((u_1 0) 7)) → ∃ (I_32 : Nat → Int32 → St → Prop) (n_36 : Nat), I_32 n_36 1 u_1 ∧ ∀ (n_31 : Nat) (x1_33 : Int32) (D_34 : St), I_32 n_31 x1_33 D_34 → ((x1_33 = 0 → (((D_34 0) 7) < 0 → q_X6_flows D_34 (fun u_42 => Q (uA u_42 0 (upd (u_42 0) 12 (((u_42 0) 12) + 1))))) ∧ (¬ (((D_34 0) 7) < 0) → q_X6_works D_34 (fun u_43 => q_X6_flows u_43 (fun u_44 => Q (uA u_44 0 (upd (u_44 0) 12 (((u_44 0) 12) + 1))))))) ∧ (¬ (x1_33 = 0) → q_X6_takes D_34 (fun r_45 u_46 => q_X6_looks u_46 (fun u_47 => (r_45 = 0 → ∃ n_49, n_49 < n_31 ∧ I_32 n_49 0 u_47) ∧ (¬ (r_45 = 0) → (0 ≤ ((u_47 0) 7) → ∃ n_53, n_53 < n_31 ∧ I_32 n_53 0 u_47) ∧ (¬ (0 ≤ ((u_47 0) 7)) → ∃ n_56, n_56 < n_31 ∧ I_32 n_56 1 u_47))))))))
set_option maxHeartbeats 4000000 in
set_option maxRecDepth 100000 in
theorem c_X6_passes (l : Launch) (G : va_G) (cI cC cD : ClassId) (q : Nat → Nat) (sz : Nat) (M : St)  (Q : St → Prop) (h : q_X6_passes  M Q) : Met l yX6_passes wsX6_passes ({ frames := 4, cells := 0, slots := 0, locals := 90 }) (va_Pc [.ref (q 0)] (PW G (ty3 cI cC cD) (wM cI q M) sz)) (va_Qv Q (BW G (fun u : St => (wM cI q u)) (va_A (wM cI q M) sz)) (va_A (wM cI q M) sz)) 0 0 (va_A (wM cI q M) sz) := by
  refine Met.ofW (cc := cX6_passes) (maxL := 2) (ret := none) (by decide) rfl ?_
  intro p e s m args below meth c s₁ B hml hv
  obtain ⟨rfl, hsz, hP, hK, hD0, hN⟩ := hv
  have hx := B.exec
  have hb := B.bytes
  have hr := B.returns
  have hts := atoms_spec (ws := wsX6_passes) B.pre
  have hown : s.vm.findClass RX6 = some m.cls := findClass_of_methodNamed B.named
  have hlocks := B.notSynchronized
  subst hsz
  have hD := hD0.self (sz := s.heap.size)
  generalize hAe : va_A (wM cI q M) s.heap.size = A at hD ⊢
  have hA : ∀ q : Nat, s.heap.size ≤ q → A q := fun q h => by rw [← hAe]; exact Or.inr h
  have hS : va_S A s.heap s.heap [] := va_S.rf
  have hl := lv_entry ([.ref (q 0)]) (n := 2) (Nat.le_of_ble_eq_true rfl)
  rw [lg_entry_eq]
  generalize (lg_sl ([.ref (q 0)]) ++ List.replicate (2 - (lg_sl ([.ref (q 0)])).length) Slot.unset).toArray = ls at hl ⊢
  have hl : lv_has ls 2 [(0, .ref (q 0))] := hl
  have hinX6 : ∀ w ∈ wsX60, w ∈ wsX6_passes := by decide +kernel
  have hL7 := hts (.fieldLink RX6 7 "CraneGatesModel" "s" "[I") (by decide +kernel)
  unfold q_X6_passes at h
  refine lv_aload_n hx hb dX6_passes_0 rfl (lv_at hl 0 rfl) ?_
  refine kc_v (As := []) (rest := []) (wg := (fun u => (wM cI q u))) ⟨hx, hb, hml, hown, hts⟩ (c_X6_floods l G cI cC cD q _ M  _ h) (cwV 0 hts gX6_passes_X6_floods rfl rfl rfl (by decide +kernel) ⟨Nat.le_of_ble_eq_true rfl, Nat.le_of_ble_eq_true rfl⟩) hK hN hP hD hS hA (em_MM cI q M) (fun u => rp_MM cI q M u) rfl rfl rfl rfl hl.1 rfl (Nat.le_of_ble_eq_true rfl) dX6_passes_1 ⟨Nat.zero_le _, Nat.zero_le _⟩ (fun u_1 H locs h hP hD hS => ?_)
  refine lv_aload_n hx hb dX6_passes_4 rfl (lv_at hl 0 rfl) ?_
  refine va_get (D := G) (ci := 6) (v := .ref (q 1)) (C := RX6) (T := TX6) (N := 11) hx hb hts hinX6 hown hK hP 0 rfl rfl 0 (by decide) hL7 (fun _ h9 => h9) rfl dX6_passes_5 ?_
  refine lv_bipush (v := 7) hx hb dX6_passes_8 (by decide) ?_
  refine k_ald (f := (u_1 0)) (j := 7) (v := ((u_1 0) 7)) hx hb hK hP 1 0 rfl rfl (show ¬ ((7 : Int32) < 0 ∨ 86 ≤ (7 : Int32).toNatClampNeg) by decide) rfl rfl dX6_passes_10 ?_
  refine lv_if_ge (tgt := 18) hx hb dX6_passes_11 (by decide) (fun c_2 => ?_) (fun c_2 => ?_)
  · have h := h.1 c_2
    refine lv_iconst (v := 0) hx hb dX6_passes_18 (by decide) ?_
    refine lv_istore_n (lv' := [(1, .int 0), (0, .ref (q 0))]) hx hb dX6_passes_19 rfl hl (by decide) rfl (fun ls hl => ?_)
    obtain ⟨I_4, n_8, h_9, hI_10⟩ := h
    have lp_11 : ∀ (n_3 : Nat) (x1_5 : Int32) (D_6 : St), I_4 n_3 x1_5 D_6 → ∀ (H : Heap) (locs : List Loc) (ls : Array Slot), va_P G vwCl (wM cI q D_6) H → va_D A (wM cI q D_6) → va_S A s.heap H locs → lv_has ls 2 [(1, .int x1_5), (0, .ref (q 0))] → W p l e (headSpec wsX6_passes ({ frames := 4, cells := 0, slots := 0, locals := 90 })).room s m ([.ref (q 0)] : List Value).toArray below meth c H locs 0 0 (MQ below (va_Qv Q (BW G (fun u : St => (wM cI q u)) A) A) ([.ref (q 0)] : List Value).toArray s 0 0 A) (F0 m 20 ls []) := by
      intro n_3
      induction n_3 using Nat.strongRecOn with
      | ind n_3 ih_7 =>
        intro x1_5 D_6 hIn H locs ls hP hD hS hl
        have h := hI_10 n_3 x1_5 D_6 hIn
        refine lv_iload_n hx hb dX6_passes_20 rfl (lv_at hl 0 rfl) ?_
        refine lv_if_eq (tgt := 56) hx hb dX6_passes_21 (by decide) (fun c_12 => ?_) (fun c_12 => ?_)
        · have h := h.1 c_12
          refine lv_aload_n hx hb dX6_passes_56 rfl (lv_at hl 1 rfl) ?_
          refine va_get (D := G) (ci := 6) (v := .ref (q 1)) (C := RX6) (T := TX6) (N := 11) hx hb hts hinX6 hown hK hP 0 rfl rfl 0 (by decide) hL7 (fun _ h9 => h9) rfl dX6_passes_57 ?_
          refine lv_bipush (v := 7) hx hb dX6_passes_60 (by decide) ?_
          refine k_ald (f := (D_6 0)) (j := 7) (v := ((D_6 0) 7)) hx hb hK hP 1 0 rfl rfl (show ¬ ((7 : Int32) < 0 ∨ 86 ≤ (7 : Int32).toNatClampNeg) by decide) rfl rfl dX6_passes_62 ?_
          refine lv_if_lt (tgt := 70) hx hb dX6_passes_63 (by decide) (fun c_13 => ?_) (fun c_13 => ?_)
          · have h := h.1 c_13
            refine lv_aload_n hx hb dX6_passes_70 rfl (lv_at hl 1 rfl) ?_
            refine kc_v (As := []) (rest := []) (wg := (fun u => (wM cI q u))) ⟨hx, hb, hml, hown, hts⟩ (c_X6_flows l G cI cC cD q _ D_6  _ h) (cwV 0 hts gX6_passes_X6_flows rfl rfl rfl (by decide +kernel) ⟨Nat.le_of_ble_eq_true rfl, Nat.le_of_ble_eq_true rfl⟩) hK hN hP hD hS hA (em_MM cI q D_6) (fun u => rp_MM cI q D_6 u) rfl rfl rfl rfl hl.1 rfl (Nat.le_of_ble_eq_true rfl) dX6_passes_71 ⟨Nat.zero_le _, Nat.zero_le _⟩ (fun u_14 H locs h hP hD hS => ?_)
            refine lv_aload_n hx hb dX6_passes_74 rfl (lv_at hl 1 rfl) ?_
            refine va_get (D := G) (ci := 6) (v := .ref (q 1)) (C := RX6) (T := TX6) (N := 11) hx hb hts hinX6 hown hK hP 0 rfl rfl 0 (by decide) hL7 (fun _ h9 => h9) rfl dX6_passes_75 ?_
            refine lv_bipush (v := 12) hx hb dX6_passes_78 (by decide) ?_
            refine lv_dup2_11 hx hb dX6_passes_80 rfl rfl ?_
            refine k_ald (f := (u_14 0)) (j := 12) (v := ((u_14 0) 12)) hx hb hK hP 1 0 rfl rfl (show ¬ ((12 : Int32) < 0 ∨ 86 ≤ (12 : Int32).toNatClampNeg) by decide) rfl rfl dX6_passes_81 ?_
            refine lv_iconst (v := 1) hx hb dX6_passes_82 (by decide) ?_
            refine lv_iadd hx hb dX6_passes_83 ?_
            refine k_ast (f := (u_14 0)) (j := 12) (ws' := (wM cI q (uA u_14 0 (upd (u_14 0) 12 (((u_14 0) 12) + 1))))) hx hb hK hP hD hS 1 0 rfl rfl (show ¬ ((12 : Int32) < 0 ∨ 86 ≤ (12 : Int32).toNatClampNeg) by decide) rfl dX6_passes_84 rfl (fun H locs hP hD hS => ?_)
            exact W.vret hx hb hr (fun t ht hW => ⟨⟨(uA u_14 0 (upd (u_14 0) 12 (((u_14 0) 12) + 1))), rfl, h, by rw [ht]; exact hP, hD⟩, hS.F ht⟩) hS.2.2 dX6_passes_85
          · have h := h.2 c_13
            refine lv_aload_n hx hb dX6_passes_66 rfl (lv_at hl 1 rfl) ?_
            refine kc_v (As := []) (rest := []) (wg := (fun u => (wM cI q u))) ⟨hx, hb, hml, hown, hts⟩ (c_X6_works l G cI cC cD q _ D_6  _ h) (cwV 0 hts gX6_passes_X6_works rfl rfl rfl (by decide +kernel) ⟨Nat.le_of_ble_eq_true rfl, Nat.le_of_ble_eq_true rfl⟩) hK hN hP hD hS hA (em_MM cI q D_6) (fun u => rp_MM cI q D_6 u) rfl rfl rfl rfl hl.1 rfl (Nat.le_of_ble_eq_true rfl) dX6_passes_67 ⟨Nat.zero_le _, Nat.zero_le _⟩ (fun u_15 H locs h hP hD hS => ?_)
            refine lv_aload_n hx hb dX6_passes_70 rfl (lv_at hl 1 rfl) ?_
            refine kc_v (As := []) (rest := []) (wg := (fun u => (wM cI q u))) ⟨hx, hb, hml, hown, hts⟩ (c_X6_flows l G cI cC cD q _ u_15  _ h) (cwV 0 hts gX6_passes_X6_flows rfl rfl rfl (by decide +kernel) ⟨Nat.le_of_ble_eq_true rfl, Nat.le_of_ble_eq_true rfl⟩) hK hN hP hD hS hA (em_MM cI q u_15) (fun u => rp_MM cI q u_15 u) rfl rfl rfl rfl hl.1 rfl (Nat.le_of_ble_eq_true rfl) dX6_passes_71 ⟨Nat.zero_le _, Nat.zero_le _⟩ (fun u_16 H locs h hP hD hS => ?_)
            refine lv_aload_n hx hb dX6_passes_74 rfl (lv_at hl 1 rfl) ?_
            refine va_get (D := G) (ci := 6) (v := .ref (q 1)) (C := RX6) (T := TX6) (N := 11) hx hb hts hinX6 hown hK hP 0 rfl rfl 0 (by decide) hL7 (fun _ h9 => h9) rfl dX6_passes_75 ?_
            refine lv_bipush (v := 12) hx hb dX6_passes_78 (by decide) ?_
            refine lv_dup2_11 hx hb dX6_passes_80 rfl rfl ?_
            refine k_ald (f := (u_16 0)) (j := 12) (v := ((u_16 0) 12)) hx hb hK hP 1 0 rfl rfl (show ¬ ((12 : Int32) < 0 ∨ 86 ≤ (12 : Int32).toNatClampNeg) by decide) rfl rfl dX6_passes_81 ?_
            refine lv_iconst (v := 1) hx hb dX6_passes_82 (by decide) ?_
            refine lv_iadd hx hb dX6_passes_83 ?_
            refine k_ast (f := (u_16 0)) (j := 12) (ws' := (wM cI q (uA u_16 0 (upd (u_16 0) 12 (((u_16 0) 12) + 1))))) hx hb hK hP hD hS 1 0 rfl rfl (show ¬ ((12 : Int32) < 0 ∨ 86 ≤ (12 : Int32).toNatClampNeg) by decide) rfl dX6_passes_84 rfl (fun H locs hP hD hS => ?_)
            exact W.vret hx hb hr (fun t ht hW => ⟨⟨(uA u_16 0 (upd (u_16 0) 12 (((u_16 0) 12) + 1))), rfl, h, by rw [ht]; exact hP, hD⟩, hS.F ht⟩) hS.2.2 dX6_passes_85
        · have h := h.2 c_12
          refine lv_aload_n hx hb dX6_passes_24 rfl (lv_at hl 1 rfl) ?_
          refine kc_i (As := []) (rest := []) (wg := (fun u => (wM cI q u))) ⟨hx, hb, hml, hown, hts⟩ (c_X6_takes l G cI cC cD q _ D_6  _ h) (cwV 0 hts gX6_passes_X6_takes rfl rfl rfl (by decide +kernel) ⟨Nat.le_of_ble_eq_true rfl, Nat.le_of_ble_eq_true rfl⟩) hK hN hP hD hS hA (em_MM cI q D_6) (fun u => rp_MM cI q D_6 u) rfl rfl rfl rfl hl.1 rfl (Nat.le_of_ble_eq_true rfl) dX6_passes_25 ⟨Nat.zero_le _, Nat.zero_le _⟩ (fun r_17 u_18 H locs h hP hD hS => ?_)
          refine lv_istore_n (lv' := [(1, .int r_17), (0, .ref (q 0))]) hx hb dX6_passes_28 rfl hl (by decide) rfl (fun ls hl => ?_)
          refine lv_aload_n hx hb dX6_passes_29 rfl (lv_at hl 1 rfl) ?_
          refine kc_v (As := []) (rest := []) (wg := (fun u => (wM cI q u))) ⟨hx, hb, hml, hown, hts⟩ (c_X6_looks l G cI cC cD q _ u_18  _ h) (cwV 0 hts gX6_passes_X6_looks rfl rfl rfl (by decide +kernel) ⟨Nat.le_of_ble_eq_true rfl, Nat.le_of_ble_eq_true rfl⟩) hK hN hP hD hS hA (em_MM cI q u_18) (fun u => rp_MM cI q u_18 u) rfl rfl rfl rfl hl.1 rfl (Nat.le_of_ble_eq_true rfl) dX6_passes_30 ⟨Nat.zero_le _, Nat.zero_le _⟩ (fun u_19 H locs h hP hD hS => ?_)
          refine lv_iload_n hx hb dX6_passes_33 rfl (lv_at hl 0 rfl) ?_
          refine lv_if_eq (tgt := 51) hx hb dX6_passes_34 (by decide) (fun c_20 => ?_) (fun c_20 => ?_)
          · have h := h.1 c_20
            refine lv_iconst (v := 0) hx hb dX6_passes_51 (by decide) ?_
            refine lv_istore_n (lv' := [(1, .int 0), (0, .ref (q 0))]) hx hb dX6_passes_52 rfl hl (by decide) rfl (fun ls hl => ?_)
            refine lv_goto (tgt := 20) hx hb dX6_passes_53 (by decide) ?_
            obtain ⟨n_21, lt_22, h_23⟩ := h
            exact ih_7 n_21 lt_22 _ _ h_23 _ _ _ hP hD hS (lv_sub hl [0, 1] rfl)
          · have h := h.2 c_20
            refine lv_aload_n hx hb dX6_passes_37 rfl (lv_at hl 1 rfl) ?_
            refine va_get (D := G) (ci := 6) (v := .ref (q 1)) (C := RX6) (T := TX6) (N := 11) hx hb hts hinX6 hown hK hP 0 rfl rfl 0 (by decide) hL7 (fun _ h9 => h9) rfl dX6_passes_38 ?_
            refine lv_bipush (v := 7) hx hb dX6_passes_41 (by decide) ?_
            refine k_ald (f := (u_19 0)) (j := 7) (v := ((u_19 0) 7)) hx hb hK hP 1 0 rfl rfl (show ¬ ((7 : Int32) < 0 ∨ 86 ≤ (7 : Int32).toNatClampNeg) by decide) rfl rfl dX6_passes_43 ?_
            refine lv_if_ge (tgt := 51) hx hb dX6_passes_44 (by decide) (fun c_24 => ?_) (fun c_24 => ?_)
            · have h := h.1 c_24
              refine lv_iconst (v := 0) hx hb dX6_passes_51 (by decide) ?_
              refine lv_istore_n (lv' := [(1, .int 0), (0, .ref (q 0))]) hx hb dX6_passes_52 rfl hl (by decide) rfl (fun ls hl => ?_)
              refine lv_goto (tgt := 20) hx hb dX6_passes_53 (by decide) ?_
              obtain ⟨n_25, lt_26, h_27⟩ := h
              exact ih_7 n_25 lt_26 _ _ h_27 _ _ _ hP hD hS (lv_sub hl [0, 1] rfl)
            · have h := h.2 c_24
              refine lv_iconst (v := 1) hx hb dX6_passes_47 (by decide) ?_
              refine lv_goto (tgt := 52) hx hb dX6_passes_48 (by decide) ?_
              refine lv_istore_n (lv' := [(1, .int 1), (0, .ref (q 0))]) hx hb dX6_passes_52 rfl hl (by decide) rfl (fun ls hl => ?_)
              refine lv_goto (tgt := 20) hx hb dX6_passes_53 (by decide) ?_
              obtain ⟨n_28, lt_29, h_30⟩ := h
              exact ih_7 n_28 lt_29 _ _ h_30 _ _ _ hP hD hS (lv_sub hl [0, 1] rfl)
    exact lp_11 _ _ _ h_9 _ _ _ hP hD hS hl
  · have h := h.2 c_2
    refine lv_iconst (v := 1) hx hb dX6_passes_14 (by decide) ?_
    refine lv_goto (tgt := 19) hx hb dX6_passes_15 (by decide) ?_
    refine lv_istore_n (lv' := [(1, .int 1), (0, .ref (q 0))]) hx hb dX6_passes_19 rfl hl (by decide) rfl (fun ls hl => ?_)
    obtain ⟨I_32, n_36, h_37, hI_38⟩ := h
    have lp_39 : ∀ (n_31 : Nat) (x1_33 : Int32) (D_34 : St), I_32 n_31 x1_33 D_34 → ∀ (H : Heap) (locs : List Loc) (ls : Array Slot), va_P G vwCl (wM cI q D_34) H → va_D A (wM cI q D_34) → va_S A s.heap H locs → lv_has ls 2 [(1, .int x1_33), (0, .ref (q 0))] → W p l e (headSpec wsX6_passes ({ frames := 4, cells := 0, slots := 0, locals := 90 })).room s m ([.ref (q 0)] : List Value).toArray below meth c H locs 0 0 (MQ below (va_Qv Q (BW G (fun u : St => (wM cI q u)) A) A) ([.ref (q 0)] : List Value).toArray s 0 0 A) (F0 m 20 ls []) := by
      intro n_31
      induction n_31 using Nat.strongRecOn with
      | ind n_31 ih_35 =>
        intro x1_33 D_34 hIn H locs ls hP hD hS hl
        have h := hI_38 n_31 x1_33 D_34 hIn
        refine lv_iload_n hx hb dX6_passes_20 rfl (lv_at hl 0 rfl) ?_
        refine lv_if_eq (tgt := 56) hx hb dX6_passes_21 (by decide) (fun c_40 => ?_) (fun c_40 => ?_)
        · have h := h.1 c_40
          refine lv_aload_n hx hb dX6_passes_56 rfl (lv_at hl 1 rfl) ?_
          refine va_get (D := G) (ci := 6) (v := .ref (q 1)) (C := RX6) (T := TX6) (N := 11) hx hb hts hinX6 hown hK hP 0 rfl rfl 0 (by decide) hL7 (fun _ h9 => h9) rfl dX6_passes_57 ?_
          refine lv_bipush (v := 7) hx hb dX6_passes_60 (by decide) ?_
          refine k_ald (f := (D_34 0)) (j := 7) (v := ((D_34 0) 7)) hx hb hK hP 1 0 rfl rfl (show ¬ ((7 : Int32) < 0 ∨ 86 ≤ (7 : Int32).toNatClampNeg) by decide) rfl rfl dX6_passes_62 ?_
          refine lv_if_lt (tgt := 70) hx hb dX6_passes_63 (by decide) (fun c_41 => ?_) (fun c_41 => ?_)
          · have h := h.1 c_41
            refine lv_aload_n hx hb dX6_passes_70 rfl (lv_at hl 1 rfl) ?_
            refine kc_v (As := []) (rest := []) (wg := (fun u => (wM cI q u))) ⟨hx, hb, hml, hown, hts⟩ (c_X6_flows l G cI cC cD q _ D_34  _ h) (cwV 0 hts gX6_passes_X6_flows rfl rfl rfl (by decide +kernel) ⟨Nat.le_of_ble_eq_true rfl, Nat.le_of_ble_eq_true rfl⟩) hK hN hP hD hS hA (em_MM cI q D_34) (fun u => rp_MM cI q D_34 u) rfl rfl rfl rfl hl.1 rfl (Nat.le_of_ble_eq_true rfl) dX6_passes_71 ⟨Nat.zero_le _, Nat.zero_le _⟩ (fun u_42 H locs h hP hD hS => ?_)
            refine lv_aload_n hx hb dX6_passes_74 rfl (lv_at hl 1 rfl) ?_
            refine va_get (D := G) (ci := 6) (v := .ref (q 1)) (C := RX6) (T := TX6) (N := 11) hx hb hts hinX6 hown hK hP 0 rfl rfl 0 (by decide) hL7 (fun _ h9 => h9) rfl dX6_passes_75 ?_
            refine lv_bipush (v := 12) hx hb dX6_passes_78 (by decide) ?_
            refine lv_dup2_11 hx hb dX6_passes_80 rfl rfl ?_
            refine k_ald (f := (u_42 0)) (j := 12) (v := ((u_42 0) 12)) hx hb hK hP 1 0 rfl rfl (show ¬ ((12 : Int32) < 0 ∨ 86 ≤ (12 : Int32).toNatClampNeg) by decide) rfl rfl dX6_passes_81 ?_
            refine lv_iconst (v := 1) hx hb dX6_passes_82 (by decide) ?_
            refine lv_iadd hx hb dX6_passes_83 ?_
            refine k_ast (f := (u_42 0)) (j := 12) (ws' := (wM cI q (uA u_42 0 (upd (u_42 0) 12 (((u_42 0) 12) + 1))))) hx hb hK hP hD hS 1 0 rfl rfl (show ¬ ((12 : Int32) < 0 ∨ 86 ≤ (12 : Int32).toNatClampNeg) by decide) rfl dX6_passes_84 rfl (fun H locs hP hD hS => ?_)
            exact W.vret hx hb hr (fun t ht hW => ⟨⟨(uA u_42 0 (upd (u_42 0) 12 (((u_42 0) 12) + 1))), rfl, h, by rw [ht]; exact hP, hD⟩, hS.F ht⟩) hS.2.2 dX6_passes_85
          · have h := h.2 c_41
            refine lv_aload_n hx hb dX6_passes_66 rfl (lv_at hl 1 rfl) ?_
            refine kc_v (As := []) (rest := []) (wg := (fun u => (wM cI q u))) ⟨hx, hb, hml, hown, hts⟩ (c_X6_works l G cI cC cD q _ D_34  _ h) (cwV 0 hts gX6_passes_X6_works rfl rfl rfl (by decide +kernel) ⟨Nat.le_of_ble_eq_true rfl, Nat.le_of_ble_eq_true rfl⟩) hK hN hP hD hS hA (em_MM cI q D_34) (fun u => rp_MM cI q D_34 u) rfl rfl rfl rfl hl.1 rfl (Nat.le_of_ble_eq_true rfl) dX6_passes_67 ⟨Nat.zero_le _, Nat.zero_le _⟩ (fun u_43 H locs h hP hD hS => ?_)
            refine lv_aload_n hx hb dX6_passes_70 rfl (lv_at hl 1 rfl) ?_
            refine kc_v (As := []) (rest := []) (wg := (fun u => (wM cI q u))) ⟨hx, hb, hml, hown, hts⟩ (c_X6_flows l G cI cC cD q _ u_43  _ h) (cwV 0 hts gX6_passes_X6_flows rfl rfl rfl (by decide +kernel) ⟨Nat.le_of_ble_eq_true rfl, Nat.le_of_ble_eq_true rfl⟩) hK hN hP hD hS hA (em_MM cI q u_43) (fun u => rp_MM cI q u_43 u) rfl rfl rfl rfl hl.1 rfl (Nat.le_of_ble_eq_true rfl) dX6_passes_71 ⟨Nat.zero_le _, Nat.zero_le _⟩ (fun u_44 H locs h hP hD hS => ?_)
            refine lv_aload_n hx hb dX6_passes_74 rfl (lv_at hl 1 rfl) ?_
            refine va_get (D := G) (ci := 6) (v := .ref (q 1)) (C := RX6) (T := TX6) (N := 11) hx hb hts hinX6 hown hK hP 0 rfl rfl 0 (by decide) hL7 (fun _ h9 => h9) rfl dX6_passes_75 ?_
            refine lv_bipush (v := 12) hx hb dX6_passes_78 (by decide) ?_
            refine lv_dup2_11 hx hb dX6_passes_80 rfl rfl ?_
            refine k_ald (f := (u_44 0)) (j := 12) (v := ((u_44 0) 12)) hx hb hK hP 1 0 rfl rfl (show ¬ ((12 : Int32) < 0 ∨ 86 ≤ (12 : Int32).toNatClampNeg) by decide) rfl rfl dX6_passes_81 ?_
            refine lv_iconst (v := 1) hx hb dX6_passes_82 (by decide) ?_
            refine lv_iadd hx hb dX6_passes_83 ?_
            refine k_ast (f := (u_44 0)) (j := 12) (ws' := (wM cI q (uA u_44 0 (upd (u_44 0) 12 (((u_44 0) 12) + 1))))) hx hb hK hP hD hS 1 0 rfl rfl (show ¬ ((12 : Int32) < 0 ∨ 86 ≤ (12 : Int32).toNatClampNeg) by decide) rfl dX6_passes_84 rfl (fun H locs hP hD hS => ?_)
            exact W.vret hx hb hr (fun t ht hW => ⟨⟨(uA u_44 0 (upd (u_44 0) 12 (((u_44 0) 12) + 1))), rfl, h, by rw [ht]; exact hP, hD⟩, hS.F ht⟩) hS.2.2 dX6_passes_85
        · have h := h.2 c_40
          refine lv_aload_n hx hb dX6_passes_24 rfl (lv_at hl 1 rfl) ?_
          refine kc_i (As := []) (rest := []) (wg := (fun u => (wM cI q u))) ⟨hx, hb, hml, hown, hts⟩ (c_X6_takes l G cI cC cD q _ D_34  _ h) (cwV 0 hts gX6_passes_X6_takes rfl rfl rfl (by decide +kernel) ⟨Nat.le_of_ble_eq_true rfl, Nat.le_of_ble_eq_true rfl⟩) hK hN hP hD hS hA (em_MM cI q D_34) (fun u => rp_MM cI q D_34 u) rfl rfl rfl rfl hl.1 rfl (Nat.le_of_ble_eq_true rfl) dX6_passes_25 ⟨Nat.zero_le _, Nat.zero_le _⟩ (fun r_45 u_46 H locs h hP hD hS => ?_)
          refine lv_istore_n (lv' := [(1, .int r_45), (0, .ref (q 0))]) hx hb dX6_passes_28 rfl hl (by decide) rfl (fun ls hl => ?_)
          refine lv_aload_n hx hb dX6_passes_29 rfl (lv_at hl 1 rfl) ?_
          refine kc_v (As := []) (rest := []) (wg := (fun u => (wM cI q u))) ⟨hx, hb, hml, hown, hts⟩ (c_X6_looks l G cI cC cD q _ u_46  _ h) (cwV 0 hts gX6_passes_X6_looks rfl rfl rfl (by decide +kernel) ⟨Nat.le_of_ble_eq_true rfl, Nat.le_of_ble_eq_true rfl⟩) hK hN hP hD hS hA (em_MM cI q u_46) (fun u => rp_MM cI q u_46 u) rfl rfl rfl rfl hl.1 rfl (Nat.le_of_ble_eq_true rfl) dX6_passes_30 ⟨Nat.zero_le _, Nat.zero_le _⟩ (fun u_47 H locs h hP hD hS => ?_)
          refine lv_iload_n hx hb dX6_passes_33 rfl (lv_at hl 0 rfl) ?_
          refine lv_if_eq (tgt := 51) hx hb dX6_passes_34 (by decide) (fun c_48 => ?_) (fun c_48 => ?_)
          · have h := h.1 c_48
            refine lv_iconst (v := 0) hx hb dX6_passes_51 (by decide) ?_
            refine lv_istore_n (lv' := [(1, .int 0), (0, .ref (q 0))]) hx hb dX6_passes_52 rfl hl (by decide) rfl (fun ls hl => ?_)
            refine lv_goto (tgt := 20) hx hb dX6_passes_53 (by decide) ?_
            obtain ⟨n_49, lt_50, h_51⟩ := h
            exact ih_35 n_49 lt_50 _ _ h_51 _ _ _ hP hD hS (lv_sub hl [0, 1] rfl)
          · have h := h.2 c_48
            refine lv_aload_n hx hb dX6_passes_37 rfl (lv_at hl 1 rfl) ?_
            refine va_get (D := G) (ci := 6) (v := .ref (q 1)) (C := RX6) (T := TX6) (N := 11) hx hb hts hinX6 hown hK hP 0 rfl rfl 0 (by decide) hL7 (fun _ h9 => h9) rfl dX6_passes_38 ?_
            refine lv_bipush (v := 7) hx hb dX6_passes_41 (by decide) ?_
            refine k_ald (f := (u_47 0)) (j := 7) (v := ((u_47 0) 7)) hx hb hK hP 1 0 rfl rfl (show ¬ ((7 : Int32) < 0 ∨ 86 ≤ (7 : Int32).toNatClampNeg) by decide) rfl rfl dX6_passes_43 ?_
            refine lv_if_ge (tgt := 51) hx hb dX6_passes_44 (by decide) (fun c_52 => ?_) (fun c_52 => ?_)
            · have h := h.1 c_52
              refine lv_iconst (v := 0) hx hb dX6_passes_51 (by decide) ?_
              refine lv_istore_n (lv' := [(1, .int 0), (0, .ref (q 0))]) hx hb dX6_passes_52 rfl hl (by decide) rfl (fun ls hl => ?_)
              refine lv_goto (tgt := 20) hx hb dX6_passes_53 (by decide) ?_
              obtain ⟨n_53, lt_54, h_55⟩ := h
              exact ih_35 n_53 lt_54 _ _ h_55 _ _ _ hP hD hS (lv_sub hl [0, 1] rfl)
            · have h := h.2 c_52
              refine lv_iconst (v := 1) hx hb dX6_passes_47 (by decide) ?_
              refine lv_goto (tgt := 52) hx hb dX6_passes_48 (by decide) ?_
              refine lv_istore_n (lv' := [(1, .int 1), (0, .ref (q 0))]) hx hb dX6_passes_52 rfl hl (by decide) rfl (fun ls hl => ?_)
              refine lv_goto (tgt := 20) hx hb dX6_passes_53 (by decide) ?_
              obtain ⟨n_56, lt_57, h_58⟩ := h
              exact ih_35 n_56 lt_57 _ _ h_58 _ _ _ hP hD hS (lv_sub hl [0, 1] rfl)
    exact lp_39 _ _ _ h_37 _ _ _ hP hD hS hl
