def q_X6_does (M : St) (Q : Int32 → St → Prop) : Prop :=
  vp_in (M 8 0) 60 ∧ ((((M 6) (((M 8 0)).toNatClampNeg)) = 111 → ∃ (I_4 : Nat → Int32 → Int32 → St → Prop) (n_9 : Nat), I_4 n_9 0 1 (uA M 8 (fun _ => ((M 8 0) + 1))) ∧ ∀ (n_3 : Nat) (x4_5 : Int32) (x3_6 : Int32) (D_7 : St), I_4 n_3 x4_5 x3_6 D_7 → ((2 ≤ x4_5 → (x3_6 = 0 → Q 1 D_7) ∧ (¬ (x3_6 = 0) → q_X6_order ((D_7 10) 0) ((D_7 10) 1) D_7 (fun r_15 u_16 => q_X6_asReason r_15 (fun r_17 => Q r_17 u_16)))) ∧ (¬ (2 ≤ x4_5) → (x3_6 = 0 → Q 1 D_7) ∧ (¬ (x3_6 = 0) → (x4_5 = (2 - 1) → q_X6_number x4_5 59 D_7 (fun r_25 u_26 => ∃ n_27, n_27 < n_3 ∧ I_4 n_27 (x4_5 + 1) r_25 u_26)) ∧ (¬ (x4_5 = (2 - 1)) → q_X6_number x4_5 44 D_7 (fun r_20 u_21 => ∃ n_22, n_22 < n_3 ∧ I_4 n_22 (x4_5 + 1) r_20 u_21)))))) ∧ (¬ (((M 6) (((M 8 0)).toNatClampNeg)) = 111) → (((M 6) (((M 8 0)).toNatClampNeg)) = 119 → ∃ (I_143 : Nat → Int32 → Int32 → St → Prop) (n_148 : Nat), I_143 n_148 0 1 (uA M 8 (fun _ => ((M 8 0) + 1))) ∧ ∀ (n_142 : Nat) (x4_144 : Int32) (x3_145 : Int32) (D_146 : St), I_143 n_142 x4_144 x3_145 D_146 → ((2 ≤ x4_144 → (x3_145 = 0 → Q 1 D_146) ∧ (¬ (x3_145 = 0) → q_X6_gate ((D_146 10) 0) ((D_146 10) 1) D_146 (fun r_154 u_155 => q_X6_asReason r_154 (fun r_156 => Q r_156 u_155)))) ∧ (¬ (2 ≤ x4_144) → (x3_145 = 0 → Q 1 D_146) ∧ (¬ (x3_145 = 0) → (x4_144 = (2 - 1) → q_X6_number x4_144 59 D_146 (fun r_164 u_165 => ∃ n_166, n_166 < n_142 ∧ I_143 n_166 (x4_144 + 1) r_164 u_165)) ∧ (¬ (x4_144 = (2 - 1)) → q_X6_number x4_144 44 D_146 (fun r_159 u_160 => ∃ n_161, n_161 < n_142 ∧ I_143 n_161 (x4_144 + 1) r_159 u_160)))))) ∧ (¬ (((M 6) (((M 8 0)).toNatClampNeg)) = 119) → (((M 6) (((M 8 0)).toNatClampNeg)) = 105 → ∃ (I_33 : Nat → Int32 → Int32 → St → Prop) (n_38 : Nat), I_33 n_38 0 1 (uA M 8 (fun _ => ((M 8 0) + 1))) ∧ ∀ (n_32 : Nat) (x4_34 : Int32) (x3_35 : Int32) (D_36 : St), I_33 n_32 x4_34 x3_35 D_36 → ((1 ≤ x4_34 → (x3_35 = 0 → Q 1 D_36) ∧ (¬ (x3_35 = 0) → q_X6_inflow ((D_36 10) 0) D_36 (fun r_44 u_45 => q_X6_asReason r_44 (fun r_46 => Q r_46 u_45)))) ∧ (¬ (1 ≤ x4_34) → (x3_35 = 0 → Q 1 D_36) ∧ (¬ (x3_35 = 0) → (x4_34 = (1 - 1) → q_X6_number x4_34 59 D_36 (fun r_54 u_55 => ∃ n_56, n_56 < n_32 ∧ I_33 n_56 (x4_34 + 1) r_54 u_55)) ∧ (¬ (x4_34 = (1 - 1)) → q_X6_number x4_34 44 D_36 (fun r_49 u_50 => ∃ n_51, n_51 < n_32 ∧ I_33 n_51 (x4_34 + 1) r_49 u_50)))))) ∧ (¬ (((M 6) (((M 8 0)).toNatClampNeg)) = 105) → (((M 6) (((M 8 0)).toNatClampNeg)) = 112 → ∃ (I_61 : Nat → Int32 → Int32 → St → Prop) (n_66 : Nat), I_61 n_66 0 1 (uA M 8 (fun _ => ((M 8 0) + 1))) ∧ ∀ (n_60 : Nat) (x4_62 : Int32) (x3_63 : Int32) (D_64 : St), I_61 n_60 x4_62 x3_63 D_64 → ((1 ≤ x4_62 → (x3_63 = 0 → Q 1 D_64) ∧ (¬ (x3_63 = 0) → q_X6_pass ((D_64 10) 0) D_64 (fun r_72 u_73 => q_X6_asReason r_72 (fun r_74 => Q r_74 u_73)))) ∧ (¬ (1 ≤ x4_62) → (x3_63 = 0 → Q 1 D_64) ∧ (¬ (x3_63 = 0) → (x4_62 = (1 - 1) → q_X6_number x4_62 59 D_64 (fun r_82 u_83 => ∃ n_84, n_84 < n_60 ∧ I_61 n_84 (x4_62 + 1) r_82 u_83)) ∧ (¬ (x4_62 = (1 - 1)) → q_X6_number x4_62 44 D_64 (fun r_77 u_78 => ∃ n_79, n_79 < n_60 ∧ I_61 n_79 (x4_62 + 1) r_77 u_78)))))) ∧ (¬ (((M 6) (((M 8 0)).toNatClampNeg)) = 112) → (((M 6) (((M 8 0)).toNatClampNeg)) = 120 → ∃ (I_116 : Nat → Int32 → Int32 → St → Prop) (n_121 : Nat), I_116 n_121 0 1 (uA M 8 (fun _ => ((M 8 0) + 1))) ∧ ∀ (n_115 : Nat) (x4_117 : Int32) (x3_118 : Int32) (D_119 : St), I_116 n_115 x4_117 x3_118 D_119 → ((1 ≤ x4_117 → (x3_118 = 0 → Q 1 D_119) ∧ (¬ (x3_118 = 0) → q_X6_cancel ((D_119 10) 0) D_119 (fun r_127 u_128 => q_X6_asReason r_127 (fun r_129 => Q r_129 u_128)))) ∧ (¬ (1 ≤ x4_117) → (x3_118 = 0 → Q 1 D_119) ∧ (¬ (x3_118 = 0) → (x4_117 = (1 - 1) → q_X6_number x4_117 59 D_119 (fun r_137 u_138 => ∃ n_139, n_139 < n_115 ∧ I_116 n_139 (x4_117 + 1) r_137 u_138)) ∧ (¬ (x4_117 = (1 - 1)) → q_X6_number x4_117 44 D_119 (fun r_132 u_133 => ∃ n_134, n_134 < n_115 ∧ I_116 n_134 (x4_117 + 1) r_132 u_133)))))) ∧ (¬ (((M 6) (((M 8 0)).toNatClampNeg)) = 120) → ∃ (I_89 : Nat → Int32 → Int32 → St → Prop) (n_94 : Nat), I_89 n_94 0 0 (uA M 8 (fun _ => ((M 8 0) + 1))) ∧ ∀ (n_88 : Nat) (x4_90 : Int32) (x3_91 : Int32) (D_92 : St), I_89 n_88 x4_90 x3_91 D_92 → ((0 ≤ x4_90 → (x3_91 = 0 → Q 1 D_92) ∧ (¬ (x3_91 = 0) → q_X6_cancel ((D_92 10) 0) D_92 (fun r_100 u_101 => q_X6_asReason r_100 (fun r_102 => Q r_102 u_101)))) ∧ (¬ (0 ≤ x4_90) → (x3_91 = 0 → Q 1 D_92) ∧ (¬ (x3_91 = 0) → (x4_90 = (0 - 1) → q_X6_number x4_90 59 D_92 (fun r_110 u_111 => ∃ n_112, n_112 < n_88 ∧ I_89 n_112 (x4_90 + 1) r_110 u_111)) ∧ (¬ (x4_90 = (0 - 1)) → q_X6_number x4_90 44 D_92 (fun r_105 u_106 => ∃ n_107, n_107 < n_88 ∧ I_89 n_107 (x4_90 + 1) r_105 u_106)))))))))))
set_option maxHeartbeats 4000000 in
set_option maxRecDepth 100000 in
theorem c_X6_does (l : Launch) (G : va_G) (cI cC cD : ClassId) (q : Nat → Nat) (sz : Nat) (M : St)  (Q : Int32 → St → Prop) (h : q_X6_does  M Q) : Met l yX6_does wsX6_does ({ frames := 6, cells := 0, slots := 0, locals := 133 }) (va_Pc [.ref (q 0)] (PW G (ty3 cI cC cD) (wM cI q M) sz)) (va_Qi Q (BW G (fun u : St => (wM cI q u)) (va_A (wM cI q M) sz)) (va_A (wM cI q M) sz)) 0 0 (va_A (wM cI q M) sz) := by
  refine Met.ofW (cc := cX6_does) (maxL := 5) (ret := (some .int)) (by decide) rfl ?_
  intro p e s m args below meth c s₁ B hml hv
  obtain ⟨rfl, hsz, hP, hK, hD0, hN⟩ := hv
  have hx := B.exec
  have hb := B.bytes
  have hr := B.returns
  have hts := atoms_spec (ws := wsX6_does) B.pre
  have hown : s.vm.findClass RX6 = some m.cls := findClass_of_methodNamed B.named
  have hlocks := B.notSynchronized
  subst hsz
  have hD := hD0.self (sz := s.heap.size)
  generalize hAe : va_A (wM cI q M) s.heap.size = A at hD ⊢
  have hA : ∀ q : Nat, s.heap.size ≤ q → A q := fun q h => by rw [← hAe]; exact Or.inr h
  have hS : va_S A s.heap s.heap [] := va_S.rf
  have hl := lv_entry ([.ref (q 0)]) (n := 5) (Nat.le_of_ble_eq_true rfl)
  rw [lg_entry_eq]
  generalize (lg_sl ([.ref (q 0)]) ++ List.replicate (5 - (lg_sl ([.ref (q 0)])).length) Slot.unset).toArray = ls at hl ⊢
  have hl : lv_has ls 5 [(0, .ref (q 0))] := hl
  have hinX6 : ∀ w ∈ wsX60, w ∈ wsX6_does := by decide +kernel
  have hL22 := hts (.fieldLink RX6 22 "CraneGatesModel" "text" "[I") (by decide +kernel)
  have hL25 := hts (.fieldLink RX6 25 "CraneGatesModel" "told" "[I") (by decide +kernel)
  have hL146 := hts (.fieldLink RX6 146 "CraneGatesModel" "spot" "I") (by decide +kernel)
  unfold q_X6_does at h
  refine lv_aload_n hx hb dX6_does_0 rfl (lv_at hl 0 rfl) ?_
  refine va_get (D := G) (ci := 6) (v := .ref (q 5)) (C := RX6) (T := TX6) (N := 11) hx hb hts hinX6 hown hK hP 0 rfl rfl 6 (by decide) hL22 (fun _ h9 => h9) rfl dX6_does_1 ?_
  refine lv_aload_n hx hb dX6_does_4 rfl (lv_at hl 0 rfl) ?_
  refine va_get (D := G) (ci := 6) (v := .int (M 8 0)) (C := RX6) (T := TX6) (N := 11) hx hb hts hinX6 hown hK hP 0 rfl rfl 8 (by decide) hL146 (fun _ h9 => h9) rfl dX6_does_5 ?_
  obtain ⟨hi_1, h⟩ := h
  refine k_ald (f := (M 6)) (j := ((M 8 0)).toNatClampNeg) (v := ((M 6) (((M 8 0)).toNatClampNeg))) hx hb hK hP 5 0 rfl rfl hi_1 rfl rfl dX6_does_8 ?_
  refine lv_istore_n (lv' := [(1, .int ((M 6) (((M 8 0)).toNatClampNeg))), (0, .ref (q 0))]) hx hb dX6_does_9 rfl hl (by decide) rfl (fun ls hl => ?_)
  refine lv_aload_n hx hb dX6_does_10 rfl (lv_at hl 1 rfl) ?_
  refine lv_dup hx hb dX6_does_11 rfl ?_
  refine va_get (D := G) (ci := 6) (v := .int (M 8 0)) (C := RX6) (T := TX6) (N := 11) hx hb hts hinX6 hown hK hP 0 rfl rfl 8 (by decide) hL146 (fun _ h9 => h9) rfl dX6_does_12 ?_
  refine lv_iconst (v := 1) hx hb dX6_does_15 (by decide) ?_
  refine lv_iadd hx hb dX6_does_16 ?_
  refine va_put (D := G) (ci := 6) (v := .int ((M 8 0) + 1)) (ty := .int) (C := RX6) (T := TX6) (N := 11) hx hb hts hinX6 tyX6 tyX6_ok nmX6 hown hK hP hD hS 0 rfl rfl 8 (by decide) hL146 (fun _ h9 => h9) rfl (by decide +kernel) rfl rfl (Nat.le_of_ble_eq_true rfl) dX6_does_17 (fun H locs hP hD hS => ?_)
  have hP : va_P G vwCl (wM cI q (uA M 8 (fun _ => ((M 8 0) + 1)))) H := hP
  have hD : va_D A (wM cI q (uA M 8 (fun _ => ((M 8 0) + 1)))) := hD
  refine lv_iload_n hx hb dX6_does_20 rfl (lv_at hl 0 rfl) ?_
  refine lv_bipush (v := 111) hx hb dX6_does_21 (by decide) ?_
  refine lv_icmp_eq (tgt := 32) hx hb dX6_does_23 (by decide) (fun c_2 => ?_) (fun c_2 => ?_)
  · have h := h.1 c_2
    refine lv_iconst (v := 2) hx hb dX6_does_32 (by decide) ?_
    refine lv_goto (tgt := 59) hx hb dX6_does_33 (by decide) ?_
    refine lv_istore_n (lv' := [(2, .int 2), (1, .int ((M 6) (((M 8 0)).toNatClampNeg))), (0, .ref (q 0))]) hx hb dX6_does_59 rfl hl (by decide) rfl (fun ls hl => ?_)
    refine lv_iload_n hx hb dX6_does_60 rfl (lv_at hl 0 rfl) ?_
    refine lv_if_le (tgt := 68) hx hb dX6_does_61 (by decide) (fun c => absurd c (by decide)) (fun _ => ?_)
    refine lv_iconst (v := 1) hx hb dX6_does_64 (by decide) ?_
    refine lv_goto (tgt := 69) hx hb dX6_does_65 (by decide) ?_
    refine lv_istore_n (lv' := [(3, .int 1), (2, .int 2), (1, .int ((M 6) (((M 8 0)).toNatClampNeg))), (0, .ref (q 0))]) hx hb dX6_does_69 rfl hl (by decide) rfl (fun ls hl => ?_)
    refine lv_iconst (v := 0) hx hb dX6_does_70 (by decide) ?_
    refine lv_istore (lv' := [(4, .int 0), (3, .int 1), (2, .int 2), (1, .int ((M 6) (((M 8 0)).toNatClampNeg))), (0, .ref (q 0))]) hx hb dX6_does_71 hl (by decide) rfl (fun ls hl => ?_)
    obtain ⟨I_4, n_9, h_10, hI_11⟩ := h
    have lp_12 : ∀ (n_3 : Nat) (x4_5 : Int32) (x3_6 : Int32) (D_7 : St), I_4 n_3 x4_5 x3_6 D_7 → ∀ (H : Heap) (locs : List Loc) (ls : Array Slot), va_P G vwCl (wM cI q D_7) H → va_D A (wM cI q D_7) → va_S A s.heap H locs → lv_has ls 5 [(4, .int x4_5), (3, .int x3_6), (2, .int 2), (1, .int ((M 6) (((M 8 0)).toNatClampNeg))), (0, .ref (q 0))] → W p l e (headSpec wsX6_does ({ frames := 6, cells := 0, slots := 0, locals := 133 })).room s m ([.ref (q 0)] : List Value).toArray below meth c H locs 0 0 (MQ below (va_Qi Q (BW G (fun u : St => (wM cI q u)) A) A) ([.ref (q 0)] : List Value).toArray s 0 0 A) (F0 m 73 ls []) := by
      intro n_3
      induction n_3 using Nat.strongRecOn with
      | ind n_3 ih_8 =>
        intro x4_5 x3_6 D_7 hIn H locs ls hP hD hS hl
        have h := hI_11 n_3 x4_5 x3_6 D_7 hIn
        refine lv_iload hx hb dX6_does_73 (lv_at hl 0 rfl) ?_
        refine lv_iload_n hx hb dX6_does_75 rfl (lv_at hl 2 rfl) ?_
        refine lv_icmp_ge (tgt := 111) hx hb dX6_does_76 (by decide) (fun c_13 => ?_) (fun c_13 => ?_)
        · have h := h.1 c_13
          refine lv_iload_n hx hb dX6_does_111 rfl (lv_at hl 1 rfl) ?_
          refine lv_if_ne (tgt := 117) hx hb dX6_does_112 (by decide) (fun c_14 => ?_) (fun c_14 => ?_)
          · have h := h.2 c_14
            refine lv_iload_n hx hb dX6_does_117 rfl (lv_at hl 3 rfl) ?_
            refine lv_lookup (off := 42) (tgt := 160) hx hb dX6_does_118 (by decide) (by rw [c_2]; decide) (by decide) ?_
            refine lv_aload_n hx hb dX6_does_160 rfl (lv_at hl 4 rfl) ?_
            refine lv_aload_n hx hb dX6_does_161 rfl (lv_at hl 4 rfl) ?_
            refine va_get (D := G) (ci := 6) (v := .ref (q 6)) (C := RX6) (T := TX6) (N := 11) hx hb hts hinX6 hown hK hP 0 rfl rfl 10 (by decide) hL25 (fun _ h9 => h9) rfl dX6_does_162 ?_
            refine lv_iconst (v := 0) hx hb dX6_does_165 (by decide) ?_
            refine k_ald (f := (D_7 10)) (j := 0) (v := ((D_7 10) 0)) hx hb hK hP 6 0 rfl rfl (show ¬ ((0 : Int32) < 0 ∨ 2 ≤ (0 : Int32).toNatClampNeg) by decide) rfl rfl dX6_does_166 ?_
            refine lv_aload_n hx hb dX6_does_167 rfl (lv_at hl 4 rfl) ?_
            refine va_get (D := G) (ci := 6) (v := .ref (q 6)) (C := RX6) (T := TX6) (N := 11) hx hb hts hinX6 hown hK hP 0 rfl rfl 10 (by decide) hL25 (fun _ h9 => h9) rfl dX6_does_168 ?_
            refine lv_iconst (v := 1) hx hb dX6_does_171 (by decide) ?_
            refine k_ald (f := (D_7 10)) (j := 1) (v := ((D_7 10) 1)) hx hb hK hP 6 0 rfl rfl (show ¬ ((1 : Int32) < 0 ∨ 2 ≤ (1 : Int32).toNatClampNeg) by decide) rfl rfl dX6_does_172 ?_
            refine kc_i (As := [.int ((D_7 10) 0), .int ((D_7 10) 1)]) (rest := []) (wg := (fun u => (wM cI q u))) ⟨hx, hb, hml, hown, hts⟩ (c_X6_order l G cI cC cD q _ D_7 ((D_7 10) 0) ((D_7 10) 1) _ h) (cwV 2 hts gX6_does_X6_order rfl rfl rfl (by decide +kernel) ⟨Nat.le_of_ble_eq_true rfl, Nat.le_of_ble_eq_true rfl⟩) hK hN hP hD hS hA (em_MM cI q D_7) (fun u => rp_MM cI q D_7 u) rfl rfl rfl rfl hl.1 rfl (Nat.le_of_ble_eq_true rfl) dX6_does_173 ⟨Nat.zero_le _, Nat.zero_le _⟩ (fun r_15 u_16 H locs h hP hD hS => ?_)
            refine ks_i (As := [.int r_15]) (rest := []) (wg := (fun _ => (wM cI q u_16))) ⟨hx, hb, hml, hown, hts⟩ (c_X6_asReason l G cI cC cD  _  r_15 _ h) (va_cwS 1 hts gX6_does_X6_asReason rfl rfl rfl (by decide +kernel) ⟨Nat.le_of_ble_eq_true rfl, Nat.le_of_ble_eq_true rfl⟩) hK hN hP hD hS hA (em_0 _) (fun _ => rp_self (em_0 _)) rfl hl.1 rfl (Nat.le_of_ble_eq_true rfl) dX6_does_176 ⟨Nat.zero_le _, Nat.zero_le _⟩ (fun r_17 _ H locs h hP hD hS => ?_)
            exact W.iret (v := r_17) hx hb hr (fun t ht hW => ⟨⟨r_17, u_16, rfl, h, by rw [ht]; exact hP, hD⟩, hS.F ht⟩) hS.2.2 dX6_does_179
          · have h := h.1 c_14
            refine lv_iconst (v := 1) hx hb dX6_does_115 (by decide) ?_
            exact W.iret (v := 1) hx hb hr (fun t ht hW => ⟨⟨1, D_7, rfl, h, by rw [ht]; exact hP, hD⟩, hS.F ht⟩) hS.2.2 dX6_does_116
        · have h := h.2 c_13
          refine lv_iload_n hx hb dX6_does_79 rfl (lv_at hl 1 rfl) ?_
          refine lv_if_eq (tgt := 111) hx hb dX6_does_80 (by decide) (fun c_18 => ?_) (fun c_18 => ?_)
          · have h := h.1 c_18
            refine lv_iload_n hx hb dX6_does_111 rfl (lv_at hl 1 rfl) ?_
            refine lv_if_ne (tgt := 117) hx hb dX6_does_112 (by decide) (fun c => absurd c_18 c) (fun _ => ?_)
            refine lv_iconst (v := 1) hx hb dX6_does_115 (by decide) ?_
            exact W.iret (v := 1) hx hb hr (fun t ht hW => ⟨⟨1, D_7, rfl, h, by rw [ht]; exact hP, hD⟩, hS.F ht⟩) hS.2.2 dX6_does_116
          · have h := h.2 c_18
            refine lv_aload_n hx hb dX6_does_83 rfl (lv_at hl 4 rfl) ?_
            refine lv_iload hx hb dX6_does_84 (lv_at hl 0 rfl) ?_
            refine lv_iload hx hb dX6_does_86 (lv_at hl 0 rfl) ?_
            refine lv_iload_n hx hb dX6_does_88 rfl (lv_at hl 2 rfl) ?_
            refine lv_iconst (v := 1) hx hb dX6_does_89 (by decide) ?_
            refine lv_isub hx hb dX6_does_90 ?_
            refine lv_icmp_ne (tgt := 99) hx hb dX6_does_91 (by decide) (fun c_19 => ?_) (fun c_19 => ?_)
            · have h := h.2 c_19
              refine lv_bipush (v := 44) hx hb dX6_does_99 (by decide) ?_
              refine kc_i (As := [.int x4_5, .int 44]) (rest := []) (wg := (fun u => (wM cI q u))) ⟨hx, hb, hml, hown, hts⟩ (c_X6_number l G cI cC cD q _ D_7 x4_5 44 _ h) (cwV 2 hts gX6_does_X6_number rfl rfl rfl (by decide +kernel) ⟨Nat.le_of_ble_eq_true rfl, Nat.le_of_ble_eq_true rfl⟩) hK hN hP hD hS hA (em_MM cI q D_7) (fun u => rp_MM cI q D_7 u) rfl rfl rfl rfl hl.1 rfl (Nat.le_of_ble_eq_true rfl) dX6_does_101 ⟨Nat.zero_le _, Nat.zero_le _⟩ (fun r_20 u_21 H locs h hP hD hS => ?_)
              refine lv_istore_n (lv' := [(3, .int r_20), (4, .int x4_5), (2, .int 2), (1, .int ((M 6) (((M 8 0)).toNatClampNeg))), (0, .ref (q 0))]) hx hb dX6_does_104 rfl hl (by decide) rfl (fun ls hl => ?_)
              refine lv_iinc (v := x4_5 + 1) (lv' := [(4, .int (x4_5 + 1)), (3, .int r_20), (2, .int 2), (1, .int ((M 6) (((M 8 0)).toNatClampNeg))), (0, .ref (q 0))]) hx hb dX6_does_105 hl (k := 1) rfl rfl (by decide) rfl (fun ls hl => ?_)
              refine lv_goto (tgt := 73) hx hb dX6_does_108 (by decide) ?_
              obtain ⟨n_22, lt_23, h_24⟩ := h
              exact ih_8 n_22 lt_23 _ _ _ h_24 _ _ _ hP hD hS (lv_sub hl [0, 1, 2, 3, 4] rfl)
            · have h := h.1 c_19
              refine lv_bipush (v := 59) hx hb dX6_does_94 (by decide) ?_
              refine lv_goto (tgt := 101) hx hb dX6_does_96 (by decide) ?_
              refine kc_i (As := [.int x4_5, .int 59]) (rest := []) (wg := (fun u => (wM cI q u))) ⟨hx, hb, hml, hown, hts⟩ (c_X6_number l G cI cC cD q _ D_7 x4_5 59 _ h) (cwV 2 hts gX6_does_X6_number rfl rfl rfl (by decide +kernel) ⟨Nat.le_of_ble_eq_true rfl, Nat.le_of_ble_eq_true rfl⟩) hK hN hP hD hS hA (em_MM cI q D_7) (fun u => rp_MM cI q D_7 u) rfl rfl rfl rfl hl.1 rfl (Nat.le_of_ble_eq_true rfl) dX6_does_101 ⟨Nat.zero_le _, Nat.zero_le _⟩ (fun r_25 u_26 H locs h hP hD hS => ?_)
              refine lv_istore_n (lv' := [(3, .int r_25), (4, .int x4_5), (2, .int 2), (1, .int ((M 6) (((M 8 0)).toNatClampNeg))), (0, .ref (q 0))]) hx hb dX6_does_104 rfl hl (by decide) rfl (fun ls hl => ?_)
              refine lv_iinc (v := x4_5 + 1) (lv' := [(4, .int (x4_5 + 1)), (3, .int r_25), (2, .int 2), (1, .int ((M 6) (((M 8 0)).toNatClampNeg))), (0, .ref (q 0))]) hx hb dX6_does_105 hl (k := 1) rfl rfl (by decide) rfl (fun ls hl => ?_)
              refine lv_goto (tgt := 73) hx hb dX6_does_108 (by decide) ?_
              obtain ⟨n_27, lt_28, h_29⟩ := h
              exact ih_8 n_27 lt_28 _ _ _ h_29 _ _ _ hP hD hS (lv_sub hl [0, 1, 2, 3, 4] rfl)
    exact lp_12 _ _ _ _ h_10 _ _ _ hP hD hS hl
  · have h := h.2 c_2
    refine lv_iload_n hx hb dX6_does_26 rfl (lv_at hl 0 rfl) ?_
    refine lv_bipush (v := 119) hx hb dX6_does_27 (by decide) ?_
    refine lv_icmp_ne (tgt := 36) hx hb dX6_does_29 (by decide) (fun c_30 => ?_) (fun c_30 => ?_)
    · have h := h.2 c_30
      refine lv_iload_n hx hb dX6_does_36 rfl (lv_at hl 0 rfl) ?_
      refine lv_bipush (v := 105) hx hb dX6_does_37 (by decide) ?_
      refine lv_icmp_eq (tgt := 54) hx hb dX6_does_39 (by decide) (fun c_31 => ?_) (fun c_31 => ?_)
      · have h := h.1 c_31
        refine lv_iconst (v := 1) hx hb dX6_does_54 (by decide) ?_
        refine lv_goto (tgt := 59) hx hb dX6_does_55 (by decide) ?_
        refine lv_istore_n (lv' := [(2, .int 1), (1, .int ((M 6) (((M 8 0)).toNatClampNeg))), (0, .ref (q 0))]) hx hb dX6_does_59 rfl hl (by decide) rfl (fun ls hl => ?_)
        refine lv_iload_n hx hb dX6_does_60 rfl (lv_at hl 0 rfl) ?_
        refine lv_if_le (tgt := 68) hx hb dX6_does_61 (by decide) (fun c => absurd c (by decide)) (fun _ => ?_)
        refine lv_iconst (v := 1) hx hb dX6_does_64 (by decide) ?_
        refine lv_goto (tgt := 69) hx hb dX6_does_65 (by decide) ?_
        refine lv_istore_n (lv' := [(3, .int 1), (2, .int 1), (1, .int ((M 6) (((M 8 0)).toNatClampNeg))), (0, .ref (q 0))]) hx hb dX6_does_69 rfl hl (by decide) rfl (fun ls hl => ?_)
        refine lv_iconst (v := 0) hx hb dX6_does_70 (by decide) ?_
        refine lv_istore (lv' := [(4, .int 0), (3, .int 1), (2, .int 1), (1, .int ((M 6) (((M 8 0)).toNatClampNeg))), (0, .ref (q 0))]) hx hb dX6_does_71 hl (by decide) rfl (fun ls hl => ?_)
        obtain ⟨I_33, n_38, h_39, hI_40⟩ := h
        have lp_41 : ∀ (n_32 : Nat) (x4_34 : Int32) (x3_35 : Int32) (D_36 : St), I_33 n_32 x4_34 x3_35 D_36 → ∀ (H : Heap) (locs : List Loc) (ls : Array Slot), va_P G vwCl (wM cI q D_36) H → va_D A (wM cI q D_36) → va_S A s.heap H locs → lv_has ls 5 [(4, .int x4_34), (3, .int x3_35), (2, .int 1), (1, .int ((M 6) (((M 8 0)).toNatClampNeg))), (0, .ref (q 0))] → W p l e (headSpec wsX6_does ({ frames := 6, cells := 0, slots := 0, locals := 133 })).room s m ([.ref (q 0)] : List Value).toArray below meth c H locs 0 0 (MQ below (va_Qi Q (BW G (fun u : St => (wM cI q u)) A) A) ([.ref (q 0)] : List Value).toArray s 0 0 A) (F0 m 73 ls []) := by
          intro n_32
          induction n_32 using Nat.strongRecOn with
          | ind n_32 ih_37 =>
            intro x4_34 x3_35 D_36 hIn H locs ls hP hD hS hl
            have h := hI_40 n_32 x4_34 x3_35 D_36 hIn
            refine lv_iload hx hb dX6_does_73 (lv_at hl 0 rfl) ?_
            refine lv_iload_n hx hb dX6_does_75 rfl (lv_at hl 2 rfl) ?_
            refine lv_icmp_ge (tgt := 111) hx hb dX6_does_76 (by decide) (fun c_42 => ?_) (fun c_42 => ?_)
            · have h := h.1 c_42
              refine lv_iload_n hx hb dX6_does_111 rfl (lv_at hl 1 rfl) ?_
              refine lv_if_ne (tgt := 117) hx hb dX6_does_112 (by decide) (fun c_43 => ?_) (fun c_43 => ?_)
              · have h := h.2 c_43
                refine lv_iload_n hx hb dX6_does_117 rfl (lv_at hl 3 rfl) ?_
                refine lv_lookup (off := 82) (tgt := 200) hx hb dX6_does_118 (by decide) (by rw [c_31]; decide) (by decide) ?_
                refine lv_aload_n hx hb dX6_does_200 rfl (lv_at hl 4 rfl) ?_
                refine lv_aload_n hx hb dX6_does_201 rfl (lv_at hl 4 rfl) ?_
                refine va_get (D := G) (ci := 6) (v := .ref (q 6)) (C := RX6) (T := TX6) (N := 11) hx hb hts hinX6 hown hK hP 0 rfl rfl 10 (by decide) hL25 (fun _ h9 => h9) rfl dX6_does_202 ?_
                refine lv_iconst (v := 0) hx hb dX6_does_205 (by decide) ?_
                refine k_ald (f := (D_36 10)) (j := 0) (v := ((D_36 10) 0)) hx hb hK hP 6 0 rfl rfl (show ¬ ((0 : Int32) < 0 ∨ 2 ≤ (0 : Int32).toNatClampNeg) by decide) rfl rfl dX6_does_206 ?_
                refine kc_i (As := [.int ((D_36 10) 0)]) (rest := []) (wg := (fun u => (wM cI q u))) ⟨hx, hb, hml, hown, hts⟩ (c_X6_inflow l G cI cC cD q _ D_36 ((D_36 10) 0) _ h) (cwV 1 hts gX6_does_X6_inflow rfl rfl rfl (by decide +kernel) ⟨Nat.le_of_ble_eq_true rfl, Nat.le_of_ble_eq_true rfl⟩) hK hN hP hD hS hA (em_MM cI q D_36) (fun u => rp_MM cI q D_36 u) rfl rfl rfl rfl hl.1 rfl (Nat.le_of_ble_eq_true rfl) dX6_does_207 ⟨Nat.zero_le _, Nat.zero_le _⟩ (fun r_44 u_45 H locs h hP hD hS => ?_)
                refine ks_i (As := [.int r_44]) (rest := []) (wg := (fun _ => (wM cI q u_45))) ⟨hx, hb, hml, hown, hts⟩ (c_X6_asReason l G cI cC cD  _  r_44 _ h) (va_cwS 1 hts gX6_does_X6_asReason rfl rfl rfl (by decide +kernel) ⟨Nat.le_of_ble_eq_true rfl, Nat.le_of_ble_eq_true rfl⟩) hK hN hP hD hS hA (em_0 _) (fun _ => rp_self (em_0 _)) rfl hl.1 rfl (Nat.le_of_ble_eq_true rfl) dX6_does_210 ⟨Nat.zero_le _, Nat.zero_le _⟩ (fun r_46 _ H locs h hP hD hS => ?_)
                exact W.iret (v := r_46) hx hb hr (fun t ht hW => ⟨⟨r_46, u_45, rfl, h, by rw [ht]; exact hP, hD⟩, hS.F ht⟩) hS.2.2 dX6_does_213
              · have h := h.1 c_43
                refine lv_iconst (v := 1) hx hb dX6_does_115 (by decide) ?_
                exact W.iret (v := 1) hx hb hr (fun t ht hW => ⟨⟨1, D_36, rfl, h, by rw [ht]; exact hP, hD⟩, hS.F ht⟩) hS.2.2 dX6_does_116
            · have h := h.2 c_42
              refine lv_iload_n hx hb dX6_does_79 rfl (lv_at hl 1 rfl) ?_
              refine lv_if_eq (tgt := 111) hx hb dX6_does_80 (by decide) (fun c_47 => ?_) (fun c_47 => ?_)
              · have h := h.1 c_47
                refine lv_iload_n hx hb dX6_does_111 rfl (lv_at hl 1 rfl) ?_
                refine lv_if_ne (tgt := 117) hx hb dX6_does_112 (by decide) (fun c => absurd c_47 c) (fun _ => ?_)
                refine lv_iconst (v := 1) hx hb dX6_does_115 (by decide) ?_
                exact W.iret (v := 1) hx hb hr (fun t ht hW => ⟨⟨1, D_36, rfl, h, by rw [ht]; exact hP, hD⟩, hS.F ht⟩) hS.2.2 dX6_does_116
              · have h := h.2 c_47
                refine lv_aload_n hx hb dX6_does_83 rfl (lv_at hl 4 rfl) ?_
                refine lv_iload hx hb dX6_does_84 (lv_at hl 0 rfl) ?_
                refine lv_iload hx hb dX6_does_86 (lv_at hl 0 rfl) ?_
                refine lv_iload_n hx hb dX6_does_88 rfl (lv_at hl 2 rfl) ?_
                refine lv_iconst (v := 1) hx hb dX6_does_89 (by decide) ?_
                refine lv_isub hx hb dX6_does_90 ?_
                refine lv_icmp_ne (tgt := 99) hx hb dX6_does_91 (by decide) (fun c_48 => ?_) (fun c_48 => ?_)
                · have h := h.2 c_48
                  refine lv_bipush (v := 44) hx hb dX6_does_99 (by decide) ?_
                  refine kc_i (As := [.int x4_34, .int 44]) (rest := []) (wg := (fun u => (wM cI q u))) ⟨hx, hb, hml, hown, hts⟩ (c_X6_number l G cI cC cD q _ D_36 x4_34 44 _ h) (cwV 2 hts gX6_does_X6_number rfl rfl rfl (by decide +kernel) ⟨Nat.le_of_ble_eq_true rfl, Nat.le_of_ble_eq_true rfl⟩) hK hN hP hD hS hA (em_MM cI q D_36) (fun u => rp_MM cI q D_36 u) rfl rfl rfl rfl hl.1 rfl (Nat.le_of_ble_eq_true rfl) dX6_does_101 ⟨Nat.zero_le _, Nat.zero_le _⟩ (fun r_49 u_50 H locs h hP hD hS => ?_)
                  refine lv_istore_n (lv' := [(3, .int r_49), (4, .int x4_34), (2, .int 1), (1, .int ((M 6) (((M 8 0)).toNatClampNeg))), (0, .ref (q 0))]) hx hb dX6_does_104 rfl hl (by decide) rfl (fun ls hl => ?_)
                  refine lv_iinc (v := x4_34 + 1) (lv' := [(4, .int (x4_34 + 1)), (3, .int r_49), (2, .int 1), (1, .int ((M 6) (((M 8 0)).toNatClampNeg))), (0, .ref (q 0))]) hx hb dX6_does_105 hl (k := 1) rfl rfl (by decide) rfl (fun ls hl => ?_)
                  refine lv_goto (tgt := 73) hx hb dX6_does_108 (by decide) ?_
                  obtain ⟨n_51, lt_52, h_53⟩ := h
                  exact ih_37 n_51 lt_52 _ _ _ h_53 _ _ _ hP hD hS (lv_sub hl [0, 1, 2, 3, 4] rfl)
                · have h := h.1 c_48
                  refine lv_bipush (v := 59) hx hb dX6_does_94 (by decide) ?_
                  refine lv_goto (tgt := 101) hx hb dX6_does_96 (by decide) ?_
                  refine kc_i (As := [.int x4_34, .int 59]) (rest := []) (wg := (fun u => (wM cI q u))) ⟨hx, hb, hml, hown, hts⟩ (c_X6_number l G cI cC cD q _ D_36 x4_34 59 _ h) (cwV 2 hts gX6_does_X6_number rfl rfl rfl (by decide +kernel) ⟨Nat.le_of_ble_eq_true rfl, Nat.le_of_ble_eq_true rfl⟩) hK hN hP hD hS hA (em_MM cI q D_36) (fun u => rp_MM cI q D_36 u) rfl rfl rfl rfl hl.1 rfl (Nat.le_of_ble_eq_true rfl) dX6_does_101 ⟨Nat.zero_le _, Nat.zero_le _⟩ (fun r_54 u_55 H locs h hP hD hS => ?_)
                  refine lv_istore_n (lv' := [(3, .int r_54), (4, .int x4_34), (2, .int 1), (1, .int ((M 6) (((M 8 0)).toNatClampNeg))), (0, .ref (q 0))]) hx hb dX6_does_104 rfl hl (by decide) rfl (fun ls hl => ?_)
                  refine lv_iinc (v := x4_34 + 1) (lv' := [(4, .int (x4_34 + 1)), (3, .int r_54), (2, .int 1), (1, .int ((M 6) (((M 8 0)).toNatClampNeg))), (0, .ref (q 0))]) hx hb dX6_does_105 hl (k := 1) rfl rfl (by decide) rfl (fun ls hl => ?_)
                  refine lv_goto (tgt := 73) hx hb dX6_does_108 (by decide) ?_
                  obtain ⟨n_56, lt_57, h_58⟩ := h
                  exact ih_37 n_56 lt_57 _ _ _ h_58 _ _ _ hP hD hS (lv_sub hl [0, 1, 2, 3, 4] rfl)
        exact lp_41 _ _ _ _ h_39 _ _ _ hP hD hS hl
      · have h := h.2 c_31
        refine lv_iload_n hx hb dX6_does_42 rfl (lv_at hl 0 rfl) ?_
        refine lv_bipush (v := 112) hx hb dX6_does_43 (by decide) ?_
        refine lv_icmp_eq (tgt := 54) hx hb dX6_does_45 (by decide) (fun c_59 => ?_) (fun c_59 => ?_)
        · have h := h.1 c_59
          refine lv_iconst (v := 1) hx hb dX6_does_54 (by decide) ?_
          refine lv_goto (tgt := 59) hx hb dX6_does_55 (by decide) ?_
          refine lv_istore_n (lv' := [(2, .int 1), (1, .int ((M 6) (((M 8 0)).toNatClampNeg))), (0, .ref (q 0))]) hx hb dX6_does_59 rfl hl (by decide) rfl (fun ls hl => ?_)
          refine lv_iload_n hx hb dX6_does_60 rfl (lv_at hl 0 rfl) ?_
          refine lv_if_le (tgt := 68) hx hb dX6_does_61 (by decide) (fun c => absurd c (by decide)) (fun _ => ?_)
          refine lv_iconst (v := 1) hx hb dX6_does_64 (by decide) ?_
          refine lv_goto (tgt := 69) hx hb dX6_does_65 (by decide) ?_
          refine lv_istore_n (lv' := [(3, .int 1), (2, .int 1), (1, .int ((M 6) (((M 8 0)).toNatClampNeg))), (0, .ref (q 0))]) hx hb dX6_does_69 rfl hl (by decide) rfl (fun ls hl => ?_)
          refine lv_iconst (v := 0) hx hb dX6_does_70 (by decide) ?_
          refine lv_istore (lv' := [(4, .int 0), (3, .int 1), (2, .int 1), (1, .int ((M 6) (((M 8 0)).toNatClampNeg))), (0, .ref (q 0))]) hx hb dX6_does_71 hl (by decide) rfl (fun ls hl => ?_)
          obtain ⟨I_61, n_66, h_67, hI_68⟩ := h
          have lp_69 : ∀ (n_60 : Nat) (x4_62 : Int32) (x3_63 : Int32) (D_64 : St), I_61 n_60 x4_62 x3_63 D_64 → ∀ (H : Heap) (locs : List Loc) (ls : Array Slot), va_P G vwCl (wM cI q D_64) H → va_D A (wM cI q D_64) → va_S A s.heap H locs → lv_has ls 5 [(4, .int x4_62), (3, .int x3_63), (2, .int 1), (1, .int ((M 6) (((M 8 0)).toNatClampNeg))), (0, .ref (q 0))] → W p l e (headSpec wsX6_does ({ frames := 6, cells := 0, slots := 0, locals := 133 })).room s m ([.ref (q 0)] : List Value).toArray below meth c H locs 0 0 (MQ below (va_Qi Q (BW G (fun u : St => (wM cI q u)) A) A) ([.ref (q 0)] : List Value).toArray s 0 0 A) (F0 m 73 ls []) := by
            intro n_60
            induction n_60 using Nat.strongRecOn with
            | ind n_60 ih_65 =>
              intro x4_62 x3_63 D_64 hIn H locs ls hP hD hS hl
              have h := hI_68 n_60 x4_62 x3_63 D_64 hIn
              refine lv_iload hx hb dX6_does_73 (lv_at hl 0 rfl) ?_
              refine lv_iload_n hx hb dX6_does_75 rfl (lv_at hl 2 rfl) ?_
              refine lv_icmp_ge (tgt := 111) hx hb dX6_does_76 (by decide) (fun c_70 => ?_) (fun c_70 => ?_)
              · have h := h.1 c_70
                refine lv_iload_n hx hb dX6_does_111 rfl (lv_at hl 1 rfl) ?_
                refine lv_if_ne (tgt := 117) hx hb dX6_does_112 (by decide) (fun c_71 => ?_) (fun c_71 => ?_)
                · have h := h.2 c_71
                  refine lv_iload_n hx hb dX6_does_117 rfl (lv_at hl 3 rfl) ?_
                  refine lv_lookup (off := 96) (tgt := 214) hx hb dX6_does_118 (by decide) (by rw [c_59]; decide) (by decide) ?_
                  refine lv_aload_n hx hb dX6_does_214 rfl (lv_at hl 4 rfl) ?_
                  refine lv_aload_n hx hb dX6_does_215 rfl (lv_at hl 4 rfl) ?_
                  refine va_get (D := G) (ci := 6) (v := .ref (q 6)) (C := RX6) (T := TX6) (N := 11) hx hb hts hinX6 hown hK hP 0 rfl rfl 10 (by decide) hL25 (fun _ h9 => h9) rfl dX6_does_216 ?_
                  refine lv_iconst (v := 0) hx hb dX6_does_219 (by decide) ?_
                  refine k_ald (f := (D_64 10)) (j := 0) (v := ((D_64 10) 0)) hx hb hK hP 6 0 rfl rfl (show ¬ ((0 : Int32) < 0 ∨ 2 ≤ (0 : Int32).toNatClampNeg) by decide) rfl rfl dX6_does_220 ?_
                  refine kc_i (As := [.int ((D_64 10) 0)]) (rest := []) (wg := (fun u => (wM cI q u))) ⟨hx, hb, hml, hown, hts⟩ (c_X6_pass l G cI cC cD q _ D_64 ((D_64 10) 0) _ h) (cwV 1 hts gX6_does_X6_pass rfl rfl rfl (by decide +kernel) ⟨Nat.le_of_ble_eq_true rfl, Nat.le_of_ble_eq_true rfl⟩) hK hN hP hD hS hA (em_MM cI q D_64) (fun u => rp_MM cI q D_64 u) rfl rfl rfl rfl hl.1 rfl (Nat.le_of_ble_eq_true rfl) dX6_does_221 ⟨Nat.zero_le _, Nat.zero_le _⟩ (fun r_72 u_73 H locs h hP hD hS => ?_)
                  refine ks_i (As := [.int r_72]) (rest := []) (wg := (fun _ => (wM cI q u_73))) ⟨hx, hb, hml, hown, hts⟩ (c_X6_asReason l G cI cC cD  _  r_72 _ h) (va_cwS 1 hts gX6_does_X6_asReason rfl rfl rfl (by decide +kernel) ⟨Nat.le_of_ble_eq_true rfl, Nat.le_of_ble_eq_true rfl⟩) hK hN hP hD hS hA (em_0 _) (fun _ => rp_self (em_0 _)) rfl hl.1 rfl (Nat.le_of_ble_eq_true rfl) dX6_does_224 ⟨Nat.zero_le _, Nat.zero_le _⟩ (fun r_74 _ H locs h hP hD hS => ?_)
                  exact W.iret (v := r_74) hx hb hr (fun t ht hW => ⟨⟨r_74, u_73, rfl, h, by rw [ht]; exact hP, hD⟩, hS.F ht⟩) hS.2.2 dX6_does_227
                · have h := h.1 c_71
                  refine lv_iconst (v := 1) hx hb dX6_does_115 (by decide) ?_
                  exact W.iret (v := 1) hx hb hr (fun t ht hW => ⟨⟨1, D_64, rfl, h, by rw [ht]; exact hP, hD⟩, hS.F ht⟩) hS.2.2 dX6_does_116
              · have h := h.2 c_70
                refine lv_iload_n hx hb dX6_does_79 rfl (lv_at hl 1 rfl) ?_
                refine lv_if_eq (tgt := 111) hx hb dX6_does_80 (by decide) (fun c_75 => ?_) (fun c_75 => ?_)
                · have h := h.1 c_75
                  refine lv_iload_n hx hb dX6_does_111 rfl (lv_at hl 1 rfl) ?_
                  refine lv_if_ne (tgt := 117) hx hb dX6_does_112 (by decide) (fun c => absurd c_75 c) (fun _ => ?_)
                  refine lv_iconst (v := 1) hx hb dX6_does_115 (by decide) ?_
                  exact W.iret (v := 1) hx hb hr (fun t ht hW => ⟨⟨1, D_64, rfl, h, by rw [ht]; exact hP, hD⟩, hS.F ht⟩) hS.2.2 dX6_does_116
                · have h := h.2 c_75
                  refine lv_aload_n hx hb dX6_does_83 rfl (lv_at hl 4 rfl) ?_
                  refine lv_iload hx hb dX6_does_84 (lv_at hl 0 rfl) ?_
                  refine lv_iload hx hb dX6_does_86 (lv_at hl 0 rfl) ?_
                  refine lv_iload_n hx hb dX6_does_88 rfl (lv_at hl 2 rfl) ?_
                  refine lv_iconst (v := 1) hx hb dX6_does_89 (by decide) ?_
                  refine lv_isub hx hb dX6_does_90 ?_
                  refine lv_icmp_ne (tgt := 99) hx hb dX6_does_91 (by decide) (fun c_76 => ?_) (fun c_76 => ?_)
                  · have h := h.2 c_76
                    refine lv_bipush (v := 44) hx hb dX6_does_99 (by decide) ?_
                    refine kc_i (As := [.int x4_62, .int 44]) (rest := []) (wg := (fun u => (wM cI q u))) ⟨hx, hb, hml, hown, hts⟩ (c_X6_number l G cI cC cD q _ D_64 x4_62 44 _ h) (cwV 2 hts gX6_does_X6_number rfl rfl rfl (by decide +kernel) ⟨Nat.le_of_ble_eq_true rfl, Nat.le_of_ble_eq_true rfl⟩) hK hN hP hD hS hA (em_MM cI q D_64) (fun u => rp_MM cI q D_64 u) rfl rfl rfl rfl hl.1 rfl (Nat.le_of_ble_eq_true rfl) dX6_does_101 ⟨Nat.zero_le _, Nat.zero_le _⟩ (fun r_77 u_78 H locs h hP hD hS => ?_)
                    refine lv_istore_n (lv' := [(3, .int r_77), (4, .int x4_62), (2, .int 1), (1, .int ((M 6) (((M 8 0)).toNatClampNeg))), (0, .ref (q 0))]) hx hb dX6_does_104 rfl hl (by decide) rfl (fun ls hl => ?_)
                    refine lv_iinc (v := x4_62 + 1) (lv' := [(4, .int (x4_62 + 1)), (3, .int r_77), (2, .int 1), (1, .int ((M 6) (((M 8 0)).toNatClampNeg))), (0, .ref (q 0))]) hx hb dX6_does_105 hl (k := 1) rfl rfl (by decide) rfl (fun ls hl => ?_)
                    refine lv_goto (tgt := 73) hx hb dX6_does_108 (by decide) ?_
                    obtain ⟨n_79, lt_80, h_81⟩ := h
                    exact ih_65 n_79 lt_80 _ _ _ h_81 _ _ _ hP hD hS (lv_sub hl [0, 1, 2, 3, 4] rfl)
                  · have h := h.1 c_76
                    refine lv_bipush (v := 59) hx hb dX6_does_94 (by decide) ?_
                    refine lv_goto (tgt := 101) hx hb dX6_does_96 (by decide) ?_
                    refine kc_i (As := [.int x4_62, .int 59]) (rest := []) (wg := (fun u => (wM cI q u))) ⟨hx, hb, hml, hown, hts⟩ (c_X6_number l G cI cC cD q _ D_64 x4_62 59 _ h) (cwV 2 hts gX6_does_X6_number rfl rfl rfl (by decide +kernel) ⟨Nat.le_of_ble_eq_true rfl, Nat.le_of_ble_eq_true rfl⟩) hK hN hP hD hS hA (em_MM cI q D_64) (fun u => rp_MM cI q D_64 u) rfl rfl rfl rfl hl.1 rfl (Nat.le_of_ble_eq_true rfl) dX6_does_101 ⟨Nat.zero_le _, Nat.zero_le _⟩ (fun r_82 u_83 H locs h hP hD hS => ?_)
                    refine lv_istore_n (lv' := [(3, .int r_82), (4, .int x4_62), (2, .int 1), (1, .int ((M 6) (((M 8 0)).toNatClampNeg))), (0, .ref (q 0))]) hx hb dX6_does_104 rfl hl (by decide) rfl (fun ls hl => ?_)
                    refine lv_iinc (v := x4_62 + 1) (lv' := [(4, .int (x4_62 + 1)), (3, .int r_82), (2, .int 1), (1, .int ((M 6) (((M 8 0)).toNatClampNeg))), (0, .ref (q 0))]) hx hb dX6_does_105 hl (k := 1) rfl rfl (by decide) rfl (fun ls hl => ?_)
                    refine lv_goto (tgt := 73) hx hb dX6_does_108 (by decide) ?_
                    obtain ⟨n_84, lt_85, h_86⟩ := h
                    exact ih_65 n_84 lt_85 _ _ _ h_86 _ _ _ hP hD hS (lv_sub hl [0, 1, 2, 3, 4] rfl)
          exact lp_69 _ _ _ _ h_67 _ _ _ hP hD hS hl
        · have h := h.2 c_59
          refine lv_iload_n hx hb dX6_does_48 rfl (lv_at hl 0 rfl) ?_
          refine lv_bipush (v := 120) hx hb dX6_does_49 (by decide) ?_
          refine lv_icmp_ne (tgt := 58) hx hb dX6_does_51 (by decide) (fun c_87 => ?_) (fun c_87 => ?_)
          · have h := h.2 c_87
            refine lv_iconst (v := 0) hx hb dX6_does_58 (by decide) ?_
            refine lv_istore_n (lv' := [(2, .int 0), (1, .int ((M 6) (((M 8 0)).toNatClampNeg))), (0, .ref (q 0))]) hx hb dX6_does_59 rfl hl (by decide) rfl (fun ls hl => ?_)
            refine lv_iload_n hx hb dX6_does_60 rfl (lv_at hl 0 rfl) ?_
            refine lv_if_le (tgt := 68) hx hb dX6_does_61 (by decide) (fun _ => ?_) (fun c => absurd c (by decide))
            refine lv_iconst (v := 0) hx hb dX6_does_68 (by decide) ?_
            refine lv_istore_n (lv' := [(3, .int 0), (2, .int 0), (1, .int ((M 6) (((M 8 0)).toNatClampNeg))), (0, .ref (q 0))]) hx hb dX6_does_69 rfl hl (by decide) rfl (fun ls hl => ?_)
            refine lv_iconst (v := 0) hx hb dX6_does_70 (by decide) ?_
            refine lv_istore (lv' := [(4, .int 0), (3, .int 0), (2, .int 0), (1, .int ((M 6) (((M 8 0)).toNatClampNeg))), (0, .ref (q 0))]) hx hb dX6_does_71 hl (by decide) rfl (fun ls hl => ?_)
            obtain ⟨I_89, n_94, h_95, hI_96⟩ := h
            have lp_97 : ∀ (n_88 : Nat) (x4_90 : Int32) (x3_91 : Int32) (D_92 : St), I_89 n_88 x4_90 x3_91 D_92 → ∀ (H : Heap) (locs : List Loc) (ls : Array Slot), va_P G vwCl (wM cI q D_92) H → va_D A (wM cI q D_92) → va_S A s.heap H locs → lv_has ls 5 [(4, .int x4_90), (3, .int x3_91), (2, .int 0), (1, .int ((M 6) (((M 8 0)).toNatClampNeg))), (0, .ref (q 0))] → W p l e (headSpec wsX6_does ({ frames := 6, cells := 0, slots := 0, locals := 133 })).room s m ([.ref (q 0)] : List Value).toArray below meth c H locs 0 0 (MQ below (va_Qi Q (BW G (fun u : St => (wM cI q u)) A) A) ([.ref (q 0)] : List Value).toArray s 0 0 A) (F0 m 73 ls []) := by
              intro n_88
              induction n_88 using Nat.strongRecOn with
              | ind n_88 ih_93 =>
                intro x4_90 x3_91 D_92 hIn H locs ls hP hD hS hl
                have h := hI_96 n_88 x4_90 x3_91 D_92 hIn
                refine lv_iload hx hb dX6_does_73 (lv_at hl 0 rfl) ?_
                refine lv_iload_n hx hb dX6_does_75 rfl (lv_at hl 2 rfl) ?_
                refine lv_icmp_ge (tgt := 111) hx hb dX6_does_76 (by decide) (fun c_98 => ?_) (fun c_98 => ?_)
                · have h := h.1 c_98
                  refine lv_iload_n hx hb dX6_does_111 rfl (lv_at hl 1 rfl) ?_
                  refine lv_if_ne (tgt := 117) hx hb dX6_does_112 (by decide) (fun c_99 => ?_) (fun c_99 => ?_)
                  · have h := h.2 c_99
                    refine lv_iload_n hx hb dX6_does_117 rfl (lv_at hl 3 rfl) ?_
                    refine lv_lookup (off := 110) (tgt := 228) hx hb dX6_does_118 (by decide) (by show Op.lookupswitch.offset _ _ _ = _; rw [lv_osw (k := 105) c_31 (by decide), lv_osw (k := 111) c_2 (by decide), lv_osw (k := 112) c_59 (by decide), lv_osw (k := 119) c_30 (by decide)]; rfl) (by decide) ?_
                    refine lv_aload_n hx hb dX6_does_228 rfl (lv_at hl 4 rfl) ?_
                    refine lv_aload_n hx hb dX6_does_229 rfl (lv_at hl 4 rfl) ?_
                    refine va_get (D := G) (ci := 6) (v := .ref (q 6)) (C := RX6) (T := TX6) (N := 11) hx hb hts hinX6 hown hK hP 0 rfl rfl 10 (by decide) hL25 (fun _ h9 => h9) rfl dX6_does_230 ?_
                    refine lv_iconst (v := 0) hx hb dX6_does_233 (by decide) ?_
                    refine k_ald (f := (D_92 10)) (j := 0) (v := ((D_92 10) 0)) hx hb hK hP 6 0 rfl rfl (show ¬ ((0 : Int32) < 0 ∨ 2 ≤ (0 : Int32).toNatClampNeg) by decide) rfl rfl dX6_does_234 ?_
                    refine kc_i (As := [.int ((D_92 10) 0)]) (rest := []) (wg := (fun u => (wM cI q u))) ⟨hx, hb, hml, hown, hts⟩ (c_X6_cancel l G cI cC cD q _ D_92 ((D_92 10) 0) _ h) (cwV 1 hts gX6_does_X6_cancel rfl rfl rfl (by decide +kernel) ⟨Nat.le_of_ble_eq_true rfl, Nat.le_of_ble_eq_true rfl⟩) hK hN hP hD hS hA (em_MM cI q D_92) (fun u => rp_MM cI q D_92 u) rfl rfl rfl rfl hl.1 rfl (Nat.le_of_ble_eq_true rfl) dX6_does_235 ⟨Nat.zero_le _, Nat.zero_le _⟩ (fun r_100 u_101 H locs h hP hD hS => ?_)
                    refine ks_i (As := [.int r_100]) (rest := []) (wg := (fun _ => (wM cI q u_101))) ⟨hx, hb, hml, hown, hts⟩ (c_X6_asReason l G cI cC cD  _  r_100 _ h) (va_cwS 1 hts gX6_does_X6_asReason rfl rfl rfl (by decide +kernel) ⟨Nat.le_of_ble_eq_true rfl, Nat.le_of_ble_eq_true rfl⟩) hK hN hP hD hS hA (em_0 _) (fun _ => rp_self (em_0 _)) rfl hl.1 rfl (Nat.le_of_ble_eq_true rfl) dX6_does_238 ⟨Nat.zero_le _, Nat.zero_le _⟩ (fun r_102 _ H locs h hP hD hS => ?_)
                    exact W.iret (v := r_102) hx hb hr (fun t ht hW => ⟨⟨r_102, u_101, rfl, h, by rw [ht]; exact hP, hD⟩, hS.F ht⟩) hS.2.2 dX6_does_241
                  · have h := h.1 c_99
                    refine lv_iconst (v := 1) hx hb dX6_does_115 (by decide) ?_
                    exact W.iret (v := 1) hx hb hr (fun t ht hW => ⟨⟨1, D_92, rfl, h, by rw [ht]; exact hP, hD⟩, hS.F ht⟩) hS.2.2 dX6_does_116
                · have h := h.2 c_98
                  refine lv_iload_n hx hb dX6_does_79 rfl (lv_at hl 1 rfl) ?_
                  refine lv_if_eq (tgt := 111) hx hb dX6_does_80 (by decide) (fun c_103 => ?_) (fun c_103 => ?_)
                  · have h := h.1 c_103
                    refine lv_iload_n hx hb dX6_does_111 rfl (lv_at hl 1 rfl) ?_
                    refine lv_if_ne (tgt := 117) hx hb dX6_does_112 (by decide) (fun c => absurd c_103 c) (fun _ => ?_)
                    refine lv_iconst (v := 1) hx hb dX6_does_115 (by decide) ?_
                    exact W.iret (v := 1) hx hb hr (fun t ht hW => ⟨⟨1, D_92, rfl, h, by rw [ht]; exact hP, hD⟩, hS.F ht⟩) hS.2.2 dX6_does_116
                  · have h := h.2 c_103
                    refine lv_aload_n hx hb dX6_does_83 rfl (lv_at hl 4 rfl) ?_
                    refine lv_iload hx hb dX6_does_84 (lv_at hl 0 rfl) ?_
                    refine lv_iload hx hb dX6_does_86 (lv_at hl 0 rfl) ?_
                    refine lv_iload_n hx hb dX6_does_88 rfl (lv_at hl 2 rfl) ?_
                    refine lv_iconst (v := 1) hx hb dX6_does_89 (by decide) ?_
                    refine lv_isub hx hb dX6_does_90 ?_
                    refine lv_icmp_ne (tgt := 99) hx hb dX6_does_91 (by decide) (fun c_104 => ?_) (fun c_104 => ?_)
                    · have h := h.2 c_104
                      refine lv_bipush (v := 44) hx hb dX6_does_99 (by decide) ?_
                      refine kc_i (As := [.int x4_90, .int 44]) (rest := []) (wg := (fun u => (wM cI q u))) ⟨hx, hb, hml, hown, hts⟩ (c_X6_number l G cI cC cD q _ D_92 x4_90 44 _ h) (cwV 2 hts gX6_does_X6_number rfl rfl rfl (by decide +kernel) ⟨Nat.le_of_ble_eq_true rfl, Nat.le_of_ble_eq_true rfl⟩) hK hN hP hD hS hA (em_MM cI q D_92) (fun u => rp_MM cI q D_92 u) rfl rfl rfl rfl hl.1 rfl (Nat.le_of_ble_eq_true rfl) dX6_does_101 ⟨Nat.zero_le _, Nat.zero_le _⟩ (fun r_105 u_106 H locs h hP hD hS => ?_)
                      refine lv_istore_n (lv' := [(3, .int r_105), (4, .int x4_90), (2, .int 0), (1, .int ((M 6) (((M 8 0)).toNatClampNeg))), (0, .ref (q 0))]) hx hb dX6_does_104 rfl hl (by decide) rfl (fun ls hl => ?_)
                      refine lv_iinc (v := x4_90 + 1) (lv' := [(4, .int (x4_90 + 1)), (3, .int r_105), (2, .int 0), (1, .int ((M 6) (((M 8 0)).toNatClampNeg))), (0, .ref (q 0))]) hx hb dX6_does_105 hl (k := 1) rfl rfl (by decide) rfl (fun ls hl => ?_)
                      refine lv_goto (tgt := 73) hx hb dX6_does_108 (by decide) ?_
                      obtain ⟨n_107, lt_108, h_109⟩ := h
                      exact ih_93 n_107 lt_108 _ _ _ h_109 _ _ _ hP hD hS (lv_sub hl [0, 1, 2, 3, 4] rfl)
                    · have h := h.1 c_104
                      refine lv_bipush (v := 59) hx hb dX6_does_94 (by decide) ?_
                      refine lv_goto (tgt := 101) hx hb dX6_does_96 (by decide) ?_
                      refine kc_i (As := [.int x4_90, .int 59]) (rest := []) (wg := (fun u => (wM cI q u))) ⟨hx, hb, hml, hown, hts⟩ (c_X6_number l G cI cC cD q _ D_92 x4_90 59 _ h) (cwV 2 hts gX6_does_X6_number rfl rfl rfl (by decide +kernel) ⟨Nat.le_of_ble_eq_true rfl, Nat.le_of_ble_eq_true rfl⟩) hK hN hP hD hS hA (em_MM cI q D_92) (fun u => rp_MM cI q D_92 u) rfl rfl rfl rfl hl.1 rfl (Nat.le_of_ble_eq_true rfl) dX6_does_101 ⟨Nat.zero_le _, Nat.zero_le _⟩ (fun r_110 u_111 H locs h hP hD hS => ?_)
                      refine lv_istore_n (lv' := [(3, .int r_110), (4, .int x4_90), (2, .int 0), (1, .int ((M 6) (((M 8 0)).toNatClampNeg))), (0, .ref (q 0))]) hx hb dX6_does_104 rfl hl (by decide) rfl (fun ls hl => ?_)
                      refine lv_iinc (v := x4_90 + 1) (lv' := [(4, .int (x4_90 + 1)), (3, .int r_110), (2, .int 0), (1, .int ((M 6) (((M 8 0)).toNatClampNeg))), (0, .ref (q 0))]) hx hb dX6_does_105 hl (k := 1) rfl rfl (by decide) rfl (fun ls hl => ?_)
                      refine lv_goto (tgt := 73) hx hb dX6_does_108 (by decide) ?_
                      obtain ⟨n_112, lt_113, h_114⟩ := h
                      exact ih_93 n_112 lt_113 _ _ _ h_114 _ _ _ hP hD hS (lv_sub hl [0, 1, 2, 3, 4] rfl)
            exact lp_97 _ _ _ _ h_95 _ _ _ hP hD hS hl
          · have h := h.1 c_87
            refine lv_iconst (v := 1) hx hb dX6_does_54 (by decide) ?_
            refine lv_goto (tgt := 59) hx hb dX6_does_55 (by decide) ?_
            refine lv_istore_n (lv' := [(2, .int 1), (1, .int ((M 6) (((M 8 0)).toNatClampNeg))), (0, .ref (q 0))]) hx hb dX6_does_59 rfl hl (by decide) rfl (fun ls hl => ?_)
            refine lv_iload_n hx hb dX6_does_60 rfl (lv_at hl 0 rfl) ?_
            refine lv_if_le (tgt := 68) hx hb dX6_does_61 (by decide) (fun c => absurd c (by decide)) (fun _ => ?_)
            refine lv_iconst (v := 1) hx hb dX6_does_64 (by decide) ?_
            refine lv_goto (tgt := 69) hx hb dX6_does_65 (by decide) ?_
            refine lv_istore_n (lv' := [(3, .int 1), (2, .int 1), (1, .int ((M 6) (((M 8 0)).toNatClampNeg))), (0, .ref (q 0))]) hx hb dX6_does_69 rfl hl (by decide) rfl (fun ls hl => ?_)
            refine lv_iconst (v := 0) hx hb dX6_does_70 (by decide) ?_
            refine lv_istore (lv' := [(4, .int 0), (3, .int 1), (2, .int 1), (1, .int ((M 6) (((M 8 0)).toNatClampNeg))), (0, .ref (q 0))]) hx hb dX6_does_71 hl (by decide) rfl (fun ls hl => ?_)
            obtain ⟨I_116, n_121, h_122, hI_123⟩ := h
            have lp_124 : ∀ (n_115 : Nat) (x4_117 : Int32) (x3_118 : Int32) (D_119 : St), I_116 n_115 x4_117 x3_118 D_119 → ∀ (H : Heap) (locs : List Loc) (ls : Array Slot), va_P G vwCl (wM cI q D_119) H → va_D A (wM cI q D_119) → va_S A s.heap H locs → lv_has ls 5 [(4, .int x4_117), (3, .int x3_118), (2, .int 1), (1, .int ((M 6) (((M 8 0)).toNatClampNeg))), (0, .ref (q 0))] → W p l e (headSpec wsX6_does ({ frames := 6, cells := 0, slots := 0, locals := 133 })).room s m ([.ref (q 0)] : List Value).toArray below meth c H locs 0 0 (MQ below (va_Qi Q (BW G (fun u : St => (wM cI q u)) A) A) ([.ref (q 0)] : List Value).toArray s 0 0 A) (F0 m 73 ls []) := by
              intro n_115
              induction n_115 using Nat.strongRecOn with
              | ind n_115 ih_120 =>
                intro x4_117 x3_118 D_119 hIn H locs ls hP hD hS hl
                have h := hI_123 n_115 x4_117 x3_118 D_119 hIn
                refine lv_iload hx hb dX6_does_73 (lv_at hl 0 rfl) ?_
                refine lv_iload_n hx hb dX6_does_75 rfl (lv_at hl 2 rfl) ?_
                refine lv_icmp_ge (tgt := 111) hx hb dX6_does_76 (by decide) (fun c_125 => ?_) (fun c_125 => ?_)
                · have h := h.1 c_125
                  refine lv_iload_n hx hb dX6_does_111 rfl (lv_at hl 1 rfl) ?_
                  refine lv_if_ne (tgt := 117) hx hb dX6_does_112 (by decide) (fun c_126 => ?_) (fun c_126 => ?_)
                  · have h := h.2 c_126
                    refine lv_iload_n hx hb dX6_does_117 rfl (lv_at hl 3 rfl) ?_
                    refine lv_lookup (off := 110) (tgt := 228) hx hb dX6_does_118 (by decide) (by show Op.lookupswitch.offset _ _ _ = _; rw [lv_osw (k := 105) c_31 (by decide), lv_osw (k := 111) c_2 (by decide), lv_osw (k := 112) c_59 (by decide), lv_osw (k := 119) c_30 (by decide)]; rfl) (by decide) ?_
                    refine lv_aload_n hx hb dX6_does_228 rfl (lv_at hl 4 rfl) ?_
                    refine lv_aload_n hx hb dX6_does_229 rfl (lv_at hl 4 rfl) ?_
                    refine va_get (D := G) (ci := 6) (v := .ref (q 6)) (C := RX6) (T := TX6) (N := 11) hx hb hts hinX6 hown hK hP 0 rfl rfl 10 (by decide) hL25 (fun _ h9 => h9) rfl dX6_does_230 ?_
                    refine lv_iconst (v := 0) hx hb dX6_does_233 (by decide) ?_
                    refine k_ald (f := (D_119 10)) (j := 0) (v := ((D_119 10) 0)) hx hb hK hP 6 0 rfl rfl (show ¬ ((0 : Int32) < 0 ∨ 2 ≤ (0 : Int32).toNatClampNeg) by decide) rfl rfl dX6_does_234 ?_
                    refine kc_i (As := [.int ((D_119 10) 0)]) (rest := []) (wg := (fun u => (wM cI q u))) ⟨hx, hb, hml, hown, hts⟩ (c_X6_cancel l G cI cC cD q _ D_119 ((D_119 10) 0) _ h) (cwV 1 hts gX6_does_X6_cancel rfl rfl rfl (by decide +kernel) ⟨Nat.le_of_ble_eq_true rfl, Nat.le_of_ble_eq_true rfl⟩) hK hN hP hD hS hA (em_MM cI q D_119) (fun u => rp_MM cI q D_119 u) rfl rfl rfl rfl hl.1 rfl (Nat.le_of_ble_eq_true rfl) dX6_does_235 ⟨Nat.zero_le _, Nat.zero_le _⟩ (fun r_127 u_128 H locs h hP hD hS => ?_)
                    refine ks_i (As := [.int r_127]) (rest := []) (wg := (fun _ => (wM cI q u_128))) ⟨hx, hb, hml, hown, hts⟩ (c_X6_asReason l G cI cC cD  _  r_127 _ h) (va_cwS 1 hts gX6_does_X6_asReason rfl rfl rfl (by decide +kernel) ⟨Nat.le_of_ble_eq_true rfl, Nat.le_of_ble_eq_true rfl⟩) hK hN hP hD hS hA (em_0 _) (fun _ => rp_self (em_0 _)) rfl hl.1 rfl (Nat.le_of_ble_eq_true rfl) dX6_does_238 ⟨Nat.zero_le _, Nat.zero_le _⟩ (fun r_129 _ H locs h hP hD hS => ?_)
                    exact W.iret (v := r_129) hx hb hr (fun t ht hW => ⟨⟨r_129, u_128, rfl, h, by rw [ht]; exact hP, hD⟩, hS.F ht⟩) hS.2.2 dX6_does_241
                  · have h := h.1 c_126
                    refine lv_iconst (v := 1) hx hb dX6_does_115 (by decide) ?_
                    exact W.iret (v := 1) hx hb hr (fun t ht hW => ⟨⟨1, D_119, rfl, h, by rw [ht]; exact hP, hD⟩, hS.F ht⟩) hS.2.2 dX6_does_116
                · have h := h.2 c_125
                  refine lv_iload_n hx hb dX6_does_79 rfl (lv_at hl 1 rfl) ?_
                  refine lv_if_eq (tgt := 111) hx hb dX6_does_80 (by decide) (fun c_130 => ?_) (fun c_130 => ?_)
                  · have h := h.1 c_130
                    refine lv_iload_n hx hb dX6_does_111 rfl (lv_at hl 1 rfl) ?_
                    refine lv_if_ne (tgt := 117) hx hb dX6_does_112 (by decide) (fun c => absurd c_130 c) (fun _ => ?_)
                    refine lv_iconst (v := 1) hx hb dX6_does_115 (by decide) ?_
                    exact W.iret (v := 1) hx hb hr (fun t ht hW => ⟨⟨1, D_119, rfl, h, by rw [ht]; exact hP, hD⟩, hS.F ht⟩) hS.2.2 dX6_does_116
                  · have h := h.2 c_130
                    refine lv_aload_n hx hb dX6_does_83 rfl (lv_at hl 4 rfl) ?_
                    refine lv_iload hx hb dX6_does_84 (lv_at hl 0 rfl) ?_
                    refine lv_iload hx hb dX6_does_86 (lv_at hl 0 rfl) ?_
                    refine lv_iload_n hx hb dX6_does_88 rfl (lv_at hl 2 rfl) ?_
                    refine lv_iconst (v := 1) hx hb dX6_does_89 (by decide) ?_
                    refine lv_isub hx hb dX6_does_90 ?_
                    refine lv_icmp_ne (tgt := 99) hx hb dX6_does_91 (by decide) (fun c_131 => ?_) (fun c_131 => ?_)
                    · have h := h.2 c_131
                      refine lv_bipush (v := 44) hx hb dX6_does_99 (by decide) ?_
                      refine kc_i (As := [.int x4_117, .int 44]) (rest := []) (wg := (fun u => (wM cI q u))) ⟨hx, hb, hml, hown, hts⟩ (c_X6_number l G cI cC cD q _ D_119 x4_117 44 _ h) (cwV 2 hts gX6_does_X6_number rfl rfl rfl (by decide +kernel) ⟨Nat.le_of_ble_eq_true rfl, Nat.le_of_ble_eq_true rfl⟩) hK hN hP hD hS hA (em_MM cI q D_119) (fun u => rp_MM cI q D_119 u) rfl rfl rfl rfl hl.1 rfl (Nat.le_of_ble_eq_true rfl) dX6_does_101 ⟨Nat.zero_le _, Nat.zero_le _⟩ (fun r_132 u_133 H locs h hP hD hS => ?_)
                      refine lv_istore_n (lv' := [(3, .int r_132), (4, .int x4_117), (2, .int 1), (1, .int ((M 6) (((M 8 0)).toNatClampNeg))), (0, .ref (q 0))]) hx hb dX6_does_104 rfl hl (by decide) rfl (fun ls hl => ?_)
                      refine lv_iinc (v := x4_117 + 1) (lv' := [(4, .int (x4_117 + 1)), (3, .int r_132), (2, .int 1), (1, .int ((M 6) (((M 8 0)).toNatClampNeg))), (0, .ref (q 0))]) hx hb dX6_does_105 hl (k := 1) rfl rfl (by decide) rfl (fun ls hl => ?_)
                      refine lv_goto (tgt := 73) hx hb dX6_does_108 (by decide) ?_
                      obtain ⟨n_134, lt_135, h_136⟩ := h
                      exact ih_120 n_134 lt_135 _ _ _ h_136 _ _ _ hP hD hS (lv_sub hl [0, 1, 2, 3, 4] rfl)
                    · have h := h.1 c_131
                      refine lv_bipush (v := 59) hx hb dX6_does_94 (by decide) ?_
                      refine lv_goto (tgt := 101) hx hb dX6_does_96 (by decide) ?_
                      refine kc_i (As := [.int x4_117, .int 59]) (rest := []) (wg := (fun u => (wM cI q u))) ⟨hx, hb, hml, hown, hts⟩ (c_X6_number l G cI cC cD q _ D_119 x4_117 59 _ h) (cwV 2 hts gX6_does_X6_number rfl rfl rfl (by decide +kernel) ⟨Nat.le_of_ble_eq_true rfl, Nat.le_of_ble_eq_true rfl⟩) hK hN hP hD hS hA (em_MM cI q D_119) (fun u => rp_MM cI q D_119 u) rfl rfl rfl rfl hl.1 rfl (Nat.le_of_ble_eq_true rfl) dX6_does_101 ⟨Nat.zero_le _, Nat.zero_le _⟩ (fun r_137 u_138 H locs h hP hD hS => ?_)
                      refine lv_istore_n (lv' := [(3, .int r_137), (4, .int x4_117), (2, .int 1), (1, .int ((M 6) (((M 8 0)).toNatClampNeg))), (0, .ref (q 0))]) hx hb dX6_does_104 rfl hl (by decide) rfl (fun ls hl => ?_)
                      refine lv_iinc (v := x4_117 + 1) (lv' := [(4, .int (x4_117 + 1)), (3, .int r_137), (2, .int 1), (1, .int ((M 6) (((M 8 0)).toNatClampNeg))), (0, .ref (q 0))]) hx hb dX6_does_105 hl (k := 1) rfl rfl (by decide) rfl (fun ls hl => ?_)
                      refine lv_goto (tgt := 73) hx hb dX6_does_108 (by decide) ?_
                      obtain ⟨n_139, lt_140, h_141⟩ := h
                      exact ih_120 n_139 lt_140 _ _ _ h_141 _ _ _ hP hD hS (lv_sub hl [0, 1, 2, 3, 4] rfl)
            exact lp_124 _ _ _ _ h_122 _ _ _ hP hD hS hl
    · have h := h.1 c_30
      refine lv_iconst (v := 2) hx hb dX6_does_32 (by decide) ?_
      refine lv_goto (tgt := 59) hx hb dX6_does_33 (by decide) ?_
      refine lv_istore_n (lv' := [(2, .int 2), (1, .int ((M 6) (((M 8 0)).toNatClampNeg))), (0, .ref (q 0))]) hx hb dX6_does_59 rfl hl (by decide) rfl (fun ls hl => ?_)
      refine lv_iload_n hx hb dX6_does_60 rfl (lv_at hl 0 rfl) ?_
      refine lv_if_le (tgt := 68) hx hb dX6_does_61 (by decide) (fun c => absurd c (by decide)) (fun _ => ?_)
      refine lv_iconst (v := 1) hx hb dX6_does_64 (by decide) ?_
      refine lv_goto (tgt := 69) hx hb dX6_does_65 (by decide) ?_
      refine lv_istore_n (lv' := [(3, .int 1), (2, .int 2), (1, .int ((M 6) (((M 8 0)).toNatClampNeg))), (0, .ref (q 0))]) hx hb dX6_does_69 rfl hl (by decide) rfl (fun ls hl => ?_)
      refine lv_iconst (v := 0) hx hb dX6_does_70 (by decide) ?_
      refine lv_istore (lv' := [(4, .int 0), (3, .int 1), (2, .int 2), (1, .int ((M 6) (((M 8 0)).toNatClampNeg))), (0, .ref (q 0))]) hx hb dX6_does_71 hl (by decide) rfl (fun ls hl => ?_)
      obtain ⟨I_143, n_148, h_149, hI_150⟩ := h
      have lp_151 : ∀ (n_142 : Nat) (x4_144 : Int32) (x3_145 : Int32) (D_146 : St), I_143 n_142 x4_144 x3_145 D_146 → ∀ (H : Heap) (locs : List Loc) (ls : Array Slot), va_P G vwCl (wM cI q D_146) H → va_D A (wM cI q D_146) → va_S A s.heap H locs → lv_has ls 5 [(4, .int x4_144), (3, .int x3_145), (2, .int 2), (1, .int ((M 6) (((M 8 0)).toNatClampNeg))), (0, .ref (q 0))] → W p l e (headSpec wsX6_does ({ frames := 6, cells := 0, slots := 0, locals := 133 })).room s m ([.ref (q 0)] : List Value).toArray below meth c H locs 0 0 (MQ below (va_Qi Q (BW G (fun u : St => (wM cI q u)) A) A) ([.ref (q 0)] : List Value).toArray s 0 0 A) (F0 m 73 ls []) := by
        intro n_142
        induction n_142 using Nat.strongRecOn with
        | ind n_142 ih_147 =>
          intro x4_144 x3_145 D_146 hIn H locs ls hP hD hS hl
          have h := hI_150 n_142 x4_144 x3_145 D_146 hIn
          refine lv_iload hx hb dX6_does_73 (lv_at hl 0 rfl) ?_
          refine lv_iload_n hx hb dX6_does_75 rfl (lv_at hl 2 rfl) ?_
          refine lv_icmp_ge (tgt := 111) hx hb dX6_does_76 (by decide) (fun c_152 => ?_) (fun c_152 => ?_)
          · have h := h.1 c_152
            refine lv_iload_n hx hb dX6_does_111 rfl (lv_at hl 1 rfl) ?_
            refine lv_if_ne (tgt := 117) hx hb dX6_does_112 (by decide) (fun c_153 => ?_) (fun c_153 => ?_)
            · have h := h.2 c_153
              refine lv_iload_n hx hb dX6_does_117 rfl (lv_at hl 3 rfl) ?_
              refine lv_lookup (off := 62) (tgt := 180) hx hb dX6_does_118 (by decide) (by rw [c_30]; decide) (by decide) ?_
              refine lv_aload_n hx hb dX6_does_180 rfl (lv_at hl 4 rfl) ?_
              refine lv_aload_n hx hb dX6_does_181 rfl (lv_at hl 4 rfl) ?_
              refine va_get (D := G) (ci := 6) (v := .ref (q 6)) (C := RX6) (T := TX6) (N := 11) hx hb hts hinX6 hown hK hP 0 rfl rfl 10 (by decide) hL25 (fun _ h9 => h9) rfl dX6_does_182 ?_
              refine lv_iconst (v := 0) hx hb dX6_does_185 (by decide) ?_
              refine k_ald (f := (D_146 10)) (j := 0) (v := ((D_146 10) 0)) hx hb hK hP 6 0 rfl rfl (show ¬ ((0 : Int32) < 0 ∨ 2 ≤ (0 : Int32).toNatClampNeg) by decide) rfl rfl dX6_does_186 ?_
              refine lv_aload_n hx hb dX6_does_187 rfl (lv_at hl 4 rfl) ?_
              refine va_get (D := G) (ci := 6) (v := .ref (q 6)) (C := RX6) (T := TX6) (N := 11) hx hb hts hinX6 hown hK hP 0 rfl rfl 10 (by decide) hL25 (fun _ h9 => h9) rfl dX6_does_188 ?_
              refine lv_iconst (v := 1) hx hb dX6_does_191 (by decide) ?_
              refine k_ald (f := (D_146 10)) (j := 1) (v := ((D_146 10) 1)) hx hb hK hP 6 0 rfl rfl (show ¬ ((1 : Int32) < 0 ∨ 2 ≤ (1 : Int32).toNatClampNeg) by decide) rfl rfl dX6_does_192 ?_
              refine kc_i (As := [.int ((D_146 10) 0), .int ((D_146 10) 1)]) (rest := []) (wg := (fun u => (wM cI q u))) ⟨hx, hb, hml, hown, hts⟩ (c_X6_gate l G cI cC cD q _ D_146 ((D_146 10) 0) ((D_146 10) 1) _ h) (cwV 2 hts gX6_does_X6_gate rfl rfl rfl (by decide +kernel) ⟨Nat.le_of_ble_eq_true rfl, Nat.le_of_ble_eq_true rfl⟩) hK hN hP hD hS hA (em_MM cI q D_146) (fun u => rp_MM cI q D_146 u) rfl rfl rfl rfl hl.1 rfl (Nat.le_of_ble_eq_true rfl) dX6_does_193 ⟨Nat.zero_le _, Nat.zero_le _⟩ (fun r_154 u_155 H locs h hP hD hS => ?_)
              refine ks_i (As := [.int r_154]) (rest := []) (wg := (fun _ => (wM cI q u_155))) ⟨hx, hb, hml, hown, hts⟩ (c_X6_asReason l G cI cC cD  _  r_154 _ h) (va_cwS 1 hts gX6_does_X6_asReason rfl rfl rfl (by decide +kernel) ⟨Nat.le_of_ble_eq_true rfl, Nat.le_of_ble_eq_true rfl⟩) hK hN hP hD hS hA (em_0 _) (fun _ => rp_self (em_0 _)) rfl hl.1 rfl (Nat.le_of_ble_eq_true rfl) dX6_does_196 ⟨Nat.zero_le _, Nat.zero_le _⟩ (fun r_156 _ H locs h hP hD hS => ?_)
              exact W.iret (v := r_156) hx hb hr (fun t ht hW => ⟨⟨r_156, u_155, rfl, h, by rw [ht]; exact hP, hD⟩, hS.F ht⟩) hS.2.2 dX6_does_199
            · have h := h.1 c_153
              refine lv_iconst (v := 1) hx hb dX6_does_115 (by decide) ?_
              exact W.iret (v := 1) hx hb hr (fun t ht hW => ⟨⟨1, D_146, rfl, h, by rw [ht]; exact hP, hD⟩, hS.F ht⟩) hS.2.2 dX6_does_116
          · have h := h.2 c_152
            refine lv_iload_n hx hb dX6_does_79 rfl (lv_at hl 1 rfl) ?_
            refine lv_if_eq (tgt := 111) hx hb dX6_does_80 (by decide) (fun c_157 => ?_) (fun c_157 => ?_)
            · have h := h.1 c_157
              refine lv_iload_n hx hb dX6_does_111 rfl (lv_at hl 1 rfl) ?_
              refine lv_if_ne (tgt := 117) hx hb dX6_does_112 (by decide) (fun c => absurd c_157 c) (fun _ => ?_)
              refine lv_iconst (v := 1) hx hb dX6_does_115 (by decide) ?_
              exact W.iret (v := 1) hx hb hr (fun t ht hW => ⟨⟨1, D_146, rfl, h, by rw [ht]; exact hP, hD⟩, hS.F ht⟩) hS.2.2 dX6_does_116
            · have h := h.2 c_157
              refine lv_aload_n hx hb dX6_does_83 rfl (lv_at hl 4 rfl) ?_
              refine lv_iload hx hb dX6_does_84 (lv_at hl 0 rfl) ?_
              refine lv_iload hx hb dX6_does_86 (lv_at hl 0 rfl) ?_
              refine lv_iload_n hx hb dX6_does_88 rfl (lv_at hl 2 rfl) ?_
              refine lv_iconst (v := 1) hx hb dX6_does_89 (by decide) ?_
              refine lv_isub hx hb dX6_does_90 ?_
              refine lv_icmp_ne (tgt := 99) hx hb dX6_does_91 (by decide) (fun c_158 => ?_) (fun c_158 => ?_)
              · have h := h.2 c_158
                refine lv_bipush (v := 44) hx hb dX6_does_99 (by decide) ?_
                refine kc_i (As := [.int x4_144, .int 44]) (rest := []) (wg := (fun u => (wM cI q u))) ⟨hx, hb, hml, hown, hts⟩ (c_X6_number l G cI cC cD q _ D_146 x4_144 44 _ h) (cwV 2 hts gX6_does_X6_number rfl rfl rfl (by decide +kernel) ⟨Nat.le_of_ble_eq_true rfl, Nat.le_of_ble_eq_true rfl⟩) hK hN hP hD hS hA (em_MM cI q D_146) (fun u => rp_MM cI q D_146 u) rfl rfl rfl rfl hl.1 rfl (Nat.le_of_ble_eq_true rfl) dX6_does_101 ⟨Nat.zero_le _, Nat.zero_le _⟩ (fun r_159 u_160 H locs h hP hD hS => ?_)
                refine lv_istore_n (lv' := [(3, .int r_159), (4, .int x4_144), (2, .int 2), (1, .int ((M 6) (((M 8 0)).toNatClampNeg))), (0, .ref (q 0))]) hx hb dX6_does_104 rfl hl (by decide) rfl (fun ls hl => ?_)
                refine lv_iinc (v := x4_144 + 1) (lv' := [(4, .int (x4_144 + 1)), (3, .int r_159), (2, .int 2), (1, .int ((M 6) (((M 8 0)).toNatClampNeg))), (0, .ref (q 0))]) hx hb dX6_does_105 hl (k := 1) rfl rfl (by decide) rfl (fun ls hl => ?_)
                refine lv_goto (tgt := 73) hx hb dX6_does_108 (by decide) ?_
                obtain ⟨n_161, lt_162, h_163⟩ := h
                exact ih_147 n_161 lt_162 _ _ _ h_163 _ _ _ hP hD hS (lv_sub hl [0, 1, 2, 3, 4] rfl)
              · have h := h.1 c_158
                refine lv_bipush (v := 59) hx hb dX6_does_94 (by decide) ?_
                refine lv_goto (tgt := 101) hx hb dX6_does_96 (by decide) ?_
                refine kc_i (As := [.int x4_144, .int 59]) (rest := []) (wg := (fun u => (wM cI q u))) ⟨hx, hb, hml, hown, hts⟩ (c_X6_number l G cI cC cD q _ D_146 x4_144 59 _ h) (cwV 2 hts gX6_does_X6_number rfl rfl rfl (by decide +kernel) ⟨Nat.le_of_ble_eq_true rfl, Nat.le_of_ble_eq_true rfl⟩) hK hN hP hD hS hA (em_MM cI q D_146) (fun u => rp_MM cI q D_146 u) rfl rfl rfl rfl hl.1 rfl (Nat.le_of_ble_eq_true rfl) dX6_does_101 ⟨Nat.zero_le _, Nat.zero_le _⟩ (fun r_164 u_165 H locs h hP hD hS => ?_)
                refine lv_istore_n (lv' := [(3, .int r_164), (4, .int x4_144), (2, .int 2), (1, .int ((M 6) (((M 8 0)).toNatClampNeg))), (0, .ref (q 0))]) hx hb dX6_does_104 rfl hl (by decide) rfl (fun ls hl => ?_)
                refine lv_iinc (v := x4_144 + 1) (lv' := [(4, .int (x4_144 + 1)), (3, .int r_164), (2, .int 2), (1, .int ((M 6) (((M 8 0)).toNatClampNeg))), (0, .ref (q 0))]) hx hb dX6_does_105 hl (k := 1) rfl rfl (by decide) rfl (fun ls hl => ?_)
                refine lv_goto (tgt := 73) hx hb dX6_does_108 (by decide) ?_
                obtain ⟨n_166, lt_167, h_168⟩ := h
                exact ih_147 n_166 lt_167 _ _ _ h_168 _ _ _ hP hD hS (lv_sub hl [0, 1, 2, 3, 4] rfl)
      exact lp_151 _ _ _ _ h_149 _ _ _ hP hD hS hl
def q_X6_plays (M : St) (Q : Int32 → St → Prop) : Prop :=
  ∃ (I_2 : Nat → Int32 → St → Prop) (n_6 : Nat), I_2 n_6 0 (uA (uA (uA M 5 (fun _ => 1)) 8 (fun _ => 0)) 9 (fun _ => 0)) ∧ ∀ (n_1 : Nat) (x1_3 : Int32) (D_4 : St), I_2 n_1 x1_3 D_4 → (((D_4 7 0) ≤ (D_4 8 0) → ((D_4 9 0) = 0 → Q (-1000004) (uA D_4 5 (fun _ => 0))) ∧ (¬ ((D_4 9 0) = 0) → Q x1_3 (uA D_4 5 (fun _ => 0)))) ∧ (¬ ((D_4 7 0) ≤ (D_4 8 0)) → ((D_4 9 0) = 0 → q_X6_does D_4 (fun r_13 u_14 => ∃ n_15, n_15 < n_1 ∧ I_2 n_15 (D_4 8 0) (uA u_14 9 (fun _ => r_13)))) ∧ (¬ ((D_4 9 0) = 0) → Q x1_3 (uA D_4 5 (fun _ => 0)))))
set_option maxHeartbeats 4000000 in
set_option maxRecDepth 100000 in
theorem c_X6_plays (l : Launch) (G : va_G) (cI cC cD : ClassId) (q : Nat → Nat) (sz : Nat) (M : St)  (Q : Int32 → St → Prop) (h : q_X6_plays  M Q) : Met l yX6_plays wsX6_plays ({ frames := 7, cells := 0, slots := 0, locals := 157 }) (va_Pc [.ref (q 0)] (PW G (ty3 cI cC cD) (wM cI q M) sz)) (va_Qi Q (BW G (fun u : St => (wM cI q u)) (va_A (wM cI q M) sz)) (va_A (wM cI q M) sz)) 0 0 (va_A (wM cI q M) sz) := by
  refine Met.ofW (cc := cX6_plays) (maxL := 2) (ret := (some .int)) (by decide) rfl ?_
  intro p e s m args below meth c s₁ B hml hv
  obtain ⟨rfl, hsz, hP, hK, hD0, hN⟩ := hv
  have hx := B.exec
  have hb := B.bytes
  have hr := B.returns
  have hts := atoms_spec (ws := wsX6_plays) B.pre
  have hown : s.vm.findClass RX6 = some m.cls := findClass_of_methodNamed B.named
  have hlocks := B.notSynchronized
  subst hsz
  have hD := hD0.self (sz := s.heap.size)
  generalize hAe : va_A (wM cI q M) s.heap.size = A at hD ⊢
  have hA : ∀ q : Nat, s.heap.size ≤ q → A q := fun q h => by rw [← hAe]; exact Or.inr h
  have hS : va_S A s.heap s.heap [] := va_S.rf
  have hl := lv_entry ([.ref (q 0)]) (n := 2) (Nat.le_of_ble_eq_true rfl)
  rw [lg_entry_eq]
  generalize (lg_sl ([.ref (q 0)]) ++ List.replicate (2 - (lg_sl ([.ref (q 0)])).length) Slot.unset).toArray = ls at hl ⊢
  have hl : lv_has ls 2 [(0, .ref (q 0))] := hl
  have hinX6 : ∀ w ∈ wsX60, w ∈ wsX6_plays := by decide +kernel
  have hL28 := hts (.fieldLink RX6 28 "CraneGatesModel" "runs" "Z") (by decide +kernel)
  have hL143 := hts (.fieldLink RX6 143 "CraneGatesModel" "typed" "I") (by decide +kernel)
  have hL146 := hts (.fieldLink RX6 146 "CraneGatesModel" "spot" "I") (by decide +kernel)
  have hL173 := hts (.fieldLink RX6 173 "CraneGatesModel" "reason" "I") (by decide +kernel)
  unfold q_X6_plays at h
  refine lv_aload_n hx hb dX6_plays_0 rfl (lv_at hl 0 rfl) ?_
  refine lv_iconst (v := 1) hx hb dX6_plays_1 (by decide) ?_
  refine va_put (D := G) (ci := 6) (v := .int 1) (ty := .boolean) (C := RX6) (T := TX6) (N := 11) hx hb hts hinX6 tyX6 tyX6_ok nmX6 hown hK hP hD hS 0 rfl rfl 5 (by decide) hL28 (fun _ h9 => h9) rfl (by decide +kernel) rfl rfl (Nat.le_of_ble_eq_true rfl) dX6_plays_2 (fun H locs hP hD hS => ?_)
  have hP : va_P G vwCl (wM cI q (uA M 5 (fun _ => 1))) H := hP
  have hD : va_D A (wM cI q (uA M 5 (fun _ => 1))) := hD
  refine lv_aload_n hx hb dX6_plays_5 rfl (lv_at hl 0 rfl) ?_
  refine lv_iconst (v := 0) hx hb dX6_plays_6 (by decide) ?_
  refine va_put (D := G) (ci := 6) (v := .int 0) (ty := .int) (C := RX6) (T := TX6) (N := 11) hx hb hts hinX6 tyX6 tyX6_ok nmX6 hown hK hP hD hS 0 rfl rfl 8 (by decide) hL146 (fun _ h9 => h9) rfl (by decide +kernel) rfl rfl (Nat.le_of_ble_eq_true rfl) dX6_plays_7 (fun H locs hP hD hS => ?_)
  have hP : va_P G vwCl (wM cI q (uA (uA M 5 (fun _ => 1)) 8 (fun _ => 0))) H := hP
  have hD : va_D A (wM cI q (uA (uA M 5 (fun _ => 1)) 8 (fun _ => 0))) := hD
  refine lv_aload_n hx hb dX6_plays_10 rfl (lv_at hl 0 rfl) ?_
  refine lv_iconst (v := 0) hx hb dX6_plays_11 (by decide) ?_
  refine va_put (D := G) (ci := 6) (v := .int 0) (ty := .int) (C := RX6) (T := TX6) (N := 11) hx hb hts hinX6 tyX6 tyX6_ok nmX6 hown hK hP hD hS 0 rfl rfl 9 (by decide) hL173 (fun _ h9 => h9) rfl (by decide +kernel) rfl rfl (Nat.le_of_ble_eq_true rfl) dX6_plays_12 (fun H locs hP hD hS => ?_)
  have hP : va_P G vwCl (wM cI q (uA (uA (uA M 5 (fun _ => 1)) 8 (fun _ => 0)) 9 (fun _ => 0))) H := hP
  have hD : va_D A (wM cI q (uA (uA (uA M 5 (fun _ => 1)) 8 (fun _ => 0)) 9 (fun _ => 0))) := hD
  refine lv_iconst (v := 0) hx hb dX6_plays_15 (by decide) ?_
  refine lv_istore_n (lv' := [(1, .int 0), (0, .ref (q 0))]) hx hb dX6_plays_16 rfl hl (by decide) rfl (fun ls hl => ?_)
  obtain ⟨I_2, n_6, h_7, hI_8⟩ := h
  have lp_9 : ∀ (n_1 : Nat) (x1_3 : Int32) (D_4 : St), I_2 n_1 x1_3 D_4 → ∀ (H : Heap) (locs : List Loc) (ls : Array Slot), va_P G vwCl (wM cI q D_4) H → va_D A (wM cI q D_4) → va_S A s.heap H locs → lv_has ls 2 [(1, .int x1_3), (0, .ref (q 0))] → W p l e (headSpec wsX6_plays ({ frames := 7, cells := 0, slots := 0, locals := 157 })).room s m ([.ref (q 0)] : List Value).toArray below meth c H locs 0 0 (MQ below (va_Qi Q (BW G (fun u : St => (wM cI q u)) A) A) ([.ref (q 0)] : List Value).toArray s 0 0 A) (F0 m 17 ls []) := by
    intro n_1
    induction n_1 using Nat.strongRecOn with
    | ind n_1 ih_5 =>
      intro x1_3 D_4 hIn H locs ls hP hD hS hl
      have h := hI_8 n_1 x1_3 D_4 hIn
      refine lv_aload_n hx hb dX6_plays_17 rfl (lv_at hl 1 rfl) ?_
      refine va_get (D := G) (ci := 6) (v := .int (D_4 8 0)) (C := RX6) (T := TX6) (N := 11) hx hb hts hinX6 hown hK hP 0 rfl rfl 8 (by decide) hL146 (fun _ h9 => h9) rfl dX6_plays_18 ?_
      refine lv_aload_n hx hb dX6_plays_21 rfl (lv_at hl 1 rfl) ?_
      refine va_get (D := G) (ci := 6) (v := .int (D_4 7 0)) (C := RX6) (T := TX6) (N := 11) hx hb hts hinX6 hown hK hP 0 rfl rfl 7 (by decide) hL143 (fun _ h9 => h9) rfl dX6_plays_22 ?_
      refine lv_icmp_ge (tgt := 51) hx hb dX6_plays_25 (by decide) (fun c_10 => ?_) (fun c_10 => ?_)
      · have h := h.1 c_10
        refine lv_aload_n hx hb dX6_plays_51 rfl (lv_at hl 1 rfl) ?_
        refine lv_iconst (v := 0) hx hb dX6_plays_52 (by decide) ?_
        refine va_put (D := G) (ci := 6) (v := .int 0) (ty := .boolean) (C := RX6) (T := TX6) (N := 11) hx hb hts hinX6 tyX6 tyX6_ok nmX6 hown hK hP hD hS 0 rfl rfl 5 (by decide) hL28 (fun _ h9 => h9) rfl (by decide +kernel) rfl rfl (Nat.le_of_ble_eq_true rfl) dX6_plays_53 (fun H locs hP hD hS => ?_)
        have hP : va_P G vwCl (wM cI q (uA D_4 5 (fun _ => 0))) H := hP
        have hD : va_D A (wM cI q (uA D_4 5 (fun _ => 0))) := hD
        refine lv_aload_n hx hb dX6_plays_56 rfl (lv_at hl 1 rfl) ?_
        refine va_get (D := G) (ci := 6) (v := .int (D_4 9 0)) (C := RX6) (T := TX6) (N := 11) hx hb hts hinX6 hown hK hP 0 rfl rfl 9 (by decide) hL173 (fun _ h9 => h9) rfl dX6_plays_57 ?_
        refine lv_if_ne (tgt := 68) hx hb dX6_plays_60 (by decide) (fun c_11 => ?_) (fun c_11 => ?_)
        · have h := h.2 c_11
          refine lv_iload_n hx hb dX6_plays_68 rfl (lv_at hl 0 rfl) ?_
          exact W.iret (v := x1_3) hx hb hr (fun t ht hW => ⟨⟨x1_3, (uA D_4 5 (fun _ => 0)), rfl, h, by rw [ht]; exact hP, hD⟩, hS.F ht⟩) hS.2.2 dX6_plays_69
        · have h := h.1 c_11
          refine lv_ldc hx hb hown (hts (.constant RX6 40 (-1000004)) (by decide +kernel)) dX6_plays_63 ?_
          refine lv_goto (tgt := 69) hx hb dX6_plays_65 (by decide) ?_
          exact W.iret (v := (-1000004)) hx hb hr (fun t ht hW => ⟨⟨(-1000004), (uA D_4 5 (fun _ => 0)), rfl, h, by rw [ht]; exact hP, hD⟩, hS.F ht⟩) hS.2.2 dX6_plays_69
      · have h := h.2 c_10
        refine lv_aload_n hx hb dX6_plays_28 rfl (lv_at hl 1 rfl) ?_
        refine va_get (D := G) (ci := 6) (v := .int (D_4 9 0)) (C := RX6) (T := TX6) (N := 11) hx hb hts hinX6 hown hK hP 0 rfl rfl 9 (by decide) hL173 (fun _ h9 => h9) rfl dX6_plays_29 ?_
        refine lv_if_ne (tgt := 51) hx hb dX6_plays_32 (by decide) (fun c_12 => ?_) (fun c_12 => ?_)
        · have h := h.2 c_12
          refine lv_aload_n hx hb dX6_plays_51 rfl (lv_at hl 1 rfl) ?_
          refine lv_iconst (v := 0) hx hb dX6_plays_52 (by decide) ?_
          refine va_put (D := G) (ci := 6) (v := .int 0) (ty := .boolean) (C := RX6) (T := TX6) (N := 11) hx hb hts hinX6 tyX6 tyX6_ok nmX6 hown hK hP hD hS 0 rfl rfl 5 (by decide) hL28 (fun _ h9 => h9) rfl (by decide +kernel) rfl rfl (Nat.le_of_ble_eq_true rfl) dX6_plays_53 (fun H locs hP hD hS => ?_)
          have hP : va_P G vwCl (wM cI q (uA D_4 5 (fun _ => 0))) H := hP
          have hD : va_D A (wM cI q (uA D_4 5 (fun _ => 0))) := hD
          refine lv_aload_n hx hb dX6_plays_56 rfl (lv_at hl 1 rfl) ?_
          refine va_get (D := G) (ci := 6) (v := .int (D_4 9 0)) (C := RX6) (T := TX6) (N := 11) hx hb hts hinX6 hown hK hP 0 rfl rfl 9 (by decide) hL173 (fun _ h9 => h9) rfl dX6_plays_57 ?_
          refine lv_if_ne (tgt := 68) hx hb dX6_plays_60 (by decide) (fun _ => ?_) (fun c => absurd c c_12)
          refine lv_iload_n hx hb dX6_plays_68 rfl (lv_at hl 0 rfl) ?_
          exact W.iret (v := x1_3) hx hb hr (fun t ht hW => ⟨⟨x1_3, (uA D_4 5 (fun _ => 0)), rfl, h, by rw [ht]; exact hP, hD⟩, hS.F ht⟩) hS.2.2 dX6_plays_69
        · have h := h.1 c_12
          refine lv_aload_n hx hb dX6_plays_35 rfl (lv_at hl 1 rfl) ?_
          refine va_get (D := G) (ci := 6) (v := .int (D_4 8 0)) (C := RX6) (T := TX6) (N := 11) hx hb hts hinX6 hown hK hP 0 rfl rfl 8 (by decide) hL146 (fun _ h9 => h9) rfl dX6_plays_36 ?_
          refine lv_istore_n (lv' := [(1, .int (D_4 8 0)), (0, .ref (q 0))]) hx hb dX6_plays_39 rfl hl (by decide) rfl (fun ls hl => ?_)
          refine lv_aload_n hx hb dX6_plays_40 rfl (lv_at hl 1 rfl) ?_
          refine lv_aload_n hx hb dX6_plays_41 rfl (lv_at hl 1 rfl) ?_
          refine kc_i (As := []) (rest := [.ref (q 0)]) (wg := (fun u => (wM cI q u))) ⟨hx, hb, hml, hown, hts⟩ (c_X6_does l G cI cC cD q _ D_4  _ h) (cwV 0 hts gX6_plays_X6_does rfl rfl rfl (by decide +kernel) ⟨Nat.le_of_ble_eq_true rfl, Nat.le_of_ble_eq_true rfl⟩) hK hN hP hD hS hA (em_MM cI q D_4) (fun u => rp_MM cI q D_4 u) rfl rfl rfl rfl hl.1 rfl (Nat.le_of_ble_eq_true rfl) dX6_plays_42 ⟨Nat.zero_le _, Nat.zero_le _⟩ (fun r_13 u_14 H locs h hP hD hS => ?_)
          refine va_put (D := G) (ci := 6) (v := .int r_13) (ty := .int) (C := RX6) (T := TX6) (N := 11) hx hb hts hinX6 tyX6 tyX6_ok nmX6 hown hK hP hD hS 0 rfl rfl 9 (by decide) hL173 (fun _ h9 => h9) rfl (by decide +kernel) rfl rfl (Nat.le_of_ble_eq_true rfl) dX6_plays_45 (fun H locs hP hD hS => ?_)
          have hP : va_P G vwCl (wM cI q (uA u_14 9 (fun _ => r_13))) H := hP
          have hD : va_D A (wM cI q (uA u_14 9 (fun _ => r_13))) := hD
          refine lv_goto (tgt := 17) hx hb dX6_plays_48 (by decide) ?_
          obtain ⟨n_15, lt_16, h_17⟩ := h
          exact ih_5 n_15 lt_16 _ _ h_17 _ _ _ hP hD hS (lv_sub hl [0, 1] rfl)
  exact lp_9 _ _ _ h_7 _ _ _ hP hD hS hl
def q_X6_fault (x : Int32) (M : St) (Q : Int32 → St → Prop) : Prop :=
  q_X6_in x 0 1 (fun r_1 => (r_1 = 0 → Q (-1000001) M) ∧ (¬ (r_1 = 0) → q_X6_copies (fun i => cond (Nat.beq i 0) (M 0) (M 2)) (fun u_3 => q_X6_plays (uA (uA M 0 (u_3 0)) 2 (u_3 1)) (fun r_4 u_5 => q_X6_copies (fun i => cond (Nat.beq i 0) (u_5 2) (u_5 0)) (fun u_6 => (r_4 = (-1000004) → Q r_4 (uA (uA u_5 2 (u_6 0)) 0 (u_6 1))) ∧ (¬ (r_4 = (-1000004)) → (x = 0 → Q r_4 (uA (uA u_5 2 (u_6 0)) 0 (u_6 1))) ∧ (¬ (x = 0) → Q (u_5 9 0) (uA (uA u_5 2 (u_6 0)) 0 (u_6 1)))))))))
set_option maxHeartbeats 4000000 in
set_option maxRecDepth 100000 in
theorem c_X6_fault (l : Launch) (G : va_G) (cI cC cD : ClassId) (q : Nat → Nat) (sz : Nat) (M : St) (x : Int32) (Q : Int32 → St → Prop) (h : q_X6_fault x M Q) : Met l yX6_fault wsX6_fault ({ frames := 8, cells := 0, slots := 0, locals := 178 }) (va_Pc [.ref (q 0), .int x] (PW G (ty3 cI cC cD) (wM cI q M) sz)) (va_Qi Q (BW G (fun u : St => (wM cI q u)) (va_A (wM cI q M) sz)) (va_A (wM cI q M) sz)) 0 0 (va_A (wM cI q M) sz) := by
  refine Met.ofW (cc := cX6_fault) (maxL := 3) (ret := (some .int)) (by decide) rfl ?_
  intro p e s m args below meth c s₁ B hml hv
  obtain ⟨rfl, hsz, hP, hK, hD0, hN⟩ := hv
  have hx := B.exec
  have hb := B.bytes
  have hr := B.returns
  have hts := atoms_spec (ws := wsX6_fault) B.pre
  have hown : s.vm.findClass RX6 = some m.cls := findClass_of_methodNamed B.named
  have hlocks := B.notSynchronized
  subst hsz
  have hD := hD0.self (sz := s.heap.size)
  generalize hAe : va_A (wM cI q M) s.heap.size = A at hD ⊢
  have hA : ∀ q : Nat, s.heap.size ≤ q → A q := fun q h => by rw [← hAe]; exact Or.inr h
  have hS : va_S A s.heap s.heap [] := va_S.rf
  have hl := lv_entry ([.ref (q 0), .int x]) (n := 3) (Nat.le_of_ble_eq_true rfl)
  rw [lg_entry_eq]
  generalize (lg_sl ([.ref (q 0), .int x]) ++ List.replicate (3 - (lg_sl ([.ref (q 0), .int x])).length) Slot.unset).toArray = ls at hl ⊢
  have hl : lv_has ls 3 [(0, .ref (q 0)), (1, .int x)] := hl
  have hinX6 : ∀ w ∈ wsX60, w ∈ wsX6_fault := by decide +kernel
  have hL7 := hts (.fieldLink RX6 7 "CraneGatesModel" "s" "[I") (by decide +kernel)
  have hL16 := hts (.fieldLink RX6 16 "CraneGatesModel" "held" "[I") (by decide +kernel)
  have hL173 := hts (.fieldLink RX6 173 "CraneGatesModel" "reason" "I") (by decide +kernel)
  unfold q_X6_fault at h
  refine lv_iload_n hx hb dX6_fault_0 rfl (lv_at hl 1 rfl) ?_
  refine lv_iconst (v := 0) hx hb dX6_fault_1 (by decide) ?_
  refine lv_iconst (v := 1) hx hb dX6_fault_2 (by decide) ?_
  refine ks_i (As := [.int x, .int 0, .int 1]) (rest := []) (wg := (fun _ => (wM cI q M))) ⟨hx, hb, hml, hown, hts⟩ (c_X6_in l G cI cC cD  _  x 0 1 _ h) (va_cwS 3 hts gX6_fault_X6_in rfl rfl rfl (by decide +kernel) ⟨Nat.le_of_ble_eq_true rfl, Nat.le_of_ble_eq_true rfl⟩) hK hN hP hD hS hA (em_0 _) (fun _ => rp_self (em_0 _)) rfl hl.1 rfl (Nat.le_of_ble_eq_true rfl) dX6_fault_3 ⟨Nat.zero_le _, Nat.zero_le _⟩ (fun r_1 _ H locs h hP hD hS => ?_)
  refine lv_if_ne (tgt := 12) hx hb dX6_fault_6 (by decide) (fun c_2 => ?_) (fun c_2 => ?_)
  · have h := h.2 c_2
    refine lv_aload_n hx hb dX6_fault_12 rfl (lv_at hl 0 rfl) ?_
    refine va_get (D := G) (ci := 6) (v := .ref (q 1)) (C := RX6) (T := TX6) (N := 11) hx hb hts hinX6 hown hK hP 0 rfl rfl 0 (by decide) hL7 (fun _ h9 => h9) rfl dX6_fault_13 ?_
    refine lv_aload_n hx hb dX6_fault_16 rfl (lv_at hl 0 rfl) ?_
    refine va_get (D := G) (ci := 6) (v := .ref (q 3)) (C := RX6) (T := TX6) (N := 11) hx hb hts hinX6 hown hK hP 0 rfl rfl 2 (by decide) hL16 (fun _ h9 => h9) rfl dX6_fault_17 ?_
    refine ks_v (As := [.ref (q 1), .ref (q 3)]) (rest := []) (wg := (fun u => (wM cI q (uA (uA M 0 (u 0)) 2 (u 1))))) ⟨hx, hb, hml, hown, hts⟩ (c_X6_copies l G cI cC cD (q 1) (q 3) _ (fun i => cond (Nat.beq i 0) (M 0) (M 2))  _ h) (va_cwS 2 hts gX6_fault_X6_copies rfl rfl rfl (by decide +kernel) ⟨Nat.le_of_ble_eq_true rfl, Nat.le_of_ble_eq_true rfl⟩) hK hN hP hD hS hA (em_M2_02 cI q M) (fun u => rp_M2_02 cI q M u) rfl hl.1 rfl (Nat.le_of_ble_eq_true rfl) dX6_fault_20 ⟨Nat.zero_le _, Nat.zero_le _⟩ (fun u_3 H locs h hP hD hS => ?_)
    refine lv_aload_n hx hb dX6_fault_23 rfl (lv_at hl 0 rfl) ?_
    refine kc_i (As := []) (rest := []) (wg := (fun u => (wM cI q u))) ⟨hx, hb, hml, hown, hts⟩ (c_X6_plays l G cI cC cD q _ (uA (uA M 0 (u_3 0)) 2 (u_3 1))  _ h) (cwV 0 hts gX6_fault_X6_plays rfl rfl rfl (by decide +kernel) ⟨Nat.le_of_ble_eq_true rfl, Nat.le_of_ble_eq_true rfl⟩) hK hN hP hD hS hA (em_MM cI q (uA (uA M 0 (u_3 0)) 2 (u_3 1))) (fun u => rp_MM cI q (uA (uA M 0 (u_3 0)) 2 (u_3 1)) u) rfl rfl rfl rfl hl.1 rfl (Nat.le_of_ble_eq_true rfl) dX6_fault_24 ⟨Nat.zero_le _, Nat.zero_le _⟩ (fun r_4 u_5 H locs h hP hD hS => ?_)
    refine lv_istore_n (lv' := [(2, .int r_4), (0, .ref (q 0)), (1, .int x)]) hx hb dX6_fault_27 rfl hl (by decide) rfl (fun ls hl => ?_)
    refine lv_aload_n hx hb dX6_fault_28 rfl (lv_at hl 1 rfl) ?_
    refine va_get (D := G) (ci := 6) (v := .ref (q 3)) (C := RX6) (T := TX6) (N := 11) hx hb hts hinX6 hown hK hP 0 rfl rfl 2 (by decide) hL16 (fun _ h9 => h9) rfl dX6_fault_29 ?_
    refine lv_aload_n hx hb dX6_fault_32 rfl (lv_at hl 1 rfl) ?_
    refine va_get (D := G) (ci := 6) (v := .ref (q 1)) (C := RX6) (T := TX6) (N := 11) hx hb hts hinX6 hown hK hP 0 rfl rfl 0 (by decide) hL7 (fun _ h9 => h9) rfl dX6_fault_33 ?_
    refine ks_v (As := [.ref (q 3), .ref (q 1)]) (rest := []) (wg := (fun u => (wM cI q (uA (uA u_5 2 (u 0)) 0 (u 1))))) ⟨hx, hb, hml, hown, hts⟩ (c_X6_copies l G cI cC cD (q 3) (q 1) _ (fun i => cond (Nat.beq i 0) (u_5 2) (u_5 0))  _ h) (va_cwS 2 hts gX6_fault_X6_copies rfl rfl rfl (by decide +kernel) ⟨Nat.le_of_ble_eq_true rfl, Nat.le_of_ble_eq_true rfl⟩) hK hN hP hD hS hA (em_M2_20 cI q u_5) (fun u => rp_M2_20 cI q u_5 u) rfl hl.1 rfl (Nat.le_of_ble_eq_true rfl) dX6_fault_36 ⟨Nat.zero_le _, Nat.zero_le _⟩ (fun u_6 H locs h hP hD hS => ?_)
    refine lv_iload_n hx hb dX6_fault_39 rfl (lv_at hl 0 rfl) ?_
    refine lv_ldc hx hb hown (hts (.constant RX6 40 (-1000004)) (by decide +kernel)) dX6_fault_40 ?_
    refine lv_icmp_eq (tgt := 49) hx hb dX6_fault_42 (by decide) (fun c_7 => ?_) (fun c_7 => ?_)
    · have h := h.1 c_7
      refine lv_iload_n hx hb dX6_fault_49 rfl (lv_at hl 0 rfl) ?_
      refine lv_goto (tgt := 57) hx hb dX6_fault_50 (by decide) ?_
      exact W.iret (v := r_4) hx hb hr (fun t ht hW => ⟨⟨r_4, (uA (uA u_5 2 (u_6 0)) 0 (u_6 1)), rfl, h, by rw [ht]; exact hP, hD⟩, hS.F ht⟩) hS.2.2 dX6_fault_57
    · have h := h.2 c_7
      refine lv_iload_n hx hb dX6_fault_45 rfl (lv_at hl 2 rfl) ?_
      refine lv_if_ne (tgt := 53) hx hb dX6_fault_46 (by decide) (fun c_8 => ?_) (fun c_8 => ?_)
      · have h := h.2 c_8
        refine lv_aload_n hx hb dX6_fault_53 rfl (lv_at hl 1 rfl) ?_
        refine va_get (D := G) (ci := 6) (v := .int (u_5 9 0)) (C := RX6) (T := TX6) (N := 11) hx hb hts hinX6 hown hK hP 0 rfl rfl 9 (by decide) hL173 (fun _ h9 => h9) rfl dX6_fault_54 ?_
        exact W.iret (v := (u_5 9 0)) hx hb hr (fun t ht hW => ⟨⟨(u_5 9 0), (uA (uA u_5 2 (u_6 0)) 0 (u_6 1)), rfl, h, by rw [ht]; exact hP, hD⟩, hS.F ht⟩) hS.2.2 dX6_fault_57
      · have h := h.1 c_8
        refine lv_iload_n hx hb dX6_fault_49 rfl (lv_at hl 0 rfl) ?_
        refine lv_goto (tgt := 57) hx hb dX6_fault_50 (by decide) ?_
        exact W.iret (v := r_4) hx hb hr (fun t ht hW => ⟨⟨r_4, (uA (uA u_5 2 (u_6 0)) 0 (u_6 1)), rfl, h, by rw [ht]; exact hP, hD⟩, hS.F ht⟩) hS.2.2 dX6_fault_57
  · have h := h.1 c_2
    refine lv_ldc hx hb hown (hts (.constant RX6 103 (-1000001)) (by decide +kernel)) dX6_fault_9 ?_
    exact W.iret (v := (-1000001)) hx hb hr (fun t ht hW => ⟨⟨(-1000001), M, rfl, h, by rw [ht]; exact hP, hD⟩, hS.F ht⟩) hS.2.2 dX6_fault_11
def q_X6_play (M : St) (Q : Int32 → St → Prop) : Prop :=
  q_X6_copies (fun i => cond (Nat.beq i 0) (M 0) (M 2)) (fun u_1 => q_X6_plays (uA (uA M 0 (u_1 0)) 2 (u_1 1)) (fun r_2 u_3 => q_X6_copies (fun i => cond (Nat.beq i 0) (u_3 2) (u_3 0)) (fun u_4 => (r_2 = (-1000004) → q_X6_changes (uA (uA u_3 2 (u_4 0)) 0 (u_4 1)) (fun u_6 => q_X6_plays u_6 (fun r_7 u_8 => (r_7 = (-1000004) → Q ((u_8 0) 4) u_8) ∧ (¬ (r_7 = (-1000004)) → Q (-1000004) u_8)))) ∧ (¬ (r_2 = (-1000004)) → Q (-1000002) (uA (uA u_3 2 (u_4 0)) 0 (u_4 1))))))
set_option maxHeartbeats 4000000 in
set_option maxRecDepth 100000 in
theorem c_X6_play (l : Launch) (G : va_G) (cI cC cD : ClassId) (q : Nat → Nat) (sz : Nat) (M : St)  (Q : Int32 → St → Prop) (h : q_X6_play  M Q) : Met l yX6_play wsX6_play ({ frames := 8, cells := 0, slots := 0, locals := 178 }) (va_Pc [.ref (q 0)] (PW G (ty3 cI cC cD) (wM cI q M) sz)) (va_Qi Q (BW G (fun u : St => (wM cI q u)) (va_A (wM cI q M) sz)) (va_A (wM cI q M) sz)) 0 0 (va_A (wM cI q M) sz) := by
  refine Met.ofW (cc := cX6_play) (maxL := 2) (ret := (some .int)) (by decide) rfl ?_
  intro p e s m args below meth c s₁ B hml hv
  obtain ⟨rfl, hsz, hP, hK, hD0, hN⟩ := hv
  have hx := B.exec
  have hb := B.bytes
  have hr := B.returns
  have hts := atoms_spec (ws := wsX6_play) B.pre
  have hown : s.vm.findClass RX6 = some m.cls := findClass_of_methodNamed B.named
  have hlocks := B.notSynchronized
  subst hsz
  have hD := hD0.self (sz := s.heap.size)
  generalize hAe : va_A (wM cI q M) s.heap.size = A at hD ⊢
  have hA : ∀ q : Nat, s.heap.size ≤ q → A q := fun q h => by rw [← hAe]; exact Or.inr h
  have hS : va_S A s.heap s.heap [] := va_S.rf
  have hl := lv_entry ([.ref (q 0)]) (n := 2) (Nat.le_of_ble_eq_true rfl)
  rw [lg_entry_eq]
  generalize (lg_sl ([.ref (q 0)]) ++ List.replicate (2 - (lg_sl ([.ref (q 0)])).length) Slot.unset).toArray = ls at hl ⊢
  have hl : lv_has ls 2 [(0, .ref (q 0))] := hl
  have hinX6 : ∀ w ∈ wsX60, w ∈ wsX6_play := by decide +kernel
  have hL7 := hts (.fieldLink RX6 7 "CraneGatesModel" "s" "[I") (by decide +kernel)
  have hL16 := hts (.fieldLink RX6 16 "CraneGatesModel" "held" "[I") (by decide +kernel)
  unfold q_X6_play at h
  refine lv_aload_n hx hb dX6_play_0 rfl (lv_at hl 0 rfl) ?_
  refine va_get (D := G) (ci := 6) (v := .ref (q 1)) (C := RX6) (T := TX6) (N := 11) hx hb hts hinX6 hown hK hP 0 rfl rfl 0 (by decide) hL7 (fun _ h9 => h9) rfl dX6_play_1 ?_
  refine lv_aload_n hx hb dX6_play_4 rfl (lv_at hl 0 rfl) ?_
  refine va_get (D := G) (ci := 6) (v := .ref (q 3)) (C := RX6) (T := TX6) (N := 11) hx hb hts hinX6 hown hK hP 0 rfl rfl 2 (by decide) hL16 (fun _ h9 => h9) rfl dX6_play_5 ?_
  refine ks_v (As := [.ref (q 1), .ref (q 3)]) (rest := []) (wg := (fun u => (wM cI q (uA (uA M 0 (u 0)) 2 (u 1))))) ⟨hx, hb, hml, hown, hts⟩ (c_X6_copies l G cI cC cD (q 1) (q 3) _ (fun i => cond (Nat.beq i 0) (M 0) (M 2))  _ h) (va_cwS 2 hts gX6_play_X6_copies rfl rfl rfl (by decide +kernel) ⟨Nat.le_of_ble_eq_true rfl, Nat.le_of_ble_eq_true rfl⟩) hK hN hP hD hS hA (em_M2_02 cI q M) (fun u => rp_M2_02 cI q M u) rfl hl.1 rfl (Nat.le_of_ble_eq_true rfl) dX6_play_8 ⟨Nat.zero_le _, Nat.zero_le _⟩ (fun u_1 H locs h hP hD hS => ?_)
  refine lv_aload_n hx hb dX6_play_11 rfl (lv_at hl 0 rfl) ?_
  refine kc_i (As := []) (rest := []) (wg := (fun u => (wM cI q u))) ⟨hx, hb, hml, hown, hts⟩ (c_X6_plays l G cI cC cD q _ (uA (uA M 0 (u_1 0)) 2 (u_1 1))  _ h) (cwV 0 hts gX6_play_X6_plays rfl rfl rfl (by decide +kernel) ⟨Nat.le_of_ble_eq_true rfl, Nat.le_of_ble_eq_true rfl⟩) hK hN hP hD hS hA (em_MM cI q (uA (uA M 0 (u_1 0)) 2 (u_1 1))) (fun u => rp_MM cI q (uA (uA M 0 (u_1 0)) 2 (u_1 1)) u) rfl rfl rfl rfl hl.1 rfl (Nat.le_of_ble_eq_true rfl) dX6_play_12 ⟨Nat.zero_le _, Nat.zero_le _⟩ (fun r_2 u_3 H locs h hP hD hS => ?_)
  refine lv_istore_n (lv' := [(1, .int r_2), (0, .ref (q 0))]) hx hb dX6_play_15 rfl hl (by decide) rfl (fun ls hl => ?_)
  refine lv_aload_n hx hb dX6_play_16 rfl (lv_at hl 1 rfl) ?_
  refine va_get (D := G) (ci := 6) (v := .ref (q 3)) (C := RX6) (T := TX6) (N := 11) hx hb hts hinX6 hown hK hP 0 rfl rfl 2 (by decide) hL16 (fun _ h9 => h9) rfl dX6_play_17 ?_
  refine lv_aload_n hx hb dX6_play_20 rfl (lv_at hl 1 rfl) ?_
  refine va_get (D := G) (ci := 6) (v := .ref (q 1)) (C := RX6) (T := TX6) (N := 11) hx hb hts hinX6 hown hK hP 0 rfl rfl 0 (by decide) hL7 (fun _ h9 => h9) rfl dX6_play_21 ?_
  refine ks_v (As := [.ref (q 3), .ref (q 1)]) (rest := []) (wg := (fun u => (wM cI q (uA (uA u_3 2 (u 0)) 0 (u 1))))) ⟨hx, hb, hml, hown, hts⟩ (c_X6_copies l G cI cC cD (q 3) (q 1) _ (fun i => cond (Nat.beq i 0) (u_3 2) (u_3 0))  _ h) (va_cwS 2 hts gX6_play_X6_copies rfl rfl rfl (by decide +kernel) ⟨Nat.le_of_ble_eq_true rfl, Nat.le_of_ble_eq_true rfl⟩) hK hN hP hD hS hA (em_M2_20 cI q u_3) (fun u => rp_M2_20 cI q u_3 u) rfl hl.1 rfl (Nat.le_of_ble_eq_true rfl) dX6_play_24 ⟨Nat.zero_le _, Nat.zero_le _⟩ (fun u_4 H locs h hP hD hS => ?_)
  refine lv_iload_n hx hb dX6_play_27 rfl (lv_at hl 0 rfl) ?_
  refine lv_ldc hx hb hown (hts (.constant RX6 40 (-1000004)) (by decide +kernel)) dX6_play_28 ?_
  refine lv_icmp_eq (tgt := 36) hx hb dX6_play_30 (by decide) (fun c_5 => ?_) (fun c_5 => ?_)
  · have h := h.1 c_5
    refine lv_aload_n hx hb dX6_play_36 rfl (lv_at hl 1 rfl) ?_
    refine kc_v (As := []) (rest := []) (wg := (fun u => (wM cI q u))) ⟨hx, hb, hml, hown, hts⟩ (c_X6_changes l G cI cC cD q _ (uA (uA u_3 2 (u_4 0)) 0 (u_4 1))  _ h) (cwV 0 hts gX6_play_X6_changes rfl rfl rfl (by decide +kernel) ⟨Nat.le_of_ble_eq_true rfl, Nat.le_of_ble_eq_true rfl⟩) hK hN hP hD hS hA (em_MM cI q (uA (uA u_3 2 (u_4 0)) 0 (u_4 1))) (fun u => rp_MM cI q (uA (uA u_3 2 (u_4 0)) 0 (u_4 1)) u) rfl rfl rfl rfl hl.1 rfl (Nat.le_of_ble_eq_true rfl) dX6_play_37 ⟨Nat.zero_le _, Nat.zero_le _⟩ (fun u_6 H locs h hP hD hS => ?_)
    refine lv_aload_n hx hb dX6_play_40 rfl (lv_at hl 1 rfl) ?_
    refine kc_i (As := []) (rest := []) (wg := (fun u => (wM cI q u))) ⟨hx, hb, hml, hown, hts⟩ (c_X6_plays l G cI cC cD q _ u_6  _ h) (cwV 0 hts gX6_play_X6_plays rfl rfl rfl (by decide +kernel) ⟨Nat.le_of_ble_eq_true rfl, Nat.le_of_ble_eq_true rfl⟩) hK hN hP hD hS hA (em_MM cI q u_6) (fun u => rp_MM cI q u_6 u) rfl rfl rfl rfl hl.1 rfl (Nat.le_of_ble_eq_true rfl) dX6_play_41 ⟨Nat.zero_le _, Nat.zero_le _⟩ (fun r_7 u_8 H locs h hP hD hS => ?_)
    refine lv_ldc hx hb hown (hts (.constant RX6 40 (-1000004)) (by decide +kernel)) dX6_play_44 ?_
    refine lv_icmp_ne (tgt := 58) hx hb dX6_play_46 (by decide) (fun c_9 => ?_) (fun c_9 => ?_)
    · have h := h.2 c_9
      refine lv_ldc hx hb hown (hts (.constant RX6 40 (-1000004)) (by decide +kernel)) dX6_play_58 ?_
      exact W.iret (v := (-1000004)) hx hb hr (fun t ht hW => ⟨⟨(-1000004), u_8, rfl, h, by rw [ht]; exact hP, hD⟩, hS.F ht⟩) hS.2.2 dX6_play_60
    · have h := h.1 c_9
      refine lv_aload_n hx hb dX6_play_49 rfl (lv_at hl 1 rfl) ?_
      refine va_get (D := G) (ci := 6) (v := .ref (q 1)) (C := RX6) (T := TX6) (N := 11) hx hb hts hinX6 hown hK hP 0 rfl rfl 0 (by decide) hL7 (fun _ h9 => h9) rfl dX6_play_50 ?_
      refine lv_iconst (v := 4) hx hb dX6_play_53 (by decide) ?_
      refine k_ald (f := (u_8 0)) (j := 4) (v := ((u_8 0) 4)) hx hb hK hP 1 0 rfl rfl (show ¬ ((4 : Int32) < 0 ∨ 86 ≤ (4 : Int32).toNatClampNeg) by decide) rfl rfl dX6_play_54 ?_
      refine lv_goto (tgt := 60) hx hb dX6_play_55 (by decide) ?_
      exact W.iret (v := ((u_8 0) 4)) hx hb hr (fun t ht hW => ⟨⟨((u_8 0) 4), u_8, rfl, h, by rw [ht]; exact hP, hD⟩, hS.F ht⟩) hS.2.2 dX6_play_60
  · have h := h.2 c_5
    refine lv_ldc hx hb hown (hts (.constant RX6 112 (-1000002)) (by decide +kernel)) dX6_play_33 ?_
    exact W.iret (v := (-1000002)) hx hb hr (fun t ht hW => ⟨⟨(-1000002), (uA (uA u_3 2 (u_4 0)) 0 (u_4 1)), rfl, h, by rw [ht]; exact hP, hD⟩, hS.F ht⟩) hS.2.2 dX6_play_35
