def q_X6_leastFlood (x : Int32) (M : St) (Q : Int32 → St → Prop) : Prop :=
  q_X6_in x 1 60 (fun r_1 => (r_1 = 0 → Q (-1000001) M) ∧ (¬ (r_1 = 0) → (((M 0) 9) = 1 → Q 0 M) ∧ (¬ (((M 0) 9) = 1) → ∃ (I_5 : Nat → Int32 → Int32 → St → Prop) (n_10 : Nat), I_5 n_10 0 (-1000004) M ∧ ∀ (n_4 : Nat) (x3_6 : Int32) (x2_7 : Int32) (D_8 : St), I_5 n_4 x3_6 x2_7 D_8 → ((300 < x3_6 → Q x2_7 D_8) ∧ (¬ (300 < x3_6) → (0 ≤ x2_7 → Q x2_7 D_8) ∧ (¬ (0 ≤ x2_7) → q_X6_wouldFlood x3_6 x D_8 (fun r_16 u_17 => (r_16 = 0 → ∃ n_19, n_19 < n_4 ∧ I_5 n_19 (x3_6 + 1) x2_7 u_17) ∧ (¬ (r_16 = 0) → ∃ n_22, n_22 < n_4 ∧ I_5 n_22 (x3_6 + 1) x3_6 u_17))))))))
set_option maxHeartbeats 4000000 in
set_option maxRecDepth 100000 in
theorem c_X6_leastFlood (l : Launch) (G : va_G) (cI cC cD : ClassId) (q : Nat → Nat) (sz : Nat) (M : St) (x : Int32) (Q : Int32 → St → Prop) (h : q_X6_leastFlood x M Q) : Met l yX6_leastFlood wsX6_leastFlood ({ frames := 6, cells := 0, slots := 0, locals := 135 }) (va_Pc [.ref (q 0), .int x] (PW G (ty3 cI cC cD) (wM cI q M) sz)) (va_Qi Q (BW G (fun u : St => (wM cI q u)) (va_A (wM cI q M) sz)) (va_A (wM cI q M) sz)) 0 0 (va_A (wM cI q M) sz) := by
  refine Met.ofW (cc := cX6_leastFlood) (maxL := 4) (ret := (some .int)) (by decide) rfl ?_
  intro p e s m args below meth c s₁ B hml hv
  obtain ⟨rfl, hsz, hP, hK, hD0, hN⟩ := hv
  have hx := B.exec
  have hb := B.bytes
  have hr := B.returns
  have hts := atoms_spec (ws := wsX6_leastFlood) B.pre
  have hown : s.vm.findClass RX6 = some m.cls := findClass_of_methodNamed B.named
  have hlocks := B.notSynchronized
  subst hsz
  have hD := hD0.self (sz := s.heap.size)
  generalize hAe : va_A (wM cI q M) s.heap.size = A at hD ⊢
  have hA : ∀ q : Nat, s.heap.size ≤ q → A q := fun q h => by rw [← hAe]; exact Or.inr h
  have hS : va_S A s.heap s.heap [] := va_S.rf
  have hl := lv_entry ([.ref (q 0), .int x]) (n := 4) (Nat.le_of_ble_eq_true rfl)
  rw [lg_entry_eq]
  generalize (lg_sl ([.ref (q 0), .int x]) ++ List.replicate (4 - (lg_sl ([.ref (q 0), .int x])).length) Slot.unset).toArray = ls at hl ⊢
  have hl : lv_has ls 4 [(0, .ref (q 0)), (1, .int x)] := hl
  have hinX6 : ∀ w ∈ wsX60, w ∈ wsX6_leastFlood := by decide +kernel
  have hL7 := hts (.fieldLink RX6 7 "CraneGatesModel" "s" "[I") (by decide +kernel)
  unfold q_X6_leastFlood at h
  refine lv_iload_n hx hb dX6_leastFlood_0 rfl (lv_at hl 1 rfl) ?_
  refine lv_iconst (v := 1) hx hb dX6_leastFlood_1 (by decide) ?_
  refine lv_bipush (v := 60) hx hb dX6_leastFlood_2 (by decide) ?_
  refine ks_i (As := [.int x, .int 1, .int 60]) (rest := []) (wg := (fun _ => (wM cI q M))) ⟨hx, hb, hml, hown, hts⟩ (c_X6_in l G cI cC cD  _  x 1 60 _ h) (va_cwS 3 hts gX6_leastFlood_X6_in rfl rfl rfl (by decide +kernel) ⟨Nat.le_of_ble_eq_true rfl, Nat.le_of_ble_eq_true rfl⟩) hK hN hP hD hS hA (em_0 _) (fun _ => rp_self (em_0 _)) rfl hl.1 rfl (Nat.le_of_ble_eq_true rfl) dX6_leastFlood_4 ⟨Nat.zero_le _, Nat.zero_le _⟩ (fun r_1 _ H locs h hP hD hS => ?_)
  refine lv_if_ne (tgt := 13) hx hb dX6_leastFlood_7 (by decide) (fun c_2 => ?_) (fun c_2 => ?_)
  · have h := h.2 c_2
    refine lv_aload_n hx hb dX6_leastFlood_13 rfl (lv_at hl 0 rfl) ?_
    refine va_get (D := G) (ci := 6) (v := .ref (q 1)) (C := RX6) (T := TX6) (N := 11) hx hb hts hinX6 hown hK hP 0 rfl rfl 0 (by decide) hL7 (fun _ h9 => h9) rfl dX6_leastFlood_14 ?_
    refine lv_bipush (v := 9) hx hb dX6_leastFlood_17 (by decide) ?_
    refine k_ald (f := (M 0)) (j := 9) (v := ((M 0) 9)) hx hb hK hP 1 0 rfl rfl (show ¬ ((9 : Int32) < 0 ∨ 86 ≤ (9 : Int32).toNatClampNeg) by decide) rfl rfl dX6_leastFlood_19 ?_
    refine lv_iconst (v := 1) hx hb dX6_leastFlood_20 (by decide) ?_
    refine lv_icmp_ne (tgt := 26) hx hb dX6_leastFlood_21 (by decide) (fun c_3 => ?_) (fun c_3 => ?_)
    · have h := h.2 c_3
      refine lv_ldc hx hb hown (hts (.constant RX6 40 (-1000004)) (by decide +kernel)) dX6_leastFlood_26 ?_
      refine lv_istore_n (lv' := [(2, .int (-1000004)), (0, .ref (q 0)), (1, .int x)]) hx hb dX6_leastFlood_28 rfl hl (by decide) rfl (fun ls hl => ?_)
      refine lv_iconst (v := 0) hx hb dX6_leastFlood_29 (by decide) ?_
      refine lv_istore_n (lv' := [(3, .int 0), (2, .int (-1000004)), (0, .ref (q 0)), (1, .int x)]) hx hb dX6_leastFlood_30 rfl hl (by decide) rfl (fun ls hl => ?_)
      obtain ⟨I_5, n_10, h_11, hI_12⟩ := h
      have lp_13 : ∀ (n_4 : Nat) (x3_6 : Int32) (x2_7 : Int32) (D_8 : St), I_5 n_4 x3_6 x2_7 D_8 → ∀ (H : Heap) (locs : List Loc) (ls : Array Slot), va_P G vwCl (wM cI q D_8) H → va_D A (wM cI q D_8) → va_S A s.heap H locs → lv_has ls 4 [(3, .int x3_6), (2, .int x2_7), (0, .ref (q 0)), (1, .int x)] → W p l e (headSpec wsX6_leastFlood ({ frames := 6, cells := 0, slots := 0, locals := 135 })).room s m ([.ref (q 0), .int x] : List Value).toArray below meth c H locs 0 0 (MQ below (va_Qi Q (BW G (fun u : St => (wM cI q u)) A) A) ([.ref (q 0), .int x] : List Value).toArray s 0 0 A) (F0 m 31 ls []) := by
        intro n_4
        induction n_4 using Nat.strongRecOn with
        | ind n_4 ih_9 =>
          intro x3_6 x2_7 D_8 hIn H locs ls hP hD hS hl
          have h := hI_12 n_4 x3_6 x2_7 D_8 hIn
          refine lv_iload_n hx hb dX6_leastFlood_31 rfl (lv_at hl 0 rfl) ?_
          refine lv_sipush (v := 300) hx hb dX6_leastFlood_32 (by decide) ?_
          refine lv_icmp_gt (tgt := 63) hx hb dX6_leastFlood_35 (by decide) (fun c_14 => ?_) (fun c_14 => ?_)
          · have h := h.1 c_14
            refine lv_iload_n hx hb dX6_leastFlood_63 rfl (lv_at hl 1 rfl) ?_
            exact W.iret (v := x2_7) hx hb hr (fun t ht hW => ⟨⟨x2_7, D_8, rfl, h, by rw [ht]; exact hP, hD⟩, hS.F ht⟩) hS.2.2 dX6_leastFlood_64
          · have h := h.2 c_14
            refine lv_iload_n hx hb dX6_leastFlood_38 rfl (lv_at hl 1 rfl) ?_
            refine lv_if_ge (tgt := 63) hx hb dX6_leastFlood_39 (by decide) (fun c_15 => ?_) (fun c_15 => ?_)
            · have h := h.1 c_15
              refine lv_iload_n hx hb dX6_leastFlood_63 rfl (lv_at hl 1 rfl) ?_
              exact W.iret (v := x2_7) hx hb hr (fun t ht hW => ⟨⟨x2_7, D_8, rfl, h, by rw [ht]; exact hP, hD⟩, hS.F ht⟩) hS.2.2 dX6_leastFlood_64
            · have h := h.2 c_15
              refine lv_aload_n hx hb dX6_leastFlood_42 rfl (lv_at hl 2 rfl) ?_
              refine lv_iload_n hx hb dX6_leastFlood_43 rfl (lv_at hl 0 rfl) ?_
              refine lv_iload_n hx hb dX6_leastFlood_44 rfl (lv_at hl 3 rfl) ?_
              refine kc_i (As := [.int x3_6, .int x]) (rest := []) (wg := (fun u => (wM cI q u))) ⟨hx, hb, hml, hown, hts⟩ (c_X6_wouldFlood l G cI cC cD q _ D_8 x3_6 x _ h) (cwV 2 hts gX6_leastFlood_X6_wouldFlood rfl rfl rfl (by decide +kernel) ⟨Nat.le_of_ble_eq_true rfl, Nat.le_of_ble_eq_true rfl⟩) hK hN hP hD hS hA (em_MM cI q D_8) (fun u => rp_MM cI q D_8 u) rfl rfl rfl rfl hl.1 rfl (Nat.le_of_ble_eq_true rfl) dX6_leastFlood_45 ⟨Nat.zero_le _, Nat.zero_le _⟩ (fun r_16 u_17 H locs h hP hD hS => ?_)
              refine lv_if_eq (tgt := 55) hx hb dX6_leastFlood_48 (by decide) (fun c_18 => ?_) (fun c_18 => ?_)
              · have h := h.1 c_18
                refine lv_iload_n hx hb dX6_leastFlood_55 rfl (lv_at hl 1 rfl) ?_
                refine lv_istore_n (lv' := [(2, .int x2_7), (3, .int x3_6), (0, .ref (q 0)), (1, .int x)]) hx hb dX6_leastFlood_56 rfl hl (by decide) rfl (fun ls hl => ?_)
                refine lv_iinc (v := x3_6 + 1) (lv' := [(3, .int (x3_6 + 1)), (2, .int x2_7), (0, .ref (q 0)), (1, .int x)]) hx hb dX6_leastFlood_57 hl (k := 1) rfl rfl (by decide) rfl (fun ls hl => ?_)
                refine lv_goto (tgt := 31) hx hb dX6_leastFlood_60 (by decide) ?_
                obtain ⟨n_19, lt_20, h_21⟩ := h
                exact ih_9 n_19 lt_20 _ _ _ h_21 _ _ _ hP hD hS (lv_sub hl [0, 1, 2, 3] rfl)
              · have h := h.2 c_18
                refine lv_iload_n hx hb dX6_leastFlood_51 rfl (lv_at hl 0 rfl) ?_
                refine lv_goto (tgt := 56) hx hb dX6_leastFlood_52 (by decide) ?_
                refine lv_istore_n (lv' := [(2, .int x3_6), (3, .int x3_6), (0, .ref (q 0)), (1, .int x)]) hx hb dX6_leastFlood_56 rfl hl (by decide) rfl (fun ls hl => ?_)
                refine lv_iinc (v := x3_6 + 1) (lv' := [(3, .int (x3_6 + 1)), (2, .int x3_6), (0, .ref (q 0)), (1, .int x)]) hx hb dX6_leastFlood_57 hl (k := 1) rfl rfl (by decide) rfl (fun ls hl => ?_)
                refine lv_goto (tgt := 31) hx hb dX6_leastFlood_60 (by decide) ?_
                obtain ⟨n_22, lt_23, h_24⟩ := h
                exact ih_9 n_22 lt_23 _ _ _ h_24 _ _ _ hP hD hS (lv_sub hl [0, 1, 2, 3] rfl)
      exact lp_13 _ _ _ _ h_11 _ _ _ hP hD hS hl
    · have h := h.1 c_3
      refine lv_iconst (v := 0) hx hb dX6_leastFlood_24 (by decide) ?_
      exact W.iret (v := 0) hx hb hr (fun t ht hW => ⟨⟨0, M, rfl, h, by rw [ht]; exact hP, hD⟩, hS.F ht⟩) hS.2.2 dX6_leastFlood_25
  · have h := h.1 c_2
    refine lv_ldc hx hb hown (hts (.constant RX6 103 (-1000001)) (by decide +kernel)) dX6_leastFlood_10 ?_
    exact W.iret (v := (-1000001)) hx hb hr (fun t ht hW => ⟨⟨(-1000001), M, rfl, h, by rw [ht]; exact hP, hD⟩, hS.F ht⟩) hS.2.2 dX6_leastFlood_12
def q_X6_count (x : Int32) (M : St) (Q : Int32 → Prop) : Prop :=
  (x = 0 → vp_in (3 + x) 86 ∧ (Q ((M 0) (((3 + x)).toNatClampNeg)))) ∧ (¬ (x = 0) → (x = 1 → vp_in (3 + x) 86 ∧ (Q ((M 0) (((3 + x)).toNatClampNeg)))) ∧ (¬ (x = 1) → (x = 2 → vp_in (3 + x) 86 ∧ (Q ((M 0) (((3 + x)).toNatClampNeg)))) ∧ (¬ (x = 2) → (x = 3 → q_X6_head M (fun r_8 => Q r_8)) ∧ (¬ (x = 3) → (x = 4 → vp_in ((12 + x) - 4) 86 ∧ (Q ((M 0) ((((12 + x) - 4)).toNatClampNeg)))) ∧ (¬ (x = 4) → (x = 5 → vp_in ((12 + x) - 4) 86 ∧ (Q ((M 0) ((((12 + x) - 4)).toNatClampNeg)))) ∧ (¬ (x = 5) → (x = 6 → vp_in ((12 + x) - 4) 86 ∧ (Q ((M 0) ((((12 + x) - 4)).toNatClampNeg)))) ∧ (¬ (x = 6) → (x = 7 → vp_in ((12 + x) - 4) 86 ∧ (Q ((M 0) ((((12 + x) - 4)).toNatClampNeg)))) ∧ (¬ (x = 7) → (x = 8 → Q ((M 0) 10)) ∧ (¬ (x = 8) → (x = 9 → Q ((M 0) 9)) ∧ (¬ (x = 9) → (x = 10 → Q ((M 0) 16)) ∧ (¬ (x = 10) → (x = 11 → Q (M 4 0)) ∧ (¬ (x = 11) → (x = 12 → Q (M 7 0)) ∧ (¬ (x = 12) → (x = 13 → Q (-1000001)) ∧ (¬ (x = 13) → (x = 14 → Q (-1000001)) ∧ (¬ (x = 14) → (x = 15 → Q (-1000001)) ∧ (¬ (x = 15) → (x = 16 → Q (-1000001)) ∧ (¬ (x = 16) → (x = 17 → Q (-1000001)) ∧ (¬ (x = 17) → (x = 18 → Q (-1000001)) ∧ (¬ (x = 18) → (x = 19 → Q (-1000001)) ∧ (¬ (x = 19) → (x = 20 → vp_in (x - 20) 86 ∧ (Q ((M 0) (((x - 20)).toNatClampNeg)))) ∧ (¬ (x = 20) → (x = 21 → vp_in (x - 20) 86 ∧ (Q ((M 0) (((x - 20)).toNatClampNeg)))) ∧ (¬ (x = 21) → (x = 22 → vp_in (x - 20) 86 ∧ (Q ((M 0) (((x - 20)).toNatClampNeg)))) ∧ (¬ (x = 22) → Q (-1000001))))))))))))))))))))))))
set_option maxHeartbeats 4000000 in
set_option maxRecDepth 100000 in
theorem c_X6_count (l : Launch) (G : va_G) (cI cC cD : ClassId) (q : Nat → Nat) (sz : Nat) (M : St) (x : Int32) (Q : Int32 → Prop) (h : q_X6_count x M Q) : Met l yX6_count wsX6_count ({ frames := 1, cells := 0, slots := 0, locals := 20 }) (va_Pc [.ref (q 0), .int x] (PW G (ty3 cI cC cD) (wM cI q M) sz)) (va_Qi (fun (r : Int32) (_ : Unit) => Q r) (BW G (fun _ : Unit => (wM cI q M)) (va_A (wM cI q M) sz)) (va_A (wM cI q M) sz)) 0 0 (va_A (wM cI q M) sz) := by
  refine Met.ofW (cc := cX6_count) (maxL := 2) (ret := (some .int)) (by decide) rfl ?_
  intro p e s m args below meth c s₁ B hml hv
  obtain ⟨rfl, hsz, hP, hK, hD0, hN⟩ := hv
  have hx := B.exec
  have hb := B.bytes
  have hr := B.returns
  have hts := atoms_spec (ws := wsX6_count) B.pre
  have hown : s.vm.findClass RX6 = some m.cls := findClass_of_methodNamed B.named
  have hlocks := B.notSynchronized
  subst hsz
  have hD := hD0.self (sz := s.heap.size)
  generalize hAe : va_A (wM cI q M) s.heap.size = A at hD ⊢
  have hA : ∀ q : Nat, s.heap.size ≤ q → A q := fun q h => by rw [← hAe]; exact Or.inr h
  have hS : va_S A s.heap s.heap [] := va_S.rf
  have hl := lv_entry ([.ref (q 0), .int x]) (n := 2) (Nat.le_of_ble_eq_true rfl)
  rw [lg_entry_eq]
  generalize (lg_sl ([.ref (q 0), .int x]) ++ List.replicate (2 - (lg_sl ([.ref (q 0), .int x])).length) Slot.unset).toArray = ls at hl ⊢
  have hl : lv_has ls 2 [(0, .ref (q 0)), (1, .int x)] := hl
  have hinX6 : ∀ w ∈ wsX60, w ∈ wsX6_count := by decide +kernel
  have hL7 := hts (.fieldLink RX6 7 "CraneGatesModel" "s" "[I") (by decide +kernel)
  have hL32 := hts (.fieldLink RX6 32 "CraneGatesModel" "pasts" "I") (by decide +kernel)
  have hL143 := hts (.fieldLink RX6 143 "CraneGatesModel" "typed" "I") (by decide +kernel)
  unfold q_X6_count at h
  refine lv_iload_n hx hb dX6_count_0 rfl (lv_at hl 1 rfl) ?_
  by_cases c_1 : x = 0
  · have h := h.1 c_1
    refine lv_tableIn (off := 107) (tgt := 108) hx hb dX6_count_1 (by rw [c_1]; decide) (by rw [c_1]; decide) (by rw [c_1]; rfl) (by decide) ?_
    refine lv_aload_n hx hb dX6_count_108 rfl (lv_at hl 0 rfl) ?_
    refine va_get (D := G) (ci := 6) (v := .ref (q 1)) (C := RX6) (T := TX6) (N := 11) hx hb hts hinX6 hown hK hP 0 rfl rfl 0 (by decide) hL7 (fun _ h9 => h9) rfl dX6_count_109 ?_
    refine lv_iconst (v := 3) hx hb dX6_count_112 (by decide) ?_
    refine lv_iload_n hx hb dX6_count_113 rfl (lv_at hl 1 rfl) ?_
    refine lv_iadd hx hb dX6_count_114 ?_
    obtain ⟨hi_2, h⟩ := h
    refine k_ald (f := (M 0)) (j := ((3 + x)).toNatClampNeg) (v := ((M 0) (((3 + x)).toNatClampNeg))) hx hb hK hP 1 0 rfl rfl hi_2 rfl rfl dX6_count_115 ?_
    exact W.iret (v := ((M 0) (((3 + x)).toNatClampNeg))) hx hb hr (fun t ht hW => ⟨⟨((M 0) (((3 + x)).toNatClampNeg)), (), rfl, h, by rw [ht]; exact hP, hD⟩, hS.F ht⟩) hS.2.2 dX6_count_116
  · have h := h.2 c_1
    by_cases c_3 : x = 1
    · have h := h.1 c_3
      refine lv_tableIn (off := 107) (tgt := 108) hx hb dX6_count_1 (by rw [c_3]; decide) (by rw [c_3]; decide) (by rw [c_3]; rfl) (by decide) ?_
      refine lv_aload_n hx hb dX6_count_108 rfl (lv_at hl 0 rfl) ?_
      refine va_get (D := G) (ci := 6) (v := .ref (q 1)) (C := RX6) (T := TX6) (N := 11) hx hb hts hinX6 hown hK hP 0 rfl rfl 0 (by decide) hL7 (fun _ h9 => h9) rfl dX6_count_109 ?_
      refine lv_iconst (v := 3) hx hb dX6_count_112 (by decide) ?_
      refine lv_iload_n hx hb dX6_count_113 rfl (lv_at hl 1 rfl) ?_
      refine lv_iadd hx hb dX6_count_114 ?_
      obtain ⟨hi_4, h⟩ := h
      refine k_ald (f := (M 0)) (j := ((3 + x)).toNatClampNeg) (v := ((M 0) (((3 + x)).toNatClampNeg))) hx hb hK hP 1 0 rfl rfl hi_4 rfl rfl dX6_count_115 ?_
      exact W.iret (v := ((M 0) (((3 + x)).toNatClampNeg))) hx hb hr (fun t ht hW => ⟨⟨((M 0) (((3 + x)).toNatClampNeg)), (), rfl, h, by rw [ht]; exact hP, hD⟩, hS.F ht⟩) hS.2.2 dX6_count_116
    · have h := h.2 c_3
      by_cases c_5 : x = 2
      · have h := h.1 c_5
        refine lv_tableIn (off := 107) (tgt := 108) hx hb dX6_count_1 (by rw [c_5]; decide) (by rw [c_5]; decide) (by rw [c_5]; rfl) (by decide) ?_
        refine lv_aload_n hx hb dX6_count_108 rfl (lv_at hl 0 rfl) ?_
        refine va_get (D := G) (ci := 6) (v := .ref (q 1)) (C := RX6) (T := TX6) (N := 11) hx hb hts hinX6 hown hK hP 0 rfl rfl 0 (by decide) hL7 (fun _ h9 => h9) rfl dX6_count_109 ?_
        refine lv_iconst (v := 3) hx hb dX6_count_112 (by decide) ?_
        refine lv_iload_n hx hb dX6_count_113 rfl (lv_at hl 1 rfl) ?_
        refine lv_iadd hx hb dX6_count_114 ?_
        obtain ⟨hi_6, h⟩ := h
        refine k_ald (f := (M 0)) (j := ((3 + x)).toNatClampNeg) (v := ((M 0) (((3 + x)).toNatClampNeg))) hx hb hK hP 1 0 rfl rfl hi_6 rfl rfl dX6_count_115 ?_
        exact W.iret (v := ((M 0) (((3 + x)).toNatClampNeg))) hx hb hr (fun t ht hW => ⟨⟨((M 0) (((3 + x)).toNatClampNeg)), (), rfl, h, by rw [ht]; exact hP, hD⟩, hS.F ht⟩) hS.2.2 dX6_count_116
      · have h := h.2 c_5
        by_cases c_7 : x = 3
        · have h := h.1 c_7
          refine lv_tableIn (off := 116) (tgt := 117) hx hb dX6_count_1 (by rw [c_7]; decide) (by rw [c_7]; decide) (by rw [c_7]; rfl) (by decide) ?_
          refine lv_aload_n hx hb dX6_count_117 rfl (lv_at hl 0 rfl) ?_
          refine kc_i (As := []) (rest := []) (wg := (fun _ => (wM cI q M))) ⟨hx, hb, hml, hown, hts⟩ (c_X6_head l G cI cC cD q _ M  _ h) (cwV 0 hts gX6_count_X6_head rfl rfl rfl (by decide +kernel) ⟨Nat.le_of_ble_eq_true rfl, Nat.le_of_ble_eq_true rfl⟩) hK hN hP hD hS hA (em_MM cI q M) (fun _ => rp_self (em_MM cI q M)) rfl rfl rfl rfl hl.1 rfl (Nat.le_of_ble_eq_true rfl) dX6_count_118 ⟨Nat.zero_le _, Nat.zero_le _⟩ (fun r_8 _ H locs h hP hD hS => ?_)
          exact W.iret (v := r_8) hx hb hr (fun t ht hW => ⟨⟨r_8, (), rfl, h, by rw [ht]; exact hP, hD⟩, hS.F ht⟩) hS.2.2 dX6_count_121
        · have h := h.2 c_7
          by_cases c_9 : x = 4
          · have h := h.1 c_9
            refine lv_tableIn (off := 121) (tgt := 122) hx hb dX6_count_1 (by rw [c_9]; decide) (by rw [c_9]; decide) (by rw [c_9]; rfl) (by decide) ?_
            refine lv_aload_n hx hb dX6_count_122 rfl (lv_at hl 0 rfl) ?_
            refine va_get (D := G) (ci := 6) (v := .ref (q 1)) (C := RX6) (T := TX6) (N := 11) hx hb hts hinX6 hown hK hP 0 rfl rfl 0 (by decide) hL7 (fun _ h9 => h9) rfl dX6_count_123 ?_
            refine lv_bipush (v := 12) hx hb dX6_count_126 (by decide) ?_
            refine lv_iload_n hx hb dX6_count_128 rfl (lv_at hl 1 rfl) ?_
            refine lv_iadd hx hb dX6_count_129 ?_
            refine lv_iconst (v := 4) hx hb dX6_count_130 (by decide) ?_
            refine lv_isub hx hb dX6_count_131 ?_
            obtain ⟨hi_10, h⟩ := h
            refine k_ald (f := (M 0)) (j := (((12 + x) - 4)).toNatClampNeg) (v := ((M 0) ((((12 + x) - 4)).toNatClampNeg))) hx hb hK hP 1 0 rfl rfl hi_10 rfl rfl dX6_count_132 ?_
            exact W.iret (v := ((M 0) ((((12 + x) - 4)).toNatClampNeg))) hx hb hr (fun t ht hW => ⟨⟨((M 0) ((((12 + x) - 4)).toNatClampNeg)), (), rfl, h, by rw [ht]; exact hP, hD⟩, hS.F ht⟩) hS.2.2 dX6_count_133
          · have h := h.2 c_9
            by_cases c_11 : x = 5
            · have h := h.1 c_11
              refine lv_tableIn (off := 121) (tgt := 122) hx hb dX6_count_1 (by rw [c_11]; decide) (by rw [c_11]; decide) (by rw [c_11]; rfl) (by decide) ?_
              refine lv_aload_n hx hb dX6_count_122 rfl (lv_at hl 0 rfl) ?_
              refine va_get (D := G) (ci := 6) (v := .ref (q 1)) (C := RX6) (T := TX6) (N := 11) hx hb hts hinX6 hown hK hP 0 rfl rfl 0 (by decide) hL7 (fun _ h9 => h9) rfl dX6_count_123 ?_
              refine lv_bipush (v := 12) hx hb dX6_count_126 (by decide) ?_
              refine lv_iload_n hx hb dX6_count_128 rfl (lv_at hl 1 rfl) ?_
              refine lv_iadd hx hb dX6_count_129 ?_
              refine lv_iconst (v := 4) hx hb dX6_count_130 (by decide) ?_
              refine lv_isub hx hb dX6_count_131 ?_
              obtain ⟨hi_12, h⟩ := h
              refine k_ald (f := (M 0)) (j := (((12 + x) - 4)).toNatClampNeg) (v := ((M 0) ((((12 + x) - 4)).toNatClampNeg))) hx hb hK hP 1 0 rfl rfl hi_12 rfl rfl dX6_count_132 ?_
              exact W.iret (v := ((M 0) ((((12 + x) - 4)).toNatClampNeg))) hx hb hr (fun t ht hW => ⟨⟨((M 0) ((((12 + x) - 4)).toNatClampNeg)), (), rfl, h, by rw [ht]; exact hP, hD⟩, hS.F ht⟩) hS.2.2 dX6_count_133
            · have h := h.2 c_11
              by_cases c_13 : x = 6
              · have h := h.1 c_13
                refine lv_tableIn (off := 121) (tgt := 122) hx hb dX6_count_1 (by rw [c_13]; decide) (by rw [c_13]; decide) (by rw [c_13]; rfl) (by decide) ?_
                refine lv_aload_n hx hb dX6_count_122 rfl (lv_at hl 0 rfl) ?_
                refine va_get (D := G) (ci := 6) (v := .ref (q 1)) (C := RX6) (T := TX6) (N := 11) hx hb hts hinX6 hown hK hP 0 rfl rfl 0 (by decide) hL7 (fun _ h9 => h9) rfl dX6_count_123 ?_
                refine lv_bipush (v := 12) hx hb dX6_count_126 (by decide) ?_
                refine lv_iload_n hx hb dX6_count_128 rfl (lv_at hl 1 rfl) ?_
                refine lv_iadd hx hb dX6_count_129 ?_
                refine lv_iconst (v := 4) hx hb dX6_count_130 (by decide) ?_
                refine lv_isub hx hb dX6_count_131 ?_
                obtain ⟨hi_14, h⟩ := h
                refine k_ald (f := (M 0)) (j := (((12 + x) - 4)).toNatClampNeg) (v := ((M 0) ((((12 + x) - 4)).toNatClampNeg))) hx hb hK hP 1 0 rfl rfl hi_14 rfl rfl dX6_count_132 ?_
                exact W.iret (v := ((M 0) ((((12 + x) - 4)).toNatClampNeg))) hx hb hr (fun t ht hW => ⟨⟨((M 0) ((((12 + x) - 4)).toNatClampNeg)), (), rfl, h, by rw [ht]; exact hP, hD⟩, hS.F ht⟩) hS.2.2 dX6_count_133
              · have h := h.2 c_13
                by_cases c_15 : x = 7
                · have h := h.1 c_15
                  refine lv_tableIn (off := 121) (tgt := 122) hx hb dX6_count_1 (by rw [c_15]; decide) (by rw [c_15]; decide) (by rw [c_15]; rfl) (by decide) ?_
                  refine lv_aload_n hx hb dX6_count_122 rfl (lv_at hl 0 rfl) ?_
                  refine va_get (D := G) (ci := 6) (v := .ref (q 1)) (C := RX6) (T := TX6) (N := 11) hx hb hts hinX6 hown hK hP 0 rfl rfl 0 (by decide) hL7 (fun _ h9 => h9) rfl dX6_count_123 ?_
                  refine lv_bipush (v := 12) hx hb dX6_count_126 (by decide) ?_
                  refine lv_iload_n hx hb dX6_count_128 rfl (lv_at hl 1 rfl) ?_
                  refine lv_iadd hx hb dX6_count_129 ?_
                  refine lv_iconst (v := 4) hx hb dX6_count_130 (by decide) ?_
                  refine lv_isub hx hb dX6_count_131 ?_
                  obtain ⟨hi_16, h⟩ := h
                  refine k_ald (f := (M 0)) (j := (((12 + x) - 4)).toNatClampNeg) (v := ((M 0) ((((12 + x) - 4)).toNatClampNeg))) hx hb hK hP 1 0 rfl rfl hi_16 rfl rfl dX6_count_132 ?_
                  exact W.iret (v := ((M 0) ((((12 + x) - 4)).toNatClampNeg))) hx hb hr (fun t ht hW => ⟨⟨((M 0) ((((12 + x) - 4)).toNatClampNeg)), (), rfl, h, by rw [ht]; exact hP, hD⟩, hS.F ht⟩) hS.2.2 dX6_count_133
                · have h := h.2 c_15
                  by_cases c_17 : x = 8
                  · have h := h.1 c_17
                    refine lv_tableIn (off := 133) (tgt := 134) hx hb dX6_count_1 (by rw [c_17]; decide) (by rw [c_17]; decide) (by rw [c_17]; rfl) (by decide) ?_
                    refine lv_aload_n hx hb dX6_count_134 rfl (lv_at hl 0 rfl) ?_
                    refine va_get (D := G) (ci := 6) (v := .ref (q 1)) (C := RX6) (T := TX6) (N := 11) hx hb hts hinX6 hown hK hP 0 rfl rfl 0 (by decide) hL7 (fun _ h9 => h9) rfl dX6_count_135 ?_
                    refine lv_bipush (v := 10) hx hb dX6_count_138 (by decide) ?_
                    refine k_ald (f := (M 0)) (j := 10) (v := ((M 0) 10)) hx hb hK hP 1 0 rfl rfl (show ¬ ((10 : Int32) < 0 ∨ 86 ≤ (10 : Int32).toNatClampNeg) by decide) rfl rfl dX6_count_140 ?_
                    exact W.iret (v := ((M 0) 10)) hx hb hr (fun t ht hW => ⟨⟨((M 0) 10), (), rfl, h, by rw [ht]; exact hP, hD⟩, hS.F ht⟩) hS.2.2 dX6_count_141
                  · have h := h.2 c_17
                    by_cases c_18 : x = 9
                    · have h := h.1 c_18
                      refine lv_tableIn (off := 141) (tgt := 142) hx hb dX6_count_1 (by rw [c_18]; decide) (by rw [c_18]; decide) (by rw [c_18]; rfl) (by decide) ?_
                      refine lv_aload_n hx hb dX6_count_142 rfl (lv_at hl 0 rfl) ?_
                      refine va_get (D := G) (ci := 6) (v := .ref (q 1)) (C := RX6) (T := TX6) (N := 11) hx hb hts hinX6 hown hK hP 0 rfl rfl 0 (by decide) hL7 (fun _ h9 => h9) rfl dX6_count_143 ?_
                      refine lv_bipush (v := 9) hx hb dX6_count_146 (by decide) ?_
                      refine k_ald (f := (M 0)) (j := 9) (v := ((M 0) 9)) hx hb hK hP 1 0 rfl rfl (show ¬ ((9 : Int32) < 0 ∨ 86 ≤ (9 : Int32).toNatClampNeg) by decide) rfl rfl dX6_count_148 ?_
                      exact W.iret (v := ((M 0) 9)) hx hb hr (fun t ht hW => ⟨⟨((M 0) 9), (), rfl, h, by rw [ht]; exact hP, hD⟩, hS.F ht⟩) hS.2.2 dX6_count_149
                    · have h := h.2 c_18
                      by_cases c_19 : x = 10
                      · have h := h.1 c_19
                        refine lv_tableIn (off := 149) (tgt := 150) hx hb dX6_count_1 (by rw [c_19]; decide) (by rw [c_19]; decide) (by rw [c_19]; rfl) (by decide) ?_
                        refine lv_aload_n hx hb dX6_count_150 rfl (lv_at hl 0 rfl) ?_
                        refine va_get (D := G) (ci := 6) (v := .ref (q 1)) (C := RX6) (T := TX6) (N := 11) hx hb hts hinX6 hown hK hP 0 rfl rfl 0 (by decide) hL7 (fun _ h9 => h9) rfl dX6_count_151 ?_
                        refine lv_bipush (v := 16) hx hb dX6_count_154 (by decide) ?_
                        refine k_ald (f := (M 0)) (j := 16) (v := ((M 0) 16)) hx hb hK hP 1 0 rfl rfl (show ¬ ((16 : Int32) < 0 ∨ 86 ≤ (16 : Int32).toNatClampNeg) by decide) rfl rfl dX6_count_156 ?_
                        exact W.iret (v := ((M 0) 16)) hx hb hr (fun t ht hW => ⟨⟨((M 0) 16), (), rfl, h, by rw [ht]; exact hP, hD⟩, hS.F ht⟩) hS.2.2 dX6_count_157
                      · have h := h.2 c_19
                        by_cases c_20 : x = 11
                        · have h := h.1 c_20
                          refine lv_tableIn (off := 157) (tgt := 158) hx hb dX6_count_1 (by rw [c_20]; decide) (by rw [c_20]; decide) (by rw [c_20]; rfl) (by decide) ?_
                          refine lv_aload_n hx hb dX6_count_158 rfl (lv_at hl 0 rfl) ?_
                          refine va_get (D := G) (ci := 6) (v := .int (M 4 0)) (C := RX6) (T := TX6) (N := 11) hx hb hts hinX6 hown hK hP 0 rfl rfl 4 (by decide) hL32 (fun _ h9 => h9) rfl dX6_count_159 ?_
                          exact W.iret (v := (M 4 0)) hx hb hr (fun t ht hW => ⟨⟨(M 4 0), (), rfl, h, by rw [ht]; exact hP, hD⟩, hS.F ht⟩) hS.2.2 dX6_count_162
                        · have h := h.2 c_20
                          by_cases c_21 : x = 12
                          · have h := h.1 c_21
                            refine lv_tableIn (off := 162) (tgt := 163) hx hb dX6_count_1 (by rw [c_21]; decide) (by rw [c_21]; decide) (by rw [c_21]; rfl) (by decide) ?_
                            refine lv_aload_n hx hb dX6_count_163 rfl (lv_at hl 0 rfl) ?_
                            refine va_get (D := G) (ci := 6) (v := .int (M 7 0)) (C := RX6) (T := TX6) (N := 11) hx hb hts hinX6 hown hK hP 0 rfl rfl 7 (by decide) hL143 (fun _ h9 => h9) rfl dX6_count_164 ?_
                            exact W.iret (v := (M 7 0)) hx hb hr (fun t ht hW => ⟨⟨(M 7 0), (), rfl, h, by rw [ht]; exact hP, hD⟩, hS.F ht⟩) hS.2.2 dX6_count_167
                          · have h := h.2 c_21
                            by_cases c_22 : x = 13
                            · have h := h.1 c_22
                              refine lv_tableIn (off := 177) (tgt := 178) hx hb dX6_count_1 (by rw [c_22]; decide) (by rw [c_22]; decide) (by rw [c_22]; rfl) (by decide) ?_
                              refine lv_ldc hx hb hown (hts (.constant RX6 103 (-1000001)) (by decide +kernel)) dX6_count_178 ?_
                              exact W.iret (v := (-1000001)) hx hb hr (fun t ht hW => ⟨⟨(-1000001), (), rfl, h, by rw [ht]; exact hP, hD⟩, hS.F ht⟩) hS.2.2 dX6_count_180
                            · have h := h.2 c_22
                              by_cases c_23 : x = 14
                              · have h := h.1 c_23
                                refine lv_tableIn (off := 177) (tgt := 178) hx hb dX6_count_1 (by rw [c_23]; decide) (by rw [c_23]; decide) (by rw [c_23]; rfl) (by decide) ?_
                                refine lv_ldc hx hb hown (hts (.constant RX6 103 (-1000001)) (by decide +kernel)) dX6_count_178 ?_
                                exact W.iret (v := (-1000001)) hx hb hr (fun t ht hW => ⟨⟨(-1000001), (), rfl, h, by rw [ht]; exact hP, hD⟩, hS.F ht⟩) hS.2.2 dX6_count_180
                              · have h := h.2 c_23
                                by_cases c_24 : x = 15
                                · have h := h.1 c_24
                                  refine lv_tableIn (off := 177) (tgt := 178) hx hb dX6_count_1 (by rw [c_24]; decide) (by rw [c_24]; decide) (by rw [c_24]; rfl) (by decide) ?_
                                  refine lv_ldc hx hb hown (hts (.constant RX6 103 (-1000001)) (by decide +kernel)) dX6_count_178 ?_
                                  exact W.iret (v := (-1000001)) hx hb hr (fun t ht hW => ⟨⟨(-1000001), (), rfl, h, by rw [ht]; exact hP, hD⟩, hS.F ht⟩) hS.2.2 dX6_count_180
                                · have h := h.2 c_24
                                  by_cases c_25 : x = 16
                                  · have h := h.1 c_25
                                    refine lv_tableIn (off := 177) (tgt := 178) hx hb dX6_count_1 (by rw [c_25]; decide) (by rw [c_25]; decide) (by rw [c_25]; rfl) (by decide) ?_
                                    refine lv_ldc hx hb hown (hts (.constant RX6 103 (-1000001)) (by decide +kernel)) dX6_count_178 ?_
                                    exact W.iret (v := (-1000001)) hx hb hr (fun t ht hW => ⟨⟨(-1000001), (), rfl, h, by rw [ht]; exact hP, hD⟩, hS.F ht⟩) hS.2.2 dX6_count_180
                                  · have h := h.2 c_25
                                    by_cases c_26 : x = 17
                                    · have h := h.1 c_26
                                      refine lv_tableIn (off := 177) (tgt := 178) hx hb dX6_count_1 (by rw [c_26]; decide) (by rw [c_26]; decide) (by rw [c_26]; rfl) (by decide) ?_
                                      refine lv_ldc hx hb hown (hts (.constant RX6 103 (-1000001)) (by decide +kernel)) dX6_count_178 ?_
                                      exact W.iret (v := (-1000001)) hx hb hr (fun t ht hW => ⟨⟨(-1000001), (), rfl, h, by rw [ht]; exact hP, hD⟩, hS.F ht⟩) hS.2.2 dX6_count_180
                                    · have h := h.2 c_26
                                      by_cases c_27 : x = 18
                                      · have h := h.1 c_27
                                        refine lv_tableIn (off := 177) (tgt := 178) hx hb dX6_count_1 (by rw [c_27]; decide) (by rw [c_27]; decide) (by rw [c_27]; rfl) (by decide) ?_
                                        refine lv_ldc hx hb hown (hts (.constant RX6 103 (-1000001)) (by decide +kernel)) dX6_count_178 ?_
                                        exact W.iret (v := (-1000001)) hx hb hr (fun t ht hW => ⟨⟨(-1000001), (), rfl, h, by rw [ht]; exact hP, hD⟩, hS.F ht⟩) hS.2.2 dX6_count_180
                                      · have h := h.2 c_27
                                        by_cases c_28 : x = 19
                                        · have h := h.1 c_28
                                          refine lv_tableIn (off := 177) (tgt := 178) hx hb dX6_count_1 (by rw [c_28]; decide) (by rw [c_28]; decide) (by rw [c_28]; rfl) (by decide) ?_
                                          refine lv_ldc hx hb hown (hts (.constant RX6 103 (-1000001)) (by decide +kernel)) dX6_count_178 ?_
                                          exact W.iret (v := (-1000001)) hx hb hr (fun t ht hW => ⟨⟨(-1000001), (), rfl, h, by rw [ht]; exact hP, hD⟩, hS.F ht⟩) hS.2.2 dX6_count_180
                                        · have h := h.2 c_28
                                          by_cases c_29 : x = 20
                                          · have h := h.1 c_29
                                            refine lv_tableIn (off := 167) (tgt := 168) hx hb dX6_count_1 (by rw [c_29]; decide) (by rw [c_29]; decide) (by rw [c_29]; rfl) (by decide) ?_
                                            refine lv_aload_n hx hb dX6_count_168 rfl (lv_at hl 0 rfl) ?_
                                            refine va_get (D := G) (ci := 6) (v := .ref (q 1)) (C := RX6) (T := TX6) (N := 11) hx hb hts hinX6 hown hK hP 0 rfl rfl 0 (by decide) hL7 (fun _ h9 => h9) rfl dX6_count_169 ?_
                                            refine lv_iload_n hx hb dX6_count_172 rfl (lv_at hl 1 rfl) ?_
                                            refine lv_bipush (v := 20) hx hb dX6_count_173 (by decide) ?_
                                            refine lv_isub hx hb dX6_count_175 ?_
                                            obtain ⟨hi_30, h⟩ := h
                                            refine k_ald (f := (M 0)) (j := ((x - 20)).toNatClampNeg) (v := ((M 0) (((x - 20)).toNatClampNeg))) hx hb hK hP 1 0 rfl rfl hi_30 rfl rfl dX6_count_176 ?_
                                            exact W.iret (v := ((M 0) (((x - 20)).toNatClampNeg))) hx hb hr (fun t ht hW => ⟨⟨((M 0) (((x - 20)).toNatClampNeg)), (), rfl, h, by rw [ht]; exact hP, hD⟩, hS.F ht⟩) hS.2.2 dX6_count_177
                                          · have h := h.2 c_29
                                            by_cases c_31 : x = 21
                                            · have h := h.1 c_31
                                              refine lv_tableIn (off := 167) (tgt := 168) hx hb dX6_count_1 (by rw [c_31]; decide) (by rw [c_31]; decide) (by rw [c_31]; rfl) (by decide) ?_
                                              refine lv_aload_n hx hb dX6_count_168 rfl (lv_at hl 0 rfl) ?_
                                              refine va_get (D := G) (ci := 6) (v := .ref (q 1)) (C := RX6) (T := TX6) (N := 11) hx hb hts hinX6 hown hK hP 0 rfl rfl 0 (by decide) hL7 (fun _ h9 => h9) rfl dX6_count_169 ?_
                                              refine lv_iload_n hx hb dX6_count_172 rfl (lv_at hl 1 rfl) ?_
                                              refine lv_bipush (v := 20) hx hb dX6_count_173 (by decide) ?_
                                              refine lv_isub hx hb dX6_count_175 ?_
                                              obtain ⟨hi_32, h⟩ := h
                                              refine k_ald (f := (M 0)) (j := ((x - 20)).toNatClampNeg) (v := ((M 0) (((x - 20)).toNatClampNeg))) hx hb hK hP 1 0 rfl rfl hi_32 rfl rfl dX6_count_176 ?_
                                              exact W.iret (v := ((M 0) (((x - 20)).toNatClampNeg))) hx hb hr (fun t ht hW => ⟨⟨((M 0) (((x - 20)).toNatClampNeg)), (), rfl, h, by rw [ht]; exact hP, hD⟩, hS.F ht⟩) hS.2.2 dX6_count_177
                                            · have h := h.2 c_31
                                              by_cases c_33 : x = 22
                                              · have h := h.1 c_33
                                                refine lv_tableIn (off := 167) (tgt := 168) hx hb dX6_count_1 (by rw [c_33]; decide) (by rw [c_33]; decide) (by rw [c_33]; rfl) (by decide) ?_
                                                refine lv_aload_n hx hb dX6_count_168 rfl (lv_at hl 0 rfl) ?_
                                                refine va_get (D := G) (ci := 6) (v := .ref (q 1)) (C := RX6) (T := TX6) (N := 11) hx hb hts hinX6 hown hK hP 0 rfl rfl 0 (by decide) hL7 (fun _ h9 => h9) rfl dX6_count_169 ?_
                                                refine lv_iload_n hx hb dX6_count_172 rfl (lv_at hl 1 rfl) ?_
                                                refine lv_bipush (v := 20) hx hb dX6_count_173 (by decide) ?_
                                                refine lv_isub hx hb dX6_count_175 ?_
                                                obtain ⟨hi_34, h⟩ := h
                                                refine k_ald (f := (M 0)) (j := ((x - 20)).toNatClampNeg) (v := ((M 0) (((x - 20)).toNatClampNeg))) hx hb hK hP 1 0 rfl rfl hi_34 rfl rfl dX6_count_176 ?_
                                                exact W.iret (v := ((M 0) (((x - 20)).toNatClampNeg))) hx hb hr (fun t ht hW => ⟨⟨((M 0) (((x - 20)).toNatClampNeg)), (), rfl, h, by rw [ht]; exact hP, hD⟩, hS.F ht⟩) hS.2.2 dX6_count_177
                                              · have h := h.2 c_33
                                                have ho : (x).toInt < 0 ∨ 22 < (x).toInt := by
                                                  have n0 := sw_o (a := 0) c_1 (by decide)
                                                  have n1 := sw_o (a := 1) c_3 (by decide)
                                                  have n2 := sw_o (a := 2) c_5 (by decide)
                                                  have n3 := sw_o (a := 3) c_7 (by decide)
                                                  have n4 := sw_o (a := 4) c_9 (by decide)
                                                  have n5 := sw_o (a := 5) c_11 (by decide)
                                                  have n6 := sw_o (a := 6) c_13 (by decide)
                                                  have n7 := sw_o (a := 7) c_15 (by decide)
                                                  have n8 := sw_o (a := 8) c_17 (by decide)
                                                  have n9 := sw_o (a := 9) c_18 (by decide)
                                                  have n10 := sw_o (a := 10) c_19 (by decide)
                                                  have n11 := sw_o (a := 11) c_20 (by decide)
                                                  have n12 := sw_o (a := 12) c_21 (by decide)
                                                  have n13 := sw_o (a := 13) c_22 (by decide)
                                                  have n14 := sw_o (a := 14) c_23 (by decide)
                                                  have n15 := sw_o (a := 15) c_24 (by decide)
                                                  have n16 := sw_o (a := 16) c_25 (by decide)
                                                  have n17 := sw_o (a := 17) c_26 (by decide)
                                                  have n18 := sw_o (a := 18) c_27 (by decide)
                                                  have n19 := sw_o (a := 19) c_28 (by decide)
                                                  have n20 := sw_o (a := 20) c_29 (by decide)
                                                  have n21 := sw_o (a := 21) c_31 (by decide)
                                                  have n22 := sw_o (a := 22) c_33 (by decide)
                                                  omega
                                                refine lv_tableOut (tgt := 178) hx hb dX6_count_1 ho (by decide) ?_
                                                refine lv_ldc hx hb hown (hts (.constant RX6 103 (-1000001)) (by decide +kernel)) dX6_count_178 ?_
                                                exact W.iret (v := (-1000001)) hx hb hr (fun t ht hW => ⟨⟨(-1000001), (), rfl, h, by rw [ht]; exact hP, hD⟩, hS.F ht⟩) hS.2.2 dX6_count_180
def q_X6_undo (M : St) (Q : Int32 → St → Prop) : Prop :=
  ((M 4 0) = 0 → Q (-1000002) M) ∧ (¬ ((M 4 0) = 0) → ∃ (I_3 : Nat → Int32 → St → Prop) (n_7 : Nat), I_3 n_7 0 (uA M 4 (fun _ => ((M 4 0) - 1))) ∧ ∀ (n_2 : Nat) (x1_4 : Int32) (D_5 : St), I_3 n_2 x1_4 D_5 → ((86 ≤ x1_4 → Q (D_5 4 0) D_5) ∧ (¬ (86 ≤ x1_4) → vp_in ((86 * (D_5 4 0)) + x1_4) 344 ∧ (vp_in x1_4 86 ∧ (∃ n_14, n_14 < n_2 ∧ I_3 n_14 (x1_4 + 1) (uA D_5 0 (upd (D_5 0) ((x1_4).toNatClampNeg) ((D_5 1) ((((86 * (D_5 4 0)) + x1_4)).toNatClampNeg)))))))))
set_option maxHeartbeats 4000000 in
set_option maxRecDepth 100000 in
theorem c_X6_undo (l : Launch) (G : va_G) (cI cC cD : ClassId) (q : Nat → Nat) (sz : Nat) (M : St)  (Q : Int32 → St → Prop) (h : q_X6_undo  M Q) : Met l yX6_undo wsX6_undo ({ frames := 0, cells := 0, slots := 0, locals := 0 }) (va_Pc [.ref (q 0)] (PW G (ty3 cI cC cD) (wM cI q M) sz)) (va_Qi Q (BW G (fun u : St => (wM cI q u)) (va_A (wM cI q M) sz)) (va_A (wM cI q M) sz)) 0 0 (va_A (wM cI q M) sz) := by
  refine Met.ofW (cc := cX6_undo) (maxL := 2) (ret := (some .int)) (by decide) rfl ?_
  intro p e s m args below meth c s₁ B hml hv
  obtain ⟨rfl, hsz, hP, hK, hD0, hN⟩ := hv
  have hx := B.exec
  have hb := B.bytes
  have hr := B.returns
  have hts := atoms_spec (ws := wsX6_undo) B.pre
  have hown : s.vm.findClass RX6 = some m.cls := findClass_of_methodNamed B.named
  have hlocks := B.notSynchronized
  subst hsz
  have hD := hD0.self (sz := s.heap.size)
  generalize hAe : va_A (wM cI q M) s.heap.size = A at hD ⊢
  have hA : ∀ q : Nat, s.heap.size ≤ q → A q := fun q h => by rw [← hAe]; exact Or.inr h
  have hS : va_S A s.heap s.heap [] := va_S.rf
  have hl := lv_entry ([.ref (q 0)]) (n := 2) (Nat.le_of_ble_eq_true rfl)
  rw [lg_entry_eq]
  generalize (lg_sl ([.ref (q 0)]) ++ List.replicate (2 - (lg_sl ([.ref (q 0)])).length) Slot.unset).toArray = ls at hl ⊢
  have hl : lv_has ls 2 [(0, .ref (q 0))] := hl
  have hinX6 : ∀ w ∈ wsX60, w ∈ wsX6_undo := by decide +kernel
  have hL7 := hts (.fieldLink RX6 7 "CraneGatesModel" "s" "[I") (by decide +kernel)
  have hL13 := hts (.fieldLink RX6 13 "CraneGatesModel" "past" "[I") (by decide +kernel)
  have hL32 := hts (.fieldLink RX6 32 "CraneGatesModel" "pasts" "I") (by decide +kernel)
  unfold q_X6_undo at h
  refine lv_aload_n hx hb dX6_undo_0 rfl (lv_at hl 0 rfl) ?_
  refine va_get (D := G) (ci := 6) (v := .int (M 4 0)) (C := RX6) (T := TX6) (N := 11) hx hb hts hinX6 hown hK hP 0 rfl rfl 4 (by decide) hL32 (fun _ h9 => h9) rfl dX6_undo_1 ?_
  refine lv_if_ne (tgt := 10) hx hb dX6_undo_4 (by decide) (fun c_1 => ?_) (fun c_1 => ?_)
  · have h := h.2 c_1
    refine lv_aload_n hx hb dX6_undo_10 rfl (lv_at hl 0 rfl) ?_
    refine lv_dup hx hb dX6_undo_11 rfl ?_
    refine va_get (D := G) (ci := 6) (v := .int (M 4 0)) (C := RX6) (T := TX6) (N := 11) hx hb hts hinX6 hown hK hP 0 rfl rfl 4 (by decide) hL32 (fun _ h9 => h9) rfl dX6_undo_12 ?_
    refine lv_iconst (v := 1) hx hb dX6_undo_15 (by decide) ?_
    refine lv_isub hx hb dX6_undo_16 ?_
    refine va_put (D := G) (ci := 6) (v := .int ((M 4 0) - 1)) (ty := .int) (C := RX6) (T := TX6) (N := 11) hx hb hts hinX6 tyX6 tyX6_ok nmX6 hown hK hP hD hS 0 rfl rfl 4 (by decide) hL32 (fun _ h9 => h9) rfl (by decide +kernel) rfl rfl (Nat.le_of_ble_eq_true rfl) dX6_undo_17 (fun H locs hP hD hS => ?_)
    have hP : va_P G vwCl (wM cI q (uA M 4 (fun _ => ((M 4 0) - 1)))) H := hP
    have hD : va_D A (wM cI q (uA M 4 (fun _ => ((M 4 0) - 1)))) := hD
    refine lv_iconst (v := 0) hx hb dX6_undo_20 (by decide) ?_
    refine lv_istore_n (lv' := [(1, .int 0), (0, .ref (q 0))]) hx hb dX6_undo_21 rfl hl (by decide) rfl (fun ls hl => ?_)
    obtain ⟨I_3, n_7, h_8, hI_9⟩ := h
    have lp_10 : ∀ (n_2 : Nat) (x1_4 : Int32) (D_5 : St), I_3 n_2 x1_4 D_5 → ∀ (H : Heap) (locs : List Loc) (ls : Array Slot), va_P G vwCl (wM cI q D_5) H → va_D A (wM cI q D_5) → va_S A s.heap H locs → lv_has ls 2 [(1, .int x1_4), (0, .ref (q 0))] → W p l e (headSpec wsX6_undo ({ frames := 0, cells := 0, slots := 0, locals := 0 })).room s m ([.ref (q 0)] : List Value).toArray below meth c H locs 0 0 (MQ below (va_Qi Q (BW G (fun u : St => (wM cI q u)) A) A) ([.ref (q 0)] : List Value).toArray s 0 0 A) (F0 m 22 ls []) := by
      intro n_2
      induction n_2 using Nat.strongRecOn with
      | ind n_2 ih_6 =>
        intro x1_4 D_5 hIn H locs ls hP hD hS hl
        have h := hI_9 n_2 x1_4 D_5 hIn
        refine lv_iload_n hx hb dX6_undo_22 rfl (lv_at hl 0 rfl) ?_
        refine lv_bipush (v := 86) hx hb dX6_undo_23 (by decide) ?_
        refine lv_icmp_ge (tgt := 54) hx hb dX6_undo_25 (by decide) (fun c_11 => ?_) (fun c_11 => ?_)
        · have h := h.1 c_11
          refine lv_aload_n hx hb dX6_undo_54 rfl (lv_at hl 1 rfl) ?_
          refine va_get (D := G) (ci := 6) (v := .int (D_5 4 0)) (C := RX6) (T := TX6) (N := 11) hx hb hts hinX6 hown hK hP 0 rfl rfl 4 (by decide) hL32 (fun _ h9 => h9) rfl dX6_undo_55 ?_
          exact W.iret (v := (D_5 4 0)) hx hb hr (fun t ht hW => ⟨⟨(D_5 4 0), D_5, rfl, h, by rw [ht]; exact hP, hD⟩, hS.F ht⟩) hS.2.2 dX6_undo_58
        · have h := h.2 c_11
          refine lv_aload_n hx hb dX6_undo_28 rfl (lv_at hl 1 rfl) ?_
          refine va_get (D := G) (ci := 6) (v := .ref (q 1)) (C := RX6) (T := TX6) (N := 11) hx hb hts hinX6 hown hK hP 0 rfl rfl 0 (by decide) hL7 (fun _ h9 => h9) rfl dX6_undo_29 ?_
          refine lv_iload_n hx hb dX6_undo_32 rfl (lv_at hl 0 rfl) ?_
          refine lv_aload_n hx hb dX6_undo_33 rfl (lv_at hl 1 rfl) ?_
          refine va_get (D := G) (ci := 6) (v := .ref (q 2)) (C := RX6) (T := TX6) (N := 11) hx hb hts hinX6 hown hK hP 0 rfl rfl 1 (by decide) hL13 (fun _ h9 => h9) rfl dX6_undo_34 ?_
          refine lv_bipush (v := 86) hx hb dX6_undo_37 (by decide) ?_
          refine lv_aload_n hx hb dX6_undo_39 rfl (lv_at hl 1 rfl) ?_
          refine va_get (D := G) (ci := 6) (v := .int (D_5 4 0)) (C := RX6) (T := TX6) (N := 11) hx hb hts hinX6 hown hK hP 0 rfl rfl 4 (by decide) hL32 (fun _ h9 => h9) rfl dX6_undo_40 ?_
          refine lv_imul hx hb dX6_undo_43 ?_
          refine lv_iload_n hx hb dX6_undo_44 rfl (lv_at hl 0 rfl) ?_
          refine lv_iadd hx hb dX6_undo_45 ?_
          obtain ⟨hi_12, h⟩ := h
          refine k_ald (f := (D_5 1)) (j := (((86 * (D_5 4 0)) + x1_4)).toNatClampNeg) (v := ((D_5 1) ((((86 * (D_5 4 0)) + x1_4)).toNatClampNeg))) hx hb hK hP 2 0 rfl rfl hi_12 rfl rfl dX6_undo_46 ?_
          obtain ⟨hi_13, h⟩ := h
          refine k_ast (f := (D_5 0)) (j := (x1_4).toNatClampNeg) (ws' := (wM cI q (uA D_5 0 (upd (D_5 0) ((x1_4).toNatClampNeg) ((D_5 1) ((((86 * (D_5 4 0)) + x1_4)).toNatClampNeg)))))) hx hb hK hP hD hS 1 0 rfl rfl hi_13 rfl dX6_undo_47 (st_M_0 cI q D_5 (upd (D_5 0) ((x1_4).toNatClampNeg) ((D_5 1) ((((86 * (D_5 4 0)) + x1_4)).toNatClampNeg)))) (fun H locs hP hD hS => ?_)
          refine lv_iinc (v := x1_4 + 1) (lv' := [(1, .int (x1_4 + 1)), (0, .ref (q 0))]) hx hb dX6_undo_48 hl (k := 0) rfl rfl (by decide) rfl (fun ls hl => ?_)
          refine lv_goto (tgt := 22) hx hb dX6_undo_51 (by decide) ?_
          obtain ⟨n_14, lt_15, h_16⟩ := h
          exact ih_6 n_14 lt_15 _ _ h_16 _ _ _ hP hD hS (lv_sub hl [0, 1] rfl)
    exact lp_10 _ _ _ h_8 _ _ _ hP hD hS hl
  · have h := h.1 c_1
    refine lv_ldc hx hb hown (hts (.constant RX6 112 (-1000002)) (by decide +kernel)) dX6_undo_7 ?_
    exact W.iret (v := (-1000002)) hx hb hr (fun t ht hW => ⟨⟨(-1000002), M, rfl, h, by rw [ht]; exact hP, hD⟩, hS.F ht⟩) hS.2.2 dX6_undo_9
def q_X6_type (x : Int32) (M : St) (Q : Int32 → St → Prop) : Prop :=
  q_X6_in x 32 126 (fun r_1 => (r_1 = 0 → Q (-1000001) M) ∧ (¬ (r_1 = 0) → ((M 7 0) = 60 → Q (-1000003) M) ∧ (¬ ((M 7 0) = 60) → vp_in (M 7 0) 60 ∧ (Q ((M 7 0) + 1) (uA (uA M 6 (upd (M 6) (((M 7 0)).toNatClampNeg) x)) 7 (fun _ => ((M 7 0) + 1)))))))
set_option maxHeartbeats 4000000 in
set_option maxRecDepth 100000 in
theorem c_X6_type (l : Launch) (G : va_G) (cI cC cD : ClassId) (q : Nat → Nat) (sz : Nat) (M : St) (x : Int32) (Q : Int32 → St → Prop) (h : q_X6_type x M Q) : Met l yX6_type wsX6_type ({ frames := 1, cells := 0, slots := 0, locals := 22 }) (va_Pc [.ref (q 0), .int x] (PW G (ty3 cI cC cD) (wM cI q M) sz)) (va_Qi Q (BW G (fun u : St => (wM cI q u)) (va_A (wM cI q M) sz)) (va_A (wM cI q M) sz)) 0 0 (va_A (wM cI q M) sz) := by
  refine Met.ofW (cc := cX6_type) (maxL := 2) (ret := (some .int)) (by decide) rfl ?_
  intro p e s m args below meth c s₁ B hml hv
  obtain ⟨rfl, hsz, hP, hK, hD0, hN⟩ := hv
  have hx := B.exec
  have hb := B.bytes
  have hr := B.returns
  have hts := atoms_spec (ws := wsX6_type) B.pre
  have hown : s.vm.findClass RX6 = some m.cls := findClass_of_methodNamed B.named
  have hlocks := B.notSynchronized
  subst hsz
  have hD := hD0.self (sz := s.heap.size)
  generalize hAe : va_A (wM cI q M) s.heap.size = A at hD ⊢
  have hA : ∀ q : Nat, s.heap.size ≤ q → A q := fun q h => by rw [← hAe]; exact Or.inr h
  have hS : va_S A s.heap s.heap [] := va_S.rf
  have hl := lv_entry ([.ref (q 0), .int x]) (n := 2) (Nat.le_of_ble_eq_true rfl)
  rw [lg_entry_eq]
  generalize (lg_sl ([.ref (q 0), .int x]) ++ List.replicate (2 - (lg_sl ([.ref (q 0), .int x])).length) Slot.unset).toArray = ls at hl ⊢
  have hl : lv_has ls 2 [(0, .ref (q 0)), (1, .int x)] := hl
  have hinX6 : ∀ w ∈ wsX60, w ∈ wsX6_type := by decide +kernel
  have hL22 := hts (.fieldLink RX6 22 "CraneGatesModel" "text" "[I") (by decide +kernel)
  have hL143 := hts (.fieldLink RX6 143 "CraneGatesModel" "typed" "I") (by decide +kernel)
  unfold q_X6_type at h
  refine lv_iload_n hx hb dX6_type_0 rfl (lv_at hl 1 rfl) ?_
  refine lv_bipush (v := 32) hx hb dX6_type_1 (by decide) ?_
  refine lv_bipush (v := 126) hx hb dX6_type_3 (by decide) ?_
  refine ks_i (As := [.int x, .int 32, .int 126]) (rest := []) (wg := (fun _ => (wM cI q M))) ⟨hx, hb, hml, hown, hts⟩ (c_X6_in l G cI cC cD  _  x 32 126 _ h) (va_cwS 3 hts gX6_type_X6_in rfl rfl rfl (by decide +kernel) ⟨Nat.le_of_ble_eq_true rfl, Nat.le_of_ble_eq_true rfl⟩) hK hN hP hD hS hA (em_0 _) (fun _ => rp_self (em_0 _)) rfl hl.1 rfl (Nat.le_of_ble_eq_true rfl) dX6_type_5 ⟨Nat.zero_le _, Nat.zero_le _⟩ (fun r_1 _ H locs h hP hD hS => ?_)
  refine lv_if_ne (tgt := 14) hx hb dX6_type_8 (by decide) (fun c_2 => ?_) (fun c_2 => ?_)
  · have h := h.2 c_2
    refine lv_aload_n hx hb dX6_type_14 rfl (lv_at hl 0 rfl) ?_
    refine va_get (D := G) (ci := 6) (v := .int (M 7 0)) (C := RX6) (T := TX6) (N := 11) hx hb hts hinX6 hown hK hP 0 rfl rfl 7 (by decide) hL143 (fun _ h9 => h9) rfl dX6_type_15 ?_
    refine lv_bipush (v := 60) hx hb dX6_type_18 (by decide) ?_
    refine lv_icmp_ne (tgt := 26) hx hb dX6_type_20 (by decide) (fun c_3 => ?_) (fun c_3 => ?_)
    · have h := h.2 c_3
      refine lv_aload_n hx hb dX6_type_26 rfl (lv_at hl 0 rfl) ?_
      refine va_get (D := G) (ci := 6) (v := .ref (q 5)) (C := RX6) (T := TX6) (N := 11) hx hb hts hinX6 hown hK hP 0 rfl rfl 6 (by decide) hL22 (fun _ h9 => h9) rfl dX6_type_27 ?_
      refine lv_aload_n hx hb dX6_type_30 rfl (lv_at hl 0 rfl) ?_
      refine va_get (D := G) (ci := 6) (v := .int (M 7 0)) (C := RX6) (T := TX6) (N := 11) hx hb hts hinX6 hown hK hP 0 rfl rfl 7 (by decide) hL143 (fun _ h9 => h9) rfl dX6_type_31 ?_
      refine lv_iload_n hx hb dX6_type_34 rfl (lv_at hl 1 rfl) ?_
      obtain ⟨hi_4, h⟩ := h
      refine k_ast (f := (M 6)) (j := ((M 7 0)).toNatClampNeg) (ws' := (wM cI q (uA M 6 (upd (M 6) (((M 7 0)).toNatClampNeg) x)))) hx hb hK hP hD hS 5 0 rfl rfl hi_4 rfl dX6_type_35 (st_M_6 cI q M (upd (M 6) (((M 7 0)).toNatClampNeg) x)) (fun H locs hP hD hS => ?_)
      refine lv_aload_n hx hb dX6_type_36 rfl (lv_at hl 0 rfl) ?_
      refine lv_dup hx hb dX6_type_37 rfl ?_
      refine va_get (D := G) (ci := 6) (v := .int (M 7 0)) (C := RX6) (T := TX6) (N := 11) hx hb hts hinX6 hown hK hP 0 rfl rfl 7 (by decide) hL143 (fun _ h9 => h9) rfl dX6_type_38 ?_
      refine lv_iconst (v := 1) hx hb dX6_type_41 (by decide) ?_
      refine lv_iadd hx hb dX6_type_42 ?_
      refine va_put (D := G) (ci := 6) (v := .int ((M 7 0) + 1)) (ty := .int) (C := RX6) (T := TX6) (N := 11) hx hb hts hinX6 tyX6 tyX6_ok nmX6 hown hK hP hD hS 0 rfl rfl 7 (by decide) hL143 (fun _ h9 => h9) rfl (by decide +kernel) rfl rfl (Nat.le_of_ble_eq_true rfl) dX6_type_43 (fun H locs hP hD hS => ?_)
      have hP : va_P G vwCl (wM cI q (uA (uA M 6 (upd (M 6) (((M 7 0)).toNatClampNeg) x)) 7 (fun _ => ((M 7 0) + 1)))) H := hP
      have hD : va_D A (wM cI q (uA (uA M 6 (upd (M 6) (((M 7 0)).toNatClampNeg) x)) 7 (fun _ => ((M 7 0) + 1)))) := hD
      refine lv_aload_n hx hb dX6_type_46 rfl (lv_at hl 0 rfl) ?_
      refine va_get (D := G) (ci := 6) (v := .int ((M 7 0) + 1)) (C := RX6) (T := TX6) (N := 11) hx hb hts hinX6 hown hK hP 0 rfl rfl 7 (by decide) hL143 (fun _ h9 => h9) rfl dX6_type_47 ?_
      exact W.iret (v := ((M 7 0) + 1)) hx hb hr (fun t ht hW => ⟨⟨((M 7 0) + 1), (uA (uA M 6 (upd (M 6) (((M 7 0)).toNatClampNeg) x)) 7 (fun _ => ((M 7 0) + 1))), rfl, h, by rw [ht]; exact hP, hD⟩, hS.F ht⟩) hS.2.2 dX6_type_50
    · have h := h.1 c_3
      refine lv_ldc hx hb hown (hts (.constant RX6 104 (-1000003)) (by decide +kernel)) dX6_type_23 ?_
      exact W.iret (v := (-1000003)) hx hb hr (fun t ht hW => ⟨⟨(-1000003), M, rfl, h, by rw [ht]; exact hP, hD⟩, hS.F ht⟩) hS.2.2 dX6_type_25
  · have h := h.1 c_2
    refine lv_ldc hx hb hown (hts (.constant RX6 103 (-1000001)) (by decide +kernel)) dX6_type_11 ?_
    exact W.iret (v := (-1000001)) hx hb hr (fun t ht hW => ⟨⟨(-1000001), M, rfl, h, by rw [ht]; exact hP, hD⟩, hS.F ht⟩) hS.2.2 dX6_type_13
def q_X6_clearText (M : St) (Q : Int32 → St → Prop) : Prop :=
  Q (M 7 0) (uA M 7 (fun _ => 0))
set_option maxHeartbeats 4000000 in
set_option maxRecDepth 100000 in
theorem c_X6_clearText (l : Launch) (G : va_G) (cI cC cD : ClassId) (q : Nat → Nat) (sz : Nat) (M : St)  (Q : Int32 → St → Prop) (h : q_X6_clearText  M Q) : Met l yX6_clearText wsX6_clearText ({ frames := 0, cells := 0, slots := 0, locals := 0 }) (va_Pc [.ref (q 0)] (PW G (ty3 cI cC cD) (wM cI q M) sz)) (va_Qi Q (BW G (fun u : St => (wM cI q u)) (va_A (wM cI q M) sz)) (va_A (wM cI q M) sz)) 0 0 (va_A (wM cI q M) sz) := by
  refine Met.ofW (cc := cX6_clearText) (maxL := 2) (ret := (some .int)) (by decide) rfl ?_
  intro p e s m args below meth c s₁ B hml hv
  obtain ⟨rfl, hsz, hP, hK, hD0, hN⟩ := hv
  have hx := B.exec
  have hb := B.bytes
  have hr := B.returns
  have hts := atoms_spec (ws := wsX6_clearText) B.pre
  have hown : s.vm.findClass RX6 = some m.cls := findClass_of_methodNamed B.named
  have hlocks := B.notSynchronized
  subst hsz
  have hD := hD0.self (sz := s.heap.size)
  generalize hAe : va_A (wM cI q M) s.heap.size = A at hD ⊢
  have hA : ∀ q : Nat, s.heap.size ≤ q → A q := fun q h => by rw [← hAe]; exact Or.inr h
  have hS : va_S A s.heap s.heap [] := va_S.rf
  have hl := lv_entry ([.ref (q 0)]) (n := 2) (Nat.le_of_ble_eq_true rfl)
  rw [lg_entry_eq]
  generalize (lg_sl ([.ref (q 0)]) ++ List.replicate (2 - (lg_sl ([.ref (q 0)])).length) Slot.unset).toArray = ls at hl ⊢
  have hl : lv_has ls 2 [(0, .ref (q 0))] := hl
  have hinX6 : ∀ w ∈ wsX60, w ∈ wsX6_clearText := by decide +kernel
  have hL143 := hts (.fieldLink RX6 143 "CraneGatesModel" "typed" "I") (by decide +kernel)
  unfold q_X6_clearText at h
  refine lv_aload_n hx hb dX6_clearText_0 rfl (lv_at hl 0 rfl) ?_
  refine va_get (D := G) (ci := 6) (v := .int (M 7 0)) (C := RX6) (T := TX6) (N := 11) hx hb hts hinX6 hown hK hP 0 rfl rfl 7 (by decide) hL143 (fun _ h9 => h9) rfl dX6_clearText_1 ?_
  refine lv_istore_n (lv' := [(1, .int (M 7 0)), (0, .ref (q 0))]) hx hb dX6_clearText_4 rfl hl (by decide) rfl (fun ls hl => ?_)
  refine lv_aload_n hx hb dX6_clearText_5 rfl (lv_at hl 1 rfl) ?_
  refine lv_iconst (v := 0) hx hb dX6_clearText_6 (by decide) ?_
  refine va_put (D := G) (ci := 6) (v := .int 0) (ty := .int) (C := RX6) (T := TX6) (N := 11) hx hb hts hinX6 tyX6 tyX6_ok nmX6 hown hK hP hD hS 0 rfl rfl 7 (by decide) hL143 (fun _ h9 => h9) rfl (by decide +kernel) rfl rfl (Nat.le_of_ble_eq_true rfl) dX6_clearText_7 (fun H locs hP hD hS => ?_)
  have hP : va_P G vwCl (wM cI q (uA M 7 (fun _ => 0))) H := hP
  have hD : va_D A (wM cI q (uA M 7 (fun _ => 0))) := hD
  refine lv_iload_n hx hb dX6_clearText_10 rfl (lv_at hl 0 rfl) ?_
  exact W.iret (v := (M 7 0)) hx hb hr (fun t ht hW => ⟨⟨(M 7 0), (uA M 7 (fun _ => 0)), rfl, h, by rw [ht]; exact hP, hD⟩, hS.F ht⟩) hS.2.2 dX6_clearText_11
def q_X6_isAt (x : Int32) (y : Int32) (M : St) (Q : Int32 → Prop) : Prop :=
  ((M 7 0) ≤ (M 8 0) → Q 0) ∧ (¬ ((M 7 0) ≤ (M 8 0)) → vp_in (M 8 0) 60 ∧ (q_X6_in ((M 6) (((M 8 0)).toNatClampNeg)) x y (fun r_3 => (r_3 = 0 → Q 0) ∧ (¬ (r_3 = 0) → Q 1))))
set_option maxHeartbeats 4000000 in
set_option maxRecDepth 100000 in
theorem c_X6_isAt (l : Launch) (G : va_G) (cI cC cD : ClassId) (q : Nat → Nat) (sz : Nat) (M : St) (x : Int32) (y : Int32) (Q : Int32 → Prop) (h : q_X6_isAt x y M Q) : Met l yX6_isAt wsX6_isAt ({ frames := 1, cells := 0, slots := 0, locals := 22 }) (va_Pc [.ref (q 0), .int x, .int y] (PW G (ty3 cI cC cD) (wM cI q M) sz)) (va_Qi (fun (r : Int32) (_ : Unit) => Q r) (BW G (fun _ : Unit => (wM cI q M)) (va_A (wM cI q M) sz)) (va_A (wM cI q M) sz)) 0 0 (va_A (wM cI q M) sz) := by
  refine Met.ofW (cc := cX6_isAt) (maxL := 3) (ret := (some .boolean)) (by decide) rfl ?_
  intro p e s m args below meth c s₁ B hml hv
  obtain ⟨rfl, hsz, hP, hK, hD0, hN⟩ := hv
  have hx := B.exec
  have hb := B.bytes
  have hr := B.returns
  have hts := atoms_spec (ws := wsX6_isAt) B.pre
  have hown : s.vm.findClass RX6 = some m.cls := findClass_of_methodNamed B.named
  have hlocks := B.notSynchronized
  subst hsz
  have hD := hD0.self (sz := s.heap.size)
  generalize hAe : va_A (wM cI q M) s.heap.size = A at hD ⊢
  have hA : ∀ q : Nat, s.heap.size ≤ q → A q := fun q h => by rw [← hAe]; exact Or.inr h
  have hS : va_S A s.heap s.heap [] := va_S.rf
  have hl := lv_entry ([.ref (q 0), .int x, .int y]) (n := 3) (Nat.le_of_ble_eq_true rfl)
  rw [lg_entry_eq]
  generalize (lg_sl ([.ref (q 0), .int x, .int y]) ++ List.replicate (3 - (lg_sl ([.ref (q 0), .int x, .int y])).length) Slot.unset).toArray = ls at hl ⊢
  have hl : lv_has ls 3 [(0, .ref (q 0)), (1, .int x), (2, .int y)] := hl
  have hinX6 : ∀ w ∈ wsX60, w ∈ wsX6_isAt := by decide +kernel
  have hL22 := hts (.fieldLink RX6 22 "CraneGatesModel" "text" "[I") (by decide +kernel)
  have hL143 := hts (.fieldLink RX6 143 "CraneGatesModel" "typed" "I") (by decide +kernel)
  have hL146 := hts (.fieldLink RX6 146 "CraneGatesModel" "spot" "I") (by decide +kernel)
  unfold q_X6_isAt at h
  refine lv_aload_n hx hb dX6_isAt_0 rfl (lv_at hl 0 rfl) ?_
  refine va_get (D := G) (ci := 6) (v := .int (M 8 0)) (C := RX6) (T := TX6) (N := 11) hx hb hts hinX6 hown hK hP 0 rfl rfl 8 (by decide) hL146 (fun _ h9 => h9) rfl dX6_isAt_1 ?_
  refine lv_aload_n hx hb dX6_isAt_4 rfl (lv_at hl 0 rfl) ?_
  refine va_get (D := G) (ci := 6) (v := .int (M 7 0)) (C := RX6) (T := TX6) (N := 11) hx hb hts hinX6 hown hK hP 0 rfl rfl 7 (by decide) hL143 (fun _ h9 => h9) rfl dX6_isAt_5 ?_
  refine lv_icmp_ge (tgt := 32) hx hb dX6_isAt_8 (by decide) (fun c_1 => ?_) (fun c_1 => ?_)
  · have h := h.1 c_1
    refine lv_iconst (v := 0) hx hb dX6_isAt_32 (by decide) ?_
    exact W.zret (v := 0) hx hb hr rfl (fun t ht hW => ⟨⟨0, (), rfl, h, by rw [ht]; exact hP, hD⟩, hS.F ht⟩) hS.2.2 dX6_isAt_33
  · have h := h.2 c_1
    refine lv_aload_n hx hb dX6_isAt_11 rfl (lv_at hl 0 rfl) ?_
    refine va_get (D := G) (ci := 6) (v := .ref (q 5)) (C := RX6) (T := TX6) (N := 11) hx hb hts hinX6 hown hK hP 0 rfl rfl 6 (by decide) hL22 (fun _ h9 => h9) rfl dX6_isAt_12 ?_
    refine lv_aload_n hx hb dX6_isAt_15 rfl (lv_at hl 0 rfl) ?_
    refine va_get (D := G) (ci := 6) (v := .int (M 8 0)) (C := RX6) (T := TX6) (N := 11) hx hb hts hinX6 hown hK hP 0 rfl rfl 8 (by decide) hL146 (fun _ h9 => h9) rfl dX6_isAt_16 ?_
    obtain ⟨hi_2, h⟩ := h
    refine k_ald (f := (M 6)) (j := ((M 8 0)).toNatClampNeg) (v := ((M 6) (((M 8 0)).toNatClampNeg))) hx hb hK hP 5 0 rfl rfl hi_2 rfl rfl dX6_isAt_19 ?_
    refine lv_iload_n hx hb dX6_isAt_20 rfl (lv_at hl 1 rfl) ?_
    refine lv_iload_n hx hb dX6_isAt_21 rfl (lv_at hl 2 rfl) ?_
    refine ks_i (As := [.int ((M 6) (((M 8 0)).toNatClampNeg)), .int x, .int y]) (rest := []) (wg := (fun _ => (wM cI q M))) ⟨hx, hb, hml, hown, hts⟩ (c_X6_in l G cI cC cD  _  ((M 6) (((M 8 0)).toNatClampNeg)) x y _ h) (va_cwS 3 hts gX6_isAt_X6_in rfl rfl rfl (by decide +kernel) ⟨Nat.le_of_ble_eq_true rfl, Nat.le_of_ble_eq_true rfl⟩) hK hN hP hD hS hA (em_0 _) (fun _ => rp_self (em_0 _)) rfl hl.1 rfl (Nat.le_of_ble_eq_true rfl) dX6_isAt_22 ⟨Nat.zero_le _, Nat.zero_le _⟩ (fun r_3 _ H locs h hP hD hS => ?_)
    refine lv_if_eq (tgt := 32) hx hb dX6_isAt_25 (by decide) (fun c_4 => ?_) (fun c_4 => ?_)
    · have h := h.1 c_4
      refine lv_iconst (v := 0) hx hb dX6_isAt_32 (by decide) ?_
      exact W.zret (v := 0) hx hb hr rfl (fun t ht hW => ⟨⟨0, (), rfl, h, by rw [ht]; exact hP, hD⟩, hS.F ht⟩) hS.2.2 dX6_isAt_33
    · have h := h.2 c_4
      refine lv_iconst (v := 1) hx hb dX6_isAt_28 (by decide) ?_
      refine lv_goto (tgt := 33) hx hb dX6_isAt_29 (by decide) ?_
      exact W.zret (v := 1) hx hb hr rfl (fun t ht hW => ⟨⟨1, (), rfl, h, by rw [ht]; exact hP, hD⟩, hS.F ht⟩) hS.2.2 dX6_isAt_33
def q_X6_number (x : Int32) (y : Int32) (M : St) (Q : Int32 → St → Prop) : Prop :=
  vp_in x 2 ∧ (∃ (I_3 : Nat → St → Prop) (n_6 : Nat), I_3 n_6 (uA M 10 (upd (M 10) ((x).toNatClampNeg) 0)) ∧ ∀ (n_2 : Nat) (D_4 : St), I_3 n_2 D_4 → (q_X6_isAt 48 57 D_4 (fun r_10 => (r_10 = 0 → ((D_4 8 0) ≤ (M 8 0) → Q 0 (uA D_4 8 (fun _ => ((D_4 8 0) + 1)))) ∧ (¬ ((D_4 8 0) ≤ (M 8 0)) → q_X6_isAt y y D_4 (fun r_13 => (r_13 = 0 → Q 0 (uA D_4 8 (fun _ => ((D_4 8 0) + 1)))) ∧ (¬ (r_13 = 0) → Q 1 (uA D_4 8 (fun _ => ((D_4 8 0) + 1))))))) ∧ (¬ (r_10 = 0) → (3 ≤ ((D_4 8 0) - (M 8 0)) → ((D_4 8 0) ≤ (M 8 0) → Q 0 (uA D_4 8 (fun _ => ((D_4 8 0) + 1)))) ∧ (¬ ((D_4 8 0) ≤ (M 8 0)) → q_X6_isAt y y D_4 (fun r_17 => (r_17 = 0 → Q 0 (uA D_4 8 (fun _ => ((D_4 8 0) + 1)))) ∧ (¬ (r_17 = 0) → Q 1 (uA D_4 8 (fun _ => ((D_4 8 0) + 1))))))) ∧ (¬ (3 ≤ ((D_4 8 0) - (M 8 0))) → vp_in (D_4 8 0) 60 ∧ (∃ n_20, n_20 < n_2 ∧ I_3 n_20 (uA (uA D_4 10 (upd (D_4 10) ((x).toNatClampNeg) (((10 * ((D_4 10) ((x).toNatClampNeg))) + ((D_4 6) (((D_4 8 0)).toNatClampNeg))) - 48))) 8 (fun _ => ((D_4 8 0) + 1)))))))))
set_option maxHeartbeats 4000000 in
set_option maxRecDepth 100000 in
theorem c_X6_number (l : Launch) (G : va_G) (cI cC cD : ClassId) (q : Nat → Nat) (sz : Nat) (M : St) (x : Int32) (y : Int32) (Q : Int32 → St → Prop) (h : q_X6_number x y M Q) : Met l yX6_number wsX6_number ({ frames := 2, cells := 0, slots := 0, locals := 44 }) (va_Pc [.ref (q 0), .int x, .int y] (PW G (ty3 cI cC cD) (wM cI q M) sz)) (va_Qi Q (BW G (fun u : St => (wM cI q u)) (va_A (wM cI q M) sz)) (va_A (wM cI q M) sz)) 0 0 (va_A (wM cI q M) sz) := by
  refine Met.ofW (cc := cX6_number) (maxL := 5) (ret := (some .boolean)) (by decide) rfl ?_
  intro p e s m args below meth c s₁ B hml hv
  obtain ⟨rfl, hsz, hP, hK, hD0, hN⟩ := hv
  have hx := B.exec
  have hb := B.bytes
  have hr := B.returns
  have hts := atoms_spec (ws := wsX6_number) B.pre
  have hown : s.vm.findClass RX6 = some m.cls := findClass_of_methodNamed B.named
  have hlocks := B.notSynchronized
  subst hsz
  have hD := hD0.self (sz := s.heap.size)
  generalize hAe : va_A (wM cI q M) s.heap.size = A at hD ⊢
  have hA : ∀ q : Nat, s.heap.size ≤ q → A q := fun q h => by rw [← hAe]; exact Or.inr h
  have hS : va_S A s.heap s.heap [] := va_S.rf
  have hl := lv_entry ([.ref (q 0), .int x, .int y]) (n := 5) (Nat.le_of_ble_eq_true rfl)
  rw [lg_entry_eq]
  generalize (lg_sl ([.ref (q 0), .int x, .int y]) ++ List.replicate (5 - (lg_sl ([.ref (q 0), .int x, .int y])).length) Slot.unset).toArray = ls at hl ⊢
  have hl : lv_has ls 5 [(0, .ref (q 0)), (1, .int x), (2, .int y)] := hl
  have hinX6 : ∀ w ∈ wsX60, w ∈ wsX6_number := by decide +kernel
  have hL22 := hts (.fieldLink RX6 22 "CraneGatesModel" "text" "[I") (by decide +kernel)
  have hL25 := hts (.fieldLink RX6 25 "CraneGatesModel" "told" "[I") (by decide +kernel)
  have hL146 := hts (.fieldLink RX6 146 "CraneGatesModel" "spot" "I") (by decide +kernel)
  unfold q_X6_number at h
  refine lv_aload_n hx hb dX6_number_0 rfl (lv_at hl 0 rfl) ?_
  refine va_get (D := G) (ci := 6) (v := .int (M 8 0)) (C := RX6) (T := TX6) (N := 11) hx hb hts hinX6 hown hK hP 0 rfl rfl 8 (by decide) hL146 (fun _ h9 => h9) rfl dX6_number_1 ?_
  refine lv_istore_n (lv' := [(3, .int (M 8 0)), (0, .ref (q 0)), (1, .int x), (2, .int y)]) hx hb dX6_number_4 rfl hl (by decide) rfl (fun ls hl => ?_)
  refine lv_aload_n hx hb dX6_number_5 rfl (lv_at hl 1 rfl) ?_
  refine va_get (D := G) (ci := 6) (v := .ref (q 6)) (C := RX6) (T := TX6) (N := 11) hx hb hts hinX6 hown hK hP 0 rfl rfl 10 (by decide) hL25 (fun _ h9 => h9) rfl dX6_number_6 ?_
  refine lv_iload_n hx hb dX6_number_9 rfl (lv_at hl 2 rfl) ?_
  refine lv_iconst (v := 0) hx hb dX6_number_10 (by decide) ?_
  obtain ⟨hi_1, h⟩ := h
  refine k_ast (f := (M 10)) (j := (x).toNatClampNeg) (ws' := (wM cI q (uA M 10 (upd (M 10) ((x).toNatClampNeg) 0)))) hx hb hK hP hD hS 6 0 rfl rfl hi_1 rfl dX6_number_11 (st_M_10 cI q M (upd (M 10) ((x).toNatClampNeg) 0)) (fun H locs hP hD hS => ?_)
  obtain ⟨I_3, n_6, h_7, hI_8⟩ := h
  have lp_9 : ∀ (n_2 : Nat) (D_4 : St), I_3 n_2 D_4 → ∀ (H : Heap) (locs : List Loc) (ls : Array Slot), va_P G vwCl (wM cI q D_4) H → va_D A (wM cI q D_4) → va_S A s.heap H locs → lv_has ls 5 [(3, .int (M 8 0)), (0, .ref (q 0)), (1, .int x), (2, .int y)] → W p l e (headSpec wsX6_number ({ frames := 2, cells := 0, slots := 0, locals := 44 })).room s m ([.ref (q 0), .int x, .int y] : List Value).toArray below meth c H locs 0 0 (MQ below (va_Qi Q (BW G (fun u : St => (wM cI q u)) A) A) ([.ref (q 0), .int x, .int y] : List Value).toArray s 0 0 A) (F0 m 12 ls []) := by
    intro n_2
    induction n_2 using Nat.strongRecOn with
    | ind n_2 ih_5 =>
      intro D_4 hIn H locs ls hP hD hS hl
      have h := hI_8 n_2 D_4 hIn
      refine lv_aload_n hx hb dX6_number_12 rfl (lv_at hl 1 rfl) ?_
      refine lv_bipush (v := 48) hx hb dX6_number_13 (by decide) ?_
      refine lv_bipush (v := 57) hx hb dX6_number_15 (by decide) ?_
      refine kc_i (As := [.int 48, .int 57]) (rest := []) (wg := (fun _ => (wM cI q D_4))) ⟨hx, hb, hml, hown, hts⟩ (c_X6_isAt l G cI cC cD q _ D_4 48 57 _ h) (cwV 2 hts gX6_number_X6_isAt rfl rfl rfl (by decide +kernel) ⟨Nat.le_of_ble_eq_true rfl, Nat.le_of_ble_eq_true rfl⟩) hK hN hP hD hS hA (em_MM cI q D_4) (fun _ => rp_self (em_MM cI q D_4)) rfl rfl rfl rfl hl.1 rfl (Nat.le_of_ble_eq_true rfl) dX6_number_17 ⟨Nat.zero_le _, Nat.zero_le _⟩ (fun r_10 _ H locs h hP hD hS => ?_)
      refine lv_if_eq (tgt := 74) hx hb dX6_number_20 (by decide) (fun c_11 => ?_) (fun c_11 => ?_)
      · have h := h.1 c_11
        refine lv_aload_n hx hb dX6_number_74 rfl (lv_at hl 1 rfl) ?_
        refine va_get (D := G) (ci := 6) (v := .int (D_4 8 0)) (C := RX6) (T := TX6) (N := 11) hx hb hts hinX6 hown hK hP 0 rfl rfl 8 (by decide) hL146 (fun _ h9 => h9) rfl dX6_number_75 ?_
        refine lv_iload_n hx hb dX6_number_78 rfl (lv_at hl 0 rfl) ?_
        refine lv_icmp_le (tgt := 95) hx hb dX6_number_79 (by decide) (fun c_12 => ?_) (fun c_12 => ?_)
        · have h := h.1 c_12
          refine lv_iconst (v := 0) hx hb dX6_number_95 (by decide) ?_
          refine lv_istore (lv' := [(4, .int 0), (3, .int (M 8 0)), (0, .ref (q 0)), (1, .int x), (2, .int y)]) hx hb dX6_number_96 hl (by decide) rfl (fun ls hl => ?_)
          refine lv_aload_n hx hb dX6_number_98 rfl (lv_at hl 2 rfl) ?_
          refine lv_dup hx hb dX6_number_99 rfl ?_
          refine va_get (D := G) (ci := 6) (v := .int (D_4 8 0)) (C := RX6) (T := TX6) (N := 11) hx hb hts hinX6 hown hK hP 0 rfl rfl 8 (by decide) hL146 (fun _ h9 => h9) rfl dX6_number_100 ?_
          refine lv_iconst (v := 1) hx hb dX6_number_103 (by decide) ?_
          refine lv_iadd hx hb dX6_number_104 ?_
          refine va_put (D := G) (ci := 6) (v := .int ((D_4 8 0) + 1)) (ty := .int) (C := RX6) (T := TX6) (N := 11) hx hb hts hinX6 tyX6 tyX6_ok nmX6 hown hK hP hD hS 0 rfl rfl 8 (by decide) hL146 (fun _ h9 => h9) rfl (by decide +kernel) rfl rfl (Nat.le_of_ble_eq_true rfl) dX6_number_105 (fun H locs hP hD hS => ?_)
          have hP : va_P G vwCl (wM cI q (uA D_4 8 (fun _ => ((D_4 8 0) + 1)))) H := hP
          have hD : va_D A (wM cI q (uA D_4 8 (fun _ => ((D_4 8 0) + 1)))) := hD
          refine lv_iload hx hb dX6_number_108 (lv_at hl 0 rfl) ?_
          exact W.zret (v := 0) hx hb hr rfl (fun t ht hW => ⟨⟨0, (uA D_4 8 (fun _ => ((D_4 8 0) + 1))), rfl, h, by rw [ht]; exact hP, hD⟩, hS.F ht⟩) hS.2.2 dX6_number_110
        · have h := h.2 c_12
          refine lv_aload_n hx hb dX6_number_82 rfl (lv_at hl 1 rfl) ?_
          refine lv_iload_n hx hb dX6_number_83 rfl (lv_at hl 3 rfl) ?_
          refine lv_iload_n hx hb dX6_number_84 rfl (lv_at hl 3 rfl) ?_
          refine kc_i (As := [.int y, .int y]) (rest := []) (wg := (fun _ => (wM cI q D_4))) ⟨hx, hb, hml, hown, hts⟩ (c_X6_isAt l G cI cC cD q _ D_4 y y _ h) (cwV 2 hts gX6_number_X6_isAt rfl rfl rfl (by decide +kernel) ⟨Nat.le_of_ble_eq_true rfl, Nat.le_of_ble_eq_true rfl⟩) hK hN hP hD hS hA (em_MM cI q D_4) (fun _ => rp_self (em_MM cI q D_4)) rfl rfl rfl rfl hl.1 rfl (Nat.le_of_ble_eq_true rfl) dX6_number_85 ⟨Nat.zero_le _, Nat.zero_le _⟩ (fun r_13 _ H locs h hP hD hS => ?_)
          refine lv_if_eq (tgt := 95) hx hb dX6_number_88 (by decide) (fun c_14 => ?_) (fun c_14 => ?_)
          · have h := h.1 c_14
            refine lv_iconst (v := 0) hx hb dX6_number_95 (by decide) ?_
            refine lv_istore (lv' := [(4, .int 0), (3, .int (M 8 0)), (0, .ref (q 0)), (1, .int x), (2, .int y)]) hx hb dX6_number_96 hl (by decide) rfl (fun ls hl => ?_)
            refine lv_aload_n hx hb dX6_number_98 rfl (lv_at hl 2 rfl) ?_
            refine lv_dup hx hb dX6_number_99 rfl ?_
            refine va_get (D := G) (ci := 6) (v := .int (D_4 8 0)) (C := RX6) (T := TX6) (N := 11) hx hb hts hinX6 hown hK hP 0 rfl rfl 8 (by decide) hL146 (fun _ h9 => h9) rfl dX6_number_100 ?_
            refine lv_iconst (v := 1) hx hb dX6_number_103 (by decide) ?_
            refine lv_iadd hx hb dX6_number_104 ?_
            refine va_put (D := G) (ci := 6) (v := .int ((D_4 8 0) + 1)) (ty := .int) (C := RX6) (T := TX6) (N := 11) hx hb hts hinX6 tyX6 tyX6_ok nmX6 hown hK hP hD hS 0 rfl rfl 8 (by decide) hL146 (fun _ h9 => h9) rfl (by decide +kernel) rfl rfl (Nat.le_of_ble_eq_true rfl) dX6_number_105 (fun H locs hP hD hS => ?_)
            have hP : va_P G vwCl (wM cI q (uA D_4 8 (fun _ => ((D_4 8 0) + 1)))) H := hP
            have hD : va_D A (wM cI q (uA D_4 8 (fun _ => ((D_4 8 0) + 1)))) := hD
            refine lv_iload hx hb dX6_number_108 (lv_at hl 0 rfl) ?_
            exact W.zret (v := 0) hx hb hr rfl (fun t ht hW => ⟨⟨0, (uA D_4 8 (fun _ => ((D_4 8 0) + 1))), rfl, h, by rw [ht]; exact hP, hD⟩, hS.F ht⟩) hS.2.2 dX6_number_110
          · have h := h.2 c_14
            refine lv_iconst (v := 1) hx hb dX6_number_91 (by decide) ?_
            refine lv_goto (tgt := 96) hx hb dX6_number_92 (by decide) ?_
            refine lv_istore (lv' := [(4, .int 1), (3, .int (M 8 0)), (0, .ref (q 0)), (1, .int x), (2, .int y)]) hx hb dX6_number_96 hl (by decide) rfl (fun ls hl => ?_)
            refine lv_aload_n hx hb dX6_number_98 rfl (lv_at hl 2 rfl) ?_
            refine lv_dup hx hb dX6_number_99 rfl ?_
            refine va_get (D := G) (ci := 6) (v := .int (D_4 8 0)) (C := RX6) (T := TX6) (N := 11) hx hb hts hinX6 hown hK hP 0 rfl rfl 8 (by decide) hL146 (fun _ h9 => h9) rfl dX6_number_100 ?_
            refine lv_iconst (v := 1) hx hb dX6_number_103 (by decide) ?_
            refine lv_iadd hx hb dX6_number_104 ?_
            refine va_put (D := G) (ci := 6) (v := .int ((D_4 8 0) + 1)) (ty := .int) (C := RX6) (T := TX6) (N := 11) hx hb hts hinX6 tyX6 tyX6_ok nmX6 hown hK hP hD hS 0 rfl rfl 8 (by decide) hL146 (fun _ h9 => h9) rfl (by decide +kernel) rfl rfl (Nat.le_of_ble_eq_true rfl) dX6_number_105 (fun H locs hP hD hS => ?_)
            have hP : va_P G vwCl (wM cI q (uA D_4 8 (fun _ => ((D_4 8 0) + 1)))) H := hP
            have hD : va_D A (wM cI q (uA D_4 8 (fun _ => ((D_4 8 0) + 1)))) := hD
            refine lv_iload hx hb dX6_number_108 (lv_at hl 0 rfl) ?_
            exact W.zret (v := 1) hx hb hr rfl (fun t ht hW => ⟨⟨1, (uA D_4 8 (fun _ => ((D_4 8 0) + 1))), rfl, h, by rw [ht]; exact hP, hD⟩, hS.F ht⟩) hS.2.2 dX6_number_110
      · have h := h.2 c_11
        refine lv_aload_n hx hb dX6_number_23 rfl (lv_at hl 1 rfl) ?_
        refine va_get (D := G) (ci := 6) (v := .int (D_4 8 0)) (C := RX6) (T := TX6) (N := 11) hx hb hts hinX6 hown hK hP 0 rfl rfl 8 (by decide) hL146 (fun _ h9 => h9) rfl dX6_number_24 ?_
        refine lv_iload_n hx hb dX6_number_27 rfl (lv_at hl 0 rfl) ?_
        refine lv_isub hx hb dX6_number_28 ?_
        refine lv_iconst (v := 3) hx hb dX6_number_29 (by decide) ?_
        refine lv_icmp_ge (tgt := 74) hx hb dX6_number_30 (by decide) (fun c_15 => ?_) (fun c_15 => ?_)
        · have h := h.1 c_15
          refine lv_aload_n hx hb dX6_number_74 rfl (lv_at hl 1 rfl) ?_
          refine va_get (D := G) (ci := 6) (v := .int (D_4 8 0)) (C := RX6) (T := TX6) (N := 11) hx hb hts hinX6 hown hK hP 0 rfl rfl 8 (by decide) hL146 (fun _ h9 => h9) rfl dX6_number_75 ?_
          refine lv_iload_n hx hb dX6_number_78 rfl (lv_at hl 0 rfl) ?_
          refine lv_icmp_le (tgt := 95) hx hb dX6_number_79 (by decide) (fun c_16 => ?_) (fun c_16 => ?_)
          · have h := h.1 c_16
            refine lv_iconst (v := 0) hx hb dX6_number_95 (by decide) ?_
            refine lv_istore (lv' := [(4, .int 0), (3, .int (M 8 0)), (0, .ref (q 0)), (1, .int x), (2, .int y)]) hx hb dX6_number_96 hl (by decide) rfl (fun ls hl => ?_)
            refine lv_aload_n hx hb dX6_number_98 rfl (lv_at hl 2 rfl) ?_
            refine lv_dup hx hb dX6_number_99 rfl ?_
            refine va_get (D := G) (ci := 6) (v := .int (D_4 8 0)) (C := RX6) (T := TX6) (N := 11) hx hb hts hinX6 hown hK hP 0 rfl rfl 8 (by decide) hL146 (fun _ h9 => h9) rfl dX6_number_100 ?_
            refine lv_iconst (v := 1) hx hb dX6_number_103 (by decide) ?_
            refine lv_iadd hx hb dX6_number_104 ?_
            refine va_put (D := G) (ci := 6) (v := .int ((D_4 8 0) + 1)) (ty := .int) (C := RX6) (T := TX6) (N := 11) hx hb hts hinX6 tyX6 tyX6_ok nmX6 hown hK hP hD hS 0 rfl rfl 8 (by decide) hL146 (fun _ h9 => h9) rfl (by decide +kernel) rfl rfl (Nat.le_of_ble_eq_true rfl) dX6_number_105 (fun H locs hP hD hS => ?_)
            have hP : va_P G vwCl (wM cI q (uA D_4 8 (fun _ => ((D_4 8 0) + 1)))) H := hP
            have hD : va_D A (wM cI q (uA D_4 8 (fun _ => ((D_4 8 0) + 1)))) := hD
            refine lv_iload hx hb dX6_number_108 (lv_at hl 0 rfl) ?_
            exact W.zret (v := 0) hx hb hr rfl (fun t ht hW => ⟨⟨0, (uA D_4 8 (fun _ => ((D_4 8 0) + 1))), rfl, h, by rw [ht]; exact hP, hD⟩, hS.F ht⟩) hS.2.2 dX6_number_110
          · have h := h.2 c_16
            refine lv_aload_n hx hb dX6_number_82 rfl (lv_at hl 1 rfl) ?_
            refine lv_iload_n hx hb dX6_number_83 rfl (lv_at hl 3 rfl) ?_
            refine lv_iload_n hx hb dX6_number_84 rfl (lv_at hl 3 rfl) ?_
            refine kc_i (As := [.int y, .int y]) (rest := []) (wg := (fun _ => (wM cI q D_4))) ⟨hx, hb, hml, hown, hts⟩ (c_X6_isAt l G cI cC cD q _ D_4 y y _ h) (cwV 2 hts gX6_number_X6_isAt rfl rfl rfl (by decide +kernel) ⟨Nat.le_of_ble_eq_true rfl, Nat.le_of_ble_eq_true rfl⟩) hK hN hP hD hS hA (em_MM cI q D_4) (fun _ => rp_self (em_MM cI q D_4)) rfl rfl rfl rfl hl.1 rfl (Nat.le_of_ble_eq_true rfl) dX6_number_85 ⟨Nat.zero_le _, Nat.zero_le _⟩ (fun r_17 _ H locs h hP hD hS => ?_)
            refine lv_if_eq (tgt := 95) hx hb dX6_number_88 (by decide) (fun c_18 => ?_) (fun c_18 => ?_)
            · have h := h.1 c_18
              refine lv_iconst (v := 0) hx hb dX6_number_95 (by decide) ?_
              refine lv_istore (lv' := [(4, .int 0), (3, .int (M 8 0)), (0, .ref (q 0)), (1, .int x), (2, .int y)]) hx hb dX6_number_96 hl (by decide) rfl (fun ls hl => ?_)
              refine lv_aload_n hx hb dX6_number_98 rfl (lv_at hl 2 rfl) ?_
              refine lv_dup hx hb dX6_number_99 rfl ?_
              refine va_get (D := G) (ci := 6) (v := .int (D_4 8 0)) (C := RX6) (T := TX6) (N := 11) hx hb hts hinX6 hown hK hP 0 rfl rfl 8 (by decide) hL146 (fun _ h9 => h9) rfl dX6_number_100 ?_
              refine lv_iconst (v := 1) hx hb dX6_number_103 (by decide) ?_
              refine lv_iadd hx hb dX6_number_104 ?_
              refine va_put (D := G) (ci := 6) (v := .int ((D_4 8 0) + 1)) (ty := .int) (C := RX6) (T := TX6) (N := 11) hx hb hts hinX6 tyX6 tyX6_ok nmX6 hown hK hP hD hS 0 rfl rfl 8 (by decide) hL146 (fun _ h9 => h9) rfl (by decide +kernel) rfl rfl (Nat.le_of_ble_eq_true rfl) dX6_number_105 (fun H locs hP hD hS => ?_)
              have hP : va_P G vwCl (wM cI q (uA D_4 8 (fun _ => ((D_4 8 0) + 1)))) H := hP
              have hD : va_D A (wM cI q (uA D_4 8 (fun _ => ((D_4 8 0) + 1)))) := hD
              refine lv_iload hx hb dX6_number_108 (lv_at hl 0 rfl) ?_
              exact W.zret (v := 0) hx hb hr rfl (fun t ht hW => ⟨⟨0, (uA D_4 8 (fun _ => ((D_4 8 0) + 1))), rfl, h, by rw [ht]; exact hP, hD⟩, hS.F ht⟩) hS.2.2 dX6_number_110
            · have h := h.2 c_18
              refine lv_iconst (v := 1) hx hb dX6_number_91 (by decide) ?_
              refine lv_goto (tgt := 96) hx hb dX6_number_92 (by decide) ?_
              refine lv_istore (lv' := [(4, .int 1), (3, .int (M 8 0)), (0, .ref (q 0)), (1, .int x), (2, .int y)]) hx hb dX6_number_96 hl (by decide) rfl (fun ls hl => ?_)
              refine lv_aload_n hx hb dX6_number_98 rfl (lv_at hl 2 rfl) ?_
              refine lv_dup hx hb dX6_number_99 rfl ?_
              refine va_get (D := G) (ci := 6) (v := .int (D_4 8 0)) (C := RX6) (T := TX6) (N := 11) hx hb hts hinX6 hown hK hP 0 rfl rfl 8 (by decide) hL146 (fun _ h9 => h9) rfl dX6_number_100 ?_
              refine lv_iconst (v := 1) hx hb dX6_number_103 (by decide) ?_
              refine lv_iadd hx hb dX6_number_104 ?_
              refine va_put (D := G) (ci := 6) (v := .int ((D_4 8 0) + 1)) (ty := .int) (C := RX6) (T := TX6) (N := 11) hx hb hts hinX6 tyX6 tyX6_ok nmX6 hown hK hP hD hS 0 rfl rfl 8 (by decide) hL146 (fun _ h9 => h9) rfl (by decide +kernel) rfl rfl (Nat.le_of_ble_eq_true rfl) dX6_number_105 (fun H locs hP hD hS => ?_)
              have hP : va_P G vwCl (wM cI q (uA D_4 8 (fun _ => ((D_4 8 0) + 1)))) H := hP
              have hD : va_D A (wM cI q (uA D_4 8 (fun _ => ((D_4 8 0) + 1)))) := hD
              refine lv_iload hx hb dX6_number_108 (lv_at hl 0 rfl) ?_
              exact W.zret (v := 1) hx hb hr rfl (fun t ht hW => ⟨⟨1, (uA D_4 8 (fun _ => ((D_4 8 0) + 1))), rfl, h, by rw [ht]; exact hP, hD⟩, hS.F ht⟩) hS.2.2 dX6_number_110
        · have h := h.2 c_15
          refine lv_aload_n hx hb dX6_number_33 rfl (lv_at hl 1 rfl) ?_
          refine va_get (D := G) (ci := 6) (v := .ref (q 6)) (C := RX6) (T := TX6) (N := 11) hx hb hts hinX6 hown hK hP 0 rfl rfl 10 (by decide) hL25 (fun _ h9 => h9) rfl dX6_number_34 ?_
          refine lv_iload_n hx hb dX6_number_37 rfl (lv_at hl 2 rfl) ?_
          refine lv_bipush (v := 10) hx hb dX6_number_38 (by decide) ?_
          refine lv_aload_n hx hb dX6_number_40 rfl (lv_at hl 1 rfl) ?_
          refine va_get (D := G) (ci := 6) (v := .ref (q 6)) (C := RX6) (T := TX6) (N := 11) hx hb hts hinX6 hown hK hP 0 rfl rfl 10 (by decide) hL25 (fun _ h9 => h9) rfl dX6_number_41 ?_
          refine lv_iload_n hx hb dX6_number_44 rfl (lv_at hl 2 rfl) ?_
          refine k_ald (f := (D_4 10)) (j := (x).toNatClampNeg) (v := ((D_4 10) ((x).toNatClampNeg))) hx hb hK hP 6 0 rfl rfl hi_1 rfl rfl dX6_number_45 ?_
          refine lv_imul hx hb dX6_number_46 ?_
          refine lv_aload_n hx hb dX6_number_47 rfl (lv_at hl 1 rfl) ?_
          refine va_get (D := G) (ci := 6) (v := .ref (q 5)) (C := RX6) (T := TX6) (N := 11) hx hb hts hinX6 hown hK hP 0 rfl rfl 6 (by decide) hL22 (fun _ h9 => h9) rfl dX6_number_48 ?_
          refine lv_aload_n hx hb dX6_number_51 rfl (lv_at hl 1 rfl) ?_
          refine va_get (D := G) (ci := 6) (v := .int (D_4 8 0)) (C := RX6) (T := TX6) (N := 11) hx hb hts hinX6 hown hK hP 0 rfl rfl 8 (by decide) hL146 (fun _ h9 => h9) rfl dX6_number_52 ?_
          obtain ⟨hi_19, h⟩ := h
          refine k_ald (f := (D_4 6)) (j := ((D_4 8 0)).toNatClampNeg) (v := ((D_4 6) (((D_4 8 0)).toNatClampNeg))) hx hb hK hP 5 0 rfl rfl hi_19 rfl rfl dX6_number_55 ?_
          refine lv_iadd hx hb dX6_number_56 ?_
          refine lv_bipush (v := 48) hx hb dX6_number_57 (by decide) ?_
          refine lv_isub hx hb dX6_number_59 ?_
          refine k_ast (f := (D_4 10)) (j := (x).toNatClampNeg) (ws' := (wM cI q (uA D_4 10 (upd (D_4 10) ((x).toNatClampNeg) (((10 * ((D_4 10) ((x).toNatClampNeg))) + ((D_4 6) (((D_4 8 0)).toNatClampNeg))) - 48))))) hx hb hK hP hD hS 6 0 rfl rfl hi_1 rfl dX6_number_60 (st_M_10 cI q D_4 (upd (D_4 10) ((x).toNatClampNeg) (((10 * ((D_4 10) ((x).toNatClampNeg))) + ((D_4 6) (((D_4 8 0)).toNatClampNeg))) - 48))) (fun H locs hP hD hS => ?_)
          refine lv_aload_n hx hb dX6_number_61 rfl (lv_at hl 1 rfl) ?_
          refine lv_dup hx hb dX6_number_62 rfl ?_
          refine va_get (D := G) (ci := 6) (v := .int (D_4 8 0)) (C := RX6) (T := TX6) (N := 11) hx hb hts hinX6 hown hK hP 0 rfl rfl 8 (by decide) hL146 (fun _ h9 => h9) rfl dX6_number_63 ?_
          refine lv_iconst (v := 1) hx hb dX6_number_66 (by decide) ?_
          refine lv_iadd hx hb dX6_number_67 ?_
          refine va_put (D := G) (ci := 6) (v := .int ((D_4 8 0) + 1)) (ty := .int) (C := RX6) (T := TX6) (N := 11) hx hb hts hinX6 tyX6 tyX6_ok nmX6 hown hK hP hD hS 0 rfl rfl 8 (by decide) hL146 (fun _ h9 => h9) rfl (by decide +kernel) rfl rfl (Nat.le_of_ble_eq_true rfl) dX6_number_68 (fun H locs hP hD hS => ?_)
          have hP : va_P G vwCl (wM cI q (uA (uA D_4 10 (upd (D_4 10) ((x).toNatClampNeg) (((10 * ((D_4 10) ((x).toNatClampNeg))) + ((D_4 6) (((D_4 8 0)).toNatClampNeg))) - 48))) 8 (fun _ => ((D_4 8 0) + 1)))) H := hP
          have hD : va_D A (wM cI q (uA (uA D_4 10 (upd (D_4 10) ((x).toNatClampNeg) (((10 * ((D_4 10) ((x).toNatClampNeg))) + ((D_4 6) (((D_4 8 0)).toNatClampNeg))) - 48))) 8 (fun _ => ((D_4 8 0) + 1)))) := hD
          refine lv_goto (tgt := 12) hx hb dX6_number_71 (by decide) ?_
          obtain ⟨n_20, lt_21, h_22⟩ := h
          exact ih_5 n_20 lt_21 _ h_22 _ _ _ hP hD hS (lv_sub hl [0, 1, 2, 3] rfl)
  exact lp_9 _ _ h_7 _ _ _ hP hD hS hl
def q_X6_asReason (x : Int32) (Q : Int32 → Prop) : Prop :=
  (x < 0 → (x = (-1000001) → Q 2) ∧ (¬ (x = (-1000001)) → Q 3)) ∧ (¬ (x < 0) → Q 0)
set_option maxHeartbeats 4000000 in
set_option maxRecDepth 100000 in
theorem c_X6_asReason (l : Launch) (G : va_G) (cI cC cD : ClassId)  (sz : Nat)  (x : Int32) (Q : Int32 → Prop) (h : q_X6_asReason x  Q) : Met l yX6_asReason wsX6_asReason ({ frames := 0, cells := 0, slots := 0, locals := 0 }) (va_Pc [.int x] (PW G (ty3 cI cC cD) [] sz)) (va_Qi (fun (r : Int32) (_ : Unit) => Q r) (BW G (fun _ : Unit => []) (va_A [] sz)) (va_A [] sz)) 0 0 (va_A [] sz) := by
  refine Met.ofW (cc := cX6_asReason) (maxL := 1) (ret := (some .int)) (by decide) rfl ?_
  intro p e s m args below meth c s₁ B hml hv
  obtain ⟨rfl, hsz, hP, hK, hD0, hN⟩ := hv
  have hx := B.exec
  have hb := B.bytes
  have hr := B.returns
  have hts := atoms_spec (ws := wsX6_asReason) B.pre
  have hown : s.vm.findClass RX6 = some m.cls := findClass_of_methodNamed B.named
  have hlocks := B.notSynchronized
  subst hsz
  have hD := hD0.self (sz := s.heap.size)
  generalize hAe : va_A [] s.heap.size = A at hD ⊢
  have hA : ∀ q : Nat, s.heap.size ≤ q → A q := fun q h => by rw [← hAe]; exact Or.inr h
  have hS : va_S A s.heap s.heap [] := va_S.rf
  have hl := lv_entry ([.int x]) (n := 1) (Nat.le_of_ble_eq_true rfl)
  rw [lg_entry_eq]
  generalize (lg_sl ([.int x]) ++ List.replicate (1 - (lg_sl ([.int x])).length) Slot.unset).toArray = ls at hl ⊢
  have hl : lv_has ls 1 [(0, .int x)] := hl
  unfold q_X6_asReason at h
  refine lv_iload_n hx hb dX6_asReason_0 rfl (lv_at hl 0 rfl) ?_
  refine lv_if_lt (tgt := 8) hx hb dX6_asReason_1 (by decide) (fun c_1 => ?_) (fun c_1 => ?_)
  · have h := h.1 c_1
    refine lv_iload_n hx hb dX6_asReason_8 rfl (lv_at hl 0 rfl) ?_
    refine lv_ldc hx hb hown (hts (.constant RX6 103 (-1000001)) (by decide +kernel)) dX6_asReason_9 ?_
    refine lv_icmp_ne (tgt := 18) hx hb dX6_asReason_11 (by decide) (fun c_2 => ?_) (fun c_2 => ?_)
    · have h := h.2 c_2
      refine lv_iconst (v := 3) hx hb dX6_asReason_18 (by decide) ?_
      exact W.iret (v := 3) hx hb hr (fun t ht hW => ⟨⟨3, (), rfl, h, by rw [ht]; exact hP, hD⟩, hS.F ht⟩) hS.2.2 dX6_asReason_19
    · have h := h.1 c_2
      refine lv_iconst (v := 2) hx hb dX6_asReason_14 (by decide) ?_
      refine lv_goto (tgt := 19) hx hb dX6_asReason_15 (by decide) ?_
      exact W.iret (v := 2) hx hb hr (fun t ht hW => ⟨⟨2, (), rfl, h, by rw [ht]; exact hP, hD⟩, hS.F ht⟩) hS.2.2 dX6_asReason_19
  · have h := h.2 c_1
    refine lv_iconst (v := 0) hx hb dX6_asReason_4 (by decide) ?_
    refine lv_goto (tgt := 19) hx hb dX6_asReason_5 (by decide) ?_
    exact W.iret (v := 0) hx hb hr (fun t ht hW => ⟨⟨0, (), rfl, h, by rw [ht]; exact hP, hD⟩, hS.F ht⟩) hS.2.2 dX6_asReason_19
