def q_X6_in (x : Int32) (y : Int32) (z : Int32) (Q : Int32 → Prop) : Prop :=
  (x < y → Q 0) ∧ (¬ (x < y) → (z < x → Q 0) ∧ (¬ (z < x) → Q 1))
set_option maxHeartbeats 4000000 in
set_option maxRecDepth 100000 in
theorem c_X6_in (l : Launch) (G : va_G) (cI cC cD : ClassId)  (sz : Nat)  (x : Int32) (y : Int32) (z : Int32) (Q : Int32 → Prop) (h : q_X6_in x y z  Q) : Met l yX6_in wsX6_in ({ frames := 0, cells := 0, slots := 0, locals := 0 }) (va_Pc [.int x, .int y, .int z] (PW G (ty3 cI cC cD) [] sz)) (va_Qi (fun (r : Int32) (_ : Unit) => Q r) (BW G (fun _ : Unit => []) (va_A [] sz)) (va_A [] sz)) 0 0 (va_A [] sz) := by
  refine Met.ofW (cc := cX6_in) (maxL := 3) (ret := (some .boolean)) (by decide) rfl ?_
  intro p e s m args below meth c s₁ B hml hv
  obtain ⟨rfl, hsz, hP, hK, hD0, hN⟩ := hv
  have hx := B.exec
  have hb := B.bytes
  have hr := B.returns
  have hts := atoms_spec (ws := wsX6_in) B.pre
  have hown : s.vm.findClass RX6 = some m.cls := findClass_of_methodNamed B.named
  have hlocks := B.notSynchronized
  subst hsz
  have hD := hD0.self (sz := s.heap.size)
  generalize hAe : va_A [] s.heap.size = A at hD ⊢
  have hA : ∀ q : Nat, s.heap.size ≤ q → A q := fun q h => by rw [← hAe]; exact Or.inr h
  have hS : va_S A s.heap s.heap [] := va_S.rf
  have hl := lv_entry ([.int x, .int y, .int z]) (n := 3) (Nat.le_of_ble_eq_true rfl)
  rw [lg_entry_eq]
  generalize (lg_sl ([.int x, .int y, .int z]) ++ List.replicate (3 - (lg_sl ([.int x, .int y, .int z])).length) Slot.unset).toArray = ls at hl ⊢
  have hl : lv_has ls 3 [(0, .int x), (1, .int y), (2, .int z)] := hl
  unfold q_X6_in at h
  refine lv_iload_n hx hb dX6_in_0 rfl (lv_at hl 0 rfl) ?_
  refine lv_iload_n hx hb dX6_in_1 rfl (lv_at hl 1 rfl) ?_
  refine lv_icmp_lt (tgt := 14) hx hb dX6_in_2 (by decide) (fun c_1 => ?_) (fun c_1 => ?_)
  · have h := h.1 c_1
    refine lv_iconst (v := 0) hx hb dX6_in_14 (by decide) ?_
    exact W.zret (v := 0) hx hb hr rfl (fun t ht hW => ⟨⟨0, (), rfl, h, by rw [ht]; exact hP, hD⟩, hS.F ht⟩) hS.2.2 dX6_in_15
  · have h := h.2 c_1
    refine lv_iload_n hx hb dX6_in_5 rfl (lv_at hl 0 rfl) ?_
    refine lv_iload_n hx hb dX6_in_6 rfl (lv_at hl 2 rfl) ?_
    refine lv_icmp_gt (tgt := 14) hx hb dX6_in_7 (by decide) (fun c_2 => ?_) (fun c_2 => ?_)
    · have h := h.1 c_2
      refine lv_iconst (v := 0) hx hb dX6_in_14 (by decide) ?_
      exact W.zret (v := 0) hx hb hr rfl (fun t ht hW => ⟨⟨0, (), rfl, h, by rw [ht]; exact hP, hD⟩, hS.F ht⟩) hS.2.2 dX6_in_15
    · have h := h.2 c_2
      refine lv_iconst (v := 1) hx hb dX6_in_10 (by decide) ?_
      refine lv_goto (tgt := 15) hx hb dX6_in_11 (by decide) ?_
      exact W.zret (v := 1) hx hb hr rfl (fun t ht hW => ⟨⟨1, (), rfl, h, by rw [ht]; exact hP, hD⟩, hS.F ht⟩) hS.2.2 dX6_in_15
def q_X6_copies (S : St) (Q : St → Prop) : Prop :=
  ∃ (I_2 : Nat → Int32 → St → Prop) (n_6 : Nat), I_2 n_6 0 S ∧ ∀ (n_1 : Nat) (x2_3 : Int32) (D_4 : St), I_2 n_1 x2_3 D_4 → ((86 ≤ x2_3 → Q D_4) ∧ (¬ (86 ≤ x2_3) → vp_in x2_3 86 ∧ (∃ n_12, n_12 < n_1 ∧ I_2 n_12 (x2_3 + 1) (uA D_4 1 (upd (D_4 1) ((x2_3).toNatClampNeg) ((D_4 0) ((x2_3).toNatClampNeg)))))))
set_option maxHeartbeats 4000000 in
set_option maxRecDepth 100000 in
theorem c_X6_copies (l : Launch) (G : va_G) (cI cC cD : ClassId) (k0 k1 : Nat) (sz : Nat) (S : St)  (Q : St → Prop) (h : q_X6_copies  S Q) : Met l yX6_copies wsX6_copies ({ frames := 0, cells := 0, slots := 0, locals := 0 }) (va_Pc [.ref k0, .ref k1] (PW G (ty3 cI cC cD) (w2 cI k0 k1 S) sz)) (va_Qv Q (BW G (fun u : St => (w2 cI k0 k1 u)) (va_A (w2 cI k0 k1 S) sz)) (va_A (w2 cI k0 k1 S) sz)) 0 0 (va_A (w2 cI k0 k1 S) sz) := by
  refine Met.ofW (cc := cX6_copies) (maxL := 3) (ret := none) (by decide) rfl ?_
  intro p e s m args below meth c s₁ B hml hv
  obtain ⟨rfl, hsz, hP, hK, hD0, hN⟩ := hv
  have hx := B.exec
  have hb := B.bytes
  have hr := B.returns
  have hts := atoms_spec (ws := wsX6_copies) B.pre
  have hown : s.vm.findClass RX6 = some m.cls := findClass_of_methodNamed B.named
  have hlocks := B.notSynchronized
  subst hsz
  have hD := hD0.self (sz := s.heap.size)
  generalize hAe : va_A (w2 cI k0 k1 S) s.heap.size = A at hD ⊢
  have hA : ∀ q : Nat, s.heap.size ≤ q → A q := fun q h => by rw [← hAe]; exact Or.inr h
  have hS : va_S A s.heap s.heap [] := va_S.rf
  have hl := lv_entry ([.ref k0, .ref k1]) (n := 3) (Nat.le_of_ble_eq_true rfl)
  rw [lg_entry_eq]
  generalize (lg_sl ([.ref k0, .ref k1]) ++ List.replicate (3 - (lg_sl ([.ref k0, .ref k1])).length) Slot.unset).toArray = ls at hl ⊢
  have hl : lv_has ls 3 [(0, .ref k0), (1, .ref k1)] := hl
  unfold q_X6_copies at h
  refine lv_iconst (v := 0) hx hb dX6_copies_0 (by decide) ?_
  refine lv_istore_n (lv' := [(2, .int 0), (0, .ref k0), (1, .ref k1)]) hx hb dX6_copies_1 rfl hl (by decide) rfl (fun ls hl => ?_)
  obtain ⟨I_2, n_6, h_7, hI_8⟩ := h
  have lp_9 : ∀ (n_1 : Nat) (x2_3 : Int32) (D_4 : St), I_2 n_1 x2_3 D_4 → ∀ (H : Heap) (locs : List Loc) (ls : Array Slot), va_P G vwCl (w2 cI k0 k1 D_4) H → va_D A (w2 cI k0 k1 D_4) → va_S A s.heap H locs → lv_has ls 3 [(2, .int x2_3), (0, .ref k0), (1, .ref k1)] → W p l e (headSpec wsX6_copies ({ frames := 0, cells := 0, slots := 0, locals := 0 })).room s m ([.ref k0, .ref k1] : List Value).toArray below meth c H locs 0 0 (MQ below (va_Qv Q (BW G (fun u : St => (w2 cI k0 k1 u)) A) A) ([.ref k0, .ref k1] : List Value).toArray s 0 0 A) (F0 m 2 ls []) := by
    intro n_1
    induction n_1 using Nat.strongRecOn with
    | ind n_1 ih_5 =>
      intro x2_3 D_4 hIn H locs ls hP hD hS hl
      have h := hI_8 n_1 x2_3 D_4 hIn
      refine lv_iload_n hx hb dX6_copies_2 rfl (lv_at hl 0 rfl) ?_
      refine lv_bipush (v := 86) hx hb dX6_copies_3 (by decide) ?_
      refine lv_icmp_ge (tgt := 20) hx hb dX6_copies_5 (by decide) (fun c_10 => ?_) (fun c_10 => ?_)
      · have h := h.1 c_10
        exact W.vret hx hb hr (fun t ht hW => ⟨⟨D_4, rfl, h, by rw [ht]; exact hP, hD⟩, hS.F ht⟩) hS.2.2 dX6_copies_20
      · have h := h.2 c_10
        refine lv_aload_n hx hb dX6_copies_8 rfl (lv_at hl 2 rfl) ?_
        refine lv_iload_n hx hb dX6_copies_9 rfl (lv_at hl 0 rfl) ?_
        refine lv_aload_n hx hb dX6_copies_10 rfl (lv_at hl 1 rfl) ?_
        refine lv_iload_n hx hb dX6_copies_11 rfl (lv_at hl 0 rfl) ?_
        obtain ⟨hi_11, h⟩ := h
        refine k_ald (f := (D_4 0)) (j := (x2_3).toNatClampNeg) (v := ((D_4 0) ((x2_3).toNatClampNeg))) hx hb hK hP 0 0 rfl rfl hi_11 rfl rfl dX6_copies_12 ?_
        refine k_ast (f := (D_4 1)) (j := (x2_3).toNatClampNeg) (ws' := (w2 cI k0 k1 (uA D_4 1 (upd (D_4 1) ((x2_3).toNatClampNeg) ((D_4 0) ((x2_3).toNatClampNeg)))))) hx hb hK hP hD hS 1 0 rfl rfl hi_11 rfl dX6_copies_13 rfl (fun H locs hP hD hS => ?_)
        refine lv_iinc (v := x2_3 + 1) (lv' := [(2, .int (x2_3 + 1)), (0, .ref k0), (1, .ref k1)]) hx hb dX6_copies_14 hl (k := 0) rfl rfl (by decide) rfl (fun ls hl => ?_)
        refine lv_goto (tgt := 2) hx hb dX6_copies_17 (by decide) ?_
        obtain ⟨n_12, lt_13, h_14⟩ := h
        exact ih_5 n_12 lt_13 _ _ h_14 _ _ _ hP hD hS (lv_sub hl [0, 1, 2] rfl)
  exact lp_9 _ _ _ h_7 _ _ _ hP hD hS hl
def q_X6_changes (M : St) (Q : St → Prop) : Prop :=
  ((M 5 0) = 0 → ((M 4 0) = 4 → ∃ (I_19 : Nat → Int32 → St → Prop) (n_23 : Nat), I_19 n_23 0 M ∧ ∀ (n_18 : Nat) (x1_20 : Int32) (D_21 : St), I_19 n_18 x1_20 D_21 → ((258 ≤ x1_20 → ∃ (I_29 : Nat → Int32 → St → Prop) (n_33 : Nat), I_29 n_33 0 (uA D_21 4 (fun _ => ((D_21 4 0) - 1))) ∧ ∀ (n_28 : Nat) (x1_30 : Int32) (D_31 : St), I_29 n_28 x1_30 D_31 → ((86 ≤ x1_30 → Q (uA D_31 4 (fun _ => ((D_31 4 0) + 1)))) ∧ (¬ (86 ≤ x1_30) → vp_in x1_30 86 ∧ (vp_in ((86 * (D_31 4 0)) + x1_30) 344 ∧ (∃ n_40, n_40 < n_28 ∧ I_29 n_40 (x1_30 + 1) (uA D_31 1 (upd (D_31 1) ((((86 * (D_31 4 0)) + x1_30)).toNatClampNeg) ((D_31 0) ((x1_30).toNatClampNeg))))))))) ∧ (¬ (258 ≤ x1_20) → vp_in (x1_20 + 86) 344 ∧ (vp_in x1_20 344 ∧ (∃ n_45, n_45 < n_18 ∧ I_19 n_45 (x1_20 + 1) (uA D_21 1 (upd (D_21 1) ((x1_20).toNatClampNeg) ((D_21 1) (((x1_20 + 86)).toNatClampNeg))))))))) ∧ (¬ ((M 4 0) = 4) → ∃ (I_4 : Nat → Int32 → St → Prop) (n_8 : Nat), I_4 n_8 0 M ∧ ∀ (n_3 : Nat) (x1_5 : Int32) (D_6 : St), I_4 n_3 x1_5 D_6 → ((86 ≤ x1_5 → Q (uA D_6 4 (fun _ => ((D_6 4 0) + 1)))) ∧ (¬ (86 ≤ x1_5) → vp_in x1_5 86 ∧ (vp_in ((86 * (D_6 4 0)) + x1_5) 344 ∧ (∃ n_15, n_15 < n_3 ∧ I_4 n_15 (x1_5 + 1) (uA D_6 1 (upd (D_6 1) ((((86 * (D_6 4 0)) + x1_5)).toNatClampNeg) ((D_6 0) ((x1_5).toNatClampNeg)))))))))) ∧ (¬ ((M 5 0) = 0) → Q M)
set_option maxHeartbeats 4000000 in
set_option maxRecDepth 100000 in
theorem c_X6_changes (l : Launch) (G : va_G) (cI cC cD : ClassId) (q : Nat → Nat) (sz : Nat) (M : St)  (Q : St → Prop) (h : q_X6_changes  M Q) : Met l yX6_changes wsX6_changes ({ frames := 0, cells := 0, slots := 0, locals := 0 }) (va_Pc [.ref (q 0)] (PW G (ty3 cI cC cD) (wM cI q M) sz)) (va_Qv Q (BW G (fun u : St => (wM cI q u)) (va_A (wM cI q M) sz)) (va_A (wM cI q M) sz)) 0 0 (va_A (wM cI q M) sz) := by
  refine Met.ofW (cc := cX6_changes) (maxL := 2) (ret := none) (by decide) rfl ?_
  intro p e s m args below meth c s₁ B hml hv
  obtain ⟨rfl, hsz, hP, hK, hD0, hN⟩ := hv
  have hx := B.exec
  have hb := B.bytes
  have hr := B.returns
  have hts := atoms_spec (ws := wsX6_changes) B.pre
  have hown : s.vm.findClass RX6 = some m.cls := findClass_of_methodNamed B.named
  have hlocks := B.notSynchronized
  subst hsz
  have hD := hD0.self (sz := s.heap.size)
  generalize hAe : va_A (wM cI q M) s.heap.size = A at hD ⊢
  have hA : ∀ q : Nat, s.heap.size ≤ q → A q := fun q h => by rw [← hAe]; exact Or.inr h
  have hS : va_S A s.heap s.heap [] := va_S.rf
  have hl := lv_entry ([.ref (q 0)]) (n := 2) (Nat.le_of_ble_eq_true rfl)
  rw [lg_entry_eq]
  generalize (lg_sl ([.ref (q 0)]) ++ List.replicate (2 - (lg_sl ([.ref (q 0)])).length) Slot.unset).toArray = ls at hl ⊢
  have hl : lv_has ls 2 [(0, .ref (q 0))] := hl
  have hinX6 : ∀ w ∈ wsX60, w ∈ wsX6_changes := by decide +kernel
  have hL7 := hts (.fieldLink RX6 7 "CraneGatesModel" "s" "[I") (by decide +kernel)
  have hL13 := hts (.fieldLink RX6 13 "CraneGatesModel" "past" "[I") (by decide +kernel)
  have hL28 := hts (.fieldLink RX6 28 "CraneGatesModel" "runs" "Z") (by decide +kernel)
  have hL32 := hts (.fieldLink RX6 32 "CraneGatesModel" "pasts" "I") (by decide +kernel)
  unfold q_X6_changes at h
  refine lv_aload_n hx hb dX6_changes_0 rfl (lv_at hl 0 rfl) ?_
  refine va_get (D := G) (ci := 6) (v := .int (M 5 0)) (C := RX6) (T := TX6) (N := 11) hx hb hts hinX6 hown hK hP 0 rfl rfl 5 (by decide) hL28 (fun _ h9 => h9) rfl dX6_changes_1 ?_
  refine lv_if_eq (tgt := 8) hx hb dX6_changes_4 (by decide) (fun c_1 => ?_) (fun c_1 => ?_)
  · have h := h.1 c_1
    refine lv_aload_n hx hb dX6_changes_8 rfl (lv_at hl 0 rfl) ?_
    refine va_get (D := G) (ci := 6) (v := .int (M 4 0)) (C := RX6) (T := TX6) (N := 11) hx hb hts hinX6 hown hK hP 0 rfl rfl 4 (by decide) hL32 (fun _ h9 => h9) rfl dX6_changes_9 ?_
    refine lv_iconst (v := 4) hx hb dX6_changes_12 (by decide) ?_
    refine lv_icmp_ne (tgt := 56) hx hb dX6_changes_13 (by decide) (fun c_2 => ?_) (fun c_2 => ?_)
    · have h := h.2 c_2
      refine lv_iconst (v := 0) hx hb dX6_changes_56 (by decide) ?_
      refine lv_istore_n (lv' := [(1, .int 0), (0, .ref (q 0))]) hx hb dX6_changes_57 rfl hl (by decide) rfl (fun ls hl => ?_)
      obtain ⟨I_4, n_8, h_9, hI_10⟩ := h
      have lp_11 : ∀ (n_3 : Nat) (x1_5 : Int32) (D_6 : St), I_4 n_3 x1_5 D_6 → ∀ (H : Heap) (locs : List Loc) (ls : Array Slot), va_P G vwCl (wM cI q D_6) H → va_D A (wM cI q D_6) → va_S A s.heap H locs → lv_has ls 2 [(1, .int x1_5), (0, .ref (q 0))] → W p l e (headSpec wsX6_changes ({ frames := 0, cells := 0, slots := 0, locals := 0 })).room s m ([.ref (q 0)] : List Value).toArray below meth c H locs 0 0 (MQ below (va_Qv Q (BW G (fun u : St => (wM cI q u)) A) A) ([.ref (q 0)] : List Value).toArray s 0 0 A) (F0 m 58 ls []) := by
        intro n_3
        induction n_3 using Nat.strongRecOn with
        | ind n_3 ih_7 =>
          intro x1_5 D_6 hIn H locs ls hP hD hS hl
          have h := hI_10 n_3 x1_5 D_6 hIn
          refine lv_iload_n hx hb dX6_changes_58 rfl (lv_at hl 0 rfl) ?_
          refine lv_bipush (v := 86) hx hb dX6_changes_59 (by decide) ?_
          refine lv_icmp_ge (tgt := 90) hx hb dX6_changes_61 (by decide) (fun c_12 => ?_) (fun c_12 => ?_)
          · have h := h.1 c_12
            refine lv_aload_n hx hb dX6_changes_90 rfl (lv_at hl 1 rfl) ?_
            refine lv_dup hx hb dX6_changes_91 rfl ?_
            refine va_get (D := G) (ci := 6) (v := .int (D_6 4 0)) (C := RX6) (T := TX6) (N := 11) hx hb hts hinX6 hown hK hP 0 rfl rfl 4 (by decide) hL32 (fun _ h9 => h9) rfl dX6_changes_92 ?_
            refine lv_iconst (v := 1) hx hb dX6_changes_95 (by decide) ?_
            refine lv_iadd hx hb dX6_changes_96 ?_
            refine va_put (D := G) (ci := 6) (v := .int ((D_6 4 0) + 1)) (ty := .int) (C := RX6) (T := TX6) (N := 11) hx hb hts hinX6 tyX6 tyX6_ok nmX6 hown hK hP hD hS 0 rfl rfl 4 (by decide) hL32 (fun _ h9 => h9) rfl (by decide +kernel) rfl rfl (Nat.le_of_ble_eq_true rfl) dX6_changes_97 (fun H locs hP hD hS => ?_)
            have hP : va_P G vwCl (wM cI q (uA D_6 4 (fun _ => ((D_6 4 0) + 1)))) H := hP
            have hD : va_D A (wM cI q (uA D_6 4 (fun _ => ((D_6 4 0) + 1)))) := hD
            exact W.vret hx hb hr (fun t ht hW => ⟨⟨(uA D_6 4 (fun _ => ((D_6 4 0) + 1))), rfl, h, by rw [ht]; exact hP, hD⟩, hS.F ht⟩) hS.2.2 dX6_changes_100
          · have h := h.2 c_12
            refine lv_aload_n hx hb dX6_changes_64 rfl (lv_at hl 1 rfl) ?_
            refine va_get (D := G) (ci := 6) (v := .ref (q 2)) (C := RX6) (T := TX6) (N := 11) hx hb hts hinX6 hown hK hP 0 rfl rfl 1 (by decide) hL13 (fun _ h9 => h9) rfl dX6_changes_65 ?_
            refine lv_bipush (v := 86) hx hb dX6_changes_68 (by decide) ?_
            refine lv_aload_n hx hb dX6_changes_70 rfl (lv_at hl 1 rfl) ?_
            refine va_get (D := G) (ci := 6) (v := .int (D_6 4 0)) (C := RX6) (T := TX6) (N := 11) hx hb hts hinX6 hown hK hP 0 rfl rfl 4 (by decide) hL32 (fun _ h9 => h9) rfl dX6_changes_71 ?_
            refine lv_imul hx hb dX6_changes_74 ?_
            refine lv_iload_n hx hb dX6_changes_75 rfl (lv_at hl 0 rfl) ?_
            refine lv_iadd hx hb dX6_changes_76 ?_
            refine lv_aload_n hx hb dX6_changes_77 rfl (lv_at hl 1 rfl) ?_
            refine va_get (D := G) (ci := 6) (v := .ref (q 1)) (C := RX6) (T := TX6) (N := 11) hx hb hts hinX6 hown hK hP 0 rfl rfl 0 (by decide) hL7 (fun _ h9 => h9) rfl dX6_changes_78 ?_
            refine lv_iload_n hx hb dX6_changes_81 rfl (lv_at hl 0 rfl) ?_
            obtain ⟨hi_13, h⟩ := h
            refine k_ald (f := (D_6 0)) (j := (x1_5).toNatClampNeg) (v := ((D_6 0) ((x1_5).toNatClampNeg))) hx hb hK hP 1 0 rfl rfl hi_13 rfl rfl dX6_changes_82 ?_
            obtain ⟨hi_14, h⟩ := h
            refine k_ast (f := (D_6 1)) (j := (((86 * (D_6 4 0)) + x1_5)).toNatClampNeg) (ws' := (wM cI q (uA D_6 1 (upd (D_6 1) ((((86 * (D_6 4 0)) + x1_5)).toNatClampNeg) ((D_6 0) ((x1_5).toNatClampNeg)))))) hx hb hK hP hD hS 2 0 rfl rfl hi_14 rfl dX6_changes_83 (st_M_1 cI q D_6 (upd (D_6 1) ((((86 * (D_6 4 0)) + x1_5)).toNatClampNeg) ((D_6 0) ((x1_5).toNatClampNeg)))) (fun H locs hP hD hS => ?_)
            refine lv_iinc (v := x1_5 + 1) (lv' := [(1, .int (x1_5 + 1)), (0, .ref (q 0))]) hx hb dX6_changes_84 hl (k := 0) rfl rfl (by decide) rfl (fun ls hl => ?_)
            refine lv_goto (tgt := 58) hx hb dX6_changes_87 (by decide) ?_
            obtain ⟨n_15, lt_16, h_17⟩ := h
            exact ih_7 n_15 lt_16 _ _ h_17 _ _ _ hP hD hS (lv_sub hl [0, 1] rfl)
      exact lp_11 _ _ _ h_9 _ _ _ hP hD hS hl
    · have h := h.1 c_2
      refine lv_iconst (v := 0) hx hb dX6_changes_16 (by decide) ?_
      refine lv_istore_n (lv' := [(1, .int 0), (0, .ref (q 0))]) hx hb dX6_changes_17 rfl hl (by decide) rfl (fun ls hl => ?_)
      obtain ⟨I_19, n_23, h_24, hI_25⟩ := h
      have lp_26 : ∀ (n_18 : Nat) (x1_20 : Int32) (D_21 : St), I_19 n_18 x1_20 D_21 → ∀ (H : Heap) (locs : List Loc) (ls : Array Slot), va_P G vwCl (wM cI q D_21) H → va_D A (wM cI q D_21) → va_S A s.heap H locs → lv_has ls 2 [(1, .int x1_20), (0, .ref (q 0))] → W p l e (headSpec wsX6_changes ({ frames := 0, cells := 0, slots := 0, locals := 0 })).room s m ([.ref (q 0)] : List Value).toArray below meth c H locs 0 0 (MQ below (va_Qv Q (BW G (fun u : St => (wM cI q u)) A) A) ([.ref (q 0)] : List Value).toArray s 0 0 A) (F0 m 18 ls []) := by
        intro n_18
        induction n_18 using Nat.strongRecOn with
        | ind n_18 ih_22 =>
          intro x1_20 D_21 hIn H locs ls hP hD hS hl
          have h := hI_25 n_18 x1_20 D_21 hIn
          refine lv_iload_n hx hb dX6_changes_18 rfl (lv_at hl 0 rfl) ?_
          refine lv_sipush (v := 258) hx hb dX6_changes_19 (by decide) ?_
          refine lv_icmp_ge (tgt := 46) hx hb dX6_changes_22 (by decide) (fun c_27 => ?_) (fun c_27 => ?_)
          · have h := h.1 c_27
            refine lv_aload_n hx hb dX6_changes_46 rfl (lv_at hl 1 rfl) ?_
            refine lv_dup hx hb dX6_changes_47 rfl ?_
            refine va_get (D := G) (ci := 6) (v := .int (D_21 4 0)) (C := RX6) (T := TX6) (N := 11) hx hb hts hinX6 hown hK hP 0 rfl rfl 4 (by decide) hL32 (fun _ h9 => h9) rfl dX6_changes_48 ?_
            refine lv_iconst (v := 1) hx hb dX6_changes_51 (by decide) ?_
            refine lv_isub hx hb dX6_changes_52 ?_
            refine va_put (D := G) (ci := 6) (v := .int ((D_21 4 0) - 1)) (ty := .int) (C := RX6) (T := TX6) (N := 11) hx hb hts hinX6 tyX6 tyX6_ok nmX6 hown hK hP hD hS 0 rfl rfl 4 (by decide) hL32 (fun _ h9 => h9) rfl (by decide +kernel) rfl rfl (Nat.le_of_ble_eq_true rfl) dX6_changes_53 (fun H locs hP hD hS => ?_)
            have hP : va_P G vwCl (wM cI q (uA D_21 4 (fun _ => ((D_21 4 0) - 1)))) H := hP
            have hD : va_D A (wM cI q (uA D_21 4 (fun _ => ((D_21 4 0) - 1)))) := hD
            refine lv_iconst (v := 0) hx hb dX6_changes_56 (by decide) ?_
            refine lv_istore_n (lv' := [(1, .int 0), (0, .ref (q 0))]) hx hb dX6_changes_57 rfl hl (by decide) rfl (fun ls hl => ?_)
            obtain ⟨I_29, n_33, h_34, hI_35⟩ := h
            have lp_36 : ∀ (n_28 : Nat) (x1_30 : Int32) (D_31 : St), I_29 n_28 x1_30 D_31 → ∀ (H : Heap) (locs : List Loc) (ls : Array Slot), va_P G vwCl (wM cI q D_31) H → va_D A (wM cI q D_31) → va_S A s.heap H locs → lv_has ls 2 [(1, .int x1_30), (0, .ref (q 0))] → W p l e (headSpec wsX6_changes ({ frames := 0, cells := 0, slots := 0, locals := 0 })).room s m ([.ref (q 0)] : List Value).toArray below meth c H locs 0 0 (MQ below (va_Qv Q (BW G (fun u : St => (wM cI q u)) A) A) ([.ref (q 0)] : List Value).toArray s 0 0 A) (F0 m 58 ls []) := by
              intro n_28
              induction n_28 using Nat.strongRecOn with
              | ind n_28 ih_32 =>
                intro x1_30 D_31 hIn H locs ls hP hD hS hl
                have h := hI_35 n_28 x1_30 D_31 hIn
                refine lv_iload_n hx hb dX6_changes_58 rfl (lv_at hl 0 rfl) ?_
                refine lv_bipush (v := 86) hx hb dX6_changes_59 (by decide) ?_
                refine lv_icmp_ge (tgt := 90) hx hb dX6_changes_61 (by decide) (fun c_37 => ?_) (fun c_37 => ?_)
                · have h := h.1 c_37
                  refine lv_aload_n hx hb dX6_changes_90 rfl (lv_at hl 1 rfl) ?_
                  refine lv_dup hx hb dX6_changes_91 rfl ?_
                  refine va_get (D := G) (ci := 6) (v := .int (D_31 4 0)) (C := RX6) (T := TX6) (N := 11) hx hb hts hinX6 hown hK hP 0 rfl rfl 4 (by decide) hL32 (fun _ h9 => h9) rfl dX6_changes_92 ?_
                  refine lv_iconst (v := 1) hx hb dX6_changes_95 (by decide) ?_
                  refine lv_iadd hx hb dX6_changes_96 ?_
                  refine va_put (D := G) (ci := 6) (v := .int ((D_31 4 0) + 1)) (ty := .int) (C := RX6) (T := TX6) (N := 11) hx hb hts hinX6 tyX6 tyX6_ok nmX6 hown hK hP hD hS 0 rfl rfl 4 (by decide) hL32 (fun _ h9 => h9) rfl (by decide +kernel) rfl rfl (Nat.le_of_ble_eq_true rfl) dX6_changes_97 (fun H locs hP hD hS => ?_)
                  have hP : va_P G vwCl (wM cI q (uA D_31 4 (fun _ => ((D_31 4 0) + 1)))) H := hP
                  have hD : va_D A (wM cI q (uA D_31 4 (fun _ => ((D_31 4 0) + 1)))) := hD
                  exact W.vret hx hb hr (fun t ht hW => ⟨⟨(uA D_31 4 (fun _ => ((D_31 4 0) + 1))), rfl, h, by rw [ht]; exact hP, hD⟩, hS.F ht⟩) hS.2.2 dX6_changes_100
                · have h := h.2 c_37
                  refine lv_aload_n hx hb dX6_changes_64 rfl (lv_at hl 1 rfl) ?_
                  refine va_get (D := G) (ci := 6) (v := .ref (q 2)) (C := RX6) (T := TX6) (N := 11) hx hb hts hinX6 hown hK hP 0 rfl rfl 1 (by decide) hL13 (fun _ h9 => h9) rfl dX6_changes_65 ?_
                  refine lv_bipush (v := 86) hx hb dX6_changes_68 (by decide) ?_
                  refine lv_aload_n hx hb dX6_changes_70 rfl (lv_at hl 1 rfl) ?_
                  refine va_get (D := G) (ci := 6) (v := .int (D_31 4 0)) (C := RX6) (T := TX6) (N := 11) hx hb hts hinX6 hown hK hP 0 rfl rfl 4 (by decide) hL32 (fun _ h9 => h9) rfl dX6_changes_71 ?_
                  refine lv_imul hx hb dX6_changes_74 ?_
                  refine lv_iload_n hx hb dX6_changes_75 rfl (lv_at hl 0 rfl) ?_
                  refine lv_iadd hx hb dX6_changes_76 ?_
                  refine lv_aload_n hx hb dX6_changes_77 rfl (lv_at hl 1 rfl) ?_
                  refine va_get (D := G) (ci := 6) (v := .ref (q 1)) (C := RX6) (T := TX6) (N := 11) hx hb hts hinX6 hown hK hP 0 rfl rfl 0 (by decide) hL7 (fun _ h9 => h9) rfl dX6_changes_78 ?_
                  refine lv_iload_n hx hb dX6_changes_81 rfl (lv_at hl 0 rfl) ?_
                  obtain ⟨hi_38, h⟩ := h
                  refine k_ald (f := (D_31 0)) (j := (x1_30).toNatClampNeg) (v := ((D_31 0) ((x1_30).toNatClampNeg))) hx hb hK hP 1 0 rfl rfl hi_38 rfl rfl dX6_changes_82 ?_
                  obtain ⟨hi_39, h⟩ := h
                  refine k_ast (f := (D_31 1)) (j := (((86 * (D_31 4 0)) + x1_30)).toNatClampNeg) (ws' := (wM cI q (uA D_31 1 (upd (D_31 1) ((((86 * (D_31 4 0)) + x1_30)).toNatClampNeg) ((D_31 0) ((x1_30).toNatClampNeg)))))) hx hb hK hP hD hS 2 0 rfl rfl hi_39 rfl dX6_changes_83 (st_M_1 cI q D_31 (upd (D_31 1) ((((86 * (D_31 4 0)) + x1_30)).toNatClampNeg) ((D_31 0) ((x1_30).toNatClampNeg)))) (fun H locs hP hD hS => ?_)
                  refine lv_iinc (v := x1_30 + 1) (lv' := [(1, .int (x1_30 + 1)), (0, .ref (q 0))]) hx hb dX6_changes_84 hl (k := 0) rfl rfl (by decide) rfl (fun ls hl => ?_)
                  refine lv_goto (tgt := 58) hx hb dX6_changes_87 (by decide) ?_
                  obtain ⟨n_40, lt_41, h_42⟩ := h
                  exact ih_32 n_40 lt_41 _ _ h_42 _ _ _ hP hD hS (lv_sub hl [0, 1] rfl)
            exact lp_36 _ _ _ h_34 _ _ _ hP hD hS hl
          · have h := h.2 c_27
            refine lv_aload_n hx hb dX6_changes_25 rfl (lv_at hl 1 rfl) ?_
            refine va_get (D := G) (ci := 6) (v := .ref (q 2)) (C := RX6) (T := TX6) (N := 11) hx hb hts hinX6 hown hK hP 0 rfl rfl 1 (by decide) hL13 (fun _ h9 => h9) rfl dX6_changes_26 ?_
            refine lv_iload_n hx hb dX6_changes_29 rfl (lv_at hl 0 rfl) ?_
            refine lv_aload_n hx hb dX6_changes_30 rfl (lv_at hl 1 rfl) ?_
            refine va_get (D := G) (ci := 6) (v := .ref (q 2)) (C := RX6) (T := TX6) (N := 11) hx hb hts hinX6 hown hK hP 0 rfl rfl 1 (by decide) hL13 (fun _ h9 => h9) rfl dX6_changes_31 ?_
            refine lv_iload_n hx hb dX6_changes_34 rfl (lv_at hl 0 rfl) ?_
            refine lv_bipush (v := 86) hx hb dX6_changes_35 (by decide) ?_
            refine lv_iadd hx hb dX6_changes_37 ?_
            obtain ⟨hi_43, h⟩ := h
            refine k_ald (f := (D_21 1)) (j := ((x1_20 + 86)).toNatClampNeg) (v := ((D_21 1) (((x1_20 + 86)).toNatClampNeg))) hx hb hK hP 2 0 rfl rfl hi_43 rfl rfl dX6_changes_38 ?_
            obtain ⟨hi_44, h⟩ := h
            refine k_ast (f := (D_21 1)) (j := (x1_20).toNatClampNeg) (ws' := (wM cI q (uA D_21 1 (upd (D_21 1) ((x1_20).toNatClampNeg) ((D_21 1) (((x1_20 + 86)).toNatClampNeg)))))) hx hb hK hP hD hS 2 0 rfl rfl hi_44 rfl dX6_changes_39 (st_M_1 cI q D_21 (upd (D_21 1) ((x1_20).toNatClampNeg) ((D_21 1) (((x1_20 + 86)).toNatClampNeg)))) (fun H locs hP hD hS => ?_)
            refine lv_iinc (v := x1_20 + 1) (lv' := [(1, .int (x1_20 + 1)), (0, .ref (q 0))]) hx hb dX6_changes_40 hl (k := 0) rfl rfl (by decide) rfl (fun ls hl => ?_)
            refine lv_goto (tgt := 18) hx hb dX6_changes_43 (by decide) ?_
            obtain ⟨n_45, lt_46, h_47⟩ := h
            exact ih_22 n_45 lt_46 _ _ h_47 _ _ _ hP hD hS (lv_sub hl [0, 1] rfl)
      exact lp_26 _ _ _ h_24 _ _ _ hP hD hS hl
  · have h := h.2 c_1
    exact W.vret hx hb hr (fun t ht hW => ⟨⟨M, rfl, h, by rw [ht]; exact hP, hD⟩, hS.F ht⟩) hS.2.2 dX6_changes_7
def q_X6_of (x : Int32) (y : Int32) (M : St) (Q : Int32 → Prop) : Prop :=
  vp_in ((46 + (5 * x)) + y) 86 ∧ (Q ((M 0) ((((46 + (5 * x)) + y)).toNatClampNeg)))
set_option maxHeartbeats 4000000 in
set_option maxRecDepth 100000 in
theorem c_X6_of (l : Launch) (G : va_G) (cI cC cD : ClassId) (q : Nat → Nat) (sz : Nat) (M : St) (x : Int32) (y : Int32) (Q : Int32 → Prop) (h : q_X6_of x y M Q) : Met l yX6_of wsX6_of ({ frames := 0, cells := 0, slots := 0, locals := 0 }) (va_Pc [.ref (q 0), .int x, .int y] (PW G (ty3 cI cC cD) (wM cI q M) sz)) (va_Qi (fun (r : Int32) (_ : Unit) => Q r) (BW G (fun _ : Unit => (wM cI q M)) (va_A (wM cI q M) sz)) (va_A (wM cI q M) sz)) 0 0 (va_A (wM cI q M) sz) := by
  refine Met.ofW (cc := cX6_of) (maxL := 3) (ret := (some .int)) (by decide) rfl ?_
  intro p e s m args below meth c s₁ B hml hv
  obtain ⟨rfl, hsz, hP, hK, hD0, hN⟩ := hv
  have hx := B.exec
  have hb := B.bytes
  have hr := B.returns
  have hts := atoms_spec (ws := wsX6_of) B.pre
  have hown : s.vm.findClass RX6 = some m.cls := findClass_of_methodNamed B.named
  have hlocks := B.notSynchronized
  subst hsz
  have hD := hD0.self (sz := s.heap.size)
  generalize hAe : va_A (wM cI q M) s.heap.size = A at hD ⊢
  have hA : ∀ q : Nat, s.heap.size ≤ q → A q := fun q h => by rw [← hAe]; exact Or.inr h
  have hS : va_S A s.heap s.heap [] := va_S.rf
  have hl := lv_entry ([.ref (q 0), .int x, .int y]) (n := 3) (Nat.le_of_ble_eq_true rfl)
  rw [lg_entry_eq]
  generalize (lg_sl ([.ref (q 0), .int x, .int y]) ++ List.replicate (3 - (lg_sl ([.ref (q 0), .int x, .int y])).length) Slot.unset).toArray = ls at hl ⊢
  have hl : lv_has ls 3 [(0, .ref (q 0)), (1, .int x), (2, .int y)] := hl
  have hinX6 : ∀ w ∈ wsX60, w ∈ wsX6_of := by decide +kernel
  have hL7 := hts (.fieldLink RX6 7 "CraneGatesModel" "s" "[I") (by decide +kernel)
  unfold q_X6_of at h
  refine lv_aload_n hx hb dX6_of_0 rfl (lv_at hl 0 rfl) ?_
  refine va_get (D := G) (ci := 6) (v := .ref (q 1)) (C := RX6) (T := TX6) (N := 11) hx hb hts hinX6 hown hK hP 0 rfl rfl 0 (by decide) hL7 (fun _ h9 => h9) rfl dX6_of_1 ?_
  refine lv_bipush (v := 46) hx hb dX6_of_4 (by decide) ?_
  refine lv_iconst (v := 5) hx hb dX6_of_6 (by decide) ?_
  refine lv_iload_n hx hb dX6_of_7 rfl (lv_at hl 1 rfl) ?_
  refine lv_imul hx hb dX6_of_8 ?_
  refine lv_iadd hx hb dX6_of_9 ?_
  refine lv_iload_n hx hb dX6_of_10 rfl (lv_at hl 2 rfl) ?_
  refine lv_iadd hx hb dX6_of_11 ?_
  obtain ⟨hi_1, h⟩ := h
  refine k_ald (f := (M 0)) (j := (((46 + (5 * x)) + y)).toNatClampNeg) (v := ((M 0) ((((46 + (5 * x)) + y)).toNatClampNeg))) hx hb hK hP 1 0 rfl rfl hi_1 rfl rfl dX6_of_12 ?_
  exact W.iret (v := ((M 0) ((((46 + (5 * x)) + y)).toNatClampNeg))) hx hb hr (fun t ht hW => ⟨⟨((M 0) ((((46 + (5 * x)) + y)).toNatClampNeg)), (), rfl, h, by rw [ht]; exact hP, hD⟩, hS.F ht⟩) hS.2.2 dX6_of_13
def q_X6_puts (x : Int32) (y : Int32) (z : Int32) (M : St) (Q : St → Prop) : Prop :=
  vp_in ((46 + (5 * x)) + y) 86 ∧ (Q (uA M 0 (upd (M 0) ((((46 + (5 * x)) + y)).toNatClampNeg) z)))
set_option maxHeartbeats 4000000 in
set_option maxRecDepth 100000 in
theorem c_X6_puts (l : Launch) (G : va_G) (cI cC cD : ClassId) (q : Nat → Nat) (sz : Nat) (M : St) (x : Int32) (y : Int32) (z : Int32) (Q : St → Prop) (h : q_X6_puts x y z M Q) : Met l yX6_puts wsX6_puts ({ frames := 0, cells := 0, slots := 0, locals := 0 }) (va_Pc [.ref (q 0), .int x, .int y, .int z] (PW G (ty3 cI cC cD) (wM cI q M) sz)) (va_Qv Q (BW G (fun u : St => (wM cI q u)) (va_A (wM cI q M) sz)) (va_A (wM cI q M) sz)) 0 0 (va_A (wM cI q M) sz) := by
  refine Met.ofW (cc := cX6_puts) (maxL := 4) (ret := none) (by decide) rfl ?_
  intro p e s m args below meth c s₁ B hml hv
  obtain ⟨rfl, hsz, hP, hK, hD0, hN⟩ := hv
  have hx := B.exec
  have hb := B.bytes
  have hr := B.returns
  have hts := atoms_spec (ws := wsX6_puts) B.pre
  have hown : s.vm.findClass RX6 = some m.cls := findClass_of_methodNamed B.named
  have hlocks := B.notSynchronized
  subst hsz
  have hD := hD0.self (sz := s.heap.size)
  generalize hAe : va_A (wM cI q M) s.heap.size = A at hD ⊢
  have hA : ∀ q : Nat, s.heap.size ≤ q → A q := fun q h => by rw [← hAe]; exact Or.inr h
  have hS : va_S A s.heap s.heap [] := va_S.rf
  have hl := lv_entry ([.ref (q 0), .int x, .int y, .int z]) (n := 4) (Nat.le_of_ble_eq_true rfl)
  rw [lg_entry_eq]
  generalize (lg_sl ([.ref (q 0), .int x, .int y, .int z]) ++ List.replicate (4 - (lg_sl ([.ref (q 0), .int x, .int y, .int z])).length) Slot.unset).toArray = ls at hl ⊢
  have hl : lv_has ls 4 [(0, .ref (q 0)), (1, .int x), (2, .int y), (3, .int z)] := hl
  have hinX6 : ∀ w ∈ wsX60, w ∈ wsX6_puts := by decide +kernel
  have hL7 := hts (.fieldLink RX6 7 "CraneGatesModel" "s" "[I") (by decide +kernel)
  unfold q_X6_puts at h
  refine lv_aload_n hx hb dX6_puts_0 rfl (lv_at hl 0 rfl) ?_
  refine va_get (D := G) (ci := 6) (v := .ref (q 1)) (C := RX6) (T := TX6) (N := 11) hx hb hts hinX6 hown hK hP 0 rfl rfl 0 (by decide) hL7 (fun _ h9 => h9) rfl dX6_puts_1 ?_
  refine lv_bipush (v := 46) hx hb dX6_puts_4 (by decide) ?_
  refine lv_iconst (v := 5) hx hb dX6_puts_6 (by decide) ?_
  refine lv_iload_n hx hb dX6_puts_7 rfl (lv_at hl 1 rfl) ?_
  refine lv_imul hx hb dX6_puts_8 ?_
  refine lv_iadd hx hb dX6_puts_9 ?_
  refine lv_iload_n hx hb dX6_puts_10 rfl (lv_at hl 2 rfl) ?_
  refine lv_iadd hx hb dX6_puts_11 ?_
  refine lv_iload_n hx hb dX6_puts_12 rfl (lv_at hl 3 rfl) ?_
  obtain ⟨hi_1, h⟩ := h
  refine k_ast (f := (M 0)) (j := (((46 + (5 * x)) + y)).toNatClampNeg) (ws' := (wM cI q (uA M 0 (upd (M 0) ((((46 + (5 * x)) + y)).toNatClampNeg) z)))) hx hb hK hP hD hS 1 0 rfl rfl hi_1 rfl dX6_puts_13 (st_M_0 cI q M (upd (M 0) ((((46 + (5 * x)) + y)).toNatClampNeg) z)) (fun H locs hP hD hS => ?_)
  exact W.vret hx hb hr (fun t ht hW => ⟨⟨(uA M 0 (upd (M 0) ((((46 + (5 * x)) + y)).toNatClampNeg) z)), rfl, h, by rw [ht]; exact hP, hD⟩, hS.F ht⟩) hS.2.2 dX6_puts_14
def q_X6_isGate (x : Int32) (M : St) (Q : Int32 → Prop) : Prop :=
  (x < 0 → Q 0) ∧ (¬ (x < 0) → (((M 0) 3) ≤ x → Q 0) ∧ (¬ (((M 0) 3) ≤ x) → Q 1))
set_option maxHeartbeats 4000000 in
set_option maxRecDepth 100000 in
theorem c_X6_isGate (l : Launch) (G : va_G) (cI cC cD : ClassId) (q : Nat → Nat) (sz : Nat) (M : St) (x : Int32) (Q : Int32 → Prop) (h : q_X6_isGate x M Q) : Met l yX6_isGate wsX6_isGate ({ frames := 0, cells := 0, slots := 0, locals := 0 }) (va_Pc [.ref (q 0), .int x] (PW G (ty3 cI cC cD) (wM cI q M) sz)) (va_Qi (fun (r : Int32) (_ : Unit) => Q r) (BW G (fun _ : Unit => (wM cI q M)) (va_A (wM cI q M) sz)) (va_A (wM cI q M) sz)) 0 0 (va_A (wM cI q M) sz) := by
  refine Met.ofW (cc := cX6_isGate) (maxL := 2) (ret := (some .boolean)) (by decide) rfl ?_
  intro p e s m args below meth c s₁ B hml hv
  obtain ⟨rfl, hsz, hP, hK, hD0, hN⟩ := hv
  have hx := B.exec
  have hb := B.bytes
  have hr := B.returns
  have hts := atoms_spec (ws := wsX6_isGate) B.pre
  have hown : s.vm.findClass RX6 = some m.cls := findClass_of_methodNamed B.named
  have hlocks := B.notSynchronized
  subst hsz
  have hD := hD0.self (sz := s.heap.size)
  generalize hAe : va_A (wM cI q M) s.heap.size = A at hD ⊢
  have hA : ∀ q : Nat, s.heap.size ≤ q → A q := fun q h => by rw [← hAe]; exact Or.inr h
  have hS : va_S A s.heap s.heap [] := va_S.rf
  have hl := lv_entry ([.ref (q 0), .int x]) (n := 2) (Nat.le_of_ble_eq_true rfl)
  rw [lg_entry_eq]
  generalize (lg_sl ([.ref (q 0), .int x]) ++ List.replicate (2 - (lg_sl ([.ref (q 0), .int x])).length) Slot.unset).toArray = ls at hl ⊢
  have hl : lv_has ls 2 [(0, .ref (q 0)), (1, .int x)] := hl
  have hinX6 : ∀ w ∈ wsX60, w ∈ wsX6_isGate := by decide +kernel
  have hL7 := hts (.fieldLink RX6 7 "CraneGatesModel" "s" "[I") (by decide +kernel)
  unfold q_X6_isGate at h
  refine lv_iload_n hx hb dX6_isGate_0 rfl (lv_at hl 1 rfl) ?_
  refine lv_if_lt (tgt := 18) hx hb dX6_isGate_1 (by decide) (fun c_1 => ?_) (fun c_1 => ?_)
  · have h := h.1 c_1
    refine lv_iconst (v := 0) hx hb dX6_isGate_18 (by decide) ?_
    exact W.zret (v := 0) hx hb hr rfl (fun t ht hW => ⟨⟨0, (), rfl, h, by rw [ht]; exact hP, hD⟩, hS.F ht⟩) hS.2.2 dX6_isGate_19
  · have h := h.2 c_1
    refine lv_iload_n hx hb dX6_isGate_4 rfl (lv_at hl 1 rfl) ?_
    refine lv_aload_n hx hb dX6_isGate_5 rfl (lv_at hl 0 rfl) ?_
    refine va_get (D := G) (ci := 6) (v := .ref (q 1)) (C := RX6) (T := TX6) (N := 11) hx hb hts hinX6 hown hK hP 0 rfl rfl 0 (by decide) hL7 (fun _ h9 => h9) rfl dX6_isGate_6 ?_
    refine lv_iconst (v := 3) hx hb dX6_isGate_9 (by decide) ?_
    refine k_ald (f := (M 0)) (j := 3) (v := ((M 0) 3)) hx hb hK hP 1 0 rfl rfl (show ¬ ((3 : Int32) < 0 ∨ 86 ≤ (3 : Int32).toNatClampNeg) by decide) rfl rfl dX6_isGate_10 ?_
    refine lv_icmp_ge (tgt := 18) hx hb dX6_isGate_11 (by decide) (fun c_2 => ?_) (fun c_2 => ?_)
    · have h := h.1 c_2
      refine lv_iconst (v := 0) hx hb dX6_isGate_18 (by decide) ?_
      exact W.zret (v := 0) hx hb hr rfl (fun t ht hW => ⟨⟨0, (), rfl, h, by rw [ht]; exact hP, hD⟩, hS.F ht⟩) hS.2.2 dX6_isGate_19
    · have h := h.2 c_2
      refine lv_iconst (v := 1) hx hb dX6_isGate_14 (by decide) ?_
      refine lv_goto (tgt := 19) hx hb dX6_isGate_15 (by decide) ?_
      exact W.zret (v := 1) hx hb hr rfl (fun t ht hW => ⟨⟨1, (), rfl, h, by rw [ht]; exact hP, hD⟩, hS.F ht⟩) hS.2.2 dX6_isGate_19
def q_X6_head (M : St) (Q : Int32 → Prop) : Prop :=
  Q ((((M 0) 4) / 1000) + 1)
set_option maxHeartbeats 4000000 in
set_option maxRecDepth 100000 in
theorem c_X6_head (l : Launch) (G : va_G) (cI cC cD : ClassId) (q : Nat → Nat) (sz : Nat) (M : St)  (Q : Int32 → Prop) (h : q_X6_head  M Q) : Met l yX6_head wsX6_head ({ frames := 0, cells := 0, slots := 0, locals := 0 }) (va_Pc [.ref (q 0)] (PW G (ty3 cI cC cD) (wM cI q M) sz)) (va_Qi (fun (r : Int32) (_ : Unit) => Q r) (BW G (fun _ : Unit => (wM cI q M)) (va_A (wM cI q M) sz)) (va_A (wM cI q M) sz)) 0 0 (va_A (wM cI q M) sz) := by
  refine Met.ofW (cc := cX6_head) (maxL := 1) (ret := (some .int)) (by decide) rfl ?_
  intro p e s m args below meth c s₁ B hml hv
  obtain ⟨rfl, hsz, hP, hK, hD0, hN⟩ := hv
  have hx := B.exec
  have hb := B.bytes
  have hr := B.returns
  have hts := atoms_spec (ws := wsX6_head) B.pre
  have hown : s.vm.findClass RX6 = some m.cls := findClass_of_methodNamed B.named
  have hlocks := B.notSynchronized
  subst hsz
  have hD := hD0.self (sz := s.heap.size)
  generalize hAe : va_A (wM cI q M) s.heap.size = A at hD ⊢
  have hA : ∀ q : Nat, s.heap.size ≤ q → A q := fun q h => by rw [← hAe]; exact Or.inr h
  have hS : va_S A s.heap s.heap [] := va_S.rf
  have hl := lv_entry ([.ref (q 0)]) (n := 1) (Nat.le_of_ble_eq_true rfl)
  rw [lg_entry_eq]
  generalize (lg_sl ([.ref (q 0)]) ++ List.replicate (1 - (lg_sl ([.ref (q 0)])).length) Slot.unset).toArray = ls at hl ⊢
  have hl : lv_has ls 1 [(0, .ref (q 0))] := hl
  have hinX6 : ∀ w ∈ wsX60, w ∈ wsX6_head := by decide +kernel
  have hL7 := hts (.fieldLink RX6 7 "CraneGatesModel" "s" "[I") (by decide +kernel)
  unfold q_X6_head at h
  refine lv_aload_n hx hb dX6_head_0 rfl (lv_at hl 0 rfl) ?_
  refine va_get (D := G) (ci := 6) (v := .ref (q 1)) (C := RX6) (T := TX6) (N := 11) hx hb hts hinX6 hown hK hP 0 rfl rfl 0 (by decide) hL7 (fun _ h9 => h9) rfl dX6_head_1 ?_
  refine lv_iconst (v := 4) hx hb dX6_head_4 (by decide) ?_
  refine k_ald (f := (M 0)) (j := 4) (v := ((M 0) 4)) hx hb hK hP 1 0 rfl rfl (show ¬ ((4 : Int32) < 0 ∨ 86 ≤ (4 : Int32).toNatClampNeg) by decide) rfl rfl dX6_head_5 ?_
  refine lv_sipush (v := 1000) hx hb dX6_head_6 (by decide) ?_
  refine lv_idiv hx hb dX6_head_9 (by decide) ?_
  refine lv_iconst (v := 1) hx hb dX6_head_10 (by decide) ?_
  refine lv_iadd hx hb dX6_head_11 ?_
  exact W.iret (v := ((((M 0) 4) / 1000) + 1)) hx hb hr (fun t ht hW => ⟨⟨((((M 0) 4) / 1000) + 1), (), rfl, h, by rw [ht]; exact hP, hD⟩, hS.F ht⟩) hS.2.2 dX6_head_12
def q_X6_rate (x : Int32) (y : Int32) (M : St) (Q : Int32 → Prop) : Prop :=
  q_X6_of x 0 M (fun r_1 => q_X6_of x 1 M (fun r_2 => q_X6_of x 2 M (fun r_3 => (r_1 = 1 → (y < 8 → (r_1 = 2 → q_X6_of x 2 M (fun r_10 => (10 ≤ r_10 → Q (((r_2 * r_3) * y) / 10)) ∧ (¬ (10 ≤ r_10) → Q 0))) ∧ (¬ (r_1 = 2) → Q (((r_2 * r_3) * y) / 10))) ∧ (¬ (y < 8) → Q ((((r_2 * r_3) * y) / 10) + r_2))) ∧ (¬ (r_1 = 1) → (r_1 = 2 → q_X6_of x 2 M (fun r_6 => (10 ≤ r_6 → Q (((r_2 * r_3) * y) / 10)) ∧ (¬ (10 ≤ r_6) → Q 0))) ∧ (¬ (r_1 = 2) → Q (((r_2 * r_3) * y) / 10))))))
set_option maxHeartbeats 4000000 in
set_option maxRecDepth 100000 in
theorem c_X6_rate (l : Launch) (G : va_G) (cI cC cD : ClassId) (q : Nat → Nat) (sz : Nat) (M : St) (x : Int32) (y : Int32) (Q : Int32 → Prop) (h : q_X6_rate x y M Q) : Met l yX6_rate wsX6_rate ({ frames := 1, cells := 0, slots := 0, locals := 22 }) (va_Pc [.ref (q 0), .int x, .int y] (PW G (ty3 cI cC cD) (wM cI q M) sz)) (va_Qi (fun (r : Int32) (_ : Unit) => Q r) (BW G (fun _ : Unit => (wM cI q M)) (va_A (wM cI q M) sz)) (va_A (wM cI q M) sz)) 0 0 (va_A (wM cI q M) sz) := by
  refine Met.ofW (cc := cX6_rate) (maxL := 6) (ret := (some .int)) (by decide) rfl ?_
  intro p e s m args below meth c s₁ B hml hv
  obtain ⟨rfl, hsz, hP, hK, hD0, hN⟩ := hv
  have hx := B.exec
  have hb := B.bytes
  have hr := B.returns
  have hts := atoms_spec (ws := wsX6_rate) B.pre
  have hown : s.vm.findClass RX6 = some m.cls := findClass_of_methodNamed B.named
  have hlocks := B.notSynchronized
  subst hsz
  have hD := hD0.self (sz := s.heap.size)
  generalize hAe : va_A (wM cI q M) s.heap.size = A at hD ⊢
  have hA : ∀ q : Nat, s.heap.size ≤ q → A q := fun q h => by rw [← hAe]; exact Or.inr h
  have hS : va_S A s.heap s.heap [] := va_S.rf
  have hl := lv_entry ([.ref (q 0), .int x, .int y]) (n := 6) (Nat.le_of_ble_eq_true rfl)
  rw [lg_entry_eq]
  generalize (lg_sl ([.ref (q 0), .int x, .int y]) ++ List.replicate (6 - (lg_sl ([.ref (q 0), .int x, .int y])).length) Slot.unset).toArray = ls at hl ⊢
  have hl : lv_has ls 6 [(0, .ref (q 0)), (1, .int x), (2, .int y)] := hl
  unfold q_X6_rate at h
  refine lv_aload_n hx hb dX6_rate_0 rfl (lv_at hl 0 rfl) ?_
  refine lv_iload_n hx hb dX6_rate_1 rfl (lv_at hl 1 rfl) ?_
  refine lv_iconst (v := 0) hx hb dX6_rate_2 (by decide) ?_
  refine kc_i (As := [.int x, .int 0]) (rest := []) (wg := (fun _ => (wM cI q M))) ⟨hx, hb, hml, hown, hts⟩ (c_X6_of l G cI cC cD q _ M x 0 _ h) (cwV 2 hts gX6_rate_X6_of rfl rfl rfl (by decide +kernel) ⟨Nat.le_of_ble_eq_true rfl, Nat.le_of_ble_eq_true rfl⟩) hK hN hP hD hS hA (em_MM cI q M) (fun _ => rp_self (em_MM cI q M)) rfl rfl rfl rfl hl.1 rfl (Nat.le_of_ble_eq_true rfl) dX6_rate_3 ⟨Nat.zero_le _, Nat.zero_le _⟩ (fun r_1 _ H locs h hP hD hS => ?_)
  refine lv_istore_n (lv' := [(3, .int r_1), (0, .ref (q 0)), (1, .int x), (2, .int y)]) hx hb dX6_rate_6 rfl hl (by decide) rfl (fun ls hl => ?_)
  refine lv_aload_n hx hb dX6_rate_7 rfl (lv_at hl 1 rfl) ?_
  refine lv_iload_n hx hb dX6_rate_8 rfl (lv_at hl 2 rfl) ?_
  refine lv_iconst (v := 1) hx hb dX6_rate_9 (by decide) ?_
  refine kc_i (As := [.int x, .int 1]) (rest := []) (wg := (fun _ => (wM cI q M))) ⟨hx, hb, hml, hown, hts⟩ (c_X6_of l G cI cC cD q _ M x 1 _ h) (cwV 2 hts gX6_rate_X6_of rfl rfl rfl (by decide +kernel) ⟨Nat.le_of_ble_eq_true rfl, Nat.le_of_ble_eq_true rfl⟩) hK hN hP hD hS hA (em_MM cI q M) (fun _ => rp_self (em_MM cI q M)) rfl rfl rfl rfl hl.1 rfl (Nat.le_of_ble_eq_true rfl) dX6_rate_10 ⟨Nat.zero_le _, Nat.zero_le _⟩ (fun r_2 _ H locs h hP hD hS => ?_)
  refine lv_istore (lv' := [(4, .int r_2), (3, .int r_1), (0, .ref (q 0)), (1, .int x), (2, .int y)]) hx hb dX6_rate_13 hl (by decide) rfl (fun ls hl => ?_)
  refine lv_iload hx hb dX6_rate_15 (lv_at hl 0 rfl) ?_
  refine lv_aload_n hx hb dX6_rate_17 rfl (lv_at hl 2 rfl) ?_
  refine lv_iload_n hx hb dX6_rate_18 rfl (lv_at hl 3 rfl) ?_
  refine lv_iconst (v := 2) hx hb dX6_rate_19 (by decide) ?_
  refine kc_i (As := [.int x, .int 2]) (rest := [.int r_2]) (wg := (fun _ => (wM cI q M))) ⟨hx, hb, hml, hown, hts⟩ (c_X6_of l G cI cC cD q _ M x 2 _ h) (cwV 2 hts gX6_rate_X6_of rfl rfl rfl (by decide +kernel) ⟨Nat.le_of_ble_eq_true rfl, Nat.le_of_ble_eq_true rfl⟩) hK hN hP hD hS hA (em_MM cI q M) (fun _ => rp_self (em_MM cI q M)) rfl rfl rfl rfl hl.1 rfl (Nat.le_of_ble_eq_true rfl) dX6_rate_20 ⟨Nat.zero_le _, Nat.zero_le _⟩ (fun r_3 _ H locs h hP hD hS => ?_)
  refine lv_imul hx hb dX6_rate_23 ?_
  refine lv_iload_n hx hb dX6_rate_24 rfl (lv_at hl 4 rfl) ?_
  refine lv_imul hx hb dX6_rate_25 ?_
  refine lv_bipush (v := 10) hx hb dX6_rate_26 (by decide) ?_
  refine lv_idiv hx hb dX6_rate_28 (by decide) ?_
  refine lv_istore (lv' := [(5, .int (((r_2 * r_3) * y) / 10)), (4, .int r_2), (3, .int r_1), (0, .ref (q 0)), (1, .int x), (2, .int y)]) hx hb dX6_rate_29 hl (by decide) rfl (fun ls hl => ?_)
  refine lv_iload_n hx hb dX6_rate_31 rfl (lv_at hl 2 rfl) ?_
  refine lv_iconst (v := 1) hx hb dX6_rate_32 (by decide) ?_
  refine lv_icmp_ne (tgt := 50) hx hb dX6_rate_33 (by decide) (fun c_4 => ?_) (fun c_4 => ?_)
  · have h := h.2 c_4
    refine lv_iload_n hx hb dX6_rate_50 rfl (lv_at hl 2 rfl) ?_
    refine lv_iconst (v := 2) hx hb dX6_rate_51 (by decide) ?_
    refine lv_icmp_ne (tgt := 70) hx hb dX6_rate_52 (by decide) (fun c_5 => ?_) (fun c_5 => ?_)
    · have h := h.2 c_5
      refine lv_iload hx hb dX6_rate_70 (lv_at hl 0 rfl) ?_
      exact W.iret (v := (((r_2 * r_3) * y) / 10)) hx hb hr (fun t ht hW => ⟨⟨(((r_2 * r_3) * y) / 10), (), rfl, h, by rw [ht]; exact hP, hD⟩, hS.F ht⟩) hS.2.2 dX6_rate_72
    · have h := h.1 c_5
      refine lv_aload_n hx hb dX6_rate_55 rfl (lv_at hl 3 rfl) ?_
      refine lv_iload_n hx hb dX6_rate_56 rfl (lv_at hl 4 rfl) ?_
      refine lv_iconst (v := 2) hx hb dX6_rate_57 (by decide) ?_
      refine kc_i (As := [.int x, .int 2]) (rest := []) (wg := (fun _ => (wM cI q M))) ⟨hx, hb, hml, hown, hts⟩ (c_X6_of l G cI cC cD q _ M x 2 _ h) (cwV 2 hts gX6_rate_X6_of rfl rfl rfl (by decide +kernel) ⟨Nat.le_of_ble_eq_true rfl, Nat.le_of_ble_eq_true rfl⟩) hK hN hP hD hS hA (em_MM cI q M) (fun _ => rp_self (em_MM cI q M)) rfl rfl rfl rfl hl.1 rfl (Nat.le_of_ble_eq_true rfl) dX6_rate_58 ⟨Nat.zero_le _, Nat.zero_le _⟩ (fun r_6 _ H locs h hP hD hS => ?_)
      refine lv_bipush (v := 10) hx hb dX6_rate_61 (by decide) ?_
      refine lv_icmp_ge (tgt := 70) hx hb dX6_rate_63 (by decide) (fun c_7 => ?_) (fun c_7 => ?_)
      · have h := h.1 c_7
        refine lv_iload hx hb dX6_rate_70 (lv_at hl 0 rfl) ?_
        exact W.iret (v := (((r_2 * r_3) * y) / 10)) hx hb hr (fun t ht hW => ⟨⟨(((r_2 * r_3) * y) / 10), (), rfl, h, by rw [ht]; exact hP, hD⟩, hS.F ht⟩) hS.2.2 dX6_rate_72
      · have h := h.2 c_7
        refine lv_iconst (v := 0) hx hb dX6_rate_66 (by decide) ?_
        refine lv_goto (tgt := 72) hx hb dX6_rate_67 (by decide) ?_
        exact W.iret (v := 0) hx hb hr (fun t ht hW => ⟨⟨0, (), rfl, h, by rw [ht]; exact hP, hD⟩, hS.F ht⟩) hS.2.2 dX6_rate_72
  · have h := h.1 c_4
    refine lv_iload_n hx hb dX6_rate_36 rfl (lv_at hl 5 rfl) ?_
    refine lv_bipush (v := 8) hx hb dX6_rate_37 (by decide) ?_
    refine lv_icmp_lt (tgt := 50) hx hb dX6_rate_39 (by decide) (fun c_8 => ?_) (fun c_8 => ?_)
    · have h := h.1 c_8
      refine lv_iload_n hx hb dX6_rate_50 rfl (lv_at hl 2 rfl) ?_
      refine lv_iconst (v := 2) hx hb dX6_rate_51 (by decide) ?_
      refine lv_icmp_ne (tgt := 70) hx hb dX6_rate_52 (by decide) (fun c_9 => ?_) (fun c_9 => ?_)
      · have h := h.2 c_9
        refine lv_iload hx hb dX6_rate_70 (lv_at hl 0 rfl) ?_
        exact W.iret (v := (((r_2 * r_3) * y) / 10)) hx hb hr (fun t ht hW => ⟨⟨(((r_2 * r_3) * y) / 10), (), rfl, h, by rw [ht]; exact hP, hD⟩, hS.F ht⟩) hS.2.2 dX6_rate_72
      · have h := h.1 c_9
        refine lv_aload_n hx hb dX6_rate_55 rfl (lv_at hl 3 rfl) ?_
        refine lv_iload_n hx hb dX6_rate_56 rfl (lv_at hl 4 rfl) ?_
        refine lv_iconst (v := 2) hx hb dX6_rate_57 (by decide) ?_
        refine kc_i (As := [.int x, .int 2]) (rest := []) (wg := (fun _ => (wM cI q M))) ⟨hx, hb, hml, hown, hts⟩ (c_X6_of l G cI cC cD q _ M x 2 _ h) (cwV 2 hts gX6_rate_X6_of rfl rfl rfl (by decide +kernel) ⟨Nat.le_of_ble_eq_true rfl, Nat.le_of_ble_eq_true rfl⟩) hK hN hP hD hS hA (em_MM cI q M) (fun _ => rp_self (em_MM cI q M)) rfl rfl rfl rfl hl.1 rfl (Nat.le_of_ble_eq_true rfl) dX6_rate_58 ⟨Nat.zero_le _, Nat.zero_le _⟩ (fun r_10 _ H locs h hP hD hS => ?_)
        refine lv_bipush (v := 10) hx hb dX6_rate_61 (by decide) ?_
        refine lv_icmp_ge (tgt := 70) hx hb dX6_rate_63 (by decide) (fun c_11 => ?_) (fun c_11 => ?_)
        · have h := h.1 c_11
          refine lv_iload hx hb dX6_rate_70 (lv_at hl 0 rfl) ?_
          exact W.iret (v := (((r_2 * r_3) * y) / 10)) hx hb hr (fun t ht hW => ⟨⟨(((r_2 * r_3) * y) / 10), (), rfl, h, by rw [ht]; exact hP, hD⟩, hS.F ht⟩) hS.2.2 dX6_rate_72
        · have h := h.2 c_11
          refine lv_iconst (v := 0) hx hb dX6_rate_66 (by decide) ?_
          refine lv_goto (tgt := 72) hx hb dX6_rate_67 (by decide) ?_
          exact W.iret (v := 0) hx hb hr (fun t ht hW => ⟨⟨0, (), rfl, h, by rw [ht]; exact hP, hD⟩, hS.F ht⟩) hS.2.2 dX6_rate_72
    · have h := h.2 c_8
      refine lv_iload hx hb dX6_rate_42 (lv_at hl 0 rfl) ?_
      refine lv_iload hx hb dX6_rate_44 (lv_at hl 1 rfl) ?_
      refine lv_iadd hx hb dX6_rate_46 ?_
      refine lv_goto (tgt := 72) hx hb dX6_rate_47 (by decide) ?_
      exact W.iret (v := ((((r_2 * r_3) * y) / 10) + r_2)) hx hb hr (fun t ht hW => ⟨⟨((((r_2 * r_3) * y) / 10) + r_2), (), rfl, h, by rw [ht]; exact hP, hD⟩, hS.F ht⟩) hS.2.2 dX6_rate_72
def q_X6_size (x : Int32) (Q : Int32 → Prop) : Prop :=
  (0 ≤ x → Q x) ∧ (¬ (0 ≤ x) → Q (-x))
set_option maxHeartbeats 4000000 in
set_option maxRecDepth 100000 in
theorem c_X6_size (l : Launch) (G : va_G) (cI cC cD : ClassId)  (sz : Nat)  (x : Int32) (Q : Int32 → Prop) (h : q_X6_size x  Q) : Met l yX6_size wsX6_size ({ frames := 0, cells := 0, slots := 0, locals := 0 }) (va_Pc [.int x] (PW G (ty3 cI cC cD) [] sz)) (va_Qi (fun (r : Int32) (_ : Unit) => Q r) (BW G (fun _ : Unit => []) (va_A [] sz)) (va_A [] sz)) 0 0 (va_A [] sz) := by
  refine Met.ofW (cc := cX6_size) (maxL := 1) (ret := (some .int)) (by decide) rfl ?_
  intro p e s m args below meth c s₁ B hml hv
  obtain ⟨rfl, hsz, hP, hK, hD0, hN⟩ := hv
  have hx := B.exec
  have hb := B.bytes
  have hr := B.returns
  have hts := atoms_spec (ws := wsX6_size) B.pre
  have hown : s.vm.findClass RX6 = some m.cls := findClass_of_methodNamed B.named
  have hlocks := B.notSynchronized
  subst hsz
  have hD := hD0.self (sz := s.heap.size)
  generalize hAe : va_A [] s.heap.size = A at hD ⊢
  have hA : ∀ q : Nat, s.heap.size ≤ q → A q := fun q h => by rw [← hAe]; exact Or.inr h
  have hS : va_S A s.heap s.heap [] := va_S.rf
  have hl := lv_entry ([.int x]) (n := 1) (Nat.le_of_ble_eq_true rfl)
  rw [lg_entry_eq]
  generalize (lg_sl ([.int x]) ++ List.replicate (1 - (lg_sl ([.int x])).length) Slot.unset).toArray = ls at hl ⊢
  have hl : lv_has ls 1 [(0, .int x)] := hl
  unfold q_X6_size at h
  refine lv_iload_n hx hb dX6_size_0 rfl (lv_at hl 0 rfl) ?_
  refine lv_if_ge (tgt := 9) hx hb dX6_size_1 (by decide) (fun c_1 => ?_) (fun c_1 => ?_)
  · have h := h.1 c_1
    refine lv_iload_n hx hb dX6_size_9 rfl (lv_at hl 0 rfl) ?_
    exact W.iret (v := x) hx hb hr (fun t ht hW => ⟨⟨x, (), rfl, h, by rw [ht]; exact hP, hD⟩, hS.F ht⟩) hS.2.2 dX6_size_10
  · have h := h.2 c_1
    refine lv_iload_n hx hb dX6_size_4 rfl (lv_at hl 0 rfl) ?_
    refine lv_ineg hx hb dX6_size_5 ?_
    refine lv_goto (tgt := 10) hx hb dX6_size_6 (by decide) ?_
    exact W.iret (v := (-x)) hx hb hr (fun t ht hW => ⟨⟨(-x), (), rfl, h, by rw [ht]; exact hP, hD⟩, hS.F ht⟩) hS.2.2 dX6_size_10
def q_X6_placeIn (x : Int32) (y : Int32) (z : Int32) (M : St) (Q : Int32 → Prop) : Prop :=
  ∃ (I_2 : Nat → Int32 → Int32 → Prop) (n_6 : Nat), I_2 n_6 0 (-1000004) ∧ ∀ (n_1 : Nat) (x5_3 : Int32) (x4_4 : Int32), I_2 n_1 x5_3 x4_4 → ((y ≤ x5_3 → Q x4_4) ∧ (¬ (y ≤ x5_3) → vp_in (x + (2 * x5_3)) 86 ∧ ((((M 0) (((x + (2 * x5_3))).toNatClampNeg)) = z → ∃ n_16, n_16 < n_1 ∧ I_2 n_16 (x5_3 + 1) x5_3) ∧ (¬ (((M 0) (((x + (2 * x5_3))).toNatClampNeg)) = z) → ∃ n_13, n_13 < n_1 ∧ I_2 n_13 (x5_3 + 1) x4_4))))
set_option maxHeartbeats 4000000 in
set_option maxRecDepth 100000 in
theorem c_X6_placeIn (l : Launch) (G : va_G) (cI cC cD : ClassId) (q : Nat → Nat) (sz : Nat) (M : St) (x : Int32) (y : Int32) (z : Int32) (Q : Int32 → Prop) (h : q_X6_placeIn x y z M Q) : Met l yX6_placeIn wsX6_placeIn ({ frames := 0, cells := 0, slots := 0, locals := 0 }) (va_Pc [.ref (q 0), .int x, .int y, .int z] (PW G (ty3 cI cC cD) (wM cI q M) sz)) (va_Qi (fun (r : Int32) (_ : Unit) => Q r) (BW G (fun _ : Unit => (wM cI q M)) (va_A (wM cI q M) sz)) (va_A (wM cI q M) sz)) 0 0 (va_A (wM cI q M) sz) := by
  refine Met.ofW (cc := cX6_placeIn) (maxL := 6) (ret := (some .int)) (by decide) rfl ?_
  intro p e s m args below meth c s₁ B hml hv
  obtain ⟨rfl, hsz, hP, hK, hD0, hN⟩ := hv
  have hx := B.exec
  have hb := B.bytes
  have hr := B.returns
  have hts := atoms_spec (ws := wsX6_placeIn) B.pre
  have hown : s.vm.findClass RX6 = some m.cls := findClass_of_methodNamed B.named
  have hlocks := B.notSynchronized
  subst hsz
  have hD := hD0.self (sz := s.heap.size)
  generalize hAe : va_A (wM cI q M) s.heap.size = A at hD ⊢
  have hA : ∀ q : Nat, s.heap.size ≤ q → A q := fun q h => by rw [← hAe]; exact Or.inr h
  have hS : va_S A s.heap s.heap [] := va_S.rf
  have hl := lv_entry ([.ref (q 0), .int x, .int y, .int z]) (n := 6) (Nat.le_of_ble_eq_true rfl)
  rw [lg_entry_eq]
  generalize (lg_sl ([.ref (q 0), .int x, .int y, .int z]) ++ List.replicate (6 - (lg_sl ([.ref (q 0), .int x, .int y, .int z])).length) Slot.unset).toArray = ls at hl ⊢
  have hl : lv_has ls 6 [(0, .ref (q 0)), (1, .int x), (2, .int y), (3, .int z)] := hl
  have hinX6 : ∀ w ∈ wsX60, w ∈ wsX6_placeIn := by decide +kernel
  have hL7 := hts (.fieldLink RX6 7 "CraneGatesModel" "s" "[I") (by decide +kernel)
  unfold q_X6_placeIn at h
  refine lv_ldc hx hb hown (hts (.constant RX6 40 (-1000004)) (by decide +kernel)) dX6_placeIn_0 ?_
  refine lv_istore (lv' := [(4, .int (-1000004)), (0, .ref (q 0)), (1, .int x), (2, .int y), (3, .int z)]) hx hb dX6_placeIn_2 hl (by decide) rfl (fun ls hl => ?_)
  refine lv_iconst (v := 0) hx hb dX6_placeIn_4 (by decide) ?_
  refine lv_istore (lv' := [(5, .int 0), (4, .int (-1000004)), (0, .ref (q 0)), (1, .int x), (2, .int y), (3, .int z)]) hx hb dX6_placeIn_5 hl (by decide) rfl (fun ls hl => ?_)
  obtain ⟨I_2, n_6, h_7, hI_8⟩ := h
  have lp_9 : ∀ (n_1 : Nat) (x5_3 : Int32) (x4_4 : Int32), I_2 n_1 x5_3 x4_4 → ∀ (H : Heap) (locs : List Loc) (ls : Array Slot), va_P G vwCl (wM cI q M) H → va_D A (wM cI q M) → va_S A s.heap H locs → lv_has ls 6 [(5, .int x5_3), (4, .int x4_4), (0, .ref (q 0)), (1, .int x), (2, .int y), (3, .int z)] → W p l e (headSpec wsX6_placeIn ({ frames := 0, cells := 0, slots := 0, locals := 0 })).room s m ([.ref (q 0), .int x, .int y, .int z] : List Value).toArray below meth c H locs 0 0 (MQ below (va_Qi (fun (r : Int32) (_ : Unit) => Q r) (BW G (fun _ : Unit => (wM cI q M)) A) A) ([.ref (q 0), .int x, .int y, .int z] : List Value).toArray s 0 0 A) (F0 m 7 ls []) := by
    intro n_1
    induction n_1 using Nat.strongRecOn with
    | ind n_1 ih_5 =>
      intro x5_3 x4_4 hIn H locs ls hP hD hS hl
      have h := hI_8 n_1 x5_3 x4_4 hIn
      refine lv_iload hx hb dX6_placeIn_7 (lv_at hl 0 rfl) ?_
      refine lv_iload_n hx hb dX6_placeIn_9 rfl (lv_at hl 4 rfl) ?_
      refine lv_icmp_ge (tgt := 43) hx hb dX6_placeIn_10 (by decide) (fun c_10 => ?_) (fun c_10 => ?_)
      · have h := h.1 c_10
        refine lv_iload hx hb dX6_placeIn_43 (lv_at hl 1 rfl) ?_
        exact W.iret (v := x4_4) hx hb hr (fun t ht hW => ⟨⟨x4_4, (), rfl, h, by rw [ht]; exact hP, hD⟩, hS.F ht⟩) hS.2.2 dX6_placeIn_45
      · have h := h.2 c_10
        refine lv_aload_n hx hb dX6_placeIn_13 rfl (lv_at hl 2 rfl) ?_
        refine va_get (D := G) (ci := 6) (v := .ref (q 1)) (C := RX6) (T := TX6) (N := 11) hx hb hts hinX6 hown hK hP 0 rfl rfl 0 (by decide) hL7 (fun _ h9 => h9) rfl dX6_placeIn_14 ?_
        refine lv_iload_n hx hb dX6_placeIn_17 rfl (lv_at hl 3 rfl) ?_
        refine lv_iconst (v := 2) hx hb dX6_placeIn_18 (by decide) ?_
        refine lv_iload hx hb dX6_placeIn_19 (lv_at hl 0 rfl) ?_
        refine lv_imul hx hb dX6_placeIn_21 ?_
        refine lv_iadd hx hb dX6_placeIn_22 ?_
        obtain ⟨hi_11, h⟩ := h
        refine k_ald (f := (M 0)) (j := ((x + (2 * x5_3))).toNatClampNeg) (v := ((M 0) (((x + (2 * x5_3))).toNatClampNeg))) hx hb hK hP 1 0 rfl rfl hi_11 rfl rfl dX6_placeIn_23 ?_
        refine lv_iload_n hx hb dX6_placeIn_24 rfl (lv_at hl 5 rfl) ?_
        refine lv_icmp_ne (tgt := 33) hx hb dX6_placeIn_25 (by decide) (fun c_12 => ?_) (fun c_12 => ?_)
        · have h := h.2 c_12
          refine lv_iload hx hb dX6_placeIn_33 (lv_at hl 1 rfl) ?_
          refine lv_istore (lv' := [(4, .int x4_4), (5, .int x5_3), (0, .ref (q 0)), (1, .int x), (2, .int y), (3, .int z)]) hx hb dX6_placeIn_35 hl (by decide) rfl (fun ls hl => ?_)
          refine lv_iinc (v := x5_3 + 1) (lv' := [(5, .int (x5_3 + 1)), (4, .int x4_4), (0, .ref (q 0)), (1, .int x), (2, .int y), (3, .int z)]) hx hb dX6_placeIn_37 hl (k := 1) rfl rfl (by decide) rfl (fun ls hl => ?_)
          refine lv_goto (tgt := 7) hx hb dX6_placeIn_40 (by decide) ?_
          obtain ⟨n_13, lt_14, h_15⟩ := h
          exact ih_5 n_13 lt_14 _ _ h_15 _ _ _ hP hD hS (lv_sub hl [0, 1, 2, 3, 4, 5] rfl)
        · have h := h.1 c_12
          refine lv_iload hx hb dX6_placeIn_28 (lv_at hl 0 rfl) ?_
          refine lv_goto (tgt := 35) hx hb dX6_placeIn_30 (by decide) ?_
          refine lv_istore (lv' := [(4, .int x5_3), (5, .int x5_3), (0, .ref (q 0)), (1, .int x), (2, .int y), (3, .int z)]) hx hb dX6_placeIn_35 hl (by decide) rfl (fun ls hl => ?_)
          refine lv_iinc (v := x5_3 + 1) (lv' := [(5, .int (x5_3 + 1)), (4, .int x5_3), (0, .ref (q 0)), (1, .int x), (2, .int y), (3, .int z)]) hx hb dX6_placeIn_37 hl (k := 1) rfl rfl (by decide) rfl (fun ls hl => ?_)
          refine lv_goto (tgt := 7) hx hb dX6_placeIn_40 (by decide) ?_
          obtain ⟨n_16, lt_17, h_18⟩ := h
          exact ih_5 n_16 lt_17 _ _ h_18 _ _ _ hP hD hS (lv_sub hl [0, 1, 2, 3, 4, 5] rfl)
  exact lp_9 _ _ _ h_7 _ _ _ hP hD hS hl
def q_X6_takesOut (x : Int32) (y : Int32) (z : Int32) (M : St) (Q : St → Prop) : Prop :=
  ∃ (I_2 : Nat → Int32 → St → Prop) (n_6 : Nat), I_2 n_6 (x + (2 * z)) M ∧ ∀ (n_1 : Nat) (x4_3 : Int32) (D_4 : St), I_2 n_1 x4_3 D_4 → ((((x + (2 * y)) - 2) ≤ x4_3 → Q D_4) ∧ (¬ (((x + (2 * y)) - 2) ≤ x4_3) → vp_in (x4_3 + 2) 86 ∧ (vp_in x4_3 86 ∧ (∃ n_13, n_13 < n_1 ∧ I_2 n_13 (x4_3 + 1) (uA D_4 0 (upd (D_4 0) ((x4_3).toNatClampNeg) ((D_4 0) (((x4_3 + 2)).toNatClampNeg))))))))
set_option maxHeartbeats 4000000 in
set_option maxRecDepth 100000 in
theorem c_X6_takesOut (l : Launch) (G : va_G) (cI cC cD : ClassId) (q : Nat → Nat) (sz : Nat) (M : St) (x : Int32) (y : Int32) (z : Int32) (Q : St → Prop) (h : q_X6_takesOut x y z M Q) : Met l yX6_takesOut wsX6_takesOut ({ frames := 0, cells := 0, slots := 0, locals := 0 }) (va_Pc [.ref (q 0), .int x, .int y, .int z] (PW G (ty3 cI cC cD) (wM cI q M) sz)) (va_Qv Q (BW G (fun u : St => (wM cI q u)) (va_A (wM cI q M) sz)) (va_A (wM cI q M) sz)) 0 0 (va_A (wM cI q M) sz) := by
  refine Met.ofW (cc := cX6_takesOut) (maxL := 5) (ret := none) (by decide) rfl ?_
  intro p e s m args below meth c s₁ B hml hv
  obtain ⟨rfl, hsz, hP, hK, hD0, hN⟩ := hv
  have hx := B.exec
  have hb := B.bytes
  have hr := B.returns
  have hts := atoms_spec (ws := wsX6_takesOut) B.pre
  have hown : s.vm.findClass RX6 = some m.cls := findClass_of_methodNamed B.named
  have hlocks := B.notSynchronized
  subst hsz
  have hD := hD0.self (sz := s.heap.size)
  generalize hAe : va_A (wM cI q M) s.heap.size = A at hD ⊢
  have hA : ∀ q : Nat, s.heap.size ≤ q → A q := fun q h => by rw [← hAe]; exact Or.inr h
  have hS : va_S A s.heap s.heap [] := va_S.rf
  have hl := lv_entry ([.ref (q 0), .int x, .int y, .int z]) (n := 5) (Nat.le_of_ble_eq_true rfl)
  rw [lg_entry_eq]
  generalize (lg_sl ([.ref (q 0), .int x, .int y, .int z]) ++ List.replicate (5 - (lg_sl ([.ref (q 0), .int x, .int y, .int z])).length) Slot.unset).toArray = ls at hl ⊢
  have hl : lv_has ls 5 [(0, .ref (q 0)), (1, .int x), (2, .int y), (3, .int z)] := hl
  have hinX6 : ∀ w ∈ wsX60, w ∈ wsX6_takesOut := by decide +kernel
  have hL7 := hts (.fieldLink RX6 7 "CraneGatesModel" "s" "[I") (by decide +kernel)
  unfold q_X6_takesOut at h
  refine lv_iload_n hx hb dX6_takesOut_0 rfl (lv_at hl 1 rfl) ?_
  refine lv_iconst (v := 2) hx hb dX6_takesOut_1 (by decide) ?_
  refine lv_iload_n hx hb dX6_takesOut_2 rfl (lv_at hl 3 rfl) ?_
  refine lv_imul hx hb dX6_takesOut_3 ?_
  refine lv_iadd hx hb dX6_takesOut_4 ?_
  refine lv_istore (lv' := [(4, .int (x + (2 * z))), (0, .ref (q 0)), (1, .int x), (2, .int y), (3, .int z)]) hx hb dX6_takesOut_5 hl (by decide) rfl (fun ls hl => ?_)
  obtain ⟨I_2, n_6, h_7, hI_8⟩ := h
  have lp_9 : ∀ (n_1 : Nat) (x4_3 : Int32) (D_4 : St), I_2 n_1 x4_3 D_4 → ∀ (H : Heap) (locs : List Loc) (ls : Array Slot), va_P G vwCl (wM cI q D_4) H → va_D A (wM cI q D_4) → va_S A s.heap H locs → lv_has ls 5 [(4, .int x4_3), (0, .ref (q 0)), (1, .int x), (2, .int y), (3, .int z)] → W p l e (headSpec wsX6_takesOut ({ frames := 0, cells := 0, slots := 0, locals := 0 })).room s m ([.ref (q 0), .int x, .int y, .int z] : List Value).toArray below meth c H locs 0 0 (MQ below (va_Qv Q (BW G (fun u : St => (wM cI q u)) A) A) ([.ref (q 0), .int x, .int y, .int z] : List Value).toArray s 0 0 A) (F0 m 7 ls []) := by
    intro n_1
    induction n_1 using Nat.strongRecOn with
    | ind n_1 ih_5 =>
      intro x4_3 D_4 hIn H locs ls hP hD hS hl
      have h := hI_8 n_1 x4_3 D_4 hIn
      refine lv_iload hx hb dX6_takesOut_7 (lv_at hl 0 rfl) ?_
      refine lv_iload_n hx hb dX6_takesOut_9 rfl (lv_at hl 2 rfl) ?_
      refine lv_iconst (v := 2) hx hb dX6_takesOut_10 (by decide) ?_
      refine lv_iload_n hx hb dX6_takesOut_11 rfl (lv_at hl 3 rfl) ?_
      refine lv_imul hx hb dX6_takesOut_12 ?_
      refine lv_iadd hx hb dX6_takesOut_13 ?_
      refine lv_iconst (v := 2) hx hb dX6_takesOut_14 (by decide) ?_
      refine lv_isub hx hb dX6_takesOut_15 ?_
      refine lv_icmp_ge (tgt := 41) hx hb dX6_takesOut_16 (by decide) (fun c_10 => ?_) (fun c_10 => ?_)
      · have h := h.1 c_10
        exact W.vret hx hb hr (fun t ht hW => ⟨⟨D_4, rfl, h, by rw [ht]; exact hP, hD⟩, hS.F ht⟩) hS.2.2 dX6_takesOut_41
      · have h := h.2 c_10
        refine lv_aload_n hx hb dX6_takesOut_19 rfl (lv_at hl 1 rfl) ?_
        refine va_get (D := G) (ci := 6) (v := .ref (q 1)) (C := RX6) (T := TX6) (N := 11) hx hb hts hinX6 hown hK hP 0 rfl rfl 0 (by decide) hL7 (fun _ h9 => h9) rfl dX6_takesOut_20 ?_
        refine lv_iload hx hb dX6_takesOut_23 (lv_at hl 0 rfl) ?_
        refine lv_aload_n hx hb dX6_takesOut_25 rfl (lv_at hl 1 rfl) ?_
        refine va_get (D := G) (ci := 6) (v := .ref (q 1)) (C := RX6) (T := TX6) (N := 11) hx hb hts hinX6 hown hK hP 0 rfl rfl 0 (by decide) hL7 (fun _ h9 => h9) rfl dX6_takesOut_26 ?_
        refine lv_iload hx hb dX6_takesOut_29 (lv_at hl 0 rfl) ?_
        refine lv_iconst (v := 2) hx hb dX6_takesOut_31 (by decide) ?_
        refine lv_iadd hx hb dX6_takesOut_32 ?_
        obtain ⟨hi_11, h⟩ := h
        refine k_ald (f := (D_4 0)) (j := ((x4_3 + 2)).toNatClampNeg) (v := ((D_4 0) (((x4_3 + 2)).toNatClampNeg))) hx hb hK hP 1 0 rfl rfl hi_11 rfl rfl dX6_takesOut_33 ?_
        obtain ⟨hi_12, h⟩ := h
        refine k_ast (f := (D_4 0)) (j := (x4_3).toNatClampNeg) (ws' := (wM cI q (uA D_4 0 (upd (D_4 0) ((x4_3).toNatClampNeg) ((D_4 0) (((x4_3 + 2)).toNatClampNeg)))))) hx hb hK hP hD hS 1 0 rfl rfl hi_12 rfl dX6_takesOut_34 (st_M_0 cI q D_4 (upd (D_4 0) ((x4_3).toNatClampNeg) ((D_4 0) (((x4_3 + 2)).toNatClampNeg)))) (fun H locs hP hD hS => ?_)
        refine lv_iinc (v := x4_3 + 1) (lv' := [(4, .int (x4_3 + 1)), (0, .ref (q 0)), (1, .int x), (2, .int y), (3, .int z)]) hx hb dX6_takesOut_35 hl (k := 0) rfl rfl (by decide) rfl (fun ls hl => ?_)
        refine lv_goto (tgt := 7) hx hb dX6_takesOut_38 (by decide) ?_
        obtain ⟨n_13, lt_14, h_15⟩ := h
        exact ih_5 n_13 lt_14 _ _ h_15 _ _ _ hP hD hS (lv_sub hl [0, 1, 2, 3, 4] rfl)
  exact lp_9 _ _ _ h_7 _ _ _ hP hD hS hl
def q_X6_dropsOrder (x : Int32) (M : St) (Q : St → Prop) : Prop :=
  q_X6_takesOut 20 ((M 0) 10) x M (fun u_1 => Q (uA u_1 0 (upd (u_1 0) 10 (((u_1 0) 10) - 1))))
set_option maxHeartbeats 4000000 in
set_option maxRecDepth 100000 in
theorem c_X6_dropsOrder (l : Launch) (G : va_G) (cI cC cD : ClassId) (q : Nat → Nat) (sz : Nat) (M : St) (x : Int32) (Q : St → Prop) (h : q_X6_dropsOrder x M Q) : Met l yX6_dropsOrder wsX6_dropsOrder ({ frames := 1, cells := 0, slots := 0, locals := 24 }) (va_Pc [.ref (q 0), .int x] (PW G (ty3 cI cC cD) (wM cI q M) sz)) (va_Qv Q (BW G (fun u : St => (wM cI q u)) (va_A (wM cI q M) sz)) (va_A (wM cI q M) sz)) 0 0 (va_A (wM cI q M) sz) := by
  refine Met.ofW (cc := cX6_dropsOrder) (maxL := 2) (ret := none) (by decide) rfl ?_
  intro p e s m args below meth c s₁ B hml hv
  obtain ⟨rfl, hsz, hP, hK, hD0, hN⟩ := hv
  have hx := B.exec
  have hb := B.bytes
  have hr := B.returns
  have hts := atoms_spec (ws := wsX6_dropsOrder) B.pre
  have hown : s.vm.findClass RX6 = some m.cls := findClass_of_methodNamed B.named
  have hlocks := B.notSynchronized
  subst hsz
  have hD := hD0.self (sz := s.heap.size)
  generalize hAe : va_A (wM cI q M) s.heap.size = A at hD ⊢
  have hA : ∀ q : Nat, s.heap.size ≤ q → A q := fun q h => by rw [← hAe]; exact Or.inr h
  have hS : va_S A s.heap s.heap [] := va_S.rf
  have hl := lv_entry ([.ref (q 0), .int x]) (n := 2) (Nat.le_of_ble_eq_true rfl)
  rw [lg_entry_eq]
  generalize (lg_sl ([.ref (q 0), .int x]) ++ List.replicate (2 - (lg_sl ([.ref (q 0), .int x])).length) Slot.unset).toArray = ls at hl ⊢
  have hl : lv_has ls 2 [(0, .ref (q 0)), (1, .int x)] := hl
  have hinX6 : ∀ w ∈ wsX60, w ∈ wsX6_dropsOrder := by decide +kernel
  have hL7 := hts (.fieldLink RX6 7 "CraneGatesModel" "s" "[I") (by decide +kernel)
  unfold q_X6_dropsOrder at h
  refine lv_aload_n hx hb dX6_dropsOrder_0 rfl (lv_at hl 0 rfl) ?_
  refine lv_bipush (v := 20) hx hb dX6_dropsOrder_1 (by decide) ?_
  refine lv_aload_n hx hb dX6_dropsOrder_3 rfl (lv_at hl 0 rfl) ?_
  refine va_get (D := G) (ci := 6) (v := .ref (q 1)) (C := RX6) (T := TX6) (N := 11) hx hb hts hinX6 hown hK hP 0 rfl rfl 0 (by decide) hL7 (fun _ h9 => h9) rfl dX6_dropsOrder_4 ?_
  refine lv_bipush (v := 10) hx hb dX6_dropsOrder_7 (by decide) ?_
  refine k_ald (f := (M 0)) (j := 10) (v := ((M 0) 10)) hx hb hK hP 1 0 rfl rfl (show ¬ ((10 : Int32) < 0 ∨ 86 ≤ (10 : Int32).toNatClampNeg) by decide) rfl rfl dX6_dropsOrder_9 ?_
  refine lv_iload_n hx hb dX6_dropsOrder_10 rfl (lv_at hl 1 rfl) ?_
  refine kc_v (As := [.int 20, .int ((M 0) 10), .int x]) (rest := []) (wg := (fun u => (wM cI q u))) ⟨hx, hb, hml, hown, hts⟩ (c_X6_takesOut l G cI cC cD q _ M 20 ((M 0) 10) x _ h) (cwV 3 hts gX6_dropsOrder_X6_takesOut rfl rfl rfl (by decide +kernel) ⟨Nat.le_of_ble_eq_true rfl, Nat.le_of_ble_eq_true rfl⟩) hK hN hP hD hS hA (em_MM cI q M) (fun u => rp_MM cI q M u) rfl rfl rfl rfl hl.1 rfl (Nat.le_of_ble_eq_true rfl) dX6_dropsOrder_11 ⟨Nat.zero_le _, Nat.zero_le _⟩ (fun u_1 H locs h hP hD hS => ?_)
  refine lv_aload_n hx hb dX6_dropsOrder_14 rfl (lv_at hl 0 rfl) ?_
  refine va_get (D := G) (ci := 6) (v := .ref (q 1)) (C := RX6) (T := TX6) (N := 11) hx hb hts hinX6 hown hK hP 0 rfl rfl 0 (by decide) hL7 (fun _ h9 => h9) rfl dX6_dropsOrder_15 ?_
  refine lv_bipush (v := 10) hx hb dX6_dropsOrder_18 (by decide) ?_
  refine lv_dup2_11 hx hb dX6_dropsOrder_20 rfl rfl ?_
  refine k_ald (f := (u_1 0)) (j := 10) (v := ((u_1 0) 10)) hx hb hK hP 1 0 rfl rfl (show ¬ ((10 : Int32) < 0 ∨ 86 ≤ (10 : Int32).toNatClampNeg) by decide) rfl rfl dX6_dropsOrder_21 ?_
  refine lv_iconst (v := 1) hx hb dX6_dropsOrder_22 (by decide) ?_
  refine lv_isub hx hb dX6_dropsOrder_23 ?_
  refine k_ast (f := (u_1 0)) (j := 10) (ws' := (wM cI q (uA u_1 0 (upd (u_1 0) 10 (((u_1 0) 10) - 1))))) hx hb hK hP hD hS 1 0 rfl rfl (show ¬ ((10 : Int32) < 0 ∨ 86 ≤ (10 : Int32).toNatClampNeg) by decide) rfl dX6_dropsOrder_24 (st_M_0 cI q u_1 (upd (u_1 0) 10 (((u_1 0) 10) - 1))) (fun H locs hP hD hS => ?_)
  exact W.vret hx hb hr (fun t ht hW => ⟨⟨(uA u_1 0 (upd (u_1 0) 10 (((u_1 0) 10) - 1))), rfl, h, by rw [ht]; exact hP, hD⟩, hS.F ht⟩) hS.2.2 dX6_dropsOrder_25
def q_X6_dropsMark (x : Int32) (M : St) (Q : St → Prop) : Prop :=
  q_X6_takesOut 36 ((M 0) 11) x M (fun u_1 => Q (uA u_1 0 (upd (u_1 0) 11 (((u_1 0) 11) - 1))))
set_option maxHeartbeats 4000000 in
set_option maxRecDepth 100000 in
theorem c_X6_dropsMark (l : Launch) (G : va_G) (cI cC cD : ClassId) (q : Nat → Nat) (sz : Nat) (M : St) (x : Int32) (Q : St → Prop) (h : q_X6_dropsMark x M Q) : Met l yX6_dropsMark wsX6_dropsMark ({ frames := 1, cells := 0, slots := 0, locals := 24 }) (va_Pc [.ref (q 0), .int x] (PW G (ty3 cI cC cD) (wM cI q M) sz)) (va_Qv Q (BW G (fun u : St => (wM cI q u)) (va_A (wM cI q M) sz)) (va_A (wM cI q M) sz)) 0 0 (va_A (wM cI q M) sz) := by
  refine Met.ofW (cc := cX6_dropsMark) (maxL := 2) (ret := none) (by decide) rfl ?_
  intro p e s m args below meth c s₁ B hml hv
  obtain ⟨rfl, hsz, hP, hK, hD0, hN⟩ := hv
  have hx := B.exec
  have hb := B.bytes
  have hr := B.returns
  have hts := atoms_spec (ws := wsX6_dropsMark) B.pre
  have hown : s.vm.findClass RX6 = some m.cls := findClass_of_methodNamed B.named
  have hlocks := B.notSynchronized
  subst hsz
  have hD := hD0.self (sz := s.heap.size)
  generalize hAe : va_A (wM cI q M) s.heap.size = A at hD ⊢
  have hA : ∀ q : Nat, s.heap.size ≤ q → A q := fun q h => by rw [← hAe]; exact Or.inr h
  have hS : va_S A s.heap s.heap [] := va_S.rf
  have hl := lv_entry ([.ref (q 0), .int x]) (n := 2) (Nat.le_of_ble_eq_true rfl)
  rw [lg_entry_eq]
  generalize (lg_sl ([.ref (q 0), .int x]) ++ List.replicate (2 - (lg_sl ([.ref (q 0), .int x])).length) Slot.unset).toArray = ls at hl ⊢
  have hl : lv_has ls 2 [(0, .ref (q 0)), (1, .int x)] := hl
  have hinX6 : ∀ w ∈ wsX60, w ∈ wsX6_dropsMark := by decide +kernel
  have hL7 := hts (.fieldLink RX6 7 "CraneGatesModel" "s" "[I") (by decide +kernel)
  unfold q_X6_dropsMark at h
  refine lv_aload_n hx hb dX6_dropsMark_0 rfl (lv_at hl 0 rfl) ?_
  refine lv_bipush (v := 36) hx hb dX6_dropsMark_1 (by decide) ?_
  refine lv_aload_n hx hb dX6_dropsMark_3 rfl (lv_at hl 0 rfl) ?_
  refine va_get (D := G) (ci := 6) (v := .ref (q 1)) (C := RX6) (T := TX6) (N := 11) hx hb hts hinX6 hown hK hP 0 rfl rfl 0 (by decide) hL7 (fun _ h9 => h9) rfl dX6_dropsMark_4 ?_
  refine lv_bipush (v := 11) hx hb dX6_dropsMark_7 (by decide) ?_
  refine k_ald (f := (M 0)) (j := 11) (v := ((M 0) 11)) hx hb hK hP 1 0 rfl rfl (show ¬ ((11 : Int32) < 0 ∨ 86 ≤ (11 : Int32).toNatClampNeg) by decide) rfl rfl dX6_dropsMark_9 ?_
  refine lv_iload_n hx hb dX6_dropsMark_10 rfl (lv_at hl 1 rfl) ?_
  refine kc_v (As := [.int 36, .int ((M 0) 11), .int x]) (rest := []) (wg := (fun u => (wM cI q u))) ⟨hx, hb, hml, hown, hts⟩ (c_X6_takesOut l G cI cC cD q _ M 36 ((M 0) 11) x _ h) (cwV 3 hts gX6_dropsMark_X6_takesOut rfl rfl rfl (by decide +kernel) ⟨Nat.le_of_ble_eq_true rfl, Nat.le_of_ble_eq_true rfl⟩) hK hN hP hD hS hA (em_MM cI q M) (fun u => rp_MM cI q M u) rfl rfl rfl rfl hl.1 rfl (Nat.le_of_ble_eq_true rfl) dX6_dropsMark_11 ⟨Nat.zero_le _, Nat.zero_le _⟩ (fun u_1 H locs h hP hD hS => ?_)
  refine lv_aload_n hx hb dX6_dropsMark_14 rfl (lv_at hl 0 rfl) ?_
  refine va_get (D := G) (ci := 6) (v := .ref (q 1)) (C := RX6) (T := TX6) (N := 11) hx hb hts hinX6 hown hK hP 0 rfl rfl 0 (by decide) hL7 (fun _ h9 => h9) rfl dX6_dropsMark_15 ?_
  refine lv_bipush (v := 11) hx hb dX6_dropsMark_18 (by decide) ?_
  refine lv_dup2_11 hx hb dX6_dropsMark_20 rfl rfl ?_
  refine k_ald (f := (u_1 0)) (j := 11) (v := ((u_1 0) 11)) hx hb hK hP 1 0 rfl rfl (show ¬ ((11 : Int32) < 0 ∨ 86 ≤ (11 : Int32).toNatClampNeg) by decide) rfl rfl dX6_dropsMark_21 ?_
  refine lv_iconst (v := 1) hx hb dX6_dropsMark_22 (by decide) ?_
  refine lv_isub hx hb dX6_dropsMark_23 ?_
  refine k_ast (f := (u_1 0)) (j := 11) (ws' := (wM cI q (uA u_1 0 (upd (u_1 0) 11 (((u_1 0) 11) - 1))))) hx hb hK hP hD hS 1 0 rfl rfl (show ¬ ((11 : Int32) < 0 ∨ 86 ≤ (11 : Int32).toNatClampNeg) by decide) rfl dX6_dropsMark_24 (st_M_0 cI q u_1 (upd (u_1 0) 11 (((u_1 0) 11) - 1))) (fun H locs hP hD hS => ?_)
  exact W.vret hx hb hr (fun t ht hW => ⟨⟨(uA u_1 0 (upd (u_1 0) 11 (((u_1 0) 11) - 1))), rfl, h, by rw [ht]; exact hP, hD⟩, hS.F ht⟩) hS.2.2 dX6_dropsMark_25
def q_X6_orderOf (x : Int32) (M : St) (Q : Int32 → Prop) : Prop :=
  q_X6_placeIn 20 ((M 0) 10) x M (fun r_1 => Q r_1)
set_option maxHeartbeats 4000000 in
set_option maxRecDepth 100000 in
theorem c_X6_orderOf (l : Launch) (G : va_G) (cI cC cD : ClassId) (q : Nat → Nat) (sz : Nat) (M : St) (x : Int32) (Q : Int32 → Prop) (h : q_X6_orderOf x M Q) : Met l yX6_orderOf wsX6_orderOf ({ frames := 1, cells := 0, slots := 0, locals := 25 }) (va_Pc [.ref (q 0), .int x] (PW G (ty3 cI cC cD) (wM cI q M) sz)) (va_Qi (fun (r : Int32) (_ : Unit) => Q r) (BW G (fun _ : Unit => (wM cI q M)) (va_A (wM cI q M) sz)) (va_A (wM cI q M) sz)) 0 0 (va_A (wM cI q M) sz) := by
  refine Met.ofW (cc := cX6_orderOf) (maxL := 2) (ret := (some .int)) (by decide) rfl ?_
  intro p e s m args below meth c s₁ B hml hv
  obtain ⟨rfl, hsz, hP, hK, hD0, hN⟩ := hv
  have hx := B.exec
  have hb := B.bytes
  have hr := B.returns
  have hts := atoms_spec (ws := wsX6_orderOf) B.pre
  have hown : s.vm.findClass RX6 = some m.cls := findClass_of_methodNamed B.named
  have hlocks := B.notSynchronized
  subst hsz
  have hD := hD0.self (sz := s.heap.size)
  generalize hAe : va_A (wM cI q M) s.heap.size = A at hD ⊢
  have hA : ∀ q : Nat, s.heap.size ≤ q → A q := fun q h => by rw [← hAe]; exact Or.inr h
  have hS : va_S A s.heap s.heap [] := va_S.rf
  have hl := lv_entry ([.ref (q 0), .int x]) (n := 2) (Nat.le_of_ble_eq_true rfl)
  rw [lg_entry_eq]
  generalize (lg_sl ([.ref (q 0), .int x]) ++ List.replicate (2 - (lg_sl ([.ref (q 0), .int x])).length) Slot.unset).toArray = ls at hl ⊢
  have hl : lv_has ls 2 [(0, .ref (q 0)), (1, .int x)] := hl
  have hinX6 : ∀ w ∈ wsX60, w ∈ wsX6_orderOf := by decide +kernel
  have hL7 := hts (.fieldLink RX6 7 "CraneGatesModel" "s" "[I") (by decide +kernel)
  unfold q_X6_orderOf at h
  refine lv_aload_n hx hb dX6_orderOf_0 rfl (lv_at hl 0 rfl) ?_
  refine lv_bipush (v := 20) hx hb dX6_orderOf_1 (by decide) ?_
  refine lv_aload_n hx hb dX6_orderOf_3 rfl (lv_at hl 0 rfl) ?_
  refine va_get (D := G) (ci := 6) (v := .ref (q 1)) (C := RX6) (T := TX6) (N := 11) hx hb hts hinX6 hown hK hP 0 rfl rfl 0 (by decide) hL7 (fun _ h9 => h9) rfl dX6_orderOf_4 ?_
  refine lv_bipush (v := 10) hx hb dX6_orderOf_7 (by decide) ?_
  refine k_ald (f := (M 0)) (j := 10) (v := ((M 0) 10)) hx hb hK hP 1 0 rfl rfl (show ¬ ((10 : Int32) < 0 ∨ 86 ≤ (10 : Int32).toNatClampNeg) by decide) rfl rfl dX6_orderOf_9 ?_
  refine lv_iload_n hx hb dX6_orderOf_10 rfl (lv_at hl 1 rfl) ?_
  refine kc_i (As := [.int 20, .int ((M 0) 10), .int x]) (rest := []) (wg := (fun _ => (wM cI q M))) ⟨hx, hb, hml, hown, hts⟩ (c_X6_placeIn l G cI cC cD q _ M 20 ((M 0) 10) x _ h) (cwV 3 hts gX6_orderOf_X6_placeIn rfl rfl rfl (by decide +kernel) ⟨Nat.le_of_ble_eq_true rfl, Nat.le_of_ble_eq_true rfl⟩) hK hN hP hD hS hA (em_MM cI q M) (fun _ => rp_self (em_MM cI q M)) rfl rfl rfl rfl hl.1 rfl (Nat.le_of_ble_eq_true rfl) dX6_orderOf_11 ⟨Nat.zero_le _, Nat.zero_le _⟩ (fun r_1 _ H locs h hP hD hS => ?_)
  exact W.iret (v := r_1) hx hb hr (fun t ht hW => ⟨⟨r_1, (), rfl, h, by rw [ht]; exact hP, hD⟩, hS.F ht⟩) hS.2.2 dX6_orderOf_14
def q_X6_markOf (x : Int32) (M : St) (Q : Int32 → Prop) : Prop :=
  q_X6_placeIn 36 ((M 0) 11) x M (fun r_1 => Q r_1)
set_option maxHeartbeats 4000000 in
set_option maxRecDepth 100000 in
theorem c_X6_markOf (l : Launch) (G : va_G) (cI cC cD : ClassId) (q : Nat → Nat) (sz : Nat) (M : St) (x : Int32) (Q : Int32 → Prop) (h : q_X6_markOf x M Q) : Met l yX6_markOf wsX6_markOf ({ frames := 1, cells := 0, slots := 0, locals := 25 }) (va_Pc [.ref (q 0), .int x] (PW G (ty3 cI cC cD) (wM cI q M) sz)) (va_Qi (fun (r : Int32) (_ : Unit) => Q r) (BW G (fun _ : Unit => (wM cI q M)) (va_A (wM cI q M) sz)) (va_A (wM cI q M) sz)) 0 0 (va_A (wM cI q M) sz) := by
  refine Met.ofW (cc := cX6_markOf) (maxL := 2) (ret := (some .int)) (by decide) rfl ?_
  intro p e s m args below meth c s₁ B hml hv
  obtain ⟨rfl, hsz, hP, hK, hD0, hN⟩ := hv
  have hx := B.exec
  have hb := B.bytes
  have hr := B.returns
  have hts := atoms_spec (ws := wsX6_markOf) B.pre
  have hown : s.vm.findClass RX6 = some m.cls := findClass_of_methodNamed B.named
  have hlocks := B.notSynchronized
  subst hsz
  have hD := hD0.self (sz := s.heap.size)
  generalize hAe : va_A (wM cI q M) s.heap.size = A at hD ⊢
  have hA : ∀ q : Nat, s.heap.size ≤ q → A q := fun q h => by rw [← hAe]; exact Or.inr h
  have hS : va_S A s.heap s.heap [] := va_S.rf
  have hl := lv_entry ([.ref (q 0), .int x]) (n := 2) (Nat.le_of_ble_eq_true rfl)
  rw [lg_entry_eq]
  generalize (lg_sl ([.ref (q 0), .int x]) ++ List.replicate (2 - (lg_sl ([.ref (q 0), .int x])).length) Slot.unset).toArray = ls at hl ⊢
  have hl : lv_has ls 2 [(0, .ref (q 0)), (1, .int x)] := hl
  have hinX6 : ∀ w ∈ wsX60, w ∈ wsX6_markOf := by decide +kernel
  have hL7 := hts (.fieldLink RX6 7 "CraneGatesModel" "s" "[I") (by decide +kernel)
  unfold q_X6_markOf at h
  refine lv_aload_n hx hb dX6_markOf_0 rfl (lv_at hl 0 rfl) ?_
  refine lv_bipush (v := 36) hx hb dX6_markOf_1 (by decide) ?_
  refine lv_aload_n hx hb dX6_markOf_3 rfl (lv_at hl 0 rfl) ?_
  refine va_get (D := G) (ci := 6) (v := .ref (q 1)) (C := RX6) (T := TX6) (N := 11) hx hb hts hinX6 hown hK hP 0 rfl rfl 0 (by decide) hL7 (fun _ h9 => h9) rfl dX6_markOf_4 ?_
  refine lv_bipush (v := 11) hx hb dX6_markOf_7 (by decide) ?_
  refine k_ald (f := (M 0)) (j := 11) (v := ((M 0) 11)) hx hb hK hP 1 0 rfl rfl (show ¬ ((11 : Int32) < 0 ∨ 86 ≤ (11 : Int32).toNatClampNeg) by decide) rfl rfl dX6_markOf_9 ?_
  refine lv_iload_n hx hb dX6_markOf_10 rfl (lv_at hl 1 rfl) ?_
  refine kc_i (As := [.int 36, .int ((M 0) 11), .int x]) (rest := []) (wg := (fun _ => (wM cI q M))) ⟨hx, hb, hml, hown, hts⟩ (c_X6_placeIn l G cI cC cD q _ M 36 ((M 0) 11) x _ h) (cwV 3 hts gX6_markOf_X6_placeIn rfl rfl rfl (by decide +kernel) ⟨Nat.le_of_ble_eq_true rfl, Nat.le_of_ble_eq_true rfl⟩) hK hN hP hD hS hA (em_MM cI q M) (fun _ => rp_self (em_MM cI q M)) rfl rfl rfl rfl hl.1 rfl (Nat.le_of_ble_eq_true rfl) dX6_markOf_11 ⟨Nat.zero_le _, Nat.zero_le _⟩ (fun r_1 _ H locs h hP hD hS => ?_)
  exact W.iret (v := r_1) hx hb hr (fun t ht hW => ⟨⟨r_1, (), rfl, h, by rw [ht]; exact hP, hD⟩, hS.F ht⟩) hS.2.2 dX6_markOf_14
