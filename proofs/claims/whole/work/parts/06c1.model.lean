def q_X6_fill (x : Int32) (M : St) (Q : Int32 → St → Prop) : Prop :=
  q_X6_in x 0 9999 (fun r_1 => (r_1 = 0 → Q (-1000001) M) ∧ (¬ (r_1 = 0) → q_X6_sets 4 x M (fun r_3 u_4 => Q r_3 u_4)))
set_option maxHeartbeats 4000000 in
set_option maxRecDepth 100000 in
theorem c_X6_fill (l : Launch) (G : va_G) (cI cC cD : ClassId) (q : Nat → Nat) (sz : Nat) (M : St) (x : Int32) (Q : Int32 → St → Prop) (h : q_X6_fill x M Q) : Met l yX6_fill wsX6_fill ({ frames := 2, cells := 0, slots := 0, locals := 44 }) (va_Pc [.ref (q 0), .int x] (PW G (ty3 cI cC cD) (wM cI q M) sz)) (va_Qi Q (BW G (fun u : St => (wM cI q u)) (va_A (wM cI q M) sz)) (va_A (wM cI q M) sz)) 0 0 (va_A (wM cI q M) sz) := by
  refine Met.ofW (cc := cX6_fill) (maxL := 2) (ret := (some .int)) (by decide) rfl ?_
  intro p e s m args below meth c s₁ B hml hv
  obtain ⟨rfl, hsz, hP, hK, hD0, hN⟩ := hv
  have hx := B.exec
  have hb := B.bytes
  have hr := B.returns
  have hts := atoms_spec (ws := wsX6_fill) B.pre
  have hown : s.vm.findClass RX6 = some m.cls := findClass_of_methodNamed B.named
  have hlocks := B.notSynchronized
  subst hsz
  have hD := hD0.self (sz := s.heap.size)
  generalize hAe : va_A (wM cI q M) s.heap.size = A at hD ⊢
  have hA : ∀ q : Nat, s.heap.size ≤ q → A q := fun q h => by rw [← hAe]; exact Or.inr h
  have hS : va_S A s.heap s.heap [] := va_S.rf
  have hl := lv_entry ([.ref (q 0), .int x]) (n := 2) (Nat.le_of_ble_eq_true rfl)
  rw [lg_entry_eq]
  generalize (lg_sl ([.ref (q 0), .int x]) ++ List.replicate (2 - (lg_sl ([.ref (q 0), .int x])).length) Slot.unset).toArray = ls at hl ⊢
  have hl : lv_has ls 2 [(0, .ref (q 0)), (1, .int x)] := hl
  unfold q_X6_fill at h
  refine lv_iload_n hx hb dX6_fill_0 rfl (lv_at hl 1 rfl) ?_
  refine lv_iconst (v := 0) hx hb dX6_fill_1 (by decide) ?_
  refine lv_sipush (v := 9999) hx hb dX6_fill_2 (by decide) ?_
  refine ks_i (As := [.int x, .int 0, .int 9999]) (rest := []) (wg := (fun _ => (wM cI q M))) ⟨hx, hb, hml, hown, hts⟩ (c_X6_in l G cI cC cD  _  x 0 9999 _ h) (va_cwS 3 hts gX6_fill_X6_in rfl rfl rfl (by decide +kernel) ⟨Nat.le_of_ble_eq_true rfl, Nat.le_of_ble_eq_true rfl⟩) hK hN hP hD hS hA (em_0 _) (fun _ => rp_self (em_0 _)) rfl hl.1 rfl (Nat.le_of_ble_eq_true rfl) dX6_fill_5 ⟨Nat.zero_le _, Nat.zero_le _⟩ (fun r_1 _ H locs h hP hD hS => ?_)
  refine lv_if_eq (tgt := 20) hx hb dX6_fill_8 (by decide) (fun c_2 => ?_) (fun c_2 => ?_)
  · have h := h.1 c_2
    refine lv_ldc hx hb hown (hts (.constant RX6 103 (-1000001)) (by decide +kernel)) dX6_fill_20 ?_
    exact W.iret (v := (-1000001)) hx hb hr (fun t ht hW => ⟨⟨(-1000001), M, rfl, h, by rw [ht]; exact hP, hD⟩, hS.F ht⟩) hS.2.2 dX6_fill_22
  · have h := h.2 c_2
    refine lv_aload_n hx hb dX6_fill_11 rfl (lv_at hl 0 rfl) ?_
    refine lv_iconst (v := 4) hx hb dX6_fill_12 (by decide) ?_
    refine lv_iload_n hx hb dX6_fill_13 rfl (lv_at hl 1 rfl) ?_
    refine kc_i (As := [.int 4, .int x]) (rest := []) (wg := (fun u => (wM cI q u))) ⟨hx, hb, hml, hown, hts⟩ (c_X6_sets l G cI cC cD q _ M 4 x _ h) (cwV 2 hts gX6_fill_X6_sets rfl rfl rfl (by decide +kernel) ⟨Nat.le_of_ble_eq_true rfl, Nat.le_of_ble_eq_true rfl⟩) hK hN hP hD hS hA (em_MM cI q M) (fun u => rp_MM cI q M u) rfl rfl rfl rfl hl.1 rfl (Nat.le_of_ble_eq_true rfl) dX6_fill_14 ⟨Nat.zero_le _, Nat.zero_le _⟩ (fun r_3 u_4 H locs h hP hD hS => ?_)
    refine lv_goto (tgt := 22) hx hb dX6_fill_17 (by decide) ?_
    exact W.iret (v := r_3) hx hb hr (fun t ht hW => ⟨⟨r_3, u_4, rfl, h, by rw [ht]; exact hP, hD⟩, hS.F ht⟩) hS.2.2 dX6_fill_22
def q_X6_set (x : Int32) (y : Int32) (M : St) (Q : Int32 → St → Prop) : Prop :=
  (x = 0 → q_X6_in y 1 9999 (fun r_2 => (r_2 = 0 → Q (-1000001) M) ∧ (¬ (r_2 = 0) → q_X6_sets x y M (fun r_4 u_5 => Q r_4 u_5)))) ∧ (¬ (x = 0) → (x = 1 → q_X6_in y 1 9999 (fun r_12 => (r_12 = 0 → Q (-1000001) M) ∧ (¬ (r_12 = 0) → q_X6_sets x y M (fun r_14 u_15 => Q r_14 u_15)))) ∧ (¬ (x = 1) → (x = 2 → q_X6_in y 0 2 (fun r_8 => (r_8 = 0 → Q (-1000001) M) ∧ (¬ (r_8 = 0) → q_X6_sets x y M (fun r_10 u_11 => Q r_10 u_11)))) ∧ (¬ (x = 2) → Q (-1000001) M)))
set_option maxHeartbeats 4000000 in
set_option maxRecDepth 100000 in
theorem c_X6_set (l : Launch) (G : va_G) (cI cC cD : ClassId) (q : Nat → Nat) (sz : Nat) (M : St) (x : Int32) (y : Int32) (Q : Int32 → St → Prop) (h : q_X6_set x y M Q) : Met l yX6_set wsX6_set ({ frames := 2, cells := 0, slots := 0, locals := 44 }) (va_Pc [.ref (q 0), .int x, .int y] (PW G (ty3 cI cC cD) (wM cI q M) sz)) (va_Qi Q (BW G (fun u : St => (wM cI q u)) (va_A (wM cI q M) sz)) (va_A (wM cI q M) sz)) 0 0 (va_A (wM cI q M) sz) := by
  refine Met.ofW (cc := cX6_set) (maxL := 4) (ret := (some .int)) (by decide) rfl ?_
  intro p e s m args below meth c s₁ B hml hv
  obtain ⟨rfl, hsz, hP, hK, hD0, hN⟩ := hv
  have hx := B.exec
  have hb := B.bytes
  have hr := B.returns
  have hts := atoms_spec (ws := wsX6_set) B.pre
  have hown : s.vm.findClass RX6 = some m.cls := findClass_of_methodNamed B.named
  have hlocks := B.notSynchronized
  subst hsz
  have hD := hD0.self (sz := s.heap.size)
  generalize hAe : va_A (wM cI q M) s.heap.size = A at hD ⊢
  have hA : ∀ q : Nat, s.heap.size ≤ q → A q := fun q h => by rw [← hAe]; exact Or.inr h
  have hS : va_S A s.heap s.heap [] := va_S.rf
  have hl := lv_entry ([.ref (q 0), .int x, .int y]) (n := 4) (Nat.le_of_ble_eq_true rfl)
  rw [lg_entry_eq]
  generalize (lg_sl ([.ref (q 0), .int x, .int y]) ++ List.replicate (4 - (lg_sl ([.ref (q 0), .int x, .int y])).length) Slot.unset).toArray = ls at hl ⊢
  have hl : lv_has ls 4 [(0, .ref (q 0)), (1, .int x), (2, .int y)] := hl
  unfold q_X6_set at h
  refine lv_iload_n hx hb dX6_set_0 rfl (lv_at hl 1 rfl) ?_
  refine lv_if_eq (tgt := 9) hx hb dX6_set_1 (by decide) (fun c_1 => ?_) (fun c_1 => ?_)
  · have h := h.1 c_1
    refine lv_iload_n hx hb dX6_set_9 rfl (lv_at hl 2 rfl) ?_
    refine lv_iconst (v := 1) hx hb dX6_set_10 (by decide) ?_
    refine lv_sipush (v := 9999) hx hb dX6_set_11 (by decide) ?_
    refine ks_i (As := [.int y, .int 1, .int 9999]) (rest := []) (wg := (fun _ => (wM cI q M))) ⟨hx, hb, hml, hown, hts⟩ (c_X6_in l G cI cC cD  _  y 1 9999 _ h) (va_cwS 3 hts gX6_set_X6_in rfl rfl rfl (by decide +kernel) ⟨Nat.le_of_ble_eq_true rfl, Nat.le_of_ble_eq_true rfl⟩) hK hN hP hD hS hA (em_0 _) (fun _ => rp_self (em_0 _)) rfl hl.1 rfl (Nat.le_of_ble_eq_true rfl) dX6_set_14 ⟨Nat.zero_le _, Nat.zero_le _⟩ (fun r_2 _ H locs h hP hD hS => ?_)
    refine lv_goto (tgt := 39) hx hb dX6_set_17 (by decide) ?_
    refine lv_istore_n (lv' := [(3, .int r_2), (0, .ref (q 0)), (1, .int x), (2, .int y)]) hx hb dX6_set_39 rfl hl (by decide) rfl (fun ls hl => ?_)
    refine lv_iload_n hx hb dX6_set_40 rfl (lv_at hl 0 rfl) ?_
    refine lv_if_eq (tgt := 53) hx hb dX6_set_41 (by decide) (fun c_3 => ?_) (fun c_3 => ?_)
    · have h := h.1 c_3
      refine lv_ldc hx hb hown (hts (.constant RX6 103 (-1000001)) (by decide +kernel)) dX6_set_53 ?_
      exact W.iret (v := (-1000001)) hx hb hr (fun t ht hW => ⟨⟨(-1000001), M, rfl, h, by rw [ht]; exact hP, hD⟩, hS.F ht⟩) hS.2.2 dX6_set_55
    · have h := h.2 c_3
      refine lv_aload_n hx hb dX6_set_44 rfl (lv_at hl 1 rfl) ?_
      refine lv_iload_n hx hb dX6_set_45 rfl (lv_at hl 2 rfl) ?_
      refine lv_iload_n hx hb dX6_set_46 rfl (lv_at hl 3 rfl) ?_
      refine kc_i (As := [.int x, .int y]) (rest := []) (wg := (fun u => (wM cI q u))) ⟨hx, hb, hml, hown, hts⟩ (c_X6_sets l G cI cC cD q _ M x y _ h) (cwV 2 hts gX6_set_X6_sets rfl rfl rfl (by decide +kernel) ⟨Nat.le_of_ble_eq_true rfl, Nat.le_of_ble_eq_true rfl⟩) hK hN hP hD hS hA (em_MM cI q M) (fun u => rp_MM cI q M u) rfl rfl rfl rfl hl.1 rfl (Nat.le_of_ble_eq_true rfl) dX6_set_47 ⟨Nat.zero_le _, Nat.zero_le _⟩ (fun r_4 u_5 H locs h hP hD hS => ?_)
      refine lv_goto (tgt := 55) hx hb dX6_set_50 (by decide) ?_
      exact W.iret (v := r_4) hx hb hr (fun t ht hW => ⟨⟨r_4, u_5, rfl, h, by rw [ht]; exact hP, hD⟩, hS.F ht⟩) hS.2.2 dX6_set_55
  · have h := h.2 c_1
    refine lv_iload_n hx hb dX6_set_4 rfl (lv_at hl 1 rfl) ?_
    refine lv_iconst (v := 1) hx hb dX6_set_5 (by decide) ?_
    refine lv_icmp_ne (tgt := 20) hx hb dX6_set_6 (by decide) (fun c_6 => ?_) (fun c_6 => ?_)
    · have h := h.2 c_6
      refine lv_iload_n hx hb dX6_set_20 rfl (lv_at hl 1 rfl) ?_
      refine lv_iconst (v := 2) hx hb dX6_set_21 (by decide) ?_
      refine lv_icmp_ne (tgt := 38) hx hb dX6_set_22 (by decide) (fun c_7 => ?_) (fun c_7 => ?_)
      · have h := h.2 c_7
        refine lv_iconst (v := 0) hx hb dX6_set_38 (by decide) ?_
        refine lv_istore_n (lv' := [(3, .int 0), (0, .ref (q 0)), (1, .int x), (2, .int y)]) hx hb dX6_set_39 rfl hl (by decide) rfl (fun ls hl => ?_)
        refine lv_iload_n hx hb dX6_set_40 rfl (lv_at hl 0 rfl) ?_
        refine lv_if_eq (tgt := 53) hx hb dX6_set_41 (by decide) (fun _ => ?_) (fun c => absurd c (by decide))
        refine lv_ldc hx hb hown (hts (.constant RX6 103 (-1000001)) (by decide +kernel)) dX6_set_53 ?_
        exact W.iret (v := (-1000001)) hx hb hr (fun t ht hW => ⟨⟨(-1000001), M, rfl, h, by rw [ht]; exact hP, hD⟩, hS.F ht⟩) hS.2.2 dX6_set_55
      · have h := h.1 c_7
        refine lv_iload_n hx hb dX6_set_25 rfl (lv_at hl 2 rfl) ?_
        refine lv_iconst (v := 0) hx hb dX6_set_26 (by decide) ?_
        refine lv_iconst (v := 2) hx hb dX6_set_27 (by decide) ?_
        refine ks_i (As := [.int y, .int 0, .int 2]) (rest := []) (wg := (fun _ => (wM cI q M))) ⟨hx, hb, hml, hown, hts⟩ (c_X6_in l G cI cC cD  _  y 0 2 _ h) (va_cwS 3 hts gX6_set_X6_in rfl rfl rfl (by decide +kernel) ⟨Nat.le_of_ble_eq_true rfl, Nat.le_of_ble_eq_true rfl⟩) hK hN hP hD hS hA (em_0 _) (fun _ => rp_self (em_0 _)) rfl hl.1 rfl (Nat.le_of_ble_eq_true rfl) dX6_set_28 ⟨Nat.zero_le _, Nat.zero_le _⟩ (fun r_8 _ H locs h hP hD hS => ?_)
        refine lv_if_eq (tgt := 38) hx hb dX6_set_31 (by decide) (fun c_9 => ?_) (fun c_9 => ?_)
        · have h := h.1 c_9
          refine lv_iconst (v := 0) hx hb dX6_set_38 (by decide) ?_
          refine lv_istore_n (lv' := [(3, .int 0), (0, .ref (q 0)), (1, .int x), (2, .int y)]) hx hb dX6_set_39 rfl hl (by decide) rfl (fun ls hl => ?_)
          refine lv_iload_n hx hb dX6_set_40 rfl (lv_at hl 0 rfl) ?_
          refine lv_if_eq (tgt := 53) hx hb dX6_set_41 (by decide) (fun _ => ?_) (fun c => absurd c (by decide))
          refine lv_ldc hx hb hown (hts (.constant RX6 103 (-1000001)) (by decide +kernel)) dX6_set_53 ?_
          exact W.iret (v := (-1000001)) hx hb hr (fun t ht hW => ⟨⟨(-1000001), M, rfl, h, by rw [ht]; exact hP, hD⟩, hS.F ht⟩) hS.2.2 dX6_set_55
        · have h := h.2 c_9
          refine lv_iconst (v := 1) hx hb dX6_set_34 (by decide) ?_
          refine lv_goto (tgt := 39) hx hb dX6_set_35 (by decide) ?_
          refine lv_istore_n (lv' := [(3, .int 1), (0, .ref (q 0)), (1, .int x), (2, .int y)]) hx hb dX6_set_39 rfl hl (by decide) rfl (fun ls hl => ?_)
          refine lv_iload_n hx hb dX6_set_40 rfl (lv_at hl 0 rfl) ?_
          refine lv_if_eq (tgt := 53) hx hb dX6_set_41 (by decide) (fun c => absurd c (by decide)) (fun _ => ?_)
          refine lv_aload_n hx hb dX6_set_44 rfl (lv_at hl 1 rfl) ?_
          refine lv_iload_n hx hb dX6_set_45 rfl (lv_at hl 2 rfl) ?_
          refine lv_iload_n hx hb dX6_set_46 rfl (lv_at hl 3 rfl) ?_
          refine kc_i (As := [.int x, .int y]) (rest := []) (wg := (fun u => (wM cI q u))) ⟨hx, hb, hml, hown, hts⟩ (c_X6_sets l G cI cC cD q _ M x y _ h) (cwV 2 hts gX6_set_X6_sets rfl rfl rfl (by decide +kernel) ⟨Nat.le_of_ble_eq_true rfl, Nat.le_of_ble_eq_true rfl⟩) hK hN hP hD hS hA (em_MM cI q M) (fun u => rp_MM cI q M u) rfl rfl rfl rfl hl.1 rfl (Nat.le_of_ble_eq_true rfl) dX6_set_47 ⟨Nat.zero_le _, Nat.zero_le _⟩ (fun r_10 u_11 H locs h hP hD hS => ?_)
          refine lv_goto (tgt := 55) hx hb dX6_set_50 (by decide) ?_
          exact W.iret (v := r_10) hx hb hr (fun t ht hW => ⟨⟨r_10, u_11, rfl, h, by rw [ht]; exact hP, hD⟩, hS.F ht⟩) hS.2.2 dX6_set_55
    · have h := h.1 c_6
      refine lv_iload_n hx hb dX6_set_9 rfl (lv_at hl 2 rfl) ?_
      refine lv_iconst (v := 1) hx hb dX6_set_10 (by decide) ?_
      refine lv_sipush (v := 9999) hx hb dX6_set_11 (by decide) ?_
      refine ks_i (As := [.int y, .int 1, .int 9999]) (rest := []) (wg := (fun _ => (wM cI q M))) ⟨hx, hb, hml, hown, hts⟩ (c_X6_in l G cI cC cD  _  y 1 9999 _ h) (va_cwS 3 hts gX6_set_X6_in rfl rfl rfl (by decide +kernel) ⟨Nat.le_of_ble_eq_true rfl, Nat.le_of_ble_eq_true rfl⟩) hK hN hP hD hS hA (em_0 _) (fun _ => rp_self (em_0 _)) rfl hl.1 rfl (Nat.le_of_ble_eq_true rfl) dX6_set_14 ⟨Nat.zero_le _, Nat.zero_le _⟩ (fun r_12 _ H locs h hP hD hS => ?_)
      refine lv_goto (tgt := 39) hx hb dX6_set_17 (by decide) ?_
      refine lv_istore_n (lv' := [(3, .int r_12), (0, .ref (q 0)), (1, .int x), (2, .int y)]) hx hb dX6_set_39 rfl hl (by decide) rfl (fun ls hl => ?_)
      refine lv_iload_n hx hb dX6_set_40 rfl (lv_at hl 0 rfl) ?_
      refine lv_if_eq (tgt := 53) hx hb dX6_set_41 (by decide) (fun c_13 => ?_) (fun c_13 => ?_)
      · have h := h.1 c_13
        refine lv_ldc hx hb hown (hts (.constant RX6 103 (-1000001)) (by decide +kernel)) dX6_set_53 ?_
        exact W.iret (v := (-1000001)) hx hb hr (fun t ht hW => ⟨⟨(-1000001), M, rfl, h, by rw [ht]; exact hP, hD⟩, hS.F ht⟩) hS.2.2 dX6_set_55
      · have h := h.2 c_13
        refine lv_aload_n hx hb dX6_set_44 rfl (lv_at hl 1 rfl) ?_
        refine lv_iload_n hx hb dX6_set_45 rfl (lv_at hl 2 rfl) ?_
        refine lv_iload_n hx hb dX6_set_46 rfl (lv_at hl 3 rfl) ?_
        refine kc_i (As := [.int x, .int y]) (rest := []) (wg := (fun u => (wM cI q u))) ⟨hx, hb, hml, hown, hts⟩ (c_X6_sets l G cI cC cD q _ M x y _ h) (cwV 2 hts gX6_set_X6_sets rfl rfl rfl (by decide +kernel) ⟨Nat.le_of_ble_eq_true rfl, Nat.le_of_ble_eq_true rfl⟩) hK hN hP hD hS hA (em_MM cI q M) (fun u => rp_MM cI q M u) rfl rfl rfl rfl hl.1 rfl (Nat.le_of_ble_eq_true rfl) dX6_set_47 ⟨Nat.zero_le _, Nat.zero_le _⟩ (fun r_14 u_15 H locs h hP hD hS => ?_)
        refine lv_goto (tgt := 55) hx hb dX6_set_50 (by decide) ?_
        exact W.iret (v := r_14) hx hb hr (fun t ht hW => ⟨⟨r_14, u_15, rfl, h, by rw [ht]; exact hP, hD⟩, hS.F ht⟩) hS.2.2 dX6_set_55
def q_X6_pass (x : Int32) (M : St) (Q : Int32 → St → Prop) : Prop :=
  q_X6_in x 1 240 (fun r_1 => (r_1 = 0 → Q (-1000001) M) ∧ (¬ (r_1 = 0) → ((((M 0) 12) + x) ≤ 50000 → q_X6_changes M (fun u_4 => ∃ (I_6 : Nat → Int32 → St → Prop) (n_10 : Nat), I_6 n_10 0 u_4 ∧ ∀ (n_5 : Nat) (x2_7 : Int32) (D_8 : St), I_6 n_5 x2_7 D_8 → ((x ≤ x2_7 → Q ((D_8 0) 4) D_8) ∧ (¬ (x ≤ x2_7) → q_X6_passes D_8 (fun u_15 => ∃ n_16, n_16 < n_5 ∧ I_6 n_16 (x2_7 + 1) u_15))))) ∧ (¬ ((((M 0) 12) + x) ≤ 50000) → Q (-1000003) M)))
set_option maxHeartbeats 4000000 in
set_option maxRecDepth 100000 in
theorem c_X6_pass (l : Launch) (G : va_G) (cI cC cD : ClassId) (q : Nat → Nat) (sz : Nat) (M : St) (x : Int32) (Q : Int32 → St → Prop) (h : q_X6_pass x M Q) : Met l yX6_pass wsX6_pass ({ frames := 5, cells := 0, slots := 0, locals := 111 }) (va_Pc [.ref (q 0), .int x] (PW G (ty3 cI cC cD) (wM cI q M) sz)) (va_Qi Q (BW G (fun u : St => (wM cI q u)) (va_A (wM cI q M) sz)) (va_A (wM cI q M) sz)) 0 0 (va_A (wM cI q M) sz) := by
  refine Met.ofW (cc := cX6_pass) (maxL := 3) (ret := (some .int)) (by decide) rfl ?_
  intro p e s m args below meth c s₁ B hml hv
  obtain ⟨rfl, hsz, hP, hK, hD0, hN⟩ := hv
  have hx := B.exec
  have hb := B.bytes
  have hr := B.returns
  have hts := atoms_spec (ws := wsX6_pass) B.pre
  have hown : s.vm.findClass RX6 = some m.cls := findClass_of_methodNamed B.named
  have hlocks := B.notSynchronized
  subst hsz
  have hD := hD0.self (sz := s.heap.size)
  generalize hAe : va_A (wM cI q M) s.heap.size = A at hD ⊢
  have hA : ∀ q : Nat, s.heap.size ≤ q → A q := fun q h => by rw [← hAe]; exact Or.inr h
  have hS : va_S A s.heap s.heap [] := va_S.rf
  have hl := lv_entry ([.ref (q 0), .int x]) (n := 3) (Nat.le_of_ble_eq_true rfl)
  rw [lg_entry_eq]
  generalize (lg_sl ([.ref (q 0), .int x]) ++ List.replicate (3 - (lg_sl ([.ref (q 0), .int x])).length) Slot.unset).toArray = ls at hl ⊢
  have hl : lv_has ls 3 [(0, .ref (q 0)), (1, .int x)] := hl
  have hinX6 : ∀ w ∈ wsX60, w ∈ wsX6_pass := by decide +kernel
  have hL7 := hts (.fieldLink RX6 7 "CraneGatesModel" "s" "[I") (by decide +kernel)
  unfold q_X6_pass at h
  refine lv_iload_n hx hb dX6_pass_0 rfl (lv_at hl 1 rfl) ?_
  refine lv_iconst (v := 1) hx hb dX6_pass_1 (by decide) ?_
  refine lv_sipush (v := 240) hx hb dX6_pass_2 (by decide) ?_
  refine ks_i (As := [.int x, .int 1, .int 240]) (rest := []) (wg := (fun _ => (wM cI q M))) ⟨hx, hb, hml, hown, hts⟩ (c_X6_in l G cI cC cD  _  x 1 240 _ h) (va_cwS 3 hts gX6_pass_X6_in rfl rfl rfl (by decide +kernel) ⟨Nat.le_of_ble_eq_true rfl, Nat.le_of_ble_eq_true rfl⟩) hK hN hP hD hS hA (em_0 _) (fun _ => rp_self (em_0 _)) rfl hl.1 rfl (Nat.le_of_ble_eq_true rfl) dX6_pass_5 ⟨Nat.zero_le _, Nat.zero_le _⟩ (fun r_1 _ H locs h hP hD hS => ?_)
  refine lv_if_ne (tgt := 14) hx hb dX6_pass_8 (by decide) (fun c_2 => ?_) (fun c_2 => ?_)
  · have h := h.2 c_2
    refine lv_aload_n hx hb dX6_pass_14 rfl (lv_at hl 0 rfl) ?_
    refine va_get (D := G) (ci := 6) (v := .ref (q 1)) (C := RX6) (T := TX6) (N := 11) hx hb hts hinX6 hown hK hP 0 rfl rfl 0 (by decide) hL7 (fun _ h9 => h9) rfl dX6_pass_15 ?_
    refine lv_bipush (v := 12) hx hb dX6_pass_18 (by decide) ?_
    refine k_ald (f := (M 0)) (j := 12) (v := ((M 0) 12)) hx hb hK hP 1 0 rfl rfl (show ¬ ((12 : Int32) < 0 ∨ 86 ≤ (12 : Int32).toNatClampNeg) by decide) rfl rfl dX6_pass_20 ?_
    refine lv_iload_n hx hb dX6_pass_21 rfl (lv_at hl 1 rfl) ?_
    refine lv_iadd hx hb dX6_pass_22 ?_
    refine lv_ldc hx hb hown (hts (.constant RX6 119 (50000)) (by decide +kernel)) dX6_pass_23 ?_
    refine lv_icmp_le (tgt := 31) hx hb dX6_pass_25 (by decide) (fun c_3 => ?_) (fun c_3 => ?_)
    · have h := h.1 c_3
      refine lv_aload_n hx hb dX6_pass_31 rfl (lv_at hl 0 rfl) ?_
      refine kc_v (As := []) (rest := []) (wg := (fun u => (wM cI q u))) ⟨hx, hb, hml, hown, hts⟩ (c_X6_changes l G cI cC cD q _ M  _ h) (cwV 0 hts gX6_pass_X6_changes rfl rfl rfl (by decide +kernel) ⟨Nat.le_of_ble_eq_true rfl, Nat.le_of_ble_eq_true rfl⟩) hK hN hP hD hS hA (em_MM cI q M) (fun u => rp_MM cI q M u) rfl rfl rfl rfl hl.1 rfl (Nat.le_of_ble_eq_true rfl) dX6_pass_32 ⟨Nat.zero_le _, Nat.zero_le _⟩ (fun u_4 H locs h hP hD hS => ?_)
      refine lv_iconst (v := 0) hx hb dX6_pass_35 (by decide) ?_
      refine lv_istore_n (lv' := [(2, .int 0), (0, .ref (q 0)), (1, .int x)]) hx hb dX6_pass_36 rfl hl (by decide) rfl (fun ls hl => ?_)
      obtain ⟨I_6, n_10, h_11, hI_12⟩ := h
      have lp_13 : ∀ (n_5 : Nat) (x2_7 : Int32) (D_8 : St), I_6 n_5 x2_7 D_8 → ∀ (H : Heap) (locs : List Loc) (ls : Array Slot), va_P G vwCl (wM cI q D_8) H → va_D A (wM cI q D_8) → va_S A s.heap H locs → lv_has ls 3 [(2, .int x2_7), (0, .ref (q 0)), (1, .int x)] → W p l e (headSpec wsX6_pass ({ frames := 5, cells := 0, slots := 0, locals := 111 })).room s m ([.ref (q 0), .int x] : List Value).toArray below meth c H locs 0 0 (MQ below (va_Qi Q (BW G (fun u : St => (wM cI q u)) A) A) ([.ref (q 0), .int x] : List Value).toArray s 0 0 A) (F0 m 37 ls []) := by
        intro n_5
        induction n_5 using Nat.strongRecOn with
        | ind n_5 ih_9 =>
          intro x2_7 D_8 hIn H locs ls hP hD hS hl
          have h := hI_12 n_5 x2_7 D_8 hIn
          refine lv_iload_n hx hb dX6_pass_37 rfl (lv_at hl 0 rfl) ?_
          refine lv_iload_n hx hb dX6_pass_38 rfl (lv_at hl 2 rfl) ?_
          refine lv_icmp_ge (tgt := 52) hx hb dX6_pass_39 (by decide) (fun c_14 => ?_) (fun c_14 => ?_)
          · have h := h.1 c_14
            refine lv_aload_n hx hb dX6_pass_52 rfl (lv_at hl 1 rfl) ?_
            refine va_get (D := G) (ci := 6) (v := .ref (q 1)) (C := RX6) (T := TX6) (N := 11) hx hb hts hinX6 hown hK hP 0 rfl rfl 0 (by decide) hL7 (fun _ h9 => h9) rfl dX6_pass_53 ?_
            refine lv_iconst (v := 4) hx hb dX6_pass_56 (by decide) ?_
            refine k_ald (f := (D_8 0)) (j := 4) (v := ((D_8 0) 4)) hx hb hK hP 1 0 rfl rfl (show ¬ ((4 : Int32) < 0 ∨ 86 ≤ (4 : Int32).toNatClampNeg) by decide) rfl rfl dX6_pass_57 ?_
            exact W.iret (v := ((D_8 0) 4)) hx hb hr (fun t ht hW => ⟨⟨((D_8 0) 4), D_8, rfl, h, by rw [ht]; exact hP, hD⟩, hS.F ht⟩) hS.2.2 dX6_pass_58
          · have h := h.2 c_14
            refine lv_aload_n hx hb dX6_pass_42 rfl (lv_at hl 1 rfl) ?_
            refine kc_v (As := []) (rest := []) (wg := (fun u => (wM cI q u))) ⟨hx, hb, hml, hown, hts⟩ (c_X6_passes l G cI cC cD q _ D_8  _ h) (cwV 0 hts gX6_pass_X6_passes rfl rfl rfl (by decide +kernel) ⟨Nat.le_of_ble_eq_true rfl, Nat.le_of_ble_eq_true rfl⟩) hK hN hP hD hS hA (em_MM cI q D_8) (fun u => rp_MM cI q D_8 u) rfl rfl rfl rfl hl.1 rfl (Nat.le_of_ble_eq_true rfl) dX6_pass_43 ⟨Nat.zero_le _, Nat.zero_le _⟩ (fun u_15 H locs h hP hD hS => ?_)
            refine lv_iinc (v := x2_7 + 1) (lv' := [(2, .int (x2_7 + 1)), (0, .ref (q 0)), (1, .int x)]) hx hb dX6_pass_46 hl (k := 0) rfl rfl (by decide) rfl (fun ls hl => ?_)
            refine lv_goto (tgt := 37) hx hb dX6_pass_49 (by decide) ?_
            obtain ⟨n_16, lt_17, h_18⟩ := h
            exact ih_9 n_16 lt_17 _ _ h_18 _ _ _ hP hD hS (lv_sub hl [0, 1, 2] rfl)
      exact lp_13 _ _ _ h_11 _ _ _ hP hD hS hl
    · have h := h.2 c_3
      refine lv_ldc hx hb hown (hts (.constant RX6 104 (-1000003)) (by decide +kernel)) dX6_pass_28 ?_
      exact W.iret (v := (-1000003)) hx hb hr (fun t ht hW => ⟨⟨(-1000003), M, rfl, h, by rw [ht]; exact hP, hD⟩, hS.F ht⟩) hS.2.2 dX6_pass_30
  · have h := h.1 c_2
    refine lv_ldc hx hb hown (hts (.constant RX6 103 (-1000001)) (by decide +kernel)) dX6_pass_11 ?_
    exact W.iret (v := (-1000001)) hx hb hr (fun t ht hW => ⟨⟨(-1000001), M, rfl, h, by rw [ht]; exact hP, hD⟩, hS.F ht⟩) hS.2.2 dX6_pass_13
def q_X6_gateOf (x : Int32) (y : Int32) (M : St) (Q : Int32 → Prop) : Prop :=
  q_X6_isGate x M (fun r_1 => (r_1 = 0 → Q (-1000001)) ∧ (¬ (r_1 = 0) → q_X6_in y 0 7 (fun r_3 => (r_3 = 0 → Q (-1000001)) ∧ (¬ (r_3 = 0) → (y = 0 → q_X6_of x y M (fun r_6 => Q r_6)) ∧ (¬ (y = 0) → (y = 1 → q_X6_of x y M (fun r_8 => Q r_8)) ∧ (¬ (y = 1) → (y = 2 → q_X6_of x y M (fun r_10 => Q r_10)) ∧ (¬ (y = 2) → (y = 3 → q_X6_head M (fun r_12 => q_X6_rate x r_12 M (fun r_13 => Q r_13))) ∧ (¬ (y = 3) → (y = 4 → q_X6_of x 3 M (fun r_15 => Q r_15)) ∧ (¬ (y = 4) → (y = 5 → q_X6_orderOf x M (fun r_17 => (0 ≤ r_17 → q_X6_orderOf x M (fun r_19 => vp_in ((20 + (2 * r_19)) + 1) 86 ∧ (Q ((M 0) ((((20 + (2 * r_19)) + 1)).toNatClampNeg))))) ∧ (¬ (0 ≤ r_17) → Q (-1000004)))) ∧ (¬ (y = 5) → (y = 6 → q_X6_markOf x M (fun r_22 => (0 ≤ r_22 → q_X6_markOf x M (fun r_24 => vp_in ((36 + (2 * r_24)) + 1) 86 ∧ (Q ((M 0) ((((36 + (2 * r_24)) + 1)).toNatClampNeg))))) ∧ (¬ (0 ≤ r_22) → Q (-1000004)))) ∧ (¬ (y = 6) → q_X6_of x 4 M (fun r_26 => Q r_26))))))))))))
set_option maxHeartbeats 4000000 in
set_option maxRecDepth 100000 in
theorem c_X6_gateOf (l : Launch) (G : va_G) (cI cC cD : ClassId) (q : Nat → Nat) (sz : Nat) (M : St) (x : Int32) (y : Int32) (Q : Int32 → Prop) (h : q_X6_gateOf x y M Q) : Met l yX6_gateOf wsX6_gateOf ({ frames := 2, cells := 0, slots := 0, locals := 47 }) (va_Pc [.ref (q 0), .int x, .int y] (PW G (ty3 cI cC cD) (wM cI q M) sz)) (va_Qi (fun (r : Int32) (_ : Unit) => Q r) (BW G (fun _ : Unit => (wM cI q M)) (va_A (wM cI q M) sz)) (va_A (wM cI q M) sz)) 0 0 (va_A (wM cI q M) sz) := by
  refine Met.ofW (cc := cX6_gateOf) (maxL := 3) (ret := (some .int)) (by decide) rfl ?_
  intro p e s m args below meth c s₁ B hml hv
  obtain ⟨rfl, hsz, hP, hK, hD0, hN⟩ := hv
  have hx := B.exec
  have hb := B.bytes
  have hr := B.returns
  have hts := atoms_spec (ws := wsX6_gateOf) B.pre
  have hown : s.vm.findClass RX6 = some m.cls := findClass_of_methodNamed B.named
  have hlocks := B.notSynchronized
  subst hsz
  have hD := hD0.self (sz := s.heap.size)
  generalize hAe : va_A (wM cI q M) s.heap.size = A at hD ⊢
  have hA : ∀ q : Nat, s.heap.size ≤ q → A q := fun q h => by rw [← hAe]; exact Or.inr h
  have hS : va_S A s.heap s.heap [] := va_S.rf
  have hl := lv_entry ([.ref (q 0), .int x, .int y]) (n := 3) (Nat.le_of_ble_eq_true rfl)
  rw [lg_entry_eq]
  generalize (lg_sl ([.ref (q 0), .int x, .int y]) ++ List.replicate (3 - (lg_sl ([.ref (q 0), .int x, .int y])).length) Slot.unset).toArray = ls at hl ⊢
  have hl : lv_has ls 3 [(0, .ref (q 0)), (1, .int x), (2, .int y)] := hl
  have hinX6 : ∀ w ∈ wsX60, w ∈ wsX6_gateOf := by decide +kernel
  have hL7 := hts (.fieldLink RX6 7 "CraneGatesModel" "s" "[I") (by decide +kernel)
  unfold q_X6_gateOf at h
  refine lv_aload_n hx hb dX6_gateOf_0 rfl (lv_at hl 0 rfl) ?_
  refine lv_iload_n hx hb dX6_gateOf_1 rfl (lv_at hl 1 rfl) ?_
  refine kc_i (As := [.int x]) (rest := []) (wg := (fun _ => (wM cI q M))) ⟨hx, hb, hml, hown, hts⟩ (c_X6_isGate l G cI cC cD q _ M x _ h) (cwV 1 hts gX6_gateOf_X6_isGate rfl rfl rfl (by decide +kernel) ⟨Nat.le_of_ble_eq_true rfl, Nat.le_of_ble_eq_true rfl⟩) hK hN hP hD hS hA (em_MM cI q M) (fun _ => rp_self (em_MM cI q M)) rfl rfl rfl rfl hl.1 rfl (Nat.le_of_ble_eq_true rfl) dX6_gateOf_2 ⟨Nat.zero_le _, Nat.zero_le _⟩ (fun r_1 _ H locs h hP hD hS => ?_)
  refine lv_if_eq (tgt := 18) hx hb dX6_gateOf_5 (by decide) (fun c_2 => ?_) (fun c_2 => ?_)
  · have h := h.1 c_2
    refine lv_ldc hx hb hown (hts (.constant RX6 103 (-1000001)) (by decide +kernel)) dX6_gateOf_18 ?_
    exact W.iret (v := (-1000001)) hx hb hr (fun t ht hW => ⟨⟨(-1000001), (), rfl, h, by rw [ht]; exact hP, hD⟩, hS.F ht⟩) hS.2.2 dX6_gateOf_20
  · have h := h.2 c_2
    refine lv_iload_n hx hb dX6_gateOf_8 rfl (lv_at hl 2 rfl) ?_
    refine lv_iconst (v := 0) hx hb dX6_gateOf_9 (by decide) ?_
    refine lv_bipush (v := 7) hx hb dX6_gateOf_10 (by decide) ?_
    refine ks_i (As := [.int y, .int 0, .int 7]) (rest := []) (wg := (fun _ => (wM cI q M))) ⟨hx, hb, hml, hown, hts⟩ (c_X6_in l G cI cC cD  _  y 0 7 _ h) (va_cwS 3 hts gX6_gateOf_X6_in rfl rfl rfl (by decide +kernel) ⟨Nat.le_of_ble_eq_true rfl, Nat.le_of_ble_eq_true rfl⟩) hK hN hP hD hS hA (em_0 _) (fun _ => rp_self (em_0 _)) rfl hl.1 rfl (Nat.le_of_ble_eq_true rfl) dX6_gateOf_12 ⟨Nat.zero_le _, Nat.zero_le _⟩ (fun r_3 _ H locs h hP hD hS => ?_)
    refine lv_if_ne (tgt := 21) hx hb dX6_gateOf_15 (by decide) (fun c_4 => ?_) (fun c_4 => ?_)
    · have h := h.2 c_4
      refine lv_iload_n hx hb dX6_gateOf_21 rfl (lv_at hl 2 rfl) ?_
      by_cases c_5 : y = 0
      · have h := h.1 c_5
        refine lv_tableIn (off := 42) (tgt := 64) hx hb dX6_gateOf_22 (by rw [c_5]; decide) (by rw [c_5]; decide) (by rw [c_5]; rfl) (by decide) ?_
        refine lv_aload_n hx hb dX6_gateOf_64 rfl (lv_at hl 0 rfl) ?_
        refine lv_iload_n hx hb dX6_gateOf_65 rfl (lv_at hl 1 rfl) ?_
        refine lv_iload_n hx hb dX6_gateOf_66 rfl (lv_at hl 2 rfl) ?_
        refine kc_i (As := [.int x, .int y]) (rest := []) (wg := (fun _ => (wM cI q M))) ⟨hx, hb, hml, hown, hts⟩ (c_X6_of l G cI cC cD q _ M x y _ h) (cwV 2 hts gX6_gateOf_X6_of rfl rfl rfl (by decide +kernel) ⟨Nat.le_of_ble_eq_true rfl, Nat.le_of_ble_eq_true rfl⟩) hK hN hP hD hS hA (em_MM cI q M) (fun _ => rp_self (em_MM cI q M)) rfl rfl rfl rfl hl.1 rfl (Nat.le_of_ble_eq_true rfl) dX6_gateOf_67 ⟨Nat.zero_le _, Nat.zero_le _⟩ (fun r_6 _ H locs h hP hD hS => ?_)
        exact W.iret (v := r_6) hx hb hr (fun t ht hW => ⟨⟨r_6, (), rfl, h, by rw [ht]; exact hP, hD⟩, hS.F ht⟩) hS.2.2 dX6_gateOf_70
      · have h := h.2 c_5
        by_cases c_7 : y = 1
        · have h := h.1 c_7
          refine lv_tableIn (off := 42) (tgt := 64) hx hb dX6_gateOf_22 (by rw [c_7]; decide) (by rw [c_7]; decide) (by rw [c_7]; rfl) (by decide) ?_
          refine lv_aload_n hx hb dX6_gateOf_64 rfl (lv_at hl 0 rfl) ?_
          refine lv_iload_n hx hb dX6_gateOf_65 rfl (lv_at hl 1 rfl) ?_
          refine lv_iload_n hx hb dX6_gateOf_66 rfl (lv_at hl 2 rfl) ?_
          refine kc_i (As := [.int x, .int y]) (rest := []) (wg := (fun _ => (wM cI q M))) ⟨hx, hb, hml, hown, hts⟩ (c_X6_of l G cI cC cD q _ M x y _ h) (cwV 2 hts gX6_gateOf_X6_of rfl rfl rfl (by decide +kernel) ⟨Nat.le_of_ble_eq_true rfl, Nat.le_of_ble_eq_true rfl⟩) hK hN hP hD hS hA (em_MM cI q M) (fun _ => rp_self (em_MM cI q M)) rfl rfl rfl rfl hl.1 rfl (Nat.le_of_ble_eq_true rfl) dX6_gateOf_67 ⟨Nat.zero_le _, Nat.zero_le _⟩ (fun r_8 _ H locs h hP hD hS => ?_)
          exact W.iret (v := r_8) hx hb hr (fun t ht hW => ⟨⟨r_8, (), rfl, h, by rw [ht]; exact hP, hD⟩, hS.F ht⟩) hS.2.2 dX6_gateOf_70
        · have h := h.2 c_7
          by_cases c_9 : y = 2
          · have h := h.1 c_9
            refine lv_tableIn (off := 42) (tgt := 64) hx hb dX6_gateOf_22 (by rw [c_9]; decide) (by rw [c_9]; decide) (by rw [c_9]; rfl) (by decide) ?_
            refine lv_aload_n hx hb dX6_gateOf_64 rfl (lv_at hl 0 rfl) ?_
            refine lv_iload_n hx hb dX6_gateOf_65 rfl (lv_at hl 1 rfl) ?_
            refine lv_iload_n hx hb dX6_gateOf_66 rfl (lv_at hl 2 rfl) ?_
            refine kc_i (As := [.int x, .int y]) (rest := []) (wg := (fun _ => (wM cI q M))) ⟨hx, hb, hml, hown, hts⟩ (c_X6_of l G cI cC cD q _ M x y _ h) (cwV 2 hts gX6_gateOf_X6_of rfl rfl rfl (by decide +kernel) ⟨Nat.le_of_ble_eq_true rfl, Nat.le_of_ble_eq_true rfl⟩) hK hN hP hD hS hA (em_MM cI q M) (fun _ => rp_self (em_MM cI q M)) rfl rfl rfl rfl hl.1 rfl (Nat.le_of_ble_eq_true rfl) dX6_gateOf_67 ⟨Nat.zero_le _, Nat.zero_le _⟩ (fun r_10 _ H locs h hP hD hS => ?_)
            exact W.iret (v := r_10) hx hb hr (fun t ht hW => ⟨⟨r_10, (), rfl, h, by rw [ht]; exact hP, hD⟩, hS.F ht⟩) hS.2.2 dX6_gateOf_70
          · have h := h.2 c_9
            by_cases c_11 : y = 3
            · have h := h.1 c_11
              refine lv_tableIn (off := 49) (tgt := 71) hx hb dX6_gateOf_22 (by rw [c_11]; decide) (by rw [c_11]; decide) (by rw [c_11]; rfl) (by decide) ?_
              refine lv_aload_n hx hb dX6_gateOf_71 rfl (lv_at hl 0 rfl) ?_
              refine lv_iload_n hx hb dX6_gateOf_72 rfl (lv_at hl 1 rfl) ?_
              refine lv_aload_n hx hb dX6_gateOf_73 rfl (lv_at hl 0 rfl) ?_
              refine kc_i (As := []) (rest := [.int x, .ref (q 0)]) (wg := (fun _ => (wM cI q M))) ⟨hx, hb, hml, hown, hts⟩ (c_X6_head l G cI cC cD q _ M  _ h) (cwV 0 hts gX6_gateOf_X6_head rfl rfl rfl (by decide +kernel) ⟨Nat.le_of_ble_eq_true rfl, Nat.le_of_ble_eq_true rfl⟩) hK hN hP hD hS hA (em_MM cI q M) (fun _ => rp_self (em_MM cI q M)) rfl rfl rfl rfl hl.1 rfl (Nat.le_of_ble_eq_true rfl) dX6_gateOf_74 ⟨Nat.zero_le _, Nat.zero_le _⟩ (fun r_12 _ H locs h hP hD hS => ?_)
              refine kc_i (As := [.int x, .int r_12]) (rest := []) (wg := (fun _ => (wM cI q M))) ⟨hx, hb, hml, hown, hts⟩ (c_X6_rate l G cI cC cD q _ M x r_12 _ h) (cwV 2 hts gX6_gateOf_X6_rate rfl rfl rfl (by decide +kernel) ⟨Nat.le_of_ble_eq_true rfl, Nat.le_of_ble_eq_true rfl⟩) hK hN hP hD hS hA (em_MM cI q M) (fun _ => rp_self (em_MM cI q M)) rfl rfl rfl rfl hl.1 rfl (Nat.le_of_ble_eq_true rfl) dX6_gateOf_77 ⟨Nat.zero_le _, Nat.zero_le _⟩ (fun r_13 _ H locs h hP hD hS => ?_)
              exact W.iret (v := r_13) hx hb hr (fun t ht hW => ⟨⟨r_13, (), rfl, h, by rw [ht]; exact hP, hD⟩, hS.F ht⟩) hS.2.2 dX6_gateOf_80
            · have h := h.2 c_11
              by_cases c_14 : y = 4
              · have h := h.1 c_14
                refine lv_tableIn (off := 59) (tgt := 81) hx hb dX6_gateOf_22 (by rw [c_14]; decide) (by rw [c_14]; decide) (by rw [c_14]; rfl) (by decide) ?_
                refine lv_aload_n hx hb dX6_gateOf_81 rfl (lv_at hl 0 rfl) ?_
                refine lv_iload_n hx hb dX6_gateOf_82 rfl (lv_at hl 1 rfl) ?_
                refine lv_iconst (v := 3) hx hb dX6_gateOf_83 (by decide) ?_
                refine kc_i (As := [.int x, .int 3]) (rest := []) (wg := (fun _ => (wM cI q M))) ⟨hx, hb, hml, hown, hts⟩ (c_X6_of l G cI cC cD q _ M x 3 _ h) (cwV 2 hts gX6_gateOf_X6_of rfl rfl rfl (by decide +kernel) ⟨Nat.le_of_ble_eq_true rfl, Nat.le_of_ble_eq_true rfl⟩) hK hN hP hD hS hA (em_MM cI q M) (fun _ => rp_self (em_MM cI q M)) rfl rfl rfl rfl hl.1 rfl (Nat.le_of_ble_eq_true rfl) dX6_gateOf_84 ⟨Nat.zero_le _, Nat.zero_le _⟩ (fun r_15 _ H locs h hP hD hS => ?_)
                exact W.iret (v := r_15) hx hb hr (fun t ht hW => ⟨⟨r_15, (), rfl, h, by rw [ht]; exact hP, hD⟩, hS.F ht⟩) hS.2.2 dX6_gateOf_87
              · have h := h.2 c_14
                by_cases c_16 : y = 5
                · have h := h.1 c_16
                  refine lv_tableIn (off := 66) (tgt := 88) hx hb dX6_gateOf_22 (by rw [c_16]; decide) (by rw [c_16]; decide) (by rw [c_16]; rfl) (by decide) ?_
                  refine lv_aload_n hx hb dX6_gateOf_88 rfl (lv_at hl 0 rfl) ?_
                  refine lv_iload_n hx hb dX6_gateOf_89 rfl (lv_at hl 1 rfl) ?_
                  refine kc_i (As := [.int x]) (rest := []) (wg := (fun _ => (wM cI q M))) ⟨hx, hb, hml, hown, hts⟩ (c_X6_orderOf l G cI cC cD q _ M x _ h) (cwV 1 hts gX6_gateOf_X6_orderOf rfl rfl rfl (by decide +kernel) ⟨Nat.le_of_ble_eq_true rfl, Nat.le_of_ble_eq_true rfl⟩) hK hN hP hD hS hA (em_MM cI q M) (fun _ => rp_self (em_MM cI q M)) rfl rfl rfl rfl hl.1 rfl (Nat.le_of_ble_eq_true rfl) dX6_gateOf_90 ⟨Nat.zero_le _, Nat.zero_le _⟩ (fun r_17 _ H locs h hP hD hS => ?_)
                  refine lv_if_ge (tgt := 101) hx hb dX6_gateOf_93 (by decide) (fun c_18 => ?_) (fun c_18 => ?_)
                  · have h := h.1 c_18
                    refine lv_aload_n hx hb dX6_gateOf_101 rfl (lv_at hl 0 rfl) ?_
                    refine va_get (D := G) (ci := 6) (v := .ref (q 1)) (C := RX6) (T := TX6) (N := 11) hx hb hts hinX6 hown hK hP 0 rfl rfl 0 (by decide) hL7 (fun _ h9 => h9) rfl dX6_gateOf_102 ?_
                    refine lv_bipush (v := 20) hx hb dX6_gateOf_105 (by decide) ?_
                    refine lv_iconst (v := 2) hx hb dX6_gateOf_107 (by decide) ?_
                    refine lv_aload_n hx hb dX6_gateOf_108 rfl (lv_at hl 0 rfl) ?_
                    refine lv_iload_n hx hb dX6_gateOf_109 rfl (lv_at hl 1 rfl) ?_
                    refine kc_i (As := [.int x]) (rest := [.int 2, .int 20, .ref (q 1)]) (wg := (fun _ => (wM cI q M))) ⟨hx, hb, hml, hown, hts⟩ (c_X6_orderOf l G cI cC cD q _ M x _ h) (cwV 1 hts gX6_gateOf_X6_orderOf rfl rfl rfl (by decide +kernel) ⟨Nat.le_of_ble_eq_true rfl, Nat.le_of_ble_eq_true rfl⟩) hK hN hP hD hS hA (em_MM cI q M) (fun _ => rp_self (em_MM cI q M)) rfl rfl rfl rfl hl.1 rfl (Nat.le_of_ble_eq_true rfl) dX6_gateOf_110 ⟨Nat.zero_le _, Nat.zero_le _⟩ (fun r_19 _ H locs h hP hD hS => ?_)
                    refine lv_imul hx hb dX6_gateOf_113 ?_
                    refine lv_iadd hx hb dX6_gateOf_114 ?_
                    refine lv_iconst (v := 1) hx hb dX6_gateOf_115 (by decide) ?_
                    refine lv_iadd hx hb dX6_gateOf_116 ?_
                    obtain ⟨hi_20, h⟩ := h
                    refine k_ald (f := (M 0)) (j := (((20 + (2 * r_19)) + 1)).toNatClampNeg) (v := ((M 0) ((((20 + (2 * r_19)) + 1)).toNatClampNeg))) hx hb hK hP 1 0 rfl rfl hi_20 rfl rfl dX6_gateOf_117 ?_
                    exact W.iret (v := ((M 0) ((((20 + (2 * r_19)) + 1)).toNatClampNeg))) hx hb hr (fun t ht hW => ⟨⟨((M 0) ((((20 + (2 * r_19)) + 1)).toNatClampNeg)), (), rfl, h, by rw [ht]; exact hP, hD⟩, hS.F ht⟩) hS.2.2 dX6_gateOf_118
                  · have h := h.2 c_18
                    refine lv_ldc hx hb hown (hts (.constant RX6 40 (-1000004)) (by decide +kernel)) dX6_gateOf_96 ?_
                    refine lv_goto (tgt := 118) hx hb dX6_gateOf_98 (by decide) ?_
                    exact W.iret (v := (-1000004)) hx hb hr (fun t ht hW => ⟨⟨(-1000004), (), rfl, h, by rw [ht]; exact hP, hD⟩, hS.F ht⟩) hS.2.2 dX6_gateOf_118
                · have h := h.2 c_16
                  by_cases c_21 : y = 6
                  · have h := h.1 c_21
                    refine lv_tableIn (off := 97) (tgt := 119) hx hb dX6_gateOf_22 (by rw [c_21]; decide) (by rw [c_21]; decide) (by rw [c_21]; rfl) (by decide) ?_
                    refine lv_aload_n hx hb dX6_gateOf_119 rfl (lv_at hl 0 rfl) ?_
                    refine lv_iload_n hx hb dX6_gateOf_120 rfl (lv_at hl 1 rfl) ?_
                    refine kc_i (As := [.int x]) (rest := []) (wg := (fun _ => (wM cI q M))) ⟨hx, hb, hml, hown, hts⟩ (c_X6_markOf l G cI cC cD q _ M x _ h) (cwV 1 hts gX6_gateOf_X6_markOf rfl rfl rfl (by decide +kernel) ⟨Nat.le_of_ble_eq_true rfl, Nat.le_of_ble_eq_true rfl⟩) hK hN hP hD hS hA (em_MM cI q M) (fun _ => rp_self (em_MM cI q M)) rfl rfl rfl rfl hl.1 rfl (Nat.le_of_ble_eq_true rfl) dX6_gateOf_121 ⟨Nat.zero_le _, Nat.zero_le _⟩ (fun r_22 _ H locs h hP hD hS => ?_)
                    refine lv_if_ge (tgt := 132) hx hb dX6_gateOf_124 (by decide) (fun c_23 => ?_) (fun c_23 => ?_)
                    · have h := h.1 c_23
                      refine lv_aload_n hx hb dX6_gateOf_132 rfl (lv_at hl 0 rfl) ?_
                      refine va_get (D := G) (ci := 6) (v := .ref (q 1)) (C := RX6) (T := TX6) (N := 11) hx hb hts hinX6 hown hK hP 0 rfl rfl 0 (by decide) hL7 (fun _ h9 => h9) rfl dX6_gateOf_133 ?_
                      refine lv_bipush (v := 36) hx hb dX6_gateOf_136 (by decide) ?_
                      refine lv_iconst (v := 2) hx hb dX6_gateOf_138 (by decide) ?_
                      refine lv_aload_n hx hb dX6_gateOf_139 rfl (lv_at hl 0 rfl) ?_
                      refine lv_iload_n hx hb dX6_gateOf_140 rfl (lv_at hl 1 rfl) ?_
                      refine kc_i (As := [.int x]) (rest := [.int 2, .int 36, .ref (q 1)]) (wg := (fun _ => (wM cI q M))) ⟨hx, hb, hml, hown, hts⟩ (c_X6_markOf l G cI cC cD q _ M x _ h) (cwV 1 hts gX6_gateOf_X6_markOf rfl rfl rfl (by decide +kernel) ⟨Nat.le_of_ble_eq_true rfl, Nat.le_of_ble_eq_true rfl⟩) hK hN hP hD hS hA (em_MM cI q M) (fun _ => rp_self (em_MM cI q M)) rfl rfl rfl rfl hl.1 rfl (Nat.le_of_ble_eq_true rfl) dX6_gateOf_141 ⟨Nat.zero_le _, Nat.zero_le _⟩ (fun r_24 _ H locs h hP hD hS => ?_)
                      refine lv_imul hx hb dX6_gateOf_144 ?_
                      refine lv_iadd hx hb dX6_gateOf_145 ?_
                      refine lv_iconst (v := 1) hx hb dX6_gateOf_146 (by decide) ?_
                      refine lv_iadd hx hb dX6_gateOf_147 ?_
                      obtain ⟨hi_25, h⟩ := h
                      refine k_ald (f := (M 0)) (j := (((36 + (2 * r_24)) + 1)).toNatClampNeg) (v := ((M 0) ((((36 + (2 * r_24)) + 1)).toNatClampNeg))) hx hb hK hP 1 0 rfl rfl hi_25 rfl rfl dX6_gateOf_148 ?_
                      exact W.iret (v := ((M 0) ((((36 + (2 * r_24)) + 1)).toNatClampNeg))) hx hb hr (fun t ht hW => ⟨⟨((M 0) ((((36 + (2 * r_24)) + 1)).toNatClampNeg)), (), rfl, h, by rw [ht]; exact hP, hD⟩, hS.F ht⟩) hS.2.2 dX6_gateOf_149
                    · have h := h.2 c_23
                      refine lv_ldc hx hb hown (hts (.constant RX6 40 (-1000004)) (by decide +kernel)) dX6_gateOf_127 ?_
                      refine lv_goto (tgt := 149) hx hb dX6_gateOf_129 (by decide) ?_
                      exact W.iret (v := (-1000004)) hx hb hr (fun t ht hW => ⟨⟨(-1000004), (), rfl, h, by rw [ht]; exact hP, hD⟩, hS.F ht⟩) hS.2.2 dX6_gateOf_149
                  · have h := h.2 c_21
                    have ho : (y).toInt < 0 ∨ 6 < (y).toInt := by
                      have n0 := sw_o (a := 0) c_5 (by decide)
                      have n1 := sw_o (a := 1) c_7 (by decide)
                      have n2 := sw_o (a := 2) c_9 (by decide)
                      have n3 := sw_o (a := 3) c_11 (by decide)
                      have n4 := sw_o (a := 4) c_14 (by decide)
                      have n5 := sw_o (a := 5) c_16 (by decide)
                      have n6 := sw_o (a := 6) c_21 (by decide)
                      omega
                    refine lv_tableOut (tgt := 150) hx hb dX6_gateOf_22 ho (by decide) ?_
                    refine lv_aload_n hx hb dX6_gateOf_150 rfl (lv_at hl 0 rfl) ?_
                    refine lv_iload_n hx hb dX6_gateOf_151 rfl (lv_at hl 1 rfl) ?_
                    refine lv_iconst (v := 4) hx hb dX6_gateOf_152 (by decide) ?_
                    refine kc_i (As := [.int x, .int 4]) (rest := []) (wg := (fun _ => (wM cI q M))) ⟨hx, hb, hml, hown, hts⟩ (c_X6_of l G cI cC cD q _ M x 4 _ h) (cwV 2 hts gX6_gateOf_X6_of rfl rfl rfl (by decide +kernel) ⟨Nat.le_of_ble_eq_true rfl, Nat.le_of_ble_eq_true rfl⟩) hK hN hP hD hS hA (em_MM cI q M) (fun _ => rp_self (em_MM cI q M)) rfl rfl rfl rfl hl.1 rfl (Nat.le_of_ble_eq_true rfl) dX6_gateOf_153 ⟨Nat.zero_le _, Nat.zero_le _⟩ (fun r_26 _ H locs h hP hD hS => ?_)
                    exact W.iret (v := r_26) hx hb hr (fun t ht hW => ⟨⟨r_26, (), rfl, h, by rw [ht]; exact hP, hD⟩, hS.F ht⟩) hS.2.2 dX6_gateOf_156
    · have h := h.1 c_4
      refine lv_ldc hx hb hown (hts (.constant RX6 103 (-1000001)) (by decide +kernel)) dX6_gateOf_18 ?_
      exact W.iret (v := (-1000001)) hx hb hr (fun t ht hW => ⟨⟨(-1000001), (), rfl, h, by rw [ht]; exact hP, hD⟩, hS.F ht⟩) hS.2.2 dX6_gateOf_20
def q_X6_craneOf (x : Int32) (M : St) (Q : Int32 → Prop) : Prop :=
  (x = 0 → Q ((M 0) 6)) ∧ (¬ (x = 0) → (x = 1 → (0 ≤ ((M 0) 7) → vp_in ((7 + x) - 1) 86 ∧ (Q ((M 0) ((((7 + x) - 1)).toNatClampNeg)))) ∧ (¬ (0 ≤ ((M 0) 7)) → Q (-1000004))) ∧ (¬ (x = 1) → (x = 2 → (0 ≤ ((M 0) 7) → vp_in ((7 + x) - 1) 86 ∧ (Q ((M 0) ((((7 + x) - 1)).toNatClampNeg)))) ∧ (¬ (0 ≤ ((M 0) 7)) → Q (-1000004))) ∧ (¬ (x = 2) → (x = 3 → vp_in ((17 + x) - 3) 86 ∧ (Q ((M 0) ((((17 + x) - 3)).toNatClampNeg)))) ∧ (¬ (x = 3) → (x = 4 → vp_in ((17 + x) - 3) 86 ∧ (Q ((M 0) ((((17 + x) - 3)).toNatClampNeg)))) ∧ (¬ (x = 4) → (x = 5 → vp_in ((17 + x) - 3) 86 ∧ (Q ((M 0) ((((17 + x) - 3)).toNatClampNeg)))) ∧ (¬ (x = 5) → (x = 6 → Q ((M 0) 11)) ∧ (¬ (x = 6) → Q (-1000001))))))))
set_option maxHeartbeats 4000000 in
set_option maxRecDepth 100000 in
theorem c_X6_craneOf (l : Launch) (G : va_G) (cI cC cD : ClassId) (q : Nat → Nat) (sz : Nat) (M : St) (x : Int32) (Q : Int32 → Prop) (h : q_X6_craneOf x M Q) : Met l yX6_craneOf wsX6_craneOf ({ frames := 0, cells := 0, slots := 0, locals := 0 }) (va_Pc [.ref (q 0), .int x] (PW G (ty3 cI cC cD) (wM cI q M) sz)) (va_Qi (fun (r : Int32) (_ : Unit) => Q r) (BW G (fun _ : Unit => (wM cI q M)) (va_A (wM cI q M) sz)) (va_A (wM cI q M) sz)) 0 0 (va_A (wM cI q M) sz) := by
  refine Met.ofW (cc := cX6_craneOf) (maxL := 2) (ret := (some .int)) (by decide) rfl ?_
  intro p e s m args below meth c s₁ B hml hv
  obtain ⟨rfl, hsz, hP, hK, hD0, hN⟩ := hv
  have hx := B.exec
  have hb := B.bytes
  have hr := B.returns
  have hts := atoms_spec (ws := wsX6_craneOf) B.pre
  have hown : s.vm.findClass RX6 = some m.cls := findClass_of_methodNamed B.named
  have hlocks := B.notSynchronized
  subst hsz
  have hD := hD0.self (sz := s.heap.size)
  generalize hAe : va_A (wM cI q M) s.heap.size = A at hD ⊢
  have hA : ∀ q : Nat, s.heap.size ≤ q → A q := fun q h => by rw [← hAe]; exact Or.inr h
  have hS : va_S A s.heap s.heap [] := va_S.rf
  have hl := lv_entry ([.ref (q 0), .int x]) (n := 2) (Nat.le_of_ble_eq_true rfl)
  rw [lg_entry_eq]
  generalize (lg_sl ([.ref (q 0), .int x]) ++ List.replicate (2 - (lg_sl ([.ref (q 0), .int x])).length) Slot.unset).toArray = ls at hl ⊢
  have hl : lv_has ls 2 [(0, .ref (q 0)), (1, .int x)] := hl
  have hinX6 : ∀ w ∈ wsX60, w ∈ wsX6_craneOf := by decide +kernel
  have hL7 := hts (.fieldLink RX6 7 "CraneGatesModel" "s" "[I") (by decide +kernel)
  unfold q_X6_craneOf at h
  refine lv_iload_n hx hb dX6_craneOf_0 rfl (lv_at hl 1 rfl) ?_
  by_cases c_1 : x = 0
  · have h := h.1 c_1
    refine lv_tableIn (off := 43) (tgt := 44) hx hb dX6_craneOf_1 (by rw [c_1]; decide) (by rw [c_1]; decide) (by rw [c_1]; rfl) (by decide) ?_
    refine lv_aload_n hx hb dX6_craneOf_44 rfl (lv_at hl 0 rfl) ?_
    refine va_get (D := G) (ci := 6) (v := .ref (q 1)) (C := RX6) (T := TX6) (N := 11) hx hb hts hinX6 hown hK hP 0 rfl rfl 0 (by decide) hL7 (fun _ h9 => h9) rfl dX6_craneOf_45 ?_
    refine lv_bipush (v := 6) hx hb dX6_craneOf_48 (by decide) ?_
    refine k_ald (f := (M 0)) (j := 6) (v := ((M 0) 6)) hx hb hK hP 1 0 rfl rfl (show ¬ ((6 : Int32) < 0 ∨ 86 ≤ (6 : Int32).toNatClampNeg) by decide) rfl rfl dX6_craneOf_50 ?_
    exact W.iret (v := ((M 0) 6)) hx hb hr (fun t ht hW => ⟨⟨((M 0) 6), (), rfl, h, by rw [ht]; exact hP, hD⟩, hS.F ht⟩) hS.2.2 dX6_craneOf_51
  · have h := h.2 c_1
    by_cases c_2 : x = 1
    · have h := h.1 c_2
      refine lv_tableIn (off := 51) (tgt := 52) hx hb dX6_craneOf_1 (by rw [c_2]; decide) (by rw [c_2]; decide) (by rw [c_2]; rfl) (by decide) ?_
      refine lv_aload_n hx hb dX6_craneOf_52 rfl (lv_at hl 0 rfl) ?_
      refine va_get (D := G) (ci := 6) (v := .ref (q 1)) (C := RX6) (T := TX6) (N := 11) hx hb hts hinX6 hown hK hP 0 rfl rfl 0 (by decide) hL7 (fun _ h9 => h9) rfl dX6_craneOf_53 ?_
      refine lv_bipush (v := 7) hx hb dX6_craneOf_56 (by decide) ?_
      refine k_ald (f := (M 0)) (j := 7) (v := ((M 0) 7)) hx hb hK hP 1 0 rfl rfl (show ¬ ((7 : Int32) < 0 ∨ 86 ≤ (7 : Int32).toNatClampNeg) by decide) rfl rfl dX6_craneOf_58 ?_
      refine lv_if_ge (tgt := 67) hx hb dX6_craneOf_59 (by decide) (fun c_3 => ?_) (fun c_3 => ?_)
      · have h := h.1 c_3
        refine lv_aload_n hx hb dX6_craneOf_67 rfl (lv_at hl 0 rfl) ?_
        refine va_get (D := G) (ci := 6) (v := .ref (q 1)) (C := RX6) (T := TX6) (N := 11) hx hb hts hinX6 hown hK hP 0 rfl rfl 0 (by decide) hL7 (fun _ h9 => h9) rfl dX6_craneOf_68 ?_
        refine lv_bipush (v := 7) hx hb dX6_craneOf_71 (by decide) ?_
        refine lv_iload_n hx hb dX6_craneOf_73 rfl (lv_at hl 1 rfl) ?_
        refine lv_iadd hx hb dX6_craneOf_74 ?_
        refine lv_iconst (v := 1) hx hb dX6_craneOf_75 (by decide) ?_
        refine lv_isub hx hb dX6_craneOf_76 ?_
        obtain ⟨hi_4, h⟩ := h
        refine k_ald (f := (M 0)) (j := (((7 + x) - 1)).toNatClampNeg) (v := ((M 0) ((((7 + x) - 1)).toNatClampNeg))) hx hb hK hP 1 0 rfl rfl hi_4 rfl rfl dX6_craneOf_77 ?_
        exact W.iret (v := ((M 0) ((((7 + x) - 1)).toNatClampNeg))) hx hb hr (fun t ht hW => ⟨⟨((M 0) ((((7 + x) - 1)).toNatClampNeg)), (), rfl, h, by rw [ht]; exact hP, hD⟩, hS.F ht⟩) hS.2.2 dX6_craneOf_78
      · have h := h.2 c_3
        refine lv_ldc hx hb hown (hts (.constant RX6 40 (-1000004)) (by decide +kernel)) dX6_craneOf_62 ?_
        refine lv_goto (tgt := 78) hx hb dX6_craneOf_64 (by decide) ?_
        exact W.iret (v := (-1000004)) hx hb hr (fun t ht hW => ⟨⟨(-1000004), (), rfl, h, by rw [ht]; exact hP, hD⟩, hS.F ht⟩) hS.2.2 dX6_craneOf_78
    · have h := h.2 c_2
      by_cases c_5 : x = 2
      · have h := h.1 c_5
        refine lv_tableIn (off := 51) (tgt := 52) hx hb dX6_craneOf_1 (by rw [c_5]; decide) (by rw [c_5]; decide) (by rw [c_5]; rfl) (by decide) ?_
        refine lv_aload_n hx hb dX6_craneOf_52 rfl (lv_at hl 0 rfl) ?_
        refine va_get (D := G) (ci := 6) (v := .ref (q 1)) (C := RX6) (T := TX6) (N := 11) hx hb hts hinX6 hown hK hP 0 rfl rfl 0 (by decide) hL7 (fun _ h9 => h9) rfl dX6_craneOf_53 ?_
        refine lv_bipush (v := 7) hx hb dX6_craneOf_56 (by decide) ?_
        refine k_ald (f := (M 0)) (j := 7) (v := ((M 0) 7)) hx hb hK hP 1 0 rfl rfl (show ¬ ((7 : Int32) < 0 ∨ 86 ≤ (7 : Int32).toNatClampNeg) by decide) rfl rfl dX6_craneOf_58 ?_
        refine lv_if_ge (tgt := 67) hx hb dX6_craneOf_59 (by decide) (fun c_6 => ?_) (fun c_6 => ?_)
        · have h := h.1 c_6
          refine lv_aload_n hx hb dX6_craneOf_67 rfl (lv_at hl 0 rfl) ?_
          refine va_get (D := G) (ci := 6) (v := .ref (q 1)) (C := RX6) (T := TX6) (N := 11) hx hb hts hinX6 hown hK hP 0 rfl rfl 0 (by decide) hL7 (fun _ h9 => h9) rfl dX6_craneOf_68 ?_
          refine lv_bipush (v := 7) hx hb dX6_craneOf_71 (by decide) ?_
          refine lv_iload_n hx hb dX6_craneOf_73 rfl (lv_at hl 1 rfl) ?_
          refine lv_iadd hx hb dX6_craneOf_74 ?_
          refine lv_iconst (v := 1) hx hb dX6_craneOf_75 (by decide) ?_
          refine lv_isub hx hb dX6_craneOf_76 ?_
          obtain ⟨hi_7, h⟩ := h
          refine k_ald (f := (M 0)) (j := (((7 + x) - 1)).toNatClampNeg) (v := ((M 0) ((((7 + x) - 1)).toNatClampNeg))) hx hb hK hP 1 0 rfl rfl hi_7 rfl rfl dX6_craneOf_77 ?_
          exact W.iret (v := ((M 0) ((((7 + x) - 1)).toNatClampNeg))) hx hb hr (fun t ht hW => ⟨⟨((M 0) ((((7 + x) - 1)).toNatClampNeg)), (), rfl, h, by rw [ht]; exact hP, hD⟩, hS.F ht⟩) hS.2.2 dX6_craneOf_78
        · have h := h.2 c_6
          refine lv_ldc hx hb hown (hts (.constant RX6 40 (-1000004)) (by decide +kernel)) dX6_craneOf_62 ?_
          refine lv_goto (tgt := 78) hx hb dX6_craneOf_64 (by decide) ?_
          exact W.iret (v := (-1000004)) hx hb hr (fun t ht hW => ⟨⟨(-1000004), (), rfl, h, by rw [ht]; exact hP, hD⟩, hS.F ht⟩) hS.2.2 dX6_craneOf_78
      · have h := h.2 c_5
        by_cases c_8 : x = 3
        · have h := h.1 c_8
          refine lv_tableIn (off := 78) (tgt := 79) hx hb dX6_craneOf_1 (by rw [c_8]; decide) (by rw [c_8]; decide) (by rw [c_8]; rfl) (by decide) ?_
          refine lv_aload_n hx hb dX6_craneOf_79 rfl (lv_at hl 0 rfl) ?_
          refine va_get (D := G) (ci := 6) (v := .ref (q 1)) (C := RX6) (T := TX6) (N := 11) hx hb hts hinX6 hown hK hP 0 rfl rfl 0 (by decide) hL7 (fun _ h9 => h9) rfl dX6_craneOf_80 ?_
          refine lv_bipush (v := 17) hx hb dX6_craneOf_83 (by decide) ?_
          refine lv_iload_n hx hb dX6_craneOf_85 rfl (lv_at hl 1 rfl) ?_
          refine lv_iadd hx hb dX6_craneOf_86 ?_
          refine lv_iconst (v := 3) hx hb dX6_craneOf_87 (by decide) ?_
          refine lv_isub hx hb dX6_craneOf_88 ?_
          obtain ⟨hi_9, h⟩ := h
          refine k_ald (f := (M 0)) (j := (((17 + x) - 3)).toNatClampNeg) (v := ((M 0) ((((17 + x) - 3)).toNatClampNeg))) hx hb hK hP 1 0 rfl rfl hi_9 rfl rfl dX6_craneOf_89 ?_
          exact W.iret (v := ((M 0) ((((17 + x) - 3)).toNatClampNeg))) hx hb hr (fun t ht hW => ⟨⟨((M 0) ((((17 + x) - 3)).toNatClampNeg)), (), rfl, h, by rw [ht]; exact hP, hD⟩, hS.F ht⟩) hS.2.2 dX6_craneOf_90
        · have h := h.2 c_8
          by_cases c_10 : x = 4
          · have h := h.1 c_10
            refine lv_tableIn (off := 78) (tgt := 79) hx hb dX6_craneOf_1 (by rw [c_10]; decide) (by rw [c_10]; decide) (by rw [c_10]; rfl) (by decide) ?_
            refine lv_aload_n hx hb dX6_craneOf_79 rfl (lv_at hl 0 rfl) ?_
            refine va_get (D := G) (ci := 6) (v := .ref (q 1)) (C := RX6) (T := TX6) (N := 11) hx hb hts hinX6 hown hK hP 0 rfl rfl 0 (by decide) hL7 (fun _ h9 => h9) rfl dX6_craneOf_80 ?_
            refine lv_bipush (v := 17) hx hb dX6_craneOf_83 (by decide) ?_
            refine lv_iload_n hx hb dX6_craneOf_85 rfl (lv_at hl 1 rfl) ?_
            refine lv_iadd hx hb dX6_craneOf_86 ?_
            refine lv_iconst (v := 3) hx hb dX6_craneOf_87 (by decide) ?_
            refine lv_isub hx hb dX6_craneOf_88 ?_
            obtain ⟨hi_11, h⟩ := h
            refine k_ald (f := (M 0)) (j := (((17 + x) - 3)).toNatClampNeg) (v := ((M 0) ((((17 + x) - 3)).toNatClampNeg))) hx hb hK hP 1 0 rfl rfl hi_11 rfl rfl dX6_craneOf_89 ?_
            exact W.iret (v := ((M 0) ((((17 + x) - 3)).toNatClampNeg))) hx hb hr (fun t ht hW => ⟨⟨((M 0) ((((17 + x) - 3)).toNatClampNeg)), (), rfl, h, by rw [ht]; exact hP, hD⟩, hS.F ht⟩) hS.2.2 dX6_craneOf_90
          · have h := h.2 c_10
            by_cases c_12 : x = 5
            · have h := h.1 c_12
              refine lv_tableIn (off := 78) (tgt := 79) hx hb dX6_craneOf_1 (by rw [c_12]; decide) (by rw [c_12]; decide) (by rw [c_12]; rfl) (by decide) ?_
              refine lv_aload_n hx hb dX6_craneOf_79 rfl (lv_at hl 0 rfl) ?_
              refine va_get (D := G) (ci := 6) (v := .ref (q 1)) (C := RX6) (T := TX6) (N := 11) hx hb hts hinX6 hown hK hP 0 rfl rfl 0 (by decide) hL7 (fun _ h9 => h9) rfl dX6_craneOf_80 ?_
              refine lv_bipush (v := 17) hx hb dX6_craneOf_83 (by decide) ?_
              refine lv_iload_n hx hb dX6_craneOf_85 rfl (lv_at hl 1 rfl) ?_
              refine lv_iadd hx hb dX6_craneOf_86 ?_
              refine lv_iconst (v := 3) hx hb dX6_craneOf_87 (by decide) ?_
              refine lv_isub hx hb dX6_craneOf_88 ?_
              obtain ⟨hi_13, h⟩ := h
              refine k_ald (f := (M 0)) (j := (((17 + x) - 3)).toNatClampNeg) (v := ((M 0) ((((17 + x) - 3)).toNatClampNeg))) hx hb hK hP 1 0 rfl rfl hi_13 rfl rfl dX6_craneOf_89 ?_
              exact W.iret (v := ((M 0) ((((17 + x) - 3)).toNatClampNeg))) hx hb hr (fun t ht hW => ⟨⟨((M 0) ((((17 + x) - 3)).toNatClampNeg)), (), rfl, h, by rw [ht]; exact hP, hD⟩, hS.F ht⟩) hS.2.2 dX6_craneOf_90
            · have h := h.2 c_12
              by_cases c_14 : x = 6
              · have h := h.1 c_14
                refine lv_tableIn (off := 90) (tgt := 91) hx hb dX6_craneOf_1 (by rw [c_14]; decide) (by rw [c_14]; decide) (by rw [c_14]; rfl) (by decide) ?_
                refine lv_aload_n hx hb dX6_craneOf_91 rfl (lv_at hl 0 rfl) ?_
                refine va_get (D := G) (ci := 6) (v := .ref (q 1)) (C := RX6) (T := TX6) (N := 11) hx hb hts hinX6 hown hK hP 0 rfl rfl 0 (by decide) hL7 (fun _ h9 => h9) rfl dX6_craneOf_92 ?_
                refine lv_bipush (v := 11) hx hb dX6_craneOf_95 (by decide) ?_
                refine k_ald (f := (M 0)) (j := 11) (v := ((M 0) 11)) hx hb hK hP 1 0 rfl rfl (show ¬ ((11 : Int32) < 0 ∨ 86 ≤ (11 : Int32).toNatClampNeg) by decide) rfl rfl dX6_craneOf_97 ?_
                exact W.iret (v := ((M 0) 11)) hx hb hr (fun t ht hW => ⟨⟨((M 0) 11), (), rfl, h, by rw [ht]; exact hP, hD⟩, hS.F ht⟩) hS.2.2 dX6_craneOf_98
              · have h := h.2 c_14
                have ho : (x).toInt < 0 ∨ 6 < (x).toInt := by
                  have n0 := sw_o (a := 0) c_1 (by decide)
                  have n1 := sw_o (a := 1) c_2 (by decide)
                  have n2 := sw_o (a := 2) c_5 (by decide)
                  have n3 := sw_o (a := 3) c_8 (by decide)
                  have n4 := sw_o (a := 4) c_10 (by decide)
                  have n5 := sw_o (a := 5) c_12 (by decide)
                  have n6 := sw_o (a := 6) c_14 (by decide)
                  omega
                refine lv_tableOut (tgt := 99) hx hb dX6_craneOf_1 ho (by decide) ?_
                refine lv_ldc hx hb hown (hts (.constant RX6 103 (-1000001)) (by decide +kernel)) dX6_craneOf_99 ?_
                exact W.iret (v := (-1000001)) hx hb hr (fun t ht hW => ⟨⟨(-1000001), (), rfl, h, by rw [ht]; exact hP, hD⟩, hS.F ht⟩) hS.2.2 dX6_craneOf_101
def q_X6_orderAt (x : Int32) (M : St) (Q : Int32 → Prop) : Prop :=
  (0 ≤ x → (((M 0) 10) ≤ x → Q (-1000004)) ∧ (¬ (((M 0) 10) ≤ x) → vp_in (20 + (2 * x)) 86 ∧ (Q ((M 0) (((20 + (2 * x))).toNatClampNeg))))) ∧ (¬ (0 ≤ x) → Q (-1000001))
set_option maxHeartbeats 4000000 in
set_option maxRecDepth 100000 in
theorem c_X6_orderAt (l : Launch) (G : va_G) (cI cC cD : ClassId) (q : Nat → Nat) (sz : Nat) (M : St) (x : Int32) (Q : Int32 → Prop) (h : q_X6_orderAt x M Q) : Met l yX6_orderAt wsX6_orderAt ({ frames := 0, cells := 0, slots := 0, locals := 0 }) (va_Pc [.ref (q 0), .int x] (PW G (ty3 cI cC cD) (wM cI q M) sz)) (va_Qi (fun (r : Int32) (_ : Unit) => Q r) (BW G (fun _ : Unit => (wM cI q M)) (va_A (wM cI q M) sz)) (va_A (wM cI q M) sz)) 0 0 (va_A (wM cI q M) sz) := by
  refine Met.ofW (cc := cX6_orderAt) (maxL := 2) (ret := (some .int)) (by decide) rfl ?_
  intro p e s m args below meth c s₁ B hml hv
  obtain ⟨rfl, hsz, hP, hK, hD0, hN⟩ := hv
  have hx := B.exec
  have hb := B.bytes
  have hr := B.returns
  have hts := atoms_spec (ws := wsX6_orderAt) B.pre
  have hown : s.vm.findClass RX6 = some m.cls := findClass_of_methodNamed B.named
  have hlocks := B.notSynchronized
  subst hsz
  have hD := hD0.self (sz := s.heap.size)
  generalize hAe : va_A (wM cI q M) s.heap.size = A at hD ⊢
  have hA : ∀ q : Nat, s.heap.size ≤ q → A q := fun q h => by rw [← hAe]; exact Or.inr h
  have hS : va_S A s.heap s.heap [] := va_S.rf
  have hl := lv_entry ([.ref (q 0), .int x]) (n := 2) (Nat.le_of_ble_eq_true rfl)
  rw [lg_entry_eq]
  generalize (lg_sl ([.ref (q 0), .int x]) ++ List.replicate (2 - (lg_sl ([.ref (q 0), .int x])).length) Slot.unset).toArray = ls at hl ⊢
  have hl : lv_has ls 2 [(0, .ref (q 0)), (1, .int x)] := hl
  have hinX6 : ∀ w ∈ wsX60, w ∈ wsX6_orderAt := by decide +kernel
  have hL7 := hts (.fieldLink RX6 7 "CraneGatesModel" "s" "[I") (by decide +kernel)
  unfold q_X6_orderAt at h
  refine lv_iload_n hx hb dX6_orderAt_0 rfl (lv_at hl 1 rfl) ?_
  refine lv_if_ge (tgt := 9) hx hb dX6_orderAt_1 (by decide) (fun c_1 => ?_) (fun c_1 => ?_)
  · have h := h.1 c_1
    refine lv_iload_n hx hb dX6_orderAt_9 rfl (lv_at hl 1 rfl) ?_
    refine lv_aload_n hx hb dX6_orderAt_10 rfl (lv_at hl 0 rfl) ?_
    refine va_get (D := G) (ci := 6) (v := .ref (q 1)) (C := RX6) (T := TX6) (N := 11) hx hb hts hinX6 hown hK hP 0 rfl rfl 0 (by decide) hL7 (fun _ h9 => h9) rfl dX6_orderAt_11 ?_
    refine lv_bipush (v := 10) hx hb dX6_orderAt_14 (by decide) ?_
    refine k_ald (f := (M 0)) (j := 10) (v := ((M 0) 10)) hx hb hK hP 1 0 rfl rfl (show ¬ ((10 : Int32) < 0 ∨ 86 ≤ (10 : Int32).toNatClampNeg) by decide) rfl rfl dX6_orderAt_16 ?_
    refine lv_icmp_ge (tgt := 34) hx hb dX6_orderAt_17 (by decide) (fun c_2 => ?_) (fun c_2 => ?_)
    · have h := h.1 c_2
      refine lv_ldc hx hb hown (hts (.constant RX6 40 (-1000004)) (by decide +kernel)) dX6_orderAt_34 ?_
      exact W.iret (v := (-1000004)) hx hb hr (fun t ht hW => ⟨⟨(-1000004), (), rfl, h, by rw [ht]; exact hP, hD⟩, hS.F ht⟩) hS.2.2 dX6_orderAt_36
    · have h := h.2 c_2
      refine lv_aload_n hx hb dX6_orderAt_20 rfl (lv_at hl 0 rfl) ?_
      refine va_get (D := G) (ci := 6) (v := .ref (q 1)) (C := RX6) (T := TX6) (N := 11) hx hb hts hinX6 hown hK hP 0 rfl rfl 0 (by decide) hL7 (fun _ h9 => h9) rfl dX6_orderAt_21 ?_
      refine lv_bipush (v := 20) hx hb dX6_orderAt_24 (by decide) ?_
      refine lv_iconst (v := 2) hx hb dX6_orderAt_26 (by decide) ?_
      refine lv_iload_n hx hb dX6_orderAt_27 rfl (lv_at hl 1 rfl) ?_
      refine lv_imul hx hb dX6_orderAt_28 ?_
      refine lv_iadd hx hb dX6_orderAt_29 ?_
      obtain ⟨hi_3, h⟩ := h
      refine k_ald (f := (M 0)) (j := ((20 + (2 * x))).toNatClampNeg) (v := ((M 0) (((20 + (2 * x))).toNatClampNeg))) hx hb hK hP 1 0 rfl rfl hi_3 rfl rfl dX6_orderAt_30 ?_
      refine lv_goto (tgt := 36) hx hb dX6_orderAt_31 (by decide) ?_
      exact W.iret (v := ((M 0) (((20 + (2 * x))).toNatClampNeg))) hx hb hr (fun t ht hW => ⟨⟨((M 0) (((20 + (2 * x))).toNatClampNeg)), (), rfl, h, by rw [ht]; exact hP, hD⟩, hS.F ht⟩) hS.2.2 dX6_orderAt_36
  · have h := h.2 c_1
    refine lv_ldc hx hb hown (hts (.constant RX6 103 (-1000001)) (by decide +kernel)) dX6_orderAt_4 ?_
    refine lv_goto (tgt := 36) hx hb dX6_orderAt_6 (by decide) ?_
    exact W.iret (v := (-1000001)) hx hb hr (fun t ht hW => ⟨⟨(-1000001), (), rfl, h, by rw [ht]; exact hP, hD⟩, hS.F ht⟩) hS.2.2 dX6_orderAt_36
def q_X6_markAt (x : Int32) (M : St) (Q : Int32 → Prop) : Prop :=
  (0 ≤ x → (((M 0) 11) ≤ x → Q (-1000004)) ∧ (¬ (((M 0) 11) ≤ x) → vp_in (36 + (2 * x)) 86 ∧ (Q ((M 0) (((36 + (2 * x))).toNatClampNeg))))) ∧ (¬ (0 ≤ x) → Q (-1000001))
set_option maxHeartbeats 4000000 in
set_option maxRecDepth 100000 in
theorem c_X6_markAt (l : Launch) (G : va_G) (cI cC cD : ClassId) (q : Nat → Nat) (sz : Nat) (M : St) (x : Int32) (Q : Int32 → Prop) (h : q_X6_markAt x M Q) : Met l yX6_markAt wsX6_markAt ({ frames := 0, cells := 0, slots := 0, locals := 0 }) (va_Pc [.ref (q 0), .int x] (PW G (ty3 cI cC cD) (wM cI q M) sz)) (va_Qi (fun (r : Int32) (_ : Unit) => Q r) (BW G (fun _ : Unit => (wM cI q M)) (va_A (wM cI q M) sz)) (va_A (wM cI q M) sz)) 0 0 (va_A (wM cI q M) sz) := by
  refine Met.ofW (cc := cX6_markAt) (maxL := 2) (ret := (some .int)) (by decide) rfl ?_
  intro p e s m args below meth c s₁ B hml hv
  obtain ⟨rfl, hsz, hP, hK, hD0, hN⟩ := hv
  have hx := B.exec
  have hb := B.bytes
  have hr := B.returns
  have hts := atoms_spec (ws := wsX6_markAt) B.pre
  have hown : s.vm.findClass RX6 = some m.cls := findClass_of_methodNamed B.named
  have hlocks := B.notSynchronized
  subst hsz
  have hD := hD0.self (sz := s.heap.size)
  generalize hAe : va_A (wM cI q M) s.heap.size = A at hD ⊢
  have hA : ∀ q : Nat, s.heap.size ≤ q → A q := fun q h => by rw [← hAe]; exact Or.inr h
  have hS : va_S A s.heap s.heap [] := va_S.rf
  have hl := lv_entry ([.ref (q 0), .int x]) (n := 2) (Nat.le_of_ble_eq_true rfl)
  rw [lg_entry_eq]
  generalize (lg_sl ([.ref (q 0), .int x]) ++ List.replicate (2 - (lg_sl ([.ref (q 0), .int x])).length) Slot.unset).toArray = ls at hl ⊢
  have hl : lv_has ls 2 [(0, .ref (q 0)), (1, .int x)] := hl
  have hinX6 : ∀ w ∈ wsX60, w ∈ wsX6_markAt := by decide +kernel
  have hL7 := hts (.fieldLink RX6 7 "CraneGatesModel" "s" "[I") (by decide +kernel)
  unfold q_X6_markAt at h
  refine lv_iload_n hx hb dX6_markAt_0 rfl (lv_at hl 1 rfl) ?_
  refine lv_if_ge (tgt := 9) hx hb dX6_markAt_1 (by decide) (fun c_1 => ?_) (fun c_1 => ?_)
  · have h := h.1 c_1
    refine lv_iload_n hx hb dX6_markAt_9 rfl (lv_at hl 1 rfl) ?_
    refine lv_aload_n hx hb dX6_markAt_10 rfl (lv_at hl 0 rfl) ?_
    refine va_get (D := G) (ci := 6) (v := .ref (q 1)) (C := RX6) (T := TX6) (N := 11) hx hb hts hinX6 hown hK hP 0 rfl rfl 0 (by decide) hL7 (fun _ h9 => h9) rfl dX6_markAt_11 ?_
    refine lv_bipush (v := 11) hx hb dX6_markAt_14 (by decide) ?_
    refine k_ald (f := (M 0)) (j := 11) (v := ((M 0) 11)) hx hb hK hP 1 0 rfl rfl (show ¬ ((11 : Int32) < 0 ∨ 86 ≤ (11 : Int32).toNatClampNeg) by decide) rfl rfl dX6_markAt_16 ?_
    refine lv_icmp_ge (tgt := 34) hx hb dX6_markAt_17 (by decide) (fun c_2 => ?_) (fun c_2 => ?_)
    · have h := h.1 c_2
      refine lv_ldc hx hb hown (hts (.constant RX6 40 (-1000004)) (by decide +kernel)) dX6_markAt_34 ?_
      exact W.iret (v := (-1000004)) hx hb hr (fun t ht hW => ⟨⟨(-1000004), (), rfl, h, by rw [ht]; exact hP, hD⟩, hS.F ht⟩) hS.2.2 dX6_markAt_36
    · have h := h.2 c_2
      refine lv_aload_n hx hb dX6_markAt_20 rfl (lv_at hl 0 rfl) ?_
      refine va_get (D := G) (ci := 6) (v := .ref (q 1)) (C := RX6) (T := TX6) (N := 11) hx hb hts hinX6 hown hK hP 0 rfl rfl 0 (by decide) hL7 (fun _ h9 => h9) rfl dX6_markAt_21 ?_
      refine lv_bipush (v := 36) hx hb dX6_markAt_24 (by decide) ?_
      refine lv_iconst (v := 2) hx hb dX6_markAt_26 (by decide) ?_
      refine lv_iload_n hx hb dX6_markAt_27 rfl (lv_at hl 1 rfl) ?_
      refine lv_imul hx hb dX6_markAt_28 ?_
      refine lv_iadd hx hb dX6_markAt_29 ?_
      obtain ⟨hi_3, h⟩ := h
      refine k_ald (f := (M 0)) (j := ((36 + (2 * x))).toNatClampNeg) (v := ((M 0) (((36 + (2 * x))).toNatClampNeg))) hx hb hK hP 1 0 rfl rfl hi_3 rfl rfl dX6_markAt_30 ?_
      refine lv_goto (tgt := 36) hx hb dX6_markAt_31 (by decide) ?_
      exact W.iret (v := ((M 0) (((36 + (2 * x))).toNatClampNeg))) hx hb hr (fun t ht hW => ⟨⟨((M 0) (((36 + (2 * x))).toNatClampNeg)), (), rfl, h, by rw [ht]; exact hP, hD⟩, hS.F ht⟩) hS.2.2 dX6_markAt_36
  · have h := h.2 c_1
    refine lv_ldc hx hb hown (hts (.constant RX6 103 (-1000001)) (by decide +kernel)) dX6_markAt_4 ?_
    refine lv_goto (tgt := 36) hx hb dX6_markAt_6 (by decide) ?_
    exact W.iret (v := (-1000001)) hx hb hr (fun t ht hW => ⟨⟨(-1000001), (), rfl, h, by rw [ht]; exact hP, hD⟩, hS.F ht⟩) hS.2.2 dX6_markAt_36
def q_X6_seen (x : Int32) (M : St) (Q : Int32 → Prop) : Prop :=
  (x = 0 → Q ((M 0) 4)) ∧ (¬ (x = 0) → (x = 1 → Q ((M 0) 6)) ∧ (¬ (x = 1) → (x = 2 → Q ((M 0) 11)) ∧ (¬ (x = 2) → (x = 3 → Q ((M 0) 10)) ∧ (¬ (x = 3) → (x = 4 → Q ((M 0) 9)) ∧ (¬ (x = 4) → q_X6_of (x - 10) 2 M (fun r_6 => Q r_6))))))
set_option maxHeartbeats 4000000 in
set_option maxRecDepth 100000 in
theorem c_X6_seen (l : Launch) (G : va_G) (cI cC cD : ClassId) (q : Nat → Nat) (sz : Nat) (M : St) (x : Int32) (Q : Int32 → Prop) (h : q_X6_seen x M Q) : Met l yX6_seen wsX6_seen ({ frames := 1, cells := 0, slots := 0, locals := 22 }) (va_Pc [.ref (q 0), .int x] (PW G (ty3 cI cC cD) (wM cI q M) sz)) (va_Qi (fun (r : Int32) (_ : Unit) => Q r) (BW G (fun _ : Unit => (wM cI q M)) (va_A (wM cI q M) sz)) (va_A (wM cI q M) sz)) 0 0 (va_A (wM cI q M) sz) := by
  refine Met.ofW (cc := cX6_seen) (maxL := 2) (ret := (some .int)) (by decide) rfl ?_
  intro p e s m args below meth c s₁ B hml hv
  obtain ⟨rfl, hsz, hP, hK, hD0, hN⟩ := hv
  have hx := B.exec
  have hb := B.bytes
  have hr := B.returns
  have hts := atoms_spec (ws := wsX6_seen) B.pre
  have hown : s.vm.findClass RX6 = some m.cls := findClass_of_methodNamed B.named
  have hlocks := B.notSynchronized
  subst hsz
  have hD := hD0.self (sz := s.heap.size)
  generalize hAe : va_A (wM cI q M) s.heap.size = A at hD ⊢
  have hA : ∀ q : Nat, s.heap.size ≤ q → A q := fun q h => by rw [← hAe]; exact Or.inr h
  have hS : va_S A s.heap s.heap [] := va_S.rf
  have hl := lv_entry ([.ref (q 0), .int x]) (n := 2) (Nat.le_of_ble_eq_true rfl)
  rw [lg_entry_eq]
  generalize (lg_sl ([.ref (q 0), .int x]) ++ List.replicate (2 - (lg_sl ([.ref (q 0), .int x])).length) Slot.unset).toArray = ls at hl ⊢
  have hl : lv_has ls 2 [(0, .ref (q 0)), (1, .int x)] := hl
  have hinX6 : ∀ w ∈ wsX60, w ∈ wsX6_seen := by decide +kernel
  have hL7 := hts (.fieldLink RX6 7 "CraneGatesModel" "s" "[I") (by decide +kernel)
  unfold q_X6_seen at h
  refine lv_iload_n hx hb dX6_seen_0 rfl (lv_at hl 1 rfl) ?_
  refine lv_if_ne (tgt := 13) hx hb dX6_seen_1 (by decide) (fun c_1 => ?_) (fun c_1 => ?_)
  · have h := h.2 c_1
    refine lv_iload_n hx hb dX6_seen_13 rfl (lv_at hl 1 rfl) ?_
    refine lv_iconst (v := 1) hx hb dX6_seen_14 (by decide) ?_
    refine lv_icmp_ne (tgt := 28) hx hb dX6_seen_15 (by decide) (fun c_2 => ?_) (fun c_2 => ?_)
    · have h := h.2 c_2
      refine lv_iload_n hx hb dX6_seen_28 rfl (lv_at hl 1 rfl) ?_
      refine lv_iconst (v := 2) hx hb dX6_seen_29 (by decide) ?_
      refine lv_icmp_ne (tgt := 43) hx hb dX6_seen_30 (by decide) (fun c_3 => ?_) (fun c_3 => ?_)
      · have h := h.2 c_3
        refine lv_iload_n hx hb dX6_seen_43 rfl (lv_at hl 1 rfl) ?_
        refine lv_iconst (v := 3) hx hb dX6_seen_44 (by decide) ?_
        refine lv_icmp_ne (tgt := 58) hx hb dX6_seen_45 (by decide) (fun c_4 => ?_) (fun c_4 => ?_)
        · have h := h.2 c_4
          refine lv_iload_n hx hb dX6_seen_58 rfl (lv_at hl 1 rfl) ?_
          refine lv_iconst (v := 4) hx hb dX6_seen_59 (by decide) ?_
          refine lv_icmp_ne (tgt := 73) hx hb dX6_seen_60 (by decide) (fun c_5 => ?_) (fun c_5 => ?_)
          · have h := h.2 c_5
            refine lv_aload_n hx hb dX6_seen_73 rfl (lv_at hl 0 rfl) ?_
            refine lv_iload_n hx hb dX6_seen_74 rfl (lv_at hl 1 rfl) ?_
            refine lv_bipush (v := 10) hx hb dX6_seen_75 (by decide) ?_
            refine lv_isub hx hb dX6_seen_77 ?_
            refine lv_iconst (v := 2) hx hb dX6_seen_78 (by decide) ?_
            refine kc_i (As := [.int (x - 10), .int 2]) (rest := []) (wg := (fun _ => (wM cI q M))) ⟨hx, hb, hml, hown, hts⟩ (c_X6_of l G cI cC cD q _ M (x - 10) 2 _ h) (cwV 2 hts gX6_seen_X6_of rfl rfl rfl (by decide +kernel) ⟨Nat.le_of_ble_eq_true rfl, Nat.le_of_ble_eq_true rfl⟩) hK hN hP hD hS hA (em_MM cI q M) (fun _ => rp_self (em_MM cI q M)) rfl rfl rfl rfl hl.1 rfl (Nat.le_of_ble_eq_true rfl) dX6_seen_79 ⟨Nat.zero_le _, Nat.zero_le _⟩ (fun r_6 _ H locs h hP hD hS => ?_)
            exact W.iret (v := r_6) hx hb hr (fun t ht hW => ⟨⟨r_6, (), rfl, h, by rw [ht]; exact hP, hD⟩, hS.F ht⟩) hS.2.2 dX6_seen_82
          · have h := h.1 c_5
            refine lv_aload_n hx hb dX6_seen_63 rfl (lv_at hl 0 rfl) ?_
            refine va_get (D := G) (ci := 6) (v := .ref (q 1)) (C := RX6) (T := TX6) (N := 11) hx hb hts hinX6 hown hK hP 0 rfl rfl 0 (by decide) hL7 (fun _ h9 => h9) rfl dX6_seen_64 ?_
            refine lv_bipush (v := 9) hx hb dX6_seen_67 (by decide) ?_
            refine k_ald (f := (M 0)) (j := 9) (v := ((M 0) 9)) hx hb hK hP 1 0 rfl rfl (show ¬ ((9 : Int32) < 0 ∨ 86 ≤ (9 : Int32).toNatClampNeg) by decide) rfl rfl dX6_seen_69 ?_
            refine lv_goto (tgt := 82) hx hb dX6_seen_70 (by decide) ?_
            exact W.iret (v := ((M 0) 9)) hx hb hr (fun t ht hW => ⟨⟨((M 0) 9), (), rfl, h, by rw [ht]; exact hP, hD⟩, hS.F ht⟩) hS.2.2 dX6_seen_82
        · have h := h.1 c_4
          refine lv_aload_n hx hb dX6_seen_48 rfl (lv_at hl 0 rfl) ?_
          refine va_get (D := G) (ci := 6) (v := .ref (q 1)) (C := RX6) (T := TX6) (N := 11) hx hb hts hinX6 hown hK hP 0 rfl rfl 0 (by decide) hL7 (fun _ h9 => h9) rfl dX6_seen_49 ?_
          refine lv_bipush (v := 10) hx hb dX6_seen_52 (by decide) ?_
          refine k_ald (f := (M 0)) (j := 10) (v := ((M 0) 10)) hx hb hK hP 1 0 rfl rfl (show ¬ ((10 : Int32) < 0 ∨ 86 ≤ (10 : Int32).toNatClampNeg) by decide) rfl rfl dX6_seen_54 ?_
          refine lv_goto (tgt := 82) hx hb dX6_seen_55 (by decide) ?_
          exact W.iret (v := ((M 0) 10)) hx hb hr (fun t ht hW => ⟨⟨((M 0) 10), (), rfl, h, by rw [ht]; exact hP, hD⟩, hS.F ht⟩) hS.2.2 dX6_seen_82
      · have h := h.1 c_3
        refine lv_aload_n hx hb dX6_seen_33 rfl (lv_at hl 0 rfl) ?_
        refine va_get (D := G) (ci := 6) (v := .ref (q 1)) (C := RX6) (T := TX6) (N := 11) hx hb hts hinX6 hown hK hP 0 rfl rfl 0 (by decide) hL7 (fun _ h9 => h9) rfl dX6_seen_34 ?_
        refine lv_bipush (v := 11) hx hb dX6_seen_37 (by decide) ?_
        refine k_ald (f := (M 0)) (j := 11) (v := ((M 0) 11)) hx hb hK hP 1 0 rfl rfl (show ¬ ((11 : Int32) < 0 ∨ 86 ≤ (11 : Int32).toNatClampNeg) by decide) rfl rfl dX6_seen_39 ?_
        refine lv_goto (tgt := 82) hx hb dX6_seen_40 (by decide) ?_
        exact W.iret (v := ((M 0) 11)) hx hb hr (fun t ht hW => ⟨⟨((M 0) 11), (), rfl, h, by rw [ht]; exact hP, hD⟩, hS.F ht⟩) hS.2.2 dX6_seen_82
    · have h := h.1 c_2
      refine lv_aload_n hx hb dX6_seen_18 rfl (lv_at hl 0 rfl) ?_
      refine va_get (D := G) (ci := 6) (v := .ref (q 1)) (C := RX6) (T := TX6) (N := 11) hx hb hts hinX6 hown hK hP 0 rfl rfl 0 (by decide) hL7 (fun _ h9 => h9) rfl dX6_seen_19 ?_
      refine lv_bipush (v := 6) hx hb dX6_seen_22 (by decide) ?_
      refine k_ald (f := (M 0)) (j := 6) (v := ((M 0) 6)) hx hb hK hP 1 0 rfl rfl (show ¬ ((6 : Int32) < 0 ∨ 86 ≤ (6 : Int32).toNatClampNeg) by decide) rfl rfl dX6_seen_24 ?_
      refine lv_goto (tgt := 82) hx hb dX6_seen_25 (by decide) ?_
      exact W.iret (v := ((M 0) 6)) hx hb hr (fun t ht hW => ⟨⟨((M 0) 6), (), rfl, h, by rw [ht]; exact hP, hD⟩, hS.F ht⟩) hS.2.2 dX6_seen_82
  · have h := h.1 c_1
    refine lv_aload_n hx hb dX6_seen_4 rfl (lv_at hl 0 rfl) ?_
    refine va_get (D := G) (ci := 6) (v := .ref (q 1)) (C := RX6) (T := TX6) (N := 11) hx hb hts hinX6 hown hK hP 0 rfl rfl 0 (by decide) hL7 (fun _ h9 => h9) rfl dX6_seen_5 ?_
    refine lv_iconst (v := 4) hx hb dX6_seen_8 (by decide) ?_
    refine k_ald (f := (M 0)) (j := 4) (v := ((M 0) 4)) hx hb hK hP 1 0 rfl rfl (show ¬ ((4 : Int32) < 0 ∨ 86 ≤ (4 : Int32).toNatClampNeg) by decide) rfl rfl dX6_seen_9 ?_
    refine lv_goto (tgt := 82) hx hb dX6_seen_10 (by decide) ?_
    exact W.iret (v := ((M 0) 4)) hx hb hr (fun t ht hW => ⟨⟨((M 0) 4), (), rfl, h, by rw [ht]; exact hP, hD⟩, hS.F ht⟩) hS.2.2 dX6_seen_82
