/-! The law: its calls, its loop, its beginning. -/
theorem app_sub {G : va_G} {cl : List vw_C} {P wc : va_W} {H : Heap} (hP : va_P G cl (P ++ wc) H) : va_P G cl wc H := by
  intro k q hk
  refine hP (P.length + k) q ?_
  rw [List.getElem?_append_right (Nat.le_add_right _ _), Nat.add_sub_cancel_left]
  exact hk
theorem app_subD {A : Nat → Prop} {P wc : va_W} (hD : va_D A (P ++ wc)) : va_D A wc := by
  have key : ∀ (k : Nat) (q : Nat × va_E), wc[k]? = some q → (P ++ wc)[P.length + k]? = some q := by
    intro k q hk
    rw [List.getElem?_append_right (Nat.le_add_right _ _), Nat.add_sub_cancel_left]
    exact hk
  refine ⟨fun i j x y hi hj hxy => ?_, fun k q hk => hD.2 _ q (key k q hk)⟩
  have := hD.1 _ _ x y (key i x hi) (key j y hj) hxy
  omega
theorem app_back {A : Nat → Prop} {G : va_G} {cl : List vw_C} {P wc w1 : va_W} {H H1 : Heap} (hP : va_P G cl (P ++ wc) H) (hD : va_D A (P ++ wc)) (hk : ∀ q : Nat, q < H.size → ¬ va_A wc H.size q → H1[q]? = H[q]?) (hF : ∀ q, va_A wc H.size q → A q) (hP1 : va_P G cl w1 H1) (hD1 : va_D (va_A wc H.size) w1) : va_P G cl (P ++ w1) H1 ∧ va_D A (P ++ w1) := by
  have keyP : ∀ (k : Nat) (q : Nat × va_E), P[k]? = some q → (P ++ wc)[k]? = some q := by
    intro k q hk
    rw [List.getElem?_append_left (List.getElem?_eq_some_iff.mp hk).1]
    exact hk
  have keyC : ∀ (k : Nat) (q : Nat × va_E), wc[k]? = some q → (P ++ wc)[P.length + k]? = some q := by
    intro k q hk
    rw [List.getElem?_append_right (Nat.le_add_right _ _), Nat.add_sub_cancel_left]
    exact hk
  have apart : ∀ (k : Nat) (q : Nat × va_E), P[k]? = some q → q.1 < H.size ∧ ¬ va_A wc H.size q.1 := by
    intro k q hq
    have hl := (hP k q (keyP k q hq)).lt
    refine ⟨hl, fun h => ?_⟩
    rcases h with ⟨k2, e, h⟩ | h
    · have h1 := hD.1 _ _ q (q.1, e) (keyP k q hq) (keyC k2 _ h) rfl
      have h2 := (List.getElem?_eq_some_iff.mp hq).1
      omega
    · omega
  refine ⟨va_P.app (fun k q hq => ?_) hP1, va_D.app ⟨fun i j x y hi hj hxy => hD.1 i j x y (keyP i x hi) (keyP j y hj) hxy, fun k q hq => hD.2 k q (keyP k q hq)⟩ (hD1.weaken (fun k q _ h => hF q.1 h)) (fun i j x y hx hy hxy => ?_)⟩
  · obtain ⟨g1, g2⟩ := apart k q hq
    exact (hP k q (keyP k q hq)).kept (hk q.1 g1 g2)
  · exact (apart i x hx).2 (by rw [hxy]; exact hD1.2 j y hy)
section KL
variable {p : Program} {l : Launch} {e : Env} {R : Room} {s : State} {m : MethodId} {args : Array Value} {below : List Frame} {meth : Method} {c : Code} {H : Heap} {locs : List Loc} {cells slots : Nat} {Q : State → Prop}
variable {cc bytes : ByteArray} {nL maxL index n pc : Nat} {own C : String} {y : MethodName} {ret : Option FieldType} {rm : Room} {Ts ws0 : List Cond} {ls : Array Slot} {st rest As : List Value} {b : Nat} {G : va_G} {tys : List (ClassId × FieldType)} {A : Nat → Prop} {H0 : Heap} {P wc : va_W}
/-- a call that sees the hind part of the world -/
theorem kl_i {S : Type} {post : Int32 → S → Prop} {wf : S → va_W} (Sx : CallFix p m c cc nL s args Ts own) (hM : Met l y ws0 rm (va_Pc (.ref b :: As) (PW G tys wc H.size)) (va_Qi post (BW G wf (va_A wc H.size)) (va_A wc H.size)) 0 0 (va_A wc H.size)) (cw : CallW R s args own C index y bytes maxL ret ws0 rm 0 0 n)
    (hK : va_K G vwCl tys s) (hN : nW s) (hP : va_P G vwCl (P ++ wc) H) (hD : va_D A (P ++ wc)) (hS : va_S A H0 H locs) (hA : ∀ q, H0.size ≤ q → A q) {ci : Nat} {qC : vw_C} (hc : vwCl[ci]? = some qC) (hC : qC.1 = C) {fs : List Value} (hb0 : wc[0]? = some (b, .inr (ci, fs)))
    (hn : As.length = n) (hsize : ls.size = nL) (hstack : st = As.reverse ++ .ref b :: rest) (hW : (rest.map fun v => v.category).sum ≤ 8) (hdg : decode cc pc = .ok (.invokevirtual index, 3)) (hf : cells + 0 ≤ R.cells ∧ slots + 0 ≤ R.slots)
    (kk : ∀ (r : Int32) (u : S) (H1 : Heap) (locs1 : List Loc), post r u → va_P G vwCl (P ++ wf u) H1 → va_D A (P ++ wf u) → va_S A H0 H1 locs1 → W p l e R s m args below meth c H1 locs1 cells slots Q (F0 m (pc + 3) ls (.int r :: rest))) : W p l e R s m args below meth c H locs cells slots Q (F0 m pc ls st) := by
  have hPc := app_sub hP
  have hDc := app_subD hD
  have hFc : ∀ q, va_A wc H.size q → A q := fun q h => by
    rcases h with ⟨k, e, h⟩ | h
    · exact hDc.2 k _ h
    · exact hA q (Nat.le_trans hS.1 h)
  subst hC
  refine va_calli (va_runV (As := As) (rest := rest) Sx hM cw ⟨PW_blind, va_recv hK hPc hc hb0, PW_in hPc hK hN hDc⟩ rfl hn hsize hstack (lv_room hW) hdg hf) hS (fun q _ h => hFc q h) hFc (fun r u t H1 locs ht hvm hw hB hz1 hk1 hS => ?_)
  obtain ⟨hP1, hD1⟩ := hB
  rw [ht] at hP1
  obtain ⟨hP2, hD2⟩ := app_back hP hD hk1 hFc hP1 hD1
  exact kk r u H1 locs hw hP2 hD2 hS
end KL
theorem em_MA (cI : ClassId) (q : Nat → Nat) (Md : St) (B : va_W) : Em (wM cI q Md ++ B) (wM cI q Md) [0, 1, 2, 3, 4, 5, 6] := em_head (wM cI q Md) B (n := 7) rfl (by decide)
theorem rp_MA (cI : ClassId) (q : Nat → Nat) (Md u : St) (B : va_W) : Rp (wM cI q Md ++ B) (wM cI q u) (wM cI q u ++ B) [0, 1, 2, 3, 4, 5, 6] := rp_head (wM cI q Md) (wM cI q u) B (n := 7) rfl rfl
/-- one round of the law: the call that k tells, on both sides; equal answers, and J of the states behind it -/
def q_step (k a b : Int32) (X : Nat → St) (Md : St) (J : (Nat → St) → St → Prop) : Prop :=
  (k = 0 → q_X5_gate a b X (fun r X1 => q_X6_gate a b Md (fun r1 M1 => r = r1 ∧ J X1 M1))) ∧
  (k = 1 → q_X5_order a b X (fun r X1 => q_X6_order a b Md (fun r1 M1 => r = r1 ∧ J X1 M1))) ∧
  (k = 2 → q_X5_cancel a X (fun r X1 => q_X6_cancel a Md (fun r1 M1 => r = r1 ∧ J X1 M1))) ∧
  (k = 3 → q_X5_inflow a X (fun r X1 => q_X6_inflow a Md (fun r1 M1 => r = r1 ∧ J X1 M1))) ∧
  (k = 4 → q_X5_fill a X (fun r X1 => q_X6_fill a Md (fun r1 M1 => r = r1 ∧ J X1 M1))) ∧
  (k = 5 → q_X5_set a b X (fun r X1 => q_X6_set a b Md (fun r1 M1 => r = r1 ∧ J X1 M1))) ∧
  (k = 6 → q_X5_pass a X (fun r X1 => q_X6_pass a Md (fun r1 M1 => r = r1 ∧ J X1 M1))) ∧
  (k = 7 → q_X5_gateOf a b X (fun r => q_X6_gateOf a b Md (fun r1 => r = r1 ∧ J X Md))) ∧
  (k = 8 → q_X5_craneOf a X (fun r => q_X6_craneOf a Md (fun r1 => r = r1 ∧ J X Md))) ∧
  (k = 9 → q_X5_orderAt a X (fun r => q_X6_orderAt a Md (fun r1 => r = r1 ∧ J X Md))) ∧
  (k = 10 → q_X5_markAt a X (fun r => q_X6_markAt a Md (fun r1 => r = r1 ∧ J X Md))) ∧
  (k = 11 → q_X5_would a b X (fun r X1 => q_X6_would a b Md (fun r1 M1 => r = r1 ∧ J X1 M1))) ∧
  (k = 12 → q_X5_minutesUntil a b X (fun r X1 => q_X6_minutesUntil a b Md (fun r1 M1 => r = r1 ∧ J X1 M1))) ∧
  (k = 13 → q_X5_minutesToRest  X (fun r X1 => q_X6_minutesToRest  Md (fun r1 M1 => r = r1 ∧ J X1 M1))) ∧
  (k = 14 → q_X5_bestRule a X (fun r X1 => q_X6_bestRule a Md (fun r1 M1 => r = r1 ∧ J X1 M1))) ∧
  (k = 15 → q_X5_leastFlood a X (fun r X1 => q_X6_leastFlood a Md (fun r1 M1 => r = r1 ∧ J X1 M1))) ∧
  (k = 16 → q_X5_count a X (fun r => q_X6_count a Md (fun r1 => r = r1 ∧ J X Md))) ∧
  (k = 17 → q_X5_undo  X (fun r X1 => q_X6_undo  Md (fun r1 M1 => r = r1 ∧ J X1 M1))) ∧
  (k = 18 → q_X5_type a X (fun r X1 => q_X6_type a Md (fun r1 M1 => r = r1 ∧ J X1 M1))) ∧
  (k = 19 → q_X5_clearText  X (fun r X1 => q_X6_clearText  Md (fun r1 M1 => r = r1 ∧ J X1 M1))) ∧
  (k = 20 → q_X5_fault a X (fun r X1 => q_X6_fault a Md (fun r1 M1 => r = r1 ∧ J X1 M1))) ∧
  (k = 21 → q_X5_play  X (fun r X1 => q_X6_play  Md (fun r1 M1 => r = r1 ∧ J X1 M1)))
theorem app_swap {A : Nat → Prop} {G : va_G} {cl : List vw_C} (B C : va_W) {H : Heap} (hP : va_P G cl (B ++ C) H) (hD : va_D A (B ++ C)) : va_P G cl (C ++ B) H ∧ va_D A (C ++ B) := by
  have keyB : ∀ (k : Nat) (q : Nat × va_E), B[k]? = some q → (B ++ C)[k]? = some q := by
    intro k q hk
    rw [List.getElem?_append_left (List.getElem?_eq_some_iff.mp hk).1]
    exact hk
  have keyC : ∀ (k : Nat) (q : Nat × va_E), C[k]? = some q → (B ++ C)[B.length + k]? = some q := by
    intro k q hk
    rw [List.getElem?_append_right (Nat.le_add_right _ _), Nat.add_sub_cancel_left]
    exact hk
  refine ⟨va_P.app (app_sub hP) (fun k q hk => hP k q (keyB k q hk)), va_D.app (app_subD hD) ⟨fun i j x y hi hj hxy => hD.1 i j x y (keyB i x hi) (keyB j y hj) hxy, fun k q hk => hD.2 k q (keyB k q hk)⟩ (fun i j x y hx hy hxy => ?_)⟩
  have h1 := hD.1 _ _ y x (keyB j y hy) (keyC i x hx) hxy.symm
  have h2 := (List.getElem?_eq_some_iff.mp hy).1
  omega
set_option maxHeartbeats 8000000 in
set_option maxRecDepth 100000 in
theorem law_loop {p : Program} {l : Launch} {e : Env} {s : State} {m : MethodId} {below : List Frame} {meth : Method} {c : Code} {G : va_G} {cI cC cD : ClassId} {b L : Nat} {xs : Nat → Int32} (hL : L ≤ 1536) (C0 : lw_At p s m meth c b L xs) (hK : va_K G vwCl (ty3 cI cC cD) s) (hN : nW s) (J : (Nat → St) → St → Prop) (hJ : ∀ X Md, J X Md → ∀ k a b : Int32, q_step k a b X Md J) :
    ∀ (n i : Nat), i ≤ L → L + 1 ≤ i + n → ∀ (X : Nat → St) (Md : St), J X Md → ∀ (ad : Nat → Nat → Nat) (rf : Nat → Option Nat), rfOk ad rf → ∀ (q : Nat → Nat) (H : Heap) (locs : List Loc), va_P G vwCl (wM cI q Md ++ wA cI cC cD ad X rf) H → va_D (fun q : Nat => s.heap.size ≤ q) (wM cI q Md ++ wA cI cC cD ad X rf) → va_S (fun q : Nat => s.heap.size ≤ q) s.heap H locs → ∀ (ls : Array Slot), lv_has ls 4 [(3, .int (nI i)), (2, .ref (q 0)), (1, .ref (ad 0 0)), (0, .ref b)] → W p l e room_1 s m #[Value.ref b] below meth c H locs 600000 7302250 (lw_Z below #[Value.ref b] s) (F0 m 18 ls []) := by
  obtain ⟨hx, hb, hr, hml, hown, hts, hX, hbl, hlocks, hgv⟩ := C0
  have hts := fun w h => hts w (wsL_law_in w h)
  have hA : ∀ q : Nat, s.heap.size ≤ q → (fun q : Nat => s.heap.size ≤ q) q := fun _ h => h
  have hbA : ¬ (fun q : Nat => s.heap.size ≤ q) b := Nat.not_le.mpr hbl
  intro n
  induction n with
  | zero =>
    intro i h1 h2
    exact absurd h2 (by omega)
  | succ n ih =>
    intro i hi hin X Md hJX ad rf hrf q H locs hP hD hS ls hl
    refine lv_iload_n hx hb dL_law_18 rfl (lv_at hl 0 rfl) ?_
    refine lv_aload_n hx hb dL_law_19 rfl (lv_at hl 3 rfl) ?_
    refine va_slen hx hb hX hbl hbA hS dL_law_20 ?_
    refine lv_iconst (v := 3) hx hb dL_law_21 (by decide) ?_
    refine lv_isub hx hb dL_law_22 ?_
    refine lv_icmp_gt (tgt := 668) hx hb dL_law_23 (by decide) (fun c_0 => ?_) (fun c_0 => ?_)
    · refine lv_iconst (v := 1) hx hb dL_law_668 (by decide) ?_
      refine va_forget (fun q hq => hS.2.2 q hq) ?_
      exact lw_ret hx hb hr hlocks dL_law_669
    have h3 : i + 3 ≤ L := by
      have h4 : ¬ (nI L - nI 3 < nI i) := c_0
      rw [Int32.lt_iff_toInt_lt, pk_sub_toInt (by omega) (by omega), nI_toInt (by omega)] at h4
      omega
    have n0 : vp_in (nI i) L := vp_in_nI (by omega) (by omega)
    have n1 : vp_in (nI i + 1) L := by rw [nI_1]; exact vp_in_nI (by omega) (by omega)
    have n2 : vp_in (nI i + 2) L := by rw [show nI i + 2 = nI (i + 2) from nI_add i 2]; exact vp_in_nI (by omega) (by omega)
    refine lv_aload_n hx hb dL_law_26 rfl (lv_at hl 3 rfl) ?_
    refine lv_iload_n hx hb dL_law_27 rfl (lv_at hl 0 rfl) ?_
    refine va_sld hx hb hX hbl hbA hS n0 dL_law_28 ?_
    refine lv_bipush (v := 31) hx hb dL_law_29 (by decide) ?_
    refine lv_iand hx hb dL_law_31 ?_
    have hgo : ∀ (X : Nat → St) (Md : St), J X Md → ∀ (ad : Nat → Nat → Nat) (rf : Nat → Option Nat), rfOk ad rf → ∀ (q : Nat → Nat) (H : Heap) (locs : List Loc), va_P G vwCl (wM cI q Md ++ wA cI cC cD ad X rf) H → va_D (fun q : Nat => s.heap.size ≤ q) (wM cI q Md ++ wA cI cC cD ad X rf) → va_S (fun q : Nat => s.heap.size ≤ q) s.heap H locs → ∀ (ls : Array Slot), lv_has ls 4 [(3, .int (nI i)), (2, .ref (q 0)), (1, .ref (ad 0 0)), (0, .ref b)] → W p l e room_1 s m #[Value.ref b] below meth c H locs 600000 7302250 (lw_Z below #[Value.ref b] s) (F0 m 662 ls []) := by
      intro X Md hJX ad rf hrf q H locs hP hD hS ls hl
      refine lv_iinc (v := nI (i + 3)) (lv' := [(3, .int (nI (i + 3))), (2, .ref (q 0)), (1, .ref (ad 0 0)), (0, .ref b)]) hx hb dL_law_662 hl (k := 0) rfl (nI_add i 3) (by decide) rfl (fun ls hl => ?_)
      refine lv_goto (tgt := 18) hx hb dL_law_665 (by decide) ?_
      exact ih (i + 3) h3 (by omega) X Md hJX ad rf hrf q H locs hP hD hS ls hl
    have hq := hJ X Md hJX (xs (nI i).toNatClampNeg &&& 31) (xs (nI i + 1).toNatClampNeg) (xs (nI i + 2).toNatClampNeg)
    generalize xs (nI i).toNatClampNeg &&& 31 = x at hq ⊢
    generalize hv1 : xs (nI i + 1).toNatClampNeg = a at hq
    generalize hv2 : xs (nI i + 2).toNatClampNeg = b2 at hq
    obtain ⟨h0, h1, h2, h3, h4, h5, h6, h7, h8, h9, h10, h11, h12, h13, h14, h15, h16, h17, h18, h19, h20, h21⟩ := hq
    by_cases c0 : x = 0
    · have h := h0 c0
      refine lv_tableIn (off := 104) (tgt := 136) hx hb dL_law_32 (by rw [c0]; decide) (by rw [c0]; decide) (by rw [c0]; rfl) (by decide) ?_
      refine lv_aload_n hx hb dL_law_136 rfl (lv_at hl 2 rfl) ?_
      refine lv_aload_n hx hb dL_law_137 rfl (lv_at hl 3 rfl) ?_
      refine lv_iload_n hx hb dL_law_138 rfl (lv_at hl 0 rfl) ?_
      refine lv_iconst (v := 1) hx hb dL_law_139 (by decide) ?_
      refine lv_iadd hx hb dL_law_140 ?_
      refine va_sld hx hb hX hbl hbA hS n1 dL_law_141 ?_
      rw [hv1]
      refine lv_aload_n hx hb dL_law_142 rfl (lv_at hl 3 rfl) ?_
      refine lv_iload_n hx hb dL_law_143 rfl (lv_at hl 0 rfl) ?_
      refine lv_iconst (v := 2) hx hb dL_law_144 (by decide) ?_
      refine lv_iadd hx hb dL_law_145 ?_
      refine va_sld hx hb hX hbl hbA hS n2 dL_law_146 ?_
      rw [hv2]
      refine kl_i (P := wM cI q Md) (As := [.int a, .int b2]) (rest := []) ⟨hx, hb, hml, hown, hts⟩ (c_X5_gate l G cI cC cD ad rf hrf _ X a b2 _ h) (cwV 2 hts gL_law_X5_gate rfl rfl rfl (by decide +kernel) ⟨Nat.le_of_ble_eq_true rfl, Nat.le_of_ble_eq_true rfl⟩) hK hN hP hD hS hA rfl rfl rfl rfl hl.1 rfl (Nat.le_of_ble_eq_true rfl) dL_law_147 ⟨Nat.le_refl _, Nat.le_refl _⟩ (fun r Xu H locs h hP hD hS => ?_)
      obtain ⟨X, ad1, rf⟩ := Xu
      obtain ⟨h, hok⟩ := h
      have hrf := hok.2.2.2
      have hl : lv_has ls 4 [(3, .int (nI i)), (2, .ref (q 0)), (1, .ref (ad1 0 0)), (0, .ref b)] := by rw [show ad1 0 0 = ad 0 0 from congrFun hok.1 0]; exact hl
      dsimp only at h hP hD hrf
      refine lv_aload_n hx hb dL_law_150 rfl (lv_at hl 1 rfl) ?_
      refine lv_aload_n hx hb dL_law_151 rfl (lv_at hl 3 rfl) ?_
      refine lv_iload_n hx hb dL_law_152 rfl (lv_at hl 0 rfl) ?_
      refine lv_iconst (v := 1) hx hb dL_law_153 (by decide) ?_
      refine lv_iadd hx hb dL_law_154 ?_
      refine va_sld hx hb hX hbl hbA hS n1 dL_law_155 ?_
      rw [hv1]
      refine lv_aload_n hx hb dL_law_156 rfl (lv_at hl 3 rfl) ?_
      refine lv_iload_n hx hb dL_law_157 rfl (lv_at hl 0 rfl) ?_
      refine lv_iconst (v := 2) hx hb dL_law_158 (by decide) ?_
      refine lv_iadd hx hb dL_law_159 ?_
      refine va_sld hx hb hX hbl hbA hS n2 dL_law_160 ?_
      rw [hv2]
      refine kc_i (As := [.int a, .int b2]) (rest := [.int r]) (wg := (fun u => (wM cI q u ++ wA cI cC cD ad1 X rf))) ⟨hx, hb, hml, hown, hts⟩ (c_X6_gate l G cI cC cD q _ Md a b2 _ h) (cwV 2 hts gL_law_X6_gate rfl rfl rfl (by decide +kernel) ⟨Nat.le_of_ble_eq_true rfl, Nat.le_of_ble_eq_true rfl⟩) hK hN hP hD hS hA (em_MA cI q Md _) (fun u => rp_MA cI q Md u _) rfl rfl rfl rfl hl.1 rfl (Nat.le_of_ble_eq_true rfl) dL_law_161 ⟨Nat.le_refl _, Nat.le_refl _⟩ (fun r1 M1 H locs h hP hD hS => ?_)
      refine lv_icmp_eq (tgt := 662) hx hb dL_law_164 (by decide) (fun _ => ?_) (fun cc => absurd h.1 cc)
      exact hgo X M1 h.2 ad1 rf hrf q H locs hP hD hS ls hl
    by_cases c1 : x = 1
    · have h := h1 c1
      refine lv_tableIn (off := 137) (tgt := 169) hx hb dL_law_32 (by rw [c1]; decide) (by rw [c1]; decide) (by rw [c1]; rfl) (by decide) ?_
      refine lv_aload_n hx hb dL_law_169 rfl (lv_at hl 2 rfl) ?_
      refine lv_aload_n hx hb dL_law_170 rfl (lv_at hl 3 rfl) ?_
      refine lv_iload_n hx hb dL_law_171 rfl (lv_at hl 0 rfl) ?_
      refine lv_iconst (v := 1) hx hb dL_law_172 (by decide) ?_
      refine lv_iadd hx hb dL_law_173 ?_
      refine va_sld hx hb hX hbl hbA hS n1 dL_law_174 ?_
      rw [hv1]
      refine lv_aload_n hx hb dL_law_175 rfl (lv_at hl 3 rfl) ?_
      refine lv_iload_n hx hb dL_law_176 rfl (lv_at hl 0 rfl) ?_
      refine lv_iconst (v := 2) hx hb dL_law_177 (by decide) ?_
      refine lv_iadd hx hb dL_law_178 ?_
      refine va_sld hx hb hX hbl hbA hS n2 dL_law_179 ?_
      rw [hv2]
      refine kl_i (P := wM cI q Md) (As := [.int a, .int b2]) (rest := []) ⟨hx, hb, hml, hown, hts⟩ (c_X5_order l G cI cC cD ad rf hrf _ X a b2 _ h) (cwV 2 hts gL_law_X5_order rfl rfl rfl (by decide +kernel) ⟨Nat.le_of_ble_eq_true rfl, Nat.le_of_ble_eq_true rfl⟩) hK hN hP hD hS hA rfl rfl rfl rfl hl.1 rfl (Nat.le_of_ble_eq_true rfl) dL_law_180 ⟨Nat.le_refl _, Nat.le_refl _⟩ (fun r Xu H locs h hP hD hS => ?_)
      obtain ⟨X, ad1, rf⟩ := Xu
      obtain ⟨h, hok⟩ := h
      have hrf := hok.2.2.2
      have hl : lv_has ls 4 [(3, .int (nI i)), (2, .ref (q 0)), (1, .ref (ad1 0 0)), (0, .ref b)] := by rw [show ad1 0 0 = ad 0 0 from congrFun hok.1 0]; exact hl
      dsimp only at h hP hD hrf
      refine lv_aload_n hx hb dL_law_183 rfl (lv_at hl 1 rfl) ?_
      refine lv_aload_n hx hb dL_law_184 rfl (lv_at hl 3 rfl) ?_
      refine lv_iload_n hx hb dL_law_185 rfl (lv_at hl 0 rfl) ?_
      refine lv_iconst (v := 1) hx hb dL_law_186 (by decide) ?_
      refine lv_iadd hx hb dL_law_187 ?_
      refine va_sld hx hb hX hbl hbA hS n1 dL_law_188 ?_
      rw [hv1]
      refine lv_aload_n hx hb dL_law_189 rfl (lv_at hl 3 rfl) ?_
      refine lv_iload_n hx hb dL_law_190 rfl (lv_at hl 0 rfl) ?_
      refine lv_iconst (v := 2) hx hb dL_law_191 (by decide) ?_
      refine lv_iadd hx hb dL_law_192 ?_
      refine va_sld hx hb hX hbl hbA hS n2 dL_law_193 ?_
      rw [hv2]
      refine kc_i (As := [.int a, .int b2]) (rest := [.int r]) (wg := (fun u => (wM cI q u ++ wA cI cC cD ad1 X rf))) ⟨hx, hb, hml, hown, hts⟩ (c_X6_order l G cI cC cD q _ Md a b2 _ h) (cwV 2 hts gL_law_X6_order rfl rfl rfl (by decide +kernel) ⟨Nat.le_of_ble_eq_true rfl, Nat.le_of_ble_eq_true rfl⟩) hK hN hP hD hS hA (em_MA cI q Md _) (fun u => rp_MA cI q Md u _) rfl rfl rfl rfl hl.1 rfl (Nat.le_of_ble_eq_true rfl) dL_law_194 ⟨Nat.le_refl _, Nat.le_refl _⟩ (fun r1 M1 H locs h hP hD hS => ?_)
      refine lv_icmp_eq (tgt := 662) hx hb dL_law_197 (by decide) (fun _ => ?_) (fun cc => absurd h.1 cc)
      exact hgo X M1 h.2 ad1 rf hrf q H locs hP hD hS ls hl
    by_cases c2 : x = 2
    · have h := h2 c2
      refine lv_tableIn (off := 170) (tgt := 202) hx hb dL_law_32 (by rw [c2]; decide) (by rw [c2]; decide) (by rw [c2]; rfl) (by decide) ?_
      refine lv_aload_n hx hb dL_law_202 rfl (lv_at hl 2 rfl) ?_
      refine lv_aload_n hx hb dL_law_203 rfl (lv_at hl 3 rfl) ?_
      refine lv_iload_n hx hb dL_law_204 rfl (lv_at hl 0 rfl) ?_
      refine lv_iconst (v := 1) hx hb dL_law_205 (by decide) ?_
      refine lv_iadd hx hb dL_law_206 ?_
      refine va_sld hx hb hX hbl hbA hS n1 dL_law_207 ?_
      rw [hv1]
      refine kl_i (P := wM cI q Md) (As := [.int a]) (rest := []) ⟨hx, hb, hml, hown, hts⟩ (c_X5_cancel l G cI cC cD ad rf hrf _ X a _ h) (cwV 1 hts gL_law_X5_cancel rfl rfl rfl (by decide +kernel) ⟨Nat.le_of_ble_eq_true rfl, Nat.le_of_ble_eq_true rfl⟩) hK hN hP hD hS hA rfl rfl rfl rfl hl.1 rfl (Nat.le_of_ble_eq_true rfl) dL_law_208 ⟨Nat.le_refl _, Nat.le_refl _⟩ (fun r Xu H locs h hP hD hS => ?_)
      obtain ⟨X, ad1, rf⟩ := Xu
      obtain ⟨h, hok⟩ := h
      have hrf := hok.2.2.2
      have hl : lv_has ls 4 [(3, .int (nI i)), (2, .ref (q 0)), (1, .ref (ad1 0 0)), (0, .ref b)] := by rw [show ad1 0 0 = ad 0 0 from congrFun hok.1 0]; exact hl
      dsimp only at h hP hD hrf
      refine lv_aload_n hx hb dL_law_211 rfl (lv_at hl 1 rfl) ?_
      refine lv_aload_n hx hb dL_law_212 rfl (lv_at hl 3 rfl) ?_
      refine lv_iload_n hx hb dL_law_213 rfl (lv_at hl 0 rfl) ?_
      refine lv_iconst (v := 1) hx hb dL_law_214 (by decide) ?_
      refine lv_iadd hx hb dL_law_215 ?_
      refine va_sld hx hb hX hbl hbA hS n1 dL_law_216 ?_
      rw [hv1]
      refine kc_i (As := [.int a]) (rest := [.int r]) (wg := (fun u => (wM cI q u ++ wA cI cC cD ad1 X rf))) ⟨hx, hb, hml, hown, hts⟩ (c_X6_cancel l G cI cC cD q _ Md a _ h) (cwV 1 hts gL_law_X6_cancel rfl rfl rfl (by decide +kernel) ⟨Nat.le_of_ble_eq_true rfl, Nat.le_of_ble_eq_true rfl⟩) hK hN hP hD hS hA (em_MA cI q Md _) (fun u => rp_MA cI q Md u _) rfl rfl rfl rfl hl.1 rfl (Nat.le_of_ble_eq_true rfl) dL_law_217 ⟨Nat.le_refl _, Nat.le_refl _⟩ (fun r1 M1 H locs h hP hD hS => ?_)
      refine lv_icmp_eq (tgt := 662) hx hb dL_law_220 (by decide) (fun _ => ?_) (fun cc => absurd h.1 cc)
      exact hgo X M1 h.2 ad1 rf hrf q H locs hP hD hS ls hl
    by_cases c3 : x = 3
    · have h := h3 c3
      refine lv_tableIn (off := 193) (tgt := 225) hx hb dL_law_32 (by rw [c3]; decide) (by rw [c3]; decide) (by rw [c3]; rfl) (by decide) ?_
      refine lv_aload_n hx hb dL_law_225 rfl (lv_at hl 2 rfl) ?_
      refine lv_aload_n hx hb dL_law_226 rfl (lv_at hl 3 rfl) ?_
      refine lv_iload_n hx hb dL_law_227 rfl (lv_at hl 0 rfl) ?_
      refine lv_iconst (v := 1) hx hb dL_law_228 (by decide) ?_
      refine lv_iadd hx hb dL_law_229 ?_
      refine va_sld hx hb hX hbl hbA hS n1 dL_law_230 ?_
      rw [hv1]
      refine kl_i (P := wM cI q Md) (As := [.int a]) (rest := []) ⟨hx, hb, hml, hown, hts⟩ (c_X5_inflow l G cI cC cD ad rf hrf _ X a _ h) (cwV 1 hts gL_law_X5_inflow rfl rfl rfl (by decide +kernel) ⟨Nat.le_of_ble_eq_true rfl, Nat.le_of_ble_eq_true rfl⟩) hK hN hP hD hS hA rfl rfl rfl rfl hl.1 rfl (Nat.le_of_ble_eq_true rfl) dL_law_231 ⟨Nat.le_refl _, Nat.le_refl _⟩ (fun r Xu H locs h hP hD hS => ?_)
      obtain ⟨X, ad1, rf⟩ := Xu
      obtain ⟨h, hok⟩ := h
      have hrf := hok.2.2.2
      have hl : lv_has ls 4 [(3, .int (nI i)), (2, .ref (q 0)), (1, .ref (ad1 0 0)), (0, .ref b)] := by rw [show ad1 0 0 = ad 0 0 from congrFun hok.1 0]; exact hl
      dsimp only at h hP hD hrf
      refine lv_aload_n hx hb dL_law_234 rfl (lv_at hl 1 rfl) ?_
      refine lv_aload_n hx hb dL_law_235 rfl (lv_at hl 3 rfl) ?_
      refine lv_iload_n hx hb dL_law_236 rfl (lv_at hl 0 rfl) ?_
      refine lv_iconst (v := 1) hx hb dL_law_237 (by decide) ?_
      refine lv_iadd hx hb dL_law_238 ?_
      refine va_sld hx hb hX hbl hbA hS n1 dL_law_239 ?_
      rw [hv1]
      refine kc_i (As := [.int a]) (rest := [.int r]) (wg := (fun u => (wM cI q u ++ wA cI cC cD ad1 X rf))) ⟨hx, hb, hml, hown, hts⟩ (c_X6_inflow l G cI cC cD q _ Md a _ h) (cwV 1 hts gL_law_X6_inflow rfl rfl rfl (by decide +kernel) ⟨Nat.le_of_ble_eq_true rfl, Nat.le_of_ble_eq_true rfl⟩) hK hN hP hD hS hA (em_MA cI q Md _) (fun u => rp_MA cI q Md u _) rfl rfl rfl rfl hl.1 rfl (Nat.le_of_ble_eq_true rfl) dL_law_240 ⟨Nat.le_refl _, Nat.le_refl _⟩ (fun r1 M1 H locs h hP hD hS => ?_)
      refine lv_icmp_eq (tgt := 662) hx hb dL_law_243 (by decide) (fun _ => ?_) (fun cc => absurd h.1 cc)
      exact hgo X M1 h.2 ad1 rf hrf q H locs hP hD hS ls hl
    by_cases c4 : x = 4
    · have h := h4 c4
      refine lv_tableIn (off := 216) (tgt := 248) hx hb dL_law_32 (by rw [c4]; decide) (by rw [c4]; decide) (by rw [c4]; rfl) (by decide) ?_
      refine lv_aload_n hx hb dL_law_248 rfl (lv_at hl 2 rfl) ?_
      refine lv_aload_n hx hb dL_law_249 rfl (lv_at hl 3 rfl) ?_
      refine lv_iload_n hx hb dL_law_250 rfl (lv_at hl 0 rfl) ?_
      refine lv_iconst (v := 1) hx hb dL_law_251 (by decide) ?_
      refine lv_iadd hx hb dL_law_252 ?_
      refine va_sld hx hb hX hbl hbA hS n1 dL_law_253 ?_
      rw [hv1]
      refine kl_i (P := wM cI q Md) (As := [.int a]) (rest := []) ⟨hx, hb, hml, hown, hts⟩ (c_X5_fill l G cI cC cD ad rf hrf _ X a _ h) (cwV 1 hts gL_law_X5_fill rfl rfl rfl (by decide +kernel) ⟨Nat.le_of_ble_eq_true rfl, Nat.le_of_ble_eq_true rfl⟩) hK hN hP hD hS hA rfl rfl rfl rfl hl.1 rfl (Nat.le_of_ble_eq_true rfl) dL_law_254 ⟨Nat.le_refl _, Nat.le_refl _⟩ (fun r Xu H locs h hP hD hS => ?_)
      obtain ⟨X, ad1, rf⟩ := Xu
      obtain ⟨h, hok⟩ := h
      have hrf := hok.2.2.2
      have hl : lv_has ls 4 [(3, .int (nI i)), (2, .ref (q 0)), (1, .ref (ad1 0 0)), (0, .ref b)] := by rw [show ad1 0 0 = ad 0 0 from congrFun hok.1 0]; exact hl
      dsimp only at h hP hD hrf
      refine lv_aload_n hx hb dL_law_257 rfl (lv_at hl 1 rfl) ?_
      refine lv_aload_n hx hb dL_law_258 rfl (lv_at hl 3 rfl) ?_
      refine lv_iload_n hx hb dL_law_259 rfl (lv_at hl 0 rfl) ?_
      refine lv_iconst (v := 1) hx hb dL_law_260 (by decide) ?_
      refine lv_iadd hx hb dL_law_261 ?_
      refine va_sld hx hb hX hbl hbA hS n1 dL_law_262 ?_
      rw [hv1]
      refine kc_i (As := [.int a]) (rest := [.int r]) (wg := (fun u => (wM cI q u ++ wA cI cC cD ad1 X rf))) ⟨hx, hb, hml, hown, hts⟩ (c_X6_fill l G cI cC cD q _ Md a _ h) (cwV 1 hts gL_law_X6_fill rfl rfl rfl (by decide +kernel) ⟨Nat.le_of_ble_eq_true rfl, Nat.le_of_ble_eq_true rfl⟩) hK hN hP hD hS hA (em_MA cI q Md _) (fun u => rp_MA cI q Md u _) rfl rfl rfl rfl hl.1 rfl (Nat.le_of_ble_eq_true rfl) dL_law_263 ⟨Nat.le_refl _, Nat.le_refl _⟩ (fun r1 M1 H locs h hP hD hS => ?_)
      refine lv_icmp_eq (tgt := 662) hx hb dL_law_266 (by decide) (fun _ => ?_) (fun cc => absurd h.1 cc)
      exact hgo X M1 h.2 ad1 rf hrf q H locs hP hD hS ls hl
    by_cases c5 : x = 5
    · have h := h5 c5
      refine lv_tableIn (off := 239) (tgt := 271) hx hb dL_law_32 (by rw [c5]; decide) (by rw [c5]; decide) (by rw [c5]; rfl) (by decide) ?_
      refine lv_aload_n hx hb dL_law_271 rfl (lv_at hl 2 rfl) ?_
      refine lv_aload_n hx hb dL_law_272 rfl (lv_at hl 3 rfl) ?_
      refine lv_iload_n hx hb dL_law_273 rfl (lv_at hl 0 rfl) ?_
      refine lv_iconst (v := 1) hx hb dL_law_274 (by decide) ?_
      refine lv_iadd hx hb dL_law_275 ?_
      refine va_sld hx hb hX hbl hbA hS n1 dL_law_276 ?_
      rw [hv1]
      refine lv_aload_n hx hb dL_law_277 rfl (lv_at hl 3 rfl) ?_
      refine lv_iload_n hx hb dL_law_278 rfl (lv_at hl 0 rfl) ?_
      refine lv_iconst (v := 2) hx hb dL_law_279 (by decide) ?_
      refine lv_iadd hx hb dL_law_280 ?_
      refine va_sld hx hb hX hbl hbA hS n2 dL_law_281 ?_
      rw [hv2]
      refine kl_i (P := wM cI q Md) (As := [.int a, .int b2]) (rest := []) ⟨hx, hb, hml, hown, hts⟩ (c_X5_set l G cI cC cD ad rf hrf _ X a b2 _ h) (cwV 2 hts gL_law_X5_set rfl rfl rfl (by decide +kernel) ⟨Nat.le_of_ble_eq_true rfl, Nat.le_of_ble_eq_true rfl⟩) hK hN hP hD hS hA rfl rfl rfl rfl hl.1 rfl (Nat.le_of_ble_eq_true rfl) dL_law_282 ⟨Nat.le_refl _, Nat.le_refl _⟩ (fun r Xu H locs h hP hD hS => ?_)
      obtain ⟨X, ad1, rf⟩ := Xu
      obtain ⟨h, hok⟩ := h
      have hrf := hok.2.2.2
      have hl : lv_has ls 4 [(3, .int (nI i)), (2, .ref (q 0)), (1, .ref (ad1 0 0)), (0, .ref b)] := by rw [show ad1 0 0 = ad 0 0 from congrFun hok.1 0]; exact hl
      dsimp only at h hP hD hrf
      refine lv_aload_n hx hb dL_law_285 rfl (lv_at hl 1 rfl) ?_
      refine lv_aload_n hx hb dL_law_286 rfl (lv_at hl 3 rfl) ?_
      refine lv_iload_n hx hb dL_law_287 rfl (lv_at hl 0 rfl) ?_
      refine lv_iconst (v := 1) hx hb dL_law_288 (by decide) ?_
      refine lv_iadd hx hb dL_law_289 ?_
      refine va_sld hx hb hX hbl hbA hS n1 dL_law_290 ?_
      rw [hv1]
      refine lv_aload_n hx hb dL_law_291 rfl (lv_at hl 3 rfl) ?_
      refine lv_iload_n hx hb dL_law_292 rfl (lv_at hl 0 rfl) ?_
      refine lv_iconst (v := 2) hx hb dL_law_293 (by decide) ?_
      refine lv_iadd hx hb dL_law_294 ?_
      refine va_sld hx hb hX hbl hbA hS n2 dL_law_295 ?_
      rw [hv2]
      refine kc_i (As := [.int a, .int b2]) (rest := [.int r]) (wg := (fun u => (wM cI q u ++ wA cI cC cD ad1 X rf))) ⟨hx, hb, hml, hown, hts⟩ (c_X6_set l G cI cC cD q _ Md a b2 _ h) (cwV 2 hts gL_law_X6_set rfl rfl rfl (by decide +kernel) ⟨Nat.le_of_ble_eq_true rfl, Nat.le_of_ble_eq_true rfl⟩) hK hN hP hD hS hA (em_MA cI q Md _) (fun u => rp_MA cI q Md u _) rfl rfl rfl rfl hl.1 rfl (Nat.le_of_ble_eq_true rfl) dL_law_296 ⟨Nat.le_refl _, Nat.le_refl _⟩ (fun r1 M1 H locs h hP hD hS => ?_)
      refine lv_icmp_eq (tgt := 662) hx hb dL_law_299 (by decide) (fun _ => ?_) (fun cc => absurd h.1 cc)
      exact hgo X M1 h.2 ad1 rf hrf q H locs hP hD hS ls hl
    by_cases c6 : x = 6
    · have h := h6 c6
      refine lv_tableIn (off := 272) (tgt := 304) hx hb dL_law_32 (by rw [c6]; decide) (by rw [c6]; decide) (by rw [c6]; rfl) (by decide) ?_
      refine lv_aload_n hx hb dL_law_304 rfl (lv_at hl 2 rfl) ?_
      refine lv_aload_n hx hb dL_law_305 rfl (lv_at hl 3 rfl) ?_
      refine lv_iload_n hx hb dL_law_306 rfl (lv_at hl 0 rfl) ?_
      refine lv_iconst (v := 1) hx hb dL_law_307 (by decide) ?_
      refine lv_iadd hx hb dL_law_308 ?_
      refine va_sld hx hb hX hbl hbA hS n1 dL_law_309 ?_
      rw [hv1]
      refine kl_i (P := wM cI q Md) (As := [.int a]) (rest := []) ⟨hx, hb, hml, hown, hts⟩ (c_X5_pass l G cI cC cD ad rf hrf _ X a _ h) (cwV 1 hts gL_law_X5_pass rfl rfl rfl (by decide +kernel) ⟨Nat.le_of_ble_eq_true rfl, Nat.le_of_ble_eq_true rfl⟩) hK hN hP hD hS hA rfl rfl rfl rfl hl.1 rfl (Nat.le_of_ble_eq_true rfl) dL_law_310 ⟨Nat.le_refl _, Nat.le_refl _⟩ (fun r Xu H locs h hP hD hS => ?_)
      obtain ⟨X, ad1, rf⟩ := Xu
      obtain ⟨h, hok⟩ := h
      have hrf := hok.2.2.2
      have hl : lv_has ls 4 [(3, .int (nI i)), (2, .ref (q 0)), (1, .ref (ad1 0 0)), (0, .ref b)] := by rw [show ad1 0 0 = ad 0 0 from congrFun hok.1 0]; exact hl
      dsimp only at h hP hD hrf
      refine lv_aload_n hx hb dL_law_313 rfl (lv_at hl 1 rfl) ?_
      refine lv_aload_n hx hb dL_law_314 rfl (lv_at hl 3 rfl) ?_
      refine lv_iload_n hx hb dL_law_315 rfl (lv_at hl 0 rfl) ?_
      refine lv_iconst (v := 1) hx hb dL_law_316 (by decide) ?_
      refine lv_iadd hx hb dL_law_317 ?_
      refine va_sld hx hb hX hbl hbA hS n1 dL_law_318 ?_
      rw [hv1]
      refine kc_i (As := [.int a]) (rest := [.int r]) (wg := (fun u => (wM cI q u ++ wA cI cC cD ad1 X rf))) ⟨hx, hb, hml, hown, hts⟩ (c_X6_pass l G cI cC cD q _ Md a _ h) (cwV 1 hts gL_law_X6_pass rfl rfl rfl (by decide +kernel) ⟨Nat.le_of_ble_eq_true rfl, Nat.le_of_ble_eq_true rfl⟩) hK hN hP hD hS hA (em_MA cI q Md _) (fun u => rp_MA cI q Md u _) rfl rfl rfl rfl hl.1 rfl (Nat.le_of_ble_eq_true rfl) dL_law_319 ⟨Nat.le_refl _, Nat.le_refl _⟩ (fun r1 M1 H locs h hP hD hS => ?_)
      refine lv_icmp_eq (tgt := 662) hx hb dL_law_322 (by decide) (fun _ => ?_) (fun cc => absurd h.1 cc)
      exact hgo X M1 h.2 ad1 rf hrf q H locs hP hD hS ls hl
    by_cases c7 : x = 7
    · have h := h7 c7
      refine lv_tableIn (off := 295) (tgt := 327) hx hb dL_law_32 (by rw [c7]; decide) (by rw [c7]; decide) (by rw [c7]; rfl) (by decide) ?_
      refine lv_aload_n hx hb dL_law_327 rfl (lv_at hl 2 rfl) ?_
      refine lv_aload_n hx hb dL_law_328 rfl (lv_at hl 3 rfl) ?_
      refine lv_iload_n hx hb dL_law_329 rfl (lv_at hl 0 rfl) ?_
      refine lv_iconst (v := 1) hx hb dL_law_330 (by decide) ?_
      refine lv_iadd hx hb dL_law_331 ?_
      refine va_sld hx hb hX hbl hbA hS n1 dL_law_332 ?_
      rw [hv1]
      refine lv_aload_n hx hb dL_law_333 rfl (lv_at hl 3 rfl) ?_
      refine lv_iload_n hx hb dL_law_334 rfl (lv_at hl 0 rfl) ?_
      refine lv_iconst (v := 2) hx hb dL_law_335 (by decide) ?_
      refine lv_iadd hx hb dL_law_336 ?_
      refine va_sld hx hb hX hbl hbA hS n2 dL_law_337 ?_
      rw [hv2]
      refine kl_i (P := wM cI q Md) (As := [.int a, .int b2]) (rest := []) ⟨hx, hb, hml, hown, hts⟩ (c_X5_gateOf l G cI cC cD ad rf hrf _ X a b2 _ h) (cwV 2 hts gL_law_X5_gateOf rfl rfl rfl (by decide +kernel) ⟨Nat.le_of_ble_eq_true rfl, Nat.le_of_ble_eq_true rfl⟩) hK hN hP hD hS hA rfl rfl rfl rfl hl.1 rfl (Nat.le_of_ble_eq_true rfl) dL_law_338 ⟨Nat.le_refl _, Nat.le_refl _⟩ (fun r _ H locs h hP hD hS => ?_)
      refine lv_aload_n hx hb dL_law_341 rfl (lv_at hl 1 rfl) ?_
      refine lv_aload_n hx hb dL_law_342 rfl (lv_at hl 3 rfl) ?_
      refine lv_iload_n hx hb dL_law_343 rfl (lv_at hl 0 rfl) ?_
      refine lv_iconst (v := 1) hx hb dL_law_344 (by decide) ?_
      refine lv_iadd hx hb dL_law_345 ?_
      refine va_sld hx hb hX hbl hbA hS n1 dL_law_346 ?_
      rw [hv1]
      refine lv_aload_n hx hb dL_law_347 rfl (lv_at hl 3 rfl) ?_
      refine lv_iload_n hx hb dL_law_348 rfl (lv_at hl 0 rfl) ?_
      refine lv_iconst (v := 2) hx hb dL_law_349 (by decide) ?_
      refine lv_iadd hx hb dL_law_350 ?_
      refine va_sld hx hb hX hbl hbA hS n2 dL_law_351 ?_
      rw [hv2]
      refine kc_i (As := [.int a, .int b2]) (rest := [.int r]) (wg := (fun _ => (wM cI q Md ++ wA cI cC cD ad X rf))) ⟨hx, hb, hml, hown, hts⟩ (c_X6_gateOf l G cI cC cD q _ Md a b2 _ h) (cwV 2 hts gL_law_X6_gateOf rfl rfl rfl (by decide +kernel) ⟨Nat.le_of_ble_eq_true rfl, Nat.le_of_ble_eq_true rfl⟩) hK hN hP hD hS hA (em_MA cI q Md _) (fun _ => rp_self (em_MA cI q Md _)) rfl rfl rfl rfl hl.1 rfl (Nat.le_of_ble_eq_true rfl) dL_law_352 ⟨Nat.le_refl _, Nat.le_refl _⟩ (fun r1 _ H locs h hP hD hS => ?_)
      refine lv_icmp_eq (tgt := 662) hx hb dL_law_355 (by decide) (fun _ => ?_) (fun cc => absurd h.1 cc)
      exact hgo X Md h.2 ad rf hrf q H locs hP hD hS ls hl
    by_cases c8 : x = 8
    · have h := h8 c8
      refine lv_tableIn (off := 328) (tgt := 360) hx hb dL_law_32 (by rw [c8]; decide) (by rw [c8]; decide) (by rw [c8]; rfl) (by decide) ?_
      refine lv_aload_n hx hb dL_law_360 rfl (lv_at hl 2 rfl) ?_
      refine lv_aload_n hx hb dL_law_361 rfl (lv_at hl 3 rfl) ?_
      refine lv_iload_n hx hb dL_law_362 rfl (lv_at hl 0 rfl) ?_
      refine lv_iconst (v := 1) hx hb dL_law_363 (by decide) ?_
      refine lv_iadd hx hb dL_law_364 ?_
      refine va_sld hx hb hX hbl hbA hS n1 dL_law_365 ?_
      rw [hv1]
      refine kl_i (P := wM cI q Md) (As := [.int a]) (rest := []) ⟨hx, hb, hml, hown, hts⟩ (c_X5_craneOf l G cI cC cD ad rf hrf _ X a _ h) (cwV 1 hts gL_law_X5_craneOf rfl rfl rfl (by decide +kernel) ⟨Nat.le_of_ble_eq_true rfl, Nat.le_of_ble_eq_true rfl⟩) hK hN hP hD hS hA rfl rfl rfl rfl hl.1 rfl (Nat.le_of_ble_eq_true rfl) dL_law_366 ⟨Nat.le_refl _, Nat.le_refl _⟩ (fun r _ H locs h hP hD hS => ?_)
      refine lv_aload_n hx hb dL_law_369 rfl (lv_at hl 1 rfl) ?_
      refine lv_aload_n hx hb dL_law_370 rfl (lv_at hl 3 rfl) ?_
      refine lv_iload_n hx hb dL_law_371 rfl (lv_at hl 0 rfl) ?_
      refine lv_iconst (v := 1) hx hb dL_law_372 (by decide) ?_
      refine lv_iadd hx hb dL_law_373 ?_
      refine va_sld hx hb hX hbl hbA hS n1 dL_law_374 ?_
      rw [hv1]
      refine kc_i (As := [.int a]) (rest := [.int r]) (wg := (fun _ => (wM cI q Md ++ wA cI cC cD ad X rf))) ⟨hx, hb, hml, hown, hts⟩ (c_X6_craneOf l G cI cC cD q _ Md a _ h) (cwV 1 hts gL_law_X6_craneOf rfl rfl rfl (by decide +kernel) ⟨Nat.le_of_ble_eq_true rfl, Nat.le_of_ble_eq_true rfl⟩) hK hN hP hD hS hA (em_MA cI q Md _) (fun _ => rp_self (em_MA cI q Md _)) rfl rfl rfl rfl hl.1 rfl (Nat.le_of_ble_eq_true rfl) dL_law_375 ⟨Nat.le_refl _, Nat.le_refl _⟩ (fun r1 _ H locs h hP hD hS => ?_)
      refine lv_icmp_eq (tgt := 662) hx hb dL_law_378 (by decide) (fun _ => ?_) (fun cc => absurd h.1 cc)
      exact hgo X Md h.2 ad rf hrf q H locs hP hD hS ls hl
    by_cases c9 : x = 9
    · have h := h9 c9
      refine lv_tableIn (off := 351) (tgt := 383) hx hb dL_law_32 (by rw [c9]; decide) (by rw [c9]; decide) (by rw [c9]; rfl) (by decide) ?_
      refine lv_aload_n hx hb dL_law_383 rfl (lv_at hl 2 rfl) ?_
      refine lv_aload_n hx hb dL_law_384 rfl (lv_at hl 3 rfl) ?_
      refine lv_iload_n hx hb dL_law_385 rfl (lv_at hl 0 rfl) ?_
      refine lv_iconst (v := 1) hx hb dL_law_386 (by decide) ?_
      refine lv_iadd hx hb dL_law_387 ?_
      refine va_sld hx hb hX hbl hbA hS n1 dL_law_388 ?_
      rw [hv1]
      refine kl_i (P := wM cI q Md) (As := [.int a]) (rest := []) ⟨hx, hb, hml, hown, hts⟩ (c_X5_orderAt l G cI cC cD ad rf hrf _ X a _ h) (cwV 1 hts gL_law_X5_orderAt rfl rfl rfl (by decide +kernel) ⟨Nat.le_of_ble_eq_true rfl, Nat.le_of_ble_eq_true rfl⟩) hK hN hP hD hS hA rfl rfl rfl rfl hl.1 rfl (Nat.le_of_ble_eq_true rfl) dL_law_389 ⟨Nat.le_refl _, Nat.le_refl _⟩ (fun r _ H locs h hP hD hS => ?_)
      refine lv_aload_n hx hb dL_law_392 rfl (lv_at hl 1 rfl) ?_
      refine lv_aload_n hx hb dL_law_393 rfl (lv_at hl 3 rfl) ?_
      refine lv_iload_n hx hb dL_law_394 rfl (lv_at hl 0 rfl) ?_
      refine lv_iconst (v := 1) hx hb dL_law_395 (by decide) ?_
      refine lv_iadd hx hb dL_law_396 ?_
      refine va_sld hx hb hX hbl hbA hS n1 dL_law_397 ?_
      rw [hv1]
      refine kc_i (As := [.int a]) (rest := [.int r]) (wg := (fun _ => (wM cI q Md ++ wA cI cC cD ad X rf))) ⟨hx, hb, hml, hown, hts⟩ (c_X6_orderAt l G cI cC cD q _ Md a _ h) (cwV 1 hts gL_law_X6_orderAt rfl rfl rfl (by decide +kernel) ⟨Nat.le_of_ble_eq_true rfl, Nat.le_of_ble_eq_true rfl⟩) hK hN hP hD hS hA (em_MA cI q Md _) (fun _ => rp_self (em_MA cI q Md _)) rfl rfl rfl rfl hl.1 rfl (Nat.le_of_ble_eq_true rfl) dL_law_398 ⟨Nat.le_refl _, Nat.le_refl _⟩ (fun r1 _ H locs h hP hD hS => ?_)
      refine lv_icmp_eq (tgt := 662) hx hb dL_law_401 (by decide) (fun _ => ?_) (fun cc => absurd h.1 cc)
      exact hgo X Md h.2 ad rf hrf q H locs hP hD hS ls hl
    by_cases c10 : x = 10
    · have h := h10 c10
      refine lv_tableIn (off := 374) (tgt := 406) hx hb dL_law_32 (by rw [c10]; decide) (by rw [c10]; decide) (by rw [c10]; rfl) (by decide) ?_
      refine lv_aload_n hx hb dL_law_406 rfl (lv_at hl 2 rfl) ?_
      refine lv_aload_n hx hb dL_law_407 rfl (lv_at hl 3 rfl) ?_
      refine lv_iload_n hx hb dL_law_408 rfl (lv_at hl 0 rfl) ?_
      refine lv_iconst (v := 1) hx hb dL_law_409 (by decide) ?_
      refine lv_iadd hx hb dL_law_410 ?_
      refine va_sld hx hb hX hbl hbA hS n1 dL_law_411 ?_
      rw [hv1]
      refine kl_i (P := wM cI q Md) (As := [.int a]) (rest := []) ⟨hx, hb, hml, hown, hts⟩ (c_X5_markAt l G cI cC cD ad rf hrf _ X a _ h) (cwV 1 hts gL_law_X5_markAt rfl rfl rfl (by decide +kernel) ⟨Nat.le_of_ble_eq_true rfl, Nat.le_of_ble_eq_true rfl⟩) hK hN hP hD hS hA rfl rfl rfl rfl hl.1 rfl (Nat.le_of_ble_eq_true rfl) dL_law_412 ⟨Nat.le_refl _, Nat.le_refl _⟩ (fun r _ H locs h hP hD hS => ?_)
      refine lv_aload_n hx hb dL_law_415 rfl (lv_at hl 1 rfl) ?_
      refine lv_aload_n hx hb dL_law_416 rfl (lv_at hl 3 rfl) ?_
      refine lv_iload_n hx hb dL_law_417 rfl (lv_at hl 0 rfl) ?_
      refine lv_iconst (v := 1) hx hb dL_law_418 (by decide) ?_
      refine lv_iadd hx hb dL_law_419 ?_
      refine va_sld hx hb hX hbl hbA hS n1 dL_law_420 ?_
      rw [hv1]
      refine kc_i (As := [.int a]) (rest := [.int r]) (wg := (fun _ => (wM cI q Md ++ wA cI cC cD ad X rf))) ⟨hx, hb, hml, hown, hts⟩ (c_X6_markAt l G cI cC cD q _ Md a _ h) (cwV 1 hts gL_law_X6_markAt rfl rfl rfl (by decide +kernel) ⟨Nat.le_of_ble_eq_true rfl, Nat.le_of_ble_eq_true rfl⟩) hK hN hP hD hS hA (em_MA cI q Md _) (fun _ => rp_self (em_MA cI q Md _)) rfl rfl rfl rfl hl.1 rfl (Nat.le_of_ble_eq_true rfl) dL_law_421 ⟨Nat.le_refl _, Nat.le_refl _⟩ (fun r1 _ H locs h hP hD hS => ?_)
      refine lv_icmp_eq (tgt := 662) hx hb dL_law_424 (by decide) (fun _ => ?_) (fun cc => absurd h.1 cc)
      exact hgo X Md h.2 ad rf hrf q H locs hP hD hS ls hl
    by_cases c11 : x = 11
    · have h := h11 c11
      refine lv_tableIn (off := 397) (tgt := 429) hx hb dL_law_32 (by rw [c11]; decide) (by rw [c11]; decide) (by rw [c11]; rfl) (by decide) ?_
      refine lv_aload_n hx hb dL_law_429 rfl (lv_at hl 2 rfl) ?_
      refine lv_aload_n hx hb dL_law_430 rfl (lv_at hl 3 rfl) ?_
      refine lv_iload_n hx hb dL_law_431 rfl (lv_at hl 0 rfl) ?_
      refine lv_iconst (v := 1) hx hb dL_law_432 (by decide) ?_
      refine lv_iadd hx hb dL_law_433 ?_
      refine va_sld hx hb hX hbl hbA hS n1 dL_law_434 ?_
      rw [hv1]
      refine lv_aload_n hx hb dL_law_435 rfl (lv_at hl 3 rfl) ?_
      refine lv_iload_n hx hb dL_law_436 rfl (lv_at hl 0 rfl) ?_
      refine lv_iconst (v := 2) hx hb dL_law_437 (by decide) ?_
      refine lv_iadd hx hb dL_law_438 ?_
      refine va_sld hx hb hX hbl hbA hS n2 dL_law_439 ?_
      rw [hv2]
      refine kl_i (P := wM cI q Md) (As := [.int a, .int b2]) (rest := []) ⟨hx, hb, hml, hown, hts⟩ (c_X5_would l G cI cC cD ad rf hrf _ X a b2 _ h) (cwV 2 hts gL_law_X5_would rfl rfl rfl (by decide +kernel) ⟨Nat.le_of_ble_eq_true rfl, Nat.le_of_ble_eq_true rfl⟩) hK hN hP hD hS hA rfl rfl rfl rfl hl.1 rfl (Nat.le_of_ble_eq_true rfl) dL_law_440 ⟨Nat.le_refl _, Nat.le_refl _⟩ (fun r Xu H locs h hP hD hS => ?_)
      refine lv_aload_n hx hb dL_law_443 rfl (lv_at hl 1 rfl) ?_
      refine lv_aload_n hx hb dL_law_444 rfl (lv_at hl 3 rfl) ?_
      refine lv_iload_n hx hb dL_law_445 rfl (lv_at hl 0 rfl) ?_
      refine lv_iconst (v := 1) hx hb dL_law_446 (by decide) ?_
      refine lv_iadd hx hb dL_law_447 ?_
      refine va_sld hx hb hX hbl hbA hS n1 dL_law_448 ?_
      rw [hv1]
      refine lv_aload_n hx hb dL_law_449 rfl (lv_at hl 3 rfl) ?_
      refine lv_iload_n hx hb dL_law_450 rfl (lv_at hl 0 rfl) ?_
      refine lv_iconst (v := 2) hx hb dL_law_451 (by decide) ?_
      refine lv_iadd hx hb dL_law_452 ?_
      refine va_sld hx hb hX hbl hbA hS n2 dL_law_453 ?_
      rw [hv2]
      refine kc_i (As := [.int a, .int b2]) (rest := [.int r]) (wg := (fun u => (wM cI q u ++ wA cI cC cD ad Xu rf))) ⟨hx, hb, hml, hown, hts⟩ (c_X6_would l G cI cC cD q _ Md a b2 _ h) (cwV 2 hts gL_law_X6_would rfl rfl rfl (by decide +kernel) ⟨Nat.le_of_ble_eq_true rfl, Nat.le_of_ble_eq_true rfl⟩) hK hN hP hD hS hA (em_MA cI q Md _) (fun u => rp_MA cI q Md u _) rfl rfl rfl rfl hl.1 rfl (Nat.le_of_ble_eq_true rfl) dL_law_454 ⟨Nat.le_refl _, Nat.le_refl _⟩ (fun r1 M1 H locs h hP hD hS => ?_)
      refine lv_icmp_eq (tgt := 662) hx hb dL_law_457 (by decide) (fun _ => ?_) (fun cc => absurd h.1 cc)
      exact hgo Xu M1 h.2 ad rf hrf q H locs hP hD hS ls hl
    by_cases c12 : x = 12
    · have h := h12 c12
      refine lv_tableIn (off := 430) (tgt := 462) hx hb dL_law_32 (by rw [c12]; decide) (by rw [c12]; decide) (by rw [c12]; rfl) (by decide) ?_
      refine lv_aload_n hx hb dL_law_462 rfl (lv_at hl 2 rfl) ?_
      refine lv_aload_n hx hb dL_law_463 rfl (lv_at hl 3 rfl) ?_
      refine lv_iload_n hx hb dL_law_464 rfl (lv_at hl 0 rfl) ?_
      refine lv_iconst (v := 1) hx hb dL_law_465 (by decide) ?_
      refine lv_iadd hx hb dL_law_466 ?_
      refine va_sld hx hb hX hbl hbA hS n1 dL_law_467 ?_
      rw [hv1]
      refine lv_aload_n hx hb dL_law_468 rfl (lv_at hl 3 rfl) ?_
      refine lv_iload_n hx hb dL_law_469 rfl (lv_at hl 0 rfl) ?_
      refine lv_iconst (v := 2) hx hb dL_law_470 (by decide) ?_
      refine lv_iadd hx hb dL_law_471 ?_
      refine va_sld hx hb hX hbl hbA hS n2 dL_law_472 ?_
      rw [hv2]
      refine kl_i (P := wM cI q Md) (As := [.int a, .int b2]) (rest := []) ⟨hx, hb, hml, hown, hts⟩ (c_X5_minutesUntil l G cI cC cD ad rf hrf _ X a b2 _ h) (cwV 2 hts gL_law_X5_minutesUntil rfl rfl rfl (by decide +kernel) ⟨Nat.le_of_ble_eq_true rfl, Nat.le_of_ble_eq_true rfl⟩) hK hN hP hD hS hA rfl rfl rfl rfl hl.1 rfl (Nat.le_of_ble_eq_true rfl) dL_law_473 ⟨Nat.le_refl _, Nat.le_refl _⟩ (fun r Xu H locs h hP hD hS => ?_)
      refine lv_aload_n hx hb dL_law_476 rfl (lv_at hl 1 rfl) ?_
      refine lv_aload_n hx hb dL_law_477 rfl (lv_at hl 3 rfl) ?_
      refine lv_iload_n hx hb dL_law_478 rfl (lv_at hl 0 rfl) ?_
      refine lv_iconst (v := 1) hx hb dL_law_479 (by decide) ?_
      refine lv_iadd hx hb dL_law_480 ?_
      refine va_sld hx hb hX hbl hbA hS n1 dL_law_481 ?_
      rw [hv1]
      refine lv_aload_n hx hb dL_law_482 rfl (lv_at hl 3 rfl) ?_
      refine lv_iload_n hx hb dL_law_483 rfl (lv_at hl 0 rfl) ?_
      refine lv_iconst (v := 2) hx hb dL_law_484 (by decide) ?_
      refine lv_iadd hx hb dL_law_485 ?_
      refine va_sld hx hb hX hbl hbA hS n2 dL_law_486 ?_
      rw [hv2]
      refine kc_i (As := [.int a, .int b2]) (rest := [.int r]) (wg := (fun u => (wM cI q u ++ wA cI cC cD ad Xu rf))) ⟨hx, hb, hml, hown, hts⟩ (c_X6_minutesUntil l G cI cC cD q _ Md a b2 _ h) (cwV 2 hts gL_law_X6_minutesUntil rfl rfl rfl (by decide +kernel) ⟨Nat.le_of_ble_eq_true rfl, Nat.le_of_ble_eq_true rfl⟩) hK hN hP hD hS hA (em_MA cI q Md _) (fun u => rp_MA cI q Md u _) rfl rfl rfl rfl hl.1 rfl (Nat.le_of_ble_eq_true rfl) dL_law_487 ⟨Nat.le_refl _, Nat.le_refl _⟩ (fun r1 M1 H locs h hP hD hS => ?_)
      refine lv_icmp_eq (tgt := 662) hx hb dL_law_490 (by decide) (fun _ => ?_) (fun cc => absurd h.1 cc)
      exact hgo Xu M1 h.2 ad rf hrf q H locs hP hD hS ls hl
    by_cases c13 : x = 13
    · have h := h13 c13
      refine lv_tableIn (off := 463) (tgt := 495) hx hb dL_law_32 (by rw [c13]; decide) (by rw [c13]; decide) (by rw [c13]; rfl) (by decide) ?_
      refine lv_aload_n hx hb dL_law_495 rfl (lv_at hl 2 rfl) ?_
      refine kl_i (P := wM cI q Md) (As := []) (rest := []) ⟨hx, hb, hml, hown, hts⟩ (c_X5_minutesToRest l G cI cC cD ad rf hrf _ X  _ h) (cwV 0 hts gL_law_X5_minutesToRest rfl rfl rfl (by decide +kernel) ⟨Nat.le_of_ble_eq_true rfl, Nat.le_of_ble_eq_true rfl⟩) hK hN hP hD hS hA rfl rfl rfl rfl hl.1 rfl (Nat.le_of_ble_eq_true rfl) dL_law_496 ⟨Nat.le_refl _, Nat.le_refl _⟩ (fun r Xu H locs h hP hD hS => ?_)
      refine lv_aload_n hx hb dL_law_499 rfl (lv_at hl 1 rfl) ?_
      refine kc_i (As := []) (rest := [.int r]) (wg := (fun u => (wM cI q u ++ wA cI cC cD ad Xu rf))) ⟨hx, hb, hml, hown, hts⟩ (c_X6_minutesToRest l G cI cC cD q _ Md  _ h) (cwV 0 hts gL_law_X6_minutesToRest rfl rfl rfl (by decide +kernel) ⟨Nat.le_of_ble_eq_true rfl, Nat.le_of_ble_eq_true rfl⟩) hK hN hP hD hS hA (em_MA cI q Md _) (fun u => rp_MA cI q Md u _) rfl rfl rfl rfl hl.1 rfl (Nat.le_of_ble_eq_true rfl) dL_law_500 ⟨Nat.le_refl _, Nat.le_refl _⟩ (fun r1 M1 H locs h hP hD hS => ?_)
      refine lv_icmp_eq (tgt := 662) hx hb dL_law_503 (by decide) (fun _ => ?_) (fun cc => absurd h.1 cc)
      exact hgo Xu M1 h.2 ad rf hrf q H locs hP hD hS ls hl
    by_cases c14 : x = 14
    · have h := h14 c14
      refine lv_tableIn (off := 476) (tgt := 508) hx hb dL_law_32 (by rw [c14]; decide) (by rw [c14]; decide) (by rw [c14]; rfl) (by decide) ?_
      refine lv_aload_n hx hb dL_law_508 rfl (lv_at hl 2 rfl) ?_
      refine lv_aload_n hx hb dL_law_509 rfl (lv_at hl 3 rfl) ?_
      refine lv_iload_n hx hb dL_law_510 rfl (lv_at hl 0 rfl) ?_
      refine lv_iconst (v := 1) hx hb dL_law_511 (by decide) ?_
      refine lv_iadd hx hb dL_law_512 ?_
      refine va_sld hx hb hX hbl hbA hS n1 dL_law_513 ?_
      rw [hv1]
      refine kl_i (P := wM cI q Md) (As := [.int a]) (rest := []) ⟨hx, hb, hml, hown, hts⟩ (c_X5_bestRule l G cI cC cD ad rf hrf _ X a _ h) (cwV 1 hts gL_law_X5_bestRule rfl rfl rfl (by decide +kernel) ⟨Nat.le_of_ble_eq_true rfl, Nat.le_of_ble_eq_true rfl⟩) hK hN hP hD hS hA rfl rfl rfl rfl hl.1 rfl (Nat.le_of_ble_eq_true rfl) dL_law_514 ⟨Nat.le_refl _, Nat.le_refl _⟩ (fun r Xu H locs h hP hD hS => ?_)
      refine lv_aload_n hx hb dL_law_517 rfl (lv_at hl 1 rfl) ?_
      refine lv_aload_n hx hb dL_law_518 rfl (lv_at hl 3 rfl) ?_
      refine lv_iload_n hx hb dL_law_519 rfl (lv_at hl 0 rfl) ?_
      refine lv_iconst (v := 1) hx hb dL_law_520 (by decide) ?_
      refine lv_iadd hx hb dL_law_521 ?_
      refine va_sld hx hb hX hbl hbA hS n1 dL_law_522 ?_
      rw [hv1]
      refine kc_i (As := [.int a]) (rest := [.int r]) (wg := (fun u => (wM cI q u ++ wA cI cC cD ad Xu rf))) ⟨hx, hb, hml, hown, hts⟩ (c_X6_bestRule l G cI cC cD q _ Md a _ h) (cwV 1 hts gL_law_X6_bestRule rfl rfl rfl (by decide +kernel) ⟨Nat.le_of_ble_eq_true rfl, Nat.le_of_ble_eq_true rfl⟩) hK hN hP hD hS hA (em_MA cI q Md _) (fun u => rp_MA cI q Md u _) rfl rfl rfl rfl hl.1 rfl (Nat.le_of_ble_eq_true rfl) dL_law_523 ⟨Nat.le_refl _, Nat.le_refl _⟩ (fun r1 M1 H locs h hP hD hS => ?_)
      refine lv_icmp_eq (tgt := 662) hx hb dL_law_526 (by decide) (fun _ => ?_) (fun cc => absurd h.1 cc)
      exact hgo Xu M1 h.2 ad rf hrf q H locs hP hD hS ls hl
    by_cases c15 : x = 15
    · have h := h15 c15
      refine lv_tableIn (off := 499) (tgt := 531) hx hb dL_law_32 (by rw [c15]; decide) (by rw [c15]; decide) (by rw [c15]; rfl) (by decide) ?_
      refine lv_aload_n hx hb dL_law_531 rfl (lv_at hl 2 rfl) ?_
      refine lv_aload_n hx hb dL_law_532 rfl (lv_at hl 3 rfl) ?_
      refine lv_iload_n hx hb dL_law_533 rfl (lv_at hl 0 rfl) ?_
      refine lv_iconst (v := 1) hx hb dL_law_534 (by decide) ?_
      refine lv_iadd hx hb dL_law_535 ?_
      refine va_sld hx hb hX hbl hbA hS n1 dL_law_536 ?_
      rw [hv1]
      refine kl_i (P := wM cI q Md) (As := [.int a]) (rest := []) ⟨hx, hb, hml, hown, hts⟩ (c_X5_leastFlood l G cI cC cD ad rf hrf _ X a _ h) (cwV 1 hts gL_law_X5_leastFlood rfl rfl rfl (by decide +kernel) ⟨Nat.le_of_ble_eq_true rfl, Nat.le_of_ble_eq_true rfl⟩) hK hN hP hD hS hA rfl rfl rfl rfl hl.1 rfl (Nat.le_of_ble_eq_true rfl) dL_law_537 ⟨Nat.le_refl _, Nat.le_refl _⟩ (fun r Xu H locs h hP hD hS => ?_)
      refine lv_aload_n hx hb dL_law_540 rfl (lv_at hl 1 rfl) ?_
      refine lv_aload_n hx hb dL_law_541 rfl (lv_at hl 3 rfl) ?_
      refine lv_iload_n hx hb dL_law_542 rfl (lv_at hl 0 rfl) ?_
      refine lv_iconst (v := 1) hx hb dL_law_543 (by decide) ?_
      refine lv_iadd hx hb dL_law_544 ?_
      refine va_sld hx hb hX hbl hbA hS n1 dL_law_545 ?_
      rw [hv1]
      refine kc_i (As := [.int a]) (rest := [.int r]) (wg := (fun u => (wM cI q u ++ wA cI cC cD ad Xu rf))) ⟨hx, hb, hml, hown, hts⟩ (c_X6_leastFlood l G cI cC cD q _ Md a _ h) (cwV 1 hts gL_law_X6_leastFlood rfl rfl rfl (by decide +kernel) ⟨Nat.le_of_ble_eq_true rfl, Nat.le_of_ble_eq_true rfl⟩) hK hN hP hD hS hA (em_MA cI q Md _) (fun u => rp_MA cI q Md u _) rfl rfl rfl rfl hl.1 rfl (Nat.le_of_ble_eq_true rfl) dL_law_546 ⟨Nat.le_refl _, Nat.le_refl _⟩ (fun r1 M1 H locs h hP hD hS => ?_)
      refine lv_icmp_eq (tgt := 662) hx hb dL_law_549 (by decide) (fun _ => ?_) (fun cc => absurd h.1 cc)
      exact hgo Xu M1 h.2 ad rf hrf q H locs hP hD hS ls hl
    by_cases c16 : x = 16
    · have h := h16 c16
      refine lv_tableIn (off := 522) (tgt := 554) hx hb dL_law_32 (by rw [c16]; decide) (by rw [c16]; decide) (by rw [c16]; rfl) (by decide) ?_
      refine lv_aload_n hx hb dL_law_554 rfl (lv_at hl 2 rfl) ?_
      refine lv_aload_n hx hb dL_law_555 rfl (lv_at hl 3 rfl) ?_
      refine lv_iload_n hx hb dL_law_556 rfl (lv_at hl 0 rfl) ?_
      refine lv_iconst (v := 1) hx hb dL_law_557 (by decide) ?_
      refine lv_iadd hx hb dL_law_558 ?_
      refine va_sld hx hb hX hbl hbA hS n1 dL_law_559 ?_
      rw [hv1]
      refine kl_i (P := wM cI q Md) (As := [.int a]) (rest := []) ⟨hx, hb, hml, hown, hts⟩ (c_X5_count l G cI cC cD ad rf hrf _ X a _ h) (cwV 1 hts gL_law_X5_count rfl rfl rfl (by decide +kernel) ⟨Nat.le_of_ble_eq_true rfl, Nat.le_of_ble_eq_true rfl⟩) hK hN hP hD hS hA rfl rfl rfl rfl hl.1 rfl (Nat.le_of_ble_eq_true rfl) dL_law_560 ⟨Nat.le_refl _, Nat.le_refl _⟩ (fun r _ H locs h hP hD hS => ?_)
      refine lv_aload_n hx hb dL_law_563 rfl (lv_at hl 1 rfl) ?_
      refine lv_aload_n hx hb dL_law_564 rfl (lv_at hl 3 rfl) ?_
      refine lv_iload_n hx hb dL_law_565 rfl (lv_at hl 0 rfl) ?_
      refine lv_iconst (v := 1) hx hb dL_law_566 (by decide) ?_
      refine lv_iadd hx hb dL_law_567 ?_
      refine va_sld hx hb hX hbl hbA hS n1 dL_law_568 ?_
      rw [hv1]
      refine kc_i (As := [.int a]) (rest := [.int r]) (wg := (fun _ => (wM cI q Md ++ wA cI cC cD ad X rf))) ⟨hx, hb, hml, hown, hts⟩ (c_X6_count l G cI cC cD q _ Md a _ h) (cwV 1 hts gL_law_X6_count rfl rfl rfl (by decide +kernel) ⟨Nat.le_of_ble_eq_true rfl, Nat.le_of_ble_eq_true rfl⟩) hK hN hP hD hS hA (em_MA cI q Md _) (fun _ => rp_self (em_MA cI q Md _)) rfl rfl rfl rfl hl.1 rfl (Nat.le_of_ble_eq_true rfl) dL_law_569 ⟨Nat.le_refl _, Nat.le_refl _⟩ (fun r1 _ H locs h hP hD hS => ?_)
      refine lv_icmp_eq (tgt := 662) hx hb dL_law_572 (by decide) (fun _ => ?_) (fun cc => absurd h.1 cc)
      exact hgo X Md h.2 ad rf hrf q H locs hP hD hS ls hl
    by_cases c17 : x = 17
    · have h := h17 c17
      refine lv_tableIn (off := 545) (tgt := 577) hx hb dL_law_32 (by rw [c17]; decide) (by rw [c17]; decide) (by rw [c17]; rfl) (by decide) ?_
      refine lv_aload_n hx hb dL_law_577 rfl (lv_at hl 2 rfl) ?_
      refine kl_i (P := wM cI q Md) (As := []) (rest := []) ⟨hx, hb, hml, hown, hts⟩ (c_X5_undo l G cI cC cD ad rf hrf _ X  _ h) (cwV 0 hts gL_law_X5_undo rfl rfl rfl (by decide +kernel) ⟨Nat.le_of_ble_eq_true rfl, Nat.le_of_ble_eq_true rfl⟩) hK hN hP hD hS hA rfl rfl rfl rfl hl.1 rfl (Nat.le_of_ble_eq_true rfl) dL_law_578 ⟨Nat.le_refl _, Nat.le_refl _⟩ (fun r Xu H locs h hP hD hS => ?_)
      refine lv_aload_n hx hb dL_law_581 rfl (lv_at hl 1 rfl) ?_
      refine kc_i (As := []) (rest := [.int r]) (wg := (fun u => (wM cI q u ++ wA cI cC cD ad Xu rf))) ⟨hx, hb, hml, hown, hts⟩ (c_X6_undo l G cI cC cD q _ Md  _ h) (cwV 0 hts gL_law_X6_undo rfl rfl rfl (by decide +kernel) ⟨Nat.le_of_ble_eq_true rfl, Nat.le_of_ble_eq_true rfl⟩) hK hN hP hD hS hA (em_MA cI q Md _) (fun u => rp_MA cI q Md u _) rfl rfl rfl rfl hl.1 rfl (Nat.le_of_ble_eq_true rfl) dL_law_582 ⟨Nat.le_refl _, Nat.le_refl _⟩ (fun r1 M1 H locs h hP hD hS => ?_)
      refine lv_icmp_eq (tgt := 662) hx hb dL_law_585 (by decide) (fun _ => ?_) (fun cc => absurd h.1 cc)
      exact hgo Xu M1 h.2 ad rf hrf q H locs hP hD hS ls hl
    by_cases c18 : x = 18
    · have h := h18 c18
      refine lv_tableIn (off := 558) (tgt := 590) hx hb dL_law_32 (by rw [c18]; decide) (by rw [c18]; decide) (by rw [c18]; rfl) (by decide) ?_
      refine lv_aload_n hx hb dL_law_590 rfl (lv_at hl 2 rfl) ?_
      refine lv_aload_n hx hb dL_law_591 rfl (lv_at hl 3 rfl) ?_
      refine lv_iload_n hx hb dL_law_592 rfl (lv_at hl 0 rfl) ?_
      refine lv_iconst (v := 1) hx hb dL_law_593 (by decide) ?_
      refine lv_iadd hx hb dL_law_594 ?_
      refine va_sld hx hb hX hbl hbA hS n1 dL_law_595 ?_
      rw [hv1]
      refine kl_i (P := wM cI q Md) (As := [.int a]) (rest := []) ⟨hx, hb, hml, hown, hts⟩ (c_X5_type l G cI cC cD ad rf hrf _ X a _ h) (cwV 1 hts gL_law_X5_type rfl rfl rfl (by decide +kernel) ⟨Nat.le_of_ble_eq_true rfl, Nat.le_of_ble_eq_true rfl⟩) hK hN hP hD hS hA rfl rfl rfl rfl hl.1 rfl (Nat.le_of_ble_eq_true rfl) dL_law_596 ⟨Nat.le_refl _, Nat.le_refl _⟩ (fun r Xu H locs h hP hD hS => ?_)
      refine lv_aload_n hx hb dL_law_599 rfl (lv_at hl 1 rfl) ?_
      refine lv_aload_n hx hb dL_law_600 rfl (lv_at hl 3 rfl) ?_
      refine lv_iload_n hx hb dL_law_601 rfl (lv_at hl 0 rfl) ?_
      refine lv_iconst (v := 1) hx hb dL_law_602 (by decide) ?_
      refine lv_iadd hx hb dL_law_603 ?_
      refine va_sld hx hb hX hbl hbA hS n1 dL_law_604 ?_
      rw [hv1]
      refine kc_i (As := [.int a]) (rest := [.int r]) (wg := (fun u => (wM cI q u ++ wA cI cC cD ad Xu rf))) ⟨hx, hb, hml, hown, hts⟩ (c_X6_type l G cI cC cD q _ Md a _ h) (cwV 1 hts gL_law_X6_type rfl rfl rfl (by decide +kernel) ⟨Nat.le_of_ble_eq_true rfl, Nat.le_of_ble_eq_true rfl⟩) hK hN hP hD hS hA (em_MA cI q Md _) (fun u => rp_MA cI q Md u _) rfl rfl rfl rfl hl.1 rfl (Nat.le_of_ble_eq_true rfl) dL_law_605 ⟨Nat.le_refl _, Nat.le_refl _⟩ (fun r1 M1 H locs h hP hD hS => ?_)
      refine lv_icmp_eq (tgt := 662) hx hb dL_law_608 (by decide) (fun _ => ?_) (fun cc => absurd h.1 cc)
      exact hgo Xu M1 h.2 ad rf hrf q H locs hP hD hS ls hl
    by_cases c19 : x = 19
    · have h := h19 c19
      refine lv_tableIn (off := 581) (tgt := 613) hx hb dL_law_32 (by rw [c19]; decide) (by rw [c19]; decide) (by rw [c19]; rfl) (by decide) ?_
      refine lv_aload_n hx hb dL_law_613 rfl (lv_at hl 2 rfl) ?_
      refine kl_i (P := wM cI q Md) (As := []) (rest := []) ⟨hx, hb, hml, hown, hts⟩ (c_X5_clearText l G cI cC cD ad rf hrf _ X  _ h) (cwV 0 hts gL_law_X5_clearText rfl rfl rfl (by decide +kernel) ⟨Nat.le_of_ble_eq_true rfl, Nat.le_of_ble_eq_true rfl⟩) hK hN hP hD hS hA rfl rfl rfl rfl hl.1 rfl (Nat.le_of_ble_eq_true rfl) dL_law_614 ⟨Nat.le_refl _, Nat.le_refl _⟩ (fun r Xu H locs h hP hD hS => ?_)
      refine lv_aload_n hx hb dL_law_617 rfl (lv_at hl 1 rfl) ?_
      refine kc_i (As := []) (rest := [.int r]) (wg := (fun u => (wM cI q u ++ wA cI cC cD ad Xu rf))) ⟨hx, hb, hml, hown, hts⟩ (c_X6_clearText l G cI cC cD q _ Md  _ h) (cwV 0 hts gL_law_X6_clearText rfl rfl rfl (by decide +kernel) ⟨Nat.le_of_ble_eq_true rfl, Nat.le_of_ble_eq_true rfl⟩) hK hN hP hD hS hA (em_MA cI q Md _) (fun u => rp_MA cI q Md u _) rfl rfl rfl rfl hl.1 rfl (Nat.le_of_ble_eq_true rfl) dL_law_618 ⟨Nat.le_refl _, Nat.le_refl _⟩ (fun r1 M1 H locs h hP hD hS => ?_)
      refine lv_icmp_eq (tgt := 662) hx hb dL_law_621 (by decide) (fun _ => ?_) (fun cc => absurd h.1 cc)
      exact hgo Xu M1 h.2 ad rf hrf q H locs hP hD hS ls hl
    by_cases c20 : x = 20
    · have h := h20 c20
      refine lv_tableIn (off := 594) (tgt := 626) hx hb dL_law_32 (by rw [c20]; decide) (by rw [c20]; decide) (by rw [c20]; rfl) (by decide) ?_
      refine lv_aload_n hx hb dL_law_626 rfl (lv_at hl 2 rfl) ?_
      refine lv_aload_n hx hb dL_law_627 rfl (lv_at hl 3 rfl) ?_
      refine lv_iload_n hx hb dL_law_628 rfl (lv_at hl 0 rfl) ?_
      refine lv_iconst (v := 1) hx hb dL_law_629 (by decide) ?_
      refine lv_iadd hx hb dL_law_630 ?_
      refine va_sld hx hb hX hbl hbA hS n1 dL_law_631 ?_
      rw [hv1]
      refine kl_i (P := wM cI q Md) (As := [.int a]) (rest := []) ⟨hx, hb, hml, hown, hts⟩ (c_X5_fault l G cI cC cD ad rf hrf _ X a _ h) (cwV 1 hts gL_law_X5_fault rfl rfl rfl (by decide +kernel) ⟨Nat.le_of_ble_eq_true rfl, Nat.le_of_ble_eq_true rfl⟩) hK hN hP hD hS hA rfl rfl rfl rfl hl.1 rfl (Nat.le_of_ble_eq_true rfl) dL_law_632 ⟨Nat.le_refl _, Nat.le_refl _⟩ (fun r Xu H locs h hP hD hS => ?_)
      refine lv_aload_n hx hb dL_law_635 rfl (lv_at hl 1 rfl) ?_
      refine lv_aload_n hx hb dL_law_636 rfl (lv_at hl 3 rfl) ?_
      refine lv_iload_n hx hb dL_law_637 rfl (lv_at hl 0 rfl) ?_
      refine lv_iconst (v := 1) hx hb dL_law_638 (by decide) ?_
      refine lv_iadd hx hb dL_law_639 ?_
      refine va_sld hx hb hX hbl hbA hS n1 dL_law_640 ?_
      rw [hv1]
      refine kc_i (As := [.int a]) (rest := [.int r]) (wg := (fun u => (wM cI q u ++ wA cI cC cD ad Xu rf))) ⟨hx, hb, hml, hown, hts⟩ (c_X6_fault l G cI cC cD q _ Md a _ h) (cwV 1 hts gL_law_X6_fault rfl rfl rfl (by decide +kernel) ⟨Nat.le_of_ble_eq_true rfl, Nat.le_of_ble_eq_true rfl⟩) hK hN hP hD hS hA (em_MA cI q Md _) (fun u => rp_MA cI q Md u _) rfl rfl rfl rfl hl.1 rfl (Nat.le_of_ble_eq_true rfl) dL_law_641 ⟨Nat.le_refl _, Nat.le_refl _⟩ (fun r1 M1 H locs h hP hD hS => ?_)
      refine lv_icmp_eq (tgt := 662) hx hb dL_law_644 (by decide) (fun _ => ?_) (fun cc => absurd h.1 cc)
      exact hgo Xu M1 h.2 ad rf hrf q H locs hP hD hS ls hl
    by_cases c21 : x = 21
    · have h := h21 c21
      refine lv_tableIn (off := 617) (tgt := 649) hx hb dL_law_32 (by rw [c21]; decide) (by rw [c21]; decide) (by rw [c21]; rfl) (by decide) ?_
      refine lv_aload_n hx hb dL_law_649 rfl (lv_at hl 2 rfl) ?_
      refine kl_i (P := wM cI q Md) (As := []) (rest := []) ⟨hx, hb, hml, hown, hts⟩ (c_X5_play l G cI cC cD ad rf hrf _ X  _ h) (cwV 0 hts gL_law_X5_play rfl rfl rfl (by decide +kernel) ⟨Nat.le_of_ble_eq_true rfl, Nat.le_of_ble_eq_true rfl⟩) hK hN hP hD hS hA rfl rfl rfl rfl hl.1 rfl (Nat.le_of_ble_eq_true rfl) dL_law_650 ⟨Nat.le_refl _, Nat.le_refl _⟩ (fun r Xu H locs h hP hD hS => ?_)
      obtain ⟨X, ad1, rf⟩ := Xu
      obtain ⟨h, hok⟩ := h
      have hrf := hok.2.2.2
      have hl : lv_has ls 4 [(3, .int (nI i)), (2, .ref (q 0)), (1, .ref (ad1 0 0)), (0, .ref b)] := by rw [show ad1 0 0 = ad 0 0 from congrFun hok.1 0]; exact hl
      dsimp only at h hP hD hrf
      refine lv_aload_n hx hb dL_law_653 rfl (lv_at hl 1 rfl) ?_
      refine kc_i (As := []) (rest := [.int r]) (wg := (fun u => (wM cI q u ++ wA cI cC cD ad1 X rf))) ⟨hx, hb, hml, hown, hts⟩ (c_X6_play l G cI cC cD q _ Md  _ h) (cwV 0 hts gL_law_X6_play rfl rfl rfl (by decide +kernel) ⟨Nat.le_of_ble_eq_true rfl, Nat.le_of_ble_eq_true rfl⟩) hK hN hP hD hS hA (em_MA cI q Md _) (fun u => rp_MA cI q Md u _) rfl rfl rfl rfl hl.1 rfl (Nat.le_of_ble_eq_true rfl) dL_law_654 ⟨Nat.le_refl _, Nat.le_refl _⟩ (fun r1 M1 H locs h hP hD hS => ?_)
      refine lv_icmp_eq (tgt := 662) hx hb dL_law_657 (by decide) (fun _ => ?_) (fun cc => absurd h.1 cc)
      exact hgo X M1 h.2 ad1 rf hrf q H locs hP hD hS ls hl
    have ho : (x).toInt < 0 ∨ 21 < (x).toInt := by
      have n0 := sw_o (a := 0) c0 (by decide)
      have n1 := sw_o (a := 1) c1 (by decide)
      have n2 := sw_o (a := 2) c2 (by decide)
      have n3 := sw_o (a := 3) c3 (by decide)
      have n4 := sw_o (a := 4) c4 (by decide)
      have n5 := sw_o (a := 5) c5 (by decide)
      have n6 := sw_o (a := 6) c6 (by decide)
      have n7 := sw_o (a := 7) c7 (by decide)
      have n8 := sw_o (a := 8) c8 (by decide)
      have n9 := sw_o (a := 9) c9 (by decide)
      have n10 := sw_o (a := 10) c10 (by decide)
      have n11 := sw_o (a := 11) c11 (by decide)
      have n12 := sw_o (a := 12) c12 (by decide)
      have n13 := sw_o (a := 13) c13 (by decide)
      have n14 := sw_o (a := 14) c14 (by decide)
      have n15 := sw_o (a := 15) c15 (by decide)
      have n16 := sw_o (a := 16) c16 (by decide)
      have n17 := sw_o (a := 17) c17 (by decide)
      have n18 := sw_o (a := 18) c18 (by decide)
      have n19 := sw_o (a := 19) c19 (by decide)
      have n20 := sw_o (a := 20) c20 (by decide)
      have n21 := sw_o (a := 21) c21 (by decide)
      omega
    refine lv_tableOut (tgt := 662) hx hb dL_law_32 ho (by decide) ?_
    exact hgo X Md hJX ad rf hrf q H locs hP hD hS ls hl
theorem arr_K {s : State} {ty : FieldType} {args : Array Value} (h : (Cond.arrayClass ty).before args s = true) : ∃ cA, ArrOfT s cA ty ∧ s.vm.findClass ("[" ++ ty.toString) = some cA := by
  obtain ⟨cA, kA, comp, h1, h2, h3⟩ := Cond.arrayClass_spec h
  exact ⟨cA, fun n z => ⟨fun k h => (by cases h), kA, h2, comp, h3⟩, h1⟩
theorem arr_O {s : State} {n : String} (h : va_AO n s) : ∃ cA, ArrOfT s cA (.object n) ∧ va_RA s cA (.object n) := by
  obtain ⟨comp, cA, kA, h1, h2, h3, h4, h5⟩ := Cond.arrayOver_spec h
  exact ⟨cA, fun n z => ⟨fun k h => (by cases h), kA, h3, comp, h4⟩, kA, comp, h3, h4, h1, h5⟩
set_option maxHeartbeats 8000000 in
set_option maxRecDepth 100000 in
/-- the law from its entry, out of an invariant of both sides -/
theorem start_of (J : (Nat → St) → St → Prop) (hJ0 : J X0 M0) (hJ : ∀ X Md, J X Md → ∀ k a b : Int32, q_step k a b X Md J) {p : Program} {e : Env} {s : State} {m : MethodId} {below : List Frame} {meth : Method} {c : Code} (l : Launch) {b L : Nat} {xs : Nat → Int32} (hL : L ≤ 1536) (C0 : lw_At p s m meth c b L xs) : W p l e room_1 s m #[Value.ref b] below meth c s.heap [] 0 0 (lw_Z below #[Value.ref b] s) (entryFrame m ([Value.ref b] : List Value).toArray 4) := by
  obtain ⟨hx, hb, hr, hml, hown, hts0, hX, hbl, hlocks, hgv⟩ := id C0
  have hts := fun w h => hts0 w (wsL_law_in w h)
  have hA : ∀ q : Nat, s.heap.size ≤ q → (fun q : Nat => s.heap.size ≤ q) q := fun _ h => h
  obtain ⟨c0, iS0, hKn0⟩ := u_known (C := RX0) (T := TX0) (N := 18) (n := 18) hts0 inX0 (hts0 (.instantiable RX0 18) (by decide +kernel))
  obtain ⟨c1, iS1, hKn1⟩ := u_known (C := RX1) (T := TX1) (N := 6) (n := 6) hts0 inX1 (hts0 (.instantiable RX1 6) (by decide +kernel))
  obtain ⟨c2, iS2, hKn2⟩ := u_known (C := RX2) (T := TX2) (N := 2) (n := 2) hts0 inX2 (hts0 (.instantiable RX2 2) (by decide +kernel))
  obtain ⟨c3, iS3, hKn3⟩ := u_known (C := RX3) (T := TX3) (N := 8) (n := 8) hts0 inX3 (hts0 (.instantiable RX3 8) (by decide +kernel))
  obtain ⟨c4, iS4, hKn4⟩ := u_known (C := RX4) (T := TX4) (N := 4) (n := 4) hts0 inX4 (hts0 (.instantiable RX4 4) (by decide +kernel))
  obtain ⟨c5, iS5, hKn5⟩ := u_known (C := RX5) (T := TX5) (N := 4) (n := 4) hts0 inX5 (hts0 (.instantiable RX5 4) (by decide +kernel))
  obtain ⟨c6, iS6, hKn6⟩ := u_known (C := RX6) (T := TX6) (N := 11) (n := 11) hts0 inX6 (hts0 (.instantiable RX6 11) (by decide +kernel))
  have hKc : ∃ (dC : Nat → ClassId) (dI : Nat → Nat → Nat), ∀ (k : Nat) (q : vw_C), vwCl[k]? = some q → u_Kn s q.1 q.2.1 q.2.2 (dC k) (dI k) := by
    refine ⟨fun k => match k with | 0 => c0 | 1 => c1 | 2 => c2 | 3 => c3 | 4 => c4 | 5 => c5 | _ => c6, fun k => match k with | 0 => iS0 | 1 => iS1 | 2 => iS2 | 3 => iS3 | 4 => iS4 | 5 => iS5 | _ => iS6, ?_⟩
    intro k q hq
    match k, hq with
    | 0, hq => cases hq; exact hKn0
    | 1, hq => cases hq; exact hKn1
    | 2, hq => cases hq; exact hKn2
    | 3, hq => cases hq; exact hKn3
    | 4, hq => cases hq; exact hKn4
    | 5, hq => cases hq; exact hKn5
    | 6, hq => cases hq; exact hKn6
    | k + 7, hq => simp [vwCl] at hq
  obtain ⟨dC, dI, hKc⟩ := hKc
  have hO : va_AO "CraneGates$Dam" s := va_AO.of (hts0 (.arrayOver (.object "CraneGates$Dam")) (by decide +kernel))
  obtain ⟨cI, hI1, hI2⟩ := arr_K (hts0 (.arrayClass .int) (by decide +kernel))
  obtain ⟨cC, hC1, hC2⟩ := arr_K (hts0 (.arrayClass .char) (by decide +kernel))
  obtain ⟨cD, hD1, hD2⟩ := arr_O hO
  have hK : va_K (dC, dI) vwCl (ty3 cI cC cD) s := by
    refine ⟨hKc, fun k q hk => ?_⟩
    match k, hk with
    | 0, hk => cases hk; exact ⟨hI1, hI2⟩
    | 1, hk => cases hk; exact ⟨hC1, hC2⟩
    | 2, hk => cases hk; exact ⟨hD1, hD2⟩
    | k + 3, hk => simp [ty3] at hk
  have hN : nW s := by
    intro w hw
    simp only [nestW, List.mem_cons, List.not_mem_nil, or_false] at hw
    rcases hw with rfl | rfl | rfl | rfl | rfl | rfl | rfl <;> exact va_Nw.of rfl (hts0 _ (by decide +kernel))
  generalize hG : (dC, dI) = G at hK
  have hS : va_S (fun q : Nat => s.heap.size ≤ q) s.heap s.heap [] := va_S.rf
  have hP : va_P G vwCl [] s.heap := fun k q h => by simp at h
  have hD : va_D (fun q : Nat => s.heap.size ≤ q) [] := ⟨fun i j p q h => by simp at h, fun k q h => by simp at h⟩
  have hl := lv_entry ([.ref b]) (n := 4) (Nat.le_of_ble_eq_true rfl)
  rw [lg_entry_eq]
  generalize (lg_sl ([.ref b]) ++ List.replicate (4 - (lg_sl ([.ref b])).length) Slot.unset).toArray = ls at hl ⊢
  have hl : lv_has ls 4 [(0, .ref b)] := hl
  refine va_new (ci := 5) (fs := [.null, .null, .null, .null]) (C := RX5) (T := TX5) (N := 4) hx hb hts0 inX5 tyX5 tyX5_ok hown (hts (.classLink RL 7 RX5) (by decide +kernel)) (hts (.instantiable RX5 4) (by decide +kernel)) (hts (.initialized RX5) (by decide +kernel)) hK hP hD hS hA rfl (fun j hj => by rcases (show j = 0 ∨ j = 1 ∨ j = 2 ∨ j = 3 by omega) with rfl | rfl | rfl | rfl <;> rfl) (Nat.le_of_ble_eq_true rfl) (Nat.le_of_ble_eq_true rfl) dL_law_0 (fun a1 H hP hD hS => ?_)
  refine W.cs (cells' := 1) (slots' := 4) rfl rfl ?_
  refine lv_dup hx hb dL_law_3 rfl ?_
  refine k_ctor (As := []) (rest := [.ref a1]) (ws := []) (x := (a1, .inr (5, [.null, .null, .null, .null]))) ⟨hx, hb, hml, hown, hts⟩ (c_X5_init l G cI cC cD a1 _) (cwI 0 hts gL_law_X5_init rfl rfl rfl (hts (.initialized RX5) (by decide +kernel)) (hts (.methodLink RL 9 yX5_init) (by decide +kernel)) (hts (.instanceMethod yX5_init) (by decide +kernel)) rfl (by decide +kernel) ⟨Nat.le_of_ble_eq_true rfl, Nat.le_of_ble_eq_true rfl⟩) hK hN hO hP hD hS hA (N := 0) rfl (by decide +kernel) rfl hl.1 rfl (Nat.le_of_ble_eq_true rfl) dL_law_4 ⟨Nat.le_of_ble_eq_true rfl, Nat.le_of_ble_eq_true rfl⟩ (fun u H locs hu hP9 hD9 hS => ?_)
  refine W.cs (cells' := 103) (slots' := 828) rfl rfl ?_
  obtain ⟨ad, rf⟩ := u
  obtain ⟨hu, hrf⟩ := hu
  dsimp only at hu hrf hP9 hD9
  subst hu
  have hP : va_P G vwCl (wA cI cC cD ad X0 rf) H := hP9
  have hD : va_D (fun q : Nat => s.heap.size ≤ q) (wA cI cC cD ad X0 rf) := hD9
  refine lv_astore_n (lv' := [(1, .ref (ad 0 0)), (0, .ref b)]) hx hb dL_law_7 rfl hl (by decide) rfl (fun ls hl => ?_)
  refine va_new (ci := 6) (fs := [.null, .null, .null, .null, .int 0, .int 0, .null, .int 0, .int 0, .int 0, .null]) (C := RX6) (T := TX6) (N := 11) hx hb hts0 inX6 tyX6 tyX6_ok hown (hts (.classLink RL 10 RX6) (by decide +kernel)) (hts (.instantiable RX6 11) (by decide +kernel)) (hts (.initialized RX6) (by decide +kernel)) hK hP hD hS hA rfl (fun j hj => by rcases (show j = 0 ∨ j = 1 ∨ j = 2 ∨ j = 3 ∨ j = 4 ∨ j = 5 ∨ j = 6 ∨ j = 7 ∨ j = 8 ∨ j = 9 ∨ j = 10 by omega) with rfl | rfl | rfl | rfl | rfl | rfl | rfl | rfl | rfl | rfl | rfl <;> rfl) (Nat.le_of_ble_eq_true rfl) (Nat.le_of_ble_eq_true rfl) dL_law_8 (fun a2 H hP hD hS => ?_)
  refine W.cs (cells' := 104) (slots' := 839) rfl rfl ?_
  refine lv_dup hx hb dL_law_11 rfl ?_
  refine k_ctor (As := []) (rest := [.ref a2]) (ws := (wA cI cC cD ad X0 rf)) (x := (a2, .inr (6, [.null, .null, .null, .null, .int 0, .int 0, .null, .int 0, .int 0, .int 0, .null]))) ⟨hx, hb, hml, hown, hts⟩ (c_X6_init l G cI cC cD a2 _) (cwI 0 hts gL_law_X6_init rfl rfl rfl (hts (.initialized RX6) (by decide +kernel)) (hts (.methodLink RL 12 yX6_init) (by decide +kernel)) (hts (.instanceMethod yX6_init) (by decide +kernel)) rfl (by decide +kernel) ⟨Nat.le_of_ble_eq_true rfl, Nat.le_of_ble_eq_true rfl⟩) hK hN hO hP hD hS hA (N := 103) rfl (by decide +kernel) rfl hl.1 rfl (Nat.le_of_ble_eq_true rfl) dL_law_12 ⟨Nat.le_of_ble_eq_true rfl, Nat.le_of_ble_eq_true rfl⟩ (fun q H locs hu hP9 hD9 hS => ?_)
  refine W.cs (cells' := 110) (slots' := 1503) rfl rfl ?_
  subst hu
  obtain ⟨hP, hD⟩ := app_swap (wA cI cC cD ad X0 rf) (wM cI q M0) hP9 hD9
  refine lv_astore_n (lv' := [(2, .ref (q 0)), (1, .ref (ad 0 0)), (0, .ref b)]) hx hb dL_law_15 rfl hl (by decide) rfl (fun ls hl => ?_)
  refine lv_iconst (v := 0) hx hb dL_law_16 (by decide) ?_
  refine lv_istore_n (lv' := [(3, .int (nI 0)), (2, .ref (q 0)), (1, .ref (ad 0 0)), (0, .ref b)]) hx hb dL_law_17 rfl hl (by decide) rfl (fun ls hl => ?_)
  refine W.widen (k := 600000) (n := 7302250) (Nat.le_of_ble_eq_true rfl) (Nat.le_of_ble_eq_true rfl) ?_
  exact law_loop hL C0 hK hN J hJ (L + 1) 0 (Nat.zero_le L) (by omega) X0 M0 hJ0 ad rf hrf q H locs hP hD hS ls hl
