/-! The base: states as functions of a component and a place; the worlds of each kind of object; calls as one row each. -/
abbrev St : Type := Nat → Nat → Int32
def uA (D : St) (j : Nat) (f : Nat → Int32) : St := fun i => cond (Nat.beq i j) f (D i)
theorem uA_s (D : St) (j : Nat) (f : Nat → Int32) : uA D j f j = f := by
  have h : Nat.beq j j = true := by simp
  simp [uA, h]
theorem uA_n {D : St} {i j : Nat} {f : Nat → Int32} (h : i ≠ j) : uA D j f i = D i := by
  have h2 : Nat.beq i j = false := by
    cases hq : Nat.beq i j with
    | false => rfl
    | true => exact absurd (Nat.eq_of_beq_eq_true hq) h
  simp [uA, h2]
abbrev ty3 (cI cC cD : ClassId) : List (ClassId × FieldType) := [(cI, .int), (cC, .char), (cD, .object "CraneGates$Dam")]
/-- the calls of private members among nest mates -/
def nestW : List Cond := [.methodLinkNest "CraneGates" 21 yX2_init "CraneGates", .methodLinkNest "CraneGates" 28 yX3_init "CraneGates", .methodLinkNest "CraneGates" 9 yX0_init "CraneGates", .methodLinkNest "CraneGates$Dam" 11 yX1_init "CraneGates", .methodLinkNest "CraneGates$Dam" 20 yX4_init "CraneGates", .methodLinkNest "CraneGates$History" 17 yX0_init "CraneGates", .methodLinkNest "CraneGates$Script" 42 yX5_isError "CraneGates"]
def nW (U : State) : Prop := ∀ w ∈ nestW, va_Nw w U
theorem nW_warm {s U : State} (hW : s.WarmedH U.vm) (h : nW s) : nW U := by
  intro w hw
  have h1 := h w hw
  simp only [nestW, List.mem_cons, List.not_mem_nil, or_false] at hw
  rcases hw with rfl | rfl | rfl | rfl | rfl | rfl | rfl <;> exact va_Nw.warmM hW h1
theorem nW_same {u U : State} (e : u.vm = U.vm) (h : nW u) : nW U := by
  intro w hw
  have h1 := h w hw
  simp only [nestW, List.mem_cons, List.not_mem_nil, or_false] at hw
  rcases hw with rfl | rfl | rfl | rfl | rfl | rfl | rfl <;> exact va_Nw.same rfl e h1
abbrev PW (G : va_G) (tys : List (ClassId × FieldType)) (w : va_W) (sz : Nat) : State → Prop := fun U => U.heap.size = sz ∧ va_P G vwCl w U.heap ∧ va_K G vwCl tys U ∧ va_D (fun _ => True) w ∧ nW U
abbrev BW {S : Type} (G : va_G) (w : S → va_W) (A : Nat → Prop) : S → State → Prop := fun u t => va_P G vwCl (w u) t.heap ∧ va_D A (w u)
/-- a row of tasks -/
abbrev wT (cI : ClassId) (h a b : Nat) (T : St) : va_W := [(h, .inr (4, [.ref a, .ref b, .int (T 2 0), .int (T 3 0)])), (a, .inl (cI, 8, .inl (T 0))), (b, .inl (cI, 8, .inl (T 1)))]
/-- the gates -/
abbrev wG (cI : ClassId) (h a b c d e : Nat) (T : St) : va_W := [(h, .inr (1, [.ref a, .ref b, .ref c, .ref d, .ref e, .int (T 5 0)])), (a, .inl (cI, 8, .inl (T 0))), (b, .inl (cI, 8, .inl (T 1))), (c, .inl (cI, 8, .inl (T 2))), (d, .inl (cI, 8, .inl (T 3))), (e, .inl (cI, 8, .inl (T 4)))]
/-- a dam: components 0 to 5 its gates, 6 to 9 its orders, 10 to 13 its marks, 14 its settings, 15 to 28 its numbers -/
abbrev wD (cI : ClassId) (q : Nat → Nat) (D : St) : va_W := [(q 0, .inr (0, [.ref (q 1), .ref (q 7), .ref (q 10), .ref (q 13), .int (D 15 0), .int (D 16 0), .int (D 17 0), .int (D 18 0), .int (D 19 0), .int (D 20 0), .int (D 21 0), .int (D 22 0), .int (D 23 0), .int (D 24 0), .int (D 25 0), .int (D 26 0), .int (D 27 0), .int (D 28 0)])),
  (q 1, .inr (1, [.ref (q 2), .ref (q 3), .ref (q 4), .ref (q 5), .ref (q 6), .int (D 5 0)])), (q 2, .inl (cI, 8, .inl (D 0))), (q 3, .inl (cI, 8, .inl (D 1))), (q 4, .inl (cI, 8, .inl (D 2))), (q 5, .inl (cI, 8, .inl (D 3))), (q 6, .inl (cI, 8, .inl (D 4))),
  (q 7, .inr (4, [.ref (q 8), .ref (q 9), .int (D 8 0), .int (D 9 0)])), (q 8, .inl (cI, 8, .inl (D 6))), (q 9, .inl (cI, 8, .inl (D 7))),
  (q 10, .inr (4, [.ref (q 11), .ref (q 12), .int (D 12 0), .int (D 13 0)])), (q 11, .inl (cI, 8, .inl (D 10))), (q 12, .inl (cI, 8, .inl (D 11))), (q 13, .inl (cI, 3, .inl (D 14)))]
/-- the reference: components by the places of its fields -/
abbrev wM (cI : ClassId) (q : Nat → Nat) (M : St) : va_W := [(q 0, .inr (6, [.ref (q 1), .ref (q 2), .ref (q 3), .ref (q 4), .int (M 4 0), .int (M 5 0), .ref (q 5), .int (M 7 0), .int (M 8 0), .int (M 9 0), .ref (q 6)])),
  (q 1, .inl (cI, 86, .inl (M 0))), (q 2, .inl (cI, 344, .inl (M 1))), (q 3, .inl (cI, 86, .inl (M 2))), (q 4, .inl (cI, 86, .inl (M 3))), (q 5, .inl (cI, 60, .inl (M 6))), (q 6, .inl (cI, 2, .inl (M 10)))]
/-- two rows of the reference -/
abbrev w2 (cI : ClassId) (a b : Nat) (S : St) : va_W := [(a, .inl (cI, 86, .inl (S 0))), (b, .inl (cI, 86, .inl (S 1)))]
/-- a script -/
abbrev wS (cC : ClassId) (a b : Nat) (C : St) : va_W := [(a, .inr (3, [.ref b, .int (C 1 0), .int (C 2 0), .int (C 3 0), .int (C 4 0), .int (C 5 0), .int (C 6 0), .int (C 7 0)])), (b, .inl (cC, 60, .inl (C 0)))]
abbrev mgG (D u : St) : St := uA (uA (uA (uA (uA (uA D 0 (u 0)) 1 (u 1)) 2 (u 2)) 3 (u 3)) 4 (u 4)) 5 (u 5)
abbrev mgO (D u : St) : St := uA (uA (uA (uA D 6 (u 0)) 7 (u 1)) 8 (u 2)) 9 (u 3)
abbrev mgK (D u : St) : St := uA (uA (uA (uA D 10 (u 0)) 11 (u 1)) 12 (u 2)) 13 (u 3)
def isC (v : Int32) : Prop := narrow .char (.int v) = .int v ∧ fits .char (.int v) = true
def isZ (v : Int32) : Prop := v = 0 ∨ v = 1
theorem isZ_n {v : Int32} (h : isZ v) : narrow .boolean (.int v) = .int v := by rcases h with rfl | rfl <;> rfl
theorem isZ_f {v : Int32} (h : isZ v) : fits .boolean (.int v) = true := by rcases h with rfl | rfl <;> rfl
/-- a callee's cells among the caller's, by their places -/
def Em (ws wc : va_W) (is : List Nat) : Prop := is.map (fun i => ws[i]?) = wc.map some ∧ va_nd is = true
/-- the caller's cells behind the call -/
def Rp (ws w1 ws' : va_W) (is : List Nat) : Prop := ws'.map Prod.fst = ws.map Prod.fst ∧ is.map (fun i => ws'[i]?) = w1.map some ∧ ∀ k, k ∉ is → ws'[k]? = ws[k]?
theorem em_mem {ws wc : va_W} {is : List Nat} (h : Em ws wc is) {k : Nat} {q : Nat × va_E} (hq : wc[k]? = some q) : ∃ i, is[k]? = some i ∧ ws[i]? = some q := by
  have h1 : (is.map (fun i => ws[i]?))[k]? = some (some q) := by rw [h.1, List.getElem?_map, hq]; rfl
  rw [List.getElem?_map] at h1
  cases hi : is[k]? with
  | none => rw [hi] at h1; cases h1
  | some i => rw [hi] at h1; exact ⟨i, rfl, Option.some.inj h1⟩
theorem em_P {G : va_G} {cl : List vw_C} {ws wc : va_W} {is : List Nat} {H : Heap} (h : Em ws wc is) (hP : va_P G cl ws H) : va_P G cl wc H := by
  intro k q hk
  obtain ⟨i, -, h2⟩ := em_mem h hk
  exact hP i q h2
theorem em_D {A : Nat → Prop} {ws wc : va_W} {is : List Nat} (h : Em ws wc is) (hD : va_D A ws) : va_D A wc := hD.sub is h.2 h.1
theorem rp_self {ws wc : va_W} {is : List Nat} (h : Em ws wc is) : Rp ws wc ws is := ⟨rfl, h.1, fun _ _ => rfl⟩
theorem rp_back {A0 : Nat → Prop} {G : va_G} {cl : List vw_C} {ws wc w1 ws' : va_W} {is : List Nat} {H H1 : Heap} (hP : va_P G cl ws H) (hD : va_D A0 ws) (hE : Em ws wc is) (hR : Rp ws w1 ws' is) (hk : ∀ q : Nat, q < H.size → ¬ va_A wc H.size q → H1[q]? = H[q]?) (hP1 : va_P G cl w1 H1) : va_P G cl ws' H1 ∧ va_D A0 ws' := by
  obtain ⟨r1, r2, r3⟩ := hR
  have fst : ∀ (k : Nat) (q : Nat × va_E), ws'[k]? = some q → ∃ q0, ws[k]? = some q0 ∧ q0.1 = q.1 := by
    intro k q hq
    have h1 : (ws'.map Prod.fst)[k]? = some q.1 := by rw [List.getElem?_map, hq]; rfl
    rw [r1, List.getElem?_map] at h1
    cases h2 : ws[k]? with
    | none => rw [h2] at h1; cases h1
    | some q0 => rw [h2] at h1; exact ⟨q0, rfl, Option.some.inj h1⟩
  refine ⟨fun k q hq => ?_, fun i j x y hi hj hxy => ?_, fun k q hq => ?_⟩
  · by_cases hin : k ∈ is
    · obtain ⟨j, hj⟩ := List.getElem?_of_mem hin
      have h1 : (is.map (fun i => ws'[i]?))[j]? = some (some q) := by rw [List.getElem?_map, hj, Option.map_some, hq]
      rw [r2, List.getElem?_map] at h1
      cases h2 : w1[j]? with
      | none => rw [h2] at h1; cases h1
      | some q1 =>
        rw [h2] at h1
        have : q1 = q := Option.some.inj (Option.some.inj h1)
        subst this
        exact hP1 j q1 h2
    · have h1 : ws[k]? = some q := (r3 k hin).symm.trans hq
      have hl := (hP k q h1).lt
      refine (hP k q h1).kept (hk q.1 hl fun h => ?_)
      rcases h with ⟨k2, e, h⟩ | h
      · obtain ⟨i, h3, h4⟩ := em_mem hE h
        have := hD.1 k i q (q.1, e) h1 h4 rfl
        subst this
        exact hin (List.mem_of_getElem? h3)
      · omega
  · obtain ⟨x0, a1, a2⟩ := fst i x hi
    obtain ⟨y0, b1, b2⟩ := fst j y hj
    exact hD.1 i j x0 y0 a1 b1 (by rw [a2, b2]; exact hxy)
  · obtain ⟨q0, a1, a2⟩ := fst k q hq
    rw [← a2]; exact hD.2 k q0 a1
theorem PW_blind {G : va_G} {tys : List (ClassId × FieldType)} {w : va_W} {sz : Nat} {av : List Value} : FrameBlind (va_Pc av (PW G tys w sz)) := fun a U g mk q => by
  obtain ⟨q0, q1, qP, qK, qD, qN⟩ := q
  exact ⟨q0, q1, qP, va_K.moved (u := U) (U := U.calling g mk a) (Vm.Alike.refl U.vm) qK, qD, nW_same (u := U) rfl qN⟩
theorem PW_in {G : va_G} {tys : List (ClassId × FieldType)} {w : va_W} {av : List Value} {s : State} {H : Heap} {A : Nat → Prop} (hP : va_P G vwCl w H) (hK : va_K G vwCl tys s) (hN : nW s) (hD : va_D A w) : ∀ U : State, U.heap = H → s.WarmedH U.vm → va_Pc av (PW G tys w H.size) av.toArray U := fun U hU hW =>
  ⟨rfl, by rw [hU], by rw [hU]; exact hP, va_K.moved hW.alike hK, hD.weaken (fun _ _ _ _ => trivial), nW_warm hW hN⟩
section KC
variable {p : Program} {l : Launch} {e : Env} {R : Room} {s : State} {m : MethodId} {args : Array Value} {below : List Frame} {meth : Method} {c : Code} {H : Heap} {locs : List Loc} {cells slots : Nat} {Q : State → Prop}
variable {cc bytes : ByteArray} {nL maxL index n pc : Nat} {own C : String} {y : MethodName} {ret : Option FieldType} {rm : Room} {Ts ws0 : List Cond} {ls : Array Slot} {st rest As : List Value} {b : Nat} {G : va_G} {tys : List (ClassId × FieldType)} {A : Nat → Prop} {H0 : Heap} {ws wc : va_W} {is : List Nat}
/-- a call on an object that answers an int -/
theorem kc_i {S : Type} {post : Int32 → S → Prop} {wf wg : S → va_W} (Sx : CallFix p m c cc nL s args Ts own) (hM : Met l y ws0 rm (va_Pc (.ref b :: As) (PW G tys wc H.size)) (va_Qi post (BW G wf (va_A wc H.size)) (va_A wc H.size)) 0 0 (va_A wc H.size)) (cw : CallW R s args own C index y bytes maxL ret ws0 rm 0 0 n)
    (hK : va_K G vwCl tys s) (hN : nW s) (hP : va_P G vwCl ws H) (hD : va_D A ws) (hS : va_S A H0 H locs) (hA : ∀ q, H0.size ≤ q → A q) (hE : Em ws wc is) (hR : ∀ u, Rp ws (wf u) (wg u) is) {ci : Nat} {qC : vw_C} (hc : vwCl[ci]? = some qC) (hC : qC.1 = C) {fs : List Value} (hb0 : wc[0]? = some (b, .inr (ci, fs)))
    (hn : As.length = n) (hsize : ls.size = nL) (hstack : st = As.reverse ++ .ref b :: rest) (hW : (rest.map fun v => v.category).sum ≤ 8) (hdg : decode cc pc = .ok (.invokevirtual index, 3)) (hf : cells + 0 ≤ R.cells ∧ slots + 0 ≤ R.slots)
    (kk : ∀ (r : Int32) (u : S) (H1 : Heap) (locs1 : List Loc), post r u → va_P G vwCl (wg u) H1 → va_D A (wg u) → va_S A H0 H1 locs1 → W p l e R s m args below meth c H1 locs1 cells slots Q (F0 m (pc + 3) ls (.int r :: rest))) : W p l e R s m args below meth c H locs cells slots Q (F0 m pc ls st) := by
  have hPc := em_P hE hP
  have hDc := em_D hE hD
  have hFc := va_free hD hS hA is hE.1
  subst hC
  refine va_calli (va_runV (As := As) (rest := rest) Sx hM cw ⟨PW_blind, va_recv hK hPc hc hb0, PW_in hPc hK hN hDc⟩ rfl hn hsize hstack (lv_room hW) hdg hf) hS (fun q _ h => hFc q h) hFc (fun r u t H1 locs ht hvm hw hB hz1 hk1 hS => ?_)
  obtain ⟨hP1, hD1⟩ := hB
  rw [ht] at hP1
  obtain ⟨hP2, hD2⟩ := rp_back hP hD hE (hR u) hk1 hP1
  exact kk r u H1 locs hw hP2 hD2 hS
theorem kc_v {S : Type} {post : S → Prop} {wf wg : S → va_W} (Sx : CallFix p m c cc nL s args Ts own) (hM : Met l y ws0 rm (va_Pc (.ref b :: As) (PW G tys wc H.size)) (va_Qv post (BW G wf (va_A wc H.size)) (va_A wc H.size)) 0 0 (va_A wc H.size)) (cw : CallW R s args own C index y bytes maxL ret ws0 rm 0 0 n)
    (hK : va_K G vwCl tys s) (hN : nW s) (hP : va_P G vwCl ws H) (hD : va_D A ws) (hS : va_S A H0 H locs) (hA : ∀ q, H0.size ≤ q → A q) (hE : Em ws wc is) (hR : ∀ u, Rp ws (wf u) (wg u) is) {ci : Nat} {qC : vw_C} (hc : vwCl[ci]? = some qC) (hC : qC.1 = C) {fs : List Value} (hb0 : wc[0]? = some (b, .inr (ci, fs)))
    (hn : As.length = n) (hsize : ls.size = nL) (hstack : st = As.reverse ++ .ref b :: rest) (hW : (rest.map fun v => v.category).sum ≤ 8) (hdg : decode cc pc = .ok (.invokevirtual index, 3)) (hf : cells + 0 ≤ R.cells ∧ slots + 0 ≤ R.slots)
    (kk : ∀ (u : S) (H1 : Heap) (locs1 : List Loc), post u → va_P G vwCl (wg u) H1 → va_D A (wg u) → va_S A H0 H1 locs1 → W p l e R s m args below meth c H1 locs1 cells slots Q (F0 m (pc + 3) ls rest)) : W p l e R s m args below meth c H locs cells slots Q (F0 m pc ls st) := by
  have hPc := em_P hE hP
  have hDc := em_D hE hD
  have hFc := va_free hD hS hA is hE.1
  subst hC
  refine va_callv (va_runV (As := As) (rest := rest) Sx hM cw ⟨PW_blind, va_recv hK hPc hc hb0, PW_in hPc hK hN hDc⟩ rfl hn hsize hstack (lv_room hW) hdg hf) hS (fun q _ h => hFc q h) hFc (fun u t H1 locs ht hvm hw hB hz1 hk1 hS => ?_)
  obtain ⟨hP1, hD1⟩ := hB
  rw [ht] at hP1
  obtain ⟨hP2, hD2⟩ := rp_back hP hD hE (hR u) hk1 hP1
  exact kk u H1 locs hw hP2 hD2 hS
/-- a static call -/
theorem ks_i {S : Type} {post : Int32 → S → Prop} {wf wg : S → va_W} (Sx : CallFix p m c cc nL s args Ts own) (hM : Met l y ws0 rm (va_Pc As (PW G tys wc H.size)) (va_Qi post (BW G wf (va_A wc H.size)) (va_A wc H.size)) 0 0 (va_A wc H.size)) (cw : CallB R s args own index y bytes maxL ret ws0 rm 0 0 n ∧ (Cond.static y).before args s = true)
    (hK : va_K G vwCl tys s) (hN : nW s) (hP : va_P G vwCl ws H) (hD : va_D A ws) (hS : va_S A H0 H locs) (hA : ∀ q, H0.size ≤ q → A q) (hE : Em ws wc is) (hR : ∀ u, Rp ws (wf u) (wg u) is)
    (hn : As.length = n) (hsize : ls.size = nL) (hstack : st = As.reverse ++ rest) (hW : (rest.map fun v => v.category).sum ≤ 8) (hdg : decode cc pc = .ok (.invokestatic index, 3)) (hf : cells + 0 ≤ R.cells ∧ slots + 0 ≤ R.slots)
    (kk : ∀ (r : Int32) (u : S) (H1 : Heap) (locs1 : List Loc), post r u → va_P G vwCl (wg u) H1 → va_D A (wg u) → va_S A H0 H1 locs1 → W p l e R s m args below meth c H1 locs1 cells slots Q (F0 m (pc + 3) ls (.int r :: rest))) : W p l e R s m args below meth c H locs cells slots Q (F0 m pc ls st) := by
  have hPc := em_P hE hP
  have hDc := em_D hE hD
  have hFc := va_free hD hS hA is hE.1
  refine va_calli (va_runS (As := As) (rest := rest) Sx hM cw ⟨PW_blind, PW_in hPc hK hN hDc⟩ rfl hn hsize hstack (lv_room hW) hdg hf) hS (fun q _ h => hFc q h) hFc (fun r u t H1 locs ht hvm hw hB hz1 hk1 hS => ?_)
  obtain ⟨hP1, hD1⟩ := hB
  rw [ht] at hP1
  obtain ⟨hP2, hD2⟩ := rp_back hP hD hE (hR u) hk1 hP1
  exact kk r u H1 locs hw hP2 hD2 hS
theorem kn_i {S : Type} {post : Int32 → S → Prop} {wf wg : S → va_W} (Sx : CallFix p m c cc nL s args Ts own) (hM : Met l y ws0 rm (va_Pc As (PW G tys wc H.size)) (va_Qi post (BW G wf (va_A wc H.size)) (va_A wc H.size)) 0 0 (va_A wc H.size)) {host : String} (cw : va_CN R s args own index y host bytes maxL ret ws0 rm 0 0 n ∧ (Cond.static y).before args s = true ∧ True)
    (hK : va_K G vwCl tys s) (hN : nW s) (hP : va_P G vwCl ws H) (hD : va_D A ws) (hS : va_S A H0 H locs) (hA : ∀ q, H0.size ≤ q → A q) (hE : Em ws wc is) (hR : ∀ u, Rp ws (wf u) (wg u) is)
    (hn : As.length = n) (hsize : ls.size = nL) (hstack : st = As.reverse ++ rest) (hW : (rest.map fun v => v.category).sum ≤ 8) (hdg : decode cc pc = .ok (.invokestatic index, 3)) (hf : cells + 0 ≤ R.cells ∧ slots + 0 ≤ R.slots)
    (kk : ∀ (r : Int32) (u : S) (H1 : Heap) (locs1 : List Loc), post r u → va_P G vwCl (wg u) H1 → va_D A (wg u) → va_S A H0 H1 locs1 → W p l e R s m args below meth c H1 locs1 cells slots Q (F0 m (pc + 3) ls (.int r :: rest))) : W p l e R s m args below meth c H locs cells slots Q (F0 m pc ls st) := by
  have hPc := em_P hE hP
  have hDc := em_D hE hD
  have hFc := va_free hD hS hA is hE.1
  refine va_calli (va_runSN (As := As) (rest := rest) Sx hM cw ⟨PW_blind, PW_in hPc hK hN hDc⟩ rfl hn hsize hstack (lv_room hW) hdg hf) hS (fun q _ h => hFc q h) hFc (fun r u t H1 locs ht hvm hw hB hz1 hk1 hS => ?_)
  obtain ⟨hP1, hD1⟩ := hB
  rw [ht] at hP1
  obtain ⟨hP2, hD2⟩ := rp_back hP hD hE (hR u) hk1 hP1
  exact kk r u H1 locs hw hP2 hD2 hS
theorem ks_v {S : Type} {post : S → Prop} {wf wg : S → va_W} (Sx : CallFix p m c cc nL s args Ts own) (hM : Met l y ws0 rm (va_Pc As (PW G tys wc H.size)) (va_Qv post (BW G wf (va_A wc H.size)) (va_A wc H.size)) 0 0 (va_A wc H.size)) (cw : CallB R s args own index y bytes maxL ret ws0 rm 0 0 n ∧ (Cond.static y).before args s = true)
    (hK : va_K G vwCl tys s) (hN : nW s) (hP : va_P G vwCl ws H) (hD : va_D A ws) (hS : va_S A H0 H locs) (hA : ∀ q, H0.size ≤ q → A q) (hE : Em ws wc is) (hR : ∀ u, Rp ws (wf u) (wg u) is)
    (hn : As.length = n) (hsize : ls.size = nL) (hstack : st = As.reverse ++ rest) (hW : (rest.map fun v => v.category).sum ≤ 8) (hdg : decode cc pc = .ok (.invokestatic index, 3)) (hf : cells + 0 ≤ R.cells ∧ slots + 0 ≤ R.slots)
    (kk : ∀ (u : S) (H1 : Heap) (locs1 : List Loc), post u → va_P G vwCl (wg u) H1 → va_D A (wg u) → va_S A H0 H1 locs1 → W p l e R s m args below meth c H1 locs1 cells slots Q (F0 m (pc + 3) ls rest)) : W p l e R s m args below meth c H locs cells slots Q (F0 m pc ls st) := by
  have hPc := em_P hE hP
  have hDc := em_D hE hD
  have hFc := va_free hD hS hA is hE.1
  refine va_callv (va_runS (As := As) (rest := rest) Sx hM cw ⟨PW_blind, PW_in hPc hK hN hDc⟩ rfl hn hsize hstack (lv_room hW) hdg hf) hS (fun q _ h => hFc q h) hFc (fun u t H1 locs ht hvm hw hB hz1 hk1 hS => ?_)
  obtain ⟨hP1, hD1⟩ := hB
  rw [ht] at hP1
  obtain ⟨hP2, hD2⟩ := rp_back hP hD hE (hR u) hk1 hP1
  exact kk u H1 locs hw hP2 hD2 hS
theorem kw_i {S : Type} {post : Int32 → S → Prop} {wf : S → va_W} {k0 : Nat} (Sx : CallFix p m c cc nL s args Ts own) (hM : Met l y ws0 rm (va_Pc (.ref b :: As) (PW G tys ws H.size)) (va_Qi post (BW G wf (va_A ws H.size)) (va_A ws H.size)) 0 0 (va_A ws H.size)) (cw : CallW R s args own C index y bytes maxL ret ws0 rm 0 0 n)
    (hK : va_K G vwCl tys s) (hN : nW s) (hP : va_P G vwCl ws H) (hD : va_D A ws) (hS : va_S A H0 H locs) (hA : ∀ q, H0.size ≤ q → A q) {ci : Nat} {qC : vw_C} (hc : vwCl[ci]? = some qC) (hC : qC.1 = C) {fs : List Value} (hb0 : ws[k0]? = some (b, .inr (ci, fs)))
    (hn : As.length = n) (hsize : ls.size = nL) (hstack : st = As.reverse ++ .ref b :: rest) (hW : (rest.map fun v => v.category).sum ≤ 8) (hdg : decode cc pc = .ok (.invokevirtual index, 3)) (hf : cells + 0 ≤ R.cells ∧ slots + 0 ≤ R.slots)
    (kk : ∀ (r : Int32) (u : S) (H1 : Heap) (locs1 : List Loc), post r u → va_P G vwCl (wf u) H1 → va_D A (wf u) → va_S A H0 H1 locs1 → W p l e R s m args below meth c H1 locs1 cells slots Q (F0 m (pc + 3) ls (.int r :: rest))) : W p l e R s m args below meth c H locs cells slots Q (F0 m pc ls st) := by
  have hFc : ∀ q, va_A ws H.size q → A q := fun q h => by
    rcases h with ⟨k, e, h⟩ | h
    · exact hD.2 k _ h
    · exact hA q (Nat.le_trans hS.1 h)
  subst hC
  refine va_calli (va_runV (As := As) (rest := rest) Sx hM cw ⟨PW_blind, va_recv hK hP hc hb0, PW_in hP hK hN hD⟩ rfl hn hsize hstack (lv_room hW) hdg hf) hS (fun q _ h => hFc q h) hFc (fun r u t H1 locs ht hvm hw hB hz1 hk1 hS => ?_)
  obtain ⟨hP1, hD1⟩ := hB
  rw [ht] at hP1
  exact kk r u H1 locs hw hP1 (hD1.weaken (fun _ q _ h => hFc q.1 h)) hS
theorem kw_v {S : Type} {post : S → Prop} {wf : S → va_W} {k0 : Nat} (Sx : CallFix p m c cc nL s args Ts own) (hM : Met l y ws0 rm (va_Pc (.ref b :: As) (PW G tys ws H.size)) (va_Qv post (BW G wf (va_A ws H.size)) (va_A ws H.size)) 0 0 (va_A ws H.size)) (cw : CallW R s args own C index y bytes maxL ret ws0 rm 0 0 n)
    (hK : va_K G vwCl tys s) (hN : nW s) (hP : va_P G vwCl ws H) (hD : va_D A ws) (hS : va_S A H0 H locs) (hA : ∀ q, H0.size ≤ q → A q) {ci : Nat} {qC : vw_C} (hc : vwCl[ci]? = some qC) (hC : qC.1 = C) {fs : List Value} (hb0 : ws[k0]? = some (b, .inr (ci, fs)))
    (hn : As.length = n) (hsize : ls.size = nL) (hstack : st = As.reverse ++ .ref b :: rest) (hW : (rest.map fun v => v.category).sum ≤ 8) (hdg : decode cc pc = .ok (.invokevirtual index, 3)) (hf : cells + 0 ≤ R.cells ∧ slots + 0 ≤ R.slots)
    (kk : ∀ (u : S) (H1 : Heap) (locs1 : List Loc), post u → va_P G vwCl (wf u) H1 → va_D A (wf u) → va_S A H0 H1 locs1 → W p l e R s m args below meth c H1 locs1 cells slots Q (F0 m (pc + 3) ls rest)) : W p l e R s m args below meth c H locs cells slots Q (F0 m pc ls st) := by
  have hFc : ∀ q, va_A ws H.size q → A q := fun q h => by
    rcases h with ⟨k, e, h⟩ | h
    · exact hD.2 k _ h
    · exact hA q (Nat.le_trans hS.1 h)
  subst hC
  refine va_callv (va_runV (As := As) (rest := rest) Sx hM cw ⟨PW_blind, va_recv hK hP hc hb0, PW_in hP hK hN hD⟩ rfl hn hsize hstack (lv_room hW) hdg hf) hS (fun q _ h => hFc q h) hFc (fun u t H1 locs ht hvm hw hB hz1 hk1 hS => ?_)
  obtain ⟨hP1, hD1⟩ := hB
  rw [ht] at hP1
  exact kk u H1 locs hw hP1 (hD1.weaken (fun _ q _ h => hFc q.1 h)) hS
/-- a call that answers a cell known beforehand, and changes nothing -/
theorem kc_r {a : Nat} (Sx : CallFix p m c cc nL s args Ts own) (hM : Met l y ws0 rm (va_Pc (.ref b :: As) (PW G tys wc H.size)) (va_Qr (fun _ : Unit => True) (fun _ ra t => ra = a ∧ va_P G vwCl wc t.heap ∧ va_D (va_A wc H.size) wc) (va_A wc H.size)) 0 0 (va_A wc H.size)) (cw : CallW R s args own C index y bytes maxL ret ws0 rm 0 0 n)
    (hK : va_K G vwCl tys s) (hN : nW s) (hP : va_P G vwCl ws H) (hD : va_D A ws) (hS : va_S A H0 H locs) (hA : ∀ q, H0.size ≤ q → A q) (hE : Em ws wc is) {ci : Nat} {qC : vw_C} (hc : vwCl[ci]? = some qC) (hC : qC.1 = C) {fs : List Value} (hb0 : wc[0]? = some (b, .inr (ci, fs)))
    (hn : As.length = n) (hsize : ls.size = nL) (hstack : st = As.reverse ++ .ref b :: rest) (hW : (rest.map fun v => v.category).sum ≤ 8) (hdg : decode cc pc = .ok (.invokevirtual index, 3)) (hf : cells + 0 ≤ R.cells ∧ slots + 0 ≤ R.slots)
    (kk : ∀ (H1 : Heap) (locs1 : List Loc), va_P G vwCl ws H1 → va_D A ws → va_S A H0 H1 locs1 → W p l e R s m args below meth c H1 locs1 cells slots Q (F0 m (pc + 3) ls (.ref a :: rest))) : W p l e R s m args below meth c H locs cells slots Q (F0 m pc ls st) := by
  have hPc := em_P hE hP
  have hDc := em_D hE hD
  have hFc := va_free hD hS hA is hE.1
  subst hC
  refine va_callr (va_runV (As := As) (rest := rest) Sx hM cw ⟨PW_blind, va_recv hK hPc hc hb0, PW_in hPc hK hN hDc⟩ rfl hn hsize hstack (lv_room hW) hdg hf) hS (fun q _ h => hFc q h) hFc (fun u ra t H1 locs ht hvm hw hB hz1 hk1 hS => ?_)
  obtain ⟨rfl, hP1, hD1⟩ := hB
  rw [ht] at hP1
  obtain ⟨hP2, hD2⟩ := rp_back hP hD hE (rp_self hE) hk1 hP1
  exact kk H1 locs hP2 hD2 hS
/-- a reference out of a row of references, and into one -/
theorem k_rld (hexec : p.tables.exec = Jvm.exec) (hb : c.code = cc) (hK : va_K G vwCl tys s) (hP : va_P G vwCl ws H) (q0 t0 : Nat) {a : Nat} {cA : ClassId} {C : String} {N : Nat} {f : Nat → Option Nat} (ha : ws[q0]? = some (a, .inl (cA, N, .inr (.inr (.inr (.inr f)))))) (ht : tys[t0]? = some (cA, .object C)) {i : Int32} (hin : vp_in i N) {j v : Nat} (hj : i.toNatClampNeg = j) (hv : f j = some v) (hdg : decode cc pc = .ok (.aaload, 1))
    (kk : W p l e R s m args below meth c H locs cells slots Q (F0 m (pc + 1) ls (.ref v :: rest))) : W p l e R s m args below meth c H locs cells slots Q (F0 m pc ls (.int i :: .ref a :: rest)) := by
  subst hj
  refine va_aldq hexec hb hK hP q0 t0 ha ht hin hdg ?_
  rw [hv]
  exact kk
theorem k_rst (hexec : p.tables.exec = Jvm.exec) (hb : c.code = cc) (hK : va_K G vwCl tys s) (hP : va_P G vwCl ws H) (hD : va_D A ws) (hS : va_S A H0 H locs) (q0 t0 qk ci : Nat) {a : Nat} {cA : ClassId} {r : vw_C} {N v : Nat} {vs : List Value} {f : Nat → Option Nat} (ha : ws[q0]? = some (a, .inl (cA, N, .inr (.inr (.inr (.inr f)))))) (ht : tys[t0]? = some (cA, .object r.1)) (hv : ws[qk]? = some (v, .inr (ci, vs))) (hc : vwCl[ci]? = some r) {i : Int32} (hin : vp_in i N) {j : Nat} (hj : i.toNatClampNeg = j) (hdg : decode cc pc = .ok (.aastore, 1)) {ws' : va_W} (hw : ws.set q0 (a, .inl (cA, N, .inr (.inr (.inr (.inr (va_up f j (some v))))))) = ws')
    (kk : ∀ (H1 : Heap) (locs1 : List Loc), va_P G vwCl ws' H1 → va_D A ws' → va_S A H0 H1 locs1 → W p l e R s m args below meth c H1 locs1 cells slots Q (F0 m (pc + 1) ls rest)) : W p l e R s m args below meth c H locs cells slots Q (F0 m pc ls (.ref v :: .int i :: .ref a :: rest)) := by
  subst hj
  subst hw
  exact va_astq hexec hb hK hP hD hS q0 t0 qk ci ha ht hv hc hin hdg kk
/-- an int out of an int array, and into one, with names for place and value -/
theorem k_ald (hexec : p.tables.exec = Jvm.exec) (hb : c.code = cc) (hK : va_K G vwCl tys s) (hP : va_P G vwCl ws H) (q0 t0 : Nat) {a : Nat} {cA : ClassId} {N : Nat} {f : Nat → Int32} (ha : ws[q0]? = some (a, .inl (cA, N, .inl f))) (ht : tys[t0]? = some (cA, .int)) {i : Int32} (hin : vp_in i N) {j : Nat} {v : Int32} (hj : i.toNatClampNeg = j) (hv : f j = v) (hdg : decode cc pc = .ok (.iaload, 1))
    (kk : W p l e R s m args below meth c H locs cells slots Q (F0 m (pc + 1) ls (.int v :: rest))) : W p l e R s m args below meth c H locs cells slots Q (F0 m pc ls (.int i :: .ref a :: rest)) := by
  subst hj
  subst hv
  exact va_iald hexec hb hK hP q0 t0 ha ht hin hdg kk
theorem k_ast (hexec : p.tables.exec = Jvm.exec) (hb : c.code = cc) (hK : va_K G vwCl tys s) (hP : va_P G vwCl ws H) (hD : va_D A ws) (hS : va_S A H0 H locs) (q0 t0 : Nat) {a : Nat} {cA : ClassId} {N : Nat} {f : Nat → Int32} (ha : ws[q0]? = some (a, .inl (cA, N, .inl f))) (ht : tys[t0]? = some (cA, .int)) {i x : Int32} (hin : vp_in i N) {j : Nat} (hj : i.toNatClampNeg = j) (hdg : decode cc pc = .ok (.iastore, 1)) {ws' : va_W} (hw : ws.set q0 (a, .inl (cA, N, .inl (upd f j x))) = ws')
    (kk : ∀ (H1 : Heap) (locs1 : List Loc), va_P G vwCl ws' H1 → va_D A ws' → va_S A H0 H1 locs1 → W p l e R s m args below meth c H1 locs1 cells slots Q (F0 m (pc + 1) ls rest)) : W p l e R s m args below meth c H locs cells slots Q (F0 m pc ls (.int x :: .int i :: .ref a :: rest)) := by
  subst hj
  subst hw
  exact va_iast hexec hb hK hP hD hS q0 t0 ha ht hin hdg kk
theorem k_cld (hexec : p.tables.exec = Jvm.exec) (hb : c.code = cc) (hK : va_K G vwCl tys s) (hP : va_P G vwCl ws H) (q0 t0 : Nat) {a : Nat} {cA : ClassId} {N : Nat} {f : Nat → Int32} (ha : ws[q0]? = some (a, .inl (cA, N, .inl f))) (ht : tys[t0]? = some (cA, .char)) {i : Int32} (hin : vp_in i N) {j : Nat} {v : Int32} (hj : i.toNatClampNeg = j) (hv : f j = v) (hdg : decode cc pc = .ok (.caload, 1))
    (kk : W p l e R s m args below meth c H locs cells slots Q (F0 m (pc + 1) ls (.int v :: rest))) : W p l e R s m args below meth c H locs cells slots Q (F0 m pc ls (.int i :: .ref a :: rest)) := by
  subst hj
  subst hv
  exact va_cald hexec hb hK hP q0 t0 ha ht hin hdg kk
theorem k_cst (hexec : p.tables.exec = Jvm.exec) (hb : c.code = cc) (hK : va_K G vwCl tys s) (hP : va_P G vwCl ws H) (hD : va_D A ws) (hS : va_S A H0 H locs) (q0 t0 : Nat) {a : Nat} {cA : ClassId} {N : Nat} {f : Nat → Int32} (ha : ws[q0]? = some (a, .inl (cA, N, .inl f))) (ht : tys[t0]? = some (cA, .char)) {i x : Int32} (hin : vp_in i N) {j : Nat} (hj : i.toNatClampNeg = j) (hdg : decode cc pc = .ok (.castore, 1)) {ws' : va_W} (hw : ws.set q0 (a, .inl (cA, N, .inl (upd f j (vp_nar .char x)))) = ws')
    (kk : ∀ (H1 : Heap) (locs1 : List Loc), va_P G vwCl ws' H1 → va_D A ws' → va_S A H0 H1 locs1 → W p l e R s m args below meth c H1 locs1 cells slots Q (F0 m (pc + 1) ls rest)) : W p l e R s m args below meth c H locs cells slots Q (F0 m pc ls (.int x :: .int i :: .ref a :: rest)) := by
  subst hj
  subst hw
  exact va_cast hexec hb hK hP hD hS q0 t0 ha ht hin hdg kk
end KC
theorem em_DG (cI : ClassId) (q : Nat → Nat) (D : St) : Em (wD cI q D) (wG cI (q 1) (q 2) (q 3) (q 4) (q 5) (q 6) D) [1, 2, 3, 4, 5, 6] := ⟨rfl, by decide⟩
theorem em_DO (cI : ClassId) (q : Nat → Nat) (D : St) : Em (wD cI q D) (wT cI (q 7) (q 8) (q 9) (fun i => D (6 + i))) [7, 8, 9] := ⟨rfl, by decide⟩
theorem em_DK (cI : ClassId) (q : Nat → Nat) (D : St) : Em (wD cI q D) (wT cI (q 10) (q 11) (q 12) (fun i => D (10 + i))) [10, 11, 12] := ⟨rfl, by decide⟩
theorem em_DD (cI : ClassId) (q : Nat → Nat) (D : St) : Em (wD cI q D) (wD cI q D) [0, 1, 2, 3, 4, 5, 6, 7, 8, 9, 10, 11, 12, 13] := ⟨rfl, by decide⟩
theorem em_GG (cI : ClassId) (h a b c d e : Nat) (T : St) : Em (wG cI h a b c d e T) (wG cI h a b c d e T) [0, 1, 2, 3, 4, 5] := ⟨rfl, by decide⟩
theorem em_TT (cI : ClassId) (h a b : Nat) (T : St) : Em (wT cI h a b T) (wT cI h a b T) [0, 1, 2] := ⟨rfl, by decide⟩
theorem em_MM (cI : ClassId) (q : Nat → Nat) (M : St) : Em (wM cI q M) (wM cI q M) [0, 1, 2, 3, 4, 5, 6] := ⟨rfl, by decide⟩
theorem em_0 (ws : va_W) : Em ws [] [] := ⟨rfl, by decide⟩
theorem not_in {n k : Nat} {is : List Nat} (h : ∀ j, j < n → j ∈ is) (hk : k ∉ is) : n ≤ k := by
  rcases Nat.lt_or_ge k n with h1 | h1
  · exact absurd (h k h1) hk
  · exact h1
theorem rp_all {ws ws' : va_W} {is : List Nat} {n : Nat} (hn : ws.length = n) (h1 : ws'.map Prod.fst = ws.map Prod.fst) (h2 : is.map (fun i => ws'[i]?) = ws'.map some) (h3 : ∀ j, j < n → j ∈ is) : Rp ws ws' ws' is := by
  subst hn
  refine ⟨h1, h2, fun k hk => ?_⟩
  have hl : ws'.length = ws.length := by simpa using congrArg List.length h1
  have := not_in h3 hk
  rw [List.getElem?_eq_none (by omega), List.getElem?_eq_none (by omega)]
theorem rp_DD (cI : ClassId) (q : Nat → Nat) (D u : St) : Rp (wD cI q D) (wD cI q u) (wD cI q u) [0, 1, 2, 3, 4, 5, 6, 7, 8, 9, 10, 11, 12, 13] := rp_all (n := 14) rfl rfl rfl (by decide)
theorem rp_GG (cI : ClassId) (h a b c d e : Nat) (T u : St) : Rp (wG cI h a b c d e T) (wG cI h a b c d e u) (wG cI h a b c d e u) [0, 1, 2, 3, 4, 5] := rp_all (n := 6) rfl rfl rfl (by decide)
theorem rp_TT (cI : ClassId) (h a b : Nat) (T u : St) : Rp (wT cI h a b T) (wT cI h a b u) (wT cI h a b u) [0, 1, 2] := rp_all (n := 3) rfl rfl rfl (by decide)
theorem rp_MM (cI : ClassId) (q : Nat → Nat) (M u : St) : Rp (wM cI q M) (wM cI q u) (wM cI q u) [0, 1, 2, 3, 4, 5, 6] := rp_all (n := 7) rfl rfl rfl (by decide)
theorem rp_part {ws w1 ws' : va_W} {is js : List Nat} {n : Nat} (h1 : ws'.map Prod.fst = ws.map Prod.fst) (h2 : is.map (fun i => ws'[i]?) = w1.map some) (hn : ws.length = n) (h3 : js.map (fun i => ws'[i]?) = js.map (fun i => ws[i]?)) (h4 : ∀ j, j < n → j ∈ is ∨ j ∈ js) : Rp ws w1 ws' is := by
  refine ⟨h1, h2, fun k hk => ?_⟩
  have hl : ws'.length = ws.length := by simpa using congrArg List.length h1
  rcases Nat.lt_or_ge k n with h | h
  · rcases h4 k h with h5 | h5
    · exact absurd h5 hk
    · exact List.map_inj_left.mp h3 k h5
  · rw [List.getElem?_eq_none (by omega), List.getElem?_eq_none (by omega)]
theorem rp_DG (cI : ClassId) (q : Nat → Nat) (D u : St) : Rp (wD cI q D) (wG cI (q 1) (q 2) (q 3) (q 4) (q 5) (q 6) u) (wD cI q (mgG D u)) [1, 2, 3, 4, 5, 6] := rp_part (n := 14) (js := [0, 7, 8, 9, 10, 11, 12, 13]) rfl rfl rfl rfl (by decide)
theorem rp_DO (cI : ClassId) (q : Nat → Nat) (D u : St) : Rp (wD cI q D) (wT cI (q 7) (q 8) (q 9) u) (wD cI q (mgO D u)) [7, 8, 9] := rp_part (n := 14) (js := [0, 1, 2, 3, 4, 5, 6, 10, 11, 12, 13]) rfl rfl rfl rfl (by decide)
theorem rp_DK (cI : ClassId) (q : Nat → Nat) (D u : St) : Rp (wD cI q D) (wT cI (q 10) (q 11) (q 12) u) (wD cI q (mgK D u)) [10, 11, 12] := rp_part (n := 14) (js := [0, 1, 2, 3, 4, 5, 6, 7, 8, 9, 13]) rfl rfl rfl rfl (by decide)
/-- switches: what is none of the listed numbers -/
theorem sw_o {x k : Int32} {a : Int} (h : ¬ x = k) (hk : k.toInt = a) : ¬ x.toInt = a := lv_neT h hk
theorem em_M2_03 (cI : ClassId) (q : Nat → Nat) (M : St) : Em (wM cI q M) (w2 cI (q 1) (q 4) (fun i => cond (Nat.beq i 0) (M 0) (M 3))) [1, 4] := ⟨rfl, by decide⟩
theorem rp_M2_03 (cI : ClassId) (q : Nat → Nat) (M u : St) : Rp (wM cI q M) (w2 cI (q 1) (q 4) u) (wM cI q (uA (uA M 0 (u 0)) 3 (u 1))) [1, 4] := rp_part (n := 7) (js := [0, 2, 3, 5, 6]) rfl rfl rfl rfl (by decide)
theorem em_M2_30 (cI : ClassId) (q : Nat → Nat) (M : St) : Em (wM cI q M) (w2 cI (q 4) (q 1) (fun i => cond (Nat.beq i 0) (M 3) (M 0))) [4, 1] := ⟨rfl, by decide⟩
theorem rp_M2_30 (cI : ClassId) (q : Nat → Nat) (M u : St) : Rp (wM cI q M) (w2 cI (q 4) (q 1) u) (wM cI q (uA (uA M 3 (u 0)) 0 (u 1))) [4, 1] := rp_part (n := 7) (js := [0, 2, 3, 5, 6]) rfl rfl rfl rfl (by decide)
theorem em_M2_02 (cI : ClassId) (q : Nat → Nat) (M : St) : Em (wM cI q M) (w2 cI (q 1) (q 3) (fun i => cond (Nat.beq i 0) (M 0) (M 2))) [1, 3] := ⟨rfl, by decide⟩
theorem rp_M2_02 (cI : ClassId) (q : Nat → Nat) (M u : St) : Rp (wM cI q M) (w2 cI (q 1) (q 3) u) (wM cI q (uA (uA M 0 (u 0)) 2 (u 1))) [1, 3] := rp_part (n := 7) (js := [0, 2, 4, 5, 6]) rfl rfl rfl rfl (by decide)
theorem em_M2_20 (cI : ClassId) (q : Nat → Nat) (M : St) : Em (wM cI q M) (w2 cI (q 3) (q 1) (fun i => cond (Nat.beq i 0) (M 2) (M 0))) [3, 1] := ⟨rfl, by decide⟩
theorem rp_M2_20 (cI : ClassId) (q : Nat → Nat) (M u : St) : Rp (wM cI q M) (w2 cI (q 3) (q 1) u) (wM cI q (uA (uA M 2 (u 0)) 0 (u 1))) [3, 1] := rp_part (n := 7) (js := [0, 2, 4, 5, 6]) rfl rfl rfl rfl (by decide)
theorem em_DG2 (cI : ClassId) (q q' : Nat → Nat) (D E : St) : Em (wD cI q D ++ wD cI q' E) (wG cI (q 1) (q 2) (q 3) (q 4) (q 5) (q 6) D ++ wG cI (q' 1) (q' 2) (q' 3) (q' 4) (q' 5) (q' 6) E) [1, 2, 3, 4, 5, 6, 15, 16, 17, 18, 19, 20] := ⟨rfl, by decide⟩
theorem rp_DG2 (cI : ClassId) (q q' : Nat → Nat) (D E u : St) : Rp (wD cI q D ++ wD cI q' E) (wG cI (q 1) (q 2) (q 3) (q 4) (q 5) (q 6) u ++ wG cI (q' 1) (q' 2) (q' 3) (q' 4) (q' 5) (q' 6) E) (wD cI q (mgG D u) ++ wD cI q' E) [1, 2, 3, 4, 5, 6, 15, 16, 17, 18, 19, 20] := rp_part (n := 28) (js := [0, 7, 8, 9, 10, 11, 12, 13, 14, 21, 22, 23, 24, 25, 26, 27]) rfl rfl rfl rfl (by decide)
theorem em_DO2 (cI : ClassId) (q q' : Nat → Nat) (D E : St) : Em (wD cI q D ++ wD cI q' E) (wT cI (q 7) (q 8) (q 9) (fun i => D (6 + i)) ++ wT cI (q' 7) (q' 8) (q' 9) (fun i => E (6 + i))) [7, 8, 9, 21, 22, 23] := ⟨rfl, by decide⟩
theorem rp_DO2 (cI : ClassId) (q q' : Nat → Nat) (D E u : St) : Rp (wD cI q D ++ wD cI q' E) (wT cI (q 7) (q 8) (q 9) u ++ wT cI (q' 7) (q' 8) (q' 9) (fun i => E (6 + i))) (wD cI q (mgO D u) ++ wD cI q' E) [7, 8, 9, 21, 22, 23] := rp_part (n := 28) (js := [0, 1, 2, 3, 4, 5, 6, 10, 11, 12, 13, 14, 15, 16, 17, 18, 19, 20, 24, 25, 26, 27]) rfl rfl rfl rfl (by decide)
theorem em_DK2 (cI : ClassId) (q q' : Nat → Nat) (D E : St) : Em (wD cI q D ++ wD cI q' E) (wT cI (q 10) (q 11) (q 12) (fun i => D (10 + i)) ++ wT cI (q' 10) (q' 11) (q' 12) (fun i => E (10 + i))) [10, 11, 12, 24, 25, 26] := ⟨rfl, by decide⟩
theorem rp_DK2 (cI : ClassId) (q q' : Nat → Nat) (D E u : St) : Rp (wD cI q D ++ wD cI q' E) (wT cI (q 10) (q 11) (q 12) u ++ wT cI (q' 10) (q' 11) (q' 12) (fun i => E (10 + i))) (wD cI q (mgK D u) ++ wD cI q' E) [10, 11, 12, 24, 25, 26] := rp_part (n := 28) (js := [0, 1, 2, 3, 4, 5, 6, 7, 8, 9, 13, 14, 15, 16, 17, 18, 19, 20, 21, 22, 23, 27]) rfl rfl rfl rfl (by decide)
theorem em_SS (cC : ClassId) (k0 k1 : Nat) (C : St) : Em (wS cC k0 k1 C) (wS cC k0 k1 C) [0, 1] := ⟨rfl, by decide⟩
theorem rp_SS (cC : ClassId) (k0 k1 : Nat) (C u : St) : Rp (wS cC k0 k1 C) (wS cC k0 k1 u) (wS cC k0 k1 u) [0, 1] := rp_all (n := 2) rfl rfl rfl (by decide)
theorem em_SD_S (cI cC : ClassId) (k0 k1 : Nat) (C : St) (q : Nat → Nat) (D : St) : Em (wS cC k0 k1 C ++ wD cI q D) (wS cC k0 k1 C) [0, 1] := ⟨rfl, by decide⟩
theorem rp_SD_S (cI cC : ClassId) (k0 k1 : Nat) (C : St) (q : Nat → Nat) (D u : St) : Rp (wS cC k0 k1 C ++ wD cI q D) (wS cC k0 k1 u) (wS cC k0 k1 u ++ wD cI q D) [0, 1] := rp_part (n := 16) (js := [2, 3, 4, 5, 6, 7, 8, 9, 10, 11, 12, 13, 14, 15]) rfl rfl rfl rfl (by decide)
theorem em_SD_D (cI cC : ClassId) (k0 k1 : Nat) (C : St) (q : Nat → Nat) (D : St) : Em (wS cC k0 k1 C ++ wD cI q D) (wD cI q D) [2, 3, 4, 5, 6, 7, 8, 9, 10, 11, 12, 13, 14, 15] := ⟨rfl, by decide⟩
theorem rp_SD_D (cI cC : ClassId) (k0 k1 : Nat) (C : St) (q : Nat → Nat) (D u : St) : Rp (wS cC k0 k1 C ++ wD cI q D) (wD cI q u) (wS cC k0 k1 C ++ wD cI q u) [2, 3, 4, 5, 6, 7, 8, 9, 10, 11, 12, 13, 14, 15] := rp_part (n := 16) (js := [0, 1]) rfl rfl rfl rfl (by decide)
theorem em_SDD (cI cC : ClassId) (k0 k1 : Nat) (C : St) (q : Nat → Nat) (D : St) : Em (wS cC k0 k1 C ++ wD cI q D) (wS cC k0 k1 C ++ wD cI q D) [0, 1, 2, 3, 4, 5, 6, 7, 8, 9, 10, 11, 12, 13, 14, 15] := ⟨rfl, by decide⟩
theorem rp_SDD (cI cC : ClassId) (k0 k1 : Nat) (C : St) (q : Nat → Nat) (D : St) (u : St × St) : Rp (wS cC k0 k1 C ++ wD cI q D) (wS cC k0 k1 u.1 ++ wD cI q u.2) (wS cC k0 k1 u.1 ++ wD cI q u.2) [0, 1, 2, 3, 4, 5, 6, 7, 8, 9, 10, 11, 12, 13, 14, 15] := rp_all (n := 16) rfl rfl rfl (by decide)
