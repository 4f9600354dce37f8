/-! Making: rows of numbers and of references, and constructors. -/
def Z0 : St := fun _ _ => 0
def Tz (x : Int32) : St := fun i _ => cond (Nat.beq i 2) (if (8 : Int32) < x then 8 else x) 0
/-- a dam that is new -/
def D0 : St := fun i => cond (Nat.beq i 8) (fun _ => 8) (cond (Nat.beq i 12) (fun _ => 4) (cond (Nat.beq i 14) (upd (upd (upd (fun _ => 0) 0 8000) 1 6000) 2 0) (cond (Nat.beq i 15) (fun _ => 2000) (cond (Nat.beq i 24) (fun _ => (-1)) (fun _ => 0)))))
/-- the reference that is new -/
def M0 : St := fun i => cond (Nat.beq i 0) (upd (upd (upd (upd (fun _ => 0) 0 8000) 1 6000) 4 2000) 7 (-1)) (fun _ => 0)
def X0 : Nat → St := fun i => cond (Nat.beq i 0) Z0 (cond (Nat.beq i 8) Z0 D0)
abbrev PO (G : va_G) (tys : List (ClassId × FieldType)) (w : va_W) (sz : Nat) : State → Prop := fun U => PW G tys w sz U ∧ va_AO "CraneGates$Dam" U
section KN
variable {p : Program} {l : Launch} {e : Env} {R : Room} {s : State} {m : MethodId} {args : Array Value} {below : List Frame} {meth : Method} {c : Code} {H : Heap} {locs : List Loc} {cells slots : Nat} {Q : State → Prop}
variable {cc bytes : ByteArray} {nL maxL index n pc : Nat} {own C : String} {y : MethodName} {ret : Option FieldType} {rm : Room} {Ts ws0 : List Cond} {ls : Array Slot} {st rest As : List Value} {b : Nat} {G : va_G} {A : Nat → Prop} {H0 : Heap} {ws wc : va_W} {is : List Nat} {cI cC cD : ClassId}
theorem k_newi (hexec : p.tables.exec = Jvm.exec) (hb : c.code = cc) (harr : (Cond.arrayClass .int).before args s = true) (hK : va_K G vwCl (ty3 cI cC cD) s) (hP : va_P G vwCl ws H) (hD : va_D A ws) (hS : va_S A H0 H locs) (hA : ∀ q, H0.size ≤ q → A q)
    {k : Int32} {N' : Nat} (hn : ¬ k < 0) (hN : k.toNatClampNeg = N') (hbytes : N' * componentBytes .int ≤ 536870912) (hcells : cells + 1 ≤ R.cells) (hslots : slots + N' ≤ R.slots) (hdg : decode cc pc = .ok (.newarray .int, 2))
    (kk : ∀ (q : Nat) (H1 : Heap), va_P G vwCl (ws ++ [(q, .inl (cI, N', .inl (fun _ => 0)))]) H1 → va_D A (ws ++ [(q, .inl (cI, N', .inl (fun _ => 0)))]) → va_S A H0 H1 locs → W p l e R s m args below meth c H1 locs (cells + 1) (slots + N') Q (F0 m (pc + 2) ls (.ref q :: rest))) : W p l e R s m args below meth c H locs cells slots Q (F0 m pc ls (.int k :: rest)) := by
  refine va_newa (atype := .int) (ty := .int) (a0 := (N', .inl (fun _ => 0))) hexec hb harr rfl hK hP hD hS hA (fun cA => rfl) hn hN hbytes hcells hslots hdg (fun q cA H1 hK1 hP1 hD1 hS1 => ?_)
  have h1 : s.vm.findClass ("[" ++ FieldType.int.toString) = some cA := (hK1.2 3 (cA, .int) rfl).2
  have h2 : s.vm.findClass ("[" ++ FieldType.int.toString) = some cI := (hK.2 0 (cI, .int) rfl).2
  have e1 : cA = cI := Option.some.inj (h1.symm.trans h2)
  subst e1
  exact kk q H1 hP1 hD1 hS1
theorem k_newc (hexec : p.tables.exec = Jvm.exec) (hb : c.code = cc) (harr : (Cond.arrayClass .char).before args s = true) (hK : va_K G vwCl (ty3 cI cC cD) s) (hP : va_P G vwCl ws H) (hD : va_D A ws) (hS : va_S A H0 H locs) (hA : ∀ q, H0.size ≤ q → A q)
    {k : Int32} {N' : Nat} (hn : ¬ k < 0) (hN : k.toNatClampNeg = N') (hbytes : N' * componentBytes .char ≤ 536870912) (hcells : cells + 1 ≤ R.cells) (hslots : slots + N' ≤ R.slots) (hdg : decode cc pc = .ok (.newarray .char, 2))
    (kk : ∀ (q : Nat) (H1 : Heap), va_P G vwCl (ws ++ [(q, .inl (cC, N', .inl (fun _ => 0)))]) H1 → va_D A (ws ++ [(q, .inl (cC, N', .inl (fun _ => 0)))]) → va_S A H0 H1 locs → W p l e R s m args below meth c H1 locs (cells + 1) (slots + N') Q (F0 m (pc + 2) ls (.ref q :: rest))) : W p l e R s m args below meth c H locs cells slots Q (F0 m pc ls (.int k :: rest)) := by
  refine va_newa (atype := .char) (ty := .char) (a0 := (N', .inl (fun _ => 0))) hexec hb harr rfl hK hP hD hS hA (fun cA => rfl) hn hN hbytes hcells hslots hdg (fun q cA H1 hK1 hP1 hD1 hS1 => ?_)
  have h1 : s.vm.findClass ("[" ++ FieldType.char.toString) = some cA := (hK1.2 3 (cA, .char) rfl).2
  have h2 : s.vm.findClass ("[" ++ FieldType.char.toString) = some cC := (hK.2 1 (cC, .char) rfl).2
  have e1 : cA = cC := Option.some.inj (h1.symm.trans h2)
  subst e1
  exact kk q H1 hP1 hD1 hS1
theorem k_newr (hexec : p.tables.exec = Jvm.exec) (hb : c.code = cc) (hown : s.vm.findClass own = some m.cls) (hclink : (Cond.classLink own index "CraneGates$Dam").before args s = true) (hO : va_AO "CraneGates$Dam" s) (hK : va_K G vwCl (ty3 cI cC cD) s) (hP : va_P G vwCl ws H) (hD : va_D A ws) (hS : va_S A H0 H locs) (hA : ∀ q, H0.size ≤ q → A q)
    {k : Int32} {N' : Nat} (hn : ¬ k < 0) (hN : k.toNatClampNeg = N') (hbytes : N' * 4 ≤ 536870912) (hcells : cells + 1 ≤ R.cells) (hslots : slots + N' ≤ R.slots) (hdg : decode cc pc = .ok (.anewarray index, 3))
    (kk : ∀ (q : Nat) (H1 : Heap), va_P G vwCl (ws ++ [(q, .inl (cD, N', .inr (.inr (.inr (.inr (fun _ => none))))))]) H1 → va_D A (ws ++ [(q, .inl (cD, N', .inr (.inr (.inr (.inr (fun _ => none))))))]) → va_S A H0 H1 locs → W p l e R s m args below meth c H1 locs (cells + 1) (slots + N') Q (F0 m (pc + 3) ls (.ref q :: rest))) : W p l e R s m args below meth c H locs cells slots Q (F0 m pc ls (.int k :: rest)) := by
  refine va_newq hexec hb hown hclink hO hK hP hD hS hA hn hN hbytes hcells hslots hdg (fun q cA H1 hK1 hP1 hD1 hS1 => ?_)
  obtain ⟨-, -, -, -, -, h1⟩ : va_RA s cA (.object "CraneGates$Dam") := (hK1.2 3 (cA, .object "CraneGates$Dam") rfl).2
  obtain ⟨-, -, -, -, -, h2⟩ : va_RA s cD (.object "CraneGates$Dam") := (hK.2 2 (cD, .object "CraneGates$Dam") rfl).2
  have e1 : cA = cD := Option.some.inj (h1.symm.trans h2)
  subst e1
  exact kk q H1 hP1 hD1 hS1
theorem PO_in {tys : List (ClassId × FieldType)} {w : va_W} {av : List Value} (hP : va_P G vwCl w H) (hK : va_K G vwCl tys s) (hN : nW s) (hO : va_AO "CraneGates$Dam" s) (hD : va_D A w) : ∀ U : State, U.heap = H → s.WarmedH U.vm → va_Pc av (PO G tys w H.size) av.toArray U := fun U hU hW =>
  ⟨rfl, (PW_in (av := av) hP hK hN hD U hU hW).2, va_AO.moved hW.alike hO⟩
theorem PO_blind {tys : List (ClassId × FieldType)} {w : va_W} {sz : Nat} {av : List Value} : FrameBlind (va_Pc av (PO G tys w sz)) := fun a U g mk q =>
  ⟨q.1, (PW_blind (av := av) (G := G) (tys := tys) (w := w) (sz := sz) a U g mk ⟨q.1, q.2.1⟩).2, va_AO.moved (u := U) (U := U.calling g mk a) (Vm.Alike.refl U.vm) q.2.2⟩
theorem em_last (ws : va_W) (x : Nat × va_E) : [ws.length].map (fun i => (ws ++ [x])[i]?) = [x].map some := by simp
theorem em_init (ws : va_W) (x : Nat × va_E) : (List.range ws.length).map (fun i => (ws ++ [x])[i]?) = ws.map some := by
  apply List.ext_getElem?
  intro i
  rw [List.getElem?_map, List.getElem?_map]
  by_cases h : i < ws.length
  · rw [List.getElem?_range h, List.getElem?_eq_getElem h]
    show some ((ws ++ [x])[i]?) = some (some ws[i])
    rw [List.getElem?_append_left h, List.getElem?_eq_getElem h]
  · rw [List.getElem?_eq_none (by simpa using h), List.getElem?_eq_none (by simpa using h)]; rfl
theorem nd_range : ∀ n, va_nd (List.range n) = true → va_nd (List.range n) = true := fun _ h => h
/-- what a constructor makes out of a fresh cell, behind the rest -/
theorem k_join {x : Nat × va_E} {w1 : va_W} {H1 : Heap} (hP : va_P G vwCl (ws ++ [x]) H) (hD : va_D A (ws ++ [x])) (hd : va_nd (List.range ws.length) = true) (hk : ∀ q : Nat, q < H.size → ¬ va_A [x] H.size q → H1[q]? = H[q]?) (hF : ∀ q, va_A [x] H.size q → A q) (hP1 : va_P G vwCl w1 H1) (hD1 : va_D (va_A [x] H.size) w1) : va_P G vwCl (ws ++ w1) H1 ∧ va_D A (ws ++ w1) :=
  va_join hP hD [ws.length] (List.range ws.length) (em_last ws x) (em_init ws x) hd (fun i hi h => by
    have h1 := List.mem_range.mp hi
    have h2 := List.mem_singleton.mp h
    omega) hk hF hP1 hD1
theorem k_ctorN {S : Type} {post : S → Prop} {wf : S → va_W} {x : Nat × va_E} {host : String} {mc ms : Nat} (Sx : CallFix p m c cc nL s args Ts own) (hM : Met l y ws0 rm (va_Pc (.ref b :: As) (PO G (ty3 cI cC cD) [x] H.size)) (va_Qv post (BW G wf (va_A [x] H.size)) (va_A [x] H.size)) mc ms (va_A [x] H.size)) (cw : va_CN R s args own index y host bytes maxL none ws0 rm mc ms n ∧ y.name = "<init>" ∧ (Cond.instanceMethod y).before args s = true)
    (hK : va_K G vwCl (ty3 cI cC cD) s) (hN : nW s) (hO : va_AO "CraneGates$Dam" s) (hP : va_P G vwCl (ws ++ [x]) H) (hD : va_D A (ws ++ [x])) (hS : va_S A H0 H locs) (hA : ∀ q, H0.size ≤ q → A q) {N : Nat} (hlen : ws.length = N) (hd : va_nd (List.range N) = true)
    (hn : As.length = n) (hsize : ls.size = nL) (hstack : st = As.reverse ++ .ref b :: rest) (hW : (rest.map fun v => v.category).sum ≤ 8) (hdg : decode cc pc = .ok (.invokespecial index, 3)) (hf : cells + mc ≤ R.cells ∧ slots + ms ≤ R.slots)
    (kk : ∀ (u : S) (H1 : Heap) (locs1 : List Loc), post u → va_P G vwCl (ws ++ wf u) H1 → va_D A (ws ++ wf u) → va_S A H0 H1 locs1 → W p l e R s m args below meth c H1 locs1 (cells + mc) (slots + ms) Q (F0 m (pc + 3) ls rest)) : W p l e R s m args below meth c H locs cells slots Q (F0 m pc ls st) := by
  subst hlen
  have hPc : va_P G vwCl [x] H := em_P ⟨em_last ws x, by simp [va_nd]⟩ hP
  have hDc : va_D A [x] := em_D ⟨em_last ws x, by simp [va_nd]⟩ hD
  have hFc := va_free hD hS hA [ws.length] (em_last ws x)
  refine va_callv (va_runIN (As := As) (rest := rest) Sx hM cw ⟨PO_blind, PO_in hPc hK hN hO hDc⟩ rfl hn hsize hstack (lv_room hW) hdg hf) hS (fun q _ h => hFc q h) hFc (fun u t H1 locs ht hvm hw hB hz1 hk1 hS => ?_)
  obtain ⟨hP1, hD1⟩ := hB
  rw [ht] at hP1
  obtain ⟨hP2, hD2⟩ := k_join hP hD hd hk1 hFc hP1 hD1
  exact kk u H1 locs hw hP2 hD2 hS
theorem k_ctor {S : Type} {post : S → Prop} {wf : S → va_W} {x : Nat × va_E} {mc ms : Nat} (Sx : CallFix p m c cc nL s args Ts own) (hM : Met l y ws0 rm (va_Pc (.ref b :: As) (PO G (ty3 cI cC cD) [x] H.size)) (va_Qv post (BW G wf (va_A [x] H.size)) (va_A [x] H.size)) mc ms (va_A [x] H.size)) (cw : CallB R s args own index y bytes maxL none ws0 rm mc ms n ∧ y.name = "<init>" ∧ (Cond.instanceMethod y).before args s = true)
    (hK : va_K G vwCl (ty3 cI cC cD) s) (hN : nW s) (hO : va_AO "CraneGates$Dam" s) (hP : va_P G vwCl (ws ++ [x]) H) (hD : va_D A (ws ++ [x])) (hS : va_S A H0 H locs) (hA : ∀ q, H0.size ≤ q → A q) {N : Nat} (hlen : ws.length = N) (hd : va_nd (List.range N) = true)
    (hn : As.length = n) (hsize : ls.size = nL) (hstack : st = As.reverse ++ .ref b :: rest) (hW : (rest.map fun v => v.category).sum ≤ 8) (hdg : decode cc pc = .ok (.invokespecial index, 3)) (hf : cells + mc ≤ R.cells ∧ slots + ms ≤ R.slots)
    (kk : ∀ (u : S) (H1 : Heap) (locs1 : List Loc), post u → va_P G vwCl (ws ++ wf u) H1 → va_D A (ws ++ wf u) → va_S A H0 H1 locs1 → W p l e R s m args below meth c H1 locs1 (cells + mc) (slots + ms) Q (F0 m (pc + 3) ls rest)) : W p l e R s m args below meth c H locs cells slots Q (F0 m pc ls st) := by
  subst hlen
  have hPc : va_P G vwCl [x] H := em_P ⟨em_last ws x, by simp [va_nd]⟩ hP
  have hDc : va_D A [x] := em_D ⟨em_last ws x, by simp [va_nd]⟩ hD
  have hFc := va_free hD hS hA [ws.length] (em_last ws x)
  refine va_callv (va_runI (As := As) (rest := rest) Sx hM cw ⟨PO_blind, PO_in hPc hK hN hO hDc⟩ rfl hn hsize hstack (lv_room hW) hdg hf) hS (fun q _ h => hFc q h) hFc (fun u t H1 locs ht hvm hw hB hz1 hk1 hS => ?_)
  obtain ⟨hP1, hD1⟩ := hB
  rw [ht] at hP1
  obtain ⟨hP2, hD2⟩ := k_join hP hD hd hk1 hFc hP1 hD1
  exact kk u H1 locs hw hP2 hD2 hS
end KN
