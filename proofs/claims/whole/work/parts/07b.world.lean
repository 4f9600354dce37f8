/-! The world of the class: facade, script, and seven dams: the dam, the trial, the five of the history in their order. -/
def uX (X : Nat → St) (i : Nat) (D : St) : Nat → St := fun j => cond (Nat.beq j i) D (X j)
theorem uX_s (X : Nat → St) (i : Nat) (D : St) : uX X i D i = D := by
  have h : Nat.beq i i = true := by simp
  simp [uX, h]
theorem uX_n {X : Nat → St} {i j : Nat} {D : St} (h : j ≠ i) : uX X i D j = X j := by
  have h2 : Nat.beq j i = false := by
    cases hq : Nat.beq j i with
    | false => rfl
    | true => exact absurd (Nat.eq_of_beq_eq_true hq) h
  simp [uX, h2]
abbrev wH (cD : ClassId) (a b : Nat) (n : Int32) (rf : Nat → Option Nat) : va_W := [(a, .inr (2, [.ref b, .int n])), (b, .inl (cD, 5, .inr (.inr (.inr (.inr rf)))))]
abbrev wF (cC cD : ClassId) (ad : Nat → Nat → Nat) (X : Nat → St) (rf : Nat → Option Nat) : va_W := [(ad 0 0, .inr (5, [.ref (ad 1 0), .ref (ad 2 0), .ref (ad 0 1), .ref (ad 0 3)])), (ad 0 1, .inr (2, [.ref (ad 0 2), .int (X 8 0 0)])), (ad 0 2, .inl (cD, 5, .inr (.inr (.inr (.inr rf))))), (ad 0 3, .inr (3, [.ref (ad 0 4), .int (X 0 1 0), .int (X 0 2 0), .int (X 0 3 0), .int (X 0 4 0), .int (X 0 5 0), .int (X 0 6 0), .int (X 0 7 0)])), (ad 0 4, .inl (cC, 60, .inl (X 0 0)))]
abbrev wA (cI cC cD : ClassId) (ad : Nat → Nat → Nat) (X : Nat → St) (rf : Nat → Option Nat) : va_W := wF cC cD ad X rf ++ (wD cI (ad 1) (X 1) ++ (wD cI (ad 2) (X 2) ++ (wD cI (ad 3) (X 3) ++ (wD cI (ad 4) (X 4) ++ (wD cI (ad 5) (X 5) ++ (wD cI (ad 6) (X 6) ++ (wD cI (ad 7) (X 7))))))))
def rfOk (ad : Nat → Nat → Nat) (rf : Nat → Option Nat) : Prop := ∀ i, i < 5 → rf i = some (ad (3 + i) 0)
def aOk (ad ad1 : Nat → Nat → Nat) (rf1 : Nat → Option Nat) : Prop := ad1 0 = ad 0 ∧ ad1 1 = ad 1 ∧ ad1 2 = ad 2 ∧ rfOk ad1 rf1
def mvF {α : Type} (f : Nat → α) : Nat → α := fun i => cond (Nat.beq i 3) (f 4) (cond (Nat.beq i 4) (f 5) (cond (Nat.beq i 5) (f 6) (cond (Nat.beq i 6) (f 7) (cond (Nat.beq i 7) (f 3) (f i)))))
abbrev mvX (X : Nat → St) : Nat → St := mvF X
abbrev mvA (ad : Nat → Nat → Nat) : Nat → Nat → Nat := mvF ad
theorem em_head (B R : va_W) {n : Nat} (hn : B.length = n) (hd : va_nd (List.range n) = true) : Em (B ++ R) B (List.range n) := by
  subst hn
  refine ⟨?_, hd⟩
  apply List.ext_getElem?
  intro i
  rw [List.getElem?_map, List.getElem?_map]
  by_cases h : i < B.length
  · rw [List.getElem?_range h, List.getElem?_eq_getElem h]
    simp [List.getElem?_append_left h]
  · rw [List.getElem?_eq_none (by simpa using h), List.getElem?_eq_none (by simpa using h)]; rfl
theorem em_skip (P : va_W) {ws wc : va_W} {is js : List Nat} {n : Nat} (hn : P.length = n) (h : Em ws wc is) (hj : is.map (fun i => n + i) = js) (hd : va_nd js = true) : Em (P ++ ws) wc js := by
  subst hn
  subst hj
  refine ⟨?_, hd⟩
  rw [List.map_map, ← h.1]
  apply List.map_congr_left
  intro i _
  show (P ++ ws)[P.length + i]? = _
  rw [List.getElem?_append_right (Nat.le_add_right _ _), Nat.add_sub_cancel_left]
theorem em_two {ws c1 c2 : va_W} {i1 i2 : List Nat} (h1 : Em ws c1 i1) (h2 : Em ws c2 i2) (hd : va_nd (i1 ++ i2) = true) : Em ws (c1 ++ c2) (i1 ++ i2) :=
  ⟨by rw [List.map_append, List.map_append, h1.1, h2.1], hd⟩
theorem rp_head (B B1 R : va_W) {n : Nat} (hn : B.length = n) (hf : B1.map Prod.fst = B.map Prod.fst) : Rp (B ++ R) B1 (B1 ++ R) (List.range n) := by
  have hl : B1.length = B.length := by simpa using congrArg List.length hf
  subst hn
  refine ⟨by rw [List.map_append, List.map_append, hf], ?_, fun k hk => ?_⟩
  · apply List.ext_getElem?
    intro i
    rw [List.getElem?_map, List.getElem?_map]
    by_cases h : i < B.length
    · rw [List.getElem?_range h, List.getElem?_eq_getElem (by omega : i < B1.length)]
      simp [List.getElem?_append_left (by omega : i < B1.length)]
    · rw [List.getElem?_eq_none (by simpa using h), List.getElem?_eq_none (by omega)]; rfl
  · have h : B.length ≤ k := Nat.not_lt.mp fun h => hk (List.mem_range.mpr h)
    rw [List.getElem?_append_right h, List.getElem?_append_right (by omega), hl]
theorem rp_skip (P : va_W) {ws w1 ws' : va_W} {is js : List Nat} {n : Nat} (hn : P.length = n) (h : Rp ws w1 ws' is) (hj : is.map (fun i => n + i) = js) : Rp (P ++ ws) w1 (P ++ ws') js := by
  subst hn
  subst hj
  obtain ⟨h1, h2, h3⟩ := h
  refine ⟨by rw [List.map_append, List.map_append, h1], ?_, fun k hk => ?_⟩
  · rw [List.map_map, ← h2]
    apply List.map_congr_left
    intro i _
    show (P ++ ws')[P.length + i]? = _
    rw [List.getElem?_append_right (Nat.le_add_right _ _), Nat.add_sub_cancel_left]
  · by_cases h : k < P.length
    · rw [List.getElem?_append_left h, List.getElem?_append_left h]
    · rw [List.getElem?_append_right (by omega), List.getElem?_append_right (by omega)]
      refine h3 _ fun hm => hk (List.mem_map.mpr ⟨_, hm, by omega⟩)
theorem rp_left (R : va_W) {ws w1 ws' : va_W} {is : List Nat} {n : Nat} (hn : ws.length = n) (h : Rp ws w1 ws' is) (hlt : ∀ i ∈ is, i < n) : Rp (ws ++ R) w1 (ws' ++ R) is := by
  subst hn
  obtain ⟨h1, h2, h3⟩ := h
  have hl : ws'.length = ws.length := by simpa using congrArg List.length h1
  refine ⟨by rw [List.map_append, List.map_append, h1], ?_, fun k hk => ?_⟩
  · rw [← h2]
    apply List.map_congr_left
    intro i hi
    rw [List.getElem?_append_left (by have := hlt i hi; omega)]
  · by_cases h : k < ws.length
    · rw [List.getElem?_append_left h, List.getElem?_append_left (by omega)]
      exact h3 k hk
    · rw [List.getElem?_append_right (by omega), List.getElem?_append_right (by omega), hl]
theorem rp_two {ws c1 c2 ws' : va_W} {i1 i2 : List Nat} (h1 : Rp ws c1 ws' i1) (h2 : Em ws' c2 i2) : Rp ws (c1 ++ c2) ws' (i1 ++ i2) :=
  ⟨h1.1, by rw [List.map_append, List.map_append, h1.2.1, h2.1], fun k hk => h1.2.2 k fun h => hk (List.mem_append_left _ h)⟩
theorem rp_seq {ws c1 c2 wm ws' : va_W} {i1 i2 : List Nat} (h1 : Rp ws c1 wm i1) (h2 : Rp wm c2 ws' i2) (hd : ∀ i ∈ i1, i ∉ i2) : Rp ws (c1 ++ c2) ws' (i1 ++ i2) := by
  refine ⟨h2.1.trans h1.1, ?_, fun k hk => ?_⟩
  · rw [List.map_append, List.map_append, h2.2.1, ← h1.2.1]
    congr 1
    apply List.map_congr_left
    intro i hi
    exact h2.2.2 i (hd i hi)
  · rw [h2.2.2 k fun h => hk (List.mem_append_right _ h), h1.2.2 k fun h => hk (List.mem_append_left _ h)]
set_option maxRecDepth 100000 in
theorem em_A_1 (cI cC cD : ClassId) (ad : Nat → Nat → Nat) (X : Nat → St) (rf : Nat → Option Nat) : Em (wA cI cC cD ad X rf) (wD cI (ad 1) (X 1)) [5, 6, 7, 8, 9, 10, 11, 12, 13, 14, 15, 16, 17, 18] := em_skip (wF cC cD ad X rf) (n := 5) (js := [5, 6, 7, 8, 9, 10, 11, 12, 13, 14, 15, 16, 17, 18]) rfl (em_head (wD cI (ad 1) (X 1)) (wD cI (ad 2) (X 2) ++ (wD cI (ad 3) (X 3) ++ (wD cI (ad 4) (X 4) ++ (wD cI (ad 5) (X 5) ++ (wD cI (ad 6) (X 6) ++ (wD cI (ad 7) (X 7))))))) (n := 14) rfl (by decide)) rfl (by decide)
set_option maxRecDepth 100000 in
theorem rp_A_1 (cI cC cD : ClassId) (ad : Nat → Nat → Nat) (X : Nat → St) (rf : Nat → Option Nat) (u : St) : Rp (wA cI cC cD ad X rf) (wD cI (ad 1) u) (wA cI cC cD ad (uX X 1 u) rf) [5, 6, 7, 8, 9, 10, 11, 12, 13, 14, 15, 16, 17, 18] := rp_skip (wF cC cD ad X rf) (n := 5) (js := [5, 6, 7, 8, 9, 10, 11, 12, 13, 14, 15, 16, 17, 18]) rfl (rp_head (wD cI (ad 1) (X 1)) (wD cI (ad 1) u) (wD cI (ad 2) (X 2) ++ (wD cI (ad 3) (X 3) ++ (wD cI (ad 4) (X 4) ++ (wD cI (ad 5) (X 5) ++ (wD cI (ad 6) (X 6) ++ (wD cI (ad 7) (X 7))))))) (n := 14) rfl rfl) rfl
set_option maxRecDepth 100000 in
theorem em_A_2 (cI cC cD : ClassId) (ad : Nat → Nat → Nat) (X : Nat → St) (rf : Nat → Option Nat) : Em (wA cI cC cD ad X rf) (wD cI (ad 2) (X 2)) [19, 20, 21, 22, 23, 24, 25, 26, 27, 28, 29, 30, 31, 32] := em_skip (wF cC cD ad X rf) (n := 5) (js := [19, 20, 21, 22, 23, 24, 25, 26, 27, 28, 29, 30, 31, 32]) rfl (em_skip (wD cI (ad 1) (X 1)) (n := 14) (js := [14, 15, 16, 17, 18, 19, 20, 21, 22, 23, 24, 25, 26, 27]) rfl (em_head (wD cI (ad 2) (X 2)) (wD cI (ad 3) (X 3) ++ (wD cI (ad 4) (X 4) ++ (wD cI (ad 5) (X 5) ++ (wD cI (ad 6) (X 6) ++ (wD cI (ad 7) (X 7)))))) (n := 14) rfl (by decide)) rfl (by decide)) rfl (by decide)
set_option maxRecDepth 100000 in
theorem rp_A_2 (cI cC cD : ClassId) (ad : Nat → Nat → Nat) (X : Nat → St) (rf : Nat → Option Nat) (u : St) : Rp (wA cI cC cD ad X rf) (wD cI (ad 2) u) (wA cI cC cD ad (uX X 2 u) rf) [19, 20, 21, 22, 23, 24, 25, 26, 27, 28, 29, 30, 31, 32] := rp_skip (wF cC cD ad X rf) (n := 5) (js := [19, 20, 21, 22, 23, 24, 25, 26, 27, 28, 29, 30, 31, 32]) rfl (rp_skip (wD cI (ad 1) (X 1)) (n := 14) (js := [14, 15, 16, 17, 18, 19, 20, 21, 22, 23, 24, 25, 26, 27]) rfl (rp_head (wD cI (ad 2) (X 2)) (wD cI (ad 2) u) (wD cI (ad 3) (X 3) ++ (wD cI (ad 4) (X 4) ++ (wD cI (ad 5) (X 5) ++ (wD cI (ad 6) (X 6) ++ (wD cI (ad 7) (X 7)))))) (n := 14) rfl rfl) rfl) rfl
set_option maxRecDepth 100000 in
theorem em_A_3 (cI cC cD : ClassId) (ad : Nat → Nat → Nat) (X : Nat → St) (rf : Nat → Option Nat) : Em (wA cI cC cD ad X rf) (wD cI (ad 3) (X 3)) [33, 34, 35, 36, 37, 38, 39, 40, 41, 42, 43, 44, 45, 46] := em_skip (wF cC cD ad X rf) (n := 5) (js := [33, 34, 35, 36, 37, 38, 39, 40, 41, 42, 43, 44, 45, 46]) rfl (em_skip (wD cI (ad 1) (X 1)) (n := 14) (js := [28, 29, 30, 31, 32, 33, 34, 35, 36, 37, 38, 39, 40, 41]) rfl (em_skip (wD cI (ad 2) (X 2)) (n := 14) (js := [14, 15, 16, 17, 18, 19, 20, 21, 22, 23, 24, 25, 26, 27]) rfl (em_head (wD cI (ad 3) (X 3)) (wD cI (ad 4) (X 4) ++ (wD cI (ad 5) (X 5) ++ (wD cI (ad 6) (X 6) ++ (wD cI (ad 7) (X 7))))) (n := 14) rfl (by decide)) rfl (by decide)) rfl (by decide)) rfl (by decide)
set_option maxRecDepth 100000 in
theorem rp_A_3 (cI cC cD : ClassId) (ad : Nat → Nat → Nat) (X : Nat → St) (rf : Nat → Option Nat) (u : St) : Rp (wA cI cC cD ad X rf) (wD cI (ad 3) u) (wA cI cC cD ad (uX X 3 u) rf) [33, 34, 35, 36, 37, 38, 39, 40, 41, 42, 43, 44, 45, 46] := rp_skip (wF cC cD ad X rf) (n := 5) (js := [33, 34, 35, 36, 37, 38, 39, 40, 41, 42, 43, 44, 45, 46]) rfl (rp_skip (wD cI (ad 1) (X 1)) (n := 14) (js := [28, 29, 30, 31, 32, 33, 34, 35, 36, 37, 38, 39, 40, 41]) rfl (rp_skip (wD cI (ad 2) (X 2)) (n := 14) (js := [14, 15, 16, 17, 18, 19, 20, 21, 22, 23, 24, 25, 26, 27]) rfl (rp_head (wD cI (ad 3) (X 3)) (wD cI (ad 3) u) (wD cI (ad 4) (X 4) ++ (wD cI (ad 5) (X 5) ++ (wD cI (ad 6) (X 6) ++ (wD cI (ad 7) (X 7))))) (n := 14) rfl rfl) rfl) rfl) rfl
set_option maxRecDepth 100000 in
theorem em_A_4 (cI cC cD : ClassId) (ad : Nat → Nat → Nat) (X : Nat → St) (rf : Nat → Option Nat) : Em (wA cI cC cD ad X rf) (wD cI (ad 4) (X 4)) [47, 48, 49, 50, 51, 52, 53, 54, 55, 56, 57, 58, 59, 60] := em_skip (wF cC cD ad X rf) (n := 5) (js := [47, 48, 49, 50, 51, 52, 53, 54, 55, 56, 57, 58, 59, 60]) rfl (em_skip (wD cI (ad 1) (X 1)) (n := 14) (js := [42, 43, 44, 45, 46, 47, 48, 49, 50, 51, 52, 53, 54, 55]) rfl (em_skip (wD cI (ad 2) (X 2)) (n := 14) (js := [28, 29, 30, 31, 32, 33, 34, 35, 36, 37, 38, 39, 40, 41]) rfl (em_skip (wD cI (ad 3) (X 3)) (n := 14) (js := [14, 15, 16, 17, 18, 19, 20, 21, 22, 23, 24, 25, 26, 27]) rfl (em_head (wD cI (ad 4) (X 4)) (wD cI (ad 5) (X 5) ++ (wD cI (ad 6) (X 6) ++ (wD cI (ad 7) (X 7)))) (n := 14) rfl (by decide)) rfl (by decide)) rfl (by decide)) rfl (by decide)) rfl (by decide)
set_option maxRecDepth 100000 in
theorem rp_A_4 (cI cC cD : ClassId) (ad : Nat → Nat → Nat) (X : Nat → St) (rf : Nat → Option Nat) (u : St) : Rp (wA cI cC cD ad X rf) (wD cI (ad 4) u) (wA cI cC cD ad (uX X 4 u) rf) [47, 48, 49, 50, 51, 52, 53, 54, 55, 56, 57, 58, 59, 60] := rp_skip (wF cC cD ad X rf) (n := 5) (js := [47, 48, 49, 50, 51, 52, 53, 54, 55, 56, 57, 58, 59, 60]) rfl (rp_skip (wD cI (ad 1) (X 1)) (n := 14) (js := [42, 43, 44, 45, 46, 47, 48, 49, 50, 51, 52, 53, 54, 55]) rfl (rp_skip (wD cI (ad 2) (X 2)) (n := 14) (js := [28, 29, 30, 31, 32, 33, 34, 35, 36, 37, 38, 39, 40, 41]) rfl (rp_skip (wD cI (ad 3) (X 3)) (n := 14) (js := [14, 15, 16, 17, 18, 19, 20, 21, 22, 23, 24, 25, 26, 27]) rfl (rp_head (wD cI (ad 4) (X 4)) (wD cI (ad 4) u) (wD cI (ad 5) (X 5) ++ (wD cI (ad 6) (X 6) ++ (wD cI (ad 7) (X 7)))) (n := 14) rfl rfl) rfl) rfl) rfl) rfl
set_option maxRecDepth 100000 in
theorem em_A_5 (cI cC cD : ClassId) (ad : Nat → Nat → Nat) (X : Nat → St) (rf : Nat → Option Nat) : Em (wA cI cC cD ad X rf) (wD cI (ad 5) (X 5)) [61, 62, 63, 64, 65, 66, 67, 68, 69, 70, 71, 72, 73, 74] := em_skip (wF cC cD ad X rf) (n := 5) (js := [61, 62, 63, 64, 65, 66, 67, 68, 69, 70, 71, 72, 73, 74]) rfl (em_skip (wD cI (ad 1) (X 1)) (n := 14) (js := [56, 57, 58, 59, 60, 61, 62, 63, 64, 65, 66, 67, 68, 69]) rfl (em_skip (wD cI (ad 2) (X 2)) (n := 14) (js := [42, 43, 44, 45, 46, 47, 48, 49, 50, 51, 52, 53, 54, 55]) rfl (em_skip (wD cI (ad 3) (X 3)) (n := 14) (js := [28, 29, 30, 31, 32, 33, 34, 35, 36, 37, 38, 39, 40, 41]) rfl (em_skip (wD cI (ad 4) (X 4)) (n := 14) (js := [14, 15, 16, 17, 18, 19, 20, 21, 22, 23, 24, 25, 26, 27]) rfl (em_head (wD cI (ad 5) (X 5)) (wD cI (ad 6) (X 6) ++ (wD cI (ad 7) (X 7))) (n := 14) rfl (by decide)) rfl (by decide)) rfl (by decide)) rfl (by decide)) rfl (by decide)) rfl (by decide)
set_option maxRecDepth 100000 in
theorem rp_A_5 (cI cC cD : ClassId) (ad : Nat → Nat → Nat) (X : Nat → St) (rf : Nat → Option Nat) (u : St) : Rp (wA cI cC cD ad X rf) (wD cI (ad 5) u) (wA cI cC cD ad (uX X 5 u) rf) [61, 62, 63, 64, 65, 66, 67, 68, 69, 70, 71, 72, 73, 74] := rp_skip (wF cC cD ad X rf) (n := 5) (js := [61, 62, 63, 64, 65, 66, 67, 68, 69, 70, 71, 72, 73, 74]) rfl (rp_skip (wD cI (ad 1) (X 1)) (n := 14) (js := [56, 57, 58, 59, 60, 61, 62, 63, 64, 65, 66, 67, 68, 69]) rfl (rp_skip (wD cI (ad 2) (X 2)) (n := 14) (js := [42, 43, 44, 45, 46, 47, 48, 49, 50, 51, 52, 53, 54, 55]) rfl (rp_skip (wD cI (ad 3) (X 3)) (n := 14) (js := [28, 29, 30, 31, 32, 33, 34, 35, 36, 37, 38, 39, 40, 41]) rfl (rp_skip (wD cI (ad 4) (X 4)) (n := 14) (js := [14, 15, 16, 17, 18, 19, 20, 21, 22, 23, 24, 25, 26, 27]) rfl (rp_head (wD cI (ad 5) (X 5)) (wD cI (ad 5) u) (wD cI (ad 6) (X 6) ++ (wD cI (ad 7) (X 7))) (n := 14) rfl rfl) rfl) rfl) rfl) rfl) rfl
set_option maxRecDepth 100000 in
theorem em_A_6 (cI cC cD : ClassId) (ad : Nat → Nat → Nat) (X : Nat → St) (rf : Nat → Option Nat) : Em (wA cI cC cD ad X rf) (wD cI (ad 6) (X 6)) [75, 76, 77, 78, 79, 80, 81, 82, 83, 84, 85, 86, 87, 88] := em_skip (wF cC cD ad X rf) (n := 5) (js := [75, 76, 77, 78, 79, 80, 81, 82, 83, 84, 85, 86, 87, 88]) rfl (em_skip (wD cI (ad 1) (X 1)) (n := 14) (js := [70, 71, 72, 73, 74, 75, 76, 77, 78, 79, 80, 81, 82, 83]) rfl (em_skip (wD cI (ad 2) (X 2)) (n := 14) (js := [56, 57, 58, 59, 60, 61, 62, 63, 64, 65, 66, 67, 68, 69]) rfl (em_skip (wD cI (ad 3) (X 3)) (n := 14) (js := [42, 43, 44, 45, 46, 47, 48, 49, 50, 51, 52, 53, 54, 55]) rfl (em_skip (wD cI (ad 4) (X 4)) (n := 14) (js := [28, 29, 30, 31, 32, 33, 34, 35, 36, 37, 38, 39, 40, 41]) rfl (em_skip (wD cI (ad 5) (X 5)) (n := 14) (js := [14, 15, 16, 17, 18, 19, 20, 21, 22, 23, 24, 25, 26, 27]) rfl (em_head (wD cI (ad 6) (X 6)) (wD cI (ad 7) (X 7)) (n := 14) rfl (by decide)) rfl (by decide)) rfl (by decide)) rfl (by decide)) rfl (by decide)) rfl (by decide)) rfl (by decide)
set_option maxRecDepth 100000 in
theorem rp_A_6 (cI cC cD : ClassId) (ad : Nat → Nat → Nat) (X : Nat → St) (rf : Nat → Option Nat) (u : St) : Rp (wA cI cC cD ad X rf) (wD cI (ad 6) u) (wA cI cC cD ad (uX X 6 u) rf) [75, 76, 77, 78, 79, 80, 81, 82, 83, 84, 85, 86, 87, 88] := rp_skip (wF cC cD ad X rf) (n := 5) (js := [75, 76, 77, 78, 79, 80, 81, 82, 83, 84, 85, 86, 87, 88]) rfl (rp_skip (wD cI (ad 1) (X 1)) (n := 14) (js := [70, 71, 72, 73, 74, 75, 76, 77, 78, 79, 80, 81, 82, 83]) rfl (rp_skip (wD cI (ad 2) (X 2)) (n := 14) (js := [56, 57, 58, 59, 60, 61, 62, 63, 64, 65, 66, 67, 68, 69]) rfl (rp_skip (wD cI (ad 3) (X 3)) (n := 14) (js := [42, 43, 44, 45, 46, 47, 48, 49, 50, 51, 52, 53, 54, 55]) rfl (rp_skip (wD cI (ad 4) (X 4)) (n := 14) (js := [28, 29, 30, 31, 32, 33, 34, 35, 36, 37, 38, 39, 40, 41]) rfl (rp_skip (wD cI (ad 5) (X 5)) (n := 14) (js := [14, 15, 16, 17, 18, 19, 20, 21, 22, 23, 24, 25, 26, 27]) rfl (rp_head (wD cI (ad 6) (X 6)) (wD cI (ad 6) u) (wD cI (ad 7) (X 7)) (n := 14) rfl rfl) rfl) rfl) rfl) rfl) rfl) rfl
set_option maxRecDepth 100000 in
theorem em_A_7 (cI cC cD : ClassId) (ad : Nat → Nat → Nat) (X : Nat → St) (rf : Nat → Option Nat) : Em (wA cI cC cD ad X rf) (wD cI (ad 7) (X 7)) [89, 90, 91, 92, 93, 94, 95, 96, 97, 98, 99, 100, 101, 102] := em_skip (wF cC cD ad X rf) (n := 5) (js := [89, 90, 91, 92, 93, 94, 95, 96, 97, 98, 99, 100, 101, 102]) rfl (em_skip (wD cI (ad 1) (X 1)) (n := 14) (js := [84, 85, 86, 87, 88, 89, 90, 91, 92, 93, 94, 95, 96, 97]) rfl (em_skip (wD cI (ad 2) (X 2)) (n := 14) (js := [70, 71, 72, 73, 74, 75, 76, 77, 78, 79, 80, 81, 82, 83]) rfl (em_skip (wD cI (ad 3) (X 3)) (n := 14) (js := [56, 57, 58, 59, 60, 61, 62, 63, 64, 65, 66, 67, 68, 69]) rfl (em_skip (wD cI (ad 4) (X 4)) (n := 14) (js := [42, 43, 44, 45, 46, 47, 48, 49, 50, 51, 52, 53, 54, 55]) rfl (em_skip (wD cI (ad 5) (X 5)) (n := 14) (js := [28, 29, 30, 31, 32, 33, 34, 35, 36, 37, 38, 39, 40, 41]) rfl (em_skip (wD cI (ad 6) (X 6)) (n := 14) (js := [14, 15, 16, 17, 18, 19, 20, 21, 22, 23, 24, 25, 26, 27]) rfl (em_DD cI (ad 7) (X 7)) rfl (by decide)) rfl (by decide)) rfl (by decide)) rfl (by decide)) rfl (by decide)) rfl (by decide)) rfl (by decide)
set_option maxRecDepth 100000 in
theorem rp_A_7 (cI cC cD : ClassId) (ad : Nat → Nat → Nat) (X : Nat → St) (rf : Nat → Option Nat) (u : St) : Rp (wA cI cC cD ad X rf) (wD cI (ad 7) u) (wA cI cC cD ad (uX X 7 u) rf) [89, 90, 91, 92, 93, 94, 95, 96, 97, 98, 99, 100, 101, 102] := rp_skip (wF cC cD ad X rf) (n := 5) (js := [89, 90, 91, 92, 93, 94, 95, 96, 97, 98, 99, 100, 101, 102]) rfl (rp_skip (wD cI (ad 1) (X 1)) (n := 14) (js := [84, 85, 86, 87, 88, 89, 90, 91, 92, 93, 94, 95, 96, 97]) rfl (rp_skip (wD cI (ad 2) (X 2)) (n := 14) (js := [70, 71, 72, 73, 74, 75, 76, 77, 78, 79, 80, 81, 82, 83]) rfl (rp_skip (wD cI (ad 3) (X 3)) (n := 14) (js := [56, 57, 58, 59, 60, 61, 62, 63, 64, 65, 66, 67, 68, 69]) rfl (rp_skip (wD cI (ad 4) (X 4)) (n := 14) (js := [42, 43, 44, 45, 46, 47, 48, 49, 50, 51, 52, 53, 54, 55]) rfl (rp_skip (wD cI (ad 5) (X 5)) (n := 14) (js := [28, 29, 30, 31, 32, 33, 34, 35, 36, 37, 38, 39, 40, 41]) rfl (rp_skip (wD cI (ad 6) (X 6)) (n := 14) (js := [14, 15, 16, 17, 18, 19, 20, 21, 22, 23, 24, 25, 26, 27]) rfl (rp_DD cI (ad 7) (X 7) u) rfl) rfl) rfl) rfl) rfl) rfl) rfl
set_option maxRecDepth 100000 in
theorem em_A_S (cI cC cD : ClassId) (ad : Nat → Nat → Nat) (X : Nat → St) (rf : Nat → Option Nat) : Em (wA cI cC cD ad X rf) (wS cC (ad 0 3) (ad 0 4) (X 0)) [3, 4] := ⟨rfl, by decide⟩
set_option maxRecDepth 100000 in
theorem rp_A_S (cI cC cD : ClassId) (ad : Nat → Nat → Nat) (X : Nat → St) (rf : Nat → Option Nat) (u : St) : Rp (wA cI cC cD ad X rf) (wS cC (ad 0 3) (ad 0 4) u) (wA cI cC cD ad (uX X 0 u) rf) [3, 4] := rp_left (ws' := wF cC cD ad (uX X 0 u) rf) (wD cI (ad 1) (X 1) ++ (wD cI (ad 2) (X 2) ++ (wD cI (ad 3) (X 3) ++ (wD cI (ad 4) (X 4) ++ (wD cI (ad 5) (X 5) ++ (wD cI (ad 6) (X 6) ++ (wD cI (ad 7) (X 7)))))))) (n := 5) rfl (rp_part (n := 5) (js := [0, 1, 2]) rfl rfl rfl rfl (by decide)) (by decide)
set_option maxRecDepth 100000 in
theorem em_A_H (cI cC cD : ClassId) (ad : Nat → Nat → Nat) (X : Nat → St) (rf : Nat → Option Nat) : Em (wA cI cC cD ad X rf) (wH cD (ad 0 1) (ad 0 2) (X 8 0 0) rf) [1, 2] := ⟨rfl, by decide⟩
set_option maxRecDepth 100000 in
theorem em_A_21 (cI cC cD : ClassId) (ad : Nat → Nat → Nat) (X : Nat → St) (rf : Nat → Option Nat) : Em (wA cI cC cD ad X rf) (wD cI (ad 2) (X 2) ++ wD cI (ad 1) (X 1)) ([19, 20, 21, 22, 23, 24, 25, 26, 27, 28, 29, 30, 31, 32] ++ [5, 6, 7, 8, 9, 10, 11, 12, 13, 14, 15, 16, 17, 18]) := em_two (em_A_2 cI cC cD ad X rf) (em_A_1 cI cC cD ad X rf) (by decide)
set_option maxRecDepth 100000 in
theorem rp_A_21 (cI cC cD : ClassId) (ad : Nat → Nat → Nat) (X : Nat → St) (rf : Nat → Option Nat) (u : St) : Rp (wA cI cC cD ad X rf) (wD cI (ad 2) u ++ wD cI (ad 1) (X 1)) (wA cI cC cD ad (uX X 2 u) rf) ([19, 20, 21, 22, 23, 24, 25, 26, 27, 28, 29, 30, 31, 32] ++ [5, 6, 7, 8, 9, 10, 11, 12, 13, 14, 15, 16, 17, 18]) := rp_two (rp_A_2 cI cC cD ad X rf u) (em_A_1 cI cC cD ad (uX X 2 u) rf)
set_option maxRecDepth 100000 in
theorem em_A_12 (cI cC cD : ClassId) (ad : Nat → Nat → Nat) (X : Nat → St) (rf : Nat → Option Nat) : Em (wA cI cC cD ad X rf) (wD cI (ad 1) (X 1) ++ wD cI (ad 2) (X 2)) ([5, 6, 7, 8, 9, 10, 11, 12, 13, 14, 15, 16, 17, 18] ++ [19, 20, 21, 22, 23, 24, 25, 26, 27, 28, 29, 30, 31, 32]) := em_two (em_A_1 cI cC cD ad X rf) (em_A_2 cI cC cD ad X rf) (by decide)
set_option maxRecDepth 100000 in
theorem rp_A_12 (cI cC cD : ClassId) (ad : Nat → Nat → Nat) (X : Nat → St) (rf : Nat → Option Nat) (u : St) : Rp (wA cI cC cD ad X rf) (wD cI (ad 1) u ++ wD cI (ad 2) (X 2)) (wA cI cC cD ad (uX X 1 u) rf) ([5, 6, 7, 8, 9, 10, 11, 12, 13, 14, 15, 16, 17, 18] ++ [19, 20, 21, 22, 23, 24, 25, 26, 27, 28, 29, 30, 31, 32]) := rp_two (rp_A_1 cI cC cD ad X rf u) (em_A_2 cI cC cD ad (uX X 1 u) rf)
set_option maxRecDepth 100000 in
theorem em_A_31 (cI cC cD : ClassId) (ad : Nat → Nat → Nat) (X : Nat → St) (rf : Nat → Option Nat) : Em (wA cI cC cD ad X rf) (wD cI (ad 3) (X 3) ++ wD cI (ad 1) (X 1)) ([33, 34, 35, 36, 37, 38, 39, 40, 41, 42, 43, 44, 45, 46] ++ [5, 6, 7, 8, 9, 10, 11, 12, 13, 14, 15, 16, 17, 18]) := em_two (em_A_3 cI cC cD ad X rf) (em_A_1 cI cC cD ad X rf) (by decide)
set_option maxRecDepth 100000 in
theorem rp_A_31 (cI cC cD : ClassId) (ad : Nat → Nat → Nat) (X : Nat → St) (rf : Nat → Option Nat) (u : St) : Rp (wA cI cC cD ad X rf) (wD cI (ad 3) u ++ wD cI (ad 1) (X 1)) (wA cI cC cD ad (uX X 3 u) rf) ([33, 34, 35, 36, 37, 38, 39, 40, 41, 42, 43, 44, 45, 46] ++ [5, 6, 7, 8, 9, 10, 11, 12, 13, 14, 15, 16, 17, 18]) := rp_two (rp_A_3 cI cC cD ad X rf u) (em_A_1 cI cC cD ad (uX X 3 u) rf)
set_option maxRecDepth 100000 in
theorem em_A_41 (cI cC cD : ClassId) (ad : Nat → Nat → Nat) (X : Nat → St) (rf : Nat → Option Nat) : Em (wA cI cC cD ad X rf) (wD cI (ad 4) (X 4) ++ wD cI (ad 1) (X 1)) ([47, 48, 49, 50, 51, 52, 53, 54, 55, 56, 57, 58, 59, 60] ++ [5, 6, 7, 8, 9, 10, 11, 12, 13, 14, 15, 16, 17, 18]) := em_two (em_A_4 cI cC cD ad X rf) (em_A_1 cI cC cD ad X rf) (by decide)
set_option maxRecDepth 100000 in
theorem rp_A_41 (cI cC cD : ClassId) (ad : Nat → Nat → Nat) (X : Nat → St) (rf : Nat → Option Nat) (u : St) : Rp (wA cI cC cD ad X rf) (wD cI (ad 4) u ++ wD cI (ad 1) (X 1)) (wA cI cC cD ad (uX X 4 u) rf) ([47, 48, 49, 50, 51, 52, 53, 54, 55, 56, 57, 58, 59, 60] ++ [5, 6, 7, 8, 9, 10, 11, 12, 13, 14, 15, 16, 17, 18]) := rp_two (rp_A_4 cI cC cD ad X rf u) (em_A_1 cI cC cD ad (uX X 4 u) rf)
set_option maxRecDepth 100000 in
theorem em_A_51 (cI cC cD : ClassId) (ad : Nat → Nat → Nat) (X : Nat → St) (rf : Nat → Option Nat) : Em (wA cI cC cD ad X rf) (wD cI (ad 5) (X 5) ++ wD cI (ad 1) (X 1)) ([61, 62, 63, 64, 65, 66, 67, 68, 69, 70, 71, 72, 73, 74] ++ [5, 6, 7, 8, 9, 10, 11, 12, 13, 14, 15, 16, 17, 18]) := em_two (em_A_5 cI cC cD ad X rf) (em_A_1 cI cC cD ad X rf) (by decide)
set_option maxRecDepth 100000 in
theorem rp_A_51 (cI cC cD : ClassId) (ad : Nat → Nat → Nat) (X : Nat → St) (rf : Nat → Option Nat) (u : St) : Rp (wA cI cC cD ad X rf) (wD cI (ad 5) u ++ wD cI (ad 1) (X 1)) (wA cI cC cD ad (uX X 5 u) rf) ([61, 62, 63, 64, 65, 66, 67, 68, 69, 70, 71, 72, 73, 74] ++ [5, 6, 7, 8, 9, 10, 11, 12, 13, 14, 15, 16, 17, 18]) := rp_two (rp_A_5 cI cC cD ad X rf u) (em_A_1 cI cC cD ad (uX X 5 u) rf)
set_option maxRecDepth 100000 in
theorem em_A_61 (cI cC cD : ClassId) (ad : Nat → Nat → Nat) (X : Nat → St) (rf : Nat → Option Nat) : Em (wA cI cC cD ad X rf) (wD cI (ad 6) (X 6) ++ wD cI (ad 1) (X 1)) ([75, 76, 77, 78, 79, 80, 81, 82, 83, 84, 85, 86, 87, 88] ++ [5, 6, 7, 8, 9, 10, 11, 12, 13, 14, 15, 16, 17, 18]) := em_two (em_A_6 cI cC cD ad X rf) (em_A_1 cI cC cD ad X rf) (by decide)
set_option maxRecDepth 100000 in
theorem rp_A_61 (cI cC cD : ClassId) (ad : Nat → Nat → Nat) (X : Nat → St) (rf : Nat → Option Nat) (u : St) : Rp (wA cI cC cD ad X rf) (wD cI (ad 6) u ++ wD cI (ad 1) (X 1)) (wA cI cC cD ad (uX X 6 u) rf) ([75, 76, 77, 78, 79, 80, 81, 82, 83, 84, 85, 86, 87, 88] ++ [5, 6, 7, 8, 9, 10, 11, 12, 13, 14, 15, 16, 17, 18]) := rp_two (rp_A_6 cI cC cD ad X rf u) (em_A_1 cI cC cD ad (uX X 6 u) rf)
set_option maxRecDepth 100000 in
theorem em_A_71 (cI cC cD : ClassId) (ad : Nat → Nat → Nat) (X : Nat → St) (rf : Nat → Option Nat) : Em (wA cI cC cD ad X rf) (wD cI (ad 7) (X 7) ++ wD cI (ad 1) (X 1)) ([89, 90, 91, 92, 93, 94, 95, 96, 97, 98, 99, 100, 101, 102] ++ [5, 6, 7, 8, 9, 10, 11, 12, 13, 14, 15, 16, 17, 18]) := em_two (em_A_7 cI cC cD ad X rf) (em_A_1 cI cC cD ad X rf) (by decide)
set_option maxRecDepth 100000 in
theorem rp_A_71 (cI cC cD : ClassId) (ad : Nat → Nat → Nat) (X : Nat → St) (rf : Nat → Option Nat) (u : St) : Rp (wA cI cC cD ad X rf) (wD cI (ad 7) u ++ wD cI (ad 1) (X 1)) (wA cI cC cD ad (uX X 7 u) rf) ([89, 90, 91, 92, 93, 94, 95, 96, 97, 98, 99, 100, 101, 102] ++ [5, 6, 7, 8, 9, 10, 11, 12, 13, 14, 15, 16, 17, 18]) := rp_two (rp_A_7 cI cC cD ad X rf u) (em_A_1 cI cC cD ad (uX X 7 u) rf)
set_option maxRecDepth 100000 in
theorem em_A_13 (cI cC cD : ClassId) (ad : Nat → Nat → Nat) (X : Nat → St) (rf : Nat → Option Nat) : Em (wA cI cC cD ad X rf) (wD cI (ad 1) (X 1) ++ wD cI (ad 3) (X 3)) ([5, 6, 7, 8, 9, 10, 11, 12, 13, 14, 15, 16, 17, 18] ++ [33, 34, 35, 36, 37, 38, 39, 40, 41, 42, 43, 44, 45, 46]) := em_two (em_A_1 cI cC cD ad X rf) (em_A_3 cI cC cD ad X rf) (by decide)
set_option maxRecDepth 100000 in
theorem rp_A_13 (cI cC cD : ClassId) (ad : Nat → Nat → Nat) (X : Nat → St) (rf : Nat → Option Nat) (u : St) : Rp (wA cI cC cD ad X rf) (wD cI (ad 1) u ++ wD cI (ad 3) (X 3)) (wA cI cC cD ad (uX X 1 u) rf) ([5, 6, 7, 8, 9, 10, 11, 12, 13, 14, 15, 16, 17, 18] ++ [33, 34, 35, 36, 37, 38, 39, 40, 41, 42, 43, 44, 45, 46]) := rp_two (rp_A_1 cI cC cD ad X rf u) (em_A_3 cI cC cD ad (uX X 1 u) rf)
set_option maxRecDepth 100000 in
theorem em_A_14 (cI cC cD : ClassId) (ad : Nat → Nat → Nat) (X : Nat → St) (rf : Nat → Option Nat) : Em (wA cI cC cD ad X rf) (wD cI (ad 1) (X 1) ++ wD cI (ad 4) (X 4)) ([5, 6, 7, 8, 9, 10, 11, 12, 13, 14, 15, 16, 17, 18] ++ [47, 48, 49, 50, 51, 52, 53, 54, 55, 56, 57, 58, 59, 60]) := em_two (em_A_1 cI cC cD ad X rf) (em_A_4 cI cC cD ad X rf) (by decide)
set_option maxRecDepth 100000 in
theorem rp_A_14 (cI cC cD : ClassId) (ad : Nat → Nat → Nat) (X : Nat → St) (rf : Nat → Option Nat) (u : St) : Rp (wA cI cC cD ad X rf) (wD cI (ad 1) u ++ wD cI (ad 4) (X 4)) (wA cI cC cD ad (uX X 1 u) rf) ([5, 6, 7, 8, 9, 10, 11, 12, 13, 14, 15, 16, 17, 18] ++ [47, 48, 49, 50, 51, 52, 53, 54, 55, 56, 57, 58, 59, 60]) := rp_two (rp_A_1 cI cC cD ad X rf u) (em_A_4 cI cC cD ad (uX X 1 u) rf)
set_option maxRecDepth 100000 in
theorem em_A_15 (cI cC cD : ClassId) (ad : Nat → Nat → Nat) (X : Nat → St) (rf : Nat → Option Nat) : Em (wA cI cC cD ad X rf) (wD cI (ad 1) (X 1) ++ wD cI (ad 5) (X 5)) ([5, 6, 7, 8, 9, 10, 11, 12, 13, 14, 15, 16, 17, 18] ++ [61, 62, 63, 64, 65, 66, 67, 68, 69, 70, 71, 72, 73, 74]) := em_two (em_A_1 cI cC cD ad X rf) (em_A_5 cI cC cD ad X rf) (by decide)
set_option maxRecDepth 100000 in
theorem rp_A_15 (cI cC cD : ClassId) (ad : Nat → Nat → Nat) (X : Nat → St) (rf : Nat → Option Nat) (u : St) : Rp (wA cI cC cD ad X rf) (wD cI (ad 1) u ++ wD cI (ad 5) (X 5)) (wA cI cC cD ad (uX X 1 u) rf) ([5, 6, 7, 8, 9, 10, 11, 12, 13, 14, 15, 16, 17, 18] ++ [61, 62, 63, 64, 65, 66, 67, 68, 69, 70, 71, 72, 73, 74]) := rp_two (rp_A_1 cI cC cD ad X rf u) (em_A_5 cI cC cD ad (uX X 1 u) rf)
set_option maxRecDepth 100000 in
theorem em_A_16 (cI cC cD : ClassId) (ad : Nat → Nat → Nat) (X : Nat → St) (rf : Nat → Option Nat) : Em (wA cI cC cD ad X rf) (wD cI (ad 1) (X 1) ++ wD cI (ad 6) (X 6)) ([5, 6, 7, 8, 9, 10, 11, 12, 13, 14, 15, 16, 17, 18] ++ [75, 76, 77, 78, 79, 80, 81, 82, 83, 84, 85, 86, 87, 88]) := em_two (em_A_1 cI cC cD ad X rf) (em_A_6 cI cC cD ad X rf) (by decide)
set_option maxRecDepth 100000 in
theorem rp_A_16 (cI cC cD : ClassId) (ad : Nat → Nat → Nat) (X : Nat → St) (rf : Nat → Option Nat) (u : St) : Rp (wA cI cC cD ad X rf) (wD cI (ad 1) u ++ wD cI (ad 6) (X 6)) (wA cI cC cD ad (uX X 1 u) rf) ([5, 6, 7, 8, 9, 10, 11, 12, 13, 14, 15, 16, 17, 18] ++ [75, 76, 77, 78, 79, 80, 81, 82, 83, 84, 85, 86, 87, 88]) := rp_two (rp_A_1 cI cC cD ad X rf u) (em_A_6 cI cC cD ad (uX X 1 u) rf)
set_option maxRecDepth 100000 in
theorem em_A_S2 (cI cC cD : ClassId) (ad : Nat → Nat → Nat) (X : Nat → St) (rf : Nat → Option Nat) : Em (wA cI cC cD ad X rf) (wS cC (ad 0 3) (ad 0 4) (X 0) ++ wD cI (ad 2) (X 2)) ([3, 4] ++ [19, 20, 21, 22, 23, 24, 25, 26, 27, 28, 29, 30, 31, 32]) := em_two (em_A_S cI cC cD ad X rf) (em_A_2 cI cC cD ad X rf) (by decide)
set_option maxRecDepth 100000 in
theorem rp_A_S2 (cI cC cD : ClassId) (ad : Nat → Nat → Nat) (X : Nat → St) (rf : Nat → Option Nat) (u : St × St) : Rp (wA cI cC cD ad X rf) (wS cC (ad 0 3) (ad 0 4) u.1 ++ wD cI (ad 2) u.2) (wA cI cC cD ad (uX (uX X 0 u.1) 2 u.2) rf) ([3, 4] ++ [19, 20, 21, 22, 23, 24, 25, 26, 27, 28, 29, 30, 31, 32]) := rp_seq (rp_A_S cI cC cD ad X rf u.1) (rp_A_2 cI cC cD ad (uX X 0 u.1) rf u.2) (by decide)
