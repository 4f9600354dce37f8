/-! The crane at rest: minutesToRest, bestRule. -/
abbrev rsP (s : Rw) : Prop := s 7 < 0 ∧ s 10 = 0 ∧ s 11 = 0 ∧ s 9 = 0
theorem v_atRest {M : St} {Q : Int32 → Prop} (h : Q (if rsP (M 0) then 1 else 0)) : q_X6_isAtRest M Q := by
  unfold q_X6_isAtRest
  have no : ¬ rsP (M 0) → Q 0 := fun q => by rw [if_neg q] at h; exact h
  refine ⟨fun c => no fun q => absurd q.1 (Int32.not_lt.mpr c), fun c => ⟨fun c10 => ⟨fun c11 => ⟨fun c9 => ?_, fun c9 => no fun q => c9 q.2.2.2⟩, fun c11 => no fun q => c11 q.2.2.1⟩, fun c10 => no fun q => c10 q.2.1⟩⟩
  rw [if_pos (show rsP (M 0) from ⟨Int32.not_le.mp c, c10, c11, c9⟩)] at h
  exact h
theorem c_rests {d B n no nm : Nat} {D : St} {s : Rw} {Q : Int32 → Prop} (hR : Rl D s) (hC : Core d B n no nm s) (h : Q (if rsP s then 1 else 0)) : q_X0_rests D Q := by
  have hc := hC.1
  have hN := hR n no nm hc
  have h8 := hc.1
  have ho8 := hc.2.1
  have hm4 := hc.2.2.1
  have a5 : s 10 = nI no := hc.2.2.2.2.1
  have a6 : s 11 = nI nm := hc.2.2.2.2.2
  have bad : ¬ rsP s → Q 0 := fun q => by rw [if_neg q] at h; exact h
  have hF := isF hN.2.2.2.2.1.2.2.2.2.2.2.1 hC.2.2.2.2.1.2.1
  unfold q_X0_rests
  refine c_hasTask (s := s) (n := n) hN.2.2.2.2.2.1 hC.2.2.2.1 (fun c7 => ⟨fun _ => ?_, fun q => absurd rfl q⟩) (fun c7 => ⟨fun q => absurd q (by decide), fun _ => bad fun q => c7 q.1⟩) h8
  refine c_waits hN hc (fun e => ⟨fun _ => ⟨fun c9 => ?_, fun c9 => bad fun q => ?_⟩, fun q => absurd rfl q⟩) (fun e => ⟨fun q => absurd q (by decide), fun _ => bad fun q => ?_⟩)
  · rw [if_pos (show rsP s from ⟨c7, by rw [a5, show no = 0 by omega]; rfl, by rw [a6, show nm = 0 by omega]; rfl, hF.1.mp c9⟩)] at h
    exact h
  · exact c9 (hF.1.mpr q.2.2.2)
  · have h1 : no = 0 := (nI_eq (b := 0) (by omega) (by omega)).mp (a5.symm.trans q.2.1)
    have h2 : nm = 0 := (nI_eq (b := 0) (by omega) (by omega)).mp (a6.symm.trans q.2.2.1)
    omega
def a_rest (s : Rw) (x : Int32) : Int32 := sk_c rsP (upd s 2 x) 1001 0
theorem iv_rule {B : Nat} {s : Rw} {x : Int32} (hI : Iv B s) (hx : 0 ≤ x ∧ x ≤ 2) : Iv B (upd s 2 x) := by
  obtain ⟨n, no, nm, hC, ho⟩ := hI
  have := core_num (p := 2) hC (by omega) (nums_rule hC.2.2.2.2.1 hx)
  exact ⟨n, no, nm, this.1, this.2 ho⟩
theorem yes_of {c : Prop} [Decidable c] (q : ¬ (if c then (1 : Int32) else 0) = 0) : c := by
  by_cases h : c
  · exact h
  · rw [if_neg h] at q; exact absurd rfl q
theorem no_of {c : Prop} [Decidable c] (q : (if c then (1 : Int32) else 0) = 0) : ¬ c := fun h => by
  rw [if_pos h] at q; exact absurd q (by decide)
theorem c_restBy {B : Nat} {X : Nat → St} {s : Rw} {Q : Int32 → (Nat → St) → Prop} {x : Int32} (hI : Iv B s) (hR : Rl (X 1) s) (hM : Mo (X 2)) (hx : 0 ≤ x ∧ x ≤ 2)
    (hQ : ∀ X', (∀ j, j ≠ 2 → X' j = X j) → Mo (X' 2) → Q (a_rest s x) X') : q_X5_minutesToRestBy x X Q := by
  obtain ⟨n, no, nm, hC, ho⟩ := id hI
  have hp := num_pos hC.2.2.2.2.1
  unfold q_X5_minutesToRestBy
  refine c_copy hR hC hM fun E hE => ?_
  have ea : a_set s 2 x = s 2 := by
    unfold a_set
    rw [if_pos (Or.inr ⟨rfl, hx⟩)]; rfl
  refine c_set hE hC.1 hp.1 (fun q => absurd q (by rw [ea]; exact hp.1 2 (by decide))) (fun _ D' hD' => ?_)
  have hD' : Rl D' (upd s 2 x) := hD'
  refine c_seek (B := B) (s := upd s 2 x) (c := rsP) (iv_rule hI hx) (by rw [uX_s]; exact hD') (fun X' hX hm => hQ X' (fun j hj => by rw [hX j hj, uX_n hj, uX_n hj]) hm) _ (fun I m x3 Y z B' hz hRz hyes hno => ?_)
  obtain ⟨nz, noz, nmz, hCz, hoz⟩ := id hz
  exact c_rests hRz hCz ⟨fun q => c_letPass 1 (by decide) rfl hRz hz fun D' hD' => hno (no_of q) D' hD', fun q => hyes (yes_of q)⟩
/-- copies, with equations -/
theorem v_copiesE {S : St} {Q : St → Prop} (h : ∀ u : St, u 0 = S 0 → u 1 = (fun k => if k < 86 then S 0 k else S 1 k) → Q u) : q_X6_copies S Q := v_copiesX (h _ rfl rfl)
theorem v_restIn {M : St} {Q : Int32 → St → Prop} {x : Int32} {B : Nat} (hI : Iv B (M 0)) (hx : 0 ≤ x ∧ x ≤ 2) (h : ∀ M', Bk M M' → Q (a_rest (M 0) x) M') : q_X6_restIn x M Q := by
  have hI2 := iv_rule hI hx
  unfold q_X6_restIn
  refine v_copiesE fun u hu0 hu1 => ?_
  have hu0 : u 0 = M 0 := hu0
  have hu1 : u 1 = fun k => if k < 86 then M 0 k else M 3 k := hu1
  rw [hu0, hu1]
  refine v_seek (B := B) (c := rsP) (U := uA (uA (uA M 0 (M 0)) 3 (fun k => if k < 86 then M 0 k else M 3 k)) 0 (upd (M 0) 2 x)) hI2 (fun j hj r hr h1 h2 => ?_) _ (fun I n x3 z B' hz hyes hno => ?_)
  · refine v_seekEnd (M := M) hj h1 h2 rfl (fun j' hj' => (mins_86 hI2 j j' hj').trans (upd_n (by omega))) ⟨rfl, rfl, rfl, rfl, rfl⟩ ?_
    rw [hr]; exact h
  · obtain ⟨nz, noz, nmz, hCz, hoz⟩ := hz
    refine v_atRest ⟨fun q => ?_, fun q => ?_⟩
    · rw [uA_s] at q
      refine v_passes (B := B') (n := nz) (no := noz) (nm := nmz) (by rw [uA_s]; exact hCz) (by rw [uA_s]; exact hoz) ?_
      have := hno (no_of q)
      rw [uA_s, uA_uA]
      exact this
    · rw [uA_s] at q
      exact hyes (yes_of q)
theorem rule_in {s : Rw} (h : Nums s) : 0 ≤ s 2 ∧ s 2 ≤ 2 := by
  rcases h.2.2.1 with e | e | e <;> rw [e] <;> decide
theorem s_rest {X : Nat → St} {M : St} (hJ : Jr X M) : q_X5_minutesToRest X (fun r X1 => q_X6_minutesToRest M (fun r1 M1 => r = r1 ∧ Jr X1 M1)) := by
  obtain ⟨-, jR, jI, jM, -⟩ := id hJ
  obtain ⟨n, no, nm, hC, ho⟩ := id jI
  have e2 : X 1 14 2 = M 0 2 := (jR n no nm hC.1).2.2.2.1.2.2
  have hx := rule_in hC.2.2.2.2.1
  unfold q_X5_minutesToRest q_X0_rule
  rw [e2]
  refine c_restBy jI jR (jM 2 (by decide) (by decide)) hx fun X' hX hm => ?_
  unfold q_X6_minutesToRest
  exact v_restIn jI hx fun M' hM => ⟨rfl, hJ.back hM (fun j z1 z2 => hX j z2) (by rw [hX 0 (by decide)]) (by rw [hX 0 (by decide)]) hm⟩
/-- the best rule of the first k, and its minutes -/
def bs_t (f : Nat → Int32) : Nat → Int32 × Int32
  | 0 => (-1000004, -1000004)
  | k + 1 => if f k < 0 then bs_t f k else if (bs_t f k).2 < 0 then (nI k, f k) else if (bs_t f k).2 ≤ f k then bs_t f k else (nI k, f k)
theorem bst_no (f : Nat → Int32) : ∀ k, k ≤ 3 → ((bs_t f k).1 = -1000004 ∧ (bs_t f k).2 < 0) ∨ (¬ (bs_t f k).1 = -1000004 ∧ ¬ (bs_t f k).2 < 0)
  | 0, _ => Or.inl ⟨rfl, show (-1000004 : Int32) < 0 by decide⟩
  | k + 1, hk => by
    have ih := bst_no f k (by omega)
    have hne : ¬ nI k = -1000004 := fun e => by
      have := nI_pos (n := k) (by omega)
      rw [e] at this
      exact this (by decide)
    unfold bs_t
    by_cases c : f k < 0
    · rw [if_pos c]; exact ih
    · rw [if_neg c]
      by_cases c2 : (bs_t f k).2 < 0
      · rw [if_pos c2]; exact Or.inr ⟨hne, c⟩
      · rw [if_neg c2]
        by_cases c3 : (bs_t f k).2 ≤ f k
        · rw [if_pos c3]; exact ih
        · rw [if_neg c3]; exact Or.inr ⟨hne, c⟩
def a_best (s : Rw) (x : Int32) : Int32 := if 0 ≤ x ∧ x ≤ 1 then (if x = 0 then (bs_t (fun k => a_rest s (nI k)) 3).1 else (bs_t (fun k => a_rest s (nI k)) 3).2) else -1000001
theorem rest_val (s : Rw) (x : Int32) : a_rest s x = -1000004 ∨ ¬ a_rest s x < 0 := by
  rcases sk_val rsP (upd s 2 x) 1001 0 with h | ⟨k, hk, e⟩
  · exact Or.inl h
  · exact Or.inr (by unfold a_rest; rw [e]; exact nI_pos (by omega))
theorem nI_2 {k : Nat} (hk : k < 3) : 0 ≤ nI k ∧ nI k ≤ 2 := ⟨nI_pos' (by omega), nI_le (b := 2) (by omega) (by omega)⟩
theorem v_best {M : St} {Q : Int32 → St → Prop} {x : Int32} {B : Nat} (hI : Iv B (M 0)) (h : ∀ M', Bk M M' → Q (a_best (M 0) x) M') : q_X6_bestRule x M Q := by
  unfold a_best at h
  unfold q_X6_bestRule
  refine v_in (fun h1 h2 => ⟨fun q => absurd q (by decide), fun _ => ?_⟩) (fun hne => ⟨fun _ => ?_, fun q => absurd rfl q⟩)
  · rw [if_pos ⟨h1, h2⟩] at h
    refine ⟨fun m x4 x3 x2 D => ∃ k : Nat, k ≤ 3 ∧ m = 3 - k ∧ x4 = nI k ∧ x3 = (bs_t (fun k => a_rest (M 0) (nI k)) k).2 ∧ x2 = (bs_t (fun k => a_rest (M 0) (nI k)) k).1 ∧ Bk M D, 3, ⟨0, by omega, rfl, rfl, rfl, rfl, Bk.rfl' M⟩, ?_⟩
    rintro m x4 x3 x2 D ⟨k, hk, rfl, rfl, rfl, rfl, hD⟩
    refine ⟨fun c => ?_, fun c => ?_⟩
    · have := (nI_leI (a := 3) (by omega) (by omega)).mp c
      rw [show k = 3 by omega]
      refine ⟨fun e => ?_, fun e => ?_⟩
      · rw [if_pos e] at h; exact h D hD
      · rw [if_neg e] at h; exact h D hD
    · have hk3 : k < 3 := Nat.not_le.mp fun q => c (nI_le (a := 3) q (by omega))
      have e0 : D 0 = M 0 := hD.1
      refine v_restIn (B := B) (by rw [e0]; exact hI) (nI_2 hk3) fun M' hM => ?_
      rw [e0]
      have hb := bst_no (fun k => a_rest (M 0) (nI k)) k hk
      have fin : ∀ {a b : Int32}, a = (bs_t (fun k => a_rest (M 0) (nI k)) (k + 1)).2 → b = (bs_t (fun k => a_rest (M 0) (nI k)) (k + 1)).1 → ∃ n1, n1 < 3 - k ∧ ∃ k1 : Nat, k1 ≤ 3 ∧ n1 = 3 - k1 ∧ nI k + 1 = nI k1 ∧ a = (bs_t (fun k => a_rest (M 0) (nI k)) k1).2 ∧ b = (bs_t (fun k => a_rest (M 0) (nI k)) k1).1 ∧ Bk M M' := fun ha hb => ⟨3 - (k + 1), by omega, k + 1, hk3, rfl, nI_1 k, ha, hb, hD.trans hM⟩
      refine ⟨fun q => fin ?_ ?_, fun q => ⟨fun q2 => fin ?_ ?_, fun q2 => ⟨fun q3 => fin ?_ ?_, fun q3 => fin ?_ ?_⟩⟩⟩
      · rw [bs_t, if_pos q]
      · rw [bs_t, if_pos q]
      · rw [bs_t, if_neg q, if_pos q2]
      · rw [bs_t, if_neg q, if_pos q2]
      · rw [bs_t, if_neg q, if_neg q2, if_pos q3]
      · rw [bs_t, if_neg q, if_neg q2, if_pos q3]
      · rw [bs_t, if_neg q, if_neg q2, if_neg q3]
      · rw [bs_t, if_neg q, if_neg q2, if_neg q3]
  · rw [if_neg hne] at h
    exact h M (Bk.rfl' M)
theorem s_best {X : Nat → St} {M : St} {x : Int32} (hJ : Jr X M) : q_X5_bestRule x X (fun r X1 => q_X6_bestRule x M (fun r1 M1 => r = r1 ∧ Jr X1 M1)) := by
  obtain ⟨-, jR, jI, jM, -⟩ := id hJ
  have bad : ¬ (0 ≤ x ∧ x ≤ 1) → q_X6_bestRule x M (fun r1 M1 => (-1000001) = r1 ∧ Jr X M1) := fun q => v_best jI fun M' hM => by
    rw [a_best, if_neg q]
    exact ⟨rfl, hJ.back hM (fun _ _ _ => rfl) rfl rfl (jM 2 (by decide) (by decide))⟩
  unfold q_X5_bestRule
  refine ⟨fun c => bad fun q => absurd q.1 (Int32.not_le.mpr c), fun c1 => ⟨fun c2 => ?_, fun c => bad fun q => c q.2⟩⟩
  have hin : 0 ≤ x ∧ x ≤ 1 := ⟨Int32.not_lt.mp c1, c2⟩
  refine ⟨fun m x4 x3 x2 Y => ∃ k : Nat, k ≤ 3 ∧ m = 3 - k ∧ x4 = nI k ∧ x3 = (bs_t (fun k => a_rest (M 0) (nI k)) k).2 ∧ x2 = (bs_t (fun k => a_rest (M 0) (nI k)) k).1 ∧ (∀ j, j ≠ 2 → Y j = X j) ∧ Mo (Y 2), 3, ⟨0, by omega, rfl, rfl, rfl, rfl, fun _ _ => rfl, jM 2 (by decide) (by decide)⟩, ?_⟩
  rintro m x4 x3 x2 Y ⟨k, hk, rfl, rfl, rfl, rfl, hY, hm⟩
  have fin : q_X6_bestRule x M (fun r1 M1 => a_best (M 0) x = r1 ∧ Jr Y M1) := v_best jI fun M' hM => ⟨rfl, hJ.back hM (fun j z1 z2 => hY j z2) (by rw [hY 0 (by decide)]) (by rw [hY 0 (by decide)]) hm⟩
  refine ⟨fun c => ?_, fun c => ?_⟩
  · have := (nI_ltI (a := 2) (by omega) (by omega)).mp c
    have e : k = 3 := by omega
    subst e
    unfold a_best at fin
    rw [if_pos hin] at fin
    refine ⟨fun e => ?_, fun e => ?_⟩
    · rw [if_pos e] at fin; exact fin
    · rw [if_neg e] at fin; exact fin
  · have hk3 : k < 3 := by
      have : ¬ 2 < k := fun z => c (nI_lt (a := 2) z (by omega))
      omega
    refine c_restBy jI (by rw [hY 1 (by decide)]; exact jR) hm (nI_2 hk3) fun X' hX hm' => ?_
    have hb := bst_no (fun k => a_rest (M 0) (nI k)) k hk
    have hv := rest_val (M 0) (nI k)
    have fin : ∀ {a b : Int32}, a = (bs_t (fun k => a_rest (M 0) (nI k)) (k + 1)).2 → b = (bs_t (fun k => a_rest (M 0) (nI k)) (k + 1)).1 → ∃ n1, n1 < 3 - k ∧ ∃ k1 : Nat, k1 ≤ 3 ∧ n1 = 3 - k1 ∧ nI k + 1 = nI k1 ∧ a = (bs_t (fun k => a_rest (M 0) (nI k)) k1).2 ∧ b = (bs_t (fun k => a_rest (M 0) (nI k)) k1).1 ∧ (∀ j, j ≠ 2 → X' j = X j) ∧ Mo (X' 2) := fun ha hb => ⟨3 - (k + 1), by omega, k + 1, hk3, rfl, nI_1 k, ha, hb, fun j hj => (hX j hj).trans (hY j hj), hm'⟩
    have ne : a_rest (M 0) (nI k) = -1000004 → a_rest (M 0) (nI k) < 0 := fun e => by rw [e]; decide
    refine ⟨fun q => fin ?_ ?_, fun q => ?_⟩
    · rw [bs_t, if_pos (ne q)]
    · rw [bs_t, if_pos (ne q)]
    · have q' : ¬ a_rest (M 0) (nI k) < 0 := hv.resolve_left q
      refine ⟨fun q2 => ?_, fun q2 => ?_⟩
      · have q2' : (bs_t (fun k => a_rest (M 0) (nI k)) k).2 < 0 := by
          rcases hb with z | z
          · exact z.2
          · exact absurd q2 z.1
        refine fin ?_ ?_
        · rw [bs_t, if_neg q', if_pos q2']
        · rw [bs_t, if_neg q', if_pos q2']
      · have q2' : ¬ (bs_t (fun k => a_rest (M 0) (nI k)) k).2 < 0 := by
          rcases hb with z | z
          · exact absurd z.1 q2
          · exact z.2
        refine ⟨fun q3 => fin ?_ ?_, fun q3 => fin ?_ ?_⟩
        · rw [bs_t, if_neg q', if_neg q2', if_pos q3]
        · rw [bs_t, if_neg q', if_neg q2', if_pos q3]
        · rw [bs_t, if_neg q', if_neg q2', if_neg q3]
        · rw [bs_t, if_neg q', if_neg q2', if_neg q3]
