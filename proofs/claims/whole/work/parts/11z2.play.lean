/-! Texts: fault and play. -/
theorem c_orders {C D : St} {s : Rw} {Q : St → St → Prop} {τ : Rw} {t : Nat} (hT : Txc C τ t) (hR : Rl D s) (hI : Iv 50000 s)
    (h : ∀ C' D', C' 0 = C 0 → C' 1 = C 1 → C' 7 0 = (pl_r τ t 60 0 s).1 → (¬ (pl_r τ t 60 0 s).1 = 0 → C' 6 0 = nI (pl_r τ t 60 0 s).2.1) → Rl D' (pl_r τ t 60 0 s).2.2 → Q C' D') : q_X3_doOrdersOn C D Q := by
  have t60 := hT.2.1
  unfold q_X3_doOrdersOn
  refine ⟨fun m x C1 D1 => C1 0 = C 0 ∧ C1 1 = C 1 ∧ ((∃ i p : Nat, ∃ s1, i ≤ 60 ∧ m = 61 - i ∧ x = nI i ∧ C1 2 0 = nI p ∧ i ≤ p ∧ p ≤ t ∧ C1 7 0 = 0 ∧ Rl D1 s1 ∧ Iv 50000 s1 ∧ pl_r τ t (60 - i) p s1 = pl_r τ t 60 0 s) ∨ (¬ C1 7 0 = 0 ∧ Q C1 D1)), 61, ⟨rfl, rfl, Or.inl ⟨0, 0, s, by omega, rfl, rfl, rfl, Nat.le_refl _, by omega, rfl, hR, hI, rfl⟩⟩, ?_⟩
  rintro m x C1 D1 ⟨k0, k1, ⟨i, p, s1, hi, rfl, rfl, hp, hip, hpt, h7, hR1, hI1, he⟩ | ⟨h7, hQ⟩⟩
  · have hT1 : Txc C1 τ t := hT.cong k0 k1
    have done : t ≤ p → Q C1 D1 := fun c => by
      rw [plr_end c] at he
      rw [← he] at h
      exact h C1 D1 k0 k1 h7 (fun q => absurd rfl q) hR1
    refine ⟨fun c => done ?_, fun c => ?_⟩
    · have := (nI_leI (a := 60) (by omega) (by omega)).mp c
      omega
    rw [hT1.1, hp, h7]
    refine ⟨fun c2 => done ((nI_leI (by omega) (by omega)).mp c2), fun c2 => ⟨fun _ => ?_, fun q => absurd rfl q⟩⟩
    have hlt : p < t := Nat.not_le.mp fun q => c2 (nI_le q (by omega))
    have hi60 : i < 60 := by omega
    obtain ⟨f, hf⟩ : ∃ f, 60 - i = f + 1 := ⟨60 - i - 1, by omega⟩
    rw [hf] at he
    have hT2 : Txc (uA C1 6 (fun _ => nI p)) τ t := hT1.cong rfl rfl
    refine c_readOrder hT2 (p := p) hp hlt (fun hn u u0 u1 u6 u7 => ?_) (fun p' a b hs u u0 u1 u6 u7 u2 u3 u4 u5 => ?_)
    · rw [plr_none hlt hn] at he
      rw [← he] at h
      refine ⟨fun _ => ⟨61 - (i + 1), by omega, u0.trans k0, u1.trans k1, Or.inr ⟨by rw [uA_s]; decide, ?_⟩⟩, fun q => absurd rfl q⟩
      refine h _ D1 (u0.trans k0) (u1.trans k1) rfl (fun _ => ?_) hR1
      show u 6 0 = nI p
      rw [u6]; rfl
    · have hl := prs_lt hs
      have hv := prs_vl hs
      refine ⟨fun q => absurd q (by decide), fun _ => c_doOrder hR1 hI1 hv u3 u4 u5 (fun ha => c_reason ?_) (fun ha D' hD' => c_reason ?_)⟩
      · rw [plr_err hlt hs ha] at he
        rw [← he] at h
        refine ⟨61 - (i + 1), by omega, u0.trans k0, u1.trans k1, Or.inr ⟨by rw [uA_s]; exact rsn_n ha, ?_⟩⟩
        refine h _ D1 (u0.trans k0) (u1.trans k1) rfl (fun _ => ?_) hR1
        show u 6 0 = nI p
        rw [u6]; rfl
      · rw [plr_ok hlt hs ha] at he
        exact ⟨61 - (i + 1), by omega, u0.trans k0, u1.trans k1, Or.inl ⟨i + 1, p', _, hi60, rfl, nI_1 i, u2, by omega, by omega, rsn_0 ha, hD', iv_nxt hI1 hv ha, by rw [show 60 - (i + 1) = f by omega]; exact he⟩⟩
  · exact ⟨fun _ => hQ, fun _ => ⟨fun _ => hQ, fun _ => ⟨fun q => absurd q h7, fun _ => hQ⟩⟩⟩
def ag5 (M D : St) : Prop := ∀ j, j ≠ 0 → j ≠ 5 → j ≠ 8 → j ≠ 9 → j ≠ 10 → D j = M j
theorem v_plays {M : St} {Q : Int32 → St → Prop} {t : Nat} (h7 : M 7 0 = nI t) (ht : t ≤ 60) (hI : Iv 50000 (M 0))
    (h : ∀ M', ag5 M M' → M' 0 = (pl_r (M 6) t 60 0 (M 0)).2.2 → M' 5 0 = 0 → M' 9 0 = (pl_r (M 6) t 60 0 (M 0)).1 → Q (if (pl_r (M 6) t 60 0 (M 0)).1 = 0 then -1000004 else nI (pl_r (M 6) t 60 0 (M 0)).2.1) M') : q_X6_plays M Q := by
  unfold q_X6_plays
  generalize hP : pl_r (M 6) t 60 0 (M 0) = P at h
  refine ⟨fun m x D => ag5 M D ∧ ((∃ p f : Nat, t ≤ p + f ∧ m = f + 1 ∧ p ≤ t ∧ D 8 0 = nI p ∧ D 9 0 = 0 ∧ ¬ D 5 0 = 0 ∧ Iv 50000 (D 0) ∧ pl_r (M 6) t f p (D 0) = P) ∨ (¬ D 9 0 = 0 ∧ Q x (uA D 5 (fun _ => 0)))), 61, ⟨fun j z0 z5 z8 z9 z10 => by rw [uA_n z9, uA_n z8, uA_n z5], Or.inl ⟨0, 60, by omega, rfl, by omega, rfl, rfl, show ¬ (1 : Int32) = 0 by decide, hI, hP⟩⟩, ?_⟩
  rintro m x D ⟨hD, ⟨p, f, hpf, rfl, hpt, h8, h9, h5, hID, he⟩ | ⟨h9, hQ⟩⟩
  · have hD7 : D 7 0 = nI t := by rw [hD 7 (by decide) (by decide) (by decide) (by decide) (by decide)]; exact h7
    have hD6 : D 6 = M 6 := hD 6 (by decide) (by decide) (by decide) (by decide) (by decide)
    rw [hD7, h8, h9]
    refine ⟨fun c => ⟨fun _ => ?_, fun q => absurd rfl q⟩, fun c => ⟨fun _ => ?_, fun q => absurd rfl q⟩⟩
    · rw [plr_end ((nI_leI (by omega) (by omega)).mp c)] at he
      rw [← he] at h
      exact h (uA D 5 (fun _ => 0)) (fun j z0 z5 z8 z9 z10 => by rw [uA_n z5]; exact hD j z0 z5 z8 z9 z10) rfl rfl h9
    · have hlt : p < t := Nat.not_le.mp fun q => c (nI_le q (by omega))
      obtain ⟨g, rfl⟩ : ∃ g, f = g + 1 := ⟨f - 1, by omega⟩
      have stop : ∀ (r : Int32) (u : St), ¬ r = 0 → (r, p, D 0) = P → (∀ j, j ≠ 0 → j ≠ 5 → j ≠ 8 → j ≠ 10 → u j = D j) → u 0 = D 0 → ∃ n1, n1 < g + 1 + 1 ∧ ag5 M (uA u 9 (fun _ => r)) ∧ ((∃ p f : Nat, t ≤ p + f ∧ n1 = f + 1 ∧ p ≤ t ∧ (uA u 9 (fun _ => r)) 8 0 = nI p ∧ (uA u 9 (fun _ => r)) 9 0 = 0 ∧ ¬ (uA u 9 (fun _ => r)) 5 0 = 0 ∧ Iv 50000 ((uA u 9 (fun _ => r)) 0) ∧ pl_r (M 6) t f p ((uA u 9 (fun _ => r)) 0) = P) ∨ (¬ (uA u 9 (fun _ => r)) 9 0 = 0 ∧ Q (nI p) (uA (uA u 9 (fun _ => r)) 5 (fun _ => 0)))) := fun r u hr hp hu hu0 => by
        refine ⟨0, by omega, fun j z0 z5 z8 z9 z10 => by rw [uA_n z9, hu j z0 z5 z8 z10, hD j z0 z5 z8 z9 z10], Or.inr ⟨hr, ?_⟩⟩
        rw [← hp] at h
        have := h (uA (uA u 9 (fun _ => r)) 5 (fun _ => 0)) (fun j z0 z5 z8 z9 z10 => by rw [uA_n z5, uA_n z9, hu j z0 z5 z8 z10, hD j z0 z5 z8 z9 z10]) hu0 rfl rfl
        rw [if_neg hr] at this
        exact this
      have hprs : pr_s (M 6) t p = pr_s (D 6) t p := by rw [hD6]
      refine v_does hD7 h8 ht hlt (fun hn u hu => ?_) (fun p' a b hs u hu hu8 => ?_)
      · rw [plr_none hlt (hprs.trans hn)] at he
        exact stop 1 u (by decide) he (fun j z0 z5 z8 z10 => hu j z8 z10) (hu 0 (by decide) (by decide))
      · have hs' := hprs.trans hs
        have hl := prs_lt hs'
        have hv := prs_vl hs'
        have u0 : u 0 = D 0 := hu 0 (by decide) (by decide)
        rw [hD6]
        refine v_do (by rw [hu 5 (by decide) (by decide)]; exact h5) (by rw [u0]; exact hID) hv (fun ha => ?_) (fun ha => ?_)
        · rw [u0] at ha ⊢
          rw [plr_err hlt hs' ha] at he
          exact stop _ u (rsn_n ha) he (fun j z0 z5 z8 z10 => hu j z8 z10) u0
        · rw [u0] at ha ⊢
          rw [plr_ok hlt hs' ha] at he
          refine ⟨g + 1, by omega, fun j z0 z5 z8 z9 z10 => by rw [uA_n z9, uA_n z0, hu j z8 z10, hD j z0 z5 z8 z9 z10], Or.inl ⟨p', g, by omega, rfl, hl.2, hu8, rfl, ?_, iv_nxt hID hv ha, he⟩⟩
          show ¬ u 5 0 = 0
          rw [hu 5 (by decide) (by decide)]; exact h5
  · exact ⟨fun _ => ⟨fun q => absurd q h9, fun _ => hQ⟩, fun _ => ⟨fun q => absurd q h9, fun _ => hQ⟩⟩
/-- as far as the calls look -/
def Sm (M M' : St) : Prop := M' 0 = M 0 ∧ M' 1 = M 1 ∧ M' 4 = M 4 ∧ M' 5 0 = M 5 0 ∧ M' 6 = M 6 ∧ M' 7 = M 7
theorem Jr.sm {X : Nat → St} {M M' : St} (h : Jr X M) (s : Sm M M') : Jr X M' := h.sim s.1 s.2.1 s.2.2.1 s.2.2.2.1 s.2.2.2.2.1 s.2.2.2.2.2
/-- the orders done in thought, and laid back -/
theorem v_thought {M : St} {Q : Int32 → Int32 → St → Prop} {t : Nat} (j5 : M 5 0 = 0) (h7 : M 7 0 = nI t) (ht : t ≤ 60) (hI : Iv 50000 (M 0))
    (h : ∀ M', Sm M M' → Q (if (pl_r (M 6) t 60 0 (M 0)).1 = 0 then -1000004 else nI (pl_r (M 6) t 60 0 (M 0)).2.1) (pl_r (M 6) t 60 0 (M 0)).1 M') :
    q_X6_copies (fun i => cond (Nat.beq i 0) (M 0) (M 2)) (fun u_3 => q_X6_plays (uA (uA M 0 (u_3 0)) 2 (u_3 1)) (fun r_4 u_5 => q_X6_copies (fun i => cond (Nat.beq i 0) (u_5 2) (u_5 0)) (fun u_6 => Q r_4 (u_5 9 0) (uA (uA u_5 2 (u_6 0)) 0 (u_6 1))))) := by
  refine v_copiesE fun u hu0 hu1 => ?_
  have hu0 : u 0 = M 0 := hu0
  have hu1 : u 1 = fun k => if k < 86 then M 0 k else M 2 k := hu1
  rw [hu0, hu1]
  obtain ⟨-, p86, -⟩ := plr_facts (M 6) t 60 0 (M 0) hI
  have gU : ∃ U : St, uA (uA M 0 (M 0)) 2 (fun k => if k < 86 then M 0 k else M 2 k) = U ∧ U 0 = M 0 ∧ (U 2 = fun k => if k < 86 then M 0 k else M 2 k) ∧ U 1 = M 1 ∧ U 4 = M 4 ∧ U 6 = M 6 ∧ U 7 = M 7 := ⟨_, rfl, rfl, rfl, rfl, rfl, rfl, rfl⟩
  obtain ⟨U, eU, u0, u2, u1, u4, u6, u7⟩ := gU
  rw [eU]
  refine v_plays (t := t) (by rw [u7]; exact h7) ht (by rw [u0]; exact hI) (fun M' hM h0 h5 h9 => ?_)
  rw [u6, u0] at h0 h9 ⊢
  have m1 : M' 1 = M 1 := (hM 1 (by decide) (by decide) (by decide) (by decide) (by decide)).trans u1
  have m2 : M' 2 = fun k => if k < 86 then M 0 k else M 2 k := (hM 2 (by decide) (by decide) (by decide) (by decide) (by decide)).trans u2
  have m4 : M' 4 = M 4 := (hM 4 (by decide) (by decide) (by decide) (by decide) (by decide)).trans u4
  have m6 : M' 6 = M 6 := (hM 6 (by decide) (by decide) (by decide) (by decide) (by decide)).trans u6
  have m7 : M' 7 = M 7 := (hM 7 (by decide) (by decide) (by decide) (by decide) (by decide)).trans u7
  refine v_copiesE fun w hw0 hw1 => ?_
  have hw0 : w 0 = M' 2 := hw0
  have hw1 : w 1 = fun k => if k < 86 then M' 2 k else M' 0 k := hw1
  rw [hw0, hw1, h9]
  refine h (uA (uA M' 2 (M' 2)) 0 (fun k => if k < 86 then M' 2 k else M' 0 k)) ⟨?_, m1, m4, h5.trans j5.symm, m6, m7⟩
  show (fun k => if k < 86 then M' 2 k else M' 0 k) = M 0
  funext k
  by_cases c : k < 86
  · rw [if_pos c, m2]
    show (if k < 86 then M 0 k else M 2 k) = M 0 k
    rw [if_pos c]
  · rw [if_neg c, h0]
    exact p86 k (by omega)
theorem v_fault {M : St} {Q : Int32 → St → Prop} {t : Nat} {x : Int32} (j5 : M 5 0 = 0) (h7 : M 7 0 = nI t) (ht : t ≤ 60) (hI : Iv 50000 (M 0))
    (hbad : ¬ (0 ≤ x ∧ x ≤ 1) → Q (-1000001) M)
    (h : 0 ≤ x ∧ x ≤ 1 → ∀ M', Sm M M' → Q (if (pl_r (M 6) t 60 0 (M 0)).1 = 0 then -1000004 else if x = 0 then nI (pl_r (M 6) t 60 0 (M 0)).2.1 else (pl_r (M 6) t 60 0 (M 0)).1) M') : q_X6_fault x M Q := by
  unfold q_X6_fault
  refine v_in (fun h1 h2 => ⟨fun q => absurd q (by decide), fun _ => ?_⟩) (fun hne => ⟨fun _ => hbad hne, fun q => absurd rfl q⟩)
  obtain ⟨-, -, pl⟩ := plr_facts (M 6) t 60 0 (M 0) hI
  refine v_thought (Q := fun r_4 r9 M' => (r_4 = (-1000004) → Q r_4 M') ∧ (¬ (r_4 = (-1000004)) → (x = 0 → Q r_4 M') ∧ (¬ (x = 0) → Q r9 M'))) j5 h7 ht hI fun M' hM => ?_
  have h := h ⟨h1, h2⟩ M' hM
  by_cases c : (pl_r (M 6) t 60 0 (M 0)).1 = 0
  · rw [if_pos c] at h ⊢
    exact ⟨fun _ => h, fun q => absurd rfl q⟩
  · have pl := pl c
    rw [if_neg c] at h ⊢
    refine ⟨fun q => ?_, fun _ => ⟨fun e => ?_, fun e => ?_⟩⟩
    · have := nI_pos (n := (pl_r (M 6) t 60 0 (M 0)).2.1) (by omega)
      rw [q] at this
      exact absurd (by decide) this
    · rw [if_pos e] at h; exact h
    · rw [if_neg e] at h; exact h
theorem s_fault {X : Nat → St} {M : St} {x : Int32} (hJ : Jr X M) : q_X5_fault x X (fun r X1 => q_X6_fault x M (fun r1 M1 => r = r1 ∧ Jr X1 M1)) := by
  obtain ⟨j5, jR, jI, jM, jH, ⟨t, ht, t1, t2, t3⟩⟩ := id hJ
  obtain ⟨n, no, nm, hC, ho⟩ := id jI
  have bad : ¬ (0 ≤ x ∧ x ≤ 1) → q_X6_fault x M (fun r1 M1 => (-1000001) = r1 ∧ Jr X M1) := fun q => v_fault j5 t2 ht jI (fun _ => ⟨rfl, hJ⟩) (fun z => absurd z q)
  unfold q_X5_fault
  refine ⟨fun c => bad fun q => absurd q.1 (Int32.not_le.mpr c), fun c1 => ⟨fun c2 => ?_, fun c => bad fun q => c q.2⟩⟩
  have hin : 0 ≤ x ∧ x ≤ 1 := ⟨Int32.not_lt.mp c1, c2⟩
  refine c_copy jR hC (jM 2 (by decide) (by decide)) fun E hE => ?_
  refine c_orders (τ := M 6) ⟨t1, ht, t3⟩ hE jI fun C' D' k0 k1 k7 k6 hR' => ?_
  unfold q_X3_faultReason q_X3_faultPlace
  dsimp only
  have fin : ∀ r : Int32, r = (if (pl_r (M 6) t 60 0 (M 0)).1 = 0 then -1000004 else if x = 0 then nI (pl_r (M 6) t 60 0 (M 0)).2.1 else (pl_r (M 6) t 60 0 (M 0)).1) → q_X6_fault x M (fun r1 M1 => r = r1 ∧ Jr (uX (uX (uX X 2 E) 0 C') 2 D') M1) := fun r e => v_fault j5 t2 ht jI (fun q => absurd hin q) fun _ M' hM => ⟨e, Jr.sm ((hJ.back (Bk.rfl' M) (fun j z1 z2 => by rw [uX_n z2, uX_n z1, uX_n z2]) k0 k1 (by rw [uX_s]; exact (plr_facts (M 6) t 60 0 (M 0) jI).1.mo hR'))) hM⟩
  rw [k7]
  by_cases c : (pl_r (M 6) t 60 0 (M 0)).1 = 0
  · refine ⟨fun _ => fin _ (by rw [if_pos c]), fun q => absurd c q⟩
  · refine ⟨fun q => absurd q c, fun _ => ⟨fun e => fin _ (by rw [if_neg c, if_pos e]; exact k6 c), fun e => fin _ (by rw [if_neg c, if_neg e])⟩⟩
theorem v_play {M : St} {Q : Int32 → St → Prop} {t p : Nat} (j5 : M 5 0 = 0) (h7 : M 7 0 = nI t) (ht : t ≤ 60) (hI : Iv 50000 (M 0)) (hp : p ≤ 4) (j4 : M 4 0 = nI p)
    (hbad : ¬ (pl_r (M 6) t 60 0 (M 0)).1 = 0 → ∀ M', Sm M M' → Q (-1000002) M')
    (hok : (pl_r (M 6) t 60 0 (M 0)).1 = 0 → ∀ M3 u M', Sm M M3 → u 0 = M3 0 → Psh p M3 u → Sm (uA u 0 (pl_r (M 6) t 60 0 (M 0)).2.2) M' → Q ((pl_r (M 6) t 60 0 (M 0)).2.2 4) M') : q_X6_play M Q := by
  unfold q_X6_play
  obtain ⟨-, -, pl⟩ := plr_facts (M 6) t 60 0 (M 0) hI
  refine v_thought (Q := fun r_2 _ M3 => (r_2 = (-1000004) → q_X6_changes M3 (fun u_6 => q_X6_plays u_6 (fun r_7 u_8 => (r_7 = (-1000004) → Q ((u_8 0) 4) u_8) ∧ (¬ (r_7 = (-1000004)) → Q (-1000004) u_8)))) ∧ (¬ (r_2 = (-1000004)) → Q (-1000002) M3)) j5 h7 ht hI fun M3 hM => ?_
  by_cases c : (pl_r (M 6) t 60 0 (M 0)).1 = 0
  · rw [if_pos c]
    refine ⟨fun _ => ?_, fun q => absurd rfl q⟩
    have hok := hok c M3
    obtain ⟨m0, m1, m4, m5, m6, m7⟩ := id hM
    refine chg_push (m5.trans j5) hp (by rw [m4]; exact j4) _ fun u hu hP => ?_
    have u6 : u 6 = M 6 := (hP.1 6 (by decide) (by decide)).trans m6
    have u7 : u 7 = M 7 := (hP.1 7 (by decide) (by decide)).trans m7
    have u5 : u 5 = M3 5 := hP.1 5 (by decide) (by decide)
    have u0 : u 0 = M 0 := hu.trans m0
    refine v_plays (t := t) (by rw [u7]; exact h7) ht (by rw [u0]; exact hI) fun M' hM' h0 h5 h9 => ?_
    rw [u6, u0] at h0 h9 ⊢
    rw [if_pos c]
    refine ⟨fun _ => ?_, fun q => absurd rfl q⟩
    rw [h0]
    refine hok u M' hM hu hP ⟨h0, ?_, ?_, ?_, ?_, ?_⟩
    · exact hM' 1 (by decide) (by decide) (by decide) (by decide) (by decide)
    · exact hM' 4 (by decide) (by decide) (by decide) (by decide) (by decide)
    · show M' 5 0 = u 5 0
      rw [h5, u5]
      exact (m5.trans j5).symm
    · exact hM' 6 (by decide) (by decide) (by decide) (by decide) (by decide)
    · exact hM' 7 (by decide) (by decide) (by decide) (by decide) (by decide)
  · have pl := pl c
    rw [if_neg c]
    refine ⟨fun q => ?_, fun _ => hbad c M3 hM⟩
    have := nI_pos (n := (pl_r (M 6) t 60 0 (M 0)).2.1) (by omega)
    rw [q] at this
    exact absurd (by decide) this
theorem s_play {X : Nat → St} {M : St} (hJ : Jr X M) : q_X5_play X (fun r X1 => q_X6_play M (fun r1 M1 => r = r1 ∧ Jr X1 M1)) := by
  obtain ⟨j5, jR, jI, jM, ⟨p, hp, j8, j4, jH⟩, ⟨t, ht, t1, t2, t3⟩⟩ := id hJ
  obtain ⟨n, no, nm, hC, ho⟩ := id jI
  unfold q_X5_play
  refine c_copy jR hC (jM 2 (by decide) (by decide)) fun E hE => ?_
  refine c_orders (τ := M 6) ⟨t1, ht, t3⟩ hE jI fun C' D' k0 k1 k7 k6 hR' => ?_
  obtain ⟨pI, -, pl⟩ := plr_facts (M 6) t 60 0 (M 0) jI
  have hJp : Jr (uX (uX (uX X 2 E) 0 C') 2 D') M := hJ.back (Bk.rfl' M) (fun j z1 z2 => by rw [uX_n z2, uX_n z1, uX_n z2]) k0 k1 (by rw [uX_s]; exact pI.mo hR')
  have x2 : (uX (uX (uX X 2 E) 0 C') 2 D') 2 = D' := uX_s _ _ _
  have x8 : (uX (uX (uX X 2 E) 0 C') 2 D') 8 0 0 = nI p := j8
  unfold q_X3_faultReason
  dsimp only
  rw [k7]
  generalize uX (uX (uX X 2 E) 0 C') 2 D' = Y at hJp x2 x8 ⊢
  refine ⟨fun c => ?_, fun c => v_play j5 t2 ht jI hp j4 (fun _ M' hM => ⟨rfl, hJp.sm hM⟩) (fun q => absurd q c)⟩
  obtain ⟨w, hw, ew⟩ := iv_water pI
  obtain ⟨-, jRp, -, jMp, -⟩ := id hJp
  refine c_prepare hp x8 jRp jI (jMp _ (by omega) (by omega)) fun X' hX hRX => ?_
  obtain ⟨n2, no2, nm2, hC2, -⟩ := id pI
  refine c_copy (s := (pl_r (M 6) t 60 0 (M 0)).2.2) (by rw [hX 2 (by omega), x2]; exact hR') hC2 (by rw [hX 1 (by omega)]; exact jMp 1 (by decide) (by decide)) fun D2 hD2 => ?_
  unfold q_X0_water
  dsimp only
  rw [(hD2 n2 no2 nm2 hC2.1).2.2.2.2.1.1]
  have hw0 : ¬ (pl_r (M 6) t 60 0 (M 0)).2.2 4 < 0 := by rw [ew]; exact nI_pos (by omega)
  unfold q_X5_kept q_X5_isError
  refine ⟨fun _ => ⟨fun _ => c_keep hp (by rw [uX_n (by decide), hX 8 (by omega)]; exact x8) fun X2 g1 g2 => ?_, fun q => absurd rfl q⟩, fun q => absurd (Int32.not_lt.mp hw0) q⟩
  refine v_play j5 t2 ht jI hp j4 (fun q => absurd c q) (fun _ M3 u M' hM hu hP hM' => ⟨rfl, ?_⟩)
  refine Jr.sm ?_ hM'
  exact j_ok (hJp.sm hM) hp x8 hX (by rw [hM.1]; exact hRX) hD2 pI g1 g2 hu hP
