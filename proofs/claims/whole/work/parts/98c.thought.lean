/-! thought answers alike. -/
theorem gI_of {τ : Tau} {σ : Sig} {ci a kf : Nat} {rs : List (Option (Option Nat))} (h : τ a = some (.inl (ci, rs))) (hk : rs[kf]? = some none) : gI τ σ ci a kf = some (σ a kf) := by
  unfold gI; rw [h]; simp [hk]
theorem sub_nI {P x : Int32} {k : Nat} (h : x = P + nI k) : x - P = nI k := by
  rw [h, Int32.add_comm, Int32.add_sub_cancel]
theorem st_thought (A b : Nat) (hb : b ≤ 10000000) : St_thought (Inv A b) A (A + 84) := by
  intro h v1 v2 v3 hI
  obtain ⟨τ, σ, nx⟩ := h
  show ∃ (r : Int32) (h1 h2 : Hp), X11_thought_f τ σ nx A v1 v2 v3 = some (r, h1) ∧ ShX12 h1.1 (A + 84) ∧ ((X12_thought_f (A + 84) v1 v2 v3 h1.2.1).bind fun p => some (p.1, ((h1.1, p.2, h1.2.2) : Hp))) = some (r, h2) ∧ Inv A b h2
  have no : X11_thought_f τ σ nx A v1 v2 v3 = some (-1, (τ, σ, nx)) → X12_thought_f (A + 84) v1 v2 v3 σ = some (-1, σ) → ∃ (r : Int32) (h1 h2 : Hp), X11_thought_f τ σ nx A v1 v2 v3 = some (r, h1) ∧ ShX12 h1.1 (A + 84) ∧ ((X12_thought_f (A + 84) v1 v2 v3 h1.2.1).bind fun p => some (p.1, ((h1.1, p.2, h1.2.2) : Hp))) = some (r, h2) ∧ Inv A b h2 := fun e1 e2 => ⟨-1, (τ, σ, nx), (τ, σ, nx), e1, hI.s2, by dsimp only; rw [e2, bsm], hI⟩
  obtain ⟨n, nd, hD, hF⟩ := hI.dr
  rcases within_in v1 1 30 σ σ with ⟨l1, l2, a1, a2⟩ | ⟨a1, a2⟩
  rotate_left
  · refine no ?_ ?_
    · unfold X11_thought_f; rw [a1, bsm, if_pos rfl]
    · unfold X12_thought_f; rw [a2, bsm, if_pos rfl]
  obtain ⟨m, hm, rfl⟩ := within_up (m := 30) (by decide) (Int32.le_trans (show (0 : Int32) ≤ 1 by decide) l1) l2
  by_cases cm : v2 = -1
  · subst cm
    -- two thoughts
    obtain ⟨τ1, σ1, -, w1, c1, -, c3, c4, c5, c6, -, -, -, c10⟩ := think_two (ρ := σ) (law := 0) hD rfl hm (by omega)
    obtain ⟨τ2, σ2, -, w2, d1, -, d3, d4, d5, d6, -, -, -, d10⟩ := think_two (ρ := σ) (law := 1) c5 rfl hm (by omega)
    have eσ2 : σ2 (A + 84 + 1) = σ (A + 84 + 1) := by rw [d4 _ (by omega), c4 _ (by omega)]
    obtain ⟨τ1', σ1', r1, w1', c1', f2, -, -, -, c6', f7, f8, f9, c10'⟩ := think_two (ρ := σ2) (law := 0) hD eσ2 hm (by omega)
    have q1 := c1.symm.trans c1'
    cases q1
    obtain ⟨τ2', σ2', r2, w2', d1', g2, -, -, -, d6', g7, g8, g9, d10'⟩ := think_two (ρ := r1) (law := 1) c5 f7 hm (by omega)
    have q2 := d1.symm.trans d1'
    cases q2
    have ht : ∀ x, x ≠ A + 68 → x ≠ A + 69 → τ2 x = τ x := fun x h1 h2 => by rw [d3 x h1 h2, c3 x h1 h2]
    have hI2 : Inv A b (τ2, r2, nx) := hI.dream ht d5.1.2.2.1 (fun x hx h1 h2 h3 h4 h5 => by
      by_cases e85 : x = A + 85
      · subst e85
        rw [show A + 85 = A + 84 + 1 by omega, g7]
      · rw [g9 x e85 h1 h2 h3 h5, f9 x e85 h1 h2 h3 h5, d4 x (by omega), c4 x (by omega)]) (by
      unfold BkN
      rw [g9 _ (by omega) (by omega) (by omega) (by omega) (by omega), f9 _ (by omega) (by omega) (by omega) (by omega) (by omega)]
      exact d5.2.2.2.2.2.2)
    obtain ⟨⟨P, hP, eP⟩, ⟨Q, hQ, eQ⟩⟩ := hF
    obtain ⟨⟨x1, hx1, ex1⟩, ⟨y1, hy1, ey1⟩, -⟩ := c10'
    obtain ⟨⟨x2, hx2, ex2⟩, ⟨y2, hy2, ey2⟩, -⟩ := d10'
    have p1 : σ1 (A + 73) 3 = nI (P + x1) := (c6' 0 (by decide)).trans (by rw [ex1, eP, nI_add])
    have p2 : σ1 (A + 73) 4 = nI (Q + y1) := (c6' 1 (by decide)).trans (by rw [ey1, eQ, nI_add])
    have p3 : σ2 (A + 73) 3 = nI (P + x2) := (d6' 0 (by decide)).trans (by rw [ex2, eP, nI_add])
    have p4 : σ2 (A + 73) 4 = nI (Q + y2) := (d6' 1 (by decide)).trans (by rw [ey2, eQ, nI_add])
    have r1a : r1 (A + 84 + 10) 0 = nI x1 := (f8 0 (by decide)).trans (sub_nI ex1)
    have r1b : r1 (A + 84 + 10) 1 = nI y1 := (f8 1 (by decide)).trans (sub_nI ey1)
    have r2a : r2 (A + 84 + 10) 0 = nI x2 := (g8 0 (by decide)).trans (sub_nI ex2)
    have r2b : r2 (A + 84 + 10) 1 = nI y2 := (g8 1 (by decide)).trans (sub_nI ey2)
    have l4 : ∀ (f : Nat → Int32), ld 4 f 0 = some (f 0) ∧ ld 4 f 1 = some (f 1) := fun f => ⟨ldn (j := 0) (by decide) (by decide), ldn (j := 1) (by decide) (by decide)⟩
    -- the class's word, the reference's
    have hcl : X11_thought_f τ σ nx A (nI m) (-1) v3 = (if nI (P + x2) = nI (P + x1) then (if nI (Q + y1) ≤ nI (Q + y2) then (some (0, (τ2, σ2, nx))) else (some (1, (τ2, σ2, nx)))) else (if nI (P + x2) ≤ nI (P + x1) then (some (0, (τ2, σ2, nx))) else (some (1, (τ2, σ2, nx))))) := by
      have s1 := c5.1.2.2.1
      have s2 := d5.1.2.2.1
      unfold X11_thought_f
      rw [a1, bsm, if_neg n10, if_pos rfl, chk_yes ⟨_, hD.1.1⟩, show X11_think_f τ σ nx A (nI m) 0 = some (τ1, σ1, nx) from c1, bsm]
      dsimp only
      rw [c5.1.gr.2, bsm, gRs_of s1.1 rfl, bsm, gI_of s1.2.2.2.2.2.1.1 rfl, bsm, bsm, gRs_of s1.1 rfl, bsm, gI_of s1.2.2.2.2.2.1.1 rfl, bsm, chk_yes ⟨_, c5.1.1⟩, show X11_think_f τ1 σ1 nx A (nI m) 1 = some (τ2, σ2, nx) from d1, bsm]
      dsimp only
      rw [d5.1.gr.2, bsm, gRs_of s2.1 rfl, bsm, s2.2.2.2.2.2.1.tl, chk_yes s2.2.2.2.2.2.1]
      unfold X2_isBetterThan_f
      rw [show A + 40 + 33 = A + 73 by omega, p1, p2, p3, p4]
      split
      · split
        · rw [bsm]; rfl
        · rw [bsm]; rfl
      · split
        · rw [bsm]; rfl
        · rw [bsm]; rfl
    have hre : X12_thought_f (A + 84) (nI m) (-1) v3 σ2 = (if nI x1 < nI x2 then some (1, r2) else (if nI x2 = nI x1 then (if nI y1 ≤ nI y2 then some (0, r2) else some (1, r2)) else some (0, r2))) := by
      unfold X12_thought_f X12_thought_b35
      rw [re_isIn_in l1 l2, bsm, if_neg n10, show X12_isIn_f (-1) (-1) 1 σ2 = some 1 from rfl, bsm, if_neg n10, if_pos rfl, if_pos rfl, show X12_leads_f (A + 84) (nI m) 0 σ2 = some r1 from f2, bsm, (l4 _).1, bsm, (l4 _).2, bsm, show X12_leads_f (A + 84) (nI m) 1 r1 = some r2 from g2, bsm, (l4 _).1, bsm, bsm, (l4 _).2, bsm, r1a, r1b, r2a, r2b]
    have le : ∀ a c : Nat, a < 2 ^ 31 → c < 2 ^ 31 → (nI a ≤ nI c ↔ a ≤ c) := fun a c h1 h2 => nI_leI h1 h2
    have lt : ∀ a c : Nat, a < 2 ^ 31 → c < 2 ^ 31 → (nI a < nI c ↔ a < c) := fun a c h1 h2 => nI_ltI h1 h2
    have eqq : ∀ a c : Nat, a < 2 ^ 31 → c < 2 ^ 31 → (nI a = nI c ↔ a = c) := fun a c h1 h2 => nI_eq h1 h2
    have fin : ∀ v : Int32, X11_thought_f τ σ nx A (nI m) (-1) v3 = some (v, (τ2, σ2, nx)) → X12_thought_f (A + 84) (nI m) (-1) v3 σ2 = some (v, r2) → ∃ (r : Int32) (h1 h2 : Hp), X11_thought_f τ σ nx A (nI m) (-1) v3 = some (r, h1) ∧ ShX12 h1.1 (A + 84) ∧ ((X12_thought_f (A + 84) (nI m) (-1) v3 h1.2.1).bind fun p => some (p.1, ((h1.1, p.2, h1.2.2) : Hp))) = some (r, h2) ∧ Inv A b h2 := fun v e1 e2 => ⟨v, (τ2, σ2, nx), (τ2, r2, nx), e1, hI2.s2, by dsimp only; rw [e2, bsm], hI2⟩
    by_cases ce : x2 = x1
    · rw [if_pos ((eqq _ _ (by omega) (by omega)).mpr (by omega))] at hcl
      rw [if_neg (fun z => absurd ((lt _ _ (by omega) (by omega)).mp z) (by omega)), if_pos ((eqq _ _ (by omega) (by omega)).mpr ce)] at hre
      by_cases cy : y1 ≤ y2
      · rw [if_pos ((le _ _ (by omega) (by omega)).mpr (by omega))] at hcl
        rw [if_pos ((le _ _ (by omega) (by omega)).mpr cy)] at hre
        exact fin 0 hcl hre
      · rw [if_neg (fun z => absurd ((le _ _ (by omega) (by omega)).mp z) (by omega))] at hcl
        rw [if_neg (fun z => absurd ((le _ _ (by omega) (by omega)).mp z) cy)] at hre
        exact fin 1 hcl hre
    · rw [if_neg (fun z => absurd ((eqq _ _ (by omega) (by omega)).mp z) (by omega))] at hcl
      by_cases cl : x1 < x2
      · rw [if_neg (fun z => absurd ((le _ _ (by omega) (by omega)).mp z) (by omega))] at hcl
        rw [if_pos ((lt _ _ (by omega) (by omega)).mpr cl)] at hre
        exact fin 1 hcl hre
      · rw [if_pos ((le _ _ (by omega) (by omega)).mpr (by omega))] at hcl
        rw [if_neg (fun z => absurd ((lt _ _ (by omega) (by omega)).mp z) cl), if_neg (fun z => absurd ((eqq _ _ (by omega) (by omega)).mp z) ce)] at hre
        exact fin 0 hcl hre
  · -- one thought
    rcases law_in v2 σ σ with ⟨law, hl, rfl, b1, b2⟩ | ⟨b1, b2⟩
    rotate_left
    · refine no ?_ ?_
      · unfold X11_thought_f; rw [a1, bsm, if_neg n10, if_neg cm, b1, bsm, if_pos rfl]
      · have ho : X12_isIn_f v2 (-1) 1 σ = some 0 := by
          rcases within_in v2 (-1) 1 σ σ with ⟨q1, q2, -, -⟩ | ⟨-, q⟩
          · exfalso
            rcases within_in v2 0 1 σ σ with ⟨-, -, -, z⟩ | ⟨-, z⟩
            · rw [z] at b2; cases b2
            · have e1 : (-1 : Int32).toInt = -1 := by decide
              have e2 : (1 : Int32).toInt = 1 := by decide
              have e0 : (0 : Int32).toInt = 0 := by decide
              have i1 := Int32.le_iff_toInt_le.mp q1
              have i2 := Int32.le_iff_toInt_le.mp q2
              rw [e1] at i1
              rw [e2] at i2
              by_cases i0 : v2.toInt = -1
              · exact cm (Int32.toInt_inj.mp (i0.trans e1.symm))
              · have z2 : X12_isIn_f v2 0 1 σ = some 1 := re_isIn_in (Int32.le_iff_toInt_le.mpr (by rw [e0]; omega)) q2
                rw [z2] at z; cases z
          · exact q
        unfold X12_thought_f; rw [a2, bsm, if_neg n10, ho, bsm, if_pos rfl]
    have hin : ∀ s : Sig, X12_isIn_f (nI law) (-1) 1 s = some 1 := fun s => re_isIn_in (Int32.le_trans (show (-1 : Int32) ≤ 0 by decide) (nI_0le (by omega))) (show nI law ≤ 1 from nI_le (b := 1) (by omega) (by decide))
    rcases within_in v3 0 3 σ σ with ⟨m1, m2, d1, d2⟩ | ⟨d1, d2⟩
    rotate_left
    · refine no ?_ ?_
      · unfold X11_thought_f; rw [a1, bsm, if_neg n10, if_neg cm, b1, bsm, if_neg n10, d1, bsm, if_pos rfl]
      · unfold X12_thought_f; rw [a2, bsm, if_neg n10, hin, bsm, if_neg n10, if_neg cm, d2, bsm, if_pos rfl]
    obtain ⟨k, hk, rfl⟩ := within_up (m := 3) (by decide) m1 m2
    obtain ⟨τ1, σ1, -, -, c1, -, c3, c4, c5, -⟩ := think_two (ρ := σ) (law := law) hD rfl hm (by omega)
    have eσ1 : σ1 (A + 84 + 1) = σ (A + 84 + 1) := c4 _ (by omega)
    obtain ⟨τ1', σ1', r1, w1, c1', f2, -, -, -, c6, f7, f8, f9, -⟩ := think_two (ρ := σ1) (law := law) hD eσ1 hm (by omega)
    have q1 := c1.symm.trans c1'
    cases q1
    have hI1 : Inv A b (τ1, r1, nx) := hI.dream c3 c5.1.2.2.1 (fun x hx h1 h2 h3 h4 h5 => by
      by_cases e85 : x = A + 85
      · subst e85
        rw [show A + 85 = A + 84 + 1 by omega, f7]
      · rw [f9 x e85 h1 h2 h3 h5, c4 x (by omega)]) (by
      unfold BkN
      rw [f9 _ (by omega) (by omega) (by omega) (by omega) (by omega)]
      exact c5.2.2.2.2.2.2)
    have cnt : ∀ (a M : Nat), X2_countOf_f a M (nI k) σ1 = some (σ1 a (3 + k)) := fun a M => by
      have : k = 0 ∨ k = 1 ∨ k = 2 ∨ k = 3 := by omega
      unfold X2_countOf_f
      rcases this with rfl | rfl | rfl | rfl
      · rw [if_pos (by decide)]
      · rw [if_neg (by decide), if_pos (by decide)]
      · rw [if_neg (by decide), if_neg (by decide), if_pos (by decide)]
      · rw [if_neg (by decide), if_neg (by decide), if_neg (by decide)]
    have nowc : σ1 (A + 5 + 33) (3 + k) = σ (A + 84 + 1) (12 + k) := by
      rw [c4 _ (by omega)]
      obtain ⟨z1, z2, z3, z4⟩ := hD.2.2.1.c
      have : k = 0 ∨ k = 1 ∨ k = 2 ∨ k = 3 := by omega
      rcases this with rfl | rfl | rfl | rfl
      · exact z1
      · exact z2
      · exact z3
      · exact z4
    refine ⟨w1 (12 + k) - σ (A + 84 + 1) (12 + k), (τ1, σ1, nx), (τ1, r1, nx), ?_, hI1.s2, ?_, hI1⟩
    · have s1 := c5.1.2.2.1
      have s0 := c5.1.2.1
      unfold X11_thought_f
      rw [a1, bsm, if_neg n10, if_neg cm, b1, bsm, if_neg n10, d1, bsm, if_neg n10, chk_yes ⟨_, hD.1.1⟩, c1, bsm]
      dsimp only
      rw [c5.1.gr.2, bsm, gRs_of s1.1 rfl, bsm, s1.2.2.2.2.2.1.tl, chk_yes s1.2.2.2.2.2.1, cnt, bsm, c5.1.gr.1, bsm, gRs_of s0.1 rfl, bsm, s0.2.2.2.2.2.1.tl, chk_yes s0.2.2.2.2.2.1, cnt, bsm, nowc, show A + 40 + 33 = A + 73 by omega, c6 k (by omega)]
    · dsimp only
      unfold X12_thought_f X12_thought_b35
      rw [re_isIn_in l1 l2, bsm, if_neg n10, hin, bsm, if_neg n10, if_neg cm, re_isIn_in m1 m2, bsm, if_neg n10, if_neg cm, f2, bsm, ldn (by omega) (by decide), bsm, f8 k (by omega), bsm]
