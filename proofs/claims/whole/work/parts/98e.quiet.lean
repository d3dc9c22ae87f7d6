/-! quiet answers alike. -/
def QR (τ : Tau) (σ ρ : Sig) (A nx : Nat) (kp : Option Nat) (w : wF) (n nd : Nat) (x : Int32 × Hp) (y : Int32 × Sig) : Prop := x.1 = y.1 ∧ x.2.2.2 = nx ∧ (∀ z, z ≠ A + 68 → z ≠ A + 69 → x.2.1 z = τ z) ∧ (∀ z, z ≤ A + 40 ∨ A + 75 ≤ z → x.2.2.1 z = σ z) ∧ DR x.2.1 x.2.2.1 A nx kp w n nd ∧ y.2 (A + 84 + 1) = w ∧ ∀ z, z ≠ A + 85 → z ≠ A + 91 → z ≠ A + 92 → y.2 z = ρ z
theorem quiet_two {τ : Tau} {σ ρ : Sig} {A nx : Nat} {kp : Option Nat} {w : wF} {n nd m P : Nat} {x2 : Int32} (hD : DR τ σ A nx kp w n nd) (r3 : ∀ j, j < 2550 → ρ (A + 84 + 3) j = w j) (r1 : ρ (A + 84 + 1) = w) (hP : P ≤ 10000000) (eP : w 12 = nI P) (hm : m ≤ 8) (hx : x2 = 0 ∨ x2 = 1 ∨ x2 = 2) : Two (X11_quiet_b44 A FU (nI m) x2 (-1) (-1) 0 (w 0) 0 τ σ nx) (X12_quiet_b36 (A + 84) FU (nI m) x2 (-1) (-1) 0 0 ρ) (QR τ σ ρ A nx kp w n nd) := by
  have hG := hD.2.1
  have h40 := hG.le40
  have htl := tN_le hG nd (Nat.le_refl _)
  -- the end on both sides
  have fin : ∀ (x3 x4 x5 : Int32) (fu fu' : Nat) (st : Int32) (τ' : Tau) (σ' ρ' : Sig), (∀ z, z ≠ A + 68 → z ≠ A + 69 → τ' z = τ z) → (∀ z, z ≤ A + 40 ∨ A + 75 ≤ z → σ' z = σ z) → DR τ' σ' A nx kp w n nd → (∀ z, z ≠ A + 85 → z ≠ A + 91 → z ≠ A + 92 → ρ' z = ρ z) → (∀ j, 2550 ≤ j → ρ' (A + 84 + 1) j = w j) → Two (X11_quiet_b44 A (fu + 1) (nI m) x2 x3 x4 x5 st (nI m) τ' σ' nx) (X12_quiet_b36 (A + 84) (fu' + 1) (nI m) x2 x3 x4 x5 (nI m) ρ') (QR τ σ ρ A nx kp w n nd) := by
    intro x3 x4 x5 fu fu' st τ' σ' ρ' h1 h2 h3 h4 h5
    obtain ⟨s, b1, b2, b3, b4⟩ := @re_back (A + 84) ρ'
    have sw : s (A + 84 + 1) = w := by
      funext j
      by_cases c : j < 2550
      · rw [b3 j c, h4 _ (by omega) (by omega) (by omega), r3 j c]
      · rw [b4 j (by omega), h5 j (by omega)]
    have so : ∀ z, z ≠ A + 85 → z ≠ A + 91 → z ≠ A + 92 → s z = ρ z := fun z q1 q2 q3 => by rw [b2 z (by omega), h4 z q1 q2 q3]
    unfold X11_quiet_b44 X12_quiet_b36
    rw [if_pos (Int32.le_refl _), if_pos (Int32.le_refl _), b1, bsm]
    rcases hx with rfl | rfl | rfl
    · rw [if_neg (by decide), if_pos rfl, if_pos rfl]; exact two_some ⟨rfl, rfl, h1, h2, h3, sw, so⟩
    · rw [if_neg (by decide), if_neg (by decide), if_neg (by decide), if_pos rfl]; exact two_some ⟨rfl, rfl, h1, h2, h3, sw, so⟩
    · rw [if_pos rfl, if_neg (by decide), if_neg (by decide)]; exact two_some ⟨rfl, rfl, h1, h2, h3, sw, so⟩
  -- the head of a night of the class
  have head : ∀ (x3 x4 x5 st : Int32) (fu i : Nat) (τ' : Tau) (σ' : Sig), i < m → DR τ' σ' A nx kp w n nd → ∃ τ1 σ1, (∀ z, z ≠ A + 68 → z ≠ A + 69 → τ1 z = τ' z) ∧ (∀ z, z ≤ A + 40 ∨ A + 75 ≤ z → σ1 z = σ' z) ∧ ShX11 τ1 A ∧ Rc σ1 (A + 40) w n nd ∧ BkN σ1 (A + 40) ∧ Txs τ1 σ1 A nx kp (A + 40) w ∧ DR τ1 σ1 A nx kp w n nd ∧ X11_quiet_b44 A (fu + 1) (nI m) x2 x3 x4 x5 st (nI i) τ' σ' nx = ((X10_tillQuiet_f τ1 (A + 40) 0 (wr σ1 (A + 66) 0 st)).bind fun p => if p.1 = (-1) then (X11_quiet_b44 A fu (nI m) x2 x3 x4 (x5 + 1) (p.2 (A + 66) 0) (nI (i + 1)) τ1 p.2 nx) else (X11_quiet_b44 A fu (nI m) x2 (lst x3 p.1) (mmax x4 p.1) x5 (p.2 (A + 66) 0) (nI (i + 1)) τ1 p.2 nx)) := by
    intro x3 x4 x5 st fu i τ' σ' hi h3
    obtain ⟨τ1, σ1, c1, c2, c3, c4, c5, c6, -, c8, c9⟩ := h3.copy
    refine ⟨τ1, σ1, c2, c4, c3, c5, c6, c8, c9, ?_⟩
    have t0 : tl τ1 (A + 40 + 33) 1 = 0 := c3.2.2.1.2.2.2.2.2.1.tl
    have d0 : dI τ1 σ1 8 (A + 40 + 26) 0 st = some (wr σ1 (A + 66) 0 st) := by
      unfold dI; rw [c3.2.2.1.2.2.2.2.1]; simp [show A + 40 + 26 = A + 66 by omega]
    conv => lhs; unfold X11_quiet_b44
    rw [if_neg (nI_ge hi (by omega)), h3.1.gr.2, bsm, h3.1.gr.1, bsm, chk_yes ⟨_, h3.1.2.2.1.1⟩, c1, bsm]
    dsimp only
    rw [c3.gr.2, bsm, gRs_of c3.2.2.1.1 rfl, bsm, d0, bsm, bsm, t0, chk_yes c3.2.2.1]
    congr 1
    funext p
    obtain ⟨v, s⟩ := p
    dsimp only
    rw [bsm, gRs_of c3.2.2.1.1 rfl, bsm, gI_of c3.2.2.1.2.2.2.2.1 rfl, bsm, nI_s, show A + 40 + 26 = A + 66 by omega]
    unfold X11_quiet_b122 lst
    rw [nI_s]
    by_cases cv : v = -1
    · rw [if_pos cv, if_pos cv]
    · rw [if_neg cv, if_neg cv]
      by_cases c3' : x3 = -1
      · rw [if_pos c3', if_pos c3']
      · rw [if_neg c3', if_neg c3']
  -- the head of a night of the reference
  have rhead : ∀ (x3 x4 x5 : Int32) (fu i : Nat) (s ρ' : Sig), i < m → X12_comesBack_f (A + 84) ρ' = some s → X12_quiet_b36 (A + 84) (fu + 1) (nI m) x2 x3 x4 x5 (nI i) ρ' = X12_quiet_b65 (A + 84) (X12_quiet_b36 (A + 84) fu) FU (nI m) x2 x3 x4 x5 (nI i) 0 (wr s (A + 84 + 1) 0 (ρ' (A + 84 + 1) 0)) := by
    intro x3 x4 x5 fu i s ρ' hi e
    conv => lhs; unfold X12_quiet_b36
    rw [if_neg (nI_ge hi (by omega)), LW.1, bsm, e, bsm, SW.1, bsm]
  have c7 : ∃ k, k ≤ 400 ∧ w 11 = nI k := by
    obtain ⟨-, -, -, hB, -⟩ := hD
    obtain ⟨-, -, k, hk, ek, -⟩ := hB
    exact ⟨k, hk, ek⟩
  -- what the class finds first
  have first : ∀ (τ1 : Tau) (σ1 : Sig) (st : Int32), Rc σ1 (A + 40) w n nd → BkN σ1 (A + 40) → Txs τ1 σ1 A nx kp (A + 40) w → X10_tillQuiet_f τ1 (A + 40) 0 (wr σ1 (A + 66) 0 st) = (if 0 < tN w nd ∧ (w 3 = -1 ∨ w 7 = 1) then some (-1, wr σ1 (A + 66) 0 st) else X10_tillQuiet_b53 τ1 (A + 40) 0 FU (w 12 + nI (tN w nd)) 0 (wr σ1 (A + 66) 0 st)) := by
    intro τ1 σ1 st c5 c6 c8
    obtain ⟨s, -, -, sw, hz, -⟩ := night_z hG c5 c6 c7 c8 r3 (fun j _ => by rw [r1]) st
    have e12 : wr s (A + 84 + 1) 0 st (A + 84 + 1) 12 = w 12 := by rw [wr_o (by decide), sw]
    have e3 : wr s (A + 84 + 1) 0 st (A + 84 + 1) 3 = w 3 := by rw [wr_o (by decide), sw]
    have e7 : wr s (A + 84 + 1) 0 st (A + 84 + 1) 7 = w 7 := by rw [wr_o (by decide), sw]
    have eS : sm (lefts (wr s (A + 84 + 1) 0 st (A + 84 + 1))) nd = nI (tN w nd) := by
      rw [sm_eq (f := lefts (wr s (A + 84 + 1) 0 st (A + 84 + 1))) (g := lefts w) nd (fun d hd => by unfold lefts; rw [wr_o (by omega), sw]), sm_tN hG nd (Nat.le_refl _)]
    unfold X10_tillQuiet_f
    rw [cl_all hz, bsm, eS, hz.sca.2.2.2.2.2.2.2.2.2.1, hz.sca.1, hz.sca.2.2.2.2.2.2.2.2.1, e12, e3, e7, eP, nI_add]
    have le : nI (P + tN w nd) ≤ nI P ↔ P + tN w nd ≤ P := nI_leI (by omega) (by omega)
    by_cases t0 : tN w nd = 0
    · rw [if_pos (le.mpr (by omega)), if_neg (by omega)]
    · rw [if_neg (fun z => t0 (by have := le.mp z; omega))]
      by_cases q3 : w 3 = -1
      · rw [if_pos q3, if_pos ⟨by omega, Or.inl q3⟩]
      · rw [if_neg q3]
        by_cases q7 : w 7 = 1
        · rw [if_pos q7, if_pos ⟨by omega, Or.inr q7⟩]
        · rw [if_neg q7, if_neg (fun z => z.2.elim q3 q7)]
  by_cases idle : 0 < tN w nd ∧ (w 3 = -1 ∨ w 7 = 1)
  · -- no quarter ever counts
    have hg : ¬ gN w nd = 0 := fun z => by have := (tN_0 hG).mpr z; omega
    have gfr : ∀ w' : wF, (∀ j, 230 ≤ j → w' j = w j) → ∀ m, gN w' m = gN w m := by
      intro w' hw m
      induction m with
      | zero => rfl
      | succ m ih => rw [gN, gN, ih]; unfold lfN; rw [hw _ (by omega)]
    have key := fuel_up (m := m) (C := fun fu i => ∀ (x5 st : Int32) (τ' : Tau) (σ' ρ' : Sig), (∀ z, z ≠ A + 68 → z ≠ A + 69 → τ' z = τ z) → (∀ z, z ≤ A + 40 ∨ A + 75 ≤ z → σ' z = σ z) → DR τ' σ' A nx kp w n nd → (∀ z, z ≠ A + 85 → z ≠ A + 91 → z ≠ A + 92 → ρ' z = ρ z) → (∀ j, 2550 ≤ j → ρ' (A + 84 + 1) j = w j) → Two (X11_quiet_b44 A fu (nI m) x2 (-1) (-1) x5 st (nI i) τ' σ' nx) (X12_quiet_b36 (A + 84) fu (nI m) x2 (-1) (-1) x5 (nI i) ρ') (QR τ σ ρ A nx kp w n nd)) (fun fu x5 st τ' σ' ρ' h1 h2 h3 h4 h5 => fin _ _ _ _ _ _ _ _ _ h1 h2 h3 h4 h5) (fun fu i hi ih x5 st τ' σ' ρ' h1 h2 h3 h4 h5 => ?_) m 0 FU (by omega) (by unfold FU; omega)
    · rw [nI_0] at key
      exact key 0 (w 0) τ σ ρ (fun _ _ _ => rfl) (fun _ _ => rfl) hD (fun _ _ _ _ => rfl) (fun j _ => by rw [r1])
    · obtain ⟨τ1, σ1, c2, c4, c3, c5, c6, c8, c9, hcl⟩ := head (-1) (-1) x5 st fu i τ' σ' hi h3
      obtain ⟨s, b1, b2, sw, hz, hTz⟩ := night_z (ρ := ρ') hG c5 c6 c7 c8 (fun j hj => by rw [h4 _ (by omega) (by omega) (by omega)]; exact r3 j hj) h5 (ρ' (A + 84 + 1) 0)
      obtain ⟨σv, ρ2, z2, e2⟩ := till_idle hTz ⟨by omega, by omega⟩ (X12_quiet_b36 (A + 84) fu) (nI m) x2 (-1) (-1) x5 (nI i) hz (by rw [wr_o (by decide), wr_o (by decide), sw]; exact idle.2) (by rw [gfr _ (fun j hj => by rw [wr_o (by omega), sw]) nd]; exact hg)
      rw [hcl, first τ1 σ1 st c5 c6 c8, if_pos idle, bsm, if_pos rfl, rhead (-1) (-1) x5 fu i s ρ' hi b1, e2, nI_s]
      obtain ⟨-, -, -, -, fr⟩ := z2
      dsimp only
      refine ih (x5 + 1) _ τ1 _ ρ2 (fun z q1 q2 => by rw [c2 z q1 q2]; exact h1 z q1 q2) (fun z hz => ?_) (c9.rows (fun z hz => ?_) ?_) (fun z q1 q2 q3 => ?_) (fun j hj => ?_)
      · rw [wr_row (by omega), c4 z hz]; exact h2 z hz
      · rw [wr_row (by omega)]
      · unfold BkN; rw [wr_row (by omega)]; exact c6
      · rw [fr.1 z (by omega) (by omega) (by omega), wr_row (by omega), b2 z (by omega)]; exact h4 z q1 q2 q3
      · rw [fr.2 j (Or.inl hj), wr_o (by omega), sw]
  · have key := fuel_up (m := m) (C := fun fu i => ∀ (x3 x4 x5 : Int32) (τ' : Tau) (σ' ρ' : Sig), (∀ z, z ≠ A + 68 → z ≠ A + 69 → τ' z = τ z) → (∀ z, z ≤ A + 40 ∨ A + 75 ≤ z → σ' z = σ z) → DR τ' σ' A nx kp w n nd → (∀ z, z ≠ A + 85 → z ≠ A + 91 → z ≠ A + 92 → ρ' z = ρ z) → (∀ j, 2550 ≤ j → ρ' (A + 84 + 1) j = w j) → Two (X11_quiet_b44 A fu (nI m) x2 x3 x4 x5 (ρ' (A + 84 + 1) 0) (nI i) τ' σ' nx) (X12_quiet_b36 (A + 84) fu (nI m) x2 x3 x4 x5 (nI i) ρ') (QR τ σ ρ A nx kp w n nd)) (fun fu x3 x4 x5 τ' σ' ρ' h1 h2 h3 h4 h5 => fin _ _ _ _ _ _ _ _ _ h1 h2 h3 h4 h5) (fun fu i hi ih x3 x4 x5 τ' σ' ρ' h1 h2 h3 h4 h5 => ?_) m 0 FU (by omega) (by unfold FU; omega)
    · rw [nI_0] at key
      have := key (-1) (-1) 0 τ σ ρ (fun _ _ _ => rfl) (fun _ _ => rfl) hD (fun _ _ _ _ => rfl) (fun j _ => by rw [r1])
      rw [r1] at this
      exact this
    · obtain ⟨τ1, σ1, c2, c4, c3, c5, c6, c8, c9, hcl⟩ := head x3 x4 x5 (ρ' (A + 84 + 1) 0) fu i τ' σ' hi h3
      obtain ⟨s, b1, b2, sw, hz, hTz⟩ := night_z (ρ := ρ') hG c5 c6 c7 c8 (fun j hj => by rw [h4 _ (by omega) (by omega) (by omega)]; exact r3 j hj) h5 (ρ' (A + 84 + 1) 0)
      have eS : sm (lefts (wr s (A + 84 + 1) 0 (ρ' (A + 84 + 1) 0) (A + 84 + 1))) nd = nI (tN w nd) := by
        rw [sm_eq (f := lefts (wr s (A + 84 + 1) 0 (ρ' (A + 84 + 1) 0) (A + 84 + 1))) (g := lefts w) nd (fun d hd => by unfold lefts; rw [wr_o (by omega), sw]), sm_tN hG nd (Nat.le_refl _)]
      obtain ⟨v, σ2, ρ2, e1, z2, e2⟩ := till_two hTz ⟨by omega, by omega⟩ (w 12 + nI (tN w nd)) (X12_quiet_b36 (A + 84) fu) (nI m) x2 x3 x4 x5 (nI i) hz (by rw [wr_o (by decide), sw, eS])
      rw [hcl, first τ1 σ1 _ c5 c6 c8, if_neg idle, e1, bsm, rhead x3 x4 x5 fu i s ρ' hi b1, e2, nI_s]
      have e0 : σ2 (A + 66) 0 = ρ2 (A + 84 + 1) 0 := by
        have := z2.sca.2.2.2.2.2.1
        rw [show A + 40 + 26 = A + 66 by omega] at this; exact this
      obtain ⟨-, -, bk, fc, fr⟩ := z2
      have bn : BkN σ2 (A + 40) := by
        rcases bk with ⟨q, -⟩ | ⟨-, q, -⟩
        · exact absurd q (by decide)
        · exact q
      have g1 : ∀ z, z ≠ A + 68 → z ≠ A + 69 → τ1 z = τ z := fun z q1 q2 => by rw [c2 z q1 q2]; exact h1 z q1 q2
      have g2 : ∀ z, z ≤ A + 40 ∨ A + 75 ≤ z → σ2 z = σ z := fun z hz => by rw [fc z (by omega), wr_row (by omega), c4 z hz]; exact h2 z hz
      have g3 : DR τ1 σ2 A nx kp w n nd := c9.rows (fun z hz => by rw [fc z (by omega), wr_row (by omega)]) bn
      have g4 : ∀ z, z ≠ A + 85 → z ≠ A + 91 → z ≠ A + 92 → ρ2 z = ρ z := fun z q1 q2 q3 => by rw [fr.1 z (by omega) (by omega) (by omega), wr_row (by omega), b2 z (by omega)]; exact h4 z q1 q2 q3
      have g5 : ∀ j, 2550 ≤ j → ρ2 (A + 84 + 1) j = w j := fun j hj => by rw [fr.2 j (Or.inl hj), wr_o (by omega), sw]
      dsimp only
      rw [e0]
      by_cases cv : v = -1
      · rw [if_pos cv, if_pos cv]; exact ih _ _ _ τ1 σ2 ρ2 g1 g2 g3 g4 g5
      · rw [if_neg cv, if_neg cv]; exact ih _ _ _ τ1 σ2 ρ2 g1 g2 g3 g4 g5
theorem st_quiet (A b : Nat) (hb : b ≤ 10000000) : St_quiet (Inv A b) A (A + 84) := by
  intro h v1 v2 hI
  obtain ⟨τ, σ, nx⟩ := h
  show ∃ (r : Int32) (h1 h2 : Hp), X11_quiet_f τ σ nx A v1 v2 = some (r, h1) ∧ ShX12 h1.1 (A + 84) ∧ ((X12_quiet_f (A + 84) v1 v2 h1.2.1).bind fun p => some (p.1, ((h1.1, p.2, h1.2.2) : Hp))) = some (r, h2) ∧ Inv A b h2
  have no : X11_quiet_f τ σ nx A v1 v2 = some (-1, (τ, σ, nx)) → X12_quiet_f (A + 84) v1 v2 σ = some (-1, σ) → ∃ (r : Int32) (h1 h2 : Hp), X11_quiet_f τ σ nx A v1 v2 = some (r, h1) ∧ ShX12 h1.1 (A + 84) ∧ ((X12_quiet_f (A + 84) v1 v2 h1.2.1).bind fun p => some (p.1, ((h1.1, p.2, h1.2.2) : Hp))) = some (r, h2) ∧ Inv A b h2 := fun e1 e2 => ⟨-1, (τ, σ, nx), (τ, σ, nx), e1, hI.s2, by dsimp only; rw [e2, bsm], hI⟩
  obtain ⟨n, nd, hD, hF⟩ := hI.dr
  rcases within_in v1 1 8 σ σ with ⟨l1, l2, a1, a2⟩ | ⟨a1, a2⟩
  rotate_left
  · refine no ?_ ?_
    · unfold X11_quiet_f; rw [a1, bsm, if_pos rfl]
    · unfold X12_quiet_f; rw [a2, bsm, if_pos rfl]
  rcases within_in v2 0 2 σ σ with ⟨m1, m2, b1, b2⟩ | ⟨b1, b2⟩
  rotate_left
  · refine no ?_ ?_
    · unfold X11_quiet_f; rw [a1, bsm, if_neg n10, b1, bsm, if_pos rfl]
    · unfold X12_quiet_f; rw [a2, bsm, if_neg n10, b2, bsm, if_pos rfl]
  obtain ⟨m, hm, rfl⟩ := within_up (m := 8) (by decide) (Int32.le_trans (show (0 : Int32) ≤ 1 by decide) l1) l2
  have hx : v2 = 0 ∨ v2 = 1 ∨ v2 = 2 := by
    obtain ⟨k, hk, rfl⟩ := within_up (m := 2) (by decide) m1 m2
    have : k = 0 ∨ k = 1 ∨ k = 2 := by omega
    rcases this with rfl | rfl | rfl
    · exact Or.inl rfl
    · exact Or.inr (Or.inl rfl)
    · exact Or.inr (Or.inr rfl)
  obtain ⟨⟨P, hP, eP⟩, -⟩ := hF
  have s0 : σ (A + 5 + 26) 0 = σ (A + 84 + 1) 0 := hD.2.2.1.t.2.2.2.2.2.2.2.1
  have hcl : X11_quiet_f τ σ nx A (nI m) v2 = X11_quiet_b44 A FU (nI m) v2 (-1) (-1) 0 (σ (A + 84 + 1) 0) 0 τ σ nx := by
    unfold X11_quiet_f
    rw [a1, bsm, if_neg n10, b1, bsm, if_neg n10, hD.1.gr.1, bsm, gRs_of hD.1.2.1.1 rfl, bsm, gI_of hD.1.2.1.2.2.2.2.1 rfl, bsm, s0]
  have hre : ∀ ρ s : Sig, X12_setsOut_f (A + 84) ρ = some s → X12_quiet_f (A + 84) (nI m) v2 ρ = X12_quiet_b36 (A + 84) FU (nI m) v2 (-1) (-1) 0 0 s := by
    intro ρ s e
    unfold X12_quiet_f
    rw [re_isIn_in l1 l2, bsm, if_neg n10, re_isIn_in m1 m2, bsm, if_neg n10, e, bsm]
  obtain ⟨s, p1, p2, p3⟩ := @re_sets (A + 84) σ
  obtain ⟨x, y, x1, -, -, xn, xt, xs, xd, -⟩ := quiet_two (x2 := v2) hD (ρ := s) p3 (p2 _ (by omega)) (by omega) eP hm hx
  obtain ⟨v, τ1, σ1, nx1⟩ := x
  dsimp only at xn xt xs xd
  subst xn
  have eσ : σ1 (A + 84 + 1) = σ (A + 84 + 1) := xs _ (by omega)
  obtain ⟨s', q1, q2, q3⟩ := @re_sets (A + 84) σ1
  obtain ⟨x', y', x1', y1', r1, -, -, -, -, yw, yo⟩ := quiet_two (x2 := v2) hD (ρ := s') (fun j hj => by rw [q3 j hj, eσ]) (by rw [q2 _ (by omega)]; exact eσ) (by omega) eP hm hx
  have ex := x1.symm.trans x1'
  cases ex
  dsimp only at r1
  have hI2 : Inv A b (τ1, y'.2, nx1) := hI.dream xt xd.1.2.2.1 (fun z hz h1 h2 h3 h4 h5 => by
    by_cases e85 : z = A + 85
    · subst e85
      rw [show A + 85 = A + 84 + 1 by omega, yw]
    · rw [yo z e85 h2 h3, q2 z (by omega), xs z (by omega)]) (by
    unfold BkN
    rw [yo _ (by omega) (by omega) (by omega), q2 _ (by omega)]
    exact xd.2.2.2.2.2.2)
  refine ⟨v, (τ1, σ1, nx1), (τ1, y'.2, nx1), by rw [hcl, x1], hI2.s2, ?_, hI2⟩
  dsimp only
  rw [hre σ1 s' q1, y1', bsm, r1]
