/-! lend and sell. -/
theorem open_in {σ : Sig} {W B n nd : Nat} {w : wF} (hG : Rg w n nd) (hR : Rc σ W w n nd) (x : Int32) : (∃ d, d < nd ∧ x = nI d ∧ w (230 + 8 * d + 2) ≠ 0 ∧ X3_isOpen_f (W + 12) x σ = some 1 ∧ ∀ ρ : Sig, ρ (B + 1) = w → X12_isLeft_f B x ρ = some 1) ∨ (X3_isOpen_f (W + 12) x σ = some 0 ∧ ∀ ρ : Sig, ρ (B + 1) = w → X12_isLeft_f B x ρ = some 0) := by
  have h40 := hG.le40
  have hcd : σ (W + 12) 0 = nI nd := hR.d.1.trans hG.wd
  rcases oneOf x nd with ⟨d, hd, rfl⟩ | ho
  · have e : σ (W + 12 + 3) d = w (230 + 8 * d + 2) := hR.d.2 d hd 2 (by decide)
    by_cases c : w (230 + 8 * d + 2) ≤ 0
    · refine Or.inr ⟨?_, fun ρ hρ => ?_⟩
      · unfold X3_isOpen_f; rw [has3_in h40 hcd hd, bsm, if_neg n10, ldn (by omega) (by decide), bsm, e, if_pos c]
      · unfold X12_isLeft_f; rw [re_isDebt_in h40 (by rw [hρ]; exact hG.wd) hd, bsm, if_neg n10, rD2 (by omega), bsm, hρ, if_pos c]
    · refine Or.inl ⟨d, hd, rfl, fun z => c (by rw [z]; decide), ?_, fun ρ hρ => ?_⟩
      · unfold X3_isOpen_f; rw [has3_in h40 hcd hd, bsm, if_neg n10, ldn (by omega) (by decide), bsm, e, if_neg c]
      · unfold X12_isLeft_f; rw [re_isDebt_in h40 (by rw [hρ]; exact hG.wd) hd, bsm, if_neg n10, rD2 (by omega), bsm, hρ, if_neg c]
  · refine Or.inr ⟨?_, fun ρ hρ => ?_⟩
    · unfold X3_isOpen_f; rw [has3_out h40 hcd ho, bsm, if_pos rfl]
    · unfold X12_isLeft_f; rw [re_isDebt_out h40 (by rw [hρ]; exact hG.wd) ho, bsm, if_pos rfl]
theorem Inv.noH {A b : Nat} {τ : Tau} {σ : Sig} {nx : Nat} (hI : Inv A b (τ, σ, nx)) {cl : Option (Int32 × Hp)} {re : Sig → Option (Int32 × Sig)} {r : Int32} (h1 : cl = some (r, (τ, σ, nx))) (h2 : re σ = some (r, σ)) : ∃ (r : Int32) (h1 h2 : Hp), cl = some (r, h1) ∧ ShX12 h1.1 (A + 84) ∧ ((re h1.2.1).bind fun p => some (p.1, ((h1.1, p.2, h1.2.2) : Hp))) = some (r, h2) ∧ Inv A b h2 :=
  ⟨r, (τ, σ, nx), (τ, σ, nx), h1, hI.s2, by dsimp only; rw [h2, bsm], hI⟩
theorem Inv.yesH {A b : Nat} {cl : Option (Int32 × Hp)} {re : Sig → Option (Int32 × Sig)} {r : Int32} {h1 : Hp} {s : Sig} (e1 : cl = some (r, h1)) (e2 : ShX12 h1.1 (A + 84)) (e3 : re h1.2.1 = some (r, s)) (e4 : Inv A b (h1.1, s, h1.2.2)) : ∃ (r : Int32) (h1 h2 : Hp), cl = some (r, h1) ∧ ShX12 h1.1 (A + 84) ∧ ((re h1.2.1).bind fun p => some (p.1, ((h1.1, p.2, h1.2.2) : Hp))) = some (r, h2) ∧ Inv A b h2 :=
  ⟨r, h1, (h1.1, s, h1.2.2), e1, e2, by rw [e3, bsm], e4⟩
theorem Inv.grs {A b : Nat} {τ : Tau} {σ : Sig} {nx : Nat} (hI : Inv A b (τ, σ, nx)) : gRs τ 11 A 0 = some (A + 5) ∧ gRs τ 10 (A + 5) 5 = some (A + 32) ∧ gRs τ 10 (A + 5) 1 = some (A + 17) ∧ gRs τ 10 (A + 5) 0 = some (A + 6) ∧ ShX3 τ (A + 17) ∧ ShX4 τ (A + 6) ∧ ∃ rs, τ (A + 32) = some (.inl (1, rs)) :=
  ⟨gRs_of hI.s1.1 rfl, gRs_of hI.s1.2.1.1 rfl, gRs_of hI.s1.2.1.1 rfl, gRs_of hI.s1.2.1.1 rfl, hI.s1.2.1.2.2.1, hI.s1.2.1.2.1, ⟨_, hI.s1.2.1.2.2.2.2.2.2.1.1⟩⟩
theorem ShX4.coin {τ : Tau} {P : Nat} (h : ShX4 τ P) : gRs τ 4 P 6 = some (P + 6) ∧ τ (P + 6) = some (.inr (.inl 12)) := ⟨gRs_of h.1 rfl, h.2.2.2.2.2.2.1⟩
theorem st_lend (A b : Nat) : St_lend (Inv A b) A (A + 84) := by
  intro h v1 v2 v3 hI
  obtain ⟨τ, σ, nx⟩ := h
  obtain ⟨n, nd, hG, hR, hB, hT, hBr, -⟩ := hI.wd
  dsimp only at hG hR hB hT hBr
  have h12 := hG.le12
  have h40 := hG.le40
  have hc : σ (A + 6) 0 = nI n := hR.p.1.trans hG.wn
  obtain ⟨i0, i5, i1, i2, S3, S4, k32⟩ := hI.grs
  show ∃ (r : Int32) (h1 h2 : Hp), X11_lend_f τ σ nx A v1 v2 v3 = some (r, h1) ∧ ShX12 h1.1 (A + 84) ∧ ((X12_lend_f (A + 84) v1 v2 v3 h1.2.1).bind fun p => some (p.1, ((h1.1, p.2, h1.2.2) : Hp))) = some (r, h2) ∧ Inv A b h2
  have hcl : ∀ r h1, (r = 0 ∨ r = 1) → X1_lendOn_f τ σ nx (A + 32) (A + 17) (A + 6) v1 v2 v3 = some (r, h1) → X11_lend_f τ σ nx A v1 v2 v3 = some (r, h1) := by
    intro r h1 hr e
    obtain ⟨t, s, k⟩ := h1
    unfold X11_lend_f
    simp only [i0, i5, i1, i2, bsm]
    rw [chk_yes k32, e, bsm]
    exact if_pos hr
  rcases open_in (B := A + 84) hG hR v1 with ⟨d, hd, rfl, hop, o1, o2⟩ | ⟨o1, o2⟩
  rotate_left
  · refine hI.noH (re := fun ρ => X12_lend_f (A + 84) v1 v2 v3 ρ) (r := 0) (hcl _ _ (Or.inl rfl) ?_) ?_
    · unfold X1_lendOn_f; rw [chk_yes S3, o1, bsm, if_pos rfl]
    · unfold X12_lend_f; rw [o2 σ rfl, bsm, if_pos rfl]
  have o1' : X3_isOpen_f (A + 17) (nI d) σ = some 1 := o1
  rcases oneOf v2 n with ⟨p, hp, rfl⟩ | ho
  rotate_left
  · refine hI.noH (re := fun ρ => X12_lend_f (A + 84) (nI d) v2 v3 ρ) (r := 0) (hcl _ _ (Or.inl rfl) ?_) ?_
    · unfold X1_lendOn_f; rw [chk_yes S3, o1', bsm, if_neg n10, chk_yes S4, has4_out h12 hc ho, bsm, if_pos rfl]
    · unfold X12_lend_f; rw [o2 σ rfl, bsm, if_neg n10, re_isOne_out h12 hG.wn ho, bsm, if_pos rfl]
  have hd4 : d < 40 := by omega
  have f1 := S3.arr (f := 1) (by decide)
  have f0 := S3.arr (f := 0) (by decide)
  have l1 : (gRs τ 3 (A + 17) 2).bind (fun b => ldD τ σ b (nI d)) = some (σ (A + 84 + 1) (230 + 8 * d + 1)) := by
    rw [show gRs τ 3 (A + 17) 2 = some (A + 17 + (1 + 1)) from f1.1, bsm, ldD_of f1.2 hd4 (by decide)]
    exact congrArg some (hR.d.2 d hd 1 (by decide))
  have e1 : gRs τ 3 (A + 17) 2 = some (A + 17 + (1 + 1)) := f1.1
  have e1' : ldD τ σ (A + 17 + (1 + 1)) (nI d) = some (σ (A + 84 + 1) (230 + 8 * d + 1)) := by
    rw [ldD_of f1.2 hd4 (by decide)]; exact congrArg some (hR.d.2 d hd 1 (by decide))
  have e0 : gRs τ 3 (A + 17) 1 = some (A + 17 + (1 + 0)) := f0.1
  have e0' : ldD τ σ (A + 17 + (1 + 0)) (nI d) = some (σ (A + 84 + 1) (230 + 8 * d)) := by
    rw [ldD_of f0.2 hd4 (by decide)]; exact congrArg some (hR.d.2 d hd 0 (by decide))
  have e5 := S4.coin.1
  have e5' : ldD τ σ (A + 6 + 6) (nI p) = some (σ (A + 84 + 1) (90 + 8 * p + 5)) := by
    rw [ldD_of S4.coin.2 (by omega) (by decide)]; exact congrArg some ((hR.p.2 p hp).1 5 (by decide))
  rcases within_in v3 0 9999 σ σ with ⟨l1, l2, d1, d2⟩ | ⟨d1, d2⟩
  rotate_left
  · refine hI.noH (re := fun ρ => X12_lend_f (A + 84) (nI d) (nI p) v3 ρ) (r := 0) (hcl _ _ (Or.inl rfl) ?_) ?_
    · unfold X1_lendOn_f; rw [chk_yes S3, o1', bsm, if_neg n10, chk_yes S4, has4_in h12 hc hp, bsm, if_neg n10, d1, bsm, if_pos rfl]
    · unfold X12_lend_f; rw [o2 σ rfl, bsm, if_neg n10, re_isOne_in h12 hG.wn hp, bsm, if_neg n10, rD1 hd4, bsm, rD0 hd4, bsm, d2, bsm, if_pos rfl]
      split
      · rfl
      · split <;> rfl
  by_cases c1 : nI p = σ (A + 84 + 1) (230 + 8 * d + 1)
  · refine hI.noH (re := fun ρ => X12_lend_f (A + 84) (nI d) (nI p) v3 ρ) (r := 0) (hcl _ _ (Or.inl rfl) ?_) ?_
    · unfold X1_lendOn_f; rw [chk_yes S3, o1', bsm, if_neg n10, chk_yes S4, has4_in h12 hc hp, bsm, if_neg n10, d1, bsm, if_neg n10, e1, bsm, e1', bsm, if_pos c1]
    · unfold X12_lend_f; rw [o2 σ rfl, bsm, if_neg n10, re_isOne_in h12 hG.wn hp, bsm, if_neg n10, rD1 hd4, bsm, if_pos c1]
  by_cases c2 : nI p = σ (A + 84 + 1) (230 + 8 * d)
  · refine hI.noH (re := fun ρ => X12_lend_f (A + 84) (nI d) (nI p) v3 ρ) (r := 0) (hcl _ _ (Or.inl rfl) ?_) ?_
    · unfold X1_lendOn_f; rw [chk_yes S3, o1', bsm, if_neg n10, chk_yes S4, has4_in h12 hc hp, bsm, if_neg n10, d1, bsm, if_neg n10, e1, bsm, e1', bsm, if_neg c1, e0, bsm, e0', bsm, if_pos c2]
    · unfold X12_lend_f; rw [o2 σ rfl, bsm, if_neg n10, re_isOne_in h12 hG.wn hp, bsm, if_neg n10, rD1 hd4, bsm, if_neg c1, rD0 hd4, bsm, if_pos c2]
  by_cases c3 : v3 ≤ σ (A + 84 + 1) (90 + 8 * p + 5)
  rotate_left
  · refine hI.noH (re := fun ρ => X12_lend_f (A + 84) (nI d) (nI p) v3 ρ) (r := 0) (hcl _ _ (Or.inl rfl) ?_) ?_
    · unfold X1_lendOn_f; rw [chk_yes S3, o1', bsm, if_neg n10, chk_yes S4, has4_in h12 hc hp, bsm, if_neg n10, d1, bsm, if_neg n10, e1, bsm, e1', bsm, if_neg c1, e0, bsm, e0', bsm, if_neg c2, e5, bsm, e5', bsm, if_neg c3]
    · unfold X12_lend_f; rw [o2 σ rfl, bsm, if_neg n10, re_isOne_in h12 hG.wn hp, bsm, if_neg n10, rD1 hd4, bsm, if_neg c1, rD0 hd4, bsm, if_neg c2, d2, bsm, if_neg n10, rO5 (by omega), bsm, if_neg c3]
  obtain ⟨g1, ⟨k, hk, g2⟩, g3, g4, g5, g6, g7⟩ := hG.dok hd
  obtain ⟨h1, r, z1, z2, z3, z4, z5⟩ := bar_one (f := 1) (v := nI p) (x1 := nI p) (x2 := σ (A + 84 + 1) (230 + 8 * d + 1)) (y1 := nI p) (y2 := σ (A + 84 + 1) (230 + 8 * d + 1)) (x := v3) (o := some (p, k)) hI hG hd (Or.inl rfl) (by
    unfold Dok
    rw [upd_eq, upd_ne (by omega), upd_ne (by omega), upd_ne (by omega), upd_ne (by omega), upd_ne (by omega)]
    exact ⟨g1, ⟨p, hp, rfl⟩, g3, g4, g5, g6, fun _ z => c2 z.symm⟩) hop (Or.inl ⟨p, k, rfl, hp, hk, rfl, g2, rfl, g2⟩) (fun z => by cases z)
  refine Inv.yesH (re := fun ρ => X12_lend_f (A + 84) (nI d) (nI p) v3 ρ) (hcl 1 h1 (Or.inr rfl) ?_) z2 ?_ z5
  · unfold X1_lendOn_f
    rw [chk_yes S3, o1', bsm, if_neg n10, chk_yes S4, has4_in h12 hc hp, bsm, if_neg n10, d1, bsm, if_neg n10, e1, bsm, e1', bsm, if_neg c1, e0, bsm, e0', bsm, if_neg c2, e5, bsm, e5', bsm, if_pos c3]
    exact z1
  · unfold X12_lend_f
    rw [o2 _ z3, bsm, if_neg n10, re_isOne_in h12 (by rw [z3]; exact hG.wn) hp, bsm, if_neg n10, rD1 hd4, bsm, z3, if_neg c1, rD0 hd4, bsm, z3, if_neg c2, re_isIn_in l1 l2, bsm, if_neg n10, rO5 (by omega), bsm, z3, if_pos c3, bsm]
    exact z4
