/-! sell. -/
theorem st_sell (A b : Nat) : St_sell (Inv A b) A (A + 84) := by
  intro h v1 v2 v3 hI
  obtain ⟨τ, σ, nx⟩ := h
  obtain ⟨n, nd, hG, hR, hB, hT, hBr, -⟩ := hI.wd
  dsimp only at hG hR hB hT hBr
  have h12 := hG.le12
  have h40 := hG.le40
  have hc : σ (A + 6) 0 = nI n := hR.p.1.trans hG.wn
  obtain ⟨i0, i5, i1, i2, S3, S4, k32⟩ := hI.grs
  show ∃ (r : Int32) (h1 h2 : Hp), X11_sell_f τ σ nx A v1 v2 v3 = some (r, h1) ∧ ShX12 h1.1 (A + 84) ∧ ((X12_sell_f (A + 84) v1 v2 v3 h1.2.1).bind fun p => some (p.1, ((h1.1, p.2, h1.2.2) : Hp))) = some (r, h2) ∧ Inv A b h2
  have hcl : ∀ r h1, (r = 0 ∨ r = 1) → X1_sellOn_f τ σ nx (A + 32) (A + 17) (A + 6) v1 v2 v3 = some (r, h1) → X11_sell_f τ σ nx A v1 v2 v3 = some (r, h1) := by
    intro r h1 hr e
    obtain ⟨t, s, k⟩ := h1
    unfold X11_sell_f
    simp only [i0, i5, i1, i2, bsm]
    rw [chk_yes k32, e, bsm]
    exact if_pos hr
  rcases open_in (B := A + 84) hG hR v1 with ⟨d, hd, rfl, hop, o1, o2⟩ | ⟨o1, o2⟩
  rotate_left
  · refine hI.noH (re := fun ρ => X12_sell_f (A + 84) v1 v2 v3 ρ) (r := 0) (hcl _ _ (Or.inl rfl) ?_) ?_
    · unfold X1_sellOn_f; rw [chk_yes S3, o1, bsm, if_pos rfl]
    · unfold X12_sell_f; rw [o2 σ rfl, bsm, if_pos rfl]
  have o1' : X3_isOpen_f (A + 17) (nI d) σ = some 1 := o1
  have hd4 : d < 40 := by omega
  have f0 := S3.arr (f := 0) (by decide)
  have e0 : gRs τ 3 (A + 17) 1 = some (A + 17 + (1 + 0)) := f0.1
  have e0' : ldD τ σ (A + 17 + (1 + 0)) (nI d) = some (σ (A + 84 + 1) (230 + 8 * d)) := by
    rw [ldD_of f0.2 hd4 (by decide)]; exact congrArg some (hR.d.2 d hd 0 (by decide))
  obtain ⟨⟨k, hk, g1⟩, g2, g3, g4, g5, g6, g7⟩ := hG.dok hd
  have e5 := S4.coin.1
  have e5' : ldD τ σ (A + 6 + 6) (nI k) = some (σ (A + 84 + 1) (90 + 8 * k + 5)) := by
    rw [ldD_of S4.coin.2 (by omega) (by decide)]; exact congrArg some ((hR.p.2 k hk).1 5 (by decide))
  have dok : ∀ v, orNone v n → Dok (upd (σ (A + 84 + 1)) (230 + 8 * d + 4) v) n d := fun v hv => by
    unfold Dok
    rw [upd_eq, upd_ne (by omega), upd_ne (by omega), upd_ne (by omega), upd_ne (by omega), upd_ne (by omega)]
    exact ⟨⟨k, hk, g1⟩, g2, g3, g4, hv, g6, g7⟩
  rcases within_in v3 0 9999 σ σ with ⟨l1, l2, d1, d2⟩ | ⟨d1, d2⟩
  rotate_left
  · have b41 : X12_sell_b41 (A + 84) (nI d) v2 v3 σ = some (0, σ) := by
      unfold X12_sell_b41; rw [d2, bsm, if_pos rfl]
    refine hI.noH (re := fun ρ => X12_sell_f (A + 84) (nI d) v2 v3 ρ) (r := 0) (hcl _ _ (Or.inl rfl) ?_) ?_
    · unfold X1_sellOn_f; rw [chk_yes S3, o1', bsm, if_neg n10, d1, bsm, if_pos rfl]
    · unfold X12_sell_f; rw [o2 σ rfl, bsm, if_neg n10, b41]
      by_cases cm : v2 = -1
      · rw [if_pos cm]
      · rw [if_neg cm]
        rcases oneOf v2 n with ⟨q, hq, rfl⟩ | ho
        · rw [re_isOne_in h12 hG.wn hq, bsm, if_neg n10, rD0 hd4, bsm, rO0 (by omega), bsm]
          split
          · rfl
          · split <;> rfl
        · rw [re_isOne_out h12 hG.wn ho, bsm, if_pos rfl]
  by_cases cm : v2 = -1
  · subst cm
    obtain ⟨h1, r, z1, z2, z3, z4, z5⟩ := bar_one (f := 4) (v := -1) (x1 := nI k) (x2 := -1) (y1 := -1) (y2 := -1) (x := v3) (o := none) hI hG hd (Or.inr rfl) (dok _ (Or.inl rfl)) hop (Or.inr ⟨rfl, Or.inl rfl, Or.inr rfl⟩) (fun _ => rfl)
    refine Inv.yesH (re := fun ρ => X12_sell_f (A + 84) (nI d) (-1) v3 ρ) (hcl 1 h1 (Or.inr rfl) ?_) z2 ?_ z5
    · unfold X1_sellOn_f
      rw [chk_yes S3, o1', bsm, if_neg n10, d1, bsm, if_neg n10, e0, bsm, e0', bsm, if_pos rfl, g1]
      exact z1
    · unfold X12_sell_f X12_sell_b41 X12_sell_b74
      rw [o2 _ z3, bsm, if_neg n10, if_pos rfl, re_isIn_in l1 l2, bsm, if_neg n10, if_pos rfl, if_pos rfl]
      exact z4
  rcases oneOf v2 n with ⟨q, hq, rfl⟩ | ho
  rotate_left
  · refine hI.noH (re := fun ρ => X12_sell_f (A + 84) (nI d) v2 v3 ρ) (r := 0) (hcl _ _ (Or.inl rfl) ?_) ?_
    · unfold X1_sellOn_f X4_isNoChild_f
      rw [chk_yes S3, o1', bsm, if_neg n10, d1, bsm, if_neg n10, e0, bsm, e0', bsm, if_neg cm, chk_yes S4, has4_out h12 hc ho, bsm, if_pos rfl, bsm, if_pos rfl]
      split <;> rfl
    · unfold X12_sell_f; rw [o2 σ rfl, bsm, if_neg n10, if_neg cm, re_isOne_out h12 hG.wn ho, bsm, if_pos rfl]
  by_cases c1 : nI q = σ (A + 84 + 1) (230 + 8 * d)
  · refine hI.noH (re := fun ρ => X12_sell_f (A + 84) (nI d) (nI q) v3 ρ) (r := 0) (hcl _ _ (Or.inl rfl) ?_) ?_
    · unfold X1_sellOn_f
      rw [chk_yes S3, o1', bsm, if_neg n10, d1, bsm, if_neg n10, e0, bsm, e0', bsm, if_neg cm, if_pos c1]
    · unfold X12_sell_f; rw [o2 σ rfl, bsm, if_neg n10, if_neg cm, re_isOne_in h12 hG.wn hq, bsm, if_neg n10, rD0 hd4, bsm, if_pos c1]
  have ek : σ (A + 6 + 1) q = σ (A + 84 + 1) (90 + 8 * q) := (hR.p.2 q hq).1 0 (by decide)
  by_cases c2 : σ (A + 84 + 1) (90 + 8 * q) = 1
  · refine hI.noH (re := fun ρ => X12_sell_f (A + 84) (nI d) (nI q) v3 ρ) (r := 0) (hcl _ _ (Or.inl rfl) ?_) ?_
    · unfold X1_sellOn_f X4_isNoChild_f
      rw [chk_yes S3, o1', bsm, if_neg n10, d1, bsm, if_neg n10, e0, bsm, e0', bsm, if_neg cm, if_neg c1, chk_yes S4, has4_in h12 hc hq, bsm, if_neg n10, ldn (by omega) (by decide), bsm, ek, if_pos c2, bsm, if_pos rfl]
    · unfold X12_sell_f; rw [o2 σ rfl, bsm, if_neg n10, if_neg cm, re_isOne_in h12 hG.wn hq, bsm, if_neg n10, rD0 hd4, bsm, if_neg c1, rO0 (by omega), bsm, if_pos c2]
  by_cases c3 : v3 ≤ σ (A + 84 + 1) (90 + 8 * k + 5)
  rotate_left
  · refine hI.noH (re := fun ρ => X12_sell_f (A + 84) (nI d) (nI q) v3 ρ) (r := 0) (hcl _ _ (Or.inl rfl) ?_) ?_
    · unfold X1_sellOn_f X4_isNoChild_f
      rw [chk_yes S3, o1', bsm, if_neg n10, d1, bsm, if_neg n10, e0, bsm, e0', bsm, if_neg cm, if_neg c1, chk_yes S4, has4_in h12 hc hq, bsm, if_neg n10, ldn (by omega) (by decide), bsm, ek, if_neg c2, bsm, if_neg n10, e5, bsm, g1, e5', bsm, if_neg c3]
    · unfold X12_sell_f X12_sell_b41; rw [o2 σ rfl, bsm, if_neg n10, if_neg cm, re_isOne_in h12 hG.wn hq, bsm, if_neg n10, rD0 hd4, bsm, if_neg c1, rO0 (by omega), bsm, if_neg c2, d2, bsm, if_neg n10, if_neg cm, bsm, g1, rO5 (by omega), bsm, if_neg c3]
  obtain ⟨h1, r, z1, z2, z3, z4, z5⟩ := bar_one (f := 4) (v := nI q) (x1 := nI k) (x2 := nI q) (y1 := nI k) (y2 := nI q) (x := v3) (o := some (k, q)) hI hG hd (Or.inr rfl) (dok _ (Or.inr ⟨q, hq, rfl⟩)) hop (Or.inl ⟨k, q, rfl, hk, hq, rfl, rfl, rfl, rfl⟩) (fun z => by cases z)
  refine Inv.yesH (re := fun ρ => X12_sell_f (A + 84) (nI d) (nI q) v3 ρ) (hcl 1 h1 (Or.inr rfl) ?_) z2 ?_ z5
  · unfold X1_sellOn_f X4_isNoChild_f
    rw [chk_yes S3, o1', bsm, if_neg n10, d1, bsm, if_neg n10, e0, bsm, e0', bsm, if_neg cm, if_neg c1, chk_yes S4, has4_in h12 hc hq, bsm, if_neg n10, ldn (by omega) (by decide), bsm, ek, if_neg c2, bsm, if_neg n10, e5, bsm, g1, e5', bsm, if_pos c3]
    exact z1
  · unfold X12_sell_f X12_sell_b41 X12_sell_b74
    rw [o2 _ z3, bsm, if_neg n10, if_neg cm, re_isOne_in h12 (by rw [z3]; exact hG.wn) hq, bsm, if_neg n10, rD0 hd4, bsm, z3, if_neg c1, rO0 (by omega), bsm, z3, if_neg c2, re_isIn_in l1 l2, bsm, if_neg n10, if_neg cm, bsm, g1, rO5 (by omega), bsm, z3, if_pos c3, if_neg cm, bsm]
    exact z4
