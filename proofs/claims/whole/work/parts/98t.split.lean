/-! split, both sides. -/
theorem wr_cg {s s' : Sig} {N x k : Nat} {v : Int32} (h : ∀ a, a < N → s a = s' a) {a : Nat} (ha : a < N) : wr s x k v a = wr s' x k v a := by
  by_cases e : a = x
  · subst e; rw [wr_w, wr_w, h a ha]
  · rw [wr_row e, wr_row e]; exact h a ha
theorem debC_cg {P n N : Nat} {a b c : Int32} {s s' : Sig} (h : ∀ x, x < N → s x = s' x) {x : Nat} (hx : x < N) : debC P n a b c s x = debC P n a b c s' x := by
  unfold debC
  refine wr_cg (N := N) (fun x hx => wr_cg (N := N) (fun x hx => wr_cg (N := N) (fun x hx => wr_cg (N := N) (fun x hx => wr_cg (N := N) (fun x hx => wr_cg (N := N) (fun x hx => wr_cg (N := N) (fun x hx => wr_cg h hx) hx) hx) hx) hx) hx) hx) hx
theorem Cor.n7 {n nd i k j : Nat} (hn : n ≤ 12) (h : Cor n nd i k j) (d : Nat) : j ≠ 230 + 8 * d + 7 := by
  rcases h with h | h | ⟨h0, f, h⟩ | ⟨h0, f, h⟩ | ⟨h0, f, h⟩ | h | h | h | h | h <;> omega
theorem debC_v {P n : Nat} {a b c : Int32} {σ : Sig} : debC P n a b c σ P 0 = nI (n + 1) ∧ debC P n a b c σ (P + 3) n = c := by
  unfold debC
  exact ⟨wr_v, by rw [wr_row (by omega), wr_row (by omega), wr_row (by omega), wr_row (by omega), wr_row (by omega), wr_v]⟩
theorem st_split (A b : Nat) : St_split (Inv A b) A (A + 84) := by
  intro h v1 v2 hI
  obtain ⟨τ, σ, nx⟩ := h
  obtain ⟨n, nd, hG, hR, hB, hT, hBr, -⟩ := hI.wd
  dsimp only at hG hR hB hT hBr
  obtain ⟨m, -, -, hm, em1, em2, -⟩ := hBr
  have hnx : A + 95 ≤ nx := hI.2.2.1
  have h12 := hG.le12
  have h40 := hG.le40
  have hcd : σ (A + 17) 0 = nI nd := hR.d.1.trans hG.wd
  obtain ⟨i0, i5, i1, i2, S3, S4, k32⟩ := hI.grs
  show ∃ (r : Int32) (h1 h2 : Hp), X11_split_f τ σ nx A v1 v2 = some (r, h1) ∧ ShX12 h1.1 (A + 84) ∧ ((X12_split_f (A + 84) v1 v2 h1.2.1).bind fun p => some (p.1, ((h1.1, p.2, h1.2.2) : Hp))) = some (r, h2) ∧ Inv A b h2
  have hcl : ∀ r h1, X1_splitOff_f τ σ nx (A + 32) (A + 17) v1 v2 = some (r, h1) → X11_split_f τ σ nx A v1 v2 = some (r, h1) := by
    intro r h1 e
    obtain ⟨t, s, k⟩ := h1
    unfold X11_split_f
    simp only [i0, i5, i1, bsm]
    rw [chk_yes k32, e, bsm]
  rcases open_in (B := A + 84) hG hR v1 with ⟨d, hd, rfl, hop, o1, o2⟩ | ⟨o1, o2⟩
  rotate_left
  · refine hI.noH (re := fun ρ => X12_split_f (A + 84) v1 v2 ρ) (r := -1) (hcl _ _ ?_) ?_
    · unfold X1_splitOff_f; rw [chk_yes S3, o1, bsm, if_pos rfl]
    · unfold X12_split_f; rw [o2 σ rfl, bsm, if_pos rfl]
  have o1' : X3_isOpen_f (A + 17) (nI d) σ = some 1 := o1
  rcases within_in v2 1 199 σ σ with ⟨l1, l2, d1, d2⟩ | ⟨d1, d2⟩
  rotate_left
  · refine hI.noH (re := fun ρ => X12_split_f (A + 84) (nI d) v2 ρ) (r := -1) (hcl _ _ ?_) ?_
    · unfold X1_splitOff_f; rw [chk_yes S3, o1', bsm, if_neg n10, d1, bsm, if_pos rfl]
    · unfold X12_split_f; rw [o2 σ rfl, bsm, if_neg n10, d2, bsm, if_pos rfl]
  have hd4 : d < 40 := by omega
  have f2 := S3.arr (f := 2) (by decide)
  have e2 : gRs τ 3 (A + 17) 3 = some (A + 17 + (1 + 2)) := f2.1
  have e2' : ldD τ σ (A + 17 + (1 + 2)) (nI d) = some (σ (A + 84 + 1) (230 + 8 * d + 2)) := by
    rw [ldD_of f2.2 hd4 (by decide)]; exact congrArg some (hR.d.2 d hd 2 (by decide))
  by_cases c1 : σ (A + 84 + 1) (230 + 8 * d + 2) ≤ v2
  · refine hI.noH (re := fun ρ => X12_split_f (A + 84) (nI d) v2 ρ) (r := -1) (hcl _ _ ?_) ?_
    · unfold X1_splitOff_f; rw [chk_yes S3, o1', bsm, if_neg n10, d1, bsm, if_neg n10, e2, bsm, e2', bsm, if_pos c1]
    · unfold X12_split_f; rw [o2 σ rfl, bsm, if_neg n10, d2, bsm, if_neg n10, rD2 hd4, bsm, if_pos c1]
  have gc : gI τ σ 3 (A + 17) 0 = some (nI nd) := by rw [gI_of S3.1 rfl, hcd]
  have fit : nI nd < 40 ↔ nd < 40 := nI_ltI (b := 40) (by omega) (by decide)
  have full : nI nd = 40 ↔ nd = 40 := nI_eq (b := 40) (by omega) (by decide)
  by_cases cf : nd = 40
  · refine hI.noH (re := fun ρ => X12_split_f (A + 84) (nI d) v2 ρ) (r := -1) (hcl _ _ ?_) ?_
    · unfold X1_splitOff_f; rw [chk_yes S3, o1', bsm, if_neg n10, d1, bsm, if_neg n10, e2, bsm, e2', bsm, if_neg c1, gc, bsm, if_neg (fun z => absurd (fit.mp z) (by omega))]
    · unfold X12_split_f; rw [o2 σ rfl, bsm, if_neg n10, d2, bsm, if_neg n10, rD2 hd4, bsm, if_neg c1, LW.2.2.2.2.2.2.2.2.2.2.1, bsm, hG.wd, if_pos (full.mpr cf)]
  have hn : nd < 40 := by omega
  obtain ⟨g1, g2, ⟨L, hL, g3⟩, g4, g5, g6, g7⟩ := id (hG.dok hd)
  -- the class
  obtain ⟨τ1, s1, m1, mS, mT, m0, m1', m2', m4, m5, mO⟩ := make0 (τ := τ) (σ := σ) (nx := nx) (cap := 2) (x1 := -1) (x2 := -1) (x3 := 0) (by decide)
  have hS3 : ShX3 τ1 (A + 17) := ShX3.same (P := A + 17) S3 (fun x _ _ => mT x (by omega) (by omega))
  obtain ⟨s2, t1, t4, tJ, tO, q0, q1, q2, q3, q4, q5, -⟩ := take0 (σ := s1) (b := nx) (N := 12) (P := A + 17) (t := 0) (d := d) (nd := nd) (by decide) (by decide) m4 (by rw [mO _ (by omega) (by omega)]; exact hcd) hd h40 (by omega)
  have o2' : ∀ a, a < nx → s2 a = σ a := fun a h1 => by rw [tO a (by omega) (by omega), mO a (by omega) (by omega)]
  obtain ⟨lv, hlv⟩ : ∃ lv, lv = σ (A + 84 + 1) (230 + 8 * d + 2) - v2 := ⟨_, rfl⟩
  obtain ⟨s3, hs3⟩ : ∃ s3, s3 = wr s2 (A + 17 + (1 + 2)) d lv := ⟨_, rfl⟩
  obtain ⟨s4, hs4⟩ : ∃ s4, s4 = wr s3 (nx + 1) 5 lv := ⟨_, rfl⟩
  have o4 : ∀ a, a < nx → s4 a = wr σ (A + 5 + (13 + 2)) d lv a := fun a h1 => by
    rw [hs4, wr_row (by omega), hs3]; exact wr_cg (N := nx) o2' h1
  have r4d : ∀ g, g < 7 → g ≠ 2 → s4 (A + 17 + (1 + g)) d = σ (A + 84 + 1) (230 + 8 * d + g) := fun g hg h2 => by
    rw [o4 _ (by omega), wr_row (by omega)]; exact hR.d.2 d hd g hg
  obtain ⟨s5, hs5⟩ : ∃ s5, s5 = debC (A + 17) nd (σ (A + 84 + 1) (230 + 8 * d)) (σ (A + 84 + 1) (230 + 8 * d + 1)) v2 s4 := ⟨_, rfl⟩
  have r5d : ∀ g, g < 7 → g ≠ 2 → s5 (A + 17 + (1 + g)) d = σ (A + 84 + 1) (230 + 8 * d + g) := fun g hg h2 => by
    rw [← r4d g hg h2, hs5]
    unfold debC
    have : ∀ (s : Sig) (x : Nat) (v : Int32), wr s x nd v (A + 17 + (1 + g)) d = s (A + 17 + (1 + g)) d := fun s x v => by
      by_cases e : A + 17 + (1 + g) = x
      · rw [← e, wr_o (by omega)]
      · rw [wr_row e]
    rw [wr_row (by omega), this, this, this, this, this, this, this]
  obtain ⟨s6, hs6⟩ : ∃ s6, s6 = wr s5 (A + 17 + (1 + 4)) nd (σ (A + 84 + 1) (230 + 8 * d + 4)) := ⟨_, rfl⟩
  obtain ⟨s7, hs7⟩ : ∃ s7, s7 = wr s6 (A + 17 + (1 + 5)) nd (σ (A + 84 + 1) (230 + 8 * d + 5)) := ⟨_, rfl⟩
  have n5 : ∀ a, nx ≤ a → s5 a = s4 a := fun a h1 => by rw [hs5, debC_ne (by omega)]
  have n7 : ∀ a, nx ≤ a → s7 a = s4 a := fun a h1 => by rw [hs7, wr_row (by omega), hs6, wr_row (by omega), n5 a h1]
  have n4 : s4 nx = s2 nx := by rw [hs4, wr_row (by omega), hs3, wr_row (by omega)]
  have c5 : s5 (A + 17) 0 = nI (nd + 1) := by rw [hs5]; exact debC_v.1
  have c7 : s7 (A + 17) 0 = nI (nd + 1) := by rw [hs7, wr_row (by omega), hs6, wr_row (by omega)]; exact c5
  have l7 : s7 (A + 17 + 3) nd = v2 := by rw [hs7, wr_row (by omega), hs6, wr_row (by omega), hs5]; exact debC_v.2
  obtain ⟨s8, u1, u4, uJ, uO, y0, y1, y2, y3, y4, y5, yk⟩ := take0 (σ := s7) (b := nx) (N := 12) (P := A + 17) (t := 1) (d := nd) (nd := nd + 1) (by decide) (by decide) (by rw [n7 _ (by omega), n4]; exact t4) c7 (by omega) (by omega) (by omega)
  obtain ⟨s9, hs9⟩ : ∃ s9, s9 = wr s8 nx 5 (nI nd) := ⟨_, rfl⟩
  have o9 : ∀ a, a < nx → s9 a = wr (wr (debC (A + 5 + 12) nd (σ (A + 84 + 1) (230 + 8 * d)) (σ (A + 84 + 1) (230 + 8 * d + 1)) v2 (wr σ (A + 5 + (13 + 2)) d lv)) (A + 5 + (13 + 4)) nd (σ (A + 84 + 1) (230 + 8 * d + 4))) (A + 5 + (13 + 5)) nd (σ (A + 84 + 1) (230 + 8 * d + 5)) a := fun a h1 => by
    rw [hs9, wr_row (by omega), uO a (by omega) (by omega), hs7, hs6, hs5]
    exact wr_cg (N := nx) (fun a h1 => wr_cg (N := nx) (fun a h1 => debC_cg (N := nx) o4 h1) h1) h1
  have o9' : ∀ a, a < nx → (a < A + 17 ∨ A + 24 < a) → s9 a = σ a := fun a h1 h2 => by
    rw [o9 a h1, wr_row (by omega), wr_row (by omega), debC_ne (by omega), wr_row (by omega)]
  obtain ⟨τ2, k1, kO, k33, kj, km, kob, kS, k12, k32'⟩ := mk_keep (s4 := s9) hI mS mT hm (by rw [o9' _ (by omega) (by omega)]; exact em1)
  obtain ⟨sA, hsA⟩ : ∃ sA, sA = wr s9 (A + 32) 0 (nI (m - sh60 m + 1)) := ⟨_, rfl⟩
  rw [← hsA] at k1
  have e85 : sA (A + 84 + 1) = σ (A + 84 + 1) := by rw [hsA, wr_row (by omega)]; exact o9' _ (by omega) (by omega)
  have hc : X1_splitOff_f τ σ nx (A + 32) (A + 17) (nI d) v2 = some (nI nd, (τ2, sA, nx + 2)) := by
    have F : ∀ f, f < 7 → gRs τ1 3 (A + 17) (1 + f) = some (A + 17 + (1 + f)) := fun f hf => (hS3.arr hf).1
    have Q : ∀ f, f < 7 → ∀ (s : Sig) k, k < 40 → ldD τ1 s (A + 17 + (1 + f)) (nI k) = some (s (A + 17 + (1 + f)) k) := fun f hf s k hk => ldD_of (hS3.arr hf).2 hk (by decide)
    have U : ∀ f, f < 7 → ∀ (s : Sig) k v, k < 40 → stD τ1 s (A + 17 + (1 + f)) (nI k) v = some (wr s (A + 17 + (1 + f)) k v) := fun f hf s k v hk => stD_of (hS3.arr hf).2 hk (by decide)
    have F3 : gRs τ1 3 (A + 17) 3 = some (A + 17 + (1 + 2)) := F 2 (by decide)
    have F1 : gRs τ1 3 (A + 17) 1 = some (A + 17 + (1 + 0)) := F 0 (by decide)
    have F2 : gRs τ1 3 (A + 17) 2 = some (A + 17 + (1 + 1)) := F 1 (by decide)
    have F5 : gRs τ1 3 (A + 17) 5 = some (A + 17 + (1 + 4)) := F 4 (by decide)
    have F6 : gRs τ1 3 (A + 17) 6 = some (A + 17 + (1 + 5)) := F 5 (by decide)
    have a2 : s2 (A + 17 + (1 + 2)) d = σ (A + 84 + 1) (230 + 8 * d + 2) := by rw [o2' _ (by omega)]; exact hR.d.2 d hd 2 (by decide)
    have a3 : s3 (A + 17 + (1 + 2)) d = lv := by rw [hs3, wr_v]
    have lvs : X0_leaves_f nx 12 lv s3 = some s4 := by
      unfold X0_leaves_f
      have : s3 nx 4 = nI 1 := by rw [hs3, wr_row (by omega)]; exact t4
      rw [this, if_neg (show ¬ nI 1 < 1 by decide), show ((nI 1 - 1) * 6 + 5 : Int32) = nI 5 from rfl, stn (by decide) (by decide), bsm, hs4]
    have add : X3_add_f (A + 17) (σ (A + 84 + 1) (230 + 8 * d)) (σ (A + 84 + 1) (230 + 8 * d + 1)) v2 s4 = some (nI nd, s5) := by
      rw [hs5]; exact add3 (by rw [o4 _ (by omega), wr_row (by omega)]; exact hcd) hn
    have b135 : X1_splitOff_b135 (A + 32) (A + 17) nx (nI nd) τ1 s7 (nx + 2) = some (nI nd, (τ2, sA, nx + 2)) := by
      unfold X1_splitOff_b135 X0_bears_f pI
      rw [tl_of mS, chk_yes mS, chk_yes hS3, u1, bsm, bsm, bsm, ← hs9, chk_yes k32', k1, bsm]
    unfold X1_splitOff_f
    rw [chk_yes S3, o1', bsm, if_neg n10, d1, bsm, if_neg n10, e2, bsm, e2', bsm, if_neg c1, gc, bsm, if_pos (fit.mpr hn), show (2 : Int32) = nI 2 from rfl, m1, bsm]
    dsimp only
    rw [tl_of mS, chk_yes mS, chk_yes hS3, t1, bsm, F3, bsm, Q 2 (by decide) _ _ hd4, bsm, a2, ← hlv, U 2 (by decide) _ _ _ hd4, bsm, ← hs3, bsm, Q 2 (by decide) _ _ hd4, bsm, a3, lvs, bsm, F1, bsm, Q 0 (by decide) _ _ hd4, bsm, r4d 0 (by decide) (by decide), F2, bsm, Q 1 (by decide) _ _ hd4, bsm, r4d 1 (by decide) (by decide), show 230 + 8 * d + 0 = 230 + 8 * d from rfl, add, bsm]
    dsimp only
    rw [has3_in (n := nd + 1) (by omega) c5 (by omega), bsm, if_neg n10, F5, bsm, bsm, Q 4 (by decide) _ _ hd4, bsm, r5d 4 (by decide) (by decide), U 4 (by decide) _ _ _ hn, bsm, ← hs6, F6, bsm, bsm, Q 5 (by decide) _ _ hd4, bsm]
    have : s6 (A + 17 + (1 + 5)) d = σ (A + 84 + 1) (230 + 8 * d + 5) := by rw [hs6, wr_row (by omega)]; exact r5d 5 (by decide) (by decide)
    rw [this, U 5 (by decide) _ _ _ hn, bsm, ← hs7]
    exact b135
  -- the reference
  obtain ⟨r, z1, zB, zO, z16, zL, zold, zw0, zw3, zbit, ⟨zd0, zd1, zd2, zd3⟩, zend⟩ := re_splits (B := A + 84) (ρ := sA) (x2 := v2) hm (by rw [e85]; exact em2) hn (by rw [e85]; exact hG.wd) hd
  rw [e85] at zL zold zd0 zd1 zd2 zd3 zend
  refine Inv.yesH (re := fun ρ => X12_split_f (A + 84) (nI d) v2 ρ) (h1 := (τ2, sA, nx + 2)) (s := r) (hcl _ _ hc) k12 ?_ ?_
  · dsimp only
    unfold X12_split_f
    rw [o2 _ e85, bsm, if_neg n10, re_isIn_in l1 l2, bsm, if_neg n10, rD2 hd4, bsm, e85, if_neg c1, LW.2.2.2.2.2.2.2.2.2.2.1, bsm, hG.wd, if_neg (fun z => cf (full.mp z))]
    exact z1
  dsimp only
  obtain ⟨x0, x1, x2, x3, x4, x5, x6, x10, xd⟩ := @splW_v nd d v2 (σ (A + 84 + 1)) hd
  have hv2 : upTo v2 199 := within_up (by decide) (Int32.le_trans (show (0 : Int32) ≤ 1 by decide) l1) l2
  obtain ⟨c, hc199, rfl⟩ := hv2
  have hcL : c < L := by
    rcases Nat.lt_or_ge c L with h | h
    · exact h
    · exact absurd (by rw [g3]; exact nI_le h (by omega)) c1
  have elv : σ (A + 84 + 1) (230 + 8 * d + 2) - nI c = nI (L - c) := by rw [g3]; exact pk_sub (by omega)
  have hG' : Rg (splW nd d (nI c) (σ (A + 84 + 1))) n (nd + 1) := by
    refine ⟨hG.1.fr (fun j hj => splW_o (by omega) (by omega) (by omega)), ⟨by omega, x10, fun y hy => ?_⟩, hG.2.2.fr (Nat.le_refl _) (fun j hj => splW_o (by omega) (by omega) (by omega))⟩
    by_cases cy : y = nd
    · subst cy
      rw [x0, x1, x2, x3, x4, x5]
      exact ⟨g1, g2, ⟨c, by omega, rfl⟩, ⟨0, by decide, rfl⟩, g5, g6, fun _ => g7 hop⟩
    · by_cases cd : y = d
      · subst cd
        rw [xd, splW_o (by omega) (by omega) (by omega), splW_o (by omega) (by omega) (by omega), splW_o (by omega) (by omega) (by omega), splW_o (by omega) (by omega) (by omega), splW_o (by omega) (by omega) (by omega), elv]
        exact ⟨g1, g2, ⟨L - c, by omega, rfl⟩, g4, g5, g6, fun _ => g7 hop⟩
      · rw [splW_o (by omega) (by omega) (by omega), splW_o (by omega) (by omega) (by omega), splW_o (by omega) (by omega) (by omega), splW_o (by omega) (by omega) (by omega), splW_o (by omega) (by omega) (by omega), splW_o (by omega) (by omega) (by omega)]
        exact hG.2.1.2.2 y (by omega)
  have hR2 := ((deb_rc h12 hn (hR.put (v := lv) h12 h40 (i := 13 + 2) (k := d) (j := 230 + 8 * d + 2) (Or.inr (Or.inr (Or.inr (Or.inr (Or.inl ⟨hd, 2, by omega, rfl, rfl⟩)))))) (σ (A + 84 + 1) (230 + 8 * d)) (σ (A + 84 + 1) (230 + 8 * d + 1)) (nI c)).put (v := σ (A + 84 + 1) (230 + 8 * d + 4)) h12 (by omega) (i := 13 + 4) (k := nd) (j := 230 + 8 * nd + 4) (Or.inr (Or.inr (Or.inr (Or.inr (Or.inl ⟨by omega, 4, by omega, rfl, rfl⟩)))))).put (v := σ (A + 84 + 1) (230 + 8 * d + 5)) h12 (by omega) (i := 13 + 5) (k := nd) (j := 230 + 8 * nd + 5) (Or.inr (Or.inr (Or.inr (Or.inr (Or.inl ⟨by omega, 5, by omega, rfl, rfl⟩)))))
  have hb7 : 7880 ≤ bs m := by unfold bs; omega
  have oA : ∀ a, a < nx → a ≠ A + 32 → a ≠ A + 84 → a ≠ A + 84 + 1 → r a = s9 a := fun a h1 h2 h3 h4 => by rw [zO a h3 h4, hsA, wr_row h2]
  refine hI.bar (nd' := nd + 1) (N := 12) (sp := true) hG (hG'.fr (fun j hj => zL j (by omega) (by omega))) (Nat.le_refl _) hm em2 kO k33 kj km kob (fun a h1 h2 h3 h4 h5 => ?_) (fun j hj => ?_) ?_ (fun j hj => ?_) z16 ?_ (fun j i h1 h2 => zold j i h1 h2) ?_
  · rw [oA a h5 h2 h3 (by omega)]; exact o9' a h5 (by omega)
  · rw [zB j hj, hsA, wr_row (by omega), o9' _ (by omega) (by omega)]
  · refine Rc.cor.mpr (fun i k j hc => ?_)
    have h1 := hc.rng
    have h2 := hc.jr h12 (by omega)
    rw [oA _ (by omega) (by omega) (by omega) (by omega), o9 _ (by omega), zL j (by omega) (by omega), splW_eq hd (hc.n7 h12 nd), ← hlv]
    exact Rc.cor.mp hR2 i k j hc
  · rw [zL j (by omega) (by omega), splW_o (by omega) (by omega) (by omega)]
  · rw [zO _ (by omega) (by omega), hsA, wr_v]
  · have e0 : r nx = s9 nx := by rw [zO _ (by omega) (by omega), hsA, wr_row (by omega)]
    have e1 : r (nx + 1) = s8 (nx + 1) := by rw [zO _ (by omega) (by omega), hsA, wr_row (by omega), hs9, wr_row (by omega)]
    have e4 : ∀ k, k < 6 → s8 (nx + 1) k = s4 (nx + 1) k := fun k hk => by rw [yk k (by omega), n7 _ (by omega)]
    have e5 : ∀ k, k < 5 → s4 (nx + 1) k = s2 (nx + 1) k := fun k hk => by rw [hs4, wr_o (by omega), hs3, wr_row (by omega)]
    have e5' : s4 (nx + 1) 5 = lv := by rw [hs4, wr_v]
    have cD' : ∀ g, g < 7 → s1 (A + 17 + (1 + g)) d = σ (A + 84 + 1) (230 + 8 * d + g) := fun g hg => by
      rw [mO _ (by omega) (by omega)]; exact hR.d.2 d hd g hg
    have ebs : 7880 + 206 * (m - sh60 m) = bs m := rfl
    unfold Bar
    rw [ebs]
    refine ⟨2, [d, nd], kS, Nat.le_refl _, ?_, ?_, h40, zw3, fun y hy => ?_, fun y hy => ?_, ?_, fun i y hiy => ?_, Or.inr ⟨Or.inl zw0, ?_⟩⟩
    · rw [e0, hs9, wr_o (by decide)]; exact u4
    · simp; omega
    · simp only [List.mem_cons, List.not_mem_nil, or_false] at hy
      rcases hy with rfl | rfl
      · exact Or.inl hd
      · exact Or.inr ⟨rfl, rfl⟩
    · rw [bit_is (Nat.mod_lt _ (by decide))]; exact (zbit y hy).symm
    · rw [if_pos rfl]
      exact ⟨hn, by rw [e0, hs9, wr_v], by simp⟩
    · have hi : (i = 0 ∧ y = d) ∨ (i = 1 ∧ y = nd) := by
        cases i with
        | zero => simp at hiy; exact Or.inl ⟨rfl, hiy.symm⟩
        | succ i =>
          cases i with
          | zero => simp at hiy; exact Or.inr ⟨rfl, hiy.symm⟩
          | succ i => simp at hiy
      rcases hi with ⟨rfl, rfl⟩ | ⟨rfl, rfl⟩
      · rw [e1]
        refine ⟨?_, ?_, fun _ => ⟨fun g hg => ?_, ?_, ?_, ?_, ?_, ?_⟩⟩
        · rw [e4 _ (by decide), e5 _ (by decide)]; exact q0
        · rw [e4 _ (by decide), zend _ (by omega), xd, ← hlv]; exact e5'
        · rw [e4 _ (by omega), e5 _ (by omega)]
          have : g = 0 ∨ g = 1 ∨ g = 2 ∨ g = 3 := by omega
          rcases this with rfl | rfl | rfl | rfl
          · exact (q1.trans (cD' 0 (by decide))).trans zd0.symm
          · exact (q2.trans (cD' 1 (by decide))).trans zd1.symm
          · exact (q3.trans (cD' 4 (by decide))).trans zd2.symm
          · exact (q4.trans (cD' 2 (by decide))).trans zd3.symm
        · rw [zd0]; exact g1
        · rw [zd1]; exact g2
        · rw [zd2]; exact g5
        · rw [zd3]; exact ⟨L, hL, g3⟩
        · rw [zd0, zd1]; exact g7 hop
      · rw [e1]
        refine ⟨y0, ?_, fun z => absurd z (by omega)⟩
        rw [zend _ (by omega), x2]
        exact y5.trans l7
    · rw [e0, hs9, wr_o (by decide), uJ 1 (by decide), n7 _ (by omega), n4, tJ 1 (by decide)]; exact m1'
