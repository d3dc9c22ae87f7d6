theorem hd_chain {m : Nat} {hd : Nat → Nat} {sp : Nat → Bool} (h : ∀ j, j + 1 < m → hd j + one? (sp j) ≤ hd (j + 1)) (j : Nat) : ∀ t, j + 1 + t < m → hd j + one? (sp j) ≤ hd (j + 1 + t)
  | 0, ht => h j ht
  | t + 1, ht => by
    have h1 := hd_chain h j t (by omega)
    have h2 := h (j + 1 + t) (by omega)
    rw [show j + 1 + (t + 1) = j + 1 + t + 1 by omega]
    omega
theorem st_undo (A b : Nat) : St_undo (Inv A b) A (A + 84) := by
  intro h hI
  obtain ⟨τ, σ, nx⟩ := h
  obtain ⟨n, nd, hG, hR, hB, hT, hBr, hF⟩ := hI.wd
  dsimp only at hG hR hB hT hBr hF
  obtain ⟨m, hd, sp, hm, em1, em2, q4, q5, q6⟩ := hBr
  have hnx : A + 95 ≤ nx := hI.2.2.1
  have h12 := hG.le12
  have h40 := hG.le40
  have hcd : σ (A + 17) 0 = nI nd := hR.d.1.trans hG.wd
  obtain ⟨i0, i5, i1, i2, S3, S4, k32⟩ := hI.grs
  have S1 : ShX1 τ (A + 32) := hI.s1.2.1.2.2.2.2.2.2.1
  show ∃ (r : Int32) (h1 h2 : Hp), X11_undo_f τ σ nx A = some (r, h1) ∧ ShX12 h1.1 (A + 84) ∧ ((X12_undo_f (A + 84) h1.2.1).bind fun p => some (p.1, ((h1.1, p.2, h1.2.2) : Hp))) = some (r, h2) ∧ Inv A b h2
  have hcl : ∀ r h1, (r = 0 ∨ r = 1) → X1_goBack_f τ σ nx (A + 32) (A + 17) (A + 6) = some (r, h1) → X11_undo_f τ σ nx A = some (r, h1) := by
    intro r h1 hr e
    obtain ⟨t, s, k⟩ := h1
    unfold X11_undo_f
    simp only [i0, i5, i1, i2, bsm]
    rw [chk_yes k32, e, bsm]
    exact if_pos hr
  have gc : gI τ σ 1 (A + 32) 0 = some (nI m) := by rw [gI_of S1.1 rfl]; exact congrArg some em1
  have em2' := em2
  by_cases c0 : m = 0
  · subst c0
    refine hI.noH (re := fun ρ => X12_undo_f (A + 84) ρ) (r := 0) (hcl _ _ (Or.inl rfl) ?_) ?_
    · unfold X1_goBack_f; rw [gc, bsm, if_neg (show ¬ (1 : Int32) ≤ nI 0 by decide)]
    · unfold X12_undo_f; rw [LW.2.2.2.2.2.2.2.2.2.2.2.2.2.2.2.2, bsm, em2, if_pos (show nI 0 = 0 from rfl)]
  obtain ⟨bb, z1, z2, z3, cap, ds, g1, g2, g3, g4, g5, g6, g7, g8, g9, g10, g11⟩ := q6 (m - 1) (by omega)
  have q5' := q5 (m - 1) (by omega)
  have hch : ∀ j, j + 1 < m → hd j + one? (sp j) ≤ hd (m - 1) := fun j hj => by
    have := hd_chain q4 j (m - 1 - (j + 1)) (by omega)
    rw [show j + 1 + (m - 1 - (j + 1)) = m - 1 by omega] at this
    exact this
  generalize hd (m - 1) = had at *
  generalize sp (m - 1) = spj at *
  obtain ⟨k, hk⟩ : ∃ k, k = 7880 + 206 * (m - 1) := ⟨_, rfl⟩
  rw [← hk] at g6 g8 g10 g11
  have hk7 : 7880 ≤ k := by omega
  have hk2 : k + 206 ≤ 20240 := by omega
  have hlt : ∀ d ∈ ds, d < nd := fun d hd => by
    rcases g7 d hd with h | ⟨h1, h2⟩
    · omega
    · rw [h1] at q5'; have : one? true = 1 := rfl; omega
  have hl : ds.length ≤ 40 := Nat.le_trans (nodup_le g4 hlt) h40
  have hbbn : bb + 2 ≤ nx := z2.2.1
  have em1' : σ (A + 32) 0 = nI m := em1
  have ldr : ldrD τ 0 (A + 33) (nI m - 1) = some (some bb) := by
    have : nI m - 1 = nI (m - 1) := pk_sub (b := 1) (by omega)
    rw [this, ldrD_of (hI.s1.2.1.2.2.2.2.2.2.1.2) (by omega) (by decide)]
    exact congrArg some z1
  have n1m : ¬ (1 : Int32) = -1 := by decide
  -- can it?
  have hstart : ∀ X : Option (Int32 × Hp), (X0_canGoBack_f bb (6 * cap) (A + 17) σ).bind (fun v13 => if v13 = 0 then (some (0, (τ, σ, nx))) else (chk (ShX4 τ (A + 6)) ((X0_goBack_f bb (6 * cap) (A + 17) (A + 6) σ).bind fun s17 => (gI τ s17 1 (A + 32) 0).bind fun v19 => (dI τ s17 1 (A + 32) 0 (v19 - 1)).bind fun s21 => some (1, (τ, s21, nx))))) = X → X1_goBack_f τ σ nx (A + 32) (A + 17) (A + 6) = X := by
    intro X hX
    unfold X1_goBack_f
    rw [gc, bsm, if_pos (show (1 : Int32) ≤ nI m from nI_le (a := 1) (by omega) (by omega)), gRs_of S1.1 rfl, bsm, bsm, show A + 32 + 1 = A + 33 from rfl, ldr, bsm]
    show chk _ _ = X
    rw [tl_of g1, chk_yes g1, chk_yes S3]
    exact hX
  obtain ⟨yy, hyy⟩ : ∃ yy : Int32, yy = if spj = true then 1 else 0 := ⟨_, rfl⟩
  have e206 : (7880 + (206 * (nI m - 1)) : Int32) = nI k := by
    have : nI m - 1 = nI (m - 1) := pk_sub (b := 1) (by omega)
    rw [this, show (206 : Int32) = nI 206 from rfl, pk_mul, show (7880 : Int32) = nI 7880 from rfl, nI_add, hk]
  have hrs : ∀ ρ : Sig, ρ (A + 84 + 1) = σ (A + 84 + 1) → X12_undo_f (A + 84) ρ = if spj = true ∧ nd ≠ had + 1 then some (0, ρ) else X12_undo_b82 (A + 84) FU (nI k) (nI had) yy 0 ρ := by
    intro ρ hρ
    have b3 : nI k + 3 = nI (k + 3) := nI_add k 3
    unfold X12_undo_f
    rw [LW.2.2.2.2.2.2.2.2.2.2.2.2.2.2.2.2, bsm, hρ, em2, if_neg (show ¬ nI m = 0 from fun z => c0 (nI_inj (b := 0) (by omega) (by decide) z)), bsm, e206, b3, ldn (by omega) (by decide), bsm, g6]
    cases hs : spj with
    | true =>
      rw [hs] at g9 hyy
      obtain ⟨u1, u2, u3⟩ := g9
      rw [re_isIt (ds := ds) u1 hk2 (by rw [hρ]; exact g8 had u1), bsm, if_pos u3, if_neg n10, if_neg (show ¬ (40 : Int32) ≤ nI had from nI_ge (b := 40) u1 (by decide))]
      unfold X12_undo_b59
      rw [if_neg n10, LW.2.2.2.2.2.2.2.2.2.2.1, bsm, hρ, hG.wd, nI_s, hyy, if_pos rfl]
      by_cases c : nd = had + 1
      · rw [if_pos (by rw [c]), if_neg (fun z => z.2 c)]
      · rw [if_neg (fun z => c (nI_inj (by omega) (by omega) z)), if_pos ⟨rfl, c⟩]
    | false =>
      rw [hs] at g9 hyy
      obtain ⟨u1, u2⟩ := g9
      rw [if_neg (show ¬ (false = true ∧ nd ≠ had + 1) from fun z => Bool.false_ne_true z.1), hyy, if_neg Bool.false_ne_true]
      have b58 : X12_undo_b58 (A + 84) (nI k) (nI had) ρ = X12_undo_b82 (A + 84) FU (nI k) (nI had) 0 0 ρ := by
        unfold X12_undo_b58 X12_undo_b59; rw [if_pos rfl]
      rcases Nat.lt_or_ge had 40 with c | c
      · rw [re_isIt (ds := ds) c hk2 (by rw [hρ]; exact g8 had c), bsm, if_neg u2, if_pos rfl, b58]
      · obtain rfl : had = 40 := by omega
        obtain ⟨v, hv⟩ := re_isIt40 (B := A + 84) (ρ := ρ) hk2
        rw [hv, bsm, b58, if_pos (show (40 : Int32) ≤ nI 40 by decide)]
        split <;> rfl
  have e5 : (spj = true → σ bb 5 = nI had ∧ had < 40) ∧ (spj = false → σ bb 5 = -1) := by
    constructor
    · intro hs; rw [hs] at g9; exact ⟨g9.2.1, g9.1⟩
    · intro hs; rw [hs] at g9; exact g9.1
  have s1' : ∀ hs : spj = true, had + 1 ≤ nd := fun hs => by rw [hs] at q5'; exact q5'
  have ecan : X0_canGoBack_f bb (6 * cap) (A + 17) σ = if spj = true ∧ nd ≠ had + 1 then some 0 else X0_canGoBack_b25 bb (6 * cap) (A + 17) σ FU 0 := by
    unfold X0_canGoBack_f
    cases hs : spj with
    | false => rw [if_pos (e5.2 hs), if_neg (fun z => Bool.false_ne_true z.1)]
    | true =>
      have h1 := s1' hs
      have : nI nd - 1 = nI (nd - 1) := pk_sub (b := 1) (by omega)
      rw [(e5.1 hs).1, if_neg (nI_m1 (e5.1 hs).2), hcd, this]
      by_cases c : nd = had + 1
      · rw [if_pos (by rw [c]; rfl), if_neg (fun z => z.2 c)]
      · rw [if_neg (fun z => c (by have := nI_inj (by omega) (by omega) z; omega)), if_pos ⟨rfl, c⟩]
  by_cases cb : spj = true ∧ nd ≠ had + 1
  · refine hI.noH (re := fun ρ => X12_undo_f (A + 84) ρ) (r := 0) (hcl _ _ (Or.inl rfl) (hstart _ ?_)) ?_
    · rw [ecan, if_pos cb, bsm, if_pos rfl]
    · rw [hrs σ rfl, if_pos cb]
  obtain ⟨can1, can0⟩ := cl_can (P := A + 17) (b := bb) (N := 6 * cap) (k := k) (w := σ (A + 84 + 1)) hl (by omega) g3 h40 hcd hlt (fun d hd => hR.d.2 d hd 2 (by decide)) (fun i d hid => ⟨(g10 i d hid).1, (g10 i d hid).2.1⟩)
  have rcan : ∀ ρ : Sig, ρ (A + 84 + 1) = σ (A + 84 + 1) → _ := fun ρ hρ => re_can (B := A + 84) (k := k) (nd := nd) (x2 := nI had) (x3 := yy) (ρ := ρ) (ds := ds) hk7 hk2 h40 (by rw [hρ]; exact hG.wd) hlt (by rw [hρ]; exact g8)
  by_cases cs : Still (σ (A + 84 + 1)) k ds
  rotate_left
  · refine hI.noH (re := fun ρ => X12_undo_f (A + 84) ρ) (r := 0) (hcl _ _ (Or.inl rfl) (hstart _ ?_)) ?_
    · rw [ecan, if_neg cb, can0 cs, bsm, if_pos rfl]
    · rw [hrs σ rfl, if_neg cb]; exact (rcan σ rfl).2 cs
  -- the class
  obtain ⟨s, y1, y2, y3, y4⟩ := cl_back (P := A + 17) (Q := A + 6) (b := bb) (N := 6 * cap) (nd := nd) (by omega) g4 hl (by omega) g3 h40 hcd hlt (fun i d hid => (g10 i d hid).1)
  obtain ⟨nd', hnd'⟩ : ∃ nd', nd' = if spj = true then had else nd := ⟨_, rfl⟩
  have hndle : nd' ≤ nd := by
    rw [hnd']; split
    · next hs => have := s1' hs; omega
    · omega
  have hdh : ∀ d ∈ ds, d < nd' → d < had := fun d hdm hlt' => by
    rcases g7 d hdm with h | ⟨h1, h2⟩
    · exact h
    · rw [hnd', if_pos h1] at hlt'; exact hlt'
  obtain ⟨s1, hs1⟩ : ∃ s1, s1 = wr s (A + 17) 0 (nI nd') := ⟨_, rfl⟩
  have o1 : ∀ a, (a < A + 17 ∨ A + 22 < a) → s1 a = σ a := fun a ha => by rw [hs1, wr_row (by omega)]; exact y2 a (by omega)
  have hgo : X0_goBack_f bb (6 * cap) (A + 17) (A + 6) σ = X0_goBack_b124 bb (6 * cap) (A + 17) (A + 6) s1 := by
    rw [y1]
    unfold ungT
    rw [y2 bb (by omega), y2 (A + 17) (by omega), hcd]
    cases hs : spj with
    | false =>
      rw [if_pos (e5.2 hs), hs1, wr_id (by rw [y2 (A + 17) (by omega), hcd, hnd', hs]; rfl)]
    | true =>
      have h1 := s1' hs
      have c : nd = had + 1 := Classical.byContradiction (fun c => cb ⟨hs, c⟩)
      have : nI nd - 1 = nI (nd - 1) := pk_sub (b := 1) (by omega)
      rw [(e5.1 hs).1, if_neg (nI_m1 (e5.1 hs).2), this]
      unfold pI
      rw [bsm, hs1, hnd', hs, if_pos rfl, show nd - 1 = had by omega]
  obtain ⟨o, hpay, hox⟩ : ∃ o, PayOk o n (σ bb 1) (σ bb 0) (σ (A + 84 + 1) (k + 1)) (σ (A + 84 + 1) k) ∧ (o = none ∨ σ bb 2 = σ (A + 84 + 1) (k + 2)) := by
    rcases g11 with ⟨p, q, h1, h2, h3, h4, h5, h6, h7⟩ | ⟨h1, h2⟩
    · exact ⟨some (q, p), Or.inl ⟨q, p, rfl, h2, h1, h6, h5, h4, h3⟩, Or.inr h7⟩
    · exact ⟨none, Or.inr ⟨rfl, h1.symm, Or.inl h2⟩, Or.inl rfl⟩
  have ho := hpay.ok
  obtain ⟨x, hx⟩ : ∃ x, x = σ (A + 84 + 1) (k + 2) := ⟨_, rfl⟩
  have hpx : ∀ t : Sig, payS (A + 6) o (σ bb 2) t = payS (A + 6) o x t := fun t => by
    rcases hox with e | e
    · rw [e]; rfl
    · rw [e, hx]
  obtain ⟨s2, hs2⟩ : ∃ s2, s2 = payS (A + 6) o x s1 := ⟨_, rfl⟩
  have hpC : X0_goBack_b124 bb (6 * cap) (A + 17) (A + 6) s1 = some s2 := by
    unfold X0_goBack_b124
    rw [o1 bb (by omega), pay_C (n := n) h12 (by rw [o1 _ (by omega)]; exact hR.p.1.trans hG.wn) hpay, bsm, hpx, hs2]
  obtain ⟨s3, hs3⟩ : ∃ s3, s3 = wr s2 (A + 32) 0 (nI (m - 1)) := ⟨_, rfl⟩
  have o2 : ∀ a, (a < A + 17 ∨ A + 22 < a) → a ≠ A + 12 → s2 a = σ a := fun a h1 h2 => by rw [hs2, payS_ne (by omega)]; exact o1 a h1
  have o3 : ∀ a, (a < A + 17 ∨ A + 22 < a) → a ≠ A + 12 → a ≠ A + 32 → s3 a = σ a := fun a h1 h2 h3 => by rw [hs3, wr_row h3]; exact o2 a h1 h2
  have hcl1 : X1_goBack_f τ σ nx (A + 32) (A + 17) (A + 6) = some (1, (τ, s3, nx)) := by
    refine hstart _ ?_
    have e1 : gI τ s2 1 (A + 32) 0 = some (nI m) := by rw [gI_of S1.1 rfl, o2 _ (by omega) (by omega)]; exact congrArg some em1
    have e2 : nI m - 1 = nI (m - 1) := pk_sub (b := 1) (by omega)
    rw [ecan, if_neg cb, can1 cs, bsm, if_neg n10, chk_yes S4, hgo, hpC, bsm, e1, bsm, e2, dI_of S1.1 rfl, bsm, hs3]
  -- the reference
  have e85 : s3 (A + 84 + 1) = σ (A + 84 + 1) := o3 _ (by omega) (by omega) (by omega)
  obtain ⟨r, v1, v2, v3, v4⟩ := re_goes (B := A + 84) (k := k) (had := had) (x3 := yy) (ρ := s3) (ds := ds) hk7 hk2 g5 (by rw [e85]; exact g8)
  rw [e85] at v3 v4
  obtain ⟨r1, hr1⟩ : ∃ r1, r1 = wr r (A + 84 + 1) 10 (nI nd') := ⟨_, rfl⟩
  have hun : undT (A + 84) (nI k) yy r = X12_undo_b251 (A + 84) (nI k) r1 := by
    unfold undT
    rw [hyy]
    cases hs : spj with
    | false =>
      rw [if_neg Bool.false_ne_true, if_pos rfl, hr1, wr_id (by rw [v3 10 (by omega), hG.wd, hnd', hs]; rfl)]
    | true =>
      have h1 := s1' hs
      have c : nd = had + 1 := Classical.byContradiction (fun c => cb ⟨hs, c⟩)
      have : nI nd - 1 = nI (nd - 1) := pk_sub (b := 1) (by omega)
      rw [if_pos rfl, if_neg n10, LW.2.2.2.2.2.2.2.2.2.2.1, bsm, v3 10 (by omega), hG.wd, this, SW.2.2.2.2.2.2.1, bsm, hr1, hnd', hs, if_pos rfl, show nd - 1 = had by omega]
  have w1 : ∀ j, j ≠ 10 → (j < 230 ∨ 550 ≤ j) → r1 (A + 84 + 1) j = σ (A + 84 + 1) j := fun j h1 h2 => by rw [hr1, wr_o h1]; exact v3 j h2
  obtain ⟨r2, p1, pW, pO⟩ := pay_R (B := A + 84) (ρ := r1) (x := x) h12 hpay
  have w2 : ∀ j, (j < 90 ∨ 190 ≤ j) → r2 (A + 84 + 1) j = r1 (A + 84 + 1) j := fun j hj => by rw [pW]; exact payW_ne ho (fun p hp => by omega)
  obtain ⟨r3, hr3⟩ : ∃ r3, r3 = wr r2 (A + 84 + 1) 16 (nI (m - 1)) := ⟨_, rfl⟩
  have hre1 : X12_undo_f (A + 84) s3 = some (1, r3) := by
    rw [hrs _ e85, if_neg cb, (rcan s3 e85).1 (by rw [e85]; exact cs), v1, hun]
    unfold X12_undo_b251
    have j1 : nI k + 1 = nI (k + 1) := nI_add k 1
    have j0 : nI k + 0 = nI k := Int32.add_zero _
    have j2 : nI k + 2 = nI (k + 2) := nI_add k 2
    have e2 : nI m - 1 = nI (m - 1) := pk_sub (b := 1) (by omega)
    rw [j1, j0, j2, ldn (by omega) (by decide), bsm, ldn (by omega) (by decide), bsm, ldn (by omega) (by decide), bsm, w1 _ (by omega) (by omega), w1 _ (by omega) (by omega), w1 _ (by omega) (by omega), ← hx, p1, bsm, LW.2.2.2.2.2.2.2.2.2.2.2.2.2.2.2.2, bsm, w2 16 (by omega), w1 16 (by omega) (by omega), em2, e2, SW.2.2.2.2.2.2.2.2.2.2.2.2, bsm, hr3]
  refine Inv.yesH (re := fun ρ => X12_undo_f (A + 84) ρ) (h1 := (τ, s3, nx)) (s := r3) (hcl _ _ (Or.inr rfl) hcl1) hI.s2 hre1 ?_
  dsimp only
  -- the row before the coins
  have f1 : ∀ d f, d < nd' → f < 8 → r1 (A + 84 + 1) (230 + 8 * d + f) = if d ∈ ds then bk (σ (A + 84 + 1)) k d f else σ (A + 84 + 1) (230 + 8 * d + f) := fun d f h1 h2 => by
    rw [hr1, wr_o (by omega), v4 d f (by omega) h2]
    by_cases c : d ∈ ds
    · rw [if_pos c, if_pos ⟨hdh d c h1, c⟩]
    · rw [if_neg c, if_neg (fun z => c z.2)]
  have hD1 : RcD s1 (A + 5) (r1 (A + 84 + 1)) nd' := by
    refine ⟨by rw [show A + 5 + 12 = A + 17 from rfl, hs1, wr_v, hr1, wr_v], fun d hdl f hf => ?_⟩
    rw [f1 d f hdl (by omega), show A + 5 + 12 = A + 17 from rfl, hs1, wr_row (by omega)]
    have hold : σ (A + 17 + (1 + f)) d = σ (A + 84 + 1) (230 + 8 * d + f) := hR.d.2 d (by omega) f hf
    by_cases c : d ∈ ds
    · rw [if_pos c]
      obtain ⟨i, hi⟩ := List.mem_iff_getElem?.mp c
      obtain ⟨a1, a2, a3, a4⟩ := y4 i d (List.getElem?_eq_some_iff.mp hi).1 hi
      obtain ⟨-, -, gg⟩ := g10 i d hi
      have gf := (gg (hdh d c hdl)).1
      have : f = 0 ∨ f = 1 ∨ f = 2 ∨ f = 4 ∨ f = 3 ∨ f = 5 ∨ f = 6 := by omega
      unfold bk
      rcases this with rfl | rfl | rfl | rfl | rfl | rfl | rfl
      · rw [if_pos rfl]; exact a1.trans (gf 0 (by decide))
      · rw [if_neg (by decide), if_pos rfl]; exact a2.trans (gf 1 (by decide))
      · rw [if_neg (by decide), if_neg (by decide), if_neg (by decide), if_pos rfl]; exact a4.trans (gf 3 (by decide))
      · rw [if_neg (by decide), if_neg (by decide), if_pos rfl]; exact a3.trans (gf 2 (by decide))
      · rw [if_neg (by decide), if_neg (by decide), if_neg (by decide), if_neg (by decide), y2 _ (by omega)]; exact hold
      · rw [if_neg (by decide), if_neg (by decide), if_neg (by decide), if_neg (by decide), y2 _ (by omega)]; exact hold
      · rw [if_neg (by decide), if_neg (by decide), if_neg (by decide), if_neg (by decide), y2 _ (by omega)]; exact hold
    · rw [if_neg c, y3 d f hf (fun i' hi' z => c (List.mem_of_getElem? z))]; exact hold
  have hG1 : Rg (r1 (A + 84 + 1)) n nd' := by
    refine ⟨hG.1.fr (fun j hj => w1 j (by omega) (by omega)), ⟨by omega, by rw [hr1, wr_v], fun d hdl => ?_⟩, hG.2.2.fr (Nat.le_refl _) (fun j hj => w1 j (by omega) (by omega))⟩
    have ff := fun f hf => f1 d f hdl hf
    have ff0 : r1 (A + 84 + 1) (230 + 8 * d) = if d ∈ ds then bk (σ (A + 84 + 1)) k d 0 else σ (A + 84 + 1) (230 + 8 * d) := ff 0 (by decide)
    rw [ff0, ff 1 (by decide), ff 2 (by decide), ff 3 (by decide), ff 4 (by decide), ff 5 (by decide)]
    obtain ⟨d1, d2, d3, d4, d5, d6, d7⟩ := hG.dok (d := d) (by omega)
    by_cases c : d ∈ ds
    · simp only [if_pos c]
      obtain ⟨i, hi⟩ := List.mem_iff_getElem?.mp c
      obtain ⟨-, -, gg⟩ := g10 i d hi
      obtain ⟨-, b1, b2, b3, b4, b5⟩ := gg (hdh d c hdl)
      exact ⟨b1, b2, b4, d4, b3, d6, fun _ => b5⟩
    · simp only [if_neg c]
      exact ⟨d1, d2, d3, d4, d5, d6, d7⟩
  have hR1 : Rc s1 (A + 5) (r1 (A + 84 + 1)) n nd' := ⟨hR.1.fr hG.1.1 (fun i h1 h2 => o1 _ (by omega)) (fun j hj => w1 j (by omega) (by omega)), hD1, hR.2.2.1.fr (fun i h1 h2 => o1 _ (by omega)) (fun j hj => w1 j (by omega) (by omega)), hR.2.2.2.fr (o1 _ (by omega)) (fun j h1 h2 => w1 j (by omega) (by omega))⟩
  have hR2 := pay_rc (x := x) h12 (by omega) hR1 ho
  have w3 : ∀ j, j ≠ 16 → r3 (A + 84 + 1) j = payW o x (r1 (A + 84 + 1)) j := fun j hj => by rw [hr3, wr_o hj, pW]
  have O3 : ∀ a, a ≠ A + 84 + 1 → r3 a = s3 a := fun a ha => by
    rw [hr3, wr_row ha, pO a ha, hr1, wr_row ha, v2 a ha]
  have W3 : ∀ j, j ≠ 10 → j ≠ 16 → (j < 90 ∨ (190 ≤ j ∧ j < 230) ∨ 550 ≤ j) → r3 (A + 84 + 1) j = σ (A + 84 + 1) j := fun j h1 h2 h3 => by
    rw [w3 j h2, payW_ne ho (fun p hp => by omega)]; exact w1 j h1 (by omega)
  have hag : agree A (rfld τ A 2) σ r3 := fun a ha _ => by rw [O3 a (by omega)]; exact o3 a (by omega) (by omega) (by omega)
  refine hI.go1 (fun a h1 h2 _ _ _ _ => by rw [O3 a (by omega)]; exact o3 a (by omega) (by omega) (by omega)) ?_
  refine ⟨n, nd', (hG1.payW (x := x) ho).fr (fun j hj => w3 j (by omega)), ?_, ?_, hT.fr hag (fun j h1 h2 => W3 j (by omega) (by omega) (by omega)), ⟨m - 1, hd, sp, by omega, ?_, ?_, fun j hj => q4 j (by omega), fun j hj => ?_, fun j hj => ?_⟩, hF.fr (W3 12 (by omega) (by omega) (by omega)) (W3 13 (by omega) (by omega) (by omega))⟩
  · refine Rc.cor.mpr (fun i k j hc => ?_)
    have h1 := hc.rng
    have h2 := hc.jr h12 (by omega)
    rw [O3 _ (by omega), hs3, wr_row (by omega), w3 j (by omega), hs2]
    exact Rc.cor.mp hR2 i k j hc
  · exact hB.fr2 (by rw [O3 _ (by omega)]; exact o3 _ (by omega) (by omega) (by omega)) (by rw [O3 _ (by omega)]; exact o3 _ (by omega) (by omega) (by omega)) (fun j hj => W3 j (by omega) (by omega) (by omega))
  · rw [O3 _ (by omega), hs3]; exact wr_v
  · rw [hr3, wr_v]
  · rw [hnd']
    split
    · exact hch j (by omega)
    · exact q5 j (by omega)
  · obtain ⟨b', u1, u2, u3, u4⟩ := q6 j (by omega)
    have hb' : b' + 2 ≤ nx := u2.2.1
    exact ⟨b', u1, u2, u3, u4.fr (by omega) (fun i hi => by rw [O3 _ (by omega)]; exact o3 _ (by omega) (by omega) (by omega)) (fun i h1 h2 => W3 i (by omega) (by omega) (by omega)) (Nat.le_refl _)⟩
