theorem st_inherit (A b : Nat) : St_inherit (Inv A b) A (A + 84) := by
  intro h v1 v2 hI
  obtain ⟨τ, σ, nx⟩ := h
  obtain ⟨n, nd, hG, hR, hB, hT, hBr, -⟩ := hI.wd
  dsimp only at hG hR hB hT hBr
  obtain ⟨m, -, -, hm, em1, em2, -⟩ := hBr
  have hnx : A + 95 ≤ nx := hI.2.2.1
  have h12 := hG.le12
  have h40 := hG.le40
  have hc : σ (A + 6) 0 = nI n := hR.p.1.trans hG.wn
  obtain ⟨i0, i5, i1, i2, S3, S4, k32⟩ := hI.grs
  show ∃ (r : Int32) (h1 h2 : Hp), X11_inherit_f τ σ nx A v1 v2 = some (r, h1) ∧ ShX12 h1.1 (A + 84) ∧ ((X12_inherit_f (A + 84) v1 v2 h1.2.1).bind fun p => some (p.1, ((h1.1, p.2, h1.2.2) : Hp))) = some (r, h2) ∧ Inv A b h2
  rcases oneOf v1 n with ⟨p, hp, rfl⟩ | ho
  rotate_left
  · refine hI.noH (re := fun ρ => X12_inherit_f (A + 84) v1 v2 ρ) (r := -1) ?_ ?_
    · unfold X11_inherit_f; rw [i0, bsm, i2, bsm, chk_yes S4, has4_out h12 hc ho, bsm, if_pos rfl]
    · unfold X12_inherit_f; rw [re_isOne_out h12 hG.wn ho, bsm, if_pos rfl]
  rcases oneOf v2 n with ⟨q, hq, rfl⟩ | ho
  rotate_left
  · refine hI.noH (re := fun ρ => X12_inherit_f (A + 84) (nI p) v2 ρ) (r := -1) ?_ ?_
    · unfold X11_inherit_f; simp only [i0, i2, i5, i1, bsm]; rw [chk_yes S4, has4_in h12 hc hp, bsm, if_neg n10, chk_yes S4, has4_out h12 hc ho, bsm, if_pos rfl]
    · unfold X12_inherit_f; rw [re_isOne_in h12 hG.wn hp, bsm, if_neg n10, re_isOne_out h12 hG.wn ho, bsm, if_pos rfl]
  by_cases e : nI p = nI q
  · refine hI.noH (re := fun ρ => X12_inherit_f (A + 84) (nI p) (nI q) ρ) (r := -1) ?_ ?_
    · unfold X11_inherit_f; simp only [i0, i2, i5, i1, bsm]; rw [chk_yes S4, has4_in h12 hc hp, bsm, if_neg n10, chk_yes S4, has4_in h12 hc hq, bsm, if_neg n10, if_pos e]
    · unfold X12_inherit_f; rw [re_isOne_in h12 hG.wn hp, bsm, if_neg n10, re_isOne_in h12 hG.wn hq, bsm, if_neg n10, if_pos e]
  have hpq : p ≠ q := fun z => e (by rw [z])
  have hcl : ∀ r h1, X1_handDown_f τ σ nx (A + 32) (A + 17) (nI p) (nI q) = some (r, h1) → X11_inherit_f τ σ nx A (nI p) (nI q) = some (r, h1) := by
    intro r h1 z
    obtain ⟨t, s, k⟩ := h1
    unfold X11_inherit_f
    simp only [i0, i2, i5, i1, bsm]; rw [chk_yes S4, has4_in h12 hc hp, bsm, if_neg n10, chk_yes S4, has4_in h12 hc hq, bsm, if_neg n10, if_neg e, chk_yes k32, z, bsm]
  have hre : ∀ ρ : Sig, ρ (A + 84 + 1) = σ (A + 84 + 1) → X12_inherit_f (A + 84) (nI p) (nI q) ρ = inhT (A + 84) (nI p) (nI q) (nI (dsL (σ (A + 84 + 1)) p nd).length) ρ := by
    intro ρ hρ
    unfold X12_inherit_f
    rw [re_isOne_in h12 (by rw [hρ]; exact hG.wn) hp, bsm, if_neg n10, re_isOne_in h12 (by rw [hρ]; exact hG.wn) hq, bsm, if_neg n10, if_neg e, re_inhc (by rw [hρ]; exact hG), hρ]
  have hcnt : X3_openCountWith_f (A + 17) (nI p) σ = some (nI (dsL (σ (A + 84 + 1)) p nd).length) := cl_count hG hR
  have hlen : (dsL (σ (A + 84 + 1)) p nd).length ≤ nd := dsL_len
  by_cases c0 : (dsL (σ (A + 84 + 1)) p nd).length = 0
  · refine hI.noH (re := fun ρ => X12_inherit_f (A + 84) (nI p) (nI q) ρ) (r := 0) (hcl _ _ ?_) ?_
    · unfold X1_handDown_f; rw [chk_yes S3, hcnt, bsm, c0, if_pos (show nI 0 = 0 from rfl)]
    · rw [hre σ rfl]; unfold inhT; rw [c0, if_pos (show nI 0 = 0 from rfl)]
  have c0' : ¬ nI (dsL (σ (A + 84 + 1)) p nd).length = 0 := fun z => c0 (nI_inj (b := 0) (by omega) (by decide) z)
  -- the class
  obtain ⟨τ1, s1, m1, mS, mT, m0, m1', m2', m4, m5, mO⟩ := make0 (τ := τ) (σ := σ) (nx := nx) (cap := (dsL (σ (A + 84 + 1)) p nd).length) (x1 := -1) (x2 := -1) (x3 := 0) (by omega)
  have hS3 : ShX3 τ1 (A + 17) := ShX3.same (P := A + 17) S3 (fun x _ _ => mT x (by omega) (by omega))
  obtain ⟨s2, l1, k1, k2, k3, k4, k5⟩ := cl_loop (x4 := nI (dsL (σ (A + 84 + 1)) p nd).length) (p := p) (q := q) (σ := σ) (s1 := s1) hnx hG mS hS3 s1 ⟨hR.fr (fun i hi => mO _ (by omega) (by omega)), fun a h1 h2 => mO a (by omega) (by omega), m4, fun j hj => rfl, fun i e hie => by cases hie⟩
  obtain ⟨τ2, j1, jO, j33, jj, jm, job, jS, j12, j32⟩ := mk_keep (s4 := s2) hI mS mT hm (by rw [k2 _ (by omega) (by omega)]; exact em1)
  obtain ⟨sA, hsA⟩ : ∃ sA, sA = wr s2 (A + 32) 0 (nI (m - sh60 m + 1)) := ⟨_, rfl⟩
  rw [← hsA] at j1
  have e85 : sA (A + 84 + 1) = σ (A + 84 + 1) := by rw [hsA, wr_row (by omega)]; exact k2 _ (by omega) (by omega)
  have hc1 : X1_handDown_f τ σ nx (A + 32) (A + 17) (nI p) (nI q) = some (nI (dsL (σ (A + 84 + 1)) p nd).length, (τ2, sA, nx + 2)) := by
    unfold X1_handDown_f
    rw [chk_yes S3, hcnt, bsm, if_neg c0', m1, bsm]
    dsimp only
    rw [l1, chk_yes j32, j1, bsm]
  -- the reference
  have hbs := bs_le hm
  have hb7 : 7880 ≤ bs m := by unfold bs; omega
  obtain ⟨r1, b1, b22, bB, bO, b16, bL, bOld, w0, w1, w2, w3, w4, w5, cD⟩ := re_begins (B := A + 84) (ρ := sA) (payer := -1) (payee := -1) (price := 0) hm (by rw [e85]; exact em2) h40 (by rw [e85]; exact hG.wd)
  rw [e85] at bL bOld cD
  have p1 : X12_pays_f (A + 84) (-1) (-1) 0 r1 = some r1 := by unfold X12_pays_f; rw [if_pos rfl]
  obtain ⟨r2, z1, x1, x2, x3, x4⟩ := re_loop (B := A + 84) (k := bs m) (p := p) (q := q) (w := σ (A + 84 + 1)) (r1 := r1) (x3 := nI (dsL (σ (A + 84 + 1)) p nd).length) hG hb7 hbs b22 r1 ⟨fun _ _ => rfl, fun _ _ _ _ => rfl, bL, fun e he => by
    have : r1 (A + 84 + 1) (bs m + (if e < 20 then 4 else 5)) = 0 := by
      split
      · exact w4
      · exact w5
    rw [this, bt_0]; unfold dsL; simp⟩
  obtain ⟨r3, f1, fO, f16, fL, fD⟩ := re_ends (B := A + 84) (ρ := r2) (nd := nd) (k := bs m) (m' := m - sh60 m) hb7 hbs h40 (by rw [x3 10 (by omega) (by omega), hW_o (by omega)]; exact hG.wd) (by rw [x2 16 (by omega) (by omega) (by omega)]; exact b16) (by rw [x1 _ (by omega)]; exact b22)
  refine Inv.yesH (re := fun ρ => X12_inherit_f (A + 84) (nI p) (nI q) ρ) (h1 := (τ2, sA, nx + 2)) (s := r3) (hcl _ _ hc1) j12 ?_ ?_
  · dsimp only
    rw [hre _ e85]
    unfold inhT
    rw [if_neg c0', b1, p1, bsm, bsm, z1, f1, bsm]
  dsimp only
  have hG' := hW_rg hG hp hq hpq (y := nd) (Nat.le_refl _)
  have key : ∀ j, j < 7880 → j ≠ 16 → r3 (A + 84 + 1) j = hW (σ (A + 84 + 1)) p q nd j := fun j h1 h2 => by
    rw [fL j h2 (by omega)]; exact x3 j h1 h2
  have oA : ∀ a, a ≠ A + 84 → a ≠ A + 84 + 1 → r3 a = sA a := fun a h3 h4 => by rw [fO a h4, x1 a h4, bO a h3 h4]
  have k45 : ∀ y : Nat, (if y < 20 then 4 else 5) = 4 ∨ (if y < 20 then 4 else 5) = 5 := fun y => by split <;> omega
  have hi : ∀ j, bs m ≤ j → j < bs m + 166 → j ≠ bs m + 4 → j ≠ bs m + 5 → r3 (A + 84 + 1) j = r1 (A + 84 + 1) j := fun j h1 h2 h3 h4 => by
    rw [fL j (by omega) (by omega)]; exact x2 j (by omega) h3 h4
  refine hI.bar (nd' := nd) (N := 0) (sp := false) hG (hG'.fr (fun j hj => key j (by omega) (by omega))) (Nat.le_refl _) hm em2 jO j33 jj jm job (fun a h1 h2 h3 h4 h5 => ?_) (fun j hj => ?_) ?_ (fun j hj => ?_) f16 ?_ (fun j i h1 h2 => ?_) ?_
  · rw [oA a h3 (by omega), hsA, wr_row h2]; exact k2 a h5 (by omega)
  · rw [fO _ (by omega), x1 _ (by omega), bB j hj, hsA, wr_row (by omega), k2 _ (by omega) (by omega)]
  · refine Rc.cor.mpr (fun i k j hc => ?_)
    have h1 := hc.rng
    have h2 := hc.jr h12 h40
    rw [oA _ (by omega) (by omega), hsA, wr_row (by omega), key j (by omega) (by omega)]
    exact Rc.cor.mp k1 i k j hc
  · rw [key j (by omega) (by omega)]; exact hW_o (by omega)
  · rw [oA _ (by omega) (by omega), hsA, wr_v]
  · have : 7880 + 206 * j + i < bs m := by unfold bs; omega
    rw [fL _ (by omega) (by omega), x2 _ (by omega) (by omega) (by omega)]; exact bOld j i h1 h2
  · have e0 : r3 nx = s2 nx := by rw [oA _ (by omega) (by omega), hsA, wr_row (by omega)]
    have e1 : r3 (nx + 1) = s2 (nx + 1) := by rw [oA _ (by omega) (by omega), hsA, wr_row (by omega)]
    have ebs : 7880 + 206 * (m - sh60 m) = bs m := rfl
    unfold Bar
    rw [ebs]
    refine ⟨_, dsL (σ (A + 84 + 1)) p nd, jS, Nat.le_refl _, by rw [e0]; exact k3, dsL_nodup, h40, ?_, fun y hy => Or.inl (dsL_mem hy).1, fun y hy => ?_, ?_, fun i y hiy => ?_, Or.inr ⟨Or.inl ?_, ?_⟩⟩
    · rw [hi _ (by omega) (by omega) (by omega) (by omega)]; exact w3
    · rw [bit_is (Nat.mod_lt _ (by decide)), fL _ (by have := k45 y; omega) (by have := k45 y; omega)]; exact (x4 y hy).symm
    · rw [if_neg Bool.false_ne_true, e0, k4 5 (by decide)]
      exact ⟨m5, fun z => absurd (dsL_mem z).1 (by omega)⟩
    · obtain ⟨q0, q1, q2, q3, q4, q5⟩ := k5 i y hiy
      obtain ⟨hy, hyw⟩ := dsL_mem (List.mem_of_getElem? hiy)
      obtain ⟨g1, g2, g3, g4, g5, g6, g7⟩ := hG.dok hy
      obtain ⟨a0, a1, a2, a3⟩ := cD y hy
      have u0 : r3 (A + 84 + 1) (bs m + 6 + 4 * y) = σ (A + 84 + 1) (230 + 8 * y) := by rw [hi _ (by omega) (by omega) (by omega) (by omega)]; exact a0
      have u1 : r3 (A + 84 + 1) (bs m + 6 + 4 * y + 1) = σ (A + 84 + 1) (230 + 8 * y + 1) := by rw [hi _ (by omega) (by omega) (by omega) (by omega)]; exact a1
      have u2 : r3 (A + 84 + 1) (bs m + 6 + 4 * y + 2) = σ (A + 84 + 1) (230 + 8 * y + 4) := by rw [hi _ (by omega) (by omega) (by omega) (by omega)]; exact a2
      have u3 : r3 (A + 84 + 1) (bs m + 6 + 4 * y + 3) = σ (A + 84 + 1) (230 + 8 * y + 2) := by rw [hi _ (by omega) (by omega) (by omega) (by omega)]; exact a3
      rw [e1]
      refine ⟨q0, ?_, fun _ => ⟨fun g hg => ?_, ?_, ?_, ?_, ?_, ?_⟩⟩
      · rw [fD y hy, x3 _ (by omega) (by omega)]; exact q5
      · have : g = 0 ∨ g = 1 ∨ g = 2 ∨ g = 3 := by omega
        rcases this with rfl | rfl | rfl | rfl
        · exact q1.trans u0.symm
        · exact q2.trans u1.symm
        · exact q3.trans u2.symm
        · exact q4.trans u3.symm
      · rw [u0]; exact g1
      · rw [u1]; exact g2
      · rw [u2]; exact g5
      · rw [u3]; exact g3
      · rw [u0, u1]; exact g7 (isW_iff.mp hyw).1
    · rw [hi _ (by omega) (by omega) (by omega) (by omega)]; exact w0
    · rw [e0, k4 1 (by decide)]; exact m1'
