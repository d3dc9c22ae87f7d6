/-! THE DREAM: a copy of now, that goes on beside the reference's row. -/
theorem feast1 (x : Int32) : feastV 1 x = 1 := by
  unfold feastV
  rw [if_neg (by decide), if_pos]
  rw [Int32.div_one, Int32.mul_one, Int32.sub_self]
section ID
variable {τ : Tau} {A nx : Nat} {kp : Option Nat} {W M B n nd : Nat} {σ0 ρ0 σ ρ : Sig}
theorem pass_idle (h : Z W M B n nd σ0 ρ0 σ ρ) (hT : Txs τ σ0 A nx kp W (ρ0 (B + 1))) (hW : A + 5 ≤ W ∧ W + 35 ≤ A + 95) (hi : ρ (B + 1) 3 = -1 ∨ ρ (B + 1) 7 = 1) : Two (X10_pass_f τ W M σ) (X12_aQuarter_f B ρ) (fun s r => Z W M B n nd σ0 ρ0 s r ∧ ∀ j, (j = 3 ∨ j = 7 ∨ (230 ≤ j ∧ j < 550)) → r (B + 1) j = ρ (B + 1) j) := by
  have h12 := h.n12
  have h40 := h.d40
  have hT' : Txs τ σ A nx kp W (ρ (B + 1)) := by
    intro k hk
    obtain ⟨t, t1, t2, t3⟩ := hT k hk
    obtain ⟨a1, a2, a3⟩ := id t2
    exact ⟨t, t1, t2, t3.fr hk (fun i hi => h.2.2.2.1 _ (by omega)) (fun j hj _ => h.2.2.2.2.2 j (Or.inl hj))⟩
  have h' : Z W M B n nd σ ρ σ ρ := ⟨h.1, h.2.1, h.2.2.1, FrC.rf, FrR.rf⟩
  have key := fuel_up (m := n) (C := fun fu c => ∀ σ' ρ' : Sig, Y W M B n nd σ ρ σ' ρ' → Two (X10_pass_b19 τ W M fu (nI c) σ') (X12_aQuarter_b2 B fu (nI c) ρ') (fun s r => Z W M B n nd σ ρ s r ∧ ∀ j, (j = 3 ∨ j = 7 ∨ (230 ≤ j ∧ j < 550)) → r (B + 1) j = ρ (B + 1) j)) (fun fu σ' ρ' hy => ?_) (fun fu c hc ih σ' ρ' hy => ?_) n 0 FU (by omega) (by unfold FU; omega)
  · rw [nI_0] at key
    have fin : ∀ σ' : Sig, Y W M B n nd σ ρ σ' ρ → Two (X10_pass_b19 τ W M FU 0 σ') (X12_aQuarter_f B ρ) (fun s r => Z W M B n nd σ0 ρ0 s r ∧ ∀ j, (j = 3 ∨ j = 7 ∨ (230 ≤ j ∧ j < 550)) → r (B + 1) j = ρ (B + 1) j) := fun σ' hy =>
      two_mono (key σ' ρ hy) (fun s r hsr => ⟨⟨hsr.1.1, hsr.1.2.1, hsr.1.2.2.1, h.2.2.2.1.tr hsr.1.2.2.2.1, h.2.2.2.2.tr hsr.1.2.2.2.2⟩, hsr.2⟩)
    unfold X10_pass_f
    rw [cl_isNight h, bsm]
    refine two_il (fun c0 => ?_) (fun c0 => ?_)
    · obtain ⟨s, t1, t2, t3, t4⟩ := cl_tally h'
      rw [t1, bsm]
      exact fin s ⟨h'.scr (fun a _ h2 h3 _ _ _ => t2 a h2 h3), fun _ => ⟨t3, t4⟩, fun _ _ => rfl⟩
    · exact fin σ ⟨h', fun q => absurd q c0, fun _ _ => rfl⟩
  · have hz := hy.1
    have go : Two (X10_pass_b84 τ W M σ') (X12_aQuarter_b132 B ρ') (fun s r => Z W M B n nd σ ρ s r ∧ ∀ j, (j = 3 ∨ j = 7 ∨ (230 ≤ j ∧ j < 550)) → r (B + 1) j = ρ (B + 1) j) :=
      two_mono (goon_two hz) (fun s r hsr => ⟨hsr.1, fun j hj => by rw [hsr.2 j (by omega) (by omega)]; exact hy.2.2 j (by omega)⟩)
    unfold X10_pass_b19 X12_aQuarter_b2
    rw [hz.cn, if_pos (Int32.le_refl _), LW.2.2.2.2.2.2.2.2.2.1, bsm, hz.wn, if_pos (Int32.le_refl _), LW.2.2.2.1, bsm, hz.sca.1]
    rcases hz.g.2.2.2.1 with e3 | ⟨q, hq, e3⟩
    · rw [e3, has4_out h12 hz.cn (fun p hp => fun z => absurd z.symm (ne_m1 (by omega))), bsm, if_pos rfl, if_pos rfl]
      exact go
    · have e7 : ρ' (B + 1) 7 = 1 := by
        rcases hi with z | z
        · have e := hy.2.2 3 (by omega)
          rw [e3, z] at e
          exact absurd e (ne_m1 (by omega))
        · rw [hy.2.2 7 (by omega)]; exact z
      rw [e3, has4_in h12 hz.cn hq, bsm, if_neg (by decide), if_neg (ne_m1 (by omega)), cl_isFeast hz, bsm, LW.2.1, bsm, re_feast, bsm, e7, feast1, if_neg n10, if_neg n10]
      exact go
  · have hz := hy.1
    unfold X10_pass_b19 X12_aQuarter_b2
    rw [hz.cn, if_neg (nI_ge hc (by omega)), LW.2.2.2.2.2.2.2.2.2.1, bsm, hz.wn, if_neg (nI_ge hc (by omega)), nI_s]
    refine two_eq (o' := ((X10_makeNoise_f τ W M (nI c) σ').bind fun s => X10_judgeNoise_f τ W M (nI c) s).bind fun s12 => X10_pass_b19 τ W M fu (nI (c + 1)) s12) ?_ rfl ?_
    · rw [bind_ra]
    · exact two_bind (noise_two hy hT' hW hc) (fun s r hsr => ih s r hsr)
theorem re_sets : ∃ s, X12_setsOut_f B ρ = some s ∧ (∀ x, x ≠ B + 3 → s x = ρ x) ∧ ∀ j, j < 2550 → s (B + 3) j = ρ (B + 1) j := by
  have key := fuel_up (m := 2550) (C := fun fu k => ∀ s0 : Sig, (∀ x, x ≠ B + 3 → s0 x = ρ x) → (∀ j, j < k → s0 (B + 3) j = ρ (B + 1) j) → ∃ s, X12_setsOut_b2 B fu (nI k) s0 = some s ∧ (∀ x, x ≠ B + 3 → s x = ρ x) ∧ ∀ j, j < 2550 → s (B + 3) j = ρ (B + 1) j) (fun fu s0 e1 e2 => ⟨s0, ?_, e1, e2⟩) (fun fu k hk ih s0 e1 e2 => ?_) 2550 0 FU (by omega) (by unfold FU; omega)
  · rw [nI_0] at key
    exact key ρ (fun _ _ => rfl) (fun j hj => absurd hj (by omega))
  · unfold X12_setsOut_b2; rw [if_pos (show (2550 : Int32) ≤ nI 2550 from Int32.le_refl _)]
  · unfold X12_setsOut_b2
    rw [if_neg (show ¬ (2550 : Int32) ≤ nI k from nI_ge (b := 2550) hk (by decide)), ldn (by omega) (by decide), bsm, stn hk (by decide), bsm, nI_s]
    refine ih _ (fun x hx => by rw [wr_row hx]; exact e1 x hx) (fun j hj => ?_)
    by_cases e : j = k
    · subst e; rw [wr_v, e1 _ (by omega)]
    · rw [wr_o e]; exact e2 j (by omega)
theorem re_back : ∃ s, X12_comesBack_f B ρ = some s ∧ (∀ x, x ≠ B + 1 → s x = ρ x) ∧ (∀ j, j < 2550 → s (B + 1) j = ρ (B + 3) j) ∧ ∀ j, 2550 ≤ j → s (B + 1) j = ρ (B + 1) j := by
  have key := fuel_up (m := 2550) (C := fun fu k => ∀ s0 : Sig, (∀ x, x ≠ B + 1 → s0 x = ρ x) → (∀ j, j < k → s0 (B + 1) j = ρ (B + 3) j) → (∀ j, 2550 ≤ j → s0 (B + 1) j = ρ (B + 1) j) → ∃ s, X12_comesBack_b2 B fu (nI k) s0 = some s ∧ (∀ x, x ≠ B + 1 → s x = ρ x) ∧ (∀ j, j < 2550 → s (B + 1) j = ρ (B + 3) j) ∧ ∀ j, 2550 ≤ j → s (B + 1) j = ρ (B + 1) j) (fun fu s0 e1 e2 e3 => ⟨s0, ?_, e1, e2, e3⟩) (fun fu k hk ih s0 e1 e2 e3 => ?_) 2550 0 FU (by omega) (by unfold FU; omega)
  · rw [nI_0] at key
    exact key ρ (fun _ _ => rfl) (fun j hj => absurd hj (by omega)) (fun _ _ => rfl)
  · unfold X12_comesBack_b2; rw [if_pos (show (2550 : Int32) ≤ nI 2550 from Int32.le_refl _)]
  · unfold X12_comesBack_b2
    rw [if_neg (show ¬ (2550 : Int32) ≤ nI k from nI_ge (b := 2550) hk (by decide)), ldn hk (by decide), bsm, stn (by omega) (by decide), bsm, nI_s]
    refine ih _ (fun x hx => by rw [wr_row hx]; exact e1 x hx) (fun j hj => ?_) (fun j hj => by rw [wr_o (by omega)]; exact e3 j hj)
    by_cases e : j = k
    · subst e; rw [wr_v, e1 _ (by omega)]
    · rw [wr_o e]; exact e2 j (by omega)
end ID
/-! shapes and worlds when only cells of references, or new ones, have come -/
theorem Txt.tau {τ τ' : Tau} {σ : Sig} {w : wF} {k t : Nat} (h : Txt τ σ w k t) (ht : ∀ i, i < 4 → τ' (t + i) = τ (t + i)) : Txt τ' σ w k t := by
  obtain ⟨m, c, s, so, sv, g1, g2, g3, g4⟩ := h
  have e0 : τ' t = τ t := ht 0 (by decide)
  refine ⟨m, c, s, so, sv, g1, g2, ?_, g4⟩
  unfold ShX7 at g3 ⊢
  rw [e0, ht 1 (by decide), ht 2 (by decide), ht 3 (by decide)]; exact g3
theorem Bar.tau {τ τ' : Tau} {σ : Sig} {w : wF} {n j b had : Nat} {sp : Bool} (h : Bar τ σ w n j b had sp) (ht : ∀ i, i < 2 → τ' (b + i) = τ (b + i)) : Bar τ' σ w n j b had sp := by
  obtain ⟨cap, ds, g1, g2⟩ := h
  have e0 : τ' b = τ b := ht 0 (by decide)
  refine ⟨cap, ds, ?_, g2⟩
  unfold ShX0 at g1 ⊢
  rw [e0, ht 1 (by decide)]; exact g1
def agreeT (A nx : Nat) (kp : Option Nat) (τ τ' : Tau) : Prop := ∀ a, a < nx → ((A + 1 ≤ a ∧ a < A + 5) ∨ A + 95 ≤ a) → (∀ q, kp = some q → a < q ∨ q + 35 ≤ a) → τ' a = τ a
theorem apart.cells {A nx : Nat} {kp : Option Nat} {t len : Nat} {τ τ' : Tau} (h : apart A nx kp t len) (hag : agreeT A nx kp τ τ') : ∀ i, i < len → τ' (t + i) = τ (t + i) := by
  intro i hi
  obtain ⟨h1, h2, h3⟩ := h
  refine hag (t + i) (by omega) (by omega) (fun q hq => ?_)
  rcases h3 q hq with h | h
  · exact Or.inl (by omega)
  · exact Or.inr (by omega)
theorem apart.up {A nx nx' : Nat} {kp : Option Nat} {t len : Nat} (h : apart A nx kp t len) (hn : nx ≤ nx') : apart A nx' kp t len := ⟨h.1, by have := h.2.1; omega, h.2.2⟩
theorem Txs.tau {τ τ' : Tau} {σ : Sig} {A nx nx' : Nat} {kp : Option Nat} {W W' : Nat} {w : wF} (h : Txs τ σ A nx kp W w) (hag : agreeT A nx kp τ τ') (hn : nx ≤ nx') (hr : ∀ j, j < 6 → rcon τ' (W' + 29) j = rcon τ (W + 29) j) : Txs τ' σ A nx' kp W' w := fun k hk => by
  obtain ⟨t, h1, h2, h3⟩ := h k hk
  exact ⟨t, by rw [hr k hk]; exact h1, h2.up hn, h3.tau (h2.cells hag)⟩
theorem Brs.tau {τ τ' : Tau} {σ σ' : Sig} {A nx nx' : Nat} {kp : Option Nat} {W W' : Nat} {w : wF} {n nd : Nat} (h : Brs τ σ A nx kp W w n nd) (hag : agreeT A nx kp τ τ') (hn : nx ≤ nx') (hr : ∀ j, j < 60 → rcon τ' (W' + 28) j = rcon τ (W + 28) j) (hσ : agree A kp σ σ') (hc : σ' (W' + 27) 0 = σ (W + 27) 0) : Brs τ' σ' A nx' kp W' w n nd := by
  obtain ⟨m, hd, sp, g1, g2, g3, g4, g5, g6⟩ := h
  refine ⟨m, hd, sp, g1, by rw [hc]; exact g2, g3, g4, g5, fun j hj => ?_⟩
  obtain ⟨b, q1, q2, q3, q4⟩ := g6 j hj
  exact ⟨b, (hr j (by omega)).trans q1, q2.up hn, q3, (q4.tau (q2.cells hag)).fr (by omega) (q2.rows hσ) (fun _ _ _ => rfl) (Nat.le_refl _)⟩
theorem rcon_eq {τ τ' : Tau} {a : Nat} (h : τ' a = τ a) : rcon τ' a = rcon τ a := by unfold rcon; rw [h]
theorem Wd.tau {b : Nat} {τ τ' : Tau} {σ : Sig} {A nx nx' : Nat} {kp : Option Nat} {W : Nat} {w : wF} (h : Wd b τ σ A nx kp W w) (hag : agreeT A nx kp τ τ') (hn : nx ≤ nx') (h28 : τ' (W + 28) = τ (W + 28)) (h29 : τ' (W + 29) = τ (W + 29)) : Wd b τ' σ A nx' kp W w := by
  obtain ⟨n, nd, h1, h2, h3, h4, h5, h6⟩ := h
  exact ⟨n, nd, h1, h2, h3, h4.tau hag hn (fun j _ => by rw [rcon_eq h29]), h5.tau hag hn (fun j _ => by rw [rcon_eq h28]) (fun _ _ _ => rfl) rfl, h6⟩
theorem ObR.tau {τ τ' : Tau} {W : Nat} (h : ObR τ W) (hf : ∀ b rs, τ b = some (.inl (0, rs)) → τ' b = τ b) (h28 : τ' (W + 28) = τ (W + 28)) : ObR τ' W := fun j hj => by
  rw [show rcon τ' (W + 27 + 1) = rcon τ (W + 27 + 1) from rcon_eq h28]
  exact isOb_fr (h j hj) (fun b rs _ q => hf b rs q)
/-- the dream's cells, its rows and the reference's scratch rows alone have changed -/
theorem Inv.dream {A b : Nat} {τ τ' : Tau} {σ σ' : Sig} {nx : Nat} (hI : Inv A b (τ, σ, nx)) (ht : ∀ x, x ≠ A + 68 → x ≠ A + 69 → τ' x = τ x) (hS : ShX10 τ' (A + 40) 0) (hσ : ∀ x, (x < A + 40 ∨ A + 75 ≤ x) → x ≠ A + 87 → x ≠ A + 91 → x ≠ A + 92 → x ≠ A + 93 → x ≠ A + 94 → σ' x = σ x) (hb : BkN σ' (A + 40)) : Inv A b (τ', σ', nx) := by
  obtain ⟨g1, g2, g3, ⟨g4, g4', g4''⟩, g5, g6, g7, g8, g9, g10⟩ := hI
  dsimp only at g1 g2 g3 g4 g4' g4'' g5 g6 g7 g8 g9 g10
  have kq : rfld τ' A 2 = rfld τ A 2 := by unfold rfld; rw [ht A (by omega) (by omega)]
  have obA : ∀ b rs, τ b = some (.inl (0, rs)) → τ' b = τ b := fun b rs q => by
    have s1 := g1.2.2.1
    refine ht b (fun z => ?_) (fun z => ?_)
    · subst z
      have e := s1.2.2.2.2.2.2.1.2
      rw [show A + 40 + 27 + 1 = A + 68 by omega, q] at e
      cases e
    · subst z
      have e := s1.2.2.2.2.2.2.2.1
      rw [show A + 40 + 29 = A + 69 by omega, q] at e
      cases e
  have hag : ∀ kp, agree A kp σ σ' := fun kp a ha _ => hσ a (by omega) (by omega) (by omega) (by omega) (by omega) (by omega)
  have hagT : ∀ kp, agreeT A nx kp τ τ' := fun kp a _ ha _ => ht a (by omega) (by omega)
  have e : ∀ x, (x < A + 40 ∨ A + 75 ≤ x) → x ≠ A + 87 → x ≠ A + 91 → x ≠ A + 92 → x ≠ A + 93 → x ≠ A + 94 → σ' x = σ x := hσ
  have wd1 : Wd b τ' σ' A nx (rfld τ A 2) (A + 5) (σ (A + 84 + 1)) := (g5.tau (hagT _) (Nat.le_refl _) (ht _ (by omega) (by omega)) (ht _ (by omega) (by omega))).fr (fun i hi => hσ _ (by omega) (by omega) (by omega) (by omega) (by omega) (by omega)) (hag _)
  refine ⟨?_, ?_, g3, ⟨fun a ha => ?_, g4'.tau obA (ht _ (by omega) (by omega)), ?_⟩, ?_, hb, ?_, ?_, ?_, ?_⟩
  · dsimp only
    unfold ShX11
    rw [kq, ht A (by omega) (by omega)]
    refine ⟨g1.1, ?_, hS, ?_, ?_⟩
    · refine g1.2.1.fr (fun x h1 h2 h3 h4 => ht x (by omega) (by omega)) ?_ ?_
      · rw [ht _ (by omega) (by omega), rcon_eq (ht (A + 5 + 28) (by omega) (by omega))]; exact g1.2.1.2.2.2.2.2.2.1.2
      · rw [ht _ (by omega) (by omega), rcon_eq (ht (A + 5 + 29) (by omega) (by omega))]; exact g1.2.1.2.2.2.2.2.2.2.1
    · have q := g1.2.2.2.1
      unfold ShX6 at q ⊢
      rw [ht _ (by omega) (by omega), ht _ (by omega) (by omega)]; exact q
    · have q := g1.2.2.2.2
      unfold ShX5 at q ⊢
      rw [ht _ (by omega) (by omega), ht _ (by omega) (by omega), ht _ (by omega) (by omega), ht _ (by omega) (by omega), ht _ (by omega) (by omega), ht _ (by omega) (by omega), ht _ (by omega) (by omega)]; exact q
  · dsimp only
    unfold ShX12 at g2 ⊢
    rw [ht _ (by omega) (by omega), ht _ (by omega) (by omega), ht _ (by omega) (by omega), ht _ (by omega) (by omega), ht _ (by omega) (by omega), ht _ (by omega) (by omega), ht _ (by omega) (by omega), ht _ (by omega) (by omega), ht _ (by omega) (by omega), ht _ (by omega) (by omega), ht _ (by omega) (by omega)]
    exact g2
  · dsimp only at ha ⊢
    rw [ht a (by omega) (by omega)]; exact g4 a ha
  · dsimp only; rw [e _ (by omega) (by omega) (by omega) (by omega) (by omega) (by omega)]; exact g4''
  · dsimp only
    rw [kq, e _ (by omega) (by omega) (by omega) (by omega) (by omega) (by omega)]; exact wd1
  · dsimp only
    exact g7.fr (e _ (by omega) (by omega) (by omega) (by omega) (by omega) (by omega)) (e _ (by omega) (by omega) (by omega) (by omega) (by omega) (by omega)) (by rw [e _ (by omega) (by omega) (by omega) (by omega) (by omega) (by omega)]) (e _ (by omega) (by omega) (by omega) (by omega) (by omega) (by omega))
  · dsimp only; rw [e _ (by omega) (by omega) (by omega) (by omega) (by omega) (by omega), e _ (by omega) (by omega) (by omega) (by omega) (by omega) (by omega)]; exact g8
  · dsimp only; rw [e _ (by omega) (by omega) (by omega) (by omega) (by omega) (by omega), e _ (by omega) (by omega) (by omega) (by omega) (by omega) (by omega)]; exact g9
  · dsimp only
    rw [kq, e (A + 84) (by omega) (by omega) (by omega) (by omega) (by omega) (by omega)]
    split
    · next hq => rw [hq] at g10; exact g10
    · next q hq =>
      rw [hq] at g10
      obtain ⟨k1, k2, k3, ⟨k4, k4', k4''⟩, k5⟩ := g10
      refine ⟨k1, k2, k3, ⟨?_, k4'.tau obA (ht _ (by omega) (by omega)), ?_⟩, ?_⟩
      · refine k4.fr (fun x h1 h2 h3 h4 => ht x (by omega) (by omega)) ?_ ?_
        · rw [ht _ (by omega) (by omega), rcon_eq (ht (q + 28) (by omega) (by omega))]; exact k4.2.2.2.2.2.2.1.2
        · rw [ht _ (by omega) (by omega), rcon_eq (ht (q + 29) (by omega) (by omega))]; exact k4.2.2.2.2.2.2.2.1
      · rw [e _ (by omega) (by omega) (by omega) (by omega) (by omega) (by omega)]; exact k4''
      · rw [e _ (by omega) (by omega) (by omega) (by omega) (by omega) (by omega)]
        exact (k5.tau (hagT _) (Nat.le_refl _) (ht _ (by omega) (by omega)) (ht _ (by omega) (by omega))).fr (fun i hi => hσ _ (by omega) (by omega) (by omega) (by omega) (by omega) (by omega)) (hag _)
