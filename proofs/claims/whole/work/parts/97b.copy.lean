/-! A WORLD COPIED, whole. -/
theorem ShX10.gr {τ : Tau} {a M : Nat} (h : ShX10 τ a M) : gRs τ 10 a 0 = some (a + 1) ∧ gRs τ 10 a 1 = some (a + 12) ∧ gRs τ 10 a 2 = some (a + 23) ∧ gRs τ 10 a 3 = some (a + 26) ∧ gRs τ 10 a 4 = some (a + 33) ∧ gRs τ 10 a 5 = some (a + 27) ∧ gRs τ 10 a 6 = some (a + 29) := by
  have h0 := h.1
  exact ⟨gRs_of h0 rfl, gRs_of h0 rfl, gRs_of h0 rfl, gRs_of h0 rfl, gRs_of h0 rfl, gRs_of h0 rfl, gRs_of h0 rfl⟩
theorem ShX2.tl {τ : Tau} {a M : Nat} (h : ShX2 τ a M) : tl τ a 1 = M := by
  unfold Jvm.Pilot.CSilenceForMoneyLaw_law_r8759_80c104.tl; rw [h.2]
/-- shapes of a world stay when only its rows of references change -/
theorem ShX10.fr {τ τ' : Tau} {a M : Nat} (h : ShX10 τ a M) (hf : ∀ x, a ≤ x → x < a + 35 → x ≠ a + 28 → x ≠ a + 29 → τ' x = τ x) (h1 : τ' (a + 28) = some (.inr (.inr (0, 60, rcon τ' (a + 28))))) (h2 : τ' (a + 29) = some (.inr (.inr (7, 6, rcon τ' (a + 29))))) : ShX10 τ' a M := by
  obtain ⟨p0, p4, p3, p9, p8, p2, p1, p29, p30, p31, p32⟩ := h
  have e : ∀ i, i < 35 → i ≠ 28 → i ≠ 29 → τ' (a + i) = τ (a + i) := fun i h1 h2 h3 => hf _ (by omega) (by omega) (by omega) (by omega)
  refine ⟨by rw [hf a (by omega) (by omega) (by omega) (by omega)]; exact p0, ?_, ?_, ?_, ?_, ?_, ?_, h2, by rw [e 30 (by decide) (by decide) (by decide)]; exact p30, by rw [e 31 (by decide) (by decide) (by decide)]; exact p31, by rw [e 32 (by decide) (by decide) (by decide)]; exact p32⟩
  · unfold ShX4 at p4 ⊢
    rw [hf _ (by omega) (by omega) (by omega) (by omega), hf _ (by omega) (by omega) (by omega) (by omega), hf _ (by omega) (by omega) (by omega) (by omega), hf _ (by omega) (by omega) (by omega) (by omega), hf _ (by omega) (by omega) (by omega) (by omega), hf _ (by omega) (by omega) (by omega) (by omega), hf _ (by omega) (by omega) (by omega) (by omega), hf _ (by omega) (by omega) (by omega) (by omega), hf _ (by omega) (by omega) (by omega) (by omega), hf _ (by omega) (by omega) (by omega) (by omega), hf _ (by omega) (by omega) (by omega) (by omega)]
    exact p4
  · unfold ShX3 at p3 ⊢
    rw [hf _ (by omega) (by omega) (by omega) (by omega), hf _ (by omega) (by omega) (by omega) (by omega), hf _ (by omega) (by omega) (by omega) (by omega), hf _ (by omega) (by omega) (by omega) (by omega), hf _ (by omega) (by omega) (by omega) (by omega), hf _ (by omega) (by omega) (by omega) (by omega), hf _ (by omega) (by omega) (by omega) (by omega), hf _ (by omega) (by omega) (by omega) (by omega), hf _ (by omega) (by omega) (by omega) (by omega), hf _ (by omega) (by omega) (by omega) (by omega), hf _ (by omega) (by omega) (by omega) (by omega)]
    exact p3
  · unfold ShX9 at p9 ⊢
    rw [hf _ (by omega) (by omega) (by omega) (by omega), hf _ (by omega) (by omega) (by omega) (by omega), hf _ (by omega) (by omega) (by omega) (by omega)]
    exact p9
  · unfold ShX8 at p8 ⊢
    rw [hf _ (by omega) (by omega) (by omega) (by omega)]; exact p8
  · unfold ShX2 at p2 ⊢
    rw [hf _ (by omega) (by omega) (by omega) (by omega), hf _ (by omega) (by omega) (by omega) (by omega)]; exact p2
  · refine ⟨by rw [e 27 (by decide) (by decide) (by decide)]; exact p1.1, h1⟩
theorem copyT {τ : Tau} {σ : Sig} {nx a r : Nat} {rsa rsr : List (Option (Option Nat))} (a0 : τ a = some (.inl (10, rsa))) (a6 : rsa[6]? = some (some (some (a + 29)))) (a2 : τ (a + 29) = some (.inr (.inr (7, 6, rcon τ (a + 29))))) (r0 : τ r = some (.inl (10, rsr))) (r6 : rsr[6]? = some (some (some (r + 29)))) (r2 : τ (r + 29) = some (.inr (.inr (7, 6, rcon τ (r + 29))))) (hd : a + 35 ≤ r ∨ r + 35 ≤ a) (hO : ∀ j, j < 6 → isOb τ 7 (rcon τ (r + 29) j) = true) : ∃ τ', X10_copyFrom_b68 a r FU 0 τ σ nx = some (τ', σ, nx) ∧ (∀ x, x ≠ a + 29 → τ' x = τ x) ∧ τ' (a + 29) = some (.inr (.inr (7, 6, rcon τ' (a + 29)))) ∧ ∀ j, j < 6 → rcon τ' (a + 29) j = rcon τ (r + 29) j := by
  have key := fuel_up (m := 6) (C := fun fu i => ∀ t f, (∀ x, x ≠ a + 29 → t x = τ x) → t (a + 29) = some (.inr (.inr (7, 6, f))) → (∀ j, j < i → f j = rcon τ (r + 29) j) → ∃ τ', X10_copyFrom_b68 a r fu (nI i) t σ nx = some (τ', σ, nx) ∧ (∀ x, x ≠ a + 29 → τ' x = τ x) ∧ τ' (a + 29) = some (.inr (.inr (7, 6, rcon τ' (a + 29)))) ∧ ∀ j, j < 6 → rcon τ' (a + 29) j = rcon τ (r + 29) j) (fun fu t f e1 e2 e3 => ?_) (fun fu i hi ih t f e1 e2 e3 => ?_) 6 0 FU (by omega) (by unfold FU; omega)
  · rw [nI_0] at key
    exact key τ _ (fun _ _ => rfl) a2 (fun j hj => absurd hj (by omega))
  · refine ⟨t, ?_, e1, by rw [rcon_of e2]; exact e2, fun j hj => by rw [rcon_of e2]; exact e3 j hj⟩
    unfold X10_copyFrom_b68
    rw [gRs_of (by rw [e1 _ (by omega)]; exact a0) a6, bsm, lnR_of e2, bsm, if_pos (Int32.le_refl _)]
  · unfold X10_copyFrom_b68
    have er : t (r + 29) = some (.inr (.inr (7, 6, rcon τ (r + 29)))) := by rw [e1 _ (by omega)]; exact r2
    have ob : isOb t 7 (rcon τ (r + 29) i) = true := isOb_fr (hO i hi) (fun b rs e q => e1 b (fun z => by
      subst z; rw [a2] at q; cases q))
    rw [gRs_of (by rw [e1 _ (by omega)]; exact a0) a6, bsm, lnR_of e2, bsm, if_neg (nI_ge hi (by omega)), bsm, gRs_of (by rw [e1 _ (by omega)]; exact r0) r6, bsm, ldrD_of er hi (by decide), bsm, strD_of e2 ob hi (by decide), bsm, nI_s]
    refine ih _ _ (fun x hx => by rw [upR_ne hx]; exact e1 x hx) upR_eq (fun j hj => ?_)
    unfold va_up
    by_cases e : j = i
    · rw [if_pos e, e]
    · rw [if_neg e]; exact e3 j (by omega)
theorem copy_world {τ : Tau} {σ : Sig} {nx a r M : Nat} {w : wF} {n nd : Nat} (ha : ShX10 τ a M) (hr : ShX10 τ r 2000) (hd : a + 35 ≤ r ∨ r + 35 ≤ a) (hM : (M = 2000 ∧ σ (a + 33) 0 = 400) ∨ (M = 0 ∧ σ (a + 33) 0 = 0)) (hn : n ≤ 12) (hnd : nd ≤ 40) (hR : Rc σ r w n nd) (hB : BkF σ r w) (hO : ObR τ r) (hOT : ∀ j, j < 6 → isOb τ 7 (rcon τ (r + 29) j) = true) : ∃ τ' σ', X10_copyFrom_f τ σ nx a r = some (τ', σ', nx) ∧ (∀ x, x ≠ a + 28 → x ≠ a + 29 → τ' x = τ x) ∧ ShX10 τ' a M ∧ (∀ j, j < 60 → rcon τ' (a + 28) j = rcon τ (r + 28) j) ∧ (∀ j, j < 6 → rcon τ' (a + 29) j = rcon τ (r + 29) j) ∧ (∀ x, x ≤ a ∨ a + 35 ≤ x → σ' x = σ x) ∧ Rc σ' a w n nd ∧ Bk M σ' a w ∧ σ' (a + 27) 0 = σ (r + 27) 0 ∧ σ' (a + 33) 0 = σ (a + 33) 0 := by
  obtain ⟨ga0, ga1, ga2, ga3, ga4, ga5, ga6⟩ := ha.gr
  obtain ⟨gr0, gr1, gr2, gr3, gr4, gr5, gr6⟩ := hr.gr
  obtain ⟨pa0, pa4, pa3, pa9, pa8, pa2, pa1, pa29, -⟩ := id ha
  obtain ⟨pr0, pr4, pr3, pr9, pr8, pr2, pr1, pr29, -⟩ := id hr
  obtain ⟨b0, b2, k, hk, bk, b5⟩ := hB
  -- people
  obtain ⟨s1, c1, f1, v1, v1'⟩ : ∃ s, X4_copyFrom_f (a + 1) (r + 1) σ = some s ∧ (∀ x, x < a + 1 ∨ a + 11 < x → s x = σ x) ∧ s (a + 1) 0 = σ (r + 1) 0 ∧ ∀ i, 1 ≤ i → i ≤ 10 → ∀ j, j < 12 → s (a + 1 + i) j = σ (r + 1 + i) j := by
    refine ⟨_, copy4 _ _ _, fun x hx => ?_, ?_, fun i h1 h2 j hj => ?_⟩
    · rw [cpN_ne _ (by omega), wr_row (by omega)]
    · rw [cpN_ne _ (by omega), wr_v]
    · rw [cpN_v hj 10 (by omega) h1 h2, wr_row (by omega)]
  -- debts
  obtain ⟨s2, c2, f2, v2, v2'⟩ : ∃ s, X3_copyFrom_f (a + 12) (r + 12) s1 = some s ∧ (∀ x, x < a + 12 ∨ a + 19 < x → s x = s1 x) ∧ s (a + 12) 0 = s1 (r + 12) 0 ∧ ∀ i, 1 ≤ i → i ≤ 7 → ∀ j, j < 40 → s (a + 12 + i) j = s1 (r + 12 + i) j := by
    refine ⟨_, copy3 _ _ _, fun x hx => ?_, ?_, fun i h1 h2 j hj => ?_⟩
    · rw [cpN_ne _ (by omega), wr_row (by omega)]
    · rw [cpN_ne _ (by omega), wr_v]
    · rw [cpN_v hj 7 (by omega) h1 h2, wr_row (by omega)]
  obtain ⟨s3, c3, f3, v3, v3', v3''⟩ := copy9 (a := a + 23) (r := r + 23) (σ := s2) (by omega)
  obtain ⟨s4, c4, f4, v4⟩ := copy8 (a := a + 26) (r := r + 26) (σ := s3) (by omega)
  have so : ∀ x, x ≤ a ∨ a + 27 ≤ x → s4 x = σ x := fun x hx => by rw [f4 x (by omega), f3 x (by omega), f2 x (by omega), f1 x (by omega)]
  obtain ⟨s5, c5, f5, v50, v5M, v5Z, v5⟩ := copy2 (a := a + 33) (r := r + 33) (M := M) (σ := s4) (k := k) (by omega) hk (by rw [so _ (by omega), b2]; exact bk) (by rw [so _ (by omega)]; exact hM)
  have so5 : ∀ x, x ≤ a ∨ (a + 27 ≤ x ∧ x < a + 33) ∨ a + 35 ≤ x → s5 x = σ x := fun x hx => by rw [f5 x (by omega) (by omega), so x (by omega)]
  have rr : ∀ i, i < 35 → s4 (r + i) = σ (r + i) := fun i hi => so _ (by omega)
  obtain ⟨τ1, t1, u1, u2, u3⟩ := copy1 (σ := s5) (nx := nx) pa1 pr1 (by omega) hO
  have hOT1 : ∀ j, j < 6 → isOb τ1 7 (rcon τ1 (r + 29) j) = true := fun j hj => by
    have e : rcon τ1 (r + 29) = rcon τ (r + 29) := by unfold rcon; rw [u1 _ (by omega)]
    rw [e]
    refine isOb_fr (hOT j hj) (fun b rs _ q => u1 b (fun z => ?_))
    subst z; rw [pa1.2] at q; cases q
  have e29 : rcon τ1 (r + 29) = rcon τ (r + 29) := by unfold rcon; rw [u1 _ (by omega)]
  have e29a : rcon τ1 (a + 29) = rcon τ (a + 29) := by unfold rcon; rw [u1 _ (by omega)]
  obtain ⟨τ2, t2, w1, w2, w3⟩ := copyT (τ := τ1) (σ := wr s5 (a + 27) 0 (s5 (r + 27) 0)) (nx := nx) (a := a) (r := r) (by rw [u1 _ (by omega)]; exact pa0) rfl (by rw [u1 _ (by omega), e29a]; exact pa29) (by rw [u1 _ (by omega)]; exact pr0) rfl (by rw [u1 _ (by omega), e29]; exact pr29) hd hOT1
  rw [e29] at w3
  have e28 : rcon τ2 (a + 28) = rcon τ1 (a + 27 + 1) := by unfold rcon; rw [w1 (a + 28) (by omega)]
  have fin : ∀ x, x ≠ a + 27 → wr s5 (a + 27) 0 (s5 (r + 27) 0) x = s5 x := fun x hx => wr_row hx
  refine ⟨τ2, wr s5 (a + 27) 0 (s5 (r + 27) 0), ?_, fun x h1 h2 => by rw [w1 x h2, u1 x h1], ?_, fun j hj => by rw [e28]; exact u3 j hj, w3, fun x hx => by rw [fin x (by omega), so5 x (by omega)], ?_, ?_, ?_, ?_⟩
  · unfold X10_copyFrom_f
    rw [ga0, bsm, gr0, bsm, chk_yes pa4, chk_yes pr4, c1, bsm, ga1, bsm, gr1, bsm, chk_yes pa3, chk_yes pr3, c2, bsm, ga2, bsm, gr2, bsm, chk_yes pa9, chk_yes pr9, c3, bsm, ga3, bsm, gr3, bsm, chk_yes pa8, chk_yes pr8, c4, bsm, ga4, bsm, gr4, bsm, pa2.tl, pr2.tl, chk_yes pa2, chk_yes pr2, c5, bsm, ga5, bsm, gr5, bsm, chk_yes ⟨_, pa1.1⟩, t1, bsm]
    exact t2
  · refine ha.fr (fun x h1 h2 h3 h4 => by rw [w1 x h4, u1 x h3]) ?_ w2
    rw [w1 _ (by omega), e28]; exact u2
  · refine Rc.cor.mpr (fun i kk j hc => ?_)
    rw [← Rc.cor.mp hR i kk j hc]
    have hrng := hc.rng
    rw [fin _ (by omega)]
    rcases hc with ⟨rfl, rfl, rfl⟩ | ⟨rfl, rfl, rfl⟩ | ⟨h0, f, hf, rfl, rfl⟩ | ⟨h0, f, hf, rfl, rfl⟩ | ⟨h0, f, hf, rfl, rfl⟩ | ⟨rfl, h1, rfl⟩ | ⟨rfl, h1, rfl⟩ | ⟨rfl, h⟩ | ⟨rfl, h⟩ | ⟨rfl, h1, h2, rfl⟩
    · rw [f5 _ (by omega) (by omega), f4 _ (by omega), f3 _ (by omega), f2 _ (by omega), v1]
    · rw [f5 _ (by omega) (by omega), f4 _ (by omega), f3 _ (by omega), v2, f1 _ (by omega)]
    · rw [f5 _ (by omega) (by omega), f4 _ (by omega), f3 _ (by omega), f2 _ (by omega), show a + (2 + f) = a + 1 + (1 + f) by omega, v1' _ (by omega) (by omega) kk (by omega), show r + 1 + (1 + f) = r + (2 + f) by omega]
    · rw [f5 _ (by omega) (by omega), f4 _ (by omega), f3 _ (by omega), f2 _ (by omega), show a + (9 + f) = a + 1 + (8 + f) by omega, v1' _ (by omega) (by omega) kk (by omega), show r + 1 + (8 + f) = r + (9 + f) by omega]
    · rw [f5 _ (by omega) (by omega), f4 _ (by omega), f3 _ (by omega), show a + (13 + f) = a + 12 + (1 + f) by omega, v2' _ (by omega) (by omega) kk (by omega), f1 _ (by omega), show r + 12 + (1 + f) = r + (13 + f) by omega]
    · rw [f5 _ (by omega) (by omega), f4 _ (by omega), show a + 24 = a + 23 + 1 by omega, v3 kk h1, f2 _ (by omega), f1 _ (by omega)]
    · rw [f5 _ (by omega) (by omega), f4 _ (by omega), show a + 25 = a + 23 + 2 by omega, v3' kk h1, f2 _ (by omega), f1 _ (by omega)]
    · rw [f5 _ (by omega) (by omega), f4 _ (by omega), v3'' kk (by omega) (by omega), f2 _ (by omega), f1 _ (by omega)]
    · rw [f5 _ (by omega) (by omega), v4 kk (by omega), f3 _ (by omega), f2 _ (by omega), f1 _ (by omega)]
    · rw [v5 kk h1 h2, rr 33 (by decide)]
  · rcases hM with ⟨rfl, e0⟩ | ⟨rfl, e0⟩
    · obtain ⟨m1, m2⟩ := v5M rfl
      refine Or.inl ⟨rfl, by rw [fin _ (by omega), v50, so _ (by omega)]; exact e0, by rw [fin _ (by omega), m1]; exact bk.symm, k, hk, bk, fun j hj => ?_⟩
      rw [fin _ (by omega), m2 j hj, show r + 33 + 1 = r + 34 by omega, rr 34 (by decide)]; exact b5 j hj
    · exact Or.inr ⟨rfl, ⟨by rw [fin _ (by omega), v50, so _ (by omega)]; exact e0, by rw [fin _ (by omega)]; exact v5Z rfl⟩, k, hk, bk⟩
  · rw [wr_v, so5 _ (by omega)]
  · rw [fin _ (by omega), v50, so _ (by omega)]
