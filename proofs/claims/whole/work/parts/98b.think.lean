/-! thought. -/
/-- what the dream is made of -/
def DR (τ : Tau) (σ : Sig) (A nx : Nat) (kp : Option Nat) (w : wF) (n nd : Nat) : Prop := ShX11 τ A ∧ Rg w n nd ∧ Rc σ (A + 5) w n nd ∧ BkF σ (A + 5) w ∧ Txs τ σ A nx kp (A + 5) w ∧ ObR τ (A + 5) ∧ BkN σ (A + 40)
theorem Inv.dr {A b : Nat} {τ : Tau} {σ : Sig} {nx : Nat} (hI : Inv A b (τ, σ, nx)) : ∃ n nd, DR τ σ A nx (rfld τ A 2) (σ (A + 84 + 1)) n nd ∧ Few b (σ (A + 84 + 1)) := by
  obtain ⟨n, nd, hG, hR, hB, hT, hBr, hF⟩ := hI.wd
  dsimp only at hG hR hB hT hBr hF
  exact ⟨n, nd, ⟨hI.1, hG, hR, hB, hT, hI.2.2.2.1.2.1, hI.2.2.2.2.2.1⟩, hF⟩
theorem Txs.ob {τ : Tau} {σ : Sig} {A nx : Nat} {kp : Option Nat} {W : Nat} {w : wF} (h : Txs τ σ A nx kp W w) : ∀ j, j < 6 → isOb τ 7 (rcon τ (W + 29) j) = true := fun j hj => by
  obtain ⟨t, h1, h2, h3⟩ := h j hj
  obtain ⟨m, c, s, so, sv, g1, g2, g3, g4⟩ := h3
  rw [h1]
  show (match τ t with | some (.inl (c', _)) => c' == 7 | _ => false) = true
  rw [g3.1]; rfl
theorem ShX11.gr {τ : Tau} {A : Nat} (h : ShX11 τ A) : gRs τ 11 A 0 = some (A + 5) ∧ gRs τ 11 A 1 = some (A + 40) := ⟨gRs_of h.1 rfl, gRs_of h.1 rfl⟩
/-- now copied into the dream -/
theorem DR.copy {τ : Tau} {σ : Sig} {A nx : Nat} {kp : Option Nat} {w : wF} {n nd : Nat} (h : DR τ σ A nx kp w n nd) : ∃ τ' σ', X10_copyFrom_f τ σ nx (A + 40) (A + 5) = some (τ', σ', nx) ∧ (∀ x, x ≠ A + 68 → x ≠ A + 69 → τ' x = τ x) ∧ ShX11 τ' A ∧ (∀ x, x ≤ A + 40 ∨ A + 75 ≤ x → σ' x = σ x) ∧ Rc σ' (A + 40) w n nd ∧ BkN σ' (A + 40) ∧ (∃ k, k ≤ 400 ∧ w 11 = nI k) ∧ Txs τ' σ' A nx kp (A + 40) w ∧ DR τ' σ' A nx kp w n nd := by
  obtain ⟨s1, hG, hR, hB, hT, hO, hN⟩ := h
  obtain ⟨τ', σ', e1, e2, e3, e4, e5, e6, e7, e8, e9, e10⟩ := copy_world (nx := nx) s1.2.2.1 s1.2.1 (by omega) (Or.inr ⟨rfl, hN.1⟩) hG.le12 hG.le40 hR hB hO hT.ob
  have ht : ∀ x, x ≠ A + 68 → x ≠ A + 69 → τ' x = τ x := fun x h1 h2 => e2 x (by omega) (by omega)
  have kq : rfld τ' A 2 = rfld τ A 2 := by unfold rfld; rw [ht A (by omega) (by omega)]
  have s1' : ShX11 τ' A := by
    unfold ShX11
    rw [kq, ht A (by omega) (by omega)]
    refine ⟨s1.1, ?_, e3, ?_, ?_⟩
    · refine s1.2.1.fr (fun x h1 h2 h3 h4 => ht x (by omega) (by omega)) ?_ ?_
      · rw [ht _ (by omega) (by omega), rcon_eq (ht (A + 5 + 28) (by omega) (by omega))]; exact s1.2.1.2.2.2.2.2.2.1.2
      · rw [ht _ (by omega) (by omega), rcon_eq (ht (A + 5 + 29) (by omega) (by omega))]; exact s1.2.1.2.2.2.2.2.2.2.1
    · have q := s1.2.2.2.1
      unfold ShX6 at q ⊢
      rw [ht _ (by omega) (by omega), ht _ (by omega) (by omega)]; exact q
    · have q := s1.2.2.2.2
      unfold ShX5 at q ⊢
      rw [ht _ (by omega) (by omega), ht _ (by omega) (by omega), ht _ (by omega) (by omega), ht _ (by omega) (by omega), ht _ (by omega) (by omega), ht _ (by omega) (by omega), ht _ (by omega) (by omega)]; exact q
  have hag : agree A kp σ σ' := fun a ha _ => e6 a (by omega)
  have hagT : agreeT A nx kp τ τ' := fun a _ ha _ => ht a (by omega) (by omega)
  rcases e8 with ⟨h0, -⟩ | ⟨-, bn, bk⟩
  · exact absurd h0 (by decide)
  have obA : ∀ b rs, τ b = some (.inl (0, rs)) → τ' b = τ b := fun b rs q => by
    refine ht b (fun z => ?_) (fun z => ?_)
    · subst z
      have e := s1.2.2.1.2.2.2.2.2.2.1.2
      rw [show A + 40 + 27 + 1 = A + 68 by omega, q] at e
      cases e
    · subst z
      have e := s1.2.2.1.2.2.2.2.2.2.2.1
      rw [show A + 40 + 29 = A + 69 by omega, q] at e
      cases e
  refine ⟨τ', σ', e1, ht, s1', fun x hx => e6 x (by omega), e7, bn, bk, ?_, s1', hG, hR.fr (fun i hi => e6 _ (by omega)), hB.fr (fun i hi => e6 _ (by omega)), ?_, hO.tau obA (ht _ (by omega) (by omega)), bn⟩
  · exact (hT.tau hagT (Nat.le_refl _) (W' := A + 40) (fun j hj => e5 j hj)).fr hag (fun _ _ _ => rfl)
  · exact (hT.tau hagT (Nat.le_refl _) (W' := A + 5) (fun j _ => by rw [rcon_eq (ht (A + 5 + 29) (by omega) (by omega))])).fr hag (fun _ _ _ => rfl)
/-- rows of the dream changed -/
theorem DR.rows {τ : Tau} {σ σ' : Sig} {A nx : Nat} {kp : Option Nat} {w : wF} {n nd : Nat} (h : DR τ σ A nx kp w n nd) (hσ : ∀ x, x ≤ A + 40 ∨ A + 75 ≤ x → σ' x = σ x) (hb : BkN σ' (A + 40)) : DR τ σ' A nx kp w n nd := by
  obtain ⟨s1, hG, hR, hB, hT, hO, hN⟩ := h
  exact ⟨s1, hG, hR.fr (fun i hi => hσ _ (by omega)), hB.fr (fun i hi => hσ _ (by omega)), hT.fr (fun a ha _ => hσ a (by omega)) (fun _ _ _ => rfl), hO, hb⟩
theorem Rg.law {w : wF} {n nd : Nat} {v : Int32} (h : Rg w n nd) (hv : upTo v 1) : Rg (upd w 8 v) n nd := by
  have h12 := h.le12
  have h40 := h.le40
  refine ⟨h.1.fr (fun j hj => upd_ne (by omega)), h.2.1.fr (Nat.le_refl _) (fun j hj => upd_ne (by omega)), h.2.2.setv (by decide) ?_⟩
  refine ⟨fun q => absurd q (by decide), fun q => absurd q (by decide), fun q => absurd q (by decide), fun q => absurd q (by decide), fun _ => hv, fun q => absurd q (by decide)⟩
theorem think_two {τ : Tau} {σ ρ : Sig} {A nx : Nat} {kp : Option Nat} {w : wF} {n nd m law : Nat} (h : DR τ σ A nx kp w n nd) (hρ : ρ (A + 84 + 1) = w) (hm : m ≤ 30) (hl : law ≤ 1) : ∃ τ' σ' r w', X11_think_f τ σ nx A (nI m) (nI law) = some (τ', σ', nx) ∧ X12_leads_f (A + 84) (nI m) (nI law) ρ = some r ∧ (∀ x, x ≠ A + 68 → x ≠ A + 69 → τ' x = τ x) ∧ (∀ x, x ≤ A + 40 ∨ A + 75 ≤ x → σ' x = σ x) ∧ DR τ' σ' A nx kp w n nd ∧ (∀ k, k < 4 → σ' (A + 73) (3 + k) = w' (12 + k)) ∧ r (A + 84 + 1) = w ∧ (∀ k, k < 4 → r (A + 84 + 10) k = w' (12 + k) - w (12 + k)) ∧ (∀ x, x ≠ A + 85 → x ≠ A + 87 → x ≠ A + 91 → x ≠ A + 92 → x ≠ A + 94 → r x = ρ x) ∧ Cn (12 * (96 * m)) nd w w' := by
  obtain ⟨τ1, σ1, c1, c2, c3, c4, c5, c6, c7, c8, c9⟩ := h.copy
  have hG := c9.2.1
  obtain ⟨s, p1, p2, p3⟩ := @re_sets (A + 84) ρ
  -- the law in force, on both sides
  have e63 : wr σ1 (A + 63) 6 (nI law) (A + 40 + 23) = wr σ1 (A + 63) 6 (nI law) (A + 63) := by rw [show A + 40 + 23 = A + 63 by omega]
  have sw : s (A + 84 + 1) = w := by rw [p2 _ (by omega)]; exact hρ
  have hz : Z (A + 40) 0 (A + 84) n nd (wr σ1 (A + 63) 6 (nI law)) (wr s (A + 84 + 1) 8 (nI law)) (wr σ1 (A + 63) 6 (nI law)) (wr s (A + 84 + 1) 8 (nI law)) := by
    have hc : Cor n nd 23 6 8 := by simp [Cor]
    have hr := c5.put (v := nI law) hG.le12 hG.le40 hc
    rw [show A + 40 + 23 = A + 63 by omega] at hr
    refine ⟨by rw [wr_w, sw]; exact hG.law ⟨law, hl, rfl⟩, by rw [wr_w, sw]; exact hr, Or.inr ⟨rfl, ?_, ?_⟩, FrC.rf, FrR.rf⟩
    · unfold BkN; rw [wr_row (by omega)]; exact c6
    · obtain ⟨k, hk, ek⟩ := c7
      exact ⟨k, hk, by rw [wr_w, sw, upd_ne (by decide)]; exact ek⟩
  have hT : Txs τ1 (wr σ1 (A + 63) 6 (nI law)) A nx kp (A + 40) (wr s (A + 84 + 1) 8 (nI law) (A + 84 + 1)) := by
    rw [wr_w, sw]
    exact c8.fr (fun a ha _ => wr_row (by omega)) (fun j h1 h2 => upd_ne (by omega))
  have e96 : (nI m * 96 : Int32) = nI (96 * m) := by rw [show (96 : Int32) = nI 96 from rfl, pk_mul, Nat.mul_comm]
  have e96' : (96 * nI m : Int32) = nI (96 * m) := by rw [show (96 : Int32) = nI 96 from rfl, pk_mul]
  have g1 := c3.gr.2
  have t0 : tl τ1 (A + 40 + 33) 1 = 0 := c3.2.2.1.2.2.2.2.2.1.tl
  have base : Cn 0 nd w (wr s (A + 84 + 1) 8 (nI law) (A + 84 + 1)) := by
    rw [wr_w, sw]
    exact Cn.fr (upd_ne (by decide)) (upd_ne (by decide)) (fun d _ => upd_ne (by omega))
  have key := fuel_up (m := 96 * m) (C := fun fu c => ∀ σ' ρ' : Sig, Z (A + 40) 0 (A + 84) n nd (wr σ1 (A + 63) 6 (nI law)) (wr s (A + 84 + 1) 8 (nI law)) σ' ρ' → Cn (12 * c) nd w (ρ' (A + 84 + 1)) → Two (X11_think_b24 A fu (nI m) (nI c) τ1 σ' nx) (X12_leads_b14 (A + 84) fu (nI m) (nI c) ρ') (fun x y => ∃ ρ'', x.1 = τ1 ∧ x.2.2 = nx ∧ Z (A + 40) 0 (A + 84) n nd (wr σ1 (A + 63) 6 (nI law)) (wr s (A + 84 + 1) 8 (nI law)) x.2.1 ρ'' ∧ Cn (12 * (96 * m)) nd w (ρ'' (A + 84 + 1)) ∧ X12_leads_b34 (A + 84) FU 0 ρ'' = some y)) (fun fu σ' ρ' h1 h2 => ?_) (fun fu c hc ih σ' ρ' h1 h2 => ?_) (96 * m) 0 FU (by omega) (by unfold FU; omega)
  · rw [nI_0] at key
    obtain ⟨⟨τ', σ', nx'⟩, r, k1, k2, ρ2, k3, k4, k5, k6, k7⟩ := key _ _ hz (base.mono (by omega))
    dsimp only at k3 k4 k5 k6
    subst k3
    subst k4
    obtain ⟨-, -, kb, kc, kr⟩ := id k5
    have fr : ∀ x, x ≤ A + 40 ∨ A + 75 ≤ x → σ' x = σ x := fun x hx => by rw [kc x (by omega), wr_row (by omega), c4 x hx]
    have bn : BkN σ' (A + 40) := by
      rcases kb with ⟨q, -⟩ | ⟨-, q, -⟩
      · exact absurd q (by decide)
      · exact q
    -- the reference comes home
    have w3 : ∀ j, j < 2550 → ρ2 (A + 84 + 3) j = w j := fun j hj => by
      rw [kr.1 _ (by omega) (by omega) (by omega), wr_row (by omega), p3 j hj, hρ]
    have cm := fuel_up (m := 4) (C := fun fu k => ∀ r0 : Sig, (∀ x, x ≠ A + 84 + 10 → r0 x = ρ2 x) → (∀ j, j < k → r0 (A + 84 + 10) j = ρ2 (A + 84 + 1) (12 + j) - w (12 + j)) → ∃ r1, X12_leads_b34 (A + 84) fu (nI k) r0 = some r1 ∧ r1 (A + 84 + 1) = w ∧ (∀ j, j < 4 → r1 (A + 84 + 10) j = ρ2 (A + 84 + 1) (12 + j) - w (12 + j)) ∧ ∀ x, x ≠ A + 84 + 10 → x ≠ A + 84 + 1 → r1 x = ρ2 x) (fun fu r0 q1 q2 => ?_) (fun fu k hk ihk r0 q1 q2 => ?_) 4 0 FU (by omega) (by unfold FU; omega)
    · rw [nI_0] at cm
      obtain ⟨r1, m1, m2, m3, m4⟩ := cm ρ2 (fun _ _ => rfl) (fun j hj => absurd hj (by omega))
      obtain rfl : r = r1 := Option.some.inj (k7.symm.trans m1)
      refine ⟨τ', σ', r, ρ2 (A + 84 + 1), ?_, ?_, c2, fr, (c9.rows (fun x hx => by rw [fr x hx, c4 x hx]) bn), fun k hk => ?_, m2, m3, fun x h1 h2 h3 h4 h5 => ?_, k6⟩
      · unfold X11_think_f
        rw [h.1.gr.2, bsm, h.1.gr.1, bsm, chk_yes ⟨_, h.1.2.2.1.1⟩, c1, bsm]
        dsimp only
        rw [g1, bsm, gRs_of c3.2.2.1.1 rfl, bsm]
        have : dI τ' σ1 9 (A + 40 + 23) 6 (nI law) = some (wr σ1 (A + 63) 6 (nI law)) := by
          unfold dI; rw [c3.2.2.1.2.2.2.1.1]; simp [show A + 40 + 23 = A + 63 by omega]
        rw [this, bsm]
        exact k1
      · unfold X12_leads_f
        rw [p1, bsm, SW.2.2.2.2.1, bsm]
        exact k2
      · have : k = 0 ∨ k = 1 ∨ k = 2 ∨ k = 3 := by omega
        obtain ⟨-, -, -, -, -, -, -, -, -, a1, a2, a3, a4⟩ := k5.sca
        rw [show A + 40 + 33 = A + 73 by omega] at a1 a2 a3 a4
        rcases this with rfl | rfl | rfl | rfl
        · exact a1
        · exact a2
        · exact a3
        · exact a4
      · rw [m4 x (by omega) (by omega), kr.1 x (by omega) (by omega) (by omega), wr_row (by omega), p2 x (by omega)]
    · obtain ⟨r1, b1, b2, b3, b4⟩ := @re_back (A + 84) r0
      refine ⟨r1, ?_, ?_, fun j hj => by rw [b2 _ (by omega)]; exact q2 j hj, fun x h1 h2 => by rw [b2 x h2]; exact q1 x h1⟩
      · unfold X12_leads_b34; rw [if_pos (show (4 : Int32) ≤ nI 4 from Int32.le_refl _), b1, bsm]
      · funext j
        by_cases c : j < 2550
        · rw [b3 j c, q1 _ (by omega), w3 j c]
        · rw [b4 j (by omega), q1 _ (by omega), kr.2 j (by omega), wr_o (by omega), sw]
    · unfold X12_leads_b34
      rw [if_neg (show ¬ (4 : Int32) ≤ nI k from nI_ge (b := 4) hk (by decide)), show (12 + nI k : Int32) = nI (12 + k) from nI_add 12 k, ldn (by omega) (by decide), bsm, ldn (by omega) (by decide), bsm, stn hk (by decide), bsm, nI_s]
      refine ihk _ (fun x hx => by rw [wr_row hx]; exact q1 x hx) (fun j hj => ?_)
      by_cases e : j = k
      · subst e; rw [wr_v, q1 _ (by omega), q1 _ (by omega), w3 _ (by omega)]
      · rw [wr_o e]; exact q2 j (by omega)
  · have hx : ∃ y, X12_leads_b34 (A + 84) FU 0 ρ' = some y := by
      have w3 : ∀ j, j < 2550 → ρ' (A + 84 + 3) j = ρ' (A + 84 + 3) j := fun _ _ => rfl
      have cm := fuel_up (m := 4) (C := fun fu k => ∀ r0 : Sig, ∃ r1, X12_leads_b34 (A + 84) fu (nI k) r0 = some r1) (fun fu r0 => ?_) (fun fu k hk ihk r0 => ?_) 4 0 FU (by omega) (by unfold FU; omega)
      · rw [nI_0] at cm; exact cm ρ'
      · obtain ⟨r1, b1, -⟩ := @re_back (A + 84) r0
        refine ⟨r1, ?_⟩
        unfold X12_leads_b34; rw [if_pos (show (4 : Int32) ≤ nI 4 from Int32.le_refl _), b1, bsm]
      · unfold X12_leads_b34
        rw [if_neg (show ¬ (4 : Int32) ≤ nI k from nI_ge (b := 4) hk (by decide)), show (12 + nI k : Int32) = nI (12 + k) from nI_add 12 k, ldn (by omega) (by decide), bsm, ldn (by omega) (by decide), bsm, stn hk (by decide), bsm, nI_s]
        exact ihk _
    obtain ⟨y, hy⟩ := hx
    refine ⟨(τ1, σ', nx), y, ?_, ?_, ρ', rfl, rfl, h1, h2, hy⟩
    · unfold X11_think_b24; rw [e96, if_pos (Int32.le_refl _)]
    · unfold X12_leads_b14; rw [e96', if_pos (Int32.le_refl _), hy]
  · unfold X11_think_b24 X12_leads_b14
    rw [e96, if_neg (nI_ge hc (by omega)), e96', if_neg (nI_ge hc (by omega)), g1, bsm, t0, chk_yes c3.2.2.1, nI_s]
    refine two_bind (pass_two h1 hT ⟨by omega, by omega⟩) (fun s' r' hsr => ?_)
    exact ih s' r' hsr.1 ((h2.tr hsr.2).mono (by omega))
