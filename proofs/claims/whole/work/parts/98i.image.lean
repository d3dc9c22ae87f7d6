/-! image answers alike. -/
theorem ob_lt {τ : Tau} {nx b ci : Nat} {rs : List (Option (Option Nat))} (h4 : ∀ a, nx ≤ a → τ a = none) (h : τ b = some (.inl (ci, rs))) : b < nx := by
  rcases Nat.lt_or_ge b nx with q | q
  · exact q
  · rw [h4 b q] at h; cases h
theorem st_image (A b : Nat) : St_image (Inv A b) A (A + 84) := by
  intro h v1 hI
  obtain ⟨τ, σ, nx⟩ := h
  show ∃ (r : Int32) (h1 h2 : Hp), X11_image_f τ σ nx A (bz v1) = some (r, h1) ∧ ShX12 h1.1 (A + 84) ∧ ((X12_image_f (A + 84) (bz v1) h1.2.1).bind fun p => some (p.1, ((h1.1, p.2, h1.2.2) : Hp))) = some (r, h2) ∧ Inv A b h2
  obtain ⟨g1, g2, g3, ⟨g4, g4', g4''⟩, g5, g6, g7, g8, g9, g10⟩ := id hI
  dsimp only at g1 g2 g3 g4 g4' g4'' g5 g6 g7 g8 g9 g10
  have gk : gR τ 11 A 2 = some (rfld τ A 2) := gR_of g1.1 rfl
  have s5 := g1.2.1
  have s40 := g1.2.2.1
  have hbz : bz v1 = 0 ∨ bz v1 = 1 := by unfold bz; split; exact Or.inl rfl; exact Or.inr rfl
  cases hq : rfld τ A 2 with
  | none =>
    rw [hq] at g10 gk g5
    have g10 : σ (A + 84) 3 = 0 := g10
    rcases hbz with e0 | e0
    · -- there is none
      rw [e0]
      refine ⟨0, (τ, σ, nx), (τ, σ, nx), ?_, g2, ?_, hI⟩
      · unfold X11_image_f; rw [if_pos rfl, gk, bsm]; rfl
      · dsimp only; unfold X12_image_f; rw [if_pos rfl, if_pos g10, bsm]
    · -- the first one is taken
      rw [e0]
      obtain ⟨n, nd, hG, hR, hB, hT, hBr, hF⟩ := id g5
      obtain ⟨t0, q1, q2, q3⟩ := hT 0 (by decide)
      have ht0 : t0 < nx := by have := q2.2.1; omega
      have obt : isOb τ 7 (some t0) = true := by rw [← q1]; exact hT.ob 0 (by decide)
      have hal : ∀ x, x ≠ nx → al τ nx (.inl (10, rsX10)) x = τ x := fun x hx => al_ne hx
      obtain ⟨t25, s26, m1, m2, m3, m4, m5, m6, -, -, -, -, -, m12, -⟩ := make10 (τ := al τ nx (.inl (10, rsX10))) (σ := zr σ nx) (a := nx) (nx := nx + 1) (r := t0) (cap := 400) (x1 := 400) al_eq rfl (isOb_fr obt (fun b rs e q => hal b (by cases e; omega))) ht0 (by decide) (by decide)
      have c25 : ∀ x, x < nx → t25 x = τ x := fun x hx => by rw [m3 x (by omega), hal x (by omega)]
      have aA : t25 A = some (.inl (11, [some (some (A + 5)), some (some (A + 40)), some (rfld τ A 2), some (some (A + 75)), some (some (A + 77))])) := by rw [c25 A (by omega)]; exact g1.1
      have a29 := setR_eq (kf := 2) (r := some nx) aA
      generalize hT29 : setR t25 A 2 (some nx) = t29 at a29
      have a29 : t29 A = some (.inl (11, [some (some (A + 5)), some (some (A + 40)), some (some nx), some (some (A + 75)), some (some (A + 77))])) := a29
      have o29 : ∀ x, x ≠ A → t29 x = t25 x := fun x hx => by rw [← hT29, setR_ne hx]
      have c29 : ∀ x, x ≠ A → x < nx → t29 x = τ x := fun x h1 h2 => by rw [o29 x h1, c25 x h2]
      have s26o : ∀ x, x < nx → s26 x = σ x := fun x hx => by rw [m6 x (by omega), zr_ne (by omega)]
      have sh5 : ShX10 t29 (A + 5) 2000 := s5.same (fun x h1 h2 => c29 x (by omega) (by omega))
      have shn : ShX10 t29 nx 2000 := m2.same (fun x h1 h2 => o29 x (by omega))
      have ob29 : ∀ ci b rs, τ b = some (.inl (ci, rs)) → b ≠ A → t29 b = τ b := fun ci b rs q hb => c29 b hb (ob_lt g4 q)
      have neA : ∀ ci b rs, ci ≠ 11 → τ b = some (.inl (ci, rs)) → b ≠ A := fun ci b rs hc q z => by
        subst z; rw [g1.1] at q; cases q; exact hc rfl
      have hO29 : ObR t29 (A + 5) := g4'.tau (fun b rs q => ob29 0 b rs q (neA 0 b rs (by decide) q)) (c29 _ (by omega) (by omega))
      have hOT29 : ∀ j, j < 6 → isOb t29 7 (rcon t29 (A + 5 + 29) j) = true := fun j hj => by
        rw [rcon_eq (c29 (A + 5 + 29) (by omega) (by omega))]
        exact isOb_fr (hT.ob j hj) (fun b rs _ q => ob29 7 b rs q (neA 7 b rs (by decide) q))
      obtain ⟨τ', σ', k1, k2, k3, k4, k5, k6, k7, k8, k9, k10⟩ := copy_world (nx := nx + 35) (w := σ (A + 84 + 1)) (n := n) (nd := nd) shn sh5 (by omega) (Or.inl ⟨rfl, m12⟩) hG.le12 hG.le40 (hR.fr (fun i hi => s26o _ (by omega))) (hB.fr (fun i hi => s26o _ (by omega))) hO29 hOT29
      have kB : BkF σ' nx (σ (A + 84 + 1)) := by
        rcases k8 with ⟨-, q⟩ | ⟨q, -⟩
        · exact q
        · exact absurd q (by decide)
      have cT : ∀ x, x ≠ A → x < nx → τ' x = τ x := fun x h1 h2 => by rw [k2 x (by omega) (by omega), c29 x h1 h2]
      have cS : ∀ x, x < nx → σ' x = σ x := fun x hx => by rw [k6 x (by omega), s26o x hx]
      obtain ⟨r, r1, r2, r3, r4, -, r5⟩ := re_img (B := A + 84) (x := 1) (σ := σ') (Or.inr rfl)
      obtain ⟨r6, r7⟩ := r5 rfl
      have tA : τ' A = some (.inl (11, [some (some (A + 5)), some (some (A + 40)), some (some nx), some (some (A + 75)), some (some (A + 77))])) := by rw [k2 A (by omega) (by omega)]; exact a29
      have kq : rfld τ' A 2 = some nx := rfld_of tA rfl
      have rw1 : r (A + 84 + 1) = σ (A + 84 + 1) := by rw [r7]; exact cS _ (by omega)
      have ro : ∀ x, x ≠ A + 84 → x ≠ A + 86 → x < nx → r x = σ x := fun x h1 h2 h3 => by
        by_cases e : x = A + 85
        · subst e; exact rw1
        · rw [r4 x h1 (by omega) (by omega)]; exact cS x h3
      have rn : ∀ i, i < 35 → r (nx + i) = σ' (nx + i) := fun i hi => r4 _ (by omega) (by omega) (by omega)
      have hkp : keepA A nx none τ τ' σ r := fun a h1 h2 _ => ⟨cT a (by omega) h1, ro a (by omega) (by omega) h1⟩
      have hap : ∀ t len, 0 < len → apart A nx none t len → apart A (nx + 35) (some nx) t len := fun t len _ h => ⟨h.1, by have := h.2.1; omega, fun q hq => by cases hq; exact Or.inl h.2.1⟩
      have rB : ∀ j, j ≠ 3 → r (A + 84) j = σ (A + 84) j := fun j hj => by rw [r3 j hj, cS _ (by omega)]
      have hI2 : Inv A b (τ', r, nx + 35) := by
        refine ⟨?_, ?_, ?_, ⟨fun a ha => ?_, ?_, ?_⟩, ?_, ?_, ?_, ?_, ?_, ?_⟩
        · exact g1.fr (by dsimp only; rw [kq]; exact tA) (s5.same (fun x h1 h2 => cT x (by omega) (by omega))) (s40.same (fun x h1 h2 => cT x (by omega) (by omega))) (fun x h1 h2 => cT x (by omega) (by omega))
        · exact g2.fr (fun x h1 h2 => cT x (by omega) (by omega))
        · dsimp only; omega
        · dsimp only at ha ⊢
          rw [k2 a (by omega) (by omega), o29 a (by omega), m3 a (by omega), hal a (by omega)]; exact g4 a (by omega)
        · exact g4'.tau (fun b rs q => cT b (neA 0 b rs (by decide) q) (ob_lt g4 q)) (cT _ (by omega) (by omega))
        · dsimp only; rw [ro _ (by omega) (by omega) (by omega)]; exact g4''
        · dsimp only
          rw [kq, rw1]
          exact g5.cp hkp hap (fun j _ => by rw [rcon_eq (cT (A + 5 + 28) (by omega) (by omega))]) (fun j _ => by rw [rcon_eq (cT (A + 5 + 29) (by omega) (by omega))]) (fun n nd _ h => h.fr (fun i hi => ro _ (by omega) (by omega) (by omega))) (fun h => h.fr (fun i hi => ro _ (by omega) (by omega) (by omega))) (by rw [ro _ (by omega) (by omega) (by omega)])
        · dsimp only; unfold BkN; rw [ro _ (by omega) (by omega) (by omega)]; exact g6
        · dsimp only; exact g7.fr (ro _ (by omega) (by omega) (by omega)) (ro _ (by omega) (by omega) (by omega)) (rB 12 (by decide)) (ro _ (by omega) (by omega) (by omega))
        · dsimp only; rw [ro _ (by omega) (by omega) (by omega), rB 19 (by decide)]; exact g8
        · dsimp only; rw [ro _ (by omega) (by omega) (by omega), rB 21 (by decide)]; exact g9
        · dsimp only
          rw [kq]
          refine ⟨r2, g3, Nat.le_refl _, ⟨k3, ?_, ?_⟩, ?_⟩
          · intro j hj
            rw [show nx + 27 + 1 = nx + 28 by omega, k4 j hj]
            refine isOb_fr (τ := τ) ?_ (fun b rs _ q => cT b (neA 0 b rs (by decide) q) (ob_lt g4 q))
            rw [rcon_eq (c29 (A + 5 + 28) (by omega) (by omega))]; exact g4' j hj
          · rw [rn 33 (by decide)]; exact k10.trans m12
          · refine (Wd.cp (T := nx) (w := σ (A + 84 + 1)) g5 hkp hap (fun j hj => ?_) (fun j hj => ?_) (fun n' nd' hG' _ => ?_) (fun _ => kB.fr rn) ?_).cw (fun j hj => ?_)
            · rw [k4 j hj, rcon_eq (c29 (A + 5 + 28) (by omega) (by omega))]
            · rw [k5 j hj, rcon_eq (c29 (A + 5 + 29) (by omega) (by omega))]
            · obtain ⟨rfl, rfl⟩ := hG.uniq hG'
              exact k7.fr rn
            · rw [rn 27 (by decide), k9, s26o _ (by omega)]
            · rw [r6 j hj, cS _ (by omega)]
      refine ⟨1, (τ', σ', nx + 35), (τ', r, nx + 35), ?_, hI2.s2, ?_, hI2⟩
      · have l0 : ldrD (al τ nx (.inl (10, rsX10))) 7 (A + 5 + 29) 0 = some (rcon τ (A + 5 + 29) 0) := ldrD_of (i := 0) (by rw [hal _ (by omega)]; exact s5.2.2.2.2.2.2.2.1) (by decide) (by decide)
        unfold X11_image_f X11_image_b34
        rw [if_neg n10, gk, bsm]
        show ((gRs (al τ nx (.inl (10, rsX10))) 11 A 0).bind fun b18 => _) = _
        rw [gRs_of (by rw [hal A (by omega)]; exact g1.1) rfl, bsm, gRs_of (by rw [hal _ (by omega)]; exact s5.1) rfl, bsm, l0, bsm, q1, bsm, m1, bsm]
        dsimp only
        rw [dR_of aA rfl, bsm, hT29, gR_of a29 rfl, bsm, gRs_of a29 rfl, bsm, bsm, chk_yes ⟨_, shn.1⟩, k1, bsm]
      · dsimp only
        unfold X12_image_f
        rw [if_neg n10, r1, bsm]
  | some q =>
    rw [hq] at g10 gk g5
    obtain ⟨h3, kA, kN, ⟨kS, kO, k400⟩, kW⟩ := g10
    have obT : ∀ a T : Nat, ShX10 τ T a → ∀ ci b rs, τ b = some (.inl (ci, rs)) → b ≠ T + 28 ∧ b ≠ T + 29 := fun a T hS ci b rs q => by
      refine ⟨fun z => ?_, fun z => ?_⟩
      · have e := hS.2.2.2.2.2.2.1.2
        rw [show T + 27 + 1 = T + 28 by omega, ← z, q] at e; cases e
      · have e := hS.2.2.2.2.2.2.2.1
        rw [← z, q] at e; cases e
    rcases hbz with e0 | e0
    · -- back to it
      rw [e0]
      obtain ⟨n, nd, hG, hR, hB, hT, hBr, hF⟩ := id kW
      obtain ⟨τ', σ', k1, k2, k3, k4, k5, k6, k7, k8, k9, k10⟩ := copy_world (nx := nx) (a := A + 5) (r := q) s5 kS (by omega) (Or.inl ⟨rfl, g5.choose_spec.choose_spec.2.2.1.1⟩) hG.le12 hG.le40 hR hB kO hT.ob
      have kB : BkF σ' (A + 5) (σ (A + 84 + 2)) := by
        rcases k8 with ⟨-, z⟩ | ⟨z, -⟩
        · exact z
        · exact absurd z (by decide)
      obtain ⟨r, r1, r2, r3, r4, r5, -⟩ := re_img (B := A + 84) (x := 0) (σ := σ') (Or.inl rfl)
      obtain ⟨r6, r7⟩ := r5 rfl
      have cT : ∀ x, x ≠ A + 33 → x ≠ A + 34 → τ' x = τ x := fun x h1 h2 => k2 x (by omega) (by omega)
      have cS : ∀ x, x ≤ A + 5 ∨ A + 40 ≤ x → σ' x = σ x := fun x hx => k6 x (by omega)
      have ro : ∀ x, (x ≤ A + 5 ∨ A + 40 ≤ x) → x ≠ A + 84 → x ≠ A + 85 → r x = σ x := fun x h0 h1 h2 => by
        by_cases e : x = A + 86
        · subst e; rw [show A + 86 = A + 84 + 2 by omega, r7]; exact cS _ (by omega)
        · rw [r4 x h1 (by omega) (by omega)]; exact cS x h0
      have rn : ∀ i, i < 35 → r (A + 5 + i) = σ' (A + 5 + i) := fun i hi => r4 _ (by omega) (by omega) (by omega)
      have tA : τ' A = τ A := cT A (by omega) (by omega)
      have kq : rfld τ' A 2 = some q := by unfold rfld at hq ⊢; rw [tA]; exact hq
      have hkp : keepA A nx (some q) τ τ' σ r := fun a h1 h2 _ => ⟨cT a (by omega) (by omega), ro a (by omega) (by omega) (by omega)⟩
      have rB : ∀ j, j ≠ 3 → r (A + 84) j = σ (A + 84) j := fun j hj => by rw [r3 j hj, cS _ (by omega)]
      have ob : ∀ b rs, τ b = some (.inl (0, rs)) → τ' b = τ b := fun b rs z => by
        obtain ⟨z1, z2⟩ := obT 2000 (A + 5) s5 0 b rs z
        exact cT b (by omega) (by omega)
      have hI2 : Inv A b (τ', r, nx) := by
        refine ⟨?_, ?_, g3, ⟨fun a ha => ?_, ?_, ?_⟩, ?_, ?_, ?_, ?_, ?_, ?_⟩
        · exact g1.fr (by dsimp only; rw [tA, kq, ← hq]; exact g1.1) k3 (s40.same (fun x h1 h2 => cT x (by omega) (by omega))) (fun x h1 h2 => cT x (by omega) (by omega))
        · exact g2.fr (fun x h1 h2 => cT x (by omega) (by omega))
        · dsimp only at ha ⊢; rw [cT a (by omega) (by omega)]; exact g4 a ha
        · intro j hj
          rw [show A + 5 + 27 + 1 = A + 5 + 28 by omega, k4 j hj]
          exact isOb_fr (kO j hj) (fun b rs _ z => ob b rs z)
        · dsimp only; rw [ro _ (by omega) (by omega) (by omega)]; exact g4''
        · dsimp only
          rw [kq]
          refine (Wd.cp (T := A + 5) (w := σ (A + 84 + 2)) kW hkp (fun _ _ _ h => h) k4 k5 (fun n' nd' hG' _ => ?_) (fun _ => kB.fr rn) (by rw [rn 27 (by decide), k9])).cw (fun j hj => ?_)
          · obtain ⟨rfl, rfl⟩ := hG.uniq hG'
            exact k7.fr rn
          · rw [r6 j hj, cS _ (by omega)]
        · dsimp only; unfold BkN; rw [ro _ (by omega) (by omega) (by omega)]; exact g6
        · dsimp only; exact g7.fr (ro _ (by omega) (by omega) (by omega)) (ro _ (by omega) (by omega) (by omega)) (rB 12 (by decide)) (ro _ (by omega) (by omega) (by omega))
        · dsimp only; rw [ro _ (by omega) (by omega) (by omega), rB 19 (by decide)]; exact g8
        · dsimp only; rw [ro _ (by omega) (by omega) (by omega), rB 21 (by decide)]; exact g9
        · dsimp only
          rw [kq]
          refine ⟨r2, kA, kN, ⟨kS.same (fun x h1 h2 => cT x (by omega) (by omega)), kO.tau ob (cT _ (by omega) (by omega)), by rw [ro _ (by omega) (by omega) (by omega)]; exact k400⟩, ?_⟩
          rw [ro (A + 84 + 2) (by omega) (by omega) (by omega)]
          exact kW.cp hkp (fun _ _ _ h => h) (fun j _ => by rw [rcon_eq (cT (q + 28) (by omega) (by omega))]) (fun j _ => by rw [rcon_eq (cT (q + 29) (by omega) (by omega))]) (fun n nd _ h => h.fr (fun i hi => ro _ (by omega) (by omega) (by omega))) (fun h => h.fr (fun i hi => ro _ (by omega) (by omega) (by omega))) (by rw [ro _ (by omega) (by omega) (by omega)])
      refine ⟨1, (τ', σ', nx), (τ', r, nx), ?_, hI2.s2, ?_, hI2⟩
      · unfold X11_image_f
        rw [if_pos rfl, gk, bsm]
        show ((gRs τ 11 A 0).bind fun b5 => _) = _
        rw [g1.gr.1, bsm, bsm, bsm, chk_yes ⟨_, s5.1⟩, k1, bsm]
      · dsimp only
        unfold X12_image_f
        rw [if_pos rfl, cS _ (by omega), h3, if_neg n10, r1, bsm]
    · -- taken anew
      rw [e0]
      obtain ⟨n, nd, hG, hR, hB, hT, hBr, hF⟩ := id g5
      obtain ⟨τ', σ', k1, k2, k3, k4, k5, k6, k7, k8, k9, k10⟩ := copy_world (nx := nx) (a := q) (r := A + 5) kS s5 (by omega) (Or.inl ⟨rfl, k400⟩) hG.le12 hG.le40 hR hB g4' hT.ob
      have kB : BkF σ' q (σ (A + 84 + 1)) := by
        rcases k8 with ⟨-, z⟩ | ⟨z, -⟩
        · exact z
        · exact absurd z (by decide)
      obtain ⟨r, r1, r2, r3, r4, -, r5⟩ := re_img (B := A + 84) (x := 1) (σ := σ') (Or.inr rfl)
      obtain ⟨r6, r7⟩ := r5 rfl
      have cS : ∀ x, x ≤ q ∨ q + 35 ≤ x → σ' x = σ x := k6
      have ro : ∀ x, (x ≤ q ∨ q + 35 ≤ x) → x ≠ A + 84 → x ≠ A + 86 → r x = σ x := fun x h0 h1 h2 => by
        by_cases e : x = A + 85
        · subst e; rw [show A + 85 = A + 84 + 1 by omega, r7]; exact cS _ (by omega)
        · rw [r4 x h1 (by omega) (by omega)]; exact cS x h0
      have rn : ∀ i, i < 35 → r (q + i) = σ' (q + i) := fun i hi => r4 _ (by omega) (by omega) (by omega)
      have tA : τ' A = τ A := k2 A (by omega) (by omega)
      have kq : rfld τ' A 2 = some q := by unfold rfld at hq ⊢; rw [tA]; exact hq
      have hkp : keepA A nx (some q) τ τ' σ r := fun a h1 h2 h3 => by
        have := h3 q rfl
        exact ⟨k2 a (by omega) (by omega), ro a (by omega) (by omega) (by omega)⟩
      have rB : ∀ j, j ≠ 3 → r (A + 84) j = σ (A + 84) j := fun j hj => by rw [r3 j hj, cS _ (by omega)]
      have ob : ∀ b rs, τ b = some (.inl (0, rs)) → τ' b = τ b := fun b rs z => by
        obtain ⟨z1, z2⟩ := obT 2000 q kS 0 b rs z
        exact k2 b z1 z2
      have hI2 : Inv A b (τ', r, nx) := by
        refine ⟨?_, ?_, g3, ⟨fun a ha => ?_, ?_, ?_⟩, ?_, ?_, ?_, ?_, ?_, ?_⟩
        · exact g1.fr (by dsimp only; rw [tA, kq, ← hq]; exact g1.1) (s5.same (fun x h1 h2 => k2 x (by omega) (by omega))) (s40.same (fun x h1 h2 => k2 x (by omega) (by omega))) (fun x h1 h2 => k2 x (by omega) (by omega))
        · exact g2.fr (fun x h1 h2 => k2 x (by omega) (by omega))
        · dsimp only at ha ⊢; rw [k2 a (by omega) (by omega)]; exact g4 a ha
        · exact g4'.tau ob (k2 _ (by omega) (by omega))
        · dsimp only; rw [ro _ (by omega) (by omega) (by omega)]; exact g4''
        · dsimp only
          rw [kq, ro (A + 84 + 1) (by omega) (by omega) (by omega)]
          exact g5.cp hkp (fun _ _ _ h => h) (fun j _ => by rw [rcon_eq (k2 (A + 5 + 28) (by omega) (by omega))]) (fun j _ => by rw [rcon_eq (k2 (A + 5 + 29) (by omega) (by omega))]) (fun n nd _ h => h.fr (fun i hi => ro _ (by omega) (by omega) (by omega))) (fun h => h.fr (fun i hi => ro _ (by omega) (by omega) (by omega))) (by rw [ro _ (by omega) (by omega) (by omega)])
        · dsimp only; unfold BkN; rw [ro _ (by omega) (by omega) (by omega)]; exact g6
        · dsimp only; exact g7.fr (ro _ (by omega) (by omega) (by omega)) (ro _ (by omega) (by omega) (by omega)) (rB 12 (by decide)) (ro _ (by omega) (by omega) (by omega))
        · dsimp only; rw [ro _ (by omega) (by omega) (by omega), rB 19 (by decide)]; exact g8
        · dsimp only; rw [ro _ (by omega) (by omega) (by omega), rB 21 (by decide)]; exact g9
        · dsimp only
          rw [kq]
          refine ⟨r2, kA, kN, ⟨k3, fun j hj => ?_, by rw [rn 33 (by decide)]; exact k10.trans k400⟩, ?_⟩
          · rw [show q + 27 + 1 = q + 28 by omega, k4 j hj]
            exact isOb_fr (g4' j hj) (fun b rs _ z => ob b rs z)
          · refine (Wd.cp (T := q) (w := σ (A + 84 + 1)) g5 hkp (fun _ _ _ h => h) k4 k5 (fun n' nd' hG' _ => ?_) (fun _ => kB.fr rn) (by rw [rn 27 (by decide), k9])).cw (fun j hj => ?_)
            · obtain ⟨rfl, rfl⟩ := hG.uniq hG'
              exact k7.fr rn
            · rw [r6 j hj, cS _ (by omega)]
      refine ⟨1, (τ', σ', nx), (τ', r, nx), ?_, hI2.s2, ?_, hI2⟩
      · unfold X11_image_f X11_image_b34
        rw [if_neg n10, gk, bsm]
        show ((some (some q)).bind fun r1 => _) = _
        rw [bsm, g1.gr.1, bsm, bsm, bsm, chk_yes ⟨_, kS.1⟩, k1, bsm]
      · dsimp only
        unfold X12_image_f
        rw [if_neg n10, r1, bsm]
