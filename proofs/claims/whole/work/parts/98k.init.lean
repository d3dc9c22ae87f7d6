/-! THE INVARIANT holds at the start. -/
theorem init_ok (b : Nat) : InitOk (fun base => Inv base b) := by
  intro A
  obtain ⟨τ1, σ1, c1, s11, kq, o1, p7, r29, r28, w1, w2, z1, z2, z75, z77, z77', z79, f1⟩ := make11 (τ := al (fun _ => none) A (.inl (11, rsX11))) (σ := zr (fun _ _ => 0) A) (A := A) al_eq
  obtain ⟨τ2, σ2, c2, s12, o2, f2, ew, e3, e12, e19, e21⟩ := make12 (τ := al τ1 (A + 84) (.inl (12, rsX12))) (σ := zr σ1 (A + 84)) (B := A + 84) al_eq (fun j => zr_eq)
  have oT : ∀ x, x < A + 84 → τ2 x = τ1 x := fun x hx => by rw [o2 x (by omega), al_ne (by omega)]
  have oS : ∀ x, x < A + 84 → σ2 x = σ1 x := fun x hx => by rw [f2 x (by omega), zr_ne (by omega)]
  have kq2 : rfld τ2 A 2 = none := by unfold rfld at kq ⊢; rw [oT A (by omega)]; exact kq
  have w1' : W0 σ2 (A + 5) 400 := w1.fr (fun x h1 h2 => oS x (by omega))
  have w2' : W0 σ2 (A + 40) 0 := w2.fr (fun x h1 h2 => oS x (by omega))
  refine ⟨(τ1, σ1, A + 84), (τ2, σ2, A + 95), c1, rfl, c2, ?_⟩
  obtain ⟨a1, a2, a3, a4, a5, a6, a7⟩ := w1'
  have i0 : (0 : Int32) = nI 0 := rfl
  refine ⟨?_, s12, Nat.le_refl _, ⟨fun a ha => ?_, fun j hj => ?_, ?_⟩, ?_, ⟨w2'.2.2.2.2.2.1, w2'.2.2.2.2.2.2 2 (by decide)⟩, ?_, ?_, ?_, ?_⟩
  · exact s11.fr (by dsimp only; rw [oT A (by omega), kq2, ← kq]; exact s11.1) (s11.2.1.same (fun x h1 h2 => oT x (by omega))) (s11.2.2.1.same (fun x h1 h2 => oT x (by omega))) (fun x h1 h2 => oT x (by omega))
  · dsimp only at ha ⊢
    rw [o2 a (by omega), al_ne (by omega), o1 a (by omega), al_ne (by omega)]
  · dsimp only
    rw [show A + 5 + 27 + 1 = A + 5 + 28 by omega, rcon_eq (oT (A + 5 + 28) (by omega)), r28 j]; rfl
  · dsimp only; rw [oS _ (by omega)]; exact z79 0
  · dsimp only
    rw [kq2, ew]
    refine ⟨0, 0, ⟨⟨by omega, rfl, fun p hp => absurd hp (by omega)⟩, ⟨by omega, rfl, fun d hd => absurd hd (by omega)⟩, fun t ht => ⟨0, by omega, ?_⟩, Or.inl rfl, ⟨0, by omega, rfl⟩, ⟨0, by omega, rfl⟩, ⟨0, by omega, rfl⟩, ⟨0, by omega, rfl⟩, fun j hj => ?_, ⟨0, by omega, rfl⟩⟩, ⟨⟨a1 1 (by decide) (by decide) (by decide) (by decide) (by decide) 0, fun p hp => absurd hp (by omega)⟩, ⟨a1 12 (by decide) (by decide) (by decide) (by decide) (by decide) 0, fun d hd => absurd hd (by omega)⟩, ⟨fun j hj => ?_, fun t ht => ?_, a2, a3, a4 4 (by decide) (by decide), a4 5 (by decide) (by decide), a4 6 (by decide) (by decide), a1 26 (by decide) (by decide) (by decide) (by decide) (by decide) 0, a1 26 (by decide) (by decide) (by decide) (by decide) (by decide) 1, a1 26 (by decide) (by decide) (by decide) (by decide) (by decide) 2, a1 26 (by decide) (by decide) (by decide) (by decide) (by decide) 3⟩, a7 3 (by decide), a7 4 (by decide), a7 5 (by decide), a7 6 (by decide)⟩, ⟨a6, a7 2 (by decide), 0, by omega, rfl, fun j hj => absurd hj (by omega)⟩, fun k hk => ?_, ⟨0, fun _ => 0, fun _ => false, by omega, a1 27 (by decide) (by decide) (by decide) (by decide) (by decide) 0, rfl, fun j hj => absurd hj (by omega), fun j hj => absurd hj (by omega), fun j hj => absurd hj (by omega)⟩, ⟨0, by omega, rfl⟩, ⟨0, by omega, rfl⟩⟩
    · unfold w00; rw [if_neg (by omega), if_neg (by omega), if_neg (by omega), if_neg (by omega)]; rfl
    · unfold w00
      rw [if_neg (by omega), if_neg (by omega), if_pos (by omega)]
      unfold wl0
      split
      · exact ⟨0, by omega, rfl⟩
      · exact ⟨20, by omega, rfl⟩
    · rw [show A + 5 + 23 + 1 = A + 5 + 24 by omega, a5 j hj]
      unfold w00; rw [if_neg (by omega), if_neg (by omega), if_pos (by omega)]; congr 1; omega
    · rw [show A + 5 + 23 + 2 = A + 5 + 25 by omega, a1 25 (by decide) (by decide) (by decide) (by decide) (by decide) t]
      unfold w00; rw [if_neg (by omega), if_neg (by omega), if_neg (by omega), if_neg (by omega)]
    · refine ⟨A + 1, by rw [rcon_eq (oT (A + 5 + 29) (by omega))]; exact r29 k hk, ⟨Or.inl ⟨by omega, by omega⟩, by omega, fun q hq => by cases hq⟩, 0, 0, fun _ => 0, fun _ => 0, fun _ => 0, by omega, by omega, ?_, by rw [oS _ (by omega)]; exact z1 0, ?_, rfl, rfl, fun l hl => ?_, fun l hl => absurd hl (by omega), fun i hi => absurd hi (by omega)⟩
      · unfold ShX7 at p7 ⊢
        rw [oT _ (by omega), oT _ (by omega), oT _ (by omega), oT _ (by omega)]; exact p7
      · unfold w00; rw [if_neg (by omega), if_neg (by omega), if_neg (by omega), if_neg (by omega)]; rfl
      · rw [oS _ (by omega)]; exact z2 l
  · dsimp only
    exact ⟨0, by omega, by rw [oS _ (by omega)]; exact z75 1, e12, fun j hj => absurd hj (by omega)⟩
  · dsimp only; rw [oS _ (by omega), e19]; exact z77
  · dsimp only; rw [oS _ (by omega), e21]; exact z77'
  · dsimp only; rw [kq2]; exact e3
