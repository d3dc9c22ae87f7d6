/-! ONE REGION OF A WORLD CHANGED, THE OTHERS AS THEY WERE. -/
theorem Tpe.fr {σ σ' : Sig} {A B : Nat} (h : Tpe σ A B) (h1 : σ' (A + 75) = σ (A + 75)) (h2 : σ' (A + 75 + 1) = σ (A + 75 + 1)) (h3 : σ' B 12 = σ B 12) (h4 : σ' (B + 6) = σ (B + 6)) : Tpe σ' A B := by
  obtain ⟨k, g1, g2, g3, g4⟩ := h
  exact ⟨k, g1, by rw [h1]; exact g2, by rw [h3]; exact g3, by rw [h2, h4]; exact g4⟩
/-- rows of the now world, the reference's row and its scratch rows alone have changed -/
theorem Inv.go1 {A b : Nat} {τ : Tau} {σ σ' : Sig} {nx : Nat} (hI : Inv A b (τ, σ, nx)) (hN : ∀ a, (a < A + 5 ∨ A + 40 ≤ a) → a ≠ A + 85 → a ≠ A + 91 → a ≠ A + 92 → a ≠ A + 93 → a ≠ A + 94 → σ' a = σ a) (hW : Wd b τ σ' A nx (rfld τ A 2) (A + 5) (σ' (A + 84 + 1))) : Inv A b (τ, σ', nx) := by
  obtain ⟨-, -, -, -, -, g6, g7, g8, g9, -⟩ := id hI
  have eB : σ' (A + 84) = σ (A + 84) := hN _ (by omega) (by omega) (by omega) (by omega) (by omega) (by omega)
  have e77 : σ' (A + 77) = σ (A + 77) := hN _ (by omega) (by omega) (by omega) (by omega) (by omega) (by omega)
  refine hI.go (fun a ha => hN a (by omega) (by omega) (by omega) (by omega) (by omega) (by omega)) hW ?_ (g7.fr (hN _ (by omega) (by omega) (by omega) (by omega) (by omega) (by omega)) (hN _ (by omega) (by omega) (by omega) (by omega) (by omega) (by omega)) (by rw [eB]) (hN _ (by omega) (by omega) (by omega) (by omega) (by omega) (by omega))) (by rw [e77, eB]; exact g8) (by rw [e77, eB]; exact g9) (by rw [eB]) (by rw [hN _ (by omega) (by omega) (by omega) (by omega) (by omega) (by omega)])
  obtain ⟨q1, q2⟩ := g6
  have e : σ' (A + 40 + 33) = σ (A + 40 + 33) := hN _ (by omega) (by omega) (by omega) (by omega) (by omega) (by omega)
  exact ⟨by rw [e]; exact q1, by rw [e]; exact q2⟩
theorem RcP.fr {σ σ' : Sig} {W : Nat} {w w' : wF} {n : Nat} (h : RcP σ W w n) (hn : n ≤ 12) (hσ : ∀ i, 1 ≤ i → i < 12 → σ' (W + i) = σ (W + i)) (hw : ∀ j, (j = 9 ∨ (90 ≤ j ∧ j < 226)) → w' j = w j) : RcP σ' W w' n := by
  refine ⟨by rw [hσ 1 (by decide) (by decide), hw 9 (by omega)]; exact h.1, fun p hp => ⟨fun f hf => ?_, fun f hf => ?_⟩⟩
  · rw [show W + 1 + (1 + f) = W + (2 + f) by omega, hσ (2 + f) (by omega) (by omega), hw _ (by omega), show W + (2 + f) = W + 1 + (1 + f) by omega]; exact (h.2 p hp).1 f hf
  · rw [show W + 1 + (8 + f) = W + (9 + f) by omega, hσ (9 + f) (by omega) (by omega), hw _ (by omega), show W + (9 + f) = W + 1 + (8 + f) by omega]; exact (h.2 p hp).2 f hf
theorem RcD.fr {σ σ' : Sig} {W : Nat} {w w' : wF} {nd : Nat} (h : RcD σ W w nd) (hn : nd ≤ 40) (hσ : ∀ i, 12 ≤ i → i < 20 → σ' (W + i) = σ (W + i)) (hw : ∀ j, (j = 10 ∨ (230 ≤ j ∧ j < 550)) → w' j = w j) : RcD σ' W w' nd := by
  refine ⟨by rw [hσ 12 (by decide) (by decide), hw 10 (by omega)]; exact h.1, fun d hd f hf => ?_⟩
  rw [show W + 12 + (1 + f) = W + (13 + f) by omega, hσ (13 + f) (by omega) (by omega), hw _ (by omega), show W + (13 + f) = W + 12 + (1 + f) by omega]; exact h.2 d hd f hf
theorem RcT.fr {σ σ' : Sig} {W : Nat} {w w' : wF} (h : RcT σ W w) (hσ : ∀ i, 23 ≤ i → i < 27 → σ' (W + i) = σ (W + i)) (hw : ∀ j, (j < 9 ∨ (20 ≤ j ∧ j < 90)) → w' j = w j) : RcT σ' W w' := by
  obtain ⟨t1, t2, t3⟩ := h
  refine ⟨fun j hj => ?_, fun t ht => ?_, ?_⟩
  · rw [show W + 23 + 1 = W + 24 by omega, hσ 24 (by decide) (by decide), hw _ (by omega)]; exact t1 j hj
  · rw [show W + 23 + 2 = W + 25 by omega, hσ 25 (by decide) (by decide), hw _ (by omega)]; exact t2 t ht
  · rw [hσ 23 (by decide) (by decide), hσ 26 (by decide) (by decide), hw 3 (by omega), hw 4 (by omega), hw 5 (by omega), hw 6 (by omega), hw 8 (by omega), hw 0 (by omega), hw 1 (by omega), hw 2 (by omega), hw 7 (by omega)]; exact t3
theorem RcC.fr {σ σ' : Sig} {W : Nat} {w w' : wF} (h : RcC σ W w) (hσ : σ' (W + 33) = σ (W + 33)) (hw : ∀ j, 12 ≤ j → j < 16 → w' j = w j) : RcC σ' W w' := by
  unfold RcC; rw [hσ, hw 12 (by omega) (by omega), hw 13 (by omega) (by omega), hw 14 (by omega) (by omega), hw 15 (by omega) (by omega)]; exact h
theorem BkF.fr2 {σ σ' : Sig} {W : Nat} {w w' : wF} (h : BkF σ W w) (hσ : σ' (W + 33) = σ (W + 33)) (hσ2 : σ' (W + 33 + 1) = σ (W + 33 + 1)) (hw : ∀ j, (j = 11 ∨ (550 ≤ j ∧ j < 2550)) → w' j = w j) : BkF σ' W w' := by
  obtain ⟨h1, h2, k, h3, h4, h5⟩ := h
  refine ⟨by rw [hσ]; exact h1, by rw [hσ, hw 11 (by omega)]; exact h2, k, h3, by rw [hw 11 (by omega)]; exact h4, fun j hj => ?_⟩
  rw [hσ2, hw _ (by omega)]; exact h5 j hj
theorem RgP.fr {w w' : wF} {n : Nat} (h : RgP w n) (hw : ∀ j, (j = 9 ∨ (90 ≤ j ∧ j < 190)) → w' j = w j) : RgP w' n := by
  obtain ⟨h1, h2, h3⟩ := h
  refine ⟨h1, by rw [hw 9 (by omega)]; exact h2, fun p hp => ?_⟩
  rw [hw (90 + 8 * p) (by omega), hw (90 + 8 * p + 1) (by omega), hw (90 + 8 * p + 2) (by omega), hw (90 + 8 * p + 3) (by omega), hw (90 + 8 * p + 4) (by omega), hw (90 + 8 * p + 6) (by omega)]
  exact h3 p hp
theorem orNone.mono {x : Int32} {m m' : Nat} (h : orNone x m) (hm : m ≤ m') : orNone x m' := h.elim Or.inl (fun ⟨k, hk, e⟩ => Or.inr ⟨k, by omega, e⟩)
theorem RgD.fr {w w' : wF} {n n' nd : Nat} (h : RgD w n nd) (hn : n ≤ n') (hw : ∀ j, (j = 10 ∨ (230 ≤ j ∧ j < 550)) → w' j = w j) : RgD w' n' nd := by
  obtain ⟨h1, h2, h3⟩ := h
  refine ⟨h1, by rw [hw 10 (by omega)]; exact h2, fun d hd => ?_⟩
  rw [hw (230 + 8 * d) (by omega), hw (230 + 8 * d + 1) (by omega), hw (230 + 8 * d + 2) (by omega), hw (230 + 8 * d + 3) (by omega), hw (230 + 8 * d + 4) (by omega), hw (230 + 8 * d + 5) (by omega)]
  obtain ⟨⟨k1, q1, q1'⟩, ⟨k2, q2, q2'⟩, q3, q4, q5, ⟨k6, q6, q6'⟩, q7⟩ := h3 d hd
  exact ⟨⟨k1, by omega, q1'⟩, ⟨k2, by omega, q2'⟩, q3, q4, q5.mono hn, ⟨k6, Nat.lt_of_lt_of_le q6 (Nat.pow_le_pow_right (by decide) hn), q6'⟩, q7⟩
theorem RgT.fr {w w' : wF} {n n' : Nat} (h : RgT w n) (hn : n ≤ n') (hw : ∀ j, (j < 9 ∨ (20 ≤ j ∧ j < 90)) → w' j = w j) : RgT w' n' := by
  obtain ⟨h1, h2, h3, h4, h5, h6, h7, h8⟩ := h
  exact ⟨fun t ht => by rw [hw _ (by omega)]; exact h1 t ht, by rw [hw 3 (by omega)]; exact h2.mono hn, by rw [hw 5 (by omega)]; exact h3, by rw [hw 6 (by omega)]; exact h4, by rw [hw 7 (by omega)]; exact h5, by rw [hw 8 (by omega)]; exact h6, fun j hj => by rw [hw _ (by omega)]; exact h7 j hj, by rw [hw 2 (by omega)]; exact h8⟩
/-- the town and the time changed -/
theorem Wd.mkT {b : Nat} {τ : Tau} {σ σ' : Sig} {A nx : Nat} {kp : Option Nat} {W : Nat} {w w' : wF} {n nd : Nat} (hG : Rg w n nd) (hR : Rc σ W w n nd) (hB : BkF σ W w) (hT : Txs τ σ A nx kp W w) (hBr : Brs τ σ A nx kp W w n nd ∧ Few b w) (hag : agree A kp σ σ') (hσ : ∀ i, 1 ≤ i → i < 35 → i ≠ 23 → i ≠ 24 → i ≠ 25 → i ≠ 26 → σ' (W + i) = σ (W + i)) (hw : ∀ j, 9 ≤ j → (j < 20 ∨ 90 ≤ j) → w' j = w j) (hT' : RcT σ' W w') (hG' : RgT w' n) : Wd b τ σ' A nx kp W w' := by
  refine ⟨n, nd, ⟨hG.1.fr (fun j hj => hw j (by omega) (by omega)), hG.2.1.fr (Nat.le_refl _) (fun j hj => hw j (by omega) (by omega)), hG'⟩, ⟨hR.1.fr hG.1.1 (fun i h1 h2 => hσ i h1 (by omega) (by omega) (by omega) (by omega) (by omega)) (fun j hj => hw j (by omega) (by omega)), hR.2.1.fr hG.2.1.1 (fun i h1 h2 => hσ i (by omega) (by omega) (by omega) (by omega) (by omega) (by omega)) (fun j hj => hw j (by omega) (by omega)), hT', hR.2.2.2.fr (hσ 33 (by decide) (by decide) (by decide) (by decide) (by decide) (by decide)) (fun j h1 h2 => hw j (by omega) (by omega))⟩, ?_, hT.fr hag (fun j h1 h2 => hw j (by omega) (by omega)), hBr.1.fr hag (fun j h1 h2 => hw j (by omega) (by omega)) (hw 16 (by decide) (by decide)) (by rw [hσ 27 (by decide) (by decide) (by decide) (by decide) (by decide) (by decide)]) (Nat.le_refl _) (Nat.le_refl _), hBr.2.fr (hw 12 (by decide) (by decide)) (hw 13 (by decide) (by decide))⟩
  exact hB.fr2 (hσ 33 (by decide) (by decide) (by decide) (by decide) (by decide) (by decide)) (hσ 34 (by decide) (by decide) (by decide) (by decide) (by decide) (by decide)) (fun j hj => hw j (by omega) (by omega))
/-- the people changed -/
theorem Wd.mkP {b : Nat} {τ : Tau} {σ σ' : Sig} {A nx : Nat} {kp : Option Nat} {W : Nat} {w w' : wF} {n n' nd : Nat} (hG : Rg w n nd) (hR : Rc σ W w n nd) (hB : BkF σ W w) (hT : Txs τ σ A nx kp W w) (hBr : Brs τ σ A nx kp W w n nd ∧ Few b w) (hag : agree A kp σ σ') (hσ : ∀ i, 12 ≤ i → i < 35 → σ' (W + i) = σ (W + i)) (hw : ∀ j, j ≠ 9 → (j < 90 ∨ 230 ≤ j) → w' j = w j) (hn : n ≤ n') (hP' : RcP σ' W w' n') (hG' : RgP w' n') : Wd b τ σ' A nx kp W w' := by
  refine ⟨n', nd, ⟨hG', hG.2.1.fr hn (fun j hj => hw j (by omega) (by omega)), hG.2.2.fr hn (fun j hj => hw j (by omega) (by omega))⟩, ⟨hP', hR.2.1.fr hG.2.1.1 (fun i h1 h2 => hσ i (by omega) (by omega)) (fun j hj => hw j (by omega) (by omega)), hR.2.2.1.fr (fun i h1 h2 => hσ i (by omega) (by omega)) (fun j hj => hw j (by omega) (by omega)), hR.2.2.2.fr (hσ 33 (by decide) (by decide)) (fun j h1 h2 => hw j (by omega) (by omega))⟩, ?_, hT.fr hag (fun j h1 h2 => hw j (by omega) (by omega)), hBr.1.fr hag (fun j h1 h2 => hw j (by omega) (by omega)) (hw 16 (by decide) (by decide)) (by rw [hσ 27 (by decide) (by decide)]) hn (Nat.le_refl _), hBr.2.fr (hw 12 (by decide) (by decide)) (hw 13 (by decide) (by decide))⟩
  exact hB.fr2 (hσ 33 (by decide) (by decide)) (hσ 34 (by decide) (by decide)) (fun j hj => hw j (by omega) (by omega))
/-- the debts changed -/
theorem Wd.mkD {b : Nat} {τ : Tau} {σ σ' : Sig} {A nx : Nat} {kp : Option Nat} {W : Nat} {w w' : wF} {n nd nd' : Nat} (hG : Rg w n nd) (hR : Rc σ W w n nd) (hB : BkF σ W w) (hT : Txs τ σ A nx kp W w) (hBr : Brs τ σ A nx kp W w n nd ∧ Few b w) (hag : agree A kp σ σ') (hσ : ∀ i, 1 ≤ i → i < 35 → (i < 12 ∨ 23 ≤ i) → σ' (W + i) = σ (W + i)) (hw : ∀ j, j ≠ 10 → (j < 230 ∨ 550 ≤ j) → w' j = w j) (hn : nd ≤ nd') (hD' : RcD σ' W w' nd') (hG' : RgD w' n nd') : Wd b τ σ' A nx kp W w' := by
  refine ⟨n, nd', ⟨hG.1.fr (fun j hj => hw j (by omega) (by omega)), hG', hG.2.2.fr (Nat.le_refl _) (fun j hj => hw j (by omega) (by omega))⟩, ⟨hR.1.fr hG.1.1 (fun i h1 h2 => hσ i (by omega) (by omega) (by omega)) (fun j hj => hw j (by omega) (by omega)), hD', hR.2.2.1.fr (fun i h1 h2 => hσ i (by omega) (by omega) (by omega)) (fun j hj => hw j (by omega) (by omega)), hR.2.2.2.fr (hσ 33 (by decide) (by decide) (by decide)) (fun j h1 h2 => hw j (by omega) (by omega))⟩, ?_, hT.fr hag (fun j h1 h2 => hw j (by omega) (by omega)), hBr.1.fr hag (fun j h1 h2 => hw j (by omega) (by omega)) (hw 16 (by decide) (by decide)) (by rw [hσ 27 (by decide) (by decide) (by decide)]) (Nat.le_refl _) hn, hBr.2.fr (hw 12 (by decide) (by decide)) (hw 13 (by decide) (by decide))⟩
  exact hB.fr2 (hσ 33 (by decide) (by decide) (by decide)) (hσ 34 (by decide) (by decide) (by decide)) (fun j hj => hw j (by omega) (by omega))
