/-! WHAT STAYS WHEN ROWS CHANGE. -/
def agree (A : Nat) (kp : Option Nat) (σ σ' : Sig) : Prop := ∀ a, ((A + 1 ≤ a ∧ a < A + 5) ∨ A + 95 ≤ a) → (∀ q, kp = some q → a < q ∨ q + 35 ≤ a) → σ' a = σ a
theorem apart.rows {A nx : Nat} {kp : Option Nat} {t len : Nat} {σ σ' : Sig} (h : apart A nx kp t len) (hag : agree A kp σ σ') : ∀ i, i < len → σ' (t + i) = σ (t + i) := by
  intro i hi
  obtain ⟨h1, h2, h3⟩ := h
  refine hag (t + i) ?_ (fun q hq => ?_)
  · rcases h1 with h1 | h1
    · exact Or.inl (by omega)
    · exact Or.inr (by omega)
  · rcases h3 q hq with h | h
    · exact Or.inl (by omega)
    · exact Or.inr (by omega)
theorem Txt.fr {τ : Tau} {σ σ' : Sig} {w w' : wF} {k t : Nat} (hk : k < 6) (hσ : ∀ i, i < 4 → σ' (t + i) = σ (t + i)) (hw : ∀ j, 2550 ≤ j → j < 7880 → w' j = w j) (h : Txt τ σ w k t) : Txt τ σ' w' k t := by
  obtain ⟨m, c, s, so, sv, g1, g2, g3, g4, g5, g6, g7, g8, g9, g10⟩ := h
  have e0 : σ' t = σ t := hσ 0 (by decide)
  have e1 := hσ 1 (by decide)
  have e2 := hσ 2 (by decide)
  have e3 := hσ 3 (by decide)
  refine ⟨m, c, s, so, sv, g1, g2, g3, by rw [e0]; exact g4, by rw [hw _ (by omega) (by omega)]; exact g5, g6, g7, fun l hl => by rw [e1]; exact g8 l hl, fun l hl => ?_, fun i hi => ?_⟩
  · obtain ⟨q1, q2, q3, q4, q5⟩ := g9 l hl
    refine ⟨q1, by rw [hw _ (by omega) (by omega)]; exact q2, by rw [hw _ (by omega) (by omega)]; exact q3, q4, ?_⟩
    rw [hw (2560 + 16 * k + l) (by omega) (by omega), hw (2660 + 16 * k + l) (by omega) (by omega), e2]
    exact q5
  · obtain ⟨q1, q2, q3, q4, q5⟩ := g10 i hi
    refine ⟨q1, q2, by rw [hw _ (by omega) (by omega)]; exact q3, fun hq => by rw [hw _ (by omega) (by omega)]; exact q4 hq, ?_⟩
    rw [e3]; exact q5
theorem Txs.fr {τ : Tau} {σ σ' : Sig} {A nx : Nat} {kp : Option Nat} {W : Nat} {w w' : wF} (h : Txs τ σ A nx kp W w) (hag : agree A kp σ σ') (hw : ∀ j, 2550 ≤ j → j < 7880 → w' j = w j) : Txs τ σ' A nx kp W w' := fun k hk => by
  obtain ⟨t, h1, h2, h3⟩ := h k hk
  exact ⟨t, h1, h2, h3.fr hk (h2.rows hag) hw⟩
theorem Bar.fr {τ : Tau} {σ σ' : Sig} {w w' : wF} {n n' j b had : Nat} {sp : Bool} (hj : j < 60) (hσ : ∀ i, i < 2 → σ' (b + i) = σ (b + i)) (hw : ∀ i, 7880 ≤ i → i < 20240 → w' i = w i) (hn : n ≤ n') (h : Bar τ σ w n j b had sp) : Bar τ σ' w' n' j b had sp := by
  obtain ⟨cap, ds, g1, g2, g3, g4, g5, g6, g7, g8, g9, g10, g11⟩ := h
  have e0 : σ' b = σ b := hσ 0 (by decide)
  have e1 := hσ 1 (by decide)
  have hw' : ∀ i, i < 206 → w' (7880 + 206 * j + i) = w (7880 + 206 * j + i) := fun i hi => hw _ (by omega) (by omega)
  refine ⟨cap, ds, g1, g2, by rw [e0]; exact g3, g4, g5, by rw [hw' 3 (by decide)]; exact g6, g7, fun d hd => ?_, by rw [e0]; exact g9, fun i d hid => ?_, ?_⟩
  · rw [hw' (if d < 20 then 4 else 5) (by split <;> decide)]; exact g8 d hd
  · obtain ⟨q1, q2, q3⟩ := g10 i d hid
    have hd : d ≤ 40 := by rcases g7 d (List.mem_of_getElem? hid) with h | ⟨_, h⟩ <;> omega
    have hd2 : d < 40 ∨ d = 40 := by omega
    rw [e1]
    by_cases hdd : d < 40
    · refine ⟨q1, by rw [hw (7880 + 206 * j + 166 + d) (by omega) (by omega)]; exact q2, fun hlt => ?_⟩
      obtain ⟨r1, ⟨k2, r2, r2'⟩, ⟨k3, r3, r3'⟩, r4, r5, r6⟩ := q3 hlt
      have f0 : w' (7880 + 206 * j + 6 + 4 * d) = w (7880 + 206 * j + 6 + 4 * d) := hw _ (by omega) (by omega)
      have f1 : w' (7880 + 206 * j + 6 + 4 * d + 1) = w (7880 + 206 * j + 6 + 4 * d + 1) := hw _ (by omega) (by omega)
      have f2 : w' (7880 + 206 * j + 6 + 4 * d + 2) = w (7880 + 206 * j + 6 + 4 * d + 2) := hw _ (by omega) (by omega)
      have f3 : w' (7880 + 206 * j + 6 + 4 * d + 3) = w (7880 + 206 * j + 6 + 4 * d + 3) := hw _ (by omega) (by omega)
      refine ⟨fun f hf => ?_, ⟨k2, by omega, by rw [f0]; exact r2'⟩, ⟨k3, by omega, by rw [f1]; exact r3'⟩, ?_, by rw [f3]; exact r5, by rw [f0, f1]; exact r6⟩
      · rw [hw (7880 + 206 * j + 6 + 4 * d + f) (by omega) (by omega)]; exact r1 f hf
      · rw [f2]
        rcases r4 with r4 | ⟨k, hk, r4⟩
        · exact Or.inl r4
        · exact Or.inr ⟨k, by omega, r4⟩
    · exfalso
      rcases g7 d (List.mem_of_getElem? hid) with h | ⟨hs, h⟩
      · omega
      · rw [hs] at g9; have := g9.1; omega
  · rw [show w' (7880 + 206 * j) = w (7880 + 206 * j) from hw' 0 (by decide), hw' 1 (by decide), hw' 2 (by decide), e0]
    rcases g11 with ⟨p, q, hp, hq, r⟩ | r
    · exact Or.inl ⟨p, q, by omega, by omega, r⟩
    · exact Or.inr r
theorem Brs.fr {τ : Tau} {σ σ' : Sig} {A nx : Nat} {kp : Option Nat} {W : Nat} {w w' : wF} {n n' nd nd' : Nat} (h : Brs τ σ A nx kp W w n nd) (hag : agree A kp σ σ') (hw : ∀ i, 7880 ≤ i → i < 20240 → w' i = w i) (h16 : w' 16 = w 16) (hc : σ' (W + 27) 0 = σ (W + 27) 0) (hn : n ≤ n') (hnd : nd ≤ nd') : Brs τ σ' A nx kp W w' n' nd' := by
  obtain ⟨m, hd, sp, g1, g2, g3, g4, g5, g6⟩ := h
  refine ⟨m, hd, sp, g1, by rw [hc]; exact g2, by rw [h16]; exact g3, g4, fun j hj => Nat.le_trans (g5 j hj) hnd, fun j hj => ?_⟩
  obtain ⟨b, q1, q2, q3, q4⟩ := g6 j hj
  exact ⟨b, q1, q2, q3, q4.fr (by omega) (q2.rows hag) hw hn⟩
theorem Rc.fr {σ σ' : Sig} {W : Nat} {w : wF} {n nd : Nat} (hσ : ∀ i, i < 35 → σ' (W + i) = σ (W + i)) (h : Rc σ W w n nd) : Rc σ' W w n nd := by
  obtain ⟨⟨p1, p2⟩, ⟨d1, d2⟩, ⟨t1, t2, t3⟩, c⟩ := h
  refine ⟨⟨by rw [hσ 1 (by decide)]; exact p1, fun p hp => ⟨fun f hf => ?_, fun f hf => ?_⟩⟩, ⟨by rw [hσ 12 (by decide)]; exact d1, fun d hd f hf => ?_⟩, ⟨fun j hj => ?_, fun t ht => ?_, ?_⟩, ?_⟩
  · rw [show W + 1 + (1 + f) = W + (2 + f) by omega, hσ (2 + f) (by omega), show W + (2 + f) = W + 1 + (1 + f) by omega]; exact (p2 p hp).1 f hf
  · rw [show W + 1 + (8 + f) = W + (9 + f) by omega, hσ (9 + f) (by omega), show W + (9 + f) = W + 1 + (8 + f) by omega]; exact (p2 p hp).2 f hf
  · rw [show W + 12 + (1 + f) = W + (13 + f) by omega, hσ (13 + f) (by omega), show W + (13 + f) = W + 12 + (1 + f) by omega]; exact d2 d hd f hf
  · rw [show W + 23 + 1 = W + 24 by omega, hσ 24 (by decide)]; exact t1 j hj
  · rw [show W + 23 + 2 = W + 25 by omega, hσ 25 (by decide)]; exact t2 t ht
  · rw [hσ 23 (by decide), hσ 26 (by decide)]; exact t3
  · unfold RcC; rw [hσ 33 (by decide)]; exact c
theorem BkF.fr {σ σ' : Sig} {W : Nat} {w : wF} (hσ : ∀ i, i < 35 → σ' (W + i) = σ (W + i)) (h : BkF σ W w) : BkF σ' W w := by
  obtain ⟨h1, h2, k, h3, h4, h5⟩ := h
  refine ⟨by rw [hσ 33 (by decide)]; exact h1, by rw [hσ 33 (by decide)]; exact h2, k, h3, h4, fun j hj => ?_⟩
  rw [show W + 33 + 1 = W + 34 by omega, hσ 34 (by decide)]; exact h5 j hj
/-- a world none of whose rows, and none of whose texts and bargains, have changed -/
theorem Wd.fr {b : Nat} {τ : Tau} {σ σ' : Sig} {A nx : Nat} {kp : Option Nat} {W : Nat} {w : wF} (h : Wd b τ σ A nx kp W w) (hσ : ∀ i, i < 35 → σ' (W + i) = σ (W + i)) (hag : agree A kp σ σ') : Wd b τ σ' A nx kp W w := by
  obtain ⟨n, nd, h1, h2, h3, h4, h5, h6⟩ := h
  exact ⟨n, nd, h1, h2.fr hσ, h3.fr hσ, h4.fr hag (fun _ _ _ => rfl), h5.fr hag (fun _ _ _ => rfl) rfl (by rw [hσ 27 (by decide)]) (Nat.le_refl _) (Nat.le_refl _), h6⟩
theorem Few.fr {b : Nat} {w w' : wF} (h : Few b w) (h1 : w' 12 = w 12) (h2 : w' 13 = w 13) : Few b w' := ⟨by rw [h1]; exact h.1, by rw [h2]; exact h.2⟩
theorem Few.mono {b b' : Nat} {w : wF} (h : Few b w) (hb : b ≤ b') : Few b' w := by
  obtain ⟨⟨k, h1, h2⟩, l, h3, h4⟩ := h
  exact ⟨⟨k, by omega, h2⟩, l, by omega, h4⟩
theorem Wd.mono {b b' : Nat} {τ : Tau} {σ : Sig} {A nx : Nat} {kp : Option Nat} {W : Nat} {w : wF} (h : Wd b τ σ A nx kp W w) (hb : b ≤ b') : Wd b' τ σ A nx kp W w := by
  obtain ⟨n, nd, h1, h2, h3, h4, h5, h6⟩ := h
  exact ⟨n, nd, h1, h2, h3, h4, h5, h6.mono hb⟩
theorem Inv.mono {A b b' : Nat} {h : Hp} (hI : Inv A b h) (hb : b ≤ b') : Inv A b' h := by
  obtain ⟨g1, g2, g3, g4, g5, g6, g7, g8, g9, g10⟩ := hI
  refine ⟨g1, g2, g3, g4, g5.mono hb, g6, g7, g8, g9, ?_⟩
  split
  · next hq => rw [hq] at g10; exact g10
  · next q hq =>
    rw [hq] at g10
    obtain ⟨k1, k2, k3, k4, k5⟩ := g10
    exact ⟨k1, k2, k3, k4, k5.mono hb⟩
/-- all that a call but image() may change: the now world, the dream, tape, reader, the reference but for its image -/
def Near (A : Nat) (σ σ' : Sig) : Prop := ∀ a, (a < A + 5 ∨ A + 95 ≤ a ∨ a = A + 86) → σ' a = σ a
theorem Near.ag {A : Nat} {σ σ' : Sig} (h : Near A σ σ') (kp : Option Nat) : agree A kp σ σ' := fun a ha _ => h a (by omega)
theorem Inv.go {A b : Nat} {τ : Tau} {σ σ' : Sig} {nx : Nat} (hI : Inv A b (τ, σ, nx)) (hN : Near A σ σ') (hW : Wd b τ σ' A nx (rfld τ A 2) (A + 5) (σ' (A + 84 + 1))) (hb : BkN σ' (A + 40)) (ht : Tpe σ' A (A + 84)) (h0 : σ' (A + 77) 0 = σ' (A + 84) 19) (h1 : σ' (A + 77) 1 = σ' (A + 84) 21) (h3 : σ' (A + 84) 3 = σ (A + 84) 3) (h79 : σ' (A + 79) 0 = σ (A + 79) 0) : Inv A b (τ, σ', nx) := by
  obtain ⟨g1, g2, g3, g4, g5, g6, g7, g8, g9, g10⟩ := hI
  refine ⟨g1, g2, g3, ⟨g4.1, g4.2.1, h79.trans g4.2.2⟩, hW, hb, ht, h0, h1, ?_⟩
  dsimp only at g10 ⊢
  split
  · next hq => rw [hq] at g10; rw [h3]; exact g10
  · next q hq =>
    rw [hq] at g10
    obtain ⟨k1, k2, k3, k4, k5⟩ := g10
    refine ⟨by rw [h3]; exact k1, k2, k3, ⟨k4.1, k4.2.1, (by rw [hN _ (by omega)]; exact k4.2.2)⟩, ?_⟩
    rw [show A + 84 + 2 = A + 86 by omega] at k5 ⊢
    rw [hN (A + 86) (by omega)]
    exact k5.fr (fun i hi => hN _ (by omega)) (hN.ag _)
