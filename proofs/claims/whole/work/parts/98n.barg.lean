/-! A NEW BARGAIN in the invariant. -/
theorem Bar.mv {τ τ' : Tau} {σ σ' : Sig} {w w' : wF} {n j j' b had : Nat} {sp : Bool} (h : Bar τ σ w n j b had sp) (ht : ∀ i, i < 2 → τ' (b + i) = τ (b + i)) (hσ : ∀ i, i < 2 → σ' (b + i) = σ (b + i)) (hw : ∀ i, i < 206 → w' (7880 + 206 * j' + i) = w (7880 + 206 * j + i)) : Bar τ' σ' w' n j' b had sp := by
  obtain ⟨cap, ds, g1, g2, g3, g4, g5, g6, g7, g8, g9, g10, g11⟩ := h
  have e0 : σ' b = σ b := hσ 0 (by decide)
  have e1 := hσ 1 (by decide)
  have t0 : τ' b = τ b := ht 0 (by decide)
  have w0 : w' (7880 + 206 * j') = w (7880 + 206 * j) := hw 0 (by decide)
  refine ⟨cap, ds, ?_, g2, by rw [e0]; exact g3, g4, g5, by rw [hw 3 (by decide)]; exact g6, g7, fun d hd => ?_, by rw [e0]; exact g9, fun i d hid => ?_, ?_⟩
  · unfold ShX0 at g1 ⊢
    rw [t0, ht 1 (by decide)]; exact g1
  · rw [hw (if d < 20 then 4 else 5) (by split <;> decide)]; exact g8 d hd
  · obtain ⟨q1, q2, q3⟩ := g10 i d hid
    have hd : d < 40 := by
      rcases g7 d (List.mem_of_getElem? hid) with h | ⟨hs, h⟩
      · omega
      · rw [hs] at g9; have := g9.1; omega
    rw [e1, show 7880 + 206 * j' + 166 + d = 7880 + 206 * j' + (166 + d) by omega, hw (166 + d) (by omega), show 7880 + 206 * j + (166 + d) = 7880 + 206 * j + 166 + d by omega]
    refine ⟨q1, q2, fun hlt => ?_⟩
    have r := q3 hlt
    have f : ∀ k, k < 4 → w' (7880 + 206 * j' + 6 + 4 * d + k) = w (7880 + 206 * j + 6 + 4 * d + k) := fun k hk => by
      rw [show 7880 + 206 * j' + 6 + 4 * d + k = 7880 + 206 * j' + (6 + 4 * d + k) by omega, hw _ (by omega), show 7880 + 206 * j + (6 + 4 * d + k) = 7880 + 206 * j + 6 + 4 * d + k by omega]
    have f0 : w' (7880 + 206 * j' + 6 + 4 * d) = w (7880 + 206 * j + 6 + 4 * d) := f 0 (by decide)
    rw [f0, f 1 (by decide), f 2 (by decide), f 3 (by decide)]
    exact ⟨fun k hk => by rw [f k hk]; exact r.1 k hk, r.2⟩
  · rw [w0, hw 1 (by decide), hw 2 (by decide), e0]; exact g11
theorem sh_le (m : Nat) : sh60 m ≤ 1 := by unfold sh60; split <;> omega
theorem Inv.bar {A b : Nat} {τ τ' : Tau} {σ r : Sig} {nx n nd nd' m N : Nat} {sp : Bool} (hI : Inv A b (τ, σ, nx)) (hG : Rg (σ (A + 84 + 1)) n nd) (hG' : Rg (r (A + 84 + 1)) n nd') (hnd : nd + one? sp ≤ nd') (hm : m ≤ 60) (h16 : σ (A + 84 + 1) 16 = nI m)
    (tO : ∀ x, x ≠ A + 33 → x ≠ nx → x ≠ nx + 1 → τ' x = τ x) (t33 : τ' (A + 33) = some (.inr (.inr (0, 60, rcon τ' (A + 33))))) (tj : ∀ j, j < m - sh60 m → rcon τ' (A + 33) j = rcon τ (A + 33) (j + sh60 m)) (tm : rcon τ' (A + 33) (m - sh60 m) = some nx) (tob : ∀ j, j < 60 → isOb τ' 0 (rcon τ' (A + 33) j) = true)
    (ro : ∀ x, (x < A + 6 ∨ A + 24 < x) → x ≠ A + 32 → x ≠ A + 84 → x ≠ A + 85 → x < nx → r x = σ x) (rB : ∀ j, j ≠ 22 → r (A + 84) j = σ (A + 84) j) (hR' : Rc r (A + 5) (r (A + 84 + 1)) n nd') (hw : ∀ j, (j = 11 ∨ j = 12 ∨ j = 13 ∨ (550 ≤ j ∧ j < 7880)) → r (A + 84 + 1) j = σ (A + 84 + 1) j) (w16 : r (A + 84 + 1) 16 = nI (m - sh60 m + 1)) (c16 : r (A + 32) 0 = nI (m - sh60 m + 1)) (wold : ∀ j i, j < m - sh60 m → i < 206 → r (A + 84 + 1) (7880 + 206 * j + i) = σ (A + 84 + 1) (7880 + 206 * (j + sh60 m) + i)) (hnew : Bar τ' r (r (A + 84 + 1)) n (m - sh60 m) nx nd sp) : Inv A b (τ', r, nx + 2) := by
  obtain ⟨g1, g2, g3, ⟨g4, g4', g4''⟩, g5, g6, g7, g8, g9, g10⟩ := hI
  dsimp only at g1 g2 g3 g4 g4' g4'' g5 g6 g7 g8 g9 g10
  have hs := sh_le m
  have tA : τ' A = τ A := tO A (by omega) (by omega) (by omega)
  have kq : rfld τ' A 2 = rfld τ A 2 := by unfold rfld; rw [tA]
  have hkp : ∀ kp, keepA A nx kp τ τ' σ r := fun kp a h1 h2 _ => ⟨tO a (by omega) (by omega) (by omega), ro a (by omega) (by omega) (by omega) (by omega) h1⟩
  have hap : ∀ kp t len, 0 < len → apart A nx kp t len → apart A (nx + 2) kp t len := fun kp t len _ h => h.up (by omega)
  have ob : ∀ ci b rs, τ b = some (.inl (ci, rs)) → τ' b = τ b := fun ci b rs q => by
    have hb := ob_lt g4 q
    refine tO b (fun z => ?_) (by omega) (by omega)
    subst z
    have e := g1.2.1.2.2.2.2.2.2.1.2
    rw [show A + 5 + 27 + 1 = A + 33 by omega, q] at e; cases e
  obtain ⟨n0, nd0, hG0, hR0, hB0, hT0, hBr0, hF0⟩ := id g5
  obtain ⟨rfl, rfl⟩ := hG.uniq hG0
  obtain ⟨m0, hd, sp0, q1, q2, q3, q4, q5, q6⟩ := id hBr0
  obtain rfl : m0 = m := by
    exact nI_inj (by omega) (by omega) (q3.symm.trans h16)
  have e16 : m0 - sh60 m0 ≤ 59 := by unfold sh60; split <;> omega
  have kpq : ∀ q, rfld τ A 2 = some q → q + 35 ≤ nx := fun q hq => by
    rw [hq] at g10; exact g10.2.2.1
  refine ⟨?_, ?_, by dsimp only; omega, ⟨fun a ha => ?_, ?_, ?_⟩, ?_, ?_, ?_, ?_, ?_, ?_⟩
  · refine g1.fr (by dsimp only; rw [tA, kq]; exact g1.1) (g1.2.1.fr (fun x h1 h2 h3 h4 => tO x (by omega) (by omega) (by omega)) t33 ?_) (g1.2.2.1.same (fun x h1 h2 => tO x (by omega) (by omega) (by omega))) (fun x h1 h2 => tO x (by omega) (by omega) (by omega))
    dsimp only
    rw [tO _ (by omega) (by omega) (by omega), rcon_eq (tO (A + 5 + 29) (by omega) (by omega) (by omega))]; exact g1.2.1.2.2.2.2.2.2.2.1
  · exact g2.fr (fun x h1 h2 => tO x (by omega) (by omega) (by omega))
  · dsimp only at ha ⊢; rw [tO a (by omega) (by omega) (by omega)]; exact g4 a (by omega)
  · intro j hj
    rw [show A + 5 + 27 + 1 = A + 33 by omega]; exact tob j hj
  · dsimp only; rw [ro _ (by omega) (by omega) (by omega) (by omega) (by omega)]; exact g4''
  · dsimp only
    rw [kq]
    refine ⟨n0, nd', hG', hR', hB0.fr2 (ro _ (by omega) (by omega) (by omega) (by omega) (by omega)) (ro _ (by omega) (by omega) (by omega) (by omega) (by omega)) (fun j hj => hw j (by omega)), fun k hk => ?_, ⟨m0 - sh60 m0 + 1, fun j => if j < m0 - sh60 m0 then hd (j + sh60 m0) else nd0, fun j => if j < m0 - sh60 m0 then sp0 (j + sh60 m0) else sp, by omega, c16, w16, fun j hj => ?_, fun j hj => ?_, fun j hj => ?_⟩, hF0.fr (hw 12 (by omega)) (hw 13 (by omega))⟩
    · obtain ⟨t, z1, z2, z3⟩ := hT0 k hk
      have at4 := (hkp (rfld τ A 2)).at z2
      exact ⟨t, by rw [rcon_eq (tO (A + 5 + 29) (by omega) (by omega) (by omega))]; exact z1, hap _ t 4 (by decide) z2, (z3.tau (fun i hi => (at4 i hi).1)).fr hk (fun i hi => (at4 i hi).2) (fun j h1 h2 => hw j (by omega))⟩
    · dsimp only
      by_cases c : j + 1 < m0 - sh60 m0
      · rw [if_pos (by omega), if_pos (by omega), if_pos c, show j + 1 + sh60 m0 = (j + sh60 m0) + 1 by omega]
        exact q4 _ (by omega)
      · rw [if_pos (by omega), if_pos (by omega), if_neg c]
        exact q5 _ (by omega)
    · dsimp only
      by_cases c : j < m0 - sh60 m0
      · rw [if_pos c, if_pos c]
        have := q5 (j + sh60 m0) (by omega)
        omega
      · rw [if_neg c, if_neg c]; exact hnd
    · dsimp only
      by_cases c : j < m0 - sh60 m0
      · rw [if_pos c, if_pos c]
        obtain ⟨bb, z1, z2, z3, z4⟩ := q6 (j + sh60 m0) (by omega)
        have at2 := (hkp (rfld τ A 2)).at z2
        refine ⟨bb, (tj j c).trans z1, hap _ bb 2 (by decide) z2, z3, z4.mv (fun i hi => (at2 i hi).1) (fun i hi => (at2 i hi).2) (fun i hi => wold j i c hi)⟩
      · rw [if_neg c, if_neg c]
        obtain rfl : j = m0 - sh60 m0 := by omega
        exact ⟨nx, tm, ⟨Or.inr g3, Nat.le_refl _, fun q hq => Or.inr (kpq q hq)⟩, g3, hnew⟩
  · dsimp only; unfold BkN; rw [ro _ (by omega) (by omega) (by omega) (by omega) (by omega)]; exact g6
  · dsimp only; exact g7.fr (ro _ (by omega) (by omega) (by omega) (by omega) (by omega)) (ro _ (by omega) (by omega) (by omega) (by omega) (by omega)) (rB 12 (by decide)) (ro _ (by omega) (by omega) (by omega) (by omega) (by omega))
  · dsimp only; rw [ro _ (by omega) (by omega) (by omega) (by omega) (by omega), rB 19 (by decide)]; exact g8
  · dsimp only; rw [ro _ (by omega) (by omega) (by omega) (by omega) (by omega), rB 21 (by decide)]; exact g9
  · dsimp only
    rw [kq, rB 3 (by decide)]
    split
    · next hq => rw [hq] at g10; exact g10
    · next q hq =>
      rw [hq] at g10
      obtain ⟨k1, k2, k3, ⟨k4, k4', k4''⟩, k5⟩ := g10
      refine ⟨k1, k2, by omega, ⟨k4.same (fun x h1 h2 => tO x (by omega) (by omega) (by omega)), k4'.tau (fun b rs z => ob 0 b rs z) (tO _ (by omega) (by omega) (by omega)), by rw [ro _ (by omega) (by omega) (by omega) (by omega) (by omega)]; exact k4''⟩, ?_⟩
      rw [ro (A + 84 + 2) (by omega) (by omega) (by omega) (by omega) (by omega)]
      exact k5.cp (hkp _) (hap _) (fun j _ => by rw [rcon_eq (tO (q + 28) (by omega) (by omega) (by omega))]) (fun j _ => by rw [rcon_eq (tO (q + 29) (by omega) (by omega) (by omega))]) (fun n nd _ h => h.fr (fun i hi => ro _ (by omega) (by omega) (by omega) (by omega) (by omega))) (fun h => h.fr (fun i hi => ro _ (by omega) (by omega) (by omega) (by omega) (by omega))) (by rw [ro _ (by omega) (by omega) (by omega) (by omega) (by omega)])
