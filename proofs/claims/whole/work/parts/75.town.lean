/-! state, set, wall: the town and the time. -/
/-- where the single numbers of town and time lie: row and field of the world, place of the reference's row -/
def scT : List (Nat × Nat × Nat) := [(23, 2, 3), (23, 3, 4), (23, 4, 5), (23, 5, 6), (23, 6, 8), (26, 0, 0), (26, 1, 1), (26, 2, 2), (26, 3, 7)]
theorem scT_inj : ∀ q ∈ scT, ∀ p ∈ scT, (q.1 = p.1 ∧ q.2.1 = p.2.1) ↔ q.2.2 = p.2.2 := by decide
theorem scT_rng : ∀ q ∈ scT, (q.1 = 23 ∨ q.1 = 26) ∧ q.2.2 < 9 := by decide
theorem RcT.sc {σ : Sig} {W : Nat} {w : wF} : RcT σ W w ↔ (∀ j, j < 36 → σ (W + 23 + 1) j = w (50 + j)) ∧ (∀ t, t < 24 → σ (W + 23 + 2) t = w (20 + t)) ∧ ∀ q ∈ scT, σ (W + q.1) q.2.1 = w q.2.2 := by
  simp [RcT, scT]
/-- what a number set there must be -/
def okS (j : Nat) (v : Int32) (n : Nat) : Prop := (j = 3 → orNone v n) ∧ (j = 5 → upTo v 1000) ∧ (j = 6 → upTo v 2) ∧ (j = 7 → upTo v 99) ∧ (j = 8 → upTo v 1) ∧ (j = 2 → upTo v 95)
theorem RgT.setv {w : wF} {n j : Nat} {v : Int32} (h : RgT w n) (hj : j < 9) (hv : okS j v n) : RgT (upd w j v) n := by
  obtain ⟨h1, h2, h3, h4, h5, h6, h7, h8⟩ := h
  obtain ⟨v3, v5, v6, v7, v8, v2⟩ := hv
  have key : ∀ (i : Nat) (P : Int32 → Prop), (j = i → P v) → P (w i) → P (upd w j v i) := by
    intro i P a b
    by_cases e : i = j
    · subst e; rw [upd_eq]; exact a rfl
    · rw [upd_ne e]; exact b
  refine ⟨fun t ht => by rw [upd_ne (by omega)]; exact h1 t ht, key 3 (orNone · n) v3 h2, key 5 (upTo · 1000) v5 h3, key 6 (upTo · 2) v6 h4, key 7 (upTo · 99) v7 h5, key 8 (upTo · 1) v8 h6, fun t ht => by rw [upd_ne (by omega)]; exact h7 t ht, key 2 (upTo · 95) v2 h8⟩
theorem go_sc {A b : Nat} {τ : Tau} {σ : Sig} {nx : Nat} (hI : Inv A b (τ, σ, nx)) {q : Nat × Nat × Nat} (hq : q ∈ scT) {v : Int32} (hv : ∀ n nd, Rg (σ (A + 84 + 1)) n nd → okS q.2.2 v n) : Inv A b (τ, wr (wr σ (A + 5 + q.1) q.2.1 v) (A + 84 + 1) q.2.2 v, nx) := by
  obtain ⟨n, nd, hG, hR, hB, hT, hBr⟩ := hI.wd
  dsimp only at hG hR hB hT hBr
  obtain ⟨hr, hj⟩ := scT_rng q hq
  have hw2 : wr (wr σ (A + 5 + q.1) q.2.1 v) (A + 84 + 1) q.2.2 v (A + 84 + 1) = upd (σ (A + 84 + 1)) q.2.2 v := by
    funext j; rw [wr_same, wr_row (by omega)]; rfl
  have ho : ∀ a, a ≠ A + 5 + q.1 → a ≠ A + 85 → wr (wr σ (A + 5 + q.1) q.2.1 v) (A + 84 + 1) q.2.2 v a = σ a := fun a h1 h2 => by rw [wr_row (by omega), wr_row h1]
  refine hI.go1 (fun a h1 h2 _ _ _ _ => ho a (by omega) h2) ?_
  rw [hw2]
  refine Wd.mkT hG hR hB hT hBr (fun a ha _ => ho a (by omega) (by omega)) (fun i h1 h2 h3 h4 h5 h6 => ho _ (by omega) (by omega)) (fun j h1 h2 => upd_ne (by omega)) ?_ (hG.2.2.setv hj (hv n nd hG))
  obtain ⟨t1, t2, t3⟩ := RcT.sc.mp hR.2.2.1
  refine RcT.sc.mpr ⟨fun j hj2 => ?_, fun t ht => ?_, fun p hp => ?_⟩
  · rw [ho _ (by omega) (by omega), upd_ne (by omega)]; exact t1 j hj2
  · rw [ho _ (by omega) (by omega), upd_ne (by omega)]; exact t2 t ht
  · have hpr := scT_rng p hp
    by_cases e : p.2.2 = q.2.2
    · obtain ⟨e1, e2⟩ := (scT_inj p hp q hq).mpr e
      rw [e, upd_eq, wr_row (by omega), e1, e2, wr_same, if_pos rfl]
    · rw [upd_ne e, wr_row (by omega)]
      by_cases e1 : p.1 = q.1
      · rw [e1, wr_same, if_neg (fun e2 => e ((scT_inj p hp q hq).mp ⟨e1, e2⟩)), ← e1]; exact t3 p hp
      · rw [wr_row (by omega)]; exact t3 p hp
theorem st_state (A b : Nat) : St_state (Inv A b) A (A + 84) := by
  intro h v1 hI
  obtain ⟨τ, σ, nx⟩ := h
  obtain ⟨n, nd, hG, hR, -⟩ := hI.wd
  have e0 : σ (A + 5 + 26) 0 = σ (A + 84 + 1) 0 := hR.t.2.2.2.2.2.2.2.1
  have r1 : wr σ (A + 5 + 26) 0 v1 (A + 84 + 1) = σ (A + 84 + 1) := wr_row (by omega)
  have l0 : ld 20240 (σ (A + 84 + 1)) 0 = some (σ (A + 84 + 1) 0) := re_w (j := 0) (by decide)
  have t2 : st 20240 (wr σ (A + 5 + 26) 0 v1) (A + 84 + 1) 0 v1 = some (wr (wr σ (A + 5 + 26) 0 v1) (A + 84 + 1) 0 v1) := stn (j := 0) (by decide) (by decide)
  exact ⟨σ (A + 84 + 1) 0, (τ, wr σ (A + 5 + 26) 0 v1, nx), (τ, wr (wr σ (A + 5 + 26) 0 v1) (A + 84 + 1) 0 v1, nx), by simp [cl_state, X11_state_f, pI, e0], hI.s2, by simp [re_state, X12_state_f, l0, t2, r1], go_sc hI (q := (26, 0, 0)) (by decide) (fun n nd _ => by simp [okS])⟩
