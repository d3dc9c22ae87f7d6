/-! debt, end, feed. -/
def debC (P n : Nat) (a b c : Int32) (σ : Sig) : Sig := wr (wr (wr (wr (wr (wr (wr (wr σ (P + 1) n a) (P + 2) n b) (P + 3) n c) (P + 4) n 0) (P + 5) n (-1)) (P + 6) n 0) (P + 7) n 0) P 0 (nI (n + 1))
def debR (B n : Nat) (a b c : Int32) (σ : Sig) : Sig := wr (wr (wr (wr (wr (wr (wr (wr σ (B + 1) (230 + 8 * n) a) (B + 1) (230 + 8 * n + 1) b) (B + 1) (230 + 8 * n + 2) c) (B + 1) (230 + 8 * n + 3) 0) (B + 1) (230 + 8 * n + 4) (-1)) (B + 1) (230 + 8 * n + 5) 0) (B + 1) (230 + 8 * n + 6) 0) (B + 1) 10 (nI (n + 1))
def debW (n : Nat) (a b c : Int32) (w : wF) : wF := upd (upd (upd (upd (upd (upd (upd (upd w (230 + 8 * n) a) (230 + 8 * n + 1) b) (230 + 8 * n + 2) c) (230 + 8 * n + 3) 0) (230 + 8 * n + 4) (-1)) (230 + 8 * n + 5) 0) (230 + 8 * n + 6) 0) 10 (nI (n + 1))
theorem debR_w {B n : Nat} {a b c : Int32} {σ : Sig} : debR B n a b c σ (B + 1) = debW n a b c (σ (B + 1)) := by
  unfold debR debW; simp only [wr_w]
theorem debR_ne {B n : Nat} {a b c : Int32} {σ : Sig} {x : Nat} (h : x ≠ B + 1) : debR B n a b c σ x = σ x := by
  unfold debR; rw [wr_row h, wr_row h, wr_row h, wr_row h, wr_row h, wr_row h, wr_row h, wr_row h]
theorem debC_ne {P n : Nat} {a b c : Int32} {σ : Sig} {x : Nat} (h : x < P ∨ P + 7 < x) : debC P n a b c σ x = σ x := by
  unfold debC; rw [wr_row (by omega), wr_row (by omega), wr_row (by omega), wr_row (by omega), wr_row (by omega), wr_row (by omega), wr_row (by omega), wr_row (by omega)]
theorem debW_ne {n : Nat} {a b c : Int32} {w : wF} {j : Nat} (h : j ≠ 10) (h2 : j < 230 + 8 * n ∨ 230 + 8 * n + 6 < j) : debW n a b c w j = w j := by
  unfold debW; rw [upd_ne h, upd_ne (by omega), upd_ne (by omega), upd_ne (by omega), upd_ne (by omega), upd_ne (by omega), upd_ne (by omega), upd_ne (by omega)]
theorem debW_v {n : Nat} {a b c : Int32} {w : wF} : debW n a b c w (230 + 8 * n) = a ∧ debW n a b c w (230 + 8 * n + 1) = b ∧ debW n a b c w (230 + 8 * n + 2) = c ∧ debW n a b c w (230 + 8 * n + 3) = 0 ∧ debW n a b c w (230 + 8 * n + 4) = -1 ∧ debW n a b c w (230 + 8 * n + 5) = 0 ∧ debW n a b c w (230 + 8 * n + 6) = 0 ∧ debW n a b c w 10 = nI (n + 1) := by
  unfold debW
  refine ⟨?_, ?_, ?_, ?_, ?_, ?_, ?_, by rw [upd_eq]⟩
  · rw [upd_ne (by omega), upd_ne (by omega), upd_ne (by omega), upd_ne (by omega), upd_ne (by omega), upd_ne (by omega), upd_ne (by omega), upd_eq]
  · rw [upd_ne (by omega), upd_ne (by omega), upd_ne (by omega), upd_ne (by omega), upd_ne (by omega), upd_ne (by omega), upd_eq]
  · rw [upd_ne (by omega), upd_ne (by omega), upd_ne (by omega), upd_ne (by omega), upd_ne (by omega), upd_eq]
  · rw [upd_ne (by omega), upd_ne (by omega), upd_ne (by omega), upd_ne (by omega), upd_eq]
  · rw [upd_ne (by omega), upd_ne (by omega), upd_ne (by omega), upd_eq]
  · rw [upd_ne (by omega), upd_ne (by omega), upd_eq]
  · rw [upd_ne (by omega), upd_eq]
theorem Cor.sucD {n nd i k j : Nat} (hc : Cor n (nd + 1) i k j) (h10 : j ≠ 10 → (j < 230 + 8 * nd ∨ 230 + 8 * nd + 6 < j)) (h11 : j ≠ 10) : Cor n nd i k j := by
  unfold Cor at hc ⊢
  rcases hc with q | q | ⟨h0, f, q⟩ | ⟨h0, f, q⟩ | ⟨h0, f, q⟩ | q | q | q | q | q
  · exact Or.inl q
  · exact absurd q.2.2 h11
  · exact Or.inr (Or.inr (Or.inl ⟨h0, f, q⟩))
  · exact Or.inr (Or.inr (Or.inr (Or.inl ⟨h0, f, q⟩)))
  · have := h10 h11
    exact Or.inr (Or.inr (Or.inr (Or.inr (Or.inl ⟨by omega, f, q⟩))))
  · exact Or.inr (Or.inr (Or.inr (Or.inr (Or.inr (Or.inl q)))))
  · exact Or.inr (Or.inr (Or.inr (Or.inr (Or.inr (Or.inr (Or.inl q))))))
  · exact Or.inr (Or.inr (Or.inr (Or.inr (Or.inr (Or.inr (Or.inr (Or.inl q)))))))
  · exact Or.inr (Or.inr (Or.inr (Or.inr (Or.inr (Or.inr (Or.inr (Or.inr (Or.inl q))))))))
  · exact Or.inr (Or.inr (Or.inr (Or.inr (Or.inr (Or.inr (Or.inr (Or.inr (Or.inr q))))))))
theorem deb_rc {σ : Sig} {W : Nat} {w : wF} {n nd : Nat} (hn : n ≤ 12) (hd : nd < 40) (h : Rc σ W w n nd) (a b c : Int32) : Rc (debC (W + 12) nd a b c σ) W (debW nd a b c w) n (nd + 1) := by
  have h0 : RcX [230 + 8 * nd, 230 + 8 * nd + 1, 230 + 8 * nd + 2, 230 + 8 * nd + 3, 230 + 8 * nd + 4, 230 + 8 * nd + 5, 230 + 8 * nd + 6, 10] σ W w n (nd + 1) := by
    intro i k j hc hL
    simp only [List.mem_cons, List.not_mem_nil, or_false, not_or] at hL
    exact Rc.cor.mp h i k j (hc.sucD (fun _ => by omega) (by omega))
  have cp : ∀ f, f < 7 → Cor n (nd + 1) (13 + f) nd (230 + 8 * nd + f) := fun f hf => Or.inr (Or.inr (Or.inr (Or.inr (Or.inl ⟨by omega, f, hf, rfl, rfl⟩))))
  have h40 : nd + 1 ≤ 40 := by omega
  have h1 := h0.put (v := a) hn h40 (cp 0 (by decide))
  have h2 := h1.put (v := b) hn h40 (cp 1 (by decide))
  have h3 := h2.put (v := c) hn h40 (cp 2 (by decide))
  have h4 := h3.put (v := 0) hn h40 (cp 3 (by decide))
  have h5 := h4.put (v := -1) hn h40 (cp 4 (by decide))
  have h6 := h5.put (v := 0) hn h40 (cp 5 (by decide))
  have h7 := h6.put (v := 0) hn h40 (cp 6 (by decide))
  have h8 := h7.put (v := nI (nd + 1)) hn h40 (i := 12) (k := 0) (Or.inr (Or.inl ⟨rfl, rfl, rfl⟩))
  exact h8.rc
theorem st_debt (A b : Nat) : St_debt (Inv A b) A (A + 84) := by
  intro h v1 v2 v3 hI
  obtain ⟨τ, σ, nx⟩ := h
  obtain ⟨n, nd, hG, hR, hB, hT, hBr⟩ := hI.wd
  dsimp only at hG hR hB hT hBr
  have h12 := hG.le12
  have h40 := hG.le40
  have hc : σ (A + 5 + 1) 0 = nI n := hR.p.1.trans hG.wn
  have hcd : σ (A + 5 + 12) 0 = nI nd := hR.d.1.trans hG.wd
  show ∃ (r : Int32) (h1 h2 : Hp), ((X11_debt_f A v1 v2 v3 σ).bind fun p => some (p.1, ((τ, p.2, nx) : Hp))) = some (r, h1) ∧ ShX12 h1.1 (A + 84) ∧ ((X12_debt_f (A + 84) v1 v2 v3 h1.2.1).bind fun p => some (p.1, ((h1.1, p.2, h1.2.2) : Hp))) = some (r, h2) ∧ Inv A b h2
  rcases oneOf v1 n with ⟨p, hp, rfl⟩ | ho
  rotate_left
  · refine hI.no (re := fun ρ => X12_debt_f (A + 84) v1 v2 v3 ρ) (r := -1) ?_ ?_
    · unfold X11_debt_f; rw [has4_out h12 hc ho, bsm, if_pos rfl]
    · unfold X12_debt_f; rw [re_isOne_out h12 hG.wn ho, bsm, if_pos rfl]
  rcases oneOf v2 n with ⟨q, hq, rfl⟩ | ho
  rotate_left
  · refine hI.no (re := fun ρ => X12_debt_f (A + 84) (nI p) v2 v3 ρ) (r := -1) ?_ ?_
    · unfold X11_debt_f; rw [has4_in h12 hc hp, bsm, if_neg n10, has4_out h12 hc ho, bsm, if_pos rfl]
    · unfold X12_debt_f; rw [re_isOne_in h12 hG.wn hp, bsm, if_neg n10, re_isOne_out h12 hG.wn ho, bsm, if_pos rfl]
  by_cases e : nI p = nI q
  · refine hI.no (re := fun ρ => X12_debt_f (A + 84) (nI p) (nI q) v3 ρ) (r := -1) ?_ ?_
    · unfold X11_debt_f; rw [has4_in h12 hc hp, bsm, if_neg n10, has4_in h12 hc hq, bsm, if_neg n10, if_pos e]
    · unfold X12_debt_f; rw [re_isOne_in h12 hG.wn hp, bsm, if_neg n10, re_isOne_in h12 hG.wn hq, bsm, if_neg n10, if_pos e]
  rcases within_in v3 1 200 σ σ with ⟨l1, l2, d1, d2⟩ | ⟨d1, d2⟩
  rotate_left
  · refine hI.no (re := fun ρ => X12_debt_f (A + 84) (nI p) (nI q) v3 ρ) (r := -1) ?_ ?_
    · unfold X11_debt_f; rw [has4_in h12 hc hp, bsm, if_neg n10, has4_in h12 hc hq, bsm, if_neg n10, if_neg e, d1, bsm, if_pos rfl]
    · unfold X12_debt_f; rw [re_isOne_in h12 hG.wn hp, bsm, if_neg n10, re_isOne_in h12 hG.wn hq, bsm, if_neg n10, if_neg e, d2, bsm, if_pos rfl]
  have fit : nI nd < 40 ↔ nd < 40 := nI_ltI (b := 40) (by omega) (by decide)
  have full : nI nd = 40 ↔ nd = 40 := nI_eq (b := 40) (by omega) (by decide)
  by_cases cf : nd = 40
  · refine hI.no (re := fun ρ => X12_debt_f (A + 84) (nI p) (nI q) v3 ρ) (r := -1) ?_ ?_
    · unfold X11_debt_f X3_add_f; rw [has4_in h12 hc hp, bsm, if_neg n10, has4_in h12 hc hq, bsm, if_neg n10, if_neg e, d1, bsm, if_neg n10, hcd, if_neg (fun z => absurd (fit.mp z) (by omega)), bsm]
    · unfold X12_debt_f; rw [re_isOne_in h12 hG.wn hp, bsm, if_neg n10, re_isOne_in h12 hG.wn hq, bsm, if_neg n10, if_neg e, d2, bsm, if_neg n10, LW.2.2.2.2.2.2.2.2.2.2.1, bsm, hG.wd, if_pos (full.mpr cf)]
  have hd : nd < 40 := by omega
  have s40 : ∀ (s : Sig) (a : Nat) (v : Int32), st 40 s a (nI nd) v = some (wr s a nd v) := fun s a v => stn hd (by decide)
  have e9 : debC (A + 5 + 12) nd (nI p) (nI q) v3 σ (A + 84 + 1) = σ (A + 84 + 1) := debC_ne (by omega)
  have hcl : X11_debt_f A (nI p) (nI q) v3 σ = some (nI nd, debC (A + 5 + 12) nd (nI p) (nI q) v3 σ) := by
    unfold X11_debt_f X3_add_f
    rw [has4_in h12 hc hp, bsm, if_neg n10, has4_in h12 hc hq, bsm, if_neg n10, if_neg e, d1, bsm, if_neg n10, hcd, if_pos (fit.mpr hd)]
    simp only [s40, bsm, pI]
    unfold debC
    rw [wr_row (show A + 5 + 12 ≠ A + 5 + 12 + 7 by omega), wr_row (show A + 5 + 12 ≠ A + 5 + 12 + 6 by omega), wr_row (show A + 5 + 12 ≠ A + 5 + 12 + 5 by omega), wr_row (show A + 5 + 12 ≠ A + 5 + 12 + 4 by omega), wr_row (show A + 5 + 12 ≠ A + 5 + 12 + 3 by omega), wr_row (show A + 5 + 12 ≠ A + 5 + 12 + 2 by omega), wr_row (show A + 5 + 12 ≠ A + 5 + 12 + 1 by omega), hcd, nI_s]
  have hre : ∀ s : Sig, s (A + 84 + 1) = σ (A + 84 + 1) → X12_debt_f (A + 84) (nI p) (nI q) v3 s = some (nI nd, debR (A + 84) nd (nI p) (nI q) v3 s) := by
    intro s es
    unfold X12_debt_f
    rw [re_isOne_in h12 (by rw [es]; exact hG.wn) hp, bsm, if_neg n10, re_isOne_in h12 (by rw [es]; exact hG.wn) hq, bsm, if_neg n10, if_neg e, re_isIn_in l1 l2, bsm, if_neg n10, LW.2.2.2.2.2.2.2.2.2.2.1, bsm, es, hG.wd, if_neg (fun z => cf (full.mp z)), bsm]
    simp only [rL0 hd, rL1 hd, rL2 hd, rL3 hd, rL4 hd, rL5 hd, rL6 hd, bsm, LW, SW]
    unfold debR
    rw [wr_o (by omega), wr_o (by omega), wr_o (by omega), wr_o (by omega), wr_o (by omega), wr_o (by omega), wr_o (by omega), es, hG.wd, nI_s]
  refine hI.yes (re := fun ρ => X12_debt_f (A + 84) (nI p) (nI q) v3 ρ) hcl (hre _ e9) ?_
  have hw2 : debR (A + 84) nd (nI p) (nI q) v3 (debC (A + 5 + 12) nd (nI p) (nI q) v3 σ) (A + 84 + 1) = debW nd (nI p) (nI q) v3 (σ (A + 84 + 1)) := by rw [debR_w, e9]
  have ho : ∀ a, (a < A + 17 ∨ A + 24 < a) → a ≠ A + 85 → debR (A + 84) nd (nI p) (nI q) v3 (debC (A + 5 + 12) nd (nI p) (nI q) v3 σ) a = σ a := fun a h1 h2 => by rw [debR_ne (by omega), debC_ne (by omega)]
  have hR2 : Rc (debR (A + 84) nd (nI p) (nI q) v3 (debC (A + 5 + 12) nd (nI p) (nI q) v3 σ)) (A + 5) (debW nd (nI p) (nI q) v3 (σ (A + 84 + 1))) n (nd + 1) := (deb_rc h12 hd hR (nI p) (nI q) v3).fr (fun i hi => debR_ne (by omega))
  refine hI.go1 (fun a h1 h2 _ _ _ _ => ho a (by omega) h2) ?_
  rw [hw2]
  obtain ⟨u0, u1, u2, u3, u4, u5, u6, u10⟩ := @debW_v nd (nI p) (nI q) v3 (σ (A + 84 + 1))
  refine Wd.mkD hG hR hB hT hBr (fun a ha _ => ho a (by omega) (by omega)) (fun i h1 h2 h3 => ho _ (by omega) (by omega)) (fun j h1 h2 => debW_ne h1 (by omega)) (Nat.le_succ nd) hR2.2.1 ⟨by omega, u10, fun x hx => ?_⟩
  by_cases cp : x = nd
  · subst cp
    rw [u0, u1, u2, u3, u4, u5]
    refine ⟨⟨p, hp, rfl⟩, ⟨q, hq, rfl⟩, within_up (by decide) (Int32.le_trans (show (0 : Int32) ≤ 1 by decide) l1) l2, ⟨0, by decide, rfl⟩, Or.inl rfl, ⟨0, Nat.two_pow_pos n, rfl⟩, fun _ => e⟩
  · have q := hG.2.1.2.2 x (by omega)
    rw [debW_ne (by omega) (by omega), debW_ne (by omega) (by omega), debW_ne (by omega) (by omega), debW_ne (by omega) (by omega), debW_ne (by omega) (by omega), debW_ne (by omega) (by omega)]
    exact q
/-- the tape and the reader's rows alone have changed -/
theorem Inv.tp {A b : Nat} {τ : Tau} {σ σ' : Sig} {nx : Nat} (hI : Inv A b (τ, σ, nx)) (hN : ∀ a, a ≠ A + 75 → a ≠ A + 76 → a ≠ A + 84 → a ≠ A + 90 → σ' a = σ a) (hB : ∀ j, j ≠ 12 → σ' (A + 84) j = σ (A + 84) j) (ht : Tpe σ' A (A + 84)) : Inv A b (τ, σ', nx) := by
  obtain ⟨-, -, -, -, g5, g6, -, g8, g9, -⟩ := id hI
  dsimp only at g5 g6 g8 g9
  have e : ∀ a, a ≠ A + 75 → a ≠ A + 76 → a ≠ A + 84 → a ≠ A + 90 → σ' a = σ a := hN
  refine hI.go (fun a ha => e a (by omega) (by omega) (by omega) (by omega)) ?_ ?_ ht ?_ ?_ (hB 3 (by decide)) (by rw [e _ (by omega) (by omega) (by omega) (by omega)])
  · rw [e _ (by omega) (by omega) (by omega) (by omega)]
    exact g5.fr (fun i hi => e _ (by omega) (by omega) (by omega) (by omega)) (fun a ha _ => e a (by omega) (by omega) (by omega) (by omega))
  · unfold BkN; rw [e _ (by omega) (by omega) (by omega) (by omega)]; exact g6
  · rw [e _ (by omega) (by omega) (by omega) (by omega), hB 19 (by decide)]; exact g8
  · rw [e _ (by omega) (by omega) (by omega) (by omega), hB 21 (by decide)]; exact g9
theorem st_end (A b : Nat) : St_end (Inv A b) A (A + 84) := by
  intro h v1 hI
  obtain ⟨τ, σ, nx⟩ := h
  obtain ⟨-, -, -, -, -, -, ⟨k, hk, e1, e2, ht⟩, -⟩ := id hI
  dsimp only at e1 e2 ht
  show ∃ (r : Int32) (h1 h2 : Hp), ((X11_end_f A v1 σ).bind fun p => some (p.1, ((τ, p.2, nx) : Hp))) = some (r, h1) ∧ ShX12 h1.1 (A + 84) ∧ ((X12_end_f (A + 84) v1 h1.2.1).bind fun p => some (p.1, ((h1.1, p.2, h1.2.2) : Hp))) = some (r, h2) ∧ Inv A b h2
  rcases within_in v1 0 (nI k) σ σ with ⟨l1, l2, d1, d2⟩ | ⟨d1, d2⟩
  · obtain ⟨j, hj, rfl⟩ := within_up (by omega) l1 l2
    have e3 : wr σ (A + 75) 1 (nI j) (A + 84) = σ (A + 84) := wr_row (by omega)
    refine hI.yes (re := fun ρ => X12_end_f (A + 84) (nI j) ρ) (r := 1) (s := wr σ (A + 75) 1 (nI j)) (r' := wr (wr σ (A + 75) 1 (nI j)) (A + 84) 12 (nI j)) ?_ ?_ ?_
    · unfold X11_end_f pI; rw [e1, d1, bsm, if_neg n10, bsm]
    · unfold X12_end_f pI; rw [e3, e2, re_isIn_in l1 l2, bsm, if_neg n10, bsm]
    · refine hI.tp (fun a h1 h2 h3 h4 => by rw [wr_row h3, wr_row h1]) (fun i hi => by rw [wr_o hi, e3]) ⟨j, by omega, ?_, wr_v, fun i hi => ?_⟩
      · rw [wr_row (by omega), wr_v]
      · rw [wr_row (by omega), wr_row (by omega), wr_row (by omega), wr_row (by omega)]; exact ht i (by omega)
  · refine hI.no (re := fun ρ => X12_end_f (A + 84) v1 ρ) (r := 0) ?_ ?_
    · unfold X11_end_f; rw [e1, d1, bsm, if_pos rfl]
    · unfold X12_end_f; rw [e2, d2, bsm, if_pos rfl]
