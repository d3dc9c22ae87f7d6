/-! image. -/
/-- what lies apart has not changed -/
def keepA (A nx : Nat) (kp : Option Nat) (τ τ' : Tau) (σ σ' : Sig) : Prop := ∀ a, a < nx → ((A + 1 ≤ a ∧ a < A + 5) ∨ A + 95 ≤ a) → (∀ q, kp = some q → a < q ∨ q + 35 ≤ a) → τ' a = τ a ∧ σ' a = σ a
theorem keepA.at {A nx : Nat} {kp : Option Nat} {τ τ' : Tau} {σ σ' : Sig} (h : keepA A nx kp τ τ' σ σ') {t len : Nat} (ha : apart A nx kp t len) : ∀ i, i < len → τ' (t + i) = τ (t + i) ∧ σ' (t + i) = σ (t + i) := by
  intro i hi
  obtain ⟨h1, h2, h3⟩ := ha
  refine h (t + i) (by omega) (by omega) (fun q hq => ?_)
  rcases h3 q hq with z | z
  · exact Or.inl (by omega)
  · exact Or.inr (by omega)
theorem Wd.cp {b : Nat} {τ τ' : Tau} {σ σ' : Sig} {A nx nx' : Nat} {kp kp' : Option Nat} {S T : Nat} {w : wF} (h : Wd b τ σ A nx kp S w) (hk : keepA A nx kp τ τ' σ σ') (hap : ∀ t len, 0 < len → apart A nx kp t len → apart A nx' kp' t len) (h28 : ∀ j, j < 60 → rcon τ' (T + 28) j = rcon τ (S + 28) j) (h29 : ∀ j, j < 6 → rcon τ' (T + 29) j = rcon τ (S + 29) j) (hR : ∀ n nd, Rg w n nd → Rc σ S w n nd → Rc σ' T w n nd) (hB : BkF σ S w → BkF σ' T w) (hc : σ' (T + 27) 0 = σ (S + 27) 0) : Wd b τ' σ' A nx' kp' T w := by
  obtain ⟨n, nd, h1, h2, h3, h4, h5, h6⟩ := h
  refine ⟨n, nd, h1, hR n nd h1 h2, hB h3, fun k hk2 => ?_, ?_, h6⟩
  · obtain ⟨t, q1, q2, q3⟩ := h4 k hk2
    exact ⟨t, (h29 k hk2).trans q1, hap t 4 (by decide) q2, (q3.tau (fun i hi => (hk.at q2 i hi).1)).fr hk2 (fun i hi => (hk.at q2 i hi).2) (fun _ _ _ => rfl)⟩
  · obtain ⟨m, hd, sp, g1, g2, g3, g4, g5, g6⟩ := h5
    refine ⟨m, hd, sp, g1, by rw [hc]; exact g2, g3, g4, g5, fun j hj => ?_⟩
    obtain ⟨bb, q1, q2, q3, q4⟩ := g6 j hj
    exact ⟨bb, (h28 j (by omega)).trans q1, hap bb 2 (by decide) q2, q3, (q4.tau (fun i hi => (hk.at q2 i hi).1)).fr (by omega) (fun i hi => (hk.at q2 i hi).2) (fun _ _ _ => rfl) (Nat.le_refl _)⟩
theorem Wd.cw {b : Nat} {τ : Tau} {σ : Sig} {A nx : Nat} {kp : Option Nat} {W : Nat} {w w' : wF} (h : Wd b τ σ A nx kp W w) (hw : ∀ j, j < 20240 → w' j = w j) : Wd b τ σ A nx kp W w' := by
  obtain ⟨n, nd, h1, h2, h3, h4, h5, h6⟩ := h
  have h12 := h1.le12
  have h40 := h1.le40
  exact ⟨n, nd, h1.fr (fun j hj => hw j (by omega)), Rc.cor.mpr (fun i k j hc => by rw [hw j (by have := (hc.jr h12 h40).1; omega)]; exact Rc.cor.mp h2 i k j hc), h3.fr2 rfl rfl (fun j hj => hw j (by omega)), h4.fr (fun _ _ _ => rfl) (fun j _ hj => hw j (by omega)), h5.fr (fun _ _ _ => rfl) (fun j _ hj => hw j hj) (hw 16 (by decide)) rfl (Nat.le_refl _) (Nat.le_refl _), h6.fr (hw 12 (by decide)) (hw 13 (by decide))⟩
theorem re_img {B : Nat} {x : Int32} {σ : Sig} (hx : x = 0 ∨ x = 1) : ∃ s, X12_image_b15 B FU x 0 σ = some (1, s) ∧ s B 3 = 1 ∧ (∀ j, j ≠ 3 → s B j = σ B j) ∧ (∀ a, a ≠ B → a ≠ B + 1 → a ≠ B + 2 → s a = σ a) ∧ (x = 0 → (∀ j, j < 20240 → s (B + 1) j = σ (B + 2) j) ∧ s (B + 2) = σ (B + 2)) ∧ (x = 1 → (∀ j, j < 20240 → s (B + 2) j = σ (B + 1) j) ∧ s (B + 1) = σ (B + 1)) := by
  have key := fuel_up (m := 20240) (C := fun fu k => ∀ s0 : Sig, (∀ a, a ≠ B + 1 → a ≠ B + 2 → s0 a = σ a) → (x = 0 → (∀ j, j < k → s0 (B + 1) j = σ (B + 2) j) ∧ s0 (B + 2) = σ (B + 2)) → (x = 1 → (∀ j, j < k → s0 (B + 2) j = σ (B + 1) j) ∧ s0 (B + 1) = σ (B + 1)) → ∃ s, X12_image_b15 B fu x (nI k) s0 = some (1, s) ∧ s B 3 = 1 ∧ (∀ j, j ≠ 3 → s B j = σ B j) ∧ (∀ a, a ≠ B → a ≠ B + 1 → a ≠ B + 2 → s a = σ a) ∧ (x = 0 → (∀ j, j < 20240 → s (B + 1) j = σ (B + 2) j) ∧ s (B + 2) = σ (B + 2)) ∧ (x = 1 → (∀ j, j < 20240 → s (B + 2) j = σ (B + 1) j) ∧ s (B + 1) = σ (B + 1))) (fun fu s0 e1 e2 e3 => ?_) (fun fu k hk ih s0 e1 e2 e3 => ?_) 20240 0 FU (by omega) (by unfold FU; omega)
  · rw [nI_0] at key
    exact key σ (fun _ _ _ => rfl) (fun _ => ⟨fun j hj => absurd hj (by omega), rfl⟩) (fun _ => ⟨fun j hj => absurd hj (by omega), rfl⟩)
  · refine ⟨wr s0 B 3 1, ?_, wr_v, fun j hj => by rw [wr_o hj, e1 B (by omega) (by omega)], fun a h1 h2 h3 => by rw [wr_row h1]; exact e1 a h2 h3, fun h => ?_, fun h => ?_⟩
    · unfold X12_image_b15 pZ
      rw [if_pos (show (20240 : Int32) ≤ nI 20240 from Int32.le_refl _), if_pos (Or.inr rfl), bsm]
    · rw [wr_row (by omega), wr_row (by omega)]; exact e2 h
    · rw [wr_row (by omega), wr_row (by omega)]; exact e3 h
  · unfold X12_image_b15
    rw [if_neg (show ¬ (20240 : Int32) ≤ nI k from nI_ge (b := 20240) hk (by decide)), ldn hk (by decide), bsm, stn hk (by decide), bsm, ldn hk (by decide), bsm, stn hk (by decide), bsm, nI_s]
    rcases hx with rfl | rfl
    · rw [if_pos rfl]
      refine ih _ (fun a h1 h2 => by rw [wr_row h1]; exact e1 a h1 h2) (fun h => ?_) (fun h => absurd h (by decide))
      obtain ⟨q1, q2⟩ := e2 h
      refine ⟨fun j hj => ?_, by rw [wr_row (by omega)]; exact q2⟩
      by_cases e : j = k
      · subst e; rw [wr_v, q2]
      · rw [wr_o e]; exact q1 j (by omega)
    · rw [if_neg n10]
      refine ih _ (fun a h1 h2 => by rw [wr_row h2]; exact e1 a h1 h2) (fun h => absurd h (by decide)) (fun h => ?_)
      obtain ⟨q1, q2⟩ := e3 h
      refine ⟨fun j hj => ?_, by rw [wr_row (by omega)]; exact q2⟩
      by_cases e : j = k
      · subst e; rw [wr_v, q2]
      · rw [wr_o e]; exact q1 j (by omega)
/-- shapes of the class and of the reference stay -/
theorem ShX12.fr {τ τ' : Tau} {a : Nat} (h : ShX12 τ a) (ht : ∀ x, a ≤ x → x < a + 11 → τ' x = τ x) : ShX12 τ' a := by
  unfold ShX12 at h ⊢
  rw [ht _ (by omega) (by omega), ht _ (by omega) (by omega), ht _ (by omega) (by omega), ht _ (by omega) (by omega), ht _ (by omega) (by omega), ht _ (by omega) (by omega), ht _ (by omega) (by omega), ht _ (by omega) (by omega), ht _ (by omega) (by omega), ht _ (by omega) (by omega), ht _ (by omega) (by omega)]
  exact h
theorem ShX11.fr {τ τ' : Tau} {A : Nat} (h : ShX11 τ A) (hA : τ' A = some (.inl (11, [some (some (A + 5)), some (some (A + 40)), some (rfld τ' A 2), some (some (A + 75)), some (some (A + 77))]))) (h5 : ShX10 τ' (A + 5) 2000) (h40 : ShX10 τ' (A + 40) 0) (ht : ∀ x, A + 75 ≤ x → x < A + 84 → τ' x = τ x) : ShX11 τ' A := by
  obtain ⟨-, -, -, p6, p5⟩ := h
  refine ⟨hA, h5, h40, ?_, ?_⟩
  · unfold ShX6 at p6 ⊢
    rw [ht _ (by omega) (by omega), ht _ (by omega) (by omega)]; exact p6
  · unfold ShX5 at p5 ⊢
    rw [ht _ (by omega) (by omega), ht _ (by omega) (by omega), ht _ (by omega) (by omega), ht _ (by omega) (by omega), ht _ (by omega) (by omega), ht _ (by omega) (by omega), ht _ (by omega) (by omega)]; exact p5
theorem ShX10.same {τ τ' : Tau} {a M : Nat} (h : ShX10 τ a M) (ht : ∀ x, a ≤ x → x < a + 35 → τ' x = τ x) : ShX10 τ' a M := by
  refine h.fr (fun x h1 h2 _ _ => ht x h1 h2) ?_ ?_
  · rw [ht _ (by omega) (by omega), rcon_eq (ht (a + 28) (by omega) (by omega))]; exact h.2.2.2.2.2.2.1.2
  · rw [ht _ (by omega) (by omega), rcon_eq (ht (a + 29) (by omega) (by omega))]; exact h.2.2.2.2.2.2.2.1
theorem rfld_of {τ : Tau} {a k ci : Nat} {rs : List (Option (Option Nat))} {r : Option Nat} (h : τ a = some (.inl (ci, rs))) (hk : rs[k]? = some (some r)) : rfld τ a k = r := by
  unfold rfld; rw [h]; simp [List.getD, hk]
