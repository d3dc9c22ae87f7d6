/-! TEXTS: a new text in the invariant. -/
def svL (L : List (Nat × Nat)) (j : Nat) : Nat := ((L[j]?).getD (0, 0)).2
theorem svL_of {L : List (Nat × Nat)} {j : Nat} {x : Nat × Nat} (h : L[j]? = some x) : svL L j = x.2 := by unfold svL; rw [h]; rfl
theorem txt_new {a B : Nat} {t : Nat → Int32} {len : Nat} {law : Bool} {n i : Nat} {L : List (Nat × Nat)} {d : Nat} {ss : Nat → Nat} {s r rf : Sig} {τ' : Tau} {k nx l : Nat} (hlaw : law = decide (k < 2)) (hl : l ≤ 16) (h : Rl a B t len law n i L d s r) (hL : L.length ≤ i) (hN : Lns a B law L l ss s r) (hS : ShX7 τ' nx (l + 1) l L.length) (f0 : rf nx 0 = nI l) (f1 : ∀ j, j ≤ l → rf (nx + 1) j = s (a + 2) j) (f2 : ∀ j, j < l → rf (nx + 2) j = s (a + 3) j) (f3 : ∀ j, j < L.length → rf (nx + 3) j = s (a + 1) j) (w0 : rf (B + 1) (2550 + k) = nI l)
    (w4 : ∀ j, j < l → rf (B + 1) (2560 + 16 * k + j) = r (B + 4) (4 * j) ∧ rf (B + 1) (2660 + 16 * k + j) = r (B + 4) (4 * j + 1) ∧ rf (B + 1) (2760 + 16 * k + j) = r (B + 4) (4 * j + 2) ∧ rf (B + 1) (2860 + 16 * k + j) = r (B + 4) (4 * j + 3)) (w5 : ∀ j, j < 2 * L.length → rf (B + 1) (2960 + 820 * k + j) = r (B + 5) j) : Txt τ' rf (rf (B + 1)) k nx := by
  subst hlaw
  have hn : n ≤ 400 := h.1.1
  have hi : i ≤ n := h.2.2.1
  have hR : RelS (decide (k < 2)) L (s (a + 1)) (r (B + 5)) := h.2.2.2.2.2.2.2.2.2.2.2.2.1
  obtain ⟨g0, g1, g2, g3⟩ := hN
  refine ⟨l, L.length, ss, soL L, svL L, hl, by omega, hS, f0, w0, g0, g1, fun j hj => by rw [f1 j hj]; exact g2 j hj, fun j hj => ?_, fun j hj => ?_⟩
  · obtain ⟨q1, q2, q3, q4, q5, q6⟩ := g3 j hj
    obtain ⟨b1, b2, b3, b4⟩ := w4 j hj
    refine ⟨q1, by rw [b3]; exact q3, by rw [b4]; exact q4, q5, ?_⟩
    rw [b1, b2, f2 j hj]
    unfold Bids at q6
    by_cases c : k < 2
    · rw [if_pos c]; rw [if_pos (decide_eq_true c)] at q6; exact q6
    · rw [if_neg c]; rw [if_neg (by rw [decide_eq_false c]; exact Bool.false_ne_true)] at q6
      rcases q6 with ⟨q, u1, u2, u3⟩ | u
      · exact ⟨q, Or.inl ⟨u1, u2, u3⟩⟩
      · exact ⟨0, Or.inr u⟩
  · have hx : L[j]? = some L[j] := List.getElem?_eq_getElem hj
    obtain ⟨a1, a2, a3, a4, e, a5, a6⟩ := hR j _ hx
    rw [soL_of hx, svL_of hx, w5 (2 * j) (by omega), show 2960 + 820 * k + 2 * j + 1 = 2960 + 820 * k + (2 * j + 1) from rfl, w5 (2 * j + 1) (by omega), f3 j hj]
    exact ⟨a1, a2, a3, a4, e, a5, a6⟩
theorem Txt.fr2 {τ τ' : Tau} {σ σ' : Sig} {w w' : wF} {k t : Nat} (h : Txt τ σ w k t) (ht : ∀ i, i < 4 → τ' (t + i) = τ (t + i)) (hσ : ∀ i, i < 4 → σ' (t + i) = σ (t + i)) (hw : ∀ j, (j = 2550 + k ∨ (2560 + 16 * k ≤ j ∧ j < 2560 + 16 * k + 16) ∨ (2660 + 16 * k ≤ j ∧ j < 2660 + 16 * k + 16) ∨ (2760 + 16 * k ≤ j ∧ j < 2760 + 16 * k + 16) ∨ (2860 + 16 * k ≤ j ∧ j < 2860 + 16 * k + 16) ∨ (2960 + 820 * k ≤ j ∧ j < 2960 + 820 * k + 820)) → w' j = w j) : Txt τ' σ' w' k t := by
  obtain ⟨m, c, s, so, sv, g1, g2, g3, g4, g5, g6, g7, g8, g9, g10⟩ := h.tau ht
  have e0 : σ' t = σ t := hσ 0 (by decide)
  have e1 := hσ 1 (by decide)
  have e2 := hσ 2 (by decide)
  have e3 := hσ 3 (by decide)
  refine ⟨m, c, s, so, sv, g1, g2, g3, by rw [e0]; exact g4, by rw [hw _ (by omega)]; exact g5, g6, g7, fun l hl => by rw [e1]; exact g8 l hl, fun l hl => ?_, fun i hi => ?_⟩
  · obtain ⟨q1, q2, q3, q4, q5⟩ := g9 l hl
    refine ⟨q1, by rw [hw _ (by omega)]; exact q2, by rw [hw _ (by omega)]; exact q3, q4, ?_⟩
    rw [hw (2560 + 16 * k + l) (by omega), hw (2660 + 16 * k + l) (by omega), e2]
    exact q5
  · obtain ⟨q1, q2, q3, q4, q5⟩ := g10 i hi
    refine ⟨q1, q2, by rw [hw _ (by omega)]; exact q3, fun hq => by rw [hw _ (by omega)]; exact q4 hq, ?_⟩
    rw [e3]; exact q5
theorem Inv.txt {A b : Nat} {τ τ' : Tau} {σ r : Sig} {nx k : Nat} (hI : Inv A b (τ, σ, nx)) (hk : k < 6) (tO : ∀ x, x ≠ A + 34 → (x < nx ∨ nx + 4 ≤ x) → τ' x = τ x) (t34 : τ' (A + 34) = some (.inr (.inr (7, 6, rcon τ' (A + 34))))) (tk : rcon τ' (A + 34) k = some nx) (tj : ∀ j, j < 6 → j ≠ k → rcon τ' (A + 34) j = rcon τ (A + 34) j)
    (ro : ∀ x, x < nx → x ≠ A + 75 → (x < A + 77 ∨ A + 83 < x) → x ≠ A + 84 → x ≠ A + 85 → x ≠ A + 88 → x ≠ A + 89 → r x = σ x) (c75 : r (A + 75) 1 = 0) (c12 : r (A + 84) 12 = 0) (c79 : r (A + 79) 0 = 0) (e0 : r (A + 77) 0 = r (A + 84) 19) (e1 : r (A + 77) 1 = r (A + 84) 21) (e3 : r (A + 84) 3 = σ (A + 84) 3)
    (w1 : ∀ j, (j ≠ 2550 + k ∧ Ro k j ∧ (j < 2960 + 820 * k ∨ 2960 + 820 * k + 820 ≤ j)) → r (A + 84 + 1) j = σ (A + 84 + 1) j) (hnew : Txt τ' r (r (A + 84 + 1)) k nx) : Inv A b (τ', r, nx + 4) := by
  obtain ⟨g1, g2, g3, ⟨g4, g4', g4''⟩, g5, g6, g7, g8, g9, g10⟩ := hI
  dsimp only at g1 g2 g3 g4 g4' g4'' g5 g6 g7 g8 g9 g10
  have tA : τ' A = τ A := tO A (by omega) (by omega)
  have kq : rfld τ' A 2 = rfld τ A 2 := by unfold rfld; rw [tA]
  have ro' : ∀ x, x < nx → x ≠ A + 75 → (x < A + 77 ∨ A + 83 < x) → (x < A + 84 ∨ x = A + 86 ∨ A + 90 ≤ x) → r x = σ x := fun x h1 h2 h3 h4 => ro x h1 h2 h3 (by omega) (by omega) (by omega) (by omega)
  have w1' : ∀ j, (j < 2550 ∨ 7880 ≤ j) → r (A + 84 + 1) j = σ (A + 84 + 1) j := fun j hj => w1 j ⟨by omega, ⟨by omega, by omega, by omega, by omega⟩, by omega⟩
  have hkp : ∀ kp, keepA A nx kp τ τ' σ r := fun kp a h1 h2 _ => ⟨tO a (by omega) (by omega), ro' a h1 (by omega) (by omega) (by omega)⟩
  have hap : ∀ kp t len, 0 < len → apart A nx kp t len → apart A (nx + 4) kp t len := fun kp t len _ h => h.up (by omega)
  have ob : ∀ ci b rs, τ b = some (.inl (ci, rs)) → τ' b = τ b := fun ci b rs q => by
    have hb := ob_lt g4 q
    refine tO b (fun z => ?_) (by omega)
    subst z
    have e := g1.2.1.2.2.2.2.2.2.2.1
    rw [show A + 5 + 29 = A + 34 by omega, q] at e; cases e
  obtain ⟨n, nd, hG, hR, hB, hT, hBr, hF⟩ := id g5
  have h12 := hG.le12
  have h40 := hG.le40
  have kpq : ∀ q, rfld τ A 2 = some q → q + 35 ≤ nx := fun q hq => by
    rw [hq] at g10; exact g10.2.2.1
  have e28 : τ' (A + 5 + 28) = τ (A + 5 + 28) := tO _ (by omega) (by omega)
  refine ⟨?_, ?_, by dsimp only; omega, ⟨fun a ha => ?_, ?_, ?_⟩, ?_, ?_, ?_, ?_, ?_, ?_⟩
  · refine g1.fr (by dsimp only; rw [tA, kq]; exact g1.1) (g1.2.1.fr (fun x h1 h2 h3 h4 => tO x (by omega) (by omega)) (by dsimp only; rw [rcon_eq e28, e28]; exact g1.2.1.2.2.2.2.2.2.1.2) t34) (g1.2.2.1.same (fun x h1 h2 => tO x (by omega) (by omega))) (fun x h1 h2 => tO x (by omega) (by omega))
  · exact g2.fr (fun x h1 h2 => tO x (by omega) (by omega))
  · dsimp only at ha ⊢; rw [tO a (by omega) (by omega)]; exact g4 a (by omega)
  · exact g4'.tau (fun b rs z => ob 0 b rs z) e28
  · exact c79
  · dsimp only
    rw [kq]
    refine ⟨n, nd, hG.fr (fun j hj => w1' j (by omega)), ?_, hB.fr2 (ro' _ (by omega) (by omega) (by omega) (by omega)) (ro' _ (by omega) (by omega) (by omega) (by omega)) (fun j hj => w1' j (by omega)), fun k' hk' => ?_, ?_, hF.fr (w1' 12 (by omega)) (w1' 13 (by omega))⟩
    · have h2 : Rc r (A + 5) (σ (A + 84 + 1)) n nd := hR.fr (fun i hi => ro' _ (by omega) (by omega) (by omega) (by omega))
      exact Rc.cor.mpr (fun i k j hc => by rw [w1' j (by have := (hc.jr h12 h40).1; omega)]; exact Rc.cor.mp h2 i k j hc)
    · by_cases c : k' = k
      · subst c
        exact ⟨nx, tk, ⟨Or.inr g3, Nat.le_refl _, fun q hq => Or.inr (kpq q hq)⟩, hnew⟩
      · obtain ⟨t, z1, z2, z3⟩ := hT k' hk'
        have at4 := (hkp (rfld τ A 2)).at z2
        refine ⟨t, (tj k' hk' c).trans z1, hap _ t 4 (by decide) z2, z3.fr2 (fun i hi => (at4 i hi).1) (fun i hi => (at4 i hi).2) (fun j hj => w1 j ⟨by omega, ⟨by omega, by omega, by omega, by omega⟩, by omega⟩)⟩
    · obtain ⟨m, hd, sp, q1, q2, q3, q4, q5, q6⟩ := hBr
      refine ⟨m, hd, sp, q1, by rw [ro' _ (by omega) (by omega) (by omega) (by omega)]; exact q2, by rw [w1' 16 (by omega)]; exact q3, q4, q5, fun j hj => ?_⟩
      obtain ⟨bb, z1, z2, z3, z4⟩ := q6 j hj
      have at2 := (hkp (rfld τ A 2)).at z2
      exact ⟨bb, by rw [rcon_eq (tO (A + 5 + 27 + 1) (by omega) (by omega))]; exact z1, hap _ bb 2 (by decide) z2, z3, (z4.tau (fun i hi => (at2 i hi).1)).fr (by omega) (fun i hi => (at2 i hi).2) (fun i h1 _ => w1' i (by omega)) (Nat.le_refl _)⟩
  · dsimp only; unfold BkN; rw [ro' _ (by omega) (by omega) (by omega) (by omega)]; exact g6
  · exact ⟨0, Nat.zero_le _, c75, c12, fun j hj => absurd hj (by omega)⟩
  · exact e0
  · exact e1
  · dsimp only
    rw [kq, e3]
    split
    · next hq => rw [hq] at g10; exact g10
    · next q hq =>
      rw [hq] at g10
      obtain ⟨k1, k2, k3, ⟨k4, k4', k4''⟩, k5⟩ := g10
      refine ⟨k1, k2, by omega, ⟨k4.same (fun x h1 h2 => tO x (by omega) (by omega)), k4'.tau (fun b rs z => ob 0 b rs z) (tO _ (by omega) (by omega)), by rw [ro' _ (by omega) (by omega) (by omega) (by omega)]; exact k4''⟩, ?_⟩
      rw [ro' (A + 84 + 2) (by omega) (by omega) (by omega) (by omega)]
      exact k5.cp (hkp _) (hap _) (fun j _ => by rw [rcon_eq (tO (q + 28) (by omega) (by omega))]) (fun j _ => by rw [rcon_eq (tO (q + 29) (by omega) (by omega))]) (fun n nd _ h => h.fr (fun i hi => ro' _ (by omega) (by omega) (by omega) (by omega))) (fun h => h.fr (fun i hi => ro' _ (by omega) (by omega) (by omega) (by omega))) (by rw [ro' _ (by omega) (by omega) (by omega) (by omega)])
theorem Inv.txf {A b : Nat} {τ : Tau} {σ r : Sig} {nx : Nat} (hI : Inv A b (τ, σ, nx)) (ro : ∀ x, x ≠ A + 75 → (x < A + 77 ∨ A + 83 < x) → x ≠ A + 84 → x ≠ A + 88 → x ≠ A + 89 → r x = σ x) (c75 : r (A + 75) 1 = 0) (c12 : r (A + 84) 12 = 0) (c79 : r (A + 79) 0 = σ (A + 79) 0) (e0 : r (A + 77) 0 = r (A + 84) 19) (e1 : r (A + 77) 1 = r (A + 84) 21) (e3 : r (A + 84) 3 = σ (A + 84) 3) : Inv A b (τ, r, nx) := by
  obtain ⟨-, -, -, -, g5, g6, -, -, -, -⟩ := id hI
  dsimp only at g5 g6
  have e : ∀ x, x ≠ A + 75 → (x < A + 77 ∨ A + 83 < x) → (x < A + 84 ∨ (A + 84 < x ∧ x < A + 88) ∨ A + 90 ≤ x) → r x = σ x := fun x h1 h2 h3 => ro x h1 h2 (by omega) (by omega) (by omega)
  refine hI.go (fun a ha => e a (by omega) (by omega) (by omega)) ?_ ?_ ⟨0, Nat.zero_le _, c75, c12, fun j hj => absurd hj (by omega)⟩ e0 e1 e3 c79
  · rw [e _ (by omega) (by omega) (by omega)]
    exact g5.fr (fun i hi => e _ (by omega) (by omega) (by omega)) (fun a ha _ => e a (by omega) (by omega) (by omega))
  · unfold BkN; rw [e _ (by omega) (by omega) (by omega)]; exact g6
