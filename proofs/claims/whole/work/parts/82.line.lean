/-! THE FIRST LINE of a text whose condition is so. -/
theorem line_two {τ : Tau} {W B t m c k : Nat} {s so sv : Nat → Nat} {σ ρ : Sig} {law : Bool} (hm : m ≤ 16) (hc : c ≤ 400) (hk : k < 6) (g4 : σ t 0 = nI m) (g5 : ρ (B + 1) (2550 + k) = nI m) (g7 : s m = c) (g8 : ∀ l, l ≤ m → σ (t + 1) l = nI (s l)) (g9 : ∀ l, l < m → s l ≤ s (l + 1) ∧ ρ (B + 1) (2760 + 16 * k + l) = nI (s l) ∧ ρ (B + 1) (2860 + 16 * k + l) = nI (s (l + 1)) ∧ (s l = s (l + 1) ∨ tyR so (s (l + 1) - s l) (s l) [] = some [true])) (hS : Steps law (ρ (B + 1)) (σ (t + 3)) k c so sv) (hF : Fct law (σ (W + 30)) (ρ (B + 8))) (ht : t + 3 < W ∨ W + 35 ≤ t) : Two (X7_firstLine_f t (m + 1) m c (W + 30) 8 (W + 31) 32 σ) (X12_firstLine_f B (nI k) ρ) (fun x y => ((x.1 = -1 ∧ y.1 = -1) ∨ ∃ l, l < m ∧ x.1 = nI l ∧ y.1 = nI (16 * k + l)) ∧ (∀ a, a ≠ W + 31 → x.2 a = σ a) ∧ (∀ a, a ≠ B + 7 → y.2 a = ρ a)) := by
  have mono : ∀ x l, l + x = m → s l ≤ c := by
    intro x
    induction x with
    | zero => intro l hl; obtain rfl : l = m := by omega
              omega
    | succ x ih => intro l hl; have h1 := ih (l + 1) (by omega); have h2 := (g9 l (by omega)).1; omega
  have key := fuel_up (m := m) (C := fun fu l => ∀ σ' ρ' : Sig, (∀ a, a ≠ W + 31 → σ' a = σ a) → (∀ a, a ≠ B + 7 → ρ' a = ρ a) → Two (X7_firstLine_b2 t (m + 1) m c (W + 30) 8 (W + 31) 32 fu (nI l) σ') (X12_firstLine_b2 B fu (nI k) (nI l) ρ') (fun x y => ((x.1 = -1 ∧ y.1 = -1) ∨ ∃ l, l < m ∧ x.1 = nI l ∧ y.1 = nI (16 * k + l)) ∧ (∀ a, a ≠ W + 31 → x.2 a = σ a) ∧ (∀ a, a ≠ B + 7 → y.2 a = ρ a))) (fun fu σ' ρ' f1 f2 => ?_) (fun fu l hl ih σ' ρ' f1 f2 => ?_) m 0 FU (by omega) (by unfold FU; omega) σ ρ (fun _ _ => rfl) (fun _ _ => rfl)
  · rw [nI_0] at key; exact key
  · unfold X7_firstLine_b2 X12_firstLine_b2
    rw [f1 t (by omega), g4, if_pos (Int32.le_refl _), f2 (B + 1) (by omega), show (2550 + nI k : Int32) = nI (2550 + k) from nI_add 2550 k, ldn (by omega) (by decide), g5, Option.bind_some, if_pos (Int32.le_refl _)]
    exact two_some ⟨Or.inl ⟨rfl, rfl⟩, f1, f2⟩
  · obtain ⟨q1, q2, q3, q4⟩ := g9 l hl
    have hs1 : s (l + 1) ≤ c := mono (m - (l + 1)) (l + 1) (by omega)
    have eF : (16 * nI k + nI l : Int32) = nI (16 * k + l) := by rw [show (16 : Int32) = nI 16 from rfl, pk_mul, nI_add]
    have e1 : (2860 + nI (16 * k + l) : Int32) = nI (2860 + 16 * k + l) := by rw [show (2860 : Int32) = nI 2860 from rfl, nI_add, Nat.add_assoc]
    have e2 : (2760 + nI (16 * k + l) : Int32) = nI (2760 + 16 * k + l) := by rw [show (2760 : Int32) = nI 2760 from rfl, nI_add, Nat.add_assoc]
    unfold X7_firstLine_b2 X12_firstLine_b2
    rw [f1 t (by omega), g4, if_neg (nI_ge hl (by omega)), nI_s, if_neg (show ¬ Int32.ofNat (m + 1) ≤ nI (l + 1) from nI_ge (by omega) (by omega)), f1 (t + 1) (by omega), ldn (by omega) (by omega), ldn (by omega) (by omega), g8 l (by omega), g8 (l + 1) (by omega), f2 (B + 1) (by omega), show (2550 + nI k : Int32) = nI (2550 + k) from nI_add 2550 k, ldn (by omega) (by decide), g5, eF, e1, e2, ldn (by omega) (by decide), ldn (by omega) (by decide), q2, q3]
    simp only [Option.bind_some]
    rw [if_neg (nI_ge hl (by omega))]
    refine two_if (by constructor <;> intro z <;> exact z.symm) (fun _ _ => two_some ⟨Or.inr ⟨l, hl, rfl, rfl⟩, f1, f2⟩) (fun c1 _ => ?_)
    have hne : s l ≠ s (l + 1) := fun z => c1 (by rw [z])
    have ev : Two (X7_isSo_f t (m + 1) m c (W + 30) 8 (W + 31) 32 (nI (s l)) (nI (s (l + 1))) σ') (X12_comesTo_f B (nI k) (nI (s l)) (nI (s (l + 1))) ρ') (fun x y => x.1 = y.1 ∧ (y.1 = 0 ∨ y.1 = 1) ∧ (∀ a, a ≠ W + 31 → x.2 a = σ' a) ∧ (∀ a, a ≠ B + 7 → y.2 a = ρ' a)) :=
      eval_two hS hF hk hc hs1 (by omega) (s (l + 1) - s l) (s l) [] FU σ' ρ' (by omega) (by unfold FU; omega) (f1 _ (by omega)) (f2 _ (by omega)) (f1 _ (by omega)) (f2 _ (by omega)) (by simp) trivial (q4.resolve_left hne)
    refine two_bind ev (fun x y hxy => ?_)
    obtain ⟨x1, x2⟩ := x
    obtain ⟨y1, y2⟩ := y
    obtain ⟨r1, r2, r3, r4⟩ := hxy
    dsimp only at r1 r2 r3 r4 ⊢
    subst r1
    have f1' : ∀ a, a ≠ W + 31 → x2 a = σ a := fun a ha => (r3 a ha).trans (f1 a ha)
    have f2' : ∀ a, a ≠ B + 7 → y2 a = ρ a := fun a ha => (r4 a ha).trans (f2 a ha)
    rcases r2 with rfl | rfl
    · rw [if_pos rfl, if_neg (by decide)]; exact ih x2 y2 f1' f2'
    · rw [if_neg (by decide), if_pos rfl]; exact two_some ⟨Or.inr ⟨l, hl, rfl, rfl⟩, f1', f2'⟩
