/-! A CONDITION comes to the same on both sides. -/
theorem tyS_bin {s : Nat} {T T' : List Bool} (h12 : 12 ≤ s) (h15 : s ≠ 15) (h19 : s ≠ 19) (h : tyS s T = some T') : ∃ b T2, T = b :: b :: T2 ∧ ((s < 15 ∧ b = false ∧ T' = false :: T2) ∨ (15 ≤ s ∧ s < 19 ∧ b = false ∧ T' = true :: T2) ∨ (19 ≤ s ∧ b = true ∧ T' = true :: T2)) := by
  unfold tyS at h
  rw [if_neg (by omega), if_neg h15, if_neg h19] at h
  by_cases c : s < 15
  · rw [if_pos c] at h
    split at h
    · next T2 => cases h; exact ⟨false, T2, rfl, Or.inl ⟨c, rfl, rfl⟩⟩
    · cases h
  · rw [if_neg c] at h
    by_cases c2 : s < 19
    · rw [if_pos c2] at h
      split at h
      · next T2 => cases h; exact ⟨false, T2, rfl, Or.inr (Or.inl ⟨by omega, c2, rfl, rfl⟩)⟩
      · cases h
    · rw [if_neg c2] at h
      split at h
      · next T2 => cases h; exact ⟨true, T2, rfl, Or.inr (Or.inr ⟨by omega, rfl, rfl⟩)⟩
      · cases h
theorem eval_two {W B t n1 n2 c k e : Nat} {law : Bool} {so sv : Nat → Nat} {w cd vl fc : wF} (hS : Steps law w cd k c so sv) (hF : Fct law vl fc) (hk : k < 6) (hc : c ≤ 400) (he : e ≤ c) (ht : t + 3 ≠ W + 31) : ∀ (m i : Nat) (T : List Bool) (fu : Nat) (σ ρ : Sig), i + m = e → m < fu → σ (t + 3) = cd → ρ (B + 1) = w → σ (W + 30) = vl → ρ (B + 8) = fc → T.length ≤ 32 → Stk T (σ (W + 31)) (ρ (B + 7)) → tyR so m i T = some [true] → Two (X7_isSo_b6 t n1 n2 c (W + 30) 8 (W + 31) 32 fu (nI e) (nI T.length) (nI i) σ) (X12_comesTo_b6 B fu (nI k) (nI e) (nI T.length) (nI i) ρ) (fun x y => x.1 = y.1 ∧ (y.1 = 0 ∨ y.1 = 1) ∧ (∀ a, a ≠ W + 31 → x.2 a = σ a) ∧ (∀ a, a ≠ B + 7 → y.2 a = ρ a))
  | _, _, _, 0, _, _, _, hfu, _, _, _, _, _, _, _ => absurd hfu (by omega)
  | 0, i, T, fu + 1, σ, ρ, hi, _, h1, h2, h3, h4, hT, hStk, hty => by
    obtain rfl : T = [true] := by simpa [tyR] using hty
    obtain rfl : i = e := by omega
    obtain ⟨a1, a2, -⟩ := hStk
    have a1 : σ (W + 31) 0 = ρ (B + 7) 0 := a1
    have a2 : ρ (B + 7) 0 = 0 ∨ ρ (B + 7) 0 = 1 := a2 rfl
    unfold X7_isSo_b6 X12_comesTo_b6
    rw [if_pos (Int32.le_refl _), if_pos (Int32.le_refl _)]
    unfold X7_isSo_b194
    rw [if_neg (by decide), show ld 32 (σ (W + 31)) 0 = some (σ (W + 31) 0) from ldn (j := 0) (by decide) (by decide), show ld 420 (ρ (B + 7)) 0 = some (ρ (B + 7) 0) from ldn (j := 0) (by decide) (by decide), a1]
    simp only [Option.bind_some]
    rcases a2 with e0 | e0
    · rw [e0, if_pos rfl]; exact two_some ⟨rfl, Or.inl rfl, fun _ _ => rfl, fun _ _ => rfl⟩
    · rw [e0, if_neg (by decide)]; exact two_some ⟨rfl, Or.inr rfl, fun _ _ => rfl, fun _ _ => rfl⟩
  | m + 1, i, T, fu + 1, σ, ρ, hi, hfu, h1, h2, h3, h4, hT, hStk, hty => by
    have ih := eval_two (n1 := n1) (n2 := n2) (B := B) hS hF hk hc he ht m (i + 1)
    rw [tyR] at hty
    obtain ⟨T', ty1, ty2⟩ := Option.bind_eq_some_iff.mp hty
    have goon : ∀ (q : Nat) (v : Int32), Stk T' (wr σ (W + 31) q v (W + 31)) (wr ρ (B + 7) q v (B + 7)) → T'.length ≤ 32 → Two (X7_isSo_b6 t n1 n2 c (W + 30) 8 (W + 31) 32 fu (nI e) (nI T'.length) (nI (i + 1)) (wr σ (W + 31) q v)) (X12_comesTo_b6 B fu (nI k) (nI e) (nI T'.length) (nI (i + 1)) (wr ρ (B + 7) q v)) (fun x y => x.1 = y.1 ∧ (y.1 = 0 ∨ y.1 = 1) ∧ (∀ a, a ≠ W + 31 → x.2 a = σ a) ∧ (∀ a, a ≠ B + 7 → y.2 a = ρ a)) := by
      intro q v hs hl
      refine two_mono (ih T' fu _ _ (by omega) (by omega) ?_ ?_ ?_ ?_ hl hs ty2) (fun x y hxy => ⟨hxy.1, hxy.2.1, fun a ha => ?_, fun a ha => ?_⟩)
      · rw [wr_row ht]; exact h1
      · rw [wr_row (by omega)]; exact h2
      · rw [wr_row (by omega)]; exact h3
      · rw [wr_row (by omega)]; exact h4
      · rw [hxy.2.2.1 a ha, wr_row ha]
      · rw [hxy.2.2.2 a ha, wr_row ha]
    have hie : i < e := by omega
    obtain ⟨s22, sv9, g1, g2, x, hx, hcd⟩ := hS i (by omega)
    rw [← h1] at hcd
    rw [← h2] at g1 g2
    unfold enc at hx
    by_cases c0 : so i = 0
    · rw [if_pos c0] at hx; cases hx
      unfold tyS at ty1; rw [if_pos (by omega)] at ty1
      by_cases cl : T.length < 32
      · rw [if_pos cl] at ty1; cases ty1
        rw [c0] at g1
        rw [cs_push0 hie he hc sv9 hcd cl, rs_push0 hie (by omega) hk g1 (g2 (Or.inl c0)) (by omega)]
        exact goon _ _ (hStk.put rfl (by simp)) (by simp only [List.length_cons]; omega)
      · rw [if_neg cl] at ty1; cases ty1
    · rw [if_neg c0] at hx
      by_cases c12 : so i < 12
      · rw [if_pos c12] at hx
        obtain ⟨y, hy, rfl⟩ := Option.map_eq_some_iff.mp hx
        obtain ⟨y8, s1⟩ := encV_lt hy
        unfold tyS at ty1; rw [if_pos (by omega)] at ty1
        by_cases cl : T.length < 32
        · rw [if_pos cl] at ty1; cases ty1
          rw [cs_push1 hie he hc y8 hcd cl, rs_push1 hie (by omega) hk g1 s1 c12 (by omega), h3, h4, hF _ _ hy]
          exact goon _ _ (hStk.put rfl (by simp)) (by simp only [List.length_cons]; omega)
        · rw [if_neg cl] at ty1; cases ty1
      · rw [if_neg c12] at hx
        by_cases c15 : so i = 15
        · rw [if_pos c15] at hx
          by_cases cv : 1 ≤ sv i
          · rw [if_pos cv] at hx; cases hx
            unfold tyS at ty1; rw [if_neg c12, if_pos c15] at ty1
            split at ty1
            · next T2 =>
              cases ty1
              obtain ⟨a1, -, a3⟩ := hStk
              rw [c15] at g1
              simp only [List.length_cons] at hT ⊢
              rw [cs_part hie he hc sv9 cv hcd (by omega), rs_part hie (by omega) hk g1 (g2 (Or.inr c15)) cv sv9 (by omega), a1]
              exact goon _ _ (a3.put rfl (by simp)) (by simp only [List.length_cons]; omega)
            · cases ty1
          · rw [if_neg cv] at hx; cases hx
        · rw [if_neg c15] at hx
          by_cases c19 : so i = 19
          · have e9 : x = 9 := by rw [c19] at hx; simpa using hx.symm
            subst e9
            unfold tyS at ty1; rw [if_neg c12, if_neg c15, if_pos c19] at ty1
            split at ty1
            · next T2 =>
              cases ty1
              obtain ⟨a1, a2, a3⟩ := hStk
              rw [c19] at g1
              simp only [List.length_cons] at hT ⊢
              rw [cs_not hie he hc hcd (by omega), rs_not hie (by omega) hk g1 (by omega), a1]
              exact goon _ _ (a3.put rfl (fun _ => by rcases a2 rfl with z | z <;> rw [z] <;> decide)) (by simp only [List.length_cons]; omega)
            · cases ty1
          · obtain ⟨b, T2, rfl, hb⟩ := tyS_bin (by omega) c15 c19 ty1
            obtain ⟨a1, a2, a3, a4, a5⟩ := hStk
            have ho : (so i = 12 ∧ x = 2) ∨ (so i = 13 ∧ x = 3) ∨ (so i = 14 ∧ x = 4) ∨ (so i = 16 ∧ x = 6) ∨ (so i = 17 ∧ x = 7) ∨ (so i = 18 ∧ x = 8) ∨ (so i = 20 ∧ x = 10) ∨ (so i = 21 ∧ x = 11) := by
              have hh : so i = 12 ∨ so i = 13 ∨ so i = 14 ∨ so i = 16 ∨ so i = 17 ∨ so i = 18 ∨ so i = 20 ∨ so i = 21 := by omega
              rcases hh with z | z | z | z | z | z | z | z <;> rw [z] at hx <;> cases hx <;> simp [z]
            simp only [List.length_cons] at hT a1 a2 ⊢
            obtain ⟨v, j1, j2, j3, j4⟩ := @join_both (ρ (B + 7) T2.length) (ρ (B + 7) (T2.length + 1)) σ ρ (so i) x ho
            rw [cs_bin hie he hc (by omega) hcd (by omega) (v := v) (by rw [a1, a3]; exact j1), rs_bin hie (by omega) hk g1 (by omega) s22 c15 c19 (by omega) j2]
            rcases hb with ⟨q1, rfl, rfl⟩ | ⟨q1, q2, rfl, rfl⟩ | ⟨q1, rfl, rfl⟩
            · exact goon _ _ (a5.put rfl (by simp)) (by simp only [List.length_cons]; omega)
            · exact goon _ _ (a5.put rfl (fun _ => j3 (by omega) q2)) (by simp only [List.length_cons]; omega)
            · exact goon _ _ (a5.put rfl (fun _ => j4 (by omega) (a4 rfl) (a2 rfl))) (by simp only [List.length_cons]; omega)
