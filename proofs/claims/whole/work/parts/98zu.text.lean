/-! TEXT. -/
theorem cl_start {a T len : Nat} {law : Bool} {σ : Sig} {τ : Tau} {nx : Nat} {x2 : Int32} (hS : ShX5 τ a) (hS6 : ShX6 τ T) (hT : a + 6 < T ∨ T + 1 < a) (hl : len ≤ 400) (h1 : σ T 1 = nI len) (hx : x2 = if law then 1 else 0) : ∃ n s, X5_read_f τ σ nx a T x2 = X5_read_b31 a T FU 0 τ s nx ∧ Sta a (σ (T + 1)) len law n s ∧ s a 0 = 0 ∧ s a 1 = -1 ∧ s a 3 = 0 ∧ s a 4 = 0 ∧ s a 12 = 0 ∧ (∀ x, (x < a ∨ a + 6 < x) → s x = σ x) ∧ s (a + 2) = σ (a + 2) := by
  obtain ⟨s8, h8⟩ : ∃ s8, s8 = wr (wr (wr (wr (wr σ a 0 0) a 1 (-1)) a 2 x2) a 3 0) a 4 0 := ⟨_, rfl⟩
  have ro : ∀ x, x ≠ a → s8 x = σ x := fun x hx => by rw [h8, wr_row hx, wr_row hx, wr_row hx, wr_row hx, wr_row hx]
  have v0 : s8 a 0 = 0 := by rw [h8, wr_o (by decide), wr_o (by decide), wr_o (by decide), wr_o (by decide), wr_v]
  have v1 : s8 a 1 = -1 := by rw [h8, wr_o (by decide), wr_o (by decide), wr_o (by decide), wr_v]
  have v2 : s8 a 2 = x2 := by rw [h8, wr_o (by decide), wr_o (by decide), wr_v]
  have v3 : s8 a 3 = 0 := by rw [h8, wr_o (by decide), wr_v]
  have v4 : s8 a 4 = 0 := by rw [h8, wr_v]
  obtain ⟨n, s, c1, c2, c3, c4, c5, c6, c7, c8, c9⟩ := cl_tokens (a := a) (T := T) (len := len) (law := law) (σ := s8) hT hl (by rw [ro _ (by omega)]; exact h1) (v2.trans hx)
  rw [ro (T + 1) (by omega)] at c5 c6
  have st0 : Sta a (σ (T + 1)) len law n s := ⟨c2, c4, c5, c6, by rw [c9 2 (by decide), v2]; exact hx⟩
  have fc : Fc a s (wr s a 12 0) := ⟨fun x e1 _ => wr_row e1, fun j _ _ _ e4 => wr_o e4⟩
  refine ⟨n, wr s a 12 0, ?_, st0.fr fc, by rw [wr_o (by decide), c9 0 (by decide)]; exact v0, by rw [wr_o (by decide), c9 1 (by decide)]; exact v1, by rw [wr_o (by decide), c9 3 (by decide)]; exact v3, by rw [wr_o (by decide), c9 4 (by decide)]; exact v4, wr_v, fun x hx => ?_, ?_⟩
  · have hx' : x2 = 0 ∨ x2 = 1 := by rw [hx]; cases law; exact Or.inl rfl; exact Or.inr rfl
    unfold X5_read_f X5_forget_f pI dZ
    rw [chk_yes hS, bsm, bsm, bsm, if_pos hx', dI_of hS.1 rfl, bsm, dI_of hS.1 rfl, bsm, dI_of hS.1 rfl, bsm, chk_yes hS6, ← h8, c1, bsm, dI_of hS.1 rfl, bsm]
  · rw [wr_row (by omega), c8 x (by omega) (by omega) (by omega) (by omega), ro x (by omega)]
  · rw [wr_row (by omega), c8 _ (by omega) (by omega) (by omega) (by omega), ro _ (by omega)]
theorem nI_all (x : Int32) : ∃ d, x = nI d := ⟨x.toBitVec.toNat, by
  apply Int32.toBitVec_inj.mp
  show _ = BitVec.ofNat 32 _
  rw [BitVec.ofNat_toNat, BitVec.setWidth_eq]⟩
theorem re_start {B k len : Nat} {t : Nat → Int32} {ρ : Sig} (hk : k < 6) (hl : len ≤ 400) (h12 : ρ B 12 = nI len) (ht : ∀ j, j < len → t j = ρ (B + 6) j) (hm : ∀ j, j < len → t j ≠ -1) : ∃ r d, X12_text_f B (nI k) ρ = X12_text_b57 B FU (nI k) 1 r ∧ StaR B t len (decide (k < 2)) r ∧ r B 13 = nI (ps t len (decide (k < 2)) 1) ∧ r B 14 = nI (kr (decide (k < 2)) (tK t len (decide (k < 2)) 0)) ∧ r B 15 = nI (tA t len (decide (k < 2)) 0) ∧ (tK t len (decide (k < 2)) 0 = 1 → r B 16 = nI (tV t len (decide (k < 2)) 0)) ∧ r B 11 = nI 0 ∧ r B 20 = nI d ∧ r B 17 = 0 ∧ r B 10 = nI 0 ∧ (∀ x, x ≠ B → r x = ρ x) ∧ ∀ j, (j < 9 ∨ j = 12 ∨ j = 19 ∨ 21 ≤ j) → r B j = ρ B j := by
  obtain ⟨r0, h0⟩ : ∃ r0, r0 = wr (wr (wr (wr (wr ρ B 17 0) B 9 (nI k)) B 13 0) B 10 0) B 11 0 := ⟨_, rfl⟩
  have ro : ∀ x, x ≠ B → r0 x = ρ x := fun x hx => by rw [h0, wr_row hx, wr_row hx, wr_row hx, wr_row hx, wr_row hx]
  have vo : ∀ j, (j < 9 ∨ j = 12 ∨ j = 19 ∨ 21 ≤ j) → r0 B j = ρ B j := fun j hj => by rw [h0, wr_o (by omega), wr_o (by omega), wr_o (by omega), wr_o (by omega), wr_o (by omega)]
  have v17 : r0 B 17 = 0 := by rw [h0, wr_o (by decide), wr_o (by decide), wr_o (by decide), wr_o (by decide), wr_v]
  have v9 : r0 B 9 = nI k := by rw [h0, wr_o (by decide), wr_o (by decide), wr_o (by decide), wr_v]
  have v13 : r0 B 13 = nI (ps t len (decide (k < 2)) 0) := by rw [h0, wr_o (by decide), wr_o (by decide), wr_v]; rfl
  have v10 : r0 B 10 = nI 0 := by rw [h0, wr_o (by decide), wr_v]; rfl
  have v11 : r0 B 11 = nI 0 := by rw [h0, wr_v]; rfl
  have hk9 : 2 ≤ r0 B 9 ↔ decide (k < 2) = false := by
    rw [v9]
    refine (nI_le_iff (a := 2) (by decide) (by omega)).trans ?_
    rw [decide_eq_false_iff_not]; omega
  have tk := (tk_ok (t := t) (len := len) (law := decide (k < 2)) 0).cg (t' := r0 (B + 6)) (fun j hj => by rw [ro _ (by omega)]; exact ht j hj)
  obtain ⟨r, z1, z2, z3, z4, z5, z6⟩ := re_next (B := B) (ρ := r0) hl (by rw [vo 12 (by omega)]; exact h12) v13 hk9 (fun j hj => by rw [ro _ (by omega), ← ht j hj]; exact hm j hj) tk
  obtain ⟨d, hd⟩ := nI_all (r B 20)
  have f : ∀ j, j ≠ 13 → j ≠ 14 → j ≠ 15 → j ≠ 16 → r B j = r0 B j := z2.1
  refine ⟨r, d, ?_, ⟨hl, ?_, ?_, fun j hj => ?_, hm⟩, z3, z4, z5, z6, ?_, hd, ?_, ?_, fun x hx => by rw [z2.2 x hx, ro x hx], fun j hj => by rw [f j (by omega) (by omega) (by omega) (by omega)]; exact vo j hj⟩
  · unfold X12_text_f pI
    rw [bsm, re_isIn_in (nI_0le (by omega)) (show nI k ≤ 5 from nI_le (b := 5) (by omega) (by decide)), bsm, if_neg n10, bsm, bsm, bsm, bsm, ← h0, z1, bsm]
  · rw [f 12 (by decide) (by decide) (by decide) (by decide), vo 12 (by omega)]; exact h12
  · rw [f 9 (by decide) (by decide) (by decide) (by decide)]; exact hk9
  · rw [z2.2 _ (by omega), ro _ (by omega)]; exact ht j hj
  · rw [f 11 (by decide) (by decide) (by decide) (by decide)]; exact v11
  · rw [f 17 (by decide) (by decide) (by decide) (by decide)]; exact v17
  · rw [f 10 (by decide) (by decide) (by decide) (by decide)]; exact v10
/-- both read all of it -/
theorem rd_both {a B k len n : Nat} {t : Nat → Int32} {s ρ : Sig} (hk : k < 6) (hl : len ≤ 400) (h12 : ρ B 12 = nI len) (ht : ∀ j, j < len → t j = ρ (B + 6) j) (hm : ∀ j, j < len → t j ≠ -1) (hS : Sta a t len (decide (k < 2)) n s) (s0 : s a 0 = 0) (s1 : s a 1 = -1) (s3 : s a 3 = 0) (s4 : s a 4 = 0) (s12 : s a 12 = 0) (s2 : s (a + 2) 0 = 0) : ∃ (s' : Sig) (v : Int32) (r' : Sig), rdL a FU 0 s = some s' ∧ X12_text_f B (nI k) ρ = X12_text_b94 B (nI k) v r' ∧ Fc2 a s s' ∧ ((∀ x, x ≠ B → x ≠ B + 4 → x ≠ B + 5 → r' x = ρ x) ∧ ∀ j, (j < 9 ∨ j = 12 ∨ j = 19 ∨ 21 ≤ j) → r' B j = ρ B j) ∧ Rend a B t len (decide (k < 2)) n s' v r' := by
  obtain ⟨r, d, q1, q2, q3, q4, q5, q6, q7, q8, q9, q10, q11, q12⟩ := re_start hk hl h12 ht hm
  have rel0 : RelS (decide (k < 2)) [] (s (a + 1)) (r (B + 5)) := fun m x hx => nomatch hx
  have rl : Rl a B t len (decide (k < 2)) n 0 [] d s r := ⟨hS, q2, Nat.zero_le _, s0, s12, s4, q3, q4, q5, q6, q7, q8, rel0, s1, q9⟩
  have ln : Lns a B (decide (k < 2)) [] 0 (fun _ => 0) s r := by
    refine ⟨rfl, rfl, fun j hj => ?_, fun j hj => absurd hj (Nat.not_lt_zero _)⟩
    obtain rfl : j = 0 := by omega
    exact s2
  obtain ⟨s', v, r', z1, z2, z3, z4, z5⟩ := rd_sim (x1 := nI k) 17 0 0 [] d _ s r FU FU (by omega) (by omega) (by unfold FU; omega) (by unfold FU; omega) rl (Nat.le_refl _) s3 q10 ln
  exact ⟨s', v, r', z1, q1.trans z2, z3, ⟨fun x h1 h2 h3 => (z4.1 x h1 h2 h3).trans (q11 x h1), fun j hj => (z4.2 j (by omega)).trans (q12 j hj)⟩, z5⟩
theorem st_text (A b : Nat) : St_text (Inv A b) A (A + 84) := by
  intro h v1 hI
  obtain ⟨τ, σ, nx⟩ := h
  obtain ⟨g1, g2, g3, ⟨g4, g4', g4''⟩, -, -, ⟨len, hl, e1, e2, ht⟩, -, -, -⟩ := id hI
  dsimp only at g1 g2 g3 g4 g4' g4'' e1 e2 ht
  have S5 : ShX5 τ (A + 77) := g1.2.2.2.2
  have S6 : ShX6 τ (A + 75) := g1.2.2.2.1
  have r3 : gRs τ 11 A 3 = some (A + 75) := gRs_of g1.1 rfl
  have r4 : gRs τ 11 A 4 = some (A + 77) := gRs_of g1.1 rfl
  show ∃ (r : Int32) (h1 h2 : Hp), X11_text_f τ σ nx A v1 = some (r, h1) ∧ ShX12 h1.1 (A + 84) ∧ ((X12_text_f (A + 84) v1 h1.2.1).bind fun p => some (p.1, ((h1.1, p.2, h1.2.2) : Hp))) = some (r, h2) ∧ Inv A b h2
  rcases within_in v1 0 5 σ σ with ⟨l1, l2, d1, -⟩ | ⟨d1, -⟩
  rotate_left
  · -- no such text
    obtain ⟨s, hs⟩ : ∃ s, s = wr (wr (wr σ (A + 77) 0 0) (A + 77) 1 (-1)) (A + 75) 1 0 := ⟨_, rfl⟩
    have so : ∀ x, x ≠ A + 75 → x ≠ A + 77 → s x = σ x := fun x h1 h2 => by rw [hs, wr_row h1, wr_row h2, wr_row h2]
    refine Inv.yesH (re := fun ρ => X12_text_f (A + 84) v1 ρ) (r := -1) (h1 := (τ, s, nx)) (s := wr (wr (wr (wr s (A + 84) 17 0) (A + 84) 12 0) (A + 84) 19 0) (A + 84) 21 (-1)) ?_ g2 ?_ ?_
    · unfold X11_text_f X5_forget_f pI
      rw [d1, bsm, if_pos rfl, r4, bsm, chk_yes S5, bsm, bsm, bsm, r3, bsm, dI_of S6.1 rfl, bsm, ← hs]
    · dsimp only
      rcases within_in v1 0 5 σ (wr s (A + 84) 17 0) with ⟨-, -, d3, d4⟩ | ⟨-, d4⟩
      · rw [d1] at d3; exact absurd d3 (by decide)
      · unfold X12_text_f pI
        rw [bsm, d4, bsm, if_pos rfl, bsm, bsm, bsm]
    · refine hI.txf (fun x h1 h2 h3 h4 h5 => ?_) ?_ ?_ ?_ ?_ ?_ ?_
      · rw [wr_row h3, wr_row h3, wr_row h3, wr_row h3, so x h1 (by omega)]
      · rw [wr_row (by omega), wr_row (by omega), wr_row (by omega), wr_row (by omega), hs, wr_v]
      · rw [wr_o (by decide), wr_o (by decide), wr_v]
      · rw [wr_row (by omega), wr_row (by omega), wr_row (by omega), wr_row (by omega), so _ (by omega) (by omega)]
      · rw [wr_row (by omega), wr_row (by omega), wr_row (by omega), wr_row (by omega), wr_o (by decide), wr_v, hs, wr_row (by omega), wr_o (by decide), wr_v]
      · rw [wr_row (by omega), wr_row (by omega), wr_row (by omega), wr_row (by omega), wr_v, hs, wr_row (by omega), wr_v]
      · rw [wr_o (by decide), wr_o (by decide), wr_o (by decide), wr_o (by decide), so _ (by omega) (by omega)]
  obtain ⟨k, hk5, rfl⟩ := within_up (by decide) l1 (show v1 ≤ nI 5 from l2)
  have hk : k < 6 := by omega
  obtain ⟨n, s, c1, c2, c3, c4, c5, c6, c7, c8, c9⟩ := cl_start (a := A + 77) (T := A + 75) (len := len) (law := decide (k < 2)) (σ := σ) (τ := τ) (nx := nx) (x2 := if decide (k < 2) then 1 else 0) S5 S6 (by omega) hl e1 rfl
  have tm : ∀ j, j < len → σ (A + 75 + 1) j ≠ -1 := fun j hj z => by
    obtain ⟨y1, m, y2, y3⟩ := ht j hj
    rw [y1, y3] at z
    exact ne_m1 (by omega) z
  have both : ∀ ρ : Sig, ρ (A + 84) 12 = σ (A + 84) 12 → ρ (A + 84 + 6) = σ (A + 84 + 6) → ∃ (s' : Sig) (v : Int32) (r' : Sig), rdL (A + 77) FU 0 s = some s' ∧ X12_text_f (A + 84) (nI k) ρ = X12_text_b94 (A + 84) (nI k) v r' ∧ Fc2 (A + 77) s s' ∧ ((∀ x, x ≠ A + 84 → x ≠ A + 84 + 4 → x ≠ A + 84 + 5 → r' x = ρ x) ∧ ∀ j, (j < 9 ∨ j = 12 ∨ j = 19 ∨ 21 ≤ j) → r' (A + 84) j = ρ (A + 84) j) ∧ Rend (A + 77) (A + 84) (σ (A + 75 + 1)) len (decide (k < 2)) n s' v r' := fun ρ h1 h2 =>
    rd_both hk hl (h1.trans e2) (fun j hj => by rw [h2]; exact (ht j hj).1) tm c2 c3 c4 c5 c6 c7 (by rw [c9]; exact g4'')
  obtain ⟨s', v, r0, q1, -, q3, -, q5⟩ := both σ rfl rfl
  have so : ∀ x, (x < A + 77 ∨ A + 83 < x) → s' x = σ x := fun x hx => by rw [q3.1 x (by omega)]; exact c8 x (by omega)
  have s79 : s' (A + 79) 0 = 0 := by
    have := q3.2.2
    rw [show A + 77 + 2 = A + 79 by omega] at this c9
    rw [this, c9]; exact g4''
  have hcl : X11_text_f τ σ nx A (nI k) = X11_text_b44 A (A + 75) (A + 77) (nI k) (if decide (k < 2) then 1 else 0) τ σ nx := by
    unfold X11_text_f
    rw [d1, bsm, if_neg n10, r4, bsm, r3, bsm]
    by_cases c : k < 2
    · rw [if_neg (show ¬ (2 : Int32) ≤ nI k from nI_ge (b := 2) c (by decide)), if_pos (decide_eq_true c)]
    · rw [if_pos (show (2 : Int32) ≤ nI k from nI_le (a := 2) (by omega) (by omega)), if_neg (by rw [decide_eq_false c]; exact Bool.false_ne_true)]
  have hrd : X5_read_f τ σ nx (A + 77) (A + 75) (if decide (k < 2) then 1 else 0) = X5_read_b67 (A + 77) (A + 75) τ s' nx := by
    rw [c1, rd_b31 S5, q1, bsm]
  rcases q5 with ⟨-, l, i, L, d, ss, f1, f2, f3, f4, f5, f6⟩ | ⟨-, q5⟩
  rotate_left
  · -- a fault
    have n0 : s' (A + 77) 0 ≠ 0 := q5.1.2.1
    obtain ⟨s2, h2⟩ : ∃ s2, s2 = wr s' (A + 75) 1 0 := ⟨_, rfl⟩
    have s2o : ∀ x, x ≠ A + 75 → s2 x = s' x := fun x hx => by rw [h2, wr_row hx]
    obtain ⟨s'', v2, r', p1, p2, -, p4, p5⟩ := both s2 (by rw [s2o _ (by omega), so _ (by omega)]) (by rw [s2o _ (by omega), so _ (by omega)])
    obtain rfl : s'' = s' := Option.some.inj (p1.symm.trans q1)
    rcases p5 with ⟨-, l, i, L, d, ss, f1, f2, -⟩ | ⟨rfl, p5⟩
    · exact absurd f2.2.2.2.1 n0
    refine Inv.yesH (re := fun ρ => X12_text_f (A + 84) (nI k) ρ) (r := -1) (h1 := (τ, s2, nx)) (s := wr (wr (wr r' (A + 84) 12 0) (A + 84) 19 (r' (A + 84) 17)) (A + 84) 21 (r' (A + 84) 18)) ?_ g2 ?_ ?_
    · rw [hcl]
      unfold X11_text_b44
      rw [chk_yes ⟨_, S5.1⟩, hrd]
      unfold X5_read_b67
      rw [gI_of S5.1 rfl, bsm, if_neg n0, bsm]
      dsimp only [onl]
      rw [r3, bsm, dI_of S6.1 rfl, bsm, ← h2]
    · dsimp only
      rw [p2]
      unfold X12_text_b94 X12_text_b120 pI
      rw [bsm, bsm, if_pos rfl, bsm, if_pos rfl, wr_o (show (17 : Nat) ≠ 12 by decide), wr_o (show (18 : Nat) ≠ 19 by decide), wr_o (show (18 : Nat) ≠ 12 by decide)]
    · have rr : ∀ x, x ≠ A + 84 → x ≠ A + 84 + 4 → x ≠ A + 84 + 5 → wr (wr (wr r' (A + 84) 12 0) (A + 84) 19 (r' (A + 84) 17)) (A + 84) 21 (r' (A + 84) 18) x = s2 x := fun x h1 h2 h3 => by rw [wr_row h1, wr_row h1, wr_row h1]; exact p4.1 x h1 h2 h3
      refine hI.txf (fun x h1 h2 h3 h4 h5 => ?_) ?_ ?_ ?_ ?_ ?_ ?_
      · rw [rr x h3 (by omega) (by omega), s2o x h1, so x h2]
      · rw [rr _ (by omega) (by omega) (by omega), h2, wr_v]
      · rw [wr_o (by decide), wr_o (by decide), wr_v]
      · rw [rr _ (by omega) (by omega) (by omega), s2o _ (by omega), s79]; exact g4''.symm
      · rw [rr _ (by omega) (by omega) (by omega), s2o _ (by omega), wr_o (by decide), wr_v]; exact p5.2.1
      · rw [rr _ (by omega) (by omega) (by omega), s2o _ (by omega), wr_v]; exact p5.2.2
      · rw [wr_o (by decide), wr_o (by decide), wr_o (by decide), p4.2 3 (by omega), s2o _ (by omega), so _ (by omega)]
  -- a text
  have z0 : s' (A + 77) 0 = 0 := f2.2.2.2.1
  have z4 : s' (A + 77) 4 = nI L.length := f2.2.2.2.2.2.1
  have hn : n ≤ 400 := f2.1.1
  have hin : i ≤ n := f2.2.2.1
  have hL400 : L.length ≤ 400 := by omega
  obtain ⟨τ1, s1, b1, b2, b3, b4, b5, b6, b7, b8⟩ := b67_ok (τ := τ) (σ := s') (nx := nx) (a := A + 77) (T := A + 75) (m := l) (c := L.length) S5 (by omega) z0 f4 z4 f1 hL400
  have t1A : τ1 A = τ A := b3 A (by omega)
  have t1S : τ1 (A + 75) = τ (A + 75) := b3 _ (by omega)
  have t1W : τ1 (A + 5) = τ (A + 5) := b3 _ (by omega)
  have t1T : τ1 (A + 5 + 29) = some (.inr (.inr (7, 6, rcon τ (A + 5 + 29)))) := by rw [b3 _ (by omega)]; exact g1.2.1.2.2.2.2.2.2.2.1
  have hob : isOb τ1 7 (some nx) = true := by unfold isOb; dsimp only; rw [b2.1]; rfl
  obtain ⟨τ2, hτ2⟩ : ∃ τ2, τ2 = upR τ1 (A + 5 + 29) 7 6 (va_up (rcon τ (A + 5 + 29)) k (some nx)) := ⟨_, rfl⟩
  have u1 : ∀ x, x ≠ A + 5 + 29 → τ2 x = τ1 x := fun x hx => by rw [hτ2]; exact if_neg hx
  have u2 : τ2 (A + 5 + 29) = some (.inr (.inr (7, 6, va_up (rcon τ (A + 5 + 29)) k (some nx)))) := by rw [hτ2]; exact if_pos rfl
  have u3 : rcon τ2 (A + 5 + 29) = va_up (rcon τ (A + 5 + 29)) k (some nx) := rcon_of u2
  obtain ⟨s2, h2⟩ : ∃ s2, s2 = wr s1 (A + 75) 1 0 := ⟨_, rfl⟩
  have s2o : ∀ x, x ≠ A + 75 → s2 x = s1 x := fun x hx => by rw [h2, wr_row hx]
  have s2x : ∀ x, x ≠ A + 75 → x < nx → s2 x = s' x := fun x h1 h2 => by rw [s2o x h1, b4 x (by omega)]
  obtain ⟨s'', v2, r', p1, p2, -, p4, p5⟩ := both s2 (by rw [s2x _ (by omega) (by omega), so _ (by omega)]) (by rw [s2x _ (by omega) (by omega), so _ (by omega)])
  obtain rfl : s'' = s' := Option.some.inj (p1.symm.trans q1)
  rcases p5 with ⟨rfl, l', i', L', d', ss', f1', f2', f3', f4', f5', f6'⟩ | ⟨-, p5⟩
  rotate_left
  · exact absurd z0 p5.1.2.1
  have hin' : i' ≤ n := f2'.2.2.1
  obtain rfl : l' = l := nI_inj (by omega) (by omega) (f4'.symm.trans f4)
  have hLL : L'.length = L.length := nI_inj (by omega) (by omega) ((f2'.2.2.2.2.2.1).symm.trans z4)
  have r11 : r' (A + 84) 11 = nI L'.length := f2'.2.2.2.2.2.2.2.2.2.2.1
  have r17 : r' (A + 84) 17 = 0 := f2'.2.2.2.2.2.2.2.2.2.2.2.2.2.2
  have s1m : s'' (A + 77) 1 = -1 := f2'.2.2.2.2.2.2.2.2.2.2.2.2.2.1
  obtain ⟨ra, hra⟩ : ∃ ra, ra = wr (wr (wr (wr r' (A + 84) 12 0) (A + 84) 19 (r' (A + 84) 17)) (A + 84) 21 (-1)) (A + 84 + 1) (2550 + k) (nI l') := ⟨_, rfl⟩
  have ra1 : ∀ x, x ≠ A + 84 → x ≠ A + 84 + 1 → ra x = r' x := fun x h1 h2 => by rw [hra, wr_row h2, wr_row h1, wr_row h1, wr_row h1]
  have ra2 : ∀ j, j ≠ 12 → j ≠ 19 → j ≠ 21 → ra (A + 84) j = r' (A + 84) j := fun j h1 h2 h3 => by rw [hra, wr_row (by omega), wr_o h3, wr_o h2, wr_o h1]
  have raw : ∀ j, j ≠ 2550 + k → ra (A + 84 + 1) j = r' (A + 84 + 1) j := fun j hj => by rw [hra, wr_o hj, wr_row (by omega), wr_row (by omega), wr_row (by omega)]
  obtain ⟨rf, y1, y2, y3, y4, y5⟩ := re_b145 (B := A + 84) (k := k) (l := l') (c := L'.length) (r := ra) hk f1 (by omega) (by rw [ra2 10 (by decide) (by decide) (by decide)]; exact f5') (by rw [ra2 11 (by decide) (by decide) (by decide)]; exact r11)
  have rf1 : ∀ x, x ≠ A + 84 → x ≠ A + 84 + 1 → x ≠ A + 84 + 4 → x ≠ A + 84 + 5 → rf x = s2 x := fun x h1 h2 h3 h4 => by rw [y2 x h2, ra1 x h1 h2, p4.1 x h1 h3 h4]
  have rfB : ∀ j, rf (A + 84) j = ra (A + 84) j := fun j => by rw [y2 _ (by omega)]
  refine Inv.yesH (re := fun ρ => X12_text_f (A + 84) (nI k) ρ) (r := nI l') (h1 := (τ2, s2, nx + 4)) (s := rf) ?_ ?_ ?_ ?_
  · rw [hcl]
    unfold X11_text_b44
    rw [chk_yes ⟨_, S5.1⟩, hrd, b1, bsm]
    dsimp only [onl]
    have i3 : gRs τ1 11 A 3 = some (A + 75) := gRs_of (t1A.trans g1.1) rfl
    have i0 : gRs τ1 11 A 0 = some (A + 5) := gRs_of (t1A.trans g1.1) rfl
    have i6 : gRs τ1 10 (A + 5) 6 = some (A + 5 + 29) := gRs_of (t1W.trans g1.2.1.1) rfl
    rw [i3, bsm, dI_of (t1S.trans S6.1) rfl, bsm, ← h2, i0, bsm, i6, bsm, strD_of t1T hob hk (by decide), bsm, ← hτ2, gI_of ((u1 nx (by omega)).trans b2.1) rfl, bsm, s2o nx (by omega), b5]
  · exact g2.fr (fun x h1 h2 => by dsimp only; rw [u1 x (by omega), b3 x (by omega)])
  · dsimp only
    rw [p2]
    unfold X12_text_b94 X12_text_b120 pI
    have e5 : (2550 + nI k : Int32) = nI (2550 + k) := by rw [show (2550 : Int32) = nI 2550 from rfl, nI_add]
    rw [bsm, bsm, if_neg n10, bsm, if_neg n10, e5, stn (by omega) (by decide), bsm, wr_o (show (17 : Nat) ≠ 12 by decide), wr_o (show (10 : Nat) ≠ 21 by decide), wr_o (show (10 : Nat) ≠ 19 by decide), wr_o (show (10 : Nat) ≠ 12 by decide), f5', ← hra, y1]
  · have nx95 : A + 95 ≤ nx := g3
    refine hI.txt (k := k) hk (fun x h1 h2 => ?_) ?_ ?_ (fun j hj hjk => ?_) (fun x h1 h2 h3 h4 h5 h6 h7 => ?_) ?_ ?_ ?_ ?_ ?_ ?_ (fun j hj => ?_) ?_
    · dsimp only; rw [u1 x (by omega), b3 x h2]
    · show τ2 (A + 5 + 29) = some (.inr (.inr (7, 6, rcon τ2 (A + 5 + 29))))
      rw [u3]; exact u2
    · show rcon τ2 (A + 5 + 29) k = some nx
      rw [u3]; unfold va_up; exact if_pos rfl
    · show rcon τ2 (A + 5 + 29) j = rcon τ (A + 5 + 29) j
      rw [u3]; unfold va_up; exact if_neg hjk
    · rw [rf1 x h4 h5 (by omega) (by omega), s2x x h2 h1, so x h3]
    · rw [rf1 _ (by omega) (by omega) (by omega) (by omega), h2, wr_v]
    · rw [rfB, hra, wr_row (by omega), wr_o (by decide), wr_o (by decide), wr_v]
    · rw [rf1 _ (by omega) (by omega) (by omega) (by omega), s2x _ (by omega) (by omega)]; exact s79
    · rw [rf1 _ (by omega) (by omega) (by omega) (by omega), s2x _ (by omega) (by omega), rfB, hra, wr_row (by omega), wr_o (by decide), wr_v, r17]; exact z0
    · rw [rf1 _ (by omega) (by omega) (by omega) (by omega), s2x _ (by omega) (by omega), rfB, hra, wr_row (by omega), wr_v]; exact s1m
    · rw [rfB, ra2 3 (by decide) (by decide) (by decide), p4.2 3 (by omega), s2x _ (by omega) (by omega), so _ (by omega)]
    · obtain ⟨j1, j2, j3⟩ := hj
      rw [y5 j j2 j3, raw j j1, p4.1 _ (by omega) (by omega) (by omega), s2x _ (by omega) (by omega), so _ (by omega)]
    · refine txt_new (a := A + 77) (B := A + 84) (law := decide (k < 2)) (L := L') (s := s'') (r := r') (l := l') rfl f1 f2' f3' f6' ?_ ?_ (fun j hj => ?_) (fun j hj => ?_) (fun j hj => ?_) ?_ (fun j hj => ?_) (fun j hj => ?_)
      · rw [hLL]
        unfold ShX7 at b2 ⊢
        dsimp only
        rw [u1 _ (by omega), u1 _ (by omega), u1 _ (by omega), u1 _ (by omega)]; exact b2
      · rw [rf1 _ (by omega) (by omega) (by omega) (by omega), s2o _ (by omega)]; exact b5
      · rw [rf1 _ (by omega) (by omega) (by omega) (by omega), s2o _ (by omega)]; exact b6 j hj
      · rw [rf1 _ (by omega) (by omega) (by omega) (by omega), s2o _ (by omega)]; exact b7 j hj
      · rw [rf1 _ (by omega) (by omega) (by omega) (by omega), s2o _ (by omega)]; exact b8 j (by omega)
      · rw [y5 _ ⟨by omega, by omega, by omega, by omega⟩ (by omega), hra, wr_v]
      · have h4 : ra (A + 84 + 4) = r' (A + 84 + 4) := ra1 _ (by omega) (by omega)
        have := y3 j hj
        rw [h4] at this; exact this
      · rw [y4 j hj, ra1 _ (by omega) (by omega)]
