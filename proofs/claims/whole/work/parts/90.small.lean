/-! book, look, person. -/
section SL
variable {W M B n nd : Nat} {σ0 ρ0 σ ρ : Sig}
theorem cl_all (h : Z W M B n nd σ0 ρ0 σ ρ) : X3_allHours_f (W + 12) σ = some (sm (lefts (ρ (B + 1))) nd) := by
  have h40 := h.d40
  refine fuel_up (m := nd) (C := fun fu d => X3_allHours_b4 (W + 12) σ fu (sm (lefts (ρ (B + 1))) d) (nI d) = some (sm (lefts (ρ (B + 1))) nd)) (fun fu => ?_) (fun fu d hd ih => ?_) nd 0 FU (by omega) (by unfold FU; omega)
  · unfold X3_allHours_b4; rw [h.cd, if_pos (Int32.le_refl _)]
  · unfold X3_allHours_b4
    rw [h.cd, if_neg (nI_ge hd (by omega)), h.d2 hd, bsm, nI_s]
    exact ih
theorem re_all (h : Z W M B n nd σ0 ρ0 σ ρ) : X12_look_b158 B ρ FU 0 0 = some (sm (lefts (ρ (B + 1))) nd) := by
  have h40 := h.d40
  refine fuel_up (m := nd) (C := fun fu d => X12_look_b158 B ρ fu (sm (lefts (ρ (B + 1))) d) (nI d) = some (sm (lefts (ρ (B + 1))) nd)) (fun fu => ?_) (fun fu d hd ih => ?_) nd 0 FU (by omega) (by unfold FU; omega)
  · unfold X12_look_b158; rw [LW.2.2.2.2.2.2.2.2.2.2.1, bsm, h.wd, if_pos (Int32.le_refl _)]
  · unfold X12_look_b158
    rw [LW.2.2.2.2.2.2.2.2.2.2.1, bsm, h.wd, if_neg (nI_ge hd (by omega)), rD2 (by omega), bsm, nI_s]
    exact ih
def dnS (w : wF) (d : Nat) : Int32 := if w (230 + 8 * d + 2) = 0 then 1 else 0
theorem cl_done (h : Z W M B n nd σ0 ρ0 σ ρ) : X3_doneCount_f (W + 12) σ = some (sm (dnS (ρ (B + 1))) nd) := by
  have h40 := h.d40
  refine fuel_up (m := nd) (C := fun fu d => X3_doneCount_b4 (W + 12) σ fu (sm (dnS (ρ (B + 1))) d) (nI d) = some (sm (dnS (ρ (B + 1))) nd)) (fun fu => ?_) (fun fu d hd ih => ?_) nd 0 FU (by omega) (by unfold FU; omega)
  · unfold X3_doneCount_b4; rw [h.cd, if_pos (Int32.le_refl _)]
  · unfold X3_doneCount_b4
    rw [h.cd, if_neg (nI_ge hd (by omega)), h.d2 hd, bsm, nI_s]
    rw [sm] at ih
    unfold dnS at ih
    by_cases c : ρ (B + 1) (230 + 8 * d + 2) = 0
    · rw [if_pos c]; rw [if_pos c] at ih; exact ih
    · rw [if_neg c]; rw [if_neg c, Int32.add_zero] at ih; exact ih
theorem re_done (h : Z W M B n nd σ0 ρ0 σ ρ) : X12_look_b120 B ρ FU 0 0 = some (sm (dnS (ρ (B + 1))) nd) := by
  have h40 := h.d40
  refine fuel_up (m := nd) (C := fun fu d => X12_look_b120 B ρ fu (sm (dnS (ρ (B + 1))) d) (nI d) = some (sm (dnS (ρ (B + 1))) nd)) (fun fu => ?_) (fun fu d hd ih => ?_) nd 0 FU (by omega) (by unfold FU; omega)
  · unfold X12_look_b120; rw [LW.2.2.2.2.2.2.2.2.2.2.1, bsm, h.wd, if_pos (Int32.le_refl _)]
  · unfold X12_look_b120
    rw [LW.2.2.2.2.2.2.2.2.2.2.1, bsm, h.wd, if_neg (nI_ge hd (by omega)), rD2 (by omega), bsm, nI_s]
    rw [sm] at ih
    unfold dnS at ih
    by_cases c : ρ (B + 1) (230 + 8 * d + 2) = 0
    · rw [if_pos c]; rw [if_pos c] at ih; exact ih
    · rw [if_neg c]; rw [if_neg c] at ih; exact ih
end SL
theorem st_book (A b : Nat) : St_book (Inv A b) A (A + 84) := by
  intro h v1 v2 hI
  obtain ⟨τ, σ, nx⟩ := h
  obtain ⟨n, nd, hG, hR, ⟨b0, b2, k, hk, b4, b5⟩, -⟩ := hI.wd
  dsimp only at hG hR b0 b2 b4 b5
  suffices hs : ∃ r, X11_book_f A v1 v2 σ = some r ∧ X12_book_f (A + 84) v1 v2 σ = some r by
    obtain ⟨r, h1, h2⟩ := hs
    exact hI.look (re := fun ρ => X12_book_f (A + 84) v1 v2 ρ) h1 h2
  unfold X11_book_f X12_book_f
  rw [LW.2.2.2.2.2.2.2.2.2.2.2.1, bsm, b2]
  rcases within_in v1 0 (σ (A + 84 + 1) 11 - 1) σ σ with ⟨l1, l2, a1, a2⟩ | ⟨a1, a2⟩
  · rw [a1, a2, bsm, bsm, if_neg n10, if_neg n10]
    rcases within_in v2 0 4 σ σ with ⟨m1, m2, c1, c2⟩ | ⟨c1, c2⟩
    · rw [c1, c2, bsm, bsm, if_neg n10, if_neg n10]
      obtain ⟨j, hj, rfl⟩ : ∃ j, j < k ∧ v1 = nI j := by
        rcases tri v1 (n := k) (by omega) with h | ⟨_, h⟩ | h
        · exact absurd h (Int32.not_lt.mpr l1)
        · rw [b4] at l2
          exact absurd l2 (Int32.not_le.mpr ((nI_pred_lt (by omega) _).mpr h))
        · exact h
      obtain ⟨q, hq, rfl⟩ : ∃ q, q ≤ 4 ∧ v2 = nI q := by
        rcases inUp v2 (m := 4) (by decide) with h | h
        · exact h
        · exact absurd h (fun z => z.elim (fun z => absurd z (Int32.not_lt.mpr m1)) (fun z => absurd z (Int32.not_lt.mpr m2)))
      have e1 : (nI j * 5 + nI q : Int32) = nI (5 * j + q) := by rw [show (5 : Int32) = nI 5 from rfl, pk_mul, nI_add, Nat.mul_comm]
      have e2 : ((550 + (5 * nI j)) + nI q : Int32) = nI (550 + (5 * j + q)) := by rw [show (550 : Int32) = nI 550 from rfl, show (5 : Int32) = nI 5 from rfl, pk_mul, nI_add, nI_add, Nat.add_assoc]
      rw [e1, e2, ldn (by omega) (by decide), bsm, ldn (by omega) (by decide), bsm, b5 _ (by omega)]
      exact ⟨_, rfl, rfl⟩
    · rw [c1, c2, bsm, bsm, if_pos rfl, if_pos rfl]; exact ⟨_, rfl, rfl⟩
  · rw [a1, a2, bsm, bsm, if_pos rfl, if_pos rfl]; exact ⟨_, rfl, rfl⟩
theorem st_person (A b : Nat) : St_person (Inv A b) A (A + 84) := by
  intro h v1 v2 hI
  obtain ⟨τ, σ, nx⟩ := h
  obtain ⟨n, nd, hT, hF, hz⟩ := hI.zz
  have hzz := hz σ rfl
  have h12 := hzz.n12
  suffices hs : ∃ r, X11_person_f A v1 v2 σ = some r ∧ X12_person_f (A + 84) v1 v2 σ = some r by
    obtain ⟨r, h1, h2⟩ := hs
    exact hI.look (re := fun ρ => X12_person_f (A + 84) v1 v2 ρ) h1 h2
  unfold X11_person_f X12_person_f
  rcases oneOf v1 n with ⟨p, hp, rfl⟩ | ho
  · rw [has4_in h12 hzz.cn hp, re_isOne_in h12 hzz.wn hp, bsm, bsm, if_neg n10, if_neg n10]
    have hp12 : p < 12 := by omega
    unfold X4_tellOf_f
    have q0 := hzz.p0 hp
    have q1 := hzz.p1 hp
    have q2 := hzz.p2 hp
    have q3 := hzz.p3 hp
    have q4 := hzz.p4 hp
    have q5 := hzz.p5 hp
    have q6 := hzz.p6 hp
    have fin : ∀ (j : Nat), j < 7 → v2 = nI j → ∀ o : Option Int32, o = some (σ (A + 84 + 1) (90 + 8 * p + j)) → ∃ r, ((X11_isWithin_f v2 7 9 σ).bind fun v4 => if v4 = 0 then (o.bind fun v7 => some v7) else ((X3_hoursOf_f ((A + 5) + 12) (nI p) (v2 - 7) σ).bind fun v9 => some v9)) = some r ∧ ((X12_isIn_f v2 0 9 σ).bind fun v4 => if v4 = 0 then (some (-2)) else (if 7 ≤ v2 then ((X12_left_f (A + 84) (nI p) (v2 - 7) σ).bind fun v8 => some v8) else ((X12_own_f (A + 84) (nI p) v2 σ).bind fun v10 => some v10))) = some r := by
      intro j hj e o ho
      subst e
      rw [ho, cl_isW_out (Or.inl (show nI j < 7 from nI_lt (b := 7) hj (by decide))), bsm, if_pos rfl, bsm, re_isIn_in (nI_0le (by omega)) (show nI j ≤ 9 from nI_le (b := 9) (by omega) (by decide)), bsm, if_neg n10, if_neg (show ¬ (7 : Int32) ≤ nI j from nI_ge (b := 7) hj (by decide)), re_own hp12 (by omega), bsm]
      exact ⟨_, rfl, rfl⟩
    have hours : ∀ (j : Nat), j < 3 → v2 = nI (7 + j) → ∀ o : Option Int32, ∃ r, ((X11_isWithin_f v2 7 9 σ).bind fun v4 => if v4 = 0 then (o.bind fun v7 => some v7) else ((X3_hoursOf_f ((A + 5) + 12) (nI p) (v2 - 7) σ).bind fun v9 => some v9)) = some r ∧ ((X12_isIn_f v2 0 9 σ).bind fun v4 => if v4 = 0 then (some (-2)) else (if 7 ≤ v2 then ((X12_left_f (A + 84) (nI p) (v2 - 7) σ).bind fun v8 => some v8) else ((X12_own_f (A + 84) (nI p) v2 σ).bind fun v10 => some v10))) = some r := by
      intro j hj e o
      have h7 : (7 : Int32) ≤ v2 := by rw [e]; exact nI_le (a := 7) (by omega) (by omega)
      have h9 : v2 ≤ 9 := by rw [e]; exact nI_le (b := 9) (by omega) (by decide)
      rw [cl_isW_in h7 h9, bsm, if_neg n10, re_isIn_in (Int32.le_trans (show (0 : Int32) ≤ 7 by decide) h7) h9, bsm, if_neg n10, if_pos h7, cl_hours hzz, bsm, re_left hzz.d40 hzz.wd, bsm]
      exact ⟨_, rfl, rfl⟩
    by_cases c0 : v2 = 0
    · rw [if_pos c0, q0]; exact fin 0 (by decide) c0 _ rfl
    rw [if_neg c0]
    by_cases c1 : v2 = 1
    · rw [if_pos c1, q1]; exact fin 1 (by decide) c1 _ rfl
    rw [if_neg c1]
    by_cases c2 : v2 = 2
    · rw [if_pos c2, q2]; exact fin 2 (by decide) c2 _ rfl
    rw [if_neg c2]
    by_cases c3 : v2 = 3
    · rw [if_pos c3, q3]; exact fin 3 (by decide) c3 _ rfl
    rw [if_neg c3]
    by_cases c4 : v2 = 4
    · rw [if_pos c4, q4]; exact fin 4 (by decide) c4 _ rfl
    rw [if_neg c4]
    by_cases c5 : v2 = 5
    · rw [if_pos c5, q5]; exact fin 5 (by decide) c5 _ rfl
    rw [if_neg c5]
    by_cases c6 : v2 = 6
    · rw [if_pos c6, q6]; exact fin 6 (by decide) c6 _ rfl
    rw [if_neg c6]
    by_cases c7 : v2 = 7
    · exact hours 0 (by decide) c7 _
    by_cases c8 : v2 = 8
    · exact hours 1 (by decide) c8 _
    by_cases c9 : v2 = 9
    · exact hours 2 (by decide) c9 _
    have ho : v2 < 0 ∨ 9 < v2 := out_of (tsw_l 0 9 10 [0, 1, 2, 3, 4, 5, 6, 7, 8, 9] (al1 c0 (al1 c1 (al1 c2 (al1 c3 (al1 c4 (al1 c5 (al1 c6 (al1 c7 (al1 c8 (al1 c9 al0)))))))))) (by decide) (by decide))
    rw [re_isIn_out ho, cl_isW_out (ho.elim (fun z => Or.inl (Int32.lt_trans z (by decide))) Or.inr), bsm, bsm, bsm, if_pos rfl, if_pos rfl]
    exact ⟨_, rfl, rfl⟩
  · rw [has4_out h12 hzz.cn ho, re_isOne_out h12 hzz.wn ho, bsm, bsm, if_pos rfl, if_pos rfl]
    exact ⟨_, rfl, rfl⟩
theorem st_look (A b : Nat) : St_look (Inv A b) A (A + 84) := by
  intro h v1 hI
  obtain ⟨τ, σ, nx⟩ := h
  obtain ⟨n, nd, hT, hF, hz⟩ := hI.zz
  have hzz := hz σ rfl
  obtain ⟨n', nd', -, -, ⟨-, b2, -⟩, -, ⟨m, -, -, -, bc, wc, -⟩, -⟩ := hI.wd
  dsimp only at b2 bc wc
  obtain ⟨-, -, -, -, -, s0, s1, s2, -, c3, c4, c5, c6⟩ := hzz.sca
  suffices hs : ∃ r, X11_look_f A v1 σ = some r ∧ X12_look_f (A + 84) v1 σ = some r by
    obtain ⟨r, h1, h2⟩ := hs
    exact hI.look (re := fun ρ => X12_look_f (A + 84) v1 ρ) h1 h2
  unfold X11_look_f X12_look_f
  rw [hzz.cn, hzz.cd, b2, s1, s2, s0, bc, cl_all hzz, re_all hzz, cl_done hzz, re_done hzz]
  simp only [LW, bsm]
  rw [hzz.wn, hzz.wd, wc]
  have e5 : ∀ f : Nat → Int32, ld 20240 f (12 + 5 - 5) = some (f 12) := fun f => ldn (j := 12) (by decide) (by decide)
  have e6 : ∀ f : Nat → Int32, ld 20240 f (12 + 6 - 5) = some (f 13) := fun f => ldn (j := 13) (by decide) (by decide)
  have e7 : ∀ f : Nat → Int32, ld 20240 f (12 + 7 - 5) = some (f 14) := fun f => ldn (j := 14) (by decide) (by decide)
  have e8 : ∀ f : Nat → Int32, ld 20240 f (12 + 8 - 5) = some (f 15) := fun f => ldn (j := 15) (by decide) (by decide)
  by_cases q0 : v1 = 0
  · rw [if_pos q0, if_pos q0]; exact ⟨_, rfl, rfl⟩
  rw [if_neg q0, if_neg q0]
  by_cases q1 : v1 = 1
  · rw [if_pos q1, if_pos q1]; exact ⟨_, rfl, rfl⟩
  rw [if_neg q1, if_neg q1]
  by_cases q2 : v1 = 2
  · rw [if_pos q2, if_pos q2]; exact ⟨_, rfl, rfl⟩
  rw [if_neg q2, if_neg q2]
  by_cases q3 : v1 = 3
  · rw [if_pos q3, if_pos q3]; exact ⟨_, rfl, rfl⟩
  rw [if_neg q3, if_neg q3]
  by_cases q4 : v1 = 4
  · rw [if_pos q4, if_pos q4]; exact ⟨_, rfl, rfl⟩
  rw [if_neg q4, if_neg q4]
  by_cases q5 : v1 = 5
  · subst q5; rw [if_pos rfl, if_pos rfl, e5, bsm]; exact ⟨_, by unfold X2_countOf_f; rw [if_pos (by decide), bsm, c3], rfl⟩
  rw [if_neg q5, if_neg q5]
  by_cases q6 : v1 = 6
  · subst q6; rw [if_pos rfl, if_pos rfl, e6, bsm]; exact ⟨_, by unfold X2_countOf_f; rw [if_neg (by decide), if_pos (by decide), bsm, c4], rfl⟩
  rw [if_neg q6, if_neg q6]
  by_cases q7 : v1 = 7
  · subst q7; rw [if_pos rfl, if_pos rfl, e7, bsm]; exact ⟨_, by unfold X2_countOf_f; rw [if_neg (by decide), if_neg (by decide), if_pos (by decide), bsm, c5], rfl⟩
  rw [if_neg q7, if_neg q7]
  by_cases q8 : v1 = 8
  · subst q8; rw [if_pos rfl, if_pos rfl, e8, bsm]; exact ⟨_, by unfold X2_countOf_f; rw [if_neg (by decide), if_neg (by decide), if_neg (by decide), bsm, c6], rfl⟩
  rw [if_neg q8, if_neg q8]
  by_cases q9 : v1 = 9
  · rw [if_pos q9]; exact ⟨_, rfl, rfl⟩
  rw [if_neg q9]
  by_cases q10 : v1 = 10
  · rw [if_pos q10]; exact ⟨_, rfl, rfl⟩
  rw [if_neg q10]
  by_cases q11 : v1 = 11
  · rw [if_pos q11]; exact ⟨_, rfl, rfl⟩
  rw [if_neg q11]
  by_cases q12 : v1 = 12
  · rw [if_pos q12]; exact ⟨_, rfl, rfl⟩
  rw [if_neg q12]
  exact ⟨_, rfl, rfl⟩
