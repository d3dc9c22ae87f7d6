/-! CALLS THAT ONLY READ. -/
section RD
variable {σ : Sig} {W : Nat} {w : wF} {n nd : Nat}
theorem Rc.p (h : Rc σ W w n nd) : RcP σ W w n := h.1
theorem Rc.d (h : Rc σ W w n nd) : RcD σ W w nd := h.2.1
theorem Rc.t (h : Rc σ W w n nd) : RcT σ W w := h.2.2.1
theorem Rc.c (h : Rc σ W w n nd) : RcC σ W w := h.2.2.2
theorem RcD.at (h : RcD σ W w nd) {d : Nat} (hd : d < nd) : σ (W + 12 + 1) d = w (230 + 8 * d) ∧ σ (W + 12 + 2) d = w (230 + 8 * d + 1) ∧ σ (W + 12 + 3) d = w (230 + 8 * d + 2) ∧ σ (W + 12 + 4) d = w (230 + 8 * d + 3) ∧ σ (W + 12 + 5) d = w (230 + 8 * d + 4) ∧ σ (W + 12 + 6) d = w (230 + 8 * d + 5) ∧ σ (W + 12 + 7) d = w (230 + 8 * d + 6) :=
  ⟨h.2 d hd 0 (by decide), h.2 d hd 1 (by decide), h.2 d hd 2 (by decide), h.2 d hd 3 (by decide), h.2 d hd 4 (by decide), h.2 d hd 5 (by decide), h.2 d hd 6 (by decide)⟩
theorem RcP.at (h : RcP σ W w n) {p : Nat} (hp : p < n) : σ (W + 1 + 1) p = w (90 + 8 * p) ∧ σ (W + 1 + 2) p = w (90 + 8 * p + 1) ∧ σ (W + 1 + 3) p = w (90 + 8 * p + 2) ∧ σ (W + 1 + 4) p = w (90 + 8 * p + 3) ∧ σ (W + 1 + 5) p = w (90 + 8 * p + 4) ∧ σ (W + 1 + 6) p = w (90 + 8 * p + 5) ∧ σ (W + 1 + 7) p = w (90 + 8 * p + 6) :=
  ⟨(h.2 p hp).1 0 (by decide), (h.2 p hp).1 1 (by decide), (h.2 p hp).1 2 (by decide), (h.2 p hp).1 3 (by decide), (h.2 p hp).1 4 (by decide), (h.2 p hp).1 5 (by decide), (h.2 p hp).1 6 (by decide)⟩
theorem RcP.no (h : RcP σ W w n) {p : Nat} (hp : p < n) : σ (W + 1 + 8) p = w (190 + 3 * p) ∧ σ (W + 1 + 9) p = w (190 + 3 * p + 1) ∧ σ (W + 1 + 10) p = w (190 + 3 * p + 2) :=
  ⟨(h.2 p hp).2 0 (by decide), (h.2 p hp).2 1 (by decide), (h.2 p hp).2 2 (by decide)⟩
theorem Rg.le12 (h : Rg w n nd) : n ≤ 12 := h.1.1
theorem Rg.wn (h : Rg w n nd) : w 9 = nI n := h.1.2.1
theorem Rg.le40 (h : Rg w n nd) : nd ≤ 40 := h.2.1.1
theorem Rg.wd (h : Rg w n nd) : w 10 = nI nd := h.2.1.2.1
end RD
theorem out_of {x : Int32} {lo hi : Int32} (h : x.toInt < lo.toInt ∨ hi.toInt < x.toInt) : x < lo ∨ hi < x := h.elim (fun q => Or.inl (Int32.lt_iff_toInt_lt.mpr q)) (fun q => Or.inr (Int32.lt_iff_toInt_lt.mpr q))
theorem Inv.wd {A b : Nat} {h : Hp} (hI : Inv A b h) : Wd b h.1 h.2.1 A h.2.2 (rfld h.1 A 2) (A + 5) (h.2.1 (A + 84 + 1)) := hI.2.2.2.2.1
theorem Inv.s1 {A b : Nat} {h : Hp} (hI : Inv A b h) : ShX11 h.1 A := hI.1
theorem Inv.s2 {A b : Nat} {h : Hp} (hI : Inv A b h) : ShX12 h.1 (A + 84) := hI.2.1
theorem st_fault (A b : Nat) : St_fault (Inv A b) A (A + 84) := by
  intro h v1 hI
  obtain ⟨τ, σ, nx⟩ := h
  have e0 : σ (A + 77) 0 = σ (A + 84) 19 := hI.2.2.2.2.2.2.2.1
  have e1 : σ (A + 77) 1 = σ (A + 84) 21 := hI.2.2.2.2.2.2.2.2.1
  by_cases c0 : v1 = 0
  · subst c0
    exact ⟨σ (A + 84) 19, (τ, σ, nx), (τ, σ, nx), by simp [cl_fault, X11_fault_f, e0], hI.s2, by simp [re_fault, X12_fault_f], hI⟩
  · by_cases c1 : v1 = 1
    · subst c1
      exact ⟨σ (A + 84) 21, (τ, σ, nx), (τ, σ, nx), by simp [cl_fault, X11_fault_f, e1], hI.s2, by simp [re_fault, X12_fault_f], hI⟩
    · exact ⟨-1, (τ, σ, nx), (τ, σ, nx), by simp [cl_fault, X11_fault_f, c0, c1], hI.s2, by simp [re_fault, X12_fault_f, c0, c1], hI⟩
theorem wk3 {σ : Sig} {W d : Nat} {w : wF} {n nd : Nat} (hG : Rg w n nd) (hR : Rc σ W w n nd) (hd : d < nd) : X3_workerOf_f (W + 12) (nI d) σ = some (if w (230 + 8 * d + 4) = -1 then w (230 + 8 * d) else w (230 + 8 * d + 4)) := by
  obtain ⟨a1, -, -, -, a5, -⟩ := hR.d.at hd
  have := hG.le40
  unfold X3_workerOf_f
  rw [ldn (by omega) (by decide), ldn (by omega) (by decide), a5, a1]
  by_cases c : w (230 + 8 * d + 4) = -1 <;> simp [c]
theorem wk12 {σ : Sig} {B d nd : Nat} (hnd : nd ≤ 40) (hd : d < nd) : X12_workerOf_f B (nI d) σ = some (if σ (B + 1) (230 + 8 * d + 4) = -1 then σ (B + 1) (230 + 8 * d) else σ (B + 1) (230 + 8 * d + 4)) := by
  unfold X12_workerOf_f
  rw [show (4 : Int32) = nI 4 from rfl, show (0 : Int32) = nI 0 from rfl, re_debtOf (by omega) (by decide), re_debtOf (by omega) (by decide)]
  by_cases c : σ (B + 1) (230 + 8 * d + 4) = -1 <;> simp [c]
theorem st_of (A b : Nat) : St_of (Inv A b) A (A + 84) := by
  intro h v1 v2 hI
  obtain ⟨τ, σ, nx⟩ := h
  obtain ⟨n, nd, hG, hR, -⟩ := hI.wd
  have hc : σ (A + 5 + 12) 0 = nI nd := hR.d.1.trans hG.wd
  suffices hs : ∃ r, X11_of_f A v1 v2 σ = some r ∧ X12_of_f (A + 84) v1 v2 σ = some r by
    obtain ⟨r, h1, h2⟩ := hs
    exact ⟨r, (τ, σ, nx), (τ, σ, nx), by simp [cl_of, h1], hI.s2, by simp [re_of, h2], hI⟩
  unfold X11_of_f X12_of_f
  rcases oneOf v1 nd with ⟨d, hd, rfl⟩ | ho
  · rw [has3_in hG.le40 hc hd, re_isDebt_in hG.le40 hG.wd hd]
    simp only [Option.bind_some]
    rw [if_neg (by decide), if_neg (by decide)]
    obtain ⟨a1, a2, a3, a4, a5, a6, a7⟩ := hR.d.at hd
    have hd40 : d < 40 := by have := hG.le40; omega
    have hl : ∀ f : Nat → Int32, ld 40 f (nI d) = some (f d) := fun f => ldn hd40 (by decide)
    have b0 : X12_debtOf_f (A + 84) (nI d) 0 σ = some _ := re_debtOf (f := 0) hd40 (by decide)
    have b1 : X12_debtOf_f (A + 84) (nI d) 1 σ = some _ := re_debtOf (f := 1) hd40 (by decide)
    have b2 : X12_debtOf_f (A + 84) (nI d) 2 σ = some _ := re_debtOf (f := 2) hd40 (by decide)
    have b3 : X12_debtOf_f (A + 84) (nI d) 3 σ = some _ := re_debtOf (f := 3) hd40 (by decide)
    have b4 : X12_debtOf_f (A + 84) (nI d) 4 σ = some _ := re_debtOf (f := 4) hd40 (by decide)
    have b5 : X12_debtOf_f (A + 84) (nI d) 5 σ = some _ := re_debtOf (f := 5) hd40 (by decide)
    have b6 : X12_debtOf_f (A + 84) (nI d) 6 σ = some _ := re_debtOf (f := 6) hd40 (by decide)
    have k1 := wk3 hG hR hd
    have k2 := wk12 (B := A + 84) (σ := σ) hG.le40 hd
    dsimp only at a1 a2 a3 a4 a5 a6 a7 k1
    unfold X3_tellOf_f
    by_cases c0 : v2 = 0
    · subst c0
      exact ⟨_, by simp (decide := true) only [hl, a1, a2, a3, a4, a5, a6, a7, k1, if_true, if_false, Option.bind_some, ite_true, ite_false]; rfl, by simp (decide := true) only [X12_isIn_f, b0, b1, b2, b3, b4, b5, b6, k2, if_true, if_false, Option.bind_some, ite_true, ite_false] <;> rfl⟩
    by_cases c1 : v2 = 1
    · subst c1
      exact ⟨_, by simp (decide := true) only [hl, a1, a2, a3, a4, a5, a6, a7, k1, if_true, if_false, Option.bind_some, ite_true, ite_false]; rfl, by simp (decide := true) only [X12_isIn_f, b0, b1, b2, b3, b4, b5, b6, k2, if_true, if_false, Option.bind_some, ite_true, ite_false] <;> rfl⟩
    by_cases c2 : v2 = 2
    · subst c2
      exact ⟨_, by simp (decide := true) only [hl, a1, a2, a3, a4, a5, a6, a7, k1, if_true, if_false, Option.bind_some, ite_true, ite_false]; rfl, by simp (decide := true) only [X12_isIn_f, b0, b1, b2, b3, b4, b5, b6, k2, if_true, if_false, Option.bind_some, ite_true, ite_false] <;> rfl⟩
    by_cases c3 : v2 = 3
    · subst c3
      exact ⟨_, by simp (decide := true) only [hl, a1, a2, a3, a4, a5, a6, a7, k1, if_true, if_false, Option.bind_some, ite_true, ite_false]; rfl, by simp (decide := true) only [X12_isIn_f, b0, b1, b2, b3, b4, b5, b6, k2, if_true, if_false, Option.bind_some, ite_true, ite_false] <;> rfl⟩
    by_cases c4 : v2 = 4
    · subst c4
      exact ⟨_, by simp (decide := true) only [hl, a1, a2, a3, a4, a5, a6, a7, k1, if_true, if_false, Option.bind_some, ite_true, ite_false]; rfl, by simp (decide := true) only [X12_isIn_f, b0, b1, b2, b3, b4, b5, b6, k2, if_true, if_false, Option.bind_some, ite_true, ite_false] <;> rfl⟩
    by_cases c5 : v2 = 5
    · subst c5
      exact ⟨_, by simp (decide := true) only [hl, a1, a2, a3, a4, a5, a6, a7, k1, if_true, if_false, Option.bind_some, ite_true, ite_false]; rfl, by simp (decide := true) only [X12_isIn_f, b0, b1, b2, b3, b4, b5, b6, k2, if_true, if_false, Option.bind_some, ite_true, ite_false] <;> rfl⟩
    by_cases c6 : v2 = 6
    · subst c6
      exact ⟨_, by simp (decide := true) only [hl, a1, a2, a3, a4, a5, a6, a7, k1, if_true, if_false, Option.bind_some, ite_true, ite_false]; rfl, by simp (decide := true) only [X12_isIn_f, b0, b1, b2, b3, b4, b5, b6, k2, if_true, if_false, Option.bind_some, ite_true, ite_false] <;> rfl⟩
    by_cases c7 : v2 = 7
    · subst c7
      exact ⟨_, by simp (decide := true) only [hl, a1, a2, a3, a4, a5, a6, a7, k1, if_true, if_false, Option.bind_some, ite_true, ite_false]; rfl, by simp (decide := true) only [X12_isIn_f, b0, b1, b2, b3, b4, b5, b6, k2, if_true, if_false, Option.bind_some, ite_true, ite_false] <;> rfl⟩
    · have ho : v2 < 0 ∨ 7 < v2 := out_of (tsw_l 0 7 8 [0, 1, 2, 3, 4, 5, 6, 7] (al1 c0 (al1 c1 (al1 c2 (al1 c3 (al1 c4 (al1 c5 (al1 c6 (al1 c7 al0)))))))) (by decide) (by decide))
      exact ⟨-2, by rw [if_neg c0, if_neg c1, if_neg c2, if_neg c3, if_neg c4, if_neg c5, if_neg c6, if_neg c7]; rfl, by rw [re_isIn_out ho]; rfl⟩
  · rw [has3_out hG.le40 hc ho, re_isDebt_out hG.le40 hG.wd ho]
    exact ⟨-2, rfl, rfl⟩
theorem st_noise (A b : Nat) : St_noise (Inv A b) A (A + 84) := by
  intro h v1 v2 hI
  obtain ⟨τ, σ, nx⟩ := h
  obtain ⟨n, nd, hG, hR, -⟩ := hI.wd
  have hc : σ (A + 5 + 1) 0 = nI n := hR.p.1.trans hG.wn
  suffices hs : ∃ r, X11_noise_f A v1 v2 σ = some r ∧ X12_noise_f (A + 84) v1 v2 σ = some r by
    obtain ⟨r, h1, h2⟩ := hs
    exact ⟨r, (τ, σ, nx), (τ, σ, nx), by simp [cl_noise, h1], hI.s2, by simp [re_noise, h2], hI⟩
  unfold X11_noise_f X12_noise_f
  rcases oneOf v1 n with ⟨p, hp, rfl⟩ | ho
  · rw [has4_in hG.le12 hc hp, re_isOne_in hG.le12 hG.wn hp]
    simp only [Option.bind_some]
    rw [if_neg (by decide), if_neg (by decide)]
    have hp12 : p < 12 := by have := hG.le12; omega
    obtain ⟨a1, a2, a3⟩ := hR.p.no hp
    dsimp only at a1 a2 a3
    have hl : ∀ f : Nat → Int32, ld 12 f (nI p) = some (f p) := fun f => ldn hp12 (by decide)
    have ix : ∀ k : Nat, k < 3 → ld 20240 (σ (A + 84 + 1)) (190 + 3 * nI p + nI k) = some (σ (A + 84 + 1) (190 + 3 * p + k)) := fun k hk => by
      rw [show (190 : Int32) = nI 190 from rfl, show (3 : Int32) = nI 3 from rfl, pk_mul, nI_add, nI_add, ldn (by omega) (by decide)]
    have i0 : ld 20240 (σ (A + 84 + 1)) (190 + 3 * nI p + 0) = some (σ (A + 84 + 1) (190 + 3 * p)) := ix 0 (by decide)
    have i1 : ld 20240 (σ (A + 84 + 1)) (190 + 3 * nI p + 1) = some (σ (A + 84 + 1) (190 + 3 * p + 1)) := ix 1 (by decide)
    have i2 : ld 20240 (σ (A + 84 + 1)) (190 + 3 * nI p + 2) = some (σ (A + 84 + 1) (190 + 3 * p + 2)) := ix 2 (by decide)
    by_cases c0 : v2 = 0
    · subst c0
      exact ⟨_, by simp (decide := true) only [X11_isWithin_f, X4_noiseOf_f, hl, a1, if_true, if_false, Option.bind_some, ite_true, ite_false] <;> rfl, by simp (decide := true) only [X12_isIn_f, i0, if_true, if_false, Option.bind_some, ite_true, ite_false] <;> rfl⟩
    by_cases c1 : v2 = 1
    · subst c1
      exact ⟨_, by simp (decide := true) only [X11_isWithin_f, X4_noiseOf_f, hl, a2, if_true, if_false, Option.bind_some, ite_true, ite_false] <;> rfl, by simp (decide := true) only [X12_isIn_f, i1, if_true, if_false, Option.bind_some, ite_true, ite_false] <;> rfl⟩
    by_cases c2 : v2 = 2
    · subst c2
      exact ⟨_, by simp (decide := true) only [X11_isWithin_f, X4_noiseOf_f, hl, a3, if_true, if_false, Option.bind_some, ite_true, ite_false] <;> rfl, by simp (decide := true) only [X12_isIn_f, i2, if_true, if_false, Option.bind_some, ite_true, ite_false] <;> rfl⟩
    · have ho : v2 < 0 ∨ 2 < v2 := out_of (tsw_l 0 2 3 [0, 1, 2] (al1 c0 (al1 c1 (al1 c2 al0))) (by decide) (by decide))
      exact ⟨-2, by rw [cl_isW_out ho]; rfl, by rw [re_isIn_out ho]; rfl⟩
  · rw [has4_out hG.le12 hc ho, re_isOne_out hG.le12 hG.wn ho]
    exact ⟨-2, rfl, rfl⟩
