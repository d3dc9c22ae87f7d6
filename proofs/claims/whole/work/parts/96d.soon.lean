/-! soonest answers alike. -/
theorem Inv.scr {A b : Nat} {τ : Tau} {σ σ' : Sig} {nx : Nat} (hI : Inv A b (τ, σ, nx)) (h : ∀ a, a ≠ A + 25 → a ≠ A + 26 → a ≠ A + 27 → a ≠ A + 35 → a ≠ A + 36 → a ≠ A + 37 → a ≠ A + 91 → a ≠ A + 92 → a ≠ A + 93 → a ≠ A + 94 → σ' a = σ a) : Inv A b (τ, σ', nx) := by
  obtain ⟨n, nd, hG, hR, hB, hT, hBr, hF⟩ := hI.wd
  dsimp only at hG hR hB hT hBr hF
  have ew : σ' (A + 84 + 1) = σ (A + 84 + 1) := h _ (by omega) (by omega) (by omega) (by omega) (by omega) (by omega) (by omega) (by omega) (by omega) (by omega)
  have hag : agree A (rfld τ A 2) σ σ' := fun a ha _ => h a (by omega) (by omega) (by omega) (by omega) (by omega) (by omega) (by omega) (by omega) (by omega) (by omega)
  refine hI.go1 (fun a h1 h2 h3 h4 h5 h6 => h a (by omega) (by omega) (by omega) (by omega) (by omega) (by omega) h3 h4 h5 h6) ?_
  rw [ew]
  refine ⟨n, nd, hG, hR.scr (fun i hi => h _ (by omega) (by omega) (by omega) (by omega) (by omega) (by omega) (by omega) (by omega) (by omega) (by omega)), hB.fr2 (h _ (by omega) (by omega) (by omega) (by omega) (by omega) (by omega) (by omega) (by omega) (by omega) (by omega)) (h _ (by omega) (by omega) (by omega) (by omega) (by omega) (by omega) (by omega) (by omega) (by omega) (by omega)) (fun _ _ => rfl), hT.fr hag (fun _ _ _ => rfl), hBr.fr hag (fun _ _ _ => rfl) rfl (by rw [h _ (by omega) (by omega) (by omega) (by omega) (by omega) (by omega) (by omega) (by omega) (by omega) (by omega)]) (Nat.le_refl _) (Nat.le_refl _), hF⟩
theorem gN_0 {w : wF} {n nd : Nat} (h : Rg w n nd) : ∀ m, m ≤ nd → gN w m = 0 → ∀ d, d < m → w (230 + 8 * d + 2) = 0
  | 0, _, _, d, hd => absurd hd (by omega)
  | m + 1, hm, h0, d, hd => by
    rw [gN] at h0
    by_cases e : d = m
    · subst e; exact (left0 h (by omega)).mpr (by omega)
    · exact gN_0 h m (by omega) (by omega) d (by omega)
theorem allV_0 {w : wF} {may : Nat → Int32} : ∀ m, (∀ d, d < m → w (230 + 8 * d + 2) = 0) → allV w may m = 0
  | 0, _ => rfl
  | m + 1, h => by rw [allV, if_pos (h m (by omega)), allV_0 m (fun d hd => h d (by omega))]
theorem gN_pos {w : wF} {n nd : Nat} (h : Rg w n nd) : ∀ m, m ≤ nd → 0 < gN w m → ∃ d, d < m ∧ ¬ w (230 + 8 * d + 2) = 0
  | 0, _, h0 => by rw [gN] at h0; omega
  | m + 1, hm, h0 => by
    rw [gN] at h0
    by_cases e : 0 < gN w m
    · obtain ⟨d, hd, q⟩ := gN_pos h m (by omega) e
      exact ⟨d, by omega, q⟩
    · exact ⟨m, by omega, fun z => by have := (left0 h (show m < nd by omega)).mp z; omega⟩
theorem nI_and {a b : Nat} (ha : a < 2 ^ 32) (hb : b < 2 ^ 32) : nI a &&& nI b = nI (a &&& b) := by
  refine bt_ext (fun i => ?_)
  have : a &&& b < 2 ^ 32 := Nat.lt_of_le_of_lt Nat.and_le_left ha
  rw [bt_and, bt_nI ha, bt_nI hb, bt_nI this, Nat.testBit_and]
theorem Inv.yes2 {A b : Nat} {τ : Tau} {σ : Sig} {nx : Nat} (hI : Inv A b (τ, σ, nx)) {cl : Option (Int32 × Sig)} {re : Sig → Option (Int32 × Sig)} (h : ∃ r s r', cl = some (r, s) ∧ re s = some (r, r') ∧ Inv A b (τ, r', nx)) : ∃ (r : Int32) (h1 h2 : Hp), (cl.bind fun p => some (p.1, ((τ, p.2, nx) : Hp))) = some (r, h1) ∧ ShX12 h1.1 (A + 84) ∧ ((re h1.2.1).bind fun p => some (p.1, ((h1.1, p.2, h1.2.2) : Hp))) = some (r, h2) ∧ Inv A b h2 := by
  obtain ⟨r, s, r', e1, e2, e3⟩ := h
  exact hI.yes e1 e2 e3
theorem st_soonest (A b : Nat) : St_soonest (Inv A b) A (A + 84) := by
  intro h v1 hI
  obtain ⟨τ, σ, nx⟩ := h
  obtain ⟨n, nd, -, -, hz⟩ := hI.zz
  have hzz := hz σ rfl
  have h12 := hzz.n12
  have h40 := hzz.d40
  have p3 : 2 ^ n ≤ 2 ^ 12 := Nat.pow_le_pow_right (by decide) h12
  refine hI.yes2 (re := fun ρ => X12_soonest_f (A + 84) v1 ρ) ?_
  rcases within_in v1 0 2 σ σ with ⟨l1, l2, a1, a2⟩ | ⟨a1, a2⟩
  rotate_left
  · refine ⟨-1, σ, σ, ?_, ?_, hI⟩
    · unfold X11_soonest_f; rw [a1, bsm, if_pos rfl]
    · unfold X12_soonest_f; rw [a2, bsm, if_pos rfl]
  by_cases c2 : v1 = 2
  · obtain ⟨s, e1, e2⟩ := cl_alone hzz
    have es : s (A + 84 + 1) = σ (A + 84 + 1) := e2 _ (by omega) (by omega)
    refine ⟨nI (alN (σ (A + 84 + 1)) nd n), s, s, ?_, ?_, hI.scr (fun a h1 h2 h3 _ _ _ _ _ _ _ => e2 a (by omega) (by omega))⟩
    · unfold X11_soonest_f; rw [a1, bsm, if_neg n10, if_pos c2, e1, bsm]
    · have e3 := re_alone (hz s es)
      rw [es] at e3
      unfold X12_soonest_f; rw [re_isIn_in l1 l2, bsm, if_neg n10, if_pos c2, e3, bsm]
  obtain ⟨v, hv1, hv2⟩ := cl_noCh hzz
  obtain ⟨f, s, f1, f2, f3, f4⟩ := cl_find hzz hv1
  have es : s (A + 84 + 1) = σ (A + 84 + 1) := f2 _ (by omega)
  have hzs := hz s es
  -- the class's world behind findWhoMay
  have hcs : Z (A + 5) 2000 (A + 84) n nd σ σ s σ := hzz.scr (fun a h1 _ _ _ _ _ => f2 a h1)
  have hIs : Inv A b (τ, s, nx) := hI.scr (fun a h1 _ _ _ _ _ _ _ _ _ => f2 a (by omega))
  have gr := re_great hzs
  rw [es] at gr
  have hg := gN_le hzz.g nd (Nat.le_refl _)
  have cl0 : X11_soonest_f A v1 σ = if f = 0 then some (-1, s) else (if v1 = 0 then ((X3_bestHours_f ((A + 5) + 12) (s ((A + 5) + 1) 0) s).bind fun v12 => some (v12, s)) else ((X3_boundHours_f ((A + 5) + 12) s).bind fun v10 => some (v10, s))) := by
    unfold X11_soonest_f; rw [a1, bsm, if_neg n10, if_neg c2, f1, bsm]
  have re0 : X12_soonest_f (A + 84) v1 s = if nI (gN (σ (A + 84 + 1)) nd) = 0 then some (0, s) else ((X12_mays_f (A + 84) s).bind fun p => if p.1 = (-1) then (some ((-1), p.2)) else ((X12_greatest_f (A + 84) p.2).bind fun v12 => X12_soonest_b50 (A + 84) FU v1 p.1 v12 1 p.2)) := by
    unfold X12_soonest_f; rw [re_isIn_in l1 l2, bsm, if_neg n10, if_neg c2, gr, bsm]
  have ev : v1 = 0 ∨ v1 = 1 := by
    obtain ⟨k, hk, rfl⟩ := within_up (m := 2) (by decide) l1 l2
    have : k = 0 ∨ k = 1 ∨ k = 2 := by omega
    rcases this with rfl | rfl | rfl
    · exact Or.inl rfl
    · exact Or.inr rfl
    · exact absurd rfl c2
  by_cases cg : gN (σ (A + 84 + 1)) nd = 0
  · -- nothing is open
    have hop := gN_0 hzz.g nd (Nat.le_refl _) cg
    have hf : f = 1 := by
      rcases f4 with ⟨q, -⟩ | ⟨-, d, hd, q, -⟩
      · exact q
      · exact absurd (hop d hd) q
    refine ⟨0, s, s, ?_, ?_, hIs⟩
    · rw [cl0, hf, if_neg n10]
      rcases ev with rfl | rfl
      · rw [if_pos rfl]
        unfold X3_bestHours_f
        rw [cl_great hcs, bsm, cg, if_pos nI_0, bsm]
      · rw [if_neg n10, cl_bound hcs f3 (a := 0) (by rw [allV_0 nd hop]; rfl) (by decide), bsm, cg, if_pos rfl]; rfl
    · rw [re0, cg, if_pos nI_0]
  have cgp : 0 < gN (σ (A + 84 + 1)) nd := by omega
  have cg' : ¬ nI (gN (σ (A + 84 + 1)) nd) = 0 := nI_ne0 cgp (by omega)
  obtain ⟨g, r, m1, m2, m3⟩ := re_mays hzs (v := v) (by rw [es]; exact hv2)
  have er : r (A + 84 + 1) = σ (A + 84 + 1) := (m2 _ (by omega)).trans es
  rw [es] at m3
  have hIr : Inv A b (τ, r, nx) := hIs.scr (fun a _ _ _ _ _ _ _ _ h9 _ => m2 a (by omega))
  rcases m3 with ⟨rfl, mb⟩ | ⟨rfl, mo, mr⟩
  · -- nobody may for one
    have hf : f = 0 := by
      rcases f4 with ⟨-, q⟩ | ⟨q, -⟩
      · obtain ⟨d, hd, q1, q2⟩ := mb
        exact absurd q2 (q d hd q1)
      · exact q
    refine ⟨-1, s, r, by rw [cl0, if_pos hf], ?_, hIr⟩
    rw [re0, if_neg cg', m1, bsm, if_pos rfl]
  have hf : f = 1 := by
    rcases f4 with ⟨q, -⟩ | ⟨-, d, hd, q1, q2⟩
    · exact q
    · exact absurd q2 (mo d hd q1)
  have msm : ∀ d, d < nd → ∀ i, bt (mayE (σ (A + 84 + 1)) d &&& v) i = true → i < n := fun d hd i hi => by
    rw [bt_and, Bool.and_eq_true] at hi
    exact mayE_small hzz.g hd i hi.1
  obtain ⟨ab1, ab2⟩ := allV_bits (w := σ (A + 84 + 1)) (may := fun d => mayE (σ (A + 84 + 1)) d &&& v) nd msm
  obtain ⟨a, ha, ea⟩ := bt_small h12 ab1
  have ha1 : 1 ≤ a := by
    rcases Nat.eq_zero_or_pos a with z | z
    · exfalso
      obtain ⟨d, hd, q⟩ := gN_pos hzz.g nd (Nat.le_refl _) cgp
      refine mo d hd q (bt_ext (fun i => ?_))
      rw [bt_0]
      cases e : bt (mayE (σ (A + 84 + 1)) d &&& v) i with
      | false => rfl
      | true =>
        have := ab2 d hd q i e
        rw [ea, z, nI_0, bt_0] at this; cases this
    · exact z
  have hzr := hz r er
  have gr2 := re_great hzr
  rw [er] at gr2
  have mr' : ∀ d, d < nd → ¬ r (A + 84 + 1) (230 + 8 * d + 2) = 0 → r (A + 84 + 9) d = (fun d => mayE (σ (A + 84 + 1)) d &&& v) d := by rw [er]; exact mr
  have re1 : X12_soonest_f (A + 84) v1 s = X12_soonest_b50 (A + 84) FU v1 (nI a) (nI (gN (σ (A + 84 + 1)) nd)) 1 r := by
    rw [re0, if_neg cg', m1, bsm, if_neg (by dsimp only; rw [ea]; exact ne_m1 (by omega))]
    dsimp only
    rw [gr2, bsm, ea]
  rcases ev with rfl | rfl
  · -- the soonest
    obtain ⟨R1, e1, e2, e3, e4⟩ := cl_best hcs f3 (gN (σ (A + 84 + 1)) nd) (by omega)
    obtain ⟨R2, d1, d2, d3, d4⟩ := re_soon0 hzr mr' ha (gN (σ (A + 84 + 1)) nd) (by omega)
    rw [er] at d3 d4
    have eR : R1 = R2 := by
      apply Nat.le_antisymm
      · rcases e4 with e4 | ⟨j, j1, j2, j3⟩
        · omega
        · rw [j3]
          have hj := hN_and (S := nI j) (T := nI a) hzz.g nd (Nat.le_refl _) (may := fun d => mayE (σ (A + 84 + 1)) d &&& v) (fun d hd q i hi => by rw [← ea]; exact ab2 d hd q i hi)
          rw [nI_and (by omega) (by omega)] at hj
          have hlt : j &&& a ≤ a := Nat.and_le_right
          by_cases c0 : j &&& a = 0
          · rw [c0, nI_0, hN_none hzz.g nd (Nat.le_refl _) mo] at hj
            unfold FS
            rw [hj, up_0 (pc_pos (by omega) (by omega))]
            omega
          · have hb : FS (σ (A + 84 + 1)) (fun d => mayE (σ (A + 84 + 1)) d &&& v) nd (j &&& a) ≤ R2 := by
              refine d3 (j &&& a) (by omega) hlt (fun i hi => ?_)
              rw [bt_nI (by omega), Nat.testBit_and, Bool.and_eq_true] at hi
              rw [bt_nI (by omega)]; exact hi.2
            refine Nat.le_trans ?_ hb
            unfold FS
            rw [hj]
            refine up_mono (pc_pos (by omega) (by omega)) (pcn_mono (fun i hi => ?_) 30)
            rw [Nat.testBit_and, Bool.and_eq_true] at hi
            exact hi.1
      · rcases d4 with d4 | ⟨j, j1, j2, j3⟩
        · omega
        · rw [j3]; exact e3 j j1 (by omega)
    refine ⟨nI R1, s, r, ?_, by rw [re1, d1, eR], hIr⟩
    rw [cl0, hf, if_neg n10, if_pos rfl]
    unfold X3_bestHours_f
    rw [cl_great hcs, bsm, if_neg cg', hcs.cn, e1, bsm]
  · -- the bound
    have d1 := re_soon1 hzr mr' ha ha1 (gN (σ (A + 84 + 1)) nd) (by omega)
    rw [er] at d1
    have hh := hN_all (S := nI a) hzz.g nd (Nat.le_refl _) (may := fun d => mayE (σ (A + 84 + 1)) d &&& v) (fun d hd q i hi => by rw [← ea]; exact ab2 d hd q i hi)
    have hpc := pc_pos (s := a) (by omega) (by omega)
    have ht := tN_le hzz.g nd (Nat.le_refl _)
    have hu := upN_le (h := tN (σ (A + 84 + 1)) nd) hpc
    refine ⟨nI (max (gN (σ (A + 84 + 1)) nd) (FS (σ (A + 84 + 1)) (fun d => mayE (σ (A + 84 + 1)) d &&& v) nd a)), s, r, ?_, by rw [re1, d1], hIr⟩
    rw [cl0, hf, if_neg n10, if_neg n10, cl_bound hcs f3 ea (by omega), bsm, if_neg (by omega), mmax_nI (by omega) (by omega)]
    unfold FS
    rw [hh]
