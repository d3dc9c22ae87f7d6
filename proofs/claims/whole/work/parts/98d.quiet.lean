/-! quiet. -/
theorem tN_0 {w : wF} {n nd : Nat} (h : Rg w n nd) : tN w nd = 0 ↔ gN w nd = 0 := by
  suffices key : ∀ m, tN w m = 0 ↔ gN w m = 0 from key nd
  intro m
  induction m with
  | zero => exact ⟨fun _ => rfl, fun _ => rfl⟩
  | succ m ih => rw [tN, gN]; omega
def lst (x3 v : Int32) : Int32 := if x3 = -1 then v else mmin x3 v
theorem re_b90 {B : Nat} {k36 : Int32 → Int32 → Int32 → Int32 → Int32 → Int32 → Sig → Option (Int32 × Sig)} {x1 x2 x3 x4 x5 x6 x8 : Int32} {ρ : Sig} {g : Nat} (hg : X12_greatest_f B ρ = some (nI g)) (hg2 : g < 2 ^ 31) : X12_quiet_b90 B k36 x1 x2 x3 x4 x5 x6 x8 ρ = if g = 0 then k36 x1 x2 (lst x3 x8) (mmax x4 x8) x5 (x6 + 1) ρ else k36 x1 x2 x3 x4 (x5 + 1) (x6 + 1) ρ := by
  have b120 : ∀ y : Int32, X12_quiet_b120 B k36 x1 x2 x4 x5 x6 x8 y ρ = k36 x1 x2 y (mmax x4 x8) x5 (x6 + 1) ρ := by
    intro y
    unfold X12_quiet_b120 mmax
    by_cases c : x8 ≤ x4
    · rw [if_pos c, if_neg (Int32.not_lt.mpr c)]
    · rw [if_neg c, if_pos (Int32.not_le.mp c)]
  unfold X12_quiet_b90
  rw [hg, bsm, b120, b120]
  by_cases c : g = 0
  · subst c
    rw [if_pos (show nI 0 ≤ 0 from Int32.le_refl _), if_pos rfl]
    unfold lst mmin
    by_cases c3 : x3 = -1
    · rw [if_pos c3, if_pos c3]
    · rw [if_neg c3, if_neg c3]
      by_cases c8 : x3 ≤ x8
      · rw [if_pos c8, if_neg (Int32.not_lt.mpr c8)]
      · rw [if_neg c8, if_pos (Int32.not_le.mp c8)]
  · rw [if_neg (nI_nle (by omega) hg2), if_neg c]
section QU
variable {τ : Tau} {A nx : Nat} {kp : Option Nat} {W M B n nd : Nat} {σ0 ρ0 σ ρ : Sig}
/-- the loop till all is quiet, on both sides -/
theorem till_two (hT : Txs τ σ0 A nx kp W (ρ0 (B + 1))) (hW : A + 5 ≤ W ∧ W + 35 ≤ A + 95) (P : Int32) (k36 : Int32 → Int32 → Int32 → Int32 → Int32 → Int32 → Sig → Option (Int32 × Sig)) (x1 x2 x3 x4 x5 x6 : Int32) (h : Z W M B n nd σ0 ρ0 σ ρ) (hP : ρ (B + 1) 12 + sm (lefts (ρ (B + 1))) nd = P) : ∃ v σ' ρ', X10_tillQuiet_b53 τ W M FU P 0 σ = some (v, σ') ∧ Z W M B n nd σ0 ρ0 σ' ρ' ∧ X12_quiet_b65 B k36 FU x1 x2 x3 x4 x5 x6 0 ρ = (if v = -1 then k36 x1 x2 x3 x4 (x5 + 1) (x6 + 1) ρ' else k36 x1 x2 (lst x3 v) (mmax x4 v) x5 (x6 + 1) ρ') := by
  have key := fuel_up (m := 5760) (C := fun fu i => ∀ σ' ρ' : Sig, Z W M B n nd σ0 ρ0 σ' ρ' → ρ' (B + 1) 12 + sm (lefts (ρ' (B + 1))) nd = P → ∃ v σ'' ρ'', X10_tillQuiet_b53 τ W M fu P (nI i) σ' = some (v, σ'') ∧ Z W M B n nd σ0 ρ0 σ'' ρ'' ∧ X12_quiet_b65 B k36 fu x1 x2 x3 x4 x5 x6 (nI i) ρ' = (if v = -1 then k36 x1 x2 x3 x4 (x5 + 1) (x6 + 1) ρ'' else k36 x1 x2 (lst x3 v) (mmax x4 v) x5 (x6 + 1) ρ'')) (fun fu σ' ρ' h1 h2 => ?_) (fun fu i hi ih σ' ρ' h1 h2 => ?_) 5760 0 FU (by omega) (by unfold FU; omega)
  · rw [nI_0] at key; exact key σ ρ h hP
  · have hgl := gN_le h1.g nd (Nat.le_refl _)
    have htl := tN_le h1.g nd (Nat.le_refl _)
    have h40 := h1.d40
    have e3 : σ' (W + 33) 3 = ρ' (B + 1) 12 := h1.sca.2.2.2.2.2.2.2.2.2.1
    have eq : σ' (W + 33) 3 = P ↔ gN (ρ' (B + 1)) nd = 0 := by
      rw [e3, ← h2, sm_tN h1.g nd (Nat.le_refl _), ← tN_0 h1.g]
      constructor
      · intro z
        have z2 : ρ' (B + 1) 12 + nI (tN (ρ' (B + 1)) nd) - ρ' (B + 1) 12 = 0 := by rw [← z, Int32.sub_self]
        rw [Int32.add_comm, Int32.add_sub_cancel] at z2
        exact nI_inj (by omega) (by omega) (z2.trans nI_0.symm)
      · intro z; rw [z, nI_0, Int32.add_zero]
    unfold X10_tillQuiet_b53 X12_quiet_b65
    rw [if_pos (show (5760 : Int32) ≤ nI 5760 from Int32.le_refl _), if_pos (show (5760 : Int32) ≤ nI 5760 from Int32.le_refl _), re_b90 (re_great h1) (by omega)]
    by_cases c : gN (ρ' (B + 1)) nd = 0
    · rw [if_pos (eq.mpr c), if_pos c]
      exact ⟨5760, σ', ρ', rfl, h1, by rw [if_neg (by decide)]; rfl⟩
    · rw [if_neg (fun z => c (eq.mp z)), if_neg c]
      exact ⟨-1, σ', ρ', rfl, h1, by rw [if_pos rfl]⟩
  · have hgl := gN_le h1.g nd (Nat.le_refl _)
    have htl := tN_le h1.g nd (Nat.le_refl _)
    have h40 := h1.d40
    have e3 : σ' (W + 33) 3 = ρ' (B + 1) 12 := h1.sca.2.2.2.2.2.2.2.2.2.1
    have eq : σ' (W + 33) 3 = P ↔ gN (ρ' (B + 1)) nd = 0 := by
      rw [e3, ← h2, sm_tN h1.g nd (Nat.le_refl _), ← tN_0 h1.g]
      constructor
      · intro z
        have z2 : ρ' (B + 1) 12 + nI (tN (ρ' (B + 1)) nd) - ρ' (B + 1) 12 = 0 := by rw [← z, Int32.sub_self]
        rw [Int32.add_comm, Int32.add_sub_cancel] at z2
        exact nI_inj (by omega) (by omega) (z2.trans nI_0.symm)
      · intro z; rw [z, nI_0, Int32.add_zero]
    unfold X10_tillQuiet_b53 X12_quiet_b65
    rw [if_neg (show ¬ (5760 : Int32) ≤ nI i from nI_ge (b := 5760) hi (by decide)), if_neg (show ¬ (5760 : Int32) ≤ nI i from nI_ge (b := 5760) hi (by decide)), re_great h1, bsm, nI_s]
    by_cases c : gN (ρ' (B + 1)) nd = 0
    · rw [if_pos (eq.mpr c), if_pos (by rw [c]; exact Int32.le_refl _), re_b90 (re_great h1) (by omega), if_pos c]
      exact ⟨nI i, σ', ρ', rfl, h1, by rw [if_neg (ne_m1 (by omega))]⟩
    · rw [if_neg (fun z => c (eq.mp z)), if_neg (nI_nle (by omega) (by omega))]
      obtain ⟨s, r, e1, e2, z1, z2⟩ := pass_two h1 hT hW
      rw [e1, bsm, e2, bsm]
      exact ih s r z1 (z2.2.2.trans h2)
/-- nothing ever counts -/
theorem till_idle (hT : Txs τ σ0 A nx kp W (ρ0 (B + 1))) (hW : A + 5 ≤ W ∧ W + 35 ≤ A + 95) (k36 : Int32 → Int32 → Int32 → Int32 → Int32 → Int32 → Sig → Option (Int32 × Sig)) (x1 x2 x3 x4 x5 x6 : Int32) (h : Z W M B n nd σ0 ρ0 σ ρ) (hi : ρ (B + 1) 3 = -1 ∨ ρ (B + 1) 7 = 1) (hg : ¬ gN (ρ (B + 1)) nd = 0) : ∃ σ' ρ', Z W M B n nd σ0 ρ0 σ' ρ' ∧ X12_quiet_b65 B k36 FU x1 x2 x3 x4 x5 x6 0 ρ = k36 x1 x2 x3 x4 (x5 + 1) (x6 + 1) ρ' := by
  have gfr : ∀ w w' : wF, (∀ j, (230 ≤ j ∧ j < 550) → w' j = w j) → ∀ m, m ≤ 40 → gN w' m = gN w m := by
    intro w w' hw m
    induction m with
    | zero => intro _; rfl
    | succ m ih => intro hm; rw [gN, gN, ih (by omega)]; unfold lfN; rw [hw _ (by omega)]
  have key := fuel_up (m := 5760) (C := fun fu i => ∀ σ' ρ' : Sig, Z W M B n nd σ0 ρ0 σ' ρ' → (∀ j, (j = 3 ∨ j = 7 ∨ (230 ≤ j ∧ j < 550)) → ρ' (B + 1) j = ρ (B + 1) j) → ∃ σ'' ρ'', Z W M B n nd σ0 ρ0 σ'' ρ'' ∧ X12_quiet_b65 B k36 fu x1 x2 x3 x4 x5 x6 (nI i) ρ' = k36 x1 x2 x3 x4 (x5 + 1) (x6 + 1) ρ'') (fun fu σ' ρ' h1 h2 => ?_) (fun fu i hii ih σ' ρ' h1 h2 => ?_) 5760 0 FU (by omega) (by unfold FU; omega)
  · rw [nI_0] at key; exact key σ ρ h (fun _ _ => rfl)
  · have hgl := gN_le h1.g nd (Nat.le_refl _)
    have c : ¬ gN (ρ' (B + 1)) nd = 0 := by rw [gfr _ _ (fun j hj => h2 j (by omega)) nd h1.d40]; exact hg
    refine ⟨σ', ρ', h1, ?_⟩
    unfold X12_quiet_b65
    rw [if_pos (show (5760 : Int32) ≤ nI 5760 from Int32.le_refl _), re_b90 (re_great h1) (by omega), if_neg c]
  · have hgl := gN_le h1.g nd (Nat.le_refl _)
    have c : ¬ gN (ρ' (B + 1)) nd = 0 := by rw [gfr _ _ (fun j hj => h2 j (by omega)) nd h1.d40]; exact hg
    unfold X12_quiet_b65
    rw [if_neg (show ¬ (5760 : Int32) ≤ nI i from nI_ge (b := 5760) hii (by decide)), re_great h1, bsm, nI_s, if_neg (nI_nle (by omega) (by omega))]
    obtain ⟨s, r, e1, e2, z1, z2⟩ := pass_idle h1 hT hW (by rw [h2 3 (by omega), h2 7 (by omega)]; exact hi)
    rw [e2, bsm]
    exact ih s r z1 (fun j hj => (z2 j hj).trans (h2 j hj))
end QU
/-- a night begins, on both sides -/
theorem night_z {τ1 : Tau} {σ1 ρ : Sig} {A nx : Nat} {kp : Option Nat} {w : wF} {n nd : Nat} (hG : Rg w n nd) (c5 : Rc σ1 (A + 40) w n nd) (c6 : BkN σ1 (A + 40)) (c7 : ∃ k, k ≤ 400 ∧ w 11 = nI k) (c8 : Txs τ1 σ1 A nx kp (A + 40) w) (r3 : ∀ j, j < 2550 → ρ (A + 84 + 3) j = w j) (r1 : ∀ j, 2550 ≤ j → ρ (A + 84 + 1) j = w j) (st : Int32) : ∃ s, X12_comesBack_f (A + 84) ρ = some s ∧ (∀ x, x ≠ A + 84 + 1 → s x = ρ x) ∧ s (A + 84 + 1) = w ∧ Z (A + 40) 0 (A + 84) n nd (wr σ1 (A + 66) 0 st) (wr s (A + 84 + 1) 0 st) (wr σ1 (A + 66) 0 st) (wr s (A + 84 + 1) 0 st) ∧ Txs τ1 (wr σ1 (A + 66) 0 st) A nx kp (A + 40) (wr s (A + 84 + 1) 0 st (A + 84 + 1)) := by
  obtain ⟨s, b1, b2, b3, b4⟩ := @re_back (A + 84) ρ
  have sw : s (A + 84 + 1) = w := by
    funext j
    by_cases c : j < 2550
    · rw [b3 j c, r3 j c]
    · rw [b4 j (by omega), r1 j (by omega)]
  have h12 := hG.le12
  have h40 := hG.le40
  refine ⟨s, b1, b2, sw, ?_, ?_⟩
  · have hc : Cor n nd 26 0 0 := by simp [Cor]
    have hr := c5.put (v := st) hG.le12 hG.le40 hc
    rw [show A + 40 + 26 = A + 66 by omega] at hr
    refine ⟨?_, by rw [wr_w, sw]; exact hr, Or.inr ⟨rfl, ?_, ?_⟩, FrC.rf, FrR.rf⟩
    · rw [wr_w, sw]; exact hG.fr (fun j hj => upd_ne (by omega))
    · unfold BkN; rw [wr_row (by omega)]; exact c6
    · obtain ⟨k, hk, ek⟩ := c7
      exact ⟨k, hk, by rw [wr_w, sw, upd_ne (by decide)]; exact ek⟩
  · rw [wr_w, sw]
    exact c8.fr (fun a ha _ => wr_row (by omega)) (fun j h1 h2 => upd_ne (by omega))
