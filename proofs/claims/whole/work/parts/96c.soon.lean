/-! soonest: the loops over sets. -/
def FS (w : wF) (may : Nat → Int32) (nd s : Nat) : Nat := upN (hN w may (nI s) nd) (pcn s 30)
theorem upN_le {h c : Nat} (hc : 0 < c) : upN h c ≤ h := by
  have := up_mono (h := h) (c := c) (c' := 1) (by decide) hc
  unfold upN at this ⊢
  rw [Nat.add_sub_cancel, Nat.div_one] at this
  exact this
section SP
variable {W M B n nd : Nat} {σ0 ρ0 σ ρ : Sig}
theorem pow12 : ∀ n, n ≤ 12 → ((1 : Int32) <<< (nI n &&& 31)) = nI (2 ^ n) := by decide +kernel
theorem cl_best (h : Z W M B n nd σ0 ρ0 σ ρ) {may : Nat → Int32} (hm : ∀ d, d < nd → σ (W + 20) d = may d) (t : Nat) (ht : t ≤ 8000) : ∃ R, X3_bestHours_b13 (W + 12) σ FU (nI n) (nI t) 1 = some (nI R) ∧ t ≤ R ∧ (∀ j, 1 ≤ j → j < 2 ^ n → FS (ρ (B + 1)) may nd j ≤ R) ∧ (R = t ∨ ∃ j, 1 ≤ j ∧ j < 2 ^ n ∧ R = FS (ρ (B + 1)) may nd j) := by
  have h12 := h.n12
  have h40 := h.d40
  have p1 : 1 ≤ 2 ^ n := Nat.one_le_two_pow
  have p3 : 2 ^ n ≤ 2 ^ 12 := Nat.pow_le_pow_right (by decide) h12
  have key := fuel_up (m := 2 ^ n) (C := fun fu s => 1 ≤ s → ∀ t, t ≤ 8000 → ∃ R, X3_bestHours_b13 (W + 12) σ fu (nI n) (nI t) (nI s) = some (nI R) ∧ t ≤ R ∧ (∀ j, s ≤ j → j < 2 ^ n → FS (ρ (B + 1)) may nd j ≤ R) ∧ (R = t ∨ ∃ j, s ≤ j ∧ j < 2 ^ n ∧ R = FS (ρ (B + 1)) may nd j)) (fun fu hs t ht => ⟨t, ?_, Nat.le_refl _, fun j h1 h2 => absurd h1 (by omega), Or.inl rfl⟩) (fun fu s hs ih h1 t ht => ?_) (2 ^ n - 1) 1 FU (by omega) (by unfold FU; omega)
  · exact key (Nat.le_refl _) t ht
  · unfold X3_bestHours_b13; rw [pow12 n h12, if_pos (Int32.le_refl _)]
  · have hle := hN_le (may := may) (S := nI s) h.g nd (Nat.le_refl _)
    have hpc := pc_pos (s := s) (by omega) (by omega)
    have hpl := pcn_le s 30
    have hfs : FS (ρ (B + 1)) may nd s ≤ 8000 := Nat.le_trans (upN_le hpc) (by omega)
    unfold X3_bestHours_b13
    rw [pow12 n h12, if_neg (nI_ge hs (by omega)), cl_only h hm, bsm, bc_ok (by omega), bsm, (cl_up (by omega) hpc hpl σ).1, bsm, nI_s, mmax_nI (by omega) (show upN (hN (ρ (B + 1)) may (nI s) nd) (pcn s 30) < 2 ^ 31 from by unfold FS at hfs; omega)]
    have hmx : max t (upN (hN (ρ (B + 1)) may (nI s) nd) (pcn s 30)) ≤ 8000 := by unfold FS at hfs; omega
    obtain ⟨R, e1, e2, e3, e4⟩ := ih (by omega) (max t (upN (hN (ρ (B + 1)) may (nI s) nd) (pcn s 30))) hmx
    refine ⟨R, e1, by omega, fun j j1 j2 => ?_, ?_⟩
    · by_cases e : j = s
      · subst e; unfold FS; omega
      · exact e3 j (by omega) j2
    · rcases e4 with e4 | ⟨j, j1, j2, j3⟩
      · by_cases c : upN (hN (ρ (B + 1)) may (nI s) nd) (pcn s 30) ≤ t
        · exact Or.inl (by omega)
        · exact Or.inr ⟨s, Nat.le_refl _, hs, by unfold FS; omega⟩
      · exact Or.inr ⟨j, by omega, j2, j3⟩
theorem re_soon0 (h : Z W M B n nd σ0 ρ0 σ ρ) {may : Nat → Int32} (hm : ∀ d, d < nd → ¬ ρ (B + 1) (230 + 8 * d + 2) = 0 → ρ (B + 9) d = may d) {a : Nat} (ha : a < 2 ^ n) (t : Nat) (ht : t ≤ 8000) : ∃ R, X12_soonest_b50 B FU 0 (nI a) (nI t) 1 ρ = some (nI R, ρ) ∧ t ≤ R ∧ (∀ j, 1 ≤ j → j ≤ a → (∀ i, bt (nI j) i = true → bt (nI a) i = true) → FS (ρ (B + 1)) may nd j ≤ R) ∧ (R = t ∨ ∃ j, 1 ≤ j ∧ j ≤ a ∧ R = FS (ρ (B + 1)) may nd j) := by
  have h12 := h.n12
  have h40 := h.d40
  have p3 : 2 ^ n ≤ 2 ^ 12 := Nat.pow_le_pow_right (by decide) h12
  have key := fuel_up (m := a + 1) (C := fun fu s => 1 ≤ s → ∀ t, t ≤ 8000 → ∃ R, X12_soonest_b50 B fu 0 (nI a) (nI t) (nI s) ρ = some (nI R, ρ) ∧ t ≤ R ∧ (∀ j, s ≤ j → j ≤ a → (∀ i, bt (nI j) i = true → bt (nI a) i = true) → FS (ρ (B + 1)) may nd j ≤ R) ∧ (R = t ∨ ∃ j, s ≤ j ∧ j ≤ a ∧ R = FS (ρ (B + 1)) may nd j)) (fun fu hs t ht => ⟨t, ?_, Nat.le_refl _, fun j h1 h2 => absurd h1 (by omega), Or.inl rfl⟩) (fun fu s hs ih h1 t ht => ?_) a 1 FU (by omega) (by unfold FU; omega)
  · exact key (Nat.le_refl _) t ht
  · unfold X12_soonest_b50; rw [if_pos (nI_lt (by omega) (by omega))]
  · have hle := hN_le (may := may) (S := nI s) h.g nd (Nat.le_refl _)
    have hpc := pc_pos (s := s) (by omega) (by omega)
    have hpl := pcn_le s 30
    have hfs : FS (ρ (B + 1)) may nd s ≤ 8000 := Nat.le_trans (upN_le hpc) (by omega)
    unfold X12_soonest_b50
    rw [if_neg (nI_nlt (by omega) (by omega)), nI_s]
    by_cases cs : (nI s &&& (nI a ^^^ (-1))) = 0
    · rw [if_pos cs, if_neg (show ¬ (0 : Int32) = 1 by decide)]
      unfold X12_soonest_b79
      rw [re_within h hm, bsm, re_count (by omega), bsm, (cl_up (by omega) hpc hpl ρ).2, bsm, nI_s, show upN (hN (ρ (B + 1)) may (nI s) nd) (pcn s 30) = FS (ρ (B + 1)) may nd s from rfl]
      have go : ∀ t', t' ≤ 8000 → t' = max t (FS (ρ (B + 1)) may nd s) → ∃ R, X12_soonest_b50 B fu 0 (nI a) (nI t') (nI (s + 1)) ρ = some (nI R, ρ) ∧ t ≤ R ∧ (∀ j, s ≤ j → j ≤ a → (∀ i, bt (nI j) i = true → bt (nI a) i = true) → FS (ρ (B + 1)) may nd j ≤ R) ∧ (R = t ∨ ∃ j, s ≤ j ∧ j ≤ a ∧ R = FS (ρ (B + 1)) may nd j) := by
        intro t' h8 et
        obtain ⟨R, e1, e2, e3, e4⟩ := ih (by omega) t' h8
        refine ⟨R, e1, by omega, fun j j1 j2 j3 => ?_, ?_⟩
        · by_cases e : j = s
          · subst e; omega
          · exact e3 j (by omega) j2 j3
        · rcases e4 with e4 | ⟨j, j1, j2, j3⟩
          · by_cases c : FS (ρ (B + 1)) may nd s ≤ t
            · exact Or.inl (by omega)
            · exact Or.inr ⟨s, Nat.le_refl _, by omega, by omega⟩
          · exact Or.inr ⟨j, by omega, j2, j3⟩
      by_cases c : FS (ρ (B + 1)) may nd s ≤ t
      · rw [if_pos ((nI_leI (by omega) (by omega)).mpr c)]; exact go t ht (by omega)
      · rw [if_neg (fun z => c ((nI_leI (by omega) (by omega)).mp z))]; exact go _ hfs (by omega)
    · rw [if_neg cs]
      obtain ⟨R, e1, e2, e3, e4⟩ := ih (by omega) t ht
      refine ⟨R, e1, e2, fun j j1 j2 j3 => ?_, e4.imp id (fun ⟨j, j1, j2, j3⟩ => ⟨j, by omega, j2, j3⟩)⟩
      by_cases e : j = s
      · subst e; exact absurd (sub_bits.mpr j3) cs
      · exact e3 j (by omega) j2 j3
theorem re_soon1 (h : Z W M B n nd σ0 ρ0 σ ρ) {may : Nat → Int32} (hm : ∀ d, d < nd → ¬ ρ (B + 1) (230 + 8 * d + 2) = 0 → ρ (B + 9) d = may d) {a : Nat} (ha : a < 2 ^ n) (ha1 : 1 ≤ a) (t : Nat) (ht : t ≤ 8000) : X12_soonest_b50 B FU 1 (nI a) (nI t) 1 ρ = some (nI (max t (FS (ρ (B + 1)) may nd a)), ρ) := by
  have h12 := h.n12
  have h40 := h.d40
  have p3 : 2 ^ n ≤ 2 ^ 12 := Nat.pow_le_pow_right (by decide) h12
  have hle := hN_le (may := may) (S := nI a) h.g nd (Nat.le_refl _)
  have hpc := pc_pos (s := a) (by omega) (by omega)
  have hpl := pcn_le a 30
  have hfs : FS (ρ (B + 1)) may nd a ≤ 8000 := Nat.le_trans (upN_le hpc) (by omega)
  have key := fuel_up (m := a + 1) (C := fun fu s => 1 ≤ s → ∀ t', (if s ≤ a then t' = t else t' = max t (FS (ρ (B + 1)) may nd a)) → X12_soonest_b50 B fu 1 (nI a) (nI t') (nI s) ρ = some (nI (max t (FS (ρ (B + 1)) may nd a)), ρ)) (fun fu h2 t' et => ?_) (fun fu s hs ih h2 t' et => ?_) a 1 FU (by omega) (by unfold FU; omega)
  · exact key (Nat.le_refl _) t (by rw [if_pos ha1])
  · rw [if_neg (by omega)] at et
    unfold X12_soonest_b50; rw [if_pos (nI_lt (by omega) (by omega)), et]
  · rw [if_pos (by omega)] at et
    subst et
    unfold X12_soonest_b50
    rw [if_neg (nI_nlt (by omega) (by omega)), nI_s, if_pos rfl]
    by_cases e : s = a
    · subst e
      rw [if_pos (sub_bits.mpr (fun i hi => hi)), if_pos rfl]
      unfold X12_soonest_b79
      rw [re_within h hm, bsm, re_count (by omega), bsm, (cl_up (by omega) hpc hpl ρ).2, bsm, nI_s, show upN (hN (ρ (B + 1)) may (nI s) nd) (pcn s 30) = FS (ρ (B + 1)) may nd s from rfl]
      by_cases c : FS (ρ (B + 1)) may nd s ≤ t'
      · rw [if_pos ((nI_leI (by omega) (by omega)).mpr c)]
        exact ih (by omega) t' (by rw [if_neg (by omega)]; omega)
      · rw [if_neg (fun z => c ((nI_leI (by omega) (by omega)).mp z))]
        exact ih (by omega) _ (by rw [if_neg (by omega)]; omega)
    · rw [if_neg (fun z => absurd (nI_inj (by omega) (by omega) z) e), ite_self]
      exact ih (by omega) t' (by rw [if_pos (by omega)])
theorem cl_bound (h : Z W M B n nd σ0 ρ0 σ ρ) {may : Nat → Int32} (hm : ∀ d, d < nd → σ (W + 20) d = may d) {a : Nat} (ha : allV (ρ (B + 1)) may nd = nI a) (ha2 : a < 4096) : X3_boundHours_f (W + 12) σ = some (mmax (nI (gN (ρ (B + 1)) nd)) (if a = 0 then 0 else nI (upN (tN (ρ (B + 1)) nd) (pcn a 30)))) := by
  have h40 := h.d40
  have hle := tN_le h.g nd (Nat.le_refl _)
  refine fuel_up (m := nd) (C := fun fu d => X3_boundHours_b4 (W + 12) σ fu (allV (ρ (B + 1)) may d) (nI d) = some (mmax (nI (gN (ρ (B + 1)) nd)) (if a = 0 then 0 else nI (upN (tN (ρ (B + 1)) nd) (pcn a 30))))) (fun fu => ?_) (fun fu d hd ih => ?_) nd 0 FU (by omega) (by unfold FU; omega)
  · unfold X3_boundHours_b4
    rw [h.cd, if_pos (Int32.le_refl _), cl_great h, bsm, cl_all h, bsm, ha, bc_ok ha2, bsm, sm_tN h.g nd (Nat.le_refl _)]
    by_cases c : a = 0
    · subst c
      rw [if_pos rfl, show pcn 0 30 = 0 by decide]
      unfold X11_upwards_f
      rw [if_pos (show nI 0 ≤ 0 from Int32.le_refl _), bsm]
    · rw [if_neg c, (cl_up (by omega) (pc_pos ha2 (by omega)) (pcn_le a 30) σ).1, bsm]
  · obtain ⟨el, hl⟩ := lfN_is h.g hd
    unfold X3_boundHours_b4
    rw [h.cd, if_neg (nI_ge hd (by omega)), h.d2 hd, bsm, nI_s]
    rw [allV] at ih
    by_cases c0 : ρ (B + 1) (230 + 8 * d + 2) = 0
    · rw [if_pos (by rw [c0]; exact Int32.le_refl _)]; rw [if_pos c0] at ih; exact ih
    · have cz : ¬ ρ (B + 1) (230 + 8 * d + 2) ≤ 0 := by
        rw [el]
        refine nI_nle (Nat.pos_of_ne_zero (fun z => c0 ((left0 h.g hd).mpr z))) (by omega)
      rw [if_neg cz, ldn (by omega) (by decide), bsm, show W + 12 + 8 = W + 20 by omega, hm d hd]; rw [if_neg c0] at ih; exact ih
/-- alone -/
def wkN (w : wF) (p : Nat) : Nat → Nat
  | 0 => 0
  | d + 1 => wkN w p d + (if wkr w d = nI p then lfN w d else 0)
theorem wkN_le {w : wF} (h : Rg w n nd) (p : Nat) : ∀ m, m ≤ nd → wkN w p m ≤ 200 * m
  | 0, _ => by rw [wkN]; omega
  | m + 1, hm => by
    have h1 := wkN_le h p m (by omega)
    have h2 := (lfN_is h (show m < nd by omega)).2
    rw [wkN]; split <;> omega
theorem sm_wkN {w : wF} (h : Rg w n nd) (p : Nat) : ∀ m, m ≤ nd → sm (lfS w 2 (nI p)) m = nI (wkN w p m)
  | 0, _ => rfl
  | m + 1, hm => by
    rw [sm, wkN, sm_wkN h p m (by omega), ← nI_add]
    congr 1
    have e : whoS w 2 m = wkr w m := by unfold whoS; rw [if_neg (by decide), if_neg (by decide)]
    by_cases c : wkr w m = nI p
    · rw [lfS_pos (e.trans c), if_pos c]; exact (lfN_is h (show m < nd by omega)).1
    · rw [lfS_neg (fun z => c (e.symm.trans z)), if_neg c]; rfl
theorem wkN_out {w : wF} (h : Rg w n nd) {p : Nat} (hp : n ≤ p) (hp2 : p < 12) : ∀ m, m ≤ nd → wkN w p m = 0
  | 0, _ => rfl
  | m + 1, hm => by
    obtain ⟨k, hk, e⟩ := wkr_is h (show m < nd by omega)
    rw [wkN, wkN_out h hp hp2 m (by omega), if_neg (fun z => by have := nI_inj (by omega) (by omega) (e.symm.trans z); omega)]
def alN (w : wF) (nd : Nat) : Nat → Nat
  | 0 => 0
  | p + 1 => max (alN w nd p) (wkN w p nd)
theorem alN_le {w : wF} (h : Rg w n nd) : ∀ p, alN w nd p ≤ 200 * nd
  | 0 => by rw [alN]; omega
  | p + 1 => by have := alN_le h p; have := wkN_le h p nd (Nat.le_refl _); rw [alN]; omega
theorem alN_out {w : wF} (h : Rg w n nd) : ∀ x, n + x ≤ 12 → alN w nd (n + x) = alN w nd n
  | 0, _ => rfl
  | x + 1, hx => by
    rw [show n + (x + 1) = (n + x) + 1 by omega, alN, alN_out h x (by omega), wkN_out h (by omega) (by omega) nd (Nat.le_refl _)]; omega
theorem cl_alone (h : Z W M B n nd σ0 ρ0 σ ρ) : ∃ s, X3_aloneHours_f (W + 12) σ = some (nI (alN (ρ (B + 1)) nd n), s) ∧ ∀ a, a ≠ W + 21 → a ≠ W + 22 → s a = σ a := by
  have h40 := h.d40
  have h12 := h.n12
  obtain ⟨s, t1, t2, t3, -⟩ := cl_tally h
  refine ⟨s, ?_, t2⟩
  unfold X3_aloneHours_f
  rw [t1, bsm]
  have e12 : alN (ρ (B + 1)) nd 12 = alN (ρ (B + 1)) nd n := by
    have := alN_out h.g (12 - n) (by omega)
    rw [show n + (12 - n) = 12 by omega] at this; exact this
  refine fuel_up (m := 12) (C := fun fu p => X3_aloneHours_b8 (W + 12) fu (nI (alN (ρ (B + 1)) nd p)) (nI p) s = some (nI (alN (ρ (B + 1)) nd n), s)) (fun fu => ?_) (fun fu p hp ih => ?_) 12 0 FU (by omega) (by unfold FU; omega)
  · unfold X3_aloneHours_b8; rw [if_pos (show (12 : Int32) ≤ nI 12 from Int32.le_refl _), e12]
  · have a1 := alN_le h.g p
    have a2 := wkN_le h.g p nd (Nat.le_refl _)
    unfold X3_aloneHours_b8
    rw [if_neg (show ¬ (12 : Int32) ≤ nI p from nI_ge (b := 12) hp (by decide)), ldn hp (by decide), bsm, show W + 12 + 9 = W + 21 by omega, t3 p hp, sm_wkN h.g p nd (Nat.le_refl _), mmax_nI (by omega) (by omega), nI_s]
    exact ih
theorem re_alone (h : Z W M B n nd σ0 ρ0 σ ρ) : X12_alone_f B ρ = some (nI (alN (ρ (B + 1)) nd n)) := by
  have h40 := h.d40
  have h12 := h.n12
  refine fuel_up (m := n) (C := fun fu p => X12_alone_b4 B ρ fu (nI (alN (ρ (B + 1)) nd p)) (nI p) = some (nI (alN (ρ (B + 1)) nd n))) (fun fu => ?_) (fun fu p hp ih => ?_) n 0 FU (by omega) (by unfold FU; omega)
  · unfold X12_alone_b4; rw [LW.2.2.2.2.2.2.2.2.2.1, bsm, h.wn, if_pos (Int32.le_refl _)]
  · have a1 := alN_le h.g p
    have a2 := wkN_le h.g p nd (Nat.le_refl _)
    unfold X12_alone_b4
    rw [LW.2.2.2.2.2.2.2.2.2.1, bsm, h.wn, if_neg (nI_ge hp (by omega)), re_left h.d40 h.wd, bsm, bsm, sm_wkN h.g p nd (Nat.le_refl _), nI_s]
    rw [alN] at ih
    by_cases c : wkN (ρ (B + 1)) p nd ≤ alN (ρ (B + 1)) nd p
    · rw [if_pos ((nI_leI (by omega) (by omega)).mpr c)]; rw [show max (alN (ρ (B + 1)) nd p) (wkN (ρ (B + 1)) p nd) = alN (ρ (B + 1)) nd p by omega] at ih; exact ih
    · rw [if_neg (fun z => c ((nI_leI (by omega) (by omega)).mp z))]; rw [show max (alN (ρ (B + 1)) nd p) (wkN (ρ (B + 1)) p nd) = wkN (ρ (B + 1)) p nd by omega] at ih; exact ih
end SP
