/-! A QUARTER goes by, on both sides. -/
/-- the debt that one keeps quiet for -/
def kpt (w : wF) (p : Int32) : Nat → Option Nat
  | 0 => none
  | d + 1 => if w (230 + 8 * d + 2) = 0 ∨ ¬ wkr w d = p then kpt w p d else match kpt w p d with
    | none => some d
    | some o => if (w 6 = 1 ∧ w (230 + 8 * d + 2) < w (230 + 8 * o + 2)) ∨ (w 6 = 2 ∧ w (230 + 8 * o + 2) < w (230 + 8 * d + 2)) then some d else some o
def oN : Option Nat → Int32
  | none => -1
  | some d => nI d
theorem kpt_no {w : wF} {p : Int32} {d : Nat} (h : w (230 + 8 * d + 2) = 0 ∨ ¬ wkr w d = p) : kpt w p (d + 1) = kpt w p d := by rw [kpt, if_pos h]
theorem kpt_new {w : wF} {p : Int32} {d : Nat} (h : ¬ w (230 + 8 * d + 2) = 0) (h2 : wkr w d = p) (h3 : kpt w p d = none) : kpt w p (d + 1) = some d := by rw [kpt, if_neg (fun q => q.elim h (fun q => q h2)), h3]
theorem kpt_yes {w : wF} {p : Int32} {d o : Nat} (h : ¬ w (230 + 8 * d + 2) = 0) (h2 : wkr w d = p) (h3 : kpt w p d = some o) (h4 : (w 6 = 1 ∧ w (230 + 8 * d + 2) < w (230 + 8 * o + 2)) ∨ (w 6 = 2 ∧ w (230 + 8 * o + 2) < w (230 + 8 * d + 2))) : kpt w p (d + 1) = some d := by
  rw [kpt, if_neg (fun q => q.elim h (fun q => q h2)), h3]; exact if_pos h4
theorem kpt_keep {w : wF} {p : Int32} {d o : Nat} (h : ¬ w (230 + 8 * d + 2) = 0) (h2 : wkr w d = p) (h3 : kpt w p d = some o) (h4 : ¬ ((w 6 = 1 ∧ w (230 + 8 * d + 2) < w (230 + 8 * o + 2)) ∨ (w 6 = 2 ∧ w (230 + 8 * o + 2) < w (230 + 8 * d + 2)))) : kpt w p (d + 1) = some o := by
  rw [kpt, if_neg (fun q => q.elim h (fun q => q h2)), h3]; exact if_neg h4
theorem kpt_is {w : wF} {p : Int32} : ∀ (m o : Nat), kpt w p m = some o → o < m ∧ wkr w o = p ∧ ¬ w (230 + 8 * o + 2) = 0
  | 0, o, h => by cases h
  | m + 1, o, h => by
    by_cases c : w (230 + 8 * m + 2) = 0 ∨ ¬ wkr w m = p
    · rw [kpt_no c] at h
      obtain ⟨a, b⟩ := kpt_is m o h
      exact ⟨by omega, b⟩
    · have c1 : ¬ w (230 + 8 * m + 2) = 0 := fun q => c (Or.inl q)
      have c2 : wkr w m = p := Classical.byContradiction (fun q => c (Or.inr q))
      have fin : o = m → o < m + 1 ∧ wkr w o = p ∧ ¬ w (230 + 8 * o + 2) = 0 := fun e => by subst e; exact ⟨by omega, c2, c1⟩
      cases h3 : kpt w p m with
      | none => rw [kpt_new c1 c2 h3] at h; exact fin (Option.some.inj h).symm
      | some x =>
        by_cases c4 : (w 6 = 1 ∧ w (230 + 8 * m + 2) < w (230 + 8 * x + 2)) ∨ (w 6 = 2 ∧ w (230 + 8 * x + 2) < w (230 + 8 * m + 2))
        · rw [kpt_yes c1 c2 h3 c4] at h; exact fin (Option.some.inj h).symm
        · rw [kpt_keep c1 c2 h3 c4] at h
          obtain rfl := Option.some.inj h
          obtain ⟨a, b⟩ := kpt_is m x h3
          exact ⟨by omega, b⟩
theorem kpt_eq {w w' : wF} {p : Int32} (h6 : w' 6 = w 6) : ∀ (m : Nat), (∀ x, x < m → wkr w' x = wkr w x) → (∀ x, x < m → wkr w x = p → w' (230 + 8 * x + 2) = w (230 + 8 * x + 2)) → kpt w' p m = kpt w p m
  | 0, _, _ => rfl
  | m + 1, h1, h2 => by
    have ih := kpt_eq (p := p) h6 m (fun x hx => h1 x (by omega)) (fun x hx => h2 x (by omega))
    have em := h1 m (by omega)
    by_cases c2 : wkr w m = p
    · have el := h2 m (by omega) c2
      cases h3 : kpt w p m with
      | none =>
        rw [h3] at ih
        by_cases c1 : w (230 + 8 * m + 2) = 0
        · rw [kpt_no (Or.inl c1), kpt_no (Or.inl (el.trans c1)), ih, h3]
        · rw [kpt_new c1 c2 h3, kpt_new (by rw [el]; exact c1) (em.trans c2) ih]
      | some o =>
        rw [h3] at ih
        by_cases c1 : w (230 + 8 * m + 2) = 0
        · rw [kpt_no (Or.inl c1), kpt_no (Or.inl (el.trans c1)), ih, h3]
        · have eo := h2 o (by have := (kpt_is m o h3).1; omega) (kpt_is m o h3).2.1
          by_cases c4 : (w 6 = 1 ∧ w (230 + 8 * m + 2) < w (230 + 8 * o + 2)) ∨ (w 6 = 2 ∧ w (230 + 8 * o + 2) < w (230 + 8 * m + 2))
          · rw [kpt_yes c1 c2 h3 c4, kpt_yes (by rw [el]; exact c1) (em.trans c2) ih (by rw [h6, el, eo]; exact c4)]
          · rw [kpt_keep c1 c2 h3 c4, kpt_keep (by rw [el]; exact c1) (em.trans c2) ih (by rw [h6, el, eo]; exact c4)]
    · rw [kpt_no (Or.inr c2), kpt_no (Or.inr (fun z => c2 (em.symm.trans z))), ih]
theorem oN_m1 {o : Option Nat} (h : ∀ x, o = some x → x < 2 ^ 31) : oN o = -1 ↔ o = none := by
  cases o with
  | none => exact ⟨fun _ => rfl, fun _ => rfl⟩
  | some x => exact ⟨fun q => absurd q (ne_m1 (h x rfl)), fun q => nomatch q⟩
section PS
variable {τ : Tau} {A nx : Nat} {kp : Option Nat} {W M B n nd : Nat} {σ0 ρ0 σ ρ : Sig}
theorem re_kept (h40 : nd ≤ 40) (hw : ρ (B + 1) 10 = nI nd) (p : Int32) : X12_keptFor_f B p ρ = some (oN (kpt (ρ (B + 1)) p nd)) := by
  refine fuel_up (m := nd) (C := fun fu d => X12_keptFor_b4 B ρ fu p (oN (kpt (ρ (B + 1)) p d)) (nI d) = some (oN (kpt (ρ (B + 1)) p nd))) (fun fu => ?_) (fun fu d hd ih => ?_) nd 0 FU (by omega) (by unfold FU; omega)
  · unfold X12_keptFor_b4; rw [LW.2.2.2.2.2.2.2.2.2.2.1, bsm, hw, if_pos (Int32.le_refl _)]
  · unfold X12_keptFor_b4
    have hd' : d < 40 := by omega
    rw [LW.2.2.2.2.2.2.2.2.2.2.1, bsm, hw, if_neg (nI_ge hd (by omega)), rD2 hd', bsm, nI_s, re_worker hd', bsm]
    by_cases c1 : ρ (B + 1) (230 + 8 * d + 2) = 0
    · rw [if_pos c1]; rw [kpt_no (Or.inl c1)] at ih; exact ih
    · rw [if_neg c1]
      by_cases c2 : wkr (ρ (B + 1)) d = p
      · rw [if_pos c2]
        cases h3 : kpt (ρ (B + 1)) p d with
        | none => rw [kpt_new c1 c2 h3] at ih; rw [show oN none = -1 from rfl, if_pos rfl]; exact ih
        | some o =>
          obtain ⟨ho, -⟩ := kpt_is d o h3
          have ho' : o < 40 := by omega
          unfold X12_keptFor_b67
          rw [show oN (some o) = nI o from rfl, if_neg (ne_m1 (by omega)), LW.2.2.2.2.2.2.1, bsm, bsm, rD2 ho', bsm, bsm, nI_s]
          by_cases d1 : ρ (B + 1) 6 = 1
          · rw [if_pos d1]
            by_cases d2 : ρ (B + 1) (230 + 8 * d + 2) < ρ (B + 1) (230 + 8 * o + 2)
            · rw [if_pos d2]; rw [kpt_yes c1 c2 h3 (Or.inl ⟨d1, d2⟩)] at ih; exact ih
            · rw [if_neg d2, if_neg (by rw [d1]; decide)]
              rw [kpt_keep c1 c2 h3 (fun q => q.elim (fun q => d2 q.2) (fun q => absurd (d1.symm.trans q.1) (by decide)))] at ih; exact ih
          · rw [if_neg d1]
            by_cases d3 : ρ (B + 1) 6 = 2
            · rw [if_pos d3, rD2 hd', bsm, bsm]
              by_cases d4 : ρ (B + 1) (230 + 8 * d + 2) ≤ ρ (B + 1) (230 + 8 * o + 2)
              · rw [if_pos d4]; rw [kpt_keep c1 c2 h3 (fun q => q.elim (fun q => d1 q.1) (fun q => absurd q.2 (Int32.not_lt.mpr d4)))] at ih; exact ih
              · rw [if_neg d4]; rw [kpt_yes c1 c2 h3 (Or.inr ⟨d3, Int32.not_le.mp d4⟩)] at ih; exact ih
            · rw [if_neg d3]; rw [kpt_keep c1 c2 h3 (fun q => q.elim (fun q => d1 q.1) (fun q => d3 q.1))] at ih; exact ih
      · rw [if_neg c2]; rw [kpt_no (Or.inr c2)] at ih; exact ih
theorem cl_choose (h : Z W M B n nd σ0 ρ0 σ ρ) : ∃ s, X10_chooseDebts_f W M σ = some s ∧ (∀ a, a ≠ W + 32 → s a = σ a) ∧ ∀ p, p < n → s (W + 32) p = oN (kpt (ρ (B + 1)) (nI p) nd) := by
  have h40 := h.d40
  have h12 := h.n12
  obtain ⟨s1, f1, f2, f3⟩ := fill_ok (σ := σ) (r := W + 32) (N := 12) (v := -1) (by decide)
  unfold X10_chooseDebts_f
  rw [f1, bsm]
  have key := fuel_up (m := nd) (C := fun fu d => ∀ s : Sig, (∀ a, a ≠ W + 32 → s a = σ a) → (∀ p, p < n → s (W + 32) p = oN (kpt (ρ (B + 1)) (nI p) d)) → ∃ s', X10_chooseDebts_b10 W M fu (nI d) s = some s' ∧ (∀ a, a ≠ W + 32 → s' a = σ a) ∧ ∀ p, p < n → s' (W + 32) p = oN (kpt (ρ (B + 1)) (nI p) nd)) (fun fu s e1 e2 => ?_) (fun fu d hd ih s e1 e2 => ?_) nd 0 FU (by omega) (by unfold FU; omega)
  · rw [nI_0] at key; exact key s1 f2 (fun p hp => f3 p (by omega))
  · refine ⟨s, ?_, e1, e2⟩
    unfold X10_chooseDebts_b10
    rw [e1 _ (by omega), h.cd, if_pos (Int32.le_refl _)]
  · have hz : Z W M B n nd σ0 ρ0 s ρ := h.scr (fun a _ _ _ _ _ h6 => e1 a h6)
    obtain ⟨k, hk, ek⟩ := wkr_is h.g hd
    obtain ⟨-, -, ⟨l, hl, el⟩, -⟩ := h.g.dok hd
    obtain ⟨o6, ho6, e6⟩ := h.g.2.2.2.2.2.1
    unfold X10_chooseDebts_b10
    rw [hz.cd, if_neg (nI_ge hd (by omega)), cl_worker hz hd, bsm, hz.d2 hd, bsm, nI_s]
    -- others than k keep what they have
    have oth : ∀ p, p < n → p ≠ k → kpt (ρ (B + 1)) (nI p) (d + 1) = kpt (ρ (B + 1)) (nI p) d := fun p hp hne => kpt_no (Or.inr (fun z => hne (nI_inj (by omega) (by omega) (ek.symm.trans z)).symm))
    by_cases c1 : ρ (B + 1) (230 + 8 * d + 2) ≤ 0
    · rw [if_pos c1]
      have c0 : ρ (B + 1) (230 + 8 * d + 2) = 0 := by
        rw [el] at c1 ⊢
        rcases Nat.eq_zero_or_pos l with z | z
        · rw [z]; rfl
        · exact absurd c1 (nI_nle z (by omega))
      exact ih s e1 (fun p hp => by rw [kpt_no (Or.inl c0)]; exact e2 p hp)
    · rw [if_neg c1]
      have c0 : ¬ ρ (B + 1) (230 + 8 * d + 2) = 0 := fun z => c1 (by rw [z]; exact Int32.le_refl _)
      rw [ek, has4_in h12 hz.cn hk, bsm, if_neg (by decide), ldn (by omega) (by decide), bsm, e2 k hk]
      have put : kpt (ρ (B + 1)) (nI k) (d + 1) = some d → ∃ s', X10_chooseDebts_b84 W M (X10_chooseDebts_b10 W M fu) (nI d) (nI k) s = some s' ∧ (∀ a, a ≠ W + 32 → s' a = σ a) ∧ ∀ p, p < n → s' (W + 32) p = oN (kpt (ρ (B + 1)) (nI p) nd) := by
        intro hq
        unfold X10_chooseDebts_b84
        rw [stn (by omega) (by decide), bsm, nI_s]
        refine ih _ (fun a ha => by rw [wr_row ha]; exact e1 a ha) (fun p hp => ?_)
        by_cases q : p = k
        · subst q; rw [wr_v, hq]; rfl
        · rw [wr_o q, oth p hp q]; exact e2 p hp
      have keep : kpt (ρ (B + 1)) (nI k) (d + 1) = kpt (ρ (B + 1)) (nI k) d → ∃ s', X10_chooseDebts_b10 W M fu (nI (d + 1)) s = some s' ∧ (∀ a, a ≠ W + 32 → s' a = σ a) ∧ ∀ p, p < n → s' (W + 32) p = oN (kpt (ρ (B + 1)) (nI p) nd) := by
        intro hq
        refine ih s e1 (fun p hp => ?_)
        by_cases q : p = k
        · subst q; rw [hq]; exact e2 _ hp
        · rw [oth p hp q]; exact e2 p hp
      cases h3 : kpt (ρ (B + 1)) (nI k) d with
      | none => rw [show oN none = -1 from rfl, if_pos rfl]; exact put (kpt_new c0 ek h3)
      | some o =>
        obtain ⟨ho, -⟩ := kpt_is d o h3
        rw [show oN (some o) = nI o from rfl, if_neg (ne_m1 (by omega)), hz.sca.2.2.2.1]
        rw [h3] at keep
        unfold X3_goesAhead_f
        rw [hz.d2 hd, hz.d2 (show o < nd by omega)]
        simp only [bsm]
        have h06 : o6 = 0 ∨ o6 = 1 ∨ o6 = 2 := by omega
        rcases h06 with rfl | rfl | rfl
        · have e6 : ρ (B + 1) 6 = 0 := e6
          rw [e6, if_pos rfl, bsm, if_pos rfl]
          exact keep (kpt_keep c0 ek h3 (fun q => q.elim (fun q => absurd (e6.symm.trans q.1) (by decide)) (fun q => absurd (e6.symm.trans q.1) (by decide))))
        · have e6 : ρ (B + 1) 6 = 1 := e6
          rw [e6, if_neg (by decide), if_pos rfl]
          by_cases d2 : ρ (B + 1) (230 + 8 * o + 2) ≤ ρ (B + 1) (230 + 8 * d + 2)
          · rw [if_pos d2, bsm, if_pos rfl]
            exact keep (kpt_keep c0 ek h3 (fun q => q.elim (fun q => absurd q.2 (Int32.not_lt.mpr d2)) (fun q => absurd (e6.symm.trans q.1) (by decide))))
          · rw [if_neg d2, bsm, if_neg (by decide)]
            exact put (kpt_yes c0 ek h3 (Or.inl ⟨e6, Int32.not_le.mp d2⟩))
        · have e6 : ρ (B + 1) 6 = 2 := e6
          rw [e6, if_neg (by decide), if_neg (by decide)]
          by_cases d2 : ρ (B + 1) (230 + 8 * d + 2) ≤ ρ (B + 1) (230 + 8 * o + 2)
          · rw [if_pos d2, bsm, if_pos rfl]
            exact keep (kpt_keep c0 ek h3 (fun q => q.elim (fun q => absurd (e6.symm.trans q.1) (by decide)) (fun q => absurd q.2 (Int32.not_lt.mpr d2))))
          · rw [if_neg d2, bsm, if_neg (by decide)]
            exact put (kpt_yes c0 ek h3 (Or.inr ⟨e6, Int32.not_le.mp d2⟩))
theorem goon_two (h : Z W M B n nd σ0 ρ0 σ ρ) : Two (X10_pass_b84 τ W M σ) (X12_aQuarter_b132 B ρ) (fun s r => Z W M B n nd σ0 ρ0 s r ∧ ∀ j, j ≠ 1 → j ≠ 2 → r (B + 1) j = ρ (B + 1) j) := by
  obtain ⟨q, hq, eq, -⟩ := h.hr
  have hc : Cor n nd 26 2 2 := by simp [Cor]
  have es : σ (W + 26) 2 = nI q := (h.at hc).trans eq
  have gq : ∀ v : Int32, upTo v 95 → Rg (upd (ρ (B + 1)) 2 v) n nd := by
    intro v hv
    have g := h.g
    have h12 := g.le12
    have h40 := g.le40
    refine ⟨g.1.fr (fun j hj => upd_ne (by omega)), g.2.1.fr (Nat.le_refl _) (fun j hj => upd_ne (by omega)), ?_⟩
    obtain ⟨h1, h2, h3, h4, h5, h6, h7, h8⟩ := g.2.2
    exact ⟨fun t ht => by rw [upd_ne (by omega)]; exact h1 t ht, by rw [upd_ne (by decide)]; exact h2, by rw [upd_ne (by decide)]; exact h3, by rw [upd_ne (by decide)]; exact h4, by rw [upd_ne (by decide)]; exact h5, by rw [upd_ne (by decide)]; exact h6, fun j hj => by rw [upd_ne (by omega)]; exact h7 j hj, by rw [upd_eq]; exact hv⟩
  unfold X10_pass_b84 X8_goOn_f X12_aQuarter_b132 pI
  simp only [bsm, wr_v, wr_wr, es, nI_s, LW, SW, eq]
  by_cases c : q + 1 < 96
  · rw [if_pos (show nI (q + 1) < 96 from nI_lt (b := 96) c (by decide)), if_neg (show ¬ (96 : Int32) ≤ nI (q + 1) from nI_ge (b := 96) c (by decide)), bsm]
    exact two_some ⟨h.put hc (gq _ ⟨q + 1, by omega, rfl⟩), fun j h1 h2 => wr_o h2⟩
  · rw [if_neg (show ¬ nI (q + 1) < 96 from nI_nlt (b := 96) (by omega) (by omega)), if_pos (show (96 : Int32) ≤ nI (q + 1) from nI_le (a := 96) (by omega) (by omega)), bsm]
    have h1 := h.put hc (gq 0 ⟨0, by decide, rfl⟩)
    have h2 := h1.put0 (i := 26) (k := 1) (j := 1) (v := wr ρ (B + 1) 2 0 (B + 1) 1 + 1) (by simp [Cor]) (by omega)
    have e1 : wr σ (W + 26) 2 0 (W + 26) 1 = wr ρ (B + 1) 2 0 (B + 1) 1 := h1.sca.2.2.2.2.2.2.1
    rw [e1]
    exact two_some ⟨h2, fun j q1 q2 => by rw [wr_o q1, wr_o q2]⟩
/-- the end of a quarter -/
def PR (W M B n nd : Nat) (σ0 ρ0 ρ s r : Sig) : Prop := Z W M B n nd σ0 ρ0 s r ∧ Cn 12 nd (ρ (B + 1)) (r (B + 1))
theorem goon_cn (h : Z W M B n nd σ0 ρ0 σ ρ) {w : wF} {k : Nat} (hc : Cn k nd w (ρ (B + 1))) : Two (X10_pass_b84 τ W M σ) (X12_aQuarter_b132 B ρ) (fun s r => Z W M B n nd σ0 ρ0 s r ∧ Cn k nd w (r (B + 1))) :=
  two_mono (goon_two h) (fun s r hsr => ⟨hsr.1, (hc.tr (Cn.fr (k := 0) (hsr.2 12 (by decide) (by decide)) (hsr.2 13 (by decide) (by decide)) (fun x hx => hsr.2 _ (by omega) (by omega))))⟩)
theorem ring_two (h : Z W M B n nd σ0 ρ0 σ ρ) {q : Nat} (hq : q < n) (h3 : ρ (B + 1) 3 = nI q) : Two ((X10_ring_f W M (nI q) σ).bind fun s8 => X10_pass_b84 τ W M s8) ((ld 20240 (ρ (B + 1)) ((190 + (3 * nI q)) + 2)).bind fun v14 => if v14 = 1 then ((ld 20240 (ρ (B + 1)) 15).bind fun v17 => (st 20240 ρ (B + 1) 15 (v17 + 1)).bind fun s19 => (ld 20240 (s19 (B + 1)) 3).bind fun v21 => (X12_writes_f B 3 v21 (-1) s19).bind fun s23 => X12_aQuarter_b132 B s23) else (X12_aQuarter_b98 B FU 0 ρ)) (fun s r => Z W M B n nd σ0 ρ0 s r ∧ Cn 12 nd (ρ (B + 1)) (r (B + 1))) := by
  have h12 := h.n12
  have h40 := h.d40
  unfold X10_ring_f
  rw [h.s2 hq, bsm, rN2 (by omega), bsm, bind_if]
  refine two_if Iff.rfl (fun _ _ => ?_) (fun _ _ => ?_)
  · unfold pI
    rw [LW.2.2.2.2.2.2.2.2.2.2.2.2.2.2.2.1, bsm, bsm, SW.2.2.2.2.2.2.2.2.2.2.2.1, bsm, LW.2.2.2.1, bsm, wr_o (by decide), h3, h.sca.2.2.2.2.2.2.2.2.2.2.2.2, bind_ra]
    have h6 := h.pc (k := 6) (v := ρ (B + 1) 15 + 1) (by decide)
    refine two_bind (write_two h6 3 (nI q) (-1)) (fun s r hsr => ?_)
    obtain ⟨z1, z2, z3⟩ := hsr
    rw [bsm]
    refine goon_cn z1 (Cn.fr ?_ ?_ (fun x hx => ?_))
    · rw [z3 12 (by decide) (by decide), wr_o (by decide)]
    · rw [z3 13 (by decide) (by decide), wr_o (by decide)]
    · rw [z3 _ (by omega) (by omega), wr_o (by omega)]
  · obtain ⟨s1, c1, c2, c3⟩ := cl_choose h
    rw [c1, bsm]
    have key := fuel_up (m := n) (C := fun fu c => ∀ σ' ρ' : Sig, Z W M B n nd σ0 ρ0 σ' ρ' → (∀ p, c ≤ p → p < n → σ' (W + 32) p = oN (kpt (ρ' (B + 1)) (nI p) nd)) → Cn c nd (ρ (B + 1)) (ρ' (B + 1)) → Two ((X10_ring_b47 W M fu (nI c) σ').bind fun s8 => X10_pass_b84 τ W M s8) (X12_aQuarter_b98 B fu (nI c) ρ') (fun s r => Z W M B n nd σ0 ρ0 s r ∧ Cn 12 nd (ρ (B + 1)) (r (B + 1)))) (fun fu σ' ρ' hz hk hc => ?_) (fun fu c hc ih σ' ρ' hz hk hcn => ?_) n 0 FU (by omega) (by unfold FU; omega)
    · rw [nI_0] at key
      exact key s1 ρ (h.scr (fun a _ _ _ _ _ h6 => c2 a h6)) (fun p _ hp => c3 p hp) Cn.rf
    · unfold X10_ring_b47 X12_aQuarter_b98
      rw [hz.cn, if_pos (Int32.le_refl _), bsm, LW.2.2.2.2.2.2.2.2.2.1, bsm, hz.wn, if_pos (Int32.le_refl _)]
      exact goon_cn hz (hc.mono (by omega))
    · unfold X10_ring_b47 X12_aQuarter_b98
      rw [hz.cn, if_neg (nI_ge hc (by omega)), LW.2.2.2.2.2.2.2.2.2.1, bsm, hz.wn, if_neg (nI_ge hc (by omega)), ldn (by omega) (by decide), bsm, bsm, hk c (Nat.le_refl _) hc, re_kept h40 hz.wd, bsm, nI_s, bind_if]
      cases h4 : kpt (ρ' (B + 1)) (nI c) nd with
      | none =>
        rw [show oN none = -1 from rfl, if_pos rfl, if_pos rfl]
        exact ih σ' ρ' hz (fun p h1 h2 => hk p (by omega) h2) (hcn.mono (by omega))
      | some d =>
        obtain ⟨hd, hwk, hl⟩ := kpt_is nd d h4
        rw [show oN (some d) = nI d from rfl, if_neg (ne_m1 (by omega)), if_neg (ne_m1 (by omega)), bind_ra]
        refine two_bind (keep_two hz hc hd hl) (fun s r hsr => ?_)
        obtain ⟨z1, z2, z3, z4⟩ := hsr
        refine ih s r z1 (fun p h1 h2 => ?_) (hcn.tr z4)
        rw [z2, hk p (by omega) h2]
        have ewk : ∀ x, x < nd → wkr (r (B + 1)) x = wkr (ρ' (B + 1)) x := fun x hx => by
          unfold wkr
          rw [z3 (230 + 8 * x + 4) (by omega) (by omega) (by omega) (by omega) (by omega) (by omega), z3 (230 + 8 * x) (by omega) (by omega) (by omega) (by omega) (by omega) (by omega)]
        rw [kpt_eq (w' := r (B + 1)) (w := ρ' (B + 1)) (z3 6 (by decide) (by decide) (by decide) (by omega) (by omega) (by omega)) nd ewk (fun x hx hw => z3 _ (by omega) (by omega) (by omega) ?_ (by omega) (by omega))]
        intro e
        have : x = d := by omega
        subst this
        have := nI_inj (by omega) (by omega) (hwk.symm.trans hw)
        omega
theorem pass_two (h : Z W M B n nd σ0 ρ0 σ ρ) (hT : Txs τ σ0 A nx kp W (ρ0 (B + 1))) (hW : A + 5 ≤ W ∧ W + 35 ≤ A + 95) : Two (X10_pass_f τ W M σ) (X12_aQuarter_f B ρ) (fun s r => Z W M B n nd σ0 ρ0 s r ∧ Cn 12 nd (ρ (B + 1)) (r (B + 1))) := by
  have h12 := h.n12
  have h40 := h.d40
  have hT' : Txs τ σ A nx kp W (ρ (B + 1)) := by
    intro k hk
    obtain ⟨t, t1, t2, t3⟩ := hT k hk
    obtain ⟨a1, a2, a3⟩ := id t2
    exact ⟨t, t1, t2, t3.fr hk (fun i hi => h.2.2.2.1 _ (by omega)) (fun j hj _ => h.2.2.2.2.2 j (Or.inl hj))⟩
  have h' : Z W M B n nd σ ρ σ ρ := ⟨h.1, h.2.1, h.2.2.1, FrC.rf, FrR.rf⟩
  have key := fuel_up (m := n) (C := fun fu c => ∀ σ' ρ' : Sig, Y W M B n nd σ ρ σ' ρ' → Two (X10_pass_b19 τ W M fu (nI c) σ') (X12_aQuarter_b2 B fu (nI c) ρ') (fun s r => Z W M B n nd σ ρ s r ∧ Cn 12 nd (ρ (B + 1)) (r (B + 1)))) (fun fu σ' ρ' hy => ?_) (fun fu c hc ih σ' ρ' hy => ?_) n 0 FU (by omega) (by unfold FU; omega)
  · rw [nI_0] at key
    have fin : ∀ σ' : Sig, Y W M B n nd σ ρ σ' ρ → Two (X10_pass_b19 τ W M FU 0 σ') (X12_aQuarter_f B ρ) (fun s r => Z W M B n nd σ0 ρ0 s r ∧ Cn 12 nd (ρ (B + 1)) (r (B + 1))) := fun σ' hy =>
      two_mono (key σ' ρ hy) (fun s r hsr => ⟨⟨hsr.1.1, hsr.1.2.1, hsr.1.2.2.1, h.2.2.2.1.tr hsr.1.2.2.2.1, h.2.2.2.2.tr hsr.1.2.2.2.2⟩, hsr.2⟩)
    unfold X10_pass_f
    rw [cl_isNight h, bsm]
    refine two_il (fun c0 => ?_) (fun c0 => ?_)
    · obtain ⟨s, t1, t2, t3, t4⟩ := cl_tally h'
      rw [t1, bsm]
      exact fin s ⟨h'.scr (fun a _ h2 h3 _ _ _ => t2 a h2 h3), fun _ => ⟨t3, t4⟩, fun _ _ => rfl⟩
    · exact fin σ ⟨h', fun q => absurd q c0, fun _ _ => rfl⟩
  · have hz := hy.1
    have hcn : Cn 0 nd (ρ (B + 1)) (ρ' (B + 1)) := Cn.fr (hy.2.2 12 (by omega)) (hy.2.2 13 (by omega)) (fun x hx => hy.2.2 _ (by omega))
    unfold X10_pass_b19 X12_aQuarter_b2
    rw [hz.cn, if_pos (Int32.le_refl _), LW.2.2.2.2.2.2.2.2.2.1, bsm, hz.wn, if_pos (Int32.le_refl _), LW.2.2.2.1, bsm, hz.sca.1]
    rcases hz.g.2.2.2.1 with e3 | ⟨q, hq, e3⟩
    · rw [e3, has4_out h12 hz.cn (fun p hp => fun z => absurd z.symm (ne_m1 (by omega))), bsm, if_pos rfl, if_pos rfl]
      exact goon_cn hz (hcn.mono (by omega))
    · rw [e3, has4_in h12 hz.cn hq, bsm, if_neg (by decide), if_neg (ne_m1 (by omega)), cl_isFeast hz, bsm, LW.2.1, bsm, re_feast, bsm]
      refine two_if Iff.rfl (fun _ _ => ?_) (fun _ _ => goon_cn hz (hcn.mono (by omega)))
      rw [bsm]
      refine two_mono (ring_two hz hq e3) (fun s r hsr => ⟨hsr.1, ?_⟩)
      exact (hcn.tr hsr.2).mono (by omega)
  · have hz := hy.1
    unfold X10_pass_b19 X12_aQuarter_b2
    rw [hz.cn, if_neg (nI_ge hc (by omega)), LW.2.2.2.2.2.2.2.2.2.1, bsm, hz.wn, if_neg (nI_ge hc (by omega)), nI_s]
    refine two_eq (o' := ((X10_makeNoise_f τ W M (nI c) σ').bind fun s => X10_judgeNoise_f τ W M (nI c) s).bind fun s12 => X10_pass_b19 τ W M fu (nI (c + 1)) s12) ?_ rfl ?_
    · rw [bind_ra]
    · exact two_bind (noise_two hy hT' hW hc) (fun s r hsr => ih s r hsr)
end PS
