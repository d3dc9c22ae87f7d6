/-! THE BOOK, on both sides; who is heard. -/
theorem wr_wr {σ : Sig} {a k : Nat} {u v : Int32} : wr (wr σ a k u) a k v = wr σ a k v := by
  funext b j; unfold wr; split <;> rfl
theorem wr_id {σ : Sig} {a k : Nat} {v : Int32} (h : σ a k = v) : wr σ a k v = σ := by
  funext b j; unfold wr; split
  · next h1 => rw [h1.1, h1.2, h]
  · rfl
theorem wr_v {σ : Sig} {a k : Nat} {v : Int32} : wr σ a k v a k = v := by rw [wr_same, if_pos rfl]
theorem wr_o {σ : Sig} {a k j : Nat} {v : Int32} (h : j ≠ k) : wr σ a k v a j = σ a j := by rw [wr_same, if_neg h]
section BO
variable {τ : Tau} {A nx : Nat} {kp : Option Nat} {W M B n nd : Nat} {σ0 ρ0 σ ρ : Sig}
theorem re_writes {k : Nat} (hk : k ≤ 400) (h11 : ρ (B + 1) 11 = nI k) (a b c : Int32) : ∃ r, X12_writes_f B a b c ρ = some r ∧ (∀ x, x ≠ B + 1 → r x = ρ x) ∧ (∀ j, j ≠ 11 → (j < 550 + 5 * k ∨ 2550 ≤ j) → r (B + 1) j = ρ (B + 1) j) ∧ ((k = 400 ∧ r = ρ) ∨ (k < 400 ∧ r (B + 1) 11 = nI (k + 1) ∧ r (B + 1) (550 + 5 * k) = ρ (B + 1) 1 ∧ r (B + 1) (550 + 5 * k + 1) = ρ (B + 1) 2 ∧ r (B + 1) (550 + 5 * k + 2) = a ∧ r (B + 1) (550 + 5 * k + 3) = b ∧ r (B + 1) (550 + 5 * k + 4) = c)) := by
  unfold X12_writes_f
  by_cases c4 : k = 400
  · subst c4
    refine ⟨ρ, ?_, fun _ _ => rfl, fun _ _ _ => rfl, Or.inl ⟨rfl, rfl⟩⟩
    simp only [LW, bsm]
    rw [h11, if_pos (show nI 400 = 400 from rfl)]
  · have e0 : (550 + 5 * nI k : Int32) = nI (550 + 5 * k) := by rw [show (550 : Int32) = nI 550 from rfl, show (5 : Int32) = nI 5 from rfl, pk_mul, nI_add]
    have e1 : nI (550 + 5 * k) + 1 = nI (550 + 5 * k + 1) := nI_add _ 1
    have e2 : nI (550 + 5 * k) + 2 = nI (550 + 5 * k + 2) := nI_add _ 2
    have e3 : nI (550 + 5 * k) + 3 = nI (550 + 5 * k + 3) := nI_add _ 3
    have e4 : nI (550 + 5 * k) + 4 = nI (550 + 5 * k + 4) := nI_add _ 4
    have t : ∀ j, j < 20240 → ∀ (s : Sig) (v : Int32), st 20240 s (B + 1) (nI j) v = some (wr s (B + 1) j v) := fun j hj s v => stn hj (by decide)
    simp only [LW, SW, bsm, h11, e0, e1, e2, e3, e4, t (550 + 5 * k) (by omega), t (550 + 5 * k + 1) (by omega), t (550 + 5 * k + 2) (by omega), t (550 + 5 * k + 3) (by omega), t (550 + 5 * k + 4) (by omega)]
    rw [if_neg (show ¬ nI k = 400 from fun z => c4 (nI_inj (b := 400) (by omega) (by decide) z))]
    refine ⟨_, rfl, fun x hx => ?_, fun j h1 h2 => ?_, Or.inr ⟨by omega, ?_, ?_, ?_, ?_, ?_, ?_⟩⟩
    · rw [wr_row hx, wr_row hx, wr_row hx, wr_row hx, wr_row hx, wr_row hx]
    · rw [wr_o (by omega), wr_o (by omega), wr_o (by omega), wr_o (by omega), wr_o (by omega), wr_o (by omega)]
    · rw [wr_v, wr_o (by omega), wr_o (by omega), wr_o (by omega), wr_o (by omega), wr_o (by omega), h11, nI_s]
    · rw [wr_o (by omega), wr_o (by omega), wr_o (by omega), wr_o (by omega), wr_o (by omega), wr_v]
    · rw [wr_o (by omega), wr_o (by omega), wr_o (by omega), wr_o (by omega), wr_v, wr_o (by omega)]
    · rw [wr_o (by omega), wr_o (by omega), wr_o (by omega), wr_v]
    · rw [wr_o (by omega), wr_o (by omega), wr_v]
    · rw [wr_o (by omega), wr_v]
theorem cl_write {k : Nat} (h0 : σ (W + 33) 0 = 400) (h2 : σ (W + 33) 2 = nI k) (hk : k ≤ 400) (a b c : Int32) : ∃ s, X2_write_f (W + 33) 2000 (W + 26) a b c σ = some s ∧ (∀ x, x ≠ W + 33 → x ≠ W + 34 → s x = σ x) ∧ (∀ j, j ≠ 2 → s (W + 33) j = σ (W + 33) j) ∧ (∀ j, j < 5 * k → s (W + 33 + 1) j = σ (W + 33 + 1) j) ∧ ((k = 400 ∧ s = σ) ∨ (k < 400 ∧ s (W + 33) 2 = nI (k + 1) ∧ s (W + 33 + 1) (5 * k) = σ (W + 26) 1 ∧ s (W + 33 + 1) (5 * k + 1) = σ (W + 26) 2 ∧ s (W + 33 + 1) (5 * k + 2) = a ∧ s (W + 33 + 1) (5 * k + 3) = b ∧ s (W + 33 + 1) (5 * k + 4) = c)) := by
  unfold X2_write_f
  rw [h0, h2]
  by_cases c4 : k = 400
  · subst c4
    rw [if_neg (show ¬ nI 400 < 400 by decide)]
    exact ⟨σ, rfl, fun _ _ _ => rfl, fun _ _ => rfl, fun _ _ => rfl, Or.inl ⟨rfl, rfl⟩⟩
  · have e0 : (nI k * 5 : Int32) = nI (5 * k) := by rw [show (5 : Int32) = nI 5 from rfl, pk_mul, Nat.mul_comm]
    have e1 : nI (5 * k) + 1 = nI (5 * k + 1) := nI_add _ 1
    have e2 : nI (5 * k) + 2 = nI (5 * k + 2) := nI_add _ 2
    have e3 : nI (5 * k) + 3 = nI (5 * k + 3) := nI_add _ 3
    have e4 : nI (5 * k) + 4 = nI (5 * k + 4) := nI_add _ 4
    have t : ∀ j, j < 2000 → ∀ (s : Sig) (v : Int32), st 2000 s (W + 33 + 1) (nI j) v = some (wr s (W + 33 + 1) j v) := fun j hj s v => stn hj (by decide)
    rw [if_pos (show nI k < 400 from nI_lt (b := 400) (by omega) (by decide))]
    simp only [bsm, pI, e0, e1, e2, e3, e4, t (5 * k) (by omega), t (5 * k + 1) (by omega), t (5 * k + 2) (by omega), t (5 * k + 3) (by omega), t (5 * k + 4) (by omega)]
    have q : W + 33 + 1 ≠ W + 33 := by omega
    refine ⟨_, rfl, fun x h1 h2 => ?_, fun j hj => ?_, fun j hj => ?_, Or.inr ⟨by omega, ?_, ?_, ?_, ?_, ?_, ?_⟩⟩
    · have h3 : x ≠ W + 33 + 1 := by omega
      rw [wr_row h1, wr_row h3, wr_row h3, wr_row h3, wr_row h3, wr_row h3]
    · rw [wr_o hj, wr_row q.symm, wr_row q.symm, wr_row q.symm, wr_row q.symm, wr_row q.symm]
    · rw [wr_row q, wr_o (by omega), wr_o (by omega), wr_o (by omega), wr_o (by omega), wr_o (by omega)]
    · rw [wr_v, wr_row q.symm, wr_row q.symm, wr_row q.symm, wr_row q.symm, wr_row q.symm, h2, nI_s]
    · rw [wr_row q, wr_o (by omega), wr_o (by omega), wr_o (by omega), wr_o (by omega), wr_v]
    · rw [wr_row q, wr_o (by omega), wr_o (by omega), wr_o (by omega), wr_v, wr_row (by omega)]
    · rw [wr_row q, wr_o (by omega), wr_o (by omega), wr_v]
    · rw [wr_row q, wr_o (by omega), wr_v]
    · rw [wr_row q, wr_v]
theorem Cor.wl {k : Nat} (h : k < 36) : Cor n nd 24 k (50 + k) := (Or.inr (Or.inr (Or.inr (Or.inr (Or.inr (Or.inl ⟨rfl, h, rfl⟩))))))
theorem Cor.rd {k : Nat} (h : k < 24) : Cor n nd 25 k (20 + k) := (Or.inr (Or.inr (Or.inr (Or.inr (Or.inr (Or.inr (Or.inl ⟨rfl, h, rfl⟩)))))))
theorem Cor.jr {i k j : Nat} (hn : n ≤ 12) (hd : nd ≤ 40) (h : Cor n nd i k j) : j < 550 ∧ j ≠ 11 ∧ j ≠ 16 := by
  rcases h with h | h | ⟨h0, f, h⟩ | ⟨h0, f, h⟩ | ⟨h0, f, h⟩ | h | h | h | h | h <;> omega
theorem write_two (h : Z W M B n nd σ0 ρ0 σ ρ) (a b c : Int32) : Two (X2_write_f (W + 33) M (W + 26) a b c σ) (X12_writes_f B a b c ρ) (fun s r => Z W M B n nd σ0 ρ0 s r ∧ (∀ x, x ≠ W + 33 → x ≠ W + 34 → s x = σ x) ∧ ∀ j, j ≠ 11 → (j < 550 ∨ 2550 ≤ j) → r (B + 1) j = ρ (B + 1) j) := by
  have hn := h.n12
  have hd := h.d40
  obtain ⟨k, hk, e11⟩ : ∃ k, k ≤ 400 ∧ ρ (B + 1) 11 = nI k := by
    rcases h.b with ⟨_, _, _, k, h3, h4, _⟩ | ⟨_, _, k, h3, h4⟩ <;> exact ⟨k, h3, h4⟩
  obtain ⟨r', q1, q2, q3, q4⟩ := re_writes hk e11 a b c
  obtain ⟨g, r, bk, fc, fr⟩ := h
  have fr' : FrR B ρ0 r' := fr.tr ⟨fun a h1 _ _ => q2 a h1, fun j hj => q3 j (by omega) (by omega)⟩
  have gR : Rg (r' (B + 1)) n nd := g.fr (fun j hj => q3 j (by omega) (by omega))
  have cr : ∀ i k' j, Cor n nd i k' j → r' (B + 1) j = ρ (B + 1) j := fun i k' j hc => q3 j (hc.jr hn hd).2.1 (Or.inl (by have := (hc.jr hn hd).1; omega))
  rcases bk with ⟨hM, b1, b2, k2, b3, b4, b5⟩ | ⟨hM, ⟨b1, b2⟩, -⟩
  · subst hM
    obtain rfl : k2 = k := nI_inj (by omega) (by omega) (b4.symm.trans e11)
    obtain ⟨s', p1, p2, p3, p4, p5⟩ := cl_write (W := W) b1 (b2.trans e11) hk a b c
    refine ⟨s', r', p1, q1, ⟨gR, Rc.cor.mpr (fun i k' j hc => ?_), Or.inl ⟨rfl, ?_⟩, fc.tr (fun a ha => p2 a (by omega) (by omega)), fr'⟩, p2, fun j h1 h2 => q3 j h1 (by omega)⟩
    · rw [cr i k' j hc, ← Rc.cor.mp r i k' j hc]
      have hr := hc.rng
      by_cases e33 : i = 33
      · subst e33; exact p3 k' (by omega)
      · rw [p2 (W + i) (by omega) (by omega)]
    · rcases q4 with ⟨k4, rfl⟩ | ⟨kl, v1, v2, v3, v4, v5, v6⟩
      · rcases p5 with ⟨_, rfl⟩ | ⟨z, _⟩
        · exact ⟨b1, b2, _, b3, b4, b5⟩
        · omega
      · rcases p5 with ⟨z, _⟩ | ⟨_, u1, u2, u3, u4, u5, u6⟩
        · omega
        · refine ⟨by rw [p3 0 (by decide)]; exact b1, by rw [u1, v1], k2 + 1, by omega, v1, fun j hj => ?_⟩
          by_cases c0 : j < 5 * k2
          · rw [p4 j c0, q3 _ (by omega) (by omega)]; exact b5 j c0
          · have : j = 5 * k2 ∨ j = 5 * k2 + 1 ∨ j = 5 * k2 + 2 ∨ j = 5 * k2 + 3 ∨ j = 5 * k2 + 4 := by omega
            rcases this with rfl | rfl | rfl | rfl | rfl
            · rw [u2, v2]; exact Rc.cor.mp r 26 1 1 (by simp [Cor])
            · rw [u3, ← Nat.add_assoc, v3]; exact Rc.cor.mp r 26 2 2 (by simp [Cor])
            · rw [u4, ← Nat.add_assoc, v4]
            · rw [u5, ← Nat.add_assoc, v5]
            · rw [u6, ← Nat.add_assoc, v6]
  · subst hM
    refine ⟨σ, r', ?_, q1, ⟨gR, Rc.cor.mpr (fun i k' j hc => ?_), Or.inr ⟨rfl, ⟨b1, b2⟩, ?_⟩, fc, fr'⟩, fun _ _ _ => rfl, fun j h1 h2 => q3 j h1 (by omega)⟩
    · unfold X2_write_f; rw [b1, b2, if_neg (by decide)]
    · rw [cr i k' j hc]; exact Rc.cor.mp r i k' j hc
    · rcases q4 with ⟨k4, rfl⟩ | ⟨kl, v1, _⟩
      · exact ⟨k, hk, e11⟩
      · exact ⟨k + 1, by omega, v1⟩
/-- the quarter, the hour, the place of the round -/
theorem Z.hr (h : Z W M B n nd σ0 ρ0 σ ρ) : ∃ q, q ≤ 95 ∧ ρ (B + 1) 2 = nI q ∧ ρ (B + 1) 2 / 4 = nI (q / 4) := by
  obtain ⟨q, hq, e⟩ := h.g.2.2.2.2.2.2.2.2.2
  exact ⟨q, hq, e, by rw [e]; exact pk_div (d := 4) (by omega) (by decide) (by decide)⟩
theorem cl_wallB {p r : Nat} (h : Z W M B n nd σ0 ρ0 σ ρ) (hp : p ≤ 5) (hr : r ≤ 5) : X9_wallBetween_f (W + 23) (nI p) (nI r) σ = some (ρ (B + 1) (50 + (6 * p + r))) := by
  have e : (nI p * 6 + nI r : Int32) = nI (6 * p + r) := by rw [show (6 : Int32) = nI 6 from rfl, pk_mul, nI_add, Nat.mul_comm]
  unfold X9_wallBetween_f
  rw [e, if_neg (nI_nn (by omega)), if_neg (show ¬ (36 : Int32) ≤ nI (6 * p + r) from nI_ge (b := 36) (by omega) (by decide)), ldn (by omega) (by decide), bsm]
  exact congrArg some (h.at (i := 24) (k := 6 * p + r) (j := 50 + (6 * p + r)) (Cor.wl (by omega)))
theorem re_wallB {p r : Nat} (hp : p ≤ 5) (hr : r ≤ 5) : ld 20240 (ρ (B + 1)) ((50 + (6 * nI p)) + nI r) = some (ρ (B + 1) (50 + (6 * p + r))) := by
  have e : ((50 + (6 * nI p)) + nI r : Int32) = nI (50 + (6 * p + r)) := by rw [show (50 : Int32) = nI 50 from rfl, show (6 : Int32) = nI 6 from rfl, pk_mul, nI_add, nI_add, Nat.add_assoc]
  rw [e, ldn (by omega) (by decide)]
theorem heard_two (h : Z W M B n nd σ0 ρ0 σ ρ) {p : Nat} (hp : p < n) : ∃ v, X10_isHeard_f W M (nI p) σ = some v ∧ X12_isHeard_f B (nI p) ρ = some v ∧ (v = 0 ∨ v = 1) := by
  have hn := h.n12
  unfold X10_isHeard_f X12_isHeard_f
  rw [h.s2 hp, bsm, rN2 (by omega), bsm]
  by_cases c : ρ (B + 1) (190 + 3 * p + 2) = 1
  · obtain ⟨q, hq, eq, eh⟩ := h.hr
    obtain ⟨-, ⟨pl, hpl, epl⟩, -⟩ := h.g.1.2.2 p hp
    obtain ⟨rd, hrd, erd⟩ := h.g.2.2.1 (q / 4) (by omega)
    have pa : X9_placeAt_f (W + 23) (nI (q / 4)) σ = some (nI rd) := by
      unfold X9_placeAt_f
      rw [if_neg (nI_nn (by omega)), if_neg (show ¬ (24 : Int32) ≤ nI (q / 4) from nI_ge (b := 24) (by omega) (by decide)), ldn (by omega) (by decide), bsm]
      exact congrArg some ((h.at (i := 25) (k := q / 4) (j := 20 + q / 4) (Cor.rd (by omega))).trans erd)
    have rp : ld 20240 (ρ (B + 1)) (20 + nI (q / 4)) = some (nI rd) := by
      rw [show (20 + nI (q / 4) : Int32) = nI (20 + q / 4) from nI_add 20 _, ldn (by omega) (by decide), erd]
    rw [if_pos c, if_pos c, h.p1 hp, bsm, cl_hour h, bsm, eh, pa, bsm, epl, cl_wallB h hpl hrd, bsm, h.s1 hp, bsm, rN1 (by omega), bsm, rO1 (by omega), bsm, re_hour, bsm, eh, rp, bsm, epl, re_wallB hpl hrd, bsm, LW.2.2.2.2.1, bsm, h.sca.2.1]
    by_cases c2 : ρ (B + 1) (190 + 3 * p + 1) - ρ (B + 1) (50 + (6 * pl + rd)) < ρ (B + 1) 4
    · rw [if_pos c2]; exact ⟨0, rfl, rfl, Or.inl rfl⟩
    · rw [if_neg c2]; exact ⟨1, rfl, rfl, Or.inr rfl⟩
  · rw [if_neg c, if_neg c]; exact ⟨0, rfl, rfl, Or.inl rfl⟩
theorem heardOf_one {x1 x3 : Int32} {fu : Nat} : X10_isWordHeardOf_b8 W M σ (fu + 1) x1 1 x3 = some 1 := by
  unfold X10_isWordHeardOf_b8
  rw [if_neg (show ¬ (1 : Int32) = 0 by decide), if_pos (show (1 : Int32) = 0 ∨ (1 : Int32) = 1 from Or.inr rfl), ite_self]
theorem betray_two (h : Z W M B n nd σ0 ρ0 σ ρ) {p : Nat} (hp : p < n) : ∃ v, X10_isWordHeardOf_f W M (nI p) σ = some v ∧ X12_isBetrayed_f B (nI p) ρ = some v ∧ (v = 0 ∨ v = 1) := by
  have hn := h.n12
  obtain ⟨v, a1, a2, a3⟩ := heard_two h hp
  unfold X10_isWordHeardOf_f X12_isBetrayed_f
  rw [a1, bsm, a2, bsm]
  rcases a3 with rfl | rfl
  · rw [if_pos rfl]
    refine fuel_up (m := n) (C := fun fu d => ∃ v, X10_isWordHeardOf_b8 W M σ fu (nI p) 0 (nI d) = some v ∧ X12_isBetrayed_b12 B ρ fu (nI p) (nI d) = some v ∧ (v = 0 ∨ v = 1)) (fun fu => ⟨0, ?_, ?_, Or.inl rfl⟩) (fun fu d hd ih => ?_) n 0 FU (by omega) (by unfold FU; omega)
    · unfold X10_isWordHeardOf_b8; rw [h.cn, if_pos (Int32.le_refl _), if_pos (Or.inl rfl)]
    · unfold X12_isBetrayed_b12; rw [LW.2.2.2.2.2.2.2.2.2.1, bsm, h.wn, if_pos (Int32.le_refl _)]
    · obtain ⟨v0, i1, i2, i3⟩ := ih
      unfold X10_isWordHeardOf_b8 X12_isBetrayed_b12
      rw [h.cn, if_neg (nI_ge hd (by omega)), if_pos rfl, h.p6 hd, bsm, LW.2.2.2.2.2.2.2.2.2.1, bsm, h.wn, if_neg (nI_ge hd (by omega)), rO0 (by omega), bsm, rO6 (by omega), bsm, nI_s]
      by_cases c : ρ (B + 1) (90 + 8 * d + 6) = nI p
      · have hs : ρ (B + 1) (90 + 8 * d) = 1 := (h.g.1.2.2 d hd).2.2.2.2.2.2 (by rw [c]; exact ne_m1 (by omega))
        obtain ⟨v2, b1, b2, b3⟩ := heard_two h hd
        rw [if_pos c, if_pos hs, if_pos c, b1, bsm, b2, bsm]
        rcases b3 with rfl | rfl
        · rw [if_pos rfl, if_pos rfl]; exact ⟨v0, i1, i2, i3⟩
        · rw [if_neg (by decide), if_neg (by decide)]
          cases fu with
          | zero => unfold X10_isWordHeardOf_b8 at i1; cases i1
          | succ fu => exact ⟨1, heardOf_one, rfl, Or.inr rfl⟩
      · rw [if_neg c, if_neg c, ite_self]; exact ⟨v0, i1, i2, i3⟩
  · rw [if_neg (by decide)]
    refine ⟨1, ?_, rfl, Or.inr rfl⟩
    rw [show FU = 29999 + 1 from rfl]; exact heardOf_one
end BO
