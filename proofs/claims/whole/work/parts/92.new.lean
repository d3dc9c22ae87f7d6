/-! tell, one, debt. -/
theorem within_up {x : Int32} {m : Nat} (hm : m < 2 ^ 30) (l1 : (0 : Int32) ≤ x) (l2 : x ≤ nI m) : upTo x m := by
  rcases inUp x (m := m) hm with h | h
  · exact h
  · exact absurd h (fun z => z.elim (fun z => absurd z (Int32.not_lt.mpr l1)) (fun z => absurd z (Int32.not_lt.mpr l2)))
theorem st_tell (A b : Nat) : St_tell (Inv A b) A (A + 84) := by
  intro h v1 v2 v3 hI
  obtain ⟨τ, σ, nx⟩ := h
  obtain ⟨n, nd, hT, hF, hz⟩ := hI.zz
  have hzz := hz σ rfl
  have h12 := hzz.n12
  show ∃ (r : Int32) (h1 h2 : Hp), ((X11_tell_f A v1 v2 v3 σ).bind fun p => some (p.1, ((τ, p.2, nx) : Hp))) = some (r, h1) ∧ ShX12 h1.1 (A + 84) ∧ ((X12_tell_f (A + 84) v1 v2 v3 h1.2.1).bind fun p => some (p.1, ((h1.1, p.2, h1.2.2) : Hp))) = some (r, h2) ∧ Inv A b h2
  rcases oneOf v1 n with ⟨p, hp, rfl⟩ | ho
  rotate_left
  · refine hI.no (re := fun ρ => X12_tell_f (A + 84) v1 v2 v3 ρ) (r := 0) ?_ ?_
    · unfold X11_tell_f; rw [has4_out h12 hzz.cn ho, bsm, if_pos rfl]
    · unfold X12_tell_f; rw [re_isOne_out h12 hzz.wn ho, bsm, if_pos rfl]
  have hp12 : p < 12 := by omega
  obtain ⟨q1, q2, q3, q4, q5, q6, q7⟩ := hzz.g.1.2.2 p hp
  by_cases c5 : v2 = 5
  · subst c5
    by_cases cs : σ (A + 84 + 1) (90 + 8 * p) = 1
    · -- a child
      have put : (v3 = -1 ∨ ∃ k, k < n ∧ v3 = nI k ∧ ¬ σ (A + 84 + 1) (90 + 8 * k) = 1) → ∃ (r : Int32) (h1 h2 : Hp), ((X11_tell_f A (nI p) 5 v3 σ).bind fun p => some (p.1, ((τ, p.2, nx) : Hp))) = some (r, h1) ∧ ShX12 h1.1 (A + 84) ∧ ((X12_tell_f (A + 84) (nI p) 5 v3 h1.2.1).bind fun p => some (p.1, ((h1.1, p.2, h1.2.2) : Hp))) = some (r, h2) ∧ Inv A b h2 := by
        intro hv
        have e9 : wr σ (A + 5 + 1 + 7) p v3 (A + 84 + 1) = σ (A + 84 + 1) := wr_row (by omega)
        have w9 : wr σ (A + 5 + 1 + 7) p v3 (A + 84 + 1) 9 = nI n := by rw [e9]; exact hzz.wn
        refine hI.yes (re := fun ρ => X12_tell_f (A + 84) (nI p) 5 v3 ρ) (r := 1) (s := wr σ (A + 5 + 1 + 7) p v3) (r' := wr (wr σ (A + 5 + 1 + 7) p v3) (A + 84 + 1) (90 + 8 * p + 6) v3) ?_ ?_ ?_
        · unfold X11_tell_f X4_giveParent_f X4_giveParent_b27
          rw [has4_in h12 hzz.cn hp, bsm, if_neg n10, if_pos rfl, hzz.p0 hp, bsm, if_pos cs, stn hp12 (by decide), bsm]
          rcases hv with rfl | ⟨k, hk, rfl, hk2⟩
          · rw [if_pos rfl, bsm]; rfl
          · unfold X4_isNoChild_f
            rw [if_neg (ne_m1 (by omega)), has4_in h12 hzz.cn hk, bsm, if_neg n10, hzz.p0 hk, bsm, if_neg hk2, bsm, if_neg n10, bsm]; rfl
        · unfold X12_tell_f X12_tell_b59
          rw [re_isOne_in h12 w9 hp, bsm, if_neg n10, show X12_isIn_f 5 0 5 (wr σ (A + 5 + 1 + 7) p v3) = some 1 from rfl, bsm, if_neg n10, if_pos rfl, rO0 hp12, bsm, e9, if_pos cs, rG6 hp12, bsm]
          rcases hv with rfl | ⟨k, hk, rfl, hk2⟩
          · rw [if_pos rfl]
          · rw [if_neg (ne_m1 (by omega)), re_isOne_in h12 w9 hk, bsm, if_neg n10, rO0 (by omega), bsm, e9, if_neg hk2]
        · refine go_P hI hzz.g (f := 6) hp (by decide) ?_
          unfold Pok
          rw [upd_eq, upd_ne (by omega), upd_ne (by omega), upd_ne (by omega), upd_ne (by omega), upd_ne (by omega)]
          refine ⟨q1, q2, q3, q4, q5, ?_, fun _ => cs⟩
          rcases hv with rfl | ⟨k, hk, rfl, -⟩
          · exact Or.inl rfl
          · exact Or.inr ⟨k, hk, rfl⟩
      by_cases cm : v3 = -1
      · exact put (Or.inl cm)
      rcases oneOf v3 n with ⟨k, hk, rfl⟩ | ho
      · by_cases ck : σ (A + 84 + 1) (90 + 8 * k) = 1
        · refine hI.no (re := fun ρ => X12_tell_f (A + 84) (nI p) 5 (nI k) ρ) (r := 0) ?_ ?_
          · unfold X11_tell_f X4_giveParent_f X4_isNoChild_f
            rw [has4_in h12 hzz.cn hp, bsm, if_neg n10, if_pos rfl, hzz.p0 hp, bsm, if_pos cs, if_neg cm, has4_in h12 hzz.cn hk, bsm, if_neg n10, hzz.p0 hk, bsm, if_pos ck, bsm, if_pos rfl, bsm]; rfl
          · unfold X12_tell_f
            rw [re_isOne_in h12 hzz.wn hp, bsm, if_neg n10, show X12_isIn_f 5 0 5 σ = some 1 from rfl, bsm, if_neg n10, if_pos rfl, rO0 hp12, bsm, if_pos cs, if_neg cm, re_isOne_in h12 hzz.wn hk, bsm, if_neg n10, rO0 (by omega), bsm, if_pos ck]
        · exact put (Or.inr ⟨k, hk, rfl, ck⟩)
      · refine hI.no (re := fun ρ => X12_tell_f (A + 84) (nI p) 5 v3 ρ) (r := 0) ?_ ?_
        · unfold X11_tell_f X4_giveParent_f X4_isNoChild_f
          rw [has4_in h12 hzz.cn hp, bsm, if_neg n10, if_pos rfl, hzz.p0 hp, bsm, if_pos cs, if_neg cm, has4_out h12 hzz.cn ho, bsm, if_pos rfl, bsm, if_pos rfl, bsm]; rfl
        · unfold X12_tell_f
          rw [re_isOne_in h12 hzz.wn hp, bsm, if_neg n10, show X12_isIn_f 5 0 5 σ = some 1 from rfl, bsm, if_neg n10, if_pos rfl, rO0 hp12, bsm, if_pos cs, if_neg cm, re_isOne_out h12 hzz.wn ho, bsm, if_pos rfl]
    · refine hI.no (re := fun ρ => X12_tell_f (A + 84) (nI p) 5 v3 ρ) (r := 0) ?_ ?_
      · unfold X11_tell_f X4_giveParent_f
        rw [has4_in h12 hzz.cn hp, bsm, if_neg n10, if_pos rfl, hzz.p0 hp, bsm, if_neg cs, bsm]; rfl
      · unfold X12_tell_f
        rw [re_isOne_in h12 hzz.wn hp, bsm, if_neg n10, show X12_isIn_f 5 0 5 σ = some 1 from rfl, bsm, if_neg n10, if_pos rfl, rO0 hp12, bsm, if_neg cs]
  · -- the numbers
    have num : ∀ (j m : Nat), j < 5 → m < 2 ^ 30 → v2 = nI j → tellMost j = nI m → (∀ s : Sig, X12_tell_f (A + 84) (nI p) (nI j) v3 s = (X12_isOne_f (A + 84) (nI p) s).bind fun v1 => if v1 = 0 then (some (0, s)) else (X12_tell_b109 (A + 84) (nI p) (nI j) v3 (nI m) s)) → (∀ s v, X4_change_f (A + 5 + 1) (nI p) (nI j) v s = some (wr s (A + 5 + 1 + (j + 2)) p v)) → (upTo v3 m → Pok (upd (σ (A + 84 + 1)) (90 + 8 * p + (1 + j)) v3) n p) → ∃ (r : Int32) (h1 h2 : Hp), ((X11_tell_f A (nI p) v2 v3 σ).bind fun p => some (p.1, ((τ, p.2, nx) : Hp))) = some (r, h1) ∧ ShX12 h1.1 (A + 84) ∧ ((X12_tell_f (A + 84) (nI p) v2 v3 h1.2.1).bind fun p => some (p.1, ((h1.1, p.2, h1.2.2) : Hp))) = some (r, h2) ∧ Inv A b h2 := by
      intro j m hj hm e2 et hre hch hok
      subst e2
      have w4 : X11_isWithin_f (nI j) 0 4 σ = some 1 := cl_isW_in (nI_0le (by omega)) (show nI j ≤ 4 from nI_le (b := 4) (by omega) (by decide))
      have lt : ld 5 tellMost (nI j) = some (nI m) := by rw [ldn hj (by decide), et]
      rcases within_in v3 0 (nI m) σ σ with ⟨l1, l2, d1, d2⟩ | ⟨d1, d2⟩
      · have e9 : wr σ (A + 5 + 1 + (j + 2)) p v3 (A + 84 + 1) = σ (A + 84 + 1) := wr_row (by omega)
        refine hI.yes (re := fun ρ => X12_tell_f (A + 84) (nI p) (nI j) v3 ρ) (r := 1) (s := wr σ (A + 5 + 1 + (j + 2)) p v3) (r' := wr (wr σ (A + 5 + 1 + (j + 2)) p v3) (A + 84 + 1) (90 + 8 * p + (1 + j)) v3) ?_ ?_ ?_
        · unfold X11_tell_f
          rw [has4_in h12 hzz.cn hp, bsm, if_neg n10, if_neg c5, w4, bsm, if_neg n10, lt, bsm, d1, bsm, if_neg n10, hch, bsm]
        · rw [hre, re_isOne_in h12 (by rw [e9]; exact hzz.wn) hp, bsm, if_neg n10]
          unfold X12_tell_b109
          rw [re_isIn_in l1 l2, bsm, if_neg n10, show (1 + nI j : Int32) = nI (1 + j) from nI_add 1 j, re_gives hp12 (by omega), bsm]
        · have := go_P hI hzz.g (p := p) (f := 1 + j) (v := v3) hp (by omega) (hok (within_up hm l1 l2))
          rw [show A + 5 + (2 + (1 + j)) = A + 5 + 1 + (j + 2) by omega] at this
          exact this
      · refine hI.no (re := fun ρ => X12_tell_f (A + 84) (nI p) (nI j) v3 ρ) (r := 0) ?_ ?_
        · unfold X11_tell_f
          rw [has4_in h12 hzz.cn hp, bsm, if_neg n10, if_neg c5, w4, bsm, if_neg n10, lt, bsm, d1, bsm, if_pos rfl]
        · rw [hre, re_isOne_in h12 hzz.wn hp, bsm, if_neg n10]
          unfold X12_tell_b109
          rw [d2, bsm, if_pos rfl]
    have s12 : ∀ (s : Sig) (a : Nat) (v : Int32), st 12 s a (nI p) v = some (wr s a p v) := fun s a v => stn hp12 (by decide)
    by_cases c0 : v2 = 0
    · refine num 0 5 (by decide) (by decide) c0 (by decide) (fun s => ?_) (fun s v => ?_) (fun hu => ?_)
      · unfold X12_tell_f; rfl
      · unfold X4_change_f; rw [if_pos (show nI 0 = 0 from rfl), s12, bsm]
      · unfold Pok; rw [upd_eq, upd_ne (by omega), upd_ne (by omega), upd_ne (by omega), upd_ne (by omega), upd_ne (by omega)]; exact ⟨q1, hu, q3, q4, q5, q6, q7⟩
    by_cases c1 : v2 = 1
    · refine num 1 99 (by decide) (by decide) c1 (by decide) (fun s => ?_) (fun s v => ?_) (fun hu => ?_)
      · unfold X12_tell_f; rfl
      · unfold X4_change_f; rw [if_neg (by decide), if_pos (show nI 1 = 1 from rfl), s12, bsm]
      · unfold Pok; rw [upd_eq, upd_ne (by omega), upd_ne (by omega), upd_ne (by omega), upd_ne (by omega), upd_ne (by omega)]; exact ⟨q1, q2, hu, q4, q5, q6, q7⟩
    by_cases c2 : v2 = 2
    · refine num 2 1000 (by decide) (by decide) c2 (by decide) (fun s => ?_) (fun s v => ?_) (fun hu => ?_)
      · unfold X12_tell_f; rfl
      · unfold X4_change_f; rw [if_neg (by decide), if_neg (by decide), if_pos (show nI 2 = 2 from rfl), s12, bsm]
      · unfold Pok; rw [upd_eq, upd_ne (by omega), upd_ne (by omega), upd_ne (by omega), upd_ne (by omega), upd_ne (by omega)]; exact ⟨q1, q2, q3, hu, q5, q6, q7⟩
    by_cases c3 : v2 = 3
    · refine num 3 4 (by decide) (by decide) c3 (by decide) (fun s => ?_) (fun s v => ?_) (fun hu => ?_)
      · unfold X12_tell_f; rfl
      · unfold X4_change_f; rw [if_neg (by decide), if_neg (by decide), if_neg (by decide), if_pos (show nI 3 = 3 from rfl), s12, bsm]
      · unfold Pok; rw [upd_eq, upd_ne (by omega), upd_ne (by omega), upd_ne (by omega), upd_ne (by omega), upd_ne (by omega)]; exact ⟨q1, q2, q3, q4, hu, q6, q7⟩
    by_cases c4 : v2 = 4
    · refine num 4 99999 (by decide) (by decide) c4 (by decide) (fun s => ?_) (fun s v => ?_) (fun hu => ?_)
      · unfold X12_tell_f; rfl
      · unfold X4_change_f; rw [if_neg (by decide), if_neg (by decide), if_neg (by decide), if_neg (by decide), if_pos (show nI 4 = 4 from rfl), s12, bsm]
      · unfold Pok; rw [upd_ne (by omega), upd_ne (by omega), upd_ne (by omega), upd_ne (by omega), upd_ne (by omega), upd_ne (by omega)]; exact ⟨q1, q2, q3, q4, q5, q6, q7⟩
    have ho : v2 < 0 ∨ 5 < v2 := out_of (tsw_l 0 5 6 [0, 1, 2, 3, 4, 5] (al1 c0 (al1 c1 (al1 c2 (al1 c3 (al1 c4 (al1 c5 al0)))))) (by decide) (by decide))
    refine hI.no (re := fun ρ => X12_tell_f (A + 84) (nI p) v2 v3 ρ) (r := 0) ?_ ?_
    · unfold X11_tell_f
      rw [has4_in h12 hzz.cn hp, bsm, if_neg n10, if_neg c5, cl_isW_out (ho.elim Or.inl (fun z => Or.inr (Int32.lt_trans (show (4 : Int32) < 5 by decide) z))), bsm, if_pos rfl]
    · unfold X12_tell_f
      rw [re_isOne_in h12 hzz.wn hp, bsm, if_neg n10, re_isIn_out ho, bsm, if_pos rfl]
/-- a new one, on both sides -/
def oneC (P n : Nat) (a b c d e : Int32) (σ : Sig) : Sig := wr (wr (wr (wr (wr (wr (wr (wr (wr (wr (wr σ (P + 1) n a) (P + 2) n b) (P + 3) n c) (P + 4) n d) (P + 5) n e) (P + 6) n 0) (P + 7) n (-1)) (P + 8) n (-1)) (P + 9) n (-1)) (P + 10) n (-1)) P 0 (nI (n + 1))
def oneR (B n : Nat) (a b c d e : Int32) (σ : Sig) : Sig := wr (wr (wr (wr (wr (wr (wr (wr (wr (wr (wr σ (B + 1) (90 + 8 * n) a) (B + 1) (90 + 8 * n + 1) b) (B + 1) (90 + 8 * n + 2) c) (B + 1) (90 + 8 * n + 3) d) (B + 1) (90 + 8 * n + 4) e) (B + 1) (90 + 8 * n + 5) 0) (B + 1) (90 + 8 * n + 6) (-1)) (B + 1) (190 + 3 * n) (-1)) (B + 1) (190 + 3 * n + 1) (-1)) (B + 1) (190 + 3 * n + 2) (-1)) (B + 1) 9 (nI (n + 1))
def oneW (n : Nat) (a b c d e : Int32) (w : wF) : wF := upd (upd (upd (upd (upd (upd (upd (upd (upd (upd (upd w (90 + 8 * n) a) (90 + 8 * n + 1) b) (90 + 8 * n + 2) c) (90 + 8 * n + 3) d) (90 + 8 * n + 4) e) (90 + 8 * n + 5) 0) (90 + 8 * n + 6) (-1)) (190 + 3 * n) (-1)) (190 + 3 * n + 1) (-1)) (190 + 3 * n + 2) (-1)) 9 (nI (n + 1))
theorem oneR_w {B n : Nat} {a b c d e : Int32} {σ : Sig} : oneR B n a b c d e σ (B + 1) = oneW n a b c d e (σ (B + 1)) := by
  unfold oneR oneW; simp only [wr_w]
theorem oneR_ne {B n : Nat} {a b c d e : Int32} {σ : Sig} {x : Nat} (h : x ≠ B + 1) : oneR B n a b c d e σ x = σ x := by
  unfold oneR; rw [wr_row h, wr_row h, wr_row h, wr_row h, wr_row h, wr_row h, wr_row h, wr_row h, wr_row h, wr_row h, wr_row h]
theorem oneC_ne {P n : Nat} {a b c d e : Int32} {σ : Sig} {x : Nat} (h : x < P ∨ P + 10 < x) : oneC P n a b c d e σ x = σ x := by
  unfold oneC; rw [wr_row (by omega), wr_row (by omega), wr_row (by omega), wr_row (by omega), wr_row (by omega), wr_row (by omega), wr_row (by omega), wr_row (by omega), wr_row (by omega), wr_row (by omega), wr_row (by omega)]
theorem oneW_ne {n : Nat} {a b c d e : Int32} {w : wF} {j : Nat} (h : j ≠ 9) (h2 : j < 90 + 8 * n ∨ 90 + 8 * n + 6 < j) (h3 : j < 190 + 3 * n ∨ 190 + 3 * n + 2 < j) : oneW n a b c d e w j = w j := by
  unfold oneW; rw [upd_ne h, upd_ne (by omega), upd_ne (by omega), upd_ne (by omega), upd_ne (by omega), upd_ne (by omega), upd_ne (by omega), upd_ne (by omega), upd_ne (by omega), upd_ne (by omega), upd_ne (by omega)]
theorem one_rc {σ : Sig} {W : Nat} {w : wF} {n nd : Nat} (hn : n < 12) (hd : nd ≤ 40) (h : Rc σ W w n nd) (a b c d e : Int32) : Rc (oneC (W + 1) n a b c d e σ) W (oneW n a b c d e w) (n + 1) nd := by
  have h0 : RcX [90 + 8 * n, 90 + 8 * n + 1, 90 + 8 * n + 2, 90 + 8 * n + 3, 90 + 8 * n + 4, 90 + 8 * n + 5, 90 + 8 * n + 6, 190 + 3 * n, 190 + 3 * n + 1, 190 + 3 * n + 2, 9] σ W w (n + 1) nd := by
    intro i k j hc hL
    simp only [List.mem_cons, List.not_mem_nil, or_false, not_or] at hL
    refine Rc.cor.mp h i k j ?_
    unfold Cor at hc ⊢
    rcases hc with q | q | ⟨h0, f, q⟩ | ⟨h0, f, q⟩ | ⟨h0, f, q⟩ | q | q | q | q | q
    · exact Or.inl q
    · exact Or.inr (Or.inl q)
    · exact Or.inr (Or.inr (Or.inl ⟨by omega, f, q⟩))
    · exact Or.inr (Or.inr (Or.inr (Or.inl ⟨by omega, f, q⟩)))
    · exact Or.inr (Or.inr (Or.inr (Or.inr (Or.inl ⟨h0, f, q⟩))))
    · exact (Or.inr (Or.inr (Or.inr (Or.inr (Or.inr (Or.inl q))))))
    · exact (Or.inr (Or.inr (Or.inr (Or.inr (Or.inr (Or.inr (Or.inl q)))))))
    · exact (Or.inr (Or.inr (Or.inr (Or.inr (Or.inr (Or.inr (Or.inr (Or.inl q))))))))
    · exact (Or.inr (Or.inr (Or.inr (Or.inr (Or.inr (Or.inr (Or.inr (Or.inr (Or.inl q)))))))))
    · exact (Or.inr (Or.inr (Or.inr (Or.inr (Or.inr (Or.inr (Or.inr (Or.inr (Or.inr q)))))))))
  have cp : ∀ f, f < 7 → Cor (n + 1) nd (2 + f) n (90 + 8 * n + f) := fun f hf => Or.inr (Or.inr (Or.inl ⟨by omega, f, hf, rfl, rfl⟩))
  have cn : ∀ f, f < 3 → Cor (n + 1) nd (9 + f) n (190 + 3 * n + f) := fun f hf => Or.inr (Or.inr (Or.inr (Or.inl ⟨by omega, f, hf, rfl, rfl⟩)))
  have h12 : n + 1 ≤ 12 := by omega
  have h1 := h0.put (v := a) h12 hd (cp 0 (by decide))
  have h2 := h1.put (v := b) h12 hd (cp 1 (by decide))
  have h3 := h2.put (v := c) h12 hd (cp 2 (by decide))
  have h4 := h3.put (v := d) h12 hd (cp 3 (by decide))
  have h5 := h4.put (v := e) h12 hd (cp 4 (by decide))
  have h6 := h5.put (v := 0) h12 hd (cp 5 (by decide))
  have h7 := h6.put (v := -1) h12 hd (cp 6 (by decide))
  have h8 := h7.put (v := -1) h12 hd (cn 0 (by decide))
  have h9 := h8.put (v := -1) h12 hd (cn 1 (by decide))
  have h10 := h9.put (v := -1) h12 hd (cn 2 (by decide))
  have h11 := h10.put (v := nI (n + 1)) h12 hd (i := 1) (k := 0) (Or.inl ⟨rfl, rfl, rfl⟩)
  exact h11.rc
theorem st_one (A b : Nat) : St_one (Inv A b) A (A + 84) := by
  intro h v1 v2 v3 v4 v5 hI
  obtain ⟨τ, σ, nx⟩ := h
  obtain ⟨n, nd, hG, hR, hB, hT, hBr⟩ := hI.wd
  dsimp only at hG hR hB hT hBr
  have h12 := hG.le12
  have hc : σ (A + 5 + 1) 0 = nI n := hR.p.1.trans hG.wn
  show ∃ (r : Int32) (h1 h2 : Hp), ((X11_one_f A v1 v2 v3 v4 v5 σ).bind fun p => some (p.1, ((τ, p.2, nx) : Hp))) = some (r, h1) ∧ ShX12 h1.1 (A + 84) ∧ ((X12_one_f (A + 84) v1 v2 v3 v4 v5 h1.2.1).bind fun p => some (p.1, ((h1.1, p.2, h1.2.2) : Hp))) = some (r, h2) ∧ Inv A b h2
  have t0 : ld 5 tellMost 0 = some 5 := by decide
  have t1 : ld 5 tellMost 1 = some 99 := by decide
  have t2 : ld 5 tellMost 2 = some 1000 := by decide
  have t3 : ld 5 tellMost 3 = some 4 := by decide
  have fit : nI n < 12 ↔ n < 12 := nI_ltI (b := 12) (by omega) (by decide)
  have full : nI n = 12 ↔ n = 12 := nI_eq (b := 12) (by omega) (by decide)
  have pl : ∀ s : Sig, X12_isPlace_f v2 s = X12_isIn_f v2 0 5 s := fun s => by unfold X12_isPlace_f; rcases within_in v2 0 5 s s with ⟨-, -, -, d2⟩ | ⟨-, d2⟩ <;> rw [d2] <;> rfl
  rcases within_in v1 0 2 σ σ with ⟨l1, m1, a1, c1⟩ | ⟨a1, c1⟩
  rotate_left
  · refine hI.no (re := fun ρ => X12_one_f (A + 84) v1 v2 v3 v4 v5 ρ) (r := -1) ?_ ?_
    · unfold X11_one_f; rw [a1, bsm, if_pos rfl]
    · unfold X12_one_f; rw [c1, bsm, if_pos rfl]
  rcases within_in v2 0 5 σ σ with ⟨l2, m2, a2, c2⟩ | ⟨a2, c2⟩
  rotate_left
  · refine hI.no (re := fun ρ => X12_one_f (A + 84) v1 v2 v3 v4 v5 ρ) (r := -1) ?_ ?_
    · unfold X11_one_f; rw [a1, bsm, if_neg n10, t0, bsm, a2, bsm, if_pos rfl, ite_self]
    · unfold X12_one_f; rw [c1, bsm, if_neg n10, pl, c2, bsm, if_pos rfl]
  rcases within_in v3 0 99 σ σ with ⟨l3, m3, a3, c3⟩ | ⟨a3, c3⟩
  rotate_left
  · refine hI.no (re := fun ρ => X12_one_f (A + 84) v1 v2 v3 v4 v5 ρ) (r := -1) ?_ ?_
    · unfold X11_one_f; rw [a1, bsm, if_neg n10, t0, bsm, a2, bsm, if_neg n10, t1, bsm, a3, bsm, if_pos rfl, ite_self]
    · unfold X12_one_f; rw [c1, bsm, if_neg n10, pl, c2, bsm, if_neg n10, c3, bsm, if_pos rfl]
  rcases within_in v4 0 1000 σ σ with ⟨l4, m4, a4, c4⟩ | ⟨a4, c4⟩
  rotate_left
  · refine hI.no (re := fun ρ => X12_one_f (A + 84) v1 v2 v3 v4 v5 ρ) (r := -1) ?_ ?_
    · unfold X11_one_f; rw [a1, bsm, if_neg n10, t0, bsm, a2, bsm, if_neg n10, t1, bsm, a3, bsm, if_neg n10, t2, bsm, a4, bsm, if_pos rfl, ite_self]
    · unfold X12_one_f; rw [c1, bsm, if_neg n10, pl, c2, bsm, if_neg n10, c3, bsm, if_neg n10, c4, bsm, if_pos rfl]
  rcases within_in v5 0 4 σ σ with ⟨l5, m5, a5, c5⟩ | ⟨a5, c5⟩
  rotate_left
  · refine hI.no (re := fun ρ => X12_one_f (A + 84) v1 v2 v3 v4 v5 ρ) (r := -1) ?_ ?_
    · unfold X11_one_f; rw [a1, bsm, if_neg n10, t0, bsm, a2, bsm, if_neg n10, t1, bsm, a3, bsm, if_neg n10, t2, bsm, a4, bsm, if_neg n10, t3, bsm, a5, bsm, if_pos rfl, ite_self]
    · unfold X12_one_f; rw [c1, bsm, if_neg n10, pl, c2, bsm, if_neg n10, c3, bsm, if_neg n10, c4, bsm, if_neg n10, c5, bsm, if_pos rfl]
  by_cases cf : n = 12
  · refine hI.no (re := fun ρ => X12_one_f (A + 84) v1 v2 v3 v4 v5 ρ) (r := -1) ?_ ?_
    · unfold X11_one_f; rw [a1, bsm, if_neg n10, hc, if_neg (fun q => absurd (fit.mp q) (by omega))]
    · unfold X12_one_f; rw [c1, bsm, if_neg n10, pl, c2, bsm, if_neg n10, c3, bsm, if_neg n10, c4, bsm, if_neg n10, c5, bsm, if_neg n10, LW.2.2.2.2.2.2.2.2.2.1, bsm, hG.wn, if_pos (full.mpr cf)]
  have hn : n < 12 := by omega
  have s12 : ∀ (s : Sig) (a : Nat) (v : Int32), st 12 s a (nI n) v = some (wr s a n v) := fun s a v => stn hn (by decide)
  have e9 : oneC (A + 5 + 1) n v1 v2 v3 v4 v5 σ (A + 84 + 1) = σ (A + 84 + 1) := oneC_ne (by omega)
  have hcl : X11_one_f A v1 v2 v3 v4 v5 σ = some (nI n, oneC (A + 5 + 1) n v1 v2 v3 v4 v5 σ) := by
    unfold X11_one_f X4_add_f X4_hush_f
    rw [a1, bsm, if_neg n10, hc, if_pos (fit.mpr hn), t0, bsm, a2, bsm, if_neg n10, t1, bsm, a3, bsm, if_neg n10, t2, bsm, a4, bsm, if_neg n10, t3, bsm, a5, bsm, if_neg n10, if_pos (fit.mpr hn)]
    simp only [s12, bsm, pI]
    unfold oneC
    rw [wr_row (show A + 5 + 1 ≠ A + 5 + 1 + 10 by omega), wr_row (show A + 5 + 1 ≠ A + 5 + 1 + 9 by omega), wr_row (show A + 5 + 1 ≠ A + 5 + 1 + 8 by omega), wr_row (show A + 5 + 1 ≠ A + 5 + 1 + 7 by omega), wr_row (show A + 5 + 1 ≠ A + 5 + 1 + 6 by omega), wr_row (show A + 5 + 1 ≠ A + 5 + 1 + 5 by omega), wr_row (show A + 5 + 1 ≠ A + 5 + 1 + 4 by omega), wr_row (show A + 5 + 1 ≠ A + 5 + 1 + 3 by omega), wr_row (show A + 5 + 1 ≠ A + 5 + 1 + 2 by omega), wr_row (show A + 5 + 1 ≠ A + 5 + 1 + 1 by omega), hc, nI_s]
  have hre : ∀ s : Sig, s (A + 84 + 1) = σ (A + 84 + 1) → X12_one_f (A + 84) v1 v2 v3 v4 v5 s = some (nI n, oneR (A + 84) n v1 v2 v3 v4 v5 s) := by
    intro s es
    unfold X12_one_f X12_hushes_f
    rw [re_isIn_in l1 m1, bsm, if_neg n10, pl, re_isIn_in l2 m2, bsm, if_neg n10, re_isIn_in l3 m3, bsm, if_neg n10, re_isIn_in l4 m4, bsm, if_neg n10, re_isIn_in l5 m5, bsm, if_neg n10, LW.2.2.2.2.2.2.2.2.2.1, bsm, es, hG.wn, if_neg (fun q => cf (full.mp q)), bsm]
    simp only [rG0 hn, rG1 hn, rG2 hn, rG3 hn, rG4 hn, rG5 hn, rG6 hn, rM0 hn, rM1 hn, rM2 hn, bsm, LW, SW]
    unfold oneR
    rw [wr_o (by omega), wr_o (by omega), wr_o (by omega), wr_o (by omega), wr_o (by omega), wr_o (by omega), wr_o (by omega), wr_o (by omega), wr_o (by omega), wr_o (by omega), es, hG.wn, nI_s]
  refine hI.yes (re := fun ρ => X12_one_f (A + 84) v1 v2 v3 v4 v5 ρ) hcl (hre _ e9) ?_
  have hw2 : oneR (A + 84) n v1 v2 v3 v4 v5 (oneC (A + 5 + 1) n v1 v2 v3 v4 v5 σ) (A + 84 + 1) = oneW n v1 v2 v3 v4 v5 (σ (A + 84 + 1)) := by rw [oneR_w, e9]
  have ho : ∀ a, (a < A + 6 ∨ A + 16 < a) → a ≠ A + 85 → oneR (A + 84) n v1 v2 v3 v4 v5 (oneC (A + 5 + 1) n v1 v2 v3 v4 v5 σ) a = σ a := fun a h1 h2 => by rw [oneR_ne (by omega), oneC_ne (by omega)]
  have hR2 : Rc (oneR (A + 84) n v1 v2 v3 v4 v5 (oneC (A + 5 + 1) n v1 v2 v3 v4 v5 σ)) (A + 5) (oneW n v1 v2 v3 v4 v5 (σ (A + 84 + 1))) (n + 1) nd := (one_rc hn hG.le40 hR v1 v2 v3 v4 v5).fr (fun i hi => oneR_ne (by omega))
  refine hI.go1 (fun a h1 h2 _ _ _ _ => ho a (by omega) h2) ?_
  rw [hw2]
  refine Wd.mkP hG hR hB hT hBr (fun a ha _ => ho a (by omega) (by omega)) (fun i h1 h2 => ho _ (by omega) (by omega)) (fun j h1 h2 => oneW_ne h1 (by omega) (by omega)) (Nat.le_succ n) hR2.1 ⟨by omega, by unfold oneW; rw [upd_eq], fun p hp => ?_⟩
  by_cases cp : p = n
  · subst cp
    unfold oneW
    have u0 : ∀ (f : wF) (j : Nat) (v : Int32) (i : Nat), i ≠ j → upd f j v i = f i := fun f j v i h => upd_ne h
    refine ⟨?_, ?_, ?_, ?_, ?_, Or.inl ?_, fun q => absurd ?_ q⟩
    · rw [u0 _ 9 _ _ (by omega), u0 _ _ _ _ (by omega), u0 _ _ _ _ (by omega), u0 _ _ _ _ (by omega), u0 _ _ _ _ (by omega), u0 _ _ _ _ (by omega), u0 _ _ _ _ (by omega), u0 _ _ _ _ (by omega), u0 _ _ _ _ (by omega), u0 _ _ _ _ (by omega), upd_eq]; exact within_up (by decide) l1 m1
    · rw [u0 _ 9 _ _ (by omega), u0 _ _ _ _ (by omega), u0 _ _ _ _ (by omega), u0 _ _ _ _ (by omega), u0 _ _ _ _ (by omega), u0 _ _ _ _ (by omega), u0 _ _ _ _ (by omega), u0 _ _ _ _ (by omega), u0 _ _ _ _ (by omega), upd_eq]; exact within_up (by decide) l2 m2
    · rw [u0 _ 9 _ _ (by omega), u0 _ _ _ _ (by omega), u0 _ _ _ _ (by omega), u0 _ _ _ _ (by omega), u0 _ _ _ _ (by omega), u0 _ _ _ _ (by omega), u0 _ _ _ _ (by omega), u0 _ _ _ _ (by omega), upd_eq]; exact within_up (by decide) l3 m3
    · rw [u0 _ 9 _ _ (by omega), u0 _ _ _ _ (by omega), u0 _ _ _ _ (by omega), u0 _ _ _ _ (by omega), u0 _ _ _ _ (by omega), u0 _ _ _ _ (by omega), u0 _ _ _ _ (by omega), upd_eq]; exact within_up (by decide) l4 m4
    · rw [u0 _ 9 _ _ (by omega), u0 _ _ _ _ (by omega), u0 _ _ _ _ (by omega), u0 _ _ _ _ (by omega), u0 _ _ _ _ (by omega), u0 _ _ _ _ (by omega), upd_eq]; exact within_up (by decide) l5 m5
    · rw [u0 _ 9 _ _ (by omega), u0 _ _ _ _ (by omega), u0 _ _ _ _ (by omega), u0 _ _ _ _ (by omega), upd_eq]
    · rw [u0 _ 9 _ _ (by omega), u0 _ _ _ _ (by omega), u0 _ _ _ _ (by omega), u0 _ _ _ _ (by omega), upd_eq]
  · have hp' : p < n := by omega
    obtain ⟨q1, q2, q3, q4, q5, q6, q7⟩ := hG.1.2.2 p hp'
    rw [oneW_ne (by omega) (by omega) (by omega), oneW_ne (by omega) (by omega) (by omega), oneW_ne (by omega) (by omega) (by omega), oneW_ne (by omega) (by omega) (by omega), oneW_ne (by omega) (by omega) (by omega), oneW_ne (by omega) (by omega) (by omega)]
    exact ⟨q1, q2, q3, q4, q5, q6.mono (by omega), q7⟩
