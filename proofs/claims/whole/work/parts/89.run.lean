/-! A CALL of the class, then the same of the reference, over one heap. -/
theorem Inv.zz {A b : Nat} {τ : Tau} {σ : Sig} {nx : Nat} (hI : Inv A b (τ, σ, nx)) : ∃ n nd, Txs τ σ A nx (rfld τ A 2) (A + 5) (σ (A + 84 + 1)) ∧ Few b (σ (A + 84 + 1)) ∧ ∀ ρ : Sig, ρ (A + 84 + 1) = σ (A + 84 + 1) → Z (A + 5) 2000 (A + 84) n nd σ ρ σ ρ := by
  obtain ⟨n, nd, hG, hR, hB, hT, hBr, hF⟩ := hI.wd
  dsimp only at hG hR hB hT hBr hF
  refine ⟨n, nd, hT, hF, fun ρ e => ?_⟩
  exact ⟨by rw [e]; exact hG, by rw [e]; exact hR, by rw [e]; exact Or.inl ⟨rfl, hB⟩, FrC.rf, FrR.rf⟩
theorem Inv.z {A b b' : Nat} {τ : Tau} {σ s r : Sig} {nx n nd : Nat} (hI : Inv A b (τ, σ, nx)) (hb : b ≤ b') (hz : Z (A + 5) 2000 (A + 84) n nd σ s s r) (hn0 : ∀ n' nd', Rg (σ (A + 84 + 1)) n' nd' → n' = n ∧ nd' = nd) (hf : Few b' (r (A + 84 + 1))) : Inv A b' (τ, r, nx) := by
  obtain ⟨g, rc, bk, fc, fr1, fr2⟩ := hz
  obtain ⟨n', nd', hG, hR, hB, hT, hBr, hF⟩ := hI.wd
  dsimp only at hG hR hB hT hBr hF
  obtain ⟨rfl, rfl⟩ := hn0 n' nd' hG
  have ra : ∀ a, a ≠ A + 85 → a ≠ A + 91 → a ≠ A + 92 → r a = s a := fun a h1 h2 h3 => fr1 a (by omega) (by omega) (by omega)
  have sa : ∀ a, (a ≤ A + 5 ∨ A + 40 ≤ a ∨ (A + 32 ≤ a ∧ a ≤ A + 34)) → s a = σ a := fun a h => fc a (by omega)
  have rs : ∀ a, (a ≤ A + 5 ∨ A + 40 ≤ a ∨ (A + 32 ≤ a ∧ a ≤ A + 34)) → a ≠ A + 85 → a ≠ A + 91 → a ≠ A + 92 → r a = σ a := fun a h h1 h2 h3 => (ra a h1 h2 h3).trans (sa a h)
  have hag : agree A (rfld τ A 2) σ r := fun a h _ => rs a (by omega) (by omega) (by omega) (by omega)
  have hw : ∀ j, (2550 ≤ j ∨ j = 16) → r (A + 84 + 1) j = σ (A + 84 + 1) j := fun j hj => by rw [fr2 j hj, sa _ (by omega)]
  have hI' := hI.mono hb
  have row : ∀ i, i < 35 → r (A + 5 + i) = s (A + 5 + i) := fun i hi => ra _ (by omega) (by omega) (by omega)
  refine hI'.go1 (fun a h1 h2 h3 h4 _ _ => rs a (by omega) (by omega) (by omega) (by omega)) ⟨n', nd', g, rc.fr row, ?_, hT.fr hag (fun j h1 h2 => hw j (Or.inl h1)), hBr.fr hag (fun j h1 h2 => hw j (by omega)) (hw 16 (Or.inr rfl)) (by rw [rs _ (by omega) (by omega) (by omega) (by omega)]) (Nat.le_refl _) (Nat.le_refl _), hf⟩
  rcases bk with ⟨_, bk⟩ | ⟨h, _⟩
  · exact bk.fr row
  · exact absurd h (by decide)
theorem Rg.uniq {w : wF} {n nd n' nd' : Nat} (h : Rg w n nd) (h' : Rg w n' nd') : n' = n ∧ nd' = nd := by
  have a := h.le12
  have a' := h'.le12
  have c := h.le40
  have c' := h'.le40
  exact ⟨nI_inj (by omega) (by omega) (h'.wn.symm.trans h.wn), nI_inj (by omega) (by omega) (h'.wd.symm.trans h.wd)⟩
/-- both answers, one behind the other -/
theorem Inv.run {A b b' : Nat} {τ : Tau} {σ : Sig} {nx n nd : Nat} (hI : Inv A b (τ, σ, nx)) (hb : b ≤ b') (hg : Rg (σ (A + 84 + 1)) n nd) (cl : Option (Int32 × Sig)) (re : Sig → Option (Int32 × Sig)) (hT : ∀ ρ : Sig, ρ (A + 84 + 1) = σ (A + 84 + 1) → Two cl (re ρ) (fun x y => x.1 = y.1 ∧ Z (A + 5) 2000 (A + 84) n nd σ ρ x.2 y.2 ∧ Few b' (y.2 (A + 84 + 1)))) : ∃ (r : Int32) (h1 h2 : Hp), (cl.bind fun p => some (p.1, ((τ, p.2, nx) : Hp))) = some (r, h1) ∧ ShX12 h1.1 (A + 84) ∧ ((re h1.2.1).bind fun p => some (p.1, ((h1.1, p.2, h1.2.2) : Hp))) = some (r, h2) ∧ Inv A b' h2 := by
  obtain ⟨x, y, e1, -, -, hz, -⟩ := hT σ rfl
  have ex : x.2 (A + 84 + 1) = σ (A + 84 + 1) := hz.2.2.2.1 _ (by omega)
  obtain ⟨x', y', e1', e2', e3', hz', hf'⟩ := hT x.2 ex
  obtain rfl : x = x' := Option.some.inj (e1.symm.trans e1')
  refine ⟨x.1, (τ, x.2, nx), (τ, y'.2, nx), by rw [e1, bsm], hI.s2, ?_, hI.z hb hz' (fun n' nd' h => hg.uniq h) hf'⟩
  dsimp only
  rw [e2', bsm, e3']
theorem Inv.rg {A b : Nat} {τ : Tau} {σ : Sig} {nx n nd : Nat} (hz : ∀ ρ : Sig, ρ (A + 84 + 1) = σ (A + 84 + 1) → Z (A + 5) 2000 (A + 84) n nd σ ρ σ ρ) : Rg (σ (A + 84 + 1)) n nd := (hz σ rfl).g
/-- the word of one that only looks -/
theorem Inv.look {A b : Nat} {τ : Tau} {σ : Sig} {nx : Nat} (hI : Inv A b (τ, σ, nx)) {cl : Option Int32} {re : Sig → Option Int32} {r : Int32} (h1 : cl = some r) (h2 : re σ = some r) : ∃ (r : Int32) (h1 h2 : Hp), (cl.bind fun r => some (r, ((τ, σ, nx) : Hp))) = some (r, h1) ∧ ShX12 h1.1 (A + 84) ∧ ((re h1.2.1).bind fun r => some (r, h1)) = some (r, h2) ∧ Inv A b h2 :=
  ⟨r, (τ, σ, nx), (τ, σ, nx), by rw [h1, bsm], hI.s2, by dsimp only; rw [h2, bsm], hI⟩
/-! word, does, quarters. -/
theorem n10 : ¬ (1 : Int32) = 0 := by decide
theorem law_in (x : Int32) (σ σ' : Sig) : (∃ k, k < 2 ∧ x = nI k ∧ X11_isLaw_f x σ = some 1 ∧ X12_isIn_f x 0 1 σ' = some 1) ∨ (X11_isLaw_f x σ = some 0 ∧ X12_isIn_f x 0 1 σ' = some 0) := by
  rcases inUp x (m := 1) (by decide) with h | h
  · obtain ⟨a, c⟩ := h.le (by decide)
    obtain ⟨k, hk, rfl⟩ := h
    refine Or.inl ⟨k, by omega, rfl, ?_, re_isIn_in a c⟩
    unfold X11_isLaw_f
    rw [if_neg (nI_nn (by omega)), if_neg (show ¬ (2 : Int32) ≤ nI k from nI_ge (b := 2) (by omega) (by decide))]
  · refine Or.inr ⟨?_, re_isIn_out h⟩
    unfold X11_isLaw_f
    by_cases h0 : x < 0
    · rw [if_pos h0]
    · rw [if_neg h0, if_pos]
      have h1 := h.resolve_left h0
      rw [Int32.lt_iff_toInt_lt, nI_toInt (by decide)] at h1
      rw [show (2 : Int32) = nI 2 from rfl, Int32.le_iff_toInt_le, nI_toInt (by decide)]
      omega
theorem hour_in (x : Int32) (σ σ' : Sig) : (∃ k, k < 24 ∧ x = nI k ∧ X11_isHour_f x σ = some 1 ∧ X12_isIn_f x 0 23 σ' = some 1) ∨ (X11_isHour_f x σ = some 0 ∧ X12_isIn_f x 0 23 σ' = some 0) := by
  rcases inUp x (m := 23) (by decide) with h | h
  · obtain ⟨a, c⟩ := h.le (by decide)
    obtain ⟨k, hk, rfl⟩ := h
    refine Or.inl ⟨k, by omega, rfl, ?_, re_isIn_in a c⟩
    unfold X11_isHour_f
    rw [if_neg (nI_nn (by omega)), if_neg (show ¬ (24 : Int32) ≤ nI k from nI_ge (b := 24) (by omega) (by decide))]
  · refine Or.inr ⟨?_, re_isIn_out h⟩
    unfold X11_isHour_f
    by_cases h0 : x < 0
    · rw [if_pos h0]
    · rw [if_neg h0, if_pos]
      have h1 := h.resolve_left h0
      rw [Int32.lt_iff_toInt_lt, nI_toInt (by decide)] at h1
      rw [show (24 : Int32) = nI 24 from rfl, Int32.le_iff_toInt_le, nI_toInt (by decide)]
      omega
/-- in or out of bounds, on both sides -/
theorem within_in (x lo hi : Int32) (σ σ' : Sig) : (lo ≤ x ∧ x ≤ hi ∧ X11_isWithin_f x lo hi σ = some 1 ∧ X12_isIn_f x lo hi σ' = some 1) ∨ (X11_isWithin_f x lo hi σ = some 0 ∧ X12_isIn_f x lo hi σ' = some 0) := by
  by_cases h : lo ≤ x ∧ x ≤ hi
  · exact Or.inl ⟨h.1, h.2, cl_isW_in h.1 h.2, re_isIn_in h.1 h.2⟩
  · have h' : x < lo ∨ hi < x := by
      by_cases h1 : lo ≤ x
      · exact Or.inr (Int32.not_le.mp (fun q => h ⟨h1, q⟩))
      · exact Or.inl (Int32.not_le.mp h1)
    exact Or.inr ⟨cl_isW_out h', re_isIn_out h'⟩
theorem place_in (x : Int32) (σ σ' : Sig) : (∃ k, k ≤ 5 ∧ x = nI k ∧ X11_isPlace_f x σ = some 1 ∧ X12_isPlace_f x σ' = some 1) ∨ (X11_isPlace_f x σ = some 0 ∧ X12_isPlace_f x σ' = some 0) := by
  rcases inUp x (m := 5) (by decide) with h | h
  · obtain ⟨k, hk, e⟩ := id h
    exact Or.inl ⟨k, hk, e, (plc (σ := σ) h).1, (plc (σ := σ') h).2⟩
  · exact Or.inr ⟨(plcN (σ := σ) h).1, (plcN (σ := σ') h).2⟩
theorem st_word (A b : Nat) : St_word (Inv A b) A (A + 84) := by
  intro h v1 v2 v3 v4 v5 v6 hI
  obtain ⟨τ, σ, nx⟩ := h
  obtain ⟨n, nd, hT, hF, hz⟩ := hI.zz
  refine hI.run (Nat.le_refl _) (hz σ rfl).g (X11_word_f τ A v1 v2 v3 v4 (bz v5) (bz v6) σ) (fun ρ => X12_word_f (A + 84) v1 v2 v3 v4 (bz v5) (bz v6) ρ) (fun ρ e => ?_)
  have hzz := hz ρ e
  have no : Two (some ((-1 : Int32), σ)) (some ((-1 : Int32), ρ)) (fun x y => x.1 = y.1 ∧ Z (A + 5) 2000 (A + 84) n nd σ ρ x.2 y.2 ∧ Few b (y.2 (A + 84 + 1))) := two_some ⟨rfl, hzz, show Few b (ρ (A + 84 + 1)) by rw [e]; exact hF⟩
  unfold X11_word_f X12_word_f
  rcases law_in v1 σ ρ with ⟨k, hk, rfl, a1, a2⟩ | ⟨a1, a2⟩
  · rw [a1, a2, bsm, bsm, if_neg (by decide), if_neg (by decide)]
    rcases within_in v2 0 3 σ ρ with ⟨-, -, a1, a2⟩ | ⟨a1, a2⟩
    · rw [a1, a2, bsm, bsm, if_neg (by decide), if_neg (by decide)]
      rcases within_in v3 0 99 σ ρ with ⟨-, -, a1, a2⟩ | ⟨a1, a2⟩
      · rw [a1, a2, bsm, bsm, if_neg (by decide), if_neg (by decide)]
        rcases hour_in v4 σ ρ with ⟨q, hq, -, a1, a2⟩ | ⟨a1, a2⟩
        · rw [a1, a2, bsm, bsm, if_neg (by decide), if_neg (by decide)]
          refine two_bind (word_two hzz (by rw [e]; exact hT) ⟨by omega, by omega⟩ hk v2 v3 v4 (bz v5) (bz v6)) (fun x y hxy => ?_)
          obtain ⟨x1, x2⟩ := x
          obtain ⟨y1, y2⟩ := y
          obtain ⟨r1, r2, r3, r4⟩ := hxy
          dsimp only at r1 r2 r3 r4 ⊢
          subst r1
          have hf : Few b (y2 (A + 84 + 1)) := by rw [r4 _ (by omega) (by omega), e]; exact hF
          exact two_if Iff.rfl (fun _ _ => two_some ⟨rfl, hzz.fx r3 r4, hf⟩) (fun _ _ => two_some ⟨rfl, hzz.fx r3 r4, hf⟩)
        · rw [a1, a2, bsm, bsm, if_pos rfl, if_pos rfl]; exact no
      · rw [a1, a2, bsm, bsm, if_pos rfl, if_pos rfl]; exact no
    · rw [a1, a2, bsm, bsm, if_pos rfl, if_pos rfl]; exact no
  · rw [a1, a2, bsm, bsm, if_pos rfl, if_pos rfl]; exact no
theorem st_does (A b : Nat) : St_does (Inv A b) A (A + 84) := by
  intro h v1 hI
  obtain ⟨τ, σ, nx⟩ := h
  obtain ⟨n, nd, hT, hF, hz⟩ := hI.zz
  refine hI.run (Nat.le_refl _) (hz σ rfl).g (X11_does_f τ A v1 σ) (fun ρ => X12_does_f (A + 84) v1 ρ) (fun ρ e => ?_)
  have hzz := hz ρ e
  have h12 := hzz.n12
  have no : Two (some ((-1 : Int32), σ)) (some ((-1 : Int32), ρ)) (fun x y => x.1 = y.1 ∧ Z (A + 5) 2000 (A + 84) n nd σ ρ x.2 y.2 ∧ Few b (y.2 (A + 84 + 1))) := two_some ⟨rfl, hzz, show Few b (ρ (A + 84 + 1)) by rw [e]; exact hF⟩
  unfold X11_does_f X12_does_f
  rcases oneOf v1 n with ⟨p, hp, rfl⟩ | ho
  · rw [has4_in h12 hzz.cn hp, re_isOne_in h12 hzz.wn hp, bsm, bsm, if_neg (by decide), if_neg (by decide), hzz.p0 hp, bsm, rO0 (by omega), bsm]
    refine two_if Iff.rfl (fun _ _ => ?_) (fun _ _ => no)
    obtain ⟨s, t1, t2, t3, t4⟩ := cl_tally hzz
    have hz1 : Z (A + 5) 2000 (A + 84) n nd σ ρ s ρ := hzz.scr (fun a _ h2 h3 _ _ _ => t2 a h2 h3)
    rw [t1, bsm]
    refine two_bind (deed_two hz1 (by rw [e]; exact hT) ⟨by omega, by omega⟩ ⟨t3, t4⟩ hp) (fun x y hxy => ?_)
    obtain ⟨x1, x2⟩ := x
    obtain ⟨y1, y2⟩ := y
    obtain ⟨r1, r2, r3⟩ := hxy
    dsimp only at r1 r2 r3 ⊢
    have hz2 := hz1.fx r2 r3
    have ew : y2 (A + 84 + 1) = ρ (A + 84 + 1) := r3 _ (by omega) (by omega)
    have hf : Few b (y2 (A + 84 + 1)) := by rw [ew, e]; exact hF
    rcases r1 with ⟨rfl, rfl⟩ | ⟨l, q, hl, rfl, hq, e26, hd⟩
    · rw [if_pos rfl]; exact two_some ⟨rfl, hz2, hf⟩
    · have ld25 : ld 20240 (y2 (A + 84 + 1)) (2560 + nI l) = some (ρ (A + 84 + 1) (2560 + l)) := by
        rw [show (2560 + nI l : Int32) = nI (2560 + l) from nI_add 2560 l, ldn (by omega) (by decide), ew]
      have ld26 : ld 20240 (y2 (A + 84 + 1)) (2660 + nI l) = some (nI q) := by
        rw [show (2660 + nI l : Int32) = nI (2660 + l) from nI_add 2660 l, ldn (by omega) (by decide), ew, e26]
      rw [if_neg (ne_m1 (by omega)), ld25, bsm]
      unfold X12_does_b54
      rw [ld26, bsm, bsm]
      rcases hd with ⟨hd1, rfl⟩ | ⟨hd1, rfl⟩
      · rw [hd1, if_pos rfl]; exact two_some ⟨by rw [Nat.add_comm]; exact (nI_add 1 q).symm, hz2, hf⟩
      · rw [hd1, if_neg (by decide)]; exact two_some ⟨by rw [Nat.add_comm]; exact (nI_add 101 q).symm, hz2, hf⟩
  · rw [has4_out h12 hzz.cn ho, re_isOne_out h12 hzz.wn ho, bsm, bsm, if_pos rfl, if_pos rfl]; exact no
theorem Few.cn {b k nd : Nat} {w w' : wF} (h : Few b w) (hc : Cn k nd w w') : Few (b + k) w' := by
  obtain ⟨⟨x, hx, ex⟩, ⟨y, hy, ey⟩⟩ := h
  obtain ⟨⟨u, hu, eu⟩, ⟨v, hv, ev⟩, -⟩ := hc
  exact ⟨⟨x + u, by omega, by rw [eu, ex, nI_add]⟩, ⟨y + v, by omega, by rw [ev, ey, nI_add]⟩⟩
theorem st_quarters (A b : Nat) : St_quarters (Inv A b) (Inv A (b + 11520)) A (A + 84) := by
  intro h v1 hI
  obtain ⟨τ, σ, nx⟩ := h
  obtain ⟨n, nd, hT, hF, hz⟩ := hI.zz
  refine hI.run (show b ≤ b + 11520 by omega) (hz σ rfl).g (X11_quarters_f τ A v1 σ) (fun ρ => X12_quarters_f (A + 84) v1 ρ) (fun ρ e => ?_)
  have hzz := hz ρ e
  have hF' : Few b (ρ (A + 84 + 1)) := by rw [e]; exact hF
  have hT' : Txs τ σ A nx (rfld τ A 2) (A + 5) (ρ (A + 84 + 1)) := by rw [e]; exact hT
  have no : Two (some ((-1 : Int32), σ)) (some ((-1 : Int32), ρ)) (fun x y => x.1 = y.1 ∧ Z (A + 5) 2000 (A + 84) n nd σ ρ x.2 y.2 ∧ Few (b + 11520) (y.2 (A + 84 + 1))) := two_some ⟨rfl, hzz, hF'.mono (by omega)⟩
  unfold X11_quarters_f X12_quarters_f
  rcases within_in v1 1 960 σ ρ with ⟨l1, l2, a1, a2⟩ | ⟨a1, a2⟩
  · rw [a1, a2, bsm, bsm, if_neg n10, if_neg n10, LW.2.1, bsm, LW.2.2.1, bsm, hzz.sca.2.2.2.2.2.2.1, hzz.sca.2.2.2.2.2.2.2.1]
    refine two_if Iff.rfl (fun _ _ => ?_) (fun _ _ => no)
    rw [LW.2.2.2.2.2.2.2.2.2.2.2.2.1, bsm, hzz.sca.2.2.2.2.2.2.2.2.2.1]
    obtain ⟨m, hm, rfl⟩ : ∃ m, m ≤ 960 ∧ v1 = nI m := by
      rcases inUp v1 (m := 960) (by decide) with h | h
      · exact h
      · exact absurd h (fun q => q.elim (fun q => absurd (Int32.lt_of_lt_of_le q (show (0 : Int32) ≤ 1 by decide)) (Int32.not_lt.mpr l1)) (fun q => absurd q (Int32.not_lt.mpr l2)))
    have key := fuel_up (m := m) (C := fun fu c => ∀ σ' ρ' : Sig, Z (A + 5) 2000 (A + 84) n nd σ ρ σ' ρ' → Cn (12 * c) nd (ρ (A + 84 + 1)) (ρ' (A + 84 + 1)) → Two (X11_quarters_b60 τ A fu (nI m) (ρ (A + 84 + 1) 12) (nI c) σ') (X12_quarters_b47 (A + 84) fu (nI m) (ρ (A + 84 + 1) 12) (nI c) ρ') (fun x y => x.1 = y.1 ∧ Z (A + 5) 2000 (A + 84) n nd σ ρ x.2 y.2 ∧ Few (b + 11520) (y.2 (A + 84 + 1)))) (fun fu σ' ρ' h1 h2 => ?_) (fun fu c hc ih σ' ρ' h1 h2 => ?_) m 0 FU (by omega) (by unfold FU; omega)
    · rw [nI_0] at key; exact key σ ρ hzz Cn.rf
    · unfold X11_quarters_b60 X12_quarters_b47
      rw [if_pos (Int32.le_refl _), if_pos (Int32.le_refl _), LW.2.2.2.2.2.2.2.2.2.2.2.2.1, bsm, h1.sca.2.2.2.2.2.2.2.2.2.1]
      exact two_some ⟨rfl, h1, (hF'.cn h2).mono (by omega)⟩
    · unfold X11_quarters_b60 X12_quarters_b47
      rw [if_neg (nI_ge hc (by omega)), if_neg (nI_ge hc (by omega)), nI_s]
      refine two_bind (pass_two h1 hT' ⟨by omega, by omega⟩) (fun s r hsr => ?_)
      exact ih s r hsr.1 ((h2.tr hsr.2).mono (by omega))
  · rw [a1, a2, bsm, bsm, if_pos rfl, if_pos rfl]; exact no
