/-! whom. -/
theorem i32_sub_eq {a b c : Int32} : a - b = c ↔ a = c + b := by
  constructor
  · intro h; rw [← h, Int32.sub_add_cancel]
  · intro h; rw [h, Int32.add_sub_cancel]
section WH
variable {τ : Tau} {A nx : Nat} {kp : Option Nat} {W M B n nd : Nat} {σ0 ρ0 σ ρ : Sig}
def WR (W B : Nat) (σ ρ : Sig) (x y : Int32 × Sig) : Prop := x.1 = y.1 ∧ (y.1 = 0 ∨ y.1 = 1) ∧ FxC W σ x.2 ∧ FxR B ρ y.2
theorem FxC.tr {σ' σ'' : Sig} (h : FxC W σ σ') (h' : FxC W σ' σ'') : FxC W σ σ'' := fun a h1 h2 => (h' a h1 h2).trans (h a h1 h2)
theorem FxR.tr {ρ' ρ'' : Sig} (h : FxR B ρ ρ') (h' : FxR B ρ' ρ'') : FxR B ρ ρ'' := fun a h1 h2 => (h' a h1 h2).trans (h a h1 h2)
theorem FxC.rf : FxC W σ σ := fun _ _ _ => rfl
theorem FxR.rf : FxR B ρ ρ := fun _ _ _ => rfl
/-- the word of one noise, on both sides -/
theorem can_two (h : Z W M B n nd σ0 ρ0 σ ρ) (hT : Txs τ σ0 A nx kp W (ρ0 (B + 1))) (hW : A + 5 ≤ W ∧ W + 35 ≤ A + 95) (sort made hour child feast : Int32) : Two ((X10_isWord_f τ W M (σ (W + 23) 6) sort made hour child feast σ).bind fun p => if p.1 = 0 then (some ((0 : Int32), p.2)) else (some ((1 : Int32), p.2))) ((X12_isWord_f B (ρ (B + 1) 8) sort made hour child feast ρ).bind fun p => if p.1 = 0 then (some ((0 : Int32), p.2)) else (some ((1 : Int32), p.2))) (WR W B σ ρ) := by
  obtain ⟨k, hk, ek⟩ := h.g.2.2.2.2.2.2.2.1
  rw [h.sca.2.2.2.2.1, ek]
  refine two_bind (word_two h hT hW (show k < 2 by omega) sort made hour child feast) (fun x y hxy => ?_)
  obtain ⟨r1, r2, r3, r4⟩ := hxy
  rw [r1]
  exact two_if Iff.rfl (fun _ _ => two_some ⟨rfl, Or.inl rfl, r3, r4⟩) (fun _ _ => two_some ⟨rfl, Or.inr rfl, r3, r4⟩)
theorem re_canBe (h12 : n ≤ 12) {p r pl : Nat} (hp : p < n) (hr : r ≤ 5) (hpl : pl ≤ 5) (epl : ρ (B + 1) (90 + 8 * p + 1) = nI pl) (sort made hour feast loud : Int32) : X12_canBe_f B (nI p) (nI r) sort made hour feast loud ρ = if made = loud + ρ (B + 1) (50 + (6 * pl + r)) then ((X12_isWord_f B (ρ (B + 1) 8) sort made hour (if ρ (B + 1) (90 + 8 * p) = 1 then 1 else 0) feast ρ).bind fun p => if p.1 = 0 then (some ((0 : Int32), p.2)) else (some ((1 : Int32), p.2))) else some (0, ρ) := by
  unfold X12_canBe_f X12_canBe_b55
  rw [rO1 (by omega), bsm, epl, re_wallB hpl hr, bsm]
  by_cases c : made - ρ (B + 1) (50 + (6 * pl + r)) = loud
  · rw [if_pos c, if_pos (i32_sub_eq.mp c), LW.2.2.2.2.2.2.2.2.1, bsm, rO0 (by omega), bsm]
    by_cases c1 : ρ (B + 1) (90 + 8 * p) = 1
    · rw [if_pos c1, if_pos c1]
    · rw [if_neg c1, if_neg c1]
  · rw [if_neg c, if_neg (fun q => c (i32_sub_eq.mpr q))]
theorem cmw_one {fu t : Nat} {x2 x3 x4 x9 : Int32} : X10_canMakeWord_b176 τ W M (fu + 1) t x2 x3 x4 1 x9 σ = some (1, σ) := by
  unfold X10_canMakeWord_b176
  rw [if_neg n10, if_pos (Or.inr rfl), ite_self]
theorem say_two (h : Z W M B n nd σ0 ρ0 σ ρ) (hT : Txs τ σ0 A nx kp W (ρ0 (B + 1))) (hW : A + 5 ≤ W ∧ W + 35 ≤ A + 95) {p r pl q wl : Nat} (hp : p < n) (hr : r ≤ 5) (hpl : pl ≤ 5) (hq : q ≤ 99) (hwl : wl ≤ 99) (epl : ρ (B + 1) (90 + 8 * p + 1) = nI pl) (ewl : ρ (B + 1) (50 + (6 * pl + r)) = nI wl) (hour feast : Int32) : Two (X10_canMakeWord_f τ W M (nI p) (nI (q + wl)) hour feast σ) (X12_canSay_f B (nI p) (nI r) hour feast (nI q) ρ) (WR W B σ ρ) := by
  have h12 := h.n12
  have em : nI q + nI wl = nI (q + wl) := nI_add q wl
  have cb : ∀ (ρ' : Sig), FxR B ρ ρ' → ∀ sort made : Int32, X12_canBe_f B (nI p) (nI r) sort made hour feast (nI q) ρ' = if made = nI (q + wl) then ((X12_isWord_f B (ρ' (B + 1) 8) sort made hour (if ρ (B + 1) (90 + 8 * p) = 1 then 1 else 0) feast ρ').bind fun p => if p.1 = 0 then (some ((0 : Int32), p.2)) else (some ((1 : Int32), p.2))) else some (0, ρ') := by
    intro ρ' f sort made
    have e1 : ρ' (B + 1) = ρ (B + 1) := f _ (by omega) (by omega)
    rw [re_canBe h12 hp hr hpl (by rw [e1]; exact epl), e1, ewl, em]
  obtain ⟨⟨so, hso, eso⟩, -, -, -, ⟨ru, hru, eru⟩, -⟩ := h.g.1.2.2 p hp
  unfold X10_canMakeWord_f X12_canSay_f
  rw [h.p0 hp, bsm, rO0 (by omega), bsm, bsm]
  have no : Two (some ((0 : Int32), σ)) (some ((0 : Int32), ρ)) (WR W B σ ρ) := two_some ⟨rfl, Or.inl rfl, FxC.rf, FxR.rf⟩
  have once : ∀ (sort x child : Int32), child = (if ρ (B + 1) (90 + 8 * p) = 1 then 1 else 0) → Two (if x = nI (q + wl) then ((X10_isWord_f τ W M (σ (W + 23) 6) sort (nI (q + wl)) hour child feast σ).bind fun p => if p.1 = 0 then (some ((0 : Int32), p.2)) else (some ((1 : Int32), p.2))) else (some (0, σ))) ((X12_canBe_f B (nI p) (nI r) sort x hour feast (nI q) ρ).bind fun p => if p.1 = 0 then (some ((0 : Int32), p.2)) else (some ((1 : Int32), p.2))) (WR W B σ ρ) := by
    intro sort x child hc
    rw [cb ρ FxR.rf]
    by_cases c : x = nI (q + wl)
    · rw [if_pos c, if_pos c, c, hc]
      obtain ⟨x', y', e1, e2, r1, r2, r3, r4⟩ := can_two h hT hW sort (nI (q + wl)) hour (if ρ (B + 1) (90 + 8 * p) = 1 then 1 else 0) feast
      rw [e1, e2, bsm]
      rcases r2 with z | z
      · rw [if_pos z]; exact two_some ⟨r1.trans z, Or.inl rfl, r3, r4⟩
      · rw [if_neg (by rw [z]; decide)]; exact two_some ⟨r1.trans z, Or.inr rfl, r3, r4⟩
    · rw [if_neg c, if_neg c, bsm, if_pos rfl]; exact no
  have hs3 : so = 0 ∨ so = 1 ∨ so = 2 := by omega
  rcases hs3 with rfl | rfl | rfl
  · have eso : ρ (B + 1) (90 + 8 * p) = 0 := eso
    rw [eso, if_neg (by decide), if_pos rfl, if_neg (by decide), if_neg (by decide), cl_night, bsm, re_night, bsm]
    refine two_if Iff.rfl (fun _ _ => ?_) (fun _ _ => ?_)
    · rw [h.p4 hp, bsm, rO4 (by omega), bsm, bsm, eru, if_neg (nI_nn (by omega))]
      by_cases c4 : ru = 4
      · subst c4; rw [if_neg (by decide), if_pos (by decide)]; exact no
      rw [if_pos (show nI ru < 4 from nI_lt (by omega : ru < 4) (by decide)), if_neg (show ¬ nI ru = 4 from fun z => c4 (nI_inj (b := 4) (by omega) (by decide) z)), show (2 + nI ru : Int32) = nI (2 + ru) from nI_add 2 ru]
      obtain ⟨t, hrc, htt, hx⟩ := h.txt hT hW (show 2 + ru < 6 by omega)
      obtain ⟨m, c, s, so', sv, g1, g2, g3, g4, g5, g6, g7, g8, g9, g10⟩ := hx
      obtain ⟨t1, t2, t3⟩ := g3.tl
      rw [ldr_ok (show 2 + ru < 6 by omega) (by decide), bsm, hrc, bsm, t1, t2, t3, chk_yes g3]
      have key := fuel_up (m := m) (C := fun fu i => ∀ σ' ρ' : Sig, FxC W σ σ' → FxR B ρ ρ' → Two (X10_canMakeWord_b176 τ W M fu t (nI (q + wl)) hour feast 0 (nI i) σ') (X12_canSay_b128 B fu (nI p) (nI r) hour feast (nI q) (nI (2 + ru)) (nI i) ρ') (WR W B σ ρ)) (fun fu σ' ρ' f1 f2 => ?_) (fun fu i hi ih σ' ρ' f1 f2 => ?_) m 0 FU (by omega) (by unfold FU; omega)
      · rw [nI_0] at key; exact key σ ρ FxC.rf FxR.rf
      · have e0 : σ' t 0 = nI m := by rw [f1 t (by omega) (by omega)]; exact g4
        have e1 : ρ' (B + 1) = ρ (B + 1) := f2 _ (by omega) (by omega)
        unfold X10_canMakeWord_b176 X12_canSay_b128
        rw [e0, if_pos (Int32.le_refl _), if_pos (Or.inl rfl), e1, show (2550 + nI (2 + ru) : Int32) = nI (2550 + (2 + ru)) from nI_add 2550 _, ldn (by omega) (by decide), bsm, g5, if_pos (Int32.le_refl _)]
        exact two_some ⟨rfl, Or.inl rfl, f1, f2⟩
      · have e0 : σ' t 0 = nI m := by rw [f1 t (by omega) (by omega)]; exact g4
        have e1 : ρ' (B + 1) = ρ (B + 1) := f2 _ (by omega) (by omega)
        have z' : Z W M B n nd σ0 ρ0 σ' ρ' := h.fx f1 f2
        have hfu : ∃ f, fu = f + 1 := by
          cases fu with
          | zero =>
            obtain ⟨x, y, e, -⟩ := ih σ' ρ' f1 f2
            unfold X10_canMakeWord_b176 at e; cases e
          | succ f => exact ⟨f, rfl⟩
        have ed : ∀ s' : Sig, FxC W σ s' → X7_deedOf_f t (m + 1) m c (nI i) s' = some (σ (t + 2) i) := by
          intro s' f'
          unfold X7_deedOf_f
          rw [if_neg (nI_nn (by omega)), if_neg (show ¬ Int32.ofNat m ≤ nI i from nI_ge hi (by omega)), ldn hi (by omega), bsm, f' _ (by omega) (by omega)]
        have eL : (16 * nI (2 + ru) + nI i : Int32) = nI (16 * (2 + ru) + i) := by rw [show (16 : Int32) = nI 16 from rfl, pk_mul, nI_add]
        have l25 : ld 20240 (ρ' (B + 1)) (2560 + nI (16 * (2 + ru) + i)) = some (ρ (B + 1) (2560 + 16 * (2 + ru) + i)) := by
          rw [show (2560 + nI (16 * (2 + ru) + i) : Int32) = nI (2560 + (16 * (2 + ru) + i)) from nI_add 2560 _, ldn (by omega) (by decide), e1, Nat.add_assoc]
        have l26 : ld 20240 (ρ' (B + 1)) (2660 + nI (16 * (2 + ru) + i)) = some (ρ (B + 1) (2660 + 16 * (2 + ru) + i)) := by
          rw [show (2660 + nI (16 * (2 + ru) + i) : Int32) = nI (2660 + (16 * (2 + ru) + i)) from nI_add 2660 _, ldn (by omega) (by decide), e1, Nat.add_assoc]
        obtain ⟨-, -, -, -, q5⟩ := g9 i hi
        rw [if_neg (by omega)] at q5
        -- what the class does with a line that is not his
        have skip : Two (X10_canMakeWord_b215 τ W M (X10_canMakeWord_b176 τ W M fu) t (nI (q + wl)) hour feast (nI i) 0 σ') (X12_canSay_b128 B fu (nI p) (nI r) hour feast (nI q) (nI (2 + ru)) (nI (i + 1)) ρ') (WR W B σ ρ) ∨ σ (t + 2) i = nI (q + wl) + 101 := by
          by_cases cd : σ (t + 2) i = nI (q + wl) + 101
          · exact Or.inr cd
          · refine Or.inl ?_
            unfold X10_canMakeWord_b215 X10_canMakeWord_b236 X10_canMakeWord_b263
            rw [t1, t2, t3, ed σ' f1, bsm, if_neg cd, if_pos rfl, if_pos rfl, nI_s]
            exact ih σ' ρ' f1 f2
        unfold X10_canMakeWord_b176 X12_canSay_b128
        rw [e0, if_neg (nI_ge hi (by omega)), if_pos rfl, t1, t2, t3, ed σ' f1, bsm, show (2550 + nI (2 + ru) : Int32) = nI (2550 + (2 + ru)) from nI_add 2550 _, ldn (by omega) (by decide), bsm, e1, g5, if_neg (nI_ge hi (by omega)), eL, ← e1, l25, bsm, bsm, nI_s i, nI_s (q + wl)]
        have n1 : nI (q + wl) + 1 = nI (q + wl + 1) := nI_add _ 1
        have n101 : nI (q + wl) + 101 = nI (q + wl + 101) := nI_add _ 101
        have gt99 : (99 : Int32) < nI (q + wl) ↔ 99 < q + wl := nI_ltI (a := 99) (by decide) (by omega)
        have hit : ∀ (sort : Int32) (v : Nat), v = q + wl → ρ (B + 1) (2660 + 16 * (2 + ru) + i) = nI v → Two ((X10_isWord_f τ W M (σ' (W + 23) 6) sort (nI (q + wl)) hour 0 feast σ').bind fun p => if p.1 = 0 then (X10_canMakeWord_b176 τ W M fu t (nI (q + wl)) hour feast 0 (nI (i + 1)) p.2) else (X10_canMakeWord_b176 τ W M fu t (nI (q + wl)) hour feast 1 (nI (i + 1)) p.2)) (X12_canSay_b192 B (X12_canSay_b128 B fu) (nI p) (nI r) hour feast (nI q) (nI (2 + ru)) (nI i) (nI (16 * (2 + ru) + i)) sort (nI r) (nI p) ρ') (WR W B σ ρ) := by
          intro sort v hv ev
          subst hv
          unfold X12_canSay_b192
          rw [l26, bsm, ev, cb ρ' f2, if_pos rfl, eso, if_neg (by decide), nI_s]
          obtain ⟨k, hk, ek⟩ := z'.g.2.2.2.2.2.2.2.1
          rw [z'.sca.2.2.2.2.1, ek]
          obtain ⟨x, y, a1, a2, r1, r2, r3, r4⟩ := word_two z' hT hW (show k < 2 by omega) sort (nI (q + wl)) hour 0 feast
          rw [a1, bsm, a2, bsm, r1]
          rcases r2 with z | z
          · rw [z, if_pos rfl, if_pos rfl, bsm]
            dsimp only
            rw [if_pos rfl]
            exact ih x.2 y.2 (f1.tr r3) (f2.tr r4)
          · obtain ⟨f, rfl⟩ := hfu
            rw [z, if_neg n10, if_neg n10, bsm]
            dsimp only
            rw [if_neg n10, cmw_one]
            exact two_some ⟨rfl, Or.inr rfl, f1.tr r3, f2.tr r4⟩
        have miss : ∀ (sort : Int32) (v : Nat), v ≤ 99 → v ≠ q + wl → ρ (B + 1) (2660 + 16 * (2 + ru) + i) = nI v → X12_canSay_b192 B (X12_canSay_b128 B fu) (nI p) (nI r) hour feast (nI q) (nI (2 + ru)) (nI i) (nI (16 * (2 + ru) + i)) sort (nI r) (nI p) ρ' = X12_canSay_b128 B fu (nI p) (nI r) hour feast (nI q) (nI (2 + ru)) (nI (i + 1)) ρ' := by
          intro sort v hv9 hv ev
          unfold X12_canSay_b192
          rw [l26, bsm, ev, cb ρ' f2, if_neg (fun z => hv (nI_inj (by omega) (by omega) z)), bsm]
          dsimp only
          rw [if_pos rfl, nI_s]
        obtain ⟨v, hq5⟩ := q5
        rcases hq5 with ⟨v9, ev, ⟨ew, edd⟩ | ⟨ew, edd⟩⟩ | ⟨ew, edd⟩
        · -- he talks
          rw [ew, if_neg (show ¬ (1 : Int32) = 3 by decide), if_pos (show (1 : Int32) = 1 from rfl), edd]
          by_cases cv : v = q + wl
          · rw [if_pos (by rw [cv]), if_neg (fun z => absurd (gt99.mp z) (by omega))]
            unfold X10_canMakeWord_b215 X10_canMakeWord_b236
            rw [t1, t2, t3, ed σ' f1, bsm, edd, n101, if_neg (fun z => absurd (nI_inj (by omega) (by omega) z) (by omega)), if_neg n10, nI_s]
            refine two_eq ?_ rfl (hit 0 v cv ev)
            congr 1
            funext p
            obtain ⟨p1, p2⟩ := p
            dsimp only
            unfold X10_canMakeWord_b263
            rw [if_pos rfl, nI_s]
          · rw [if_neg (fun z => cv (by have := nI_inj (by omega) (by omega) z; omega)), miss 0 v v9 cv ev]
            unfold X10_canMakeWord_b214
            refine skip.resolve_right (fun z => ?_)
            rw [edd, n101] at z
            exact absurd (nI_inj (by omega) (by omega) z) (by omega)
        · -- he works
          rw [ew, if_neg (show ¬ (2 : Int32) = 3 by decide), if_neg (show ¬ (2 : Int32) = 1 by decide), edd]
          have b214 : (if nI (v + 101) = nI (q + wl + 1) then (if 99 < nI (q + wl) then (X10_canMakeWord_b214 τ W M (X10_canMakeWord_b176 τ W M fu) t (nI (q + wl)) hour feast (nI i) σ') else (X10_canMakeWord_b215 τ W M (X10_canMakeWord_b176 τ W M fu) t (nI (q + wl)) hour feast (nI i) 1 σ')) else (X10_canMakeWord_b214 τ W M (X10_canMakeWord_b176 τ W M fu) t (nI (q + wl)) hour feast (nI i) σ')) = X10_canMakeWord_b215 τ W M (X10_canMakeWord_b176 τ W M fu) t (nI (q + wl)) hour feast (nI i) 0 σ' := by
            by_cases c1 : nI (v + 101) = nI (q + wl + 1)
            · have := nI_inj (by omega) (by omega) c1
              rw [if_pos c1, if_pos (gt99.mpr (by omega))]; rfl
            · rw [if_neg c1]; rfl
          rw [b214]
          by_cases cv : v = q + wl
          · unfold X10_canMakeWord_b215 X10_canMakeWord_b236 X10_canMakeWord_b263
            rw [t1, t2, t3, ed σ' f1, bsm, edd, n101, if_pos (by rw [cv]), if_pos rfl, if_neg n10, nI_s]
            exact hit 3 v cv ev
          · rw [miss 3 v v9 cv ev]
            refine skip.resolve_right (fun z => ?_)
            rw [edd, n101] at z
            exact absurd (nI_inj (by omega) (by omega) z) (by omega)
        · -- he hushes
          rw [ew, if_pos (show (3 : Int32) = 3 from rfl), edd, if_neg (fun z => nI_ne0 (by omega) (by omega) z.symm)]
          unfold X10_canMakeWord_b214
          refine skip.resolve_right (fun z => ?_)
          rw [edd, n101] at z
          exact nI_ne0 (by omega) (by omega) z.symm
    · rw [h.p3 hp, bsm, rO3 (by omega), bsm]
      refine two_if Iff.rfl (fun _ _ => no) (fun _ _ => ?_)
      rw [h.p2 hp, bsm, rO2 (by omega), bsm]
      exact once 1 _ 0 (by rw [eso, if_neg (by decide)])
  · have eso : ρ (B + 1) (90 + 8 * p) = 1 := eso
    rw [eso, if_pos rfl, if_neg (by decide), if_pos rfl, h.p3 hp, bsm, rO3 (by omega), bsm]
    refine two_if Iff.rfl (fun _ _ => no) (fun _ _ => ?_)
    rw [h.p2 hp, bsm, rO2 (by omega), bsm]
    exact once 2 _ 1 (by rw [eso, if_pos rfl])
  · have eso : ρ (B + 1) (90 + 8 * p) = 2 := eso
    rw [eso, if_neg (by decide), if_neg (by decide), if_pos rfl]
    exact no
end WH
theorem st_whom (A b : Nat) : St_whom (Inv A b) A (A + 84) := by
  intro h v1 v2 v3 v4 hI
  obtain ⟨τ, σ, nx⟩ := h
  obtain ⟨n, nd, hT, hF, hz⟩ := hI.zz
  refine hI.run (Nat.le_refl _) (hz σ rfl).g (X11_whom_f τ A v1 v2 v3 v4 σ) (fun ρ => X12_whom_f (A + 84) v1 v2 v3 v4 ρ) (fun ρ e => ?_)
  have hzz := hz ρ e
  have h12 := hzz.n12
  have no : Two (some ((-1 : Int32), σ)) (some ((-1 : Int32), ρ)) (fun x y => x.1 = y.1 ∧ Z (A + 5) 2000 (A + 84) n nd σ ρ x.2 y.2 ∧ Few b (y.2 (A + 84 + 1))) := two_some ⟨rfl, hzz, show Few b (ρ (A + 84 + 1)) by rw [e]; exact hF⟩
  unfold X11_whom_f X12_whom_f X10_byWhom_f
  rcases place_in v1 σ ρ with ⟨r, hr, rfl, a1, a2⟩ | ⟨a1, a2⟩
  rotate_left
  · rw [a1, a2, bsm, bsm, if_pos rfl, if_pos rfl]; exact no
  rw [a1, a2, bsm, bsm, if_neg n10, if_neg n10]
  rcases within_in v2 0 9999 σ ρ with ⟨-, -, a1, a2⟩ | ⟨a1, a2⟩
  rotate_left
  · rw [a1, a2, bsm, bsm, if_pos rfl, if_pos rfl]; exact no
  rw [a1, a2, bsm, bsm, if_neg n10, if_neg n10]
  rcases hour_in v3 σ ρ with ⟨-, -, -, a1, a2⟩ | ⟨a1, a2⟩
  rotate_left
  · rw [a1, a2, bsm, bsm, if_pos rfl, if_pos rfl]; exact no
  rw [a1, a2, bsm, bsm, if_neg n10, if_neg n10]
  rcases within_in v4 0 99 σ ρ with ⟨l1, l2, a1, a2⟩ | ⟨a1, a2⟩
  rotate_left
  · rw [a1, a2, bsm, bsm, if_pos rfl, if_pos rfl]; exact no
  rw [a1, a2, bsm, bsm, if_neg n10, if_neg n10]
  obtain ⟨q, hq, rfl⟩ := within_up (m := 99) (by decide) l1 l2
  rw [cl_feastOn, bsm, hzz.sca.2.2.2.2.2.2.2.2.1]
  have key := fuel_up (m := n) (C := fun fu p => ∀ (set : Int32) (σ' ρ' : Sig), FxC (A + 5) σ σ' → FxR (A + 84) ρ ρ' → Two (X10_byWhom_b6 τ (A + 5) 2000 fu (nI r) (feastV (ρ (A + 84 + 1) 7) v2) v3 (nI q) set (nI p) σ') (X12_whom_b47 (A + 84) fu (nI r) v2 v3 (nI q) set (nI p) ρ') (fun x y => x.1 = y.1 ∧ Z (A + 5) 2000 (A + 84) n nd σ ρ x.2 y.2 ∧ Few b (y.2 (A + 84 + 1)))) (fun fu set σ' ρ' f1 f2 => ?_) (fun fu p hp ih set σ' ρ' f1 f2 => ?_) n 0 FU (by omega) (by unfold FU; omega)
  · rw [nI_0] at key
    refine two_eq ?_ rfl (key 0 σ ρ FxC.rf FxR.rf)
    cases X10_byWhom_b6 τ (A + 5) 2000 FU (nI r) (feastV (ρ (A + 84 + 1) 7) v2) v3 (nI q) 0 0 σ <;> rfl
  · have z' := hzz.fx f1 f2
    have e1 : ρ' (A + 84 + 1) = ρ (A + 84 + 1) := f2 _ (by omega) (by omega)
    unfold X10_byWhom_b6 X12_whom_b47
    rw [z'.cn, if_pos (Int32.le_refl _), LW.2.2.2.2.2.2.2.2.2.1, bsm, z'.wn, if_pos (Int32.le_refl _)]
    exact two_some ⟨rfl, z', show Few b (ρ' (A + 84 + 1)) by rw [e1, e]; exact hF⟩
  · have z' := hzz.fx f1 f2
    have e1 : ρ' (A + 84 + 1) = ρ (A + 84 + 1) := f2 _ (by omega) (by omega)
    obtain ⟨-, ⟨pl, hpl, epl⟩, -⟩ := z'.g.1.2.2 p hp
    obtain ⟨wl, hwl, ewl⟩ := z'.g.2.2.2.2.2.2.2.2.1 (6 * pl + r) (by omega)
    unfold X10_byWhom_b6 X12_whom_b47
    rw [z'.cn, if_neg (nI_ge hp (by omega)), LW.2.2.2.2.2.2.2.2.2.1, bsm, z'.wn, if_neg (nI_ge hp (by omega)), z'.p1 hp, bsm, epl, cl_wallB z' hpl hr, bsm, ewl, nI_add, re_feast, bsm, e1, nI_s]
    refine two_bind (say_two z' (by rw [e]; exact hT) ⟨by omega, by omega⟩ hp hr hpl hq hwl epl ewl v3 _) (fun x y hxy => ?_)
    obtain ⟨x1, x2⟩ := x
    obtain ⟨y1, y2⟩ := y
    obtain ⟨r1, r2, r3, r4⟩ := hxy
    dsimp only at r1 r2 r3 r4 ⊢
    subst r1
    rw [show set ||| (0 : Int32) = set from Int32.or_zero]
    exact two_if Iff.rfl (fun _ _ => ih _ x2 y2 (f1.tr r3) (f2.tr r4)) (fun _ _ => ih _ x2 y2 (f1.tr r3) (f2.tr r4))
