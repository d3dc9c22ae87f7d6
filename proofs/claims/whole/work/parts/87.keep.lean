/-! A DEBT'S QUARTER kept or begun again, on both sides. -/
/-- hours left of all debts -/
def lefts (w : wF) (d : Nat) : Int32 := w (230 + 8 * d + 2)
/-- what a quarter does to the counts -/
def Cn (k nd : Nat) (w w' : wF) : Prop := (∃ x, x ≤ k ∧ w' 12 = w 12 + nI x) ∧ (∃ y, y ≤ k ∧ w' 13 = w 13 + nI y) ∧ w' 12 + sm (lefts w') nd = w 12 + sm (lefts w) nd
theorem i32_add0 (a : Int32) : a + nI 0 = a := by rw [nI_0, Int32.add_zero]
theorem Cn.rf {k nd : Nat} {w : wF} : Cn k nd w w := ⟨⟨0, by omega, (i32_add0 _).symm⟩, ⟨0, by omega, (i32_add0 _).symm⟩, rfl⟩
theorem Cn.tr {k k' nd : Nat} {w w' w'' : wF} (h : Cn k nd w w') (h' : Cn k' nd w' w'') : Cn (k + k') nd w w'' := by
  obtain ⟨⟨x, hx, e1⟩, ⟨y, hy, e2⟩, e3⟩ := h
  obtain ⟨⟨x', hx', e1'⟩, ⟨y', hy', e2'⟩, e3'⟩ := h'
  exact ⟨⟨x + x', by omega, by rw [e1', e1, Int32.add_assoc, nI_add]⟩, ⟨y + y', by omega, by rw [e2', e2, Int32.add_assoc, nI_add]⟩, e3'.trans e3⟩
theorem Cn.mono {k k' nd : Nat} {w w' : wF} (h : Cn k nd w w') (hk : k ≤ k') : Cn k' nd w w' := by
  obtain ⟨⟨x, hx, e1⟩, ⟨y, hy, e2⟩, e3⟩ := h
  exact ⟨⟨x, by omega, e1⟩, ⟨y, by omega, e2⟩, e3⟩
theorem sm_eq {f g : Nat → Int32} : ∀ (m : Nat), (∀ d, d < m → f d = g d) → sm f m = sm g m
  | 0, _ => rfl
  | m + 1, h => by rw [sm, sm, sm_eq m (fun d hd => h d (by omega)), h m (by omega)]
theorem Cn.fr {k nd : Nat} {w w' : wF} (h12 : w' 12 = w 12) (h13 : w' 13 = w 13) (hl : ∀ d, d < nd → w' (230 + 8 * d + 2) = w (230 + 8 * d + 2)) : Cn k nd w w' :=
  ⟨⟨0, by omega, by rw [i32_add0]; exact h12⟩, ⟨0, by omega, by rw [i32_add0]; exact h13⟩, by rw [h12, sm_eq (f := lefts w') (g := lefts w) nd hl]⟩
theorem sm_less {f g : Nat → Int32} {d : Nat} : ∀ (m : Nat), d < m → (∀ x, x < m → x ≠ d → f x = g x) → f d = g d - 1 → sm f m = sm g m - 1
  | 0, h, _, _ => absurd h (by omega)
  | m + 1, h, h1, h2 => by
    rw [sm, sm]
    by_cases c : d = m
    · subst c
      rw [sm_eq d (fun x hx => h1 x (by omega) (by omega)), h2, Int32.sub_eq_add_neg, Int32.sub_eq_add_neg, Int32.add_assoc]
    · rw [sm_less m (by omega) (fun x hx hne => h1 x (by omega) hne) h2, h1 m (by omega) (fun z => c z.symm), Int32.sub_eq_add_neg, Int32.sub_eq_add_neg, Int32.add_assoc, Int32.add_assoc, Int32.add_comm (-1)]
/-- one debt's own ranges -/
def Dok (w : wF) (n d : Nat) : Prop := (∃ k, k < n ∧ w (230 + 8 * d) = nI k) ∧ (∃ k, k < n ∧ w (230 + 8 * d + 1) = nI k) ∧ upTo (w (230 + 8 * d + 2)) 200 ∧ upTo (w (230 + 8 * d + 3)) 3 ∧ orNone (w (230 + 8 * d + 4)) n ∧ (∃ k, k < 2 ^ n ∧ w (230 + 8 * d + 5) = nI k) ∧ (w (230 + 8 * d + 2) ≠ 0 → w (230 + 8 * d) ≠ w (230 + 8 * d + 1))
theorem Rg.dok {w : wF} {n nd d : Nat} (h : Rg w n nd) (hd : d < nd) : Dok w n d := h.2.1.2.2 d hd
theorem Rg.atD {w w' : wF} {n nd d : Nat} (h : Rg w n nd) (hd : d < nd) (hw : ∀ j, (j < 230 + 8 * d ∨ 230 + 8 * d + 8 ≤ j) → w' j = w j) (h' : Dok w' n d) : Rg w' n nd := by
  have h40 := h.le40
  refine ⟨h.1.fr (fun j hj => hw j (by omega)), ⟨h40, by rw [hw 10 (by omega)]; exact h.2.1.2.1, fun x hx => ?_⟩, h.2.2.fr (Nat.le_refl _) (fun j hj => hw j (by omega))⟩
  by_cases c : x = d
  · subst c; exact h'
  · have q := h.2.1.2.2 x hx
    rw [hw (230 + 8 * x) (by omega), hw (230 + 8 * x + 1) (by omega), hw (230 + 8 * x + 2) (by omega), hw (230 + 8 * x + 3) (by omega), hw (230 + 8 * x + 4) (by omega), hw (230 + 8 * x + 5) (by omega)]
    exact q
section KE
variable {τ : Tau} {A nx : Nat} {kp : Option Nat} {W M B n nd : Nat} {σ0 ρ0 σ ρ : Sig}
theorem Z.pd3 (h : Z W M B n nd σ0 ρ0 σ ρ) {d : Nat} {v : Int32} (hd : d < nd) (hv : upTo v 3) : Z W M B n nd σ0 ρ0 (wr σ (W + 12 + 4) d v) (wr ρ (B + 1) (230 + 8 * d + 3) v) := by
  refine h.put (i := 16) (Or.inr (Or.inr (Or.inr (Or.inr (Or.inl ⟨hd, 3, by decide, rfl, rfl⟩))))) (h.g.atD hd (fun j hj => upd_ne (by omega)) ?_)
  obtain ⟨q1, q2, q3, q4, q5, q6, q7⟩ := h.g.dok hd
  unfold Dok
  rw [upd_eq, upd_ne (by omega), upd_ne (by omega), upd_ne (by omega), upd_ne (by omega), upd_ne (by omega)]
  exact ⟨q1, q2, q3, hv, q5, q6, q7⟩
theorem Z.pd2 (h : Z W M B n nd σ0 ρ0 σ ρ) {d : Nat} {v : Int32} (hd : d < nd) (hv : upTo v 200) (hl : ρ (B + 1) (230 + 8 * d + 2) ≠ 0) : Z W M B n nd σ0 ρ0 (wr σ (W + 12 + 3) d v) (wr ρ (B + 1) (230 + 8 * d + 2) v) := by
  refine h.put (i := 15) (Or.inr (Or.inr (Or.inr (Or.inr (Or.inl ⟨hd, 2, by decide, rfl, rfl⟩))))) (h.g.atD hd (fun j hj => upd_ne (by omega)) ?_)
  obtain ⟨q1, q2, q3, q4, q5, q6, q7⟩ := h.g.dok hd
  unfold Dok
  rw [upd_eq, upd_ne (by omega), upd_ne (by omega), upd_ne (by omega), upd_ne (by omega), upd_ne (by omega)]
  exact ⟨q1, q2, hv, q4, q5, q6, fun _ => q7 hl⟩
theorem Z.pd6 (h : Z W M B n nd σ0 ρ0 σ ρ) {d : Nat} {v : Int32} (hd : d < nd) : Z W M B n nd σ0 ρ0 (wr σ (W + 12 + 7) d v) (wr ρ (B + 1) (230 + 8 * d + 6) v) := by
  refine h.put (i := 19) (Or.inr (Or.inr (Or.inr (Or.inr (Or.inl ⟨hd, 6, by decide, rfl, rfl⟩))))) (h.g.atD hd (fun j hj => upd_ne (by omega)) ?_)
  obtain ⟨q1, q2, q3, q4, q5, q6, q7⟩ := h.g.dok hd
  unfold Dok
  rw [upd_ne (by omega), upd_ne (by omega), upd_ne (by omega), upd_ne (by omega), upd_ne (by omega), upd_ne (by omega)]
  exact ⟨q1, q2, q3, q4, q5, q6, q7⟩
theorem Z.pc (h : Z W M B n nd σ0 ρ0 σ ρ) {k : Nat} {v : Int32} (hk : 3 ≤ k ∧ k < 7) : Z W M B n nd σ0 ρ0 (wr σ (W + 33) k v) (wr ρ (B + 1) (9 + k) v) :=
  h.put0 (i := 33) (Or.inr (Or.inr (Or.inr (Or.inr (Or.inr (Or.inr (Or.inr (Or.inr (Or.inr ⟨rfl, hk.1, hk.2, rfl⟩))))))))) (by omega)
/-- what a debt's quarter leaves as it was -/
def Kf (d : Nat) (w w' : wF) : Prop := ∀ j, j ≠ 0 → (j < 11 ∨ 15 ≤ j) → (j < 550 ∨ 2550 ≤ j) → j ≠ 230 + 8 * d + 2 → j ≠ 230 + 8 * d + 3 → j ≠ 230 + 8 * d + 6 → w' j = w j
theorem Kf.tr {d : Nat} {w w' w'' : wF} (h : Kf d w w') (h' : Kf d w' w'') : Kf d w w'' := fun j a b c x y z => (h' j a b c x y z).trans (h j a b c x y z)
def KR (W M B n nd : Nat) (σ0 ρ0 : Sig) (d : Nat) (σ ρ s r : Sig) : Prop := Z W M B n nd σ0 ρ0 s r ∧ s (W + 32) = σ (W + 32) ∧ Kf d (ρ (B + 1)) (r (B + 1)) ∧ Cn 1 nd (ρ (B + 1)) (r (B + 1))
theorem begin_two (h : Z W M B n nd σ0 ρ0 σ ρ) {p d : Nat} (hd : d < nd) (why : Int32) : Two (X10_beginAgain_f W M (nI p) (nI d) why σ) ((X12_debtOf_f B (nI d) 3 ρ).bind fun v32 => if v32 ≤ 0 then (X12_keeps_b94 B (nI d) ρ) else ((ld 20240 (ρ (B + 1)) 13).bind fun v35 => (st 20240 ρ (B + 1) 13 (v35 + 1)).bind fun s37 => (X12_writes_f B why (nI p) (nI d) s37).bind fun s39 => X12_keeps_b94 B (nI d) s39)) (KR W M B n nd σ0 ρ0 d σ ρ) := by
  have h40 := h.d40
  have fin : ∀ s r : Sig, Z W M B n nd σ0 ρ0 s r → s (W + 32) = σ (W + 32) → Kf d (ρ (B + 1)) (r (B + 1)) → Cn 1 nd (ρ (B + 1)) (r (B + 1)) → Two (X10_beginAgain_b39 W M (nI d) s) (X12_keeps_b94 B (nI d) r) (KR W M B n nd σ0 ρ0 d σ ρ) := by
    intro s r hz e1 e2 e3
    unfold X10_beginAgain_b39 X12_keeps_b94
    rw [stn (by omega) (by decide), bsm, rL3 (by omega), bsm]
    refine two_some ⟨hz.pd3 hd ⟨0, by decide, rfl⟩, by rw [wr_row (by omega)]; exact e1, fun j a b c x y z => ?_, ?_⟩
    · rw [wr_o y]; exact e2 j a b c x y z
    · have := e3.tr (Cn.fr (k := 0) (w' := wr r (B + 1) (230 + 8 * d + 3) 0 (B + 1)) (by rw [wr_o (by omega)]) (by rw [wr_o (by omega)]) (fun x hx => by rw [wr_o (by omega)]))
      exact this
  unfold X10_beginAgain_f
  rw [h.d3 hd, bsm, rD3 (by omega), bsm]
  refine two_if Iff.rfl (fun _ _ => fin σ ρ h rfl (fun _ _ _ _ _ _ _ => rfl) Cn.rf) (fun _ _ => ?_)
  rw [LW.2.2.2.2.2.2.2.2.2.2.2.2.2.1, bsm, SW.2.2.2.2.2.2.2.2.2.1, bsm]
  unfold pI
  rw [bsm, h.sca.2.2.2.2.2.2.2.2.2.2.1]
  have h1 := h.pc (k := 4) (v := ρ (B + 1) 13 + 1) (by decide)
  refine two_bind (write_two h1 why (nI p) (nI d)) (fun s r hsr => ?_)
  obtain ⟨z1, z2, z3⟩ := hsr
  refine fin s r z1 ?_ (fun j a b c x y z => ?_) ⟨⟨0, by omega, ?_⟩, ⟨1, by omega, ?_⟩, ?_⟩
  · rw [z2 _ (by omega) (by omega), wr_row (by omega)]
  · rw [z3 j (by omega) c, wr_o (by omega)]
  · rw [z3 12 (by decide) (by decide), wr_o (by decide), i32_add0]
  · rw [z3 13 (by decide) (by decide), wr_v]; rfl
  · rw [z3 12 (by decide) (by decide), wr_o (by decide), sm_eq (f := lefts (r (B + 1))) (g := lefts (ρ (B + 1))) nd (fun x hx => by unfold lefts; rw [z3 _ (by omega) (by omega), wr_o (by omega)])]
theorem pay_two (h : Z W M B n nd σ0 ρ0 σ ρ) {p d : Nat} (hd : d < nd) (hl : ρ (B + 1) (230 + 8 * d + 2) ≠ 0) : Two (X10_keepQuiet_b71 W M (nI p) (nI d) σ) ((X12_debtOf_f B (nI d) 3 ρ).bind fun v4 => (X12_lays0_f B (nI d) 3 (v4 + 1) ρ).bind fun s6 => (X12_debtOf_f B (nI d) 3 s6).bind fun v8 => if 4 ≤ v8 then ((X12_lays0_f B (nI d) 3 0 s6).bind fun s11 => (X12_debtOf_f B (nI d) 2 s11).bind fun v13 => (X12_lays0_f B (nI d) 2 (v13 - 1) s11).bind fun s15 => (X12_debtOf_f B (nI d) 6 s15).bind fun v17 => (X12_lays0_f B (nI d) 6 (v17 + 1) s15).bind fun s19 => (ld 20240 (s19 (B + 1)) 12).bind fun v21 => (st 20240 s19 (B + 1) 12 (v21 + 1)).bind fun s23 => (X12_writes_f B 0 (nI p) (nI d) s23).bind fun s25 => (X12_debtOf_f B (nI d) 2 s25).bind fun v27 => if v27 = 0 then ((X12_writes_f B 4 (nI p) (nI d) s25).bind fun s30 => some s30) else (some s25)) else (some s6)) (KR W M B n nd σ0 ρ0 d σ ρ) := by
  have h40 := h.d40
  obtain ⟨-, -, ⟨l, hl2, el⟩, ⟨m, hm, em⟩, -⟩ := h.g.dok hd
  have l40 : ∀ f : Nat → Int32, ld 40 f (nI d) = some (f d) := fun f => ldn (by omega) (by decide)
  have s40 : ∀ (s : Sig) (a : Nat) (v : Int32), st 40 s a (nI d) v = some (wr s a d v) := fun s a v => stn (by omega) (by decide)
  have ep : σ (W + 12 + 4) d = nI m := (h.at (i := 16) (Or.inr (Or.inr (Or.inr (Or.inr (Or.inl ⟨hd, 3, by decide, rfl, rfl⟩)))))).trans em
  unfold X10_keepQuiet_b71 X10_payQuarter_f
  rw [l40, bsm, s40, bsm, l40, bsm, wr_v, ep, rD3 (by omega), bsm, rL3 (by omega), bsm, rD3 (by omega), bsm, wr_v, em, nI_s, bind_if]
  refine two_if Iff.rfl (fun c _ => ?_) (fun c _ => ?_)
  · have h0 := h.pd3 (v := 0) hd ⟨0, by decide, rfl⟩
    have e3 : wr ρ (B + 1) (230 + 8 * d + 3) 0 (B + 1) (230 + 8 * d + 2) = nI l := by rw [wr_o (by omega)]; exact el
    have l1 : 1 ≤ l := by
      rcases Nat.eq_zero_or_pos l with z | z
      · exact absurd (by rw [el, z]; rfl) hl
      · exact z
    have ev : nI l - 1 = nI (l - 1) := pk_sub (a := l) (b := 1) l1
    have h1 := h0.pd2 (v := nI (l - 1)) hd ⟨l - 1, by omega, rfl⟩ (by rw [e3]; exact nI_ne0 (by omega) (by omega))
    have h2 := h1.pd6 (v := ρ (B + 1) (230 + 8 * d + 6) + 1) hd
    have h3 := h2.pc (k := 3) (v := ρ (B + 1) 12 + 1) (by decide)
    have es : σ (W + 12 + 3) d = nI l := (h.at (i := 15) (Or.inr (Or.inr (Or.inr (Or.inr (Or.inl ⟨hd, 2, by decide, rfl, rfl⟩)))))).trans el
    have eh : σ (W + 12 + 7) d = ρ (B + 1) (230 + 8 * d + 6) := h.at (i := 19) (Or.inr (Or.inr (Or.inr (Or.inr (Or.inl ⟨hd, 6, by decide, rfl, rfl⟩)))))
    rw [s40, bsm, wr_wr, l40, bsm, wr_row (show W + 12 + 3 ≠ W + 12 + 4 by omega), es, ev, s40, bsm, l40, bsm, wr_row (show W + 12 + 7 ≠ W + 12 + 3 by omega), wr_row (show W + 12 + 7 ≠ W + 12 + 4 by omega), eh, s40, bsm]
    unfold pI
    rw [bsm, wr_row (show W + 33 ≠ W + 12 + 7 by omega), wr_row (show W + 33 ≠ W + 12 + 3 by omega), wr_row (show W + 33 ≠ W + 12 + 4 by omega), h.sca.2.2.2.2.2.2.2.2.2.1]
    rw [rL3 (by omega), bsm, wr_wr, rD2 (by omega), bsm, e3, ev, rL2 (by omega), bsm, rD6 (by omega), bsm, wr_o (by omega), wr_o (by omega), rL6 (by omega), bsm, LW.2.2.2.2.2.2.2.2.2.2.2.2.1, bsm, wr_o (by omega), wr_o (by omega), wr_o (by omega), SW.2.2.2.2.2.2.2.2.1, bsm, bind_ra]
    refine two_bind (write_two h3 0 (nI p) (nI d)) (fun s r hsr => ?_)
    obtain ⟨z1, z2, z3⟩ := hsr
    rw [z1.d2 hd, bsm, rD2 (by omega), bsm, bind_if]
    have w12 : r (B + 1) 12 = ρ (B + 1) 12 + 1 := by rw [z3 12 (by decide) (by decide), wr_v]
    have w13 : r (B + 1) 13 = ρ (B + 1) 13 := by rw [z3 13 (by decide) (by decide), wr_o (by decide), wr_o (by omega), wr_o (by omega), wr_o (by omega)]
    have wl : r (B + 1) (230 + 8 * d + 2) = nI l - 1 := by rw [z3 _ (by omega) (by omega), wr_o (by omega), wr_o (by omega), wr_v, ev]
    have wo : ∀ x, x < nd → x ≠ d → lefts (r (B + 1)) x = lefts (ρ (B + 1)) x := fun x hx hne => by
      unfold lefts; rw [z3 _ (by omega) (by omega), wr_o (by omega), wr_o (by omega), wr_o (by omega), wr_o (by omega)]
    have hS : sm (lefts (r (B + 1))) nd = sm (lefts (ρ (B + 1))) nd - 1 := sm_less nd hd wo (by unfold lefts; rw [wl, el])
    have hK : Kf d (ρ (B + 1)) (r (B + 1)) := fun j a b c x y z => by rw [z3 j (by omega) c, wr_o (by omega), wr_o z, wr_o x, wr_o y]
    have hC : Cn 1 nd (ρ (B + 1)) (r (B + 1)) := ⟨⟨1, by omega, w12⟩, ⟨0, by omega, by rw [w13, i32_add0]⟩, by
      rw [w12, hS, Int32.sub_eq_add_neg, Int32.add_assoc, Int32.add_comm 1, Int32.add_assoc, Int32.add_left_neg, Int32.add_zero]⟩
    have h32 : s (W + 32) = σ (W + 32) := by rw [z2 _ (by omega) (by omega), wr_row (by omega), wr_row (by omega), wr_row (by omega), wr_row (by omega)]
    refine two_if Iff.rfl (fun _ _ => ?_) (fun _ _ => two_some ⟨z1, h32, hK, hC⟩)
    rw [bind_ra]
    refine two_bind (write_two z1 4 (nI p) (nI d)) (fun s2 r2 hsr2 => ?_)
    obtain ⟨y1, y2, y3⟩ := hsr2
    rw [bsm]
    refine two_some ⟨y1, ?_, fun j a b c x y z => ?_, ?_⟩
    · rw [y2 _ (by omega) (by omega)]; exact h32
    · rw [y3 j (by omega) c]; exact hK j a b c x y z
    · exact hC.tr (Cn.fr (k := 0) (y3 12 (by decide) (by decide)) (y3 13 (by decide) (by decide)) (fun x hx => y3 _ (by omega) (by omega)))
  · have hm3 : m + 1 ≤ 3 := by
      have : ¬ 4 ≤ m + 1 := fun q => c ((nI_leI (a := 4) (by omega) (by omega)).mpr q)
      omega
    rw [bsm]
    refine two_some ⟨h.pd3 hd ⟨m + 1, hm3, rfl⟩, wr_row (by omega), fun j a b c x y z => wr_o y, Cn.fr (wr_o (by omega)) (wr_o (by omega)) (fun x hx => wr_o (by omega))⟩
theorem two_draw2 (h : Z W M B n nd σ0 ρ0 σ ρ) : Two (X8_draw_f (W + 26) 1000 σ) (X12_draw_f B 1000 ρ) (fun x y => x.1 = y.1 ∧ Z W M B n nd σ0 ρ0 x.2 y.2 ∧ (∀ a, a ≠ W + 26 → x.2 a = σ a) ∧ ∀ j, j ≠ 0 → y.2 (B + 1) j = ρ (B + 1) j) := by
  unfold X8_draw_f X12_draw_f
  simp only [LW, SW, pI, bsm]
  rw [if_neg (by decide), if_neg (by decide), if_neg (by decide)]
  refine two_some ⟨?_, ?_, fun a ha => wr_row ha, fun j hj => wr_o hj⟩
  · dsimp only
    rw [wr_same, wr_same, if_pos rfl, if_pos rfl, h.sca.2.2.2.2.2.1]
  · dsimp only
    rw [h.sca.2.2.2.2.2.1]
    exact h.put0 (by simp [Cor]) (by omega)
theorem keep_two (h : Z W M B n nd σ0 ρ0 σ ρ) {p d : Nat} (hp : p < n) (hd : d < nd) (hl : ρ (B + 1) (230 + 8 * d + 2) ≠ 0) : Two (X10_keepQuiet_f W M (nI p) (nI d) σ) (X12_keeps_f B (nI p) (nI d) ρ) (KR W M B n nd σ0 ρ0 d σ ρ) := by
  obtain ⟨v, a1, a2, a3⟩ := betray_two h hp
  have h40 := h.d40
  have lift : ∀ (s' r' : Sig) (o q : Option Sig), (∀ a, a ≠ W + 26 → a ≠ W + 33 → s' a = σ a) → (∀ j, j ≠ 0 → j ≠ 14 → r' (B + 1) j = ρ (B + 1) j) → Two o q (KR W M B n nd σ0 ρ0 d s' r') → Two o q (KR W M B n nd σ0 ρ0 d σ ρ) := by
    intro s' r' o q f1 f2 hT
    refine two_mono hT (fun s r hk => ⟨hk.1, hk.2.1.trans (f1 _ (by omega) (by omega)), fun j a b c x y z => (hk.2.2.1 j a b c x y z).trans (f2 j a (by omega)), ?_⟩)
    have := (Cn.fr (k := 0) (nd := nd) (w := ρ (B + 1)) (f2 12 (by decide) (by decide)) (f2 13 (by decide) (by decide)) (fun x hx => f2 _ (by omega) (by omega))).tr hk.2.2.2
    exact this.mono (by omega)
  have none14 : ∀ r : Sig, (st 20240 r (B + 1) 14 (r (B + 1) 14 + 0)) = some r := fun r => by
    rw [SW.2.2.2.2.2.2.2.2.2.2.1, Int32.add_zero, wr_id rfl]
  unfold X10_keepQuiet_f X12_keeps_f
  rw [a1, bsm, a2, bsm]
  rcases a3 with rfl | rfl
  · rw [if_pos rfl, if_pos rfl, LW.2.2.2.2.2.1, bsm, h.sca.2.2.1]
    have pay : ∀ s r : Sig, Z W M B n nd σ0 ρ0 s r → r (B + 1) (230 + 8 * d + 2) ≠ 0 → Two (X10_keepQuiet_b71 W M (nI p) (nI d) s) (X12_keeps_b41 B (nI p) (nI d) r) (KR W M B n nd σ0 ρ0 d s r) := by
      intro s r hz hl'
      unfold X12_keeps_b41 X12_keeps_b42
      rw [LW.2.2.2.2.2.2.2.2.2.2.2.2.2.2.1, bsm, if_neg (by decide)]
      unfold X12_keeps_b61
      rw [none14, bsm, if_pos (by decide)]
      exact pay_two hz hd hl'
    refine two_if Iff.rfl (fun _ _ => pay σ ρ h hl) (fun _ _ => ?_)
    refine two_bind (two_draw2 h) (fun x y hxy => ?_)
    obtain ⟨x1, x2⟩ := x
    obtain ⟨y1, y2⟩ := y
    obtain ⟨r1, r2, r3, r4⟩ := hxy
    dsimp only at r1 r2 r3 r4 ⊢
    subst r1
    rw [LW.2.2.2.2.2.1, bsm, r2.sca.2.2.1]
    have hl2 : y2 (B + 1) (230 + 8 * d + 2) ≠ 0 := by rw [r4 _ (by omega)]; exact hl
    refine two_if Iff.rfl (fun _ _ => lift x2 y2 _ _ (fun a h1 _ => r3 a h1) (fun j h1 _ => r4 j h1) (pay x2 y2 r2 hl2)) (fun _ _ => ?_)
    unfold X12_keeps_b42 pI
    rw [LW.2.2.2.2.2.2.2.2.2.2.2.2.2.2.1, bsm, bsm, if_pos rfl, r2.sca.2.2.2.2.2.2.2.2.2.2.2.1]
    unfold X12_keeps_b61
    rw [SW.2.2.2.2.2.2.2.2.2.2.1, bsm, if_neg (by decide)]
    have h5 := r2.pc (k := 5) (v := y2 (B + 1) 14 + 1) (by decide)
    refine two_eq (by cases X10_beginAgain_f W M (nI p) (nI d) 2 (wr x2 (W + 33) 5 (y2 (B + 1) 14 + 1)) <;> rfl) rfl (lift _ _ _ _ (fun a h1 h2 => ?_) (fun j h1 h2 => ?_) (begin_two h5 (p := p) hd 2))
    · rw [wr_row h2]; exact r3 a h1
    · rw [wr_o h2]; exact r4 j h1
  · rw [if_neg (by decide), if_neg (by decide)]
    unfold X12_keeps_b42
    rw [LW.2.2.2.2.2.2.2.2.2.2.2.2.2.2.1, bsm, if_neg (by decide)]
    unfold X12_keeps_b61
    rw [none14, bsm, if_neg (by decide)]
    exact two_eq (by cases X10_beginAgain_f W M (nI p) (nI d) 1 σ <;> rfl) rfl (begin_two h (p := p) hd 1)
end KE
