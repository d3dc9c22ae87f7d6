/-! undo. -/
theorem ldn2 {N : Nat} {f : Nat → Int32} {j : Nat} (hj : j < N) (hN : j < 2 ^ 31) : ld N f (nI j) = some (f j) := by
  have h1 : (nI j).toNatClampNeg = j := nI_clamp (by omega)
  unfold ld
  rw [if_neg (by rw [h1]; exact fun q => q.elim (fun z => nI_pos (n := j) (by omega) z) (fun z => by omega)), h1]
theorem nodup_le : ∀ {N : Nat} {l : List Nat}, l.Nodup → (∀ x ∈ l, x < N) → l.length ≤ N
  | 0, l, _, h => by
    cases l with
    | nil => exact Nat.le_refl _
    | cons a l => exact absurd (h a (List.mem_cons_self ..)) (by omega)
  | N + 1, l, hn, h => by
    by_cases c : N ∈ l
    · have h1 := List.length_erase_of_mem c
      have h2 : (l.erase N).length ≤ N := nodup_le (hn.erase N) (fun x hx => by
        have := (hn.mem_erase_iff).mp hx
        have := h x this.2
        omega)
      omega
    · have h2 : l.length ≤ N := nodup_le hn (fun x hx => by
        have := h x hx
        have : x ≠ N := fun z => c (z ▸ hx)
        omega)
      omega
theorem re_isIt {B k d : Nat} {ds : List Nat} {ρ : Sig} (hd : d < 40) (hk : k + 206 ≤ 20240) (hb : d ∈ ds ↔ ((ρ (B + 1) (k + (if d < 20 then 4 else 5))) >>> (nI (d % 20) &&& 31)) &&& 1 = 1) : X12_isIt_f B (nI k) (nI d) ρ = some (if d ∈ ds then 1 else 0) := by
  have er : (nI d - nI d / 20 * 20 : Int32) = nI (d % 20) := pk_rem (a := d) (d := 20) (by omega) (by decide) (by decide)
  have i4 : nI k + 4 = nI (k + 4) := nI_add k 4
  have i5 : nI k + 5 = nI (k + 5) := nI_add k 5
  unfold X12_isIt_f X12_isIt_b16
  rw [er, i4, i5]
  by_cases c : d < 20
  · rw [if_pos c] at hb
    rw [if_neg (show ¬ (20 : Int32) ≤ nI d from nI_ge (b := 20) c (by decide)), ldn (by omega) (by decide), bsm]
    by_cases e : d ∈ ds
    · rw [if_pos e, if_pos (hb.mp e)]
    · rw [if_neg e, if_neg (fun z => e (hb.mpr z))]
  · rw [if_neg c] at hb
    rw [if_pos (show (20 : Int32) ≤ nI d from nI_le (a := 20) (by omega) (by omega)), ldn (by omega) (by decide), bsm]
    by_cases e : d ∈ ds
    · rw [if_pos e, if_pos (hb.mp e)]
    · rw [if_neg e, if_neg (fun z => e (hb.mpr z))]
theorem re_isIt40 {B k : Nat} {ρ : Sig} (hk : k + 206 ≤ 20240) : ∃ v, X12_isIt_f B (nI k) (nI 40) ρ = some v := by
  have i5 : nI k + 5 = nI (k + 5) := nI_add k 5
  unfold X12_isIt_f X12_isIt_b16
  rw [if_pos (show (20 : Int32) ≤ nI 40 by decide), i5, ldn (by omega) (by decide), bsm]
  split
  · exact ⟨_, rfl⟩
  · exact ⟨_, rfl⟩
/-- nothing has been done to them since -/
def Still (w : wF) (k : Nat) (ds : List Nat) : Prop := ∀ d ∈ ds, w (230 + 8 * d + 2) = w (k + 166 + d)
theorem cl_can {P b N k nd : Nat} {σ : Sig} {w : wF} {ds : List Nat} (hl : ds.length ≤ 40) (hN : 6 * ds.length ≤ N) (h4 : σ b 4 = nI ds.length) (h40 : nd ≤ 40) (hc : σ P 0 = nI nd) (hlt : ∀ d ∈ ds, d < nd) (hD : ∀ d, d < nd → σ (P + 3) d = w (230 + 8 * d + 2)) (he : ∀ i d, ds[i]? = some d → σ (b + 1) (6 * i) = nI d ∧ σ (b + 1) (6 * i + 5) = w (k + 166 + d)) : (Still w k ds → X0_canGoBack_b25 b N P σ FU 0 = some 1) ∧ (¬ Still w k ds → X0_canGoBack_b25 b N P σ FU 0 = some 0) := by
  have key := fuel_up (m := ds.length) (C := fun fu i => (∀ i' d, i' < i → ds[i']? = some d → w (230 + 8 * d + 2) = w (k + 166 + d)) → (Still w k ds → X0_canGoBack_b25 b N P σ fu (nI i) = some 1) ∧ (¬ Still w k ds → X0_canGoBack_b25 b N P σ fu (nI i) = some 0)) (fun fu h => ?_) (fun fu i hi ih h => ?_) ds.length 0 FU (by omega) (by unfold FU; omega)
  · exact key (fun i' d hi => absurd hi (by omega))
  · have : Still w k ds := fun d hd => by
      obtain ⟨i, hi⟩ := List.mem_iff_getElem?.mp hd
      exact h i d (List.getElem?_eq_some_iff.mp hi).1 hi
    refine ⟨fun _ => ?_, fun z => absurd this z⟩
    unfold X0_canGoBack_b25; rw [h4, if_pos (Int32.le_refl _)]
  · obtain ⟨d, hd⟩ : ∃ d, ds[i]? = some d := ⟨_, List.getElem?_eq_getElem hi⟩
    have hm : d ∈ ds := List.mem_of_getElem? hd
    have hdn := hlt d hm
    obtain ⟨e0, e5⟩ := he i d hd
    have i6 : (nI i * 6 : Int32) = nI (6 * i) := by rw [show (6 : Int32) = nI 6 from rfl, pk_mul, Nat.mul_comm]
    have i0 : nI (6 * i) + 0 = nI (6 * i) := Int32.add_zero _
    have i5 : nI (6 * i) + 5 = nI (6 * i + 5) := nI_add _ 5
    have st : X0_canGoBack_b25 b N P σ (fu + 1) (nI i) = if w (230 + 8 * d + 2) = w (k + 166 + d) then X0_canGoBack_b25 b N P σ fu (nI (i + 1)) else some 0 := by
      show (if (σ b 4) ≤ nI i then _ else _) = _
      rw [h4, if_neg (nI_ge hi (by omega)), i6, i0, i5, ldn2 (by omega) (by omega), bsm, e0, has3_in h40 hc hdn, bsm, if_neg n10, ldn (by omega) (by decide), bsm, ldn2 (by omega) (by omega), bsm, e5, hD d hdn, nI_s]
    rw [st]
    by_cases c : w (230 + 8 * d + 2) = w (k + 166 + d)
    · rw [if_pos c]
      refine ih (fun i' d' h1 h2 => ?_)
      by_cases e : i' = i
      · subst e; rw [hd] at h2; injection h2 with h2; rw [← h2]; exact c
      · exact h i' d' (by omega) h2
    · rw [if_neg c]
      exact ⟨fun z => absurd (z d hm) c, fun _ => rfl⟩
theorem re_can {B k nd : Nat} {x2 x3 : Int32} {ρ : Sig} {ds : List Nat} (hk7 : 7880 ≤ k) (hk : k + 206 ≤ 20240) (h40 : nd ≤ 40) (hc : ρ (B + 1) 10 = nI nd) (hlt : ∀ d ∈ ds, d < nd) (hb : ∀ d, d < 40 → (d ∈ ds ↔ ((ρ (B + 1) (k + (if d < 20 then 4 else 5))) >>> (nI (d % 20) &&& 31)) &&& 1 = 1)) : (Still (ρ (B + 1)) k ds → X12_undo_b82 B FU (nI k) x2 x3 0 ρ = X12_undo_b138 B FU (nI k) x2 x3 0 ρ) ∧ (¬ Still (ρ (B + 1)) k ds → X12_undo_b82 B FU (nI k) x2 x3 0 ρ = some (0, ρ)) := by
  have key := fuel_up (m := nd) (C := fun fu y => (∀ d, d < y → d ∈ ds → ρ (B + 1) (230 + 8 * d + 2) = ρ (B + 1) (k + 166 + d)) → (Still (ρ (B + 1)) k ds → X12_undo_b82 B fu (nI k) x2 x3 (nI y) ρ = X12_undo_b138 B FU (nI k) x2 x3 0 ρ) ∧ (¬ Still (ρ (B + 1)) k ds → X12_undo_b82 B fu (nI k) x2 x3 (nI y) ρ = some (0, ρ))) (fun fu h => ?_) (fun fu y hy ih h => ?_) nd 0 FU (by omega) (by unfold FU; omega)
  · exact key (fun d hd => absurd hd (by omega))
  · have : Still (ρ (B + 1)) k ds := fun d hd => h d (hlt d hd) hd
    refine ⟨fun _ => ?_, fun z => absurd this z⟩
    unfold X12_undo_b82; rw [LW.2.2.2.2.2.2.2.2.2.2.1, bsm, hc, if_pos (Int32.le_refl _)]
  · have ik : (nI k + 166 + nI y : Int32) = nI (k + 166 + y) := by rw [show (166 : Int32) = nI 166 from rfl, nI_add, nI_add]
    unfold X12_undo_b82
    rw [LW.2.2.2.2.2.2.2.2.2.2.1, bsm, hc, if_neg (nI_ge hy (by omega)), re_isIt (by omega) hk (hb y (by omega)), bsm, nI_s]
    by_cases e : y ∈ ds
    · rw [if_pos e, if_neg n10, rD2 (by omega), bsm, ik, ldn (by omega) (by decide), bsm]
      by_cases c : ρ (B + 1) (230 + 8 * y + 2) = ρ (B + 1) (k + 166 + y)
      · rw [if_pos c]
        refine ih (fun d h1 h2 => ?_)
        by_cases e1 : d = y
        · rw [e1]; exact c
        · exact h d (by omega) h2
      · rw [if_neg c]
        exact ⟨fun z => absurd (z y e) c, fun _ => rfl⟩
    · rw [if_neg e, if_pos rfl]
      refine ih (fun d h1 h2 => h d (by
        have : d ≠ y := fun z => e (z ▸ h2)
        omega) h2)
/-- what a debt's field goes back to -/
def bk (w : wF) (k d f : Nat) : Int32 := if f = 0 then w (k + 6 + 4 * d) else if f = 1 then w (k + 6 + 4 * d + 1) else if f = 4 then w (k + 6 + 4 * d + 2) else if f = 2 then w (k + 6 + 4 * d + 3) else w (230 + 8 * d + f)
def RB (B k : Nat) (ds : List Nat) (ρ : Sig) (y : Nat) (r : Sig) : Prop := (∀ x, x ≠ B + 1 → r x = ρ x) ∧ (∀ j, (j < 230 ∨ 550 ≤ j) → r (B + 1) j = ρ (B + 1) j) ∧ ∀ d f, d < 40 → f < 8 → r (B + 1) (230 + 8 * d + f) = if d < y ∧ d ∈ ds then bk (ρ (B + 1)) k d f else ρ (B + 1) (230 + 8 * d + f)
def undT (B : Nat) (x1 x3 : Int32) (σ : Sig) : Option (Int32 × Sig) := if x3 = 0 then (X12_undo_b251 B x1 σ) else ((ld 20240 (σ (B + 1)) 10).bind fun v3 => (st 20240 σ (B + 1) 10 (v3 - 1)).bind fun s5 => X12_undo_b251 B x1 s5)
theorem re_goes {B k had : Nat} {x3 : Int32} {ρ : Sig} {ds : List Nat} (hk7 : 7880 ≤ k) (hk : k + 206 ≤ 20240) (h40 : had ≤ 40) (hb : ∀ d, d < 40 → (d ∈ ds ↔ ((ρ (B + 1) (k + (if d < 20 then 4 else 5))) >>> (nI (d % 20) &&& 31)) &&& 1 = 1)) : ∃ r, X12_undo_b138 B FU (nI k) (nI had) x3 0 ρ = undT B (nI k) x3 r ∧ RB B k ds ρ had r := by
  have key := fuel_up (m := had) (C := fun fu y => ∀ r0, RB B k ds ρ y r0 → ∃ r, X12_undo_b138 B fu (nI k) (nI had) x3 (nI y) r0 = undT B (nI k) x3 r ∧ RB B k ds ρ had r) (fun fu r h => ⟨r, ?_, h⟩) (fun fu y hy ih r h => ?_) had 0 FU (by omega) (by unfold FU; omega)
  · exact key ρ ⟨fun _ _ => rfl, fun _ _ => rfl, fun d f _ _ => by rw [if_neg (by omega)]⟩
  · unfold X12_undo_b138 undT; rw [if_pos (Int32.le_refl _)]
  · obtain ⟨k1, k2, k3⟩ := h
    have k45 : ∀ e : Nat, (if e < 20 then 4 else 5) = 4 ∨ (if e < 20 then 4 else 5) = 5 := fun e => by split <;> omega
    have ik : (nI k + 6 + 4 * nI y : Int32) = nI (k + 6 + 4 * y) := by rw [show (6 : Int32) = nI 6 from rfl, show (4 : Int32) = nI 4 from rfl, pk_mul, nI_add, nI_add]
    have j1 : nI (k + 6 + 4 * y) + 1 = nI (k + 6 + 4 * y + 1) := nI_add _ 1
    have j2 : nI (k + 6 + 4 * y) + 2 = nI (k + 6 + 4 * y + 2) := nI_add _ 2
    have j3 : nI (k + 6 + 4 * y) + 3 = nI (k + 6 + 4 * y + 3) := nI_add _ 3
    have hy4 : y < 40 := by omega
    unfold X12_undo_b138
    rw [if_neg (nI_ge hy (by omega)), re_isIt (ds := ds) hy4 hk (by rw [k2 _ (by have := k45 y; omega)]; exact hb y hy4), bsm, nI_s]
    by_cases e : y ∈ ds
    · rw [if_pos e, if_neg n10, ik, j1, j2, j3, ldn (by omega) (by decide), bsm, rL0 hy4, bsm, ldn (by omega) (by decide), bsm, rL1 hy4, bsm, ldn (by omega) (by decide), bsm, rL4 hy4, bsm, ldn (by omega) (by decide), bsm, rL2 hy4, bsm]
      rw [wr_o (by omega), wr_o (by omega), wr_o (by omega), wr_o (by omega), wr_o (by omega), wr_o (by omega), k2 _ (by omega), k2 _ (by omega), k2 _ (by omega), k2 _ (by omega)]
      refine ih _ ⟨fun x hx => by rw [wr_row hx, wr_row hx, wr_row hx, wr_row hx]; exact k1 x hx, fun j hj => by rw [wr_o (by omega), wr_o (by omega), wr_o (by omega), wr_o (by omega)]; exact k2 j hj, fun d f hd hf => ?_⟩
      by_cases e1 : d = y
      · subst e1
        rw [if_pos ⟨by omega, e⟩]
        unfold bk
        by_cases f0 : f = 0
        · subst f0; rw [wr_o (by omega), wr_o (by omega), wr_o (by omega), if_pos rfl]; exact wr_v
        by_cases f1 : f = 1
        · subst f1; rw [wr_o (by omega), wr_o (by omega), wr_v, if_neg (by decide), if_pos rfl]
        by_cases f4 : f = 4
        · subst f4; rw [wr_o (by omega), wr_v, if_neg (by decide), if_neg (by decide), if_pos rfl]
        by_cases f2 : f = 2
        · subst f2; rw [wr_v, if_neg (by decide), if_neg (by decide), if_neg (by decide), if_pos rfl]
        rw [wr_o (by omega), wr_o (by omega), wr_o (by omega), wr_o (by omega), if_neg f0, if_neg f1, if_neg f4, if_neg f2, k3 _ _ hd hf, if_neg (by omega)]
      · rw [wr_o (by omega), wr_o (by omega), wr_o (by omega), wr_o (by omega), k3 d f hd hf]
        by_cases c : d < y ∧ d ∈ ds
        · rw [if_pos c, if_pos ⟨by omega, c.2⟩]
        · rw [if_neg c, if_neg (fun z => c ⟨by omega, z.2⟩)]
    · rw [if_neg e, if_pos rfl]
      refine ih r ⟨k1, k2, fun d f hd hf => ?_⟩
      rw [k3 d f hd hf]
      by_cases c : d < y ∧ d ∈ ds
      · rw [if_pos c, if_pos ⟨by omega, c.2⟩]
      · rw [if_neg c, if_neg (fun z => c ⟨by
          have : d ≠ y := fun q => e (q ▸ z.2)
          omega, z.2⟩)]
def CB (P b : Nat) (ds : List Nat) (σ : Sig) (i : Nat) (s : Sig) : Prop := (∀ a, (a ≤ P ∨ P + 5 < a ∨ a = P + 4) → s a = σ a) ∧ (∀ d f, f < 7 → (∀ i', i' < i → ds[i']? ≠ some d) → s (P + (1 + f)) d = σ (P + (1 + f)) d) ∧ ∀ i' d, i' < i → ds[i']? = some d → s (P + (1 + 0)) d = σ (b + 1) (6 * i' + 1) ∧ s (P + (1 + 1)) d = σ (b + 1) (6 * i' + 2) ∧ s (P + (1 + 4)) d = σ (b + 1) (6 * i' + 3) ∧ s (P + (1 + 2)) d = σ (b + 1) (6 * i' + 4)
def ungT (b P Q N : Nat) (σ : Sig) : Option Sig := if (σ b 5) = (-1) then (X0_goBack_b124 b N P Q σ) else ((pI σ P 0 ((σ P 0) - 1)).bind fun s3 => X0_goBack_b124 b N P Q s3)
theorem cl_back {P Q b N nd : Nat} {σ : Sig} {ds : List Nat} (hPb : P + 8 ≤ b) (hnd : ds.Nodup) (hl : ds.length ≤ 40) (hN : 6 * ds.length ≤ N) (h4 : σ b 4 = nI ds.length) (h40 : nd ≤ 40) (hc : σ P 0 = nI nd) (hlt : ∀ d ∈ ds, d < nd) (he : ∀ i d, ds[i]? = some d → σ (b + 1) (6 * i) = nI d) : ∃ s, X0_goBack_f b N P Q σ = ungT b P Q N s ∧ CB P b ds σ ds.length s := by
  have key := fuel_up (m := ds.length) (C := fun fu i => ∀ s0, CB P b ds σ i s0 → ∃ s, X0_goBack_b2 b N P Q fu (nI i) s0 = ungT b P Q N s ∧ CB P b ds σ ds.length s) (fun fu s h => ⟨s, ?_, h⟩) (fun fu i hi ih s h => ?_) ds.length 0 FU (by omega) (by unfold FU; omega)
  · exact key σ ⟨fun _ _ => rfl, fun _ _ _ _ => rfl, fun i' d h => absurd h (by omega)⟩
  · unfold X0_goBack_b2 ungT
    rw [h.1 b (by omega), h4, if_pos (Int32.le_refl _)]
  · obtain ⟨k1, k2, k3⟩ := h
    obtain ⟨d, hd⟩ : ∃ d, ds[i]? = some d := ⟨_, List.getElem?_eq_getElem hi⟩
    have hdn := hlt d (List.mem_of_getElem? hd)
    have e0 := he i d hd
    have i6 : (nI i * 6 : Int32) = nI (6 * i) := by rw [show (6 : Int32) = nI 6 from rfl, pk_mul, Nat.mul_comm]
    have i0 : nI (6 * i) + 0 = nI (6 * i) := Int32.add_zero _
    have i1 : nI (6 * i) + 1 = nI (6 * i + 1) := nI_add _ 1
    have i2 : nI (6 * i) + 2 = nI (6 * i + 2) := nI_add _ 2
    have i3 : nI (6 * i) + 3 = nI (6 * i + 3) := nI_add _ 3
    have i4 : nI (6 * i) + 4 = nI (6 * i + 4) := nI_add _ 4
    have T : ∀ (s : Sig) (a : Nat) (v : Int32), st 40 s a (nI d) v = some (wr s a d v) := fun s a v => stn (by omega) (by decide)
    have L : ∀ g, g < 6 → ∀ f : Nat → Int32, ld N f (nI (6 * i + g)) = some (f (6 * i + g)) := fun g hg f => ldn2 (by omega) (by omega)
    have r1 : s (b + 1) = σ (b + 1) := k1 _ (by omega)
    unfold X0_goBack_b2
    rw [k1 b (by omega), h4, if_neg (nI_ge hi (by omega)), i6, i0, i1, i2, i3, i4, show ld N (s (b + 1)) (nI (6 * i)) = some (s (b + 1) (6 * i)) from L 0 (by decide) _, bsm, r1, e0, has3_in h40 (by rw [k1 P (by omega)]; exact hc) hdn, bsm, if_neg n10, L 1 (by decide), bsm, T, bsm, L 2 (by decide), bsm, T, bsm, L 3 (by decide), bsm, T, bsm, L 4 (by decide), bsm, T, bsm, nI_s]
    rw [wr_row (show b + 1 ≠ P + 5 by omega), wr_row (show b + 1 ≠ P + 2 by omega), wr_row (show b + 1 ≠ P + 1 by omega), r1]
    have uniq : ∀ i' , i' ≠ i → ds[i']? ≠ some d := fun i' hne h' => by
      have h1 := (List.getElem?_eq_some_iff.mp h').1
      exact hne ((List.getElem?_inj h1 hnd).mp (h'.trans hd.symm))
    refine ih _ ⟨fun a ha => ?_, fun e f hf hne => ?_, fun i' e h1 h2 => ?_⟩
    · rw [wr_row (by omega), wr_row (by omega), wr_row (by omega), wr_row (by omega)]; exact k1 a ha
    · have hed : e ≠ d := fun z => hne i (by omega) (by rw [z]; exact hd)
      have W : ∀ (t : Sig) (a : Nat) (v : Int32), wr t a d v (P + (1 + f)) e = t (P + (1 + f)) e := fun t a v => by
        by_cases z : P + (1 + f) = a
        · rw [← z, wr_o hed]
        · rw [wr_row z]
      rw [W, W, W, W]; exact k2 e f hf (fun i' hi' => hne i' (by omega))
    · by_cases z : i' = i
      · subst z
        rw [hd] at h2; injection h2 with h2; subst h2
        refine ⟨?_, ?_, ?_, ?_⟩
        · rw [wr_row (by omega), wr_row (by omega), wr_row (by omega)]; exact wr_v
        · rw [wr_row (by omega), wr_row (by omega)]; exact wr_v
        · rw [wr_row (by omega)]; exact wr_v
        · exact wr_v
      · have hed : e ≠ d := fun q => uniq i' z (q ▸ h2)
        have W : ∀ (t : Sig) (a x : Nat) (v : Int32), wr t a d v x e = t x e := fun t a x v => by
          by_cases z : x = a
          · rw [← z, wr_o hed]
          · rw [wr_row z]
        simp only [W]
        exact k3 i' e (by omega) h2
