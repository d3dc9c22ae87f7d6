/-! inherit: what becomes of the debts. -/
def isW (w : wF) (p d : Nat) : Bool := decide (w (230 + 8 * d + 2) ≠ 0 ∧ (w (230 + 8 * d) = nI p ∨ w (230 + 8 * d + 1) = nI p))
def hA (w : wF) (p q d : Nat) : Int32 := if w (230 + 8 * d) = nI p then nI q else w (230 + 8 * d)
def hL (w : wF) (p q d : Nat) : Int32 := if w (230 + 8 * d) = nI p then w (230 + 8 * d + 1) else nI q
def hT (w : wF) (p q d : Nat) : Int32 := if w (230 + 8 * d + 4) = hA w p q d then -1 else w (230 + 8 * d + 4)
def hF (w : wF) (p q d : Nat) : Int32 := if hA w p q d = hL w p q d then 0 else w (230 + 8 * d + 2)
def hdn (w : wF) (p q d : Nat) (u : wF) : wF := upd (upd (upd (upd u (230 + 8 * d) (hA w p q d)) (230 + 8 * d + 1) (hL w p q d)) (230 + 8 * d + 4) (hT w p q d)) (230 + 8 * d + 2) (hF w p q d)
def hW (w : wF) (p q : Nat) : Nat → wF
  | 0 => w
  | y + 1 => if isW w p y then hdn w p q y (hW w p q y) else hW w p q y
def dsL (w : wF) (p : Nat) : Nat → List Nat
  | 0 => []
  | y + 1 => if isW w p y then dsL w p y ++ [y] else dsL w p y
section IH
variable {w u : wF} {p q d y z n nd j : Nat}
theorem hW_s (h : isW w p y = true) : hW w p q (y + 1) = hdn w p q y (hW w p q y) := by rw [hW, if_pos h]
theorem hW_n (h : ¬ isW w p y = true) : hW w p q (y + 1) = hW w p q y := by rw [hW, if_neg h]
theorem dsL_s (h : isW w p y = true) : dsL w p (y + 1) = dsL w p y ++ [y] := by rw [dsL, if_pos h]
theorem dsL_n (h : ¬ isW w p y = true) : dsL w p (y + 1) = dsL w p y := by rw [dsL, if_neg h]
theorem hdn_o (h : j < 230 + 8 * d ∨ 230 + 8 * d + 5 ≤ j) : hdn w p q d u j = u j := by
  unfold hdn; rw [upd_ne (by omega), upd_ne (by omega), upd_ne (by omega), upd_ne (by omega)]
theorem hdn_v : hdn w p q d u (230 + 8 * d) = hA w p q d ∧ hdn w p q d u (230 + 8 * d + 1) = hL w p q d ∧ hdn w p q d u (230 + 8 * d + 2) = hF w p q d ∧ hdn w p q d u (230 + 8 * d + 3) = u (230 + 8 * d + 3) ∧ hdn w p q d u (230 + 8 * d + 4) = hT w p q d := by
  unfold hdn
  refine ⟨?_, ?_, ?_, ?_, ?_⟩
  · rw [upd_ne (by omega), upd_ne (by omega), upd_ne (by omega), upd_eq]
  · rw [upd_ne (by omega), upd_ne (by omega), upd_eq]
  · rw [upd_eq]
  · rw [upd_ne (by omega), upd_ne (by omega), upd_ne (by omega), upd_ne (by omega)]
  · rw [upd_ne (by omega), upd_eq]
theorem hW_o : ∀ {y : Nat}, (j < 230 ∨ 230 + 8 * y ≤ j) → hW w p q y j = w j
  | 0, _ => rfl
  | y + 1, h => by
    by_cases c : isW w p y = true
    · rw [hW_s c, hdn_o (by omega)]; exact hW_o (by omega)
    · rw [hW_n c]; exact hW_o (by omega)
theorem isW_iff : isW w p d = true ↔ (w (230 + 8 * d + 2) ≠ 0 ∧ (w (230 + 8 * d) = nI p ∨ w (230 + 8 * d + 1) = nI p)) := by unfold isW; exact decide_eq_true_iff
theorem dsL_mem : ∀ {y e : Nat}, e ∈ dsL w p y → e < y ∧ isW w p e = true
  | 0, e, h => by cases h
  | y + 1, e, h => by
    by_cases c : isW w p y = true
    · rw [dsL_s c, List.mem_append, List.mem_singleton] at h
      rcases h with h | rfl
      · exact ⟨by have := (dsL_mem h).1; omega, (dsL_mem h).2⟩
      · exact ⟨by omega, c⟩
    · rw [dsL_n c] at h
      exact ⟨by have := (dsL_mem h).1; omega, (dsL_mem h).2⟩
theorem dsL_nodup : ∀ {y : Nat}, (dsL w p y).Nodup
  | 0 => List.Pairwise.nil
  | y + 1 => by
    by_cases c : isW w p y = true
    · rw [dsL_s c, List.nodup_append]
      refine ⟨dsL_nodup, List.pairwise_singleton _ _, fun a ha b hb => ?_⟩
      rw [List.mem_singleton.mp hb]
      have := (dsL_mem ha).1
      omega
    · rw [dsL_n c]; exact dsL_nodup
theorem dsL_len : ∀ {y : Nat}, (dsL w p y).length ≤ y
  | 0 => Nat.le_refl _
  | y + 1 => by
    have ih : (dsL w p y).length ≤ y := dsL_len
    by_cases c : isW w p y = true
    · rw [dsL_s c, List.length_append, List.length_singleton]; omega
    · rw [dsL_n c]; omega
theorem dsL_mono : ∀ {z y : Nat}, y ≤ z → (dsL w p y).length ≤ (dsL w p z).length
  | 0, y, h => by obtain rfl : y = 0 := by omega
                  exact Nat.le_refl _
  | z + 1, y, h => by
    by_cases e : y = z + 1
    · subst e; exact Nat.le_refl _
    · have := dsL_mono (z := z) (y := y) (by omega)
      by_cases c : isW w p z = true
      · rw [dsL_s c, List.length_append, List.length_singleton]; omega
      · rw [dsL_n c]; omega
theorem hW_rg (hG : Rg w n nd) (hp : p < n) (hq : q < n) (hpq : p ≠ q) : ∀ {y : Nat}, y ≤ nd → Rg (hW w p q y) n nd
  | 0, _ => hG
  | y + 1, h => by
    have ih := hW_rg hG hp hq hpq (y := y) (by omega)
    by_cases c : isW w p y = true
    · rw [hW_s c]
      refine ih.atD (d := y) (by omega) (fun j hj => hdn_o (by omega)) ?_
      obtain ⟨g1, g2, g3, g4, g5, g6, g7⟩ := hG.dok (d := y) (by omega)
      obtain ⟨x0, x1, x2, x3, x4⟩ := @hdn_v w (hW w p q y) p q y
      unfold Dok
      rw [x0, x1, x2, x3, x4, hdn_o (by omega), hW_o (by omega), hW_o (by omega)]
      refine ⟨?_, ?_, ?_, g4, ?_, g6, ?_⟩
      · unfold hA; split
        · exact ⟨q, hq, rfl⟩
        · exact g1
      · unfold hL; split
        · exact g2
        · exact ⟨q, hq, rfl⟩
      · unfold hF; split
        · exact ⟨0, by decide, rfl⟩
        · exact g3
      · unfold hT; split
        · exact Or.inl rfl
        · exact g5
      · unfold hF; split
        · intro z; exact absurd rfl z
        · next h => intro _; exact h
    · rw [hW_n c]; exact ih
end IH
/-- the class's row of one debt -/
def hdS (P : Nat) (w : wF) (p q d : Nat) (s : Sig) : Sig := wr (wr (wr (wr s (P + 1) d (hA w p q d)) (P + 2) d (hL w p q d)) (P + 5) d (hT w p q d)) (P + 3) d (hF w p q d)
theorem cl_hand {P : Nat} {w : wF} {p q d : Nat} {s : Sig} (hd : d < 40) (e0 : s (P + 1) d = w (230 + 8 * d)) (e1 : s (P + 2) d = w (230 + 8 * d + 1)) (e4 : s (P + 5) d = w (230 + 8 * d + 4)) (e2 : s (P + 3) d = w (230 + 8 * d + 2)) : X3_handDown_f P (nI d) (nI p) (nI q) s = some (hdS P w p q d s) := by
  have L : ∀ f : Nat → Int32, ld 40 f (nI d) = some (f d) := fun f => ldn hd (by decide)
  have T : ∀ (s : Sig) (a : Nat) (v : Int32), st 40 s a (nI d) v = some (wr s a d v) := fun s a v => stn hd (by decide)
  have b49 : ∀ t : Sig, t (P + 1) d = hA w p q d → t (P + 2) d = hL w p q d → t (P + 3) d = w (230 + 8 * d + 2) → X3_handDown_b49 P (nI d) t = some (wr t (P + 3) d (hF w p q d)) := by
    intro t h1 h2 h3
    unfold X3_handDown_b49 hF
    rw [L, bsm, L, bsm, h1, h2]
    by_cases c : hA w p q d = hL w p q d
    · rw [if_pos c, if_pos c, T, bsm]
    · rw [if_neg c, if_neg c, wr_id h3]
  have b27 : ∀ t : Sig, t (P + 1) d = hA w p q d → t (P + 2) d = hL w p q d → t (P + 3) d = w (230 + 8 * d + 2) → t (P + 5) d = w (230 + 8 * d + 4) → X3_handDown_b27 P (nI d) t = some (wr (wr t (P + 5) d (hT w p q d)) (P + 3) d (hF w p q d)) := by
    intro t h1 h2 h3 h4
    unfold X3_handDown_b27
    rw [L, bsm, L, bsm, h1, h4]
    by_cases c : w (230 + 8 * d + 4) = hA w p q d
    · rw [if_pos c, T, bsm, b49 _ (by rw [wr_row (by omega)]; exact h1) (by rw [wr_row (by omega)]; exact h2) (by rw [wr_row (by omega)]; exact h3)]
      unfold hT; rw [if_pos c]
    · have : hT w p q d = w (230 + 8 * d + 4) := by unfold hT; rw [if_neg c]
      rw [if_neg c, this, wr_id h4]; exact b49 t h1 h2 h3
  unfold X3_handDown_f hdS
  rw [L, bsm, e0]
  by_cases c : w (230 + 8 * d) = nI p
  · have a1 : hA w p q d = nI q := by unfold hA; rw [if_pos c]
    have a2 : hL w p q d = w (230 + 8 * d + 1) := by unfold hL; rw [if_pos c]
    rw [if_pos c, T, bsm, ← a1, b27 _ wr_v (by rw [wr_row (by omega), a2]; exact e1) (by rw [wr_row (by omega)]; exact e2) (by rw [wr_row (by omega)]; exact e4), wr_id (k := d) (a := P + 2) (v := hL w p q d) (by rw [wr_row (by omega), a2]; exact e1)]
  · have a1 : hA w p q d = w (230 + 8 * d) := by unfold hA; rw [if_neg c]
    have a2 : hL w p q d = nI q := by unfold hL; rw [if_neg c]
    rw [if_neg c, T, bsm, wr_id (σ := s) (a := P + 1) (v := hA w p q d) (by rw [a1]; exact e0), ← a2, b27 _ (by rw [wr_row (by omega), a1]; exact e0) wr_v (by rw [wr_row (by omega)]; exact e2) (by rw [wr_row (by omega)]; exact e4)]
theorem hdS_rc {σ : Sig} {W : Nat} {w u : wF} {n nd p q d : Nat} (hn : n ≤ 12) (h40 : nd ≤ 40) (hd : d < nd) (h : Rc σ W u n nd) : Rc (hdS (W + 12) w p q d σ) W (hdn w p q d u) n nd := by
  have cp : ∀ f, f < 7 → Cor n nd (13 + f) d (230 + 8 * d + f) := fun f hf => Or.inr (Or.inr (Or.inr (Or.inr (Or.inl ⟨hd, f, hf, rfl, rfl⟩))))
  unfold hdS hdn
  show Rc (wr (wr (wr (wr σ (W + (13 + 0)) d (hA w p q d)) (W + (13 + 1)) d (hL w p q d)) (W + (13 + 4)) d (hT w p q d)) (W + (13 + 2)) d (hF w p q d)) W (upd (upd (upd (upd u (230 + 8 * d + 0) (hA w p q d)) (230 + 8 * d + 1) (hL w p q d)) (230 + 8 * d + 4) (hT w p q d)) (230 + 8 * d + 2) (hF w p q d)) n nd
  exact (((h.put (v := hA w p q d) hn h40 (cp 0 (by decide))).put (v := hL w p q d) hn h40 (cp 1 (by decide))).put (v := hT w p q d) hn h40 (cp 4 (by decide))).put (v := hF w p q d) hn h40 (cp 2 (by decide))
theorem hdS_ne {P : Nat} {w : wF} {p q d : Nat} {s : Sig} {a : Nat} (h : a ≤ P ∨ P + 5 < a) : hdS P w p q d s a = s a := by
  unfold hdS; rw [wr_row (by omega), wr_row (by omega), wr_row (by omega), wr_row (by omega)]
/-- the reference's row of one debt -/
theorem re_hand {B k : Nat} {w : wF} {p q d : Nat} {x3 : Int32} {r : Sig} {K : Int32 → Int32 → Int32 → Int32 → Sig → Option (Int32 × Sig)} (hd : d < 40) (hk7 : 7880 ≤ k) (hk : k + 206 ≤ 20240) (h22 : r B 22 = nI k) (hw : isW w p d = true) (hne : w (230 + 8 * d) ≠ w (230 + 8 * d + 1)) (e : ∀ g, g < 5 → r (B + 1) (230 + 8 * d + g) = w (230 + 8 * d + g)) : ∃ r', X12_inherit_b149 B K (nI p) (nI q) x3 (nI d) r = K (nI p) (nI q) x3 (nI (d + 1)) r' ∧ (∀ x, x ≠ B + 1 → r' x = r x) ∧ r' (B + 1) = hdn w p q d (upd (r (B + 1)) (k + (if d < 20 then 4 else 5)) (r (B + 1) (k + (if d < 20 then 4 else 5)) ||| ((1 : Int32) <<< (nI (d % 20) &&& 31)))) := by
  obtain ⟨s1, hs1⟩ : ∃ s1, s1 = wr r (B + 1) (k + (if d < 20 then 4 else 5)) (r (B + 1) (k + (if d < 20 then 4 else 5)) ||| ((1 : Int32) <<< (nI (d % 20) &&& 31))) := ⟨_, rfl⟩
  have i1 := re_isOf (B := B) (ρ := r) (d := d) (k := k) hd hk h22
  rw [← hs1] at i1
  have e1 : ∀ g, g < 5 → s1 (B + 1) (230 + 8 * d + g) = w (230 + 8 * d + g) := fun g hg => by
    rw [hs1, wr_o (by split <;> omega)]; exact e g hg
  have b218 : ∀ t : Sig, t (B + 1) (230 + 8 * d) = hA w p q d → t (B + 1) (230 + 8 * d + 1) = hL w p q d → t (B + 1) (230 + 8 * d + 2) = w (230 + 8 * d + 2) → X12_inherit_b218 B K (nI p) (nI q) x3 (nI d) t = K (nI p) (nI q) x3 (nI (d + 1)) (wr t (B + 1) (230 + 8 * d + 2) (hF w p q d)) := by
    intro t h1 h2 h3
    unfold X12_inherit_b218 hF
    rw [rD0 hd, bsm, rD1 hd, bsm, h1, h2]
    by_cases c : hA w p q d = hL w p q d
    · rw [if_pos c, if_pos c, rL2 hd, bsm, nI_s]
    · rw [if_neg c, if_neg c, wr_id h3, nI_s]
  have b193 : ∀ t : Sig, t (B + 1) (230 + 8 * d) = hA w p q d → t (B + 1) (230 + 8 * d + 1) = hL w p q d → t (B + 1) (230 + 8 * d + 2) = w (230 + 8 * d + 2) → t (B + 1) (230 + 8 * d + 4) = w (230 + 8 * d + 4) → X12_inherit_b193 B K (nI p) (nI q) x3 (nI d) t = K (nI p) (nI q) x3 (nI (d + 1)) (wr (wr t (B + 1) (230 + 8 * d + 4) (hT w p q d)) (B + 1) (230 + 8 * d + 2) (hF w p q d)) := by
    intro t h1 h2 h3 h4
    unfold X12_inherit_b193
    rw [rD4 hd, bsm, rD0 hd, bsm, h1, h4]
    by_cases c : w (230 + 8 * d + 4) = hA w p q d
    · rw [if_pos c, rL4 hd, bsm, b218 _ (by rw [wr_o (by omega)]; exact h1) (by rw [wr_o (by omega)]; exact h2) (by rw [wr_o (by omega)]; exact h3)]
      unfold hT; rw [if_pos c]
    · have : hT w p q d = w (230 + 8 * d + 4) := by unfold hT; rw [if_neg c]
      rw [if_neg c, this, wr_id h4]; exact b218 t h1 h2 h3
  refine ⟨wr (wr (wr (wr s1 (B + 1) (230 + 8 * d) (hA w p q d)) (B + 1) (230 + 8 * d + 1) (hL w p q d)) (B + 1) (230 + 8 * d + 4) (hT w p q d)) (B + 1) (230 + 8 * d + 2) (hF w p q d), ?_, fun x hx => by rw [wr_row hx, wr_row hx, wr_row hx, wr_row hx, hs1, wr_row hx], by rw [wr_w, wr_w, wr_w, wr_w, hs1, wr_w]; rfl⟩
  have e10 : s1 (B + 1) (230 + 8 * d) = w (230 + 8 * d) := e1 0 (by decide)
  have e11 := e1 1 (by decide)
  have e12 := e1 2 (by decide)
  have e14 := e1 4 (by decide)
  obtain ⟨-, hor⟩ := isW_iff.mp hw
  unfold X12_inherit_b149
  rw [i1, bsm, rD0 hd, bsm, e10]
  by_cases c : w (230 + 8 * d) = nI p
  · have a1 : hA w p q d = nI q := by unfold hA; rw [if_pos c]
    have a2 : hL w p q d = w (230 + 8 * d + 1) := by unfold hL; rw [if_pos c]
    have z1 : wr s1 (B + 1) (230 + 8 * d) (hA w p q d) (B + 1) (230 + 8 * d + 1) = hL w p q d := by rw [wr_o (by omega), e11, a2]
    rw [if_pos c, rL0 hd, bsm, ← a1, wr_id z1]
    unfold X12_inherit_b174
    rw [rD1 hd, bsm, z1, if_neg (by rw [a2, ← c]; exact fun z => hne z.symm)]
    have key := b193 _ wr_v z1 (by rw [wr_o (by omega)]; exact e12) (by rw [wr_o (by omega)]; exact e14)
    rw [← a1] at key; exact key
  · have a1 : hA w p q d = w (230 + 8 * d) := by unfold hA; rw [if_neg c]
    have a2 : hL w p q d = nI q := by unfold hL; rw [if_neg c]
    have c1 : w (230 + 8 * d + 1) = nI p := hor.resolve_left c
    rw [if_neg c, wr_id (σ := s1) (a := B + 1) (k := 230 + 8 * d) (v := hA w p q d) (by rw [a1]; exact e10)]
    unfold X12_inherit_b174
    rw [rD1 hd, bsm, e11, if_pos c1, rL1 hd, bsm, ← a2]
    have key := b193 _ (by rw [wr_o (by omega), a1]; exact e10) wr_v (by rw [wr_o (by omega)]; exact e12) (by rw [wr_o (by omega)]; exact e14)
    rw [← a2] at key; exact key
