/-! TEXTS: the end of a line. -/
/-- of the class and of the reference, where lines are written too -/
def Fc2 (a : Nat) (s s' : Sig) : Prop := (∀ x, (x < a ∨ a + 3 < x) → s' x = s x) ∧ (∀ j, j ≠ 0 → j ≠ 1 → j ≠ 3 → j ≠ 4 → j ≠ 12 → s' a j = s a j) ∧ s' (a + 2) 0 = s (a + 2) 0
def Fq2 (B : Nat) (r r' : Sig) : Prop := (∀ x, x ≠ B → x ≠ B + 4 → x ≠ B + 5 → r' x = r x) ∧ ∀ j, j ≠ 11 → j ≠ 13 → j ≠ 14 → j ≠ 15 → j ≠ 16 → j ≠ 17 → j ≠ 18 → j ≠ 20 → r' B j = r B j
section LE
variable {a B : Nat} {t : Nat → Int32} {len : Nat} {law : Bool} {n i d : Nat} {L : List (Nat × Nat)} {s r : Sig}
theorem Fc.up {s s' : Sig} (h : Fc a s s') : Fc2 a s s' := ⟨fun x hx => h.1 x (by omega) (by omega), fun j h1 h2 _ h4 h5 => h.2 j h1 h2 h4 h5, by rw [h.1 _ (by omega) (by omega)]⟩
theorem Fq.up {r r' : Sig} (h : Fq B r r') : Fq2 B r r' := ⟨fun x h1 _ h3 => h.1 x h1 h3, h.2⟩
theorem Fc2.tr {s s' s'' : Sig} (h : Fc2 a s s') (h' : Fc2 a s' s'') : Fc2 a s s'' := ⟨fun x h1 => (h'.1 x h1).trans (h.1 x h1), fun j h1 h2 h3 h4 h5 => (h'.2.1 j h1 h2 h3 h4 h5).trans (h.2.1 j h1 h2 h3 h4 h5), h'.2.2.trans h.2.2⟩
theorem Fq2.tr {r r' r'' : Sig} (h : Fq2 B r r') (h' : Fq2 B r' r'') : Fq2 B r r'' := ⟨fun x h1 h2 h3 => (h'.1 x h1 h2 h3).trans (h.1 x h1 h2 h3), fun j h1 h2 h3 h4 h5 h6 h7 h8 => (h'.2 j h1 h2 h3 h4 h5 h6 h7 h8).trans (h.2 j h1 h2 h3 h4 h5 h6 h7 h8)⟩
theorem Rl.w4 (h : Rl a B t len law n i L d s r) (k : Nat) (v : Int32) : Rl a B t len law n i L d s (wr r (B + 4) k v) := by
  obtain ⟨hS, ⟨g1, g2, g3, g4, g5⟩, h1, h3, h4, h5, h6, h7, h8, h9, h10, h11, h12, h13, h14⟩ := h
  have e : ∀ x, x ≠ B + 4 → wr r (B + 4) k v x = r x := fun x hx => wr_row hx
  refine ⟨hS, ⟨g1, by rw [e _ (by omega)]; exact g2, by rw [e _ (by omega)]; exact g3, by rw [e _ (by omega)]; exact g4, g5⟩, h1, h3, h4, h5, ?_, ?_, ?_, ?_, ?_, ?_, ?_, h13, ?_⟩
  · rw [e _ (by omega)]; exact h6
  · rw [e _ (by omega)]; exact h7
  · rw [e _ (by omega)]; exact h8
  · rw [e _ (by omega)]; exact h9
  · rw [e _ (by omega)]; exact h10
  · rw [e _ (by omega)]; exact h11
  · rw [e _ (by omega)]; exact h12
  · rw [e _ (by omega)]; exact h14
theorem Rl.cl (h : Rl a B t len law n i L d s r) {s' : Sig} (h1 : ∀ x, (x = a + 1 ∨ a + 3 < x) → s' x = s x) (h2 : ∀ j, j ≠ 3 → s' a j = s a j) : Rl a B t len law n i L d s' r := by
  obtain ⟨⟨g1, g2, g3, g4, g5⟩, hR, k1, k3, k4, k5, k6, k7, k8, k9, k10, k11, k12, k13, k14⟩ := h
  refine ⟨⟨g1, by rw [h2 11 (by decide)]; exact g2, fun j hj => ?_, g4, by rw [h2 2 (by decide)]; exact g5⟩, hR, k1, by rw [h2 0 (by decide)]; exact k3, by rw [h2 12 (by decide)]; exact k4, by rw [h2 4 (by decide)]; exact k5, k6, k7, k8, k9, k10, k11, by rw [h1 _ (by omega)]; exact k12, by rw [h2 1 (by decide)]; exact k13, k14⟩
  rw [h1 (a + 4) (by omega), h1 (a + 5) (by omega), h1 (a + 6) (by omega)]; exact g3 j hj
theorem Rl.endl (h : Rl a B t len law n i L d s r) (hl : L.length ≤ 400) {l : Nat} (hl16 : l < 16) (h3 : s a 3 = nI l) (h10 : r B 10 = nI l) (x2 : Int32) : ∃ (s' : Sig) (v : Int32) (r' : Sig), X5_readLine_b131 a x2 s = some s' ∧ X12_aLine_b183 B r = some (v, r') ∧ Fc2 a s s' ∧ Fq2 B r r' ∧ ((v = 1 ∧ i < n ∧ Rl a B t len law n (i + 1) L d s' r' ∧ s' a 3 = nI (l + 1) ∧ s' (a + 3) = upd (s (a + 3)) l x2 ∧ s' (a + 2) = upd (s (a + 2)) (l + 1) (nI L.length) ∧ r' (B + 4) = upd (r (B + 4)) (4 * l + 3) (nI L.length)) ∨ (v = 0 ∧ Bd a B t len law n s' r')) := by
  have h11 : r B 11 = nI L.length := h.2.2.2.2.2.2.2.2.2.2.1
  obtain ⟨v, s1, r1, w1, w2, w3, w4, w5⟩ := (h.w4 (4 * l + 3) (nI L.length)).take hl (c := 59) (by decide) (by decide)
  have e4 : (4 * nI l + 3 : Int32) = nI (4 * l + 3) := by rw [show (4 : Int32) = nI 4 from rfl, pk_mul, show (3 : Int32) = nI 3 from rfl, nI_add]
  have f4 : Fq2 B r (wr r (B + 4) (4 * l + 3) (nI L.length)) := ⟨fun x e1 e2 e3 => wr_row e2, fun j _ _ _ _ _ _ _ _ => by rw [wr_row (by omega)]⟩
  have hre : X12_aLine_b183 B r = some (v, r1) := by
    unfold X12_aLine_b183
    rw [h10, h11, e4, stn (by omega) (by decide), bsm, show (159 : Int32) = nI (100 + 59) from rfl, w2, bsm]
    dsimp only
    rcases w5 with ⟨rfl, -⟩ | ⟨rfl, -⟩
    · rfl
    · rfl
  unfold X5_readLine_b131
  rw [show (59 : Int32) = nI 59 from rfl, w1, bsm, hre]
  dsimp only
  rcases w5 with ⟨rfl, hlt, w5⟩ | ⟨rfl, w5⟩
  · have h3' : s1 a 3 = nI l := by rw [w3.2 3 (by decide) (by decide) (by decide) (by decide)]; exact h3
    have h4' : s1 a 4 = nI L.length := w5.2.2.2.2.2.1
    have cl : X5_closeLine_f a x2 s1 = some (wr (wr (wr s1 (a + 3) l x2) a 3 (nI (l + 1))) (a + 2) (l + 1) (nI L.length)) := by
      unfold X5_closeLine_f pI
      rw [h3', if_neg (show ¬ (16 : Int32) ≤ nI l from nI_ge (b := 16) hl16 (by decide)), stn (by omega) (by decide), bsm, wr_row (by omega), h3', nI_s, bsm, wr_v, wr_o (by decide), wr_row (by omega), h4', stn (by omega) (by decide), bsm]
    rw [if_neg n10, cl, bsm]
    refine ⟨_, 1, r1, rfl, rfl, w3.up.tr ⟨fun x hx => by rw [wr_row (by omega), wr_row (by omega), wr_row (by omega)], fun j _ _ e3 _ _ => by rw [wr_row (by omega), wr_o e3, wr_row (by omega)], by rw [wr_o (by omega), wr_row (by omega), wr_row (by omega)]⟩, f4.tr w4.up, Or.inl ⟨rfl, hlt, w5.cl (fun x hx => by rw [wr_row (by omega), wr_row (by omega), wr_row (by omega)]) (fun j hj => by rw [wr_row (by omega), wr_o hj, wr_row (by omega)]), ?_, ?_, ?_, ?_⟩⟩
    · rw [wr_row (by omega), wr_v]
    · rw [wr_row (by omega), wr_row (by omega), wr_w, w3.1 _ (by omega) (by omega)]
    · rw [wr_w, wr_row (by omega), wr_row (by omega), w3.1 _ (by omega) (by omega)]
    · rw [w4.1 _ (by omega) (by omega), wr_w]
  · rw [if_pos rfl]
    exact ⟨s1, 0, r1, rfl, rfl, w3.up, f4.tr w4.up, Or.inr ⟨rfl, w5⟩⟩
end LE
