/-! TEXTS: a line from its `when` on. -/
section LM
variable {a B : Nat} {t : Nat → Int32} {len : Nat} {law : Bool} {n i : Nat} {L : List (Nat × Nat)} {s r : Sig}
theorem Vd.b131 {s : Sig} (h : Vd a t len law n s) (x2 : Int32) : X5_readLine_b131 a x2 s = some s := by
  unfold X5_readLine_b131; rw [h.take, bsm]; exact if_pos rfl
theorem Rl.mid (h : Rl a B t len law n i L 0 s r) (hl : L.length ≤ i) {l : Nat} (hl16 : l < 16) (h3 : s a 3 = nI l) (h10 : r B 10 = nI l) (x2 : Int32) : ∃ (s' : Sig) (v : Int32) (r' : Sig), X5_readLine_b96 a x2 s = some s' ∧ X12_aLine_b137 B (if law then 1 else 0) r = some (v, r') ∧ Fc2 a s s' ∧ Fq2 B r r' ∧ ((v = 1 ∧ ∃ i' M, i < i' ∧ M.length + i ≤ i' ∧ (M = [] ∨ tyL M [] = some [true]) ∧ Rl a B t len law n i' (L ++ M) 0 s' r' ∧ s' a 3 = nI (l + 1) ∧ s' (a + 3) = upd (s (a + 3)) l x2 ∧ s' (a + 2) = upd (s (a + 2)) (l + 1) (nI (L ++ M).length) ∧ r' (B + 4) = upd (upd (r (B + 4)) (4 * l + 2) (nI L.length)) (4 * l + 3) (nI (L ++ M).length)) ∨ (v = 0 ∧ Bd a B t len law n s' r')) := by
  have hn : n ≤ 400 := h.1.1
  have hi : i ≤ n := h.2.2.1
  have h2 : s a 2 = if law then 1 else 0 := h.1.2.2.2.2
  have h11 : r B 11 = nI L.length := h.2.2.2.2.2.2.2.2.2.2.1
  obtain ⟨kd, kl⟩ := tK_dom (t := t) (len := len) (law := law) i
  obtain ⟨b3, -, -, -⟩ := h.k4
  have k100 : nI (tK t len law i) = 100 ↔ tK t len law i = 100 := nI_eq (b := 100) (by omega) (by decide)
  obtain ⟨ra, hra⟩ : ∃ ra, ra = wr r (B + 4) (4 * l + 2) (nI L.length) := ⟨_, rfl⟩
  have ha : Rl a B t len law n i L 0 s ra := by rw [hra]; exact h.w4 _ _
  have fa : Fq2 B r ra := by rw [hra]; exact ⟨fun x e1 e2 e3 => wr_row e2, fun j _ _ _ _ _ _ _ _ => by rw [wr_row (by omega)]⟩
  have ra10 : ra B 10 = nI l := by rw [hra, wr_row (by omega)]; exact h10
  have ra14 : ra B 14 = r B 14 := by rw [hra, wr_row (by omega)]
  have ra4 : ra (B + 4) = upd (r (B + 4)) (4 * l + 2) (nI L.length) := by rw [hra, wr_w]
  have e4 : (4 * nI l + 2 : Int32) = nI (4 * l + 2) := by rw [show (4 : Int32) = nI 4 from rfl, pk_mul, show (2 : Int32) = nI 2 from rfl, nI_add]
  have hre : X12_aLine_b137 B (if law then 1 else 0) r = if (law = false ∧ tK t len law i ≠ 100) then X12_aLine_b183 B ra else X12_aLine_b166 B ra := by
    unfold X12_aLine_b137
    rw [h10, h11, e4, stn (by omega) (by decide), bsm, ← hra, ra14]
    cases law
    · rw [if_neg Bool.false_ne_true, if_pos rfl]
      by_cases c : tK t len false i = 100
      · rw [if_pos (b3.mpr c), if_neg (fun z => z.2 c)]
      · rw [if_neg (fun z => c (b3.mp z)), if_pos ⟨rfl, c⟩]
    · rw [if_pos rfl, if_neg n10, if_neg (fun z => Bool.noConfusion z.1)]
  have hcl : X5_readLine_b96 a x2 s = if (law = false ∧ tK t len law i ≠ 100) then X5_readLine_b131 a x2 s else X5_readLine_b117 a x2 s := by
    unfold X5_readLine_b96
    rw [h2]
    cases law
    · rw [if_neg Bool.false_ne_true, if_pos rfl, h.kd, bsm]
      by_cases c : tK t len false i = 100
      · rw [if_pos (k100.mpr c), if_neg (fun z => z.2 c)]
      · rw [if_neg (fun z => c (k100.mp z)), if_pos ⟨rfl, c⟩]
    · rw [if_pos rfl, if_neg n10, if_neg (fun z => Bool.noConfusion z.1)]
  rw [hcl, hre]
  by_cases c : law = false ∧ tK t len law i ≠ 100
  · rw [if_pos c, if_pos c]
    obtain ⟨s1, v, r1, w1, w2, w3, w4, w5⟩ := ha.endl (by omega) hl16 h3 ra10 x2
    refine ⟨s1, v, r1, w1, w2, w3, fa.tr w4, ?_⟩
    rcases w5 with ⟨rfl, hlt, w5, w6, w7, w8, w9⟩ | ⟨rfl, w5⟩
    · exact Or.inl ⟨rfl, i + 1, [], by omega, by show 0 + i ≤ _; omega, Or.inl rfl, by rw [List.append_nil]; exact w5, w6, w7, by rw [List.append_nil]; exact w8, by rw [List.append_nil, w9, ra4]⟩
    · exact Or.inr ⟨rfl, w5⟩
  · rw [if_neg c, if_neg c]
    unfold X5_readLine_b117 X12_aLine_b166
    obtain ⟨v, s1, r1, w1, w2, w3, w4, w5⟩ := ha.when (by omega)
    rw [w1, bsm, w2, bsm]
    dsimp only
    rcases w5 with ⟨rfl, hlt, w5⟩ | ⟨rfl, w5⟩
    rotate_left
    · rw [if_pos rfl, if_pos rfl, w5.1.b131]
      exact ⟨s1, 0, r1, rfl, rfl, w3.up, fa.tr w4.up, Or.inr ⟨rfl, w5⟩⟩
    obtain ⟨s2, v, r2, q1, q2, q3, q4, q5⟩ := any_all w5 (by omega)
    rw [if_neg n10, if_neg n10, q1, bsm, q2, bsm]
    dsimp only
    rcases q5 with ⟨rfl, i2, M, f1, f2, f3, f4⟩ | ⟨rfl, q5⟩
    rotate_left
    · rw [if_pos rfl, q5.1.b131]
      exact ⟨s2, 0, r2, rfl, rfl, (w3.tr q3).up, fa.tr (w4.tr q4).up, Or.inr ⟨rfl, q5⟩⟩
    have hi2 : i2 ≤ n := f3.2.2.1
    obtain ⟨s3, v, r3, x1, x2', x3, x4, x5⟩ := f3.endl (by rw [List.length_append]; omega) hl16 (l := l) (by rw [(w3.tr q3).2 3 (by decide) (by decide) (by decide) (by decide)]; exact h3) (by rw [(w4.tr q4).2 10 (by decide) (by decide) (by decide) (by decide) (by decide) (by decide) (by decide) (by decide)]; exact ra10) x2
    rw [x1, if_neg n10, x2']
    refine ⟨s3, v, r3, rfl, rfl, (w3.tr q3).up.tr x3, fa.tr ((w4.tr q4).up.tr x4), ?_⟩
    rcases x5 with ⟨rfl, hlt2, y5, y6, y7, y8, y9⟩ | ⟨rfl, x5⟩
    · refine Or.inl ⟨rfl, i2 + 1, M, by omega, by omega, Or.inr (f4 [] (by decide)), y5, y6, ?_, ?_, ?_⟩
      · rw [y7, (w3.tr q3).1 _ (by omega) (by omega)]
      · rw [y8, (w3.tr q3).1 _ (by omega) (by omega)]
      · rw [y9, (w4.tr q4).1 _ (by omega) (by omega), ra4]
    · exact Or.inr ⟨rfl, x5⟩
end LM
