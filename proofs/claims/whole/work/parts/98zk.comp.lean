/-! TEXTS: a whole sum, a comparison. -/
section CM
variable {a B : Nat} {t : Nat → Int32} {len : Nat} {law : Bool} {n i d : Nat} {L : List (Nat × Nat)} {s r : Sig}
theorem Rl.sum (h : Rl a B t len law n i L d s r) (hl : L.length ≤ i) : Oc a B t len law n i L d s r 3 id false 0 (X5_sum_f a s) (X12_sumUp_f B r) := by
  have hn : n ≤ 400 := h.1.1
  obtain ⟨s1, v, r1, u1, u2, u3, u4, u5⟩ := h.unit hl
  have hcl : X5_sum_f a s = X5_sum_b8 a FU (-1) 0 s1 := by unfold X5_sum_f; rw [u1, bsm]
  have hre : X12_sumUp_f B r = if v = 0 then some (0, r1) else sumR B none FU FU r1 := by
    unfold X12_sumUp_f X12_product_f
    rw [u2, bsm]
    dsimp only
    by_cases c : v = 0
    · rw [if_pos c, if_pos c, bsm]; rfl
    · rw [if_neg c, if_neg c]; rfl
  rw [hcl, hre]
  rcases u5 with ⟨rfl, hlt, x, y, hx, u5⟩ | ⟨rfl, u5⟩
  · obtain ⟨s2, v, r2, q1, q2, q3, q4, q5⟩ := sum_sim (n - (i + 1)) (i + 1) _ s1 r1 none 0 FU FU FU rfl u5 (Or.inl rfl) (by show (L ++ [(x, y)]).length + 0 ≤ _; rw [List.length_append, List.length_singleton]; omega) (Nat.zero_le _) (by unfold FU; omega) (by unfold FU; omega) (by unfold FU; omega)
    refine ⟨s2, v, r2, q1, by rw [if_neg n10]; exact q2, u3.tr q3, u4.tr q4, ?_⟩
    rcases q5 with ⟨hv, i', M, e1, e2, e3, e4⟩ | ⟨hv, e⟩
    · have e2 : M.length + (i + 1) ≤ i' + 0 := e2
      refine Or.inl ⟨hv, i', [(x, y)] ++ M, by omega, by simp; omega, by rw [← List.append_assoc]; exact e3, fun T hT => ?_⟩
      rw [tyL_app]
      show ((tyS x T).bind (tyL [])).bind (tyL M) = _
      rw [tyS_push hx (by omega), bsm]
      exact e4 T hT
    · exact Or.inr ⟨hv, e⟩
  · obtain ⟨s2, q1, q2, q3⟩ := u5.1.b8 (FU - 1) (-1) 0
    exact ⟨s2, 0, r1, q1, if_pos rfl, u3.tr q2.1, u4, Or.inr ⟨rfl, u5.ke q2 q3⟩⟩
theorem Rl.take (h : Rl a B t len law n i L d s r) (hl : L.length ≤ 400) {c : Nat} (hc : c < 63) (hc2 : 40 ≤ c) : ∃ (v : Int32) (s' : Sig) (r' : Sig), X5_take_f a (nI c) s = some (v, s') ∧ X12_need_f B (nI (100 + c)) r = some (v, r') ∧ Fc a s s' ∧ Fq B r r' ∧ ((v = 1 ∧ i < n ∧ Rl a B t len law n (i + 1) L d s' r') ∨ (v = 0 ∧ Bd a B t len law n s' r')) := by
  obtain ⟨kd, kl⟩ := tK_dom (t := t) (len := len) (law := law) i
  have h0 : s a 0 = 0 := h.2.2.2.1
  have b := h.k14 hc hc2
  unfold X5_take_f X12_need_f X5_take_b20
  rw [if_pos h0, h.kd, bsm]
  by_cases k : tK t len law i = c
  · obtain ⟨s1, r1, y1, y2, y3, y4, y5⟩ := h.step (by omega)
    rw [k, if_pos rfl, y1, bsm, if_pos (b.mpr k), y2, bsm]
    exact ⟨1, s1, r1, rfl, rfl, y3, y4, Or.inl ⟨rfl, h.lt (by omega), y5⟩⟩
  · obtain ⟨s1, r1, z1, z2, z3, z4, z5⟩ := h.fail (k := 1) hl (by decide) (by decide)
    rw [if_neg (fun z => k (nI_inj (by omega) (by omega) z)), show (1 : Int32) = nI 1 from rfl, z1, bsm, if_neg (fun z => k (b.mp z)), z2, bsm]
    exact ⟨0, s1, r1, rfl, rfl, z3, z4, Or.inr ⟨rfl, z5⟩⟩
/-- the class's way of a comparison -/
def cmpC (a : Nat) (s : Sig) : Option Sig := (X5_sum_f a s).bind fun s5 => (ld 401 (s5 (a + 4)) (s5 a 12)).bind fun v7 => if v7 = 60 then (X5_condition_b108 (fun _ _ _ => none) (fun _ _ _ => none) a v7 s5) else (if v7 = 61 then (X5_condition_b108 (fun _ _ _ => none) (fun _ _ _ => none) a v7 s5) else (if v7 = 62 then (X5_condition_b108 (fun _ _ _ => none) (fun _ _ _ => none) a v7 s5) else ((X5_fail_f a 1 s5).bind fun s12 => some s12)))
def cmpR (B : Nat) (r : Sig) : Option (Int32 × Sig) := (X12_sumUp_f B r).bind fun ⟨v3, s4⟩ => if v3 = 0 then (some (0, s4)) else (if (s4 B 14) = 160 then (X12_one0_b147 (fun _ _ => none) (fun _ _ => none) (fun _ _ => none) B 16 s4) else (if (s4 B 14) = 161 then (X12_one0_b147 (fun _ _ => none) (fun _ _ => none) (fun _ _ => none) B 17 s4) else (if (s4 B 14) = 162 then (X12_one0_b147 (fun _ _ => none) (fun _ _ => none) (fun _ _ => none) B 18 s4) else (X12_one0_b147 (fun _ _ => none) (fun _ _ => none) (fun _ _ => none) B (-1) s4))))
theorem Vd.b108 (h : Vd a t len law n s) (q1 q2 : Nat → Int32 → Sig → Option Sig) (x : Int32) : ∃ s', X5_condition_b108 q1 q2 a x s = some s' ∧ Ke a s s' ∧ Vd a t len law n s' := by
  obtain ⟨s1, z1, z2, z3⟩ := h.step
  obtain ⟨s2, w1, w2, w3⟩ := z3.sum
  have em : ∀ y, ∃ s', X5_condition_b141 q1 q2 a y s2 = some s' ∧ Ke a s s' ∧ Vd a t len law n s' := fun y => by
    obtain ⟨s3, e1, e2, e3⟩ := w3.emit y 0
    refine ⟨s3, ?_, (z2.tr w2).tr e2, e3⟩
    unfold X5_condition_b141; rw [e1, bsm]
  unfold X5_condition_b108
  rw [z1, bsm, w1, bsm]
  by_cases c1 : x = 60
  · rw [if_pos c1]; exact em 6
  · rw [if_neg c1]
    by_cases c2 : x = 61
    · rw [if_pos c2]; exact em 7
    · rw [if_neg c2]; exact em 8
theorem Rl.comp (h : Rl a B t len law n i L d s r) (hl : L.length ≤ i) : Oc a B t len law n i L d s r 4 id true 0 (cmpC a s) (cmpR B r) := by
  have hn : n ≤ 400 := h.1.1
  obtain ⟨s1, v, r1, q1, q2, q3, q4, q5⟩ := h.sum hl
  unfold cmpC cmpR
  rw [q1, bsm, q2, bsm]
  dsimp only
  rcases q5 with ⟨rfl, i1, M1, e1, e2, e3, e4⟩ | ⟨rfl, e⟩
  rotate_left
  · obtain ⟨x, y, hx, -⟩ := e.1.kd
    rw [hx, bsm, if_pos rfl]
    have fin : ∃ s', (if x = 60 then (X5_condition_b108 (fun _ _ _ => none) (fun _ _ _ => none) a x s1) else (if x = 61 then (X5_condition_b108 (fun _ _ _ => none) (fun _ _ _ => none) a x s1) else (if x = 62 then (X5_condition_b108 (fun _ _ _ => none) (fun _ _ _ => none) a x s1) else ((X5_fail_f a 1 s1).bind fun s12 => some s12)))) = some s' ∧ Ke a s1 s' ∧ Vd a t len law n s' := by
      by_cases c1 : x = 60
      · rw [if_pos c1]; exact e.1.b108 _ _ _
      rw [if_neg c1]
      by_cases c2 : x = 61
      · rw [if_pos c2]; exact e.1.b108 _ _ _
      rw [if_neg c2]
      by_cases c3 : x = 62
      · rw [if_pos c3]; exact e.1.b108 _ _ _
      rw [if_neg c3, e.1.fail, bsm]
      exact ⟨s1, rfl, Ke.rfl, e.1⟩
    obtain ⟨s', w1, w2, w3⟩ := fin
    exact ⟨s', 0, r1, w1, rfl, q3.tr w2.1, q4, Or.inr ⟨rfl, e.ke w2 w3⟩⟩
  have hi1 : i1 ≤ n := e3.2.2.1
  have hl1 : (L ++ M1).length ≤ i1 := by rw [List.length_append]; omega
  obtain ⟨kd, kl⟩ := tK_dom (t := t) (len := len) (law := law) i1
  have b60 : r1 B 14 = 160 ↔ tK t len law i1 = 60 := e3.k14 (c := 60) (by decide) (by decide)
  have b61 : r1 B 14 = 161 ↔ tK t len law i1 = 61 := e3.k14 (c := 61) (by decide) (by decide)
  have b62 : r1 B 14 = 162 ↔ tK t len law i1 = 62 := e3.k14 (c := 62) (by decide) (by decide)
  have nk : ∀ c, c < 115 → (nI (tK t len law i1) = nI c ↔ tK t len law i1 = c) := fun c hc => nI_eq (by omega) (by omega)
  have k60 : nI (tK t len law i1) = 60 ↔ tK t len law i1 = 60 := nk 60 (by decide)
  have k61 : nI (tK t len law i1) = 61 ↔ tK t len law i1 = 61 := nk 61 (by decide)
  have k62 : nI (tK t len law i1) = 62 ↔ tK t len law i1 = 62 := nk 62 (by decide)
  rw [e3.kd, bsm, if_neg n10]
  have go : ∀ (x : Nat) (e : Nat) (y : Int32), (x = 16 ∨ x = 17 ∨ x = 18) → enc law x 0 = some e → e < 16 → y = nI e → tK t len law i1 ≠ 0 → (∀ q, (if nI (tK t len law i1) = 60 then (X5_condition_b141 (fun _ _ _ => none) (fun _ _ _ => none) a 6 q) else (if nI (tK t len law i1) = 61 then (X5_condition_b141 (fun _ _ _ => none) (fun _ _ _ => none) a 7 q) else (X5_condition_b141 (fun _ _ _ => none) (fun _ _ _ => none) a 8 q))) = X5_condition_b141 (fun _ _ _ => none) (fun _ _ _ => none) a y q) → Oc a B t len law n i L d s r 4 id true 0 (X5_condition_b108 (fun _ _ _ => none) (fun _ _ _ => none) a (nI (tK t len law i1)) s1) (X12_one0_b147 (fun _ _ => none) (fun _ _ => none) (fun _ _ => none) B (nI x) r1) := by
    intro x e y hx he he16 hy hk0 hif
    obtain ⟨s2, r2, y1, y2, y3, y4, y5⟩ := e3.step hk0
    have hlt := e3.lt hk0
    obtain ⟨s3, v, r3, p1, p2, p3, p4, p5⟩ := y5.sum (by omega)
    unfold X5_condition_b108 X12_one0_b147
    rw [y1, bsm, p1, bsm, hif, if_neg (show ¬ nI x = -1 from nI_m1 (by omega)), y2, bsm, p2, bsm]
    dsimp only
    unfold X5_condition_b141
    rcases p5 with ⟨rfl, i2, M2, f1, f2, f3, f4⟩ | ⟨rfl, f⟩
    · have hi2 : i2 ≤ n := f3.2.2.1
      obtain ⟨s4, r4, w1, w2, w3, w4, w5⟩ := f3.emit (x := x) (y := 0) (e := e) (x1 := y) (x2 := 0) (v := 0) (by rw [List.length_append, List.length_append]; rw [List.length_append] at hl1; omega) (by omega) (by decide) he (fun z => by omega) (by rw [hy]; have := sh4 (x := e) (y := 0) he16 (by decide); rw [Nat.mul_zero, Nat.zero_add] at this; exact this)
      rw [w1, bsm, if_neg n10, w2, bsm]
      refine ⟨s4, 1, r4, rfl, rfl, ((q3.tr y3).tr p3).tr w3, ((q4.tr y4).tr p4).tr w4, Or.inl ⟨rfl, i2, M1 ++ M2 ++ [(x, 0)], by omega, by simp; omega, by rw [← List.append_assoc, ← List.append_assoc]; exact w5, fun T hT => ?_⟩⟩
      rw [tyL_app, tyL_app, e4 T (by omega), bsm]
      have := f4 (false :: T) (by show T.length + 1 + 3 ≤ 32; omega)
      rw [show tyL M2 (false :: T) = some (false :: false :: T) from this, bsm]
      rcases hx with rfl | rfl | rfl <;> rfl
    · obtain ⟨s4, w1, w2, w3⟩ := f.1.emit y 0
      rw [w1, bsm, if_pos rfl]
      exact ⟨s4, 0, r3, rfl, rfl, ((q3.tr y3).tr p3).tr w2.1, (q4.tr y4).tr p4, Or.inr ⟨rfl, f.ke w2 w3⟩⟩
  obtain ⟨-, -, -, e16, e17, e18, -⟩ := enc_op law
  by_cases c60 : tK t len law i1 = 60
  · rw [if_pos (k60.mpr c60), if_pos (b60.mpr c60)]
    exact go 16 6 6 (Or.inl rfl) e16 (by decide) rfl (by omega) (fun q => by rw [if_pos (k60.mpr c60)])
  rw [if_neg (fun z => c60 (k60.mp z)), if_neg (fun z => c60 (b60.mp z))]
  by_cases c61 : tK t len law i1 = 61
  · rw [if_pos (k61.mpr c61), if_pos (b61.mpr c61)]
    exact go 17 7 7 (Or.inr (Or.inl rfl)) e17 (by decide) rfl (by omega) (fun q => by rw [if_neg (fun z => c60 (k60.mp z)), if_pos (k61.mpr c61)])
  rw [if_neg (fun z => c61 (k61.mp z)), if_neg (fun z => c61 (b61.mp z))]
  by_cases c62 : tK t len law i1 = 62
  · rw [if_pos (k62.mpr c62), if_pos (b62.mpr c62)]
    exact go 18 8 8 (Or.inr (Or.inr rfl)) e18 (by decide) rfl (by omega) (fun q => by rw [if_neg (fun z => c60 (k60.mp z)), if_neg (fun z => c61 (k61.mp z))])
  rw [if_neg (fun z => c62 (k62.mp z)), if_neg (fun z => c62 (b62.mp z))]
  obtain ⟨s2, r2, z1, z2, z3, z4, z5⟩ := e3.fail (k := 1) (by omega) (by decide) (by decide)
  unfold X12_one0_b147
  rw [if_pos rfl, show (1 : Int32) = nI 1 from rfl, z1, bsm, z2, bsm]
  exact ⟨s2, 0, r2, rfl, rfl, q3.tr z3, q4.tr z4, Or.inr ⟨rfl, z5⟩⟩
end CM
