/-! TEXTS: a condition. -/
section CO
variable {a B : Nat} {t : Nat → Int32} {len : Nat} {law : Bool} {n d : Nat}
theorem Rl.dep {i : Nat} {L : List (Nat × Nat)} {s r : Sig} (h : Rl a B t len law n i L d s r) (d' : Nat) : Rl a B t len law n i L d' s (wr r B 20 (nI d')) ∧ Fq B r (wr r B 20 (nI d')) := by
  obtain ⟨hS, hR, h1, h3, h4, h5, h6, h7, h8, h9, h10, h11, h12, h13, h14⟩ := h
  have fr : Fq B r (wr r B 20 (nI d')) := ⟨fun x e1 e2 => wr_row e1, fun j e1 e2 e3 e4 e5 e6 e7 e8 => wr_o e8⟩
  exact ⟨⟨hS, hR.fr fr, h1, h3, h4, h5, by rw [wr_o (by decide)]; exact h6, by rw [wr_o (by decide)]; exact h7, by rw [wr_o (by decide)]; exact h8, by rw [wr_o (by decide)]; exact h9, by rw [wr_o (by decide)]; exact h10, wr_v, by rw [wr_row (by omega)]; exact h12, h13, by rw [wr_o (by decide)]; exact h14⟩, fr⟩
theorem any_of {K c k : Nat} (HC : ∀ i L s r, Rl a B t len law n i L d s r → L.length ≤ i → Oc a B t len law n i L d s r K id true 0 ((X5_cg c).1 a (nI d) s) ((X12_cg k).2.2 B r)) {i : Nat} {L : List (Nat × Nat)} {s r : Sig} (h : Rl a B t len law n i L d s r) (hl : L.length ≤ i) : Oc a B t len law n i L d s r (K + 2) id true 0 ((X5_cg (c + 1)).2 a (nI d) s) ((X12_cg (k + 2)).1 B r) := by
  have hn : n ≤ 400 := h.1.1
  obtain ⟨s1, v, r1, u1, u2, u3, u4, u5⟩ := HC _ _ _ _ h hl
  have hcl : (X5_cg (c + 1)).2 a (nI d) s = X5_anyOf_b9 (X5_cg c).1 (X5_cg c).2 a FU (nI d) (pA false) (nI 0) s1 := by
    show X5_anyOf_F (X5_cg c).1 (X5_cg c).2 a (nI d) s = _
    unfold X5_anyOf_F
    rw [u1, bsm]; rfl
  have hre : (X12_cg (k + 2)).1 B r = if v = 0 then some (0, r1) else anyR B (X12_cg (k + 1)).1 (X12_every_F (X12_cg k).1 (X12_cg k).2.1 (X12_cg k).2.2) (X12_cg (k + 1)).2.2 (X12_cg k).1 (X12_cg k).2.1 (X12_cg k).2.2 false FU FU r1 := by
    show X12_any_F (X12_cg (k + 1)).1 (X12_every_F (X12_cg k).1 (X12_cg k).2.1 (X12_cg k).2.2) (X12_cg (k + 1)).2.2 B r = _
    unfold X12_any_F
    have e : X12_every_F (X12_cg k).1 (X12_cg k).2.1 (X12_cg k).2.2 B r = if v = 0 then some (0, r1) else X12_every_b9 (X12_cg k).1 (X12_cg k).2.1 (X12_cg k).2.2 B FU r1 := by
      unfold X12_every_F; rw [u2, bsm]
    rw [e]
    by_cases c : v = 0
    · rw [if_pos c, if_pos c, bsm]; rfl
    · rw [if_neg c, if_neg c]; rfl
  rw [hcl, hre]
  rcases u5 with ⟨rfl, i1, M1, g1, g2, g3, g4⟩ | ⟨rfl, u5⟩
  · obtain ⟨s2, v, r2, q1, q2, q3, q4, q5⟩ := any_sim (qa := (X5_cg c).2) (q1 := (X12_cg (k + 1)).1) (q3 := (X12_cg (k + 1)).2.2) (e1 := (X12_cg k).1) (e2 := (X12_cg k).2.1) HC (n - i1) i1 _ s1 r1 false 0 FU FU FU rfl g3 (by show _ + 0 ≤ _; rw [List.length_append]; omega) (Nat.zero_le _) (by unfold FU; omega) (by unfold FU; omega) (by unfold FU; omega)
    refine ⟨s2, v, r2, q1, by rw [if_neg n10]; exact q2, u3.tr q3, u4.tr q4, ?_⟩
    rcases q5 with ⟨hv, i', M, f1, f2, f3, f4⟩ | ⟨hv, f⟩
    · have f2 : M.length + i1 ≤ i' + 0 := f2
      refine Or.inl ⟨hv, i', M1 ++ M, by omega, by simp; omega, by rw [← List.append_assoc]; exact f3, fun T hT => ?_⟩
      rw [tyL_app, show tyL M1 (id T) = some (true :: T) from g4 T (by omega), bsm]
      exact f4 T hT
    · exact Or.inr ⟨hv, f⟩
  · obtain ⟨s2, q1, q2, q3⟩ := u5.1.b9 (qc := (X5_cg c).1) (qa := (X5_cg c).2) (FU - 1) (nI d) (pA false) (nI 0)
    exact ⟨s2, 0, r1, q1, if_pos rfl, u3.tr q2.1, u4, Or.inr ⟨rfl, u5.ke q2 q3⟩⟩
theorem cond_of {K K' c k : Nat} (hd : d ≤ 8) (hK : K' ≤ K) (hK4 : 4 ≤ K) (HC : d < 8 → ∀ i L s r, Rl a B t len law n i L (d + 1) s r → L.length ≤ i → Oc a B t len law n i L (d + 1) s r K' id true 0 ((X5_cg c).1 a (nI (d + 1)) s) ((X12_cg k).2.2 B r)) (HA : d < 8 → ∀ i L s r, Rl a B t len law n i L (d + 1) s r → L.length ≤ i → Oc a B t len law n i L (d + 1) s r K' id true 0 ((X5_cg c).2 a (nI (d + 1)) s) ((X12_cg k).1 B r)) {i : Nat} {L : List (Nat × Nat)} {s r : Sig} (h : Rl a B t len law n i L d s r) (hl : L.length ≤ i) : Oc a B t len law n i L d s r K id true 0 ((X5_cg (c + 1)).1 a (nI d) s) ((X12_cg (k + 1)).2.2 B r) := by
  have hn : n ≤ 400 := h.1.1
  have hi : i ≤ n := h.2.2.1
  obtain ⟨kd, kl⟩ := tK_dom (t := t) (len := len) (law := law) i
  have k103 : nI (tK t len law i) = 103 ↔ tK t len law i = 103 := nI_eq (b := 103) (by omega) (by decide)
  have k40 : nI (tK t len law i) = 40 ↔ tK t len law i = 40 := nI_eq (b := 40) (by omega) (by decide)
  obtain ⟨-, -, -, b6⟩ := h.k4
  have b140 : r B 14 = 140 ↔ tK t len law i = 40 := h.k14 (c := 40) (by decide) (by decide)
  have h20 : r B 20 = nI d := h.2.2.2.2.2.2.2.2.2.2.2.1
  show Oc a B t len law n i L d s r K id true 0 (X5_condition_F (X5_cg c).1 (X5_cg c).2 a (nI d) s) (X12_one0_F (X12_cg k).1 (X12_cg k).2.1 (X12_cg k).2.2 B r)
  unfold X5_condition_F X12_one0_F
  rw [h.kd, bsm]
  by_cases cr : tK t len law i = 103 ∨ tK t len law i = 40
  rotate_left
  · rw [if_neg (fun z => cr (Or.inl (k103.mp z))), if_neg (fun z => cr (Or.inr (k40.mp z))), if_neg (fun z => cr (Or.inl (b6.mp z))), if_neg (fun z => cr (Or.inr (b140.mp z)))]
    obtain ⟨s1, v, r1, q1, q2, q3, q4, q5⟩ := h.comp hl
    refine ⟨s1, v, r1, q1, q2, q3, q4, ?_⟩
    rcases q5 with ⟨hv, i', M, f1, f2, f3, f4⟩ | ⟨hv, f⟩
    · exact Or.inl ⟨hv, i', M, f1, f2, f3, fun T hT => f4 T (by omega)⟩
    · exact Or.inr ⟨hv, f⟩
  have hk0 : tK t len law i ≠ 0 := by omega
  have hlt := h.lt hk0
  have ecl : (if nI (tK t len law i) = 103 then (X5_condition_b22 (X5_cg c).1 (X5_cg c).2 a (nI d) (nI (tK t len law i)) s) else (if nI (tK t len law i) = 40 then (X5_condition_b22 (X5_cg c).1 (X5_cg c).2 a (nI d) (nI (tK t len law i)) s) else ((X5_sum_f a s).bind fun s5 => (ld 401 (s5 (a + 4)) (s5 a 12)).bind fun v7 => if v7 = 60 then (X5_condition_b108 (X5_cg c).1 (X5_cg c).2 a v7 s5) else (if v7 = 61 then (X5_condition_b108 (X5_cg c).1 (X5_cg c).2 a v7 s5) else (if v7 = 62 then (X5_condition_b108 (X5_cg c).1 (X5_cg c).2 a v7 s5) else ((X5_fail_f a 1 s5).bind fun s12 => some s12)))))) = X5_condition_b22 (X5_cg c).1 (X5_cg c).2 a (nI d) (nI (tK t len law i)) s := by
    by_cases c : tK t len law i = 103
    · rw [if_pos (k103.mpr c)]
    · rw [if_neg (fun z => c (k103.mp z)), if_pos (k40.mpr (by omega))]
  rw [ecl]
  unfold X5_condition_b22
  by_cases c8 : d = 8
  · obtain ⟨s1, r1, z1, z2, z3, z4, z5⟩ := h.fail (k := 3) (by omega) (by decide) (by decide)
    have op : X12_opens_f B r = some (0, r1) := by
      unfold X12_opens_f
      rw [h20, c8, if_pos (show nI 8 = 8 from rfl), show (3 : Int32) = nI 3 from rfl, z2, bsm]; rfl
    rw [c8, if_neg (show ¬ nI 8 < 8 by decide), show (3 : Int32) = nI 3 from rfl, z1, bsm, op, bsm, bsm]
    refine ⟨s1, 0, r1, rfl, ?_, z3, z4, Or.inr ⟨rfl, z5⟩⟩
    by_cases c : tK t len law i = 103
    · rw [if_pos (b6.mpr c)]; rfl
    · rw [if_neg (fun z => c (b6.mp z)), if_pos (b140.mpr (by omega))]; rfl
  have hd8 : d < 8 := by omega
  obtain ⟨ha, fa⟩ := h.dep (d + 1)
  obtain ⟨s1, r1, y1, y2, y3, y4, y5⟩ := ha.step hk0
  have op : X12_opens_f B r = some (1, r1) := by
    unfold X12_opens_f pI
    rw [h20, if_neg (show ¬ nI d = 8 from fun z => c8 (nI_inj (b := 8) (by omega) (by decide) z)), bsm, nI_s, y2, bsm]
  rw [if_pos (show nI d < 8 from nI_lt (b := 8) hd8 (by decide)), y1, bsm, op, bsm, bsm, nI_s]
  dsimp only
  by_cases c : tK t len law i = 103
  · rw [if_pos (k103.mpr c), if_pos (b6.mpr c), if_neg n10]
    obtain ⟨s2, v, r2, u1, u2, u3, u4, u5⟩ := HC hd8 _ _ _ _ y5 (by omega)
    rw [u1, bsm, u2, bsm]
    dsimp only
    rcases u5 with ⟨rfl, i1, M1, g1, g2, g3, g4⟩ | ⟨rfl, u5⟩
    · have hi1 : i1 ≤ n := g3.2.2.1
      have g20 : r2 B 20 = nI (d + 1) := g3.2.2.2.2.2.2.2.2.2.2.2.1
      obtain ⟨gd, gf⟩ := g3.dep d
      obtain ⟨s3, r3, w1, w2, w3, w4, w5⟩ := gd.emit (x := 19) (y := 0) (e := 9) (x1 := 9) (x2 := 0) (v := 0) (by rw [List.length_append]; omega) (by decide) (by decide) (enc_op law).2.2.2.2.2.2.1 (fun z => by omega) (sh4 (x := 9) (y := 0) (by decide) (by decide))
      have ed : (nI (d + 1) - 1 : Int32) = nI d := by
        have := pk_sub (a := d + 1) (b := 1) (by omega)
        exact this
      rw [w1, bsm, if_neg n10, g20, ed]
      unfold pI
      rw [bsm, show (19 : Int32) = nI 19 from rfl, w2, bsm]
      refine ⟨s3, 1, r3, rfl, rfl, (y3.tr u3).tr w3, (((fa.tr y4).tr u4).tr gf).tr w4, Or.inl ⟨rfl, i1, M1 ++ [(19, 0)], by omega, by simp; omega, by rw [← List.append_assoc]; exact w5, fun T hT => ?_⟩⟩
      rw [tyL_app, show tyL M1 (id T) = some (true :: T) from g4 T (by omega), bsm]
      rfl
    · obtain ⟨s3, w1, w2, w3⟩ := u5.1.emit 9 0
      rw [w1, bsm, if_pos rfl]
      exact ⟨s3, 0, r2, rfl, rfl, (y3.tr u3).tr w2.1, (fa.tr y4).tr u4, Or.inr ⟨rfl, u5.ke w2 w3⟩⟩
  · rw [if_neg (fun z => c (k103.mp z)), if_neg (fun z => c (b6.mp z)), if_pos (b140.mpr (by omega)), if_neg n10]
    obtain ⟨s2, v, r2, u1, u2, u3, u4, u5⟩ := HA hd8 _ _ _ _ y5 (by omega)
    rw [u1, bsm, u2, bsm]
    dsimp only
    rcases u5 with ⟨rfl, i1, M1, g1, g2, g3, g4⟩ | ⟨rfl, u5⟩
    · have hi1 : i1 ≤ n := g3.2.2.1
      obtain ⟨v, s3, r3, w1, w2, w3, w4, w5⟩ := g3.take (c := 41) (by rw [List.length_append]; omega) (by decide) (by decide)
      rw [show (41 : Int32) = nI 41 from rfl, w1, bsm, if_neg n10, show (141 : Int32) = nI (100 + 41) from rfl, w2, bsm]
      dsimp only
      rcases w5 with ⟨rfl, hlt1, w5⟩ | ⟨rfl, w5⟩
      · have g20 : r3 B 20 = nI (d + 1) := w5.2.2.2.2.2.2.2.2.2.2.2.1
        obtain ⟨gd, gf⟩ := w5.dep d
        have ed : (nI (d + 1) - 1 : Int32) = nI d := by
          have := pk_sub (a := d + 1) (b := 1) (by omega)
          exact this
        rw [if_neg n10, g20, ed]
        exact ⟨s3, 1, _, rfl, rfl, (y3.tr u3).tr w3, (((fa.tr y4).tr u4).tr w4).tr gf, Or.inl ⟨rfl, i1 + 1, M1, by omega, by omega, gd, fun T hT => g4 T (by omega)⟩⟩
      · rw [if_pos rfl]
        exact ⟨s3, 0, r3, rfl, rfl, (y3.tr u3).tr w3, ((fa.tr y4).tr u4).tr w4, Or.inr ⟨rfl, w5⟩⟩
    · rw [u5.1.take, bsm, if_pos rfl]
      exact ⟨s2, 0, r2, rfl, rfl, y3.tr u3, (fa.tr y4).tr u4, Or.inr ⟨rfl, u5⟩⟩
/-- all depths -/
theorem cond_all : ∀ (x d : Nat), d + x = 8 → ∀ c k, 2 * x + 1 ≤ c → 3 * x + 1 ≤ k → ∀ i L s r, Rl a B t len law n i L d s r → L.length ≤ i → Oc a B t len law n i L d s r (4 + 2 * x) id true 0 ((X5_cg c).1 a (nI d) s) ((X12_cg k).2.2 B r)
  | 0, d, hd, c, k, hc, hk, i, L, s, r, h, hl => by
    obtain ⟨c, rfl⟩ : ∃ y, c = y + 1 := ⟨c - 1, by omega⟩
    obtain ⟨k, rfl⟩ : ∃ y, k = y + 1 := ⟨k - 1, by omega⟩
    exact cond_of (K' := 0) (by omega) (by omega) (by omega) (fun z => absurd z (by omega)) (fun z => absurd z (by omega)) h hl
  | x + 1, d, hd, c, k, hc, hk, i, L, s, r, h, hl => by
    obtain ⟨c, rfl⟩ : ∃ y, c = y + 2 := ⟨c - 2, by omega⟩
    obtain ⟨k, rfl⟩ : ∃ y, k = y + 3 := ⟨k - 3, by omega⟩
    refine cond_of (K' := 4 + 2 * x + 2) (c := c + 1) (k := k + 2) (by omega) (by omega) (by omega) (fun _ i L s r h hl => ?_) (fun _ i L s r h hl => ?_) h hl
    · obtain ⟨s', v, r', q1, q2, q3, q4, q5⟩ := cond_all x (d + 1) (by omega) (c + 1) (k + 2) (by omega) (by omega) i L s r h hl
      refine ⟨s', v, r', q1, q2, q3, q4, ?_⟩
      rcases q5 with ⟨hv, i', M, f1, f2, f3, f4⟩ | ⟨hv, f⟩
      · exact Or.inl ⟨hv, i', M, f1, f2, f3, fun T hT => f4 T (by omega)⟩
      · exact Or.inr ⟨hv, f⟩
    · exact any_of (fun i L s r h hl => cond_all x (d + 1) (by omega) c k (by omega) (by omega) i L s r h hl) h hl
theorem any_all {i : Nat} {L : List (Nat × Nat)} {s r : Sig} (h : Rl a B t len law n i L 0 s r) (hl : L.length ≤ i) : Oc a B t len law n i L 0 s r 22 id true 0 (X5_anyOf_f a 0 s) (X12_any_f B r) :=
  any_of (c := 39) (k := 38) (fun i L s r h hl => cond_all 8 0 (by omega) 39 38 (by omega) (by omega) i L s r h hl) h hl
end CO
