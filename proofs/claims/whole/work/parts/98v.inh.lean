/-! inherit, both sides. -/
theorem cl_with {P nd y p : Nat} {w : wF} {s : Sig} (h40 : nd ≤ 40) (hc : s P 0 = nI nd) (hy : y < nd) (e0 : s (P + 1) y = w (230 + 8 * y)) (e1 : s (P + 2) y = w (230 + 8 * y + 1)) (e2 : s (P + 3) y = w (230 + 8 * y + 2)) (hu : upTo (w (230 + 8 * y + 2)) 200) : X3_isOpenWith_f P (nI y) (nI p) s = some (if isW w p y = true then 1 else 0) := by
  have L : ∀ f : Nat → Int32, ld 40 f (nI y) = some (f y) := fun f => ldn (by omega) (by decide)
  obtain ⟨l, hl, el⟩ := hu
  unfold X3_isOpenWith_f X3_isOpen_f
  rw [has3_in h40 hc hy, bsm, if_neg n10, L, bsm, e2]
  by_cases c : w (230 + 8 * y + 2) = 0
  · rw [if_pos (show w (230 + 8 * y + 2) ≤ 0 by rw [c]; decide), bsm, if_pos rfl, if_neg (fun z => (isW_iff.mp z).1 c)]
  · have c' : ¬ w (230 + 8 * y + 2) ≤ 0 := by
      rw [el] at c ⊢
      exact nI_ge (a := l) (b := 0) |> fun _ => (fun z => c (by
        rcases Nat.eq_zero_or_pos l with e | e
        · rw [e]; rfl
        · exact absurd z (Int32.not_le.mpr (nI_lt (a := 0) e (by omega)))))
    rw [if_neg c', bsm, if_neg n10, L, bsm, e0]
    by_cases c1 : w (230 + 8 * y) = nI p
    · rw [if_pos c1, if_pos (isW_iff.mpr ⟨c, Or.inl c1⟩)]
    · rw [if_neg c1, L, bsm, e1]
      by_cases c2 : w (230 + 8 * y + 1) = nI p
      · rw [if_pos c2, if_pos (isW_iff.mpr ⟨c, Or.inr c2⟩)]
      · rw [if_neg c2, if_neg (fun z => (isW_iff.mp z).2.elim c1 c2)]
theorem nI_le_iff {a b : Nat} (ha : a < 2 ^ 31) (hb : b < 2 ^ 31) : nI a ≤ nI b ↔ a ≤ b := by
  constructor
  · intro h
    rcases Nat.lt_or_ge b a with z | z
    · exact absurd h (Int32.not_le.mpr (nI_lt z ha))
    · exact z
  · intro h; exact nI_le h hb
theorem cl_count {σ : Sig} {W n nd p : Nat} {w : wF} (hG : Rg w n nd) (hR : Rc σ W w n nd) : X3_openCountWith_f (W + 12) (nI p) σ = some (nI (dsL w p nd).length) := by
  have h40 := hG.le40
  have hcd : σ (W + 12) 0 = nI nd := hR.d.1.trans hG.wd
  have key := fuel_up (m := nd) (C := fun fu y => X3_openCountWith_b4 (W + 12) σ fu (nI p) (nI (dsL w p y).length) (nI y) = some (nI (dsL w p nd).length)) (fun fu => ?_) (fun fu y hy ih => ?_) nd 0 FU (by omega) (by unfold FU; omega)
  · exact key
  · unfold X3_openCountWith_b4; rw [hcd, if_pos (Int32.le_refl _)]
  · unfold X3_openCountWith_b4
    rw [hcd, if_neg (nI_ge hy (by omega)), cl_with (w := w) h40 hcd hy (hR.d.2 y hy 0 (by decide)) (hR.d.2 y hy 1 (by decide)) (hR.d.2 y hy 2 (by decide)) (hG.dok hy).2.2.1, bsm, nI_s]
    by_cases c : isW w p y = true
    · rw [if_pos c, if_neg n10, nI_s]
      rw [dsL_s c, List.length_append, List.length_singleton] at ih; exact ih
    · rw [if_neg c, if_pos rfl]
      rw [dsL_n c] at ih; exact ih
def inhT (B : Nat) (x1 x2 x3 : Int32) (ρ : Sig) : Option (Int32 × Sig) := if x3 = 0 then (some (0, ρ)) else ((X12_begins_f B (-1) (-1) 0 ρ).bind fun s5 => X12_inherit_b102 B FU x1 x2 x3 0 s5)
theorem re_inhc {ρ : Sig} {B n nd p q : Nat} (hG : Rg (ρ (B + 1)) n nd) : X12_inherit_b28 B FU (nI p) (nI q) 0 0 ρ = inhT B (nI p) (nI q) (nI (dsL (ρ (B + 1)) p nd).length) ρ := by
  have h40 := hG.le40
  have key := fuel_up (m := nd) (C := fun fu y => X12_inherit_b28 B fu (nI p) (nI q) (nI (dsL (ρ (B + 1)) p y).length) (nI y) ρ = inhT B (nI p) (nI q) (nI (dsL (ρ (B + 1)) p nd).length) ρ) (fun fu => ?_) (fun fu y hy ih => ?_) nd 0 FU (by omega) (by unfold FU; omega)
  · exact key
  · unfold X12_inherit_b28 inhT; rw [LW.2.2.2.2.2.2.2.2.2.2.1, bsm, hG.wd, if_pos (Int32.le_refl _)]
  · have hy4 : y < 40 := by omega
    obtain ⟨l, hl, el⟩ := (hG.dok hy).2.2.1
    have hle : ρ (B + 1) (230 + 8 * y + 2) ≤ 0 ↔ ρ (B + 1) (230 + 8 * y + 2) = 0 := by
      rw [el]
      constructor
      · intro z
        have := (nI_le_iff (a := l) (b := 0) (by omega) (by omega)).mp z
        rw [show l = 0 by omega]; rfl
      · intro z; rw [z]; decide
    unfold X12_inherit_b28
    rw [LW.2.2.2.2.2.2.2.2.2.2.1, bsm, hG.wd, if_neg (nI_ge hy (by omega)), rD2 hy4, bsm, nI_s, Int32.add_zero]
    by_cases c : ρ (B + 1) (230 + 8 * y + 2) = 0
    · have : ¬ isW (ρ (B + 1)) p y = true := fun z => (isW_iff.mp z).1 c
      rw [dsL_n this] at ih
      rw [if_pos (hle.mpr c)]; exact ih
    · rw [if_neg (fun z => c (hle.mp z)), rD0 hy4, bsm]
      by_cases c1 : ρ (B + 1) (230 + 8 * y) = nI p
      · have : isW (ρ (B + 1)) p y = true := isW_iff.mpr ⟨c, Or.inl c1⟩
        rw [dsL_s this, List.length_append, List.length_singleton] at ih
        rw [if_pos c1, nI_s]; exact ih
      · rw [if_neg c1, rD1 hy4, bsm]
        by_cases c2 : ρ (B + 1) (230 + 8 * y + 1) = nI p
        · have : isW (ρ (B + 1)) p y = true := isW_iff.mpr ⟨c, Or.inr c2⟩
          rw [dsL_s this, List.length_append, List.length_singleton] at ih
          rw [if_pos c2, nI_s]; exact ih
        · have : ¬ isW (ρ (B + 1)) p y = true := fun z => (isW_iff.mp z).2.elim c1 c2
          rw [dsL_n this] at ih
          rw [if_neg c2]; exact ih
/-- the class, after the debts below y -/
def IC (A nx n nd p q : Nat) (w : wF) (σ s1 : Sig) (y : Nat) (s : Sig) : Prop := Rc s (A + 5) (hW w p q y) n nd ∧ (∀ a, a < nx → (a ≤ A + 17 ∨ A + 22 < a) → s a = σ a) ∧ s nx 4 = nI (dsL w p y).length ∧ (∀ j, j ≠ 4 → s nx j = s1 nx j) ∧ ∀ i e, (dsL w p y)[i]? = some e → s (nx + 1) (6 * i) = nI e ∧ s (nx + 1) (6 * i + 1) = w (230 + 8 * e) ∧ s (nx + 1) (6 * i + 2) = w (230 + 8 * e + 1) ∧ s (nx + 1) (6 * i + 3) = w (230 + 8 * e + 4) ∧ s (nx + 1) (6 * i + 4) = w (230 + 8 * e + 2) ∧ s (nx + 1) (6 * i + 5) = hW w p q y (230 + 8 * e + 2)
theorem get_app {l : List Nat} {a i e : Nat} (h : (l ++ [a])[i]? = some e) : l[i]? = some e ∨ (i = l.length ∧ e = a) := by
  rcases Nat.lt_trichotomy i l.length with c | c | c
  · rw [List.getElem?_append_left c] at h; exact Or.inl h
  · subst c
    rw [List.getElem?_append_right (Nat.le_refl _)] at h
    simp at h; exact Or.inr ⟨rfl, h.symm⟩
  · rw [List.getElem?_eq_none (by rw [List.length_append, List.length_singleton]; omega)] at h; cases h
theorem cl_loop {A nx n nd p q : Nat} {w : wF} {σ s1 : Sig} {τ1 : Tau} {x4 : Int32} (hnx : A + 95 ≤ nx) (hG : Rg w n nd) (hS : ShX0 τ1 nx (6 * (dsL w p nd).length)) (hS3 : ShX3 τ1 (A + 17)) (s0 : Sig) (h0 : IC A nx n nd p q w σ s1 0 s0) : ∃ s, X1_handDown_b31 (A + 32) (A + 17) FU nx (nI p) (nI q) x4 0 τ1 s0 (nx + 2) = chk (∃ rs, τ1 (A + 32) = some (.inl (1, rs))) ((X1_keep_f τ1 s (nx + 2) (A + 32) nx).bind fun ⟨t5, s6, n7⟩ => some (x4, (t5, s6, n7))) ∧ IC A nx n nd p q w σ s1 nd s := by
  have h12 := hG.le12
  have h40 := hG.le40
  have hl40 : (dsL w p nd).length ≤ nd := dsL_len
  have key := fuel_up (m := nd) (C := fun fu y => ∀ s0, IC A nx n nd p q w σ s1 y s0 → ∃ s, X1_handDown_b31 (A + 32) (A + 17) fu nx (nI p) (nI q) x4 (nI y) τ1 s0 (nx + 2) = chk (∃ rs, τ1 (A + 32) = some (.inl (1, rs))) ((X1_keep_f τ1 s (nx + 2) (A + 32) nx).bind fun ⟨t5, s6, n7⟩ => some (x4, (t5, s6, n7))) ∧ IC A nx n nd p q w σ s1 nd s) (fun fu s h => ⟨s, ?_, h⟩) (fun fu y hy ih s h => ?_) nd 0 FU (by omega) (by unfold FU; omega)
  · exact key s0 h0
  · have hc : s (A + 17) 0 = nI nd := h.1.d.1.trans (by rw [hW_o (by omega)]; exact hG.wd)
    unfold X1_handDown_b31
    rw [gI_of hS3.1 rfl, bsm, hc, if_pos (Int32.le_refl _)]
  · obtain ⟨k1, k2, k3, k4, k5⟩ := h
    have hc : s (A + 17) 0 = nI nd := k1.d.1.trans (by rw [hW_o (by omega)]; exact hG.wd)
    have rd : ∀ g, g < 7 → s (A + 17 + (1 + g)) y = w (230 + 8 * y + g) := fun g hg => (k1.d.2 y hy g hg).trans (hW_o (by omega))
    unfold X1_handDown_b31
    rw [gI_of hS3.1 rfl, bsm, hc, if_neg (nI_ge hy (by omega)), chk_yes hS3, cl_with (w := w) h40 hc hy (rd 0 (by decide)) (rd 1 (by decide)) (rd 2 (by decide)) (hG.dok hy).2.2.1, bsm, nI_s]
    by_cases c : isW w p y = true
    · have hlen : (dsL w p (y + 1)).length = (dsL w p y).length + 1 := by rw [dsL_s c, List.length_append, List.length_singleton]
      have hle : (dsL w p (y + 1)).length ≤ (dsL w p nd).length := dsL_mono (by omega)
      obtain ⟨s2, t1, t4, tJ, tO, q0, q1, q2, q3, q4, q5, qk⟩ := take0 (σ := s) (b := nx) (N := 6 * (dsL w p nd).length) (P := A + 17) (t := (dsL w p y).length) (d := y) (nd := nd) (by omega) (by omega) k3 hc hy h40 (by omega)
      have rd2 : ∀ g, g < 7 → s2 (A + 17 + (1 + g)) y = w (230 + 8 * y + g) := fun g hg => by rw [tO _ (by omega) (by omega)]; exact rd g hg
      have hh := cl_hand (P := A + 17) (w := w) (p := p) (q := q) (d := y) (s := s2) (by omega) (rd2 0 (by decide)) (rd2 1 (by decide)) (rd2 4 (by decide)) (rd2 2 (by decide))
      obtain ⟨s3, hs3⟩ : ∃ s3, s3 = hdS (A + 17) w p q y s2 := ⟨_, rfl⟩
      rw [← hs3] at hh
      have v3 : s3 (A + 17 + (1 + 2)) y = hF w p q y := by rw [hs3]; exact wr_v
      have n3 : ∀ a, (a ≤ A + 17 ∨ A + 22 < a) → s3 a = s2 a := fun a ha => by rw [hs3]; exact hdS_ne (by omega)
      have lvs : X0_leaves_f nx (6 * (dsL w p nd).length) (hF w p q y) s3 = some (wr s3 (nx + 1) (6 * (dsL w p y).length + 5) (hF w p q y)) := by
        unfold X0_leaves_f
        have e1 : (nI ((dsL w p y).length + 1) - 1 : Int32) = nI (dsL w p y).length := by
          have := pk_sub (a := (dsL w p y).length + 1) (b := 1) (by omega)
          exact this
        rw [n3 _ (by omega), t4, if_neg (show ¬ nI ((dsL w p y).length + 1) < 1 from nI_nlt (b := 1) (by omega) (by omega)), e1, show (6 : Int32) = nI 6 from rfl, pk_mul, show (5 : Int32) = nI 5 from rfl, nI_add, Nat.mul_comm (dsL w p y).length 6, stn (by omega) (by omega), bsm]
      have F3 : gRs τ1 3 (A + 17) 3 = some (A + 17 + (1 + 2)) := (hS3.arr (f := 2) (by decide)).1
      rw [if_pos c, if_neg n10, tl_of hS, chk_yes hS, t1, bsm, hh, bsm, F3, bsm, ldD_of (hS3.arr (f := 2) (by decide)).2 (by omega) (by decide), bsm, v3, lvs, bsm]
      have hR2 : Rc s2 (A + 5) (hW w p q y) n nd := k1.fr (fun i hi => tO _ (by omega) (by omega))
      have hR3 : Rc s3 (A + 5) (hdn w p q y (hW w p q y)) n nd := by rw [hs3]; exact hdS_rc (W := A + 5) h12 h40 hy hR2
      refine ih _ ⟨?_, fun a h1 h2 => ?_, ?_, fun j hj => ?_, fun i e hie => ?_⟩
      · rw [hW_s c]; exact hR3.fr (fun i hi => wr_row (by omega))
      · rw [wr_row (by omega), n3 a h2, tO a (by omega) (by omega)]; exact k2 a h1 h2
      · rw [wr_row (by omega), n3 _ (by omega), hlen]; exact t4
      · rw [wr_row (by omega), n3 _ (by omega), tJ j hj]; exact k4 j hj
      · rw [dsL_s c] at hie
        rw [hW_s c]
        have rr : ∀ k, k ≠ 6 * (dsL w p y).length + 5 → wr s3 (nx + 1) (6 * (dsL w p y).length + 5) (hF w p q y) (nx + 1) k = s2 (nx + 1) k := fun k hk => by rw [wr_o hk, n3 _ (by omega)]
        rcases get_app hie with hold | ⟨rfl, rfl⟩
        · have hi : i < (dsL w p y).length := (List.getElem?_eq_some_iff.mp hold).1
          have he : e < y := (dsL_mem (List.mem_of_getElem? hold)).1
          rw [rr _ (by omega), rr _ (by omega), rr _ (by omega), rr _ (by omega), rr _ (by omega), rr _ (by omega), qk _ (by omega), qk _ (by omega), qk _ (by omega), qk _ (by omega), qk _ (by omega), qk _ (by omega), hdn_o (by omega)]
          exact k5 i e hold
        · refine ⟨by rw [rr _ (by omega)]; exact q0, by rw [rr _ (by omega)]; exact q1.trans (rd 0 (by decide)), by rw [rr _ (by omega)]; exact q2.trans (rd 1 (by decide)), by rw [rr _ (by omega)]; exact q3.trans (rd 4 (by decide)), by rw [rr _ (by omega)]; exact q4.trans (rd 2 (by decide)), ?_⟩
          rw [wr_v, hdn_v.2.2.1]
    · rw [if_neg c, if_pos rfl]
      refine ih s ⟨?_, k2, ?_, k4, ?_⟩
      · rw [hW_n c]; exact k1
      · rw [dsL_n c]; exact k3
      · rw [hW_n c, dsL_n c]; exact k5
/-- the reference, after the debts below y -/
def IR (B k p q : Nat) (w : wF) (r1 : Sig) (y : Nat) (r : Sig) : Prop := (∀ x, x ≠ B + 1 → r x = r1 x) ∧ (∀ j, (j = 16 ∨ 550 ≤ j) → j ≠ k + 4 → j ≠ k + 5 → r (B + 1) j = r1 (B + 1) j) ∧ (∀ j, j < 7880 → j ≠ 16 → r (B + 1) j = hW w p q y j) ∧ ∀ e, e < 40 → (bt (r (B + 1) (k + (if e < 20 then 4 else 5))) (e % 20) = true ↔ e ∈ dsL w p y)
theorem re_loop {B k n nd p q : Nat} {w : wF} {r1 : Sig} {x3 : Int32} (hG : Rg w n nd) (hk7 : 7880 ≤ k) (hk : k + 206 ≤ 20240) (h22 : r1 B 22 = nI k) (r0 : Sig) (h0 : IR B k p q w r1 0 r0) : ∃ r, X12_inherit_b102 B FU (nI p) (nI q) x3 0 r0 = ((X12_ends_f B r).bind fun s4 => some (x3, s4)) ∧ IR B k p q w r1 nd r := by
  have h12 := hG.le12
  have h40 := hG.le40
  have key := fuel_up (m := nd) (C := fun fu y => ∀ r0, IR B k p q w r1 y r0 → ∃ r, X12_inherit_b102 B fu (nI p) (nI q) x3 (nI y) r0 = ((X12_ends_f B r).bind fun s4 => some (x3, s4)) ∧ IR B k p q w r1 nd r) (fun fu r h => ⟨r, ?_, h⟩) (fun fu y hy ih r h => ?_) nd 0 FU (by omega) (by unfold FU; omega)
  · exact key r0 h0
  · have hc : r (B + 1) 10 = nI nd := by rw [h.2.2.1 10 (by omega) (by omega), hW_o (by omega)]; exact hG.wd
    unfold X12_inherit_b102
    rw [LW.2.2.2.2.2.2.2.2.2.2.1, bsm, hc, if_pos (Int32.le_refl _)]
  · obtain ⟨k1, k2, k3, k4⟩ := h
    have hy4 : y < 40 := by omega
    have hc : r (B + 1) 10 = nI nd := by rw [k3 10 (by omega) (by omega), hW_o (by omega)]; exact hG.wd
    have rd : ∀ g, g < 8 → r (B + 1) (230 + 8 * y + g) = w (230 + 8 * y + g) := fun g hg => by rw [k3 _ (by omega) (by omega)]; exact hW_o (by omega)
    have rd0 : r (B + 1) (230 + 8 * y) = w (230 + 8 * y) := rd 0 (by decide)
    have skip : ¬ isW w p y = true → IR B k p q w r1 (y + 1) r := fun c => ⟨k1, k2, by rw [hW_n c]; exact k3, by rw [dsL_n c]; exact k4⟩
    have go : isW w p y = true → ∃ r', X12_inherit_b149 B (X12_inherit_b102 B fu) (nI p) (nI q) x3 (nI y) r = ((X12_ends_f B r').bind fun s4 => some (x3, s4)) ∧ IR B k p q w r1 nd r' := fun c => by
      obtain ⟨r', z1, z2, z3⟩ := re_hand (B := B) (k := k) (w := w) (p := p) (q := q) (d := y) (x3 := x3) (r := r) (K := X12_inherit_b102 B fu) hy4 hk7 hk (by rw [k1 _ (by omega)]; exact h22) c ((hG.dok hy).2.2.2.2.2.2 (isW_iff.mp c).1) (fun g hg => rd g (by omega))
      have k45 : ∀ e : Nat, (if e < 20 then 4 else 5) = 4 ∨ (if e < 20 then 4 else 5) = 5 := fun e => by split <;> omega
      have ky := k45 y
      rw [z1]
      refine ih r' ⟨fun x hx => by rw [z2 x hx]; exact k1 x hx, fun j h1 h2 h3 => ?_, fun j h1 h2 => ?_, fun e he => ?_⟩
      · rw [z3, hdn_o (by omega), upd_ne (by omega)]; exact k2 j h1 h2 h3
      · rw [z3, hW_s c]
        unfold hdn
        have : ∀ (a b : wF) (i : Nat) (v : Int32), a j = b j → upd a i v j = upd b i v j := fun a b i v h => by
          by_cases e : j = i
          · rw [e, upd_eq, upd_eq]
          · rw [upd_ne e, upd_ne e, h]
        refine this _ _ _ _ (this _ _ _ _ (this _ _ _ _ (this _ _ _ _ ?_)))
        rw [upd_ne (by omega)]; exact k3 j h1 h2
      · have ke := k45 e
        rw [z3, hdn_o (by omega), dsL_s c]
        exact bits_add hy4 k4 e he
    unfold X12_inherit_b102
    rw [LW.2.2.2.2.2.2.2.2.2.2.1, bsm, hc, if_neg (nI_ge hy (by omega)), rD2 hy4, bsm, rd 2 (by decide), nI_s]
    by_cases c : w (230 + 8 * y + 2) = 0
    · rw [if_pos c]; exact ih r (skip (fun z => (isW_iff.mp z).1 c))
    · rw [if_neg c, rD0 hy4, bsm, rd0]
      by_cases c1 : w (230 + 8 * y) = nI p
      · rw [if_pos c1]; exact go (isW_iff.mpr ⟨c, Or.inl c1⟩)
      · rw [if_neg c1, rD1 hy4, bsm, rd 1 (by decide)]
        by_cases c2 : w (230 + 8 * y + 1) = nI p
        · rw [if_pos c2]; exact go (isW_iff.mpr ⟨c, Or.inr c2⟩)
        · rw [if_neg c2]; exact ih r (skip (fun z => (isW_iff.mp z).2.elim c1 c2))
