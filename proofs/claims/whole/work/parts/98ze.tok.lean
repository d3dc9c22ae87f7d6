/-! TEXTS: the reference's next token. -/
def kr (law : Bool) (kc : Nat) : Nat := if kc = 0 then 0 else if kc = 1 then 2 else if kc = 2 then 1 else if kc < 100 then 100 + kc else krW law (some kc)
theorem re_see {B len j : Nat} {s : Sig} (hl : len ≤ 400) (h12 : s B 12 = nI len) (hj : j ≤ len) : (j < len → X12_see_f B (nI j) s = some (s (B + 6) j)) ∧ (j = len → X12_see_f B (nI j) s = some (-1)) := by
  unfold X12_see_f
  rw [h12]
  constructor
  · intro h; rw [if_neg (nI_ge h (by omega)), ldn (by omega) (by decide), bsm]
  · intro h; rw [h, if_pos (Int32.le_refl _)]
theorem m1_no : ¬ isL (-1) ∧ ¬ isD (-1) ∧ ¬ ((-1 : Int32) = 32) ∧ ¬ ((-1 : Int32) = 10) := by
  refine ⟨?_, ?_, by decide, by decide⟩
  · rintro (⟨h, -⟩ | ⟨h, -⟩) <;> exact absurd h (by decide)
  · rintro ⟨h, -⟩; exact absurd h (by decide)
/-- only these fields of the reference have changed -/
def only4 (B : Nat) (ρ r : Sig) : Prop := (∀ j, j ≠ 13 → j ≠ 14 → j ≠ 15 → j ≠ 16 → r B j = ρ B j) ∧ ∀ x, x ≠ B → r x = ρ x
theorem only4.wr {B : Nat} {ρ r : Sig} {k : Nat} {v : Int32} (h : only4 B ρ r) (hk : k = 13 ∨ k = 14 ∨ k = 15 ∨ k = 16) : only4 B ρ (wr r B k v) :=
  ⟨fun j h1 h2 h3 h4 => by rw [wr_o (by omega)]; exact h.1 j h1 h2 h3 h4, fun x hx => by rw [wr_row hx]; exact h.2 x hx⟩
theorem re_letters {B len q e : Nat} {law : Bool} {ρ : Sig} {r : Option Nat} (hl : len ≤ 400) (h12 : ρ B 12 = nI len) (hk : 2 ≤ ρ B 9 ↔ law = false) (hqe : q ≤ e) (hel : e ≤ len) (g2 : ∀ j, q ≤ j → j < e → isL (ρ (B + 6) j)) (g3 : e = len ∨ ¬ isL (ρ (B + 6) e)) (g4 : kwF (ρ (B + 6)) q (e - q) (if law then lawL else ruleL) 100 r) (s0 : Sig) (h13 : s0 B 13 = nI q) (h15 : s0 B 15 = nI q) (h0 : only4 B ρ s0) : ∃ s, X12_next0_b76 B FU s0 = some s ∧ only4 B ρ s ∧ s B 13 = nI e ∧ s B 15 = nI q ∧ s B 14 = nI (krW law r) := by
  have key := fuel_up (m := e) (C := fun fu j => q ≤ j → ∀ s0, only4 B ρ s0 → s0 B 13 = nI j → s0 B 15 = nI q → ∃ s, X12_next0_b76 B fu s0 = some s ∧ only4 B ρ s ∧ s B 13 = nI e ∧ s B 15 = nI q ∧ s B 14 = nI (krW law r)) (fun fu _ s0 o e13 e15 => ?_) (fun fu j hj ih hqj s0 o e13 e15 => ?_) (e - q) q FU (by omega) (by unfold FU; omega)
  · exact key (Nat.le_refl _) s0 h0 h13 h15
  · have e6 : s0 (B + 6) = ρ (B + 6) := o.2 _ (by omega)
    have e12 : s0 B 12 = nI len := by rw [o.1 12 (by decide) (by decide) (by decide) (by decide)]; exact h12
    have hw := re_kw (B := B) (e := e) (q := q) (ρ := s0) (law := law) (r := r) e13 e15 hqe (by omega) (by rw [o.1 9 (by decide) (by decide) (by decide) (by decide)]; exact hk) (by rw [e6]; exact g4)
    refine ⟨wr s0 B 14 (nI (krW law r)), ?_, o.wr (by omega), by rw [wr_o (by decide)]; exact e13, by rw [wr_o (by decide)]; exact e15, wr_v⟩
    unfold X12_next0_b76 pI
    rw [e13]
    by_cases c : e = len
    · rw [(re_see hl e12 hel).2 c, bsm, letR.2 m1_no.1, bsm, if_pos rfl, hw, bsm, bsm]
    · rw [(re_see hl e12 hel).1 (by omega), bsm, e6, letR.2 (g3.resolve_left c), bsm, if_pos rfl, hw, bsm, bsm]
  · have e6 : s0 (B + 6) = ρ (B + 6) := o.2 _ (by omega)
    have e12 : s0 B 12 = nI len := by rw [o.1 12 (by decide) (by decide) (by decide) (by decide)]; exact h12
    unfold X12_next0_b76 pI
    rw [e13, (re_see hl e12 (by omega)).1 (by omega), bsm, e6, letR.1 (g2 j hqj hj), bsm, if_neg n10, bsm, nI_s]
    exact ih (by omega) _ (o.wr (by omega)) wr_v (by rw [wr_o (by decide)]; exact e15)
theorem re_digits {B len q e : Nat} {ρ : Sig} (hl : len ≤ 400) (h12 : ρ B 12 = nI len) (hqe : q ≤ e) (hel : e ≤ len) (g2 : ∀ j, q ≤ j → j < e → isD (ρ (B + 6) j)) (g3 : e = len ∨ ¬ isD (ρ (B + 6) e)) (s0 : Sig) (h13 : s0 B 13 = nI q) (h15 : s0 B 15 = nI q) (h16 : s0 B 16 = 0) (h0 : only4 B ρ s0) : ∃ s, X12_next0_b126 B FU s0 = some s ∧ only4 B ρ s ∧ s B 13 = nI e ∧ s B 15 = nI q ∧ s B 14 = nI (if 4 < e - q then 1 else 2) ∧ (e - q ≤ 4 → s B 16 = valF (ρ (B + 6)) q (e - q)) := by
  have key := fuel_up (m := e) (C := fun fu j => q ≤ j → ∀ s0, only4 B ρ s0 → s0 B 13 = nI j → s0 B 15 = nI q → (j - q ≤ 4 → s0 B 16 = valF (ρ (B + 6)) q (j - q)) → ∃ s, X12_next0_b126 B fu s0 = some s ∧ only4 B ρ s ∧ s B 13 = nI e ∧ s B 15 = nI q ∧ s B 14 = nI (if 4 < e - q then 1 else 2) ∧ (e - q ≤ 4 → s B 16 = valF (ρ (B + 6)) q (e - q))) (fun fu _ s0 o e13 e15 e16 => ?_) (fun fu j hj ih hqj s0 o e13 e15 e16 => ?_) (e - q) q FU (by omega) (by unfold FU; omega)
  · exact key (Nat.le_refl _) s0 h0 h13 h15 (fun _ => by rw [Nat.sub_self]; exact h16)
  · have e6 : s0 (B + 6) = ρ (B + 6) := o.2 _ (by omega)
    have e12 : s0 B 12 = nI len := by rw [o.1 12 (by decide) (by decide) (by decide) (by decide)]; exact h12
    have hsee : ∃ x, X12_see_f B (nI e) s0 = some x ∧ ¬ isD x := by
      by_cases c : e = len
      · exact ⟨-1, (re_see hl e12 hel).2 c, m1_no.2.1⟩
      · exact ⟨_, (re_see hl e12 hel).1 (by omega), by rw [e6]; exact g3.resolve_left c⟩
    obtain ⟨x, hx, hxd⟩ := hsee
    refine ⟨wr s0 B 14 (nI (if 4 < e - q then 1 else 2)), ?_, o.wr (by omega), by rw [wr_o (by decide)]; exact e13, by rw [wr_o (by decide)]; exact e15, wr_v, fun h => by rw [wr_o (by decide)]; exact e16 h⟩
    unfold X12_next0_b126 X12_next0_b208 pI
    rw [e13, hx, bsm, digR.2 hxd, bsm, if_pos rfl, e15, pk_sub hqe, bsm, bsm]
    by_cases c : 4 < e - q
    · rw [if_pos (show (5 : Int32) ≤ nI (e - q) from nI_le (a := 5) (by omega) (by omega)), if_pos c]; rfl
    · rw [if_neg (show ¬ (5 : Int32) ≤ nI (e - q) from nI_ge (b := 5) (by omega) (by decide)), if_neg c]; rfl
  · have e6 : s0 (B + 6) = ρ (B + 6) := o.2 _ (by omega)
    have e12 : s0 B 12 = nI len := by rw [o.1 12 (by decide) (by decide) (by decide) (by decide)]; exact h12
    have hsee := (re_see (B := B) (len := len) (j := j) (s := s0) hl e12 (by omega)).1 (by omega)
    rw [e6] at hsee
    have e4 : nI q + 4 = nI (q + 4) := nI_add q 4
    unfold X12_next0_b126 X12_next0_b176 pI
    rw [e13, hsee, bsm, digR.1 (g2 j hqj hj), bsm, if_neg n10, e15, e4]
    by_cases c : q + 4 ≤ j
    · rw [if_pos (nI_le c (by omega)), nI_s, bsm]
      exact ih (by omega) _ (o.wr (by omega)) wr_v (by rw [wr_o (by decide)]; exact e15) (fun h => absurd h (by omega))
    · rw [if_neg (nI_ge (by omega) (by omega)), bsm, bsm, wr_o (by decide), e13, nI_s, bsm]
      refine ih (by omega) _ ((o.wr (by omega)).wr (by omega)) wr_v (by rw [wr_o (by decide), wr_o (by decide)]; exact e15) (fun _ => ?_)
      rw [wr_o (by decide), wr_v, e16 (by omega), show j + 1 - q = (j - q) + 1 by omega]
      show _ = valF (ρ (B + 6)) q (j - q) * 10 + ρ (B + 6) (q + (j - q)) - 48
      rw [show q + (j - q) = j by omega, Int32.mul_comm]
theorem re_next {B len p kc q v e : Nat} {law : Bool} {ρ : Sig} (hl : len ≤ 400) (h12 : ρ B 12 = nI len) (h13 : ρ B 13 = nI p) (hk : 2 ≤ ρ B 9 ↔ law = false) (hm : ∀ j, j < len → ρ (B + 6) j ≠ -1) (h : Tk (ρ (B + 6)) len law p kc q v e) : ∃ r, X12_next0_f B ρ = some r ∧ only4 B ρ r ∧ r B 13 = nI e ∧ r B 14 = nI (kr law kc) ∧ r B 15 = nI q ∧ (kc = 1 → r B 16 = nI v) := by
  obtain ⟨hpq, hqe, hel, hsp, h⟩ := h
  have key := fuel_up (m := q) (C := fun fu j => p ≤ j → ∀ s0, only4 B ρ s0 → s0 B 13 = nI j → ∃ r, X12_next0_b0 B fu s0 = some r ∧ only4 B ρ r ∧ r B 13 = nI e ∧ r B 14 = nI (kr law kc) ∧ r B 15 = nI q ∧ (kc = 1 → r B 16 = nI v)) (fun fu _ s0 o e13 => ?_) (fun fu j hj ih hpj s0 o e13 => ?_) (q - p) p FU (by omega) (by unfold FU; omega)
  · exact key (Nat.le_refl _) ρ ⟨fun _ _ _ _ _ => rfl, fun _ _ => rfl⟩ h13
  · have e6 : s0 (B + 6) = ρ (B + 6) := o.2 _ (by omega)
    have e12 : s0 B 12 = nI len := by rw [o.1 12 (by decide) (by decide) (by decide) (by decide)]; exact h12
    obtain ⟨s1, hs1⟩ : ∃ s1, s1 = wr s0 B 15 (nI q) := ⟨_, rfl⟩
    have o1 : only4 B ρ s1 := by rw [hs1]; exact o.wr (by omega)
    have e13' : s1 B 13 = nI q := by rw [hs1, wr_o (by decide)]; exact e13
    have e15' : s1 B 15 = nI q := by rw [hs1, wr_v]
    have e12' : s1 B 12 = nI len := by rw [hs1, wr_o (by decide)]; exact e12
    have e6' : s1 (B + 6) = ρ (B + 6) := o1.2 _ (by omega)
    unfold X12_next0_b0
    rcases h with ⟨c, rfl, rfl⟩ | ⟨hlt, hk0, n1, n2, h⟩
    · have z0 := (re_see (s := s0) hl e12 (j := q) (by omega)).2 c
      have z1 := (re_see (s := s1) hl e12' (j := q) (by omega)).2 c
      unfold pI
      rw [e13, z0, bsm, if_neg m1_no.2.2.1, bsm, if_neg m1_no.2.2.2, bsm, ← hs1, e13', z1, bsm, if_pos rfl, bsm]
      exact ⟨_, rfl, o1.wr (by omega), by rw [wr_o (by decide), e13', c], wr_v, by rw [wr_o (by decide)]; exact e15', fun z => absurd z (by decide)⟩
    · have hql : q < len := by omega
      have z0 := (re_see (s := s0) hl e12 (j := q) (by omega)).1 hql
      have z1 := (re_see (s := s1) hl e12' (j := q) (by omega)).1 hql
      rw [e6] at z0
      rw [e6'] at z1
      have pI0 : pI s0 B 15 (nI q) = some s1 := by rw [hs1]; rfl
      rw [e13, z0, bsm, if_neg n1, bsm, if_neg n2, pI0, bsm, e13', z1, bsm, if_neg (hm q hql)]
      rcases h with ⟨g1, g2, g3, r, g4, g5⟩ | ⟨g1, g2, g3, g4, g5⟩ | ⟨g1, g2, g3, g4⟩
      · rw [letR.1 g1, bsm, if_neg n10]
        obtain ⟨s, a1, a2, a3, a4, a5⟩ := re_letters hl h12 hk hqe hel g2 g3 g4 s1 e13' e15' o1
        have hkr : kr law kc = krW law r ∧ kc ≠ 1 := by
          rcases kwF_cases _ _ _ g4 with ⟨i, x, -, h2, -⟩ | ⟨h2, -⟩
          · rw [h2] at g5 ⊢
            have g5 : kc = 100 + i := g5
            unfold kr
            rw [if_neg (by omega), if_neg (by omega), if_neg (by omega), if_neg (by omega), g5]
            exact ⟨rfl, by omega⟩
          · rw [h2] at g5 ⊢
            have g5 : kc = 2 := g5
            rw [g5]; exact ⟨rfl, by decide⟩
        exact ⟨s, a1, a2, a3, by rw [a5, hkr.1], a4, fun z => absurd z hkr.2⟩
      · rw [letR.2 g1, bsm, if_pos rfl, digR.1 g2, bsm, if_neg n10]
        have pI1 : pI s1 B 16 0 = some (wr s1 B 16 0) := rfl
        rw [pI1, bsm]
        obtain ⟨s, a1, a2, a3, a4, a5, a6⟩ := re_digits hl h12 hqe hel g3 g4 (wr s1 B 16 0) (by rw [wr_o (by decide)]; exact e13') (by rw [wr_o (by decide)]; exact e15') wr_v (o1.wr (by omega))
        refine ⟨s, a1, a2, a3, ?_, a4, fun z => ?_⟩
        · rcases g5 with ⟨b1, b2⟩ | ⟨b1, b2, b3, b4⟩
          · rw [a5, if_pos b1, b2]; rfl
          · rw [a5, if_neg (by omega), b2]; rfl
        · rcases g5 with ⟨b1, b2⟩ | ⟨b1, b2, b3, b4⟩
          · omega
          · rw [a6 b1, b4]
      · rw [letR.2 g1, bsm, if_pos rfl, digR.2 g2, bsm, if_pos rfl]
        have pI2 : pI s1 B 13 (nI q + 1) = some (wr s1 B 13 (nI (q + 1))) := by rw [nI_s]; rfl
        rw [pI2, bsm]
        unfold X12_next0_b289 X12_next0_b303
        simp only [if_pos (show (0 : Int32) = 0 from rfl), if_neg n10]
        have fin : ∀ x, x = nI (kr law kc) → ∃ r, ((pI (wr s1 B 13 (nI (q + 1))) B 14 x).bind fun s1 => some s1) = some r ∧ only4 B ρ r ∧ r B 13 = nI e ∧ r B 14 = nI (kr law kc) ∧ r B 15 = nI q ∧ (kc = 1 → r B 16 = nI v) := fun x hx => by
          refine ⟨wr (wr s1 B 13 (nI (q + 1))) B 14 x, rfl, (o1.wr (by omega)).wr (by omega), by rw [wr_o (by decide), wr_v, g3], by rw [wr_v, hx], by rw [wr_o (by decide), wr_o (by decide)]; exact e15', fun z => ?_⟩
          rcases g4 with ⟨-, -, b, -⟩ | ⟨-, b⟩ <;> omega
        rcases g4 with ⟨b1, b2, b3, b4⟩ | ⟨b1, b2⟩
        · have hx : 100 + ρ (B + 6) q = nI (kr law kc) := by
            unfold kr
            rw [if_neg (by omega), if_neg (by omega), if_neg (by omega), if_pos (by omega), b2, show (100 : Int32) = nI 100 from rfl, nI_add]
          have f := fin _ hx
          by_cases c1 : ρ (B + 6) q = 59
          · rw [if_pos c1]; exact f
          rw [if_neg c1]
          by_cases c2 : ρ (B + 6) q = 43
          · rw [if_pos c2]; exact f
          rw [if_neg c2]
          by_cases c3 : ρ (B + 6) q = 45
          · rw [if_pos c3]; exact f
          rw [if_neg c3]
          by_cases c4 : ρ (B + 6) q = 42
          · rw [if_pos c4]; exact f
          rw [if_neg c4]
          by_cases c5 : ρ (B + 6) q = 47
          · rw [if_pos c5]; exact f
          rw [if_neg c5]
          by_cases c6 : ρ (B + 6) q = 40
          · rw [if_pos c6]; exact f
          rw [if_neg c6]
          by_cases c7 : ρ (B + 6) q = 41
          · rw [if_pos c7]; exact f
          rw [if_neg c7]
          by_cases c8 : ρ (B + 6) q = 60
          · rw [if_pos c8]; exact f
          rw [if_neg c8]
          by_cases c9 : ρ (B + 6) q = 61
          · rw [if_pos c9]; exact f
          rw [if_neg c9]
          by_cases c10 : ρ (B + 6) q = 62
          · rw [if_pos c10]; exact f
          exact absurd b1 (by unfold isS; simp only [not_or]; exact ⟨c1, c2, c3, c4, c5, c6, c7, c8, c9, c10⟩)
        · unfold isS at b1
          simp only [not_or] at b1
          obtain ⟨h1, h2, h3, h4, h5, h6, h7, h8, h9, h10⟩ := b1
          rw [if_neg h1, if_neg h2, if_neg h3, if_neg h4, if_neg h5, if_neg h6, if_neg h7, if_neg h8, if_neg h9, if_neg h10]
          exact fin 1 (by rw [b2]; rfl)
  · have e6 : s0 (B + 6) = ρ (B + 6) := o.2 _ (by omega)
    have e12 : s0 B 12 = nI len := by rw [o.1 12 (by decide) (by decide) (by decide) (by decide)]; exact h12
    have z0 := (re_see (s := s0) hl e12 (j := j) (by omega)).1 (by omega)
    rw [e6] at z0
    have b26 : X12_next0_b26 B (X12_next0_b0 B fu) s0 = X12_next0_b0 B fu (wr s0 B 13 (nI (j + 1))) := by
      unfold X12_next0_b26 pI; rw [e13, nI_s, bsm]
    unfold X12_next0_b0
    rw [b26, e13, z0, bsm, bsm]
    rcases hsp j hpj hj with c | c
    · rw [if_pos c]; exact ih (by omega) _ (o.wr (by omega)) wr_v
    · rw [c, if_neg (by decide), if_pos rfl]; exact ih (by omega) _ (o.wr (by omega)) wr_v
