/-! THE START. -/
abbrev ls5 : List (Nat × Nat) := [(5, 400), (6, 17), (7, 16), (8, 401), (9, 401), (10, 401)]
theorem make5 {τ : Tau} {σ : Sig} {a nx : Nat} (h : τ a = some (.inl (5, rsX5))) (hn : a + 1 = nx) : ∃ τ', X5_init_f τ σ nx a = some (τ', zrs 6 (wr σ a 1 (-1)) nx, nx + 6) ∧ ShX5 τ' a ∧ ∀ x, x < a ∨ a + 7 ≤ x → τ' x = τ x := by
  subst hn
  refine ⟨chn a ls5 τ (a + 1), ?_, ⟨chn_a ls5 τ (a + 1) rsX5 h (by omega), chn_n ls5 τ (a + 1) 0 _ (by omega) rfl, chn_n ls5 τ (a + 1) 1 _ (by omega) rfl, chn_n ls5 τ (a + 1) 2 _ (by omega) rfl, chn_n ls5 τ (a + 1) 3 _ (by omega) rfl, chn_n ls5 τ (a + 1) 4 _ (by omega) rfl, chn_n ls5 τ (a + 1) 5 _ (by omega) rfl⟩, fun x hx => chn_o ls5 τ (a + 1) x (by omega) (show x < a + 1 ∨ a + 1 + 6 ≤ x by omega)⟩
  have e : X5_init_f τ σ (a + 1) a = (dI τ σ 5 a 1 (-1)).bind fun s1 => (ini 5 a ls5 τ (a + 1)).bind fun t => some (t, zrs 6 s1 (a + 1), a + 1 + 6) := by
    unfold X5_init_f
    simp only [ls5, ini, bind_ra, bsm]
    rfl
  rw [e, dI_of h rfl, bsm, ini_ok ls5 τ (a + 1) rsX5 h (by omega) (by decide), bsm]
theorem make7 {τ : Tau} {σ : Sig} {a nx n1 n2 n3 : Nat} {x : Int32} (h : τ a = some (.inl (7, rsX7))) (h1 : τ (a + 1) = some (.inr (.inl n1))) (h2 : τ (a + 2) = some (.inr (.inl n2))) (h3 : τ (a + 3) = some (.inr (.inl n3))) : ∃ τ', X7_init_f τ σ nx a (a + 1) (a + 2) (a + 3) x = some (τ', wr σ a 0 x, nx) ∧ ShX7 τ' a n1 n2 n3 ∧ ∀ y, y ≠ a → τ' y = τ y := by
  have e1 := setR_eq (kf := 1) (r := some (a + 1)) h
  have e2 := setR_eq (kf := 2) (r := some (a + 2)) e1
  have e3 := setR_eq (kf := 3) (r := some (a + 3)) e2
  refine ⟨setR (setR (setR τ a 1 (some (a + 1))) a 2 (some (a + 2))) a 3 (some (a + 3)), ?_, ⟨e3, ?_, ?_, ?_⟩, fun y hy => by rw [setR_ne hy, setR_ne hy, setR_ne hy]⟩
  · unfold X7_init_f
    rw [dI_of h rfl, bsm, dR_of h rfl, bsm, dR_of e1 rfl, bsm, dR_of e2 rfl, bsm]
  · rw [setR_ne (by omega), setR_ne (by omega), setR_ne (by omega)]; exact h1
  · rw [setR_ne (by omega), setR_ne (by omega), setR_ne (by omega)]; exact h2
  · rw [setR_ne (by omega), setR_ne (by omega), setR_ne (by omega)]; exact h3
/-- a world as it begins -/
def W0 (σ : Sig) (W cap : Nat) : Prop := (∀ i, 1 ≤ i → i < 35 → i ≠ 23 → i ≠ 24 → i ≠ 33 → ∀ j, σ (W + i) j = 0) ∧ σ (W + 23) 2 = -1 ∧ σ (W + 23) 3 = 5 ∧ (∀ j, j ≠ 2 → j ≠ 3 → σ (W + 23) j = 0) ∧ (∀ j, j < 36 → σ (W + 24) j = wl0 j) ∧ σ (W + 33) 0 = nI cap ∧ ∀ j, j ≠ 0 → σ (W + 33) j = 0
theorem W0.fr {σ σ' : Sig} {W cap : Nat} (h : W0 σ W cap) (hf : ∀ x, W ≤ x → x < W + 35 → σ' x = σ x) : W0 σ' W cap := by
  obtain ⟨h1, h2, h3, h4, h5, h6, h7⟩ := h
  refine ⟨fun i a b c d e j => by rw [hf _ (by omega) (by omega)]; exact h1 i a b c d e j, ?_, ?_, ?_, ?_, ?_, ?_⟩
  · rw [hf _ (by omega) (by omega)]; exact h2
  · rw [hf _ (by omega) (by omega)]; exact h3
  · rw [hf _ (by omega) (by omega)]; exact h4
  · rw [hf _ (by omega) (by omega)]; exact h5
  · rw [hf _ (by omega) (by omega)]; exact h6
  · rw [hf _ (by omega) (by omega)]; exact h7
theorem make11 {τ : Tau} {σ : Sig} {A : Nat} (h : τ A = some (.inl (11, rsX11))) : ∃ τ' σ', X11_init_f τ σ (A + 1) A = some (τ', σ', A + 84) ∧ ShX11 τ' A ∧ rfld τ' A 2 = none ∧ (∀ x, x < A ∨ A + 84 ≤ x → τ' x = τ x) ∧ ShX7 τ' (A + 1) 1 0 0 ∧ (∀ j, j < 6 → rcon τ' (A + 5 + 29) j = some (A + 1)) ∧ (∀ j, rcon τ' (A + 5 + 28) j = none) ∧ W0 σ' (A + 5) 400 ∧ W0 σ' (A + 40) 0 ∧ (∀ j, σ' (A + 1) j = 0) ∧ (∀ j, σ' (A + 2) j = 0) ∧ (∀ j, σ' (A + 75) j = 0) ∧ σ' (A + 77) 0 = 0 ∧ σ' (A + 77) 1 = -1 ∧ (∀ j, σ' (A + 79) j = 0) ∧ ∀ x, x < A + 1 ∨ A + 84 ≤ x → σ' x = σ x := by
  -- the empty text
  have b1 : al (al (al (al τ (A + 1) (.inl (7, rsX7))) (A + 2) (.inr (.inl 1))) (A + 3) (.inr (.inl 0))) (A + 4) (.inr (.inl 0)) (A + 1) = some (.inl (7, rsX7)) := by rw [al_ne (by omega), al_ne (by omega), al_ne (by omega), al_eq]
  have b2 : al (al (al (al τ (A + 1) (.inl (7, rsX7))) (A + 2) (.inr (.inl 1))) (A + 3) (.inr (.inl 0))) (A + 4) (.inr (.inl 0)) (A + 1 + 1) = some (.inr (.inl 1)) := by rw [al_ne (by omega), al_ne (by omega), show A + 1 + 1 = A + 2 by omega, al_eq]
  have b3 : al (al (al (al τ (A + 1) (.inl (7, rsX7))) (A + 2) (.inr (.inl 1))) (A + 3) (.inr (.inl 0))) (A + 4) (.inr (.inl 0)) (A + 1 + 2) = some (.inr (.inl 0)) := by rw [al_ne (by omega), show A + 1 + 2 = A + 3 by omega, al_eq]
  have b4 : al (al (al (al τ (A + 1) (.inl (7, rsX7))) (A + 2) (.inr (.inl 1))) (A + 3) (.inr (.inl 0))) (A + 4) (.inr (.inl 0)) (A + 1 + 3) = some (.inr (.inl 0)) := by rw [show A + 1 + 3 = A + 4 by omega, al_eq]
  obtain ⟨t7, c1, p7, o7⟩ := make7 (σ := zrs 4 σ (A + 1)) (nx := A + 5) (x := 0) b1 b2 b3 b4
  have o7' : ∀ x, (x < A + 1 ∨ A + 5 ≤ x) → t7 x = τ x := fun x hx => by rw [o7 x (by omega), al_ne (by omega), al_ne (by omega), al_ne (by omega), al_ne (by omega)]
  -- now
  have ob7 : isOb (al t7 (A + 5) (.inl (10, rsX10))) 7 (some (A + 1)) = true := by
    show (match al t7 (A + 5) (.inl (10, rsX10)) (A + 1) with | some (.inl (c', _)) => c' == 7 | _ => false) = true
    rw [al_ne (by omega), p7.1]; rfl
  obtain ⟨t11, s12, c2, p10, o11, r28, r29, f12, w1, w2, w3, w4, w5, w6, w7⟩ := make10 (τ := al t7 (A + 5) (.inl (10, rsX10))) (σ := zr (wr (zrs 4 σ (A + 1)) (A + 1) 0 0) (A + 5)) (a := A + 5) (nx := A + 5 + 1) (r := A + 1) (cap := 400) (x1 := 400) al_eq rfl ob7 (by omega) (by decide) (by decide)
  have W1 : W0 s12 (A + 5) 400 := ⟨w1, w2, w3, w4, w5, w6, w7⟩
  have o11' : ∀ x, (x < A + 5 ∨ A + 40 ≤ x) → t11 x = t7 x := fun x hx => by rw [o11 x (by omega), al_ne (by omega)]
  have a1 : t11 A = some (.inl (11, rsX11)) := by rw [o11' A (by omega), o7' A (by omega)]; exact h
  have a2 := setR_eq (kf := 0) (r := some (A + 5)) a1
  generalize hT15 : setR t11 A 0 (some (A + 5)) = t15 at a2
  have o15 : ∀ x, x ≠ A → t15 x = t11 x := fun x hx => by rw [← hT15, setR_ne hx]
  -- the dream
  have ob7' : isOb (al t15 (A + 40) (.inl (10, rsX10))) 7 (some (A + 1)) = true := by
    show (match al t15 (A + 40) (.inl (10, rsX10)) (A + 1) with | some (.inl (c', _)) => c' == 7 | _ => false) = true
    rw [al_ne (by omega), o15 _ (by omega), o11' _ (by omega), p7.1]; rfl
  obtain ⟨t17, s18, c3, p10', o17, -, -, f18, v1, v2, v3, v4, v5, v6, v7⟩ := make10 (τ := al t15 (A + 40) (.inl (10, rsX10))) (σ := zr s12 (A + 40)) (a := A + 40) (nx := A + 40 + 1) (r := A + 1) (cap := 0) (x1 := 0) al_eq rfl ob7' (by omega) (by decide) (by decide)
  have W2 : W0 s18 (A + 40) 0 := ⟨v1, v2, v3, v4, v5, v6, v7⟩
  have o17' : ∀ x, (x < A + 40 ∨ A + 75 ≤ x) → t17 x = t15 x := fun x hx => by rw [o17 x (by omega), al_ne (by omega)]
  have a3 : t17 A = t15 A := o17' A (by omega)
  rw [a2] at a3
  have a4 := setR_eq (kf := 1) (r := some (A + 40)) a3
  have a5 := setR_eq (kf := 2) (r := none) a4
  generalize hT23 : setR (setR t17 A 1 (some (A + 40))) A 2 none = t23 at a5
  have o23 : ∀ x, x ≠ A → t23 x = t17 x := fun x hx => by rw [← hT23, setR_ne hx, setR_ne hx]
  -- the tape
  obtain ⟨t25, c4, p6, o25⟩ := make6 (τ := al t23 (A + 75) (.inl (6, rsX6))) (σ := zr s18 (A + 75)) (a := A + 75) (nx := A + 75 + 1) al_eq rfl
  have o25' : ∀ x, (x < A + 75 ∨ A + 77 ≤ x) → t25 x = t23 x := fun x hx => by rw [o25 x (by omega), al_ne (by omega)]
  have a6 : t25 A = t23 A := o25' A (by omega)
  rw [a5] at a6
  have a7 := setR_eq (kf := 3) (r := some (A + 75)) a6
  generalize hT29 : setR t25 A 3 (some (A + 75)) = t29 at a7
  have o29 : ∀ x, x ≠ A → t29 x = t25 x := fun x hx => by rw [← hT29, setR_ne hx]
  -- the reader
  obtain ⟨t31, c5, p5, o31⟩ := make5 (τ := al t29 (A + 77) (.inl (5, rsX5))) (σ := zr (zrs 1 (zr s18 (A + 75)) (A + 75 + 1)) (A + 77)) (a := A + 77) (nx := A + 77 + 1) al_eq rfl
  have o31' : ∀ x, (x < A + 77 ∨ A + 84 ≤ x) → t31 x = t29 x := fun x hx => by rw [o31 x (by omega), al_ne (by omega)]
  have a8 : t31 A = t29 A := o31' A (by omega)
  rw [a7] at a8
  have a9 := setR_eq (kf := 4) (r := some (A + 77)) a8
  generalize hT35 : setR t31 A 4 (some (A + 77)) = t35 at a9
  have o35 : ∀ x, x ≠ A → t35 x = t31 x := fun x hx => by rw [← hT35, setR_ne hx]
  have a9 : t35 A = some (.inl (11, [some (some (A + 5)), some (some (A + 40)), some none, some (some (A + 75)), some (some (A + 77))])) := a9
  have g75 : ∀ x, x ≠ A → x < A + 75 → t35 x = t17 x := fun x h1 h2 => by rw [o35 x h1, o31' x (by omega), o29 x h1, o25' x (by omega), o23 x h1]
  have g40 : ∀ x, x ≠ A → x < A + 40 → t35 x = t11 x := fun x h1 h2 => by rw [g75 x h1 (by omega), o17' x (by omega), o15 x h1]
  have kq : rfld t35 A 2 = none := rfld_of a9 rfl
  have se : ∀ x, (x < A + 75 ∨ A + 84 ≤ x) → zrs 6 (wr (zr (zrs 1 (zr s18 (A + 75)) (A + 75 + 1)) (A + 77)) (A + 77) 1 (-1)) (A + 77 + 1) x = s18 x := fun x hx => by
    rw [zrs_out 6 _ _ _ (by omega), wr_row (by omega), zr_ne (by omega), zrs_out 1 _ _ _ (by omega), zr_ne (by omega)]
  have s12' : ∀ x, (x < A + 40 ∨ A + 75 ≤ x) → s18 x = s12 x := fun x hx => by rw [f18 x (by omega), zr_ne (by omega)]
  refine ⟨t35, zrs 6 (wr (zr (zrs 1 (zr s18 (A + 75)) (A + 75 + 1)) (A + 77)) (A + 77) 1 (-1)) (A + 77 + 1), ?_, ⟨by rw [kq]; exact a9, p10.same (fun x h1 h2 => g40 x (by omega) (by omega)), p10'.same (fun x h1 h2 => g75 x (by omega) (by omega)), ?_, ?_⟩, kq, fun x hx => ?_, ?_, fun j hj => by rw [rcon_eq (g40 (A + 5 + 29) (by omega) (by omega))]; exact r29 j hj, fun j => by rw [rcon_eq (g40 (A + 5 + 28) (by omega) (by omega))]; exact r28 j, W1.fr (fun x h1 h2 => by rw [se x (by omega), s12' x (by omega)]), W2.fr (fun x h1 h2 => se x (by omega)), fun j => ?_, fun j => ?_, fun j => ?_, ?_, ?_, fun j => ?_, fun x hx => ?_⟩
  · unfold X11_init_f
    rw [show (nwI 1 1) = some 1 from nwI_of (N := 1) (by omega) (by decide), bsm, show (nwI 0 0) = some 0 from nwI_of (N := 0) (by omega) (by decide), bsm, bsm]
    have c1' : X7_init_f (al (al (al (al τ (A + 1) (.inl (7, rsX7))) (A + 1 + 1) (.inr (.inl 1))) (A + 1 + 2) (.inr (.inl 0))) (A + 1 + 3) (.inr (.inl 0))) (zr (zr (zr (zr σ (A + 1)) (A + 1 + 1)) (A + 1 + 2)) (A + 1 + 3)) (A + 1 + 4) (A + 1) (A + 1 + 1) (A + 1 + 2) (A + 1 + 3) 0 = some (t7, wr (zrs 4 σ (A + 1)) (A + 1) 0 0, A + 5) := c1
    rw [c1', bsm]
    dsimp only
    rw [c2, bsm]
    dsimp only
    rw [dR_of a1 rfl, bsm, hT15, show A + 5 + 35 = A + 40 by omega, c3, bsm]
    dsimp only
    rw [dR_of a3 rfl, bsm, dR_of a4 rfl, bsm, hT23, show A + 40 + 35 = A + 75 by omega, c4, bsm]
    dsimp only
    rw [dR_of a6 rfl, bsm, hT29, show A + 75 + 1 + 1 = A + 77 by omega, c5, bsm]
    dsimp only
    rw [dR_of a8 rfl, bsm, hT35]
  · unfold ShX6 at p6 ⊢
    rw [o35 _ (by omega), o31' _ (by omega), o29 _ (by omega), o35 _ (by omega), o31' _ (by omega), o29 _ (by omega)]; exact p6
  · unfold ShX5 at p5 ⊢
    rw [o35 _ (by omega), o35 _ (by omega), o35 _ (by omega), o35 _ (by omega), o35 _ (by omega), o35 _ (by omega), o35 _ (by omega)]; exact p5
  · rw [o35 x (by omega), o31' x (by omega), o29 x (by omega), o25' x (by omega), o23 x (by omega), o17' x (by omega), o15 x (by omega), o11' x (by omega), o7' x (by omega)]
  · unfold ShX7 at p7 ⊢
    rw [g40 _ (by omega) (by omega), g40 _ (by omega) (by omega), g40 _ (by omega) (by omega), g40 _ (by omega) (by omega), o11' _ (by omega), o11' _ (by omega), o11' _ (by omega), o11' _ (by omega)]; exact p7
  · rw [se _ (by omega), s12' _ (by omega), f12 _ (by omega), zr_ne (by omega)]
    by_cases e : j = 0
    · subst e; exact wr_v
    · rw [wr_o e]; exact zrs_in 4 _ _ _ j (by omega) (by omega)
  · rw [se _ (by omega), s12' _ (by omega), f12 _ (by omega), zr_ne (by omega), wr_row (by omega)]; exact zrs_in 4 _ _ _ j (by omega) (by omega)
  · rw [zrs_out 6 _ _ _ (by omega), wr_row (by omega), zr_ne (by omega), zrs_out 1 _ _ _ (by omega)]; exact zr_eq
  · rw [zrs_out 6 _ _ _ (by omega), wr_o (by decide)]; exact zr_eq
  · rw [zrs_out 6 _ _ _ (by omega), wr_v]
  · exact zrs_in 6 _ _ _ j (by omega) (by omega)
  · rw [se x (by omega), s12' x (by omega), f12 x (by omega), zr_ne (by omega), wr_row (by omega), zrs_out 4 _ _ _ (by omega)]
/-- the reference -/
def w00 (j : Nat) : Int32 := if j = 3 then -1 else if j = 4 then 5 else if 50 ≤ j ∧ j < 86 then wl0 (j - 50) else if 190 ≤ j ∧ j < 226 then -1 else 0
abbrev ls12a : List (Nat × Nat) := [(0, 20240), (1, 20240), (2, 2550), (4, 64), (5, 820), (6, 400), (7, 420), (8, 12)]
abbrev ls12b : List (Nat × Nat) := [(23, 40), (24, 4)]
theorem make12 {τ : Tau} {σ : Sig} {B : Nat} (h : τ B = some (.inl (12, rsX12))) (h0 : ∀ j, σ B j = 0) : ∃ τ' σ', X12_init_f τ σ (B + 1) B = some (τ', σ', B + 11) ∧ ShX12 τ' B ∧ (∀ x, x < B ∨ B + 11 ≤ x → τ' x = τ x) ∧ (∀ x, x < B ∨ B + 11 ≤ x → σ' x = σ x) ∧ σ' (B + 1) = w00 ∧ σ' B 3 = 0 ∧ σ' B 12 = 0 ∧ σ' B 19 = 0 ∧ σ' B 21 = -1 := by
  have ca := chn_a ls12a τ (B + 1) rsX12 h (by omega)
  have ia := ini_ok ls12a τ (B + 1) rsX12 h (by omega) (by decide)
  have oa : ∀ x, x ≠ B → (x < B + 1 ∨ B + 9 ≤ x) → chn B ls12a τ (B + 1) x = τ x := fun x h1 h2 => chn_o ls12a τ (B + 1) x h1 (show x < B + 1 ∨ B + 1 + 8 ≤ x by omega)
  have na : ∀ i q, ls12a[i]? = some q → chn B ls12a τ (B + 1) (B + 1 + i) = some (.inr (.inl q.2)) := fun i q hq => chn_n ls12a τ (B + 1) i q (by omega) hq
  generalize hT31 : chn B ls12a τ (B + 1) = t31 at ca ia oa na
  have cb := chn_a ls12b t31 (B + 9) _ ca (by omega)
  have ib := ini_ok ls12b t31 (B + 9) _ ca (by omega) (al1 ⟨rfl, by decide⟩ (al1 ⟨rfl, by decide⟩ al0))
  have obb : ∀ x, x ≠ B → (x < B + 9 ∨ B + 11 ≤ x) → chn B ls12b t31 (B + 9) x = t31 x := fun x h1 h2 => chn_o ls12b t31 (B + 9) x h1 (show x < B + 9 ∨ B + 9 + 2 ≤ x by omega)
  have nb : ∀ i q, ls12b[i]? = some q → chn B ls12b t31 (B + 9) (B + 9 + i) = some (.inr (.inl q.2)) := fun i q hq => chn_n ls12b t31 (B + 9) i q (by omega) hq
  generalize hT41 : chn B ls12b t31 (B + 9) = T at cb ib obb nb
  have cb : T B = some (.inl (12, [some (some (B + 1)), some (some (B + 2)), some (some (B + 3)), none, some (some (B + 4)), some (some (B + 5)), some (some (B + 6)), some (some (B + 7)), some (some (B + 8)), none, none, none, none, none, none, none, none, none, none, none, none, none, none, some (some (B + 9)), some (some (B + 10))])) := cb
  have sh : ShX12 T B := by
    refine ⟨cb, ?_, ?_, ?_, ?_, ?_, ?_, ?_, ?_, nb 0 _ rfl, nb 1 _ rfl⟩
    · rw [obb _ (by omega) (by omega)]; exact na 0 _ rfl
    · rw [obb _ (by omega) (by omega)]; exact na 1 _ rfl
    · rw [obb _ (by omega) (by omega)]; exact na 2 _ rfl
    · rw [obb _ (by omega) (by omega)]; exact na 3 _ rfl
    · rw [obb _ (by omega) (by omega)]; exact na 4 _ rfl
    · rw [obb _ (by omega) (by omega)]; exact na 5 _ rfl
    · rw [obb _ (by omega) (by omega)]; exact na 6 _ rfl
    · rw [obb _ (by omega) (by omega)]; exact na 7 _ rfl
  have g1 : gRs T 12 B 0 = some (B + 1) := gRs_of cb rfl
  have stw : ∀ (s : Sig) (j : Nat) (v : Int32), j < 20240 → stD T s (B + 1) (nI j) v = some (wr s (B + 1) j v) := fun s j v hj => by
    unfold stD; rw [sh.2.1]; exact stn hj (by decide)
  have hush := fun (nx : Nat) => fuel_up (m := 12) (C := fun fu p => ∀ s : Sig, ∃ s', X12_init_b163 B fu (nI p) T s nx = some (T, s', nx) ∧ (∀ x, x ≠ B + 1 → s' x = s x) ∧ ∀ j, s' (B + 1) j = if 190 + 3 * p ≤ j ∧ j < 226 then -1 else s (B + 1) j) (fun fu s => ⟨s, by unfold X12_init_b163; rw [if_pos (show (12 : Int32) ≤ nI 12 from Int32.le_refl _)], fun _ _ => rfl, fun j => by rw [if_neg (by omega)]⟩) (fun fu p hp ih s => by
    unfold X12_init_b163 X12_hushes_f
    rw [if_neg (show ¬ (12 : Int32) ≤ nI p from nI_ge (b := 12) hp (by decide)), chk_yes sh, rM0 hp, bsm, rM1 hp, bsm, rM2 hp, bsm, bsm, nI_s]
    obtain ⟨s', e1, e2, e3⟩ := ih (wr (wr (wr s (B + 1) (190 + 3 * p) (-1)) (B + 1) (190 + 3 * p + 1) (-1)) (B + 1) (190 + 3 * p + 2) (-1))
    refine ⟨s', e1, fun x hx => by rw [e2 x hx, wr_row hx, wr_row hx, wr_row hx], fun j => ?_⟩
    rw [e3 j]
    by_cases c : 190 + 3 * (p + 1) ≤ j ∧ j < 226
    · rw [if_pos c, if_pos (by omega)]
    · rw [if_neg c, wr_same, wr_same, wr_same]
      by_cases c2 : j = 190 + 3 * p + 2
      · rw [if_pos c2, if_pos (by omega)]
      · rw [if_neg c2]
        by_cases c1 : j = 190 + 3 * p + 1
        · rw [if_pos c1, if_pos (by omega)]
        · rw [if_neg c1]
          by_cases c0 : j = 190 + 3 * p
          · rw [if_pos c0, if_pos (by omega)]
          · rw [if_neg c0, if_neg (by omega)]) 12 0 FU (by omega) (by unfold FU; omega)
  have inner := fun (k110 : Int32 → Tau → Sig → Nat → Option Hp) (p nx : Nat) (hp : p < 6) => fuel_up (m := 6) (C := fun fu q => ∀ s : Sig, ∃ s', X12_init_b118 B k110 fu (nI p) (nI q) T s nx = k110 (nI (p + 1)) T s' nx ∧ (∀ x, x ≠ B + 1 → s' x = s x) ∧ ∀ j, s' (B + 1) j = if 50 + 6 * p + q ≤ j ∧ j < 56 + 6 * p then wl0 (j - 50) else s (B + 1) j) (fun fu s => ⟨s, by unfold X12_init_b118; rw [if_pos (show (6 : Int32) ≤ nI 6 from Int32.le_refl _), nI_s], fun _ _ => rfl, fun j => by rw [if_neg (by omega)]⟩) (fun fu q hq ih s => by
    have ei : ((50 + (6 * nI p)) + nI q : Int32) = nI (50 + 6 * p + q) := by rw [show (50 : Int32) = nI 50 from rfl, show (6 : Int32) = nI 6 from rfl, pk_mul, nI_add, nI_add]
    have go : ∀ v : Int32, v = wl0 (6 * p + q) → ∃ s', X12_init_b148 B k110 (X12_init_b118 B k110 fu) (B + 1) (nI p) (nI q) v (nI (50 + 6 * p + q)) T s nx = k110 (nI (p + 1)) T s' nx ∧ (∀ x, x ≠ B + 1 → s' x = s x) ∧ ∀ j, s' (B + 1) j = if 50 + 6 * p + q ≤ j ∧ j < 56 + 6 * p then wl0 (j - 50) else s (B + 1) j := by
      intro v hv
      unfold X12_init_b148
      rw [stw _ _ _ (by omega), bsm, nI_s]
      obtain ⟨s', e1, e2, e3⟩ := ih (wr s (B + 1) (50 + 6 * p + q) v)
      refine ⟨s', e1, fun x hx => by rw [e2 x hx, wr_row hx], fun j => ?_⟩
      rw [e3 j]
      by_cases c : 50 + 6 * p + (q + 1) ≤ j ∧ j < 56 + 6 * p
      · rw [if_pos c, if_pos (by omega)]
      · rw [if_neg c, wr_same]
        by_cases c0 : j = 50 + 6 * p + q
        · rw [if_pos c0, if_pos (by omega), hv]; congr 1; omega
        · rw [if_neg c0, if_neg (by omega)]
    unfold X12_init_b118
    rw [if_neg (show ¬ (6 : Int32) ≤ nI q from nI_ge (b := 6) hq (by decide)), g1, bsm, ei]
    by_cases c : p = q
    · subst c
      rw [if_pos rfl]
      exact go 0 (by unfold wl0; rw [if_pos (by omega)])
    · rw [if_neg (fun z => c (nI_inj (by omega) (by omega) z))]
      exact go 20 (by unfold wl0; rw [if_neg (by omega)])) 6 0 FU (by omega) (by unfold FU; omega)
  have outer := fun (nx : Nat) => fuel_up (m := 6) (C := fun fu p => ∀ s : Sig, ∃ s', X12_init_b110 B fu (nI p) T s nx = some (T, s', nx) ∧ (∀ x, x ≠ B + 1 → s' x = s x) ∧ ∀ j, s' (B + 1) j = if 50 + 6 * p ≤ j ∧ j < 86 then wl0 (j - 50) else if 190 ≤ j ∧ j < 226 then -1 else s (B + 1) j) (fun fu s => by
    unfold X12_init_b110
    rw [if_pos (show (6 : Int32) ≤ nI 6 from Int32.le_refl _)]
    have hh := hush nx
    rw [nI_0] at hh
    obtain ⟨s', e1, e2, e3⟩ := hh s
    exact ⟨s', e1, e2, fun j => by rw [e3 j, if_neg (show ¬ (50 + 6 * 6 ≤ j ∧ j < 86) by omega)]⟩) (fun fu p hp ih s => by
    unfold X12_init_b110
    rw [if_neg (show ¬ (6 : Int32) ≤ nI p from nI_ge (b := 6) hp (by decide))]
    have hh := inner (X12_init_b110 B fu) p nx hp
    rw [nI_0] at hh
    obtain ⟨s1, e1, e2, e3⟩ := hh s
    obtain ⟨s', d1, d2, d3⟩ := ih s1
    refine ⟨s', e1.trans d1, fun x hx => by rw [d2 x hx, e2 x hx], fun j => ?_⟩
    rw [d3 j, e3 j]
    by_cases c : 50 + 6 * (p + 1) ≤ j ∧ j < 86
    · rw [if_pos c, if_pos (by omega)]
    · rw [if_neg c]
      by_cases c1 : 190 ≤ j ∧ j < 226
      · rw [if_pos c1, if_neg (by omega), if_pos c1]
      · rw [if_neg c1]
        by_cases c2 : 50 + 6 * p + 0 ≤ j ∧ j < 56 + 6 * p
        · rw [if_pos c2, if_pos (by omega)]
        · rw [if_neg c2, if_neg (by omega), if_neg c1]) 6 0 FU (by omega) (by unfold FU; omega)
  have ho := outer (B + 11)
  rw [nI_0] at ho
  obtain ⟨s', e1, e2, e3⟩ := ho (wr (wr (zrs 2 (wr (zrs 8 σ (B + 1)) B 21 (-1)) (B + 9)) (B + 1) 3 (-1)) (B + 1) 4 5)
  have eB : ∀ j, s' B j = wr (zrs 8 σ (B + 1)) B 21 (-1) B j := fun j => by rw [e2 B (by omega), wr_row (by omega), wr_row (by omega), zrs_out 2 _ _ _ (by omega)]
  have eB' : ∀ j, j ≠ 21 → s' B j = 0 := fun j hj => by rw [eB j, wr_o hj, zrs_out 8 _ _ _ (by omega)]; exact h0 j
  refine ⟨T, s', ?_, sh, fun x hx => by rw [obb x (by omega) (by omega), oa x (by omega) (by omega)], fun x hx => ?_, ?_, eB' 3 (by decide), eB' 12 (by decide), eB' 19 (by decide), by rw [eB 21, wr_v]⟩
  · have r : X12_init_f τ σ (B + 1) B = (ini 12 B ls12a τ (B + 1)).bind fun t31 => (dI t31 (zrs 8 σ (B + 1)) 12 B 21 (-1)).bind fun s33 => (ini 12 B ls12b t31 (B + 9)).bind fun t41 => (gRs t41 12 B 0).bind fun b43 => (stD t41 (zrs 2 s33 (B + 9)) b43 3 (-1)).bind fun s45 => (gRs t41 12 B 0).bind fun b47 => (stD t41 s45 b47 4 5).bind fun s49 => X12_init_b110 B FU 0 t41 s49 (B + 11) := by
      unfold X12_init_f
      simp only [ls12a, ls12b, ini, bind_ra, bsm]
      rfl
    rw [r, ia, bsm, dI_of ca rfl, bsm, ib, bsm, g1, bsm, show stD T (zrs 2 (wr (zrs 8 σ (B + 1)) B 21 (-1)) (B + 9)) (B + 1) 3 (-1) = some (wr (zrs 2 (wr (zrs 8 σ (B + 1)) B 21 (-1)) (B + 9)) (B + 1) 3 (-1)) from stw _ 3 _ (by decide), bsm, bsm, show stD T (wr (zrs 2 (wr (zrs 8 σ (B + 1)) B 21 (-1)) (B + 9)) (B + 1) 3 (-1)) (B + 1) 4 5 = some (wr (wr (zrs 2 (wr (zrs 8 σ (B + 1)) B 21 (-1)) (B + 9)) (B + 1) 3 (-1)) (B + 1) 4 5) from stw _ 4 _ (by decide), bsm]
    exact e1
  · rw [e2 x (by omega), wr_row (by omega), wr_row (by omega), zrs_out 2 _ _ _ (by omega), wr_row (by omega), zrs_out 8 _ _ _ (by omega)]
  · funext j
    rw [e3 j]
    unfold w00
    by_cases c3 : j = 3
    · subst c3; rw [if_neg (by omega), if_neg (by omega), wr_o (by decide), wr_v, if_pos rfl]
    · rw [if_neg c3]
      by_cases c4 : j = 4
      · subst c4; rw [if_neg (by omega), if_neg (by omega), wr_v, if_pos rfl]
      · rw [if_neg c4]
        by_cases c5 : 50 ≤ j ∧ j < 86
        · rw [if_pos (by omega), if_pos c5]
        · rw [if_neg (by omega), if_neg c5]
          by_cases c6 : 190 ≤ j ∧ j < 226
          · rw [if_pos c6, if_pos c6]
          · rw [if_neg c6, if_neg c6, wr_o c4, wr_o c3, zrs_out 2 _ _ _ (by omega), wr_row (by omega)]; exact zrs_in 8 _ _ _ j (by omega) (by omega)
