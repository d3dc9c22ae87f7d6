/-! NEW WORLDS. -/
def wl0 (j : Nat) : Int32 := if j % 7 = 0 then 0 else 20
abbrev ls9 : List (Nat × Nat) := [(0, 36), (1, 24)]
theorem make9 {τ : Tau} {σ : Sig} {a nx : Nat} (h : τ a = some (.inl (9, rsX9))) (hn : a + 1 = nx) : ∃ τ' σ', X9_init_f τ σ nx a = some (τ', σ', nx + 2) ∧ ShX9 τ' a ∧ (∀ x, x < a ∨ a + 3 ≤ x → τ' x = τ x) ∧ (∀ x, x < a ∨ a + 3 ≤ x → σ' x = σ x) ∧ σ' a 2 = -1 ∧ σ' a 3 = 5 ∧ (∀ j, j ≠ 2 → j ≠ 3 → σ' a j = σ a j) ∧ (∀ j, j < 36 → σ' (a + 1) j = wl0 j) ∧ ∀ j, σ' (a + 2) j = 0 := by
  subst hn
  have hc0 := chn_a ls9 τ (a + 1) rsX9 h (by omega)
  have hc1 := chn_n (a := a) ls9 τ (a + 1) 0 (0, 36) (by omega) rfl
  have hc2 := chn_n (a := a) ls9 τ (a + 1) 1 (1, 24) (by omega) rfl
  generalize hT : chn a ls9 τ (a + 1) = T at hc0 hc1 hc2
  have hc0 : T a = some (.inl (9, [some (some (a + 1)), some (some (a + 2)), none, none, none, none, none])) := hc0
  have hc1 : T (a + 1) = some (.inr (.inl 36)) := hc1
  have e : X9_init_f τ σ (a + 1) a = (ini 9 a ls9 τ (a + 1)).bind fun t7 => (dI t7 (zr (zr σ (a + 1)) (a + 1 + 1)) 9 a 2 (-1)).bind fun s9 => (dI t7 s9 9 a 3 5).bind fun s11 => (gRs t7 9 a 0).bind fun b13 => chk (t7 b13 = some (.inr (.inl (tl t7 b13 0)))) ((J7_fill_53178_f b13 (tl t7 b13 0) 20 s11).bind fun s16 => X9_init_b41 a FU 0 t7 s16 (a + 1 + 2)) := by
    unfold X9_init_f
    simp only [ls9, ini, bind_ra, bsm]
    rfl
  have t0 : tl T (a + 1) 0 = 36 := by
    unfold Jvm.Pilot.CSilenceForMoneyLaw_law_r8759_80c104.tl; rw [Nat.add_zero, hc1]
  obtain ⟨s, f1, f2, f3⟩ := fill_ok (σ := wr (wr (zr (zr σ (a + 1)) (a + 1 + 1)) a 2 (-1)) a 3 5) (r := a + 1) (N := 36) (v := 20) (by decide)
  have key := fuel_up (m := 6) (C := fun fu i => ∀ s0 : Sig, (∀ x, x ≠ a + 1 → s0 x = s x) → (∀ j, j < 36 → s0 (a + 1) j = if j % 7 = 0 ∧ j < 7 * i then 0 else 20) → ∃ s1, X9_init_b41 a fu (nI i) T s0 (a + 1 + 2) = some (T, s1, a + 1 + 2) ∧ (∀ x, x ≠ a + 1 → s1 x = s x) ∧ ∀ j, j < 36 → s1 (a + 1) j = wl0 j) (fun fu s0 q1 q2 => ?_) (fun fu i hi ih s0 q1 q2 => ?_) 6 0 FU (by omega) (by unfold FU; omega)
  · rw [nI_0] at key
    obtain ⟨s1, k1, k2, k3⟩ := key s (fun _ _ => rfl) (fun j hj => by rw [f3 j hj, if_neg (by omega)])
    have so : ∀ x, x ≠ a + 1 → s1 x = wr (wr (zr (zr σ (a + 1)) (a + 1 + 1)) a 2 (-1)) a 3 5 x := fun x hx => by rw [k2 x hx, f2 x hx]
    refine ⟨T, s1, ?_, ⟨hc0, hc1, hc2⟩, fun x hx => by rw [← hT]; exact chn_o ls9 τ (a + 1) x (by omega) (show x < a + 1 ∨ a + 1 + 2 ≤ x by omega), fun x hx => ?_, ?_, ?_, fun j h2 h3 => ?_, k3, fun j => ?_⟩
    · rw [e, ini_ok ls9 τ (a + 1) rsX9 h (by omega) (by decide), bsm, hT, dI_of hc0 rfl, bsm, dI_of hc0 rfl, bsm, gRs_of hc0 rfl, bsm, t0, chk_yes hc1, f1, bsm]
      exact k1
    · rw [so x (by omega), wr_row (by omega), wr_row (by omega), zr_ne (by omega), zr_ne (by omega)]
    · rw [so a (by omega), wr_o (by decide), wr_v]
    · rw [so a (by omega), wr_v]
    · rw [so a (by omega), wr_o h3, wr_o h2, zr_ne (by omega), zr_ne (by omega)]
    · rw [so (a + 2) (by omega), wr_row (by omega), wr_row (by omega)]; exact zr_eq
  · refine ⟨s0, ?_, q1, fun j hj => ?_⟩
    · unfold X9_init_b41; rw [if_pos (show (6 : Int32) ≤ nI 6 from Int32.le_refl _)]
    · rw [q2 j hj]; unfold wl0
      by_cases c : j % 7 = 0
      · rw [if_pos c, if_pos ⟨c, by omega⟩]
      · rw [if_neg c, if_neg (fun z => c z.1)]
  · have ei : (nI i * 6 + nI i : Int32) = nI (7 * i) := by rw [show (6 : Int32) = nI 6 from rfl, pk_mul, nI_add]; congr 1; omega
    have es : stD T s0 (a + 1) (nI (7 * i)) 0 = some (wr s0 (a + 1) (7 * i) 0) := by
      unfold stD; rw [hc1]; exact stn (by omega) (by decide)
    unfold X9_init_b41
    rw [if_neg (show ¬ (6 : Int32) ≤ nI i from nI_ge (b := 6) hi (by decide)), gRs_of hc0 rfl, bsm, ei, es, bsm, nI_s]
    refine ih _ (fun x hx => by rw [wr_row hx]; exact q1 x hx) (fun j hj => ?_)
    by_cases c : j = 7 * i
    · subst c; rw [wr_v, if_pos ⟨by omega, by omega⟩]
    · rw [wr_o c, q2 j hj]
      by_cases c2 : j % 7 = 0 ∧ j < 7 * i
      · rw [if_pos c2, if_pos ⟨c2.1, by omega⟩]
      · rw [if_neg c2, if_neg (fun z => c2 ⟨z.1, by omega⟩)]
theorem ShX4.mv {τ τ' : Tau} {b : Nat} (h : ShX4 τ b) (e : ∀ x, b ≤ x → x < b + 11 → τ' x = τ x) : ShX4 τ' b := by
  unfold ShX4 at h ⊢
  rw [e _ (by omega) (by omega), e _ (by omega) (by omega), e _ (by omega) (by omega), e _ (by omega) (by omega), e _ (by omega) (by omega), e _ (by omega) (by omega), e _ (by omega) (by omega), e _ (by omega) (by omega), e _ (by omega) (by omega), e _ (by omega) (by omega), e _ (by omega) (by omega)]; exact h
theorem ShX3.mv {τ τ' : Tau} {b : Nat} (h : ShX3 τ b) (e : ∀ x, b ≤ x → x < b + 11 → τ' x = τ x) : ShX3 τ' b := by
  unfold ShX3 at h ⊢
  rw [e _ (by omega) (by omega), e _ (by omega) (by omega), e _ (by omega) (by omega), e _ (by omega) (by omega), e _ (by omega) (by omega), e _ (by omega) (by omega), e _ (by omega) (by omega), e _ (by omega) (by omega), e _ (by omega) (by omega), e _ (by omega) (by omega), e _ (by omega) (by omega)]; exact h
theorem ShX9.mv {τ τ' : Tau} {b : Nat} (h : ShX9 τ b) (e : ∀ x, b ≤ x → x < b + 3 → τ' x = τ x) : ShX9 τ' b := by
  unfold ShX9 at h ⊢
  rw [e _ (by omega) (by omega), e _ (by omega) (by omega), e _ (by omega) (by omega)]; exact h
/-- the texts of a new world -/
theorem makeT {τ : Tau} {σ : Sig} {nx a r : Nat} {rsa : List (Option (Option Nat))} {f0 : Nat → Option Nat} (a0 : τ a = some (.inl (10, rsa))) (a6 : rsa[6]? = some (some (some (a + 29)))) (a2 : τ (a + 29) = some (.inr (.inr (7, 6, f0)))) (hO : isOb τ 7 (some r) = true) : ∃ τ', X10_init_b106 a r FU 0 τ σ nx = some (τ', σ, nx) ∧ (∀ x, x ≠ a + 29 → τ' x = τ x) ∧ τ' (a + 29) = some (.inr (.inr (7, 6, rcon τ' (a + 29)))) ∧ ∀ j, j < 6 → rcon τ' (a + 29) j = some r := by
  have key := fuel_up (m := 6) (C := fun fu i => ∀ t f, (∀ x, x ≠ a + 29 → t x = τ x) → t (a + 29) = some (.inr (.inr (7, 6, f))) → (∀ j, j < i → f j = some r) → ∃ τ', X10_init_b106 a r fu (nI i) t σ nx = some (τ', σ, nx) ∧ (∀ x, x ≠ a + 29 → τ' x = τ x) ∧ τ' (a + 29) = some (.inr (.inr (7, 6, rcon τ' (a + 29)))) ∧ ∀ j, j < 6 → rcon τ' (a + 29) j = some r) (fun fu t f e1 e2 e3 => ?_) (fun fu i hi ih t f e1 e2 e3 => ?_) 6 0 FU (by omega) (by unfold FU; omega)
  · rw [nI_0] at key
    exact key τ f0 (fun _ _ => rfl) a2 (fun j hj => absurd hj (by omega))
  · refine ⟨t, ?_, e1, by rw [rcon_of e2]; exact e2, fun j hj => by rw [rcon_of e2]; exact e3 j hj⟩
    unfold X10_init_b106
    rw [gRs_of (by rw [e1 _ (by omega)]; exact a0) a6, bsm, lnR_of e2, bsm, if_pos (Int32.le_refl _)]
  · unfold X10_init_b106
    have ob : isOb t 7 (some r) = true := isOb_fr hO (fun b rs e q => e1 b (fun z => by
      subst z; rw [a2] at q; cases q))
    rw [gRs_of (by rw [e1 _ (by omega)]; exact a0) a6, bsm, lnR_of e2, bsm, if_neg (nI_ge hi (by omega)), bsm, strD_of e2 ob hi (by decide), bsm, nI_s]
    refine ih _ _ (fun x hx => by rw [upR_ne hx]; exact e1 x hx) upR_eq (fun j hj => ?_)
    unfold va_up
    by_cases e : j = i
    · rw [if_pos e]
    · rw [if_neg e]; exact e3 j (by omega)
theorem make10 {τ : Tau} {σ : Sig} {a nx r cap : Nat} {x1 : Int32} (h : τ a = some (.inl (10, rsX10))) (hn : a + 1 = nx) (hO : isOb τ 7 (some r) = true) (hr : r < a) (hx : mmax 0 (mmin x1 400) = nI cap) (hcap : cap ≤ 400) : ∃ τ' σ', X10_init_f τ σ nx a r x1 = some (τ', σ', a + 35) ∧ ShX10 τ' a (5 * cap) ∧ (∀ x, x < a ∨ a + 35 ≤ x → τ' x = τ x) ∧ (∀ j, rcon τ' (a + 28) j = none) ∧ (∀ j, j < 6 → rcon τ' (a + 29) j = some r) ∧ (∀ x, x ≤ a ∨ a + 35 ≤ x → σ' x = σ x) ∧ (∀ i, 1 ≤ i → i < 35 → i ≠ 23 → i ≠ 24 → i ≠ 33 → ∀ j, σ' (a + i) j = 0) ∧ σ' (a + 23) 2 = -1 ∧ σ' (a + 23) 3 = 5 ∧ (∀ j, j ≠ 2 → j ≠ 3 → σ' (a + 23) j = 0) ∧ (∀ j, j < 36 → σ' (a + 24) j = wl0 j) ∧ σ' (a + 33) 0 = nI cap ∧ ∀ j, j ≠ 0 → σ' (a + 33) j = 0 := by
  subst hn
  -- people
  obtain ⟨t1, c1, p4, o1⟩ := make4 (τ := al τ (a + 1) (.inl (4, rsX4))) (σ := zr σ (a + 1)) (a := a + 1) (nx := a + 1 + 1) al_eq rfl
  have a1 : t1 a = some (.inl (10, rsX10)) := by rw [o1 a (by omega), al_ne (by omega)]; exact h
  -- debts
  have a2 := setR_eq (kf := 0) (r := some (a + 1)) a1
  obtain ⟨t7, c2, p3, o2⟩ := make3 (τ := al (setR t1 a 0 (some (a + 1))) (a + 12) (.inl (3, rsX3))) (σ := zr (zrs 10 (zr σ (a + 1)) (a + 1 + 1)) (a + 12)) (a := a + 12) (nx := a + 12 + 1) al_eq rfl
  have a3 : t7 a = some (.inl (10, rsX10.set 0 (some (some (a + 1))))) := by rw [o2 a (by omega), al_ne (by omega)]; exact a2
  have a4 := setR_eq (kf := 1) (r := some (a + 12)) a3
  -- town
  obtain ⟨t13, s14, c3, p9, o3, u1, u2, u3, u4, u5, u6⟩ := make9 (τ := al (setR t7 a 1 (some (a + 12))) (a + 23) (.inl (9, rsX9))) (σ := zr (zrs 10 (zr (zrs 10 (zr σ (a + 1)) (a + 1 + 1)) (a + 12)) (a + 12 + 1)) (a + 23)) (a := a + 23) (nx := a + 23 + 1) al_eq rfl
  have a5 : t13 a = some (.inl (10, (rsX10.set 0 (some (some (a + 1)))).set 1 (some (some (a + 12))))) := by rw [o3 a (by omega), al_ne (by omega)]; exact a4
  have a6 := setR_eq (kf := 2) (r := some (a + 23)) a5
  generalize hT17 : setR t13 a 2 (some (a + 23)) = t17 at a6
  -- time
  have a7 : al t17 (a + 26) (.inl (8, rsX8)) a = t17 a := al_ne (by omega)
  rw [a6] at a7
  have a8 := setR_eq (kf := 3) (r := some (a + 26)) a7
  generalize hT23 : setR (al t17 (a + 26) (.inl (8, rsX8))) a 3 (some (a + 26)) = t23 at a8
  -- bargains
  have b1 : al t23 (a + 27) (.inl (1, rsX1)) (a + 27) = some (.inl (1, rsX1)) := al_eq
  have b2 : al (al t23 (a + 27) (.inl (1, rsX1))) (a + 28) (.inr (.inr (0, 60, fun _ => none))) (a + 27) = some (.inl (1, rsX1)) := by rw [al_ne (by omega)]; exact b1
  have b3 := setR_eq (kf := 1) (r := some (a + 28)) b2
  generalize hT25 : setR (al (al t23 (a + 27) (.inl (1, rsX1))) (a + 28) (.inr (.inr (0, 60, fun _ => none)))) (a + 27) 1 (some (a + 28)) = t25 at b3
  have o25 : ∀ x, x ≠ a + 27 → x ≠ a + 28 → t25 x = t23 x := fun x h1 h2 => by rw [← hT25, setR_ne h1, al_ne h2, al_ne h1]
  have b4 : t25 (a + 28) = some (.inr (.inr (0, 60, fun _ => none))) := by rw [← hT25, setR_ne (by omega), al_eq]
  have a9 : t25 a = some (.inl (10, (((rsX10.set 0 (some (some (a + 1)))).set 1 (some (some (a + 12)))).set 2 (some (some (a + 23)))).set 3 (some (some (a + 26))))) := by rw [o25 a (by omega) (by omega)]; exact a8
  have a10 := setR_eq (kf := 5) (r := some (a + 27)) a9
  generalize hT29 : setR t25 a 5 (some (a + 27)) = t29 at a10
  have a11 : al t29 (a + 29) (.inr (.inr (7, 6, fun _ => none))) a = t29 a := al_ne (by omega)
  rw [a10] at a11
  have a12 := setR_eq (kf := 6) (r := some (a + 29)) a11
  generalize hT31 : setR (al t29 (a + 29) (.inr (.inr (7, 6, fun _ => none)))) a 6 (some (a + 29)) = t31 at a12
  -- values, stack, chosen
  have a13 := chn_a [(7, 8), (8, 32), (9, 12)] t31 (a + 30) _ a12 (by omega)
  have i13 := ini_ok [(7, 8), (8, 32), (9, 12)] t31 (a + 30) _ a12 (by omega) (al1 ⟨rfl, by decide⟩ (al1 ⟨rfl, by decide⟩ (al1 ⟨rfl, by decide⟩ al0)))
  have n30 := chn_n [(7, 8), (8, 32), (9, 12)] t31 (a + 30) 0 (7, 8) (by omega : a < a + 30) rfl
  have n31 := chn_n [(7, 8), (8, 32), (9, 12)] t31 (a + 30) 1 (8, 32) (by omega : a < a + 30) rfl
  have n32 := chn_n [(7, 8), (8, 32), (9, 12)] t31 (a + 30) 2 (9, 12) (by omega : a < a + 30) rfl
  have o43 : ∀ x, x ≠ a → (x < a + 30 ∨ a + 33 ≤ x) → chn a [(7, 8), (8, 32), (9, 12)] t31 (a + 30) x = t31 x := fun x h1 h2 => chn_o [(7, 8), (8, 32), (9, 12)] t31 (a + 30) x h1 (show x < a + 30 ∨ a + 30 + 3 ≤ x by omega)
  generalize hT43 : chn a [(7, 8), (8, 32), (9, 12)] t31 (a + 30) = t43 at a13 i13 n30 n31 n32 o43
  -- the book
  have c33 : al t43 (a + 33) (.inl (2, rsX2)) (a + 33) = some (.inl (2, rsX2)) := al_eq
  have c33b : al (al t43 (a + 33) (.inl (2, rsX2))) (a + 34) (.inr (.inl (5 * cap))) (a + 33) = some (.inl (2, rsX2)) := by rw [al_ne (by omega)]; exact c33
  have c33c := setR_eq (kf := 1) (r := some (a + 34)) c33b
  generalize hT45 : setR (al (al t43 (a + 33) (.inl (2, rsX2))) (a + 34) (.inr (.inl (5 * cap)))) (a + 33) 1 (some (a + 34)) = t45 at c33c
  have o45 : ∀ x, x ≠ a + 33 → x ≠ a + 34 → t45 x = t43 x := fun x h1 h2 => by rw [← hT45, setR_ne h1, al_ne h2, al_ne h1]
  have c34 : t45 (a + 34) = some (.inr (.inl (5 * cap))) := by rw [← hT45, setR_ne (by omega), al_eq]
  have a14 : t45 a = t43 a := o45 a (by omega) (by omega)
  rw [a13] at a14
  have a15 := setR_eq (kf := 4) (r := some (a + 33)) a14
  generalize hT49 : setR t45 a 4 (some (a + 33)) = t49 at a15
  -- how the cells stand
  have o1' : ∀ x, (x < a + 1 ∨ a + 12 ≤ x) → t1 x = τ x := fun x hx => by rw [o1 x (by omega), al_ne (by omega)]
  have o49 : ∀ x, x ≠ a → t49 x = t45 x := fun x hx => by rw [← hT49, setR_ne hx]
  have o31 : ∀ x, x ≠ a → x ≠ a + 29 → t31 x = t29 x := fun x h1 h2 => by rw [← hT31, setR_ne h1, al_ne h2]
  have o29 : ∀ x, x ≠ a → t29 x = t25 x := fun x hx => by rw [← hT29, setR_ne hx]
  have o23 : ∀ x, x ≠ a → x ≠ a + 26 → t23 x = t17 x := fun x h1 h2 => by rw [← hT23, setR_ne h1, al_ne h2]
  have o17 : ∀ x, x ≠ a → t17 x = t13 x := fun x hx => by rw [← hT17, setR_ne hx]
  have oA : ∀ x, x ≠ a → (x < a + 26 ∨ a + 35 ≤ x) → t49 x = t13 x := fun x h1 h2 => by
    rw [o49 x h1, o45 x (by omega) (by omega), o43 x h1 (by omega), o31 x h1 (by omega), o29 x h1, o25 x (by omega) (by omega), o23 x h1 (by omega), o17 x h1]
  have oB : ∀ x, x ≠ a → (x < a + 23 ∨ a + 35 ≤ x) → t49 x = t7 x := fun x h1 h2 => by
    rw [oA x h1 (by omega), o3 x (by omega), al_ne (by omega), setR_ne h1]
  have oC : ∀ x, x ≠ a → (x < a + 12 ∨ a + 35 ≤ x) → t49 x = t1 x := fun x h1 h2 => by
    rw [oB x h1 (by omega), o2 x (by omega), al_ne (by omega), setR_ne h1]
  have oD : ∀ x, (x < a ∨ a + 35 ≤ x) → t49 x = τ x := fun x h1 => by rw [oC x (by omega) (by omega), o1' x (by omega)]
  have hob : isOb t49 7 (some r) = true := isOb_fr hO (fun b rs e q => by cases e; exact oD r (Or.inl hr))
  have n29 : t49 (a + 29) = some (.inr (.inr (7, 6, fun _ => none))) := by
    rw [o49 _ (by omega), o45 _ (by omega) (by omega), o43 _ (by omega) (by omega), ← hT31, setR_ne (by omega), al_eq]
  obtain ⟨tF, cT, oT, pT, rT⟩ := makeT (σ := zr (wr (zr (zrs 3 (zr (zr (zr (zr s14 (a + 26)) (a + 27)) (a + 28)) (a + 29)) (a + 30)) (a + 33)) (a + 33) 0 (nI cap)) (a + 34)) (nx := a + 35) a15 rfl n29 hob
  have e27 : t49 (a + 27) = t25 (a + 27) := by rw [o49 _ (by omega), o45 _ (by omega) (by omega), o43 _ (by omega) (by omega), o31 _ (by omega) (by omega), o29 _ (by omega)]
  have e28 : t49 (a + 28) = t25 (a + 28) := by rw [o49 _ (by omega), o45 _ (by omega) (by omega), o43 _ (by omega) (by omega), o31 _ (by omega) (by omega), o29 _ (by omega)]
  have e26 : t49 (a + 26) = some (.inl (8, rsX8)) := by
    rw [o49 _ (by omega), o45 _ (by omega) (by omega), o43 _ (by omega) (by omega), o31 _ (by omega) (by omega), o29 _ (by omega), o25 _ (by omega) (by omega), ← hT23, setR_ne (by omega), al_eq]
  have f28 : tF (a + 28) = some (.inr (.inr (0, 60, fun _ => none))) := by rw [oT _ (by omega), e28]; exact b4
  have e5 : (nI cap * 5 : Int32) = nI (5 * cap) := by rw [show (5 : Int32) = nI 5 from rfl, pk_mul, Nat.mul_comm]
  refine ⟨tF, zr (wr (zr (zrs 3 (zr (zr (zr (zr s14 (a + 26)) (a + 27)) (a + 28)) (a + 29)) (a + 30)) (a + 33)) (a + 33) 0 (nI cap)) (a + 34), ?_, ?_, fun x hx => by rw [oT x (by omega)]; exact oD x hx, fun j => by rw [rcon_of f28], rT, ?_, ?_, ?_, ?_, ?_, ?_, ?_, ?_⟩
  · have r3 : X10_init_f τ σ (a + 1) a r x1 = ((X4_init_f (al τ (a + 1) (.inl (4, rsX4))) (zr σ (a + 1)) (a + 1 + 1) (a + 1)).bind fun ⟨t1, s2, n3⟩ => (dR t1 10 a 0 (some (a + 1))).bind fun t5 => (X3_init_f (al t5 n3 (.inl (3, rsX3))) (zr s2 n3) (n3 + 1) n3).bind fun ⟨t7, s8, n9⟩ => (dR t7 10 a 1 (some n3)).bind fun t11 => (X9_init_f (al t11 n9 (.inl (9, rsX9))) (zr s8 n9) (n9 + 1) n9).bind fun ⟨t13, s14, n15⟩ => (dR t13 10 a 2 (some n9)).bind fun t17 => (X8_init_f (al t17 n15 (.inl (8, rsX8))) (zr s14 n15) (n15 + 1) n15).bind fun ⟨t19, s20, n21⟩ => (dR t19 10 a 3 (some n15)).bind fun t23 => (X1_init_f (al t23 n21 (.inl (1, rsX1))) (zr s20 n21) (n21 + 1) n21).bind fun ⟨t25, s26, n27⟩ => (dR t25 10 a 5 (some n21)).bind fun t29 => (dR (al t29 n27 (.inr (.inr (7, 6, fun _ => none)))) 10 a 6 (some n27)).bind fun t31 => (ini 10 a [(7, 8), (8, 32), (9, 12)] t31 (n27 + 1)).bind fun t43 => (X2_init_f (al t43 (n27 + 4) (.inl (2, rsX2))) (zr (zr (zr (zr (zr s26 n27) (n27 + 1)) (n27 + 2)) (n27 + 3)) (n27 + 4)) (n27 + 5) (n27 + 4) x1).bind fun ⟨t45, s46, n47⟩ => (dR t45 10 a 4 (some (n27 + 4))).bind fun t49 => X10_init_b106 a r FU 0 t49 s46 n47) := by
      unfold X10_init_f
      simp only [ini, bind_ra, bsm]
      rfl
    rw [r3, c1, bsm]
    dsimp only
    rw [dR_of a1 rfl, bsm, show a + 1 + 1 + 10 = a + 12 by omega, c2, bsm]
    dsimp only
    rw [dR_of a3 rfl, bsm, show a + 12 + 1 + 10 = a + 23 by omega, c3, bsm]
    dsimp only
    rw [dR_of a5 rfl, bsm, show a + 23 + 1 + 2 = a + 26 by omega, hT17]
    unfold X8_init_f
    rw [bsm]
    dsimp only
    rw [dR_of a7 rfl, bsm, hT23]
    unfold X1_init_f
    rw [show a + 26 + 1 = a + 27 by omega, show a + 27 + 1 = a + 28 by omega, dR_of b2 rfl, bsm, bsm, hT25]
    dsimp only
    rw [dR_of a9 rfl, bsm, hT29, show a + 28 + 1 = a + 29 by omega, dR_of a11 rfl, bsm, hT31, show a + 29 + 1 = a + 30 by omega, i13, bsm]
    unfold X2_init_f
    rw [show a + 29 + 4 = a + 33 by omega, show a + 29 + 5 = a + 34 by omega, dI_of c33 rfl, bsm, gI_of c33 rfl, bsm, hx, wr_v, e5, nwI_of (by omega) (by omega), bsm, dR_of c33b rfl, bsm, bsm, hT45]
    dsimp only
    rw [dR_of a14 rfl, bsm, hT49]
    exact cT
  · have g : ∀ x, x ≠ a + 29 → tF x = t49 x := oT
    refine ⟨by rw [g a (by omega)]; exact a15, p4.mv (fun x h1 h2 => by rw [g x (by omega), oC x (by omega) (by omega)]), p3.mv (fun x h1 h2 => by rw [g x (by omega), oB x (by omega) (by omega)]), p9.mv (fun x h1 h2 => by rw [g x (by omega), oA x (by omega) (by omega)]), ?_, ?_, ?_, pT, ?_, ?_, ?_⟩
    · unfold ShX8; rw [g _ (by omega)]; exact e26
    · refine ⟨?_, ?_⟩
      · rw [g _ (by omega), o49 _ (by omega)]; exact c33c
      · rw [g _ (by omega), o49 _ (by omega)]; exact c34
    · refine ⟨by rw [g _ (by omega), e27]; exact b3, ?_⟩
      rw [rcon_of f28]; exact f28
    · rw [g _ (by omega), o49 _ (by omega), o45 _ (by omega) (by omega)]; exact n30
    · rw [g _ (by omega), o49 _ (by omega), o45 _ (by omega) (by omega)]; exact n31
    · rw [g _ (by omega), o49 _ (by omega), o45 _ (by omega) (by omega)]; exact n32
  · intro x hx
    rw [zr_ne (by omega), wr_row (by omega), zr_ne (by omega), zrs_out 3 _ _ _ (by omega), zr_ne (by omega), zr_ne (by omega), zr_ne (by omega), zr_ne (by omega), u1 x (by omega), zr_ne (by omega), zrs_out 10 _ _ _ (by omega), zr_ne (by omega), zrs_out 10 _ _ _ (by omega), zr_ne (by omega)]
  · intro i h1 h2 h3 h4 h5 j
    by_cases c34' : i = 34
    · subst c34'; exact zr_eq
    rw [zr_ne (by omega), wr_row (by omega), zr_ne (by omega)]
    by_cases c30 : 30 ≤ i
    · exact zrs_in 3 _ _ _ j (by omega) (by omega)
    rw [zrs_out 3 _ _ _ (by omega)]
    by_cases c29 : i = 29
    · subst c29; exact zr_eq
    rw [zr_ne (by omega)]
    by_cases c28 : i = 28
    · subst c28; exact zr_eq
    rw [zr_ne (by omega)]
    by_cases c27 : i = 27
    · subst c27; exact zr_eq
    rw [zr_ne (by omega)]
    by_cases c26 : i = 26
    · subst c26; exact zr_eq
    rw [zr_ne (by omega)]
    by_cases c25 : i = 25
    · subst c25; exact u6 j
    rw [u1 _ (by omega), zr_ne (by omega)]
    by_cases c13 : 13 ≤ i
    · exact zrs_in 10 _ _ _ j (by omega) (by omega)
    rw [zrs_out 10 _ _ _ (by omega)]
    by_cases c12 : i = 12
    · subst c12; exact zr_eq
    rw [zr_ne (by omega)]
    by_cases c2 : 2 ≤ i
    · exact zrs_in 10 _ _ _ j (by omega) (by omega)
    rw [zrs_out 10 _ _ _ (by omega)]
    obtain rfl : i = 1 := by omega
    exact zr_eq
  · rw [zr_ne (by omega), wr_row (by omega), zr_ne (by omega), zrs_out 3 _ _ _ (by omega), zr_ne (by omega), zr_ne (by omega), zr_ne (by omega), zr_ne (by omega)]; exact u2
  · rw [zr_ne (by omega), wr_row (by omega), zr_ne (by omega), zrs_out 3 _ _ _ (by omega), zr_ne (by omega), zr_ne (by omega), zr_ne (by omega), zr_ne (by omega)]; exact u3
  · intro j h2 h3
    rw [zr_ne (by omega), wr_row (by omega), zr_ne (by omega), zrs_out 3 _ _ _ (by omega), zr_ne (by omega), zr_ne (by omega), zr_ne (by omega), zr_ne (by omega), u4 j h2 h3]; exact zr_eq
  · intro j hj
    rw [zr_ne (by omega), wr_row (by omega), zr_ne (by omega), zrs_out 3 _ _ _ (by omega), zr_ne (by omega), zr_ne (by omega), zr_ne (by omega), zr_ne (by omega)]; exact u5 j hj
  · rw [zr_ne (by omega), wr_v]
  · intro j hj
    rw [zr_ne (by omega), wr_o hj]; exact zr_eq
