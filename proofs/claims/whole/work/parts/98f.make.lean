/-! NEW OBJECTS: arrays made and put into fields, one behind the other. -/
def alF (τ : Tau) (a nx N kf : Nat) : Tau := setR (al τ nx (.inr (.inl N))) a kf (some nx)
theorem al_eq {τ : Tau} {nx : Nat} {x : Sh} : al τ nx x nx = some x := if_pos rfl
theorem al_ne {τ : Tau} {nx b : Nat} {x : Sh} (h : b ≠ nx) : al τ nx x b = τ b := if_neg h
theorem setR_eq {τ : Tau} {a kf ci : Nat} {r : Option Nat} {rs : List (Option (Option Nat))} (h : τ a = some (.inl (ci, rs))) : setR τ a kf r a = some (.inl (ci, rs.set kf (some r))) := by unfold setR; rw [if_pos rfl, h]
theorem setR_ne {τ : Tau} {a b kf : Nat} {r : Option Nat} (h : b ≠ a) : setR τ a kf r b = τ b := if_neg h
theorem gR_of {τ : Tau} {ci a kf : Nat} {r : Option Nat} {rs : List (Option (Option Nat))} (h : τ a = some (.inl (ci, rs))) (hk : rs[kf]? = some (some r)) : gR τ ci a kf = some r := by
  unfold gR; rw [h]; simp [hk]
theorem dR_of {τ : Tau} {ci a kf : Nat} {r r0 : Option Nat} {rs : List (Option (Option Nat))} (h : τ a = some (.inl (ci, rs))) (hk : rs[kf]? = some (some r0)) : dR τ ci a kf r = some (setR τ a kf r) := by
  unfold dR; rw [gR_of h hk, bsm]
theorem dI_of {τ : Tau} {σ : Sig} {ci a kf : Nat} {v : Int32} {rs : List (Option (Option Nat))} (h : τ a = some (.inl (ci, rs))) (hk : rs[kf]? = some none) : dI τ σ ci a kf v = some (wr σ a kf v) := by
  unfold dI; rw [h]; simp [hk]
theorem nwI_of {N M : Nat} (h : N ≤ M) (h31 : N < 2 ^ 31) : nwI (nI N) M = some N := by
  have e : (nI N).toNatClampNeg = N := nI_clamp h31
  unfold nwI
  rw [e, if_neg (fun q => q.elim (fun z => nI_pos h31 z) (fun z => by omega))]
def ini (ci a : Nat) : List (Nat × Nat) → Tau → Nat → Option Tau
  | [], τ, _ => some τ
  | (kf, N) :: l, τ, nx => (nwI (nI N) N).bind fun N1 => (dR (al τ nx (.inr (.inl N1))) ci a kf (some nx)).bind fun t => ini ci a l t (nx + 1)
def chn (a : Nat) : List (Nat × Nat) → Tau → Nat → Tau
  | [], τ, _ => τ
  | (kf, N) :: l, τ, nx => chn a l (alF τ a nx N kf) (nx + 1)
def rsF : List (Nat × Nat) → List (Option (Option Nat)) → Nat → List (Option (Option Nat))
  | [], rs, _ => rs
  | (kf, _) :: l, rs, nx => rsF l (rs.set kf (some (some nx))) (nx + 1)
def zrs : Nat → Sig → Nat → Sig
  | 0, σ, _ => σ
  | k + 1, σ, nx => zrs k (zr σ nx) (nx + 1)
theorem alF_a {τ : Tau} {a nx N kf ci : Nat} {rs : List (Option (Option Nat))} (h : τ a = some (.inl (ci, rs))) (hn : a ≠ nx) : alF τ a nx N kf a = some (.inl (ci, rs.set kf (some (some nx)))) := setR_eq (by rw [al_ne hn]; exact h)
theorem alF_n {τ : Tau} {a nx N kf : Nat} (hn : a ≠ nx) : alF τ a nx N kf nx = some (.inr (.inl N)) := by unfold alF; rw [setR_ne (fun q => hn q.symm), al_eq]
theorem alF_o {τ : Tau} {a nx N kf x : Nat} (h1 : x ≠ a) (h2 : x ≠ nx) : alF τ a nx N kf x = τ x := by unfold alF; rw [setR_ne h1, al_ne h2]
def isR (rs : List (Option (Option Nat))) (k : Nat) : Bool := match rs[k]? with | some (some _) => true | _ => false
theorem isR_some {rs : List (Option (Option Nat))} {k : Nat} (h : isR rs k = true) : ∃ r, rs[k]? = some (some r) := by
  unfold isR at h; split at h
  · next r e => exact ⟨r, e⟩
  · cases h
theorem isR_of {rs : List (Option (Option Nat))} {k : Nat} {r : Option Nat} (h : rs[k]? = some (some r)) : isR rs k = true := by unfold isR; rw [h]
theorem ini_ok {ci a : Nat} : ∀ (l : List (Nat × Nat)) (τ : Tau) (nx : Nat) (rs : List (Option (Option Nat))), τ a = some (.inl (ci, rs)) → a < nx → (∀ q ∈ l, isR rs q.1 = true ∧ q.2 < 2 ^ 31) → ini ci a l τ nx = some (chn a l τ nx)
  | [], _, _, _, _, _, _ => rfl
  | (kf, N) :: l, τ, nx, rs, h, hn, hl => by
    obtain ⟨hr0, hN⟩ := hl (kf, N) (List.mem_cons_self)
    obtain ⟨r, hr⟩ := isR_some hr0
    rw [ini, nwI_of (Nat.le_refl N) hN, bsm, dR_of (by rw [al_ne (by omega)]; exact h) hr, bsm, chn]
    refine ini_ok l _ (nx + 1) (rs.set kf (some (some nx))) (alF_a h (by omega)) (by omega) (fun q hq => ?_)
    obtain ⟨hr0', hN'⟩ := hl q (List.mem_cons_of_mem _ hq)
    obtain ⟨r', hr'⟩ := isR_some hr0'
    refine ⟨?_, hN'⟩
    by_cases e : kf = q.1
    · have : q.1 < rs.length := (List.getElem?_eq_some_iff.mp hr').1
      refine isR_of (r := some nx) ?_
      rw [List.getElem?_set, if_pos e, if_pos (by omega)]
    · refine isR_of (r := r') ?_
      rw [List.getElem?_set, if_neg e]; exact hr'
theorem chn_a {ci a : Nat} : ∀ (l : List (Nat × Nat)) (τ : Tau) (nx : Nat) (rs : List (Option (Option Nat))), τ a = some (.inl (ci, rs)) → a < nx → chn a l τ nx a = some (.inl (ci, rsF l rs nx))
  | [], _, _, _, h, _ => h
  | (kf, N) :: l, τ, nx, rs, h, hn => by rw [chn, rsF]; exact chn_a l _ _ _ (alF_a h (by omega)) (by omega)
theorem chn_o {a : Nat} : ∀ (l : List (Nat × Nat)) (τ : Tau) (nx x : Nat), x ≠ a → (x < nx ∨ nx + l.length ≤ x) → chn a l τ nx x = τ x
  | [], _, _, _, _, _ => rfl
  | (kf, N) :: l, τ, nx, x, h1, h2 => by
    simp only [List.length_cons] at h2
    rw [chn, chn_o l _ _ x h1 (by omega), alF_o h1 (by omega)]
theorem chn_n {a : Nat} : ∀ (l : List (Nat × Nat)) (τ : Tau) (nx i : Nat) (q : Nat × Nat), a < nx → l[i]? = some q → chn a l τ nx (nx + i) = some (.inr (.inl q.2))
  | [], _, _, _, _, _, h => by cases h
  | (kf, N) :: l, τ, nx, 0, q, hn, h => by
    cases h
    rw [chn, chn_o l _ _ _ (by omega) (by omega)]; exact alF_n (by omega)
  | (kf, N) :: l, τ, nx, i + 1, q, hn, h => by
    rw [chn, show nx + (i + 1) = nx + 1 + i by omega]
    exact chn_n l _ _ i q (by omega) h
theorem zrs_in : ∀ (k : Nat) (σ : Sig) (nx x j : Nat), nx ≤ x → x < nx + k → zrs k σ nx x j = 0
  | 0, _, _, _, _, h1, h2 => absurd h1 (by omega)
  | k + 1, σ, nx, x, j, h1, h2 => by
    rw [zrs]
    by_cases e : x = nx
    · subst e
      have out : ∀ (k : Nat) (σ : Sig) (nx x : Nat), (x < nx ∨ nx + k ≤ x) → zrs k σ nx x = σ x := by
        intro k
        induction k with
        | zero => intro σ nx x _; rfl
        | succ k ih => intro σ nx x hx; rw [zrs, ih _ _ _ (by omega)]; funext j; exact if_neg (by omega)
      rw [out k _ _ _ (by omega)]; exact if_pos rfl
    · exact zrs_in k _ _ x j (by omega) (by omega)
theorem zr_ne {σ : Sig} {nx x : Nat} (h : x ≠ nx) : zr σ nx x = σ x := by funext j; exact if_neg h
theorem zr_eq {σ : Sig} {nx j : Nat} : zr σ nx nx j = 0 := if_pos rfl
theorem zrs_out : ∀ (k : Nat) (σ : Sig) (nx x : Nat), (x < nx ∨ nx + k ≤ x) → zrs k σ nx x = σ x
  | 0, _, _, _, _ => rfl
  | k + 1, σ, nx, x, h => by rw [zrs, zrs_out k _ _ _ (by omega), zr_ne (by omega)]
/-- people, debts, tape -/
abbrev ls4 : List (Nat × Nat) := [(1, 12), (2, 12), (3, 12), (4, 12), (5, 12), (6, 12), (7, 12), (8, 12), (9, 12), (10, 12)]
theorem make4 {τ : Tau} {σ : Sig} {a nx : Nat} (h : τ a = some (.inl (4, rsX4))) (hn : a + 1 = nx) : ∃ τ', X4_init_f τ σ nx a = some (τ', zrs 10 σ nx, nx + 10) ∧ ShX4 τ' a ∧ ∀ x, x < a ∨ a + 11 ≤ x → τ' x = τ x := by
  subst hn
  refine ⟨chn a ls4 τ (a + 1), ?_, ⟨chn_a ls4 τ (a + 1) rsX4 h (by omega), chn_n ls4 τ (a + 1) 0 _ (by omega) rfl, chn_n ls4 τ (a + 1) 1 _ (by omega) rfl, chn_n ls4 τ (a + 1) 2 _ (by omega) rfl, chn_n ls4 τ (a + 1) 3 _ (by omega) rfl, chn_n ls4 τ (a + 1) 4 _ (by omega) rfl, chn_n ls4 τ (a + 1) 5 _ (by omega) rfl, chn_n ls4 τ (a + 1) 6 _ (by omega) rfl, chn_n ls4 τ (a + 1) 7 _ (by omega) rfl, chn_n ls4 τ (a + 1) 8 _ (by omega) rfl, chn_n ls4 τ (a + 1) 9 _ (by omega) rfl⟩, fun x hx => chn_o ls4 τ (a + 1) x (by omega) (show x < a + 1 ∨ a + 1 + 10 ≤ x by omega)⟩
  have e : X4_init_f τ σ (a + 1) a = (ini 4 a ls4 τ (a + 1)).bind fun t => some (t, zrs 10 σ (a + 1), a + 1 + 10) := by
    unfold X4_init_f
    simp only [ls4, ini, bind_ra, bsm]
    rfl
  rw [e, ini_ok ls4 τ (a + 1) rsX4 h (by omega) (by decide), bsm]
abbrev ls3 : List (Nat × Nat) := [(1, 40), (2, 40), (3, 40), (4, 40), (5, 40), (6, 40), (7, 40), (8, 40), (9, 12), (10, 12)]
theorem make3 {τ : Tau} {σ : Sig} {a nx : Nat} (h : τ a = some (.inl (3, rsX3))) (hn : a + 1 = nx) : ∃ τ', X3_init_f τ σ nx a = some (τ', zrs 10 σ nx, nx + 10) ∧ ShX3 τ' a ∧ ∀ x, x < a ∨ a + 11 ≤ x → τ' x = τ x := by
  subst hn
  refine ⟨chn a ls3 τ (a + 1), ?_, ⟨chn_a ls3 τ (a + 1) rsX3 h (by omega), chn_n ls3 τ (a + 1) 0 _ (by omega) rfl, chn_n ls3 τ (a + 1) 1 _ (by omega) rfl, chn_n ls3 τ (a + 1) 2 _ (by omega) rfl, chn_n ls3 τ (a + 1) 3 _ (by omega) rfl, chn_n ls3 τ (a + 1) 4 _ (by omega) rfl, chn_n ls3 τ (a + 1) 5 _ (by omega) rfl, chn_n ls3 τ (a + 1) 6 _ (by omega) rfl, chn_n ls3 τ (a + 1) 7 _ (by omega) rfl, chn_n ls3 τ (a + 1) 8 _ (by omega) rfl, chn_n ls3 τ (a + 1) 9 _ (by omega) rfl⟩, fun x hx => chn_o ls3 τ (a + 1) x (by omega) (show x < a + 1 ∨ a + 1 + 10 ≤ x by omega)⟩
  have e : X3_init_f τ σ (a + 1) a = (ini 3 a ls3 τ (a + 1)).bind fun t => some (t, zrs 10 σ (a + 1), a + 1 + 10) := by
    unfold X3_init_f
    simp only [ls3, ini, bind_ra, bsm]
    rfl
  rw [e, ini_ok ls3 τ (a + 1) rsX3 h (by omega) (by decide), bsm]
abbrev ls6 : List (Nat × Nat) := [(0, 400)]
theorem make6 {τ : Tau} {σ : Sig} {a nx : Nat} (h : τ a = some (.inl (6, rsX6))) (hn : a + 1 = nx) : ∃ τ', X6_init_f τ σ nx a = some (τ', zrs 1 σ nx, nx + 1) ∧ ShX6 τ' a ∧ ∀ x, x < a ∨ a + 2 ≤ x → τ' x = τ x := by
  subst hn
  refine ⟨chn a ls6 τ (a + 1), ?_, ⟨chn_a ls6 τ (a + 1) rsX6 h (by omega), chn_n ls6 τ (a + 1) 0 _ (by omega) rfl⟩, fun x hx => chn_o ls6 τ (a + 1) x (by omega) (show x < a + 1 ∨ a + 1 + 1 ≤ x by omega)⟩
  have e : X6_init_f τ σ (a + 1) a = (ini 6 a ls6 τ (a + 1)).bind fun t => some (t, zrs 1 σ (a + 1), a + 1 + 1) := by
    unfold X6_init_f
    simp only [ls6, ini, bind_ra, bsm]
    rfl
  rw [e, ini_ok ls6 τ (a + 1) rsX6 h (by omega) (by decide), bsm]
