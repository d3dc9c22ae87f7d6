/-! TEXTS: the class finds its tokens. -/
noncomputable def tkS (t : Nat → Int32) (len : Nat) (law : Bool) (p : Nat) : Nat × Nat × Nat × Nat := @dite _ (∃ x : Nat × Nat × Nat × Nat, Tk t len law p x.1 x.2.1 x.2.2.1 x.2.2.2) (Classical.propDecidable _) (fun h => Classical.choose h) (fun _ => (0, 0, 0, 0))
theorem tkS_ok {t : Nat → Int32} {len : Nat} {law : Bool} {p : Nat} (hp : p ≤ len) : Tk t len law p (tkS t len law p).1 (tkS t len law p).2.1 (tkS t len law p).2.2.1 (tkS t len law p).2.2.2 := by
  obtain ⟨kc, q, v, e, h⟩ := Tk_ex t len law p hp
  have hx : ∃ x : Nat × Nat × Nat × Nat, Tk t len law p x.1 x.2.1 x.2.2.1 x.2.2.2 := ⟨(kc, q, v, e), h⟩
  unfold tkS
  rw [dif_pos hx]
  exact Classical.choose_spec hx
/-- where token i begins to be looked for -/
noncomputable def ps (t : Nat → Int32) (len : Nat) (law : Bool) : Nat → Nat
  | 0 => 0
  | i + 1 => (tkS t len law (ps t len law i)).2.2.2
theorem ps_le {t : Nat → Int32} {len : Nat} {law : Bool} : ∀ i, ps t len law i ≤ len
  | 0 => Nat.zero_le _
  | i + 1 => (tkS_ok (ps_le i)).2.2.1
noncomputable def tK (t : Nat → Int32) (len : Nat) (law : Bool) (i : Nat) : Nat := (tkS t len law (ps t len law i)).1
noncomputable def tA (t : Nat → Int32) (len : Nat) (law : Bool) (i : Nat) : Nat := (tkS t len law (ps t len law i)).2.1
noncomputable def tV (t : Nat → Int32) (len : Nat) (law : Bool) (i : Nat) : Nat := (tkS t len law (ps t len law i)).2.2.1
theorem tk_ok {t : Nat → Int32} {len : Nat} {law : Bool} (i : Nat) : Tk t len law (ps t len law i) (tK t len law i) (tA t len law i) (tV t len law i) (ps t len law (i + 1)) := tkS_ok (ps_le i)
theorem put5 {a n : Nat} {x1 x2 x3 : Int32} {σ : Sig} (hn : n ≤ 400) (h11 : σ a 11 = nI n) : X5_putToken_f a x1 x2 x3 σ = some (wr (wr (wr (wr σ (a + 4) n x1) (a + 5) n x2) (a + 6) n x3) a 11 (nI (n + 1))) := by
  unfold X5_putToken_f pI
  rw [h11, if_neg (show ¬ (400 : Int32) < nI n from nI_nlt (a := 400) hn (by decide)), stn (by omega) (by decide), bsm, wr_row (by omega), h11, stn (by omega) (by decide), bsm, wr_row (by omega), wr_row (by omega), h11, stn (by omega) (by decide), bsm, bsm, wr_row (by omega), wr_row (by omega), wr_row (by omega), h11, nI_s]
/-- one token of the class -/
theorem cl_tok {a T len n p kc q v e : Nat} {law : Bool} {σ : Sig} (hT : a + 6 < T ∨ T + 1 < a) (hl : len ≤ 400) (h1 : σ T 1 = nI len) (hlaw : σ a 2 = if law then 1 else 0) (hn : n ≤ 400) (h11 : σ a 11 = nI n) (h : Tk (σ (T + 1)) len law p kc q v e) (hq : q < len) : ∃ x3, X5_findToken_f a T (nI q) σ = some (nI e, wr (wr (wr (wr σ (a + 4) n (nI kc)) (a + 5) n (nI q)) (a + 6) n x3) a 11 (nI (n + 1))) ∧ (kc = 1 → x3 = nI v ∧ v ≤ 9999) := by
  obtain ⟨-, hqe, hel, -, h⟩ := h
  rcases h with ⟨h, -⟩ | ⟨hlt, hk0, n1, n2, h⟩
  · omega
  unfold X5_findToken_f
  rw [ldn (by omega) (by decide), bsm, if_neg n1, if_neg n2]
  rcases h with ⟨g1, g2, g3, r, g4, g5⟩ | ⟨g1, g2, g3, g4, g5⟩ | ⟨g1, g2, g3, g4⟩
  · rw [letC.1 g1, bsm, if_neg n10, cl_run (P := isL) hl h1 hqe hel (Or.inr ⟨rfl, rfl⟩) g2 g3, bsm, cl_kw hlaw hqe (by omega) g4, bsm, ← g5, put5 hn h11, bsm]
    refine ⟨0, rfl, fun z => ?_⟩
    rcases kwF_cases _ _ _ g4 with ⟨i, x, -, h2, -⟩ | ⟨h2, -⟩
    · rw [h2] at g5; unfold kwN at g5; dsimp only at g5; omega
    · rw [h2] at g5; unfold kwN at g5; dsimp only at g5; omega
  · rw [letC.2 g1, bsm, if_pos rfl, digC.1 g2, bsm, if_neg n10, cl_run (P := isD) hl h1 hqe hel (Or.inl ⟨rfl, rfl⟩) g3 g4, bsm]
    unfold X5_findToken_b84
    rw [cl_val hqe (by omega), bsm, bsm, put5 hn h11, put5 hn h11, bsm, bsm, pk_sub hqe]
    rcases g5 with ⟨a1, rfl⟩ | ⟨a1, rfl, a2, a3⟩
    · rw [if_pos (show (4 : Int32) < nI (e - q) from nI_lt (a := 4) a1 (by omega))]
      exact ⟨_, rfl, fun z => absurd z (by decide)⟩
    · rw [if_neg (show ¬ (4 : Int32) < nI (e - q) from nI_nlt (a := 4) a1 (by omega)), a3]
      exact ⟨_, rfl, fun _ => ⟨rfl, a2⟩⟩
  · unfold X5_findToken_b111
    rw [letC.2 g1, bsm, if_pos rfl, digC.2 g2, bsm, if_pos rfl, put5 hn h11, put5 hn h11, bsm, bsm, nI_s, ← g3]
    rcases g4 with ⟨a1, a2, a3, a4⟩ | ⟨a1, rfl⟩
    · rw [sigC.1 a1, bsm, if_neg n10, a2]
      exact ⟨_, rfl, fun z => absurd z (by omega)⟩
    · rw [sigC.2 a1, bsm, if_pos rfl]
      exact ⟨_, rfl, fun z => absurd z (by decide)⟩
/-- what lies in the arrays of the reader -/
def TkA (t : Nat → Int32) (len : Nat) (law : Bool) (a n : Nat) (s : Sig) : Prop := ∀ i, i < n → s (a + 4) i = nI (tK t len law i) ∧ s (a + 5) i = nI (tA t len law i) ∧ (tK t len law i = 1 → s (a + 6) i = nI (tV t len law i) ∧ tV t len law i ≤ 9999)
theorem TkA.put {t : Nat → Int32} {len : Nat} {law : Bool} {a n : Nat} {s : Sig} {x3 : Int32} (h : TkA t len law a n s) (hx : tK t len law n = 1 → x3 = nI (tV t len law n) ∧ tV t len law n ≤ 9999) : TkA t len law a (n + 1) (wr (wr (wr (wr s (a + 4) n (nI (tK t len law n))) (a + 5) n (nI (tA t len law n))) (a + 6) n x3) a 11 (nI (n + 1))) := by
  intro i hi
  rw [wr_row (show a + 4 ≠ a by omega), wr_row (show a + 4 ≠ a + 6 by omega), wr_row (show a + 4 ≠ a + 5 by omega), wr_row (show a + 5 ≠ a by omega), wr_row (show a + 5 ≠ a + 6 by omega), wr_row (show a + 6 ≠ a by omega), wr_same, wr_same, wr_same, wr_row (show a + 5 ≠ a + 4 by omega), wr_row (show a + 6 ≠ a + 5 by omega), wr_row (show a + 6 ≠ a + 4 by omega)]
  by_cases c : i = n
  · subst c
    rw [if_pos rfl, if_pos rfl, if_pos rfl]
    exact ⟨rfl, rfl, hx⟩
  · rw [if_neg c, if_neg c, if_neg c]
    exact h i (by omega)
theorem cl_tokens {a T len : Nat} {law : Bool} {σ : Sig} (hT : a + 6 < T ∨ T + 1 < a) (hl : len ≤ 400) (h1 : σ T 1 = nI len) (hlaw : σ a 2 = if law then 1 else 0) : ∃ n s, X5_findTokens_f a T σ = some s ∧ n ≤ 400 ∧ n ≤ len ∧ s a 11 = nI (n + 1) ∧ TkA (σ (T + 1)) len law a (n + 1) s ∧ tK (σ (T + 1)) len law n = 0 ∧ (∀ i, i < n → tK (σ (T + 1)) len law i ≠ 0) ∧ (∀ x, x ≠ a → x ≠ a + 4 → x ≠ a + 5 → x ≠ a + 6 → s x = σ x) ∧ ∀ j, j ≠ 11 → s a j = σ a j := by
  have q : ∀ s : Sig, (∀ x, x ≠ a → x ≠ a + 4 → x ≠ a + 5 → x ≠ a + 6 → s x = σ x) → s (T + 1) = σ (T + 1) ∧ s T = σ T := fun s h => ⟨h _ (by omega) (by omega) (by omega) (by omega), h _ (by omega) (by omega) (by omega) (by omega)⟩
  have key : ∀ k x2 x3 fu n s, x2 + k = len → k < fu → x3 ≤ x2 → n ≤ x2 → ps (σ (T + 1)) len law n ≤ x2 → x2 ≤ tA (σ (T + 1)) len law n → s a 11 = nI n → TkA (σ (T + 1)) len law a n s → (∀ i, i < n → tK (σ (T + 1)) len law i ≠ 0) → (∀ x, x ≠ a → x ≠ a + 4 → x ≠ a + 5 → x ≠ a + 6 → s x = σ x) → (∀ j, j ≠ 11 → s a j = σ a j) → ∃ n s', X5_findTokens_b9 a T fu (nI x2) (nI x3) s = some s' ∧ n ≤ 400 ∧ n ≤ len ∧ s' a 11 = nI (n + 1) ∧ TkA (σ (T + 1)) len law a (n + 1) s' ∧ tK (σ (T + 1)) len law n = 0 ∧ (∀ i, i < n → tK (σ (T + 1)) len law i ≠ 0) ∧ (∀ x, x ≠ a → x ≠ a + 4 → x ≠ a + 5 → x ≠ a + 6 → s' x = σ x) ∧ ∀ j, j ≠ 11 → s' a j = σ a j := by
    intro k
    induction k using Nat.strongRecOn with
    | ind k ih =>
    intro x2 x3 fu n s hk hfu h3 hnx hps hta h11 hA hK hO hJ
    obtain ⟨fu, rfl⟩ : ∃ f, fu = f + 1 := ⟨fu - 1, by omega⟩
    obtain ⟨t1, t0⟩ := q s hO
    have tk := tk_ok (t := σ (T + 1)) (len := len) (law := law) n
    have htl : tA (σ (T + 1)) len law n ≤ len := Nat.le_trans tk.2.1 tk.2.2.1
    by_cases c : x2 = len
    · have hk0 : tK (σ (T + 1)) len law n = 0 := by
        rcases tk.2.2.2.2 with ⟨-, h, -⟩ | ⟨h, -⟩
        · exact h
        · have := tk.2.2.1; omega
      have hta' : tA (σ (T + 1)) len law n = len := by omega
      have h37 : X5_findTokens_b37 a T s = some (wr (wr (wr (wr s (a + 4) n (nI (tK (σ (T + 1)) len law n))) (a + 5) n (nI (tA (σ (T + 1)) len law n))) (a + 6) n 0) a 11 (nI (n + 1))) := by
        unfold X5_findTokens_b37
        rw [t0, h1, put5 (by omega) h11, bsm, hk0, hta']; rfl
      refine ⟨n, wr (wr (wr (wr s (a + 4) n (nI (tK (σ (T + 1)) len law n))) (a + 5) n (nI (tA (σ (T + 1)) len law n))) (a + 6) n 0) a 11 (nI (n + 1)), ?_, by omega, by omega, wr_v, hA.put (fun z => by omega), hk0, hK, fun x e1 e2 e3 e4 => ?_, fun j hj => ?_⟩
      · unfold X5_findTokens_b9
        rw [h37, t0, h1, c, if_pos (Int32.le_refl (nI len))]
        split <;> rfl
      · rw [wr_row e1, wr_row e4, wr_row e3, wr_row e2]; exact hO x e1 e2 e3 e4
      · rw [wr_o hj, wr_row (by omega), wr_row (by omega), wr_row (by omega)]; exact hJ j hj
    · have st : X5_findTokens_b9 a T (fu + 1) (nI x2) (nI x3) s = (X5_findToken_f a T (nI x2) s).bind fun ⟨v3, s4⟩ => X5_findTokens_b9 a T fu v3 (nI (x3 + 1)) s4 := by
        show (if (400 : Int32) ≤ nI x3 then _ else _) = _
        rw [if_neg (show ¬ (400 : Int32) ≤ nI x3 from nI_ge (b := 400) (by omega) (by decide)), t0, h1, if_neg (nI_ge (by omega) (by omega)), nI_s]
      rw [st]
      by_cases c2 : x2 = tA (σ (T + 1)) len law n
      · obtain ⟨x, z1, z2⟩ := cl_tok (a := a) (T := T) (n := n) (σ := s) hT hl (by rw [t0]; exact h1) (by rw [hJ 2 (by decide)]; exact hlaw) (by omega) h11 (by rw [t1]; exact tk) (by omega)
        have hlt : tA (σ (T + 1)) len law n < ps (σ (T + 1)) len law (n + 1) ∧ tK (σ (T + 1)) len law n ≠ 0 := by
          rcases tk.2.2.2.2 with ⟨h, -, -⟩ | ⟨h, h', -⟩
          · omega
          · exact ⟨h, h'⟩
        have hpe := tk.2.2.1
        rw [c2, z1, bsm]
        dsimp only
        refine ih (len - ps (σ (T + 1)) len law (n + 1)) (by omega) _ (x3 + 1) fu (n + 1) _ (by omega) (by omega) (by omega) (by omega) (Nat.le_refl _) (tk_ok (n + 1)).1 wr_v (hA.put z2) (fun i hi => ?_) (fun y e1 e2 e3 e4 => ?_) (fun j hj => ?_)
        · by_cases e : i = n
          · rw [e]; exact hlt.2
          · exact hK i (by omega)
        · rw [wr_row e1, wr_row e4, wr_row e3, wr_row e2]; exact hO y e1 e2 e3 e4
        · rw [wr_o hj, wr_row (by omega), wr_row (by omega), wr_row (by omega)]; exact hJ j hj
      · have hsp := tk.2.2.2.1 x2 hps (by omega)
        have : X5_findToken_f a T (nI x2) s = some (nI (x2 + 1), s) := by
          unfold X5_findToken_f
          rw [ldn (by omega) (by decide), bsm, t1, nI_s]
          rcases hsp with h | h
          · rw [if_pos h]
          · rw [h]; rfl
        rw [this, bsm]
        dsimp only
        exact ih (k - 1) (by omega) (x2 + 1) (x3 + 1) fu n s (by omega) (by omega) (by omega) (by omega) (by omega) (by omega) h11 hA hK hO hJ
  unfold X5_findTokens_f pI
  rw [bsm]
  exact key len 0 0 FU 0 (wr σ a 11 0) (by omega) (by unfold FU; omega) (by omega) (by omega) (Nat.le_refl _) (Nat.zero_le _) wr_v (fun i hi => absurd hi (by omega)) (fun i hi => absurd hi (by omega)) (fun x e1 _ _ _ => wr_row e1) (fun j hj => wr_o hj)
