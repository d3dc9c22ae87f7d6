/-! A WORD, on both sides. -/
theorem chk_yes {α : Type} {p : Prop} {x : Option α} (h : p) : chk p x = x := by unfold chk; exact if_pos h
theorem ldr_ok {N : Nat} {f : Nat → Option Nat} {j : Nat} (hj : j < N) (hN : N < 2 ^ 31) : ldr N f (nI j) = some (f j) := by
  have h1 : (nI j).toNatClampNeg = j := nI_clamp (by omega)
  unfold ldr
  rw [if_neg (by rw [h1]; exact fun q => q.elim (fun z => nI_pos (n := j) (by omega) z) (fun z => by omega)), h1]
theorem ShX7.tl {τ : Tau} {t n1 n2 n3 : Nat} (h : ShX7 τ t n1 n2 n3) : tl τ t 1 = n1 ∧ tl τ t 2 = n2 ∧ tl τ t 3 = n3 := by
  obtain ⟨_, h1, h2, h3⟩ := h
  unfold Jvm.Pilot.CSilenceForMoneyLaw_law_r8759_80c104.tl
  rw [h1, h2, h3]
  exact ⟨rfl, rfl, rfl⟩
section WD
variable {τ : Tau} {A nx : Nat} {kp : Option Nat} {W M B n nd : Nat} {σ0 ρ0 σ ρ : Sig}
theorem Z.txt (h : Z W M B n nd σ0 ρ0 σ ρ) (hT : Txs τ σ0 A nx kp W (ρ0 (B + 1))) (hW : A + 5 ≤ W ∧ W + 35 ≤ A + 95) {k : Nat} (hk : k < 6) : ∃ t, rcon τ (W + 29) k = some t ∧ (t + 3 < W ∨ W + 35 ≤ t) ∧ Txt τ σ (ρ (B + 1)) k t := by
  obtain ⟨t, h1, h2, h3⟩ := hT k hk
  obtain ⟨a1, a2, a3⟩ := h2
  refine ⟨t, h1, by omega, h3.fr hk (fun i hi => h.2.2.2.1 _ (by omega)) (fun j hj _ => h.2.2.2.2.2 j (Or.inl hj))⟩
def FxC (W : Nat) (σ σ' : Sig) : Prop := ∀ a, a ≠ W + 30 → a ≠ W + 31 → σ' a = σ a
def FxR (B : Nat) (ρ ρ' : Sig) : Prop := ∀ a, a ≠ B + 7 → a ≠ B + 8 → ρ' a = ρ a
theorem Z.fx (h : Z W M B n nd σ0 ρ0 σ ρ) {σ' ρ' : Sig} (h1 : FxC W σ σ') (h2 : FxR B ρ ρ') : Z W M B n nd σ0 ρ0 σ' ρ' := (h.scr (fun a _ _ _ h3 h4 _ => h1 a h3 h4)).scrR (fun a h3 h4 => h2 a h3 h4)
/-- a text asked on both sides -/
theorem ask_two {k t : Nat} {G : Int32 → Sig → Nat → Nat → Nat → Option (Int32 × Sig)} {H : Int32 × Sig → Option (Int32 × Sig)} {R : Int32 × Sig → Int32 × Sig → Prop} (hx : Txt τ σ (ρ (B + 1)) k t) (hr : rcon τ (W + 29) k = some t) (ht : t + 3 < W ∨ W + 35 ≤ t) (hk : k < 6) (hF : Fct (decide (k < 2)) (σ (W + 30)) (ρ (B + 8)))
    (go : ∀ (m c : Nat) (x y : Int32) (σ' ρ' : Sig), m ≤ 16 → ShX7 τ t (m + 1) m c → (∀ a, a ≠ W + 31 → σ' a = σ a) → (∀ a, a ≠ B + 7 → ρ' a = ρ a) → ((x = -1 ∧ y = -1) ∨ ∃ l, l < m ∧ x = nI l ∧ y = nI (16 * k + l) ∧ (if k < 2 then ρ (B + 1) (2560 + 16 * k + l) = 0 else ∃ q, q ≤ 99 ∧ ρ (B + 1) (2660 + 16 * k + l) = nI q ∧ ((ρ (B + 1) (2560 + 16 * k + l) = 1 ∧ σ (t + 2) l = nI (q + 1)) ∨ (ρ (B + 1) (2560 + 16 * k + l) = 2 ∧ σ (t + 2) l = nI (q + 101))) ∨ (ρ (B + 1) (2560 + 16 * k + l) = 3 ∧ σ (t + 2) l = 0))) → Two (G x σ' (m + 1) m c) (H (y, ρ')) R) :
    Two ((ldr 6 (rcon τ (W + 29)) (nI k)).bind fun r3 => r3.bind fun t4 => chk (ShX7 τ t4 (tl τ t4 1) (tl τ t4 2) (tl τ t4 3)) ((X7_firstLine_f t4 (tl τ t4 1) (tl τ t4 2) (tl τ t4 3) (W + 30) 8 (W + 31) 32 σ).bind fun p => G p.1 p.2 (tl τ t4 1) (tl τ t4 2) (tl τ t4 3))) ((X12_firstLine_f B (nI k) ρ).bind H) R := by
  obtain ⟨m, c, s, so, sv, g1, g2, g3, g4, g5, g6, g7, g8, g9, g10⟩ := hx
  obtain ⟨t1, t2, t3⟩ := g3.tl
  rw [ldr_ok hk (by decide), Option.bind_some, hr, Option.bind_some, t1, t2, t3, chk_yes g3]
  refine two_bind (line_two (τ := τ) (W := W) (B := B) g1 g2 hk g4 g5 g7 g8 (fun l hl => ⟨(g9 l hl).1, (g9 l hl).2.1, (g9 l hl).2.2.1, (g9 l hl).2.2.2.1⟩) g10 hF ht) (fun x y hxy => ?_)
  obtain ⟨x1, x2⟩ := x
  obtain ⟨y1, y2⟩ := y
  refine go m c x1 y1 x2 y2 g1 g3 hxy.2.1 hxy.2.2 ?_
  rcases hxy.1 with h | ⟨l, hl, e1, e2⟩
  · exact Or.inl h
  · exact Or.inr ⟨l, hl, e1, e2, (g9 l hl).2.2.2.2⟩
theorem fct_law {v0 v1 v2 v3 v4 v5 : Int32} {σ ρ : Sig} (h : ∀ i, i < 6 → σ (W + 30) i = ρ (B + 8) (i + 1)) : Fct true (σ (W + 30)) (ρ (B + 8)) := by
  intro s x hx
  unfold encV at hx
  simp only [if_true] at hx
  split at hx <;> first | (cases hx; exact h _ (by decide)) | cases hx
theorem fct_rule {σ ρ : Sig} (h0 : σ (W + 30) 0 = ρ (B + 8) 3) (h1 : σ (W + 30) 1 = ρ (B + 8) 7) (h2 : σ (W + 30) 2 = ρ (B + 8) 8) (h3 : σ (W + 30) 3 = ρ (B + 8) 4) (h4 : σ (W + 30) 4 = ρ (B + 8) 5) (h5 : σ (W + 30) 5 = ρ (B + 8) 9) (h6 : σ (W + 30) 6 = ρ (B + 8) 10) (h7 : σ (W + 30) 7 = ρ (B + 8) 11) : Fct false (σ (W + 30)) (ρ (B + 8)) := by
  intro s x hx
  unfold encV at hx
  simp only [Bool.false_eq_true, if_false] at hx
  split at hx <;> cases hx <;> assumption
/-- the law's values told on both sides -/
def lawC (W : Nat) (a b c d e f : Int32) (σ : Sig) : Sig := wr (wr (wr (wr (wr (wr σ (W + 30) 0 a) (W + 30) 1 b) (W + 30) 2 c) (W + 30) 3 d) (W + 30) 4 e) (W + 30) 5 f
def lawR (B : Nat) (a b c d e f : Int32) (ρ : Sig) : Sig := wr (wr (wr (wr (wr (wr ρ (B + 8) 1 a) (B + 8) 2 b) (B + 8) 3 c) (B + 8) 4 d) (B + 8) 5 e) (B + 8) 6 f
theorem lawC_ne {a b c d e f : Int32} {x : Nat} (h : x ≠ W + 30) : lawC W a b c d e f σ x = σ x := by
  unfold lawC; rw [wr_row h, wr_row h, wr_row h, wr_row h, wr_row h, wr_row h]
theorem lawR_ne {a b c d e f : Int32} {x : Nat} (h : x ≠ B + 8) : lawR B a b c d e f ρ x = ρ x := by
  unfold lawR; rw [wr_row h, wr_row h, wr_row h, wr_row h, wr_row h, wr_row h]
theorem law_fct {a b c d e f : Int32} : Fct true (lawC W a b c d e f σ (W + 30)) (lawR B a b c d e f ρ (B + 8)) := by
  refine fct_law (v0 := 0) (v1 := 0) (v2 := 0) (v3 := 0) (v4 := 0) (v5 := 0) (fun i hi => ?_)
  have : i = 0 ∨ i = 1 ∨ i = 2 ∨ i = 3 ∨ i = 4 ∨ i = 5 := by omega
  unfold lawC lawR
  rcases this with rfl | rfl | rfl | rfl | rfl | rfl <;> simp [wr_same]
theorem word_two (h : Z W M B n nd σ0 ρ0 σ ρ) (hT : Txs τ σ0 A nx kp W (ρ0 (B + 1))) (hW : A + 5 ≤ W ∧ W + 35 ≤ A + 95) {k : Nat} (hk : k < 2) (sort loud hour child feast : Int32) : Two (X10_isWord_f τ W M (nI k) sort loud hour child feast σ) (X12_isWord_f B (nI k) sort loud hour child feast ρ) (fun x y => x.1 = y.1 ∧ (y.1 = 0 ∨ y.1 = 1) ∧ FxC W σ x.2 ∧ FxR B ρ y.2) := by
  obtain ⟨t, hr, ht, hx⟩ := h.txt hT hW (show k < 6 by omega)
  have fin : ∀ a b c d e f : Int32, Two ((ldr 6 (rcon τ (W + 29)) (nI k)).bind fun r3 => r3.bind fun t4 => chk (ShX7 τ t4 (tl τ t4 1) (tl τ t4 2) (tl τ t4 3)) ((X7_firstLine_f t4 (tl τ t4 1) (tl τ t4 2) (tl τ t4 3) (W + 30) 8 (W + 31) 32 (lawC W a b c d e f σ)).bind fun p => if p.1 = (-1) then (some ((0 : Int32), p.2)) else (some ((1 : Int32), p.2)))) ((X12_firstLine_f B (nI k) (lawR B a b c d e f ρ)).bind fun p => if p.1 = (-1) then (some ((0 : Int32), p.2)) else (some ((1 : Int32), p.2))) (fun x y => x.1 = y.1 ∧ (y.1 = 0 ∨ y.1 = 1) ∧ FxC W σ x.2 ∧ FxR B ρ y.2) := by
    intro a b c d e f
    refine ask_two (G := fun x s _ _ _ => if x = (-1) then (some (0, s)) else (some (1, s))) (t := t) ?_ hr ht (by omega) ?_ ?_
    · rw [lawR_ne (by omega)]; exact hx.fr (by omega) (fun i hi => lawC_ne (by omega)) (fun _ _ _ => rfl)
    · rw [show decide (k < 2) = true by simpa using hk]; exact law_fct
    · intro m c x y σ' ρ' hm _ f1 f2 hxy
      have q1 : FxC W σ σ' := fun a h1 h2 => by rw [f1 a h2, lawC_ne h1]
      have q2 : FxR B ρ ρ' := fun a h1 h2 => by rw [f2 a h1, lawR_ne h2]
      rcases hxy with ⟨rfl, rfl⟩ | ⟨l, hl, rfl, rfl, -⟩
      · dsimp only; rw [if_pos rfl, if_pos rfl]; exact two_some ⟨rfl, Or.inl rfl, q1, q2⟩
      · dsimp only; rw [if_neg (ne_m1 (by omega)), if_neg (ne_m1 (by omega))]; exact two_some ⟨rfl, Or.inr rfl, q1, q2⟩
  unfold X10_isWord_f X12_isWord_f X11_isLaw_f
  rw [if_neg (nI_nn (by omega)), if_neg (show ¬ (2 : Int32) ≤ nI k from nI_ge hk (by decide)), Option.bind_some, if_neg (by decide)]
  simp only [S8, S12, Option.bind_some, cl_night, re_night]
  unfold X10_isWord_b49 X12_isWord_b40 X10_isWord_b65 X12_isWord_b56 X10_isWord_b81 X12_isWord_b73
  simp only [S8, S12, Option.bind_some]
  refine two_if Iff.rfl (fun _ _ => two_if Iff.rfl (fun _ _ => two_if Iff.rfl (fun _ _ => fin _ _ _ _ _ _) (fun _ _ => fin _ _ _ _ _ _)) (fun _ _ => two_if Iff.rfl (fun _ _ => fin _ _ _ _ _ _) (fun _ _ => fin _ _ _ _ _ _))) (fun _ _ => two_if Iff.rfl (fun _ _ => two_if Iff.rfl (fun _ _ => fin _ _ _ _ _ _) (fun _ _ => fin _ _ _ _ _ _)) (fun _ _ => two_if Iff.rfl (fun _ _ => fin _ _ _ _ _ _) (fun _ _ => fin _ _ _ _ _ _)))
end WD
