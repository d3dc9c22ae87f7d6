/-! TWO ANSWERS SIDE BY SIDE. -/
def Two {α β : Type} (o : Option α) (q : Option β) (R : α → β → Prop) : Prop := ∃ x y, o = some x ∧ q = some y ∧ R x y
section TW
variable {α β γ δ : Type}
theorem two_some {x : α} {y : β} {R : α → β → Prop} (h : R x y) : Two (some x) (some y) R := ⟨x, y, rfl, rfl, h⟩
theorem two_bind {o : Option α} {q : Option β} {S : α → β → Prop} {f : α → Option γ} {g : β → Option δ} {R : γ → δ → Prop} (h : Two o q S) (k : ∀ x y, S x y → Two (f x) (g y) R) : Two (o.bind f) (q.bind g) R := by
  obtain ⟨x, y, rfl, rfl, hs⟩ := h
  exact k x y hs
theorem two_l {o : Option α} {x : α} {f : α → Option γ} {q : Option δ} {R : γ → δ → Prop} (h : o = some x) (k : Two (f x) q R) : Two (o.bind f) q R := by subst h; exact k
theorem two_r {q : Option β} {y : β} {o : Option γ} {g : β → Option δ} {R : γ → δ → Prop} (h : q = some y) (k : Two o (g y) R) : Two o (q.bind g) R := by subst h; exact k
theorem two_lb {o : Option α} {P : α → Prop} {f : α → Option γ} {q : Option δ} {R : γ → δ → Prop} (h : ∃ x, o = some x ∧ P x) (k : ∀ x, P x → Two (f x) q R) : Two (o.bind f) q R := by
  obtain ⟨x, rfl, hx⟩ := h; exact k x hx
theorem two_rb {q : Option β} {P : β → Prop} {o : Option γ} {g : β → Option δ} {R : γ → δ → Prop} (h : ∃ y, q = some y ∧ P y) (k : ∀ y, P y → Two o (g y) R) : Two o (q.bind g) R := by
  obtain ⟨x, rfl, hx⟩ := h; exact k x hx
theorem two_if {c1 c2 : Prop} [Decidable c1] [Decidable c2] {a1 b1 : Option α} {a2 b2 : Option β} {R : α → β → Prop} (h : c1 ↔ c2) (t : c1 → c2 → Two a1 a2 R) (e : ¬ c1 → ¬ c2 → Two b1 b2 R) : Two (if c1 then a1 else b1) (if c2 then a2 else b2) R := by
  by_cases c : c1
  · rw [if_pos c, if_pos (h.mp c)]; exact t c (h.mp c)
  · rw [if_neg c, if_neg (fun q => c (h.mpr q))]; exact e c (fun q => c (h.mpr q))
theorem two_il {c : Prop} [Decidable c] {a b : Option α} {q : Option β} {R : α → β → Prop} (t : c → Two a q R) (e : ¬ c → Two b q R) : Two (if c then a else b) q R := by
  by_cases h : c
  · rw [if_pos h]; exact t h
  · rw [if_neg h]; exact e h
theorem two_ir {c : Prop} [Decidable c] {a b : Option β} {q : Option α} {R : α → β → Prop} (t : c → Two q a R) (e : ¬ c → Two q b R) : Two q (if c then a else b) R := by
  by_cases h : c
  · rw [if_pos h]; exact t h
  · rw [if_neg h]; exact e h
theorem two_lt {c : Prop} [Decidable c] {a b : Option α} {q : Option β} {R : α → β → Prop} (h : c) (t : Two a q R) : Two (if c then a else b) q R := by rw [if_pos h]; exact t
theorem two_lf {c : Prop} [Decidable c] {a b : Option α} {q : Option β} {R : α → β → Prop} (h : ¬ c) (t : Two b q R) : Two (if c then a else b) q R := by rw [if_neg h]; exact t
theorem two_rt {c : Prop} [Decidable c] {a b : Option β} {q : Option α} {R : α → β → Prop} (h : c) (t : Two q a R) : Two q (if c then a else b) R := by rw [if_pos h]; exact t
theorem two_rf {c : Prop} [Decidable c] {a b : Option β} {q : Option α} {R : α → β → Prop} (h : ¬ c) (t : Two q b R) : Two q (if c then a else b) R := by rw [if_neg h]; exact t
theorem two_mono {o : Option α} {q : Option β} {S R : α → β → Prop} (h : Two o q S) (k : ∀ x y, S x y → R x y) : Two o q R := by
  obtain ⟨x, y, a, b, c⟩ := h; exact ⟨x, y, a, b, k x y c⟩
theorem two_eq {o o' : Option α} {q q' : Option β} {R : α → β → Prop} (h : o = o') (h' : q = q') (k : Two o' q' R) : Two o q R := by subst h; subst h'; exact k
end TW
/-- a loop that counts up to m with fuel -/
theorem fuel_up {m : Nat} {C : Nat → Nat → Prop} (base : ∀ fu, C (fu + 1) m) (step : ∀ fu d, d < m → C fu (d + 1) → C (fu + 1) d) : ∀ (x d fu : Nat), d + x = m → x < fu → C fu d
  | 0, d, 0, _, h => absurd h (by omega)
  | 0, d, fu + 1, h1, h2 => by obtain rfl : d = m := by omega
                               exact base fu
  | x + 1, d, 0, _, h => absurd h (by omega)
  | x + 1, d, fu + 1, h1, h2 => step fu d (by omega) (fuel_up base step x (d + 1) fu (by omega) (by omega))
/-- literals -/
theorem LW : (∀ f : Nat → Int32, ld 20240 f 0 = some (f 0)) ∧ (∀ f : Nat → Int32, ld 20240 f 1 = some (f 1)) ∧ (∀ f : Nat → Int32, ld 20240 f 2 = some (f 2)) ∧ (∀ f : Nat → Int32, ld 20240 f 3 = some (f 3)) ∧ (∀ f : Nat → Int32, ld 20240 f 4 = some (f 4)) ∧ (∀ f : Nat → Int32, ld 20240 f 5 = some (f 5)) ∧ (∀ f : Nat → Int32, ld 20240 f 6 = some (f 6)) ∧ (∀ f : Nat → Int32, ld 20240 f 7 = some (f 7)) ∧ (∀ f : Nat → Int32, ld 20240 f 8 = some (f 8)) ∧ (∀ f : Nat → Int32, ld 20240 f 9 = some (f 9)) ∧ (∀ f : Nat → Int32, ld 20240 f 10 = some (f 10)) ∧ (∀ f : Nat → Int32, ld 20240 f 11 = some (f 11)) ∧ (∀ f : Nat → Int32, ld 20240 f 12 = some (f 12)) ∧ (∀ f : Nat → Int32, ld 20240 f 13 = some (f 13)) ∧ (∀ f : Nat → Int32, ld 20240 f 14 = some (f 14)) ∧ (∀ f : Nat → Int32, ld 20240 f 15 = some (f 15)) ∧ (∀ f : Nat → Int32, ld 20240 f 16 = some (f 16)) :=
  ⟨fun _ => ldn (j := 0) (by decide) (by decide), fun _ => ldn (j := 1) (by decide) (by decide), fun _ => ldn (j := 2) (by decide) (by decide), fun _ => ldn (j := 3) (by decide) (by decide), fun _ => ldn (j := 4) (by decide) (by decide), fun _ => ldn (j := 5) (by decide) (by decide), fun _ => ldn (j := 6) (by decide) (by decide), fun _ => ldn (j := 7) (by decide) (by decide), fun _ => ldn (j := 8) (by decide) (by decide), fun _ => ldn (j := 9) (by decide) (by decide), fun _ => ldn (j := 10) (by decide) (by decide), fun _ => ldn (j := 11) (by decide) (by decide), fun _ => ldn (j := 12) (by decide) (by decide), fun _ => ldn (j := 13) (by decide) (by decide), fun _ => ldn (j := 14) (by decide) (by decide), fun _ => ldn (j := 15) (by decide) (by decide), fun _ => ldn (j := 16) (by decide) (by decide)⟩
theorem SW : (∀ σ a v, st 20240 σ a 0 v = some (wr σ a 0 v)) ∧ (∀ σ a v, st 20240 σ a 1 v = some (wr σ a 1 v)) ∧ (∀ σ a v, st 20240 σ a 2 v = some (wr σ a 2 v)) ∧ (∀ σ a v, st 20240 σ a 3 v = some (wr σ a 3 v)) ∧ (∀ σ a v, st 20240 σ a 8 v = some (wr σ a 8 v)) ∧ (∀ σ a v, st 20240 σ a 9 v = some (wr σ a 9 v)) ∧ (∀ σ a v, st 20240 σ a 10 v = some (wr σ a 10 v)) ∧ (∀ σ a v, st 20240 σ a 11 v = some (wr σ a 11 v)) ∧ (∀ σ a v, st 20240 σ a 12 v = some (wr σ a 12 v)) ∧ (∀ σ a v, st 20240 σ a 13 v = some (wr σ a 13 v)) ∧ (∀ σ a v, st 20240 σ a 14 v = some (wr σ a 14 v)) ∧ (∀ σ a v, st 20240 σ a 15 v = some (wr σ a 15 v)) ∧ (∀ σ a v, st 20240 σ a 16 v = some (wr σ a 16 v)) :=
  ⟨fun _ _ _ => stn (j := 0) (by decide) (by decide), fun _ _ _ => stn (j := 1) (by decide) (by decide), fun _ _ _ => stn (j := 2) (by decide) (by decide), fun _ _ _ => stn (j := 3) (by decide) (by decide), fun _ _ _ => stn (j := 8) (by decide) (by decide), fun _ _ _ => stn (j := 9) (by decide) (by decide), fun _ _ _ => stn (j := 10) (by decide) (by decide), fun _ _ _ => stn (j := 11) (by decide) (by decide), fun _ _ _ => stn (j := 12) (by decide) (by decide), fun _ _ _ => stn (j := 13) (by decide) (by decide), fun _ _ _ => stn (j := 14) (by decide) (by decide), fun _ _ _ => stn (j := 15) (by decide) (by decide), fun _ _ _ => stn (j := 16) (by decide) (by decide)⟩
theorem S12 : (∀ σ a v, st 12 σ a 1 v = some (wr σ a 1 v)) ∧ (∀ σ a v, st 12 σ a 2 v = some (wr σ a 2 v)) ∧ (∀ σ a v, st 12 σ a 3 v = some (wr σ a 3 v)) ∧ (∀ σ a v, st 12 σ a 4 v = some (wr σ a 4 v)) ∧ (∀ σ a v, st 12 σ a 5 v = some (wr σ a 5 v)) ∧ (∀ σ a v, st 12 σ a 6 v = some (wr σ a 6 v)) ∧ (∀ σ a v, st 12 σ a 7 v = some (wr σ a 7 v)) ∧ (∀ σ a v, st 12 σ a 8 v = some (wr σ a 8 v)) ∧ (∀ σ a v, st 12 σ a 9 v = some (wr σ a 9 v)) ∧ (∀ σ a v, st 12 σ a 10 v = some (wr σ a 10 v)) ∧ (∀ σ a v, st 12 σ a 11 v = some (wr σ a 11 v)) :=
  ⟨fun _ _ _ => stn (j := 1) (by decide) (by decide), fun _ _ _ => stn (j := 2) (by decide) (by decide), fun _ _ _ => stn (j := 3) (by decide) (by decide), fun _ _ _ => stn (j := 4) (by decide) (by decide), fun _ _ _ => stn (j := 5) (by decide) (by decide), fun _ _ _ => stn (j := 6) (by decide) (by decide), fun _ _ _ => stn (j := 7) (by decide) (by decide), fun _ _ _ => stn (j := 8) (by decide) (by decide), fun _ _ _ => stn (j := 9) (by decide) (by decide), fun _ _ _ => stn (j := 10) (by decide) (by decide), fun _ _ _ => stn (j := 11) (by decide) (by decide)⟩
theorem S8 : (∀ σ a v, st 8 σ a 0 v = some (wr σ a 0 v)) ∧ (∀ σ a v, st 8 σ a 1 v = some (wr σ a 1 v)) ∧ (∀ σ a v, st 8 σ a 2 v = some (wr σ a 2 v)) ∧ (∀ σ a v, st 8 σ a 3 v = some (wr σ a 3 v)) ∧ (∀ σ a v, st 8 σ a 4 v = some (wr σ a 4 v)) ∧ (∀ σ a v, st 8 σ a 5 v = some (wr σ a 5 v)) ∧ (∀ σ a v, st 8 σ a 6 v = some (wr σ a 6 v)) ∧ (∀ σ a v, st 8 σ a 7 v = some (wr σ a 7 v)) :=
  ⟨fun _ _ _ => stn (j := 0) (by decide) (by decide), fun _ _ _ => stn (j := 1) (by decide) (by decide), fun _ _ _ => stn (j := 2) (by decide) (by decide), fun _ _ _ => stn (j := 3) (by decide) (by decide), fun _ _ _ => stn (j := 4) (by decide) (by decide), fun _ _ _ => stn (j := 5) (by decide) (by decide), fun _ _ _ => stn (j := 6) (by decide) (by decide), fun _ _ _ => stn (j := 7) (by decide) (by decide)⟩
/-! WHERE A WORLD'S NUMBERS LIE, in the class's rows and in the reference's. -/
def Cor (n nd i k j : Nat) : Prop := (i = 1 ∧ k = 0 ∧ j = 9) ∨ (i = 12 ∧ k = 0 ∧ j = 10) ∨ (k < n ∧ ∃ f, f < 7 ∧ i = 2 + f ∧ j = 90 + 8 * k + f) ∨ (k < n ∧ ∃ f, f < 3 ∧ i = 9 + f ∧ j = 190 + 3 * k + f) ∨ (k < nd ∧ ∃ f, f < 7 ∧ i = 13 + f ∧ j = 230 + 8 * k + f) ∨ (i = 24 ∧ k < 36 ∧ j = 50 + k) ∨ (i = 25 ∧ k < 24 ∧ j = 20 + k) ∨ (i = 23 ∧ ((k = 2 ∧ j = 3) ∨ (k = 3 ∧ j = 4) ∨ (k = 4 ∧ j = 5) ∨ (k = 5 ∧ j = 6) ∨ (k = 6 ∧ j = 8))) ∨ (i = 26 ∧ ((k = 0 ∧ j = 0) ∨ (k = 1 ∧ j = 1) ∨ (k = 2 ∧ j = 2) ∨ (k = 3 ∧ j = 7))) ∨ (i = 33 ∧ 3 ≤ k ∧ k < 7 ∧ j = 9 + k)
theorem Cor.inj {n nd i k j i' k' j' : Nat} (hn : n ≤ 12) (hd : nd ≤ 40) (h : Cor n nd i k j) (h' : Cor n nd i' k' j') : (i = i' ∧ k = k') ↔ j = j' := by
  unfold Cor at h h'
  rcases h with h | h | ⟨h0, f, h⟩ | ⟨h0, f, h⟩ | ⟨h0, f, h⟩ | h | h | h | h | h <;> rcases h' with g | g | ⟨g0, f', g⟩ | ⟨g0, f', g⟩ | ⟨g0, f', g⟩ | g | g | g | g | g <;> omega
theorem Rc.cor {σ : Sig} {W : Nat} {w : wF} {n nd : Nat} : Rc σ W w n nd ↔ ∀ i k j, Cor n nd i k j → σ (W + i) k = w j := by
  constructor
  · rintro ⟨⟨p1, p2⟩, ⟨d1, d2⟩, ⟨t1, t2, t3, t4, t5, t6, t7, t8, t9, t10, t11⟩, c1, c2, c3, c4⟩ i k j h
    rcases h with ⟨rfl, rfl, rfl⟩ | ⟨rfl, rfl, rfl⟩ | ⟨h0, f, hf, rfl, rfl⟩ | ⟨h0, f, hf, rfl, rfl⟩ | ⟨h0, f, hf, rfl, rfl⟩ | ⟨rfl, h1, rfl⟩ | ⟨rfl, h1, rfl⟩ | ⟨rfl, h⟩ | ⟨rfl, h⟩ | ⟨rfl, h1, h2, rfl⟩
    · exact p1
    · exact d1
    · rw [show W + (2 + f) = W + 1 + (1 + f) by omega]; exact (p2 k h0).1 f hf
    · rw [show W + (9 + f) = W + 1 + (8 + f) by omega]; exact (p2 k h0).2 f hf
    · rw [show W + (13 + f) = W + 12 + (1 + f) by omega]; exact d2 k h0 f hf
    · exact t1 k h1
    · exact t2 k h1
    · rcases h with ⟨rfl, rfl⟩ | ⟨rfl, rfl⟩ | ⟨rfl, rfl⟩ | ⟨rfl, rfl⟩ | ⟨rfl, rfl⟩
      · exact t3
      · exact t4
      · exact t5
      · exact t6
      · exact t7
    · rcases h with ⟨rfl, rfl⟩ | ⟨rfl, rfl⟩ | ⟨rfl, rfl⟩ | ⟨rfl, rfl⟩
      · exact t8
      · exact t9
      · exact t10
      · exact t11
    · have : k = 3 ∨ k = 4 ∨ k = 5 ∨ k = 6 := by omega
      rcases this with rfl | rfl | rfl | rfl
      · exact c1
      · exact c2
      · exact c3
      · exact c4
  · intro h
    have g : ∀ i k j, Cor n nd i k j → σ (W + i) k = w j := h
    refine ⟨⟨g 1 0 9 (by simp [Cor]), fun p hp => ⟨fun f hf => ?_, fun f hf => ?_⟩⟩, ⟨g 12 0 10 (by simp [Cor]), fun d hd f hf => ?_⟩, ⟨fun j hj => g 24 j (50 + j) (by unfold Cor; omega), fun t ht => g 25 t (20 + t) (by unfold Cor; omega), g 23 2 3 (by simp [Cor]), g 23 3 4 (by simp [Cor]), g 23 4 5 (by simp [Cor]), g 23 5 6 (by simp [Cor]), g 23 6 8 (by simp [Cor]), g 26 0 0 (by simp [Cor]), g 26 1 1 (by simp [Cor]), g 26 2 2 (by simp [Cor]), g 26 3 7 (by simp [Cor])⟩, g 33 3 12 (by simp [Cor]), g 33 4 13 (by simp [Cor]), g 33 5 14 (by simp [Cor]), g 33 6 15 (by simp [Cor])⟩
    · rw [show W + 1 + (1 + f) = W + (2 + f) by omega]; exact g _ _ _ (Or.inr (Or.inr (Or.inl ⟨hp, f, hf, rfl, rfl⟩)))
    · rw [show W + 1 + (8 + f) = W + (9 + f) by omega]; exact g _ _ _ (Or.inr (Or.inr (Or.inr (Or.inl ⟨hp, f, hf, rfl, rfl⟩))))
    · rw [show W + 12 + (1 + f) = W + (13 + f) by omega]; exact g _ _ _ (Or.inr (Or.inr (Or.inr (Or.inr (Or.inl ⟨hd, f, hf, rfl, rfl⟩)))))
/-- a number put on both sides -/
theorem Rc.put {σ : Sig} {W : Nat} {w : wF} {n nd i k j : Nat} {v : Int32} (hn : n ≤ 12) (hd : nd ≤ 40) (h : Rc σ W w n nd) (hc : Cor n nd i k j) : Rc (wr σ (W + i) k v) W (upd w j v) n nd := by
  refine Rc.cor.mpr (fun i' k' j' h' => ?_)
  have hi := Cor.inj hn hd h' hc
  by_cases e : j' = j
  · obtain ⟨e1, e2⟩ := hi.mpr e
    rw [e, upd_eq, e1, e2, wr_same, if_pos rfl]
  · rw [upd_ne e]
    by_cases e1 : i' = i
    · rw [e1, wr_same, if_neg (fun e2 => e (hi.mp ⟨e1, e2⟩)), ← e1]; exact Rc.cor.mp h _ _ _ h'
    · rw [wr_row (by omega)]; exact Rc.cor.mp h _ _ _ h'
theorem Cor.rng {n nd i k j : Nat} (h : Cor n nd i k j) : (1 ≤ i ∧ i < 20) ∨ (23 ≤ i ∧ i ≤ 26) ∨ (i = 33 ∧ 3 ≤ k) := by
  rcases h with h | h | ⟨h0, f, h⟩ | ⟨h0, f, h⟩ | ⟨h0, f, h⟩ | h | h | h | h | h <;> omega
/-- rows that say nothing of this changed -/
theorem Rc.scr {σ σ' : Sig} {W : Nat} {w : wF} {n nd : Nat} (h : Rc σ W w n nd) (hs : ∀ i, (1 ≤ i ∧ i < 20) ∨ (23 ≤ i ∧ i ≤ 26) ∨ i = 33 → σ' (W + i) = σ (W + i)) : Rc σ' W w n nd := by
  refine Rc.cor.mpr (fun i k j hc => ?_)
  rw [hs i (by have := hc.rng; omega)]; exact Rc.cor.mp h _ _ _ hc
def FrC (W : Nat) (σ σ' : Sig) : Prop := ∀ a, (a ≤ W ∨ W + 35 ≤ a ∨ (W + 27 ≤ a ∧ a ≤ W + 29)) → σ' a = σ a
def FrR (B : Nat) (ρ ρ' : Sig) : Prop := (∀ a, a ≠ B + 1 → a ≠ B + 7 → a ≠ B + 8 → ρ' a = ρ a) ∧ ∀ j, (2550 ≤ j ∨ j = 16) → ρ' (B + 1) j = ρ (B + 1) j
theorem FrC.rf {W : Nat} {σ : Sig} : FrC W σ σ := fun _ _ => rfl
theorem FrR.rf {B : Nat} {ρ : Sig} : FrR B ρ ρ := ⟨fun _ _ _ _ => rfl, fun _ _ => rfl⟩
theorem FrC.tr {W : Nat} {σ σ' σ'' : Sig} (h : FrC W σ σ') (h' : FrC W σ' σ'') : FrC W σ σ'' := fun a ha => (h' a ha).trans (h a ha)
theorem FrR.tr {B : Nat} {σ σ' σ'' : Sig} (h : FrR B σ σ') (h' : FrR B σ' σ'') : FrR B σ σ'' := ⟨fun a h1 h2 h3 => (h'.1 a h1 h2 h3).trans (h.1 a h1 h2 h3), fun j hj => (h'.2 j hj).trans (h.2 j hj)⟩
def Bk (M : Nat) (σ : Sig) (W : Nat) (w : wF) : Prop := (M = 2000 ∧ BkF σ W w) ∨ (M = 0 ∧ BkN σ W ∧ ∃ k, k ≤ 400 ∧ w 11 = nI k)
/-- two states that say the same, come from σ0 and ρ0 -/
def Z (W M B n nd : Nat) (σ0 ρ0 σ ρ : Sig) : Prop := Rg (ρ (B + 1)) n nd ∧ Rc σ W (ρ (B + 1)) n nd ∧ Bk M σ W (ρ (B + 1)) ∧ FrC W σ0 σ ∧ FrR B ρ0 ρ
section ZZ
variable {W M B n nd : Nat} {σ0 ρ0 σ ρ : Sig}
theorem Z.g (h : Z W M B n nd σ0 ρ0 σ ρ) : Rg (ρ (B + 1)) n nd := h.1
theorem Z.r (h : Z W M B n nd σ0 ρ0 σ ρ) : Rc σ W (ρ (B + 1)) n nd := h.2.1
theorem Z.b (h : Z W M B n nd σ0 ρ0 σ ρ) : Bk M σ W (ρ (B + 1)) := h.2.2.1
theorem Z.n12 (h : Z W M B n nd σ0 ρ0 σ ρ) : n ≤ 12 := h.1.1.1
theorem Z.d40 (h : Z W M B n nd σ0 ρ0 σ ρ) : nd ≤ 40 := h.1.2.1.1
theorem Z.at (h : Z W M B n nd σ0 ρ0 σ ρ) {i k j : Nat} (hc : Cor n nd i k j) : σ (W + i) k = ρ (B + 1) j := Rc.cor.mp h.2.1 i k j hc
theorem wr_w {ρ : Sig} {a j : Nat} {v : Int32} : wr ρ a j v a = upd (ρ a) j v := by funext k; rw [wr_same]; rfl
/-- the ranges speak of these places alone -/
theorem Rg.fr {w w' : wF} (h : Rg w n nd) (hw : ∀ j, (1 ≤ j ∧ j ≤ 3) ∨ (5 ≤ j ∧ j ≤ 10) ∨ (20 ≤ j ∧ j < 86) ∨ (90 ≤ j ∧ j < 190) ∨ (230 ≤ j ∧ j < 550) → w' j = w j) : Rg w' n nd := by
  have hn := h.1.1
  have hd := h.2.1.1
  refine ⟨h.1.fr (fun j hj => hw j (by omega)), h.2.1.fr (Nat.le_refl _) (fun j hj => hw j (by omega)), ?_⟩
  obtain ⟨h1, h2, h3, h4, h5, h6, h7, h8⟩ := h.2.2
  exact ⟨fun t ht => by rw [hw _ (by omega)]; exact h1 t ht, by rw [hw 3 (by omega)]; exact h2, by rw [hw 5 (by omega)]; exact h3, by rw [hw 6 (by omega)]; exact h4, by rw [hw 7 (by omega)]; exact h5, by rw [hw 8 (by omega)]; exact h6, fun j hj => by rw [hw _ (by omega)]; exact h7 j hj, by rw [hw 2 (by omega)]; exact h8⟩
theorem Z.put (h : Z W M B n nd σ0 ρ0 σ ρ) {i k j : Nat} {v : Int32} (hc : Cor n nd i k j) (hg : Rg (upd (ρ (B + 1)) j v) n nd) : Z W M B n nd σ0 ρ0 (wr σ (W + i) k v) (wr ρ (B + 1) j v) := by
  have hn := h.n12
  have hd := h.d40
  have hr := hc.rng
  have hj : j < 550 ∧ j ≠ 11 ∧ j ≠ 16 := by
    rcases hc with h | h | ⟨h0, f, h⟩ | ⟨h0, f, h⟩ | ⟨h0, f, h⟩ | h | h | h | h | h <;> omega
  obtain ⟨g, r, b, fc, fr⟩ := h
  refine ⟨by rw [wr_w]; exact hg, by rw [wr_w]; exact r.put hn hd hc, ?_, fc.tr (fun a ha => wr_row (by omega)), fr.tr ⟨fun a h1 _ _ => wr_row h1, fun j' hj' => by rw [wr_w, upd_ne (by omega)]⟩⟩
  rw [wr_w]
  have e33 : ∀ k', k' < 3 → wr σ (W + i) k v (W + 33) k' = σ (W + 33) k' := fun k' hk' => by
    by_cases e : i = 33
    · subst e; rw [wr_same, if_neg (by omega)]
    · rw [wr_row (by omega)]
  have e34 : wr σ (W + i) k v (W + 33 + 1) = σ (W + 33 + 1) := wr_row (by omega)
  rcases b with ⟨hM, b1, b2, kk, b3, b4, b5⟩ | ⟨hM, ⟨b1, b2⟩, kk, b3, b4⟩
  · refine Or.inl ⟨hM, by rw [e33 0 (by decide)]; exact b1, by rw [e33 2 (by decide), upd_ne (by omega)]; exact b2, kk, b3, by rw [upd_ne (by omega)]; exact b4, fun q hq => by rw [e34, upd_ne (by omega)]; exact b5 q hq⟩
  · exact Or.inr ⟨hM, ⟨by rw [e33 0 (by decide)]; exact b1, by rw [e33 2 (by decide)]; exact b2⟩, kk, b3, by rw [upd_ne (by omega)]; exact b4⟩
/-- numbers of no range -/
theorem Z.put0 (h : Z W M B n nd σ0 ρ0 σ ρ) {i k j : Nat} {v : Int32} (hc : Cor n nd i k j) (hj : j = 0 ∨ j = 1 ∨ j = 4 ∨ (11 ≤ j ∧ j < 20) ∨ (190 ≤ j ∧ j < 230)) : Z W M B n nd σ0 ρ0 (wr σ (W + i) k v) (wr ρ (B + 1) j v) := by
  refine h.put hc ?_
  have hn := h.n12
  have hd := h.d40
  obtain ⟨g1, g2, h1, h2, h3, h4, h5, h6, h7, h8⟩ := h.g
  refine ⟨g1.fr (fun q hq => upd_ne (by omega)), g2.fr (Nat.le_refl _) (fun q hq => upd_ne (by omega)), fun t ht => by rw [upd_ne (by omega)]; exact h1 t ht, by rw [upd_ne (by omega)]; exact h2, by rw [upd_ne (by omega)]; exact h3, by rw [upd_ne (by omega)]; exact h4, by rw [upd_ne (by omega)]; exact h5, by rw [upd_ne (by omega)]; exact h6, fun t ht => by rw [upd_ne (by omega)]; exact h7 t ht, by rw [upd_ne (by omega)]; exact h8⟩
/-- the class's scratch rows -/
theorem Z.scr (h : Z W M B n nd σ0 ρ0 σ ρ) {σ' : Sig} (hs : ∀ a, a ≠ W + 20 → a ≠ W + 21 → a ≠ W + 22 → a ≠ W + 30 → a ≠ W + 31 → a ≠ W + 32 → σ' a = σ a) : Z W M B n nd σ0 ρ0 σ' ρ := by
  obtain ⟨g, r, b, fc, fr⟩ := h
  have e33 : σ' (W + 33) = σ (W + 33) := hs _ (by omega) (by omega) (by omega) (by omega) (by omega) (by omega)
  have e34 : σ' (W + 33 + 1) = σ (W + 33 + 1) := hs _ (by omega) (by omega) (by omega) (by omega) (by omega) (by omega)
  refine ⟨g, r.scr (fun i hi => hs _ (by omega) (by omega) (by omega) (by omega) (by omega) (by omega)), ?_, fc.tr (fun a ha => hs a (by omega) (by omega) (by omega) (by omega) (by omega) (by omega)), fr⟩
  unfold Bk BkF BkN at b ⊢
  rw [e33, e34]; exact b
/-- the reference's scratch rows -/
theorem Z.scrR (h : Z W M B n nd σ0 ρ0 σ ρ) {ρ' : Sig} (hs : ∀ a, a ≠ B + 7 → a ≠ B + 8 → ρ' a = ρ a) : Z W M B n nd σ0 ρ0 σ ρ' := by
  obtain ⟨g, r, b, fc, fr⟩ := h
  have e1 : ρ' (B + 1) = ρ (B + 1) := hs _ (by omega) (by omega)
  refine ⟨by rw [e1]; exact g, by rw [e1]; exact r, by rw [e1]; exact b, fc, fr.tr ⟨fun a h1 h2 h3 => hs a h2 h3, fun j hj => by rw [e1]⟩⟩
end ZZ
