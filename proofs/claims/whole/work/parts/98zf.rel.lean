/-! TEXTS: class and reference side by side. -/
theorem Mt.cg {t t' : Nat → Int32} {q n w len : Nat} (ht : ∀ j, j < len → t j = t' j) (hl : q + n ≤ len) (h : Mt t q n w) : Mt t' q n w := ⟨h.1, fun i hi => by rw [← ht _ (by have := h.1; omega)]; exact h.2 i hi⟩
theorem kwF.cg {t t' : Nat → Int32} {q n len : Nat} (ht : ∀ j, j < len → t j = t' j) (hl : q + n ≤ len) : ∀ (l : List (Nat × Nat)) (idx : Nat) (r : Option Nat), kwF t q n l idx r → kwF t' q n l idx r
  | [], _, _, h => h
  | (_, w) :: l, idx, r, h => by
    unfold kwF at h ⊢
    rcases h with ⟨h1, h2⟩ | ⟨h1, h2⟩
    · exact Or.inl ⟨h1.cg ht hl, h2⟩
    · exact Or.inr ⟨fun z => h1 (z.cg (fun j hj => (ht j hj).symm) hl), kwF.cg ht hl l (idx + 1) r h2⟩
theorem valF.cg {t t' : Nat → Int32} {q len : Nat} (ht : ∀ j, j < len → t j = t' j) : ∀ k, q + k ≤ len → valF t q k = valF t' q k
  | 0, _ => rfl
  | k + 1, h => by
    show valF t q k * 10 + t (q + k) - 48 = valF t' q k * 10 + t' (q + k) - 48
    rw [valF.cg ht k (by omega), ht _ (by omega)]
theorem Tk.cg {t t' : Nat → Int32} {len : Nat} {law : Bool} {p kc q v e : Nat} (ht : ∀ j, j < len → t j = t' j) (h : Tk t len law p kc q v e) : Tk t' len law p kc q v e := by
  obtain ⟨h1, h2, h3, h4, h5⟩ := h
  refine ⟨h1, h2, h3, fun j a1 a2 => by rw [← ht j (by omega)]; exact h4 j a1 a2, ?_⟩
  rcases h5 with h5 | ⟨a1, a2, a3, a4, h5⟩
  · exact Or.inl h5
  · have hq := ht q (by omega)
    refine Or.inr ⟨a1, a2, by rw [← hq]; exact a3, by rw [← hq]; exact a4, ?_⟩
    rw [← hq]
    rcases h5 with ⟨g1, g2, g3, r, g4, g5⟩ | ⟨g1, g2, g3, g4, g5⟩ | ⟨g1, g2, g3, g4⟩
    · refine Or.inl ⟨g1, fun j b1 b2 => by rw [← ht j (by omega)]; exact g2 j b1 b2, ?_, r, kwF.cg ht (by omega) _ _ _ g4, g5⟩
      by_cases c : e = len
      · exact Or.inl c
      · exact Or.inr (by rw [← ht e (by omega)]; exact g3.resolve_left c)
    · refine Or.inr (Or.inl ⟨g1, g2, fun j b1 b2 => by rw [← ht j (by omega)]; exact g3 j b1 b2, ?_, ?_⟩)
      · by_cases c : e = len
        · exact Or.inl c
        · exact Or.inr (by rw [← ht e (by omega)]; exact g4.resolve_left c)
      · rw [← valF.cg ht (e - q) (by omega)]; exact g5
    · exact Or.inr (Or.inr ⟨g1, g2, g3, g4⟩)
/-- the steps so far -/
def RelS (law : Bool) (L : List (Nat × Nat)) (u w : Nat → Int32) : Prop := ∀ m x, L[m]? = some x → x.1 < 22 ∧ x.2 ≤ 9999 ∧ w (2 * m) = nI x.1 ∧ (x.1 = 0 ∨ x.1 = 15 → w (2 * m + 1) = nI x.2) ∧ ∃ e, enc law x.1 x.2 = some e ∧ u m = nI e
def Fc (a : Nat) (s s' : Sig) : Prop := (∀ x, x ≠ a → x ≠ a + 1 → s' x = s x) ∧ ∀ j, j ≠ 0 → j ≠ 1 → j ≠ 4 → j ≠ 12 → s' a j = s a j
def Fq (B : Nat) (r r' : Sig) : Prop := (∀ x, x ≠ B → x ≠ B + 5 → r' x = r x) ∧ ∀ j, j ≠ 11 → j ≠ 13 → j ≠ 14 → j ≠ 15 → j ≠ 16 → j ≠ 17 → j ≠ 18 → j ≠ 20 → r' B j = r B j
theorem Fc.rfl {a : Nat} {s : Sig} : Fc a s s := ⟨fun _ _ _ => Eq.refl _, fun _ _ _ _ _ => Eq.refl _⟩
theorem Fq.rfl {B : Nat} {r : Sig} : Fq B r r := ⟨fun _ _ _ => Eq.refl _, fun _ _ _ _ _ _ _ _ _ => Eq.refl _⟩
theorem Fc.tr {a : Nat} {s s' s'' : Sig} (h : Fc a s s') (h' : Fc a s' s'') : Fc a s s'' := ⟨fun x h1 h2 => (h'.1 x h1 h2).trans (h.1 x h1 h2), fun j h1 h2 h3 h4 => (h'.2 j h1 h2 h3 h4).trans (h.2 j h1 h2 h3 h4)⟩
theorem Fq.tr {B : Nat} {r r' r'' : Sig} (h : Fq B r r') (h' : Fq B r' r'') : Fq B r r'' := ⟨fun x h1 h2 => (h'.1 x h1 h2).trans (h.1 x h1 h2), fun j h1 h2 h3 h4 h5 h6 h7 h8 => (h'.2 j h1 h2 h3 h4 h5 h6 h7 h8).trans (h.2 j h1 h2 h3 h4 h5 h6 h7 h8)⟩
/-- what stays, of the class and of the reference -/
def Sta (a : Nat) (t : Nat → Int32) (len : Nat) (law : Bool) (n : Nat) (s : Sig) : Prop := n ≤ 400 ∧ s a 11 = nI (n + 1) ∧ TkA t len law a (n + 1) s ∧ tK t len law n = 0 ∧ s a 2 = if law then 1 else 0
def StaR (B : Nat) (t : Nat → Int32) (len : Nat) (law : Bool) (r : Sig) : Prop := len ≤ 400 ∧ r B 12 = nI len ∧ (2 ≤ r B 9 ↔ law = false) ∧ (∀ j, j < len → t j = r (B + 6) j) ∧ ∀ j, j < len → t j ≠ -1
theorem Sta.fr {a : Nat} {t : Nat → Int32} {len : Nat} {law : Bool} {n : Nat} {s s' : Sig} (h : Sta a t len law n s) (hf : Fc a s s') : Sta a t len law n s' := by
  obtain ⟨h1, h2, h3, h4, h5⟩ := h
  refine ⟨h1, by rw [hf.2 11 (by decide) (by decide) (by decide) (by decide)]; exact h2, fun i hi => ?_, h4, by rw [hf.2 2 (by decide) (by decide) (by decide) (by decide)]; exact h5⟩
  rw [hf.1 (a + 4) (by omega) (by omega), hf.1 (a + 5) (by omega) (by omega), hf.1 (a + 6) (by omega) (by omega)]
  exact h3 i hi
theorem StaR.fr {B : Nat} {t : Nat → Int32} {len : Nat} {law : Bool} {r r' : Sig} (h : StaR B t len law r) (hf : Fq B r r') : StaR B t len law r' := by
  obtain ⟨h1, h2, h3, h4, h5⟩ := h
  refine ⟨h1, by rw [hf.2 12 (by decide) (by decide) (by decide) (by decide) (by decide) (by decide) (by decide) (by decide)]; exact h2, by rw [hf.2 9 (by decide) (by decide) (by decide) (by decide) (by decide) (by decide) (by decide) (by decide)]; exact h3, fun j hj => ?_, h5⟩
  rw [hf.1 (B + 6) (by omega) (by omega)]; exact h4 j hj
/-- side by side at token i, steps L, depth d -/
def Rl (a B : Nat) (t : Nat → Int32) (len : Nat) (law : Bool) (n i : Nat) (L : List (Nat × Nat)) (d : Nat) (s r : Sig) : Prop := Sta a t len law n s ∧ StaR B t len law r ∧ i ≤ n ∧ s a 0 = 0 ∧ s a 12 = nI i ∧ s a 4 = nI L.length ∧ r B 13 = nI (ps t len law (i + 1)) ∧ r B 14 = nI (kr law (tK t len law i)) ∧ r B 15 = nI (tA t len law i) ∧ (tK t len law i = 1 → r B 16 = nI (tV t len law i)) ∧ r B 11 = nI L.length ∧ r B 20 = nI d ∧ RelS law L (s (a + 1)) (r (B + 5)) ∧ s a 1 = -1 ∧ r B 17 = 0
/-- the class, with a fault: nothing can go wrong any more -/
def Vd (a : Nat) (t : Nat → Int32) (len : Nat) (law : Bool) (n : Nat) (s : Sig) : Prop := Sta a t len law n s ∧ s a 0 ≠ 0 ∧ ∃ i c, i ≤ n ∧ c ≤ 400 ∧ s a 12 = nI i ∧ s a 4 = nI c
/-- both end with the same fault -/
def Bd (a B : Nat) (t : Nat → Int32) (len : Nat) (law : Bool) (n : Nat) (s r : Sig) : Prop := Vd a t len law n s ∧ s a 0 = r B 17 ∧ s a 1 = r B 18
section SM
variable {a B : Nat} {t : Nat → Int32} {len : Nat} {law : Bool} {n i d : Nat} {L : List (Nat × Nat)} {s r : Sig}
theorem Rl.kd (h : Rl a B t len law n i L d s r) : ld 401 (s (a + 4)) (s a 12) = some (nI (tK t len law i)) := by
  obtain ⟨⟨h1, h2, h3, h4, h5⟩, -, h6, -, h7, -⟩ := h
  rw [h7, ldn (by omega) (by decide), (h3 i (by omega)).1]
theorem Rl.vl (h : Rl a B t len law n i L d s r) (hk : tK t len law i = 1) : ld 401 (s (a + 6)) (s a 12) = some (nI (tV t len law i)) ∧ tV t len law i ≤ 9999 := by
  obtain ⟨⟨h1, h2, h3, h4, h5⟩, -, h6, -, h7, -⟩ := h
  obtain ⟨z1, z2⟩ := (h3 i (by omega)).2.2 hk
  rw [h7, ldn (by omega) (by decide), z1]
  exact ⟨rfl, z2⟩
theorem Rl.step (h : Rl a B t len law n i L d s r) (hk : tK t len law i ≠ 0) : ∃ s' r', X5_step_f a s = some s' ∧ X12_next0_f B r = some r' ∧ Fc a s s' ∧ Fq B r r' ∧ Rl a B t len law n (i + 1) L d s' r' := by
  obtain ⟨hS, hR, h1, h3, h4, h5, h6, h7, h8, h9, h10, h11, h12, h13, h14⟩ := h
  obtain ⟨b1, b2, b3, b4, b5⟩ := id hR
  have hin : i < n := by
    rcases Nat.lt_or_ge i n with c | c
    · exact c
    · exact absurd (by rw [show i = n by omega]; exact hS.2.2.2.1) hk
  have hn := hS.1
  have tk := (tk_ok (t := t) (len := len) (law := law) (i + 1)).cg (t' := r (B + 6)) b4
  obtain ⟨r', z1, z2, z3, z4, z5, z6⟩ := re_next (B := B) (ρ := r) b1 b2 h6 b3 (fun j hj => by rw [← b4 j hj]; exact b5 j hj) tk
  have fr : Fq B r r' := ⟨fun x e1 e2 => z2.2 x e1, fun j e1 e2 e3 e4 e5 e6 e7 e8 => z2.1 j e2 e3 e4 e5⟩
  have fc : Fc a s (wr s a 12 (nI (i + 1))) := ⟨fun x e1 e2 => wr_row e1, fun j e1 e2 e3 e4 => wr_o e4⟩
  refine ⟨wr s a 12 (nI (i + 1)), r', ?_, z1, fc, fr, hS.fr fc, hR.fr fr, by omega, by rw [wr_o (by decide)]; exact h3, wr_v, by rw [wr_o (by decide)]; exact h5, z3, z4, z5, z6, ?_, ?_, ?_, ?_, ?_⟩
  · unfold X5_step_f pI
    have e1 : nI (n + 1) - 1 = nI n := by
      have := pk_sub (a := n + 1) (b := 1) (by omega)
      exact this
    rw [hS.2.1, h4, e1, if_neg (nI_ge hin (by omega)), bsm, nI_s]
  · rw [z2.1 11 (by decide) (by decide) (by decide) (by decide)]; exact h10
  · rw [z2.1 20 (by decide) (by decide) (by decide) (by decide)]; exact h11
  · rw [wr_row (by omega), z2.2 _ (by omega)]; exact h12
  · rw [wr_o (by decide)]; exact h13
  · rw [z2.1 17 (by decide) (by decide) (by decide) (by decide)]; exact h14
theorem RelS.app {law : Bool} {L : List (Nat × Nat)} {u w : Nat → Int32} (h : RelS law L u w) {x y e : Nat} {v : Int32} (hx : x < 22) (hy : y ≤ 9999) (he : enc law x y = some e) (hv : x = 0 ∨ x = 15 → v = nI y) : RelS law (L ++ [(x, y)]) (upd u L.length (nI e)) (upd (upd w (2 * L.length) (nI x)) (2 * L.length + 1) v) := by
  intro m z hz
  rcases Nat.lt_trichotomy m L.length with c | c | c
  · rw [List.getElem?_append_left c] at hz
    rw [upd_ne (by omega), upd_ne (by omega), upd_ne (by omega), upd_ne (by omega), upd_ne (by omega)]
    exact h m z hz
  · subst c
    rw [List.getElem?_append_right (Nat.le_refl _), Nat.sub_self] at hz
    injection hz with hz
    subst hz
    rw [upd_ne (by omega), upd_eq, upd_eq, upd_eq]
    exact ⟨hx, hy, rfl, hv, e, he, rfl⟩
  · rw [List.getElem?_eq_none (by rw [List.length_append, List.length_singleton]; omega)] at hz; cases hz
theorem Rl.emit (h : Rl a B t len law n i L d s r) {x y e : Nat} {x1 x2 v : Int32} (hl : L.length < 400) (hx : x < 22) (hy : y ≤ 9999) (he : enc law x y = some e) (hv : x = 0 ∨ x = 15 → v = nI y) (hc : (x2 <<< (4 &&& 31)) ||| x1 = nI e) : ∃ s' r', X5_emit_f a x1 x2 s = some s' ∧ X12_lay_f B (nI x) v r = some r' ∧ Fc a s s' ∧ Fq B r r' ∧ Rl a B t len law n i (L ++ [(x, y)]) d s' r' := by
  obtain ⟨hS, hR, h1, h3, h4, h5, h6, h7, h8, h9, h10, h11, h12, h13, h14⟩ := h
  have hn := hS.1
  have fc : Fc a s (wr (wr s (a + 1) L.length (nI e)) a 4 (nI (L.length + 1))) := ⟨fun x e1 e2 => by rw [wr_row e1, wr_row e2], fun j e1 e2 e3 e4 => by rw [wr_o e3, wr_row (by omega)]⟩
  have fr : Fq B r (wr (wr (wr r (B + 5) (2 * L.length) (nI x)) (B + 5) (2 * L.length + 1) v) B 11 (nI (L.length + 1))) := ⟨fun x e1 e2 => by rw [wr_row e1, wr_row e2, wr_row e2], fun j e1 e2 e3 e4 e5 e6 e7 e8 => by rw [wr_o e1, wr_row (by omega), wr_row (by omega)]⟩
  have q : ∀ j, j ≠ 11 → wr (wr (wr r (B + 5) (2 * L.length) (nI x)) (B + 5) (2 * L.length + 1) v) B 11 (nI (L.length + 1)) B j = r B j := fun j hj => by rw [wr_o hj, wr_row (by omega), wr_row (by omega)]
  have q2 : ∀ j, j ≠ 4 → wr (wr s (a + 1) L.length (nI e)) a 4 (nI (L.length + 1)) a j = s a j := fun j hj => by rw [wr_o hj, wr_row (by omega)]
  have hlen : (L ++ [(x, y)]).length = L.length + 1 := by rw [List.length_append, List.length_singleton]
  refine ⟨_, _, ?_, ?_, fc, fr, hS.fr fc, hR.fr fr, h1, by rw [q2 0 (by decide)]; exact h3, by rw [q2 12 (by decide)]; exact h4, by rw [hlen, wr_v], by rw [q 13 (by decide)]; exact h6, by rw [q 14 (by decide)]; exact h7, by rw [q 15 (by decide)]; exact h8, by rw [q 16 (by decide)]; exact h9, by rw [hlen, wr_v], by rw [q 20 (by decide)]; exact h11, ?_, by rw [q2 1 (by decide)]; exact h13, by rw [q 17 (by decide)]; exact h14⟩
  · unfold X5_emit_f pI
    rw [h5, if_neg (show ¬ (400 : Int32) ≤ nI L.length from nI_ge (b := 400) (by omega) (by decide)), hc, stn (by omega) (by decide), bsm, wr_row (by omega), h5, nI_s, bsm]
  · unfold X12_lay_f pI
    have e2 : (2 * nI L.length : Int32) = nI (2 * L.length) := by rw [show (2 : Int32) = nI 2 from rfl, pk_mul]
    have e3 : nI (2 * L.length) + 1 = nI (2 * L.length + 1) := nI_s _
    rw [h10, e2, stn (by omega) (by decide), bsm, wr_row (by omega), h10, e2, e3, stn (by omega) (by decide), bsm, wr_row (by omega), wr_row (by omega), h10, nI_s, bsm]
  · rw [wr_row (by omega), wr_w, wr_row (by omega), wr_w, wr_w]
    exact h12.app hx hy he hv
theorem Rl.fail (h : Rl a B t len law n i L d s r) {k : Nat} (hl : L.length ≤ 400) (hk : k ≠ 0) (hk2 : k < 10) : ∃ s' r', X5_fail_f a (nI k) s = some s' ∧ X12_bad_f B (nI k) r = some (0, r') ∧ Fc a s s' ∧ Fq B r r' ∧ Bd a B t len law n s' r' := by
  obtain ⟨hS, hR, h1, h3, h4, h5, h6, h7, h8, h9, h10, h11, h12⟩ := h
  have hn := hS.1
  have fc : Fc a s (wr (wr s a 0 (nI k)) a 1 (nI (tA t len law i))) := ⟨fun x e1 e2 => by rw [wr_row e1, wr_row e1], fun j e1 e2 e3 e4 => by rw [wr_o e2, wr_o e1]⟩
  refine ⟨wr (wr s a 0 (nI k)) a 1 (nI (tA t len law i)), wr (wr r B 17 (nI k)) B 18 (nI (tA t len law i)), ?_, ?_, fc, ⟨fun x e1 e2 => by rw [wr_row e1, wr_row e1], fun j e1 e2 e3 e4 e5 e6 e7 e8 => by rw [wr_o e7, wr_o e6]⟩, ⟨hS.fr fc, ?_, i, L.length, h1, hl, ?_, ?_⟩, ?_, ?_⟩
  · unfold X5_fail_f pI
    rw [h3, if_pos rfl, bsm, wr_o (by decide), h4, wr_row (by omega), ldn (by omega) (by decide), bsm, (hS.2.2.1 i (by omega)).2.1, bsm]
  · unfold X12_bad_f pI
    rw [bsm, wr_o (by decide), h8, bsm]
  · rw [wr_o (by decide), wr_v]; exact fun z => hk (nI_inj (b := 0) (by omega) (by decide) z)
  · rw [wr_o (by decide), wr_o (by decide)]; exact h4
  · rw [wr_o (by decide), wr_o (by decide)]; exact h5
  · rw [wr_o (by decide), wr_v, wr_o (by decide), wr_v]
  · rw [wr_v, wr_v]
end SM
