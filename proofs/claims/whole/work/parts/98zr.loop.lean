/-! TEXTS: all lines. -/
def soL (L : List (Nat × Nat)) (j : Nat) : Nat := ((L[j]?).getD (0, 0)).1
theorem soL_of {L : List (Nat × Nat)} {j : Nat} {x : Nat × Nat} (h : L[j]? = some x) : soL L j = x.1 := by unfold soL; rw [h]; rfl
theorem soL_app {L M : List (Nat × Nat)} {j : Nat} (h : j < L.length) : soL (L ++ M) j = soL L j := by unfold soL; rw [List.getElem?_append_left h]
theorem tyR_cg {so so' : Nat → Nat} : ∀ (m i : Nat) (T : List Bool), (∀ j, i ≤ j → j < i + m → so j = so' j) → tyR so m i T = tyR so' m i T
  | 0, _, _, _ => rfl
  | m + 1, i, T, h => by
    show (tyS (so i) T).bind (tyR so m (i + 1)) = (tyS (so' i) T).bind (tyR so' m (i + 1))
    rw [h i (Nat.le_refl _) (by omega)]
    cases tyS (so' i) T with
    | none => rfl
    | some T' => exact tyR_cg m (i + 1) T' (fun j h1 h2 => h j (by omega) (by omega))
/-- the lines so far -/
def Lns (a B : Nat) (law : Bool) (L : List (Nat × Nat)) (l : Nat) (ss : Nat → Nat) (s r : Sig) : Prop := ss 0 = 0 ∧ ss l = L.length ∧ (∀ j, j ≤ l → s (a + 2) j = nI (ss j)) ∧ ∀ j, j < l → ss j ≤ ss (j + 1) ∧ ss (j + 1) ≤ L.length ∧ r (B + 4) (4 * j + 2) = nI (ss j) ∧ r (B + 4) (4 * j + 3) = nI (ss (j + 1)) ∧ (ss j = ss (j + 1) ∨ tyR (soL L) (ss (j + 1) - ss j) (ss j) [] = some [true]) ∧ Bids law (r (B + 4) (4 * j)) (r (B + 4) (4 * j + 1)) (s (a + 3) j)
theorem Lns.app {a B : Nat} {law : Bool} {L M : List (Nat × Nat)} {l : Nat} {ss : Nat → Nat} {s r s' r' : Sig} {x2 w q : Int32} (h : Lns a B law L l ss s r) (e3 : s' (a + 3) = upd (s (a + 3)) l x2) (e2 : s' (a + 2) = upd (s (a + 2)) (l + 1) (nI (L ++ M).length)) (e4 : r' (B + 4) = upd (upd (upd (upd (r (B + 4)) (4 * l) w) (4 * l + 1) q) (4 * l + 2) (nI L.length)) (4 * l + 3) (nI (L ++ M).length)) (hd : Bids law w q x2) (ht : M = [] ∨ tyL M [] = some [true]) : Lns a B law (L ++ M) (l + 1) (fun j => if j ≤ l then ss j else (L ++ M).length) s' r' := by
  obtain ⟨h0, hl, h2, h5⟩ := h
  refine ⟨?_, ?_, fun j hj => ?_, fun j hj => ?_⟩
  · dsimp only; rw [if_pos (Nat.zero_le _)]; exact h0
  · dsimp only; rw [if_neg (by omega)]
  · dsimp only
    rw [e2]
    by_cases c : j ≤ l
    · rw [if_pos c, upd_ne (by omega)]; exact h2 j c
    · obtain rfl : j = l + 1 := by omega
      rw [if_neg c, upd_eq]
  · dsimp only
    rw [e3, e4, if_pos (show j ≤ l by omega)]
    rcases Nat.lt_or_ge j l with c | c
    · obtain ⟨g1, g2, g3, g4, g5, g6⟩ := h5 j c
      rw [if_pos (show j + 1 ≤ l by omega), upd_ne (by omega), upd_ne (by omega), upd_ne (by omega), upd_ne (by omega), upd_ne (by omega), upd_ne (by omega), upd_ne (by omega), upd_ne (by omega), upd_ne (by omega), upd_ne (by omega), upd_ne (by omega), upd_ne (by omega), upd_ne (by omega), upd_ne (by omega), upd_ne (by omega), upd_ne (by omega), upd_ne (by omega)]
      refine ⟨g1, by rw [List.length_append]; omega, g3, g4, ?_, g6⟩
      rcases g5 with g5 | g5
      · exact Or.inl g5
      · exact Or.inr (by rw [tyR_cg _ _ _ (fun k k1 k2 => soL_app (M := M) (by omega))]; exact g5)
    · obtain rfl : j = l := by omega
      rw [if_neg (show ¬ j + 1 ≤ j by omega), upd_eq, upd_eq, upd_ne (show 4 * j + 2 ≠ 4 * j + 3 by omega), upd_eq, upd_ne (show 4 * j ≠ 4 * j + 3 by omega), upd_ne (show 4 * j ≠ 4 * j + 2 by omega), upd_ne (show 4 * j ≠ 4 * j + 1 by omega), upd_eq, upd_ne (show 4 * j + 1 ≠ 4 * j + 3 by omega), upd_ne (show 4 * j + 1 ≠ 4 * j + 2 by omega), upd_eq, hl]
      refine ⟨by rw [List.length_append]; omega, Nat.le_refl _, rfl, rfl, ?_, hd⟩
      rcases ht with rfl | ht
      · exact Or.inl (by rw [List.append_nil])
      · refine Or.inr ?_
        rw [List.length_append, Nat.add_sub_cancel_left, tyR_L M _ [] (fun k x hk => soL_of (by rw [List.getElem?_append_right (by omega), Nat.add_sub_cancel_left]; exact hk))]
        exact ht
/-- the class's loop over the lines -/
def rdL (a : Nat) : Nat → Int32 → Sig → Option Sig
  | 0, _, _ => none
  | fu + 1, x3, s => if 400 ≤ x3 then some s else (if s a 0 = 0 then ((ld 401 (s (a + 4)) (s a 12)).bind fun v => if v = 0 then some s else ((X5_readLine_f a s).bind fun s' => rdL a fu (x3 + 1) s')) else some s)
theorem rd_b31 {a T : Nat} {τ : Tau} (hS : ShX5 τ a) (nx : Nat) : ∀ (fu : Nat) (x3 : Int32) (s : Sig), X5_read_b31 a T fu x3 τ s nx = (rdL a fu x3 s).bind fun s' => X5_read_b67 a T τ s' nx
  | 0, _, _ => rfl
  | fu + 1, x3, s => by
    have e : ∀ v, ldD τ s (a + 4) v = ld 401 (s (a + 4)) v := fun v => by unfold ldD; rw [hS.2.2.2.2.1]
    show (if 400 ≤ x3 then (X5_read_b67 a T τ s nx) else ((gI τ s 5 a 0).bind fun v2 => if v2 = 0 then ((gRs τ 5 a 8).bind fun b5 => (gI τ s 5 a 12).bind fun v7 => (ldD τ s b5 v7).bind fun v9 => if v9 = 0 then (X5_read_b67 a T τ s nx) else (chk (ShX5 τ a) ((X5_readLine_f a s).bind fun s13 => X5_read_b31 a T fu (x3 + 1) τ s13 nx))) else (X5_read_b67 a T τ s nx))) = (if 400 ≤ x3 then some s else (if s a 0 = 0 then ((ld 401 (s (a + 4)) (s a 12)).bind fun v => if v = 0 then some s else ((X5_readLine_f a s).bind fun s' => rdL a fu (x3 + 1) s')) else some s)).bind fun s' => X5_read_b67 a T τ s' nx
    rw [gI_of hS.1 rfl, bsm, gRs_of hS.1 rfl, bsm, gI_of hS.1 rfl, bsm, e, chk_yes hS]
    by_cases c : 400 ≤ x3
    · rw [if_pos c, if_pos c, bsm]
    rw [if_neg c, if_neg c]
    by_cases c0 : s a 0 = 0
    · rw [if_pos c0, if_pos c0]
      cases ld 401 (s (a + 4)) (s a 12) with
      | none => rfl
      | some v =>
        rw [bsm, bsm]
        by_cases cv : v = 0
        · rw [if_pos cv, if_pos cv, bsm]
        · rw [if_neg cv, if_neg cv]
          cases X5_readLine_f a s with
          | none => rfl
          | some s1 => rw [bsm, bsm]; exact rd_b31 hS nx fu (x3 + 1) s1
    · rw [if_neg c0, if_neg c0, bsm]
/-- what may have changed of the reference when all lines are read -/
def Fq3 (B : Nat) (r r' : Sig) : Prop := (∀ x, x ≠ B → x ≠ B + 4 → x ≠ B + 5 → r' x = r x) ∧ ∀ j, j < 9 ∨ j = 9 ∨ j = 12 ∨ j = 19 ∨ 21 ≤ j → r' B j = r B j
theorem Fq2.up {B : Nat} {r r' : Sig} (h : Fq2 B r r') : Fq3 B r r' := ⟨h.1, fun j hj => h.2 j (by omega) (by omega) (by omega) (by omega) (by omega) (by omega) (by omega) (by omega)⟩
theorem Fq3.tr {B : Nat} {r r' r'' : Sig} (h : Fq3 B r r') (h' : Fq3 B r' r'') : Fq3 B r r'' := ⟨fun x h1 h2 h3 => (h'.1 x h1 h2 h3).trans (h.1 x h1 h2 h3), fun j hj => (h'.2 j hj).trans (h.2 j hj)⟩
theorem Fq3.rfl {B : Nat} {r : Sig} : Fq3 B r r := ⟨fun _ _ _ _ => Eq.refl _, fun _ _ => Eq.refl _⟩
theorem Fc2.rfl {a : Nat} {s : Sig} : Fc2 a s s := ⟨fun _ _ => Eq.refl _, fun _ _ _ _ _ _ => Eq.refl _, Eq.refl _⟩
section LP
variable {a B : Nat} {t : Nat → Int32} {len : Nat} {law : Bool} {n : Nat}
theorem Rl.f10 {i d : Nat} {L : List (Nat × Nat)} {s r : Sig} (h : Rl a B t len law n i L d s r) (v : Int32) : Rl a B t len law n i L d s (wr r B 10 v) := by
  obtain ⟨hS, ⟨g1, g2, g3, g4, g5⟩, h1, h3, h4, h5, h6, h7, h8, h9, h10, h11, h12, h13, h14⟩ := h
  exact ⟨hS, ⟨g1, by rw [wr_o (by decide)]; exact g2, by rw [wr_o (by decide)]; exact g3, by rw [wr_row (by omega)]; exact g4, g5⟩, h1, h3, h4, h5, by rw [wr_o (by decide)]; exact h6, by rw [wr_o (by decide)]; exact h7, by rw [wr_o (by decide)]; exact h8, by rw [wr_o (by decide)]; exact h9, by rw [wr_o (by decide)]; exact h10, by rw [wr_o (by decide)]; exact h11, by rw [wr_row (by omega)]; exact h12, h13, by rw [wr_o (by decide)]; exact h14⟩
/-- how it ends -/
def Rend (a B : Nat) (t : Nat → Int32) (len : Nat) (law : Bool) (n : Nat) (s' : Sig) (v : Int32) (r' : Sig) : Prop := (v = 1 ∧ ∃ (l i : Nat) (L : List (Nat × Nat)) (d : Nat) (ss : Nat → Nat), l ≤ 16 ∧ Rl a B t len law n i L d s' r' ∧ L.length ≤ i ∧ s' a 3 = nI l ∧ r' B 10 = nI l ∧ Lns a B law L l ss s' r') ∨ (v = 0 ∧ Bd a B t len law n s' r')
theorem kr_0 : ∀ law : Bool, ∀ kc, kc < 115 → kDom law kc = true → (kr law kc = 0 ↔ kc = 0) := by decide +kernel
theorem rd_sim {x1 : Int32} : ∀ (m l i : Nat) (L : List (Nat × Nat)) (d : Nat) (ss : Nat → Nat) (s r : Sig) (f1 f2 : Nat), 17 - l ≤ m → l ≤ 16 → m < f1 → m < f2 → Rl a B t len law n i L d s r → L.length ≤ i → s a 3 = nI l → r B 10 = nI l → Lns a B law L l ss s r → ∃ (s' : Sig) (v : Int32) (r' : Sig), rdL a f1 (nI l) s = some s' ∧ X12_text_b57 B f2 x1 1 r = X12_text_b94 B x1 v r' ∧ Fc2 a s s' ∧ Fq3 B r r' ∧ Rend a B t len law n s' v r'
  | 0, l, i, L, d, ss, s, r, f1, f2, hm, hl, _, _, h, _, _, _, _ => absurd hm (by omega)
  | m + 1, l, i, L, d, ss, s, r, 0, f2, _, _, hf1, _, _, _, _, _, _ => absurd hf1 (by omega)
  | m + 1, l, i, L, d, ss, s, r, f1 + 1, 0, _, _, _, hf2, _, _, _, _, _ => absurd hf2 (by omega)
  | m + 1, l, i, L, d, ss, s, r, f1 + 1, 1, _, _, _, hf2, _, _, _, _, _ => absurd hf2 (by omega)
  | m + 1, l, i, L, d, ss, s, r, f1 + 1, f2 + 2, hm, hl, hf1, hf2, h, hL, h3, h10, hN => by
    obtain ⟨kd, kl⟩ := tK_dom (t := t) (len := len) (law := law) i
    have k200 := (kr_tab law _ kl kd).1
    have h0 : s a 0 = 0 := h.2.2.2.1
    have h14 : r B 14 = nI (kr law (tK t len law i)) := h.2.2.2.2.2.2.2.1
    have e14 : r B 14 = 0 ↔ tK t len law i = 0 := by
      rw [h14, ← kr_0 law _ kl kd]; exact nI_eq (b := 0) (by omega) (by decide)
    have ek : nI (tK t len law i) = 0 ↔ tK t len law i = 0 := nI_eq (b := 0) (by omega) (by decide)
    have q1 : rdL a (f1 + 1) (nI l) s = if nI (tK t len law i) = 0 then some s else ((X5_readLine_f a s).bind fun s' => rdL a f1 (nI l + 1) s') := by
      show (if 400 ≤ nI l then some s else (if s a 0 = 0 then ((ld 401 (s (a + 4)) (s a 12)).bind fun v => if v = 0 then some s else ((X5_readLine_f a s).bind fun s' => rdL a f1 (nI l + 1) s')) else some s)) = _
      rw [if_neg (show ¬ (400 : Int32) ≤ nI l from nI_ge (b := 400) (by omega) (by decide)), if_pos h0, h.kd, bsm]
    have q2 : X12_text_b57 B (f2 + 2) x1 1 r = if r B 14 = 0 then X12_text_b94 B x1 1 r else ((X12_aLine_f B r).bind fun ⟨v3, s4⟩ => if v3 = 0 then (X12_text_b87 B (X12_text_b57 B (f2 + 1)) x1 v3 0 (s4 B 10) s4) else (X12_text_b87 B (X12_text_b57 B (f2 + 1)) x1 v3 1 (s4 B 10) s4)) := by
      show (if (1 : Int32) = 0 then _ else _) = _
      rw [if_neg n10]
    rw [q1, q2]
    by_cases c : tK t len law i = 0
    · rw [if_pos (ek.mpr c), if_pos (e14.mpr c)]
      exact ⟨s, 1, r, rfl, rfl, Fc2.rfl, Fq3.rfl, Or.inl ⟨rfl, l, i, L, d, ss, hl, h, hL, h3, h10, hN⟩⟩
    · obtain ⟨s1, v, r1, z1, z2, z3, z4, z5⟩ := h.line hL h3 h10 hl
      have r10 : r1 B 10 = nI l := by rw [z4.2 10 (by decide) (by decide) (by decide) (by decide) (by decide) (by decide) (by decide) (by decide)]; exact h10
      rw [if_neg (fun z => c (ek.mp z)), if_neg (fun z => c (e14.mp z)), z1, bsm, z2, bsm]
      dsimp only
      have fw : ∀ v : Int32, Fq3 B r1 (wr r1 B 10 v) := fun v => ⟨fun x e1 _ _ => wr_row e1, fun j hj => wr_o (by omega)⟩
      rcases z5 with ⟨rfl, hl16, i', M, x2, w, q, g1, g2, g3, g4, g5, g6, g7, g8, g9⟩ | ⟨rfl, z5⟩
      · rw [if_neg n10]
        unfold X12_text_b87 pI
        rw [bsm, r10, nI_s]
        have hN' := hN.app g6 g7 g8 g9 g3
        obtain ⟨s2, v2, r2, y1, y2, y3, y4, y5⟩ := rd_sim m (l + 1) i' (L ++ M) 0 _ s1 (wr r1 B 10 (nI (l + 1))) f1 (f2 + 1) (by omega) (by omega) (by omega) (by omega) (g4.f10 _) g2 g5 wr_v (show Lns a B law (L ++ M) (l + 1) (fun j => if j ≤ l then ss j else (L ++ M).length) s1 (wr r1 B 10 (nI (l + 1))) by
          unfold Lns at hN' ⊢
          rw [wr_row (by omega)]; exact hN')
        rw [y1, y2]
        exact ⟨s2, v2, r2, rfl, rfl, z3.tr y3, (z4.up.tr (fw _)).tr y4, y5⟩
      · rw [if_pos rfl]
        unfold X12_text_b87 pI
        rw [bsm, r10]
        have e : (nI l + 0 : Int32) = nI l := nI_add l 0
        have q3 : X12_text_b57 B (f2 + 1) x1 0 (wr r1 B 10 (nI l + 0)) = X12_text_b94 B x1 0 (wr r1 B 10 (nI l + 0)) := by
          show (if (0 : Int32) = 0 then _ else _) = _
          rw [if_pos rfl]
        have q4 : rdL a f1 (nI l + 1) s1 = some s1 := by
          obtain ⟨f, rfl⟩ : ∃ f, f1 = f + 1 := ⟨f1 - 1, by omega⟩
          show (if 400 ≤ nI l + 1 then some s1 else (if s1 a 0 = 0 then _ else some s1)) = _
          rw [if_neg z5.1.2.1]
          split <;> rfl
        rw [q3, q4]
        refine ⟨s1, 0, _, rfl, rfl, z3, z4.up.tr (fw _), Or.inr ⟨rfl, z5.1, ?_, ?_⟩⟩
        · rw [wr_o (by decide)]; exact z5.2.1
        · rw [wr_o (by decide)]; exact z5.2.2
end LP
