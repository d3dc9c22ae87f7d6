theorem re_is {B e q w : Nat} {ρ : Sig} (h13 : ρ B 13 = nI e) (h15 : ρ B 15 = nI q) (hq : q ≤ e) (he : e ≤ 400) (hw : 0 < sl w) : (Mt (ρ (B + 6)) q (e - q) w → X12_is_f B w ρ = some 1) ∧ (¬ Mt (ρ (B + 6)) q (e - q) w → X12_is_f B w ρ = some 0) := by
  have hs := sl_le w
  have b0 : ∀ fu i, X12_is_b24 B w ρ (fu + 1) w 0 i = some 0 := fun fu i => by
    show (if (slen w) ≤ i then _ else _) = _
    split
    · rfl
    · rfl
  have key : ∀ k i fu, i + k = sl w → k < fu → e - q = sl w → (∀ j, j < i → ρ (B + 6) (q + j) = sw w j) → (Mt (ρ (B + 6)) q (e - q) w → X12_is_b24 B w ρ fu w 1 (nI i) = some 1) ∧ (¬ Mt (ρ (B + 6)) q (e - q) w → X12_is_b24 B w ρ fu w 1 (nI i) = some 0) := by
    intro k
    induction k with
    | zero =>
      intro i fu hi hfu hn hm
      obtain rfl : i = sl w := by omega
      obtain ⟨fu, rfl⟩ : ∃ f, fu = f + 1 := ⟨fu - 1, by omega⟩
      refine ⟨fun _ => ?_, fun z => absurd ⟨hn, hm⟩ z⟩
      show (if (slen w) ≤ nI (sl w) then _ else _) = _
      rw [slen_n, if_pos (Int32.le_refl _)]; rfl
    | succ k ih =>
      intro i fu hi hfu hn hm
      obtain ⟨fu, rfl⟩ : ∃ f, fu = f + 1 := ⟨fu - 1, by omega⟩
      have st : X12_is_b24 B w ρ (fu + 1) w 1 (nI i) = if ρ (B + 6) (q + i) = sw w i then X12_is_b24 B w ρ fu w 1 (nI (i + 1)) else X12_is_b24 B w ρ fu w 0 (nI (i + 1)) := by
        show (if (slen w) ≤ nI i then _ else _) = _
        rw [slen_n, if_neg (nI_ge (by omega) (by omega)), if_neg n10, h15, nI_add, ldn (by omega) (by decide), bsm, sch_n (by omega), bsm, nI_s]
      rw [st]
      by_cases c : ρ (B + 6) (q + i) = sw w i
      · rw [if_pos c]
        exact ih (i + 1) fu (by omega) (by omega) hn (fun j hj => by
          by_cases e : j = i
          · rw [e]; exact c
          · exact hm j (by omega))
      · rw [if_neg c]
        obtain ⟨fu, rfl⟩ : ∃ f, fu = f + 1 := ⟨fu - 1, by omega⟩
        exact ⟨fun z => absurd (z.2 i (by omega)) c, fun _ => b0 _ _⟩
  have ed : nI e - nI q = nI (e - q) := pk_sub (by omega)
  unfold X12_is_f
  rw [h13, h15, ed, slen_n]
  have eF : FU = (FU - 1) + 1 := by unfold FU; rfl
  by_cases c : e - q = sl w
  · rw [c, if_pos rfl, ← c]
    exact key (sl w) 0 FU (by omega) (by unfold FU; omega) c (fun j hj => absurd hj (by omega))
  · rw [if_neg (fun z => c (nI_inj (by omega) (by omega) z)), eF]
    exact ⟨fun z => absurd z.1 c, fun _ => b0 _ _⟩
def sameW (w w' : Nat) : Bool := sl w == sl w' && (List.range (sl w)).all fun i => sw w i == sw w' i
theorem sameW_no : ∀ w, w < 21 → 2 ≤ w → ∀ w', w' < 21 → 2 ≤ w' → sameW w w' = true → w = w' := by decide +kernel
theorem Mt.uniq {t : Nat → Int32} {q n w w' : Nat} (h : Mt t q n w) (h' : Mt t q n w') (hw : w < 21) (hw2 : 2 ≤ w) (hw' : w' < 21) (hw2' : 2 ≤ w') : w = w' := by
  refine sameW_no w hw hw2 w' hw' hw2' ?_
  unfold sameW
  have e : sl w = sl w' := h.1.symm.trans h'.1
  rw [Bool.and_eq_true, beq_iff_eq, List.all_eq_true]
  refine ⟨e, fun i hi => ?_⟩
  rw [beq_iff_eq]
  have := List.mem_range.mp hi
  exact (h.2 i this).symm.trans (h'.2 i (by omega))
theorem kwF_cases {t : Nat → Int32} {q n : Nat} : ∀ (l : List (Nat × Nat)) (idx : Nat) (r : Option Nat), kwF t q n l idx r → (∃ i x, l[i]? = some x ∧ r = some (idx + i) ∧ Mt t q n x.2) ∨ (r = none ∧ ∀ x ∈ l, ¬ Mt t q n x.2)
  | [], _, r, h => Or.inr ⟨h, fun x hx => by cases hx⟩
  | x :: l, idx, r, h => by
    obtain ⟨p, w⟩ := x
    unfold kwF at h
    rcases h with ⟨h1, h2⟩ | ⟨h1, h2⟩
    · exact Or.inl ⟨0, (p, w), rfl, h2, h1⟩
    · rcases kwF_cases l (idx + 1) r h2 with ⟨i, x, a1, a2, a3⟩ | ⟨a1, a2⟩
      · exact Or.inl ⟨i + 1, x, a1, by rw [a2]; congr 1; omega, a3⟩
      · refine Or.inr ⟨a1, fun x hx => ?_⟩
        rcases List.mem_cons.mp hx with rfl | hx
        · exact h1
        · exact a2 x hx
def krW (law : Bool) (r : Option Nat) : Nat := match r with | none => 1 | some k => (if law then [3, 4, 5, 6, 20, 41, 42, 43, 44, 45, 46] else [3, 4, 5, 6, 21, 22, 23, 43, 47, 48, 44, 45, 49, 50, 51]).getD (k - 100) 1
/-- what the reference makes of it, if w0 alone is the word -/
def chW (law : Bool) (w0 : Nat) : Nat := if w0 = 2 then 3 else if w0 = 3 then 4 else if w0 = 4 then 5 else if w0 = 5 then 6 else if w0 = 6 then 43 else if w0 = 7 then 44 else if w0 = 8 then 45 else if law then (if w0 = 9 then 20 else if w0 = 10 then 41 else if w0 = 11 then 42 else if w0 = 12 then 46 else 1) else (if w0 = 13 then 21 else if w0 = 14 then 22 else if w0 = 15 then 23 else if w0 = 16 then 47 else if w0 = 17 then 48 else if w0 = 18 then 49 else if w0 = 19 then 50 else if w0 = 20 then 51 else 1)
theorem ch_word {B w0 : Nat} {ρ : Sig} {law : Bool} (hk : 2 ≤ ρ B 9 ↔ law = false) (I : ∀ w, (w = 2 ∨ w = 3 ∨ w = 4 ∨ w = 5 ∨ w = 6 ∨ w = 7 ∨ w = 8 ∨ (law = true ∧ 9 ≤ w ∧ w < 13) ∨ (law = false ∧ 13 ≤ w ∧ w < 21)) → X12_is_f B w ρ = some (if w = w0 then 1 else 0)) : X12_word0_f B ρ = some (nI (chW law w0)) := by
  have S : ∀ {α : Type} (w : Nat) (x y : Option α), (if (if w = w0 then (1 : Int32) else 0) = 0 then x else y) = if w0 = w then y else x := fun w x y => by
    by_cases c : w = w0
    · rw [if_pos c, if_neg n10, if_pos c.symm]
    · rw [if_neg c, if_pos rfl, if_neg (fun z => c z.symm)]
  have N : ∀ (c : Prop) [Decidable c] (x y : Nat), nI (if c then x else y) = if c then nI x else nI y := fun c _ x y => by split <;> rfl
  have O : ∀ (c : Prop) [Decidable c] (x y : Int32), some (if c then x else y) = if c then some x else some y := fun c _ x y => by split <;> rfl
  unfold X12_word0_f
  rw [I 2 (by omega), bsm, I 3 (by omega), bsm, I 4 (by omega), bsm, I 5 (by omega), bsm, I 6 (by omega), bsm, I 7 (by omega), bsm, I 8 (by omega), bsm]
  unfold chW
  simp only [S, N, O]
  cases law with
  | true =>
    have h2 : ¬ 2 ≤ ρ B 9 := fun z => by have := hk.mp z; cases this
    rw [if_neg h2, if_pos rfl]
    unfold X12_lawWord_f
    rw [I 9 (by simp), bsm, I 10 (by simp), bsm, I 11 (by simp), bsm, I 12 (by simp), bsm]
    simp only [S]
    have BB : ∀ x : Option Int32, (x.bind fun v => some v) = x := fun x => by cases x <;> rfl
    rw [BB]
    rfl
  | false =>
    rw [if_pos (hk.mpr rfl), if_neg Bool.false_ne_true]
    unfold X12_ruleWord_f
    rw [I 13 (by simp), bsm, I 14 (by simp), bsm, I 15 (by simp), bsm, I 16 (by simp), bsm, I 17 (by simp), bsm, I 18 (by simp), bsm, I 19 (by simp), bsm, I 20 (by simp), bsm]
    simp only [S]
    have BB : ∀ x : Option Int32, (x.bind fun v => some v) = x := fun x => by cases x <;> rfl
    rw [BB]
    rfl
theorem lawL_all : ∀ w, w < 21 → (w = 2 ∨ w = 3 ∨ w = 4 ∨ w = 5 ∨ w = 6 ∨ w = 7 ∨ w = 8 ∨ (9 ≤ w ∧ w < 13)) → ∃ p, p < 60 ∧ (p, w) ∈ lawL := by decide +kernel
theorem ruleL_all : ∀ w, w < 21 → (w = 2 ∨ w = 3 ∨ w = 4 ∨ w = 5 ∨ w = 6 ∨ w = 7 ∨ w = 8 ∨ (13 ≤ w ∧ w < 21)) → ∃ p, p < 80 ∧ (p, w) ∈ ruleL := by decide +kernel
theorem lawL_n : ∀ i, i < 11 → (lawL.getD i (0, 0)).2 < 21 ∧ 2 ≤ (lawL.getD i (0, 0)).2 ∧ chW true (lawL.getD i (0, 0)).2 = krW true (some (100 + i)) := by decide +kernel
theorem ruleL_n : ∀ i, i < 15 → (ruleL.getD i (0, 0)).2 < 21 ∧ 2 ≤ (ruleL.getD i (0, 0)).2 ∧ chW false (ruleL.getD i (0, 0)).2 = krW false (some (100 + i)) := by decide +kernel
theorem sl_pos : ∀ w, w < 21 → 0 < sl w := by decide +kernel
/-- what a word is, to the reference -/
theorem re_kw {B e q : Nat} {ρ : Sig} {law : Bool} {r : Option Nat} (h13 : ρ B 13 = nI e) (h15 : ρ B 15 = nI q) (hq : q ≤ e) (he : e ≤ 400) (hk : 2 ≤ ρ B 9 ↔ law = false) (hr : kwF (ρ (B + 6)) q (e - q) (if law then lawL else ruleL) 100 r) : X12_word0_f B ρ = some (nI (krW law r)) := by
  have IS : ∀ w, w < 21 → (Mt (ρ (B + 6)) q (e - q) w → X12_is_f B w ρ = some 1) ∧ (¬ Mt (ρ (B + 6)) q (e - q) w → X12_is_f B w ρ = some 0) := fun w hw => re_is h13 h15 hq he (sl_pos w hw)
  have one : ∀ w0, w0 < 21 → 2 ≤ w0 → Mt (ρ (B + 6)) q (e - q) w0 → X12_word0_f B ρ = some (nI (chW law w0)) := fun w0 h1 h2 hm => by
    refine ch_word hk (fun w hw => ?_)
    have hw21 : w < 21 ∧ 2 ≤ w := by omega
    by_cases c : w = w0
    · rw [if_pos c, c]; exact (IS w0 h1).1 hm
    · rw [if_neg c]
      exact (IS w hw21.1).2 (fun z => c (z.uniq hm hw21.1 hw21.2 h1 h2))
  rcases kwF_cases _ _ _ hr with ⟨i, x, a1, a2, a3⟩ | ⟨a1, a2⟩
  · cases law with
    | true =>
      have a1 : lawL[i]? = some x := a1
      have hi : i < 11 := (List.getElem?_eq_some_iff.mp a1).1
      have hx : lawL.getD i (0, 0) = x := by unfold List.getD; rw [a1]; rfl
      obtain ⟨n1, n2, n3⟩ := lawL_n i hi
      rw [hx] at n1 n2 n3
      rw [one x.2 n1 n2 a3, n3, a2]
    | false =>
      have a1 : ruleL[i]? = some x := a1
      have hi : i < 15 := (List.getElem?_eq_some_iff.mp a1).1
      have hx : ruleL.getD i (0, 0) = x := by unfold List.getD; rw [a1]; rfl
      obtain ⟨n1, n2, n3⟩ := ruleL_n i hi
      rw [hx] at n1 n2 n3
      rw [one x.2 n1 n2 a3, n3, a2]
  · rw [a1]
    have := ch_word (B := B) (w0 := 0) (ρ := ρ) hk (fun w hw => by
      have hw21 : w < 21 ∧ 2 ≤ w := by omega
      rw [if_neg (by omega)]
      refine (IS w hw21.1).2 ?_
      cases law with
      | true =>
        obtain ⟨p, -, hp⟩ := lawL_all w hw21.1 (by simp at hw; omega)
        exact a2 (p, w) hp
      | false =>
        obtain ⟨p, -, hp⟩ := ruleL_all w hw21.1 (by simp at hw; omega)
        exact a2 (p, w) hp)
    rw [this]
    cases law <;> rfl
