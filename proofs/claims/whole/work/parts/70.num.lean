/-! THE PURE LEVEL: numbers and rows. -/
theorem ldn {N : Nat} {f : Nat → Int32} {j : Nat} (hj : j < N) (hN : N < 2 ^ 31) : ld N f (nI j) = some (f j) := by
  have h1 : (nI j).toNatClampNeg = j := nI_clamp (by omega)
  unfold ld
  rw [if_neg (by rw [h1]; exact fun q => q.elim (fun z => nI_pos (n := j) (by omega) z) (fun z => by omega)), h1]
theorem stn {N : Nat} {σ : Sig} {a j : Nat} {v : Int32} (hj : j < N) (hN : N < 2 ^ 31) : st N σ a (nI j) v = some (wr σ a j v) := by
  have h1 : (nI j).toNatClampNeg = j := nI_clamp (by omega)
  unfold st
  rw [if_neg (by rw [h1]; exact fun q => q.elim (fun z => nI_pos (n := j) (by omega) z) (fun z => by omega)), h1]
/-- an int is below 0, or not below n, or a number below n -/
theorem tri (x : Int32) {n : Nat} (hn : n < 2 ^ 31) : x < 0 ∨ (¬ x < 0 ∧ nI n ≤ x) ∨ (∃ j, j < n ∧ x = nI j) := by
  rcases pk_ix x hn with h | h | h
  · exact Or.inl h
  · by_cases h0 : x < 0
    · exact Or.inl h0
    · exact Or.inr (Or.inl ⟨h0, h⟩)
  · exact Or.inr (Or.inr h)
theorem nI_nn {j : Nat} (h : j < 2 ^ 31) : ¬ nI j < 0 := nI_pos h
theorem nI_0le {j : Nat} (h : j < 2 ^ 31) : (0 : Int32) ≤ nI j := nI_pos' h
theorem ne_m1 {j : Nat} (h : j < 2 ^ 31) : ¬ nI j = -1 := fun e => nI_pos h (by rw [e]; decide)
/-- rows -/
def sr (σ : Sig) (a : Nat) (f : Nat → Int32) : Sig := fun b => if b = a then f else σ b
theorem wr_sr (σ : Sig) (a k : Nat) (v : Int32) : wr σ a k v = sr σ a (upd (σ a) k v) := by
  funext b j
  by_cases h : b = a
  · subst h; simp [wr, sr, upd]
  · simp [wr, sr, h]
theorem sr_eq (σ : Sig) (a : Nat) (f : Nat → Int32) : sr σ a f a = f := by simp [sr]
theorem sr_ne {σ : Sig} {a b : Nat} {f : Nat → Int32} (h : b ≠ a) : sr σ a f b = σ b := by simp [sr, h]
theorem sr_sr (σ : Sig) (a : Nat) (f g : Nat → Int32) : sr (sr σ a f) a g = sr σ a g := by
  funext b; by_cases h : b = a <;> simp [sr, h]
theorem sr_id (σ : Sig) (a : Nat) : sr σ a (σ a) = σ := by
  funext b; by_cases h : b = a <;> simp [sr, h]
/-- nothing but these rows has changed -/
def Fr (l : List Nat) (σ σ' : Sig) : Prop := ∀ b, b ∉ l → σ' b = σ b
theorem Fr.rf {l : List Nat} {σ : Sig} : Fr l σ σ := fun _ _ => rfl
theorem Fr.tr {l : List Nat} {σ σ' σ'' : Sig} (h1 : Fr l σ σ') (h2 : Fr l σ' σ'') : Fr l σ σ'' := fun b hb => (h2 b hb).trans (h1 b hb)
theorem Fr.mono {l l' : List Nat} {σ σ' : Sig} (h : Fr l σ σ') (hl : ∀ b ∈ l, b ∈ l') : Fr l' σ σ' := fun b hb => h b (fun q => hb (hl b q))
theorem Fr.sr {l : List Nat} {σ : Sig} {a : Nat} {f : Nat → Int32} (h : a ∈ l) : Fr l σ (sr σ a f) := fun b hb => sr_ne (fun e => hb (by rw [e]; exact h))
theorem Fr.wr {l : List Nat} {σ : Sig} {a k : Nat} {v : Int32} (h : a ∈ l) : Fr l σ (wr σ a k v) := by rw [wr_sr]; exact Fr.sr h
theorem upd_eq (f : Nat → Int32) (k : Nat) (v : Int32) : upd f k v k = v := by simp [upd]
theorem upd_ne {f : Nat → Int32} {k j : Nat} {v : Int32} (h : j ≠ k) : upd f k v j = f j := by simp [upd, h]
/-! THE REFERENCE's own words over its row w = σ (B + 1). -/
section RE
variable {B : Nat} {σ : Sig}
theorem re_own {p f : Nat} (hp : p < 12) (hf : f < 8) : X12_own_f B (nI p) (nI f) σ = some (σ (B + 1) (90 + 8 * p + f)) := by
  unfold X12_own_f
  have e : (90 + 8 * nI p + nI f : Int32) = nI (90 + 8 * p + f) := by
    rw [show (90 : Int32) = nI 90 from rfl, show (8 : Int32) = nI 8 from rfl, pk_mul, nI_add, nI_add]
  rw [e, ldn (by omega) (by decide)]; rfl
theorem re_debtOf {d f : Nat} (hd : d < 40) (hf : f < 8) : X12_debtOf_f B (nI d) (nI f) σ = some (σ (B + 1) (230 + 8 * d + f)) := by
  unfold X12_debtOf_f
  have e : (230 + 8 * nI d + nI f : Int32) = nI (230 + 8 * d + f) := by
    rw [show (230 : Int32) = nI 230 from rfl, show (8 : Int32) = nI 8 from rfl, pk_mul, nI_add, nI_add]
  rw [e, ldn (by omega) (by decide)]; rfl
theorem re_gives {p f : Nat} {v : Int32} (hp : p < 12) (hf : f < 8) : X12_gives_f B (nI p) (nI f) v σ = some (wr σ (B + 1) (90 + 8 * p + f) v) := by
  unfold X12_gives_f
  have e : (90 + 8 * nI p + nI f : Int32) = nI (90 + 8 * p + f) := by
    rw [show (90 : Int32) = nI 90 from rfl, show (8 : Int32) = nI 8 from rfl, pk_mul, nI_add, nI_add]
  rw [e, stn (by omega) (by decide)]; rfl
theorem re_lays {d f : Nat} {v : Int32} (hd : d < 40) (hf : f < 8) : X12_lays0_f B (nI d) (nI f) v σ = some (wr σ (B + 1) (230 + 8 * d + f) v) := by
  unfold X12_lays0_f
  have e : (230 + 8 * nI d + nI f : Int32) = nI (230 + 8 * d + f) := by
    rw [show (230 : Int32) = nI 230 from rfl, show (8 : Int32) = nI 8 from rfl, pk_mul, nI_add, nI_add]
  rw [e, stn (by omega) (by decide)]; rfl
theorem re_w {j : Nat} (hj : j < 20240) : ld 20240 (σ (B + 1)) (nI j) = some (σ (B + 1) j) := ldn hj (by decide)
/-- isIn -/
theorem re_isIn_in {x lo hi : Int32} (h1 : lo ≤ x) (h2 : x ≤ hi) : X12_isIn_f x lo hi σ = some 1 := by
  unfold X12_isIn_f
  rw [if_neg (Int32.not_lt.mpr h1), if_neg (Int32.not_lt.mpr h2)]
theorem re_isIn_out {x lo hi : Int32} (h : x < lo ∨ hi < x) : X12_isIn_f x lo hi σ = some 0 := by
  unfold X12_isIn_f
  by_cases h1 : x < lo
  · rw [if_pos h1]
  · rw [if_neg h1, if_pos (h.resolve_left h1)]
theorem cl_isW_in {x lo hi : Int32} (h1 : lo ≤ x) (h2 : x ≤ hi) : X11_isWithin_f x lo hi σ = some 1 := re_isIn_in (σ := σ) h1 h2
theorem cl_isW_out {x lo hi : Int32} (h : x < lo ∨ hi < x) : X11_isWithin_f x lo hi σ = some 0 := re_isIn_out (σ := σ) h
/-- one of n, or none -/
theorem nI_pred_lt {n : Nat} (hn : n < 1000) (x : Int32) : nI n - 1 < x ↔ nI n ≤ x := by
  have e1 : (nI n - nI 1).toInt = (n : Int) - 1 := pk_sub_toInt (by omega) (by omega)
  have e2 : (nI n - 1).toInt = (n : Int) - 1 := e1
  rw [Int32.lt_iff_toInt_lt, Int32.le_iff_toInt_le, e2, nI_toInt (by omega)]
  omega
theorem re_isOne_in {n p : Nat} (hn : n ≤ 12) (hw : σ (B + 1) 9 = nI n) (hp : p < n) : X12_isOne_f B (nI p) σ = some 1 := by
  unfold X12_isOne_f
  rw [show (9 : Int32) = nI 9 from rfl, re_w (by decide)]
  simp only [Option.bind_some, hw]
  rw [re_isIn_in (nI_0le (by omega)) (Int32.not_lt.mp (fun h => absurd ((nI_pred_lt (by omega) _).mp h) (nI_ge hp (by omega))))]
  rfl
theorem re_isOne_out {n : Nat} {x : Int32} (hn : n ≤ 12) (hw : σ (B + 1) 9 = nI n) (hx : ∀ p, p < n → x ≠ nI p) : X12_isOne_f B x σ = some 0 := by
  unfold X12_isOne_f
  rw [show (9 : Int32) = nI 9 from rfl, re_w (by decide)]
  simp only [Option.bind_some, hw]
  have : x < 0 ∨ nI n - 1 < x := by
    rcases tri x (n := n) (by omega) with h | ⟨_, h⟩ | ⟨j, hj, e⟩
    · exact Or.inl h
    · exact Or.inr ((nI_pred_lt (by omega) _).mpr h)
    · exact absurd e (hx j hj)
  rw [re_isIn_out this]
  rfl
theorem re_isDebt_in {n p : Nat} (hn : n ≤ 40) (hw : σ (B + 1) 10 = nI n) (hp : p < n) : X12_isDebt_f B (nI p) σ = some 1 := by
  unfold X12_isDebt_f
  rw [show (10 : Int32) = nI 10 from rfl, re_w (by decide)]
  simp only [Option.bind_some, hw]
  rw [re_isIn_in (nI_0le (by omega)) (Int32.not_lt.mp (fun h => absurd ((nI_pred_lt (by omega) _).mp h) (nI_ge hp (by omega))))]
  rfl
theorem re_isDebt_out {n : Nat} {x : Int32} (hn : n ≤ 40) (hw : σ (B + 1) 10 = nI n) (hx : ∀ p, p < n → x ≠ nI p) : X12_isDebt_f B x σ = some 0 := by
  unfold X12_isDebt_f
  rw [show (10 : Int32) = nI 10 from rfl, re_w (by decide)]
  simp only [Option.bind_some, hw]
  have : x < 0 ∨ nI n - 1 < x := by
    rcases tri x (n := n) (by omega) with h | ⟨_, h⟩ | ⟨j, hj, e⟩
    · exact Or.inl h
    · exact Or.inr ((nI_pred_lt (by omega) _).mpr h)
    · exact absurd e (hx j hj)
  rw [re_isIn_out this]
  rfl
end RE
section CL
variable {P : Nat} {σ : Sig}
theorem has4_in {n p : Nat} (hn : n ≤ 12) (hw : σ P 0 = nI n) (hp : p < n) : X4_has_f P (nI p) σ = some 1 := by
  unfold X4_has_f
  rw [if_neg (nI_nn (by omega)), hw, if_neg (nI_ge hp (by omega))]
theorem has4_out {n : Nat} {x : Int32} (hn : n ≤ 12) (hw : σ P 0 = nI n) (hx : ∀ p, p < n → x ≠ nI p) : X4_has_f P x σ = some 0 := by
  unfold X4_has_f
  rcases tri x (n := n) (by omega) with h | ⟨h0, h⟩ | ⟨j, hj, e⟩
  · rw [if_pos h]
  · rw [if_neg h0, hw, if_pos h]
  · exact absurd e (hx j hj)
theorem has3_in {n p : Nat} (hn : n ≤ 40) (hw : σ P 0 = nI n) (hp : p < n) : X3_has_f P (nI p) σ = some 1 := by
  unfold X3_has_f
  rw [if_neg (nI_nn (by omega)), hw, if_neg (nI_ge hp (by omega))]
theorem has3_out {n : Nat} {x : Int32} (hn : n ≤ 40) (hw : σ P 0 = nI n) (hx : ∀ p, p < n → x ≠ nI p) : X3_has_f P x σ = some 0 := by
  unfold X3_has_f
  rcases tri x (n := n) (by omega) with h | ⟨h0, h⟩ | ⟨j, hj, e⟩
  · rw [if_pos h]
  · rw [if_neg h0, hw, if_pos h]
  · exact absurd e (hx j hj)
theorem oneOf (x : Int32) (n : Nat) : (∃ p, p < n ∧ x = nI p) ∨ ∀ p, p < n → x ≠ nI p := by
  by_cases h : ∃ p, p < n ∧ x = nI p
  · exact Or.inl h
  · exact Or.inr (fun p hp e => h ⟨p, hp, e⟩)
end CL
