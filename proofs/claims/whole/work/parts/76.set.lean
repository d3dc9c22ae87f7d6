/-! set. -/
theorem inUp (x : Int32) {m : Nat} (hm : m < 2 ^ 30) : upTo x m ∨ (x < 0 ∨ nI m < x) := by
  rcases tri x (n := m + 1) (by omega) with h | ⟨_, h⟩ | ⟨j, hj, e⟩
  · exact Or.inr (Or.inl h)
  · refine Or.inr (Or.inr ?_)
    rw [Int32.lt_iff_toInt_lt, nI_toInt (by omega)]
    rw [Int32.le_iff_toInt_le, nI_toInt (by omega)] at h
    omega
  · exact Or.inl ⟨j, by omega, e⟩
theorem upTo.le {x : Int32} {m : Nat} (h : upTo x m) (hm : m < 2 ^ 31) : 0 ≤ x ∧ x ≤ nI m := by
  obtain ⟨k, hk, rfl⟩ := h
  exact ⟨nI_0le (by omega), nI_le hk hm⟩
theorem cl_setv {A : Nat} {σ : Sig} {v1 v2 : Int32} {j m : Nat} (hj : 1 ≤ j) (hj7 : j ≤ 7) (e : v1 = nI j) (hm : setMost j = nI m) (hmm : m < 2 ^ 30) : (upTo v2 m → X11_set_f A v1 v2 σ = (X10_change_f (A + 5) 2000 v1 v2 σ).bind fun s => some (1, s)) ∧ ((v2 < 0 ∨ nI m < v2) → X11_set_f A v1 v2 σ = some (0, σ)) := by
  subst e
  have h0 : ¬ nI j = 0 := nI_ne0 hj (by omega)
  have h10 : X11_isWithin_f (nI j) 10 33 σ = some 0 := cl_isW_out (Or.inl (nI_lt (by omega : j < 10) (by decide)))
  have h17 : X11_isWithin_f (nI j) 1 (8 - 1) σ = some 1 := cl_isW_in (nI_le (by omega : 1 ≤ j) (by omega)) (by rw [show (8 - 1 : Int32) = nI 7 from rfl]; exact nI_le (by omega : j ≤ 7) (by decide))
  have hl : ld 8 setMost (nI j) = some (nI m) := by rw [ldn (by omega) (by decide), hm]
  constructor
  · intro hu
    obtain ⟨a, b⟩ := hu.le (by omega)
    unfold X11_set_f
    rw [if_neg h0, h10]
    simp only [Option.bind_some, if_true]
    rw [h17]
    simp only [Option.bind_some]
    rw [if_neg (by decide), hl]
    simp only [Option.bind_some]
    rw [cl_isW_in a b]
    simp only [Option.bind_some]
    rw [if_neg (by decide)]
  · intro hu
    unfold X11_set_f
    rw [if_neg h0, h10]
    simp only [Option.bind_some, if_true]
    rw [h17]
    simp only [Option.bind_some]
    rw [if_neg (by decide), hl]
    simp only [Option.bind_some]
    rw [cl_isW_out hu]
    rfl
theorem st_set0 {A b : Nat} {τ : Tau} {σ : Sig} {nx : Nat} {v1 v2 : Int32} (hI : Inv A b (τ, σ, nx)) {q : Nat × Nat × Nat} (hq : q ∈ scT) (h1 : X11_set_f A v1 v2 σ = some (1, wr σ (A + 5 + q.1) q.2.1 v2)) (h2 : X12_set_f (A + 84) v1 v2 (wr σ (A + 5 + q.1) q.2.1 v2) = some (1, wr (wr σ (A + 5 + q.1) q.2.1 v2) (A + 84 + 1) q.2.2 v2)) (hv : ∀ n nd, Rg (σ (A + 84 + 1)) n nd → okS q.2.2 v2 n) : ∃ (r : Int32) (h1 h2 : Hp), cl_set A v1 v2 (τ, σ, nx) = some (r, h1) ∧ ShX12 h1.1 (A + 84) ∧ re_set (A + 84) v1 v2 h1 = some (r, h2) ∧ Inv A b h2 :=
  ⟨1, (τ, wr σ (A + 5 + q.1) q.2.1 v2, nx), (τ, wr (wr σ (A + 5 + q.1) q.2.1 v2) (A + 84 + 1) q.2.2 v2, nx), by simp [cl_set, h1], hI.s2, by simp [re_set, h2], go_sc hI hq hv⟩
theorem st_setN {A b : Nat} {τ : Tau} {σ : Sig} {nx : Nat} {v1 v2 : Int32} (hI : Inv A b (τ, σ, nx)) (h1 : X11_set_f A v1 v2 σ = some (0, σ)) (h2 : X12_set_f (A + 84) v1 v2 σ = some (0, σ)) : ∃ (r : Int32) (h1 h2 : Hp), cl_set A v1 v2 (τ, σ, nx) = some (r, h1) ∧ ShX12 h1.1 (A + 84) ∧ re_set (A + 84) v1 v2 h1 = some (r, h2) ∧ Inv A b h2 :=
  ⟨0, (τ, σ, nx), (τ, σ, nx), by simp [cl_set, h1], hI.s2, by simp [re_set, h2], hI⟩
theorem st_set_1 {A b : Nat} {τ : Tau} {σ : Sig} {nx : Nat} {v2 : Int32} (hI : Inv A b (τ, σ, nx)) : ∃ (r : Int32) (h1 h2 : Hp), cl_set A 1 v2 (τ, σ, nx) = some (r, h1) ∧ ShX12 h1.1 (A + 84) ∧ re_set (A + 84) 1 v2 h1 = some (r, h2) ∧ Inv A b h2 := by
  have hc := @cl_setv A σ 1 v2 1 99 (by decide) (by decide) rfl (by decide) (by decide)
  rcases inUp v2 (m := 99) (by decide) with hu | hu
  · obtain ⟨a, b⟩ := hu.le (by decide)
    have hin : ∀ s : Sig, X12_isIn_f v2 0 99 s = some 1 := fun s => re_isIn_in a b
    refine st_set0 hI (q := (23, 3, 4)) (by decide) ?_ ?_ (fun n nd _ => by simp [okS])
    · rw [hc.1 hu]
      simp (decide := true) only [X10_change_f, pI, if_true, if_false, Option.bind_some, ite_true, ite_false, or_true, true_or]
    · have t2 : st 20240 (wr σ (A + 5 + 23) 3 v2) (A + 84 + 1) 4 v2 = some (wr (wr σ (A + 5 + 23) 3 v2) (A + 84 + 1) 4 v2) := stn (j := 4) (by decide) (by decide)
      unfold X12_set_f
      rw [show X12_isIn_f 1 10 33 (wr σ (A + 5 + 23) 3 v2) = some 0 from rfl]
      simp (decide := true) only [hin, X12_set_b143, t2, if_true, if_false, Option.bind_some, ite_true, ite_false, or_true, true_or]
  · have hout : ∀ s : Sig, X12_isIn_f v2 0 99 s = some 0 := fun s => re_isIn_out hu
    refine st_setN hI (hc.2 hu) ?_
    unfold X12_set_f
    rw [show X12_isIn_f 1 10 33 σ = some 0 from rfl]
    simp (decide := true) only [hout, if_true, if_false, Option.bind_some, ite_true, ite_false, or_true, true_or]
theorem st_set_2 {A b : Nat} {τ : Tau} {σ : Sig} {nx : Nat} {v2 : Int32} (hI : Inv A b (τ, σ, nx)) : ∃ (r : Int32) (h1 h2 : Hp), cl_set A 2 v2 (τ, σ, nx) = some (r, h1) ∧ ShX12 h1.1 (A + 84) ∧ re_set (A + 84) 2 v2 h1 = some (r, h2) ∧ Inv A b h2 := by
  have hc := @cl_setv A σ 2 v2 2 1000 (by decide) (by decide) rfl (by decide) (by decide)
  rcases inUp v2 (m := 1000) (by decide) with hu | hu
  · obtain ⟨a, b⟩ := hu.le (by decide)
    have hin : ∀ s : Sig, X12_isIn_f v2 0 1000 s = some 1 := fun s => re_isIn_in a b
    refine st_set0 hI (q := (23, 4, 5)) (by decide) ?_ ?_ (fun n nd _ => by simpa [okS] using hu)
    · rw [hc.1 hu]
      simp (decide := true) only [X10_change_f, pI, if_true, if_false, Option.bind_some, ite_true, ite_false, or_true, true_or]
    · have t2 : st 20240 (wr σ (A + 5 + 23) 4 v2) (A + 84 + 1) 5 v2 = some (wr (wr σ (A + 5 + 23) 4 v2) (A + 84 + 1) 5 v2) := stn (j := 5) (by decide) (by decide)
      unfold X12_set_f
      rw [show X12_isIn_f 2 10 33 (wr σ (A + 5 + 23) 4 v2) = some 0 from rfl]
      simp (decide := true) only [hin, X12_set_b143, t2, if_true, if_false, Option.bind_some, ite_true, ite_false, or_true, true_or]
  · have hout : ∀ s : Sig, X12_isIn_f v2 0 1000 s = some 0 := fun s => re_isIn_out hu
    refine st_setN hI (hc.2 hu) ?_
    unfold X12_set_f
    rw [show X12_isIn_f 2 10 33 σ = some 0 from rfl]
    simp (decide := true) only [hout, if_true, if_false, Option.bind_some, ite_true, ite_false, or_true, true_or]
theorem st_set_3 {A b : Nat} {τ : Tau} {σ : Sig} {nx : Nat} {v2 : Int32} (hI : Inv A b (τ, σ, nx)) : ∃ (r : Int32) (h1 h2 : Hp), cl_set A 3 v2 (τ, σ, nx) = some (r, h1) ∧ ShX12 h1.1 (A + 84) ∧ re_set (A + 84) 3 v2 h1 = some (r, h2) ∧ Inv A b h2 := by
  have hc := @cl_setv A σ 3 v2 3 2 (by decide) (by decide) rfl (by decide) (by decide)
  rcases inUp v2 (m := 2) (by decide) with hu | hu
  · obtain ⟨a, b⟩ := hu.le (by decide)
    have hin : ∀ s : Sig, X12_isIn_f v2 0 2 s = some 1 := fun s => re_isIn_in a b
    refine st_set0 hI (q := (23, 5, 6)) (by decide) ?_ ?_ (fun n nd _ => by simpa [okS] using hu)
    · rw [hc.1 hu]
      simp (decide := true) only [X10_change_f, pI, if_true, if_false, Option.bind_some, ite_true, ite_false, or_true, true_or]
    · have t2 : st 20240 (wr σ (A + 5 + 23) 5 v2) (A + 84 + 1) 6 v2 = some (wr (wr σ (A + 5 + 23) 5 v2) (A + 84 + 1) 6 v2) := stn (j := 6) (by decide) (by decide)
      unfold X12_set_f
      rw [show X12_isIn_f 3 10 33 (wr σ (A + 5 + 23) 5 v2) = some 0 from rfl]
      simp (decide := true) only [hin, X12_set_b143, t2, if_true, if_false, Option.bind_some, ite_true, ite_false, or_true, true_or]
  · have hout : ∀ s : Sig, X12_isIn_f v2 0 2 s = some 0 := fun s => re_isIn_out hu
    refine st_setN hI (hc.2 hu) ?_
    unfold X12_set_f
    rw [show X12_isIn_f 3 10 33 σ = some 0 from rfl]
    simp (decide := true) only [hout, if_true, if_false, Option.bind_some, ite_true, ite_false, or_true, true_or]
theorem st_set_4 {A b : Nat} {τ : Tau} {σ : Sig} {nx : Nat} {v2 : Int32} (hI : Inv A b (τ, σ, nx)) : ∃ (r : Int32) (h1 h2 : Hp), cl_set A 4 v2 (τ, σ, nx) = some (r, h1) ∧ ShX12 h1.1 (A + 84) ∧ re_set (A + 84) 4 v2 h1 = some (r, h2) ∧ Inv A b h2 := by
  have hc := @cl_setv A σ 4 v2 4 99 (by decide) (by decide) rfl (by decide) (by decide)
  rcases inUp v2 (m := 99) (by decide) with hu | hu
  · obtain ⟨a, b⟩ := hu.le (by decide)
    have hin : ∀ s : Sig, X12_isIn_f v2 0 99 s = some 1 := fun s => re_isIn_in a b
    refine st_set0 hI (q := (26, 3, 7)) (by decide) ?_ ?_ (fun n nd _ => by simpa [okS] using hu)
    · rw [hc.1 hu]
      simp (decide := true) only [X10_change_f, pI, if_true, if_false, Option.bind_some, ite_true, ite_false, or_true, true_or]
    · have t2 : st 20240 (wr σ (A + 5 + 26) 3 v2) (A + 84 + 1) 7 v2 = some (wr (wr σ (A + 5 + 26) 3 v2) (A + 84 + 1) 7 v2) := stn (j := 7) (by decide) (by decide)
      unfold X12_set_f
      rw [show X12_isIn_f 4 10 33 (wr σ (A + 5 + 26) 3 v2) = some 0 from rfl]
      simp (decide := true) only [hin, X12_set_b143, t2, if_true, if_false, Option.bind_some, ite_true, ite_false, or_true, true_or]
  · have hout : ∀ s : Sig, X12_isIn_f v2 0 99 s = some 0 := fun s => re_isIn_out hu
    refine st_setN hI (hc.2 hu) ?_
    unfold X12_set_f
    rw [show X12_isIn_f 4 10 33 σ = some 0 from rfl]
    simp (decide := true) only [hout, if_true, if_false, Option.bind_some, ite_true, ite_false, or_true, true_or]
theorem st_set_5 {A b : Nat} {τ : Tau} {σ : Sig} {nx : Nat} {v2 : Int32} (hI : Inv A b (τ, σ, nx)) : ∃ (r : Int32) (h1 h2 : Hp), cl_set A 5 v2 (τ, σ, nx) = some (r, h1) ∧ ShX12 h1.1 (A + 84) ∧ re_set (A + 84) 5 v2 h1 = some (r, h2) ∧ Inv A b h2 := by
  have hc := @cl_setv A σ 5 v2 5 1 (by decide) (by decide) rfl (by decide) (by decide)
  rcases inUp v2 (m := 1) (by decide) with hu | hu
  · obtain ⟨a, b⟩ := hu.le (by decide)
    have hin : ∀ s : Sig, X12_isIn_f v2 0 1 s = some 1 := fun s => re_isIn_in a b
    refine st_set0 hI (q := (23, 6, 8)) (by decide) ?_ ?_ (fun n nd _ => by simpa [okS] using hu)
    · rw [hc.1 hu]
      simp (decide := true) only [X10_change_f, pI, if_true, if_false, Option.bind_some, ite_true, ite_false, or_true, true_or]
    · have t2 : st 20240 (wr σ (A + 5 + 23) 6 v2) (A + 84 + 1) 8 v2 = some (wr (wr σ (A + 5 + 23) 6 v2) (A + 84 + 1) 8 v2) := stn (j := 8) (by decide) (by decide)
      unfold X12_set_f
      rw [show X12_isIn_f 5 10 33 (wr σ (A + 5 + 23) 6 v2) = some 0 from rfl]
      simp (decide := true) only [hin, X12_set_b143, t2, if_true, if_false, Option.bind_some, ite_true, ite_false, or_true, true_or]
  · have hout : ∀ s : Sig, X12_isIn_f v2 0 1 s = some 0 := fun s => re_isIn_out hu
    refine st_setN hI (hc.2 hu) ?_
    unfold X12_set_f
    rw [show X12_isIn_f 5 10 33 σ = some 0 from rfl]
    simp (decide := true) only [hout, if_true, if_false, Option.bind_some, ite_true, ite_false, or_true, true_or]
theorem st_set_6 {A b : Nat} {τ : Tau} {σ : Sig} {nx : Nat} {v2 : Int32} (hI : Inv A b (τ, σ, nx)) : ∃ (r : Int32) (h1 h2 : Hp), cl_set A 6 v2 (τ, σ, nx) = some (r, h1) ∧ ShX12 h1.1 (A + 84) ∧ re_set (A + 84) 6 v2 h1 = some (r, h2) ∧ Inv A b h2 := by
  have hc := @cl_setv A σ 6 v2 6 9999 (by decide) (by decide) rfl (by decide) (by decide)
  rcases inUp v2 (m := 9999) (by decide) with hu | hu
  · obtain ⟨a, b⟩ := hu.le (by decide)
    have hin : ∀ s : Sig, X12_isIn_f v2 0 9999 s = some 1 := fun s => re_isIn_in a b
    refine st_set0 hI (q := (26, 1, 1)) (by decide) ?_ ?_ (fun n nd _ => by simp [okS])
    · rw [hc.1 hu]
      simp (decide := true) only [X10_change_f, pI, if_true, if_false, Option.bind_some, ite_true, ite_false, or_true, true_or]
    · have t2 : st 20240 (wr σ (A + 5 + 26) 1 v2) (A + 84 + 1) 1 v2 = some (wr (wr σ (A + 5 + 26) 1 v2) (A + 84 + 1) 1 v2) := stn (j := 1) (by decide) (by decide)
      unfold X12_set_f
      rw [show X12_isIn_f 6 10 33 (wr σ (A + 5 + 26) 1 v2) = some 0 from rfl]
      simp (decide := true) only [hin, X12_set_b143, t2, if_true, if_false, Option.bind_some, ite_true, ite_false, or_true, true_or]
  · have hout : ∀ s : Sig, X12_isIn_f v2 0 9999 s = some 0 := fun s => re_isIn_out hu
    refine st_setN hI (hc.2 hu) ?_
    unfold X12_set_f
    rw [show X12_isIn_f 6 10 33 σ = some 0 from rfl]
    simp (decide := true) only [hout, if_true, if_false, Option.bind_some, ite_true, ite_false, or_true, true_or]
theorem st_set_7 {A b : Nat} {τ : Tau} {σ : Sig} {nx : Nat} {v2 : Int32} (hI : Inv A b (τ, σ, nx)) : ∃ (r : Int32) (h1 h2 : Hp), cl_set A 7 v2 (τ, σ, nx) = some (r, h1) ∧ ShX12 h1.1 (A + 84) ∧ re_set (A + 84) 7 v2 h1 = some (r, h2) ∧ Inv A b h2 := by
  have hc := @cl_setv A σ 7 v2 7 95 (by decide) (by decide) rfl (by decide) (by decide)
  rcases inUp v2 (m := 95) (by decide) with hu | hu
  · obtain ⟨a, b⟩ := hu.le (by decide)
    have hin : ∀ s : Sig, X12_isIn_f v2 0 95 s = some 1 := fun s => re_isIn_in a b
    refine st_set0 hI (q := (26, 2, 2)) (by decide) ?_ ?_ (fun n nd _ => by simpa [okS] using hu)
    · rw [hc.1 hu]
      simp (decide := true) only [X10_change_f, pI, if_true, if_false, Option.bind_some, ite_true, ite_false, or_true, true_or]
    · have t2 : st 20240 (wr σ (A + 5 + 26) 2 v2) (A + 84 + 1) 2 v2 = some (wr (wr σ (A + 5 + 26) 2 v2) (A + 84 + 1) 2 v2) := stn (j := 2) (by decide) (by decide)
      unfold X12_set_f
      rw [show X12_isIn_f 7 10 33 (wr σ (A + 5 + 26) 2 v2) = some 0 from rfl]
      simp (decide := true) only [hin, X12_set_b143, t2, if_true, if_false, Option.bind_some, ite_true, ite_false, or_true, true_or]
  · have hout : ∀ s : Sig, X12_isIn_f v2 0 95 s = some 0 := fun s => re_isIn_out hu
    refine st_setN hI (hc.2 hu) ?_
    unfold X12_set_f
    rw [show X12_isIn_f 7 10 33 σ = some 0 from rfl]
    simp (decide := true) only [hout, if_true, if_false, Option.bind_some, ite_true, ite_false, or_true, true_or]
theorem st_set_0 {A b : Nat} {τ : Tau} {σ : Sig} {nx : Nat} {v2 : Int32} (hI : Inv A b (τ, σ, nx)) : ∃ (r : Int32) (h1 h2 : Hp), cl_set A 0 v2 (τ, σ, nx) = some (r, h1) ∧ ShX12 h1.1 (A + 84) ∧ re_set (A + 84) 0 v2 h1 = some (r, h2) ∧ Inv A b h2 := by
  obtain ⟨n, nd, hG, hR, -⟩ := hI.wd
  dsimp only at hG hR
  have hc : σ (A + 5 + 1) 0 = nI n := hR.p.1.trans hG.wn
  have t2 : st 20240 (wr σ (A + 5 + 23) 2 v2) (A + 84 + 1) 3 v2 = some (wr (wr σ (A + 5 + 23) 2 v2) (A + 84 + 1) 3 v2) := stn (j := 3) (by decide) (by decide)
  have good : ∀ hv : orNone v2 n, ∀ n' nd', Rg (σ (A + 84 + 1)) n' nd' → okS (23, 2, 3).2.2 v2 n' := fun hv n' nd' hG' => by
    have e : n' = n := by
      have h1 := hG'.wn.symm.trans hG.wn
      exact (nI_eq (by have := hG'.le12; omega) (by have := hG.le12; omega)).mp h1
    subst e
    simpa [okS] using hv
  by_cases cN : v2 = -1
  · refine st_set0 hI (q := (23, 2, 3)) (by decide) ?_ ?_ (good (Or.inl cN))
    · unfold X11_set_f; rw [if_pos rfl, if_pos cN]; rfl
    · unfold X12_set_f
      rw [show X12_isIn_f 0 10 33 (wr σ (A + 5 + 23) 2 v2) = some 0 from rfl]
      simp only [Option.bind_some, if_true]
      rw [if_pos cN]
      unfold X12_set_b102
      rw [if_neg (by decide), t2]; rfl
  rcases oneOf v2 n with ⟨p, hp, rfl⟩ | ho
  · refine st_set0 hI (q := (23, 2, 3)) (by decide) ?_ ?_ (good (Or.inr ⟨p, hp, rfl⟩))
    · unfold X11_set_f; rw [if_pos rfl, if_neg cN, has4_in hG.le12 hc hp]; rfl
    · have r1 : wr σ (A + 5 + 23) 2 (nI p) (A + 84 + 1) = σ (A + 84 + 1) := wr_row (by omega)
      unfold X12_set_f
      rw [show X12_isIn_f 0 10 33 (wr σ (A + 5 + 23) 2 (nI p)) = some 0 from rfl]
      simp only [Option.bind_some, if_true]
      rw [if_neg cN, re_isOne_in hG.le12 (by rw [r1]; exact hG.wn) hp]
      simp only [Option.bind_some]
      rw [if_neg (by decide)]
      unfold X12_set_b102
      rw [if_neg (by decide), t2]; rfl
  · refine st_setN hI ?_ ?_
    · unfold X11_set_f; rw [if_pos rfl, if_neg cN, has4_out hG.le12 hc ho]; rfl
    · unfold X12_set_f
      rw [show X12_isIn_f 0 10 33 σ = some 0 from rfl]
      simp only [Option.bind_some, if_true]
      rw [if_neg cN, re_isOne_out hG.le12 hG.wn ho]; rfl
