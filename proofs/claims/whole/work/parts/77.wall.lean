/-! set's round, wall. -/
theorem go_T {A b : Nat} {τ : Tau} {σ σ2 : Sig} {nx : Nat} (hI : Inv A b (τ, σ, nx)) (ho : ∀ a, a ≠ A + 28 → a ≠ A + 29 → a ≠ A + 30 → a ≠ A + 31 → a ≠ A + 85 → σ2 a = σ a) (hw : ∀ j, 9 ≤ j → (j < 20 ∨ 90 ≤ j) → σ2 (A + 84 + 1) j = σ (A + 84 + 1) j) (hT' : ∀ n, RcT σ (A + 5) (σ (A + 84 + 1)) → RgT (σ (A + 84 + 1)) n → RcT σ2 (A + 5) (σ2 (A + 84 + 1)) ∧ RgT (σ2 (A + 84 + 1)) n) : Inv A b (τ, σ2, nx) := by
  obtain ⟨n, nd, hG, hR, hB, hT, hBr⟩ := hI.wd
  dsimp only at hG hR hB hT hBr
  obtain ⟨q1, q2⟩ := hT' n hR.2.2.1 hG.2.2
  refine hI.go1 (fun a h1 h2 _ _ _ _ => ho a (by omega) (by omega) (by omega) (by omega) h2) ?_
  exact Wd.mkT hG hR hB hT hBr (fun a ha _ => ho a (by omega) (by omega) (by omega) (by omega) (by omega)) (fun i h1 h2 h3 h4 h5 h6 => ho _ (by omega) (by omega) (by omega) (by omega) (by omega)) hw q1 q2
theorem plc {x : Int32} {σ : Sig} (h : upTo x 5) : X11_isPlace_f x σ = some 1 ∧ X12_isPlace_f x σ = some 1 := by
  obtain ⟨a, b⟩ := h.le (by decide)
  obtain ⟨k, hk, rfl⟩ := h
  constructor
  · unfold X11_isPlace_f; rw [if_neg (nI_nn (by omega)), if_neg (show ¬ (6 : Int32) ≤ nI k from nI_ge (by omega : k < 6) (by decide))]
  · unfold X12_isPlace_f; rw [show X12_isIn_f (nI k) 0 5 σ = some 1 from re_isIn_in a b]; rfl
theorem plcN {x : Int32} {σ : Sig} (h : x < 0 ∨ nI 5 < x) : X11_isPlace_f x σ = some 0 ∧ X12_isPlace_f x σ = some 0 := by
  constructor
  · unfold X11_isPlace_f
    by_cases h0 : x < 0
    · rw [if_pos h0]
    · have h6 : (6 : Int32) ≤ x := by
        have h1 := h.resolve_left h0
        rw [Int32.lt_iff_toInt_lt, nI_toInt (by decide)] at h1
        rw [show (6 : Int32) = nI 6 from rfl, Int32.le_iff_toInt_le, nI_toInt (by decide)]
        omega
      rw [if_neg h0, if_pos h6]
  · unfold X12_isPlace_f; rw [show X12_isIn_f x 0 5 σ = some 0 from re_isIn_out h]; rfl
theorem st_set (A b : Nat) : St_set (Inv A b) A (A + 84) := by
  intro h v1 v2 hI
  obtain ⟨τ, σ, nx⟩ := h
  by_cases c0 : v1 = 0
  · subst c0; exact st_set_0 hI
  by_cases c1 : v1 = 1
  · subst c1; exact st_set_1 hI
  by_cases c2 : v1 = 2
  · subst c2; exact st_set_2 hI
  by_cases c3 : v1 = 3
  · subst c3; exact st_set_3 hI
  by_cases c4 : v1 = 4
  · subst c4; exact st_set_4 hI
  by_cases c5 : v1 = 5
  · subst c5; exact st_set_5 hI
  by_cases c6 : v1 = 6
  · subst c6; exact st_set_6 hI
  by_cases c7 : v1 = 7
  · subst c7; exact st_set_7 hI
  have h17 : X11_isWithin_f v1 1 (8 - 1) σ = some 0 := by
    have ho := out_of (lo := 0) (hi := 7) (tsw_l 0 7 8 [0, 1, 2, 3, 4, 5, 6, 7] (al1 c0 (al1 c1 (al1 c2 (al1 c3 (al1 c4 (al1 c5 (al1 c6 (al1 c7 al0)))))))) (by decide) (by decide))
    refine cl_isW_out (ho.elim (fun q => Or.inl ?_) (fun q => Or.inr q))
    exact Int32.lt_trans q (by decide)
  by_cases hr : (10 : Int32) ≤ v1 ∧ v1 ≤ 33
  · obtain ⟨k, hk, e⟩ : ∃ k, k < 24 ∧ v1 = nI (10 + k) := by
      rcases tri v1 (n := 34) (by decide) with h | ⟨_, h⟩ | ⟨j, hj, e⟩
      · exact absurd (Int32.lt_of_lt_of_le h (by decide : (0 : Int32) ≤ 10)) (Int32.not_lt.mpr hr.1)
      · exfalso
        have h1 := Int32.le_iff_toInt_le.mp h
        have h2 := Int32.le_iff_toInt_le.mp hr.2
        rw [nI_toInt (by decide)] at h1
        have e33 : (33 : Int32).toInt = 33 := by decide
        omega
      · subst e
        have h1 := Int32.le_iff_toInt_le.mp hr.1
        rw [nI_toInt (by omega)] at h1
        have e10 : (10 : Int32).toInt = 10 := by decide
        exact ⟨j - 10, by omega, by rw [show 10 + (j - 10) = j by omega]⟩
    subst e
    have hs : nI (10 + k) - 10 = nI k := by
      have := pk_sub (a := 10 + k) (b := 10) (by omega)
      rw [show (10 + k) - 10 = k by omega] at this; exact this
    have hs2 : (20 + nI (10 + k) - 10 : Int32) = nI (20 + k) := by
      rw [show (20 : Int32) = nI 20 from rfl, nI_add]
      have := pk_sub (a := 20 + (10 + k)) (b := 10) (by omega)
      rw [show 20 + (10 + k) - 10 = 20 + k by omega] at this; exact this
    have w10 : X11_isWithin_f (nI (10 + k)) 10 33 σ = some 1 := cl_isW_in hr.1 hr.2
    have i10 : ∀ s : Sig, X12_isIn_f (nI (10 + k)) 10 33 s = some 1 := fun s => re_isIn_in hr.1 hr.2
    rcases inUp v2 (m := 5) (by decide) with hu | hu
    · have t1 : st 24 σ (A + 5 + 23 + 2) (nI k) v2 = some (wr σ (A + 5 + 23 + 2) k v2) := stn hk (by decide)
      have t2 : st 20240 (wr σ (A + 5 + 23 + 2) k v2) (A + 84 + 1) (nI (20 + k)) v2 = some (wr (wr σ (A + 5 + 23 + 2) k v2) (A + 84 + 1) (20 + k) v2) := stn (by omega) (by decide)
      refine ⟨1, (τ, wr σ (A + 5 + 23 + 2) k v2, nx), (τ, wr (wr σ (A + 5 + 23 + 2) k v2) (A + 84 + 1) (20 + k) v2, nx), ?_, hI.s2, ?_, ?_⟩
      · unfold cl_set X11_set_f
        rw [if_neg c0, w10]
        simp only [Option.bind_some]
        rw [if_neg (by decide), (plc hu).1]
        simp only [Option.bind_some]
        rw [if_neg (by decide), hs, t1]; rfl
      · unfold re_set X12_set_f
        rw [i10]
        simp only [Option.bind_some]
        rw [if_neg (by decide), (plc hu).2]
        simp only [Option.bind_some]
        rw [if_neg (by decide), hs2, t2]; rfl
      · have hw2 : wr (wr σ (A + 5 + 23 + 2) k v2) (A + 84 + 1) (20 + k) v2 (A + 84 + 1) = upd (σ (A + 84 + 1)) (20 + k) v2 := by
          funext j; rw [wr_same, wr_row (by omega)]; rfl
        have ho : ∀ a, a ≠ A + 30 → a ≠ A + 85 → wr (wr σ (A + 5 + 23 + 2) k v2) (A + 84 + 1) (20 + k) v2 a = σ a := fun a h1 h2 => by rw [wr_row (by omega), wr_row (by omega)]
        refine go_T hI (fun a _ _ h3 _ h5 => ho a h3 h5) (fun j h1 h2 => by rw [hw2, upd_ne (by omega)]) (fun n hT hG => ?_)
        rw [hw2]
        obtain ⟨t1, t2, t3⟩ := RcT.sc.mp hT
        obtain ⟨g1, h2, h3, h4, h5, h6, h7, h8⟩ := hG
        refine ⟨RcT.sc.mpr ⟨fun j hj => ?_, fun t ht => ?_, fun p hp => ?_⟩, ⟨fun t ht => ?_, by rw [upd_ne (by omega)]; exact h2, by rw [upd_ne (by omega)]; exact h3, by rw [upd_ne (by omega)]; exact h4, by rw [upd_ne (by omega)]; exact h5, by rw [upd_ne (by omega)]; exact h6, fun j hj => by rw [upd_ne (by omega)]; exact h7 j hj, by rw [upd_ne (by omega)]; exact h8⟩⟩
        · rw [ho _ (by omega) (by omega), upd_ne (by omega)]; exact t1 j hj
        · rw [wr_row (by omega), wr_same]
          by_cases e : t = k
          · subst e; rw [if_pos rfl, upd_eq]
          · rw [if_neg e, upd_ne (by omega)]; exact t2 t ht
        · have := scT_rng p hp
          rw [ho _ (by omega) (by omega), upd_ne (by omega)]; exact t3 p hp
        · by_cases e : t = k
          · subst e; rw [upd_eq]; exact hu
          · rw [upd_ne (by omega)]; exact g1 t ht
    · refine st_setN hI ?_ ?_
      · unfold X11_set_f
        rw [if_neg c0, w10]
        simp only [Option.bind_some]
        rw [if_neg (by decide), (plcN hu).1]; rfl
      · unfold X12_set_f
        rw [i10]
        simp only [Option.bind_some]
        rw [if_neg (by decide), (plcN hu).2]; rfl
  · have hout : v1 < 10 ∨ 33 < v1 := by
      by_cases h1 : (10 : Int32) ≤ v1
      · exact Or.inr (Int32.not_le.mp (fun h2 => hr ⟨h1, h2⟩))
      · exact Or.inl (Int32.not_le.mp h1)
    refine st_setN hI ?_ ?_
    · unfold X11_set_f
      rw [if_neg c0, cl_isW_out hout]
      simp only [Option.bind_some, if_true]
      rw [h17]; rfl
    · unfold X12_set_f
      rw [re_isIn_out hout]
      simp only [Option.bind_some, if_true]
      rw [if_neg c0, if_neg c1, if_neg c2, if_neg c3, if_neg c4, if_neg c5, if_neg c6, if_neg c7]
