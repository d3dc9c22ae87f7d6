/-! WHAT A GROWN ONE DOES by his rule, on both sides. -/
/-- not by reduction: loops with much fuel lie behind it -/
theorem bsm {α β : Type} (a : α) (f : α → Option β) : (some a).bind f = f a := by cases h : f a <;> simp [h]
theorem RV : (∀ (σ : Sig) (W k : Nat) (v : Int32), wr σ (W + 30) k v (W + 26) = σ (W + 26)) ∧ (∀ (σ : Sig) (W k : Nat) (v : Int32), wr σ (W + 30) k v (W + 12 + 9) = σ (W + 12 + 9)) ∧ (∀ (σ : Sig) (W k : Nat) (v : Int32), wr σ (W + 30) k v (W + 12 + 10) = σ (W + 12 + 10)) := ⟨fun _ _ _ _ => wr_row (by omega), fun _ _ _ _ => wr_row (by omega), fun _ _ _ _ => wr_row (by omega)⟩
theorem RF (σ : Sig) (B k : Nat) (v : Int32) : wr σ (B + 8) k v (B + 1) = σ (B + 1) := wr_row (by omega)
theorem cl_night0 {T : Nat} {σ : Sig} : X8_isNight_f T σ = some (nightV (σ T 2 / 4)) := by
  unfold X8_isNight_f X8_hour_f; rw [bsm, cl_night, bsm, if_pos (nightV_01 _)]
section RU
variable {τ : Tau} {A nx : Nat} {kp : Option Nat} {W M B n nd : Nat} {σ0 ρ0 σ ρ : Sig}
def rulC (W : Nat) (a b c d e f g h : Int32) (σ : Sig) : Sig := wr (wr (wr (wr (wr (wr (wr (wr σ (W + 30) 0 a) (W + 30) 1 b) (W + 30) 2 c) (W + 30) 3 d) (W + 30) 4 e) (W + 30) 5 f) (W + 30) 6 g) (W + 30) 7 h
def rulR (B : Nat) (a b c d e f g h : Int32) (ρ : Sig) : Sig := wr (wr (wr (wr (wr (wr (wr (wr ρ (B + 8) 3 a) (B + 8) 7 b) (B + 8) 8 c) (B + 8) 4 d) (B + 8) 5 e) (B + 8) 9 f) (B + 8) 10 g) (B + 8) 11 h
theorem rulC_ne {a b c d e f g h : Int32} {x : Nat} (q : x ≠ W + 30) : rulC W a b c d e f g h σ x = σ x := by
  unfold rulC; rw [wr_row q, wr_row q, wr_row q, wr_row q, wr_row q, wr_row q, wr_row q, wr_row q]
theorem rulR_ne {a b c d e f g h : Int32} {x : Nat} (q : x ≠ B + 8) : rulR B a b c d e f g h ρ x = ρ x := by
  unfold rulR; rw [wr_row q, wr_row q, wr_row q, wr_row q, wr_row q, wr_row q, wr_row q, wr_row q]
theorem rul_fct {a b c d e f g h : Int32} : Fct false (rulC W a b c d e f g h σ (W + 30)) (rulR B a b c d e f g h ρ (B + 8)) := by
  refine fct_rule ?_ ?_ ?_ ?_ ?_ ?_ ?_ ?_ <;> unfold rulC rulR <;> simp [wr_same]
/-- the reference's rule, others counted -/
def ruledF (B : Nat) (x1 x2 : Int32) (σ : Sig) : Option (Int32 × Sig) := (X12_hourNow_f B σ).bind fun v4 => (st 12 σ (B + 8) 3 v4).bind fun s6 => (ld 20240 (s6 (B + 1)) 2).bind fun v8 => (st 12 s6 (B + 8) 7 (v8 - v8 / 4 * 4)).bind fun s10 => (ld 20240 (s10 (B + 1)) 1).bind fun v12 => (st 12 s10 (B + 8) 8 v12).bind fun s14 => (X12_hourNow_f B s14).bind fun v16 => (X12_isNight_f v16 s14).bind fun v18 => if v18 = 0 then (X12_ruled_b119 B x1 x2 0 4 s14) else (X12_ruled_b119 B x1 x2 1 4 s14)
theorem re_others (hn : n ≤ 12) (hw : ρ (B + 1) 9 = nI n) {p : Nat} (hp : p < n) : X12_ruled_b16 B FU (nI p) 0 0 ρ = ruledF B (nI p) (sm (othS (ρ (B + 1)) p) n) ρ := by
  refine fuel_up (m := n) (C := fun fu d => X12_ruled_b16 B fu (nI p) (sm (othS (ρ (B + 1)) p) d) (nI d) ρ = ruledF B (nI p) (sm (othS (ρ (B + 1)) p) n) ρ) (fun fu => ?_) (fun fu d hd ih => ?_) n 0 FU (by omega) (by unfold FU; omega)
  · unfold X12_ruled_b16; rw [LW.2.2.2.2.2.2.2.2.2.1, Option.bind_some, hw, if_pos (Int32.le_refl _)]; rfl
  · unfold X12_ruled_b16
    rw [LW.2.2.2.2.2.2.2.2.2.1, Option.bind_some, hw, if_neg (nI_ge hd (by omega)), nI_s, rO1 (by omega), rO1 (by omega)]
    simp only [Option.bind_some]
    rw [sm] at ih
    unfold othS at ih
    by_cases c : d = p
    · subst c; rw [if_pos rfl]; rw [if_pos rfl] at ih; exact ih
    · rw [if_neg (fun z => c (nI_inj (by omega) (by omega) z))]; rw [if_neg c] at ih
      by_cases c2 : ρ (B + 1) (90 + 8 * d + 1) = ρ (B + 1) (90 + 8 * p + 1)
      · rw [if_pos c2]; rw [if_pos c2] at ih; exact ih
      · rw [if_neg c2]; rw [if_neg c2] at ih; exact ih
/-- what the class's deed and the reference's line have in common -/
def Deed (w : wF) (x y : Int32) : Prop := (x = 0 ∧ y = -1) ∨ ∃ l q, l < 96 ∧ y = nI l ∧ q ≤ 99 ∧ w (2660 + l) = nI q ∧ ((w (2560 + l) = 1 ∧ x = nI (q + 1)) ∨ (w (2560 + l) = 2 ∧ x = nI (q + 101)))
def Tly (W B nd : Nat) (σ ρ : Sig) : Prop := (∀ p, p < 12 → σ (W + 21) p = sm (lfS (ρ (B + 1)) 2 (nI p)) nd) ∧ ∀ p, p < 12 → σ (W + 22) p = sm (lfS (ρ (B + 1)) 1 (nI p)) nd
theorem deed_two (h : Z W M B n nd σ0 ρ0 σ ρ) (hT : Txs τ σ0 A nx kp W (ρ0 (B + 1))) (hW : A + 5 ≤ W ∧ W + 35 ≤ A + 95) (ht : Tly W B nd σ ρ) {p : Nat} (hp : p < n) : Two (X10_deedOf_f τ W M (nI p) σ) (X12_ruled_f B (nI p) ρ) (fun x y => Deed (ρ (B + 1)) x.1 y.1 ∧ FxC W σ x.2 ∧ FxR B ρ y.2) := by
  have h12 := h.n12
  obtain ⟨-, -, -, -, ⟨r, hr4, er⟩, -⟩ := h.g.1.2.2 p hp
  unfold X10_deedOf_f X12_ruled_f
  rw [h.p4 hp, rO4 (by omega), Option.bind_some, Option.bind_some, er, if_neg (nI_nn (by omega))]
  by_cases c4 : r = 4
  · subst c4
    rw [if_neg (by decide), if_pos (by decide)]
    exact two_some ⟨Or.inl ⟨rfl, rfl⟩, fun _ _ _ => rfl, fun _ _ _ => rfl⟩
  rw [if_pos (show nI r < 4 from nI_lt (by omega : r < 4) (by decide)), if_neg (show ¬ nI r = 4 from fun z => c4 (nI_inj (b := 4) (by omega) (by decide) z)), re_others h12 h.wn hp]
  obtain ⟨t, hrc, htt, hx⟩ := h.txt hT hW (show 2 + r < 6 by omega)
  have fin : ∀ a b c d e f g h' : Int32, Two ((ldr 6 (rcon τ (W + 29)) (2 + nI r)).bind fun r15 => r15.bind fun t16 => chk (ShX7 τ t16 (tl τ t16 1) (tl τ t16 2) (tl τ t16 3)) ((X7_firstLine_f t16 (tl τ t16 1) (tl τ t16 2) (tl τ t16 3) (W + 30) 8 (W + 31) 32 (rulC W a b c d e f g h' σ)).bind fun p => (X7_deedOf_f t16 (tl τ t16 1) (tl τ t16 2) (tl τ t16 3) p.1 p.2).bind fun v21 => some (v21, p.2))) ((X12_firstLine_f B (2 + nI r) (rulR B a b c d e f g h' ρ)).bind fun p => if p.1 = (-1) then (some ((-1 : Int32), p.2)) else ((ld 20240 (p.2 (B + 1)) (2560 + p.1)).bind fun v19 => if v19 = 3 then (some ((-1), p.2)) else (some (p.1, p.2)))) (fun x y => Deed (ρ (B + 1)) x.1 y.1 ∧ FxC W σ x.2 ∧ FxR B ρ y.2) := by
    intro a b c d e f g h'
    rw [show (2 + nI r : Int32) = nI (2 + r) from nI_add 2 r]
    refine two_eq (o' := (ldr 6 (rcon τ (W + 29)) (nI (2 + r))).bind fun r15 => r15.bind fun t16 => chk (ShX7 τ t16 (tl τ t16 1) (tl τ t16 2) (tl τ t16 3)) ((X7_firstLine_f t16 (tl τ t16 1) (tl τ t16 2) (tl τ t16 3) (W + 30) 8 (W + 31) 32 (rulC W a b c d e f g h' σ)).bind fun p => (X7_deedOf_f t (tl τ t16 1) (tl τ t16 2) (tl τ t16 3) p.1 p.2).bind fun v21 => some (v21, p.2))) ?_ rfl ?_
    · rw [ldr_ok (show 2 + r < 6 by omega) (by decide), Option.bind_some, hrc, Option.bind_some, Option.bind_some, Option.bind_some]
    refine ask_two (G := fun x s n1 n2 n3 => (X7_deedOf_f t n1 n2 n3 x s).bind fun v21 => some (v21, s)) (t := t) ?_ hrc htt (by omega) ?_ ?_
    · rw [rulR_ne (by omega)]; exact hx.fr (by omega) (fun i hi => rulC_ne (by omega)) (fun _ _ _ => rfl)
    · rw [show decide (2 + r < 2) = false by simp]; exact rul_fct
    · intro m c x y σ' ρ' hm _ f1 f2 hxy
      have q1 : FxC W σ σ' := fun a h1 h2 => by rw [f1 a h2, rulC_ne h1]
      have q2 : FxR B ρ ρ' := fun a h1 h2 => by rw [f2 a h1, rulR_ne h2]
      rw [rulR_ne (by omega), rulC_ne (by omega)] at hxy
      rcases hxy with ⟨rfl, rfl⟩ | ⟨l, hl, rfl, rfl, hq⟩
      · dsimp only; rw [if_pos rfl]; unfold X7_deedOf_f; rw [if_pos (by decide)]; exact two_some ⟨Or.inl ⟨rfl, rfl⟩, q1, q2⟩
      · rw [if_neg (by omega)] at hq
        dsimp only
        have e2 : (2560 + nI (16 * (2 + r) + l) : Int32) = nI (2560 + (16 * (2 + r) + l)) := nI_add 2560 _
        rw [if_neg (ne_m1 (by omega)), f2 _ (by omega), rulR_ne (by omega), e2, ldn (by omega) (by decide)]
        unfold X7_deedOf_f
        rw [if_neg (nI_nn (by omega)), if_neg (show ¬ Int32.ofNat m ≤ nI l from nI_ge hl (by omega)), ldn hl (by omega), f1 _ (by omega), rulC_ne (by omega)]
        simp only [Option.bind_some]
        rw [show 2560 + 16 * (2 + r) + l = 2560 + (16 * (2 + r) + l) by omega, show 2660 + 16 * (2 + r) + l = 2660 + (16 * (2 + r) + l) by omega] at hq
        obtain ⟨q, hq | hq⟩ := hq
        · obtain ⟨hq9, hqn, ⟨hq1, hq2⟩ | ⟨hq1, hq2⟩⟩ := hq
          · rw [hq1, if_neg (by decide), hq2]; exact two_some ⟨Or.inr ⟨_, q, by omega, rfl, hq9, hqn, Or.inl ⟨hq1, rfl⟩⟩, q1, q2⟩
          · rw [hq1, if_neg (by decide), hq2]; exact two_some ⟨Or.inr ⟨_, q, by omega, rfl, hq9, hqn, Or.inr ⟨hq1, rfl⟩⟩, q1, q2⟩
        · rw [hq.1, if_pos rfl, hq.2]; exact two_some ⟨Or.inl ⟨rfl, rfl⟩, q1, q2⟩
  have hz : ∀ s : Sig, (∀ a, a ≠ W + 30 → s a = σ a) → Z W M B n nd σ0 ρ0 s ρ := fun s hs => h.scr (fun a _ _ _ h1 _ _ => hs a h1)
  have hl : ∀ f : Nat → Int32, ld 12 f (nI p) = some (f p) := fun f => ldn (by omega) (by decide)
  have hoth : ∀ a b c d e f g : Int32, X4_othersWith_f (W + 1) (nI p) (wr (wr (wr (wr (wr (wr (wr σ (W + 30) 0 a) (W + 30) 1 b) (W + 30) 2 c) (W + 30) 3 d) (W + 30) 4 e) (W + 30) 5 f) (W + 30) 6 g) = some (sm (othS (ρ (B + 1)) p) n) := fun a b c d e f g => cl_others (hz _ (fun x q => by rw [wr_row q, wr_row q, wr_row q, wr_row q, wr_row q, wr_row q, wr_row q])) hp
  have hl2 : ∀ a b c d e : Int32, X12_left_f B (nI p) 2 (wr (wr (wr (wr (wr ρ (B + 8) 3 a) (B + 8) 7 b) (B + 8) 8 c) (B + 8) 4 d) (B + 8) 5 e) = some (sm (lfS (ρ (B + 1)) 2 (nI p)) nd) := fun a b c d e => by
    have q : B + 1 ≠ B + 8 := by omega
    rw [re_left h.d40 (by rw [wr_row q, wr_row q, wr_row q, wr_row q, wr_row q]; exact h.wd), wr_row q, wr_row q, wr_row q, wr_row q, wr_row q]
  have hl1 : ∀ a b c d e f : Int32, X12_left_f B (nI p) 1 (wr (wr (wr (wr (wr (wr ρ (B + 8) 3 a) (B + 8) 7 b) (B + 8) 8 c) (B + 8) 4 d) (B + 8) 5 e) (B + 8) 9 f) = some (sm (lfS (ρ (B + 1)) 1 (nI p)) nd) := fun a b c d e f => by
    have q : B + 1 ≠ B + 8 := by omega
    rw [re_left h.d40 (by rw [wr_row q, wr_row q, wr_row q, wr_row q, wr_row q, wr_row q]; exact h.wd), wr_row q, wr_row q, wr_row q, wr_row q, wr_row q, wr_row q]
  have ho4 : ∀ s : Sig, X12_own_f B (nI p) 4 s = some (s (B + 1) (90 + 8 * p + 4)) := fun s => rO4 (by omega)
  have t1 : σ (W + 12 + 9) p = sm (lfS (ρ (B + 1)) 2 (nI p)) nd := ht.1 p (by omega)
  have t2 : σ (W + 12 + 10) p = sm (lfS (ρ (B + 1)) 1 (nI p)) nd := ht.2 p (by omega)
  obtain ⟨-, -, -, -, -, -, u1, u2, u3, -⟩ := h.sca
  unfold ruledF
  simp only [cl_hour h, re_hour, bsm, S8, S12, LW, RV, RF, re_night, cl_night0]
  unfold X10_deedOf_b82 X12_ruled_b119 X10_deedOf_b103 X12_ruled_b143
  simp only [bsm, S8, S12, LW, RV, RF, re_night, re_feast, cl_night0, cl_feast, hl, hoth, hl2, hl1, ho4, t1, t2, u1, u2, u3, er]
  refine two_if Iff.rfl (fun _ _ => two_if Iff.rfl (fun _ _ => fin _ _ _ _ _ _ _ _) (fun _ _ => fin _ _ _ _ _ _ _ _)) (fun _ _ => two_if Iff.rfl (fun _ _ => fin _ _ _ _ _ _ _ _) (fun _ _ => fin _ _ _ _ _ _ _ _))
end RU
