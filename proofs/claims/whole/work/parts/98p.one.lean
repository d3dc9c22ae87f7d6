/-! A bargain of one debt: lend, sell. -/
theorem mk_keep {A b : Nat} {τ τ1 : Tau} {σ s4 : Sig} {nx m N : Nat} (hI : Inv A b (τ, σ, nx)) (mS : ShX0 τ1 nx N) (mT : ∀ x, x ≠ nx → x ≠ nx + 1 → τ1 x = τ x) (hm : m ≤ 60) (ec : s4 (A + 32) 0 = nI m) : ∃ τ2, X1_keep_f τ1 s4 (nx + 2) (A + 32) nx = some (τ2, wr s4 (A + 32) 0 (nI (m - sh60 m + 1)), nx + 2) ∧ (∀ x, x ≠ A + 33 → x ≠ nx → x ≠ nx + 1 → τ2 x = τ x) ∧ τ2 (A + 33) = some (.inr (.inr (0, 60, rcon τ2 (A + 33)))) ∧ (∀ j, j < m - sh60 m → rcon τ2 (A + 33) j = rcon τ (A + 33) (j + sh60 m)) ∧ rcon τ2 (A + 33) (m - sh60 m) = some nx ∧ (∀ j, j < 60 → isOb τ2 0 (rcon τ2 (A + 33) j) = true) ∧ ShX0 τ2 nx N ∧ ShX12 τ2 (A + 84) ∧ ∃ rs, τ1 (A + 32) = some (.inl (1, rs)) := by
  have hnx : A + 95 ≤ nx := hI.2.2.1
  have S1 : ShX1 τ (A + 32) := hI.s1.2.1.2.2.2.2.2.2.1
  have e33 : τ1 (A + 33) = τ (A + 33) := mT _ (by omega) (by omega)
  have S1' : ShX1 τ1 (A + 32) := ⟨by rw [mT _ (by omega) (by omega)]; exact S1.1, by rw [show A + 32 + 1 = A + 33 from rfl, rcon_eq e33, e33]; exact S1.2⟩
  have hlt : ∀ a, nx ≤ a → τ a = none := hI.2.2.2.1.1
  have hob : ObR τ (A + 5) := hI.2.2.2.1.2.1
  have nob : isOb τ1 0 (some nx) = true := by
    unfold isOb; dsimp only; rw [mS.1]; rfl
  obtain ⟨τ2, k1, k2, k3, k4, k5, k6⟩ := keep1 (nx := nx + 2) S1' hm ec nob (fun j hj => by
    rw [show A + 32 + 1 = A + 33 from rfl, rcon_eq e33]
    exact isOb_fr (hob j hj) (fun b rs _ z => mT b (by have := ob_lt hlt z; omega) (by have := ob_lt hlt z; omega)))
  have tO : ∀ x, x ≠ A + 33 → x ≠ nx → x ≠ nx + 1 → τ2 x = τ x := fun x h1 h2 h3 => by rw [k2 x h1]; exact mT x h2 h3
  refine ⟨τ2, k1, tO, k3, fun j hj => ?_, k5, fun j hj => ?_, ?_, ?_, _, S1'.1⟩
  · rw [k4 j hj, show A + 32 + 1 = A + 33 from rfl, rcon_eq e33]
  · refine isOb_fr (k6 j hj) (fun b rs _ z => k2 b (fun e => ?_))
    subst e; rw [S1'.2] at z; cases z
  · unfold ShX0 at mS ⊢
    rw [k2 nx (by omega), k2 (nx + 1) (by omega)]; exact mS
  · exact hI.s2.fr (fun x h1 h2 => tO x (by omega) (by omega) (by omega))
noncomputable def barK (a r1 r2 f : Nat) (x3 v x1 x2 x5 : Int32) (τ : Tau) (σ : Sig) (nx : Nat) : Option (Int32 × Hp) := (X0_init_f (al τ nx (.inl (0, rsX0))) (zr σ nx) (nx + 1) nx x1 x2 x5 1).bind fun ⟨t1, s2, n3⟩ => chk (ShX0 t1 nx (tl t1 nx 1)) (chk (ShX3 t1 r1) ((X0_takeIn_f nx (tl t1 nx 1) r1 x3 s2).bind fun s7 => (gRs t1 3 r1 f).bind fun b9 => (stD t1 s7 b9 x3 v).bind fun s11 => chk (ShX4 t1 r2) ((X4_pay_f r2 x1 x2 x5 s11).bind fun s14 => chk (∃ rs, t1 a = some (.inl (1, rs))) ((X1_keep_f t1 s14 n3 a nx).bind fun ⟨t17, s18, n19⟩ => some (1, (t17, s18, n19))))))
def barR (a : Nat) (x1 x3 y0 y1 f v : Int32) (σ : Sig) : Option (Int32 × Sig) := (X12_begins_f a y0 y1 x3 σ).bind fun s1 => (X12_isOf_f a x1 s1).bind fun s3 => (X12_lays0_f a x1 f v s3).bind fun s5 => (X12_ends_f a s5).bind fun s7 => some (1, s7)
theorem bar_one {A b : Nat} {τ : Tau} {σ : Sig} {nx n nd d f : Nat} {v x1 x2 y1 y2 x : Int32} {o : Option (Nat × Nat)} (hI : Inv A b (τ, σ, nx)) (hG : Rg (σ (A + 84 + 1)) n nd) (hd : d < nd) (hf : f = 1 ∨ f = 4) (hv : Dok (upd (σ (A + 84 + 1)) (230 + 8 * d + f) v) n d) (hop : σ (A + 84 + 1) (230 + 8 * d + 2) ≠ 0) (hp : PayOk o n x1 x2 y1 y2) (hx2 : o = none → x2 = -1) : ∃ h1 r, barK (A + 32) (A + 17) (A + 6) (1 + f) (nI d) v x1 x2 x τ σ nx = some (1, h1) ∧ ShX12 h1.1 (A + 84) ∧ h1.2.1 (A + 84 + 1) = σ (A + 84 + 1) ∧ barR (A + 84) (nI d) x y1 y2 (nI f) v h1.2.1 = some (1, r) ∧ Inv A b (h1.1, r, h1.2.2) := by
  obtain ⟨n', nd', hG', hR, hB, hT, hBr, -⟩ := hI.wd
  dsimp only at hG' hR hB hT hBr
  obtain ⟨rfl, rfl⟩ := hG.uniq hG'
  obtain ⟨m, -, -, hm, em1, em2, -⟩ := hBr
  have hnx : A + 95 ≤ nx := hI.2.2.1
  have h12 := hG.le12
  have h40 := hG.le40
  have S10 := hI.s1.2.1
  have ho := hp.ok
  have hbs := bs_le hm
  have hb7 : 7880 ≤ bs m := by unfold bs; omega
  have hs1 := sh_le m
  obtain ⟨τ1, s1, m1, mS, mT, m0, m1', m2', m4, m5, mO⟩ := make0 (τ := τ) (σ := σ) (nx := nx) (cap := 1) (x1 := x1) (x2 := x2) (x3 := x) (by decide)
  have hS3 : ShX3 τ1 (A + 17) := ShX3.same (P := A + 17) S10.2.2.1 (fun x _ _ => mT x (by omega) (by omega))
  have hS4 : ShX4 τ1 (A + 6) := ShX4.same (P := A + 6) S10.2.1 (fun x _ _ => mT x (by omega) (by omega))
  have hcd : s1 (A + 17) 0 = nI nd' := by rw [mO _ (by omega) (by omega)]; exact hR.d.1.trans hG.wd
  obtain ⟨s2, t1, t4, tJ, tO, q0, q1, q2, q3, q4, q5, -⟩ := take0 (σ := s1) (b := nx) (N := 6) (P := A + 17) (t := 0) (d := d) (nd := nd') (by decide) (by decide) m4 hcd hd h40 (by omega)
  have o2 : ∀ a, a ≠ nx → a ≠ nx + 1 → s2 a = σ a := fun a h1 h2 => by rw [tO a h1 h2, mO a h1 h2]
  obtain ⟨a1, a2⟩ := hS3.arr (f := f) (by omega)
  -- the class
  obtain ⟨s3, hs3⟩ : ∃ s3, s3 = wr s2 (A + 17 + (1 + f)) d v := ⟨_, rfl⟩
  obtain ⟨s4, hs4⟩ : ∃ s4, s4 = payS (A + 6) o x s3 := ⟨_, rfl⟩
  have o3 : ∀ a, a ≠ nx → a ≠ nx + 1 → a ≠ A + 17 + (1 + f) → s3 a = σ a := fun a h1 h2 h3 => by rw [hs3, wr_row h3]; exact o2 a h1 h2
  have o4 : ∀ a, a ≠ nx → a ≠ nx + 1 → a ≠ A + 17 + (1 + f) → a ≠ A + 12 → s4 a = σ a := fun a h1 h2 h3 h4 => by rw [hs4, payS_ne (by omega)]; exact o3 a h1 h2 h3
  have hpC : X4_pay_f (A + 6) x1 x2 x s3 = some s4 := by
    rw [hs4]; exact pay_C h12 (by rw [o3 _ (by omega) (by omega) (by omega)]; exact hR.p.1.trans hG.wn) hp
  have ec : s4 (A + 32) 0 = nI m := by rw [o4 _ (by omega) (by omega) (by omega) (by omega)]; exact em1
  obtain ⟨τ2, k1, kO, k33, kj, km, kob, kS, k12, k32⟩ := mk_keep hI mS mT hm ec
  obtain ⟨s5, hs5⟩ : ∃ s5, s5 = wr s4 (A + 32) 0 (nI (m - sh60 m + 1)) := ⟨_, rfl⟩
  rw [← hs5] at k1
  have o5 : ∀ a, a ≠ nx → a ≠ nx + 1 → a ≠ A + 17 + (1 + f) → a ≠ A + 12 → a ≠ A + 32 → s5 a = σ a := fun a h1 h2 h3 h4 h5 => by rw [hs5, wr_row h5]; exact o4 a h1 h2 h3 h4
  have n5 : ∀ a, nx ≤ a → s5 a = s2 a := fun a h1 => by rw [hs5, wr_row (by omega), hs4, payS_ne (by omega), hs3, wr_row (by omega)]
  have e85 : s5 (A + 84 + 1) = σ (A + 84 + 1) := o5 _ (by omega) (by omega) (by omega) (by omega) (by omega)
  -- the reference
  obtain ⟨r1, b1, b22, bB, bO, b16, bL, bOld, c0, c1, c2, c3, c4, c5, cD⟩ := re_begins (B := A + 84) (ρ := s5) (payer := y1) (payee := y2) (price := x) hm (by rw [e85]; exact em2) h40 (by rw [e85]; exact hG.wd)
  rw [e85] at bL bOld cD
  obtain ⟨r2, p1, pW, pO⟩ := pay_R (B := A + 84) (ρ := r1) (x := x) h12 hp
  have w2 : ∀ j, (∀ p, p < n' → j ≠ 90 + 8 * p + 5) → r2 (A + 84 + 1) j = r1 (A + 84 + 1) j := fun j hj => by rw [pW]; exact payW_ne ho hj
  have w2h : ∀ j, 230 ≤ j → r2 (A + 84 + 1) j = r1 (A + 84 + 1) j := fun j hj => w2 j (fun p hp => by omega)
  have hd4 : d < 40 := by omega
  have hr3 := re_isOf (B := A + 84) (ρ := r2) (d := d) hd4 hbs (by rw [pO _ (by omega)]; exact b22)
  obtain ⟨kd, hkd⟩ : ∃ kd, kd = bs m + (if d < 20 then 4 else 5) := ⟨_, rfl⟩
  have hkd2 : kd = bs m + 4 ∨ kd = bs m + 5 := by rw [hkd]; split <;> omega
  rw [← hkd, w2h kd (by omega)] at hr3
  have ez : r1 (A + 84 + 1) kd = 0 := by rcases hkd2 with e | e <;> rw [e] <;> assumption
  rw [ez] at hr3
  obtain ⟨bit, hbit⟩ : ∃ bit : Int32, bit = 0 ||| ((1 : Int32) <<< (nI (d % 20) &&& 31)) := ⟨_, rfl⟩
  rw [← hbit] at hr3
  obtain ⟨r4, hr4⟩ : ∃ r4, r4 = wr (wr r2 (A + 84 + 1) kd bit) (A + 84 + 1) (230 + 8 * d + f) v := ⟨_, rfl⟩
  have hl4 : X12_lays0_f (A + 84) (nI d) (nI f) v (wr r2 (A + 84 + 1) kd bit) = some r4 := by rw [hr4]; exact re_lays hd4 (by omega)
  have w4 : ∀ j, j ≠ kd → j ≠ 230 + 8 * d + f → r4 (A + 84 + 1) j = r2 (A + 84 + 1) j := fun j h1 h2 => by rw [hr4, wr_o h2, wr_o h1]
  have w4v : r4 (A + 84 + 1) (230 + 8 * d + f) = v := by rw [hr4, wr_v]
  have w4k : r4 (A + 84 + 1) kd = bit := by rw [hr4, wr_o (by omega), wr_v]
  have O4 : ∀ a, a ≠ A + 84 → a ≠ A + 84 + 1 → r4 a = s5 a := fun a h1 h2 => by rw [hr4, wr_row h2, wr_row h2, pO a h2, bO a h1 h2]
  have B4 : r4 (A + 84) = r1 (A + 84) := by rw [hr4, wr_row (by omega), wr_row (by omega), pO _ (by omega)]
  obtain ⟨r5, f1, fO, f16, fL, fD⟩ := re_ends (B := A + 84) (ρ := r4) (nd := nd') (k := bs m) (m' := m - sh60 m) hb7 hbs h40 (by rw [w4 10 (by omega) (by omega), w2 10 (fun p hp => by omega), bL 10 (by omega) (by omega)]; exact hG.wd) (by rw [w4 16 (by omega) (by omega), w2 16 (fun p hp => by omega)]; exact b16) (by rw [B4]; exact b22)
  have O5 : ∀ a, a ≠ A + 84 → a ≠ A + 84 + 1 → r5 a = s5 a := fun a h1 h2 => by rw [fO a h2]; exact O4 a h1 h2
  have hcl : barK (A + 32) (A + 17) (A + 6) (1 + f) (nI d) v x1 x2 x τ σ nx = some (1, (τ2, s5, nx + 2)) := by
    unfold barK
    rw [show (1 : Int32) = nI 1 from rfl, m1, bsm]
    dsimp only
    rw [tl_of mS, chk_yes mS, chk_yes hS3, t1, bsm, a1, bsm, stD_of a2 hd4 (by decide), bsm, ← hs3, chk_yes hS4, hpC, bsm, chk_yes k32, k1, bsm]
  have hre : barR (A + 84) (nI d) x y1 y2 (nI f) v s5 = some (1, r5) := by
    unfold barR
    rw [b1, p1, bsm, bsm, hr3, bsm, hl4, bsm, f1, bsm]
  refine ⟨(τ2, s5, nx + 2), r5, hcl, k12, e85, hre, ?_⟩
  dsimp only
  -- the row
  have key : ∀ j, j < 7880 → j ≠ 16 → r5 (A + 84 + 1) j = payW o x (upd (σ (A + 84 + 1)) (230 + 8 * d + f) v) j := by
    intro j h1 h2
    rw [fL j h2 (by omega)]
    by_cases e : j = 230 + 8 * d + f
    · rw [e, w4v, payW_ne ho (fun p hp => by omega), upd_eq]
    · rw [w4 j (by omega) e, pW]
      exact payW_congr ho (fun p hp => by rw [bL _ (by omega) (by omega), upd_ne (by omega)]) (by rw [bL j h1 h2, upd_ne e])
  have hG2 : Rg (payW o x (upd (σ (A + 84 + 1)) (230 + 8 * d + f) v)) n' nd' := (hG.atD hd (fun j hj => upd_ne (by omega)) hv).payW ho
  have hR2 := pay_rc (x := x) h12 h40 (hR.put (v := v) h12 h40 (i := 13 + f) (k := d) (j := 230 + 8 * d + f) (Or.inr (Or.inr (Or.inr (Or.inr (Or.inl ⟨hd, f, by omega, rfl, rfl⟩)))))) ho
  have hrow : ∀ a, a < nx → a ≠ A + 32 → a ≠ A + 84 → a ≠ A + 84 + 1 → r5 a = payS (A + 5 + 1) o x (wr σ (A + 5 + (13 + f)) d v) a := by
    intro a h1 h2 h3 h4
    rw [O5 a h3 h4, hs5, wr_row h2, hs4]
    refine payS_congr (P := A + 6) (N := nx) (fun c hc => ?_) (by omega) h1
    rw [hs3, show A + 17 + (1 + f) = A + 5 + (13 + f) by omega]
    by_cases e : c = A + 5 + (13 + f)
    · rw [e]; funext k; rw [wr_same, wr_same, o2 _ (by omega) (by omega)]
    · rw [wr_row e, wr_row e]; exact o2 c (by omega) (by omega)
  refine hI.bar (nd' := nd') (N := 6) (sp := false) hG (hG2.fr (fun j hj => key j (by omega) (by omega))) (Nat.le_refl _) hm em2 kO k33 kj km kob (fun a h1 h2 h3 h4 h5 => ?_) (fun j hj => ?_) ?_ (fun j hj => ?_) ?_ ?_ (fun j i h1 h2 => ?_) ?_
  · rw [O5 a h3 (by omega)]; exact o5 a (by omega) (by omega) (by omega) (by omega) h2
  · rw [fO _ (by omega), B4, bB j hj, o5 _ (by omega) (by omega) (by omega) (by omega) (by omega)]
  · refine Rc.cor.mpr (fun i k j hc => ?_)
    have h1 := hc.rng
    have h2 := hc.jr h12 h40
    rw [hrow _ (by omega) (by omega) (by omega) (by omega), key j (by omega) (by omega)]
    exact Rc.cor.mp hR2 i k j hc
  · rw [key j (by omega) (by omega), payW_ne ho (fun p hp => by omega), upd_ne (by omega)]
  · exact f16
  · rw [O5 _ (by omega) (by omega), hs5, wr_v]
  · have : 7880 + 206 * j + i < bs m := by unfold bs; omega
    rw [fL _ (by omega) (by omega), w4 _ (by omega) (by omega), w2h _ (by omega)]; exact bOld j i h1 h2
  · have hv' : ∀ y, bs m ≤ y → y < bs m + 166 → y ≠ kd → r5 (A + 84 + 1) y = r1 (A + 84 + 1) y := fun i h1 h2 h => by rw [fL _ (by omega) (by omega), w4 _ h (by omega), w2h _ (by omega)]
    have hw : ∀ i, i < 166 → bs m + i ≠ kd → r5 (A + 84 + 1) (bs m + i) = r1 (A + 84 + 1) (bs m + i) := fun i hi h => hv' _ (by omega) (by omega) h
    have hk : r5 (A + 84 + 1) kd = bit := by rw [fL _ (by omega) (by omega)]; exact w4k
    have e0 : r5 nx = s2 nx := by rw [O5 _ (by omega) (by omega)]; exact n5 _ (by omega)
    have e1 : r5 (nx + 1) = s2 (nx + 1) := by rw [O5 _ (by omega) (by omega)]; exact n5 _ (by omega)
    obtain ⟨g1, g2, g3, g4, g5, g6, g7⟩ := hG.dok hd
    obtain ⟨z0, z1, z2, z3⟩ := cD d hd
    have hw0 : r5 (A + 84 + 1) (bs m + 6 + 4 * d) = σ (A + 84 + 1) (230 + 8 * d) := by rw [hv' _ (by omega) (by omega) (by omega)]; exact z0
    have hw1 : r5 (A + 84 + 1) (bs m + 6 + 4 * d + 1) = σ (A + 84 + 1) (230 + 8 * d + 1) := by rw [hv' _ (by omega) (by omega) (by omega)]; exact z1
    have hw2 : r5 (A + 84 + 1) (bs m + 6 + 4 * d + 2) = σ (A + 84 + 1) (230 + 8 * d + 4) := by rw [hv' _ (by omega) (by omega) (by omega)]; exact z2
    have hw3 : r5 (A + 84 + 1) (bs m + 6 + 4 * d + 3) = σ (A + 84 + 1) (230 + 8 * d + 2) := by rw [hv' _ (by omega) (by omega) (by omega)]; exact z3
    have cD' : ∀ g, g < 7 → s1 (A + 17 + (1 + g)) d = σ (A + 84 + 1) (230 + 8 * d + g) := fun g hg => by
      rw [mO _ (by omega) (by omega)]; exact hR.d.2 d hd g hg
    have ebs : 7880 + 206 * (m - sh60 m) = bs m := rfl
    unfold Bar
    rw [ebs]
    refine ⟨1, [d], kS, Nat.le_refl _, by rw [e0]; exact t4, List.pairwise_singleton _ _, h40, ?_, fun y hy => Or.inl (by rw [List.mem_singleton.mp hy]; exact hd), fun y hy => ?_, ?_, fun i y hiy => ?_, ?_⟩
    · rw [hw 3 (by decide) (by omega)]; exact c3
    · rw [List.mem_singleton, bit_is (Nat.mod_lt _ (by decide))]
      by_cases e : bs m + (if y < 20 then 4 else 5) = kd
      · rw [e, hk, hbit, bt_or, bt_0, Bool.false_or, bt_1q (Nat.mod_lt _ (by decide)), decide_eq_true_iff]
        constructor
        · rintro rfl; rfl
        · intro z
          rw [hkd] at e
          split at e <;> split at e <;> omega
      · have : r5 (A + 84 + 1) (bs m + (if y < 20 then 4 else 5)) = 0 := by
          rw [hw _ (by split <;> omega) e]
          split
          · exact c4
          · exact c5
        rw [this, bt_0]
        constructor
        · rintro rfl; exact absurd hkd.symm e
        · intro z; cases z
    · rw [if_neg Bool.false_ne_true, e0, tJ 5 (by decide), List.mem_singleton]
      exact ⟨m5, by omega⟩
    · have hi : i = 0 ∧ y = d := by
        cases i with
        | zero => simp at hiy; exact ⟨rfl, hiy.symm⟩
        | succ i => simp at hiy
      obtain ⟨rfl, rfl⟩ := hi
      rw [e1]
      refine ⟨q0, ?_, fun _ => ⟨fun g hg => ?_, ?_, ?_, ?_, ?_, ?_⟩⟩
      · rw [fD _ hd, w4 _ (by omega) (by omega), w2h _ (by omega), bL _ (by omega) (by omega)]
        exact q5.trans (cD' 2 (by decide))
      · have : g = 0 ∨ g = 1 ∨ g = 2 ∨ g = 3 := by omega
        rcases this with rfl | rfl | rfl | rfl
        · exact (q1.trans (cD' 0 (by decide))).trans hw0.symm
        · exact (q2.trans (cD' 1 (by decide))).trans hw1.symm
        · exact (q3.trans (cD' 4 (by decide))).trans hw2.symm
        · exact (q4.trans (cD' 2 (by decide))).trans hw3.symm
      · rw [hw0]; exact g1
      · rw [hw1]; exact g2
      · rw [hw2]; exact g5
      · rw [hw3]; exact g3
      · rw [hw0, hw1]; exact g7 hop
    · have w0 : r5 (A + 84 + 1) (bs m) = y1 := by
        have := hw 0 (by decide) (by omega)
        exact this.trans c0
      rw [w0, hw 1 (by decide) (by omega), c1, hw 2 (by decide) (by omega), c2, e0, tJ 0 (by decide), tJ 1 (by decide), tJ 2 (by decide), m0, m1', m2']
      rcases hp with ⟨p, q, h1, h2, h3, h4, h5, h6, h7⟩ | ⟨h1, h2, -⟩
      · exact Or.inl ⟨p, q, h2, h3, h6, h7, h4, h5, rfl⟩
      · exact Or.inr ⟨h2, hx2 h1⟩
