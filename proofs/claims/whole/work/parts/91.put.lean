/-! wall, tell, helpers, one, debt: numbers put on both sides. -/
/-- all agrees but what is on the list -/
def RcX (L : List Nat) (σ : Sig) (W : Nat) (w : wF) (n nd : Nat) : Prop := ∀ i k j, Cor n nd i k j → j ∉ L → σ (W + i) k = w j
theorem RcX.put {L : List Nat} {σ : Sig} {W : Nat} {w : wF} {n nd i k j : Nat} {v : Int32} (hn : n ≤ 12) (hd : nd ≤ 40) (h : RcX (j :: L) σ W w n nd) (hc : Cor n nd i k j) : RcX L (wr σ (W + i) k v) W (upd w j v) n nd := by
  intro i' k' j' h' hL
  have hi := Cor.inj hn hd h' hc
  by_cases e : j' = j
  · obtain ⟨e1, e2⟩ := hi.mpr e
    rw [e, upd_eq, e1, e2, wr_same, if_pos rfl]
  · rw [upd_ne e]
    have hL' : j' ∉ j :: L := by
      intro q
      rcases List.mem_cons.mp q with z | z
      · exact e z
      · exact hL z
    by_cases e1 : i' = i
    · rw [e1, wr_same, if_neg (fun e2 => e (hi.mp ⟨e1, e2⟩)), ← e1]; exact h _ _ _ h' hL'
    · rw [wr_row (by omega)]; exact h _ _ _ h' hL'
theorem RcX.rc {σ : Sig} {W : Nat} {w : wF} {n nd : Nat} (h : RcX [] σ W w n nd) : Rc σ W w n nd := Rc.cor.mpr (fun i k j hc => h i k j hc (fun q => by cases q))
/-- one of the people's own ranges -/
def Pok (w : wF) (n p : Nat) : Prop := upTo (w (90 + 8 * p)) 2 ∧ upTo (w (90 + 8 * p + 1)) 5 ∧ upTo (w (90 + 8 * p + 2)) 99 ∧ upTo (w (90 + 8 * p + 3)) 1000 ∧ upTo (w (90 + 8 * p + 4)) 4 ∧ orNone (w (90 + 8 * p + 6)) n ∧ (w (90 + 8 * p + 6) ≠ -1 → w (90 + 8 * p) = 1)
theorem RgP.at {w w' : wF} {n p : Nat} (h : RgP w n) (hw : ∀ j, (j < 90 + 8 * p ∨ 90 + 8 * p + 8 ≤ j) → w' j = w j) (h' : Pok w' n p) : RgP w' n := by
  refine ⟨h.1, by rw [hw 9 (by omega)]; exact h.2.1, fun x hx => ?_⟩
  by_cases c : x = p
  · subst c; exact h'
  · have q := h.2.2 x hx
    rw [hw (90 + 8 * x) (by omega), hw (90 + 8 * x + 1) (by omega), hw (90 + 8 * x + 2) (by omega), hw (90 + 8 * x + 3) (by omega), hw (90 + 8 * x + 4) (by omega), hw (90 + 8 * x + 6) (by omega)]
    exact q
theorem go_P {A b : Nat} {τ : Tau} {σ : Sig} {nx n nd : Nat} (hI : Inv A b (τ, σ, nx)) (hG : Rg (σ (A + 84 + 1)) n nd) {p f : Nat} {v : Int32} (hp : p < n) (hf : f < 7) (hv : Pok (upd (σ (A + 84 + 1)) (90 + 8 * p + f) v) n p) : Inv A b (τ, wr (wr σ (A + 5 + (2 + f)) p v) (A + 84 + 1) (90 + 8 * p + f) v, nx) := by
  obtain ⟨n', nd', hG', hR, hB, hT, hBr⟩ := hI.wd
  dsimp only at hG' hR hB hT hBr
  obtain ⟨rfl, rfl⟩ := hG.uniq hG'
  have h12 := hG.le12
  have hw2 : wr (wr σ (A + 5 + (2 + f)) p v) (A + 84 + 1) (90 + 8 * p + f) v (A + 84 + 1) = upd (σ (A + 84 + 1)) (90 + 8 * p + f) v := by rw [wr_w, wr_row (by omega)]
  have ho : ∀ a, a ≠ A + 5 + (2 + f) → a ≠ A + 85 → wr (wr σ (A + 5 + (2 + f)) p v) (A + 84 + 1) (90 + 8 * p + f) v a = σ a := fun a h1 h2 => by rw [wr_row (by omega), wr_row h1]
  refine hI.go1 (fun a h1 h2 _ _ _ _ => ho a (by omega) h2) ?_
  rw [hw2]
  have hR' := hR.put (v := v) hG.le12 hG.le40 (i := 2 + f) (k := p) (Or.inr (Or.inr (Or.inl ⟨hp, f, hf, rfl, rfl⟩)))
  have hR2 : Rc (wr (wr σ (A + 5 + (2 + f)) p v) (A + 84 + 1) (90 + 8 * p + f) v) (A + 5) (upd (σ (A + 84 + 1)) (90 + 8 * p + f) v) n' nd' := hR'.fr (fun i hi => wr_row (by omega))
  exact Wd.mkP hG hR hB hT hBr (fun a ha _ => ho a (by omega) (by omega)) (fun i h1 h2 => ho _ (by omega) (by omega)) (fun j h1 h2 => upd_ne (by omega)) (Nat.le_refl _) hR2.1 (hG.1.at (fun j hj => upd_ne (by omega)) hv)
theorem go_D {A b : Nat} {τ : Tau} {σ : Sig} {nx n nd : Nat} (hI : Inv A b (τ, σ, nx)) (hG : Rg (σ (A + 84 + 1)) n nd) {d f : Nat} {v : Int32} (hd : d < nd) (hf : f < 7) (hv : Dok (upd (σ (A + 84 + 1)) (230 + 8 * d + f) v) n d) : Inv A b (τ, wr (wr σ (A + 5 + (13 + f)) d v) (A + 84 + 1) (230 + 8 * d + f) v, nx) := by
  obtain ⟨n', nd', hG', hR, hB, hT, hBr⟩ := hI.wd
  dsimp only at hG' hR hB hT hBr
  obtain ⟨rfl, rfl⟩ := hG.uniq hG'
  have h40 := hG.le40
  have hw2 : wr (wr σ (A + 5 + (13 + f)) d v) (A + 84 + 1) (230 + 8 * d + f) v (A + 84 + 1) = upd (σ (A + 84 + 1)) (230 + 8 * d + f) v := by rw [wr_w, wr_row (by omega)]
  have ho : ∀ a, a ≠ A + 5 + (13 + f) → a ≠ A + 85 → wr (wr σ (A + 5 + (13 + f)) d v) (A + 84 + 1) (230 + 8 * d + f) v a = σ a := fun a h1 h2 => by rw [wr_row (by omega), wr_row h1]
  refine hI.go1 (fun a h1 h2 _ _ _ _ => ho a (by omega) h2) ?_
  rw [hw2]
  have hR' := hR.put (v := v) hG.le12 hG.le40 (i := 13 + f) (k := d) (Or.inr (Or.inr (Or.inr (Or.inr (Or.inl ⟨hd, f, hf, rfl, rfl⟩)))))
  have hR2 : Rc (wr (wr σ (A + 5 + (13 + f)) d v) (A + 84 + 1) (230 + 8 * d + f) v) (A + 5) (upd (σ (A + 84 + 1)) (230 + 8 * d + f) v) n' nd' := hR'.fr (fun i hi => wr_row (by omega))
  exact Wd.mkD hG hR hB hT hBr (fun a ha _ => ho a (by omega) (by omega)) (fun i h1 h2 h3 => ho _ (by omega) (by omega)) (fun j h1 h2 => upd_ne (by omega)) (Nat.le_refl _) hR2.2.1 (hG.atD hd (fun j hj => upd_ne (by omega)) hv).2.1
/-- an answer that changes nothing -/
theorem Inv.no {A b : Nat} {τ : Tau} {σ : Sig} {nx : Nat} (hI : Inv A b (τ, σ, nx)) {cl : Option (Int32 × Sig)} {re : Sig → Option (Int32 × Sig)} {r : Int32} (h1 : cl = some (r, σ)) (h2 : re σ = some (r, σ)) : ∃ (r : Int32) (h1 h2 : Hp), (cl.bind fun p => some (p.1, ((τ, p.2, nx) : Hp))) = some (r, h1) ∧ ShX12 h1.1 (A + 84) ∧ ((re h1.2.1).bind fun p => some (p.1, ((h1.1, p.2, h1.2.2) : Hp))) = some (r, h2) ∧ Inv A b h2 :=
  ⟨r, (τ, σ, nx), (τ, σ, nx), by rw [h1, bsm], hI.s2, by dsimp only; rw [h2, bsm], hI⟩
theorem Inv.yes {A b : Nat} {τ : Tau} {σ s r' : Sig} {nx : Nat} (hI : Inv A b (τ, σ, nx)) {cl : Option (Int32 × Sig)} {re : Sig → Option (Int32 × Sig)} {r : Int32} (h1 : cl = some (r, s)) (h2 : re s = some (r, r')) (h3 : Inv A b (τ, r', nx)) : ∃ (r : Int32) (h1 h2 : Hp), (cl.bind fun p => some (p.1, ((τ, p.2, nx) : Hp))) = some (r, h1) ∧ ShX12 h1.1 (A + 84) ∧ ((re h1.2.1).bind fun p => some (p.1, ((h1.1, p.2, h1.2.2) : Hp))) = some (r, h2) ∧ Inv A b h2 :=
  ⟨r, (τ, s, nx), (τ, r', nx), by rw [h1, bsm], hI.s2, by dsimp only; rw [h2, bsm], h3⟩
theorem st_wall (A b : Nat) : St_wall (Inv A b) A (A + 84) := by
  intro h v1 v2 v3 hI
  obtain ⟨τ, σ, nx⟩ := h
  show ∃ (r : Int32) (h1 h2 : Hp), ((X11_wall_f A v1 v2 v3 σ).bind fun p => some (p.1, ((τ, p.2, nx) : Hp))) = some (r, h1) ∧ ShX12 h1.1 (A + 84) ∧ ((X12_wall_f (A + 84) v1 v2 v3 h1.2.1).bind fun p => some (p.1, ((h1.1, p.2, h1.2.2) : Hp))) = some (r, h2) ∧ Inv A b h2
  rcases place_in v1 σ σ with ⟨p, hp, rfl, a1, a2⟩ | ⟨a1, a2⟩
  rotate_left
  · refine hI.no (re := fun ρ => X12_wall_f (A + 84) v1 v2 v3 ρ) (r := 0) ?_ ?_
    · unfold X11_wall_f; rw [a1, bsm, if_pos rfl]
    · unfold X12_wall_f; rw [a2, bsm, if_pos rfl]
  rcases place_in v2 σ σ with ⟨q, hq, rfl, c1, c2⟩ | ⟨c1, c2⟩
  rotate_left
  · refine hI.no (re := fun ρ => X12_wall_f (A + 84) (nI p) v2 v3 ρ) (r := 0) ?_ ?_
    · unfold X11_wall_f; rw [a1, bsm, if_neg n10, c1, bsm, if_pos rfl]
    · unfold X12_wall_f; rw [a2, bsm, if_neg n10, c2, bsm, if_pos rfl]
  by_cases e : p = q
  · subst e
    refine hI.no (re := fun ρ => X12_wall_f (A + 84) (nI p) (nI p) v3 ρ) (r := 0) ?_ ?_
    · unfold X11_wall_f; rw [a1, bsm, if_neg n10, bsm, if_neg n10, if_pos rfl]
    · unfold X12_wall_f; rw [a2, bsm, if_neg n10, bsm, if_neg n10, if_pos rfl]
  have e' : ¬ nI p = nI q := fun z => e (nI_inj (by omega) (by omega) z)
  rcases within_in v3 0 99 σ σ with ⟨l1, l2, d1, d2⟩ | ⟨d1, d2⟩
  rotate_left
  · refine hI.no (re := fun ρ => X12_wall_f (A + 84) (nI p) (nI q) v3 ρ) (r := 0) ?_ ?_
    · unfold X11_wall_f; rw [a1, bsm, if_neg n10, c1, bsm, if_neg n10, if_neg e', d1, bsm, if_pos rfl]
    · unfold X12_wall_f; rw [a2, bsm, if_neg n10, c2, bsm, if_neg n10, if_neg e', d2, bsm, if_pos rfl]
  have hv : upTo v3 99 := by
    rcases inUp v3 (m := 99) (by decide) with h | h
    · exact h
    · exact absurd h (fun z => z.elim (fun z => absurd z (Int32.not_lt.mpr l1)) (fun z => absurd z (Int32.not_lt.mpr l2)))
  have i1 : (nI p * 6 + nI q : Int32) = nI (6 * p + q) := by rw [show (6 : Int32) = nI 6 from rfl, pk_mul, nI_add, Nat.mul_comm]
  have i2 : (nI q * 6 + nI p : Int32) = nI (6 * q + p) := by rw [show (6 : Int32) = nI 6 from rfl, pk_mul, nI_add, Nat.mul_comm]
  have j1 : ((50 + (6 * nI p)) + nI q : Int32) = nI (50 + (6 * p + q)) := by rw [show (50 : Int32) = nI 50 from rfl, show (6 : Int32) = nI 6 from rfl, pk_mul, nI_add, nI_add, Nat.add_assoc]
  have j2 : ((50 + (6 * nI q)) + nI p : Int32) = nI (50 + (6 * q + p)) := by rw [show (50 : Int32) = nI 50 from rfl, show (6 : Int32) = nI 6 from rfl, pk_mul, nI_add, nI_add, Nat.add_assoc]
  have a2' : ∀ s : Sig, X12_isPlace_f (nI p) s = some 1 := fun s => (plc (σ := s) ⟨p, hp, rfl⟩).2
  have c2' : ∀ s : Sig, X12_isPlace_f (nI q) s = some 1 := fun s => (plc (σ := s) ⟨q, hq, rfl⟩).2
  refine hI.yes (re := fun ρ => X12_wall_f (A + 84) (nI p) (nI q) v3 ρ) (r := 1) (s := wr (wr σ (A + 5 + 23 + 1) (6 * p + q) v3) (A + 5 + 23 + 1) (6 * q + p) v3) (r' := wr (wr (wr (wr σ (A + 5 + 23 + 1) (6 * p + q) v3) (A + 5 + 23 + 1) (6 * q + p) v3) (A + 84 + 1) (50 + (6 * p + q)) v3) (A + 84 + 1) (50 + (6 * q + p)) v3) ?_ ?_ ?_
  · unfold X11_wall_f X9_putWall_f
    rw [a1, bsm, if_neg n10, c1, bsm, if_neg n10, if_neg e', d1, bsm, if_neg n10, i1, i2, stn (by omega) (by decide), bsm, stn (by omega) (by decide), bsm, bsm]
  · unfold X12_wall_f
    rw [a2', bsm, if_neg n10, c2', bsm, if_neg n10, if_neg e', re_isIn_in l1 l2, bsm, if_neg n10, j1, j2, stn (by omega) (by decide), bsm, stn (by omega) (by decide), bsm]
  · have hw2 : ∀ j, wr (wr (wr (wr σ (A + 5 + 23 + 1) (6 * p + q) v3) (A + 5 + 23 + 1) (6 * q + p) v3) (A + 84 + 1) (50 + (6 * p + q)) v3) (A + 84 + 1) (50 + (6 * q + p)) v3 (A + 84 + 1) j = if j = 50 + (6 * q + p) then v3 else if j = 50 + (6 * p + q) then v3 else σ (A + 84 + 1) j := by
      intro j
      rw [wr_same, wr_same, wr_row (by omega), wr_row (by omega)]
    have hs2 : ∀ j, wr (wr (wr (wr σ (A + 5 + 23 + 1) (6 * p + q) v3) (A + 5 + 23 + 1) (6 * q + p) v3) (A + 84 + 1) (50 + (6 * p + q)) v3) (A + 84 + 1) (50 + (6 * q + p)) v3 (A + 5 + 23 + 1) j = if j = 6 * q + p then v3 else if j = 6 * p + q then v3 else σ (A + 5 + 23 + 1) j := by
      intro j
      rw [wr_row (by omega), wr_row (by omega), wr_same, wr_same]
    have ho : ∀ a, a ≠ A + 29 → a ≠ A + 85 → wr (wr (wr (wr σ (A + 5 + 23 + 1) (6 * p + q) v3) (A + 5 + 23 + 1) (6 * q + p) v3) (A + 84 + 1) (50 + (6 * p + q)) v3) (A + 84 + 1) (50 + (6 * q + p)) v3 a = σ a := fun a h1 h2 => by rw [wr_row (by omega), wr_row (by omega), wr_row (by omega), wr_row (by omega)]
    generalize wr (wr (wr (wr σ (A + 5 + 23 + 1) (6 * p + q) v3) (A + 5 + 23 + 1) (6 * q + p) v3) (A + 84 + 1) (50 + (6 * p + q)) v3) (A + 84 + 1) (50 + (6 * q + p)) v3 = σ2 at hw2 hs2 ho
    have hwo : ∀ j, (j < 50 ∨ 86 ≤ j) → σ2 (A + 84 + 1) j = σ (A + 84 + 1) j := fun j hj => by rw [hw2, if_neg (by omega), if_neg (by omega)]
    refine go_T hI (fun a h1 h2 h3 h4 h5 => ho a h2 h5) (fun j h1 h2 => hwo j (by omega)) (fun n hT hG => ?_)
    obtain ⟨t1, t2, t3⟩ := RcT.sc.mp hT
    obtain ⟨g1, g2, g3, g4, g5, g6, g7, g8⟩ := hG
    refine ⟨RcT.sc.mpr ⟨fun j hj => ?_, fun t ht => ?_, fun x hx => ?_⟩, fun t ht => ?_, ?_, ?_, ?_, ?_, ?_, fun j hj => ?_, ?_⟩
    · rw [hs2, hw2]
      by_cases q1 : j = 6 * q + p
      · rw [if_pos q1, if_pos (show 50 + j = 50 + (6 * q + p) by omega)]
      · rw [if_neg q1, if_neg (show ¬ 50 + j = 50 + (6 * q + p) by omega)]
        by_cases q2 : j = 6 * p + q
        · rw [if_pos q2, if_pos (show 50 + j = 50 + (6 * p + q) by omega)]
        · rw [if_neg q2, if_neg (show ¬ 50 + j = 50 + (6 * p + q) by omega)]; exact t1 j hj
    · rw [ho _ (by omega) (by omega), hwo _ (by omega)]; exact t2 t ht
    · have := scT_rng x hx
      rw [ho _ (by omega) (by omega), hwo _ (by omega)]; exact t3 x hx
    · rw [hwo _ (by omega)]; exact g1 t ht
    · rw [hwo _ (by omega)]; exact g2
    · rw [hwo _ (by omega)]; exact g3
    · rw [hwo _ (by omega)]; exact g4
    · rw [hwo _ (by omega)]; exact g5
    · rw [hwo _ (by omega)]; exact g6
    · rw [hw2]
      split
      · exact hv
      · split
        · exact hv
        · exact g7 j hj
    · rw [hwo _ (by omega)]; exact g8
theorem two_pow_m1 : ∀ n, n ≤ 12 → ((1 : Int32) <<< (nI n &&& 31)) - 1 = nI (2 ^ n - 1) := by decide +kernel
theorem st_helpers (A b : Nat) : St_helpers (Inv A b) A (A + 84) := by
  intro h v1 v2 hI
  obtain ⟨τ, σ, nx⟩ := h
  obtain ⟨n, nd, hT, hF, hz⟩ := hI.zz
  have hzz := hz σ rfl
  have h12 := hzz.n12
  have h40 := hzz.d40
  show ∃ (r : Int32) (h1 h2 : Hp), ((X11_helpers_f A v1 v2 σ).bind fun p => some (p.1, ((τ, p.2, nx) : Hp))) = some (r, h1) ∧ ShX12 h1.1 (A + 84) ∧ ((X12_helpers_f (A + 84) v1 v2 h1.2.1).bind fun p => some (p.1, ((h1.1, p.2, h1.2.2) : Hp))) = some (r, h2) ∧ Inv A b h2
  have p2 : 1 ≤ 2 ^ n := Nat.one_le_two_pow
  have p3 : 2 ^ n ≤ 2 ^ 12 := Nat.pow_le_pow_right (by decide) h12
  rcases oneOf v1 nd with ⟨d, hd, rfl⟩ | ho
  rotate_left
  · refine hI.no (re := fun ρ => X12_helpers_f (A + 84) v1 v2 ρ) (r := 0) ?_ ?_
    · unfold X11_helpers_f; rw [has3_out h40 hzz.cd ho, bsm, if_pos rfl]
    · unfold X12_helpers_f; rw [re_isDebt_out h40 hzz.wd ho, bsm, if_pos rfl]
  rcases within_in v2 0 (nI (2 ^ n - 1)) σ σ with ⟨l1, l2, d1, d2⟩ | ⟨d1, d2⟩
  rotate_left
  · refine hI.no (re := fun ρ => X12_helpers_f (A + 84) (nI d) v2 ρ) (r := 0) ?_ ?_
    · unfold X11_helpers_f; rw [has3_in h40 hzz.cd hd, bsm, if_neg n10, hzz.cn, two_pow_m1 n h12, d1, bsm, if_pos rfl]
    · unfold X12_helpers_f; rw [re_isDebt_in h40 hzz.wd hd, bsm, if_neg n10, LW.2.2.2.2.2.2.2.2.2.1, bsm, hzz.wn, two_pow_m1 n h12, d2, bsm, if_pos rfl]
  have e9 : wr σ (A + 5 + 12 + 6) d v2 (A + 84 + 1) = σ (A + 84 + 1) := wr_row (by omega)
  refine hI.yes (re := fun ρ => X12_helpers_f (A + 84) (nI d) v2 ρ) (r := 1) (s := wr σ (A + 5 + 12 + 6) d v2) (r' := wr (wr σ (A + 5 + 12 + 6) d v2) (A + 84 + 1) (230 + 8 * d + 5) v2) ?_ ?_ ?_
  · unfold X11_helpers_f; rw [has3_in h40 hzz.cd hd, bsm, if_neg n10, hzz.cn, two_pow_m1 n h12, d1, bsm, if_neg n10, stn (by omega) (by decide), bsm]
  · unfold X12_helpers_f; rw [re_isDebt_in h40 (by rw [e9]; exact hzz.wd) hd, bsm, if_neg n10, LW.2.2.2.2.2.2.2.2.2.1, bsm, e9, hzz.wn, two_pow_m1 n h12, re_isIn_in l1 l2, bsm, if_neg n10, rL5 (by omega), bsm]
  · refine go_D hI hzz.g (f := 5) hd (by decide) ?_
    obtain ⟨q1, q2, q3, q4, q5, q6, q7⟩ := hzz.g.dok hd
    unfold Dok
    rw [upd_eq, upd_ne (by omega), upd_ne (by omega), upd_ne (by omega), upd_ne (by omega), upd_ne (by omega)]
    refine ⟨q1, q2, q3, q4, q5, ?_, q7⟩
    rcases inUp v2 (m := 2 ^ n - 1) (by omega) with ⟨k, hk, e⟩ | h
    · exact ⟨k, by omega, e⟩
    · exact absurd h (fun z => z.elim (fun z => absurd z (Int32.not_lt.mpr l1)) (fun z => absurd z (Int32.not_lt.mpr l2)))
