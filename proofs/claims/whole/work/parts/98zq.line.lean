/-! TEXTS: a line, from its head on. -/
theorem kr_hd : ∀ kc, kc < 115 → (kDom true kc = true → (kr true kc = 20 ↔ kc = 104)) ∧ (kDom false kc = true → ((21 ≤ kr false kc ∧ kr false kc ≤ 23) ↔ (104 ≤ kc ∧ kc ≤ 106)) ∧ (104 ≤ kc ∧ kc ≤ 106 → kr false kc = 20 + (kc - 103))) := by decide +kernel
/-- what a line bids -/
def Bids (law : Bool) (w q x2 : Int32) : Prop := if law then w = 0 else (∃ k, k ≤ 99 ∧ q = nI k ∧ ((w = 1 ∧ x2 = nI (k + 1)) ∨ (w = 2 ∧ x2 = nI (k + 101)))) ∨ (w = 3 ∧ x2 = 0)
section LH
variable {a B : Nat} {t : Nat → Int32} {len : Nat} {law : Bool} {n i d : Nat} {L : List (Nat × Nat)} {s r : Sig}
theorem Vd.b96 {s : Sig} (h : Vd a t len law n s) (x2 : Int32) : X5_readLine_b96 a x2 s = some s := by
  have b117 : X5_readLine_b117 a x2 s = some s := by
    unfold X5_readLine_b117; rw [h.take, bsm]; dsimp only; rw [if_pos rfl, h.b131]
  obtain ⟨x, y, e, -⟩ := h.kd
  unfold X5_readLine_b96
  rw [e, bsm, b117, h.b131]
  split
  · split <;> rfl
  · rfl
def LnO (a B : Nat) (t : Nat → Int32) (len : Nat) (law : Bool) (n i : Nat) (L : List (Nat × Nat)) (l : Nat) (s r s' : Sig) (v : Int32) (r' : Sig) : Prop := (v = 1 ∧ l < 16 ∧ ∃ (i' : Nat) (M : List (Nat × Nat)) (x2 w q : Int32), i < i' ∧ (L ++ M).length ≤ i' ∧ (M = [] ∨ tyL M [] = some [true]) ∧ Rl a B t len law n i' (L ++ M) 0 s' r' ∧ s' a 3 = nI (l + 1) ∧ s' (a + 3) = upd (s (a + 3)) l x2 ∧ s' (a + 2) = upd (s (a + 2)) (l + 1) (nI (L ++ M).length) ∧ r' (B + 4) = upd (upd (upd (upd (r (B + 4)) (4 * l) w) (4 * l + 1) q) (4 * l + 2) (nI L.length)) (4 * l + 3) (nI (L ++ M).length) ∧ Bids law w q x2) ∨ (v = 0 ∧ Bd a B t len law n s' r')
theorem Rl.good (h : Rl a B t len law n i L d s r) (hl : L.length ≤ i) {l : Nat} (h3 : s a 3 = nI l) (h10 : r B 10 = nI l) (hl16 : l < 16) {w : Nat} (hw : r B 14 = nI (20 + w)) (hg : (law = true ∧ tK t len law i = 104 ∧ w = 0) ∨ (law = false ∧ ((tK t len law i = 104 ∧ w = 1) ∨ (tK t len law i = 105 ∧ w = 2) ∨ (tK t len law i = 106 ∧ w = 3)))) : ∃ (s' : Sig) (v : Int32) (r' : Sig), X5_readLine_b44 a (nI (tK t len law i)) s = some s' ∧ ((pI r B 20 0).bind fun s5 => (X12_next0_f B s5).bind fun s7 => (st 64 s7 (B + 4) (4 * (s7 B 10)) ((r B 14) - 20)).bind fun s9 => (st 64 s9 (B + 4) ((4 * (s9 B 10)) + 1) (s9 B 16)).bind fun s11 => if ((r B 14) - 20) = 1 then (X12_aLine_b125 B (if law then 1 else 0) s11) else (if ((r B 14) - 20) = 2 then (X12_aLine_b125 B (if law then 1 else 0) s11) else (X12_aLine_b137 B (if law then 1 else 0) s11))) = some (v, r') ∧ Fc2 a s s' ∧ Fq2 B r r' ∧ LnO a B t len law n i L l s r s' v r' := by
  have hn : n ≤ 400 := h.1.1
  have hi : i ≤ n := h.2.2.1
  obtain ⟨g0, fq0⟩ := h.dep 0
  obtain ⟨s1, r1, y1, y2, y3, y4, y5⟩ := g0.step (by omega)
  have f1 := fq0.tr y4
  have r10 : r1 B 10 = nI l := by rw [f1.2 10 (by decide) (by decide) (by decide) (by decide) (by decide) (by decide) (by decide) (by decide)]; exact h10
  have s3 : s1 a 3 = nI l := by rw [y3.2 3 (by decide) (by decide) (by decide) (by decide)]; exact h3
  have s2 : s1 a 2 = if law then 1 else 0 := y5.1.2.2.2.2
  have ew : r B 14 - 20 = nI w := by
    have := pk_sub (a := 20 + w) (b := 20) (by omega)
    rw [hw, show (20 : Int32) = nI 20 from rfl, this, Nat.add_sub_cancel_left]
  obtain ⟨ra, hra⟩ : ∃ ra, ra = wr (wr r1 (B + 4) (4 * l) (nI w)) (B + 4) (4 * l + 1) (r1 B 16) := ⟨_, rfl⟩
  have ga : Rl a B t len law n (i + 1) L 0 s1 ra := by rw [hra]; exact (y5.w4 _ _).w4 _ _
  have fa : Fq2 B r ra := by rw [hra]; exact f1.up.tr ⟨fun x e1 e2 e3 => by rw [wr_row e2, wr_row e2], fun j _ _ _ _ _ _ _ _ => by rw [wr_row (by omega), wr_row (by omega)]⟩
  have ra10 : ra B 10 = nI l := by rw [hra, wr_row (by omega), wr_row (by omega)]; exact r10
  have ra16 : ra B 16 = r1 B 16 := by rw [hra, wr_row (by omega), wr_row (by omega)]
  have ra4 : ra (B + 4) = upd (upd (r (B + 4)) (4 * l) (nI w)) (4 * l + 1) (r1 B 16) := by rw [hra, wr_w, wr_w, f1.1 _ (by omega) (by omega)]
  have e4 : (4 * nI l : Int32) = nI (4 * l) := by rw [show (4 : Int32) = nI 4 from rfl, pk_mul]
  have hre : ((pI r B 20 0).bind fun s5 => (X12_next0_f B s5).bind fun s7 => (st 64 s7 (B + 4) (4 * (s7 B 10)) ((r B 14) - 20)).bind fun s9 => (st 64 s9 (B + 4) ((4 * (s9 B 10)) + 1) (s9 B 16)).bind fun s11 => if ((r B 14) - 20) = 1 then (X12_aLine_b125 B (if law then 1 else 0) s11) else (if ((r B 14) - 20) = 2 then (X12_aLine_b125 B (if law then 1 else 0) s11) else (X12_aLine_b137 B (if law then 1 else 0) s11))) = if nI w = 1 then (X12_aLine_b125 B (if law then 1 else 0) ra) else (if nI w = 2 then (X12_aLine_b125 B (if law then 1 else 0) ra) else (X12_aLine_b137 B (if law then 1 else 0) ra)) := by
    unfold pI
    rw [bsm, show (0 : Int32) = nI 0 from rfl, y2, bsm, r10, e4, ew, stn (by omega) (by decide), bsm, wr_row (by omega), r10, e4, nI_s, stn (by omega) (by decide), bsm, ← hra]
  rw [hre]
  unfold X5_readLine_b44
  rw [h3, if_pos (show nI l < 16 from nI_lt (b := 16) hl16 (by decide)), y1, bsm, s2]
  have mid : ∀ (i1 : Nat) (sb rb : Sig) (x2 : Int32), Rl a B t len law n i1 L 0 sb rb → i + 1 ≤ i1 → Fc a s1 sb → Fq B ra rb → Bids law (nI w) (r1 B 16) x2 → ∃ (s' : Sig) (v : Int32) (r' : Sig), X5_readLine_b96 a x2 sb = some s' ∧ X12_aLine_b137 B (if law then 1 else 0) rb = some (v, r') ∧ Fc2 a s s' ∧ Fq2 B r r' ∧ LnO a B t len law n i L l s r s' v r' := by
    intro i1 sb rb x2 gb hi1 fb qb hd
    obtain ⟨s', v, r', z1, z2, z3, z4, z5⟩ := gb.mid (by omega) hl16 (l := l) (by rw [fb.2 3 (by decide) (by decide) (by decide) (by decide)]; exact s3) (by rw [qb.2 10 (by decide) (by decide) (by decide) (by decide) (by decide) (by decide) (by decide) (by decide)]; exact ra10) x2
    refine ⟨s', v, r', z1, z2, (y3.tr fb).up.tr z3, fa.tr (qb.up.tr z4), ?_⟩
    rcases z5 with ⟨rfl, i', M, q1, q2, q3, q4, q5, q6, q7, q8⟩ | ⟨rfl, z5⟩
    · refine Or.inl ⟨rfl, hl16, i', M, x2, nI w, r1 B 16, by omega, by rw [List.length_append]; omega, q3, q4, q5, ?_, ?_, ?_, hd⟩
      · rw [q6, (y3.tr fb).1 _ (by omega) (by omega)]
      · rw [q7, (y3.tr fb).1 _ (by omega) (by omega)]
      · rw [q8, qb.1 _ (by omega) (by omega), ra4]
    · exact Or.inr ⟨rfl, z5⟩
  rcases hg with ⟨hlaw, -, hw0⟩ | ⟨hlaw, hg⟩
  · have dd : Bids law (nI w) (r1 B 16) 0 := by rw [hlaw, hw0]; exact rfl
    obtain ⟨s', v, r', z1, z2, z3, z4, z5⟩ := mid (i + 1) s1 ra 0 ga (Nat.le_refl _) Fc.rfl Fq.rfl dd
    rw [show (if law = true then (1 : Int32) else 0) = 1 by rw [hlaw]; rfl] at z2 ⊢
    rw [if_neg n10, if_neg (by rw [hw0]; decide), if_neg (by rw [hw0]; decide), z1, z2]
    exact ⟨s', v, r', rfl, rfl, z3, z4, z5⟩
  · rw [if_pos (show (if law = true then (1 : Int32) else 0) = 0 by rw [hlaw]; rfl)]
    have loud : ∀ (m x : Nat), (w = 1 ∧ m = 1 ∨ w = 2 ∧ m = 101) → ∃ (s' : Sig) (v : Int32) (r' : Sig), ((X5_readLoud_f a s1).bind fun ⟨v6, s7⟩ => X5_readLine_b94 a (nI m) v6 s7) = some s' ∧ X12_aLine_b125 B (if law then 1 else 0) ra = some (v, r') ∧ Fc2 a s s' ∧ Fq2 B r r' ∧ LnO a B t len law n i L l s r s' v r' := by
      intro m x hm
      obtain ⟨wv, sb, v, rb, k1, k2, k3, k4, k5⟩ := ga.loud (by omega)
      unfold X12_aLine_b125 X5_readLine_b94
      rw [k1, k2, bsm, bsm]
      dsimp only
      rcases k5 with ⟨rfl, -, k6, k7, k8, k9⟩ | ⟨rfl, k5⟩
      · rw [if_neg n10, k7, nI_add]
        rw [ra16] at k8
        refine mid _ sb rb _ k9 (by omega) k3 k4 ?_
        unfold Bids
        rw [if_neg (by rw [hlaw]; exact Bool.false_ne_true)]
        rcases hm with ⟨e1, e2⟩ | ⟨e1, e2⟩
        · exact Or.inl ⟨_, k6, k8, Or.inl ⟨by rw [e1]; rfl, by rw [e2]⟩⟩
        · exact Or.inl ⟨_, k6, k8, Or.inr ⟨by rw [e1]; rfl, by rw [e2]⟩⟩
      · rw [if_pos rfl, k5.1.b96]
        exact ⟨sb, 0, rb, rfl, rfl, (y3.tr k3).up, fa.tr k4.up, Or.inr ⟨rfl, k5⟩⟩
    rcases hg with ⟨e1, e2⟩ | ⟨e1, e2⟩ | ⟨e1, e2⟩
    · obtain ⟨s', v, r', z1, z2, z3⟩ := loud 1 0 (Or.inl ⟨e2, rfl⟩)
      rw [e1, e2, if_neg (show ¬ nI 104 = 106 by decide), if_pos (show nI 1 = 1 from rfl), z2]
      refine ⟨s', v, r', ?_, rfl, z3⟩
      rw [← z1]
      congr 1
    · obtain ⟨s', v, r', z1, z2, z3⟩ := loud 101 0 (Or.inr ⟨e2, rfl⟩)
      rw [e1, e2, if_neg (show ¬ nI 105 = 106 by decide), if_neg (show ¬ nI 2 = 1 by decide), if_pos (show nI 2 = 2 from rfl), z2]
      refine ⟨s', v, r', ?_, rfl, z3⟩
      rw [← z1]
      congr 1
    · rw [e1, e2, if_pos (show nI 106 = 106 from rfl), if_neg (show ¬ nI 3 = 1 by decide), if_neg (show ¬ nI 3 = 2 by decide)]
      refine mid (i + 1) s1 ra 0 ga (Nat.le_refl _) Fc.rfl Fq.rfl ?_
      unfold Bids
      rw [if_neg (by rw [hlaw]; exact Bool.false_ne_true), e2]
      exact Or.inr ⟨rfl, rfl⟩
theorem Rl.line (h : Rl a B t len law n i L d s r) (hl : L.length ≤ i) {l : Nat} (h3 : s a 3 = nI l) (h10 : r B 10 = nI l) (hl16 : l ≤ 16) : ∃ (s' : Sig) (v : Int32) (r' : Sig), X5_readLine_f a s = some s' ∧ X12_aLine_f B r = some (v, r') ∧ Fc2 a s s' ∧ Fq2 B r r' ∧ LnO a B t len law n i L l s r s' v r' := by
  have hn : n ≤ 400 := h.1.1
  have hi : i ≤ n := h.2.2.1
  have h2 : s a 2 = if law then 1 else 0 := h.1.2.2.2.2
  have h9 : 2 ≤ r B 9 ↔ law = false := h.2.1.2.2.1
  have h14 : r B 14 = nI (kr law (tK t len law i)) := h.2.2.2.2.2.2.2.1
  obtain ⟨kd, kl⟩ := tK_dom (t := t) (len := len) (law := law) i
  have k200 := (kr_tab law _ kl kd).1
  obtain ⟨ht, hf⟩ := kr_hd _ kl
  have b1 : X12_aLine_f B r = X12_aLine_b41 B (if law then 1 else 0) (if law then 0 else 3) 20 (if law then 20 else 21) (r B 14) r := by
    unfold X12_aLine_f X12_aLine_b13 X12_aLine_b29
    cases law
    · rw [if_pos (h9.mpr rfl), if_pos rfl, if_pos rfl]; rfl
    · rw [if_neg (fun z => Bool.noConfusion (h9.mp z)), if_neg n10, if_neg n10]; rfl
  -- a head that is none
  have bad : ∀ k : Nat, k ≠ 0 → k < 10 → ∃ (s' : Sig) (v : Int32) (r' : Sig), ((X5_fail_f a (nI k) s).bind fun s1 => some s1) = some s' ∧ ((X12_bad_f B (nI k) r).bind fun ⟨v18, s19⟩ => if v18 = 0 ∨ v18 = 1 then some (v18, s19) else none) = some (v, r') ∧ Fc2 a s s' ∧ Fq2 B r r' ∧ LnO a B t len law n i L l s r s' v r' := by
    intro k hk hk2
    obtain ⟨s1, r1, z1, z2, z3, z4, z5⟩ := h.fail (k := k) (by omega) hk hk2
    rw [z1, bsm, z2, bsm]
    exact ⟨s1, 0, r1, rfl, rfl, z3.up, z4.up, Or.inr ⟨rfl, z5⟩⟩
  -- a head
  have fine : ∀ w : Nat, r B 14 = nI (20 + w) → ((law = true ∧ tK t len law i = 104 ∧ w = 0) ∨ (law = false ∧ ((tK t len law i = 104 ∧ w = 1) ∨ (tK t len law i = 105 ∧ w = 2) ∨ (tK t len law i = 106 ∧ w = 3)))) → (∀ σ, X12_isIn_f (r B 14) (if law then 20 else 21) ((20 : Int32) + (if law then 0 else 3)) σ = some 1) → ∃ (s' : Sig) (v : Int32) (r' : Sig), X5_readLine_b44 a (nI (tK t len law i)) s = some s' ∧ X12_aLine_b41 B (if law then 1 else 0) (if law then 0 else 3) 20 (if law then 20 else 21) (r B 14) r = some (v, r') ∧ Fc2 a s s' ∧ Fq2 B r r' ∧ LnO a B t len law n i L l s r s' v r' := by
    intro w hw hg his
    unfold X12_aLine_b41
    rw [his, bsm, if_neg n10, h10]
    rcases Nat.lt_or_ge l 16 with c | c
    · obtain ⟨s', v, r', z1, z2, z3⟩ := h.good hl h3 h10 c hw hg
      rw [if_neg (show ¬ nI l = 16 from fun z => by have := nI_inj (b := 16) (by omega) (by decide) z; omega)]
      exact ⟨s', v, r', z1, z2, z3⟩
    · have e : l = 16 := by omega
      unfold X5_readLine_b44
      rw [h3, e, if_neg (show ¬ nI 16 < 16 by decide), if_pos (show nI 16 = 16 from rfl)]
      rw [e] at bad
      exact bad 3 (by decide) (by decide)
  rw [b1]
  unfold X5_readLine_f
  rw [h.kd, bsm, h2]
  have out : (∀ σ, X12_isIn_f (r B 14) (if law then 20 else 21) ((20 : Int32) + (if law then 0 else 3)) σ = some 0) → ∃ (s' : Sig) (v : Int32) (r' : Sig), X5_readLine_b38 a s = some s' ∧ X12_aLine_b41 B (if law then 1 else 0) (if law then 0 else 3) 20 (if law then 20 else 21) (r B 14) r = some (v, r') ∧ Fc2 a s s' ∧ Fq2 B r r' ∧ LnO a B t len law n i L l s r s' v r' := by
    intro his
    unfold X12_aLine_b41 X5_readLine_b38
    rw [his, bsm, if_pos rfl]
    exact bad 1 (by decide) (by decide)
  cases law
  · obtain ⟨t1, t2⟩ := hf kd
    rw [if_pos (show (if false = true then (1 : Int32) else 0) = 0 from rfl)]
    by_cases c : 104 ≤ tK t len false i ∧ tK t len false i ≤ 106
    · have e := t2 c
      obtain ⟨c1, c2⟩ := c
      rw [if_neg (show ¬ nI (tK t len false i) < 104 from nI_nlt (b := 104) c1 (by omega)), if_pos (show nI (tK t len false i) ≤ 106 from nI_le (b := 106) c2 (by decide))]
      refine fine (tK t len false i - 103) (by rw [h14, e]) (Or.inr ⟨rfl, by omega⟩) (fun σ => ?_)
      rw [h14, e]
      exact re_isIn_in (nI_le (a := 21) (by omega) (by omega)) (nI_le (b := 23) (by omega) (by decide))
    · have hc : ¬ (21 ≤ kr false (tK t len false i) ∧ kr false (tK t len false i) ≤ 23) := fun z => c (t1.mp z)
      have ho : ∀ σ, X12_isIn_f (r B 14) (if false = true then 20 else 21) ((20 : Int32) + (if false = true then 0 else 3)) σ = some 0 := fun σ => by
        rw [h14]
        refine re_isIn_out ?_
        rcases Nat.lt_or_ge (kr false (tK t len false i)) 21 with c' | c'
        · exact Or.inl (nI_lt (b := 21) c' (by decide))
        · exact Or.inr (nI_lt (a := 23) (by omega) (by omega))
      rcases Nat.lt_or_ge (tK t len false i) 104 with c' | c'
      · rw [if_pos (show nI (tK t len false i) < 104 from nI_lt (b := 104) c' (by decide))]
        exact out ho
      · rw [if_neg (show ¬ nI (tK t len false i) < 104 from nI_nlt (b := 104) c' (by omega)), if_neg (show ¬ nI (tK t len false i) ≤ 106 from Int32.not_le.mpr (nI_lt (a := 106) (by omega) (by omega)))]
        exact out ho
  · have t1 := ht kd
    rw [if_neg (show ¬ (if true = true then (1 : Int32) else 0) = 0 from n10)]
    by_cases c : tK t len true i = 104
    · have e := t1.mpr c
      rw [if_pos (show nI (tK t len true i) = 104 by rw [c]; rfl)]
      refine fine 0 (by rw [h14, e]) (Or.inl ⟨rfl, c, rfl⟩) (fun σ => ?_)
      rw [h14, e]
      exact re_isIn_in (by decide) (by decide)
    · have hc : kr true (tK t len true i) ≠ 20 := fun z => c (t1.mp z)
      rw [if_neg (show ¬ nI (tK t len true i) = 104 from fun z => c (nI_inj (b := 104) (by omega) (by decide) z))]
      refine out (fun σ => ?_)
      rw [h14]
      refine re_isIn_out ?_
      rcases Nat.lt_or_ge (kr true (tK t len true i)) 20 with c' | c'
      · exact Or.inl (nI_lt (b := 20) c' (by decide))
      · exact Or.inr (nI_lt (a := 20) (by omega) (by omega))
end LH
