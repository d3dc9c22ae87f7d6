/-! TEXTS: or, and. -/
theorem kr_wd : ∀ law : Bool, ∀ kc, kc < 115 → kDom law kc = true → (kr law kc = 3 ↔ kc = 100) ∧ (kr law kc = 4 ↔ kc = 101) ∧ (kr law kc = 5 ↔ kc = 102) ∧ (kr law kc = 6 ↔ kc = 103) := by decide +kernel
def pA (p : Bool) : Int32 := if p then 1 else 0
def pAn (p : Bool) : Nat := if p then 1 else 0
def stA (p : Bool) (T : List Bool) : List Bool := if p then true :: true :: T else true :: T
theorem stA_len {p : Bool} {T : List Bool} : (stA p T).length ≤ T.length + 2 := by
  cases p
  · show T.length + 1 ≤ _; omega
  · show T.length + 1 + 1 ≤ _; omega
theorem stA_20 {p : Bool} {T : List Bool} : tyS 20 (true :: stA p T) = some (stA p T) := by cases p <;> rfl
section AN
variable {a B : Nat} {t : Nat → Int32} {len : Nat} {law : Bool} {n d : Nat} {qc qa : Nat → Int32 → Sig → Option Sig} {qo : Nat → Sig → Option (Int32 × Sig)}
theorem Rl.k4 {i : Nat} {L : List (Nat × Nat)} {s r : Sig} (h : Rl a B t len law n i L d s r) : (r B 14 = 3 ↔ tK t len law i = 100) ∧ (r B 14 = 4 ↔ tK t len law i = 101) ∧ (r B 14 = 5 ↔ tK t len law i = 102) ∧ (r B 14 = 6 ↔ tK t len law i = 103) := by
  obtain ⟨kd, kl⟩ := tK_dom (t := t) (len := len) (law := law) i
  have k200 := (kr_tab law _ kl kd).1
  obtain ⟨k3, k4, k5, k6⟩ := kr_wd law _ kl kd
  rw [h.2.2.2.2.2.2.2.1]
  exact ⟨(nI_eq (b := 3) (by omega) (by decide)).trans k3, (nI_eq (b := 4) (by omega) (by decide)).trans k4, (nI_eq (b := 5) (by omega) (by decide)).trans k5, (nI_eq (b := 6) (by omega) (by decide)).trans k6⟩
theorem Vd.b130 {s : Sig} (h : Vd a t len law n s) (x2 : Int32) : ∃ s', X5_anyOf_b130 qc qa a x2 s = some s' ∧ Ke a s s' ∧ Vd a t len law n s' := by
  unfold X5_anyOf_b130
  by_cases c : x2 = 0
  · rw [if_pos c]; exact ⟨s, rfl, Ke.rfl, h⟩
  · obtain ⟨s1, z1, z2, z3⟩ := h.emit 11 0
    rw [if_neg c, z1, bsm]; exact ⟨s1, rfl, z2, z3⟩
theorem Vd.b9 {s : Sig} (h : Vd a t len law n s) (fu : Nat) (x1 x2 x3 : Int32) : ∃ s', X5_anyOf_b9 qc qa a (fu + 1) x1 x2 x3 s = some s' ∧ Ke a s s' ∧ Vd a t len law n s' := by
  obtain ⟨s', z1, z2, z3⟩ := h.b130 (qc := qc) (qa := qa) x2
  refine ⟨s', ?_, z2, z3⟩
  show (if (400 : Int32) ≤ x3 then _ else _) = _
  rw [if_neg h.2.1, z1]
  split <;> rfl
def tailA (B : Nat) (q1 q2 q3 : Nat → Sig → Option (Int32 × Sig)) (p : Bool) (fu : Nat) (s : Sig) : Option (Int32 × Sig) := if p then (X12_lay_f B 21 0 s).bind fun s7 => X12_any_b9 q1 q2 q3 B fu s7 else X12_any_b9 q1 q2 q3 B fu s
def anyR (B : Nat) (q1 q2 q3 : Nat → Sig → Option (Int32 × Sig)) (e1 e2 : Nat → Sig → Option (Int32 × Sig)) (qo : Nat → Sig → Option (Int32 × Sig)) (p : Bool) (fu fu2 : Nat) (r : Sig) : Option (Int32 × Sig) := (X12_every_b9 e1 e2 qo B fu r).bind fun ⟨v, s4⟩ => if v = 0 then some (0, s4) else tailA B q1 q2 q3 p fu2 s4
theorem Rl.pendA {i : Nat} {L : List (Nat × Nat)} {s r : Sig} (h : Rl a B t len law n i L d s r) {p : Bool} (hl : L.length + pAn p ≤ i) (q1 q2 q3 : Nat → Sig → Option (Int32 × Sig)) : ∃ s' r' M, X5_anyOf_b130 qc qa a (pA p) s = some s' ∧ (∀ fu, tailA B q1 q2 q3 p fu r = X12_any_b9 q1 q2 q3 B fu r') ∧ Fc a s s' ∧ Fq B r r' ∧ M.length = pAn p ∧ Rl a B t len law n i (L ++ M) d s' r' ∧ ∀ T, tyL M (stA p T) = some (true :: T) := by
  have hn : n ≤ 400 := h.1.1
  have hi := h.2.2.1
  cases p with
  | false => exact ⟨s, r, [], rfl, fun fu => rfl, Fc.rfl, Fq.rfl, rfl, by rw [List.append_nil]; exact h, fun T => rfl⟩
  | true =>
    have hl : L.length + 1 ≤ i := hl
    obtain ⟨s', r', z1, z2, z3, z4, z5⟩ := h.emit (x := 21) (y := 0) (e := 11) (x1 := 11) (x2 := 0) (v := 0) (by omega) (by decide) (by decide) (enc_op law).2.2.2.2.2.2.2.2 (fun z => by omega) (sh4 (x := 11) (y := 0) (by decide) (by decide))
    refine ⟨s', r', [(21, 0)], ?_, fun fu => ?_, z3, z4, rfl, z5, fun T => rfl⟩
    · unfold X5_anyOf_b130
      rw [if_neg (show ¬ pA true = 0 by decide), z1, bsm]
    · show ((X12_lay_f B (nI 21) 0 r).bind _) = _
      rw [z2, bsm]
theorem any_sim {K : Nat} {q1 q3 e1 e2 : Nat → Sig → Option (Int32 × Sig)} (HC : ∀ i L s r, Rl a B t len law n i L d s r → L.length ≤ i → Oc a B t len law n i L d s r K id true 0 (qc a (nI d) s) (qo B r)) : ∀ (k i : Nat) (L : List (Nat × Nat)) (s r : Sig) (p : Bool) (m fu fu1 fu2 : Nat), n - i = k → Rl a B t len law n i L d s r → L.length + pAn p ≤ i → m ≤ i → n - i < fu → n - i < fu1 → n - i < fu2 → Oc a B t len law n i L d s r (K + 2) (stA p) true (pAn p) (X5_anyOf_b9 qc qa a fu (nI d) (pA p) (nI m) s) (anyR B q1 (X12_every_F e1 e2 qo) q3 e1 e2 qo p fu1 fu2 r) := by
  intro k
  induction k using Nat.strongRecOn with
  | ind k ih =>
  intro i L s r p m fu fu1 fu2 hk h hl hm hf hf1 hf2
  obtain ⟨fu, rfl⟩ : ∃ f, fu = f + 1 := ⟨fu - 1, by omega⟩
  obtain ⟨fu1, rfl⟩ : ∃ f, fu1 = f + 1 := ⟨fu1 - 1, by omega⟩
  obtain ⟨fu2, rfl⟩ : ∃ f, fu2 = f + 1 := ⟨fu2 - 1, by omega⟩
  obtain ⟨kd, kl⟩ := tK_dom (t := t) (len := len) (law := law) i
  have hn : n ≤ 400 := h.1.1
  have hi : i ≤ n := h.2.2.1
  have h0 : s a 0 = 0 := h.2.2.2.1
  obtain ⟨-, b4, b5, -⟩ := h.k4
  have k101 : nI (tK t len law i) = 101 ↔ tK t len law i = 101 := nI_eq (b := 101) (by omega) (by decide)
  have k102 : nI (tK t len law i) = 102 ↔ tK t len law i = 102 := nI_eq (b := 102) (by omega) (by decide)
  by_cases cr : tK t len law i = 101 ∨ tK t len law i = 102
  rotate_left
  · obtain ⟨s1, r1, M, z1, z2, z3, z4, z5, z6, z7⟩ := h.pendA (qc := qc) (qa := qa) (p := p) hl q1 (X12_every_F e1 e2 qo) q3
    have c1 : X5_anyOf_b9 qc qa a (fu + 1) (nI d) (pA p) (nI m) s = some s1 := by
      show (if (400 : Int32) ≤ nI m then _ else _) = _
      rw [z1, if_pos h0, h.kd, bsm, if_neg (fun z => cr (Or.inl (k101.mp z))), bsm, if_neg (fun z => cr (Or.inr (k102.mp z)))]
      split <;> rfl
    have c2 : anyR B q1 (X12_every_F e1 e2 qo) q3 e1 e2 qo p (fu1 + 1) (fu2 + 1) r = some (1, r1) := by
      unfold anyR
      have e : X12_every_b9 e1 e2 qo B (fu1 + 1) r = some (1, r) := by
        show (if r B 14 = 5 then _ else _) = _
        rw [if_neg (fun z => cr (Or.inr (b5.mp z)))]
      rw [e, bsm]
      dsimp only
      rw [if_neg n10, z2]
      obtain ⟨-, b4', -, -⟩ := z6.k4
      show (if r1 B 14 = 4 then _ else _) = _
      rw [if_neg (fun z => cr (Or.inl (b4'.mp z)))]
    exact ⟨s1, 1, r1, c1, c2, z3, z4, Or.inl ⟨rfl, i, M, Nat.le_refl _, by omega, z6, fun T _ => z7 T⟩⟩
  have hk0 : tK t len law i ≠ 0 := by omega
  have hlt := h.lt hk0
  obtain ⟨fu', rfl⟩ : ∃ f, fu = f + 1 := ⟨fu - 1, by omega⟩
  have cls : X5_anyOf_b9 qc qa a (fu' + 1 + 1) (nI d) (pA p) (nI m) s = X5_anyOf_b51 qc qa a (X5_anyOf_b9 qc qa a (fu' + 1)) (nI d) (pA p) (nI m) s := by
    show (if (400 : Int32) ≤ nI m then _ else _) = _
    rw [if_neg (show ¬ (400 : Int32) ≤ nI m from nI_ge (b := 400) (by omega) (by decide)), if_pos h0, h.kd, bsm, bsm]
    by_cases c : tK t len law i = 101
    · rw [if_pos (k101.mpr c)]
    · rw [if_neg (fun z => c (k101.mp z)), if_pos (k102.mpr (by omega))]
  rw [cls]
  by_cases c2 : tK t len law i = 102
  · -- and
    obtain ⟨s1, r1, y1, y2, y3, y4, y5⟩ := h.step hk0
    obtain ⟨s2, v, r2, u1, u2, u3, u4, u5⟩ := HC _ _ _ _ y5 (by omega)
    have hcl : X5_anyOf_b51 qc qa a (X5_anyOf_b9 qc qa a (fu' + 1)) (nI d) (pA p) (nI m) s = (X5_emit_f a 10 0 s2).bind fun s6 => X5_anyOf_b9 qc qa a (fu' + 1) (nI d) (pA p) (nI (m + 1)) s6 := by
      unfold X5_anyOf_b51 X5_anyOf_b70 X5_anyOf_b88 X5_anyOf_b102
      rw [h.kd, bsm, if_pos (k102.mpr c2), if_neg n10, if_neg n10, y1, bsm, bsm, u1, bsm, bsm, if_neg n10, if_neg n10, nI_s]
      cases p
      · rw [if_pos (show pA false = 0 from rfl)]; rfl
      · rw [if_neg (show ¬ pA true = 0 by decide)]; rfl
    have hre : anyR B q1 (X12_every_F e1 e2 qo) q3 e1 e2 qo p (fu1 + 1) (fu2 + 1) r = (if v = 0 then (some (0, r2)) else ((X12_lay_f B 20 0 r2).bind fun s8 => X12_every_b9 e1 e2 qo B fu1 s8)).bind fun ⟨v, s4⟩ => if v = 0 then some (0, s4) else tailA B q1 (X12_every_F e1 e2 qo) q3 p (fu2 + 1) s4 := by
      unfold anyR
      have e : X12_every_b9 e1 e2 qo B (fu1 + 1) r = if v = 0 then (some (0, r2)) else ((X12_lay_f B 20 0 r2).bind fun s8 => X12_every_b9 e1 e2 qo B fu1 s8) := by
        show (if r B 14 = 5 then _ else _) = _
        rw [if_pos (b5.mpr c2), y2, bsm, u2, bsm]
      rw [e]
    rw [hcl, hre]
    rcases u5 with ⟨rfl, i1, M1, g1, g2, g3, g4⟩ | ⟨rfl, u5⟩
    · have hi1 : i1 ≤ n := g3.2.2.1
      have hlM : (L ++ M1).length + 1 ≤ i1 := by rw [List.length_append]; omega
      obtain ⟨s3, r3, w1, w2, w3, w4, w5⟩ := g3.emit (x := 20) (y := 0) (e := 10) (x1 := 10) (x2 := 0) (v := 0) (by omega) (by decide) (by decide) (enc_op law).2.2.2.2.2.2.2.1 (fun z => by omega) (sh4 (x := 10) (y := 0) (by decide) (by decide))
      have hlen : (L ++ M1 ++ [(20, 0)]).length = L.length + M1.length + 1 := by simp; omega
      obtain ⟨s4, v, r4, x1, x2, x3, x4, x5⟩ := ih (n - i1) (by omega) i1 _ s3 r3 p (m + 1) (fu' + 1) fu1 (fu2 + 1) rfl w5 (by rw [hlen]; omega) (by omega) (by omega) (by omega) (by omega)
      refine ⟨s4, v, r4, by rw [w1, bsm]; exact x1, by rw [if_neg n10, show (20 : Int32) = nI 20 from rfl, w2, bsm]; exact x2, ((y3.tr u3).tr w3).tr x3, ((y4.tr u4).tr w4).tr x4, ?_⟩
      rcases x5 with ⟨hv, i', M, f1, f2, f3, f4⟩ | ⟨hv, f⟩
      · refine Or.inl ⟨hv, i', M1 ++ [(20, 0)] ++ M, by omega, by simp; omega, by rw [← List.append_assoc, ← List.append_assoc]; exact f3, fun T hT => ?_⟩
        have hs := stA_len (p := p) (T := T)
        rw [tyL_app, tyL_app, show tyL M1 (stA p T) = some (true :: stA p T) from g4 (stA p T) (by omega), bsm]
        show ((tyS 20 (true :: stA p T)).bind (tyL [])).bind (tyL M) = _
        rw [stA_20, bsm]
        exact f4 T hT
      · exact Or.inr ⟨hv, f⟩
    · obtain ⟨s3, w1, w2, w3⟩ := u5.1.emit 10 0
      obtain ⟨s4, x1, x2, x3⟩ := w3.b9 (qc := qc) (qa := qa) fu' (nI d) (pA p) (nI (m + 1))
      exact ⟨s4, 0, r2, by rw [w1, bsm]; exact x1, by rw [if_pos rfl, bsm]; exact if_pos rfl, (y3.tr u3).tr (w2.tr x2).1, y4.tr u4, Or.inr ⟨rfl, u5.ke (w2.tr x2) x3⟩⟩
  -- or
  have c1 : tK t len law i = 101 := cr.resolve_right c2
  obtain ⟨sp, rp, M0, z1, z2, z3, z4, z5, z6, z7⟩ := h.pendA (qc := qc) (qa := qa) (p := p) hl q1 (X12_every_F e1 e2 qo) q3
  obtain ⟨s1, r1, y1, y2, y3, y4, y5⟩ := z6.step hk0
  obtain ⟨s2, v, r2, u1, u2, u3, u4, u5⟩ := HC _ _ _ _ y5 (by rw [List.length_append]; omega)
  have hcl : X5_anyOf_b51 qc qa a (X5_anyOf_b9 qc qa a (fu' + 1)) (nI d) (pA p) (nI m) s = X5_anyOf_b9 qc qa a (fu' + 1) (nI d) (pA true) (nI (m + 1)) s2 := by
    have b102 : X5_anyOf_b102 qc qa a (X5_anyOf_b9 qc qa a (fu' + 1)) (nI d) (nI m) 0 1 sp = X5_anyOf_b9 qc qa a (fu' + 1) (nI d) (pA true) (nI (m + 1)) s2 := by
      unfold X5_anyOf_b102
      rw [y1, bsm, u1, bsm, if_pos rfl, nI_s]; rfl
    unfold X5_anyOf_b51 X5_anyOf_b70 X5_anyOf_b88
    rw [h.kd, bsm, if_neg (fun z => c2 (k102.mp z)), if_pos rfl, if_pos rfl]
    unfold X5_anyOf_b130 at z1
    cases p with
    | false =>
      rw [if_pos (show pA false = 0 from rfl)] at z1
      injection z1 with z1
      rw [if_pos (show pA false = 0 from rfl), if_pos (show pA false = 0 from rfl), z1]; exact b102
    | true =>
      rw [if_neg (show ¬ pA true = 0 by decide)] at z1
      rw [if_neg (show ¬ pA true = 0 by decide)]
      cases he : X5_emit_f a 11 0 s with
      | none => rw [he] at z1; cases z1
      | some q =>
        rw [he, bsm] at z1
        injection z1 with z1
        rw [bsm, if_neg (show ¬ pA true = 0 by decide), z1]; exact b102
  have hre : anyR B q1 (X12_every_F e1 e2 qo) q3 e1 e2 qo p (fu1 + 1) (fu2 + 1) r = if v = 0 then some (0, r2) else anyR B q1 (X12_every_F e1 e2 qo) q3 e1 e2 qo true FU fu2 r2 := by
    unfold anyR
    have e : X12_every_b9 e1 e2 qo B (fu1 + 1) r = some (1, r) := by
      show (if r B 14 = 5 then _ else _) = _
      rw [if_neg (fun z => c2 (b5.mp z))]
    rw [e, bsm]
    dsimp only
    rw [if_neg n10, z2]
    obtain ⟨-, b4', -, -⟩ := z6.k4
    have e9 : X12_any_b9 q1 (X12_every_F e1 e2 qo) q3 B (fu2 + 1) rp = (X12_every_F e1 e2 qo B r1).bind fun ⟨v4, s5⟩ => if v4 = 0 then (some (0, s5)) else ((X12_lay_f B 21 0 s5).bind fun s8 => X12_any_b9 q1 (X12_every_F e1 e2 qo) q3 B fu2 s8) := by
      show (if rp B 14 = 4 then _ else _) = _
      rw [if_pos (b4'.mpr c1), y2, bsm]
    rw [e9]
    unfold X12_every_F
    rw [u2, bsm]
    dsimp only
    by_cases c : v = 0
    · rw [if_pos c, if_pos c, bsm]; rfl
    · rw [if_neg c, if_neg c]; rfl
  rw [hcl, hre]
  rcases u5 with ⟨rfl, i1, M1, g1, g2, g3, g4⟩ | ⟨rfl, u5⟩
  · have hi1 : i1 ≤ n := g3.2.2.1
    have hlen : (L ++ M0 ++ M1).length = L.length + pAn p + M1.length := by simp; omega
    obtain ⟨s4, v, r4, x1, x2, x3, x4, x5⟩ := ih (n - i1) (by omega) i1 _ s2 r2 true (m + 1) (fu' + 1) FU fu2 rfl g3 (by rw [hlen]; show _ + 1 ≤ _; omega) (by omega) (by omega) (by unfold FU; omega) (by omega)
    refine ⟨s4, v, r4, x1, by rw [if_neg n10]; exact x2, ((z3.tr y3).tr u3).tr x3, ((z4.tr y4).tr u4).tr x4, ?_⟩
    rcases x5 with ⟨hv, i', M, f1, f2, f3, f4⟩ | ⟨hv, f⟩
    · have f2 : M.length + i1 ≤ i' + 1 := f2
      refine Or.inl ⟨hv, i', M0 ++ M1 ++ M, by omega, by simp; omega, by rw [← List.append_assoc, ← List.append_assoc]; exact f3, fun T hT => ?_⟩
      rw [tyL_app, tyL_app, z7 T, bsm, show tyL M1 (true :: T) = some (true :: true :: T) from g4 (true :: T) (by show T.length + 1 + K ≤ 32; omega), bsm]
      exact f4 T hT
    · exact Or.inr ⟨hv, f⟩
  · obtain ⟨s4, x1, x2, x3⟩ := u5.1.b9 (qc := qc) (qa := qa) fu' (nI d) (pA true) (nI (m + 1))
    exact ⟨s4, 0, r2, x1, if_pos rfl, ((z3.tr y3).tr u3).tr x2.1, (z4.tr y4).tr u4, Or.inr ⟨rfl, u5.ke x2 x3⟩⟩
end AN
