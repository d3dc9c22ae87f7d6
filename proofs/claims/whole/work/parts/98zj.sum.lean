section SJ
variable {a B : Nat} {t : Nat → Int32} {len : Nat} {law : Bool} {n d : Nat}
theorem tyS_push {x : Nat} (hx : x < 12) {T : List Bool} (h : T.length < 32) : tyS x T = some (false :: T) := by
  unfold tyS; rw [if_pos hx, if_pos h]
theorem stk_len {p : Option Nat} {T : List Bool} : (stk p T).length ≤ T.length + 2 := by
  cases p with
  | none => show T.length + 1 ≤ _; omega
  | some x => show T.length + 1 + 1 ≤ _; omega
theorem stk_14 {p : Option Nat} {T : List Bool} : tyS 14 (false :: stk p T) = some (stk p T) := by
  cases p <;> rfl
theorem stk_15 {p : Option Nat} {T : List Bool} : tyS 15 (stk p T) = some (stk p T) := by
  cases p <;> rfl
theorem sum_sim : ∀ (k i : Nat) (L : List (Nat × Nat)) (s r : Sig) (p : Option Nat) (m fu fu1 fu2 : Nat), n - i = k → Rl a B t len law n i L d s r → (p = none ∨ p = some 12 ∨ p = some 13) → L.length + pdN p ≤ i → m ≤ i → n - i < fu → n - i < fu1 → n - i < fu2 → Oc a B t len law n i L d s r 3 (stk p) false (pdN p) (X5_sum_b8 a fu (pdC p) (nI m) s) (sumR B p fu1 fu2 r) := by
  intro k
  induction k using Nat.strongRecOn with
  | ind k ih =>
  intro i L s r p m fu fu1 fu2 hk h hp hl hm hf hf1 hf2
  obtain ⟨fu, rfl⟩ : ∃ f, fu = f + 1 := ⟨fu - 1, by omega⟩
  obtain ⟨fu1, rfl⟩ : ∃ f, fu1 = f + 1 := ⟨fu1 - 1, by omega⟩
  obtain ⟨fu2, rfl⟩ : ∃ f, fu2 = f + 1 := ⟨fu2 - 1, by omega⟩
  obtain ⟨kd, kl⟩ := tK_dom (t := t) (len := len) (law := law) i
  have hn : n ≤ 400 := h.1.1
  have hi : i ≤ n := h.2.2.1
  have h0 : s a 0 = 0 := h.2.2.2.1
  have b142 : r B 14 = 142 ↔ tK t len law i = 42 := h.k14 (c := 42) (by decide) (by decide)
  have b147 : r B 14 = 147 ↔ tK t len law i = 47 := h.k14 (c := 47) (by decide) (by decide)
  by_cases cr : tK t len law i = 42 ∨ tK t len law i = 43 ∨ tK t len law i = 45 ∨ tK t len law i = 47
  rotate_left
  · obtain ⟨s1, r1, M, z1, z2, z3, z4, z5, z6, z7⟩ := h.pend hp hl
    have c1 : X5_sum_b8 a (fu + 1) (pdC p) (nI m) s = some s1 := by
      show (if (400 : Int32) ≤ nI m then _ else _) = _
      rw [z1, if_pos h0, h.kd, bsm, (recK kl).2 cr, bsm, if_pos rfl]
      split <;> rfl
    have c2 : sumR B p (fu1 + 1) (fu2 + 1) r = some (1, r1) := by
      unfold sumR
      have e1 : X12_product_b9 B (fu1 + 1) r = some (1, r) := by
        show (if r B 14 = 142 then _ else _) = _
        rw [if_neg (fun z => cr (Or.inl (b142.mp z))), if_neg (fun z => cr (Or.inr (Or.inr (Or.inr (b147.mp z)))))]
      rw [e1, bsm]
      dsimp only
      rw [if_neg n10, z2]
      have b3 : r1 B 14 = 143 ↔ tK t len law i = 43 := z6.k14 (c := 43) (by decide) (by decide)
      have b5 : r1 B 14 = 145 ↔ tK t len law i = 45 := z6.k14 (c := 45) (by decide) (by decide)
      show (if r1 B 14 = 143 then _ else _) = _
      rw [if_neg (fun z => cr (Or.inr (Or.inl (b3.mp z)))), if_neg (fun z => cr (Or.inr (Or.inr (Or.inl (b5.mp z)))))]
    exact ⟨s1, 1, r1, c1, c2, z3, z4, Or.inl ⟨rfl, i, M, Nat.le_refl _, by omega, z6, fun T _ => z7 T⟩⟩
  have hk0 : tK t len law i ≠ 0 := by omega
  have hlt := h.lt hk0
  have hlL : L.length ≤ i := by omega
  obtain ⟨s1, r1, y1, y2, y3, y4, y5⟩ := h.step hk0
  obtain ⟨fu', rfl⟩ : ∃ f, fu = f + 1 := ⟨fu - 1, by omega⟩
  have cls : ∀ X, (if nI (tK t len law i) = 47 then ((X5_divisor_f a s1).bind fun s21 => X5_sum_b8 a (fu' + 1) (pdC p) (nI (m + 1)) s21) else (if nI (tK t len law i) = 42 then ((X5_unit_f a s1).bind fun s17 => (X5_emit_f a 4 0 s17).bind fun s19 => X5_sum_b8 a (fu' + 1) (pdC p) (nI (m + 1)) s19) else (if pdC p = (-1) then (X5_sum_b94 a (X5_sum_b8 a (fu' + 1)) (nI m) (nI (tK t len law i)) s1) else ((X5_emit_f a (pdC p) 0 s1).bind fun s15 => X5_sum_b94 a (X5_sum_b8 a (fu' + 1)) (nI m) (nI (tK t len law i)) s15)))) = X → X5_sum_b8 a (fu' + 1 + 1) (pdC p) (nI m) s = X := by
    intro X hX
    show (if (400 : Int32) ≤ nI m then _ else _) = _
    rw [if_neg (show ¬ (400 : Int32) ≤ nI m from nI_ge (b := 400) (by omega) (by decide)), if_pos h0, h.kd, bsm, (recK kl).1 cr, bsm, if_neg n10, bsm, y1, bsm, nI_s]
    exact hX
  have ne : ∀ c, c < 115 → tK t len law i ≠ c → ¬ nI (tK t len law i) = nI c := fun c hc h' z => h' (nI_inj (by omega) (by omega) z)
  by_cases c42 : tK t len law i = 42
  · -- times
    obtain ⟨s2, v, r2, u1, u2, u3, u4, u5⟩ := y5.unit (by omega)
    have hcl : ∀ X, ((X5_emit_f a 4 0 s2).bind fun s19 => X5_sum_b8 a (fu' + 1) (pdC p) (nI (m + 1)) s19) = X → X5_sum_b8 a (fu' + 1 + 1) (pdC p) (nI m) s = X := fun X hX => by
      refine cls X ?_
      rw [if_neg (show ¬ nI (tK t len law i) = 47 from ne 47 (by decide) (by omega)), c42, if_pos (show nI 42 = 42 from rfl), u1, bsm]
      exact hX
    have hre : ∀ Y, ((if v = 0 then (some (0, r2)) else ((X12_lay_f B 14 0 r2).bind fun s8 => X12_product_b9 B fu1 s8)).bind fun ⟨v, s4⟩ => if v = 0 then some (0, s4) else tailR B p (fu2 + 1) s4) = Y → sumR B p (fu1 + 1) (fu2 + 1) r = Y := fun Y hY => by
      unfold sumR
      have e1 : X12_product_b9 B (fu1 + 1) r = if v = 0 then (some (0, r2)) else ((X12_lay_f B 14 0 r2).bind fun s8 => X12_product_b9 B fu1 s8) := by
        show (if r B 14 = 142 then _ else _) = _
        rw [if_pos (b142.mpr c42)]
        unfold X12_product_b29 X12_product_b44
        rw [if_neg (fun z => by have := b147.mp z; omega), y2, bsm, if_pos rfl, u2, bsm]
      rw [e1]; exact hY
    rcases u5 with ⟨rfl, hlt2, x, y, hx, u5⟩ | ⟨rfl, u5⟩
    · obtain ⟨s3, r3, w1, w2, w3, w4, w5⟩ := u5.emit (x := 14) (y := 0) (e := 4) (x1 := 4) (x2 := 0) (v := 0) (by rw [List.length_append, List.length_singleton]; omega) (by decide) (by decide) (enc_op law).2.2.1 (fun z => by omega) (sh4 (x := 4) (y := 0) (by decide) (by decide))
      have hlen : (L ++ [(x, y)] ++ [(14, 0)]).length = L.length + 2 := by simp
      obtain ⟨s4, v, r4, q1, q2, q3, q4, q5⟩ := ih (n - (i + 2)) (by omega) (i + 2) _ s3 r3 p (m + 1) (fu' + 1) fu1 (fu2 + 1) rfl w5 hp (by rw [hlen]; omega) (by omega) (by omega) (by omega) (by omega)
      refine ⟨s4, v, r4, hcl _ (by rw [w1, bsm]; exact q1), hre _ (by rw [if_neg n10, show (14 : Int32) = nI 14 from rfl, w2, bsm]; exact q2), ((y3.tr u3).tr w3).tr q3, ((y4.tr u4).tr w4).tr q4, ?_⟩
      rcases q5 with ⟨hv, i', M, e1, e2, e3, e4⟩ | ⟨hv, e⟩
      · refine Or.inl ⟨hv, i', [(x, y)] ++ [(14, 0)] ++ M, by omega, ?_, by rw [← List.append_assoc, ← List.append_assoc]; exact e3, fun T hT => ?_⟩
        · simp; omega
        · rw [tyL_app, tyL_app]
          have := stk_len (p := p) (T := T)
          show (((tyS x (stk p T)).bind (tyL [])).bind (tyL [(14, 0)])).bind (tyL M) = _
          rw [tyS_push hx (by omega), bsm]
          show ((tyS 14 (false :: stk p T)).bind (tyL [])).bind (tyL M) = _
          rw [stk_14, bsm]
          exact e4 T hT
      · exact Or.inr ⟨hv, e⟩
    · obtain ⟨s3, w1, w2, w3⟩ := u5.1.emit 4 0
      obtain ⟨s4, q1, q2, q3⟩ := w3.b8 fu' (pdC p) (nI (m + 1))
      refine ⟨s4, 0, r2, hcl _ (by rw [w1, bsm]; exact q1), hre _ (by rw [if_pos rfl, bsm]; exact if_pos rfl), (y3.tr u3).tr (w2.tr q2).1, y4.tr u4, Or.inr ⟨rfl, u5.ke (w2.tr q2) q3⟩⟩
  by_cases c47 : tK t len law i = 47
  · -- over
    obtain ⟨s2, v, r2, u1, u2, u3, u4, u5⟩ := y5.div (by omega)
    have hcl : ∀ X, X5_sum_b8 a (fu' + 1) (pdC p) (nI (m + 1)) s2 = X → X5_sum_b8 a (fu' + 1 + 1) (pdC p) (nI m) s = X := fun X hX => by
      refine cls X ?_
      rw [c47, if_pos (show nI 47 = 47 from rfl), u1, bsm]
      exact hX
    have hre : ∀ Y, (if v = 0 then some (0, r2) else sumR B p fu1 (fu2 + 1) r2) = Y → sumR B p (fu1 + 1) (fu2 + 1) r = Y := fun Y hY => by
      have e1 : X12_product_b9 B (fu1 + 1) r = ((X12_number_f B 1 9999 r1).bind fun ⟨v10, s11⟩ => if v10 = 0 then (some (0, s11)) else ((X12_lay_f B 15 (r1 B 16) s11).bind fun s14 => X12_product_b9 B fu1 s14)) := by
        show (if r B 14 = 142 then _ else _) = _
        rw [if_neg (fun z => by have := b142.mp z; omega), if_pos (b147.mpr c47)]
        unfold X12_product_b29 X12_product_b44
        rw [if_pos (b147.mpr c47), y2, bsm, if_neg n10]
      rw [← hY]
      unfold sumR
      rw [e1]
      cases hN : X12_number_f B 1 9999 r1 with
      | none => rw [hN] at u2; cases u2
      | some q =>
        obtain ⟨v10, s11⟩ := q
        rw [hN, bsm] at u2
        rw [bsm]
        dsimp only at u2 ⊢
        by_cases c : v10 = 0
        · rw [if_pos c] at u2 ⊢
          injection u2 with u2; injection u2 with ua ub
          rw [bsm, ← ua, ← ub]
          rfl
        · rw [if_neg c] at u2 ⊢
          cases hY : X12_lay_f B 15 (r1 B 16) s11 with
          | none => rw [hY] at u2; cases u2
          | some q =>
            rw [hY, bsm] at u2
            injection u2 with u2; injection u2 with ua ub
            rw [bsm, ← ua, if_neg n10, ub]
    rcases u5 with ⟨rfl, hlt2, y, u5⟩ | ⟨rfl, u5⟩
    · have hlen : (L ++ [(15, y)]).length = L.length + 1 := by simp
      obtain ⟨s4, v, r4, q1, q2, q3, q4, q5⟩ := ih (n - (i + 2)) (by omega) (i + 2) _ s2 r2 p (m + 1) (fu' + 1) fu1 (fu2 + 1) rfl u5 hp (by rw [hlen]; omega) (by omega) (by omega) (by omega) (by omega)
      refine ⟨s4, v, r4, hcl _ q1, hre _ (by rw [if_neg n10]; exact q2), (y3.tr u3).tr q3, (y4.tr u4).tr q4, ?_⟩
      rcases q5 with ⟨hv, i', M, e1, e2, e3, e4⟩ | ⟨hv, e⟩
      · refine Or.inl ⟨hv, i', [(15, y)] ++ M, by omega, ?_, by rw [← List.append_assoc]; exact e3, fun T hT => ?_⟩
        · simp; omega
        · rw [tyL_app]
          show ((tyS 15 (stk p T)).bind (tyL [])).bind (tyL M) = _
          rw [stk_15, bsm]
          exact e4 T hT
      · exact Or.inr ⟨hv, e⟩
    · obtain ⟨s4, q1, q2, q3⟩ := u5.1.b8 fu' (pdC p) (nI (m + 1))
      exact ⟨s4, 0, r2, hcl _ q1, hre _ (if_pos rfl), (y3.tr u3).tr q2.1, y4.tr u4, Or.inr ⟨rfl, u5.ke q2 q3⟩⟩
  -- plus, minus
  obtain ⟨sp, rp, M0, z1, z2, z3, z4, z5, z6, z7⟩ := h.pend hp hl
  obtain ⟨s2, r2, x1, x2, x3, x4, x5⟩ := z6.step hk0
  obtain ⟨p', hp', hpc, hpr⟩ : ∃ x, (x = 12 ∨ x = 13) ∧ (∀ k8 q, X5_sum_b94 a k8 (nI m) (nI (tK t len law i)) q = X5_sum_b105 a k8 (nI m) (pdC (some x)) q) ∧ (∀ fu, X12_sumUp_b9 B (fu + 1) rp = X12_sumUp_b46 B (X12_sumUp_b9 B fu) (nI x) rp) := by
    have b3 : rp B 14 = 143 ↔ tK t len law i = 43 := z6.k14 (c := 43) (by decide) (by decide)
    have b5 : rp B 14 = 145 ↔ tK t len law i = 45 := z6.k14 (c := 45) (by decide) (by decide)
    by_cases c43 : tK t len law i = 43
    · refine ⟨12, Or.inl rfl, fun k8 q => ?_, fun fu => ?_⟩
      · unfold X5_sum_b94; rw [c43, if_pos (show nI 43 = 43 from rfl)]; rfl
      · show (if rp B 14 = 143 then _ else _) = _
        rw [if_pos (b3.mpr c43)]; unfold X12_sumUp_b29; rw [if_pos (b3.mpr c43)]; rfl
    · refine ⟨13, Or.inr rfl, fun k8 q => ?_, fun fu => ?_⟩
      · unfold X5_sum_b94; rw [if_neg (show ¬ nI (tK t len law i) = 43 from ne 43 (by decide) c43)]; rfl
      · show (if rp B 14 = 143 then _ else _) = _
        rw [if_neg (fun z => c43 (b3.mp z)), if_pos (b5.mpr (by omega))]; unfold X12_sumUp_b29; rw [if_neg (fun z => c43 (b3.mp z))]; rfl
  have hcom : (X5_sum_b116 a (pdC p) s1) = some s2 := by
    rcases hp with rfl | hp
    · have e1 : X5_sum_b116 a (pdC none) s = some s := by unfold X5_sum_b116; exact if_pos rfl
      rw [e1] at z1
      injection z1 with z1
      rw [← z1, y1] at x1
      injection x1 with x1
      rw [← x1]
      unfold X5_sum_b116; exact if_pos rfl
    · have hne : ¬ pdC p = -1 := by rcases hp with rfl | rfl <;> decide
      have hes := h.es hlt (by omega) (pdC p) 0
      unfold X5_sum_b116 at z1 ⊢
      rw [if_neg hne] at z1 ⊢
      cases he : X5_emit_f a (pdC p) 0 s with
      | none => rw [he] at z1; cases z1
      | some q =>
        rw [he, bsm] at z1
        injection z1 with z1
        rw [y1, bsm, he, bsm, z1, x1] at hes
        rw [hes, bsm]
  obtain ⟨s3, v, r3, u1, u2, u3, u4, u5⟩ := x5.unit (by rw [List.length_append]; omega)
  have hcl : ∀ X, X5_sum_b8 a (fu' + 1) (pdC (some p')) (nI (m + 1)) s3 = X → X5_sum_b8 a (fu' + 1 + 1) (pdC p) (nI m) s = X := fun X hX => by
    refine cls X ?_
    rw [if_neg (show ¬ nI (tK t len law i) = 47 from ne 47 (by decide) c47), if_neg (show ¬ nI (tK t len law i) = 42 from ne 42 (by decide) c42)]
    have key : (if pdC p = (-1) then (X5_sum_b94 a (X5_sum_b8 a (fu' + 1)) (nI m) (nI (tK t len law i)) s1) else ((X5_emit_f a (pdC p) 0 s1).bind fun s15 => X5_sum_b94 a (X5_sum_b8 a (fu' + 1)) (nI m) (nI (tK t len law i)) s15)) = X5_sum_b94 a (X5_sum_b8 a (fu' + 1)) (nI m) (nI (tK t len law i)) s2 := by
      unfold X5_sum_b116 at hcom
      by_cases c : pdC p = -1
      · rw [if_pos c] at hcom ⊢
        injection hcom with hcom; rw [hcom]
      · rw [if_neg c] at hcom ⊢
        cases he : X5_emit_f a (pdC p) 0 s1 with
        | none => rw [he] at hcom; cases hcom
        | some q =>
          rw [he, bsm] at hcom
          injection hcom with hcom
          rw [bsm, hcom]
    rw [key, hpc]
    unfold X5_sum_b105
    rw [u1, bsm, nI_s]
    exact hX
  have hre : ∀ Y, (if v = 0 then some (0, r3) else sumR B (some p') FU fu2 r3) = Y → sumR B p (fu1 + 1) (fu2 + 1) r = Y := fun Y hY => by
    have e1 : X12_product_b9 B (fu1 + 1) r = some (1, r) := by
      show (if r B 14 = 142 then _ else _) = _
      rw [if_neg (fun z => c42 (b142.mp z)), if_neg (fun z => c47 (b147.mp z))]
    rw [← hY]
    unfold sumR
    rw [e1, bsm]
    dsimp only
    rw [if_neg n10, z2, hpr]
    unfold X12_sumUp_b46 X12_product_f
    rw [x2, bsm, u2, bsm]
    dsimp only
    by_cases c : v = 0
    · rw [if_pos c, if_pos c, bsm]; rfl
    · rw [if_neg c, if_neg c]; rfl
  have hpp : (some p' = none ∨ some p' = some 12 ∨ some p' = some 13) := by
    rcases hp' with rfl | rfl
    · exact Or.inr (Or.inl rfl)
    · exact Or.inr (Or.inr rfl)
  rcases u5 with ⟨rfl, hlt2, x, y, hx, u5⟩ | ⟨rfl, u5⟩
  · have hlen : (L ++ M0 ++ [(x, y)]).length = L.length + pdN p + 1 := by simp; omega
    obtain ⟨s4, v, r4, q1, q2, q3, q4, q5⟩ := ih (n - (i + 2)) (by omega) (i + 2) _ s3 r3 (some p') (m + 1) (fu' + 1) FU fu2 rfl u5 hpp (by rw [hlen]; show _ + 1 ≤ _; omega) (by omega) (by omega) (by unfold FU; omega) (by omega)
    refine ⟨s4, v, r4, hcl _ q1, hre _ (by rw [if_neg n10]; exact q2), ((z3.tr x3).tr u3).tr q3, ((z4.tr x4).tr u4).tr q4, ?_⟩
    rcases q5 with ⟨hv, i', M, e1, e2, e3, e4⟩ | ⟨hv, e⟩
    · have e2 : M.length + (i + 2) ≤ i' + 1 := e2
      refine Or.inl ⟨hv, i', M0 ++ [(x, y)] ++ M, by omega, ?_, by rw [← List.append_assoc, ← List.append_assoc]; exact e3, fun T hT => ?_⟩
      · simp; omega
      · rw [tyL_app, tyL_app, z7 T, bsm]
        show ((tyS x (false :: T)).bind (tyL [])).bind (tyL M) = _
        rw [tyS_push hx (by show T.length + 1 < 32; omega), bsm]
        exact e4 T hT
    · exact Or.inr ⟨hv, e⟩
  · obtain ⟨s4, q1, q2, q3⟩ := u5.1.b8 fu' (pdC (some p')) (nI (m + 1))
    exact ⟨s4, 0, r3, hcl _ q1, hre _ (if_pos rfl), ((z3.tr x3).tr u3).tr q2.1, (z4.tr x4).tr u4, Or.inr ⟨rfl, u5.ke q2 q3⟩⟩
end SJ
