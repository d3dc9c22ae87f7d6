theorem gtb_in {w : Cond} (h : w ∈ gtb) : w ∈ lw_tbl := (List.mem_filter.mp h).1
theorem insts : ∀ (ci : Nat) (r : vw_C), vwCl[ci]? = some r → Cond.instantiable r.1 r.2.2 ∈ gtb := by
  intro ci r h
  match ci, h with
  | 0, h => cases h; exact inX0
  | 1, h => cases h; exact inX1
  | 2, h => cases h; exact inX2
  | 3, h => cases h; exact inX3
  | 4, h => cases h; exact inX4
  | 5, h => cases h; exact inX5
  | 6, h => cases h; exact inX6
  | 7, h => cases h; exact inX7
  | 8, h => cases h; exact inX8
  | 9, h => cases h; exact inX9
  | 10, h => cases h; exact inX10
  | 11, h => cases h; exact inX11
  | 12, h => cases h; exact inX12
  | c + 13, h => simp [vwCl] at h
set_option maxHeartbeats 2000000 in
theorem kx_start {s : State} {b L : Nat} {xs : Nat → Int32} (hts : ∀ w ∈ lw_tbl, w.before #[Value.ref b] s = true) (hgv : (Jvm.Cond.and given_1 narrow_1).before #[Value.ref b] s = true) (hX : va_X b L xs s s.heap) (hbl : b < s.heap.size) (hL : L ≤ 3584) :
    ∃ K : Kt, Kx K s ∧ kB K = s.heap.size ∧ kH K = s.heap ∧ ∃ (Ln : Nat) (ys : Nat → Int32), Ln ≤ 3584 ∧ kX K b = some (Ln, ys) := by
  have hs : ∀ w ∈ FLT, w.before #[Value.ref b] s = true := flat_of_before _ hgv
  have hA : ∀ a : Nat, a < s.heap.size → ¬ (fun q : Nat => s.heap.size ≤ q) a := fun a h => Nat.not_le.mpr h
  have hcls : ∀ ci : Nat, ∃ q : ClassId × (Nat → Nat), ∀ r : vw_C, vwCl[ci]? = some r → u_Kn s r.1 r.2.1 r.2.2 q.1 q.2 := by
    intro ci
    cases hq : vwCl[ci]? with
    | none => exact ⟨(0, fun _ => 0), fun r h => by cases h⟩
    | some r0 =>
      obtain ⟨cC, iS, h⟩ := u_known (C := r0.1) (T := r0.2.1) (N := r0.2.2) (n := r0.2.2) hts (fun w hw => gtb_in ((clsOk ci r0 hq).1 w hw)) (hts _ (gtb_in (insts ci r0 hq)))
      exact ⟨(cC, iS), fun r h2 => by cases h2; exact h⟩
  obtain ⟨fc, hfc⟩ := Classical.axiomOfChoice hcls
  obtain ⟨cI, kI', cmI, g1, g2, g3⟩ := Cond.arrayClass_spec (hts _ (gtb_in ac_int))
  obtain ⟨cmB, cB, kB', b1, b2, b3, b4, b5⟩ := Cond.arrayOver_spec (hts _ st_l.2.2.2.2.2.2.2.1)
  obtain ⟨cmT, cT, kT', t1, t2, t3, t4, t5⟩ := Cond.arrayOver_spec (hts _ st_l.2.2.2.2.2.2.2.2)
  obtain ⟨tA, htA, hTA⟩ := va_Tof (args := #[Value.ref b]) (s := s) (tm := .static RX11 "TELL_MOST" "[I") (ty := .int) (N := 5) (f := fun j => .int (tellMost j)) (A := fun q : Nat => s.heap.size ≤ q) (by decide) (hs _ st_T.1) (va_eqt (hs _ st_T.2.1)) (fun j hj => va_eqt (hs _ (st_T.2.2 j hj))) hA
  obtain ⟨sA, hsA, hSA⟩ := va_Tof (args := #[Value.ref b]) (s := s) (tm := .static RX11 "SET_MOST" "[I") (ty := .int) (N := 8) (f := fun j => .int (setMost j)) (A := fun q : Nat => s.heap.size ≤ q) (by decide) (hs _ st_S.1) (va_eqt (hs _ st_S.2.1)) (fun j hj => va_eqt (hs _ (st_S.2.2 j hj))) hA
  obtain ⟨adK, adV, hvS, hev⟩ := vk_Sof (args := #[Value.ref b]) (s := s) (N := 21) (tm := tmS) (len := strLen) (byt := strByt) (A := fun q : Nat => s.heap.size ≤ q)
    (fun i hi => by have := str_len i hi; omega)
    (fun i hi => hs _ (ssb i hi _ (by simp [expS])))
    (fun i hi => hs _ (ssb i hi _ (by simp [expS])))
    (fun i hi => hs _ (ssb i hi _ (by simp [expS])))
    (fun i hi => hs _ (ssb i hi _ (by simp [expS])))
    (fun i hi j hj => hs _ (ssb i hi _ (List.mem_append_right _ (List.mem_map.mpr ⟨j, List.mem_range.mpr hj, rfl⟩))))
    (fun i j hi hj hij => by
      rcases Nat.lt_or_gt_of_ne hij with h | h
      · exact Or.inl (hs _ (sne j hj i h))
      · exact Or.inr (hs _ (sne i hi j h)))
    hA
  obtain ⟨K, hK⟩ : ∃ K : Kt, K = ((fun k => (fc k).1), (fun k => (fc k).2), cI, (fun ci => if ci = 0 then cB else cT), s.heap.size, s.heap, (tA, sA), adK, adV, (fun a => if a = tA then some (5, tellMost) else if a = sA then some (8, setMost) else if a = b then some (L, xs) else none)) := ⟨_, rfl⟩
  have hXT : va_T .int b L (fun j => .int (xs j)) (fun q : Nat => s.heap.size ≤ q) s s.heap := by
    obtain ⟨scr, c1, c2, c3, c4, c5⟩ := hX
    exact ⟨scr, c1, c2, c3, by omega, by rw [c4] <;> rfl, c5, hA b hbl⟩
  have hext : extOk K s := by
    intro a N f ha
    subst hK
    have ha2 : (if a = tA then some (5, tellMost) else if a = sA then some (8, setMost) else if a = b then some (L, xs) else none) = some (N, f) := ha
    split at ha2
    · next e => cases ha2; subst e; exact hTA
    · split at ha2
      · next e => cases ha2; subst e; exact hSA
      · split at ha2
        · next e => cases ha2; subst e; exact hXT
        · cases ha2
  refine ⟨K, ⟨?_, ?_, ?_, hext, ?_⟩, ?_, ?_, ?_⟩
  · subst hK
    refine ⟨fun ci r h => hfc ci r h, fun k q hq => ?_⟩
    match k, hq with
    | 0, hq => cases hq; exact ⟨fun n z => ⟨fun k h => (by cases h), kI', g2, cmI, g3⟩, g1⟩
    | 1, hq => cases hq; exact ⟨fun n z => ⟨fun k h => (by cases h), kB', b3, cmB, b4⟩, kB', cmB, b3, b4, b1, b5⟩
    | 2, hq => cases hq; exact ⟨fun n z => ⟨fun k h => (by cases h), kT', t3, cmT, t4⟩, kT', cmT, t3, t4, t1, t5⟩
    | k + 3, hq => simp [tysK] at hq
  · intro w hw hn
    exact va_Nw.of (by cases w <;> first | rfl | (simp [isNest] at hn)) (hts w hw)
  · subst hK; rfl
  · subst hK
    refine ⟨va_Zof (hts _ st_l.1) (hts _ st_l.2.2.2.2.1) htA hA, va_Zof (hts _ st_l.2.1) (hts _ st_l.2.2.2.2.1) hsA hA, if_pos rfl, ?_, hvS, fun i q hq => ?_, va_AO.of (hts _ st_l.2.2.2.2.2.2.2.1), va_AO.of (hts _ st_l.2.2.2.2.2.2.2.2), va_Zof (hts _ st_l.2.2.1) (hts _ st_l.2.2.2.2.2.1) (va_eqt (hs _ st_C.1)) hA, va_Zqof (hts _ st_l.2.2.2.1) (hts _ st_l.2.2.2.2.2.2.1) (hs _ st_C.2) hA⟩
    · show (if sA = tA then some (5, tellMost) else if sA = sA then some (8, setMost) else _) = some (8, setMost)
      by_cases e : sA = tA
      · exfalso
        subst e
        obtain ⟨c1, p1, -, -, -, q1, -⟩ := hTA
        obtain ⟨c2, p2, -, -, -, q2, -⟩ := hSA
        cases p1.symm.trans p2
        exact absurd (q1.symm.trans q2) (by decide)
      · rw [if_neg e, if_pos rfl]
    · have hi : i < 21 := (List.getElem?_eq_some_iff.mp hq).1
      have hg : strTab.getD i ("", 0, "") = q := by rw [List.getD_eq_getElem?_getD, hq]; rfl
      have h1 := hts _ (ss_rf i hi)
      have h2 := hev i hi
      unfold tmS at h2
      rw [hg] at h1 h2
      exact vk_R.of h1 h2
  · subst hK; rfl
  · subst hK; rfl
  · subst hK
    by_cases e1 : b = tA
    · exact ⟨5, tellMost, by omega, if_pos e1⟩
    · by_cases e2 : b = sA
      · exact ⟨8, setMost, by omega, by show (if b = tA then _ else if b = sA then _ else _) = _; rw [if_neg e1, if_pos e2]⟩
      · exact ⟨L, xs, hL, by show (if b = tA then _ else if b = sA then _ else if b = b then _ else _) = _; rw [if_neg e1, if_neg e2, if_pos rfl]⟩
