/-! THE LAW'S LOOP, over an invariant of the pure level. -/
/-- what the pure level owes: an invariant under which each call of class and reference answers alike -/
def St_state (Inv : Hp → Prop) (A B : Nat) : Prop := ∀ (h : Hp) (v1 : Int32), Inv h → ∃ (r : Int32) (h1 h2 : Hp), cl_state A v1 h = some (r, h1) ∧ ShX12 h1.1 B ∧ re_state B v1 h1 = some (r, h2) ∧ Inv h2
def St_one (Inv : Hp → Prop) (A B : Nat) : Prop := ∀ (h : Hp) (v1 v2 v3 v4 v5 : Int32), Inv h → ∃ (r : Int32) (h1 h2 : Hp), cl_one A v1 v2 v3 v4 v5 h = some (r, h1) ∧ ShX12 h1.1 B ∧ re_one B v1 v2 v3 v4 v5 h1 = some (r, h2) ∧ Inv h2
def St_tell (Inv : Hp → Prop) (A B : Nat) : Prop := ∀ (h : Hp) (v1 v2 v3 : Int32), Inv h → ∃ (r : Int32) (h1 h2 : Hp), cl_tell A v1 v2 v3 h = some (r, h1) ∧ ShX12 h1.1 B ∧ re_tell B v1 v2 v3 h1 = some (r, h2) ∧ Inv h2
def St_wall (Inv : Hp → Prop) (A B : Nat) : Prop := ∀ (h : Hp) (v1 v2 v3 : Int32), Inv h → ∃ (r : Int32) (h1 h2 : Hp), cl_wall A v1 v2 v3 h = some (r, h1) ∧ ShX12 h1.1 B ∧ re_wall B v1 v2 v3 h1 = some (r, h2) ∧ Inv h2
def St_set (Inv : Hp → Prop) (A B : Nat) : Prop := ∀ (h : Hp) (v1 v2 : Int32), Inv h → ∃ (r : Int32) (h1 h2 : Hp), cl_set A v1 v2 h = some (r, h1) ∧ ShX12 h1.1 B ∧ re_set B v1 v2 h1 = some (r, h2) ∧ Inv h2
def St_debt (Inv : Hp → Prop) (A B : Nat) : Prop := ∀ (h : Hp) (v1 v2 v3 : Int32), Inv h → ∃ (r : Int32) (h1 h2 : Hp), cl_debt A v1 v2 v3 h = some (r, h1) ∧ ShX12 h1.1 B ∧ re_debt B v1 v2 v3 h1 = some (r, h2) ∧ Inv h2
def St_helpers (Inv : Hp → Prop) (A B : Nat) : Prop := ∀ (h : Hp) (v1 v2 : Int32), Inv h → ∃ (r : Int32) (h1 h2 : Hp), cl_helpers A v1 v2 h = some (r, h1) ∧ ShX12 h1.1 B ∧ re_helpers B v1 v2 h1 = some (r, h2) ∧ Inv h2
def St_of (Inv : Hp → Prop) (A B : Nat) : Prop := ∀ (h : Hp) (v1 v2 : Int32), Inv h → ∃ (r : Int32) (h1 h2 : Hp), cl_of A v1 v2 h = some (r, h1) ∧ ShX12 h1.1 B ∧ re_of B v1 v2 h1 = some (r, h2) ∧ Inv h2
def St_feed (Inv : Hp → Prop) (A B : Nat) : Prop := ∀ (h : Hp) (v1 v2 v3 v4 v5 : Int32), Inv h → ∃ (r : Int32) (h1 h2 : Hp), cl_feed A v1 v2 v3 v4 v5 h = some (r, h1) ∧ ShX12 h1.1 B ∧ re_feed B v1 v2 v3 v4 v5 h1 = some (r, h2) ∧ Inv h2
def St_end (Inv : Hp → Prop) (A B : Nat) : Prop := ∀ (h : Hp) (v1 : Int32), Inv h → ∃ (r : Int32) (h1 h2 : Hp), cl_end A v1 h = some (r, h1) ∧ ShX12 h1.1 B ∧ re_end B v1 h1 = some (r, h2) ∧ Inv h2
def St_text (Inv : Hp → Prop) (A B : Nat) : Prop := ∀ (h : Hp) (v1 : Int32), Inv h → ∃ (r : Int32) (h1 h2 : Hp), cl_text A v1 h = some (r, h1) ∧ ShX12 h1.1 B ∧ re_text B v1 h1 = some (r, h2) ∧ Inv h2
def St_fault (Inv : Hp → Prop) (A B : Nat) : Prop := ∀ (h : Hp) (v1 : Int32), Inv h → ∃ (r : Int32) (h1 h2 : Hp), cl_fault A v1 h = some (r, h1) ∧ ShX12 h1.1 B ∧ re_fault B v1 h1 = some (r, h2) ∧ Inv h2
def St_does (Inv : Hp → Prop) (A B : Nat) : Prop := ∀ (h : Hp) (v1 : Int32), Inv h → ∃ (r : Int32) (h1 h2 : Hp), cl_does A v1 h = some (r, h1) ∧ ShX12 h1.1 B ∧ re_does B v1 h1 = some (r, h2) ∧ Inv h2
def St_word (Inv : Hp → Prop) (A B : Nat) : Prop := ∀ (h : Hp) (v1 v2 v3 v4 v5 v6 : Int32), Inv h → ∃ (r : Int32) (h1 h2 : Hp), cl_word A v1 v2 v3 v4 (bz v5) (bz v6) h = some (r, h1) ∧ ShX12 h1.1 B ∧ re_word B v1 v2 v3 v4 (bz v5) (bz v6) h1 = some (r, h2) ∧ Inv h2
def St_quarters (Inv Inv' : Hp → Prop) (A B : Nat) : Prop := ∀ (h : Hp) (v1 : Int32), Inv h → ∃ (r : Int32) (h1 h2 : Hp), cl_quarters A v1 h = some (r, h1) ∧ ShX12 h1.1 B ∧ re_quarters B v1 h1 = some (r, h2) ∧ Inv' h2
def St_noise (Inv : Hp → Prop) (A B : Nat) : Prop := ∀ (h : Hp) (v1 v2 : Int32), Inv h → ∃ (r : Int32) (h1 h2 : Hp), cl_noise A v1 v2 h = some (r, h1) ∧ ShX12 h1.1 B ∧ re_noise B v1 v2 h1 = some (r, h2) ∧ Inv h2
def St_lend (Inv : Hp → Prop) (A B : Nat) : Prop := ∀ (h : Hp) (v1 v2 v3 : Int32), Inv h → ∃ (r : Int32) (h1 h2 : Hp), cl_lend A v1 v2 v3 h = some (r, h1) ∧ ShX12 h1.1 B ∧ re_lend B v1 v2 v3 h1 = some (r, h2) ∧ Inv h2
def St_split (Inv : Hp → Prop) (A B : Nat) : Prop := ∀ (h : Hp) (v1 v2 : Int32), Inv h → ∃ (r : Int32) (h1 h2 : Hp), cl_split A v1 v2 h = some (r, h1) ∧ ShX12 h1.1 B ∧ re_split B v1 v2 h1 = some (r, h2) ∧ Inv h2
def St_inherit (Inv : Hp → Prop) (A B : Nat) : Prop := ∀ (h : Hp) (v1 v2 : Int32), Inv h → ∃ (r : Int32) (h1 h2 : Hp), cl_inherit A v1 v2 h = some (r, h1) ∧ ShX12 h1.1 B ∧ re_inherit B v1 v2 h1 = some (r, h2) ∧ Inv h2
def St_sell (Inv : Hp → Prop) (A B : Nat) : Prop := ∀ (h : Hp) (v1 v2 v3 : Int32), Inv h → ∃ (r : Int32) (h1 h2 : Hp), cl_sell A v1 v2 v3 h = some (r, h1) ∧ ShX12 h1.1 B ∧ re_sell B v1 v2 v3 h1 = some (r, h2) ∧ Inv h2
def St_undo (Inv : Hp → Prop) (A B : Nat) : Prop := ∀ (h : Hp), Inv h → ∃ (r : Int32) (h1 h2 : Hp), cl_undo A h = some (r, h1) ∧ ShX12 h1.1 B ∧ re_undo B h1 = some (r, h2) ∧ Inv h2
def St_soonest (Inv : Hp → Prop) (A B : Nat) : Prop := ∀ (h : Hp) (v1 : Int32), Inv h → ∃ (r : Int32) (h1 h2 : Hp), cl_soonest A v1 h = some (r, h1) ∧ ShX12 h1.1 B ∧ re_soonest B v1 h1 = some (r, h2) ∧ Inv h2
def St_whom (Inv : Hp → Prop) (A B : Nat) : Prop := ∀ (h : Hp) (v1 v2 v3 v4 : Int32), Inv h → ∃ (r : Int32) (h1 h2 : Hp), cl_whom A v1 v2 v3 v4 h = some (r, h1) ∧ ShX12 h1.1 B ∧ re_whom B v1 v2 v3 v4 h1 = some (r, h2) ∧ Inv h2
def St_quiet (Inv : Hp → Prop) (A B : Nat) : Prop := ∀ (h : Hp) (v1 v2 : Int32), Inv h → ∃ (r : Int32) (h1 h2 : Hp), cl_quiet A v1 v2 h = some (r, h1) ∧ ShX12 h1.1 B ∧ re_quiet B v1 v2 h1 = some (r, h2) ∧ Inv h2
def St_thought (Inv : Hp → Prop) (A B : Nat) : Prop := ∀ (h : Hp) (v1 v2 v3 : Int32), Inv h → ∃ (r : Int32) (h1 h2 : Hp), cl_thought A v1 v2 v3 h = some (r, h1) ∧ ShX12 h1.1 B ∧ re_thought B v1 v2 v3 h1 = some (r, h2) ∧ Inv h2
def St_person (Inv : Hp → Prop) (A B : Nat) : Prop := ∀ (h : Hp) (v1 v2 : Int32), Inv h → ∃ (r : Int32) (h1 h2 : Hp), cl_person A v1 v2 h = some (r, h1) ∧ ShX12 h1.1 B ∧ re_person B v1 v2 h1 = some (r, h2) ∧ Inv h2
def St_book (Inv : Hp → Prop) (A B : Nat) : Prop := ∀ (h : Hp) (v1 v2 : Int32), Inv h → ∃ (r : Int32) (h1 h2 : Hp), cl_book A v1 v2 h = some (r, h1) ∧ ShX12 h1.1 B ∧ re_book B v1 v2 h1 = some (r, h2) ∧ Inv h2
def St_image (Inv : Hp → Prop) (A B : Nat) : Prop := ∀ (h : Hp) (v1 : Int32), Inv h → ∃ (r : Int32) (h1 h2 : Hp), cl_image A (bz v1) h = some (r, h1) ∧ ShX12 h1.1 B ∧ re_image B (bz v1) h1 = some (r, h2) ∧ Inv h2
def St_look (Inv : Hp → Prop) (A B : Nat) : Prop := ∀ (h : Hp) (v1 : Int32), Inv h → ∃ (r : Int32) (h1 h2 : Hp), cl_look A v1 h = some (r, h1) ∧ ShX12 h1.1 B ∧ re_look B v1 h1 = some (r, h2) ∧ Inv h2
def StAll (Inv Inv' : Hp → Prop) (A B : Nat) : Prop := (∀ h, Inv h → ShX11 h.1 A) ∧ St_state Inv A B ∧ St_one Inv A B ∧ St_tell Inv A B ∧ St_wall Inv A B ∧ St_set Inv A B ∧ St_debt Inv A B ∧ St_helpers Inv A B ∧ St_of Inv A B ∧ St_feed Inv A B ∧ St_end Inv A B ∧ St_text Inv A B ∧ St_fault Inv A B ∧ St_does Inv A B ∧ St_word Inv A B ∧ St_quarters Inv Inv' A B ∧ St_noise Inv A B ∧ St_lend Inv A B ∧ St_split Inv A B ∧ St_inherit Inv A B ∧ St_sell Inv A B ∧ St_undo Inv A B ∧ St_soonest Inv A B ∧ St_whom Inv A B ∧ St_quiet Inv A B ∧ St_thought Inv A B ∧ St_person Inv A B ∧ St_book Inv A B ∧ St_image Inv A B ∧ St_look Inv A B
theorem ldN {L : Nat} {xs : Nat → Int32} {j : Nat} (hj : j < L) (hL : L ≤ 3584) : ld L xs (nI j) = some (xs j) := by
  have h1 : (nI j).toNatClampNeg = j := nI_clamp (by omega)
  unfold ld
  rw [if_neg (by rw [h1]; exact fun q => q.elim (fun z => nI_pos (n := j) (by omega) z) (fun z => by omega)), h1]
theorem law_end {p : Program} {l : Launch} {e : Env} {s : State} {m : MethodId} {below : List Frame} {meth : Method} {c : Code} {b : Nat} {K : Kt} {k n : Nat} {L : Lo} {h : Hp} (hF : Fx K (p, l, e, room_1, s, m, #[Value.ref b], below, meth, c, lw_Z below #[Value.ref b] s) cL_law 4 RL 1300 600000 5500000) (hr : meth.sig.returnType = ret) (hB : kB K = s.heap.size) (hk : k ≤ 600000) (hn : n ≤ 5500000) (hL : L.length = 4) : G K (p, l, e, room_1, s, m, #[Value.ref b], below, meth, c, lw_Z below #[Value.ref b] s) 4 k n 1247 L [] h := by
  refine g_pC (S' := [.int 1]) hF tL_e_ok 2 1 rfl hL rfl rfl ?_
  intro H locs ls hR hq hl
  refine va_forget (fun q hq2 => by rw [← hB]; exact hq q hq2) ?_
  refine W.widen (Nat.le_trans hk (show 600000 ≤ room_1.cells by decide)) (Nat.le_trans hn (show 5500000 ≤ room_1.slots by decide)) ?_
  exact lw_ret hF.ex hF.co hr hF.lk (dAtC tL_e_ok 3 rfl rfl)
theorem kst (c a j : Nat) : c + a * j + a ≤ c + a * (j + 1) := by rw [Nat.mul_succ, Nat.add_assoc]; exact Nat.le_refl _
theorem i7 (j m : Nat) : nI (7 * j) + nI m = nI (7 * j + m) := nI_add _ _
set_option maxRecDepth 4000 in
set_option maxHeartbeats 1000000 in
theorem law_loop {p : Program} {l : Launch} {e : Env} {s : State} {m : MethodId} {below : List Frame} {meth : Method} {c : Code} {b A B Ln : Nat} {xs : Nat → Int32} {K : Kt} {Inv : Nat → Hp → Prop} (hF : Fx K (p, l, e, room_1, s, m, #[Value.ref b], below, meth, c, lw_Z below #[Value.ref b] s) cL_law 4 RL 1300 600000 5500000) (hr : meth.sig.returnType = ret) (hB : kB K = s.heap.size) (hx : kX K b = some (Ln, xs)) (hL : Ln ≤ 3584) (hSt : ∀ j, j ≤ 600 → StAll (Inv j) (Inv (j + 1)) A B) (hm : ∀ j h, Inv j h → Inv (j + 1) h) : ∀ (fu j : Nat), 7 * j ≤ Ln + 6 → Ln + 7 ≤ 7 * j + 7 * fu → ∀ h : Hp, Inv j h → G K (p, l, e, room_1, s, m, #[Value.ref b], below, meth, c, lw_Z below #[Value.ref b] s) 4 (200 + 40 * j) (60000 + 3200 * j) 18 [some (.ref b), some (.ref A), some (.ref B), some (.int (nI (7 * j)))] [] h
  | 0, j, h1, h2, h, hI => by
    exfalso; omega
  | fu + 1, j, h1, h2, h, hI => by
    have ih := law_loop (A := A) (B := B) (Inv := Inv) hF hr hB hx hL hSt hm fu (j + 1)
    obtain ⟨hsh, t0, t1, t2, t3, t4, t5, t6, t7, t8, t9, t10, t11, t12, t13, t14, t15, t16, t17, t18, t19, t20, t21, t22, t23, t24, t25, t26, t27, t28⟩ := hSt j (by omega)
    have hk : 200 + 40 * j + 40 ≤ 600000 := by omega
    have hn : 60000 + 3200 * j + 3200 ≤ 5500000 := by omega
    refine g_pC (S' := [.ref b, .int (nI (7 * j))]) hF tL_p_ok 10 2 rfl rfl rfl rfl ?_
    refine g_xlen hF (dAtC tL_p_ok 12 rfl rfl) hx rfl ?_
    refine g_pC (S' := [.int (nI Ln - 7), .int (nI (7 * j))]) hF tL_p_ok 13 2 rfl rfl rfl rfl ?_
    refine g_icmp_gt hF (dAtC tL_p_ok 15 rfl rfl) rfl (fun c0 => ?_) (fun c0 => ?_)
    · exact law_end hF hr hB (by omega) (by omega) rfl
    · have hle : 7 * j + 7 ≤ Ln := by
        have c1 : nI (7 * j) ≤ nI Ln - 7 := Int32.not_lt.mp c0
        have c2 := Int32.le_iff_toInt_le.mp c1
        have e1 : (nI (7 * j)).toInt = ((7 * j : Nat) : Int) := nI_toInt (by omega)
        have e2 : (nI Ln - nI 7).toInt = (Ln : Int) - 7 := pk_sub_toInt (by omega) (by omega)
        have e3 : (nI Ln - 7).toInt = (Ln : Int) - 7 := e2
        rw [e1, e3] at c2
        omega
      have hl : ∀ q, q < 7 → ld Ln xs (nI (7 * j) + nI q) = some (xs (7 * j + q)) := fun q hq => by rw [i7]; exact ldN (by omega) hL
      have hend : ∀ h2 : Hp, Inv (j + 1) h2 → G K (p, l, e, room_1, s, m, #[Value.ref b], below, meth, c, lw_Z below #[Value.ref b] s) 4 (200 + 40 * j + 40) (60000 + 3200 * j + 3200) 1241 [some (.ref b), some (.ref A), some (.ref B), some (.int (nI (7 * j)))] [] h2 := by
        intro h2 hI2
        refine g_pC (L' := [some (.ref b), some (.ref A), some (.ref B), some (.int (nI (7 * j) + 7))]) (S' := []) hF tL_e_ok 0 1 rfl rfl rfl rfl ?_
        refine g_goto hF (dAtC tL_e_ok 1 rfl rfl) rfl ?_
        have e7 : nI (7 * j) + 7 = nI (7 * (j + 1)) := i7 j 7
        rw [e7]
        refine g_widen (kst 200 40 j) (kst 60000 3200 j) ?_
        exact ih (by omega) (by omega) h2 hI2
      refine g_pC (S' := [.int (nI (7 * j)), .ref b]) hF tL_p_ok 16 2 rfl rfl rfl rfl ?_
      refine g_xld hF (dAtC tL_p_ok 18 rfl rfl) hx (by have := hl 0 (by decide); simpa [nI_0] using this) ?_
      refine g_pC (S' := [.int (xs (7 * j + 0) &&& 31)]) hF tL_p_ok 19 2 rfl rfl rfl rfl ?_
      generalize xs (7 * j + 0) &&& 31 = w
      by_cases w0 : w = 0
      · refine g_tsw (c := 0) hF (dAtC tL_p_ok 21 rfl rfl) w0 (by decide) (by decide) rfl rfl ?_
        obtain ⟨r, h1, h2, q1, s2, q2, hI2⟩ := t0 h (xs (7 * j + 1)) hI
        exact law_c0 hF hx hk hn (hl 1 (by decide)) (hsh h hI) s2 q1 q2 (hend h2 (hm _ _ hI2))
      by_cases w1 : w = 1
      · refine g_tsw (c := 1) hF (dAtC tL_p_ok 21 rfl rfl) w1 (by decide) (by decide) rfl rfl ?_
        obtain ⟨r, h1, h2, q1, s2, q2, hI2⟩ := t1 h (xs (7 * j + 1)) (xs (7 * j + 2)) (xs (7 * j + 3)) (xs (7 * j + 4)) (xs (7 * j + 5)) hI
        exact law_c1 hF hx hk hn (hl 1 (by decide)) (hl 2 (by decide)) (hl 3 (by decide)) (hl 4 (by decide)) (hl 5 (by decide)) (hsh h hI) s2 q1 q2 (hend h2 (hm _ _ hI2))
      by_cases w2 : w = 2
      · refine g_tsw (c := 2) hF (dAtC tL_p_ok 21 rfl rfl) w2 (by decide) (by decide) rfl rfl ?_
        obtain ⟨r, h1, h2, q1, s2, q2, hI2⟩ := t2 h (xs (7 * j + 1)) (xs (7 * j + 2)) (xs (7 * j + 3)) hI
        exact law_c2 hF hx hk hn (hl 1 (by decide)) (hl 2 (by decide)) (hl 3 (by decide)) (hsh h hI) s2 q1 q2 (hend h2 (hm _ _ hI2))
      by_cases w3 : w = 3
      · refine g_tsw (c := 3) hF (dAtC tL_p_ok 21 rfl rfl) w3 (by decide) (by decide) rfl rfl ?_
        obtain ⟨r, h1, h2, q1, s2, q2, hI2⟩ := t3 h (xs (7 * j + 1)) (xs (7 * j + 2)) (xs (7 * j + 3)) hI
        exact law_c3 hF hx hk hn (hl 1 (by decide)) (hl 2 (by decide)) (hl 3 (by decide)) (hsh h hI) s2 q1 q2 (hend h2 (hm _ _ hI2))
      by_cases w4 : w = 4
      · refine g_tsw (c := 4) hF (dAtC tL_p_ok 21 rfl rfl) w4 (by decide) (by decide) rfl rfl ?_
        obtain ⟨r, h1, h2, q1, s2, q2, hI2⟩ := t4 h (xs (7 * j + 1)) (xs (7 * j + 2)) hI
        exact law_c4 hF hx hk hn (hl 1 (by decide)) (hl 2 (by decide)) (hsh h hI) s2 q1 q2 (hend h2 (hm _ _ hI2))
      by_cases w5 : w = 5
      · refine g_tsw (c := 5) hF (dAtC tL_p_ok 21 rfl rfl) w5 (by decide) (by decide) rfl rfl ?_
        obtain ⟨r, h1, h2, q1, s2, q2, hI2⟩ := t5 h (xs (7 * j + 1)) (xs (7 * j + 2)) (xs (7 * j + 3)) hI
        exact law_c5 hF hx hk hn (hl 1 (by decide)) (hl 2 (by decide)) (hl 3 (by decide)) (hsh h hI) s2 q1 q2 (hend h2 (hm _ _ hI2))
      by_cases w6 : w = 6
      · refine g_tsw (c := 6) hF (dAtC tL_p_ok 21 rfl rfl) w6 (by decide) (by decide) rfl rfl ?_
        obtain ⟨r, h1, h2, q1, s2, q2, hI2⟩ := t6 h (xs (7 * j + 1)) (xs (7 * j + 2)) hI
        exact law_c6 hF hx hk hn (hl 1 (by decide)) (hl 2 (by decide)) (hsh h hI) s2 q1 q2 (hend h2 (hm _ _ hI2))
      by_cases w7 : w = 7
      · refine g_tsw (c := 7) hF (dAtC tL_p_ok 21 rfl rfl) w7 (by decide) (by decide) rfl rfl ?_
        obtain ⟨r, h1, h2, q1, s2, q2, hI2⟩ := t7 h (xs (7 * j + 1)) (xs (7 * j + 2)) hI
        exact law_c7 hF hx hk hn (hl 1 (by decide)) (hl 2 (by decide)) (hsh h hI) s2 q1 q2 (hend h2 (hm _ _ hI2))
      by_cases w8 : w = 8
      · refine g_tsw (c := 8) hF (dAtC tL_p_ok 21 rfl rfl) w8 (by decide) (by decide) rfl rfl ?_
        obtain ⟨r, h1, h2, q1, s2, q2, hI2⟩ := t8 h (xs (7 * j + 1)) (xs (7 * j + 2)) (xs (7 * j + 3)) (xs (7 * j + 4)) (xs (7 * j + 5)) hI
        exact law_c8 hF hx hk hn (hl 1 (by decide)) (hl 2 (by decide)) (hl 3 (by decide)) (hl 4 (by decide)) (hl 5 (by decide)) (hsh h hI) s2 q1 q2 (hend h2 (hm _ _ hI2))
      by_cases w9 : w = 9
      · refine g_tsw (c := 9) hF (dAtC tL_p_ok 21 rfl rfl) w9 (by decide) (by decide) rfl rfl ?_
        obtain ⟨r, h1, h2, q1, s2, q2, hI2⟩ := t9 h (xs (7 * j + 1)) hI
        exact law_c9 hF hx hk hn (hl 1 (by decide)) (hsh h hI) s2 q1 q2 (hend h2 (hm _ _ hI2))
      by_cases w10 : w = 10
      · refine g_tsw (c := 10) hF (dAtC tL_p_ok 21 rfl rfl) w10 (by decide) (by decide) rfl rfl ?_
        obtain ⟨r, h1, h2, q1, s2, q2, hI2⟩ := t10 h (xs (7 * j + 1)) hI
        exact law_c10 hF hx hk hn (hl 1 (by decide)) (hsh h hI) s2 q1 q2 (hend h2 (hm _ _ hI2))
      by_cases w11 : w = 11
      · refine g_tsw (c := 11) hF (dAtC tL_p_ok 21 rfl rfl) w11 (by decide) (by decide) rfl rfl ?_
        obtain ⟨r, h1, h2, q1, s2, q2, hI2⟩ := t11 h (xs (7 * j + 1)) hI
        exact law_c11 hF hx hk hn (hl 1 (by decide)) (hsh h hI) s2 q1 q2 (hend h2 (hm _ _ hI2))
      by_cases w12 : w = 12
      · refine g_tsw (c := 12) hF (dAtC tL_p_ok 21 rfl rfl) w12 (by decide) (by decide) rfl rfl ?_
        obtain ⟨r, h1, h2, q1, s2, q2, hI2⟩ := t12 h (xs (7 * j + 1)) hI
        exact law_c12 hF hx hk hn (hl 1 (by decide)) (hsh h hI) s2 q1 q2 (hend h2 (hm _ _ hI2))
      by_cases w13 : w = 13
      · refine g_tsw (c := 13) hF (dAtC tL_p_ok 21 rfl rfl) w13 (by decide) (by decide) rfl rfl ?_
        obtain ⟨r, h1, h2, q1, s2, q2, hI2⟩ := t13 h (xs (7 * j + 1)) (xs (7 * j + 2)) (xs (7 * j + 3)) (xs (7 * j + 4)) (xs (7 * j + 5)) (xs (7 * j + 6)) hI
        exact law_c13 hF hx hk hn (hl 1 (by decide)) (hl 2 (by decide)) (hl 3 (by decide)) (hl 4 (by decide)) (hl 5 (by decide)) (hl 6 (by decide)) (hsh h hI) s2 q1 q2 (hend h2 (hm _ _ hI2))
      by_cases w14 : w = 14
      · refine g_tsw (c := 14) hF (dAtC tL_p_ok 21 rfl rfl) w14 (by decide) (by decide) rfl rfl ?_
        obtain ⟨r, h1, h2, q1, s2, q2, hI2⟩ := t14 h (xs (7 * j + 1)) hI
        exact law_c14 hF hx hk hn (hl 1 (by decide)) (hsh h hI) s2 q1 q2 (hend h2 hI2)
      by_cases w15 : w = 15
      · refine g_tsw (c := 15) hF (dAtC tL_p_ok 21 rfl rfl) w15 (by decide) (by decide) rfl rfl ?_
        obtain ⟨r, h1, h2, q1, s2, q2, hI2⟩ := t15 h (xs (7 * j + 1)) (xs (7 * j + 2)) hI
        exact law_c15 hF hx hk hn (hl 1 (by decide)) (hl 2 (by decide)) (hsh h hI) s2 q1 q2 (hend h2 (hm _ _ hI2))
      by_cases w16 : w = 16
      · refine g_tsw (c := 16) hF (dAtC tL_p_ok 21 rfl rfl) w16 (by decide) (by decide) rfl rfl ?_
        obtain ⟨r, h1, h2, q1, s2, q2, hI2⟩ := t16 h (xs (7 * j + 1)) (xs (7 * j + 2)) (xs (7 * j + 3)) hI
        exact law_c16 hF hx hk hn (hl 1 (by decide)) (hl 2 (by decide)) (hl 3 (by decide)) (hsh h hI) s2 q1 q2 (hend h2 (hm _ _ hI2))
      by_cases w17 : w = 17
      · refine g_tsw (c := 17) hF (dAtC tL_p_ok 21 rfl rfl) w17 (by decide) (by decide) rfl rfl ?_
        obtain ⟨r, h1, h2, q1, s2, q2, hI2⟩ := t17 h (xs (7 * j + 1)) (xs (7 * j + 2)) hI
        exact law_c17 hF hx hk hn (hl 1 (by decide)) (hl 2 (by decide)) (hsh h hI) s2 q1 q2 (hend h2 (hm _ _ hI2))
      by_cases w18 : w = 18
      · refine g_tsw (c := 18) hF (dAtC tL_p_ok 21 rfl rfl) w18 (by decide) (by decide) rfl rfl ?_
        obtain ⟨r, h1, h2, q1, s2, q2, hI2⟩ := t18 h (xs (7 * j + 1)) (xs (7 * j + 2)) hI
        exact law_c18 hF hx hk hn (hl 1 (by decide)) (hl 2 (by decide)) (hsh h hI) s2 q1 q2 (hend h2 (hm _ _ hI2))
      by_cases w19 : w = 19
      · refine g_tsw (c := 19) hF (dAtC tL_p_ok 21 rfl rfl) w19 (by decide) (by decide) rfl rfl ?_
        obtain ⟨r, h1, h2, q1, s2, q2, hI2⟩ := t19 h (xs (7 * j + 1)) (xs (7 * j + 2)) (xs (7 * j + 3)) hI
        exact law_c19 hF hx hk hn (hl 1 (by decide)) (hl 2 (by decide)) (hl 3 (by decide)) (hsh h hI) s2 q1 q2 (hend h2 (hm _ _ hI2))
      by_cases w20 : w = 20
      · refine g_tsw (c := 20) hF (dAtC tL_p_ok 21 rfl rfl) w20 (by decide) (by decide) rfl rfl ?_
        obtain ⟨r, h1, h2, q1, s2, q2, hI2⟩ := t20 h hI
        exact law_c20 hF hx hk hn (hsh h hI) s2 q1 q2 (hend h2 (hm _ _ hI2))
      by_cases w21 : w = 21
      · refine g_tsw (c := 21) hF (dAtC tL_p_ok 21 rfl rfl) w21 (by decide) (by decide) rfl rfl ?_
        obtain ⟨r, h1, h2, q1, s2, q2, hI2⟩ := t21 h (xs (7 * j + 1)) hI
        exact law_c21 hF hx hk hn (hl 1 (by decide)) (hsh h hI) s2 q1 q2 (hend h2 (hm _ _ hI2))
      by_cases w22 : w = 22
      · refine g_tsw (c := 22) hF (dAtC tL_p_ok 21 rfl rfl) w22 (by decide) (by decide) rfl rfl ?_
        obtain ⟨r, h1, h2, q1, s2, q2, hI2⟩ := t22 h (xs (7 * j + 1)) (xs (7 * j + 2)) (xs (7 * j + 3)) (xs (7 * j + 4)) hI
        exact law_c22 hF hx hk hn (hl 1 (by decide)) (hl 2 (by decide)) (hl 3 (by decide)) (hl 4 (by decide)) (hsh h hI) s2 q1 q2 (hend h2 (hm _ _ hI2))
      by_cases w23 : w = 23
      · refine g_tsw (c := 23) hF (dAtC tL_p_ok 21 rfl rfl) w23 (by decide) (by decide) rfl rfl ?_
        obtain ⟨r, h1, h2, q1, s2, q2, hI2⟩ := t23 h (xs (7 * j + 1)) (xs (7 * j + 2)) hI
        exact law_c23 hF hx hk hn (hl 1 (by decide)) (hl 2 (by decide)) (hsh h hI) s2 q1 q2 (hend h2 (hm _ _ hI2))
      by_cases w24 : w = 24
      · refine g_tsw (c := 24) hF (dAtC tL_p_ok 21 rfl rfl) w24 (by decide) (by decide) rfl rfl ?_
        obtain ⟨r, h1, h2, q1, s2, q2, hI2⟩ := t24 h (xs (7 * j + 1)) (xs (7 * j + 2)) (xs (7 * j + 3)) hI
        exact law_c24 hF hx hk hn (hl 1 (by decide)) (hl 2 (by decide)) (hl 3 (by decide)) (hsh h hI) s2 q1 q2 (hend h2 (hm _ _ hI2))
      by_cases w25 : w = 25
      · refine g_tsw (c := 25) hF (dAtC tL_p_ok 21 rfl rfl) w25 (by decide) (by decide) rfl rfl ?_
        obtain ⟨r, h1, h2, q1, s2, q2, hI2⟩ := t25 h (xs (7 * j + 1)) (xs (7 * j + 2)) hI
        exact law_c25 hF hx hk hn (hl 1 (by decide)) (hl 2 (by decide)) (hsh h hI) s2 q1 q2 (hend h2 (hm _ _ hI2))
      by_cases w26 : w = 26
      · refine g_tsw (c := 26) hF (dAtC tL_p_ok 21 rfl rfl) w26 (by decide) (by decide) rfl rfl ?_
        obtain ⟨r, h1, h2, q1, s2, q2, hI2⟩ := t26 h (xs (7 * j + 1)) (xs (7 * j + 2)) hI
        exact law_c26 hF hx hk hn (hl 1 (by decide)) (hl 2 (by decide)) (hsh h hI) s2 q1 q2 (hend h2 (hm _ _ hI2))
      by_cases w27 : w = 27
      · refine g_tsw (c := 27) hF (dAtC tL_p_ok 21 rfl rfl) w27 (by decide) (by decide) rfl rfl ?_
        obtain ⟨r, h1, h2, q1, s2, q2, hI2⟩ := t27 h (xs (7 * j + 1)) hI
        exact law_c27 hF hx hk hn (hl 1 (by decide)) (hsh h hI) s2 q1 q2 (hend h2 (hm _ _ hI2))
      by_cases w28 : w = 28
      · refine g_tsw (c := 28) hF (dAtC tL_p_ok 21 rfl rfl) w28 (by decide) (by decide) rfl rfl ?_
        obtain ⟨r, h1, h2, q1, s2, q2, hI2⟩ := t28 h (xs (7 * j + 1)) hI
        exact law_c28 hF hx hk hn (hl 1 (by decide)) (hsh h hI) s2 q1 q2 (hend h2 (hm _ _ hI2))
      refine g_tswD hF (dAtC tL_p_ok 21 rfl rfl) (tsw_l 0 28 29 [0, 1, 2, 3, 4, 5, 6, 7, 8, 9, 10, 11, 12, 13, 14, 15, 16, 17, 18, 19, 20, 21, 22, 23, 24, 25, 26, 27, 28] (al1 w0 (al1 w1 (al1 w2 (al1 w3 (al1 w4 (al1 w5 (al1 w6 (al1 w7 (al1 w8 (al1 w9 (al1 w10 (al1 w11 (al1 w12 (al1 w13 (al1 w14 (al1 w15 (al1 w16 (al1 w17 (al1 w18 (al1 w19 (al1 w20 (al1 w21 (al1 w22 (al1 w23 (al1 w24 (al1 w25 (al1 w26 (al1 w27 (al1 w28 al0))))))))))))))))))))))))))))) (by decide) (by decide)) rfl ?_
      exact g_widen (by omega) (by omega) (hend h (hm _ _ hI))
