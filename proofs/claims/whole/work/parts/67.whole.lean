/-- what the pure level owes of the start: the constructors' functions answer, and the invariant holds -/
def InitOk (Inv : Nat → Hp → Prop) : Prop := ∀ base : Nat, ∃ h1 h2 : Hp, X11_init_f (al (fun _ => none) base (.inl (11, rsX11))) (zr (fun _ _ => 0) base) (base + 1) base = some h1 ∧ h1.2.2 = base + 84 ∧ X12_init_f (al h1.1 (base + 84) (.inl (12, rsX12))) (zr h1.2.1 (base + 84)) (base + 85) (base + 84) = some h2 ∧ Inv base h2
/-- THE PURE LEVEL'S DEBT -/
def Pure : Prop := ∃ Inv : Nat → Nat → Hp → Prop, InitOk (fun base => Inv base 0) ∧ (∀ base j h, Inv base j h → Inv base (j + 1) h) ∧ ∀ base j : Nat, j ≤ 600 → StAll (Inv base j) (Inv base (j + 1)) base (base + 84)
set_option maxRecDepth 8000 in
set_option maxHeartbeats 2000000 in
theorem whole_open (hP : Pure) {p : Program} {e : Env} {s : State} {m : MethodId} {below : List Frame} {meth : Method} {c : Code} (l : Launch) {b L : Nat} {xs : Nat → Int32} (hL : L ≤ 3584) (C0 : lw_At p s m meth c b L xs) : W p l e room_1 s m #[Value.ref b] below meth c s.heap [] 0 0 (lw_Z below #[Value.ref b] s) (entryFrame m ([Value.ref b] : List Value).toArray 4) := by
  obtain ⟨hx, hb, hr, hml, hown, hts, hX, hbl, hlocks, hgv⟩ := C0
  obtain ⟨K, hKx, hB, hH, Ln, ys, hLn, hxb⟩ := kx_start hts hgv hX hbl hL
  obtain ⟨Inv, hInit, hMono, hSt⟩ := hP
  obtain ⟨⟨τ1, σ1, n1⟩, h2, q1, qn, q2, hI⟩ := hInit s.heap.size
  obtain ⟨τ2, σ2, n2⟩ := h2
  have qn : n1 = s.heap.size + 84 := qn
  subst qn
  have hF : Fx K (p, l, e, room_1, s, m, #[Value.ref b], below, meth, c, lw_Z below #[Value.ref b] s) cL_law 4 RL 1300 600000 5500000 := ⟨hx, hb, hml, hown, fun w hw => hts w (gtb_in hw), hKx, hlocks, show 1300 ≤ 2048 by decide, show 64 * 1300 ≤ 84000 by decide, show 600000 ≤ room_1.cells by decide, show 5500000 ≤ room_1.slots by decide⟩
  obtain ⟨ls, hE, hls⟩ := lh_entry [Value.ref b] (n := 4) (fun v hv => by rw [List.mem_singleton.mp hv]; rfl) (Nat.le_of_ble_eq_true rfl) m
  rw [hE]
  have hls : lh ls 4 [some (.ref b), none, none, none] := hls
  have hR : Rel K (fun _ => none, fun _ _ => 0, s.heap.size) s.heap := ⟨rfl, by rw [hB]; exact Nat.le_refl _, fun a => trivial, (fun a x h => nomatch h), (fun q _ => by rw [hH])⟩
  have key : G K (p, l, e, room_1, s, m, #[Value.ref b], below, meth, c, lw_Z below #[Value.ref b] s) 4 0 0 0 [some (.ref b), none, none, none] [] (fun _ => none, fun _ _ => 0, s.heap.size) := by
    refine g_new (ci := 11) hF tyX11 (dAtC tL_p_ok 0 rfl rfl) rfl tyX11_ok clL_7 inX11 icX11 rfl dvX11 (by decide) (by decide) ?_
    refine g_pC (S' := [.ref s.heap.size, .ref s.heap.size]) hF tL_p_ok 1 1 rfl rfl rfl rfl ?_
    refine g_cI (S := [.ref s.heap.size]) hF (X11_init_ok (Nat.le_refl _) q1 K) mbX11_init miX11_init mlL_9 (by decide) (by decide) (dAtC tL_p_ok 2 rfl rfl) rfl rfl (Nat.le_of_ble_eq_true rfl) rfl rfl (by decide) (by decide) rfl ?_
    refine g_pC (L' := [some (.ref b), some (.ref s.heap.size), none, none]) (S' := []) hF tL_p_ok 3 1 rfl rfl rfl rfl ?_
    refine g_new (ci := 12) hF tyX12 (dAtC tL_p_ok 4 rfl rfl) rfl tyX12_ok clL_10 inX12 icX12 rfl dvX12 (by decide) (by decide) ?_
    refine g_pC (S' := [.ref (s.heap.size + 84), .ref (s.heap.size + 84)]) hF tL_p_ok 5 1 rfl rfl rfl rfl ?_
    refine g_cI (S := [.ref (s.heap.size + 84)]) hF (X12_init_ok (Nat.le_refl _) q2 K) mbX12_init miX12_init mlL_12 (by decide) (by decide) (dAtC tL_p_ok 6 rfl rfl) rfl rfl (Nat.le_of_ble_eq_true rfl) rfl rfl (by decide) (by decide) rfl ?_
    refine g_pC (L' := [some (.ref b), some (.ref s.heap.size), some (.ref (s.heap.size + 84)), some (.int (nI (7 * 0)))]) (S' := []) hF tL_p_ok 7 3 rfl rfl rfl rfl ?_
    refine g_widen (k' := 200 + 40 * 0) (n' := 60000 + 3200 * 0) (by decide) (by decide) ?_
    exact law_loop (Inv := Inv s.heap.size) hF hr hB hxb hLn (hSt s.heap.size) (hMono s.heap.size) 600 0 (by omega) (by omega) _ hI
  exact key s.heap [] ls hR (fun q hq => by cases hq) hls
