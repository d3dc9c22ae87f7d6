/-! The law's cases. -/
theorem dAtC {cc : ByteArray} {c0 : Nat} {t : List (Instr × Nat)} (h : sgB cc c0 t = true) (j : Nat) {pc : Nat} {q : Instr × Nat} (hp : c0 + lnI (t.take j) = pc) (hq : t[j]? = some q) : decode cc pc = .ok q := by
  have h1 := sgB_drop j c0 t h
  obtain ⟨hj, hz⟩ := List.getElem?_eq_some_iff.mp hq
  rw [List.drop_eq_getElem_cons hj, hz, hp] at h1
  obtain ⟨i, n⟩ := q
  simp [sgB] at h1
  exact h1.1
theorem g_pC {K : Kt} {X : Cx} {cc : ByteArray} {nL : Nat} {own : String} {D mc ms k n pc : Nat} {L L' : Lo} {S S' : List Value} {h : Hp} {c0 : Nat} {t : List (Instr × Nat)} (hF : Fx K X cc nL own D mc ms) (ht : sgB cc c0 t = true) (j m : Nat) {pc0 : Nat} (h0 : c0 + lnI (t.take j) = pc0) (hn : L.length = nL) (hp : pxs ((t.drop j).take m) L S = some (L', S')) (he : pc0 + lnI ((t.drop j).take m) = pc) (kk : G K X nL k n pc L' S' h) : G K X nL k n pc0 L S h := by
  have h1 := sgB_drop j c0 t ht
  rw [h0] at h1
  exact g_ps hF kk _ pc0 L S hn (sgB_take m pc0 _ h1) hp he
def bz (x : Int32) : Int32 := if x = 0 then 0 else 1
set_option maxRecDepth 4000 in
set_option maxHeartbeats 1000000 in
theorem law_c0 {K : Kt} {X : Cx} {k n b A B Ln : Nat} {xs : Nat → Int32} {i r : Int32} {v1 : Int32} {h h1 h2 : Hp} (hF : Fx K X cL_law 4 RL 1300 600000 5500000) (hx : kX K b = some (Ln, xs)) (hk : k + 40 ≤ 600000) (hn : n + 3200 ≤ 5500000) (e1 : ld Ln xs (i + 1) = some v1) (hS1 : ShX11 h.1 A) (hS2 : ShX12 h1.1 B) (q1 : cl_state A v1 h = some (r, h1)) (q2 : re_state B v1 h1 = some (r, h2)) (kk : G K X 4 (k + 40) (n + 3200) 1241 [some (.ref b), some (.ref A), some (.ref B), some (.int i)] [] h2) : G K X 4 k n 164 [some (.ref b), some (.ref A), some (.ref B), some (.int i)] [] h := by
  obtain ⟨τ, σ, nx⟩ := h
  obtain ⟨τ1, σ1, nx1⟩ := h1
  refine g_pC (S' := [.int (i + 1), .ref b, .ref A]) hF tL_0_ok 0 5 rfl rfl rfl rfl ?_
  refine g_xld hF (dAtC tL_0_ok 5 rfl rfl) hx e1 ?_
  refine g_cV (S := []) hF (cl_state_ok (Nat.le_refl _) hS1 q1 K) mbX11_state mvX11_state mlL_13 (by omega) (by decide) (dAtC tL_0_ok 6 rfl rfl) hS1.1 rfl rfl rfl (Nat.le_of_ble_eq_true rfl) rfl rfl (by omega) (by omega) rfl ?_
  refine g_pC (S' := [.int (i + 1), .ref b, .ref B, .int r]) hF tL_0_ok 7 5 rfl rfl rfl rfl ?_
  refine g_xld hF (dAtC tL_0_ok 12 rfl rfl) hx e1 ?_
  refine g_cV (S := [.int r]) hF (re_state_ok (Nat.le_refl _) hS2 q2 K) mbX12_state mvX12_state mlL_17 (by omega) (by decide) (dAtC tL_0_ok 13 rfl rfl) hS2.1 rfl rfl rfl (Nat.le_of_ble_eq_true rfl) rfl rfl (by omega) (by omega) rfl ?_
  refine g_icmp_eq hF (dAtC tL_0_ok 14 rfl rfl) rfl (fun _ => ?_) (fun c => absurd rfl c)
  exact g_widen (by omega) (by omega) kk
set_option maxRecDepth 4000 in
set_option maxHeartbeats 1000000 in
theorem law_c1 {K : Kt} {X : Cx} {k n b A B Ln : Nat} {xs : Nat → Int32} {i r : Int32} {v1 v2 v3 v4 v5 : Int32} {h h1 h2 : Hp} (hF : Fx K X cL_law 4 RL 1300 600000 5500000) (hx : kX K b = some (Ln, xs)) (hk : k + 40 ≤ 600000) (hn : n + 3200 ≤ 5500000) (e1 : ld Ln xs (i + 1) = some v1) (e2 : ld Ln xs (i + 2) = some v2) (e3 : ld Ln xs (i + 3) = some v3) (e4 : ld Ln xs (i + 4) = some v4) (e5 : ld Ln xs (i + 5) = some v5) (hS1 : ShX11 h.1 A) (hS2 : ShX12 h1.1 B) (q1 : cl_one A v1 v2 v3 v4 v5 h = some (r, h1)) (q2 : re_one B v1 v2 v3 v4 v5 h1 = some (r, h2)) (kk : G K X 4 (k + 40) (n + 3200) 1241 [some (.ref b), some (.ref A), some (.ref B), some (.int i)] [] h2) : G K X 4 k n 187 [some (.ref b), some (.ref A), some (.ref B), some (.int i)] [] h := by
  obtain ⟨τ, σ, nx⟩ := h
  obtain ⟨τ1, σ1, nx1⟩ := h1
  refine g_pC (S' := [.int (i + 1), .ref b, .ref A]) hF tL_1_ok 0 5 rfl rfl rfl rfl ?_
  refine g_xld hF (dAtC tL_1_ok 5 rfl rfl) hx e1 ?_
  refine g_pC (S' := [.int (i + 2), .ref b, .int v1, .ref A]) hF tL_1_ok 6 4 rfl rfl rfl rfl ?_
  refine g_xld hF (dAtC tL_1_ok 10 rfl rfl) hx e2 ?_
  refine g_pC (S' := [.int (i + 3), .ref b, .int v2, .int v1, .ref A]) hF tL_1_ok 11 4 rfl rfl rfl rfl ?_
  refine g_xld hF (dAtC tL_1_ok 15 rfl rfl) hx e3 ?_
  refine g_pC (S' := [.int (i + 4), .ref b, .int v3, .int v2, .int v1, .ref A]) hF tL_1_ok 16 4 rfl rfl rfl rfl ?_
  refine g_xld hF (dAtC tL_1_ok 20 rfl rfl) hx e4 ?_
  refine g_pC (S' := [.int (i + 5), .ref b, .int v4, .int v3, .int v2, .int v1, .ref A]) hF tL_1_ok 21 4 rfl rfl rfl rfl ?_
  refine g_xld hF (dAtC tL_1_ok 25 rfl rfl) hx e5 ?_
  refine g_cV (S := []) hF (cl_one_ok (Nat.le_refl _) hS1 q1 K) mbX11_one mvX11_one mlL_18 (by omega) (by decide) (dAtC tL_1_ok 26 rfl rfl) hS1.1 rfl rfl rfl (Nat.le_of_ble_eq_true rfl) rfl rfl (by omega) (by omega) rfl ?_
  refine g_pC (S' := [.int (i + 1), .ref b, .ref B, .int r]) hF tL_1_ok 27 5 rfl rfl rfl rfl ?_
  refine g_xld hF (dAtC tL_1_ok 32 rfl rfl) hx e1 ?_
  refine g_pC (S' := [.int (i + 2), .ref b, .int v1, .ref B, .int r]) hF tL_1_ok 33 4 rfl rfl rfl rfl ?_
  refine g_xld hF (dAtC tL_1_ok 37 rfl rfl) hx e2 ?_
  refine g_pC (S' := [.int (i + 3), .ref b, .int v2, .int v1, .ref B, .int r]) hF tL_1_ok 38 4 rfl rfl rfl rfl ?_
  refine g_xld hF (dAtC tL_1_ok 42 rfl rfl) hx e3 ?_
  refine g_pC (S' := [.int (i + 4), .ref b, .int v3, .int v2, .int v1, .ref B, .int r]) hF tL_1_ok 43 4 rfl rfl rfl rfl ?_
  refine g_xld hF (dAtC tL_1_ok 47 rfl rfl) hx e4 ?_
  refine g_pC (S' := [.int (i + 5), .ref b, .int v4, .int v3, .int v2, .int v1, .ref B, .int r]) hF tL_1_ok 48 4 rfl rfl rfl rfl ?_
  refine g_xld hF (dAtC tL_1_ok 52 rfl rfl) hx e5 ?_
  refine g_cV (S := [.int r]) hF (re_one_ok (Nat.le_refl _) hS2 q2 K) mbX12_one mvX12_one mlL_22 (by omega) (by decide) (dAtC tL_1_ok 53 rfl rfl) hS2.1 rfl rfl rfl (Nat.le_of_ble_eq_true rfl) rfl rfl (by omega) (by omega) rfl ?_
  refine g_icmp_eq hF (dAtC tL_1_ok 54 rfl rfl) rfl (fun _ => ?_) (fun c => absurd rfl c)
  exact g_widen (by omega) (by omega) kk
set_option maxRecDepth 4000 in
set_option maxHeartbeats 1000000 in
theorem law_c2 {K : Kt} {X : Cx} {k n b A B Ln : Nat} {xs : Nat → Int32} {i r : Int32} {v1 v2 v3 : Int32} {h h1 h2 : Hp} (hF : Fx K X cL_law 4 RL 1300 600000 5500000) (hx : kX K b = some (Ln, xs)) (hk : k + 40 ≤ 600000) (hn : n + 3200 ≤ 5500000) (e1 : ld Ln xs (i + 1) = some v1) (e2 : ld Ln xs (i + 2) = some v2) (e3 : ld Ln xs (i + 3) = some v3) (hS1 : ShX11 h.1 A) (hS2 : ShX12 h1.1 B) (q1 : cl_tell A v1 v2 v3 h = some (r, h1)) (q2 : re_tell B v1 v2 v3 h1 = some (r, h2)) (kk : G K X 4 (k + 40) (n + 3200) 1241 [some (.ref b), some (.ref A), some (.ref B), some (.int i)] [] h2) : G K X 4 k n 250 [some (.ref b), some (.ref A), some (.ref B), some (.int i)] [] h := by
  obtain ⟨τ, σ, nx⟩ := h
  obtain ⟨τ1, σ1, nx1⟩ := h1
  refine g_pC (S' := [.int (i + 1), .ref b, .ref A]) hF tL_2_ok 0 5 rfl rfl rfl rfl ?_
  refine g_xld hF (dAtC tL_2_ok 5 rfl rfl) hx e1 ?_
  refine g_pC (S' := [.int (i + 2), .ref b, .int v1, .ref A]) hF tL_2_ok 6 4 rfl rfl rfl rfl ?_
  refine g_xld hF (dAtC tL_2_ok 10 rfl rfl) hx e2 ?_
  refine g_pC (S' := [.int (i + 3), .ref b, .int v2, .int v1, .ref A]) hF tL_2_ok 11 4 rfl rfl rfl rfl ?_
  refine g_xld hF (dAtC tL_2_ok 15 rfl rfl) hx e3 ?_
  refine g_cV (S := []) hF (cl_tell_ok (Nat.le_refl _) hS1 q1 K) mbX11_tell mvX11_tell mlL_23 (by omega) (by decide) (dAtC tL_2_ok 16 rfl rfl) hS1.1 rfl rfl rfl (Nat.le_of_ble_eq_true rfl) rfl rfl (by omega) (by omega) rfl ?_
  refine g_pC (S' := [.int (i + 1), .ref b, .ref B, .int r]) hF tL_2_ok 17 5 rfl rfl rfl rfl ?_
  refine g_xld hF (dAtC tL_2_ok 22 rfl rfl) hx e1 ?_
  refine g_pC (S' := [.int (i + 2), .ref b, .int v1, .ref B, .int r]) hF tL_2_ok 23 4 rfl rfl rfl rfl ?_
  refine g_xld hF (dAtC tL_2_ok 27 rfl rfl) hx e2 ?_
  refine g_pC (S' := [.int (i + 3), .ref b, .int v2, .int v1, .ref B, .int r]) hF tL_2_ok 28 4 rfl rfl rfl rfl ?_
  refine g_xld hF (dAtC tL_2_ok 32 rfl rfl) hx e3 ?_
  refine g_cV (S := [.int r]) hF (re_tell_ok (Nat.le_refl _) hS2 q2 K) mbX12_tell mvX12_tell mlL_27 (by omega) (by decide) (dAtC tL_2_ok 33 rfl rfl) hS2.1 rfl rfl rfl (Nat.le_of_ble_eq_true rfl) rfl rfl (by omega) (by omega) rfl ?_
  refine g_icmp_eq hF (dAtC tL_2_ok 34 rfl rfl) rfl (fun _ => ?_) (fun c => absurd rfl c)
  exact g_widen (by omega) (by omega) kk
set_option maxRecDepth 4000 in
set_option maxHeartbeats 1000000 in
theorem law_c3 {K : Kt} {X : Cx} {k n b A B Ln : Nat} {xs : Nat → Int32} {i r : Int32} {v1 v2 v3 : Int32} {h h1 h2 : Hp} (hF : Fx K X cL_law 4 RL 1300 600000 5500000) (hx : kX K b = some (Ln, xs)) (hk : k + 40 ≤ 600000) (hn : n + 3200 ≤ 5500000) (e1 : ld Ln xs (i + 1) = some v1) (e2 : ld Ln xs (i + 2) = some v2) (e3 : ld Ln xs (i + 3) = some v3) (hS1 : ShX11 h.1 A) (hS2 : ShX12 h1.1 B) (q1 : cl_wall A v1 v2 v3 h = some (r, h1)) (q2 : re_wall B v1 v2 v3 h1 = some (r, h2)) (kk : G K X 4 (k + 40) (n + 3200) 1241 [some (.ref b), some (.ref A), some (.ref B), some (.int i)] [] h2) : G K X 4 k n 293 [some (.ref b), some (.ref A), some (.ref B), some (.int i)] [] h := by
  obtain ⟨τ, σ, nx⟩ := h
  obtain ⟨τ1, σ1, nx1⟩ := h1
  refine g_pC (S' := [.int (i + 1), .ref b, .ref A]) hF tL_3_ok 0 5 rfl rfl rfl rfl ?_
  refine g_xld hF (dAtC tL_3_ok 5 rfl rfl) hx e1 ?_
  refine g_pC (S' := [.int (i + 2), .ref b, .int v1, .ref A]) hF tL_3_ok 6 4 rfl rfl rfl rfl ?_
  refine g_xld hF (dAtC tL_3_ok 10 rfl rfl) hx e2 ?_
  refine g_pC (S' := [.int (i + 3), .ref b, .int v2, .int v1, .ref A]) hF tL_3_ok 11 4 rfl rfl rfl rfl ?_
  refine g_xld hF (dAtC tL_3_ok 15 rfl rfl) hx e3 ?_
  refine g_cV (S := []) hF (cl_wall_ok (Nat.le_refl _) hS1 q1 K) mbX11_wall mvX11_wall mlL_28 (by omega) (by decide) (dAtC tL_3_ok 16 rfl rfl) hS1.1 rfl rfl rfl (Nat.le_of_ble_eq_true rfl) rfl rfl (by omega) (by omega) rfl ?_
  refine g_pC (S' := [.int (i + 1), .ref b, .ref B, .int r]) hF tL_3_ok 17 5 rfl rfl rfl rfl ?_
  refine g_xld hF (dAtC tL_3_ok 22 rfl rfl) hx e1 ?_
  refine g_pC (S' := [.int (i + 2), .ref b, .int v1, .ref B, .int r]) hF tL_3_ok 23 4 rfl rfl rfl rfl ?_
  refine g_xld hF (dAtC tL_3_ok 27 rfl rfl) hx e2 ?_
  refine g_pC (S' := [.int (i + 3), .ref b, .int v2, .int v1, .ref B, .int r]) hF tL_3_ok 28 4 rfl rfl rfl rfl ?_
  refine g_xld hF (dAtC tL_3_ok 32 rfl rfl) hx e3 ?_
  refine g_cV (S := [.int r]) hF (re_wall_ok (Nat.le_refl _) hS2 q2 K) mbX12_wall mvX12_wall mlL_31 (by omega) (by decide) (dAtC tL_3_ok 33 rfl rfl) hS2.1 rfl rfl rfl (Nat.le_of_ble_eq_true rfl) rfl rfl (by omega) (by omega) rfl ?_
  refine g_icmp_eq hF (dAtC tL_3_ok 34 rfl rfl) rfl (fun _ => ?_) (fun c => absurd rfl c)
  exact g_widen (by omega) (by omega) kk
set_option maxRecDepth 4000 in
set_option maxHeartbeats 1000000 in
theorem law_c4 {K : Kt} {X : Cx} {k n b A B Ln : Nat} {xs : Nat → Int32} {i r : Int32} {v1 v2 : Int32} {h h1 h2 : Hp} (hF : Fx K X cL_law 4 RL 1300 600000 5500000) (hx : kX K b = some (Ln, xs)) (hk : k + 40 ≤ 600000) (hn : n + 3200 ≤ 5500000) (e1 : ld Ln xs (i + 1) = some v1) (e2 : ld Ln xs (i + 2) = some v2) (hS1 : ShX11 h.1 A) (hS2 : ShX12 h1.1 B) (q1 : cl_set A v1 v2 h = some (r, h1)) (q2 : re_set B v1 v2 h1 = some (r, h2)) (kk : G K X 4 (k + 40) (n + 3200) 1241 [some (.ref b), some (.ref A), some (.ref B), some (.int i)] [] h2) : G K X 4 k n 336 [some (.ref b), some (.ref A), some (.ref B), some (.int i)] [] h := by
  obtain ⟨τ, σ, nx⟩ := h
  obtain ⟨τ1, σ1, nx1⟩ := h1
  refine g_pC (S' := [.int (i + 1), .ref b, .ref A]) hF tL_4_ok 0 5 rfl rfl rfl rfl ?_
  refine g_xld hF (dAtC tL_4_ok 5 rfl rfl) hx e1 ?_
  refine g_pC (S' := [.int (i + 2), .ref b, .int v1, .ref A]) hF tL_4_ok 6 4 rfl rfl rfl rfl ?_
  refine g_xld hF (dAtC tL_4_ok 10 rfl rfl) hx e2 ?_
  refine g_cV (S := []) hF (cl_set_ok (Nat.le_refl _) hS1 q1 K) mbX11_set mvX11_set mlL_32 (by omega) (by decide) (dAtC tL_4_ok 11 rfl rfl) hS1.1 rfl rfl rfl (Nat.le_of_ble_eq_true rfl) rfl rfl (by omega) (by omega) rfl ?_
  refine g_pC (S' := [.int (i + 1), .ref b, .ref B, .int r]) hF tL_4_ok 12 5 rfl rfl rfl rfl ?_
  refine g_xld hF (dAtC tL_4_ok 17 rfl rfl) hx e1 ?_
  refine g_pC (S' := [.int (i + 2), .ref b, .int v1, .ref B, .int r]) hF tL_4_ok 18 4 rfl rfl rfl rfl ?_
  refine g_xld hF (dAtC tL_4_ok 22 rfl rfl) hx e2 ?_
  refine g_cV (S := [.int r]) hF (re_set_ok (Nat.le_refl _) hS2 q2 K) mbX12_set mvX12_set mlL_36 (by omega) (by decide) (dAtC tL_4_ok 23 rfl rfl) hS2.1 rfl rfl rfl (Nat.le_of_ble_eq_true rfl) rfl rfl (by omega) (by omega) rfl ?_
  refine g_icmp_eq hF (dAtC tL_4_ok 24 rfl rfl) rfl (fun _ => ?_) (fun c => absurd rfl c)
  exact g_widen (by omega) (by omega) kk
set_option maxRecDepth 4000 in
set_option maxHeartbeats 1000000 in
theorem law_c5 {K : Kt} {X : Cx} {k n b A B Ln : Nat} {xs : Nat → Int32} {i r : Int32} {v1 v2 v3 : Int32} {h h1 h2 : Hp} (hF : Fx K X cL_law 4 RL 1300 600000 5500000) (hx : kX K b = some (Ln, xs)) (hk : k + 40 ≤ 600000) (hn : n + 3200 ≤ 5500000) (e1 : ld Ln xs (i + 1) = some v1) (e2 : ld Ln xs (i + 2) = some v2) (e3 : ld Ln xs (i + 3) = some v3) (hS1 : ShX11 h.1 A) (hS2 : ShX12 h1.1 B) (q1 : cl_debt A v1 v2 v3 h = some (r, h1)) (q2 : re_debt B v1 v2 v3 h1 = some (r, h2)) (kk : G K X 4 (k + 40) (n + 3200) 1241 [some (.ref b), some (.ref A), some (.ref B), some (.int i)] [] h2) : G K X 4 k n 369 [some (.ref b), some (.ref A), some (.ref B), some (.int i)] [] h := by
  obtain ⟨τ, σ, nx⟩ := h
  obtain ⟨τ1, σ1, nx1⟩ := h1
  refine g_pC (S' := [.int (i + 1), .ref b, .ref A]) hF tL_5_ok 0 5 rfl rfl rfl rfl ?_
  refine g_xld hF (dAtC tL_5_ok 5 rfl rfl) hx e1 ?_
  refine g_pC (S' := [.int (i + 2), .ref b, .int v1, .ref A]) hF tL_5_ok 6 4 rfl rfl rfl rfl ?_
  refine g_xld hF (dAtC tL_5_ok 10 rfl rfl) hx e2 ?_
  refine g_pC (S' := [.int (i + 3), .ref b, .int v2, .int v1, .ref A]) hF tL_5_ok 11 4 rfl rfl rfl rfl ?_
  refine g_xld hF (dAtC tL_5_ok 15 rfl rfl) hx e3 ?_
  refine g_cV (S := []) hF (cl_debt_ok (Nat.le_refl _) hS1 q1 K) mbX11_debt mvX11_debt mlL_37 (by omega) (by decide) (dAtC tL_5_ok 16 rfl rfl) hS1.1 rfl rfl rfl (Nat.le_of_ble_eq_true rfl) rfl rfl (by omega) (by omega) rfl ?_
  refine g_pC (S' := [.int (i + 1), .ref b, .ref B, .int r]) hF tL_5_ok 17 5 rfl rfl rfl rfl ?_
  refine g_xld hF (dAtC tL_5_ok 22 rfl rfl) hx e1 ?_
  refine g_pC (S' := [.int (i + 2), .ref b, .int v1, .ref B, .int r]) hF tL_5_ok 23 4 rfl rfl rfl rfl ?_
  refine g_xld hF (dAtC tL_5_ok 27 rfl rfl) hx e2 ?_
  refine g_pC (S' := [.int (i + 3), .ref b, .int v2, .int v1, .ref B, .int r]) hF tL_5_ok 28 4 rfl rfl rfl rfl ?_
  refine g_xld hF (dAtC tL_5_ok 32 rfl rfl) hx e3 ?_
  refine g_cV (S := [.int r]) hF (re_debt_ok (Nat.le_refl _) hS2 q2 K) mbX12_debt mvX12_debt mlL_41 (by omega) (by decide) (dAtC tL_5_ok 33 rfl rfl) hS2.1 rfl rfl rfl (Nat.le_of_ble_eq_true rfl) rfl rfl (by omega) (by omega) rfl ?_
  refine g_icmp_eq hF (dAtC tL_5_ok 34 rfl rfl) rfl (fun _ => ?_) (fun c => absurd rfl c)
  exact g_widen (by omega) (by omega) kk
set_option maxRecDepth 4000 in
set_option maxHeartbeats 1000000 in
theorem law_c6 {K : Kt} {X : Cx} {k n b A B Ln : Nat} {xs : Nat → Int32} {i r : Int32} {v1 v2 : Int32} {h h1 h2 : Hp} (hF : Fx K X cL_law 4 RL 1300 600000 5500000) (hx : kX K b = some (Ln, xs)) (hk : k + 40 ≤ 600000) (hn : n + 3200 ≤ 5500000) (e1 : ld Ln xs (i + 1) = some v1) (e2 : ld Ln xs (i + 2) = some v2) (hS1 : ShX11 h.1 A) (hS2 : ShX12 h1.1 B) (q1 : cl_helpers A v1 v2 h = some (r, h1)) (q2 : re_helpers B v1 v2 h1 = some (r, h2)) (kk : G K X 4 (k + 40) (n + 3200) 1241 [some (.ref b), some (.ref A), some (.ref B), some (.int i)] [] h2) : G K X 4 k n 412 [some (.ref b), some (.ref A), some (.ref B), some (.int i)] [] h := by
  obtain ⟨τ, σ, nx⟩ := h
  obtain ⟨τ1, σ1, nx1⟩ := h1
  refine g_pC (S' := [.int (i + 1), .ref b, .ref A]) hF tL_6_ok 0 5 rfl rfl rfl rfl ?_
  refine g_xld hF (dAtC tL_6_ok 5 rfl rfl) hx e1 ?_
  refine g_pC (S' := [.int (i + 2), .ref b, .int v1, .ref A]) hF tL_6_ok 6 4 rfl rfl rfl rfl ?_
  refine g_xld hF (dAtC tL_6_ok 10 rfl rfl) hx e2 ?_
  refine g_cV (S := []) hF (cl_helpers_ok (Nat.le_refl _) hS1 q1 K) mbX11_helpers mvX11_helpers mlL_42 (by omega) (by decide) (dAtC tL_6_ok 11 rfl rfl) hS1.1 rfl rfl rfl (Nat.le_of_ble_eq_true rfl) rfl rfl (by omega) (by omega) rfl ?_
  refine g_pC (S' := [.int (i + 1), .ref b, .ref B, .int r]) hF tL_6_ok 12 5 rfl rfl rfl rfl ?_
  refine g_xld hF (dAtC tL_6_ok 17 rfl rfl) hx e1 ?_
  refine g_pC (S' := [.int (i + 2), .ref b, .int v1, .ref B, .int r]) hF tL_6_ok 18 4 rfl rfl rfl rfl ?_
  refine g_xld hF (dAtC tL_6_ok 22 rfl rfl) hx e2 ?_
  refine g_cV (S := [.int r]) hF (re_helpers_ok (Nat.le_refl _) hS2 q2 K) mbX12_helpers mvX12_helpers mlL_45 (by omega) (by decide) (dAtC tL_6_ok 23 rfl rfl) hS2.1 rfl rfl rfl (Nat.le_of_ble_eq_true rfl) rfl rfl (by omega) (by omega) rfl ?_
  refine g_icmp_eq hF (dAtC tL_6_ok 24 rfl rfl) rfl (fun _ => ?_) (fun c => absurd rfl c)
  exact g_widen (by omega) (by omega) kk
set_option maxRecDepth 4000 in
set_option maxHeartbeats 1000000 in
theorem law_c7 {K : Kt} {X : Cx} {k n b A B Ln : Nat} {xs : Nat → Int32} {i r : Int32} {v1 v2 : Int32} {h h1 h2 : Hp} (hF : Fx K X cL_law 4 RL 1300 600000 5500000) (hx : kX K b = some (Ln, xs)) (hk : k + 40 ≤ 600000) (hn : n + 3200 ≤ 5500000) (e1 : ld Ln xs (i + 1) = some v1) (e2 : ld Ln xs (i + 2) = some v2) (hS1 : ShX11 h.1 A) (hS2 : ShX12 h1.1 B) (q1 : cl_of A v1 v2 h = some (r, h1)) (q2 : re_of B v1 v2 h1 = some (r, h2)) (kk : G K X 4 (k + 40) (n + 3200) 1241 [some (.ref b), some (.ref A), some (.ref B), some (.int i)] [] h2) : G K X 4 k n 445 [some (.ref b), some (.ref A), some (.ref B), some (.int i)] [] h := by
  obtain ⟨τ, σ, nx⟩ := h
  obtain ⟨τ1, σ1, nx1⟩ := h1
  refine g_pC (S' := [.int (i + 1), .ref b, .ref A]) hF tL_7_ok 0 5 rfl rfl rfl rfl ?_
  refine g_xld hF (dAtC tL_7_ok 5 rfl rfl) hx e1 ?_
  refine g_pC (S' := [.int (i + 2), .ref b, .int v1, .ref A]) hF tL_7_ok 6 4 rfl rfl rfl rfl ?_
  refine g_xld hF (dAtC tL_7_ok 10 rfl rfl) hx e2 ?_
  refine g_cV (S := []) hF (cl_of_ok (Nat.le_refl _) hS1 q1 K) mbX11_of mvX11_of mlL_46 (by omega) (by decide) (dAtC tL_7_ok 11 rfl rfl) hS1.1 rfl rfl rfl (Nat.le_of_ble_eq_true rfl) rfl rfl (by omega) (by omega) rfl ?_
  refine g_pC (S' := [.int (i + 1), .ref b, .ref B, .int r]) hF tL_7_ok 12 5 rfl rfl rfl rfl ?_
  refine g_xld hF (dAtC tL_7_ok 17 rfl rfl) hx e1 ?_
  refine g_pC (S' := [.int (i + 2), .ref b, .int v1, .ref B, .int r]) hF tL_7_ok 18 4 rfl rfl rfl rfl ?_
  refine g_xld hF (dAtC tL_7_ok 22 rfl rfl) hx e2 ?_
  refine g_cV (S := [.int r]) hF (re_of_ok (Nat.le_refl _) hS2 q2 K) mbX12_of mvX12_of mlL_50 (by omega) (by decide) (dAtC tL_7_ok 23 rfl rfl) hS2.1 rfl rfl rfl (Nat.le_of_ble_eq_true rfl) rfl rfl (by omega) (by omega) rfl ?_
  refine g_icmp_eq hF (dAtC tL_7_ok 24 rfl rfl) rfl (fun _ => ?_) (fun c => absurd rfl c)
  exact g_widen (by omega) (by omega) kk
set_option maxRecDepth 4000 in
set_option maxHeartbeats 1000000 in
theorem law_c8 {K : Kt} {X : Cx} {k n b A B Ln : Nat} {xs : Nat → Int32} {i r : Int32} {v1 v2 v3 v4 v5 : Int32} {h h1 h2 : Hp} (hF : Fx K X cL_law 4 RL 1300 600000 5500000) (hx : kX K b = some (Ln, xs)) (hk : k + 40 ≤ 600000) (hn : n + 3200 ≤ 5500000) (e1 : ld Ln xs (i + 1) = some v1) (e2 : ld Ln xs (i + 2) = some v2) (e3 : ld Ln xs (i + 3) = some v3) (e4 : ld Ln xs (i + 4) = some v4) (e5 : ld Ln xs (i + 5) = some v5) (hS1 : ShX11 h.1 A) (hS2 : ShX12 h1.1 B) (q1 : cl_feed A v1 v2 v3 v4 v5 h = some (r, h1)) (q2 : re_feed B v1 v2 v3 v4 v5 h1 = some (r, h2)) (kk : G K X 4 (k + 40) (n + 3200) 1241 [some (.ref b), some (.ref A), some (.ref B), some (.int i)] [] h2) : G K X 4 k n 478 [some (.ref b), some (.ref A), some (.ref B), some (.int i)] [] h := by
  obtain ⟨τ, σ, nx⟩ := h
  obtain ⟨τ1, σ1, nx1⟩ := h1
  refine g_pC (S' := [.int (i + 1), .ref b, .ref A]) hF tL_8_ok 0 5 rfl rfl rfl rfl ?_
  refine g_xld hF (dAtC tL_8_ok 5 rfl rfl) hx e1 ?_
  refine g_pC (S' := [.int (i + 2), .ref b, .int v1, .ref A]) hF tL_8_ok 6 4 rfl rfl rfl rfl ?_
  refine g_xld hF (dAtC tL_8_ok 10 rfl rfl) hx e2 ?_
  refine g_pC (S' := [.int (i + 3), .ref b, .int v2, .int v1, .ref A]) hF tL_8_ok 11 4 rfl rfl rfl rfl ?_
  refine g_xld hF (dAtC tL_8_ok 15 rfl rfl) hx e3 ?_
  refine g_pC (S' := [.int (i + 4), .ref b, .int v3, .int v2, .int v1, .ref A]) hF tL_8_ok 16 4 rfl rfl rfl rfl ?_
  refine g_xld hF (dAtC tL_8_ok 20 rfl rfl) hx e4 ?_
  refine g_pC (S' := [.int (i + 5), .ref b, .int v4, .int v3, .int v2, .int v1, .ref A]) hF tL_8_ok 21 4 rfl rfl rfl rfl ?_
  refine g_xld hF (dAtC tL_8_ok 25 rfl rfl) hx e5 ?_
  refine g_cV (S := []) hF (cl_feed_ok (Nat.le_refl _) hS1 q1 K) mbX11_feed mvX11_feed mlL_51 (by omega) (by decide) (dAtC tL_8_ok 26 rfl rfl) hS1.1 rfl rfl rfl (Nat.le_of_ble_eq_true rfl) rfl rfl (by omega) (by omega) rfl ?_
  refine g_pC (S' := [.int (i + 1), .ref b, .ref B, .int r]) hF tL_8_ok 27 5 rfl rfl rfl rfl ?_
  refine g_xld hF (dAtC tL_8_ok 32 rfl rfl) hx e1 ?_
  refine g_pC (S' := [.int (i + 2), .ref b, .int v1, .ref B, .int r]) hF tL_8_ok 33 4 rfl rfl rfl rfl ?_
  refine g_xld hF (dAtC tL_8_ok 37 rfl rfl) hx e2 ?_
  refine g_pC (S' := [.int (i + 3), .ref b, .int v2, .int v1, .ref B, .int r]) hF tL_8_ok 38 4 rfl rfl rfl rfl ?_
  refine g_xld hF (dAtC tL_8_ok 42 rfl rfl) hx e3 ?_
  refine g_pC (S' := [.int (i + 4), .ref b, .int v3, .int v2, .int v1, .ref B, .int r]) hF tL_8_ok 43 4 rfl rfl rfl rfl ?_
  refine g_xld hF (dAtC tL_8_ok 47 rfl rfl) hx e4 ?_
  refine g_pC (S' := [.int (i + 5), .ref b, .int v4, .int v3, .int v2, .int v1, .ref B, .int r]) hF tL_8_ok 48 4 rfl rfl rfl rfl ?_
  refine g_xld hF (dAtC tL_8_ok 52 rfl rfl) hx e5 ?_
  refine g_cV (S := [.int r]) hF (re_feed_ok (Nat.le_refl _) hS2 q2 K) mbX12_feed mvX12_feed mlL_54 (by omega) (by decide) (dAtC tL_8_ok 53 rfl rfl) hS2.1 rfl rfl rfl (Nat.le_of_ble_eq_true rfl) rfl rfl (by omega) (by omega) rfl ?_
  refine g_icmp_eq hF (dAtC tL_8_ok 54 rfl rfl) rfl (fun _ => ?_) (fun c => absurd rfl c)
  exact g_widen (by omega) (by omega) kk
set_option maxRecDepth 4000 in
set_option maxHeartbeats 1000000 in
theorem law_c9 {K : Kt} {X : Cx} {k n b A B Ln : Nat} {xs : Nat → Int32} {i r : Int32} {v1 : Int32} {h h1 h2 : Hp} (hF : Fx K X cL_law 4 RL 1300 600000 5500000) (hx : kX K b = some (Ln, xs)) (hk : k + 40 ≤ 600000) (hn : n + 3200 ≤ 5500000) (e1 : ld Ln xs (i + 1) = some v1) (hS1 : ShX11 h.1 A) (hS2 : ShX12 h1.1 B) (q1 : cl_end A v1 h = some (r, h1)) (q2 : re_end B v1 h1 = some (r, h2)) (kk : G K X 4 (k + 40) (n + 3200) 1241 [some (.ref b), some (.ref A), some (.ref B), some (.int i)] [] h2) : G K X 4 k n 541 [some (.ref b), some (.ref A), some (.ref B), some (.int i)] [] h := by
  obtain ⟨τ, σ, nx⟩ := h
  obtain ⟨τ1, σ1, nx1⟩ := h1
  refine g_pC (S' := [.int (i + 1), .ref b, .ref A]) hF tL_9_ok 0 5 rfl rfl rfl rfl ?_
  refine g_xld hF (dAtC tL_9_ok 5 rfl rfl) hx e1 ?_
  refine g_cV (S := []) hF (cl_end_ok (Nat.le_refl _) hS1 q1 K) mbX11_end mvX11_end mlL_55 (by omega) (by decide) (dAtC tL_9_ok 6 rfl rfl) hS1.1 rfl rfl rfl (Nat.le_of_ble_eq_true rfl) rfl rfl (by omega) (by omega) rfl ?_
  refine g_pC (S' := [.int (i + 1), .ref b, .ref B, .int r]) hF tL_9_ok 7 5 rfl rfl rfl rfl ?_
  refine g_xld hF (dAtC tL_9_ok 12 rfl rfl) hx e1 ?_
  refine g_cV (S := [.int r]) hF (re_end_ok (Nat.le_refl _) hS2 q2 K) mbX12_end mvX12_end mlL_59 (by omega) (by decide) (dAtC tL_9_ok 13 rfl rfl) hS2.1 rfl rfl rfl (Nat.le_of_ble_eq_true rfl) rfl rfl (by omega) (by omega) rfl ?_
  refine g_icmp_eq hF (dAtC tL_9_ok 14 rfl rfl) rfl (fun _ => ?_) (fun c => absurd rfl c)
  exact g_widen (by omega) (by omega) kk
set_option maxRecDepth 4000 in
set_option maxHeartbeats 1000000 in
theorem law_c10 {K : Kt} {X : Cx} {k n b A B Ln : Nat} {xs : Nat → Int32} {i r : Int32} {v1 : Int32} {h h1 h2 : Hp} (hF : Fx K X cL_law 4 RL 1300 600000 5500000) (hx : kX K b = some (Ln, xs)) (hk : k + 40 ≤ 600000) (hn : n + 3200 ≤ 5500000) (e1 : ld Ln xs (i + 1) = some v1) (hS1 : ShX11 h.1 A) (hS2 : ShX12 h1.1 B) (q1 : cl_text A v1 h = some (r, h1)) (q2 : re_text B v1 h1 = some (r, h2)) (kk : G K X 4 (k + 40) (n + 3200) 1241 [some (.ref b), some (.ref A), some (.ref B), some (.int i)] [] h2) : G K X 4 k n 564 [some (.ref b), some (.ref A), some (.ref B), some (.int i)] [] h := by
  obtain ⟨τ, σ, nx⟩ := h
  obtain ⟨τ1, σ1, nx1⟩ := h1
  refine g_pC (S' := [.int (i + 1), .ref b, .ref A]) hF tL_10_ok 0 5 rfl rfl rfl rfl ?_
  refine g_xld hF (dAtC tL_10_ok 5 rfl rfl) hx e1 ?_
  refine g_cV (S := []) hF (cl_text_ok (Nat.le_refl _) hS1 q1 K) mbX11_text mvX11_text mlL_60 (by omega) (by decide) (dAtC tL_10_ok 6 rfl rfl) hS1.1 rfl rfl rfl (Nat.le_of_ble_eq_true rfl) rfl rfl (by omega) (by omega) rfl ?_
  refine g_pC (S' := [.int (i + 1), .ref b, .ref B, .int r]) hF tL_10_ok 7 5 rfl rfl rfl rfl ?_
  refine g_xld hF (dAtC tL_10_ok 12 rfl rfl) hx e1 ?_
  refine g_cV (S := [.int r]) hF (re_text_ok (Nat.le_refl _) hS2 q2 K) mbX12_text mvX12_text mlL_63 (by omega) (by decide) (dAtC tL_10_ok 13 rfl rfl) hS2.1 rfl rfl rfl (Nat.le_of_ble_eq_true rfl) rfl rfl (by omega) (by omega) rfl ?_
  refine g_icmp_eq hF (dAtC tL_10_ok 14 rfl rfl) rfl (fun _ => ?_) (fun c => absurd rfl c)
  exact g_widen (by omega) (by omega) kk
set_option maxRecDepth 4000 in
set_option maxHeartbeats 1000000 in
theorem law_c11 {K : Kt} {X : Cx} {k n b A B Ln : Nat} {xs : Nat → Int32} {i r : Int32} {v1 : Int32} {h h1 h2 : Hp} (hF : Fx K X cL_law 4 RL 1300 600000 5500000) (hx : kX K b = some (Ln, xs)) (hk : k + 40 ≤ 600000) (hn : n + 3200 ≤ 5500000) (e1 : ld Ln xs (i + 1) = some v1) (hS1 : ShX11 h.1 A) (hS2 : ShX12 h1.1 B) (q1 : cl_fault A v1 h = some (r, h1)) (q2 : re_fault B v1 h1 = some (r, h2)) (kk : G K X 4 (k + 40) (n + 3200) 1241 [some (.ref b), some (.ref A), some (.ref B), some (.int i)] [] h2) : G K X 4 k n 587 [some (.ref b), some (.ref A), some (.ref B), some (.int i)] [] h := by
  obtain ⟨τ, σ, nx⟩ := h
  obtain ⟨τ1, σ1, nx1⟩ := h1
  refine g_pC (S' := [.int (i + 1), .ref b, .ref A]) hF tL_11_ok 0 5 rfl rfl rfl rfl ?_
  refine g_xld hF (dAtC tL_11_ok 5 rfl rfl) hx e1 ?_
  refine g_cV (S := []) hF (cl_fault_ok (Nat.le_refl _) hS1 q1 K) mbX11_fault mvX11_fault mlL_64 (by omega) (by decide) (dAtC tL_11_ok 6 rfl rfl) hS1.1 rfl rfl rfl (Nat.le_of_ble_eq_true rfl) rfl rfl (by omega) (by omega) rfl ?_
  refine g_pC (S' := [.int (i + 1), .ref b, .ref B, .int r]) hF tL_11_ok 7 5 rfl rfl rfl rfl ?_
  refine g_xld hF (dAtC tL_11_ok 12 rfl rfl) hx e1 ?_
  refine g_cV (S := [.int r]) hF (re_fault_ok (Nat.le_refl _) hS2 q2 K) mbX12_fault mvX12_fault mlL_67 (by omega) (by decide) (dAtC tL_11_ok 13 rfl rfl) hS2.1 rfl rfl rfl (Nat.le_of_ble_eq_true rfl) rfl rfl (by omega) (by omega) rfl ?_
  refine g_icmp_eq hF (dAtC tL_11_ok 14 rfl rfl) rfl (fun _ => ?_) (fun c => absurd rfl c)
  exact g_widen (by omega) (by omega) kk
set_option maxRecDepth 4000 in
set_option maxHeartbeats 1000000 in
theorem law_c12 {K : Kt} {X : Cx} {k n b A B Ln : Nat} {xs : Nat → Int32} {i r : Int32} {v1 : Int32} {h h1 h2 : Hp} (hF : Fx K X cL_law 4 RL 1300 600000 5500000) (hx : kX K b = some (Ln, xs)) (hk : k + 40 ≤ 600000) (hn : n + 3200 ≤ 5500000) (e1 : ld Ln xs (i + 1) = some v1) (hS1 : ShX11 h.1 A) (hS2 : ShX12 h1.1 B) (q1 : cl_does A v1 h = some (r, h1)) (q2 : re_does B v1 h1 = some (r, h2)) (kk : G K X 4 (k + 40) (n + 3200) 1241 [some (.ref b), some (.ref A), some (.ref B), some (.int i)] [] h2) : G K X 4 k n 610 [some (.ref b), some (.ref A), some (.ref B), some (.int i)] [] h := by
  obtain ⟨τ, σ, nx⟩ := h
  obtain ⟨τ1, σ1, nx1⟩ := h1
  refine g_pC (S' := [.int (i + 1), .ref b, .ref A]) hF tL_12_ok 0 5 rfl rfl rfl rfl ?_
  refine g_xld hF (dAtC tL_12_ok 5 rfl rfl) hx e1 ?_
  refine g_cV (S := []) hF (cl_does_ok (Nat.le_refl _) hS1 q1 K) mbX11_does mvX11_does mlL_68 (by omega) (by decide) (dAtC tL_12_ok 6 rfl rfl) hS1.1 rfl rfl rfl (Nat.le_of_ble_eq_true rfl) rfl rfl (by omega) (by omega) rfl ?_
  refine g_pC (S' := [.int (i + 1), .ref b, .ref B, .int r]) hF tL_12_ok 7 5 rfl rfl rfl rfl ?_
  refine g_xld hF (dAtC tL_12_ok 12 rfl rfl) hx e1 ?_
  refine g_cV (S := [.int r]) hF (re_does_ok (Nat.le_refl _) hS2 q2 K) mbX12_does mvX12_does mlL_71 (by omega) (by decide) (dAtC tL_12_ok 13 rfl rfl) hS2.1 rfl rfl rfl (Nat.le_of_ble_eq_true rfl) rfl rfl (by omega) (by omega) rfl ?_
  refine g_icmp_eq hF (dAtC tL_12_ok 14 rfl rfl) rfl (fun _ => ?_) (fun c => absurd rfl c)
  exact g_widen (by omega) (by omega) kk
set_option maxRecDepth 4000 in
set_option maxHeartbeats 1000000 in
theorem law_c13 {K : Kt} {X : Cx} {k n b A B Ln : Nat} {xs : Nat → Int32} {i r : Int32} {v1 v2 v3 v4 v5 v6 : Int32} {h h1 h2 : Hp} (hF : Fx K X cL_law 4 RL 1300 600000 5500000) (hx : kX K b = some (Ln, xs)) (hk : k + 40 ≤ 600000) (hn : n + 3200 ≤ 5500000) (e1 : ld Ln xs (i + 1) = some v1) (e2 : ld Ln xs (i + 2) = some v2) (e3 : ld Ln xs (i + 3) = some v3) (e4 : ld Ln xs (i + 4) = some v4) (e5 : ld Ln xs (i + 5) = some v5) (e6 : ld Ln xs (i + 6) = some v6) (hS1 : ShX11 h.1 A) (hS2 : ShX12 h1.1 B) (q1 : cl_word A v1 v2 v3 v4 (bz v5) (bz v6) h = some (r, h1)) (q2 : re_word B v1 v2 v3 v4 (bz v5) (bz v6) h1 = some (r, h2)) (kk : G K X 4 (k + 40) (n + 3200) 1241 [some (.ref b), some (.ref A), some (.ref B), some (.int i)] [] h2) : G K X 4 k n 633 [some (.ref b), some (.ref A), some (.ref B), some (.int i)] [] h := by
  obtain ⟨τ, σ, nx⟩ := h
  obtain ⟨τ1, σ1, nx1⟩ := h1
  by_cases z5 : v5 = 0
  · skip
    by_cases z6 : v6 = 0
    · skip
      rw [show bz v5 = 0 by simp [bz, z5]] at q1 q2
      rw [show bz v6 = 0 by simp [bz, z6]] at q1 q2
      refine g_pC (S' := [.int (i + 1), .ref b, .ref A]) hF tL_13_ok 0 5 rfl rfl rfl rfl ?_
      refine g_xld hF (dAtC tL_13_ok 5 rfl rfl) hx e1 ?_
      refine g_pC (S' := [.int (i + 2), .ref b, .int v1, .ref A]) hF tL_13_ok 6 4 rfl rfl rfl rfl ?_
      refine g_xld hF (dAtC tL_13_ok 10 rfl rfl) hx e2 ?_
      refine g_pC (S' := [.int (i + 3), .ref b, .int v2, .int v1, .ref A]) hF tL_13_ok 11 4 rfl rfl rfl rfl ?_
      refine g_xld hF (dAtC tL_13_ok 15 rfl rfl) hx e3 ?_
      refine g_pC (S' := [.int (i + 4), .ref b, .int v3, .int v2, .int v1, .ref A]) hF tL_13_ok 16 4 rfl rfl rfl rfl ?_
      refine g_xld hF (dAtC tL_13_ok 20 rfl rfl) hx e4 ?_
      refine g_pC (S' := [.int (i + 5), .ref b, .int v4, .int v3, .int v2, .int v1, .ref A]) hF tL_13_ok 21 4 rfl rfl rfl rfl ?_
      refine g_xld hF (dAtC tL_13_ok 25 rfl rfl) hx e5 ?_
      refine g_if_eq hF (dAtC tL_13_ok 26 rfl rfl) rfl (fun _ => ?_) (fun c => absurd z5 c)
      refine g_pC (S' := [.int (i + 6), .ref b, .int 0, .int v4, .int v3, .int v2, .int v1, .ref A]) hF tL_13_ok 29 5 rfl rfl rfl rfl ?_
      refine g_xld hF (dAtC tL_13_ok 34 rfl rfl) hx e6 ?_
      refine g_if_eq hF (dAtC tL_13_ok 35 rfl rfl) rfl (fun _ => ?_) (fun c => absurd z6 c)
      refine g_pC (S' := [.int 0, .int 0, .int v4, .int v3, .int v2, .int v1, .ref A]) hF tL_13_ok 38 1 rfl rfl rfl rfl ?_
      refine g_cV (S := []) hF (cl_word_ok (Nat.le_refl _) hS1 q1 K) mbX11_word mvX11_word mlL_72 (by omega) (by decide) (dAtC tL_13_ok 39 rfl rfl) hS1.1 rfl rfl rfl (Nat.le_of_ble_eq_true rfl) rfl rfl (by omega) (by omega) rfl ?_
      refine g_pC (S' := [.int (i + 1), .ref b, .ref B, .int r]) hF tL_13_ok 40 5 rfl rfl rfl rfl ?_
      refine g_xld hF (dAtC tL_13_ok 45 rfl rfl) hx e1 ?_
      refine g_pC (S' := [.int (i + 2), .ref b, .int v1, .ref B, .int r]) hF tL_13_ok 46 4 rfl rfl rfl rfl ?_
      refine g_xld hF (dAtC tL_13_ok 50 rfl rfl) hx e2 ?_
      refine g_pC (S' := [.int (i + 3), .ref b, .int v2, .int v1, .ref B, .int r]) hF tL_13_ok 51 4 rfl rfl rfl rfl ?_
      refine g_xld hF (dAtC tL_13_ok 55 rfl rfl) hx e3 ?_
      refine g_pC (S' := [.int (i + 4), .ref b, .int v3, .int v2, .int v1, .ref B, .int r]) hF tL_13_ok 56 4 rfl rfl rfl rfl ?_
      refine g_xld hF (dAtC tL_13_ok 60 rfl rfl) hx e4 ?_
      refine g_pC (S' := [.int (i + 5), .ref b, .int v4, .int v3, .int v2, .int v1, .ref B, .int r]) hF tL_13_ok 61 4 rfl rfl rfl rfl ?_
      refine g_xld hF (dAtC tL_13_ok 65 rfl rfl) hx e5 ?_
      refine g_if_eq hF (dAtC tL_13_ok 66 rfl rfl) rfl (fun _ => ?_) (fun c => absurd z5 c)
      refine g_pC (S' := [.int (i + 6), .ref b, .int 0, .int v4, .int v3, .int v2, .int v1, .ref B, .int r]) hF tL_13_ok 69 5 rfl rfl rfl rfl ?_
      refine g_xld hF (dAtC tL_13_ok 74 rfl rfl) hx e6 ?_
      refine g_if_eq hF (dAtC tL_13_ok 75 rfl rfl) rfl (fun _ => ?_) (fun c => absurd z6 c)
      refine g_pC (S' := [.int 0, .int 0, .int v4, .int v3, .int v2, .int v1, .ref B, .int r]) hF tL_13_ok 78 1 rfl rfl rfl rfl ?_
      refine g_cV (S := [.int r]) hF (re_word_ok (Nat.le_refl _) hS2 q2 K) mbX12_word mvX12_word mlL_76 (by omega) (by decide) (dAtC tL_13_ok 79 rfl rfl) hS2.1 rfl rfl rfl (Nat.le_of_ble_eq_true rfl) rfl rfl (by omega) (by omega) rfl ?_
      refine g_icmp_eq hF (dAtC tL_13_ok 80 rfl rfl) rfl (fun _ => ?_) (fun c => absurd rfl c)
      exact g_widen (by omega) (by omega) kk
    · skip
      rw [show bz v5 = 0 by simp [bz, z5]] at q1 q2
      rw [show bz v6 = 1 by simp [bz, z6]] at q1 q2
      refine g_pC (S' := [.int (i + 1), .ref b, .ref A]) hF tL_13_ok 0 5 rfl rfl rfl rfl ?_
      refine g_xld hF (dAtC tL_13_ok 5 rfl rfl) hx e1 ?_
      refine g_pC (S' := [.int (i + 2), .ref b, .int v1, .ref A]) hF tL_13_ok 6 4 rfl rfl rfl rfl ?_
      refine g_xld hF (dAtC tL_13_ok 10 rfl rfl) hx e2 ?_
      refine g_pC (S' := [.int (i + 3), .ref b, .int v2, .int v1, .ref A]) hF tL_13_ok 11 4 rfl rfl rfl rfl ?_
      refine g_xld hF (dAtC tL_13_ok 15 rfl rfl) hx e3 ?_
      refine g_pC (S' := [.int (i + 4), .ref b, .int v3, .int v2, .int v1, .ref A]) hF tL_13_ok 16 4 rfl rfl rfl rfl ?_
      refine g_xld hF (dAtC tL_13_ok 20 rfl rfl) hx e4 ?_
      refine g_pC (S' := [.int (i + 5), .ref b, .int v4, .int v3, .int v2, .int v1, .ref A]) hF tL_13_ok 21 4 rfl rfl rfl rfl ?_
      refine g_xld hF (dAtC tL_13_ok 25 rfl rfl) hx e5 ?_
      refine g_if_eq hF (dAtC tL_13_ok 26 rfl rfl) rfl (fun _ => ?_) (fun c => absurd z5 c)
      refine g_pC (S' := [.int (i + 6), .ref b, .int 0, .int v4, .int v3, .int v2, .int v1, .ref A]) hF tL_13_ok 29 5 rfl rfl rfl rfl ?_
      refine g_xld hF (dAtC tL_13_ok 34 rfl rfl) hx e6 ?_
      refine g_if_eq hF (dAtC tL_13_ok 35 rfl rfl) rfl (fun c => absurd c z6) (fun _ => ?_)
      refine g_pC (S' := [.int 1, .int 0, .int v4, .int v3, .int v2, .int v1, .ref A]) hF tL_13_ok 36 1 rfl rfl rfl rfl ?_
      refine g_goto hF (dAtC tL_13_ok 37 rfl rfl) rfl ?_
      refine g_cV (S := []) hF (cl_word_ok (Nat.le_refl _) hS1 q1 K) mbX11_word mvX11_word mlL_72 (by omega) (by decide) (dAtC tL_13_ok 39 rfl rfl) hS1.1 rfl rfl rfl (Nat.le_of_ble_eq_true rfl) rfl rfl (by omega) (by omega) rfl ?_
      refine g_pC (S' := [.int (i + 1), .ref b, .ref B, .int r]) hF tL_13_ok 40 5 rfl rfl rfl rfl ?_
      refine g_xld hF (dAtC tL_13_ok 45 rfl rfl) hx e1 ?_
      refine g_pC (S' := [.int (i + 2), .ref b, .int v1, .ref B, .int r]) hF tL_13_ok 46 4 rfl rfl rfl rfl ?_
      refine g_xld hF (dAtC tL_13_ok 50 rfl rfl) hx e2 ?_
      refine g_pC (S' := [.int (i + 3), .ref b, .int v2, .int v1, .ref B, .int r]) hF tL_13_ok 51 4 rfl rfl rfl rfl ?_
      refine g_xld hF (dAtC tL_13_ok 55 rfl rfl) hx e3 ?_
      refine g_pC (S' := [.int (i + 4), .ref b, .int v3, .int v2, .int v1, .ref B, .int r]) hF tL_13_ok 56 4 rfl rfl rfl rfl ?_
      refine g_xld hF (dAtC tL_13_ok 60 rfl rfl) hx e4 ?_
      refine g_pC (S' := [.int (i + 5), .ref b, .int v4, .int v3, .int v2, .int v1, .ref B, .int r]) hF tL_13_ok 61 4 rfl rfl rfl rfl ?_
      refine g_xld hF (dAtC tL_13_ok 65 rfl rfl) hx e5 ?_
      refine g_if_eq hF (dAtC tL_13_ok 66 rfl rfl) rfl (fun _ => ?_) (fun c => absurd z5 c)
      refine g_pC (S' := [.int (i + 6), .ref b, .int 0, .int v4, .int v3, .int v2, .int v1, .ref B, .int r]) hF tL_13_ok 69 5 rfl rfl rfl rfl ?_
      refine g_xld hF (dAtC tL_13_ok 74 rfl rfl) hx e6 ?_
      refine g_if_eq hF (dAtC tL_13_ok 75 rfl rfl) rfl (fun c => absurd c z6) (fun _ => ?_)
      refine g_pC (S' := [.int 1, .int 0, .int v4, .int v3, .int v2, .int v1, .ref B, .int r]) hF tL_13_ok 76 1 rfl rfl rfl rfl ?_
      refine g_goto hF (dAtC tL_13_ok 77 rfl rfl) rfl ?_
      refine g_cV (S := [.int r]) hF (re_word_ok (Nat.le_refl _) hS2 q2 K) mbX12_word mvX12_word mlL_76 (by omega) (by decide) (dAtC tL_13_ok 79 rfl rfl) hS2.1 rfl rfl rfl (Nat.le_of_ble_eq_true rfl) rfl rfl (by omega) (by omega) rfl ?_
      refine g_icmp_eq hF (dAtC tL_13_ok 80 rfl rfl) rfl (fun _ => ?_) (fun c => absurd rfl c)
      exact g_widen (by omega) (by omega) kk
  · skip
    by_cases z6 : v6 = 0
    · skip
      rw [show bz v5 = 1 by simp [bz, z5]] at q1 q2
      rw [show bz v6 = 0 by simp [bz, z6]] at q1 q2
      refine g_pC (S' := [.int (i + 1), .ref b, .ref A]) hF tL_13_ok 0 5 rfl rfl rfl rfl ?_
      refine g_xld hF (dAtC tL_13_ok 5 rfl rfl) hx e1 ?_
      refine g_pC (S' := [.int (i + 2), .ref b, .int v1, .ref A]) hF tL_13_ok 6 4 rfl rfl rfl rfl ?_
      refine g_xld hF (dAtC tL_13_ok 10 rfl rfl) hx e2 ?_
      refine g_pC (S' := [.int (i + 3), .ref b, .int v2, .int v1, .ref A]) hF tL_13_ok 11 4 rfl rfl rfl rfl ?_
      refine g_xld hF (dAtC tL_13_ok 15 rfl rfl) hx e3 ?_
      refine g_pC (S' := [.int (i + 4), .ref b, .int v3, .int v2, .int v1, .ref A]) hF tL_13_ok 16 4 rfl rfl rfl rfl ?_
      refine g_xld hF (dAtC tL_13_ok 20 rfl rfl) hx e4 ?_
      refine g_pC (S' := [.int (i + 5), .ref b, .int v4, .int v3, .int v2, .int v1, .ref A]) hF tL_13_ok 21 4 rfl rfl rfl rfl ?_
      refine g_xld hF (dAtC tL_13_ok 25 rfl rfl) hx e5 ?_
      refine g_if_eq hF (dAtC tL_13_ok 26 rfl rfl) rfl (fun c => absurd c z5) (fun _ => ?_)
      refine g_pC (S' := [.int 1, .int v4, .int v3, .int v2, .int v1, .ref A]) hF tL_13_ok 27 1 rfl rfl rfl rfl ?_
      refine g_goto hF (dAtC tL_13_ok 28 rfl rfl) rfl ?_
      refine g_pC (S' := [.int (i + 6), .ref b, .int 1, .int v4, .int v3, .int v2, .int v1, .ref A]) hF tL_13_ok 30 4 rfl rfl rfl rfl ?_
      refine g_xld hF (dAtC tL_13_ok 34 rfl rfl) hx e6 ?_
      refine g_if_eq hF (dAtC tL_13_ok 35 rfl rfl) rfl (fun _ => ?_) (fun c => absurd z6 c)
      refine g_pC (S' := [.int 0, .int 1, .int v4, .int v3, .int v2, .int v1, .ref A]) hF tL_13_ok 38 1 rfl rfl rfl rfl ?_
      refine g_cV (S := []) hF (cl_word_ok (Nat.le_refl _) hS1 q1 K) mbX11_word mvX11_word mlL_72 (by omega) (by decide) (dAtC tL_13_ok 39 rfl rfl) hS1.1 rfl rfl rfl (Nat.le_of_ble_eq_true rfl) rfl rfl (by omega) (by omega) rfl ?_
      refine g_pC (S' := [.int (i + 1), .ref b, .ref B, .int r]) hF tL_13_ok 40 5 rfl rfl rfl rfl ?_
      refine g_xld hF (dAtC tL_13_ok 45 rfl rfl) hx e1 ?_
      refine g_pC (S' := [.int (i + 2), .ref b, .int v1, .ref B, .int r]) hF tL_13_ok 46 4 rfl rfl rfl rfl ?_
      refine g_xld hF (dAtC tL_13_ok 50 rfl rfl) hx e2 ?_
      refine g_pC (S' := [.int (i + 3), .ref b, .int v2, .int v1, .ref B, .int r]) hF tL_13_ok 51 4 rfl rfl rfl rfl ?_
      refine g_xld hF (dAtC tL_13_ok 55 rfl rfl) hx e3 ?_
      refine g_pC (S' := [.int (i + 4), .ref b, .int v3, .int v2, .int v1, .ref B, .int r]) hF tL_13_ok 56 4 rfl rfl rfl rfl ?_
      refine g_xld hF (dAtC tL_13_ok 60 rfl rfl) hx e4 ?_
      refine g_pC (S' := [.int (i + 5), .ref b, .int v4, .int v3, .int v2, .int v1, .ref B, .int r]) hF tL_13_ok 61 4 rfl rfl rfl rfl ?_
      refine g_xld hF (dAtC tL_13_ok 65 rfl rfl) hx e5 ?_
      refine g_if_eq hF (dAtC tL_13_ok 66 rfl rfl) rfl (fun c => absurd c z5) (fun _ => ?_)
      refine g_pC (S' := [.int 1, .int v4, .int v3, .int v2, .int v1, .ref B, .int r]) hF tL_13_ok 67 1 rfl rfl rfl rfl ?_
      refine g_goto hF (dAtC tL_13_ok 68 rfl rfl) rfl ?_
      refine g_pC (S' := [.int (i + 6), .ref b, .int 1, .int v4, .int v3, .int v2, .int v1, .ref B, .int r]) hF tL_13_ok 70 4 rfl rfl rfl rfl ?_
      refine g_xld hF (dAtC tL_13_ok 74 rfl rfl) hx e6 ?_
      refine g_if_eq hF (dAtC tL_13_ok 75 rfl rfl) rfl (fun _ => ?_) (fun c => absurd z6 c)
      refine g_pC (S' := [.int 0, .int 1, .int v4, .int v3, .int v2, .int v1, .ref B, .int r]) hF tL_13_ok 78 1 rfl rfl rfl rfl ?_
      refine g_cV (S := [.int r]) hF (re_word_ok (Nat.le_refl _) hS2 q2 K) mbX12_word mvX12_word mlL_76 (by omega) (by decide) (dAtC tL_13_ok 79 rfl rfl) hS2.1 rfl rfl rfl (Nat.le_of_ble_eq_true rfl) rfl rfl (by omega) (by omega) rfl ?_
      refine g_icmp_eq hF (dAtC tL_13_ok 80 rfl rfl) rfl (fun _ => ?_) (fun c => absurd rfl c)
      exact g_widen (by omega) (by omega) kk
    · skip
      rw [show bz v5 = 1 by simp [bz, z5]] at q1 q2
      rw [show bz v6 = 1 by simp [bz, z6]] at q1 q2
      refine g_pC (S' := [.int (i + 1), .ref b, .ref A]) hF tL_13_ok 0 5 rfl rfl rfl rfl ?_
      refine g_xld hF (dAtC tL_13_ok 5 rfl rfl) hx e1 ?_
      refine g_pC (S' := [.int (i + 2), .ref b, .int v1, .ref A]) hF tL_13_ok 6 4 rfl rfl rfl rfl ?_
      refine g_xld hF (dAtC tL_13_ok 10 rfl rfl) hx e2 ?_
      refine g_pC (S' := [.int (i + 3), .ref b, .int v2, .int v1, .ref A]) hF tL_13_ok 11 4 rfl rfl rfl rfl ?_
      refine g_xld hF (dAtC tL_13_ok 15 rfl rfl) hx e3 ?_
      refine g_pC (S' := [.int (i + 4), .ref b, .int v3, .int v2, .int v1, .ref A]) hF tL_13_ok 16 4 rfl rfl rfl rfl ?_
      refine g_xld hF (dAtC tL_13_ok 20 rfl rfl) hx e4 ?_
      refine g_pC (S' := [.int (i + 5), .ref b, .int v4, .int v3, .int v2, .int v1, .ref A]) hF tL_13_ok 21 4 rfl rfl rfl rfl ?_
      refine g_xld hF (dAtC tL_13_ok 25 rfl rfl) hx e5 ?_
      refine g_if_eq hF (dAtC tL_13_ok 26 rfl rfl) rfl (fun c => absurd c z5) (fun _ => ?_)
      refine g_pC (S' := [.int 1, .int v4, .int v3, .int v2, .int v1, .ref A]) hF tL_13_ok 27 1 rfl rfl rfl rfl ?_
      refine g_goto hF (dAtC tL_13_ok 28 rfl rfl) rfl ?_
      refine g_pC (S' := [.int (i + 6), .ref b, .int 1, .int v4, .int v3, .int v2, .int v1, .ref A]) hF tL_13_ok 30 4 rfl rfl rfl rfl ?_
      refine g_xld hF (dAtC tL_13_ok 34 rfl rfl) hx e6 ?_
      refine g_if_eq hF (dAtC tL_13_ok 35 rfl rfl) rfl (fun c => absurd c z6) (fun _ => ?_)
      refine g_pC (S' := [.int 1, .int 1, .int v4, .int v3, .int v2, .int v1, .ref A]) hF tL_13_ok 36 1 rfl rfl rfl rfl ?_
      refine g_goto hF (dAtC tL_13_ok 37 rfl rfl) rfl ?_
      refine g_cV (S := []) hF (cl_word_ok (Nat.le_refl _) hS1 q1 K) mbX11_word mvX11_word mlL_72 (by omega) (by decide) (dAtC tL_13_ok 39 rfl rfl) hS1.1 rfl rfl rfl (Nat.le_of_ble_eq_true rfl) rfl rfl (by omega) (by omega) rfl ?_
      refine g_pC (S' := [.int (i + 1), .ref b, .ref B, .int r]) hF tL_13_ok 40 5 rfl rfl rfl rfl ?_
      refine g_xld hF (dAtC tL_13_ok 45 rfl rfl) hx e1 ?_
      refine g_pC (S' := [.int (i + 2), .ref b, .int v1, .ref B, .int r]) hF tL_13_ok 46 4 rfl rfl rfl rfl ?_
      refine g_xld hF (dAtC tL_13_ok 50 rfl rfl) hx e2 ?_
      refine g_pC (S' := [.int (i + 3), .ref b, .int v2, .int v1, .ref B, .int r]) hF tL_13_ok 51 4 rfl rfl rfl rfl ?_
      refine g_xld hF (dAtC tL_13_ok 55 rfl rfl) hx e3 ?_
      refine g_pC (S' := [.int (i + 4), .ref b, .int v3, .int v2, .int v1, .ref B, .int r]) hF tL_13_ok 56 4 rfl rfl rfl rfl ?_
      refine g_xld hF (dAtC tL_13_ok 60 rfl rfl) hx e4 ?_
      refine g_pC (S' := [.int (i + 5), .ref b, .int v4, .int v3, .int v2, .int v1, .ref B, .int r]) hF tL_13_ok 61 4 rfl rfl rfl rfl ?_
      refine g_xld hF (dAtC tL_13_ok 65 rfl rfl) hx e5 ?_
      refine g_if_eq hF (dAtC tL_13_ok 66 rfl rfl) rfl (fun c => absurd c z5) (fun _ => ?_)
      refine g_pC (S' := [.int 1, .int v4, .int v3, .int v2, .int v1, .ref B, .int r]) hF tL_13_ok 67 1 rfl rfl rfl rfl ?_
      refine g_goto hF (dAtC tL_13_ok 68 rfl rfl) rfl ?_
      refine g_pC (S' := [.int (i + 6), .ref b, .int 1, .int v4, .int v3, .int v2, .int v1, .ref B, .int r]) hF tL_13_ok 70 4 rfl rfl rfl rfl ?_
      refine g_xld hF (dAtC tL_13_ok 74 rfl rfl) hx e6 ?_
      refine g_if_eq hF (dAtC tL_13_ok 75 rfl rfl) rfl (fun c => absurd c z6) (fun _ => ?_)
      refine g_pC (S' := [.int 1, .int 1, .int v4, .int v3, .int v2, .int v1, .ref B, .int r]) hF tL_13_ok 76 1 rfl rfl rfl rfl ?_
      refine g_goto hF (dAtC tL_13_ok 77 rfl rfl) rfl ?_
      refine g_cV (S := [.int r]) hF (re_word_ok (Nat.le_refl _) hS2 q2 K) mbX12_word mvX12_word mlL_76 (by omega) (by decide) (dAtC tL_13_ok 79 rfl rfl) hS2.1 rfl rfl rfl (Nat.le_of_ble_eq_true rfl) rfl rfl (by omega) (by omega) rfl ?_
      refine g_icmp_eq hF (dAtC tL_13_ok 80 rfl rfl) rfl (fun _ => ?_) (fun c => absurd rfl c)
      exact g_widen (by omega) (by omega) kk
set_option maxRecDepth 4000 in
set_option maxHeartbeats 1000000 in
theorem law_c14 {K : Kt} {X : Cx} {k n b A B Ln : Nat} {xs : Nat → Int32} {i r : Int32} {v1 : Int32} {h h1 h2 : Hp} (hF : Fx K X cL_law 4 RL 1300 600000 5500000) (hx : kX K b = some (Ln, xs)) (hk : k + 40 ≤ 600000) (hn : n + 3200 ≤ 5500000) (e1 : ld Ln xs (i + 1) = some v1) (hS1 : ShX11 h.1 A) (hS2 : ShX12 h1.1 B) (q1 : cl_quarters A v1 h = some (r, h1)) (q2 : re_quarters B v1 h1 = some (r, h2)) (kk : G K X 4 (k + 40) (n + 3200) 1241 [some (.ref b), some (.ref A), some (.ref B), some (.int i)] [] h2) : G K X 4 k n 740 [some (.ref b), some (.ref A), some (.ref B), some (.int i)] [] h := by
  obtain ⟨τ, σ, nx⟩ := h
  obtain ⟨τ1, σ1, nx1⟩ := h1
  refine g_pC (S' := [.int (i + 1), .ref b, .ref A]) hF tL_14_ok 0 5 rfl rfl rfl rfl ?_
  refine g_xld hF (dAtC tL_14_ok 5 rfl rfl) hx e1 ?_
  refine g_cV (S := []) hF (cl_quarters_ok (Nat.le_refl _) hS1 q1 K) mbX11_quarters mvX11_quarters mlL_77 (by omega) (by decide) (dAtC tL_14_ok 6 rfl rfl) hS1.1 rfl rfl rfl (Nat.le_of_ble_eq_true rfl) rfl rfl (by omega) (by omega) rfl ?_
  refine g_pC (S' := [.int (i + 1), .ref b, .ref B, .int r]) hF tL_14_ok 7 5 rfl rfl rfl rfl ?_
  refine g_xld hF (dAtC tL_14_ok 12 rfl rfl) hx e1 ?_
  refine g_cV (S := [.int r]) hF (re_quarters_ok (Nat.le_refl _) hS2 q2 K) mbX12_quarters mvX12_quarters mlL_80 (by omega) (by decide) (dAtC tL_14_ok 13 rfl rfl) hS2.1 rfl rfl rfl (Nat.le_of_ble_eq_true rfl) rfl rfl (by omega) (by omega) rfl ?_
  refine g_icmp_eq hF (dAtC tL_14_ok 14 rfl rfl) rfl (fun _ => ?_) (fun c => absurd rfl c)
  exact g_widen (by omega) (by omega) kk
set_option maxRecDepth 4000 in
set_option maxHeartbeats 1000000 in
theorem law_c15 {K : Kt} {X : Cx} {k n b A B Ln : Nat} {xs : Nat → Int32} {i r : Int32} {v1 v2 : Int32} {h h1 h2 : Hp} (hF : Fx K X cL_law 4 RL 1300 600000 5500000) (hx : kX K b = some (Ln, xs)) (hk : k + 40 ≤ 600000) (hn : n + 3200 ≤ 5500000) (e1 : ld Ln xs (i + 1) = some v1) (e2 : ld Ln xs (i + 2) = some v2) (hS1 : ShX11 h.1 A) (hS2 : ShX12 h1.1 B) (q1 : cl_noise A v1 v2 h = some (r, h1)) (q2 : re_noise B v1 v2 h1 = some (r, h2)) (kk : G K X 4 (k + 40) (n + 3200) 1241 [some (.ref b), some (.ref A), some (.ref B), some (.int i)] [] h2) : G K X 4 k n 763 [some (.ref b), some (.ref A), some (.ref B), some (.int i)] [] h := by
  obtain ⟨τ, σ, nx⟩ := h
  obtain ⟨τ1, σ1, nx1⟩ := h1
  refine g_pC (S' := [.int (i + 1), .ref b, .ref A]) hF tL_15_ok 0 5 rfl rfl rfl rfl ?_
  refine g_xld hF (dAtC tL_15_ok 5 rfl rfl) hx e1 ?_
  refine g_pC (S' := [.int (i + 2), .ref b, .int v1, .ref A]) hF tL_15_ok 6 4 rfl rfl rfl rfl ?_
  refine g_xld hF (dAtC tL_15_ok 10 rfl rfl) hx e2 ?_
  refine g_cV (S := []) hF (cl_noise_ok (Nat.le_refl _) hS1 q1 K) mbX11_noise mvX11_noise mlL_81 (by omega) (by decide) (dAtC tL_15_ok 11 rfl rfl) hS1.1 rfl rfl rfl (Nat.le_of_ble_eq_true rfl) rfl rfl (by omega) (by omega) rfl ?_
  refine g_pC (S' := [.int (i + 1), .ref b, .ref B, .int r]) hF tL_15_ok 12 5 rfl rfl rfl rfl ?_
  refine g_xld hF (dAtC tL_15_ok 17 rfl rfl) hx e1 ?_
  refine g_pC (S' := [.int (i + 2), .ref b, .int v1, .ref B, .int r]) hF tL_15_ok 18 4 rfl rfl rfl rfl ?_
  refine g_xld hF (dAtC tL_15_ok 22 rfl rfl) hx e2 ?_
  refine g_cV (S := [.int r]) hF (re_noise_ok (Nat.le_refl _) hS2 q2 K) mbX12_noise mvX12_noise mlL_84 (by omega) (by decide) (dAtC tL_15_ok 23 rfl rfl) hS2.1 rfl rfl rfl (Nat.le_of_ble_eq_true rfl) rfl rfl (by omega) (by omega) rfl ?_
  refine g_icmp_eq hF (dAtC tL_15_ok 24 rfl rfl) rfl (fun _ => ?_) (fun c => absurd rfl c)
  exact g_widen (by omega) (by omega) kk
set_option maxRecDepth 4000 in
set_option maxHeartbeats 1000000 in
theorem law_c16 {K : Kt} {X : Cx} {k n b A B Ln : Nat} {xs : Nat → Int32} {i r : Int32} {v1 v2 v3 : Int32} {h h1 h2 : Hp} (hF : Fx K X cL_law 4 RL 1300 600000 5500000) (hx : kX K b = some (Ln, xs)) (hk : k + 40 ≤ 600000) (hn : n + 3200 ≤ 5500000) (e1 : ld Ln xs (i + 1) = some v1) (e2 : ld Ln xs (i + 2) = some v2) (e3 : ld Ln xs (i + 3) = some v3) (hS1 : ShX11 h.1 A) (hS2 : ShX12 h1.1 B) (q1 : cl_lend A v1 v2 v3 h = some (r, h1)) (q2 : re_lend B v1 v2 v3 h1 = some (r, h2)) (kk : G K X 4 (k + 40) (n + 3200) 1241 [some (.ref b), some (.ref A), some (.ref B), some (.int i)] [] h2) : G K X 4 k n 796 [some (.ref b), some (.ref A), some (.ref B), some (.int i)] [] h := by
  obtain ⟨τ, σ, nx⟩ := h
  obtain ⟨τ1, σ1, nx1⟩ := h1
  refine g_pC (S' := [.int (i + 1), .ref b, .ref A]) hF tL_16_ok 0 5 rfl rfl rfl rfl ?_
  refine g_xld hF (dAtC tL_16_ok 5 rfl rfl) hx e1 ?_
  refine g_pC (S' := [.int (i + 2), .ref b, .int v1, .ref A]) hF tL_16_ok 6 4 rfl rfl rfl rfl ?_
  refine g_xld hF (dAtC tL_16_ok 10 rfl rfl) hx e2 ?_
  refine g_pC (S' := [.int (i + 3), .ref b, .int v2, .int v1, .ref A]) hF tL_16_ok 11 4 rfl rfl rfl rfl ?_
  refine g_xld hF (dAtC tL_16_ok 15 rfl rfl) hx e3 ?_
  refine g_cV (S := []) hF (cl_lend_ok (Nat.le_refl _) hS1 q1 K) mbX11_lend mvX11_lend mlL_85 (by omega) (by decide) (dAtC tL_16_ok 16 rfl rfl) hS1.1 rfl rfl rfl (Nat.le_of_ble_eq_true rfl) rfl rfl (by omega) (by omega) rfl ?_
  refine g_pC (S' := [.int (i + 1), .ref b, .ref B, .int r]) hF tL_16_ok 17 5 rfl rfl rfl rfl ?_
  refine g_xld hF (dAtC tL_16_ok 22 rfl rfl) hx e1 ?_
  refine g_pC (S' := [.int (i + 2), .ref b, .int v1, .ref B, .int r]) hF tL_16_ok 23 4 rfl rfl rfl rfl ?_
  refine g_xld hF (dAtC tL_16_ok 27 rfl rfl) hx e2 ?_
  refine g_pC (S' := [.int (i + 3), .ref b, .int v2, .int v1, .ref B, .int r]) hF tL_16_ok 28 4 rfl rfl rfl rfl ?_
  refine g_xld hF (dAtC tL_16_ok 32 rfl rfl) hx e3 ?_
  refine g_cV (S := [.int r]) hF (re_lend_ok (Nat.le_refl _) hS2 q2 K) mbX12_lend mvX12_lend mlL_88 (by omega) (by decide) (dAtC tL_16_ok 33 rfl rfl) hS2.1 rfl rfl rfl (Nat.le_of_ble_eq_true rfl) rfl rfl (by omega) (by omega) rfl ?_
  refine g_icmp_eq hF (dAtC tL_16_ok 34 rfl rfl) rfl (fun _ => ?_) (fun c => absurd rfl c)
  exact g_widen (by omega) (by omega) kk
set_option maxRecDepth 4000 in
set_option maxHeartbeats 1000000 in
theorem law_c17 {K : Kt} {X : Cx} {k n b A B Ln : Nat} {xs : Nat → Int32} {i r : Int32} {v1 v2 : Int32} {h h1 h2 : Hp} (hF : Fx K X cL_law 4 RL 1300 600000 5500000) (hx : kX K b = some (Ln, xs)) (hk : k + 40 ≤ 600000) (hn : n + 3200 ≤ 5500000) (e1 : ld Ln xs (i + 1) = some v1) (e2 : ld Ln xs (i + 2) = some v2) (hS1 : ShX11 h.1 A) (hS2 : ShX12 h1.1 B) (q1 : cl_split A v1 v2 h = some (r, h1)) (q2 : re_split B v1 v2 h1 = some (r, h2)) (kk : G K X 4 (k + 40) (n + 3200) 1241 [some (.ref b), some (.ref A), some (.ref B), some (.int i)] [] h2) : G K X 4 k n 839 [some (.ref b), some (.ref A), some (.ref B), some (.int i)] [] h := by
  obtain ⟨τ, σ, nx⟩ := h
  obtain ⟨τ1, σ1, nx1⟩ := h1
  refine g_pC (S' := [.int (i + 1), .ref b, .ref A]) hF tL_17_ok 0 5 rfl rfl rfl rfl ?_
  refine g_xld hF (dAtC tL_17_ok 5 rfl rfl) hx e1 ?_
  refine g_pC (S' := [.int (i + 2), .ref b, .int v1, .ref A]) hF tL_17_ok 6 4 rfl rfl rfl rfl ?_
  refine g_xld hF (dAtC tL_17_ok 10 rfl rfl) hx e2 ?_
  refine g_cV (S := []) hF (cl_split_ok (Nat.le_refl _) hS1 q1 K) mbX11_split mvX11_split mlL_89 (by omega) (by decide) (dAtC tL_17_ok 11 rfl rfl) hS1.1 rfl rfl rfl (Nat.le_of_ble_eq_true rfl) rfl rfl (by omega) (by omega) rfl ?_
  refine g_pC (S' := [.int (i + 1), .ref b, .ref B, .int r]) hF tL_17_ok 12 5 rfl rfl rfl rfl ?_
  refine g_xld hF (dAtC tL_17_ok 17 rfl rfl) hx e1 ?_
  refine g_pC (S' := [.int (i + 2), .ref b, .int v1, .ref B, .int r]) hF tL_17_ok 18 4 rfl rfl rfl rfl ?_
  refine g_xld hF (dAtC tL_17_ok 22 rfl rfl) hx e2 ?_
  refine g_cV (S := [.int r]) hF (re_split_ok (Nat.le_refl _) hS2 q2 K) mbX12_split mvX12_split mlL_92 (by omega) (by decide) (dAtC tL_17_ok 23 rfl rfl) hS2.1 rfl rfl rfl (Nat.le_of_ble_eq_true rfl) rfl rfl (by omega) (by omega) rfl ?_
  refine g_icmp_eq hF (dAtC tL_17_ok 24 rfl rfl) rfl (fun _ => ?_) (fun c => absurd rfl c)
  exact g_widen (by omega) (by omega) kk
set_option maxRecDepth 4000 in
set_option maxHeartbeats 1000000 in
theorem law_c18 {K : Kt} {X : Cx} {k n b A B Ln : Nat} {xs : Nat → Int32} {i r : Int32} {v1 v2 : Int32} {h h1 h2 : Hp} (hF : Fx K X cL_law 4 RL 1300 600000 5500000) (hx : kX K b = some (Ln, xs)) (hk : k + 40 ≤ 600000) (hn : n + 3200 ≤ 5500000) (e1 : ld Ln xs (i + 1) = some v1) (e2 : ld Ln xs (i + 2) = some v2) (hS1 : ShX11 h.1 A) (hS2 : ShX12 h1.1 B) (q1 : cl_inherit A v1 v2 h = some (r, h1)) (q2 : re_inherit B v1 v2 h1 = some (r, h2)) (kk : G K X 4 (k + 40) (n + 3200) 1241 [some (.ref b), some (.ref A), some (.ref B), some (.int i)] [] h2) : G K X 4 k n 872 [some (.ref b), some (.ref A), some (.ref B), some (.int i)] [] h := by
  obtain ⟨τ, σ, nx⟩ := h
  obtain ⟨τ1, σ1, nx1⟩ := h1
  refine g_pC (S' := [.int (i + 1), .ref b, .ref A]) hF tL_18_ok 0 5 rfl rfl rfl rfl ?_
  refine g_xld hF (dAtC tL_18_ok 5 rfl rfl) hx e1 ?_
  refine g_pC (S' := [.int (i + 2), .ref b, .int v1, .ref A]) hF tL_18_ok 6 4 rfl rfl rfl rfl ?_
  refine g_xld hF (dAtC tL_18_ok 10 rfl rfl) hx e2 ?_
  refine g_cV (S := []) hF (cl_inherit_ok (Nat.le_refl _) hS1 q1 K) mbX11_inherit mvX11_inherit mlL_93 (by omega) (by decide) (dAtC tL_18_ok 11 rfl rfl) hS1.1 rfl rfl rfl (Nat.le_of_ble_eq_true rfl) rfl rfl (by omega) (by omega) rfl ?_
  refine g_pC (S' := [.int (i + 1), .ref b, .ref B, .int r]) hF tL_18_ok 12 5 rfl rfl rfl rfl ?_
  refine g_xld hF (dAtC tL_18_ok 17 rfl rfl) hx e1 ?_
  refine g_pC (S' := [.int (i + 2), .ref b, .int v1, .ref B, .int r]) hF tL_18_ok 18 4 rfl rfl rfl rfl ?_
  refine g_xld hF (dAtC tL_18_ok 22 rfl rfl) hx e2 ?_
  refine g_cV (S := [.int r]) hF (re_inherit_ok (Nat.le_refl _) hS2 q2 K) mbX12_inherit mvX12_inherit mlL_96 (by omega) (by decide) (dAtC tL_18_ok 23 rfl rfl) hS2.1 rfl rfl rfl (Nat.le_of_ble_eq_true rfl) rfl rfl (by omega) (by omega) rfl ?_
  refine g_icmp_eq hF (dAtC tL_18_ok 24 rfl rfl) rfl (fun _ => ?_) (fun c => absurd rfl c)
  exact g_widen (by omega) (by omega) kk
set_option maxRecDepth 4000 in
set_option maxHeartbeats 1000000 in
theorem law_c19 {K : Kt} {X : Cx} {k n b A B Ln : Nat} {xs : Nat → Int32} {i r : Int32} {v1 v2 v3 : Int32} {h h1 h2 : Hp} (hF : Fx K X cL_law 4 RL 1300 600000 5500000) (hx : kX K b = some (Ln, xs)) (hk : k + 40 ≤ 600000) (hn : n + 3200 ≤ 5500000) (e1 : ld Ln xs (i + 1) = some v1) (e2 : ld Ln xs (i + 2) = some v2) (e3 : ld Ln xs (i + 3) = some v3) (hS1 : ShX11 h.1 A) (hS2 : ShX12 h1.1 B) (q1 : cl_sell A v1 v2 v3 h = some (r, h1)) (q2 : re_sell B v1 v2 v3 h1 = some (r, h2)) (kk : G K X 4 (k + 40) (n + 3200) 1241 [some (.ref b), some (.ref A), some (.ref B), some (.int i)] [] h2) : G K X 4 k n 905 [some (.ref b), some (.ref A), some (.ref B), some (.int i)] [] h := by
  obtain ⟨τ, σ, nx⟩ := h
  obtain ⟨τ1, σ1, nx1⟩ := h1
  refine g_pC (S' := [.int (i + 1), .ref b, .ref A]) hF tL_19_ok 0 5 rfl rfl rfl rfl ?_
  refine g_xld hF (dAtC tL_19_ok 5 rfl rfl) hx e1 ?_
  refine g_pC (S' := [.int (i + 2), .ref b, .int v1, .ref A]) hF tL_19_ok 6 4 rfl rfl rfl rfl ?_
  refine g_xld hF (dAtC tL_19_ok 10 rfl rfl) hx e2 ?_
  refine g_pC (S' := [.int (i + 3), .ref b, .int v2, .int v1, .ref A]) hF tL_19_ok 11 4 rfl rfl rfl rfl ?_
  refine g_xld hF (dAtC tL_19_ok 15 rfl rfl) hx e3 ?_
  refine g_cV (S := []) hF (cl_sell_ok (Nat.le_refl _) hS1 q1 K) mbX11_sell mvX11_sell mlL_97 (by omega) (by decide) (dAtC tL_19_ok 16 rfl rfl) hS1.1 rfl rfl rfl (Nat.le_of_ble_eq_true rfl) rfl rfl (by omega) (by omega) rfl ?_
  refine g_pC (S' := [.int (i + 1), .ref b, .ref B, .int r]) hF tL_19_ok 17 5 rfl rfl rfl rfl ?_
  refine g_xld hF (dAtC tL_19_ok 22 rfl rfl) hx e1 ?_
  refine g_pC (S' := [.int (i + 2), .ref b, .int v1, .ref B, .int r]) hF tL_19_ok 23 4 rfl rfl rfl rfl ?_
  refine g_xld hF (dAtC tL_19_ok 27 rfl rfl) hx e2 ?_
  refine g_pC (S' := [.int (i + 3), .ref b, .int v2, .int v1, .ref B, .int r]) hF tL_19_ok 28 4 rfl rfl rfl rfl ?_
  refine g_xld hF (dAtC tL_19_ok 32 rfl rfl) hx e3 ?_
  refine g_cV (S := [.int r]) hF (re_sell_ok (Nat.le_refl _) hS2 q2 K) mbX12_sell mvX12_sell mlL_100 (by omega) (by decide) (dAtC tL_19_ok 33 rfl rfl) hS2.1 rfl rfl rfl (Nat.le_of_ble_eq_true rfl) rfl rfl (by omega) (by omega) rfl ?_
  refine g_icmp_eq hF (dAtC tL_19_ok 34 rfl rfl) rfl (fun _ => ?_) (fun c => absurd rfl c)
  exact g_widen (by omega) (by omega) kk
set_option maxRecDepth 4000 in
set_option maxHeartbeats 1000000 in
theorem law_c20 {K : Kt} {X : Cx} {k n b A B Ln : Nat} {xs : Nat → Int32} {i r : Int32} {h h1 h2 : Hp} (hF : Fx K X cL_law 4 RL 1300 600000 5500000) (hx : kX K b = some (Ln, xs)) (hk : k + 40 ≤ 600000) (hn : n + 3200 ≤ 5500000) (hS1 : ShX11 h.1 A) (hS2 : ShX12 h1.1 B) (q1 : cl_undo A  h = some (r, h1)) (q2 : re_undo B  h1 = some (r, h2)) (kk : G K X 4 (k + 40) (n + 3200) 1241 [some (.ref b), some (.ref A), some (.ref B), some (.int i)] [] h2) : G K X 4 k n 948 [some (.ref b), some (.ref A), some (.ref B), some (.int i)] [] h := by
  obtain ⟨τ, σ, nx⟩ := h
  obtain ⟨τ1, σ1, nx1⟩ := h1
  refine g_pC (S' := [.ref A]) hF tL_20_ok 0 1 rfl rfl rfl rfl ?_
  refine g_cV (S := []) hF (cl_undo_ok (Nat.le_refl _) hS1 q1 K) mbX11_undo mvX11_undo mlL_101 (by omega) (by decide) (dAtC tL_20_ok 1 rfl rfl) hS1.1 rfl rfl rfl (Nat.le_of_ble_eq_true rfl) rfl rfl (by omega) (by omega) rfl ?_
  refine g_pC (S' := [.ref B, .int r]) hF tL_20_ok 2 1 rfl rfl rfl rfl ?_
  refine g_cV (S := [.int r]) hF (re_undo_ok (Nat.le_refl _) hS2 q2 K) mbX12_undo mvX12_undo mlL_105 (by omega) (by decide) (dAtC tL_20_ok 3 rfl rfl) hS2.1 rfl rfl rfl (Nat.le_of_ble_eq_true rfl) rfl rfl (by omega) (by omega) rfl ?_
  refine g_icmp_eq hF (dAtC tL_20_ok 4 rfl rfl) rfl (fun _ => ?_) (fun c => absurd rfl c)
  exact g_widen (by omega) (by omega) kk
set_option maxRecDepth 4000 in
set_option maxHeartbeats 1000000 in
theorem law_c21 {K : Kt} {X : Cx} {k n b A B Ln : Nat} {xs : Nat → Int32} {i r : Int32} {v1 : Int32} {h h1 h2 : Hp} (hF : Fx K X cL_law 4 RL 1300 600000 5500000) (hx : kX K b = some (Ln, xs)) (hk : k + 40 ≤ 600000) (hn : n + 3200 ≤ 5500000) (e1 : ld Ln xs (i + 1) = some v1) (hS1 : ShX11 h.1 A) (hS2 : ShX12 h1.1 B) (q1 : cl_soonest A v1 h = some (r, h1)) (q2 : re_soonest B v1 h1 = some (r, h2)) (kk : G K X 4 (k + 40) (n + 3200) 1241 [some (.ref b), some (.ref A), some (.ref B), some (.int i)] [] h2) : G K X 4 k n 961 [some (.ref b), some (.ref A), some (.ref B), some (.int i)] [] h := by
  obtain ⟨τ, σ, nx⟩ := h
  obtain ⟨τ1, σ1, nx1⟩ := h1
  refine g_pC (S' := [.int (i + 1), .ref b, .ref A]) hF tL_21_ok 0 5 rfl rfl rfl rfl ?_
  refine g_xld hF (dAtC tL_21_ok 5 rfl rfl) hx e1 ?_
  refine g_cV (S := []) hF (cl_soonest_ok (Nat.le_refl _) hS1 q1 K) mbX11_soonest mvX11_soonest mlL_106 (by omega) (by decide) (dAtC tL_21_ok 6 rfl rfl) hS1.1 rfl rfl rfl (Nat.le_of_ble_eq_true rfl) rfl rfl (by omega) (by omega) rfl ?_
  refine g_pC (S' := [.int (i + 1), .ref b, .ref B, .int r]) hF tL_21_ok 7 5 rfl rfl rfl rfl ?_
  refine g_xld hF (dAtC tL_21_ok 12 rfl rfl) hx e1 ?_
  refine g_cV (S := [.int r]) hF (re_soonest_ok (Nat.le_refl _) hS2 q2 K) mbX12_soonest mvX12_soonest mlL_109 (by omega) (by decide) (dAtC tL_21_ok 13 rfl rfl) hS2.1 rfl rfl rfl (Nat.le_of_ble_eq_true rfl) rfl rfl (by omega) (by omega) rfl ?_
  refine g_icmp_eq hF (dAtC tL_21_ok 14 rfl rfl) rfl (fun _ => ?_) (fun c => absurd rfl c)
  exact g_widen (by omega) (by omega) kk
set_option maxRecDepth 4000 in
set_option maxHeartbeats 1000000 in
theorem law_c22 {K : Kt} {X : Cx} {k n b A B Ln : Nat} {xs : Nat → Int32} {i r : Int32} {v1 v2 v3 v4 : Int32} {h h1 h2 : Hp} (hF : Fx K X cL_law 4 RL 1300 600000 5500000) (hx : kX K b = some (Ln, xs)) (hk : k + 40 ≤ 600000) (hn : n + 3200 ≤ 5500000) (e1 : ld Ln xs (i + 1) = some v1) (e2 : ld Ln xs (i + 2) = some v2) (e3 : ld Ln xs (i + 3) = some v3) (e4 : ld Ln xs (i + 4) = some v4) (hS1 : ShX11 h.1 A) (hS2 : ShX12 h1.1 B) (q1 : cl_whom A v1 v2 v3 v4 h = some (r, h1)) (q2 : re_whom B v1 v2 v3 v4 h1 = some (r, h2)) (kk : G K X 4 (k + 40) (n + 3200) 1241 [some (.ref b), some (.ref A), some (.ref B), some (.int i)] [] h2) : G K X 4 k n 984 [some (.ref b), some (.ref A), some (.ref B), some (.int i)] [] h := by
  obtain ⟨τ, σ, nx⟩ := h
  obtain ⟨τ1, σ1, nx1⟩ := h1
  refine g_pC (S' := [.int (i + 1), .ref b, .ref A]) hF tL_22_ok 0 5 rfl rfl rfl rfl ?_
  refine g_xld hF (dAtC tL_22_ok 5 rfl rfl) hx e1 ?_
  refine g_pC (S' := [.int (i + 2), .ref b, .int v1, .ref A]) hF tL_22_ok 6 4 rfl rfl rfl rfl ?_
  refine g_xld hF (dAtC tL_22_ok 10 rfl rfl) hx e2 ?_
  refine g_pC (S' := [.int (i + 3), .ref b, .int v2, .int v1, .ref A]) hF tL_22_ok 11 4 rfl rfl rfl rfl ?_
  refine g_xld hF (dAtC tL_22_ok 15 rfl rfl) hx e3 ?_
  refine g_pC (S' := [.int (i + 4), .ref b, .int v3, .int v2, .int v1, .ref A]) hF tL_22_ok 16 4 rfl rfl rfl rfl ?_
  refine g_xld hF (dAtC tL_22_ok 20 rfl rfl) hx e4 ?_
  refine g_cV (S := []) hF (cl_whom_ok (Nat.le_refl _) hS1 q1 K) mbX11_whom mvX11_whom mlL_110 (by omega) (by decide) (dAtC tL_22_ok 21 rfl rfl) hS1.1 rfl rfl rfl (Nat.le_of_ble_eq_true rfl) rfl rfl (by omega) (by omega) rfl ?_
  refine g_pC (S' := [.int (i + 1), .ref b, .ref B, .int r]) hF tL_22_ok 22 5 rfl rfl rfl rfl ?_
  refine g_xld hF (dAtC tL_22_ok 27 rfl rfl) hx e1 ?_
  refine g_pC (S' := [.int (i + 2), .ref b, .int v1, .ref B, .int r]) hF tL_22_ok 28 4 rfl rfl rfl rfl ?_
  refine g_xld hF (dAtC tL_22_ok 32 rfl rfl) hx e2 ?_
  refine g_pC (S' := [.int (i + 3), .ref b, .int v2, .int v1, .ref B, .int r]) hF tL_22_ok 33 4 rfl rfl rfl rfl ?_
  refine g_xld hF (dAtC tL_22_ok 37 rfl rfl) hx e3 ?_
  refine g_pC (S' := [.int (i + 4), .ref b, .int v3, .int v2, .int v1, .ref B, .int r]) hF tL_22_ok 38 4 rfl rfl rfl rfl ?_
  refine g_xld hF (dAtC tL_22_ok 42 rfl rfl) hx e4 ?_
  refine g_cV (S := [.int r]) hF (re_whom_ok (Nat.le_refl _) hS2 q2 K) mbX12_whom mvX12_whom mlL_114 (by omega) (by decide) (dAtC tL_22_ok 43 rfl rfl) hS2.1 rfl rfl rfl (Nat.le_of_ble_eq_true rfl) rfl rfl (by omega) (by omega) rfl ?_
  refine g_icmp_eq hF (dAtC tL_22_ok 44 rfl rfl) rfl (fun _ => ?_) (fun c => absurd rfl c)
  exact g_widen (by omega) (by omega) kk
set_option maxRecDepth 4000 in
set_option maxHeartbeats 1000000 in
theorem law_c23 {K : Kt} {X : Cx} {k n b A B Ln : Nat} {xs : Nat → Int32} {i r : Int32} {v1 v2 : Int32} {h h1 h2 : Hp} (hF : Fx K X cL_law 4 RL 1300 600000 5500000) (hx : kX K b = some (Ln, xs)) (hk : k + 40 ≤ 600000) (hn : n + 3200 ≤ 5500000) (e1 : ld Ln xs (i + 1) = some v1) (e2 : ld Ln xs (i + 2) = some v2) (hS1 : ShX11 h.1 A) (hS2 : ShX12 h1.1 B) (q1 : cl_quiet A v1 v2 h = some (r, h1)) (q2 : re_quiet B v1 v2 h1 = some (r, h2)) (kk : G K X 4 (k + 40) (n + 3200) 1241 [some (.ref b), some (.ref A), some (.ref B), some (.int i)] [] h2) : G K X 4 k n 1037 [some (.ref b), some (.ref A), some (.ref B), some (.int i)] [] h := by
  obtain ⟨τ, σ, nx⟩ := h
  obtain ⟨τ1, σ1, nx1⟩ := h1
  refine g_pC (S' := [.int (i + 1), .ref b, .ref A]) hF tL_23_ok 0 5 rfl rfl rfl rfl ?_
  refine g_xld hF (dAtC tL_23_ok 5 rfl rfl) hx e1 ?_
  refine g_pC (S' := [.int (i + 2), .ref b, .int v1, .ref A]) hF tL_23_ok 6 4 rfl rfl rfl rfl ?_
  refine g_xld hF (dAtC tL_23_ok 10 rfl rfl) hx e2 ?_
  refine g_cV (S := []) hF (cl_quiet_ok (Nat.le_refl _) hS1 q1 K) mbX11_quiet mvX11_quiet mlL_115 (by omega) (by decide) (dAtC tL_23_ok 11 rfl rfl) hS1.1 rfl rfl rfl (Nat.le_of_ble_eq_true rfl) rfl rfl (by omega) (by omega) rfl ?_
  refine g_pC (S' := [.int (i + 1), .ref b, .ref B, .int r]) hF tL_23_ok 12 5 rfl rfl rfl rfl ?_
  refine g_xld hF (dAtC tL_23_ok 17 rfl rfl) hx e1 ?_
  refine g_pC (S' := [.int (i + 2), .ref b, .int v1, .ref B, .int r]) hF tL_23_ok 18 4 rfl rfl rfl rfl ?_
  refine g_xld hF (dAtC tL_23_ok 22 rfl rfl) hx e2 ?_
  refine g_cV (S := [.int r]) hF (re_quiet_ok (Nat.le_refl _) hS2 q2 K) mbX12_quiet mvX12_quiet mlL_118 (by omega) (by decide) (dAtC tL_23_ok 23 rfl rfl) hS2.1 rfl rfl rfl (Nat.le_of_ble_eq_true rfl) rfl rfl (by omega) (by omega) rfl ?_
  refine g_icmp_eq hF (dAtC tL_23_ok 24 rfl rfl) rfl (fun _ => ?_) (fun c => absurd rfl c)
  exact g_widen (by omega) (by omega) kk
set_option maxRecDepth 4000 in
set_option maxHeartbeats 1000000 in
theorem law_c24 {K : Kt} {X : Cx} {k n b A B Ln : Nat} {xs : Nat → Int32} {i r : Int32} {v1 v2 v3 : Int32} {h h1 h2 : Hp} (hF : Fx K X cL_law 4 RL 1300 600000 5500000) (hx : kX K b = some (Ln, xs)) (hk : k + 40 ≤ 600000) (hn : n + 3200 ≤ 5500000) (e1 : ld Ln xs (i + 1) = some v1) (e2 : ld Ln xs (i + 2) = some v2) (e3 : ld Ln xs (i + 3) = some v3) (hS1 : ShX11 h.1 A) (hS2 : ShX12 h1.1 B) (q1 : cl_thought A v1 v2 v3 h = some (r, h1)) (q2 : re_thought B v1 v2 v3 h1 = some (r, h2)) (kk : G K X 4 (k + 40) (n + 3200) 1241 [some (.ref b), some (.ref A), some (.ref B), some (.int i)] [] h2) : G K X 4 k n 1070 [some (.ref b), some (.ref A), some (.ref B), some (.int i)] [] h := by
  obtain ⟨τ, σ, nx⟩ := h
  obtain ⟨τ1, σ1, nx1⟩ := h1
  refine g_pC (S' := [.int (i + 1), .ref b, .ref A]) hF tL_24_ok 0 5 rfl rfl rfl rfl ?_
  refine g_xld hF (dAtC tL_24_ok 5 rfl rfl) hx e1 ?_
  refine g_pC (S' := [.int (i + 2), .ref b, .int v1, .ref A]) hF tL_24_ok 6 4 rfl rfl rfl rfl ?_
  refine g_xld hF (dAtC tL_24_ok 10 rfl rfl) hx e2 ?_
  refine g_pC (S' := [.int (i + 3), .ref b, .int v2, .int v1, .ref A]) hF tL_24_ok 11 4 rfl rfl rfl rfl ?_
  refine g_xld hF (dAtC tL_24_ok 15 rfl rfl) hx e3 ?_
  refine g_cV (S := []) hF (cl_thought_ok (Nat.le_refl _) hS1 q1 K) mbX11_thought mvX11_thought mlL_119 (by omega) (by decide) (dAtC tL_24_ok 16 rfl rfl) hS1.1 rfl rfl rfl (Nat.le_of_ble_eq_true rfl) rfl rfl (by omega) (by omega) rfl ?_
  refine g_pC (S' := [.int (i + 1), .ref b, .ref B, .int r]) hF tL_24_ok 17 5 rfl rfl rfl rfl ?_
  refine g_xld hF (dAtC tL_24_ok 22 rfl rfl) hx e1 ?_
  refine g_pC (S' := [.int (i + 2), .ref b, .int v1, .ref B, .int r]) hF tL_24_ok 23 4 rfl rfl rfl rfl ?_
  refine g_xld hF (dAtC tL_24_ok 27 rfl rfl) hx e2 ?_
  refine g_pC (S' := [.int (i + 3), .ref b, .int v2, .int v1, .ref B, .int r]) hF tL_24_ok 28 4 rfl rfl rfl rfl ?_
  refine g_xld hF (dAtC tL_24_ok 32 rfl rfl) hx e3 ?_
  refine g_cV (S := [.int r]) hF (re_thought_ok (Nat.le_refl _) hS2 q2 K) mbX12_thought mvX12_thought mlL_122 (by omega) (by decide) (dAtC tL_24_ok 33 rfl rfl) hS2.1 rfl rfl rfl (Nat.le_of_ble_eq_true rfl) rfl rfl (by omega) (by omega) rfl ?_
  refine g_icmp_eq hF (dAtC tL_24_ok 34 rfl rfl) rfl (fun _ => ?_) (fun c => absurd rfl c)
  exact g_widen (by omega) (by omega) kk
set_option maxRecDepth 4000 in
set_option maxHeartbeats 1000000 in
theorem law_c25 {K : Kt} {X : Cx} {k n b A B Ln : Nat} {xs : Nat → Int32} {i r : Int32} {v1 v2 : Int32} {h h1 h2 : Hp} (hF : Fx K X cL_law 4 RL 1300 600000 5500000) (hx : kX K b = some (Ln, xs)) (hk : k + 40 ≤ 600000) (hn : n + 3200 ≤ 5500000) (e1 : ld Ln xs (i + 1) = some v1) (e2 : ld Ln xs (i + 2) = some v2) (hS1 : ShX11 h.1 A) (hS2 : ShX12 h1.1 B) (q1 : cl_person A v1 v2 h = some (r, h1)) (q2 : re_person B v1 v2 h1 = some (r, h2)) (kk : G K X 4 (k + 40) (n + 3200) 1241 [some (.ref b), some (.ref A), some (.ref B), some (.int i)] [] h2) : G K X 4 k n 1113 [some (.ref b), some (.ref A), some (.ref B), some (.int i)] [] h := by
  obtain ⟨τ, σ, nx⟩ := h
  obtain ⟨τ1, σ1, nx1⟩ := h1
  refine g_pC (S' := [.int (i + 1), .ref b, .ref A]) hF tL_25_ok 0 5 rfl rfl rfl rfl ?_
  refine g_xld hF (dAtC tL_25_ok 5 rfl rfl) hx e1 ?_
  refine g_pC (S' := [.int (i + 2), .ref b, .int v1, .ref A]) hF tL_25_ok 6 4 rfl rfl rfl rfl ?_
  refine g_xld hF (dAtC tL_25_ok 10 rfl rfl) hx e2 ?_
  refine g_cV (S := []) hF (cl_person_ok (Nat.le_refl _) hS1 q1 K) mbX11_person mvX11_person mlL_123 (by omega) (by decide) (dAtC tL_25_ok 11 rfl rfl) hS1.1 rfl rfl rfl (Nat.le_of_ble_eq_true rfl) rfl rfl (by omega) (by omega) rfl ?_
  refine g_pC (S' := [.int (i + 1), .ref b, .ref B, .int r]) hF tL_25_ok 12 5 rfl rfl rfl rfl ?_
  refine g_xld hF (dAtC tL_25_ok 17 rfl rfl) hx e1 ?_
  refine g_pC (S' := [.int (i + 2), .ref b, .int v1, .ref B, .int r]) hF tL_25_ok 18 4 rfl rfl rfl rfl ?_
  refine g_xld hF (dAtC tL_25_ok 22 rfl rfl) hx e2 ?_
  refine g_cV (S := [.int r]) hF (re_person_ok (Nat.le_refl _) hS2 q2 K) mbX12_person mvX12_person mlL_126 (by omega) (by decide) (dAtC tL_25_ok 23 rfl rfl) hS2.1 rfl rfl rfl (Nat.le_of_ble_eq_true rfl) rfl rfl (by omega) (by omega) rfl ?_
  refine g_icmp_eq hF (dAtC tL_25_ok 24 rfl rfl) rfl (fun _ => ?_) (fun c => absurd rfl c)
  exact g_widen (by omega) (by omega) kk
set_option maxRecDepth 4000 in
set_option maxHeartbeats 1000000 in
theorem law_c26 {K : Kt} {X : Cx} {k n b A B Ln : Nat} {xs : Nat → Int32} {i r : Int32} {v1 v2 : Int32} {h h1 h2 : Hp} (hF : Fx K X cL_law 4 RL 1300 600000 5500000) (hx : kX K b = some (Ln, xs)) (hk : k + 40 ≤ 600000) (hn : n + 3200 ≤ 5500000) (e1 : ld Ln xs (i + 1) = some v1) (e2 : ld Ln xs (i + 2) = some v2) (hS1 : ShX11 h.1 A) (hS2 : ShX12 h1.1 B) (q1 : cl_book A v1 v2 h = some (r, h1)) (q2 : re_book B v1 v2 h1 = some (r, h2)) (kk : G K X 4 (k + 40) (n + 3200) 1241 [some (.ref b), some (.ref A), some (.ref B), some (.int i)] [] h2) : G K X 4 k n 1146 [some (.ref b), some (.ref A), some (.ref B), some (.int i)] [] h := by
  obtain ⟨τ, σ, nx⟩ := h
  obtain ⟨τ1, σ1, nx1⟩ := h1
  refine g_pC (S' := [.int (i + 1), .ref b, .ref A]) hF tL_26_ok 0 5 rfl rfl rfl rfl ?_
  refine g_xld hF (dAtC tL_26_ok 5 rfl rfl) hx e1 ?_
  refine g_pC (S' := [.int (i + 2), .ref b, .int v1, .ref A]) hF tL_26_ok 6 4 rfl rfl rfl rfl ?_
  refine g_xld hF (dAtC tL_26_ok 10 rfl rfl) hx e2 ?_
  refine g_cV (S := []) hF (cl_book_ok (Nat.le_refl _) hS1 q1 K) mbX11_book mvX11_book mlL_127 (by omega) (by decide) (dAtC tL_26_ok 11 rfl rfl) hS1.1 rfl rfl rfl (Nat.le_of_ble_eq_true rfl) rfl rfl (by omega) (by omega) rfl ?_
  refine g_pC (S' := [.int (i + 1), .ref b, .ref B, .int r]) hF tL_26_ok 12 5 rfl rfl rfl rfl ?_
  refine g_xld hF (dAtC tL_26_ok 17 rfl rfl) hx e1 ?_
  refine g_pC (S' := [.int (i + 2), .ref b, .int v1, .ref B, .int r]) hF tL_26_ok 18 4 rfl rfl rfl rfl ?_
  refine g_xld hF (dAtC tL_26_ok 22 rfl rfl) hx e2 ?_
  refine g_cV (S := [.int r]) hF (re_book_ok (Nat.le_refl _) hS2 q2 K) mbX12_book mvX12_book mlL_130 (by omega) (by decide) (dAtC tL_26_ok 23 rfl rfl) hS2.1 rfl rfl rfl (Nat.le_of_ble_eq_true rfl) rfl rfl (by omega) (by omega) rfl ?_
  refine g_icmp_eq hF (dAtC tL_26_ok 24 rfl rfl) rfl (fun _ => ?_) (fun c => absurd rfl c)
  exact g_widen (by omega) (by omega) kk
set_option maxRecDepth 4000 in
set_option maxHeartbeats 1000000 in
theorem law_c27 {K : Kt} {X : Cx} {k n b A B Ln : Nat} {xs : Nat → Int32} {i r : Int32} {v1 : Int32} {h h1 h2 : Hp} (hF : Fx K X cL_law 4 RL 1300 600000 5500000) (hx : kX K b = some (Ln, xs)) (hk : k + 40 ≤ 600000) (hn : n + 3200 ≤ 5500000) (e1 : ld Ln xs (i + 1) = some v1) (hS1 : ShX11 h.1 A) (hS2 : ShX12 h1.1 B) (q1 : cl_image A (bz v1) h = some (r, h1)) (q2 : re_image B (bz v1) h1 = some (r, h2)) (kk : G K X 4 (k + 40) (n + 3200) 1241 [some (.ref b), some (.ref A), some (.ref B), some (.int i)] [] h2) : G K X 4 k n 1179 [some (.ref b), some (.ref A), some (.ref B), some (.int i)] [] h := by
  obtain ⟨τ, σ, nx⟩ := h
  obtain ⟨τ1, σ1, nx1⟩ := h1
  by_cases z1 : v1 = 0
  · skip
    rw [show bz v1 = 0 by simp [bz, z1]] at q1 q2
    refine g_pC (S' := [.int (i + 1), .ref b, .ref A]) hF tL_27_ok 0 5 rfl rfl rfl rfl ?_
    refine g_xld hF (dAtC tL_27_ok 5 rfl rfl) hx e1 ?_
    refine g_if_eq hF (dAtC tL_27_ok 6 rfl rfl) rfl (fun _ => ?_) (fun c => absurd z1 c)
    refine g_pC (S' := [.int 0, .ref A]) hF tL_27_ok 9 1 rfl rfl rfl rfl ?_
    refine g_cV (S := []) hF (cl_image_ok (Nat.le_refl _) hS1 q1 K) mbX11_image mvX11_image mlL_131 (by omega) (by decide) (dAtC tL_27_ok 10 rfl rfl) hS1.1 rfl rfl rfl (Nat.le_of_ble_eq_true rfl) rfl rfl (by omega) (by omega) rfl ?_
    refine g_pC (S' := [.int (i + 1), .ref b, .ref B, .int r]) hF tL_27_ok 11 5 rfl rfl rfl rfl ?_
    refine g_xld hF (dAtC tL_27_ok 16 rfl rfl) hx e1 ?_
    refine g_if_eq hF (dAtC tL_27_ok 17 rfl rfl) rfl (fun _ => ?_) (fun c => absurd z1 c)
    refine g_pC (S' := [.int 0, .ref B, .int r]) hF tL_27_ok 20 1 rfl rfl rfl rfl ?_
    refine g_cV (S := [.int r]) hF (re_image_ok (Nat.le_refl _) hS2 q2 K) mbX12_image mvX12_image mlL_135 (by omega) (by decide) (dAtC tL_27_ok 21 rfl rfl) hS2.1 rfl rfl rfl (Nat.le_of_ble_eq_true rfl) rfl rfl (by omega) (by omega) rfl ?_
    refine g_icmp_eq hF (dAtC tL_27_ok 22 rfl rfl) rfl (fun _ => ?_) (fun c => absurd rfl c)
    exact g_widen (by omega) (by omega) kk
  · skip
    rw [show bz v1 = 1 by simp [bz, z1]] at q1 q2
    refine g_pC (S' := [.int (i + 1), .ref b, .ref A]) hF tL_27_ok 0 5 rfl rfl rfl rfl ?_
    refine g_xld hF (dAtC tL_27_ok 5 rfl rfl) hx e1 ?_
    refine g_if_eq hF (dAtC tL_27_ok 6 rfl rfl) rfl (fun c => absurd c z1) (fun _ => ?_)
    refine g_pC (S' := [.int 1, .ref A]) hF tL_27_ok 7 1 rfl rfl rfl rfl ?_
    refine g_goto hF (dAtC tL_27_ok 8 rfl rfl) rfl ?_
    refine g_cV (S := []) hF (cl_image_ok (Nat.le_refl _) hS1 q1 K) mbX11_image mvX11_image mlL_131 (by omega) (by decide) (dAtC tL_27_ok 10 rfl rfl) hS1.1 rfl rfl rfl (Nat.le_of_ble_eq_true rfl) rfl rfl (by omega) (by omega) rfl ?_
    refine g_pC (S' := [.int (i + 1), .ref b, .ref B, .int r]) hF tL_27_ok 11 5 rfl rfl rfl rfl ?_
    refine g_xld hF (dAtC tL_27_ok 16 rfl rfl) hx e1 ?_
    refine g_if_eq hF (dAtC tL_27_ok 17 rfl rfl) rfl (fun c => absurd c z1) (fun _ => ?_)
    refine g_pC (S' := [.int 1, .ref B, .int r]) hF tL_27_ok 18 1 rfl rfl rfl rfl ?_
    refine g_goto hF (dAtC tL_27_ok 19 rfl rfl) rfl ?_
    refine g_cV (S := [.int r]) hF (re_image_ok (Nat.le_refl _) hS2 q2 K) mbX12_image mvX12_image mlL_135 (by omega) (by decide) (dAtC tL_27_ok 21 rfl rfl) hS2.1 rfl rfl rfl (Nat.le_of_ble_eq_true rfl) rfl rfl (by omega) (by omega) rfl ?_
    refine g_icmp_eq hF (dAtC tL_27_ok 22 rfl rfl) rfl (fun _ => ?_) (fun c => absurd rfl c)
    exact g_widen (by omega) (by omega) kk
set_option maxRecDepth 4000 in
set_option maxHeartbeats 1000000 in
theorem law_c28 {K : Kt} {X : Cx} {k n b A B Ln : Nat} {xs : Nat → Int32} {i r : Int32} {v1 : Int32} {h h1 h2 : Hp} (hF : Fx K X cL_law 4 RL 1300 600000 5500000) (hx : kX K b = some (Ln, xs)) (hk : k + 40 ≤ 600000) (hn : n + 3200 ≤ 5500000) (e1 : ld Ln xs (i + 1) = some v1) (hS1 : ShX11 h.1 A) (hS2 : ShX12 h1.1 B) (q1 : cl_look A v1 h = some (r, h1)) (q2 : re_look B v1 h1 = some (r, h2)) (kk : G K X 4 (k + 40) (n + 3200) 1241 [some (.ref b), some (.ref A), some (.ref B), some (.int i)] [] h2) : G K X 4 k n 1218 [some (.ref b), some (.ref A), some (.ref B), some (.int i)] [] h := by
  obtain ⟨τ, σ, nx⟩ := h
  obtain ⟨τ1, σ1, nx1⟩ := h1
  refine g_pC (S' := [.int (i + 1), .ref b, .ref A]) hF tL_28_ok 0 5 rfl rfl rfl rfl ?_
  refine g_xld hF (dAtC tL_28_ok 5 rfl rfl) hx e1 ?_
  refine g_cV (S := []) hF (cl_look_ok (Nat.le_refl _) hS1 q1 K) mbX11_look mvX11_look mlL_136 (by omega) (by decide) (dAtC tL_28_ok 6 rfl rfl) hS1.1 rfl rfl rfl (Nat.le_of_ble_eq_true rfl) rfl rfl (by omega) (by omega) rfl ?_
  refine g_pC (S' := [.int (i + 1), .ref b, .ref B, .int r]) hF tL_28_ok 7 5 rfl rfl rfl rfl ?_
  refine g_xld hF (dAtC tL_28_ok 12 rfl rfl) hx e1 ?_
  refine g_cV (S := [.int r]) hF (re_look_ok (Nat.le_refl _) hS2 q2 K) mbX12_look mvX12_look mlL_139 (by omega) (by decide) (dAtC tL_28_ok 13 rfl rfl) hS2.1 rfl rfl rfl (Nat.le_of_ble_eq_true rfl) rfl rfl (by omega) (by omega) rfl ?_
  refine g_icmp_eq hF (dAtC tL_28_ok 14 rfl rfl) rfl (fun _ => ?_) (fun c => absurd rfl c)
  exact g_widen (by omega) (by omega) kk
