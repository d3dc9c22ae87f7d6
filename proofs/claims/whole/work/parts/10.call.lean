/-! CALLS. -/
theorem pcc_blind (K : Kt) (A : List Value) (h : Hp) : FrameBlind (Pcc K A h) := fun a U g mk q => ⟨q.1, q.2.1, Kx.same (s := U) (U := U.calling g mk a) rfl q.2.2⟩
section CA
variable {K : Kt} {X : Cx} {cc : ByteArray} {nL : Nat} {own : String} {D mc ms k n pc : Nat} {L : Lo} {S S0 : List Value} {h h1 : Hp} {τ : Tau} {σ : Sig} {nx : Nat}
variable {y : MethodName} {cc' : ByteArray} {nL' np D' mc' ms' idx : Nat} {ret' : Option FieldType} {As : List Value} {r : Option Value} {b : Nat}
theorem good_ws (hm : Cond.code y cc' nL' ret' ∈ gtb) : GoodIn gtb (Cond.code y cc' nL' ret' :: gtb) := fun w hw => by
  rcases List.mem_cons.mp hw with rfl | hw
  · exact ⟨hm, gtb_good hm⟩
  · exact ⟨hw, gtb_good hw⟩
theorem run_go {a : Array Value} {H : Heap} {locs : List Loc} {ls : Array Slot} (hr : va_Run (xp X) (xl X) (xe X) (xR X) (xs X) (xm X) (xa X) (xb X) (xh X) (xc X) H locs k n mc' ms' (F0 (xm X) pc ls S0) S (Qcc K r h1 a) (kA K)) (hq : ∀ q ∈ locs, kB K ≤ q.base) (hl : lh ls nL L) (kk : G K X nL (k + mc') (n + ms') (pc + 3) L (r.toList ++ S) h1) : Wx X H locs k n (F0 (xm X) pc ls S0) := by
  intro T hT Xs
  obtain ⟨v, st₀, t, T', Lc, h0, X', hL, e1, e2, ⟨hv, hR'⟩, st⟩ := hr T hT Xs
  cases hv
  obtain ⟨t2, a1, b1⟩ := kk T'.heap (locs ++ Lc) ls (by rw [e1]; exact hR') (fun q h => by
    rcases List.mem_append.mp h with h | h
    · exact hq q h
    · exact hL q h) hl T' rfl X'
  exact ⟨t2, st t2 a1, b1⟩
theorem roomF (hF : Fx K X cc nL own D mc ms) (hD : D' + 1 ≤ D) (hnl : nL' ≤ 45) : ({ frames := D', cells := mc', slots := ms', locals := 64 * D' } : Room).frames + 1 ≤ (xR X).frames ∧ 8 + (nL' + 11) + ({ frames := D', cells := mc', slots := ms', locals := 64 * D' } : Room).locals ≤ (xR X).locals := by
  have h1 := hF.fr; have h2 := hF.lo
  constructor
  · show D' + 1 ≤ _; omega
  · show 8 + (nL' + 11) + 64 * D' ≤ _; omega
theorem g_cV0 (hF : Fx K X cc nL own D mc ms) (hOk : OkK D' mc' ms' y cc' nL' ret' K (.ref b :: As) h r h1) (hm : MB y cc' nL' ret' np) (hv : MV y) (hlk : Cond.methodLink own idx y ∈ gtb) (hD : D' + 1 ≤ D) (hnl : nL' ≤ 45) (hd : decode cc pc = .ok (.invokevirtual idx, 3)) (hrec : ∀ H : Heap, Rel K h H → ∃ cellB : Cell, H[b]? = some cellB ∧ cellB.vm.isStatics = false ∧ (xs X).vm.findClass y.cls = some cellB.cls) (hn : As.length = np) (hst : S0 = As.reverse ++ .ref b :: S) (hS : (S.map fun v => v.category).sum ≤ 8) {k1 n1 : Nat} {S1 : List Value} (hk1 : k + mc' = k1) (hn1 : n + ms' = n1) (hc : k1 ≤ mc) (hs : n1 ≤ ms) (hS1 : r.toList ++ S = S1)
    (kk : G K X nL k1 n1 (pc + 3) L S1 h1) : G K X nL k n pc L S0 h := by
  intro H locs ls hR hq hl
  subst hk1; subst hn1; subst hS1
  have h1 := hF.ce; have h2 := hF.sl
  have hcb := callB_of (own := own) (index := idx) (R := xR X) (mc := mc') (ms := ms') (rm := { frames := D', cells := mc', slots := ms', locals := 64 * D' }) np hF.ts (good_ws hm.1) rfl rfl rfl (hF.ts _ hm.2.1) (hF.ts _ hlk) hm.2.2 (roomF hF hD hnl)
  exact run_go (va_runV (C := y.cls) (As := As) (rest := S) (b := b) ⟨hF.ex, hF.co, hF.ml, hF.ow, hF.ts⟩ (hOk (xl X)) ⟨hcb, hF.ts _ hv.1, hF.ts _ hv.2⟩ ⟨pcc_blind K _ _, hrec H hR, fun U hU hW => ⟨rfl, by rw [hU]; exact hR, Kx.warm hW hF.kx⟩⟩ rfl hn hl.1 hst (by show 2 * 0 + _ ≤ 8; omega) hd ⟨by omega, by omega⟩) hq hl kk
theorem g_cV (hF : Fx K X cc nL own D mc ms) (hOk : OkK D' mc' ms' y cc' nL' ret' K (.ref b :: As) (τ, σ, nx) r h1) (hm : MB y cc' nL' ret' np) (hv : MV y) (hlk : Cond.methodLink own idx y ∈ gtb) (hD : D' + 1 ≤ D) (hnl : nL' ≤ 45) (hd : decode cc pc = .ok (.invokevirtual idx, 3)) {ci : Nat} {rs : List (Option (Option Nat))} {T : u_T} {N : Nat} (hb : τ b = some (.inl (ci, rs))) (hcl : vwCl[ci]? = some (y.cls, T, N)) (hn : As.length = np) (hst : S0 = As.reverse ++ .ref b :: S) (hS : (S.map fun v => v.category).sum ≤ 8) {k1 n1 : Nat} {S1 : List Value} (hk1 : k + mc' = k1) (hn1 : n + ms' = n1) (hc : k1 ≤ mc) (hs : n1 ≤ ms) (hS1 : r.toList ++ S = S1)
    (kk : G K X nL k1 n1 (pc + 3) L S1 h1) : G K X nL k n pc L S0 (τ, σ, nx) := by
  exact g_cV0 hF hOk hm hv hlk hD hnl hd (fun H hR => by
    obtain ⟨-, cell, q1, q2, q3, -⟩ := hR.obj hb
    have hfc := (hF.kx.1.1 ci _ hcl).2.1
    exact ⟨cell, q1, by rw [q3]; rfl, by rw [q2]; exact hfc⟩) hn hst hS hk1 hn1 hc hs hS1 kk
theorem g_cS (hF : Fx K X cc nL own D mc ms) (hOk : OkK D' mc' ms' y cc' nL' ret' K As h r h1) (hm : MB y cc' nL' ret' np) (hv : MS y) (hlk : Cond.methodLink own idx y ∈ gtb) (hD : D' + 1 ≤ D) (hnl : nL' ≤ 45) (hd : decode cc pc = .ok (.invokestatic idx, 3)) (hn : As.length = np) (hst : S0 = As.reverse ++ S) (hS : (S.map fun v => v.category).sum ≤ 8) {k1 n1 : Nat} {S1 : List Value} (hk1 : k + mc' = k1) (hn1 : n + ms' = n1) (hc : k1 ≤ mc) (hs : n1 ≤ ms) (hS1 : r.toList ++ S = S1)
    (kk : G K X nL k1 n1 (pc + 3) L S1 h1) : G K X nL k n pc L S0 h := by
  intro H locs ls hR hq hl
  subst hk1; subst hn1; subst hS1
  have h1 := hF.ce; have h2 := hF.sl
  have hcb := callB_of (own := own) (index := idx) (R := xR X) (mc := mc') (ms := ms') (rm := { frames := D', cells := mc', slots := ms', locals := 64 * D' }) np hF.ts (good_ws hm.1) rfl rfl rfl (hF.ts _ hm.2.1) (hF.ts _ hlk) hm.2.2 (roomF hF hD hnl)
  exact run_go (va_runS (As := As) (rest := S) ⟨hF.ex, hF.co, hF.ml, hF.ow, hF.ts⟩ (hOk (xl X)) ⟨hcb, hF.ts _ hv⟩ ⟨pcc_blind K _ _, fun U hU hW => ⟨rfl, by rw [hU]; exact hR, Kx.warm hW hF.kx⟩⟩ rfl hn hl.1 hst (by show 2 * 0 + _ ≤ 8; omega) hd ⟨by omega, by omega⟩) hq hl kk
theorem g_cI (hF : Fx K X cc nL own D mc ms) (hOk : OkK D' mc' ms' y cc' nL' none K (.ref b :: As) h r h1) (hm : MB y cc' nL' none np) (hv : MI y) (hlk : Cond.methodLink own idx y ∈ gtb) (hD : D' + 1 ≤ D) (hnl : nL' ≤ 45) (hd : decode cc pc = .ok (.invokespecial idx, 3)) (hn : As.length = np) (hst : S0 = As.reverse ++ .ref b :: S) (hS : (S.map fun v => v.category).sum ≤ 8) {k1 n1 : Nat} {S1 : List Value} (hk1 : k + mc' = k1) (hn1 : n + ms' = n1) (hc : k1 ≤ mc) (hs : n1 ≤ ms) (hS1 : r.toList ++ S = S1)
    (kk : G K X nL k1 n1 (pc + 3) L S1 h1) : G K X nL k n pc L S0 h := by
  intro H locs ls hR hq hl
  subst hk1; subst hn1; subst hS1
  have h1 := hF.ce; have h2 := hF.sl
  have hcb := callB_of (own := own) (index := idx) (R := xR X) (mc := mc') (ms := ms') (rm := { frames := D', cells := mc', slots := ms', locals := 64 * D' }) np hF.ts (good_ws hm.1) rfl rfl rfl (hF.ts _ hm.2.1) (hF.ts _ hlk) hm.2.2 (roomF hF hD hnl)
  exact run_go (va_runI (As := As) (rest := S) (b := b) ⟨hF.ex, hF.co, hF.ml, hF.ow, hF.ts⟩ (hOk (xl X)) ⟨hcb, hv.1, hF.ts _ hv.2⟩ ⟨pcc_blind K _ _, fun U hU hW => ⟨rfl, by rw [hU]; exact hR, Kx.warm hW hF.kx⟩⟩ rfl hn hl.1 hst (by show 2 * 0 + _ ≤ 8; omega) hd ⟨by omega, by omega⟩) hq hl kk
theorem g_cSN (hF : Fx K X cc nL own D mc ms) (hOk : OkK D' mc' ms' y cc' nL' ret' K As h r h1) (hm : MB y cc' nL' ret' np) (hv : MS y) (hlk : NL own idx y) (hD : D' + 1 ≤ D) (hnl : nL' ≤ 45) (hd : decode cc pc = .ok (.invokestatic idx, 3)) (hn : As.length = np) (hst : S0 = As.reverse ++ S) (hS : (S.map fun v => v.category).sum ≤ 8) {k1 n1 : Nat} {S1 : List Value} (hk1 : k + mc' = k1) (hn1 : n + ms' = n1) (hc : k1 ≤ mc) (hs : n1 ≤ ms) (hS1 : r.toList ++ S = S1)
    (kk : G K X nL k1 n1 (pc + 3) L S1 h1) : G K X nL k n pc L S0 h := by
  intro H locs ls hR hq hl
  subst hk1; subst hn1; subst hS1
  have h1 := hF.ce; have h2 := hF.sl
  have hcb := va_cnB (own := own) (index := idx) (R := xR X) (mc := mc') (ms := ms') (rm := { frames := D', cells := mc', slots := ms', locals := 64 * D' }) np hF.ts (good_ws hm.1) rfl rfl rfl (hF.kx.2.1 _ hlk rfl) (hF.ts _ hm.2.1) hm.2.2 (roomF hF hD hnl)
  exact run_go (va_runSN (As := As) (rest := S) ⟨hF.ex, hF.co, hF.ml, hF.ow, hF.ts⟩ (hOk (xl X)) ⟨hcb, hF.ts _ hv, trivial⟩ ⟨pcc_blind K _ _, fun U hU hW => ⟨rfl, by rw [hU]; exact hR, Kx.warm hW hF.kx⟩⟩ rfl hn hl.1 hst (by show 2 * 0 + _ ≤ 8; omega) hd ⟨by omega, by omega⟩) hq hl kk
theorem g_cIN (hF : Fx K X cc nL own D mc ms) (hOk : OkK D' mc' ms' y cc' nL' none K (.ref b :: As) h r h1) (hm : MB y cc' nL' none np) (hv : MI y) (hlk : NL own idx y) (hD : D' + 1 ≤ D) (hnl : nL' ≤ 45) (hd : decode cc pc = .ok (.invokespecial idx, 3)) (hn : As.length = np) (hst : S0 = As.reverse ++ .ref b :: S) (hS : (S.map fun v => v.category).sum ≤ 8) {k1 n1 : Nat} {S1 : List Value} (hk1 : k + mc' = k1) (hn1 : n + ms' = n1) (hc : k1 ≤ mc) (hs : n1 ≤ ms) (hS1 : r.toList ++ S = S1)
    (kk : G K X nL k1 n1 (pc + 3) L S1 h1) : G K X nL k n pc L S0 h := by
  intro H locs ls hR hq hl
  subst hk1; subst hn1; subst hS1
  have h1 := hF.ce; have h2 := hF.sl
  have hcb := va_cnB (own := own) (index := idx) (R := xR X) (mc := mc') (ms := ms') (rm := { frames := D', cells := mc', slots := ms', locals := 64 * D' }) np hF.ts (good_ws hm.1) rfl rfl rfl (hF.kx.2.1 _ hlk rfl) (hF.ts _ hm.2.1) hm.2.2 (roomF hF hD hnl)
  exact run_go (va_runIN (As := As) (rest := S) (b := b) ⟨hF.ex, hF.co, hF.ml, hF.ow, hF.ts⟩ (hOk (xl X)) ⟨hcb, hv.1, hF.ts _ hv.2⟩ ⟨pcc_blind K _ _, fun U hU hW => ⟨rfl, by rw [hU]; exact hR, Kx.warm hW hF.kx⟩⟩ rfl hn hl.1 hst (by show 2 * 0 + _ ≤ 8; omega) hd ⟨by omega, by omega⟩) hq hl kk
theorem oi_m : Cond.instanceMethod Lib.objectInit ∈ gtb ∧ Cond.code Lib.objectInit ⟨#[0xb1]⟩ 1 none ∈ gtb := by decide +kernel
theorem g_oi (hF : Fx K X cc nL own D mc ms) {a : Nat} (hlk : Cond.methodLink own idx Lib.objectInit ∈ gtb) (hd : decode cc pc = .ok (.invokespecial idx, 3)) (hD : 1 ≤ D) (hS : (S.map fun v => v.category).sum ≤ 8) (kk : G K X nL k n (pc + 3) L S h) : G K X nL k n pc L (.ref a :: S) h := by
  intro H locs ls hR hq hl
  have h1 := hF.fr; have h2 := hF.lo
  exact W.objInit hF.ex hF.co hF.ow (hF.ts _ hlk) (hF.ts _ oi_m.1) (hF.ts _ oi_m.2) rfl (hl.1.trans hF.ml.symm) rfl hd (by omega) (by show 2 * 0 + _ + 12 ≤ _; omega) (kk H locs ls hR hq hl)
end CA
