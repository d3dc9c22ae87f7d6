/-! Math.max, Math.min. -/
def mmax (x y : Int32) : Int32 := if x < y then y else x
def mmin (x y : Int32) : Int32 := if y < x then y else x
theorem mm_w : Cond.static Lib.Math.max.name ∈ gtb ∧ Cond.initialized "java/lang/Math" ∈ gtb ∧ Cond.code Lib.Math.max.name Lib.Math.max.code 2 (some .int) ∈ gtb ∧ Cond.static Lib.Math.min.name ∈ gtb ∧ Cond.code Lib.Math.min.name Lib.Math.min.code 2 (some .int) ∈ gtb := by decide +kernel
theorem g_mmax {K : Kt} {X : Cx} {cc : ByteArray} {nL : Nat} {own : String} {D mc ms k n pc idx : Nat} {L : Lo} {S : List Value} {h : Hp} {x y : Int32} (hF : Fx K X cc nL own D mc ms) (hlk : Cond.methodLink own idx Lib.Math.max.name ∈ gtb) (hd : decode cc pc = .ok (.invokestatic idx, 3)) (hD : 1 ≤ D) (hS : (S.map fun v => v.category).sum ≤ 8) (hc : k ≤ mc) (hs : n ≤ ms) (kk : G K X nL k n (pc + 3) L (.int (mmax x y) :: S) h) : G K X nL k n pc L (.int y :: .int x :: S) h := by
  intro H locs ls hR hq hl
  have h1 := hF.fr; have h2 := hF.lo; have h3 := hF.ce; have h4 := hF.sl
  exact va_mmax hF.ex hF.co (hF.ml.trans hl.1.symm) hF.ow (hF.ts _ hlk) (hF.ts _ mm_w.1) (hF.ts _ mm_w.2.1) (hF.ts _ mm_w.2.2.1) (by omega) (by omega) (by omega) (by omega) hd (kk H locs ls hR hq hl)
theorem g_mmin {K : Kt} {X : Cx} {cc : ByteArray} {nL : Nat} {own : String} {D mc ms k n pc idx : Nat} {L : Lo} {S : List Value} {h : Hp} {x y : Int32} (hF : Fx K X cc nL own D mc ms) (hlk : Cond.methodLink own idx Lib.Math.min.name ∈ gtb) (hd : decode cc pc = .ok (.invokestatic idx, 3)) (hD : 1 ≤ D) (hS : (S.map fun v => v.category).sum ≤ 8) (hc : k ≤ mc) (hs : n ≤ ms) (kk : G K X nL k n (pc + 3) L (.int (mmin x y) :: S) h) : G K X nL k n pc L (.int y :: .int x :: S) h := by
  intro H locs ls hR hq hl
  have h1 := hF.fr; have h2 := hF.lo; have h3 := hF.ce; have h4 := hF.sl
  exact va_mmin hF.ex hF.co (hF.ml.trans hl.1.symm) hF.ow (hF.ts _ hlk) (hF.ts _ mm_w.2.2.2.1) (hF.ts _ mm_w.2.1) (hF.ts _ mm_w.2.2.2.2) (by omega) (by omega) (by omega) (by omega) hd (kk H locs ls hR hq hl)
