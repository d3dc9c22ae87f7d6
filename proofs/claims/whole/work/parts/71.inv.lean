/-! THE INVARIANT. w: the reference's row; W: a world's address; A: the class's address, B = A + 84 the reference's. -/
abbrev wF : Type := Nat → Int32
/-- a number up to m -/
def upTo (x : Int32) (m : Nat) : Prop := ∃ k, k ≤ m ∧ x = nI k
/-- none, or a number below m -/
def orNone (x : Int32) (m : Nat) : Prop := x = -1 ∨ ∃ k, k < m ∧ x = nI k
/-- PEOPLE in their ranges -/
def RgP (w : wF) (n : Nat) : Prop := n ≤ 12 ∧ w 9 = nI n ∧ ∀ p, p < n → upTo (w (90 + 8 * p)) 2 ∧ upTo (w (90 + 8 * p + 1)) 5 ∧ upTo (w (90 + 8 * p + 2)) 99 ∧ upTo (w (90 + 8 * p + 3)) 1000 ∧ upTo (w (90 + 8 * p + 4)) 4 ∧ orNone (w (90 + 8 * p + 6)) n ∧ (w (90 + 8 * p + 6) ≠ -1 → w (90 + 8 * p) = 1)
/-- DEBTS in their ranges -/
def RgD (w : wF) (n nd : Nat) : Prop := nd ≤ 40 ∧ w 10 = nI nd ∧ ∀ d, d < nd → (∃ k, k < n ∧ w (230 + 8 * d) = nI k) ∧ (∃ k, k < n ∧ w (230 + 8 * d + 1) = nI k) ∧ upTo (w (230 + 8 * d + 2)) 200 ∧ upTo (w (230 + 8 * d + 3)) 3 ∧ orNone (w (230 + 8 * d + 4)) n ∧ (∃ k, k < 2 ^ n ∧ w (230 + 8 * d + 5) = nI k) ∧ (w (230 + 8 * d + 2) ≠ 0 → w (230 + 8 * d) ≠ w (230 + 8 * d + 1))
/-- the rest in its ranges -/
def RgT (w : wF) (n : Nat) : Prop := (∀ t, t < 24 → upTo (w (20 + t)) 5) ∧ orNone (w 3) n ∧ upTo (w 5) 1000 ∧ upTo (w 6) 2 ∧ upTo (w 7) 99 ∧ upTo (w 8) 1 ∧ (∀ j, j < 36 → upTo (w (50 + j)) 99) ∧ upTo (w 2) 95
def Rg (w : wF) (n nd : Nat) : Prop := RgP w n ∧ RgD w n nd ∧ RgT w n
/-- a world's people, debts, town, time and counts as the row has them -/
def RcP (σ : Sig) (W : Nat) (w : wF) (n : Nat) : Prop := σ (W + 1) 0 = w 9 ∧ ∀ p, p < n → (∀ f, f < 7 → σ (W + 1 + (1 + f)) p = w (90 + 8 * p + f)) ∧ ∀ f, f < 3 → σ (W + 1 + (8 + f)) p = w (190 + 3 * p + f)
def RcD (σ : Sig) (W : Nat) (w : wF) (nd : Nat) : Prop := σ (W + 12) 0 = w 10 ∧ ∀ d, d < nd → ∀ f, f < 7 → σ (W + 12 + (1 + f)) d = w (230 + 8 * d + f)
def RcT (σ : Sig) (W : Nat) (w : wF) : Prop := (∀ j, j < 36 → σ (W + 23 + 1) j = w (50 + j)) ∧ (∀ t, t < 24 → σ (W + 23 + 2) t = w (20 + t)) ∧ σ (W + 23) 2 = w 3 ∧ σ (W + 23) 3 = w 4 ∧ σ (W + 23) 4 = w 5 ∧ σ (W + 23) 5 = w 6 ∧ σ (W + 23) 6 = w 8 ∧ σ (W + 26) 0 = w 0 ∧ σ (W + 26) 1 = w 1 ∧ σ (W + 26) 2 = w 2 ∧ σ (W + 26) 3 = w 7
def RcC (σ : Sig) (W : Nat) (w : wF) : Prop := σ (W + 33) 3 = w 12 ∧ σ (W + 33) 4 = w 13 ∧ σ (W + 33) 5 = w 14 ∧ σ (W + 33) 6 = w 15
def Rc (σ : Sig) (W : Nat) (w : wF) (n nd : Nat) : Prop := RcP σ W w n ∧ RcD σ W w nd ∧ RcT σ W w ∧ RcC σ W w
/-- THE BOOK, whole or none -/
def BkF (σ : Sig) (W : Nat) (w : wF) : Prop := σ (W + 33) 0 = 400 ∧ σ (W + 33) 2 = w 11 ∧ ∃ k, k ≤ 400 ∧ w 11 = nI k ∧ ∀ j, j < 5 * k → σ (W + 33 + 1) j = w (550 + j)
def BkN (σ : Sig) (W : Nat) : Prop := σ (W + 33) 0 = 0 ∧ σ (W + 33) 2 = 0
/-- a step of a text: the reference's (s, v) and the class's word c; law: is it a law's -/
def encV (law : Bool) (s : Nat) : Option Nat := if law then (match s with | 1 => some 0 | 2 => some 1 | 3 => some 2 | 4 => some 3 | 5 => some 4 | 6 => some 5 | _ => none) else (match s with | 3 => some 0 | 7 => some 1 | 8 => some 2 | 4 => some 3 | 5 => some 4 | 9 => some 5 | 10 => some 6 | 11 => some 7 | _ => none)
def enc (law : Bool) (s v : Nat) : Option Nat := if s = 0 then some (16 * v) else if s < 12 then (encV law s).map (fun i => 16 * i + 1) else if s = 15 then (if 1 ≤ v then some (16 * v + 5) else none) else (match s with | 12 => some 2 | 13 => some 3 | 14 => some 4 | 16 => some 6 | 17 => some 7 | 18 => some 8 | 19 => some 9 | 20 => some 10 | 21 => some 11 | _ => none)
/-- what a step does to the kinds of what lies on the pile (true: so or not) -/
def tyS (s : Nat) (T : List Bool) : Option (List Bool) := if s < 12 then (if T.length < 32 then some (false :: T) else none) else if s = 15 then (match T with | false :: T => some (false :: T) | _ => none) else if s = 19 then (match T with | true :: T => some (true :: T) | _ => none) else if s < 15 then (match T with | false :: false :: T => some (false :: T) | _ => none) else if s < 19 then (match T with | false :: false :: T => some (true :: T) | _ => none) else (match T with | true :: true :: T => some (true :: T) | _ => none)
def tyR (st : Nat → Nat) : Nat → Nat → List Bool → Option (List Bool)
  | 0, _, T => some T
  | m + 1, i, T => (tyS (st i) T).bind (tyR st m (i + 1))
/-- text k of the row: m lines, their steps from s l to s (l + 1); the class's Text at t says the same -/
def Txt (τ : Tau) (σ : Sig) (w : wF) (k t : Nat) : Prop := ∃ (m c : Nat) (s : Nat → Nat) (so sv : Nat → Nat), m ≤ 16 ∧ c ≤ 400 ∧ ShX7 τ t (m + 1) m c ∧ σ t 0 = nI m ∧ w (2550 + k) = nI m ∧ s 0 = 0 ∧ s m = c ∧ (∀ l, l ≤ m → σ (t + 1) l = nI (s l)) ∧ (∀ l, l < m → s l ≤ s (l + 1) ∧ w (2760 + 16 * k + l) = nI (s l) ∧ w (2860 + 16 * k + l) = nI (s (l + 1)) ∧ (s l = s (l + 1) ∨ tyR so (s (l + 1) - s l) (s l) [] = some [true]) ∧
    (if k < 2 then w (2560 + 16 * k + l) = 0 else ∃ q, q ≤ 99 ∧ w (2660 + 16 * k + l) = nI q ∧ ((w (2560 + 16 * k + l) = 1 ∧ σ (t + 2) l = nI (q + 1)) ∨ (w (2560 + 16 * k + l) = 2 ∧ σ (t + 2) l = nI (q + 101))) ∨ (w (2560 + 16 * k + l) = 3 ∧ σ (t + 2) l = 0))) ∧
    ∀ i, i < c → so i < 22 ∧ sv i ≤ 9999 ∧ w (2960 + 820 * k + 2 * i) = nI (so i) ∧ (so i = 0 ∨ so i = 15 → w (2960 + 820 * k + 2 * i + 1) = nI (sv i)) ∧ ∃ e, enc (decide (k < 2)) (so i) (sv i) = some e ∧ σ (t + 3) i = nI e
/-- where dynamic cells lie: apart from the fixed ones, below nx, apart from the kept world -/
def apart (A nx : Nat) (kp : Option Nat) (t len : Nat) : Prop := ((A + 1 ≤ t ∧ t + len ≤ A + 5) ∨ A + 95 ≤ t) ∧ t + len ≤ nx ∧ ∀ q, kp = some q → t + len ≤ q ∨ q + 35 ≤ t
def Txs (τ : Tau) (σ : Sig) (A nx : Nat) (kp : Option Nat) (W : Nat) (w : wF) : Prop := ∀ k, k < 6 → ∃ t, rcon τ (W + 29) k = some t ∧ apart A nx kp t 4 ∧ Txt τ σ w k t
/-- BARGAIN j of the row, and the class's at b: the debts in it, ds, in order -/
def Bar (τ : Tau) (σ : Sig) (w : wF) (n j b had : Nat) (sp : Bool) : Prop := ∃ (cap : Nat) (ds : List Nat), ShX0 τ b (6 * cap) ∧ ds.length ≤ cap ∧ σ b 4 = nI ds.length ∧ ds.Nodup ∧ had ≤ 40 ∧ w (7880 + 206 * j + 3) = nI had ∧ (∀ d ∈ ds, d < had ∨ (sp = true ∧ d = had)) ∧
    (∀ d, d < 40 → ((d ∈ ds) ↔ ((w (7880 + 206 * j + (if d < 20 then 4 else 5))) >>> (nI (d % 20) &&& 31)) &&& 1 = 1)) ∧ (if sp then had < 40 ∧ σ b 5 = nI had ∧ had ∈ ds else σ b 5 = -1 ∧ had ∉ ds) ∧
    (∀ i d, ds[i]? = some d → σ (b + 1) (6 * i) = nI d ∧ σ (b + 1) (6 * i + 5) = w (7880 + 206 * j + 166 + d) ∧ (d < had → (∀ f, f < 4 → σ (b + 1) (6 * i + 1 + f) = w (7880 + 206 * j + 6 + 4 * d + f)) ∧ (∃ k, k < n ∧ w (7880 + 206 * j + 6 + 4 * d) = nI k) ∧ (∃ k, k < n ∧ w (7880 + 206 * j + 6 + 4 * d + 1) = nI k) ∧ orNone (w (7880 + 206 * j + 6 + 4 * d + 2)) n ∧ upTo (w (7880 + 206 * j + 6 + 4 * d + 3)) 200 ∧ w (7880 + 206 * j + 6 + 4 * d) ≠ w (7880 + 206 * j + 6 + 4 * d + 1))) ∧
    ((∃ p q, p < n ∧ q < n ∧ w (7880 + 206 * j) = nI p ∧ w (7880 + 206 * j + 1) = nI q ∧ σ b 0 = nI p ∧ σ b 1 = nI q ∧ σ b 2 = w (7880 + 206 * j + 2)) ∨ ((w (7880 + 206 * j) = -1 ∨ w (7880 + 206 * j + 1) = -1) ∧ σ b 1 = -1))
def one? (b : Bool) : Nat := if b then 1 else 0
def Brs (τ : Tau) (σ : Sig) (A nx : Nat) (kp : Option Nat) (W : Nat) (w : wF) (n nd : Nat) : Prop := ∃ (m : Nat) (hd : Nat → Nat) (sp : Nat → Bool), m ≤ 60 ∧ σ (W + 27) 0 = nI m ∧ w 16 = nI m ∧ (∀ j, j + 1 < m → hd j + one? (sp j) ≤ hd (j + 1)) ∧ (∀ j, j < m → hd j + one? (sp j) ≤ nd) ∧ ∀ j, j < m → ∃ b, rcon τ (W + 27 + 1) j = some b ∧ apart A nx kp b 2 ∧ A + 95 ≤ b ∧ Bar τ σ w n j b (hd j) (sp j)
/-- counts that are not too great -/
def Few (b : Nat) (w : wF) : Prop := upTo (w 12) b ∧ upTo (w 13) b
/-- a world and a row -/
def Wd (b : Nat) (τ : Tau) (σ : Sig) (A nx : Nat) (kp : Option Nat) (W : Nat) (w : wF) : Prop := ∃ n nd, Rg w n nd ∧ Rc σ W w n nd ∧ BkF σ W w ∧ Txs τ σ A nx kp W w ∧ Brs τ σ A nx kp W w n nd ∧ Few b w
/-- the cells of all bargains that a world has ever kept are bargains -/
def ObR (τ : Tau) (W : Nat) : Prop := ∀ j, j < 60 → isOb τ 0 (rcon τ (W + 27 + 1) j) = true
/-- the TAPE -/
def Tpe (σ : Sig) (A B : Nat) : Prop := ∃ k, k ≤ 400 ∧ σ (A + 75) 1 = nI k ∧ σ B 12 = nI k ∧ ∀ j, j < k → σ (A + 75 + 1) j = σ (B + 6) j ∧ upTo (σ (B + 6) j) 255
def Inv (A b : Nat) (h : Hp) : Prop := ShX11 h.1 A ∧ ShX12 h.1 (A + 84) ∧ A + 95 ≤ h.2.2 ∧ ((∀ a, h.2.2 ≤ a → h.1 a = none) ∧ ObR h.1 (A + 5) ∧ h.2.1 (A + 79) 0 = 0) ∧ Wd b h.1 h.2.1 A h.2.2 (rfld h.1 A 2) (A + 5) (h.2.1 (A + 84 + 1)) ∧ BkN h.2.1 (A + 40) ∧ Tpe h.2.1 A (A + 84) ∧ h.2.1 (A + 77) 0 = h.2.1 (A + 84) 19 ∧ h.2.1 (A + 77) 1 = h.2.1 (A + 84) 21 ∧
  (match rfld h.1 A 2 with | none => h.2.1 (A + 84) 3 = 0 | some q => h.2.1 (A + 84) 3 = 1 ∧ A + 95 ≤ q ∧ q + 35 ≤ h.2.2 ∧ (ShX10 h.1 q 2000 ∧ ObR h.1 q ∧ h.2.1 (q + 33) 0 = 400) ∧ Wd b h.1 h.2.1 A h.2.2 (some q) q (h.2.1 (A + 84 + 2)))
