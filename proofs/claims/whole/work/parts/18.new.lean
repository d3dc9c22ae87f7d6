/-! The shapes of new objects. -/
def rsX0 : List (Option (Option Nat)) := [none, none, none, some none, none, none]
theorem dvX0 : ∀ j, j < 6 → defaultValue (tyX0 j) = (match rsX0.getD j none with | none => .int 0 | some x => va_rf x) := by
  intro j hj
  match j, hj with
  | 0, _ => rfl
  | 1, _ => rfl
  | 2, _ => rfl
  | 3, _ => rfl
  | 4, _ => rfl
  | 5, _ => rfl
  | q + 6, h => exact absurd h (by omega)
def rsX1 : List (Option (Option Nat)) := [none, some none]
theorem dvX1 : ∀ j, j < 2 → defaultValue (tyX1 j) = (match rsX1.getD j none with | none => .int 0 | some x => va_rf x) := by
  intro j hj
  match j, hj with
  | 0, _ => rfl
  | 1, _ => rfl
  | q + 2, h => exact absurd h (by omega)
def rsX2 : List (Option (Option Nat)) := [none, some none, none, none, none, none, none]
theorem dvX2 : ∀ j, j < 7 → defaultValue (tyX2 j) = (match rsX2.getD j none with | none => .int 0 | some x => va_rf x) := by
  intro j hj
  match j, hj with
  | 0, _ => rfl
  | 1, _ => rfl
  | 2, _ => rfl
  | 3, _ => rfl
  | 4, _ => rfl
  | 5, _ => rfl
  | 6, _ => rfl
  | q + 7, h => exact absurd h (by omega)
def rsX3 : List (Option (Option Nat)) := [none, some none, some none, some none, some none, some none, some none, some none, some none, some none, some none]
theorem dvX3 : ∀ j, j < 11 → defaultValue (tyX3 j) = (match rsX3.getD j none with | none => .int 0 | some x => va_rf x) := by
  intro j hj
  match j, hj with
  | 0, _ => rfl
  | 1, _ => rfl
  | 2, _ => rfl
  | 3, _ => rfl
  | 4, _ => rfl
  | 5, _ => rfl
  | 6, _ => rfl
  | 7, _ => rfl
  | 8, _ => rfl
  | 9, _ => rfl
  | 10, _ => rfl
  | q + 11, h => exact absurd h (by omega)
def rsX4 : List (Option (Option Nat)) := [none, some none, some none, some none, some none, some none, some none, some none, some none, some none, some none]
theorem dvX4 : ∀ j, j < 11 → defaultValue (tyX4 j) = (match rsX4.getD j none with | none => .int 0 | some x => va_rf x) := by
  intro j hj
  match j, hj with
  | 0, _ => rfl
  | 1, _ => rfl
  | 2, _ => rfl
  | 3, _ => rfl
  | 4, _ => rfl
  | 5, _ => rfl
  | 6, _ => rfl
  | 7, _ => rfl
  | 8, _ => rfl
  | 9, _ => rfl
  | 10, _ => rfl
  | q + 11, h => exact absurd h (by omega)
def rsX5 : List (Option (Option Nat)) := [none, none, none, none, none, some none, some none, some none, some none, some none, some none, none, none]
theorem dvX5 : ∀ j, j < 13 → defaultValue (tyX5 j) = (match rsX5.getD j none with | none => .int 0 | some x => va_rf x) := by
  intro j hj
  match j, hj with
  | 0, _ => rfl
  | 1, _ => rfl
  | 2, _ => rfl
  | 3, _ => rfl
  | 4, _ => rfl
  | 5, _ => rfl
  | 6, _ => rfl
  | 7, _ => rfl
  | 8, _ => rfl
  | 9, _ => rfl
  | 10, _ => rfl
  | 11, _ => rfl
  | 12, _ => rfl
  | q + 13, h => exact absurd h (by omega)
def rsX6 : List (Option (Option Nat)) := [some none, none]
theorem dvX6 : ∀ j, j < 2 → defaultValue (tyX6 j) = (match rsX6.getD j none with | none => .int 0 | some x => va_rf x) := by
  intro j hj
  match j, hj with
  | 0, _ => rfl
  | 1, _ => rfl
  | q + 2, h => exact absurd h (by omega)
def rsX7 : List (Option (Option Nat)) := [none, some none, some none, some none]
theorem dvX7 : ∀ j, j < 4 → defaultValue (tyX7 j) = (match rsX7.getD j none with | none => .int 0 | some x => va_rf x) := by
  intro j hj
  match j, hj with
  | 0, _ => rfl
  | 1, _ => rfl
  | 2, _ => rfl
  | 3, _ => rfl
  | q + 4, h => exact absurd h (by omega)
def rsX8 : List (Option (Option Nat)) := [none, none, none, none]
theorem dvX8 : ∀ j, j < 4 → defaultValue (tyX8 j) = (match rsX8.getD j none with | none => .int 0 | some x => va_rf x) := by
  intro j hj
  match j, hj with
  | 0, _ => rfl
  | 1, _ => rfl
  | 2, _ => rfl
  | 3, _ => rfl
  | q + 4, h => exact absurd h (by omega)
def rsX9 : List (Option (Option Nat)) := [some none, some none, none, none, none, none, none]
theorem dvX9 : ∀ j, j < 7 → defaultValue (tyX9 j) = (match rsX9.getD j none with | none => .int 0 | some x => va_rf x) := by
  intro j hj
  match j, hj with
  | 0, _ => rfl
  | 1, _ => rfl
  | 2, _ => rfl
  | 3, _ => rfl
  | 4, _ => rfl
  | 5, _ => rfl
  | 6, _ => rfl
  | q + 7, h => exact absurd h (by omega)
def rsX10 : List (Option (Option Nat)) := [some none, some none, some none, some none, some none, some none, some none, some none, some none, some none]
theorem dvX10 : ∀ j, j < 10 → defaultValue (tyX10 j) = (match rsX10.getD j none with | none => .int 0 | some x => va_rf x) := by
  intro j hj
  match j, hj with
  | 0, _ => rfl
  | 1, _ => rfl
  | 2, _ => rfl
  | 3, _ => rfl
  | 4, _ => rfl
  | 5, _ => rfl
  | 6, _ => rfl
  | 7, _ => rfl
  | 8, _ => rfl
  | 9, _ => rfl
  | q + 10, h => exact absurd h (by omega)
def rsX11 : List (Option (Option Nat)) := [some none, some none, some none, some none, some none]
theorem dvX11 : ∀ j, j < 5 → defaultValue (tyX11 j) = (match rsX11.getD j none with | none => .int 0 | some x => va_rf x) := by
  intro j hj
  match j, hj with
  | 0, _ => rfl
  | 1, _ => rfl
  | 2, _ => rfl
  | 3, _ => rfl
  | 4, _ => rfl
  | q + 5, h => exact absurd h (by omega)
def rsX12 : List (Option (Option Nat)) := [some none, some none, some none, none, some none, some none, some none, some none, some none, none, none, none, none, none, none, none, none, none, none, none, none, none, none, some none, some none]
theorem dvX12 : ∀ j, j < 25 → defaultValue (tyX12 j) = (match rsX12.getD j none with | none => .int 0 | some x => va_rf x) := by
  intro j hj
  match j, hj with
  | 0, _ => rfl
  | 1, _ => rfl
  | 2, _ => rfl
  | 3, _ => rfl
  | 4, _ => rfl
  | 5, _ => rfl
  | 6, _ => rfl
  | 7, _ => rfl
  | 8, _ => rfl
  | 9, _ => rfl
  | 10, _ => rfl
  | 11, _ => rfl
  | 12, _ => rfl
  | 13, _ => rfl
  | 14, _ => rfl
  | 15, _ => rfl
  | 16, _ => rfl
  | 17, _ => rfl
  | 18, _ => rfl
  | 19, _ => rfl
  | 20, _ => rfl
  | 21, _ => rfl
  | 22, _ => rfl
  | 23, _ => rfl
  | 24, _ => rfl
  | q + 25, h => exact absurd h (by omega)
