/-! THE START: the run's constants out of the Statement's premises. -/
def tmS (i : Nat) : Term := Term.string (strTab.getD i ("", 0, "")).1 (strTab.getD i ("", 0, "")).2.1
def FLT : List Cond := flatC (Jvm.Cond.and given_1 narrow_1)
def expS (i : Nat) : List Cond := [Cond.exactly (tmS i) "java/lang/String", Cond.eq (.field (tmS i) "java/lang/String" "coder" "B") (.int 0), Cond.arrayOf (.field (tmS i) "java/lang/String" "value" "[B") .byte, Cond.eq (.length (.field (tmS i) "java/lang/String" "value" "[B")) (.int (Int32.ofNat (strLen.getD i 0)))] ++ (List.range (strLen.getD i 0)).map (fun j => Cond.eq (.elem (.field (tmS i) "java/lang/String" "value" "[B") (.int (Int32.ofNat j))) (.int ((strByt.getD i []).getD j 0)))
theorem sub_in {F E : List Cond} (p n : Nat) (h : (F.drop p).take n = E) : ∀ w ∈ E, w ∈ F := fun w hw => List.mem_of_mem_drop (List.mem_of_mem_take (by rw [h]; exact hw))
theorem ssb_0 : (FLT.drop 54).take 57 = expS 0 := by decide +kernel
theorem ssb_1 : (FLT.drop 111).take 78 = expS 1 := by decide +kernel
theorem ssb_2 : (FLT.drop 190).take 8 = expS 2 := by decide +kernel
theorem ssb_3 : (FLT.drop 200).take 6 = expS 3 := by decide +kernel
theorem ssb_4 : (FLT.drop 209).take 7 = expS 4 := by decide +kernel
theorem ssb_5 : (FLT.drop 220).take 7 = expS 5 := by decide +kernel
theorem ssb_6 : (FLT.drop 232).take 8 = expS 6 := by decide +kernel
theorem ssb_7 : (FLT.drop 246).take 9 = expS 7 := by decide +kernel
theorem ssb_8 : (FLT.drop 262).take 9 = expS 8 := by decide +kernel
theorem ssb_9 : (FLT.drop 279).take 8 = expS 9 := by decide +kernel
theorem ssb_10 : (FLT.drop 296).take 8 = expS 10 := by decide +kernel
theorem ssb_11 : (FLT.drop 314).take 8 = expS 11 := by decide +kernel
theorem ssb_12 : (FLT.drop 333).take 9 = expS 12 := by decide +kernel
theorem ssb_13 : (FLT.drop 354).take 8 = expS 13 := by decide +kernel
theorem ssb_14 : (FLT.drop 375).take 8 = expS 14 := by decide +kernel
theorem ssb_15 : (FLT.drop 397).take 8 = expS 15 := by decide +kernel
theorem ssb_16 : (FLT.drop 420).take 11 = expS 16 := by decide +kernel
theorem ssb_17 : (FLT.drop 447).take 7 = expS 17 := by decide +kernel
theorem ssb_18 : (FLT.drop 471).take 8 = expS 18 := by decide +kernel
theorem ssb_19 : (FLT.drop 497).take 8 = expS 19 := by decide +kernel
theorem ssb_20 : (FLT.drop 524).take 8 = expS 20 := by decide +kernel
theorem ssb : ∀ i, i < 21 → ∀ w ∈ expS i, w ∈ FLT := by
  intro i hi
  match i, hi with
  | 0, _ => exact sub_in _ _ ssb_0
  | 1, _ => exact sub_in _ _ ssb_1
  | 2, _ => exact sub_in _ _ ssb_2
  | 3, _ => exact sub_in _ _ ssb_3
  | 4, _ => exact sub_in _ _ ssb_4
  | 5, _ => exact sub_in _ _ ssb_5
  | 6, _ => exact sub_in _ _ ssb_6
  | 7, _ => exact sub_in _ _ ssb_7
  | 8, _ => exact sub_in _ _ ssb_8
  | 9, _ => exact sub_in _ _ ssb_9
  | 10, _ => exact sub_in _ _ ssb_10
  | 11, _ => exact sub_in _ _ ssb_11
  | 12, _ => exact sub_in _ _ ssb_12
  | 13, _ => exact sub_in _ _ ssb_13
  | 14, _ => exact sub_in _ _ ssb_14
  | 15, _ => exact sub_in _ _ ssb_15
  | 16, _ => exact sub_in _ _ ssb_16
  | 17, _ => exact sub_in _ _ ssb_17
  | 18, _ => exact sub_in _ _ ssb_18
  | 19, _ => exact sub_in _ _ ssb_19
  | 20, _ => exact sub_in _ _ ssb_20
  | q + 21, h => exact absurd h (by omega)
theorem sne_1 : (FLT.drop 189).take 1 = (List.range 1).map (fun i => Cond.not (Cond.eq (tmS i) (tmS 1))) := by decide +kernel
theorem sne_2 : (FLT.drop 198).take 2 = (List.range 2).map (fun i => Cond.not (Cond.eq (tmS i) (tmS 2))) := by decide +kernel
theorem sne_3 : (FLT.drop 206).take 3 = (List.range 3).map (fun i => Cond.not (Cond.eq (tmS i) (tmS 3))) := by decide +kernel
theorem sne_4 : (FLT.drop 216).take 4 = (List.range 4).map (fun i => Cond.not (Cond.eq (tmS i) (tmS 4))) := by decide +kernel
theorem sne_5 : (FLT.drop 227).take 5 = (List.range 5).map (fun i => Cond.not (Cond.eq (tmS i) (tmS 5))) := by decide +kernel
theorem sne_6 : (FLT.drop 240).take 6 = (List.range 6).map (fun i => Cond.not (Cond.eq (tmS i) (tmS 6))) := by decide +kernel
theorem sne_7 : (FLT.drop 255).take 7 = (List.range 7).map (fun i => Cond.not (Cond.eq (tmS i) (tmS 7))) := by decide +kernel
theorem sne_8 : (FLT.drop 271).take 8 = (List.range 8).map (fun i => Cond.not (Cond.eq (tmS i) (tmS 8))) := by decide +kernel
theorem sne_9 : (FLT.drop 287).take 9 = (List.range 9).map (fun i => Cond.not (Cond.eq (tmS i) (tmS 9))) := by decide +kernel
theorem sne_10 : (FLT.drop 304).take 10 = (List.range 10).map (fun i => Cond.not (Cond.eq (tmS i) (tmS 10))) := by decide +kernel
theorem sne_11 : (FLT.drop 322).take 11 = (List.range 11).map (fun i => Cond.not (Cond.eq (tmS i) (tmS 11))) := by decide +kernel
theorem sne_12 : (FLT.drop 342).take 12 = (List.range 12).map (fun i => Cond.not (Cond.eq (tmS i) (tmS 12))) := by decide +kernel
theorem sne_13 : (FLT.drop 362).take 13 = (List.range 13).map (fun i => Cond.not (Cond.eq (tmS i) (tmS 13))) := by decide +kernel
theorem sne_14 : (FLT.drop 383).take 14 = (List.range 14).map (fun i => Cond.not (Cond.eq (tmS i) (tmS 14))) := by decide +kernel
theorem sne_15 : (FLT.drop 405).take 15 = (List.range 15).map (fun i => Cond.not (Cond.eq (tmS i) (tmS 15))) := by decide +kernel
theorem sne_16 : (FLT.drop 431).take 16 = (List.range 16).map (fun i => Cond.not (Cond.eq (tmS i) (tmS 16))) := by decide +kernel
theorem sne_17 : (FLT.drop 454).take 17 = (List.range 17).map (fun i => Cond.not (Cond.eq (tmS i) (tmS 17))) := by decide +kernel
theorem sne_18 : (FLT.drop 479).take 18 = (List.range 18).map (fun i => Cond.not (Cond.eq (tmS i) (tmS 18))) := by decide +kernel
theorem sne_19 : (FLT.drop 505).take 19 = (List.range 19).map (fun i => Cond.not (Cond.eq (tmS i) (tmS 19))) := by decide +kernel
theorem sne_20 : (FLT.drop 532).take 20 = (List.range 20).map (fun i => Cond.not (Cond.eq (tmS i) (tmS 20))) := by decide +kernel
theorem sne : ∀ j, j < 21 → ∀ i, i < j → Cond.not (Cond.eq (tmS i) (tmS j)) ∈ FLT := by
  intro j hj i hi
  match j, hj, hi with
  | 0, _, h => exact absurd h (Nat.not_lt_zero i)
  | 1, _, h => exact sub_in _ _ sne_1 _ (List.mem_map.mpr ⟨i, List.mem_range.mpr h, rfl⟩)
  | 2, _, h => exact sub_in _ _ sne_2 _ (List.mem_map.mpr ⟨i, List.mem_range.mpr h, rfl⟩)
  | 3, _, h => exact sub_in _ _ sne_3 _ (List.mem_map.mpr ⟨i, List.mem_range.mpr h, rfl⟩)
  | 4, _, h => exact sub_in _ _ sne_4 _ (List.mem_map.mpr ⟨i, List.mem_range.mpr h, rfl⟩)
  | 5, _, h => exact sub_in _ _ sne_5 _ (List.mem_map.mpr ⟨i, List.mem_range.mpr h, rfl⟩)
  | 6, _, h => exact sub_in _ _ sne_6 _ (List.mem_map.mpr ⟨i, List.mem_range.mpr h, rfl⟩)
  | 7, _, h => exact sub_in _ _ sne_7 _ (List.mem_map.mpr ⟨i, List.mem_range.mpr h, rfl⟩)
  | 8, _, h => exact sub_in _ _ sne_8 _ (List.mem_map.mpr ⟨i, List.mem_range.mpr h, rfl⟩)
  | 9, _, h => exact sub_in _ _ sne_9 _ (List.mem_map.mpr ⟨i, List.mem_range.mpr h, rfl⟩)
  | 10, _, h => exact sub_in _ _ sne_10 _ (List.mem_map.mpr ⟨i, List.mem_range.mpr h, rfl⟩)
  | 11, _, h => exact sub_in _ _ sne_11 _ (List.mem_map.mpr ⟨i, List.mem_range.mpr h, rfl⟩)
  | 12, _, h => exact sub_in _ _ sne_12 _ (List.mem_map.mpr ⟨i, List.mem_range.mpr h, rfl⟩)
  | 13, _, h => exact sub_in _ _ sne_13 _ (List.mem_map.mpr ⟨i, List.mem_range.mpr h, rfl⟩)
  | 14, _, h => exact sub_in _ _ sne_14 _ (List.mem_map.mpr ⟨i, List.mem_range.mpr h, rfl⟩)
  | 15, _, h => exact sub_in _ _ sne_15 _ (List.mem_map.mpr ⟨i, List.mem_range.mpr h, rfl⟩)
  | 16, _, h => exact sub_in _ _ sne_16 _ (List.mem_map.mpr ⟨i, List.mem_range.mpr h, rfl⟩)
  | 17, _, h => exact sub_in _ _ sne_17 _ (List.mem_map.mpr ⟨i, List.mem_range.mpr h, rfl⟩)
  | 18, _, h => exact sub_in _ _ sne_18 _ (List.mem_map.mpr ⟨i, List.mem_range.mpr h, rfl⟩)
  | 19, _, h => exact sub_in _ _ sne_19 _ (List.mem_map.mpr ⟨i, List.mem_range.mpr h, rfl⟩)
  | 20, _, h => exact sub_in _ _ sne_20 _ (List.mem_map.mpr ⟨i, List.mem_range.mpr h, rfl⟩)
  | q + 21, h, _ => exact absurd h (by omega)
