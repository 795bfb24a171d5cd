/-! the law's start -/
def tmS (i : Nat) : Term := (sWho.map fun q => Term.string q.1 q.2.1).getD i (.int 0)
def flw : List Cond := flatC (Jvm.Cond.and given_1 narrow_1)
def ixE : List Nat := [30, 75, 85, 97, 109, 119, 131, 144, 161, 176, 195, 215, 235]
def ixP : List (List Nat) := [[0, 84, 95, 106, 115, 126, 138, 154, 168, 186, 205, 224, 244], [84, 0, 96, 107, 116, 127, 139, 155, 169, 187, 206, 225, 245], [95, 96, 0, 108, 117, 128, 140, 156, 170, 188, 207, 226, 246], [106, 107, 108, 0, 118, 129, 141, 157, 171, 189, 208, 227, 247], [115, 116, 117, 118, 0, 130, 142, 158, 172, 190, 209, 228, 248], [126, 127, 128, 129, 130, 0, 143, 159, 173, 191, 210, 229, 249], [138, 139, 140, 141, 142, 143, 0, 160, 174, 192, 211, 230, 250], [154, 155, 156, 157, 158, 159, 160, 0, 175, 193, 212, 231, 251], [168, 169, 170, 171, 172, 173, 174, 175, 0, 194, 213, 232, 252], [186, 187, 188, 189, 190, 191, 192, 193, 194, 0, 214, 233, 253], [205, 206, 207, 208, 209, 210, 211, 212, 213, 214, 0, 234, 254], [224, 225, 226, 227, 228, 229, 230, 231, 232, 233, 234, 0, 255], [244, 245, 246, 247, 248, 249, 250, 251, 252, 253, 254, 255, 0]]
def ixR : List Nat := [171, 247, 252, 253, 254, 255, 256, 257, 258, 259, 260, 261, 262]
theorem fl_ex : ∀ i, i < 13 → flw[ixE.getD i 0]? = some (Cond.exactly (tmS i) "java/lang/String") := by decide +kernel
theorem fl_co : ∀ i, i < 13 → flw[ixE.getD i 0 + 1]? = some (Cond.eq (.field (tmS i) "java/lang/String" "coder" "B") (.int 0)) := by decide +kernel
theorem fl_ar : ∀ i, i < 13 → flw[ixE.getD i 0 + 2]? = some (Cond.arrayOf (.field (tmS i) "java/lang/String" "value" "[B") .byte) := by decide +kernel
theorem fl_le : ∀ i, i < 13 → flw[ixE.getD i 0 + 3]? = some (Cond.eq (.length (.field (tmS i) "java/lang/String" "value" "[B")) (.int (Int32.ofNat (sLen.getD i 0)))) := by decide +kernel
theorem fl_el : ∀ i, i < 13 → ∀ j, j < sLen.getD i 0 → flw[ixE.getD i 0 + 4 + j]? = some (Cond.eq (.elem (.field (tmS i) "java/lang/String" "value" "[B") (.int (Int32.ofNat j))) (.int ((sByt.getD i []).getD j 0))) := by decide +kernel
theorem fl_ne : ∀ i, i < 13 → ∀ j, j < 13 → i ≠ j → flw[(ixP.getD i []).getD j 0]? = some (Cond.not (Cond.eq (tmS i) (tmS j))) ∨ flw[(ixP.getD i []).getD j 0]? = some (Cond.not (Cond.eq (tmS j) (tmS i))) := by decide +kernel
theorem fl_cs : flw[4]? = some (Cond.eq (.static "java/lang/String" "COMPACT_STRINGS" "Z") (.int 1)) := by decide +kernel
theorem fl_si : flw[5]? = some (Cond.isRef (.static "jdk/internal/util/Preconditions" "SIOOBE_FORMATTER" "Ljava/util/function/BiFunction;")) := by decide +kernel
theorem tb_sr : ∀ i, i < 13 → (sWho[i]?).map (fun q => Cond.stringRef q.1 q.2.1 q.2.2.1) = lw_tbl[ixR.getD i 0]? := by decide +kernel
theorem tb_tm : ∀ i, i < 13 → (sWho[i]?).map (fun q => Term.string q.1 q.2.1) = some (tmS i) := by decide +kernel
theorem tb_nw : ∀ q ∈ nest7, Cond.methodLinkNest q.1 q.2.1 q.2.2 RX5 ∈ lw_tbl := List.forall_mem_cons.mpr ⟨(List.mem_of_getElem? (i := 113) (by decide +kernel)), List.forall_mem_cons.mpr ⟨(List.mem_of_getElem? (i := 137) (by decide +kernel)), List.forall_mem_cons.mpr ⟨(List.mem_of_getElem? (i := 327) (by decide +kernel)), List.forall_mem_cons.mpr ⟨(List.mem_of_getElem? (i := 396) (by decide +kernel)), List.forall_mem_cons.mpr ⟨(List.mem_of_getElem? (i := 478) (by decide +kernel)), List.forall_mem_cons.mpr ⟨(List.mem_of_getElem? (i := 529) (by decide +kernel)), List.forall_mem_cons.mpr ⟨(List.mem_of_getElem? (i := 711) (by decide +kernel)), fun _ h => absurd h List.not_mem_nil⟩⟩⟩⟩⟩⟩⟩
theorem arr_word {s : State} {args : Array Value} {ty : FieldType} (hty : ∀ C, ty ≠ .object C) (h : (Cond.arrayClass ty).before args s = true) : ∃ cA, ArrOfT s cA ty ∧ va_RA s cA ty := by
  obtain ⟨c, k, comp, h1, h2, h3⟩ := Cond.arrayClass_spec h
  refine ⟨c, fun n z => ⟨fun k h => (by cases h), k, h2, comp, h3⟩, ?_⟩
  cases ty with
  | object C => exact absurd rfl (hty C)
  | _ => exact h1
theorem over_word {s : State} {args : Array Value} {C : String} (h : (Cond.arrayOver (.object C)).before args s = true) : ∃ cA, ArrOfT s cA (.object C) ∧ va_RA s cA (.object C) := by
  obtain ⟨comp, c, k, h1, h2, h3, h4, h5⟩ := Cond.arrayOver_spec h
  exact ⟨c, fun n z => ⟨fun k h => (by cases h), k, h3, comp, h4⟩, k, comp, h3, h4, h1, h5⟩
/-- all that stands at the law's entry -/
theorem start_B {s : State} {args : Array Value} (hts : ∀ w ∈ lw_tbl, w.before args s = true) (hgv : (Jvm.Cond.and given_1 narrow_1).before args s = true) : ∃ B : BX, va_K B.1 cls7 (tyk B.2.1) s ∧ SF B (fun q => s.heap.size ≤ q) s s.heap ∧ AO3 s := by
  have hf := flat_of_before _ hgv
  have hg : ∀ (i : Nat) (w : Cond), flw[i]? = some w → w.before args s = true := fun i w h => hf w (List.mem_of_getElem? h)
  have hA : ∀ a : Nat, a < s.heap.size → ¬ (fun q => s.heap.size ≤ q) a := fun a h => Nat.not_le.mpr h
  obtain ⟨c0, i0, k0⟩ := u_known (C := RX0) (T := TX0) (N := 10) (n := 10) hts (fun w hw => gd_in (ginX0 w hw)) (hts (.instantiable RX0 10) (List.mem_of_getElem? (i := 347) (by decide +kernel)))
  obtain ⟨c1, i1, k1⟩ := u_known (C := RX1) (T := TX1) (N := 9) (n := 9) hts (fun w hw => gd_in (ginX1 w hw)) (hts (.instantiable RX1 9) (List.mem_of_getElem? (i := 136) (by decide +kernel)))
  obtain ⟨c2, i2, k2⟩ := u_known (C := RX2) (T := TX2) (N := 3) (n := 3) hts (fun w hw => gd_in (ginX2 w hw)) (hts (.instantiable RX2 3) (List.mem_of_getElem? (i := 395) (by decide +kernel)))
  obtain ⟨c3, i3, k3⟩ := u_known (C := RX3) (T := TX3) (N := 2) (n := 2) hts (fun w hw => gd_in (ginX3 w hw)) (hts (.instantiable RX3 2) (List.mem_of_getElem? (i := 322) (by decide +kernel)))
  obtain ⟨c4, i4, k4⟩ := u_known (C := RX4) (T := TX4) (N := 4) (n := 4) hts (fun w hw => gd_in (ginX4 w hw)) (hts (.instantiable RX4 4) (List.mem_of_getElem? (i := 112) (by decide +kernel)))
  obtain ⟨c5, i5, k5⟩ := u_known (C := RX5) (T := TX5) (N := 8) (n := 8) hts (fun w hw => gd_in (ginX5 w hw)) (hts (.instantiable RX5 8) (List.mem_of_getElem? (i := 104) (by decide +kernel)))
  obtain ⟨c6, i6, k6⟩ := u_known (C := RX6) (T := TX6) (N := 41) (n := 41) hts (fun w hw => gd_in (ginX6 w hw)) (hts (.instantiable RX6 41) (List.mem_of_getElem? (i := 780) (by decide +kernel)))
  obtain ⟨a0, r0⟩ := arr_word (fun _ h => by cases h) (hts (.arrayClass .int) (List.mem_of_getElem? (i := 134) (by decide +kernel)))
  obtain ⟨a1, r1⟩ := arr_word (fun _ h => by cases h) (hts (.arrayClass .boolean) (List.mem_of_getElem? (i := 912) (by decide +kernel)))
  have w2 := hts (.arrayOver (.object RX0)) (List.mem_of_getElem? (i := 392) (by decide +kernel))
  have w3 := hts (.arrayOver (.object RX2)) (List.mem_of_getElem? (i := 394) (by decide +kernel))
  have w4 := hts (.arrayOver (.object RX3)) (List.mem_of_getElem? (i := 118) (by decide +kernel))
  obtain ⟨a2, r2⟩ := over_word w2
  obtain ⟨a3, r3⟩ := over_word w3
  obtain ⟨a4, r4⟩ := over_word w4
  obtain ⟨adK, adV, hS, hT⟩ := vk_Sof (N := 13) (tm := tmS) (len := sLen) (byt := sByt) (A := fun q => s.heap.size ≤ q) sLen_small (fun i hi => hg _ _ (fl_ex i hi)) (fun i hi => hg _ _ (fl_co i hi)) (fun i hi => hg _ _ (fl_ar i hi)) (fun i hi => hg _ _ (fl_le i hi)) (fun i hi j hj => hg _ _ (fl_el i hi j hj)) (fun i j hi hj hn => (fl_ne i hi j hj hn).imp (hg _ _) (hg _ _)) hA
  refine ⟨((fun k => match k with | 0 => c0 | 1 => c1 | 2 => c2 | 3 => c3 | 4 => c4 | 5 => c5 | _ => c6, fun k => match k with | 0 => i0 | 1 => i1 | 2 => i2 | 3 => i3 | 4 => i4 | 5 => i5 | _ => i6), fun k => match k with | 0 => a0 | 1 => a1 | 2 => a2 | 3 => a3 | _ => a4, adK, adV), ⟨fun k q hq => ?_, fun k q hq => ?_⟩, ⟨hS, fun i q hq => ?_, va_Zof (hts (.laysStatic "java/lang/String" "COMPACT_STRINGS" "Z") (List.mem_of_getElem? (i := 185) (by decide +kernel))) (hts (.initialized "java/lang/String") (List.mem_of_getElem? (i := 92) (by decide +kernel))) (va_eqi (hg _ _ fl_cs)) hA, va_Zqof (hts (.laysStatic "jdk/internal/util/Preconditions" "SIOOBE_FORMATTER" "Ljava/util/function/BiFunction;") (List.mem_of_getElem? (i := 201) (by decide +kernel))) (hts (.initialized "jdk/internal/util/Preconditions") (List.mem_of_getElem? (i := 94) (by decide +kernel))) (hg _ _ fl_si) hA, fun q hq => va_Nw.of rfl (hts _ (tb_nw q hq))⟩, va_AO.of w4, va_AO.of w2, va_AO.of w3⟩
  · match k, hq with
    | 0, hq => cases hq; exact k0
    | 1, hq => cases hq; exact k1
    | 2, hq => cases hq; exact k2
    | 3, hq => cases hq; exact k3
    | 4, hq => cases hq; exact k4
    | 5, hq => cases hq; exact k5
    | 6, hq => cases hq; exact k6
    | k + 7, hq => simp [cls7] at hq
  · match k, hq with
    | 0, hq => cases hq; exact r0
    | 1, hq => cases hq; exact r1
    | 2, hq => cases hq; exact r2
    | 3, hq => cases hq; exact r3
    | 4, hq => cases hq; exact r4
    | k + 5, hq => simp [tyk] at hq
  · have hi : i < 13 := (List.getElem?_eq_some_iff.mp hq).1
    have h1 := tb_sr i hi
    have h2 := tb_tm i hi
    rw [hq] at h1 h2
    have h3 : Term.string q.1 q.2.1 = tmS i := Option.some.inj h2
    refine vk_R.of (A := args) (hts _ (List.mem_of_getElem? h1.symm)) ?_
    rw [h3]
    exact hT i hi
