def w_PM : Nat → Nat → S0 → (Int32 → S0 → Prop) → Prop
  | 0, _, _, _ => False
  | d + 1, i, M, Q => match i with
    | 0 => w6_atom_body (w_PM d)  M  Q
    | 1 => w6_term_body (w_PM d)  M  Q
    | 2 => w6_added_body (w_PM d)  M  Q
    | 3 => w6_not_body (w_PM d)  M  Q
    | 4 => w6_both_body (w_PM d)  M  Q
    | _ => w6_either_body (w_PM d)  M  Q
theorem c_PM {B : BX} {a : Nat → Nat} : ∀ d : Nat, (∀ (M : S0) (Q : Int32 → S0 → Prop), w_PM d 0  M  Q → KI B (wl 12 a (shM B.2.1 a)) yX6_atom cX6_atom 2 (some .int) (4 + d) (91 + 23 * d) [.ref (a 0)] M Q) ∧ (∀ (M : S0) (Q : Int32 → S0 → Prop), w_PM d 1  M  Q → KI B (wl 12 a (shM B.2.1 a)) yX6_term cX6_term 2 (some .int) (4 + d) (91 + 23 * d) [.ref (a 0)] M Q) ∧ (∀ (M : S0) (Q : Int32 → S0 → Prop), w_PM d 2  M  Q → KI B (wl 12 a (shM B.2.1 a)) yX6_added cX6_added 4 (some .int) (4 + d) (91 + 23 * d) [.ref (a 0)] M Q) ∧ (∀ (M : S0) (Q : Int32 → S0 → Prop), w_PM d 3  M  Q → KI B (wl 12 a (shM B.2.1 a)) yX6_not cX6_not 4 (some .int) (4 + d) (91 + 23 * d) [.ref (a 0)] M Q) ∧ (∀ (M : S0) (Q : Int32 → S0 → Prop), w_PM d 4  M  Q → KI B (wl 12 a (shM B.2.1 a)) yX6_both cX6_both 3 (some .int) (4 + d) (91 + 23 * d) [.ref (a 0)] M Q) ∧ (∀ (M : S0) (Q : Int32 → S0 → Prop), w_PM d 5  M  Q → KI B (wl 12 a (shM B.2.1 a)) yX6_either cX6_either 3 (some .int) (4 + d) (91 + 23 * d) [.ref (a 0)] M Q) := by
  intro d
  induction d with
  | zero => exact ⟨fun _ _  h => h.elim, fun _ _  h => h.elim, fun _ _  h => h.elim, fun _ _  h => h.elim, fun _ _  h => h.elim, fun _ _  h => h.elim⟩
  | succ d ih =>
    exact ⟨fun M Q  h => c6_atom_body (frr := 4 + d) (loo := 91 + 23 * d)  ih.1 ih.2.1 ih.2.2.1 ih.2.2.2.1 ih.2.2.2.2.1 ih.2.2.2.2.2 (by omega) (by omega) h, fun M Q  h => c6_term_body (frr := 4 + d) (loo := 91 + 23 * d)  ih.1 ih.2.1 ih.2.2.1 ih.2.2.2.1 ih.2.2.2.2.1 ih.2.2.2.2.2 (by omega) (by omega) h, fun M Q  h => c6_added_body (frr := 4 + d) (loo := 91 + 23 * d)  ih.1 ih.2.1 ih.2.2.1 ih.2.2.2.1 ih.2.2.2.2.1 ih.2.2.2.2.2 (by omega) (by omega) h, fun M Q  h => c6_not_body (frr := 4 + d) (loo := 91 + 23 * d)  ih.1 ih.2.1 ih.2.2.1 ih.2.2.2.1 ih.2.2.2.2.1 ih.2.2.2.2.2 (by omega) (by omega) h, fun M Q  h => c6_both_body (frr := 4 + d) (loo := 91 + 23 * d)  ih.1 ih.2.1 ih.2.2.1 ih.2.2.2.1 ih.2.2.2.2.1 ih.2.2.2.2.2 (by omega) (by omega) h, fun M Q  h => c6_either_body (frr := 4 + d) (loo := 91 + 23 * d)  ih.1 ih.2.1 ih.2.2.1 ih.2.2.2.1 ih.2.2.2.2.1 ih.2.2.2.2.2 (by omega) (by omega) h⟩
theorem c6_atom {B : BX} {a : Nat → Nat} (d : Nat) {M : S0} {Q : Int32 → S0 → Prop} (h : w_PM d 0  M  Q) : KI B (wl 12 a (shM B.2.1 a)) yX6_atom cX6_atom 2 (some .int) (4 + d) (91 + 23 * d) [.ref (a 0)] M Q := (c_PM d).1 _ _  h
theorem c6_term {B : BX} {a : Nat → Nat} (d : Nat) {M : S0} {Q : Int32 → S0 → Prop} (h : w_PM d 1  M  Q) : KI B (wl 12 a (shM B.2.1 a)) yX6_term cX6_term 2 (some .int) (4 + d) (91 + 23 * d) [.ref (a 0)] M Q := (c_PM d).2.1 _ _  h
theorem c6_added {B : BX} {a : Nat → Nat} (d : Nat) {M : S0} {Q : Int32 → S0 → Prop} (h : w_PM d 2  M  Q) : KI B (wl 12 a (shM B.2.1 a)) yX6_added cX6_added 4 (some .int) (4 + d) (91 + 23 * d) [.ref (a 0)] M Q := (c_PM d).2.2.1 _ _  h
theorem c6_not {B : BX} {a : Nat → Nat} (d : Nat) {M : S0} {Q : Int32 → S0 → Prop} (h : w_PM d 3  M  Q) : KI B (wl 12 a (shM B.2.1 a)) yX6_not cX6_not 4 (some .int) (4 + d) (91 + 23 * d) [.ref (a 0)] M Q := (c_PM d).2.2.2.1 _ _  h
theorem c6_both {B : BX} {a : Nat → Nat} (d : Nat) {M : S0} {Q : Int32 → S0 → Prop} (h : w_PM d 4  M  Q) : KI B (wl 12 a (shM B.2.1 a)) yX6_both cX6_both 3 (some .int) (4 + d) (91 + 23 * d) [.ref (a 0)] M Q := (c_PM d).2.2.2.2.1 _ _  h
theorem c6_either {B : BX} {a : Nat → Nat} (d : Nat) {M : S0} {Q : Int32 → S0 → Prop} (h : w_PM d 5  M  Q) : KI B (wl 12 a (shM B.2.1 a)) yX6_either cX6_either 3 (some .int) (4 + d) (91 + 23 * d) [.ref (a 0)] M Q := (c_PM d).2.2.2.2.2 _ _  h
def w6_part_b8 (Q : Int32 → S0 → Prop) (M : S0) : Prop :=
    ((¬ (M 0 25) = 0) → ((((M 0 25) = 0) → (∃ d, d ≤ 60 ∧ w_PM  d 5 M (fun r4 M3 => w6_isSign M3 (59 : Int32) (fun r6 M5 => ((¬ r6 = 0) → (((¬ (M5 0 25) = 0) → (Q r4 M5)) ∧ (((M5 0 25) = 0) → (w6_next M5 (fun M7 => Q r4 M7))))) ∧ ((r6 = 0) → (w6_fail M5 (fun M8 => ((¬ (M8 0 25) = 0) → (Q r4 M8)) ∧ (((M8 0 25) = 0) → (w6_next M8 (fun M9 => Q r4 M9)))))))))) ∧ ((¬ (M 0 25) = 0) → (w6_isSign M (59 : Int32) (fun r11 M10 => ((¬ r11 = 0) → (((¬ (M10 0 25) = 0) → (Q (0 : Int32) M10)) ∧ (((M10 0 25) = 0) → (w6_next M10 (fun M12 => Q (0 : Int32) M12))))) ∧ ((r11 = 0) → (w6_fail M10 (fun M13 => ((¬ (M13 0 25) = 0) → (Q (0 : Int32) M13)) ∧ (((M13 0 25) = 0) → (w6_next M13 (fun M14 => Q (0 : Int32) M14))))))))))) ∧ (((M 0 25) = 0) → (w6_next M (fun M15 => (((M15 0 25) = 0) → (∃ d, d ≤ 60 ∧ w_PM  d 5 M15 (fun r18 M17 => w6_isSign M17 (59 : Int32) (fun r20 M19 => ((¬ r20 = 0) → (((¬ (M19 0 25) = 0) → (Q r18 M19)) ∧ (((M19 0 25) = 0) → (w6_next M19 (fun M21 => Q r18 M21))))) ∧ ((r20 = 0) → (w6_fail M19 (fun M22 => ((¬ (M22 0 25) = 0) → (Q r18 M22)) ∧ (((M22 0 25) = 0) → (w6_next M22 (fun M23 => Q r18 M23)))))))))) ∧ ((¬ (M15 0 25) = 0) → (w6_isSign M15 (59 : Int32) (fun r25 M24 => ((¬ r25 = 0) → (((¬ (M24 0 25) = 0) → (Q (0 : Int32) M24)) ∧ (((M24 0 25) = 0) → (w6_next M24 (fun M26 => Q (0 : Int32) M26))))) ∧ ((r25 = 0) → (w6_fail M24 (fun M27 => ((¬ (M27 0 25) = 0) → (Q (0 : Int32) M27)) ∧ (((M27 0 25) = 0) → (w6_next M27 (fun M28 => Q (0 : Int32) M28))))))))))))
set_option maxHeartbeats 4000000 in
set_option maxRecDepth 20000 in
theorem t6_part_b8 {B : BX} {E : EX} {a : Nat → Nat} {Q : Int32 → S0 → Prop} (C : Ok B E cX6_part 3 RX6 65 1493) (hR : RetI B E cX6_part 3 (wl 12 a (shM B.2.1 a)) Q) : ∀ (M : S0), w6_part_b8   Q M  → V B E 3 (wl 12 a (shM B.2.1 a) M) 8 [(0, .ref (a 0))] [] := by
  intro M   h
  rw [w6_part_b8] at h
  refine v_aload_n C 0 dX6_part_8 rfl rfl ?_
  refine fX6_6_g_bad C dX6_part_9 ?_
  refine v_if_ne C dX6_part_12 (tgt := 19) (by decide) (fun c => ?_) (fun c => ?_)
  · replace h := h.1 c
    refine v_aload_n C 0 dX6_part_19 rfl rfl ?_
    refine fX6_6_g_bad C dX6_part_20 ?_
    refine v_if_eq C dX6_part_23 (tgt := 30) (by decide) (fun c => ?_) (fun c => ?_)
    · replace h := h.1 c
      refine v_aload_n C 0 dX6_part_30 rfl rfl ?_
      obtain ⟨d, hd2, h⟩ := h
      refine v_callVi (k := 0) (As := []) (rest := []) C (c6_either d  h) eX6_214 (by omega) (by omega) (by decide) rfl rfl rfl rfl (Nat.le_of_ble_eq_true rfl) dX6_part_31 (fun r4 M3 h => ?_)
      refine v_istore_n (lv' := [(2, .int r4), (0, .ref (a 0))]) C dX6_part_34 rfl (by decide) rfl ?_
      refine v_aload_n C 1 dX6_part_35 rfl rfl ?_
      refine v_bipush C dX6_part_36 (v := (59 : Int32)) (by decide) ?_
      refine v_callVi (k := 0) (As := [.int (59 : Int32)]) (rest := []) C (c6_isSign  h) eX6_203 (by omega) (by omega) (by decide) rfl rfl rfl rfl (Nat.le_of_ble_eq_true rfl) dX6_part_38 (fun r6 M5 h => ?_)
      refine v_if_ne C dX6_part_41 (tgt := 48) (by decide) (fun c => ?_) (fun c => ?_)
      · replace h := h.1 c
        refine v_aload_n C 1 dX6_part_48 rfl rfl ?_
        refine fX6_6_g_bad C dX6_part_49 ?_
        refine v_if_ne C dX6_part_52 (tgt := 59) (by decide) (fun c => ?_) (fun c => ?_)
        · replace h := h.1 c
          refine v_iload_n C 0 dX6_part_59 rfl rfl ?_
          exact hR _ _ _ _ h dX6_part_60
        · replace h := h.2 c
          refine v_aload_n C 1 dX6_part_55 rfl rfl ?_
          refine v_callVv (k := 0) (As := []) (rest := []) C (c6_next  h) eX6_178 (by omega) (by omega) (by decide) rfl rfl rfl rfl (Nat.le_of_ble_eq_true rfl) dX6_part_56 (fun M7 h => ?_)
          refine v_iload_n C 0 dX6_part_59 rfl rfl ?_
          exact hR _ _ _ _ h dX6_part_60
      · replace h := h.2 c
        refine v_aload_n C 1 dX6_part_44 rfl rfl ?_
        refine v_callVv (k := 0) (As := []) (rest := []) C (c6_fail  h) eX6_175 (by omega) (by omega) (by decide) rfl rfl rfl rfl (Nat.le_of_ble_eq_true rfl) dX6_part_45 (fun M8 h => ?_)
        refine v_aload_n C 1 dX6_part_48 rfl rfl ?_
        refine fX6_6_g_bad C dX6_part_49 ?_
        refine v_if_ne C dX6_part_52 (tgt := 59) (by decide) (fun c => ?_) (fun c => ?_)
        · replace h := h.1 c
          refine v_iload_n C 0 dX6_part_59 rfl rfl ?_
          exact hR _ _ _ _ h dX6_part_60
        · replace h := h.2 c
          refine v_aload_n C 1 dX6_part_55 rfl rfl ?_
          refine v_callVv (k := 0) (As := []) (rest := []) C (c6_next  h) eX6_178 (by omega) (by omega) (by decide) rfl rfl rfl rfl (Nat.le_of_ble_eq_true rfl) dX6_part_56 (fun M9 h => ?_)
          refine v_iload_n C 0 dX6_part_59 rfl rfl ?_
          exact hR _ _ _ _ h dX6_part_60
    · replace h := h.2 c
      refine v_iconst C dX6_part_26 (v := (0 : Int32)) (by decide) ?_
      refine v_goto C dX6_part_27 (tgt := 34) (by decide) ?_
      refine v_istore_n (lv' := [(2, .int (0 : Int32)), (0, .ref (a 0))]) C dX6_part_34 rfl (by decide) rfl ?_
      refine v_aload_n C 1 dX6_part_35 rfl rfl ?_
      refine v_bipush C dX6_part_36 (v := (59 : Int32)) (by decide) ?_
      refine v_callVi (k := 0) (As := [.int (59 : Int32)]) (rest := []) C (c6_isSign  h) eX6_203 (by omega) (by omega) (by decide) rfl rfl rfl rfl (Nat.le_of_ble_eq_true rfl) dX6_part_38 (fun r11 M10 h => ?_)
      refine v_if_ne C dX6_part_41 (tgt := 48) (by decide) (fun c => ?_) (fun c => ?_)
      · replace h := h.1 c
        refine v_aload_n C 1 dX6_part_48 rfl rfl ?_
        refine fX6_6_g_bad C dX6_part_49 ?_
        refine v_if_ne C dX6_part_52 (tgt := 59) (by decide) (fun c => ?_) (fun c => ?_)
        · replace h := h.1 c
          refine v_iload_n C 0 dX6_part_59 rfl rfl ?_
          exact hR _ _ _ _ h dX6_part_60
        · replace h := h.2 c
          refine v_aload_n C 1 dX6_part_55 rfl rfl ?_
          refine v_callVv (k := 0) (As := []) (rest := []) C (c6_next  h) eX6_178 (by omega) (by omega) (by decide) rfl rfl rfl rfl (Nat.le_of_ble_eq_true rfl) dX6_part_56 (fun M12 h => ?_)
          refine v_iload_n C 0 dX6_part_59 rfl rfl ?_
          exact hR _ _ _ _ h dX6_part_60
      · replace h := h.2 c
        refine v_aload_n C 1 dX6_part_44 rfl rfl ?_
        refine v_callVv (k := 0) (As := []) (rest := []) C (c6_fail  h) eX6_175 (by omega) (by omega) (by decide) rfl rfl rfl rfl (Nat.le_of_ble_eq_true rfl) dX6_part_45 (fun M13 h => ?_)
        refine v_aload_n C 1 dX6_part_48 rfl rfl ?_
        refine fX6_6_g_bad C dX6_part_49 ?_
        refine v_if_ne C dX6_part_52 (tgt := 59) (by decide) (fun c => ?_) (fun c => ?_)
        · replace h := h.1 c
          refine v_iload_n C 0 dX6_part_59 rfl rfl ?_
          exact hR _ _ _ _ h dX6_part_60
        · replace h := h.2 c
          refine v_aload_n C 1 dX6_part_55 rfl rfl ?_
          refine v_callVv (k := 0) (As := []) (rest := []) C (c6_next  h) eX6_178 (by omega) (by omega) (by decide) rfl rfl rfl rfl (Nat.le_of_ble_eq_true rfl) dX6_part_56 (fun M14 h => ?_)
          refine v_iload_n C 0 dX6_part_59 rfl rfl ?_
          exact hR _ _ _ _ h dX6_part_60
  · replace h := h.2 c
    refine v_aload_n C 0 dX6_part_15 rfl rfl ?_
    refine v_callVv (k := 0) (As := []) (rest := []) C (c6_next  h) eX6_178 (by omega) (by omega) (by decide) rfl rfl rfl rfl (Nat.le_of_ble_eq_true rfl) dX6_part_16 (fun M15 h => ?_)
    refine v_aload_n C 0 dX6_part_19 rfl rfl ?_
    refine fX6_6_g_bad C dX6_part_20 ?_
    refine v_if_eq C dX6_part_23 (tgt := 30) (by decide) (fun c => ?_) (fun c => ?_)
    · replace h := h.1 c
      refine v_aload_n C 0 dX6_part_30 rfl rfl ?_
      obtain ⟨d, hd16, h⟩ := h
      refine v_callVi (k := 0) (As := []) (rest := []) C (c6_either d  h) eX6_214 (by omega) (by omega) (by decide) rfl rfl rfl rfl (Nat.le_of_ble_eq_true rfl) dX6_part_31 (fun r18 M17 h => ?_)
      refine v_istore_n (lv' := [(2, .int r18), (0, .ref (a 0))]) C dX6_part_34 rfl (by decide) rfl ?_
      refine v_aload_n C 1 dX6_part_35 rfl rfl ?_
      refine v_bipush C dX6_part_36 (v := (59 : Int32)) (by decide) ?_
      refine v_callVi (k := 0) (As := [.int (59 : Int32)]) (rest := []) C (c6_isSign  h) eX6_203 (by omega) (by omega) (by decide) rfl rfl rfl rfl (Nat.le_of_ble_eq_true rfl) dX6_part_38 (fun r20 M19 h => ?_)
      refine v_if_ne C dX6_part_41 (tgt := 48) (by decide) (fun c => ?_) (fun c => ?_)
      · replace h := h.1 c
        refine v_aload_n C 1 dX6_part_48 rfl rfl ?_
        refine fX6_6_g_bad C dX6_part_49 ?_
        refine v_if_ne C dX6_part_52 (tgt := 59) (by decide) (fun c => ?_) (fun c => ?_)
        · replace h := h.1 c
          refine v_iload_n C 0 dX6_part_59 rfl rfl ?_
          exact hR _ _ _ _ h dX6_part_60
        · replace h := h.2 c
          refine v_aload_n C 1 dX6_part_55 rfl rfl ?_
          refine v_callVv (k := 0) (As := []) (rest := []) C (c6_next  h) eX6_178 (by omega) (by omega) (by decide) rfl rfl rfl rfl (Nat.le_of_ble_eq_true rfl) dX6_part_56 (fun M21 h => ?_)
          refine v_iload_n C 0 dX6_part_59 rfl rfl ?_
          exact hR _ _ _ _ h dX6_part_60
      · replace h := h.2 c
        refine v_aload_n C 1 dX6_part_44 rfl rfl ?_
        refine v_callVv (k := 0) (As := []) (rest := []) C (c6_fail  h) eX6_175 (by omega) (by omega) (by decide) rfl rfl rfl rfl (Nat.le_of_ble_eq_true rfl) dX6_part_45 (fun M22 h => ?_)
        refine v_aload_n C 1 dX6_part_48 rfl rfl ?_
        refine fX6_6_g_bad C dX6_part_49 ?_
        refine v_if_ne C dX6_part_52 (tgt := 59) (by decide) (fun c => ?_) (fun c => ?_)
        · replace h := h.1 c
          refine v_iload_n C 0 dX6_part_59 rfl rfl ?_
          exact hR _ _ _ _ h dX6_part_60
        · replace h := h.2 c
          refine v_aload_n C 1 dX6_part_55 rfl rfl ?_
          refine v_callVv (k := 0) (As := []) (rest := []) C (c6_next  h) eX6_178 (by omega) (by omega) (by decide) rfl rfl rfl rfl (Nat.le_of_ble_eq_true rfl) dX6_part_56 (fun M23 h => ?_)
          refine v_iload_n C 0 dX6_part_59 rfl rfl ?_
          exact hR _ _ _ _ h dX6_part_60
    · replace h := h.2 c
      refine v_iconst C dX6_part_26 (v := (0 : Int32)) (by decide) ?_
      refine v_goto C dX6_part_27 (tgt := 34) (by decide) ?_
      refine v_istore_n (lv' := [(2, .int (0 : Int32)), (0, .ref (a 0))]) C dX6_part_34 rfl (by decide) rfl ?_
      refine v_aload_n C 1 dX6_part_35 rfl rfl ?_
      refine v_bipush C dX6_part_36 (v := (59 : Int32)) (by decide) ?_
      refine v_callVi (k := 0) (As := [.int (59 : Int32)]) (rest := []) C (c6_isSign  h) eX6_203 (by omega) (by omega) (by decide) rfl rfl rfl rfl (Nat.le_of_ble_eq_true rfl) dX6_part_38 (fun r25 M24 h => ?_)
      refine v_if_ne C dX6_part_41 (tgt := 48) (by decide) (fun c => ?_) (fun c => ?_)
      · replace h := h.1 c
        refine v_aload_n C 1 dX6_part_48 rfl rfl ?_
        refine fX6_6_g_bad C dX6_part_49 ?_
        refine v_if_ne C dX6_part_52 (tgt := 59) (by decide) (fun c => ?_) (fun c => ?_)
        · replace h := h.1 c
          refine v_iload_n C 0 dX6_part_59 rfl rfl ?_
          exact hR _ _ _ _ h dX6_part_60
        · replace h := h.2 c
          refine v_aload_n C 1 dX6_part_55 rfl rfl ?_
          refine v_callVv (k := 0) (As := []) (rest := []) C (c6_next  h) eX6_178 (by omega) (by omega) (by decide) rfl rfl rfl rfl (Nat.le_of_ble_eq_true rfl) dX6_part_56 (fun M26 h => ?_)
          refine v_iload_n C 0 dX6_part_59 rfl rfl ?_
          exact hR _ _ _ _ h dX6_part_60
      · replace h := h.2 c
        refine v_aload_n C 1 dX6_part_44 rfl rfl ?_
        refine v_callVv (k := 0) (As := []) (rest := []) C (c6_fail  h) eX6_175 (by omega) (by omega) (by decide) rfl rfl rfl rfl (Nat.le_of_ble_eq_true rfl) dX6_part_45 (fun M27 h => ?_)
        refine v_aload_n C 1 dX6_part_48 rfl rfl ?_
        refine fX6_6_g_bad C dX6_part_49 ?_
        refine v_if_ne C dX6_part_52 (tgt := 59) (by decide) (fun c => ?_) (fun c => ?_)
        · replace h := h.1 c
          refine v_iload_n C 0 dX6_part_59 rfl rfl ?_
          exact hR _ _ _ _ h dX6_part_60
        · replace h := h.2 c
          refine v_aload_n C 1 dX6_part_55 rfl rfl ?_
          refine v_callVv (k := 0) (As := []) (rest := []) C (c6_next  h) eX6_178 (by omega) (by omega) (by decide) rfl rfl rfl rfl (Nat.le_of_ble_eq_true rfl) dX6_part_56 (fun M28 h => ?_)
          refine v_iload_n C 0 dX6_part_59 rfl rfl ?_
          exact hR _ _ _ _ h dX6_part_60
def w6_part (M : S0) (p1 : Int32) (Q : Int32 → S0 → Prop) : Prop :=
    ((¬ p1 = 0) → (w6_part_b8   Q M)) ∧ ((p1 = 0) → (w6_fail M (fun M1 => w6_part_b8   Q M1)))
set_option maxHeartbeats 4000000 in
set_option maxRecDepth 20000 in
theorem c6_part {B : BX} {a : Nat → Nat} {M : S0} {p1 : Int32} {Q : Int32 → S0 → Prop} (h : w6_part  M p1 Q) : KI B (wl 12 a (shM B.2.1 a)) yX6_part cX6_part 3 (some .int) 65 1493 [.ref (a 0), .int p1] M Q := by
  rw [w6_part] at h
  refine KI_of (by decide +kernel) (Nat.le_of_ble_eq_true rfl) (fun E C hR => ?_)
  change V B E 3 (wl 12 a (shM B.2.1 a) M) 0 [(0, .ref (a 0)), (1, .int p1)] []
  change Ok B E cX6_part 3 RX6 65 1493 at C
  refine v_iload_n C 1 dX6_part_0 rfl rfl ?_
  refine v_if_ne C dX6_part_1 (tgt := 8) (by decide) (fun c => ?_) (fun c => ?_)
  · replace h := h.1 c
    refine v_sub [0] rfl ?_
    exact t6_part_b8   C hR  M  h
  · replace h := h.2 c
    refine v_aload_n C 0 dX6_part_4 rfl rfl ?_
    refine v_callVv (k := 0) (As := []) (rest := []) C (c6_fail  h) eX6_175 (by omega) (by omega) (by decide) rfl rfl rfl rfl (Nat.le_of_ble_eq_true rfl) dX6_part_5 (fun M1 h => ?_)
    refine v_sub [0] rfl ?_
    exact t6_part_b8   C hR  M1  h
def w6_read_b93 (Q : Int32 → S0 → Prop) (M : S0) (v2_93 : Int32) (v3_93 : Int32) (u0_93 : Int32) : Prop :=
    (((M 0 25) = 0) → (w6_isWord M (116 : Int32) (105 : Int32) (114 : Int32) (101 : Int32) (115 : Int32) (0 : Int32) (0 : Int32) (0 : Int32) (fun r17 M16 => w6_part M16 r17 (fun r19 M18 => ((¬ (M18 0 25) = 0) → (((¬ v2_93 = 0) → (((¬ v2_93 = (1 : Int32)) → (Q r19 M18)) ∧ ((v2_93 = (1 : Int32)) → (Q u0_93 M18)))) ∧ ((v2_93 = 0) → (Q v3_93 M18)))) ∧ (((M18 0 25) = 0) → ((((M18 0 21) = 0) → (((¬ v2_93 = 0) → (((¬ v2_93 = (1 : Int32)) → (Q r19 M18)) ∧ ((v2_93 = (1 : Int32)) → (Q u0_93 M18)))) ∧ ((v2_93 = 0) → (Q v3_93 M18)))) ∧ ((¬ (M18 0 21) = 0) → (w6_fail M18 (fun M20 => ((¬ v2_93 = 0) → (((¬ v2_93 = (1 : Int32)) → (Q r19 M20)) ∧ ((v2_93 = (1 : Int32)) → (Q u0_93 M20)))) ∧ ((v2_93 = 0) → (Q v3_93 M20))))))))))) ∧ ((¬ (M 0 25) = 0) → (((¬ (M 0 25) = 0) → (((¬ v2_93 = 0) → (((¬ v2_93 = (1 : Int32)) → (Q (0 : Int32) M)) ∧ ((v2_93 = (1 : Int32)) → (Q u0_93 M)))) ∧ ((v2_93 = 0) → (Q v3_93 M)))) ∧ (((M 0 25) = 0) → ((((M 0 21) = 0) → (((¬ v2_93 = 0) → (((¬ v2_93 = (1 : Int32)) → (Q (0 : Int32) M)) ∧ ((v2_93 = (1 : Int32)) → (Q u0_93 M)))) ∧ ((v2_93 = 0) → (Q v3_93 M)))) ∧ ((¬ (M 0 21) = 0) → (w6_fail M (fun M21 => ((¬ v2_93 = 0) → (((¬ v2_93 = (1 : Int32)) → (Q (0 : Int32) M21)) ∧ ((v2_93 = (1 : Int32)) → (Q u0_93 M21)))) ∧ ((v2_93 = 0) → (Q v3_93 M21)))))))))
set_option maxHeartbeats 4000000 in
set_option maxRecDepth 20000 in
theorem t6_read_b93 {B : BX} {E : EX} {a : Nat → Nat} {Q : Int32 → S0 → Prop} (C : Ok B E cX6_read 6 RX6 66 1515) (hR : RetI B E cX6_read 6 (wl 12 a (shM B.2.1 a)) Q) : ∀ (M : S0) (v2_93 : Int32) (v3_93 : Int32) (u0_93 : Int32), w6_read_b93   Q M v2_93 v3_93 u0_93 → V B E 6 (wl 12 a (shM B.2.1 a) M) 93 [(0, .ref (a 0)), (2, .int v2_93), (3, .int v3_93)] [.int u0_93] := by
  intro M v2_93 v3_93 u0_93  h
  rw [w6_read_b93] at h
  refine v_istore (lv' := [(4, .int u0_93), (0, .ref (a 0)), (2, .int v2_93), (3, .int v3_93)]) C dX6_read_93 (by decide) rfl ?_
  refine v_aload_n C 1 dX6_read_95 rfl rfl ?_
  refine fX6_6_g_bad C dX6_read_96 ?_
  refine v_if_eq C dX6_read_99 (tgt := 106) (by decide) (fun c => ?_) (fun c => ?_)
  · replace h := h.1 c
    refine v_aload_n C 1 dX6_read_106 rfl rfl ?_
    refine v_aload_n C 1 dX6_read_107 rfl rfl ?_
    refine v_bipush C dX6_read_108 (v := (116 : Int32)) (by decide) ?_
    refine v_bipush C dX6_read_110 (v := (105 : Int32)) (by decide) ?_
    refine v_bipush C dX6_read_112 (v := (114 : Int32)) (by decide) ?_
    refine v_bipush C dX6_read_114 (v := (101 : Int32)) (by decide) ?_
    refine v_bipush C dX6_read_116 (v := (115 : Int32)) (by decide) ?_
    refine v_iconst C dX6_read_118 (v := (0 : Int32)) (by decide) ?_
    refine v_iconst C dX6_read_119 (v := (0 : Int32)) (by decide) ?_
    refine v_iconst C dX6_read_120 (v := (0 : Int32)) (by decide) ?_
    refine v_callVi (k := 0) (As := [.int (116 : Int32), .int (105 : Int32), .int (114 : Int32), .int (101 : Int32), .int (115 : Int32), .int (0 : Int32), .int (0 : Int32), .int (0 : Int32)]) (rest := [.ref (a 0)]) C (c6_isWord  h) eX6_181 (by omega) (by omega) (by decide) rfl rfl rfl rfl (Nat.le_of_ble_eq_true rfl) dX6_read_121 (fun r17 M16 h => ?_)
    refine v_callVi (k := 0) (As := [.int r17]) (rest := []) C (c6_part  h) eX6_236 (by omega) (by omega) (by decide) rfl rfl rfl rfl (Nat.le_of_ble_eq_true rfl) dX6_read_124 (fun r19 M18 h => ?_)
    refine v_istore (lv' := [(5, .int r19), (4, .int u0_93), (0, .ref (a 0)), (2, .int v2_93), (3, .int v3_93)]) C dX6_read_127 (by decide) rfl ?_
    refine v_aload_n C 2 dX6_read_129 rfl rfl ?_
    refine fX6_6_g_bad C dX6_read_130 ?_
    refine v_if_ne C dX6_read_133 (tgt := 147) (by decide) (fun c => ?_) (fun c => ?_)
    · replace h := h.1 c
      refine v_iload_n C 3 dX6_read_147 rfl rfl ?_
      refine v_if_ne C dX6_read_148 (tgt := 155) (by decide) (fun c => ?_) (fun c => ?_)
      · replace h := h.1 c
        refine v_iload_n C 3 dX6_read_155 rfl rfl ?_
        refine v_iconst C dX6_read_156 (v := (1 : Int32)) (by decide) ?_
        refine v_icmp_ne C dX6_read_157 (tgt := 165) (by decide) (fun c => ?_) (fun c => ?_)
        · replace h := h.1 c
          refine v_iload C 0 dX6_read_165 rfl ?_
          exact hR _ _ _ _ h dX6_read_167
        · replace h := h.2 c
          refine v_iload C 1 dX6_read_160 rfl ?_
          refine v_goto C dX6_read_162 (tgt := 167) (by decide) ?_
          exact hR _ _ _ _ h dX6_read_167
      · replace h := h.2 c
        refine v_iload_n C 4 dX6_read_151 rfl rfl ?_
        refine v_goto C dX6_read_152 (tgt := 167) (by decide) ?_
        exact hR _ _ _ _ h dX6_read_167
    · replace h := h.2 c
      refine v_aload_n C 2 dX6_read_136 rfl rfl ?_
      refine fX6_6_g_token C dX6_read_137 ?_
      refine v_if_eq C dX6_read_140 (tgt := 147) (by decide) (fun c => ?_) (fun c => ?_)
      · replace h := h.1 c
        refine v_iload_n C 3 dX6_read_147 rfl rfl ?_
        refine v_if_ne C dX6_read_148 (tgt := 155) (by decide) (fun c => ?_) (fun c => ?_)
        · replace h := h.1 c
          refine v_iload_n C 3 dX6_read_155 rfl rfl ?_
          refine v_iconst C dX6_read_156 (v := (1 : Int32)) (by decide) ?_
          refine v_icmp_ne C dX6_read_157 (tgt := 165) (by decide) (fun c => ?_) (fun c => ?_)
          · replace h := h.1 c
            refine v_iload C 0 dX6_read_165 rfl ?_
            exact hR _ _ _ _ h dX6_read_167
          · replace h := h.2 c
            refine v_iload C 1 dX6_read_160 rfl ?_
            refine v_goto C dX6_read_162 (tgt := 167) (by decide) ?_
            exact hR _ _ _ _ h dX6_read_167
        · replace h := h.2 c
          refine v_iload_n C 4 dX6_read_151 rfl rfl ?_
          refine v_goto C dX6_read_152 (tgt := 167) (by decide) ?_
          exact hR _ _ _ _ h dX6_read_167
      · replace h := h.2 c
        refine v_aload_n C 2 dX6_read_143 rfl rfl ?_
        refine v_callVv (k := 0) (As := []) (rest := []) C (c6_fail  h) eX6_175 (by omega) (by omega) (by decide) rfl rfl rfl rfl (Nat.le_of_ble_eq_true rfl) dX6_read_144 (fun M20 h => ?_)
        refine v_iload_n C 3 dX6_read_147 rfl rfl ?_
        refine v_if_ne C dX6_read_148 (tgt := 155) (by decide) (fun c => ?_) (fun c => ?_)
        · replace h := h.1 c
          refine v_iload_n C 3 dX6_read_155 rfl rfl ?_
          refine v_iconst C dX6_read_156 (v := (1 : Int32)) (by decide) ?_
          refine v_icmp_ne C dX6_read_157 (tgt := 165) (by decide) (fun c => ?_) (fun c => ?_)
          · replace h := h.1 c
            refine v_iload C 0 dX6_read_165 rfl ?_
            exact hR _ _ _ _ h dX6_read_167
          · replace h := h.2 c
            refine v_iload C 1 dX6_read_160 rfl ?_
            refine v_goto C dX6_read_162 (tgt := 167) (by decide) ?_
            exact hR _ _ _ _ h dX6_read_167
        · replace h := h.2 c
          refine v_iload_n C 4 dX6_read_151 rfl rfl ?_
          refine v_goto C dX6_read_152 (tgt := 167) (by decide) ?_
          exact hR _ _ _ _ h dX6_read_167
  · replace h := h.2 c
    refine v_iconst C dX6_read_102 (v := (0 : Int32)) (by decide) ?_
    refine v_goto C dX6_read_103 (tgt := 127) (by decide) ?_
    refine v_istore (lv' := [(5, .int (0 : Int32)), (4, .int u0_93), (0, .ref (a 0)), (2, .int v2_93), (3, .int v3_93)]) C dX6_read_127 (by decide) rfl ?_
    refine v_aload_n C 2 dX6_read_129 rfl rfl ?_
    refine fX6_6_g_bad C dX6_read_130 ?_
    refine v_if_ne C dX6_read_133 (tgt := 147) (by decide) (fun c => ?_) (fun c => ?_)
    · replace h := h.1 c
      refine v_iload_n C 3 dX6_read_147 rfl rfl ?_
      refine v_if_ne C dX6_read_148 (tgt := 155) (by decide) (fun c => ?_) (fun c => ?_)
      · replace h := h.1 c
        refine v_iload_n C 3 dX6_read_155 rfl rfl ?_
        refine v_iconst C dX6_read_156 (v := (1 : Int32)) (by decide) ?_
        refine v_icmp_ne C dX6_read_157 (tgt := 165) (by decide) (fun c => ?_) (fun c => ?_)
        · replace h := h.1 c
          refine v_iload C 0 dX6_read_165 rfl ?_
          exact hR _ _ _ _ h dX6_read_167
        · replace h := h.2 c
          refine v_iload C 1 dX6_read_160 rfl ?_
          refine v_goto C dX6_read_162 (tgt := 167) (by decide) ?_
          exact hR _ _ _ _ h dX6_read_167
      · replace h := h.2 c
        refine v_iload_n C 4 dX6_read_151 rfl rfl ?_
        refine v_goto C dX6_read_152 (tgt := 167) (by decide) ?_
        exact hR _ _ _ _ h dX6_read_167
    · replace h := h.2 c
      refine v_aload_n C 2 dX6_read_136 rfl rfl ?_
      refine fX6_6_g_token C dX6_read_137 ?_
      refine v_if_eq C dX6_read_140 (tgt := 147) (by decide) (fun c => ?_) (fun c => ?_)
      · replace h := h.1 c
        refine v_iload_n C 3 dX6_read_147 rfl rfl ?_
        refine v_if_ne C dX6_read_148 (tgt := 155) (by decide) (fun c => ?_) (fun c => ?_)
        · replace h := h.1 c
          refine v_iload_n C 3 dX6_read_155 rfl rfl ?_
          refine v_iconst C dX6_read_156 (v := (1 : Int32)) (by decide) ?_
          refine v_icmp_ne C dX6_read_157 (tgt := 165) (by decide) (fun c => ?_) (fun c => ?_)
          · replace h := h.1 c
            refine v_iload C 0 dX6_read_165 rfl ?_
            exact hR _ _ _ _ h dX6_read_167
          · replace h := h.2 c
            refine v_iload C 1 dX6_read_160 rfl ?_
            refine v_goto C dX6_read_162 (tgt := 167) (by decide) ?_
            exact hR _ _ _ _ h dX6_read_167
        · replace h := h.2 c
          refine v_iload_n C 4 dX6_read_151 rfl rfl ?_
          refine v_goto C dX6_read_152 (tgt := 167) (by decide) ?_
          exact hR _ _ _ _ h dX6_read_167
      · replace h := h.2 c
        refine v_aload_n C 2 dX6_read_143 rfl rfl ?_
        refine v_callVv (k := 0) (As := []) (rest := []) C (c6_fail  h) eX6_175 (by omega) (by omega) (by decide) rfl rfl rfl rfl (Nat.le_of_ble_eq_true rfl) dX6_read_144 (fun M21 h => ?_)
        refine v_iload_n C 3 dX6_read_147 rfl rfl ?_
        refine v_if_ne C dX6_read_148 (tgt := 155) (by decide) (fun c => ?_) (fun c => ?_)
        · replace h := h.1 c
          refine v_iload_n C 3 dX6_read_155 rfl rfl ?_
          refine v_iconst C dX6_read_156 (v := (1 : Int32)) (by decide) ?_
          refine v_icmp_ne C dX6_read_157 (tgt := 165) (by decide) (fun c => ?_) (fun c => ?_)
          · replace h := h.1 c
            refine v_iload C 0 dX6_read_165 rfl ?_
            exact hR _ _ _ _ h dX6_read_167
          · replace h := h.2 c
            refine v_iload C 1 dX6_read_160 rfl ?_
            refine v_goto C dX6_read_162 (tgt := 167) (by decide) ?_
            exact hR _ _ _ _ h dX6_read_167
        · replace h := h.2 c
          refine v_iload_n C 4 dX6_read_151 rfl rfl ?_
          refine v_goto C dX6_read_152 (tgt := 167) (by decide) ?_
          exact hR _ _ _ _ h dX6_read_167
def w6_read (M : S0) (p1 : Int32) (p2 : Int32) (Q : Int32 → S0 → Prop) : Prop :=
    ∀ M1 : S0, M1 = up M 0 18 ((160 : Int32) * p1) → ((vp_in p1 6) ∧ (∀ M3 : S0, M3 = up M1 0 19 (M1 2 (Int32.toNatClampNeg p1)) → (∀ M4 : S0, M4 = up M3 0 20 (0 : Int32) → (∀ M5 : S0, M5 = up M4 0 24 (0 : Int32) → (∀ M6 : S0, M6 = up M5 0 25 (0 : Int32) → (w6_next M6 (fun M7 => w6_isWord M7 (112 : Int32) (108 : Int32) (97 : Int32) (121 : Int32) (115 : Int32) (0 : Int32) (0 : Int32) (0 : Int32) (fun r9 M8 => w6_part M8 r9 (fun r11 M10 => (((M10 0 25) = 0) → (w6_isWord M10 (116 : Int32) (104 : Int32) (114 : Int32) (111 : Int32) (119 : Int32) (115 : Int32) (0 : Int32) (0 : Int32) (fun r13 M12 => w6_part M12 r13 (fun r15 M14 => w6_read_b93   Q M14 p2 r11 r15)))) ∧ ((¬ (M10 0 25) = 0) → (w6_read_b93   Q M10 p2 r11 (0 : Int32))))))))))))
set_option maxHeartbeats 4000000 in
set_option maxRecDepth 20000 in
theorem c6_read {B : BX} {a : Nat → Nat} {M : S0} {p1 : Int32} {p2 : Int32} {Q : Int32 → S0 → Prop} (h : w6_read  M p1 p2 Q) : KI B (wl 12 a (shM B.2.1 a)) yX6_read cX6_read 6 (some .int) 66 1515 [.ref (a 0), .int p1, .int p2] M Q := by
  rw [w6_read] at h
  refine KI_of (by decide +kernel) (Nat.le_of_ble_eq_true rfl) (fun E C hR => ?_)
  change V B E 6 (wl 12 a (shM B.2.1 a) M) 0 [(0, .ref (a 0)), (1, .int p1), (2, .int p2)] []
  change Ok B E cX6_read 6 RX6 66 1515 at C
  refine v_aload_n C 0 dX6_read_0 rfl rfl ?_
  refine v_sipush C dX6_read_1 (v := (160 : Int32)) (by decide) ?_
  refine v_iload_n C 1 dX6_read_4 rfl rfl ?_
  refine v_imul C dX6_read_5 ?_
  refine fX6_6_p_from C dX6_read_6 (fun M1 eM1 => ?_)
  replace h := h M1 eM1
  refine v_aload_n C 0 dX6_read_9 rfl rfl ?_
  refine v_aload_n C 0 dX6_read_10 rfl rfl ?_
  refine fX6_6_g_textSize C dX6_read_11 ?_
  refine v_iload_n C 1 dX6_read_14 rfl rfl ?_
  obtain ⟨hi2, h⟩ := h
  refine v_iald (k := 2) C (by decide) rfl hi2 dX6_read_15 ?_
  refine fX6_6_p_size C dX6_read_16 (fun M3 eM3 => ?_)
  replace h := h M3 eM3
  refine v_aload_n C 0 dX6_read_19 rfl rfl ?_
  refine v_iconst C dX6_read_20 (v := (0 : Int32)) (by decide) ?_
  refine fX6_6_p_here C dX6_read_21 (fun M4 eM4 => ?_)
  replace h := h M4 eM4
  refine v_aload_n C 0 dX6_read_24 rfl rfl ?_
  refine v_iconst C dX6_read_25 (v := (0 : Int32)) (by decide) ?_
  refine fX6_6_p_open C dX6_read_26 (fun M5 eM5 => ?_)
  replace h := h M5 eM5
  refine v_aload_n C 0 dX6_read_29 rfl rfl ?_
  refine v_iconst C dX6_read_30 (v := (0 : Int32)) (by decide) ?_
  refine fX6_6_p_bad C rfl rfl dX6_read_31 (fun M6 eM6 => ?_)
  replace h := h M6 eM6
  refine v_aload_n C 0 dX6_read_34 rfl rfl ?_
  refine v_callVv (k := 0) (As := []) (rest := []) C (c6_next  h) eX6_178 (by omega) (by omega) (by decide) rfl rfl rfl rfl (Nat.le_of_ble_eq_true rfl) dX6_read_35 (fun M7 h => ?_)
  refine v_aload_n C 0 dX6_read_38 rfl rfl ?_
  refine v_aload_n C 0 dX6_read_39 rfl rfl ?_
  refine v_bipush C dX6_read_40 (v := (112 : Int32)) (by decide) ?_
  refine v_bipush C dX6_read_42 (v := (108 : Int32)) (by decide) ?_
  refine v_bipush C dX6_read_44 (v := (97 : Int32)) (by decide) ?_
  refine v_bipush C dX6_read_46 (v := (121 : Int32)) (by decide) ?_
  refine v_bipush C dX6_read_48 (v := (115 : Int32)) (by decide) ?_
  refine v_iconst C dX6_read_50 (v := (0 : Int32)) (by decide) ?_
  refine v_iconst C dX6_read_51 (v := (0 : Int32)) (by decide) ?_
  refine v_iconst C dX6_read_52 (v := (0 : Int32)) (by decide) ?_
  refine v_callVi (k := 0) (As := [.int (112 : Int32), .int (108 : Int32), .int (97 : Int32), .int (121 : Int32), .int (115 : Int32), .int (0 : Int32), .int (0 : Int32), .int (0 : Int32)]) (rest := [.ref (a 0)]) C (c6_isWord  h) eX6_181 (by omega) (by omega) (by decide) rfl rfl rfl rfl (Nat.le_of_ble_eq_true rfl) dX6_read_53 (fun r9 M8 h => ?_)
  refine v_callVi (k := 0) (As := [.int r9]) (rest := []) C (c6_part  h) eX6_236 (by omega) (by omega) (by decide) rfl rfl rfl rfl (Nat.le_of_ble_eq_true rfl) dX6_read_56 (fun r11 M10 h => ?_)
  refine v_istore_n (lv' := [(3, .int r11), (0, .ref (a 0)), (1, .int p1), (2, .int p2)]) C dX6_read_59 rfl (by decide) rfl ?_
  refine v_aload_n C 1 dX6_read_60 rfl rfl ?_
  refine fX6_6_g_bad C dX6_read_61 ?_
  refine v_if_eq C dX6_read_64 (tgt := 71) (by decide) (fun c => ?_) (fun c => ?_)
  · replace h := h.1 c
    refine v_aload_n C 1 dX6_read_71 rfl rfl ?_
    refine v_aload_n C 1 dX6_read_72 rfl rfl ?_
    refine v_bipush C dX6_read_73 (v := (116 : Int32)) (by decide) ?_
    refine v_bipush C dX6_read_75 (v := (104 : Int32)) (by decide) ?_
    refine v_bipush C dX6_read_77 (v := (114 : Int32)) (by decide) ?_
    refine v_bipush C dX6_read_79 (v := (111 : Int32)) (by decide) ?_
    refine v_bipush C dX6_read_81 (v := (119 : Int32)) (by decide) ?_
    refine v_bipush C dX6_read_83 (v := (115 : Int32)) (by decide) ?_
    refine v_iconst C dX6_read_85 (v := (0 : Int32)) (by decide) ?_
    refine v_iconst C dX6_read_86 (v := (0 : Int32)) (by decide) ?_
    refine v_callVi (k := 0) (As := [.int (116 : Int32), .int (104 : Int32), .int (114 : Int32), .int (111 : Int32), .int (119 : Int32), .int (115 : Int32), .int (0 : Int32), .int (0 : Int32)]) (rest := [.ref (a 0)]) C (c6_isWord  h) eX6_181 (by omega) (by omega) (by decide) rfl rfl rfl rfl (Nat.le_of_ble_eq_true rfl) dX6_read_87 (fun r13 M12 h => ?_)
    refine v_callVi (k := 0) (As := [.int r13]) (rest := []) C (c6_part  h) eX6_236 (by omega) (by omega) (by decide) rfl rfl rfl rfl (Nat.le_of_ble_eq_true rfl) dX6_read_90 (fun r15 M14 h => ?_)
    refine v_sub [1, 3, 0] rfl ?_
    exact t6_read_b93   C hR  M14 p2 r11 r15  h
  · replace h := h.2 c
    refine v_iconst C dX6_read_67 (v := (0 : Int32)) (by decide) ?_
    refine v_goto C dX6_read_68 (tgt := 93) (by decide) ?_
    refine v_sub [1, 3, 0] rfl ?_
    exact t6_read_b93   C hR  M10 p2 r11 (0 : Int32)  h
def w6_text_b14 (Q : Int32 → S0 → Prop) : Nat → S0 → Int32 → Prop
  | 0, _, _ => False
  | n + 1, M, v1_14 =>
    (((M 0 6) ≤ v1_14) → ((vp_in (M 0 3) 6) ∧ (∀ M3 : S0, M3 = up M 2 (Int32.toNatClampNeg (M 0 3)) (M 0 6) → (∀ M4 : S0, M4 = up M3 0 6 (0 : Int32) → (w6_read M4 (M4 0 3) (0 : Int32) (fun r6 M5 => (((M5 0 25) = 0) → (∀ M7 : S0, M7 = up M5 0 3 ((M5 0 3) + (1 : Int32)) → (Q ((M7 0 3) - (1 : Int32)) M7))) ∧ ((¬ (M5 0 25) = 0) → (Q ((-100 : Int32) - (M5 0 26)) M5)))))))) ∧ ((¬ (M 0 6) ≤ v1_14) → ((vp_in v1_14 160) ∧ ((vp_in (((160 : Int32) * (M 0 3)) + v1_14) 960) ∧ (∀ M10 : S0, M10 = up M 1 (Int32.toNatClampNeg (((160 : Int32) * (M 0 3)) + v1_14)) (M 3 (Int32.toNatClampNeg v1_14)) → (∀ x11 : Int32, x11 = v1_14 + (1 : Int32) → (w6_text_b14   Q n M10 x11))))))
set_option maxHeartbeats 4000000 in
set_option maxRecDepth 20000 in
theorem t6_text_b14 {B : BX} {E : EX} {a : Nat → Nat} {Q : Int32 → S0 → Prop} (C : Ok B E cX6_text 2 RX6 67 1540) (hR : RetI B E cX6_text 2 (wl 12 a (shM B.2.1 a)) Q) : ∀ (n : Nat) (M : S0) (v1_14 : Int32), w6_text_b14   Q n M v1_14 → V B E 2 (wl 12 a (shM B.2.1 a) M) 14 [(0, .ref (a 0)), (1, .int v1_14)] [] := by
  intro n
  induction n with
  | zero =>
    intro M v1_14  h
    exact h.elim
  | succ n ih =>
    intro M v1_14  h
    rw [w6_text_b14] at h
    refine v_iload_n C 1 dX6_text_14 rfl rfl ?_
    refine v_aload_n C 0 dX6_text_15 rfl rfl ?_
    refine fX6_6_g_taped C dX6_text_16 ?_
    refine v_icmp_ge C dX6_text_19 (tgt := 49) (by decide) (fun c => ?_) (fun c => ?_)
    · replace h := h.1 c
      refine v_aload_n C 0 dX6_text_49 rfl rfl ?_
      refine fX6_6_g_textSize C dX6_text_50 ?_
      refine v_aload_n C 0 dX6_text_53 rfl rfl ?_
      refine fX6_6_g_textCount C dX6_text_54 ?_
      refine v_aload_n C 0 dX6_text_57 rfl rfl ?_
      refine fX6_6_g_taped C dX6_text_58 ?_
      obtain ⟨hi2, h⟩ := h
      refine v_iast (k := 2) C (by decide) (fun _ => rfl) hi2 dX6_text_61 ?_
      obtain ⟨M3, eM3⟩ : ∃ z : S0, z = up M 2 (Int32.toNatClampNeg (M 0 3)) (M 0 6) := ⟨_, rfl⟩
      rw [← eM3]
      replace h := h M3 eM3
      refine v_aload_n C 0 dX6_text_62 rfl rfl ?_
      refine v_iconst C dX6_text_63 (v := (0 : Int32)) (by decide) ?_
      refine fX6_6_p_taped C dX6_text_64 (fun M4 eM4 => ?_)
      replace h := h M4 eM4
      refine v_aload_n C 0 dX6_text_67 rfl rfl ?_
      refine v_aload_n C 0 dX6_text_68 rfl rfl ?_
      refine fX6_6_g_textCount C dX6_text_69 ?_
      refine v_iconst C dX6_text_72 (v := (0 : Int32)) (by decide) ?_
      refine v_callVi (k := 0) (As := [.int (M4 0 3), .int (0 : Int32)]) (rest := []) C (c6_read  h) eX6_240 (by omega) (by omega) (by decide) rfl rfl rfl rfl (Nat.le_of_ble_eq_true rfl) dX6_text_73 (fun r6 M5 h => ?_)
      refine v_istore_n (lv' := [(1, .int r6), (0, .ref (a 0))]) C dX6_text_76 rfl (by decide) rfl ?_
      refine v_aload_n C 1 dX6_text_77 rfl rfl ?_
      refine fX6_6_g_bad C dX6_text_78 ?_
      refine v_if_eq C dX6_text_81 (tgt := 92) (by decide) (fun c => ?_) (fun c => ?_)
      · replace h := h.1 c
        refine v_aload_n C 1 dX6_text_92 rfl rfl ?_
        refine v_dup C dX6_text_93 rfl ?_
        refine fX6_6_g_textCount C dX6_text_94 ?_
        refine v_iconst C dX6_text_97 (v := (1 : Int32)) (by decide) ?_
        refine v_iadd C dX6_text_98 ?_
        refine fX6_6_p_textCount C dX6_text_99 (fun M7 eM7 => ?_)
        replace h := h M7 eM7
        refine v_aload_n C 1 dX6_text_102 rfl rfl ?_
        refine fX6_6_g_textCount C dX6_text_103 ?_
        refine v_iconst C dX6_text_106 (v := (1 : Int32)) (by decide) ?_
        refine v_isub C dX6_text_107 ?_
        exact hR _ _ _ _ h dX6_text_108
      · replace h := h.2 c
        refine v_bipush C dX6_text_84 (v := (-100 : Int32)) (by decide) ?_
        refine v_aload_n C 1 dX6_text_86 rfl rfl ?_
        refine fX6_6_g_fault C dX6_text_87 ?_
        refine v_isub C dX6_text_90 ?_
        exact hR _ _ _ _ h dX6_text_91
    · replace h := h.2 c
      refine v_aload_n C 0 dX6_text_22 rfl rfl ?_
      refine fX6_6_g_texts C dX6_text_23 ?_
      refine v_sipush C dX6_text_26 (v := (160 : Int32)) (by decide) ?_
      refine v_aload_n C 0 dX6_text_29 rfl rfl ?_
      refine fX6_6_g_textCount C dX6_text_30 ?_
      refine v_imul C dX6_text_33 ?_
      refine v_iload_n C 1 dX6_text_34 rfl rfl ?_
      refine v_iadd C dX6_text_35 ?_
      refine v_aload_n C 0 dX6_text_36 rfl rfl ?_
      refine fX6_6_g_tape C dX6_text_37 ?_
      refine v_iload_n C 1 dX6_text_40 rfl rfl ?_
      obtain ⟨hi8, h⟩ := h
      refine v_iald (k := 3) C (by decide) rfl hi8 dX6_text_41 ?_
      obtain ⟨hi9, h⟩ := h
      refine v_iast (k := 1) C (by decide) (fun _ => rfl) hi9 dX6_text_42 ?_
      obtain ⟨M10, eM10⟩ : ∃ z : S0, z = up M 1 (Int32.toNatClampNeg (((160 : Int32) * (M 0 3)) + v1_14)) (M 3 (Int32.toNatClampNeg v1_14)) := ⟨_, rfl⟩
      rw [← eM10]
      replace h := h M10 eM10
      obtain ⟨x11, ex11⟩ : ∃ z : Int32, z = v1_14 + (1 : Int32) := ⟨_, rfl⟩
      replace h := h x11 ex11
      refine v_iinc (v := x11) (lv' := [(1, .int x11), (0, .ref (a 0))]) C 1 dX6_text_43 rfl (by rw [ex11]; rfl) (by decide) rfl ?_
      refine v_goto C dX6_text_46 (tgt := 14) (by decide) ?_
      refine v_sub [1, 0] rfl ?_
      exact ih M10 x11  h
def w6_text (M : S0) (Q : Int32 → S0 → Prop) : Prop :=
    ((¬ (M 0 3) = (6 : Int32)) → (∃ n1, w6_text_b14   Q n1 M (0 : Int32))) ∧ (((M 0 3) = (6 : Int32)) → (Q (-4 : Int32) M))
set_option maxHeartbeats 4000000 in
set_option maxRecDepth 20000 in
theorem c6_text {B : BX} {a : Nat → Nat} {M : S0} {Q : Int32 → S0 → Prop} (h : w6_text  M  Q) : KI B (wl 12 a (shM B.2.1 a)) yX6_text cX6_text 2 (some .int) 67 1540 [.ref (a 0)] M Q := by
  rw [w6_text] at h
  refine KI_of (by decide +kernel) (Nat.le_of_ble_eq_true rfl) (fun E C hR => ?_)
  change V B E 2 (wl 12 a (shM B.2.1 a) M) 0 [(0, .ref (a 0))] []
  change Ok B E cX6_text 2 RX6 67 1540 at C
  refine v_aload_n C 0 dX6_text_0 rfl rfl ?_
  refine fX6_6_g_textCount C dX6_text_1 ?_
  refine v_bipush C dX6_text_4 (v := (6 : Int32)) (by decide) ?_
  refine v_icmp_ne C dX6_text_6 (tgt := 12) (by decide) (fun c => ?_) (fun c => ?_)
  · replace h := h.1 c
    refine v_iconst C dX6_text_12 (v := (0 : Int32)) (by decide) ?_
    refine v_istore_n (lv' := [(1, .int (0 : Int32)), (0, .ref (a 0))]) C dX6_text_13 rfl (by decide) rfl ?_
    obtain ⟨n1, h⟩ := h
    refine v_sub [1, 0] rfl ?_
    exact t6_text_b14   C hR  n1 M (0 : Int32)  h
  · replace h := h.2 c
    refine v_bipush C dX6_text_9 (v := (-4 : Int32)) (by decide) ?_
    exact hR _ _ _ _ h dX6_text_11
def w6_force (M : S0) (p1 : Int32) (Q : Int32 → S0 → Prop) : Prop :=
    w6_in M (Int32.toInt64 p1) (0 : Int64) (Int32.toInt64 ((M 0 3) - (1 : Int32))) (fun r2 M1 => ((¬ r2 = 0) → (∀ x3 : Int32, x3 = (M1 0 4) → (∀ M4 : S0, M4 = up M1 0 4 p1 → (Q x3 M4)))) ∧ ((r2 = 0) → (Q (-2 : Int32) M1)))
set_option maxHeartbeats 4000000 in
set_option maxRecDepth 20000 in
theorem c6_force {B : BX} {a : Nat → Nat} {M : S0} {p1 : Int32} {Q : Int32 → S0 → Prop} (h : w6_force  M p1 Q) : KI B (wl 12 a (shM B.2.1 a)) yX6_force cX6_force 3 (some .int) 1 25 [.ref (a 0), .int p1] M Q := by
  rw [w6_force] at h
  refine KI_of (by decide +kernel) (Nat.le_of_ble_eq_true rfl) (fun E C hR => ?_)
  change V B E 3 (wl 12 a (shM B.2.1 a) M) 0 [(0, .ref (a 0)), (1, .int p1)] []
  change Ok B E cX6_force 3 RX6 1 25 at C
  refine v_iload_n C 1 dX6_force_0 rfl rfl ?_
  refine v_i2l C dX6_force_1 ?_
  refine v_lconst C dX6_force_2 (v := (0 : Int64)) (by decide) ?_
  refine v_aload_n C 0 dX6_force_3 rfl rfl ?_
  refine fX6_6_g_textCount C dX6_force_4 ?_
  refine v_iconst C dX6_force_7 (v := (1 : Int32)) (by decide) ?_
  refine v_isub C dX6_force_8 ?_
  refine v_i2l C dX6_force_9 ?_
  refine v_callSi (As := [.long (Int32.toInt64 p1), .long (0 : Int64), .long (Int32.toInt64 ((M 0 3) - (1 : Int32)))]) (rest := []) C (c6_in  h) eX6_64 (by omega) (by omega) rfl rfl (Nat.le_of_ble_eq_true rfl) dX6_force_10 (fun r2 M1 h => ?_)
  refine v_if_ne C dX6_force_13 (tgt := 19) (by decide) (fun c => ?_) (fun c => ?_)
  · replace h := h.1 c
    refine v_aload_n C 0 dX6_force_19 rfl rfl ?_
    refine fX6_6_g_rule C dX6_force_20 ?_
    refine v_nmi (fun x3 ex3 => ?_)
    replace h := h x3 ex3
    refine v_istore_n (lv' := [(2, .int x3), (0, .ref (a 0)), (1, .int p1)]) C dX6_force_23 rfl (by decide) rfl ?_
    refine v_aload_n C 1 dX6_force_24 rfl rfl ?_
    refine v_iload_n C 2 dX6_force_25 rfl rfl ?_
    refine fX6_6_p_rule C dX6_force_26 (fun M4 eM4 => ?_)
    replace h := h M4 eM4
    refine v_iload_n C 0 dX6_force_29 rfl rfl ?_
    exact hR _ _ _ _ h dX6_force_30
  · replace h := h.2 c
    refine v_bipush C dX6_force_16 (v := (-2 : Int32)) (by decide) ?_
    exact hR _ _ _ _ h dX6_force_18
def w6_says (M : S0) (p1 : Int32) (p2 : Int32) (p3 : Int32) (Q : Int32 → S0 → Prop) : Prop :=
    (vp_in (((4 : Int32) * p2) + (1 : Int32)) 24) ∧ (∀ M2 : S0, M2 = up M 0 12 (M 5 (Int32.toNatClampNeg (((4 : Int32) * p2) + (1 : Int32)))) → (w6_hasMany M2 p2 (fun r4 M3 => ∀ M5 : S0, M5 = up M3 0 13 r4 → ((vp_in ((4 : Int32) * p2) 24) ∧ (∀ M7 : S0, M7 = up M5 0 14 (M5 5 (Int32.toNatClampNeg ((4 : Int32) * p2))) → ((vp_in (((4 : Int32) * p3) + (1 : Int32)) 24) ∧ (∀ M9 : S0, M9 = up M7 0 15 (M7 5 (Int32.toNatClampNeg (((4 : Int32) * p3) + (1 : Int32)))) → (∀ M10 : S0, M10 = up M9 0 16 (M9 0 7) → (w6_bitsOf M10 (M10 0 8) (fun r12 M11 => w6_hasMany M11 p3 (fun r14 M13 => ∀ M15 : S0, M15 = up M13 0 17 (r12 + r14) → (w6_read M15 (M15 0 4) p1 (fun r17 M16 => ((¬ p1 = 0) → (((¬ p1 = (2 : Int32)) → (Q r17 M16)) ∧ ((p1 = (2 : Int32)) → (w6_within M16 r17 (-9 : Int32) (9 : Int32) (fun r19 M18 => Q r19 M18))))) ∧ ((p1 = 0) → (w6_within M16 r17 (0 : Int32) (99 : Int32) (fun r21 M20 => Q r21 M20))))))))))))))))
set_option maxHeartbeats 4000000 in
set_option maxRecDepth 20000 in
theorem c6_says {B : BX} {a : Nat → Nat} {M : S0} {p1 : Int32} {p2 : Int32} {p3 : Int32} {Q : Int32 → S0 → Prop} (h : w6_says  M p1 p2 p3 Q) : KI B (wl 12 a (shM B.2.1 a)) yX6_says cX6_says 5 (some .int) 67 1540 [.ref (a 0), .int p1, .int p2, .int p3] M Q := by
  rw [w6_says] at h
  refine KI_of (by decide +kernel) (Nat.le_of_ble_eq_true rfl) (fun E C hR => ?_)
  change V B E 5 (wl 12 a (shM B.2.1 a) M) 0 [(0, .ref (a 0)), (1, .int p1), (2, .int p2), (3, .int p3)] []
  change Ok B E cX6_says 5 RX6 67 1540 at C
  refine v_aload_n C 0 dX6_says_0 rfl rfl ?_
  refine v_aload_n C 0 dX6_says_1 rfl rfl ?_
  refine fX6_6_g_rows C dX6_says_2 ?_
  refine v_iconst C dX6_says_5 (v := (4 : Int32)) (by decide) ?_
  refine v_iload_n C 2 dX6_says_6 rfl rfl ?_
  refine v_imul C dX6_says_7 ?_
  refine v_iconst C dX6_says_8 (v := (1 : Int32)) (by decide) ?_
  refine v_iadd C dX6_says_9 ?_
  obtain ⟨hi1, h⟩ := h
  refine v_iald (k := 5) C (by decide) rfl hi1 dX6_says_10 ?_
  refine fX6_6_p_ofStrong C dX6_says_11 (fun M2 eM2 => ?_)
  replace h := h M2 eM2
  refine v_aload_n C 0 dX6_says_14 rfl rfl ?_
  refine v_aload_n C 0 dX6_says_15 rfl rfl ?_
  refine v_iload_n C 2 dX6_says_16 rfl rfl ?_
  refine v_callVi (k := 0) (As := [.int p2]) (rest := [.ref (a 0)]) C (c6_hasMany  h) eX6_122 (by omega) (by omega) (by decide) rfl rfl rfl rfl (Nat.le_of_ble_eq_true rfl) dX6_says_17 (fun r4 M3 h => ?_)
  refine fX6_6_p_ofHas C dX6_says_20 (fun M5 eM5 => ?_)
  replace h := h M5 eM5
  refine v_aload_n C 0 dX6_says_23 rfl rfl ?_
  refine v_aload_n C 0 dX6_says_24 rfl rfl ?_
  refine fX6_6_g_rows C dX6_says_25 ?_
  refine v_iconst C dX6_says_28 (v := (4 : Int32)) (by decide) ?_
  refine v_iload_n C 2 dX6_says_29 rfl rfl ?_
  refine v_imul C dX6_says_30 ?_
  obtain ⟨hi6, h⟩ := h
  refine v_iald (k := 5) C (by decide) rfl hi6 dX6_says_31 ?_
  refine fX6_6_p_ofNumber C dX6_says_32 (fun M7 eM7 => ?_)
  replace h := h M7 eM7
  refine v_aload_n C 0 dX6_says_35 rfl rfl ?_
  refine v_aload_n C 0 dX6_says_36 rfl rfl ?_
  refine fX6_6_g_rows C dX6_says_37 ?_
  refine v_iconst C dX6_says_40 (v := (4 : Int32)) (by decide) ?_
  refine v_iload_n C 3 dX6_says_41 rfl rfl ?_
  refine v_imul C dX6_says_42 ?_
  refine v_iconst C dX6_says_43 (v := (1 : Int32)) (by decide) ?_
  refine v_iadd C dX6_says_44 ?_
  obtain ⟨hi8, h⟩ := h
  refine v_iald (k := 5) C (by decide) rfl hi8 dX6_says_45 ?_
  refine fX6_6_p_ofTheirs C dX6_says_46 (fun M9 eM9 => ?_)
  replace h := h M9 eM9
  refine v_aload_n C 0 dX6_says_49 rfl rfl ?_
  refine v_aload_n C 0 dX6_says_50 rfl rfl ?_
  refine fX6_6_g_roundNow C dX6_says_51 ?_
  refine fX6_6_p_ofRound C dX6_says_54 (fun M10 eM10 => ?_)
  replace h := h M10 eM10
  refine v_aload_n C 0 dX6_says_57 rfl rfl ?_
  refine v_aload_n C 0 dX6_says_58 rfl rfl ?_
  refine fX6_6_g_hall C dX6_says_59 ?_
  refine v_callSi (As := [.int (M10 0 8)]) (rest := [.ref (a 0)]) C (c6_bitsOf  h) eX6_116 (by omega) (by omega) rfl rfl (Nat.le_of_ble_eq_true rfl) dX6_says_62 (fun r12 M11 h => ?_)
  refine v_aload_n C 0 dX6_says_65 rfl rfl ?_
  refine v_iload_n C 3 dX6_says_66 rfl rfl ?_
  refine v_callVi (k := 0) (As := [.int p3]) (rest := [.int r12, .ref (a 0)]) C (c6_hasMany  h) eX6_122 (by omega) (by omega) (by decide) rfl rfl rfl rfl (Nat.le_of_ble_eq_true rfl) dX6_says_67 (fun r14 M13 h => ?_)
  refine v_iadd C dX6_says_70 ?_
  refine fX6_6_p_ofStake C dX6_says_71 (fun M15 eM15 => ?_)
  replace h := h M15 eM15
  refine v_aload_n C 0 dX6_says_74 rfl rfl ?_
  refine v_aload_n C 0 dX6_says_75 rfl rfl ?_
  refine fX6_6_g_rule C dX6_says_76 ?_
  refine v_iload_n C 1 dX6_says_79 rfl rfl ?_
  refine v_callVi (k := 0) (As := [.int (M15 0 4), .int p1]) (rest := []) C (c6_read  h) eX6_240 (by omega) (by omega) (by decide) rfl rfl rfl rfl (Nat.le_of_ble_eq_true rfl) dX6_says_80 (fun r17 M16 h => ?_)
  refine v_istore (lv' := [(4, .int r17), (0, .ref (a 0)), (1, .int p1), (2, .int p2), (3, .int p3)]) C dX6_says_83 (by decide) rfl ?_
  refine v_iload_n C 2 dX6_says_85 rfl rfl ?_
  refine v_if_ne C dX6_says_86 (tgt := 100) (by decide) (fun c => ?_) (fun c => ?_)
  · replace h := h.1 c
    refine v_iload_n C 2 dX6_says_100 rfl rfl ?_
    refine v_iconst C dX6_says_101 (v := (2 : Int32)) (by decide) ?_
    refine v_icmp_ne C dX6_says_102 (tgt := 117) (by decide) (fun c => ?_) (fun c => ?_)
    · replace h := h.1 c
      refine v_iload C 0 dX6_says_117 rfl ?_
      exact hR _ _ _ _ h dX6_says_119
    · replace h := h.2 c
      refine v_iload C 0 dX6_says_105 rfl ?_
      refine v_bipush C dX6_says_107 (v := (-9 : Int32)) (by decide) ?_
      refine v_bipush C dX6_says_109 (v := (9 : Int32)) (by decide) ?_
      refine v_callSi (As := [.int r17, .int (-9 : Int32), .int (9 : Int32)]) (rest := []) C (c6_within  h) eX6_243 (by omega) (by omega) rfl rfl (Nat.le_of_ble_eq_true rfl) dX6_says_111 (fun r19 M18 h => ?_)
      refine v_goto C dX6_says_114 (tgt := 119) (by decide) ?_
      exact hR _ _ _ _ h dX6_says_119
  · replace h := h.2 c
    refine v_iload C 0 dX6_says_89 rfl ?_
    refine v_iconst C dX6_says_91 (v := (0 : Int32)) (by decide) ?_
    refine v_bipush C dX6_says_92 (v := (99 : Int32)) (by decide) ?_
    refine v_callSi (As := [.int r17, .int (0 : Int32), .int (99 : Int32)]) (rest := []) C (c6_within  h) eX6_243 (by omega) (by omega) rfl rfl (Nat.le_of_ble_eq_true rfl) dX6_says_94 (fun r21 M20 h => ?_)
    refine v_goto C dX6_says_97 (tgt := 119) (by decide) ?_
    exact hR _ _ _ _ h dX6_says_119
def w6_throwsIt_b34 (Q : Int32 → S0 → Prop) (M : S0) (v1_34 : Int32) (v2_34 : Int32) (v3_34 : Int32) (u0_34 : Int32) : Prop :=
    ((u0_34 = 0) → (((¬ v3_34 = (1 : Int32)) → (((¬ v3_34 = (3 : Int32)) → ((narrow .boolean (.int u0_34) = .int u0_34) ∧ (Q u0_34 M))) ∧ ((v3_34 = (3 : Int32)) → (w6_has M v2_34 (fun r7 M6 => ((r7 = 0) → (Q (0 : Int32) M6)) ∧ ((¬ r7 = 0) → (Q (1 : Int32) M6))))))) ∧ ((v3_34 = (1 : Int32)) → (Q (0 : Int32) M)))) ∧ ((¬ u0_34 = 0) → (w6_hasMany M v1_34 (fun r9 M8 => (((4 : Int32) ≤ r9) → (((¬ v3_34 = (1 : Int32)) → (((¬ v3_34 = (3 : Int32)) → ((narrow .boolean (.int u0_34) = .int u0_34) ∧ (Q u0_34 M8))) ∧ ((v3_34 = (3 : Int32)) → (w6_has M8 v2_34 (fun r12 M11 => ((r12 = 0) → (Q (0 : Int32) M11)) ∧ ((¬ r12 = 0) → (Q (1 : Int32) M11))))))) ∧ ((v3_34 = (1 : Int32)) → (Q (0 : Int32) M8)))) ∧ ((¬ (4 : Int32) ≤ r9) → (((¬ v3_34 = (1 : Int32)) → (((¬ v3_34 = (3 : Int32)) → ((narrow .boolean (.int u0_34) = .int u0_34) ∧ (Q u0_34 M8))) ∧ ((v3_34 = (3 : Int32)) → (Q (1 : Int32) M8)))) ∧ ((v3_34 = (1 : Int32)) → (Q (1 : Int32) M8)))))))
set_option maxHeartbeats 4000000 in
set_option maxRecDepth 20000 in
theorem t6_throwsIt_b34 {B : BX} {E : EX} {a : Nat → Nat} {Q : Int32 → S0 → Prop} (C : Ok B E cX6_throwsIt 6 RX6 68 1564) (hR : RetZ B E cX6_throwsIt 6 (wl 12 a (shM B.2.1 a)) .boolean Q) : ∀ (M : S0) (v1_34 : Int32) (v2_34 : Int32) (v3_34 : Int32) (u0_34 : Int32), w6_throwsIt_b34   Q M v1_34 v2_34 v3_34 u0_34 → V B E 6 (wl 12 a (shM B.2.1 a) M) 34 [(0, .ref (a 0)), (1, .int v1_34), (2, .int v2_34), (3, .int v3_34)] [.int u0_34] := by
  intro M v1_34 v2_34 v3_34 u0_34  h
  rw [w6_throwsIt_b34] at h
  refine v_istore (lv' := [(4, .int u0_34), (0, .ref (a 0)), (1, .int v1_34), (2, .int v2_34), (3, .int v3_34)]) C dX6_throwsIt_34 (by decide) rfl ?_
  refine v_iload C 0 dX6_throwsIt_36 rfl ?_
  refine v_if_eq C dX6_throwsIt_38 (tgt := 54) (by decide) (fun c => ?_) (fun c => ?_)
  · replace h := h.1 c
    refine v_iconst C dX6_throwsIt_54 (v := (0 : Int32)) (by decide) ?_
    refine v_istore (lv' := [(5, .int (0 : Int32)), (4, .int u0_34), (0, .ref (a 0)), (1, .int v1_34), (2, .int v2_34), (3, .int v3_34)]) C dX6_throwsIt_55 (by decide) rfl ?_
    refine v_iload_n C 5 dX6_throwsIt_57 rfl rfl ?_
    refine v_iconst C dX6_throwsIt_58 (v := (1 : Int32)) (by decide) ?_
    refine v_icmp_ne C dX6_throwsIt_59 (tgt := 67) (by decide) (fun c => ?_) (fun c => ?_)
    · replace h := h.1 c
      refine v_iload_n C 5 dX6_throwsIt_67 rfl rfl ?_
      refine v_iconst C dX6_throwsIt_68 (v := (3 : Int32)) (by decide) ?_
      refine v_icmp_ne C dX6_throwsIt_69 (tgt := 93) (by decide) (fun c => ?_) (fun c => ?_)
      · replace h := h.1 c
        refine v_iload C 1 dX6_throwsIt_93 rfl ?_
        obtain ⟨hn5, h⟩ := h
        exact hR _ _ _ _ hn5 h dX6_throwsIt_95
      · replace h := h.2 c
        refine v_iload C 0 dX6_throwsIt_72 rfl ?_
        refine v_if_ne C dX6_throwsIt_74 (tgt := 85) (by decide) (fun c => absurd c (by decide)) (fun c => ?_)
        refine v_aload_n C 2 dX6_throwsIt_77 rfl rfl ?_
        refine v_iload_n C 4 dX6_throwsIt_78 rfl rfl ?_
        refine v_callVi (k := 0) (As := [.int v2_34]) (rest := []) C (c6_has  h) eX6_112 (by omega) (by omega) (by decide) rfl rfl rfl rfl (Nat.le_of_ble_eq_true rfl) dX6_throwsIt_79 (fun r7 M6 h => ?_)
        refine v_if_eq C dX6_throwsIt_82 (tgt := 89) (by decide) (fun c => ?_) (fun c => ?_)
        · replace h := h.1 c
          refine v_iconst C dX6_throwsIt_89 (v := (0 : Int32)) (by decide) ?_
          refine v_goto C dX6_throwsIt_90 (tgt := 95) (by decide) ?_
          exact hR _ _ _ _ rfl h dX6_throwsIt_95
        · replace h := h.2 c
          refine v_iconst C dX6_throwsIt_85 (v := (1 : Int32)) (by decide) ?_
          refine v_goto C dX6_throwsIt_86 (tgt := 95) (by decide) ?_
          exact hR _ _ _ _ rfl h dX6_throwsIt_95
    · replace h := h.2 c
      refine v_iload C 0 dX6_throwsIt_62 rfl ?_
      refine v_goto C dX6_throwsIt_64 (tgt := 95) (by decide) ?_
      exact hR _ _ _ _ rfl h dX6_throwsIt_95
  · replace h := h.2 c
    refine v_aload_n C 1 dX6_throwsIt_41 rfl rfl ?_
    refine v_iload_n C 2 dX6_throwsIt_42 rfl rfl ?_
    refine v_callVi (k := 0) (As := [.int v1_34]) (rest := []) C (c6_hasMany  h) eX6_122 (by omega) (by omega) (by decide) rfl rfl rfl rfl (Nat.le_of_ble_eq_true rfl) dX6_throwsIt_43 (fun r9 M8 h => ?_)
    refine v_iconst C dX6_throwsIt_46 (v := (4 : Int32)) (by decide) ?_
    refine v_icmp_ge C dX6_throwsIt_47 (tgt := 54) (by decide) (fun c => ?_) (fun c => ?_)
    · replace h := h.1 c
      refine v_iconst C dX6_throwsIt_54 (v := (0 : Int32)) (by decide) ?_
      refine v_istore (lv' := [(5, .int (0 : Int32)), (4, .int u0_34), (0, .ref (a 0)), (1, .int v1_34), (2, .int v2_34), (3, .int v3_34)]) C dX6_throwsIt_55 (by decide) rfl ?_
      refine v_iload_n C 5 dX6_throwsIt_57 rfl rfl ?_
      refine v_iconst C dX6_throwsIt_58 (v := (1 : Int32)) (by decide) ?_
      refine v_icmp_ne C dX6_throwsIt_59 (tgt := 67) (by decide) (fun c => ?_) (fun c => ?_)
      · replace h := h.1 c
        refine v_iload_n C 5 dX6_throwsIt_67 rfl rfl ?_
        refine v_iconst C dX6_throwsIt_68 (v := (3 : Int32)) (by decide) ?_
        refine v_icmp_ne C dX6_throwsIt_69 (tgt := 93) (by decide) (fun c => ?_) (fun c => ?_)
        · replace h := h.1 c
          refine v_iload C 1 dX6_throwsIt_93 rfl ?_
          obtain ⟨hn10, h⟩ := h
          exact hR _ _ _ _ hn10 h dX6_throwsIt_95
        · replace h := h.2 c
          refine v_iload C 0 dX6_throwsIt_72 rfl ?_
          refine v_if_ne C dX6_throwsIt_74 (tgt := 85) (by decide) (fun c => absurd c (by decide)) (fun c => ?_)
          refine v_aload_n C 2 dX6_throwsIt_77 rfl rfl ?_
          refine v_iload_n C 4 dX6_throwsIt_78 rfl rfl ?_
          refine v_callVi (k := 0) (As := [.int v2_34]) (rest := []) C (c6_has  h) eX6_112 (by omega) (by omega) (by decide) rfl rfl rfl rfl (Nat.le_of_ble_eq_true rfl) dX6_throwsIt_79 (fun r12 M11 h => ?_)
          refine v_if_eq C dX6_throwsIt_82 (tgt := 89) (by decide) (fun c => ?_) (fun c => ?_)
          · replace h := h.1 c
            refine v_iconst C dX6_throwsIt_89 (v := (0 : Int32)) (by decide) ?_
            refine v_goto C dX6_throwsIt_90 (tgt := 95) (by decide) ?_
            exact hR _ _ _ _ rfl h dX6_throwsIt_95
          · replace h := h.2 c
            refine v_iconst C dX6_throwsIt_85 (v := (1 : Int32)) (by decide) ?_
            refine v_goto C dX6_throwsIt_86 (tgt := 95) (by decide) ?_
            exact hR _ _ _ _ rfl h dX6_throwsIt_95
      · replace h := h.2 c
        refine v_iload C 0 dX6_throwsIt_62 rfl ?_
        refine v_goto C dX6_throwsIt_64 (tgt := 95) (by decide) ?_
        exact hR _ _ _ _ rfl h dX6_throwsIt_95
    · replace h := h.2 c
      refine v_iconst C dX6_throwsIt_50 (v := (1 : Int32)) (by decide) ?_
      refine v_goto C dX6_throwsIt_51 (tgt := 55) (by decide) ?_
      refine v_istore (lv' := [(5, .int (1 : Int32)), (4, .int u0_34), (0, .ref (a 0)), (1, .int v1_34), (2, .int v2_34), (3, .int v3_34)]) C dX6_throwsIt_55 (by decide) rfl ?_
      refine v_iload_n C 5 dX6_throwsIt_57 rfl rfl ?_
      refine v_iconst C dX6_throwsIt_58 (v := (1 : Int32)) (by decide) ?_
      refine v_icmp_ne C dX6_throwsIt_59 (tgt := 67) (by decide) (fun c => ?_) (fun c => ?_)
      · replace h := h.1 c
        refine v_iload_n C 5 dX6_throwsIt_67 rfl rfl ?_
        refine v_iconst C dX6_throwsIt_68 (v := (3 : Int32)) (by decide) ?_
        refine v_icmp_ne C dX6_throwsIt_69 (tgt := 93) (by decide) (fun c => ?_) (fun c => ?_)
        · replace h := h.1 c
          refine v_iload C 1 dX6_throwsIt_93 rfl ?_
          obtain ⟨hn13, h⟩ := h
          exact hR _ _ _ _ hn13 h dX6_throwsIt_95
        · replace h := h.2 c
          refine v_iload C 0 dX6_throwsIt_72 rfl ?_
          refine v_if_ne C dX6_throwsIt_74 (tgt := 85) (by decide) (fun c => ?_) (fun c => absurd c (by decide))
          refine v_iconst C dX6_throwsIt_85 (v := (1 : Int32)) (by decide) ?_
          refine v_goto C dX6_throwsIt_86 (tgt := 95) (by decide) ?_
          exact hR _ _ _ _ rfl h dX6_throwsIt_95
      · replace h := h.2 c
        refine v_iload C 0 dX6_throwsIt_62 rfl ?_
        refine v_goto C dX6_throwsIt_64 (tgt := 95) (by decide) ?_
        exact hR _ _ _ _ rfl h dX6_throwsIt_95
def w6_throwsIt (M : S0) (p1 : Int32) (p2 : Int32) (Q : Int32 → S0 → Prop) : Prop :=
    (vp_in p1 6) ∧ (∀ x2 : Int32, x2 = (M 4 (Int32.toNatClampNeg p1)) → (((x2 = (2 : Int32)) → (Q (0 : Int32) M)) ∧ ((¬ x2 = (2 : Int32)) → (((¬ x2 = (4 : Int32)) → (w6_says M (1 : Int32) p1 p2 (fun r4 M3 => ((r4 = 0) → (w6_throwsIt_b34   Q M3 p1 p2 x2 (0 : Int32))) ∧ ((¬ r4 = 0) → (w6_throwsIt_b34   Q M3 p1 p2 x2 (1 : Int32)))))) ∧ ((x2 = (4 : Int32)) → (Q (0 : Int32) M))))))
set_option maxHeartbeats 4000000 in
set_option maxRecDepth 20000 in
theorem c6_throwsIt {B : BX} {a : Nat → Nat} {M : S0} {p1 : Int32} {p2 : Int32} {Q : Int32 → S0 → Prop} (h : w6_throwsIt  M p1 p2 Q) : KI B (wl 12 a (shM B.2.1 a)) yX6_throwsIt cX6_throwsIt 6 (some .boolean) 68 1564 [.ref (a 0), .int p1, .int p2] M Q := by
  rw [w6_throwsIt] at h
  refine KZ_of (by decide +kernel) (Nat.le_of_ble_eq_true rfl) (fun E C hR => ?_)
  change V B E 6 (wl 12 a (shM B.2.1 a) M) 0 [(0, .ref (a 0)), (1, .int p1), (2, .int p2)] []
  change Ok B E cX6_throwsIt 6 RX6 68 1564 at C
  refine v_aload_n C 0 dX6_throwsIt_0 rfl rfl ?_
  refine fX6_6_g_kinds C dX6_throwsIt_1 ?_
  refine v_iload_n C 1 dX6_throwsIt_4 rfl rfl ?_
  obtain ⟨hi1, h⟩ := h
  refine v_iald (k := 4) C (by decide) rfl hi1 dX6_throwsIt_5 ?_
  refine v_nmi (fun x2 ex2 => ?_)
  replace h := h x2 ex2
  refine v_istore_n (lv' := [(3, .int x2), (0, .ref (a 0)), (1, .int p1), (2, .int p2)]) C dX6_throwsIt_6 rfl (by decide) rfl ?_
  refine v_iload_n C 0 dX6_throwsIt_7 rfl rfl ?_
  refine v_iconst C dX6_throwsIt_8 (v := (2 : Int32)) (by decide) ?_
  refine v_icmp_eq C dX6_throwsIt_9 (tgt := 17) (by decide) (fun c => ?_) (fun c => ?_)
  · replace h := h.1 c
    refine v_iconst C dX6_throwsIt_17 (v := (0 : Int32)) (by decide) ?_
    exact hR _ _ _ _ rfl h dX6_throwsIt_18
  · replace h := h.2 c
    refine v_iload_n C 0 dX6_throwsIt_12 rfl rfl ?_
    refine v_iconst C dX6_throwsIt_13 (v := (4 : Int32)) (by decide) ?_
    refine v_icmp_ne C dX6_throwsIt_14 (tgt := 19) (by decide) (fun c => ?_) (fun c => ?_)
    · replace h := h.1 c
      refine v_aload_n C 1 dX6_throwsIt_19 rfl rfl ?_
      refine v_iconst C dX6_throwsIt_20 (v := (1 : Int32)) (by decide) ?_
      refine v_iload_n C 2 dX6_throwsIt_21 rfl rfl ?_
      refine v_iload_n C 3 dX6_throwsIt_22 rfl rfl ?_
      refine v_callVi (k := 0) (As := [.int (1 : Int32), .int p1, .int p2]) (rest := []) C (c6_says  h) eX6_247 (by omega) (by omega) (by decide) rfl rfl rfl rfl (Nat.le_of_ble_eq_true rfl) dX6_throwsIt_23 (fun r4 M3 h => ?_)
      refine v_if_eq C dX6_throwsIt_26 (tgt := 33) (by decide) (fun c => ?_) (fun c => ?_)
      · replace h := h.1 c
        refine v_iconst C dX6_throwsIt_33 (v := (0 : Int32)) (by decide) ?_
        refine v_sub [1, 2, 3, 0] rfl ?_
        exact t6_throwsIt_b34   C hR  M3 p1 p2 x2 (0 : Int32)  h
      · replace h := h.2 c
        refine v_iconst C dX6_throwsIt_29 (v := (1 : Int32)) (by decide) ?_
        refine v_goto C dX6_throwsIt_30 (tgt := 34) (by decide) ?_
        refine v_sub [1, 2, 3, 0] rfl ?_
        exact t6_throwsIt_b34   C hR  M3 p1 p2 x2 (1 : Int32)  h
    · replace h := h.2 c
      refine v_iconst C dX6_throwsIt_17 (v := (0 : Int32)) (by decide) ?_
      exact hR _ _ _ _ rfl h dX6_throwsIt_18
