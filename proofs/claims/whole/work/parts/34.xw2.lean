def w0_tiring (g : GX) (b : Nat) (M : S0) (p1 : Int32) (p2 : Int32) (p3 : Int32) (Q : Int32 → S0 → Prop) : Prop :=
    w0_areTwo g b M p1 p2 (fun r2 M1 => ((¬ r2 = 0) → (w0_nameValues g b M1 p1 p2 (fun M3 => w4_valueOf g M3 (M3 b 9) (2 : Int32) (fun r5 M4 => w5_bounded g M4 r5 (-9 : Int32) (9 : Int32) (fun r7 M6 => w0_tiresBy g b M6 r7 p1 p3 (fun r9 M8 => w5_bounded g M8 r9 (-99 : Int32) (99 : Int32) (fun r11 M10 => Q r11 M10))))))) ∧ ((r2 = 0) → (Q (0 : Int32) M1)))
set_option maxHeartbeats 4000000 in
set_option maxRecDepth 20000 in
theorem c0_tiring {B : BX} {a : Nat → Nat} {g : GX} {b : Nat} {M : S0} {p1 : Int32} {p2 : Int32} {p3 : Int32} {Q : Int32 → S0 → Prop} (hp_b : isClub b) (h : w0_tiring g b M p1 p2 p3 Q) : KI B (wl (66 + 3 * g.2) a (shX B.2.1 a g.1)) yX0_tiring cX0_tiring 5 (some .int) 2 49 [.ref (a b), .int p1, .int p2, .int p3] M Q := by
  rw [w0_tiring] at h
  refine KI_of (by decide +kernel) (Nat.le_of_ble_eq_true rfl) (fun E C hR => ?_)
  change V B E 5 (wl (66 + 3 * g.2) a (shX B.2.1 a g.1) M) 0 [(0, .ref (a b)), (1, .int p1), (2, .int p2), (3, .int p3)] []
  change Ok B E cX0_tiring 5 RX0 2 49 at C
  refine v_aload_n C 0 dX0_tiring_0 rfl rfl ?_
  refine v_iload_n C 1 dX0_tiring_1 rfl rfl ?_
  refine v_iload_n C 2 dX0_tiring_2 rfl rfl ?_
  refine v_callVi (k := b) (As := [.int p1, .int p2]) (rest := []) C (c0_areTwo hp_b h) eX0_66 (by omega) (by omega) (xlt_c (j := 0) hp_b (by decide)) (sh_c0 hp_b _) rfl rfl rfl (Nat.le_of_ble_eq_true rfl) dX0_tiring_3 (fun r2 M1 h => ?_)
  refine v_if_ne C dX0_tiring_6 (tgt := 11) (by decide) (fun c => ?_) (fun c => ?_)
  · replace h := h.1 c
    refine v_aload_n C 0 dX0_tiring_11 rfl rfl ?_
    refine v_iload_n C 1 dX0_tiring_12 rfl rfl ?_
    refine v_iload_n C 2 dX0_tiring_13 rfl rfl ?_
    refine v_callVv (k := b) (As := [.int p1, .int p2]) (rest := []) C (c0_nameValues hp_b h) eX0_70 (by omega) (by omega) (xlt_c (j := 0) hp_b (by decide)) (sh_c0 hp_b _) rfl rfl rfl (Nat.le_of_ble_eq_true rfl) dX0_tiring_14 (fun M3 h => ?_)
    refine v_aload_n C 0 dX0_tiring_17 rfl rfl ?_
    refine fX0_0_g_texts C hp_b dX0_tiring_18 ?_
    refine v_aload_n C 0 dX0_tiring_21 rfl rfl ?_
    refine fX0_0_g_rule C hp_b dX0_tiring_22 ?_
    refine v_iconst C dX0_tiring_25 (v := (2 : Int32)) (by decide) ?_
    refine v_callVi (k := 1) (As := [.int (M3 b 9), .int (2 : Int32)]) (rest := []) C (c4_valueOf  h) eX0_74 (by omega) (by omega) (by omega) rfl rfl rfl rfl (Nat.le_of_ble_eq_true rfl) dX0_tiring_26 (fun r5 M4 h => ?_)
    refine v_bipush C dX0_tiring_29 (v := (-9 : Int32)) (by decide) ?_
    refine v_bipush C dX0_tiring_31 (v := (9 : Int32)) (by decide) ?_
    refine v_callNi (As := [.int r5, .int (-9 : Int32), .int (9 : Int32)]) (rest := []) C (c5_bounded  h) eX0_82 (by omega) (by omega) rfl rfl (Nat.le_of_ble_eq_true rfl) dX0_tiring_33 (fun r7 M6 h => ?_)
    refine v_istore (lv' := [(4, .int r7), (0, .ref (a b)), (1, .int p1), (2, .int p2), (3, .int p3)]) C dX0_tiring_36 (by decide) rfl ?_
    refine v_aload_n C 1 dX0_tiring_38 rfl rfl ?_
    refine v_iload C 0 dX0_tiring_39 rfl ?_
    refine v_iload_n C 2 dX0_tiring_41 rfl rfl ?_
    refine v_iload_n C 4 dX0_tiring_42 rfl rfl ?_
    refine v_callVi (k := b) (As := [.int r7, .int p1, .int p3]) (rest := []) C (c0_tiresBy hp_b h) eX0_89 (by omega) (by omega) (xlt_c (j := 0) hp_b (by decide)) (sh_c0 hp_b _) rfl rfl rfl (Nat.le_of_ble_eq_true rfl) dX0_tiring_43 (fun r9 M8 h => ?_)
    refine v_bipush C dX0_tiring_46 (v := (-99 : Int32)) (by decide) ?_
    refine v_bipush C dX0_tiring_48 (v := (99 : Int32)) (by decide) ?_
    refine v_callNi (As := [.int r9, .int (-99 : Int32), .int (99 : Int32)]) (rest := []) C (c5_bounded  h) eX0_82 (by omega) (by omega) rfl rfl (Nat.le_of_ble_eq_true rfl) dX0_tiring_50 (fun r11 M10 h => ?_)
    exact hR _ _ _ _ h dX0_tiring_53
  · replace h := h.2 c
    refine v_iconst C dX0_tiring_9 (v := (0 : Int32)) (by decide) ?_
    exact hR _ _ _ _ h dX0_tiring_10
def w0_winner (g : GX) (b : Nat) (M : S0) (p1 : Int32) (p2 : Int32) (Q : Int32 → S0 → Prop) : Prop :=
    w0_power g b M p1 p2 (fun r2 M1 => w0_power g b M1 p2 p1 (fun r4 M3 => ∀ x5 : Int32, x5 = (r2 - r4) → (((¬ x5 = 0) → (((x5 ≤ 0) → (Q p2 M3)) ∧ ((¬ x5 ≤ 0) → (Q p1 M3)))) ∧ ((x5 = 0) → (Q (-1 : Int32) M3)))))
set_option maxHeartbeats 4000000 in
set_option maxRecDepth 20000 in
theorem c0_winner {B : BX} {a : Nat → Nat} {g : GX} {b : Nat} {M : S0} {p1 : Int32} {p2 : Int32} {Q : Int32 → S0 → Prop} (hp_b : isClub b) (h : w0_winner g b M p1 p2 Q) : KI B (wl (66 + 3 * g.2) a (shX B.2.1 a g.1)) yX0_winner cX0_winner 4 (some .int) 3 72 [.ref (a b), .int p1, .int p2] M Q := by
  rw [w0_winner] at h
  refine KI_of (by decide +kernel) (Nat.le_of_ble_eq_true rfl) (fun E C hR => ?_)
  change V B E 4 (wl (66 + 3 * g.2) a (shX B.2.1 a g.1) M) 0 [(0, .ref (a b)), (1, .int p1), (2, .int p2)] []
  change Ok B E cX0_winner 4 RX0 3 72 at C
  refine v_aload_n C 0 dX0_winner_0 rfl rfl ?_
  refine v_iload_n C 1 dX0_winner_1 rfl rfl ?_
  refine v_iload_n C 2 dX0_winner_2 rfl rfl ?_
  refine v_callVi (k := b) (As := [.int p1, .int p2]) (rest := []) C (c0_power hp_b h) eX0_93 (by omega) (by omega) (xlt_c (j := 0) hp_b (by decide)) (sh_c0 hp_b _) rfl rfl rfl (Nat.le_of_ble_eq_true rfl) dX0_winner_3 (fun r2 M1 h => ?_)
  refine v_aload_n C 0 dX0_winner_6 rfl rfl ?_
  refine v_iload_n C 2 dX0_winner_7 rfl rfl ?_
  refine v_iload_n C 1 dX0_winner_8 rfl rfl ?_
  refine v_callVi (k := b) (As := [.int p2, .int p1]) (rest := [.int r2]) C (c0_power hp_b h) eX0_93 (by omega) (by omega) (xlt_c (j := 0) hp_b (by decide)) (sh_c0 hp_b _) rfl rfl rfl (Nat.le_of_ble_eq_true rfl) dX0_winner_9 (fun r4 M3 h => ?_)
  refine v_isub C dX0_winner_12 ?_
  refine v_nmi (fun x5 ex5 => ?_)
  replace h := h x5 ex5
  refine v_istore_n (lv' := [(3, .int x5), (0, .ref (a b)), (1, .int p1), (2, .int p2)]) C dX0_winner_13 rfl (by decide) rfl ?_
  refine v_iload_n C 0 dX0_winner_14 rfl rfl ?_
  refine v_if_ne C dX0_winner_15 (tgt := 22) (by decide) (fun c => ?_) (fun c => ?_)
  · replace h := h.1 c
    refine v_iload_n C 0 dX0_winner_22 rfl rfl ?_
    refine v_if_le C dX0_winner_23 (tgt := 30) (by decide) (fun c => ?_) (fun c => ?_)
    · replace h := h.1 c
      refine v_iload_n C 3 dX0_winner_30 rfl rfl ?_
      exact hR _ _ _ _ h dX0_winner_31
    · replace h := h.2 c
      refine v_iload_n C 2 dX0_winner_26 rfl rfl ?_
      refine v_goto C dX0_winner_27 (tgt := 31) (by decide) ?_
      exact hR _ _ _ _ h dX0_winner_31
  · replace h := h.2 c
    refine v_iconst C dX0_winner_18 (v := (-1 : Int32)) (by decide) ?_
    refine v_goto C dX0_winner_19 (tgt := 31) (by decide) ?_
    exact hR _ _ _ _ h dX0_winner_31
def w0_loses (g : GX) (b : Nat) (M : S0) (p1 : Int32) (p2 : Int32) (Q : S0 → Prop) : Prop :=
    (vp_in p1 6) ∧ ((vp_in p2 6) ∧ ((vp_in p1 6) ∧ (∀ M4 : S0, M4 = up M (b + 5) (Int32.toNatClampNeg p1) ((M (b + 5) (Int32.toNatClampNeg p1)) ||| ((M (b + 5) (Int32.toNatClampNeg p2)) ||| (M b 6))) → ((vp_in p2 6) ∧ (∀ M6 : S0, M6 = up M4 (b + 5) (Int32.toNatClampNeg p2) (0 : Int32) → (∀ M7 : S0, M7 = up M6 b 6 (0 : Int32) → ((vp_in p2 6) ∧ (w5_bounded g M7 ((M7 (b + 4) (Int32.toNatClampNeg p2)) + (1 : Int32)) (0 : Int32) (999 : Int32) (fun r10 M9 => (vp_in p2 6) ∧ (∀ M12 : S0, M12 = up M9 (b + 4) (Int32.toNatClampNeg p2) r10 → (Q M12)))))))))))
set_option maxHeartbeats 4000000 in
set_option maxRecDepth 20000 in
theorem c0_loses {B : BX} {a : Nat → Nat} {g : GX} {b : Nat} {M : S0} {p1 : Int32} {p2 : Int32} {Q : S0 → Prop} (hp_b : isClub b) (h : w0_loses g b M p1 p2 Q) : KV B (wl (66 + 3 * g.2) a (shX B.2.1 a g.1)) yX0_loses cX0_loses 3 none 1 22 [.ref (a b), .int p1, .int p2] M Q := by
  rw [w0_loses] at h
  refine KV_of (by decide +kernel) (Nat.le_of_ble_eq_true rfl) (fun E C hR => ?_)
  change V B E 3 (wl (66 + 3 * g.2) a (shX B.2.1 a g.1) M) 0 [(0, .ref (a b)), (1, .int p1), (2, .int p2)] []
  change Ok B E cX0_loses 3 RX0 1 22 at C
  refine v_aload_n C 0 dX0_loses_0 rfl rfl ?_
  refine fX0_0_g_has C hp_b dX0_loses_1 ?_
  refine v_iload_n C 1 dX0_loses_4 rfl rfl ?_
  refine v_dup2 C dX0_loses_5 rfl rfl ?_
  obtain ⟨hi1, h⟩ := h
  refine v_iald (k := (b + 5)) C (xlt_c hp_b (by decide)) (sh_ca (ca_of hp_b (by decide) (by decide)) _) hi1 dX0_loses_6 ?_
  refine v_aload_n C 0 dX0_loses_7 rfl rfl ?_
  refine fX0_0_g_has C hp_b dX0_loses_8 ?_
  refine v_iload_n C 2 dX0_loses_11 rfl rfl ?_
  obtain ⟨hi2, h⟩ := h
  refine v_iald (k := (b + 5)) C (xlt_c hp_b (by decide)) (sh_ca (ca_of hp_b (by decide) (by decide)) _) hi2 dX0_loses_12 ?_
  refine v_aload_n C 0 dX0_loses_13 rfl rfl ?_
  refine fX0_0_g_hall C hp_b dX0_loses_14 ?_
  refine v_ior C dX0_loses_17 ?_
  refine v_ior C dX0_loses_18 ?_
  obtain ⟨hi3, h⟩ := h
  refine v_iast (k := (b + 5)) C (xlt_c hp_b (by decide)) (sh_ca (ca_of hp_b (by decide) (by decide))) hi3 dX0_loses_19 ?_
  obtain ⟨M4, eM4⟩ : ∃ z : S0, z = up M (b + 5) (Int32.toNatClampNeg p1) ((M (b + 5) (Int32.toNatClampNeg p1)) ||| ((M (b + 5) (Int32.toNatClampNeg p2)) ||| (M b 6))) := ⟨_, rfl⟩
  rw [← eM4]
  replace h := h M4 eM4
  refine v_aload_n C 0 dX0_loses_20 rfl rfl ?_
  refine fX0_0_g_has C hp_b dX0_loses_21 ?_
  refine v_iload_n C 2 dX0_loses_24 rfl rfl ?_
  refine v_iconst C dX0_loses_25 (v := (0 : Int32)) (by decide) ?_
  obtain ⟨hi5, h⟩ := h
  refine v_iast (k := (b + 5)) C (xlt_c hp_b (by decide)) (sh_ca (ca_of hp_b (by decide) (by decide))) hi5 dX0_loses_26 ?_
  obtain ⟨M6, eM6⟩ : ∃ z : S0, z = up M4 (b + 5) (Int32.toNatClampNeg p2) (0 : Int32) := ⟨_, rfl⟩
  rw [← eM6]
  replace h := h M6 eM6
  refine v_aload_n C 0 dX0_loses_27 rfl rfl ?_
  refine v_iconst C dX0_loses_28 (v := (0 : Int32)) (by decide) ?_
  refine fX0_0_p_hall C hp_b dX0_loses_29 (fun M7 eM7 => ?_)
  replace h := h M7 eM7
  refine v_aload_n C 0 dX0_loses_32 rfl rfl ?_
  refine fX0_0_g_won C hp_b dX0_loses_33 ?_
  refine v_iload_n C 2 dX0_loses_36 rfl rfl ?_
  refine v_aload_n C 0 dX0_loses_37 rfl rfl ?_
  refine fX0_0_g_won C hp_b dX0_loses_38 ?_
  refine v_iload_n C 2 dX0_loses_41 rfl rfl ?_
  obtain ⟨hi8, h⟩ := h
  refine v_iald (k := (b + 4)) C (xlt_c hp_b (by decide)) (sh_ca (ca_of hp_b (by decide) (by decide)) _) hi8 dX0_loses_42 ?_
  refine v_iconst C dX0_loses_43 (v := (1 : Int32)) (by decide) ?_
  refine v_iadd C dX0_loses_44 ?_
  refine v_iconst C dX0_loses_45 (v := (0 : Int32)) (by decide) ?_
  refine v_sipush C dX0_loses_46 (v := (999 : Int32)) (by decide) ?_
  refine v_callNi (As := [.int ((M7 (b + 4) (Int32.toNatClampNeg p2)) + (1 : Int32)), .int (0 : Int32), .int (999 : Int32)]) (rest := [.int p2, .ref (a (b + 4))]) C (c5_bounded  h) eX0_82 (by omega) (by omega) rfl rfl (Nat.le_of_ble_eq_true rfl) dX0_loses_49 (fun r10 M9 h => ?_)
  obtain ⟨hi11, h⟩ := h
  refine v_iast (k := (b + 4)) C (xlt_c hp_b (by decide)) (sh_ca (ca_of hp_b (by decide) (by decide))) hi11 dX0_loses_52 ?_
  obtain ⟨M12, eM12⟩ : ∃ z : S0, z = up M9 (b + 4) (Int32.toNatClampNeg p2) r10 := ⟨_, rfl⟩
  rw [← eM12]
  replace h := h M12 eM12
  exact hR _ _ _ h dX0_loses_53
def w0_meet_b118 (g : GX) (b : Nat) (Q : Int32 → S0 → Prop) (M : S0) (v1_118 : Int32) (v2_118 : Int32) (v3_118 : Int32) (v4_118 : Int32) (v5_118 : Int32) : Prop :=
    (vp_in v1_118 6) ∧ (w5_bounded g M ((M (b + 3) (Int32.toNatClampNeg v1_118)) - v4_118) (0 : Int32) (99 : Int32) (fun r31 M30 => (vp_in v1_118 6) ∧ (∀ M33 : S0, M33 = up M30 (b + 3) (Int32.toNatClampNeg v1_118) r31 → ((vp_in v2_118 6) ∧ (w5_bounded g M33 ((M33 (b + 3) (Int32.toNatClampNeg v2_118)) - v5_118) (0 : Int32) (99 : Int32) (fun r36 M35 => (vp_in v2_118 6) ∧ (∀ M38 : S0, M38 = up M35 (b + 3) (Int32.toNatClampNeg v2_118) r36 → (∀ M39 : S0, M39 = up M38 b 8 ((M38 b 8) + (1 : Int32)) → (Q v3_118 M39)))))))))
set_option maxHeartbeats 4000000 in
set_option maxRecDepth 20000 in
theorem t0_meet_b118 {B : BX} {E : EX} {a : Nat → Nat} {g : GX} {b : Nat} {Q : Int32 → S0 → Prop} (hp_b : isClub b) (C : Ok B E cX0_meet 6 RX0 4 95) (hR : RetI B E cX0_meet 6 (wl (66 + 3 * g.2) a (shX B.2.1 a g.1)) Q) : ∀ (M : S0) (v1_118 : Int32) (v2_118 : Int32) (v3_118 : Int32) (v4_118 : Int32) (v5_118 : Int32), w0_meet_b118 g b  Q M v1_118 v2_118 v3_118 v4_118 v5_118 → V B E 6 (wl (66 + 3 * g.2) a (shX B.2.1 a g.1) M) 118 [(0, .ref (a b)), (1, .int v1_118), (2, .int v2_118), (3, .int v3_118), (4, .int v4_118), (5, .int v5_118)] [] := by
  intro M v1_118 v2_118 v3_118 v4_118 v5_118  h
  rw [w0_meet_b118] at h
  refine v_aload_n C 0 dX0_meet_118 rfl rfl ?_
  refine fX0_0_g_strong C hp_b dX0_meet_119 ?_
  refine v_iload_n C 1 dX0_meet_122 rfl rfl ?_
  refine v_aload_n C 0 dX0_meet_123 rfl rfl ?_
  refine fX0_0_g_strong C hp_b dX0_meet_124 ?_
  refine v_iload_n C 1 dX0_meet_127 rfl rfl ?_
  obtain ⟨hi29, h⟩ := h
  refine v_iald (k := (b + 3)) C (xlt_c hp_b (by decide)) (sh_ca (ca_of hp_b (by decide) (by decide)) _) hi29 dX0_meet_128 ?_
  refine v_iload C 4 dX0_meet_129 rfl ?_
  refine v_isub C dX0_meet_131 ?_
  refine v_iconst C dX0_meet_132 (v := (0 : Int32)) (by decide) ?_
  refine v_bipush C dX0_meet_133 (v := (99 : Int32)) (by decide) ?_
  refine v_callNi (As := [.int ((M (b + 3) (Int32.toNatClampNeg v1_118)) - v4_118), .int (0 : Int32), .int (99 : Int32)]) (rest := [.int v1_118, .ref (a (b + 3))]) C (c5_bounded  h) eX0_82 (by omega) (by omega) rfl rfl (Nat.le_of_ble_eq_true rfl) dX0_meet_135 (fun r31 M30 h => ?_)
  obtain ⟨hi32, h⟩ := h
  refine v_iast (k := (b + 3)) C (xlt_c hp_b (by decide)) (sh_ca (ca_of hp_b (by decide) (by decide))) hi32 dX0_meet_138 ?_
  obtain ⟨M33, eM33⟩ : ∃ z : S0, z = up M30 (b + 3) (Int32.toNatClampNeg v1_118) r31 := ⟨_, rfl⟩
  rw [← eM33]
  replace h := h M33 eM33
  refine v_aload_n C 0 dX0_meet_139 rfl rfl ?_
  refine fX0_0_g_strong C hp_b dX0_meet_140 ?_
  refine v_iload_n C 2 dX0_meet_143 rfl rfl ?_
  refine v_aload_n C 0 dX0_meet_144 rfl rfl ?_
  refine fX0_0_g_strong C hp_b dX0_meet_145 ?_
  refine v_iload_n C 2 dX0_meet_148 rfl rfl ?_
  obtain ⟨hi34, h⟩ := h
  refine v_iald (k := (b + 3)) C (xlt_c hp_b (by decide)) (sh_ca (ca_of hp_b (by decide) (by decide)) _) hi34 dX0_meet_149 ?_
  refine v_iload C 5 dX0_meet_150 rfl ?_
  refine v_isub C dX0_meet_152 ?_
  refine v_iconst C dX0_meet_153 (v := (0 : Int32)) (by decide) ?_
  refine v_bipush C dX0_meet_154 (v := (99 : Int32)) (by decide) ?_
  refine v_callNi (As := [.int ((M33 (b + 3) (Int32.toNatClampNeg v2_118)) - v5_118), .int (0 : Int32), .int (99 : Int32)]) (rest := [.int v2_118, .ref (a (b + 3))]) C (c5_bounded  h) eX0_82 (by omega) (by omega) rfl rfl (Nat.le_of_ble_eq_true rfl) dX0_meet_156 (fun r36 M35 h => ?_)
  obtain ⟨hi37, h⟩ := h
  refine v_iast (k := (b + 3)) C (xlt_c hp_b (by decide)) (sh_ca (ca_of hp_b (by decide) (by decide))) hi37 dX0_meet_159 ?_
  obtain ⟨M38, eM38⟩ : ∃ z : S0, z = up M35 (b + 3) (Int32.toNatClampNeg v2_118) r36 := ⟨_, rfl⟩
  rw [← eM38]
  replace h := h M38 eM38
  refine v_aload_n C 0 dX0_meet_160 rfl rfl ?_
  refine v_dup C dX0_meet_161 rfl ?_
  refine fX0_0_g_round C hp_b dX0_meet_162 ?_
  refine v_iconst C dX0_meet_165 (v := (1 : Int32)) (by decide) ?_
  refine v_iadd C dX0_meet_166 ?_
  refine fX0_0_p_round C hp_b dX0_meet_167 (fun M39 eM39 => ?_)
  replace h := h M39 eM39
  refine v_iload_n C 3 dX0_meet_170 rfl rfl ?_
  exact hR _ _ _ _ h dX0_meet_171
def w0_meet_b31 (g : GX) (b : Nat) (Q : Int32 → S0 → Prop) (M : S0) (v1_31 : Int32) (v2_31 : Int32) (v3_31 : Int32) (u0_31 : Int32) (u1_31 : Int32) (u2_31 : Int32) : Prop :=
    w0_tiring g b M u2_31 u1_31 u0_31 (fun r6 M5 => ((¬ v3_31 = v2_31) → (w0_tiring g b M5 v2_31 v1_31 (0 : Int32) (fun r8 M7 => ((¬ v3_31 = (-1 : Int32)) → (((¬ v3_31 = v1_31) → (w0_loses g b M7 v1_31 v2_31 (fun M9 => w0_meet_b118 g b  Q M9 v1_31 v2_31 v3_31 r6 r8))) ∧ ((v3_31 = v1_31) → (w0_loses g b M7 v2_31 v1_31 (fun M10 => w0_meet_b118 g b  Q M10 v1_31 v2_31 v3_31 r6 r8))))) ∧ ((v3_31 = (-1 : Int32)) → ((vp_in v1_31 6) ∧ ((vp_in v2_31 6) ∧ (∀ M13 : S0, M13 = up M7 b 6 ((M7 b 6) ||| ((M7 (b + 5) (Int32.toNatClampNeg v1_31)) ||| (M7 (b + 5) (Int32.toNatClampNeg v2_31)))) → ((vp_in v1_31 6) ∧ (∀ M15 : S0, M15 = up M13 (b + 5) (Int32.toNatClampNeg v1_31) (0 : Int32) → ((vp_in v2_31 6) ∧ (∀ M17 : S0, M17 = up M15 (b + 5) (Int32.toNatClampNeg v2_31) (0 : Int32) → (w0_meet_b118 g b  Q M17 v1_31 v2_31 v3_31 r6 r8)))))))))))) ∧ ((v3_31 = v2_31) → (w0_tiring g b M5 v2_31 v1_31 (1 : Int32) (fun r19 M18 => ((¬ v3_31 = (-1 : Int32)) → (((¬ v3_31 = v1_31) → (w0_loses g b M18 v1_31 v2_31 (fun M20 => w0_meet_b118 g b  Q M20 v1_31 v2_31 v3_31 r6 r19))) ∧ ((v3_31 = v1_31) → (w0_loses g b M18 v2_31 v1_31 (fun M21 => w0_meet_b118 g b  Q M21 v1_31 v2_31 v3_31 r6 r19))))) ∧ ((v3_31 = (-1 : Int32)) → ((vp_in v1_31 6) ∧ ((vp_in v2_31 6) ∧ (∀ M24 : S0, M24 = up M18 b 6 ((M18 b 6) ||| ((M18 (b + 5) (Int32.toNatClampNeg v1_31)) ||| (M18 (b + 5) (Int32.toNatClampNeg v2_31)))) → ((vp_in v1_31 6) ∧ (∀ M26 : S0, M26 = up M24 (b + 5) (Int32.toNatClampNeg v1_31) (0 : Int32) → ((vp_in v2_31 6) ∧ (∀ M28 : S0, M28 = up M26 (b + 5) (Int32.toNatClampNeg v2_31) (0 : Int32) → (w0_meet_b118 g b  Q M28 v1_31 v2_31 v3_31 r6 r19)))))))))))))
set_option maxHeartbeats 4000000 in
set_option maxRecDepth 20000 in
theorem t0_meet_b31 {B : BX} {E : EX} {a : Nat → Nat} {g : GX} {b : Nat} {Q : Int32 → S0 → Prop} (hp_b : isClub b) (C : Ok B E cX0_meet 6 RX0 4 95) (hR : RetI B E cX0_meet 6 (wl (66 + 3 * g.2) a (shX B.2.1 a g.1)) Q) : ∀ (M : S0) (v1_31 : Int32) (v2_31 : Int32) (v3_31 : Int32) (u0_31 : Int32) (u1_31 : Int32) (u2_31 : Int32), w0_meet_b31 g b  Q M v1_31 v2_31 v3_31 u0_31 u1_31 u2_31 → V B E 6 (wl (66 + 3 * g.2) a (shX B.2.1 a g.1) M) 31 [(0, .ref (a b)), (1, .int v1_31), (2, .int v2_31), (3, .int v3_31)] [.int u0_31, .int u1_31, .int u2_31, .ref (a b)] := by
  intro M v1_31 v2_31 v3_31 u0_31 u1_31 u2_31  h
  rw [w0_meet_b31] at h
  refine v_callVi (k := b) (As := [.int u2_31, .int u1_31, .int u0_31]) (rest := []) C (c0_tiring hp_b h) eX0_99 (by omega) (by omega) (xlt_c (j := 0) hp_b (by decide)) (sh_c0 hp_b _) rfl rfl rfl (Nat.le_of_ble_eq_true rfl) dX0_meet_31 (fun r6 M5 h => ?_)
  refine v_istore (lv' := [(4, .int r6), (0, .ref (a b)), (1, .int v1_31), (2, .int v2_31), (3, .int v3_31)]) C dX0_meet_34 (by decide) rfl ?_
  refine v_aload_n C 1 dX0_meet_36 rfl rfl ?_
  refine v_iload_n C 3 dX0_meet_37 rfl rfl ?_
  refine v_iload_n C 2 dX0_meet_38 rfl rfl ?_
  refine v_iload_n C 4 dX0_meet_39 rfl rfl ?_
  refine v_iload_n C 3 dX0_meet_40 rfl rfl ?_
  refine v_icmp_ne C dX0_meet_41 (tgt := 48) (by decide) (fun c => ?_) (fun c => ?_)
  · replace h := h.1 c
    refine v_iconst C dX0_meet_48 (v := (0 : Int32)) (by decide) ?_
    refine v_callVi (k := b) (As := [.int v2_31, .int v1_31, .int (0 : Int32)]) (rest := []) C (c0_tiring hp_b h) eX0_99 (by omega) (by omega) (xlt_c (j := 0) hp_b (by decide)) (sh_c0 hp_b _) rfl rfl rfl (Nat.le_of_ble_eq_true rfl) dX0_meet_49 (fun r8 M7 h => ?_)
    refine v_istore (lv' := [(5, .int r8), (4, .int r6), (0, .ref (a b)), (1, .int v1_31), (2, .int v2_31), (3, .int v3_31)]) C dX0_meet_52 (by decide) rfl ?_
    refine v_iload_n C 5 dX0_meet_54 rfl rfl ?_
    refine v_iconst C dX0_meet_55 (v := (-1 : Int32)) (by decide) ?_
    refine v_icmp_ne C dX0_meet_56 (tgt := 98) (by decide) (fun c => ?_) (fun c => ?_)
    · replace h := h.1 c
      refine v_iload_n C 5 dX0_meet_98 rfl rfl ?_
      refine v_iload_n C 3 dX0_meet_99 rfl rfl ?_
      refine v_icmp_ne C dX0_meet_100 (tgt := 112) (by decide) (fun c => ?_) (fun c => ?_)
      · replace h := h.1 c
        refine v_aload_n C 2 dX0_meet_112 rfl rfl ?_
        refine v_iload_n C 3 dX0_meet_113 rfl rfl ?_
        refine v_iload_n C 4 dX0_meet_114 rfl rfl ?_
        refine v_callVv (k := b) (As := [.int v1_31, .int v2_31]) (rest := []) C (c0_loses hp_b h) eX0_102 (by omega) (by omega) (xlt_c (j := 0) hp_b (by decide)) (sh_c0 hp_b _) rfl rfl rfl (Nat.le_of_ble_eq_true rfl) dX0_meet_115 (fun M9 h => ?_)
        refine v_sub [2, 3, 4, 5, 1, 0] rfl ?_
        exact t0_meet_b118 hp_b  C hR  M9 v1_31 v2_31 v3_31 r6 r8  h
      · replace h := h.2 c
        refine v_aload_n C 2 dX0_meet_103 rfl rfl ?_
        refine v_iload_n C 4 dX0_meet_104 rfl rfl ?_
        refine v_iload_n C 3 dX0_meet_105 rfl rfl ?_
        refine v_callVv (k := b) (As := [.int v2_31, .int v1_31]) (rest := []) C (c0_loses hp_b h) eX0_102 (by omega) (by omega) (xlt_c (j := 0) hp_b (by decide)) (sh_c0 hp_b _) rfl rfl rfl (Nat.le_of_ble_eq_true rfl) dX0_meet_106 (fun M10 h => ?_)
        refine v_goto C dX0_meet_109 (tgt := 118) (by decide) ?_
        refine v_sub [2, 3, 4, 5, 1, 0] rfl ?_
        exact t0_meet_b118 hp_b  C hR  M10 v1_31 v2_31 v3_31 r6 r8  h
    · replace h := h.2 c
      refine v_aload_n C 2 dX0_meet_59 rfl rfl ?_
      refine v_dup C dX0_meet_60 rfl ?_
      refine fX0_0_g_hall C hp_b dX0_meet_61 ?_
      refine v_aload_n C 2 dX0_meet_64 rfl rfl ?_
      refine fX0_0_g_has C hp_b dX0_meet_65 ?_
      refine v_iload_n C 3 dX0_meet_68 rfl rfl ?_
      obtain ⟨hi11, h⟩ := h
      refine v_iald (k := (b + 5)) C (xlt_c hp_b (by decide)) (sh_ca (ca_of hp_b (by decide) (by decide)) _) hi11 dX0_meet_69 ?_
      refine v_aload_n C 2 dX0_meet_70 rfl rfl ?_
      refine fX0_0_g_has C hp_b dX0_meet_71 ?_
      refine v_iload_n C 4 dX0_meet_74 rfl rfl ?_
      obtain ⟨hi12, h⟩ := h
      refine v_iald (k := (b + 5)) C (xlt_c hp_b (by decide)) (sh_ca (ca_of hp_b (by decide) (by decide)) _) hi12 dX0_meet_75 ?_
      refine v_ior C dX0_meet_76 ?_
      refine v_ior C dX0_meet_77 ?_
      refine fX0_0_p_hall C hp_b dX0_meet_78 (fun M13 eM13 => ?_)
      replace h := h M13 eM13
      refine v_aload_n C 2 dX0_meet_81 rfl rfl ?_
      refine fX0_0_g_has C hp_b dX0_meet_82 ?_
      refine v_iload_n C 3 dX0_meet_85 rfl rfl ?_
      refine v_iconst C dX0_meet_86 (v := (0 : Int32)) (by decide) ?_
      obtain ⟨hi14, h⟩ := h
      refine v_iast (k := (b + 5)) C (xlt_c hp_b (by decide)) (sh_ca (ca_of hp_b (by decide) (by decide))) hi14 dX0_meet_87 ?_
      obtain ⟨M15, eM15⟩ : ∃ z : S0, z = up M13 (b + 5) (Int32.toNatClampNeg v1_31) (0 : Int32) := ⟨_, rfl⟩
      rw [← eM15]
      replace h := h M15 eM15
      refine v_aload_n C 2 dX0_meet_88 rfl rfl ?_
      refine fX0_0_g_has C hp_b dX0_meet_89 ?_
      refine v_iload_n C 4 dX0_meet_92 rfl rfl ?_
      refine v_iconst C dX0_meet_93 (v := (0 : Int32)) (by decide) ?_
      obtain ⟨hi16, h⟩ := h
      refine v_iast (k := (b + 5)) C (xlt_c hp_b (by decide)) (sh_ca (ca_of hp_b (by decide) (by decide))) hi16 dX0_meet_94 ?_
      obtain ⟨M17, eM17⟩ : ∃ z : S0, z = up M15 (b + 5) (Int32.toNatClampNeg v2_31) (0 : Int32) := ⟨_, rfl⟩
      rw [← eM17]
      replace h := h M17 eM17
      refine v_goto C dX0_meet_95 (tgt := 118) (by decide) ?_
      refine v_sub [2, 3, 4, 5, 1, 0] rfl ?_
      exact t0_meet_b118 hp_b  C hR  M17 v1_31 v2_31 v3_31 r6 r8  h
  · replace h := h.2 c
    refine v_iconst C dX0_meet_44 (v := (1 : Int32)) (by decide) ?_
    refine v_goto C dX0_meet_45 (tgt := 49) (by decide) ?_
    refine v_callVi (k := b) (As := [.int v2_31, .int v1_31, .int (1 : Int32)]) (rest := []) C (c0_tiring hp_b h) eX0_99 (by omega) (by omega) (xlt_c (j := 0) hp_b (by decide)) (sh_c0 hp_b _) rfl rfl rfl (Nat.le_of_ble_eq_true rfl) dX0_meet_49 (fun r19 M18 h => ?_)
    refine v_istore (lv' := [(5, .int r19), (4, .int r6), (0, .ref (a b)), (1, .int v1_31), (2, .int v2_31), (3, .int v3_31)]) C dX0_meet_52 (by decide) rfl ?_
    refine v_iload_n C 5 dX0_meet_54 rfl rfl ?_
    refine v_iconst C dX0_meet_55 (v := (-1 : Int32)) (by decide) ?_
    refine v_icmp_ne C dX0_meet_56 (tgt := 98) (by decide) (fun c => ?_) (fun c => ?_)
    · replace h := h.1 c
      refine v_iload_n C 5 dX0_meet_98 rfl rfl ?_
      refine v_iload_n C 3 dX0_meet_99 rfl rfl ?_
      refine v_icmp_ne C dX0_meet_100 (tgt := 112) (by decide) (fun c => ?_) (fun c => ?_)
      · replace h := h.1 c
        refine v_aload_n C 2 dX0_meet_112 rfl rfl ?_
        refine v_iload_n C 3 dX0_meet_113 rfl rfl ?_
        refine v_iload_n C 4 dX0_meet_114 rfl rfl ?_
        refine v_callVv (k := b) (As := [.int v1_31, .int v2_31]) (rest := []) C (c0_loses hp_b h) eX0_102 (by omega) (by omega) (xlt_c (j := 0) hp_b (by decide)) (sh_c0 hp_b _) rfl rfl rfl (Nat.le_of_ble_eq_true rfl) dX0_meet_115 (fun M20 h => ?_)
        refine v_sub [2, 3, 4, 5, 1, 0] rfl ?_
        exact t0_meet_b118 hp_b  C hR  M20 v1_31 v2_31 v3_31 r6 r19  h
      · replace h := h.2 c
        refine v_aload_n C 2 dX0_meet_103 rfl rfl ?_
        refine v_iload_n C 4 dX0_meet_104 rfl rfl ?_
        refine v_iload_n C 3 dX0_meet_105 rfl rfl ?_
        refine v_callVv (k := b) (As := [.int v2_31, .int v1_31]) (rest := []) C (c0_loses hp_b h) eX0_102 (by omega) (by omega) (xlt_c (j := 0) hp_b (by decide)) (sh_c0 hp_b _) rfl rfl rfl (Nat.le_of_ble_eq_true rfl) dX0_meet_106 (fun M21 h => ?_)
        refine v_goto C dX0_meet_109 (tgt := 118) (by decide) ?_
        refine v_sub [2, 3, 4, 5, 1, 0] rfl ?_
        exact t0_meet_b118 hp_b  C hR  M21 v1_31 v2_31 v3_31 r6 r19  h
    · replace h := h.2 c
      refine v_aload_n C 2 dX0_meet_59 rfl rfl ?_
      refine v_dup C dX0_meet_60 rfl ?_
      refine fX0_0_g_hall C hp_b dX0_meet_61 ?_
      refine v_aload_n C 2 dX0_meet_64 rfl rfl ?_
      refine fX0_0_g_has C hp_b dX0_meet_65 ?_
      refine v_iload_n C 3 dX0_meet_68 rfl rfl ?_
      obtain ⟨hi22, h⟩ := h
      refine v_iald (k := (b + 5)) C (xlt_c hp_b (by decide)) (sh_ca (ca_of hp_b (by decide) (by decide)) _) hi22 dX0_meet_69 ?_
      refine v_aload_n C 2 dX0_meet_70 rfl rfl ?_
      refine fX0_0_g_has C hp_b dX0_meet_71 ?_
      refine v_iload_n C 4 dX0_meet_74 rfl rfl ?_
      obtain ⟨hi23, h⟩ := h
      refine v_iald (k := (b + 5)) C (xlt_c hp_b (by decide)) (sh_ca (ca_of hp_b (by decide) (by decide)) _) hi23 dX0_meet_75 ?_
      refine v_ior C dX0_meet_76 ?_
      refine v_ior C dX0_meet_77 ?_
      refine fX0_0_p_hall C hp_b dX0_meet_78 (fun M24 eM24 => ?_)
      replace h := h M24 eM24
      refine v_aload_n C 2 dX0_meet_81 rfl rfl ?_
      refine fX0_0_g_has C hp_b dX0_meet_82 ?_
      refine v_iload_n C 3 dX0_meet_85 rfl rfl ?_
      refine v_iconst C dX0_meet_86 (v := (0 : Int32)) (by decide) ?_
      obtain ⟨hi25, h⟩ := h
      refine v_iast (k := (b + 5)) C (xlt_c hp_b (by decide)) (sh_ca (ca_of hp_b (by decide) (by decide))) hi25 dX0_meet_87 ?_
      obtain ⟨M26, eM26⟩ : ∃ z : S0, z = up M24 (b + 5) (Int32.toNatClampNeg v1_31) (0 : Int32) := ⟨_, rfl⟩
      rw [← eM26]
      replace h := h M26 eM26
      refine v_aload_n C 2 dX0_meet_88 rfl rfl ?_
      refine fX0_0_g_has C hp_b dX0_meet_89 ?_
      refine v_iload_n C 4 dX0_meet_92 rfl rfl ?_
      refine v_iconst C dX0_meet_93 (v := (0 : Int32)) (by decide) ?_
      obtain ⟨hi27, h⟩ := h
      refine v_iast (k := (b + 5)) C (xlt_c hp_b (by decide)) (sh_ca (ca_of hp_b (by decide) (by decide))) hi27 dX0_meet_94 ?_
      obtain ⟨M28, eM28⟩ : ∃ z : S0, z = up M26 (b + 5) (Int32.toNatClampNeg v2_31) (0 : Int32) := ⟨_, rfl⟩
      rw [← eM28]
      replace h := h M28 eM28
      refine v_goto C dX0_meet_95 (tgt := 118) (by decide) ?_
      refine v_sub [2, 3, 4, 5, 1, 0] rfl ?_
      exact t0_meet_b118 hp_b  C hR  M28 v1_31 v2_31 v3_31 r6 r19  h
def w0_meet (g : GX) (b : Nat) (M : S0) (p1 : Int32) (p2 : Int32) (Q : Int32 → S0 → Prop) : Prop :=
    w0_areTwo g b M p1 p2 (fun r2 M1 => ((¬ r2 = 0) → (w0_winner g b M1 p1 p2 (fun r4 M3 => ((¬ r4 = p1) → (w0_meet_b31 g b  Q M3 p1 p2 r4 (0 : Int32) p2 p1)) ∧ ((r4 = p1) → (w0_meet_b31 g b  Q M3 p1 p2 r4 (1 : Int32) p2 p1))))) ∧ ((r2 = 0) → (Q (-1 : Int32) M1)))
set_option maxHeartbeats 4000000 in
set_option maxRecDepth 20000 in
theorem c0_meet {B : BX} {a : Nat → Nat} {g : GX} {b : Nat} {M : S0} {p1 : Int32} {p2 : Int32} {Q : Int32 → S0 → Prop} (hp_b : isClub b) (h : w0_meet g b M p1 p2 Q) : KI B (wl (66 + 3 * g.2) a (shX B.2.1 a g.1)) yX0_meet cX0_meet 6 (some .int) 4 95 [.ref (a b), .int p1, .int p2] M Q := by
  rw [w0_meet] at h
  refine KI_of (by decide +kernel) (Nat.le_of_ble_eq_true rfl) (fun E C hR => ?_)
  change V B E 6 (wl (66 + 3 * g.2) a (shX B.2.1 a g.1) M) 0 [(0, .ref (a b)), (1, .int p1), (2, .int p2)] []
  change Ok B E cX0_meet 6 RX0 4 95 at C
  refine v_aload_n C 0 dX0_meet_0 rfl rfl ?_
  refine v_iload_n C 1 dX0_meet_1 rfl rfl ?_
  refine v_iload_n C 2 dX0_meet_2 rfl rfl ?_
  refine v_callVi (k := b) (As := [.int p1, .int p2]) (rest := []) C (c0_areTwo hp_b h) eX0_66 (by omega) (by omega) (xlt_c (j := 0) hp_b (by decide)) (sh_c0 hp_b _) rfl rfl rfl (Nat.le_of_ble_eq_true rfl) dX0_meet_3 (fun r2 M1 h => ?_)
  refine v_if_ne C dX0_meet_6 (tgt := 11) (by decide) (fun c => ?_) (fun c => ?_)
  · replace h := h.1 c
    refine v_aload_n C 0 dX0_meet_11 rfl rfl ?_
    refine v_iload_n C 1 dX0_meet_12 rfl rfl ?_
    refine v_iload_n C 2 dX0_meet_13 rfl rfl ?_
    refine v_callVi (k := b) (As := [.int p1, .int p2]) (rest := []) C (c0_winner hp_b h) eX0_96 (by omega) (by omega) (xlt_c (j := 0) hp_b (by decide)) (sh_c0 hp_b _) rfl rfl rfl (Nat.le_of_ble_eq_true rfl) dX0_meet_14 (fun r4 M3 h => ?_)
    refine v_istore_n (lv' := [(3, .int r4), (0, .ref (a b)), (1, .int p1), (2, .int p2)]) C dX0_meet_17 rfl (by decide) rfl ?_
    refine v_aload_n C 1 dX0_meet_18 rfl rfl ?_
    refine v_iload_n C 2 dX0_meet_19 rfl rfl ?_
    refine v_iload_n C 3 dX0_meet_20 rfl rfl ?_
    refine v_iload_n C 0 dX0_meet_21 rfl rfl ?_
    refine v_iload_n C 2 dX0_meet_22 rfl rfl ?_
    refine v_icmp_ne C dX0_meet_23 (tgt := 30) (by decide) (fun c => ?_) (fun c => ?_)
    · replace h := h.1 c
      refine v_iconst C dX0_meet_30 (v := (0 : Int32)) (by decide) ?_
      refine v_sub [1, 2, 3, 0] rfl ?_
      exact t0_meet_b31 hp_b  C hR  M3 p1 p2 r4 (0 : Int32) p2 p1  h
    · replace h := h.2 c
      refine v_iconst C dX0_meet_26 (v := (1 : Int32)) (by decide) ?_
      refine v_goto C dX0_meet_27 (tgt := 31) (by decide) ?_
      refine v_sub [1, 2, 3, 0] rfl ?_
      exact t0_meet_b31 hp_b  C hR  M3 p1 p2 r4 (1 : Int32) p2 p1  h
  · replace h := h.2 c
    refine v_iconst C dX0_meet_9 (v := (-1 : Int32)) (by decide) ?_
    exact hR _ _ _ _ h dX0_meet_10
def w1_append (M : S0) (p1 : Int32) (Q : Int32 → S0 → Prop) : Prop :=
    (((M 0 1) < 0) → (Q (0 : Int32) M)) ∧ ((¬ (M 0 1) < 0) → ((((M 0 1) < (160 : Int32)) → ((vp_in (M 0 1) 160) ∧ (∀ M2 : S0, M2 = up M 1 (Int32.toNatClampNeg (M 0 1)) p1 → (∀ M3 : S0, M3 = up M2 0 1 ((M2 0 1) + (1 : Int32)) → (Q (1 : Int32) M3))))) ∧ ((¬ (M 0 1) < (160 : Int32)) → (Q (0 : Int32) M))))
set_option maxHeartbeats 4000000 in
set_option maxRecDepth 20000 in
theorem c1_append {B : BX} {a : Nat → Nat} {M : S0} {p1 : Int32} {Q : Int32 → S0 → Prop} (h : w1_append  M p1 Q) : KI B (wl 3 a (shR B.2.1 a)) yX1_append cX1_append 2 (some .boolean) 0 0 [.ref (a 0), .int p1] M Q := by
  rw [w1_append] at h
  refine KZ_of (by decide +kernel) (Nat.le_of_ble_eq_true rfl) (fun E C hR => ?_)
  change V B E 2 (wl 3 a (shR B.2.1 a) M) 0 [(0, .ref (a 0)), (1, .int p1)] []
  change Ok B E cX1_append 2 RX1 0 0 at C
  refine v_aload_n C 0 dX1_append_0 rfl rfl ?_
  refine fX1_1_g_size C dX1_append_1 ?_
  refine v_if_lt C dX1_append_4 (tgt := 17) (by decide) (fun c => ?_) (fun c => ?_)
  · replace h := h.1 c
    refine v_iconst C dX1_append_17 (v := (0 : Int32)) (by decide) ?_
    exact hR _ _ _ _ rfl h dX1_append_18
  · replace h := h.2 c
    refine v_aload_n C 0 dX1_append_7 rfl rfl ?_
    refine fX1_1_g_size C dX1_append_8 ?_
    refine v_sipush C dX1_append_11 (v := (160 : Int32)) (by decide) ?_
    refine v_icmp_lt C dX1_append_14 (tgt := 19) (by decide) (fun c => ?_) (fun c => ?_)
    · replace h := h.1 c
      refine v_aload_n C 0 dX1_append_19 rfl rfl ?_
      refine fX1_1_g_tape C dX1_append_20 ?_
      refine v_aload_n C 0 dX1_append_23 rfl rfl ?_
      refine fX1_1_g_size C dX1_append_24 ?_
      refine v_iload_n C 1 dX1_append_27 rfl rfl ?_
      obtain ⟨hi1, h⟩ := h
      refine v_iast (k := 1) C (by decide) (fun _ => rfl) hi1 dX1_append_28 ?_
      obtain ⟨M2, eM2⟩ : ∃ z : S0, z = up M 1 (Int32.toNatClampNeg (M 0 1)) p1 := ⟨_, rfl⟩
      rw [← eM2]
      replace h := h M2 eM2
      refine v_aload_n C 0 dX1_append_29 rfl rfl ?_
      refine v_dup C dX1_append_30 rfl ?_
      refine fX1_1_g_size C dX1_append_31 ?_
      refine v_iconst C dX1_append_34 (v := (1 : Int32)) (by decide) ?_
      refine v_iadd C dX1_append_35 ?_
      refine fX1_1_p_size C dX1_append_36 (fun M3 eM3 => ?_)
      replace h := h M3 eM3
      refine v_iconst C dX1_append_39 (v := (1 : Int32)) (by decide) ?_
      exact hR _ _ _ _ rfl h dX1_append_40
    · replace h := h.2 c
      refine v_iconst C dX1_append_17 (v := (0 : Int32)) (by decide) ?_
      exact hR _ _ _ _ rfl h dX1_append_18
def w1_write_b2 (q1 : Nat) (Q : S0 → Prop) : Nat → S0 → Int32 → Prop
  | 0, _, _ => False
  | n + 1, M, v2_2 =>
    (((nI (sLen.getD q1 0)) ≤ v2_2) → (Q M)) ∧ ((¬ (nI (sLen.getD q1 0)) ≤ v2_2) → ((vp_in v2_2 (sLen.getD q1 0)) ∧ (w1_append M (sCh q1 (Int32.toNatClampNeg v2_2)) (fun r4 M3 => ∀ x5 : Int32, x5 = v2_2 + (1 : Int32) → (w1_write_b2 q1  Q n M3 x5)))))
set_option maxHeartbeats 4000000 in
set_option maxRecDepth 20000 in
theorem t1_write_b2 {B : BX} {E : EX} {a : Nat → Nat} {q1 : Nat} {Q : S0 → Prop} (hp_q1 : q1 < 13) (C : Ok B E cX1_write 3 RX1 8 300) (hR : RetV B E cX1_write 3 (wl 3 a (shR B.2.1 a)) Q) : ∀ (n : Nat) (M : S0) (v2_2 : Int32), w1_write_b2 q1  Q n M v2_2 → V B E 3 (wl 3 a (shR B.2.1 a) M) 2 [(0, .ref (a 0)), (1, .ref (B.2.2.1 q1)), (2, .int v2_2)] [] := by
  intro n
  induction n with
  | zero =>
    intro M v2_2  h
    exact h.elim
  | succ n ih =>
    intro M v2_2  h
    rw [w1_write_b2] at h
    refine v_iload_n C 2 dX1_write_2 rfl rfl ?_
    refine v_aload_n C 1 dX1_write_3 rfl rfl ?_
    refine v_slen C (i := q1) hp_q1 dX1_write_4 eX1_len (by omega) (by omega) (rest := [.int v2_2]) (Nat.le_of_ble_eq_true rfl) ?_
    refine v_icmp_ge C dX1_write_7 (tgt := 26) (by decide) (fun c => ?_) (fun c => ?_)
    · replace h := h.1 c
      exact hR _ _ _ h dX1_write_26
    · replace h := h.2 c
      refine v_aload_n C 0 dX1_write_10 rfl rfl ?_
      refine v_aload_n C 1 dX1_write_11 rfl rfl ?_
      refine v_iload_n C 2 dX1_write_12 rfl rfl ?_
      obtain ⟨hi2, h⟩ := h
      refine v_schar C (i := q1) hp_q1 hi2 dX1_write_13 eX1_chr (by omega) (by omega) (rest := [.ref (a 0)]) (Nat.le_of_ble_eq_true rfl) ?_
      refine v_callVi (k := 0) (As := [.int (sCh q1 (Int32.toNatClampNeg v2_2))]) (rest := []) C (c1_append  h) eX1_50 (by omega) (by omega) (by decide) rfl rfl rfl rfl (Nat.le_of_ble_eq_true rfl) dX1_write_16 (fun r4 M3 h => ?_)
      refine v_pop C dX1_write_19 rfl ?_
      obtain ⟨x5, ex5⟩ : ∃ z : Int32, z = v2_2 + (1 : Int32) := ⟨_, rfl⟩
      replace h := h x5 ex5
      refine v_iinc (v := x5) (lv' := [(2, .int x5), (0, .ref (a 0)), (1, .ref (B.2.2.1 q1))]) C 2 dX1_write_20 rfl (by rw [ex5]; rfl) (by decide) rfl ?_
      refine v_goto C dX1_write_23 (tgt := 2) (by decide) ?_
      refine v_sub [1, 2, 0] rfl ?_
      exact ih M3 x5  h
def w1_write (q1 : Nat) (M : S0) (Q : S0 → Prop) : Prop :=
    ∃ n1, w1_write_b2 q1  Q n1 M (0 : Int32)
set_option maxHeartbeats 4000000 in
set_option maxRecDepth 20000 in
theorem c1_write {B : BX} {a : Nat → Nat} {q1 : Nat} {M : S0} {Q : S0 → Prop} (hp_q1 : q1 < 13) (h : w1_write q1 M  Q) : KV B (wl 3 a (shR B.2.1 a)) yX1_write cX1_write 3 none 8 300 [.ref (a 0), .ref (B.2.2.1 q1)] M Q := by
  rw [w1_write] at h
  refine KV_of (by decide +kernel) (Nat.le_of_ble_eq_true rfl) (fun E C hR => ?_)
  change V B E 3 (wl 3 a (shR B.2.1 a) M) 0 [(0, .ref (a 0)), (1, .ref (B.2.2.1 q1))] []
  change Ok B E cX1_write 3 RX1 8 300 at C
  refine v_iconst C dX1_write_0 (v := (0 : Int32)) (by decide) ?_
  refine v_istore_n (lv' := [(2, .int (0 : Int32)), (0, .ref (a 0)), (1, .ref (B.2.2.1 q1))]) C dX1_write_1 rfl (by decide) rfl ?_
  obtain ⟨n1, h⟩ := h
  refine v_sub [1, 2, 0] rfl ?_
  exact t1_write_b2 hp_q1  C hR  n1 M (0 : Int32)  h
def w1_byteAt (M : S0) (p1 : Int32) (Q : Int32 → S0 → Prop) : Prop :=
    ((p1 < 0) → (Q (-1 : Int32) M)) ∧ ((¬ p1 < 0) → ((((M 0 1) ≤ p1) → (Q (-1 : Int32) M)) ∧ ((¬ (M 0 1) ≤ p1) → ((((160 : Int32) ≤ p1) → (Q (-1 : Int32) M)) ∧ ((¬ (160 : Int32) ≤ p1) → ((vp_in p1 160) ∧ (Q (M 1 (Int32.toNatClampNeg p1)) M)))))))
set_option maxHeartbeats 4000000 in
set_option maxRecDepth 20000 in
theorem c1_byteAt {B : BX} {a : Nat → Nat} {M : S0} {p1 : Int32} {Q : Int32 → S0 → Prop} (h : w1_byteAt  M p1 Q) : KI B (wl 3 a (shR B.2.1 a)) yX1_byteAt cX1_byteAt 2 (some .int) 0 0 [.ref (a 0), .int p1] M Q := by
  rw [w1_byteAt] at h
  refine KI_of (by decide +kernel) (Nat.le_of_ble_eq_true rfl) (fun E C hR => ?_)
  change V B E 2 (wl 3 a (shR B.2.1 a) M) 0 [(0, .ref (a 0)), (1, .int p1)] []
  change Ok B E cX1_byteAt 2 RX1 0 0 at C
  refine v_iload_n C 1 dX1_byteAt_0 rfl rfl ?_
  refine v_if_lt C dX1_byteAt_1 (tgt := 28) (by decide) (fun c => ?_) (fun c => ?_)
  · replace h := h.1 c
    refine v_iconst C dX1_byteAt_28 (v := (-1 : Int32)) (by decide) ?_
    exact hR _ _ _ _ h dX1_byteAt_29
  · replace h := h.2 c
    refine v_iload_n C 1 dX1_byteAt_4 rfl rfl ?_
    refine v_aload_n C 0 dX1_byteAt_5 rfl rfl ?_
    refine fX1_1_g_size C dX1_byteAt_6 ?_
    refine v_icmp_ge C dX1_byteAt_9 (tgt := 28) (by decide) (fun c => ?_) (fun c => ?_)
    · replace h := h.1 c
      refine v_iconst C dX1_byteAt_28 (v := (-1 : Int32)) (by decide) ?_
      exact hR _ _ _ _ h dX1_byteAt_29
    · replace h := h.2 c
      refine v_iload_n C 1 dX1_byteAt_12 rfl rfl ?_
      refine v_sipush C dX1_byteAt_13 (v := (160 : Int32)) (by decide) ?_
      refine v_icmp_ge C dX1_byteAt_16 (tgt := 28) (by decide) (fun c => ?_) (fun c => ?_)
      · replace h := h.1 c
        refine v_iconst C dX1_byteAt_28 (v := (-1 : Int32)) (by decide) ?_
        exact hR _ _ _ _ h dX1_byteAt_29
      · replace h := h.2 c
        refine v_aload_n C 0 dX1_byteAt_19 rfl rfl ?_
        refine fX1_1_g_tape C dX1_byteAt_20 ?_
        refine v_iload_n C 1 dX1_byteAt_23 rfl rfl ?_
        obtain ⟨hi1, h⟩ := h
        refine v_iald (k := 1) C (by decide) rfl hi1 dX1_byteAt_24 ?_
        refine v_goto C dX1_byteAt_25 (tgt := 29) (by decide) ?_
        exact hR _ _ _ _ h dX1_byteAt_29
def w1_isLetter (M : S0) (p1 : Int32) (Q : Int32 → S0 → Prop) : Prop :=
    ((p1 < (97 : Int32)) → (Q (0 : Int32) M)) ∧ ((¬ p1 < (97 : Int32)) → ((((122 : Int32) < p1) → (Q (0 : Int32) M)) ∧ ((¬ (122 : Int32) < p1) → (Q (1 : Int32) M))))
set_option maxHeartbeats 4000000 in
set_option maxRecDepth 20000 in
theorem c1_isLetter {B : BX} {a : Nat → Nat} {M : S0} {p1 : Int32} {Q : Int32 → S0 → Prop} (h : w1_isLetter  M p1 Q) : KI B (wl 3 a (shR B.2.1 a)) yX1_isLetter cX1_isLetter 1 (some .boolean) 0 0 [.int p1] M Q := by
  rw [w1_isLetter] at h
  refine KZ_of (by decide +kernel) (Nat.le_of_ble_eq_true rfl) (fun E C hR => ?_)
  change V B E 1 (wl 3 a (shR B.2.1 a) M) 0 [(0, .int p1)] []
  change Ok B E cX1_isLetter 1 RX1 0 0 at C
  refine v_iload_n C 0 dX1_isLetter_0 rfl rfl ?_
  refine v_bipush C dX1_isLetter_1 (v := (97 : Int32)) (by decide) ?_
  refine v_icmp_lt C dX1_isLetter_3 (tgt := 16) (by decide) (fun c => ?_) (fun c => ?_)
  · replace h := h.1 c
    refine v_iconst C dX1_isLetter_16 (v := (0 : Int32)) (by decide) ?_
    exact hR _ _ _ _ rfl h dX1_isLetter_17
  · replace h := h.2 c
    refine v_iload_n C 0 dX1_isLetter_6 rfl rfl ?_
    refine v_bipush C dX1_isLetter_7 (v := (122 : Int32)) (by decide) ?_
    refine v_icmp_gt C dX1_isLetter_9 (tgt := 16) (by decide) (fun c => ?_) (fun c => ?_)
    · replace h := h.1 c
      refine v_iconst C dX1_isLetter_16 (v := (0 : Int32)) (by decide) ?_
      exact hR _ _ _ _ rfl h dX1_isLetter_17
    · replace h := h.2 c
      refine v_iconst C dX1_isLetter_12 (v := (1 : Int32)) (by decide) ?_
      refine v_goto C dX1_isLetter_13 (tgt := 17) (by decide) ?_
      exact hR _ _ _ _ rfl h dX1_isLetter_17
def w1_stands_b37 (q1 : Nat) (Q : Int32 → S0 → Prop) : Nat → S0 → Int32 → Prop
  | 0, _, _ => False
  | n + 1, M, v2_37 =>
    (((nI (sLen.getD q1 0)) ≤ v2_37) → (Q (1 : Int32) M)) ∧ ((¬ (nI (sLen.getD q1 0)) ≤ v2_37) → ((vp_in ((M 0 7) + v2_37) 160) ∧ ((vp_in v2_37 (sLen.getD q1 0)) ∧ ((((M 1 (Int32.toNatClampNeg ((M 0 7) + v2_37))) = (sCh q1 (Int32.toNatClampNeg v2_37))) → (∀ x4 : Int32, x4 = v2_37 + (1 : Int32) → (w1_stands_b37 q1  Q n M x4))) ∧ ((¬ (M 1 (Int32.toNatClampNeg ((M 0 7) + v2_37))) = (sCh q1 (Int32.toNatClampNeg v2_37))) → (Q (0 : Int32) M))))))
set_option maxHeartbeats 4000000 in
set_option maxRecDepth 20000 in
theorem t1_stands_b37 {B : BX} {E : EX} {a : Nat → Nat} {q1 : Nat} {Q : Int32 → S0 → Prop} (hp_q1 : q1 < 13) (C : Ok B E cX1_stands 3 RX1 8 300) (hR : RetZ B E cX1_stands 3 (wl 3 a (shR B.2.1 a)) .boolean Q) : ∀ (n : Nat) (M : S0) (v2_37 : Int32), w1_stands_b37 q1  Q n M v2_37 → V B E 3 (wl 3 a (shR B.2.1 a) M) 37 [(0, .ref (a 0)), (1, .ref (B.2.2.1 q1)), (2, .int v2_37)] [] := by
  intro n
  induction n with
  | zero =>
    intro M v2_37  h
    exact h.elim
  | succ n ih =>
    intro M v2_37  h
    rw [w1_stands_b37] at h
    refine v_iload_n C 2 dX1_stands_37 rfl rfl ?_
    refine v_aload_n C 1 dX1_stands_38 rfl rfl ?_
    refine v_slen C (i := q1) hp_q1 dX1_stands_39 eX1_len (by omega) (by omega) (rest := [.int v2_37]) (Nat.le_of_ble_eq_true rfl) ?_
    refine v_icmp_ge C dX1_stands_42 (tgt := 72) (by decide) (fun c => ?_) (fun c => ?_)
    · replace h := h.1 c
      refine v_iconst C dX1_stands_72 (v := (1 : Int32)) (by decide) ?_
      exact hR _ _ _ _ rfl h dX1_stands_73
    · replace h := h.2 c
      refine v_aload_n C 0 dX1_stands_45 rfl rfl ?_
      refine fX1_1_g_tape C dX1_stands_46 ?_
      refine v_aload_n C 0 dX1_stands_49 rfl rfl ?_
      refine fX1_1_g_tokenFrom C dX1_stands_50 ?_
      refine v_iload_n C 2 dX1_stands_53 rfl rfl ?_
      refine v_iadd C dX1_stands_54 ?_
      obtain ⟨hi2, h⟩ := h
      refine v_iald (k := 1) C (by decide) rfl hi2 dX1_stands_55 ?_
      refine v_aload_n C 1 dX1_stands_56 rfl rfl ?_
      refine v_iload_n C 2 dX1_stands_57 rfl rfl ?_
      obtain ⟨hi3, h⟩ := h
      refine v_schar C (i := q1) hp_q1 hi3 dX1_stands_58 eX1_chr (by omega) (by omega) (rest := [.int (M 1 (Int32.toNatClampNeg ((M 0 7) + v2_37)))]) (Nat.le_of_ble_eq_true rfl) ?_
      refine v_icmp_eq C dX1_stands_61 (tgt := 66) (by decide) (fun c => ?_) (fun c => ?_)
      · replace h := h.1 c
        obtain ⟨x4, ex4⟩ : ∃ z : Int32, z = v2_37 + (1 : Int32) := ⟨_, rfl⟩
        replace h := h x4 ex4
        refine v_iinc (v := x4) (lv' := [(2, .int x4), (0, .ref (a 0)), (1, .ref (B.2.2.1 q1))]) C 2 dX1_stands_66 rfl (by rw [ex4]; rfl) (by decide) rfl ?_
        refine v_goto C dX1_stands_69 (tgt := 37) (by decide) ?_
        refine v_sub [1, 2, 0] rfl ?_
        exact ih M x4  h
      · replace h := h.2 c
        refine v_iconst C dX1_stands_64 (v := (0 : Int32)) (by decide) ?_
        exact hR _ _ _ _ rfl h dX1_stands_65
def w1_stands (q1 : Nat) (M : S0) (Q : Int32 → S0 → Prop) : Prop :=
    (((M 0 7) < 0) → (Q (0 : Int32) M)) ∧ ((¬ (M 0 7) < 0) → ((((160 : Int32) < (M 0 5)) → (Q (0 : Int32) M)) ∧ ((¬ (160 : Int32) < (M 0 5)) → (((((M 0 5) - (M 0 7)) = (nI (sLen.getD q1 0))) → (∃ n1, w1_stands_b37 q1  Q n1 M (0 : Int32))) ∧ ((¬ ((M 0 5) - (M 0 7)) = (nI (sLen.getD q1 0))) → (Q (0 : Int32) M))))))
set_option maxHeartbeats 4000000 in
set_option maxRecDepth 20000 in
theorem c1_stands {B : BX} {a : Nat → Nat} {q1 : Nat} {M : S0} {Q : Int32 → S0 → Prop} (hp_q1 : q1 < 13) (h : w1_stands q1 M  Q) : KI B (wl 3 a (shR B.2.1 a)) yX1_stands cX1_stands 3 (some .boolean) 8 300 [.ref (a 0), .ref (B.2.2.1 q1)] M Q := by
  rw [w1_stands] at h
  refine KZ_of (by decide +kernel) (Nat.le_of_ble_eq_true rfl) (fun E C hR => ?_)
  change V B E 3 (wl 3 a (shR B.2.1 a) M) 0 [(0, .ref (a 0)), (1, .ref (B.2.2.1 q1))] []
  change Ok B E cX1_stands 3 RX1 8 300 at C
  refine v_aload_n C 0 dX1_stands_0 rfl rfl ?_
  refine fX1_1_g_tokenFrom C dX1_stands_1 ?_
  refine v_if_lt C dX1_stands_4 (tgt := 33) (by decide) (fun c => ?_) (fun c => ?_)
  · replace h := h.1 c
    refine v_iconst C dX1_stands_33 (v := (0 : Int32)) (by decide) ?_
    exact hR _ _ _ _ rfl h dX1_stands_34
  · replace h := h.2 c
    refine v_aload_n C 0 dX1_stands_7 rfl rfl ?_
    refine fX1_1_g_place C dX1_stands_8 ?_
    refine v_sipush C dX1_stands_11 (v := (160 : Int32)) (by decide) ?_
    refine v_icmp_gt C dX1_stands_14 (tgt := 33) (by decide) (fun c => ?_) (fun c => ?_)
    · replace h := h.1 c
      refine v_iconst C dX1_stands_33 (v := (0 : Int32)) (by decide) ?_
      exact hR _ _ _ _ rfl h dX1_stands_34
    · replace h := h.2 c
      refine v_aload_n C 0 dX1_stands_17 rfl rfl ?_
      refine fX1_1_g_place C dX1_stands_18 ?_
      refine v_aload_n C 0 dX1_stands_21 rfl rfl ?_
      refine fX1_1_g_tokenFrom C dX1_stands_22 ?_
      refine v_isub C dX1_stands_25 ?_
      refine v_aload_n C 1 dX1_stands_26 rfl rfl ?_
      refine v_slen C (i := q1) hp_q1 dX1_stands_27 eX1_len (by omega) (by omega) (rest := [.int ((M 0 5) - (M 0 7))]) (Nat.le_of_ble_eq_true rfl) ?_
      refine v_icmp_eq C dX1_stands_30 (tgt := 35) (by decide) (fun c => ?_) (fun c => ?_)
      · replace h := h.1 c
        refine v_iconst C dX1_stands_35 (v := (0 : Int32)) (by decide) ?_
        refine v_istore_n (lv' := [(2, .int (0 : Int32)), (0, .ref (a 0)), (1, .ref (B.2.2.1 q1))]) C dX1_stands_36 rfl (by decide) rfl ?_
        obtain ⟨n1, h⟩ := h
        refine v_sub [1, 2, 0] rfl ?_
        exact t1_stands_b37 hp_q1  C hR  n1 M (0 : Int32)  h
      · replace h := h.2 c
        refine v_iconst C dX1_stands_33 (v := (0 : Int32)) (by decide) ?_
        exact hR _ _ _ _ rfl h dX1_stands_34
def w1_readWord_b39 (Q : S0 → Prop) (M : S0) : Prop :=
    w1_stands 1 M (fun r9 M8 => ((r9 = 0) → (w1_stands 2 M8 (fun r11 M10 => ((r11 = 0) → (w1_stands 3 M10 (fun r13 M12 => ((r13 = 0) → (w1_stands 4 M12 (fun r15 M14 => ((r15 = 0) → (w1_stands 5 M14 (fun r17 M16 => ((r17 = 0) → (w1_stands 6 M16 (fun r19 M18 => ((r19 = 0) → (w1_stands 7 M18 (fun r21 M20 => ((r21 = 0) → (w1_stands 8 M20 (fun r23 M22 => ((r23 = 0) → (w1_stands 9 M22 (fun r25 M24 => ((r25 = 0) → (w1_stands 10 M24 (fun r27 M26 => ((r27 = 0) → (w1_stands 11 M26 (fun r29 M28 => ((r29 = 0) → (w1_stands 12 M28 (fun r31 M30 => ((r31 = 0) → (∀ M32 : S0, M32 = up M30 0 6 (9 : Int32) → (Q M32))) ∧ ((¬ r31 = 0) → (∀ M33 : S0, M33 = up M30 0 6 (15 : Int32) → (Q M33)))))) ∧ ((¬ r29 = 0) → (∀ M34 : S0, M34 = up M28 0 6 (14 : Int32) → (Q M34)))))) ∧ ((¬ r27 = 0) → (∀ M35 : S0, M35 = up M26 0 6 (13 : Int32) → (Q M35)))))) ∧ ((¬ r25 = 0) → (∀ M36 : S0, M36 = up M24 0 6 (12 : Int32) → (Q M36)))))) ∧ ((¬ r23 = 0) → (∀ M37 : S0, M37 = up M22 0 6 (11 : Int32) → (Q M37)))))) ∧ ((¬ r21 = 0) → (∀ M38 : S0, M38 = up M20 0 6 (10 : Int32) → (Q M38)))))) ∧ ((¬ r19 = 0) → (∀ M39 : S0, M39 = up M18 0 6 (6 : Int32) → (Q M39)))))) ∧ ((¬ r17 = 0) → (∀ M40 : S0, M40 = up M16 0 6 (5 : Int32) → (Q M40)))))) ∧ ((¬ r15 = 0) → (∀ M41 : S0, M41 = up M14 0 6 (4 : Int32) → (Q M41)))))) ∧ ((¬ r13 = 0) → (∀ M42 : S0, M42 = up M12 0 6 (3 : Int32) → (Q M42)))))) ∧ ((¬ r11 = 0) → (∀ M43 : S0, M43 = up M10 0 6 (2 : Int32) → (Q M43)))))) ∧ ((¬ r9 = 0) → (∀ M44 : S0, M44 = up M8 0 6 (1 : Int32) → (Q M44))))
set_option maxHeartbeats 4000000 in
set_option maxRecDepth 20000 in
theorem t1_readWord_b39 {B : BX} {E : EX} {a : Nat → Nat} {Q : S0 → Prop} (C : Ok B E cX1_readWord 2 RX1 9 322) (hR : RetV B E cX1_readWord 2 (wl 3 a (shR B.2.1 a)) Q) : ∀ (M : S0), w1_readWord_b39   Q M  → V B E 2 (wl 3 a (shR B.2.1 a) M) 39 [(0, .ref (a 0))] [] := by
  intro M   h
  rw [w1_readWord_b39] at h
  refine v_aload_n C 0 dX1_readWord_39 rfl rfl ?_
  refine v_aload_n C 0 dX1_readWord_40 rfl rfl ?_
  refine v_ldcS C 1 rfl dX1_readWord_41 ?_
  refine v_callVi (k := 0) (As := [.ref (B.2.2.1 1)]) (rest := [.ref (a 0)]) C (c1_stands (by decide) h) eX1_129 (by omega) (by omega) (by decide) rfl rfl rfl rfl (Nat.le_of_ble_eq_true rfl) dX1_readWord_43 (fun r9 M8 h => ?_)
  refine v_if_eq C dX1_readWord_46 (tgt := 53) (by decide) (fun c => ?_) (fun c => ?_)
  · replace h := h.1 c
    refine v_aload_n C 0 dX1_readWord_53 rfl rfl ?_
    refine v_ldcS C 2 rfl dX1_readWord_54 ?_
    refine v_callVi (k := 0) (As := [.ref (B.2.2.1 2)]) (rest := [.ref (a 0)]) C (c1_stands (by decide) h) eX1_129 (by omega) (by omega) (by decide) rfl rfl rfl rfl (Nat.le_of_ble_eq_true rfl) dX1_readWord_56 (fun r11 M10 h => ?_)
    refine v_if_eq C dX1_readWord_59 (tgt := 66) (by decide) (fun c => ?_) (fun c => ?_)
    · replace h := h.1 c
      refine v_aload_n C 0 dX1_readWord_66 rfl rfl ?_
      refine v_ldcS C 3 rfl dX1_readWord_67 ?_
      refine v_callVi (k := 0) (As := [.ref (B.2.2.1 3)]) (rest := [.ref (a 0)]) C (c1_stands (by decide) h) eX1_129 (by omega) (by omega) (by decide) rfl rfl rfl rfl (Nat.le_of_ble_eq_true rfl) dX1_readWord_69 (fun r13 M12 h => ?_)
      refine v_if_eq C dX1_readWord_72 (tgt := 79) (by decide) (fun c => ?_) (fun c => ?_)
      · replace h := h.1 c
        refine v_aload_n C 0 dX1_readWord_79 rfl rfl ?_
        refine v_ldcS C 4 rfl dX1_readWord_80 ?_
        refine v_callVi (k := 0) (As := [.ref (B.2.2.1 4)]) (rest := [.ref (a 0)]) C (c1_stands (by decide) h) eX1_129 (by omega) (by omega) (by decide) rfl rfl rfl rfl (Nat.le_of_ble_eq_true rfl) dX1_readWord_82 (fun r15 M14 h => ?_)
        refine v_if_eq C dX1_readWord_85 (tgt := 92) (by decide) (fun c => ?_) (fun c => ?_)
        · replace h := h.1 c
          refine v_aload_n C 0 dX1_readWord_92 rfl rfl ?_
          refine v_ldcS C 5 rfl dX1_readWord_93 ?_
          refine v_callVi (k := 0) (As := [.ref (B.2.2.1 5)]) (rest := [.ref (a 0)]) C (c1_stands (by decide) h) eX1_129 (by omega) (by omega) (by decide) rfl rfl rfl rfl (Nat.le_of_ble_eq_true rfl) dX1_readWord_95 (fun r17 M16 h => ?_)
          refine v_if_eq C dX1_readWord_98 (tgt := 105) (by decide) (fun c => ?_) (fun c => ?_)
          · replace h := h.1 c
            refine v_aload_n C 0 dX1_readWord_105 rfl rfl ?_
            refine v_ldcS C 6 rfl dX1_readWord_106 ?_
            refine v_callVi (k := 0) (As := [.ref (B.2.2.1 6)]) (rest := [.ref (a 0)]) C (c1_stands (by decide) h) eX1_129 (by omega) (by omega) (by decide) rfl rfl rfl rfl (Nat.le_of_ble_eq_true rfl) dX1_readWord_108 (fun r19 M18 h => ?_)
            refine v_if_eq C dX1_readWord_111 (tgt := 119) (by decide) (fun c => ?_) (fun c => ?_)
            · replace h := h.1 c
              refine v_aload_n C 0 dX1_readWord_119 rfl rfl ?_
              refine v_ldcS C 7 rfl dX1_readWord_120 ?_
              refine v_callVi (k := 0) (As := [.ref (B.2.2.1 7)]) (rest := [.ref (a 0)]) C (c1_stands (by decide) h) eX1_129 (by omega) (by omega) (by decide) rfl rfl rfl rfl (Nat.le_of_ble_eq_true rfl) dX1_readWord_122 (fun r21 M20 h => ?_)
              refine v_if_eq C dX1_readWord_125 (tgt := 133) (by decide) (fun c => ?_) (fun c => ?_)
              · replace h := h.1 c
                refine v_aload_n C 0 dX1_readWord_133 rfl rfl ?_
                refine v_ldcS C 8 rfl dX1_readWord_134 ?_
                refine v_callVi (k := 0) (As := [.ref (B.2.2.1 8)]) (rest := [.ref (a 0)]) C (c1_stands (by decide) h) eX1_129 (by omega) (by omega) (by decide) rfl rfl rfl rfl (Nat.le_of_ble_eq_true rfl) dX1_readWord_136 (fun r23 M22 h => ?_)
                refine v_if_eq C dX1_readWord_139 (tgt := 147) (by decide) (fun c => ?_) (fun c => ?_)
                · replace h := h.1 c
                  refine v_aload_n C 0 dX1_readWord_147 rfl rfl ?_
                  refine v_ldcS C 9 rfl dX1_readWord_148 ?_
                  refine v_callVi (k := 0) (As := [.ref (B.2.2.1 9)]) (rest := [.ref (a 0)]) C (c1_stands (by decide) h) eX1_129 (by omega) (by omega) (by decide) rfl rfl rfl rfl (Nat.le_of_ble_eq_true rfl) dX1_readWord_150 (fun r25 M24 h => ?_)
                  refine v_if_eq C dX1_readWord_153 (tgt := 161) (by decide) (fun c => ?_) (fun c => ?_)
                  · replace h := h.1 c
                    refine v_aload_n C 0 dX1_readWord_161 rfl rfl ?_
                    refine v_ldcS C 10 rfl dX1_readWord_162 ?_
                    refine v_callVi (k := 0) (As := [.ref (B.2.2.1 10)]) (rest := [.ref (a 0)]) C (c1_stands (by decide) h) eX1_129 (by omega) (by omega) (by decide) rfl rfl rfl rfl (Nat.le_of_ble_eq_true rfl) dX1_readWord_164 (fun r27 M26 h => ?_)
                    refine v_if_eq C dX1_readWord_167 (tgt := 175) (by decide) (fun c => ?_) (fun c => ?_)
                    · replace h := h.1 c
                      refine v_aload_n C 0 dX1_readWord_175 rfl rfl ?_
                      refine v_ldcS C 11 rfl dX1_readWord_176 ?_
                      refine v_callVi (k := 0) (As := [.ref (B.2.2.1 11)]) (rest := [.ref (a 0)]) C (c1_stands (by decide) h) eX1_129 (by omega) (by omega) (by decide) rfl rfl rfl rfl (Nat.le_of_ble_eq_true rfl) dX1_readWord_178 (fun r29 M28 h => ?_)
                      refine v_if_eq C dX1_readWord_181 (tgt := 189) (by decide) (fun c => ?_) (fun c => ?_)
                      · replace h := h.1 c
                        refine v_aload_n C 0 dX1_readWord_189 rfl rfl ?_
                        refine v_ldcS C 12 rfl dX1_readWord_190 ?_
                        refine v_callVi (k := 0) (As := [.ref (B.2.2.1 12)]) (rest := [.ref (a 0)]) C (c1_stands (by decide) h) eX1_129 (by omega) (by omega) (by decide) rfl rfl rfl rfl (Nat.le_of_ble_eq_true rfl) dX1_readWord_192 (fun r31 M30 h => ?_)
                        refine v_if_eq C dX1_readWord_195 (tgt := 203) (by decide) (fun c => ?_) (fun c => ?_)
                        · replace h := h.1 c
                          refine v_bipush C dX1_readWord_203 (v := (9 : Int32)) (by decide) ?_
                          refine fX1_1_p_token C dX1_readWord_205 (fun M32 eM32 => ?_)
                          replace h := h M32 eM32
                          exact hR _ _ _ h dX1_readWord_208
                        · replace h := h.2 c
                          refine v_bipush C dX1_readWord_198 (v := (15 : Int32)) (by decide) ?_
                          refine v_goto C dX1_readWord_200 (tgt := 205) (by decide) ?_
                          refine fX1_1_p_token C dX1_readWord_205 (fun M33 eM33 => ?_)
                          replace h := h M33 eM33
                          exact hR _ _ _ h dX1_readWord_208
                      · replace h := h.2 c
                        refine v_bipush C dX1_readWord_184 (v := (14 : Int32)) (by decide) ?_
                        refine v_goto C dX1_readWord_186 (tgt := 205) (by decide) ?_
                        refine fX1_1_p_token C dX1_readWord_205 (fun M34 eM34 => ?_)
                        replace h := h M34 eM34
                        exact hR _ _ _ h dX1_readWord_208
                    · replace h := h.2 c
                      refine v_bipush C dX1_readWord_170 (v := (13 : Int32)) (by decide) ?_
                      refine v_goto C dX1_readWord_172 (tgt := 205) (by decide) ?_
                      refine fX1_1_p_token C dX1_readWord_205 (fun M35 eM35 => ?_)
                      replace h := h M35 eM35
                      exact hR _ _ _ h dX1_readWord_208
                  · replace h := h.2 c
                    refine v_bipush C dX1_readWord_156 (v := (12 : Int32)) (by decide) ?_
                    refine v_goto C dX1_readWord_158 (tgt := 205) (by decide) ?_
                    refine fX1_1_p_token C dX1_readWord_205 (fun M36 eM36 => ?_)
                    replace h := h M36 eM36
                    exact hR _ _ _ h dX1_readWord_208
                · replace h := h.2 c
                  refine v_bipush C dX1_readWord_142 (v := (11 : Int32)) (by decide) ?_
                  refine v_goto C dX1_readWord_144 (tgt := 205) (by decide) ?_
                  refine fX1_1_p_token C dX1_readWord_205 (fun M37 eM37 => ?_)
                  replace h := h M37 eM37
                  exact hR _ _ _ h dX1_readWord_208
              · replace h := h.2 c
                refine v_bipush C dX1_readWord_128 (v := (10 : Int32)) (by decide) ?_
                refine v_goto C dX1_readWord_130 (tgt := 205) (by decide) ?_
                refine fX1_1_p_token C dX1_readWord_205 (fun M38 eM38 => ?_)
                replace h := h M38 eM38
                exact hR _ _ _ h dX1_readWord_208
            · replace h := h.2 c
              refine v_bipush C dX1_readWord_114 (v := (6 : Int32)) (by decide) ?_
              refine v_goto C dX1_readWord_116 (tgt := 205) (by decide) ?_
              refine fX1_1_p_token C dX1_readWord_205 (fun M39 eM39 => ?_)
              replace h := h M39 eM39
              exact hR _ _ _ h dX1_readWord_208
          · replace h := h.2 c
            refine v_iconst C dX1_readWord_101 (v := (5 : Int32)) (by decide) ?_
            refine v_goto C dX1_readWord_102 (tgt := 205) (by decide) ?_
            refine fX1_1_p_token C dX1_readWord_205 (fun M40 eM40 => ?_)
            replace h := h M40 eM40
            exact hR _ _ _ h dX1_readWord_208
        · replace h := h.2 c
          refine v_iconst C dX1_readWord_88 (v := (4 : Int32)) (by decide) ?_
          refine v_goto C dX1_readWord_89 (tgt := 205) (by decide) ?_
          refine fX1_1_p_token C dX1_readWord_205 (fun M41 eM41 => ?_)
          replace h := h M41 eM41
          exact hR _ _ _ h dX1_readWord_208
      · replace h := h.2 c
        refine v_iconst C dX1_readWord_75 (v := (3 : Int32)) (by decide) ?_
        refine v_goto C dX1_readWord_76 (tgt := 205) (by decide) ?_
        refine fX1_1_p_token C dX1_readWord_205 (fun M42 eM42 => ?_)
        replace h := h M42 eM42
        exact hR _ _ _ h dX1_readWord_208
    · replace h := h.2 c
      refine v_iconst C dX1_readWord_62 (v := (2 : Int32)) (by decide) ?_
      refine v_goto C dX1_readWord_63 (tgt := 205) (by decide) ?_
      refine fX1_1_p_token C dX1_readWord_205 (fun M43 eM43 => ?_)
      replace h := h M43 eM43
      exact hR _ _ _ h dX1_readWord_208
  · replace h := h.2 c
    refine v_iconst C dX1_readWord_49 (v := (1 : Int32)) (by decide) ?_
    refine v_goto C dX1_readWord_50 (tgt := 205) (by decide) ?_
    refine fX1_1_p_token C dX1_readWord_205 (fun M44 eM44 => ?_)
    replace h := h M44 eM44
    exact hR _ _ _ h dX1_readWord_208
def w1_readWord_b2 (Q : S0 → Prop) : Nat → S0 → Int32 → Prop
  | 0, _, _ => False
  | n + 1, M, v1_2 =>
    (((160 : Int32) ≤ v1_2) → (w1_readWord_b39   Q M)) ∧ ((¬ (160 : Int32) ≤ v1_2) → (w1_byteAt M (M 0 5) (fun r3 M2 => w1_isLetter M2 r3 (fun r5 M4 => ((r5 = 0) → (w1_readWord_b39   Q M4)) ∧ ((¬ r5 = 0) → (∀ M6 : S0, M6 = up M4 0 5 ((M4 0 5) + (1 : Int32)) → (∀ x7 : Int32, x7 = v1_2 + (1 : Int32) → (w1_readWord_b2   Q n M6 x7))))))))
set_option maxHeartbeats 4000000 in
set_option maxRecDepth 20000 in
theorem t1_readWord_b2 {B : BX} {E : EX} {a : Nat → Nat} {Q : S0 → Prop} (C : Ok B E cX1_readWord 2 RX1 9 322) (hR : RetV B E cX1_readWord 2 (wl 3 a (shR B.2.1 a)) Q) : ∀ (n : Nat) (M : S0) (v1_2 : Int32), w1_readWord_b2   Q n M v1_2 → V B E 2 (wl 3 a (shR B.2.1 a) M) 2 [(0, .ref (a 0)), (1, .int v1_2)] [] := by
  intro n
  induction n with
  | zero =>
    intro M v1_2  h
    exact h.elim
  | succ n ih =>
    intro M v1_2  h
    rw [w1_readWord_b2] at h
    refine v_iload_n C 1 dX1_readWord_2 rfl rfl ?_
    refine v_sipush C dX1_readWord_3 (v := (160 : Int32)) (by decide) ?_
    refine v_icmp_ge C dX1_readWord_6 (tgt := 39) (by decide) (fun c => ?_) (fun c => ?_)
    · replace h := h.1 c
      refine v_sub [0] rfl ?_
      exact t1_readWord_b39   C hR  M  h
    · replace h := h.2 c
      refine v_aload_n C 0 dX1_readWord_9 rfl rfl ?_
      refine v_aload_n C 0 dX1_readWord_10 rfl rfl ?_
      refine fX1_1_g_place C dX1_readWord_11 ?_
      refine v_callVi (k := 0) (As := [.int (M 0 5)]) (rest := []) C (c1_byteAt  h) eX1_108 (by omega) (by omega) (by decide) rfl rfl rfl rfl (Nat.le_of_ble_eq_true rfl) dX1_readWord_14 (fun r3 M2 h => ?_)
      refine v_callSi (As := [.int r3]) (rest := []) C (c1_isLetter  h) eX1_112 (by omega) (by omega) rfl rfl (Nat.le_of_ble_eq_true rfl) dX1_readWord_17 (fun r5 M4 h => ?_)
      refine v_if_eq C dX1_readWord_20 (tgt := 39) (by decide) (fun c => ?_) (fun c => ?_)
      · replace h := h.1 c
        refine v_sub [0] rfl ?_
        exact t1_readWord_b39   C hR  M4  h
      · replace h := h.2 c
        refine v_aload_n C 0 dX1_readWord_23 rfl rfl ?_
        refine v_dup C dX1_readWord_24 rfl ?_
        refine fX1_1_g_place C dX1_readWord_25 ?_
        refine v_iconst C dX1_readWord_28 (v := (1 : Int32)) (by decide) ?_
        refine v_iadd C dX1_readWord_29 ?_
        refine fX1_1_p_place C dX1_readWord_30 (fun M6 eM6 => ?_)
        replace h := h M6 eM6
        obtain ⟨x7, ex7⟩ : ∃ z : Int32, z = v1_2 + (1 : Int32) := ⟨_, rfl⟩
        replace h := h x7 ex7
        refine v_iinc (v := x7) (lv' := [(1, .int x7), (0, .ref (a 0))]) C 1 dX1_readWord_33 rfl (by rw [ex7]; rfl) (by decide) rfl ?_
        refine v_goto C dX1_readWord_36 (tgt := 2) (by decide) ?_
        refine v_sub [1, 0] rfl ?_
        exact ih M6 x7  h
def w1_readWord (M : S0) (Q : S0 → Prop) : Prop :=
    ∃ n1, w1_readWord_b2   Q n1 M (0 : Int32)
set_option maxHeartbeats 4000000 in
set_option maxRecDepth 20000 in
theorem c1_readWord {B : BX} {a : Nat → Nat} {M : S0} {Q : S0 → Prop} (h : w1_readWord  M  Q) : KV B (wl 3 a (shR B.2.1 a)) yX1_readWord cX1_readWord 2 none 9 322 [.ref (a 0)] M Q := by
  rw [w1_readWord] at h
  refine KV_of (by decide +kernel) (Nat.le_of_ble_eq_true rfl) (fun E C hR => ?_)
  change V B E 2 (wl 3 a (shR B.2.1 a) M) 0 [(0, .ref (a 0))] []
  change Ok B E cX1_readWord 2 RX1 9 322 at C
  refine v_iconst C dX1_readWord_0 (v := (0 : Int32)) (by decide) ?_
  refine v_istore_n (lv' := [(1, .int (0 : Int32)), (0, .ref (a 0))]) C dX1_readWord_1 rfl (by decide) rfl ?_
  obtain ⟨n1, h⟩ := h
  refine v_sub [1, 0] rfl ?_
  exact t1_readWord_b2   C hR  n1 M (0 : Int32)  h
