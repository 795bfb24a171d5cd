def w6_in (M : S0) (p1 : Int64) (p2 : Int64) (p3 : Int64) (Q : Int32 → S0 → Prop) : Prop :=
    (((lg_cmp p1 p2) < 0) → (Q (0 : Int32) M)) ∧ ((¬ (lg_cmp p1 p2) < 0) → (((0 < (lg_cmp p1 p3)) → (Q (0 : Int32) M)) ∧ ((¬ 0 < (lg_cmp p1 p3)) → (Q (1 : Int32) M))))
set_option maxHeartbeats 4000000 in
set_option maxRecDepth 20000 in
theorem c6_in {B : BX} {a : Nat → Nat} {M : S0} {p1 : Int64} {p2 : Int64} {p3 : Int64} {Q : Int32 → S0 → Prop} (h : w6_in  M p1 p2 p3 Q) : KI B (wl 12 a (shM B.2.1 a)) yX6_in cX6_in 6 (some .boolean) 0 0 [.long p1, .long p2, .long p3] M Q := by
  rw [w6_in] at h
  refine KZ_of (by decide +kernel) (Nat.le_of_ble_eq_true rfl) (fun E C hR => ?_)
  change V B E 6 (wl 12 a (shM B.2.1 a) M) 0 [(0, .long p1), (2, .long p2), (4, .long p3)] []
  change Ok B E cX6_in 6 RX6 0 0 at C
  refine v_lload_n C 0 dX6_in_0 rfl rfl ?_
  refine v_lload_n C 1 dX6_in_1 rfl rfl ?_
  refine v_lcmp C dX6_in_2 ?_
  refine v_if_lt C dX6_in_3 (tgt := 17) (by decide) (fun c => ?_) (fun c => ?_)
  · replace h := h.1 c
    refine v_iconst C dX6_in_17 (v := (0 : Int32)) (by decide) ?_
    exact hR _ _ _ _ rfl h dX6_in_18
  · replace h := h.2 c
    refine v_lload_n C 0 dX6_in_6 rfl rfl ?_
    refine v_lload C 2 dX6_in_7 rfl ?_
    refine v_lcmp C dX6_in_9 ?_
    refine v_if_gt C dX6_in_10 (tgt := 17) (by decide) (fun c => ?_) (fun c => ?_)
    · replace h := h.1 c
      refine v_iconst C dX6_in_17 (v := (0 : Int32)) (by decide) ?_
      exact hR _ _ _ _ rfl h dX6_in_18
    · replace h := h.2 c
      refine v_iconst C dX6_in_13 (v := (1 : Int32)) (by decide) ?_
      refine v_goto C dX6_in_14 (tgt := 18) (by decide) ?_
      exact hR _ _ _ _ rfl h dX6_in_18
def w6_within (M : S0) (p1 : Int32) (p2 : Int32) (p3 : Int32) (Q : Int32 → S0 → Prop) : Prop :=
    ((p2 ≤ p1) → (((p1 ≤ p3) → (Q p1 M)) ∧ ((¬ p1 ≤ p3) → (Q p3 M)))) ∧ ((¬ p2 ≤ p1) → (Q p2 M))
set_option maxHeartbeats 4000000 in
set_option maxRecDepth 20000 in
theorem c6_within {B : BX} {a : Nat → Nat} {M : S0} {p1 : Int32} {p2 : Int32} {p3 : Int32} {Q : Int32 → S0 → Prop} (h : w6_within  M p1 p2 p3 Q) : KI B (wl 12 a (shM B.2.1 a)) yX6_within cX6_within 3 (some .int) 0 0 [.int p1, .int p2, .int p3] M Q := by
  rw [w6_within] at h
  refine KI_of (by decide +kernel) (Nat.le_of_ble_eq_true rfl) (fun E C hR => ?_)
  change V B E 3 (wl 12 a (shM B.2.1 a) M) 0 [(0, .int p1), (1, .int p2), (2, .int p3)] []
  change Ok B E cX6_within 3 RX6 0 0 at C
  refine v_iload_n C 0 dX6_within_0 rfl rfl ?_
  refine v_iload_n C 1 dX6_within_1 rfl rfl ?_
  refine v_icmp_ge C dX6_within_2 (tgt := 9) (by decide) (fun c => ?_) (fun c => ?_)
  · replace h := h.1 c
    refine v_iload_n C 0 dX6_within_9 rfl rfl ?_
    refine v_iload_n C 2 dX6_within_10 rfl rfl ?_
    refine v_icmp_le C dX6_within_11 (tgt := 18) (by decide) (fun c => ?_) (fun c => ?_)
    · replace h := h.1 c
      refine v_iload_n C 0 dX6_within_18 rfl rfl ?_
      exact hR _ _ _ _ h dX6_within_19
    · replace h := h.2 c
      refine v_iload_n C 2 dX6_within_14 rfl rfl ?_
      refine v_goto C dX6_within_15 (tgt := 19) (by decide) ?_
      exact hR _ _ _ _ h dX6_within_19
  · replace h := h.2 c
    refine v_iload_n C 1 dX6_within_5 rfl rfl ?_
    refine v_goto C dX6_within_6 (tgt := 19) (by decide) ?_
    exact hR _ _ _ _ h dX6_within_19
def w6_spell (M : S0) (p1 : Int32) (p2 : Int32) (p3 : Int32) (p4 : Int32) (p5 : Int32) (p6 : Int32) (p7 : Int32) (p8 : Int32) (p9 : Int32) (Q : S0 → Prop) : Prop :=
    (vp_in p1 960) ∧ (∀ M2 : S0, M2 = up M 1 (Int32.toNatClampNeg p1) p2 → ((vp_in (p1 + (1 : Int32)) 960) ∧ (∀ M4 : S0, M4 = up M2 1 (Int32.toNatClampNeg (p1 + (1 : Int32))) p3 → ((vp_in (p1 + (2 : Int32)) 960) ∧ (∀ M6 : S0, M6 = up M4 1 (Int32.toNatClampNeg (p1 + (2 : Int32))) p4 → ((vp_in (p1 + (3 : Int32)) 960) ∧ (∀ M8 : S0, M8 = up M6 1 (Int32.toNatClampNeg (p1 + (3 : Int32))) p5 → ((vp_in (p1 + (4 : Int32)) 960) ∧ (∀ M10 : S0, M10 = up M8 1 (Int32.toNatClampNeg (p1 + (4 : Int32))) p6 → ((vp_in (p1 + (5 : Int32)) 960) ∧ (∀ M12 : S0, M12 = up M10 1 (Int32.toNatClampNeg (p1 + (5 : Int32))) p7 → ((vp_in (p1 + (6 : Int32)) 960) ∧ (∀ M14 : S0, M14 = up M12 1 (Int32.toNatClampNeg (p1 + (6 : Int32))) p8 → ((vp_in (p1 + (7 : Int32)) 960) ∧ (∀ M16 : S0, M16 = up M14 1 (Int32.toNatClampNeg (p1 + (7 : Int32))) p9 → (Q M16))))))))))))))))
set_option maxHeartbeats 4000000 in
set_option maxRecDepth 20000 in
theorem c6_spell {B : BX} {a : Nat → Nat} {M : S0} {p1 : Int32} {p2 : Int32} {p3 : Int32} {p4 : Int32} {p5 : Int32} {p6 : Int32} {p7 : Int32} {p8 : Int32} {p9 : Int32} {Q : S0 → Prop} (h : w6_spell  M p1 p2 p3 p4 p5 p6 p7 p8 p9 Q) : KV B (wl 12 a (shM B.2.1 a)) yX6_spell cX6_spell 10 none 0 0 [.ref (a 0), .int p1, .int p2, .int p3, .int p4, .int p5, .int p6, .int p7, .int p8, .int p9] M Q := by
  rw [w6_spell] at h
  refine KV_of (by decide +kernel) (Nat.le_of_ble_eq_true rfl) (fun E C hR => ?_)
  change V B E 10 (wl 12 a (shM B.2.1 a) M) 0 [(0, .ref (a 0)), (1, .int p1), (2, .int p2), (3, .int p3), (4, .int p4), (5, .int p5), (6, .int p6), (7, .int p7), (8, .int p8), (9, .int p9)] []
  change Ok B E cX6_spell 10 RX6 0 0 at C
  refine v_aload_n C 0 dX6_spell_0 rfl rfl ?_
  refine fX6_6_g_texts C dX6_spell_1 ?_
  refine v_iload_n C 1 dX6_spell_4 rfl rfl ?_
  refine v_iload_n C 2 dX6_spell_5 rfl rfl ?_
  obtain ⟨hi1, h⟩ := h
  refine v_iast (k := 1) C (by decide) (fun _ => rfl) hi1 dX6_spell_6 ?_
  obtain ⟨M2, eM2⟩ : ∃ z : S0, z = up M 1 (Int32.toNatClampNeg p1) p2 := ⟨_, rfl⟩
  rw [← eM2]
  replace h := h M2 eM2
  refine v_aload_n C 0 dX6_spell_7 rfl rfl ?_
  refine fX6_6_g_texts C dX6_spell_8 ?_
  refine v_iload_n C 1 dX6_spell_11 rfl rfl ?_
  refine v_iconst C dX6_spell_12 (v := (1 : Int32)) (by decide) ?_
  refine v_iadd C dX6_spell_13 ?_
  refine v_iload_n C 3 dX6_spell_14 rfl rfl ?_
  obtain ⟨hi3, h⟩ := h
  refine v_iast (k := 1) C (by decide) (fun _ => rfl) hi3 dX6_spell_15 ?_
  obtain ⟨M4, eM4⟩ : ∃ z : S0, z = up M2 1 (Int32.toNatClampNeg (p1 + (1 : Int32))) p3 := ⟨_, rfl⟩
  rw [← eM4]
  replace h := h M4 eM4
  refine v_aload_n C 0 dX6_spell_16 rfl rfl ?_
  refine fX6_6_g_texts C dX6_spell_17 ?_
  refine v_iload_n C 1 dX6_spell_20 rfl rfl ?_
  refine v_iconst C dX6_spell_21 (v := (2 : Int32)) (by decide) ?_
  refine v_iadd C dX6_spell_22 ?_
  refine v_iload C 4 dX6_spell_23 rfl ?_
  obtain ⟨hi5, h⟩ := h
  refine v_iast (k := 1) C (by decide) (fun _ => rfl) hi5 dX6_spell_25 ?_
  obtain ⟨M6, eM6⟩ : ∃ z : S0, z = up M4 1 (Int32.toNatClampNeg (p1 + (2 : Int32))) p4 := ⟨_, rfl⟩
  rw [← eM6]
  replace h := h M6 eM6
  refine v_aload_n C 0 dX6_spell_26 rfl rfl ?_
  refine fX6_6_g_texts C dX6_spell_27 ?_
  refine v_iload_n C 1 dX6_spell_30 rfl rfl ?_
  refine v_iconst C dX6_spell_31 (v := (3 : Int32)) (by decide) ?_
  refine v_iadd C dX6_spell_32 ?_
  refine v_iload C 5 dX6_spell_33 rfl ?_
  obtain ⟨hi7, h⟩ := h
  refine v_iast (k := 1) C (by decide) (fun _ => rfl) hi7 dX6_spell_35 ?_
  obtain ⟨M8, eM8⟩ : ∃ z : S0, z = up M6 1 (Int32.toNatClampNeg (p1 + (3 : Int32))) p5 := ⟨_, rfl⟩
  rw [← eM8]
  replace h := h M8 eM8
  refine v_aload_n C 0 dX6_spell_36 rfl rfl ?_
  refine fX6_6_g_texts C dX6_spell_37 ?_
  refine v_iload_n C 1 dX6_spell_40 rfl rfl ?_
  refine v_iconst C dX6_spell_41 (v := (4 : Int32)) (by decide) ?_
  refine v_iadd C dX6_spell_42 ?_
  refine v_iload C 6 dX6_spell_43 rfl ?_
  obtain ⟨hi9, h⟩ := h
  refine v_iast (k := 1) C (by decide) (fun _ => rfl) hi9 dX6_spell_45 ?_
  obtain ⟨M10, eM10⟩ : ∃ z : S0, z = up M8 1 (Int32.toNatClampNeg (p1 + (4 : Int32))) p6 := ⟨_, rfl⟩
  rw [← eM10]
  replace h := h M10 eM10
  refine v_aload_n C 0 dX6_spell_46 rfl rfl ?_
  refine fX6_6_g_texts C dX6_spell_47 ?_
  refine v_iload_n C 1 dX6_spell_50 rfl rfl ?_
  refine v_iconst C dX6_spell_51 (v := (5 : Int32)) (by decide) ?_
  refine v_iadd C dX6_spell_52 ?_
  refine v_iload C 7 dX6_spell_53 rfl ?_
  obtain ⟨hi11, h⟩ := h
  refine v_iast (k := 1) C (by decide) (fun _ => rfl) hi11 dX6_spell_55 ?_
  obtain ⟨M12, eM12⟩ : ∃ z : S0, z = up M10 1 (Int32.toNatClampNeg (p1 + (5 : Int32))) p7 := ⟨_, rfl⟩
  rw [← eM12]
  replace h := h M12 eM12
  refine v_aload_n C 0 dX6_spell_56 rfl rfl ?_
  refine fX6_6_g_texts C dX6_spell_57 ?_
  refine v_iload_n C 1 dX6_spell_60 rfl rfl ?_
  refine v_bipush C dX6_spell_61 (v := (6 : Int32)) (by decide) ?_
  refine v_iadd C dX6_spell_63 ?_
  refine v_iload C 8 dX6_spell_64 rfl ?_
  obtain ⟨hi13, h⟩ := h
  refine v_iast (k := 1) C (by decide) (fun _ => rfl) hi13 dX6_spell_66 ?_
  obtain ⟨M14, eM14⟩ : ∃ z : S0, z = up M12 1 (Int32.toNatClampNeg (p1 + (6 : Int32))) p8 := ⟨_, rfl⟩
  rw [← eM14]
  replace h := h M14 eM14
  refine v_aload_n C 0 dX6_spell_67 rfl rfl ?_
  refine fX6_6_g_texts C dX6_spell_68 ?_
  refine v_iload_n C 1 dX6_spell_71 rfl rfl ?_
  refine v_bipush C dX6_spell_72 (v := (7 : Int32)) (by decide) ?_
  refine v_iadd C dX6_spell_74 ?_
  refine v_iload C 9 dX6_spell_75 rfl ?_
  obtain ⟨hi15, h⟩ := h
  refine v_iast (k := 1) C (by decide) (fun _ => rfl) hi15 dX6_spell_77 ?_
  obtain ⟨M16, eM16⟩ : ∃ z : S0, z = up M14 1 (Int32.toNatClampNeg (p1 + (7 : Int32))) p9 := ⟨_, rfl⟩
  rw [← eM16]
  replace h := h M16 eM16
  exact hR _ _ _ h dX6_spell_78
def w6_isOne (M : S0) (p1 : Int32) (Q : Int32 → S0 → Prop) : Prop :=
    w6_in M (Int32.toInt64 p1) (0 : Int64) (Int32.toInt64 ((M 0 11) - (1 : Int32))) (fun r2 M1 => (narrow .boolean (.int r2) = .int r2) ∧ (Q r2 M1))
set_option maxHeartbeats 4000000 in
set_option maxRecDepth 20000 in
theorem c6_isOne {B : BX} {a : Nat → Nat} {M : S0} {p1 : Int32} {Q : Int32 → S0 → Prop} (h : w6_isOne  M p1 Q) : KI B (wl 12 a (shM B.2.1 a)) yX6_isOne cX6_isOne 2 (some .boolean) 1 25 [.ref (a 0), .int p1] M Q := by
  rw [w6_isOne] at h
  refine KZ_of (by decide +kernel) (Nat.le_of_ble_eq_true rfl) (fun E C hR => ?_)
  change V B E 2 (wl 12 a (shM B.2.1 a) M) 0 [(0, .ref (a 0)), (1, .int p1)] []
  change Ok B E cX6_isOne 2 RX6 1 25 at C
  refine v_iload_n C 1 dX6_isOne_0 rfl rfl ?_
  refine v_i2l C dX6_isOne_1 ?_
  refine v_lconst C dX6_isOne_2 (v := (0 : Int64)) (by decide) ?_
  refine v_aload_n C 0 dX6_isOne_3 rfl rfl ?_
  refine fX6_6_g_many C dX6_isOne_4 ?_
  refine v_iconst C dX6_isOne_7 (v := (1 : Int32)) (by decide) ?_
  refine v_isub C dX6_isOne_8 ?_
  refine v_i2l C dX6_isOne_9 ?_
  refine v_callSi (As := [.long (Int32.toInt64 p1), .long (0 : Int64), .long (Int32.toInt64 ((M 0 11) - (1 : Int32)))]) (rest := []) C (c6_in  h) eX6_64 (by omega) (by omega) rfl rfl (Nat.le_of_ble_eq_true rfl) dX6_isOne_10 (fun r2 M1 h => ?_)
  obtain ⟨hn3, h⟩ := h
  exact hR _ _ _ _ hn3 h dX6_isOne_13
def w6_areTwo (M : S0) (p1 : Int32) (p2 : Int32) (Q : Int32 → S0 → Prop) : Prop :=
    w6_isOne M p1 (fun r2 M1 => ((r2 = 0) → (Q (0 : Int32) M1)) ∧ ((¬ r2 = 0) → (w6_isOne M1 p2 (fun r4 M3 => ((r4 = 0) → (Q (0 : Int32) M3)) ∧ ((¬ r4 = 0) → (((p1 = p2) → (Q (0 : Int32) M3)) ∧ ((¬ p1 = p2) → (Q (1 : Int32) M3))))))))
set_option maxHeartbeats 4000000 in
set_option maxRecDepth 20000 in
theorem c6_areTwo {B : BX} {a : Nat → Nat} {M : S0} {p1 : Int32} {p2 : Int32} {Q : Int32 → S0 → Prop} (h : w6_areTwo  M p1 p2 Q) : KI B (wl 12 a (shM B.2.1 a)) yX6_areTwo cX6_areTwo 3 (some .boolean) 2 46 [.ref (a 0), .int p1, .int p2] M Q := by
  rw [w6_areTwo] at h
  refine KZ_of (by decide +kernel) (Nat.le_of_ble_eq_true rfl) (fun E C hR => ?_)
  change V B E 3 (wl 12 a (shM B.2.1 a) M) 0 [(0, .ref (a 0)), (1, .int p1), (2, .int p2)] []
  change Ok B E cX6_areTwo 3 RX6 2 46 at C
  refine v_aload_n C 0 dX6_areTwo_0 rfl rfl ?_
  refine v_iload_n C 1 dX6_areTwo_1 rfl rfl ?_
  refine v_callVi (k := 0) (As := [.int p1]) (rest := []) C (c6_isOne  h) eX6_68 (by omega) (by omega) (by decide) rfl rfl rfl rfl (Nat.le_of_ble_eq_true rfl) dX6_areTwo_2 (fun r2 M1 h => ?_)
  refine v_if_eq C dX6_areTwo_5 (tgt := 25) (by decide) (fun c => ?_) (fun c => ?_)
  · replace h := h.1 c
    refine v_iconst C dX6_areTwo_25 (v := (0 : Int32)) (by decide) ?_
    exact hR _ _ _ _ rfl h dX6_areTwo_26
  · replace h := h.2 c
    refine v_aload_n C 0 dX6_areTwo_8 rfl rfl ?_
    refine v_iload_n C 2 dX6_areTwo_9 rfl rfl ?_
    refine v_callVi (k := 0) (As := [.int p2]) (rest := []) C (c6_isOne  h) eX6_68 (by omega) (by omega) (by decide) rfl rfl rfl rfl (Nat.le_of_ble_eq_true rfl) dX6_areTwo_10 (fun r4 M3 h => ?_)
    refine v_if_eq C dX6_areTwo_13 (tgt := 25) (by decide) (fun c => ?_) (fun c => ?_)
    · replace h := h.1 c
      refine v_iconst C dX6_areTwo_25 (v := (0 : Int32)) (by decide) ?_
      exact hR _ _ _ _ rfl h dX6_areTwo_26
    · replace h := h.2 c
      refine v_iload_n C 1 dX6_areTwo_16 rfl rfl ?_
      refine v_iload_n C 2 dX6_areTwo_17 rfl rfl ?_
      refine v_icmp_eq C dX6_areTwo_18 (tgt := 25) (by decide) (fun c => ?_) (fun c => ?_)
      · replace h := h.1 c
        refine v_iconst C dX6_areTwo_25 (v := (0 : Int32)) (by decide) ?_
        exact hR _ _ _ _ rfl h dX6_areTwo_26
      · replace h := h.2 c
        refine v_iconst C dX6_areTwo_21 (v := (1 : Int32)) (by decide) ?_
        refine v_goto C dX6_areTwo_22 (tgt := 26) (by decide) ?_
        exact hR _ _ _ _ rfl h dX6_areTwo_26
def w6_isThing (M : S0) (p1 : Int32) (Q : Int32 → S0 → Prop) : Prop :=
    w6_in M (Int32.toInt64 p1) (0 : Int64) (7 : Int64) (fun r2 M1 => (narrow .boolean (.int r2) = .int r2) ∧ (Q r2 M1))
set_option maxHeartbeats 4000000 in
set_option maxRecDepth 20000 in
theorem c6_isThing {B : BX} {a : Nat → Nat} {M : S0} {p1 : Int32} {Q : Int32 → S0 → Prop} (h : w6_isThing  M p1 Q) : KI B (wl 12 a (shM B.2.1 a)) yX6_isThing cX6_isThing 1 (some .boolean) 1 25 [.int p1] M Q := by
  rw [w6_isThing] at h
  refine KZ_of (by decide +kernel) (Nat.le_of_ble_eq_true rfl) (fun E C hR => ?_)
  change V B E 1 (wl 12 a (shM B.2.1 a) M) 0 [(0, .int p1)] []
  change Ok B E cX6_isThing 1 RX6 1 25 at C
  refine v_iload_n C 0 dX6_isThing_0 rfl rfl ?_
  refine v_i2l C dX6_isThing_1 ?_
  refine v_lconst C dX6_isThing_2 (v := (0 : Int64)) (by decide) ?_
  refine v_ldc2 C (v := (7 : Int64)) (gdm 928 (by decide +kernel) (by decide +kernel)) dX6_isThing_3 ?_
  refine v_callSi (As := [.long (Int32.toInt64 p1), .long (0 : Int64), .long (7 : Int64)]) (rest := []) C (c6_in  h) eX6_64 (by omega) (by omega) rfl rfl (Nat.le_of_ble_eq_true rfl) dX6_isThing_6 (fun r2 M1 h => ?_)
  obtain ⟨hn3, h⟩ := h
  exact hR _ _ _ _ hn3 h dX6_isThing_9
def w6_isOf (M : S0) (p1 : Int32) (p2 : Int32) (Q : Int32 → S0 → Prop) : Prop :=
    ((p1 = 0) → (Q (1 : Int32) M)) ∧ ((¬ p1 = 0) → (((¬ p1 = (1 : Int32)) → (w6_isOne M p2 (fun r2 M1 => ((r2 = 0) → (Q (0 : Int32) M1)) ∧ ((¬ r2 = 0) → (Q (1 : Int32) M1))))) ∧ ((p1 = (1 : Int32)) → (w6_isThing M p2 (fun r4 M3 => ((r4 = 0) → (Q (0 : Int32) M3)) ∧ ((¬ r4 = 0) → (Q (1 : Int32) M3)))))))
set_option maxHeartbeats 4000000 in
set_option maxRecDepth 20000 in
theorem c6_isOf {B : BX} {a : Nat → Nat} {M : S0} {p1 : Int32} {p2 : Int32} {Q : Int32 → S0 → Prop} (h : w6_isOf  M p1 p2 Q) : KI B (wl 12 a (shM B.2.1 a)) yX6_isOf cX6_isOf 3 (some .boolean) 2 46 [.ref (a 0), .int p1, .int p2] M Q := by
  rw [w6_isOf] at h
  refine KZ_of (by decide +kernel) (Nat.le_of_ble_eq_true rfl) (fun E C hR => ?_)
  change V B E 3 (wl 12 a (shM B.2.1 a) M) 0 [(0, .ref (a 0)), (1, .int p1), (2, .int p2)] []
  change Ok B E cX6_isOf 3 RX6 2 46 at C
  refine v_iload_n C 1 dX6_isOf_0 rfl rfl ?_
  refine v_if_eq C dX6_isOf_1 (tgt := 27) (by decide) (fun c => ?_) (fun c => ?_)
  · replace h := h.1 c
    refine v_iconst C dX6_isOf_27 (v := (1 : Int32)) (by decide) ?_
    refine v_goto C dX6_isOf_28 (tgt := 32) (by decide) ?_
    exact hR _ _ _ _ rfl h dX6_isOf_32
  · replace h := h.2 c
    refine v_iload_n C 1 dX6_isOf_4 rfl rfl ?_
    refine v_iconst C dX6_isOf_5 (v := (1 : Int32)) (by decide) ?_
    refine v_icmp_ne C dX6_isOf_6 (tgt := 19) (by decide) (fun c => ?_) (fun c => ?_)
    · replace h := h.1 c
      refine v_aload_n C 0 dX6_isOf_19 rfl rfl ?_
      refine v_iload_n C 2 dX6_isOf_20 rfl rfl ?_
      refine v_callVi (k := 0) (As := [.int p2]) (rest := []) C (c6_isOne  h) eX6_68 (by omega) (by omega) (by decide) rfl rfl rfl rfl (Nat.le_of_ble_eq_true rfl) dX6_isOf_21 (fun r2 M1 h => ?_)
      refine v_if_eq C dX6_isOf_24 (tgt := 31) (by decide) (fun c => ?_) (fun c => ?_)
      · replace h := h.1 c
        refine v_iconst C dX6_isOf_31 (v := (0 : Int32)) (by decide) ?_
        exact hR _ _ _ _ rfl h dX6_isOf_32
      · replace h := h.2 c
        refine v_iconst C dX6_isOf_27 (v := (1 : Int32)) (by decide) ?_
        refine v_goto C dX6_isOf_28 (tgt := 32) (by decide) ?_
        exact hR _ _ _ _ rfl h dX6_isOf_32
    · replace h := h.2 c
      refine v_iload_n C 2 dX6_isOf_9 rfl rfl ?_
      refine v_callSi (As := [.int p2]) (rest := []) C (c6_isThing  h) eX6_74 (by omega) (by omega) rfl rfl (Nat.le_of_ble_eq_true rfl) dX6_isOf_10 (fun r4 M3 h => ?_)
      refine v_if_eq C dX6_isOf_13 (tgt := 31) (by decide) (fun c => ?_) (fun c => ?_)
      · replace h := h.1 c
        refine v_iconst C dX6_isOf_31 (v := (0 : Int32)) (by decide) ?_
        exact hR _ _ _ _ rfl h dX6_isOf_32
      · replace h := h.2 c
        refine v_goto C dX6_isOf_16 (tgt := 27) (by decide) ?_
        refine v_iconst C dX6_isOf_27 (v := (1 : Int32)) (by decide) ?_
        refine v_goto C dX6_isOf_28 (tgt := 32) (by decide) ?_
        exact hR _ _ _ _ rfl h dX6_isOf_32
def w6_isValue (M : S0) (p1 : Int32) (p2 : Int32) (Q : Int32 → S0 → Prop) : Prop :=
    ((¬ p1 = (1 : Int32)) → (((¬ p1 = 0) → (((¬ p1 = (2 : Int32)) → (w6_in M (Int32.toInt64 p2) (0 : Int64) (99 : Int64) (fun r2 M1 => (narrow .boolean (.int r2) = .int r2) ∧ (Q r2 M1)))) ∧ ((p1 = (2 : Int32)) → (w6_in M (Int32.toInt64 p2) (0 : Int64) (9 : Int64) (fun r5 M4 => (narrow .boolean (.int r5) = .int r5) ∧ (Q r5 M4)))))) ∧ ((p1 = 0) → (w6_in M (Int32.toInt64 p2) (0 : Int64) (999 : Int64) (fun r8 M7 => (narrow .boolean (.int r8) = .int r8) ∧ (Q r8 M7)))))) ∧ ((p1 = (1 : Int32)) → (((p2 = (-1 : Int32)) → (Q (1 : Int32) M)) ∧ ((¬ p2 = (-1 : Int32)) → (w6_isOne M p2 (fun r11 M10 => ((r11 = 0) → (Q (0 : Int32) M10)) ∧ ((¬ r11 = 0) → (Q (1 : Int32) M10)))))))
set_option maxHeartbeats 4000000 in
set_option maxRecDepth 20000 in
theorem c6_isValue {B : BX} {a : Nat → Nat} {M : S0} {p1 : Int32} {p2 : Int32} {Q : Int32 → S0 → Prop} (h : w6_isValue  M p1 p2 Q) : KI B (wl 12 a (shM B.2.1 a)) yX6_isValue cX6_isValue 3 (some .boolean) 2 46 [.ref (a 0), .int p1, .int p2] M Q := by
  rw [w6_isValue] at h
  refine KZ_of (by decide +kernel) (Nat.le_of_ble_eq_true rfl) (fun E C hR => ?_)
  change V B E 3 (wl 12 a (shM B.2.1 a) M) 0 [(0, .ref (a 0)), (1, .int p1), (2, .int p2)] []
  change Ok B E cX6_isValue 3 RX6 2 46 at C
  refine v_iload_n C 1 dX6_isValue_0 rfl rfl ?_
  refine v_iconst C dX6_isValue_1 (v := (1 : Int32)) (by decide) ?_
  refine v_icmp_ne C dX6_isValue_2 (tgt := 24) (by decide) (fun c => ?_) (fun c => ?_)
  · replace h := h.1 c
    refine v_iload_n C 2 dX6_isValue_24 rfl rfl ?_
    refine v_i2l C dX6_isValue_25 ?_
    refine v_lconst C dX6_isValue_26 (v := (0 : Int64)) (by decide) ?_
    refine v_iload_n C 1 dX6_isValue_27 rfl rfl ?_
    refine v_if_ne C dX6_isValue_28 (tgt := 37) (by decide) (fun c => ?_) (fun c => ?_)
    · replace h := h.1 c
      refine v_iload_n C 1 dX6_isValue_37 rfl rfl ?_
      refine v_iconst C dX6_isValue_38 (v := (2 : Int32)) (by decide) ?_
      refine v_icmp_ne C dX6_isValue_39 (tgt := 48) (by decide) (fun c => ?_) (fun c => ?_)
      · replace h := h.1 c
        refine v_ldc2 C (v := (99 : Int64)) (gdm 939 (by decide +kernel) (by decide +kernel)) dX6_isValue_48 ?_
        refine v_callSi (As := [.long (Int32.toInt64 p2), .long (0 : Int64), .long (99 : Int64)]) (rest := []) C (c6_in  h) eX6_64 (by omega) (by omega) rfl rfl (Nat.le_of_ble_eq_true rfl) dX6_isValue_51 (fun r2 M1 h => ?_)
        obtain ⟨hn3, h⟩ := h
        exact hR _ _ _ _ hn3 h dX6_isValue_54
      · replace h := h.2 c
        refine v_ldc2 C (v := (9 : Int64)) (gdm 938 (by decide +kernel) (by decide +kernel)) dX6_isValue_42 ?_
        refine v_goto C dX6_isValue_45 (tgt := 51) (by decide) ?_
        refine v_callSi (As := [.long (Int32.toInt64 p2), .long (0 : Int64), .long (9 : Int64)]) (rest := []) C (c6_in  h) eX6_64 (by omega) (by omega) rfl rfl (Nat.le_of_ble_eq_true rfl) dX6_isValue_51 (fun r5 M4 h => ?_)
        obtain ⟨hn6, h⟩ := h
        exact hR _ _ _ _ hn6 h dX6_isValue_54
    · replace h := h.2 c
      refine v_ldc2 C (v := (999 : Int64)) (gdm 937 (by decide +kernel) (by decide +kernel)) dX6_isValue_31 ?_
      refine v_goto C dX6_isValue_34 (tgt := 51) (by decide) ?_
      refine v_callSi (As := [.long (Int32.toInt64 p2), .long (0 : Int64), .long (999 : Int64)]) (rest := []) C (c6_in  h) eX6_64 (by omega) (by omega) rfl rfl (Nat.le_of_ble_eq_true rfl) dX6_isValue_51 (fun r8 M7 h => ?_)
      obtain ⟨hn9, h⟩ := h
      exact hR _ _ _ _ hn9 h dX6_isValue_54
  · replace h := h.2 c
    refine v_iload_n C 2 dX6_isValue_5 rfl rfl ?_
    refine v_iconst C dX6_isValue_6 (v := (-1 : Int32)) (by decide) ?_
    refine v_icmp_eq C dX6_isValue_7 (tgt := 18) (by decide) (fun c => ?_) (fun c => ?_)
    · replace h := h.1 c
      refine v_iconst C dX6_isValue_18 (v := (1 : Int32)) (by decide) ?_
      refine v_goto C dX6_isValue_19 (tgt := 23) (by decide) ?_
      exact hR _ _ _ _ rfl h dX6_isValue_23
    · replace h := h.2 c
      refine v_aload_n C 0 dX6_isValue_10 rfl rfl ?_
      refine v_iload_n C 2 dX6_isValue_11 rfl rfl ?_
      refine v_callVi (k := 0) (As := [.int p2]) (rest := []) C (c6_isOne  h) eX6_68 (by omega) (by omega) (by decide) rfl rfl rfl rfl (Nat.le_of_ble_eq_true rfl) dX6_isValue_12 (fun r11 M10 h => ?_)
      refine v_if_eq C dX6_isValue_15 (tgt := 22) (by decide) (fun c => ?_) (fun c => ?_)
      · replace h := h.1 c
        refine v_iconst C dX6_isValue_22 (v := (0 : Int32)) (by decide) ?_
        exact hR _ _ _ _ rfl h dX6_isValue_23
      · replace h := h.2 c
        refine v_iconst C dX6_isValue_18 (v := (1 : Int32)) (by decide) ?_
        refine v_goto C dX6_isValue_19 (tgt := 23) (by decide) ?_
        exact hR _ _ _ _ rfl h dX6_isValue_23
def w6_whereIs_b2 (Q : Int32 → S0 → Prop) : Nat → S0 → Int32 → Int32 → Prop
  | 0, _, _, _ => False
  | n + 1, M, v1_2, v2_2 =>
    (((M 0 11) ≤ v2_2) → (Q (-1 : Int32) M)) ∧ ((¬ (M 0 11) ≤ v2_2) → ((vp_in (((4 : Int32) * v2_2) + (3 : Int32)) 24) ∧ (((¬ (((M 5 (Int32.toNatClampNeg (((4 : Int32) * v2_2) + (3 : Int32)))) >>> (v1_2 &&& 31)) &&& (1 : Int32)) = (1 : Int32)) → (∀ x3 : Int32, x3 = v2_2 + (1 : Int32) → (w6_whereIs_b2   Q n M v1_2 x3))) ∧ (((((M 5 (Int32.toNatClampNeg (((4 : Int32) * v2_2) + (3 : Int32)))) >>> (v1_2 &&& 31)) &&& (1 : Int32)) = (1 : Int32)) → (Q v2_2 M)))))
set_option maxHeartbeats 4000000 in
set_option maxRecDepth 20000 in
theorem t6_whereIs_b2 {B : BX} {E : EX} {a : Nat → Nat} {Q : Int32 → S0 → Prop} (C : Ok B E cX6_whereIs 3 RX6 0 0) (hR : RetI B E cX6_whereIs 3 (wl 12 a (shM B.2.1 a)) Q) : ∀ (n : Nat) (M : S0) (v1_2 : Int32) (v2_2 : Int32), w6_whereIs_b2   Q n M v1_2 v2_2 → V B E 3 (wl 12 a (shM B.2.1 a) M) 2 [(0, .ref (a 0)), (1, .int v1_2), (2, .int v2_2)] [] := by
  intro n
  induction n with
  | zero =>
    intro M v1_2 v2_2  h
    exact h.elim
  | succ n ih =>
    intro M v1_2 v2_2  h
    rw [w6_whereIs_b2] at h
    refine v_iload_n C 2 dX6_whereIs_2 rfl rfl ?_
    refine v_aload_n C 0 dX6_whereIs_3 rfl rfl ?_
    refine fX6_6_g_many C dX6_whereIs_4 ?_
    refine v_icmp_ge C dX6_whereIs_7 (tgt := 36) (by decide) (fun c => ?_) (fun c => ?_)
    · replace h := h.1 c
      refine v_iconst C dX6_whereIs_36 (v := (-1 : Int32)) (by decide) ?_
      exact hR _ _ _ _ h dX6_whereIs_37
    · replace h := h.2 c
      refine v_aload_n C 0 dX6_whereIs_10 rfl rfl ?_
      refine fX6_6_g_rows C dX6_whereIs_11 ?_
      refine v_iconst C dX6_whereIs_14 (v := (4 : Int32)) (by decide) ?_
      refine v_iload_n C 2 dX6_whereIs_15 rfl rfl ?_
      refine v_imul C dX6_whereIs_16 ?_
      refine v_iconst C dX6_whereIs_17 (v := (3 : Int32)) (by decide) ?_
      refine v_iadd C dX6_whereIs_18 ?_
      obtain ⟨hi2, h⟩ := h
      refine v_iald (k := 5) C (by decide) rfl hi2 dX6_whereIs_19 ?_
      refine v_iload_n C 1 dX6_whereIs_20 rfl rfl ?_
      refine v_ishr C dX6_whereIs_21 ?_
      refine v_iconst C dX6_whereIs_22 (v := (1 : Int32)) (by decide) ?_
      refine v_iand C dX6_whereIs_23 ?_
      refine v_iconst C dX6_whereIs_24 (v := (1 : Int32)) (by decide) ?_
      refine v_icmp_ne C dX6_whereIs_25 (tgt := 30) (by decide) (fun c => ?_) (fun c => ?_)
      · replace h := h.1 c
        obtain ⟨x3, ex3⟩ : ∃ z : Int32, z = v2_2 + (1 : Int32) := ⟨_, rfl⟩
        replace h := h x3 ex3
        refine v_iinc (v := x3) (lv' := [(2, .int x3), (0, .ref (a 0)), (1, .int v1_2)]) C 2 dX6_whereIs_30 rfl (by rw [ex3]; rfl) (by decide) rfl ?_
        refine v_goto C dX6_whereIs_33 (tgt := 2) (by decide) ?_
        refine v_sub [1, 2, 0] rfl ?_
        exact ih M v1_2 x3  h
      · replace h := h.2 c
        refine v_iload_n C 2 dX6_whereIs_28 rfl rfl ?_
        exact hR _ _ _ _ h dX6_whereIs_29
def w6_whereIs (M : S0) (p1 : Int32) (Q : Int32 → S0 → Prop) : Prop :=
    ∃ n1, w6_whereIs_b2   Q n1 M p1 (0 : Int32)
set_option maxHeartbeats 4000000 in
set_option maxRecDepth 20000 in
theorem c6_whereIs {B : BX} {a : Nat → Nat} {M : S0} {p1 : Int32} {Q : Int32 → S0 → Prop} (h : w6_whereIs  M p1 Q) : KI B (wl 12 a (shM B.2.1 a)) yX6_whereIs cX6_whereIs 3 (some .int) 0 0 [.ref (a 0), .int p1] M Q := by
  rw [w6_whereIs] at h
  refine KI_of (by decide +kernel) (Nat.le_of_ble_eq_true rfl) (fun E C hR => ?_)
  change V B E 3 (wl 12 a (shM B.2.1 a) M) 0 [(0, .ref (a 0)), (1, .int p1)] []
  change Ok B E cX6_whereIs 3 RX6 0 0 at C
  refine v_iconst C dX6_whereIs_0 (v := (0 : Int32)) (by decide) ?_
  refine v_istore_n (lv' := [(2, .int (0 : Int32)), (0, .ref (a 0)), (1, .int p1)]) C dX6_whereIs_1 rfl (by decide) rfl ?_
  obtain ⟨n1, h⟩ := h
  refine v_sub [1, 2, 0] rfl ?_
  exact t6_whereIs_b2   C hR  n1 M p1 (0 : Int32)  h
def w6_has (M : S0) (p1 : Int32) (Q : Int32 → S0 → Prop) : Prop :=
    (vp_in (((4 : Int32) * p1) + (3 : Int32)) 24) ∧ (Q (M 5 (Int32.toNatClampNeg (((4 : Int32) * p1) + (3 : Int32)))) M)
set_option maxHeartbeats 4000000 in
set_option maxRecDepth 20000 in
theorem c6_has {B : BX} {a : Nat → Nat} {M : S0} {p1 : Int32} {Q : Int32 → S0 → Prop} (h : w6_has  M p1 Q) : KI B (wl 12 a (shM B.2.1 a)) yX6_has cX6_has 2 (some .int) 0 0 [.ref (a 0), .int p1] M Q := by
  rw [w6_has] at h
  refine KI_of (by decide +kernel) (Nat.le_of_ble_eq_true rfl) (fun E C hR => ?_)
  change V B E 2 (wl 12 a (shM B.2.1 a) M) 0 [(0, .ref (a 0)), (1, .int p1)] []
  change Ok B E cX6_has 2 RX6 0 0 at C
  refine v_aload_n C 0 dX6_has_0 rfl rfl ?_
  refine fX6_6_g_rows C dX6_has_1 ?_
  refine v_iconst C dX6_has_4 (v := (4 : Int32)) (by decide) ?_
  refine v_iload_n C 1 dX6_has_5 rfl rfl ?_
  refine v_imul C dX6_has_6 ?_
  refine v_iconst C dX6_has_7 (v := (3 : Int32)) (by decide) ?_
  refine v_iadd C dX6_has_8 ?_
  obtain ⟨hi1, h⟩ := h
  refine v_iald (k := 5) C (by decide) rfl hi1 dX6_has_9 ?_
  exact hR _ _ _ _ h dX6_has_10
def w6_bitsOf_b4 (Q : Int32 → S0 → Prop) : Nat → S0 → Int32 → Int32 → Prop
  | 0, _, _, _ => False
  | n + 1, M, v1_4, v2_4 =>
    ((v2_4 = 0) → (Q v1_4 M)) ∧ ((¬ v2_4 = 0) → (∀ x2 : Int32, x2 = v1_4 + (1 : Int32) → (∀ x3 : Int32, x3 = (v2_4 &&& (v2_4 - (1 : Int32))) → (w6_bitsOf_b4   Q n M x2 x3))))
set_option maxHeartbeats 4000000 in
set_option maxRecDepth 20000 in
theorem t6_bitsOf_b4 {B : BX} {E : EX} {a : Nat → Nat} {Q : Int32 → S0 → Prop} (C : Ok B E cX6_bitsOf 3 RX6 0 0) (hR : RetI B E cX6_bitsOf 3 (wl 12 a (shM B.2.1 a)) Q) : ∀ (n : Nat) (M : S0) (v1_4 : Int32) (v2_4 : Int32), w6_bitsOf_b4   Q n M v1_4 v2_4 → V B E 3 (wl 12 a (shM B.2.1 a) M) 4 [(1, .int v1_4), (2, .int v2_4)] [] := by
  intro n
  induction n with
  | zero =>
    intro M v1_4 v2_4  h
    exact h.elim
  | succ n ih =>
    intro M v1_4 v2_4  h
    rw [w6_bitsOf_b4] at h
    refine v_iload_n C 1 dX6_bitsOf_4 rfl rfl ?_
    refine v_if_eq C dX6_bitsOf_5 (tgt := 20) (by decide) (fun c => ?_) (fun c => ?_)
    · replace h := h.1 c
      refine v_iload_n C 0 dX6_bitsOf_20 rfl rfl ?_
      exact hR _ _ _ _ h dX6_bitsOf_21
    · replace h := h.2 c
      obtain ⟨x2, ex2⟩ : ∃ z : Int32, z = v1_4 + (1 : Int32) := ⟨_, rfl⟩
      replace h := h x2 ex2
      refine v_iinc (v := x2) (lv' := [(1, .int x2), (2, .int v2_4)]) C 0 dX6_bitsOf_8 rfl (by rw [ex2]; rfl) (by decide) rfl ?_
      refine v_iload_n C 1 dX6_bitsOf_11 rfl rfl ?_
      refine v_iload_n C 1 dX6_bitsOf_12 rfl rfl ?_
      refine v_iconst C dX6_bitsOf_13 (v := (1 : Int32)) (by decide) ?_
      refine v_isub C dX6_bitsOf_14 ?_
      refine v_iand C dX6_bitsOf_15 ?_
      refine v_nmi (fun x3 ex3 => ?_)
      replace h := h x3 ex3
      refine v_istore_n (lv' := [(2, .int x3), (1, .int x2)]) C dX6_bitsOf_16 rfl (by decide) rfl ?_
      refine v_goto C dX6_bitsOf_17 (tgt := 4) (by decide) ?_
      refine v_sub [1, 0] rfl ?_
      exact ih M x2 x3  h
def w6_bitsOf (M : S0) (p1 : Int32) (Q : Int32 → S0 → Prop) : Prop :=
    ∃ n1, w6_bitsOf_b4   Q n1 M (0 : Int32) p1
set_option maxHeartbeats 4000000 in
set_option maxRecDepth 20000 in
theorem c6_bitsOf {B : BX} {a : Nat → Nat} {M : S0} {p1 : Int32} {Q : Int32 → S0 → Prop} (h : w6_bitsOf  M p1 Q) : KI B (wl 12 a (shM B.2.1 a)) yX6_bitsOf cX6_bitsOf 3 (some .int) 0 0 [.int p1] M Q := by
  rw [w6_bitsOf] at h
  refine KI_of (by decide +kernel) (Nat.le_of_ble_eq_true rfl) (fun E C hR => ?_)
  change V B E 3 (wl 12 a (shM B.2.1 a) M) 0 [(0, .int p1)] []
  change Ok B E cX6_bitsOf 3 RX6 0 0 at C
  refine v_iconst C dX6_bitsOf_0 (v := (0 : Int32)) (by decide) ?_
  refine v_istore_n (lv' := [(1, .int (0 : Int32)), (0, .int p1)]) C dX6_bitsOf_1 rfl (by decide) rfl ?_
  refine v_iload_n C 1 dX6_bitsOf_2 rfl rfl ?_
  refine v_istore_n (lv' := [(2, .int p1), (1, .int (0 : Int32)), (0, .int p1)]) C dX6_bitsOf_3 rfl (by decide) rfl ?_
  obtain ⟨n1, h⟩ := h
  refine v_sub [1, 0] rfl ?_
  exact t6_bitsOf_b4   C hR  n1 M (0 : Int32) p1  h
def w6_hasMany (M : S0) (p1 : Int32) (Q : Int32 → S0 → Prop) : Prop :=
    w6_has M p1 (fun r2 M1 => w6_bitsOf M1 r2 (fun r4 M3 => Q r4 M3))
set_option maxHeartbeats 4000000 in
set_option maxRecDepth 20000 in
theorem c6_hasMany {B : BX} {a : Nat → Nat} {M : S0} {p1 : Int32} {Q : Int32 → S0 → Prop} (h : w6_hasMany  M p1 Q) : KI B (wl 12 a (shM B.2.1 a)) yX6_hasMany cX6_hasMany 2 (some .int) 1 22 [.ref (a 0), .int p1] M Q := by
  rw [w6_hasMany] at h
  refine KI_of (by decide +kernel) (Nat.le_of_ble_eq_true rfl) (fun E C hR => ?_)
  change V B E 2 (wl 12 a (shM B.2.1 a) M) 0 [(0, .ref (a 0)), (1, .int p1)] []
  change Ok B E cX6_hasMany 2 RX6 1 22 at C
  refine v_aload_n C 0 dX6_hasMany_0 rfl rfl ?_
  refine v_iload_n C 1 dX6_hasMany_1 rfl rfl ?_
  refine v_callVi (k := 0) (As := [.int p1]) (rest := []) C (c6_has  h) eX6_112 (by omega) (by omega) (by decide) rfl rfl rfl rfl (Nat.le_of_ble_eq_true rfl) dX6_hasMany_2 (fun r2 M1 h => ?_)
  refine v_callSi (As := [.int r2]) (rest := []) C (c6_bitsOf  h) eX6_116 (by omega) (by omega) rfl rfl (Nat.le_of_ble_eq_true rfl) dX6_hasMany_5 (fun r4 M3 h => ?_)
  exact hR _ _ _ _ h dX6_hasMany_8
def w6_told (M : S0) (p1 : Int32) (p2 : Int32) (Q : Int32 → S0 → Prop) : Prop :=
    w6_in M (Int32.toInt64 p2) (0 : Int64) (7 : Int64) (fun r2 M1 => ((r2 = 0) → (Q (-1000 : Int32) M1)) ∧ ((¬ r2 = 0) → (w6_isOf M1 p2 p1 (fun r4 M3 => ((¬ r4 = 0) → ((((4 : Int32) ≤ p2) → (((¬ p2 = (4 : Int32)) → (((¬ p2 = (5 : Int32)) → (((¬ p2 = (6 : Int32)) → (w6_hasMany M3 p1 (fun r6 M5 => Q r6 M5))) ∧ ((p2 = (6 : Int32)) → (w6_has M3 p1 (fun r8 M7 => Q r8 M7))))) ∧ ((p2 = (5 : Int32)) → ((vp_in (((4 : Int32) * p1) + (2 : Int32)) 24) ∧ (Q (M3 5 (Int32.toNatClampNeg (((4 : Int32) * p1) + (2 : Int32)))) M3))))) ∧ ((p2 = (4 : Int32)) → ((vp_in p1 6) ∧ (Q (M3 4 (Int32.toNatClampNeg p1)) M3))))) ∧ ((¬ (4 : Int32) ≤ p2) → (((¬ p2 = 0) → (((¬ p2 = (1 : Int32)) → ((vp_in ((((4 : Int32) * p1) + p2) - (2 : Int32)) 24) ∧ (Q (M3 5 (Int32.toNatClampNeg ((((4 : Int32) * p1) + p2) - (2 : Int32)))) M3))) ∧ ((p2 = (1 : Int32)) → (w6_whereIs M3 p1 (fun r13 M12 => Q r13 M12))))) ∧ ((p2 = 0) → (Q (M3 0 7) M3)))))) ∧ ((r4 = 0) → (Q (-1000 : Int32) M3))))))
set_option maxHeartbeats 4000000 in
set_option maxRecDepth 20000 in
theorem c6_told {B : BX} {a : Nat → Nat} {M : S0} {p1 : Int32} {p2 : Int32} {Q : Int32 → S0 → Prop} (h : w6_told  M p1 p2 Q) : KI B (wl 12 a (shM B.2.1 a)) yX6_told cX6_told 3 (some .int) 3 68 [.ref (a 0), .int p1, .int p2] M Q := by
  rw [w6_told] at h
  refine KI_of (by decide +kernel) (Nat.le_of_ble_eq_true rfl) (fun E C hR => ?_)
  change V B E 3 (wl 12 a (shM B.2.1 a) M) 0 [(0, .ref (a 0)), (1, .int p1), (2, .int p2)] []
  change Ok B E cX6_told 3 RX6 3 68 at C
  refine v_iload_n C 2 dX6_told_0 rfl rfl ?_
  refine v_i2l C dX6_told_1 ?_
  refine v_lconst C dX6_told_2 (v := (0 : Int64)) (by decide) ?_
  refine v_ldc2 C (v := (7 : Int64)) (gdm 928 (by decide +kernel) (by decide +kernel)) dX6_told_3 ?_
  refine v_callSi (As := [.long (Int32.toInt64 p2), .long (0 : Int64), .long (7 : Int64)]) (rest := []) C (c6_in  h) eX6_64 (by omega) (by omega) rfl rfl (Nat.le_of_ble_eq_true rfl) dX6_told_6 (fun r2 M1 h => ?_)
  refine v_if_eq C dX6_told_9 (tgt := 21) (by decide) (fun c => ?_) (fun c => ?_)
  · replace h := h.1 c
    refine v_sipush C dX6_told_21 (v := (-1000 : Int32)) (by decide) ?_
    exact hR _ _ _ _ h dX6_told_24
  · replace h := h.2 c
    refine v_aload_n C 0 dX6_told_12 rfl rfl ?_
    refine v_iload_n C 2 dX6_told_13 rfl rfl ?_
    refine v_iload_n C 1 dX6_told_14 rfl rfl ?_
    refine v_callVi (k := 0) (As := [.int p2, .int p1]) (rest := []) C (c6_isOf  h) eX6_85 (by omega) (by omega) (by decide) rfl rfl rfl rfl (Nat.le_of_ble_eq_true rfl) dX6_told_15 (fun r4 M3 h => ?_)
    refine v_if_ne C dX6_told_18 (tgt := 25) (by decide) (fun c => ?_) (fun c => ?_)
    · replace h := h.1 c
      refine v_iload_n C 2 dX6_told_25 rfl rfl ?_
      refine v_iconst C dX6_told_26 (v := (4 : Int32)) (by decide) ?_
      refine v_icmp_ge C dX6_told_27 (tgt := 67) (by decide) (fun c => ?_) (fun c => ?_)
      · replace h := h.1 c
        refine v_iload_n C 2 dX6_told_67 rfl rfl ?_
        refine v_iconst C dX6_told_68 (v := (4 : Int32)) (by decide) ?_
        refine v_icmp_ne C dX6_told_69 (tgt := 81) (by decide) (fun c => ?_) (fun c => ?_)
        · replace h := h.1 c
          refine v_iload_n C 2 dX6_told_81 rfl rfl ?_
          refine v_iconst C dX6_told_82 (v := (5 : Int32)) (by decide) ?_
          refine v_icmp_ne C dX6_told_83 (tgt := 99) (by decide) (fun c => ?_) (fun c => ?_)
          · replace h := h.1 c
            refine v_iload_n C 2 dX6_told_99 rfl rfl ?_
            refine v_bipush C dX6_told_100 (v := (6 : Int32)) (by decide) ?_
            refine v_icmp_ne C dX6_told_102 (tgt := 113) (by decide) (fun c => ?_) (fun c => ?_)
            · replace h := h.1 c
              refine v_aload_n C 0 dX6_told_113 rfl rfl ?_
              refine v_iload_n C 1 dX6_told_114 rfl rfl ?_
              refine v_callVi (k := 0) (As := [.int p1]) (rest := []) C (c6_hasMany  h) eX6_122 (by omega) (by omega) (by decide) rfl rfl rfl rfl (Nat.le_of_ble_eq_true rfl) dX6_told_115 (fun r6 M5 h => ?_)
              exact hR _ _ _ _ h dX6_told_118
            · replace h := h.2 c
              refine v_aload_n C 0 dX6_told_105 rfl rfl ?_
              refine v_iload_n C 1 dX6_told_106 rfl rfl ?_
              refine v_callVi (k := 0) (As := [.int p1]) (rest := []) C (c6_has  h) eX6_112 (by omega) (by omega) (by decide) rfl rfl rfl rfl (Nat.le_of_ble_eq_true rfl) dX6_told_107 (fun r8 M7 h => ?_)
              refine v_goto C dX6_told_110 (tgt := 118) (by decide) ?_
              exact hR _ _ _ _ h dX6_told_118
          · replace h := h.2 c
            refine v_aload_n C 0 dX6_told_86 rfl rfl ?_
            refine fX6_6_g_rows C dX6_told_87 ?_
            refine v_iconst C dX6_told_90 (v := (4 : Int32)) (by decide) ?_
            refine v_iload_n C 1 dX6_told_91 rfl rfl ?_
            refine v_imul C dX6_told_92 ?_
            refine v_iconst C dX6_told_93 (v := (2 : Int32)) (by decide) ?_
            refine v_iadd C dX6_told_94 ?_
            obtain ⟨hi9, h⟩ := h
            refine v_iald (k := 5) C (by decide) rfl hi9 dX6_told_95 ?_
            refine v_goto C dX6_told_96 (tgt := 118) (by decide) ?_
            exact hR _ _ _ _ h dX6_told_118
        · replace h := h.2 c
          refine v_aload_n C 0 dX6_told_72 rfl rfl ?_
          refine fX6_6_g_kinds C dX6_told_73 ?_
          refine v_iload_n C 1 dX6_told_76 rfl rfl ?_
          obtain ⟨hi10, h⟩ := h
          refine v_iald (k := 4) C (by decide) rfl hi10 dX6_told_77 ?_
          refine v_goto C dX6_told_78 (tgt := 118) (by decide) ?_
          exact hR _ _ _ _ h dX6_told_118
      · replace h := h.2 c
        refine v_iload_n C 2 dX6_told_30 rfl rfl ?_
        refine v_if_ne C dX6_told_31 (tgt := 41) (by decide) (fun c => ?_) (fun c => ?_)
        · replace h := h.1 c
          refine v_iload_n C 2 dX6_told_41 rfl rfl ?_
          refine v_iconst C dX6_told_42 (v := (1 : Int32)) (by decide) ?_
          refine v_icmp_ne C dX6_told_43 (tgt := 54) (by decide) (fun c => ?_) (fun c => ?_)
          · replace h := h.1 c
            refine v_aload_n C 0 dX6_told_54 rfl rfl ?_
            refine fX6_6_g_rows C dX6_told_55 ?_
            refine v_iconst C dX6_told_58 (v := (4 : Int32)) (by decide) ?_
            refine v_iload_n C 1 dX6_told_59 rfl rfl ?_
            refine v_imul C dX6_told_60 ?_
            refine v_iload_n C 2 dX6_told_61 rfl rfl ?_
            refine v_iadd C dX6_told_62 ?_
            refine v_iconst C dX6_told_63 (v := (2 : Int32)) (by decide) ?_
            refine v_isub C dX6_told_64 ?_
            obtain ⟨hi11, h⟩ := h
            refine v_iald (k := 5) C (by decide) rfl hi11 dX6_told_65 ?_
            exact hR _ _ _ _ h dX6_told_66
          · replace h := h.2 c
            refine v_aload_n C 0 dX6_told_46 rfl rfl ?_
            refine v_iload_n C 1 dX6_told_47 rfl rfl ?_
            refine v_callVi (k := 0) (As := [.int p1]) (rest := []) C (c6_whereIs  h) eX6_119 (by omega) (by omega) (by decide) rfl rfl rfl rfl (Nat.le_of_ble_eq_true rfl) dX6_told_48 (fun r13 M12 h => ?_)
            refine v_goto C dX6_told_51 (tgt := 66) (by decide) ?_
            exact hR _ _ _ _ h dX6_told_66
        · replace h := h.2 c
          refine v_aload_n C 0 dX6_told_34 rfl rfl ?_
          refine fX6_6_g_roundNow C dX6_told_35 ?_
          refine v_goto C dX6_told_38 (tgt := 66) (by decide) ?_
          exact hR _ _ _ _ h dX6_told_66
    · replace h := h.2 c
      refine v_sipush C dX6_told_21 (v := (-1000 : Int32)) (by decide) ?_
      exact hR _ _ _ _ h dX6_told_24
def w6_moves_b19 (Q : S0 → Prop) : Nat → S0 → Int32 → Int32 → Int32 → Prop
  | 0, _, _, _, _ => False
  | n + 1, M, v2_19, v3_19, v4_19 =>
    (((M 0 11) ≤ v4_19) → (((¬ v2_19 = (-1 : Int32)) → ((vp_in (((4 : Int32) * v2_19) + (3 : Int32)) 24) ∧ ((vp_in (((4 : Int32) * v2_19) + (3 : Int32)) 24) ∧ (∀ M6 : S0, M6 = up M 5 (Int32.toNatClampNeg (((4 : Int32) * v2_19) + (3 : Int32))) ((M 5 (Int32.toNatClampNeg (((4 : Int32) * v2_19) + (3 : Int32)))) ||| v3_19) → (Q M6))))) ∧ ((v2_19 = (-1 : Int32)) → (∀ M7 : S0, M7 = up M 0 8 ((M 0 8) ||| v3_19) → (Q M7))))) ∧ ((¬ (M 0 11) ≤ v4_19) → ((vp_in (((4 : Int32) * v4_19) + (3 : Int32)) 24) ∧ ((vp_in (((4 : Int32) * v4_19) + (3 : Int32)) 24) ∧ (∀ M10 : S0, M10 = up M 5 (Int32.toNatClampNeg (((4 : Int32) * v4_19) + (3 : Int32))) ((M 5 (Int32.toNatClampNeg (((4 : Int32) * v4_19) + (3 : Int32)))) &&& (v3_19 ^^^ (-1 : Int32))) → (∀ x11 : Int32, x11 = v4_19 + (1 : Int32) → (w6_moves_b19   Q n M10 v2_19 v3_19 x11))))))
set_option maxHeartbeats 4000000 in
set_option maxRecDepth 20000 in
theorem t6_moves_b19 {B : BX} {E : EX} {a : Nat → Nat} {Q : S0 → Prop} (C : Ok B E cX6_moves 5 RX6 0 0) (hR : RetV B E cX6_moves 5 (wl 12 a (shM B.2.1 a)) Q) : ∀ (n : Nat) (M : S0) (v2_19 : Int32) (v3_19 : Int32) (v4_19 : Int32), w6_moves_b19   Q n M v2_19 v3_19 v4_19 → V B E 5 (wl 12 a (shM B.2.1 a) M) 19 [(0, .ref (a 0)), (2, .int v2_19), (3, .int v3_19), (4, .int v4_19)] [] := by
  intro n
  induction n with
  | zero =>
    intro M v2_19 v3_19 v4_19  h
    exact h.elim
  | succ n ih =>
    intro M v2_19 v3_19 v4_19  h
    rw [w6_moves_b19] at h
    refine v_iload C 3 dX6_moves_19 rfl ?_
    refine v_aload_n C 0 dX6_moves_21 rfl rfl ?_
    refine fX6_6_g_many C dX6_moves_22 ?_
    refine v_icmp_ge C dX6_moves_25 (tgt := 51) (by decide) (fun c => ?_) (fun c => ?_)
    · replace h := h.1 c
      refine v_iload_n C 1 dX6_moves_51 rfl rfl ?_
      refine v_iconst C dX6_moves_52 (v := (-1 : Int32)) (by decide) ?_
      refine v_icmp_ne C dX6_moves_53 (tgt := 69) (by decide) (fun c => ?_) (fun c => ?_)
      · replace h := h.1 c
        refine v_aload_n C 0 dX6_moves_69 rfl rfl ?_
        refine fX6_6_g_rows C dX6_moves_70 ?_
        refine v_iconst C dX6_moves_73 (v := (4 : Int32)) (by decide) ?_
        refine v_iload_n C 1 dX6_moves_74 rfl rfl ?_
        refine v_imul C dX6_moves_75 ?_
        refine v_iconst C dX6_moves_76 (v := (3 : Int32)) (by decide) ?_
        refine v_iadd C dX6_moves_77 ?_
        refine v_dup2 C dX6_moves_78 rfl rfl ?_
        obtain ⟨hi4, h⟩ := h
        refine v_iald (k := 5) C (by decide) rfl hi4 dX6_moves_79 ?_
        refine v_iload_n C 2 dX6_moves_80 rfl rfl ?_
        refine v_ior C dX6_moves_81 ?_
        obtain ⟨hi5, h⟩ := h
        refine v_iast (k := 5) C (by decide) (fun _ => rfl) hi5 dX6_moves_82 ?_
        obtain ⟨M6, eM6⟩ : ∃ z : S0, z = up M 5 (Int32.toNatClampNeg (((4 : Int32) * v2_19) + (3 : Int32))) ((M 5 (Int32.toNatClampNeg (((4 : Int32) * v2_19) + (3 : Int32)))) ||| v3_19) := ⟨_, rfl⟩
        rw [← eM6]
        replace h := h M6 eM6
        exact hR _ _ _ h dX6_moves_83
      · replace h := h.2 c
        refine v_aload_n C 0 dX6_moves_56 rfl rfl ?_
        refine v_dup C dX6_moves_57 rfl ?_
        refine fX6_6_g_hall C dX6_moves_58 ?_
        refine v_iload_n C 2 dX6_moves_61 rfl rfl ?_
        refine v_ior C dX6_moves_62 ?_
        refine fX6_6_p_hall C dX6_moves_63 (fun M7 eM7 => ?_)
        replace h := h M7 eM7
        refine v_goto C dX6_moves_66 (tgt := 83) (by decide) ?_
        exact hR _ _ _ h dX6_moves_83
    · replace h := h.2 c
      refine v_aload_n C 0 dX6_moves_28 rfl rfl ?_
      refine fX6_6_g_rows C dX6_moves_29 ?_
      refine v_iconst C dX6_moves_32 (v := (4 : Int32)) (by decide) ?_
      refine v_iload C 3 dX6_moves_33 rfl ?_
      refine v_imul C dX6_moves_35 ?_
      refine v_iconst C dX6_moves_36 (v := (3 : Int32)) (by decide) ?_
      refine v_iadd C dX6_moves_37 ?_
      refine v_dup2 C dX6_moves_38 rfl rfl ?_
      obtain ⟨hi8, h⟩ := h
      refine v_iald (k := 5) C (by decide) rfl hi8 dX6_moves_39 ?_
      refine v_iload_n C 2 dX6_moves_40 rfl rfl ?_
      refine v_iconst C dX6_moves_41 (v := (-1 : Int32)) (by decide) ?_
      refine v_ixor C dX6_moves_42 ?_
      refine v_iand C dX6_moves_43 ?_
      obtain ⟨hi9, h⟩ := h
      refine v_iast (k := 5) C (by decide) (fun _ => rfl) hi9 dX6_moves_44 ?_
      obtain ⟨M10, eM10⟩ : ∃ z : S0, z = up M 5 (Int32.toNatClampNeg (((4 : Int32) * v4_19) + (3 : Int32))) ((M 5 (Int32.toNatClampNeg (((4 : Int32) * v4_19) + (3 : Int32)))) &&& (v3_19 ^^^ (-1 : Int32))) := ⟨_, rfl⟩
      rw [← eM10]
      replace h := h M10 eM10
      obtain ⟨x11, ex11⟩ : ∃ z : Int32, z = v4_19 + (1 : Int32) := ⟨_, rfl⟩
      replace h := h x11 ex11
      refine v_iinc (v := x11) (lv' := [(4, .int x11), (0, .ref (a 0)), (2, .int v2_19), (3, .int v3_19)]) C 3 dX6_moves_45 rfl (by rw [ex11]; rfl) (by decide) rfl ?_
      refine v_goto C dX6_moves_48 (tgt := 19) (by decide) ?_
      refine v_sub [1, 2, 3, 0] rfl ?_
      exact ih M10 v2_19 v3_19 x11  h
def w6_moves (M : S0) (p1 : Int32) (p2 : Int32) (Q : S0 → Prop) : Prop :=
    ∀ x1 : Int32, x1 = ((1 : Int32) <<< (p1 &&& 31)) → (∀ M2 : S0, M2 = up M 0 8 ((M 0 8) &&& (x1 ^^^ (-1 : Int32))) → (∃ n3, w6_moves_b19   Q n3 M2 p2 x1 (0 : Int32)))
set_option maxHeartbeats 4000000 in
set_option maxRecDepth 20000 in
theorem c6_moves {B : BX} {a : Nat → Nat} {M : S0} {p1 : Int32} {p2 : Int32} {Q : S0 → Prop} (h : w6_moves  M p1 p2 Q) : KV B (wl 12 a (shM B.2.1 a)) yX6_moves cX6_moves 5 none 0 0 [.ref (a 0), .int p1, .int p2] M Q := by
  rw [w6_moves] at h
  refine KV_of (by decide +kernel) (Nat.le_of_ble_eq_true rfl) (fun E C hR => ?_)
  change V B E 5 (wl 12 a (shM B.2.1 a) M) 0 [(0, .ref (a 0)), (1, .int p1), (2, .int p2)] []
  change Ok B E cX6_moves 5 RX6 0 0 at C
  refine v_iconst C dX6_moves_0 (v := (1 : Int32)) (by decide) ?_
  refine v_iload_n C 1 dX6_moves_1 rfl rfl ?_
  refine v_ishl C dX6_moves_2 ?_
  refine v_nmi (fun x1 ex1 => ?_)
  replace h := h x1 ex1
  refine v_istore_n (lv' := [(3, .int x1), (0, .ref (a 0)), (1, .int p1), (2, .int p2)]) C dX6_moves_3 rfl (by decide) rfl ?_
  refine v_aload_n C 1 dX6_moves_4 rfl rfl ?_
  refine v_dup C dX6_moves_5 rfl ?_
  refine fX6_6_g_hall C dX6_moves_6 ?_
  refine v_iload_n C 0 dX6_moves_9 rfl rfl ?_
  refine v_iconst C dX6_moves_10 (v := (-1 : Int32)) (by decide) ?_
  refine v_ixor C dX6_moves_11 ?_
  refine v_iand C dX6_moves_12 ?_
  refine fX6_6_p_hall C dX6_moves_13 (fun M2 eM2 => ?_)
  replace h := h M2 eM2
  refine v_iconst C dX6_moves_16 (v := (0 : Int32)) (by decide) ?_
  refine v_istore (lv' := [(4, .int (0 : Int32)), (3, .int x1), (0, .ref (a 0)), (1, .int p1), (2, .int p2)]) C dX6_moves_17 (by decide) rfl ?_
  obtain ⟨n3, h⟩ := h
  refine v_sub [2, 4, 1, 0] rfl ?_
  exact t6_moves_b19   C hR  n3 M2 p2 x1 (0 : Int32)  h
def w6_lays (M : S0) (p1 : Int32) (p2 : Int32) (p3 : Int32) (Q : S0 → Prop) : Prop :=
    ((¬ p1 = 0) → (((¬ p1 = (1 : Int32)) → ((((4 : Int32) ≤ p1) → (((¬ p1 = (4 : Int32)) → (∀ M1 : S0, M1 = up M 0 4 p3 → (Q M1))) ∧ ((p1 = (4 : Int32)) → ((vp_in p2 6) ∧ (∀ M3 : S0, M3 = up M 4 (Int32.toNatClampNeg p2) p3 → (Q M3)))))) ∧ ((¬ (4 : Int32) ≤ p1) → ((vp_in ((((4 : Int32) * p2) + p1) - (2 : Int32)) 24) ∧ (∀ M5 : S0, M5 = up M 5 (Int32.toNatClampNeg ((((4 : Int32) * p2) + p1) - (2 : Int32))) p3 → (Q M5)))))) ∧ ((p1 = (1 : Int32)) → (w6_moves M p2 p3 (fun M6 => Q M6))))) ∧ ((p1 = 0) → (∀ M7 : S0, M7 = up M 0 7 p3 → (Q M7)))
set_option maxHeartbeats 4000000 in
set_option maxRecDepth 20000 in
theorem c6_lays {B : BX} {a : Nat → Nat} {M : S0} {p1 : Int32} {p2 : Int32} {p3 : Int32} {Q : S0 → Prop} (h : w6_lays  M p1 p2 p3 Q) : KV B (wl 12 a (shM B.2.1 a)) yX6_lays cX6_lays 4 none 1 24 [.ref (a 0), .int p1, .int p2, .int p3] M Q := by
  rw [w6_lays] at h
  refine KV_of (by decide +kernel) (Nat.le_of_ble_eq_true rfl) (fun E C hR => ?_)
  change V B E 4 (wl 12 a (shM B.2.1 a) M) 0 [(0, .ref (a 0)), (1, .int p1), (2, .int p2), (3, .int p3)] []
  change Ok B E cX6_lays 4 RX6 1 24 at C
  refine v_iload_n C 1 dX6_lays_0 rfl rfl ?_
  refine v_if_ne C dX6_lays_1 (tgt := 12) (by decide) (fun c => ?_) (fun c => ?_)
  · replace h := h.1 c
    refine v_iload_n C 1 dX6_lays_12 rfl rfl ?_
    refine v_iconst C dX6_lays_13 (v := (1 : Int32)) (by decide) ?_
    refine v_icmp_ne C dX6_lays_14 (tgt := 26) (by decide) (fun c => ?_) (fun c => ?_)
    · replace h := h.1 c
      refine v_iload_n C 1 dX6_lays_26 rfl rfl ?_
      refine v_iconst C dX6_lays_27 (v := (4 : Int32)) (by decide) ?_
      refine v_icmp_ge C dX6_lays_28 (tgt := 47) (by decide) (fun c => ?_) (fun c => ?_)
      · replace h := h.1 c
        refine v_iload_n C 1 dX6_lays_47 rfl rfl ?_
        refine v_iconst C dX6_lays_48 (v := (4 : Int32)) (by decide) ?_
        refine v_icmp_ne C dX6_lays_49 (tgt := 62) (by decide) (fun c => ?_) (fun c => ?_)
        · replace h := h.1 c
          refine v_aload_n C 0 dX6_lays_62 rfl rfl ?_
          refine v_iload_n C 3 dX6_lays_63 rfl rfl ?_
          refine fX6_6_p_rule C dX6_lays_64 (fun M1 eM1 => ?_)
          replace h := h M1 eM1
          exact hR _ _ _ h dX6_lays_67
        · replace h := h.2 c
          refine v_aload_n C 0 dX6_lays_52 rfl rfl ?_
          refine fX6_6_g_kinds C dX6_lays_53 ?_
          refine v_iload_n C 2 dX6_lays_56 rfl rfl ?_
          refine v_iload_n C 3 dX6_lays_57 rfl rfl ?_
          obtain ⟨hi2, h⟩ := h
          refine v_iast (k := 4) C (by decide) (fun _ => rfl) hi2 dX6_lays_58 ?_
          obtain ⟨M3, eM3⟩ : ∃ z : S0, z = up M 4 (Int32.toNatClampNeg p2) p3 := ⟨_, rfl⟩
          rw [← eM3]
          replace h := h M3 eM3
          refine v_goto C dX6_lays_59 (tgt := 67) (by decide) ?_
          exact hR _ _ _ h dX6_lays_67
      · replace h := h.2 c
        refine v_aload_n C 0 dX6_lays_31 rfl rfl ?_
        refine fX6_6_g_rows C dX6_lays_32 ?_
        refine v_iconst C dX6_lays_35 (v := (4 : Int32)) (by decide) ?_
        refine v_iload_n C 2 dX6_lays_36 rfl rfl ?_
        refine v_imul C dX6_lays_37 ?_
        refine v_iload_n C 1 dX6_lays_38 rfl rfl ?_
        refine v_iadd C dX6_lays_39 ?_
        refine v_iconst C dX6_lays_40 (v := (2 : Int32)) (by decide) ?_
        refine v_isub C dX6_lays_41 ?_
        refine v_iload_n C 3 dX6_lays_42 rfl rfl ?_
        obtain ⟨hi4, h⟩ := h
        refine v_iast (k := 5) C (by decide) (fun _ => rfl) hi4 dX6_lays_43 ?_
        obtain ⟨M5, eM5⟩ : ∃ z : S0, z = up M 5 (Int32.toNatClampNeg ((((4 : Int32) * p2) + p1) - (2 : Int32))) p3 := ⟨_, rfl⟩
        rw [← eM5]
        replace h := h M5 eM5
        refine v_goto C dX6_lays_44 (tgt := 67) (by decide) ?_
        exact hR _ _ _ h dX6_lays_67
    · replace h := h.2 c
      refine v_aload_n C 0 dX6_lays_17 rfl rfl ?_
      refine v_iload_n C 2 dX6_lays_18 rfl rfl ?_
      refine v_iload_n C 3 dX6_lays_19 rfl rfl ?_
      refine v_callVv (k := 0) (As := [.int p2, .int p3]) (rest := []) C (c6_moves  h) eX6_103 (by omega) (by omega) (by decide) rfl rfl rfl rfl (Nat.le_of_ble_eq_true rfl) dX6_lays_20 (fun M6 h => ?_)
      refine v_goto C dX6_lays_23 (tgt := 67) (by decide) ?_
      exact hR _ _ _ h dX6_lays_67
  · replace h := h.2 c
    refine v_aload_n C 0 dX6_lays_4 rfl rfl ?_
    refine v_iload_n C 3 dX6_lays_5 rfl rfl ?_
    refine fX6_6_p_roundNow C dX6_lays_6 (fun M7 eM7 => ?_)
    replace h := h M7 eM7
    refine v_goto C dX6_lays_9 (tgt := 67) (by decide) ?_
    exact hR _ _ _ h dX6_lays_67
def w6_set (M : S0) (p1 : Int32) (p2 : Int32) (p3 : Int32) (Q : Int32 → S0 → Prop) : Prop :=
    w6_in M (Int32.toInt64 p1) (0 : Int64) (3 : Int64) (fun r2 M1 => ((r2 = 0) → (Q (-1000 : Int32) M1)) ∧ ((¬ r2 = 0) → (w6_isOf M1 p1 p2 (fun r4 M3 => ((r4 = 0) → (Q (-1000 : Int32) M3)) ∧ ((¬ r4 = 0) → (w6_isValue M3 p1 p3 (fun r6 M5 => ((¬ r6 = 0) → (w6_told M5 p2 p1 (fun r8 M7 => w6_lays M7 p1 p2 p3 (fun M9 => Q r8 M9)))) ∧ ((r6 = 0) → (Q (-1000 : Int32) M5)))))))))
set_option maxHeartbeats 4000000 in
set_option maxRecDepth 20000 in
theorem c6_set {B : BX} {a : Nat → Nat} {M : S0} {p1 : Int32} {p2 : Int32} {p3 : Int32} {Q : Int32 → S0 → Prop} (h : w6_set  M p1 p2 p3 Q) : KI B (wl 12 a (shM B.2.1 a)) yX6_set cX6_set 5 (some .int) 4 90 [.ref (a 0), .int p1, .int p2, .int p3] M Q := by
  rw [w6_set] at h
  refine KI_of (by decide +kernel) (Nat.le_of_ble_eq_true rfl) (fun E C hR => ?_)
  change V B E 5 (wl 12 a (shM B.2.1 a) M) 0 [(0, .ref (a 0)), (1, .int p1), (2, .int p2), (3, .int p3)] []
  change Ok B E cX6_set 5 RX6 4 90 at C
  refine v_iload_n C 1 dX6_set_0 rfl rfl ?_
  refine v_i2l C dX6_set_1 ?_
  refine v_lconst C dX6_set_2 (v := (0 : Int64)) (by decide) ?_
  refine v_ldc2 C (v := (3 : Int64)) (gdm 917 (by decide +kernel) (by decide +kernel)) dX6_set_3 ?_
  refine v_callSi (As := [.long (Int32.toInt64 p1), .long (0 : Int64), .long (3 : Int64)]) (rest := []) C (c6_in  h) eX6_64 (by omega) (by omega) rfl rfl (Nat.le_of_ble_eq_true rfl) dX6_set_6 (fun r2 M1 h => ?_)
  refine v_if_eq C dX6_set_9 (tgt := 30) (by decide) (fun c => ?_) (fun c => ?_)
  · replace h := h.1 c
    refine v_sipush C dX6_set_30 (v := (-1000 : Int32)) (by decide) ?_
    exact hR _ _ _ _ h dX6_set_33
  · replace h := h.2 c
    refine v_aload_n C 0 dX6_set_12 rfl rfl ?_
    refine v_iload_n C 1 dX6_set_13 rfl rfl ?_
    refine v_iload_n C 2 dX6_set_14 rfl rfl ?_
    refine v_callVi (k := 0) (As := [.int p1, .int p2]) (rest := []) C (c6_isOf  h) eX6_85 (by omega) (by omega) (by decide) rfl rfl rfl rfl (Nat.le_of_ble_eq_true rfl) dX6_set_15 (fun r4 M3 h => ?_)
    refine v_if_eq C dX6_set_18 (tgt := 30) (by decide) (fun c => ?_) (fun c => ?_)
    · replace h := h.1 c
      refine v_sipush C dX6_set_30 (v := (-1000 : Int32)) (by decide) ?_
      exact hR _ _ _ _ h dX6_set_33
    · replace h := h.2 c
      refine v_aload_n C 0 dX6_set_21 rfl rfl ?_
      refine v_iload_n C 1 dX6_set_22 rfl rfl ?_
      refine v_iload_n C 3 dX6_set_23 rfl rfl ?_
      refine v_callVi (k := 0) (As := [.int p1, .int p3]) (rest := []) C (c6_isValue  h) eX6_89 (by omega) (by omega) (by decide) rfl rfl rfl rfl (Nat.le_of_ble_eq_true rfl) dX6_set_24 (fun r6 M5 h => ?_)
      refine v_if_ne C dX6_set_27 (tgt := 34) (by decide) (fun c => ?_) (fun c => ?_)
      · replace h := h.1 c
        refine v_aload_n C 0 dX6_set_34 rfl rfl ?_
        refine v_iload_n C 2 dX6_set_35 rfl rfl ?_
        refine v_iload_n C 1 dX6_set_36 rfl rfl ?_
        refine v_callVi (k := 0) (As := [.int p2, .int p1]) (rest := []) C (c6_told  h) eX6_92 (by omega) (by omega) (by decide) rfl rfl rfl rfl (Nat.le_of_ble_eq_true rfl) dX6_set_37 (fun r8 M7 h => ?_)
        refine v_istore (lv' := [(4, .int r8), (0, .ref (a 0)), (1, .int p1), (2, .int p2), (3, .int p3)]) C dX6_set_40 (by decide) rfl ?_
        refine v_aload_n C 1 dX6_set_42 rfl rfl ?_
        refine v_iload_n C 2 dX6_set_43 rfl rfl ?_
        refine v_iload_n C 3 dX6_set_44 rfl rfl ?_
        refine v_iload_n C 4 dX6_set_45 rfl rfl ?_
        refine v_callVv (k := 0) (As := [.int p1, .int p2, .int p3]) (rest := []) C (c6_lays  h) eX6_96 (by omega) (by omega) (by decide) rfl rfl rfl rfl (Nat.le_of_ble_eq_true rfl) dX6_set_46 (fun M9 h => ?_)
        refine v_iload C 0 dX6_set_49 rfl ?_
        exact hR _ _ _ _ h dX6_set_51
      · replace h := h.2 c
        refine v_sipush C dX6_set_30 (v := (-1000 : Int32)) (by decide) ?_
        exact hR _ _ _ _ h dX6_set_33
def w6_player (M : S0) (p1 : Int32) (p2 : Int32) (Q : Int32 → S0 → Prop) : Prop :=
    w6_in M (Int32.toInt64 p1) (0 : Int64) (5 : Int64) (fun r2 M1 => ((r2 = 0) → (Q (-2 : Int32) M1)) ∧ ((¬ r2 = 0) → (w6_in M1 (Int32.toInt64 p2) (0 : Int64) (9 : Int64) (fun r4 M3 => ((¬ r4 = 0) → (((¬ (M3 0 11) = (6 : Int32)) → ((vp_in (M3 0 11) 6) ∧ (∀ M6 : S0, M6 = up M3 4 (Int32.toNatClampNeg (M3 0 11)) p1 → ((vp_in ((4 : Int32) * (M6 0 11)) 24) ∧ (∀ M8 : S0, M8 = up M6 5 (Int32.toNatClampNeg ((4 : Int32) * (M6 0 11))) p2 → ((vp_in (((4 : Int32) * (M8 0 11)) + (1 : Int32)) 24) ∧ (∀ M10 : S0, M10 = up M8 5 (Int32.toNatClampNeg (((4 : Int32) * (M8 0 11)) + (1 : Int32))) (50 : Int32) → ((vp_in (((4 : Int32) * (M10 0 11)) + (2 : Int32)) 24) ∧ (∀ M12 : S0, M12 = up M10 5 (Int32.toNatClampNeg (((4 : Int32) * (M10 0 11)) + (2 : Int32))) (0 : Int32) → ((vp_in (((4 : Int32) * (M12 0 11)) + (3 : Int32)) 24) ∧ (∀ M14 : S0, M14 = up M12 5 (Int32.toNatClampNeg (((4 : Int32) * (M12 0 11)) + (3 : Int32))) (0 : Int32) → (∀ M15 : S0, M15 = up M14 0 11 ((M14 0 11) + (1 : Int32)) → (Q ((M15 0 11) - (1 : Int32)) M15))))))))))))) ∧ (((M3 0 11) = (6 : Int32)) → (Q (-4 : Int32) M3)))) ∧ ((r4 = 0) → (Q (-2 : Int32) M3))))))
set_option maxHeartbeats 4000000 in
set_option maxRecDepth 20000 in
theorem c6_player {B : BX} {a : Nat → Nat} {M : S0} {p1 : Int32} {p2 : Int32} {Q : Int32 → S0 → Prop} (h : w6_player  M p1 p2 Q) : KI B (wl 12 a (shM B.2.1 a)) yX6_player cX6_player 3 (some .int) 1 25 [.ref (a 0), .int p1, .int p2] M Q := by
  rw [w6_player] at h
  refine KI_of (by decide +kernel) (Nat.le_of_ble_eq_true rfl) (fun E C hR => ?_)
  change V B E 3 (wl 12 a (shM B.2.1 a) M) 0 [(0, .ref (a 0)), (1, .int p1), (2, .int p2)] []
  change Ok B E cX6_player 3 RX6 1 25 at C
  refine v_iload_n C 1 dX6_player_0 rfl rfl ?_
  refine v_i2l C dX6_player_1 ?_
  refine v_lconst C dX6_player_2 (v := (0 : Int64)) (by decide) ?_
  refine v_ldc2 C (v := (5 : Int64)) (gdm 971 (by decide +kernel) (by decide +kernel)) dX6_player_3 ?_
  refine v_callSi (As := [.long (Int32.toInt64 p1), .long (0 : Int64), .long (5 : Int64)]) (rest := []) C (c6_in  h) eX6_64 (by omega) (by omega) rfl rfl (Nat.le_of_ble_eq_true rfl) dX6_player_6 (fun r2 M1 h => ?_)
  refine v_if_eq C dX6_player_9 (tgt := 24) (by decide) (fun c => ?_) (fun c => ?_)
  · replace h := h.1 c
    refine v_bipush C dX6_player_24 (v := (-2 : Int32)) (by decide) ?_
    exact hR _ _ _ _ h dX6_player_26
  · replace h := h.2 c
    refine v_iload_n C 2 dX6_player_12 rfl rfl ?_
    refine v_i2l C dX6_player_13 ?_
    refine v_lconst C dX6_player_14 (v := (0 : Int64)) (by decide) ?_
    refine v_ldc2 C (v := (9 : Int64)) (gdm 938 (by decide +kernel) (by decide +kernel)) dX6_player_15 ?_
    refine v_callSi (As := [.long (Int32.toInt64 p2), .long (0 : Int64), .long (9 : Int64)]) (rest := []) C (c6_in  h) eX6_64 (by omega) (by omega) rfl rfl (Nat.le_of_ble_eq_true rfl) dX6_player_18 (fun r4 M3 h => ?_)
    refine v_if_ne C dX6_player_21 (tgt := 27) (by decide) (fun c => ?_) (fun c => ?_)
    · replace h := h.1 c
      refine v_aload_n C 0 dX6_player_27 rfl rfl ?_
      refine fX6_6_g_many C dX6_player_28 ?_
      refine v_bipush C dX6_player_31 (v := (6 : Int32)) (by decide) ?_
      refine v_icmp_ne C dX6_player_33 (tgt := 39) (by decide) (fun c => ?_) (fun c => ?_)
      · replace h := h.1 c
        refine v_aload_n C 0 dX6_player_39 rfl rfl ?_
        refine fX6_6_g_kinds C dX6_player_40 ?_
        refine v_aload_n C 0 dX6_player_43 rfl rfl ?_
        refine fX6_6_g_many C dX6_player_44 ?_
        refine v_iload_n C 1 dX6_player_47 rfl rfl ?_
        obtain ⟨hi5, h⟩ := h
        refine v_iast (k := 4) C (by decide) (fun _ => rfl) hi5 dX6_player_48 ?_
        obtain ⟨M6, eM6⟩ : ∃ z : S0, z = up M3 4 (Int32.toNatClampNeg (M3 0 11)) p1 := ⟨_, rfl⟩
        rw [← eM6]
        replace h := h M6 eM6
        refine v_aload_n C 0 dX6_player_49 rfl rfl ?_
        refine fX6_6_g_rows C dX6_player_50 ?_
        refine v_iconst C dX6_player_53 (v := (4 : Int32)) (by decide) ?_
        refine v_aload_n C 0 dX6_player_54 rfl rfl ?_
        refine fX6_6_g_many C dX6_player_55 ?_
        refine v_imul C dX6_player_58 ?_
        refine v_iload_n C 2 dX6_player_59 rfl rfl ?_
        obtain ⟨hi7, h⟩ := h
        refine v_iast (k := 5) C (by decide) (fun _ => rfl) hi7 dX6_player_60 ?_
        obtain ⟨M8, eM8⟩ : ∃ z : S0, z = up M6 5 (Int32.toNatClampNeg ((4 : Int32) * (M6 0 11))) p2 := ⟨_, rfl⟩
        rw [← eM8]
        replace h := h M8 eM8
        refine v_aload_n C 0 dX6_player_61 rfl rfl ?_
        refine fX6_6_g_rows C dX6_player_62 ?_
        refine v_iconst C dX6_player_65 (v := (4 : Int32)) (by decide) ?_
        refine v_aload_n C 0 dX6_player_66 rfl rfl ?_
        refine fX6_6_g_many C dX6_player_67 ?_
        refine v_imul C dX6_player_70 ?_
        refine v_iconst C dX6_player_71 (v := (1 : Int32)) (by decide) ?_
        refine v_iadd C dX6_player_72 ?_
        refine v_bipush C dX6_player_73 (v := (50 : Int32)) (by decide) ?_
        obtain ⟨hi9, h⟩ := h
        refine v_iast (k := 5) C (by decide) (fun _ => rfl) hi9 dX6_player_75 ?_
        obtain ⟨M10, eM10⟩ : ∃ z : S0, z = up M8 5 (Int32.toNatClampNeg (((4 : Int32) * (M8 0 11)) + (1 : Int32))) (50 : Int32) := ⟨_, rfl⟩
        rw [← eM10]
        replace h := h M10 eM10
        refine v_aload_n C 0 dX6_player_76 rfl rfl ?_
        refine fX6_6_g_rows C dX6_player_77 ?_
        refine v_iconst C dX6_player_80 (v := (4 : Int32)) (by decide) ?_
        refine v_aload_n C 0 dX6_player_81 rfl rfl ?_
        refine fX6_6_g_many C dX6_player_82 ?_
        refine v_imul C dX6_player_85 ?_
        refine v_iconst C dX6_player_86 (v := (2 : Int32)) (by decide) ?_
        refine v_iadd C dX6_player_87 ?_
        refine v_iconst C dX6_player_88 (v := (0 : Int32)) (by decide) ?_
        obtain ⟨hi11, h⟩ := h
        refine v_iast (k := 5) C (by decide) (fun _ => rfl) hi11 dX6_player_89 ?_
        obtain ⟨M12, eM12⟩ : ∃ z : S0, z = up M10 5 (Int32.toNatClampNeg (((4 : Int32) * (M10 0 11)) + (2 : Int32))) (0 : Int32) := ⟨_, rfl⟩
        rw [← eM12]
        replace h := h M12 eM12
        refine v_aload_n C 0 dX6_player_90 rfl rfl ?_
        refine fX6_6_g_rows C dX6_player_91 ?_
        refine v_iconst C dX6_player_94 (v := (4 : Int32)) (by decide) ?_
        refine v_aload_n C 0 dX6_player_95 rfl rfl ?_
        refine fX6_6_g_many C dX6_player_96 ?_
        refine v_imul C dX6_player_99 ?_
        refine v_iconst C dX6_player_100 (v := (3 : Int32)) (by decide) ?_
        refine v_iadd C dX6_player_101 ?_
        refine v_iconst C dX6_player_102 (v := (0 : Int32)) (by decide) ?_
        obtain ⟨hi13, h⟩ := h
        refine v_iast (k := 5) C (by decide) (fun _ => rfl) hi13 dX6_player_103 ?_
        obtain ⟨M14, eM14⟩ : ∃ z : S0, z = up M12 5 (Int32.toNatClampNeg (((4 : Int32) * (M12 0 11)) + (3 : Int32))) (0 : Int32) := ⟨_, rfl⟩
        rw [← eM14]
        replace h := h M14 eM14
        refine v_aload_n C 0 dX6_player_104 rfl rfl ?_
        refine v_dup C dX6_player_105 rfl ?_
        refine fX6_6_g_many C dX6_player_106 ?_
        refine v_iconst C dX6_player_109 (v := (1 : Int32)) (by decide) ?_
        refine v_iadd C dX6_player_110 ?_
        refine fX6_6_p_many C dX6_player_111 (fun M15 eM15 => ?_)
        replace h := h M15 eM15
        refine v_aload_n C 0 dX6_player_114 rfl rfl ?_
        refine fX6_6_g_many C dX6_player_115 ?_
        refine v_iconst C dX6_player_118 (v := (1 : Int32)) (by decide) ?_
        refine v_isub C dX6_player_119 ?_
        exact hR _ _ _ _ h dX6_player_120
      · replace h := h.2 c
        refine v_bipush C dX6_player_36 (v := (-4 : Int32)) (by decide) ?_
        exact hR _ _ _ _ h dX6_player_38
    · replace h := h.2 c
      refine v_bipush C dX6_player_24 (v := (-2 : Int32)) (by decide) ?_
      exact hR _ _ _ _ h dX6_player_26
