def w5_chance_b56 (g : GX) (Q : Int64 → S0 → Prop) : Nat → S0 → Int32 → Int32 → Int32 → Int32 → Int32 → Int32 → Int32 → Prop
  | 0, _, _, _, _, _, _, _, _ => False
  | n + 1, M, v1_56, v2_56, v3_56, v4_56, v5_56, v6_56, v7_56 =>
    ((v2_56 ≤ v7_56) → (w5_partOfLowest g M v5_56 v6_56 v2_56 (fun r11 M10 => Q (Int32.toInt64 r11) M10))) ∧ ((¬ v2_56 ≤ v7_56) → (w5_hasBehindDrawn g M (v1_56 + v7_56) v3_56 (6 : Int32) (fun r13 M12 => wb6_bitCount_0f7a4 g M12 r13 (fun r15 M14 => ((r15 < v4_56) → (∀ x16 : Int32, x16 = v7_56 + (1 : Int32) → (w5_chance_b56 g  Q n M14 v1_56 v2_56 v3_56 v4_56 v5_56 v6_56 x16))) ∧ ((¬ r15 < v4_56) → (∀ x17 : Int32, x17 = v6_56 + (1 : Int32) → (∀ x18 : Int32, x18 = v7_56 + (1 : Int32) → (w5_chance_b56 g  Q n M14 v1_56 v2_56 v3_56 v4_56 v5_56 x17 x18))))))))
set_option maxHeartbeats 4000000 in
set_option maxRecDepth 20000 in
theorem t5_chance_b56 {B : BX} {E : EX} {a : Nat → Nat} {g : GX} {Q : Int64 → S0 → Prop} (C : Ok B E cX5_chance 8 RX5 6 149) (hR : RetL B E cX5_chance 8 (wl (66 + 3 * g.2) a (shX B.2.1 a g.1)) Q) : ∀ (n : Nat) (M : S0) (v1_56 : Int32) (v2_56 : Int32) (v3_56 : Int32) (v4_56 : Int32) (v5_56 : Int32) (v6_56 : Int32) (v7_56 : Int32), w5_chance_b56 g  Q n M v1_56 v2_56 v3_56 v4_56 v5_56 v6_56 v7_56 → V B E 8 (wl (66 + 3 * g.2) a (shX B.2.1 a g.1) M) 56 [(0, .ref (a 0)), (1, .int v1_56), (2, .int v2_56), (3, .int v3_56), (4, .int v4_56), (5, .int v5_56), (6, .int v6_56), (7, .int v7_56)] [] := by
  intro n
  induction n with
  | zero =>
    intro M v1_56 v2_56 v3_56 v4_56 v5_56 v6_56 v7_56  h
    exact h.elim
  | succ n ih =>
    intro M v1_56 v2_56 v3_56 v4_56 v5_56 v6_56 v7_56  h
    rw [w5_chance_b56] at h
    refine v_iload C 7 dX5_chance_56 rfl ?_
    refine v_iload_n C 2 dX5_chance_58 rfl rfl ?_
    refine v_icmp_ge C dX5_chance_59 (tgt := 90) (by decide) (fun c => ?_) (fun c => ?_)
    · replace h := h.1 c
      refine v_iload C 5 dX5_chance_90 rfl ?_
      refine v_iload C 6 dX5_chance_92 rfl ?_
      refine v_iload_n C 2 dX5_chance_94 rfl rfl ?_
      refine v_callSi (As := [.int v5_56, .int v6_56, .int v2_56]) (rest := []) C (c5_partOfLowest  h) eX5_261 (by omega) (by omega) rfl rfl (Nat.le_of_ble_eq_true rfl) dX5_chance_95 (fun r11 M10 h => ?_)
      refine v_i2l C dX5_chance_98 ?_
      exact hR _ _ _ _ h dX5_chance_99
    · replace h := h.2 c
      refine v_aload_n C 0 dX5_chance_62 rfl rfl ?_
      refine v_iload_n C 1 dX5_chance_63 rfl rfl ?_
      refine v_iload C 7 dX5_chance_64 rfl ?_
      refine v_iadd C dX5_chance_66 ?_
      refine v_iload_n C 3 dX5_chance_67 rfl rfl ?_
      refine v_bipush C dX5_chance_68 (v := (6 : Int32)) (by decide) ?_
      refine v_callVi (k := 0) (As := [.int (v1_56 + v7_56), .int v3_56, .int (6 : Int32)]) (rest := []) C (c5_hasBehindDrawn  h) eX5_249 (by omega) (by omega) (by omega) rfl rfl rfl rfl (Nat.le_of_ble_eq_true rfl) dX5_chance_70 (fun r13 M12 h => ?_)
      refine v_callSi (As := [.int r13]) (rest := []) C (cb6_bitCount_0f7a4  h) eX5_256 (by omega) (by omega) rfl rfl (Nat.le_of_ble_eq_true rfl) dX5_chance_73 (fun r15 M14 h => ?_)
      refine v_iload C 4 dX5_chance_76 rfl ?_
      refine v_icmp_lt C dX5_chance_78 (tgt := 84) (by decide) (fun c => ?_) (fun c => ?_)
      · replace h := h.1 c
        obtain ⟨x16, ex16⟩ : ∃ z : Int32, z = v7_56 + (1 : Int32) := ⟨_, rfl⟩
        replace h := h x16 ex16
        refine v_iinc (v := x16) (lv' := [(7, .int x16), (0, .ref (a 0)), (1, .int v1_56), (2, .int v2_56), (3, .int v3_56), (4, .int v4_56), (5, .int v5_56), (6, .int v6_56)]) C 7 dX5_chance_84 rfl (by rw [ex16]; rfl) (by decide) rfl ?_
        refine v_goto C dX5_chance_87 (tgt := 56) (by decide) ?_
        refine v_sub [1, 2, 3, 4, 5, 6, 7, 0] rfl ?_
        exact ih M14 v1_56 v2_56 v3_56 v4_56 v5_56 v6_56 x16  h
      · replace h := h.2 c
        obtain ⟨x17, ex17⟩ : ∃ z : Int32, z = v6_56 + (1 : Int32) := ⟨_, rfl⟩
        replace h := h x17 ex17
        refine v_iinc (v := x17) (lv' := [(6, .int x17), (0, .ref (a 0)), (1, .int v1_56), (2, .int v2_56), (3, .int v3_56), (4, .int v4_56), (5, .int v5_56), (7, .int v7_56)]) C 6 dX5_chance_81 rfl (by rw [ex17]; rfl) (by decide) rfl ?_
        obtain ⟨x18, ex18⟩ : ∃ z : Int32, z = v7_56 + (1 : Int32) := ⟨_, rfl⟩
        replace h := h x18 ex18
        refine v_iinc (v := x18) (lv' := [(7, .int x18), (6, .int x17), (0, .ref (a 0)), (1, .int v1_56), (2, .int v2_56), (3, .int v3_56), (4, .int v4_56), (5, .int v5_56)]) C 7 dX5_chance_84 rfl (by rw [ex18]; rfl) (by decide) rfl ?_
        refine v_goto C dX5_chance_87 (tgt := 56) (by decide) ?_
        refine v_sub [2, 3, 4, 5, 6, 7, 1, 0] rfl ?_
        exact ih M14 v1_56 v2_56 v3_56 v4_56 v5_56 x17 x18  h
def w5_chance (g : GX) (M : S0) (p1 : Int32) (p2 : Int32) (p3 : Int32) (p4 : Int32) (p5 : Int32) (Q : Int64 → S0 → Prop) : Prop :=
    w5_isWithin g M p2 (1 : Int32) (20 : Int32) (fun r2 M1 => ((r2 = 0) → (Q (-4611686018427387904 : Int64) M1)) ∧ ((¬ r2 = 0) → (w0_isPlayer g 10 M1 p3 (fun r4 M3 => ((¬ r4 = 0) → (w5_isWithin g M3 p4 (0 : Int32) (8 : Int32) (fun r6 M5 => ((r6 = 0) → (Q (-4611686018427387904 : Int64) M5)) ∧ ((¬ r6 = 0) → (w5_isWithin g M5 p5 (0 : Int32) (1 : Int32) (fun r8 M7 => ((¬ r8 = 0) → (∃ n9, w5_chance_b56 g  Q n9 M7 p1 p2 p3 p4 p5 (0 : Int32) (0 : Int32))) ∧ ((r8 = 0) → (Q (-4611686018427387904 : Int64) M7)))))))) ∧ ((r4 = 0) → (Q (-4611686018427387904 : Int64) M3))))))
set_option maxHeartbeats 4000000 in
set_option maxRecDepth 20000 in
theorem c5_chance {B : BX} {a : Nat → Nat} {g : GX} {M : S0} {p1 : Int32} {p2 : Int32} {p3 : Int32} {p4 : Int32} {p5 : Int32} {Q : Int64 → S0 → Prop} (h : w5_chance g M p1 p2 p3 p4 p5 Q) : KL B (wl (66 + 3 * g.2) a (shX B.2.1 a g.1)) yX5_chance cX5_chance 8 (some .long) 6 149 [.ref (a 0), .int p1, .int p2, .int p3, .int p4, .int p5] M Q := by
  rw [w5_chance] at h
  refine KL_of (by decide +kernel) (Nat.le_of_ble_eq_true rfl) (fun E C hR => ?_)
  change V B E 8 (wl (66 + 3 * g.2) a (shX B.2.1 a g.1) M) 0 [(0, .ref (a 0)), (1, .int p1), (2, .int p2), (3, .int p3), (4, .int p4), (5, .int p5)] []
  change Ok B E cX5_chance 8 RX5 6 149 at C
  refine v_iload_n C 2 dX5_chance_0 rfl rfl ?_
  refine v_iconst C dX5_chance_1 (v := (1 : Int32)) (by decide) ?_
  refine v_bipush C dX5_chance_2 (v := (20 : Int32)) (by decide) ?_
  refine v_callSi (As := [.int p2, .int (1 : Int32), .int (20 : Int32)]) (rest := []) C (c5_isWithin  h) eX5_82 (by omega) (by omega) rfl rfl (Nat.le_of_ble_eq_true rfl) dX5_chance_4 (fun r2 M1 h => ?_)
  refine v_if_eq C dX5_chance_7 (tgt := 21) (by decide) (fun c => ?_) (fun c => ?_)
  · replace h := h.1 c
    refine v_ldc2 C (v := (-4611686018427387904 : Int64)) (gdm 729 (by decide +kernel) (by decide +kernel)) dX5_chance_21 ?_
    exact hR _ _ _ _ h dX5_chance_24
  · replace h := h.2 c
    refine v_aload_n C 0 dX5_chance_10 rfl rfl ?_
    refine fX5_5_g_now C dX5_chance_11 ?_
    refine v_iload_n C 3 dX5_chance_14 rfl rfl ?_
    refine v_callVi (k := 10) (As := [.int p3]) (rest := []) C (c0_isPlayer cl_10 h) eX5_90 (by omega) (by omega) (xlt_c (j := 0) cl_10 (by decide)) (sh_c0 cl_10 _) rfl rfl rfl (Nat.le_of_ble_eq_true rfl) dX5_chance_15 (fun r4 M3 h => ?_)
    refine v_if_ne C dX5_chance_18 (tgt := 25) (by decide) (fun c => ?_) (fun c => ?_)
    · replace h := h.1 c
      refine v_iload C 4 dX5_chance_25 rfl ?_
      refine v_iconst C dX5_chance_27 (v := (0 : Int32)) (by decide) ?_
      refine v_bipush C dX5_chance_28 (v := (8 : Int32)) (by decide) ?_
      refine v_callSi (As := [.int p4, .int (0 : Int32), .int (8 : Int32)]) (rest := []) C (c5_isWithin  h) eX5_82 (by omega) (by omega) rfl rfl (Nat.le_of_ble_eq_true rfl) dX5_chance_30 (fun r6 M5 h => ?_)
      refine v_if_eq C dX5_chance_33 (tgt := 46) (by decide) (fun c => ?_) (fun c => ?_)
      · replace h := h.1 c
        refine v_ldc2 C (v := (-4611686018427387904 : Int64)) (gdm 729 (by decide +kernel) (by decide +kernel)) dX5_chance_46 ?_
        exact hR _ _ _ _ h dX5_chance_49
      · replace h := h.2 c
        refine v_iload C 5 dX5_chance_36 rfl ?_
        refine v_iconst C dX5_chance_38 (v := (0 : Int32)) (by decide) ?_
        refine v_iconst C dX5_chance_39 (v := (1 : Int32)) (by decide) ?_
        refine v_callSi (As := [.int p5, .int (0 : Int32), .int (1 : Int32)]) (rest := []) C (c5_isWithin  h) eX5_82 (by omega) (by omega) rfl rfl (Nat.le_of_ble_eq_true rfl) dX5_chance_40 (fun r8 M7 h => ?_)
        refine v_if_ne C dX5_chance_43 (tgt := 50) (by decide) (fun c => ?_) (fun c => ?_)
        · replace h := h.1 c
          refine v_iconst C dX5_chance_50 (v := (0 : Int32)) (by decide) ?_
          refine v_istore (lv' := [(6, .int (0 : Int32)), (0, .ref (a 0)), (1, .int p1), (2, .int p2), (3, .int p3), (4, .int p4), (5, .int p5)]) C dX5_chance_51 (by decide) rfl ?_
          refine v_iconst C dX5_chance_53 (v := (0 : Int32)) (by decide) ?_
          refine v_istore (lv' := [(7, .int (0 : Int32)), (6, .int (0 : Int32)), (0, .ref (a 0)), (1, .int p1), (2, .int p2), (3, .int p3), (4, .int p4), (5, .int p5)]) C dX5_chance_54 (by decide) rfl ?_
          obtain ⟨n9, h⟩ := h
          refine v_sub [2, 3, 4, 5, 6, 7, 1, 0] rfl ?_
          exact t5_chance_b56   C hR  n9 M7 p1 p2 p3 p4 p5 (0 : Int32) (0 : Int32)  h
        · replace h := h.2 c
          refine v_ldc2 C (v := (-4611686018427387904 : Int64)) (gdm 729 (by decide +kernel) (by decide +kernel)) dX5_chance_46 ?_
          exact hR _ _ _ _ h dX5_chance_49
    · replace h := h.2 c
      refine v_ldc2 C (v := (-4611686018427387904 : Int64)) (gdm 729 (by decide +kernel) (by decide +kernel)) dX5_chance_21 ?_
      exact hR _ _ _ _ h dX5_chance_24
def w5_image (g : GX) (M : S0) (Q : Int32 → S0 → Prop) : Prop :=
    w0_takes g 16 10 M (fun M1 => ∀ M2 : S0, M2 = up M1 0 4 (1 : Int32) → (Q (M2 10 7) M2))
set_option maxHeartbeats 4000000 in
set_option maxRecDepth 20000 in
theorem c5_image {B : BX} {a : Nat → Nat} {g : GX} {M : S0} {Q : Int32 → S0 → Prop} (h : w5_image g M  Q) : KI B (wl (66 + 3 * g.2) a (shX B.2.1 a g.1)) yX5_image cX5_image 1 (some .int) 1 22 [.ref (a 0)] M Q := by
  rw [w5_image] at h
  refine KI_of (by decide +kernel) (Nat.le_of_ble_eq_true rfl) (fun E C hR => ?_)
  change V B E 1 (wl (66 + 3 * g.2) a (shX B.2.1 a g.1) M) 0 [(0, .ref (a 0))] []
  change Ok B E cX5_image 1 RX5 1 22 at C
  refine v_aload_n C 0 dX5_image_0 rfl rfl ?_
  refine fX5_5_g_kept C dX5_image_1 ?_
  refine v_aload_n C 0 dX5_image_4 rfl rfl ?_
  refine fX5_5_g_now C dX5_image_5 ?_
  refine v_callVv (k := 16) (As := [.ref (a 10)]) (rest := []) C (c0_takes cl_16 cl_10 h) eX5_264 (by omega) (by omega) (xlt_c (j := 0) cl_16 (by decide)) (sh_c0 cl_16 _) rfl rfl rfl (Nat.le_of_ble_eq_true rfl) dX5_image_8 (fun M1 h => ?_)
  refine v_aload_n C 0 dX5_image_11 rfl rfl ?_
  refine v_iconst C dX5_image_12 (v := (1 : Int32)) (by decide) ?_
  refine fX5_5_p_isKept C rfl rfl dX5_image_13 (fun M2 eM2 => ?_)
  replace h := h M2 eM2
  refine v_aload_n C 0 dX5_image_16 rfl rfl ?_
  refine fX5_5_g_now C dX5_image_17 ?_
  refine fX5_0_g_many C cl_10 dX5_image_20 ?_
  exact hR _ _ _ _ h dX5_image_23
def w5_back (g : GX) (M : S0) (Q : Int32 → S0 → Prop) : Prop :=
    ((¬ (M 0 4) = 0) → (w0_takes g 10 16 M (fun M1 => Q (M1 10 7) M1))) ∧ (((M 0 4) = 0) → (Q (-3 : Int32) M))
set_option maxHeartbeats 4000000 in
set_option maxRecDepth 20000 in
theorem c5_back {B : BX} {a : Nat → Nat} {g : GX} {M : S0} {Q : Int32 → S0 → Prop} (h : w5_back g M  Q) : KI B (wl (66 + 3 * g.2) a (shX B.2.1 a g.1)) yX5_back cX5_back 1 (some .int) 1 22 [.ref (a 0)] M Q := by
  rw [w5_back] at h
  refine KI_of (by decide +kernel) (Nat.le_of_ble_eq_true rfl) (fun E C hR => ?_)
  change V B E 1 (wl (66 + 3 * g.2) a (shX B.2.1 a g.1) M) 0 [(0, .ref (a 0))] []
  change Ok B E cX5_back 1 RX5 1 22 at C
  refine v_aload_n C 0 dX5_back_0 rfl rfl ?_
  refine fX5_5_g_isKept C dX5_back_1 ?_
  refine v_if_ne C dX5_back_4 (tgt := 10) (by decide) (fun c => ?_) (fun c => ?_)
  · replace h := h.1 c
    refine v_aload_n C 0 dX5_back_10 rfl rfl ?_
    refine fX5_5_g_now C dX5_back_11 ?_
    refine v_aload_n C 0 dX5_back_14 rfl rfl ?_
    refine fX5_5_g_kept C dX5_back_15 ?_
    refine v_callVv (k := 10) (As := [.ref (a 16)]) (rest := []) C (c0_takes cl_10 cl_16 h) eX5_264 (by omega) (by omega) (xlt_c (j := 0) cl_10 (by decide)) (sh_c0 cl_10 _) rfl rfl rfl (Nat.le_of_ble_eq_true rfl) dX5_back_18 (fun M1 h => ?_)
    refine v_aload_n C 0 dX5_back_21 rfl rfl ?_
    refine fX5_5_g_now C dX5_back_22 ?_
    refine fX5_0_g_many C cl_10 dX5_back_25 ?_
    exact hR _ _ _ _ h dX5_back_28
  · replace h := h.2 c
    refine v_bipush C dX5_back_7 (v := (-3 : Int32)) (by decide) ?_
    exact hR _ _ _ _ h dX5_back_9
def w5_count (g : GX) (M : S0) (p1 : Int32) (Q : Int32 → S0 → Prop) : Prop :=
    ((p1.toInt = 0) → (Q (M 10 7) M)) ∧ ((p1.toInt = 1) → (w0_manyInHall g 10 M (fun r2 M1 => Q r2 M1))) ∧ ((p1.toInt = 2) → (Q (M 10 8) M)) ∧ ((p1.toInt = 3) → (Q (M 1 3) M)) ∧ ((p1.toInt = 4) → (Q (M 5 1) M)) ∧ ((p1.toInt = 5) → (Q (M 10 9) M)) ∧ ((p1.toInt < 0 ∨ 5 < p1.toInt) → (Q (-2 : Int32) M))
set_option maxHeartbeats 4000000 in
set_option maxRecDepth 20000 in
theorem c5_count {B : BX} {a : Nat → Nat} {g : GX} {M : S0} {p1 : Int32} {Q : Int32 → S0 → Prop} (h : w5_count g M p1 Q) : KI B (wl (66 + 3 * g.2) a (shX B.2.1 a g.1)) yX5_count cX5_count 2 (some .int) 2 40 [.ref (a 0), .int p1] M Q := by
  rw [w5_count] at h
  refine KI_of (by decide +kernel) (Nat.le_of_ble_eq_true rfl) (fun E C hR => ?_)
  change V B E 2 (wl (66 + 3 * g.2) a (shX B.2.1 a g.1) M) 0 [(0, .ref (a 0)), (1, .int p1)] []
  change Ok B E cX5_count 2 RX5 2 40 at C
  refine v_iload_n C 1 dX5_count_0 rfl rfl ?_
  refine v_sw C dX5_count_1 [40, 48, 56, 64, 72, 80] (by decide) (by decide) (tgt := 88) (by decide) (fun j t ht hx => ?_) (fun c => ?_)
  · match j, ht, hx with
    | 0, ht, hx =>
      obtain rfl : 40 = t := Option.some.inj ht
      replace h := h.1 (by omega)
      refine v_aload_n C 0 dX5_count_40 rfl rfl ?_
      refine fX5_5_g_now C dX5_count_41 ?_
      refine fX5_0_g_many C cl_10 dX5_count_44 ?_
      exact hR _ _ _ _ h dX5_count_47
    | 1, ht, hx =>
      obtain rfl : 48 = t := Option.some.inj ht
      replace h := h.2.1 (by omega)
      refine v_aload_n C 0 dX5_count_48 rfl rfl ?_
      refine fX5_5_g_now C dX5_count_49 ?_
      refine v_callVi (k := 10) (As := []) (rest := []) C (c0_manyInHall cl_10 h) eX5_171 (by omega) (by omega) (xlt_c (j := 0) cl_10 (by decide)) (sh_c0 cl_10 _) rfl rfl rfl (Nat.le_of_ble_eq_true rfl) dX5_count_52 (fun r2 M1 h => ?_)
      exact hR _ _ _ _ h dX5_count_55
    | 2, ht, hx =>
      obtain rfl : 56 = t := Option.some.inj ht
      replace h := h.2.2.1 (by omega)
      refine v_aload_n C 0 dX5_count_56 rfl rfl ?_
      refine fX5_5_g_now C dX5_count_57 ?_
      refine fX5_0_g_round C cl_10 dX5_count_60 ?_
      exact hR _ _ _ _ h dX5_count_63
    | 3, ht, hx =>
      obtain rfl : 64 = t := Option.some.inj ht
      replace h := h.2.2.2.1 (by omega)
      refine v_aload_n C 0 dX5_count_64 rfl rfl ?_
      refine fX5_5_g_texts C dX5_count_65 ?_
      refine fX5_4_g_many C dX5_count_68 ?_
      exact hR _ _ _ _ h dX5_count_71
    | 4, ht, hx =>
      obtain rfl : 72 = t := Option.some.inj ht
      replace h := h.2.2.2.2.1 (by omega)
      refine v_aload_n C 0 dX5_count_72 rfl rfl ?_
      refine fX5_5_g_reader C dX5_count_73 ?_
      refine fX5_1_g_size C dX5_count_76 ?_
      exact hR _ _ _ _ h dX5_count_79
    | 5, ht, hx =>
      obtain rfl : 80 = t := Option.some.inj ht
      replace h := h.2.2.2.2.2.1 (by omega)
      refine v_aload_n C 0 dX5_count_80 rfl rfl ?_
      refine fX5_5_g_now C dX5_count_81 ?_
      refine fX5_0_g_rule C cl_10 dX5_count_84 ?_
      exact hR _ _ _ _ h dX5_count_87
    | j + 6, ht, hx => simp at ht
  · replace h := h.2.2.2.2.2.2 c
    refine v_bipush C dX5_count_88 (v := (-2 : Int32)) (by decide) ?_
    exact hR _ _ _ _ h dX5_count_90
def w5_sheet (g : GX) (M : S0) (p1 : Int32) (p2 : Int32) (p3 : Int32) (Q : Int32 → S0 → Prop) : Prop :=
    w5_sheetAt g M p1 (fun r2 M1 => ((r2 = none) → (Q (-2 : Int32) M1)) ∧ (∀ k3 : Nat, r2 = some k3 → (w5_isWithin g M1 p2 (-1 : Int32) (2 : Int32) (fun r5 M4 => ((¬ r5 = 0) → (((¬ p2 = (-1 : Int32)) → (((p3 ≤ (40 : Int32)) → (((0 ≤ p3) → ((isSheet k3) ∧ (w2_becomes g k3 M4 p2 p3 (fun M7 => Q (1 : Int32) M7)))) ∧ ((¬ 0 ≤ p3) → (Q (-14 : Int32) M4)))) ∧ ((¬ p3 ≤ (40 : Int32)) → (Q (-2 : Int32) M4)))) ∧ ((p2 = (-1 : Int32)) → ((isSheet k3) ∧ (w2_becomes g k3 M4 (-1 : Int32) (0 : Int32) (fun M9 => Q (1 : Int32) M9)))))) ∧ ((r5 = 0) → (Q (-2 : Int32) M4))))))
set_option maxHeartbeats 4000000 in
set_option maxRecDepth 20000 in
theorem c5_sheet {B : BX} {a : Nat → Nat} {g : GX} {M : S0} {p1 : Int32} {p2 : Int32} {p3 : Int32} {Q : Int32 → S0 → Prop} (h : w5_sheet g M p1 p2 p3 Q) : KI B (wl (66 + 3 * g.2) a (shX B.2.1 a g.1)) yX5_sheet cX5_sheet 5 (some .int) 2 45 [.ref (a 0), .int p1, .int p2, .int p3] M Q := by
  rw [w5_sheet] at h
  refine KI_of (by decide +kernel) (Nat.le_of_ble_eq_true rfl) (fun E C hR => ?_)
  change V B E 5 (wl (66 + 3 * g.2) a (shX B.2.1 a g.1) M) 0 [(0, .ref (a 0)), (1, .int p1), (2, .int p2), (3, .int p3)] []
  change Ok B E cX5_sheet 5 RX5 2 45 at C
  refine v_aload_n C 0 dX5_sheet_0 rfl rfl ?_
  refine v_iload_n C 1 dX5_sheet_1 rfl rfl ?_
  refine v_callVa (k := 0) (As := [.int p1]) (rest := []) C (c5_sheetAt  h) eX5_155 (by omega) (by omega) (by omega) rfl rfl rfl rfl (Nat.le_of_ble_eq_true rfl) dX5_sheet_2 (fun r2 M1 h => ?_)
  rcases r2 with _ | k3
  · replace h := h.1 rfl
    change V _ _ _ _ _ _ (.null :: _)
    refine v_astoreN (lv' := [(4, .null), (0, .ref (a 0)), (1, .int p1), (2, .int p2), (3, .int p3)]) C dX5_sheet_5 (by decide) rfl ?_
    refine v_aloadN C 0 dX5_sheet_7 rfl ?_
    refine v_ifnullN C dX5_sheet_9 (tgt := 21) (by decide) ?_
    refine v_bipush C dX5_sheet_21 (v := (-2 : Int32)) (by decide) ?_
    exact hR _ _ _ _ h dX5_sheet_23
  · replace h := h.2 k3 rfl
    change V _ _ _ _ _ _ (.ref (a k3) :: _)
    refine v_astore (lv' := [(4, .ref (a k3)), (0, .ref (a 0)), (1, .int p1), (2, .int p2), (3, .int p3)]) C dX5_sheet_5 (by decide) rfl ?_
    refine v_aload C 0 dX5_sheet_7 rfl ?_
    refine v_ifnull C dX5_sheet_9 ?_
    refine v_iload_n C 3 dX5_sheet_12 rfl rfl ?_
    refine v_iconst C dX5_sheet_13 (v := (-1 : Int32)) (by decide) ?_
    refine v_iconst C dX5_sheet_14 (v := (2 : Int32)) (by decide) ?_
    refine v_callSi (As := [.int p2, .int (-1 : Int32), .int (2 : Int32)]) (rest := []) C (c5_isWithin  h) eX5_82 (by omega) (by omega) rfl rfl (Nat.le_of_ble_eq_true rfl) dX5_sheet_15 (fun r5 M4 h => ?_)
    refine v_if_ne C dX5_sheet_18 (tgt := 24) (by decide) (fun c => ?_) (fun c => ?_)
    · replace h := h.1 c
      refine v_iload_n C 3 dX5_sheet_24 rfl rfl ?_
      refine v_iconst C dX5_sheet_25 (v := (-1 : Int32)) (by decide) ?_
      refine v_icmp_ne C dX5_sheet_26 (tgt := 38) (by decide) (fun c => ?_) (fun c => ?_)
      · replace h := h.1 c
        refine v_iload_n C 4 dX5_sheet_38 rfl rfl ?_
        refine v_bipush C dX5_sheet_39 (v := (40 : Int32)) (by decide) ?_
        refine v_icmp_le C dX5_sheet_41 (tgt := 47) (by decide) (fun c => ?_) (fun c => ?_)
        · replace h := h.1 c
          refine v_iload_n C 4 dX5_sheet_47 rfl rfl ?_
          refine v_if_ge C dX5_sheet_48 (tgt := 54) (by decide) (fun c => ?_) (fun c => ?_)
          · replace h := h.1 c
            refine v_aload C 0 dX5_sheet_54 rfl ?_
            refine v_iload_n C 3 dX5_sheet_56 rfl rfl ?_
            refine v_iload_n C 4 dX5_sheet_57 rfl rfl ?_
            obtain ⟨hf6, h⟩ := h
            refine v_callVv (k := k3) (As := [.int p2, .int p3]) (rest := []) C (c2_becomes hf6 h) eX5_243 (by omega) (by omega) (xlt_s (j := 0) hf6 (by decide)) (sh_s0 hf6 _) rfl rfl rfl (Nat.le_of_ble_eq_true rfl) dX5_sheet_58 (fun M7 h => ?_)
            refine v_iconst C dX5_sheet_61 (v := (1 : Int32)) (by decide) ?_
            exact hR _ _ _ _ h dX5_sheet_62
          · replace h := h.2 c
            refine v_bipush C dX5_sheet_51 (v := (-14 : Int32)) (by decide) ?_
            exact hR _ _ _ _ h dX5_sheet_53
        · replace h := h.2 c
          refine v_bipush C dX5_sheet_44 (v := (-2 : Int32)) (by decide) ?_
          exact hR _ _ _ _ h dX5_sheet_46
      · replace h := h.2 c
        refine v_aload C 0 dX5_sheet_29 rfl ?_
        refine v_iconst C dX5_sheet_31 (v := (-1 : Int32)) (by decide) ?_
        refine v_iconst C dX5_sheet_32 (v := (0 : Int32)) (by decide) ?_
        obtain ⟨hf8, h⟩ := h
        refine v_callVv (k := k3) (As := [.int (-1 : Int32), .int (0 : Int32)]) (rest := []) C (c2_becomes hf8 h) eX5_243 (by omega) (by omega) (xlt_s (j := 0) hf8 (by decide)) (sh_s0 hf8 _) rfl rfl rfl (Nat.le_of_ble_eq_true rfl) dX5_sheet_33 (fun M9 h => ?_)
        refine v_iconst C dX5_sheet_36 (v := (1 : Int32)) (by decide) ?_
        exact hR _ _ _ _ h dX5_sheet_37
    · replace h := h.2 c
      refine v_bipush C dX5_sheet_21 (v := (-2 : Int32)) (by decide) ?_
      exact hR _ _ _ _ h dX5_sheet_23
def w5_cell (g : GX) (M : S0) (p1 : Int32) (p2 : Int32) (p3 : Int32) (Q : Int32 → S0 → Prop) : Prop :=
    w5_sheetAt g M p1 (fun r2 M1 => ((r2 = none) → (Q (-2 : Int32) M1)) ∧ (∀ k3 : Nat, r2 = some k3 → ((isSheet k3) ∧ (w2_isMissing g k3 M1 (fun r6 M5 => ((r6 = 0) → (w2_holds g k3 M5 p2 (1 : Int32) (fun r8 M7 => ((¬ r8 = 0) → (w2_put g k3 M7 p2 p3 (fun M9 => Q (1 : Int32) M9))) ∧ ((r8 = 0) → (Q (-12 : Int32) M7))))) ∧ ((¬ r6 = 0) → (Q (-11 : Int32) M5)))))))
set_option maxHeartbeats 4000000 in
set_option maxRecDepth 20000 in
theorem c5_cell {B : BX} {a : Nat → Nat} {g : GX} {M : S0} {p1 : Int32} {p2 : Int32} {p3 : Int32} {Q : Int32 → S0 → Prop} (h : w5_cell g M p1 p2 p3 Q) : KI B (wl (66 + 3 * g.2) a (shX B.2.1 a g.1)) yX5_cell cX5_cell 5 (some .int) 1 22 [.ref (a 0), .int p1, .int p2, .int p3] M Q := by
  rw [w5_cell] at h
  refine KI_of (by decide +kernel) (Nat.le_of_ble_eq_true rfl) (fun E C hR => ?_)
  change V B E 5 (wl (66 + 3 * g.2) a (shX B.2.1 a g.1) M) 0 [(0, .ref (a 0)), (1, .int p1), (2, .int p2), (3, .int p3)] []
  change Ok B E cX5_cell 5 RX5 1 22 at C
  refine v_aload_n C 0 dX5_cell_0 rfl rfl ?_
  refine v_iload_n C 1 dX5_cell_1 rfl rfl ?_
  refine v_callVa (k := 0) (As := [.int p1]) (rest := []) C (c5_sheetAt  h) eX5_155 (by omega) (by omega) (by omega) rfl rfl rfl rfl (Nat.le_of_ble_eq_true rfl) dX5_cell_2 (fun r2 M1 h => ?_)
  rcases r2 with _ | k3
  · replace h := h.1 rfl
    change V _ _ _ _ _ _ (.null :: _)
    refine v_astoreN (lv' := [(4, .null), (0, .ref (a 0)), (1, .int p1), (2, .int p2), (3, .int p3)]) C dX5_cell_5 (by decide) rfl ?_
    refine v_aloadN C 0 dX5_cell_7 rfl ?_
    refine v_ifnonnullN C dX5_cell_9 ?_
    refine v_bipush C dX5_cell_12 (v := (-2 : Int32)) (by decide) ?_
    exact hR _ _ _ _ h dX5_cell_14
  · replace h := h.2 k3 rfl
    change V _ _ _ _ _ _ (.ref (a k3) :: _)
    refine v_astore (lv' := [(4, .ref (a k3)), (0, .ref (a 0)), (1, .int p1), (2, .int p2), (3, .int p3)]) C dX5_cell_5 (by decide) rfl ?_
    refine v_aload C 0 dX5_cell_7 rfl ?_
    refine v_ifnonnull C dX5_cell_9 (tgt := 15) (by decide) ?_
    refine v_aload C 0 dX5_cell_15 rfl ?_
    obtain ⟨hf4, h⟩ := h
    refine v_callVi (k := k3) (As := []) (rest := []) C (c2_isMissing hf4 h) eX5_159 (by omega) (by omega) (xlt_s (j := 0) hf4 (by decide)) (sh_s0 hf4 _) rfl rfl rfl (Nat.le_of_ble_eq_true rfl) dX5_cell_17 (fun r6 M5 h => ?_)
    refine v_if_eq C dX5_cell_20 (tgt := 26) (by decide) (fun c => ?_) (fun c => ?_)
    · replace h := h.1 c
      refine v_aload C 0 dX5_cell_26 rfl ?_
      refine v_iload_n C 3 dX5_cell_28 rfl rfl ?_
      refine v_iconst C dX5_cell_29 (v := (1 : Int32)) (by decide) ?_
      refine v_callVi (k := k3) (As := [.int p2, .int (1 : Int32)]) (rest := []) C (c2_holds hf4 h) eX5_272 (by omega) (by omega) (xlt_s (j := 0) hf4 (by decide)) (sh_s0 hf4 _) rfl rfl rfl (Nat.le_of_ble_eq_true rfl) dX5_cell_30 (fun r8 M7 h => ?_)
      refine v_if_ne C dX5_cell_33 (tgt := 39) (by decide) (fun c => ?_) (fun c => ?_)
      · replace h := h.1 c
        refine v_aload C 0 dX5_cell_39 rfl ?_
        refine v_iload_n C 3 dX5_cell_41 rfl rfl ?_
        refine v_iload_n C 4 dX5_cell_42 rfl rfl ?_
        refine v_callVv (k := k3) (As := [.int p2, .int p3]) (rest := []) C (c2_put hf4 h) eX5_246 (by omega) (by omega) (xlt_s (j := 0) hf4 (by decide)) (sh_s0 hf4 _) rfl rfl rfl (Nat.le_of_ble_eq_true rfl) dX5_cell_43 (fun M9 h => ?_)
        refine v_iconst C dX5_cell_46 (v := (1 : Int32)) (by decide) ?_
        exact hR _ _ _ _ h dX5_cell_47
      · replace h := h.2 c
        refine v_bipush C dX5_cell_36 (v := (-12 : Int32)) (by decide) ?_
        exact hR _ _ _ _ h dX5_cell_38
    · replace h := h.2 c
      refine v_bipush C dX5_cell_23 (v := (-11 : Int32)) (by decide) ?_
      exact hR _ _ _ _ h dX5_cell_25
def w5_copy (g : GX) (M : S0) (p1 : Int32) (p2 : Int32) (p3 : Int32) (p4 : Int32) (p5 : Int32) (Q : Int32 → S0 → Prop) : Prop :=
    w5_sheetAt g M p1 (fun r2 M1 => ((r2 = none) → (w5_sheetAt g M1 p3 (fun r5 M4 => ((r5 = none) → (Q (-2 : Int32) M4)) ∧ (∀ k6 : Nat, r5 = some k6 → (Q (-2 : Int32) M4))))) ∧ (∀ k3 : Nat, r2 = some k3 → (w5_sheetAt g M1 p3 (fun r8 M7 => ((r8 = none) → (Q (-2 : Int32) M7)) ∧ (∀ k9 : Nat, r8 = some k9 → ((isSheet k3) ∧ (w2_isMissing g k3 M7 (fun r12 M11 => ((¬ r12 = 0) → (Q (-11 : Int32) M11)) ∧ ((r12 = 0) → ((isSheet k9) ∧ (w2_isMissing g k9 M11 (fun r15 M14 => ((r15 = 0) → ((((M14 k3 1) = (M14 k9 1)) → (w2_holds g k3 M14 p2 p5 (fun r17 M16 => ((r17 = 0) → (Q (-12 : Int32) M16)) ∧ ((¬ r17 = 0) → (w2_holds g k9 M16 p4 p5 (fun r19 M18 => ((¬ r19 = 0) → ((¬ p2 < 0) ∧ ((¬ p4 < 0) ∧ ((¬ p5 < 0) ∧ ((Int32.toNatClampNeg p2 + Int32.toNatClampNeg p5 ≤ 40) ∧ ((Int32.toNatClampNeg p4 + Int32.toNatClampNeg p5 ≤ 40) ∧ (∀ M25 : S0, M25 = upR M18 (k9 + 1) (va_cpy (M18 (k3 + 1)) (M18 (k9 + 1)) (Int32.toNatClampNeg p2) (Int32.toNatClampNeg p4) (Int32.toNatClampNeg p5)) → (Q p5 M25)))))))) ∧ ((r19 = 0) → (Q (-12 : Int32) M18)))))))) ∧ ((¬ (M14 k3 1) = (M14 k9 1)) → (Q (-13 : Int32) M14)))) ∧ ((¬ r15 = 0) → (Q (-11 : Int32) M14))))))))))))))
set_option maxHeartbeats 4000000 in
set_option maxRecDepth 20000 in
theorem c5_copy {B : BX} {a : Nat → Nat} {g : GX} {M : S0} {p1 : Int32} {p2 : Int32} {p3 : Int32} {p4 : Int32} {p5 : Int32} {Q : Int32 → S0 → Prop} (h : w5_copy g M p1 p2 p3 p4 p5 Q) : KI B (wl (66 + 3 * g.2) a (shX B.2.1 a g.1)) yX5_copy cX5_copy 8 (some .int) 1 100 [.ref (a 0), .int p1, .int p2, .int p3, .int p4, .int p5] M Q := by
  rw [w5_copy] at h
  refine KI_of (by decide +kernel) (Nat.le_of_ble_eq_true rfl) (fun E C hR => ?_)
  change V B E 8 (wl (66 + 3 * g.2) a (shX B.2.1 a g.1) M) 0 [(0, .ref (a 0)), (1, .int p1), (2, .int p2), (3, .int p3), (4, .int p4), (5, .int p5)] []
  change Ok B E cX5_copy 8 RX5 1 100 at C
  refine v_aload_n C 0 dX5_copy_0 rfl rfl ?_
  refine v_iload_n C 1 dX5_copy_1 rfl rfl ?_
  refine v_callVa (k := 0) (As := [.int p1]) (rest := []) C (c5_sheetAt  h) eX5_155 (by omega) (by omega) (by omega) rfl rfl rfl rfl (Nat.le_of_ble_eq_true rfl) dX5_copy_2 (fun r2 M1 h => ?_)
  rcases r2 with _ | k3
  · replace h := h.1 rfl
    change V _ _ _ _ _ _ (.null :: _)
    refine v_astoreN (lv' := [(6, .null), (0, .ref (a 0)), (1, .int p1), (2, .int p2), (3, .int p3), (4, .int p4), (5, .int p5)]) C dX5_copy_5 (by decide) rfl ?_
    refine v_aload_n C 1 dX5_copy_7 rfl rfl ?_
    refine v_iload_n C 4 dX5_copy_8 rfl rfl ?_
    refine v_callVa (k := 0) (As := [.int p3]) (rest := []) C (c5_sheetAt  h) eX5_155 (by omega) (by omega) (by omega) rfl rfl rfl rfl (Nat.le_of_ble_eq_true rfl) dX5_copy_9 (fun r5 M4 h => ?_)
    rcases r5 with _ | k6
    · replace h := h.1 rfl
      change V _ _ _ _ _ _ (.null :: _)
      refine v_astoreN (lv' := [(7, .null), (6, .null), (0, .ref (a 0)), (1, .int p1), (2, .int p2), (3, .int p3), (4, .int p4), (5, .int p5)]) C dX5_copy_12 (by decide) rfl ?_
      refine v_aloadN C 1 dX5_copy_14 rfl ?_
      refine v_ifnullN C dX5_copy_16 (tgt := 24) (by decide) ?_
      refine v_bipush C dX5_copy_24 (v := (-2 : Int32)) (by decide) ?_
      exact hR _ _ _ _ h dX5_copy_26
    · replace h := h.2 k6 rfl
      change V _ _ _ _ _ _ (.ref (a k6) :: _)
      refine v_astore (lv' := [(7, .ref (a k6)), (6, .null), (0, .ref (a 0)), (1, .int p1), (2, .int p2), (3, .int p3), (4, .int p4), (5, .int p5)]) C dX5_copy_12 (by decide) rfl ?_
      refine v_aloadN C 1 dX5_copy_14 rfl ?_
      refine v_ifnullN C dX5_copy_16 (tgt := 24) (by decide) ?_
      refine v_bipush C dX5_copy_24 (v := (-2 : Int32)) (by decide) ?_
      exact hR _ _ _ _ h dX5_copy_26
  · replace h := h.2 k3 rfl
    change V _ _ _ _ _ _ (.ref (a k3) :: _)
    refine v_astore (lv' := [(6, .ref (a k3)), (0, .ref (a 0)), (1, .int p1), (2, .int p2), (3, .int p3), (4, .int p4), (5, .int p5)]) C dX5_copy_5 (by decide) rfl ?_
    refine v_aload_n C 1 dX5_copy_7 rfl rfl ?_
    refine v_iload_n C 4 dX5_copy_8 rfl rfl ?_
    refine v_callVa (k := 0) (As := [.int p3]) (rest := []) C (c5_sheetAt  h) eX5_155 (by omega) (by omega) (by omega) rfl rfl rfl rfl (Nat.le_of_ble_eq_true rfl) dX5_copy_9 (fun r8 M7 h => ?_)
    rcases r8 with _ | k9
    · replace h := h.1 rfl
      change V _ _ _ _ _ _ (.null :: _)
      refine v_astoreN (lv' := [(7, .null), (6, .ref (a k3)), (0, .ref (a 0)), (1, .int p1), (2, .int p2), (3, .int p3), (4, .int p4), (5, .int p5)]) C dX5_copy_12 (by decide) rfl ?_
      refine v_aload C 1 dX5_copy_14 rfl ?_
      refine v_ifnull C dX5_copy_16 ?_
      refine v_aloadN C 0 dX5_copy_19 rfl ?_
      refine v_ifnonnullN C dX5_copy_21 ?_
      refine v_bipush C dX5_copy_24 (v := (-2 : Int32)) (by decide) ?_
      exact hR _ _ _ _ h dX5_copy_26
    · replace h := h.2 k9 rfl
      change V _ _ _ _ _ _ (.ref (a k9) :: _)
      refine v_astore (lv' := [(7, .ref (a k9)), (6, .ref (a k3)), (0, .ref (a 0)), (1, .int p1), (2, .int p2), (3, .int p3), (4, .int p4), (5, .int p5)]) C dX5_copy_12 (by decide) rfl ?_
      refine v_aload C 1 dX5_copy_14 rfl ?_
      refine v_ifnull C dX5_copy_16 ?_
      refine v_aload C 0 dX5_copy_19 rfl ?_
      refine v_ifnonnull C dX5_copy_21 (tgt := 27) (by decide) ?_
      refine v_aload C 1 dX5_copy_27 rfl ?_
      obtain ⟨hf10, h⟩ := h
      refine v_callVi (k := k3) (As := []) (rest := []) C (c2_isMissing hf10 h) eX5_159 (by omega) (by omega) (xlt_s (j := 0) hf10 (by decide)) (sh_s0 hf10 _) rfl rfl rfl (Nat.le_of_ble_eq_true rfl) dX5_copy_29 (fun r12 M11 h => ?_)
      refine v_if_ne C dX5_copy_32 (tgt := 43) (by decide) (fun c => ?_) (fun c => ?_)
      · replace h := h.1 c
        refine v_bipush C dX5_copy_43 (v := (-11 : Int32)) (by decide) ?_
        exact hR _ _ _ _ h dX5_copy_45
      · replace h := h.2 c
        refine v_aload C 0 dX5_copy_35 rfl ?_
        obtain ⟨hf13, h⟩ := h
        refine v_callVi (k := k9) (As := []) (rest := []) C (c2_isMissing hf13 h) eX5_159 (by omega) (by omega) (xlt_s (j := 0) hf13 (by decide)) (sh_s0 hf13 _) rfl rfl rfl (Nat.le_of_ble_eq_true rfl) dX5_copy_37 (fun r15 M14 h => ?_)
        refine v_if_eq C dX5_copy_40 (tgt := 46) (by decide) (fun c => ?_) (fun c => ?_)
        · replace h := h.1 c
          refine v_aload C 1 dX5_copy_46 rfl ?_
          refine fX5_2_g_sort C hf10 dX5_copy_48 ?_
          refine v_aload C 0 dX5_copy_51 rfl ?_
          refine fX5_2_g_sort C hf13 dX5_copy_53 ?_
          refine v_icmp_eq C dX5_copy_56 (tgt := 62) (by decide) (fun c => ?_) (fun c => ?_)
          · replace h := h.1 c
            refine v_aload C 1 dX5_copy_62 rfl ?_
            refine v_iload_n C 4 dX5_copy_64 rfl rfl ?_
            refine v_iload C 7 dX5_copy_65 rfl ?_
            refine v_callVi (k := k3) (As := [.int p2, .int p5]) (rest := []) C (c2_holds hf10 h) eX5_272 (by omega) (by omega) (xlt_s (j := 0) hf10 (by decide)) (sh_s0 hf10 _) rfl rfl rfl (Nat.le_of_ble_eq_true rfl) dX5_copy_67 (fun r17 M16 h => ?_)
            refine v_if_eq C dX5_copy_70 (tgt := 85) (by decide) (fun c => ?_) (fun c => ?_)
            · replace h := h.1 c
              refine v_bipush C dX5_copy_85 (v := (-12 : Int32)) (by decide) ?_
              exact hR _ _ _ _ h dX5_copy_87
            · replace h := h.2 c
              refine v_aload C 0 dX5_copy_73 rfl ?_
              refine v_iload C 6 dX5_copy_75 rfl ?_
              refine v_iload C 7 dX5_copy_77 rfl ?_
              refine v_callVi (k := k9) (As := [.int p4, .int p5]) (rest := []) C (c2_holds hf13 h) eX5_272 (by omega) (by omega) (xlt_s (j := 0) hf13 (by decide)) (sh_s0 hf13 _) rfl rfl rfl (Nat.le_of_ble_eq_true rfl) dX5_copy_79 (fun r19 M18 h => ?_)
              refine v_if_ne C dX5_copy_82 (tgt := 88) (by decide) (fun c => ?_) (fun c => ?_)
              · replace h := h.1 c
                refine v_aload C 1 dX5_copy_88 rfl ?_
                refine fX5_2_g_items C hf10 dX5_copy_90 ?_
                refine v_iload_n C 4 dX5_copy_93 rfl rfl ?_
                refine v_aload C 0 dX5_copy_94 rfl ?_
                refine fX5_2_g_items C hf13 dX5_copy_96 ?_
                refine v_iload C 6 dX5_copy_99 rfl ?_
                refine v_iload C 7 dX5_copy_101 rfl ?_
                obtain ⟨hc20, h⟩ := h
                obtain ⟨hc21, h⟩ := h
                obtain ⟨hc22, h⟩ := h
                obtain ⟨hc23, h⟩ := h
                obtain ⟨hc24, h⟩ := h
                refine v_copy (k0 := (k3 + 1)) (k1 := (k9 + 1)) C eX5_copy (xlt_s hf10 (by decide)) (sh_s1 hf10 _) (xlt_s hf13 (by decide)) (sh_s1 hf13) hc20 hc21 hc22 hc23 hc24 (by omega) (by decide) dX5_copy_103 (fun M25 eM25 => ?_)
                replace h := h M25 eM25
                refine v_iload C 7 dX5_copy_106 rfl ?_
                exact hR _ _ _ _ h dX5_copy_108
              · replace h := h.2 c
                refine v_bipush C dX5_copy_85 (v := (-12 : Int32)) (by decide) ?_
                exact hR _ _ _ _ h dX5_copy_87
          · replace h := h.2 c
            refine v_bipush C dX5_copy_59 (v := (-13 : Int32)) (by decide) ?_
            exact hR _ _ _ _ h dX5_copy_61
        · replace h := h.2 c
          refine v_bipush C dX5_copy_43 (v := (-11 : Int32)) (by decide) ?_
          exact hR _ _ _ _ h dX5_copy_45
def w5_players_b64 (g : GX) (Q : Int32 → S0 → Prop) : Nat → S0 → Int32 → Int32 → Nat → Int32 → Int32 → Prop
  | 0, _, _, _, _, _, _ => False
  | n + 1, M, v3_64, v4_64, v5_64, v6_64, v7_64 =>
    ((v4_64 ≤ v7_64) → (Q v6_64 M)) ∧ ((¬ v4_64 ≤ v7_64) → (∀ x12 : Int32, x12 = (v3_64 + ((2 : Int32) * v7_64)) → (w2_holds g v5_64 M x12 (2 : Int32) (fun r14 M13 => ((¬ r14 = 0) → (w2_item g v5_64 M13 x12 (fun r16 M15 => w2_item g v5_64 M15 (x12 + (1 : Int32)) (fun r18 M17 => w0_comes g 10 M17 r16 r18 (fun r20 M19 => ((r20 < 0) → (∀ x21 : Int32, x21 = v7_64 + (1 : Int32) → (w5_players_b64 g  Q n M19 v3_64 v4_64 v5_64 v6_64 x21))) ∧ ((¬ r20 < 0) → (∀ x22 : Int32, x22 = v6_64 + (1 : Int32) → (∀ x23 : Int32, x23 = v7_64 + (1 : Int32) → (w5_players_b64 g  Q n M19 v3_64 v4_64 v5_64 x22 x23))))))))) ∧ ((r14 = 0) → (Q (-12 : Int32) M13))))))
set_option maxHeartbeats 4000000 in
set_option maxRecDepth 20000 in
theorem t5_players_b64 {B : BX} {E : EX} {a : Nat → Nat} {g : GX} {Q : Int32 → S0 → Prop} (C : Ok B E cX5_players 9 RX5 2 44) (hR : RetI B E cX5_players 9 (wl (66 + 3 * g.2) a (shX B.2.1 a g.1)) Q) : ∀ (n : Nat) (M : S0) (v3_64 : Int32) (v4_64 : Int32) (v5_64 : Nat) (v6_64 : Int32) (v7_64 : Int32), (hp_v5_64 : isSheet v5_64) → w5_players_b64 g  Q n M v3_64 v4_64 v5_64 v6_64 v7_64 → V B E 9 (wl (66 + 3 * g.2) a (shX B.2.1 a g.1) M) 64 [(0, .ref (a 0)), (3, .int v3_64), (4, .int v4_64), (5, .ref (a v5_64)), (6, .int v6_64), (7, .int v7_64)] [] := by
  intro n
  induction n with
  | zero =>
    intro M v3_64 v4_64 v5_64 v6_64 v7_64 hp_v5_64 h
    exact h.elim
  | succ n ih =>
    intro M v3_64 v4_64 v5_64 v6_64 v7_64 hp_v5_64 h
    rw [w5_players_b64] at h
    refine v_iload C 5 dX5_players_64 rfl ?_
    refine v_iload C 2 dX5_players_66 rfl ?_
    refine v_icmp_ge C dX5_players_68 (tgt := 128) (by decide) (fun c => ?_) (fun c => ?_)
    · replace h := h.1 c
      refine v_iload C 4 dX5_players_128 rfl ?_
      exact hR _ _ _ _ h dX5_players_130
    · replace h := h.2 c
      refine v_iload_n C 1 dX5_players_71 rfl rfl ?_
      refine v_iconst C dX5_players_72 (v := (2 : Int32)) (by decide) ?_
      refine v_iload C 5 dX5_players_73 rfl ?_
      refine v_imul C dX5_players_75 ?_
      refine v_iadd C dX5_players_76 ?_
      refine v_nmi (fun x12 ex12 => ?_)
      replace h := h x12 ex12
      refine v_istore (lv' := [(8, .int x12), (0, .ref (a 0)), (3, .int v3_64), (4, .int v4_64), (5, .ref (a v5_64)), (6, .int v6_64), (7, .int v7_64)]) C dX5_players_77 (by decide) rfl ?_
      refine v_aload C 4 dX5_players_79 rfl ?_
      refine v_iload C 0 dX5_players_81 rfl ?_
      refine v_iconst C dX5_players_83 (v := (2 : Int32)) (by decide) ?_
      refine v_callVi (k := v5_64) (As := [.int x12, .int (2 : Int32)]) (rest := []) C (c2_holds hp_v5_64 h) eX5_272 (by omega) (by omega) (xlt_s (j := 0) hp_v5_64 (by decide)) (sh_s0 hp_v5_64 _) rfl rfl rfl (Nat.le_of_ble_eq_true rfl) dX5_players_84 (fun r14 M13 h => ?_)
      refine v_if_ne C dX5_players_87 (tgt := 93) (by decide) (fun c => ?_) (fun c => ?_)
      · replace h := h.1 c
        refine v_aload_n C 1 dX5_players_93 rfl rfl ?_
        refine fX5_5_g_now C dX5_players_94 ?_
        refine v_aload C 4 dX5_players_97 rfl ?_
        refine v_iload C 0 dX5_players_99 rfl ?_
        refine v_callVi (k := v5_64) (As := [.int x12]) (rest := [.ref (a 10)]) C (c2_item hp_v5_64 h) eX5_179 (by omega) (by omega) (xlt_s (j := 0) hp_v5_64 (by decide)) (sh_s0 hp_v5_64 _) rfl rfl rfl (Nat.le_of_ble_eq_true rfl) dX5_players_101 (fun r16 M15 h => ?_)
        refine v_aload C 4 dX5_players_104 rfl ?_
        refine v_iload C 0 dX5_players_106 rfl ?_
        refine v_iconst C dX5_players_108 (v := (1 : Int32)) (by decide) ?_
        refine v_iadd C dX5_players_109 ?_
        refine v_callVi (k := v5_64) (As := [.int (x12 + (1 : Int32))]) (rest := [.int r16, .ref (a 10)]) C (c2_item hp_v5_64 h) eX5_179 (by omega) (by omega) (xlt_s (j := 0) hp_v5_64 (by decide)) (sh_s0 hp_v5_64 _) rfl rfl rfl (Nat.le_of_ble_eq_true rfl) dX5_players_110 (fun r18 M17 h => ?_)
        refine v_callVi (k := 10) (As := [.int r16, .int r18]) (rest := []) C (c0_comes cl_10 h) eX5_101 (by omega) (by omega) (xlt_c (j := 0) cl_10 (by decide)) (sh_c0 cl_10 _) rfl rfl rfl (Nat.le_of_ble_eq_true rfl) dX5_players_113 (fun r20 M19 h => ?_)
        refine v_if_lt C dX5_players_116 (tgt := 122) (by decide) (fun c => ?_) (fun c => ?_)
        · replace h := h.1 c
          obtain ⟨x21, ex21⟩ : ∃ z : Int32, z = v7_64 + (1 : Int32) := ⟨_, rfl⟩
          replace h := h x21 ex21
          refine v_iinc (v := x21) (lv' := [(7, .int x21), (8, .int x12), (0, .ref (a 0)), (3, .int v3_64), (4, .int v4_64), (5, .ref (a v5_64)), (6, .int v6_64)]) C 6 dX5_players_122 rfl (by rw [ex21]; rfl) (by decide) rfl ?_
          refine v_goto C dX5_players_125 (tgt := 64) (by decide) ?_
          refine v_sub [2, 3, 4, 5, 6, 0] rfl ?_
          exact ih M19 v3_64 v4_64 v5_64 v6_64 x21 hp_v5_64 h
        · replace h := h.2 c
          obtain ⟨x22, ex22⟩ : ∃ z : Int32, z = v6_64 + (1 : Int32) := ⟨_, rfl⟩
          replace h := h x22 ex22
          refine v_iinc (v := x22) (lv' := [(6, .int x22), (8, .int x12), (0, .ref (a 0)), (3, .int v3_64), (4, .int v4_64), (5, .ref (a v5_64)), (7, .int v7_64)]) C 5 dX5_players_119 rfl (by rw [ex22]; rfl) (by decide) rfl ?_
          obtain ⟨x23, ex23⟩ : ∃ z : Int32, z = v7_64 + (1 : Int32) := ⟨_, rfl⟩
          replace h := h x23 ex23
          refine v_iinc (v := x23) (lv' := [(7, .int x23), (6, .int x22), (8, .int x12), (0, .ref (a 0)), (3, .int v3_64), (4, .int v4_64), (5, .ref (a v5_64))]) C 6 dX5_players_122 rfl (by rw [ex23]; rfl) (by decide) rfl ?_
          refine v_goto C dX5_players_125 (tgt := 64) (by decide) ?_
          refine v_sub [3, 4, 5, 6, 1, 0] rfl ?_
          exact ih M19 v3_64 v4_64 v5_64 x22 x23 hp_v5_64 h
      · replace h := h.2 c
        refine v_bipush C dX5_players_90 (v := (-12 : Int32)) (by decide) ?_
        exact hR _ _ _ _ h dX5_players_92
def w5_players (g : GX) (M : S0) (p1 : Int32) (p2 : Int32) (p3 : Int32) (p4 : Int32) (Q : Int32 → S0 → Prop) : Prop :=
    w5_sheetAt g M p1 (fun r2 M1 => ((r2 = none) → (Q (-2 : Int32) M1)) ∧ (∀ k3 : Nat, r2 = some k3 → (w5_isWithin g M1 p2 (0 : Int32) (2 : Int32) (fun r5 M4 => ((r5 = 0) → (Q (-2 : Int32) M4)) ∧ ((¬ r5 = 0) → (w5_isWithin g M4 p4 (0 : Int32) (6 : Int32) (fun r7 M6 => ((¬ r7 = 0) → ((isSheet k3) ∧ (w2_isMissing g k3 M6 (fun r10 M9 => ((r10 = 0) → ((((M9 k3 1) = p2) → (∃ n11, w5_players_b64 g  Q n11 M9 p3 p4 k3 (0 : Int32) (0 : Int32))) ∧ ((¬ (M9 k3 1) = p2) → (Q (-13 : Int32) M9)))) ∧ ((¬ r10 = 0) → (Q (-11 : Int32) M9)))))) ∧ ((r7 = 0) → (Q (-2 : Int32) M6)))))))))
set_option maxHeartbeats 4000000 in
set_option maxRecDepth 20000 in
theorem c5_players {B : BX} {a : Nat → Nat} {g : GX} {M : S0} {p1 : Int32} {p2 : Int32} {p3 : Int32} {p4 : Int32} {Q : Int32 → S0 → Prop} (h : w5_players g M p1 p2 p3 p4 Q) : KI B (wl (66 + 3 * g.2) a (shX B.2.1 a g.1)) yX5_players cX5_players 9 (some .int) 2 44 [.ref (a 0), .int p1, .int p2, .int p3, .int p4] M Q := by
  rw [w5_players] at h
  refine KI_of (by decide +kernel) (Nat.le_of_ble_eq_true rfl) (fun E C hR => ?_)
  change V B E 9 (wl (66 + 3 * g.2) a (shX B.2.1 a g.1) M) 0 [(0, .ref (a 0)), (1, .int p1), (2, .int p2), (3, .int p3), (4, .int p4)] []
  change Ok B E cX5_players 9 RX5 2 44 at C
  refine v_aload_n C 0 dX5_players_0 rfl rfl ?_
  refine v_iload_n C 1 dX5_players_1 rfl rfl ?_
  refine v_callVa (k := 0) (As := [.int p1]) (rest := []) C (c5_sheetAt  h) eX5_155 (by omega) (by omega) (by omega) rfl rfl rfl rfl (Nat.le_of_ble_eq_true rfl) dX5_players_2 (fun r2 M1 h => ?_)
  rcases r2 with _ | k3
  · replace h := h.1 rfl
    change V _ _ _ _ _ _ (.null :: _)
    refine v_astoreN (lv' := [(5, .null), (0, .ref (a 0)), (1, .int p1), (2, .int p2), (3, .int p3), (4, .int p4)]) C dX5_players_5 (by decide) rfl ?_
    refine v_aloadN C 0 dX5_players_7 rfl ?_
    refine v_ifnullN C dX5_players_9 (tgt := 32) (by decide) ?_
    refine v_bipush C dX5_players_32 (v := (-2 : Int32)) (by decide) ?_
    exact hR _ _ _ _ h dX5_players_34
  · replace h := h.2 k3 rfl
    change V _ _ _ _ _ _ (.ref (a k3) :: _)
    refine v_astore (lv' := [(5, .ref (a k3)), (0, .ref (a 0)), (1, .int p1), (2, .int p2), (3, .int p3), (4, .int p4)]) C dX5_players_5 (by decide) rfl ?_
    refine v_aload C 0 dX5_players_7 rfl ?_
    refine v_ifnull C dX5_players_9 ?_
    refine v_iload_n C 3 dX5_players_12 rfl rfl ?_
    refine v_iconst C dX5_players_13 (v := (0 : Int32)) (by decide) ?_
    refine v_iconst C dX5_players_14 (v := (2 : Int32)) (by decide) ?_
    refine v_callSi (As := [.int p2, .int (0 : Int32), .int (2 : Int32)]) (rest := []) C (c5_isWithin  h) eX5_82 (by omega) (by omega) rfl rfl (Nat.le_of_ble_eq_true rfl) dX5_players_15 (fun r5 M4 h => ?_)
    refine v_if_eq C dX5_players_18 (tgt := 32) (by decide) (fun c => ?_) (fun c => ?_)
    · replace h := h.1 c
      refine v_bipush C dX5_players_32 (v := (-2 : Int32)) (by decide) ?_
      exact hR _ _ _ _ h dX5_players_34
    · replace h := h.2 c
      refine v_iload C 5 dX5_players_21 rfl ?_
      refine v_iconst C dX5_players_23 (v := (0 : Int32)) (by decide) ?_
      refine v_bipush C dX5_players_24 (v := (6 : Int32)) (by decide) ?_
      refine v_callSi (As := [.int p4, .int (0 : Int32), .int (6 : Int32)]) (rest := []) C (c5_isWithin  h) eX5_82 (by omega) (by omega) rfl rfl (Nat.le_of_ble_eq_true rfl) dX5_players_26 (fun r7 M6 h => ?_)
      refine v_if_ne C dX5_players_29 (tgt := 35) (by decide) (fun c => ?_) (fun c => ?_)
      · replace h := h.1 c
        refine v_aload C 0 dX5_players_35 rfl ?_
        obtain ⟨hf8, h⟩ := h
        refine v_callVi (k := k3) (As := []) (rest := []) C (c2_isMissing hf8 h) eX5_159 (by omega) (by omega) (xlt_s (j := 0) hf8 (by decide)) (sh_s0 hf8 _) rfl rfl rfl (Nat.le_of_ble_eq_true rfl) dX5_players_37 (fun r10 M9 h => ?_)
        refine v_if_eq C dX5_players_40 (tgt := 46) (by decide) (fun c => ?_) (fun c => ?_)
        · replace h := h.1 c
          refine v_aload C 0 dX5_players_46 rfl ?_
          refine fX5_2_g_sort C hf8 dX5_players_48 ?_
          refine v_iload_n C 3 dX5_players_51 rfl rfl ?_
          refine v_icmp_eq C dX5_players_52 (tgt := 58) (by decide) (fun c => ?_) (fun c => ?_)
          · replace h := h.1 c
            refine v_iconst C dX5_players_58 (v := (0 : Int32)) (by decide) ?_
            refine v_istore (lv' := [(6, .int (0 : Int32)), (5, .ref (a k3)), (0, .ref (a 0)), (1, .int p1), (2, .int p2), (3, .int p3), (4, .int p4)]) C dX5_players_59 (by decide) rfl ?_
            refine v_iconst C dX5_players_61 (v := (0 : Int32)) (by decide) ?_
            refine v_istore (lv' := [(7, .int (0 : Int32)), (6, .int (0 : Int32)), (5, .ref (a k3)), (0, .ref (a 0)), (1, .int p1), (2, .int p2), (3, .int p3), (4, .int p4)]) C dX5_players_62 (by decide) rfl ?_
            obtain ⟨n11, h⟩ := h
            refine v_sub [3, 6, 7, 2, 1, 0] rfl ?_
            exact t5_players_b64   C hR  n11 M9 p3 p4 k3 (0 : Int32) (0 : Int32) hf8 h
          · replace h := h.2 c
            refine v_bipush C dX5_players_55 (v := (-13 : Int32)) (by decide) ?_
            exact hR _ _ _ _ h dX5_players_57
        · replace h := h.2 c
          refine v_bipush C dX5_players_43 (v := (-11 : Int32)) (by decide) ?_
          exact hR _ _ _ _ h dX5_players_45
      · replace h := h.2 c
        refine v_bipush C dX5_players_32 (v := (-2 : Int32)) (by decide) ?_
        exact hR _ _ _ _ h dX5_players_34
def w5_kindAbove (g : GX) (M : S0) (p1 : Int32) (Q : Int32 → S0 → Prop) : Prop :=
    ((p1.toInt = 1) → (Q (0 : Int32) M)) ∧ ((p1.toInt = 2) → (Q (0 : Int32) M)) ∧ ((p1.toInt = 3) → (Q (1 : Int32) M)) ∧ ((p1.toInt = 4) → (Q (2 : Int32) M)) ∧ ((p1.toInt = 5) → (Q (0 : Int32) M)) ∧ ((p1.toInt < 1 ∨ 5 < p1.toInt) → (Q (-1 : Int32) M))
set_option maxHeartbeats 4000000 in
set_option maxRecDepth 20000 in
theorem c5_kindAbove {B : BX} {a : Nat → Nat} {g : GX} {M : S0} {p1 : Int32} {Q : Int32 → S0 → Prop} (h : w5_kindAbove g M p1 Q) : KI B (wl (66 + 3 * g.2) a (shX B.2.1 a g.1)) yX5_kindAbove cX5_kindAbove 1 (some .int) 0 0 [.int p1] M Q := by
  rw [w5_kindAbove] at h
  refine KI_of (by decide +kernel) (Nat.le_of_ble_eq_true rfl) (fun E C hR => ?_)
  change V B E 1 (wl (66 + 3 * g.2) a (shX B.2.1 a g.1) M) 0 [(0, .int p1)] []
  change Ok B E cX5_kindAbove 1 RX5 0 0 at C
  refine v_iload_n C 0 dX5_kindAbove_0 rfl rfl ?_
  refine v_sw C dX5_kindAbove_1 [36, 36, 38, 40, 36] (by decide) (by decide) (tgt := 42) (by decide) (fun j t ht hx => ?_) (fun c => ?_)
  · match j, ht, hx with
    | 0, ht, hx =>
      obtain rfl : 36 = t := Option.some.inj ht
      replace h := h.1 (by omega)
      refine v_iconst C dX5_kindAbove_36 (v := (0 : Int32)) (by decide) ?_
      exact hR _ _ _ _ h dX5_kindAbove_37
    | 1, ht, hx =>
      obtain rfl : 36 = t := Option.some.inj ht
      replace h := h.2.1 (by omega)
      refine v_iconst C dX5_kindAbove_36 (v := (0 : Int32)) (by decide) ?_
      exact hR _ _ _ _ h dX5_kindAbove_37
    | 2, ht, hx =>
      obtain rfl : 38 = t := Option.some.inj ht
      replace h := h.2.2.1 (by omega)
      refine v_iconst C dX5_kindAbove_38 (v := (1 : Int32)) (by decide) ?_
      exact hR _ _ _ _ h dX5_kindAbove_39
    | 3, ht, hx =>
      obtain rfl : 40 = t := Option.some.inj ht
      replace h := h.2.2.2.1 (by omega)
      refine v_iconst C dX5_kindAbove_40 (v := (2 : Int32)) (by decide) ?_
      exact hR _ _ _ _ h dX5_kindAbove_41
    | 4, ht, hx =>
      obtain rfl : 36 = t := Option.some.inj ht
      replace h := h.2.2.2.2.1 (by omega)
      refine v_iconst C dX5_kindAbove_36 (v := (0 : Int32)) (by decide) ?_
      exact hR _ _ _ _ h dX5_kindAbove_37
    | j + 5, ht, hx => simp at ht
  · replace h := h.2.2.2.2.2 c
    refine v_iconst C dX5_kindAbove_42 (v := (-1 : Int32)) (by decide) ?_
    exact hR _ _ _ _ h dX5_kindAbove_43
def w5_isOfKind_b4 (g : GX) (Q : Int32 → S0 → Prop) : Nat → S0 → Int32 → Int32 → Int32 → Prop
  | 0, _, _, _, _ => False
  | n + 1, M, v1_4, v2_4, v3_4 =>
    (((6 : Int32) ≤ v3_4) → (Q (0 : Int32) M)) ∧ ((¬ (6 : Int32) ≤ v3_4) → (((v2_4 = (-1 : Int32)) → (Q (0 : Int32) M)) ∧ ((¬ v2_4 = (-1 : Int32)) → (((¬ v2_4 = v1_4) → (w5_kindAbove g M v2_4 (fun r3 M2 => ∀ x4 : Int32, x4 = v3_4 + (1 : Int32) → (w5_isOfKind_b4 g  Q n M2 v1_4 r3 x4)))) ∧ ((v2_4 = v1_4) → (Q (1 : Int32) M))))))
set_option maxHeartbeats 4000000 in
set_option maxRecDepth 20000 in
theorem t5_isOfKind_b4 {B : BX} {E : EX} {a : Nat → Nat} {g : GX} {Q : Int32 → S0 → Prop} (C : Ok B E cX5_isOfKind 4 RX5 1 20) (hR : RetZ B E cX5_isOfKind 4 (wl (66 + 3 * g.2) a (shX B.2.1 a g.1)) .boolean Q) : ∀ (n : Nat) (M : S0) (v1_4 : Int32) (v2_4 : Int32) (v3_4 : Int32), w5_isOfKind_b4 g  Q n M v1_4 v2_4 v3_4 → V B E 4 (wl (66 + 3 * g.2) a (shX B.2.1 a g.1) M) 4 [(1, .int v1_4), (2, .int v2_4), (3, .int v3_4)] [] := by
  intro n
  induction n with
  | zero =>
    intro M v1_4 v2_4 v3_4  h
    exact h.elim
  | succ n ih =>
    intro M v1_4 v2_4 v3_4  h
    rw [w5_isOfKind_b4] at h
    refine v_iload_n C 2 dX5_isOfKind_4 rfl rfl ?_
    refine v_bipush C dX5_isOfKind_5 (v := (6 : Int32)) (by decide) ?_
    refine v_icmp_ge C dX5_isOfKind_7 (tgt := 33) (by decide) (fun c => ?_) (fun c => ?_)
    · replace h := h.1 c
      refine v_iconst C dX5_isOfKind_33 (v := (0 : Int32)) (by decide) ?_
      exact hR _ _ _ _ rfl h dX5_isOfKind_34
    · replace h := h.2 c
      refine v_iload_n C 1 dX5_isOfKind_10 rfl rfl ?_
      refine v_iconst C dX5_isOfKind_11 (v := (-1 : Int32)) (by decide) ?_
      refine v_icmp_eq C dX5_isOfKind_12 (tgt := 33) (by decide) (fun c => ?_) (fun c => ?_)
      · replace h := h.1 c
        refine v_iconst C dX5_isOfKind_33 (v := (0 : Int32)) (by decide) ?_
        exact hR _ _ _ _ rfl h dX5_isOfKind_34
      · replace h := h.2 c
        refine v_iload_n C 1 dX5_isOfKind_15 rfl rfl ?_
        refine v_iload_n C 0 dX5_isOfKind_16 rfl rfl ?_
        refine v_icmp_ne C dX5_isOfKind_17 (tgt := 22) (by decide) (fun c => ?_) (fun c => ?_)
        · replace h := h.1 c
          refine v_iload_n C 1 dX5_isOfKind_22 rfl rfl ?_
          refine v_callSi (As := [.int v2_4]) (rest := []) C (c5_kindAbove  h) eX5_290 (by omega) (by omega) rfl rfl (Nat.le_of_ble_eq_true rfl) dX5_isOfKind_23 (fun r3 M2 h => ?_)
          refine v_istore_n (lv' := [(2, .int r3), (1, .int v1_4), (3, .int v3_4)]) C dX5_isOfKind_26 rfl (by decide) rfl ?_
          obtain ⟨x4, ex4⟩ : ∃ z : Int32, z = v3_4 + (1 : Int32) := ⟨_, rfl⟩
          replace h := h x4 ex4
          refine v_iinc (v := x4) (lv' := [(3, .int x4), (2, .int r3), (1, .int v1_4)]) C 2 dX5_isOfKind_27 rfl (by rw [ex4]; rfl) (by decide) rfl ?_
          refine v_goto C dX5_isOfKind_30 (tgt := 4) (by decide) ?_
          refine v_sub [2, 1, 0] rfl ?_
          exact ih M2 v1_4 r3 x4  h
        · replace h := h.2 c
          refine v_iconst C dX5_isOfKind_20 (v := (1 : Int32)) (by decide) ?_
          exact hR _ _ _ _ rfl h dX5_isOfKind_21
def w5_isOfKind (g : GX) (M : S0) (p1 : Int32) (p2 : Int32) (Q : Int32 → S0 → Prop) : Prop :=
    ∃ n1, w5_isOfKind_b4 g  Q n1 M p2 p1 (0 : Int32)
set_option maxHeartbeats 4000000 in
set_option maxRecDepth 20000 in
theorem c5_isOfKind {B : BX} {a : Nat → Nat} {g : GX} {M : S0} {p1 : Int32} {p2 : Int32} {Q : Int32 → S0 → Prop} (h : w5_isOfKind g M p1 p2 Q) : KI B (wl (66 + 3 * g.2) a (shX B.2.1 a g.1)) yX5_isOfKind cX5_isOfKind 4 (some .boolean) 1 20 [.int p1, .int p2] M Q := by
  rw [w5_isOfKind] at h
  refine KZ_of (by decide +kernel) (Nat.le_of_ble_eq_true rfl) (fun E C hR => ?_)
  change V B E 4 (wl (66 + 3 * g.2) a (shX B.2.1 a g.1) M) 0 [(0, .int p1), (1, .int p2)] []
  change Ok B E cX5_isOfKind 4 RX5 1 20 at C
  refine v_iload_n C 0 dX5_isOfKind_0 rfl rfl ?_
  refine v_istore_n (lv' := [(2, .int p1), (0, .int p1), (1, .int p2)]) C dX5_isOfKind_1 rfl (by decide) rfl ?_
  refine v_iconst C dX5_isOfKind_2 (v := (0 : Int32)) (by decide) ?_
  refine v_istore_n (lv' := [(3, .int (0 : Int32)), (2, .int p1), (0, .int p1), (1, .int p2)]) C dX5_isOfKind_3 rfl (by decide) rfl ?_
  obtain ⟨n1, h⟩ := h
  refine v_sub [3, 1, 0] rfl ?_
  exact t5_isOfKind_b4   C hR  n1 M p2 p1 (0 : Int32)  h
def w5_taken (g : GX) (M : S0) (p1 : Int32) (p2 : Int32) (Q : Int32 → S0 → Prop) : Prop :=
    w5_isWithin g M p2 (0 : Int32) (5 : Int32) (fun r2 M1 => ((¬ r2 = 0) → (w0_isPlayer g 10 M1 p1 (fun r4 M3 => ((¬ r4 = 0) → ((vp_in p1 6) ∧ (w5_isOfKind g M3 (M3 (10 + 1) (Int32.toNatClampNeg p1)) p2 (fun r7 M6 => ((r7 = 0) → (Q (-13 : Int32) M6)) ∧ ((¬ r7 = 0) → ((vp_in p1 6) ∧ (Q (M6 (10 + 2) (Int32.toNatClampNeg p1)) M6))))))) ∧ ((r4 = 0) → (Q (-11 : Int32) M3))))) ∧ ((r2 = 0) → (Q (-2 : Int32) M1)))
set_option maxHeartbeats 4000000 in
set_option maxRecDepth 20000 in
theorem c5_taken {B : BX} {a : Nat → Nat} {g : GX} {M : S0} {p1 : Int32} {p2 : Int32} {Q : Int32 → S0 → Prop} (h : w5_taken g M p1 p2 Q) : KI B (wl (66 + 3 * g.2) a (shX B.2.1 a g.1)) yX5_taken cX5_taken 3 (some .int) 2 43 [.ref (a 0), .int p1, .int p2] M Q := by
  rw [w5_taken] at h
  refine KI_of (by decide +kernel) (Nat.le_of_ble_eq_true rfl) (fun E C hR => ?_)
  change V B E 3 (wl (66 + 3 * g.2) a (shX B.2.1 a g.1) M) 0 [(0, .ref (a 0)), (1, .int p1), (2, .int p2)] []
  change Ok B E cX5_taken 3 RX5 2 43 at C
  refine v_iload_n C 2 dX5_taken_0 rfl rfl ?_
  refine v_iconst C dX5_taken_1 (v := (0 : Int32)) (by decide) ?_
  refine v_iconst C dX5_taken_2 (v := (5 : Int32)) (by decide) ?_
  refine v_callSi (As := [.int p2, .int (0 : Int32), .int (5 : Int32)]) (rest := []) C (c5_isWithin  h) eX5_82 (by omega) (by omega) rfl rfl (Nat.le_of_ble_eq_true rfl) dX5_taken_3 (fun r2 M1 h => ?_)
  refine v_if_ne C dX5_taken_6 (tgt := 12) (by decide) (fun c => ?_) (fun c => ?_)
  · replace h := h.1 c
    refine v_aload_n C 0 dX5_taken_12 rfl rfl ?_
    refine fX5_5_g_now C dX5_taken_13 ?_
    refine v_iload_n C 1 dX5_taken_16 rfl rfl ?_
    refine v_callVi (k := 10) (As := [.int p1]) (rest := []) C (c0_isPlayer cl_10 h) eX5_90 (by omega) (by omega) (xlt_c (j := 0) cl_10 (by decide)) (sh_c0 cl_10 _) rfl rfl rfl (Nat.le_of_ble_eq_true rfl) dX5_taken_17 (fun r4 M3 h => ?_)
    refine v_if_ne C dX5_taken_20 (tgt := 26) (by decide) (fun c => ?_) (fun c => ?_)
    · replace h := h.1 c
      refine v_aload_n C 0 dX5_taken_26 rfl rfl ?_
      refine fX5_5_g_now C dX5_taken_27 ?_
      refine fX5_0_g_kind C cl_10 dX5_taken_30 ?_
      refine v_iload_n C 1 dX5_taken_33 rfl rfl ?_
      obtain ⟨hi5, h⟩ := h
      refine v_iald (k := (10 + 1)) C (xlt_c cl_10 (by decide)) (sh_ca (ca_of cl_10 (by decide) (by decide)) _) hi5 dX5_taken_34 ?_
      refine v_iload_n C 2 dX5_taken_35 rfl rfl ?_
      refine v_callSi (As := [.int (M3 (10 + 1) (Int32.toNatClampNeg p1)), .int p2]) (rest := []) C (c5_isOfKind  h) eX5_287 (by omega) (by omega) rfl rfl (Nat.le_of_ble_eq_true rfl) dX5_taken_36 (fun r7 M6 h => ?_)
      refine v_if_eq C dX5_taken_39 (tgt := 54) (by decide) (fun c => ?_) (fun c => ?_)
      · replace h := h.1 c
        refine v_bipush C dX5_taken_54 (v := (-13 : Int32)) (by decide) ?_
        exact hR _ _ _ _ h dX5_taken_56
      · replace h := h.2 c
        refine v_aload_n C 0 dX5_taken_42 rfl rfl ?_
        refine fX5_5_g_now C dX5_taken_43 ?_
        refine fX5_0_g_number C cl_10 dX5_taken_46 ?_
        refine v_iload_n C 1 dX5_taken_49 rfl rfl ?_
        obtain ⟨hi8, h⟩ := h
        refine v_iald (k := (10 + 2)) C (xlt_c cl_10 (by decide)) (sh_ca (ca_of cl_10 (by decide) (by decide)) _) hi8 dX5_taken_50 ?_
        refine v_goto C dX5_taken_51 (tgt := 56) (by decide) ?_
        exact hR _ _ _ _ h dX5_taken_56
    · replace h := h.2 c
      refine v_bipush C dX5_taken_23 (v := (-11 : Int32)) (by decide) ?_
      exact hR _ _ _ _ h dX5_taken_25
  · replace h := h.2 c
    refine v_bipush C dX5_taken_9 (v := (-2 : Int32)) (by decide) ?_
    exact hR _ _ _ _ h dX5_taken_11
