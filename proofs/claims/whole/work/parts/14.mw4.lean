def w6_playsOf (M : S0) (p1 : Int32) (p2 : Int32) (Q : Int32 → S0 → Prop) : Prop :=
    (vp_in p1 6) ∧ (∀ x2 : Int32, x2 = (M 4 (Int32.toNatClampNeg p1)) → (((¬ x2 = (5 : Int32)) → (w6_says M (0 : Int32) p1 p2 (fun r4 M3 => (vp_in ((4 : Int32) * p1) 24) ∧ (∀ x6 : Int32, x6 = (M3 5 (Int32.toNatClampNeg ((4 : Int32) * p1))) → (((¬ x2 = (1 : Int32)) → (((¬ x2 = (3 : Int32)) → (((¬ x2 = (2 : Int32)) → (((¬ x2 = (4 : Int32)) → (w6_within M3 r4 (0 : Int32) (999 : Int32) (fun r8 M7 => Q r8 M7))) ∧ ((x2 = (4 : Int32)) → (((¬ ((M3 0 7) - (M3 0 7) / (10 : Int32) * (10 : Int32)) = x6) → (∀ x9 : Int32, x9 = ((r4 / (2 : Int32)) + (0 : Int32)) → (w6_within M3 x9 (0 : Int32) (999 : Int32) (fun r11 M10 => Q r11 M10)))) ∧ ((((M3 0 7) - (M3 0 7) / (10 : Int32) * (10 : Int32)) = x6) → (∀ x12 : Int32, x12 = ((r4 / (2 : Int32)) + (50 : Int32)) → (w6_within M3 x12 (0 : Int32) (999 : Int32) (fun r14 M13 => Q r14 M13)))))))) ∧ ((x2 = (2 : Int32)) → (∀ x15 : Int32, x15 = (r4 / (2 : Int32)) → (w6_within M3 x15 (0 : Int32) (999 : Int32) (fun r17 M16 => Q r17 M16)))))) ∧ ((x2 = (3 : Int32)) → (w6_has M3 p1 (fun r19 M18 => ((¬ r19 = 0) → (∀ x20 : Int32, x20 = (((2 : Int32) * r4) + (0 : Int32)) → (w6_within M18 x20 (0 : Int32) (999 : Int32) (fun r22 M21 => Q r22 M21)))) ∧ ((r19 = 0) → (∀ x23 : Int32, x23 = (((2 : Int32) * r4) + x6) → (w6_within M18 x23 (0 : Int32) (999 : Int32) (fun r25 M24 => Q r25 M24))))))))) ∧ ((x2 = (1 : Int32)) → (∀ x26 : Int32, x26 = ((2 : Int32) * r4) → (w6_within M3 x26 (0 : Int32) (999 : Int32) (fun r28 M27 => Q r28 M27))))))))) ∧ ((x2 = (5 : Int32)) → (Q (0 : Int32) M))))
set_option maxHeartbeats 4000000 in
set_option maxRecDepth 20000 in
theorem c6_playsOf {B : BX} {a : Nat → Nat} {M : S0} {p1 : Int32} {p2 : Int32} {Q : Int32 → S0 → Prop} (h : w6_playsOf  M p1 p2 Q) : KI B (wl 12 a (shM B.2.1 a)) yX6_playsOf cX6_playsOf 7 (some .int) 68 1564 [.ref (a 0), .int p1, .int p2] M Q := by
  rw [w6_playsOf] at h
  refine KI_of (by decide +kernel) (Nat.le_of_ble_eq_true rfl) (fun E C hR => ?_)
  change V B E 7 (wl 12 a (shM B.2.1 a) M) 0 [(0, .ref (a 0)), (1, .int p1), (2, .int p2)] []
  change Ok B E cX6_playsOf 7 RX6 68 1564 at C
  refine v_aload_n C 0 dX6_playsOf_0 rfl rfl ?_
  refine fX6_6_g_kinds C dX6_playsOf_1 ?_
  refine v_iload_n C 1 dX6_playsOf_4 rfl rfl ?_
  obtain ⟨hi1, h⟩ := h
  refine v_iald (k := 4) C (by decide) rfl hi1 dX6_playsOf_5 ?_
  refine v_nmi (fun x2 ex2 => ?_)
  replace h := h x2 ex2
  refine v_istore_n (lv' := [(3, .int x2), (0, .ref (a 0)), (1, .int p1), (2, .int p2)]) C dX6_playsOf_6 rfl (by decide) rfl ?_
  refine v_iload_n C 0 dX6_playsOf_7 rfl rfl ?_
  refine v_iconst C dX6_playsOf_8 (v := (5 : Int32)) (by decide) ?_
  refine v_icmp_ne C dX6_playsOf_9 (tgt := 14) (by decide) (fun c => ?_) (fun c => ?_)
  · replace h := h.1 c
    refine v_aload_n C 1 dX6_playsOf_14 rfl rfl ?_
    refine v_iconst C dX6_playsOf_15 (v := (0 : Int32)) (by decide) ?_
    refine v_iload_n C 2 dX6_playsOf_16 rfl rfl ?_
    refine v_iload_n C 3 dX6_playsOf_17 rfl rfl ?_
    refine v_callVi (k := 0) (As := [.int (0 : Int32), .int p1, .int p2]) (rest := []) C (c6_says  h) eX6_247 (by omega) (by omega) (by decide) rfl rfl rfl rfl (Nat.le_of_ble_eq_true rfl) dX6_playsOf_18 (fun r4 M3 h => ?_)
    refine v_istore (lv' := [(4, .int r4), (3, .int x2), (0, .ref (a 0)), (1, .int p1), (2, .int p2)]) C dX6_playsOf_21 (by decide) rfl ?_
    refine v_aload_n C 2 dX6_playsOf_23 rfl rfl ?_
    refine fX6_6_g_rows C dX6_playsOf_24 ?_
    refine v_iconst C dX6_playsOf_27 (v := (4 : Int32)) (by decide) ?_
    refine v_iload_n C 3 dX6_playsOf_28 rfl rfl ?_
    refine v_imul C dX6_playsOf_29 ?_
    obtain ⟨hi5, h⟩ := h
    refine v_iald (k := 5) C (by decide) rfl hi5 dX6_playsOf_30 ?_
    refine v_nmi (fun x6 ex6 => ?_)
    replace h := h x6 ex6
    refine v_istore (lv' := [(5, .int x6), (4, .int r4), (3, .int x2), (0, .ref (a 0)), (1, .int p1), (2, .int p2)]) C dX6_playsOf_31 (by decide) rfl ?_
    refine v_iload_n C 2 dX6_playsOf_33 rfl rfl ?_
    refine v_iconst C dX6_playsOf_34 (v := (1 : Int32)) (by decide) ?_
    refine v_icmp_ne C dX6_playsOf_35 (tgt := 45) (by decide) (fun c => ?_) (fun c => ?_)
    · replace h := h.1 c
      refine v_iload_n C 2 dX6_playsOf_45 rfl rfl ?_
      refine v_iconst C dX6_playsOf_46 (v := (3 : Int32)) (by decide) ?_
      refine v_icmp_ne C dX6_playsOf_47 (tgt := 72) (by decide) (fun c => ?_) (fun c => ?_)
      · replace h := h.1 c
        refine v_iload_n C 2 dX6_playsOf_72 rfl rfl ?_
        refine v_iconst C dX6_playsOf_73 (v := (2 : Int32)) (by decide) ?_
        refine v_icmp_ne C dX6_playsOf_74 (tgt := 84) (by decide) (fun c => ?_) (fun c => ?_)
        · replace h := h.1 c
          refine v_iload_n C 2 dX6_playsOf_84 rfl rfl ?_
          refine v_iconst C dX6_playsOf_85 (v := (4 : Int32)) (by decide) ?_
          refine v_icmp_ne C dX6_playsOf_86 (tgt := 115) (by decide) (fun c => ?_) (fun c => ?_)
          · replace h := h.1 c
            refine v_iload C 1 dX6_playsOf_115 rfl ?_
            refine v_istore (lv' := [(6, .int r4), (5, .int x6), (4, .int r4), (3, .int x2), (0, .ref (a 0)), (1, .int p1), (2, .int p2)]) C dX6_playsOf_117 (by decide) rfl ?_
            refine v_iload C 0 dX6_playsOf_119 rfl ?_
            refine v_iconst C dX6_playsOf_121 (v := (0 : Int32)) (by decide) ?_
            refine v_sipush C dX6_playsOf_122 (v := (999 : Int32)) (by decide) ?_
            refine v_callSi (As := [.int r4, .int (0 : Int32), .int (999 : Int32)]) (rest := []) C (c6_within  h) eX6_243 (by omega) (by omega) rfl rfl (Nat.le_of_ble_eq_true rfl) dX6_playsOf_125 (fun r8 M7 h => ?_)
            exact hR _ _ _ _ h dX6_playsOf_128
          · replace h := h.2 c
            refine v_iload C 1 dX6_playsOf_89 rfl ?_
            refine v_iconst C dX6_playsOf_91 (v := (2 : Int32)) (by decide) ?_
            refine v_idiv C dX6_playsOf_92 (by decide) ?_
            refine v_aload_n C 3 dX6_playsOf_93 rfl rfl ?_
            refine fX6_6_g_roundNow C dX6_playsOf_94 ?_
            refine v_bipush C dX6_playsOf_97 (v := (10 : Int32)) (by decide) ?_
            refine v_irem C dX6_playsOf_99 (by decide) ?_
            refine v_iload C 0 dX6_playsOf_100 rfl ?_
            refine v_icmp_ne C dX6_playsOf_102 (tgt := 110) (by decide) (fun c => ?_) (fun c => ?_)
            · replace h := h.1 c
              refine v_iconst C dX6_playsOf_110 (v := (0 : Int32)) (by decide) ?_
              refine v_iadd C dX6_playsOf_111 ?_
              refine v_goto C dX6_playsOf_112 (tgt := 117) (by decide) ?_
              refine v_nmi (fun x9 ex9 => ?_)
              replace h := h x9 ex9
              refine v_istore (lv' := [(6, .int x9), (5, .int x6), (4, .int r4), (3, .int x2), (0, .ref (a 0)), (1, .int p1), (2, .int p2)]) C dX6_playsOf_117 (by decide) rfl ?_
              refine v_iload C 0 dX6_playsOf_119 rfl ?_
              refine v_iconst C dX6_playsOf_121 (v := (0 : Int32)) (by decide) ?_
              refine v_sipush C dX6_playsOf_122 (v := (999 : Int32)) (by decide) ?_
              refine v_callSi (As := [.int x9, .int (0 : Int32), .int (999 : Int32)]) (rest := []) C (c6_within  h) eX6_243 (by omega) (by omega) rfl rfl (Nat.le_of_ble_eq_true rfl) dX6_playsOf_125 (fun r11 M10 h => ?_)
              exact hR _ _ _ _ h dX6_playsOf_128
            · replace h := h.2 c
              refine v_bipush C dX6_playsOf_105 (v := (50 : Int32)) (by decide) ?_
              refine v_goto C dX6_playsOf_107 (tgt := 111) (by decide) ?_
              refine v_iadd C dX6_playsOf_111 ?_
              refine v_goto C dX6_playsOf_112 (tgt := 117) (by decide) ?_
              refine v_nmi (fun x12 ex12 => ?_)
              replace h := h x12 ex12
              refine v_istore (lv' := [(6, .int x12), (5, .int x6), (4, .int r4), (3, .int x2), (0, .ref (a 0)), (1, .int p1), (2, .int p2)]) C dX6_playsOf_117 (by decide) rfl ?_
              refine v_iload C 0 dX6_playsOf_119 rfl ?_
              refine v_iconst C dX6_playsOf_121 (v := (0 : Int32)) (by decide) ?_
              refine v_sipush C dX6_playsOf_122 (v := (999 : Int32)) (by decide) ?_
              refine v_callSi (As := [.int x12, .int (0 : Int32), .int (999 : Int32)]) (rest := []) C (c6_within  h) eX6_243 (by omega) (by omega) rfl rfl (Nat.le_of_ble_eq_true rfl) dX6_playsOf_125 (fun r14 M13 h => ?_)
              exact hR _ _ _ _ h dX6_playsOf_128
        · replace h := h.2 c
          refine v_iload C 1 dX6_playsOf_77 rfl ?_
          refine v_iconst C dX6_playsOf_79 (v := (2 : Int32)) (by decide) ?_
          refine v_idiv C dX6_playsOf_80 (by decide) ?_
          refine v_goto C dX6_playsOf_81 (tgt := 117) (by decide) ?_
          refine v_nmi (fun x15 ex15 => ?_)
          replace h := h x15 ex15
          refine v_istore (lv' := [(6, .int x15), (5, .int x6), (4, .int r4), (3, .int x2), (0, .ref (a 0)), (1, .int p1), (2, .int p2)]) C dX6_playsOf_117 (by decide) rfl ?_
          refine v_iload C 0 dX6_playsOf_119 rfl ?_
          refine v_iconst C dX6_playsOf_121 (v := (0 : Int32)) (by decide) ?_
          refine v_sipush C dX6_playsOf_122 (v := (999 : Int32)) (by decide) ?_
          refine v_callSi (As := [.int x15, .int (0 : Int32), .int (999 : Int32)]) (rest := []) C (c6_within  h) eX6_243 (by omega) (by omega) rfl rfl (Nat.le_of_ble_eq_true rfl) dX6_playsOf_125 (fun r17 M16 h => ?_)
          exact hR _ _ _ _ h dX6_playsOf_128
      · replace h := h.2 c
        refine v_iconst C dX6_playsOf_50 (v := (2 : Int32)) (by decide) ?_
        refine v_iload C 1 dX6_playsOf_51 rfl ?_
        refine v_imul C dX6_playsOf_53 ?_
        refine v_aload_n C 3 dX6_playsOf_54 rfl rfl ?_
        refine v_iload_n C 4 dX6_playsOf_55 rfl rfl ?_
        refine v_callVi (k := 0) (As := [.int p1]) (rest := [.int ((2 : Int32) * r4)]) C (c6_has  h) eX6_112 (by omega) (by omega) (by decide) rfl rfl rfl rfl (Nat.le_of_ble_eq_true rfl) dX6_playsOf_56 (fun r19 M18 h => ?_)
        refine v_if_ne C dX6_playsOf_59 (tgt := 67) (by decide) (fun c => ?_) (fun c => ?_)
        · replace h := h.1 c
          refine v_iconst C dX6_playsOf_67 (v := (0 : Int32)) (by decide) ?_
          refine v_iadd C dX6_playsOf_68 ?_
          refine v_goto C dX6_playsOf_69 (tgt := 117) (by decide) ?_
          refine v_nmi (fun x20 ex20 => ?_)
          replace h := h x20 ex20
          refine v_istore (lv' := [(6, .int x20), (5, .int x6), (4, .int r4), (3, .int x2), (0, .ref (a 0)), (1, .int p1), (2, .int p2)]) C dX6_playsOf_117 (by decide) rfl ?_
          refine v_iload C 0 dX6_playsOf_119 rfl ?_
          refine v_iconst C dX6_playsOf_121 (v := (0 : Int32)) (by decide) ?_
          refine v_sipush C dX6_playsOf_122 (v := (999 : Int32)) (by decide) ?_
          refine v_callSi (As := [.int x20, .int (0 : Int32), .int (999 : Int32)]) (rest := []) C (c6_within  h) eX6_243 (by omega) (by omega) rfl rfl (Nat.le_of_ble_eq_true rfl) dX6_playsOf_125 (fun r22 M21 h => ?_)
          exact hR _ _ _ _ h dX6_playsOf_128
        · replace h := h.2 c
          refine v_iload C 0 dX6_playsOf_62 rfl ?_
          refine v_goto C dX6_playsOf_64 (tgt := 68) (by decide) ?_
          refine v_iadd C dX6_playsOf_68 ?_
          refine v_goto C dX6_playsOf_69 (tgt := 117) (by decide) ?_
          refine v_nmi (fun x23 ex23 => ?_)
          replace h := h x23 ex23
          refine v_istore (lv' := [(6, .int x23), (5, .int x6), (4, .int r4), (3, .int x2), (0, .ref (a 0)), (1, .int p1), (2, .int p2)]) C dX6_playsOf_117 (by decide) rfl ?_
          refine v_iload C 0 dX6_playsOf_119 rfl ?_
          refine v_iconst C dX6_playsOf_121 (v := (0 : Int32)) (by decide) ?_
          refine v_sipush C dX6_playsOf_122 (v := (999 : Int32)) (by decide) ?_
          refine v_callSi (As := [.int x23, .int (0 : Int32), .int (999 : Int32)]) (rest := []) C (c6_within  h) eX6_243 (by omega) (by omega) rfl rfl (Nat.le_of_ble_eq_true rfl) dX6_playsOf_125 (fun r25 M24 h => ?_)
          exact hR _ _ _ _ h dX6_playsOf_128
    · replace h := h.2 c
      refine v_iconst C dX6_playsOf_38 (v := (2 : Int32)) (by decide) ?_
      refine v_iload C 1 dX6_playsOf_39 rfl ?_
      refine v_imul C dX6_playsOf_41 ?_
      refine v_goto C dX6_playsOf_42 (tgt := 117) (by decide) ?_
      refine v_nmi (fun x26 ex26 => ?_)
      replace h := h x26 ex26
      refine v_istore (lv' := [(6, .int x26), (5, .int x6), (4, .int r4), (3, .int x2), (0, .ref (a 0)), (1, .int p1), (2, .int p2)]) C dX6_playsOf_117 (by decide) rfl ?_
      refine v_iload C 0 dX6_playsOf_119 rfl ?_
      refine v_iconst C dX6_playsOf_121 (v := (0 : Int32)) (by decide) ?_
      refine v_sipush C dX6_playsOf_122 (v := (999 : Int32)) (by decide) ?_
      refine v_callSi (As := [.int x26, .int (0 : Int32), .int (999 : Int32)]) (rest := []) C (c6_within  h) eX6_243 (by omega) (by omega) rfl rfl (Nat.le_of_ble_eq_true rfl) dX6_playsOf_125 (fun r28 M27 h => ?_)
      exact hR _ _ _ _ h dX6_playsOf_128
  · replace h := h.2 c
    refine v_iconst C dX6_playsOf_12 (v := (0 : Int32)) (by decide) ?_
    exact hR _ _ _ _ h dX6_playsOf_13
def w6_powerOf (M : S0) (p1 : Int32) (p2 : Int32) (Q : Int32 → S0 → Prop) : Prop :=
    w6_throwsIt M p1 p2 (fun r2 M1 => ((r2 = 0) → (w6_playsOf M1 p1 p2 (fun r4 M3 => Q r4 M3))) ∧ ((¬ r2 = 0) → (Q (-1 : Int32) M1)))
set_option maxHeartbeats 4000000 in
set_option maxRecDepth 20000 in
theorem c6_powerOf {B : BX} {a : Nat → Nat} {M : S0} {p1 : Int32} {p2 : Int32} {Q : Int32 → S0 → Prop} (h : w6_powerOf  M p1 p2 Q) : KI B (wl 12 a (shM B.2.1 a)) yX6_powerOf cX6_powerOf 3 (some .int) 69 1590 [.ref (a 0), .int p1, .int p2] M Q := by
  rw [w6_powerOf] at h
  refine KI_of (by decide +kernel) (Nat.le_of_ble_eq_true rfl) (fun E C hR => ?_)
  change V B E 3 (wl 12 a (shM B.2.1 a) M) 0 [(0, .ref (a 0)), (1, .int p1), (2, .int p2)] []
  change Ok B E cX6_powerOf 3 RX6 69 1590 at C
  refine v_aload_n C 0 dX6_powerOf_0 rfl rfl ?_
  refine v_iload_n C 1 dX6_powerOf_1 rfl rfl ?_
  refine v_iload_n C 2 dX6_powerOf_2 rfl rfl ?_
  refine v_callVi (k := 0) (As := [.int p1, .int p2]) (rest := []) C (c6_throwsIt  h) eX6_250 (by omega) (by omega) (by decide) rfl rfl rfl rfl (Nat.le_of_ble_eq_true rfl) dX6_powerOf_3 (fun r2 M1 h => ?_)
  refine v_if_eq C dX6_powerOf_6 (tgt := 13) (by decide) (fun c => ?_) (fun c => ?_)
  · replace h := h.1 c
    refine v_aload_n C 0 dX6_powerOf_13 rfl rfl ?_
    refine v_iload_n C 1 dX6_powerOf_14 rfl rfl ?_
    refine v_iload_n C 2 dX6_powerOf_15 rfl rfl ?_
    refine v_callVi (k := 0) (As := [.int p1, .int p2]) (rest := []) C (c6_playsOf  h) eX6_253 (by omega) (by omega) (by decide) rfl rfl rfl rfl (Nat.le_of_ble_eq_true rfl) dX6_powerOf_16 (fun r4 M3 h => ?_)
    exact hR _ _ _ _ h dX6_powerOf_19
  · replace h := h.2 c
    refine v_iconst C dX6_powerOf_9 (v := (-1 : Int32)) (by decide) ?_
    refine v_goto C dX6_powerOf_10 (tgt := 19) (by decide) ?_
    exact hR _ _ _ _ h dX6_powerOf_19
def w6_tiresOf (M : S0) (p1 : Int32) (p2 : Int32) (p3 : Int32) (Q : Int32 → S0 → Prop) : Prop :=
    (vp_in p1 6) ∧ (∀ x2 : Int32, x2 = (M 4 (Int32.toNatClampNeg p1)) → (((¬ x2 = (5 : Int32)) → (w6_says M (2 : Int32) p1 p2 (fun r4 M3 => ((p3 = 0) → (((¬ x2 = (1 : Int32)) → (((¬ x2 = (3 : Int32)) → (((¬ x2 = (2 : Int32)) → (((¬ x2 = (4 : Int32)) → (w6_within M3 r4 (-99 : Int32) (99 : Int32) (fun r6 M5 => Q r6 M5))) ∧ ((x2 = (4 : Int32)) → (w6_within M3 ((-r4) - (3 : Int32)) (-99 : Int32) (99 : Int32) (fun r8 M7 => Q r8 M7))))) ∧ ((x2 = (2 : Int32)) → (w6_within M3 (-r4) (-99 : Int32) (99 : Int32) (fun r10 M9 => Q r10 M9))))) ∧ ((x2 = (3 : Int32)) → (w6_within M3 (r4 + (1 : Int32)) (-99 : Int32) (99 : Int32) (fun r12 M11 => Q r12 M11))))) ∧ ((x2 = (1 : Int32)) → (w6_within M3 r4 (-99 : Int32) (99 : Int32) (fun r14 M13 => Q r14 M13))))) ∧ ((¬ p3 = 0) → (((¬ x2 = (1 : Int32)) → (((¬ x2 = (3 : Int32)) → (((¬ x2 = (2 : Int32)) → (((¬ x2 = (4 : Int32)) → (w6_within M3 r4 (-99 : Int32) (99 : Int32) (fun r16 M15 => Q r16 M15))) ∧ ((x2 = (4 : Int32)) → (w6_within M3 ((-r4) - (3 : Int32)) (-99 : Int32) (99 : Int32) (fun r18 M17 => Q r18 M17))))) ∧ ((x2 = (2 : Int32)) → (w6_within M3 (-r4) (-99 : Int32) (99 : Int32) (fun r20 M19 => Q r20 M19))))) ∧ ((x2 = (3 : Int32)) → (w6_within M3 ((0 : Int32) + (1 : Int32)) (-99 : Int32) (99 : Int32) (fun r22 M21 => Q r22 M21))))) ∧ ((x2 = (1 : Int32)) → (w6_within M3 (0 : Int32) (-99 : Int32) (99 : Int32) (fun r24 M23 => Q r24 M23)))))))) ∧ ((x2 = (5 : Int32)) → (Q (0 : Int32) M))))
set_option maxHeartbeats 4000000 in
set_option maxRecDepth 20000 in
theorem c6_tiresOf {B : BX} {a : Nat → Nat} {M : S0} {p1 : Int32} {p2 : Int32} {p3 : Int32} {Q : Int32 → S0 → Prop} (h : w6_tiresOf  M p1 p2 p3 Q) : KI B (wl 12 a (shM B.2.1 a)) yX6_tiresOf cX6_tiresOf 7 (some .int) 68 1564 [.ref (a 0), .int p1, .int p2, .int p3] M Q := by
  rw [w6_tiresOf] at h
  refine KI_of (by decide +kernel) (Nat.le_of_ble_eq_true rfl) (fun E C hR => ?_)
  change V B E 7 (wl 12 a (shM B.2.1 a) M) 0 [(0, .ref (a 0)), (1, .int p1), (2, .int p2), (3, .int p3)] []
  change Ok B E cX6_tiresOf 7 RX6 68 1564 at C
  refine v_aload_n C 0 dX6_tiresOf_0 rfl rfl ?_
  refine fX6_6_g_kinds C dX6_tiresOf_1 ?_
  refine v_iload_n C 1 dX6_tiresOf_4 rfl rfl ?_
  obtain ⟨hi1, h⟩ := h
  refine v_iald (k := 4) C (by decide) rfl hi1 dX6_tiresOf_5 ?_
  refine v_nmi (fun x2 ex2 => ?_)
  replace h := h x2 ex2
  refine v_istore (lv' := [(4, .int x2), (0, .ref (a 0)), (1, .int p1), (2, .int p2), (3, .int p3)]) C dX6_tiresOf_6 (by decide) rfl ?_
  refine v_iload C 0 dX6_tiresOf_8 rfl ?_
  refine v_iconst C dX6_tiresOf_10 (v := (5 : Int32)) (by decide) ?_
  refine v_icmp_ne C dX6_tiresOf_11 (tgt := 16) (by decide) (fun c => ?_) (fun c => ?_)
  · replace h := h.1 c
    refine v_aload_n C 1 dX6_tiresOf_16 rfl rfl ?_
    refine v_iconst C dX6_tiresOf_17 (v := (2 : Int32)) (by decide) ?_
    refine v_iload_n C 2 dX6_tiresOf_18 rfl rfl ?_
    refine v_iload_n C 3 dX6_tiresOf_19 rfl rfl ?_
    refine v_callVi (k := 0) (As := [.int (2 : Int32), .int p1, .int p2]) (rest := []) C (c6_says  h) eX6_247 (by omega) (by omega) (by decide) rfl rfl rfl rfl (Nat.le_of_ble_eq_true rfl) dX6_tiresOf_20 (fun r4 M3 h => ?_)
    refine v_istore (lv' := [(5, .int r4), (4, .int x2), (0, .ref (a 0)), (1, .int p1), (2, .int p2), (3, .int p3)]) C dX6_tiresOf_23 (by decide) rfl ?_
    refine v_iload_n C 5 dX6_tiresOf_25 rfl rfl ?_
    refine v_if_eq C dX6_tiresOf_26 (tgt := 33) (by decide) (fun c => ?_) (fun c => ?_)
    · replace h := h.1 c
      refine v_iload C 0 dX6_tiresOf_33 rfl ?_
      refine v_istore (lv' := [(6, .int r4), (5, .int r4), (4, .int x2), (0, .ref (a 0)), (1, .int p1), (2, .int p2), (3, .int p3)]) C dX6_tiresOf_35 (by decide) rfl ?_
      refine v_iload C 2 dX6_tiresOf_37 rfl ?_
      refine v_iconst C dX6_tiresOf_39 (v := (1 : Int32)) (by decide) ?_
      refine v_icmp_ne C dX6_tiresOf_40 (tgt := 48) (by decide) (fun c => ?_) (fun c => ?_)
      · replace h := h.1 c
        refine v_iload C 2 dX6_tiresOf_48 rfl ?_
        refine v_iconst C dX6_tiresOf_50 (v := (3 : Int32)) (by decide) ?_
        refine v_icmp_ne C dX6_tiresOf_51 (tgt := 61) (by decide) (fun c => ?_) (fun c => ?_)
        · replace h := h.1 c
          refine v_iload C 2 dX6_tiresOf_61 rfl ?_
          refine v_iconst C dX6_tiresOf_63 (v := (2 : Int32)) (by decide) ?_
          refine v_icmp_ne C dX6_tiresOf_64 (tgt := 73) (by decide) (fun c => ?_) (fun c => ?_)
          · replace h := h.1 c
            refine v_iload C 2 dX6_tiresOf_73 rfl ?_
            refine v_iconst C dX6_tiresOf_75 (v := (4 : Int32)) (by decide) ?_
            refine v_icmp_ne C dX6_tiresOf_76 (tgt := 87) (by decide) (fun c => ?_) (fun c => ?_)
            · replace h := h.1 c
              refine v_iload C 1 dX6_tiresOf_87 rfl ?_
              refine v_bipush C dX6_tiresOf_89 (v := (-99 : Int32)) (by decide) ?_
              refine v_bipush C dX6_tiresOf_91 (v := (99 : Int32)) (by decide) ?_
              refine v_callSi (As := [.int r4, .int (-99 : Int32), .int (99 : Int32)]) (rest := []) C (c6_within  h) eX6_243 (by omega) (by omega) rfl rfl (Nat.le_of_ble_eq_true rfl) dX6_tiresOf_93 (fun r6 M5 h => ?_)
              exact hR _ _ _ _ h dX6_tiresOf_96
            · replace h := h.2 c
              refine v_iload C 1 dX6_tiresOf_79 rfl ?_
              refine v_ineg C dX6_tiresOf_81 ?_
              refine v_iconst C dX6_tiresOf_82 (v := (3 : Int32)) (by decide) ?_
              refine v_isub C dX6_tiresOf_83 ?_
              refine v_goto C dX6_tiresOf_84 (tgt := 89) (by decide) ?_
              refine v_bipush C dX6_tiresOf_89 (v := (-99 : Int32)) (by decide) ?_
              refine v_bipush C dX6_tiresOf_91 (v := (99 : Int32)) (by decide) ?_
              refine v_callSi (As := [.int ((-r4) - (3 : Int32)), .int (-99 : Int32), .int (99 : Int32)]) (rest := []) C (c6_within  h) eX6_243 (by omega) (by omega) rfl rfl (Nat.le_of_ble_eq_true rfl) dX6_tiresOf_93 (fun r8 M7 h => ?_)
              exact hR _ _ _ _ h dX6_tiresOf_96
          · replace h := h.2 c
            refine v_iload C 1 dX6_tiresOf_67 rfl ?_
            refine v_ineg C dX6_tiresOf_69 ?_
            refine v_goto C dX6_tiresOf_70 (tgt := 89) (by decide) ?_
            refine v_bipush C dX6_tiresOf_89 (v := (-99 : Int32)) (by decide) ?_
            refine v_bipush C dX6_tiresOf_91 (v := (99 : Int32)) (by decide) ?_
            refine v_callSi (As := [.int (-r4), .int (-99 : Int32), .int (99 : Int32)]) (rest := []) C (c6_within  h) eX6_243 (by omega) (by omega) rfl rfl (Nat.le_of_ble_eq_true rfl) dX6_tiresOf_93 (fun r10 M9 h => ?_)
            exact hR _ _ _ _ h dX6_tiresOf_96
        · replace h := h.2 c
          refine v_iload C 0 dX6_tiresOf_54 rfl ?_
          refine v_iconst C dX6_tiresOf_56 (v := (1 : Int32)) (by decide) ?_
          refine v_iadd C dX6_tiresOf_57 ?_
          refine v_goto C dX6_tiresOf_58 (tgt := 89) (by decide) ?_
          refine v_bipush C dX6_tiresOf_89 (v := (-99 : Int32)) (by decide) ?_
          refine v_bipush C dX6_tiresOf_91 (v := (99 : Int32)) (by decide) ?_
          refine v_callSi (As := [.int (r4 + (1 : Int32)), .int (-99 : Int32), .int (99 : Int32)]) (rest := []) C (c6_within  h) eX6_243 (by omega) (by omega) rfl rfl (Nat.le_of_ble_eq_true rfl) dX6_tiresOf_93 (fun r12 M11 h => ?_)
          exact hR _ _ _ _ h dX6_tiresOf_96
      · replace h := h.2 c
        refine v_iload C 0 dX6_tiresOf_43 rfl ?_
        refine v_goto C dX6_tiresOf_45 (tgt := 89) (by decide) ?_
        refine v_bipush C dX6_tiresOf_89 (v := (-99 : Int32)) (by decide) ?_
        refine v_bipush C dX6_tiresOf_91 (v := (99 : Int32)) (by decide) ?_
        refine v_callSi (As := [.int r4, .int (-99 : Int32), .int (99 : Int32)]) (rest := []) C (c6_within  h) eX6_243 (by omega) (by omega) rfl rfl (Nat.le_of_ble_eq_true rfl) dX6_tiresOf_93 (fun r14 M13 h => ?_)
        exact hR _ _ _ _ h dX6_tiresOf_96
    · replace h := h.2 c
      refine v_iconst C dX6_tiresOf_29 (v := (0 : Int32)) (by decide) ?_
      refine v_goto C dX6_tiresOf_30 (tgt := 35) (by decide) ?_
      refine v_istore (lv' := [(6, .int (0 : Int32)), (5, .int r4), (4, .int x2), (0, .ref (a 0)), (1, .int p1), (2, .int p2), (3, .int p3)]) C dX6_tiresOf_35 (by decide) rfl ?_
      refine v_iload C 2 dX6_tiresOf_37 rfl ?_
      refine v_iconst C dX6_tiresOf_39 (v := (1 : Int32)) (by decide) ?_
      refine v_icmp_ne C dX6_tiresOf_40 (tgt := 48) (by decide) (fun c => ?_) (fun c => ?_)
      · replace h := h.1 c
        refine v_iload C 2 dX6_tiresOf_48 rfl ?_
        refine v_iconst C dX6_tiresOf_50 (v := (3 : Int32)) (by decide) ?_
        refine v_icmp_ne C dX6_tiresOf_51 (tgt := 61) (by decide) (fun c => ?_) (fun c => ?_)
        · replace h := h.1 c
          refine v_iload C 2 dX6_tiresOf_61 rfl ?_
          refine v_iconst C dX6_tiresOf_63 (v := (2 : Int32)) (by decide) ?_
          refine v_icmp_ne C dX6_tiresOf_64 (tgt := 73) (by decide) (fun c => ?_) (fun c => ?_)
          · replace h := h.1 c
            refine v_iload C 2 dX6_tiresOf_73 rfl ?_
            refine v_iconst C dX6_tiresOf_75 (v := (4 : Int32)) (by decide) ?_
            refine v_icmp_ne C dX6_tiresOf_76 (tgt := 87) (by decide) (fun c => ?_) (fun c => ?_)
            · replace h := h.1 c
              refine v_iload C 1 dX6_tiresOf_87 rfl ?_
              refine v_bipush C dX6_tiresOf_89 (v := (-99 : Int32)) (by decide) ?_
              refine v_bipush C dX6_tiresOf_91 (v := (99 : Int32)) (by decide) ?_
              refine v_callSi (As := [.int r4, .int (-99 : Int32), .int (99 : Int32)]) (rest := []) C (c6_within  h) eX6_243 (by omega) (by omega) rfl rfl (Nat.le_of_ble_eq_true rfl) dX6_tiresOf_93 (fun r16 M15 h => ?_)
              exact hR _ _ _ _ h dX6_tiresOf_96
            · replace h := h.2 c
              refine v_iload C 1 dX6_tiresOf_79 rfl ?_
              refine v_ineg C dX6_tiresOf_81 ?_
              refine v_iconst C dX6_tiresOf_82 (v := (3 : Int32)) (by decide) ?_
              refine v_isub C dX6_tiresOf_83 ?_
              refine v_goto C dX6_tiresOf_84 (tgt := 89) (by decide) ?_
              refine v_bipush C dX6_tiresOf_89 (v := (-99 : Int32)) (by decide) ?_
              refine v_bipush C dX6_tiresOf_91 (v := (99 : Int32)) (by decide) ?_
              refine v_callSi (As := [.int ((-r4) - (3 : Int32)), .int (-99 : Int32), .int (99 : Int32)]) (rest := []) C (c6_within  h) eX6_243 (by omega) (by omega) rfl rfl (Nat.le_of_ble_eq_true rfl) dX6_tiresOf_93 (fun r18 M17 h => ?_)
              exact hR _ _ _ _ h dX6_tiresOf_96
          · replace h := h.2 c
            refine v_iload C 1 dX6_tiresOf_67 rfl ?_
            refine v_ineg C dX6_tiresOf_69 ?_
            refine v_goto C dX6_tiresOf_70 (tgt := 89) (by decide) ?_
            refine v_bipush C dX6_tiresOf_89 (v := (-99 : Int32)) (by decide) ?_
            refine v_bipush C dX6_tiresOf_91 (v := (99 : Int32)) (by decide) ?_
            refine v_callSi (As := [.int (-r4), .int (-99 : Int32), .int (99 : Int32)]) (rest := []) C (c6_within  h) eX6_243 (by omega) (by omega) rfl rfl (Nat.le_of_ble_eq_true rfl) dX6_tiresOf_93 (fun r20 M19 h => ?_)
            exact hR _ _ _ _ h dX6_tiresOf_96
        · replace h := h.2 c
          refine v_iload C 0 dX6_tiresOf_54 rfl ?_
          refine v_iconst C dX6_tiresOf_56 (v := (1 : Int32)) (by decide) ?_
          refine v_iadd C dX6_tiresOf_57 ?_
          refine v_goto C dX6_tiresOf_58 (tgt := 89) (by decide) ?_
          refine v_bipush C dX6_tiresOf_89 (v := (-99 : Int32)) (by decide) ?_
          refine v_bipush C dX6_tiresOf_91 (v := (99 : Int32)) (by decide) ?_
          refine v_callSi (As := [.int ((0 : Int32) + (1 : Int32)), .int (-99 : Int32), .int (99 : Int32)]) (rest := []) C (c6_within  h) eX6_243 (by omega) (by omega) rfl rfl (Nat.le_of_ble_eq_true rfl) dX6_tiresOf_93 (fun r22 M21 h => ?_)
          exact hR _ _ _ _ h dX6_tiresOf_96
      · replace h := h.2 c
        refine v_iload C 0 dX6_tiresOf_43 rfl ?_
        refine v_goto C dX6_tiresOf_45 (tgt := 89) (by decide) ?_
        refine v_bipush C dX6_tiresOf_89 (v := (-99 : Int32)) (by decide) ?_
        refine v_bipush C dX6_tiresOf_91 (v := (99 : Int32)) (by decide) ?_
        refine v_callSi (As := [.int (0 : Int32), .int (-99 : Int32), .int (99 : Int32)]) (rest := []) C (c6_within  h) eX6_243 (by omega) (by omega) rfl rfl (Nat.le_of_ble_eq_true rfl) dX6_tiresOf_93 (fun r24 M23 h => ?_)
        exact hR _ _ _ _ h dX6_tiresOf_96
  · replace h := h.2 c
    refine v_iconst C dX6_tiresOf_14 (v := (0 : Int32)) (by decide) ?_
    exact hR _ _ _ _ h dX6_tiresOf_15
def w6_winnerOf (M : S0) (p1 : Int32) (p2 : Int32) (Q : Int32 → S0 → Prop) : Prop :=
    w6_powerOf M p1 p2 (fun r2 M1 => w6_powerOf M1 p2 p1 (fun r4 M3 => ((r2 ≤ r4) → (((r4 ≤ r2) → (Q (-1 : Int32) M3)) ∧ ((¬ r4 ≤ r2) → (Q p2 M3)))) ∧ ((¬ r2 ≤ r4) → (Q p1 M3))))
set_option maxHeartbeats 4000000 in
set_option maxRecDepth 20000 in
theorem c6_winnerOf {B : BX} {a : Nat → Nat} {M : S0} {p1 : Int32} {p2 : Int32} {Q : Int32 → S0 → Prop} (h : w6_winnerOf  M p1 p2 Q) : KI B (wl 12 a (shM B.2.1 a)) yX6_winnerOf cX6_winnerOf 5 (some .int) 70 1612 [.ref (a 0), .int p1, .int p2] M Q := by
  rw [w6_winnerOf] at h
  refine KI_of (by decide +kernel) (Nat.le_of_ble_eq_true rfl) (fun E C hR => ?_)
  change V B E 5 (wl 12 a (shM B.2.1 a) M) 0 [(0, .ref (a 0)), (1, .int p1), (2, .int p2)] []
  change Ok B E cX6_winnerOf 5 RX6 70 1612 at C
  refine v_aload_n C 0 dX6_winnerOf_0 rfl rfl ?_
  refine v_iload_n C 1 dX6_winnerOf_1 rfl rfl ?_
  refine v_iload_n C 2 dX6_winnerOf_2 rfl rfl ?_
  refine v_callVi (k := 0) (As := [.int p1, .int p2]) (rest := []) C (c6_powerOf  h) eX6_256 (by omega) (by omega) (by decide) rfl rfl rfl rfl (Nat.le_of_ble_eq_true rfl) dX6_winnerOf_3 (fun r2 M1 h => ?_)
  refine v_istore_n (lv' := [(3, .int r2), (0, .ref (a 0)), (1, .int p1), (2, .int p2)]) C dX6_winnerOf_6 rfl (by decide) rfl ?_
  refine v_aload_n C 1 dX6_winnerOf_7 rfl rfl ?_
  refine v_iload_n C 3 dX6_winnerOf_8 rfl rfl ?_
  refine v_iload_n C 2 dX6_winnerOf_9 rfl rfl ?_
  refine v_callVi (k := 0) (As := [.int p2, .int p1]) (rest := []) C (c6_powerOf  h) eX6_256 (by omega) (by omega) (by decide) rfl rfl rfl rfl (Nat.le_of_ble_eq_true rfl) dX6_winnerOf_10 (fun r4 M3 h => ?_)
  refine v_istore (lv' := [(4, .int r4), (3, .int r2), (0, .ref (a 0)), (1, .int p1), (2, .int p2)]) C dX6_winnerOf_13 (by decide) rfl ?_
  refine v_iload_n C 1 dX6_winnerOf_15 rfl rfl ?_
  refine v_iload C 0 dX6_winnerOf_16 rfl ?_
  refine v_icmp_le C dX6_winnerOf_18 (tgt := 25) (by decide) (fun c => ?_) (fun c => ?_)
  · replace h := h.1 c
    refine v_iload C 0 dX6_winnerOf_25 rfl ?_
    refine v_iload_n C 1 dX6_winnerOf_27 rfl rfl ?_
    refine v_icmp_le C dX6_winnerOf_28 (tgt := 35) (by decide) (fun c => ?_) (fun c => ?_)
    · replace h := h.1 c
      refine v_iconst C dX6_winnerOf_35 (v := (-1 : Int32)) (by decide) ?_
      exact hR _ _ _ _ h dX6_winnerOf_36
    · replace h := h.2 c
      refine v_iload_n C 4 dX6_winnerOf_31 rfl rfl ?_
      refine v_goto C dX6_winnerOf_32 (tgt := 36) (by decide) ?_
      exact hR _ _ _ _ h dX6_winnerOf_36
  · replace h := h.2 c
    refine v_iload_n C 3 dX6_winnerOf_21 rfl rfl ?_
    refine v_goto C dX6_winnerOf_22 (tgt := 36) (by decide) ?_
    exact hR _ _ _ _ h dX6_winnerOf_36
def w6_games_b113 (Q : Int32 → S0 → Prop) (M : S0) (v1_113 : Int32) (v2_113 : Int32) (v3_113 : Int32) (v4_113 : Int32) (v5_113 : Int32) (v6_113 : Int32) (u0_113 : Int32) : Prop :=
    (vp_in (((4 : Int32) * u0_113) + (3 : Int32)) 24) ∧ (∀ M43 : S0, M43 = up M 5 (Int32.toNatClampNeg (((4 : Int32) * u0_113) + (3 : Int32))) v6_113 → ((vp_in (((4 : Int32) * v3_113) + (2 : Int32)) 24) ∧ (w6_within M43 ((M43 5 (Int32.toNatClampNeg (((4 : Int32) * v3_113) + (2 : Int32)))) + (1 : Int32)) (0 : Int32) (999 : Int32) (fun r46 M45 => (vp_in (((4 : Int32) * v3_113) + (2 : Int32)) 24) ∧ (∀ M48 : S0, M48 = up M45 5 (Int32.toNatClampNeg (((4 : Int32) * v3_113) + (2 : Int32))) r46 → ((vp_in (((4 : Int32) * v1_113) + (1 : Int32)) 24) ∧ (w6_within M48 ((M48 5 (Int32.toNatClampNeg (((4 : Int32) * v1_113) + (1 : Int32)))) - v4_113) (0 : Int32) (99 : Int32) (fun r51 M50 => (vp_in (((4 : Int32) * v1_113) + (1 : Int32)) 24) ∧ (∀ M53 : S0, M53 = up M50 5 (Int32.toNatClampNeg (((4 : Int32) * v1_113) + (1 : Int32))) r51 → ((vp_in (((4 : Int32) * v2_113) + (1 : Int32)) 24) ∧ (w6_within M53 ((M53 5 (Int32.toNatClampNeg (((4 : Int32) * v2_113) + (1 : Int32)))) - v5_113) (0 : Int32) (99 : Int32) (fun r56 M55 => (vp_in (((4 : Int32) * v2_113) + (1 : Int32)) 24) ∧ (∀ M58 : S0, M58 = up M55 5 (Int32.toNatClampNeg (((4 : Int32) * v2_113) + (1 : Int32))) r56 → (∀ M59 : S0, M59 = up M58 0 7 ((M58 0 7) + (1 : Int32)) → (Q v3_113 M59)))))))))))))))
set_option maxHeartbeats 4000000 in
set_option maxRecDepth 20000 in
theorem t6_games_b113 {B : BX} {E : EX} {a : Nat → Nat} {Q : Int32 → S0 → Prop} (C : Ok B E cX6_games 8 RX6 71 1636) (hR : RetI B E cX6_games 8 (wl 12 a (shM B.2.1 a)) Q) : ∀ (M : S0) (v1_113 : Int32) (v2_113 : Int32) (v3_113 : Int32) (v4_113 : Int32) (v5_113 : Int32) (v6_113 : Int32) (u0_113 : Int32), w6_games_b113   Q M v1_113 v2_113 v3_113 v4_113 v5_113 v6_113 u0_113 → V B E 8 (wl 12 a (shM B.2.1 a) M) 113 [(0, .ref (a 0)), (1, .int v1_113), (2, .int v2_113), (3, .int v3_113), (4, .int v4_113), (5, .int v5_113), (6, .int v6_113)] [.int u0_113] := by
  intro M v1_113 v2_113 v3_113 v4_113 v5_113 v6_113 u0_113  h
  rw [w6_games_b113] at h
  refine v_istore (lv' := [(7, .int u0_113), (0, .ref (a 0)), (1, .int v1_113), (2, .int v2_113), (3, .int v3_113), (4, .int v4_113), (5, .int v5_113), (6, .int v6_113)]) C dX6_games_113 (by decide) rfl ?_
  refine v_aload_n C 1 dX6_games_115 rfl rfl ?_
  refine fX6_6_g_rows C dX6_games_116 ?_
  refine v_iconst C dX6_games_119 (v := (4 : Int32)) (by decide) ?_
  refine v_iload C 0 dX6_games_120 rfl ?_
  refine v_imul C dX6_games_122 ?_
  refine v_iconst C dX6_games_123 (v := (3 : Int32)) (by decide) ?_
  refine v_iadd C dX6_games_124 ?_
  refine v_iload C 7 dX6_games_125 rfl ?_
  obtain ⟨hi42, h⟩ := h
  refine v_iast (k := 5) C (by decide) (fun _ => rfl) hi42 dX6_games_127 ?_
  obtain ⟨M43, eM43⟩ : ∃ z : S0, z = up M 5 (Int32.toNatClampNeg (((4 : Int32) * u0_113) + (3 : Int32))) v6_113 := ⟨_, rfl⟩
  rw [← eM43]
  replace h := h M43 eM43
  refine v_aload_n C 1 dX6_games_128 rfl rfl ?_
  refine fX6_6_g_rows C dX6_games_129 ?_
  refine v_iconst C dX6_games_132 (v := (4 : Int32)) (by decide) ?_
  refine v_iload_n C 4 dX6_games_133 rfl rfl ?_
  refine v_imul C dX6_games_134 ?_
  refine v_iconst C dX6_games_135 (v := (2 : Int32)) (by decide) ?_
  refine v_iadd C dX6_games_136 ?_
  refine v_aload_n C 1 dX6_games_137 rfl rfl ?_
  refine fX6_6_g_rows C dX6_games_138 ?_
  refine v_iconst C dX6_games_141 (v := (4 : Int32)) (by decide) ?_
  refine v_iload_n C 4 dX6_games_142 rfl rfl ?_
  refine v_imul C dX6_games_143 ?_
  refine v_iconst C dX6_games_144 (v := (2 : Int32)) (by decide) ?_
  refine v_iadd C dX6_games_145 ?_
  obtain ⟨hi44, h⟩ := h
  refine v_iald (k := 5) C (by decide) rfl hi44 dX6_games_146 ?_
  refine v_iconst C dX6_games_147 (v := (1 : Int32)) (by decide) ?_
  refine v_iadd C dX6_games_148 ?_
  refine v_iconst C dX6_games_149 (v := (0 : Int32)) (by decide) ?_
  refine v_sipush C dX6_games_150 (v := (999 : Int32)) (by decide) ?_
  refine v_callSi (As := [.int ((M43 5 (Int32.toNatClampNeg (((4 : Int32) * v3_113) + (2 : Int32)))) + (1 : Int32)), .int (0 : Int32), .int (999 : Int32)]) (rest := [.int (((4 : Int32) * v3_113) + (2 : Int32)), .ref (a 5)]) C (c6_within  h) eX6_243 (by omega) (by omega) rfl rfl (Nat.le_of_ble_eq_true rfl) dX6_games_153 (fun r46 M45 h => ?_)
  obtain ⟨hi47, h⟩ := h
  refine v_iast (k := 5) C (by decide) (fun _ => rfl) hi47 dX6_games_156 ?_
  obtain ⟨M48, eM48⟩ : ∃ z : S0, z = up M45 5 (Int32.toNatClampNeg (((4 : Int32) * v3_113) + (2 : Int32))) r46 := ⟨_, rfl⟩
  rw [← eM48]
  replace h := h M48 eM48
  refine v_aload_n C 1 dX6_games_157 rfl rfl ?_
  refine fX6_6_g_rows C dX6_games_158 ?_
  refine v_iconst C dX6_games_161 (v := (4 : Int32)) (by decide) ?_
  refine v_iload_n C 2 dX6_games_162 rfl rfl ?_
  refine v_imul C dX6_games_163 ?_
  refine v_iconst C dX6_games_164 (v := (1 : Int32)) (by decide) ?_
  refine v_iadd C dX6_games_165 ?_
  refine v_aload_n C 1 dX6_games_166 rfl rfl ?_
  refine fX6_6_g_rows C dX6_games_167 ?_
  refine v_iconst C dX6_games_170 (v := (4 : Int32)) (by decide) ?_
  refine v_iload_n C 2 dX6_games_171 rfl rfl ?_
  refine v_imul C dX6_games_172 ?_
  refine v_iconst C dX6_games_173 (v := (1 : Int32)) (by decide) ?_
  refine v_iadd C dX6_games_174 ?_
  obtain ⟨hi49, h⟩ := h
  refine v_iald (k := 5) C (by decide) rfl hi49 dX6_games_175 ?_
  refine v_iload C 5 dX6_games_176 rfl ?_
  refine v_isub C dX6_games_178 ?_
  refine v_iconst C dX6_games_179 (v := (0 : Int32)) (by decide) ?_
  refine v_bipush C dX6_games_180 (v := (99 : Int32)) (by decide) ?_
  refine v_callSi (As := [.int ((M48 5 (Int32.toNatClampNeg (((4 : Int32) * v1_113) + (1 : Int32)))) - v4_113), .int (0 : Int32), .int (99 : Int32)]) (rest := [.int (((4 : Int32) * v1_113) + (1 : Int32)), .ref (a 5)]) C (c6_within  h) eX6_243 (by omega) (by omega) rfl rfl (Nat.le_of_ble_eq_true rfl) dX6_games_182 (fun r51 M50 h => ?_)
  obtain ⟨hi52, h⟩ := h
  refine v_iast (k := 5) C (by decide) (fun _ => rfl) hi52 dX6_games_185 ?_
  obtain ⟨M53, eM53⟩ : ∃ z : S0, z = up M50 5 (Int32.toNatClampNeg (((4 : Int32) * v1_113) + (1 : Int32))) r51 := ⟨_, rfl⟩
  rw [← eM53]
  replace h := h M53 eM53
  refine v_aload_n C 1 dX6_games_186 rfl rfl ?_
  refine fX6_6_g_rows C dX6_games_187 ?_
  refine v_iconst C dX6_games_190 (v := (4 : Int32)) (by decide) ?_
  refine v_iload_n C 3 dX6_games_191 rfl rfl ?_
  refine v_imul C dX6_games_192 ?_
  refine v_iconst C dX6_games_193 (v := (1 : Int32)) (by decide) ?_
  refine v_iadd C dX6_games_194 ?_
  refine v_aload_n C 1 dX6_games_195 rfl rfl ?_
  refine fX6_6_g_rows C dX6_games_196 ?_
  refine v_iconst C dX6_games_199 (v := (4 : Int32)) (by decide) ?_
  refine v_iload_n C 3 dX6_games_200 rfl rfl ?_
  refine v_imul C dX6_games_201 ?_
  refine v_iconst C dX6_games_202 (v := (1 : Int32)) (by decide) ?_
  refine v_iadd C dX6_games_203 ?_
  obtain ⟨hi54, h⟩ := h
  refine v_iald (k := 5) C (by decide) rfl hi54 dX6_games_204 ?_
  refine v_iload C 6 dX6_games_205 rfl ?_
  refine v_isub C dX6_games_207 ?_
  refine v_iconst C dX6_games_208 (v := (0 : Int32)) (by decide) ?_
  refine v_bipush C dX6_games_209 (v := (99 : Int32)) (by decide) ?_
  refine v_callSi (As := [.int ((M53 5 (Int32.toNatClampNeg (((4 : Int32) * v2_113) + (1 : Int32)))) - v5_113), .int (0 : Int32), .int (99 : Int32)]) (rest := [.int (((4 : Int32) * v2_113) + (1 : Int32)), .ref (a 5)]) C (c6_within  h) eX6_243 (by omega) (by omega) rfl rfl (Nat.le_of_ble_eq_true rfl) dX6_games_211 (fun r56 M55 h => ?_)
  obtain ⟨hi57, h⟩ := h
  refine v_iast (k := 5) C (by decide) (fun _ => rfl) hi57 dX6_games_214 ?_
  obtain ⟨M58, eM58⟩ : ∃ z : S0, z = up M55 5 (Int32.toNatClampNeg (((4 : Int32) * v2_113) + (1 : Int32))) r56 := ⟨_, rfl⟩
  rw [← eM58]
  replace h := h M58 eM58
  refine v_aload_n C 1 dX6_games_215 rfl rfl ?_
  refine v_dup C dX6_games_216 rfl ?_
  refine fX6_6_g_roundNow C dX6_games_217 ?_
  refine v_iconst C dX6_games_220 (v := (1 : Int32)) (by decide) ?_
  refine v_iadd C dX6_games_221 ?_
  refine fX6_6_p_roundNow C dX6_games_222 (fun M59 eM59 => ?_)
  replace h := h M59 eM59
  refine v_iload_n C 4 dX6_games_225 rfl rfl ?_
  exact hR _ _ _ _ h dX6_games_226
def w6_games_b38 (Q : Int32 → S0 → Prop) (M : S0) (v1_38 : Int32) (v2_38 : Int32) (v3_38 : Int32) (v4_38 : Int32) (u0_38 : Int32) (u1_38 : Int32) (u2_38 : Int32) : Prop :=
    w6_tiresOf M u2_38 u1_38 u0_38 (fun r8 M7 => w6_has M7 v1_38 (fun r10 M9 => w6_has M9 v2_38 (fun r12 M11 => ∀ x13 : Int32, x13 = ((r10 ||| r12) ||| (M11 0 8)) → ((vp_in (((4 : Int32) * v1_38) + (3 : Int32)) 24) ∧ (∀ M15 : S0, M15 = up M11 5 (Int32.toNatClampNeg (((4 : Int32) * v1_38) + (3 : Int32))) (0 : Int32) → ((vp_in (((4 : Int32) * v2_38) + (3 : Int32)) 24) ∧ (∀ M17 : S0, M17 = up M15 5 (Int32.toNatClampNeg (((4 : Int32) * v2_38) + (3 : Int32))) (0 : Int32) → (((¬ v3_38 = (-1 : Int32)) → (∀ M18 : S0, M18 = up M17 0 8 (0 : Int32) → (((v3_38 = (-1 : Int32)) → ((vp_in (((4 : Int32) * v1_38) + (1 : Int32)) 24) ∧ (w6_within M18 ((M18 5 (Int32.toNatClampNeg (((4 : Int32) * v1_38) + (1 : Int32)))) - v4_38) (0 : Int32) (99 : Int32) (fun r21 M20 => (vp_in (((4 : Int32) * v1_38) + (1 : Int32)) 24) ∧ (∀ M23 : S0, M23 = up M20 5 (Int32.toNatClampNeg (((4 : Int32) * v1_38) + (1 : Int32))) r21 → ((vp_in (((4 : Int32) * v2_38) + (1 : Int32)) 24) ∧ (w6_within M23 ((M23 5 (Int32.toNatClampNeg (((4 : Int32) * v2_38) + (1 : Int32)))) - r8) (0 : Int32) (99 : Int32) (fun r26 M25 => (vp_in (((4 : Int32) * v2_38) + (1 : Int32)) 24) ∧ (∀ M28 : S0, M28 = up M25 5 (Int32.toNatClampNeg (((4 : Int32) * v2_38) + (1 : Int32))) r26 → (∀ M29 : S0, M29 = up M28 0 7 ((M28 0 7) + (1 : Int32)) → (Q v3_38 M29))))))))))) ∧ ((¬ v3_38 = (-1 : Int32)) → (((¬ v3_38 = v1_38) → (w6_games_b113   Q M18 v1_38 v2_38 v3_38 v4_38 r8 x13 v1_38)) ∧ ((v3_38 = v1_38) → (w6_games_b113   Q M18 v1_38 v2_38 v3_38 v4_38 r8 x13 v2_38))))))) ∧ ((v3_38 = (-1 : Int32)) → (∀ M30 : S0, M30 = up M17 0 8 x13 → (((v3_38 = (-1 : Int32)) → ((vp_in (((4 : Int32) * v1_38) + (1 : Int32)) 24) ∧ (w6_within M30 ((M30 5 (Int32.toNatClampNeg (((4 : Int32) * v1_38) + (1 : Int32)))) - v4_38) (0 : Int32) (99 : Int32) (fun r33 M32 => (vp_in (((4 : Int32) * v1_38) + (1 : Int32)) 24) ∧ (∀ M35 : S0, M35 = up M32 5 (Int32.toNatClampNeg (((4 : Int32) * v1_38) + (1 : Int32))) r33 → ((vp_in (((4 : Int32) * v2_38) + (1 : Int32)) 24) ∧ (w6_within M35 ((M35 5 (Int32.toNatClampNeg (((4 : Int32) * v2_38) + (1 : Int32)))) - r8) (0 : Int32) (99 : Int32) (fun r38 M37 => (vp_in (((4 : Int32) * v2_38) + (1 : Int32)) 24) ∧ (∀ M40 : S0, M40 = up M37 5 (Int32.toNatClampNeg (((4 : Int32) * v2_38) + (1 : Int32))) r38 → (∀ M41 : S0, M41 = up M40 0 7 ((M40 0 7) + (1 : Int32)) → (Q v3_38 M41))))))))))) ∧ ((¬ v3_38 = (-1 : Int32)) → (((¬ v3_38 = v1_38) → (w6_games_b113   Q M30 v1_38 v2_38 v3_38 v4_38 r8 x13 v1_38)) ∧ ((v3_38 = v1_38) → (w6_games_b113   Q M30 v1_38 v2_38 v3_38 v4_38 r8 x13 v2_38)))))))))))))))
set_option maxHeartbeats 4000000 in
set_option maxRecDepth 20000 in
theorem t6_games_b38 {B : BX} {E : EX} {a : Nat → Nat} {Q : Int32 → S0 → Prop} (C : Ok B E cX6_games 8 RX6 71 1636) (hR : RetI B E cX6_games 8 (wl 12 a (shM B.2.1 a)) Q) : ∀ (M : S0) (v1_38 : Int32) (v2_38 : Int32) (v3_38 : Int32) (v4_38 : Int32) (u0_38 : Int32) (u1_38 : Int32) (u2_38 : Int32), w6_games_b38   Q M v1_38 v2_38 v3_38 v4_38 u0_38 u1_38 u2_38 → V B E 8 (wl 12 a (shM B.2.1 a) M) 38 [(0, .ref (a 0)), (1, .int v1_38), (2, .int v2_38), (3, .int v3_38), (4, .int v4_38)] [.int u0_38, .int u1_38, .int u2_38, .ref (a 0)] := by
  intro M v1_38 v2_38 v3_38 v4_38 u0_38 u1_38 u2_38  h
  rw [w6_games_b38] at h
  refine v_callVi (k := 0) (As := [.int u2_38, .int u1_38, .int u0_38]) (rest := []) C (c6_tiresOf  h) eX6_262 (by omega) (by omega) (by decide) rfl rfl rfl rfl (Nat.le_of_ble_eq_true rfl) dX6_games_38 (fun r8 M7 h => ?_)
  refine v_istore (lv' := [(5, .int r8), (0, .ref (a 0)), (1, .int v1_38), (2, .int v2_38), (3, .int v3_38), (4, .int v4_38)]) C dX6_games_41 (by decide) rfl ?_
  refine v_aload_n C 1 dX6_games_43 rfl rfl ?_
  refine v_iload_n C 2 dX6_games_44 rfl rfl ?_
  refine v_callVi (k := 0) (As := [.int v1_38]) (rest := []) C (c6_has  h) eX6_112 (by omega) (by omega) (by decide) rfl rfl rfl rfl (Nat.le_of_ble_eq_true rfl) dX6_games_45 (fun r10 M9 h => ?_)
  refine v_aload_n C 1 dX6_games_48 rfl rfl ?_
  refine v_iload_n C 3 dX6_games_49 rfl rfl ?_
  refine v_callVi (k := 0) (As := [.int v2_38]) (rest := [.int r10]) C (c6_has  h) eX6_112 (by omega) (by omega) (by decide) rfl rfl rfl rfl (Nat.le_of_ble_eq_true rfl) dX6_games_50 (fun r12 M11 h => ?_)
  refine v_ior C dX6_games_53 ?_
  refine v_aload_n C 1 dX6_games_54 rfl rfl ?_
  refine fX6_6_g_hall C dX6_games_55 ?_
  refine v_ior C dX6_games_58 ?_
  refine v_nmi (fun x13 ex13 => ?_)
  replace h := h x13 ex13
  refine v_istore (lv' := [(6, .int x13), (5, .int r8), (0, .ref (a 0)), (1, .int v1_38), (2, .int v2_38), (3, .int v3_38), (4, .int v4_38)]) C dX6_games_59 (by decide) rfl ?_
  refine v_aload_n C 2 dX6_games_61 rfl rfl ?_
  refine fX6_6_g_rows C dX6_games_62 ?_
  refine v_iconst C dX6_games_65 (v := (4 : Int32)) (by decide) ?_
  refine v_iload_n C 3 dX6_games_66 rfl rfl ?_
  refine v_imul C dX6_games_67 ?_
  refine v_iconst C dX6_games_68 (v := (3 : Int32)) (by decide) ?_
  refine v_iadd C dX6_games_69 ?_
  refine v_iconst C dX6_games_70 (v := (0 : Int32)) (by decide) ?_
  obtain ⟨hi14, h⟩ := h
  refine v_iast (k := 5) C (by decide) (fun _ => rfl) hi14 dX6_games_71 ?_
  obtain ⟨M15, eM15⟩ : ∃ z : S0, z = up M11 5 (Int32.toNatClampNeg (((4 : Int32) * v1_38) + (3 : Int32))) (0 : Int32) := ⟨_, rfl⟩
  rw [← eM15]
  replace h := h M15 eM15
  refine v_aload_n C 2 dX6_games_72 rfl rfl ?_
  refine fX6_6_g_rows C dX6_games_73 ?_
  refine v_iconst C dX6_games_76 (v := (4 : Int32)) (by decide) ?_
  refine v_iload_n C 4 dX6_games_77 rfl rfl ?_
  refine v_imul C dX6_games_78 ?_
  refine v_iconst C dX6_games_79 (v := (3 : Int32)) (by decide) ?_
  refine v_iadd C dX6_games_80 ?_
  refine v_iconst C dX6_games_81 (v := (0 : Int32)) (by decide) ?_
  obtain ⟨hi16, h⟩ := h
  refine v_iast (k := 5) C (by decide) (fun _ => rfl) hi16 dX6_games_82 ?_
  obtain ⟨M17, eM17⟩ : ∃ z : S0, z = up M15 5 (Int32.toNatClampNeg (((4 : Int32) * v2_38) + (3 : Int32))) (0 : Int32) := ⟨_, rfl⟩
  rw [← eM17]
  replace h := h M17 eM17
  refine v_aload_n C 2 dX6_games_83 rfl rfl ?_
  refine v_iload_n C 5 dX6_games_84 rfl rfl ?_
  refine v_iconst C dX6_games_85 (v := (-1 : Int32)) (by decide) ?_
  refine v_icmp_ne C dX6_games_86 (tgt := 94) (by decide) (fun c => ?_) (fun c => ?_)
  · replace h := h.1 c
    refine v_iconst C dX6_games_94 (v := (0 : Int32)) (by decide) ?_
    refine fX6_6_p_hall C dX6_games_95 (fun M18 eM18 => ?_)
    replace h := h M18 eM18
    refine v_iload_n C 5 dX6_games_98 rfl rfl ?_
    refine v_iconst C dX6_games_99 (v := (-1 : Int32)) (by decide) ?_
    refine v_icmp_eq C dX6_games_100 (tgt := 157) (by decide) (fun c => ?_) (fun c => ?_)
    · replace h := h.1 c
      refine v_aload_n C 2 dX6_games_157 rfl rfl ?_
      refine fX6_6_g_rows C dX6_games_158 ?_
      refine v_iconst C dX6_games_161 (v := (4 : Int32)) (by decide) ?_
      refine v_iload_n C 3 dX6_games_162 rfl rfl ?_
      refine v_imul C dX6_games_163 ?_
      refine v_iconst C dX6_games_164 (v := (1 : Int32)) (by decide) ?_
      refine v_iadd C dX6_games_165 ?_
      refine v_aload_n C 2 dX6_games_166 rfl rfl ?_
      refine fX6_6_g_rows C dX6_games_167 ?_
      refine v_iconst C dX6_games_170 (v := (4 : Int32)) (by decide) ?_
      refine v_iload_n C 3 dX6_games_171 rfl rfl ?_
      refine v_imul C dX6_games_172 ?_
      refine v_iconst C dX6_games_173 (v := (1 : Int32)) (by decide) ?_
      refine v_iadd C dX6_games_174 ?_
      obtain ⟨hi19, h⟩ := h
      refine v_iald (k := 5) C (by decide) rfl hi19 dX6_games_175 ?_
      refine v_iload C 6 dX6_games_176 rfl ?_
      refine v_isub C dX6_games_178 ?_
      refine v_iconst C dX6_games_179 (v := (0 : Int32)) (by decide) ?_
      refine v_bipush C dX6_games_180 (v := (99 : Int32)) (by decide) ?_
      refine v_callSi (As := [.int ((M18 5 (Int32.toNatClampNeg (((4 : Int32) * v1_38) + (1 : Int32)))) - v4_38), .int (0 : Int32), .int (99 : Int32)]) (rest := [.int (((4 : Int32) * v1_38) + (1 : Int32)), .ref (a 5)]) C (c6_within  h) eX6_243 (by omega) (by omega) rfl rfl (Nat.le_of_ble_eq_true rfl) dX6_games_182 (fun r21 M20 h => ?_)
      obtain ⟨hi22, h⟩ := h
      refine v_iast (k := 5) C (by decide) (fun _ => rfl) hi22 dX6_games_185 ?_
      obtain ⟨M23, eM23⟩ : ∃ z : S0, z = up M20 5 (Int32.toNatClampNeg (((4 : Int32) * v1_38) + (1 : Int32))) r21 := ⟨_, rfl⟩
      rw [← eM23]
      replace h := h M23 eM23
      refine v_aload_n C 2 dX6_games_186 rfl rfl ?_
      refine fX6_6_g_rows C dX6_games_187 ?_
      refine v_iconst C dX6_games_190 (v := (4 : Int32)) (by decide) ?_
      refine v_iload_n C 4 dX6_games_191 rfl rfl ?_
      refine v_imul C dX6_games_192 ?_
      refine v_iconst C dX6_games_193 (v := (1 : Int32)) (by decide) ?_
      refine v_iadd C dX6_games_194 ?_
      refine v_aload_n C 2 dX6_games_195 rfl rfl ?_
      refine fX6_6_g_rows C dX6_games_196 ?_
      refine v_iconst C dX6_games_199 (v := (4 : Int32)) (by decide) ?_
      refine v_iload_n C 4 dX6_games_200 rfl rfl ?_
      refine v_imul C dX6_games_201 ?_
      refine v_iconst C dX6_games_202 (v := (1 : Int32)) (by decide) ?_
      refine v_iadd C dX6_games_203 ?_
      obtain ⟨hi24, h⟩ := h
      refine v_iald (k := 5) C (by decide) rfl hi24 dX6_games_204 ?_
      refine v_iload C 1 dX6_games_205 rfl ?_
      refine v_isub C dX6_games_207 ?_
      refine v_iconst C dX6_games_208 (v := (0 : Int32)) (by decide) ?_
      refine v_bipush C dX6_games_209 (v := (99 : Int32)) (by decide) ?_
      refine v_callSi (As := [.int ((M23 5 (Int32.toNatClampNeg (((4 : Int32) * v2_38) + (1 : Int32)))) - r8), .int (0 : Int32), .int (99 : Int32)]) (rest := [.int (((4 : Int32) * v2_38) + (1 : Int32)), .ref (a 5)]) C (c6_within  h) eX6_243 (by omega) (by omega) rfl rfl (Nat.le_of_ble_eq_true rfl) dX6_games_211 (fun r26 M25 h => ?_)
      obtain ⟨hi27, h⟩ := h
      refine v_iast (k := 5) C (by decide) (fun _ => rfl) hi27 dX6_games_214 ?_
      obtain ⟨M28, eM28⟩ : ∃ z : S0, z = up M25 5 (Int32.toNatClampNeg (((4 : Int32) * v2_38) + (1 : Int32))) r26 := ⟨_, rfl⟩
      rw [← eM28]
      replace h := h M28 eM28
      refine v_aload_n C 2 dX6_games_215 rfl rfl ?_
      refine v_dup C dX6_games_216 rfl ?_
      refine fX6_6_g_roundNow C dX6_games_217 ?_
      refine v_iconst C dX6_games_220 (v := (1 : Int32)) (by decide) ?_
      refine v_iadd C dX6_games_221 ?_
      refine fX6_6_p_roundNow C dX6_games_222 (fun M29 eM29 => ?_)
      replace h := h M29 eM29
      refine v_iload_n C 5 dX6_games_225 rfl rfl ?_
      exact hR _ _ _ _ h dX6_games_226
    · replace h := h.2 c
      refine v_iload_n C 5 dX6_games_103 rfl rfl ?_
      refine v_iload_n C 3 dX6_games_104 rfl rfl ?_
      refine v_icmp_ne C dX6_games_105 (tgt := 112) (by decide) (fun c => ?_) (fun c => ?_)
      · replace h := h.1 c
        refine v_iload_n C 3 dX6_games_112 rfl rfl ?_
        refine v_sub [2, 3, 4, 5, 6, 1, 0] rfl ?_
        exact t6_games_b113   C hR  M18 v1_38 v2_38 v3_38 v4_38 r8 x13 v1_38  h
      · replace h := h.2 c
        refine v_iload_n C 4 dX6_games_108 rfl rfl ?_
        refine v_goto C dX6_games_109 (tgt := 113) (by decide) ?_
        refine v_sub [2, 3, 4, 5, 6, 1, 0] rfl ?_
        exact t6_games_b113   C hR  M18 v1_38 v2_38 v3_38 v4_38 r8 x13 v2_38  h
  · replace h := h.2 c
    refine v_iload C 0 dX6_games_89 rfl ?_
    refine v_goto C dX6_games_91 (tgt := 95) (by decide) ?_
    refine fX6_6_p_hall C dX6_games_95 (fun M30 eM30 => ?_)
    replace h := h M30 eM30
    refine v_iload_n C 5 dX6_games_98 rfl rfl ?_
    refine v_iconst C dX6_games_99 (v := (-1 : Int32)) (by decide) ?_
    refine v_icmp_eq C dX6_games_100 (tgt := 157) (by decide) (fun c => ?_) (fun c => ?_)
    · replace h := h.1 c
      refine v_aload_n C 2 dX6_games_157 rfl rfl ?_
      refine fX6_6_g_rows C dX6_games_158 ?_
      refine v_iconst C dX6_games_161 (v := (4 : Int32)) (by decide) ?_
      refine v_iload_n C 3 dX6_games_162 rfl rfl ?_
      refine v_imul C dX6_games_163 ?_
      refine v_iconst C dX6_games_164 (v := (1 : Int32)) (by decide) ?_
      refine v_iadd C dX6_games_165 ?_
      refine v_aload_n C 2 dX6_games_166 rfl rfl ?_
      refine fX6_6_g_rows C dX6_games_167 ?_
      refine v_iconst C dX6_games_170 (v := (4 : Int32)) (by decide) ?_
      refine v_iload_n C 3 dX6_games_171 rfl rfl ?_
      refine v_imul C dX6_games_172 ?_
      refine v_iconst C dX6_games_173 (v := (1 : Int32)) (by decide) ?_
      refine v_iadd C dX6_games_174 ?_
      obtain ⟨hi31, h⟩ := h
      refine v_iald (k := 5) C (by decide) rfl hi31 dX6_games_175 ?_
      refine v_iload C 6 dX6_games_176 rfl ?_
      refine v_isub C dX6_games_178 ?_
      refine v_iconst C dX6_games_179 (v := (0 : Int32)) (by decide) ?_
      refine v_bipush C dX6_games_180 (v := (99 : Int32)) (by decide) ?_
      refine v_callSi (As := [.int ((M30 5 (Int32.toNatClampNeg (((4 : Int32) * v1_38) + (1 : Int32)))) - v4_38), .int (0 : Int32), .int (99 : Int32)]) (rest := [.int (((4 : Int32) * v1_38) + (1 : Int32)), .ref (a 5)]) C (c6_within  h) eX6_243 (by omega) (by omega) rfl rfl (Nat.le_of_ble_eq_true rfl) dX6_games_182 (fun r33 M32 h => ?_)
      obtain ⟨hi34, h⟩ := h
      refine v_iast (k := 5) C (by decide) (fun _ => rfl) hi34 dX6_games_185 ?_
      obtain ⟨M35, eM35⟩ : ∃ z : S0, z = up M32 5 (Int32.toNatClampNeg (((4 : Int32) * v1_38) + (1 : Int32))) r33 := ⟨_, rfl⟩
      rw [← eM35]
      replace h := h M35 eM35
      refine v_aload_n C 2 dX6_games_186 rfl rfl ?_
      refine fX6_6_g_rows C dX6_games_187 ?_
      refine v_iconst C dX6_games_190 (v := (4 : Int32)) (by decide) ?_
      refine v_iload_n C 4 dX6_games_191 rfl rfl ?_
      refine v_imul C dX6_games_192 ?_
      refine v_iconst C dX6_games_193 (v := (1 : Int32)) (by decide) ?_
      refine v_iadd C dX6_games_194 ?_
      refine v_aload_n C 2 dX6_games_195 rfl rfl ?_
      refine fX6_6_g_rows C dX6_games_196 ?_
      refine v_iconst C dX6_games_199 (v := (4 : Int32)) (by decide) ?_
      refine v_iload_n C 4 dX6_games_200 rfl rfl ?_
      refine v_imul C dX6_games_201 ?_
      refine v_iconst C dX6_games_202 (v := (1 : Int32)) (by decide) ?_
      refine v_iadd C dX6_games_203 ?_
      obtain ⟨hi36, h⟩ := h
      refine v_iald (k := 5) C (by decide) rfl hi36 dX6_games_204 ?_
      refine v_iload C 1 dX6_games_205 rfl ?_
      refine v_isub C dX6_games_207 ?_
      refine v_iconst C dX6_games_208 (v := (0 : Int32)) (by decide) ?_
      refine v_bipush C dX6_games_209 (v := (99 : Int32)) (by decide) ?_
      refine v_callSi (As := [.int ((M35 5 (Int32.toNatClampNeg (((4 : Int32) * v2_38) + (1 : Int32)))) - r8), .int (0 : Int32), .int (99 : Int32)]) (rest := [.int (((4 : Int32) * v2_38) + (1 : Int32)), .ref (a 5)]) C (c6_within  h) eX6_243 (by omega) (by omega) rfl rfl (Nat.le_of_ble_eq_true rfl) dX6_games_211 (fun r38 M37 h => ?_)
      obtain ⟨hi39, h⟩ := h
      refine v_iast (k := 5) C (by decide) (fun _ => rfl) hi39 dX6_games_214 ?_
      obtain ⟨M40, eM40⟩ : ∃ z : S0, z = up M37 5 (Int32.toNatClampNeg (((4 : Int32) * v2_38) + (1 : Int32))) r38 := ⟨_, rfl⟩
      rw [← eM40]
      replace h := h M40 eM40
      refine v_aload_n C 2 dX6_games_215 rfl rfl ?_
      refine v_dup C dX6_games_216 rfl ?_
      refine fX6_6_g_roundNow C dX6_games_217 ?_
      refine v_iconst C dX6_games_220 (v := (1 : Int32)) (by decide) ?_
      refine v_iadd C dX6_games_221 ?_
      refine fX6_6_p_roundNow C dX6_games_222 (fun M41 eM41 => ?_)
      replace h := h M41 eM41
      refine v_iload_n C 5 dX6_games_225 rfl rfl ?_
      exact hR _ _ _ _ h dX6_games_226
    · replace h := h.2 c
      refine v_iload_n C 5 dX6_games_103 rfl rfl ?_
      refine v_iload_n C 3 dX6_games_104 rfl rfl ?_
      refine v_icmp_ne C dX6_games_105 (tgt := 112) (by decide) (fun c => ?_) (fun c => ?_)
      · replace h := h.1 c
        refine v_iload_n C 3 dX6_games_112 rfl rfl ?_
        refine v_sub [2, 3, 4, 5, 6, 1, 0] rfl ?_
        exact t6_games_b113   C hR  M30 v1_38 v2_38 v3_38 v4_38 r8 x13 v1_38  h
      · replace h := h.2 c
        refine v_iload_n C 4 dX6_games_108 rfl rfl ?_
        refine v_goto C dX6_games_109 (tgt := 113) (by decide) ?_
        refine v_sub [2, 3, 4, 5, 6, 1, 0] rfl ?_
        exact t6_games_b113   C hR  M30 v1_38 v2_38 v3_38 v4_38 r8 x13 v2_38  h
def w6_games (M : S0) (p1 : Int32) (p2 : Int32) (Q : Int32 → S0 → Prop) : Prop :=
    w6_winnerOf M p1 p2 (fun r2 M1 => ((¬ r2 = p1) → (w6_tiresOf M1 p1 p2 (0 : Int32) (fun r4 M3 => ((¬ r2 = p2) → (w6_games_b38   Q M3 p1 p2 r2 r4 (0 : Int32) p1 p2)) ∧ ((r2 = p2) → (w6_games_b38   Q M3 p1 p2 r2 r4 (1 : Int32) p1 p2))))) ∧ ((r2 = p1) → (w6_tiresOf M1 p1 p2 (1 : Int32) (fun r6 M5 => ((¬ r2 = p2) → (w6_games_b38   Q M5 p1 p2 r2 r6 (0 : Int32) p1 p2)) ∧ ((r2 = p2) → (w6_games_b38   Q M5 p1 p2 r2 r6 (1 : Int32) p1 p2))))))
set_option maxHeartbeats 4000000 in
set_option maxRecDepth 20000 in
theorem c6_games {B : BX} {a : Nat → Nat} {M : S0} {p1 : Int32} {p2 : Int32} {Q : Int32 → S0 → Prop} (h : w6_games  M p1 p2 Q) : KI B (wl 12 a (shM B.2.1 a)) yX6_games cX6_games 8 (some .int) 71 1636 [.ref (a 0), .int p1, .int p2] M Q := by
  rw [w6_games] at h
  refine KI_of (by decide +kernel) (Nat.le_of_ble_eq_true rfl) (fun E C hR => ?_)
  change V B E 8 (wl 12 a (shM B.2.1 a) M) 0 [(0, .ref (a 0)), (1, .int p1), (2, .int p2)] []
  change Ok B E cX6_games 8 RX6 71 1636 at C
  refine v_aload_n C 0 dX6_games_0 rfl rfl ?_
  refine v_iload_n C 1 dX6_games_1 rfl rfl ?_
  refine v_iload_n C 2 dX6_games_2 rfl rfl ?_
  refine v_callVi (k := 0) (As := [.int p1, .int p2]) (rest := []) C (c6_winnerOf  h) eX6_259 (by omega) (by omega) (by decide) rfl rfl rfl rfl (Nat.le_of_ble_eq_true rfl) dX6_games_3 (fun r2 M1 h => ?_)
  refine v_istore_n (lv' := [(3, .int r2), (0, .ref (a 0)), (1, .int p1), (2, .int p2)]) C dX6_games_6 rfl (by decide) rfl ?_
  refine v_aload_n C 1 dX6_games_7 rfl rfl ?_
  refine v_iload_n C 2 dX6_games_8 rfl rfl ?_
  refine v_iload_n C 3 dX6_games_9 rfl rfl ?_
  refine v_iload_n C 0 dX6_games_10 rfl rfl ?_
  refine v_iload_n C 2 dX6_games_11 rfl rfl ?_
  refine v_icmp_ne C dX6_games_12 (tgt := 19) (by decide) (fun c => ?_) (fun c => ?_)
  · replace h := h.1 c
    refine v_iconst C dX6_games_19 (v := (0 : Int32)) (by decide) ?_
    refine v_callVi (k := 0) (As := [.int p1, .int p2, .int (0 : Int32)]) (rest := []) C (c6_tiresOf  h) eX6_262 (by omega) (by omega) (by decide) rfl rfl rfl rfl (Nat.le_of_ble_eq_true rfl) dX6_games_20 (fun r4 M3 h => ?_)
    refine v_istore (lv' := [(4, .int r4), (3, .int r2), (0, .ref (a 0)), (1, .int p1), (2, .int p2)]) C dX6_games_23 (by decide) rfl ?_
    refine v_aload_n C 2 dX6_games_25 rfl rfl ?_
    refine v_iload_n C 4 dX6_games_26 rfl rfl ?_
    refine v_iload_n C 3 dX6_games_27 rfl rfl ?_
    refine v_iload_n C 1 dX6_games_28 rfl rfl ?_
    refine v_iload_n C 4 dX6_games_29 rfl rfl ?_
    refine v_icmp_ne C dX6_games_30 (tgt := 37) (by decide) (fun c => ?_) (fun c => ?_)
    · replace h := h.1 c
      refine v_iconst C dX6_games_37 (v := (0 : Int32)) (by decide) ?_
      refine v_sub [2, 3, 4, 1, 0] rfl ?_
      exact t6_games_b38   C hR  M3 p1 p2 r2 r4 (0 : Int32) p1 p2  h
    · replace h := h.2 c
      refine v_iconst C dX6_games_33 (v := (1 : Int32)) (by decide) ?_
      refine v_goto C dX6_games_34 (tgt := 38) (by decide) ?_
      refine v_sub [2, 3, 4, 1, 0] rfl ?_
      exact t6_games_b38   C hR  M3 p1 p2 r2 r4 (1 : Int32) p1 p2  h
  · replace h := h.2 c
    refine v_iconst C dX6_games_15 (v := (1 : Int32)) (by decide) ?_
    refine v_goto C dX6_games_16 (tgt := 20) (by decide) ?_
    refine v_callVi (k := 0) (As := [.int p1, .int p2, .int (1 : Int32)]) (rest := []) C (c6_tiresOf  h) eX6_262 (by omega) (by omega) (by decide) rfl rfl rfl rfl (Nat.le_of_ble_eq_true rfl) dX6_games_20 (fun r6 M5 h => ?_)
    refine v_istore (lv' := [(4, .int r6), (3, .int r2), (0, .ref (a 0)), (1, .int p1), (2, .int p2)]) C dX6_games_23 (by decide) rfl ?_
    refine v_aload_n C 2 dX6_games_25 rfl rfl ?_
    refine v_iload_n C 4 dX6_games_26 rfl rfl ?_
    refine v_iload_n C 3 dX6_games_27 rfl rfl ?_
    refine v_iload_n C 1 dX6_games_28 rfl rfl ?_
    refine v_iload_n C 4 dX6_games_29 rfl rfl ?_
    refine v_icmp_ne C dX6_games_30 (tgt := 37) (by decide) (fun c => ?_) (fun c => ?_)
    · replace h := h.1 c
      refine v_iconst C dX6_games_37 (v := (0 : Int32)) (by decide) ?_
      refine v_sub [2, 3, 4, 1, 0] rfl ?_
      exact t6_games_b38   C hR  M5 p1 p2 r2 r6 (0 : Int32) p1 p2  h
    · replace h := h.2 c
      refine v_iconst C dX6_games_33 (v := (1 : Int32)) (by decide) ?_
      refine v_goto C dX6_games_34 (tgt := 38) (by decide) ?_
      refine v_sub [2, 3, 4, 1, 0] rfl ?_
      exact t6_games_b38   C hR  M5 p1 p2 r2 r6 (1 : Int32) p1 p2  h
def w6_laysAside_b2 (Q : S0 → Prop) : Nat → S0 → Int32 → Prop
  | 0, _, _ => False
  | n + 1, M, v1_2 =>
    (((24 : Int32) ≤ v1_2) → ((vp_in (((26 : Int32) * (M 0 28)) + (24 : Int32)) 208) ∧ (∀ M3 : S0, M3 = up M 6 (Int32.toNatClampNeg (((26 : Int32) * (M 0 28)) + (24 : Int32))) (M 0 8) → ((vp_in (((26 : Int32) * (M3 0 28)) + (25 : Int32)) 208) ∧ (∀ M5 : S0, M5 = up M3 6 (Int32.toNatClampNeg (((26 : Int32) * (M3 0 28)) + (25 : Int32))) (M3 0 7) → (∀ M6 : S0, M6 = up M5 0 28 ((M5 0 28) + (1 : Int32)) → (Q M6))))))) ∧ ((¬ (24 : Int32) ≤ v1_2) → ((vp_in v1_2 24) ∧ ((vp_in (((26 : Int32) * (M 0 28)) + v1_2) 208) ∧ (∀ M9 : S0, M9 = up M 6 (Int32.toNatClampNeg (((26 : Int32) * (M 0 28)) + v1_2)) (M 5 (Int32.toNatClampNeg v1_2)) → (∀ x10 : Int32, x10 = v1_2 + (1 : Int32) → (w6_laysAside_b2   Q n M9 x10))))))
set_option maxHeartbeats 4000000 in
set_option maxRecDepth 20000 in
theorem t6_laysAside_b2 {B : BX} {E : EX} {a : Nat → Nat} {Q : S0 → Prop} (C : Ok B E cX6_laysAside 2 RX6 0 0) (hR : RetV B E cX6_laysAside 2 (wl 12 a (shM B.2.1 a)) Q) : ∀ (n : Nat) (M : S0) (v1_2 : Int32), w6_laysAside_b2   Q n M v1_2 → V B E 2 (wl 12 a (shM B.2.1 a) M) 2 [(0, .ref (a 0)), (1, .int v1_2)] [] := by
  intro n
  induction n with
  | zero =>
    intro M v1_2  h
    exact h.elim
  | succ n ih =>
    intro M v1_2  h
    rw [w6_laysAside_b2] at h
    refine v_iload_n C 1 dX6_laysAside_2 rfl rfl ?_
    refine v_bipush C dX6_laysAside_3 (v := (24 : Int32)) (by decide) ?_
    refine v_icmp_ge C dX6_laysAside_5 (tgt := 34) (by decide) (fun c => ?_) (fun c => ?_)
    · replace h := h.1 c
      refine v_aload_n C 0 dX6_laysAside_34 rfl rfl ?_
      refine fX6_6_g_aside C dX6_laysAside_35 ?_
      refine v_bipush C dX6_laysAside_38 (v := (26 : Int32)) (by decide) ?_
      refine v_aload_n C 0 dX6_laysAside_40 rfl rfl ?_
      refine fX6_6_g_asideMany C dX6_laysAside_41 ?_
      refine v_imul C dX6_laysAside_44 ?_
      refine v_bipush C dX6_laysAside_45 (v := (24 : Int32)) (by decide) ?_
      refine v_iadd C dX6_laysAside_47 ?_
      refine v_aload_n C 0 dX6_laysAside_48 rfl rfl ?_
      refine fX6_6_g_hall C dX6_laysAside_49 ?_
      obtain ⟨hi2, h⟩ := h
      refine v_iast (k := 6) C (by decide) (fun _ => rfl) hi2 dX6_laysAside_52 ?_
      obtain ⟨M3, eM3⟩ : ∃ z : S0, z = up M 6 (Int32.toNatClampNeg (((26 : Int32) * (M 0 28)) + (24 : Int32))) (M 0 8) := ⟨_, rfl⟩
      rw [← eM3]
      replace h := h M3 eM3
      refine v_aload_n C 0 dX6_laysAside_53 rfl rfl ?_
      refine fX6_6_g_aside C dX6_laysAside_54 ?_
      refine v_bipush C dX6_laysAside_57 (v := (26 : Int32)) (by decide) ?_
      refine v_aload_n C 0 dX6_laysAside_59 rfl rfl ?_
      refine fX6_6_g_asideMany C dX6_laysAside_60 ?_
      refine v_imul C dX6_laysAside_63 ?_
      refine v_bipush C dX6_laysAside_64 (v := (25 : Int32)) (by decide) ?_
      refine v_iadd C dX6_laysAside_66 ?_
      refine v_aload_n C 0 dX6_laysAside_67 rfl rfl ?_
      refine fX6_6_g_roundNow C dX6_laysAside_68 ?_
      obtain ⟨hi4, h⟩ := h
      refine v_iast (k := 6) C (by decide) (fun _ => rfl) hi4 dX6_laysAside_71 ?_
      obtain ⟨M5, eM5⟩ : ∃ z : S0, z = up M3 6 (Int32.toNatClampNeg (((26 : Int32) * (M3 0 28)) + (25 : Int32))) (M3 0 7) := ⟨_, rfl⟩
      rw [← eM5]
      replace h := h M5 eM5
      refine v_aload_n C 0 dX6_laysAside_72 rfl rfl ?_
      refine v_dup C dX6_laysAside_73 rfl ?_
      refine fX6_6_g_asideMany C dX6_laysAside_74 ?_
      refine v_iconst C dX6_laysAside_77 (v := (1 : Int32)) (by decide) ?_
      refine v_iadd C dX6_laysAside_78 ?_
      refine fX6_6_p_asideMany C dX6_laysAside_79 (fun M6 eM6 => ?_)
      replace h := h M6 eM6
      exact hR _ _ _ h dX6_laysAside_82
    · replace h := h.2 c
      refine v_aload_n C 0 dX6_laysAside_8 rfl rfl ?_
      refine fX6_6_g_aside C dX6_laysAside_9 ?_
      refine v_bipush C dX6_laysAside_12 (v := (26 : Int32)) (by decide) ?_
      refine v_aload_n C 0 dX6_laysAside_14 rfl rfl ?_
      refine fX6_6_g_asideMany C dX6_laysAside_15 ?_
      refine v_imul C dX6_laysAside_18 ?_
      refine v_iload_n C 1 dX6_laysAside_19 rfl rfl ?_
      refine v_iadd C dX6_laysAside_20 ?_
      refine v_aload_n C 0 dX6_laysAside_21 rfl rfl ?_
      refine fX6_6_g_rows C dX6_laysAside_22 ?_
      refine v_iload_n C 1 dX6_laysAside_25 rfl rfl ?_
      obtain ⟨hi7, h⟩ := h
      refine v_iald (k := 5) C (by decide) rfl hi7 dX6_laysAside_26 ?_
      obtain ⟨hi8, h⟩ := h
      refine v_iast (k := 6) C (by decide) (fun _ => rfl) hi8 dX6_laysAside_27 ?_
      obtain ⟨M9, eM9⟩ : ∃ z : S0, z = up M 6 (Int32.toNatClampNeg (((26 : Int32) * (M 0 28)) + v1_2)) (M 5 (Int32.toNatClampNeg v1_2)) := ⟨_, rfl⟩
      rw [← eM9]
      replace h := h M9 eM9
      obtain ⟨x10, ex10⟩ : ∃ z : Int32, z = v1_2 + (1 : Int32) := ⟨_, rfl⟩
      replace h := h x10 ex10
      refine v_iinc (v := x10) (lv' := [(1, .int x10), (0, .ref (a 0))]) C 1 dX6_laysAside_28 rfl (by rw [ex10]; rfl) (by decide) rfl ?_
      refine v_goto C dX6_laysAside_31 (tgt := 2) (by decide) ?_
      refine v_sub [1, 0] rfl ?_
      exact ih M9 x10  h
def w6_laysAside (M : S0) (Q : S0 → Prop) : Prop :=
    ∃ n1, w6_laysAside_b2   Q n1 M (0 : Int32)
set_option maxHeartbeats 4000000 in
set_option maxRecDepth 20000 in
theorem c6_laysAside {B : BX} {a : Nat → Nat} {M : S0} {Q : S0 → Prop} (h : w6_laysAside  M  Q) : KV B (wl 12 a (shM B.2.1 a)) yX6_laysAside cX6_laysAside 2 none 0 0 [.ref (a 0)] M Q := by
  rw [w6_laysAside] at h
  refine KV_of (by decide +kernel) (Nat.le_of_ble_eq_true rfl) (fun E C hR => ?_)
  change V B E 2 (wl 12 a (shM B.2.1 a) M) 0 [(0, .ref (a 0))] []
  change Ok B E cX6_laysAside 2 RX6 0 0 at C
  refine v_iconst C dX6_laysAside_0 (v := (0 : Int32)) (by decide) ?_
  refine v_istore_n (lv' := [(1, .int (0 : Int32)), (0, .ref (a 0))]) C dX6_laysAside_1 rfl (by decide) rfl ?_
  obtain ⟨n1, h⟩ := h
  refine v_sub [1, 0] rfl ?_
  exact t6_laysAside_b2   C hR  n1 M (0 : Int32)  h
