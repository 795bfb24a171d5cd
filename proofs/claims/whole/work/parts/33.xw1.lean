def w0_throwsBy (g : GX) (b : Nat) (M : S0) (p1 : Int32) (p2 : Int32) (p3 : Int32) (Q : Int32 → S0 → Prop) : Prop :=
    (vp_in p2 6) ∧ ((((M (b + 1) (Int32.toNatClampNeg p2)).toInt = 1) → (((p1 = 0) → (Q (0 : Int32) M)) ∧ ((¬ p1 = 0) → ((vp_in p2 6) ∧ (wb6_bitCount_0f7a4 g M (M (b + 5) (Int32.toNatClampNeg p2)) (fun r4 M3 => (((4 : Int32) ≤ r4) → (Q (0 : Int32) M3)) ∧ ((¬ (4 : Int32) ≤ r4) → (Q (1 : Int32) M3)))))))) ∧ (((M (b + 1) (Int32.toNatClampNeg p2)).toInt = 2) → (Q (0 : Int32) M)) ∧ (((M (b + 1) (Int32.toNatClampNeg p2)).toInt = 3) → (((p1 = 0) → ((vp_in p3 6) ∧ ((((M (b + 5) (Int32.toNatClampNeg p3)) = 0) → (Q (0 : Int32) M)) ∧ ((¬ (M (b + 5) (Int32.toNatClampNeg p3)) = 0) → (Q (1 : Int32) M))))) ∧ ((¬ p1 = 0) → ((vp_in p2 6) ∧ (wb6_bitCount_0f7a4 g M (M (b + 5) (Int32.toNatClampNeg p2)) (fun r8 M7 => ((r8 < (4 : Int32)) → (Q (1 : Int32) M7)) ∧ ((¬ r8 < (4 : Int32)) → ((vp_in p3 6) ∧ ((((M7 (b + 5) (Int32.toNatClampNeg p3)) = 0) → (Q (0 : Int32) M7)) ∧ ((¬ (M7 (b + 5) (Int32.toNatClampNeg p3)) = 0) → (Q (1 : Int32) M7))))))))))) ∧ (((M (b + 1) (Int32.toNatClampNeg p2)).toInt = 4) → (Q (0 : Int32) M)) ∧ (((M (b + 1) (Int32.toNatClampNeg p2)).toInt < 1 ∨ 4 < (M (b + 1) (Int32.toNatClampNeg p2)).toInt) → ((narrow .boolean (.int p1) = .int p1) ∧ (Q p1 M))))
set_option maxHeartbeats 4000000 in
set_option maxRecDepth 20000 in
theorem c0_throwsBy {B : BX} {a : Nat → Nat} {g : GX} {b : Nat} {M : S0} {p1 : Int32} {p2 : Int32} {p3 : Int32} {Q : Int32 → S0 → Prop} (hp_b : isClub b) (h : w0_throwsBy g b M p1 p2 p3 Q) : KI B (wl (66 + 3 * g.2) a (shX B.2.1 a g.1)) yX0_throwsBy cX0_throwsBy 4 (some .boolean) 1 20 [.ref (a b), .int p1, .int p2, .int p3] M Q := by
  rw [w0_throwsBy] at h
  refine KZ_of (by decide +kernel) (Nat.le_of_ble_eq_true rfl) (fun E C hR => ?_)
  change V B E 4 (wl (66 + 3 * g.2) a (shX B.2.1 a g.1) M) 0 [(0, .ref (a b)), (1, .int p1), (2, .int p2), (3, .int p3)] []
  change Ok B E cX0_throwsBy 4 RX0 1 20 at C
  refine v_aload_n C 0 dX0_throwsBy_0 rfl rfl ?_
  refine fX0_0_g_kind C hp_b dX0_throwsBy_1 ?_
  refine v_iload_n C 2 dX0_throwsBy_4 rfl rfl ?_
  obtain ⟨hi1, h⟩ := h
  refine v_iald (k := (b + 1)) C (xlt_c hp_b (by decide)) (sh_ca (ca_of hp_b (by decide) (by decide)) _) hi1 dX0_throwsBy_5 ?_
  refine v_sw C dX0_throwsBy_6 [36, 59, 61, 59] (by decide) (by decide) (tgt := 93) (by decide) (fun j t ht hx => ?_) (fun c => ?_)
  · match j, ht, hx with
    | 0, ht, hx =>
      obtain rfl : 36 = t := Option.some.inj ht
      replace h := h.1 (by omega)
      refine v_iload_n C 1 dX0_throwsBy_36 rfl rfl ?_
      refine v_if_eq C dX0_throwsBy_37 (tgt := 57) (by decide) (fun c => ?_) (fun c => ?_)
      · replace h := h.1 c
        refine v_iconst C dX0_throwsBy_57 (v := (0 : Int32)) (by decide) ?_
        exact hR _ _ _ _ rfl h dX0_throwsBy_58
      · replace h := h.2 c
        refine v_aload_n C 0 dX0_throwsBy_40 rfl rfl ?_
        refine fX0_0_g_has C hp_b dX0_throwsBy_41 ?_
        refine v_iload_n C 2 dX0_throwsBy_44 rfl rfl ?_
        obtain ⟨hi2, h⟩ := h
        refine v_iald (k := (b + 5)) C (xlt_c hp_b (by decide)) (sh_ca (ca_of hp_b (by decide) (by decide)) _) hi2 dX0_throwsBy_45 ?_
        refine v_callSi (As := [.int (M (b + 5) (Int32.toNatClampNeg p2))]) (rest := []) C (cb6_bitCount_0f7a4  h) eX0_52 (by omega) (by omega) rfl rfl (Nat.le_of_ble_eq_true rfl) dX0_throwsBy_46 (fun r4 M3 h => ?_)
        refine v_iconst C dX0_throwsBy_49 (v := (4 : Int32)) (by decide) ?_
        refine v_icmp_ge C dX0_throwsBy_50 (tgt := 57) (by decide) (fun c => ?_) (fun c => ?_)
        · replace h := h.1 c
          refine v_iconst C dX0_throwsBy_57 (v := (0 : Int32)) (by decide) ?_
          exact hR _ _ _ _ rfl h dX0_throwsBy_58
        · replace h := h.2 c
          refine v_iconst C dX0_throwsBy_53 (v := (1 : Int32)) (by decide) ?_
          refine v_goto C dX0_throwsBy_54 (tgt := 58) (by decide) ?_
          exact hR _ _ _ _ rfl h dX0_throwsBy_58
    | 1, ht, hx =>
      obtain rfl : 59 = t := Option.some.inj ht
      replace h := h.2.1 (by omega)
      refine v_iconst C dX0_throwsBy_59 (v := (0 : Int32)) (by decide) ?_
      exact hR _ _ _ _ rfl h dX0_throwsBy_60
    | 2, ht, hx =>
      obtain rfl : 61 = t := Option.some.inj ht
      replace h := h.2.2.1 (by omega)
      refine v_iload_n C 1 dX0_throwsBy_61 rfl rfl ?_
      refine v_if_eq C dX0_throwsBy_62 (tgt := 78) (by decide) (fun c => ?_) (fun c => ?_)
      · replace h := h.1 c
        refine v_aload_n C 0 dX0_throwsBy_78 rfl rfl ?_
        refine fX0_0_g_has C hp_b dX0_throwsBy_79 ?_
        refine v_iload_n C 3 dX0_throwsBy_82 rfl rfl ?_
        obtain ⟨hi5, h⟩ := h
        refine v_iald (k := (b + 5)) C (xlt_c hp_b (by decide)) (sh_ca (ca_of hp_b (by decide) (by decide)) _) hi5 dX0_throwsBy_83 ?_
        refine v_if_eq C dX0_throwsBy_84 (tgt := 91) (by decide) (fun c => ?_) (fun c => ?_)
        · replace h := h.1 c
          refine v_iconst C dX0_throwsBy_91 (v := (0 : Int32)) (by decide) ?_
          exact hR _ _ _ _ rfl h dX0_throwsBy_92
        · replace h := h.2 c
          refine v_iconst C dX0_throwsBy_87 (v := (1 : Int32)) (by decide) ?_
          refine v_goto C dX0_throwsBy_88 (tgt := 92) (by decide) ?_
          exact hR _ _ _ _ rfl h dX0_throwsBy_92
      · replace h := h.2 c
        refine v_aload_n C 0 dX0_throwsBy_65 rfl rfl ?_
        refine fX0_0_g_has C hp_b dX0_throwsBy_66 ?_
        refine v_iload_n C 2 dX0_throwsBy_69 rfl rfl ?_
        obtain ⟨hi6, h⟩ := h
        refine v_iald (k := (b + 5)) C (xlt_c hp_b (by decide)) (sh_ca (ca_of hp_b (by decide) (by decide)) _) hi6 dX0_throwsBy_70 ?_
        refine v_callSi (As := [.int (M (b + 5) (Int32.toNatClampNeg p2))]) (rest := []) C (cb6_bitCount_0f7a4  h) eX0_52 (by omega) (by omega) rfl rfl (Nat.le_of_ble_eq_true rfl) dX0_throwsBy_71 (fun r8 M7 h => ?_)
        refine v_iconst C dX0_throwsBy_74 (v := (4 : Int32)) (by decide) ?_
        refine v_icmp_lt C dX0_throwsBy_75 (tgt := 87) (by decide) (fun c => ?_) (fun c => ?_)
        · replace h := h.1 c
          refine v_iconst C dX0_throwsBy_87 (v := (1 : Int32)) (by decide) ?_
          refine v_goto C dX0_throwsBy_88 (tgt := 92) (by decide) ?_
          exact hR _ _ _ _ rfl h dX0_throwsBy_92
        · replace h := h.2 c
          refine v_aload_n C 0 dX0_throwsBy_78 rfl rfl ?_
          refine fX0_0_g_has C hp_b dX0_throwsBy_79 ?_
          refine v_iload_n C 3 dX0_throwsBy_82 rfl rfl ?_
          obtain ⟨hi9, h⟩ := h
          refine v_iald (k := (b + 5)) C (xlt_c hp_b (by decide)) (sh_ca (ca_of hp_b (by decide) (by decide)) _) hi9 dX0_throwsBy_83 ?_
          refine v_if_eq C dX0_throwsBy_84 (tgt := 91) (by decide) (fun c => ?_) (fun c => ?_)
          · replace h := h.1 c
            refine v_iconst C dX0_throwsBy_91 (v := (0 : Int32)) (by decide) ?_
            exact hR _ _ _ _ rfl h dX0_throwsBy_92
          · replace h := h.2 c
            refine v_iconst C dX0_throwsBy_87 (v := (1 : Int32)) (by decide) ?_
            refine v_goto C dX0_throwsBy_88 (tgt := 92) (by decide) ?_
            exact hR _ _ _ _ rfl h dX0_throwsBy_92
    | 3, ht, hx =>
      obtain rfl : 59 = t := Option.some.inj ht
      replace h := h.2.2.2.1 (by omega)
      refine v_iconst C dX0_throwsBy_59 (v := (0 : Int32)) (by decide) ?_
      exact hR _ _ _ _ rfl h dX0_throwsBy_60
    | j + 4, ht, hx => simp at ht
  · replace h := h.2.2.2.2 c
    refine v_iload_n C 1 dX0_throwsBy_93 rfl rfl ?_
    obtain ⟨hn10, h⟩ := h
    exact hR _ _ _ _ hn10 h dX0_throwsBy_94
def w0_tiresBy (g : GX) (b : Nat) (M : S0) (p1 : Int32) (p2 : Int32) (p3 : Int32) (Q : Int32 → S0 → Prop) : Prop :=
    (vp_in p2 6) ∧ ((((M (b + 1) (Int32.toNatClampNeg p2)).toInt = 1) → (((p3 = 0) → (Q p1 M)) ∧ ((¬ p3 = 0) → (Q (0 : Int32) M)))) ∧ (((M (b + 1) (Int32.toNatClampNeg p2)).toInt = 2) → (Q (-p1) M)) ∧ (((M (b + 1) (Int32.toNatClampNeg p2)).toInt = 3) → (((p3 = 0) → (Q (p1 + (1 : Int32)) M)) ∧ ((¬ p3 = 0) → (Q (1 : Int32) M)))) ∧ (((M (b + 1) (Int32.toNatClampNeg p2)).toInt = 4) → (Q ((-p1) - (3 : Int32)) M)) ∧ (((M (b + 1) (Int32.toNatClampNeg p2)).toInt = 5) → (Q (0 : Int32) M)) ∧ (((M (b + 1) (Int32.toNatClampNeg p2)).toInt < 1 ∨ 5 < (M (b + 1) (Int32.toNatClampNeg p2)).toInt) → (Q p1 M)))
set_option maxHeartbeats 4000000 in
set_option maxRecDepth 20000 in
theorem c0_tiresBy {B : BX} {a : Nat → Nat} {g : GX} {b : Nat} {M : S0} {p1 : Int32} {p2 : Int32} {p3 : Int32} {Q : Int32 → S0 → Prop} (hp_b : isClub b) (h : w0_tiresBy g b M p1 p2 p3 Q) : KI B (wl (66 + 3 * g.2) a (shX B.2.1 a g.1)) yX0_tiresBy cX0_tiresBy 4 (some .int) 0 0 [.ref (a b), .int p1, .int p2, .int p3] M Q := by
  rw [w0_tiresBy] at h
  refine KI_of (by decide +kernel) (Nat.le_of_ble_eq_true rfl) (fun E C hR => ?_)
  change V B E 4 (wl (66 + 3 * g.2) a (shX B.2.1 a g.1) M) 0 [(0, .ref (a b)), (1, .int p1), (2, .int p2), (3, .int p3)] []
  change Ok B E cX0_tiresBy 4 RX0 0 0 at C
  refine v_aload_n C 0 dX0_tiresBy_0 rfl rfl ?_
  refine fX0_0_g_kind C hp_b dX0_tiresBy_1 ?_
  refine v_iload_n C 2 dX0_tiresBy_4 rfl rfl ?_
  obtain ⟨hi1, h⟩ := h
  refine v_iald (k := (b + 1)) C (xlt_c hp_b (by decide)) (sh_ca (ca_of hp_b (by decide) (by decide)) _) hi1 dX0_tiresBy_5 ?_
  refine v_sw C dX0_tiresBy_6 [40, 50, 53, 65, 70] (by decide) (by decide) (tgt := 72) (by decide) (fun j t ht hx => ?_) (fun c => ?_)
  · match j, ht, hx with
    | 0, ht, hx =>
      obtain rfl : 40 = t := Option.some.inj ht
      replace h := h.1 (by omega)
      refine v_iload_n C 3 dX0_tiresBy_40 rfl rfl ?_
      refine v_if_eq C dX0_tiresBy_41 (tgt := 48) (by decide) (fun c => ?_) (fun c => ?_)
      · replace h := h.1 c
        refine v_iload_n C 1 dX0_tiresBy_48 rfl rfl ?_
        exact hR _ _ _ _ h dX0_tiresBy_49
      · replace h := h.2 c
        refine v_iconst C dX0_tiresBy_44 (v := (0 : Int32)) (by decide) ?_
        refine v_goto C dX0_tiresBy_45 (tgt := 49) (by decide) ?_
        exact hR _ _ _ _ h dX0_tiresBy_49
    | 1, ht, hx =>
      obtain rfl : 50 = t := Option.some.inj ht
      replace h := h.2.1 (by omega)
      refine v_iload_n C 1 dX0_tiresBy_50 rfl rfl ?_
      refine v_ineg C dX0_tiresBy_51 ?_
      exact hR _ _ _ _ h dX0_tiresBy_52
    | 2, ht, hx =>
      obtain rfl : 53 = t := Option.some.inj ht
      replace h := h.2.2.1 (by omega)
      refine v_iload_n C 3 dX0_tiresBy_53 rfl rfl ?_
      refine v_if_eq C dX0_tiresBy_54 (tgt := 61) (by decide) (fun c => ?_) (fun c => ?_)
      · replace h := h.1 c
        refine v_iload_n C 1 dX0_tiresBy_61 rfl rfl ?_
        refine v_iconst C dX0_tiresBy_62 (v := (1 : Int32)) (by decide) ?_
        refine v_iadd C dX0_tiresBy_63 ?_
        exact hR _ _ _ _ h dX0_tiresBy_64
      · replace h := h.2 c
        refine v_iconst C dX0_tiresBy_57 (v := (1 : Int32)) (by decide) ?_
        refine v_goto C dX0_tiresBy_58 (tgt := 64) (by decide) ?_
        exact hR _ _ _ _ h dX0_tiresBy_64
    | 3, ht, hx =>
      obtain rfl : 65 = t := Option.some.inj ht
      replace h := h.2.2.2.1 (by omega)
      refine v_iload_n C 1 dX0_tiresBy_65 rfl rfl ?_
      refine v_ineg C dX0_tiresBy_66 ?_
      refine v_iconst C dX0_tiresBy_67 (v := (3 : Int32)) (by decide) ?_
      refine v_isub C dX0_tiresBy_68 ?_
      exact hR _ _ _ _ h dX0_tiresBy_69
    | 4, ht, hx =>
      obtain rfl : 70 = t := Option.some.inj ht
      replace h := h.2.2.2.2.1 (by omega)
      refine v_iconst C dX0_tiresBy_70 (v := (0 : Int32)) (by decide) ?_
      exact hR _ _ _ _ h dX0_tiresBy_71
    | j + 5, ht, hx => simp at ht
  · replace h := h.2.2.2.2.2 c
    refine v_iload_n C 1 dX0_tiresBy_72 rfl rfl ?_
    exact hR _ _ _ _ h dX0_tiresBy_73
def w3_endOf (g : GX) (k0 : Nat) (M : S0) (p1 : Int32) (Q : Int32 → S0 → Prop) : Prop :=
    ((p1 < 0) → (Q (0 : Int32) M)) ∧ ((¬ p1 < 0) → ((((3 : Int32) ≤ p1) → (Q (0 : Int32) M)) ∧ ((¬ (3 : Int32) ≤ p1) → ((vp_in p1 3) ∧ (Q (M (k0 + 2) (Int32.toNatClampNeg p1)) M)))))
set_option maxHeartbeats 4000000 in
set_option maxRecDepth 20000 in
theorem c3_endOf {B : BX} {a : Nat → Nat} {g : GX} {k0 : Nat} {M : S0} {p1 : Int32} {Q : Int32 → S0 → Prop} (hp_k0 : isText g k0) (h : w3_endOf g k0 M p1 Q) : KI B (wl (66 + 3 * g.2) a (shX B.2.1 a g.1)) yX3_endOf cX3_endOf 2 (some .int) 0 0 [.ref (a k0), .int p1] M Q := by
  rw [w3_endOf] at h
  refine KI_of (by decide +kernel) (Nat.le_of_ble_eq_true rfl) (fun E C hR => ?_)
  change V B E 2 (wl (66 + 3 * g.2) a (shX B.2.1 a g.1) M) 0 [(0, .ref (a k0)), (1, .int p1)] []
  change Ok B E cX3_endOf 2 RX3 0 0 at C
  refine v_iload_n C 1 dX3_endOf_0 rfl rfl ?_
  refine v_if_lt C dX3_endOf_1 (tgt := 22) (by decide) (fun c => ?_) (fun c => ?_)
  · replace h := h.1 c
    refine v_iconst C dX3_endOf_22 (v := (0 : Int32)) (by decide) ?_
    exact hR _ _ _ _ h dX3_endOf_23
  · replace h := h.2 c
    refine v_iload_n C 1 dX3_endOf_4 rfl rfl ?_
    refine v_aload_n C 0 dX3_endOf_5 rfl rfl ?_
    refine fX3_3_g_ends C hp_k0 dX3_endOf_6 ?_
    refine v_alen (k := (k0 + 2)) (t := 0) C (xlt_t hp_k0 (by decide)) (sh_t2 hp_k0 _) rfl (v := (3 : Int32)) rfl dX3_endOf_9 ?_
    refine v_icmp_ge C dX3_endOf_10 (tgt := 22) (by decide) (fun c => ?_) (fun c => ?_)
    · replace h := h.1 c
      refine v_iconst C dX3_endOf_22 (v := (0 : Int32)) (by decide) ?_
      exact hR _ _ _ _ h dX3_endOf_23
    · replace h := h.2 c
      refine v_aload_n C 0 dX3_endOf_13 rfl rfl ?_
      refine fX3_3_g_ends C hp_k0 dX3_endOf_14 ?_
      refine v_iload_n C 1 dX3_endOf_17 rfl rfl ?_
      obtain ⟨hi1, h⟩ := h
      refine v_iald (k := (k0 + 2)) C (xlt_t hp_k0 (by decide)) (sh_t2 hp_k0 _) hi1 dX3_endOf_18 ?_
      refine v_goto C dX3_endOf_19 (tgt := 23) (by decide) ?_
      exact hR _ _ _ _ h dX3_endOf_23
def w3_codeAt (g : GX) (k0 : Nat) (M : S0) (p1 : Int32) (Q : Int32 → S0 → Prop) : Prop :=
    ((p1 < 0) → (Q (0 : Int32) M)) ∧ ((¬ p1 < 0) → ((((nI (g.1 k0)) ≤ p1) → (Q (0 : Int32) M)) ∧ ((¬ (nI (g.1 k0)) ≤ p1) → ((vp_in p1 (g.1 k0)) ∧ (Q (M (k0 + 1) (Int32.toNatClampNeg p1)) M)))))
set_option maxHeartbeats 4000000 in
set_option maxRecDepth 20000 in
theorem c3_codeAt {B : BX} {a : Nat → Nat} {g : GX} {k0 : Nat} {M : S0} {p1 : Int32} {Q : Int32 → S0 → Prop} (hp_k0 : isText g k0) (h : w3_codeAt g k0 M p1 Q) : KI B (wl (66 + 3 * g.2) a (shX B.2.1 a g.1)) yX3_codeAt cX3_codeAt 2 (some .int) 0 0 [.ref (a k0), .int p1] M Q := by
  rw [w3_codeAt] at h
  refine KI_of (by decide +kernel) (Nat.le_of_ble_eq_true rfl) (fun E C hR => ?_)
  change V B E 2 (wl (66 + 3 * g.2) a (shX B.2.1 a g.1) M) 0 [(0, .ref (a k0)), (1, .int p1)] []
  change Ok B E cX3_codeAt 2 RX3 0 0 at C
  refine v_iload_n C 1 dX3_codeAt_0 rfl rfl ?_
  refine v_if_lt C dX3_codeAt_1 (tgt := 22) (by decide) (fun c => ?_) (fun c => ?_)
  · replace h := h.1 c
    refine v_iconst C dX3_codeAt_22 (v := (0 : Int32)) (by decide) ?_
    exact hR _ _ _ _ h dX3_codeAt_23
  · replace h := h.2 c
    refine v_iload_n C 1 dX3_codeAt_4 rfl rfl ?_
    refine v_aload_n C 0 dX3_codeAt_5 rfl rfl ?_
    refine fX3_3_g_code C hp_k0 dX3_codeAt_6 ?_
    refine v_alen (k := (k0 + 1)) (t := 0) C (xlt_t hp_k0 (by decide)) (sh_t1 hp_k0 _) rfl (v := (nI (g.1 k0))) rfl dX3_codeAt_9 ?_
    refine v_icmp_ge C dX3_codeAt_10 (tgt := 22) (by decide) (fun c => ?_) (fun c => ?_)
    · replace h := h.1 c
      refine v_iconst C dX3_codeAt_22 (v := (0 : Int32)) (by decide) ?_
      exact hR _ _ _ _ h dX3_codeAt_23
    · replace h := h.2 c
      refine v_aload_n C 0 dX3_codeAt_13 rfl rfl ?_
      refine fX3_3_g_code C hp_k0 dX3_codeAt_14 ?_
      refine v_iload_n C 1 dX3_codeAt_17 rfl rfl ?_
      obtain ⟨hi1, h⟩ := h
      refine v_iald (k := (k0 + 1)) C (xlt_t hp_k0 (by decide)) (sh_t1 hp_k0 _) hi1 dX3_codeAt_18 ?_
      refine v_goto C dX3_codeAt_19 (tgt := 23) (by decide) ?_
      exact hR _ _ _ _ h dX3_codeAt_23
def w4_joined (g : GX) (M : S0) (p1 : Int32) (p2 : Int32) (p3 : Int32) (Q : Int32 → S0 → Prop) : Prop :=
    ((p1.toInt = -18) → (((¬ p2 = 0) → (Q (1 : Int32) M)) ∧ ((p2 = 0) → (((p3 = 0) → (Q (0 : Int32) M)) ∧ ((¬ p3 = 0) → (Q (1 : Int32) M)))))) ∧ ((p1.toInt = -17) → (((p2 = 0) → (Q (0 : Int32) M)) ∧ ((¬ p2 = 0) → (((p3 = 0) → (Q (0 : Int32) M)) ∧ ((¬ p3 = 0) → (Q (1 : Int32) M)))))) ∧ ((p1.toInt = -16) → (((¬ p2 = p3) → (Q (0 : Int32) M)) ∧ ((p2 = p3) → (Q (1 : Int32) M)))) ∧ ((p1.toInt = -15) → (((p3 ≤ p2) → (Q (0 : Int32) M)) ∧ ((¬ p3 ≤ p2) → (Q (1 : Int32) M)))) ∧ ((p1.toInt = -14) → (Q (0 : Int32) M)) ∧ ((p1.toInt = -13) → (Q (p2 * p3) M)) ∧ ((p1.toInt = -12) → (Q (p2 - p3) M)) ∧ ((p1.toInt = -11) → (Q (p2 + p3) M)) ∧ ((p1.toInt < -18 ∨ -11 < p1.toInt) → (Q (0 : Int32) M))
set_option maxHeartbeats 4000000 in
set_option maxRecDepth 20000 in
theorem c4_joined {B : BX} {a : Nat → Nat} {g : GX} {M : S0} {p1 : Int32} {p2 : Int32} {p3 : Int32} {Q : Int32 → S0 → Prop} (h : w4_joined g M p1 p2 p3 Q) : KI B (wl (66 + 3 * g.2) a (shX B.2.1 a g.1)) yX4_joined cX4_joined 3 (some .int) 0 0 [.int p1, .int p2, .int p3] M Q := by
  rw [w4_joined] at h
  refine KI_of (by decide +kernel) (Nat.le_of_ble_eq_true rfl) (fun E C hR => ?_)
  change V B E 3 (wl (66 + 3 * g.2) a (shX B.2.1 a g.1) M) 0 [(0, .int p1), (1, .int p2), (2, .int p3)] []
  change Ok B E cX4_joined 3 RX4 0 0 at C
  refine v_iload_n C 0 dX4_joined_0 rfl rfl ?_
  refine v_sw C dX4_joined_1 [96, 82, 71, 60, 110, 56, 52, 48] (by decide) (by decide) (tgt := 110) (by decide) (fun j t ht hx => ?_) (fun c => ?_)
  · match j, ht, hx with
    | 0, ht, hx =>
      obtain rfl : 96 = t := Option.some.inj ht
      replace h := h.1 (by omega)
      refine v_iload_n C 1 dX4_joined_96 rfl rfl ?_
      refine v_if_ne C dX4_joined_97 (tgt := 104) (by decide) (fun c => ?_) (fun c => ?_)
      · replace h := h.1 c
        refine v_iconst C dX4_joined_104 (v := (1 : Int32)) (by decide) ?_
        refine v_goto C dX4_joined_105 (tgt := 109) (by decide) ?_
        exact hR _ _ _ _ h dX4_joined_109
      · replace h := h.2 c
        refine v_iload_n C 2 dX4_joined_100 rfl rfl ?_
        refine v_if_eq C dX4_joined_101 (tgt := 108) (by decide) (fun c => ?_) (fun c => ?_)
        · replace h := h.1 c
          refine v_iconst C dX4_joined_108 (v := (0 : Int32)) (by decide) ?_
          exact hR _ _ _ _ h dX4_joined_109
        · replace h := h.2 c
          refine v_iconst C dX4_joined_104 (v := (1 : Int32)) (by decide) ?_
          refine v_goto C dX4_joined_105 (tgt := 109) (by decide) ?_
          exact hR _ _ _ _ h dX4_joined_109
    | 1, ht, hx =>
      obtain rfl : 82 = t := Option.some.inj ht
      replace h := h.2.1 (by omega)
      refine v_iload_n C 1 dX4_joined_82 rfl rfl ?_
      refine v_if_eq C dX4_joined_83 (tgt := 94) (by decide) (fun c => ?_) (fun c => ?_)
      · replace h := h.1 c
        refine v_iconst C dX4_joined_94 (v := (0 : Int32)) (by decide) ?_
        exact hR _ _ _ _ h dX4_joined_95
      · replace h := h.2 c
        refine v_iload_n C 2 dX4_joined_86 rfl rfl ?_
        refine v_if_eq C dX4_joined_87 (tgt := 94) (by decide) (fun c => ?_) (fun c => ?_)
        · replace h := h.1 c
          refine v_iconst C dX4_joined_94 (v := (0 : Int32)) (by decide) ?_
          exact hR _ _ _ _ h dX4_joined_95
        · replace h := h.2 c
          refine v_iconst C dX4_joined_90 (v := (1 : Int32)) (by decide) ?_
          refine v_goto C dX4_joined_91 (tgt := 95) (by decide) ?_
          exact hR _ _ _ _ h dX4_joined_95
    | 2, ht, hx =>
      obtain rfl : 71 = t := Option.some.inj ht
      replace h := h.2.2.1 (by omega)
      refine v_iload_n C 1 dX4_joined_71 rfl rfl ?_
      refine v_iload_n C 2 dX4_joined_72 rfl rfl ?_
      refine v_icmp_ne C dX4_joined_73 (tgt := 80) (by decide) (fun c => ?_) (fun c => ?_)
      · replace h := h.1 c
        refine v_iconst C dX4_joined_80 (v := (0 : Int32)) (by decide) ?_
        exact hR _ _ _ _ h dX4_joined_81
      · replace h := h.2 c
        refine v_iconst C dX4_joined_76 (v := (1 : Int32)) (by decide) ?_
        refine v_goto C dX4_joined_77 (tgt := 81) (by decide) ?_
        exact hR _ _ _ _ h dX4_joined_81
    | 3, ht, hx =>
      obtain rfl : 60 = t := Option.some.inj ht
      replace h := h.2.2.2.1 (by omega)
      refine v_iload_n C 1 dX4_joined_60 rfl rfl ?_
      refine v_iload_n C 2 dX4_joined_61 rfl rfl ?_
      refine v_icmp_ge C dX4_joined_62 (tgt := 69) (by decide) (fun c => ?_) (fun c => ?_)
      · replace h := h.1 c
        refine v_iconst C dX4_joined_69 (v := (0 : Int32)) (by decide) ?_
        exact hR _ _ _ _ h dX4_joined_70
      · replace h := h.2 c
        refine v_iconst C dX4_joined_65 (v := (1 : Int32)) (by decide) ?_
        refine v_goto C dX4_joined_66 (tgt := 70) (by decide) ?_
        exact hR _ _ _ _ h dX4_joined_70
    | 4, ht, hx =>
      obtain rfl : 110 = t := Option.some.inj ht
      replace h := h.2.2.2.2.1 (by omega)
      refine v_iconst C dX4_joined_110 (v := (0 : Int32)) (by decide) ?_
      exact hR _ _ _ _ h dX4_joined_111
    | 5, ht, hx =>
      obtain rfl : 56 = t := Option.some.inj ht
      replace h := h.2.2.2.2.2.1 (by omega)
      refine v_iload_n C 1 dX4_joined_56 rfl rfl ?_
      refine v_iload_n C 2 dX4_joined_57 rfl rfl ?_
      refine v_imul C dX4_joined_58 ?_
      exact hR _ _ _ _ h dX4_joined_59
    | 6, ht, hx =>
      obtain rfl : 52 = t := Option.some.inj ht
      replace h := h.2.2.2.2.2.2.1 (by omega)
      refine v_iload_n C 1 dX4_joined_52 rfl rfl ?_
      refine v_iload_n C 2 dX4_joined_53 rfl rfl ?_
      refine v_isub C dX4_joined_54 ?_
      exact hR _ _ _ _ h dX4_joined_55
    | 7, ht, hx =>
      obtain rfl : 48 = t := Option.some.inj ht
      replace h := h.2.2.2.2.2.2.2.1 (by omega)
      refine v_iload_n C 1 dX4_joined_48 rfl rfl ?_
      refine v_iload_n C 2 dX4_joined_49 rfl rfl ?_
      refine v_iadd C dX4_joined_50 ?_
      exact hR _ _ _ _ h dX4_joined_51
    | j + 8, ht, hx => simp at ht
  · replace h := h.2.2.2.2.2.2.2.2 c
    refine v_iconst C dX4_joined_110 (v := (0 : Int32)) (by decide) ?_
    exact hR _ _ _ _ h dX4_joined_111
def w4_valueOf_b141 (g : GX) (K46 : S0 → Nat → Int32 → Int32 → Int32 → Prop) (Q : Int32 → S0 → Prop) (M : S0) (v3_141 : Nat) (v4_141 : Int32) (v5_141 : Int32) (v6_141 : Int32) (v7_141 : Int32) : Prop :=
    ((¬ v7_141 = (-19 : Int32)) → (((v5_141 ≤ (1 : Int32)) → (∀ x28 : Int32, x28 = v6_141 + (1 : Int32) → (K46 M v3_141 v4_141 v5_141 x28))) ∧ ((¬ v5_141 ≤ (1 : Int32)) → (∀ x29 : Int32, x29 = v5_141 + (-1 : Int32) → ((vp_in (x29 - (1 : Int32)) 64) ∧ ((vp_in x29 64) ∧ (w4_joined g M v7_141 (M 4 (Int32.toNatClampNeg (x29 - (1 : Int32)))) (M 4 (Int32.toNatClampNeg x29)) (fun r33 M32 => (vp_in (x29 - (1 : Int32)) 64) ∧ (∀ M35 : S0, M35 = up M32 4 (Int32.toNatClampNeg (x29 - (1 : Int32))) r33 → (∀ x36 : Int32, x36 = v6_141 + (1 : Int32) → (K46 M35 v3_141 v4_141 x29 x36))))))))))) ∧ ((v7_141 = (-19 : Int32)) → (((v5_141 ≤ 0) → (((v5_141 ≤ (1 : Int32)) → (∀ x37 : Int32, x37 = v6_141 + (1 : Int32) → (K46 M v3_141 v4_141 v5_141 x37))) ∧ ((¬ v5_141 ≤ (1 : Int32)) → (∀ x38 : Int32, x38 = v5_141 + (-1 : Int32) → ((vp_in (x38 - (1 : Int32)) 64) ∧ ((vp_in x38 64) ∧ (w4_joined g M v7_141 (M 4 (Int32.toNatClampNeg (x38 - (1 : Int32)))) (M 4 (Int32.toNatClampNeg x38)) (fun r42 M41 => (vp_in (x38 - (1 : Int32)) 64) ∧ (∀ M44 : S0, M44 = up M41 4 (Int32.toNatClampNeg (x38 - (1 : Int32))) r42 → (∀ x45 : Int32, x45 = v6_141 + (1 : Int32) → (K46 M44 v3_141 v4_141 x38 x45))))))))))) ∧ ((¬ v5_141 ≤ 0) → ((vp_in (v5_141 - (1 : Int32)) 64) ∧ (((¬ (M 4 (Int32.toNatClampNeg (v5_141 - (1 : Int32)))) = 0) → ((vp_in (v5_141 - (1 : Int32)) 64) ∧ (∀ M48 : S0, M48 = up M 4 (Int32.toNatClampNeg (v5_141 - (1 : Int32))) (0 : Int32) → (∀ x49 : Int32, x49 = v6_141 + (1 : Int32) → (K46 M48 v3_141 v4_141 v5_141 x49))))) ∧ (((M 4 (Int32.toNatClampNeg (v5_141 - (1 : Int32)))) = 0) → ((vp_in (v5_141 - (1 : Int32)) 64) ∧ (∀ M51 : S0, M51 = up M 4 (Int32.toNatClampNeg (v5_141 - (1 : Int32))) (1 : Int32) → (∀ x52 : Int32, x52 = v6_141 + (1 : Int32) → (K46 M51 v3_141 v4_141 v5_141 x52))))))))))
set_option maxHeartbeats 4000000 in
set_option maxRecDepth 20000 in
theorem t4_valueOf_b141 {B : BX} {E : EX} {a : Nat → Nat} {g : GX} {K46 : S0 → Nat → Int32 → Int32 → Int32 → Prop} {Q : Int32 → S0 → Prop} (C : Ok B E cX4_valueOf 8 RX4 1 22) (hR : RetI B E cX4_valueOf 8 (wl (66 + 3 * g.2) a (shX B.2.1 a g.1)) Q) (hK46 : ∀ (M : S0) (v3_46 : Nat) (v4_46 : Int32) (v5_46 : Int32) (v6_46 : Int32), isText g v3_46 → K46 M v3_46 v4_46 v5_46 v6_46 → V B E 8 (wl (66 + 3 * g.2) a (shX B.2.1 a g.1) M) 46 [(0, .ref (a 1)), (3, .ref (a v3_46)), (4, .int v4_46), (5, .int v5_46), (6, .int v6_46)] []) : ∀ (M : S0) (v3_141 : Nat) (v4_141 : Int32) (v5_141 : Int32) (v6_141 : Int32) (v7_141 : Int32), (hp_v3_141 : isText g v3_141) → w4_valueOf_b141 g K46 Q M v3_141 v4_141 v5_141 v6_141 v7_141 → V B E 8 (wl (66 + 3 * g.2) a (shX B.2.1 a g.1) M) 141 [(0, .ref (a 1)), (3, .ref (a v3_141)), (4, .int v4_141), (5, .int v5_141), (6, .int v6_141), (7, .int v7_141)] [] := by
  intro M v3_141 v4_141 v5_141 v6_141 v7_141 hp_v3_141 h
  rw [w4_valueOf_b141] at h
  refine v_iload C 5 dX4_valueOf_141 rfl ?_
  refine v_bipush C dX4_valueOf_143 (v := (-19 : Int32)) (by decide) ?_
  refine v_icmp_ne C dX4_valueOf_145 (tgt := 182) (by decide) (fun c => ?_) (fun c => ?_)
  · replace h := h.1 c
    refine v_iload C 3 dX4_valueOf_182 rfl ?_
    refine v_iconst C dX4_valueOf_184 (v := (1 : Int32)) (by decide) ?_
    refine v_icmp_le C dX4_valueOf_185 (tgt := 221) (by decide) (fun c => ?_) (fun c => ?_)
    · replace h := h.1 c
      obtain ⟨x28, ex28⟩ : ∃ z : Int32, z = v6_141 + (1 : Int32) := ⟨_, rfl⟩
      replace h := h x28 ex28
      refine v_iinc (v := x28) (lv' := [(6, .int x28), (0, .ref (a 1)), (3, .ref (a v3_141)), (4, .int v4_141), (5, .int v5_141), (7, .int v7_141)]) C 4 dX4_valueOf_221 rfl (by rw [ex28]; rfl) (by decide) rfl ?_
      refine v_goto C dX4_valueOf_224 (tgt := 46) (by decide) ?_
      refine v_sub [1, 2, 3, 4, 0] rfl ?_
      exact hK46 M v3_141 v4_141 v5_141 x28 hp_v3_141 h
    · replace h := h.2 c
      obtain ⟨x29, ex29⟩ : ∃ z : Int32, z = v5_141 + (-1 : Int32) := ⟨_, rfl⟩
      replace h := h x29 ex29
      refine v_iinc (v := x29) (lv' := [(5, .int x29), (0, .ref (a 1)), (3, .ref (a v3_141)), (4, .int v4_141), (6, .int v6_141), (7, .int v7_141)]) C 3 dX4_valueOf_188 rfl (by rw [ex29]; rfl) (by decide) rfl ?_
      refine v_aload_n C 1 dX4_valueOf_191 rfl rfl ?_
      refine fX4_4_g_stack C dX4_valueOf_192 ?_
      refine v_iload C 0 dX4_valueOf_195 rfl ?_
      refine v_iconst C dX4_valueOf_197 (v := (1 : Int32)) (by decide) ?_
      refine v_isub C dX4_valueOf_198 ?_
      refine v_iload C 5 dX4_valueOf_199 rfl ?_
      refine v_aload_n C 1 dX4_valueOf_201 rfl rfl ?_
      refine fX4_4_g_stack C dX4_valueOf_202 ?_
      refine v_iload C 0 dX4_valueOf_205 rfl ?_
      refine v_iconst C dX4_valueOf_207 (v := (1 : Int32)) (by decide) ?_
      refine v_isub C dX4_valueOf_208 ?_
      obtain ⟨hi30, h⟩ := h
      refine v_iald (k := 4) C (by omega) rfl hi30 dX4_valueOf_209 ?_
      refine v_aload_n C 1 dX4_valueOf_210 rfl rfl ?_
      refine fX4_4_g_stack C dX4_valueOf_211 ?_
      refine v_iload C 0 dX4_valueOf_214 rfl ?_
      obtain ⟨hi31, h⟩ := h
      refine v_iald (k := 4) C (by omega) rfl hi31 dX4_valueOf_216 ?_
      refine v_callSi (As := [.int v7_141, .int (M 4 (Int32.toNatClampNeg (x29 - (1 : Int32)))), .int (M 4 (Int32.toNatClampNeg x29))]) (rest := [.int (x29 - (1 : Int32)), .ref (a 4)]) C (c4_joined  h) eX4_35 (by omega) (by omega) rfl rfl (Nat.le_of_ble_eq_true rfl) dX4_valueOf_217 (fun r33 M32 h => ?_)
      obtain ⟨hi34, h⟩ := h
      refine v_iast (k := 4) C (by omega) (fun _ => rfl) hi34 dX4_valueOf_220 ?_
      obtain ⟨M35, eM35⟩ : ∃ z : S0, z = up M32 4 (Int32.toNatClampNeg (x29 - (1 : Int32))) r33 := ⟨_, rfl⟩
      rw [← eM35]
      replace h := h M35 eM35
      obtain ⟨x36, ex36⟩ : ∃ z : Int32, z = v6_141 + (1 : Int32) := ⟨_, rfl⟩
      replace h := h x36 ex36
      refine v_iinc (v := x36) (lv' := [(6, .int x36), (5, .int x29), (0, .ref (a 1)), (3, .ref (a v3_141)), (4, .int v4_141), (7, .int v7_141)]) C 4 dX4_valueOf_221 rfl (by rw [ex36]; rfl) (by decide) rfl ?_
      refine v_goto C dX4_valueOf_224 (tgt := 46) (by decide) ?_
      refine v_sub [2, 3, 4, 1, 0] rfl ?_
      exact hK46 M35 v3_141 v4_141 x29 x36 hp_v3_141 h
  · replace h := h.2 c
    refine v_iload C 3 dX4_valueOf_148 rfl ?_
    refine v_if_le C dX4_valueOf_150 (tgt := 182) (by decide) (fun c => ?_) (fun c => ?_)
    · replace h := h.1 c
      refine v_iload C 3 dX4_valueOf_182 rfl ?_
      refine v_iconst C dX4_valueOf_184 (v := (1 : Int32)) (by decide) ?_
      refine v_icmp_le C dX4_valueOf_185 (tgt := 221) (by decide) (fun c => ?_) (fun c => ?_)
      · replace h := h.1 c
        obtain ⟨x37, ex37⟩ : ∃ z : Int32, z = v6_141 + (1 : Int32) := ⟨_, rfl⟩
        replace h := h x37 ex37
        refine v_iinc (v := x37) (lv' := [(6, .int x37), (0, .ref (a 1)), (3, .ref (a v3_141)), (4, .int v4_141), (5, .int v5_141), (7, .int v7_141)]) C 4 dX4_valueOf_221 rfl (by rw [ex37]; rfl) (by decide) rfl ?_
        refine v_goto C dX4_valueOf_224 (tgt := 46) (by decide) ?_
        refine v_sub [1, 2, 3, 4, 0] rfl ?_
        exact hK46 M v3_141 v4_141 v5_141 x37 hp_v3_141 h
      · replace h := h.2 c
        obtain ⟨x38, ex38⟩ : ∃ z : Int32, z = v5_141 + (-1 : Int32) := ⟨_, rfl⟩
        replace h := h x38 ex38
        refine v_iinc (v := x38) (lv' := [(5, .int x38), (0, .ref (a 1)), (3, .ref (a v3_141)), (4, .int v4_141), (6, .int v6_141), (7, .int v7_141)]) C 3 dX4_valueOf_188 rfl (by rw [ex38]; rfl) (by decide) rfl ?_
        refine v_aload_n C 1 dX4_valueOf_191 rfl rfl ?_
        refine fX4_4_g_stack C dX4_valueOf_192 ?_
        refine v_iload C 0 dX4_valueOf_195 rfl ?_
        refine v_iconst C dX4_valueOf_197 (v := (1 : Int32)) (by decide) ?_
        refine v_isub C dX4_valueOf_198 ?_
        refine v_iload C 5 dX4_valueOf_199 rfl ?_
        refine v_aload_n C 1 dX4_valueOf_201 rfl rfl ?_
        refine fX4_4_g_stack C dX4_valueOf_202 ?_
        refine v_iload C 0 dX4_valueOf_205 rfl ?_
        refine v_iconst C dX4_valueOf_207 (v := (1 : Int32)) (by decide) ?_
        refine v_isub C dX4_valueOf_208 ?_
        obtain ⟨hi39, h⟩ := h
        refine v_iald (k := 4) C (by omega) rfl hi39 dX4_valueOf_209 ?_
        refine v_aload_n C 1 dX4_valueOf_210 rfl rfl ?_
        refine fX4_4_g_stack C dX4_valueOf_211 ?_
        refine v_iload C 0 dX4_valueOf_214 rfl ?_
        obtain ⟨hi40, h⟩ := h
        refine v_iald (k := 4) C (by omega) rfl hi40 dX4_valueOf_216 ?_
        refine v_callSi (As := [.int v7_141, .int (M 4 (Int32.toNatClampNeg (x38 - (1 : Int32)))), .int (M 4 (Int32.toNatClampNeg x38))]) (rest := [.int (x38 - (1 : Int32)), .ref (a 4)]) C (c4_joined  h) eX4_35 (by omega) (by omega) rfl rfl (Nat.le_of_ble_eq_true rfl) dX4_valueOf_217 (fun r42 M41 h => ?_)
        obtain ⟨hi43, h⟩ := h
        refine v_iast (k := 4) C (by omega) (fun _ => rfl) hi43 dX4_valueOf_220 ?_
        obtain ⟨M44, eM44⟩ : ∃ z : S0, z = up M41 4 (Int32.toNatClampNeg (x38 - (1 : Int32))) r42 := ⟨_, rfl⟩
        rw [← eM44]
        replace h := h M44 eM44
        obtain ⟨x45, ex45⟩ : ∃ z : Int32, z = v6_141 + (1 : Int32) := ⟨_, rfl⟩
        replace h := h x45 ex45
        refine v_iinc (v := x45) (lv' := [(6, .int x45), (5, .int x38), (0, .ref (a 1)), (3, .ref (a v3_141)), (4, .int v4_141), (7, .int v7_141)]) C 4 dX4_valueOf_221 rfl (by rw [ex45]; rfl) (by decide) rfl ?_
        refine v_goto C dX4_valueOf_224 (tgt := 46) (by decide) ?_
        refine v_sub [2, 3, 4, 1, 0] rfl ?_
        exact hK46 M44 v3_141 v4_141 x38 x45 hp_v3_141 h
    · replace h := h.2 c
      refine v_aload_n C 0 dX4_valueOf_153 rfl rfl ?_
      refine fX4_4_g_stack C dX4_valueOf_154 ?_
      refine v_iload C 3 dX4_valueOf_157 rfl ?_
      refine v_iconst C dX4_valueOf_159 (v := (1 : Int32)) (by decide) ?_
      refine v_isub C dX4_valueOf_160 ?_
      refine v_aload_n C 0 dX4_valueOf_161 rfl rfl ?_
      refine fX4_4_g_stack C dX4_valueOf_162 ?_
      refine v_iload C 3 dX4_valueOf_165 rfl ?_
      refine v_iconst C dX4_valueOf_167 (v := (1 : Int32)) (by decide) ?_
      refine v_isub C dX4_valueOf_168 ?_
      obtain ⟨hi46, h⟩ := h
      refine v_iald (k := 4) C (by omega) rfl hi46 dX4_valueOf_169 ?_
      refine v_if_ne C dX4_valueOf_170 (tgt := 177) (by decide) (fun c => ?_) (fun c => ?_)
      · replace h := h.1 c
        refine v_iconst C dX4_valueOf_177 (v := (0 : Int32)) (by decide) ?_
        obtain ⟨hi47, h⟩ := h
        refine v_iast (k := 4) C (by omega) (fun _ => rfl) hi47 dX4_valueOf_178 ?_
        obtain ⟨M48, eM48⟩ : ∃ z : S0, z = up M 4 (Int32.toNatClampNeg (v5_141 - (1 : Int32))) (0 : Int32) := ⟨_, rfl⟩
        rw [← eM48]
        replace h := h M48 eM48
        refine v_goto C dX4_valueOf_179 (tgt := 221) (by decide) ?_
        obtain ⟨x49, ex49⟩ : ∃ z : Int32, z = v6_141 + (1 : Int32) := ⟨_, rfl⟩
        replace h := h x49 ex49
        refine v_iinc (v := x49) (lv' := [(6, .int x49), (0, .ref (a 1)), (3, .ref (a v3_141)), (4, .int v4_141), (5, .int v5_141), (7, .int v7_141)]) C 4 dX4_valueOf_221 rfl (by rw [ex49]; rfl) (by decide) rfl ?_
        refine v_goto C dX4_valueOf_224 (tgt := 46) (by decide) ?_
        refine v_sub [1, 2, 3, 4, 0] rfl ?_
        exact hK46 M48 v3_141 v4_141 v5_141 x49 hp_v3_141 h
      · replace h := h.2 c
        refine v_iconst C dX4_valueOf_173 (v := (1 : Int32)) (by decide) ?_
        refine v_goto C dX4_valueOf_174 (tgt := 178) (by decide) ?_
        obtain ⟨hi50, h⟩ := h
        refine v_iast (k := 4) C (by omega) (fun _ => rfl) hi50 dX4_valueOf_178 ?_
        obtain ⟨M51, eM51⟩ : ∃ z : S0, z = up M 4 (Int32.toNatClampNeg (v5_141 - (1 : Int32))) (1 : Int32) := ⟨_, rfl⟩
        rw [← eM51]
        replace h := h M51 eM51
        refine v_goto C dX4_valueOf_179 (tgt := 221) (by decide) ?_
        obtain ⟨x52, ex52⟩ : ∃ z : Int32, z = v6_141 + (1 : Int32) := ⟨_, rfl⟩
        replace h := h x52 ex52
        refine v_iinc (v := x52) (lv' := [(6, .int x52), (0, .ref (a 1)), (3, .ref (a v3_141)), (4, .int v4_141), (5, .int v5_141), (7, .int v7_141)]) C 4 dX4_valueOf_221 rfl (by rw [ex52]; rfl) (by decide) rfl ?_
        refine v_goto C dX4_valueOf_224 (tgt := 46) (by decide) ?_
        refine v_sub [1, 2, 3, 4, 0] rfl ?_
        exact hK46 M51 v3_141 v4_141 v5_141 x52 hp_v3_141 h
def w4_valueOf_b46 (g : GX) (Q : Int32 → S0 → Prop) : Nat → S0 → Nat → Int32 → Int32 → Int32 → Prop
  | 0, _, _, _, _, _ => False
  | n + 1, M, v3_46, v4_46, v5_46, v6_46 =>
    ((v4_46 ≤ v6_46) → (((v5_46 ≤ 0) → (Q (0 : Int32) M)) ∧ ((¬ v5_46 ≤ 0) → ((vp_in (0 : Int32) 64) ∧ (Q (M 4 (Int32.toNatClampNeg (0 : Int32))) M))))) ∧ ((¬ v4_46 ≤ v6_46) → (w3_codeAt g v3_46 M v6_46 (fun r10 M9 => ((r10 < (-6 : Int32)) → (((¬ r10 = (-14 : Int32)) → (w4_valueOf_b141 g (w4_valueOf_b46 g  Q n) Q M9 v3_46 v4_46 v5_46 v6_46 r10)) ∧ ((r10 = (-14 : Int32)) → (((v5_46 ≤ 0) → (w4_valueOf_b141 g (w4_valueOf_b46 g  Q n) Q M9 v3_46 v4_46 v5_46 v6_46 r10)) ∧ ((¬ v5_46 ≤ 0) → ((vp_in (v5_46 - (1 : Int32)) 64) ∧ ((vp_in (v5_46 - (1 : Int32)) 64) ∧ (∀ M13 : S0, M13 = up M9 4 (Int32.toNatClampNeg (v5_46 - (1 : Int32))) (-(M9 4 (Int32.toNatClampNeg (v5_46 - (1 : Int32))))) → (∀ x14 : Int32, x14 = v6_46 + (1 : Int32) → (w4_valueOf_b46 g  Q n M13 v3_46 v4_46 v5_46 x14)))))))))) ∧ ((¬ r10 < (-6 : Int32)) → ((((64 : Int32) ≤ v5_46) → (((¬ r10 = (-14 : Int32)) → (w4_valueOf_b141 g (w4_valueOf_b46 g  Q n) Q M9 v3_46 v4_46 v5_46 v6_46 r10)) ∧ ((r10 = (-14 : Int32)) → (((v5_46 ≤ 0) → (w4_valueOf_b141 g (w4_valueOf_b46 g  Q n) Q M9 v3_46 v4_46 v5_46 v6_46 r10)) ∧ ((¬ v5_46 ≤ 0) → ((vp_in (v5_46 - (1 : Int32)) 64) ∧ ((vp_in (v5_46 - (1 : Int32)) 64) ∧ (∀ M17 : S0, M17 = up M9 4 (Int32.toNatClampNeg (v5_46 - (1 : Int32))) (-(M9 4 (Int32.toNatClampNeg (v5_46 - (1 : Int32))))) → (∀ x18 : Int32, x18 = v6_46 + (1 : Int32) → (w4_valueOf_b46 g  Q n M17 v3_46 v4_46 v5_46 x18)))))))))) ∧ ((¬ (64 : Int32) ≤ v5_46) → (((r10 < 0) → ((vp_in ((-1 : Int32) - r10) 6) ∧ ((vp_in v5_46 64) ∧ (∀ M21 : S0, M21 = up M9 4 (Int32.toNatClampNeg v5_46) (M9 3 (Int32.toNatClampNeg ((-1 : Int32) - r10))) → (∀ x22 : Int32, x22 = v5_46 + (1 : Int32) → (∀ x23 : Int32, x23 = v6_46 + (1 : Int32) → (w4_valueOf_b46 g  Q n M21 v3_46 v4_46 x22 x23))))))) ∧ ((¬ r10 < 0) → ((vp_in v5_46 64) ∧ (∀ M25 : S0, M25 = up M9 4 (Int32.toNatClampNeg v5_46) r10 → (∀ x26 : Int32, x26 = v5_46 + (1 : Int32) → (∀ x27 : Int32, x27 = v6_46 + (1 : Int32) → (w4_valueOf_b46 g  Q n M25 v3_46 v4_46 x26 x27)))))))))))))
set_option maxHeartbeats 4000000 in
set_option maxRecDepth 20000 in
theorem t4_valueOf_b46 {B : BX} {E : EX} {a : Nat → Nat} {g : GX} {Q : Int32 → S0 → Prop} (C : Ok B E cX4_valueOf 8 RX4 1 22) (hR : RetI B E cX4_valueOf 8 (wl (66 + 3 * g.2) a (shX B.2.1 a g.1)) Q) : ∀ (n : Nat) (M : S0) (v3_46 : Nat) (v4_46 : Int32) (v5_46 : Int32) (v6_46 : Int32), (hp_v3_46 : isText g v3_46) → w4_valueOf_b46 g  Q n M v3_46 v4_46 v5_46 v6_46 → V B E 8 (wl (66 + 3 * g.2) a (shX B.2.1 a g.1) M) 46 [(0, .ref (a 1)), (3, .ref (a v3_46)), (4, .int v4_46), (5, .int v5_46), (6, .int v6_46)] [] := by
  intro n
  induction n with
  | zero =>
    intro M v3_46 v4_46 v5_46 v6_46 hp_v3_46 h
    exact h.elim
  | succ n ih =>
    intro M v3_46 v4_46 v5_46 v6_46 hp_v3_46 h
    rw [w4_valueOf_b46] at h
    refine v_iload C 4 dX4_valueOf_46 rfl ?_
    refine v_iload C 2 dX4_valueOf_48 rfl ?_
    refine v_icmp_ge C dX4_valueOf_50 (tgt := 227) (by decide) (fun c => ?_) (fun c => ?_)
    · replace h := h.1 c
      refine v_iload C 3 dX4_valueOf_227 rfl ?_
      refine v_if_le C dX4_valueOf_229 (tgt := 241) (by decide) (fun c => ?_) (fun c => ?_)
      · replace h := h.1 c
        refine v_iconst C dX4_valueOf_241 (v := (0 : Int32)) (by decide) ?_
        exact hR _ _ _ _ h dX4_valueOf_242
      · replace h := h.2 c
        refine v_aload_n C 0 dX4_valueOf_232 rfl rfl ?_
        refine fX4_4_g_stack C dX4_valueOf_233 ?_
        refine v_iconst C dX4_valueOf_236 (v := (0 : Int32)) (by decide) ?_
        obtain ⟨hi8, h⟩ := h
        refine v_iald (k := 4) C (by omega) rfl hi8 dX4_valueOf_237 ?_
        refine v_goto C dX4_valueOf_238 (tgt := 242) (by decide) ?_
        exact hR _ _ _ _ h dX4_valueOf_242
    · replace h := h.2 c
      refine v_aload_n C 1 dX4_valueOf_53 rfl rfl ?_
      refine v_iload C 4 dX4_valueOf_54 rfl ?_
      refine v_callVi (k := v3_46) (As := [.int v6_46]) (rest := []) C (c3_codeAt hp_v3_46 h) eX4_32 (by omega) (by omega) (xlt_t (j := 0) hp_v3_46 (by decide)) (sh_t0 hp_v3_46 _) rfl rfl rfl (Nat.le_of_ble_eq_true rfl) dX4_valueOf_56 (fun r10 M9 h => ?_)
      refine v_istore (lv' := [(7, .int r10), (0, .ref (a 1)), (3, .ref (a v3_46)), (4, .int v4_46), (5, .int v5_46), (6, .int v6_46)]) C dX4_valueOf_59 (by decide) rfl ?_
      refine v_iload C 0 dX4_valueOf_61 rfl ?_
      refine v_bipush C dX4_valueOf_63 (v := (-6 : Int32)) (by decide) ?_
      refine v_icmp_lt C dX4_valueOf_65 (tgt := 107) (by decide) (fun c => ?_) (fun c => ?_)
      · replace h := h.1 c
        refine v_iload C 0 dX4_valueOf_107 rfl ?_
        refine v_bipush C dX4_valueOf_109 (v := (-14 : Int32)) (by decide) ?_
        refine v_icmp_ne C dX4_valueOf_111 (tgt := 141) (by decide) (fun c => ?_) (fun c => ?_)
        · replace h := h.1 c
          refine v_sub [1, 2, 3, 4, 5, 0] rfl ?_
          exact t4_valueOf_b141   C hR ih M9 v3_46 v4_46 v5_46 v6_46 r10 hp_v3_46 h
        · replace h := h.2 c
          refine v_iload C 4 dX4_valueOf_114 rfl ?_
          refine v_if_le C dX4_valueOf_116 (tgt := 141) (by decide) (fun c => ?_) (fun c => ?_)
          · replace h := h.1 c
            refine v_sub [1, 2, 3, 4, 5, 0] rfl ?_
            exact t4_valueOf_b141   C hR ih M9 v3_46 v4_46 v5_46 v6_46 r10 hp_v3_46 h
          · replace h := h.2 c
            refine v_aload_n C 1 dX4_valueOf_119 rfl rfl ?_
            refine fX4_4_g_stack C dX4_valueOf_120 ?_
            refine v_iload C 4 dX4_valueOf_123 rfl ?_
            refine v_iconst C dX4_valueOf_125 (v := (1 : Int32)) (by decide) ?_
            refine v_isub C dX4_valueOf_126 ?_
            refine v_aload_n C 1 dX4_valueOf_127 rfl rfl ?_
            refine fX4_4_g_stack C dX4_valueOf_128 ?_
            refine v_iload C 4 dX4_valueOf_131 rfl ?_
            refine v_iconst C dX4_valueOf_133 (v := (1 : Int32)) (by decide) ?_
            refine v_isub C dX4_valueOf_134 ?_
            obtain ⟨hi11, h⟩ := h
            refine v_iald (k := 4) C (by omega) rfl hi11 dX4_valueOf_135 ?_
            refine v_ineg C dX4_valueOf_136 ?_
            obtain ⟨hi12, h⟩ := h
            refine v_iast (k := 4) C (by omega) (fun _ => rfl) hi12 dX4_valueOf_137 ?_
            obtain ⟨M13, eM13⟩ : ∃ z : S0, z = up M9 4 (Int32.toNatClampNeg (v5_46 - (1 : Int32))) (-(M9 4 (Int32.toNatClampNeg (v5_46 - (1 : Int32))))) := ⟨_, rfl⟩
            rw [← eM13]
            replace h := h M13 eM13
            refine v_goto C dX4_valueOf_138 (tgt := 221) (by decide) ?_
            obtain ⟨x14, ex14⟩ : ∃ z : Int32, z = v6_46 + (1 : Int32) := ⟨_, rfl⟩
            replace h := h x14 ex14
            refine v_iinc (v := x14) (lv' := [(6, .int x14), (7, .int r10), (0, .ref (a 1)), (3, .ref (a v3_46)), (4, .int v4_46), (5, .int v5_46)]) C 5 dX4_valueOf_221 rfl (by rw [ex14]; rfl) (by decide) rfl ?_
            refine v_goto C dX4_valueOf_224 (tgt := 46) (by decide) ?_
            refine v_sub [2, 3, 4, 5, 0] rfl ?_
            exact ih M13 v3_46 v4_46 v5_46 x14 hp_v3_46 h
      · replace h := h.2 c
        refine v_iload C 4 dX4_valueOf_68 rfl ?_
        refine v_bipush C dX4_valueOf_70 (v := (64 : Int32)) (by decide) ?_
        refine v_icmp_ge C dX4_valueOf_72 (tgt := 107) (by decide) (fun c => ?_) (fun c => ?_)
        · replace h := h.1 c
          refine v_iload C 0 dX4_valueOf_107 rfl ?_
          refine v_bipush C dX4_valueOf_109 (v := (-14 : Int32)) (by decide) ?_
          refine v_icmp_ne C dX4_valueOf_111 (tgt := 141) (by decide) (fun c => ?_) (fun c => ?_)
          · replace h := h.1 c
            refine v_sub [1, 2, 3, 4, 5, 0] rfl ?_
            exact t4_valueOf_b141   C hR ih M9 v3_46 v4_46 v5_46 v6_46 r10 hp_v3_46 h
          · replace h := h.2 c
            refine v_iload C 4 dX4_valueOf_114 rfl ?_
            refine v_if_le C dX4_valueOf_116 (tgt := 141) (by decide) (fun c => ?_) (fun c => ?_)
            · replace h := h.1 c
              refine v_sub [1, 2, 3, 4, 5, 0] rfl ?_
              exact t4_valueOf_b141   C hR ih M9 v3_46 v4_46 v5_46 v6_46 r10 hp_v3_46 h
            · replace h := h.2 c
              refine v_aload_n C 1 dX4_valueOf_119 rfl rfl ?_
              refine fX4_4_g_stack C dX4_valueOf_120 ?_
              refine v_iload C 4 dX4_valueOf_123 rfl ?_
              refine v_iconst C dX4_valueOf_125 (v := (1 : Int32)) (by decide) ?_
              refine v_isub C dX4_valueOf_126 ?_
              refine v_aload_n C 1 dX4_valueOf_127 rfl rfl ?_
              refine fX4_4_g_stack C dX4_valueOf_128 ?_
              refine v_iload C 4 dX4_valueOf_131 rfl ?_
              refine v_iconst C dX4_valueOf_133 (v := (1 : Int32)) (by decide) ?_
              refine v_isub C dX4_valueOf_134 ?_
              obtain ⟨hi15, h⟩ := h
              refine v_iald (k := 4) C (by omega) rfl hi15 dX4_valueOf_135 ?_
              refine v_ineg C dX4_valueOf_136 ?_
              obtain ⟨hi16, h⟩ := h
              refine v_iast (k := 4) C (by omega) (fun _ => rfl) hi16 dX4_valueOf_137 ?_
              obtain ⟨M17, eM17⟩ : ∃ z : S0, z = up M9 4 (Int32.toNatClampNeg (v5_46 - (1 : Int32))) (-(M9 4 (Int32.toNatClampNeg (v5_46 - (1 : Int32))))) := ⟨_, rfl⟩
              rw [← eM17]
              replace h := h M17 eM17
              refine v_goto C dX4_valueOf_138 (tgt := 221) (by decide) ?_
              obtain ⟨x18, ex18⟩ : ∃ z : Int32, z = v6_46 + (1 : Int32) := ⟨_, rfl⟩
              replace h := h x18 ex18
              refine v_iinc (v := x18) (lv' := [(6, .int x18), (7, .int r10), (0, .ref (a 1)), (3, .ref (a v3_46)), (4, .int v4_46), (5, .int v5_46)]) C 5 dX4_valueOf_221 rfl (by rw [ex18]; rfl) (by decide) rfl ?_
              refine v_goto C dX4_valueOf_224 (tgt := 46) (by decide) ?_
              refine v_sub [2, 3, 4, 5, 0] rfl ?_
              exact ih M17 v3_46 v4_46 v5_46 x18 hp_v3_46 h
        · replace h := h.2 c
          refine v_aload_n C 1 dX4_valueOf_75 rfl rfl ?_
          refine fX4_4_g_stack C dX4_valueOf_76 ?_
          refine v_iload C 4 dX4_valueOf_79 rfl ?_
          refine v_iload C 0 dX4_valueOf_81 rfl ?_
          refine v_if_lt C dX4_valueOf_83 (tgt := 91) (by decide) (fun c => ?_) (fun c => ?_)
          · replace h := h.1 c
            refine v_aload_n C 1 dX4_valueOf_91 rfl rfl ?_
            refine fX4_4_g_values C dX4_valueOf_92 ?_
            refine v_iconst C dX4_valueOf_95 (v := (-1 : Int32)) (by decide) ?_
            refine v_iload C 0 dX4_valueOf_96 rfl ?_
            refine v_isub C dX4_valueOf_98 ?_
            obtain ⟨hi19, h⟩ := h
            refine v_iald (k := 3) C (by omega) rfl hi19 dX4_valueOf_99 ?_
            obtain ⟨hi20, h⟩ := h
            refine v_iast (k := 4) C (by omega) (fun _ => rfl) hi20 dX4_valueOf_100 ?_
            obtain ⟨M21, eM21⟩ : ∃ z : S0, z = up M9 4 (Int32.toNatClampNeg v5_46) (M9 3 (Int32.toNatClampNeg ((-1 : Int32) - r10))) := ⟨_, rfl⟩
            rw [← eM21]
            replace h := h M21 eM21
            obtain ⟨x22, ex22⟩ : ∃ z : Int32, z = v5_46 + (1 : Int32) := ⟨_, rfl⟩
            replace h := h x22 ex22
            refine v_iinc (v := x22) (lv' := [(5, .int x22), (7, .int r10), (0, .ref (a 1)), (3, .ref (a v3_46)), (4, .int v4_46), (6, .int v6_46)]) C 4 dX4_valueOf_101 rfl (by rw [ex22]; rfl) (by decide) rfl ?_
            refine v_goto C dX4_valueOf_104 (tgt := 221) (by decide) ?_
            obtain ⟨x23, ex23⟩ : ∃ z : Int32, z = v6_46 + (1 : Int32) := ⟨_, rfl⟩
            replace h := h x23 ex23
            refine v_iinc (v := x23) (lv' := [(6, .int x23), (5, .int x22), (7, .int r10), (0, .ref (a 1)), (3, .ref (a v3_46)), (4, .int v4_46)]) C 5 dX4_valueOf_221 rfl (by rw [ex23]; rfl) (by decide) rfl ?_
            refine v_goto C dX4_valueOf_224 (tgt := 46) (by decide) ?_
            refine v_sub [3, 4, 5, 1, 0] rfl ?_
            exact ih M21 v3_46 v4_46 x22 x23 hp_v3_46 h
          · replace h := h.2 c
            refine v_iload C 0 dX4_valueOf_86 rfl ?_
            refine v_goto C dX4_valueOf_88 (tgt := 100) (by decide) ?_
            obtain ⟨hi24, h⟩ := h
            refine v_iast (k := 4) C (by omega) (fun _ => rfl) hi24 dX4_valueOf_100 ?_
            obtain ⟨M25, eM25⟩ : ∃ z : S0, z = up M9 4 (Int32.toNatClampNeg v5_46) r10 := ⟨_, rfl⟩
            rw [← eM25]
            replace h := h M25 eM25
            obtain ⟨x26, ex26⟩ : ∃ z : Int32, z = v5_46 + (1 : Int32) := ⟨_, rfl⟩
            replace h := h x26 ex26
            refine v_iinc (v := x26) (lv' := [(5, .int x26), (7, .int r10), (0, .ref (a 1)), (3, .ref (a v3_46)), (4, .int v4_46), (6, .int v6_46)]) C 4 dX4_valueOf_101 rfl (by rw [ex26]; rfl) (by decide) rfl ?_
            refine v_goto C dX4_valueOf_104 (tgt := 221) (by decide) ?_
            obtain ⟨x27, ex27⟩ : ∃ z : Int32, z = v6_46 + (1 : Int32) := ⟨_, rfl⟩
            replace h := h x27 ex27
            refine v_iinc (v := x27) (lv' := [(6, .int x27), (5, .int x26), (7, .int r10), (0, .ref (a 1)), (3, .ref (a v3_46)), (4, .int v4_46)]) C 5 dX4_valueOf_221 rfl (by rw [ex27]; rfl) (by decide) rfl ?_
            refine v_goto C dX4_valueOf_224 (tgt := 46) (by decide) ?_
            refine v_sub [3, 4, 5, 1, 0] rfl ?_
            exact ih M25 v3_46 v4_46 x26 x27 hp_v3_46 h
def w4_valueOf (g : GX) (M : S0) (p1 : Int32) (p2 : Int32) (Q : Int32 → S0 → Prop) : Prop :=
    ((p1 < 0) → (Q (0 : Int32) M)) ∧ ((¬ p1 < 0) → ((((6 : Int32) ≤ p1) → (Q (0 : Int32) M)) ∧ ((¬ (6 : Int32) ≤ p1) → ((vp_in p1 6) ∧ ((((M 2 (Int32.toNatClampNeg p1)) = 0) → (Q (0 : Int32) M)) ∧ ((¬ (M 2 (Int32.toNatClampNeg p1)) = 0) → ((isText g (66 + 3 * (Int32.toNatClampNeg (M 2 (Int32.toNatClampNeg p1)) - 1))) ∧ (w3_endOf g (66 + 3 * (Int32.toNatClampNeg (M 2 (Int32.toNatClampNeg p1)) - 1)) M p2 (fun r4 M3 => w3_endOf g (66 + 3 * (Int32.toNatClampNeg (M 2 (Int32.toNatClampNeg p1)) - 1)) M3 (p2 - (1 : Int32)) (fun r6 M5 => ∃ n7, w4_valueOf_b46 g  Q n7 M5 (66 + 3 * (Int32.toNatClampNeg (M 2 (Int32.toNatClampNeg p1)) - 1)) r4 (0 : Int32) r6))))))))))
set_option maxHeartbeats 4000000 in
set_option maxRecDepth 20000 in
theorem c4_valueOf {B : BX} {a : Nat → Nat} {g : GX} {M : S0} {p1 : Int32} {p2 : Int32} {Q : Int32 → S0 → Prop} (h : w4_valueOf g M p1 p2 Q) : KI B (wl (66 + 3 * g.2) a (shX B.2.1 a g.1)) yX4_valueOf cX4_valueOf 8 (some .int) 1 22 [.ref (a 1), .int p1, .int p2] M Q := by
  rw [w4_valueOf] at h
  refine KI_of (by decide +kernel) (Nat.le_of_ble_eq_true rfl) (fun E C hR => ?_)
  change V B E 8 (wl (66 + 3 * g.2) a (shX B.2.1 a g.1) M) 0 [(0, .ref (a 1)), (1, .int p1), (2, .int p2)] []
  change Ok B E cX4_valueOf 8 RX4 1 22 at C
  refine v_iload_n C 1 dX4_valueOf_0 rfl rfl ?_
  refine v_if_lt C dX4_valueOf_1 (tgt := 19) (by decide) (fun c => ?_) (fun c => ?_)
  · replace h := h.1 c
    refine v_null C dX4_valueOf_19 ?_
    refine v_astoreN_n (lv' := [(3, .null), (0, .ref (a 1)), (1, .int p1), (2, .int p2)]) C dX4_valueOf_20 rfl (by decide) rfl ?_
    refine v_aloadN_n C 0 dX4_valueOf_21 rfl rfl ?_
    refine v_ifnonnullN C dX4_valueOf_22 ?_
    refine v_iconst C dX4_valueOf_25 (v := (0 : Int32)) (by decide) ?_
    exact hR _ _ _ _ h dX4_valueOf_26
  · replace h := h.2 c
    refine v_iload_n C 1 dX4_valueOf_4 rfl rfl ?_
    refine v_bipush C dX4_valueOf_5 (v := (6 : Int32)) (by decide) ?_
    refine v_icmp_ge C dX4_valueOf_7 (tgt := 19) (by decide) (fun c => ?_) (fun c => ?_)
    · replace h := h.1 c
      refine v_null C dX4_valueOf_19 ?_
      refine v_astoreN_n (lv' := [(3, .null), (0, .ref (a 1)), (1, .int p1), (2, .int p2)]) C dX4_valueOf_20 rfl (by decide) rfl ?_
      refine v_aloadN_n C 0 dX4_valueOf_21 rfl rfl ?_
      refine v_ifnonnullN C dX4_valueOf_22 ?_
      refine v_iconst C dX4_valueOf_25 (v := (0 : Int32)) (by decide) ?_
      exact hR _ _ _ _ h dX4_valueOf_26
    · replace h := h.2 c
      refine v_aload_n C 0 dX4_valueOf_10 rfl rfl ?_
      refine fX4_4_g_row C dX4_valueOf_11 ?_
      refine v_iload_n C 1 dX4_valueOf_14 rfl rfl ?_
      obtain ⟨hi1, h⟩ := h
      by_cases c : (M 2 (Int32.toNatClampNeg p1)) = 0
      · replace h := h.1 c
        refine v_aald (k := 2) (t := 4) C (by omega) rfl rfl hi1 (v := .null) (by simp [rowF, c, va_rf]) dX4_valueOf_15 ?_
        refine v_goto C dX4_valueOf_16 (tgt := 20) (by decide) ?_
        refine v_astoreN_n (lv' := [(3, .null), (0, .ref (a 1)), (1, .int p1), (2, .int p2)]) C dX4_valueOf_20 rfl (by decide) rfl ?_
        refine v_aloadN_n C 0 dX4_valueOf_21 rfl rfl ?_
        refine v_ifnonnullN C dX4_valueOf_22 ?_
        refine v_iconst C dX4_valueOf_25 (v := (0 : Int32)) (by decide) ?_
        exact hR _ _ _ _ h dX4_valueOf_26
      · replace h := h.2 c
        refine v_aald (k := 2) (t := 4) C (by omega) rfl rfl hi1 (v := .ref (a (66 + 3 * (Int32.toNatClampNeg (M 2 (Int32.toNatClampNeg p1)) - 1)))) (by simp [rowF, c, va_rf]) dX4_valueOf_15 ?_
        refine v_goto C dX4_valueOf_16 (tgt := 20) (by decide) ?_
        refine v_astore_n (lv' := [(3, .ref (a (66 + 3 * (Int32.toNatClampNeg (M 2 (Int32.toNatClampNeg p1)) - 1)))), (0, .ref (a 1)), (1, .int p1), (2, .int p2)]) C dX4_valueOf_20 rfl (by decide) rfl ?_
        refine v_aload_n C 0 dX4_valueOf_21 rfl rfl ?_
        refine v_ifnonnull C dX4_valueOf_22 (tgt := 27) (by decide) ?_
        refine v_aload_n C 0 dX4_valueOf_27 rfl rfl ?_
        refine v_iload_n C 3 dX4_valueOf_28 rfl rfl ?_
        obtain ⟨hf2, h⟩ := h
        refine v_callVi (k := (66 + 3 * (Int32.toNatClampNeg (M 2 (Int32.toNatClampNeg p1)) - 1))) (As := [.int p2]) (rest := []) C (c3_endOf hf2 h) eX4_28 (by omega) (by omega) (xlt_t (j := 0) hf2 (by decide)) (sh_t0 hf2 _) rfl rfl rfl (Nat.le_of_ble_eq_true rfl) dX4_valueOf_29 (fun r4 M3 h => ?_)
        refine v_istore (lv' := [(4, .int r4), (3, .ref (a (66 + 3 * (Int32.toNatClampNeg (M 2 (Int32.toNatClampNeg p1)) - 1)))), (0, .ref (a 1)), (1, .int p1), (2, .int p2)]) C dX4_valueOf_32 (by decide) rfl ?_
        refine v_iconst C dX4_valueOf_34 (v := (0 : Int32)) (by decide) ?_
        refine v_istore (lv' := [(5, .int (0 : Int32)), (4, .int r4), (3, .ref (a (66 + 3 * (Int32.toNatClampNeg (M 2 (Int32.toNatClampNeg p1)) - 1)))), (0, .ref (a 1)), (1, .int p1), (2, .int p2)]) C dX4_valueOf_35 (by decide) rfl ?_
        refine v_aload_n C 2 dX4_valueOf_37 rfl rfl ?_
        refine v_iload_n C 5 dX4_valueOf_38 rfl rfl ?_
        refine v_iconst C dX4_valueOf_39 (v := (1 : Int32)) (by decide) ?_
        refine v_isub C dX4_valueOf_40 ?_
        refine v_callVi (k := (66 + 3 * (Int32.toNatClampNeg (M 2 (Int32.toNatClampNeg p1)) - 1))) (As := [.int (p2 - (1 : Int32))]) (rest := []) C (c3_endOf hf2 h) eX4_28 (by omega) (by omega) (xlt_t (j := 0) hf2 (by decide)) (sh_t0 hf2 _) rfl rfl rfl (Nat.le_of_ble_eq_true rfl) dX4_valueOf_41 (fun r6 M5 h => ?_)
        refine v_istore (lv' := [(6, .int r6), (5, .int (0 : Int32)), (4, .int r4), (3, .ref (a (66 + 3 * (Int32.toNatClampNeg (M 2 (Int32.toNatClampNeg p1)) - 1)))), (0, .ref (a 1)), (1, .int p1), (2, .int p2)]) C dX4_valueOf_44 (by decide) rfl ?_
        obtain ⟨n7, h⟩ := h
        refine v_sub [4, 3, 2, 1, 0] rfl ?_
        exact t4_valueOf_b46   C hR  n7 M5 (66 + 3 * (Int32.toNatClampNeg (M 2 (Int32.toNatClampNeg p1)) - 1)) r4 (0 : Int32) r6 hf2 h
def w5_bounded (g : GX) (M : S0) (p1 : Int32) (p2 : Int32) (p3 : Int32) (Q : Int32 → S0 → Prop) : Prop :=
    ((p2 ≤ p1) → (((p1 ≤ p3) → (Q p1 M)) ∧ ((¬ p1 ≤ p3) → (Q p3 M)))) ∧ ((¬ p2 ≤ p1) → (Q p2 M))
set_option maxHeartbeats 4000000 in
set_option maxRecDepth 20000 in
theorem c5_bounded {B : BX} {a : Nat → Nat} {g : GX} {M : S0} {p1 : Int32} {p2 : Int32} {p3 : Int32} {Q : Int32 → S0 → Prop} (h : w5_bounded g M p1 p2 p3 Q) : KI B (wl (66 + 3 * g.2) a (shX B.2.1 a g.1)) yX5_bounded cX5_bounded 3 (some .int) 0 0 [.int p1, .int p2, .int p3] M Q := by
  rw [w5_bounded] at h
  refine KI_of (by decide +kernel) (Nat.le_of_ble_eq_true rfl) (fun E C hR => ?_)
  change V B E 3 (wl (66 + 3 * g.2) a (shX B.2.1 a g.1) M) 0 [(0, .int p1), (1, .int p2), (2, .int p3)] []
  change Ok B E cX5_bounded 3 RX5 0 0 at C
  refine v_iload_n C 0 dX5_bounded_0 rfl rfl ?_
  refine v_iload_n C 1 dX5_bounded_1 rfl rfl ?_
  refine v_icmp_ge C dX5_bounded_2 (tgt := 9) (by decide) (fun c => ?_) (fun c => ?_)
  · replace h := h.1 c
    refine v_iload_n C 0 dX5_bounded_9 rfl rfl ?_
    refine v_iload_n C 2 dX5_bounded_10 rfl rfl ?_
    refine v_icmp_le C dX5_bounded_11 (tgt := 18) (by decide) (fun c => ?_) (fun c => ?_)
    · replace h := h.1 c
      refine v_iload_n C 0 dX5_bounded_18 rfl rfl ?_
      exact hR _ _ _ _ h dX5_bounded_19
    · replace h := h.2 c
      refine v_iload_n C 2 dX5_bounded_14 rfl rfl ?_
      refine v_goto C dX5_bounded_15 (tgt := 19) (by decide) ?_
      exact hR _ _ _ _ h dX5_bounded_19
  · replace h := h.2 c
    refine v_iload_n C 1 dX5_bounded_5 rfl rfl ?_
    refine v_goto C dX5_bounded_6 (tgt := 19) (by decide) ?_
    exact hR _ _ _ _ h dX5_bounded_19
def w0_power (g : GX) (b : Nat) (M : S0) (p1 : Int32) (p2 : Int32) (Q : Int32 → S0 → Prop) : Prop :=
    w0_areTwo g b M p1 p2 (fun r2 M1 => ((¬ r2 = 0) → (w0_nameValues g b M1 p1 p2 (fun M3 => w4_valueOf g M3 (M3 b 9) (1 : Int32) (fun r5 M4 => ((r5 = 0) → (w0_throwsBy g b M4 (0 : Int32) p1 p2 (fun r7 M6 => ((r7 = 0) → (w4_valueOf g M6 (M6 b 9) (0 : Int32) (fun r9 M8 => w5_bounded g M8 r9 (0 : Int32) (99 : Int32) (fun r11 M10 => w0_playsBy g b M10 r11 p1 (fun r13 M12 => w5_bounded g M12 r13 (0 : Int32) (999 : Int32) (fun r15 M14 => Q r15 M14)))))) ∧ ((¬ r7 = 0) → (Q (-1 : Int32) M6))))) ∧ ((¬ r5 = 0) → (w0_throwsBy g b M4 (1 : Int32) p1 p2 (fun r17 M16 => ((r17 = 0) → (w4_valueOf g M16 (M16 b 9) (0 : Int32) (fun r19 M18 => w5_bounded g M18 r19 (0 : Int32) (99 : Int32) (fun r21 M20 => w0_playsBy g b M20 r21 p1 (fun r23 M22 => w5_bounded g M22 r23 (0 : Int32) (999 : Int32) (fun r25 M24 => Q r25 M24)))))) ∧ ((¬ r17 = 0) → (Q (-1 : Int32) M16))))))))) ∧ ((r2 = 0) → (Q (0 : Int32) M1)))
set_option maxHeartbeats 4000000 in
set_option maxRecDepth 20000 in
theorem c0_power {B : BX} {a : Nat → Nat} {g : GX} {b : Nat} {M : S0} {p1 : Int32} {p2 : Int32} {Q : Int32 → S0 → Prop} (hp_b : isClub b) (h : w0_power g b M p1 p2 Q) : KI B (wl (66 + 3 * g.2) a (shX B.2.1 a g.1)) yX0_power cX0_power 4 (some .int) 2 49 [.ref (a b), .int p1, .int p2] M Q := by
  rw [w0_power] at h
  refine KI_of (by decide +kernel) (Nat.le_of_ble_eq_true rfl) (fun E C hR => ?_)
  change V B E 4 (wl (66 + 3 * g.2) a (shX B.2.1 a g.1) M) 0 [(0, .ref (a b)), (1, .int p1), (2, .int p2)] []
  change Ok B E cX0_power 4 RX0 2 49 at C
  refine v_aload_n C 0 dX0_power_0 rfl rfl ?_
  refine v_iload_n C 1 dX0_power_1 rfl rfl ?_
  refine v_iload_n C 2 dX0_power_2 rfl rfl ?_
  refine v_callVi (k := b) (As := [.int p1, .int p2]) (rest := []) C (c0_areTwo hp_b h) eX0_66 (by omega) (by omega) (xlt_c (j := 0) hp_b (by decide)) (sh_c0 hp_b _) rfl rfl rfl (Nat.le_of_ble_eq_true rfl) dX0_power_3 (fun r2 M1 h => ?_)
  refine v_if_ne C dX0_power_6 (tgt := 11) (by decide) (fun c => ?_) (fun c => ?_)
  · replace h := h.1 c
    refine v_aload_n C 0 dX0_power_11 rfl rfl ?_
    refine v_iload_n C 1 dX0_power_12 rfl rfl ?_
    refine v_iload_n C 2 dX0_power_13 rfl rfl ?_
    refine v_callVv (k := b) (As := [.int p1, .int p2]) (rest := []) C (c0_nameValues hp_b h) eX0_70 (by omega) (by omega) (xlt_c (j := 0) hp_b (by decide)) (sh_c0 hp_b _) rfl rfl rfl (Nat.le_of_ble_eq_true rfl) dX0_power_14 (fun M3 h => ?_)
    refine v_aload_n C 0 dX0_power_17 rfl rfl ?_
    refine v_aload_n C 0 dX0_power_18 rfl rfl ?_
    refine fX0_0_g_texts C hp_b dX0_power_19 ?_
    refine v_aload_n C 0 dX0_power_22 rfl rfl ?_
    refine fX0_0_g_rule C hp_b dX0_power_23 ?_
    refine v_iconst C dX0_power_26 (v := (1 : Int32)) (by decide) ?_
    refine v_callVi (k := 1) (As := [.int (M3 b 9), .int (1 : Int32)]) (rest := [.ref (a b)]) C (c4_valueOf  h) eX0_74 (by omega) (by omega) (by omega) rfl rfl rfl rfl (Nat.le_of_ble_eq_true rfl) dX0_power_27 (fun r5 M4 h => ?_)
    refine v_if_eq C dX0_power_30 (tgt := 37) (by decide) (fun c => ?_) (fun c => ?_)
    · replace h := h.1 c
      refine v_iconst C dX0_power_37 (v := (0 : Int32)) (by decide) ?_
      refine v_iload_n C 1 dX0_power_38 rfl rfl ?_
      refine v_iload_n C 2 dX0_power_39 rfl rfl ?_
      refine v_callVi (k := b) (As := [.int (0 : Int32), .int p1, .int p2]) (rest := []) C (c0_throwsBy hp_b h) eX0_78 (by omega) (by omega) (xlt_c (j := 0) hp_b (by decide)) (sh_c0 hp_b _) rfl rfl rfl (Nat.le_of_ble_eq_true rfl) dX0_power_40 (fun r7 M6 h => ?_)
      refine v_if_eq C dX0_power_43 (tgt := 48) (by decide) (fun c => ?_) (fun c => ?_)
      · replace h := h.1 c
        refine v_aload_n C 0 dX0_power_48 rfl rfl ?_
        refine fX0_0_g_texts C hp_b dX0_power_49 ?_
        refine v_aload_n C 0 dX0_power_52 rfl rfl ?_
        refine fX0_0_g_rule C hp_b dX0_power_53 ?_
        refine v_iconst C dX0_power_56 (v := (0 : Int32)) (by decide) ?_
        refine v_callVi (k := 1) (As := [.int (M6 b 9), .int (0 : Int32)]) (rest := []) C (c4_valueOf  h) eX0_74 (by omega) (by omega) (by omega) rfl rfl rfl rfl (Nat.le_of_ble_eq_true rfl) dX0_power_57 (fun r9 M8 h => ?_)
        refine v_iconst C dX0_power_60 (v := (0 : Int32)) (by decide) ?_
        refine v_bipush C dX0_power_61 (v := (99 : Int32)) (by decide) ?_
        refine v_callNi (As := [.int r9, .int (0 : Int32), .int (99 : Int32)]) (rest := []) C (c5_bounded  h) eX0_82 (by omega) (by omega) rfl rfl (Nat.le_of_ble_eq_true rfl) dX0_power_63 (fun r11 M10 h => ?_)
        refine v_istore_n (lv' := [(3, .int r11), (0, .ref (a b)), (1, .int p1), (2, .int p2)]) C dX0_power_66 rfl (by decide) rfl ?_
        refine v_aload_n C 1 dX0_power_67 rfl rfl ?_
        refine v_iload_n C 0 dX0_power_68 rfl rfl ?_
        refine v_iload_n C 2 dX0_power_69 rfl rfl ?_
        refine v_callVi (k := b) (As := [.int r11, .int p1]) (rest := []) C (c0_playsBy hp_b h) eX0_86 (by omega) (by omega) (xlt_c (j := 0) hp_b (by decide)) (sh_c0 hp_b _) rfl rfl rfl (Nat.le_of_ble_eq_true rfl) dX0_power_70 (fun r13 M12 h => ?_)
        refine v_iconst C dX0_power_73 (v := (0 : Int32)) (by decide) ?_
        refine v_sipush C dX0_power_74 (v := (999 : Int32)) (by decide) ?_
        refine v_callNi (As := [.int r13, .int (0 : Int32), .int (999 : Int32)]) (rest := []) C (c5_bounded  h) eX0_82 (by omega) (by omega) rfl rfl (Nat.le_of_ble_eq_true rfl) dX0_power_77 (fun r15 M14 h => ?_)
        exact hR _ _ _ _ h dX0_power_80
      · replace h := h.2 c
        refine v_iconst C dX0_power_46 (v := (-1 : Int32)) (by decide) ?_
        exact hR _ _ _ _ h dX0_power_47
    · replace h := h.2 c
      refine v_iconst C dX0_power_33 (v := (1 : Int32)) (by decide) ?_
      refine v_goto C dX0_power_34 (tgt := 38) (by decide) ?_
      refine v_iload_n C 1 dX0_power_38 rfl rfl ?_
      refine v_iload_n C 2 dX0_power_39 rfl rfl ?_
      refine v_callVi (k := b) (As := [.int (1 : Int32), .int p1, .int p2]) (rest := []) C (c0_throwsBy hp_b h) eX0_78 (by omega) (by omega) (xlt_c (j := 0) hp_b (by decide)) (sh_c0 hp_b _) rfl rfl rfl (Nat.le_of_ble_eq_true rfl) dX0_power_40 (fun r17 M16 h => ?_)
      refine v_if_eq C dX0_power_43 (tgt := 48) (by decide) (fun c => ?_) (fun c => ?_)
      · replace h := h.1 c
        refine v_aload_n C 0 dX0_power_48 rfl rfl ?_
        refine fX0_0_g_texts C hp_b dX0_power_49 ?_
        refine v_aload_n C 0 dX0_power_52 rfl rfl ?_
        refine fX0_0_g_rule C hp_b dX0_power_53 ?_
        refine v_iconst C dX0_power_56 (v := (0 : Int32)) (by decide) ?_
        refine v_callVi (k := 1) (As := [.int (M16 b 9), .int (0 : Int32)]) (rest := []) C (c4_valueOf  h) eX0_74 (by omega) (by omega) (by omega) rfl rfl rfl rfl (Nat.le_of_ble_eq_true rfl) dX0_power_57 (fun r19 M18 h => ?_)
        refine v_iconst C dX0_power_60 (v := (0 : Int32)) (by decide) ?_
        refine v_bipush C dX0_power_61 (v := (99 : Int32)) (by decide) ?_
        refine v_callNi (As := [.int r19, .int (0 : Int32), .int (99 : Int32)]) (rest := []) C (c5_bounded  h) eX0_82 (by omega) (by omega) rfl rfl (Nat.le_of_ble_eq_true rfl) dX0_power_63 (fun r21 M20 h => ?_)
        refine v_istore_n (lv' := [(3, .int r21), (0, .ref (a b)), (1, .int p1), (2, .int p2)]) C dX0_power_66 rfl (by decide) rfl ?_
        refine v_aload_n C 1 dX0_power_67 rfl rfl ?_
        refine v_iload_n C 0 dX0_power_68 rfl rfl ?_
        refine v_iload_n C 2 dX0_power_69 rfl rfl ?_
        refine v_callVi (k := b) (As := [.int r21, .int p1]) (rest := []) C (c0_playsBy hp_b h) eX0_86 (by omega) (by omega) (xlt_c (j := 0) hp_b (by decide)) (sh_c0 hp_b _) rfl rfl rfl (Nat.le_of_ble_eq_true rfl) dX0_power_70 (fun r23 M22 h => ?_)
        refine v_iconst C dX0_power_73 (v := (0 : Int32)) (by decide) ?_
        refine v_sipush C dX0_power_74 (v := (999 : Int32)) (by decide) ?_
        refine v_callNi (As := [.int r23, .int (0 : Int32), .int (999 : Int32)]) (rest := []) C (c5_bounded  h) eX0_82 (by omega) (by omega) rfl rfl (Nat.le_of_ble_eq_true rfl) dX0_power_77 (fun r25 M24 h => ?_)
        exact hR _ _ _ _ h dX0_power_80
      · replace h := h.2 c
        refine v_iconst C dX0_power_46 (v := (-1 : Int32)) (by decide) ?_
        exact hR _ _ _ _ h dX0_power_47
  · replace h := h.2 c
    refine v_iconst C dX0_power_9 (v := (0 : Int32)) (by decide) ?_
    exact hR _ _ _ _ h dX0_power_10
