def w5_setPlace (g : GX) (M : S0) (p1 : Int32) (p2 : Int32) (Q : Int32 → S0 → Prop) : Prop :=
    w5_isWithin g M p1 (0 : Int32) (7 : Int32) (fun r2 M1 => ((r2 = 0) → (Q (-1000 : Int32) M1)) ∧ ((¬ r2 = 0) → (((p2 = (-1 : Int32)) → (w0_placeOf g 10 M1 p1 (fun r4 M3 => w0_bring g 10 M3 p1 p2 (fun M5 => Q r4 M5)))) ∧ ((¬ p2 = (-1 : Int32)) → (w0_isPlayer g 10 M1 p2 (fun r7 M6 => ((¬ r7 = 0) → (w0_placeOf g 10 M6 p1 (fun r9 M8 => w0_bring g 10 M8 p1 p2 (fun M10 => Q r9 M10)))) ∧ ((r7 = 0) → (Q (-1000 : Int32) M6))))))))
set_option maxHeartbeats 4000000 in
set_option maxRecDepth 20000 in
theorem c5_setPlace {B : BX} {a : Nat → Nat} {g : GX} {M : S0} {p1 : Int32} {p2 : Int32} {Q : Int32 → S0 → Prop} (h : w5_setPlace g M p1 p2 Q) : KI B (wl (66 + 3 * g.2) a (shX B.2.1 a g.1)) yX5_setPlace cX5_setPlace 4 (some .int) 2 45 [.ref (a 0), .int p1, .int p2] M Q := by
  rw [w5_setPlace] at h
  refine KI_of (by decide +kernel) (Nat.le_of_ble_eq_true rfl) (fun E C hR => ?_)
  change V B E 4 (wl (66 + 3 * g.2) a (shX B.2.1 a g.1) M) 0 [(0, .ref (a 0)), (1, .int p1), (2, .int p2)] []
  change Ok B E cX5_setPlace 4 RX5 2 45 at C
  refine v_iload_n C 1 dX5_setPlace_0 rfl rfl ?_
  refine v_iconst C dX5_setPlace_1 (v := (0 : Int32)) (by decide) ?_
  refine v_bipush C dX5_setPlace_2 (v := (7 : Int32)) (by decide) ?_
  refine v_callSi (As := [.int p1, .int (0 : Int32), .int (7 : Int32)]) (rest := []) C (c5_isWithin  h) eX5_82 (by omega) (by omega) rfl rfl (Nat.le_of_ble_eq_true rfl) dX5_setPlace_4 (fun r2 M1 h => ?_)
  refine v_if_eq C dX5_setPlace_7 (tgt := 26) (by decide) (fun c => ?_) (fun c => ?_)
  · replace h := h.1 c
    refine v_sipush C dX5_setPlace_26 (v := (-1000 : Int32)) (by decide) ?_
    exact hR _ _ _ _ h dX5_setPlace_29
  · replace h := h.2 c
    refine v_iload_n C 2 dX5_setPlace_10 rfl rfl ?_
    refine v_iconst C dX5_setPlace_11 (v := (-1 : Int32)) (by decide) ?_
    refine v_icmp_eq C dX5_setPlace_12 (tgt := 30) (by decide) (fun c => ?_) (fun c => ?_)
    · replace h := h.1 c
      refine v_aload_n C 0 dX5_setPlace_30 rfl rfl ?_
      refine fX5_5_g_now C dX5_setPlace_31 ?_
      refine v_iload_n C 1 dX5_setPlace_34 rfl rfl ?_
      refine v_callVi (k := 10) (As := [.int p1]) (rest := []) C (c0_placeOf cl_10 h) eX5_94 (by omega) (by omega) (xlt_c (j := 0) cl_10 (by decide)) (sh_c0 cl_10 _) rfl rfl rfl (Nat.le_of_ble_eq_true rfl) dX5_setPlace_35 (fun r4 M3 h => ?_)
      refine v_istore_n (lv' := [(3, .int r4), (0, .ref (a 0)), (1, .int p1), (2, .int p2)]) C dX5_setPlace_38 rfl (by decide) rfl ?_
      refine v_aload_n C 1 dX5_setPlace_39 rfl rfl ?_
      refine fX5_5_g_now C dX5_setPlace_40 ?_
      refine v_iload_n C 2 dX5_setPlace_43 rfl rfl ?_
      refine v_iload_n C 3 dX5_setPlace_44 rfl rfl ?_
      refine v_callVv (k := 10) (As := [.int p1, .int p2]) (rest := []) C (c0_bring cl_10 h) eX5_97 (by omega) (by omega) (xlt_c (j := 0) cl_10 (by decide)) (sh_c0 cl_10 _) rfl rfl rfl (Nat.le_of_ble_eq_true rfl) dX5_setPlace_45 (fun M5 h => ?_)
      refine v_iload_n C 0 dX5_setPlace_48 rfl rfl ?_
      exact hR _ _ _ _ h dX5_setPlace_49
    · replace h := h.2 c
      refine v_aload_n C 0 dX5_setPlace_15 rfl rfl ?_
      refine fX5_5_g_now C dX5_setPlace_16 ?_
      refine v_iload_n C 2 dX5_setPlace_19 rfl rfl ?_
      refine v_callVi (k := 10) (As := [.int p2]) (rest := []) C (c0_isPlayer cl_10 h) eX5_90 (by omega) (by omega) (xlt_c (j := 0) cl_10 (by decide)) (sh_c0 cl_10 _) rfl rfl rfl (Nat.le_of_ble_eq_true rfl) dX5_setPlace_20 (fun r7 M6 h => ?_)
      refine v_if_ne C dX5_setPlace_23 (tgt := 30) (by decide) (fun c => ?_) (fun c => ?_)
      · replace h := h.1 c
        refine v_aload_n C 0 dX5_setPlace_30 rfl rfl ?_
        refine fX5_5_g_now C dX5_setPlace_31 ?_
        refine v_iload_n C 1 dX5_setPlace_34 rfl rfl ?_
        refine v_callVi (k := 10) (As := [.int p1]) (rest := []) C (c0_placeOf cl_10 h) eX5_94 (by omega) (by omega) (xlt_c (j := 0) cl_10 (by decide)) (sh_c0 cl_10 _) rfl rfl rfl (Nat.le_of_ble_eq_true rfl) dX5_setPlace_35 (fun r9 M8 h => ?_)
        refine v_istore_n (lv' := [(3, .int r9), (0, .ref (a 0)), (1, .int p1), (2, .int p2)]) C dX5_setPlace_38 rfl (by decide) rfl ?_
        refine v_aload_n C 1 dX5_setPlace_39 rfl rfl ?_
        refine fX5_5_g_now C dX5_setPlace_40 ?_
        refine v_iload_n C 2 dX5_setPlace_43 rfl rfl ?_
        refine v_iload_n C 3 dX5_setPlace_44 rfl rfl ?_
        refine v_callVv (k := 10) (As := [.int p1, .int p2]) (rest := []) C (c0_bring cl_10 h) eX5_97 (by omega) (by omega) (xlt_c (j := 0) cl_10 (by decide)) (sh_c0 cl_10 _) rfl rfl rfl (Nat.le_of_ble_eq_true rfl) dX5_setPlace_45 (fun M10 h => ?_)
        refine v_iload_n C 0 dX5_setPlace_48 rfl rfl ?_
        exact hR _ _ _ _ h dX5_setPlace_49
      · replace h := h.2 c
        refine v_sipush C dX5_setPlace_26 (v := (-1000 : Int32)) (by decide) ?_
        exact hR _ _ _ _ h dX5_setPlace_29
def w5_setOf (g : GX) (r1 : Nat) (M : S0) (p2 : Int32) (p3 : Int32) (p4 : Int32) (Q : Int32 → S0 → Prop) : Prop :=
    w0_isPlayer g 10 M p2 (fun r2 M1 => ((r2 = 0) → (Q (-1000 : Int32) M1)) ∧ ((¬ r2 = 0) → ((((6 : Int32) ≤ p2) → (Q (-1000 : Int32) M1)) ∧ ((¬ (6 : Int32) ≤ p2) → (w5_isWithin g M1 p3 (0 : Int32) p4 (fun r4 M3 => ((¬ r4 = 0) → ((vp_in p2 6) ∧ (∀ x6 : Int32, x6 = (M3 r1 (Int32.toNatClampNeg p2)) → ((vp_in p2 6) ∧ (∀ M8 : S0, M8 = up M3 r1 (Int32.toNatClampNeg p2) p3 → (Q x6 M8)))))) ∧ ((r4 = 0) → (Q (-1000 : Int32) M3))))))))
set_option maxHeartbeats 4000000 in
set_option maxRecDepth 20000 in
theorem c5_setOf {B : BX} {a : Nat → Nat} {g : GX} {r1 : Nat} {M : S0} {p2 : Int32} {p3 : Int32} {p4 : Int32} {Q : Int32 → S0 → Prop} (hp_r1 : isCArr r1) (h : w5_setOf g r1 M p2 p3 p4 Q) : KI B (wl (66 + 3 * g.2) a (shX B.2.1 a g.1)) yX5_setOf cX5_setOf 6 (some .int) 1 22 [.ref (a 0), .ref (a r1), .int p2, .int p3, .int p4] M Q := by
  rw [w5_setOf] at h
  refine KI_of (by decide +kernel) (Nat.le_of_ble_eq_true rfl) (fun E C hR => ?_)
  change V B E 6 (wl (66 + 3 * g.2) a (shX B.2.1 a g.1) M) 0 [(0, .ref (a 0)), (1, .ref (a r1)), (2, .int p2), (3, .int p3), (4, .int p4)] []
  change Ok B E cX5_setOf 6 RX5 1 22 at C
  refine v_aload_n C 0 dX5_setOf_0 rfl rfl ?_
  refine fX5_5_g_now C dX5_setOf_1 ?_
  refine v_iload_n C 2 dX5_setOf_4 rfl rfl ?_
  refine v_callVi (k := 10) (As := [.int p2]) (rest := []) C (c0_isPlayer cl_10 h) eX5_90 (by omega) (by omega) (xlt_c (j := 0) cl_10 (by decide)) (sh_c0 cl_10 _) rfl rfl rfl (Nat.le_of_ble_eq_true rfl) dX5_setOf_5 (fun r2 M1 h => ?_)
  refine v_if_eq C dX5_setOf_8 (tgt := 27) (by decide) (fun c => ?_) (fun c => ?_)
  · replace h := h.1 c
    refine v_sipush C dX5_setOf_27 (v := (-1000 : Int32)) (by decide) ?_
    exact hR _ _ _ _ h dX5_setOf_30
  · replace h := h.2 c
    refine v_iload_n C 2 dX5_setOf_11 rfl rfl ?_
    refine v_aload_n C 1 dX5_setOf_12 rfl rfl ?_
    refine v_alen (k := r1) (t := 0) C (xlt_ca hp_r1) (sh_ca hp_r1 _) rfl (v := (6 : Int32)) rfl dX5_setOf_13 ?_
    refine v_icmp_ge C dX5_setOf_14 (tgt := 27) (by decide) (fun c => ?_) (fun c => ?_)
    · replace h := h.1 c
      refine v_sipush C dX5_setOf_27 (v := (-1000 : Int32)) (by decide) ?_
      exact hR _ _ _ _ h dX5_setOf_30
    · replace h := h.2 c
      refine v_iload_n C 3 dX5_setOf_17 rfl rfl ?_
      refine v_iconst C dX5_setOf_18 (v := (0 : Int32)) (by decide) ?_
      refine v_iload C 4 dX5_setOf_19 rfl ?_
      refine v_callSi (As := [.int p3, .int (0 : Int32), .int p4]) (rest := []) C (c5_isWithin  h) eX5_82 (by omega) (by omega) rfl rfl (Nat.le_of_ble_eq_true rfl) dX5_setOf_21 (fun r4 M3 h => ?_)
      refine v_if_ne C dX5_setOf_24 (tgt := 31) (by decide) (fun c => ?_) (fun c => ?_)
      · replace h := h.1 c
        refine v_aload_n C 1 dX5_setOf_31 rfl rfl ?_
        refine v_iload_n C 2 dX5_setOf_32 rfl rfl ?_
        obtain ⟨hi5, h⟩ := h
        refine v_iald (k := r1) C (xlt_ca hp_r1) (sh_ca hp_r1 _) hi5 dX5_setOf_33 ?_
        refine v_nmi (fun x6 ex6 => ?_)
        replace h := h x6 ex6
        refine v_istore (lv' := [(5, .int x6), (0, .ref (a 0)), (1, .ref (a r1)), (2, .int p2), (3, .int p3), (4, .int p4)]) C dX5_setOf_34 (by decide) rfl ?_
        refine v_aload_n C 2 dX5_setOf_36 rfl rfl ?_
        refine v_iload_n C 3 dX5_setOf_37 rfl rfl ?_
        refine v_iload_n C 4 dX5_setOf_38 rfl rfl ?_
        obtain ⟨hi7, h⟩ := h
        refine v_iast (k := r1) C (xlt_ca hp_r1) (sh_ca hp_r1) hi7 dX5_setOf_39 ?_
        obtain ⟨M8, eM8⟩ : ∃ z : S0, z = up M3 r1 (Int32.toNatClampNeg p2) p3 := ⟨_, rfl⟩
        rw [← eM8]
        replace h := h M8 eM8
        refine v_iload C 0 dX5_setOf_40 rfl ?_
        exact hR _ _ _ _ h dX5_setOf_42
      · replace h := h.2 c
        refine v_sipush C dX5_setOf_27 (v := (-1000 : Int32)) (by decide) ?_
        exact hR _ _ _ _ h dX5_setOf_30
def w5_set (g : GX) (M : S0) (p1 : Int32) (p2 : Int32) (p3 : Int32) (Q : Int32 → S0 → Prop) : Prop :=
    ((p1.toInt = 0) → (w5_setRound g M p3 (fun r2 M1 => Q r2 M1))) ∧ ((p1.toInt = 1) → (w5_setPlace g M p2 p3 (fun r4 M3 => Q r4 M3))) ∧ ((p1.toInt = 2) → (w5_setOf g (10 + 2) M p2 p3 (9 : Int32) (fun r6 M5 => Q r6 M5))) ∧ ((p1.toInt = 3) → (w5_setOf g (10 + 3) M p2 p3 (99 : Int32) (fun r8 M7 => Q r8 M7))) ∧ ((p1.toInt < 0 ∨ 3 < p1.toInt) → (Q (-1000 : Int32) M))
set_option maxHeartbeats 4000000 in
set_option maxRecDepth 20000 in
theorem c5_set {B : BX} {a : Nat → Nat} {g : GX} {M : S0} {p1 : Int32} {p2 : Int32} {p3 : Int32} {Q : Int32 → S0 → Prop} (h : w5_set g M p1 p2 p3 Q) : KI B (wl (66 + 3 * g.2) a (shX B.2.1 a g.1)) yX5_set cX5_set 4 (some .int) 3 68 [.ref (a 0), .int p1, .int p2, .int p3] M Q := by
  rw [w5_set] at h
  refine KI_of (by decide +kernel) (Nat.le_of_ble_eq_true rfl) (fun E C hR => ?_)
  change V B E 4 (wl (66 + 3 * g.2) a (shX B.2.1 a g.1) M) 0 [(0, .ref (a 0)), (1, .int p1), (2, .int p2), (3, .int p3)] []
  change Ok B E cX5_set 4 RX5 3 68 at C
  refine v_iload_n C 1 dX5_set_0 rfl rfl ?_
  refine v_sw C dX5_set_1 [32, 38, 45, 61] (by decide) (by decide) (tgt := 77) (by decide) (fun j t ht hx => ?_) (fun c => ?_)
  · match j, ht, hx with
    | 0, ht, hx =>
      obtain rfl : 32 = t := Option.some.inj ht
      replace h := h.1 (by omega)
      refine v_aload_n C 0 dX5_set_32 rfl rfl ?_
      refine v_iload_n C 3 dX5_set_33 rfl rfl ?_
      refine v_callVi (k := 0) (As := [.int p3]) (rest := []) C (c5_setRound  h) eX5_63 (by omega) (by omega) (by omega) rfl rfl rfl rfl (Nat.le_of_ble_eq_true rfl) dX5_set_34 (fun r2 M1 h => ?_)
      exact hR _ _ _ _ h dX5_set_37
    | 1, ht, hx =>
      obtain rfl : 38 = t := Option.some.inj ht
      replace h := h.2.1 (by omega)
      refine v_aload_n C 0 dX5_set_38 rfl rfl ?_
      refine v_iload_n C 2 dX5_set_39 rfl rfl ?_
      refine v_iload_n C 3 dX5_set_40 rfl rfl ?_
      refine v_callVi (k := 0) (As := [.int p2, .int p3]) (rest := []) C (c5_setPlace  h) eX5_67 (by omega) (by omega) (by omega) rfl rfl rfl rfl (Nat.le_of_ble_eq_true rfl) dX5_set_41 (fun r4 M3 h => ?_)
      exact hR _ _ _ _ h dX5_set_44
    | 2, ht, hx =>
      obtain rfl : 45 = t := Option.some.inj ht
      replace h := h.2.2.1 (by omega)
      refine v_aload_n C 0 dX5_set_45 rfl rfl ?_
      refine v_aload_n C 0 dX5_set_46 rfl rfl ?_
      refine fX5_5_g_now C dX5_set_47 ?_
      refine fX5_0_g_number C cl_10 dX5_set_50 ?_
      refine v_iload_n C 2 dX5_set_53 rfl rfl ?_
      refine v_iload_n C 3 dX5_set_54 rfl rfl ?_
      refine v_bipush C dX5_set_55 (v := (9 : Int32)) (by decide) ?_
      refine v_callVi (k := 0) (As := [.ref (a (10 + 2)), .int p2, .int p3, .int (9 : Int32)]) (rest := []) C (c5_setOf (ca_of cl_10 (by decide) (by decide)) h) eX5_75 (by omega) (by omega) (by omega) rfl rfl rfl rfl (Nat.le_of_ble_eq_true rfl) dX5_set_57 (fun r6 M5 h => ?_)
      exact hR _ _ _ _ h dX5_set_60
    | 3, ht, hx =>
      obtain rfl : 61 = t := Option.some.inj ht
      replace h := h.2.2.2.1 (by omega)
      refine v_aload_n C 0 dX5_set_61 rfl rfl ?_
      refine v_aload_n C 0 dX5_set_62 rfl rfl ?_
      refine fX5_5_g_now C dX5_set_63 ?_
      refine fX5_0_g_strong C cl_10 dX5_set_66 ?_
      refine v_iload_n C 2 dX5_set_69 rfl rfl ?_
      refine v_iload_n C 3 dX5_set_70 rfl rfl ?_
      refine v_bipush C dX5_set_71 (v := (99 : Int32)) (by decide) ?_
      refine v_callVi (k := 0) (As := [.ref (a (10 + 3)), .int p2, .int p3, .int (99 : Int32)]) (rest := []) C (c5_setOf (ca_of cl_10 (by decide) (by decide)) h) eX5_75 (by omega) (by omega) (by omega) rfl rfl rfl rfl (Nat.le_of_ble_eq_true rfl) dX5_set_73 (fun r8 M7 h => ?_)
      exact hR _ _ _ _ h dX5_set_76
    | j + 4, ht, hx => simp at ht
  · replace h := h.2.2.2.2 c
    refine v_sipush C dX5_set_77 (v := (-1000 : Int32)) (by decide) ?_
    exact hR _ _ _ _ h dX5_set_80
def w5_player (g : GX) (M : S0) (p1 : Int32) (p2 : Int32) (Q : Int32 → S0 → Prop) : Prop :=
    w0_comes g 10 M p1 p2 (fun r2 M1 => Q r2 M1)
set_option maxHeartbeats 4000000 in
set_option maxRecDepth 20000 in
theorem c5_player {B : BX} {a : Nat → Nat} {g : GX} {M : S0} {p1 : Int32} {p2 : Int32} {Q : Int32 → S0 → Prop} (h : w5_player g M p1 p2 Q) : KI B (wl (66 + 3 * g.2) a (shX B.2.1 a g.1)) yX5_player cX5_player 3 (some .int) 2 44 [.ref (a 0), .int p1, .int p2] M Q := by
  rw [w5_player] at h
  refine KI_of (by decide +kernel) (Nat.le_of_ble_eq_true rfl) (fun E C hR => ?_)
  change V B E 3 (wl (66 + 3 * g.2) a (shX B.2.1 a g.1) M) 0 [(0, .ref (a 0)), (1, .int p1), (2, .int p2)] []
  change Ok B E cX5_player 3 RX5 2 44 at C
  refine v_aload_n C 0 dX5_player_0 rfl rfl ?_
  refine fX5_5_g_now C dX5_player_1 ?_
  refine v_iload_n C 1 dX5_player_4 rfl rfl ?_
  refine v_iload_n C 2 dX5_player_5 rfl rfl ?_
  refine v_callVi (k := 10) (As := [.int p1, .int p2]) (rest := []) C (c0_comes cl_10 h) eX5_101 (by omega) (by omega) (xlt_c (j := 0) cl_10 (by decide)) (sh_c0 cl_10 _) rfl rfl rfl (Nat.le_of_ble_eq_true rfl) dX5_player_6 (fun r2 M1 h => ?_)
  exact hR _ _ _ _ h dX5_player_9
def w5_told (g : GX) (M : S0) (p1 : Int32) (p2 : Int32) (Q : Int32 → S0 → Prop) : Prop :=
    ((¬ p2 = 0) → (((¬ p2 = (1 : Int32)) → (w0_isPlayer g 10 M p1 (fun r2 M1 => ((¬ r2 = 0) → (((p2.toInt = 2) → ((vp_in p1 6) ∧ (Q (M1 (10 + 2) (Int32.toNatClampNeg p1)) M1))) ∧ ((p2.toInt = 3) → ((vp_in p1 6) ∧ (Q (M1 (10 + 3) (Int32.toNatClampNeg p1)) M1))) ∧ ((p2.toInt = 4) → ((vp_in p1 6) ∧ (Q (M1 (10 + 1) (Int32.toNatClampNeg p1)) M1))) ∧ ((p2.toInt = 5) → ((vp_in p1 6) ∧ (Q (M1 (10 + 4) (Int32.toNatClampNeg p1)) M1))) ∧ ((p2.toInt = 6) → ((vp_in p1 6) ∧ (Q (M1 (10 + 5) (Int32.toNatClampNeg p1)) M1))) ∧ ((p2.toInt = 7) → (w0_howMany g 10 M1 p1 (fun r9 M8 => Q r9 M8))) ∧ ((p2.toInt < 2 ∨ 7 < p2.toInt) → (Q (-1000 : Int32) M1)))) ∧ ((r2 = 0) → (Q (-1000 : Int32) M1))))) ∧ ((p2 = (1 : Int32)) → (w5_isWithin g M p1 (0 : Int32) (7 : Int32) (fun r11 M10 => ((r11 = 0) → (Q (-1000 : Int32) M10)) ∧ ((¬ r11 = 0) → (w0_placeOf g 10 M10 p1 (fun r13 M12 => Q r13 M12)))))))) ∧ ((p2 = 0) → (Q (M 10 8) M))
set_option maxHeartbeats 4000000 in
set_option maxRecDepth 20000 in
theorem c5_told {B : BX} {a : Nat → Nat} {g : GX} {M : S0} {p1 : Int32} {p2 : Int32} {Q : Int32 → S0 → Prop} (h : w5_told g M p1 p2 Q) : KI B (wl (66 + 3 * g.2) a (shX B.2.1 a g.1)) yX5_told cX5_told 3 (some .int) 2 42 [.ref (a 0), .int p1, .int p2] M Q := by
  rw [w5_told] at h
  refine KI_of (by decide +kernel) (Nat.le_of_ble_eq_true rfl) (fun E C hR => ?_)
  change V B E 3 (wl (66 + 3 * g.2) a (shX B.2.1 a g.1) M) 0 [(0, .ref (a 0)), (1, .int p1), (2, .int p2)] []
  change Ok B E cX5_told 3 RX5 2 42 at C
  refine v_iload_n C 2 dX5_told_0 rfl rfl ?_
  refine v_if_ne C dX5_told_1 (tgt := 12) (by decide) (fun c => ?_) (fun c => ?_)
  · replace h := h.1 c
    refine v_iload_n C 2 dX5_told_12 rfl rfl ?_
    refine v_iconst C dX5_told_13 (v := (1 : Int32)) (by decide) ?_
    refine v_icmp_ne C dX5_told_14 (tgt := 42) (by decide) (fun c => ?_) (fun c => ?_)
    · replace h := h.1 c
      refine v_aload_n C 0 dX5_told_42 rfl rfl ?_
      refine fX5_5_g_now C dX5_told_43 ?_
      refine v_iload_n C 1 dX5_told_46 rfl rfl ?_
      refine v_callVi (k := 10) (As := [.int p1]) (rest := []) C (c0_isPlayer cl_10 h) eX5_90 (by omega) (by omega) (xlt_c (j := 0) cl_10 (by decide)) (sh_c0 cl_10 _) rfl rfl rfl (Nat.le_of_ble_eq_true rfl) dX5_told_47 (fun r2 M1 h => ?_)
      refine v_if_ne C dX5_told_50 (tgt := 57) (by decide) (fun c => ?_) (fun c => ?_)
      · replace h := h.1 c
        refine v_iload_n C 2 dX5_told_57 rfl rfl ?_
        refine v_sw C dX5_told_58 [96, 106, 116, 126, 136, 146] (by decide) (by decide) (tgt := 155) (by decide) (fun j t ht hx => ?_) (fun c => ?_)
        · match j, ht, hx with
          | 0, ht, hx =>
            obtain rfl : 96 = t := Option.some.inj ht
            replace h := h.1 (by omega)
            refine v_aload_n C 0 dX5_told_96 rfl rfl ?_
            refine fX5_5_g_now C dX5_told_97 ?_
            refine fX5_0_g_number C cl_10 dX5_told_100 ?_
            refine v_iload_n C 1 dX5_told_103 rfl rfl ?_
            obtain ⟨hi3, h⟩ := h
            refine v_iald (k := (10 + 2)) C (xlt_c cl_10 (by decide)) (sh_ca (ca_of cl_10 (by decide) (by decide)) _) hi3 dX5_told_104 ?_
            exact hR _ _ _ _ h dX5_told_105
          | 1, ht, hx =>
            obtain rfl : 106 = t := Option.some.inj ht
            replace h := h.2.1 (by omega)
            refine v_aload_n C 0 dX5_told_106 rfl rfl ?_
            refine fX5_5_g_now C dX5_told_107 ?_
            refine fX5_0_g_strong C cl_10 dX5_told_110 ?_
            refine v_iload_n C 1 dX5_told_113 rfl rfl ?_
            obtain ⟨hi4, h⟩ := h
            refine v_iald (k := (10 + 3)) C (xlt_c cl_10 (by decide)) (sh_ca (ca_of cl_10 (by decide) (by decide)) _) hi4 dX5_told_114 ?_
            exact hR _ _ _ _ h dX5_told_115
          | 2, ht, hx =>
            obtain rfl : 116 = t := Option.some.inj ht
            replace h := h.2.2.1 (by omega)
            refine v_aload_n C 0 dX5_told_116 rfl rfl ?_
            refine fX5_5_g_now C dX5_told_117 ?_
            refine fX5_0_g_kind C cl_10 dX5_told_120 ?_
            refine v_iload_n C 1 dX5_told_123 rfl rfl ?_
            obtain ⟨hi5, h⟩ := h
            refine v_iald (k := (10 + 1)) C (xlt_c cl_10 (by decide)) (sh_ca (ca_of cl_10 (by decide) (by decide)) _) hi5 dX5_told_124 ?_
            exact hR _ _ _ _ h dX5_told_125
          | 3, ht, hx =>
            obtain rfl : 126 = t := Option.some.inj ht
            replace h := h.2.2.2.1 (by omega)
            refine v_aload_n C 0 dX5_told_126 rfl rfl ?_
            refine fX5_5_g_now C dX5_told_127 ?_
            refine fX5_0_g_won C cl_10 dX5_told_130 ?_
            refine v_iload_n C 1 dX5_told_133 rfl rfl ?_
            obtain ⟨hi6, h⟩ := h
            refine v_iald (k := (10 + 4)) C (xlt_c cl_10 (by decide)) (sh_ca (ca_of cl_10 (by decide) (by decide)) _) hi6 dX5_told_134 ?_
            exact hR _ _ _ _ h dX5_told_135
          | 4, ht, hx =>
            obtain rfl : 136 = t := Option.some.inj ht
            replace h := h.2.2.2.2.1 (by omega)
            refine v_aload_n C 0 dX5_told_136 rfl rfl ?_
            refine fX5_5_g_now C dX5_told_137 ?_
            refine fX5_0_g_has C cl_10 dX5_told_140 ?_
            refine v_iload_n C 1 dX5_told_143 rfl rfl ?_
            obtain ⟨hi7, h⟩ := h
            refine v_iald (k := (10 + 5)) C (xlt_c cl_10 (by decide)) (sh_ca (ca_of cl_10 (by decide) (by decide)) _) hi7 dX5_told_144 ?_
            exact hR _ _ _ _ h dX5_told_145
          | 5, ht, hx =>
            obtain rfl : 146 = t := Option.some.inj ht
            replace h := h.2.2.2.2.2.1 (by omega)
            refine v_aload_n C 0 dX5_told_146 rfl rfl ?_
            refine fX5_5_g_now C dX5_told_147 ?_
            refine v_iload_n C 1 dX5_told_150 rfl rfl ?_
            refine v_callVi (k := 10) (As := [.int p1]) (rest := []) C (c0_howMany cl_10 h) eX5_113 (by omega) (by omega) (xlt_c (j := 0) cl_10 (by decide)) (sh_c0 cl_10 _) rfl rfl rfl (Nat.le_of_ble_eq_true rfl) dX5_told_151 (fun r9 M8 h => ?_)
            exact hR _ _ _ _ h dX5_told_154
          | j + 6, ht, hx => simp at ht
        · replace h := h.2.2.2.2.2.2 c
          refine v_sipush C dX5_told_155 (v := (-1000 : Int32)) (by decide) ?_
          exact hR _ _ _ _ h dX5_told_158
      · replace h := h.2 c
        refine v_sipush C dX5_told_53 (v := (-1000 : Int32)) (by decide) ?_
        exact hR _ _ _ _ h dX5_told_56
    · replace h := h.2 c
      refine v_iload_n C 1 dX5_told_17 rfl rfl ?_
      refine v_iconst C dX5_told_18 (v := (0 : Int32)) (by decide) ?_
      refine v_bipush C dX5_told_19 (v := (7 : Int32)) (by decide) ?_
      refine v_callSi (As := [.int p1, .int (0 : Int32), .int (7 : Int32)]) (rest := []) C (c5_isWithin  h) eX5_82 (by omega) (by omega) rfl rfl (Nat.le_of_ble_eq_true rfl) dX5_told_21 (fun r11 M10 h => ?_)
      refine v_if_eq C dX5_told_24 (tgt := 38) (by decide) (fun c => ?_) (fun c => ?_)
      · replace h := h.1 c
        refine v_sipush C dX5_told_38 (v := (-1000 : Int32)) (by decide) ?_
        exact hR _ _ _ _ h dX5_told_41
      · replace h := h.2 c
        refine v_aload_n C 0 dX5_told_27 rfl rfl ?_
        refine fX5_5_g_now C dX5_told_28 ?_
        refine v_iload_n C 1 dX5_told_31 rfl rfl ?_
        refine v_callVi (k := 10) (As := [.int p1]) (rest := []) C (c0_placeOf cl_10 h) eX5_94 (by omega) (by omega) (xlt_c (j := 0) cl_10 (by decide)) (sh_c0 cl_10 _) rfl rfl rfl (Nat.le_of_ble_eq_true rfl) dX5_told_32 (fun r13 M12 h => ?_)
        refine v_goto C dX5_told_35 (tgt := 41) (by decide) ?_
        exact hR _ _ _ _ h dX5_told_41
  · replace h := h.2 c
    refine v_aload_n C 0 dX5_told_4 rfl rfl ?_
    refine fX5_5_g_now C dX5_told_5 ?_
    refine fX5_0_g_round C cl_10 dX5_told_8 ?_
    exact hR _ _ _ _ h dX5_told_11
def w5_think (g : GX) (M : S0) (Q : Option Nat → S0 → Prop) : Prop :=
    w0_takes g 22 10 M (fun M1 => Q (some 22) M1)
set_option maxHeartbeats 4000000 in
set_option maxRecDepth 20000 in
theorem c5_think {B : BX} {a : Nat → Nat} {g : GX} {M : S0} {Q : Option Nat → S0 → Prop} (h : w5_think g M  Q) : KA B (wl (66 + 3 * g.2) a (shX B.2.1 a g.1)) a yX5_think cX5_think 1 (some (.object "LoserKeepsTheBoard$Club")) 1 22 [.ref (a 0)] M Q := by
  rw [w5_think] at h
  refine KA_of (by decide +kernel) (Nat.le_of_ble_eq_true rfl) (fun E C hR => ?_) (Or.inl ⟨_, rfl⟩)
  change V B E 1 (wl (66 + 3 * g.2) a (shX B.2.1 a g.1) M) 0 [(0, .ref (a 0))] []
  change Ok B E cX5_think 1 RX5 1 22 at C
  refine v_aload_n C 0 dX5_think_0 rfl rfl ?_
  refine fX5_5_g_thought C dX5_think_1 ?_
  refine v_aload_n C 0 dX5_think_4 rfl rfl ?_
  refine fX5_5_g_now C dX5_think_5 ?_
  refine v_callVv (k := 22) (As := [.ref (a 10)]) (rest := []) C (c0_takes cl_22 cl_10 h) eX5_264 (by omega) (by omega) (xlt_c (j := 0) cl_22 (by decide)) (sh_c0 cl_22 _) rfl rfl rfl (Nat.le_of_ble_eq_true rfl) dX5_think_8 (fun M1 h => ?_)
  refine v_aload_n C 0 dX5_think_11 rfl rfl ?_
  refine fX5_5_g_thought C dX5_think_12 ?_
  exact hR (some 22) _ _ _ _ rfl h dX5_think_15
def w5_manyBehindGame (g : GX) (M : S0) (p1 : Int32) (p2 : Int32) (Q : Int32 → S0 → Prop) : Prop :=
    w5_think g M (fun r2 M1 => ((r2 = none) → (False)) ∧ (∀ k3 : Nat, r2 = some k3 → ((isClub k3) ∧ (w0_meet g k3 M1 p1 p2 (fun r6 M5 => w0_howMany g k3 M5 p1 (fun r8 M7 => Q r8 M7))))))
set_option maxHeartbeats 4000000 in
set_option maxRecDepth 20000 in
theorem c5_manyBehindGame {B : BX} {a : Nat → Nat} {g : GX} {M : S0} {p1 : Int32} {p2 : Int32} {Q : Int32 → S0 → Prop} (h : w5_manyBehindGame g M p1 p2 Q) : KI B (wl (66 + 3 * g.2) a (shX B.2.1 a g.1)) yX5_manyBehindGame cX5_manyBehindGame 4 (some .int) 5 120 [.ref (a 0), .int p1, .int p2] M Q := by
  rw [w5_manyBehindGame] at h
  refine KI_of (by decide +kernel) (Nat.le_of_ble_eq_true rfl) (fun E C hR => ?_)
  change V B E 4 (wl (66 + 3 * g.2) a (shX B.2.1 a g.1) M) 0 [(0, .ref (a 0)), (1, .int p1), (2, .int p2)] []
  change Ok B E cX5_manyBehindGame 4 RX5 5 120 at C
  refine v_aload_n C 0 dX5_manyBehindGame_0 rfl rfl ?_
  refine v_callVa (k := 0) (As := []) (rest := []) C (c5_think  h) eX5_133 (by omega) (by omega) (by omega) rfl rfl rfl rfl (Nat.le_of_ble_eq_true rfl) dX5_manyBehindGame_1 (fun r2 M1 h => ?_)
  rcases r2 with _ | k3
  · replace h := h.1 rfl
    change V _ _ _ _ _ _ (.null :: _)
    exact h.elim
  · replace h := h.2 k3 rfl
    change V _ _ _ _ _ _ (.ref (a k3) :: _)
    refine v_astore_n (lv' := [(3, .ref (a k3)), (0, .ref (a 0)), (1, .int p1), (2, .int p2)]) C dX5_manyBehindGame_4 rfl (by decide) rfl ?_
    refine v_aload_n C 0 dX5_manyBehindGame_5 rfl rfl ?_
    refine v_iload_n C 2 dX5_manyBehindGame_6 rfl rfl ?_
    refine v_iload_n C 3 dX5_manyBehindGame_7 rfl rfl ?_
    obtain ⟨hf4, h⟩ := h
    refine v_callVi (k := k3) (As := [.int p1, .int p2]) (rest := []) C (c0_meet hf4 h) eX5_137 (by omega) (by omega) (xlt_c (j := 0) hf4 (by decide)) (sh_c0 hf4 _) rfl rfl rfl (Nat.le_of_ble_eq_true rfl) dX5_manyBehindGame_8 (fun r6 M5 h => ?_)
    refine v_pop C dX5_manyBehindGame_11 rfl ?_
    refine v_aload_n C 0 dX5_manyBehindGame_12 rfl rfl ?_
    refine v_iload_n C 2 dX5_manyBehindGame_13 rfl rfl ?_
    refine v_callVi (k := k3) (As := [.int p1]) (rest := []) C (c0_howMany hf4 h) eX5_113 (by omega) (by omega) (xlt_c (j := 0) hf4 (by decide)) (sh_c0 hf4 _) rfl rfl rfl (Nat.le_of_ble_eq_true rfl) dX5_manyBehindGame_14 (fun r8 M7 h => ?_)
    exact hR _ _ _ _ h dX5_manyBehindGame_17
def w5_asks (g : GX) (M : S0) (p1 : Int32) (p2 : Int32) (p3 : Int32) (Q : Int32 → S0 → Prop) : Prop :=
    w0_areTwo g 10 M p1 p2 (fun r2 M1 => ((¬ r2 = 0) → (((p3.toInt = 0) → (w0_power g 10 M1 p1 p2 (fun r4 M3 => Q r4 M3))) ∧ ((p3.toInt = 1) → (w0_power g 10 M1 p2 p1 (fun r6 M5 => Q r6 M5))) ∧ ((p3.toInt = 2) → (w0_tiring g 10 M1 p1 p2 (1 : Int32) (fun r8 M7 => Q r8 M7))) ∧ ((p3.toInt = 3) → (w0_tiring g 10 M1 p1 p2 (0 : Int32) (fun r10 M9 => Q r10 M9))) ∧ ((p3.toInt = 4) → (w0_winner g 10 M1 p1 p2 (fun r12 M11 => Q r12 M11))) ∧ ((p3.toInt = 5) → (w5_manyBehindGame g M1 p1 p2 (fun r14 M13 => Q r14 M13))) ∧ ((p3.toInt < 0 ∨ 5 < p3.toInt) → (Q (-1000 : Int32) M1)))) ∧ ((r2 = 0) → (Q (-1000 : Int32) M1)))
set_option maxHeartbeats 4000000 in
set_option maxRecDepth 20000 in
theorem c5_asks {B : BX} {a : Nat → Nat} {g : GX} {M : S0} {p1 : Int32} {p2 : Int32} {p3 : Int32} {Q : Int32 → S0 → Prop} (h : w5_asks g M p1 p2 p3 Q) : KI B (wl (66 + 3 * g.2) a (shX B.2.1 a g.1)) yX5_asks cX5_asks 4 (some .int) 6 143 [.ref (a 0), .int p1, .int p2, .int p3] M Q := by
  rw [w5_asks] at h
  refine KI_of (by decide +kernel) (Nat.le_of_ble_eq_true rfl) (fun E C hR => ?_)
  change V B E 4 (wl (66 + 3 * g.2) a (shX B.2.1 a g.1) M) 0 [(0, .ref (a 0)), (1, .int p1), (2, .int p2), (3, .int p3)] []
  change Ok B E cX5_asks 4 RX5 6 143 at C
  refine v_aload_n C 0 dX5_asks_0 rfl rfl ?_
  refine fX5_5_g_now C dX5_asks_1 ?_
  refine v_iload_n C 1 dX5_asks_4 rfl rfl ?_
  refine v_iload_n C 2 dX5_asks_5 rfl rfl ?_
  refine v_callVi (k := 10) (As := [.int p1, .int p2]) (rest := []) C (c0_areTwo cl_10 h) eX5_116 (by omega) (by omega) (xlt_c (j := 0) cl_10 (by decide)) (sh_c0 cl_10 _) rfl rfl rfl (Nat.le_of_ble_eq_true rfl) dX5_asks_6 (fun r2 M1 h => ?_)
  refine v_if_ne C dX5_asks_9 (tgt := 16) (by decide) (fun c => ?_) (fun c => ?_)
  · replace h := h.1 c
    refine v_iload_n C 3 dX5_asks_16 rfl rfl ?_
    refine v_sw C dX5_asks_17 [56, 66, 76, 87, 98, 108] (by decide) (by decide) (tgt := 115) (by decide) (fun j t ht hx => ?_) (fun c => ?_)
    · match j, ht, hx with
      | 0, ht, hx =>
        obtain rfl : 56 = t := Option.some.inj ht
        replace h := h.1 (by omega)
        refine v_aload_n C 0 dX5_asks_56 rfl rfl ?_
        refine fX5_5_g_now C dX5_asks_57 ?_
        refine v_iload_n C 1 dX5_asks_60 rfl rfl ?_
        refine v_iload_n C 2 dX5_asks_61 rfl rfl ?_
        refine v_callVi (k := 10) (As := [.int p1, .int p2]) (rest := []) C (c0_power cl_10 h) eX5_120 (by omega) (by omega) (xlt_c (j := 0) cl_10 (by decide)) (sh_c0 cl_10 _) rfl rfl rfl (Nat.le_of_ble_eq_true rfl) dX5_asks_62 (fun r4 M3 h => ?_)
        exact hR _ _ _ _ h dX5_asks_65
      | 1, ht, hx =>
        obtain rfl : 66 = t := Option.some.inj ht
        replace h := h.2.1 (by omega)
        refine v_aload_n C 0 dX5_asks_66 rfl rfl ?_
        refine fX5_5_g_now C dX5_asks_67 ?_
        refine v_iload_n C 2 dX5_asks_70 rfl rfl ?_
        refine v_iload_n C 1 dX5_asks_71 rfl rfl ?_
        refine v_callVi (k := 10) (As := [.int p2, .int p1]) (rest := []) C (c0_power cl_10 h) eX5_120 (by omega) (by omega) (xlt_c (j := 0) cl_10 (by decide)) (sh_c0 cl_10 _) rfl rfl rfl (Nat.le_of_ble_eq_true rfl) dX5_asks_72 (fun r6 M5 h => ?_)
        exact hR _ _ _ _ h dX5_asks_75
      | 2, ht, hx =>
        obtain rfl : 76 = t := Option.some.inj ht
        replace h := h.2.2.1 (by omega)
        refine v_aload_n C 0 dX5_asks_76 rfl rfl ?_
        refine fX5_5_g_now C dX5_asks_77 ?_
        refine v_iload_n C 1 dX5_asks_80 rfl rfl ?_
        refine v_iload_n C 2 dX5_asks_81 rfl rfl ?_
        refine v_iconst C dX5_asks_82 (v := (1 : Int32)) (by decide) ?_
        refine v_callVi (k := 10) (As := [.int p1, .int p2, .int (1 : Int32)]) (rest := []) C (c0_tiring cl_10 h) eX5_123 (by omega) (by omega) (xlt_c (j := 0) cl_10 (by decide)) (sh_c0 cl_10 _) rfl rfl rfl (Nat.le_of_ble_eq_true rfl) dX5_asks_83 (fun r8 M7 h => ?_)
        exact hR _ _ _ _ h dX5_asks_86
      | 3, ht, hx =>
        obtain rfl : 87 = t := Option.some.inj ht
        replace h := h.2.2.2.1 (by omega)
        refine v_aload_n C 0 dX5_asks_87 rfl rfl ?_
        refine fX5_5_g_now C dX5_asks_88 ?_
        refine v_iload_n C 1 dX5_asks_91 rfl rfl ?_
        refine v_iload_n C 2 dX5_asks_92 rfl rfl ?_
        refine v_iconst C dX5_asks_93 (v := (0 : Int32)) (by decide) ?_
        refine v_callVi (k := 10) (As := [.int p1, .int p2, .int (0 : Int32)]) (rest := []) C (c0_tiring cl_10 h) eX5_123 (by omega) (by omega) (xlt_c (j := 0) cl_10 (by decide)) (sh_c0 cl_10 _) rfl rfl rfl (Nat.le_of_ble_eq_true rfl) dX5_asks_94 (fun r10 M9 h => ?_)
        exact hR _ _ _ _ h dX5_asks_97
      | 4, ht, hx =>
        obtain rfl : 98 = t := Option.some.inj ht
        replace h := h.2.2.2.2.1 (by omega)
        refine v_aload_n C 0 dX5_asks_98 rfl rfl ?_
        refine fX5_5_g_now C dX5_asks_99 ?_
        refine v_iload_n C 1 dX5_asks_102 rfl rfl ?_
        refine v_iload_n C 2 dX5_asks_103 rfl rfl ?_
        refine v_callVi (k := 10) (As := [.int p1, .int p2]) (rest := []) C (c0_winner cl_10 h) eX5_127 (by omega) (by omega) (xlt_c (j := 0) cl_10 (by decide)) (sh_c0 cl_10 _) rfl rfl rfl (Nat.le_of_ble_eq_true rfl) dX5_asks_104 (fun r12 M11 h => ?_)
        exact hR _ _ _ _ h dX5_asks_107
      | 5, ht, hx =>
        obtain rfl : 108 = t := Option.some.inj ht
        replace h := h.2.2.2.2.2.1 (by omega)
        refine v_aload_n C 0 dX5_asks_108 rfl rfl ?_
        refine v_iload_n C 1 dX5_asks_109 rfl rfl ?_
        refine v_iload_n C 2 dX5_asks_110 rfl rfl ?_
        refine v_callVi (k := 0) (As := [.int p1, .int p2]) (rest := []) C (c5_manyBehindGame  h) eX5_130 (by omega) (by omega) (by omega) rfl rfl rfl rfl (Nat.le_of_ble_eq_true rfl) dX5_asks_111 (fun r14 M13 h => ?_)
        exact hR _ _ _ _ h dX5_asks_114
      | j + 6, ht, hx => simp at ht
    · replace h := h.2.2.2.2.2.2 c
      refine v_sipush C dX5_asks_115 (v := (-1000 : Int32)) (by decide) ?_
      exact hR _ _ _ _ h dX5_asks_118
  · replace h := h.2 c
    refine v_sipush C dX5_asks_12 (v := (-1000 : Int32)) (by decide) ?_
    exact hR _ _ _ _ h dX5_asks_15
def w5_force (g : GX) (M : S0) (p1 : Int32) (Q : Int32 → S0 → Prop) : Prop :=
    w5_isWithin g M p1 (0 : Int32) ((M 1 3) - (1 : Int32)) (fun r2 M1 => ((¬ r2 = 0) → (∀ x3 : Int32, x3 = (M1 10 9) → (∀ M4 : S0, M4 = up M1 10 9 p1 → (Q x3 M4)))) ∧ ((r2 = 0) → (Q (-2 : Int32) M1)))
set_option maxHeartbeats 4000000 in
set_option maxRecDepth 20000 in
theorem c5_force {B : BX} {a : Nat → Nat} {g : GX} {M : S0} {p1 : Int32} {Q : Int32 → S0 → Prop} (h : w5_force g M p1 Q) : KI B (wl (66 + 3 * g.2) a (shX B.2.1 a g.1)) yX5_force cX5_force 3 (some .int) 1 22 [.ref (a 0), .int p1] M Q := by
  rw [w5_force] at h
  refine KI_of (by decide +kernel) (Nat.le_of_ble_eq_true rfl) (fun E C hR => ?_)
  change V B E 3 (wl (66 + 3 * g.2) a (shX B.2.1 a g.1) M) 0 [(0, .ref (a 0)), (1, .int p1)] []
  change Ok B E cX5_force 3 RX5 1 22 at C
  refine v_iload_n C 1 dX5_force_0 rfl rfl ?_
  refine v_iconst C dX5_force_1 (v := (0 : Int32)) (by decide) ?_
  refine v_aload_n C 0 dX5_force_2 rfl rfl ?_
  refine fX5_5_g_texts C dX5_force_3 ?_
  refine fX5_4_g_many C dX5_force_6 ?_
  refine v_iconst C dX5_force_9 (v := (1 : Int32)) (by decide) ?_
  refine v_isub C dX5_force_10 ?_
  refine v_callSi (As := [.int p1, .int (0 : Int32), .int ((M 1 3) - (1 : Int32))]) (rest := []) C (c5_isWithin  h) eX5_82 (by omega) (by omega) rfl rfl (Nat.le_of_ble_eq_true rfl) dX5_force_11 (fun r2 M1 h => ?_)
  refine v_if_ne C dX5_force_14 (tgt := 20) (by decide) (fun c => ?_) (fun c => ?_)
  · replace h := h.1 c
    refine v_aload_n C 0 dX5_force_20 rfl rfl ?_
    refine fX5_5_g_now C dX5_force_21 ?_
    refine fX5_0_g_rule C cl_10 dX5_force_24 ?_
    refine v_nmi (fun x3 ex3 => ?_)
    replace h := h x3 ex3
    refine v_istore_n (lv' := [(2, .int x3), (0, .ref (a 0)), (1, .int p1)]) C dX5_force_27 rfl (by decide) rfl ?_
    refine v_aload_n C 1 dX5_force_28 rfl rfl ?_
    refine fX5_5_g_now C dX5_force_29 ?_
    refine v_iload_n C 2 dX5_force_32 rfl rfl ?_
    refine fX5_0_p_rule C cl_10 dX5_force_33 (fun M4 eM4 => ?_)
    replace h := h M4 eM4
    refine v_iload_n C 0 dX5_force_36 rfl rfl ?_
    exact hR _ _ _ _ h dX5_force_37
  · replace h := h.2 c
    refine v_bipush C dX5_force_17 (v := (-2 : Int32)) (by decide) ?_
    exact hR _ _ _ _ h dX5_force_19
def w5_game (g : GX) (M : S0) (p1 : Int32) (p2 : Int32) (Q : Int32 → S0 → Prop) : Prop :=
    w0_areTwo g 10 M p1 p2 (fun r2 M1 => ((¬ r2 = 0) → ((((M1 10 8) < (999 : Int32)) → (w0_meet g 10 M1 p1 p2 (fun r4 M3 => Q r4 M3))) ∧ ((¬ (M1 10 8) < (999 : Int32)) → (Q (-3 : Int32) M1)))) ∧ ((r2 = 0) → (Q (-2 : Int32) M1)))
set_option maxHeartbeats 4000000 in
set_option maxRecDepth 20000 in
theorem c5_game {B : BX} {a : Nat → Nat} {g : GX} {M : S0} {p1 : Int32} {p2 : Int32} {Q : Int32 → S0 → Prop} (h : w5_game g M p1 p2 Q) : KI B (wl (66 + 3 * g.2) a (shX B.2.1 a g.1)) yX5_game cX5_game 3 (some .int) 5 120 [.ref (a 0), .int p1, .int p2] M Q := by
  rw [w5_game] at h
  refine KI_of (by decide +kernel) (Nat.le_of_ble_eq_true rfl) (fun E C hR => ?_)
  change V B E 3 (wl (66 + 3 * g.2) a (shX B.2.1 a g.1) M) 0 [(0, .ref (a 0)), (1, .int p1), (2, .int p2)] []
  change Ok B E cX5_game 3 RX5 5 120 at C
  refine v_aload_n C 0 dX5_game_0 rfl rfl ?_
  refine fX5_5_g_now C dX5_game_1 ?_
  refine v_iload_n C 1 dX5_game_4 rfl rfl ?_
  refine v_iload_n C 2 dX5_game_5 rfl rfl ?_
  refine v_callVi (k := 10) (As := [.int p1, .int p2]) (rest := []) C (c0_areTwo cl_10 h) eX5_116 (by omega) (by omega) (xlt_c (j := 0) cl_10 (by decide)) (sh_c0 cl_10 _) rfl rfl rfl (Nat.le_of_ble_eq_true rfl) dX5_game_6 (fun r2 M1 h => ?_)
  refine v_if_ne C dX5_game_9 (tgt := 15) (by decide) (fun c => ?_) (fun c => ?_)
  · replace h := h.1 c
    refine v_aload_n C 0 dX5_game_15 rfl rfl ?_
    refine fX5_5_g_now C dX5_game_16 ?_
    refine fX5_0_g_round C cl_10 dX5_game_19 ?_
    refine v_sipush C dX5_game_22 (v := (999 : Int32)) (by decide) ?_
    refine v_icmp_lt C dX5_game_25 (tgt := 31) (by decide) (fun c => ?_) (fun c => ?_)
    · replace h := h.1 c
      refine v_aload_n C 0 dX5_game_31 rfl rfl ?_
      refine fX5_5_g_now C dX5_game_32 ?_
      refine v_iload_n C 1 dX5_game_35 rfl rfl ?_
      refine v_iload_n C 2 dX5_game_36 rfl rfl ?_
      refine v_callVi (k := 10) (As := [.int p1, .int p2]) (rest := []) C (c0_meet cl_10 h) eX5_137 (by omega) (by omega) (xlt_c (j := 0) cl_10 (by decide)) (sh_c0 cl_10 _) rfl rfl rfl (Nat.le_of_ble_eq_true rfl) dX5_game_37 (fun r4 M3 h => ?_)
      exact hR _ _ _ _ h dX5_game_40
    · replace h := h.2 c
      refine v_bipush C dX5_game_28 (v := (-3 : Int32)) (by decide) ?_
      exact hR _ _ _ _ h dX5_game_30
  · replace h := h.2 c
    refine v_bipush C dX5_game_12 (v := (-2 : Int32)) (by decide) ?_
    exact hR _ _ _ _ h dX5_game_14
def w5_sheetAt (g : GX) (M : S0) (p1 : Int32) (Q : Option Nat → S0 → Prop) : Prop :=
    ((p1 < 0) → (Q none M)) ∧ ((¬ p1 < 0) → ((((4 : Int32) ≤ p1) → (Q none M)) ∧ ((¬ (4 : Int32) ≤ p1) → ((vp_in p1 4) ∧ (Q (some (58 + 2 * (Int32.toNatClampNeg p1))) M)))))
set_option maxHeartbeats 4000000 in
set_option maxRecDepth 20000 in
theorem c5_sheetAt {B : BX} {a : Nat → Nat} {g : GX} {M : S0} {p1 : Int32} {Q : Option Nat → S0 → Prop} (h : w5_sheetAt g M p1 Q) : KA B (wl (66 + 3 * g.2) a (shX B.2.1 a g.1)) a yX5_sheetAt cX5_sheetAt 2 (some (.object "LoserKeepsTheBoard$Sheet")) 0 0 [.ref (a 0), .int p1] M Q := by
  rw [w5_sheetAt] at h
  refine KA_of (by decide +kernel) (Nat.le_of_ble_eq_true rfl) (fun E C hR => ?_) (Or.inl ⟨_, rfl⟩)
  change V B E 2 (wl (66 + 3 * g.2) a (shX B.2.1 a g.1) M) 0 [(0, .ref (a 0)), (1, .int p1)] []
  change Ok B E cX5_sheetAt 2 RX5 0 0 at C
  refine v_iload_n C 1 dX5_sheetAt_0 rfl rfl ?_
  refine v_if_lt C dX5_sheetAt_1 (tgt := 22) (by decide) (fun c => ?_) (fun c => ?_)
  · replace h := h.1 c
    refine v_null C dX5_sheetAt_22 ?_
    exact hR none _ _ _ _ rfl h dX5_sheetAt_23
  · replace h := h.2 c
    refine v_iload_n C 1 dX5_sheetAt_4 rfl rfl ?_
    refine v_aload_n C 0 dX5_sheetAt_5 rfl rfl ?_
    refine fX5_5_g_sheets C dX5_sheetAt_6 ?_
    refine v_alen (k := 9) (t := 3) C (by omega) rfl rfl (v := (4 : Int32)) rfl dX5_sheetAt_9 ?_
    refine v_icmp_ge C dX5_sheetAt_10 (tgt := 22) (by decide) (fun c => ?_) (fun c => ?_)
    · replace h := h.1 c
      refine v_null C dX5_sheetAt_22 ?_
      exact hR none _ _ _ _ rfl h dX5_sheetAt_23
    · replace h := h.2 c
      refine v_aload_n C 0 dX5_sheetAt_13 rfl rfl ?_
      refine fX5_5_g_sheets C dX5_sheetAt_14 ?_
      refine v_iload_n C 1 dX5_sheetAt_17 rfl rfl ?_
      obtain ⟨hi1, h⟩ := h
      refine v_aald (k := 9) (t := 3) C (by omega) rfl rfl hi1 (v := .ref (a (58 + 2 * (Int32.toNatClampNeg p1)))) rfl dX5_sheetAt_18 ?_
      refine v_goto C dX5_sheetAt_19 (tgt := 23) (by decide) ?_
      exact hR (some (58 + 2 * (Int32.toNatClampNeg p1))) _ _ _ _ rfl h dX5_sheetAt_23
def w5_tellsGames_b2 (g : GX) (s1 : Nat) (Q : Int32 → S0 → Prop) : Nat → S0 → Int32 → Prop
  | 0, _, _ => False
  | n + 1, M, v2_2 =>
    (((M s1 2) ≤ v2_2) → (Q (1 : Int32) M)) ∧ ((¬ (M s1 2) ≤ v2_2) → (w2_item g s1 M v2_2 (fun r3 M2 => w2_item g s1 M2 v2_2 (fun r5 M4 => w0_areTwo g 10 M4 (r3 / (10 : Int32)) (r5 - r5 / (10 : Int32) * (10 : Int32)) (fun r7 M6 => ((¬ r7 = 0) → (∀ x8 : Int32, x8 = v2_2 + (1 : Int32) → (w5_tellsGames_b2 g s1  Q n M6 x8))) ∧ ((r7 = 0) → (Q (0 : Int32) M6)))))))
set_option maxHeartbeats 4000000 in
set_option maxRecDepth 20000 in
theorem t5_tellsGames_b2 {B : BX} {E : EX} {a : Nat → Nat} {g : GX} {s1 : Nat} {Q : Int32 → S0 → Prop} (hp_s1 : isSheet s1) (C : Ok B E cX5_tellsGames 3 RX5 1 23) (hR : RetZ B E cX5_tellsGames 3 (wl (66 + 3 * g.2) a (shX B.2.1 a g.1)) .boolean Q) : ∀ (n : Nat) (M : S0) (v2_2 : Int32), w5_tellsGames_b2 g s1  Q n M v2_2 → V B E 3 (wl (66 + 3 * g.2) a (shX B.2.1 a g.1) M) 2 [(0, .ref (a 0)), (1, .ref (a s1)), (2, .int v2_2)] [] := by
  intro n
  induction n with
  | zero =>
    intro M v2_2  h
    exact h.elim
  | succ n ih =>
    intro M v2_2  h
    rw [w5_tellsGames_b2] at h
    refine v_iload_n C 2 dX5_tellsGames_2 rfl rfl ?_
    refine v_aload_n C 1 dX5_tellsGames_3 rfl rfl ?_
    refine fX5_2_g_size C hp_s1 dX5_tellsGames_4 ?_
    refine v_icmp_ge C dX5_tellsGames_7 (tgt := 44) (by decide) (fun c => ?_) (fun c => ?_)
    · replace h := h.1 c
      refine v_iconst C dX5_tellsGames_44 (v := (1 : Int32)) (by decide) ?_
      exact hR _ _ _ _ rfl h dX5_tellsGames_45
    · replace h := h.2 c
      refine v_aload_n C 0 dX5_tellsGames_10 rfl rfl ?_
      refine fX5_5_g_now C dX5_tellsGames_11 ?_
      refine v_aload_n C 1 dX5_tellsGames_14 rfl rfl ?_
      refine v_iload_n C 2 dX5_tellsGames_15 rfl rfl ?_
      refine v_callVi (k := s1) (As := [.int v2_2]) (rest := [.ref (a 10)]) C (c2_item hp_s1 h) eX5_179 (by omega) (by omega) (xlt_s (j := 0) hp_s1 (by decide)) (sh_s0 hp_s1 _) rfl rfl rfl (Nat.le_of_ble_eq_true rfl) dX5_tellsGames_16 (fun r3 M2 h => ?_)
      refine v_bipush C dX5_tellsGames_19 (v := (10 : Int32)) (by decide) ?_
      refine v_idiv C dX5_tellsGames_21 (by decide) ?_
      refine v_aload_n C 1 dX5_tellsGames_22 rfl rfl ?_
      refine v_iload_n C 2 dX5_tellsGames_23 rfl rfl ?_
      refine v_callVi (k := s1) (As := [.int v2_2]) (rest := [.int (r3 / (10 : Int32)), .ref (a 10)]) C (c2_item hp_s1 h) eX5_179 (by omega) (by omega) (xlt_s (j := 0) hp_s1 (by decide)) (sh_s0 hp_s1 _) rfl rfl rfl (Nat.le_of_ble_eq_true rfl) dX5_tellsGames_24 (fun r5 M4 h => ?_)
      refine v_bipush C dX5_tellsGames_27 (v := (10 : Int32)) (by decide) ?_
      refine v_irem C dX5_tellsGames_29 (by decide) ?_
      refine v_callVi (k := 10) (As := [.int (r3 / (10 : Int32)), .int (r5 - r5 / (10 : Int32) * (10 : Int32))]) (rest := []) C (c0_areTwo cl_10 h) eX5_116 (by omega) (by omega) (xlt_c (j := 0) cl_10 (by decide)) (sh_c0 cl_10 _) rfl rfl rfl (Nat.le_of_ble_eq_true rfl) dX5_tellsGames_30 (fun r7 M6 h => ?_)
      refine v_if_ne C dX5_tellsGames_33 (tgt := 38) (by decide) (fun c => ?_) (fun c => ?_)
      · replace h := h.1 c
        obtain ⟨x8, ex8⟩ : ∃ z : Int32, z = v2_2 + (1 : Int32) := ⟨_, rfl⟩
        replace h := h x8 ex8
        refine v_iinc (v := x8) (lv' := [(2, .int x8), (0, .ref (a 0)), (1, .ref (a s1))]) C 2 dX5_tellsGames_38 rfl (by rw [ex8]; rfl) (by decide) rfl ?_
        refine v_goto C dX5_tellsGames_41 (tgt := 2) (by decide) ?_
        refine v_sub [1, 2, 0] rfl ?_
        exact ih M6 x8  h
      · replace h := h.2 c
        refine v_iconst C dX5_tellsGames_36 (v := (0 : Int32)) (by decide) ?_
        exact hR _ _ _ _ rfl h dX5_tellsGames_37
def w5_tellsGames (g : GX) (s1 : Nat) (M : S0) (Q : Int32 → S0 → Prop) : Prop :=
    ∃ n1, w5_tellsGames_b2 g s1  Q n1 M (0 : Int32)
set_option maxHeartbeats 4000000 in
set_option maxRecDepth 20000 in
theorem c5_tellsGames {B : BX} {a : Nat → Nat} {g : GX} {s1 : Nat} {M : S0} {Q : Int32 → S0 → Prop} (hp_s1 : isSheet s1) (h : w5_tellsGames g s1 M  Q) : KI B (wl (66 + 3 * g.2) a (shX B.2.1 a g.1)) yX5_tellsGames cX5_tellsGames 3 (some .boolean) 1 23 [.ref (a 0), .ref (a s1)] M Q := by
  rw [w5_tellsGames] at h
  refine KZ_of (by decide +kernel) (Nat.le_of_ble_eq_true rfl) (fun E C hR => ?_)
  change V B E 3 (wl (66 + 3 * g.2) a (shX B.2.1 a g.1) M) 0 [(0, .ref (a 0)), (1, .ref (a s1))] []
  change Ok B E cX5_tellsGames 3 RX5 1 23 at C
  refine v_iconst C dX5_tellsGames_0 (v := (0 : Int32)) (by decide) ?_
  refine v_istore_n (lv' := [(2, .int (0 : Int32)), (0, .ref (a 0)), (1, .ref (a s1))]) C dX5_tellsGames_1 rfl (by decide) rfl ?_
  obtain ⟨n1, h⟩ := h
  refine v_sub [1, 2, 0] rfl ?_
  exact t5_tellsGames_b2 hp_s1  C hR  n1 M (0 : Int32)  h
def w5_playTold_b4 (g : GX) (c1 : Nat) (s2 : Nat) (Q : Int32 → S0 → Prop) : Nat → S0 → Int32 → Int32 → Prop
  | 0, _, _, _ => False
  | n + 1, M, v2_4, v3_4 =>
    (((M s2 2) ≤ v3_4) → (Q v2_4 M)) ∧ ((¬ (M s2 2) ≤ v3_4) → (w2_item g s2 M v3_4 (fun r3 M2 => w2_item g s2 M2 v3_4 (fun r5 M4 => w0_meet g c1 M4 (r3 / (10 : Int32)) (r5 - r5 / (10 : Int32) * (10 : Int32)) (fun r7 M6 => ((¬ r7 = (-1 : Int32)) → (∀ x8 : Int32, x8 = v3_4 + (1 : Int32) → (w5_playTold_b4 g c1 s2  Q n M6 v2_4 x8))) ∧ ((r7 = (-1 : Int32)) → (∀ x9 : Int32, x9 = v2_4 + (1 : Int32) → (∀ x10 : Int32, x10 = v3_4 + (1 : Int32) → (w5_playTold_b4 g c1 s2  Q n M6 x9 x10)))))))))
set_option maxHeartbeats 4000000 in
set_option maxRecDepth 20000 in
theorem t5_playTold_b4 {B : BX} {E : EX} {a : Nat → Nat} {g : GX} {c1 : Nat} {s2 : Nat} {Q : Int32 → S0 → Prop} (hp_c1 : isClub c1) (hp_s2 : isSheet s2) (C : Ok B E cX5_playTold 4 RX5 5 120) (hR : RetI B E cX5_playTold 4 (wl (66 + 3 * g.2) a (shX B.2.1 a g.1)) Q) : ∀ (n : Nat) (M : S0) (v2_4 : Int32) (v3_4 : Int32), w5_playTold_b4 g c1 s2  Q n M v2_4 v3_4 → V B E 4 (wl (66 + 3 * g.2) a (shX B.2.1 a g.1) M) 4 [(0, .ref (a c1)), (1, .ref (a s2)), (2, .int v2_4), (3, .int v3_4)] [] := by
  intro n
  induction n with
  | zero =>
    intro M v2_4 v3_4  h
    exact h.elim
  | succ n ih =>
    intro M v2_4 v3_4  h
    rw [w5_playTold_b4] at h
    refine v_iload_n C 3 dX5_playTold_4 rfl rfl ?_
    refine v_aload_n C 1 dX5_playTold_5 rfl rfl ?_
    refine fX5_2_g_size C hp_s2 dX5_playTold_6 ?_
    refine v_icmp_ge C dX5_playTold_9 (tgt := 45) (by decide) (fun c => ?_) (fun c => ?_)
    · replace h := h.1 c
      refine v_iload_n C 2 dX5_playTold_45 rfl rfl ?_
      exact hR _ _ _ _ h dX5_playTold_46
    · replace h := h.2 c
      refine v_aload_n C 0 dX5_playTold_12 rfl rfl ?_
      refine v_aload_n C 1 dX5_playTold_13 rfl rfl ?_
      refine v_iload_n C 3 dX5_playTold_14 rfl rfl ?_
      refine v_callVi (k := s2) (As := [.int v3_4]) (rest := [.ref (a c1)]) C (c2_item hp_s2 h) eX5_179 (by omega) (by omega) (xlt_s (j := 0) hp_s2 (by decide)) (sh_s0 hp_s2 _) rfl rfl rfl (Nat.le_of_ble_eq_true rfl) dX5_playTold_15 (fun r3 M2 h => ?_)
      refine v_bipush C dX5_playTold_18 (v := (10 : Int32)) (by decide) ?_
      refine v_idiv C dX5_playTold_20 (by decide) ?_
      refine v_aload_n C 1 dX5_playTold_21 rfl rfl ?_
      refine v_iload_n C 3 dX5_playTold_22 rfl rfl ?_
      refine v_callVi (k := s2) (As := [.int v3_4]) (rest := [.int (r3 / (10 : Int32)), .ref (a c1)]) C (c2_item hp_s2 h) eX5_179 (by omega) (by omega) (xlt_s (j := 0) hp_s2 (by decide)) (sh_s0 hp_s2 _) rfl rfl rfl (Nat.le_of_ble_eq_true rfl) dX5_playTold_23 (fun r5 M4 h => ?_)
      refine v_bipush C dX5_playTold_26 (v := (10 : Int32)) (by decide) ?_
      refine v_irem C dX5_playTold_28 (by decide) ?_
      refine v_callVi (k := c1) (As := [.int (r3 / (10 : Int32)), .int (r5 - r5 / (10 : Int32) * (10 : Int32))]) (rest := []) C (c0_meet hp_c1 h) eX5_137 (by omega) (by omega) (xlt_c (j := 0) hp_c1 (by decide)) (sh_c0 hp_c1 _) rfl rfl rfl (Nat.le_of_ble_eq_true rfl) dX5_playTold_29 (fun r7 M6 h => ?_)
      refine v_iconst C dX5_playTold_32 (v := (-1 : Int32)) (by decide) ?_
      refine v_icmp_ne C dX5_playTold_33 (tgt := 39) (by decide) (fun c => ?_) (fun c => ?_)
      · replace h := h.1 c
        obtain ⟨x8, ex8⟩ : ∃ z : Int32, z = v3_4 + (1 : Int32) := ⟨_, rfl⟩
        replace h := h x8 ex8
        refine v_iinc (v := x8) (lv' := [(3, .int x8), (0, .ref (a c1)), (1, .ref (a s2)), (2, .int v2_4)]) C 3 dX5_playTold_39 rfl (by rw [ex8]; rfl) (by decide) rfl ?_
        refine v_goto C dX5_playTold_42 (tgt := 4) (by decide) ?_
        refine v_sub [1, 2, 3, 0] rfl ?_
        exact ih M6 v2_4 x8  h
      · replace h := h.2 c
        obtain ⟨x9, ex9⟩ : ∃ z : Int32, z = v2_4 + (1 : Int32) := ⟨_, rfl⟩
        replace h := h x9 ex9
        refine v_iinc (v := x9) (lv' := [(2, .int x9), (0, .ref (a c1)), (1, .ref (a s2)), (3, .int v3_4)]) C 2 dX5_playTold_36 rfl (by rw [ex9]; rfl) (by decide) rfl ?_
        obtain ⟨x10, ex10⟩ : ∃ z : Int32, z = v3_4 + (1 : Int32) := ⟨_, rfl⟩
        replace h := h x10 ex10
        refine v_iinc (v := x10) (lv' := [(3, .int x10), (2, .int x9), (0, .ref (a c1)), (1, .ref (a s2))]) C 3 dX5_playTold_39 rfl (by rw [ex10]; rfl) (by decide) rfl ?_
        refine v_goto C dX5_playTold_42 (tgt := 4) (by decide) ?_
        refine v_sub [2, 3, 1, 0] rfl ?_
        exact ih M6 x9 x10  h
def w5_playTold (g : GX) (c1 : Nat) (s2 : Nat) (M : S0) (Q : Int32 → S0 → Prop) : Prop :=
    ∃ n1, w5_playTold_b4 g c1 s2  Q n1 M (0 : Int32) (0 : Int32)
set_option maxHeartbeats 4000000 in
set_option maxRecDepth 20000 in
theorem c5_playTold {B : BX} {a : Nat → Nat} {g : GX} {c1 : Nat} {s2 : Nat} {M : S0} {Q : Int32 → S0 → Prop} (hp_c1 : isClub c1) (hp_s2 : isSheet s2) (h : w5_playTold g c1 s2 M  Q) : KI B (wl (66 + 3 * g.2) a (shX B.2.1 a g.1)) yX5_playTold cX5_playTold 4 (some .int) 5 120 [.ref (a c1), .ref (a s2)] M Q := by
  rw [w5_playTold] at h
  refine KI_of (by decide +kernel) (Nat.le_of_ble_eq_true rfl) (fun E C hR => ?_)
  change V B E 4 (wl (66 + 3 * g.2) a (shX B.2.1 a g.1) M) 0 [(0, .ref (a c1)), (1, .ref (a s2))] []
  change Ok B E cX5_playTold 4 RX5 5 120 at C
  refine v_iconst C dX5_playTold_0 (v := (0 : Int32)) (by decide) ?_
  refine v_istore_n (lv' := [(2, .int (0 : Int32)), (0, .ref (a c1)), (1, .ref (a s2))]) C dX5_playTold_1 rfl (by decide) rfl ?_
  refine v_iconst C dX5_playTold_2 (v := (0 : Int32)) (by decide) ?_
  refine v_istore_n (lv' := [(3, .int (0 : Int32)), (2, .int (0 : Int32)), (0, .ref (a c1)), (1, .ref (a s2))]) C dX5_playTold_3 rfl (by decide) rfl ?_
  obtain ⟨n1, h⟩ := h
  refine v_sub [2, 3, 1, 0] rfl ?_
  exact t5_playTold_b4 hp_c1 hp_s2  C hR  n1 M (0 : Int32) (0 : Int32)  h
def w5_evening (g : GX) (M : S0) (p1 : Int32) (p2 : Int32) (Q : Int32 → S0 → Prop) : Prop :=
    w5_sheetAt g M p1 (fun r2 M1 => ((r2 = none) → (Q (-2 : Int32) M1)) ∧ (∀ k3 : Nat, r2 = some k3 → (w5_isWithin g M1 p2 (0 : Int32) (8 : Int32) (fun r5 M4 => ((r5 = 0) → (Q (-2 : Int32) M4)) ∧ ((¬ r5 = 0) → ((((6 : Int32) ≤ p2) → ((isSheet k3) ∧ (w2_isMissing g k3 M4 (fun r8 M7 => ((r8 = 0) → (w5_tellsGames g k3 M7 (fun r10 M9 => ((¬ r10 = 0) → (w5_think g M9 (fun r12 M11 => ((r12 = none) → (False)) ∧ (∀ k13 : Nat, r12 = some k13 → ((isClub k13) ∧ (w5_playTold g k13 k3 M11 (fun r16 M15 => ((p2.toInt = 6) → (w0_manyInHall g k13 M15 (fun r18 M17 => Q r18 M17))) ∧ ((p2.toInt = 7) → (Q r16 M15)) ∧ ((p2.toInt = 8) → (w0_whoHasMost g k13 M15 (fun r20 M19 => Q r20 M19))) ∧ ((p2.toInt < 6 ∨ 8 < p2.toInt) → (w0_howMany g k13 M15 p2 (fun r22 M21 => Q r22 M21)))))))))) ∧ ((r10 = 0) → (Q (-2 : Int32) M9))))) ∧ ((¬ r8 = 0) → (Q (-11 : Int32) M7)))))) ∧ ((¬ (6 : Int32) ≤ p2) → (w0_isPlayer g 10 M4 p2 (fun r24 M23 => ((¬ r24 = 0) → ((isSheet k3) ∧ (w2_isMissing g k3 M23 (fun r27 M26 => ((r27 = 0) → (w5_tellsGames g k3 M26 (fun r29 M28 => ((¬ r29 = 0) → (w5_think g M28 (fun r31 M30 => ((r31 = none) → (False)) ∧ (∀ k32 : Nat, r31 = some k32 → ((isClub k32) ∧ (w5_playTold g k32 k3 M30 (fun r35 M34 => ((p2.toInt = 6) → (w0_manyInHall g k32 M34 (fun r37 M36 => Q r37 M36))) ∧ ((p2.toInt = 7) → (Q r35 M34)) ∧ ((p2.toInt = 8) → (w0_whoHasMost g k32 M34 (fun r39 M38 => Q r39 M38))) ∧ ((p2.toInt < 6 ∨ 8 < p2.toInt) → (w0_howMany g k32 M34 p2 (fun r41 M40 => Q r41 M40)))))))))) ∧ ((r29 = 0) → (Q (-2 : Int32) M28))))) ∧ ((¬ r27 = 0) → (Q (-11 : Int32) M26)))))) ∧ ((r24 = 0) → (Q (-2 : Int32) M23)))))))))))
set_option maxHeartbeats 4000000 in
set_option maxRecDepth 20000 in
theorem c5_evening {B : BX} {a : Nat → Nat} {g : GX} {M : S0} {p1 : Int32} {p2 : Int32} {Q : Int32 → S0 → Prop} (h : w5_evening g M p1 p2 Q) : KI B (wl (66 + 3 * g.2) a (shX B.2.1 a g.1)) yX5_evening cX5_evening 6 (some .int) 6 143 [.ref (a 0), .int p1, .int p2] M Q := by
  rw [w5_evening] at h
  refine KI_of (by decide +kernel) (Nat.le_of_ble_eq_true rfl) (fun E C hR => ?_)
  change V B E 6 (wl (66 + 3 * g.2) a (shX B.2.1 a g.1) M) 0 [(0, .ref (a 0)), (1, .int p1), (2, .int p2)] []
  change Ok B E cX5_evening 6 RX5 6 143 at C
  refine v_aload_n C 0 dX5_evening_0 rfl rfl ?_
  refine v_iload_n C 1 dX5_evening_1 rfl rfl ?_
  refine v_callVa (k := 0) (As := [.int p1]) (rest := []) C (c5_sheetAt  h) eX5_155 (by omega) (by omega) (by omega) rfl rfl rfl rfl (Nat.le_of_ble_eq_true rfl) dX5_evening_2 (fun r2 M1 h => ?_)
  rcases r2 with _ | k3
  · replace h := h.1 rfl
    change V _ _ _ _ _ _ (.null :: _)
    refine v_astoreN_n (lv' := [(3, .null), (0, .ref (a 0)), (1, .int p1), (2, .int p2)]) C dX5_evening_5 rfl (by decide) rfl ?_
    refine v_aloadN_n C 0 dX5_evening_6 rfl rfl ?_
    refine v_ifnullN C dX5_evening_7 (tgt := 37) (by decide) ?_
    refine v_bipush C dX5_evening_37 (v := (-2 : Int32)) (by decide) ?_
    exact hR _ _ _ _ h dX5_evening_39
  · replace h := h.2 k3 rfl
    change V _ _ _ _ _ _ (.ref (a k3) :: _)
    refine v_astore_n (lv' := [(3, .ref (a k3)), (0, .ref (a 0)), (1, .int p1), (2, .int p2)]) C dX5_evening_5 rfl (by decide) rfl ?_
    refine v_aload_n C 0 dX5_evening_6 rfl rfl ?_
    refine v_ifnull C dX5_evening_7 ?_
    refine v_iload_n C 3 dX5_evening_10 rfl rfl ?_
    refine v_iconst C dX5_evening_11 (v := (0 : Int32)) (by decide) ?_
    refine v_bipush C dX5_evening_12 (v := (8 : Int32)) (by decide) ?_
    refine v_callSi (As := [.int p2, .int (0 : Int32), .int (8 : Int32)]) (rest := []) C (c5_isWithin  h) eX5_82 (by omega) (by omega) rfl rfl (Nat.le_of_ble_eq_true rfl) dX5_evening_14 (fun r5 M4 h => ?_)
    refine v_if_eq C dX5_evening_17 (tgt := 37) (by decide) (fun c => ?_) (fun c => ?_)
    · replace h := h.1 c
      refine v_bipush C dX5_evening_37 (v := (-2 : Int32)) (by decide) ?_
      exact hR _ _ _ _ h dX5_evening_39
    · replace h := h.2 c
      refine v_iload_n C 3 dX5_evening_20 rfl rfl ?_
      refine v_bipush C dX5_evening_21 (v := (6 : Int32)) (by decide) ?_
      refine v_icmp_ge C dX5_evening_23 (tgt := 40) (by decide) (fun c => ?_) (fun c => ?_)
      · replace h := h.1 c
        refine v_aload_n C 0 dX5_evening_40 rfl rfl ?_
        obtain ⟨hf6, h⟩ := h
        refine v_callVi (k := k3) (As := []) (rest := []) C (c2_isMissing hf6 h) eX5_159 (by omega) (by omega) (xlt_s (j := 0) hf6 (by decide)) (sh_s0 hf6 _) rfl rfl rfl (Nat.le_of_ble_eq_true rfl) dX5_evening_41 (fun r8 M7 h => ?_)
        refine v_if_eq C dX5_evening_44 (tgt := 50) (by decide) (fun c => ?_) (fun c => ?_)
        · replace h := h.1 c
          refine v_aload_n C 1 dX5_evening_50 rfl rfl ?_
          refine v_aload_n C 0 dX5_evening_51 rfl rfl ?_
          refine v_callVi (k := 0) (As := [.ref (a k3)]) (rest := []) C (c5_tellsGames hf6 h) eX5_163 (by omega) (by omega) (by omega) rfl rfl rfl rfl (Nat.le_of_ble_eq_true rfl) dX5_evening_52 (fun r10 M9 h => ?_)
          refine v_if_ne C dX5_evening_55 (tgt := 61) (by decide) (fun c => ?_) (fun c => ?_)
          · replace h := h.1 c
            refine v_aload_n C 1 dX5_evening_61 rfl rfl ?_
            refine v_callVa (k := 0) (As := []) (rest := []) C (c5_think  h) eX5_133 (by omega) (by omega) (by omega) rfl rfl rfl rfl (Nat.le_of_ble_eq_true rfl) dX5_evening_62 (fun r12 M11 h => ?_)
            rcases r12 with _ | k13
            · replace h := h.1 rfl
              change V _ _ _ _ _ _ (.null :: _)
              exact h.elim
            · replace h := h.2 k13 rfl
              change V _ _ _ _ _ _ (.ref (a k13) :: _)
              refine v_astore (lv' := [(4, .ref (a k13)), (3, .ref (a k3)), (0, .ref (a 0)), (1, .int p1), (2, .int p2)]) C dX5_evening_65 (by decide) rfl ?_
              refine v_aload C 0 dX5_evening_67 rfl ?_
              refine v_aload_n C 1 dX5_evening_69 rfl rfl ?_
              obtain ⟨hf14, h⟩ := h
              refine v_callSi (As := [.ref (a k13), .ref (a k3)]) (rest := []) C (c5_playTold hf14 hf6 h) eX5_167 (by omega) (by omega) rfl rfl (Nat.le_of_ble_eq_true rfl) dX5_evening_70 (fun r16 M15 h => ?_)
              refine v_istore (lv' := [(5, .int r16), (4, .ref (a k13)), (3, .ref (a k3)), (0, .ref (a 0)), (1, .int p1), (2, .int p2)]) C dX5_evening_73 (by decide) rfl ?_
              refine v_iload_n C 5 dX5_evening_75 rfl rfl ?_
              refine v_sw C dX5_evening_76 [104, 110, 113] (by decide) (by decide) (tgt := 119) (by decide) (fun j t ht hx => ?_) (fun c => ?_)
              · match j, ht, hx with
                | 0, ht, hx =>
                  obtain rfl : 104 = t := Option.some.inj ht
                  replace h := h.1 (by omega)
                  refine v_aload C 1 dX5_evening_104 rfl ?_
                  refine v_callVi (k := k13) (As := []) (rest := []) C (c0_manyInHall hf14 h) eX5_171 (by omega) (by omega) (xlt_c (j := 0) hf14 (by decide)) (sh_c0 hf14 _) rfl rfl rfl (Nat.le_of_ble_eq_true rfl) dX5_evening_106 (fun r18 M17 h => ?_)
                  exact hR _ _ _ _ h dX5_evening_109
                | 1, ht, hx =>
                  obtain rfl : 110 = t := Option.some.inj ht
                  replace h := h.2.1 (by omega)
                  refine v_iload C 0 dX5_evening_110 rfl ?_
                  exact hR _ _ _ _ h dX5_evening_112
                | 2, ht, hx =>
                  obtain rfl : 113 = t := Option.some.inj ht
                  replace h := h.2.2.1 (by omega)
                  refine v_aload C 1 dX5_evening_113 rfl ?_
                  refine v_callVi (k := k13) (As := []) (rest := []) C (c0_whoHasMost hf14 h) eX5_175 (by omega) (by omega) (xlt_c (j := 0) hf14 (by decide)) (sh_c0 hf14 _) rfl rfl rfl (Nat.le_of_ble_eq_true rfl) dX5_evening_115 (fun r20 M19 h => ?_)
                  exact hR _ _ _ _ h dX5_evening_118
                | j + 3, ht, hx => simp at ht
              · replace h := h.2.2.2 c
                refine v_aload C 1 dX5_evening_119 rfl ?_
                refine v_iload_n C 5 dX5_evening_121 rfl rfl ?_
                refine v_callVi (k := k13) (As := [.int p2]) (rest := []) C (c0_howMany hf14 h) eX5_113 (by omega) (by omega) (xlt_c (j := 0) hf14 (by decide)) (sh_c0 hf14 _) rfl rfl rfl (Nat.le_of_ble_eq_true rfl) dX5_evening_122 (fun r22 M21 h => ?_)
                exact hR _ _ _ _ h dX5_evening_125
          · replace h := h.2 c
            refine v_bipush C dX5_evening_58 (v := (-2 : Int32)) (by decide) ?_
            exact hR _ _ _ _ h dX5_evening_60
        · replace h := h.2 c
          refine v_bipush C dX5_evening_47 (v := (-11 : Int32)) (by decide) ?_
          exact hR _ _ _ _ h dX5_evening_49
      · replace h := h.2 c
        refine v_aload_n C 1 dX5_evening_26 rfl rfl ?_
        refine fX5_5_g_now C dX5_evening_27 ?_
        refine v_iload_n C 3 dX5_evening_30 rfl rfl ?_
        refine v_callVi (k := 10) (As := [.int p2]) (rest := []) C (c0_isPlayer cl_10 h) eX5_90 (by omega) (by omega) (xlt_c (j := 0) cl_10 (by decide)) (sh_c0 cl_10 _) rfl rfl rfl (Nat.le_of_ble_eq_true rfl) dX5_evening_31 (fun r24 M23 h => ?_)
        refine v_if_ne C dX5_evening_34 (tgt := 40) (by decide) (fun c => ?_) (fun c => ?_)
        · replace h := h.1 c
          refine v_aload_n C 0 dX5_evening_40 rfl rfl ?_
          obtain ⟨hf25, h⟩ := h
          refine v_callVi (k := k3) (As := []) (rest := []) C (c2_isMissing hf25 h) eX5_159 (by omega) (by omega) (xlt_s (j := 0) hf25 (by decide)) (sh_s0 hf25 _) rfl rfl rfl (Nat.le_of_ble_eq_true rfl) dX5_evening_41 (fun r27 M26 h => ?_)
          refine v_if_eq C dX5_evening_44 (tgt := 50) (by decide) (fun c => ?_) (fun c => ?_)
          · replace h := h.1 c
            refine v_aload_n C 1 dX5_evening_50 rfl rfl ?_
            refine v_aload_n C 0 dX5_evening_51 rfl rfl ?_
            refine v_callVi (k := 0) (As := [.ref (a k3)]) (rest := []) C (c5_tellsGames hf25 h) eX5_163 (by omega) (by omega) (by omega) rfl rfl rfl rfl (Nat.le_of_ble_eq_true rfl) dX5_evening_52 (fun r29 M28 h => ?_)
            refine v_if_ne C dX5_evening_55 (tgt := 61) (by decide) (fun c => ?_) (fun c => ?_)
            · replace h := h.1 c
              refine v_aload_n C 1 dX5_evening_61 rfl rfl ?_
              refine v_callVa (k := 0) (As := []) (rest := []) C (c5_think  h) eX5_133 (by omega) (by omega) (by omega) rfl rfl rfl rfl (Nat.le_of_ble_eq_true rfl) dX5_evening_62 (fun r31 M30 h => ?_)
              rcases r31 with _ | k32
              · replace h := h.1 rfl
                change V _ _ _ _ _ _ (.null :: _)
                exact h.elim
              · replace h := h.2 k32 rfl
                change V _ _ _ _ _ _ (.ref (a k32) :: _)
                refine v_astore (lv' := [(4, .ref (a k32)), (3, .ref (a k3)), (0, .ref (a 0)), (1, .int p1), (2, .int p2)]) C dX5_evening_65 (by decide) rfl ?_
                refine v_aload C 0 dX5_evening_67 rfl ?_
                refine v_aload_n C 1 dX5_evening_69 rfl rfl ?_
                obtain ⟨hf33, h⟩ := h
                refine v_callSi (As := [.ref (a k32), .ref (a k3)]) (rest := []) C (c5_playTold hf33 hf25 h) eX5_167 (by omega) (by omega) rfl rfl (Nat.le_of_ble_eq_true rfl) dX5_evening_70 (fun r35 M34 h => ?_)
                refine v_istore (lv' := [(5, .int r35), (4, .ref (a k32)), (3, .ref (a k3)), (0, .ref (a 0)), (1, .int p1), (2, .int p2)]) C dX5_evening_73 (by decide) rfl ?_
                refine v_iload_n C 5 dX5_evening_75 rfl rfl ?_
                refine v_sw C dX5_evening_76 [104, 110, 113] (by decide) (by decide) (tgt := 119) (by decide) (fun j t ht hx => ?_) (fun c => ?_)
                · match j, ht, hx with
                  | 0, ht, hx =>
                    obtain rfl : 104 = t := Option.some.inj ht
                    replace h := h.1 (by omega)
                    refine v_aload C 1 dX5_evening_104 rfl ?_
                    refine v_callVi (k := k32) (As := []) (rest := []) C (c0_manyInHall hf33 h) eX5_171 (by omega) (by omega) (xlt_c (j := 0) hf33 (by decide)) (sh_c0 hf33 _) rfl rfl rfl (Nat.le_of_ble_eq_true rfl) dX5_evening_106 (fun r37 M36 h => ?_)
                    exact hR _ _ _ _ h dX5_evening_109
                  | 1, ht, hx =>
                    obtain rfl : 110 = t := Option.some.inj ht
                    replace h := h.2.1 (by omega)
                    refine v_iload C 0 dX5_evening_110 rfl ?_
                    exact hR _ _ _ _ h dX5_evening_112
                  | 2, ht, hx =>
                    obtain rfl : 113 = t := Option.some.inj ht
                    replace h := h.2.2.1 (by omega)
                    refine v_aload C 1 dX5_evening_113 rfl ?_
                    refine v_callVi (k := k32) (As := []) (rest := []) C (c0_whoHasMost hf33 h) eX5_175 (by omega) (by omega) (xlt_c (j := 0) hf33 (by decide)) (sh_c0 hf33 _) rfl rfl rfl (Nat.le_of_ble_eq_true rfl) dX5_evening_115 (fun r39 M38 h => ?_)
                    exact hR _ _ _ _ h dX5_evening_118
                  | j + 3, ht, hx => simp at ht
                · replace h := h.2.2.2 c
                  refine v_aload C 1 dX5_evening_119 rfl ?_
                  refine v_iload_n C 5 dX5_evening_121 rfl rfl ?_
                  refine v_callVi (k := k32) (As := [.int p2]) (rest := []) C (c0_howMany hf33 h) eX5_113 (by omega) (by omega) (xlt_c (j := 0) hf33 (by decide)) (sh_c0 hf33 _) rfl rfl rfl (Nat.le_of_ble_eq_true rfl) dX5_evening_122 (fun r41 M40 h => ?_)
                  exact hR _ _ _ _ h dX5_evening_125
            · replace h := h.2 c
              refine v_bipush C dX5_evening_58 (v := (-2 : Int32)) (by decide) ?_
              exact hR _ _ _ _ h dX5_evening_60
          · replace h := h.2 c
            refine v_bipush C dX5_evening_47 (v := (-11 : Int32)) (by decide) ?_
            exact hR _ _ _ _ h dX5_evening_49
        · replace h := h.2 c
          refine v_bipush C dX5_evening_37 (v := (-2 : Int32)) (by decide) ?_
          exact hR _ _ _ _ h dX5_evening_39
