def w0_takes_b7 (g : GX) (b : Nat) (c1 : Nat) (Q : S0 → Prop) : Nat → S0 → Int32 → Prop
  | 0, _, _ => False
  | n + 1, M, v2_7 =>
    (((6 : Int32) ≤ v2_7) → (∀ M2 : S0, M2 = up M b 6 (M c1 6) → (∀ M3 : S0, M3 = up M2 b 7 (M2 c1 7) → (∀ M4 : S0, M4 = up M3 b 8 (M3 c1 8) → (∀ M5 : S0, M5 = up M4 b 9 (M4 c1 9) → (Q M5)))))) ∧ ((¬ (6 : Int32) ≤ v2_7) → ((vp_in v2_7 6) ∧ ((vp_in v2_7 6) ∧ (∀ M8 : S0, M8 = up M (b + 1) (Int32.toNatClampNeg v2_7) (M (c1 + 1) (Int32.toNatClampNeg v2_7)) → ((vp_in v2_7 6) ∧ ((vp_in v2_7 6) ∧ (∀ M11 : S0, M11 = up M8 (b + 2) (Int32.toNatClampNeg v2_7) (M8 (c1 + 2) (Int32.toNatClampNeg v2_7)) → ((vp_in v2_7 6) ∧ ((vp_in v2_7 6) ∧ (∀ M14 : S0, M14 = up M11 (b + 3) (Int32.toNatClampNeg v2_7) (M11 (c1 + 3) (Int32.toNatClampNeg v2_7)) → ((vp_in v2_7 6) ∧ ((vp_in v2_7 6) ∧ (∀ M17 : S0, M17 = up M14 (b + 4) (Int32.toNatClampNeg v2_7) (M14 (c1 + 4) (Int32.toNatClampNeg v2_7)) → ((vp_in v2_7 6) ∧ ((vp_in v2_7 6) ∧ (∀ M20 : S0, M20 = up M17 (b + 5) (Int32.toNatClampNeg v2_7) (M17 (c1 + 5) (Int32.toNatClampNeg v2_7)) → (∀ x21 : Int32, x21 = v2_7 + (1 : Int32) → (w0_takes_b7 g b c1  Q n M20 x21))))))))))))))))))
set_option maxHeartbeats 4000000 in
set_option maxRecDepth 20000 in
theorem t0_takes_b7 {B : BX} {E : EX} {a : Nat → Nat} {g : GX} {b : Nat} {c1 : Nat} {Q : S0 → Prop} (hp_b : isClub b) (hp_c1 : isClub c1) (C : Ok B E cX0_takes 3 RX0 0 0) (hR : RetV B E cX0_takes 3 (wl (66 + 3 * g.2) a (shX B.2.1 a g.1)) Q) : ∀ (n : Nat) (M : S0) (v2_7 : Int32), w0_takes_b7 g b c1  Q n M v2_7 → V B E 3 (wl (66 + 3 * g.2) a (shX B.2.1 a g.1) M) 7 [(0, .ref (a b)), (1, .ref (a c1)), (2, .int v2_7)] [] := by
  intro n
  induction n with
  | zero =>
    intro M v2_7  h
    exact h.elim
  | succ n ih =>
    intro M v2_7  h
    rw [w0_takes_b7] at h
    refine v_iload_n C 2 dX0_takes_7 rfl rfl ?_
    refine v_bipush C dX0_takes_8 (v := (6 : Int32)) (by decide) ?_
    refine v_icmp_ge C dX0_takes_10 (tgt := 79) (by decide) (fun c => ?_) (fun c => ?_)
    · replace h := h.1 c
      refine v_aload_n C 0 dX0_takes_79 rfl rfl ?_
      refine v_aload_n C 1 dX0_takes_80 rfl rfl ?_
      refine fX0_0_g_hall C hp_c1 dX0_takes_81 ?_
      refine fX0_0_p_hall C hp_b dX0_takes_84 (fun M2 eM2 => ?_)
      replace h := h M2 eM2
      refine v_aload_n C 0 dX0_takes_87 rfl rfl ?_
      refine v_aload_n C 1 dX0_takes_88 rfl rfl ?_
      refine fX0_0_g_many C hp_c1 dX0_takes_89 ?_
      refine fX0_0_p_many C hp_b dX0_takes_92 (fun M3 eM3 => ?_)
      replace h := h M3 eM3
      refine v_aload_n C 0 dX0_takes_95 rfl rfl ?_
      refine v_aload_n C 1 dX0_takes_96 rfl rfl ?_
      refine fX0_0_g_round C hp_c1 dX0_takes_97 ?_
      refine fX0_0_p_round C hp_b dX0_takes_100 (fun M4 eM4 => ?_)
      replace h := h M4 eM4
      refine v_aload_n C 0 dX0_takes_103 rfl rfl ?_
      refine v_aload_n C 1 dX0_takes_104 rfl rfl ?_
      refine fX0_0_g_rule C hp_c1 dX0_takes_105 ?_
      refine fX0_0_p_rule C hp_b dX0_takes_108 (fun M5 eM5 => ?_)
      replace h := h M5 eM5
      exact hR _ _ _ h dX0_takes_111
    · replace h := h.2 c
      refine v_aload_n C 0 dX0_takes_13 rfl rfl ?_
      refine fX0_0_g_kind C hp_b dX0_takes_14 ?_
      refine v_iload_n C 2 dX0_takes_17 rfl rfl ?_
      refine v_aload_n C 1 dX0_takes_18 rfl rfl ?_
      refine fX0_0_g_kind C hp_c1 dX0_takes_19 ?_
      refine v_iload_n C 2 dX0_takes_22 rfl rfl ?_
      obtain ⟨hi6, h⟩ := h
      refine v_iald (k := (c1 + 1)) C (xlt_c hp_c1 (by decide)) (sh_ca (ca_of hp_c1 (by decide) (by decide)) _) hi6 dX0_takes_23 ?_
      obtain ⟨hi7, h⟩ := h
      refine v_iast (k := (b + 1)) C (xlt_c hp_b (by decide)) (sh_ca (ca_of hp_b (by decide) (by decide))) hi7 dX0_takes_24 ?_
      obtain ⟨M8, eM8⟩ : ∃ z : S0, z = up M (b + 1) (Int32.toNatClampNeg v2_7) (M (c1 + 1) (Int32.toNatClampNeg v2_7)) := ⟨_, rfl⟩
      rw [← eM8]
      replace h := h M8 eM8
      refine v_aload_n C 0 dX0_takes_25 rfl rfl ?_
      refine fX0_0_g_number C hp_b dX0_takes_26 ?_
      refine v_iload_n C 2 dX0_takes_29 rfl rfl ?_
      refine v_aload_n C 1 dX0_takes_30 rfl rfl ?_
      refine fX0_0_g_number C hp_c1 dX0_takes_31 ?_
      refine v_iload_n C 2 dX0_takes_34 rfl rfl ?_
      obtain ⟨hi9, h⟩ := h
      refine v_iald (k := (c1 + 2)) C (xlt_c hp_c1 (by decide)) (sh_ca (ca_of hp_c1 (by decide) (by decide)) _) hi9 dX0_takes_35 ?_
      obtain ⟨hi10, h⟩ := h
      refine v_iast (k := (b + 2)) C (xlt_c hp_b (by decide)) (sh_ca (ca_of hp_b (by decide) (by decide))) hi10 dX0_takes_36 ?_
      obtain ⟨M11, eM11⟩ : ∃ z : S0, z = up M8 (b + 2) (Int32.toNatClampNeg v2_7) (M8 (c1 + 2) (Int32.toNatClampNeg v2_7)) := ⟨_, rfl⟩
      rw [← eM11]
      replace h := h M11 eM11
      refine v_aload_n C 0 dX0_takes_37 rfl rfl ?_
      refine fX0_0_g_strong C hp_b dX0_takes_38 ?_
      refine v_iload_n C 2 dX0_takes_41 rfl rfl ?_
      refine v_aload_n C 1 dX0_takes_42 rfl rfl ?_
      refine fX0_0_g_strong C hp_c1 dX0_takes_43 ?_
      refine v_iload_n C 2 dX0_takes_46 rfl rfl ?_
      obtain ⟨hi12, h⟩ := h
      refine v_iald (k := (c1 + 3)) C (xlt_c hp_c1 (by decide)) (sh_ca (ca_of hp_c1 (by decide) (by decide)) _) hi12 dX0_takes_47 ?_
      obtain ⟨hi13, h⟩ := h
      refine v_iast (k := (b + 3)) C (xlt_c hp_b (by decide)) (sh_ca (ca_of hp_b (by decide) (by decide))) hi13 dX0_takes_48 ?_
      obtain ⟨M14, eM14⟩ : ∃ z : S0, z = up M11 (b + 3) (Int32.toNatClampNeg v2_7) (M11 (c1 + 3) (Int32.toNatClampNeg v2_7)) := ⟨_, rfl⟩
      rw [← eM14]
      replace h := h M14 eM14
      refine v_aload_n C 0 dX0_takes_49 rfl rfl ?_
      refine fX0_0_g_won C hp_b dX0_takes_50 ?_
      refine v_iload_n C 2 dX0_takes_53 rfl rfl ?_
      refine v_aload_n C 1 dX0_takes_54 rfl rfl ?_
      refine fX0_0_g_won C hp_c1 dX0_takes_55 ?_
      refine v_iload_n C 2 dX0_takes_58 rfl rfl ?_
      obtain ⟨hi15, h⟩ := h
      refine v_iald (k := (c1 + 4)) C (xlt_c hp_c1 (by decide)) (sh_ca (ca_of hp_c1 (by decide) (by decide)) _) hi15 dX0_takes_59 ?_
      obtain ⟨hi16, h⟩ := h
      refine v_iast (k := (b + 4)) C (xlt_c hp_b (by decide)) (sh_ca (ca_of hp_b (by decide) (by decide))) hi16 dX0_takes_60 ?_
      obtain ⟨M17, eM17⟩ : ∃ z : S0, z = up M14 (b + 4) (Int32.toNatClampNeg v2_7) (M14 (c1 + 4) (Int32.toNatClampNeg v2_7)) := ⟨_, rfl⟩
      rw [← eM17]
      replace h := h M17 eM17
      refine v_aload_n C 0 dX0_takes_61 rfl rfl ?_
      refine fX0_0_g_has C hp_b dX0_takes_62 ?_
      refine v_iload_n C 2 dX0_takes_65 rfl rfl ?_
      refine v_aload_n C 1 dX0_takes_66 rfl rfl ?_
      refine fX0_0_g_has C hp_c1 dX0_takes_67 ?_
      refine v_iload_n C 2 dX0_takes_70 rfl rfl ?_
      obtain ⟨hi18, h⟩ := h
      refine v_iald (k := (c1 + 5)) C (xlt_c hp_c1 (by decide)) (sh_ca (ca_of hp_c1 (by decide) (by decide)) _) hi18 dX0_takes_71 ?_
      obtain ⟨hi19, h⟩ := h
      refine v_iast (k := (b + 5)) C (xlt_c hp_b (by decide)) (sh_ca (ca_of hp_b (by decide) (by decide))) hi19 dX0_takes_72 ?_
      obtain ⟨M20, eM20⟩ : ∃ z : S0, z = up M17 (b + 5) (Int32.toNatClampNeg v2_7) (M17 (c1 + 5) (Int32.toNatClampNeg v2_7)) := ⟨_, rfl⟩
      rw [← eM20]
      replace h := h M20 eM20
      obtain ⟨x21, ex21⟩ : ∃ z : Int32, z = v2_7 + (1 : Int32) := ⟨_, rfl⟩
      replace h := h x21 ex21
      refine v_iinc (v := x21) (lv' := [(2, .int x21), (0, .ref (a b)), (1, .ref (a c1))]) C 2 dX0_takes_73 rfl (by rw [ex21]; rfl) (by decide) rfl ?_
      refine v_goto C dX0_takes_76 (tgt := 7) (by decide) ?_
      refine v_sub [1, 2, 0] rfl ?_
      exact ih M20 x21  h
def w0_takes (g : GX) (b : Nat) (c1 : Nat) (M : S0) (Q : S0 → Prop) : Prop :=
    ∃ n1, w0_takes_b7 g b c1  Q n1 M (0 : Int32)
set_option maxHeartbeats 4000000 in
set_option maxRecDepth 20000 in
theorem c0_takes {B : BX} {a : Nat → Nat} {g : GX} {b : Nat} {c1 : Nat} {M : S0} {Q : S0 → Prop} (hp_b : isClub b) (hp_c1 : isClub c1) (h : w0_takes g b c1 M  Q) : KV B (wl (66 + 3 * g.2) a (shX B.2.1 a g.1)) yX0_takes cX0_takes 3 none 0 0 [.ref (a b), .ref (a c1)] M Q := by
  rw [w0_takes] at h
  refine KV_of (by decide +kernel) (Nat.le_of_ble_eq_true rfl) (fun E C hR => ?_)
  change V B E 3 (wl (66 + 3 * g.2) a (shX B.2.1 a g.1) M) 0 [(0, .ref (a b)), (1, .ref (a c1))] []
  change Ok B E cX0_takes 3 RX0 0 0 at C
  refine v_aload_n C 1 dX0_takes_0 rfl rfl ?_
  refine v_ifnonnull C dX0_takes_1 (tgt := 5) (by decide) ?_
  refine v_iconst C dX0_takes_5 (v := (0 : Int32)) (by decide) ?_
  refine v_istore_n (lv' := [(2, .int (0 : Int32)), (0, .ref (a b)), (1, .ref (a c1))]) C dX0_takes_6 rfl (by decide) rfl ?_
  obtain ⟨n1, h⟩ := h
  refine v_sub [1, 2, 0] rfl ?_
  exact t0_takes_b7 hp_b hp_c1  C hR  n1 M (0 : Int32)  h
def w5_isWithin (g : GX) (M : S0) (p1 : Int32) (p2 : Int32) (p3 : Int32) (Q : Int32 → S0 → Prop) : Prop :=
    ((p1 < p2) → (Q (0 : Int32) M)) ∧ ((¬ p1 < p2) → (((p3 < p1) → (Q (0 : Int32) M)) ∧ ((¬ p3 < p1) → (Q (1 : Int32) M))))
set_option maxHeartbeats 4000000 in
set_option maxRecDepth 20000 in
theorem c5_isWithin {B : BX} {a : Nat → Nat} {g : GX} {M : S0} {p1 : Int32} {p2 : Int32} {p3 : Int32} {Q : Int32 → S0 → Prop} (h : w5_isWithin g M p1 p2 p3 Q) : KI B (wl (66 + 3 * g.2) a (shX B.2.1 a g.1)) yX5_isWithin cX5_isWithin 3 (some .boolean) 0 0 [.int p1, .int p2, .int p3] M Q := by
  rw [w5_isWithin] at h
  refine KZ_of (by decide +kernel) (Nat.le_of_ble_eq_true rfl) (fun E C hR => ?_)
  change V B E 3 (wl (66 + 3 * g.2) a (shX B.2.1 a g.1) M) 0 [(0, .int p1), (1, .int p2), (2, .int p3)] []
  change Ok B E cX5_isWithin 3 RX5 0 0 at C
  refine v_iload_n C 0 dX5_isWithin_0 rfl rfl ?_
  refine v_iload_n C 1 dX5_isWithin_1 rfl rfl ?_
  refine v_icmp_lt C dX5_isWithin_2 (tgt := 14) (by decide) (fun c => ?_) (fun c => ?_)
  · replace h := h.1 c
    refine v_iconst C dX5_isWithin_14 (v := (0 : Int32)) (by decide) ?_
    exact hR _ _ _ _ rfl h dX5_isWithin_15
  · replace h := h.2 c
    refine v_iload_n C 0 dX5_isWithin_5 rfl rfl ?_
    refine v_iload_n C 2 dX5_isWithin_6 rfl rfl ?_
    refine v_icmp_gt C dX5_isWithin_7 (tgt := 14) (by decide) (fun c => ?_) (fun c => ?_)
    · replace h := h.1 c
      refine v_iconst C dX5_isWithin_14 (v := (0 : Int32)) (by decide) ?_
      exact hR _ _ _ _ rfl h dX5_isWithin_15
    · replace h := h.2 c
      refine v_iconst C dX5_isWithin_10 (v := (1 : Int32)) (by decide) ?_
      refine v_goto C dX5_isWithin_11 (tgt := 15) (by decide) ?_
      exact hR _ _ _ _ rfl h dX5_isWithin_15
def w0_comes (g : GX) (b : Nat) (M : S0) (p1 : Int32) (p2 : Int32) (Q : Int32 → S0 → Prop) : Prop :=
    w5_isWithin g M p1 (0 : Int32) (5 : Int32) (fun r2 M1 => ((r2 = 0) → (Q (-2 : Int32) M1)) ∧ ((¬ r2 = 0) → (w5_isWithin g M1 p2 (0 : Int32) (9 : Int32) (fun r4 M3 => ((¬ r4 = 0) → ((((M3 b 7) < 0) → (Q (-4 : Int32) M3)) ∧ ((¬ (M3 b 7) < 0) → ((((M3 b 7) < (6 : Int32)) → ((vp_in (M3 b 7) 6) ∧ (∀ M6 : S0, M6 = up M3 (b + 1) (Int32.toNatClampNeg (M3 b 7)) p1 → ((vp_in (M6 b 7) 6) ∧ (∀ M8 : S0, M8 = up M6 (b + 2) (Int32.toNatClampNeg (M6 b 7)) p2 → ((vp_in (M8 b 7) 6) ∧ (∀ M10 : S0, M10 = up M8 (b + 3) (Int32.toNatClampNeg (M8 b 7)) (50 : Int32) → ((vp_in (M10 b 7) 6) ∧ (∀ M12 : S0, M12 = up M10 (b + 4) (Int32.toNatClampNeg (M10 b 7)) (0 : Int32) → ((vp_in (M12 b 7) 6) ∧ (∀ M14 : S0, M14 = up M12 (b + 5) (Int32.toNatClampNeg (M12 b 7)) (0 : Int32) → (∀ M15 : S0, M15 = up M14 b 7 ((M14 b 7) + (1 : Int32)) → (Q ((M15 b 7) - (1 : Int32)) M15))))))))))))) ∧ ((¬ (M3 b 7) < (6 : Int32)) → (Q (-4 : Int32) M3)))))) ∧ ((r4 = 0) → (Q (-2 : Int32) M3))))))
set_option maxHeartbeats 4000000 in
set_option maxRecDepth 20000 in
theorem c0_comes {B : BX} {a : Nat → Nat} {g : GX} {b : Nat} {M : S0} {p1 : Int32} {p2 : Int32} {Q : Int32 → S0 → Prop} (hp_b : isClub b) (h : w0_comes g b M p1 p2 Q) : KI B (wl (66 + 3 * g.2) a (shX B.2.1 a g.1)) yX0_comes cX0_comes 3 (some .int) 1 22 [.ref (a b), .int p1, .int p2] M Q := by
  rw [w0_comes] at h
  refine KI_of (by decide +kernel) (Nat.le_of_ble_eq_true rfl) (fun E C hR => ?_)
  change V B E 3 (wl (66 + 3 * g.2) a (shX B.2.1 a g.1) M) 0 [(0, .ref (a b)), (1, .int p1), (2, .int p2)] []
  change Ok B E cX0_comes 3 RX0 1 22 at C
  refine v_iload_n C 1 dX0_comes_0 rfl rfl ?_
  refine v_iconst C dX0_comes_1 (v := (0 : Int32)) (by decide) ?_
  refine v_iconst C dX0_comes_2 (v := (5 : Int32)) (by decide) ?_
  refine v_callNi (As := [.int p1, .int (0 : Int32), .int (5 : Int32)]) (rest := []) C (c5_isWithin  h) eX0_44 (by omega) (by omega) rfl rfl (Nat.le_of_ble_eq_true rfl) dX0_comes_3 (fun r2 M1 h => ?_)
  refine v_if_eq C dX0_comes_6 (tgt := 19) (by decide) (fun c => ?_) (fun c => ?_)
  · replace h := h.1 c
    refine v_bipush C dX0_comes_19 (v := (-2 : Int32)) (by decide) ?_
    exact hR _ _ _ _ h dX0_comes_21
  · replace h := h.2 c
    refine v_iload_n C 2 dX0_comes_9 rfl rfl ?_
    refine v_iconst C dX0_comes_10 (v := (0 : Int32)) (by decide) ?_
    refine v_bipush C dX0_comes_11 (v := (9 : Int32)) (by decide) ?_
    refine v_callNi (As := [.int p2, .int (0 : Int32), .int (9 : Int32)]) (rest := []) C (c5_isWithin  h) eX0_44 (by omega) (by omega) rfl rfl (Nat.le_of_ble_eq_true rfl) dX0_comes_13 (fun r4 M3 h => ?_)
    refine v_if_ne C dX0_comes_16 (tgt := 22) (by decide) (fun c => ?_) (fun c => ?_)
    · replace h := h.1 c
      refine v_aload_n C 0 dX0_comes_22 rfl rfl ?_
      refine fX0_0_g_many C hp_b dX0_comes_23 ?_
      refine v_if_lt C dX0_comes_26 (tgt := 38) (by decide) (fun c => ?_) (fun c => ?_)
      · replace h := h.1 c
        refine v_bipush C dX0_comes_38 (v := (-4 : Int32)) (by decide) ?_
        exact hR _ _ _ _ h dX0_comes_40
      · replace h := h.2 c
        refine v_aload_n C 0 dX0_comes_29 rfl rfl ?_
        refine fX0_0_g_many C hp_b dX0_comes_30 ?_
        refine v_bipush C dX0_comes_33 (v := (6 : Int32)) (by decide) ?_
        refine v_icmp_lt C dX0_comes_35 (tgt := 41) (by decide) (fun c => ?_) (fun c => ?_)
        · replace h := h.1 c
          refine v_aload_n C 0 dX0_comes_41 rfl rfl ?_
          refine fX0_0_g_kind C hp_b dX0_comes_42 ?_
          refine v_aload_n C 0 dX0_comes_45 rfl rfl ?_
          refine fX0_0_g_many C hp_b dX0_comes_46 ?_
          refine v_iload_n C 1 dX0_comes_49 rfl rfl ?_
          obtain ⟨hi5, h⟩ := h
          refine v_iast (k := (b + 1)) C (xlt_c hp_b (by decide)) (sh_ca (ca_of hp_b (by decide) (by decide))) hi5 dX0_comes_50 ?_
          obtain ⟨M6, eM6⟩ : ∃ z : S0, z = up M3 (b + 1) (Int32.toNatClampNeg (M3 b 7)) p1 := ⟨_, rfl⟩
          rw [← eM6]
          replace h := h M6 eM6
          refine v_aload_n C 0 dX0_comes_51 rfl rfl ?_
          refine fX0_0_g_number C hp_b dX0_comes_52 ?_
          refine v_aload_n C 0 dX0_comes_55 rfl rfl ?_
          refine fX0_0_g_many C hp_b dX0_comes_56 ?_
          refine v_iload_n C 2 dX0_comes_59 rfl rfl ?_
          obtain ⟨hi7, h⟩ := h
          refine v_iast (k := (b + 2)) C (xlt_c hp_b (by decide)) (sh_ca (ca_of hp_b (by decide) (by decide))) hi7 dX0_comes_60 ?_
          obtain ⟨M8, eM8⟩ : ∃ z : S0, z = up M6 (b + 2) (Int32.toNatClampNeg (M6 b 7)) p2 := ⟨_, rfl⟩
          rw [← eM8]
          replace h := h M8 eM8
          refine v_aload_n C 0 dX0_comes_61 rfl rfl ?_
          refine fX0_0_g_strong C hp_b dX0_comes_62 ?_
          refine v_aload_n C 0 dX0_comes_65 rfl rfl ?_
          refine fX0_0_g_many C hp_b dX0_comes_66 ?_
          refine v_bipush C dX0_comes_69 (v := (50 : Int32)) (by decide) ?_
          obtain ⟨hi9, h⟩ := h
          refine v_iast (k := (b + 3)) C (xlt_c hp_b (by decide)) (sh_ca (ca_of hp_b (by decide) (by decide))) hi9 dX0_comes_71 ?_
          obtain ⟨M10, eM10⟩ : ∃ z : S0, z = up M8 (b + 3) (Int32.toNatClampNeg (M8 b 7)) (50 : Int32) := ⟨_, rfl⟩
          rw [← eM10]
          replace h := h M10 eM10
          refine v_aload_n C 0 dX0_comes_72 rfl rfl ?_
          refine fX0_0_g_won C hp_b dX0_comes_73 ?_
          refine v_aload_n C 0 dX0_comes_76 rfl rfl ?_
          refine fX0_0_g_many C hp_b dX0_comes_77 ?_
          refine v_iconst C dX0_comes_80 (v := (0 : Int32)) (by decide) ?_
          obtain ⟨hi11, h⟩ := h
          refine v_iast (k := (b + 4)) C (xlt_c hp_b (by decide)) (sh_ca (ca_of hp_b (by decide) (by decide))) hi11 dX0_comes_81 ?_
          obtain ⟨M12, eM12⟩ : ∃ z : S0, z = up M10 (b + 4) (Int32.toNatClampNeg (M10 b 7)) (0 : Int32) := ⟨_, rfl⟩
          rw [← eM12]
          replace h := h M12 eM12
          refine v_aload_n C 0 dX0_comes_82 rfl rfl ?_
          refine fX0_0_g_has C hp_b dX0_comes_83 ?_
          refine v_aload_n C 0 dX0_comes_86 rfl rfl ?_
          refine fX0_0_g_many C hp_b dX0_comes_87 ?_
          refine v_iconst C dX0_comes_90 (v := (0 : Int32)) (by decide) ?_
          obtain ⟨hi13, h⟩ := h
          refine v_iast (k := (b + 5)) C (xlt_c hp_b (by decide)) (sh_ca (ca_of hp_b (by decide) (by decide))) hi13 dX0_comes_91 ?_
          obtain ⟨M14, eM14⟩ : ∃ z : S0, z = up M12 (b + 5) (Int32.toNatClampNeg (M12 b 7)) (0 : Int32) := ⟨_, rfl⟩
          rw [← eM14]
          replace h := h M14 eM14
          refine v_aload_n C 0 dX0_comes_92 rfl rfl ?_
          refine v_dup C dX0_comes_93 rfl ?_
          refine fX0_0_g_many C hp_b dX0_comes_94 ?_
          refine v_iconst C dX0_comes_97 (v := (1 : Int32)) (by decide) ?_
          refine v_iadd C dX0_comes_98 ?_
          refine fX0_0_p_many C hp_b dX0_comes_99 (fun M15 eM15 => ?_)
          replace h := h M15 eM15
          refine v_aload_n C 0 dX0_comes_102 rfl rfl ?_
          refine fX0_0_g_many C hp_b dX0_comes_103 ?_
          refine v_iconst C dX0_comes_106 (v := (1 : Int32)) (by decide) ?_
          refine v_isub C dX0_comes_107 ?_
          exact hR _ _ _ _ h dX0_comes_108
        · replace h := h.2 c
          refine v_bipush C dX0_comes_38 (v := (-4 : Int32)) (by decide) ?_
          exact hR _ _ _ _ h dX0_comes_40
    · replace h := h.2 c
      refine v_bipush C dX0_comes_19 (v := (-2 : Int32)) (by decide) ?_
      exact hR _ _ _ _ h dX0_comes_21
def w0_isPlayer (g : GX) (b : Nat) (M : S0) (p1 : Int32) (Q : Int32 → S0 → Prop) : Prop :=
    ((p1 < 0) → (Q (0 : Int32) M)) ∧ ((¬ p1 < 0) → ((((M b 7) ≤ p1) → (Q (0 : Int32) M)) ∧ ((¬ (M b 7) ≤ p1) → ((((6 : Int32) ≤ p1) → (Q (0 : Int32) M)) ∧ ((¬ (6 : Int32) ≤ p1) → (Q (1 : Int32) M))))))
set_option maxHeartbeats 4000000 in
set_option maxRecDepth 20000 in
theorem c0_isPlayer {B : BX} {a : Nat → Nat} {g : GX} {b : Nat} {M : S0} {p1 : Int32} {Q : Int32 → S0 → Prop} (hp_b : isClub b) (h : w0_isPlayer g b M p1 Q) : KI B (wl (66 + 3 * g.2) a (shX B.2.1 a g.1)) yX0_isPlayer cX0_isPlayer 2 (some .boolean) 0 0 [.ref (a b), .int p1] M Q := by
  rw [w0_isPlayer] at h
  refine KZ_of (by decide +kernel) (Nat.le_of_ble_eq_true rfl) (fun E C hR => ?_)
  change V B E 2 (wl (66 + 3 * g.2) a (shX B.2.1 a g.1) M) 0 [(0, .ref (a b)), (1, .int p1)] []
  change Ok B E cX0_isPlayer 2 RX0 0 0 at C
  refine v_iload_n C 1 dX0_isPlayer_0 rfl rfl ?_
  refine v_if_lt C dX0_isPlayer_1 (tgt := 22) (by decide) (fun c => ?_) (fun c => ?_)
  · replace h := h.1 c
    refine v_iconst C dX0_isPlayer_22 (v := (0 : Int32)) (by decide) ?_
    exact hR _ _ _ _ rfl h dX0_isPlayer_23
  · replace h := h.2 c
    refine v_iload_n C 1 dX0_isPlayer_4 rfl rfl ?_
    refine v_aload_n C 0 dX0_isPlayer_5 rfl rfl ?_
    refine fX0_0_g_many C hp_b dX0_isPlayer_6 ?_
    refine v_icmp_ge C dX0_isPlayer_9 (tgt := 22) (by decide) (fun c => ?_) (fun c => ?_)
    · replace h := h.1 c
      refine v_iconst C dX0_isPlayer_22 (v := (0 : Int32)) (by decide) ?_
      exact hR _ _ _ _ rfl h dX0_isPlayer_23
    · replace h := h.2 c
      refine v_iload_n C 1 dX0_isPlayer_12 rfl rfl ?_
      refine v_bipush C dX0_isPlayer_13 (v := (6 : Int32)) (by decide) ?_
      refine v_icmp_ge C dX0_isPlayer_15 (tgt := 22) (by decide) (fun c => ?_) (fun c => ?_)
      · replace h := h.1 c
        refine v_iconst C dX0_isPlayer_22 (v := (0 : Int32)) (by decide) ?_
        exact hR _ _ _ _ rfl h dX0_isPlayer_23
      · replace h := h.2 c
        refine v_iconst C dX0_isPlayer_18 (v := (1 : Int32)) (by decide) ?_
        refine v_goto C dX0_isPlayer_19 (tgt := 23) (by decide) ?_
        exact hR _ _ _ _ rfl h dX0_isPlayer_23
def w0_areTwo (g : GX) (b : Nat) (M : S0) (p1 : Int32) (p2 : Int32) (Q : Int32 → S0 → Prop) : Prop :=
    ((p1 < 0) → (Q (0 : Int32) M)) ∧ ((¬ p1 < 0) → ((((M b 7) ≤ p1) → (Q (0 : Int32) M)) ∧ ((¬ (M b 7) ≤ p1) → ((((6 : Int32) ≤ p1) → (Q (0 : Int32) M)) ∧ ((¬ (6 : Int32) ≤ p1) → (((p2 < 0) → (Q (0 : Int32) M)) ∧ ((¬ p2 < 0) → ((((M b 7) ≤ p2) → (Q (0 : Int32) M)) ∧ ((¬ (M b 7) ≤ p2) → ((((6 : Int32) ≤ p2) → (Q (0 : Int32) M)) ∧ ((¬ (6 : Int32) ≤ p2) → (((p1 = p2) → (Q (0 : Int32) M)) ∧ ((¬ p1 = p2) → (Q (1 : Int32) M))))))))))))))
set_option maxHeartbeats 4000000 in
set_option maxRecDepth 20000 in
theorem c0_areTwo {B : BX} {a : Nat → Nat} {g : GX} {b : Nat} {M : S0} {p1 : Int32} {p2 : Int32} {Q : Int32 → S0 → Prop} (hp_b : isClub b) (h : w0_areTwo g b M p1 p2 Q) : KI B (wl (66 + 3 * g.2) a (shX B.2.1 a g.1)) yX0_areTwo cX0_areTwo 4 (some .boolean) 0 0 [.ref (a b), .int p1, .int p2] M Q := by
  rw [w0_areTwo] at h
  refine KZ_of (by decide +kernel) (Nat.le_of_ble_eq_true rfl) (fun E C hR => ?_)
  change V B E 4 (wl (66 + 3 * g.2) a (shX B.2.1 a g.1) M) 0 [(0, .ref (a b)), (1, .int p1), (2, .int p2)] []
  change Ok B E cX0_areTwo 4 RX0 0 0 at C
  refine v_iload_n C 1 dX0_areTwo_0 rfl rfl ?_
  refine v_if_lt C dX0_areTwo_1 (tgt := 22) (by decide) (fun c => ?_) (fun c => ?_)
  · replace h := h.1 c
    refine v_iconst C dX0_areTwo_22 (v := (0 : Int32)) (by decide) ?_
    refine v_istore_n (lv' := [(3, .int (0 : Int32)), (0, .ref (a b)), (1, .int p1), (2, .int p2)]) C dX0_areTwo_23 rfl (by decide) rfl ?_
    refine v_iload_n C 0 dX0_areTwo_24 rfl rfl ?_
    refine v_if_eq C dX0_areTwo_25 (tgt := 55) (by decide) (fun c => ?_) (fun c => absurd c (by decide))
    refine v_iconst C dX0_areTwo_55 (v := (0 : Int32)) (by decide) ?_
    exact hR _ _ _ _ rfl h dX0_areTwo_56
  · replace h := h.2 c
    refine v_iload_n C 1 dX0_areTwo_4 rfl rfl ?_
    refine v_aload_n C 0 dX0_areTwo_5 rfl rfl ?_
    refine fX0_0_g_many C hp_b dX0_areTwo_6 ?_
    refine v_icmp_ge C dX0_areTwo_9 (tgt := 22) (by decide) (fun c => ?_) (fun c => ?_)
    · replace h := h.1 c
      refine v_iconst C dX0_areTwo_22 (v := (0 : Int32)) (by decide) ?_
      refine v_istore_n (lv' := [(3, .int (0 : Int32)), (0, .ref (a b)), (1, .int p1), (2, .int p2)]) C dX0_areTwo_23 rfl (by decide) rfl ?_
      refine v_iload_n C 0 dX0_areTwo_24 rfl rfl ?_
      refine v_if_eq C dX0_areTwo_25 (tgt := 55) (by decide) (fun c => ?_) (fun c => absurd c (by decide))
      refine v_iconst C dX0_areTwo_55 (v := (0 : Int32)) (by decide) ?_
      exact hR _ _ _ _ rfl h dX0_areTwo_56
    · replace h := h.2 c
      refine v_iload_n C 1 dX0_areTwo_12 rfl rfl ?_
      refine v_bipush C dX0_areTwo_13 (v := (6 : Int32)) (by decide) ?_
      refine v_icmp_ge C dX0_areTwo_15 (tgt := 22) (by decide) (fun c => ?_) (fun c => ?_)
      · replace h := h.1 c
        refine v_iconst C dX0_areTwo_22 (v := (0 : Int32)) (by decide) ?_
        refine v_istore_n (lv' := [(3, .int (0 : Int32)), (0, .ref (a b)), (1, .int p1), (2, .int p2)]) C dX0_areTwo_23 rfl (by decide) rfl ?_
        refine v_iload_n C 0 dX0_areTwo_24 rfl rfl ?_
        refine v_if_eq C dX0_areTwo_25 (tgt := 55) (by decide) (fun c => ?_) (fun c => absurd c (by decide))
        refine v_iconst C dX0_areTwo_55 (v := (0 : Int32)) (by decide) ?_
        exact hR _ _ _ _ rfl h dX0_areTwo_56
      · replace h := h.2 c
        refine v_iconst C dX0_areTwo_18 (v := (1 : Int32)) (by decide) ?_
        refine v_goto C dX0_areTwo_19 (tgt := 23) (by decide) ?_
        refine v_istore_n (lv' := [(3, .int (1 : Int32)), (0, .ref (a b)), (1, .int p1), (2, .int p2)]) C dX0_areTwo_23 rfl (by decide) rfl ?_
        refine v_iload_n C 0 dX0_areTwo_24 rfl rfl ?_
        refine v_if_eq C dX0_areTwo_25 (tgt := 55) (by decide) (fun c => absurd c (by decide)) (fun c => ?_)
        refine v_iload_n C 3 dX0_areTwo_28 rfl rfl ?_
        refine v_if_lt C dX0_areTwo_29 (tgt := 55) (by decide) (fun c => ?_) (fun c => ?_)
        · replace h := h.1 c
          refine v_iconst C dX0_areTwo_55 (v := (0 : Int32)) (by decide) ?_
          exact hR _ _ _ _ rfl h dX0_areTwo_56
        · replace h := h.2 c
          refine v_iload_n C 3 dX0_areTwo_32 rfl rfl ?_
          refine v_aload_n C 1 dX0_areTwo_33 rfl rfl ?_
          refine fX0_0_g_many C hp_b dX0_areTwo_34 ?_
          refine v_icmp_ge C dX0_areTwo_37 (tgt := 55) (by decide) (fun c => ?_) (fun c => ?_)
          · replace h := h.1 c
            refine v_iconst C dX0_areTwo_55 (v := (0 : Int32)) (by decide) ?_
            exact hR _ _ _ _ rfl h dX0_areTwo_56
          · replace h := h.2 c
            refine v_iload_n C 3 dX0_areTwo_40 rfl rfl ?_
            refine v_bipush C dX0_areTwo_41 (v := (6 : Int32)) (by decide) ?_
            refine v_icmp_ge C dX0_areTwo_43 (tgt := 55) (by decide) (fun c => ?_) (fun c => ?_)
            · replace h := h.1 c
              refine v_iconst C dX0_areTwo_55 (v := (0 : Int32)) (by decide) ?_
              exact hR _ _ _ _ rfl h dX0_areTwo_56
            · replace h := h.2 c
              refine v_iload_n C 2 dX0_areTwo_46 rfl rfl ?_
              refine v_iload_n C 3 dX0_areTwo_47 rfl rfl ?_
              refine v_icmp_eq C dX0_areTwo_48 (tgt := 55) (by decide) (fun c => ?_) (fun c => ?_)
              · replace h := h.1 c
                refine v_iconst C dX0_areTwo_55 (v := (0 : Int32)) (by decide) ?_
                exact hR _ _ _ _ rfl h dX0_areTwo_56
              · replace h := h.2 c
                refine v_iconst C dX0_areTwo_51 (v := (1 : Int32)) (by decide) ?_
                refine v_goto C dX0_areTwo_52 (tgt := 56) (by decide) ?_
                exact hR _ _ _ _ rfl h dX0_areTwo_56
def w0_placeOf_b2 (g : GX) (b : Nat) (Q : Int32 → S0 → Prop) : Nat → S0 → Int32 → Int32 → Prop
  | 0, _, _, _ => False
  | n + 1, M, v1_2, v2_2 =>
    (((6 : Int32) ≤ v2_2) → (Q (-1 : Int32) M)) ∧ ((¬ (6 : Int32) ≤ v2_2) → ((vp_in v2_2 6) ∧ ((((((M (b + 5) (Int32.toNatClampNeg v2_2)) >>> (v1_2 &&& 31)) &&& (1 : Int32)) = 0) → (∀ x3 : Int32, x3 = v2_2 + (1 : Int32) → (w0_placeOf_b2 g b  Q n M v1_2 x3))) ∧ ((¬ (((M (b + 5) (Int32.toNatClampNeg v2_2)) >>> (v1_2 &&& 31)) &&& (1 : Int32)) = 0) → (Q v2_2 M)))))
set_option maxHeartbeats 4000000 in
set_option maxRecDepth 20000 in
theorem t0_placeOf_b2 {B : BX} {E : EX} {a : Nat → Nat} {g : GX} {b : Nat} {Q : Int32 → S0 → Prop} (hp_b : isClub b) (C : Ok B E cX0_placeOf 3 RX0 0 0) (hR : RetI B E cX0_placeOf 3 (wl (66 + 3 * g.2) a (shX B.2.1 a g.1)) Q) : ∀ (n : Nat) (M : S0) (v1_2 : Int32) (v2_2 : Int32), w0_placeOf_b2 g b  Q n M v1_2 v2_2 → V B E 3 (wl (66 + 3 * g.2) a (shX B.2.1 a g.1) M) 2 [(0, .ref (a b)), (1, .int v1_2), (2, .int v2_2)] [] := by
  intro n
  induction n with
  | zero =>
    intro M v1_2 v2_2  h
    exact h.elim
  | succ n ih =>
    intro M v1_2 v2_2  h
    rw [w0_placeOf_b2] at h
    refine v_iload_n C 2 dX0_placeOf_2 rfl rfl ?_
    refine v_bipush C dX0_placeOf_3 (v := (6 : Int32)) (by decide) ?_
    refine v_icmp_ge C dX0_placeOf_5 (tgt := 29) (by decide) (fun c => ?_) (fun c => ?_)
    · replace h := h.1 c
      refine v_iconst C dX0_placeOf_29 (v := (-1 : Int32)) (by decide) ?_
      exact hR _ _ _ _ h dX0_placeOf_30
    · replace h := h.2 c
      refine v_aload_n C 0 dX0_placeOf_8 rfl rfl ?_
      refine fX0_0_g_has C hp_b dX0_placeOf_9 ?_
      refine v_iload_n C 2 dX0_placeOf_12 rfl rfl ?_
      obtain ⟨hi2, h⟩ := h
      refine v_iald (k := (b + 5)) C (xlt_c hp_b (by decide)) (sh_ca (ca_of hp_b (by decide) (by decide)) _) hi2 dX0_placeOf_13 ?_
      refine v_iload_n C 1 dX0_placeOf_14 rfl rfl ?_
      refine v_ishr C dX0_placeOf_15 ?_
      refine v_iconst C dX0_placeOf_16 (v := (1 : Int32)) (by decide) ?_
      refine v_iand C dX0_placeOf_17 ?_
      refine v_if_eq C dX0_placeOf_18 (tgt := 23) (by decide) (fun c => ?_) (fun c => ?_)
      · replace h := h.1 c
        obtain ⟨x3, ex3⟩ : ∃ z : Int32, z = v2_2 + (1 : Int32) := ⟨_, rfl⟩
        replace h := h x3 ex3
        refine v_iinc (v := x3) (lv' := [(2, .int x3), (0, .ref (a b)), (1, .int v1_2)]) C 2 dX0_placeOf_23 rfl (by rw [ex3]; rfl) (by decide) rfl ?_
        refine v_goto C dX0_placeOf_26 (tgt := 2) (by decide) ?_
        refine v_sub [1, 2, 0] rfl ?_
        exact ih M v1_2 x3  h
      · replace h := h.2 c
        refine v_iload_n C 2 dX0_placeOf_21 rfl rfl ?_
        exact hR _ _ _ _ h dX0_placeOf_22
def w0_placeOf (g : GX) (b : Nat) (M : S0) (p1 : Int32) (Q : Int32 → S0 → Prop) : Prop :=
    ∃ n1, w0_placeOf_b2 g b  Q n1 M p1 (0 : Int32)
set_option maxHeartbeats 4000000 in
set_option maxRecDepth 20000 in
theorem c0_placeOf {B : BX} {a : Nat → Nat} {g : GX} {b : Nat} {M : S0} {p1 : Int32} {Q : Int32 → S0 → Prop} (hp_b : isClub b) (h : w0_placeOf g b M p1 Q) : KI B (wl (66 + 3 * g.2) a (shX B.2.1 a g.1)) yX0_placeOf cX0_placeOf 3 (some .int) 0 0 [.ref (a b), .int p1] M Q := by
  rw [w0_placeOf] at h
  refine KI_of (by decide +kernel) (Nat.le_of_ble_eq_true rfl) (fun E C hR => ?_)
  change V B E 3 (wl (66 + 3 * g.2) a (shX B.2.1 a g.1) M) 0 [(0, .ref (a b)), (1, .int p1)] []
  change Ok B E cX0_placeOf 3 RX0 0 0 at C
  refine v_iconst C dX0_placeOf_0 (v := (0 : Int32)) (by decide) ?_
  refine v_istore_n (lv' := [(2, .int (0 : Int32)), (0, .ref (a b)), (1, .int p1)]) C dX0_placeOf_1 rfl (by decide) rfl ?_
  obtain ⟨n1, h⟩ := h
  refine v_sub [1, 2, 0] rfl ?_
  exact t0_placeOf_b2 hp_b  C hR  n1 M p1 (0 : Int32)  h
def w0_bring_b19 (g : GX) (b : Nat) (Q : S0 → Prop) : Nat → S0 → Int32 → Int32 → Int32 → Prop
  | 0, _, _, _, _ => False
  | n + 1, M, v2_19, v3_19, v4_19 =>
    (((6 : Int32) ≤ v4_19) → (w0_isPlayer g b M v2_19 (fun r5 M4 => ((r5 = 0) → (∀ M6 : S0, M6 = up M4 b 6 ((M4 b 6) ||| v3_19) → (Q M6))) ∧ ((¬ r5 = 0) → ((vp_in v2_19 6) ∧ ((vp_in v2_19 6) ∧ (∀ M9 : S0, M9 = up M4 (b + 5) (Int32.toNatClampNeg v2_19) ((M4 (b + 5) (Int32.toNatClampNeg v2_19)) ||| v3_19) → (Q M9)))))))) ∧ ((¬ (6 : Int32) ≤ v4_19) → ((vp_in v4_19 6) ∧ ((vp_in v4_19 6) ∧ (∀ M12 : S0, M12 = up M (b + 5) (Int32.toNatClampNeg v4_19) ((M (b + 5) (Int32.toNatClampNeg v4_19)) &&& (v3_19 ^^^ (-1 : Int32))) → (∀ x13 : Int32, x13 = v4_19 + (1 : Int32) → (w0_bring_b19 g b  Q n M12 v2_19 v3_19 x13))))))
set_option maxHeartbeats 4000000 in
set_option maxRecDepth 20000 in
theorem t0_bring_b19 {B : BX} {E : EX} {a : Nat → Nat} {g : GX} {b : Nat} {Q : S0 → Prop} (hp_b : isClub b) (C : Ok B E cX0_bring 5 RX0 1 21) (hR : RetV B E cX0_bring 5 (wl (66 + 3 * g.2) a (shX B.2.1 a g.1)) Q) : ∀ (n : Nat) (M : S0) (v2_19 : Int32) (v3_19 : Int32) (v4_19 : Int32), w0_bring_b19 g b  Q n M v2_19 v3_19 v4_19 → V B E 5 (wl (66 + 3 * g.2) a (shX B.2.1 a g.1) M) 19 [(0, .ref (a b)), (2, .int v2_19), (3, .int v3_19), (4, .int v4_19)] [] := by
  intro n
  induction n with
  | zero =>
    intro M v2_19 v3_19 v4_19  h
    exact h.elim
  | succ n ih =>
    intro M v2_19 v3_19 v4_19  h
    rw [w0_bring_b19] at h
    refine v_iload C 3 dX0_bring_19 rfl ?_
    refine v_bipush C dX0_bring_21 (v := (6 : Int32)) (by decide) ?_
    refine v_icmp_ge C dX0_bring_23 (tgt := 45) (by decide) (fun c => ?_) (fun c => ?_)
    · replace h := h.1 c
      refine v_aload_n C 0 dX0_bring_45 rfl rfl ?_
      refine v_iload_n C 1 dX0_bring_46 rfl rfl ?_
      refine v_callVi (k := b) (As := [.int v2_19]) (rest := []) C (c0_isPlayer hp_b h) eX0_48 (by omega) (by omega) (xlt_c (j := 0) hp_b (by decide)) (sh_c0 hp_b _) rfl rfl rfl (Nat.le_of_ble_eq_true rfl) dX0_bring_47 (fun r5 M4 h => ?_)
      refine v_if_eq C dX0_bring_50 (tgt := 66) (by decide) (fun c => ?_) (fun c => ?_)
      · replace h := h.1 c
        refine v_aload_n C 0 dX0_bring_66 rfl rfl ?_
        refine v_dup C dX0_bring_67 rfl ?_
        refine fX0_0_g_hall C hp_b dX0_bring_68 ?_
        refine v_iload_n C 2 dX0_bring_71 rfl rfl ?_
        refine v_ior C dX0_bring_72 ?_
        refine fX0_0_p_hall C hp_b dX0_bring_73 (fun M6 eM6 => ?_)
        replace h := h M6 eM6
        exact hR _ _ _ h dX0_bring_76
      · replace h := h.2 c
        refine v_aload_n C 0 dX0_bring_53 rfl rfl ?_
        refine fX0_0_g_has C hp_b dX0_bring_54 ?_
        refine v_iload_n C 1 dX0_bring_57 rfl rfl ?_
        refine v_dup2 C dX0_bring_58 rfl rfl ?_
        obtain ⟨hi7, h⟩ := h
        refine v_iald (k := (b + 5)) C (xlt_c hp_b (by decide)) (sh_ca (ca_of hp_b (by decide) (by decide)) _) hi7 dX0_bring_59 ?_
        refine v_iload_n C 2 dX0_bring_60 rfl rfl ?_
        refine v_ior C dX0_bring_61 ?_
        obtain ⟨hi8, h⟩ := h
        refine v_iast (k := (b + 5)) C (xlt_c hp_b (by decide)) (sh_ca (ca_of hp_b (by decide) (by decide))) hi8 dX0_bring_62 ?_
        obtain ⟨M9, eM9⟩ : ∃ z : S0, z = up M4 (b + 5) (Int32.toNatClampNeg v2_19) ((M4 (b + 5) (Int32.toNatClampNeg v2_19)) ||| v3_19) := ⟨_, rfl⟩
        rw [← eM9]
        replace h := h M9 eM9
        refine v_goto C dX0_bring_63 (tgt := 76) (by decide) ?_
        exact hR _ _ _ h dX0_bring_76
    · replace h := h.2 c
      refine v_aload_n C 0 dX0_bring_26 rfl rfl ?_
      refine fX0_0_g_has C hp_b dX0_bring_27 ?_
      refine v_iload C 3 dX0_bring_30 rfl ?_
      refine v_dup2 C dX0_bring_32 rfl rfl ?_
      obtain ⟨hi10, h⟩ := h
      refine v_iald (k := (b + 5)) C (xlt_c hp_b (by decide)) (sh_ca (ca_of hp_b (by decide) (by decide)) _) hi10 dX0_bring_33 ?_
      refine v_iload_n C 2 dX0_bring_34 rfl rfl ?_
      refine v_iconst C dX0_bring_35 (v := (-1 : Int32)) (by decide) ?_
      refine v_ixor C dX0_bring_36 ?_
      refine v_iand C dX0_bring_37 ?_
      obtain ⟨hi11, h⟩ := h
      refine v_iast (k := (b + 5)) C (xlt_c hp_b (by decide)) (sh_ca (ca_of hp_b (by decide) (by decide))) hi11 dX0_bring_38 ?_
      obtain ⟨M12, eM12⟩ : ∃ z : S0, z = up M (b + 5) (Int32.toNatClampNeg v4_19) ((M (b + 5) (Int32.toNatClampNeg v4_19)) &&& (v3_19 ^^^ (-1 : Int32))) := ⟨_, rfl⟩
      rw [← eM12]
      replace h := h M12 eM12
      obtain ⟨x13, ex13⟩ : ∃ z : Int32, z = v4_19 + (1 : Int32) := ⟨_, rfl⟩
      replace h := h x13 ex13
      refine v_iinc (v := x13) (lv' := [(4, .int x13), (0, .ref (a b)), (2, .int v2_19), (3, .int v3_19)]) C 3 dX0_bring_39 rfl (by rw [ex13]; rfl) (by decide) rfl ?_
      refine v_goto C dX0_bring_42 (tgt := 19) (by decide) ?_
      refine v_sub [1, 2, 3, 0] rfl ?_
      exact ih M12 v2_19 v3_19 x13  h
def w0_bring (g : GX) (b : Nat) (M : S0) (p1 : Int32) (p2 : Int32) (Q : S0 → Prop) : Prop :=
    ∀ x1 : Int32, x1 = ((1 : Int32) <<< (p1 &&& 31)) → (∀ M2 : S0, M2 = up M b 6 ((M b 6) &&& (x1 ^^^ (-1 : Int32))) → (∃ n3, w0_bring_b19 g b  Q n3 M2 p2 x1 (0 : Int32)))
set_option maxHeartbeats 4000000 in
set_option maxRecDepth 20000 in
theorem c0_bring {B : BX} {a : Nat → Nat} {g : GX} {b : Nat} {M : S0} {p1 : Int32} {p2 : Int32} {Q : S0 → Prop} (hp_b : isClub b) (h : w0_bring g b M p1 p2 Q) : KV B (wl (66 + 3 * g.2) a (shX B.2.1 a g.1)) yX0_bring cX0_bring 5 none 1 21 [.ref (a b), .int p1, .int p2] M Q := by
  rw [w0_bring] at h
  refine KV_of (by decide +kernel) (Nat.le_of_ble_eq_true rfl) (fun E C hR => ?_)
  change V B E 5 (wl (66 + 3 * g.2) a (shX B.2.1 a g.1) M) 0 [(0, .ref (a b)), (1, .int p1), (2, .int p2)] []
  change Ok B E cX0_bring 5 RX0 1 21 at C
  refine v_iconst C dX0_bring_0 (v := (1 : Int32)) (by decide) ?_
  refine v_iload_n C 1 dX0_bring_1 rfl rfl ?_
  refine v_ishl C dX0_bring_2 ?_
  refine v_nmi (fun x1 ex1 => ?_)
  replace h := h x1 ex1
  refine v_istore_n (lv' := [(3, .int x1), (0, .ref (a b)), (1, .int p1), (2, .int p2)]) C dX0_bring_3 rfl (by decide) rfl ?_
  refine v_aload_n C 1 dX0_bring_4 rfl rfl ?_
  refine v_dup C dX0_bring_5 rfl ?_
  refine fX0_0_g_hall C hp_b dX0_bring_6 ?_
  refine v_iload_n C 0 dX0_bring_9 rfl rfl ?_
  refine v_iconst C dX0_bring_10 (v := (-1 : Int32)) (by decide) ?_
  refine v_ixor C dX0_bring_11 ?_
  refine v_iand C dX0_bring_12 ?_
  refine fX0_0_p_hall C hp_b dX0_bring_13 (fun M2 eM2 => ?_)
  replace h := h M2 eM2
  refine v_iconst C dX0_bring_16 (v := (0 : Int32)) (by decide) ?_
  refine v_istore (lv' := [(4, .int (0 : Int32)), (3, .int x1), (0, .ref (a b)), (1, .int p1), (2, .int p2)]) C dX0_bring_17 (by decide) rfl ?_
  obtain ⟨n3, h⟩ := h
  refine v_sub [2, 4, 1, 0] rfl ?_
  exact t0_bring_b19 hp_b  C hR  n3 M2 p2 x1 (0 : Int32)  h
def wb6_bitCount_0f7a4 (g : GX) (M : S0) (p1 : Int32) (Q : Int32 → S0 → Prop) : Prop :=
    ∀ x1 : Int32, x1 = (p1 - (((Int32.toUInt32 p1 >>> (Int32.toUInt32 (1 : Int32) &&& Int32.toUInt32 31)).toInt32) &&& (1431655765 : Int32))) → (∀ x2 : Int32, x2 = ((x1 &&& (858993459 : Int32)) + (((Int32.toUInt32 x1 >>> (Int32.toUInt32 (2 : Int32) &&& Int32.toUInt32 31)).toInt32) &&& (858993459 : Int32))) → (∀ x3 : Int32, x3 = ((x2 + ((Int32.toUInt32 x2 >>> (Int32.toUInt32 (4 : Int32) &&& Int32.toUInt32 31)).toInt32)) &&& (252645135 : Int32)) → (∀ x4 : Int32, x4 = (x3 + ((Int32.toUInt32 x3 >>> (Int32.toUInt32 (8 : Int32) &&& Int32.toUInt32 31)).toInt32)) → (∀ x5 : Int32, x5 = (x4 + ((Int32.toUInt32 x4 >>> (Int32.toUInt32 (16 : Int32) &&& Int32.toUInt32 31)).toInt32)) → (Q (x5 &&& (63 : Int32)) M)))))
set_option maxHeartbeats 4000000 in
set_option maxRecDepth 20000 in
theorem cb6_bitCount_0f7a4 {B : BX} {a : Nat → Nat} {g : GX} {M : S0} {p1 : Int32} {Q : Int32 → S0 → Prop} (h : wb6_bitCount_0f7a4 g M p1 Q) : KI B (wl (66 + 3 * g.2) a (shX B.2.1 a g.1)) yJ6_bitCount_0f7a4 cJ6_bitCount_0f7a4 1 (some .int) 0 0 [.int p1] M Q := by
  rw [wb6_bitCount_0f7a4] at h
  refine KI_of (by decide +kernel) (Nat.le_of_ble_eq_true rfl) (fun E C hR => ?_)
  change V B E 1 (wl (66 + 3 * g.2) a (shX B.2.1 a g.1) M) 0 [(0, .int p1)] []
  change Ok B E cJ6_bitCount_0f7a4 1 RJ6 0 0 at C
  refine v_iload_n C 0 dJ6_bitCount_0f7a4_0 rfl rfl ?_
  refine v_iload_n C 0 dJ6_bitCount_0f7a4_1 rfl rfl ?_
  refine v_iconst C dJ6_bitCount_0f7a4_2 (v := (1 : Int32)) (by decide) ?_
  refine v_iushr C dJ6_bitCount_0f7a4_3 ?_
  refine v_ldcw C (v := (1431655765 : Int32)) (gdm 490 (by decide +kernel) (by decide +kernel)) dJ6_bitCount_0f7a4_4 ?_
  refine v_iand C dJ6_bitCount_0f7a4_7 ?_
  refine v_isub C dJ6_bitCount_0f7a4_8 ?_
  refine v_nmi (fun x1 ex1 => ?_)
  replace h := h x1 ex1
  refine v_istore_n (lv' := [(0, .int x1)]) C dJ6_bitCount_0f7a4_9 rfl (by decide) rfl ?_
  refine v_iload_n C 0 dJ6_bitCount_0f7a4_10 rfl rfl ?_
  refine v_ldcw C (v := (858993459 : Int32)) (gdm 491 (by decide +kernel) (by decide +kernel)) dJ6_bitCount_0f7a4_11 ?_
  refine v_iand C dJ6_bitCount_0f7a4_14 ?_
  refine v_iload_n C 0 dJ6_bitCount_0f7a4_15 rfl rfl ?_
  refine v_iconst C dJ6_bitCount_0f7a4_16 (v := (2 : Int32)) (by decide) ?_
  refine v_iushr C dJ6_bitCount_0f7a4_17 ?_
  refine v_ldcw C (v := (858993459 : Int32)) (gdm 491 (by decide +kernel) (by decide +kernel)) dJ6_bitCount_0f7a4_18 ?_
  refine v_iand C dJ6_bitCount_0f7a4_21 ?_
  refine v_iadd C dJ6_bitCount_0f7a4_22 ?_
  refine v_nmi (fun x2 ex2 => ?_)
  replace h := h x2 ex2
  refine v_istore_n (lv' := [(0, .int x2)]) C dJ6_bitCount_0f7a4_23 rfl (by decide) rfl ?_
  refine v_iload_n C 0 dJ6_bitCount_0f7a4_24 rfl rfl ?_
  refine v_iload_n C 0 dJ6_bitCount_0f7a4_25 rfl rfl ?_
  refine v_iconst C dJ6_bitCount_0f7a4_26 (v := (4 : Int32)) (by decide) ?_
  refine v_iushr C dJ6_bitCount_0f7a4_27 ?_
  refine v_iadd C dJ6_bitCount_0f7a4_28 ?_
  refine v_ldcw C (v := (252645135 : Int32)) (gdm 492 (by decide +kernel) (by decide +kernel)) dJ6_bitCount_0f7a4_29 ?_
  refine v_iand C dJ6_bitCount_0f7a4_32 ?_
  refine v_nmi (fun x3 ex3 => ?_)
  replace h := h x3 ex3
  refine v_istore_n (lv' := [(0, .int x3)]) C dJ6_bitCount_0f7a4_33 rfl (by decide) rfl ?_
  refine v_iload_n C 0 dJ6_bitCount_0f7a4_34 rfl rfl ?_
  refine v_iload_n C 0 dJ6_bitCount_0f7a4_35 rfl rfl ?_
  refine v_bipush C dJ6_bitCount_0f7a4_36 (v := (8 : Int32)) (by decide) ?_
  refine v_iushr C dJ6_bitCount_0f7a4_38 ?_
  refine v_iadd C dJ6_bitCount_0f7a4_39 ?_
  refine v_nmi (fun x4 ex4 => ?_)
  replace h := h x4 ex4
  refine v_istore_n (lv' := [(0, .int x4)]) C dJ6_bitCount_0f7a4_40 rfl (by decide) rfl ?_
  refine v_iload_n C 0 dJ6_bitCount_0f7a4_41 rfl rfl ?_
  refine v_iload_n C 0 dJ6_bitCount_0f7a4_42 rfl rfl ?_
  refine v_bipush C dJ6_bitCount_0f7a4_43 (v := (16 : Int32)) (by decide) ?_
  refine v_iushr C dJ6_bitCount_0f7a4_45 ?_
  refine v_iadd C dJ6_bitCount_0f7a4_46 ?_
  refine v_nmi (fun x5 ex5 => ?_)
  replace h := h x5 ex5
  refine v_istore_n (lv' := [(0, .int x5)]) C dJ6_bitCount_0f7a4_47 rfl (by decide) rfl ?_
  refine v_iload_n C 0 dJ6_bitCount_0f7a4_48 rfl rfl ?_
  refine v_bipush C dJ6_bitCount_0f7a4_49 (v := (63 : Int32)) (by decide) ?_
  refine v_iand C dJ6_bitCount_0f7a4_51 ?_
  exact hR _ _ _ _ h dJ6_bitCount_0f7a4_52
def w0_manyInHall (g : GX) (b : Nat) (M : S0) (Q : Int32 → S0 → Prop) : Prop :=
    wb6_bitCount_0f7a4 g M (M b 6) (fun r2 M1 => Q r2 M1)
set_option maxHeartbeats 4000000 in
set_option maxRecDepth 20000 in
theorem c0_manyInHall {B : BX} {a : Nat → Nat} {g : GX} {b : Nat} {M : S0} {Q : Int32 → S0 → Prop} (hp_b : isClub b) (h : w0_manyInHall g b M  Q) : KI B (wl (66 + 3 * g.2) a (shX B.2.1 a g.1)) yX0_manyInHall cX0_manyInHall 1 (some .int) 1 20 [.ref (a b)] M Q := by
  rw [w0_manyInHall] at h
  refine KI_of (by decide +kernel) (Nat.le_of_ble_eq_true rfl) (fun E C hR => ?_)
  change V B E 1 (wl (66 + 3 * g.2) a (shX B.2.1 a g.1) M) 0 [(0, .ref (a b))] []
  change Ok B E cX0_manyInHall 1 RX0 1 20 at C
  refine v_aload_n C 0 dX0_manyInHall_0 rfl rfl ?_
  refine fX0_0_g_hall C hp_b dX0_manyInHall_1 ?_
  refine v_callSi (As := [.int (M b 6)]) (rest := []) C (cb6_bitCount_0f7a4  h) eX0_52 (by omega) (by omega) rfl rfl (Nat.le_of_ble_eq_true rfl) dX0_manyInHall_4 (fun r2 M1 h => ?_)
  exact hR _ _ _ _ h dX0_manyInHall_7
def w0_howMany (g : GX) (b : Nat) (M : S0) (p1 : Int32) (Q : Int32 → S0 → Prop) : Prop :=
    w0_isPlayer g b M p1 (fun r2 M1 => ((r2 = 0) → (Q (0 : Int32) M1)) ∧ ((¬ r2 = 0) → ((vp_in p1 6) ∧ (wb6_bitCount_0f7a4 g M1 (M1 (b + 5) (Int32.toNatClampNeg p1)) (fun r5 M4 => Q r5 M4)))))
set_option maxHeartbeats 4000000 in
set_option maxRecDepth 20000 in
theorem c0_howMany {B : BX} {a : Nat → Nat} {g : GX} {b : Nat} {M : S0} {p1 : Int32} {Q : Int32 → S0 → Prop} (hp_b : isClub b) (h : w0_howMany g b M p1 Q) : KI B (wl (66 + 3 * g.2) a (shX B.2.1 a g.1)) yX0_howMany cX0_howMany 2 (some .int) 1 21 [.ref (a b), .int p1] M Q := by
  rw [w0_howMany] at h
  refine KI_of (by decide +kernel) (Nat.le_of_ble_eq_true rfl) (fun E C hR => ?_)
  change V B E 2 (wl (66 + 3 * g.2) a (shX B.2.1 a g.1) M) 0 [(0, .ref (a b)), (1, .int p1)] []
  change Ok B E cX0_howMany 2 RX0 1 21 at C
  refine v_aload_n C 0 dX0_howMany_0 rfl rfl ?_
  refine v_iload_n C 1 dX0_howMany_1 rfl rfl ?_
  refine v_callVi (k := b) (As := [.int p1]) (rest := []) C (c0_isPlayer hp_b h) eX0_48 (by omega) (by omega) (xlt_c (j := 0) hp_b (by decide)) (sh_c0 hp_b _) rfl rfl rfl (Nat.le_of_ble_eq_true rfl) dX0_howMany_2 (fun r2 M1 h => ?_)
  refine v_if_eq C dX0_howMany_5 (tgt := 20) (by decide) (fun c => ?_) (fun c => ?_)
  · replace h := h.1 c
    refine v_iconst C dX0_howMany_20 (v := (0 : Int32)) (by decide) ?_
    exact hR _ _ _ _ h dX0_howMany_21
  · replace h := h.2 c
    refine v_aload_n C 0 dX0_howMany_8 rfl rfl ?_
    refine fX0_0_g_has C hp_b dX0_howMany_9 ?_
    refine v_iload_n C 1 dX0_howMany_12 rfl rfl ?_
    obtain ⟨hi3, h⟩ := h
    refine v_iald (k := (b + 5)) C (xlt_c hp_b (by decide)) (sh_ca (ca_of hp_b (by decide) (by decide)) _) hi3 dX0_howMany_13 ?_
    refine v_callSi (As := [.int (M1 (b + 5) (Int32.toNatClampNeg p1))]) (rest := []) C (cb6_bitCount_0f7a4  h) eX0_52 (by omega) (by omega) rfl rfl (Nat.le_of_ble_eq_true rfl) dX0_howMany_14 (fun r5 M4 h => ?_)
    refine v_goto C dX0_howMany_17 (tgt := 21) (by decide) ?_
    exact hR _ _ _ _ h dX0_howMany_21
def w0_whoHasMost_b6 (g : GX) (b : Nat) (Q : Int32 → S0 → Prop) : Nat → S0 → Int32 → Int32 → Int32 → Prop
  | 0, _, _, _, _ => False
  | n + 1, M, v1_6, v2_6, v3_6 =>
    (((M b 7) ≤ v3_6) → (Q v2_6 M)) ∧ ((¬ (M b 7) ≤ v3_6) → (w0_howMany g b M v3_6 (fun r3 M2 => ((r3 ≤ v1_6) → (∀ x4 : Int32, x4 = v3_6 + (1 : Int32) → (w0_whoHasMost_b6 g b  Q n M2 v1_6 v2_6 x4))) ∧ ((¬ r3 ≤ v1_6) → (w0_howMany g b M2 v3_6 (fun r6 M5 => ∀ x7 : Int32, x7 = v3_6 + (1 : Int32) → (w0_whoHasMost_b6 g b  Q n M5 r6 v3_6 x7)))))))
set_option maxHeartbeats 4000000 in
set_option maxRecDepth 20000 in
theorem t0_whoHasMost_b6 {B : BX} {E : EX} {a : Nat → Nat} {g : GX} {b : Nat} {Q : Int32 → S0 → Prop} (hp_b : isClub b) (C : Ok B E cX0_whoHasMost 4 RX0 2 42) (hR : RetI B E cX0_whoHasMost 4 (wl (66 + 3 * g.2) a (shX B.2.1 a g.1)) Q) : ∀ (n : Nat) (M : S0) (v1_6 : Int32) (v2_6 : Int32) (v3_6 : Int32), w0_whoHasMost_b6 g b  Q n M v1_6 v2_6 v3_6 → V B E 4 (wl (66 + 3 * g.2) a (shX B.2.1 a g.1) M) 6 [(0, .ref (a b)), (1, .int v1_6), (2, .int v2_6), (3, .int v3_6)] [] := by
  intro n
  induction n with
  | zero =>
    intro M v1_6 v2_6 v3_6  h
    exact h.elim
  | succ n ih =>
    intro M v1_6 v2_6 v3_6  h
    rw [w0_whoHasMost_b6] at h
    refine v_iload_n C 3 dX0_whoHasMost_6 rfl rfl ?_
    refine v_aload_n C 0 dX0_whoHasMost_7 rfl rfl ?_
    refine fX0_0_g_many C hp_b dX0_whoHasMost_8 ?_
    refine v_icmp_ge C dX0_whoHasMost_11 (tgt := 37) (by decide) (fun c => ?_) (fun c => ?_)
    · replace h := h.1 c
      refine v_iload_n C 2 dX0_whoHasMost_37 rfl rfl ?_
      exact hR _ _ _ _ h dX0_whoHasMost_38
    · replace h := h.2 c
      refine v_aload_n C 0 dX0_whoHasMost_14 rfl rfl ?_
      refine v_iload_n C 3 dX0_whoHasMost_15 rfl rfl ?_
      refine v_callVi (k := b) (As := [.int v3_6]) (rest := []) C (c0_howMany hp_b h) eX0_58 (by omega) (by omega) (xlt_c (j := 0) hp_b (by decide)) (sh_c0 hp_b _) rfl rfl rfl (Nat.le_of_ble_eq_true rfl) dX0_whoHasMost_16 (fun r3 M2 h => ?_)
      refine v_iload_n C 1 dX0_whoHasMost_19 rfl rfl ?_
      refine v_icmp_le C dX0_whoHasMost_20 (tgt := 31) (by decide) (fun c => ?_) (fun c => ?_)
      · replace h := h.1 c
        obtain ⟨x4, ex4⟩ : ∃ z : Int32, z = v3_6 + (1 : Int32) := ⟨_, rfl⟩
        replace h := h x4 ex4
        refine v_iinc (v := x4) (lv' := [(3, .int x4), (0, .ref (a b)), (1, .int v1_6), (2, .int v2_6)]) C 3 dX0_whoHasMost_31 rfl (by rw [ex4]; rfl) (by decide) rfl ?_
        refine v_goto C dX0_whoHasMost_34 (tgt := 6) (by decide) ?_
        refine v_sub [1, 2, 3, 0] rfl ?_
        exact ih M2 v1_6 v2_6 x4  h
      · replace h := h.2 c
        refine v_aload_n C 0 dX0_whoHasMost_23 rfl rfl ?_
        refine v_iload_n C 3 dX0_whoHasMost_24 rfl rfl ?_
        refine v_callVi (k := b) (As := [.int v3_6]) (rest := []) C (c0_howMany hp_b h) eX0_58 (by omega) (by omega) (xlt_c (j := 0) hp_b (by decide)) (sh_c0 hp_b _) rfl rfl rfl (Nat.le_of_ble_eq_true rfl) dX0_whoHasMost_25 (fun r6 M5 h => ?_)
        refine v_istore_n (lv' := [(1, .int r6), (0, .ref (a b)), (2, .int v2_6), (3, .int v3_6)]) C dX0_whoHasMost_28 rfl (by decide) rfl ?_
        refine v_iload_n C 3 dX0_whoHasMost_29 rfl rfl ?_
        refine v_istore_n (lv' := [(2, .int v3_6), (1, .int r6), (0, .ref (a b)), (3, .int v3_6)]) C dX0_whoHasMost_30 rfl (by decide) rfl ?_
        obtain ⟨x7, ex7⟩ : ∃ z : Int32, z = v3_6 + (1 : Int32) := ⟨_, rfl⟩
        replace h := h x7 ex7
        refine v_iinc (v := x7) (lv' := [(3, .int x7), (2, .int v3_6), (1, .int r6), (0, .ref (a b))]) C 3 dX0_whoHasMost_31 rfl (by rw [ex7]; rfl) (by decide) rfl ?_
        refine v_goto C dX0_whoHasMost_34 (tgt := 6) (by decide) ?_
        refine v_sub [3, 2, 1, 0] rfl ?_
        exact ih M5 r6 v3_6 x7  h
def w0_whoHasMost (g : GX) (b : Nat) (M : S0) (Q : Int32 → S0 → Prop) : Prop :=
    ∃ n1, w0_whoHasMost_b6 g b  Q n1 M (0 : Int32) (-1 : Int32) (0 : Int32)
set_option maxHeartbeats 4000000 in
set_option maxRecDepth 20000 in
theorem c0_whoHasMost {B : BX} {a : Nat → Nat} {g : GX} {b : Nat} {M : S0} {Q : Int32 → S0 → Prop} (hp_b : isClub b) (h : w0_whoHasMost g b M  Q) : KI B (wl (66 + 3 * g.2) a (shX B.2.1 a g.1)) yX0_whoHasMost cX0_whoHasMost 4 (some .int) 2 42 [.ref (a b)] M Q := by
  rw [w0_whoHasMost] at h
  refine KI_of (by decide +kernel) (Nat.le_of_ble_eq_true rfl) (fun E C hR => ?_)
  change V B E 4 (wl (66 + 3 * g.2) a (shX B.2.1 a g.1) M) 0 [(0, .ref (a b))] []
  change Ok B E cX0_whoHasMost 4 RX0 2 42 at C
  refine v_iconst C dX0_whoHasMost_0 (v := (0 : Int32)) (by decide) ?_
  refine v_istore_n (lv' := [(1, .int (0 : Int32)), (0, .ref (a b))]) C dX0_whoHasMost_1 rfl (by decide) rfl ?_
  refine v_iconst C dX0_whoHasMost_2 (v := (-1 : Int32)) (by decide) ?_
  refine v_istore_n (lv' := [(2, .int (-1 : Int32)), (1, .int (0 : Int32)), (0, .ref (a b))]) C dX0_whoHasMost_3 rfl (by decide) rfl ?_
  refine v_iconst C dX0_whoHasMost_4 (v := (0 : Int32)) (by decide) ?_
  refine v_istore_n (lv' := [(3, .int (0 : Int32)), (2, .int (-1 : Int32)), (1, .int (0 : Int32)), (0, .ref (a b))]) C dX0_whoHasMost_5 rfl (by decide) rfl ?_
  obtain ⟨n1, h⟩ := h
  refine v_sub [3, 2, 1, 0] rfl ?_
  exact t0_whoHasMost_b6 hp_b  C hR  n1 M (0 : Int32) (-1 : Int32) (0 : Int32)  h
def w0_whoHasAll_b4 (g : GX) (b : Nat) (Q : Int32 → S0 → Prop) : Nat → S0 → Int32 → Int32 → Prop
  | 0, _, _, _ => False
  | n + 1, M, v1_4, v2_4 =>
    (((M b 7) ≤ v2_4) → (Q v1_4 M)) ∧ ((¬ (M b 7) ≤ v2_4) → (w0_howMany g b M v2_4 (fun r3 M2 => ((¬ r3 = (8 : Int32)) → (∀ x4 : Int32, x4 = v2_4 + (1 : Int32) → (w0_whoHasAll_b4 g b  Q n M2 v1_4 x4))) ∧ ((r3 = (8 : Int32)) → (∀ x5 : Int32, x5 = (v1_4 ||| ((1 : Int32) <<< (v2_4 &&& 31))) → (∀ x6 : Int32, x6 = v2_4 + (1 : Int32) → (w0_whoHasAll_b4 g b  Q n M2 x5 x6)))))))
set_option maxHeartbeats 4000000 in
set_option maxRecDepth 20000 in
theorem t0_whoHasAll_b4 {B : BX} {E : EX} {a : Nat → Nat} {g : GX} {b : Nat} {Q : Int32 → S0 → Prop} (hp_b : isClub b) (C : Ok B E cX0_whoHasAll 3 RX0 2 42) (hR : RetI B E cX0_whoHasAll 3 (wl (66 + 3 * g.2) a (shX B.2.1 a g.1)) Q) : ∀ (n : Nat) (M : S0) (v1_4 : Int32) (v2_4 : Int32), w0_whoHasAll_b4 g b  Q n M v1_4 v2_4 → V B E 3 (wl (66 + 3 * g.2) a (shX B.2.1 a g.1) M) 4 [(0, .ref (a b)), (1, .int v1_4), (2, .int v2_4)] [] := by
  intro n
  induction n with
  | zero =>
    intro M v1_4 v2_4  h
    exact h.elim
  | succ n ih =>
    intro M v1_4 v2_4  h
    rw [w0_whoHasAll_b4] at h
    refine v_iload_n C 2 dX0_whoHasAll_4 rfl rfl ?_
    refine v_aload_n C 0 dX0_whoHasAll_5 rfl rfl ?_
    refine fX0_0_g_many C hp_b dX0_whoHasAll_6 ?_
    refine v_icmp_ge C dX0_whoHasAll_9 (tgt := 34) (by decide) (fun c => ?_) (fun c => ?_)
    · replace h := h.1 c
      refine v_iload_n C 1 dX0_whoHasAll_34 rfl rfl ?_
      exact hR _ _ _ _ h dX0_whoHasAll_35
    · replace h := h.2 c
      refine v_aload_n C 0 dX0_whoHasAll_12 rfl rfl ?_
      refine v_iload_n C 2 dX0_whoHasAll_13 rfl rfl ?_
      refine v_callVi (k := b) (As := [.int v2_4]) (rest := []) C (c0_howMany hp_b h) eX0_58 (by omega) (by omega) (xlt_c (j := 0) hp_b (by decide)) (sh_c0 hp_b _) rfl rfl rfl (Nat.le_of_ble_eq_true rfl) dX0_whoHasAll_14 (fun r3 M2 h => ?_)
      refine v_bipush C dX0_whoHasAll_17 (v := (8 : Int32)) (by decide) ?_
      refine v_icmp_ne C dX0_whoHasAll_19 (tgt := 28) (by decide) (fun c => ?_) (fun c => ?_)
      · replace h := h.1 c
        obtain ⟨x4, ex4⟩ : ∃ z : Int32, z = v2_4 + (1 : Int32) := ⟨_, rfl⟩
        replace h := h x4 ex4
        refine v_iinc (v := x4) (lv' := [(2, .int x4), (0, .ref (a b)), (1, .int v1_4)]) C 2 dX0_whoHasAll_28 rfl (by rw [ex4]; rfl) (by decide) rfl ?_
        refine v_goto C dX0_whoHasAll_31 (tgt := 4) (by decide) ?_
        refine v_sub [1, 2, 0] rfl ?_
        exact ih M2 v1_4 x4  h
      · replace h := h.2 c
        refine v_iload_n C 1 dX0_whoHasAll_22 rfl rfl ?_
        refine v_iconst C dX0_whoHasAll_23 (v := (1 : Int32)) (by decide) ?_
        refine v_iload_n C 2 dX0_whoHasAll_24 rfl rfl ?_
        refine v_ishl C dX0_whoHasAll_25 ?_
        refine v_ior C dX0_whoHasAll_26 ?_
        refine v_nmi (fun x5 ex5 => ?_)
        replace h := h x5 ex5
        refine v_istore_n (lv' := [(1, .int x5), (0, .ref (a b)), (2, .int v2_4)]) C dX0_whoHasAll_27 rfl (by decide) rfl ?_
        obtain ⟨x6, ex6⟩ : ∃ z : Int32, z = v2_4 + (1 : Int32) := ⟨_, rfl⟩
        replace h := h x6 ex6
        refine v_iinc (v := x6) (lv' := [(2, .int x6), (1, .int x5), (0, .ref (a b))]) C 2 dX0_whoHasAll_28 rfl (by rw [ex6]; rfl) (by decide) rfl ?_
        refine v_goto C dX0_whoHasAll_31 (tgt := 4) (by decide) ?_
        refine v_sub [2, 1, 0] rfl ?_
        exact ih M2 x5 x6  h
def w0_whoHasAll (g : GX) (b : Nat) (M : S0) (Q : Int32 → S0 → Prop) : Prop :=
    ∃ n1, w0_whoHasAll_b4 g b  Q n1 M (0 : Int32) (0 : Int32)
set_option maxHeartbeats 4000000 in
set_option maxRecDepth 20000 in
theorem c0_whoHasAll {B : BX} {a : Nat → Nat} {g : GX} {b : Nat} {M : S0} {Q : Int32 → S0 → Prop} (hp_b : isClub b) (h : w0_whoHasAll g b M  Q) : KI B (wl (66 + 3 * g.2) a (shX B.2.1 a g.1)) yX0_whoHasAll cX0_whoHasAll 3 (some .int) 2 42 [.ref (a b)] M Q := by
  rw [w0_whoHasAll] at h
  refine KI_of (by decide +kernel) (Nat.le_of_ble_eq_true rfl) (fun E C hR => ?_)
  change V B E 3 (wl (66 + 3 * g.2) a (shX B.2.1 a g.1) M) 0 [(0, .ref (a b))] []
  change Ok B E cX0_whoHasAll 3 RX0 2 42 at C
  refine v_iconst C dX0_whoHasAll_0 (v := (0 : Int32)) (by decide) ?_
  refine v_istore_n (lv' := [(1, .int (0 : Int32)), (0, .ref (a b))]) C dX0_whoHasAll_1 rfl (by decide) rfl ?_
  refine v_iconst C dX0_whoHasAll_2 (v := (0 : Int32)) (by decide) ?_
  refine v_istore_n (lv' := [(2, .int (0 : Int32)), (1, .int (0 : Int32)), (0, .ref (a b))]) C dX0_whoHasAll_3 rfl (by decide) rfl ?_
  obtain ⟨n1, h⟩ := h
  refine v_sub [2, 1, 0] rfl ?_
  exact t0_whoHasAll_b4 hp_b  C hR  n1 M (0 : Int32) (0 : Int32)  h
def w0_nameValues (g : GX) (b : Nat) (M : S0) (p1 : Int32) (p2 : Int32) (Q : S0 → Prop) : Prop :=
    (vp_in p1 6) ∧ ((vp_in (0 : Int32) 6) ∧ (∀ M3 : S0, M3 = up M 3 (Int32.toNatClampNeg (0 : Int32)) (M (b + 3) (Int32.toNatClampNeg p1)) → ((vp_in p1 6) ∧ (wb6_bitCount_0f7a4 g M3 (M3 (b + 5) (Int32.toNatClampNeg p1)) (fun r6 M5 => (vp_in (1 : Int32) 6) ∧ (∀ M8 : S0, M8 = up M5 3 (Int32.toNatClampNeg (1 : Int32)) r6 → ((vp_in p1 6) ∧ ((vp_in (2 : Int32) 6) ∧ (∀ M11 : S0, M11 = up M8 3 (Int32.toNatClampNeg (2 : Int32)) (M8 (b + 2) (Int32.toNatClampNeg p1)) → ((vp_in p2 6) ∧ ((vp_in (3 : Int32) 6) ∧ (∀ M14 : S0, M14 = up M11 3 (Int32.toNatClampNeg (3 : Int32)) (M11 (b + 3) (Int32.toNatClampNeg p2)) → ((vp_in (4 : Int32) 6) ∧ (∀ M16 : S0, M16 = up M14 3 (Int32.toNatClampNeg (4 : Int32)) (M14 b 8) → ((vp_in p2 6) ∧ (wb6_bitCount_0f7a4 g M16 ((M16 (b + 5) (Int32.toNatClampNeg p2)) ||| (M16 b 6)) (fun r19 M18 => (vp_in (5 : Int32) 6) ∧ (∀ M21 : S0, M21 = up M18 3 (Int32.toNatClampNeg (5 : Int32)) r19 → (Q M21)))))))))))))))))))
set_option maxHeartbeats 4000000 in
set_option maxRecDepth 20000 in
theorem c0_nameValues {B : BX} {a : Nat → Nat} {g : GX} {b : Nat} {M : S0} {p1 : Int32} {p2 : Int32} {Q : S0 → Prop} (hp_b : isClub b) (h : w0_nameValues g b M p1 p2 Q) : KV B (wl (66 + 3 * g.2) a (shX B.2.1 a g.1)) yX0_nameValues cX0_nameValues 4 none 1 20 [.ref (a b), .int p1, .int p2] M Q := by
  rw [w0_nameValues] at h
  refine KV_of (by decide +kernel) (Nat.le_of_ble_eq_true rfl) (fun E C hR => ?_)
  change V B E 4 (wl (66 + 3 * g.2) a (shX B.2.1 a g.1) M) 0 [(0, .ref (a b)), (1, .int p1), (2, .int p2)] []
  change Ok B E cX0_nameValues 4 RX0 1 20 at C
  refine v_aload_n C 0 dX0_nameValues_0 rfl rfl ?_
  refine fX0_0_g_texts C hp_b dX0_nameValues_1 ?_
  refine fX0_4_g_values C dX0_nameValues_4 ?_
  refine v_astore_n (lv' := [(3, .ref (a 3)), (0, .ref (a b)), (1, .int p1), (2, .int p2)]) C dX0_nameValues_7 rfl (by decide) rfl ?_
  refine v_aload_n C 0 dX0_nameValues_8 rfl rfl ?_
  refine v_iconst C dX0_nameValues_9 (v := (0 : Int32)) (by decide) ?_
  refine v_aload_n C 1 dX0_nameValues_10 rfl rfl ?_
  refine fX0_0_g_strong C hp_b dX0_nameValues_11 ?_
  refine v_iload_n C 2 dX0_nameValues_14 rfl rfl ?_
  obtain ⟨hi1, h⟩ := h
  refine v_iald (k := (b + 3)) C (xlt_c hp_b (by decide)) (sh_ca (ca_of hp_b (by decide) (by decide)) _) hi1 dX0_nameValues_15 ?_
  obtain ⟨hi2, h⟩ := h
  refine v_iast (k := 3) C (by omega) (fun _ => rfl) hi2 dX0_nameValues_16 ?_
  obtain ⟨M3, eM3⟩ : ∃ z : S0, z = up M 3 (Int32.toNatClampNeg (0 : Int32)) (M (b + 3) (Int32.toNatClampNeg p1)) := ⟨_, rfl⟩
  rw [← eM3]
  replace h := h M3 eM3
  refine v_aload_n C 0 dX0_nameValues_17 rfl rfl ?_
  refine v_iconst C dX0_nameValues_18 (v := (1 : Int32)) (by decide) ?_
  refine v_aload_n C 1 dX0_nameValues_19 rfl rfl ?_
  refine fX0_0_g_has C hp_b dX0_nameValues_20 ?_
  refine v_iload_n C 2 dX0_nameValues_23 rfl rfl ?_
  obtain ⟨hi4, h⟩ := h
  refine v_iald (k := (b + 5)) C (xlt_c hp_b (by decide)) (sh_ca (ca_of hp_b (by decide) (by decide)) _) hi4 dX0_nameValues_24 ?_
  refine v_callSi (As := [.int (M3 (b + 5) (Int32.toNatClampNeg p1))]) (rest := [.int (1 : Int32), .ref (a 3)]) C (cb6_bitCount_0f7a4  h) eX0_52 (by omega) (by omega) rfl rfl (Nat.le_of_ble_eq_true rfl) dX0_nameValues_25 (fun r6 M5 h => ?_)
  obtain ⟨hi7, h⟩ := h
  refine v_iast (k := 3) C (by omega) (fun _ => rfl) hi7 dX0_nameValues_28 ?_
  obtain ⟨M8, eM8⟩ : ∃ z : S0, z = up M5 3 (Int32.toNatClampNeg (1 : Int32)) r6 := ⟨_, rfl⟩
  rw [← eM8]
  replace h := h M8 eM8
  refine v_aload_n C 0 dX0_nameValues_29 rfl rfl ?_
  refine v_iconst C dX0_nameValues_30 (v := (2 : Int32)) (by decide) ?_
  refine v_aload_n C 1 dX0_nameValues_31 rfl rfl ?_
  refine fX0_0_g_number C hp_b dX0_nameValues_32 ?_
  refine v_iload_n C 2 dX0_nameValues_35 rfl rfl ?_
  obtain ⟨hi9, h⟩ := h
  refine v_iald (k := (b + 2)) C (xlt_c hp_b (by decide)) (sh_ca (ca_of hp_b (by decide) (by decide)) _) hi9 dX0_nameValues_36 ?_
  obtain ⟨hi10, h⟩ := h
  refine v_iast (k := 3) C (by omega) (fun _ => rfl) hi10 dX0_nameValues_37 ?_
  obtain ⟨M11, eM11⟩ : ∃ z : S0, z = up M8 3 (Int32.toNatClampNeg (2 : Int32)) (M8 (b + 2) (Int32.toNatClampNeg p1)) := ⟨_, rfl⟩
  rw [← eM11]
  replace h := h M11 eM11
  refine v_aload_n C 0 dX0_nameValues_38 rfl rfl ?_
  refine v_iconst C dX0_nameValues_39 (v := (3 : Int32)) (by decide) ?_
  refine v_aload_n C 1 dX0_nameValues_40 rfl rfl ?_
  refine fX0_0_g_strong C hp_b dX0_nameValues_41 ?_
  refine v_iload_n C 3 dX0_nameValues_44 rfl rfl ?_
  obtain ⟨hi12, h⟩ := h
  refine v_iald (k := (b + 3)) C (xlt_c hp_b (by decide)) (sh_ca (ca_of hp_b (by decide) (by decide)) _) hi12 dX0_nameValues_45 ?_
  obtain ⟨hi13, h⟩ := h
  refine v_iast (k := 3) C (by omega) (fun _ => rfl) hi13 dX0_nameValues_46 ?_
  obtain ⟨M14, eM14⟩ : ∃ z : S0, z = up M11 3 (Int32.toNatClampNeg (3 : Int32)) (M11 (b + 3) (Int32.toNatClampNeg p2)) := ⟨_, rfl⟩
  rw [← eM14]
  replace h := h M14 eM14
  refine v_aload_n C 0 dX0_nameValues_47 rfl rfl ?_
  refine v_iconst C dX0_nameValues_48 (v := (4 : Int32)) (by decide) ?_
  refine v_aload_n C 1 dX0_nameValues_49 rfl rfl ?_
  refine fX0_0_g_round C hp_b dX0_nameValues_50 ?_
  obtain ⟨hi15, h⟩ := h
  refine v_iast (k := 3) C (by omega) (fun _ => rfl) hi15 dX0_nameValues_53 ?_
  obtain ⟨M16, eM16⟩ : ∃ z : S0, z = up M14 3 (Int32.toNatClampNeg (4 : Int32)) (M14 b 8) := ⟨_, rfl⟩
  rw [← eM16]
  replace h := h M16 eM16
  refine v_aload_n C 0 dX0_nameValues_54 rfl rfl ?_
  refine v_iconst C dX0_nameValues_55 (v := (5 : Int32)) (by decide) ?_
  refine v_aload_n C 1 dX0_nameValues_56 rfl rfl ?_
  refine fX0_0_g_has C hp_b dX0_nameValues_57 ?_
  refine v_iload_n C 3 dX0_nameValues_60 rfl rfl ?_
  obtain ⟨hi17, h⟩ := h
  refine v_iald (k := (b + 5)) C (xlt_c hp_b (by decide)) (sh_ca (ca_of hp_b (by decide) (by decide)) _) hi17 dX0_nameValues_61 ?_
  refine v_aload_n C 1 dX0_nameValues_62 rfl rfl ?_
  refine fX0_0_g_hall C hp_b dX0_nameValues_63 ?_
  refine v_ior C dX0_nameValues_66 ?_
  refine v_callSi (As := [.int ((M16 (b + 5) (Int32.toNatClampNeg p2)) ||| (M16 b 6))]) (rest := [.int (5 : Int32), .ref (a 3)]) C (cb6_bitCount_0f7a4  h) eX0_52 (by omega) (by omega) rfl rfl (Nat.le_of_ble_eq_true rfl) dX0_nameValues_67 (fun r19 M18 h => ?_)
  obtain ⟨hi20, h⟩ := h
  refine v_iast (k := 3) C (by omega) (fun _ => rfl) hi20 dX0_nameValues_70 ?_
  obtain ⟨M21, eM21⟩ : ∃ z : S0, z = up M18 3 (Int32.toNatClampNeg (5 : Int32)) r19 := ⟨_, rfl⟩
  rw [← eM21]
  replace h := h M21 eM21
  exact hR _ _ _ h dX0_nameValues_71
def w0_playsBy (g : GX) (b : Nat) (M : S0) (p1 : Int32) (p2 : Int32) (Q : Int32 → S0 → Prop) : Prop :=
    (vp_in p2 6) ∧ ((((M (b + 1) (Int32.toNatClampNeg p2)).toInt = 1) → (Q ((2 : Int32) * p1) M)) ∧ (((M (b + 1) (Int32.toNatClampNeg p2)).toInt = 2) → (Q (p1 / (2 : Int32)) M)) ∧ (((M (b + 1) (Int32.toNatClampNeg p2)).toInt = 3) → ((vp_in p2 6) ∧ (((¬ (M (b + 5) (Int32.toNatClampNeg p2)) = 0) → (Q ((2 : Int32) * p1) M)) ∧ (((M (b + 5) (Int32.toNatClampNeg p2)) = 0) → ((vp_in p2 6) ∧ (Q (((2 : Int32) * p1) + (M (b + 2) (Int32.toNatClampNeg p2))) M)))))) ∧ (((M (b + 1) (Int32.toNatClampNeg p2)).toInt = 4) → ((vp_in p2 6) ∧ (((¬ ((M b 8) - (M b 8) / (10 : Int32) * (10 : Int32)) = (M (b + 2) (Int32.toNatClampNeg p2))) → (Q (p1 / (2 : Int32)) M)) ∧ ((((M b 8) - (M b 8) / (10 : Int32) * (10 : Int32)) = (M (b + 2) (Int32.toNatClampNeg p2))) → (Q ((p1 / (2 : Int32)) + (50 : Int32)) M))))) ∧ (((M (b + 1) (Int32.toNatClampNeg p2)).toInt = 5) → (Q (0 : Int32) M)) ∧ (((M (b + 1) (Int32.toNatClampNeg p2)).toInt < 1 ∨ 5 < (M (b + 1) (Int32.toNatClampNeg p2)).toInt) → (Q p1 M)))
set_option maxHeartbeats 4000000 in
set_option maxRecDepth 20000 in
theorem c0_playsBy {B : BX} {a : Nat → Nat} {g : GX} {b : Nat} {M : S0} {p1 : Int32} {p2 : Int32} {Q : Int32 → S0 → Prop} (hp_b : isClub b) (h : w0_playsBy g b M p1 p2 Q) : KI B (wl (66 + 3 * g.2) a (shX B.2.1 a g.1)) yX0_playsBy cX0_playsBy 3 (some .int) 0 0 [.ref (a b), .int p1, .int p2] M Q := by
  rw [w0_playsBy] at h
  refine KI_of (by decide +kernel) (Nat.le_of_ble_eq_true rfl) (fun E C hR => ?_)
  change V B E 3 (wl (66 + 3 * g.2) a (shX B.2.1 a g.1) M) 0 [(0, .ref (a b)), (1, .int p1), (2, .int p2)] []
  change Ok B E cX0_playsBy 3 RX0 0 0 at C
  refine v_aload_n C 0 dX0_playsBy_0 rfl rfl ?_
  refine fX0_0_g_kind C hp_b dX0_playsBy_1 ?_
  refine v_iload_n C 2 dX0_playsBy_4 rfl rfl ?_
  obtain ⟨hi1, h⟩ := h
  refine v_iald (k := (b + 1)) C (xlt_c hp_b (by decide)) (sh_ca (ca_of hp_b (by decide) (by decide)) _) hi1 dX0_playsBy_5 ?_
  refine v_sw C dX0_playsBy_6 [40, 44, 48, 74, 103] (by decide) (by decide) (tgt := 105) (by decide) (fun j t ht hx => ?_) (fun c => ?_)
  · match j, ht, hx with
    | 0, ht, hx =>
      obtain rfl : 40 = t := Option.some.inj ht
      replace h := h.1 (by omega)
      refine v_iconst C dX0_playsBy_40 (v := (2 : Int32)) (by decide) ?_
      refine v_iload_n C 1 dX0_playsBy_41 rfl rfl ?_
      refine v_imul C dX0_playsBy_42 ?_
      exact hR _ _ _ _ h dX0_playsBy_43
    | 1, ht, hx =>
      obtain rfl : 44 = t := Option.some.inj ht
      replace h := h.2.1 (by omega)
      refine v_iload_n C 1 dX0_playsBy_44 rfl rfl ?_
      refine v_iconst C dX0_playsBy_45 (v := (2 : Int32)) (by decide) ?_
      refine v_idiv C dX0_playsBy_46 (by decide) ?_
      exact hR _ _ _ _ h dX0_playsBy_47
    | 2, ht, hx =>
      obtain rfl : 48 = t := Option.some.inj ht
      replace h := h.2.2.1 (by omega)
      refine v_aload_n C 0 dX0_playsBy_48 rfl rfl ?_
      refine fX0_0_g_has C hp_b dX0_playsBy_49 ?_
      refine v_iload_n C 2 dX0_playsBy_52 rfl rfl ?_
      obtain ⟨hi2, h⟩ := h
      refine v_iald (k := (b + 5)) C (xlt_c hp_b (by decide)) (sh_ca (ca_of hp_b (by decide) (by decide)) _) hi2 dX0_playsBy_53 ?_
      refine v_if_ne C dX0_playsBy_54 (tgt := 70) (by decide) (fun c => ?_) (fun c => ?_)
      · replace h := h.1 c
        refine v_iconst C dX0_playsBy_70 (v := (2 : Int32)) (by decide) ?_
        refine v_iload_n C 1 dX0_playsBy_71 rfl rfl ?_
        refine v_imul C dX0_playsBy_72 ?_
        exact hR _ _ _ _ h dX0_playsBy_73
      · replace h := h.2 c
        refine v_iconst C dX0_playsBy_57 (v := (2 : Int32)) (by decide) ?_
        refine v_iload_n C 1 dX0_playsBy_58 rfl rfl ?_
        refine v_imul C dX0_playsBy_59 ?_
        refine v_aload_n C 0 dX0_playsBy_60 rfl rfl ?_
        refine fX0_0_g_number C hp_b dX0_playsBy_61 ?_
        refine v_iload_n C 2 dX0_playsBy_64 rfl rfl ?_
        obtain ⟨hi3, h⟩ := h
        refine v_iald (k := (b + 2)) C (xlt_c hp_b (by decide)) (sh_ca (ca_of hp_b (by decide) (by decide)) _) hi3 dX0_playsBy_65 ?_
        refine v_iadd C dX0_playsBy_66 ?_
        refine v_goto C dX0_playsBy_67 (tgt := 73) (by decide) ?_
        exact hR _ _ _ _ h dX0_playsBy_73
    | 3, ht, hx =>
      obtain rfl : 74 = t := Option.some.inj ht
      replace h := h.2.2.2.1 (by omega)
      refine v_aload_n C 0 dX0_playsBy_74 rfl rfl ?_
      refine fX0_0_g_round C hp_b dX0_playsBy_75 ?_
      refine v_bipush C dX0_playsBy_78 (v := (10 : Int32)) (by decide) ?_
      refine v_irem C dX0_playsBy_80 (by decide) ?_
      refine v_aload_n C 0 dX0_playsBy_81 rfl rfl ?_
      refine fX0_0_g_number C hp_b dX0_playsBy_82 ?_
      refine v_iload_n C 2 dX0_playsBy_85 rfl rfl ?_
      obtain ⟨hi4, h⟩ := h
      refine v_iald (k := (b + 2)) C (xlt_c hp_b (by decide)) (sh_ca (ca_of hp_b (by decide) (by decide)) _) hi4 dX0_playsBy_86 ?_
      refine v_icmp_ne C dX0_playsBy_87 (tgt := 99) (by decide) (fun c => ?_) (fun c => ?_)
      · replace h := h.1 c
        refine v_iload_n C 1 dX0_playsBy_99 rfl rfl ?_
        refine v_iconst C dX0_playsBy_100 (v := (2 : Int32)) (by decide) ?_
        refine v_idiv C dX0_playsBy_101 (by decide) ?_
        exact hR _ _ _ _ h dX0_playsBy_102
      · replace h := h.2 c
        refine v_iload_n C 1 dX0_playsBy_90 rfl rfl ?_
        refine v_iconst C dX0_playsBy_91 (v := (2 : Int32)) (by decide) ?_
        refine v_idiv C dX0_playsBy_92 (by decide) ?_
        refine v_bipush C dX0_playsBy_93 (v := (50 : Int32)) (by decide) ?_
        refine v_iadd C dX0_playsBy_95 ?_
        refine v_goto C dX0_playsBy_96 (tgt := 102) (by decide) ?_
        exact hR _ _ _ _ h dX0_playsBy_102
    | 4, ht, hx =>
      obtain rfl : 103 = t := Option.some.inj ht
      replace h := h.2.2.2.2.1 (by omega)
      refine v_iconst C dX0_playsBy_103 (v := (0 : Int32)) (by decide) ?_
      exact hR _ _ _ _ h dX0_playsBy_104
    | j + 5, ht, hx => simp at ht
  · replace h := h.2.2.2.2.2 c
    refine v_iload_n C 1 dX0_playsBy_105 rfl rfl ?_
    exact hR _ _ _ _ h dX0_playsBy_106
