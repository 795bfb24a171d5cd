def w6_sheet_b77 (Q : Int32 → S0 → Prop) : Nat → S0 → Int32 → Int32 → Int32 → Int32 → Prop
  | 0, _, _, _, _, _ => False
  | n + 1, M, v1_77, v2_77, v3_77, v4_77 =>
    ((v3_77 ≤ v4_77) → (Q (1 : Int32) M)) ∧ ((¬ v3_77 ≤ v4_77) → (((v2_77 < 0) → (Q (1 : Int32) M)) ∧ ((¬ v2_77 < 0) → ((vp_in (((40 : Int32) * v1_77) + v4_77) 160) ∧ (∀ M34 : S0, M34 = up M 11 (Int32.toNatClampNeg (((40 : Int32) * v1_77) + v4_77)) (0 : Int32) → (∀ x35 : Int32, x35 = v4_77 + (1 : Int32) → (w6_sheet_b77   Q n M34 v1_77 v2_77 v3_77 x35)))))))
set_option maxHeartbeats 4000000 in
set_option maxRecDepth 20000 in
theorem t6_sheet_b77 {B : BX} {E : EX} {a : Nat → Nat} {Q : Int32 → S0 → Prop} (C : Ok B E cX6_sheet 5 RX6 2 45) (hR : RetI B E cX6_sheet 5 (wl 12 a (shM B.2.1 a)) Q) : ∀ (n : Nat) (M : S0) (v1_77 : Int32) (v2_77 : Int32) (v3_77 : Int32) (v4_77 : Int32), w6_sheet_b77   Q n M v1_77 v2_77 v3_77 v4_77 → V B E 5 (wl 12 a (shM B.2.1 a) M) 77 [(0, .ref (a 0)), (1, .int v1_77), (2, .int v2_77), (3, .int v3_77), (4, .int v4_77)] [] := by
  intro n
  induction n with
  | zero =>
    intro M v1_77 v2_77 v3_77 v4_77  h
    exact h.elim
  | succ n ih =>
    intro M v1_77 v2_77 v3_77 v4_77  h
    rw [w6_sheet_b77] at h
    refine v_iload C 4 dX6_sheet_77 rfl ?_
    refine v_iload_n C 3 dX6_sheet_79 rfl rfl ?_
    refine v_icmp_ge C dX6_sheet_80 (tgt := 106) (by decide) (fun c => ?_) (fun c => ?_)
    · replace h := h.1 c
      refine v_iconst C dX6_sheet_106 (v := (1 : Int32)) (by decide) ?_
      exact hR _ _ _ _ h dX6_sheet_107
    · replace h := h.2 c
      refine v_iload_n C 2 dX6_sheet_83 rfl rfl ?_
      refine v_if_lt C dX6_sheet_84 (tgt := 106) (by decide) (fun c => ?_) (fun c => ?_)
      · replace h := h.1 c
        refine v_iconst C dX6_sheet_106 (v := (1 : Int32)) (by decide) ?_
        exact hR _ _ _ _ h dX6_sheet_107
      · replace h := h.2 c
        refine v_aload_n C 0 dX6_sheet_87 rfl rfl ?_
        refine fX6_6_g_items C dX6_sheet_88 ?_
        refine v_bipush C dX6_sheet_91 (v := (40 : Int32)) (by decide) ?_
        refine v_iload_n C 1 dX6_sheet_93 rfl rfl ?_
        refine v_imul C dX6_sheet_94 ?_
        refine v_iload C 4 dX6_sheet_95 rfl ?_
        refine v_iadd C dX6_sheet_97 ?_
        refine v_iconst C dX6_sheet_98 (v := (0 : Int32)) (by decide) ?_
        obtain ⟨hi33, h⟩ := h
        refine v_iast (k := 11) C (by decide) (fun _ => rfl) hi33 dX6_sheet_99 ?_
        obtain ⟨M34, eM34⟩ : ∃ z : S0, z = up M 11 (Int32.toNatClampNeg (((40 : Int32) * v1_77) + v4_77)) (0 : Int32) := ⟨_, rfl⟩
        rw [← eM34]
        replace h := h M34 eM34
        obtain ⟨x35, ex35⟩ : ∃ z : Int32, z = v4_77 + (1 : Int32) := ⟨_, rfl⟩
        replace h := h x35 ex35
        refine v_iinc (v := x35) (lv' := [(4, .int x35), (0, .ref (a 0)), (1, .int v1_77), (2, .int v2_77), (3, .int v3_77)]) C 4 dX6_sheet_100 rfl (by rw [ex35]; rfl) (by decide) rfl ?_
        refine v_goto C dX6_sheet_103 (tgt := 77) (by decide) ?_
        refine v_sub [1, 2, 3, 4, 0] rfl ?_
        exact ih M34 v1_77 v2_77 v3_77 x35  h
def w6_sheet_b34 (Q : Int32 → S0 → Prop) (M : S0) (v1_34 : Int32) (v2_34 : Int32) (v3_34 : Int32) : Prop :=
    ((v2_34 < 0) → (((v2_34 < 0) → ((vp_in v1_34 4) ∧ (∀ M6 : S0, M6 = up M 8 (Int32.toNatClampNeg v1_34) (0 : Int32) → ((vp_in v1_34 4) ∧ (∀ M8 : S0, M8 = up M6 9 (Int32.toNatClampNeg v1_34) v2_34 → ((vp_in v1_34 4) ∧ (∀ M10 : S0, M10 = up M8 10 (Int32.toNatClampNeg v1_34) v3_34 → (∃ n11, w6_sheet_b77   Q n11 M10 v1_34 v2_34 v3_34 (0 : Int32))))))))) ∧ ((¬ v2_34 < 0) → ((vp_in v1_34 4) ∧ (∀ M13 : S0, M13 = up M 8 (Int32.toNatClampNeg v1_34) (1 : Int32) → ((vp_in v1_34 4) ∧ (∀ M15 : S0, M15 = up M13 9 (Int32.toNatClampNeg v1_34) v2_34 → ((vp_in v1_34 4) ∧ (∀ M17 : S0, M17 = up M15 10 (Int32.toNatClampNeg v1_34) v3_34 → (∃ n18, w6_sheet_b77   Q n18 M17 v1_34 v2_34 v3_34 (0 : Int32))))))))))) ∧ ((¬ v2_34 < 0) → (((0 ≤ v3_34) → (((v2_34 < 0) → ((vp_in v1_34 4) ∧ (∀ M20 : S0, M20 = up M 8 (Int32.toNatClampNeg v1_34) (0 : Int32) → ((vp_in v1_34 4) ∧ (∀ M22 : S0, M22 = up M20 9 (Int32.toNatClampNeg v1_34) v2_34 → ((vp_in v1_34 4) ∧ (∀ M24 : S0, M24 = up M22 10 (Int32.toNatClampNeg v1_34) v3_34 → (∃ n25, w6_sheet_b77   Q n25 M24 v1_34 v2_34 v3_34 (0 : Int32))))))))) ∧ ((¬ v2_34 < 0) → ((vp_in v1_34 4) ∧ (∀ M27 : S0, M27 = up M 8 (Int32.toNatClampNeg v1_34) (1 : Int32) → ((vp_in v1_34 4) ∧ (∀ M29 : S0, M29 = up M27 9 (Int32.toNatClampNeg v1_34) v2_34 → ((vp_in v1_34 4) ∧ (∀ M31 : S0, M31 = up M29 10 (Int32.toNatClampNeg v1_34) v3_34 → (∃ n32, w6_sheet_b77   Q n32 M31 v1_34 v2_34 v3_34 (0 : Int32))))))))))) ∧ ((¬ 0 ≤ v3_34) → (Q (-14 : Int32) M))))
set_option maxHeartbeats 4000000 in
set_option maxRecDepth 20000 in
theorem t6_sheet_b34 {B : BX} {E : EX} {a : Nat → Nat} {Q : Int32 → S0 → Prop} (C : Ok B E cX6_sheet 5 RX6 2 45) (hR : RetI B E cX6_sheet 5 (wl 12 a (shM B.2.1 a)) Q) : ∀ (M : S0) (v1_34 : Int32) (v2_34 : Int32) (v3_34 : Int32), w6_sheet_b34   Q M v1_34 v2_34 v3_34 → V B E 5 (wl 12 a (shM B.2.1 a) M) 34 [(0, .ref (a 0)), (1, .int v1_34), (2, .int v2_34), (3, .int v3_34)] [] := by
  intro M v1_34 v2_34 v3_34  h
  rw [w6_sheet_b34] at h
  refine v_iload_n C 2 dX6_sheet_34 rfl rfl ?_
  refine v_if_lt C dX6_sheet_35 (tgt := 45) (by decide) (fun c => ?_) (fun c => ?_)
  · replace h := h.1 c
    refine v_aload_n C 0 dX6_sheet_45 rfl rfl ?_
    refine fX6_6_g_isThere C dX6_sheet_46 ?_
    refine v_iload_n C 1 dX6_sheet_49 rfl rfl ?_
    refine v_iload_n C 2 dX6_sheet_50 rfl rfl ?_
    refine v_if_lt C dX6_sheet_51 (tgt := 58) (by decide) (fun c => ?_) (fun c => ?_)
    · replace h := h.1 c
      refine v_iconst C dX6_sheet_58 (v := (0 : Int32)) (by decide) ?_
      obtain ⟨hi5, h⟩ := h
      refine v_zast (k := 8) C (by decide) (fun _ => rfl) hi5 rfl dX6_sheet_59 ?_
      obtain ⟨M6, eM6⟩ : ∃ z : S0, z = up M 8 (Int32.toNatClampNeg v1_34) (0 : Int32) := ⟨_, rfl⟩
      rw [← eM6]
      replace h := h M6 eM6
      refine v_aload_n C 0 dX6_sheet_60 rfl rfl ?_
      refine fX6_6_g_sorts C dX6_sheet_61 ?_
      refine v_iload_n C 1 dX6_sheet_64 rfl rfl ?_
      refine v_iload_n C 2 dX6_sheet_65 rfl rfl ?_
      obtain ⟨hi7, h⟩ := h
      refine v_iast (k := 9) C (by decide) (fun _ => rfl) hi7 dX6_sheet_66 ?_
      obtain ⟨M8, eM8⟩ : ∃ z : S0, z = up M6 9 (Int32.toNatClampNeg v1_34) v2_34 := ⟨_, rfl⟩
      rw [← eM8]
      replace h := h M8 eM8
      refine v_aload_n C 0 dX6_sheet_67 rfl rfl ?_
      refine fX6_6_g_sheetSize C dX6_sheet_68 ?_
      refine v_iload_n C 1 dX6_sheet_71 rfl rfl ?_
      refine v_iload_n C 3 dX6_sheet_72 rfl rfl ?_
      obtain ⟨hi9, h⟩ := h
      refine v_iast (k := 10) C (by decide) (fun _ => rfl) hi9 dX6_sheet_73 ?_
      obtain ⟨M10, eM10⟩ : ∃ z : S0, z = up M8 10 (Int32.toNatClampNeg v1_34) v3_34 := ⟨_, rfl⟩
      rw [← eM10]
      replace h := h M10 eM10
      refine v_iconst C dX6_sheet_74 (v := (0 : Int32)) (by decide) ?_
      refine v_istore (lv' := [(4, .int (0 : Int32)), (0, .ref (a 0)), (1, .int v1_34), (2, .int v2_34), (3, .int v3_34)]) C dX6_sheet_75 (by decide) rfl ?_
      obtain ⟨n11, h⟩ := h
      refine v_sub [1, 2, 3, 4, 0] rfl ?_
      exact t6_sheet_b77   C hR  n11 M10 v1_34 v2_34 v3_34 (0 : Int32)  h
    · replace h := h.2 c
      refine v_iconst C dX6_sheet_54 (v := (1 : Int32)) (by decide) ?_
      refine v_goto C dX6_sheet_55 (tgt := 59) (by decide) ?_
      obtain ⟨hi12, h⟩ := h
      refine v_zast (k := 8) C (by decide) (fun _ => rfl) hi12 rfl dX6_sheet_59 ?_
      obtain ⟨M13, eM13⟩ : ∃ z : S0, z = up M 8 (Int32.toNatClampNeg v1_34) (1 : Int32) := ⟨_, rfl⟩
      rw [← eM13]
      replace h := h M13 eM13
      refine v_aload_n C 0 dX6_sheet_60 rfl rfl ?_
      refine fX6_6_g_sorts C dX6_sheet_61 ?_
      refine v_iload_n C 1 dX6_sheet_64 rfl rfl ?_
      refine v_iload_n C 2 dX6_sheet_65 rfl rfl ?_
      obtain ⟨hi14, h⟩ := h
      refine v_iast (k := 9) C (by decide) (fun _ => rfl) hi14 dX6_sheet_66 ?_
      obtain ⟨M15, eM15⟩ : ∃ z : S0, z = up M13 9 (Int32.toNatClampNeg v1_34) v2_34 := ⟨_, rfl⟩
      rw [← eM15]
      replace h := h M15 eM15
      refine v_aload_n C 0 dX6_sheet_67 rfl rfl ?_
      refine fX6_6_g_sheetSize C dX6_sheet_68 ?_
      refine v_iload_n C 1 dX6_sheet_71 rfl rfl ?_
      refine v_iload_n C 3 dX6_sheet_72 rfl rfl ?_
      obtain ⟨hi16, h⟩ := h
      refine v_iast (k := 10) C (by decide) (fun _ => rfl) hi16 dX6_sheet_73 ?_
      obtain ⟨M17, eM17⟩ : ∃ z : S0, z = up M15 10 (Int32.toNatClampNeg v1_34) v3_34 := ⟨_, rfl⟩
      rw [← eM17]
      replace h := h M17 eM17
      refine v_iconst C dX6_sheet_74 (v := (0 : Int32)) (by decide) ?_
      refine v_istore (lv' := [(4, .int (0 : Int32)), (0, .ref (a 0)), (1, .int v1_34), (2, .int v2_34), (3, .int v3_34)]) C dX6_sheet_75 (by decide) rfl ?_
      obtain ⟨n18, h⟩ := h
      refine v_sub [1, 2, 3, 4, 0] rfl ?_
      exact t6_sheet_b77   C hR  n18 M17 v1_34 v2_34 v3_34 (0 : Int32)  h
  · replace h := h.2 c
    refine v_iload_n C 3 dX6_sheet_38 rfl rfl ?_
    refine v_if_ge C dX6_sheet_39 (tgt := 45) (by decide) (fun c => ?_) (fun c => ?_)
    · replace h := h.1 c
      refine v_aload_n C 0 dX6_sheet_45 rfl rfl ?_
      refine fX6_6_g_isThere C dX6_sheet_46 ?_
      refine v_iload_n C 1 dX6_sheet_49 rfl rfl ?_
      refine v_iload_n C 2 dX6_sheet_50 rfl rfl ?_
      refine v_if_lt C dX6_sheet_51 (tgt := 58) (by decide) (fun c => ?_) (fun c => ?_)
      · replace h := h.1 c
        refine v_iconst C dX6_sheet_58 (v := (0 : Int32)) (by decide) ?_
        obtain ⟨hi19, h⟩ := h
        refine v_zast (k := 8) C (by decide) (fun _ => rfl) hi19 rfl dX6_sheet_59 ?_
        obtain ⟨M20, eM20⟩ : ∃ z : S0, z = up M 8 (Int32.toNatClampNeg v1_34) (0 : Int32) := ⟨_, rfl⟩
        rw [← eM20]
        replace h := h M20 eM20
        refine v_aload_n C 0 dX6_sheet_60 rfl rfl ?_
        refine fX6_6_g_sorts C dX6_sheet_61 ?_
        refine v_iload_n C 1 dX6_sheet_64 rfl rfl ?_
        refine v_iload_n C 2 dX6_sheet_65 rfl rfl ?_
        obtain ⟨hi21, h⟩ := h
        refine v_iast (k := 9) C (by decide) (fun _ => rfl) hi21 dX6_sheet_66 ?_
        obtain ⟨M22, eM22⟩ : ∃ z : S0, z = up M20 9 (Int32.toNatClampNeg v1_34) v2_34 := ⟨_, rfl⟩
        rw [← eM22]
        replace h := h M22 eM22
        refine v_aload_n C 0 dX6_sheet_67 rfl rfl ?_
        refine fX6_6_g_sheetSize C dX6_sheet_68 ?_
        refine v_iload_n C 1 dX6_sheet_71 rfl rfl ?_
        refine v_iload_n C 3 dX6_sheet_72 rfl rfl ?_
        obtain ⟨hi23, h⟩ := h
        refine v_iast (k := 10) C (by decide) (fun _ => rfl) hi23 dX6_sheet_73 ?_
        obtain ⟨M24, eM24⟩ : ∃ z : S0, z = up M22 10 (Int32.toNatClampNeg v1_34) v3_34 := ⟨_, rfl⟩
        rw [← eM24]
        replace h := h M24 eM24
        refine v_iconst C dX6_sheet_74 (v := (0 : Int32)) (by decide) ?_
        refine v_istore (lv' := [(4, .int (0 : Int32)), (0, .ref (a 0)), (1, .int v1_34), (2, .int v2_34), (3, .int v3_34)]) C dX6_sheet_75 (by decide) rfl ?_
        obtain ⟨n25, h⟩ := h
        refine v_sub [1, 2, 3, 4, 0] rfl ?_
        exact t6_sheet_b77   C hR  n25 M24 v1_34 v2_34 v3_34 (0 : Int32)  h
      · replace h := h.2 c
        refine v_iconst C dX6_sheet_54 (v := (1 : Int32)) (by decide) ?_
        refine v_goto C dX6_sheet_55 (tgt := 59) (by decide) ?_
        obtain ⟨hi26, h⟩ := h
        refine v_zast (k := 8) C (by decide) (fun _ => rfl) hi26 rfl dX6_sheet_59 ?_
        obtain ⟨M27, eM27⟩ : ∃ z : S0, z = up M 8 (Int32.toNatClampNeg v1_34) (1 : Int32) := ⟨_, rfl⟩
        rw [← eM27]
        replace h := h M27 eM27
        refine v_aload_n C 0 dX6_sheet_60 rfl rfl ?_
        refine fX6_6_g_sorts C dX6_sheet_61 ?_
        refine v_iload_n C 1 dX6_sheet_64 rfl rfl ?_
        refine v_iload_n C 2 dX6_sheet_65 rfl rfl ?_
        obtain ⟨hi28, h⟩ := h
        refine v_iast (k := 9) C (by decide) (fun _ => rfl) hi28 dX6_sheet_66 ?_
        obtain ⟨M29, eM29⟩ : ∃ z : S0, z = up M27 9 (Int32.toNatClampNeg v1_34) v2_34 := ⟨_, rfl⟩
        rw [← eM29]
        replace h := h M29 eM29
        refine v_aload_n C 0 dX6_sheet_67 rfl rfl ?_
        refine fX6_6_g_sheetSize C dX6_sheet_68 ?_
        refine v_iload_n C 1 dX6_sheet_71 rfl rfl ?_
        refine v_iload_n C 3 dX6_sheet_72 rfl rfl ?_
        obtain ⟨hi30, h⟩ := h
        refine v_iast (k := 10) C (by decide) (fun _ => rfl) hi30 dX6_sheet_73 ?_
        obtain ⟨M31, eM31⟩ : ∃ z : S0, z = up M29 10 (Int32.toNatClampNeg v1_34) v3_34 := ⟨_, rfl⟩
        rw [← eM31]
        replace h := h M31 eM31
        refine v_iconst C dX6_sheet_74 (v := (0 : Int32)) (by decide) ?_
        refine v_istore (lv' := [(4, .int (0 : Int32)), (0, .ref (a 0)), (1, .int v1_34), (2, .int v2_34), (3, .int v3_34)]) C dX6_sheet_75 (by decide) rfl ?_
        obtain ⟨n32, h⟩ := h
        refine v_sub [1, 2, 3, 4, 0] rfl ?_
        exact t6_sheet_b77   C hR  n32 M31 v1_34 v2_34 v3_34 (0 : Int32)  h
    · replace h := h.2 c
      refine v_bipush C dX6_sheet_42 (v := (-14 : Int32)) (by decide) ?_
      exact hR _ _ _ _ h dX6_sheet_44
def w6_sheet (M : S0) (p1 : Int32) (p2 : Int32) (p3 : Int32) (Q : Int32 → S0 → Prop) : Prop :=
    w6_isSheet M p1 (fun r2 M1 => ((r2 = 0) → (Q (-2 : Int32) M1)) ∧ ((¬ r2 = 0) → (w6_in M1 (Int32.toInt64 p2) (-1 : Int64) (2 : Int64) (fun r4 M3 => ((r4 = 0) → (Q (-2 : Int32) M3)) ∧ ((¬ r4 = 0) → (((p2 < 0) → (w6_sheet_b34   Q M3 p1 p2 p3)) ∧ ((¬ p2 < 0) → (((p3 ≤ (40 : Int32)) → (w6_sheet_b34   Q M3 p1 p2 p3)) ∧ ((¬ p3 ≤ (40 : Int32)) → (Q (-2 : Int32) M3))))))))))
set_option maxHeartbeats 4000000 in
set_option maxRecDepth 20000 in
theorem c6_sheet {B : BX} {a : Nat → Nat} {M : S0} {p1 : Int32} {p2 : Int32} {p3 : Int32} {Q : Int32 → S0 → Prop} (h : w6_sheet  M p1 p2 p3 Q) : KI B (wl 12 a (shM B.2.1 a)) yX6_sheet cX6_sheet 5 (some .int) 2 45 [.ref (a 0), .int p1, .int p2, .int p3] M Q := by
  rw [w6_sheet] at h
  refine KI_of (by decide +kernel) (Nat.le_of_ble_eq_true rfl) (fun E C hR => ?_)
  change V B E 5 (wl 12 a (shM B.2.1 a) M) 0 [(0, .ref (a 0)), (1, .int p1), (2, .int p2), (3, .int p3)] []
  change Ok B E cX6_sheet 5 RX6 2 45 at C
  refine v_iload_n C 1 dX6_sheet_0 rfl rfl ?_
  refine v_callSi (As := [.int p1]) (rest := []) C (c6_isSheet  h) eX6_286 (by omega) (by omega) rfl rfl (Nat.le_of_ble_eq_true rfl) dX6_sheet_1 (fun r2 M1 h => ?_)
  refine v_if_eq C dX6_sheet_4 (tgt := 31) (by decide) (fun c => ?_) (fun c => ?_)
  · replace h := h.1 c
    refine v_bipush C dX6_sheet_31 (v := (-2 : Int32)) (by decide) ?_
    exact hR _ _ _ _ h dX6_sheet_33
  · replace h := h.2 c
    refine v_iload_n C 2 dX6_sheet_7 rfl rfl ?_
    refine v_i2l C dX6_sheet_8 ?_
    refine v_ldc2 C (v := (-1 : Int64)) (gdm 1201 (by decide +kernel) (by decide +kernel)) dX6_sheet_9 ?_
    refine v_ldc2 C (v := (2 : Int64)) (gdm 1202 (by decide +kernel) (by decide +kernel)) dX6_sheet_12 ?_
    refine v_callSi (As := [.long (Int32.toInt64 p2), .long (-1 : Int64), .long (2 : Int64)]) (rest := []) C (c6_in  h) eX6_64 (by omega) (by omega) rfl rfl (Nat.le_of_ble_eq_true rfl) dX6_sheet_15 (fun r4 M3 h => ?_)
    refine v_if_eq C dX6_sheet_18 (tgt := 31) (by decide) (fun c => ?_) (fun c => ?_)
    · replace h := h.1 c
      refine v_bipush C dX6_sheet_31 (v := (-2 : Int32)) (by decide) ?_
      exact hR _ _ _ _ h dX6_sheet_33
    · replace h := h.2 c
      refine v_iload_n C 2 dX6_sheet_21 rfl rfl ?_
      refine v_if_lt C dX6_sheet_22 (tgt := 34) (by decide) (fun c => ?_) (fun c => ?_)
      · replace h := h.1 c
        refine v_sub [0, 1, 2, 3] rfl ?_
        exact t6_sheet_b34   C hR  M3 p1 p2 p3  h
      · replace h := h.2 c
        refine v_iload_n C 3 dX6_sheet_25 rfl rfl ?_
        refine v_bipush C dX6_sheet_26 (v := (40 : Int32)) (by decide) ?_
        refine v_icmp_le C dX6_sheet_28 (tgt := 34) (by decide) (fun c => ?_) (fun c => ?_)
        · replace h := h.1 c
          refine v_sub [0, 1, 2, 3] rfl ?_
          exact t6_sheet_b34   C hR  M3 p1 p2 p3  h
        · replace h := h.2 c
          refine v_bipush C dX6_sheet_31 (v := (-2 : Int32)) (by decide) ?_
          exact hR _ _ _ _ h dX6_sheet_33
def w6_film_b31 (Q : Int32 → S0 → Prop) : Nat → S0 → Int32 → Int32 → Int32 → Prop
  | 0, _, _, _, _ => False
  | n + 1, M, v1_31, v2_31, v3_31 =>
    (((M 0 11) ≤ v3_31) → (Q (M 0 11) M)) ∧ ((¬ (M 0 11) ≤ v3_31) → (((¬ v3_31 = v2_31) → (w6_powerOf M v2_31 v3_31 (fun r9 M8 => (vp_in (((40 : Int32) * v1_31) + v3_31) 160) ∧ (∀ M11 : S0, M11 = up M8 11 (Int32.toNatClampNeg (((40 : Int32) * v1_31) + v3_31)) r9 → (∀ x12 : Int32, x12 = v3_31 + (1 : Int32) → (w6_film_b31   Q n M11 v1_31 v2_31 x12)))))) ∧ ((v3_31 = v2_31) → ((vp_in (((40 : Int32) * v1_31) + v3_31) 160) ∧ (∀ M14 : S0, M14 = up M 11 (Int32.toNatClampNeg (((40 : Int32) * v1_31) + v3_31)) (0 : Int32) → (∀ x15 : Int32, x15 = v3_31 + (1 : Int32) → (w6_film_b31   Q n M14 v1_31 v2_31 x15)))))))
set_option maxHeartbeats 4000000 in
set_option maxRecDepth 20000 in
theorem t6_film_b31 {B : BX} {E : EX} {a : Nat → Nat} {Q : Int32 → S0 → Prop} (C : Ok B E cX6_film 4 RX6 70 1612) (hR : RetI B E cX6_film 4 (wl 12 a (shM B.2.1 a)) Q) : ∀ (n : Nat) (M : S0) (v1_31 : Int32) (v2_31 : Int32) (v3_31 : Int32), w6_film_b31   Q n M v1_31 v2_31 v3_31 → V B E 4 (wl 12 a (shM B.2.1 a) M) 31 [(0, .ref (a 0)), (1, .int v1_31), (2, .int v2_31), (3, .int v3_31)] [] := by
  intro n
  induction n with
  | zero =>
    intro M v1_31 v2_31 v3_31  h
    exact h.elim
  | succ n ih =>
    intro M v1_31 v2_31 v3_31  h
    rw [w6_film_b31] at h
    refine v_iload_n C 3 dX6_film_31 rfl rfl ?_
    refine v_aload_n C 0 dX6_film_32 rfl rfl ?_
    refine fX6_6_g_many C dX6_film_33 ?_
    refine v_icmp_ge C dX6_film_36 (tgt := 71) (by decide) (fun c => ?_) (fun c => ?_)
    · replace h := h.1 c
      refine v_aload_n C 0 dX6_film_71 rfl rfl ?_
      refine fX6_6_g_many C dX6_film_72 ?_
      exact hR _ _ _ _ h dX6_film_75
    · replace h := h.2 c
      refine v_aload_n C 0 dX6_film_39 rfl rfl ?_
      refine fX6_6_g_items C dX6_film_40 ?_
      refine v_bipush C dX6_film_43 (v := (40 : Int32)) (by decide) ?_
      refine v_iload_n C 1 dX6_film_45 rfl rfl ?_
      refine v_imul C dX6_film_46 ?_
      refine v_iload_n C 3 dX6_film_47 rfl rfl ?_
      refine v_iadd C dX6_film_48 ?_
      refine v_iload_n C 3 dX6_film_49 rfl rfl ?_
      refine v_iload_n C 2 dX6_film_50 rfl rfl ?_
      refine v_icmp_ne C dX6_film_51 (tgt := 58) (by decide) (fun c => ?_) (fun c => ?_)
      · replace h := h.1 c
        refine v_aload_n C 0 dX6_film_58 rfl rfl ?_
        refine v_iload_n C 2 dX6_film_59 rfl rfl ?_
        refine v_iload_n C 3 dX6_film_60 rfl rfl ?_
        refine v_callVi (k := 0) (As := [.int v2_31, .int v3_31]) (rest := [.int (((40 : Int32) * v1_31) + v3_31), .ref (a 11)]) C (c6_powerOf  h) eX6_256 (by omega) (by omega) (by decide) rfl rfl rfl rfl (Nat.le_of_ble_eq_true rfl) dX6_film_61 (fun r9 M8 h => ?_)
        obtain ⟨hi10, h⟩ := h
        refine v_iast (k := 11) C (by decide) (fun _ => rfl) hi10 dX6_film_64 ?_
        obtain ⟨M11, eM11⟩ : ∃ z : S0, z = up M8 11 (Int32.toNatClampNeg (((40 : Int32) * v1_31) + v3_31)) r9 := ⟨_, rfl⟩
        rw [← eM11]
        replace h := h M11 eM11
        obtain ⟨x12, ex12⟩ : ∃ z : Int32, z = v3_31 + (1 : Int32) := ⟨_, rfl⟩
        replace h := h x12 ex12
        refine v_iinc (v := x12) (lv' := [(3, .int x12), (0, .ref (a 0)), (1, .int v1_31), (2, .int v2_31)]) C 3 dX6_film_65 rfl (by rw [ex12]; rfl) (by decide) rfl ?_
        refine v_goto C dX6_film_68 (tgt := 31) (by decide) ?_
        refine v_sub [1, 2, 3, 0] rfl ?_
        exact ih M11 v1_31 v2_31 x12  h
      · replace h := h.2 c
        refine v_iconst C dX6_film_54 (v := (0 : Int32)) (by decide) ?_
        refine v_goto C dX6_film_55 (tgt := 64) (by decide) ?_
        obtain ⟨hi13, h⟩ := h
        refine v_iast (k := 11) C (by decide) (fun _ => rfl) hi13 dX6_film_64 ?_
        obtain ⟨M14, eM14⟩ : ∃ z : S0, z = up M 11 (Int32.toNatClampNeg (((40 : Int32) * v1_31) + v3_31)) (0 : Int32) := ⟨_, rfl⟩
        rw [← eM14]
        replace h := h M14 eM14
        obtain ⟨x15, ex15⟩ : ∃ z : Int32, z = v3_31 + (1 : Int32) := ⟨_, rfl⟩
        replace h := h x15 ex15
        refine v_iinc (v := x15) (lv' := [(3, .int x15), (0, .ref (a 0)), (1, .int v1_31), (2, .int v2_31)]) C 3 dX6_film_65 rfl (by rw [ex15]; rfl) (by decide) rfl ?_
        refine v_goto C dX6_film_68 (tgt := 31) (by decide) ?_
        refine v_sub [1, 2, 3, 0] rfl ?_
        exact ih M14 v1_31 v2_31 x15  h
def w6_film (M : S0) (p1 : Int32) (p2 : Int32) (Q : Int32 → S0 → Prop) : Prop :=
    w6_isSheet M p1 (fun r2 M1 => ((r2 = 0) → (Q (-2 : Int32) M1)) ∧ ((¬ r2 = 0) → (w6_isOne M1 p2 (fun r4 M3 => ((¬ r4 = 0) → (w6_sheet M3 p1 (1 : Int32) (M3 0 11) (fun r6 M5 => ∃ n7, w6_film_b31   Q n7 M5 p1 p2 (0 : Int32)))) ∧ ((r4 = 0) → (Q (-2 : Int32) M3))))))
set_option maxHeartbeats 4000000 in
set_option maxRecDepth 20000 in
theorem c6_film {B : BX} {a : Nat → Nat} {M : S0} {p1 : Int32} {p2 : Int32} {Q : Int32 → S0 → Prop} (h : w6_film  M p1 p2 Q) : KI B (wl 12 a (shM B.2.1 a)) yX6_film cX6_film 4 (some .int) 70 1612 [.ref (a 0), .int p1, .int p2] M Q := by
  rw [w6_film] at h
  refine KI_of (by decide +kernel) (Nat.le_of_ble_eq_true rfl) (fun E C hR => ?_)
  change V B E 4 (wl 12 a (shM B.2.1 a) M) 0 [(0, .ref (a 0)), (1, .int p1), (2, .int p2)] []
  change Ok B E cX6_film 4 RX6 70 1612 at C
  refine v_iload_n C 1 dX6_film_0 rfl rfl ?_
  refine v_callSi (As := [.int p1]) (rest := []) C (c6_isSheet  h) eX6_286 (by omega) (by omega) rfl rfl (Nat.le_of_ble_eq_true rfl) dX6_film_1 (fun r2 M1 h => ?_)
  refine v_if_eq C dX6_film_4 (tgt := 15) (by decide) (fun c => ?_) (fun c => ?_)
  · replace h := h.1 c
    refine v_bipush C dX6_film_15 (v := (-2 : Int32)) (by decide) ?_
    exact hR _ _ _ _ h dX6_film_17
  · replace h := h.2 c
    refine v_aload_n C 0 dX6_film_7 rfl rfl ?_
    refine v_iload_n C 2 dX6_film_8 rfl rfl ?_
    refine v_callVi (k := 0) (As := [.int p2]) (rest := []) C (c6_isOne  h) eX6_68 (by omega) (by omega) (by decide) rfl rfl rfl rfl (Nat.le_of_ble_eq_true rfl) dX6_film_9 (fun r4 M3 h => ?_)
    refine v_if_ne C dX6_film_12 (tgt := 18) (by decide) (fun c => ?_) (fun c => ?_)
    · replace h := h.1 c
      refine v_aload_n C 0 dX6_film_18 rfl rfl ?_
      refine v_iload_n C 1 dX6_film_19 rfl rfl ?_
      refine v_iconst C dX6_film_20 (v := (1 : Int32)) (by decide) ?_
      refine v_aload_n C 0 dX6_film_21 rfl rfl ?_
      refine fX6_6_g_many C dX6_film_22 ?_
      refine v_callVi (k := 0) (As := [.int p1, .int (1 : Int32), .int (M3 0 11)]) (rest := []) C (c6_sheet  h) eX6_334 (by omega) (by omega) (by decide) rfl rfl rfl rfl (Nat.le_of_ble_eq_true rfl) dX6_film_25 (fun r6 M5 h => ?_)
      refine v_pop C dX6_film_28 rfl ?_
      refine v_iconst C dX6_film_29 (v := (0 : Int32)) (by decide) ?_
      refine v_istore_n (lv' := [(3, .int (0 : Int32)), (0, .ref (a 0)), (1, .int p1), (2, .int p2)]) C dX6_film_30 rfl (by decide) rfl ?_
      obtain ⟨n7, h⟩ := h
      refine v_sub [1, 2, 3, 0] rfl ?_
      exact t6_film_b31   C hR  n7 M5 p1 p2 (0 : Int32)  h
    · replace h := h.2 c
      refine v_bipush C dX6_film_15 (v := (-2 : Int32)) (by decide) ?_
      exact hR _ _ _ _ h dX6_film_17
def w6_hasDrawn_b10 (Q : Int32 → S0 → Prop) : Nat → S0 → Int32 → Int32 → Int32 → Int32 → Prop
  | 0, _, _, _, _, _ => False
  | n + 1, M, v2_10, v3_10, v4_10, v5_10 =>
    ((v3_10 ≤ v5_10) → (w6_has M v2_10 (fun r4 M3 => w6_laysBack M3 (fun M5 => Q r4 M5)))) ∧ ((¬ v3_10 ≤ v5_10) → ((((M 0 11) ≤ (1 : Int32)) → (w6_has M v2_10 (fun r7 M6 => w6_laysBack M6 (fun M8 => Q r7 M8)))) ∧ ((¬ (M 0 11) ≤ (1 : Int32)) → (∀ x9 : Int32, x9 = ((v4_10 * (1103515245 : Int32)) + (12345 : Int32)) → ((¬ (M 0 11) = 0) ∧ (∀ x11 : Int32, x11 = (((Int32.toUInt32 x9 >>> (Int32.toUInt32 (9 : Int32) &&& Int32.toUInt32 31)).toInt32) - ((Int32.toUInt32 x9 >>> (Int32.toUInt32 (9 : Int32) &&& Int32.toUInt32 31)).toInt32) / (M 0 11) * (M 0 11)) → ((¬ ((M 0 11) - (1 : Int32)) = 0) ∧ ((¬ (M 0 11) = 0) ∧ (∀ x14 : Int32, x14 = (((x11 + (1 : Int32)) + (((Int32.toUInt32 x9 >>> (Int32.toUInt32 (17 : Int32) &&& Int32.toUInt32 31)).toInt32) - ((Int32.toUInt32 x9 >>> (Int32.toUInt32 (17 : Int32) &&& Int32.toUInt32 31)).toInt32) / ((M 0 11) - (1 : Int32)) * ((M 0 11) - (1 : Int32)))) - ((x11 + (1 : Int32)) + (((Int32.toUInt32 x9 >>> (Int32.toUInt32 (17 : Int32) &&& Int32.toUInt32 31)).toInt32) - ((Int32.toUInt32 x9 >>> (Int32.toUInt32 (17 : Int32) &&& Int32.toUInt32 31)).toInt32) / ((M 0 11) - (1 : Int32)) * ((M 0 11) - (1 : Int32)))) / (M 0 11) * (M 0 11)) → (w6_games M x11 x14 (fun r16 M15 => ∀ x17 : Int32, x17 = v5_10 + (1 : Int32) → (w6_hasDrawn_b10   Q n M15 v2_10 v3_10 x9 x17))))))))))))
set_option maxHeartbeats 4000000 in
set_option maxRecDepth 20000 in
theorem t6_hasDrawn_b10 {B : BX} {E : EX} {a : Nat → Nat} {Q : Int32 → S0 → Prop} (C : Ok B E cX6_hasDrawn 8 RX6 72 1663) (hR : RetI B E cX6_hasDrawn 8 (wl 12 a (shM B.2.1 a)) Q) : ∀ (n : Nat) (M : S0) (v2_10 : Int32) (v3_10 : Int32) (v4_10 : Int32) (v5_10 : Int32), w6_hasDrawn_b10   Q n M v2_10 v3_10 v4_10 v5_10 → V B E 8 (wl 12 a (shM B.2.1 a) M) 10 [(0, .ref (a 0)), (2, .int v2_10), (3, .int v3_10), (4, .int v4_10), (5, .int v5_10)] [] := by
  intro n
  induction n with
  | zero =>
    intro M v2_10 v3_10 v4_10 v5_10  h
    exact h.elim
  | succ n ih =>
    intro M v2_10 v3_10 v4_10 v5_10  h
    rw [w6_hasDrawn_b10] at h
    refine v_iload C 4 dX6_hasDrawn_10 rfl ?_
    refine v_iload_n C 2 dX6_hasDrawn_12 rfl rfl ?_
    refine v_icmp_ge C dX6_hasDrawn_13 (tgt := 87) (by decide) (fun c => ?_) (fun c => ?_)
    · replace h := h.1 c
      refine v_aload_n C 0 dX6_hasDrawn_87 rfl rfl ?_
      refine v_iload_n C 1 dX6_hasDrawn_88 rfl rfl ?_
      refine v_callVi (k := 0) (As := [.int v2_10]) (rest := []) C (c6_has  h) eX6_112 (by omega) (by omega) (by decide) rfl rfl rfl rfl (Nat.le_of_ble_eq_true rfl) dX6_hasDrawn_89 (fun r4 M3 h => ?_)
      refine v_istore (lv' := [(5, .int r4), (0, .ref (a 0)), (2, .int v2_10), (3, .int v3_10), (4, .int v4_10)]) C dX6_hasDrawn_92 (by decide) rfl ?_
      refine v_aload_n C 1 dX6_hasDrawn_94 rfl rfl ?_
      refine v_callVv (k := 0) (As := []) (rest := []) C (c6_laysBack  h) eX6_281 (by omega) (by omega) (by decide) rfl rfl rfl rfl (Nat.le_of_ble_eq_true rfl) dX6_hasDrawn_95 (fun M5 h => ?_)
      refine v_iload C 0 dX6_hasDrawn_98 rfl ?_
      exact hR _ _ _ _ h dX6_hasDrawn_100
    · replace h := h.2 c
      refine v_aload_n C 0 dX6_hasDrawn_16 rfl rfl ?_
      refine fX6_6_g_many C dX6_hasDrawn_17 ?_
      refine v_iconst C dX6_hasDrawn_20 (v := (1 : Int32)) (by decide) ?_
      refine v_icmp_le C dX6_hasDrawn_21 (tgt := 87) (by decide) (fun c => ?_) (fun c => ?_)
      · replace h := h.1 c
        refine v_aload_n C 0 dX6_hasDrawn_87 rfl rfl ?_
        refine v_iload_n C 1 dX6_hasDrawn_88 rfl rfl ?_
        refine v_callVi (k := 0) (As := [.int v2_10]) (rest := []) C (c6_has  h) eX6_112 (by omega) (by omega) (by decide) rfl rfl rfl rfl (Nat.le_of_ble_eq_true rfl) dX6_hasDrawn_89 (fun r7 M6 h => ?_)
        refine v_istore (lv' := [(5, .int r7), (0, .ref (a 0)), (2, .int v2_10), (3, .int v3_10), (4, .int v4_10)]) C dX6_hasDrawn_92 (by decide) rfl ?_
        refine v_aload_n C 1 dX6_hasDrawn_94 rfl rfl ?_
        refine v_callVv (k := 0) (As := []) (rest := []) C (c6_laysBack  h) eX6_281 (by omega) (by omega) (by decide) rfl rfl rfl rfl (Nat.le_of_ble_eq_true rfl) dX6_hasDrawn_95 (fun M8 h => ?_)
        refine v_iload C 0 dX6_hasDrawn_98 rfl ?_
        exact hR _ _ _ _ h dX6_hasDrawn_100
      · replace h := h.2 c
        refine v_iload C 3 dX6_hasDrawn_24 rfl ?_
        refine v_ldcw C (v := (1103515245 : Int32)) (gdm 1211 (by decide +kernel) (by decide +kernel)) dX6_hasDrawn_26 ?_
        refine v_imul C dX6_hasDrawn_29 ?_
        refine v_sipush C dX6_hasDrawn_30 (v := (12345 : Int32)) (by decide) ?_
        refine v_iadd C dX6_hasDrawn_33 ?_
        refine v_nmi (fun x9 ex9 => ?_)
        replace h := h x9 ex9
        refine v_istore (lv' := [(4, .int x9), (0, .ref (a 0)), (2, .int v2_10), (3, .int v3_10), (5, .int v5_10)]) C dX6_hasDrawn_34 (by decide) rfl ?_
        refine v_iload C 0 dX6_hasDrawn_36 rfl ?_
        refine v_bipush C dX6_hasDrawn_38 (v := (9 : Int32)) (by decide) ?_
        refine v_iushr C dX6_hasDrawn_40 ?_
        refine v_aload_n C 1 dX6_hasDrawn_41 rfl rfl ?_
        refine fX6_6_g_many C dX6_hasDrawn_42 ?_
        obtain ⟨hz10, h⟩ := h
        refine v_irem C dX6_hasDrawn_45 hz10 ?_
        refine v_nmi (fun x11 ex11 => ?_)
        replace h := h x11 ex11
        refine v_istore (lv' := [(6, .int x11), (4, .int x9), (0, .ref (a 0)), (2, .int v2_10), (3, .int v3_10), (5, .int v5_10)]) C dX6_hasDrawn_46 (by decide) rfl ?_
        refine v_iload C 0 dX6_hasDrawn_48 rfl ?_
        refine v_iconst C dX6_hasDrawn_50 (v := (1 : Int32)) (by decide) ?_
        refine v_iadd C dX6_hasDrawn_51 ?_
        refine v_iload C 1 dX6_hasDrawn_52 rfl ?_
        refine v_bipush C dX6_hasDrawn_54 (v := (17 : Int32)) (by decide) ?_
        refine v_iushr C dX6_hasDrawn_56 ?_
        refine v_aload_n C 2 dX6_hasDrawn_57 rfl rfl ?_
        refine fX6_6_g_many C dX6_hasDrawn_58 ?_
        refine v_iconst C dX6_hasDrawn_61 (v := (1 : Int32)) (by decide) ?_
        refine v_isub C dX6_hasDrawn_62 ?_
        obtain ⟨hz12, h⟩ := h
        refine v_irem C dX6_hasDrawn_63 hz12 ?_
        refine v_iadd C dX6_hasDrawn_64 ?_
        refine v_aload_n C 2 dX6_hasDrawn_65 rfl rfl ?_
        refine fX6_6_g_many C dX6_hasDrawn_66 ?_
        obtain ⟨hz13, h⟩ := h
        refine v_irem C dX6_hasDrawn_69 hz13 ?_
        refine v_nmi (fun x14 ex14 => ?_)
        replace h := h x14 ex14
        refine v_istore (lv' := [(7, .int x14), (6, .int x11), (4, .int x9), (0, .ref (a 0)), (2, .int v2_10), (3, .int v3_10), (5, .int v5_10)]) C dX6_hasDrawn_70 (by decide) rfl ?_
        refine v_aload_n C 3 dX6_hasDrawn_72 rfl rfl ?_
        refine v_iload C 1 dX6_hasDrawn_73 rfl ?_
        refine v_iload C 0 dX6_hasDrawn_75 rfl ?_
        refine v_callVi (k := 0) (As := [.int x11, .int x14]) (rest := []) C (c6_games  h) eX6_278 (by omega) (by omega) (by decide) rfl rfl rfl rfl (Nat.le_of_ble_eq_true rfl) dX6_hasDrawn_77 (fun r16 M15 h => ?_)
        refine v_pop C dX6_hasDrawn_80 rfl ?_
        obtain ⟨x17, ex17⟩ : ∃ z : Int32, z = v5_10 + (1 : Int32) := ⟨_, rfl⟩
        replace h := h x17 ex17
        refine v_iinc (v := x17) (lv' := [(5, .int x17), (7, .int x14), (6, .int x11), (4, .int x9), (0, .ref (a 0)), (2, .int v2_10), (3, .int v3_10)]) C 6 dX6_hasDrawn_81 rfl (by rw [ex17]; rfl) (by decide) rfl ?_
        refine v_goto C dX6_hasDrawn_84 (tgt := 10) (by decide) ?_
        refine v_sub [4, 5, 6, 3, 0] rfl ?_
        exact ih M15 v2_10 v3_10 x9 x17  h
def w6_hasDrawn (M : S0) (p1 : Int32) (p2 : Int32) (p3 : Int32) (Q : Int32 → S0 → Prop) : Prop :=
    w6_laysAside M (fun M1 => ∃ n2, w6_hasDrawn_b10   Q n2 M1 p2 p3 p1 (0 : Int32))
set_option maxHeartbeats 4000000 in
set_option maxRecDepth 20000 in
theorem c6_hasDrawn {B : BX} {a : Nat → Nat} {M : S0} {p1 : Int32} {p2 : Int32} {p3 : Int32} {Q : Int32 → S0 → Prop} (h : w6_hasDrawn  M p1 p2 p3 Q) : KI B (wl 12 a (shM B.2.1 a)) yX6_hasDrawn cX6_hasDrawn 8 (some .int) 72 1663 [.ref (a 0), .int p1, .int p2, .int p3] M Q := by
  rw [w6_hasDrawn] at h
  refine KI_of (by decide +kernel) (Nat.le_of_ble_eq_true rfl) (fun E C hR => ?_)
  change V B E 8 (wl 12 a (shM B.2.1 a) M) 0 [(0, .ref (a 0)), (1, .int p1), (2, .int p2), (3, .int p3)] []
  change Ok B E cX6_hasDrawn 8 RX6 72 1663 at C
  refine v_aload_n C 0 dX6_hasDrawn_0 rfl rfl ?_
  refine v_callVv (k := 0) (As := []) (rest := []) C (c6_laysAside  h) eX6_275 (by omega) (by omega) (by decide) rfl rfl rfl rfl (Nat.le_of_ble_eq_true rfl) dX6_hasDrawn_1 (fun M1 h => ?_)
  refine v_iload_n C 1 dX6_hasDrawn_4 rfl rfl ?_
  refine v_istore (lv' := [(4, .int p1), (0, .ref (a 0)), (1, .int p1), (2, .int p2), (3, .int p3)]) C dX6_hasDrawn_5 (by decide) rfl ?_
  refine v_iconst C dX6_hasDrawn_7 (v := (0 : Int32)) (by decide) ?_
  refine v_istore (lv' := [(5, .int (0 : Int32)), (4, .int p1), (0, .ref (a 0)), (1, .int p1), (2, .int p2), (3, .int p3)]) C dX6_hasDrawn_8 (by decide) rfl ?_
  obtain ⟨n2, h⟩ := h
  refine v_sub [2, 4, 5, 1, 0] rfl ?_
  exact t6_hasDrawn_b10   C hR  n2 M1 p2 p3 p1 (0 : Int32)  h
def w6_drawn (M : S0) (p1 : Int32) (p2 : Int32) (p3 : Int32) (Q : Int32 → S0 → Prop) : Prop :=
    w6_isOne M p2 (fun r2 M1 => ((r2 = 0) → (Q (-2 : Int32) M1)) ∧ ((¬ r2 = 0) → (w6_in M1 (Int32.toInt64 p3) (0 : Int64) (60 : Int64) (fun r4 M3 => ((r4 = 0) → (Q (-2 : Int32) M3)) ∧ ((¬ r4 = 0) → (w6_hasDrawn M3 p1 p2 p3 (fun r6 M5 => Q r6 M5)))))))
set_option maxHeartbeats 4000000 in
set_option maxRecDepth 20000 in
theorem c6_drawn {B : BX} {a : Nat → Nat} {M : S0} {p1 : Int32} {p2 : Int32} {p3 : Int32} {Q : Int32 → S0 → Prop} (h : w6_drawn  M p1 p2 p3 Q) : KI B (wl 12 a (shM B.2.1 a)) yX6_drawn cX6_drawn 4 (some .int) 73 1690 [.ref (a 0), .int p1, .int p2, .int p3] M Q := by
  rw [w6_drawn] at h
  refine KI_of (by decide +kernel) (Nat.le_of_ble_eq_true rfl) (fun E C hR => ?_)
  change V B E 4 (wl 12 a (shM B.2.1 a) M) 0 [(0, .ref (a 0)), (1, .int p1), (2, .int p2), (3, .int p3)] []
  change Ok B E cX6_drawn 4 RX6 73 1690 at C
  refine v_aload_n C 0 dX6_drawn_0 rfl rfl ?_
  refine v_iload_n C 2 dX6_drawn_1 rfl rfl ?_
  refine v_callVi (k := 0) (As := [.int p2]) (rest := []) C (c6_isOne  h) eX6_68 (by omega) (by omega) (by decide) rfl rfl rfl rfl (Nat.le_of_ble_eq_true rfl) dX6_drawn_2 (fun r2 M1 h => ?_)
  refine v_if_eq C dX6_drawn_5 (tgt := 30) (by decide) (fun c => ?_) (fun c => ?_)
  · replace h := h.1 c
    refine v_bipush C dX6_drawn_30 (v := (-2 : Int32)) (by decide) ?_
    exact hR _ _ _ _ h dX6_drawn_32
  · replace h := h.2 c
    refine v_iload_n C 3 dX6_drawn_8 rfl rfl ?_
    refine v_i2l C dX6_drawn_9 ?_
    refine v_lconst C dX6_drawn_10 (v := (0 : Int64)) (by decide) ?_
    refine v_ldc2 C (v := (60 : Int64)) (gdm 1052 (by decide +kernel) (by decide +kernel)) dX6_drawn_11 ?_
    refine v_callSi (As := [.long (Int32.toInt64 p3), .long (0 : Int64), .long (60 : Int64)]) (rest := []) C (c6_in  h) eX6_64 (by omega) (by omega) rfl rfl (Nat.le_of_ble_eq_true rfl) dX6_drawn_14 (fun r4 M3 h => ?_)
    refine v_if_eq C dX6_drawn_17 (tgt := 30) (by decide) (fun c => ?_) (fun c => ?_)
    · replace h := h.1 c
      refine v_bipush C dX6_drawn_30 (v := (-2 : Int32)) (by decide) ?_
      exact hR _ _ _ _ h dX6_drawn_32
    · replace h := h.2 c
      refine v_aload_n C 0 dX6_drawn_20 rfl rfl ?_
      refine v_iload_n C 1 dX6_drawn_21 rfl rfl ?_
      refine v_iload_n C 2 dX6_drawn_22 rfl rfl ?_
      refine v_iload_n C 3 dX6_drawn_23 rfl rfl ?_
      refine v_callVi (k := 0) (As := [.int p1, .int p2, .int p3]) (rest := []) C (c6_hasDrawn  h) eX6_338 (by omega) (by omega) (by decide) rfl rfl rfl rfl (Nat.le_of_ble_eq_true rfl) dX6_drawn_24 (fun r6 M5 h => ?_)
      refine v_goto C dX6_drawn_27 (tgt := 32) (by decide) ?_
      exact hR _ _ _ _ h dX6_drawn_32
def w6_chance_b103 (Q : Int64 → S0 → Prop) : Nat → S0 → Int32 → Int32 → Int64 → Int64 → Int64 → Prop
  | 0, _, _, _, _, _, _ => False
  | n + 1, M, v2_103, v5_103, v6_103, v8_103, v10_103 =>
    (((lg_cmp v10_103 (0 : Int64)) = 0) → (((¬ v5_103 = 0) → ((¬ v8_103 = 0) ∧ (Q ((Int32.toInt64 v2_103) / v8_103) M))) ∧ ((v5_103 = 0) → ((¬ v8_103 = 0) ∧ (Q (v6_103 / v8_103) M))))) ∧ ((¬ (lg_cmp v10_103 (0 : Int64)) = 0) → ((¬ v10_103 = 0) ∧ (∀ x24 : Int64, x24 = (v8_103 - v8_103 / v10_103 * v10_103) → (w6_chance_b103   Q n M v2_103 v5_103 v6_103 v10_103 x24))))
set_option maxHeartbeats 4000000 in
set_option maxRecDepth 20000 in
theorem t6_chance_b103 {B : BX} {E : EX} {a : Nat → Nat} {Q : Int64 → S0 → Prop} (C : Ok B E cX6_chance 14 RX6 73 1690) (hR : RetL B E cX6_chance 14 (wl 12 a (shM B.2.1 a)) Q) : ∀ (n : Nat) (M : S0) (v2_103 : Int32) (v5_103 : Int32) (v6_103 : Int64) (v8_103 : Int64) (v10_103 : Int64), w6_chance_b103   Q n M v2_103 v5_103 v6_103 v8_103 v10_103 → V B E 14 (wl 12 a (shM B.2.1 a) M) 103 [(2, .int v2_103), (5, .int v5_103), (6, .long v6_103), (8, .long v8_103), (10, .long v10_103)] [] := by
  intro n
  induction n with
  | zero =>
    intro M v2_103 v5_103 v6_103 v8_103 v10_103  h
    exact h.elim
  | succ n ih =>
    intro M v2_103 v5_103 v6_103 v8_103 v10_103  h
    rw [w6_chance_b103] at h
    refine v_lload C 4 dX6_chance_103 rfl ?_
    refine v_lconst C dX6_chance_105 (v := (0 : Int64)) (by decide) ?_
    refine v_lcmp C dX6_chance_106 ?_
    refine v_if_eq C dX6_chance_107 (tgt := 128) (by decide) (fun c => ?_) (fun c => ?_)
    · replace h := h.1 c
      refine v_iload C 1 dX6_chance_128 rfl ?_
      refine v_if_ne C dX6_chance_130 (tgt := 141) (by decide) (fun c => ?_) (fun c => ?_)
      · replace h := h.1 c
        refine v_iload_n C 0 dX6_chance_141 rfl rfl ?_
        refine v_i2l C dX6_chance_142 ?_
        refine v_lload C 3 dX6_chance_143 rfl ?_
        obtain ⟨hz21, h⟩ := h
        refine v_ldiv C dX6_chance_145 hz21 ?_
        exact hR _ _ _ _ h dX6_chance_146
      · replace h := h.2 c
        refine v_lload C 2 dX6_chance_133 rfl ?_
        refine v_lload C 3 dX6_chance_135 rfl ?_
        obtain ⟨hz22, h⟩ := h
        refine v_ldiv C dX6_chance_137 hz22 ?_
        refine v_goto C dX6_chance_138 (tgt := 146) (by decide) ?_
        exact hR _ _ _ _ h dX6_chance_146
    · replace h := h.2 c
      refine v_lload C 3 dX6_chance_110 rfl ?_
      refine v_lload C 4 dX6_chance_112 rfl ?_
      obtain ⟨hz23, h⟩ := h
      refine v_lrem C dX6_chance_114 hz23 ?_
      refine v_nml (fun x24 ex24 => ?_)
      replace h := h x24 ex24
      refine v_lstore (lv' := [(12, .long x24), (2, .int v2_103), (5, .int v5_103), (6, .long v6_103), (8, .long v8_103), (10, .long v10_103)]) C dX6_chance_115 (by decide) rfl ?_
      refine v_lload C 5 dX6_chance_117 rfl ?_
      refine v_lstore (lv' := [(8, .long v10_103), (12, .long x24), (2, .int v2_103), (5, .int v5_103), (6, .long v6_103), (10, .long v10_103)]) C dX6_chance_119 (by decide) rfl ?_
      refine v_lload C 1 dX6_chance_121 rfl ?_
      refine v_lstore (lv' := [(10, .long x24), (8, .long v10_103), (12, .long x24), (2, .int v2_103), (5, .int v5_103), (6, .long v6_103)]) C dX6_chance_123 (by decide) rfl ?_
      refine v_goto C dX6_chance_125 (tgt := 103) (by decide) ?_
      refine v_sub [3, 4, 5, 1, 0] rfl ?_
      exact ih M v2_103 v5_103 v6_103 v10_103 x24  h
def w6_chance_b54 (Q : Int64 → S0 → Prop) : Nat → S0 → Int32 → Int32 → Int32 → Int32 → Int32 → Int64 → Int32 → Prop
  | 0, _, _, _, _, _, _, _, _ => False
  | n + 1, M, v1_54, v2_54, v3_54, v4_54, v5_54, v6_54, v8_54 =>
    ((v2_54 ≤ v8_54) → (∀ x11 : Int64, x11 = (Int32.toInt64 v2_54) → (∃ n12, w6_chance_b103   Q n12 M v2_54 v5_54 v6_54 v6_54 x11))) ∧ ((¬ v2_54 ≤ v8_54) → (w6_hasDrawn M (v1_54 + v8_54) v3_54 (6 : Int32) (fun r14 M13 => w6_bitsOf M13 r14 (fun r16 M15 => ((r16 < v4_54) → (∀ x17 : Int64, x17 = (v6_54 + (0 : Int64)) → (∀ x18 : Int32, x18 = v8_54 + (1 : Int32) → (w6_chance_b54   Q n M15 v1_54 v2_54 v3_54 v4_54 v5_54 x17 x18)))) ∧ ((¬ r16 < v4_54) → (∀ x19 : Int64, x19 = (v6_54 + (1 : Int64)) → (∀ x20 : Int32, x20 = v8_54 + (1 : Int32) → (w6_chance_b54   Q n M15 v1_54 v2_54 v3_54 v4_54 v5_54 x19 x20))))))))
set_option maxHeartbeats 4000000 in
set_option maxRecDepth 20000 in
theorem t6_chance_b54 {B : BX} {E : EX} {a : Nat → Nat} {Q : Int64 → S0 → Prop} (C : Ok B E cX6_chance 14 RX6 73 1690) (hR : RetL B E cX6_chance 14 (wl 12 a (shM B.2.1 a)) Q) : ∀ (n : Nat) (M : S0) (v1_54 : Int32) (v2_54 : Int32) (v3_54 : Int32) (v4_54 : Int32) (v5_54 : Int32) (v6_54 : Int64) (v8_54 : Int32), w6_chance_b54   Q n M v1_54 v2_54 v3_54 v4_54 v5_54 v6_54 v8_54 → V B E 14 (wl 12 a (shM B.2.1 a) M) 54 [(0, .ref (a 0)), (1, .int v1_54), (2, .int v2_54), (3, .int v3_54), (4, .int v4_54), (5, .int v5_54), (6, .long v6_54), (8, .int v8_54)] [] := by
  intro n
  induction n with
  | zero =>
    intro M v1_54 v2_54 v3_54 v4_54 v5_54 v6_54 v8_54  h
    exact h.elim
  | succ n ih =>
    intro M v1_54 v2_54 v3_54 v4_54 v5_54 v6_54 v8_54  h
    rw [w6_chance_b54] at h
    refine v_iload C 7 dX6_chance_54 rfl ?_
    refine v_iload_n C 2 dX6_chance_56 rfl rfl ?_
    refine v_icmp_ge C dX6_chance_57 (tgt := 95) (by decide) (fun c => ?_) (fun c => ?_)
    · replace h := h.1 c
      refine v_lload C 6 dX6_chance_95 rfl ?_
      refine v_lstore (lv' := [(8, .long v6_54), (0, .ref (a 0)), (1, .int v1_54), (2, .int v2_54), (3, .int v3_54), (4, .int v4_54), (5, .int v5_54), (6, .long v6_54)]) C dX6_chance_97 (by decide) rfl ?_
      refine v_iload_n C 3 dX6_chance_99 rfl rfl ?_
      refine v_i2l C dX6_chance_100 ?_
      refine v_nml (fun x11 ex11 => ?_)
      replace h := h x11 ex11
      refine v_lstore (lv' := [(10, .long x11), (8, .long v6_54), (0, .ref (a 0)), (1, .int v1_54), (2, .int v2_54), (3, .int v3_54), (4, .int v4_54), (5, .int v5_54), (6, .long v6_54)]) C dX6_chance_101 (by decide) rfl ?_
      obtain ⟨n12, h⟩ := h
      refine v_sub [4, 7, 8, 1, 0] rfl ?_
      exact t6_chance_b103   C hR  n12 M v2_54 v5_54 v6_54 v6_54 x11  h
    · replace h := h.2 c
      refine v_lload C 6 dX6_chance_60 rfl ?_
      refine v_aload_n C 0 dX6_chance_62 rfl rfl ?_
      refine v_iload_n C 1 dX6_chance_63 rfl rfl ?_
      refine v_iload C 7 dX6_chance_64 rfl ?_
      refine v_iadd C dX6_chance_66 ?_
      refine v_iload_n C 3 dX6_chance_67 rfl rfl ?_
      refine v_bipush C dX6_chance_68 (v := (6 : Int32)) (by decide) ?_
      refine v_callVi (k := 0) (As := [.int (v1_54 + v8_54), .int v3_54, .int (6 : Int32)]) (rest := [.long v6_54]) C (c6_hasDrawn  h) eX6_338 (by omega) (by omega) (by decide) rfl rfl rfl rfl (Nat.le_of_ble_eq_true rfl) dX6_chance_70 (fun r14 M13 h => ?_)
      refine v_callSi (As := [.int r14]) (rest := [.long v6_54]) C (c6_bitsOf  h) eX6_116 (by omega) (by omega) rfl rfl (Nat.le_of_ble_eq_true rfl) dX6_chance_73 (fun r16 M15 h => ?_)
      refine v_iload C 4 dX6_chance_76 rfl ?_
      refine v_icmp_lt C dX6_chance_78 (tgt := 85) (by decide) (fun c => ?_) (fun c => ?_)
      · replace h := h.1 c
        refine v_lconst C dX6_chance_85 (v := (0 : Int64)) (by decide) ?_
        refine v_ladd C dX6_chance_86 ?_
        refine v_nml (fun x17 ex17 => ?_)
        replace h := h x17 ex17
        refine v_lstore (lv' := [(6, .long x17), (0, .ref (a 0)), (1, .int v1_54), (2, .int v2_54), (3, .int v3_54), (4, .int v4_54), (5, .int v5_54), (8, .int v8_54)]) C dX6_chance_87 (by decide) rfl ?_
        obtain ⟨x18, ex18⟩ : ∃ z : Int32, z = v8_54 + (1 : Int32) := ⟨_, rfl⟩
        replace h := h x18 ex18
        refine v_iinc (v := x18) (lv' := [(8, .int x18), (6, .long x17), (0, .ref (a 0)), (1, .int v1_54), (2, .int v2_54), (3, .int v3_54), (4, .int v4_54), (5, .int v5_54)]) C 7 dX6_chance_89 rfl (by rw [ex18]; rfl) (by decide) rfl ?_
        refine v_goto C dX6_chance_92 (tgt := 54) (by decide) ?_
        refine v_sub [2, 3, 4, 5, 6, 7, 1, 0] rfl ?_
        exact ih M15 v1_54 v2_54 v3_54 v4_54 v5_54 x17 x18  h
      · replace h := h.2 c
        refine v_lconst C dX6_chance_81 (v := (1 : Int64)) (by decide) ?_
        refine v_goto C dX6_chance_82 (tgt := 86) (by decide) ?_
        refine v_ladd C dX6_chance_86 ?_
        refine v_nml (fun x19 ex19 => ?_)
        replace h := h x19 ex19
        refine v_lstore (lv' := [(6, .long x19), (0, .ref (a 0)), (1, .int v1_54), (2, .int v2_54), (3, .int v3_54), (4, .int v4_54), (5, .int v5_54), (8, .int v8_54)]) C dX6_chance_87 (by decide) rfl ?_
        obtain ⟨x20, ex20⟩ : ∃ z : Int32, z = v8_54 + (1 : Int32) := ⟨_, rfl⟩
        replace h := h x20 ex20
        refine v_iinc (v := x20) (lv' := [(8, .int x20), (6, .long x19), (0, .ref (a 0)), (1, .int v1_54), (2, .int v2_54), (3, .int v3_54), (4, .int v4_54), (5, .int v5_54)]) C 7 dX6_chance_89 rfl (by rw [ex20]; rfl) (by decide) rfl ?_
        refine v_goto C dX6_chance_92 (tgt := 54) (by decide) ?_
        refine v_sub [2, 3, 4, 5, 6, 7, 1, 0] rfl ?_
        exact ih M15 v1_54 v2_54 v3_54 v4_54 v5_54 x19 x20  h
def w6_chance (M : S0) (p1 : Int32) (p2 : Int32) (p3 : Int32) (p4 : Int32) (p5 : Int32) (Q : Int64 → S0 → Prop) : Prop :=
    w6_in M (Int32.toInt64 p2) (1 : Int64) (20 : Int64) (fun r2 M1 => ((r2 = 0) → (Q (-4611686018427387904 : Int64) M1)) ∧ ((¬ r2 = 0) → (w6_isOne M1 p3 (fun r4 M3 => ((r4 = 0) → (Q (-4611686018427387904 : Int64) M3)) ∧ ((¬ r4 = 0) → (w6_in M3 (Int32.toInt64 p4) (0 : Int64) (8 : Int64) (fun r6 M5 => ((r6 = 0) → (Q (-4611686018427387904 : Int64) M5)) ∧ ((¬ r6 = 0) → (w6_in M5 (Int32.toInt64 p5) (0 : Int64) (1 : Int64) (fun r8 M7 => ((¬ r8 = 0) → (∀ x9 : Int64, x9 = (0 : Int64) → (∃ n10, w6_chance_b54   Q n10 M7 p1 p2 p3 p4 p5 x9 (0 : Int32)))) ∧ ((r8 = 0) → (Q (-4611686018427387904 : Int64) M7))))))))))))
set_option maxHeartbeats 4000000 in
set_option maxRecDepth 20000 in
theorem c6_chance {B : BX} {a : Nat → Nat} {M : S0} {p1 : Int32} {p2 : Int32} {p3 : Int32} {p4 : Int32} {p5 : Int32} {Q : Int64 → S0 → Prop} (h : w6_chance  M p1 p2 p3 p4 p5 Q) : KL B (wl 12 a (shM B.2.1 a)) yX6_chance cX6_chance 14 (some .long) 73 1690 [.ref (a 0), .int p1, .int p2, .int p3, .int p4, .int p5] M Q := by
  rw [w6_chance] at h
  refine KL_of (by decide +kernel) (Nat.le_of_ble_eq_true rfl) (fun E C hR => ?_)
  change V B E 14 (wl 12 a (shM B.2.1 a) M) 0 [(0, .ref (a 0)), (1, .int p1), (2, .int p2), (3, .int p3), (4, .int p4), (5, .int p5)] []
  change Ok B E cX6_chance 14 RX6 73 1690 at C
  refine v_iload_n C 2 dX6_chance_0 rfl rfl ?_
  refine v_i2l C dX6_chance_1 ?_
  refine v_lconst C dX6_chance_2 (v := (1 : Int64)) (by decide) ?_
  refine v_ldc2 C (v := (20 : Int64)) (gdm 1216 (by decide +kernel) (by decide +kernel)) dX6_chance_3 ?_
  refine v_callSi (As := [.long (Int32.toInt64 p2), .long (1 : Int64), .long (20 : Int64)]) (rest := []) C (c6_in  h) eX6_64 (by omega) (by omega) rfl rfl (Nat.le_of_ble_eq_true rfl) dX6_chance_6 (fun r2 M1 h => ?_)
  refine v_if_eq C dX6_chance_9 (tgt := 44) (by decide) (fun c => ?_) (fun c => ?_)
  · replace h := h.1 c
    refine v_ldc2 C (v := (-4611686018427387904 : Int64)) (gdm 1217 (by decide +kernel) (by decide +kernel)) dX6_chance_44 ?_
    exact hR _ _ _ _ h dX6_chance_47
  · replace h := h.2 c
    refine v_aload_n C 0 dX6_chance_12 rfl rfl ?_
    refine v_iload_n C 3 dX6_chance_13 rfl rfl ?_
    refine v_callVi (k := 0) (As := [.int p3]) (rest := []) C (c6_isOne  h) eX6_68 (by omega) (by omega) (by decide) rfl rfl rfl rfl (Nat.le_of_ble_eq_true rfl) dX6_chance_14 (fun r4 M3 h => ?_)
    refine v_if_eq C dX6_chance_17 (tgt := 44) (by decide) (fun c => ?_) (fun c => ?_)
    · replace h := h.1 c
      refine v_ldc2 C (v := (-4611686018427387904 : Int64)) (gdm 1217 (by decide +kernel) (by decide +kernel)) dX6_chance_44 ?_
      exact hR _ _ _ _ h dX6_chance_47
    · replace h := h.2 c
      refine v_iload C 4 dX6_chance_20 rfl ?_
      refine v_i2l C dX6_chance_22 ?_
      refine v_lconst C dX6_chance_23 (v := (0 : Int64)) (by decide) ?_
      refine v_ldc2 C (v := (8 : Int64)) (gdm 1119 (by decide +kernel) (by decide +kernel)) dX6_chance_24 ?_
      refine v_callSi (As := [.long (Int32.toInt64 p4), .long (0 : Int64), .long (8 : Int64)]) (rest := []) C (c6_in  h) eX6_64 (by omega) (by omega) rfl rfl (Nat.le_of_ble_eq_true rfl) dX6_chance_27 (fun r6 M5 h => ?_)
      refine v_if_eq C dX6_chance_30 (tgt := 44) (by decide) (fun c => ?_) (fun c => ?_)
      · replace h := h.1 c
        refine v_ldc2 C (v := (-4611686018427387904 : Int64)) (gdm 1217 (by decide +kernel) (by decide +kernel)) dX6_chance_44 ?_
        exact hR _ _ _ _ h dX6_chance_47
      · replace h := h.2 c
        refine v_iload C 5 dX6_chance_33 rfl ?_
        refine v_i2l C dX6_chance_35 ?_
        refine v_lconst C dX6_chance_36 (v := (0 : Int64)) (by decide) ?_
        refine v_lconst C dX6_chance_37 (v := (1 : Int64)) (by decide) ?_
        refine v_callSi (As := [.long (Int32.toInt64 p5), .long (0 : Int64), .long (1 : Int64)]) (rest := []) C (c6_in  h) eX6_64 (by omega) (by omega) rfl rfl (Nat.le_of_ble_eq_true rfl) dX6_chance_38 (fun r8 M7 h => ?_)
        refine v_if_ne C dX6_chance_41 (tgt := 48) (by decide) (fun c => ?_) (fun c => ?_)
        · replace h := h.1 c
          refine v_lconst C dX6_chance_48 (v := (0 : Int64)) (by decide) ?_
          refine v_nml (fun x9 ex9 => ?_)
          replace h := h x9 ex9
          refine v_lstore (lv' := [(6, .long x9), (0, .ref (a 0)), (1, .int p1), (2, .int p2), (3, .int p3), (4, .int p4), (5, .int p5)]) C dX6_chance_49 (by decide) rfl ?_
          refine v_iconst C dX6_chance_51 (v := (0 : Int32)) (by decide) ?_
          refine v_istore (lv' := [(8, .int (0 : Int32)), (6, .long x9), (0, .ref (a 0)), (1, .int p1), (2, .int p2), (3, .int p3), (4, .int p4), (5, .int p5)]) C dX6_chance_52 (by decide) rfl ?_
          obtain ⟨n10, h⟩ := h
          refine v_sub [2, 3, 4, 5, 6, 7, 1, 0] rfl ?_
          exact t6_chance_b54   C hR  n10 M7 p1 p2 p3 p4 p5 x9 (0 : Int32)  h
        · replace h := h.2 c
          refine v_ldc2 C (v := (-4611686018427387904 : Int64)) (gdm 1217 (by decide +kernel) (by decide +kernel)) dX6_chance_44 ?_
          exact hR _ _ _ _ h dX6_chance_47
def w6_image_b2 (Q : Int32 → S0 → Prop) : Nat → S0 → Int32 → Prop
  | 0, _, _ => False
  | n + 1, M, v1_2 =>
    (((24 : Int32) ≤ v1_2) → (∀ M2 : S0, M2 = up M 0 33 (M 0 8) → (∀ M3 : S0, M3 = up M2 0 34 (M2 0 11) → (∀ M4 : S0, M4 = up M3 0 35 (M3 0 7) → (∀ M5 : S0, M5 = up M4 0 36 (M4 0 4) → (Q (M5 0 11) M5)))))) ∧ ((¬ (24 : Int32) ≤ v1_2) → ((vp_in v1_2 24) ∧ ((vp_in v1_2 24) ∧ (∀ M8 : S0, M8 = up M 7 (Int32.toNatClampNeg v1_2) (M 5 (Int32.toNatClampNeg v1_2)) → (∀ x9 : Int32, x9 = v1_2 + (1 : Int32) → (w6_image_b2   Q n M8 x9))))))
set_option maxHeartbeats 4000000 in
set_option maxRecDepth 20000 in
theorem t6_image_b2 {B : BX} {E : EX} {a : Nat → Nat} {Q : Int32 → S0 → Prop} (C : Ok B E cX6_image 2 RX6 0 0) (hR : RetI B E cX6_image 2 (wl 12 a (shM B.2.1 a)) Q) : ∀ (n : Nat) (M : S0) (v1_2 : Int32), w6_image_b2   Q n M v1_2 → V B E 2 (wl 12 a (shM B.2.1 a) M) 2 [(0, .ref (a 0)), (1, .int v1_2)] [] := by
  intro n
  induction n with
  | zero =>
    intro M v1_2  h
    exact h.elim
  | succ n ih =>
    intro M v1_2  h
    rw [w6_image_b2] at h
    refine v_iload_n C 1 dX6_image_2 rfl rfl ?_
    refine v_bipush C dX6_image_3 (v := (24 : Int32)) (by decide) ?_
    refine v_icmp_ge C dX6_image_5 (tgt := 26) (by decide) (fun c => ?_) (fun c => ?_)
    · replace h := h.1 c
      refine v_aload_n C 0 dX6_image_26 rfl rfl ?_
      refine v_aload_n C 0 dX6_image_27 rfl rfl ?_
      refine fX6_6_g_hall C dX6_image_28 ?_
      refine fX6_6_p_hallKept C dX6_image_31 (fun M2 eM2 => ?_)
      replace h := h M2 eM2
      refine v_aload_n C 0 dX6_image_34 rfl rfl ?_
      refine v_aload_n C 0 dX6_image_35 rfl rfl ?_
      refine fX6_6_g_many C dX6_image_36 ?_
      refine fX6_6_p_manyKept C dX6_image_39 (fun M3 eM3 => ?_)
      replace h := h M3 eM3
      refine v_aload_n C 0 dX6_image_42 rfl rfl ?_
      refine v_aload_n C 0 dX6_image_43 rfl rfl ?_
      refine fX6_6_g_roundNow C dX6_image_44 ?_
      refine fX6_6_p_roundKept C dX6_image_47 (fun M4 eM4 => ?_)
      replace h := h M4 eM4
      refine v_aload_n C 0 dX6_image_50 rfl rfl ?_
      refine v_aload_n C 0 dX6_image_51 rfl rfl ?_
      refine fX6_6_g_rule C dX6_image_52 ?_
      refine fX6_6_p_ruleKept C dX6_image_55 (fun M5 eM5 => ?_)
      replace h := h M5 eM5
      refine v_aload_n C 0 dX6_image_58 rfl rfl ?_
      refine fX6_6_g_many C dX6_image_59 ?_
      exact hR _ _ _ _ h dX6_image_62
    · replace h := h.2 c
      refine v_aload_n C 0 dX6_image_8 rfl rfl ?_
      refine fX6_6_g_rowsKept C dX6_image_9 ?_
      refine v_iload_n C 1 dX6_image_12 rfl rfl ?_
      refine v_aload_n C 0 dX6_image_13 rfl rfl ?_
      refine fX6_6_g_rows C dX6_image_14 ?_
      refine v_iload_n C 1 dX6_image_17 rfl rfl ?_
      obtain ⟨hi6, h⟩ := h
      refine v_iald (k := 5) C (by decide) rfl hi6 dX6_image_18 ?_
      obtain ⟨hi7, h⟩ := h
      refine v_iast (k := 7) C (by decide) (fun _ => rfl) hi7 dX6_image_19 ?_
      obtain ⟨M8, eM8⟩ : ∃ z : S0, z = up M 7 (Int32.toNatClampNeg v1_2) (M 5 (Int32.toNatClampNeg v1_2)) := ⟨_, rfl⟩
      rw [← eM8]
      replace h := h M8 eM8
      obtain ⟨x9, ex9⟩ : ∃ z : Int32, z = v1_2 + (1 : Int32) := ⟨_, rfl⟩
      replace h := h x9 ex9
      refine v_iinc (v := x9) (lv' := [(1, .int x9), (0, .ref (a 0))]) C 1 dX6_image_20 rfl (by rw [ex9]; rfl) (by decide) rfl ?_
      refine v_goto C dX6_image_23 (tgt := 2) (by decide) ?_
      refine v_sub [1, 0] rfl ?_
      exact ih M8 x9  h
def w6_image (M : S0) (Q : Int32 → S0 → Prop) : Prop :=
    ∃ n1, w6_image_b2   Q n1 M (0 : Int32)
set_option maxHeartbeats 4000000 in
set_option maxRecDepth 20000 in
theorem c6_image {B : BX} {a : Nat → Nat} {M : S0} {Q : Int32 → S0 → Prop} (h : w6_image  M  Q) : KI B (wl 12 a (shM B.2.1 a)) yX6_image cX6_image 2 (some .int) 0 0 [.ref (a 0)] M Q := by
  rw [w6_image] at h
  refine KI_of (by decide +kernel) (Nat.le_of_ble_eq_true rfl) (fun E C hR => ?_)
  change V B E 2 (wl 12 a (shM B.2.1 a) M) 0 [(0, .ref (a 0))] []
  change Ok B E cX6_image 2 RX6 0 0 at C
  refine v_iconst C dX6_image_0 (v := (0 : Int32)) (by decide) ?_
  refine v_istore_n (lv' := [(1, .int (0 : Int32)), (0, .ref (a 0))]) C dX6_image_1 rfl (by decide) rfl ?_
  obtain ⟨n1, h⟩ := h
  refine v_sub [1, 0] rfl ?_
  exact t6_image_b2   C hR  n1 M (0 : Int32)  h
def w6_back_b13 (Q : Int32 → S0 → Prop) : Nat → S0 → Int32 → Prop
  | 0, _, _ => False
  | n + 1, M, v1_13 =>
    (((24 : Int32) ≤ v1_13) → (∀ M2 : S0, M2 = up M 0 8 (M 0 33) → (∀ M3 : S0, M3 = up M2 0 11 (M2 0 34) → (∀ M4 : S0, M4 = up M3 0 7 (M3 0 35) → (∀ M5 : S0, M5 = up M4 0 4 (M4 0 36) → (Q (M5 0 11) M5)))))) ∧ ((¬ (24 : Int32) ≤ v1_13) → ((vp_in v1_13 24) ∧ ((vp_in v1_13 24) ∧ (∀ M8 : S0, M8 = up M 5 (Int32.toNatClampNeg v1_13) (M 7 (Int32.toNatClampNeg v1_13)) → (∀ x9 : Int32, x9 = v1_13 + (1 : Int32) → (w6_back_b13   Q n M8 x9))))))
set_option maxHeartbeats 4000000 in
set_option maxRecDepth 20000 in
theorem t6_back_b13 {B : BX} {E : EX} {a : Nat → Nat} {Q : Int32 → S0 → Prop} (C : Ok B E cX6_back 2 RX6 0 0) (hR : RetI B E cX6_back 2 (wl 12 a (shM B.2.1 a)) Q) : ∀ (n : Nat) (M : S0) (v1_13 : Int32), w6_back_b13   Q n M v1_13 → V B E 2 (wl 12 a (shM B.2.1 a) M) 13 [(0, .ref (a 0)), (1, .int v1_13)] [] := by
  intro n
  induction n with
  | zero =>
    intro M v1_13  h
    exact h.elim
  | succ n ih =>
    intro M v1_13  h
    rw [w6_back_b13] at h
    refine v_iload_n C 1 dX6_back_13 rfl rfl ?_
    refine v_bipush C dX6_back_14 (v := (24 : Int32)) (by decide) ?_
    refine v_icmp_ge C dX6_back_16 (tgt := 37) (by decide) (fun c => ?_) (fun c => ?_)
    · replace h := h.1 c
      refine v_aload_n C 0 dX6_back_37 rfl rfl ?_
      refine v_aload_n C 0 dX6_back_38 rfl rfl ?_
      refine fX6_6_g_hallKept C dX6_back_39 ?_
      refine fX6_6_p_hall C dX6_back_42 (fun M2 eM2 => ?_)
      replace h := h M2 eM2
      refine v_aload_n C 0 dX6_back_45 rfl rfl ?_
      refine v_aload_n C 0 dX6_back_46 rfl rfl ?_
      refine fX6_6_g_manyKept C dX6_back_47 ?_
      refine fX6_6_p_many C dX6_back_50 (fun M3 eM3 => ?_)
      replace h := h M3 eM3
      refine v_aload_n C 0 dX6_back_53 rfl rfl ?_
      refine v_aload_n C 0 dX6_back_54 rfl rfl ?_
      refine fX6_6_g_roundKept C dX6_back_55 ?_
      refine fX6_6_p_roundNow C dX6_back_58 (fun M4 eM4 => ?_)
      replace h := h M4 eM4
      refine v_aload_n C 0 dX6_back_61 rfl rfl ?_
      refine v_aload_n C 0 dX6_back_62 rfl rfl ?_
      refine fX6_6_g_ruleKept C dX6_back_63 ?_
      refine fX6_6_p_rule C dX6_back_66 (fun M5 eM5 => ?_)
      replace h := h M5 eM5
      refine v_aload_n C 0 dX6_back_69 rfl rfl ?_
      refine fX6_6_g_many C dX6_back_70 ?_
      exact hR _ _ _ _ h dX6_back_73
    · replace h := h.2 c
      refine v_aload_n C 0 dX6_back_19 rfl rfl ?_
      refine fX6_6_g_rows C dX6_back_20 ?_
      refine v_iload_n C 1 dX6_back_23 rfl rfl ?_
      refine v_aload_n C 0 dX6_back_24 rfl rfl ?_
      refine fX6_6_g_rowsKept C dX6_back_25 ?_
      refine v_iload_n C 1 dX6_back_28 rfl rfl ?_
      obtain ⟨hi6, h⟩ := h
      refine v_iald (k := 7) C (by decide) rfl hi6 dX6_back_29 ?_
      obtain ⟨hi7, h⟩ := h
      refine v_iast (k := 5) C (by decide) (fun _ => rfl) hi7 dX6_back_30 ?_
      obtain ⟨M8, eM8⟩ : ∃ z : S0, z = up M 5 (Int32.toNatClampNeg v1_13) (M 7 (Int32.toNatClampNeg v1_13)) := ⟨_, rfl⟩
      rw [← eM8]
      replace h := h M8 eM8
      obtain ⟨x9, ex9⟩ : ∃ z : Int32, z = v1_13 + (1 : Int32) := ⟨_, rfl⟩
      replace h := h x9 ex9
      refine v_iinc (v := x9) (lv' := [(1, .int x9), (0, .ref (a 0))]) C 1 dX6_back_31 rfl (by rw [ex9]; rfl) (by decide) rfl ?_
      refine v_goto C dX6_back_34 (tgt := 13) (by decide) ?_
      refine v_sub [1, 0] rfl ?_
      exact ih M8 x9  h
def w6_back (M : S0) (Q : Int32 → S0 → Prop) : Prop :=
    ((¬ (M 0 34) = (-1 : Int32)) → (∃ n1, w6_back_b13   Q n1 M (0 : Int32))) ∧ (((M 0 34) = (-1 : Int32)) → (Q (-3 : Int32) M))
set_option maxHeartbeats 4000000 in
set_option maxRecDepth 20000 in
theorem c6_back {B : BX} {a : Nat → Nat} {M : S0} {Q : Int32 → S0 → Prop} (h : w6_back  M  Q) : KI B (wl 12 a (shM B.2.1 a)) yX6_back cX6_back 2 (some .int) 0 0 [.ref (a 0)] M Q := by
  rw [w6_back] at h
  refine KI_of (by decide +kernel) (Nat.le_of_ble_eq_true rfl) (fun E C hR => ?_)
  change V B E 2 (wl 12 a (shM B.2.1 a) M) 0 [(0, .ref (a 0))] []
  change Ok B E cX6_back 2 RX6 0 0 at C
  refine v_aload_n C 0 dX6_back_0 rfl rfl ?_
  refine fX6_6_g_manyKept C dX6_back_1 ?_
  refine v_iconst C dX6_back_4 (v := (-1 : Int32)) (by decide) ?_
  refine v_icmp_ne C dX6_back_5 (tgt := 11) (by decide) (fun c => ?_) (fun c => ?_)
  · replace h := h.1 c
    refine v_iconst C dX6_back_11 (v := (0 : Int32)) (by decide) ?_
    refine v_istore_n (lv' := [(1, .int (0 : Int32)), (0, .ref (a 0))]) C dX6_back_12 rfl (by decide) rfl ?_
    obtain ⟨n1, h⟩ := h
    refine v_sub [1, 0] rfl ?_
    exact t6_back_b13   C hR  n1 M (0 : Int32)  h
  · replace h := h.2 c
    refine v_bipush C dX6_back_8 (v := (-3 : Int32)) (by decide) ?_
    exact hR _ _ _ _ h dX6_back_10
def w6_count (M : S0) (p1 : Int32) (Q : Int32 → S0 → Prop) : Prop :=
    w6_in M (Int32.toInt64 p1) (0 : Int64) (5 : Int64) (fun r2 M1 => ((¬ r2 = 0) → (((¬ p1 = 0) → (((¬ p1 = (1 : Int32)) → (((¬ p1 = (2 : Int32)) → (((¬ p1 = (3 : Int32)) → (((¬ p1 = (4 : Int32)) → (Q (M1 0 4) M1)) ∧ ((p1 = (4 : Int32)) → (Q (M1 0 6) M1)))) ∧ ((p1 = (3 : Int32)) → (Q (M1 0 3) M1)))) ∧ ((p1 = (2 : Int32)) → (Q (M1 0 7) M1)))) ∧ ((p1 = (1 : Int32)) → (w6_bitsOf M1 (M1 0 8) (fun r4 M3 => Q r4 M3))))) ∧ ((p1 = 0) → (Q (M1 0 11) M1)))) ∧ ((r2 = 0) → (Q (-2 : Int32) M1)))
set_option maxHeartbeats 4000000 in
set_option maxRecDepth 20000 in
theorem c6_count {B : BX} {a : Nat → Nat} {M : S0} {p1 : Int32} {Q : Int32 → S0 → Prop} (h : w6_count  M p1 Q) : KI B (wl 12 a (shM B.2.1 a)) yX6_count cX6_count 2 (some .int) 1 25 [.ref (a 0), .int p1] M Q := by
  rw [w6_count] at h
  refine KI_of (by decide +kernel) (Nat.le_of_ble_eq_true rfl) (fun E C hR => ?_)
  change V B E 2 (wl 12 a (shM B.2.1 a) M) 0 [(0, .ref (a 0)), (1, .int p1)] []
  change Ok B E cX6_count 2 RX6 1 25 at C
  refine v_iload_n C 1 dX6_count_0 rfl rfl ?_
  refine v_i2l C dX6_count_1 ?_
  refine v_lconst C dX6_count_2 (v := (0 : Int64)) (by decide) ?_
  refine v_ldc2 C (v := (5 : Int64)) (gdm 971 (by decide +kernel) (by decide +kernel)) dX6_count_3 ?_
  refine v_callSi (As := [.long (Int32.toInt64 p1), .long (0 : Int64), .long (5 : Int64)]) (rest := []) C (c6_in  h) eX6_64 (by omega) (by omega) rfl rfl (Nat.le_of_ble_eq_true rfl) dX6_count_6 (fun r2 M1 h => ?_)
  refine v_if_ne C dX6_count_9 (tgt := 15) (by decide) (fun c => ?_) (fun c => ?_)
  · replace h := h.1 c
    refine v_iload_n C 1 dX6_count_15 rfl rfl ?_
    refine v_if_ne C dX6_count_16 (tgt := 26) (by decide) (fun c => ?_) (fun c => ?_)
    · replace h := h.1 c
      refine v_iload_n C 1 dX6_count_26 rfl rfl ?_
      refine v_iconst C dX6_count_27 (v := (1 : Int32)) (by decide) ?_
      refine v_icmp_ne C dX6_count_28 (tgt := 41) (by decide) (fun c => ?_) (fun c => ?_)
      · replace h := h.1 c
        refine v_iload_n C 1 dX6_count_41 rfl rfl ?_
        refine v_iconst C dX6_count_42 (v := (2 : Int32)) (by decide) ?_
        refine v_icmp_ne C dX6_count_43 (tgt := 53) (by decide) (fun c => ?_) (fun c => ?_)
        · replace h := h.1 c
          refine v_iload_n C 1 dX6_count_53 rfl rfl ?_
          refine v_iconst C dX6_count_54 (v := (3 : Int32)) (by decide) ?_
          refine v_icmp_ne C dX6_count_55 (tgt := 65) (by decide) (fun c => ?_) (fun c => ?_)
          · replace h := h.1 c
            refine v_iload_n C 1 dX6_count_65 rfl rfl ?_
            refine v_iconst C dX6_count_66 (v := (4 : Int32)) (by decide) ?_
            refine v_icmp_ne C dX6_count_67 (tgt := 77) (by decide) (fun c => ?_) (fun c => ?_)
            · replace h := h.1 c
              refine v_aload_n C 0 dX6_count_77 rfl rfl ?_
              refine fX6_6_g_rule C dX6_count_78 ?_
              exact hR _ _ _ _ h dX6_count_81
            · replace h := h.2 c
              refine v_aload_n C 0 dX6_count_70 rfl rfl ?_
              refine fX6_6_g_taped C dX6_count_71 ?_
              refine v_goto C dX6_count_74 (tgt := 81) (by decide) ?_
              exact hR _ _ _ _ h dX6_count_81
          · replace h := h.2 c
            refine v_aload_n C 0 dX6_count_58 rfl rfl ?_
            refine fX6_6_g_textCount C dX6_count_59 ?_
            refine v_goto C dX6_count_62 (tgt := 81) (by decide) ?_
            exact hR _ _ _ _ h dX6_count_81
        · replace h := h.2 c
          refine v_aload_n C 0 dX6_count_46 rfl rfl ?_
          refine fX6_6_g_roundNow C dX6_count_47 ?_
          refine v_goto C dX6_count_50 (tgt := 81) (by decide) ?_
          exact hR _ _ _ _ h dX6_count_81
      · replace h := h.2 c
        refine v_aload_n C 0 dX6_count_31 rfl rfl ?_
        refine fX6_6_g_hall C dX6_count_32 ?_
        refine v_callSi (As := [.int (M1 0 8)]) (rest := []) C (c6_bitsOf  h) eX6_116 (by omega) (by omega) rfl rfl (Nat.le_of_ble_eq_true rfl) dX6_count_35 (fun r4 M3 h => ?_)
        refine v_goto C dX6_count_38 (tgt := 81) (by decide) ?_
        exact hR _ _ _ _ h dX6_count_81
    · replace h := h.2 c
      refine v_aload_n C 0 dX6_count_19 rfl rfl ?_
      refine fX6_6_g_many C dX6_count_20 ?_
      refine v_goto C dX6_count_23 (tgt := 81) (by decide) ?_
      exact hR _ _ _ _ h dX6_count_81
  · replace h := h.2 c
    refine v_bipush C dX6_count_12 (v := (-2 : Int32)) (by decide) ?_
    exact hR _ _ _ _ h dX6_count_14
