def w6_cell (M : S0) (p1 : Int32) (p2 : Int32) (p3 : Int32) (Q : Int32 → S0 → Prop) : Prop :=
    w6_isSheet M p1 (fun r2 M1 => ((¬ r2 = 0) → ((vp_in p1 4) ∧ (((¬ (M1 8 (Int32.toNatClampNeg p1)) = 0) → ((vp_in p1 4) ∧ (w6_in M1 (Int32.toInt64 p2) (0 : Int64) (Int32.toInt64 ((M1 10 (Int32.toNatClampNeg p1)) - (1 : Int32))) (fun r6 M5 => ((¬ r6 = 0) → ((vp_in p1 4) ∧ (((¬ (M5 9 (Int32.toNatClampNeg p1)) = 0) → ((vp_in p1 4) ∧ (((¬ (M5 9 (Int32.toNatClampNeg p1)) = (1 : Int32)) → ((vp_in (((40 : Int32) * p1) + p2) 160) ∧ (∀ M10 : S0, M10 = up M5 11 (Int32.toNatClampNeg (((40 : Int32) * p1) + p2)) p3 → (Q (1 : Int32) M10)))) ∧ (((M5 9 (Int32.toNatClampNeg p1)) = (1 : Int32)) → ((vp_in (((40 : Int32) * p1) + p2) 160) ∧ (∀ M12 : S0, M12 = up M5 11 (Int32.toNatClampNeg (((40 : Int32) * p1) + p2)) (p3.toInt16.toInt32) → (Q (1 : Int32) M12))))))) ∧ (((M5 9 (Int32.toNatClampNeg p1)) = 0) → ((vp_in (((40 : Int32) * p1) + p2) 160) ∧ (∀ M14 : S0, M14 = up M5 11 (Int32.toNatClampNeg (((40 : Int32) * p1) + p2)) (p3.toInt8.toInt32) → (Q (1 : Int32) M14))))))) ∧ ((r6 = 0) → (Q (-12 : Int32) M5)))))) ∧ (((M1 8 (Int32.toNatClampNeg p1)) = 0) → (Q (-11 : Int32) M1))))) ∧ ((r2 = 0) → (Q (-2 : Int32) M1)))
set_option maxHeartbeats 4000000 in
set_option maxRecDepth 20000 in
theorem c6_cell {B : BX} {a : Nat → Nat} {M : S0} {p1 : Int32} {p2 : Int32} {p3 : Int32} {Q : Int32 → S0 → Prop} (h : w6_cell  M p1 p2 p3 Q) : KI B (wl 12 a (shM B.2.1 a)) yX6_cell cX6_cell 4 (some .int) 2 45 [.ref (a 0), .int p1, .int p2, .int p3] M Q := by
  rw [w6_cell] at h
  refine KI_of (by decide +kernel) (Nat.le_of_ble_eq_true rfl) (fun E C hR => ?_)
  change V B E 4 (wl 12 a (shM B.2.1 a) M) 0 [(0, .ref (a 0)), (1, .int p1), (2, .int p2), (3, .int p3)] []
  change Ok B E cX6_cell 4 RX6 2 45 at C
  refine v_iload_n C 1 dX6_cell_0 rfl rfl ?_
  refine v_callSi (As := [.int p1]) (rest := []) C (c6_isSheet  h) eX6_286 (by omega) (by omega) rfl rfl (Nat.le_of_ble_eq_true rfl) dX6_cell_1 (fun r2 M1 h => ?_)
  refine v_if_ne C dX6_cell_4 (tgt := 10) (by decide) (fun c => ?_) (fun c => ?_)
  · replace h := h.1 c
    refine v_aload_n C 0 dX6_cell_10 rfl rfl ?_
    refine fX6_6_g_isThere C dX6_cell_11 ?_
    refine v_iload_n C 1 dX6_cell_14 rfl rfl ?_
    obtain ⟨hi3, h⟩ := h
    refine v_zald (k := 8) C (by decide) rfl hi3 dX6_cell_15 ?_
    refine v_if_ne C dX6_cell_16 (tgt := 22) (by decide) (fun c => ?_) (fun c => ?_)
    · replace h := h.1 c
      refine v_iload_n C 2 dX6_cell_22 rfl rfl ?_
      refine v_i2l C dX6_cell_23 ?_
      refine v_lconst C dX6_cell_24 (v := (0 : Int64)) (by decide) ?_
      refine v_aload_n C 0 dX6_cell_25 rfl rfl ?_
      refine fX6_6_g_sheetSize C dX6_cell_26 ?_
      refine v_iload_n C 1 dX6_cell_29 rfl rfl ?_
      obtain ⟨hi4, h⟩ := h
      refine v_iald (k := 10) C (by decide) rfl hi4 dX6_cell_30 ?_
      refine v_iconst C dX6_cell_31 (v := (1 : Int32)) (by decide) ?_
      refine v_isub C dX6_cell_32 ?_
      refine v_i2l C dX6_cell_33 ?_
      refine v_callSi (As := [.long (Int32.toInt64 p2), .long (0 : Int64), .long (Int32.toInt64 ((M1 10 (Int32.toNatClampNeg p1)) - (1 : Int32)))]) (rest := []) C (c6_in  h) eX6_64 (by omega) (by omega) rfl rfl (Nat.le_of_ble_eq_true rfl) dX6_cell_34 (fun r6 M5 h => ?_)
      refine v_if_ne C dX6_cell_37 (tgt := 43) (by decide) (fun c => ?_) (fun c => ?_)
      · replace h := h.1 c
        refine v_aload_n C 0 dX6_cell_43 rfl rfl ?_
        refine fX6_6_g_items C dX6_cell_44 ?_
        refine v_bipush C dX6_cell_47 (v := (40 : Int32)) (by decide) ?_
        refine v_iload_n C 1 dX6_cell_49 rfl rfl ?_
        refine v_imul C dX6_cell_50 ?_
        refine v_iload_n C 2 dX6_cell_51 rfl rfl ?_
        refine v_iadd C dX6_cell_52 ?_
        refine v_aload_n C 0 dX6_cell_53 rfl rfl ?_
        refine fX6_6_g_sorts C dX6_cell_54 ?_
        refine v_iload_n C 1 dX6_cell_57 rfl rfl ?_
        obtain ⟨hi7, h⟩ := h
        refine v_iald (k := 9) C (by decide) rfl hi7 dX6_cell_58 ?_
        refine v_if_ne C dX6_cell_59 (tgt := 67) (by decide) (fun c => ?_) (fun c => ?_)
        · replace h := h.1 c
          refine v_aload_n C 0 dX6_cell_67 rfl rfl ?_
          refine fX6_6_g_sorts C dX6_cell_68 ?_
          refine v_iload_n C 1 dX6_cell_71 rfl rfl ?_
          obtain ⟨hi8, h⟩ := h
          refine v_iald (k := 9) C (by decide) rfl hi8 dX6_cell_72 ?_
          refine v_iconst C dX6_cell_73 (v := (1 : Int32)) (by decide) ?_
          refine v_icmp_ne C dX6_cell_74 (tgt := 82) (by decide) (fun c => ?_) (fun c => ?_)
          · replace h := h.1 c
            refine v_iload_n C 3 dX6_cell_82 rfl rfl ?_
            obtain ⟨hi9, h⟩ := h
            refine v_iast (k := 11) C (by decide) (fun _ => rfl) hi9 dX6_cell_83 ?_
            obtain ⟨M10, eM10⟩ : ∃ z : S0, z = up M5 11 (Int32.toNatClampNeg (((40 : Int32) * p1) + p2)) p3 := ⟨_, rfl⟩
            rw [← eM10]
            replace h := h M10 eM10
            refine v_iconst C dX6_cell_84 (v := (1 : Int32)) (by decide) ?_
            exact hR _ _ _ _ h dX6_cell_85
          · replace h := h.2 c
            refine v_iload_n C 3 dX6_cell_77 rfl rfl ?_
            refine v_i2s C dX6_cell_78 ?_
            refine v_goto C dX6_cell_79 (tgt := 83) (by decide) ?_
            obtain ⟨hi11, h⟩ := h
            refine v_iast (k := 11) C (by decide) (fun _ => rfl) hi11 dX6_cell_83 ?_
            obtain ⟨M12, eM12⟩ : ∃ z : S0, z = up M5 11 (Int32.toNatClampNeg (((40 : Int32) * p1) + p2)) (p3.toInt16.toInt32) := ⟨_, rfl⟩
            rw [← eM12]
            replace h := h M12 eM12
            refine v_iconst C dX6_cell_84 (v := (1 : Int32)) (by decide) ?_
            exact hR _ _ _ _ h dX6_cell_85
        · replace h := h.2 c
          refine v_iload_n C 3 dX6_cell_62 rfl rfl ?_
          refine v_i2b C dX6_cell_63 ?_
          refine v_goto C dX6_cell_64 (tgt := 83) (by decide) ?_
          obtain ⟨hi13, h⟩ := h
          refine v_iast (k := 11) C (by decide) (fun _ => rfl) hi13 dX6_cell_83 ?_
          obtain ⟨M14, eM14⟩ : ∃ z : S0, z = up M5 11 (Int32.toNatClampNeg (((40 : Int32) * p1) + p2)) (p3.toInt8.toInt32) := ⟨_, rfl⟩
          rw [← eM14]
          replace h := h M14 eM14
          refine v_iconst C dX6_cell_84 (v := (1 : Int32)) (by decide) ?_
          exact hR _ _ _ _ h dX6_cell_85
      · replace h := h.2 c
        refine v_bipush C dX6_cell_40 (v := (-12 : Int32)) (by decide) ?_
        exact hR _ _ _ _ h dX6_cell_42
    · replace h := h.2 c
      refine v_bipush C dX6_cell_19 (v := (-11 : Int32)) (by decide) ?_
      exact hR _ _ _ _ h dX6_cell_21
  · replace h := h.2 c
    refine v_bipush C dX6_cell_7 (v := (-2 : Int32)) (by decide) ?_
    exact hR _ _ _ _ h dX6_cell_9
def w6_copy_b121 (Q : Int32 → S0 → Prop) : Nat → S0 → Int32 → Int32 → Int32 → Int32 → Int32 → Int32 → Int32 → Prop
  | 0, _, _, _, _, _, _, _, _ => False
  | n + 1, M, v1_121, v2_121, v3_121, v4_121, v5_121, v6_121, v7_121 =>
    ((v5_121 ≤ v7_121) → (Q v5_121 M)) ∧ ((¬ v5_121 ≤ v7_121) → (((v6_121 = 0) → ((vp_in ((((40 : Int32) * v1_121) + v2_121) + v7_121) 160) ∧ ((vp_in ((((40 : Int32) * v3_121) + v4_121) + v7_121) 160) ∧ (∀ M16 : S0, M16 = up M 11 (Int32.toNatClampNeg ((((40 : Int32) * v3_121) + v4_121) + v7_121)) (M 11 (Int32.toNatClampNeg ((((40 : Int32) * v1_121) + v2_121) + v7_121))) → (∀ x17 : Int32, x17 = v7_121 + (1 : Int32) → (w6_copy_b121   Q n M16 v1_121 v2_121 v3_121 v4_121 v5_121 v6_121 x17)))))) ∧ ((¬ v6_121 = 0) → (∀ x18 : Int32, x18 = ((v5_121 - (1 : Int32)) - v7_121) → ((vp_in ((((40 : Int32) * v1_121) + v2_121) + x18) 160) ∧ ((vp_in ((((40 : Int32) * v3_121) + v4_121) + x18) 160) ∧ (∀ M21 : S0, M21 = up M 11 (Int32.toNatClampNeg ((((40 : Int32) * v3_121) + v4_121) + x18)) (M 11 (Int32.toNatClampNeg ((((40 : Int32) * v1_121) + v2_121) + x18))) → (∀ x22 : Int32, x22 = v7_121 + (1 : Int32) → (w6_copy_b121   Q n M21 v1_121 v2_121 v3_121 v4_121 v5_121 v6_121 x22)))))))))
set_option maxHeartbeats 4000000 in
set_option maxRecDepth 20000 in
theorem t6_copy_b121 {B : BX} {E : EX} {a : Nat → Nat} {Q : Int32 → S0 → Prop} (C : Ok B E cX6_copy 9 RX6 2 45) (hR : RetI B E cX6_copy 9 (wl 12 a (shM B.2.1 a)) Q) : ∀ (n : Nat) (M : S0) (v1_121 : Int32) (v2_121 : Int32) (v3_121 : Int32) (v4_121 : Int32) (v5_121 : Int32) (v6_121 : Int32) (v7_121 : Int32), w6_copy_b121   Q n M v1_121 v2_121 v3_121 v4_121 v5_121 v6_121 v7_121 → V B E 9 (wl 12 a (shM B.2.1 a) M) 121 [(0, .ref (a 0)), (1, .int v1_121), (2, .int v2_121), (3, .int v3_121), (4, .int v4_121), (5, .int v5_121), (6, .int v6_121), (7, .int v7_121)] [] := by
  intro n
  induction n with
  | zero =>
    intro M v1_121 v2_121 v3_121 v4_121 v5_121 v6_121 v7_121  h
    exact h.elim
  | succ n ih =>
    intro M v1_121 v2_121 v3_121 v4_121 v5_121 v6_121 v7_121  h
    rw [w6_copy_b121] at h
    refine v_iload C 7 dX6_copy_121 rfl ?_
    refine v_iload C 5 dX6_copy_123 rfl ?_
    refine v_icmp_ge C dX6_copy_125 (tgt := 182) (by decide) (fun c => ?_) (fun c => ?_)
    · replace h := h.1 c
      refine v_iload C 5 dX6_copy_182 rfl ?_
      exact hR _ _ _ _ h dX6_copy_184
    · replace h := h.2 c
      refine v_iload C 6 dX6_copy_128 rfl ?_
      refine v_if_eq C dX6_copy_130 (tgt := 143) (by decide) (fun c => ?_) (fun c => ?_)
      · replace h := h.1 c
        refine v_iload C 7 dX6_copy_143 rfl ?_
        refine v_istore (lv' := [(8, .int v7_121), (0, .ref (a 0)), (1, .int v1_121), (2, .int v2_121), (3, .int v3_121), (4, .int v4_121), (5, .int v5_121), (6, .int v6_121), (7, .int v7_121)]) C dX6_copy_145 (by decide) rfl ?_
        refine v_aload_n C 1 dX6_copy_147 rfl rfl ?_
        refine fX6_6_g_items C dX6_copy_148 ?_
        refine v_bipush C dX6_copy_151 (v := (40 : Int32)) (by decide) ?_
        refine v_iload_n C 4 dX6_copy_153 rfl rfl ?_
        refine v_imul C dX6_copy_154 ?_
        refine v_iload C 5 dX6_copy_155 rfl ?_
        refine v_iadd C dX6_copy_157 ?_
        refine v_iload C 0 dX6_copy_158 rfl ?_
        refine v_iadd C dX6_copy_160 ?_
        refine v_aload_n C 1 dX6_copy_161 rfl rfl ?_
        refine fX6_6_g_items C dX6_copy_162 ?_
        refine v_bipush C dX6_copy_165 (v := (40 : Int32)) (by decide) ?_
        refine v_iload_n C 2 dX6_copy_167 rfl rfl ?_
        refine v_imul C dX6_copy_168 ?_
        refine v_iload_n C 3 dX6_copy_169 rfl rfl ?_
        refine v_iadd C dX6_copy_170 ?_
        refine v_iload C 0 dX6_copy_171 rfl ?_
        refine v_iadd C dX6_copy_173 ?_
        obtain ⟨hi14, h⟩ := h
        refine v_iald (k := 11) C (by decide) rfl hi14 dX6_copy_174 ?_
        obtain ⟨hi15, h⟩ := h
        refine v_iast (k := 11) C (by decide) (fun _ => rfl) hi15 dX6_copy_175 ?_
        obtain ⟨M16, eM16⟩ : ∃ z : S0, z = up M 11 (Int32.toNatClampNeg ((((40 : Int32) * v3_121) + v4_121) + v7_121)) (M 11 (Int32.toNatClampNeg ((((40 : Int32) * v1_121) + v2_121) + v7_121))) := ⟨_, rfl⟩
        rw [← eM16]
        replace h := h M16 eM16
        obtain ⟨x17, ex17⟩ : ∃ z : Int32, z = v7_121 + (1 : Int32) := ⟨_, rfl⟩
        replace h := h x17 ex17
        refine v_iinc (v := x17) (lv' := [(7, .int x17), (8, .int v7_121), (0, .ref (a 0)), (1, .int v1_121), (2, .int v2_121), (3, .int v3_121), (4, .int v4_121), (5, .int v5_121), (6, .int v6_121)]) C 8 dX6_copy_176 rfl (by rw [ex17]; rfl) (by decide) rfl ?_
        refine v_goto C dX6_copy_179 (tgt := 121) (by decide) ?_
        refine v_sub [2, 3, 4, 5, 6, 7, 8, 0] rfl ?_
        exact ih M16 v1_121 v2_121 v3_121 v4_121 v5_121 v6_121 x17  h
      · replace h := h.2 c
        refine v_iload C 5 dX6_copy_133 rfl ?_
        refine v_iconst C dX6_copy_135 (v := (1 : Int32)) (by decide) ?_
        refine v_isub C dX6_copy_136 ?_
        refine v_iload C 7 dX6_copy_137 rfl ?_
        refine v_isub C dX6_copy_139 ?_
        refine v_goto C dX6_copy_140 (tgt := 145) (by decide) ?_
        refine v_nmi (fun x18 ex18 => ?_)
        replace h := h x18 ex18
        refine v_istore (lv' := [(8, .int x18), (0, .ref (a 0)), (1, .int v1_121), (2, .int v2_121), (3, .int v3_121), (4, .int v4_121), (5, .int v5_121), (6, .int v6_121), (7, .int v7_121)]) C dX6_copy_145 (by decide) rfl ?_
        refine v_aload_n C 1 dX6_copy_147 rfl rfl ?_
        refine fX6_6_g_items C dX6_copy_148 ?_
        refine v_bipush C dX6_copy_151 (v := (40 : Int32)) (by decide) ?_
        refine v_iload_n C 4 dX6_copy_153 rfl rfl ?_
        refine v_imul C dX6_copy_154 ?_
        refine v_iload C 5 dX6_copy_155 rfl ?_
        refine v_iadd C dX6_copy_157 ?_
        refine v_iload C 0 dX6_copy_158 rfl ?_
        refine v_iadd C dX6_copy_160 ?_
        refine v_aload_n C 1 dX6_copy_161 rfl rfl ?_
        refine fX6_6_g_items C dX6_copy_162 ?_
        refine v_bipush C dX6_copy_165 (v := (40 : Int32)) (by decide) ?_
        refine v_iload_n C 2 dX6_copy_167 rfl rfl ?_
        refine v_imul C dX6_copy_168 ?_
        refine v_iload_n C 3 dX6_copy_169 rfl rfl ?_
        refine v_iadd C dX6_copy_170 ?_
        refine v_iload C 0 dX6_copy_171 rfl ?_
        refine v_iadd C dX6_copy_173 ?_
        obtain ⟨hi19, h⟩ := h
        refine v_iald (k := 11) C (by decide) rfl hi19 dX6_copy_174 ?_
        obtain ⟨hi20, h⟩ := h
        refine v_iast (k := 11) C (by decide) (fun _ => rfl) hi20 dX6_copy_175 ?_
        obtain ⟨M21, eM21⟩ : ∃ z : S0, z = up M 11 (Int32.toNatClampNeg ((((40 : Int32) * v3_121) + v4_121) + x18)) (M 11 (Int32.toNatClampNeg ((((40 : Int32) * v1_121) + v2_121) + x18))) := ⟨_, rfl⟩
        rw [← eM21]
        replace h := h M21 eM21
        obtain ⟨x22, ex22⟩ : ∃ z : Int32, z = v7_121 + (1 : Int32) := ⟨_, rfl⟩
        replace h := h x22 ex22
        refine v_iinc (v := x22) (lv' := [(7, .int x22), (8, .int x18), (0, .ref (a 0)), (1, .int v1_121), (2, .int v2_121), (3, .int v3_121), (4, .int v4_121), (5, .int v5_121), (6, .int v6_121)]) C 8 dX6_copy_176 rfl (by rw [ex22]; rfl) (by decide) rfl ?_
        refine v_goto C dX6_copy_179 (tgt := 121) (by decide) ?_
        refine v_sub [2, 3, 4, 5, 6, 7, 8, 0] rfl ?_
        exact ih M21 v1_121 v2_121 v3_121 v4_121 v5_121 v6_121 x22  h
def w6_copy (M : S0) (p1 : Int32) (p2 : Int32) (p3 : Int32) (p4 : Int32) (p5 : Int32) (Q : Int32 → S0 → Prop) : Prop :=
    w6_isSheet M p1 (fun r2 M1 => ((r2 = 0) → (Q (-2 : Int32) M1)) ∧ ((¬ r2 = 0) → (w6_isSheet M1 p3 (fun r4 M3 => ((¬ r4 = 0) → ((vp_in p1 4) ∧ ((((M3 8 (Int32.toNatClampNeg p1)) = 0) → (Q (-11 : Int32) M3)) ∧ ((¬ (M3 8 (Int32.toNatClampNeg p1)) = 0) → ((vp_in p3 4) ∧ (((¬ (M3 8 (Int32.toNatClampNeg p3)) = 0) → ((vp_in p1 4) ∧ ((vp_in p3 4) ∧ ((((M3 9 (Int32.toNatClampNeg p1)) = (M3 9 (Int32.toNatClampNeg p3))) → (((p5 < 0) → (Q (-12 : Int32) M3)) ∧ ((¬ p5 < 0) → (((p2 < 0) → (Q (-12 : Int32) M3)) ∧ ((¬ p2 < 0) → (((p4 < 0) → (Q (-12 : Int32) M3)) ∧ ((¬ p4 < 0) → ((vp_in p1 4) ∧ (((((M3 10 (Int32.toNatClampNeg p1)) - p5) < p2) → (Q (-12 : Int32) M3)) ∧ ((¬ ((M3 10 (Int32.toNatClampNeg p1)) - p5) < p2) → ((vp_in p3 4) ∧ (((p4 ≤ ((M3 10 (Int32.toNatClampNeg p3)) - p5)) → (((¬ p1 = p3) → (∃ n11, w6_copy_b121   Q n11 M3 p1 p2 p3 p4 p5 (0 : Int32) (0 : Int32))) ∧ ((p1 = p3) → (((p4 ≤ p2) → (∃ n12, w6_copy_b121   Q n12 M3 p1 p2 p3 p4 p5 (0 : Int32) (0 : Int32))) ∧ ((¬ p4 ≤ p2) → (∃ n13, w6_copy_b121   Q n13 M3 p1 p2 p3 p4 p5 (1 : Int32) (0 : Int32))))))) ∧ ((¬ p4 ≤ ((M3 10 (Int32.toNatClampNeg p3)) - p5)) → (Q (-12 : Int32) M3)))))))))))))) ∧ ((¬ (M3 9 (Int32.toNatClampNeg p1)) = (M3 9 (Int32.toNatClampNeg p3))) → (Q (-13 : Int32) M3)))))) ∧ (((M3 8 (Int32.toNatClampNeg p3)) = 0) → (Q (-11 : Int32) M3)))))))) ∧ ((r4 = 0) → (Q (-2 : Int32) M3))))))
set_option maxHeartbeats 4000000 in
set_option maxRecDepth 20000 in
theorem c6_copy {B : BX} {a : Nat → Nat} {M : S0} {p1 : Int32} {p2 : Int32} {p3 : Int32} {p4 : Int32} {p5 : Int32} {Q : Int32 → S0 → Prop} (h : w6_copy  M p1 p2 p3 p4 p5 Q) : KI B (wl 12 a (shM B.2.1 a)) yX6_copy cX6_copy 9 (some .int) 2 45 [.ref (a 0), .int p1, .int p2, .int p3, .int p4, .int p5] M Q := by
  rw [w6_copy] at h
  refine KI_of (by decide +kernel) (Nat.le_of_ble_eq_true rfl) (fun E C hR => ?_)
  change V B E 9 (wl 12 a (shM B.2.1 a) M) 0 [(0, .ref (a 0)), (1, .int p1), (2, .int p2), (3, .int p3), (4, .int p4), (5, .int p5)] []
  change Ok B E cX6_copy 9 RX6 2 45 at C
  refine v_iload_n C 1 dX6_copy_0 rfl rfl ?_
  refine v_callSi (As := [.int p1]) (rest := []) C (c6_isSheet  h) eX6_286 (by omega) (by omega) rfl rfl (Nat.le_of_ble_eq_true rfl) dX6_copy_1 (fun r2 M1 h => ?_)
  refine v_if_eq C dX6_copy_4 (tgt := 14) (by decide) (fun c => ?_) (fun c => ?_)
  · replace h := h.1 c
    refine v_bipush C dX6_copy_14 (v := (-2 : Int32)) (by decide) ?_
    exact hR _ _ _ _ h dX6_copy_16
  · replace h := h.2 c
    refine v_iload_n C 3 dX6_copy_7 rfl rfl ?_
    refine v_callSi (As := [.int p3]) (rest := []) C (c6_isSheet  h) eX6_286 (by omega) (by omega) rfl rfl (Nat.le_of_ble_eq_true rfl) dX6_copy_8 (fun r4 M3 h => ?_)
    refine v_if_ne C dX6_copy_11 (tgt := 17) (by decide) (fun c => ?_) (fun c => ?_)
    · replace h := h.1 c
      refine v_aload_n C 0 dX6_copy_17 rfl rfl ?_
      refine fX6_6_g_isThere C dX6_copy_18 ?_
      refine v_iload_n C 1 dX6_copy_21 rfl rfl ?_
      obtain ⟨hi5, h⟩ := h
      refine v_zald (k := 8) C (by decide) rfl hi5 dX6_copy_22 ?_
      refine v_if_eq C dX6_copy_23 (tgt := 35) (by decide) (fun c => ?_) (fun c => ?_)
      · replace h := h.1 c
        refine v_bipush C dX6_copy_35 (v := (-11 : Int32)) (by decide) ?_
        exact hR _ _ _ _ h dX6_copy_37
      · replace h := h.2 c
        refine v_aload_n C 0 dX6_copy_26 rfl rfl ?_
        refine fX6_6_g_isThere C dX6_copy_27 ?_
        refine v_iload_n C 3 dX6_copy_30 rfl rfl ?_
        obtain ⟨hi6, h⟩ := h
        refine v_zald (k := 8) C (by decide) rfl hi6 dX6_copy_31 ?_
        refine v_if_ne C dX6_copy_32 (tgt := 38) (by decide) (fun c => ?_) (fun c => ?_)
        · replace h := h.1 c
          refine v_aload_n C 0 dX6_copy_38 rfl rfl ?_
          refine fX6_6_g_sorts C dX6_copy_39 ?_
          refine v_iload_n C 1 dX6_copy_42 rfl rfl ?_
          obtain ⟨hi7, h⟩ := h
          refine v_iald (k := 9) C (by decide) rfl hi7 dX6_copy_43 ?_
          refine v_aload_n C 0 dX6_copy_44 rfl rfl ?_
          refine fX6_6_g_sorts C dX6_copy_45 ?_
          refine v_iload_n C 3 dX6_copy_48 rfl rfl ?_
          obtain ⟨hi8, h⟩ := h
          refine v_iald (k := 9) C (by decide) rfl hi8 dX6_copy_49 ?_
          refine v_icmp_eq C dX6_copy_50 (tgt := 56) (by decide) (fun c => ?_) (fun c => ?_)
          · replace h := h.1 c
            refine v_iload C 5 dX6_copy_56 rfl ?_
            refine v_if_lt C dX6_copy_58 (tgt := 97) (by decide) (fun c => ?_) (fun c => ?_)
            · replace h := h.1 c
              refine v_bipush C dX6_copy_97 (v := (-12 : Int32)) (by decide) ?_
              exact hR _ _ _ _ h dX6_copy_99
            · replace h := h.2 c
              refine v_iload_n C 2 dX6_copy_61 rfl rfl ?_
              refine v_if_lt C dX6_copy_62 (tgt := 97) (by decide) (fun c => ?_) (fun c => ?_)
              · replace h := h.1 c
                refine v_bipush C dX6_copy_97 (v := (-12 : Int32)) (by decide) ?_
                exact hR _ _ _ _ h dX6_copy_99
              · replace h := h.2 c
                refine v_iload C 4 dX6_copy_65 rfl ?_
                refine v_if_lt C dX6_copy_67 (tgt := 97) (by decide) (fun c => ?_) (fun c => ?_)
                · replace h := h.1 c
                  refine v_bipush C dX6_copy_97 (v := (-12 : Int32)) (by decide) ?_
                  exact hR _ _ _ _ h dX6_copy_99
                · replace h := h.2 c
                  refine v_iload_n C 2 dX6_copy_70 rfl rfl ?_
                  refine v_aload_n C 0 dX6_copy_71 rfl rfl ?_
                  refine fX6_6_g_sheetSize C dX6_copy_72 ?_
                  refine v_iload_n C 1 dX6_copy_75 rfl rfl ?_
                  obtain ⟨hi9, h⟩ := h
                  refine v_iald (k := 10) C (by decide) rfl hi9 dX6_copy_76 ?_
                  refine v_iload C 5 dX6_copy_77 rfl ?_
                  refine v_isub C dX6_copy_79 ?_
                  refine v_icmp_gt C dX6_copy_80 (tgt := 97) (by decide) (fun c => ?_) (fun c => ?_)
                  · replace h := h.1 c
                    refine v_bipush C dX6_copy_97 (v := (-12 : Int32)) (by decide) ?_
                    exact hR _ _ _ _ h dX6_copy_99
                  · replace h := h.2 c
                    refine v_iload C 4 dX6_copy_83 rfl ?_
                    refine v_aload_n C 0 dX6_copy_85 rfl rfl ?_
                    refine fX6_6_g_sheetSize C dX6_copy_86 ?_
                    refine v_iload_n C 3 dX6_copy_89 rfl rfl ?_
                    obtain ⟨hi10, h⟩ := h
                    refine v_iald (k := 10) C (by decide) rfl hi10 dX6_copy_90 ?_
                    refine v_iload C 5 dX6_copy_91 rfl ?_
                    refine v_isub C dX6_copy_93 ?_
                    refine v_icmp_le C dX6_copy_94 (tgt := 100) (by decide) (fun c => ?_) (fun c => ?_)
                    · replace h := h.1 c
                      refine v_iload_n C 1 dX6_copy_100 rfl rfl ?_
                      refine v_iload_n C 3 dX6_copy_101 rfl rfl ?_
                      refine v_icmp_ne C dX6_copy_102 (tgt := 115) (by decide) (fun c => ?_) (fun c => ?_)
                      · replace h := h.1 c
                        refine v_iconst C dX6_copy_115 (v := (0 : Int32)) (by decide) ?_
                        refine v_istore (lv' := [(6, .int (0 : Int32)), (0, .ref (a 0)), (1, .int p1), (2, .int p2), (3, .int p3), (4, .int p4), (5, .int p5)]) C dX6_copy_116 (by decide) rfl ?_
                        refine v_iconst C dX6_copy_118 (v := (0 : Int32)) (by decide) ?_
                        refine v_istore (lv' := [(7, .int (0 : Int32)), (6, .int (0 : Int32)), (0, .ref (a 0)), (1, .int p1), (2, .int p2), (3, .int p3), (4, .int p4), (5, .int p5)]) C dX6_copy_119 (by decide) rfl ?_
                        obtain ⟨n11, h⟩ := h
                        refine v_sub [2, 3, 4, 5, 6, 7, 1, 0] rfl ?_
                        exact t6_copy_b121   C hR  n11 M3 p1 p2 p3 p4 p5 (0 : Int32) (0 : Int32)  h
                      · replace h := h.2 c
                        refine v_iload_n C 2 dX6_copy_105 rfl rfl ?_
                        refine v_iload C 4 dX6_copy_106 rfl ?_
                        refine v_icmp_ge C dX6_copy_108 (tgt := 115) (by decide) (fun c => ?_) (fun c => ?_)
                        · replace h := h.1 c
                          refine v_iconst C dX6_copy_115 (v := (0 : Int32)) (by decide) ?_
                          refine v_istore (lv' := [(6, .int (0 : Int32)), (0, .ref (a 0)), (1, .int p1), (2, .int p2), (3, .int p3), (4, .int p4), (5, .int p5)]) C dX6_copy_116 (by decide) rfl ?_
                          refine v_iconst C dX6_copy_118 (v := (0 : Int32)) (by decide) ?_
                          refine v_istore (lv' := [(7, .int (0 : Int32)), (6, .int (0 : Int32)), (0, .ref (a 0)), (1, .int p1), (2, .int p2), (3, .int p3), (4, .int p4), (5, .int p5)]) C dX6_copy_119 (by decide) rfl ?_
                          obtain ⟨n12, h⟩ := h
                          refine v_sub [2, 3, 4, 5, 6, 7, 1, 0] rfl ?_
                          exact t6_copy_b121   C hR  n12 M3 p1 p2 p3 p4 p5 (0 : Int32) (0 : Int32)  h
                        · replace h := h.2 c
                          refine v_iconst C dX6_copy_111 (v := (1 : Int32)) (by decide) ?_
                          refine v_goto C dX6_copy_112 (tgt := 116) (by decide) ?_
                          refine v_istore (lv' := [(6, .int (1 : Int32)), (0, .ref (a 0)), (1, .int p1), (2, .int p2), (3, .int p3), (4, .int p4), (5, .int p5)]) C dX6_copy_116 (by decide) rfl ?_
                          refine v_iconst C dX6_copy_118 (v := (0 : Int32)) (by decide) ?_
                          refine v_istore (lv' := [(7, .int (0 : Int32)), (6, .int (1 : Int32)), (0, .ref (a 0)), (1, .int p1), (2, .int p2), (3, .int p3), (4, .int p4), (5, .int p5)]) C dX6_copy_119 (by decide) rfl ?_
                          obtain ⟨n13, h⟩ := h
                          refine v_sub [2, 3, 4, 5, 6, 7, 1, 0] rfl ?_
                          exact t6_copy_b121   C hR  n13 M3 p1 p2 p3 p4 p5 (1 : Int32) (0 : Int32)  h
                    · replace h := h.2 c
                      refine v_bipush C dX6_copy_97 (v := (-12 : Int32)) (by decide) ?_
                      exact hR _ _ _ _ h dX6_copy_99
          · replace h := h.2 c
            refine v_bipush C dX6_copy_53 (v := (-13 : Int32)) (by decide) ?_
            exact hR _ _ _ _ h dX6_copy_55
        · replace h := h.2 c
          refine v_bipush C dX6_copy_35 (v := (-11 : Int32)) (by decide) ?_
          exact hR _ _ _ _ h dX6_copy_37
    · replace h := h.2 c
      refine v_bipush C dX6_copy_14 (v := (-2 : Int32)) (by decide) ?_
      exact hR _ _ _ _ h dX6_copy_16
def w6_players_b75 (Q : Int32 → S0 → Prop) : Nat → S0 → Int32 → Int32 → Int32 → Int32 → Int32 → Prop
  | 0, _, _, _, _, _, _ => False
  | n + 1, M, v1_75, v3_75, v4_75, v5_75, v6_75 =>
    ((v4_75 ≤ v6_75) → (Q v5_75 M)) ∧ ((¬ v4_75 ≤ v6_75) → (((v3_75 < 0) → (Q (-12 : Int32) M)) ∧ ((¬ v3_75 < 0) → ((vp_in v1_75 4) ∧ (((v3_75 ≤ (((M 10 (Int32.toNatClampNeg v1_75)) - ((2 : Int32) * v6_75)) - (2 : Int32))) → (∀ x14 : Int32, x14 = ((((40 : Int32) * v1_75) + v3_75) + ((2 : Int32) * v6_75)) → ((vp_in x14 160) ∧ ((vp_in (x14 + (1 : Int32)) 160) ∧ (w6_player M (M 11 (Int32.toNatClampNeg x14)) (M 11 (Int32.toNatClampNeg (x14 + (1 : Int32)))) (fun r18 M17 => ((r18 < 0) → (∀ x19 : Int32, x19 = (v5_75 + (0 : Int32)) → (∀ x20 : Int32, x20 = v6_75 + (1 : Int32) → (w6_players_b75   Q n M17 v1_75 v3_75 v4_75 x19 x20)))) ∧ ((¬ r18 < 0) → (∀ x21 : Int32, x21 = (v5_75 + (1 : Int32)) → (∀ x22 : Int32, x22 = v6_75 + (1 : Int32) → (w6_players_b75   Q n M17 v1_75 v3_75 v4_75 x21 x22)))))))))) ∧ ((¬ v3_75 ≤ (((M 10 (Int32.toNatClampNeg v1_75)) - ((2 : Int32) * v6_75)) - (2 : Int32))) → (Q (-12 : Int32) M)))))))
set_option maxHeartbeats 4000000 in
set_option maxRecDepth 20000 in
theorem t6_players_b75 {B : BX} {E : EX} {a : Nat → Nat} {Q : Int32 → S0 → Prop} (C : Ok B E cX6_players 8 RX6 2 47) (hR : RetI B E cX6_players 8 (wl 12 a (shM B.2.1 a)) Q) : ∀ (n : Nat) (M : S0) (v1_75 : Int32) (v3_75 : Int32) (v4_75 : Int32) (v5_75 : Int32) (v6_75 : Int32), w6_players_b75   Q n M v1_75 v3_75 v4_75 v5_75 v6_75 → V B E 8 (wl 12 a (shM B.2.1 a) M) 75 [(0, .ref (a 0)), (1, .int v1_75), (3, .int v3_75), (4, .int v4_75), (5, .int v5_75), (6, .int v6_75)] [] := by
  intro n
  induction n with
  | zero =>
    intro M v1_75 v3_75 v4_75 v5_75 v6_75  h
    exact h.elim
  | succ n ih =>
    intro M v1_75 v3_75 v4_75 v5_75 v6_75  h
    rw [w6_players_b75] at h
    refine v_iload C 5 dX6_players_75 rfl ?_
    refine v_iload C 3 dX6_players_77 rfl ?_
    refine v_icmp_ge C dX6_players_79 (tgt := 158) (by decide) (fun c => ?_) (fun c => ?_)
    · replace h := h.1 c
      refine v_iload C 4 dX6_players_158 rfl ?_
      exact hR _ _ _ _ h dX6_players_160
    · replace h := h.2 c
      refine v_iload_n C 2 dX6_players_82 rfl rfl ?_
      refine v_if_lt C dX6_players_83 (tgt := 103) (by decide) (fun c => ?_) (fun c => ?_)
      · replace h := h.1 c
        refine v_bipush C dX6_players_103 (v := (-12 : Int32)) (by decide) ?_
        exact hR _ _ _ _ h dX6_players_105
      · replace h := h.2 c
        refine v_iload_n C 2 dX6_players_86 rfl rfl ?_
        refine v_aload_n C 0 dX6_players_87 rfl rfl ?_
        refine fX6_6_g_sheetSize C dX6_players_88 ?_
        refine v_iload_n C 1 dX6_players_91 rfl rfl ?_
        obtain ⟨hi13, h⟩ := h
        refine v_iald (k := 10) C (by decide) rfl hi13 dX6_players_92 ?_
        refine v_iconst C dX6_players_93 (v := (2 : Int32)) (by decide) ?_
        refine v_iload C 5 dX6_players_94 rfl ?_
        refine v_imul C dX6_players_96 ?_
        refine v_isub C dX6_players_97 ?_
        refine v_iconst C dX6_players_98 (v := (2 : Int32)) (by decide) ?_
        refine v_isub C dX6_players_99 ?_
        refine v_icmp_le C dX6_players_100 (tgt := 106) (by decide) (fun c => ?_) (fun c => ?_)
        · replace h := h.1 c
          refine v_bipush C dX6_players_106 (v := (40 : Int32)) (by decide) ?_
          refine v_iload_n C 1 dX6_players_108 rfl rfl ?_
          refine v_imul C dX6_players_109 ?_
          refine v_iload_n C 2 dX6_players_110 rfl rfl ?_
          refine v_iadd C dX6_players_111 ?_
          refine v_iconst C dX6_players_112 (v := (2 : Int32)) (by decide) ?_
          refine v_iload C 5 dX6_players_113 rfl ?_
          refine v_imul C dX6_players_115 ?_
          refine v_iadd C dX6_players_116 ?_
          refine v_nmi (fun x14 ex14 => ?_)
          replace h := h x14 ex14
          refine v_istore (lv' := [(7, .int x14), (0, .ref (a 0)), (1, .int v1_75), (3, .int v3_75), (4, .int v4_75), (5, .int v5_75), (6, .int v6_75)]) C dX6_players_117 (by decide) rfl ?_
          refine v_iload C 5 dX6_players_119 rfl ?_
          refine v_aload_n C 1 dX6_players_121 rfl rfl ?_
          refine v_aload_n C 1 dX6_players_122 rfl rfl ?_
          refine fX6_6_g_items C dX6_players_123 ?_
          refine v_iload C 0 dX6_players_126 rfl ?_
          obtain ⟨hi15, h⟩ := h
          refine v_iald (k := 11) C (by decide) rfl hi15 dX6_players_128 ?_
          refine v_aload_n C 1 dX6_players_129 rfl rfl ?_
          refine fX6_6_g_items C dX6_players_130 ?_
          refine v_iload C 0 dX6_players_133 rfl ?_
          refine v_iconst C dX6_players_135 (v := (1 : Int32)) (by decide) ?_
          refine v_iadd C dX6_players_136 ?_
          obtain ⟨hi16, h⟩ := h
          refine v_iald (k := 11) C (by decide) rfl hi16 dX6_players_137 ?_
          refine v_callVi (k := 0) (As := [.int (M 11 (Int32.toNatClampNeg x14)), .int (M 11 (Int32.toNatClampNeg (x14 + (1 : Int32))))]) (rest := [.int v5_75]) C (c6_player  h) eX6_360 (by omega) (by omega) (by decide) rfl rfl rfl rfl (Nat.le_of_ble_eq_true rfl) dX6_players_138 (fun r18 M17 h => ?_)
          refine v_if_lt C dX6_players_141 (tgt := 148) (by decide) (fun c => ?_) (fun c => ?_)
          · replace h := h.1 c
            refine v_iconst C dX6_players_148 (v := (0 : Int32)) (by decide) ?_
            refine v_iadd C dX6_players_149 ?_
            refine v_nmi (fun x19 ex19 => ?_)
            replace h := h x19 ex19
            refine v_istore (lv' := [(5, .int x19), (7, .int x14), (0, .ref (a 0)), (1, .int v1_75), (3, .int v3_75), (4, .int v4_75), (6, .int v6_75)]) C dX6_players_150 (by decide) rfl ?_
            obtain ⟨x20, ex20⟩ : ∃ z : Int32, z = v6_75 + (1 : Int32) := ⟨_, rfl⟩
            replace h := h x20 ex20
            refine v_iinc (v := x20) (lv' := [(6, .int x20), (5, .int x19), (7, .int x14), (0, .ref (a 0)), (1, .int v1_75), (3, .int v3_75), (4, .int v4_75)]) C 6 dX6_players_152 rfl (by rw [ex20]; rfl) (by decide) rfl ?_
            refine v_goto C dX6_players_155 (tgt := 75) (by decide) ?_
            refine v_sub [3, 4, 5, 6, 1, 0] rfl ?_
            exact ih M17 v1_75 v3_75 v4_75 x19 x20  h
          · replace h := h.2 c
            refine v_iconst C dX6_players_144 (v := (1 : Int32)) (by decide) ?_
            refine v_goto C dX6_players_145 (tgt := 149) (by decide) ?_
            refine v_iadd C dX6_players_149 ?_
            refine v_nmi (fun x21 ex21 => ?_)
            replace h := h x21 ex21
            refine v_istore (lv' := [(5, .int x21), (7, .int x14), (0, .ref (a 0)), (1, .int v1_75), (3, .int v3_75), (4, .int v4_75), (6, .int v6_75)]) C dX6_players_150 (by decide) rfl ?_
            obtain ⟨x22, ex22⟩ : ∃ z : Int32, z = v6_75 + (1 : Int32) := ⟨_, rfl⟩
            replace h := h x22 ex22
            refine v_iinc (v := x22) (lv' := [(6, .int x22), (5, .int x21), (7, .int x14), (0, .ref (a 0)), (1, .int v1_75), (3, .int v3_75), (4, .int v4_75)]) C 6 dX6_players_152 rfl (by rw [ex22]; rfl) (by decide) rfl ?_
            refine v_goto C dX6_players_155 (tgt := 75) (by decide) ?_
            refine v_sub [3, 4, 5, 6, 1, 0] rfl ?_
            exact ih M17 v1_75 v3_75 v4_75 x21 x22  h
        · replace h := h.2 c
          refine v_bipush C dX6_players_103 (v := (-12 : Int32)) (by decide) ?_
          exact hR _ _ _ _ h dX6_players_105
def w6_players (M : S0) (p1 : Int32) (p2 : Int32) (p3 : Int32) (p4 : Int32) (Q : Int32 → S0 → Prop) : Prop :=
    w6_isSheet M p1 (fun r2 M1 => ((r2 = 0) → (Q (-2 : Int32) M1)) ∧ ((¬ r2 = 0) → (w6_in M1 (Int32.toInt64 p2) (0 : Int64) (2 : Int64) (fun r4 M3 => ((r4 = 0) → (Q (-2 : Int32) M3)) ∧ ((¬ r4 = 0) → (w6_in M3 (Int32.toInt64 p4) (0 : Int64) (6 : Int64) (fun r6 M5 => ((¬ r6 = 0) → ((vp_in p1 4) ∧ ((((M5 8 (Int32.toNatClampNeg p1)) = 0) → ((vp_in p1 4) ∧ (((¬ (M5 8 (Int32.toNatClampNeg p1)) = 0) → (∃ n9, w6_players_b75   Q n9 M5 p1 p3 p4 (0 : Int32) (0 : Int32))) ∧ (((M5 8 (Int32.toNatClampNeg p1)) = 0) → (Q (-11 : Int32) M5))))) ∧ ((¬ (M5 8 (Int32.toNatClampNeg p1)) = 0) → ((vp_in p1 4) ∧ ((((M5 9 (Int32.toNatClampNeg p1)) = p2) → ((vp_in p1 4) ∧ (((¬ (M5 8 (Int32.toNatClampNeg p1)) = 0) → (∃ n12, w6_players_b75   Q n12 M5 p1 p3 p4 (0 : Int32) (0 : Int32))) ∧ (((M5 8 (Int32.toNatClampNeg p1)) = 0) → (Q (-11 : Int32) M5))))) ∧ ((¬ (M5 9 (Int32.toNatClampNeg p1)) = p2) → (Q (-13 : Int32) M5)))))))) ∧ ((r6 = 0) → (Q (-2 : Int32) M5)))))))))
set_option maxHeartbeats 4000000 in
set_option maxRecDepth 20000 in
theorem c6_players {B : BX} {a : Nat → Nat} {M : S0} {p1 : Int32} {p2 : Int32} {p3 : Int32} {p4 : Int32} {Q : Int32 → S0 → Prop} (h : w6_players  M p1 p2 p3 p4 Q) : KI B (wl 12 a (shM B.2.1 a)) yX6_players cX6_players 8 (some .int) 2 47 [.ref (a 0), .int p1, .int p2, .int p3, .int p4] M Q := by
  rw [w6_players] at h
  refine KI_of (by decide +kernel) (Nat.le_of_ble_eq_true rfl) (fun E C hR => ?_)
  change V B E 8 (wl 12 a (shM B.2.1 a) M) 0 [(0, .ref (a 0)), (1, .int p1), (2, .int p2), (3, .int p3), (4, .int p4)] []
  change Ok B E cX6_players 8 RX6 2 47 at C
  refine v_iload_n C 1 dX6_players_0 rfl rfl ?_
  refine v_callSi (As := [.int p1]) (rest := []) C (c6_isSheet  h) eX6_286 (by omega) (by omega) rfl rfl (Nat.le_of_ble_eq_true rfl) dX6_players_1 (fun r2 M1 h => ?_)
  refine v_if_eq C dX6_players_4 (tgt := 32) (by decide) (fun c => ?_) (fun c => ?_)
  · replace h := h.1 c
    refine v_bipush C dX6_players_32 (v := (-2 : Int32)) (by decide) ?_
    exact hR _ _ _ _ h dX6_players_34
  · replace h := h.2 c
    refine v_iload_n C 2 dX6_players_7 rfl rfl ?_
    refine v_i2l C dX6_players_8 ?_
    refine v_lconst C dX6_players_9 (v := (0 : Int64)) (by decide) ?_
    refine v_ldc2 C (v := (2 : Int64)) (gdm 1202 (by decide +kernel) (by decide +kernel)) dX6_players_10 ?_
    refine v_callSi (As := [.long (Int32.toInt64 p2), .long (0 : Int64), .long (2 : Int64)]) (rest := []) C (c6_in  h) eX6_64 (by omega) (by omega) rfl rfl (Nat.le_of_ble_eq_true rfl) dX6_players_13 (fun r4 M3 h => ?_)
    refine v_if_eq C dX6_players_16 (tgt := 32) (by decide) (fun c => ?_) (fun c => ?_)
    · replace h := h.1 c
      refine v_bipush C dX6_players_32 (v := (-2 : Int32)) (by decide) ?_
      exact hR _ _ _ _ h dX6_players_34
    · replace h := h.2 c
      refine v_iload C 4 dX6_players_19 rfl ?_
      refine v_i2l C dX6_players_21 ?_
      refine v_lconst C dX6_players_22 (v := (0 : Int64)) (by decide) ?_
      refine v_ldc2 C (v := (6 : Int64)) (gdm 1243 (by decide +kernel) (by decide +kernel)) dX6_players_23 ?_
      refine v_callSi (As := [.long (Int32.toInt64 p4), .long (0 : Int64), .long (6 : Int64)]) (rest := []) C (c6_in  h) eX6_64 (by omega) (by omega) rfl rfl (Nat.le_of_ble_eq_true rfl) dX6_players_26 (fun r6 M5 h => ?_)
      refine v_if_ne C dX6_players_29 (tgt := 35) (by decide) (fun c => ?_) (fun c => ?_)
      · replace h := h.1 c
        refine v_aload_n C 0 dX6_players_35 rfl rfl ?_
        refine fX6_6_g_isThere C dX6_players_36 ?_
        refine v_iload_n C 1 dX6_players_39 rfl rfl ?_
        obtain ⟨hi7, h⟩ := h
        refine v_zald (k := 8) C (by decide) rfl hi7 dX6_players_40 ?_
        refine v_if_eq C dX6_players_41 (tgt := 57) (by decide) (fun c => ?_) (fun c => ?_)
        · replace h := h.1 c
          refine v_aload_n C 0 dX6_players_57 rfl rfl ?_
          refine fX6_6_g_isThere C dX6_players_58 ?_
          refine v_iload_n C 1 dX6_players_61 rfl rfl ?_
          obtain ⟨hi8, h⟩ := h
          refine v_zald (k := 8) C (by decide) rfl hi8 dX6_players_62 ?_
          refine v_if_ne C dX6_players_63 (tgt := 69) (by decide) (fun c => ?_) (fun c => ?_)
          · replace h := h.1 c
            refine v_iconst C dX6_players_69 (v := (0 : Int32)) (by decide) ?_
            refine v_istore (lv' := [(5, .int (0 : Int32)), (0, .ref (a 0)), (1, .int p1), (2, .int p2), (3, .int p3), (4, .int p4)]) C dX6_players_70 (by decide) rfl ?_
            refine v_iconst C dX6_players_72 (v := (0 : Int32)) (by decide) ?_
            refine v_istore (lv' := [(6, .int (0 : Int32)), (5, .int (0 : Int32)), (0, .ref (a 0)), (1, .int p1), (2, .int p2), (3, .int p3), (4, .int p4)]) C dX6_players_73 (by decide) rfl ?_
            obtain ⟨n9, h⟩ := h
            refine v_sub [2, 3, 5, 6, 1, 0] rfl ?_
            exact t6_players_b75   C hR  n9 M5 p1 p3 p4 (0 : Int32) (0 : Int32)  h
          · replace h := h.2 c
            refine v_bipush C dX6_players_66 (v := (-11 : Int32)) (by decide) ?_
            exact hR _ _ _ _ h dX6_players_68
        · replace h := h.2 c
          refine v_aload_n C 0 dX6_players_44 rfl rfl ?_
          refine fX6_6_g_sorts C dX6_players_45 ?_
          refine v_iload_n C 1 dX6_players_48 rfl rfl ?_
          obtain ⟨hi10, h⟩ := h
          refine v_iald (k := 9) C (by decide) rfl hi10 dX6_players_49 ?_
          refine v_iload_n C 2 dX6_players_50 rfl rfl ?_
          refine v_icmp_eq C dX6_players_51 (tgt := 57) (by decide) (fun c => ?_) (fun c => ?_)
          · replace h := h.1 c
            refine v_aload_n C 0 dX6_players_57 rfl rfl ?_
            refine fX6_6_g_isThere C dX6_players_58 ?_
            refine v_iload_n C 1 dX6_players_61 rfl rfl ?_
            obtain ⟨hi11, h⟩ := h
            refine v_zald (k := 8) C (by decide) rfl hi11 dX6_players_62 ?_
            refine v_if_ne C dX6_players_63 (tgt := 69) (by decide) (fun c => ?_) (fun c => ?_)
            · replace h := h.1 c
              refine v_iconst C dX6_players_69 (v := (0 : Int32)) (by decide) ?_
              refine v_istore (lv' := [(5, .int (0 : Int32)), (0, .ref (a 0)), (1, .int p1), (2, .int p2), (3, .int p3), (4, .int p4)]) C dX6_players_70 (by decide) rfl ?_
              refine v_iconst C dX6_players_72 (v := (0 : Int32)) (by decide) ?_
              refine v_istore (lv' := [(6, .int (0 : Int32)), (5, .int (0 : Int32)), (0, .ref (a 0)), (1, .int p1), (2, .int p2), (3, .int p3), (4, .int p4)]) C dX6_players_73 (by decide) rfl ?_
              obtain ⟨n12, h⟩ := h
              refine v_sub [2, 3, 5, 6, 1, 0] rfl ?_
              exact t6_players_b75   C hR  n12 M5 p1 p3 p4 (0 : Int32) (0 : Int32)  h
            · replace h := h.2 c
              refine v_bipush C dX6_players_66 (v := (-11 : Int32)) (by decide) ?_
              exact hR _ _ _ _ h dX6_players_68
          · replace h := h.2 c
            refine v_bipush C dX6_players_54 (v := (-13 : Int32)) (by decide) ?_
            exact hR _ _ _ _ h dX6_players_56
      · replace h := h.2 c
        refine v_bipush C dX6_players_32 (v := (-2 : Int32)) (by decide) ?_
        exact hR _ _ _ _ h dX6_players_34
def w6_over (M : S0) (p1 : Int32) (Q : Int32 → S0 → Prop) : Prop :=
    ((¬ p1 = 0) → (((¬ p1 = (3 : Int32)) → (((¬ p1 = (4 : Int32)) → (Q (0 : Int32) M)) ∧ ((p1 = (4 : Int32)) → (Q (2 : Int32) M)))) ∧ ((p1 = (3 : Int32)) → (Q (1 : Int32) M)))) ∧ ((p1 = 0) → (Q (-1 : Int32) M))
set_option maxHeartbeats 4000000 in
set_option maxRecDepth 20000 in
theorem c6_over {B : BX} {a : Nat → Nat} {M : S0} {p1 : Int32} {Q : Int32 → S0 → Prop} (h : w6_over  M p1 Q) : KI B (wl 12 a (shM B.2.1 a)) yX6_over cX6_over 1 (some .int) 0 0 [.int p1] M Q := by
  rw [w6_over] at h
  refine KI_of (by decide +kernel) (Nat.le_of_ble_eq_true rfl) (fun E C hR => ?_)
  change V B E 1 (wl 12 a (shM B.2.1 a) M) 0 [(0, .int p1)] []
  change Ok B E cX6_over 1 RX6 0 0 at C
  refine v_iload_n C 0 dX6_over_0 rfl rfl ?_
  refine v_if_ne C dX6_over_1 (tgt := 8) (by decide) (fun c => ?_) (fun c => ?_)
  · replace h := h.1 c
    refine v_iload_n C 0 dX6_over_8 rfl rfl ?_
    refine v_iconst C dX6_over_9 (v := (3 : Int32)) (by decide) ?_
    refine v_icmp_ne C dX6_over_10 (tgt := 17) (by decide) (fun c => ?_) (fun c => ?_)
    · replace h := h.1 c
      refine v_iload_n C 0 dX6_over_17 rfl rfl ?_
      refine v_iconst C dX6_over_18 (v := (4 : Int32)) (by decide) ?_
      refine v_icmp_ne C dX6_over_19 (tgt := 26) (by decide) (fun c => ?_) (fun c => ?_)
      · replace h := h.1 c
        refine v_iconst C dX6_over_26 (v := (0 : Int32)) (by decide) ?_
        exact hR _ _ _ _ h dX6_over_27
      · replace h := h.2 c
        refine v_iconst C dX6_over_22 (v := (2 : Int32)) (by decide) ?_
        refine v_goto C dX6_over_23 (tgt := 27) (by decide) ?_
        exact hR _ _ _ _ h dX6_over_27
    · replace h := h.2 c
      refine v_iconst C dX6_over_13 (v := (1 : Int32)) (by decide) ?_
      refine v_goto C dX6_over_14 (tgt := 27) (by decide) ?_
      exact hR _ _ _ _ h dX6_over_27
  · replace h := h.2 c
    refine v_iconst C dX6_over_4 (v := (-1 : Int32)) (by decide) ?_
    refine v_goto C dX6_over_5 (tgt := 27) (by decide) ?_
    exact hR _ _ _ _ h dX6_over_27
def w6_taken_b33 (Q : Int32 → S0 → Prop) : Nat → S0 → Int32 → Int32 → Int32 → Prop
  | 0, _, _, _, _ => False
  | n + 1, M, v1_33, v2_33, v3_33 =>
    ((v3_33 = (-1 : Int32)) → (((¬ v3_33 = v2_33) → (Q (-13 : Int32) M)) ∧ ((v3_33 = v2_33) → ((vp_in ((4 : Int32) * v1_33) 24) ∧ (Q (M 5 (Int32.toNatClampNeg ((4 : Int32) * v1_33))) M))))) ∧ ((¬ v3_33 = (-1 : Int32)) → (((v3_33 = v2_33) → (((¬ v3_33 = v2_33) → (Q (-13 : Int32) M)) ∧ ((v3_33 = v2_33) → ((vp_in ((4 : Int32) * v1_33) 24) ∧ (Q (M 5 (Int32.toNatClampNeg ((4 : Int32) * v1_33))) M))))) ∧ ((¬ v3_33 = v2_33) → (w6_over M v3_33 (fun r11 M10 => w6_taken_b33   Q n M10 v1_33 v2_33 r11)))))
set_option maxHeartbeats 4000000 in
set_option maxRecDepth 20000 in
theorem t6_taken_b33 {B : BX} {E : EX} {a : Nat → Nat} {Q : Int32 → S0 → Prop} (C : Ok B E cX6_taken 4 RX6 2 46) (hR : RetI B E cX6_taken 4 (wl 12 a (shM B.2.1 a)) Q) : ∀ (n : Nat) (M : S0) (v1_33 : Int32) (v2_33 : Int32) (v3_33 : Int32), w6_taken_b33   Q n M v1_33 v2_33 v3_33 → V B E 4 (wl 12 a (shM B.2.1 a) M) 33 [(0, .ref (a 0)), (1, .int v1_33), (2, .int v2_33), (3, .int v3_33)] [] := by
  intro n
  induction n with
  | zero =>
    intro M v1_33 v2_33 v3_33  h
    exact h.elim
  | succ n ih =>
    intro M v1_33 v2_33 v3_33  h
    rw [w6_taken_b33] at h
    refine v_iload_n C 3 dX6_taken_33 rfl rfl ?_
    refine v_iconst C dX6_taken_34 (v := (-1 : Int32)) (by decide) ?_
    refine v_icmp_eq C dX6_taken_35 (tgt := 51) (by decide) (fun c => ?_) (fun c => ?_)
    · replace h := h.1 c
      refine v_iload_n C 3 dX6_taken_51 rfl rfl ?_
      refine v_iload_n C 2 dX6_taken_52 rfl rfl ?_
      refine v_icmp_ne C dX6_taken_53 (tgt := 67) (by decide) (fun c => ?_) (fun c => ?_)
      · replace h := h.1 c
        refine v_bipush C dX6_taken_67 (v := (-13 : Int32)) (by decide) ?_
        exact hR _ _ _ _ h dX6_taken_69
      · replace h := h.2 c
        refine v_aload_n C 0 dX6_taken_56 rfl rfl ?_
        refine fX6_6_g_rows C dX6_taken_57 ?_
        refine v_iconst C dX6_taken_60 (v := (4 : Int32)) (by decide) ?_
        refine v_iload_n C 1 dX6_taken_61 rfl rfl ?_
        refine v_imul C dX6_taken_62 ?_
        obtain ⟨hi8, h⟩ := h
        refine v_iald (k := 5) C (by decide) rfl hi8 dX6_taken_63 ?_
        refine v_goto C dX6_taken_64 (tgt := 69) (by decide) ?_
        exact hR _ _ _ _ h dX6_taken_69
    · replace h := h.2 c
      refine v_iload_n C 3 dX6_taken_38 rfl rfl ?_
      refine v_iload_n C 2 dX6_taken_39 rfl rfl ?_
      refine v_icmp_eq C dX6_taken_40 (tgt := 51) (by decide) (fun c => ?_) (fun c => ?_)
      · replace h := h.1 c
        refine v_iload_n C 3 dX6_taken_51 rfl rfl ?_
        refine v_iload_n C 2 dX6_taken_52 rfl rfl ?_
        refine v_icmp_ne C dX6_taken_53 (tgt := 67) (by decide) (fun c => ?_) (fun c => ?_)
        · replace h := h.1 c
          refine v_bipush C dX6_taken_67 (v := (-13 : Int32)) (by decide) ?_
          exact hR _ _ _ _ h dX6_taken_69
        · replace h := h.2 c
          refine v_aload_n C 0 dX6_taken_56 rfl rfl ?_
          refine fX6_6_g_rows C dX6_taken_57 ?_
          refine v_iconst C dX6_taken_60 (v := (4 : Int32)) (by decide) ?_
          refine v_iload_n C 1 dX6_taken_61 rfl rfl ?_
          refine v_imul C dX6_taken_62 ?_
          obtain ⟨hi9, h⟩ := h
          refine v_iald (k := 5) C (by decide) rfl hi9 dX6_taken_63 ?_
          refine v_goto C dX6_taken_64 (tgt := 69) (by decide) ?_
          exact hR _ _ _ _ h dX6_taken_69
      · replace h := h.2 c
        refine v_iload_n C 3 dX6_taken_43 rfl rfl ?_
        refine v_callSi (As := [.int v3_33]) (rest := []) C (c6_over  h) eX6_363 (by omega) (by omega) rfl rfl (Nat.le_of_ble_eq_true rfl) dX6_taken_44 (fun r11 M10 h => ?_)
        refine v_istore_n (lv' := [(3, .int r11), (0, .ref (a 0)), (1, .int v1_33), (2, .int v2_33)]) C dX6_taken_47 rfl (by decide) rfl ?_
        refine v_goto C dX6_taken_48 (tgt := 33) (by decide) ?_
        refine v_sub [1, 2, 3, 0] rfl ?_
        exact ih M10 v1_33 v2_33 r11  h
def w6_taken (M : S0) (p1 : Int32) (p2 : Int32) (Q : Int32 → S0 → Prop) : Prop :=
    w6_in M (Int32.toInt64 p2) (0 : Int64) (5 : Int64) (fun r2 M1 => ((¬ r2 = 0) → (w6_isOne M1 p1 (fun r4 M3 => ((¬ r4 = 0) → ((vp_in p1 6) ∧ (∀ x6 : Int32, x6 = (M3 4 (Int32.toNatClampNeg p1)) → (∃ n7, w6_taken_b33   Q n7 M3 p1 p2 x6)))) ∧ ((r4 = 0) → (Q (-11 : Int32) M3))))) ∧ ((r2 = 0) → (Q (-2 : Int32) M1)))
set_option maxHeartbeats 4000000 in
set_option maxRecDepth 20000 in
theorem c6_taken {B : BX} {a : Nat → Nat} {M : S0} {p1 : Int32} {p2 : Int32} {Q : Int32 → S0 → Prop} (h : w6_taken  M p1 p2 Q) : KI B (wl 12 a (shM B.2.1 a)) yX6_taken cX6_taken 4 (some .int) 2 46 [.ref (a 0), .int p1, .int p2] M Q := by
  rw [w6_taken] at h
  refine KI_of (by decide +kernel) (Nat.le_of_ble_eq_true rfl) (fun E C hR => ?_)
  change V B E 4 (wl 12 a (shM B.2.1 a) M) 0 [(0, .ref (a 0)), (1, .int p1), (2, .int p2)] []
  change Ok B E cX6_taken 4 RX6 2 46 at C
  refine v_iload_n C 2 dX6_taken_0 rfl rfl ?_
  refine v_i2l C dX6_taken_1 ?_
  refine v_lconst C dX6_taken_2 (v := (0 : Int64)) (by decide) ?_
  refine v_ldc2 C (v := (5 : Int64)) (gdm 971 (by decide +kernel) (by decide +kernel)) dX6_taken_3 ?_
  refine v_callSi (As := [.long (Int32.toInt64 p2), .long (0 : Int64), .long (5 : Int64)]) (rest := []) C (c6_in  h) eX6_64 (by omega) (by omega) rfl rfl (Nat.le_of_ble_eq_true rfl) dX6_taken_6 (fun r2 M1 h => ?_)
  refine v_if_ne C dX6_taken_9 (tgt := 15) (by decide) (fun c => ?_) (fun c => ?_)
  · replace h := h.1 c
    refine v_aload_n C 0 dX6_taken_15 rfl rfl ?_
    refine v_iload_n C 1 dX6_taken_16 rfl rfl ?_
    refine v_callVi (k := 0) (As := [.int p1]) (rest := []) C (c6_isOne  h) eX6_68 (by omega) (by omega) (by decide) rfl rfl rfl rfl (Nat.le_of_ble_eq_true rfl) dX6_taken_17 (fun r4 M3 h => ?_)
    refine v_if_ne C dX6_taken_20 (tgt := 26) (by decide) (fun c => ?_) (fun c => ?_)
    · replace h := h.1 c
      refine v_aload_n C 0 dX6_taken_26 rfl rfl ?_
      refine fX6_6_g_kinds C dX6_taken_27 ?_
      refine v_iload_n C 1 dX6_taken_30 rfl rfl ?_
      obtain ⟨hi5, h⟩ := h
      refine v_iald (k := 4) C (by decide) rfl hi5 dX6_taken_31 ?_
      refine v_nmi (fun x6 ex6 => ?_)
      replace h := h x6 ex6
      refine v_istore_n (lv' := [(3, .int x6), (0, .ref (a 0)), (1, .int p1), (2, .int p2)]) C dX6_taken_32 rfl (by decide) rfl ?_
      obtain ⟨n7, h⟩ := h
      refine v_sub [1, 2, 3, 0] rfl ?_
      exact t6_taken_b33   C hR  n7 M3 p1 p2 x6  h
    · replace h := h.2 c
      refine v_bipush C dX6_taken_23 (v := (-11 : Int32)) (by decide) ?_
      exact hR _ _ _ _ h dX6_taken_25
  · replace h := h.2 c
    refine v_bipush C dX6_taken_12 (v := (-2 : Int32)) (by decide) ?_
    exact hR _ _ _ _ h dX6_taken_14
