def w5_tells (g : GX) (M : S0) (p1 : Int32) (p2 : Int32) (p3 : Int32) (Q : Int32 → S0 → Prop) : Prop :=
    w5_sheetAt g M p1 (fun r2 M1 => ((r2 = none) → (Q (-2 : Int32) M1)) ∧ (∀ k3 : Nat, r2 = some k3 → (w0_isPlayer g 10 M1 p2 (fun r5 M4 => ((r5 = 0) → (Q (-2 : Int32) M4)) ∧ ((¬ r5 = 0) → (w5_isWithin g M4 p3 (0 : Int32) (8 : Int32) (fun r7 M6 => ((¬ r7 = 0) → ((isSheet k3) ∧ (w2_isMissing g k3 M6 (fun r10 M9 => ((r10 = 0) → ((((M9 k3 2) = (M9 10 7)) → (((p3.toInt = 0) → (w5_firstOtherwise g 10 k3 M9 p2 (fun r12 M11 => Q r12 M11))) ∧ ((p3.toInt = 1) → (w5_bitsThatFit g k3 M9 p2 p3 (fun r14 M13 => Q r14 M13))) ∧ ((p3.toInt = 2) → (w5_bitsThatFit g k3 M9 p2 p3 (fun r16 M15 => Q r16 M15))) ∧ ((p3.toInt = 3) → (w5_howManyFit g k3 M9 p2 (0 : Int32) (fun r18 M17 => Q r18 M17))) ∧ ((p3.toInt = 4) → (w5_leastThatFits g k3 M9 p2 (0 : Int32) (fun r20 M19 => Q r20 M19))) ∧ ((p3.toInt = 5) → (w5_howManyFit g k3 M9 p2 (4 : Int32) (fun r22 M21 => Q r22 M21))) ∧ ((p3.toInt = 6) → (w5_leastThatFits g k3 M9 p2 (4 : Int32) (fun r24 M23 => Q r24 M23))) ∧ ((p3.toInt = 7) → (w5_bitsThatFit g k3 M9 p2 p3 (fun r26 M25 => Q r26 M25))) ∧ ((p3.toInt = 8) → (w5_playersThatFit g k3 M9 (fun r28 M27 => Q r28 M27))) ∧ ((p3.toInt < 0 ∨ 8 < p3.toInt) → (w5_bitsThatFit g k3 M9 p2 p3 (fun r30 M29 => Q r30 M29))))) ∧ ((¬ (M9 k3 2) = (M9 10 7)) → (Q (-2 : Int32) M9)))) ∧ ((¬ r10 = 0) → (Q (-11 : Int32) M9)))))) ∧ ((r7 = 0) → (Q (-2 : Int32) M6)))))))))
set_option maxHeartbeats 4000000 in
set_option maxRecDepth 20000 in
theorem c5_tells {B : BX} {a : Nat → Nat} {g : GX} {M : S0} {p1 : Int32} {p2 : Int32} {p3 : Int32} {Q : Int32 → S0 → Prop} (h : w5_tells g M p1 p2 p3 Q) : KI B (wl (66 + 3 * g.2) a (shX B.2.1 a g.1)) yX5_tells cX5_tells 5 (some .int) 6 145 [.ref (a 0), .int p1, .int p2, .int p3] M Q := by
  rw [w5_tells] at h
  refine KI_of (by decide +kernel) (Nat.le_of_ble_eq_true rfl) (fun E C hR => ?_)
  change V B E 5 (wl (66 + 3 * g.2) a (shX B.2.1 a g.1) M) 0 [(0, .ref (a 0)), (1, .int p1), (2, .int p2), (3, .int p3)] []
  change Ok B E cX5_tells 5 RX5 6 145 at C
  refine v_aload_n C 0 dX5_tells_0 rfl rfl ?_
  refine v_iload_n C 1 dX5_tells_1 rfl rfl ?_
  refine v_callVa (k := 0) (As := [.int p1]) (rest := []) C (c5_sheetAt  h) eX5_155 (by omega) (by omega) (by omega) rfl rfl rfl rfl (Nat.le_of_ble_eq_true rfl) dX5_tells_2 (fun r2 M1 h => ?_)
  rcases r2 with _ | k3
  · replace h := h.1 rfl
    change V _ _ _ _ _ _ (.null :: _)
    refine v_astoreN (lv' := [(4, .null), (0, .ref (a 0)), (1, .int p1), (2, .int p2), (3, .int p3)]) C dX5_tells_5 (by decide) rfl ?_
    refine v_aloadN C 0 dX5_tells_7 rfl ?_
    refine v_ifnullN C dX5_tells_9 (tgt := 33) (by decide) ?_
    refine v_bipush C dX5_tells_33 (v := (-2 : Int32)) (by decide) ?_
    exact hR _ _ _ _ h dX5_tells_35
  · replace h := h.2 k3 rfl
    change V _ _ _ _ _ _ (.ref (a k3) :: _)
    refine v_astore (lv' := [(4, .ref (a k3)), (0, .ref (a 0)), (1, .int p1), (2, .int p2), (3, .int p3)]) C dX5_tells_5 (by decide) rfl ?_
    refine v_aload C 0 dX5_tells_7 rfl ?_
    refine v_ifnull C dX5_tells_9 ?_
    refine v_aload_n C 1 dX5_tells_12 rfl rfl ?_
    refine fX5_5_g_now C dX5_tells_13 ?_
    refine v_iload_n C 3 dX5_tells_16 rfl rfl ?_
    refine v_callVi (k := 10) (As := [.int p2]) (rest := []) C (c0_isPlayer cl_10 h) eX5_90 (by omega) (by omega) (xlt_c (j := 0) cl_10 (by decide)) (sh_c0 cl_10 _) rfl rfl rfl (Nat.le_of_ble_eq_true rfl) dX5_tells_17 (fun r5 M4 h => ?_)
    refine v_if_eq C dX5_tells_20 (tgt := 33) (by decide) (fun c => ?_) (fun c => ?_)
    · replace h := h.1 c
      refine v_bipush C dX5_tells_33 (v := (-2 : Int32)) (by decide) ?_
      exact hR _ _ _ _ h dX5_tells_35
    · replace h := h.2 c
      refine v_iload_n C 4 dX5_tells_23 rfl rfl ?_
      refine v_iconst C dX5_tells_24 (v := (0 : Int32)) (by decide) ?_
      refine v_bipush C dX5_tells_25 (v := (8 : Int32)) (by decide) ?_
      refine v_callSi (As := [.int p3, .int (0 : Int32), .int (8 : Int32)]) (rest := []) C (c5_isWithin  h) eX5_82 (by omega) (by omega) rfl rfl (Nat.le_of_ble_eq_true rfl) dX5_tells_27 (fun r7 M6 h => ?_)
      refine v_if_ne C dX5_tells_30 (tgt := 36) (by decide) (fun c => ?_) (fun c => ?_)
      · replace h := h.1 c
        refine v_aload C 0 dX5_tells_36 rfl ?_
        obtain ⟨hf8, h⟩ := h
        refine v_callVi (k := k3) (As := []) (rest := []) C (c2_isMissing hf8 h) eX5_159 (by omega) (by omega) (xlt_s (j := 0) hf8 (by decide)) (sh_s0 hf8 _) rfl rfl rfl (Nat.le_of_ble_eq_true rfl) dX5_tells_38 (fun r10 M9 h => ?_)
        refine v_if_eq C dX5_tells_41 (tgt := 47) (by decide) (fun c => ?_) (fun c => ?_)
        · replace h := h.1 c
          refine v_aload C 0 dX5_tells_47 rfl ?_
          refine fX5_2_g_size C hf8 dX5_tells_49 ?_
          refine v_aload_n C 1 dX5_tells_52 rfl rfl ?_
          refine fX5_5_g_now C dX5_tells_53 ?_
          refine fX5_0_g_many C cl_10 dX5_tells_56 ?_
          refine v_icmp_eq C dX5_tells_59 (tgt := 65) (by decide) (fun c => ?_) (fun c => ?_)
          · replace h := h.1 c
            refine v_iload_n C 4 dX5_tells_65 rfl rfl ?_
            refine v_sw C dX5_tells_66 [116, 170, 170, 127, 136, 145, 154, 170, 163] (by decide) (by decide) (tgt := 170) (by decide) (fun j t ht hx => ?_) (fun c => ?_)
            · match j, ht, hx with
              | 0, ht, hx =>
                obtain rfl : 116 = t := Option.some.inj ht
                replace h := h.1 (by omega)
                refine v_aload_n C 1 dX5_tells_116 rfl rfl ?_
                refine fX5_5_g_now C dX5_tells_117 ?_
                refine v_aload C 0 dX5_tells_120 rfl ?_
                refine v_iload_n C 3 dX5_tells_122 rfl rfl ?_
                refine v_callSi (As := [.ref (a 10), .ref (a k3), .int p2]) (rest := []) C (c5_firstOtherwise cl_10 hf8 h) eX5_220 (by omega) (by omega) rfl rfl (Nat.le_of_ble_eq_true rfl) dX5_tells_123 (fun r12 M11 h => ?_)
                exact hR _ _ _ _ h dX5_tells_126
              | 1, ht, hx =>
                obtain rfl : 170 = t := Option.some.inj ht
                replace h := h.2.1 (by omega)
                refine v_aload_n C 1 dX5_tells_170 rfl rfl ?_
                refine v_aload C 0 dX5_tells_171 rfl ?_
                refine v_iload_n C 3 dX5_tells_173 rfl rfl ?_
                refine v_iload_n C 4 dX5_tells_174 rfl rfl ?_
                refine v_callVi (k := 0) (As := [.ref (a k3), .int p2, .int p3]) (rest := []) C (c5_bitsThatFit hf8 h) eX5_235 (by omega) (by omega) (by omega) rfl rfl rfl rfl (Nat.le_of_ble_eq_true rfl) dX5_tells_175 (fun r14 M13 h => ?_)
                exact hR _ _ _ _ h dX5_tells_178
              | 2, ht, hx =>
                obtain rfl : 170 = t := Option.some.inj ht
                replace h := h.2.2.1 (by omega)
                refine v_aload_n C 1 dX5_tells_170 rfl rfl ?_
                refine v_aload C 0 dX5_tells_171 rfl ?_
                refine v_iload_n C 3 dX5_tells_173 rfl rfl ?_
                refine v_iload_n C 4 dX5_tells_174 rfl rfl ?_
                refine v_callVi (k := 0) (As := [.ref (a k3), .int p2, .int p3]) (rest := []) C (c5_bitsThatFit hf8 h) eX5_235 (by omega) (by omega) (by omega) rfl rfl rfl rfl (Nat.le_of_ble_eq_true rfl) dX5_tells_175 (fun r16 M15 h => ?_)
                exact hR _ _ _ _ h dX5_tells_178
              | 3, ht, hx =>
                obtain rfl : 127 = t := Option.some.inj ht
                replace h := h.2.2.2.1 (by omega)
                refine v_aload_n C 1 dX5_tells_127 rfl rfl ?_
                refine v_aload C 0 dX5_tells_128 rfl ?_
                refine v_iload_n C 3 dX5_tells_130 rfl rfl ?_
                refine v_iconst C dX5_tells_131 (v := (0 : Int32)) (by decide) ?_
                refine v_callVi (k := 0) (As := [.ref (a k3), .int p2, .int (0 : Int32)]) (rest := []) C (c5_howManyFit hf8 h) eX5_224 (by omega) (by omega) (by omega) rfl rfl rfl rfl (Nat.le_of_ble_eq_true rfl) dX5_tells_132 (fun r18 M17 h => ?_)
                exact hR _ _ _ _ h dX5_tells_135
              | 4, ht, hx =>
                obtain rfl : 136 = t := Option.some.inj ht
                replace h := h.2.2.2.2.1 (by omega)
                refine v_aload_n C 1 dX5_tells_136 rfl rfl ?_
                refine v_aload C 0 dX5_tells_137 rfl ?_
                refine v_iload_n C 3 dX5_tells_139 rfl rfl ?_
                refine v_iconst C dX5_tells_140 (v := (0 : Int32)) (by decide) ?_
                refine v_callVi (k := 0) (As := [.ref (a k3), .int p2, .int (0 : Int32)]) (rest := []) C (c5_leastThatFits hf8 h) eX5_228 (by omega) (by omega) (by omega) rfl rfl rfl rfl (Nat.le_of_ble_eq_true rfl) dX5_tells_141 (fun r20 M19 h => ?_)
                exact hR _ _ _ _ h dX5_tells_144
              | 5, ht, hx =>
                obtain rfl : 145 = t := Option.some.inj ht
                replace h := h.2.2.2.2.2.1 (by omega)
                refine v_aload_n C 1 dX5_tells_145 rfl rfl ?_
                refine v_aload C 0 dX5_tells_146 rfl ?_
                refine v_iload_n C 3 dX5_tells_148 rfl rfl ?_
                refine v_iconst C dX5_tells_149 (v := (4 : Int32)) (by decide) ?_
                refine v_callVi (k := 0) (As := [.ref (a k3), .int p2, .int (4 : Int32)]) (rest := []) C (c5_howManyFit hf8 h) eX5_224 (by omega) (by omega) (by omega) rfl rfl rfl rfl (Nat.le_of_ble_eq_true rfl) dX5_tells_150 (fun r22 M21 h => ?_)
                exact hR _ _ _ _ h dX5_tells_153
              | 6, ht, hx =>
                obtain rfl : 154 = t := Option.some.inj ht
                replace h := h.2.2.2.2.2.2.1 (by omega)
                refine v_aload_n C 1 dX5_tells_154 rfl rfl ?_
                refine v_aload C 0 dX5_tells_155 rfl ?_
                refine v_iload_n C 3 dX5_tells_157 rfl rfl ?_
                refine v_iconst C dX5_tells_158 (v := (4 : Int32)) (by decide) ?_
                refine v_callVi (k := 0) (As := [.ref (a k3), .int p2, .int (4 : Int32)]) (rest := []) C (c5_leastThatFits hf8 h) eX5_228 (by omega) (by omega) (by omega) rfl rfl rfl rfl (Nat.le_of_ble_eq_true rfl) dX5_tells_159 (fun r24 M23 h => ?_)
                exact hR _ _ _ _ h dX5_tells_162
              | 7, ht, hx =>
                obtain rfl : 170 = t := Option.some.inj ht
                replace h := h.2.2.2.2.2.2.2.1 (by omega)
                refine v_aload_n C 1 dX5_tells_170 rfl rfl ?_
                refine v_aload C 0 dX5_tells_171 rfl ?_
                refine v_iload_n C 3 dX5_tells_173 rfl rfl ?_
                refine v_iload_n C 4 dX5_tells_174 rfl rfl ?_
                refine v_callVi (k := 0) (As := [.ref (a k3), .int p2, .int p3]) (rest := []) C (c5_bitsThatFit hf8 h) eX5_235 (by omega) (by omega) (by omega) rfl rfl rfl rfl (Nat.le_of_ble_eq_true rfl) dX5_tells_175 (fun r26 M25 h => ?_)
                exact hR _ _ _ _ h dX5_tells_178
              | 8, ht, hx =>
                obtain rfl : 163 = t := Option.some.inj ht
                replace h := h.2.2.2.2.2.2.2.2.1 (by omega)
                refine v_aload_n C 1 dX5_tells_163 rfl rfl ?_
                refine v_aload C 0 dX5_tells_164 rfl ?_
                refine v_callVi (k := 0) (As := [.ref (a k3)]) (rest := []) C (c5_playersThatFit hf8 h) eX5_231 (by omega) (by omega) (by omega) rfl rfl rfl rfl (Nat.le_of_ble_eq_true rfl) dX5_tells_166 (fun r28 M27 h => ?_)
                exact hR _ _ _ _ h dX5_tells_169
              | j + 9, ht, hx => simp at ht
            · replace h := h.2.2.2.2.2.2.2.2.2 c
              refine v_aload_n C 1 dX5_tells_170 rfl rfl ?_
              refine v_aload C 0 dX5_tells_171 rfl ?_
              refine v_iload_n C 3 dX5_tells_173 rfl rfl ?_
              refine v_iload_n C 4 dX5_tells_174 rfl rfl ?_
              refine v_callVi (k := 0) (As := [.ref (a k3), .int p2, .int p3]) (rest := []) C (c5_bitsThatFit hf8 h) eX5_235 (by omega) (by omega) (by omega) rfl rfl rfl rfl (Nat.le_of_ble_eq_true rfl) dX5_tells_175 (fun r30 M29 h => ?_)
              exact hR _ _ _ _ h dX5_tells_178
          · replace h := h.2 c
            refine v_bipush C dX5_tells_62 (v := (-2 : Int32)) (by decide) ?_
            exact hR _ _ _ _ h dX5_tells_64
        · replace h := h.2 c
          refine v_bipush C dX5_tells_44 (v := (-11 : Int32)) (by decide) ?_
          exact hR _ _ _ _ h dX5_tells_46
      · replace h := h.2 c
        refine v_bipush C dX5_tells_33 (v := (-2 : Int32)) (by decide) ?_
        exact hR _ _ _ _ h dX5_tells_35
def w5_film_b39 (g : GX) (Q : Int32 → S0 → Prop) : Nat → S0 → Int32 → Nat → Int32 → Prop
  | 0, _, _, _, _ => False
  | n + 1, M, v2_39, v3_39, v4_39 =>
    (((M 10 7) ≤ v4_39) → (Q (M 10 7) M)) ∧ ((¬ (M 10 7) ≤ v4_39) → (w0_power g 10 M v2_39 v4_39 (fun r10 M9 => w2_put g v3_39 M9 v4_39 r10 (fun M11 => ∀ x12 : Int32, x12 = v4_39 + (1 : Int32) → (w5_film_b39 g  Q n M11 v2_39 v3_39 x12)))))
set_option maxHeartbeats 4000000 in
set_option maxRecDepth 20000 in
theorem t5_film_b39 {B : BX} {E : EX} {a : Nat → Nat} {g : GX} {Q : Int32 → S0 → Prop} (C : Ok B E cX5_film 5 RX5 3 72) (hR : RetI B E cX5_film 5 (wl (66 + 3 * g.2) a (shX B.2.1 a g.1)) Q) : ∀ (n : Nat) (M : S0) (v2_39 : Int32) (v3_39 : Nat) (v4_39 : Int32), (hp_v3_39 : isSheet v3_39) → w5_film_b39 g  Q n M v2_39 v3_39 v4_39 → V B E 5 (wl (66 + 3 * g.2) a (shX B.2.1 a g.1) M) 39 [(0, .ref (a 0)), (2, .int v2_39), (3, .ref (a v3_39)), (4, .int v4_39)] [] := by
  intro n
  induction n with
  | zero =>
    intro M v2_39 v3_39 v4_39 hp_v3_39 h
    exact h.elim
  | succ n ih =>
    intro M v2_39 v3_39 v4_39 hp_v3_39 h
    rw [w5_film_b39] at h
    refine v_iload C 3 dX5_film_39 rfl ?_
    refine v_aload_n C 0 dX5_film_41 rfl rfl ?_
    refine fX5_5_g_now C dX5_film_42 ?_
    refine fX5_0_g_many C cl_10 dX5_film_45 ?_
    refine v_icmp_ge C dX5_film_48 (tgt := 73) (by decide) (fun c => ?_) (fun c => ?_)
    · replace h := h.1 c
      refine v_aload_n C 0 dX5_film_73 rfl rfl ?_
      refine fX5_5_g_now C dX5_film_74 ?_
      refine fX5_0_g_many C cl_10 dX5_film_77 ?_
      exact hR _ _ _ _ h dX5_film_80
    · replace h := h.2 c
      refine v_aload_n C 2 dX5_film_51 rfl rfl ?_
      refine v_iload C 3 dX5_film_52 rfl ?_
      refine v_aload_n C 0 dX5_film_54 rfl rfl ?_
      refine fX5_5_g_now C dX5_film_55 ?_
      refine v_iload_n C 1 dX5_film_58 rfl rfl ?_
      refine v_iload C 3 dX5_film_59 rfl ?_
      refine v_callVi (k := 10) (As := [.int v2_39, .int v4_39]) (rest := [.int v4_39, .ref (a v3_39)]) C (c0_power cl_10 h) eX5_120 (by omega) (by omega) (xlt_c (j := 0) cl_10 (by decide)) (sh_c0 cl_10 _) rfl rfl rfl (Nat.le_of_ble_eq_true rfl) dX5_film_61 (fun r10 M9 h => ?_)
      refine v_callVv (k := v3_39) (As := [.int v4_39, .int r10]) (rest := []) C (c2_put hp_v3_39 h) eX5_245 (by omega) (by omega) (xlt_s (j := 0) hp_v3_39 (by decide)) (sh_s0 hp_v3_39 _) rfl rfl rfl (Nat.le_of_ble_eq_true rfl) dX5_film_64 (fun M11 h => ?_)
      obtain ⟨x12, ex12⟩ : ∃ z : Int32, z = v4_39 + (1 : Int32) := ⟨_, rfl⟩
      replace h := h x12 ex12
      refine v_iinc (v := x12) (lv' := [(4, .int x12), (0, .ref (a 0)), (2, .int v2_39), (3, .ref (a v3_39))]) C 3 dX5_film_67 rfl (by rw [ex12]; rfl) (by decide) rfl ?_
      refine v_goto C dX5_film_70 (tgt := 39) (by decide) ?_
      refine v_sub [1, 2, 3, 0] rfl ?_
      exact ih M11 v2_39 v3_39 x12 hp_v3_39 h
def w5_film (g : GX) (M : S0) (p1 : Int32) (p2 : Int32) (Q : Int32 → S0 → Prop) : Prop :=
    w5_sheetAt g M p1 (fun r2 M1 => ((r2 = none) → (Q (-2 : Int32) M1)) ∧ (∀ k3 : Nat, r2 = some k3 → (w0_isPlayer g 10 M1 p2 (fun r5 M4 => ((¬ r5 = 0) → ((isSheet k3) ∧ (w2_becomes g k3 M4 (1 : Int32) (M4 10 7) (fun M7 => ∃ n8, w5_film_b39 g  Q n8 M7 p2 k3 (0 : Int32))))) ∧ ((r5 = 0) → (Q (-2 : Int32) M4))))))
set_option maxHeartbeats 4000000 in
set_option maxRecDepth 20000 in
theorem c5_film {B : BX} {a : Nat → Nat} {g : GX} {M : S0} {p1 : Int32} {p2 : Int32} {Q : Int32 → S0 → Prop} (h : w5_film g M p1 p2 Q) : KI B (wl (66 + 3 * g.2) a (shX B.2.1 a g.1)) yX5_film cX5_film 5 (some .int) 3 72 [.ref (a 0), .int p1, .int p2] M Q := by
  rw [w5_film] at h
  refine KI_of (by decide +kernel) (Nat.le_of_ble_eq_true rfl) (fun E C hR => ?_)
  change V B E 5 (wl (66 + 3 * g.2) a (shX B.2.1 a g.1) M) 0 [(0, .ref (a 0)), (1, .int p1), (2, .int p2)] []
  change Ok B E cX5_film 5 RX5 3 72 at C
  refine v_aload_n C 0 dX5_film_0 rfl rfl ?_
  refine v_iload_n C 1 dX5_film_1 rfl rfl ?_
  refine v_callVa (k := 0) (As := [.int p1]) (rest := []) C (c5_sheetAt  h) eX5_155 (by omega) (by omega) (by omega) rfl rfl rfl rfl (Nat.le_of_ble_eq_true rfl) dX5_film_2 (fun r2 M1 h => ?_)
  rcases r2 with _ | k3
  · replace h := h.1 rfl
    change V _ _ _ _ _ _ (.null :: _)
    refine v_astoreN_n (lv' := [(3, .null), (0, .ref (a 0)), (1, .int p1), (2, .int p2)]) C dX5_film_5 rfl (by decide) rfl ?_
    refine v_aloadN_n C 0 dX5_film_6 rfl rfl ?_
    refine v_ifnullN C dX5_film_7 (tgt := 21) (by decide) ?_
    refine v_bipush C dX5_film_21 (v := (-2 : Int32)) (by decide) ?_
    exact hR _ _ _ _ h dX5_film_23
  · replace h := h.2 k3 rfl
    change V _ _ _ _ _ _ (.ref (a k3) :: _)
    refine v_astore_n (lv' := [(3, .ref (a k3)), (0, .ref (a 0)), (1, .int p1), (2, .int p2)]) C dX5_film_5 rfl (by decide) rfl ?_
    refine v_aload_n C 0 dX5_film_6 rfl rfl ?_
    refine v_ifnull C dX5_film_7 ?_
    refine v_aload_n C 1 dX5_film_10 rfl rfl ?_
    refine fX5_5_g_now C dX5_film_11 ?_
    refine v_iload_n C 3 dX5_film_14 rfl rfl ?_
    refine v_callVi (k := 10) (As := [.int p2]) (rest := []) C (c0_isPlayer cl_10 h) eX5_90 (by omega) (by omega) (xlt_c (j := 0) cl_10 (by decide)) (sh_c0 cl_10 _) rfl rfl rfl (Nat.le_of_ble_eq_true rfl) dX5_film_15 (fun r5 M4 h => ?_)
    refine v_if_ne C dX5_film_18 (tgt := 24) (by decide) (fun c => ?_) (fun c => ?_)
    · replace h := h.1 c
      refine v_aload_n C 0 dX5_film_24 rfl rfl ?_
      refine v_iconst C dX5_film_25 (v := (1 : Int32)) (by decide) ?_
      refine v_aload_n C 1 dX5_film_26 rfl rfl ?_
      refine fX5_5_g_now C dX5_film_27 ?_
      refine fX5_0_g_many C cl_10 dX5_film_30 ?_
      obtain ⟨hf6, h⟩ := h
      refine v_callVv (k := k3) (As := [.int (1 : Int32), .int (M4 10 7)]) (rest := []) C (c2_becomes hf6 h) eX5_242 (by omega) (by omega) (xlt_s (j := 0) hf6 (by decide)) (sh_s0 hf6 _) rfl rfl rfl (Nat.le_of_ble_eq_true rfl) dX5_film_33 (fun M7 h => ?_)
      refine v_iconst C dX5_film_36 (v := (0 : Int32)) (by decide) ?_
      refine v_istore (lv' := [(4, .int (0 : Int32)), (3, .ref (a k3)), (0, .ref (a 0)), (1, .int p1), (2, .int p2)]) C dX5_film_37 (by decide) rfl ?_
      obtain ⟨n8, h⟩ := h
      refine v_sub [2, 4, 1, 0] rfl ?_
      exact t5_film_b39   C hR  n8 M7 p2 k3 (0 : Int32) hf6 h
    · replace h := h.2 c
      refine v_bipush C dX5_film_21 (v := (-2 : Int32)) (by decide) ?_
      exact hR _ _ _ _ h dX5_film_23
def w5_hasBehindDrawn_b30 (g : GX) (Q : Int32 → S0 → Prop) : Nat → S0 → Int32 → Int32 → Nat → Int32 → Int32 → Int32 → Prop
  | 0, _, _, _, _, _, _, _ => False
  | n + 1, M, v2_30, v3_30, v4_30, v5_30, v6_30, v7_30 =>
    ((v3_30 ≤ v7_30) → ((vp_in v2_30 6) ∧ (Q (M (v4_30 + 5) (Int32.toNatClampNeg v2_30)) M))) ∧ ((¬ v3_30 ≤ v7_30) → (((v5_30 ≤ (1 : Int32)) → ((vp_in v2_30 6) ∧ (Q (M (v4_30 + 5) (Int32.toNatClampNeg v2_30)) M))) ∧ ((¬ v5_30 ≤ (1 : Int32)) → (∀ x11 : Int32, x11 = ((v6_30 * (1103515245 : Int32)) + (12345 : Int32)) → ((¬ v5_30 = 0) ∧ (∀ x13 : Int32, x13 = (((Int32.toUInt32 x11 >>> (Int32.toUInt32 (9 : Int32) &&& Int32.toUInt32 31)).toInt32) - ((Int32.toUInt32 x11 >>> (Int32.toUInt32 (9 : Int32) &&& Int32.toUInt32 31)).toInt32) / v5_30 * v5_30) → ((¬ (v5_30 - (1 : Int32)) = 0) ∧ (∀ x15 : Int32, x15 = ((1 : Int32) + (((Int32.toUInt32 x11 >>> (Int32.toUInt32 (17 : Int32) &&& Int32.toUInt32 31)).toInt32) - ((Int32.toUInt32 x11 >>> (Int32.toUInt32 (17 : Int32) &&& Int32.toUInt32 31)).toInt32) / (v5_30 - (1 : Int32)) * (v5_30 - (1 : Int32)))) → ((¬ v5_30 = 0) ∧ (w0_meet g v4_30 M x13 ((x13 + x15) - (x13 + x15) / v5_30 * v5_30) (fun r18 M17 => ∀ x19 : Int32, x19 = v7_30 + (1 : Int32) → (w5_hasBehindDrawn_b30 g  Q n M17 v2_30 v3_30 v4_30 v5_30 x11 x19))))))))))))
set_option maxHeartbeats 4000000 in
set_option maxRecDepth 20000 in
theorem t5_hasBehindDrawn_b30 {B : BX} {E : EX} {a : Nat → Nat} {g : GX} {Q : Int32 → S0 → Prop} (C : Ok B E cX5_hasBehindDrawn 10 RX5 5 120) (hR : RetI B E cX5_hasBehindDrawn 10 (wl (66 + 3 * g.2) a (shX B.2.1 a g.1)) Q) : ∀ (n : Nat) (M : S0) (v2_30 : Int32) (v3_30 : Int32) (v4_30 : Nat) (v5_30 : Int32) (v6_30 : Int32) (v7_30 : Int32), (hp_v4_30 : isClub v4_30) → w5_hasBehindDrawn_b30 g  Q n M v2_30 v3_30 v4_30 v5_30 v6_30 v7_30 → V B E 10 (wl (66 + 3 * g.2) a (shX B.2.1 a g.1) M) 30 [(2, .int v2_30), (3, .int v3_30), (4, .ref (a v4_30)), (5, .int v5_30), (6, .int v6_30), (7, .int v7_30)] [] := by
  intro n
  induction n with
  | zero =>
    intro M v2_30 v3_30 v4_30 v5_30 v6_30 v7_30 hp_v4_30 h
    exact h.elim
  | succ n ih =>
    intro M v2_30 v3_30 v4_30 v5_30 v6_30 v7_30 hp_v4_30 h
    rw [w5_hasBehindDrawn_b30] at h
    refine v_iload C 5 dX5_hasBehindDrawn_30 rfl ?_
    refine v_iload_n C 1 dX5_hasBehindDrawn_32 rfl rfl ?_
    refine v_icmp_ge C dX5_hasBehindDrawn_33 (tgt := 99) (by decide) (fun c => ?_) (fun c => ?_)
    · replace h := h.1 c
      refine v_aload C 2 dX5_hasBehindDrawn_99 rfl ?_
      refine fX5_0_g_has C hp_v4_30 dX5_hasBehindDrawn_101 ?_
      refine v_iload_n C 0 dX5_hasBehindDrawn_104 rfl rfl ?_
      obtain ⟨hi9, h⟩ := h
      refine v_iald (k := (v4_30 + 5)) C (xlt_c hp_v4_30 (by decide)) (sh_ca (ca_of hp_v4_30 (by decide) (by decide)) _) hi9 dX5_hasBehindDrawn_105 ?_
      exact hR _ _ _ _ h dX5_hasBehindDrawn_106
    · replace h := h.2 c
      refine v_iload C 3 dX5_hasBehindDrawn_36 rfl ?_
      refine v_iconst C dX5_hasBehindDrawn_38 (v := (1 : Int32)) (by decide) ?_
      refine v_icmp_le C dX5_hasBehindDrawn_39 (tgt := 99) (by decide) (fun c => ?_) (fun c => ?_)
      · replace h := h.1 c
        refine v_aload C 2 dX5_hasBehindDrawn_99 rfl ?_
        refine fX5_0_g_has C hp_v4_30 dX5_hasBehindDrawn_101 ?_
        refine v_iload_n C 0 dX5_hasBehindDrawn_104 rfl rfl ?_
        obtain ⟨hi10, h⟩ := h
        refine v_iald (k := (v4_30 + 5)) C (xlt_c hp_v4_30 (by decide)) (sh_ca (ca_of hp_v4_30 (by decide) (by decide)) _) hi10 dX5_hasBehindDrawn_105 ?_
        exact hR _ _ _ _ h dX5_hasBehindDrawn_106
      · replace h := h.2 c
        refine v_iload C 4 dX5_hasBehindDrawn_42 rfl ?_
        refine v_ldc C (v := (1103515245 : Int32)) (gdm 720 (by decide +kernel) (by decide +kernel)) dX5_hasBehindDrawn_44 ?_
        refine v_imul C dX5_hasBehindDrawn_46 ?_
        refine v_sipush C dX5_hasBehindDrawn_47 (v := (12345 : Int32)) (by decide) ?_
        refine v_iadd C dX5_hasBehindDrawn_50 ?_
        refine v_nmi (fun x11 ex11 => ?_)
        replace h := h x11 ex11
        refine v_istore (lv' := [(6, .int x11), (2, .int v2_30), (3, .int v3_30), (4, .ref (a v4_30)), (5, .int v5_30), (7, .int v7_30)]) C dX5_hasBehindDrawn_51 (by decide) rfl ?_
        refine v_iload C 0 dX5_hasBehindDrawn_53 rfl ?_
        refine v_bipush C dX5_hasBehindDrawn_55 (v := (9 : Int32)) (by decide) ?_
        refine v_iushr C dX5_hasBehindDrawn_57 ?_
        refine v_iload C 4 dX5_hasBehindDrawn_58 rfl ?_
        obtain ⟨hz12, h⟩ := h
        refine v_irem C dX5_hasBehindDrawn_60 hz12 ?_
        refine v_nmi (fun x13 ex13 => ?_)
        replace h := h x13 ex13
        refine v_istore (lv' := [(8, .int x13), (6, .int x11), (2, .int v2_30), (3, .int v3_30), (4, .ref (a v4_30)), (5, .int v5_30), (7, .int v7_30)]) C dX5_hasBehindDrawn_61 (by decide) rfl ?_
        refine v_iconst C dX5_hasBehindDrawn_63 (v := (1 : Int32)) (by decide) ?_
        refine v_iload C 1 dX5_hasBehindDrawn_64 rfl ?_
        refine v_bipush C dX5_hasBehindDrawn_66 (v := (17 : Int32)) (by decide) ?_
        refine v_iushr C dX5_hasBehindDrawn_68 ?_
        refine v_iload C 5 dX5_hasBehindDrawn_69 rfl ?_
        refine v_iconst C dX5_hasBehindDrawn_71 (v := (1 : Int32)) (by decide) ?_
        refine v_isub C dX5_hasBehindDrawn_72 ?_
        obtain ⟨hz14, h⟩ := h
        refine v_irem C dX5_hasBehindDrawn_73 hz14 ?_
        refine v_iadd C dX5_hasBehindDrawn_74 ?_
        refine v_nmi (fun x15 ex15 => ?_)
        replace h := h x15 ex15
        refine v_istore (lv' := [(9, .int x15), (8, .int x13), (6, .int x11), (2, .int v2_30), (3, .int v3_30), (4, .ref (a v4_30)), (5, .int v5_30), (7, .int v7_30)]) C dX5_hasBehindDrawn_75 (by decide) rfl ?_
        refine v_aload C 5 dX5_hasBehindDrawn_77 rfl ?_
        refine v_iload C 1 dX5_hasBehindDrawn_79 rfl ?_
        refine v_iload C 1 dX5_hasBehindDrawn_81 rfl ?_
        refine v_iload C 0 dX5_hasBehindDrawn_83 rfl ?_
        refine v_iadd C dX5_hasBehindDrawn_85 ?_
        refine v_iload C 6 dX5_hasBehindDrawn_86 rfl ?_
        obtain ⟨hz16, h⟩ := h
        refine v_irem C dX5_hasBehindDrawn_88 hz16 ?_
        refine v_callVi (k := v4_30) (As := [.int x13, .int ((x13 + x15) - (x13 + x15) / v5_30 * v5_30)]) (rest := []) C (c0_meet hp_v4_30 h) eX5_137 (by omega) (by omega) (xlt_c (j := 0) hp_v4_30 (by decide)) (sh_c0 hp_v4_30 _) rfl rfl rfl (Nat.le_of_ble_eq_true rfl) dX5_hasBehindDrawn_89 (fun r18 M17 h => ?_)
        refine v_pop C dX5_hasBehindDrawn_92 rfl ?_
        obtain ⟨x19, ex19⟩ : ∃ z : Int32, z = v7_30 + (1 : Int32) := ⟨_, rfl⟩
        replace h := h x19 ex19
        refine v_iinc (v := x19) (lv' := [(7, .int x19), (9, .int x15), (8, .int x13), (6, .int x11), (2, .int v2_30), (3, .int v3_30), (4, .ref (a v4_30)), (5, .int v5_30)]) C 7 dX5_hasBehindDrawn_93 rfl (by rw [ex19]; rfl) (by decide) rfl ?_
        refine v_goto C dX5_hasBehindDrawn_96 (tgt := 30) (by decide) ?_
        refine v_sub [4, 5, 6, 7, 3, 0] rfl ?_
        exact ih M17 v2_30 v3_30 v4_30 v5_30 x11 x19 hp_v4_30 h
def w5_hasBehindDrawn (g : GX) (M : S0) (p1 : Int32) (p2 : Int32) (p3 : Int32) (Q : Int32 → S0 → Prop) : Prop :=
    w5_think g M (fun r2 M1 => ((r2 = none) → (False)) ∧ (∀ k3 : Nat, r2 = some k3 → ((isClub k3) ∧ (w0_isPlayer g k3 M1 p2 (fun r6 M5 => ((¬ r6 = 0) → (∀ x7 : Int32, x7 = (M5 k3 7) → (∃ n8, w5_hasBehindDrawn_b30 g  Q n8 M5 p2 p3 k3 x7 p1 (0 : Int32)))) ∧ ((r6 = 0) → (Q (0 : Int32) M5)))))))
set_option maxHeartbeats 4000000 in
set_option maxRecDepth 20000 in
theorem c5_hasBehindDrawn {B : BX} {a : Nat → Nat} {g : GX} {M : S0} {p1 : Int32} {p2 : Int32} {p3 : Int32} {Q : Int32 → S0 → Prop} (h : w5_hasBehindDrawn g M p1 p2 p3 Q) : KI B (wl (66 + 3 * g.2) a (shX B.2.1 a g.1)) yX5_hasBehindDrawn cX5_hasBehindDrawn 10 (some .int) 5 120 [.ref (a 0), .int p1, .int p2, .int p3] M Q := by
  rw [w5_hasBehindDrawn] at h
  refine KI_of (by decide +kernel) (Nat.le_of_ble_eq_true rfl) (fun E C hR => ?_)
  change V B E 10 (wl (66 + 3 * g.2) a (shX B.2.1 a g.1) M) 0 [(0, .ref (a 0)), (1, .int p1), (2, .int p2), (3, .int p3)] []
  change Ok B E cX5_hasBehindDrawn 10 RX5 5 120 at C
  refine v_aload_n C 0 dX5_hasBehindDrawn_0 rfl rfl ?_
  refine v_callVa (k := 0) (As := []) (rest := []) C (c5_think  h) eX5_133 (by omega) (by omega) (by omega) rfl rfl rfl rfl (Nat.le_of_ble_eq_true rfl) dX5_hasBehindDrawn_1 (fun r2 M1 h => ?_)
  rcases r2 with _ | k3
  · replace h := h.1 rfl
    change V _ _ _ _ _ _ (.null :: _)
    exact h.elim
  · replace h := h.2 k3 rfl
    change V _ _ _ _ _ _ (.ref (a k3) :: _)
    refine v_astore (lv' := [(4, .ref (a k3)), (0, .ref (a 0)), (1, .int p1), (2, .int p2), (3, .int p3)]) C dX5_hasBehindDrawn_4 (by decide) rfl ?_
    refine v_aload C 0 dX5_hasBehindDrawn_6 rfl ?_
    refine v_iload_n C 3 dX5_hasBehindDrawn_8 rfl rfl ?_
    obtain ⟨hf4, h⟩ := h
    refine v_callVi (k := k3) (As := [.int p2]) (rest := []) C (c0_isPlayer hf4 h) eX5_90 (by omega) (by omega) (xlt_c (j := 0) hf4 (by decide)) (sh_c0 hf4 _) rfl rfl rfl (Nat.le_of_ble_eq_true rfl) dX5_hasBehindDrawn_9 (fun r6 M5 h => ?_)
    refine v_if_ne C dX5_hasBehindDrawn_12 (tgt := 17) (by decide) (fun c => ?_) (fun c => ?_)
    · replace h := h.1 c
      refine v_aload C 0 dX5_hasBehindDrawn_17 rfl ?_
      refine fX5_0_g_many C hf4 dX5_hasBehindDrawn_19 ?_
      refine v_nmi (fun x7 ex7 => ?_)
      replace h := h x7 ex7
      refine v_istore (lv' := [(5, .int x7), (4, .ref (a k3)), (0, .ref (a 0)), (1, .int p1), (2, .int p2), (3, .int p3)]) C dX5_hasBehindDrawn_22 (by decide) rfl ?_
      refine v_iload_n C 3 dX5_hasBehindDrawn_24 rfl rfl ?_
      refine v_istore (lv' := [(6, .int p1), (5, .int x7), (4, .ref (a k3)), (0, .ref (a 0)), (1, .int p1), (2, .int p2), (3, .int p3)]) C dX5_hasBehindDrawn_25 (by decide) rfl ?_
      refine v_iconst C dX5_hasBehindDrawn_27 (v := (0 : Int32)) (by decide) ?_
      refine v_istore (lv' := [(7, .int (0 : Int32)), (6, .int p1), (5, .int x7), (4, .ref (a k3)), (0, .ref (a 0)), (1, .int p1), (2, .int p2), (3, .int p3)]) C dX5_hasBehindDrawn_28 (by decide) rfl ?_
      obtain ⟨n8, h⟩ := h
      refine v_sub [6, 7, 3, 2, 1, 0] rfl ?_
      exact t5_hasBehindDrawn_b30   C hR  n8 M5 p2 p3 k3 x7 p1 (0 : Int32) hf4 h
    · replace h := h.2 c
      refine v_iconst C dX5_hasBehindDrawn_15 (v := (0 : Int32)) (by decide) ?_
      exact hR _ _ _ _ h dX5_hasBehindDrawn_16
def w5_drawn (g : GX) (M : S0) (p1 : Int32) (p2 : Int32) (p3 : Int32) (Q : Int32 → S0 → Prop) : Prop :=
    w0_isPlayer g 10 M p2 (fun r2 M1 => ((r2 = 0) → (Q (-2 : Int32) M1)) ∧ ((¬ r2 = 0) → (w5_isWithin g M1 p3 (0 : Int32) (60 : Int32) (fun r4 M3 => ((¬ r4 = 0) → (w5_hasBehindDrawn g M3 p1 p2 p3 (fun r6 M5 => Q r6 M5))) ∧ ((r4 = 0) → (Q (-2 : Int32) M3))))))
set_option maxHeartbeats 4000000 in
set_option maxRecDepth 20000 in
theorem c5_drawn {B : BX} {a : Nat → Nat} {g : GX} {M : S0} {p1 : Int32} {p2 : Int32} {p3 : Int32} {Q : Int32 → S0 → Prop} (h : w5_drawn g M p1 p2 p3 Q) : KI B (wl (66 + 3 * g.2) a (shX B.2.1 a g.1)) yX5_drawn cX5_drawn 4 (some .int) 6 149 [.ref (a 0), .int p1, .int p2, .int p3] M Q := by
  rw [w5_drawn] at h
  refine KI_of (by decide +kernel) (Nat.le_of_ble_eq_true rfl) (fun E C hR => ?_)
  change V B E 4 (wl (66 + 3 * g.2) a (shX B.2.1 a g.1) M) 0 [(0, .ref (a 0)), (1, .int p1), (2, .int p2), (3, .int p3)] []
  change Ok B E cX5_drawn 4 RX5 6 149 at C
  refine v_aload_n C 0 dX5_drawn_0 rfl rfl ?_
  refine fX5_5_g_now C dX5_drawn_1 ?_
  refine v_iload_n C 2 dX5_drawn_4 rfl rfl ?_
  refine v_callVi (k := 10) (As := [.int p2]) (rest := []) C (c0_isPlayer cl_10 h) eX5_90 (by omega) (by omega) (xlt_c (j := 0) cl_10 (by decide)) (sh_c0 cl_10 _) rfl rfl rfl (Nat.le_of_ble_eq_true rfl) dX5_drawn_5 (fun r2 M1 h => ?_)
  refine v_if_eq C dX5_drawn_8 (tgt := 21) (by decide) (fun c => ?_) (fun c => ?_)
  · replace h := h.1 c
    refine v_bipush C dX5_drawn_21 (v := (-2 : Int32)) (by decide) ?_
    exact hR _ _ _ _ h dX5_drawn_23
  · replace h := h.2 c
    refine v_iload_n C 3 dX5_drawn_11 rfl rfl ?_
    refine v_iconst C dX5_drawn_12 (v := (0 : Int32)) (by decide) ?_
    refine v_bipush C dX5_drawn_13 (v := (60 : Int32)) (by decide) ?_
    refine v_callSi (As := [.int p3, .int (0 : Int32), .int (60 : Int32)]) (rest := []) C (c5_isWithin  h) eX5_82 (by omega) (by omega) rfl rfl (Nat.le_of_ble_eq_true rfl) dX5_drawn_15 (fun r4 M3 h => ?_)
    refine v_if_ne C dX5_drawn_18 (tgt := 24) (by decide) (fun c => ?_) (fun c => ?_)
    · replace h := h.1 c
      refine v_aload_n C 0 dX5_drawn_24 rfl rfl ?_
      refine v_iload_n C 1 dX5_drawn_25 rfl rfl ?_
      refine v_iload_n C 2 dX5_drawn_26 rfl rfl ?_
      refine v_iload_n C 3 dX5_drawn_27 rfl rfl ?_
      refine v_callVi (k := 0) (As := [.int p1, .int p2, .int p3]) (rest := []) C (c5_hasBehindDrawn  h) eX5_248 (by omega) (by omega) (by omega) rfl rfl rfl rfl (Nat.le_of_ble_eq_true rfl) dX5_drawn_28 (fun r6 M5 h => ?_)
      exact hR _ _ _ _ h dX5_drawn_31
    · replace h := h.2 c
      refine v_bipush C dX5_drawn_21 (v := (-2 : Int32)) (by decide) ?_
      exact hR _ _ _ _ h dX5_drawn_23
def w5_partOfLowest_b2 (g : GX) (Q : Int32 → S0 → Prop) : Nat → S0 → Int32 → Int32 → Int32 → Int32 → Prop
  | 0, _, _, _, _, _ => False
  | n + 1, M, v0_2, v1_2, v2_2, v3_2 =>
    ((v3_2 ≤ 0) → (Q (-1 : Int32) M)) ∧ ((¬ v3_2 ≤ 0) → ((¬ v3_2 = 0) ∧ (((¬ (v1_2 - v1_2 / v3_2 * v3_2) = 0) → (∀ x3 : Int32, x3 = v3_2 + (-1 : Int32) → (w5_partOfLowest_b2 g  Q n M v0_2 v1_2 v2_2 x3))) ∧ (((v1_2 - v1_2 / v3_2 * v3_2) = 0) → ((¬ v3_2 = 0) ∧ (((¬ (v2_2 - v2_2 / v3_2 * v3_2) = 0) → (∀ x5 : Int32, x5 = v3_2 + (-1 : Int32) → (w5_partOfLowest_b2 g  Q n M v0_2 v1_2 v2_2 x5))) ∧ (((v2_2 - v2_2 / v3_2 * v3_2) = 0) → (((¬ v0_2 = 0) → ((¬ v3_2 = 0) ∧ (Q (v2_2 / v3_2) M))) ∧ ((v0_2 = 0) → ((¬ v3_2 = 0) ∧ (Q (v1_2 / v3_2) M)))))))))))
set_option maxHeartbeats 4000000 in
set_option maxRecDepth 20000 in
theorem t5_partOfLowest_b2 {B : BX} {E : EX} {a : Nat → Nat} {g : GX} {Q : Int32 → S0 → Prop} (C : Ok B E cX5_partOfLowest 4 RX5 0 0) (hR : RetI B E cX5_partOfLowest 4 (wl (66 + 3 * g.2) a (shX B.2.1 a g.1)) Q) : ∀ (n : Nat) (M : S0) (v0_2 : Int32) (v1_2 : Int32) (v2_2 : Int32) (v3_2 : Int32), w5_partOfLowest_b2 g  Q n M v0_2 v1_2 v2_2 v3_2 → V B E 4 (wl (66 + 3 * g.2) a (shX B.2.1 a g.1) M) 2 [(0, .int v0_2), (1, .int v1_2), (2, .int v2_2), (3, .int v3_2)] [] := by
  intro n
  induction n with
  | zero =>
    intro M v0_2 v1_2 v2_2 v3_2  h
    exact h.elim
  | succ n ih =>
    intro M v0_2 v1_2 v2_2 v3_2  h
    rw [w5_partOfLowest_b2] at h
    refine v_iload_n C 3 dX5_partOfLowest_2 rfl rfl ?_
    refine v_if_le C dX5_partOfLowest_3 (tgt := 38) (by decide) (fun c => ?_) (fun c => ?_)
    · replace h := h.1 c
      refine v_iconst C dX5_partOfLowest_38 (v := (-1 : Int32)) (by decide) ?_
      exact hR _ _ _ _ h dX5_partOfLowest_39
    · replace h := h.2 c
      refine v_iload_n C 1 dX5_partOfLowest_6 rfl rfl ?_
      refine v_iload_n C 3 dX5_partOfLowest_7 rfl rfl ?_
      obtain ⟨hz2, h⟩ := h
      refine v_irem C dX5_partOfLowest_8 hz2 ?_
      refine v_if_ne C dX5_partOfLowest_9 (tgt := 32) (by decide) (fun c => ?_) (fun c => ?_)
      · replace h := h.1 c
        obtain ⟨x3, ex3⟩ : ∃ z : Int32, z = v3_2 + (-1 : Int32) := ⟨_, rfl⟩
        replace h := h x3 ex3
        refine v_iinc (v := x3) (lv' := [(3, .int x3), (0, .int v0_2), (1, .int v1_2), (2, .int v2_2)]) C 3 dX5_partOfLowest_32 rfl (by rw [ex3]; rfl) (by decide) rfl ?_
        refine v_goto C dX5_partOfLowest_35 (tgt := 2) (by decide) ?_
        refine v_sub [1, 2, 3, 0] rfl ?_
        exact ih M v0_2 v1_2 v2_2 x3  h
      · replace h := h.2 c
        refine v_iload_n C 2 dX5_partOfLowest_12 rfl rfl ?_
        refine v_iload_n C 3 dX5_partOfLowest_13 rfl rfl ?_
        obtain ⟨hz4, h⟩ := h
        refine v_irem C dX5_partOfLowest_14 hz4 ?_
        refine v_if_ne C dX5_partOfLowest_15 (tgt := 32) (by decide) (fun c => ?_) (fun c => ?_)
        · replace h := h.1 c
          obtain ⟨x5, ex5⟩ : ∃ z : Int32, z = v3_2 + (-1 : Int32) := ⟨_, rfl⟩
          replace h := h x5 ex5
          refine v_iinc (v := x5) (lv' := [(3, .int x5), (0, .int v0_2), (1, .int v1_2), (2, .int v2_2)]) C 3 dX5_partOfLowest_32 rfl (by rw [ex5]; rfl) (by decide) rfl ?_
          refine v_goto C dX5_partOfLowest_35 (tgt := 2) (by decide) ?_
          refine v_sub [1, 2, 3, 0] rfl ?_
          exact ih M v0_2 v1_2 v2_2 x5  h
        · replace h := h.2 c
          refine v_iload_n C 0 dX5_partOfLowest_18 rfl rfl ?_
          refine v_if_ne C dX5_partOfLowest_19 (tgt := 28) (by decide) (fun c => ?_) (fun c => ?_)
          · replace h := h.1 c
            refine v_iload_n C 2 dX5_partOfLowest_28 rfl rfl ?_
            refine v_iload_n C 3 dX5_partOfLowest_29 rfl rfl ?_
            obtain ⟨hz6, h⟩ := h
            refine v_idiv C dX5_partOfLowest_30 hz6 ?_
            exact hR _ _ _ _ h dX5_partOfLowest_31
          · replace h := h.2 c
            refine v_iload_n C 1 dX5_partOfLowest_22 rfl rfl ?_
            refine v_iload_n C 3 dX5_partOfLowest_23 rfl rfl ?_
            obtain ⟨hz7, h⟩ := h
            refine v_idiv C dX5_partOfLowest_24 hz7 ?_
            refine v_goto C dX5_partOfLowest_25 (tgt := 31) (by decide) ?_
            exact hR _ _ _ _ h dX5_partOfLowest_31
def w5_partOfLowest (g : GX) (M : S0) (p1 : Int32) (p2 : Int32) (p3 : Int32) (Q : Int32 → S0 → Prop) : Prop :=
    ∃ n1, w5_partOfLowest_b2 g  Q n1 M p1 p2 p3 p3
set_option maxHeartbeats 4000000 in
set_option maxRecDepth 20000 in
theorem c5_partOfLowest {B : BX} {a : Nat → Nat} {g : GX} {M : S0} {p1 : Int32} {p2 : Int32} {p3 : Int32} {Q : Int32 → S0 → Prop} (h : w5_partOfLowest g M p1 p2 p3 Q) : KI B (wl (66 + 3 * g.2) a (shX B.2.1 a g.1)) yX5_partOfLowest cX5_partOfLowest 4 (some .int) 0 0 [.int p1, .int p2, .int p3] M Q := by
  rw [w5_partOfLowest] at h
  refine KI_of (by decide +kernel) (Nat.le_of_ble_eq_true rfl) (fun E C hR => ?_)
  change V B E 4 (wl (66 + 3 * g.2) a (shX B.2.1 a g.1) M) 0 [(0, .int p1), (1, .int p2), (2, .int p3)] []
  change Ok B E cX5_partOfLowest 4 RX5 0 0 at C
  refine v_iload_n C 2 dX5_partOfLowest_0 rfl rfl ?_
  refine v_istore_n (lv' := [(3, .int p3), (0, .int p1), (1, .int p2), (2, .int p3)]) C dX5_partOfLowest_1 rfl (by decide) rfl ?_
  obtain ⟨n1, h⟩ := h
  refine v_sub [1, 2, 3, 0] rfl ?_
  exact t5_partOfLowest_b2   C hR  n1 M p1 p2 p3 p3  h
def w5_chance_b56 (g : GX) (Q : Int64 → S0 → Prop) : Nat → S0 → Int32 → Int32 → Int32 → Int32 → Int32 → Int32 → Int32 → Prop
  | 0, _, _, _, _, _, _, _, _ => False
  | n + 1, M, v1_56, v2_56, v3_56, v4_56, v5_56, v6_56, v7_56 =>
    ((v2_56 ≤ v7_56) → (w5_partOfLowest g M v5_56 v6_56 v2_56 (fun r11 M10 => Q (Int32.toInt64 r11) M10))) ∧ ((¬ v2_56 ≤ v7_56) → (w5_hasBehindDrawn g M (v1_56 + v7_56) v3_56 (6 : Int32) (fun r13 M12 => wb6_bitCount_0f7a4 g M12 r13 (fun r15 M14 => ((r15 < v4_56) → (∀ x16 : Int32, x16 = v7_56 + (1 : Int32) → (w5_chance_b56 g  Q n M14 v1_56 v2_56 v3_56 v4_56 v5_56 v6_56 x16))) ∧ ((¬ r15 < v4_56) → (∀ x17 : Int32, x17 = v6_56 + (1 : Int32) → (∀ x18 : Int32, x18 = v7_56 + (1 : Int32) → (w5_chance_b56 g  Q n M14 v1_56 v2_56 v3_56 v4_56 v5_56 x17 x18))))))))
set_option maxHeartbeats 4000000 in
set_option maxRecDepth 20000 in
theorem t5_chance_b56 {B : BX} {E : EX} {a : Nat → Nat} {g : GX} {Q : Int64 → S0 → Prop} (C : Ok B E cX5_chance 8 RX5 6 149) (hR : RetL B E cX5_chance 8 (wl (66 + 3 * g.2) a (shX B.2.1 a g.1)) Q) : ∀ (n : Nat) (M : S0) (v1_56 : Int32) (v2_56 : Int32) (v3_56 : Int32) (v4_56 : Int32) (v5_56 : Int32) (v6_56 : Int32) (v7_56 : Int32), w5_chance_b56 g  Q n M v1_56 v2_56 v3_56 v4_56 v5_56 v6_56 v7_56 → V B E 8 (wl (66 + 3 * g.2) a (shX B.2.1 a g.1) M) 56 [(0, .ref (a 0)), (1, .int v1_56), (2, .int v2_56), (3, .int v3_56), (4, .int v4_56), (5, .int v5_56), (6, .int v6_56), (7, .int v7_56)] [] := by
  intro n
  induction n with
  | zero =>
    intro M v1_56 v2_56 v3_56 v4_56 v5_56 v6_56 v7_56  h
    exact h.elim
  | succ n ih =>
    intro M v1_56 v2_56 v3_56 v4_56 v5_56 v6_56 v7_56  h
    rw [w5_chance_b56] at h
    refine v_iload C 7 dX5_chance_56 rfl ?_
    refine v_iload_n C 2 dX5_chance_58 rfl rfl ?_
    refine v_icmp_ge C dX5_chance_59 (tgt := 90) (by decide) (fun c => ?_) (fun c => ?_)
    · replace h := h.1 c
      refine v_iload C 5 dX5_chance_90 rfl ?_
      refine v_iload C 6 dX5_chance_92 rfl ?_
      refine v_iload_n C 2 dX5_chance_94 rfl rfl ?_
      refine v_callSi (As := [.int v5_56, .int v6_56, .int v2_56]) (rest := []) C (c5_partOfLowest  h) eX5_260 (by omega) (by omega) rfl rfl (Nat.le_of_ble_eq_true rfl) dX5_chance_95 (fun r11 M10 h => ?_)
      refine v_i2l C dX5_chance_98 ?_
      exact hR _ _ _ _ h dX5_chance_99
    · replace h := h.2 c
      refine v_aload_n C 0 dX5_chance_62 rfl rfl ?_
      refine v_iload_n C 1 dX5_chance_63 rfl rfl ?_
      refine v_iload C 7 dX5_chance_64 rfl ?_
      refine v_iadd C dX5_chance_66 ?_
      refine v_iload_n C 3 dX5_chance_67 rfl rfl ?_
      refine v_bipush C dX5_chance_68 (v := (6 : Int32)) (by decide) ?_
      refine v_callVi (k := 0) (As := [.int (v1_56 + v7_56), .int v3_56, .int (6 : Int32)]) (rest := []) C (c5_hasBehindDrawn  h) eX5_248 (by omega) (by omega) (by omega) rfl rfl rfl rfl (Nat.le_of_ble_eq_true rfl) dX5_chance_70 (fun r13 M12 h => ?_)
      refine v_callSi (As := [.int r13]) (rest := []) C (cb6_bitCount_0f7a4  h) eX5_255 (by omega) (by omega) rfl rfl (Nat.le_of_ble_eq_true rfl) dX5_chance_73 (fun r15 M14 h => ?_)
      refine v_iload C 4 dX5_chance_76 rfl ?_
      refine v_icmp_lt C dX5_chance_78 (tgt := 84) (by decide) (fun c => ?_) (fun c => ?_)
      · replace h := h.1 c
        obtain ⟨x16, ex16⟩ : ∃ z : Int32, z = v7_56 + (1 : Int32) := ⟨_, rfl⟩
        replace h := h x16 ex16
        refine v_iinc (v := x16) (lv' := [(7, .int x16), (0, .ref (a 0)), (1, .int v1_56), (2, .int v2_56), (3, .int v3_56), (4, .int v4_56), (5, .int v5_56), (6, .int v6_56)]) C 7 dX5_chance_84 rfl (by rw [ex16]; rfl) (by decide) rfl ?_
        refine v_goto C dX5_chance_87 (tgt := 56) (by decide) ?_
        refine v_sub [1, 2, 3, 4, 5, 6, 7, 0] rfl ?_
        exact ih M14 v1_56 v2_56 v3_56 v4_56 v5_56 v6_56 x16  h
      · replace h := h.2 c
        obtain ⟨x17, ex17⟩ : ∃ z : Int32, z = v6_56 + (1 : Int32) := ⟨_, rfl⟩
        replace h := h x17 ex17
        refine v_iinc (v := x17) (lv' := [(6, .int x17), (0, .ref (a 0)), (1, .int v1_56), (2, .int v2_56), (3, .int v3_56), (4, .int v4_56), (5, .int v5_56), (7, .int v7_56)]) C 6 dX5_chance_81 rfl (by rw [ex17]; rfl) (by decide) rfl ?_
        obtain ⟨x18, ex18⟩ : ∃ z : Int32, z = v7_56 + (1 : Int32) := ⟨_, rfl⟩
        replace h := h x18 ex18
        refine v_iinc (v := x18) (lv' := [(7, .int x18), (6, .int x17), (0, .ref (a 0)), (1, .int v1_56), (2, .int v2_56), (3, .int v3_56), (4, .int v4_56), (5, .int v5_56)]) C 7 dX5_chance_84 rfl (by rw [ex18]; rfl) (by decide) rfl ?_
        refine v_goto C dX5_chance_87 (tgt := 56) (by decide) ?_
        refine v_sub [2, 3, 4, 5, 6, 7, 1, 0] rfl ?_
        exact ih M14 v1_56 v2_56 v3_56 v4_56 v5_56 x17 x18  h
def w5_chance (g : GX) (M : S0) (p1 : Int32) (p2 : Int32) (p3 : Int32) (p4 : Int32) (p5 : Int32) (Q : Int64 → S0 → Prop) : Prop :=
    w5_isWithin g M p2 (1 : Int32) (20 : Int32) (fun r2 M1 => ((r2 = 0) → (Q (-4611686018427387904 : Int64) M1)) ∧ ((¬ r2 = 0) → (w0_isPlayer g 10 M1 p3 (fun r4 M3 => ((¬ r4 = 0) → (w5_isWithin g M3 p4 (0 : Int32) (8 : Int32) (fun r6 M5 => ((r6 = 0) → (Q (-4611686018427387904 : Int64) M5)) ∧ ((¬ r6 = 0) → (w5_isWithin g M5 p5 (0 : Int32) (1 : Int32) (fun r8 M7 => ((¬ r8 = 0) → (∃ n9, w5_chance_b56 g  Q n9 M7 p1 p2 p3 p4 p5 (0 : Int32) (0 : Int32))) ∧ ((r8 = 0) → (Q (-4611686018427387904 : Int64) M7)))))))) ∧ ((r4 = 0) → (Q (-4611686018427387904 : Int64) M3))))))
set_option maxHeartbeats 4000000 in
set_option maxRecDepth 20000 in
theorem c5_chance {B : BX} {a : Nat → Nat} {g : GX} {M : S0} {p1 : Int32} {p2 : Int32} {p3 : Int32} {p4 : Int32} {p5 : Int32} {Q : Int64 → S0 → Prop} (h : w5_chance g M p1 p2 p3 p4 p5 Q) : KL B (wl (66 + 3 * g.2) a (shX B.2.1 a g.1)) yX5_chance cX5_chance 8 (some .long) 6 149 [.ref (a 0), .int p1, .int p2, .int p3, .int p4, .int p5] M Q := by
  rw [w5_chance] at h
  refine KL_of (by decide +kernel) (Nat.le_of_ble_eq_true rfl) (fun E C hR => ?_)
  change V B E 8 (wl (66 + 3 * g.2) a (shX B.2.1 a g.1) M) 0 [(0, .ref (a 0)), (1, .int p1), (2, .int p2), (3, .int p3), (4, .int p4), (5, .int p5)] []
  change Ok B E cX5_chance 8 RX5 6 149 at C
  refine v_iload_n C 2 dX5_chance_0 rfl rfl ?_
  refine v_iconst C dX5_chance_1 (v := (1 : Int32)) (by decide) ?_
  refine v_bipush C dX5_chance_2 (v := (20 : Int32)) (by decide) ?_
  refine v_callSi (As := [.int p2, .int (1 : Int32), .int (20 : Int32)]) (rest := []) C (c5_isWithin  h) eX5_82 (by omega) (by omega) rfl rfl (Nat.le_of_ble_eq_true rfl) dX5_chance_4 (fun r2 M1 h => ?_)
  refine v_if_eq C dX5_chance_7 (tgt := 21) (by decide) (fun c => ?_) (fun c => ?_)
  · replace h := h.1 c
    refine v_ldc2 C (v := (-4611686018427387904 : Int64)) (gdm 725 (by decide +kernel) (by decide +kernel)) dX5_chance_21 ?_
    exact hR _ _ _ _ h dX5_chance_24
  · replace h := h.2 c
    refine v_aload_n C 0 dX5_chance_10 rfl rfl ?_
    refine fX5_5_g_now C dX5_chance_11 ?_
    refine v_iload_n C 3 dX5_chance_14 rfl rfl ?_
    refine v_callVi (k := 10) (As := [.int p3]) (rest := []) C (c0_isPlayer cl_10 h) eX5_90 (by omega) (by omega) (xlt_c (j := 0) cl_10 (by decide)) (sh_c0 cl_10 _) rfl rfl rfl (Nat.le_of_ble_eq_true rfl) dX5_chance_15 (fun r4 M3 h => ?_)
    refine v_if_ne C dX5_chance_18 (tgt := 25) (by decide) (fun c => ?_) (fun c => ?_)
    · replace h := h.1 c
      refine v_iload C 4 dX5_chance_25 rfl ?_
      refine v_iconst C dX5_chance_27 (v := (0 : Int32)) (by decide) ?_
      refine v_bipush C dX5_chance_28 (v := (8 : Int32)) (by decide) ?_
      refine v_callSi (As := [.int p4, .int (0 : Int32), .int (8 : Int32)]) (rest := []) C (c5_isWithin  h) eX5_82 (by omega) (by omega) rfl rfl (Nat.le_of_ble_eq_true rfl) dX5_chance_30 (fun r6 M5 h => ?_)
      refine v_if_eq C dX5_chance_33 (tgt := 46) (by decide) (fun c => ?_) (fun c => ?_)
      · replace h := h.1 c
        refine v_ldc2 C (v := (-4611686018427387904 : Int64)) (gdm 725 (by decide +kernel) (by decide +kernel)) dX5_chance_46 ?_
        exact hR _ _ _ _ h dX5_chance_49
      · replace h := h.2 c
        refine v_iload C 5 dX5_chance_36 rfl ?_
        refine v_iconst C dX5_chance_38 (v := (0 : Int32)) (by decide) ?_
        refine v_iconst C dX5_chance_39 (v := (1 : Int32)) (by decide) ?_
        refine v_callSi (As := [.int p5, .int (0 : Int32), .int (1 : Int32)]) (rest := []) C (c5_isWithin  h) eX5_82 (by omega) (by omega) rfl rfl (Nat.le_of_ble_eq_true rfl) dX5_chance_40 (fun r8 M7 h => ?_)
        refine v_if_ne C dX5_chance_43 (tgt := 50) (by decide) (fun c => ?_) (fun c => ?_)
        · replace h := h.1 c
          refine v_iconst C dX5_chance_50 (v := (0 : Int32)) (by decide) ?_
          refine v_istore (lv' := [(6, .int (0 : Int32)), (0, .ref (a 0)), (1, .int p1), (2, .int p2), (3, .int p3), (4, .int p4), (5, .int p5)]) C dX5_chance_51 (by decide) rfl ?_
          refine v_iconst C dX5_chance_53 (v := (0 : Int32)) (by decide) ?_
          refine v_istore (lv' := [(7, .int (0 : Int32)), (6, .int (0 : Int32)), (0, .ref (a 0)), (1, .int p1), (2, .int p2), (3, .int p3), (4, .int p4), (5, .int p5)]) C dX5_chance_54 (by decide) rfl ?_
          obtain ⟨n9, h⟩ := h
          refine v_sub [2, 3, 4, 5, 6, 7, 1, 0] rfl ?_
          exact t5_chance_b56   C hR  n9 M7 p1 p2 p3 p4 p5 (0 : Int32) (0 : Int32)  h
        · replace h := h.2 c
          refine v_ldc2 C (v := (-4611686018427387904 : Int64)) (gdm 725 (by decide +kernel) (by decide +kernel)) dX5_chance_46 ?_
          exact hR _ _ _ _ h dX5_chance_49
    · replace h := h.2 c
      refine v_ldc2 C (v := (-4611686018427387904 : Int64)) (gdm 725 (by decide +kernel) (by decide +kernel)) dX5_chance_21 ?_
      exact hR _ _ _ _ h dX5_chance_24
def w5_image (g : GX) (M : S0) (Q : Int32 → S0 → Prop) : Prop :=
    w0_takes g 16 10 M (fun M1 => ∀ M2 : S0, M2 = up M1 0 4 (1 : Int32) → (Q (M2 10 7) M2))
set_option maxHeartbeats 4000000 in
set_option maxRecDepth 20000 in
theorem c5_image {B : BX} {a : Nat → Nat} {g : GX} {M : S0} {Q : Int32 → S0 → Prop} (h : w5_image g M  Q) : KI B (wl (66 + 3 * g.2) a (shX B.2.1 a g.1)) yX5_image cX5_image 1 (some .int) 1 22 [.ref (a 0)] M Q := by
  rw [w5_image] at h
  refine KI_of (by decide +kernel) (Nat.le_of_ble_eq_true rfl) (fun E C hR => ?_)
  change V B E 1 (wl (66 + 3 * g.2) a (shX B.2.1 a g.1) M) 0 [(0, .ref (a 0))] []
  change Ok B E cX5_image 1 RX5 1 22 at C
  refine v_aload_n C 0 dX5_image_0 rfl rfl ?_
  refine fX5_5_g_kept C dX5_image_1 ?_
  refine v_aload_n C 0 dX5_image_4 rfl rfl ?_
  refine fX5_5_g_now C dX5_image_5 ?_
  refine v_callVv (k := 16) (As := [.ref (a 10)]) (rest := []) C (c0_takes cl_16 cl_10 h) eX5_263 (by omega) (by omega) (xlt_c (j := 0) cl_16 (by decide)) (sh_c0 cl_16 _) rfl rfl rfl (Nat.le_of_ble_eq_true rfl) dX5_image_8 (fun M1 h => ?_)
  refine v_aload_n C 0 dX5_image_11 rfl rfl ?_
  refine v_iconst C dX5_image_12 (v := (1 : Int32)) (by decide) ?_
  refine fX5_5_p_isKept C rfl rfl dX5_image_13 (fun M2 eM2 => ?_)
  replace h := h M2 eM2
  refine v_aload_n C 0 dX5_image_16 rfl rfl ?_
  refine fX5_5_g_now C dX5_image_17 ?_
  refine fX5_0_g_many C cl_10 dX5_image_20 ?_
  exact hR _ _ _ _ h dX5_image_23
def w5_back (g : GX) (M : S0) (Q : Int32 → S0 → Prop) : Prop :=
    ((¬ (M 0 4) = 0) → (w0_takes g 10 16 M (fun M1 => Q (M1 10 7) M1))) ∧ (((M 0 4) = 0) → (Q (-3 : Int32) M))
set_option maxHeartbeats 4000000 in
set_option maxRecDepth 20000 in
theorem c5_back {B : BX} {a : Nat → Nat} {g : GX} {M : S0} {Q : Int32 → S0 → Prop} (h : w5_back g M  Q) : KI B (wl (66 + 3 * g.2) a (shX B.2.1 a g.1)) yX5_back cX5_back 1 (some .int) 1 22 [.ref (a 0)] M Q := by
  rw [w5_back] at h
  refine KI_of (by decide +kernel) (Nat.le_of_ble_eq_true rfl) (fun E C hR => ?_)
  change V B E 1 (wl (66 + 3 * g.2) a (shX B.2.1 a g.1) M) 0 [(0, .ref (a 0))] []
  change Ok B E cX5_back 1 RX5 1 22 at C
  refine v_aload_n C 0 dX5_back_0 rfl rfl ?_
  refine fX5_5_g_isKept C dX5_back_1 ?_
  refine v_if_ne C dX5_back_4 (tgt := 10) (by decide) (fun c => ?_) (fun c => ?_)
  · replace h := h.1 c
    refine v_aload_n C 0 dX5_back_10 rfl rfl ?_
    refine fX5_5_g_now C dX5_back_11 ?_
    refine v_aload_n C 0 dX5_back_14 rfl rfl ?_
    refine fX5_5_g_kept C dX5_back_15 ?_
    refine v_callVv (k := 10) (As := [.ref (a 16)]) (rest := []) C (c0_takes cl_10 cl_16 h) eX5_263 (by omega) (by omega) (xlt_c (j := 0) cl_10 (by decide)) (sh_c0 cl_10 _) rfl rfl rfl (Nat.le_of_ble_eq_true rfl) dX5_back_18 (fun M1 h => ?_)
    refine v_aload_n C 0 dX5_back_21 rfl rfl ?_
    refine fX5_5_g_now C dX5_back_22 ?_
    refine fX5_0_g_many C cl_10 dX5_back_25 ?_
    exact hR _ _ _ _ h dX5_back_28
  · replace h := h.2 c
    refine v_bipush C dX5_back_7 (v := (-3 : Int32)) (by decide) ?_
    exact hR _ _ _ _ h dX5_back_9
def w5_count (g : GX) (M : S0) (p1 : Int32) (Q : Int32 → S0 → Prop) : Prop :=
    ((p1.toInt = 0) → (Q (M 10 7) M)) ∧ ((p1.toInt = 1) → (w0_manyInHall g 10 M (fun r2 M1 => Q r2 M1))) ∧ ((p1.toInt = 2) → (Q (M 10 8) M)) ∧ ((p1.toInt = 3) → (Q (M 1 3) M)) ∧ ((p1.toInt = 4) → (Q (M 5 1) M)) ∧ ((p1.toInt = 5) → (Q (M 10 9) M)) ∧ ((p1.toInt < 0 ∨ 5 < p1.toInt) → (Q (-2 : Int32) M))
set_option maxHeartbeats 4000000 in
set_option maxRecDepth 20000 in
theorem c5_count {B : BX} {a : Nat → Nat} {g : GX} {M : S0} {p1 : Int32} {Q : Int32 → S0 → Prop} (h : w5_count g M p1 Q) : KI B (wl (66 + 3 * g.2) a (shX B.2.1 a g.1)) yX5_count cX5_count 2 (some .int) 2 40 [.ref (a 0), .int p1] M Q := by
  rw [w5_count] at h
  refine KI_of (by decide +kernel) (Nat.le_of_ble_eq_true rfl) (fun E C hR => ?_)
  change V B E 2 (wl (66 + 3 * g.2) a (shX B.2.1 a g.1) M) 0 [(0, .ref (a 0)), (1, .int p1)] []
  change Ok B E cX5_count 2 RX5 2 40 at C
  refine v_iload_n C 1 dX5_count_0 rfl rfl ?_
  refine v_sw C dX5_count_1 [40, 48, 56, 64, 72, 80] (by decide) (by decide) (tgt := 88) (by decide) (fun j t ht hx => ?_) (fun c => ?_)
  · match j, ht, hx with
    | 0, ht, hx =>
      obtain rfl : 40 = t := Option.some.inj ht
      replace h := h.1 (by omega)
      refine v_aload_n C 0 dX5_count_40 rfl rfl ?_
      refine fX5_5_g_now C dX5_count_41 ?_
      refine fX5_0_g_many C cl_10 dX5_count_44 ?_
      exact hR _ _ _ _ h dX5_count_47
    | 1, ht, hx =>
      obtain rfl : 48 = t := Option.some.inj ht
      replace h := h.2.1 (by omega)
      refine v_aload_n C 0 dX5_count_48 rfl rfl ?_
      refine fX5_5_g_now C dX5_count_49 ?_
      refine v_callVi (k := 10) (As := []) (rest := []) C (c0_manyInHall cl_10 h) eX5_171 (by omega) (by omega) (xlt_c (j := 0) cl_10 (by decide)) (sh_c0 cl_10 _) rfl rfl rfl (Nat.le_of_ble_eq_true rfl) dX5_count_52 (fun r2 M1 h => ?_)
      exact hR _ _ _ _ h dX5_count_55
    | 2, ht, hx =>
      obtain rfl : 56 = t := Option.some.inj ht
      replace h := h.2.2.1 (by omega)
      refine v_aload_n C 0 dX5_count_56 rfl rfl ?_
      refine fX5_5_g_now C dX5_count_57 ?_
      refine fX5_0_g_round C cl_10 dX5_count_60 ?_
      exact hR _ _ _ _ h dX5_count_63
    | 3, ht, hx =>
      obtain rfl : 64 = t := Option.some.inj ht
      replace h := h.2.2.2.1 (by omega)
      refine v_aload_n C 0 dX5_count_64 rfl rfl ?_
      refine fX5_5_g_texts C dX5_count_65 ?_
      refine fX5_4_g_many C dX5_count_68 ?_
      exact hR _ _ _ _ h dX5_count_71
    | 4, ht, hx =>
      obtain rfl : 72 = t := Option.some.inj ht
      replace h := h.2.2.2.2.1 (by omega)
      refine v_aload_n C 0 dX5_count_72 rfl rfl ?_
      refine fX5_5_g_reader C dX5_count_73 ?_
      refine fX5_1_g_size C dX5_count_76 ?_
      exact hR _ _ _ _ h dX5_count_79
    | 5, ht, hx =>
      obtain rfl : 80 = t := Option.some.inj ht
      replace h := h.2.2.2.2.2.1 (by omega)
      refine v_aload_n C 0 dX5_count_80 rfl rfl ?_
      refine fX5_5_g_now C dX5_count_81 ?_
      refine fX5_0_g_rule C cl_10 dX5_count_84 ?_
      exact hR _ _ _ _ h dX5_count_87
    | j + 6, ht, hx => simp at ht
  · replace h := h.2.2.2.2.2.2 c
    refine v_bipush C dX5_count_88 (v := (-2 : Int32)) (by decide) ?_
    exact hR _ _ _ _ h dX5_count_90
def w5_sheet (g : GX) (M : S0) (p1 : Int32) (p2 : Int32) (p3 : Int32) (Q : Int32 → S0 → Prop) : Prop :=
    w5_sheetAt g M p1 (fun r2 M1 => ((r2 = none) → (Q (-2 : Int32) M1)) ∧ (∀ k3 : Nat, r2 = some k3 → (w5_isWithin g M1 p2 (-1 : Int32) (2 : Int32) (fun r5 M4 => ((¬ r5 = 0) → (((¬ p2 = (-1 : Int32)) → (((p3 ≤ (40 : Int32)) → (((0 ≤ p3) → ((isSheet k3) ∧ (w2_becomes g k3 M4 p2 p3 (fun M7 => Q (1 : Int32) M7)))) ∧ ((¬ 0 ≤ p3) → (Q (-14 : Int32) M4)))) ∧ ((¬ p3 ≤ (40 : Int32)) → (Q (-2 : Int32) M4)))) ∧ ((p2 = (-1 : Int32)) → ((isSheet k3) ∧ (w2_becomes g k3 M4 (-1 : Int32) (0 : Int32) (fun M9 => Q (1 : Int32) M9)))))) ∧ ((r5 = 0) → (Q (-2 : Int32) M4))))))
set_option maxHeartbeats 4000000 in
set_option maxRecDepth 20000 in
theorem c5_sheet {B : BX} {a : Nat → Nat} {g : GX} {M : S0} {p1 : Int32} {p2 : Int32} {p3 : Int32} {Q : Int32 → S0 → Prop} (h : w5_sheet g M p1 p2 p3 Q) : KI B (wl (66 + 3 * g.2) a (shX B.2.1 a g.1)) yX5_sheet cX5_sheet 5 (some .int) 2 45 [.ref (a 0), .int p1, .int p2, .int p3] M Q := by
  rw [w5_sheet] at h
  refine KI_of (by decide +kernel) (Nat.le_of_ble_eq_true rfl) (fun E C hR => ?_)
  change V B E 5 (wl (66 + 3 * g.2) a (shX B.2.1 a g.1) M) 0 [(0, .ref (a 0)), (1, .int p1), (2, .int p2), (3, .int p3)] []
  change Ok B E cX5_sheet 5 RX5 2 45 at C
  refine v_aload_n C 0 dX5_sheet_0 rfl rfl ?_
  refine v_iload_n C 1 dX5_sheet_1 rfl rfl ?_
  refine v_callVa (k := 0) (As := [.int p1]) (rest := []) C (c5_sheetAt  h) eX5_155 (by omega) (by omega) (by omega) rfl rfl rfl rfl (Nat.le_of_ble_eq_true rfl) dX5_sheet_2 (fun r2 M1 h => ?_)
  rcases r2 with _ | k3
  · replace h := h.1 rfl
    change V _ _ _ _ _ _ (.null :: _)
    refine v_astoreN (lv' := [(4, .null), (0, .ref (a 0)), (1, .int p1), (2, .int p2), (3, .int p3)]) C dX5_sheet_5 (by decide) rfl ?_
    refine v_aloadN C 0 dX5_sheet_7 rfl ?_
    refine v_ifnullN C dX5_sheet_9 (tgt := 21) (by decide) ?_
    refine v_bipush C dX5_sheet_21 (v := (-2 : Int32)) (by decide) ?_
    exact hR _ _ _ _ h dX5_sheet_23
  · replace h := h.2 k3 rfl
    change V _ _ _ _ _ _ (.ref (a k3) :: _)
    refine v_astore (lv' := [(4, .ref (a k3)), (0, .ref (a 0)), (1, .int p1), (2, .int p2), (3, .int p3)]) C dX5_sheet_5 (by decide) rfl ?_
    refine v_aload C 0 dX5_sheet_7 rfl ?_
    refine v_ifnull C dX5_sheet_9 ?_
    refine v_iload_n C 3 dX5_sheet_12 rfl rfl ?_
    refine v_iconst C dX5_sheet_13 (v := (-1 : Int32)) (by decide) ?_
    refine v_iconst C dX5_sheet_14 (v := (2 : Int32)) (by decide) ?_
    refine v_callSi (As := [.int p2, .int (-1 : Int32), .int (2 : Int32)]) (rest := []) C (c5_isWithin  h) eX5_82 (by omega) (by omega) rfl rfl (Nat.le_of_ble_eq_true rfl) dX5_sheet_15 (fun r5 M4 h => ?_)
    refine v_if_ne C dX5_sheet_18 (tgt := 24) (by decide) (fun c => ?_) (fun c => ?_)
    · replace h := h.1 c
      refine v_iload_n C 3 dX5_sheet_24 rfl rfl ?_
      refine v_iconst C dX5_sheet_25 (v := (-1 : Int32)) (by decide) ?_
      refine v_icmp_ne C dX5_sheet_26 (tgt := 38) (by decide) (fun c => ?_) (fun c => ?_)
      · replace h := h.1 c
        refine v_iload_n C 4 dX5_sheet_38 rfl rfl ?_
        refine v_bipush C dX5_sheet_39 (v := (40 : Int32)) (by decide) ?_
        refine v_icmp_le C dX5_sheet_41 (tgt := 47) (by decide) (fun c => ?_) (fun c => ?_)
        · replace h := h.1 c
          refine v_iload_n C 4 dX5_sheet_47 rfl rfl ?_
          refine v_if_ge C dX5_sheet_48 (tgt := 54) (by decide) (fun c => ?_) (fun c => ?_)
          · replace h := h.1 c
            refine v_aload C 0 dX5_sheet_54 rfl ?_
            refine v_iload_n C 3 dX5_sheet_56 rfl rfl ?_
            refine v_iload_n C 4 dX5_sheet_57 rfl rfl ?_
            obtain ⟨hf6, h⟩ := h
            refine v_callVv (k := k3) (As := [.int p2, .int p3]) (rest := []) C (c2_becomes hf6 h) eX5_242 (by omega) (by omega) (xlt_s (j := 0) hf6 (by decide)) (sh_s0 hf6 _) rfl rfl rfl (Nat.le_of_ble_eq_true rfl) dX5_sheet_58 (fun M7 h => ?_)
            refine v_iconst C dX5_sheet_61 (v := (1 : Int32)) (by decide) ?_
            exact hR _ _ _ _ h dX5_sheet_62
          · replace h := h.2 c
            refine v_bipush C dX5_sheet_51 (v := (-14 : Int32)) (by decide) ?_
            exact hR _ _ _ _ h dX5_sheet_53
        · replace h := h.2 c
          refine v_bipush C dX5_sheet_44 (v := (-2 : Int32)) (by decide) ?_
          exact hR _ _ _ _ h dX5_sheet_46
      · replace h := h.2 c
        refine v_aload C 0 dX5_sheet_29 rfl ?_
        refine v_iconst C dX5_sheet_31 (v := (-1 : Int32)) (by decide) ?_
        refine v_iconst C dX5_sheet_32 (v := (0 : Int32)) (by decide) ?_
        obtain ⟨hf8, h⟩ := h
        refine v_callVv (k := k3) (As := [.int (-1 : Int32), .int (0 : Int32)]) (rest := []) C (c2_becomes hf8 h) eX5_242 (by omega) (by omega) (xlt_s (j := 0) hf8 (by decide)) (sh_s0 hf8 _) rfl rfl rfl (Nat.le_of_ble_eq_true rfl) dX5_sheet_33 (fun M9 h => ?_)
        refine v_iconst C dX5_sheet_36 (v := (1 : Int32)) (by decide) ?_
        exact hR _ _ _ _ h dX5_sheet_37
    · replace h := h.2 c
      refine v_bipush C dX5_sheet_21 (v := (-2 : Int32)) (by decide) ?_
      exact hR _ _ _ _ h dX5_sheet_23
def w5_cell (g : GX) (M : S0) (p1 : Int32) (p2 : Int32) (p3 : Int32) (Q : Int32 → S0 → Prop) : Prop :=
    w5_sheetAt g M p1 (fun r2 M1 => ((r2 = none) → (Q (-2 : Int32) M1)) ∧ (∀ k3 : Nat, r2 = some k3 → ((isSheet k3) ∧ (w2_isMissing g k3 M1 (fun r6 M5 => ((r6 = 0) → (w2_holds g k3 M5 p2 (1 : Int32) (fun r8 M7 => ((¬ r8 = 0) → (w2_put g k3 M7 p2 p3 (fun M9 => Q (1 : Int32) M9))) ∧ ((r8 = 0) → (Q (-12 : Int32) M7))))) ∧ ((¬ r6 = 0) → (Q (-11 : Int32) M5)))))))
set_option maxHeartbeats 4000000 in
set_option maxRecDepth 20000 in
theorem c5_cell {B : BX} {a : Nat → Nat} {g : GX} {M : S0} {p1 : Int32} {p2 : Int32} {p3 : Int32} {Q : Int32 → S0 → Prop} (h : w5_cell g M p1 p2 p3 Q) : KI B (wl (66 + 3 * g.2) a (shX B.2.1 a g.1)) yX5_cell cX5_cell 5 (some .int) 1 22 [.ref (a 0), .int p1, .int p2, .int p3] M Q := by
  rw [w5_cell] at h
  refine KI_of (by decide +kernel) (Nat.le_of_ble_eq_true rfl) (fun E C hR => ?_)
  change V B E 5 (wl (66 + 3 * g.2) a (shX B.2.1 a g.1) M) 0 [(0, .ref (a 0)), (1, .int p1), (2, .int p2), (3, .int p3)] []
  change Ok B E cX5_cell 5 RX5 1 22 at C
  refine v_aload_n C 0 dX5_cell_0 rfl rfl ?_
  refine v_iload_n C 1 dX5_cell_1 rfl rfl ?_
  refine v_callVa (k := 0) (As := [.int p1]) (rest := []) C (c5_sheetAt  h) eX5_155 (by omega) (by omega) (by omega) rfl rfl rfl rfl (Nat.le_of_ble_eq_true rfl) dX5_cell_2 (fun r2 M1 h => ?_)
  rcases r2 with _ | k3
  · replace h := h.1 rfl
    change V _ _ _ _ _ _ (.null :: _)
    refine v_astoreN (lv' := [(4, .null), (0, .ref (a 0)), (1, .int p1), (2, .int p2), (3, .int p3)]) C dX5_cell_5 (by decide) rfl ?_
    refine v_aloadN C 0 dX5_cell_7 rfl ?_
    refine v_ifnonnullN C dX5_cell_9 ?_
    refine v_bipush C dX5_cell_12 (v := (-2 : Int32)) (by decide) ?_
    exact hR _ _ _ _ h dX5_cell_14
  · replace h := h.2 k3 rfl
    change V _ _ _ _ _ _ (.ref (a k3) :: _)
    refine v_astore (lv' := [(4, .ref (a k3)), (0, .ref (a 0)), (1, .int p1), (2, .int p2), (3, .int p3)]) C dX5_cell_5 (by decide) rfl ?_
    refine v_aload C 0 dX5_cell_7 rfl ?_
    refine v_ifnonnull C dX5_cell_9 (tgt := 15) (by decide) ?_
    refine v_aload C 0 dX5_cell_15 rfl ?_
    obtain ⟨hf4, h⟩ := h
    refine v_callVi (k := k3) (As := []) (rest := []) C (c2_isMissing hf4 h) eX5_159 (by omega) (by omega) (xlt_s (j := 0) hf4 (by decide)) (sh_s0 hf4 _) rfl rfl rfl (Nat.le_of_ble_eq_true rfl) dX5_cell_17 (fun r6 M5 h => ?_)
    refine v_if_eq C dX5_cell_20 (tgt := 26) (by decide) (fun c => ?_) (fun c => ?_)
    · replace h := h.1 c
      refine v_aload C 0 dX5_cell_26 rfl ?_
      refine v_iload_n C 3 dX5_cell_28 rfl rfl ?_
      refine v_iconst C dX5_cell_29 (v := (1 : Int32)) (by decide) ?_
      refine v_callVi (k := k3) (As := [.int p2, .int (1 : Int32)]) (rest := []) C (c2_holds hf4 h) eX5_271 (by omega) (by omega) (xlt_s (j := 0) hf4 (by decide)) (sh_s0 hf4 _) rfl rfl rfl (Nat.le_of_ble_eq_true rfl) dX5_cell_30 (fun r8 M7 h => ?_)
      refine v_if_ne C dX5_cell_33 (tgt := 39) (by decide) (fun c => ?_) (fun c => ?_)
      · replace h := h.1 c
        refine v_aload C 0 dX5_cell_39 rfl ?_
        refine v_iload_n C 3 dX5_cell_41 rfl rfl ?_
        refine v_iload_n C 4 dX5_cell_42 rfl rfl ?_
        refine v_callVv (k := k3) (As := [.int p2, .int p3]) (rest := []) C (c2_put hf4 h) eX5_245 (by omega) (by omega) (xlt_s (j := 0) hf4 (by decide)) (sh_s0 hf4 _) rfl rfl rfl (Nat.le_of_ble_eq_true rfl) dX5_cell_43 (fun M9 h => ?_)
        refine v_iconst C dX5_cell_46 (v := (1 : Int32)) (by decide) ?_
        exact hR _ _ _ _ h dX5_cell_47
      · replace h := h.2 c
        refine v_bipush C dX5_cell_36 (v := (-12 : Int32)) (by decide) ?_
        exact hR _ _ _ _ h dX5_cell_38
    · replace h := h.2 c
      refine v_bipush C dX5_cell_23 (v := (-11 : Int32)) (by decide) ?_
      exact hR _ _ _ _ h dX5_cell_25
