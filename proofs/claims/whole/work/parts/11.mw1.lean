def w6_feed (M : S0) (p1 : Int32) (Q : Int32 → S0 → Prop) : Prop :=
    w6_in M (Int32.toInt64 p1) (0 : Int64) (255 : Int64) (fun r2 M1 => ((¬ r2 = 0) → (((¬ (M1 0 6) = (160 : Int32)) → ((vp_in (M1 0 6) 160) ∧ (∀ M4 : S0, M4 = up M1 3 (Int32.toNatClampNeg (M1 0 6)) p1 → (∀ M5 : S0, M5 = up M4 0 6 ((M4 0 6) + (1 : Int32)) → (Q (M5 0 6) M5))))) ∧ (((M1 0 6) = (160 : Int32)) → (Q (-4 : Int32) M1)))) ∧ ((r2 = 0) → (Q (-2 : Int32) M1)))
set_option maxHeartbeats 4000000 in
set_option maxRecDepth 20000 in
theorem c6_feed {B : BX} {a : Nat → Nat} {M : S0} {p1 : Int32} {Q : Int32 → S0 → Prop} (h : w6_feed  M p1 Q) : KI B (wl 12 a (shM B.2.1 a)) yX6_feed cX6_feed 2 (some .int) 1 25 [.ref (a 0), .int p1] M Q := by
  rw [w6_feed] at h
  refine KI_of (by decide +kernel) (Nat.le_of_ble_eq_true rfl) (fun E C hR => ?_)
  change V B E 2 (wl 12 a (shM B.2.1 a) M) 0 [(0, .ref (a 0)), (1, .int p1)] []
  change Ok B E cX6_feed 2 RX6 1 25 at C
  refine v_iload_n C 1 dX6_feed_0 rfl rfl ?_
  refine v_i2l C dX6_feed_1 ?_
  refine v_lconst C dX6_feed_2 (v := (0 : Int64)) (by decide) ?_
  refine v_ldc2 C (v := (255 : Int64)) (gdm 977 (by decide +kernel) (by decide +kernel)) dX6_feed_3 ?_
  refine v_callSi (As := [.long (Int32.toInt64 p1), .long (0 : Int64), .long (255 : Int64)]) (rest := []) C (c6_in  h) eX6_64 (by omega) (by omega) rfl rfl (Nat.le_of_ble_eq_true rfl) dX6_feed_6 (fun r2 M1 h => ?_)
  refine v_if_ne C dX6_feed_9 (tgt := 15) (by decide) (fun c => ?_) (fun c => ?_)
  · replace h := h.1 c
    refine v_aload_n C 0 dX6_feed_15 rfl rfl ?_
    refine fX6_6_g_taped C dX6_feed_16 ?_
    refine v_sipush C dX6_feed_19 (v := (160 : Int32)) (by decide) ?_
    refine v_icmp_ne C dX6_feed_22 (tgt := 28) (by decide) (fun c => ?_) (fun c => ?_)
    · replace h := h.1 c
      refine v_aload_n C 0 dX6_feed_28 rfl rfl ?_
      refine fX6_6_g_tape C dX6_feed_29 ?_
      refine v_aload_n C 0 dX6_feed_32 rfl rfl ?_
      refine fX6_6_g_taped C dX6_feed_33 ?_
      refine v_iload_n C 1 dX6_feed_36 rfl rfl ?_
      obtain ⟨hi3, h⟩ := h
      refine v_iast (k := 3) C (by decide) (fun _ => rfl) hi3 dX6_feed_37 ?_
      obtain ⟨M4, eM4⟩ : ∃ z : S0, z = up M1 3 (Int32.toNatClampNeg (M1 0 6)) p1 := ⟨_, rfl⟩
      rw [← eM4]
      replace h := h M4 eM4
      refine v_aload_n C 0 dX6_feed_38 rfl rfl ?_
      refine v_dup C dX6_feed_39 rfl ?_
      refine fX6_6_g_taped C dX6_feed_40 ?_
      refine v_iconst C dX6_feed_43 (v := (1 : Int32)) (by decide) ?_
      refine v_iadd C dX6_feed_44 ?_
      refine fX6_6_p_taped C dX6_feed_45 (fun M5 eM5 => ?_)
      replace h := h M5 eM5
      refine v_aload_n C 0 dX6_feed_48 rfl rfl ?_
      refine fX6_6_g_taped C dX6_feed_49 ?_
      exact hR _ _ _ _ h dX6_feed_52
    · replace h := h.2 c
      refine v_bipush C dX6_feed_25 (v := (-4 : Int32)) (by decide) ?_
      exact hR _ _ _ _ h dX6_feed_27
  · replace h := h.2 c
    refine v_bipush C dX6_feed_12 (v := (-2 : Int32)) (by decide) ?_
    exact hR _ _ _ _ h dX6_feed_14
def w6_byteAt (M : S0) (p1 : Int32) (Q : Int32 → S0 → Prop) : Prop :=
    (((M 0 19) ≤ p1) → (Q (-1 : Int32) M)) ∧ ((¬ (M 0 19) ≤ p1) → ((vp_in ((M 0 18) + p1) 960) ∧ (Q (M 1 (Int32.toNatClampNeg ((M 0 18) + p1))) M)))
set_option maxHeartbeats 4000000 in
set_option maxRecDepth 20000 in
theorem c6_byteAt {B : BX} {a : Nat → Nat} {M : S0} {p1 : Int32} {Q : Int32 → S0 → Prop} (h : w6_byteAt  M p1 Q) : KI B (wl 12 a (shM B.2.1 a)) yX6_byteAt cX6_byteAt 2 (some .int) 0 0 [.ref (a 0), .int p1] M Q := by
  rw [w6_byteAt] at h
  refine KI_of (by decide +kernel) (Nat.le_of_ble_eq_true rfl) (fun E C hR => ?_)
  change V B E 2 (wl 12 a (shM B.2.1 a) M) 0 [(0, .ref (a 0)), (1, .int p1)] []
  change Ok B E cX6_byteAt 2 RX6 0 0 at C
  refine v_iload_n C 1 dX6_byteAt_0 rfl rfl ?_
  refine v_aload_n C 0 dX6_byteAt_1 rfl rfl ?_
  refine fX6_6_g_size C dX6_byteAt_2 ?_
  refine v_icmp_ge C dX6_byteAt_5 (tgt := 22) (by decide) (fun c => ?_) (fun c => ?_)
  · replace h := h.1 c
    refine v_iconst C dX6_byteAt_22 (v := (-1 : Int32)) (by decide) ?_
    exact hR _ _ _ _ h dX6_byteAt_23
  · replace h := h.2 c
    refine v_aload_n C 0 dX6_byteAt_8 rfl rfl ?_
    refine fX6_6_g_texts C dX6_byteAt_9 ?_
    refine v_aload_n C 0 dX6_byteAt_12 rfl rfl ?_
    refine fX6_6_g_from C dX6_byteAt_13 ?_
    refine v_iload_n C 1 dX6_byteAt_16 rfl rfl ?_
    refine v_iadd C dX6_byteAt_17 ?_
    obtain ⟨hi1, h⟩ := h
    refine v_iald (k := 1) C (by decide) rfl hi1 dX6_byteAt_18 ?_
    refine v_goto C dX6_byteAt_19 (tgt := 23) (by decide) ?_
    exact hR _ _ _ _ h dX6_byteAt_23
def w6_next_b100 (Q : S0 → Prop) : Nat → S0 → Prop
  | 0, _ => False
  | n + 1, M =>
    w6_byteAt M (M 0 20) (fun r62 M61 => w6_in M61 (Int32.toInt64 r62) (97 : Int64) (122 : Int64) (fun r64 M63 => ((r64 = 0) → (Q M63)) ∧ ((¬ r64 = 0) → (∀ M65 : S0, M65 = up M63 0 20 ((M63 0 20) + (1 : Int32)) → (w6_next_b100   Q n M65)))))
set_option maxHeartbeats 4000000 in
set_option maxRecDepth 20000 in
theorem t6_next_b100 {B : BX} {E : EX} {a : Nat → Nat} {Q : S0 → Prop} (C : Ok B E cX6_next 3 RX6 1 25) (hR : RetV B E cX6_next 3 (wl 12 a (shM B.2.1 a)) Q) : ∀ (n : Nat) (M : S0), w6_next_b100   Q n M  → V B E 3 (wl 12 a (shM B.2.1 a) M) 100 [(0, .ref (a 0))] [] := by
  intro n
  induction n with
  | zero =>
    intro M   h
    exact h.elim
  | succ n ih =>
    intro M   h
    rw [w6_next_b100] at h
    refine v_aload_n C 0 dX6_next_100 rfl rfl ?_
    refine v_aload_n C 0 dX6_next_101 rfl rfl ?_
    refine fX6_6_g_here C dX6_next_102 ?_
    refine v_callVi (k := 0) (As := [.int (M 0 20)]) (rest := []) C (c6_byteAt  h) eX6_139 (by omega) (by omega) (by decide) rfl rfl rfl rfl (Nat.le_of_ble_eq_true rfl) dX6_next_105 (fun r62 M61 h => ?_)
    refine v_i2l C dX6_next_108 ?_
    refine v_ldc2 C (v := (97 : Int64)) (gdm 994 (by decide +kernel) (by decide +kernel)) dX6_next_109 ?_
    refine v_ldc2 C (v := (122 : Int64)) (gdm 995 (by decide +kernel) (by decide +kernel)) dX6_next_112 ?_
    refine v_callSi (As := [.long (Int32.toInt64 r62), .long (97 : Int64), .long (122 : Int64)]) (rest := []) C (c6_in  h) eX6_64 (by omega) (by omega) rfl rfl (Nat.le_of_ble_eq_true rfl) dX6_next_115 (fun r64 M63 h => ?_)
    refine v_if_eq C dX6_next_118 (tgt := 321) (by decide) (fun c => ?_) (fun c => ?_)
    · replace h := h.1 c
      exact hR _ _ _ h dX6_next_321
    · replace h := h.2 c
      refine v_aload_n C 0 dX6_next_121 rfl rfl ?_
      refine v_dup C dX6_next_122 rfl ?_
      refine fX6_6_g_here C dX6_next_123 ?_
      refine v_iconst C dX6_next_126 (v := (1 : Int32)) (by decide) ?_
      refine v_iadd C dX6_next_127 ?_
      refine fX6_6_p_here C dX6_next_128 (fun M65 eM65 => ?_)
      replace h := h M65 eM65
      refine v_goto C dX6_next_131 (tgt := 100) (by decide) ?_
      refine v_sub [0] rfl ?_
      exact ih M65  h
def w6_next_b160 (Q : S0 → Prop) : Nat → S0 → Int32 → Prop
  | 0, _, _ => False
  | n + 1, M, v2_160 =>
    w6_byteAt M (M 0 20) (fun r48 M47 => w6_in M47 (Int32.toInt64 r48) (48 : Int64) (57 : Int64) (fun r50 M49 => ((r50 = 0) → (((v2_160 ≤ (4 : Int32)) → (∀ M51 : S0, M51 = up M49 0 21 (2 : Int32) → (Q M51))) ∧ ((¬ v2_160 ≤ (4 : Int32)) → (∀ M52 : S0, M52 = up M49 0 21 (4 : Int32) → (Q M52))))) ∧ ((¬ r50 = 0) → ((((4 : Int32) ≤ v2_160) → (∀ M53 : S0, M53 = up (up M49 0 23 (lo64 (j64 (M49 0 23) (M49 0 100)))) 0 100 (hi64 (j64 (M49 0 23) (M49 0 100))) → (∀ x54 : Int32, x54 = v2_160 + (1 : Int32) → (∀ M55 : S0, M55 = up M53 0 20 ((M53 0 20) + (1 : Int32)) → (w6_next_b160   Q n M55 x54))))) ∧ ((¬ (4 : Int32) ≤ v2_160) → (w6_byteAt M49 (M49 0 20) (fun r57 M56 => ∀ M58 : S0, M58 = up (up M56 0 23 (lo64 ((((10 : Int64) * (j64 (M49 0 23) (M49 0 100))) + (Int32.toInt64 r57)) - (48 : Int64)))) 0 100 (hi64 ((((10 : Int64) * (j64 (M49 0 23) (M49 0 100))) + (Int32.toInt64 r57)) - (48 : Int64))) → (∀ x59 : Int32, x59 = v2_160 + (1 : Int32) → (∀ M60 : S0, M60 = up M58 0 20 ((M58 0 20) + (1 : Int32)) → (w6_next_b160   Q n M60 x59))))))))))
set_option maxHeartbeats 4000000 in
set_option maxRecDepth 20000 in
theorem t6_next_b160 {B : BX} {E : EX} {a : Nat → Nat} {Q : S0 → Prop} (C : Ok B E cX6_next 3 RX6 1 25) (hR : RetV B E cX6_next 3 (wl 12 a (shM B.2.1 a)) Q) : ∀ (n : Nat) (M : S0) (v2_160 : Int32), w6_next_b160   Q n M v2_160 → V B E 3 (wl 12 a (shM B.2.1 a) M) 160 [(0, .ref (a 0)), (2, .int v2_160)] [] := by
  intro n
  induction n with
  | zero =>
    intro M v2_160  h
    exact h.elim
  | succ n ih =>
    intro M v2_160  h
    rw [w6_next_b160] at h
    refine v_aload_n C 0 dX6_next_160 rfl rfl ?_
    refine v_aload_n C 0 dX6_next_161 rfl rfl ?_
    refine fX6_6_g_here C dX6_next_162 ?_
    refine v_callVi (k := 0) (As := [.int (M 0 20)]) (rest := []) C (c6_byteAt  h) eX6_139 (by omega) (by omega) (by decide) rfl rfl rfl rfl (Nat.le_of_ble_eq_true rfl) dX6_next_165 (fun r48 M47 h => ?_)
    refine v_i2l C dX6_next_168 ?_
    refine v_ldc2 C (v := (48 : Int64)) (gdm 996 (by decide +kernel) (by decide +kernel)) dX6_next_169 ?_
    refine v_ldc2 C (v := (57 : Int64)) (gdm 997 (by decide +kernel) (by decide +kernel)) dX6_next_172 ?_
    refine v_callSi (As := [.long (Int32.toInt64 r48), .long (48 : Int64), .long (57 : Int64)]) (rest := []) C (c6_in  h) eX6_64 (by omega) (by omega) rfl rfl (Nat.le_of_ble_eq_true rfl) dX6_next_175 (fun r50 M49 h => ?_)
    refine v_if_eq C dX6_next_178 (tgt := 235) (by decide) (fun c => ?_) (fun c => ?_)
    · replace h := h.1 c
      refine v_aload_n C 0 dX6_next_235 rfl rfl ?_
      refine v_iload_n C 1 dX6_next_236 rfl rfl ?_
      refine v_iconst C dX6_next_237 (v := (4 : Int32)) (by decide) ?_
      refine v_icmp_le C dX6_next_238 (tgt := 245) (by decide) (fun c => ?_) (fun c => ?_)
      · replace h := h.1 c
        refine v_iconst C dX6_next_245 (v := (2 : Int32)) (by decide) ?_
        refine fX6_6_p_token C dX6_next_246 (fun M51 eM51 => ?_)
        replace h := h M51 eM51
        refine v_goto C dX6_next_249 (tgt := 321) (by decide) ?_
        exact hR _ _ _ h dX6_next_321
      · replace h := h.2 c
        refine v_iconst C dX6_next_241 (v := (4 : Int32)) (by decide) ?_
        refine v_goto C dX6_next_242 (tgt := 246) (by decide) ?_
        refine fX6_6_p_token C dX6_next_246 (fun M52 eM52 => ?_)
        replace h := h M52 eM52
        refine v_goto C dX6_next_249 (tgt := 321) (by decide) ?_
        exact hR _ _ _ h dX6_next_321
    · replace h := h.2 c
      refine v_aload_n C 0 dX6_next_181 rfl rfl ?_
      refine v_iload_n C 1 dX6_next_182 rfl rfl ?_
      refine v_iconst C dX6_next_183 (v := (4 : Int32)) (by decide) ?_
      refine v_icmp_ge C dX6_next_184 (tgt := 212) (by decide) (fun c => ?_) (fun c => ?_)
      · replace h := h.1 c
        refine v_aload_n C 0 dX6_next_212 rfl rfl ?_
        refine fX6_6_g_tokenWorth C dX6_next_213 ?_
        refine fX6_6_p_tokenWorth C dX6_next_216 (fun M53 eM53 => ?_)
        replace h := h M53 eM53
        obtain ⟨x54, ex54⟩ : ∃ z : Int32, z = v2_160 + (1 : Int32) := ⟨_, rfl⟩
        replace h := h x54 ex54
        refine v_iinc (v := x54) (lv' := [(2, .int x54), (0, .ref (a 0))]) C 1 dX6_next_219 rfl (by rw [ex54]; rfl) (by decide) rfl ?_
        refine v_aload_n C 1 dX6_next_222 rfl rfl ?_
        refine v_dup C dX6_next_223 rfl ?_
        refine fX6_6_g_here C dX6_next_224 ?_
        refine v_iconst C dX6_next_227 (v := (1 : Int32)) (by decide) ?_
        refine v_iadd C dX6_next_228 ?_
        refine fX6_6_p_here C dX6_next_229 (fun M55 eM55 => ?_)
        replace h := h M55 eM55
        refine v_goto C dX6_next_232 (tgt := 160) (by decide) ?_
        refine v_sub [1, 0] rfl ?_
        exact ih M55 x54  h
      · replace h := h.2 c
        refine v_ldc2 C (v := (10 : Int64)) (gdm 998 (by decide +kernel) (by decide +kernel)) dX6_next_187 ?_
        refine v_aload_n C 0 dX6_next_190 rfl rfl ?_
        refine fX6_6_g_tokenWorth C dX6_next_191 ?_
        refine v_lmul C dX6_next_194 ?_
        refine v_aload_n C 0 dX6_next_195 rfl rfl ?_
        refine v_aload_n C 0 dX6_next_196 rfl rfl ?_
        refine fX6_6_g_here C dX6_next_197 ?_
        refine v_callVi (k := 0) (As := [.int (M49 0 20)]) (rest := [.long ((10 : Int64) * (j64 (M49 0 23) (M49 0 100))), .ref (a 0)]) C (c6_byteAt  h) eX6_139 (by omega) (by omega) (by decide) rfl rfl rfl rfl (Nat.le_of_ble_eq_true rfl) dX6_next_200 (fun r57 M56 h => ?_)
        refine v_i2l C dX6_next_203 ?_
        refine v_ladd C dX6_next_204 ?_
        refine v_ldc2 C (v := (48 : Int64)) (gdm 996 (by decide +kernel) (by decide +kernel)) dX6_next_205 ?_
        refine v_lsub C dX6_next_208 ?_
        refine v_goto C dX6_next_209 (tgt := 216) (by decide) ?_
        refine fX6_6_p_tokenWorth C dX6_next_216 (fun M58 eM58 => ?_)
        replace h := h M58 eM58
        obtain ⟨x59, ex59⟩ : ∃ z : Int32, z = v2_160 + (1 : Int32) := ⟨_, rfl⟩
        replace h := h x59 ex59
        refine v_iinc (v := x59) (lv' := [(2, .int x59), (0, .ref (a 0))]) C 1 dX6_next_219 rfl (by rw [ex59]; rfl) (by decide) rfl ?_
        refine v_aload_n C 1 dX6_next_222 rfl rfl ?_
        refine v_dup C dX6_next_223 rfl ?_
        refine fX6_6_g_here C dX6_next_224 ?_
        refine v_iconst C dX6_next_227 (v := (1 : Int32)) (by decide) ?_
        refine v_iadd C dX6_next_228 ?_
        refine fX6_6_p_here C dX6_next_229 (fun M60 eM60 => ?_)
        replace h := h M60 eM60
        refine v_goto C dX6_next_232 (tgt := 160) (by decide) ?_
        refine v_sub [1, 0] rfl ?_
        exact ih M60 x59  h
def w6_next_b0 (Q : S0 → Prop) : Nat → S0 → Prop
  | 0, _ => False
  | n + 1, M =>
    w6_byteAt M (M 0 20) (fun r3 M2 => ((r3 = (32 : Int32)) → (∀ M4 : S0, M4 = up M2 0 20 ((M2 0 20) + (1 : Int32)) → (w6_next_b0   Q n M4))) ∧ ((¬ r3 = (32 : Int32)) → (w6_byteAt M2 (M2 0 20) (fun r6 M5 => ((¬ r6 = (10 : Int32)) → (∀ M7 : S0, M7 = up M5 0 22 (M5 0 20) → (w6_byteAt M7 (M7 0 20) (fun r9 M8 => ∀ M10 : S0, M10 = up M8 0 21 (4 : Int32) → (((0 ≤ r9) → (w6_in M10 (Int32.toInt64 r9) (97 : Int64) (122 : Int64) (fun r12 M11 => ((r12 = 0) → (w6_in M11 (Int32.toInt64 r9) (48 : Int64) (57 : Int64) (fun r14 M13 => ((r14 = 0) → (((r9 = (40 : Int32)) → (∀ M15 : S0, M15 = up M13 0 21 (3 : Int32) → (∀ M16 : S0, M16 = up (up M15 0 23 (lo64 (Int32.toInt64 r9))) 0 100 (hi64 (Int32.toInt64 r9)) → (∀ M17 : S0, M17 = up M16 0 20 ((M16 0 20) + (1 : Int32)) → (Q M17))))) ∧ ((¬ r9 = (40 : Int32)) → (((r9 = (41 : Int32)) → (∀ M18 : S0, M18 = up M13 0 21 (3 : Int32) → (∀ M19 : S0, M19 = up (up M18 0 23 (lo64 (Int32.toInt64 r9))) 0 100 (hi64 (Int32.toInt64 r9)) → (∀ M20 : S0, M20 = up M19 0 20 ((M19 0 20) + (1 : Int32)) → (Q M20))))) ∧ ((¬ r9 = (41 : Int32)) → (((r9 = (59 : Int32)) → (∀ M21 : S0, M21 = up M13 0 21 (3 : Int32) → (∀ M22 : S0, M22 = up (up M21 0 23 (lo64 (Int32.toInt64 r9))) 0 100 (hi64 (Int32.toInt64 r9)) → (∀ M23 : S0, M23 = up M22 0 20 ((M22 0 20) + (1 : Int32)) → (Q M23))))) ∧ ((¬ r9 = (59 : Int32)) → (((r9 = (43 : Int32)) → (∀ M24 : S0, M24 = up M13 0 21 (3 : Int32) → (∀ M25 : S0, M25 = up (up M24 0 23 (lo64 (Int32.toInt64 r9))) 0 100 (hi64 (Int32.toInt64 r9)) → (∀ M26 : S0, M26 = up M25 0 20 ((M25 0 20) + (1 : Int32)) → (Q M26))))) ∧ ((¬ r9 = (43 : Int32)) → (((r9 = (45 : Int32)) → (∀ M27 : S0, M27 = up M13 0 21 (3 : Int32) → (∀ M28 : S0, M28 = up (up M27 0 23 (lo64 (Int32.toInt64 r9))) 0 100 (hi64 (Int32.toInt64 r9)) → (∀ M29 : S0, M29 = up M28 0 20 ((M28 0 20) + (1 : Int32)) → (Q M29))))) ∧ ((¬ r9 = (45 : Int32)) → (((r9 = (42 : Int32)) → (∀ M30 : S0, M30 = up M13 0 21 (3 : Int32) → (∀ M31 : S0, M31 = up (up M30 0 23 (lo64 (Int32.toInt64 r9))) 0 100 (hi64 (Int32.toInt64 r9)) → (∀ M32 : S0, M32 = up M31 0 20 ((M31 0 20) + (1 : Int32)) → (Q M32))))) ∧ ((¬ r9 = (42 : Int32)) → (((r9 = (60 : Int32)) → (∀ M33 : S0, M33 = up M13 0 21 (3 : Int32) → (∀ M34 : S0, M34 = up (up M33 0 23 (lo64 (Int32.toInt64 r9))) 0 100 (hi64 (Int32.toInt64 r9)) → (∀ M35 : S0, M35 = up M34 0 20 ((M34 0 20) + (1 : Int32)) → (Q M35))))) ∧ ((¬ r9 = (60 : Int32)) → (((¬ r9 = (61 : Int32)) → (Q M13)) ∧ ((r9 = (61 : Int32)) → (∀ M36 : S0, M36 = up M13 0 21 (3 : Int32) → (∀ M37 : S0, M37 = up (up M36 0 23 (lo64 (Int32.toInt64 r9))) 0 100 (hi64 (Int32.toInt64 r9)) → (∀ M38 : S0, M38 = up M37 0 20 ((M37 0 20) + (1 : Int32)) → (Q M38))))))))))))))))))))) ∧ ((¬ r14 = 0) → (∀ M39 : S0, M39 = up M13 0 21 (2 : Int32) → (∀ M40 : S0, M40 = up (up M39 0 23 (lo64 (0 : Int64))) 0 100 (hi64 (0 : Int64)) → (∃ n41, w6_next_b160   Q n41 M40 (0 : Int32)))))))) ∧ ((¬ r12 = 0) → (∀ M42 : S0, M42 = up M11 0 21 (1 : Int32) → (∃ n43, w6_next_b100   Q n43 M42)))))) ∧ ((¬ 0 ≤ r9) → (∀ M44 : S0, M44 = up M10 0 21 (0 : Int32) → (∀ M45 : S0, M45 = up M44 0 22 (M44 0 19) → (Q M45))))))))) ∧ ((r6 = (10 : Int32)) → (∀ M46 : S0, M46 = up M5 0 20 ((M5 0 20) + (1 : Int32)) → (w6_next_b0   Q n M46)))))))
set_option maxHeartbeats 4000000 in
set_option maxRecDepth 20000 in
theorem t6_next_b0 {B : BX} {E : EX} {a : Nat → Nat} {Q : S0 → Prop} (C : Ok B E cX6_next 3 RX6 1 25) (hR : RetV B E cX6_next 3 (wl 12 a (shM B.2.1 a)) Q) : ∀ (n : Nat) (M : S0), w6_next_b0   Q n M  → V B E 3 (wl 12 a (shM B.2.1 a) M) 0 [(0, .ref (a 0))] [] := by
  intro n
  induction n with
  | zero =>
    intro M   h
    exact h.elim
  | succ n ih =>
    intro M   h
    rw [w6_next_b0] at h
    refine v_aload_n C 0 dX6_next_0 rfl rfl ?_
    refine v_aload_n C 0 dX6_next_1 rfl rfl ?_
    refine fX6_6_g_here C dX6_next_2 ?_
    refine v_callVi (k := 0) (As := [.int (M 0 20)]) (rest := []) C (c6_byteAt  h) eX6_139 (by omega) (by omega) (by decide) rfl rfl rfl rfl (Nat.le_of_ble_eq_true rfl) dX6_next_5 (fun r3 M2 h => ?_)
    refine v_bipush C dX6_next_8 (v := (32 : Int32)) (by decide) ?_
    refine v_icmp_eq C dX6_next_10 (tgt := 26) (by decide) (fun c => ?_) (fun c => ?_)
    · replace h := h.1 c
      refine v_aload_n C 0 dX6_next_26 rfl rfl ?_
      refine v_dup C dX6_next_27 rfl ?_
      refine fX6_6_g_here C dX6_next_28 ?_
      refine v_iconst C dX6_next_31 (v := (1 : Int32)) (by decide) ?_
      refine v_iadd C dX6_next_32 ?_
      refine fX6_6_p_here C dX6_next_33 (fun M4 eM4 => ?_)
      replace h := h M4 eM4
      refine v_goto C dX6_next_36 (tgt := 0) (by decide) ?_
      refine v_sub [0] rfl ?_
      exact ih M4  h
    · replace h := h.2 c
      refine v_aload_n C 0 dX6_next_13 rfl rfl ?_
      refine v_aload_n C 0 dX6_next_14 rfl rfl ?_
      refine fX6_6_g_here C dX6_next_15 ?_
      refine v_callVi (k := 0) (As := [.int (M2 0 20)]) (rest := []) C (c6_byteAt  h) eX6_139 (by omega) (by omega) (by decide) rfl rfl rfl rfl (Nat.le_of_ble_eq_true rfl) dX6_next_18 (fun r6 M5 h => ?_)
      refine v_bipush C dX6_next_21 (v := (10 : Int32)) (by decide) ?_
      refine v_icmp_ne C dX6_next_23 (tgt := 39) (by decide) (fun c => ?_) (fun c => ?_)
      · replace h := h.1 c
        refine v_aload_n C 0 dX6_next_39 rfl rfl ?_
        refine v_aload_n C 0 dX6_next_40 rfl rfl ?_
        refine fX6_6_g_here C dX6_next_41 ?_
        refine fX6_6_p_tokenAt C dX6_next_44 (fun M7 eM7 => ?_)
        replace h := h M7 eM7
        refine v_aload_n C 0 dX6_next_47 rfl rfl ?_
        refine v_aload_n C 0 dX6_next_48 rfl rfl ?_
        refine fX6_6_g_here C dX6_next_49 ?_
        refine v_callVi (k := 0) (As := [.int (M7 0 20)]) (rest := []) C (c6_byteAt  h) eX6_139 (by omega) (by omega) (by decide) rfl rfl rfl rfl (Nat.le_of_ble_eq_true rfl) dX6_next_52 (fun r9 M8 h => ?_)
        refine v_istore_n (lv' := [(1, .int r9), (0, .ref (a 0))]) C dX6_next_55 rfl (by decide) rfl ?_
        refine v_aload_n C 1 dX6_next_56 rfl rfl ?_
        refine v_iconst C dX6_next_57 (v := (4 : Int32)) (by decide) ?_
        refine fX6_6_p_token C dX6_next_58 (fun M10 eM10 => ?_)
        replace h := h M10 eM10
        refine v_iload_n C 0 dX6_next_61 rfl rfl ?_
        refine v_if_ge C dX6_next_62 (tgt := 81) (by decide) (fun c => ?_) (fun c => ?_)
        · replace h := h.1 c
          refine v_iload_n C 0 dX6_next_81 rfl rfl ?_
          refine v_i2l C dX6_next_82 ?_
          refine v_ldc2 C (v := (97 : Int64)) (gdm 994 (by decide +kernel) (by decide +kernel)) dX6_next_83 ?_
          refine v_ldc2 C (v := (122 : Int64)) (gdm 995 (by decide +kernel) (by decide +kernel)) dX6_next_86 ?_
          refine v_callSi (As := [.long (Int32.toInt64 r9), .long (97 : Int64), .long (122 : Int64)]) (rest := []) C (c6_in  h) eX6_64 (by omega) (by omega) rfl rfl (Nat.le_of_ble_eq_true rfl) dX6_next_89 (fun r12 M11 h => ?_)
          refine v_if_eq C dX6_next_92 (tgt := 134) (by decide) (fun c => ?_) (fun c => ?_)
          · replace h := h.1 c
            refine v_iload_n C 0 dX6_next_134 rfl rfl ?_
            refine v_i2l C dX6_next_135 ?_
            refine v_ldc2 C (v := (48 : Int64)) (gdm 996 (by decide +kernel) (by decide +kernel)) dX6_next_136 ?_
            refine v_ldc2 C (v := (57 : Int64)) (gdm 997 (by decide +kernel) (by decide +kernel)) dX6_next_139 ?_
            refine v_callSi (As := [.long (Int32.toInt64 r9), .long (48 : Int64), .long (57 : Int64)]) (rest := []) C (c6_in  h) eX6_64 (by omega) (by omega) rfl rfl (Nat.le_of_ble_eq_true rfl) dX6_next_142 (fun r14 M13 h => ?_)
            refine v_if_eq C dX6_next_145 (tgt := 252) (by decide) (fun c => ?_) (fun c => ?_)
            · replace h := h.1 c
              refine v_iload_n C 0 dX6_next_252 rfl rfl ?_
              refine v_bipush C dX6_next_253 (v := (40 : Int32)) (by decide) ?_
              refine v_icmp_eq C dX6_next_255 (tgt := 300) (by decide) (fun c => ?_) (fun c => ?_)
              · replace h := h.1 c
                refine v_aload_n C 1 dX6_next_300 rfl rfl ?_
                refine v_iconst C dX6_next_301 (v := (3 : Int32)) (by decide) ?_
                refine fX6_6_p_token C dX6_next_302 (fun M15 eM15 => ?_)
                replace h := h M15 eM15
                refine v_aload_n C 1 dX6_next_305 rfl rfl ?_
                refine v_iload_n C 0 dX6_next_306 rfl rfl ?_
                refine v_i2l C dX6_next_307 ?_
                refine fX6_6_p_tokenWorth C dX6_next_308 (fun M16 eM16 => ?_)
                replace h := h M16 eM16
                refine v_aload_n C 1 dX6_next_311 rfl rfl ?_
                refine v_dup C dX6_next_312 rfl ?_
                refine fX6_6_g_here C dX6_next_313 ?_
                refine v_iconst C dX6_next_316 (v := (1 : Int32)) (by decide) ?_
                refine v_iadd C dX6_next_317 ?_
                refine fX6_6_p_here C dX6_next_318 (fun M17 eM17 => ?_)
                replace h := h M17 eM17
                exact hR _ _ _ h dX6_next_321
              · replace h := h.2 c
                refine v_iload_n C 0 dX6_next_258 rfl rfl ?_
                refine v_bipush C dX6_next_259 (v := (41 : Int32)) (by decide) ?_
                refine v_icmp_eq C dX6_next_261 (tgt := 300) (by decide) (fun c => ?_) (fun c => ?_)
                · replace h := h.1 c
                  refine v_aload_n C 1 dX6_next_300 rfl rfl ?_
                  refine v_iconst C dX6_next_301 (v := (3 : Int32)) (by decide) ?_
                  refine fX6_6_p_token C dX6_next_302 (fun M18 eM18 => ?_)
                  replace h := h M18 eM18
                  refine v_aload_n C 1 dX6_next_305 rfl rfl ?_
                  refine v_iload_n C 0 dX6_next_306 rfl rfl ?_
                  refine v_i2l C dX6_next_307 ?_
                  refine fX6_6_p_tokenWorth C dX6_next_308 (fun M19 eM19 => ?_)
                  replace h := h M19 eM19
                  refine v_aload_n C 1 dX6_next_311 rfl rfl ?_
                  refine v_dup C dX6_next_312 rfl ?_
                  refine fX6_6_g_here C dX6_next_313 ?_
                  refine v_iconst C dX6_next_316 (v := (1 : Int32)) (by decide) ?_
                  refine v_iadd C dX6_next_317 ?_
                  refine fX6_6_p_here C dX6_next_318 (fun M20 eM20 => ?_)
                  replace h := h M20 eM20
                  exact hR _ _ _ h dX6_next_321
                · replace h := h.2 c
                  refine v_iload_n C 0 dX6_next_264 rfl rfl ?_
                  refine v_bipush C dX6_next_265 (v := (59 : Int32)) (by decide) ?_
                  refine v_icmp_eq C dX6_next_267 (tgt := 300) (by decide) (fun c => ?_) (fun c => ?_)
                  · replace h := h.1 c
                    refine v_aload_n C 1 dX6_next_300 rfl rfl ?_
                    refine v_iconst C dX6_next_301 (v := (3 : Int32)) (by decide) ?_
                    refine fX6_6_p_token C dX6_next_302 (fun M21 eM21 => ?_)
                    replace h := h M21 eM21
                    refine v_aload_n C 1 dX6_next_305 rfl rfl ?_
                    refine v_iload_n C 0 dX6_next_306 rfl rfl ?_
                    refine v_i2l C dX6_next_307 ?_
                    refine fX6_6_p_tokenWorth C dX6_next_308 (fun M22 eM22 => ?_)
                    replace h := h M22 eM22
                    refine v_aload_n C 1 dX6_next_311 rfl rfl ?_
                    refine v_dup C dX6_next_312 rfl ?_
                    refine fX6_6_g_here C dX6_next_313 ?_
                    refine v_iconst C dX6_next_316 (v := (1 : Int32)) (by decide) ?_
                    refine v_iadd C dX6_next_317 ?_
                    refine fX6_6_p_here C dX6_next_318 (fun M23 eM23 => ?_)
                    replace h := h M23 eM23
                    exact hR _ _ _ h dX6_next_321
                  · replace h := h.2 c
                    refine v_iload_n C 0 dX6_next_270 rfl rfl ?_
                    refine v_bipush C dX6_next_271 (v := (43 : Int32)) (by decide) ?_
                    refine v_icmp_eq C dX6_next_273 (tgt := 300) (by decide) (fun c => ?_) (fun c => ?_)
                    · replace h := h.1 c
                      refine v_aload_n C 1 dX6_next_300 rfl rfl ?_
                      refine v_iconst C dX6_next_301 (v := (3 : Int32)) (by decide) ?_
                      refine fX6_6_p_token C dX6_next_302 (fun M24 eM24 => ?_)
                      replace h := h M24 eM24
                      refine v_aload_n C 1 dX6_next_305 rfl rfl ?_
                      refine v_iload_n C 0 dX6_next_306 rfl rfl ?_
                      refine v_i2l C dX6_next_307 ?_
                      refine fX6_6_p_tokenWorth C dX6_next_308 (fun M25 eM25 => ?_)
                      replace h := h M25 eM25
                      refine v_aload_n C 1 dX6_next_311 rfl rfl ?_
                      refine v_dup C dX6_next_312 rfl ?_
                      refine fX6_6_g_here C dX6_next_313 ?_
                      refine v_iconst C dX6_next_316 (v := (1 : Int32)) (by decide) ?_
                      refine v_iadd C dX6_next_317 ?_
                      refine fX6_6_p_here C dX6_next_318 (fun M26 eM26 => ?_)
                      replace h := h M26 eM26
                      exact hR _ _ _ h dX6_next_321
                    · replace h := h.2 c
                      refine v_iload_n C 0 dX6_next_276 rfl rfl ?_
                      refine v_bipush C dX6_next_277 (v := (45 : Int32)) (by decide) ?_
                      refine v_icmp_eq C dX6_next_279 (tgt := 300) (by decide) (fun c => ?_) (fun c => ?_)
                      · replace h := h.1 c
                        refine v_aload_n C 1 dX6_next_300 rfl rfl ?_
                        refine v_iconst C dX6_next_301 (v := (3 : Int32)) (by decide) ?_
                        refine fX6_6_p_token C dX6_next_302 (fun M27 eM27 => ?_)
                        replace h := h M27 eM27
                        refine v_aload_n C 1 dX6_next_305 rfl rfl ?_
                        refine v_iload_n C 0 dX6_next_306 rfl rfl ?_
                        refine v_i2l C dX6_next_307 ?_
                        refine fX6_6_p_tokenWorth C dX6_next_308 (fun M28 eM28 => ?_)
                        replace h := h M28 eM28
                        refine v_aload_n C 1 dX6_next_311 rfl rfl ?_
                        refine v_dup C dX6_next_312 rfl ?_
                        refine fX6_6_g_here C dX6_next_313 ?_
                        refine v_iconst C dX6_next_316 (v := (1 : Int32)) (by decide) ?_
                        refine v_iadd C dX6_next_317 ?_
                        refine fX6_6_p_here C dX6_next_318 (fun M29 eM29 => ?_)
                        replace h := h M29 eM29
                        exact hR _ _ _ h dX6_next_321
                      · replace h := h.2 c
                        refine v_iload_n C 0 dX6_next_282 rfl rfl ?_
                        refine v_bipush C dX6_next_283 (v := (42 : Int32)) (by decide) ?_
                        refine v_icmp_eq C dX6_next_285 (tgt := 300) (by decide) (fun c => ?_) (fun c => ?_)
                        · replace h := h.1 c
                          refine v_aload_n C 1 dX6_next_300 rfl rfl ?_
                          refine v_iconst C dX6_next_301 (v := (3 : Int32)) (by decide) ?_
                          refine fX6_6_p_token C dX6_next_302 (fun M30 eM30 => ?_)
                          replace h := h M30 eM30
                          refine v_aload_n C 1 dX6_next_305 rfl rfl ?_
                          refine v_iload_n C 0 dX6_next_306 rfl rfl ?_
                          refine v_i2l C dX6_next_307 ?_
                          refine fX6_6_p_tokenWorth C dX6_next_308 (fun M31 eM31 => ?_)
                          replace h := h M31 eM31
                          refine v_aload_n C 1 dX6_next_311 rfl rfl ?_
                          refine v_dup C dX6_next_312 rfl ?_
                          refine fX6_6_g_here C dX6_next_313 ?_
                          refine v_iconst C dX6_next_316 (v := (1 : Int32)) (by decide) ?_
                          refine v_iadd C dX6_next_317 ?_
                          refine fX6_6_p_here C dX6_next_318 (fun M32 eM32 => ?_)
                          replace h := h M32 eM32
                          exact hR _ _ _ h dX6_next_321
                        · replace h := h.2 c
                          refine v_iload_n C 0 dX6_next_288 rfl rfl ?_
                          refine v_bipush C dX6_next_289 (v := (60 : Int32)) (by decide) ?_
                          refine v_icmp_eq C dX6_next_291 (tgt := 300) (by decide) (fun c => ?_) (fun c => ?_)
                          · replace h := h.1 c
                            refine v_aload_n C 1 dX6_next_300 rfl rfl ?_
                            refine v_iconst C dX6_next_301 (v := (3 : Int32)) (by decide) ?_
                            refine fX6_6_p_token C dX6_next_302 (fun M33 eM33 => ?_)
                            replace h := h M33 eM33
                            refine v_aload_n C 1 dX6_next_305 rfl rfl ?_
                            refine v_iload_n C 0 dX6_next_306 rfl rfl ?_
                            refine v_i2l C dX6_next_307 ?_
                            refine fX6_6_p_tokenWorth C dX6_next_308 (fun M34 eM34 => ?_)
                            replace h := h M34 eM34
                            refine v_aload_n C 1 dX6_next_311 rfl rfl ?_
                            refine v_dup C dX6_next_312 rfl ?_
                            refine fX6_6_g_here C dX6_next_313 ?_
                            refine v_iconst C dX6_next_316 (v := (1 : Int32)) (by decide) ?_
                            refine v_iadd C dX6_next_317 ?_
                            refine fX6_6_p_here C dX6_next_318 (fun M35 eM35 => ?_)
                            replace h := h M35 eM35
                            exact hR _ _ _ h dX6_next_321
                          · replace h := h.2 c
                            refine v_iload_n C 0 dX6_next_294 rfl rfl ?_
                            refine v_bipush C dX6_next_295 (v := (61 : Int32)) (by decide) ?_
                            refine v_icmp_ne C dX6_next_297 (tgt := 321) (by decide) (fun c => ?_) (fun c => ?_)
                            · replace h := h.1 c
                              exact hR _ _ _ h dX6_next_321
                            · replace h := h.2 c
                              refine v_aload_n C 1 dX6_next_300 rfl rfl ?_
                              refine v_iconst C dX6_next_301 (v := (3 : Int32)) (by decide) ?_
                              refine fX6_6_p_token C dX6_next_302 (fun M36 eM36 => ?_)
                              replace h := h M36 eM36
                              refine v_aload_n C 1 dX6_next_305 rfl rfl ?_
                              refine v_iload_n C 0 dX6_next_306 rfl rfl ?_
                              refine v_i2l C dX6_next_307 ?_
                              refine fX6_6_p_tokenWorth C dX6_next_308 (fun M37 eM37 => ?_)
                              replace h := h M37 eM37
                              refine v_aload_n C 1 dX6_next_311 rfl rfl ?_
                              refine v_dup C dX6_next_312 rfl ?_
                              refine fX6_6_g_here C dX6_next_313 ?_
                              refine v_iconst C dX6_next_316 (v := (1 : Int32)) (by decide) ?_
                              refine v_iadd C dX6_next_317 ?_
                              refine fX6_6_p_here C dX6_next_318 (fun M38 eM38 => ?_)
                              replace h := h M38 eM38
                              exact hR _ _ _ h dX6_next_321
            · replace h := h.2 c
              refine v_aload_n C 1 dX6_next_148 rfl rfl ?_
              refine v_iconst C dX6_next_149 (v := (2 : Int32)) (by decide) ?_
              refine fX6_6_p_token C dX6_next_150 (fun M39 eM39 => ?_)
              replace h := h M39 eM39
              refine v_aload_n C 1 dX6_next_153 rfl rfl ?_
              refine v_lconst C dX6_next_154 (v := (0 : Int64)) (by decide) ?_
              refine fX6_6_p_tokenWorth C dX6_next_155 (fun M40 eM40 => ?_)
              replace h := h M40 eM40
              refine v_iconst C dX6_next_158 (v := (0 : Int32)) (by decide) ?_
              refine v_istore_n (lv' := [(2, .int (0 : Int32)), (1, .int r9), (0, .ref (a 0))]) C dX6_next_159 rfl (by decide) rfl ?_
              obtain ⟨n41, h⟩ := h
              refine v_sub [2, 0] rfl ?_
              exact t6_next_b160   C hR  n41 M40 (0 : Int32)  h
          · replace h := h.2 c
            refine v_aload_n C 1 dX6_next_95 rfl rfl ?_
            refine v_iconst C dX6_next_96 (v := (1 : Int32)) (by decide) ?_
            refine fX6_6_p_token C dX6_next_97 (fun M42 eM42 => ?_)
            replace h := h M42 eM42
            obtain ⟨n43, h⟩ := h
            refine v_sub [1] rfl ?_
            exact t6_next_b100   C hR  n43 M42  h
        · replace h := h.2 c
          refine v_aload_n C 1 dX6_next_65 rfl rfl ?_
          refine v_iconst C dX6_next_66 (v := (0 : Int32)) (by decide) ?_
          refine fX6_6_p_token C dX6_next_67 (fun M44 eM44 => ?_)
          replace h := h M44 eM44
          refine v_aload_n C 1 dX6_next_70 rfl rfl ?_
          refine v_aload_n C 1 dX6_next_71 rfl rfl ?_
          refine fX6_6_g_size C dX6_next_72 ?_
          refine fX6_6_p_tokenAt C dX6_next_75 (fun M45 eM45 => ?_)
          replace h := h M45 eM45
          refine v_goto C dX6_next_78 (tgt := 321) (by decide) ?_
          exact hR _ _ _ h dX6_next_321
      · replace h := h.2 c
        refine v_aload_n C 0 dX6_next_26 rfl rfl ?_
        refine v_dup C dX6_next_27 rfl ?_
        refine fX6_6_g_here C dX6_next_28 ?_
        refine v_iconst C dX6_next_31 (v := (1 : Int32)) (by decide) ?_
        refine v_iadd C dX6_next_32 ?_
        refine fX6_6_p_here C dX6_next_33 (fun M46 eM46 => ?_)
        replace h := h M46 eM46
        refine v_goto C dX6_next_36 (tgt := 0) (by decide) ?_
        refine v_sub [0] rfl ?_
        exact ih M46  h
def w6_next (M : S0) (Q : S0 → Prop) : Prop :=
    ∃ n1, w6_next_b0   Q n1 M
set_option maxHeartbeats 4000000 in
set_option maxRecDepth 20000 in
theorem c6_next {B : BX} {a : Nat → Nat} {M : S0} {Q : S0 → Prop} (h : w6_next  M  Q) : KV B (wl 12 a (shM B.2.1 a)) yX6_next cX6_next 3 none 1 25 [.ref (a 0)] M Q := by
  rw [w6_next] at h
  refine KV_of (by decide +kernel) (Nat.le_of_ble_eq_true rfl) (fun E C hR => ?_)
  change V B E 3 (wl 12 a (shM B.2.1 a) M) 0 [(0, .ref (a 0))] []
  change Ok B E cX6_next 3 RX6 1 25 at C
  obtain ⟨n1, h⟩ := h
  refine v_sub [0] rfl ?_
  exact t6_next_b0   C hR  n1 M  h
def w6_fail (M : S0) (Q : S0 → Prop) : Prop :=
    ((¬ (M 0 25) = 0) → (Q M)) ∧ (((M 0 25) = 0) → (∀ M1 : S0, M1 = up M 0 25 (1 : Int32) → (∀ M2 : S0, M2 = up M1 0 26 (M1 0 22) → (Q M2))))
set_option maxHeartbeats 4000000 in
set_option maxRecDepth 20000 in
theorem c6_fail {B : BX} {a : Nat → Nat} {M : S0} {Q : S0 → Prop} (h : w6_fail  M  Q) : KV B (wl 12 a (shM B.2.1 a)) yX6_fail cX6_fail 1 none 0 0 [.ref (a 0)] M Q := by
  rw [w6_fail] at h
  refine KV_of (by decide +kernel) (Nat.le_of_ble_eq_true rfl) (fun E C hR => ?_)
  change V B E 1 (wl 12 a (shM B.2.1 a) M) 0 [(0, .ref (a 0))] []
  change Ok B E cX6_fail 1 RX6 0 0 at C
  refine v_aload_n C 0 dX6_fail_0 rfl rfl ?_
  refine fX6_6_g_bad C dX6_fail_1 ?_
  refine v_if_ne C dX6_fail_4 (tgt := 20) (by decide) (fun c => ?_) (fun c => ?_)
  · replace h := h.1 c
    exact hR _ _ _ h dX6_fail_20
  · replace h := h.2 c
    refine v_aload_n C 0 dX6_fail_7 rfl rfl ?_
    refine v_iconst C dX6_fail_8 (v := (1 : Int32)) (by decide) ?_
    refine fX6_6_p_bad C rfl rfl dX6_fail_9 (fun M1 eM1 => ?_)
    replace h := h M1 eM1
    refine v_aload_n C 0 dX6_fail_12 rfl rfl ?_
    refine v_aload_n C 0 dX6_fail_13 rfl rfl ?_
    refine fX6_6_g_tokenAt C dX6_fail_14 ?_
    refine fX6_6_p_fault C dX6_fail_17 (fun M2 eM2 => ?_)
    replace h := h M2 eM2
    exact hR _ _ _ h dX6_fail_20
def w6_isLetter (M : S0) (p1 : Int32) (p2 : Int32) (Q : Int32 → S0 → Prop) : Prop :=
    (((M 0 20) ≤ ((M 0 22) + p1)) → (((¬ p2 = 0) → (Q (0 : Int32) M)) ∧ ((p2 = 0) → (Q (1 : Int32) M)))) ∧ ((¬ (M 0 20) ≤ ((M 0 22) + p1)) → (w6_byteAt M ((M 0 22) + p1) (fun r2 M1 => ((¬ r2 = p2) → (Q (0 : Int32) M1)) ∧ ((r2 = p2) → (Q (1 : Int32) M1)))))
set_option maxHeartbeats 4000000 in
set_option maxRecDepth 20000 in
theorem c6_isLetter {B : BX} {a : Nat → Nat} {M : S0} {p1 : Int32} {p2 : Int32} {Q : Int32 → S0 → Prop} (h : w6_isLetter  M p1 p2 Q) : KI B (wl 12 a (shM B.2.1 a)) yX6_isLetter cX6_isLetter 3 (some .boolean) 1 21 [.ref (a 0), .int p1, .int p2] M Q := by
  rw [w6_isLetter] at h
  refine KZ_of (by decide +kernel) (Nat.le_of_ble_eq_true rfl) (fun E C hR => ?_)
  change V B E 3 (wl 12 a (shM B.2.1 a) M) 0 [(0, .ref (a 0)), (1, .int p1), (2, .int p2)] []
  change Ok B E cX6_isLetter 3 RX6 1 21 at C
  refine v_aload_n C 0 dX6_isLetter_0 rfl rfl ?_
  refine fX6_6_g_tokenAt C dX6_isLetter_1 ?_
  refine v_iload_n C 1 dX6_isLetter_4 rfl rfl ?_
  refine v_iadd C dX6_isLetter_5 ?_
  refine v_aload_n C 0 dX6_isLetter_6 rfl rfl ?_
  refine fX6_6_g_here C dX6_isLetter_7 ?_
  refine v_icmp_ge C dX6_isLetter_10 (tgt := 35) (by decide) (fun c => ?_) (fun c => ?_)
  · replace h := h.1 c
    refine v_iload_n C 2 dX6_isLetter_35 rfl rfl ?_
    refine v_if_ne C dX6_isLetter_36 (tgt := 43) (by decide) (fun c => ?_) (fun c => ?_)
    · replace h := h.1 c
      refine v_iconst C dX6_isLetter_43 (v := (0 : Int32)) (by decide) ?_
      exact hR _ _ _ _ rfl h dX6_isLetter_44
    · replace h := h.2 c
      refine v_iconst C dX6_isLetter_39 (v := (1 : Int32)) (by decide) ?_
      refine v_goto C dX6_isLetter_40 (tgt := 44) (by decide) ?_
      exact hR _ _ _ _ rfl h dX6_isLetter_44
  · replace h := h.2 c
    refine v_aload_n C 0 dX6_isLetter_13 rfl rfl ?_
    refine v_aload_n C 0 dX6_isLetter_14 rfl rfl ?_
    refine fX6_6_g_tokenAt C dX6_isLetter_15 ?_
    refine v_iload_n C 1 dX6_isLetter_18 rfl rfl ?_
    refine v_iadd C dX6_isLetter_19 ?_
    refine v_callVi (k := 0) (As := [.int ((M 0 22) + p1)]) (rest := []) C (c6_byteAt  h) eX6_139 (by omega) (by omega) (by decide) rfl rfl rfl rfl (Nat.le_of_ble_eq_true rfl) dX6_isLetter_20 (fun r2 M1 h => ?_)
    refine v_iload_n C 2 dX6_isLetter_23 rfl rfl ?_
    refine v_icmp_ne C dX6_isLetter_24 (tgt := 31) (by decide) (fun c => ?_) (fun c => ?_)
    · replace h := h.1 c
      refine v_iconst C dX6_isLetter_31 (v := (0 : Int32)) (by decide) ?_
      refine v_goto C dX6_isLetter_32 (tgt := 44) (by decide) ?_
      exact hR _ _ _ _ rfl h dX6_isLetter_44
    · replace h := h.2 c
      refine v_iconst C dX6_isLetter_27 (v := (1 : Int32)) (by decide) ?_
      refine v_goto C dX6_isLetter_28 (tgt := 44) (by decide) ?_
      exact hR _ _ _ _ rfl h dX6_isLetter_44
def w6_isWord (M : S0) (p1 : Int32) (p2 : Int32) (p3 : Int32) (p4 : Int32) (p5 : Int32) (p6 : Int32) (p7 : Int32) (p8 : Int32) (Q : Int32 → S0 → Prop) : Prop :=
    ((¬ (M 0 25) = 0) → (Q (0 : Int32) M)) ∧ (((M 0 25) = 0) → (((¬ (M 0 21) = (1 : Int32)) → (Q (0 : Int32) M)) ∧ (((M 0 21) = (1 : Int32)) → (((((M 0 22) + (8 : Int32)) < (M 0 20)) → (Q (0 : Int32) M)) ∧ ((¬ ((M 0 22) + (8 : Int32)) < (M 0 20)) → (w6_isLetter M (0 : Int32) p1 (fun r2 M1 => ((r2 = 0) → (Q (0 : Int32) M1)) ∧ ((¬ r2 = 0) → (w6_isLetter M1 (1 : Int32) p2 (fun r4 M3 => ((r4 = 0) → (Q (0 : Int32) M3)) ∧ ((¬ r4 = 0) → (w6_isLetter M3 (2 : Int32) p3 (fun r6 M5 => ((r6 = 0) → (Q (0 : Int32) M5)) ∧ ((¬ r6 = 0) → (w6_isLetter M5 (3 : Int32) p4 (fun r8 M7 => ((r8 = 0) → (Q (0 : Int32) M7)) ∧ ((¬ r8 = 0) → (w6_isLetter M7 (4 : Int32) p5 (fun r10 M9 => ((r10 = 0) → (Q (0 : Int32) M9)) ∧ ((¬ r10 = 0) → (w6_isLetter M9 (5 : Int32) p6 (fun r12 M11 => ((r12 = 0) → (Q (0 : Int32) M11)) ∧ ((¬ r12 = 0) → (w6_isLetter M11 (6 : Int32) p7 (fun r14 M13 => ((r14 = 0) → (Q (0 : Int32) M13)) ∧ ((¬ r14 = 0) → (w6_isLetter M13 (7 : Int32) p8 (fun r16 M15 => ((r16 = 0) → (Q (0 : Int32) M15)) ∧ ((¬ r16 = 0) → (Q (1 : Int32) M15))))))))))))))))))))))))))))))
set_option maxHeartbeats 4000000 in
set_option maxRecDepth 20000 in
theorem c6_isWord {B : BX} {a : Nat → Nat} {M : S0} {p1 : Int32} {p2 : Int32} {p3 : Int32} {p4 : Int32} {p5 : Int32} {p6 : Int32} {p7 : Int32} {p8 : Int32} {Q : Int32 → S0 → Prop} (h : w6_isWord  M p1 p2 p3 p4 p5 p6 p7 p8 Q) : KI B (wl 12 a (shM B.2.1 a)) yX6_isWord cX6_isWord 9 (some .boolean) 2 43 [.ref (a 0), .int p1, .int p2, .int p3, .int p4, .int p5, .int p6, .int p7, .int p8] M Q := by
  rw [w6_isWord] at h
  refine KZ_of (by decide +kernel) (Nat.le_of_ble_eq_true rfl) (fun E C hR => ?_)
  change V B E 9 (wl 12 a (shM B.2.1 a) M) 0 [(0, .ref (a 0)), (1, .int p1), (2, .int p2), (3, .int p3), (4, .int p4), (5, .int p5), (6, .int p6), (7, .int p7), (8, .int p8)] []
  change Ok B E cX6_isWord 9 RX6 2 43 at C
  refine v_aload_n C 0 dX6_isWord_0 rfl rfl ?_
  refine fX6_6_g_bad C dX6_isWord_1 ?_
  refine v_if_ne C dX6_isWord_4 (tgt := 112) (by decide) (fun c => ?_) (fun c => ?_)
  · replace h := h.1 c
    refine v_iconst C dX6_isWord_112 (v := (0 : Int32)) (by decide) ?_
    exact hR _ _ _ _ rfl h dX6_isWord_113
  · replace h := h.2 c
    refine v_aload_n C 0 dX6_isWord_7 rfl rfl ?_
    refine fX6_6_g_token C dX6_isWord_8 ?_
    refine v_iconst C dX6_isWord_11 (v := (1 : Int32)) (by decide) ?_
    refine v_icmp_ne C dX6_isWord_12 (tgt := 112) (by decide) (fun c => ?_) (fun c => ?_)
    · replace h := h.1 c
      refine v_iconst C dX6_isWord_112 (v := (0 : Int32)) (by decide) ?_
      exact hR _ _ _ _ rfl h dX6_isWord_113
    · replace h := h.2 c
      refine v_aload_n C 0 dX6_isWord_15 rfl rfl ?_
      refine fX6_6_g_here C dX6_isWord_16 ?_
      refine v_aload_n C 0 dX6_isWord_19 rfl rfl ?_
      refine fX6_6_g_tokenAt C dX6_isWord_20 ?_
      refine v_bipush C dX6_isWord_23 (v := (8 : Int32)) (by decide) ?_
      refine v_iadd C dX6_isWord_25 ?_
      refine v_icmp_gt C dX6_isWord_26 (tgt := 112) (by decide) (fun c => ?_) (fun c => ?_)
      · replace h := h.1 c
        refine v_iconst C dX6_isWord_112 (v := (0 : Int32)) (by decide) ?_
        exact hR _ _ _ _ rfl h dX6_isWord_113
      · replace h := h.2 c
        refine v_aload_n C 0 dX6_isWord_29 rfl rfl ?_
        refine v_iconst C dX6_isWord_30 (v := (0 : Int32)) (by decide) ?_
        refine v_iload_n C 1 dX6_isWord_31 rfl rfl ?_
        refine v_callVi (k := 0) (As := [.int (0 : Int32), .int p1]) (rest := []) C (c6_isLetter  h) eX6_169 (by omega) (by omega) (by decide) rfl rfl rfl rfl (Nat.le_of_ble_eq_true rfl) dX6_isWord_32 (fun r2 M1 h => ?_)
        refine v_if_eq C dX6_isWord_35 (tgt := 112) (by decide) (fun c => ?_) (fun c => ?_)
        · replace h := h.1 c
          refine v_iconst C dX6_isWord_112 (v := (0 : Int32)) (by decide) ?_
          exact hR _ _ _ _ rfl h dX6_isWord_113
        · replace h := h.2 c
          refine v_aload_n C 0 dX6_isWord_38 rfl rfl ?_
          refine v_iconst C dX6_isWord_39 (v := (1 : Int32)) (by decide) ?_
          refine v_iload_n C 2 dX6_isWord_40 rfl rfl ?_
          refine v_callVi (k := 0) (As := [.int (1 : Int32), .int p2]) (rest := []) C (c6_isLetter  h) eX6_169 (by omega) (by omega) (by decide) rfl rfl rfl rfl (Nat.le_of_ble_eq_true rfl) dX6_isWord_41 (fun r4 M3 h => ?_)
          refine v_if_eq C dX6_isWord_44 (tgt := 112) (by decide) (fun c => ?_) (fun c => ?_)
          · replace h := h.1 c
            refine v_iconst C dX6_isWord_112 (v := (0 : Int32)) (by decide) ?_
            exact hR _ _ _ _ rfl h dX6_isWord_113
          · replace h := h.2 c
            refine v_aload_n C 0 dX6_isWord_47 rfl rfl ?_
            refine v_iconst C dX6_isWord_48 (v := (2 : Int32)) (by decide) ?_
            refine v_iload_n C 3 dX6_isWord_49 rfl rfl ?_
            refine v_callVi (k := 0) (As := [.int (2 : Int32), .int p3]) (rest := []) C (c6_isLetter  h) eX6_169 (by omega) (by omega) (by decide) rfl rfl rfl rfl (Nat.le_of_ble_eq_true rfl) dX6_isWord_50 (fun r6 M5 h => ?_)
            refine v_if_eq C dX6_isWord_53 (tgt := 112) (by decide) (fun c => ?_) (fun c => ?_)
            · replace h := h.1 c
              refine v_iconst C dX6_isWord_112 (v := (0 : Int32)) (by decide) ?_
              exact hR _ _ _ _ rfl h dX6_isWord_113
            · replace h := h.2 c
              refine v_aload_n C 0 dX6_isWord_56 rfl rfl ?_
              refine v_iconst C dX6_isWord_57 (v := (3 : Int32)) (by decide) ?_
              refine v_iload C 4 dX6_isWord_58 rfl ?_
              refine v_callVi (k := 0) (As := [.int (3 : Int32), .int p4]) (rest := []) C (c6_isLetter  h) eX6_169 (by omega) (by omega) (by decide) rfl rfl rfl rfl (Nat.le_of_ble_eq_true rfl) dX6_isWord_60 (fun r8 M7 h => ?_)
              refine v_if_eq C dX6_isWord_63 (tgt := 112) (by decide) (fun c => ?_) (fun c => ?_)
              · replace h := h.1 c
                refine v_iconst C dX6_isWord_112 (v := (0 : Int32)) (by decide) ?_
                exact hR _ _ _ _ rfl h dX6_isWord_113
              · replace h := h.2 c
                refine v_aload_n C 0 dX6_isWord_66 rfl rfl ?_
                refine v_iconst C dX6_isWord_67 (v := (4 : Int32)) (by decide) ?_
                refine v_iload C 5 dX6_isWord_68 rfl ?_
                refine v_callVi (k := 0) (As := [.int (4 : Int32), .int p5]) (rest := []) C (c6_isLetter  h) eX6_169 (by omega) (by omega) (by decide) rfl rfl rfl rfl (Nat.le_of_ble_eq_true rfl) dX6_isWord_70 (fun r10 M9 h => ?_)
                refine v_if_eq C dX6_isWord_73 (tgt := 112) (by decide) (fun c => ?_) (fun c => ?_)
                · replace h := h.1 c
                  refine v_iconst C dX6_isWord_112 (v := (0 : Int32)) (by decide) ?_
                  exact hR _ _ _ _ rfl h dX6_isWord_113
                · replace h := h.2 c
                  refine v_aload_n C 0 dX6_isWord_76 rfl rfl ?_
                  refine v_iconst C dX6_isWord_77 (v := (5 : Int32)) (by decide) ?_
                  refine v_iload C 6 dX6_isWord_78 rfl ?_
                  refine v_callVi (k := 0) (As := [.int (5 : Int32), .int p6]) (rest := []) C (c6_isLetter  h) eX6_169 (by omega) (by omega) (by decide) rfl rfl rfl rfl (Nat.le_of_ble_eq_true rfl) dX6_isWord_80 (fun r12 M11 h => ?_)
                  refine v_if_eq C dX6_isWord_83 (tgt := 112) (by decide) (fun c => ?_) (fun c => ?_)
                  · replace h := h.1 c
                    refine v_iconst C dX6_isWord_112 (v := (0 : Int32)) (by decide) ?_
                    exact hR _ _ _ _ rfl h dX6_isWord_113
                  · replace h := h.2 c
                    refine v_aload_n C 0 dX6_isWord_86 rfl rfl ?_
                    refine v_bipush C dX6_isWord_87 (v := (6 : Int32)) (by decide) ?_
                    refine v_iload C 7 dX6_isWord_89 rfl ?_
                    refine v_callVi (k := 0) (As := [.int (6 : Int32), .int p7]) (rest := []) C (c6_isLetter  h) eX6_169 (by omega) (by omega) (by decide) rfl rfl rfl rfl (Nat.le_of_ble_eq_true rfl) dX6_isWord_91 (fun r14 M13 h => ?_)
                    refine v_if_eq C dX6_isWord_94 (tgt := 112) (by decide) (fun c => ?_) (fun c => ?_)
                    · replace h := h.1 c
                      refine v_iconst C dX6_isWord_112 (v := (0 : Int32)) (by decide) ?_
                      exact hR _ _ _ _ rfl h dX6_isWord_113
                    · replace h := h.2 c
                      refine v_aload_n C 0 dX6_isWord_97 rfl rfl ?_
                      refine v_bipush C dX6_isWord_98 (v := (7 : Int32)) (by decide) ?_
                      refine v_iload C 8 dX6_isWord_100 rfl ?_
                      refine v_callVi (k := 0) (As := [.int (7 : Int32), .int p8]) (rest := []) C (c6_isLetter  h) eX6_169 (by omega) (by omega) (by decide) rfl rfl rfl rfl (Nat.le_of_ble_eq_true rfl) dX6_isWord_102 (fun r16 M15 h => ?_)
                      refine v_if_eq C dX6_isWord_105 (tgt := 112) (by decide) (fun c => ?_) (fun c => ?_)
                      · replace h := h.1 c
                        refine v_iconst C dX6_isWord_112 (v := (0 : Int32)) (by decide) ?_
                        exact hR _ _ _ _ rfl h dX6_isWord_113
                      · replace h := h.2 c
                        refine v_iconst C dX6_isWord_108 (v := (1 : Int32)) (by decide) ?_
                        refine v_goto C dX6_isWord_109 (tgt := 113) (by decide) ?_
                        exact hR _ _ _ _ rfl h dX6_isWord_113
def w6_isSign (M : S0) (p1 : Int32) (Q : Int32 → S0 → Prop) : Prop :=
    ((¬ (M 0 25) = 0) → (Q (0 : Int32) M)) ∧ (((M 0 25) = 0) → (((¬ (M 0 21) = (3 : Int32)) → (Q (0 : Int32) M)) ∧ (((M 0 21) = (3 : Int32)) → (((¬ (lg_cmp (j64 (M 0 23) (M 0 100)) (Int32.toInt64 p1)) = 0) → (Q (0 : Int32) M)) ∧ (((lg_cmp (j64 (M 0 23) (M 0 100)) (Int32.toInt64 p1)) = 0) → (Q (1 : Int32) M))))))
set_option maxHeartbeats 4000000 in
set_option maxRecDepth 20000 in
theorem c6_isSign {B : BX} {a : Nat → Nat} {M : S0} {p1 : Int32} {Q : Int32 → S0 → Prop} (h : w6_isSign  M p1 Q) : KI B (wl 12 a (shM B.2.1 a)) yX6_isSign cX6_isSign 2 (some .boolean) 0 0 [.ref (a 0), .int p1] M Q := by
  rw [w6_isSign] at h
  refine KZ_of (by decide +kernel) (Nat.le_of_ble_eq_true rfl) (fun E C hR => ?_)
  change V B E 2 (wl 12 a (shM B.2.1 a) M) 0 [(0, .ref (a 0)), (1, .int p1)] []
  change Ok B E cX6_isSign 2 RX6 0 0 at C
  refine v_aload_n C 0 dX6_isSign_0 rfl rfl ?_
  refine fX6_6_g_bad C dX6_isSign_1 ?_
  refine v_if_ne C dX6_isSign_4 (tgt := 29) (by decide) (fun c => ?_) (fun c => ?_)
  · replace h := h.1 c
    refine v_iconst C dX6_isSign_29 (v := (0 : Int32)) (by decide) ?_
    exact hR _ _ _ _ rfl h dX6_isSign_30
  · replace h := h.2 c
    refine v_aload_n C 0 dX6_isSign_7 rfl rfl ?_
    refine fX6_6_g_token C dX6_isSign_8 ?_
    refine v_iconst C dX6_isSign_11 (v := (3 : Int32)) (by decide) ?_
    refine v_icmp_ne C dX6_isSign_12 (tgt := 29) (by decide) (fun c => ?_) (fun c => ?_)
    · replace h := h.1 c
      refine v_iconst C dX6_isSign_29 (v := (0 : Int32)) (by decide) ?_
      exact hR _ _ _ _ rfl h dX6_isSign_30
    · replace h := h.2 c
      refine v_aload_n C 0 dX6_isSign_15 rfl rfl ?_
      refine fX6_6_g_tokenWorth C dX6_isSign_16 ?_
      refine v_iload_n C 1 dX6_isSign_19 rfl rfl ?_
      refine v_i2l C dX6_isSign_20 ?_
      refine v_lcmp C dX6_isSign_21 ?_
      refine v_if_ne C dX6_isSign_22 (tgt := 29) (by decide) (fun c => ?_) (fun c => ?_)
      · replace h := h.1 c
        refine v_iconst C dX6_isSign_29 (v := (0 : Int32)) (by decide) ?_
        exact hR _ _ _ _ rfl h dX6_isSign_30
      · replace h := h.2 c
        refine v_iconst C dX6_isSign_25 (v := (1 : Int32)) (by decide) ?_
        refine v_goto C dX6_isSign_26 (tgt := 30) (by decide) ?_
        exact hR _ _ _ _ rfl h dX6_isSign_30
def w6_opens (M : S0) (Q : Int32 → S0 → Prop) : Prop :=
    ((¬ (M 0 24) = (5 : Int32)) → (∀ M1 : S0, M1 = up M 0 24 ((M 0 24) + (1 : Int32)) → (w6_next M1 (fun M2 => Q (1 : Int32) M2)))) ∧ (((M 0 24) = (5 : Int32)) → (w6_fail M (fun M3 => Q (0 : Int32) M3)))
set_option maxHeartbeats 4000000 in
set_option maxRecDepth 20000 in
theorem c6_opens {B : BX} {a : Nat → Nat} {M : S0} {Q : Int32 → S0 → Prop} (h : w6_opens  M  Q) : KI B (wl 12 a (shM B.2.1 a)) yX6_opens cX6_opens 1 (some .boolean) 2 47 [.ref (a 0)] M Q := by
  rw [w6_opens] at h
  refine KZ_of (by decide +kernel) (Nat.le_of_ble_eq_true rfl) (fun E C hR => ?_)
  change V B E 1 (wl 12 a (shM B.2.1 a) M) 0 [(0, .ref (a 0))] []
  change Ok B E cX6_opens 1 RX6 2 47 at C
  refine v_aload_n C 0 dX6_opens_0 rfl rfl ?_
  refine fX6_6_g_open C dX6_opens_1 ?_
  refine v_iconst C dX6_opens_4 (v := (5 : Int32)) (by decide) ?_
  refine v_icmp_ne C dX6_opens_5 (tgt := 14) (by decide) (fun c => ?_) (fun c => ?_)
  · replace h := h.1 c
    refine v_aload_n C 0 dX6_opens_14 rfl rfl ?_
    refine v_dup C dX6_opens_15 rfl ?_
    refine fX6_6_g_open C dX6_opens_16 ?_
    refine v_iconst C dX6_opens_19 (v := (1 : Int32)) (by decide) ?_
    refine v_iadd C dX6_opens_20 ?_
    refine fX6_6_p_open C dX6_opens_21 (fun M1 eM1 => ?_)
    replace h := h M1 eM1
    refine v_aload_n C 0 dX6_opens_24 rfl rfl ?_
    refine v_callVv (k := 0) (As := []) (rest := []) C (c6_next  h) eX6_178 (by omega) (by omega) (by decide) rfl rfl rfl rfl (Nat.le_of_ble_eq_true rfl) dX6_opens_25 (fun M2 h => ?_)
    refine v_iconst C dX6_opens_28 (v := (1 : Int32)) (by decide) ?_
    exact hR _ _ _ _ rfl h dX6_opens_29
  · replace h := h.2 c
    refine v_aload_n C 0 dX6_opens_8 rfl rfl ?_
    refine v_callVv (k := 0) (As := []) (rest := []) C (c6_fail  h) eX6_175 (by omega) (by omega) (by decide) rfl rfl rfl rfl (Nat.le_of_ble_eq_true rfl) dX6_opens_9 (fun M3 h => ?_)
    refine v_iconst C dX6_opens_12 (v := (0 : Int32)) (by decide) ?_
    exact hR _ _ _ _ rfl h dX6_opens_13
def w6_name (M : S0) (Q : Int32 → S0 → Prop) : Prop :=
    w6_isWord M (115 : Int32) (116 : Int32) (114 : Int32) (111 : Int32) (110 : Int32) (103 : Int32) (0 : Int32) (0 : Int32) (fun r2 M1 => ((r2 = 0) → (w6_isWord M1 (104 : Int32) (97 : Int32) (115 : Int32) (0 : Int32) (0 : Int32) (0 : Int32) (0 : Int32) (0 : Int32) (fun r4 M3 => ((r4 = 0) → (w6_isWord M3 (110 : Int32) (117 : Int32) (109 : Int32) (98 : Int32) (101 : Int32) (114 : Int32) (0 : Int32) (0 : Int32) (fun r6 M5 => ((r6 = 0) → (w6_isWord M5 (116 : Int32) (104 : Int32) (101 : Int32) (105 : Int32) (114 : Int32) (115 : Int32) (0 : Int32) (0 : Int32) (fun r8 M7 => ((r8 = 0) → (w6_isWord M7 (114 : Int32) (111 : Int32) (117 : Int32) (110 : Int32) (100 : Int32) (0 : Int32) (0 : Int32) (0 : Int32) (fun r10 M9 => ((r10 = 0) → (w6_isWord M9 (115 : Int32) (116 : Int32) (97 : Int32) (107 : Int32) (101 : Int32) (0 : Int32) (0 : Int32) (0 : Int32) (fun r12 M11 => ((r12 = 0) → (w6_fail M11 (fun M13 => Q (0 : Int32) M13))) ∧ ((¬ r12 = 0) → (Q (M11 0 17) M11))))) ∧ ((¬ r10 = 0) → (Q (M9 0 16) M9))))) ∧ ((¬ r8 = 0) → (Q (M7 0 15) M7))))) ∧ ((¬ r6 = 0) → (Q (M5 0 14) M5))))) ∧ ((¬ r4 = 0) → (Q (M3 0 13) M3))))) ∧ ((¬ r2 = 0) → (Q (M1 0 12) M1)))
set_option maxHeartbeats 4000000 in
set_option maxRecDepth 20000 in
theorem c6_name {B : BX} {a : Nat → Nat} {M : S0} {Q : Int32 → S0 → Prop} (h : w6_name  M  Q) : KI B (wl 12 a (shM B.2.1 a)) yX6_name cX6_name 1 (some .int) 3 71 [.ref (a 0)] M Q := by
  rw [w6_name] at h
  refine KI_of (by decide +kernel) (Nat.le_of_ble_eq_true rfl) (fun E C hR => ?_)
  change V B E 1 (wl 12 a (shM B.2.1 a) M) 0 [(0, .ref (a 0))] []
  change Ok B E cX6_name 1 RX6 3 71 at C
  refine v_aload_n C 0 dX6_name_0 rfl rfl ?_
  refine v_bipush C dX6_name_1 (v := (115 : Int32)) (by decide) ?_
  refine v_bipush C dX6_name_3 (v := (116 : Int32)) (by decide) ?_
  refine v_bipush C dX6_name_5 (v := (114 : Int32)) (by decide) ?_
  refine v_bipush C dX6_name_7 (v := (111 : Int32)) (by decide) ?_
  refine v_bipush C dX6_name_9 (v := (110 : Int32)) (by decide) ?_
  refine v_bipush C dX6_name_11 (v := (103 : Int32)) (by decide) ?_
  refine v_iconst C dX6_name_13 (v := (0 : Int32)) (by decide) ?_
  refine v_iconst C dX6_name_14 (v := (0 : Int32)) (by decide) ?_
  refine v_callVi (k := 0) (As := [.int (115 : Int32), .int (116 : Int32), .int (114 : Int32), .int (111 : Int32), .int (110 : Int32), .int (103 : Int32), .int (0 : Int32), .int (0 : Int32)]) (rest := []) C (c6_isWord  h) eX6_181 (by omega) (by omega) (by decide) rfl rfl rfl rfl (Nat.le_of_ble_eq_true rfl) dX6_name_15 (fun r2 M1 h => ?_)
  refine v_if_eq C dX6_name_18 (tgt := 26) (by decide) (fun c => ?_) (fun c => ?_)
  · replace h := h.1 c
    refine v_aload_n C 0 dX6_name_26 rfl rfl ?_
    refine v_bipush C dX6_name_27 (v := (104 : Int32)) (by decide) ?_
    refine v_bipush C dX6_name_29 (v := (97 : Int32)) (by decide) ?_
    refine v_bipush C dX6_name_31 (v := (115 : Int32)) (by decide) ?_
    refine v_iconst C dX6_name_33 (v := (0 : Int32)) (by decide) ?_
    refine v_iconst C dX6_name_34 (v := (0 : Int32)) (by decide) ?_
    refine v_iconst C dX6_name_35 (v := (0 : Int32)) (by decide) ?_
    refine v_iconst C dX6_name_36 (v := (0 : Int32)) (by decide) ?_
    refine v_iconst C dX6_name_37 (v := (0 : Int32)) (by decide) ?_
    refine v_callVi (k := 0) (As := [.int (104 : Int32), .int (97 : Int32), .int (115 : Int32), .int (0 : Int32), .int (0 : Int32), .int (0 : Int32), .int (0 : Int32), .int (0 : Int32)]) (rest := []) C (c6_isWord  h) eX6_181 (by omega) (by omega) (by decide) rfl rfl rfl rfl (Nat.le_of_ble_eq_true rfl) dX6_name_38 (fun r4 M3 h => ?_)
    refine v_if_eq C dX6_name_41 (tgt := 49) (by decide) (fun c => ?_) (fun c => ?_)
    · replace h := h.1 c
      refine v_aload_n C 0 dX6_name_49 rfl rfl ?_
      refine v_bipush C dX6_name_50 (v := (110 : Int32)) (by decide) ?_
      refine v_bipush C dX6_name_52 (v := (117 : Int32)) (by decide) ?_
      refine v_bipush C dX6_name_54 (v := (109 : Int32)) (by decide) ?_
      refine v_bipush C dX6_name_56 (v := (98 : Int32)) (by decide) ?_
      refine v_bipush C dX6_name_58 (v := (101 : Int32)) (by decide) ?_
      refine v_bipush C dX6_name_60 (v := (114 : Int32)) (by decide) ?_
      refine v_iconst C dX6_name_62 (v := (0 : Int32)) (by decide) ?_
      refine v_iconst C dX6_name_63 (v := (0 : Int32)) (by decide) ?_
      refine v_callVi (k := 0) (As := [.int (110 : Int32), .int (117 : Int32), .int (109 : Int32), .int (98 : Int32), .int (101 : Int32), .int (114 : Int32), .int (0 : Int32), .int (0 : Int32)]) (rest := []) C (c6_isWord  h) eX6_181 (by omega) (by omega) (by decide) rfl rfl rfl rfl (Nat.le_of_ble_eq_true rfl) dX6_name_64 (fun r6 M5 h => ?_)
      refine v_if_eq C dX6_name_67 (tgt := 75) (by decide) (fun c => ?_) (fun c => ?_)
      · replace h := h.1 c
        refine v_aload_n C 0 dX6_name_75 rfl rfl ?_
        refine v_bipush C dX6_name_76 (v := (116 : Int32)) (by decide) ?_
        refine v_bipush C dX6_name_78 (v := (104 : Int32)) (by decide) ?_
        refine v_bipush C dX6_name_80 (v := (101 : Int32)) (by decide) ?_
        refine v_bipush C dX6_name_82 (v := (105 : Int32)) (by decide) ?_
        refine v_bipush C dX6_name_84 (v := (114 : Int32)) (by decide) ?_
        refine v_bipush C dX6_name_86 (v := (115 : Int32)) (by decide) ?_
        refine v_iconst C dX6_name_88 (v := (0 : Int32)) (by decide) ?_
        refine v_iconst C dX6_name_89 (v := (0 : Int32)) (by decide) ?_
        refine v_callVi (k := 0) (As := [.int (116 : Int32), .int (104 : Int32), .int (101 : Int32), .int (105 : Int32), .int (114 : Int32), .int (115 : Int32), .int (0 : Int32), .int (0 : Int32)]) (rest := []) C (c6_isWord  h) eX6_181 (by omega) (by omega) (by decide) rfl rfl rfl rfl (Nat.le_of_ble_eq_true rfl) dX6_name_90 (fun r8 M7 h => ?_)
        refine v_if_eq C dX6_name_93 (tgt := 101) (by decide) (fun c => ?_) (fun c => ?_)
        · replace h := h.1 c
          refine v_aload_n C 0 dX6_name_101 rfl rfl ?_
          refine v_bipush C dX6_name_102 (v := (114 : Int32)) (by decide) ?_
          refine v_bipush C dX6_name_104 (v := (111 : Int32)) (by decide) ?_
          refine v_bipush C dX6_name_106 (v := (117 : Int32)) (by decide) ?_
          refine v_bipush C dX6_name_108 (v := (110 : Int32)) (by decide) ?_
          refine v_bipush C dX6_name_110 (v := (100 : Int32)) (by decide) ?_
          refine v_iconst C dX6_name_112 (v := (0 : Int32)) (by decide) ?_
          refine v_iconst C dX6_name_113 (v := (0 : Int32)) (by decide) ?_
          refine v_iconst C dX6_name_114 (v := (0 : Int32)) (by decide) ?_
          refine v_callVi (k := 0) (As := [.int (114 : Int32), .int (111 : Int32), .int (117 : Int32), .int (110 : Int32), .int (100 : Int32), .int (0 : Int32), .int (0 : Int32), .int (0 : Int32)]) (rest := []) C (c6_isWord  h) eX6_181 (by omega) (by omega) (by decide) rfl rfl rfl rfl (Nat.le_of_ble_eq_true rfl) dX6_name_115 (fun r10 M9 h => ?_)
          refine v_if_eq C dX6_name_118 (tgt := 126) (by decide) (fun c => ?_) (fun c => ?_)
          · replace h := h.1 c
            refine v_aload_n C 0 dX6_name_126 rfl rfl ?_
            refine v_bipush C dX6_name_127 (v := (115 : Int32)) (by decide) ?_
            refine v_bipush C dX6_name_129 (v := (116 : Int32)) (by decide) ?_
            refine v_bipush C dX6_name_131 (v := (97 : Int32)) (by decide) ?_
            refine v_bipush C dX6_name_133 (v := (107 : Int32)) (by decide) ?_
            refine v_bipush C dX6_name_135 (v := (101 : Int32)) (by decide) ?_
            refine v_iconst C dX6_name_137 (v := (0 : Int32)) (by decide) ?_
            refine v_iconst C dX6_name_138 (v := (0 : Int32)) (by decide) ?_
            refine v_iconst C dX6_name_139 (v := (0 : Int32)) (by decide) ?_
            refine v_callVi (k := 0) (As := [.int (115 : Int32), .int (116 : Int32), .int (97 : Int32), .int (107 : Int32), .int (101 : Int32), .int (0 : Int32), .int (0 : Int32), .int (0 : Int32)]) (rest := []) C (c6_isWord  h) eX6_181 (by omega) (by omega) (by decide) rfl rfl rfl rfl (Nat.le_of_ble_eq_true rfl) dX6_name_140 (fun r12 M11 h => ?_)
            refine v_if_eq C dX6_name_143 (tgt := 151) (by decide) (fun c => ?_) (fun c => ?_)
            · replace h := h.1 c
              refine v_aload_n C 0 dX6_name_151 rfl rfl ?_
              refine v_callVv (k := 0) (As := []) (rest := []) C (c6_fail  h) eX6_175 (by omega) (by omega) (by decide) rfl rfl rfl rfl (Nat.le_of_ble_eq_true rfl) dX6_name_152 (fun M13 h => ?_)
              refine v_iconst C dX6_name_155 (v := (0 : Int32)) (by decide) ?_
              exact hR _ _ _ _ h dX6_name_156
            · replace h := h.2 c
              refine v_aload_n C 0 dX6_name_146 rfl rfl ?_
              refine fX6_6_g_ofStake C dX6_name_147 ?_
              exact hR _ _ _ _ h dX6_name_150
          · replace h := h.2 c
            refine v_aload_n C 0 dX6_name_121 rfl rfl ?_
            refine fX6_6_g_ofRound C dX6_name_122 ?_
            exact hR _ _ _ _ h dX6_name_125
        · replace h := h.2 c
          refine v_aload_n C 0 dX6_name_96 rfl rfl ?_
          refine fX6_6_g_ofTheirs C dX6_name_97 ?_
          exact hR _ _ _ _ h dX6_name_100
      · replace h := h.2 c
        refine v_aload_n C 0 dX6_name_70 rfl rfl ?_
        refine fX6_6_g_ofNumber C dX6_name_71 ?_
        exact hR _ _ _ _ h dX6_name_74
    · replace h := h.2 c
      refine v_aload_n C 0 dX6_name_44 rfl rfl ?_
      refine fX6_6_g_ofHas C dX6_name_45 ?_
      exact hR _ _ _ _ h dX6_name_48
  · replace h := h.2 c
    refine v_aload_n C 0 dX6_name_21 rfl rfl ?_
    refine fX6_6_g_ofStrong C dX6_name_22 ?_
    exact hR _ _ _ _ h dX6_name_25
