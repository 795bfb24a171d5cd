def w1_isDigit (M : S0) (p1 : Int32) (Q : Int32 → S0 → Prop) : Prop :=
    ((p1 < (48 : Int32)) → (Q (0 : Int32) M)) ∧ ((¬ p1 < (48 : Int32)) → ((((57 : Int32) < p1) → (Q (0 : Int32) M)) ∧ ((¬ (57 : Int32) < p1) → (Q (1 : Int32) M))))
set_option maxHeartbeats 4000000 in
set_option maxRecDepth 20000 in
theorem c1_isDigit {B : BX} {a : Nat → Nat} {M : S0} {p1 : Int32} {Q : Int32 → S0 → Prop} (h : w1_isDigit  M p1 Q) : KI B (wl 3 a (shR B.2.1 a)) yX1_isDigit cX1_isDigit 1 (some .boolean) 0 0 [.int p1] M Q := by
  rw [w1_isDigit] at h
  refine KZ_of (by decide +kernel) (Nat.le_of_ble_eq_true rfl) (fun E C hR => ?_)
  change V B E 1 (wl 3 a (shR B.2.1 a) M) 0 [(0, .int p1)] []
  change Ok B E cX1_isDigit 1 RX1 0 0 at C
  refine v_iload_n C 0 dX1_isDigit_0 rfl rfl ?_
  refine v_bipush C dX1_isDigit_1 (v := (48 : Int32)) (by decide) ?_
  refine v_icmp_lt C dX1_isDigit_3 (tgt := 16) (by decide) (fun c => ?_) (fun c => ?_)
  · replace h := h.1 c
    refine v_iconst C dX1_isDigit_16 (v := (0 : Int32)) (by decide) ?_
    exact hR _ _ _ _ rfl h dX1_isDigit_17
  · replace h := h.2 c
    refine v_iload_n C 0 dX1_isDigit_6 rfl rfl ?_
    refine v_bipush C dX1_isDigit_7 (v := (57 : Int32)) (by decide) ?_
    refine v_icmp_gt C dX1_isDigit_9 (tgt := 16) (by decide) (fun c => ?_) (fun c => ?_)
    · replace h := h.1 c
      refine v_iconst C dX1_isDigit_16 (v := (0 : Int32)) (by decide) ?_
      exact hR _ _ _ _ rfl h dX1_isDigit_17
    · replace h := h.2 c
      refine v_iconst C dX1_isDigit_12 (v := (1 : Int32)) (by decide) ?_
      refine v_goto C dX1_isDigit_13 (tgt := 17) (by decide) ?_
      exact hR _ _ _ _ rfl h dX1_isDigit_17
def w1_readNumber_b9 (Q : S0 → Prop) : Nat → S0 → Int32 → Int32 → Prop
  | 0, _, _, _ => False
  | n + 1, M, v1_9, v2_9 =>
    (((160 : Int32) ≤ v2_9) → (((v1_9 ≤ (4 : Int32)) → (∀ M3 : S0, M3 = up M 0 6 (7 : Int32) → (Q M3))) ∧ ((¬ v1_9 ≤ (4 : Int32)) → (∀ M4 : S0, M4 = up M 0 6 (9 : Int32) → (Q M4))))) ∧ ((¬ (160 : Int32) ≤ v2_9) → (w1_byteAt M (M 0 5) (fun r6 M5 => w1_isDigit M5 r6 (fun r8 M7 => ((r8 = 0) → (((v1_9 ≤ (4 : Int32)) → (∀ M9 : S0, M9 = up M7 0 6 (7 : Int32) → (Q M9))) ∧ ((¬ v1_9 ≤ (4 : Int32)) → (∀ M10 : S0, M10 = up M7 0 6 (9 : Int32) → (Q M10))))) ∧ ((¬ r8 = 0) → (∀ x11 : Int32, x11 = v1_9 + (1 : Int32) → (((x11 ≤ (4 : Int32)) → (w1_byteAt M7 (M7 0 5) (fun r13 M12 => ∀ M14 : S0, M14 = up M12 0 8 ((((M7 0 8) * (10 : Int32)) + r13) - (48 : Int32)) → (∀ M15 : S0, M15 = up M14 0 5 ((M14 0 5) + (1 : Int32)) → (∀ x16 : Int32, x16 = v2_9 + (1 : Int32) → (w1_readNumber_b9   Q n M15 x11 x16)))))) ∧ ((¬ x11 ≤ (4 : Int32)) → (∀ M17 : S0, M17 = up M7 0 8 (M7 0 8) → (∀ M18 : S0, M18 = up M17 0 5 ((M17 0 5) + (1 : Int32)) → (∀ x19 : Int32, x19 = v2_9 + (1 : Int32) → (w1_readNumber_b9   Q n M18 x11 x19))))))))))))
set_option maxHeartbeats 4000000 in
set_option maxRecDepth 20000 in
theorem t1_readNumber_b9 {B : BX} {E : EX} {a : Nat → Nat} {Q : S0 → Prop} (C : Ok B E cX1_readNumber 3 RX1 1 21) (hR : RetV B E cX1_readNumber 3 (wl 3 a (shR B.2.1 a)) Q) : ∀ (n : Nat) (M : S0) (v1_9 : Int32) (v2_9 : Int32), w1_readNumber_b9   Q n M v1_9 v2_9 → V B E 3 (wl 3 a (shR B.2.1 a) M) 9 [(0, .ref (a 0)), (1, .int v1_9), (2, .int v2_9)] [] := by
  intro n
  induction n with
  | zero =>
    intro M v1_9 v2_9  h
    exact h.elim
  | succ n ih =>
    intro M v1_9 v2_9  h
    rw [w1_readNumber_b9] at h
    refine v_iload_n C 2 dX1_readNumber_9 rfl rfl ?_
    refine v_sipush C dX1_readNumber_10 (v := (160 : Int32)) (by decide) ?_
    refine v_icmp_ge C dX1_readNumber_13 (tgt := 84) (by decide) (fun c => ?_) (fun c => ?_)
    · replace h := h.1 c
      refine v_aload_n C 0 dX1_readNumber_84 rfl rfl ?_
      refine v_iload_n C 1 dX1_readNumber_85 rfl rfl ?_
      refine v_iconst C dX1_readNumber_86 (v := (4 : Int32)) (by decide) ?_
      refine v_icmp_le C dX1_readNumber_87 (tgt := 95) (by decide) (fun c => ?_) (fun c => ?_)
      · replace h := h.1 c
        refine v_bipush C dX1_readNumber_95 (v := (7 : Int32)) (by decide) ?_
        refine fX1_1_p_token C dX1_readNumber_97 (fun M3 eM3 => ?_)
        replace h := h M3 eM3
        exact hR _ _ _ h dX1_readNumber_100
      · replace h := h.2 c
        refine v_bipush C dX1_readNumber_90 (v := (9 : Int32)) (by decide) ?_
        refine v_goto C dX1_readNumber_92 (tgt := 97) (by decide) ?_
        refine fX1_1_p_token C dX1_readNumber_97 (fun M4 eM4 => ?_)
        replace h := h M4 eM4
        exact hR _ _ _ h dX1_readNumber_100
    · replace h := h.2 c
      refine v_aload_n C 0 dX1_readNumber_16 rfl rfl ?_
      refine v_aload_n C 0 dX1_readNumber_17 rfl rfl ?_
      refine fX1_1_g_place C dX1_readNumber_18 ?_
      refine v_callVi (k := 0) (As := [.int (M 0 5)]) (rest := []) C (c1_byteAt  h) eX1_108 (by omega) (by omega) (by decide) rfl rfl rfl rfl (Nat.le_of_ble_eq_true rfl) dX1_readNumber_21 (fun r6 M5 h => ?_)
      refine v_callSi (As := [.int r6]) (rest := []) C (c1_isDigit  h) eX1_118 (by omega) (by omega) rfl rfl (Nat.le_of_ble_eq_true rfl) dX1_readNumber_24 (fun r8 M7 h => ?_)
      refine v_if_eq C dX1_readNumber_27 (tgt := 84) (by decide) (fun c => ?_) (fun c => ?_)
      · replace h := h.1 c
        refine v_aload_n C 0 dX1_readNumber_84 rfl rfl ?_
        refine v_iload_n C 1 dX1_readNumber_85 rfl rfl ?_
        refine v_iconst C dX1_readNumber_86 (v := (4 : Int32)) (by decide) ?_
        refine v_icmp_le C dX1_readNumber_87 (tgt := 95) (by decide) (fun c => ?_) (fun c => ?_)
        · replace h := h.1 c
          refine v_bipush C dX1_readNumber_95 (v := (7 : Int32)) (by decide) ?_
          refine fX1_1_p_token C dX1_readNumber_97 (fun M9 eM9 => ?_)
          replace h := h M9 eM9
          exact hR _ _ _ h dX1_readNumber_100
        · replace h := h.2 c
          refine v_bipush C dX1_readNumber_90 (v := (9 : Int32)) (by decide) ?_
          refine v_goto C dX1_readNumber_92 (tgt := 97) (by decide) ?_
          refine fX1_1_p_token C dX1_readNumber_97 (fun M10 eM10 => ?_)
          replace h := h M10 eM10
          exact hR _ _ _ h dX1_readNumber_100
      · replace h := h.2 c
        obtain ⟨x11, ex11⟩ : ∃ z : Int32, z = v1_9 + (1 : Int32) := ⟨_, rfl⟩
        replace h := h x11 ex11
        refine v_iinc (v := x11) (lv' := [(1, .int x11), (0, .ref (a 0)), (2, .int v2_9)]) C 1 dX1_readNumber_30 rfl (by rw [ex11]; rfl) (by decide) rfl ?_
        refine v_aload_n C 1 dX1_readNumber_33 rfl rfl ?_
        refine v_iload_n C 0 dX1_readNumber_34 rfl rfl ?_
        refine v_iconst C dX1_readNumber_35 (v := (4 : Int32)) (by decide) ?_
        refine v_icmp_le C dX1_readNumber_36 (tgt := 46) (by decide) (fun c => ?_) (fun c => ?_)
        · replace h := h.1 c
          refine v_aload_n C 1 dX1_readNumber_46 rfl rfl ?_
          refine fX1_1_g_value C dX1_readNumber_47 ?_
          refine v_bipush C dX1_readNumber_50 (v := (10 : Int32)) (by decide) ?_
          refine v_imul C dX1_readNumber_52 ?_
          refine v_aload_n C 1 dX1_readNumber_53 rfl rfl ?_
          refine v_aload_n C 1 dX1_readNumber_54 rfl rfl ?_
          refine fX1_1_g_place C dX1_readNumber_55 ?_
          refine v_callVi (k := 0) (As := [.int (M7 0 5)]) (rest := [.int ((M7 0 8) * (10 : Int32)), .ref (a 0)]) C (c1_byteAt  h) eX1_108 (by omega) (by omega) (by decide) rfl rfl rfl rfl (Nat.le_of_ble_eq_true rfl) dX1_readNumber_58 (fun r13 M12 h => ?_)
          refine v_iadd C dX1_readNumber_61 ?_
          refine v_bipush C dX1_readNumber_62 (v := (48 : Int32)) (by decide) ?_
          refine v_isub C dX1_readNumber_64 ?_
          refine fX1_1_p_value C dX1_readNumber_65 (fun M14 eM14 => ?_)
          replace h := h M14 eM14
          refine v_aload_n C 1 dX1_readNumber_68 rfl rfl ?_
          refine v_dup C dX1_readNumber_69 rfl ?_
          refine fX1_1_g_place C dX1_readNumber_70 ?_
          refine v_iconst C dX1_readNumber_73 (v := (1 : Int32)) (by decide) ?_
          refine v_iadd C dX1_readNumber_74 ?_
          refine fX1_1_p_place C dX1_readNumber_75 (fun M15 eM15 => ?_)
          replace h := h M15 eM15
          obtain ⟨x16, ex16⟩ : ∃ z : Int32, z = v2_9 + (1 : Int32) := ⟨_, rfl⟩
          replace h := h x16 ex16
          refine v_iinc (v := x16) (lv' := [(2, .int x16), (1, .int x11), (0, .ref (a 0))]) C 2 dX1_readNumber_78 rfl (by rw [ex16]; rfl) (by decide) rfl ?_
          refine v_goto C dX1_readNumber_81 (tgt := 9) (by decide) ?_
          refine v_sub [2, 1, 0] rfl ?_
          exact ih M15 x11 x16  h
        · replace h := h.2 c
          refine v_aload_n C 1 dX1_readNumber_39 rfl rfl ?_
          refine fX1_1_g_value C dX1_readNumber_40 ?_
          refine v_goto C dX1_readNumber_43 (tgt := 65) (by decide) ?_
          refine fX1_1_p_value C dX1_readNumber_65 (fun M17 eM17 => ?_)
          replace h := h M17 eM17
          refine v_aload_n C 1 dX1_readNumber_68 rfl rfl ?_
          refine v_dup C dX1_readNumber_69 rfl ?_
          refine fX1_1_g_place C dX1_readNumber_70 ?_
          refine v_iconst C dX1_readNumber_73 (v := (1 : Int32)) (by decide) ?_
          refine v_iadd C dX1_readNumber_74 ?_
          refine fX1_1_p_place C dX1_readNumber_75 (fun M18 eM18 => ?_)
          replace h := h M18 eM18
          obtain ⟨x19, ex19⟩ : ∃ z : Int32, z = v2_9 + (1 : Int32) := ⟨_, rfl⟩
          replace h := h x19 ex19
          refine v_iinc (v := x19) (lv' := [(2, .int x19), (1, .int x11), (0, .ref (a 0))]) C 2 dX1_readNumber_78 rfl (by rw [ex19]; rfl) (by decide) rfl ?_
          refine v_goto C dX1_readNumber_81 (tgt := 9) (by decide) ?_
          refine v_sub [2, 1, 0] rfl ?_
          exact ih M18 x11 x19  h
def w1_readNumber (M : S0) (Q : S0 → Prop) : Prop :=
    ∀ M1 : S0, M1 = up M 0 8 (0 : Int32) → (∃ n2, w1_readNumber_b9   Q n2 M1 (0 : Int32) (0 : Int32))
set_option maxHeartbeats 4000000 in
set_option maxRecDepth 20000 in
theorem c1_readNumber {B : BX} {a : Nat → Nat} {M : S0} {Q : S0 → Prop} (h : w1_readNumber  M  Q) : KV B (wl 3 a (shR B.2.1 a)) yX1_readNumber cX1_readNumber 3 none 1 21 [.ref (a 0)] M Q := by
  rw [w1_readNumber] at h
  refine KV_of (by decide +kernel) (Nat.le_of_ble_eq_true rfl) (fun E C hR => ?_)
  change V B E 3 (wl 3 a (shR B.2.1 a) M) 0 [(0, .ref (a 0))] []
  change Ok B E cX1_readNumber 3 RX1 1 21 at C
  refine v_iconst C dX1_readNumber_0 (v := (0 : Int32)) (by decide) ?_
  refine v_istore_n (lv' := [(1, .int (0 : Int32)), (0, .ref (a 0))]) C dX1_readNumber_1 rfl (by decide) rfl ?_
  refine v_aload_n C 1 dX1_readNumber_2 rfl rfl ?_
  refine v_iconst C dX1_readNumber_3 (v := (0 : Int32)) (by decide) ?_
  refine fX1_1_p_value C dX1_readNumber_4 (fun M1 eM1 => ?_)
  replace h := h M1 eM1
  refine v_iconst C dX1_readNumber_7 (v := (0 : Int32)) (by decide) ?_
  refine v_istore_n (lv' := [(2, .int (0 : Int32)), (1, .int (0 : Int32)), (0, .ref (a 0))]) C dX1_readNumber_8 rfl (by decide) rfl ?_
  obtain ⟨n2, h⟩ := h
  refine v_sub [2, 1, 0] rfl ?_
  exact t1_readNumber_b9   C hR  n2 M1 (0 : Int32) (0 : Int32)  h
def w1_isSign (M : S0) (p1 : Int32) (Q : Int32 → S0 → Prop) : Prop :=
    ((p1 = (40 : Int32)) → (Q (1 : Int32) M)) ∧ ((¬ p1 = (40 : Int32)) → (((p1 = (41 : Int32)) → (Q (1 : Int32) M)) ∧ ((¬ p1 = (41 : Int32)) → (((p1 = (59 : Int32)) → (Q (1 : Int32) M)) ∧ ((¬ p1 = (59 : Int32)) → (((p1 = (43 : Int32)) → (Q (1 : Int32) M)) ∧ ((¬ p1 = (43 : Int32)) → (((p1 = (45 : Int32)) → (Q (1 : Int32) M)) ∧ ((¬ p1 = (45 : Int32)) → (((p1 = (42 : Int32)) → (Q (1 : Int32) M)) ∧ ((¬ p1 = (42 : Int32)) → (((p1 = (60 : Int32)) → (Q (1 : Int32) M)) ∧ ((¬ p1 = (60 : Int32)) → (((¬ p1 = (61 : Int32)) → (Q (0 : Int32) M)) ∧ ((p1 = (61 : Int32)) → (Q (1 : Int32) M))))))))))))))))
set_option maxHeartbeats 4000000 in
set_option maxRecDepth 20000 in
theorem c1_isSign {B : BX} {a : Nat → Nat} {M : S0} {p1 : Int32} {Q : Int32 → S0 → Prop} (h : w1_isSign  M p1 Q) : KI B (wl 3 a (shR B.2.1 a)) yX1_isSign cX1_isSign 1 (some .boolean) 0 0 [.int p1] M Q := by
  rw [w1_isSign] at h
  refine KZ_of (by decide +kernel) (Nat.le_of_ble_eq_true rfl) (fun E C hR => ?_)
  change V B E 1 (wl 3 a (shR B.2.1 a) M) 0 [(0, .int p1)] []
  change Ok B E cX1_isSign 1 RX1 0 0 at C
  refine v_iload_n C 0 dX1_isSign_0 rfl rfl ?_
  refine v_bipush C dX1_isSign_1 (v := (40 : Int32)) (by decide) ?_
  refine v_icmp_eq C dX1_isSign_3 (tgt := 48) (by decide) (fun c => ?_) (fun c => ?_)
  · replace h := h.1 c
    refine v_iconst C dX1_isSign_48 (v := (1 : Int32)) (by decide) ?_
    refine v_goto C dX1_isSign_49 (tgt := 53) (by decide) ?_
    exact hR _ _ _ _ rfl h dX1_isSign_53
  · replace h := h.2 c
    refine v_iload_n C 0 dX1_isSign_6 rfl rfl ?_
    refine v_bipush C dX1_isSign_7 (v := (41 : Int32)) (by decide) ?_
    refine v_icmp_eq C dX1_isSign_9 (tgt := 48) (by decide) (fun c => ?_) (fun c => ?_)
    · replace h := h.1 c
      refine v_iconst C dX1_isSign_48 (v := (1 : Int32)) (by decide) ?_
      refine v_goto C dX1_isSign_49 (tgt := 53) (by decide) ?_
      exact hR _ _ _ _ rfl h dX1_isSign_53
    · replace h := h.2 c
      refine v_iload_n C 0 dX1_isSign_12 rfl rfl ?_
      refine v_bipush C dX1_isSign_13 (v := (59 : Int32)) (by decide) ?_
      refine v_icmp_eq C dX1_isSign_15 (tgt := 48) (by decide) (fun c => ?_) (fun c => ?_)
      · replace h := h.1 c
        refine v_iconst C dX1_isSign_48 (v := (1 : Int32)) (by decide) ?_
        refine v_goto C dX1_isSign_49 (tgt := 53) (by decide) ?_
        exact hR _ _ _ _ rfl h dX1_isSign_53
      · replace h := h.2 c
        refine v_iload_n C 0 dX1_isSign_18 rfl rfl ?_
        refine v_bipush C dX1_isSign_19 (v := (43 : Int32)) (by decide) ?_
        refine v_icmp_eq C dX1_isSign_21 (tgt := 48) (by decide) (fun c => ?_) (fun c => ?_)
        · replace h := h.1 c
          refine v_iconst C dX1_isSign_48 (v := (1 : Int32)) (by decide) ?_
          refine v_goto C dX1_isSign_49 (tgt := 53) (by decide) ?_
          exact hR _ _ _ _ rfl h dX1_isSign_53
        · replace h := h.2 c
          refine v_iload_n C 0 dX1_isSign_24 rfl rfl ?_
          refine v_bipush C dX1_isSign_25 (v := (45 : Int32)) (by decide) ?_
          refine v_icmp_eq C dX1_isSign_27 (tgt := 48) (by decide) (fun c => ?_) (fun c => ?_)
          · replace h := h.1 c
            refine v_iconst C dX1_isSign_48 (v := (1 : Int32)) (by decide) ?_
            refine v_goto C dX1_isSign_49 (tgt := 53) (by decide) ?_
            exact hR _ _ _ _ rfl h dX1_isSign_53
          · replace h := h.2 c
            refine v_iload_n C 0 dX1_isSign_30 rfl rfl ?_
            refine v_bipush C dX1_isSign_31 (v := (42 : Int32)) (by decide) ?_
            refine v_icmp_eq C dX1_isSign_33 (tgt := 48) (by decide) (fun c => ?_) (fun c => ?_)
            · replace h := h.1 c
              refine v_iconst C dX1_isSign_48 (v := (1 : Int32)) (by decide) ?_
              refine v_goto C dX1_isSign_49 (tgt := 53) (by decide) ?_
              exact hR _ _ _ _ rfl h dX1_isSign_53
            · replace h := h.2 c
              refine v_iload_n C 0 dX1_isSign_36 rfl rfl ?_
              refine v_bipush C dX1_isSign_37 (v := (60 : Int32)) (by decide) ?_
              refine v_icmp_eq C dX1_isSign_39 (tgt := 48) (by decide) (fun c => ?_) (fun c => ?_)
              · replace h := h.1 c
                refine v_iconst C dX1_isSign_48 (v := (1 : Int32)) (by decide) ?_
                refine v_goto C dX1_isSign_49 (tgt := 53) (by decide) ?_
                exact hR _ _ _ _ rfl h dX1_isSign_53
              · replace h := h.2 c
                refine v_iload_n C 0 dX1_isSign_42 rfl rfl ?_
                refine v_bipush C dX1_isSign_43 (v := (61 : Int32)) (by decide) ?_
                refine v_icmp_ne C dX1_isSign_45 (tgt := 52) (by decide) (fun c => ?_) (fun c => ?_)
                · replace h := h.1 c
                  refine v_iconst C dX1_isSign_52 (v := (0 : Int32)) (by decide) ?_
                  exact hR _ _ _ _ rfl h dX1_isSign_53
                · replace h := h.2 c
                  refine v_iconst C dX1_isSign_48 (v := (1 : Int32)) (by decide) ?_
                  refine v_goto C dX1_isSign_49 (tgt := 53) (by decide) ?_
                  exact hR _ _ _ _ rfl h dX1_isSign_53
def w1_next_b2 (Q : S0 → Prop) : Nat → S0 → Int32 → Prop
  | 0, _, _ => False
  | n + 1, M, v1_2 =>
    (((160 : Int32) ≤ v1_2) → (∀ M2 : S0, M2 = up M 0 7 (M 0 5) → (w1_byteAt M2 (M2 0 5) (fun r4 M3 => ((¬ r4 = (-1 : Int32)) → (w1_isLetter M3 r4 (fun r6 M5 => ((r6 = 0) → (w1_isDigit M5 r4 (fun r8 M7 => ((r8 = 0) → (∀ M9 : S0, M9 = up M7 0 5 ((M7 0 5) + (1 : Int32)) → (w1_isSign M9 r4 (fun r11 M10 => ((r11 = 0) → (∀ M12 : S0, M12 = up M10 0 6 (9 : Int32) → (Q M12))) ∧ ((¬ r11 = 0) → (∀ M13 : S0, M13 = up M10 0 6 r4 → (Q M13))))))) ∧ ((¬ r8 = 0) → (w1_readNumber M7 (fun M14 => Q M14)))))) ∧ ((¬ r6 = 0) → (w1_readWord M5 (fun M15 => Q M15)))))) ∧ ((r4 = (-1 : Int32)) → (∀ M16 : S0, M16 = up M3 0 6 (8 : Int32) → (Q M16))))))) ∧ ((¬ (160 : Int32) ≤ v1_2) → (w1_byteAt M (M 0 5) (fun r18 M17 => ((r18 = (32 : Int32)) → (∀ M19 : S0, M19 = up M17 0 5 ((M17 0 5) + (1 : Int32)) → (∀ x20 : Int32, x20 = v1_2 + (1 : Int32) → (w1_next_b2   Q n M19 x20)))) ∧ ((¬ r18 = (32 : Int32)) → (w1_byteAt M17 (M17 0 5) (fun r22 M21 => ((¬ r22 = (10 : Int32)) → (∀ M23 : S0, M23 = up M21 0 7 (M21 0 5) → (w1_byteAt M23 (M23 0 5) (fun r25 M24 => ((¬ r25 = (-1 : Int32)) → (w1_isLetter M24 r25 (fun r27 M26 => ((r27 = 0) → (w1_isDigit M26 r25 (fun r29 M28 => ((r29 = 0) → (∀ M30 : S0, M30 = up M28 0 5 ((M28 0 5) + (1 : Int32)) → (w1_isSign M30 r25 (fun r32 M31 => ((r32 = 0) → (∀ M33 : S0, M33 = up M31 0 6 (9 : Int32) → (Q M33))) ∧ ((¬ r32 = 0) → (∀ M34 : S0, M34 = up M31 0 6 r25 → (Q M34))))))) ∧ ((¬ r29 = 0) → (w1_readNumber M28 (fun M35 => Q M35)))))) ∧ ((¬ r27 = 0) → (w1_readWord M26 (fun M36 => Q M36)))))) ∧ ((r25 = (-1 : Int32)) → (∀ M37 : S0, M37 = up M24 0 6 (8 : Int32) → (Q M37))))))) ∧ ((r22 = (10 : Int32)) → (∀ M38 : S0, M38 = up M21 0 5 ((M21 0 5) + (1 : Int32)) → (∀ x39 : Int32, x39 = v1_2 + (1 : Int32) → (w1_next_b2   Q n M38 x39))))))))))
set_option maxHeartbeats 4000000 in
set_option maxRecDepth 20000 in
theorem t1_next_b2 {B : BX} {E : EX} {a : Nat → Nat} {Q : S0 → Prop} (C : Ok B E cX1_next 2 RX1 10 343) (hR : RetV B E cX1_next 2 (wl 3 a (shR B.2.1 a)) Q) : ∀ (n : Nat) (M : S0) (v1_2 : Int32), w1_next_b2   Q n M v1_2 → V B E 2 (wl 3 a (shR B.2.1 a) M) 2 [(0, .ref (a 0)), (1, .int v1_2)] [] := by
  intro n
  induction n with
  | zero =>
    intro M v1_2  h
    exact h.elim
  | succ n ih =>
    intro M v1_2  h
    rw [w1_next_b2] at h
    refine v_iload_n C 1 dX1_next_2 rfl rfl ?_
    refine v_sipush C dX1_next_3 (v := (160 : Int32)) (by decide) ?_
    refine v_icmp_ge C dX1_next_6 (tgt := 51) (by decide) (fun c => ?_) (fun c => ?_)
    · replace h := h.1 c
      refine v_aload_n C 0 dX1_next_51 rfl rfl ?_
      refine v_aload_n C 0 dX1_next_52 rfl rfl ?_
      refine fX1_1_g_place C dX1_next_53 ?_
      refine fX1_1_p_tokenFrom C dX1_next_56 (fun M2 eM2 => ?_)
      replace h := h M2 eM2
      refine v_aload_n C 0 dX1_next_59 rfl rfl ?_
      refine v_aload_n C 0 dX1_next_60 rfl rfl ?_
      refine fX1_1_g_place C dX1_next_61 ?_
      refine v_callVi (k := 0) (As := [.int (M2 0 5)]) (rest := []) C (c1_byteAt  h) eX1_108 (by omega) (by omega) (by decide) rfl rfl rfl rfl (Nat.le_of_ble_eq_true rfl) dX1_next_64 (fun r4 M3 h => ?_)
      refine v_istore_n (lv' := [(1, .int r4), (0, .ref (a 0))]) C dX1_next_67 rfl (by decide) rfl ?_
      refine v_iload_n C 0 dX1_next_68 rfl rfl ?_
      refine v_iconst C dX1_next_69 (v := (-1 : Int32)) (by decide) ?_
      refine v_icmp_ne C dX1_next_70 (tgt := 82) (by decide) (fun c => ?_) (fun c => ?_)
      · replace h := h.1 c
        refine v_iload_n C 0 dX1_next_82 rfl rfl ?_
        refine v_callSi (As := [.int r4]) (rest := []) C (c1_isLetter  h) eX1_112 (by omega) (by omega) rfl rfl (Nat.le_of_ble_eq_true rfl) dX1_next_83 (fun r6 M5 h => ?_)
        refine v_if_eq C dX1_next_86 (tgt := 96) (by decide) (fun c => ?_) (fun c => ?_)
        · replace h := h.1 c
          refine v_iload_n C 0 dX1_next_96 rfl rfl ?_
          refine v_callSi (As := [.int r4]) (rest := []) C (c1_isDigit  h) eX1_118 (by omega) (by omega) rfl rfl (Nat.le_of_ble_eq_true rfl) dX1_next_97 (fun r8 M7 h => ?_)
          refine v_if_eq C dX1_next_100 (tgt := 110) (by decide) (fun c => ?_) (fun c => ?_)
          · replace h := h.1 c
            refine v_aload_n C 1 dX1_next_110 rfl rfl ?_
            refine v_dup C dX1_next_111 rfl ?_
            refine fX1_1_g_place C dX1_next_112 ?_
            refine v_iconst C dX1_next_115 (v := (1 : Int32)) (by decide) ?_
            refine v_iadd C dX1_next_116 ?_
            refine fX1_1_p_place C dX1_next_117 (fun M9 eM9 => ?_)
            replace h := h M9 eM9
            refine v_aload_n C 1 dX1_next_120 rfl rfl ?_
            refine v_iload_n C 0 dX1_next_121 rfl rfl ?_
            refine v_callSi (As := [.int r4]) (rest := [.ref (a 0)]) C (c1_isSign  h) eX1_124 (by omega) (by omega) rfl rfl (Nat.le_of_ble_eq_true rfl) dX1_next_122 (fun r11 M10 h => ?_)
            refine v_if_eq C dX1_next_125 (tgt := 132) (by decide) (fun c => ?_) (fun c => ?_)
            · replace h := h.1 c
              refine v_bipush C dX1_next_132 (v := (9 : Int32)) (by decide) ?_
              refine fX1_1_p_token C dX1_next_134 (fun M12 eM12 => ?_)
              replace h := h M12 eM12
              exact hR _ _ _ h dX1_next_137
            · replace h := h.2 c
              refine v_iload_n C 0 dX1_next_128 rfl rfl ?_
              refine v_goto C dX1_next_129 (tgt := 134) (by decide) ?_
              refine fX1_1_p_token C dX1_next_134 (fun M13 eM13 => ?_)
              replace h := h M13 eM13
              exact hR _ _ _ h dX1_next_137
          · replace h := h.2 c
            refine v_aload_n C 1 dX1_next_103 rfl rfl ?_
            refine v_callVv (k := 0) (As := []) (rest := []) C (c1_readNumber  h) eX1_121 (by omega) (by omega) (by decide) rfl rfl rfl rfl (Nat.le_of_ble_eq_true rfl) dX1_next_104 (fun M14 h => ?_)
            refine v_goto C dX1_next_107 (tgt := 137) (by decide) ?_
            exact hR _ _ _ h dX1_next_137
        · replace h := h.2 c
          refine v_aload_n C 1 dX1_next_89 rfl rfl ?_
          refine v_callVv (k := 0) (As := []) (rest := []) C (c1_readWord  h) eX1_115 (by omega) (by omega) (by decide) rfl rfl rfl rfl (Nat.le_of_ble_eq_true rfl) dX1_next_90 (fun M15 h => ?_)
          refine v_goto C dX1_next_93 (tgt := 137) (by decide) ?_
          exact hR _ _ _ h dX1_next_137
      · replace h := h.2 c
        refine v_aload_n C 1 dX1_next_73 rfl rfl ?_
        refine v_bipush C dX1_next_74 (v := (8 : Int32)) (by decide) ?_
        refine fX1_1_p_token C dX1_next_76 (fun M16 eM16 => ?_)
        replace h := h M16 eM16
        refine v_goto C dX1_next_79 (tgt := 137) (by decide) ?_
        exact hR _ _ _ h dX1_next_137
    · replace h := h.2 c
      refine v_aload_n C 0 dX1_next_9 rfl rfl ?_
      refine v_aload_n C 0 dX1_next_10 rfl rfl ?_
      refine fX1_1_g_place C dX1_next_11 ?_
      refine v_callVi (k := 0) (As := [.int (M 0 5)]) (rest := []) C (c1_byteAt  h) eX1_108 (by omega) (by omega) (by decide) rfl rfl rfl rfl (Nat.le_of_ble_eq_true rfl) dX1_next_14 (fun r18 M17 h => ?_)
      refine v_bipush C dX1_next_17 (v := (32 : Int32)) (by decide) ?_
      refine v_icmp_eq C dX1_next_19 (tgt := 35) (by decide) (fun c => ?_) (fun c => ?_)
      · replace h := h.1 c
        refine v_aload_n C 0 dX1_next_35 rfl rfl ?_
        refine v_dup C dX1_next_36 rfl ?_
        refine fX1_1_g_place C dX1_next_37 ?_
        refine v_iconst C dX1_next_40 (v := (1 : Int32)) (by decide) ?_
        refine v_iadd C dX1_next_41 ?_
        refine fX1_1_p_place C dX1_next_42 (fun M19 eM19 => ?_)
        replace h := h M19 eM19
        obtain ⟨x20, ex20⟩ : ∃ z : Int32, z = v1_2 + (1 : Int32) := ⟨_, rfl⟩
        replace h := h x20 ex20
        refine v_iinc (v := x20) (lv' := [(1, .int x20), (0, .ref (a 0))]) C 1 dX1_next_45 rfl (by rw [ex20]; rfl) (by decide) rfl ?_
        refine v_goto C dX1_next_48 (tgt := 2) (by decide) ?_
        refine v_sub [1, 0] rfl ?_
        exact ih M19 x20  h
      · replace h := h.2 c
        refine v_aload_n C 0 dX1_next_22 rfl rfl ?_
        refine v_aload_n C 0 dX1_next_23 rfl rfl ?_
        refine fX1_1_g_place C dX1_next_24 ?_
        refine v_callVi (k := 0) (As := [.int (M17 0 5)]) (rest := []) C (c1_byteAt  h) eX1_108 (by omega) (by omega) (by decide) rfl rfl rfl rfl (Nat.le_of_ble_eq_true rfl) dX1_next_27 (fun r22 M21 h => ?_)
        refine v_bipush C dX1_next_30 (v := (10 : Int32)) (by decide) ?_
        refine v_icmp_ne C dX1_next_32 (tgt := 51) (by decide) (fun c => ?_) (fun c => ?_)
        · replace h := h.1 c
          refine v_aload_n C 0 dX1_next_51 rfl rfl ?_
          refine v_aload_n C 0 dX1_next_52 rfl rfl ?_
          refine fX1_1_g_place C dX1_next_53 ?_
          refine fX1_1_p_tokenFrom C dX1_next_56 (fun M23 eM23 => ?_)
          replace h := h M23 eM23
          refine v_aload_n C 0 dX1_next_59 rfl rfl ?_
          refine v_aload_n C 0 dX1_next_60 rfl rfl ?_
          refine fX1_1_g_place C dX1_next_61 ?_
          refine v_callVi (k := 0) (As := [.int (M23 0 5)]) (rest := []) C (c1_byteAt  h) eX1_108 (by omega) (by omega) (by decide) rfl rfl rfl rfl (Nat.le_of_ble_eq_true rfl) dX1_next_64 (fun r25 M24 h => ?_)
          refine v_istore_n (lv' := [(1, .int r25), (0, .ref (a 0))]) C dX1_next_67 rfl (by decide) rfl ?_
          refine v_iload_n C 0 dX1_next_68 rfl rfl ?_
          refine v_iconst C dX1_next_69 (v := (-1 : Int32)) (by decide) ?_
          refine v_icmp_ne C dX1_next_70 (tgt := 82) (by decide) (fun c => ?_) (fun c => ?_)
          · replace h := h.1 c
            refine v_iload_n C 0 dX1_next_82 rfl rfl ?_
            refine v_callSi (As := [.int r25]) (rest := []) C (c1_isLetter  h) eX1_112 (by omega) (by omega) rfl rfl (Nat.le_of_ble_eq_true rfl) dX1_next_83 (fun r27 M26 h => ?_)
            refine v_if_eq C dX1_next_86 (tgt := 96) (by decide) (fun c => ?_) (fun c => ?_)
            · replace h := h.1 c
              refine v_iload_n C 0 dX1_next_96 rfl rfl ?_
              refine v_callSi (As := [.int r25]) (rest := []) C (c1_isDigit  h) eX1_118 (by omega) (by omega) rfl rfl (Nat.le_of_ble_eq_true rfl) dX1_next_97 (fun r29 M28 h => ?_)
              refine v_if_eq C dX1_next_100 (tgt := 110) (by decide) (fun c => ?_) (fun c => ?_)
              · replace h := h.1 c
                refine v_aload_n C 1 dX1_next_110 rfl rfl ?_
                refine v_dup C dX1_next_111 rfl ?_
                refine fX1_1_g_place C dX1_next_112 ?_
                refine v_iconst C dX1_next_115 (v := (1 : Int32)) (by decide) ?_
                refine v_iadd C dX1_next_116 ?_
                refine fX1_1_p_place C dX1_next_117 (fun M30 eM30 => ?_)
                replace h := h M30 eM30
                refine v_aload_n C 1 dX1_next_120 rfl rfl ?_
                refine v_iload_n C 0 dX1_next_121 rfl rfl ?_
                refine v_callSi (As := [.int r25]) (rest := [.ref (a 0)]) C (c1_isSign  h) eX1_124 (by omega) (by omega) rfl rfl (Nat.le_of_ble_eq_true rfl) dX1_next_122 (fun r32 M31 h => ?_)
                refine v_if_eq C dX1_next_125 (tgt := 132) (by decide) (fun c => ?_) (fun c => ?_)
                · replace h := h.1 c
                  refine v_bipush C dX1_next_132 (v := (9 : Int32)) (by decide) ?_
                  refine fX1_1_p_token C dX1_next_134 (fun M33 eM33 => ?_)
                  replace h := h M33 eM33
                  exact hR _ _ _ h dX1_next_137
                · replace h := h.2 c
                  refine v_iload_n C 0 dX1_next_128 rfl rfl ?_
                  refine v_goto C dX1_next_129 (tgt := 134) (by decide) ?_
                  refine fX1_1_p_token C dX1_next_134 (fun M34 eM34 => ?_)
                  replace h := h M34 eM34
                  exact hR _ _ _ h dX1_next_137
              · replace h := h.2 c
                refine v_aload_n C 1 dX1_next_103 rfl rfl ?_
                refine v_callVv (k := 0) (As := []) (rest := []) C (c1_readNumber  h) eX1_121 (by omega) (by omega) (by decide) rfl rfl rfl rfl (Nat.le_of_ble_eq_true rfl) dX1_next_104 (fun M35 h => ?_)
                refine v_goto C dX1_next_107 (tgt := 137) (by decide) ?_
                exact hR _ _ _ h dX1_next_137
            · replace h := h.2 c
              refine v_aload_n C 1 dX1_next_89 rfl rfl ?_
              refine v_callVv (k := 0) (As := []) (rest := []) C (c1_readWord  h) eX1_115 (by omega) (by omega) (by decide) rfl rfl rfl rfl (Nat.le_of_ble_eq_true rfl) dX1_next_90 (fun M36 h => ?_)
              refine v_goto C dX1_next_93 (tgt := 137) (by decide) ?_
              exact hR _ _ _ h dX1_next_137
          · replace h := h.2 c
            refine v_aload_n C 1 dX1_next_73 rfl rfl ?_
            refine v_bipush C dX1_next_74 (v := (8 : Int32)) (by decide) ?_
            refine fX1_1_p_token C dX1_next_76 (fun M37 eM37 => ?_)
            replace h := h M37 eM37
            refine v_goto C dX1_next_79 (tgt := 137) (by decide) ?_
            exact hR _ _ _ h dX1_next_137
        · replace h := h.2 c
          refine v_aload_n C 0 dX1_next_35 rfl rfl ?_
          refine v_dup C dX1_next_36 rfl ?_
          refine fX1_1_g_place C dX1_next_37 ?_
          refine v_iconst C dX1_next_40 (v := (1 : Int32)) (by decide) ?_
          refine v_iadd C dX1_next_41 ?_
          refine fX1_1_p_place C dX1_next_42 (fun M38 eM38 => ?_)
          replace h := h M38 eM38
          obtain ⟨x39, ex39⟩ : ∃ z : Int32, z = v1_2 + (1 : Int32) := ⟨_, rfl⟩
          replace h := h x39 ex39
          refine v_iinc (v := x39) (lv' := [(1, .int x39), (0, .ref (a 0))]) C 1 dX1_next_45 rfl (by rw [ex39]; rfl) (by decide) rfl ?_
          refine v_goto C dX1_next_48 (tgt := 2) (by decide) ?_
          refine v_sub [1, 0] rfl ?_
          exact ih M38 x39  h
def w1_next (M : S0) (Q : S0 → Prop) : Prop :=
    ∃ n1, w1_next_b2   Q n1 M (0 : Int32)
set_option maxHeartbeats 4000000 in
set_option maxRecDepth 20000 in
theorem c1_next {B : BX} {a : Nat → Nat} {M : S0} {Q : S0 → Prop} (h : w1_next  M  Q) : KV B (wl 3 a (shR B.2.1 a)) yX1_next cX1_next 2 none 10 343 [.ref (a 0)] M Q := by
  rw [w1_next] at h
  refine KV_of (by decide +kernel) (Nat.le_of_ble_eq_true rfl) (fun E C hR => ?_)
  change V B E 2 (wl 3 a (shR B.2.1 a) M) 0 [(0, .ref (a 0))] []
  change Ok B E cX1_next 2 RX1 10 343 at C
  refine v_iconst C dX1_next_0 (v := (0 : Int32)) (by decide) ?_
  refine v_istore_n (lv' := [(1, .int (0 : Int32)), (0, .ref (a 0))]) C dX1_next_1 rfl (by decide) rfl ?_
  obtain ⟨n1, h⟩ := h
  refine v_sub [1, 0] rfl ?_
  exact t1_next_b2   C hR  n1 M (0 : Int32)  h
def w1_passed_b5 (Q : Int32 → S0 → Prop) : Nat → S0 → Int32 → Int32 → Int32 → Prop
  | 0, _, _, _, _ => False
  | n + 1, M, v1_5, v3_5, v4_5 =>
    (((5 : Int32) ≤ v4_5) → (Q v3_5 M)) ∧ ((¬ (5 : Int32) ≤ v4_5) → (((¬ (M 0 6) = v1_5) → (Q v3_5 M)) ∧ (((M 0 6) = v1_5) → (w1_next M (fun M2 => ∀ x3 : Int32, x3 = v3_5 + (1 : Int32) → (∀ x4 : Int32, x4 = v4_5 + (1 : Int32) → (w1_passed_b5   Q n M2 v1_5 x3 x4)))))))
set_option maxHeartbeats 4000000 in
set_option maxRecDepth 20000 in
theorem t1_passed_b5 {B : BX} {E : EX} {a : Nat → Nat} {Q : Int32 → S0 → Prop} (C : Ok B E cX1_passed 5 RX1 11 364) (hR : RetI B E cX1_passed 5 (wl 3 a (shR B.2.1 a)) Q) : ∀ (n : Nat) (M : S0) (v1_5 : Int32) (v3_5 : Int32) (v4_5 : Int32), w1_passed_b5   Q n M v1_5 v3_5 v4_5 → V B E 5 (wl 3 a (shR B.2.1 a) M) 5 [(0, .ref (a 0)), (1, .int v1_5), (3, .int v3_5), (4, .int v4_5)] [] := by
  intro n
  induction n with
  | zero =>
    intro M v1_5 v3_5 v4_5  h
    exact h.elim
  | succ n ih =>
    intro M v1_5 v3_5 v4_5  h
    rw [w1_passed_b5] at h
    refine v_iload C 3 dX1_passed_5 rfl ?_
    refine v_iconst C dX1_passed_7 (v := (5 : Int32)) (by decide) ?_
    refine v_icmp_ge C dX1_passed_8 (tgt := 32) (by decide) (fun c => ?_) (fun c => ?_)
    · replace h := h.1 c
      refine v_iload_n C 2 dX1_passed_32 rfl rfl ?_
      exact hR _ _ _ _ h dX1_passed_33
    · replace h := h.2 c
      refine v_aload_n C 0 dX1_passed_11 rfl rfl ?_
      refine fX1_1_g_token C dX1_passed_12 ?_
      refine v_iload_n C 1 dX1_passed_15 rfl rfl ?_
      refine v_icmp_ne C dX1_passed_16 (tgt := 32) (by decide) (fun c => ?_) (fun c => ?_)
      · replace h := h.1 c
        refine v_iload_n C 2 dX1_passed_32 rfl rfl ?_
        exact hR _ _ _ _ h dX1_passed_33
      · replace h := h.2 c
        refine v_aload_n C 0 dX1_passed_19 rfl rfl ?_
        refine v_callVv (k := 0) (As := []) (rest := []) C (c1_next  h) eX1_54 (by omega) (by omega) (by decide) rfl rfl rfl rfl (Nat.le_of_ble_eq_true rfl) dX1_passed_20 (fun M2 h => ?_)
        obtain ⟨x3, ex3⟩ : ∃ z : Int32, z = v3_5 + (1 : Int32) := ⟨_, rfl⟩
        replace h := h x3 ex3
        refine v_iinc (v := x3) (lv' := [(3, .int x3), (0, .ref (a 0)), (1, .int v1_5), (4, .int v4_5)]) C 2 dX1_passed_23 rfl (by rw [ex3]; rfl) (by decide) rfl ?_
        obtain ⟨x4, ex4⟩ : ∃ z : Int32, z = v4_5 + (1 : Int32) := ⟨_, rfl⟩
        replace h := h x4 ex4
        refine v_iinc (v := x4) (lv' := [(4, .int x4), (3, .int x3), (0, .ref (a 0)), (1, .int v1_5)]) C 3 dX1_passed_26 rfl (by rw [ex4]; rfl) (by decide) rfl ?_
        refine v_goto C dX1_passed_29 (tgt := 5) (by decide) ?_
        refine v_sub [2, 3, 1, 0] rfl ?_
        exact ih M2 v1_5 x3 x4  h
def w1_passed (M : S0) (p1 : Int32) (p2 : Int32) (Q : Int32 → S0 → Prop) : Prop :=
    ∃ n1, w1_passed_b5   Q n1 M p1 (0 : Int32) p2
set_option maxHeartbeats 4000000 in
set_option maxRecDepth 20000 in
theorem c1_passed {B : BX} {a : Nat → Nat} {M : S0} {p1 : Int32} {p2 : Int32} {Q : Int32 → S0 → Prop} (h : w1_passed  M p1 p2 Q) : KI B (wl 3 a (shR B.2.1 a)) yX1_passed cX1_passed 5 (some .int) 11 364 [.ref (a 0), .int p1, .int p2] M Q := by
  rw [w1_passed] at h
  refine KI_of (by decide +kernel) (Nat.le_of_ble_eq_true rfl) (fun E C hR => ?_)
  change V B E 5 (wl 3 a (shR B.2.1 a) M) 0 [(0, .ref (a 0)), (1, .int p1), (2, .int p2)] []
  change Ok B E cX1_passed 5 RX1 11 364 at C
  refine v_iconst C dX1_passed_0 (v := (0 : Int32)) (by decide) ?_
  refine v_istore_n (lv' := [(3, .int (0 : Int32)), (0, .ref (a 0)), (1, .int p1), (2, .int p2)]) C dX1_passed_1 rfl (by decide) rfl ?_
  refine v_iload_n C 3 dX1_passed_2 rfl rfl ?_
  refine v_istore (lv' := [(4, .int p2), (3, .int (0 : Int32)), (0, .ref (a 0)), (1, .int p1), (2, .int p2)]) C dX1_passed_3 (by decide) rfl ?_
  obtain ⟨n1, h⟩ := h
  refine v_sub [2, 3, 1, 0] rfl ?_
  exact t1_passed_b5   C hR  n1 M p1 (0 : Int32) p2  h
def w1_emit (M : S0) (p1 : Int32) (Q : S0 → Prop) : Prop :=
    (((M 0 4) < 0) → (Q M)) ∧ ((¬ (M 0 4) < 0) → ((((160 : Int32) ≤ (M 0 4)) → (Q M)) ∧ ((¬ (160 : Int32) ≤ (M 0 4)) → ((vp_in (M 0 4) 160) ∧ (∀ M2 : S0, M2 = up M 2 (Int32.toNatClampNeg (M 0 4)) p1 → (∀ M3 : S0, M3 = up M2 0 4 ((M2 0 4) + (1 : Int32)) → (Q M3)))))))
set_option maxHeartbeats 4000000 in
set_option maxRecDepth 20000 in
theorem c1_emit {B : BX} {a : Nat → Nat} {M : S0} {p1 : Int32} {Q : S0 → Prop} (h : w1_emit  M p1 Q) : KV B (wl 3 a (shR B.2.1 a)) yX1_emit cX1_emit 2 none 0 0 [.ref (a 0), .int p1] M Q := by
  rw [w1_emit] at h
  refine KV_of (by decide +kernel) (Nat.le_of_ble_eq_true rfl) (fun E C hR => ?_)
  change V B E 2 (wl 3 a (shR B.2.1 a) M) 0 [(0, .ref (a 0)), (1, .int p1)] []
  change Ok B E cX1_emit 2 RX1 0 0 at C
  refine v_aload_n C 0 dX1_emit_0 rfl rfl ?_
  refine fX1_1_g_codes C dX1_emit_1 ?_
  refine v_if_lt C dX1_emit_4 (tgt := 37) (by decide) (fun c => ?_) (fun c => ?_)
  · replace h := h.1 c
    exact hR _ _ _ h dX1_emit_37
  · replace h := h.2 c
    refine v_aload_n C 0 dX1_emit_7 rfl rfl ?_
    refine fX1_1_g_codes C dX1_emit_8 ?_
    refine v_sipush C dX1_emit_11 (v := (160 : Int32)) (by decide) ?_
    refine v_icmp_ge C dX1_emit_14 (tgt := 37) (by decide) (fun c => ?_) (fun c => ?_)
    · replace h := h.1 c
      exact hR _ _ _ h dX1_emit_37
    · replace h := h.2 c
      refine v_aload_n C 0 dX1_emit_17 rfl rfl ?_
      refine fX1_1_g_code C dX1_emit_18 ?_
      refine v_aload_n C 0 dX1_emit_21 rfl rfl ?_
      refine fX1_1_g_codes C dX1_emit_22 ?_
      refine v_iload_n C 1 dX1_emit_25 rfl rfl ?_
      obtain ⟨hi1, h⟩ := h
      refine v_iast (k := 2) C (by decide) (fun _ => rfl) hi1 dX1_emit_26 ?_
      obtain ⟨M2, eM2⟩ : ∃ z : S0, z = up M 2 (Int32.toNatClampNeg (M 0 4)) p1 := ⟨_, rfl⟩
      rw [← eM2]
      replace h := h M2 eM2
      refine v_aload_n C 0 dX1_emit_27 rfl rfl ?_
      refine v_dup C dX1_emit_28 rfl ?_
      refine fX1_1_g_codes C dX1_emit_29 ?_
      refine v_iconst C dX1_emit_32 (v := (1 : Int32)) (by decide) ?_
      refine v_iadd C dX1_emit_33 ?_
      refine fX1_1_p_codes C dX1_emit_34 (fun M3 eM3 => ?_)
      replace h := h M3 eM3
      exact hR _ _ _ h dX1_emit_37
def w1_fails (M : S0) (Q : S0 → Prop) : Prop :=
    ((¬ (M 0 2) = (-1 : Int32)) → (∀ M1 : S0, M1 = up M 0 6 (9 : Int32) → (Q M1))) ∧ (((M 0 2) = (-1 : Int32)) → (∀ M2 : S0, M2 = up M 0 2 (M 0 7) → (∀ M3 : S0, M3 = up M2 0 6 (9 : Int32) → (Q M3))))
set_option maxHeartbeats 4000000 in
set_option maxRecDepth 20000 in
theorem c1_fails {B : BX} {a : Nat → Nat} {M : S0} {Q : S0 → Prop} (h : w1_fails  M  Q) : KV B (wl 3 a (shR B.2.1 a)) yX1_fails cX1_fails 1 none 0 0 [.ref (a 0)] M Q := by
  rw [w1_fails] at h
  refine KV_of (by decide +kernel) (Nat.le_of_ble_eq_true rfl) (fun E C hR => ?_)
  change V B E 1 (wl 3 a (shR B.2.1 a) M) 0 [(0, .ref (a 0))] []
  change Ok B E cX1_fails 1 RX1 0 0 at C
  refine v_aload_n C 0 dX1_fails_0 rfl rfl ?_
  refine fX1_1_g_fault C dX1_fails_1 ?_
  refine v_iconst C dX1_fails_4 (v := (-1 : Int32)) (by decide) ?_
  refine v_icmp_ne C dX1_fails_5 (tgt := 16) (by decide) (fun c => ?_) (fun c => ?_)
  · replace h := h.1 c
    refine v_aload_n C 0 dX1_fails_16 rfl rfl ?_
    refine v_bipush C dX1_fails_17 (v := (9 : Int32)) (by decide) ?_
    refine fX1_1_p_token C dX1_fails_19 (fun M1 eM1 => ?_)
    replace h := h M1 eM1
    exact hR _ _ _ h dX1_fails_22
  · replace h := h.2 c
    refine v_aload_n C 0 dX1_fails_8 rfl rfl ?_
    refine v_aload_n C 0 dX1_fails_9 rfl rfl ?_
    refine fX1_1_g_tokenFrom C dX1_fails_10 ?_
    refine fX1_1_p_fault C dX1_fails_13 (fun M2 eM2 => ?_)
    replace h := h M2 eM2
    refine v_aload_n C 0 dX1_fails_16 rfl rfl ?_
    refine v_bipush C dX1_fails_17 (v := (9 : Int32)) (by decide) ?_
    refine fX1_1_p_token C dX1_fails_19 (fun M3 eM3 => ?_)
    replace h := h M3 eM3
    exact hR _ _ _ h dX1_fails_22
def w1_expect (M : S0) (p1 : Int32) (Q : S0 → Prop) : Prop :=
    (((M 0 6) = p1) → (w1_next M (fun M1 => Q M1))) ∧ ((¬ (M 0 6) = p1) → (w1_fails M (fun M2 => Q M2)))
set_option maxHeartbeats 4000000 in
set_option maxRecDepth 20000 in
theorem c1_expect {B : BX} {a : Nat → Nat} {M : S0} {p1 : Int32} {Q : S0 → Prop} (h : w1_expect  M p1 Q) : KV B (wl 3 a (shR B.2.1 a)) yX1_expect cX1_expect 2 none 11 364 [.ref (a 0), .int p1] M Q := by
  rw [w1_expect] at h
  refine KV_of (by decide +kernel) (Nat.le_of_ble_eq_true rfl) (fun E C hR => ?_)
  change V B E 2 (wl 3 a (shR B.2.1 a) M) 0 [(0, .ref (a 0)), (1, .int p1)] []
  change Ok B E cX1_expect 2 RX1 11 364 at C
  refine v_aload_n C 0 dX1_expect_0 rfl rfl ?_
  refine fX1_1_g_token C dX1_expect_1 ?_
  refine v_iload_n C 1 dX1_expect_4 rfl rfl ?_
  refine v_icmp_eq C dX1_expect_5 (tgt := 15) (by decide) (fun c => ?_) (fun c => ?_)
  · replace h := h.1 c
    refine v_aload_n C 0 dX1_expect_15 rfl rfl ?_
    refine v_callVv (k := 0) (As := []) (rest := []) C (c1_next  h) eX1_54 (by omega) (by omega) (by decide) rfl rfl rfl rfl (Nat.le_of_ble_eq_true rfl) dX1_expect_16 (fun M1 h => ?_)
    exact hR _ _ _ h dX1_expect_19
  · replace h := h.2 c
    refine v_aload_n C 0 dX1_expect_8 rfl rfl ?_
    refine v_callVv (k := 0) (As := []) (rest := []) C (c1_fails  h) eX1_105 (by omega) (by omega) (by decide) rfl rfl rfl rfl (Nat.le_of_ble_eq_true rfl) dX1_expect_9 (fun M2 h => ?_)
    refine v_goto C dX1_expect_12 (tgt := 19) (by decide) ?_
    exact hR _ _ _ h dX1_expect_19
def w1_readOne_b17 (Rc : Nat → S0 → Int32 → (S0 → Prop) → Prop) (Q : S0 → Prop) : Nat → S0 → Int32 → Int32 → Prop
  | 0, _, _, _ => False
  | n + 1, M, v2_17, v3_17 =>
    ((v2_17 ≤ v3_17) → (Q M)) ∧ ((¬ v2_17 ≤ v3_17) → (w1_emit M (-14 : Int32) (fun M5 => ∀ x6 : Int32, x6 = v3_17 + (1 : Int32) → (w1_readOne_b17 Rc  Q n M5 v2_17 x6))))
set_option maxHeartbeats 4000000 in
set_option maxRecDepth 20000 in
theorem t1_readOne_b17 {B : BX} {E : EX} {a : Nat → Nat} {Rc : Nat → S0 → Int32 → (S0 → Prop) → Prop} {frr loo : Nat} {Q : S0 → Prop} (hRc0 : ∀ (M : S0) (p1 : Int32) (Q : S0 → Prop), Rc 0  M p1 Q → KV B (wl 3 a (shR B.2.1 a)) yX1_readOne cX1_readOne 4 none frr loo [.ref (a 0), .int p1] M Q) (hRc1 : ∀ (M : S0) (p1 : Int32) (Q : S0 → Prop), Rc 1  M p1 Q → KV B (wl 3 a (shR B.2.1 a)) yX1_readTerm cX1_readTerm 3 none frr loo [.ref (a 0), .int p1] M Q) (hRc2 : ∀ (M : S0) (p1 : Int32) (Q : S0 → Prop), Rc 2  M p1 Q → KV B (wl 3 a (shR B.2.1 a)) yX1_readSum cX1_readSum 4 none frr loo [.ref (a 0), .int p1] M Q) (hRc3 : ∀ (M : S0) (p1 : Int32) (Q : S0 → Prop), Rc 3  M p1 Q → KV B (wl 3 a (shR B.2.1 a)) yX1_readNot cX1_readNot 4 none frr loo [.ref (a 0), .int p1] M Q) (hRc4 : ∀ (M : S0) (p1 : Int32) (Q : S0 → Prop), Rc 4  M p1 Q → KV B (wl 3 a (shR B.2.1 a)) yX1_readBoth cX1_readBoth 3 none frr loo [.ref (a 0), .int p1] M Q) (hRc5 : ∀ (M : S0) (p1 : Int32) (Q : S0 → Prop), Rc 5  M p1 Q → KV B (wl 3 a (shR B.2.1 a)) yX1_readEither cX1_readEither 3 none frr loo [.ref (a 0), .int p1] M Q) (hRc6 : ∀ (M : S0) (p1 : Int32) (Q : S0 → Prop), Rc 6  M p1 Q → KV B (wl 3 a (shR B.2.1 a)) yX1_readPlain cX1_readPlain 2 none frr loo [.ref (a 0), .int p1] M Q) (hRc7 : ∀ (M : S0) (p1 : Int32) (Q : S0 → Prop), Rc 7  M p1 Q → KV B (wl 3 a (shR B.2.1 a)) yX1_readCompared cX1_readCompared 3 none frr loo [.ref (a 0), .int p1] M Q) (hfb : 12 ≤ frr) (hlb : 388 ≤ loo) (C : Ok B E cX1_readOne 4 RX1 (frr + 1) (loo + 23)) (hR : RetV B E cX1_readOne 4 (wl 3 a (shR B.2.1 a)) Q) : ∀ (n : Nat) (M : S0) (v2_17 : Int32) (v3_17 : Int32), w1_readOne_b17 Rc  Q n M v2_17 v3_17 → V B E 4 (wl 3 a (shR B.2.1 a) M) 17 [(0, .ref (a 0)), (2, .int v2_17), (3, .int v3_17)] [] := by
  intro n
  induction n with
  | zero =>
    intro M v2_17 v3_17  h
    exact h.elim
  | succ n ih =>
    intro M v2_17 v3_17  h
    rw [w1_readOne_b17] at h
    refine v_iload_n C 2 dX1_readOne_17 rfl rfl ?_
    refine v_iload_n C 1 dX1_readOne_18 rfl rfl ?_
    refine v_icmp_ge C dX1_readOne_19 (tgt := 34) (by decide) (fun c => ?_) (fun c => ?_)
    · replace h := h.1 c
      exact hR _ _ _ h dX1_readOne_34
    · replace h := h.2 c
      refine v_aload_n C 0 dX1_readOne_22 rfl rfl ?_
      refine v_bipush C dX1_readOne_23 (v := (-14 : Int32)) (by decide) ?_
      refine v_callVv (k := 0) (As := [.int (-14 : Int32)]) (rest := []) C (c1_emit  h) eX1_80 (by omega) (by omega) (by decide) rfl rfl rfl rfl (Nat.le_of_ble_eq_true rfl) dX1_readOne_25 (fun M5 h => ?_)
      obtain ⟨x6, ex6⟩ : ∃ z : Int32, z = v3_17 + (1 : Int32) := ⟨_, rfl⟩
      replace h := h x6 ex6
      refine v_iinc (v := x6) (lv' := [(3, .int x6), (0, .ref (a 0)), (2, .int v2_17)]) C 2 dX1_readOne_28 rfl (by rw [ex6]; rfl) (by decide) rfl ?_
      refine v_goto C dX1_readOne_31 (tgt := 17) (by decide) ?_
      refine v_sub [1, 2, 0] rfl ?_
      exact ih M5 v2_17 x6  h
def w1_readOne_body (Rc : Nat → S0 → Int32 → (S0 → Prop) → Prop) (M : S0) (p1 : Int32) (Q : S0 → Prop) : Prop :=
    w1_passed M (45 : Int32) p1 (fun r2 M1 => Rc 6 M1 (p1 + r2) (fun M3 => ∃ n4, w1_readOne_b17 Rc  Q n4 M3 r2 (0 : Int32)))
set_option maxHeartbeats 4000000 in
set_option maxRecDepth 20000 in
theorem c1_readOne_body {B : BX} {a : Nat → Nat} {Rc : Nat → S0 → Int32 → (S0 → Prop) → Prop} {frr loo : Nat} {M : S0} {p1 : Int32} {Q : S0 → Prop} (hRc0 : ∀ (M : S0) (p1 : Int32) (Q : S0 → Prop), Rc 0  M p1 Q → KV B (wl 3 a (shR B.2.1 a)) yX1_readOne cX1_readOne 4 none frr loo [.ref (a 0), .int p1] M Q) (hRc1 : ∀ (M : S0) (p1 : Int32) (Q : S0 → Prop), Rc 1  M p1 Q → KV B (wl 3 a (shR B.2.1 a)) yX1_readTerm cX1_readTerm 3 none frr loo [.ref (a 0), .int p1] M Q) (hRc2 : ∀ (M : S0) (p1 : Int32) (Q : S0 → Prop), Rc 2  M p1 Q → KV B (wl 3 a (shR B.2.1 a)) yX1_readSum cX1_readSum 4 none frr loo [.ref (a 0), .int p1] M Q) (hRc3 : ∀ (M : S0) (p1 : Int32) (Q : S0 → Prop), Rc 3  M p1 Q → KV B (wl 3 a (shR B.2.1 a)) yX1_readNot cX1_readNot 4 none frr loo [.ref (a 0), .int p1] M Q) (hRc4 : ∀ (M : S0) (p1 : Int32) (Q : S0 → Prop), Rc 4  M p1 Q → KV B (wl 3 a (shR B.2.1 a)) yX1_readBoth cX1_readBoth 3 none frr loo [.ref (a 0), .int p1] M Q) (hRc5 : ∀ (M : S0) (p1 : Int32) (Q : S0 → Prop), Rc 5  M p1 Q → KV B (wl 3 a (shR B.2.1 a)) yX1_readEither cX1_readEither 3 none frr loo [.ref (a 0), .int p1] M Q) (hRc6 : ∀ (M : S0) (p1 : Int32) (Q : S0 → Prop), Rc 6  M p1 Q → KV B (wl 3 a (shR B.2.1 a)) yX1_readPlain cX1_readPlain 2 none frr loo [.ref (a 0), .int p1] M Q) (hRc7 : ∀ (M : S0) (p1 : Int32) (Q : S0 → Prop), Rc 7  M p1 Q → KV B (wl 3 a (shR B.2.1 a)) yX1_readCompared cX1_readCompared 3 none frr loo [.ref (a 0), .int p1] M Q) (hfb : 12 ≤ frr) (hlb : 388 ≤ loo) (h : w1_readOne_body Rc M p1 Q) : KV B (wl 3 a (shR B.2.1 a)) yX1_readOne cX1_readOne 4 none (frr + 1) (loo + 23) [.ref (a 0), .int p1] M Q := by
  rw [w1_readOne_body] at h
  refine KV_of (by decide +kernel) (Nat.le_of_ble_eq_true rfl) (fun E C hR => ?_)
  change V B E 4 (wl 3 a (shR B.2.1 a) M) 0 [(0, .ref (a 0)), (1, .int p1)] []
  change Ok B E cX1_readOne 4 RX1 (frr + 1) (loo + 23) at C
  refine v_aload_n C 0 dX1_readOne_0 rfl rfl ?_
  refine v_bipush C dX1_readOne_1 (v := (45 : Int32)) (by decide) ?_
  refine v_iload_n C 1 dX1_readOne_3 rfl rfl ?_
  refine v_callVi (k := 0) (As := [.int (45 : Int32), .int p1]) (rest := []) C (c1_passed  h) eX1_86 (by omega) (by omega) (by decide) rfl rfl rfl rfl (Nat.le_of_ble_eq_true rfl) dX1_readOne_4 (fun r2 M1 h => ?_)
  refine v_istore_n (lv' := [(2, .int r2), (0, .ref (a 0)), (1, .int p1)]) C dX1_readOne_7 rfl (by decide) rfl ?_
  refine v_aload_n C 1 dX1_readOne_8 rfl rfl ?_
  refine v_iload_n C 2 dX1_readOne_9 rfl rfl ?_
  refine v_iload_n C 0 dX1_readOne_10 rfl rfl ?_
  refine v_iadd C dX1_readOne_11 ?_
  refine v_callVv (k := 0) (As := [.int (p1 + r2)]) (rest := []) C (hRc6 _ _ _  h) eX1_102 (by omega) (by omega) (by decide) rfl rfl rfl rfl (Nat.le_of_ble_eq_true rfl) dX1_readOne_12 (fun M3 h => ?_)
  refine v_iconst C dX1_readOne_15 (v := (0 : Int32)) (by decide) ?_
  refine v_istore_n (lv' := [(3, .int (0 : Int32)), (2, .int r2), (0, .ref (a 0)), (1, .int p1)]) C dX1_readOne_16 rfl (by decide) rfl ?_
  obtain ⟨n4, h⟩ := h
  refine v_sub [2, 1, 0] rfl ?_
  exact t1_readOne_b17  hRc0 hRc1 hRc2 hRc3 hRc4 hRc5 hRc6 hRc7 hfb hlb C hR  n4 M3 r2 (0 : Int32)  h
def w1_readTerm_b7 (Rc : Nat → S0 → Int32 → (S0 → Prop) → Prop) (Q : S0 → Prop) : Nat → S0 → Int32 → Int32 → Prop
  | 0, _, _, _ => False
  | n + 1, M, v1_7, v2_7 =>
    (((160 : Int32) ≤ v2_7) → (Q M)) ∧ ((¬ (160 : Int32) ≤ v2_7) → (((¬ (M 0 6) = (42 : Int32)) → (Q M)) ∧ (((M 0 6) = (42 : Int32)) → (w1_next M (fun M3 => Rc 0 M3 v1_7 (fun M4 => w1_emit M4 (-13 : Int32) (fun M5 => ∀ x6 : Int32, x6 = v2_7 + (1 : Int32) → (w1_readTerm_b7 Rc  Q n M5 v1_7 x6))))))))
set_option maxHeartbeats 4000000 in
set_option maxRecDepth 20000 in
theorem t1_readTerm_b7 {B : BX} {E : EX} {a : Nat → Nat} {Rc : Nat → S0 → Int32 → (S0 → Prop) → Prop} {frr loo : Nat} {Q : S0 → Prop} (hRc0 : ∀ (M : S0) (p1 : Int32) (Q : S0 → Prop), Rc 0  M p1 Q → KV B (wl 3 a (shR B.2.1 a)) yX1_readOne cX1_readOne 4 none frr loo [.ref (a 0), .int p1] M Q) (hRc1 : ∀ (M : S0) (p1 : Int32) (Q : S0 → Prop), Rc 1  M p1 Q → KV B (wl 3 a (shR B.2.1 a)) yX1_readTerm cX1_readTerm 3 none frr loo [.ref (a 0), .int p1] M Q) (hRc2 : ∀ (M : S0) (p1 : Int32) (Q : S0 → Prop), Rc 2  M p1 Q → KV B (wl 3 a (shR B.2.1 a)) yX1_readSum cX1_readSum 4 none frr loo [.ref (a 0), .int p1] M Q) (hRc3 : ∀ (M : S0) (p1 : Int32) (Q : S0 → Prop), Rc 3  M p1 Q → KV B (wl 3 a (shR B.2.1 a)) yX1_readNot cX1_readNot 4 none frr loo [.ref (a 0), .int p1] M Q) (hRc4 : ∀ (M : S0) (p1 : Int32) (Q : S0 → Prop), Rc 4  M p1 Q → KV B (wl 3 a (shR B.2.1 a)) yX1_readBoth cX1_readBoth 3 none frr loo [.ref (a 0), .int p1] M Q) (hRc5 : ∀ (M : S0) (p1 : Int32) (Q : S0 → Prop), Rc 5  M p1 Q → KV B (wl 3 a (shR B.2.1 a)) yX1_readEither cX1_readEither 3 none frr loo [.ref (a 0), .int p1] M Q) (hRc6 : ∀ (M : S0) (p1 : Int32) (Q : S0 → Prop), Rc 6  M p1 Q → KV B (wl 3 a (shR B.2.1 a)) yX1_readPlain cX1_readPlain 2 none frr loo [.ref (a 0), .int p1] M Q) (hRc7 : ∀ (M : S0) (p1 : Int32) (Q : S0 → Prop), Rc 7  M p1 Q → KV B (wl 3 a (shR B.2.1 a)) yX1_readCompared cX1_readCompared 3 none frr loo [.ref (a 0), .int p1] M Q) (hfb : 12 ≤ frr) (hlb : 388 ≤ loo) (C : Ok B E cX1_readTerm 3 RX1 (frr + 1) (loo + 23)) (hR : RetV B E cX1_readTerm 3 (wl 3 a (shR B.2.1 a)) Q) : ∀ (n : Nat) (M : S0) (v1_7 : Int32) (v2_7 : Int32), w1_readTerm_b7 Rc  Q n M v1_7 v2_7 → V B E 3 (wl 3 a (shR B.2.1 a) M) 7 [(0, .ref (a 0)), (1, .int v1_7), (2, .int v2_7)] [] := by
  intro n
  induction n with
  | zero =>
    intro M v1_7 v2_7  h
    exact h.elim
  | succ n ih =>
    intro M v1_7 v2_7  h
    rw [w1_readTerm_b7] at h
    refine v_iload_n C 2 dX1_readTerm_7 rfl rfl ?_
    refine v_sipush C dX1_readTerm_8 (v := (160 : Int32)) (by decide) ?_
    refine v_icmp_ge C dX1_readTerm_11 (tgt := 44) (by decide) (fun c => ?_) (fun c => ?_)
    · replace h := h.1 c
      exact hR _ _ _ h dX1_readTerm_44
    · replace h := h.2 c
      refine v_aload_n C 0 dX1_readTerm_14 rfl rfl ?_
      refine fX1_1_g_token C dX1_readTerm_15 ?_
      refine v_bipush C dX1_readTerm_18 (v := (42 : Int32)) (by decide) ?_
      refine v_icmp_ne C dX1_readTerm_20 (tgt := 44) (by decide) (fun c => ?_) (fun c => ?_)
      · replace h := h.1 c
        exact hR _ _ _ h dX1_readTerm_44
      · replace h := h.2 c
        refine v_aload_n C 0 dX1_readTerm_23 rfl rfl ?_
        refine v_callVv (k := 0) (As := []) (rest := []) C (c1_next  h) eX1_54 (by omega) (by omega) (by decide) rfl rfl rfl rfl (Nat.le_of_ble_eq_true rfl) dX1_readTerm_24 (fun M3 h => ?_)
        refine v_aload_n C 0 dX1_readTerm_27 rfl rfl ?_
        refine v_iload_n C 1 dX1_readTerm_28 rfl rfl ?_
        refine v_callVv (k := 0) (As := [.int v1_7]) (rest := []) C (hRc0 _ _ _  h) eX1_99 (by omega) (by omega) (by decide) rfl rfl rfl rfl (Nat.le_of_ble_eq_true rfl) dX1_readTerm_29 (fun M4 h => ?_)
        refine v_aload_n C 0 dX1_readTerm_32 rfl rfl ?_
        refine v_bipush C dX1_readTerm_33 (v := (-13 : Int32)) (by decide) ?_
        refine v_callVv (k := 0) (As := [.int (-13 : Int32)]) (rest := []) C (c1_emit  h) eX1_80 (by omega) (by omega) (by decide) rfl rfl rfl rfl (Nat.le_of_ble_eq_true rfl) dX1_readTerm_35 (fun M5 h => ?_)
        obtain ⟨x6, ex6⟩ : ∃ z : Int32, z = v2_7 + (1 : Int32) := ⟨_, rfl⟩
        replace h := h x6 ex6
        refine v_iinc (v := x6) (lv' := [(2, .int x6), (0, .ref (a 0)), (1, .int v1_7)]) C 2 dX1_readTerm_38 rfl (by rw [ex6]; rfl) (by decide) rfl ?_
        refine v_goto C dX1_readTerm_41 (tgt := 7) (by decide) ?_
        refine v_sub [1, 2, 0] rfl ?_
        exact ih M5 v1_7 x6  h
def w1_readTerm_body (Rc : Nat → S0 → Int32 → (S0 → Prop) → Prop) (M : S0) (p1 : Int32) (Q : S0 → Prop) : Prop :=
    Rc 0 M p1 (fun M1 => ∃ n2, w1_readTerm_b7 Rc  Q n2 M1 p1 (0 : Int32))
set_option maxHeartbeats 4000000 in
set_option maxRecDepth 20000 in
theorem c1_readTerm_body {B : BX} {a : Nat → Nat} {Rc : Nat → S0 → Int32 → (S0 → Prop) → Prop} {frr loo : Nat} {M : S0} {p1 : Int32} {Q : S0 → Prop} (hRc0 : ∀ (M : S0) (p1 : Int32) (Q : S0 → Prop), Rc 0  M p1 Q → KV B (wl 3 a (shR B.2.1 a)) yX1_readOne cX1_readOne 4 none frr loo [.ref (a 0), .int p1] M Q) (hRc1 : ∀ (M : S0) (p1 : Int32) (Q : S0 → Prop), Rc 1  M p1 Q → KV B (wl 3 a (shR B.2.1 a)) yX1_readTerm cX1_readTerm 3 none frr loo [.ref (a 0), .int p1] M Q) (hRc2 : ∀ (M : S0) (p1 : Int32) (Q : S0 → Prop), Rc 2  M p1 Q → KV B (wl 3 a (shR B.2.1 a)) yX1_readSum cX1_readSum 4 none frr loo [.ref (a 0), .int p1] M Q) (hRc3 : ∀ (M : S0) (p1 : Int32) (Q : S0 → Prop), Rc 3  M p1 Q → KV B (wl 3 a (shR B.2.1 a)) yX1_readNot cX1_readNot 4 none frr loo [.ref (a 0), .int p1] M Q) (hRc4 : ∀ (M : S0) (p1 : Int32) (Q : S0 → Prop), Rc 4  M p1 Q → KV B (wl 3 a (shR B.2.1 a)) yX1_readBoth cX1_readBoth 3 none frr loo [.ref (a 0), .int p1] M Q) (hRc5 : ∀ (M : S0) (p1 : Int32) (Q : S0 → Prop), Rc 5  M p1 Q → KV B (wl 3 a (shR B.2.1 a)) yX1_readEither cX1_readEither 3 none frr loo [.ref (a 0), .int p1] M Q) (hRc6 : ∀ (M : S0) (p1 : Int32) (Q : S0 → Prop), Rc 6  M p1 Q → KV B (wl 3 a (shR B.2.1 a)) yX1_readPlain cX1_readPlain 2 none frr loo [.ref (a 0), .int p1] M Q) (hRc7 : ∀ (M : S0) (p1 : Int32) (Q : S0 → Prop), Rc 7  M p1 Q → KV B (wl 3 a (shR B.2.1 a)) yX1_readCompared cX1_readCompared 3 none frr loo [.ref (a 0), .int p1] M Q) (hfb : 12 ≤ frr) (hlb : 388 ≤ loo) (h : w1_readTerm_body Rc M p1 Q) : KV B (wl 3 a (shR B.2.1 a)) yX1_readTerm cX1_readTerm 3 none (frr + 1) (loo + 23) [.ref (a 0), .int p1] M Q := by
  rw [w1_readTerm_body] at h
  refine KV_of (by decide +kernel) (Nat.le_of_ble_eq_true rfl) (fun E C hR => ?_)
  change V B E 3 (wl 3 a (shR B.2.1 a) M) 0 [(0, .ref (a 0)), (1, .int p1)] []
  change Ok B E cX1_readTerm 3 RX1 (frr + 1) (loo + 23) at C
  refine v_aload_n C 0 dX1_readTerm_0 rfl rfl ?_
  refine v_iload_n C 1 dX1_readTerm_1 rfl rfl ?_
  refine v_callVv (k := 0) (As := [.int p1]) (rest := []) C (hRc0 _ _ _  h) eX1_99 (by omega) (by omega) (by decide) rfl rfl rfl rfl (Nat.le_of_ble_eq_true rfl) dX1_readTerm_2 (fun M1 h => ?_)
  refine v_iconst C dX1_readTerm_5 (v := (0 : Int32)) (by decide) ?_
  refine v_istore_n (lv' := [(2, .int (0 : Int32)), (0, .ref (a 0)), (1, .int p1)]) C dX1_readTerm_6 rfl (by decide) rfl ?_
  obtain ⟨n2, h⟩ := h
  refine v_sub [1, 2, 0] rfl ?_
  exact t1_readTerm_b7  hRc0 hRc1 hRc2 hRc3 hRc4 hRc5 hRc6 hRc7 hfb hlb C hR  n2 M1 p1 (0 : Int32)  h
def w1_readSum_b7 (Rc : Nat → S0 → Int32 → (S0 → Prop) → Prop) (Q : S0 → Prop) : Nat → S0 → Int32 → Int32 → Prop
  | 0, _, _, _ => False
  | n + 1, M, v1_7, v2_7 =>
    (((160 : Int32) ≤ v2_7) → (Q M)) ∧ ((¬ (160 : Int32) ≤ v2_7) → ((((M 0 6) = (43 : Int32)) → (∀ x3 : Int32, x3 = (M 0 6) → (w1_next M (fun M4 => Rc 1 M4 v1_7 (fun M5 => ((¬ x3 = (43 : Int32)) → (w1_emit M5 (-12 : Int32) (fun M6 => ∀ x7 : Int32, x7 = v2_7 + (1 : Int32) → (w1_readSum_b7 Rc  Q n M6 v1_7 x7)))) ∧ ((x3 = (43 : Int32)) → (w1_emit M5 (-11 : Int32) (fun M8 => ∀ x9 : Int32, x9 = v2_7 + (1 : Int32) → (w1_readSum_b7 Rc  Q n M8 v1_7 x9))))))))) ∧ ((¬ (M 0 6) = (43 : Int32)) → (((¬ (M 0 6) = (45 : Int32)) → (Q M)) ∧ (((M 0 6) = (45 : Int32)) → (∀ x10 : Int32, x10 = (M 0 6) → (w1_next M (fun M11 => Rc 1 M11 v1_7 (fun M12 => ((¬ x10 = (43 : Int32)) → (w1_emit M12 (-12 : Int32) (fun M13 => ∀ x14 : Int32, x14 = v2_7 + (1 : Int32) → (w1_readSum_b7 Rc  Q n M13 v1_7 x14)))) ∧ ((x10 = (43 : Int32)) → (w1_emit M12 (-11 : Int32) (fun M15 => ∀ x16 : Int32, x16 = v2_7 + (1 : Int32) → (w1_readSum_b7 Rc  Q n M15 v1_7 x16)))))))))))))
set_option maxHeartbeats 4000000 in
set_option maxRecDepth 20000 in
theorem t1_readSum_b7 {B : BX} {E : EX} {a : Nat → Nat} {Rc : Nat → S0 → Int32 → (S0 → Prop) → Prop} {frr loo : Nat} {Q : S0 → Prop} (hRc0 : ∀ (M : S0) (p1 : Int32) (Q : S0 → Prop), Rc 0  M p1 Q → KV B (wl 3 a (shR B.2.1 a)) yX1_readOne cX1_readOne 4 none frr loo [.ref (a 0), .int p1] M Q) (hRc1 : ∀ (M : S0) (p1 : Int32) (Q : S0 → Prop), Rc 1  M p1 Q → KV B (wl 3 a (shR B.2.1 a)) yX1_readTerm cX1_readTerm 3 none frr loo [.ref (a 0), .int p1] M Q) (hRc2 : ∀ (M : S0) (p1 : Int32) (Q : S0 → Prop), Rc 2  M p1 Q → KV B (wl 3 a (shR B.2.1 a)) yX1_readSum cX1_readSum 4 none frr loo [.ref (a 0), .int p1] M Q) (hRc3 : ∀ (M : S0) (p1 : Int32) (Q : S0 → Prop), Rc 3  M p1 Q → KV B (wl 3 a (shR B.2.1 a)) yX1_readNot cX1_readNot 4 none frr loo [.ref (a 0), .int p1] M Q) (hRc4 : ∀ (M : S0) (p1 : Int32) (Q : S0 → Prop), Rc 4  M p1 Q → KV B (wl 3 a (shR B.2.1 a)) yX1_readBoth cX1_readBoth 3 none frr loo [.ref (a 0), .int p1] M Q) (hRc5 : ∀ (M : S0) (p1 : Int32) (Q : S0 → Prop), Rc 5  M p1 Q → KV B (wl 3 a (shR B.2.1 a)) yX1_readEither cX1_readEither 3 none frr loo [.ref (a 0), .int p1] M Q) (hRc6 : ∀ (M : S0) (p1 : Int32) (Q : S0 → Prop), Rc 6  M p1 Q → KV B (wl 3 a (shR B.2.1 a)) yX1_readPlain cX1_readPlain 2 none frr loo [.ref (a 0), .int p1] M Q) (hRc7 : ∀ (M : S0) (p1 : Int32) (Q : S0 → Prop), Rc 7  M p1 Q → KV B (wl 3 a (shR B.2.1 a)) yX1_readCompared cX1_readCompared 3 none frr loo [.ref (a 0), .int p1] M Q) (hfb : 12 ≤ frr) (hlb : 388 ≤ loo) (C : Ok B E cX1_readSum 4 RX1 (frr + 1) (loo + 23)) (hR : RetV B E cX1_readSum 4 (wl 3 a (shR B.2.1 a)) Q) : ∀ (n : Nat) (M : S0) (v1_7 : Int32) (v2_7 : Int32), w1_readSum_b7 Rc  Q n M v1_7 v2_7 → V B E 4 (wl 3 a (shR B.2.1 a) M) 7 [(0, .ref (a 0)), (1, .int v1_7), (2, .int v2_7)] [] := by
  intro n
  induction n with
  | zero =>
    intro M v1_7 v2_7  h
    exact h.elim
  | succ n ih =>
    intro M v1_7 v2_7  h
    rw [w1_readSum_b7] at h
    refine v_iload_n C 2 dX1_readSum_7 rfl rfl ?_
    refine v_sipush C dX1_readSum_8 (v := (160 : Int32)) (by decide) ?_
    refine v_icmp_ge C dX1_readSum_11 (tgt := 69) (by decide) (fun c => ?_) (fun c => ?_)
    · replace h := h.1 c
      exact hR _ _ _ h dX1_readSum_69
    · replace h := h.2 c
      refine v_aload_n C 0 dX1_readSum_14 rfl rfl ?_
      refine fX1_1_g_token C dX1_readSum_15 ?_
      refine v_bipush C dX1_readSum_18 (v := (43 : Int32)) (by decide) ?_
      refine v_icmp_eq C dX1_readSum_20 (tgt := 32) (by decide) (fun c => ?_) (fun c => ?_)
      · replace h := h.1 c
        refine v_aload_n C 0 dX1_readSum_32 rfl rfl ?_
        refine fX1_1_g_token C dX1_readSum_33 ?_
        refine v_nmi (fun x3 ex3 => ?_)
        replace h := h x3 ex3
        refine v_istore_n (lv' := [(3, .int x3), (0, .ref (a 0)), (1, .int v1_7), (2, .int v2_7)]) C dX1_readSum_36 rfl (by decide) rfl ?_
        refine v_aload_n C 1 dX1_readSum_37 rfl rfl ?_
        refine v_callVv (k := 0) (As := []) (rest := []) C (c1_next  h) eX1_54 (by omega) (by omega) (by decide) rfl rfl rfl rfl (Nat.le_of_ble_eq_true rfl) dX1_readSum_38 (fun M4 h => ?_)
        refine v_aload_n C 1 dX1_readSum_41 rfl rfl ?_
        refine v_iload_n C 2 dX1_readSum_42 rfl rfl ?_
        refine v_callVv (k := 0) (As := [.int v1_7]) (rest := []) C (hRc1 _ _ _  h) eX1_96 (by omega) (by omega) (by decide) rfl rfl rfl rfl (Nat.le_of_ble_eq_true rfl) dX1_readSum_43 (fun M5 h => ?_)
        refine v_aload_n C 1 dX1_readSum_46 rfl rfl ?_
        refine v_iload_n C 0 dX1_readSum_47 rfl rfl ?_
        refine v_bipush C dX1_readSum_48 (v := (43 : Int32)) (by decide) ?_
        refine v_icmp_ne C dX1_readSum_50 (tgt := 58) (by decide) (fun c => ?_) (fun c => ?_)
        · replace h := h.1 c
          refine v_bipush C dX1_readSum_58 (v := (-12 : Int32)) (by decide) ?_
          refine v_callVv (k := 0) (As := [.int (-12 : Int32)]) (rest := []) C (c1_emit  h) eX1_80 (by omega) (by omega) (by decide) rfl rfl rfl rfl (Nat.le_of_ble_eq_true rfl) dX1_readSum_60 (fun M6 h => ?_)
          obtain ⟨x7, ex7⟩ : ∃ z : Int32, z = v2_7 + (1 : Int32) := ⟨_, rfl⟩
          replace h := h x7 ex7
          refine v_iinc (v := x7) (lv' := [(2, .int x7), (3, .int x3), (0, .ref (a 0)), (1, .int v1_7)]) C 3 dX1_readSum_63 rfl (by rw [ex7]; rfl) (by decide) rfl ?_
          refine v_goto C dX1_readSum_66 (tgt := 7) (by decide) ?_
          refine v_sub [2, 3, 0] rfl ?_
          exact ih M6 v1_7 x7  h
        · replace h := h.2 c
          refine v_bipush C dX1_readSum_53 (v := (-11 : Int32)) (by decide) ?_
          refine v_goto C dX1_readSum_55 (tgt := 60) (by decide) ?_
          refine v_callVv (k := 0) (As := [.int (-11 : Int32)]) (rest := []) C (c1_emit  h) eX1_80 (by omega) (by omega) (by decide) rfl rfl rfl rfl (Nat.le_of_ble_eq_true rfl) dX1_readSum_60 (fun M8 h => ?_)
          obtain ⟨x9, ex9⟩ : ∃ z : Int32, z = v2_7 + (1 : Int32) := ⟨_, rfl⟩
          replace h := h x9 ex9
          refine v_iinc (v := x9) (lv' := [(2, .int x9), (3, .int x3), (0, .ref (a 0)), (1, .int v1_7)]) C 3 dX1_readSum_63 rfl (by rw [ex9]; rfl) (by decide) rfl ?_
          refine v_goto C dX1_readSum_66 (tgt := 7) (by decide) ?_
          refine v_sub [2, 3, 0] rfl ?_
          exact ih M8 v1_7 x9  h
      · replace h := h.2 c
        refine v_aload_n C 0 dX1_readSum_23 rfl rfl ?_
        refine fX1_1_g_token C dX1_readSum_24 ?_
        refine v_bipush C dX1_readSum_27 (v := (45 : Int32)) (by decide) ?_
        refine v_icmp_ne C dX1_readSum_29 (tgt := 69) (by decide) (fun c => ?_) (fun c => ?_)
        · replace h := h.1 c
          exact hR _ _ _ h dX1_readSum_69
        · replace h := h.2 c
          refine v_aload_n C 0 dX1_readSum_32 rfl rfl ?_
          refine fX1_1_g_token C dX1_readSum_33 ?_
          refine v_nmi (fun x10 ex10 => ?_)
          replace h := h x10 ex10
          refine v_istore_n (lv' := [(3, .int x10), (0, .ref (a 0)), (1, .int v1_7), (2, .int v2_7)]) C dX1_readSum_36 rfl (by decide) rfl ?_
          refine v_aload_n C 1 dX1_readSum_37 rfl rfl ?_
          refine v_callVv (k := 0) (As := []) (rest := []) C (c1_next  h) eX1_54 (by omega) (by omega) (by decide) rfl rfl rfl rfl (Nat.le_of_ble_eq_true rfl) dX1_readSum_38 (fun M11 h => ?_)
          refine v_aload_n C 1 dX1_readSum_41 rfl rfl ?_
          refine v_iload_n C 2 dX1_readSum_42 rfl rfl ?_
          refine v_callVv (k := 0) (As := [.int v1_7]) (rest := []) C (hRc1 _ _ _  h) eX1_96 (by omega) (by omega) (by decide) rfl rfl rfl rfl (Nat.le_of_ble_eq_true rfl) dX1_readSum_43 (fun M12 h => ?_)
          refine v_aload_n C 1 dX1_readSum_46 rfl rfl ?_
          refine v_iload_n C 0 dX1_readSum_47 rfl rfl ?_
          refine v_bipush C dX1_readSum_48 (v := (43 : Int32)) (by decide) ?_
          refine v_icmp_ne C dX1_readSum_50 (tgt := 58) (by decide) (fun c => ?_) (fun c => ?_)
          · replace h := h.1 c
            refine v_bipush C dX1_readSum_58 (v := (-12 : Int32)) (by decide) ?_
            refine v_callVv (k := 0) (As := [.int (-12 : Int32)]) (rest := []) C (c1_emit  h) eX1_80 (by omega) (by omega) (by decide) rfl rfl rfl rfl (Nat.le_of_ble_eq_true rfl) dX1_readSum_60 (fun M13 h => ?_)
            obtain ⟨x14, ex14⟩ : ∃ z : Int32, z = v2_7 + (1 : Int32) := ⟨_, rfl⟩
            replace h := h x14 ex14
            refine v_iinc (v := x14) (lv' := [(2, .int x14), (3, .int x10), (0, .ref (a 0)), (1, .int v1_7)]) C 3 dX1_readSum_63 rfl (by rw [ex14]; rfl) (by decide) rfl ?_
            refine v_goto C dX1_readSum_66 (tgt := 7) (by decide) ?_
            refine v_sub [2, 3, 0] rfl ?_
            exact ih M13 v1_7 x14  h
          · replace h := h.2 c
            refine v_bipush C dX1_readSum_53 (v := (-11 : Int32)) (by decide) ?_
            refine v_goto C dX1_readSum_55 (tgt := 60) (by decide) ?_
            refine v_callVv (k := 0) (As := [.int (-11 : Int32)]) (rest := []) C (c1_emit  h) eX1_80 (by omega) (by omega) (by decide) rfl rfl rfl rfl (Nat.le_of_ble_eq_true rfl) dX1_readSum_60 (fun M15 h => ?_)
            obtain ⟨x16, ex16⟩ : ∃ z : Int32, z = v2_7 + (1 : Int32) := ⟨_, rfl⟩
            replace h := h x16 ex16
            refine v_iinc (v := x16) (lv' := [(2, .int x16), (3, .int x10), (0, .ref (a 0)), (1, .int v1_7)]) C 3 dX1_readSum_63 rfl (by rw [ex16]; rfl) (by decide) rfl ?_
            refine v_goto C dX1_readSum_66 (tgt := 7) (by decide) ?_
            refine v_sub [2, 3, 0] rfl ?_
            exact ih M15 v1_7 x16  h
def w1_readSum_body (Rc : Nat → S0 → Int32 → (S0 → Prop) → Prop) (M : S0) (p1 : Int32) (Q : S0 → Prop) : Prop :=
    Rc 1 M p1 (fun M1 => ∃ n2, w1_readSum_b7 Rc  Q n2 M1 p1 (0 : Int32))
set_option maxHeartbeats 4000000 in
set_option maxRecDepth 20000 in
theorem c1_readSum_body {B : BX} {a : Nat → Nat} {Rc : Nat → S0 → Int32 → (S0 → Prop) → Prop} {frr loo : Nat} {M : S0} {p1 : Int32} {Q : S0 → Prop} (hRc0 : ∀ (M : S0) (p1 : Int32) (Q : S0 → Prop), Rc 0  M p1 Q → KV B (wl 3 a (shR B.2.1 a)) yX1_readOne cX1_readOne 4 none frr loo [.ref (a 0), .int p1] M Q) (hRc1 : ∀ (M : S0) (p1 : Int32) (Q : S0 → Prop), Rc 1  M p1 Q → KV B (wl 3 a (shR B.2.1 a)) yX1_readTerm cX1_readTerm 3 none frr loo [.ref (a 0), .int p1] M Q) (hRc2 : ∀ (M : S0) (p1 : Int32) (Q : S0 → Prop), Rc 2  M p1 Q → KV B (wl 3 a (shR B.2.1 a)) yX1_readSum cX1_readSum 4 none frr loo [.ref (a 0), .int p1] M Q) (hRc3 : ∀ (M : S0) (p1 : Int32) (Q : S0 → Prop), Rc 3  M p1 Q → KV B (wl 3 a (shR B.2.1 a)) yX1_readNot cX1_readNot 4 none frr loo [.ref (a 0), .int p1] M Q) (hRc4 : ∀ (M : S0) (p1 : Int32) (Q : S0 → Prop), Rc 4  M p1 Q → KV B (wl 3 a (shR B.2.1 a)) yX1_readBoth cX1_readBoth 3 none frr loo [.ref (a 0), .int p1] M Q) (hRc5 : ∀ (M : S0) (p1 : Int32) (Q : S0 → Prop), Rc 5  M p1 Q → KV B (wl 3 a (shR B.2.1 a)) yX1_readEither cX1_readEither 3 none frr loo [.ref (a 0), .int p1] M Q) (hRc6 : ∀ (M : S0) (p1 : Int32) (Q : S0 → Prop), Rc 6  M p1 Q → KV B (wl 3 a (shR B.2.1 a)) yX1_readPlain cX1_readPlain 2 none frr loo [.ref (a 0), .int p1] M Q) (hRc7 : ∀ (M : S0) (p1 : Int32) (Q : S0 → Prop), Rc 7  M p1 Q → KV B (wl 3 a (shR B.2.1 a)) yX1_readCompared cX1_readCompared 3 none frr loo [.ref (a 0), .int p1] M Q) (hfb : 12 ≤ frr) (hlb : 388 ≤ loo) (h : w1_readSum_body Rc M p1 Q) : KV B (wl 3 a (shR B.2.1 a)) yX1_readSum cX1_readSum 4 none (frr + 1) (loo + 23) [.ref (a 0), .int p1] M Q := by
  rw [w1_readSum_body] at h
  refine KV_of (by decide +kernel) (Nat.le_of_ble_eq_true rfl) (fun E C hR => ?_)
  change V B E 4 (wl 3 a (shR B.2.1 a) M) 0 [(0, .ref (a 0)), (1, .int p1)] []
  change Ok B E cX1_readSum 4 RX1 (frr + 1) (loo + 23) at C
  refine v_aload_n C 0 dX1_readSum_0 rfl rfl ?_
  refine v_iload_n C 1 dX1_readSum_1 rfl rfl ?_
  refine v_callVv (k := 0) (As := [.int p1]) (rest := []) C (hRc1 _ _ _  h) eX1_96 (by omega) (by omega) (by decide) rfl rfl rfl rfl (Nat.le_of_ble_eq_true rfl) dX1_readSum_2 (fun M1 h => ?_)
  refine v_iconst C dX1_readSum_5 (v := (0 : Int32)) (by decide) ?_
  refine v_istore_n (lv' := [(2, .int (0 : Int32)), (0, .ref (a 0)), (1, .int p1)]) C dX1_readSum_6 rfl (by decide) rfl ?_
  obtain ⟨n2, h⟩ := h
  refine v_sub [1, 2, 0] rfl ?_
  exact t1_readSum_b7  hRc0 hRc1 hRc2 hRc3 hRc4 hRc5 hRc6 hRc7 hfb hlb C hR  n2 M1 p1 (0 : Int32)  h
