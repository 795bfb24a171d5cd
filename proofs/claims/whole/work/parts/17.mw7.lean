def w_OM : Nat → Nat → S0 → Int32 → Int32 → Int32 → (S0 → Prop) → Prop
  | 0, _, _, _, _, _, _ => False
  | d + 1, i, M, p1, p2, p3, Q => match i with
    | _ => w6_orders_body (w_OM d)  M p1 p2 p3 Q
theorem c_OM {B : BX} {a : Nat → Nat} : ∀ d : Nat, (∀ (M : S0) (p1 : Int32) (p2 : Int32) (p3 : Int32) (Q : S0 → Prop), w_OM d 0  M p1 p2 p3 Q → KV B (wl 12 a (shM B.2.1 a)) yX6_orders cX6_orders 5 none (72 + d) (1663 + 24 * d) [.ref (a 0), .int p1, .int p2, .int p3] M Q) := by
  intro d
  induction d with
  | zero => exact fun _ _ _ _ _  h => h.elim
  | succ d ih =>
    exact fun M p1 p2 p3 Q  h => c6_orders_body (frr := 72 + d) (loo := 1663 + 24 * d)  ih (by omega) (by omega) h
theorem c6_orders {B : BX} {a : Nat → Nat} (d : Nat) {M : S0} {p1 : Int32} {p2 : Int32} {p3 : Int32} {Q : S0 → Prop} (h : w_OM d 0  M p1 p2 p3 Q) : KV B (wl 12 a (shM B.2.1 a)) yX6_orders cX6_orders 5 none (72 + d) (1663 + 24 * d) [.ref (a 0), .int p1, .int p2, .int p3] M Q := (c_OM d) _ _ _ _ _  h
def w6_order (M : S0) (p1 : Int32) (p2 : Int32) (Q : Int32 → S0 → Prop) : Prop :=
    w6_isOne M p1 (fun r2 M1 => ((r2 = 0) → (Q (-2 : Int32) M1)) ∧ ((¬ r2 = 0) → (w6_in M1 (Int32.toInt64 p2) (0 : Int64) (1 : Int64) (fun r4 M3 => ((¬ r4 = 0) → (∀ M5 : S0, M5 = up M3 0 29 (-1 : Int32) → (∀ M6 : S0, M6 = up M5 0 30 (0 : Int32) → (∃ d, d ≤ 10 ∧ w_OM  d 0 M6 p1 ((((1 : Int32) <<< ((M6 0 11) &&& 31)) - (1 : Int32)) &&& (((1 : Int32) <<< (p1 &&& 31)) ^^^ (-1 : Int32))) (0 : Int32) (fun M8 => ((¬ p2 = 0) → (Q (M8 0 30) M8)) ∧ ((p2 = 0) → (Q (M8 0 29) M8))))))) ∧ ((r4 = 0) → (Q (-2 : Int32) M3))))))
set_option maxHeartbeats 4000000 in
set_option maxRecDepth 20000 in
theorem c6_order {B : BX} {a : Nat → Nat} {M : S0} {p1 : Int32} {p2 : Int32} {Q : Int32 → S0 → Prop} (h : w6_order  M p1 p2 Q) : KI B (wl 12 a (shM B.2.1 a)) yX6_order cX6_order 3 (some .int) 83 1927 [.ref (a 0), .int p1, .int p2] M Q := by
  rw [w6_order] at h
  refine KI_of (by decide +kernel) (Nat.le_of_ble_eq_true rfl) (fun E C hR => ?_)
  change V B E 3 (wl 12 a (shM B.2.1 a) M) 0 [(0, .ref (a 0)), (1, .int p1), (2, .int p2)] []
  change Ok B E cX6_order 3 RX6 83 1927 at C
  refine v_aload_n C 0 dX6_order_0 rfl rfl ?_
  refine v_iload_n C 1 dX6_order_1 rfl rfl ?_
  refine v_callVi (k := 0) (As := [.int p1]) (rest := []) C (c6_isOne  h) eX6_68 (by omega) (by omega) (by decide) rfl rfl rfl rfl (Nat.le_of_ble_eq_true rfl) dX6_order_2 (fun r2 M1 h => ?_)
  refine v_if_eq C dX6_order_5 (tgt := 18) (by decide) (fun c => ?_) (fun c => ?_)
  · replace h := h.1 c
    refine v_bipush C dX6_order_18 (v := (-2 : Int32)) (by decide) ?_
    exact hR _ _ _ _ h dX6_order_20
  · replace h := h.2 c
    refine v_iload_n C 2 dX6_order_8 rfl rfl ?_
    refine v_i2l C dX6_order_9 ?_
    refine v_lconst C dX6_order_10 (v := (0 : Int64)) (by decide) ?_
    refine v_lconst C dX6_order_11 (v := (1 : Int64)) (by decide) ?_
    refine v_callSi (As := [.long (Int32.toInt64 p2), .long (0 : Int64), .long (1 : Int64)]) (rest := []) C (c6_in  h) eX6_64 (by omega) (by omega) rfl rfl (Nat.le_of_ble_eq_true rfl) dX6_order_12 (fun r4 M3 h => ?_)
    refine v_if_ne C dX6_order_15 (tgt := 21) (by decide) (fun c => ?_) (fun c => ?_)
    · replace h := h.1 c
      refine v_aload_n C 0 dX6_order_21 rfl rfl ?_
      refine v_iconst C dX6_order_22 (v := (-1 : Int32)) (by decide) ?_
      refine fX6_6_p_bestDigits C dX6_order_23 (fun M5 eM5 => ?_)
      replace h := h M5 eM5
      refine v_aload_n C 0 dX6_order_26 rfl rfl ?_
      refine v_iconst C dX6_order_27 (v := (0 : Int32)) (by decide) ?_
      refine fX6_6_p_bestMany C dX6_order_28 (fun M6 eM6 => ?_)
      replace h := h M6 eM6
      refine v_aload_n C 0 dX6_order_31 rfl rfl ?_
      refine v_iload_n C 1 dX6_order_32 rfl rfl ?_
      refine v_iconst C dX6_order_33 (v := (1 : Int32)) (by decide) ?_
      refine v_aload_n C 0 dX6_order_34 rfl rfl ?_
      refine fX6_6_g_many C dX6_order_35 ?_
      refine v_ishl C dX6_order_38 ?_
      refine v_iconst C dX6_order_39 (v := (1 : Int32)) (by decide) ?_
      refine v_isub C dX6_order_40 ?_
      refine v_iconst C dX6_order_41 (v := (1 : Int32)) (by decide) ?_
      refine v_iload_n C 1 dX6_order_42 rfl rfl ?_
      refine v_ishl C dX6_order_43 ?_
      refine v_iconst C dX6_order_44 (v := (-1 : Int32)) (by decide) ?_
      refine v_ixor C dX6_order_45 ?_
      refine v_iand C dX6_order_46 ?_
      refine v_iconst C dX6_order_47 (v := (0 : Int32)) (by decide) ?_
      obtain ⟨d, hd7, h⟩ := h
      refine v_callVv (k := 0) (As := [.int p1, .int ((((1 : Int32) <<< ((M6 0 11) &&& 31)) - (1 : Int32)) &&& (((1 : Int32) <<< (p1 &&& 31)) ^^^ (-1 : Int32))), .int (0 : Int32)]) (rest := []) C (c6_orders d  h) eX6_319 (by omega) (by omega) (by decide) rfl rfl rfl rfl (Nat.le_of_ble_eq_true rfl) dX6_order_48 (fun M8 h => ?_)
      refine v_iload_n C 2 dX6_order_51 rfl rfl ?_
      refine v_if_ne C dX6_order_52 (tgt := 62) (by decide) (fun c => ?_) (fun c => ?_)
      · replace h := h.1 c
        refine v_aload_n C 0 dX6_order_62 rfl rfl ?_
        refine fX6_6_g_bestMany C dX6_order_63 ?_
        exact hR _ _ _ _ h dX6_order_66
      · replace h := h.2 c
        refine v_aload_n C 0 dX6_order_55 rfl rfl ?_
        refine fX6_6_g_bestDigits C dX6_order_56 ?_
        refine v_goto C dX6_order_59 (tgt := 66) (by decide) ?_
        exact hR _ _ _ _ h dX6_order_66
    · replace h := h.2 c
      refine v_bipush C dX6_order_18 (v := (-2 : Int32)) (by decide) ?_
      exact hR _ _ _ _ h dX6_order_20
def w6_tries_b62 (Rc : Nat → S0 → Int32 → (S0 → Prop) → Prop) (K50 : S0 → Int32 → Int32 → Prop) (Q : S0 → Prop) : Nat → S0 → Int32 → Int32 → Int32 → Prop
  | 0, _, _, _, _ => False
  | n + 1, M, v1_62, v2_62, v3_62 =>
    (((M 0 11) ≤ v3_62) → (∀ x11 : Int32, x11 = v2_62 + (1 : Int32) → (K50 M v1_62 x11))) ∧ ((¬ (M 0 11) ≤ v3_62) → (w6_laysAside M (fun M12 => w6_games M12 v2_62 v3_62 (fun r14 M13 => Rc 0 M13 (v1_62 - (1 : Int32)) (fun M15 => w6_laysBack M15 (fun M16 => ∀ x17 : Int32, x17 = v3_62 + (1 : Int32) → (w6_tries_b62 Rc K50 Q n M16 v1_62 v2_62 x17)))))))
set_option maxHeartbeats 4000000 in
set_option maxRecDepth 20000 in
theorem t6_tries_b62 {B : BX} {E : EX} {a : Nat → Nat} {Rc : Nat → S0 → Int32 → (S0 → Prop) → Prop} {frr loo : Nat} {K50 : S0 → Int32 → Int32 → Prop} {Q : S0 → Prop} (hRc0 : ∀ (M : S0) (p1 : Int32) (Q : S0 → Prop), Rc 0  M p1 Q → KV B (wl 12 a (shM B.2.1 a)) yX6_tries cX6_tries 4 none frr loo [.ref (a 0), .int p1] M Q) (hfb : 72 ≤ frr) (hlb : 1663 ≤ loo) (C : Ok B E cX6_tries 4 RX6 (frr + 1) (loo + 23)) (hR : RetV B E cX6_tries 4 (wl 12 a (shM B.2.1 a)) Q) (hK50 : ∀ (M : S0) (v1_50 : Int32) (v2_50 : Int32), K50 M v1_50 v2_50 → V B E 4 (wl 12 a (shM B.2.1 a) M) 50 [(0, .ref (a 0)), (1, .int v1_50), (2, .int v2_50)] []) : ∀ (n : Nat) (M : S0) (v1_62 : Int32) (v2_62 : Int32) (v3_62 : Int32), w6_tries_b62 Rc K50 Q n M v1_62 v2_62 v3_62 → V B E 4 (wl 12 a (shM B.2.1 a) M) 62 [(0, .ref (a 0)), (1, .int v1_62), (2, .int v2_62), (3, .int v3_62)] [] := by
  intro n
  induction n with
  | zero =>
    intro M v1_62 v2_62 v3_62  h
    exact h.elim
  | succ n ih =>
    intro M v1_62 v2_62 v3_62  h
    rw [w6_tries_b62] at h
    refine v_iload_n C 3 dX6_tries_62 rfl rfl ?_
    refine v_aload_n C 0 dX6_tries_63 rfl rfl ?_
    refine fX6_6_g_many C dX6_tries_64 ?_
    refine v_icmp_ge C dX6_tries_67 (tgt := 98) (by decide) (fun c => ?_) (fun c => ?_)
    · replace h := h.1 c
      obtain ⟨x11, ex11⟩ : ∃ z : Int32, z = v2_62 + (1 : Int32) := ⟨_, rfl⟩
      replace h := h x11 ex11
      refine v_iinc (v := x11) (lv' := [(2, .int x11), (0, .ref (a 0)), (1, .int v1_62), (3, .int v3_62)]) C 2 dX6_tries_98 rfl (by rw [ex11]; rfl) (by decide) rfl ?_
      refine v_goto C dX6_tries_101 (tgt := 50) (by decide) ?_
      refine v_sub [1, 2, 0] rfl ?_
      exact hK50 M v1_62 x11  h
    · replace h := h.2 c
      refine v_aload_n C 0 dX6_tries_70 rfl rfl ?_
      refine v_callVv (k := 0) (As := []) (rest := []) C (c6_laysAside  h) eX6_275 (by omega) (by omega) (by decide) rfl rfl rfl rfl (Nat.le_of_ble_eq_true rfl) dX6_tries_71 (fun M12 h => ?_)
      refine v_aload_n C 0 dX6_tries_74 rfl rfl ?_
      refine v_iload_n C 2 dX6_tries_75 rfl rfl ?_
      refine v_iload_n C 3 dX6_tries_76 rfl rfl ?_
      refine v_callVi (k := 0) (As := [.int v2_62, .int v3_62]) (rest := []) C (c6_games  h) eX6_278 (by omega) (by omega) (by decide) rfl rfl rfl rfl (Nat.le_of_ble_eq_true rfl) dX6_tries_77 (fun r14 M13 h => ?_)
      refine v_pop C dX6_tries_80 rfl ?_
      refine v_aload_n C 0 dX6_tries_81 rfl rfl ?_
      refine v_iload_n C 1 dX6_tries_82 rfl rfl ?_
      refine v_iconst C dX6_tries_83 (v := (1 : Int32)) (by decide) ?_
      refine v_isub C dX6_tries_84 ?_
      refine v_callVv (k := 0) (As := [.int (v1_62 - (1 : Int32))]) (rest := []) C (hRc0 _ _ _  h) eX6_325 (by omega) (by omega) (by decide) rfl rfl rfl rfl (Nat.le_of_ble_eq_true rfl) dX6_tries_85 (fun M15 h => ?_)
      refine v_aload_n C 0 dX6_tries_88 rfl rfl ?_
      refine v_callVv (k := 0) (As := []) (rest := []) C (c6_laysBack  h) eX6_281 (by omega) (by omega) (by decide) rfl rfl rfl rfl (Nat.le_of_ble_eq_true rfl) dX6_tries_89 (fun M16 h => ?_)
      obtain ⟨x17, ex17⟩ : ∃ z : Int32, z = v3_62 + (1 : Int32) := ⟨_, rfl⟩
      replace h := h x17 ex17
      refine v_iinc (v := x17) (lv' := [(3, .int x17), (0, .ref (a 0)), (1, .int v1_62), (2, .int v2_62)]) C 3 dX6_tries_92 rfl (by rw [ex17]; rfl) (by decide) rfl ?_
      refine v_goto C dX6_tries_95 (tgt := 62) (by decide) ?_
      refine v_sub [1, 2, 3, 0] rfl ?_
      exact ih M16 v1_62 v2_62 x17  h
def w6_tries_b50 (Rc : Nat → S0 → Int32 → (S0 → Prop) → Prop) (Q : S0 → Prop) : Nat → S0 → Int32 → Int32 → Prop
  | 0, _, _, _ => False
  | n + 1, M, v1_50, v2_50 =>
    (((M 0 11) ≤ v2_50) → (Q M)) ∧ ((¬ (M 0 11) ≤ v2_50) → (∀ x9 : Int32, x9 = (v2_50 + (1 : Int32)) → (∃ n10, w6_tries_b62 Rc (w6_tries_b50 Rc  Q n) Q n10 M v1_50 v2_50 x9)))
set_option maxHeartbeats 4000000 in
set_option maxRecDepth 20000 in
theorem t6_tries_b50 {B : BX} {E : EX} {a : Nat → Nat} {Rc : Nat → S0 → Int32 → (S0 → Prop) → Prop} {frr loo : Nat} {Q : S0 → Prop} (hRc0 : ∀ (M : S0) (p1 : Int32) (Q : S0 → Prop), Rc 0  M p1 Q → KV B (wl 12 a (shM B.2.1 a)) yX6_tries cX6_tries 4 none frr loo [.ref (a 0), .int p1] M Q) (hfb : 72 ≤ frr) (hlb : 1663 ≤ loo) (C : Ok B E cX6_tries 4 RX6 (frr + 1) (loo + 23)) (hR : RetV B E cX6_tries 4 (wl 12 a (shM B.2.1 a)) Q) : ∀ (n : Nat) (M : S0) (v1_50 : Int32) (v2_50 : Int32), w6_tries_b50 Rc  Q n M v1_50 v2_50 → V B E 4 (wl 12 a (shM B.2.1 a) M) 50 [(0, .ref (a 0)), (1, .int v1_50), (2, .int v2_50)] [] := by
  intro n
  induction n with
  | zero =>
    intro M v1_50 v2_50  h
    exact h.elim
  | succ n ih =>
    intro M v1_50 v2_50  h
    rw [w6_tries_b50] at h
    refine v_iload_n C 2 dX6_tries_50 rfl rfl ?_
    refine v_aload_n C 0 dX6_tries_51 rfl rfl ?_
    refine fX6_6_g_many C dX6_tries_52 ?_
    refine v_icmp_ge C dX6_tries_55 (tgt := 104) (by decide) (fun c => ?_) (fun c => ?_)
    · replace h := h.1 c
      exact hR _ _ _ h dX6_tries_104
    · replace h := h.2 c
      refine v_iload_n C 2 dX6_tries_58 rfl rfl ?_
      refine v_iconst C dX6_tries_59 (v := (1 : Int32)) (by decide) ?_
      refine v_iadd C dX6_tries_60 ?_
      refine v_nmi (fun x9 ex9 => ?_)
      replace h := h x9 ex9
      refine v_istore_n (lv' := [(3, .int x9), (0, .ref (a 0)), (1, .int v1_50), (2, .int v2_50)]) C dX6_tries_61 rfl (by decide) rfl ?_
      obtain ⟨n10, h⟩ := h
      refine v_sub [1, 2, 3, 0] rfl ?_
      exact t6_tries_b62  hRc0 hfb hlb C hR ih n10 M v1_50 v2_50 x9  h
def w6_tries_b2 (Rc : Nat → S0 → Int32 → (S0 → Prop) → Prop) (Q : S0 → Prop) : Nat → S0 → Int32 → Int32 → Prop
  | 0, _, _, _ => False
  | n + 1, M, v1_2, v2_2 =>
    (((M 0 11) ≤ v2_2) → (((¬ v1_2 = 0) → (∃ n2, w6_tries_b50 Rc  Q n2 M v1_2 (0 : Int32))) ∧ ((v1_2 = 0) → (Q M)))) ∧ ((¬ (M 0 11) ≤ v2_2) → (w6_has M v2_2 (fun r4 M3 => ((¬ r4 = (255 : Int32)) → (∀ M5 : S0, M5 = up M3 0 31 ((M 0 31) ||| ((0 : Int32) <<< (v2_2 &&& 31))) → (∀ x6 : Int32, x6 = v2_2 + (1 : Int32) → (w6_tries_b2 Rc  Q n M5 v1_2 x6)))) ∧ ((r4 = (255 : Int32)) → (∀ M7 : S0, M7 = up M3 0 31 ((M 0 31) ||| ((1 : Int32) <<< (v2_2 &&& 31))) → (∀ x8 : Int32, x8 = v2_2 + (1 : Int32) → (w6_tries_b2 Rc  Q n M7 v1_2 x8)))))))
set_option maxHeartbeats 4000000 in
set_option maxRecDepth 20000 in
theorem t6_tries_b2 {B : BX} {E : EX} {a : Nat → Nat} {Rc : Nat → S0 → Int32 → (S0 → Prop) → Prop} {frr loo : Nat} {Q : S0 → Prop} (hRc0 : ∀ (M : S0) (p1 : Int32) (Q : S0 → Prop), Rc 0  M p1 Q → KV B (wl 12 a (shM B.2.1 a)) yX6_tries cX6_tries 4 none frr loo [.ref (a 0), .int p1] M Q) (hfb : 72 ≤ frr) (hlb : 1663 ≤ loo) (C : Ok B E cX6_tries 4 RX6 (frr + 1) (loo + 23)) (hR : RetV B E cX6_tries 4 (wl 12 a (shM B.2.1 a)) Q) : ∀ (n : Nat) (M : S0) (v1_2 : Int32) (v2_2 : Int32), w6_tries_b2 Rc  Q n M v1_2 v2_2 → V B E 4 (wl 12 a (shM B.2.1 a) M) 2 [(0, .ref (a 0)), (1, .int v1_2), (2, .int v2_2)] [] := by
  intro n
  induction n with
  | zero =>
    intro M v1_2 v2_2  h
    exact h.elim
  | succ n ih =>
    intro M v1_2 v2_2  h
    rw [w6_tries_b2] at h
    refine v_iload_n C 2 dX6_tries_2 rfl rfl ?_
    refine v_aload_n C 0 dX6_tries_3 rfl rfl ?_
    refine fX6_6_g_many C dX6_tries_4 ?_
    refine v_icmp_ge C dX6_tries_7 (tgt := 43) (by decide) (fun c => ?_) (fun c => ?_)
    · replace h := h.1 c
      refine v_iload_n C 1 dX6_tries_43 rfl rfl ?_
      refine v_if_ne C dX6_tries_44 (tgt := 48) (by decide) (fun c => ?_) (fun c => ?_)
      · replace h := h.1 c
        refine v_iconst C dX6_tries_48 (v := (0 : Int32)) (by decide) ?_
        refine v_istore_n (lv' := [(2, .int (0 : Int32)), (0, .ref (a 0)), (1, .int v1_2)]) C dX6_tries_49 rfl (by decide) rfl ?_
        obtain ⟨n2, h⟩ := h
        refine v_sub [1, 2, 0] rfl ?_
        exact t6_tries_b50  hRc0 hfb hlb C hR  n2 M v1_2 (0 : Int32)  h
      · replace h := h.2 c
        exact hR _ _ _ h dX6_tries_47
    · replace h := h.2 c
      refine v_aload_n C 0 dX6_tries_10 rfl rfl ?_
      refine v_dup C dX6_tries_11 rfl ?_
      refine fX6_6_g_allSet C dX6_tries_12 ?_
      refine v_aload_n C 0 dX6_tries_15 rfl rfl ?_
      refine v_iload_n C 2 dX6_tries_16 rfl rfl ?_
      refine v_callVi (k := 0) (As := [.int v2_2]) (rest := [.int (M 0 31), .ref (a 0)]) C (c6_has  h) eX6_112 (by omega) (by omega) (by decide) rfl rfl rfl rfl (Nat.le_of_ble_eq_true rfl) dX6_tries_17 (fun r4 M3 h => ?_)
      refine v_sipush C dX6_tries_20 (v := (255 : Int32)) (by decide) ?_
      refine v_icmp_ne C dX6_tries_23 (tgt := 30) (by decide) (fun c => ?_) (fun c => ?_)
      · replace h := h.1 c
        refine v_iconst C dX6_tries_30 (v := (0 : Int32)) (by decide) ?_
        refine v_iload_n C 2 dX6_tries_31 rfl rfl ?_
        refine v_ishl C dX6_tries_32 ?_
        refine v_ior C dX6_tries_33 ?_
        refine fX6_6_p_allSet C dX6_tries_34 (fun M5 eM5 => ?_)
        replace h := h M5 eM5
        obtain ⟨x6, ex6⟩ : ∃ z : Int32, z = v2_2 + (1 : Int32) := ⟨_, rfl⟩
        replace h := h x6 ex6
        refine v_iinc (v := x6) (lv' := [(2, .int x6), (0, .ref (a 0)), (1, .int v1_2)]) C 2 dX6_tries_37 rfl (by rw [ex6]; rfl) (by decide) rfl ?_
        refine v_goto C dX6_tries_40 (tgt := 2) (by decide) ?_
        refine v_sub [1, 2, 0] rfl ?_
        exact ih M5 v1_2 x6  h
      · replace h := h.2 c
        refine v_iconst C dX6_tries_26 (v := (1 : Int32)) (by decide) ?_
        refine v_goto C dX6_tries_27 (tgt := 31) (by decide) ?_
        refine v_iload_n C 2 dX6_tries_31 rfl rfl ?_
        refine v_ishl C dX6_tries_32 ?_
        refine v_ior C dX6_tries_33 ?_
        refine fX6_6_p_allSet C dX6_tries_34 (fun M7 eM7 => ?_)
        replace h := h M7 eM7
        obtain ⟨x8, ex8⟩ : ∃ z : Int32, z = v2_2 + (1 : Int32) := ⟨_, rfl⟩
        replace h := h x8 ex8
        refine v_iinc (v := x8) (lv' := [(2, .int x8), (0, .ref (a 0)), (1, .int v1_2)]) C 2 dX6_tries_37 rfl (by rw [ex8]; rfl) (by decide) rfl ?_
        refine v_goto C dX6_tries_40 (tgt := 2) (by decide) ?_
        refine v_sub [1, 2, 0] rfl ?_
        exact ih M7 v1_2 x8  h
def w6_tries_body (Rc : Nat → S0 → Int32 → (S0 → Prop) → Prop) (M : S0) (p1 : Int32) (Q : S0 → Prop) : Prop :=
    ∃ n1, w6_tries_b2 Rc  Q n1 M p1 (0 : Int32)
set_option maxHeartbeats 4000000 in
set_option maxRecDepth 20000 in
theorem c6_tries_body {B : BX} {a : Nat → Nat} {Rc : Nat → S0 → Int32 → (S0 → Prop) → Prop} {frr loo : Nat} {M : S0} {p1 : Int32} {Q : S0 → Prop} (hRc0 : ∀ (M : S0) (p1 : Int32) (Q : S0 → Prop), Rc 0  M p1 Q → KV B (wl 12 a (shM B.2.1 a)) yX6_tries cX6_tries 4 none frr loo [.ref (a 0), .int p1] M Q) (hfb : 72 ≤ frr) (hlb : 1663 ≤ loo) (h : w6_tries_body Rc M p1 Q) : KV B (wl 12 a (shM B.2.1 a)) yX6_tries cX6_tries 4 none (frr + 1) (loo + 23) [.ref (a 0), .int p1] M Q := by
  rw [w6_tries_body] at h
  refine KV_of (by decide +kernel) (Nat.le_of_ble_eq_true rfl) (fun E C hR => ?_)
  change V B E 4 (wl 12 a (shM B.2.1 a) M) 0 [(0, .ref (a 0)), (1, .int p1)] []
  change Ok B E cX6_tries 4 RX6 (frr + 1) (loo + 23) at C
  refine v_iconst C dX6_tries_0 (v := (0 : Int32)) (by decide) ?_
  refine v_istore_n (lv' := [(2, .int (0 : Int32)), (0, .ref (a 0)), (1, .int p1)]) C dX6_tries_1 rfl (by decide) rfl ?_
  obtain ⟨n1, h⟩ := h
  refine v_sub [1, 2, 0] rfl ?_
  exact t6_tries_b2  hRc0 hfb hlb C hR  n1 M p1 (0 : Int32)  h
def w_TM : Nat → Nat → S0 → Int32 → (S0 → Prop) → Prop
  | 0, _, _, _, _ => False
  | d + 1, i, M, p1, Q => match i with
    | _ => w6_tries_body (w_TM d)  M p1 Q
theorem c_TM {B : BX} {a : Nat → Nat} : ∀ d : Nat, (∀ (M : S0) (p1 : Int32) (Q : S0 → Prop), w_TM d 0  M p1 Q → KV B (wl 12 a (shM B.2.1 a)) yX6_tries cX6_tries 4 none (72 + d) (1663 + 23 * d) [.ref (a 0), .int p1] M Q) := by
  intro d
  induction d with
  | zero => exact fun _ _ _  h => h.elim
  | succ d ih =>
    exact fun M p1 Q  h => c6_tries_body (frr := 72 + d) (loo := 1663 + 23 * d)  ih (by omega) (by omega) h
theorem c6_tries {B : BX} {a : Nat → Nat} (d : Nat) {M : S0} {p1 : Int32} {Q : S0 → Prop} (h : w_TM d 0  M p1 Q) : KV B (wl 12 a (shM B.2.1 a)) yX6_tries cX6_tries 4 none (72 + d) (1663 + 23 * d) [.ref (a 0), .int p1] M Q := (c_TM d) _ _ _  h
def w6_all (M : S0) (p1 : Int32) (Q : Int32 → S0 → Prop) : Prop :=
    w6_in M (Int32.toInt64 p1) (0 : Int64) (3 : Int64) (fun r2 M1 => ((¬ r2 = 0) → (((¬ p1 = (3 : Int32)) → (∀ M3 : S0, M3 = up M1 0 31 (0 : Int32) → (∃ d, d ≤ 8 ∧ w_TM  d 0 M3 p1 (fun M5 => Q (M5 0 31) M5)))) ∧ ((p1 = (3 : Int32)) → ((((M1 0 11) ≤ (4 : Int32)) → (∀ M6 : S0, M6 = up M1 0 31 (0 : Int32) → (∃ d, d ≤ 8 ∧ w_TM  d 0 M6 p1 (fun M8 => Q (M8 0 31) M8)))) ∧ ((¬ (M1 0 11) ≤ (4 : Int32)) → (Q (-3 : Int32) M1)))))) ∧ ((r2 = 0) → (Q (-2 : Int32) M1)))
set_option maxHeartbeats 4000000 in
set_option maxRecDepth 20000 in
theorem c6_all {B : BX} {a : Nat → Nat} {M : S0} {p1 : Int32} {Q : Int32 → S0 → Prop} (h : w6_all  M p1 Q) : KI B (wl 12 a (shM B.2.1 a)) yX6_all cX6_all 2 (some .int) 81 1870 [.ref (a 0), .int p1] M Q := by
  rw [w6_all] at h
  refine KI_of (by decide +kernel) (Nat.le_of_ble_eq_true rfl) (fun E C hR => ?_)
  change V B E 2 (wl 12 a (shM B.2.1 a) M) 0 [(0, .ref (a 0)), (1, .int p1)] []
  change Ok B E cX6_all 2 RX6 81 1870 at C
  refine v_iload_n C 1 dX6_all_0 rfl rfl ?_
  refine v_i2l C dX6_all_1 ?_
  refine v_lconst C dX6_all_2 (v := (0 : Int64)) (by decide) ?_
  refine v_ldc2 C (v := (3 : Int64)) (gdm 917 (by decide +kernel) (by decide +kernel)) dX6_all_3 ?_
  refine v_callSi (As := [.long (Int32.toInt64 p1), .long (0 : Int64), .long (3 : Int64)]) (rest := []) C (c6_in  h) eX6_64 (by omega) (by omega) rfl rfl (Nat.le_of_ble_eq_true rfl) dX6_all_6 (fun r2 M1 h => ?_)
  refine v_if_ne C dX6_all_9 (tgt := 15) (by decide) (fun c => ?_) (fun c => ?_)
  · replace h := h.1 c
    refine v_iload_n C 1 dX6_all_15 rfl rfl ?_
    refine v_iconst C dX6_all_16 (v := (3 : Int32)) (by decide) ?_
    refine v_icmp_ne C dX6_all_17 (tgt := 31) (by decide) (fun c => ?_) (fun c => ?_)
    · replace h := h.1 c
      refine v_aload_n C 0 dX6_all_31 rfl rfl ?_
      refine v_iconst C dX6_all_32 (v := (0 : Int32)) (by decide) ?_
      refine fX6_6_p_allSet C dX6_all_33 (fun M3 eM3 => ?_)
      replace h := h M3 eM3
      refine v_aload_n C 0 dX6_all_36 rfl rfl ?_
      refine v_iload_n C 1 dX6_all_37 rfl rfl ?_
      obtain ⟨d, hd4, h⟩ := h
      refine v_callVv (k := 0) (As := [.int p1]) (rest := []) C (c6_tries d  h) eX6_325 (by omega) (by omega) (by decide) rfl rfl rfl rfl (Nat.le_of_ble_eq_true rfl) dX6_all_38 (fun M5 h => ?_)
      refine v_aload_n C 0 dX6_all_41 rfl rfl ?_
      refine fX6_6_g_allSet C dX6_all_42 ?_
      exact hR _ _ _ _ h dX6_all_45
    · replace h := h.2 c
      refine v_aload_n C 0 dX6_all_20 rfl rfl ?_
      refine fX6_6_g_many C dX6_all_21 ?_
      refine v_iconst C dX6_all_24 (v := (4 : Int32)) (by decide) ?_
      refine v_icmp_le C dX6_all_25 (tgt := 31) (by decide) (fun c => ?_) (fun c => ?_)
      · replace h := h.1 c
        refine v_aload_n C 0 dX6_all_31 rfl rfl ?_
        refine v_iconst C dX6_all_32 (v := (0 : Int32)) (by decide) ?_
        refine fX6_6_p_allSet C dX6_all_33 (fun M6 eM6 => ?_)
        replace h := h M6 eM6
        refine v_aload_n C 0 dX6_all_36 rfl rfl ?_
        refine v_iload_n C 1 dX6_all_37 rfl rfl ?_
        obtain ⟨d, hd7, h⟩ := h
        refine v_callVv (k := 0) (As := [.int p1]) (rest := []) C (c6_tries d  h) eX6_325 (by omega) (by omega) (by decide) rfl rfl rfl rfl (Nat.le_of_ble_eq_true rfl) dX6_all_38 (fun M8 h => ?_)
        refine v_aload_n C 0 dX6_all_41 rfl rfl ?_
        refine fX6_6_g_allSet C dX6_all_42 ?_
        exact hR _ _ _ _ h dX6_all_45
      · replace h := h.2 c
        refine v_bipush C dX6_all_28 (v := (-3 : Int32)) (by decide) ?_
        exact hR _ _ _ _ h dX6_all_30
  · replace h := h.2 c
    refine v_bipush C dX6_all_12 (v := (-2 : Int32)) (by decide) ?_
    exact hR _ _ _ _ h dX6_all_14
def w6_soon_b18 (Q : Int32 → S0 → Prop) : Nat → S0 → Int32 → Int32 → Int32 → Prop
  | 0, _, _, _, _ => False
  | n + 1, M, v1_18, v2_18, v3_18 =>
    (((20 : Int32) < v3_18) → (w6_laysBack M (fun M5 => ((v3_18 ≤ (20 : Int32)) → (Q v3_18 M5)) ∧ ((¬ v3_18 ≤ (20 : Int32)) → (Q (-1 : Int32) M5))))) ∧ ((¬ (20 : Int32) < v3_18) → (w6_has M v1_18 (fun r7 M6 => ((r7 = 0) → (w6_laysBack M6 (fun M8 => ((v3_18 ≤ (20 : Int32)) → (Q v3_18 M8)) ∧ ((¬ v3_18 ≤ (20 : Int32)) → (Q (-1 : Int32) M8))))) ∧ ((¬ r7 = 0) → (w6_games M6 v1_18 v2_18 (fun r10 M9 => ∀ x11 : Int32, x11 = v3_18 + (1 : Int32) → (w6_soon_b18   Q n M9 v1_18 v2_18 x11)))))))
set_option maxHeartbeats 4000000 in
set_option maxRecDepth 20000 in
theorem t6_soon_b18 {B : BX} {E : EX} {a : Nat → Nat} {Q : Int32 → S0 → Prop} (C : Ok B E cX6_soon 4 RX6 72 1663) (hR : RetI B E cX6_soon 4 (wl 12 a (shM B.2.1 a)) Q) : ∀ (n : Nat) (M : S0) (v1_18 : Int32) (v2_18 : Int32) (v3_18 : Int32), w6_soon_b18   Q n M v1_18 v2_18 v3_18 → V B E 4 (wl 12 a (shM B.2.1 a) M) 18 [(0, .ref (a 0)), (1, .int v1_18), (2, .int v2_18), (3, .int v3_18)] [] := by
  intro n
  induction n with
  | zero =>
    intro M v1_18 v2_18 v3_18  h
    exact h.elim
  | succ n ih =>
    intro M v1_18 v2_18 v3_18  h
    rw [w6_soon_b18] at h
    refine v_iload_n C 3 dX6_soon_18 rfl rfl ?_
    refine v_bipush C dX6_soon_19 (v := (20 : Int32)) (by decide) ?_
    refine v_icmp_gt C dX6_soon_21 (tgt := 45) (by decide) (fun c => ?_) (fun c => ?_)
    · replace h := h.1 c
      refine v_aload_n C 0 dX6_soon_45 rfl rfl ?_
      refine v_callVv (k := 0) (As := []) (rest := []) C (c6_laysBack  h) eX6_281 (by omega) (by omega) (by decide) rfl rfl rfl rfl (Nat.le_of_ble_eq_true rfl) dX6_soon_46 (fun M5 h => ?_)
      refine v_iload_n C 3 dX6_soon_49 rfl rfl ?_
      refine v_bipush C dX6_soon_50 (v := (20 : Int32)) (by decide) ?_
      refine v_icmp_le C dX6_soon_52 (tgt := 59) (by decide) (fun c => ?_) (fun c => ?_)
      · replace h := h.1 c
        refine v_iload_n C 3 dX6_soon_59 rfl rfl ?_
        exact hR _ _ _ _ h dX6_soon_60
      · replace h := h.2 c
        refine v_iconst C dX6_soon_55 (v := (-1 : Int32)) (by decide) ?_
        refine v_goto C dX6_soon_56 (tgt := 60) (by decide) ?_
        exact hR _ _ _ _ h dX6_soon_60
    · replace h := h.2 c
      refine v_aload_n C 0 dX6_soon_24 rfl rfl ?_
      refine v_iload_n C 1 dX6_soon_25 rfl rfl ?_
      refine v_callVi (k := 0) (As := [.int v1_18]) (rest := []) C (c6_has  h) eX6_112 (by omega) (by omega) (by decide) rfl rfl rfl rfl (Nat.le_of_ble_eq_true rfl) dX6_soon_26 (fun r7 M6 h => ?_)
      refine v_if_eq C dX6_soon_29 (tgt := 45) (by decide) (fun c => ?_) (fun c => ?_)
      · replace h := h.1 c
        refine v_aload_n C 0 dX6_soon_45 rfl rfl ?_
        refine v_callVv (k := 0) (As := []) (rest := []) C (c6_laysBack  h) eX6_281 (by omega) (by omega) (by decide) rfl rfl rfl rfl (Nat.le_of_ble_eq_true rfl) dX6_soon_46 (fun M8 h => ?_)
        refine v_iload_n C 3 dX6_soon_49 rfl rfl ?_
        refine v_bipush C dX6_soon_50 (v := (20 : Int32)) (by decide) ?_
        refine v_icmp_le C dX6_soon_52 (tgt := 59) (by decide) (fun c => ?_) (fun c => ?_)
        · replace h := h.1 c
          refine v_iload_n C 3 dX6_soon_59 rfl rfl ?_
          exact hR _ _ _ _ h dX6_soon_60
        · replace h := h.2 c
          refine v_iconst C dX6_soon_55 (v := (-1 : Int32)) (by decide) ?_
          refine v_goto C dX6_soon_56 (tgt := 60) (by decide) ?_
          exact hR _ _ _ _ h dX6_soon_60
      · replace h := h.2 c
        refine v_aload_n C 0 dX6_soon_32 rfl rfl ?_
        refine v_iload_n C 1 dX6_soon_33 rfl rfl ?_
        refine v_iload_n C 2 dX6_soon_34 rfl rfl ?_
        refine v_callVi (k := 0) (As := [.int v1_18, .int v2_18]) (rest := []) C (c6_games  h) eX6_278 (by omega) (by omega) (by decide) rfl rfl rfl rfl (Nat.le_of_ble_eq_true rfl) dX6_soon_35 (fun r10 M9 h => ?_)
        refine v_pop C dX6_soon_38 rfl ?_
        obtain ⟨x11, ex11⟩ : ∃ z : Int32, z = v3_18 + (1 : Int32) := ⟨_, rfl⟩
        replace h := h x11 ex11
        refine v_iinc (v := x11) (lv' := [(3, .int x11), (0, .ref (a 0)), (1, .int v1_18), (2, .int v2_18)]) C 3 dX6_soon_39 rfl (by rw [ex11]; rfl) (by decide) rfl ?_
        refine v_goto C dX6_soon_42 (tgt := 18) (by decide) ?_
        refine v_sub [1, 2, 3, 0] rfl ?_
        exact ih M9 v1_18 v2_18 x11  h
def w6_soon (M : S0) (p1 : Int32) (p2 : Int32) (Q : Int32 → S0 → Prop) : Prop :=
    w6_areTwo M p1 p2 (fun r2 M1 => ((¬ r2 = 0) → (w6_laysAside M1 (fun M3 => ∃ n4, w6_soon_b18   Q n4 M3 p1 p2 (0 : Int32)))) ∧ ((r2 = 0) → (Q (-2 : Int32) M1)))
set_option maxHeartbeats 4000000 in
set_option maxRecDepth 20000 in
theorem c6_soon {B : BX} {a : Nat → Nat} {M : S0} {p1 : Int32} {p2 : Int32} {Q : Int32 → S0 → Prop} (h : w6_soon  M p1 p2 Q) : KI B (wl 12 a (shM B.2.1 a)) yX6_soon cX6_soon 4 (some .int) 72 1663 [.ref (a 0), .int p1, .int p2] M Q := by
  rw [w6_soon] at h
  refine KI_of (by decide +kernel) (Nat.le_of_ble_eq_true rfl) (fun E C hR => ?_)
  change V B E 4 (wl 12 a (shM B.2.1 a) M) 0 [(0, .ref (a 0)), (1, .int p1), (2, .int p2)] []
  change Ok B E cX6_soon 4 RX6 72 1663 at C
  refine v_aload_n C 0 dX6_soon_0 rfl rfl ?_
  refine v_iload_n C 1 dX6_soon_1 rfl rfl ?_
  refine v_iload_n C 2 dX6_soon_2 rfl rfl ?_
  refine v_callVi (k := 0) (As := [.int p1, .int p2]) (rest := []) C (c6_areTwo  h) eX6_269 (by omega) (by omega) (by decide) rfl rfl rfl rfl (Nat.le_of_ble_eq_true rfl) dX6_soon_3 (fun r2 M1 h => ?_)
  refine v_if_ne C dX6_soon_6 (tgt := 12) (by decide) (fun c => ?_) (fun c => ?_)
  · replace h := h.1 c
    refine v_aload_n C 0 dX6_soon_12 rfl rfl ?_
    refine v_callVv (k := 0) (As := []) (rest := []) C (c6_laysAside  h) eX6_275 (by omega) (by omega) (by decide) rfl rfl rfl rfl (Nat.le_of_ble_eq_true rfl) dX6_soon_13 (fun M3 h => ?_)
    refine v_iconst C dX6_soon_16 (v := (0 : Int32)) (by decide) ?_
    refine v_istore_n (lv' := [(3, .int (0 : Int32)), (0, .ref (a 0)), (1, .int p1), (2, .int p2)]) C dX6_soon_17 rfl (by decide) rfl ?_
    obtain ⟨n4, h⟩ := h
    refine v_sub [1, 2, 3, 0] rfl ?_
    exact t6_soon_b18   C hR  n4 M3 p1 p2 (0 : Int32)  h
  · replace h := h.2 c
    refine v_bipush C dX6_soon_9 (v := (-2 : Int32)) (by decide) ?_
    exact hR _ _ _ _ h dX6_soon_11
def w6_firstOther_b2 (Q : Int32 → S0 → Prop) : Nat → S0 → Int32 → Int32 → Int32 → Prop
  | 0, _, _, _, _ => False
  | n + 1, M, v1_2, v2_2, v3_2 =>
    (((M 0 11) ≤ v3_2) → (Q (-1 : Int32) M)) ∧ ((¬ (M 0 11) ≤ v3_2) → (((¬ v3_2 = v2_2) → (w6_powerOf M v2_2 v3_2 (fun r3 M2 => (vp_in (((40 : Int32) * v1_2) + v3_2) 160) ∧ (((r3 = (M2 11 (Int32.toNatClampNeg (((40 : Int32) * v1_2) + v3_2)))) → (∀ x5 : Int32, x5 = v3_2 + (1 : Int32) → (w6_firstOther_b2   Q n M2 v1_2 v2_2 x5))) ∧ ((¬ r3 = (M2 11 (Int32.toNatClampNeg (((40 : Int32) * v1_2) + v3_2)))) → (Q v3_2 M2)))))) ∧ ((v3_2 = v2_2) → ((vp_in (((40 : Int32) * v1_2) + v3_2) 160) ∧ ((((0 : Int32) = (M 11 (Int32.toNatClampNeg (((40 : Int32) * v1_2) + v3_2)))) → (∀ x7 : Int32, x7 = v3_2 + (1 : Int32) → (w6_firstOther_b2   Q n M v1_2 v2_2 x7))) ∧ ((¬ (0 : Int32) = (M 11 (Int32.toNatClampNeg (((40 : Int32) * v1_2) + v3_2)))) → (Q v3_2 M)))))))
set_option maxHeartbeats 4000000 in
set_option maxRecDepth 20000 in
theorem t6_firstOther_b2 {B : BX} {E : EX} {a : Nat → Nat} {Q : Int32 → S0 → Prop} (C : Ok B E cX6_firstOther 4 RX6 70 1612) (hR : RetI B E cX6_firstOther 4 (wl 12 a (shM B.2.1 a)) Q) : ∀ (n : Nat) (M : S0) (v1_2 : Int32) (v2_2 : Int32) (v3_2 : Int32), w6_firstOther_b2   Q n M v1_2 v2_2 v3_2 → V B E 4 (wl 12 a (shM B.2.1 a) M) 2 [(0, .ref (a 0)), (1, .int v1_2), (2, .int v2_2), (3, .int v3_2)] [] := by
  intro n
  induction n with
  | zero =>
    intro M v1_2 v2_2 v3_2  h
    exact h.elim
  | succ n ih =>
    intro M v1_2 v2_2 v3_2  h
    rw [w6_firstOther_b2] at h
    refine v_iload_n C 3 dX6_firstOther_2 rfl rfl ?_
    refine v_aload_n C 0 dX6_firstOther_3 rfl rfl ?_
    refine fX6_6_g_many C dX6_firstOther_4 ?_
    refine v_icmp_ge C dX6_firstOther_7 (tgt := 47) (by decide) (fun c => ?_) (fun c => ?_)
    · replace h := h.1 c
      refine v_iconst C dX6_firstOther_47 (v := (-1 : Int32)) (by decide) ?_
      exact hR _ _ _ _ h dX6_firstOther_48
    · replace h := h.2 c
      refine v_iload_n C 3 dX6_firstOther_10 rfl rfl ?_
      refine v_iload_n C 2 dX6_firstOther_11 rfl rfl ?_
      refine v_icmp_ne C dX6_firstOther_12 (tgt := 19) (by decide) (fun c => ?_) (fun c => ?_)
      · replace h := h.1 c
        refine v_aload_n C 0 dX6_firstOther_19 rfl rfl ?_
        refine v_iload_n C 2 dX6_firstOther_20 rfl rfl ?_
        refine v_iload_n C 3 dX6_firstOther_21 rfl rfl ?_
        refine v_callVi (k := 0) (As := [.int v2_2, .int v3_2]) (rest := []) C (c6_powerOf  h) eX6_256 (by omega) (by omega) (by decide) rfl rfl rfl rfl (Nat.le_of_ble_eq_true rfl) dX6_firstOther_22 (fun r3 M2 h => ?_)
        refine v_aload_n C 0 dX6_firstOther_25 rfl rfl ?_
        refine fX6_6_g_items C dX6_firstOther_26 ?_
        refine v_bipush C dX6_firstOther_29 (v := (40 : Int32)) (by decide) ?_
        refine v_iload_n C 1 dX6_firstOther_31 rfl rfl ?_
        refine v_imul C dX6_firstOther_32 ?_
        refine v_iload_n C 3 dX6_firstOther_33 rfl rfl ?_
        refine v_iadd C dX6_firstOther_34 ?_
        obtain ⟨hi4, h⟩ := h
        refine v_iald (k := 11) C (by decide) rfl hi4 dX6_firstOther_35 ?_
        refine v_icmp_eq C dX6_firstOther_36 (tgt := 41) (by decide) (fun c => ?_) (fun c => ?_)
        · replace h := h.1 c
          obtain ⟨x5, ex5⟩ : ∃ z : Int32, z = v3_2 + (1 : Int32) := ⟨_, rfl⟩
          replace h := h x5 ex5
          refine v_iinc (v := x5) (lv' := [(3, .int x5), (0, .ref (a 0)), (1, .int v1_2), (2, .int v2_2)]) C 3 dX6_firstOther_41 rfl (by rw [ex5]; rfl) (by decide) rfl ?_
          refine v_goto C dX6_firstOther_44 (tgt := 2) (by decide) ?_
          refine v_sub [1, 2, 3, 0] rfl ?_
          exact ih M2 v1_2 v2_2 x5  h
        · replace h := h.2 c
          refine v_iload_n C 3 dX6_firstOther_39 rfl rfl ?_
          exact hR _ _ _ _ h dX6_firstOther_40
      · replace h := h.2 c
        refine v_iconst C dX6_firstOther_15 (v := (0 : Int32)) (by decide) ?_
        refine v_goto C dX6_firstOther_16 (tgt := 25) (by decide) ?_
        refine v_aload_n C 0 dX6_firstOther_25 rfl rfl ?_
        refine fX6_6_g_items C dX6_firstOther_26 ?_
        refine v_bipush C dX6_firstOther_29 (v := (40 : Int32)) (by decide) ?_
        refine v_iload_n C 1 dX6_firstOther_31 rfl rfl ?_
        refine v_imul C dX6_firstOther_32 ?_
        refine v_iload_n C 3 dX6_firstOther_33 rfl rfl ?_
        refine v_iadd C dX6_firstOther_34 ?_
        obtain ⟨hi6, h⟩ := h
        refine v_iald (k := 11) C (by decide) rfl hi6 dX6_firstOther_35 ?_
        refine v_icmp_eq C dX6_firstOther_36 (tgt := 41) (by decide) (fun c => ?_) (fun c => ?_)
        · replace h := h.1 c
          obtain ⟨x7, ex7⟩ : ∃ z : Int32, z = v3_2 + (1 : Int32) := ⟨_, rfl⟩
          replace h := h x7 ex7
          refine v_iinc (v := x7) (lv' := [(3, .int x7), (0, .ref (a 0)), (1, .int v1_2), (2, .int v2_2)]) C 3 dX6_firstOther_41 rfl (by rw [ex7]; rfl) (by decide) rfl ?_
          refine v_goto C dX6_firstOther_44 (tgt := 2) (by decide) ?_
          refine v_sub [1, 2, 3, 0] rfl ?_
          exact ih M v1_2 v2_2 x7  h
        · replace h := h.2 c
          refine v_iload_n C 3 dX6_firstOther_39 rfl rfl ?_
          exact hR _ _ _ _ h dX6_firstOther_40
def w6_firstOther (M : S0) (p1 : Int32) (p2 : Int32) (Q : Int32 → S0 → Prop) : Prop :=
    ∃ n1, w6_firstOther_b2   Q n1 M p1 p2 (0 : Int32)
set_option maxHeartbeats 4000000 in
set_option maxRecDepth 20000 in
theorem c6_firstOther {B : BX} {a : Nat → Nat} {M : S0} {p1 : Int32} {p2 : Int32} {Q : Int32 → S0 → Prop} (h : w6_firstOther  M p1 p2 Q) : KI B (wl 12 a (shM B.2.1 a)) yX6_firstOther cX6_firstOther 4 (some .int) 70 1612 [.ref (a 0), .int p1, .int p2] M Q := by
  rw [w6_firstOther] at h
  refine KI_of (by decide +kernel) (Nat.le_of_ble_eq_true rfl) (fun E C hR => ?_)
  change V B E 4 (wl 12 a (shM B.2.1 a) M) 0 [(0, .ref (a 0)), (1, .int p1), (2, .int p2)] []
  change Ok B E cX6_firstOther 4 RX6 70 1612 at C
  refine v_iconst C dX6_firstOther_0 (v := (0 : Int32)) (by decide) ?_
  refine v_istore_n (lv' := [(3, .int (0 : Int32)), (0, .ref (a 0)), (1, .int p1), (2, .int p2)]) C dX6_firstOther_1 rfl (by decide) rfl ?_
  obtain ⟨n1, h⟩ := h
  refine v_sub [1, 2, 3, 0] rfl ?_
  exact t6_firstOther_b2   C hR  n1 M p1 p2 (0 : Int32)  h
def w6_likeSet_b4 (Q : Int32 → S0 → Prop) : Nat → S0 → Int32 → Int32 → Int32 → Prop
  | 0, _, _, _, _ => False
  | n + 1, M, v1_4, v2_4, v3_4 =>
    (((M 0 11) ≤ v3_4) → (Q v2_4 M)) ∧ ((¬ (M 0 11) ≤ v3_4) → (w6_firstOther M v1_4 v3_4 (fun r3 M2 => ((¬ r3 = (-1 : Int32)) → (∀ x4 : Int32, x4 = (v2_4 ||| ((0 : Int32) <<< (v3_4 &&& 31))) → (∀ x5 : Int32, x5 = v3_4 + (1 : Int32) → (w6_likeSet_b4   Q n M2 v1_4 x4 x5)))) ∧ ((r3 = (-1 : Int32)) → (∀ x6 : Int32, x6 = (v2_4 ||| ((1 : Int32) <<< (v3_4 &&& 31))) → (∀ x7 : Int32, x7 = v3_4 + (1 : Int32) → (w6_likeSet_b4   Q n M2 v1_4 x6 x7)))))))
set_option maxHeartbeats 4000000 in
set_option maxRecDepth 20000 in
theorem t6_likeSet_b4 {B : BX} {E : EX} {a : Nat → Nat} {Q : Int32 → S0 → Prop} (C : Ok B E cX6_likeSet 4 RX6 71 1635) (hR : RetI B E cX6_likeSet 4 (wl 12 a (shM B.2.1 a)) Q) : ∀ (n : Nat) (M : S0) (v1_4 : Int32) (v2_4 : Int32) (v3_4 : Int32), w6_likeSet_b4   Q n M v1_4 v2_4 v3_4 → V B E 4 (wl 12 a (shM B.2.1 a) M) 4 [(0, .ref (a 0)), (1, .int v1_4), (2, .int v2_4), (3, .int v3_4)] [] := by
  intro n
  induction n with
  | zero =>
    intro M v1_4 v2_4 v3_4  h
    exact h.elim
  | succ n ih =>
    intro M v1_4 v2_4 v3_4  h
    rw [w6_likeSet_b4] at h
    refine v_iload_n C 3 dX6_likeSet_4 rfl rfl ?_
    refine v_aload_n C 0 dX6_likeSet_5 rfl rfl ?_
    refine fX6_6_g_many C dX6_likeSet_6 ?_
    refine v_icmp_ge C dX6_likeSet_9 (tgt := 38) (by decide) (fun c => ?_) (fun c => ?_)
    · replace h := h.1 c
      refine v_iload_n C 2 dX6_likeSet_38 rfl rfl ?_
      exact hR _ _ _ _ h dX6_likeSet_39
    · replace h := h.2 c
      refine v_iload_n C 2 dX6_likeSet_12 rfl rfl ?_
      refine v_aload_n C 0 dX6_likeSet_13 rfl rfl ?_
      refine v_iload_n C 1 dX6_likeSet_14 rfl rfl ?_
      refine v_iload_n C 3 dX6_likeSet_15 rfl rfl ?_
      refine v_callVi (k := 0) (As := [.int v1_4, .int v3_4]) (rest := [.int v2_4]) C (c6_firstOther  h) eX6_328 (by omega) (by omega) (by decide) rfl rfl rfl rfl (Nat.le_of_ble_eq_true rfl) dX6_likeSet_16 (fun r3 M2 h => ?_)
      refine v_iconst C dX6_likeSet_19 (v := (-1 : Int32)) (by decide) ?_
      refine v_icmp_ne C dX6_likeSet_20 (tgt := 27) (by decide) (fun c => ?_) (fun c => ?_)
      · replace h := h.1 c
        refine v_iconst C dX6_likeSet_27 (v := (0 : Int32)) (by decide) ?_
        refine v_iload_n C 3 dX6_likeSet_28 rfl rfl ?_
        refine v_ishl C dX6_likeSet_29 ?_
        refine v_ior C dX6_likeSet_30 ?_
        refine v_nmi (fun x4 ex4 => ?_)
        replace h := h x4 ex4
        refine v_istore_n (lv' := [(2, .int x4), (0, .ref (a 0)), (1, .int v1_4), (3, .int v3_4)]) C dX6_likeSet_31 rfl (by decide) rfl ?_
        obtain ⟨x5, ex5⟩ : ∃ z : Int32, z = v3_4 + (1 : Int32) := ⟨_, rfl⟩
        replace h := h x5 ex5
        refine v_iinc (v := x5) (lv' := [(3, .int x5), (2, .int x4), (0, .ref (a 0)), (1, .int v1_4)]) C 3 dX6_likeSet_32 rfl (by rw [ex5]; rfl) (by decide) rfl ?_
        refine v_goto C dX6_likeSet_35 (tgt := 4) (by decide) ?_
        refine v_sub [2, 3, 1, 0] rfl ?_
        exact ih M2 v1_4 x4 x5  h
      · replace h := h.2 c
        refine v_iconst C dX6_likeSet_23 (v := (1 : Int32)) (by decide) ?_
        refine v_goto C dX6_likeSet_24 (tgt := 28) (by decide) ?_
        refine v_iload_n C 3 dX6_likeSet_28 rfl rfl ?_
        refine v_ishl C dX6_likeSet_29 ?_
        refine v_ior C dX6_likeSet_30 ?_
        refine v_nmi (fun x6 ex6 => ?_)
        replace h := h x6 ex6
        refine v_istore_n (lv' := [(2, .int x6), (0, .ref (a 0)), (1, .int v1_4), (3, .int v3_4)]) C dX6_likeSet_31 rfl (by decide) rfl ?_
        obtain ⟨x7, ex7⟩ : ∃ z : Int32, z = v3_4 + (1 : Int32) := ⟨_, rfl⟩
        replace h := h x7 ex7
        refine v_iinc (v := x7) (lv' := [(3, .int x7), (2, .int x6), (0, .ref (a 0)), (1, .int v1_4)]) C 3 dX6_likeSet_32 rfl (by rw [ex7]; rfl) (by decide) rfl ?_
        refine v_goto C dX6_likeSet_35 (tgt := 4) (by decide) ?_
        refine v_sub [2, 3, 1, 0] rfl ?_
        exact ih M2 v1_4 x6 x7  h
def w6_likeSet (M : S0) (p1 : Int32) (Q : Int32 → S0 → Prop) : Prop :=
    ∃ n1, w6_likeSet_b4   Q n1 M p1 (0 : Int32) (0 : Int32)
set_option maxHeartbeats 4000000 in
set_option maxRecDepth 20000 in
theorem c6_likeSet {B : BX} {a : Nat → Nat} {M : S0} {p1 : Int32} {Q : Int32 → S0 → Prop} (h : w6_likeSet  M p1 Q) : KI B (wl 12 a (shM B.2.1 a)) yX6_likeSet cX6_likeSet 4 (some .int) 71 1635 [.ref (a 0), .int p1] M Q := by
  rw [w6_likeSet] at h
  refine KI_of (by decide +kernel) (Nat.le_of_ble_eq_true rfl) (fun E C hR => ?_)
  change V B E 4 (wl 12 a (shM B.2.1 a) M) 0 [(0, .ref (a 0)), (1, .int p1)] []
  change Ok B E cX6_likeSet 4 RX6 71 1635 at C
  refine v_iconst C dX6_likeSet_0 (v := (0 : Int32)) (by decide) ?_
  refine v_istore_n (lv' := [(2, .int (0 : Int32)), (0, .ref (a 0)), (1, .int p1)]) C dX6_likeSet_1 rfl (by decide) rfl ?_
  refine v_iconst C dX6_likeSet_2 (v := (0 : Int32)) (by decide) ?_
  refine v_istore_n (lv' := [(3, .int (0 : Int32)), (2, .int (0 : Int32)), (0, .ref (a 0)), (1, .int p1)]) C dX6_likeSet_3 rfl (by decide) rfl ?_
  obtain ⟨n1, h⟩ := h
  refine v_sub [2, 3, 1, 0] rfl ?_
  exact t6_likeSet_b4   C hR  n1 M p1 (0 : Int32) (0 : Int32)  h
def w6_tells_b202 (Q : Int32 → S0 → Prop) : Nat → S0 → Int32 → Int32 → Int32 → Int32 → Int32 → Int32 → Int32 → Int32 → Int32 → Prop
  | 0, _, _, _, _, _, _, _, _, _, _ => False
  | n + 1, M, v1_202, v2_202, v3_202, v4_202, v5_202, v7_202, v8_202, v9_202, v10_202 =>
    ((v10_202 < 0) → (w6_lays M v4_202 v2_202 v5_202 (fun M30 => ((v3_202 = (3 : Int32)) → (Q v8_202 M30)) ∧ ((¬ v3_202 = (3 : Int32)) → (((¬ v3_202 = (5 : Int32)) → (((v3_202 = (4 : Int32)) → (Q v9_202 M30)) ∧ ((¬ v3_202 = (4 : Int32)) → (((¬ v3_202 = (6 : Int32)) → (Q v7_202 M30)) ∧ ((v3_202 = (6 : Int32)) → (Q v9_202 M30)))))) ∧ ((v3_202 = (5 : Int32)) → (Q v8_202 M30))))))) ∧ ((¬ v10_202 < 0) → (w6_lays M v4_202 v2_202 v10_202 (fun M31 => w6_firstOther M31 v1_202 v2_202 (fun r33 M32 => ((¬ r33 = (-1 : Int32)) → (∀ x34 : Int32, x34 = v10_202 + (-1 : Int32) → (w6_tells_b202   Q n M32 v1_202 v2_202 v3_202 v4_202 v5_202 v7_202 v8_202 v9_202 x34))) ∧ ((r33 = (-1 : Int32)) → ((((10 : Int32) ≤ v10_202) → (∀ x35 : Int32, x35 = (v7_202 ||| (0 : Int32)) → (∀ x36 : Int32, x36 = v8_202 + (1 : Int32) → (∀ x37 : Int32, x37 = v10_202 + (-1 : Int32) → (w6_tells_b202   Q n M32 v1_202 v2_202 v3_202 v4_202 v5_202 x35 x36 v10_202 x37))))) ∧ ((¬ (10 : Int32) ≤ v10_202) → (∀ x38 : Int32, x38 = (v7_202 ||| ((1 : Int32) <<< (v10_202 &&& 31))) → (∀ x39 : Int32, x39 = v8_202 + (1 : Int32) → (∀ x40 : Int32, x40 = v10_202 + (-1 : Int32) → (w6_tells_b202   Q n M32 v1_202 v2_202 v3_202 v4_202 v5_202 x38 x39 v10_202 x40)))))))))))
set_option maxHeartbeats 4000000 in
set_option maxRecDepth 20000 in
theorem t6_tells_b202 {B : BX} {E : EX} {a : Nat → Nat} {Q : Int32 → S0 → Prop} (C : Ok B E cX6_tells 11 RX6 72 1658) (hR : RetI B E cX6_tells 11 (wl 12 a (shM B.2.1 a)) Q) : ∀ (n : Nat) (M : S0) (v1_202 : Int32) (v2_202 : Int32) (v3_202 : Int32) (v4_202 : Int32) (v5_202 : Int32) (v7_202 : Int32) (v8_202 : Int32) (v9_202 : Int32) (v10_202 : Int32), w6_tells_b202   Q n M v1_202 v2_202 v3_202 v4_202 v5_202 v7_202 v8_202 v9_202 v10_202 → V B E 11 (wl 12 a (shM B.2.1 a) M) 202 [(0, .ref (a 0)), (1, .int v1_202), (2, .int v2_202), (3, .int v3_202), (4, .int v4_202), (5, .int v5_202), (7, .int v7_202), (8, .int v8_202), (9, .int v9_202), (10, .int v10_202)] [] := by
  intro n
  induction n with
  | zero =>
    intro M v1_202 v2_202 v3_202 v4_202 v5_202 v7_202 v8_202 v9_202 v10_202  h
    exact h.elim
  | succ n ih =>
    intro M v1_202 v2_202 v3_202 v4_202 v5_202 v7_202 v8_202 v9_202 v10_202  h
    rw [w6_tells_b202] at h
    refine v_iload C 9 dX6_tells_202 rfl ?_
    refine v_if_lt C dX6_tells_204 (tgt := 259) (by decide) (fun c => ?_) (fun c => ?_)
    · replace h := h.1 c
      refine v_aload_n C 0 dX6_tells_259 rfl rfl ?_
      refine v_iload C 4 dX6_tells_260 rfl ?_
      refine v_iload_n C 2 dX6_tells_262 rfl rfl ?_
      refine v_iload C 5 dX6_tells_263 rfl ?_
      refine v_callVv (k := 0) (As := [.int v4_202, .int v2_202, .int v5_202]) (rest := []) C (c6_lays  h) eX6_96 (by omega) (by omega) (by decide) rfl rfl rfl rfl (Nat.le_of_ble_eq_true rfl) dX6_tells_265 (fun M30 h => ?_)
      refine v_iload_n C 3 dX6_tells_268 rfl rfl ?_
      refine v_iconst C dX6_tells_269 (v := (3 : Int32)) (by decide) ?_
      refine v_icmp_eq C dX6_tells_270 (tgt := 278) (by decide) (fun c => ?_) (fun c => ?_)
      · replace h := h.1 c
        refine v_iload C 7 dX6_tells_278 rfl ?_
        refine v_goto C dX6_tells_280 (tgt := 301) (by decide) ?_
        exact hR _ _ _ _ h dX6_tells_301
      · replace h := h.2 c
        refine v_iload_n C 3 dX6_tells_273 rfl rfl ?_
        refine v_iconst C dX6_tells_274 (v := (5 : Int32)) (by decide) ?_
        refine v_icmp_ne C dX6_tells_275 (tgt := 283) (by decide) (fun c => ?_) (fun c => ?_)
        · replace h := h.1 c
          refine v_iload_n C 3 dX6_tells_283 rfl rfl ?_
          refine v_iconst C dX6_tells_284 (v := (4 : Int32)) (by decide) ?_
          refine v_icmp_eq C dX6_tells_285 (tgt := 294) (by decide) (fun c => ?_) (fun c => ?_)
          · replace h := h.1 c
            refine v_iload C 8 dX6_tells_294 rfl ?_
            refine v_goto C dX6_tells_296 (tgt := 301) (by decide) ?_
            exact hR _ _ _ _ h dX6_tells_301
          · replace h := h.2 c
            refine v_iload_n C 3 dX6_tells_288 rfl rfl ?_
            refine v_bipush C dX6_tells_289 (v := (6 : Int32)) (by decide) ?_
            refine v_icmp_ne C dX6_tells_291 (tgt := 299) (by decide) (fun c => ?_) (fun c => ?_)
            · replace h := h.1 c
              refine v_iload C 6 dX6_tells_299 rfl ?_
              exact hR _ _ _ _ h dX6_tells_301
            · replace h := h.2 c
              refine v_iload C 8 dX6_tells_294 rfl ?_
              refine v_goto C dX6_tells_296 (tgt := 301) (by decide) ?_
              exact hR _ _ _ _ h dX6_tells_301
        · replace h := h.2 c
          refine v_iload C 7 dX6_tells_278 rfl ?_
          refine v_goto C dX6_tells_280 (tgt := 301) (by decide) ?_
          exact hR _ _ _ _ h dX6_tells_301
    · replace h := h.2 c
      refine v_aload_n C 0 dX6_tells_207 rfl rfl ?_
      refine v_iload C 4 dX6_tells_208 rfl ?_
      refine v_iload_n C 2 dX6_tells_210 rfl rfl ?_
      refine v_iload C 9 dX6_tells_211 rfl ?_
      refine v_callVv (k := 0) (As := [.int v4_202, .int v2_202, .int v10_202]) (rest := []) C (c6_lays  h) eX6_96 (by omega) (by omega) (by decide) rfl rfl rfl rfl (Nat.le_of_ble_eq_true rfl) dX6_tells_213 (fun M31 h => ?_)
      refine v_aload_n C 0 dX6_tells_216 rfl rfl ?_
      refine v_iload_n C 1 dX6_tells_217 rfl rfl ?_
      refine v_iload_n C 2 dX6_tells_218 rfl rfl ?_
      refine v_callVi (k := 0) (As := [.int v1_202, .int v2_202]) (rest := []) C (c6_firstOther  h) eX6_328 (by omega) (by omega) (by decide) rfl rfl rfl rfl (Nat.le_of_ble_eq_true rfl) dX6_tells_219 (fun r33 M32 h => ?_)
      refine v_iconst C dX6_tells_222 (v := (-1 : Int32)) (by decide) ?_
      refine v_icmp_ne C dX6_tells_223 (tgt := 253) (by decide) (fun c => ?_) (fun c => ?_)
      · replace h := h.1 c
        obtain ⟨x34, ex34⟩ : ∃ z : Int32, z = v10_202 + (-1 : Int32) := ⟨_, rfl⟩
        replace h := h x34 ex34
        refine v_iinc (v := x34) (lv' := [(10, .int x34), (0, .ref (a 0)), (1, .int v1_202), (2, .int v2_202), (3, .int v3_202), (4, .int v4_202), (5, .int v5_202), (7, .int v7_202), (8, .int v8_202), (9, .int v9_202)]) C 9 dX6_tells_253 rfl (by rw [ex34]; rfl) (by decide) rfl ?_
        refine v_goto C dX6_tells_256 (tgt := 202) (by decide) ?_
        refine v_sub [1, 2, 3, 4, 5, 6, 7, 8, 9, 0] rfl ?_
        exact ih M32 v1_202 v2_202 v3_202 v4_202 v5_202 v7_202 v8_202 v9_202 x34  h
      · replace h := h.2 c
        refine v_iload C 6 dX6_tells_226 rfl ?_
        refine v_iload C 9 dX6_tells_228 rfl ?_
        refine v_bipush C dX6_tells_230 (v := (10 : Int32)) (by decide) ?_
        refine v_icmp_ge C dX6_tells_232 (tgt := 242) (by decide) (fun c => ?_) (fun c => ?_)
        · replace h := h.1 c
          refine v_iconst C dX6_tells_242 (v := (0 : Int32)) (by decide) ?_
          refine v_ior C dX6_tells_243 ?_
          refine v_nmi (fun x35 ex35 => ?_)
          replace h := h x35 ex35
          refine v_istore (lv' := [(7, .int x35), (0, .ref (a 0)), (1, .int v1_202), (2, .int v2_202), (3, .int v3_202), (4, .int v4_202), (5, .int v5_202), (8, .int v8_202), (9, .int v9_202), (10, .int v10_202)]) C dX6_tells_244 (by decide) rfl ?_
          obtain ⟨x36, ex36⟩ : ∃ z : Int32, z = v8_202 + (1 : Int32) := ⟨_, rfl⟩
          replace h := h x36 ex36
          refine v_iinc (v := x36) (lv' := [(8, .int x36), (7, .int x35), (0, .ref (a 0)), (1, .int v1_202), (2, .int v2_202), (3, .int v3_202), (4, .int v4_202), (5, .int v5_202), (9, .int v9_202), (10, .int v10_202)]) C 7 dX6_tells_246 rfl (by rw [ex36]; rfl) (by decide) rfl ?_
          refine v_iload C 9 dX6_tells_249 rfl ?_
          refine v_istore (lv' := [(9, .int v10_202), (8, .int x36), (7, .int x35), (0, .ref (a 0)), (1, .int v1_202), (2, .int v2_202), (3, .int v3_202), (4, .int v4_202), (5, .int v5_202), (10, .int v10_202)]) C dX6_tells_251 (by decide) rfl ?_
          obtain ⟨x37, ex37⟩ : ∃ z : Int32, z = v10_202 + (-1 : Int32) := ⟨_, rfl⟩
          replace h := h x37 ex37
          refine v_iinc (v := x37) (lv' := [(10, .int x37), (9, .int v10_202), (8, .int x36), (7, .int x35), (0, .ref (a 0)), (1, .int v1_202), (2, .int v2_202), (3, .int v3_202), (4, .int v4_202), (5, .int v5_202)]) C 9 dX6_tells_253 rfl (by rw [ex37]; rfl) (by decide) rfl ?_
          refine v_goto C dX6_tells_256 (tgt := 202) (by decide) ?_
          refine v_sub [4, 5, 6, 7, 8, 9, 3, 2, 1, 0] rfl ?_
          exact ih M32 v1_202 v2_202 v3_202 v4_202 v5_202 x35 x36 v10_202 x37  h
        · replace h := h.2 c
          refine v_iconst C dX6_tells_235 (v := (1 : Int32)) (by decide) ?_
          refine v_iload C 9 dX6_tells_236 rfl ?_
          refine v_ishl C dX6_tells_238 ?_
          refine v_goto C dX6_tells_239 (tgt := 243) (by decide) ?_
          refine v_ior C dX6_tells_243 ?_
          refine v_nmi (fun x38 ex38 => ?_)
          replace h := h x38 ex38
          refine v_istore (lv' := [(7, .int x38), (0, .ref (a 0)), (1, .int v1_202), (2, .int v2_202), (3, .int v3_202), (4, .int v4_202), (5, .int v5_202), (8, .int v8_202), (9, .int v9_202), (10, .int v10_202)]) C dX6_tells_244 (by decide) rfl ?_
          obtain ⟨x39, ex39⟩ : ∃ z : Int32, z = v8_202 + (1 : Int32) := ⟨_, rfl⟩
          replace h := h x39 ex39
          refine v_iinc (v := x39) (lv' := [(8, .int x39), (7, .int x38), (0, .ref (a 0)), (1, .int v1_202), (2, .int v2_202), (3, .int v3_202), (4, .int v4_202), (5, .int v5_202), (9, .int v9_202), (10, .int v10_202)]) C 7 dX6_tells_246 rfl (by rw [ex39]; rfl) (by decide) rfl ?_
          refine v_iload C 9 dX6_tells_249 rfl ?_
          refine v_istore (lv' := [(9, .int v10_202), (8, .int x39), (7, .int x38), (0, .ref (a 0)), (1, .int v1_202), (2, .int v2_202), (3, .int v3_202), (4, .int v4_202), (5, .int v5_202), (10, .int v10_202)]) C dX6_tells_251 (by decide) rfl ?_
          obtain ⟨x40, ex40⟩ : ∃ z : Int32, z = v10_202 + (-1 : Int32) := ⟨_, rfl⟩
          replace h := h x40 ex40
          refine v_iinc (v := x40) (lv' := [(10, .int x40), (9, .int v10_202), (8, .int x39), (7, .int x38), (0, .ref (a 0)), (1, .int v1_202), (2, .int v2_202), (3, .int v3_202), (4, .int v4_202), (5, .int v5_202)]) C 9 dX6_tells_253 rfl (by rw [ex40]; rfl) (by decide) rfl ?_
          refine v_goto C dX6_tells_256 (tgt := 202) (by decide) ?_
          refine v_sub [4, 5, 6, 7, 8, 9, 3, 2, 1, 0] rfl ?_
          exact ih M32 v1_202 v2_202 v3_202 v4_202 v5_202 x38 x39 v10_202 x40  h
def w6_tells_b125 (Q : Int32 → S0 → Prop) (M : S0) (v1_125 : Int32) (v2_125 : Int32) (v3_125 : Int32) (u0_125 : Int32) : Prop :=
    ((¬ u0_125 = (5 : Int32)) → (w6_told M v2_125 u0_125 (fun r18 M17 => ((¬ u0_125 = (5 : Int32)) → (((¬ u0_125 = (4 : Int32)) → (((¬ u0_125 = (2 : Int32)) → (∃ n19, w6_tells_b202   Q n19 M17 v1_125 v2_125 v3_125 u0_125 r18 (0 : Int32) (0 : Int32) (-1 : Int32) (99 : Int32))) ∧ ((u0_125 = (2 : Int32)) → (∃ n20, w6_tells_b202   Q n20 M17 v1_125 v2_125 v3_125 u0_125 r18 (0 : Int32) (0 : Int32) (-1 : Int32) (9 : Int32))))) ∧ ((u0_125 = (4 : Int32)) → (∃ n21, w6_tells_b202   Q n21 M17 v1_125 v2_125 v3_125 u0_125 r18 (0 : Int32) (0 : Int32) (-1 : Int32) (5 : Int32))))) ∧ ((u0_125 = (5 : Int32)) → (∀ x22 : Int32, x22 = ((M17 0 3) - (1 : Int32)) → (∃ n23, w6_tells_b202   Q n23 M17 v1_125 v2_125 v3_125 u0_125 r18 (0 : Int32) (0 : Int32) (-1 : Int32) x22)))))) ∧ ((u0_125 = (5 : Int32)) → (∀ x24 : Int32, x24 = (M 0 4) → (((¬ u0_125 = (5 : Int32)) → (((¬ u0_125 = (4 : Int32)) → (((¬ u0_125 = (2 : Int32)) → (∃ n25, w6_tells_b202   Q n25 M v1_125 v2_125 v3_125 u0_125 x24 (0 : Int32) (0 : Int32) (-1 : Int32) (99 : Int32))) ∧ ((u0_125 = (2 : Int32)) → (∃ n26, w6_tells_b202   Q n26 M v1_125 v2_125 v3_125 u0_125 x24 (0 : Int32) (0 : Int32) (-1 : Int32) (9 : Int32))))) ∧ ((u0_125 = (4 : Int32)) → (∃ n27, w6_tells_b202   Q n27 M v1_125 v2_125 v3_125 u0_125 x24 (0 : Int32) (0 : Int32) (-1 : Int32) (5 : Int32))))) ∧ ((u0_125 = (5 : Int32)) → (∀ x28 : Int32, x28 = ((M 0 3) - (1 : Int32)) → (∃ n29, w6_tells_b202   Q n29 M v1_125 v2_125 v3_125 u0_125 x24 (0 : Int32) (0 : Int32) (-1 : Int32) x28))))))
set_option maxHeartbeats 4000000 in
set_option maxRecDepth 20000 in
theorem t6_tells_b125 {B : BX} {E : EX} {a : Nat → Nat} {Q : Int32 → S0 → Prop} (C : Ok B E cX6_tells 11 RX6 72 1658) (hR : RetI B E cX6_tells 11 (wl 12 a (shM B.2.1 a)) Q) : ∀ (M : S0) (v1_125 : Int32) (v2_125 : Int32) (v3_125 : Int32) (u0_125 : Int32), w6_tells_b125   Q M v1_125 v2_125 v3_125 u0_125 → V B E 11 (wl 12 a (shM B.2.1 a) M) 125 [(0, .ref (a 0)), (1, .int v1_125), (2, .int v2_125), (3, .int v3_125)] [.int u0_125] := by
  intro M v1_125 v2_125 v3_125 u0_125  h
  rw [w6_tells_b125] at h
  refine v_istore (lv' := [(4, .int u0_125), (0, .ref (a 0)), (1, .int v1_125), (2, .int v2_125), (3, .int v3_125)]) C dX6_tells_125 (by decide) rfl ?_
  refine v_iload C 0 dX6_tells_127 rfl ?_
  refine v_iconst C dX6_tells_129 (v := (5 : Int32)) (by decide) ?_
  refine v_icmp_ne C dX6_tells_130 (tgt := 140) (by decide) (fun c => ?_) (fun c => ?_)
  · replace h := h.1 c
    refine v_aload_n C 1 dX6_tells_140 rfl rfl ?_
    refine v_iload_n C 3 dX6_tells_141 rfl rfl ?_
    refine v_iload C 0 dX6_tells_142 rfl ?_
    refine v_callVi (k := 0) (As := [.int v2_125, .int u0_125]) (rest := []) C (c6_told  h) eX6_92 (by omega) (by omega) (by decide) rfl rfl rfl rfl (Nat.le_of_ble_eq_true rfl) dX6_tells_144 (fun r18 M17 h => ?_)
    refine v_istore (lv' := [(5, .int r18), (4, .int u0_125), (0, .ref (a 0)), (1, .int v1_125), (2, .int v2_125), (3, .int v3_125)]) C dX6_tells_147 (by decide) rfl ?_
    refine v_iload C 1 dX6_tells_149 rfl ?_
    refine v_iconst C dX6_tells_151 (v := (5 : Int32)) (by decide) ?_
    refine v_icmp_ne C dX6_tells_152 (tgt := 164) (by decide) (fun c => ?_) (fun c => ?_)
    · replace h := h.1 c
      refine v_iload C 1 dX6_tells_164 rfl ?_
      refine v_iconst C dX6_tells_166 (v := (4 : Int32)) (by decide) ?_
      refine v_icmp_ne C dX6_tells_167 (tgt := 174) (by decide) (fun c => ?_) (fun c => ?_)
      · replace h := h.1 c
        refine v_iload C 1 dX6_tells_174 rfl ?_
        refine v_iconst C dX6_tells_176 (v := (2 : Int32)) (by decide) ?_
        refine v_icmp_ne C dX6_tells_177 (tgt := 185) (by decide) (fun c => ?_) (fun c => ?_)
        · replace h := h.1 c
          refine v_bipush C dX6_tells_185 (v := (99 : Int32)) (by decide) ?_
          refine v_istore (lv' := [(6, .int (99 : Int32)), (5, .int r18), (4, .int u0_125), (0, .ref (a 0)), (1, .int v1_125), (2, .int v2_125), (3, .int v3_125)]) C dX6_tells_187 (by decide) rfl ?_
          refine v_iconst C dX6_tells_189 (v := (0 : Int32)) (by decide) ?_
          refine v_istore (lv' := [(7, .int (0 : Int32)), (6, .int (99 : Int32)), (5, .int r18), (4, .int u0_125), (0, .ref (a 0)), (1, .int v1_125), (2, .int v2_125), (3, .int v3_125)]) C dX6_tells_190 (by decide) rfl ?_
          refine v_iconst C dX6_tells_192 (v := (0 : Int32)) (by decide) ?_
          refine v_istore (lv' := [(8, .int (0 : Int32)), (7, .int (0 : Int32)), (6, .int (99 : Int32)), (5, .int r18), (4, .int u0_125), (0, .ref (a 0)), (1, .int v1_125), (2, .int v2_125), (3, .int v3_125)]) C dX6_tells_193 (by decide) rfl ?_
          refine v_iconst C dX6_tells_195 (v := (-1 : Int32)) (by decide) ?_
          refine v_istore (lv' := [(9, .int (-1 : Int32)), (8, .int (0 : Int32)), (7, .int (0 : Int32)), (6, .int (99 : Int32)), (5, .int r18), (4, .int u0_125), (0, .ref (a 0)), (1, .int v1_125), (2, .int v2_125), (3, .int v3_125)]) C dX6_tells_196 (by decide) rfl ?_
          refine v_iload C 3 dX6_tells_198 rfl ?_
          refine v_istore (lv' := [(10, .int (99 : Int32)), (9, .int (-1 : Int32)), (8, .int (0 : Int32)), (7, .int (0 : Int32)), (6, .int (99 : Int32)), (5, .int r18), (4, .int u0_125), (0, .ref (a 0)), (1, .int v1_125), (2, .int v2_125), (3, .int v3_125)]) C dX6_tells_200 (by decide) rfl ?_
          obtain ⟨n19, h⟩ := h
          refine v_sub [7, 8, 9, 10, 6, 5, 3, 2, 1, 0] rfl ?_
          exact t6_tells_b202   C hR  n19 M17 v1_125 v2_125 v3_125 u0_125 r18 (0 : Int32) (0 : Int32) (-1 : Int32) (99 : Int32)  h
        · replace h := h.2 c
          refine v_bipush C dX6_tells_180 (v := (9 : Int32)) (by decide) ?_
          refine v_goto C dX6_tells_182 (tgt := 187) (by decide) ?_
          refine v_istore (lv' := [(6, .int (9 : Int32)), (5, .int r18), (4, .int u0_125), (0, .ref (a 0)), (1, .int v1_125), (2, .int v2_125), (3, .int v3_125)]) C dX6_tells_187 (by decide) rfl ?_
          refine v_iconst C dX6_tells_189 (v := (0 : Int32)) (by decide) ?_
          refine v_istore (lv' := [(7, .int (0 : Int32)), (6, .int (9 : Int32)), (5, .int r18), (4, .int u0_125), (0, .ref (a 0)), (1, .int v1_125), (2, .int v2_125), (3, .int v3_125)]) C dX6_tells_190 (by decide) rfl ?_
          refine v_iconst C dX6_tells_192 (v := (0 : Int32)) (by decide) ?_
          refine v_istore (lv' := [(8, .int (0 : Int32)), (7, .int (0 : Int32)), (6, .int (9 : Int32)), (5, .int r18), (4, .int u0_125), (0, .ref (a 0)), (1, .int v1_125), (2, .int v2_125), (3, .int v3_125)]) C dX6_tells_193 (by decide) rfl ?_
          refine v_iconst C dX6_tells_195 (v := (-1 : Int32)) (by decide) ?_
          refine v_istore (lv' := [(9, .int (-1 : Int32)), (8, .int (0 : Int32)), (7, .int (0 : Int32)), (6, .int (9 : Int32)), (5, .int r18), (4, .int u0_125), (0, .ref (a 0)), (1, .int v1_125), (2, .int v2_125), (3, .int v3_125)]) C dX6_tells_196 (by decide) rfl ?_
          refine v_iload C 3 dX6_tells_198 rfl ?_
          refine v_istore (lv' := [(10, .int (9 : Int32)), (9, .int (-1 : Int32)), (8, .int (0 : Int32)), (7, .int (0 : Int32)), (6, .int (9 : Int32)), (5, .int r18), (4, .int u0_125), (0, .ref (a 0)), (1, .int v1_125), (2, .int v2_125), (3, .int v3_125)]) C dX6_tells_200 (by decide) rfl ?_
          obtain ⟨n20, h⟩ := h
          refine v_sub [7, 8, 9, 10, 6, 5, 3, 2, 1, 0] rfl ?_
          exact t6_tells_b202   C hR  n20 M17 v1_125 v2_125 v3_125 u0_125 r18 (0 : Int32) (0 : Int32) (-1 : Int32) (9 : Int32)  h
      · replace h := h.2 c
        refine v_iconst C dX6_tells_170 (v := (5 : Int32)) (by decide) ?_
        refine v_goto C dX6_tells_171 (tgt := 187) (by decide) ?_
        refine v_istore (lv' := [(6, .int (5 : Int32)), (5, .int r18), (4, .int u0_125), (0, .ref (a 0)), (1, .int v1_125), (2, .int v2_125), (3, .int v3_125)]) C dX6_tells_187 (by decide) rfl ?_
        refine v_iconst C dX6_tells_189 (v := (0 : Int32)) (by decide) ?_
        refine v_istore (lv' := [(7, .int (0 : Int32)), (6, .int (5 : Int32)), (5, .int r18), (4, .int u0_125), (0, .ref (a 0)), (1, .int v1_125), (2, .int v2_125), (3, .int v3_125)]) C dX6_tells_190 (by decide) rfl ?_
        refine v_iconst C dX6_tells_192 (v := (0 : Int32)) (by decide) ?_
        refine v_istore (lv' := [(8, .int (0 : Int32)), (7, .int (0 : Int32)), (6, .int (5 : Int32)), (5, .int r18), (4, .int u0_125), (0, .ref (a 0)), (1, .int v1_125), (2, .int v2_125), (3, .int v3_125)]) C dX6_tells_193 (by decide) rfl ?_
        refine v_iconst C dX6_tells_195 (v := (-1 : Int32)) (by decide) ?_
        refine v_istore (lv' := [(9, .int (-1 : Int32)), (8, .int (0 : Int32)), (7, .int (0 : Int32)), (6, .int (5 : Int32)), (5, .int r18), (4, .int u0_125), (0, .ref (a 0)), (1, .int v1_125), (2, .int v2_125), (3, .int v3_125)]) C dX6_tells_196 (by decide) rfl ?_
        refine v_iload C 3 dX6_tells_198 rfl ?_
        refine v_istore (lv' := [(10, .int (5 : Int32)), (9, .int (-1 : Int32)), (8, .int (0 : Int32)), (7, .int (0 : Int32)), (6, .int (5 : Int32)), (5, .int r18), (4, .int u0_125), (0, .ref (a 0)), (1, .int v1_125), (2, .int v2_125), (3, .int v3_125)]) C dX6_tells_200 (by decide) rfl ?_
        obtain ⟨n21, h⟩ := h
        refine v_sub [7, 8, 9, 10, 6, 5, 3, 2, 1, 0] rfl ?_
        exact t6_tells_b202   C hR  n21 M17 v1_125 v2_125 v3_125 u0_125 r18 (0 : Int32) (0 : Int32) (-1 : Int32) (5 : Int32)  h
    · replace h := h.2 c
      refine v_aload_n C 2 dX6_tells_155 rfl rfl ?_
      refine fX6_6_g_textCount C dX6_tells_156 ?_
      refine v_iconst C dX6_tells_159 (v := (1 : Int32)) (by decide) ?_
      refine v_isub C dX6_tells_160 ?_
      refine v_goto C dX6_tells_161 (tgt := 187) (by decide) ?_
      refine v_nmi (fun x22 ex22 => ?_)
      replace h := h x22 ex22
      refine v_istore (lv' := [(6, .int x22), (5, .int r18), (4, .int u0_125), (0, .ref (a 0)), (1, .int v1_125), (2, .int v2_125), (3, .int v3_125)]) C dX6_tells_187 (by decide) rfl ?_
      refine v_iconst C dX6_tells_189 (v := (0 : Int32)) (by decide) ?_
      refine v_istore (lv' := [(7, .int (0 : Int32)), (6, .int x22), (5, .int r18), (4, .int u0_125), (0, .ref (a 0)), (1, .int v1_125), (2, .int v2_125), (3, .int v3_125)]) C dX6_tells_190 (by decide) rfl ?_
      refine v_iconst C dX6_tells_192 (v := (0 : Int32)) (by decide) ?_
      refine v_istore (lv' := [(8, .int (0 : Int32)), (7, .int (0 : Int32)), (6, .int x22), (5, .int r18), (4, .int u0_125), (0, .ref (a 0)), (1, .int v1_125), (2, .int v2_125), (3, .int v3_125)]) C dX6_tells_193 (by decide) rfl ?_
      refine v_iconst C dX6_tells_195 (v := (-1 : Int32)) (by decide) ?_
      refine v_istore (lv' := [(9, .int (-1 : Int32)), (8, .int (0 : Int32)), (7, .int (0 : Int32)), (6, .int x22), (5, .int r18), (4, .int u0_125), (0, .ref (a 0)), (1, .int v1_125), (2, .int v2_125), (3, .int v3_125)]) C dX6_tells_196 (by decide) rfl ?_
      refine v_iload C 3 dX6_tells_198 rfl ?_
      refine v_istore (lv' := [(10, .int x22), (9, .int (-1 : Int32)), (8, .int (0 : Int32)), (7, .int (0 : Int32)), (6, .int x22), (5, .int r18), (4, .int u0_125), (0, .ref (a 0)), (1, .int v1_125), (2, .int v2_125), (3, .int v3_125)]) C dX6_tells_200 (by decide) rfl ?_
      obtain ⟨n23, h⟩ := h
      refine v_sub [7, 8, 9, 10, 6, 5, 3, 2, 1, 0] rfl ?_
      exact t6_tells_b202   C hR  n23 M17 v1_125 v2_125 v3_125 u0_125 r18 (0 : Int32) (0 : Int32) (-1 : Int32) x22  h
  · replace h := h.2 c
    refine v_aload_n C 1 dX6_tells_133 rfl rfl ?_
    refine fX6_6_g_rule C dX6_tells_134 ?_
    refine v_goto C dX6_tells_137 (tgt := 147) (by decide) ?_
    refine v_nmi (fun x24 ex24 => ?_)
    replace h := h x24 ex24
    refine v_istore (lv' := [(5, .int x24), (4, .int u0_125), (0, .ref (a 0)), (1, .int v1_125), (2, .int v2_125), (3, .int v3_125)]) C dX6_tells_147 (by decide) rfl ?_
    refine v_iload C 1 dX6_tells_149 rfl ?_
    refine v_iconst C dX6_tells_151 (v := (5 : Int32)) (by decide) ?_
    refine v_icmp_ne C dX6_tells_152 (tgt := 164) (by decide) (fun c => ?_) (fun c => ?_)
    · replace h := h.1 c
      refine v_iload C 1 dX6_tells_164 rfl ?_
      refine v_iconst C dX6_tells_166 (v := (4 : Int32)) (by decide) ?_
      refine v_icmp_ne C dX6_tells_167 (tgt := 174) (by decide) (fun c => ?_) (fun c => ?_)
      · replace h := h.1 c
        refine v_iload C 1 dX6_tells_174 rfl ?_
        refine v_iconst C dX6_tells_176 (v := (2 : Int32)) (by decide) ?_
        refine v_icmp_ne C dX6_tells_177 (tgt := 185) (by decide) (fun c => ?_) (fun c => ?_)
        · replace h := h.1 c
          refine v_bipush C dX6_tells_185 (v := (99 : Int32)) (by decide) ?_
          refine v_istore (lv' := [(6, .int (99 : Int32)), (5, .int x24), (4, .int u0_125), (0, .ref (a 0)), (1, .int v1_125), (2, .int v2_125), (3, .int v3_125)]) C dX6_tells_187 (by decide) rfl ?_
          refine v_iconst C dX6_tells_189 (v := (0 : Int32)) (by decide) ?_
          refine v_istore (lv' := [(7, .int (0 : Int32)), (6, .int (99 : Int32)), (5, .int x24), (4, .int u0_125), (0, .ref (a 0)), (1, .int v1_125), (2, .int v2_125), (3, .int v3_125)]) C dX6_tells_190 (by decide) rfl ?_
          refine v_iconst C dX6_tells_192 (v := (0 : Int32)) (by decide) ?_
          refine v_istore (lv' := [(8, .int (0 : Int32)), (7, .int (0 : Int32)), (6, .int (99 : Int32)), (5, .int x24), (4, .int u0_125), (0, .ref (a 0)), (1, .int v1_125), (2, .int v2_125), (3, .int v3_125)]) C dX6_tells_193 (by decide) rfl ?_
          refine v_iconst C dX6_tells_195 (v := (-1 : Int32)) (by decide) ?_
          refine v_istore (lv' := [(9, .int (-1 : Int32)), (8, .int (0 : Int32)), (7, .int (0 : Int32)), (6, .int (99 : Int32)), (5, .int x24), (4, .int u0_125), (0, .ref (a 0)), (1, .int v1_125), (2, .int v2_125), (3, .int v3_125)]) C dX6_tells_196 (by decide) rfl ?_
          refine v_iload C 3 dX6_tells_198 rfl ?_
          refine v_istore (lv' := [(10, .int (99 : Int32)), (9, .int (-1 : Int32)), (8, .int (0 : Int32)), (7, .int (0 : Int32)), (6, .int (99 : Int32)), (5, .int x24), (4, .int u0_125), (0, .ref (a 0)), (1, .int v1_125), (2, .int v2_125), (3, .int v3_125)]) C dX6_tells_200 (by decide) rfl ?_
          obtain ⟨n25, h⟩ := h
          refine v_sub [7, 8, 9, 10, 6, 5, 3, 2, 1, 0] rfl ?_
          exact t6_tells_b202   C hR  n25 M v1_125 v2_125 v3_125 u0_125 x24 (0 : Int32) (0 : Int32) (-1 : Int32) (99 : Int32)  h
        · replace h := h.2 c
          refine v_bipush C dX6_tells_180 (v := (9 : Int32)) (by decide) ?_
          refine v_goto C dX6_tells_182 (tgt := 187) (by decide) ?_
          refine v_istore (lv' := [(6, .int (9 : Int32)), (5, .int x24), (4, .int u0_125), (0, .ref (a 0)), (1, .int v1_125), (2, .int v2_125), (3, .int v3_125)]) C dX6_tells_187 (by decide) rfl ?_
          refine v_iconst C dX6_tells_189 (v := (0 : Int32)) (by decide) ?_
          refine v_istore (lv' := [(7, .int (0 : Int32)), (6, .int (9 : Int32)), (5, .int x24), (4, .int u0_125), (0, .ref (a 0)), (1, .int v1_125), (2, .int v2_125), (3, .int v3_125)]) C dX6_tells_190 (by decide) rfl ?_
          refine v_iconst C dX6_tells_192 (v := (0 : Int32)) (by decide) ?_
          refine v_istore (lv' := [(8, .int (0 : Int32)), (7, .int (0 : Int32)), (6, .int (9 : Int32)), (5, .int x24), (4, .int u0_125), (0, .ref (a 0)), (1, .int v1_125), (2, .int v2_125), (3, .int v3_125)]) C dX6_tells_193 (by decide) rfl ?_
          refine v_iconst C dX6_tells_195 (v := (-1 : Int32)) (by decide) ?_
          refine v_istore (lv' := [(9, .int (-1 : Int32)), (8, .int (0 : Int32)), (7, .int (0 : Int32)), (6, .int (9 : Int32)), (5, .int x24), (4, .int u0_125), (0, .ref (a 0)), (1, .int v1_125), (2, .int v2_125), (3, .int v3_125)]) C dX6_tells_196 (by decide) rfl ?_
          refine v_iload C 3 dX6_tells_198 rfl ?_
          refine v_istore (lv' := [(10, .int (9 : Int32)), (9, .int (-1 : Int32)), (8, .int (0 : Int32)), (7, .int (0 : Int32)), (6, .int (9 : Int32)), (5, .int x24), (4, .int u0_125), (0, .ref (a 0)), (1, .int v1_125), (2, .int v2_125), (3, .int v3_125)]) C dX6_tells_200 (by decide) rfl ?_
          obtain ⟨n26, h⟩ := h
          refine v_sub [7, 8, 9, 10, 6, 5, 3, 2, 1, 0] rfl ?_
          exact t6_tells_b202   C hR  n26 M v1_125 v2_125 v3_125 u0_125 x24 (0 : Int32) (0 : Int32) (-1 : Int32) (9 : Int32)  h
      · replace h := h.2 c
        refine v_iconst C dX6_tells_170 (v := (5 : Int32)) (by decide) ?_
        refine v_goto C dX6_tells_171 (tgt := 187) (by decide) ?_
        refine v_istore (lv' := [(6, .int (5 : Int32)), (5, .int x24), (4, .int u0_125), (0, .ref (a 0)), (1, .int v1_125), (2, .int v2_125), (3, .int v3_125)]) C dX6_tells_187 (by decide) rfl ?_
        refine v_iconst C dX6_tells_189 (v := (0 : Int32)) (by decide) ?_
        refine v_istore (lv' := [(7, .int (0 : Int32)), (6, .int (5 : Int32)), (5, .int x24), (4, .int u0_125), (0, .ref (a 0)), (1, .int v1_125), (2, .int v2_125), (3, .int v3_125)]) C dX6_tells_190 (by decide) rfl ?_
        refine v_iconst C dX6_tells_192 (v := (0 : Int32)) (by decide) ?_
        refine v_istore (lv' := [(8, .int (0 : Int32)), (7, .int (0 : Int32)), (6, .int (5 : Int32)), (5, .int x24), (4, .int u0_125), (0, .ref (a 0)), (1, .int v1_125), (2, .int v2_125), (3, .int v3_125)]) C dX6_tells_193 (by decide) rfl ?_
        refine v_iconst C dX6_tells_195 (v := (-1 : Int32)) (by decide) ?_
        refine v_istore (lv' := [(9, .int (-1 : Int32)), (8, .int (0 : Int32)), (7, .int (0 : Int32)), (6, .int (5 : Int32)), (5, .int x24), (4, .int u0_125), (0, .ref (a 0)), (1, .int v1_125), (2, .int v2_125), (3, .int v3_125)]) C dX6_tells_196 (by decide) rfl ?_
        refine v_iload C 3 dX6_tells_198 rfl ?_
        refine v_istore (lv' := [(10, .int (5 : Int32)), (9, .int (-1 : Int32)), (8, .int (0 : Int32)), (7, .int (0 : Int32)), (6, .int (5 : Int32)), (5, .int x24), (4, .int u0_125), (0, .ref (a 0)), (1, .int v1_125), (2, .int v2_125), (3, .int v3_125)]) C dX6_tells_200 (by decide) rfl ?_
        obtain ⟨n27, h⟩ := h
        refine v_sub [7, 8, 9, 10, 6, 5, 3, 2, 1, 0] rfl ?_
        exact t6_tells_b202   C hR  n27 M v1_125 v2_125 v3_125 u0_125 x24 (0 : Int32) (0 : Int32) (-1 : Int32) (5 : Int32)  h
    · replace h := h.2 c
      refine v_aload_n C 2 dX6_tells_155 rfl rfl ?_
      refine fX6_6_g_textCount C dX6_tells_156 ?_
      refine v_iconst C dX6_tells_159 (v := (1 : Int32)) (by decide) ?_
      refine v_isub C dX6_tells_160 ?_
      refine v_goto C dX6_tells_161 (tgt := 187) (by decide) ?_
      refine v_nmi (fun x28 ex28 => ?_)
      replace h := h x28 ex28
      refine v_istore (lv' := [(6, .int x28), (5, .int x24), (4, .int u0_125), (0, .ref (a 0)), (1, .int v1_125), (2, .int v2_125), (3, .int v3_125)]) C dX6_tells_187 (by decide) rfl ?_
      refine v_iconst C dX6_tells_189 (v := (0 : Int32)) (by decide) ?_
      refine v_istore (lv' := [(7, .int (0 : Int32)), (6, .int x28), (5, .int x24), (4, .int u0_125), (0, .ref (a 0)), (1, .int v1_125), (2, .int v2_125), (3, .int v3_125)]) C dX6_tells_190 (by decide) rfl ?_
      refine v_iconst C dX6_tells_192 (v := (0 : Int32)) (by decide) ?_
      refine v_istore (lv' := [(8, .int (0 : Int32)), (7, .int (0 : Int32)), (6, .int x28), (5, .int x24), (4, .int u0_125), (0, .ref (a 0)), (1, .int v1_125), (2, .int v2_125), (3, .int v3_125)]) C dX6_tells_193 (by decide) rfl ?_
      refine v_iconst C dX6_tells_195 (v := (-1 : Int32)) (by decide) ?_
      refine v_istore (lv' := [(9, .int (-1 : Int32)), (8, .int (0 : Int32)), (7, .int (0 : Int32)), (6, .int x28), (5, .int x24), (4, .int u0_125), (0, .ref (a 0)), (1, .int v1_125), (2, .int v2_125), (3, .int v3_125)]) C dX6_tells_196 (by decide) rfl ?_
      refine v_iload C 3 dX6_tells_198 rfl ?_
      refine v_istore (lv' := [(10, .int x28), (9, .int (-1 : Int32)), (8, .int (0 : Int32)), (7, .int (0 : Int32)), (6, .int x28), (5, .int x24), (4, .int u0_125), (0, .ref (a 0)), (1, .int v1_125), (2, .int v2_125), (3, .int v3_125)]) C dX6_tells_200 (by decide) rfl ?_
      obtain ⟨n29, h⟩ := h
      refine v_sub [7, 8, 9, 10, 6, 5, 3, 2, 1, 0] rfl ?_
      exact t6_tells_b202   C hR  n29 M v1_125 v2_125 v3_125 u0_125 x24 (0 : Int32) (0 : Int32) (-1 : Int32) x28  h
def w6_tells (M : S0) (p1 : Int32) (p2 : Int32) (p3 : Int32) (Q : Int32 → S0 → Prop) : Prop :=
    w6_isSheet M p1 (fun r2 M1 => ((r2 = 0) → (Q (-2 : Int32) M1)) ∧ ((¬ r2 = 0) → (w6_isOne M1 p2 (fun r4 M3 => ((r4 = 0) → (Q (-2 : Int32) M3)) ∧ ((¬ r4 = 0) → (w6_in M3 (Int32.toInt64 p3) (0 : Int64) (8 : Int64) (fun r6 M5 => ((¬ r6 = 0) → ((vp_in p1 4) ∧ (((¬ (M5 8 (Int32.toNatClampNeg p1)) = 0) → ((vp_in p1 4) ∧ ((((M5 10 (Int32.toNatClampNeg p1)) = (M5 0 11)) → (((p3 = 0) → (((¬ p3 = 0) → (w6_likeSet M5 p1 (fun r10 M9 => Q r10 M9))) ∧ ((p3 = 0) → (w6_firstOther M5 p1 p2 (fun r12 M11 => Q r12 M11))))) ∧ ((¬ p3 = 0) → (((¬ p3 = (8 : Int32)) → (((¬ p3 = (1 : Int32)) → (((¬ p3 = (2 : Int32)) → ((((5 : Int32) ≤ p3) → ((((7 : Int32) ≤ p3) → (w6_tells_b125   Q M5 p1 p2 p3 (5 : Int32))) ∧ ((¬ (7 : Int32) ≤ p3) → (w6_tells_b125   Q M5 p1 p2 p3 (0 : Int32))))) ∧ ((¬ (5 : Int32) ≤ p3) → (w6_tells_b125   Q M5 p1 p2 p3 (3 : Int32))))) ∧ ((p3 = (2 : Int32)) → (w6_tells_b125   Q M5 p1 p2 p3 (2 : Int32))))) ∧ ((p3 = (1 : Int32)) → (w6_tells_b125   Q M5 p1 p2 p3 (4 : Int32))))) ∧ ((p3 = (8 : Int32)) → (((¬ p3 = 0) → (w6_likeSet M5 p1 (fun r14 M13 => Q r14 M13))) ∧ ((p3 = 0) → (w6_firstOther M5 p1 p2 (fun r16 M15 => Q r16 M15))))))))) ∧ ((¬ (M5 10 (Int32.toNatClampNeg p1)) = (M5 0 11)) → (Q (-2 : Int32) M5))))) ∧ (((M5 8 (Int32.toNatClampNeg p1)) = 0) → (Q (-11 : Int32) M5))))) ∧ ((r6 = 0) → (Q (-2 : Int32) M5)))))))))
set_option maxHeartbeats 4000000 in
set_option maxRecDepth 20000 in
theorem c6_tells {B : BX} {a : Nat → Nat} {M : S0} {p1 : Int32} {p2 : Int32} {p3 : Int32} {Q : Int32 → S0 → Prop} (h : w6_tells  M p1 p2 p3 Q) : KI B (wl 12 a (shM B.2.1 a)) yX6_tells cX6_tells 11 (some .int) 72 1658 [.ref (a 0), .int p1, .int p2, .int p3] M Q := by
  rw [w6_tells] at h
  refine KI_of (by decide +kernel) (Nat.le_of_ble_eq_true rfl) (fun E C hR => ?_)
  change V B E 11 (wl 12 a (shM B.2.1 a) M) 0 [(0, .ref (a 0)), (1, .int p1), (2, .int p2), (3, .int p3)] []
  change Ok B E cX6_tells 11 RX6 72 1658 at C
  refine v_iload_n C 1 dX6_tells_0 rfl rfl ?_
  refine v_callSi (As := [.int p1]) (rest := []) C (c6_isSheet  h) eX6_286 (by omega) (by omega) rfl rfl (Nat.le_of_ble_eq_true rfl) dX6_tells_1 (fun r2 M1 h => ?_)
  refine v_if_eq C dX6_tells_4 (tgt := 27) (by decide) (fun c => ?_) (fun c => ?_)
  · replace h := h.1 c
    refine v_bipush C dX6_tells_27 (v := (-2 : Int32)) (by decide) ?_
    exact hR _ _ _ _ h dX6_tells_29
  · replace h := h.2 c
    refine v_aload_n C 0 dX6_tells_7 rfl rfl ?_
    refine v_iload_n C 2 dX6_tells_8 rfl rfl ?_
    refine v_callVi (k := 0) (As := [.int p2]) (rest := []) C (c6_isOne  h) eX6_68 (by omega) (by omega) (by decide) rfl rfl rfl rfl (Nat.le_of_ble_eq_true rfl) dX6_tells_9 (fun r4 M3 h => ?_)
    refine v_if_eq C dX6_tells_12 (tgt := 27) (by decide) (fun c => ?_) (fun c => ?_)
    · replace h := h.1 c
      refine v_bipush C dX6_tells_27 (v := (-2 : Int32)) (by decide) ?_
      exact hR _ _ _ _ h dX6_tells_29
    · replace h := h.2 c
      refine v_iload_n C 3 dX6_tells_15 rfl rfl ?_
      refine v_i2l C dX6_tells_16 ?_
      refine v_lconst C dX6_tells_17 (v := (0 : Int64)) (by decide) ?_
      refine v_ldc2 C (v := (8 : Int64)) (gdm 1119 (by decide +kernel) (by decide +kernel)) dX6_tells_18 ?_
      refine v_callSi (As := [.long (Int32.toInt64 p3), .long (0 : Int64), .long (8 : Int64)]) (rest := []) C (c6_in  h) eX6_64 (by omega) (by omega) rfl rfl (Nat.le_of_ble_eq_true rfl) dX6_tells_21 (fun r6 M5 h => ?_)
      refine v_if_ne C dX6_tells_24 (tgt := 30) (by decide) (fun c => ?_) (fun c => ?_)
      · replace h := h.1 c
        refine v_aload_n C 0 dX6_tells_30 rfl rfl ?_
        refine fX6_6_g_isThere C dX6_tells_31 ?_
        refine v_iload_n C 1 dX6_tells_34 rfl rfl ?_
        obtain ⟨hi7, h⟩ := h
        refine v_zald (k := 8) C (by decide) rfl hi7 dX6_tells_35 ?_
        refine v_if_ne C dX6_tells_36 (tgt := 42) (by decide) (fun c => ?_) (fun c => ?_)
        · replace h := h.1 c
          refine v_aload_n C 0 dX6_tells_42 rfl rfl ?_
          refine fX6_6_g_sheetSize C dX6_tells_43 ?_
          refine v_iload_n C 1 dX6_tells_46 rfl rfl ?_
          obtain ⟨hi8, h⟩ := h
          refine v_iald (k := 10) C (by decide) rfl hi8 dX6_tells_47 ?_
          refine v_aload_n C 0 dX6_tells_48 rfl rfl ?_
          refine fX6_6_g_many C dX6_tells_49 ?_
          refine v_icmp_eq C dX6_tells_52 (tgt := 58) (by decide) (fun c => ?_) (fun c => ?_)
          · replace h := h.1 c
            refine v_iload_n C 3 dX6_tells_58 rfl rfl ?_
            refine v_if_eq C dX6_tells_59 (tgt := 68) (by decide) (fun c => ?_) (fun c => ?_)
            · replace h := h.1 c
              refine v_iload_n C 3 dX6_tells_68 rfl rfl ?_
              refine v_if_ne C dX6_tells_69 (tgt := 81) (by decide) (fun c => ?_) (fun c => ?_)
              · replace h := h.1 c
                refine v_aload_n C 0 dX6_tells_81 rfl rfl ?_
                refine v_iload_n C 1 dX6_tells_82 rfl rfl ?_
                refine v_callVi (k := 0) (As := [.int p1]) (rest := []) C (c6_likeSet  h) eX6_331 (by omega) (by omega) (by decide) rfl rfl rfl rfl (Nat.le_of_ble_eq_true rfl) dX6_tells_83 (fun r10 M9 h => ?_)
                exact hR _ _ _ _ h dX6_tells_86
              · replace h := h.2 c
                refine v_aload_n C 0 dX6_tells_72 rfl rfl ?_
                refine v_iload_n C 1 dX6_tells_73 rfl rfl ?_
                refine v_iload_n C 2 dX6_tells_74 rfl rfl ?_
                refine v_callVi (k := 0) (As := [.int p1, .int p2]) (rest := []) C (c6_firstOther  h) eX6_328 (by omega) (by omega) (by decide) rfl rfl rfl rfl (Nat.le_of_ble_eq_true rfl) dX6_tells_75 (fun r12 M11 h => ?_)
                refine v_goto C dX6_tells_78 (tgt := 86) (by decide) ?_
                exact hR _ _ _ _ h dX6_tells_86
            · replace h := h.2 c
              refine v_iload_n C 3 dX6_tells_62 rfl rfl ?_
              refine v_bipush C dX6_tells_63 (v := (8 : Int32)) (by decide) ?_
              refine v_icmp_ne C dX6_tells_65 (tgt := 87) (by decide) (fun c => ?_) (fun c => ?_)
              · replace h := h.1 c
                refine v_iload_n C 3 dX6_tells_87 rfl rfl ?_
                refine v_iconst C dX6_tells_88 (v := (1 : Int32)) (by decide) ?_
                refine v_icmp_ne C dX6_tells_89 (tgt := 96) (by decide) (fun c => ?_) (fun c => ?_)
                · replace h := h.1 c
                  refine v_iload_n C 3 dX6_tells_96 rfl rfl ?_
                  refine v_iconst C dX6_tells_97 (v := (2 : Int32)) (by decide) ?_
                  refine v_icmp_ne C dX6_tells_98 (tgt := 105) (by decide) (fun c => ?_) (fun c => ?_)
                  · replace h := h.1 c
                    refine v_iload_n C 3 dX6_tells_105 rfl rfl ?_
                    refine v_iconst C dX6_tells_106 (v := (5 : Int32)) (by decide) ?_
                    refine v_icmp_ge C dX6_tells_107 (tgt := 114) (by decide) (fun c => ?_) (fun c => ?_)
                    · replace h := h.1 c
                      refine v_iload_n C 3 dX6_tells_114 rfl rfl ?_
                      refine v_bipush C dX6_tells_115 (v := (7 : Int32)) (by decide) ?_
                      refine v_icmp_ge C dX6_tells_117 (tgt := 124) (by decide) (fun c => ?_) (fun c => ?_)
                      · replace h := h.1 c
                        refine v_iconst C dX6_tells_124 (v := (5 : Int32)) (by decide) ?_
                        refine v_sub [0, 1, 2, 3] rfl ?_
                        exact t6_tells_b125   C hR  M5 p1 p2 p3 (5 : Int32)  h
                      · replace h := h.2 c
                        refine v_iconst C dX6_tells_120 (v := (0 : Int32)) (by decide) ?_
                        refine v_goto C dX6_tells_121 (tgt := 125) (by decide) ?_
                        refine v_sub [0, 1, 2, 3] rfl ?_
                        exact t6_tells_b125   C hR  M5 p1 p2 p3 (0 : Int32)  h
                    · replace h := h.2 c
                      refine v_iconst C dX6_tells_110 (v := (3 : Int32)) (by decide) ?_
                      refine v_goto C dX6_tells_111 (tgt := 125) (by decide) ?_
                      refine v_sub [0, 1, 2, 3] rfl ?_
                      exact t6_tells_b125   C hR  M5 p1 p2 p3 (3 : Int32)  h
                  · replace h := h.2 c
                    refine v_iconst C dX6_tells_101 (v := (2 : Int32)) (by decide) ?_
                    refine v_goto C dX6_tells_102 (tgt := 125) (by decide) ?_
                    refine v_sub [0, 1, 2, 3] rfl ?_
                    exact t6_tells_b125   C hR  M5 p1 p2 p3 (2 : Int32)  h
                · replace h := h.2 c
                  refine v_iconst C dX6_tells_92 (v := (4 : Int32)) (by decide) ?_
                  refine v_goto C dX6_tells_93 (tgt := 125) (by decide) ?_
                  refine v_sub [0, 1, 2, 3] rfl ?_
                  exact t6_tells_b125   C hR  M5 p1 p2 p3 (4 : Int32)  h
              · replace h := h.2 c
                refine v_iload_n C 3 dX6_tells_68 rfl rfl ?_
                refine v_if_ne C dX6_tells_69 (tgt := 81) (by decide) (fun c => ?_) (fun c => ?_)
                · replace h := h.1 c
                  refine v_aload_n C 0 dX6_tells_81 rfl rfl ?_
                  refine v_iload_n C 1 dX6_tells_82 rfl rfl ?_
                  refine v_callVi (k := 0) (As := [.int p1]) (rest := []) C (c6_likeSet  h) eX6_331 (by omega) (by omega) (by decide) rfl rfl rfl rfl (Nat.le_of_ble_eq_true rfl) dX6_tells_83 (fun r14 M13 h => ?_)
                  exact hR _ _ _ _ h dX6_tells_86
                · replace h := h.2 c
                  refine v_aload_n C 0 dX6_tells_72 rfl rfl ?_
                  refine v_iload_n C 1 dX6_tells_73 rfl rfl ?_
                  refine v_iload_n C 2 dX6_tells_74 rfl rfl ?_
                  refine v_callVi (k := 0) (As := [.int p1, .int p2]) (rest := []) C (c6_firstOther  h) eX6_328 (by omega) (by omega) (by decide) rfl rfl rfl rfl (Nat.le_of_ble_eq_true rfl) dX6_tells_75 (fun r16 M15 h => ?_)
                  refine v_goto C dX6_tells_78 (tgt := 86) (by decide) ?_
                  exact hR _ _ _ _ h dX6_tells_86
          · replace h := h.2 c
            refine v_bipush C dX6_tells_55 (v := (-2 : Int32)) (by decide) ?_
            exact hR _ _ _ _ h dX6_tells_57
        · replace h := h.2 c
          refine v_bipush C dX6_tells_39 (v := (-11 : Int32)) (by decide) ?_
          exact hR _ _ _ _ h dX6_tells_41
      · replace h := h.2 c
        refine v_bipush C dX6_tells_27 (v := (-2 : Int32)) (by decide) ?_
        exact hR _ _ _ _ h dX6_tells_29
