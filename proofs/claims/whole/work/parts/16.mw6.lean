def w6_hallBehind (M : S0) (p1 : Int32) (Q : Int32 → S0 → Prop) : Prop :=
    w6_laysAside M (fun M1 => w6_robins M1 p1 (fun M2 => w6_bitsOf M2 (M2 0 8) (fun r4 M3 => w6_laysBack M3 (fun M5 => Q r4 M5))))
set_option maxHeartbeats 4000000 in
set_option maxRecDepth 20000 in
theorem c6_hallBehind {B : BX} {a : Nat → Nat} {M : S0} {p1 : Int32} {Q : Int32 → S0 → Prop} (h : w6_hallBehind  M p1 Q) : KI B (wl 12 a (shM B.2.1 a)) yX6_hallBehind cX6_hallBehind 3 (some .int) 73 1686 [.ref (a 0), .int p1] M Q := by
  rw [w6_hallBehind] at h
  refine KI_of (by decide +kernel) (Nat.le_of_ble_eq_true rfl) (fun E C hR => ?_)
  change V B E 3 (wl 12 a (shM B.2.1 a) M) 0 [(0, .ref (a 0)), (1, .int p1)] []
  change Ok B E cX6_hallBehind 3 RX6 73 1686 at C
  refine v_aload_n C 0 dX6_hallBehind_0 rfl rfl ?_
  refine v_callVv (k := 0) (As := []) (rest := []) C (c6_laysAside  h) eX6_275 (by omega) (by omega) (by decide) rfl rfl rfl rfl (Nat.le_of_ble_eq_true rfl) dX6_hallBehind_1 (fun M1 h => ?_)
  refine v_aload_n C 0 dX6_hallBehind_4 rfl rfl ?_
  refine v_iload_n C 1 dX6_hallBehind_5 rfl rfl ?_
  refine v_callVv (k := 0) (As := [.int p1]) (rest := []) C (c6_robins  h) eX6_300 (by omega) (by omega) (by decide) rfl rfl rfl rfl (Nat.le_of_ble_eq_true rfl) dX6_hallBehind_6 (fun M2 h => ?_)
  refine v_aload_n C 0 dX6_hallBehind_9 rfl rfl ?_
  refine fX6_6_g_hall C dX6_hallBehind_10 ?_
  refine v_callSi (As := [.int (M2 0 8)]) (rest := []) C (c6_bitsOf  h) eX6_116 (by omega) (by omega) rfl rfl (Nat.le_of_ble_eq_true rfl) dX6_hallBehind_13 (fun r4 M3 h => ?_)
  refine v_istore_n (lv' := [(2, .int r4), (0, .ref (a 0)), (1, .int p1)]) C dX6_hallBehind_16 rfl (by decide) rfl ?_
  refine v_aload_n C 1 dX6_hallBehind_17 rfl rfl ?_
  refine v_callVv (k := 0) (As := []) (rest := []) C (c6_laysBack  h) eX6_281 (by omega) (by omega) (by decide) rfl rfl rfl rfl (Nat.le_of_ble_eq_true rfl) dX6_hallBehind_18 (fun M5 h => ?_)
  refine v_iload_n C 0 dX6_hallBehind_21 rfl rfl ?_
  exact hR _ _ _ _ h dX6_hallBehind_22
def w6_apart_b23 (K10 : S0 → Int32 → Int32 → Int32 → Prop) (Q : Int32 → S0 → Prop) : Nat → S0 → Int32 → Int32 → Int32 → Int32 → Prop
  | 0, _, _, _, _, _ => False
  | n + 1, M, v1_23, v2_23, v3_23, v4_23 =>
    (((M 0 11) ≤ v4_23) → (∀ x6 : Int32, x6 = v3_23 + (1 : Int32) → (K10 M v1_23 v2_23 x6))) ∧ ((¬ (M 0 11) ≤ v4_23) → (w6_hallBehind M (((10 : Int32) * v3_23) + v4_23) (fun r8 M7 => ((v2_23 ≤ r8) → (∀ x9 : Int32, x9 = v4_23 + (1 : Int32) → (w6_apart_b23  K10 Q n M7 v1_23 v2_23 v3_23 x9))) ∧ ((¬ v2_23 ≤ r8) → (∀ x10 : Int32, x10 = (((10 : Int32) * v3_23) + v4_23) → (∀ x11 : Int32, x11 = v4_23 + (1 : Int32) → (w6_apart_b23  K10 Q n M7 x10 r8 v3_23 x11)))))))
set_option maxHeartbeats 4000000 in
set_option maxRecDepth 20000 in
theorem t6_apart_b23 {B : BX} {E : EX} {a : Nat → Nat} {K10 : S0 → Int32 → Int32 → Int32 → Prop} {Q : Int32 → S0 → Prop} (C : Ok B E cX6_apart 6 RX6 74 1708) (hR : RetI B E cX6_apart 6 (wl 12 a (shM B.2.1 a)) Q) (hK10 : ∀ (M : S0) (v1_10 : Int32) (v2_10 : Int32) (v3_10 : Int32), K10 M v1_10 v2_10 v3_10 → V B E 6 (wl 12 a (shM B.2.1 a) M) 10 [(0, .ref (a 0)), (1, .int v1_10), (2, .int v2_10), (3, .int v3_10)] []) : ∀ (n : Nat) (M : S0) (v1_23 : Int32) (v2_23 : Int32) (v3_23 : Int32) (v4_23 : Int32), w6_apart_b23  K10 Q n M v1_23 v2_23 v3_23 v4_23 → V B E 6 (wl 12 a (shM B.2.1 a) M) 23 [(0, .ref (a 0)), (1, .int v1_23), (2, .int v2_23), (3, .int v3_23), (4, .int v4_23)] [] := by
  intro n
  induction n with
  | zero =>
    intro M v1_23 v2_23 v3_23 v4_23  h
    exact h.elim
  | succ n ih =>
    intro M v1_23 v2_23 v3_23 v4_23  h
    rw [w6_apart_b23] at h
    refine v_iload C 4 dX6_apart_23 rfl ?_
    refine v_aload_n C 0 dX6_apart_25 rfl rfl ?_
    refine fX6_6_g_many C dX6_apart_26 ?_
    refine v_icmp_ge C dX6_apart_29 (tgt := 68) (by decide) (fun c => ?_) (fun c => ?_)
    · replace h := h.1 c
      obtain ⟨x6, ex6⟩ : ∃ z : Int32, z = v3_23 + (1 : Int32) := ⟨_, rfl⟩
      replace h := h x6 ex6
      refine v_iinc (v := x6) (lv' := [(3, .int x6), (0, .ref (a 0)), (1, .int v1_23), (2, .int v2_23), (4, .int v4_23)]) C 3 dX6_apart_68 rfl (by rw [ex6]; rfl) (by decide) rfl ?_
      refine v_goto C dX6_apart_71 (tgt := 10) (by decide) ?_
      refine v_sub [1, 2, 3, 0] rfl ?_
      exact hK10 M v1_23 v2_23 x6  h
    · replace h := h.2 c
      refine v_aload_n C 0 dX6_apart_32 rfl rfl ?_
      refine v_bipush C dX6_apart_33 (v := (10 : Int32)) (by decide) ?_
      refine v_iload_n C 3 dX6_apart_35 rfl rfl ?_
      refine v_imul C dX6_apart_36 ?_
      refine v_iload C 4 dX6_apart_37 rfl ?_
      refine v_iadd C dX6_apart_39 ?_
      refine v_callVi (k := 0) (As := [.int (((10 : Int32) * v3_23) + v4_23)]) (rest := []) C (c6_hallBehind  h) eX6_304 (by omega) (by omega) (by decide) rfl rfl rfl rfl (Nat.le_of_ble_eq_true rfl) dX6_apart_40 (fun r8 M7 h => ?_)
      refine v_istore (lv' := [(5, .int r8), (0, .ref (a 0)), (1, .int v1_23), (2, .int v2_23), (3, .int v3_23), (4, .int v4_23)]) C dX6_apart_43 (by decide) rfl ?_
      refine v_iload C 0 dX6_apart_45 rfl ?_
      refine v_iload_n C 3 dX6_apart_47 rfl rfl ?_
      refine v_icmp_ge C dX6_apart_48 (tgt := 62) (by decide) (fun c => ?_) (fun c => ?_)
      · replace h := h.1 c
        obtain ⟨x9, ex9⟩ : ∃ z : Int32, z = v4_23 + (1 : Int32) := ⟨_, rfl⟩
        replace h := h x9 ex9
        refine v_iinc (v := x9) (lv' := [(4, .int x9), (5, .int r8), (0, .ref (a 0)), (1, .int v1_23), (2, .int v2_23), (3, .int v3_23)]) C 5 dX6_apart_62 rfl (by rw [ex9]; rfl) (by decide) rfl ?_
        refine v_goto C dX6_apart_65 (tgt := 23) (by decide) ?_
        refine v_sub [2, 3, 4, 5, 0] rfl ?_
        exact ih M7 v1_23 v2_23 v3_23 x9  h
      · replace h := h.2 c
        refine v_bipush C dX6_apart_51 (v := (10 : Int32)) (by decide) ?_
        refine v_iload_n C 4 dX6_apart_53 rfl rfl ?_
        refine v_imul C dX6_apart_54 ?_
        refine v_iload C 5 dX6_apart_55 rfl ?_
        refine v_iadd C dX6_apart_57 ?_
        refine v_nmi (fun x10 ex10 => ?_)
        replace h := h x10 ex10
        refine v_istore_n (lv' := [(1, .int x10), (5, .int r8), (0, .ref (a 0)), (2, .int v2_23), (3, .int v3_23), (4, .int v4_23)]) C dX6_apart_58 rfl (by decide) rfl ?_
        refine v_iload C 1 dX6_apart_59 rfl ?_
        refine v_istore_n (lv' := [(2, .int r8), (1, .int x10), (5, .int r8), (0, .ref (a 0)), (3, .int v3_23), (4, .int v4_23)]) C dX6_apart_61 rfl (by decide) rfl ?_
        obtain ⟨x11, ex11⟩ : ∃ z : Int32, z = v4_23 + (1 : Int32) := ⟨_, rfl⟩
        replace h := h x11 ex11
        refine v_iinc (v := x11) (lv' := [(4, .int x11), (2, .int r8), (1, .int x10), (5, .int r8), (0, .ref (a 0)), (3, .int v3_23)]) C 5 dX6_apart_62 rfl (by rw [ex11]; rfl) (by decide) rfl ?_
        refine v_goto C dX6_apart_65 (tgt := 23) (by decide) ?_
        refine v_sub [4, 2, 1, 5, 0] rfl ?_
        exact ih M7 x10 r8 v3_23 x11  h
def w6_apart_b10 (Q : Int32 → S0 → Prop) : Nat → S0 → Int32 → Int32 → Int32 → Prop
  | 0, _, _, _, _ => False
  | n + 1, M, v1_10, v2_10, v3_10 =>
    (((M 0 11) ≤ v3_10) → (Q v1_10 M)) ∧ ((¬ (M 0 11) ≤ v3_10) → (∀ x4 : Int32, x4 = (v3_10 + (1 : Int32)) → (∃ n5, w6_apart_b23  (w6_apart_b10   Q n) Q n5 M v1_10 v2_10 v3_10 x4)))
set_option maxHeartbeats 4000000 in
set_option maxRecDepth 20000 in
theorem t6_apart_b10 {B : BX} {E : EX} {a : Nat → Nat} {Q : Int32 → S0 → Prop} (C : Ok B E cX6_apart 6 RX6 74 1708) (hR : RetI B E cX6_apart 6 (wl 12 a (shM B.2.1 a)) Q) : ∀ (n : Nat) (M : S0) (v1_10 : Int32) (v2_10 : Int32) (v3_10 : Int32), w6_apart_b10   Q n M v1_10 v2_10 v3_10 → V B E 6 (wl 12 a (shM B.2.1 a) M) 10 [(0, .ref (a 0)), (1, .int v1_10), (2, .int v2_10), (3, .int v3_10)] [] := by
  intro n
  induction n with
  | zero =>
    intro M v1_10 v2_10 v3_10  h
    exact h.elim
  | succ n ih =>
    intro M v1_10 v2_10 v3_10  h
    rw [w6_apart_b10] at h
    refine v_iload_n C 3 dX6_apart_10 rfl rfl ?_
    refine v_aload_n C 0 dX6_apart_11 rfl rfl ?_
    refine fX6_6_g_many C dX6_apart_12 ?_
    refine v_icmp_ge C dX6_apart_15 (tgt := 74) (by decide) (fun c => ?_) (fun c => ?_)
    · replace h := h.1 c
      refine v_iload_n C 1 dX6_apart_74 rfl rfl ?_
      exact hR _ _ _ _ h dX6_apart_75
    · replace h := h.2 c
      refine v_iload_n C 3 dX6_apart_18 rfl rfl ?_
      refine v_iconst C dX6_apart_19 (v := (1 : Int32)) (by decide) ?_
      refine v_iadd C dX6_apart_20 ?_
      refine v_nmi (fun x4 ex4 => ?_)
      replace h := h x4 ex4
      refine v_istore (lv' := [(4, .int x4), (0, .ref (a 0)), (1, .int v1_10), (2, .int v2_10), (3, .int v3_10)]) C dX6_apart_21 (by decide) rfl ?_
      obtain ⟨n5, h⟩ := h
      refine v_sub [1, 2, 3, 4, 0] rfl ?_
      exact t6_apart_b23   C hR ih n5 M v1_10 v2_10 v3_10 x4  h
def w6_apart (M : S0) (Q : Int32 → S0 → Prop) : Prop :=
    w6_hallBehind M (-1 : Int32) (fun r2 M1 => ∃ n3, w6_apart_b10   Q n3 M1 (-1 : Int32) r2 (0 : Int32))
set_option maxHeartbeats 4000000 in
set_option maxRecDepth 20000 in
theorem c6_apart {B : BX} {a : Nat → Nat} {M : S0} {Q : Int32 → S0 → Prop} (h : w6_apart  M  Q) : KI B (wl 12 a (shM B.2.1 a)) yX6_apart cX6_apart 6 (some .int) 74 1708 [.ref (a 0)] M Q := by
  rw [w6_apart] at h
  refine KI_of (by decide +kernel) (Nat.le_of_ble_eq_true rfl) (fun E C hR => ?_)
  change V B E 6 (wl 12 a (shM B.2.1 a) M) 0 [(0, .ref (a 0))] []
  change Ok B E cX6_apart 6 RX6 74 1708 at C
  refine v_iconst C dX6_apart_0 (v := (-1 : Int32)) (by decide) ?_
  refine v_istore_n (lv' := [(1, .int (-1 : Int32)), (0, .ref (a 0))]) C dX6_apart_1 rfl (by decide) rfl ?_
  refine v_aload_n C 1 dX6_apart_2 rfl rfl ?_
  refine v_iconst C dX6_apart_3 (v := (-1 : Int32)) (by decide) ?_
  refine v_callVi (k := 0) (As := [.int (-1 : Int32)]) (rest := []) C (c6_hallBehind  h) eX6_304 (by omega) (by omega) (by decide) rfl rfl rfl rfl (Nat.le_of_ble_eq_true rfl) dX6_apart_4 (fun r2 M1 h => ?_)
  refine v_istore_n (lv' := [(2, .int r2), (1, .int (-1 : Int32)), (0, .ref (a 0))]) C dX6_apart_7 rfl (by decide) rfl ?_
  refine v_iconst C dX6_apart_8 (v := (0 : Int32)) (by decide) ?_
  refine v_istore_n (lv' := [(3, .int (0 : Int32)), (2, .int r2), (1, .int (-1 : Int32)), (0, .ref (a 0))]) C dX6_apart_9 rfl (by decide) rfl ?_
  obtain ⟨n3, h⟩ := h
  refine v_sub [3, 2, 1, 0] rfl ?_
  exact t6_apart_b10   C hR  n3 M1 (-1 : Int32) r2 (0 : Int32)  h
def w6_ringMany_b29 (K4 : S0 → Int32 → Int32 → Prop) (K16 : S0 → Int32 → Int32 → Int32 → Prop) (Q : Int32 → S0 → Prop) : Nat → S0 → Int32 → Int32 → Int32 → Int32 → Prop
  | 0, _, _, _, _, _ => False
  | n + 1, M, v1_29, v2_29, v3_29, v4_29 =>
    (((M 0 11) ≤ v4_29) → (∀ x7 : Int32, x7 = v3_29 + (1 : Int32) → (K16 M v1_29 v2_29 x7))) ∧ ((¬ (M 0 11) ≤ v4_29) → (w6_winnerOf M v2_29 v3_29 (fun r9 M8 => w6_winnerOf M8 v3_29 v4_29 (fun r11 M10 => w6_winnerOf M10 v2_29 v4_29 (fun r13 M12 => ((¬ r9 = v2_29) → (((¬ r9 = v3_29) → (∀ x14 : Int32, x14 = (v1_29 + (0 : Int32)) → (∀ x15 : Int32, x15 = v4_29 + (1 : Int32) → (w6_ringMany_b29  K4 K16 Q n M12 x14 v2_29 v3_29 x15)))) ∧ ((r9 = v3_29) → (((¬ r11 = v4_29) → (∀ x16 : Int32, x16 = (v1_29 + (0 : Int32)) → (∀ x17 : Int32, x17 = v4_29 + (1 : Int32) → (w6_ringMany_b29  K4 K16 Q n M12 x16 v2_29 v3_29 x17)))) ∧ ((r11 = v4_29) → (((¬ r13 = v2_29) → (∀ x18 : Int32, x18 = (v1_29 + (0 : Int32)) → (∀ x19 : Int32, x19 = v4_29 + (1 : Int32) → (w6_ringMany_b29  K4 K16 Q n M12 x18 v2_29 v3_29 x19)))) ∧ ((r13 = v2_29) → (∀ x20 : Int32, x20 = (v1_29 + (1 : Int32)) → (∀ x21 : Int32, x21 = v4_29 + (1 : Int32) → (w6_ringMany_b29  K4 K16 Q n M12 x20 v2_29 v3_29 x21)))))))))) ∧ ((r9 = v2_29) → (((¬ r11 = v3_29) → (((¬ r9 = v3_29) → (∀ x22 : Int32, x22 = (v1_29 + (0 : Int32)) → (∀ x23 : Int32, x23 = v4_29 + (1 : Int32) → (w6_ringMany_b29  K4 K16 Q n M12 x22 v2_29 v3_29 x23)))) ∧ ((r9 = v3_29) → (((¬ r11 = v4_29) → (∀ x24 : Int32, x24 = (v1_29 + (0 : Int32)) → (∀ x25 : Int32, x25 = v4_29 + (1 : Int32) → (w6_ringMany_b29  K4 K16 Q n M12 x24 v2_29 v3_29 x25)))) ∧ ((r11 = v4_29) → (((¬ r13 = v2_29) → (∀ x26 : Int32, x26 = (v1_29 + (0 : Int32)) → (∀ x27 : Int32, x27 = v4_29 + (1 : Int32) → (w6_ringMany_b29  K4 K16 Q n M12 x26 v2_29 v3_29 x27)))) ∧ ((r13 = v2_29) → (∀ x28 : Int32, x28 = (v1_29 + (1 : Int32)) → (∀ x29 : Int32, x29 = v4_29 + (1 : Int32) → (w6_ringMany_b29  K4 K16 Q n M12 x28 v2_29 v3_29 x29)))))))))) ∧ ((r11 = v3_29) → (((r13 = v4_29) → (∀ x30 : Int32, x30 = (v1_29 + (1 : Int32)) → (∀ x31 : Int32, x31 = v4_29 + (1 : Int32) → (w6_ringMany_b29  K4 K16 Q n M12 x30 v2_29 v3_29 x31)))) ∧ ((¬ r13 = v4_29) → (((¬ r9 = v3_29) → (∀ x32 : Int32, x32 = (v1_29 + (0 : Int32)) → (∀ x33 : Int32, x33 = v4_29 + (1 : Int32) → (w6_ringMany_b29  K4 K16 Q n M12 x32 v2_29 v3_29 x33)))) ∧ ((r9 = v3_29) → (((¬ r11 = v4_29) → (∀ x34 : Int32, x34 = (v1_29 + (0 : Int32)) → (∀ x35 : Int32, x35 = v4_29 + (1 : Int32) → (w6_ringMany_b29  K4 K16 Q n M12 x34 v2_29 v3_29 x35)))) ∧ ((r11 = v4_29) → (((¬ r13 = v2_29) → (∀ x36 : Int32, x36 = (v1_29 + (0 : Int32)) → (∀ x37 : Int32, x37 = v4_29 + (1 : Int32) → (w6_ringMany_b29  K4 K16 Q n M12 x36 v2_29 v3_29 x37)))) ∧ ((r13 = v2_29) → (∀ x38 : Int32, x38 = (v1_29 + (1 : Int32)) → (∀ x39 : Int32, x39 = v4_29 + (1 : Int32) → (w6_ringMany_b29  K4 K16 Q n M12 x38 v2_29 v3_29 x39)))))))))))))))))))
set_option maxHeartbeats 4000000 in
set_option maxRecDepth 20000 in
theorem t6_ringMany_b29 {B : BX} {E : EX} {a : Nat → Nat} {K4 : S0 → Int32 → Int32 → Prop} {K16 : S0 → Int32 → Int32 → Int32 → Prop} {Q : Int32 → S0 → Prop} (C : Ok B E cX6_ringMany 8 RX6 71 1636) (hR : RetI B E cX6_ringMany 8 (wl 12 a (shM B.2.1 a)) Q) (hK4 : ∀ (M : S0) (v1_4 : Int32) (v2_4 : Int32), K4 M v1_4 v2_4 → V B E 8 (wl 12 a (shM B.2.1 a) M) 4 [(0, .ref (a 0)), (1, .int v1_4), (2, .int v2_4)] []) (hK16 : ∀ (M : S0) (v1_16 : Int32) (v2_16 : Int32) (v3_16 : Int32), K16 M v1_16 v2_16 v3_16 → V B E 8 (wl 12 a (shM B.2.1 a) M) 16 [(0, .ref (a 0)), (1, .int v1_16), (2, .int v2_16), (3, .int v3_16)] []) : ∀ (n : Nat) (M : S0) (v1_29 : Int32) (v2_29 : Int32) (v3_29 : Int32) (v4_29 : Int32), w6_ringMany_b29  K4 K16 Q n M v1_29 v2_29 v3_29 v4_29 → V B E 8 (wl 12 a (shM B.2.1 a) M) 29 [(0, .ref (a 0)), (1, .int v1_29), (2, .int v2_29), (3, .int v3_29), (4, .int v4_29)] [] := by
  intro n
  induction n with
  | zero =>
    intro M v1_29 v2_29 v3_29 v4_29  h
    exact h.elim
  | succ n ih =>
    intro M v1_29 v2_29 v3_29 v4_29  h
    rw [w6_ringMany_b29] at h
    refine v_iload C 4 dX6_ringMany_29 rfl ?_
    refine v_aload_n C 0 dX6_ringMany_31 rfl rfl ?_
    refine fX6_6_g_many C dX6_ringMany_32 ?_
    refine v_icmp_ge C dX6_ringMany_35 (tgt := 116) (by decide) (fun c => ?_) (fun c => ?_)
    · replace h := h.1 c
      obtain ⟨x7, ex7⟩ : ∃ z : Int32, z = v3_29 + (1 : Int32) := ⟨_, rfl⟩
      replace h := h x7 ex7
      refine v_iinc (v := x7) (lv' := [(3, .int x7), (0, .ref (a 0)), (1, .int v1_29), (2, .int v2_29), (4, .int v4_29)]) C 3 dX6_ringMany_116 rfl (by rw [ex7]; rfl) (by decide) rfl ?_
      refine v_goto C dX6_ringMany_119 (tgt := 16) (by decide) ?_
      refine v_sub [1, 2, 3, 0] rfl ?_
      exact hK16 M v1_29 v2_29 x7  h
    · replace h := h.2 c
      refine v_aload_n C 0 dX6_ringMany_38 rfl rfl ?_
      refine v_iload_n C 2 dX6_ringMany_39 rfl rfl ?_
      refine v_iload_n C 3 dX6_ringMany_40 rfl rfl ?_
      refine v_callVi (k := 0) (As := [.int v2_29, .int v3_29]) (rest := []) C (c6_winnerOf  h) eX6_259 (by omega) (by omega) (by decide) rfl rfl rfl rfl (Nat.le_of_ble_eq_true rfl) dX6_ringMany_41 (fun r9 M8 h => ?_)
      refine v_istore (lv' := [(5, .int r9), (0, .ref (a 0)), (1, .int v1_29), (2, .int v2_29), (3, .int v3_29), (4, .int v4_29)]) C dX6_ringMany_44 (by decide) rfl ?_
      refine v_aload_n C 1 dX6_ringMany_46 rfl rfl ?_
      refine v_iload_n C 4 dX6_ringMany_47 rfl rfl ?_
      refine v_iload C 5 dX6_ringMany_48 rfl ?_
      refine v_callVi (k := 0) (As := [.int v3_29, .int v4_29]) (rest := []) C (c6_winnerOf  h) eX6_259 (by omega) (by omega) (by decide) rfl rfl rfl rfl (Nat.le_of_ble_eq_true rfl) dX6_ringMany_50 (fun r11 M10 h => ?_)
      refine v_istore (lv' := [(6, .int r11), (5, .int r9), (0, .ref (a 0)), (1, .int v1_29), (2, .int v2_29), (3, .int v3_29), (4, .int v4_29)]) C dX6_ringMany_53 (by decide) rfl ?_
      refine v_aload_n C 2 dX6_ringMany_55 rfl rfl ?_
      refine v_iload_n C 4 dX6_ringMany_56 rfl rfl ?_
      refine v_iload C 6 dX6_ringMany_57 rfl ?_
      refine v_callVi (k := 0) (As := [.int v2_29, .int v4_29]) (rest := []) C (c6_winnerOf  h) eX6_259 (by omega) (by omega) (by decide) rfl rfl rfl rfl (Nat.le_of_ble_eq_true rfl) dX6_ringMany_59 (fun r13 M12 h => ?_)
      refine v_istore (lv' := [(7, .int r13), (6, .int r11), (5, .int r9), (0, .ref (a 0)), (1, .int v1_29), (2, .int v2_29), (3, .int v3_29), (4, .int v4_29)]) C dX6_ringMany_62 (by decide) rfl ?_
      refine v_iload_n C 4 dX6_ringMany_64 rfl rfl ?_
      refine v_iload C 2 dX6_ringMany_65 rfl ?_
      refine v_iload_n C 5 dX6_ringMany_67 rfl rfl ?_
      refine v_icmp_ne C dX6_ringMany_68 (tgt := 84) (by decide) (fun c => ?_) (fun c => ?_)
      · replace h := h.1 c
        refine v_iload C 2 dX6_ringMany_84 rfl ?_
        refine v_iload_n C 6 dX6_ringMany_86 rfl rfl ?_
        refine v_icmp_ne C dX6_ringMany_87 (tgt := 107) (by decide) (fun c => ?_) (fun c => ?_)
        · replace h := h.1 c
          refine v_iconst C dX6_ringMany_107 (v := (0 : Int32)) (by decide) ?_
          refine v_iadd C dX6_ringMany_108 ?_
          refine v_nmi (fun x14 ex14 => ?_)
          replace h := h x14 ex14
          refine v_istore_n (lv' := [(1, .int x14), (7, .int r13), (6, .int r11), (5, .int r9), (0, .ref (a 0)), (2, .int v2_29), (3, .int v3_29), (4, .int v4_29)]) C dX6_ringMany_109 rfl (by decide) rfl ?_
          obtain ⟨x15, ex15⟩ : ∃ z : Int32, z = v4_29 + (1 : Int32) := ⟨_, rfl⟩
          replace h := h x15 ex15
          refine v_iinc (v := x15) (lv' := [(4, .int x15), (1, .int x14), (7, .int r13), (6, .int r11), (5, .int r9), (0, .ref (a 0)), (2, .int v2_29), (3, .int v3_29)]) C 7 dX6_ringMany_110 rfl (by rw [ex15]; rfl) (by decide) rfl ?_
          refine v_goto C dX6_ringMany_113 (tgt := 29) (by decide) ?_
          refine v_sub [5, 1, 6, 7, 0] rfl ?_
          exact ih M12 x14 v2_29 v3_29 x15  h
        · replace h := h.2 c
          refine v_iload C 1 dX6_ringMany_90 rfl ?_
          refine v_iload C 7 dX6_ringMany_92 rfl ?_
          refine v_icmp_ne C dX6_ringMany_94 (tgt := 107) (by decide) (fun c => ?_) (fun c => ?_)
          · replace h := h.1 c
            refine v_iconst C dX6_ringMany_107 (v := (0 : Int32)) (by decide) ?_
            refine v_iadd C dX6_ringMany_108 ?_
            refine v_nmi (fun x16 ex16 => ?_)
            replace h := h x16 ex16
            refine v_istore_n (lv' := [(1, .int x16), (7, .int r13), (6, .int r11), (5, .int r9), (0, .ref (a 0)), (2, .int v2_29), (3, .int v3_29), (4, .int v4_29)]) C dX6_ringMany_109 rfl (by decide) rfl ?_
            obtain ⟨x17, ex17⟩ : ∃ z : Int32, z = v4_29 + (1 : Int32) := ⟨_, rfl⟩
            replace h := h x17 ex17
            refine v_iinc (v := x17) (lv' := [(4, .int x17), (1, .int x16), (7, .int r13), (6, .int r11), (5, .int r9), (0, .ref (a 0)), (2, .int v2_29), (3, .int v3_29)]) C 7 dX6_ringMany_110 rfl (by rw [ex17]; rfl) (by decide) rfl ?_
            refine v_goto C dX6_ringMany_113 (tgt := 29) (by decide) ?_
            refine v_sub [5, 1, 6, 7, 0] rfl ?_
            exact ih M12 x16 v2_29 v3_29 x17  h
          · replace h := h.2 c
            refine v_iload C 0 dX6_ringMany_97 rfl ?_
            refine v_iload_n C 5 dX6_ringMany_99 rfl rfl ?_
            refine v_icmp_ne C dX6_ringMany_100 (tgt := 107) (by decide) (fun c => ?_) (fun c => ?_)
            · replace h := h.1 c
              refine v_iconst C dX6_ringMany_107 (v := (0 : Int32)) (by decide) ?_
              refine v_iadd C dX6_ringMany_108 ?_
              refine v_nmi (fun x18 ex18 => ?_)
              replace h := h x18 ex18
              refine v_istore_n (lv' := [(1, .int x18), (7, .int r13), (6, .int r11), (5, .int r9), (0, .ref (a 0)), (2, .int v2_29), (3, .int v3_29), (4, .int v4_29)]) C dX6_ringMany_109 rfl (by decide) rfl ?_
              obtain ⟨x19, ex19⟩ : ∃ z : Int32, z = v4_29 + (1 : Int32) := ⟨_, rfl⟩
              replace h := h x19 ex19
              refine v_iinc (v := x19) (lv' := [(4, .int x19), (1, .int x18), (7, .int r13), (6, .int r11), (5, .int r9), (0, .ref (a 0)), (2, .int v2_29), (3, .int v3_29)]) C 7 dX6_ringMany_110 rfl (by rw [ex19]; rfl) (by decide) rfl ?_
              refine v_goto C dX6_ringMany_113 (tgt := 29) (by decide) ?_
              refine v_sub [5, 1, 6, 7, 0] rfl ?_
              exact ih M12 x18 v2_29 v3_29 x19  h
            · replace h := h.2 c
              refine v_iconst C dX6_ringMany_103 (v := (1 : Int32)) (by decide) ?_
              refine v_goto C dX6_ringMany_104 (tgt := 108) (by decide) ?_
              refine v_iadd C dX6_ringMany_108 ?_
              refine v_nmi (fun x20 ex20 => ?_)
              replace h := h x20 ex20
              refine v_istore_n (lv' := [(1, .int x20), (7, .int r13), (6, .int r11), (5, .int r9), (0, .ref (a 0)), (2, .int v2_29), (3, .int v3_29), (4, .int v4_29)]) C dX6_ringMany_109 rfl (by decide) rfl ?_
              obtain ⟨x21, ex21⟩ : ∃ z : Int32, z = v4_29 + (1 : Int32) := ⟨_, rfl⟩
              replace h := h x21 ex21
              refine v_iinc (v := x21) (lv' := [(4, .int x21), (1, .int x20), (7, .int r13), (6, .int r11), (5, .int r9), (0, .ref (a 0)), (2, .int v2_29), (3, .int v3_29)]) C 7 dX6_ringMany_110 rfl (by rw [ex21]; rfl) (by decide) rfl ?_
              refine v_goto C dX6_ringMany_113 (tgt := 29) (by decide) ?_
              refine v_sub [5, 1, 6, 7, 0] rfl ?_
              exact ih M12 x20 v2_29 v3_29 x21  h
      · replace h := h.2 c
        refine v_iload C 1 dX6_ringMany_71 rfl ?_
        refine v_iload_n C 6 dX6_ringMany_73 rfl rfl ?_
        refine v_icmp_ne C dX6_ringMany_74 (tgt := 84) (by decide) (fun c => ?_) (fun c => ?_)
        · replace h := h.1 c
          refine v_iload C 2 dX6_ringMany_84 rfl ?_
          refine v_iload_n C 6 dX6_ringMany_86 rfl rfl ?_
          refine v_icmp_ne C dX6_ringMany_87 (tgt := 107) (by decide) (fun c => ?_) (fun c => ?_)
          · replace h := h.1 c
            refine v_iconst C dX6_ringMany_107 (v := (0 : Int32)) (by decide) ?_
            refine v_iadd C dX6_ringMany_108 ?_
            refine v_nmi (fun x22 ex22 => ?_)
            replace h := h x22 ex22
            refine v_istore_n (lv' := [(1, .int x22), (7, .int r13), (6, .int r11), (5, .int r9), (0, .ref (a 0)), (2, .int v2_29), (3, .int v3_29), (4, .int v4_29)]) C dX6_ringMany_109 rfl (by decide) rfl ?_
            obtain ⟨x23, ex23⟩ : ∃ z : Int32, z = v4_29 + (1 : Int32) := ⟨_, rfl⟩
            replace h := h x23 ex23
            refine v_iinc (v := x23) (lv' := [(4, .int x23), (1, .int x22), (7, .int r13), (6, .int r11), (5, .int r9), (0, .ref (a 0)), (2, .int v2_29), (3, .int v3_29)]) C 7 dX6_ringMany_110 rfl (by rw [ex23]; rfl) (by decide) rfl ?_
            refine v_goto C dX6_ringMany_113 (tgt := 29) (by decide) ?_
            refine v_sub [5, 1, 6, 7, 0] rfl ?_
            exact ih M12 x22 v2_29 v3_29 x23  h
          · replace h := h.2 c
            refine v_iload C 1 dX6_ringMany_90 rfl ?_
            refine v_iload C 7 dX6_ringMany_92 rfl ?_
            refine v_icmp_ne C dX6_ringMany_94 (tgt := 107) (by decide) (fun c => ?_) (fun c => ?_)
            · replace h := h.1 c
              refine v_iconst C dX6_ringMany_107 (v := (0 : Int32)) (by decide) ?_
              refine v_iadd C dX6_ringMany_108 ?_
              refine v_nmi (fun x24 ex24 => ?_)
              replace h := h x24 ex24
              refine v_istore_n (lv' := [(1, .int x24), (7, .int r13), (6, .int r11), (5, .int r9), (0, .ref (a 0)), (2, .int v2_29), (3, .int v3_29), (4, .int v4_29)]) C dX6_ringMany_109 rfl (by decide) rfl ?_
              obtain ⟨x25, ex25⟩ : ∃ z : Int32, z = v4_29 + (1 : Int32) := ⟨_, rfl⟩
              replace h := h x25 ex25
              refine v_iinc (v := x25) (lv' := [(4, .int x25), (1, .int x24), (7, .int r13), (6, .int r11), (5, .int r9), (0, .ref (a 0)), (2, .int v2_29), (3, .int v3_29)]) C 7 dX6_ringMany_110 rfl (by rw [ex25]; rfl) (by decide) rfl ?_
              refine v_goto C dX6_ringMany_113 (tgt := 29) (by decide) ?_
              refine v_sub [5, 1, 6, 7, 0] rfl ?_
              exact ih M12 x24 v2_29 v3_29 x25  h
            · replace h := h.2 c
              refine v_iload C 0 dX6_ringMany_97 rfl ?_
              refine v_iload_n C 5 dX6_ringMany_99 rfl rfl ?_
              refine v_icmp_ne C dX6_ringMany_100 (tgt := 107) (by decide) (fun c => ?_) (fun c => ?_)
              · replace h := h.1 c
                refine v_iconst C dX6_ringMany_107 (v := (0 : Int32)) (by decide) ?_
                refine v_iadd C dX6_ringMany_108 ?_
                refine v_nmi (fun x26 ex26 => ?_)
                replace h := h x26 ex26
                refine v_istore_n (lv' := [(1, .int x26), (7, .int r13), (6, .int r11), (5, .int r9), (0, .ref (a 0)), (2, .int v2_29), (3, .int v3_29), (4, .int v4_29)]) C dX6_ringMany_109 rfl (by decide) rfl ?_
                obtain ⟨x27, ex27⟩ : ∃ z : Int32, z = v4_29 + (1 : Int32) := ⟨_, rfl⟩
                replace h := h x27 ex27
                refine v_iinc (v := x27) (lv' := [(4, .int x27), (1, .int x26), (7, .int r13), (6, .int r11), (5, .int r9), (0, .ref (a 0)), (2, .int v2_29), (3, .int v3_29)]) C 7 dX6_ringMany_110 rfl (by rw [ex27]; rfl) (by decide) rfl ?_
                refine v_goto C dX6_ringMany_113 (tgt := 29) (by decide) ?_
                refine v_sub [5, 1, 6, 7, 0] rfl ?_
                exact ih M12 x26 v2_29 v3_29 x27  h
              · replace h := h.2 c
                refine v_iconst C dX6_ringMany_103 (v := (1 : Int32)) (by decide) ?_
                refine v_goto C dX6_ringMany_104 (tgt := 108) (by decide) ?_
                refine v_iadd C dX6_ringMany_108 ?_
                refine v_nmi (fun x28 ex28 => ?_)
                replace h := h x28 ex28
                refine v_istore_n (lv' := [(1, .int x28), (7, .int r13), (6, .int r11), (5, .int r9), (0, .ref (a 0)), (2, .int v2_29), (3, .int v3_29), (4, .int v4_29)]) C dX6_ringMany_109 rfl (by decide) rfl ?_
                obtain ⟨x29, ex29⟩ : ∃ z : Int32, z = v4_29 + (1 : Int32) := ⟨_, rfl⟩
                replace h := h x29 ex29
                refine v_iinc (v := x29) (lv' := [(4, .int x29), (1, .int x28), (7, .int r13), (6, .int r11), (5, .int r9), (0, .ref (a 0)), (2, .int v2_29), (3, .int v3_29)]) C 7 dX6_ringMany_110 rfl (by rw [ex29]; rfl) (by decide) rfl ?_
                refine v_goto C dX6_ringMany_113 (tgt := 29) (by decide) ?_
                refine v_sub [5, 1, 6, 7, 0] rfl ?_
                exact ih M12 x28 v2_29 v3_29 x29  h
        · replace h := h.2 c
          refine v_iload C 0 dX6_ringMany_77 rfl ?_
          refine v_iload C 7 dX6_ringMany_79 rfl ?_
          refine v_icmp_eq C dX6_ringMany_81 (tgt := 103) (by decide) (fun c => ?_) (fun c => ?_)
          · replace h := h.1 c
            refine v_iconst C dX6_ringMany_103 (v := (1 : Int32)) (by decide) ?_
            refine v_goto C dX6_ringMany_104 (tgt := 108) (by decide) ?_
            refine v_iadd C dX6_ringMany_108 ?_
            refine v_nmi (fun x30 ex30 => ?_)
            replace h := h x30 ex30
            refine v_istore_n (lv' := [(1, .int x30), (7, .int r13), (6, .int r11), (5, .int r9), (0, .ref (a 0)), (2, .int v2_29), (3, .int v3_29), (4, .int v4_29)]) C dX6_ringMany_109 rfl (by decide) rfl ?_
            obtain ⟨x31, ex31⟩ : ∃ z : Int32, z = v4_29 + (1 : Int32) := ⟨_, rfl⟩
            replace h := h x31 ex31
            refine v_iinc (v := x31) (lv' := [(4, .int x31), (1, .int x30), (7, .int r13), (6, .int r11), (5, .int r9), (0, .ref (a 0)), (2, .int v2_29), (3, .int v3_29)]) C 7 dX6_ringMany_110 rfl (by rw [ex31]; rfl) (by decide) rfl ?_
            refine v_goto C dX6_ringMany_113 (tgt := 29) (by decide) ?_
            refine v_sub [5, 1, 6, 7, 0] rfl ?_
            exact ih M12 x30 v2_29 v3_29 x31  h
          · replace h := h.2 c
            refine v_iload C 2 dX6_ringMany_84 rfl ?_
            refine v_iload_n C 6 dX6_ringMany_86 rfl rfl ?_
            refine v_icmp_ne C dX6_ringMany_87 (tgt := 107) (by decide) (fun c => ?_) (fun c => ?_)
            · replace h := h.1 c
              refine v_iconst C dX6_ringMany_107 (v := (0 : Int32)) (by decide) ?_
              refine v_iadd C dX6_ringMany_108 ?_
              refine v_nmi (fun x32 ex32 => ?_)
              replace h := h x32 ex32
              refine v_istore_n (lv' := [(1, .int x32), (7, .int r13), (6, .int r11), (5, .int r9), (0, .ref (a 0)), (2, .int v2_29), (3, .int v3_29), (4, .int v4_29)]) C dX6_ringMany_109 rfl (by decide) rfl ?_
              obtain ⟨x33, ex33⟩ : ∃ z : Int32, z = v4_29 + (1 : Int32) := ⟨_, rfl⟩
              replace h := h x33 ex33
              refine v_iinc (v := x33) (lv' := [(4, .int x33), (1, .int x32), (7, .int r13), (6, .int r11), (5, .int r9), (0, .ref (a 0)), (2, .int v2_29), (3, .int v3_29)]) C 7 dX6_ringMany_110 rfl (by rw [ex33]; rfl) (by decide) rfl ?_
              refine v_goto C dX6_ringMany_113 (tgt := 29) (by decide) ?_
              refine v_sub [5, 1, 6, 7, 0] rfl ?_
              exact ih M12 x32 v2_29 v3_29 x33  h
            · replace h := h.2 c
              refine v_iload C 1 dX6_ringMany_90 rfl ?_
              refine v_iload C 7 dX6_ringMany_92 rfl ?_
              refine v_icmp_ne C dX6_ringMany_94 (tgt := 107) (by decide) (fun c => ?_) (fun c => ?_)
              · replace h := h.1 c
                refine v_iconst C dX6_ringMany_107 (v := (0 : Int32)) (by decide) ?_
                refine v_iadd C dX6_ringMany_108 ?_
                refine v_nmi (fun x34 ex34 => ?_)
                replace h := h x34 ex34
                refine v_istore_n (lv' := [(1, .int x34), (7, .int r13), (6, .int r11), (5, .int r9), (0, .ref (a 0)), (2, .int v2_29), (3, .int v3_29), (4, .int v4_29)]) C dX6_ringMany_109 rfl (by decide) rfl ?_
                obtain ⟨x35, ex35⟩ : ∃ z : Int32, z = v4_29 + (1 : Int32) := ⟨_, rfl⟩
                replace h := h x35 ex35
                refine v_iinc (v := x35) (lv' := [(4, .int x35), (1, .int x34), (7, .int r13), (6, .int r11), (5, .int r9), (0, .ref (a 0)), (2, .int v2_29), (3, .int v3_29)]) C 7 dX6_ringMany_110 rfl (by rw [ex35]; rfl) (by decide) rfl ?_
                refine v_goto C dX6_ringMany_113 (tgt := 29) (by decide) ?_
                refine v_sub [5, 1, 6, 7, 0] rfl ?_
                exact ih M12 x34 v2_29 v3_29 x35  h
              · replace h := h.2 c
                refine v_iload C 0 dX6_ringMany_97 rfl ?_
                refine v_iload_n C 5 dX6_ringMany_99 rfl rfl ?_
                refine v_icmp_ne C dX6_ringMany_100 (tgt := 107) (by decide) (fun c => ?_) (fun c => ?_)
                · replace h := h.1 c
                  refine v_iconst C dX6_ringMany_107 (v := (0 : Int32)) (by decide) ?_
                  refine v_iadd C dX6_ringMany_108 ?_
                  refine v_nmi (fun x36 ex36 => ?_)
                  replace h := h x36 ex36
                  refine v_istore_n (lv' := [(1, .int x36), (7, .int r13), (6, .int r11), (5, .int r9), (0, .ref (a 0)), (2, .int v2_29), (3, .int v3_29), (4, .int v4_29)]) C dX6_ringMany_109 rfl (by decide) rfl ?_
                  obtain ⟨x37, ex37⟩ : ∃ z : Int32, z = v4_29 + (1 : Int32) := ⟨_, rfl⟩
                  replace h := h x37 ex37
                  refine v_iinc (v := x37) (lv' := [(4, .int x37), (1, .int x36), (7, .int r13), (6, .int r11), (5, .int r9), (0, .ref (a 0)), (2, .int v2_29), (3, .int v3_29)]) C 7 dX6_ringMany_110 rfl (by rw [ex37]; rfl) (by decide) rfl ?_
                  refine v_goto C dX6_ringMany_113 (tgt := 29) (by decide) ?_
                  refine v_sub [5, 1, 6, 7, 0] rfl ?_
                  exact ih M12 x36 v2_29 v3_29 x37  h
                · replace h := h.2 c
                  refine v_iconst C dX6_ringMany_103 (v := (1 : Int32)) (by decide) ?_
                  refine v_goto C dX6_ringMany_104 (tgt := 108) (by decide) ?_
                  refine v_iadd C dX6_ringMany_108 ?_
                  refine v_nmi (fun x38 ex38 => ?_)
                  replace h := h x38 ex38
                  refine v_istore_n (lv' := [(1, .int x38), (7, .int r13), (6, .int r11), (5, .int r9), (0, .ref (a 0)), (2, .int v2_29), (3, .int v3_29), (4, .int v4_29)]) C dX6_ringMany_109 rfl (by decide) rfl ?_
                  obtain ⟨x39, ex39⟩ : ∃ z : Int32, z = v4_29 + (1 : Int32) := ⟨_, rfl⟩
                  replace h := h x39 ex39
                  refine v_iinc (v := x39) (lv' := [(4, .int x39), (1, .int x38), (7, .int r13), (6, .int r11), (5, .int r9), (0, .ref (a 0)), (2, .int v2_29), (3, .int v3_29)]) C 7 dX6_ringMany_110 rfl (by rw [ex39]; rfl) (by decide) rfl ?_
                  refine v_goto C dX6_ringMany_113 (tgt := 29) (by decide) ?_
                  refine v_sub [5, 1, 6, 7, 0] rfl ?_
                  exact ih M12 x38 v2_29 v3_29 x39  h
def w6_ringMany_b16 (K4 : S0 → Int32 → Int32 → Prop) (Q : Int32 → S0 → Prop) : Nat → S0 → Int32 → Int32 → Int32 → Prop
  | 0, _, _, _, _ => False
  | n + 1, M, v1_16, v2_16, v3_16 =>
    (((M 0 11) ≤ v3_16) → (∀ x4 : Int32, x4 = v2_16 + (1 : Int32) → (K4 M v1_16 x4))) ∧ ((¬ (M 0 11) ≤ v3_16) → (∀ x5 : Int32, x5 = (v3_16 + (1 : Int32)) → (∃ n6, w6_ringMany_b29  K4 (w6_ringMany_b16  K4 Q n) Q n6 M v1_16 v2_16 v3_16 x5)))
set_option maxHeartbeats 4000000 in
set_option maxRecDepth 20000 in
theorem t6_ringMany_b16 {B : BX} {E : EX} {a : Nat → Nat} {K4 : S0 → Int32 → Int32 → Prop} {Q : Int32 → S0 → Prop} (C : Ok B E cX6_ringMany 8 RX6 71 1636) (hR : RetI B E cX6_ringMany 8 (wl 12 a (shM B.2.1 a)) Q) (hK4 : ∀ (M : S0) (v1_4 : Int32) (v2_4 : Int32), K4 M v1_4 v2_4 → V B E 8 (wl 12 a (shM B.2.1 a) M) 4 [(0, .ref (a 0)), (1, .int v1_4), (2, .int v2_4)] []) : ∀ (n : Nat) (M : S0) (v1_16 : Int32) (v2_16 : Int32) (v3_16 : Int32), w6_ringMany_b16  K4 Q n M v1_16 v2_16 v3_16 → V B E 8 (wl 12 a (shM B.2.1 a) M) 16 [(0, .ref (a 0)), (1, .int v1_16), (2, .int v2_16), (3, .int v3_16)] [] := by
  intro n
  induction n with
  | zero =>
    intro M v1_16 v2_16 v3_16  h
    exact h.elim
  | succ n ih =>
    intro M v1_16 v2_16 v3_16  h
    rw [w6_ringMany_b16] at h
    refine v_iload_n C 3 dX6_ringMany_16 rfl rfl ?_
    refine v_aload_n C 0 dX6_ringMany_17 rfl rfl ?_
    refine fX6_6_g_many C dX6_ringMany_18 ?_
    refine v_icmp_ge C dX6_ringMany_21 (tgt := 122) (by decide) (fun c => ?_) (fun c => ?_)
    · replace h := h.1 c
      obtain ⟨x4, ex4⟩ : ∃ z : Int32, z = v2_16 + (1 : Int32) := ⟨_, rfl⟩
      replace h := h x4 ex4
      refine v_iinc (v := x4) (lv' := [(2, .int x4), (0, .ref (a 0)), (1, .int v1_16), (3, .int v3_16)]) C 2 dX6_ringMany_122 rfl (by rw [ex4]; rfl) (by decide) rfl ?_
      refine v_goto C dX6_ringMany_125 (tgt := 4) (by decide) ?_
      refine v_sub [1, 2, 0] rfl ?_
      exact hK4 M v1_16 x4  h
    · replace h := h.2 c
      refine v_iload_n C 3 dX6_ringMany_24 rfl rfl ?_
      refine v_iconst C dX6_ringMany_25 (v := (1 : Int32)) (by decide) ?_
      refine v_iadd C dX6_ringMany_26 ?_
      refine v_nmi (fun x5 ex5 => ?_)
      replace h := h x5 ex5
      refine v_istore (lv' := [(4, .int x5), (0, .ref (a 0)), (1, .int v1_16), (2, .int v2_16), (3, .int v3_16)]) C dX6_ringMany_27 (by decide) rfl ?_
      obtain ⟨n6, h⟩ := h
      refine v_sub [1, 2, 3, 4, 0] rfl ?_
      exact t6_ringMany_b29   C hR hK4 ih n6 M v1_16 v2_16 v3_16 x5  h
def w6_ringMany_b4 (Q : Int32 → S0 → Prop) : Nat → S0 → Int32 → Int32 → Prop
  | 0, _, _, _ => False
  | n + 1, M, v1_4, v2_4 =>
    (((M 0 11) ≤ v2_4) → (Q v1_4 M)) ∧ ((¬ (M 0 11) ≤ v2_4) → (∀ x2 : Int32, x2 = (v2_4 + (1 : Int32)) → (∃ n3, w6_ringMany_b16  (w6_ringMany_b4   Q n) Q n3 M v1_4 v2_4 x2)))
set_option maxHeartbeats 4000000 in
set_option maxRecDepth 20000 in
theorem t6_ringMany_b4 {B : BX} {E : EX} {a : Nat → Nat} {Q : Int32 → S0 → Prop} (C : Ok B E cX6_ringMany 8 RX6 71 1636) (hR : RetI B E cX6_ringMany 8 (wl 12 a (shM B.2.1 a)) Q) : ∀ (n : Nat) (M : S0) (v1_4 : Int32) (v2_4 : Int32), w6_ringMany_b4   Q n M v1_4 v2_4 → V B E 8 (wl 12 a (shM B.2.1 a) M) 4 [(0, .ref (a 0)), (1, .int v1_4), (2, .int v2_4)] [] := by
  intro n
  induction n with
  | zero =>
    intro M v1_4 v2_4  h
    exact h.elim
  | succ n ih =>
    intro M v1_4 v2_4  h
    rw [w6_ringMany_b4] at h
    refine v_iload_n C 2 dX6_ringMany_4 rfl rfl ?_
    refine v_aload_n C 0 dX6_ringMany_5 rfl rfl ?_
    refine fX6_6_g_many C dX6_ringMany_6 ?_
    refine v_icmp_ge C dX6_ringMany_9 (tgt := 128) (by decide) (fun c => ?_) (fun c => ?_)
    · replace h := h.1 c
      refine v_iload_n C 1 dX6_ringMany_128 rfl rfl ?_
      exact hR _ _ _ _ h dX6_ringMany_129
    · replace h := h.2 c
      refine v_iload_n C 2 dX6_ringMany_12 rfl rfl ?_
      refine v_iconst C dX6_ringMany_13 (v := (1 : Int32)) (by decide) ?_
      refine v_iadd C dX6_ringMany_14 ?_
      refine v_nmi (fun x2 ex2 => ?_)
      replace h := h x2 ex2
      refine v_istore_n (lv' := [(3, .int x2), (0, .ref (a 0)), (1, .int v1_4), (2, .int v2_4)]) C dX6_ringMany_15 rfl (by decide) rfl ?_
      obtain ⟨n3, h⟩ := h
      refine v_sub [1, 2, 3, 0] rfl ?_
      exact t6_ringMany_b16   C hR ih n3 M v1_4 v2_4 x2  h
def w6_ringMany (M : S0) (Q : Int32 → S0 → Prop) : Prop :=
    ∃ n1, w6_ringMany_b4   Q n1 M (0 : Int32) (0 : Int32)
set_option maxHeartbeats 4000000 in
set_option maxRecDepth 20000 in
theorem c6_ringMany {B : BX} {a : Nat → Nat} {M : S0} {Q : Int32 → S0 → Prop} (h : w6_ringMany  M  Q) : KI B (wl 12 a (shM B.2.1 a)) yX6_ringMany cX6_ringMany 8 (some .int) 71 1636 [.ref (a 0)] M Q := by
  rw [w6_ringMany] at h
  refine KI_of (by decide +kernel) (Nat.le_of_ble_eq_true rfl) (fun E C hR => ?_)
  change V B E 8 (wl 12 a (shM B.2.1 a) M) 0 [(0, .ref (a 0))] []
  change Ok B E cX6_ringMany 8 RX6 71 1636 at C
  refine v_iconst C dX6_ringMany_0 (v := (0 : Int32)) (by decide) ?_
  refine v_istore_n (lv' := [(1, .int (0 : Int32)), (0, .ref (a 0))]) C dX6_ringMany_1 rfl (by decide) rfl ?_
  refine v_iconst C dX6_ringMany_2 (v := (0 : Int32)) (by decide) ?_
  refine v_istore_n (lv' := [(2, .int (0 : Int32)), (1, .int (0 : Int32)), (0, .ref (a 0))]) C dX6_ringMany_3 rfl (by decide) rfl ?_
  obtain ⟨n1, h⟩ := h
  refine v_sub [2, 1, 0] rfl ?_
  exact t6_ringMany_b4   C hR  n1 M (0 : Int32) (0 : Int32)  h
def w6_robin (M : S0) (p1 : Int32) (Q : Int32 → S0 → Prop) : Prop :=
    w6_in M (Int32.toInt64 p1) (0 : Int64) (8 : Int64) (fun r2 M1 => ((r2 = 0) → (Q (-2 : Int32) M1)) ∧ ((¬ r2 = 0) → ((((6 : Int32) ≤ p1) → (((p1 ≤ (6 : Int32)) → (w6_laysAside M1 (fun M3 => w6_robins M3 (-1 : Int32) (fun M4 => ((¬ p1 = (6 : Int32)) → (w6_has M4 p1 (fun r6 M5 => w6_laysBack M5 (fun M7 => Q r6 M7)))) ∧ ((p1 = (6 : Int32)) → (∀ x8 : Int32, x8 = (M4 0 8) → (w6_laysBack M4 (fun M9 => Q x8 M9)))))))) ∧ ((¬ p1 ≤ (6 : Int32)) → (((¬ p1 = (7 : Int32)) → (w6_ringMany M1 (fun r11 M10 => Q r11 M10))) ∧ ((p1 = (7 : Int32)) → (w6_apart M1 (fun r13 M12 => Q r13 M12))))))) ∧ ((¬ (6 : Int32) ≤ p1) → (w6_isOne M1 p1 (fun r15 M14 => ((¬ r15 = 0) → (((p1 ≤ (6 : Int32)) → (w6_laysAside M14 (fun M16 => w6_robins M16 (-1 : Int32) (fun M17 => ((¬ p1 = (6 : Int32)) → (w6_has M17 p1 (fun r19 M18 => w6_laysBack M18 (fun M20 => Q r19 M20)))) ∧ ((p1 = (6 : Int32)) → (∀ x21 : Int32, x21 = (M17 0 8) → (w6_laysBack M17 (fun M22 => Q x21 M22)))))))) ∧ ((¬ p1 ≤ (6 : Int32)) → (((¬ p1 = (7 : Int32)) → (w6_ringMany M14 (fun r24 M23 => Q r24 M23))) ∧ ((p1 = (7 : Int32)) → (w6_apart M14 (fun r26 M25 => Q r26 M25))))))) ∧ ((r15 = 0) → (Q (-2 : Int32) M14))))))))
set_option maxHeartbeats 4000000 in
set_option maxRecDepth 20000 in
theorem c6_robin {B : BX} {a : Nat → Nat} {M : S0} {p1 : Int32} {Q : Int32 → S0 → Prop} (h : w6_robin  M p1 Q) : KI B (wl 12 a (shM B.2.1 a)) yX6_robin cX6_robin 3 (some .int) 75 1733 [.ref (a 0), .int p1] M Q := by
  rw [w6_robin] at h
  refine KI_of (by decide +kernel) (Nat.le_of_ble_eq_true rfl) (fun E C hR => ?_)
  change V B E 3 (wl 12 a (shM B.2.1 a) M) 0 [(0, .ref (a 0)), (1, .int p1)] []
  change Ok B E cX6_robin 3 RX6 75 1733 at C
  refine v_iload_n C 1 dX6_robin_0 rfl rfl ?_
  refine v_i2l C dX6_robin_1 ?_
  refine v_lconst C dX6_robin_2 (v := (0 : Int64)) (by decide) ?_
  refine v_ldc2 C (v := (8 : Int64)) (gdm 1119 (by decide +kernel) (by decide +kernel)) dX6_robin_3 ?_
  refine v_callSi (As := [.long (Int32.toInt64 p1), .long (0 : Int64), .long (8 : Int64)]) (rest := []) C (c6_in  h) eX6_64 (by omega) (by omega) rfl rfl (Nat.le_of_ble_eq_true rfl) dX6_robin_6 (fun r2 M1 h => ?_)
  refine v_if_eq C dX6_robin_9 (tgt := 26) (by decide) (fun c => ?_) (fun c => ?_)
  · replace h := h.1 c
    refine v_bipush C dX6_robin_26 (v := (-2 : Int32)) (by decide) ?_
    exact hR _ _ _ _ h dX6_robin_28
  · replace h := h.2 c
    refine v_iload_n C 1 dX6_robin_12 rfl rfl ?_
    refine v_bipush C dX6_robin_13 (v := (6 : Int32)) (by decide) ?_
    refine v_icmp_ge C dX6_robin_15 (tgt := 29) (by decide) (fun c => ?_) (fun c => ?_)
    · replace h := h.1 c
      refine v_iload_n C 1 dX6_robin_29 rfl rfl ?_
      refine v_bipush C dX6_robin_30 (v := (6 : Int32)) (by decide) ?_
      refine v_icmp_le C dX6_robin_32 (tgt := 53) (by decide) (fun c => ?_) (fun c => ?_)
      · replace h := h.1 c
        refine v_aload_n C 0 dX6_robin_53 rfl rfl ?_
        refine v_callVv (k := 0) (As := []) (rest := []) C (c6_laysAside  h) eX6_275 (by omega) (by omega) (by decide) rfl rfl rfl rfl (Nat.le_of_ble_eq_true rfl) dX6_robin_54 (fun M3 h => ?_)
        refine v_aload_n C 0 dX6_robin_57 rfl rfl ?_
        refine v_iconst C dX6_robin_58 (v := (-1 : Int32)) (by decide) ?_
        refine v_callVv (k := 0) (As := [.int (-1 : Int32)]) (rest := []) C (c6_robins  h) eX6_300 (by omega) (by omega) (by decide) rfl rfl rfl rfl (Nat.le_of_ble_eq_true rfl) dX6_robin_59 (fun M4 h => ?_)
        refine v_iload_n C 1 dX6_robin_62 rfl rfl ?_
        refine v_bipush C dX6_robin_63 (v := (6 : Int32)) (by decide) ?_
        refine v_icmp_ne C dX6_robin_65 (tgt := 75) (by decide) (fun c => ?_) (fun c => ?_)
        · replace h := h.1 c
          refine v_aload_n C 0 dX6_robin_75 rfl rfl ?_
          refine v_iload_n C 1 dX6_robin_76 rfl rfl ?_
          refine v_callVi (k := 0) (As := [.int p1]) (rest := []) C (c6_has  h) eX6_112 (by omega) (by omega) (by decide) rfl rfl rfl rfl (Nat.le_of_ble_eq_true rfl) dX6_robin_77 (fun r6 M5 h => ?_)
          refine v_istore_n (lv' := [(2, .int r6), (0, .ref (a 0)), (1, .int p1)]) C dX6_robin_80 rfl (by decide) rfl ?_
          refine v_aload_n C 1 dX6_robin_81 rfl rfl ?_
          refine v_callVv (k := 0) (As := []) (rest := []) C (c6_laysBack  h) eX6_281 (by omega) (by omega) (by decide) rfl rfl rfl rfl (Nat.le_of_ble_eq_true rfl) dX6_robin_82 (fun M7 h => ?_)
          refine v_iload_n C 0 dX6_robin_85 rfl rfl ?_
          exact hR _ _ _ _ h dX6_robin_86
        · replace h := h.2 c
          refine v_aload_n C 0 dX6_robin_68 rfl rfl ?_
          refine fX6_6_g_hall C dX6_robin_69 ?_
          refine v_goto C dX6_robin_72 (tgt := 80) (by decide) ?_
          refine v_nmi (fun x8 ex8 => ?_)
          replace h := h x8 ex8
          refine v_istore_n (lv' := [(2, .int x8), (0, .ref (a 0)), (1, .int p1)]) C dX6_robin_80 rfl (by decide) rfl ?_
          refine v_aload_n C 1 dX6_robin_81 rfl rfl ?_
          refine v_callVv (k := 0) (As := []) (rest := []) C (c6_laysBack  h) eX6_281 (by omega) (by omega) (by decide) rfl rfl rfl rfl (Nat.le_of_ble_eq_true rfl) dX6_robin_82 (fun M9 h => ?_)
          refine v_iload_n C 0 dX6_robin_85 rfl rfl ?_
          exact hR _ _ _ _ h dX6_robin_86
      · replace h := h.2 c
        refine v_iload_n C 1 dX6_robin_35 rfl rfl ?_
        refine v_bipush C dX6_robin_36 (v := (7 : Int32)) (by decide) ?_
        refine v_icmp_ne C dX6_robin_38 (tgt := 48) (by decide) (fun c => ?_) (fun c => ?_)
        · replace h := h.1 c
          refine v_aload_n C 0 dX6_robin_48 rfl rfl ?_
          refine v_callVi (k := 0) (As := []) (rest := []) C (c6_ringMany  h) eX6_310 (by omega) (by omega) (by decide) rfl rfl rfl rfl (Nat.le_of_ble_eq_true rfl) dX6_robin_49 (fun r11 M10 h => ?_)
          exact hR _ _ _ _ h dX6_robin_52
        · replace h := h.2 c
          refine v_aload_n C 0 dX6_robin_41 rfl rfl ?_
          refine v_callVi (k := 0) (As := []) (rest := []) C (c6_apart  h) eX6_307 (by omega) (by omega) (by decide) rfl rfl rfl rfl (Nat.le_of_ble_eq_true rfl) dX6_robin_42 (fun r13 M12 h => ?_)
          refine v_goto C dX6_robin_45 (tgt := 52) (by decide) ?_
          exact hR _ _ _ _ h dX6_robin_52
    · replace h := h.2 c
      refine v_aload_n C 0 dX6_robin_18 rfl rfl ?_
      refine v_iload_n C 1 dX6_robin_19 rfl rfl ?_
      refine v_callVi (k := 0) (As := [.int p1]) (rest := []) C (c6_isOne  h) eX6_68 (by omega) (by omega) (by decide) rfl rfl rfl rfl (Nat.le_of_ble_eq_true rfl) dX6_robin_20 (fun r15 M14 h => ?_)
      refine v_if_ne C dX6_robin_23 (tgt := 29) (by decide) (fun c => ?_) (fun c => ?_)
      · replace h := h.1 c
        refine v_iload_n C 1 dX6_robin_29 rfl rfl ?_
        refine v_bipush C dX6_robin_30 (v := (6 : Int32)) (by decide) ?_
        refine v_icmp_le C dX6_robin_32 (tgt := 53) (by decide) (fun c => ?_) (fun c => ?_)
        · replace h := h.1 c
          refine v_aload_n C 0 dX6_robin_53 rfl rfl ?_
          refine v_callVv (k := 0) (As := []) (rest := []) C (c6_laysAside  h) eX6_275 (by omega) (by omega) (by decide) rfl rfl rfl rfl (Nat.le_of_ble_eq_true rfl) dX6_robin_54 (fun M16 h => ?_)
          refine v_aload_n C 0 dX6_robin_57 rfl rfl ?_
          refine v_iconst C dX6_robin_58 (v := (-1 : Int32)) (by decide) ?_
          refine v_callVv (k := 0) (As := [.int (-1 : Int32)]) (rest := []) C (c6_robins  h) eX6_300 (by omega) (by omega) (by decide) rfl rfl rfl rfl (Nat.le_of_ble_eq_true rfl) dX6_robin_59 (fun M17 h => ?_)
          refine v_iload_n C 1 dX6_robin_62 rfl rfl ?_
          refine v_bipush C dX6_robin_63 (v := (6 : Int32)) (by decide) ?_
          refine v_icmp_ne C dX6_robin_65 (tgt := 75) (by decide) (fun c => ?_) (fun c => ?_)
          · replace h := h.1 c
            refine v_aload_n C 0 dX6_robin_75 rfl rfl ?_
            refine v_iload_n C 1 dX6_robin_76 rfl rfl ?_
            refine v_callVi (k := 0) (As := [.int p1]) (rest := []) C (c6_has  h) eX6_112 (by omega) (by omega) (by decide) rfl rfl rfl rfl (Nat.le_of_ble_eq_true rfl) dX6_robin_77 (fun r19 M18 h => ?_)
            refine v_istore_n (lv' := [(2, .int r19), (0, .ref (a 0)), (1, .int p1)]) C dX6_robin_80 rfl (by decide) rfl ?_
            refine v_aload_n C 1 dX6_robin_81 rfl rfl ?_
            refine v_callVv (k := 0) (As := []) (rest := []) C (c6_laysBack  h) eX6_281 (by omega) (by omega) (by decide) rfl rfl rfl rfl (Nat.le_of_ble_eq_true rfl) dX6_robin_82 (fun M20 h => ?_)
            refine v_iload_n C 0 dX6_robin_85 rfl rfl ?_
            exact hR _ _ _ _ h dX6_robin_86
          · replace h := h.2 c
            refine v_aload_n C 0 dX6_robin_68 rfl rfl ?_
            refine fX6_6_g_hall C dX6_robin_69 ?_
            refine v_goto C dX6_robin_72 (tgt := 80) (by decide) ?_
            refine v_nmi (fun x21 ex21 => ?_)
            replace h := h x21 ex21
            refine v_istore_n (lv' := [(2, .int x21), (0, .ref (a 0)), (1, .int p1)]) C dX6_robin_80 rfl (by decide) rfl ?_
            refine v_aload_n C 1 dX6_robin_81 rfl rfl ?_
            refine v_callVv (k := 0) (As := []) (rest := []) C (c6_laysBack  h) eX6_281 (by omega) (by omega) (by decide) rfl rfl rfl rfl (Nat.le_of_ble_eq_true rfl) dX6_robin_82 (fun M22 h => ?_)
            refine v_iload_n C 0 dX6_robin_85 rfl rfl ?_
            exact hR _ _ _ _ h dX6_robin_86
        · replace h := h.2 c
          refine v_iload_n C 1 dX6_robin_35 rfl rfl ?_
          refine v_bipush C dX6_robin_36 (v := (7 : Int32)) (by decide) ?_
          refine v_icmp_ne C dX6_robin_38 (tgt := 48) (by decide) (fun c => ?_) (fun c => ?_)
          · replace h := h.1 c
            refine v_aload_n C 0 dX6_robin_48 rfl rfl ?_
            refine v_callVi (k := 0) (As := []) (rest := []) C (c6_ringMany  h) eX6_310 (by omega) (by omega) (by decide) rfl rfl rfl rfl (Nat.le_of_ble_eq_true rfl) dX6_robin_49 (fun r24 M23 h => ?_)
            exact hR _ _ _ _ h dX6_robin_52
          · replace h := h.2 c
            refine v_aload_n C 0 dX6_robin_41 rfl rfl ?_
            refine v_callVi (k := 0) (As := []) (rest := []) C (c6_apart  h) eX6_307 (by omega) (by omega) (by decide) rfl rfl rfl rfl (Nat.le_of_ble_eq_true rfl) dX6_robin_42 (fun r26 M25 h => ?_)
            refine v_goto C dX6_robin_45 (tgt := 52) (by decide) ?_
            exact hR _ _ _ _ h dX6_robin_52
      · replace h := h.2 c
        refine v_bipush C dX6_robin_26 (v := (-2 : Int32)) (by decide) ?_
        exact hR _ _ _ _ h dX6_robin_28
def w6_best_b29 (Q : Int32 → S0 → Prop) : Nat → S0 → Int32 → Int32 → Int32 → Int32 → Int32 → Prop
  | 0, _, _, _, _, _, _ => False
  | n + 1, M, v1_29, v2_29, v3_29, v4_29, v5_29 =>
    (((M 0 11) ≤ v5_29) → (((¬ v2_29 = 0) → (Q v4_29 M)) ∧ ((v2_29 = 0) → (Q v3_29 M)))) ∧ ((¬ (M 0 11) ≤ v5_29) → (((¬ v5_29 = v1_29) → (w6_hasBehind M v1_29 v5_29 (fun r7 M6 => ((r7 ≤ v4_29) → (∀ x8 : Int32, x8 = v5_29 + (1 : Int32) → (w6_best_b29   Q n M6 v1_29 v2_29 v3_29 v4_29 x8))) ∧ ((¬ r7 ≤ v4_29) → (∀ x9 : Int32, x9 = v5_29 + (1 : Int32) → (w6_best_b29   Q n M6 v1_29 v2_29 v5_29 r7 x9)))))) ∧ ((v5_29 = v1_29) → ((((-1 : Int32) ≤ v4_29) → (∀ x10 : Int32, x10 = v5_29 + (1 : Int32) → (w6_best_b29   Q n M v1_29 v2_29 v3_29 v4_29 x10))) ∧ ((¬ (-1 : Int32) ≤ v4_29) → (∀ x11 : Int32, x11 = v5_29 + (1 : Int32) → (w6_best_b29   Q n M v1_29 v2_29 v5_29 (-1 : Int32) x11)))))))
set_option maxHeartbeats 4000000 in
set_option maxRecDepth 20000 in
theorem t6_best_b29 {B : BX} {E : EX} {a : Nat → Nat} {Q : Int32 → S0 → Prop} (C : Ok B E cX6_best 7 RX6 73 1686) (hR : RetI B E cX6_best 7 (wl 12 a (shM B.2.1 a)) Q) : ∀ (n : Nat) (M : S0) (v1_29 : Int32) (v2_29 : Int32) (v3_29 : Int32) (v4_29 : Int32) (v5_29 : Int32), w6_best_b29   Q n M v1_29 v2_29 v3_29 v4_29 v5_29 → V B E 7 (wl 12 a (shM B.2.1 a) M) 29 [(0, .ref (a 0)), (1, .int v1_29), (2, .int v2_29), (3, .int v3_29), (4, .int v4_29), (5, .int v5_29)] [] := by
  intro n
  induction n with
  | zero =>
    intro M v1_29 v2_29 v3_29 v4_29 v5_29  h
    exact h.elim
  | succ n ih =>
    intro M v1_29 v2_29 v3_29 v4_29 v5_29  h
    rw [w6_best_b29] at h
    refine v_iload C 5 dX6_best_29 rfl ?_
    refine v_aload_n C 0 dX6_best_31 rfl rfl ?_
    refine fX6_6_g_many C dX6_best_32 ?_
    refine v_icmp_ge C dX6_best_35 (tgt := 77) (by decide) (fun c => ?_) (fun c => ?_)
    · replace h := h.1 c
      refine v_iload_n C 2 dX6_best_77 rfl rfl ?_
      refine v_if_ne C dX6_best_78 (tgt := 85) (by decide) (fun c => ?_) (fun c => ?_)
      · replace h := h.1 c
        refine v_iload C 4 dX6_best_85 rfl ?_
        exact hR _ _ _ _ h dX6_best_87
      · replace h := h.2 c
        refine v_iload_n C 3 dX6_best_81 rfl rfl ?_
        refine v_goto C dX6_best_82 (tgt := 87) (by decide) ?_
        exact hR _ _ _ _ h dX6_best_87
    · replace h := h.2 c
      refine v_iload C 5 dX6_best_38 rfl ?_
      refine v_iload_n C 1 dX6_best_40 rfl rfl ?_
      refine v_icmp_ne C dX6_best_41 (tgt := 48) (by decide) (fun c => ?_) (fun c => ?_)
      · replace h := h.1 c
        refine v_aload_n C 0 dX6_best_48 rfl rfl ?_
        refine v_iload_n C 1 dX6_best_49 rfl rfl ?_
        refine v_iload C 5 dX6_best_50 rfl ?_
        refine v_callVi (k := 0) (As := [.int v1_29, .int v5_29]) (rest := []) C (c6_hasBehind  h) eX6_272 (by omega) (by omega) (by decide) rfl rfl rfl rfl (Nat.le_of_ble_eq_true rfl) dX6_best_52 (fun r7 M6 h => ?_)
        refine v_istore (lv' := [(6, .int r7), (0, .ref (a 0)), (1, .int v1_29), (2, .int v2_29), (3, .int v3_29), (4, .int v4_29), (5, .int v5_29)]) C dX6_best_55 (by decide) rfl ?_
        refine v_iload C 0 dX6_best_57 rfl ?_
        refine v_iload C 5 dX6_best_59 rfl ?_
        refine v_icmp_le C dX6_best_61 (tgt := 71) (by decide) (fun c => ?_) (fun c => ?_)
        · replace h := h.1 c
          obtain ⟨x8, ex8⟩ : ∃ z : Int32, z = v5_29 + (1 : Int32) := ⟨_, rfl⟩
          replace h := h x8 ex8
          refine v_iinc (v := x8) (lv' := [(5, .int x8), (6, .int r7), (0, .ref (a 0)), (1, .int v1_29), (2, .int v2_29), (3, .int v3_29), (4, .int v4_29)]) C 6 dX6_best_71 rfl (by rw [ex8]; rfl) (by decide) rfl ?_
          refine v_goto C dX6_best_74 (tgt := 29) (by decide) ?_
          refine v_sub [2, 3, 4, 5, 6, 0] rfl ?_
          exact ih M6 v1_29 v2_29 v3_29 v4_29 x8  h
        · replace h := h.2 c
          refine v_iload C 6 dX6_best_64 rfl ?_
          refine v_istore_n (lv' := [(3, .int v5_29), (6, .int r7), (0, .ref (a 0)), (1, .int v1_29), (2, .int v2_29), (4, .int v4_29), (5, .int v5_29)]) C dX6_best_66 rfl (by decide) rfl ?_
          refine v_iload C 1 dX6_best_67 rfl ?_
          refine v_istore (lv' := [(4, .int r7), (3, .int v5_29), (6, .int r7), (0, .ref (a 0)), (1, .int v1_29), (2, .int v2_29), (5, .int v5_29)]) C dX6_best_69 (by decide) rfl ?_
          obtain ⟨x9, ex9⟩ : ∃ z : Int32, z = v5_29 + (1 : Int32) := ⟨_, rfl⟩
          replace h := h x9 ex9
          refine v_iinc (v := x9) (lv' := [(5, .int x9), (4, .int r7), (3, .int v5_29), (6, .int r7), (0, .ref (a 0)), (1, .int v1_29), (2, .int v2_29)]) C 6 dX6_best_71 rfl (by rw [ex9]; rfl) (by decide) rfl ?_
          refine v_goto C dX6_best_74 (tgt := 29) (by decide) ?_
          refine v_sub [4, 5, 6, 2, 1, 0] rfl ?_
          exact ih M6 v1_29 v2_29 v5_29 r7 x9  h
      · replace h := h.2 c
        refine v_iconst C dX6_best_44 (v := (-1 : Int32)) (by decide) ?_
        refine v_goto C dX6_best_45 (tgt := 55) (by decide) ?_
        refine v_istore (lv' := [(6, .int (-1 : Int32)), (0, .ref (a 0)), (1, .int v1_29), (2, .int v2_29), (3, .int v3_29), (4, .int v4_29), (5, .int v5_29)]) C dX6_best_55 (by decide) rfl ?_
        refine v_iload C 0 dX6_best_57 rfl ?_
        refine v_iload C 5 dX6_best_59 rfl ?_
        refine v_icmp_le C dX6_best_61 (tgt := 71) (by decide) (fun c => ?_) (fun c => ?_)
        · replace h := h.1 c
          obtain ⟨x10, ex10⟩ : ∃ z : Int32, z = v5_29 + (1 : Int32) := ⟨_, rfl⟩
          replace h := h x10 ex10
          refine v_iinc (v := x10) (lv' := [(5, .int x10), (6, .int (-1 : Int32)), (0, .ref (a 0)), (1, .int v1_29), (2, .int v2_29), (3, .int v3_29), (4, .int v4_29)]) C 6 dX6_best_71 rfl (by rw [ex10]; rfl) (by decide) rfl ?_
          refine v_goto C dX6_best_74 (tgt := 29) (by decide) ?_
          refine v_sub [2, 3, 4, 5, 6, 0] rfl ?_
          exact ih M v1_29 v2_29 v3_29 v4_29 x10  h
        · replace h := h.2 c
          refine v_iload C 6 dX6_best_64 rfl ?_
          refine v_istore_n (lv' := [(3, .int v5_29), (6, .int (-1 : Int32)), (0, .ref (a 0)), (1, .int v1_29), (2, .int v2_29), (4, .int v4_29), (5, .int v5_29)]) C dX6_best_66 rfl (by decide) rfl ?_
          refine v_iload C 1 dX6_best_67 rfl ?_
          refine v_istore (lv' := [(4, .int (-1 : Int32)), (3, .int v5_29), (6, .int (-1 : Int32)), (0, .ref (a 0)), (1, .int v1_29), (2, .int v2_29), (5, .int v5_29)]) C dX6_best_69 (by decide) rfl ?_
          obtain ⟨x11, ex11⟩ : ∃ z : Int32, z = v5_29 + (1 : Int32) := ⟨_, rfl⟩
          replace h := h x11 ex11
          refine v_iinc (v := x11) (lv' := [(5, .int x11), (4, .int (-1 : Int32)), (3, .int v5_29), (6, .int (-1 : Int32)), (0, .ref (a 0)), (1, .int v1_29), (2, .int v2_29)]) C 6 dX6_best_71 rfl (by rw [ex11]; rfl) (by decide) rfl ?_
          refine v_goto C dX6_best_74 (tgt := 29) (by decide) ?_
          refine v_sub [4, 5, 6, 2, 1, 0] rfl ?_
          exact ih M v1_29 v2_29 v5_29 (-1 : Int32) x11  h
def w6_best (M : S0) (p1 : Int32) (p2 : Int32) (Q : Int32 → S0 → Prop) : Prop :=
    w6_isOne M p1 (fun r2 M1 => ((r2 = 0) → (Q (-2 : Int32) M1)) ∧ ((¬ r2 = 0) → (w6_in M1 (Int32.toInt64 p2) (0 : Int64) (1 : Int64) (fun r4 M3 => ((¬ r4 = 0) → (∃ n5, w6_best_b29   Q n5 M3 p1 p2 (-1 : Int32) (-1 : Int32) (0 : Int32))) ∧ ((r4 = 0) → (Q (-2 : Int32) M3))))))
set_option maxHeartbeats 4000000 in
set_option maxRecDepth 20000 in
theorem c6_best {B : BX} {a : Nat → Nat} {M : S0} {p1 : Int32} {p2 : Int32} {Q : Int32 → S0 → Prop} (h : w6_best  M p1 p2 Q) : KI B (wl 12 a (shM B.2.1 a)) yX6_best cX6_best 7 (some .int) 73 1686 [.ref (a 0), .int p1, .int p2] M Q := by
  rw [w6_best] at h
  refine KI_of (by decide +kernel) (Nat.le_of_ble_eq_true rfl) (fun E C hR => ?_)
  change V B E 7 (wl 12 a (shM B.2.1 a) M) 0 [(0, .ref (a 0)), (1, .int p1), (2, .int p2)] []
  change Ok B E cX6_best 7 RX6 73 1686 at C
  refine v_aload_n C 0 dX6_best_0 rfl rfl ?_
  refine v_iload_n C 1 dX6_best_1 rfl rfl ?_
  refine v_callVi (k := 0) (As := [.int p1]) (rest := []) C (c6_isOne  h) eX6_68 (by omega) (by omega) (by decide) rfl rfl rfl rfl (Nat.le_of_ble_eq_true rfl) dX6_best_2 (fun r2 M1 h => ?_)
  refine v_if_eq C dX6_best_5 (tgt := 18) (by decide) (fun c => ?_) (fun c => ?_)
  · replace h := h.1 c
    refine v_bipush C dX6_best_18 (v := (-2 : Int32)) (by decide) ?_
    exact hR _ _ _ _ h dX6_best_20
  · replace h := h.2 c
    refine v_iload_n C 2 dX6_best_8 rfl rfl ?_
    refine v_i2l C dX6_best_9 ?_
    refine v_lconst C dX6_best_10 (v := (0 : Int64)) (by decide) ?_
    refine v_lconst C dX6_best_11 (v := (1 : Int64)) (by decide) ?_
    refine v_callSi (As := [.long (Int32.toInt64 p2), .long (0 : Int64), .long (1 : Int64)]) (rest := []) C (c6_in  h) eX6_64 (by omega) (by omega) rfl rfl (Nat.le_of_ble_eq_true rfl) dX6_best_12 (fun r4 M3 h => ?_)
    refine v_if_ne C dX6_best_15 (tgt := 21) (by decide) (fun c => ?_) (fun c => ?_)
    · replace h := h.1 c
      refine v_iconst C dX6_best_21 (v := (-1 : Int32)) (by decide) ?_
      refine v_istore_n (lv' := [(3, .int (-1 : Int32)), (0, .ref (a 0)), (1, .int p1), (2, .int p2)]) C dX6_best_22 rfl (by decide) rfl ?_
      refine v_iconst C dX6_best_23 (v := (-1 : Int32)) (by decide) ?_
      refine v_istore (lv' := [(4, .int (-1 : Int32)), (3, .int (-1 : Int32)), (0, .ref (a 0)), (1, .int p1), (2, .int p2)]) C dX6_best_24 (by decide) rfl ?_
      refine v_iconst C dX6_best_26 (v := (0 : Int32)) (by decide) ?_
      refine v_istore (lv' := [(5, .int (0 : Int32)), (4, .int (-1 : Int32)), (3, .int (-1 : Int32)), (0, .ref (a 0)), (1, .int p1), (2, .int p2)]) C dX6_best_27 (by decide) rfl ?_
      obtain ⟨n5, h⟩ := h
      refine v_sub [3, 4, 5, 2, 1, 0] rfl ?_
      exact t6_best_b29   C hR  n5 M3 p1 p2 (-1 : Int32) (-1 : Int32) (0 : Int32)  h
    · replace h := h.2 c
      refine v_bipush C dX6_best_18 (v := (-2 : Int32)) (by decide) ?_
      exact hR _ _ _ _ h dX6_best_20
def w6_orders_b43 (Rc : Nat → S0 → Int32 → Int32 → Int32 → (S0 → Prop) → Prop) (Q : S0 → Prop) : Nat → S0 → Int32 → Int32 → Int32 → Int32 → Prop
  | 0, _, _, _, _, _ => False
  | n + 1, M, v1_43, v2_43, v3_43, v4_43 =>
    (((M 0 11) ≤ v4_43) → (Q M)) ∧ ((¬ (M 0 11) ≤ v4_43) → (((¬ ((v2_43 >>> (v4_43 &&& 31)) &&& (1 : Int32)) = (1 : Int32)) → (∀ x8 : Int32, x8 = v4_43 + (1 : Int32) → (w6_orders_b43 Rc  Q n M v1_43 v2_43 v3_43 x8))) ∧ ((((v2_43 >>> (v4_43 &&& 31)) &&& (1 : Int32)) = (1 : Int32)) → (w6_laysAside M (fun M9 => w6_games M9 v1_43 v4_43 (fun r11 M10 => Rc 0 M10 v1_43 (v2_43 &&& (((1 : Int32) <<< (v4_43 &&& 31)) ^^^ (-1 : Int32))) ((((10 : Int32) * v3_43) + v4_43) + (1 : Int32)) (fun M12 => w6_laysBack M12 (fun M13 => ∀ x14 : Int32, x14 = v4_43 + (1 : Int32) → (w6_orders_b43 Rc  Q n M13 v1_43 v2_43 v3_43 x14)))))))))
set_option maxHeartbeats 4000000 in
set_option maxRecDepth 20000 in
theorem t6_orders_b43 {B : BX} {E : EX} {a : Nat → Nat} {Rc : Nat → S0 → Int32 → Int32 → Int32 → (S0 → Prop) → Prop} {frr loo : Nat} {Q : S0 → Prop} (hRc0 : ∀ (M : S0) (p1 : Int32) (p2 : Int32) (p3 : Int32) (Q : S0 → Prop), Rc 0  M p1 p2 p3 Q → KV B (wl 12 a (shM B.2.1 a)) yX6_orders cX6_orders 5 none frr loo [.ref (a 0), .int p1, .int p2, .int p3] M Q) (hfb : 72 ≤ frr) (hlb : 1663 ≤ loo) (C : Ok B E cX6_orders 5 RX6 (frr + 1) (loo + 24)) (hR : RetV B E cX6_orders 5 (wl 12 a (shM B.2.1 a)) Q) : ∀ (n : Nat) (M : S0) (v1_43 : Int32) (v2_43 : Int32) (v3_43 : Int32) (v4_43 : Int32), w6_orders_b43 Rc  Q n M v1_43 v2_43 v3_43 v4_43 → V B E 5 (wl 12 a (shM B.2.1 a) M) 43 [(0, .ref (a 0)), (1, .int v1_43), (2, .int v2_43), (3, .int v3_43), (4, .int v4_43)] [] := by
  intro n
  induction n with
  | zero =>
    intro M v1_43 v2_43 v3_43 v4_43  h
    exact h.elim
  | succ n ih =>
    intro M v1_43 v2_43 v3_43 v4_43  h
    rw [w6_orders_b43] at h
    refine v_iload C 4 dX6_orders_43 rfl ?_
    refine v_aload_n C 0 dX6_orders_45 rfl rfl ?_
    refine fX6_6_g_many C dX6_orders_46 ?_
    refine v_icmp_ge C dX6_orders_49 (tgt := 106) (by decide) (fun c => ?_) (fun c => ?_)
    · replace h := h.1 c
      exact hR _ _ _ h dX6_orders_106
    · replace h := h.2 c
      refine v_iload_n C 2 dX6_orders_52 rfl rfl ?_
      refine v_iload C 4 dX6_orders_53 rfl ?_
      refine v_ishr C dX6_orders_55 ?_
      refine v_iconst C dX6_orders_56 (v := (1 : Int32)) (by decide) ?_
      refine v_iand C dX6_orders_57 ?_
      refine v_iconst C dX6_orders_58 (v := (1 : Int32)) (by decide) ?_
      refine v_icmp_ne C dX6_orders_59 (tgt := 100) (by decide) (fun c => ?_) (fun c => ?_)
      · replace h := h.1 c
        obtain ⟨x8, ex8⟩ : ∃ z : Int32, z = v4_43 + (1 : Int32) := ⟨_, rfl⟩
        replace h := h x8 ex8
        refine v_iinc (v := x8) (lv' := [(4, .int x8), (0, .ref (a 0)), (1, .int v1_43), (2, .int v2_43), (3, .int v3_43)]) C 4 dX6_orders_100 rfl (by rw [ex8]; rfl) (by decide) rfl ?_
        refine v_goto C dX6_orders_103 (tgt := 43) (by decide) ?_
        refine v_sub [1, 2, 3, 4, 0] rfl ?_
        exact ih M v1_43 v2_43 v3_43 x8  h
      · replace h := h.2 c
        refine v_aload_n C 0 dX6_orders_62 rfl rfl ?_
        refine v_callVv (k := 0) (As := []) (rest := []) C (c6_laysAside  h) eX6_275 (by omega) (by omega) (by decide) rfl rfl rfl rfl (Nat.le_of_ble_eq_true rfl) dX6_orders_63 (fun M9 h => ?_)
        refine v_aload_n C 0 dX6_orders_66 rfl rfl ?_
        refine v_iload_n C 1 dX6_orders_67 rfl rfl ?_
        refine v_iload C 4 dX6_orders_68 rfl ?_
        refine v_callVi (k := 0) (As := [.int v1_43, .int v4_43]) (rest := []) C (c6_games  h) eX6_278 (by omega) (by omega) (by decide) rfl rfl rfl rfl (Nat.le_of_ble_eq_true rfl) dX6_orders_70 (fun r11 M10 h => ?_)
        refine v_pop C dX6_orders_73 rfl ?_
        refine v_aload_n C 0 dX6_orders_74 rfl rfl ?_
        refine v_iload_n C 1 dX6_orders_75 rfl rfl ?_
        refine v_iload_n C 2 dX6_orders_76 rfl rfl ?_
        refine v_iconst C dX6_orders_77 (v := (1 : Int32)) (by decide) ?_
        refine v_iload C 4 dX6_orders_78 rfl ?_
        refine v_ishl C dX6_orders_80 ?_
        refine v_iconst C dX6_orders_81 (v := (-1 : Int32)) (by decide) ?_
        refine v_ixor C dX6_orders_82 ?_
        refine v_iand C dX6_orders_83 ?_
        refine v_bipush C dX6_orders_84 (v := (10 : Int32)) (by decide) ?_
        refine v_iload_n C 3 dX6_orders_86 rfl rfl ?_
        refine v_imul C dX6_orders_87 ?_
        refine v_iload C 4 dX6_orders_88 rfl ?_
        refine v_iadd C dX6_orders_90 ?_
        refine v_iconst C dX6_orders_91 (v := (1 : Int32)) (by decide) ?_
        refine v_iadd C dX6_orders_92 ?_
        refine v_callVv (k := 0) (As := [.int v1_43, .int (v2_43 &&& (((1 : Int32) <<< (v4_43 &&& 31)) ^^^ (-1 : Int32))), .int ((((10 : Int32) * v3_43) + v4_43) + (1 : Int32))]) (rest := []) C (hRc0 _ _ _ _ _  h) eX6_319 (by omega) (by omega) (by decide) rfl rfl rfl rfl (Nat.le_of_ble_eq_true rfl) dX6_orders_93 (fun M12 h => ?_)
        refine v_aload_n C 0 dX6_orders_96 rfl rfl ?_
        refine v_callVv (k := 0) (As := []) (rest := []) C (c6_laysBack  h) eX6_281 (by omega) (by omega) (by decide) rfl rfl rfl rfl (Nat.le_of_ble_eq_true rfl) dX6_orders_97 (fun M13 h => ?_)
        obtain ⟨x14, ex14⟩ : ∃ z : Int32, z = v4_43 + (1 : Int32) := ⟨_, rfl⟩
        replace h := h x14 ex14
        refine v_iinc (v := x14) (lv' := [(4, .int x14), (0, .ref (a 0)), (1, .int v1_43), (2, .int v2_43), (3, .int v3_43)]) C 4 dX6_orders_100 rfl (by rw [ex14]; rfl) (by decide) rfl ?_
        refine v_goto C dX6_orders_103 (tgt := 43) (by decide) ?_
        refine v_sub [1, 2, 3, 4, 0] rfl ?_
        exact ih M13 v1_43 v2_43 v3_43 x14  h
def w6_orders_body (Rc : Nat → S0 → Int32 → Int32 → Int32 → (S0 → Prop) → Prop) (M : S0) (p1 : Int32) (p2 : Int32) (p3 : Int32) (Q : S0 → Prop) : Prop :=
    ((¬ p2 = 0) → (∃ n1, w6_orders_b43 Rc  Q n1 M p1 p2 p3 (0 : Int32))) ∧ ((p2 = 0) → (w6_hasMany M p1 (fun r3 M2 => (((M2 0 29) = (-1 : Int32)) → (∀ M4 : S0, M4 = up M2 0 29 p3 → (∀ M5 : S0, M5 = up M4 0 30 r3 → (Q M5)))) ∧ ((¬ (M2 0 29) = (-1 : Int32)) → (((r3 ≤ (M2 0 30)) → (Q M2)) ∧ ((¬ r3 ≤ (M2 0 30)) → (∀ M6 : S0, M6 = up M2 0 29 p3 → (∀ M7 : S0, M7 = up M6 0 30 r3 → (Q M7)))))))))
set_option maxHeartbeats 4000000 in
set_option maxRecDepth 20000 in
theorem c6_orders_body {B : BX} {a : Nat → Nat} {Rc : Nat → S0 → Int32 → Int32 → Int32 → (S0 → Prop) → Prop} {frr loo : Nat} {M : S0} {p1 : Int32} {p2 : Int32} {p3 : Int32} {Q : S0 → Prop} (hRc0 : ∀ (M : S0) (p1 : Int32) (p2 : Int32) (p3 : Int32) (Q : S0 → Prop), Rc 0  M p1 p2 p3 Q → KV B (wl 12 a (shM B.2.1 a)) yX6_orders cX6_orders 5 none frr loo [.ref (a 0), .int p1, .int p2, .int p3] M Q) (hfb : 72 ≤ frr) (hlb : 1663 ≤ loo) (h : w6_orders_body Rc M p1 p2 p3 Q) : KV B (wl 12 a (shM B.2.1 a)) yX6_orders cX6_orders 5 none (frr + 1) (loo + 24) [.ref (a 0), .int p1, .int p2, .int p3] M Q := by
  rw [w6_orders_body] at h
  refine KV_of (by decide +kernel) (Nat.le_of_ble_eq_true rfl) (fun E C hR => ?_)
  change V B E 5 (wl 12 a (shM B.2.1 a) M) 0 [(0, .ref (a 0)), (1, .int p1), (2, .int p2), (3, .int p3)] []
  change Ok B E cX6_orders 5 RX6 (frr + 1) (loo + 24) at C
  refine v_iload_n C 2 dX6_orders_0 rfl rfl ?_
  refine v_if_ne C dX6_orders_1 (tgt := 40) (by decide) (fun c => ?_) (fun c => ?_)
  · replace h := h.1 c
    refine v_iconst C dX6_orders_40 (v := (0 : Int32)) (by decide) ?_
    refine v_istore (lv' := [(4, .int (0 : Int32)), (0, .ref (a 0)), (1, .int p1), (2, .int p2), (3, .int p3)]) C dX6_orders_41 (by decide) rfl ?_
    obtain ⟨n1, h⟩ := h
    refine v_sub [1, 2, 3, 4, 0] rfl ?_
    exact t6_orders_b43  hRc0 hfb hlb C hR  n1 M p1 p2 p3 (0 : Int32)  h
  · replace h := h.2 c
    refine v_aload_n C 0 dX6_orders_4 rfl rfl ?_
    refine v_iload_n C 1 dX6_orders_5 rfl rfl ?_
    refine v_callVi (k := 0) (As := [.int p1]) (rest := []) C (c6_hasMany  h) eX6_122 (by omega) (by omega) (by decide) rfl rfl rfl rfl (Nat.le_of_ble_eq_true rfl) dX6_orders_6 (fun r3 M2 h => ?_)
    refine v_istore (lv' := [(4, .int r3), (0, .ref (a 0)), (1, .int p1), (2, .int p2), (3, .int p3)]) C dX6_orders_9 (by decide) rfl ?_
    refine v_aload_n C 1 dX6_orders_11 rfl rfl ?_
    refine fX6_6_g_bestDigits C dX6_orders_12 ?_
    refine v_iconst C dX6_orders_15 (v := (-1 : Int32)) (by decide) ?_
    refine v_icmp_eq C dX6_orders_16 (tgt := 28) (by decide) (fun c => ?_) (fun c => ?_)
    · replace h := h.1 c
      refine v_aload_n C 1 dX6_orders_28 rfl rfl ?_
      refine v_iload_n C 4 dX6_orders_29 rfl rfl ?_
      refine fX6_6_p_bestDigits C dX6_orders_30 (fun M4 eM4 => ?_)
      replace h := h M4 eM4
      refine v_aload_n C 1 dX6_orders_33 rfl rfl ?_
      refine v_iload C 0 dX6_orders_34 rfl ?_
      refine fX6_6_p_bestMany C dX6_orders_36 (fun M5 eM5 => ?_)
      replace h := h M5 eM5
      exact hR _ _ _ h dX6_orders_39
    · replace h := h.2 c
      refine v_iload C 0 dX6_orders_19 rfl ?_
      refine v_aload_n C 1 dX6_orders_21 rfl rfl ?_
      refine fX6_6_g_bestMany C dX6_orders_22 ?_
      refine v_icmp_le C dX6_orders_25 (tgt := 39) (by decide) (fun c => ?_) (fun c => ?_)
      · replace h := h.1 c
        exact hR _ _ _ h dX6_orders_39
      · replace h := h.2 c
        refine v_aload_n C 1 dX6_orders_28 rfl rfl ?_
        refine v_iload_n C 4 dX6_orders_29 rfl rfl ?_
        refine fX6_6_p_bestDigits C dX6_orders_30 (fun M6 eM6 => ?_)
        replace h := h M6 eM6
        refine v_aload_n C 1 dX6_orders_33 rfl rfl ?_
        refine v_iload C 0 dX6_orders_34 rfl ?_
        refine fX6_6_p_bestMany C dX6_orders_36 (fun M7 eM7 => ?_)
        replace h := h M7 eM7
        exact hR _ _ _ h dX6_orders_39
