def w5_bestOrder_b33 (g : GX) (Rc : Nat → Nat → S0 → Int32 → Int32 → Int32 → Int32 → (Int32 → S0 → Prop) → Prop) (c1 : Nat) (Q : Int32 → S0 → Prop) : Nat → S0 → Int32 → Int32 → Int32 → Int32 → Int32 → Int32 → Prop
  | 0, _, _, _, _, _, _, _ => False
  | n + 1, M, v2_33, v3_33, v4_33, v5_33, v6_33, v7_33 =>
    (((M c1 7) ≤ v7_33) → (Q v6_33 M)) ∧ ((¬ (M c1 7) ≤ v7_33) → (((((v4_33 >>> (v7_33 &&& 31)) &&& (1 : Int32)) = 0) → (w5_thinkOn g c1 M v3_33 (fun r5 M4 => ((r5 = none) → (∀ x7 : Int32, x7 = v7_33 + (1 : Int32) → (w5_bestOrder_b33 g Rc c1  Q n M4 v2_33 v3_33 v4_33 v5_33 v6_33 x7))) ∧ (∀ k6 : Nat, r5 = some k6 → ((isClub k6) ∧ (w0_meet g k6 M4 v2_33 v7_33 (fun r10 M9 => Rc 0 k6 M9 v2_33 (v3_33 + (1 : Int32)) (v4_33 ||| ((1 : Int32) <<< (v7_33 &&& 31))) (((v5_33 * (10 : Int32)) + v7_33) + (1 : Int32)) (fun r12 M11 => ∀ x13 : Int32, x13 = (if v6_33 < r12 then r12 else v6_33) → (∀ x14 : Int32, x14 = v7_33 + (1 : Int32) → (w5_bestOrder_b33 g Rc c1  Q n M11 v2_33 v3_33 v4_33 v5_33 x13 x14)))))))))) ∧ ((¬ ((v4_33 >>> (v7_33 &&& 31)) &&& (1 : Int32)) = 0) → (∀ x15 : Int32, x15 = v7_33 + (1 : Int32) → (w5_bestOrder_b33 g Rc c1  Q n M v2_33 v3_33 v4_33 v5_33 v6_33 x15)))))
set_option maxHeartbeats 4000000 in
set_option maxRecDepth 20000 in
theorem t5_bestOrder_b33 {B : BX} {E : EX} {a : Nat → Nat} {g : GX} {Rc : Nat → Nat → S0 → Int32 → Int32 → Int32 → Int32 → (Int32 → S0 → Prop) → Prop} {frr loo : Nat} {c1 : Nat} {Q : Int32 → S0 → Prop} (hp_c1 : isClub c1) (hRc0 : ∀ (c1 : Nat) (M : S0) (p3 : Int32) (p4 : Int32) (p5 : Int32) (p6 : Int32) (Q : Int32 → S0 → Prop), isClub c1 → Rc 0 c1 M p3 p4 p5 p6 Q → KI B (wl (66 + 3 * g.2) a (shX B.2.1 a g.1)) yX5_bestOrder cX5_bestOrder 10 (some .int) frr loo [.ref (a c1), .ref (a 8), .int p3, .int p4, .int p5, .int p6] M Q) (hfb : 5 ≤ frr) (hlb : 120 ≤ loo) (C : Ok B E cX5_bestOrder 10 RX5 (frr + 1) (loo + 29)) (hR : RetI B E cX5_bestOrder 10 (wl (66 + 3 * g.2) a (shX B.2.1 a g.1)) Q) : ∀ (n : Nat) (M : S0) (v2_33 : Int32) (v3_33 : Int32) (v4_33 : Int32) (v5_33 : Int32) (v6_33 : Int32) (v7_33 : Int32), w5_bestOrder_b33 g Rc c1  Q n M v2_33 v3_33 v4_33 v5_33 v6_33 v7_33 → V B E 10 (wl (66 + 3 * g.2) a (shX B.2.1 a g.1) M) 33 [(0, .ref (a c1)), (1, .ref (a 8)), (2, .int v2_33), (3, .int v3_33), (4, .int v4_33), (5, .int v5_33), (6, .int v6_33), (7, .int v7_33)] [] := by
  intro n
  induction n with
  | zero =>
    intro M v2_33 v3_33 v4_33 v5_33 v6_33 v7_33  h
    exact h.elim
  | succ n ih =>
    intro M v2_33 v3_33 v4_33 v5_33 v6_33 v7_33  h
    rw [w5_bestOrder_b33] at h
    refine v_iload C 7 dX5_bestOrder_33 rfl ?_
    refine v_aload_n C 0 dX5_bestOrder_35 rfl rfl ?_
    refine fX5_0_g_many C hp_c1 dX5_bestOrder_36 ?_
    refine v_icmp_ge C dX5_bestOrder_39 (tgt := 122) (by decide) (fun c => ?_) (fun c => ?_)
    · replace h := h.1 c
      refine v_iload C 6 dX5_bestOrder_122 rfl ?_
      exact hR _ _ _ _ h dX5_bestOrder_124
    · replace h := h.2 c
      refine v_iload C 4 dX5_bestOrder_42 rfl ?_
      refine v_iload C 7 dX5_bestOrder_44 rfl ?_
      refine v_ishr C dX5_bestOrder_46 ?_
      refine v_iconst C dX5_bestOrder_47 (v := (1 : Int32)) (by decide) ?_
      refine v_iand C dX5_bestOrder_48 ?_
      refine v_if_eq C dX5_bestOrder_49 (tgt := 56) (by decide) (fun c => ?_) (fun c => ?_)
      · replace h := h.1 c
        refine v_aload_n C 0 dX5_bestOrder_56 rfl rfl ?_
        refine v_aload_n C 1 dX5_bestOrder_57 rfl rfl ?_
        refine v_iload_n C 3 dX5_bestOrder_58 rfl rfl ?_
        refine v_callSa (As := [.ref (a c1), .ref (a 8), .int v3_33]) (rest := []) C (c5_thinkOn hp_c1 h) eX5_205 (by omega) (by omega) rfl rfl (Nat.le_of_ble_eq_true rfl) dX5_bestOrder_59 (fun r5 M4 h => ?_)
        rcases r5 with _ | k6
        · replace h := h.1 rfl
          change V _ _ _ _ _ _ (.null :: _)
          refine v_astoreN (lv' := [(8, .null), (0, .ref (a c1)), (1, .ref (a 8)), (2, .int v2_33), (3, .int v3_33), (4, .int v4_33), (5, .int v5_33), (6, .int v6_33), (7, .int v7_33)]) C dX5_bestOrder_62 (by decide) rfl ?_
          refine v_aloadN C 0 dX5_bestOrder_64 rfl ?_
          refine v_ifnullN C dX5_bestOrder_66 (tgt := 116) (by decide) ?_
          obtain ⟨x7, ex7⟩ : ∃ z : Int32, z = v7_33 + (1 : Int32) := ⟨_, rfl⟩
          replace h := h x7 ex7
          refine v_iinc (v := x7) (lv' := [(7, .int x7), (8, .null), (0, .ref (a c1)), (1, .ref (a 8)), (2, .int v2_33), (3, .int v3_33), (4, .int v4_33), (5, .int v5_33), (6, .int v6_33)]) C 8 dX5_bestOrder_116 rfl (by rw [ex7]; rfl) (by decide) rfl ?_
          refine v_goto C dX5_bestOrder_119 (tgt := 33) (by decide) ?_
          refine v_sub [2, 3, 4, 5, 6, 7, 8, 0] rfl ?_
          exact ih M4 v2_33 v3_33 v4_33 v5_33 v6_33 x7  h
        · replace h := h.2 k6 rfl
          change V _ _ _ _ _ _ (.ref (a k6) :: _)
          refine v_astore (lv' := [(8, .ref (a k6)), (0, .ref (a c1)), (1, .ref (a 8)), (2, .int v2_33), (3, .int v3_33), (4, .int v4_33), (5, .int v5_33), (6, .int v6_33), (7, .int v7_33)]) C dX5_bestOrder_62 (by decide) rfl ?_
          refine v_aload C 0 dX5_bestOrder_64 rfl ?_
          refine v_ifnull C dX5_bestOrder_66 ?_
          refine v_aload C 0 dX5_bestOrder_69 rfl ?_
          refine v_iload_n C 3 dX5_bestOrder_71 rfl rfl ?_
          refine v_iload C 8 dX5_bestOrder_72 rfl ?_
          obtain ⟨hf8, h⟩ := h
          refine v_callVi (k := k6) (As := [.int v2_33, .int v7_33]) (rest := []) C (c0_meet hf8 h) eX5_137 (by omega) (by omega) (xlt_c (j := 0) hf8 (by decide)) (sh_c0 hf8 _) rfl rfl rfl (Nat.le_of_ble_eq_true rfl) dX5_bestOrder_74 (fun r10 M9 h => ?_)
          refine v_pop C dX5_bestOrder_77 rfl ?_
          refine v_aload C 0 dX5_bestOrder_78 rfl ?_
          refine v_aload_n C 2 dX5_bestOrder_80 rfl rfl ?_
          refine v_iload_n C 3 dX5_bestOrder_81 rfl rfl ?_
          refine v_iload_n C 4 dX5_bestOrder_82 rfl rfl ?_
          refine v_iconst C dX5_bestOrder_83 (v := (1 : Int32)) (by decide) ?_
          refine v_iadd C dX5_bestOrder_84 ?_
          refine v_iload C 5 dX5_bestOrder_85 rfl ?_
          refine v_iconst C dX5_bestOrder_87 (v := (1 : Int32)) (by decide) ?_
          refine v_iload C 8 dX5_bestOrder_88 rfl ?_
          refine v_ishl C dX5_bestOrder_90 ?_
          refine v_ior C dX5_bestOrder_91 ?_
          refine v_iload C 6 dX5_bestOrder_92 rfl ?_
          refine v_bipush C dX5_bestOrder_94 (v := (10 : Int32)) (by decide) ?_
          refine v_imul C dX5_bestOrder_96 ?_
          refine v_iload C 8 dX5_bestOrder_97 rfl ?_
          refine v_iadd C dX5_bestOrder_99 ?_
          refine v_iconst C dX5_bestOrder_100 (v := (1 : Int32)) (by decide) ?_
          refine v_iadd C dX5_bestOrder_101 ?_
          refine v_callSi (As := [.ref (a k6), .ref (a 8), .int v2_33, .int (v3_33 + (1 : Int32)), .int (v4_33 ||| ((1 : Int32) <<< (v7_33 &&& 31))), .int (((v5_33 * (10 : Int32)) + v7_33) + (1 : Int32))]) (rest := []) C (hRc0 _ _ _ _ _ _ _ hf8 h) eX5_199 (by omega) (by omega) rfl rfl (Nat.le_of_ble_eq_true rfl) dX5_bestOrder_102 (fun r12 M11 h => ?_)
          refine v_istore (lv' := [(9, .int r12), (8, .ref (a k6)), (0, .ref (a c1)), (1, .ref (a 8)), (2, .int v2_33), (3, .int v3_33), (4, .int v4_33), (5, .int v5_33), (6, .int v6_33), (7, .int v7_33)]) C dX5_bestOrder_105 (by decide) rfl ?_
          refine v_iload C 8 dX5_bestOrder_107 rfl ?_
          refine v_iload C 0 dX5_bestOrder_109 rfl ?_
          refine v_max C eX5_max (by omega) (by omega) (rest := []) (Nat.le_of_ble_eq_true rfl) dX5_bestOrder_111 ?_
          refine v_nmi (fun x13 ex13 => ?_)
          replace h := h x13 ex13
          refine v_istore (lv' := [(6, .int x13), (9, .int r12), (8, .ref (a k6)), (0, .ref (a c1)), (1, .ref (a 8)), (2, .int v2_33), (3, .int v3_33), (4, .int v4_33), (5, .int v5_33), (7, .int v7_33)]) C dX5_bestOrder_114 (by decide) rfl ?_
          obtain ⟨x14, ex14⟩ : ∃ z : Int32, z = v7_33 + (1 : Int32) := ⟨_, rfl⟩
          replace h := h x14 ex14
          refine v_iinc (v := x14) (lv' := [(7, .int x14), (6, .int x13), (9, .int r12), (8, .ref (a k6)), (0, .ref (a c1)), (1, .ref (a 8)), (2, .int v2_33), (3, .int v3_33), (4, .int v4_33), (5, .int v5_33)]) C 9 dX5_bestOrder_116 rfl (by rw [ex14]; rfl) (by decide) rfl ?_
          refine v_goto C dX5_bestOrder_119 (tgt := 33) (by decide) ?_
          refine v_sub [4, 5, 6, 7, 8, 9, 1, 0] rfl ?_
          exact ih M11 v2_33 v3_33 v4_33 v5_33 x13 x14  h
      · replace h := h.2 c
        refine v_null C dX5_bestOrder_52 ?_
        refine v_goto C dX5_bestOrder_53 (tgt := 62) (by decide) ?_
        refine v_astoreN (lv' := [(8, .null), (0, .ref (a c1)), (1, .ref (a 8)), (2, .int v2_33), (3, .int v3_33), (4, .int v4_33), (5, .int v5_33), (6, .int v6_33), (7, .int v7_33)]) C dX5_bestOrder_62 (by decide) rfl ?_
        refine v_aloadN C 0 dX5_bestOrder_64 rfl ?_
        refine v_ifnullN C dX5_bestOrder_66 (tgt := 116) (by decide) ?_
        obtain ⟨x15, ex15⟩ : ∃ z : Int32, z = v7_33 + (1 : Int32) := ⟨_, rfl⟩
        replace h := h x15 ex15
        refine v_iinc (v := x15) (lv' := [(7, .int x15), (8, .null), (0, .ref (a c1)), (1, .ref (a 8)), (2, .int v2_33), (3, .int v3_33), (4, .int v4_33), (5, .int v5_33), (6, .int v6_33)]) C 8 dX5_bestOrder_116 rfl (by rw [ex15]; rfl) (by decide) rfl ?_
        refine v_goto C dX5_bestOrder_119 (tgt := 33) (by decide) ?_
        refine v_sub [2, 3, 4, 5, 6, 7, 8, 0] rfl ?_
        exact ih M v2_33 v3_33 v4_33 v5_33 v6_33 x15  h
def w5_bestOrder_body (g : GX) (Rc : Nat → Nat → S0 → Int32 → Int32 → Int32 → Int32 → (Int32 → S0 → Prop) → Prop) (c1 : Nat) (M : S0) (p3 : Int32) (p4 : Int32) (p5 : Int32) (p6 : Int32) (Q : Int32 → S0 → Prop) : Prop :=
    ((p4 < ((M c1 7) - (1 : Int32))) → (∃ n1, w5_bestOrder_b33 g Rc c1  Q n1 M p3 p4 p5 p6 (0 : Int32) (0 : Int32))) ∧ ((¬ p4 < ((M c1 7) - (1 : Int32))) → (w0_howMany g c1 M p3 (fun r3 M2 => Q ((((r3 * (100000 : Int32)) + (100000 : Int32)) - (1 : Int32)) - p6) M2)))
set_option maxHeartbeats 4000000 in
set_option maxRecDepth 20000 in
theorem c5_bestOrder_body {B : BX} {a : Nat → Nat} {g : GX} {Rc : Nat → Nat → S0 → Int32 → Int32 → Int32 → Int32 → (Int32 → S0 → Prop) → Prop} {frr loo : Nat} {c1 : Nat} {M : S0} {p3 : Int32} {p4 : Int32} {p5 : Int32} {p6 : Int32} {Q : Int32 → S0 → Prop} (hp_c1 : isClub c1) (hRc0 : ∀ (c1 : Nat) (M : S0) (p3 : Int32) (p4 : Int32) (p5 : Int32) (p6 : Int32) (Q : Int32 → S0 → Prop), isClub c1 → Rc 0 c1 M p3 p4 p5 p6 Q → KI B (wl (66 + 3 * g.2) a (shX B.2.1 a g.1)) yX5_bestOrder cX5_bestOrder 10 (some .int) frr loo [.ref (a c1), .ref (a 8), .int p3, .int p4, .int p5, .int p6] M Q) (hfb : 5 ≤ frr) (hlb : 120 ≤ loo) (h : w5_bestOrder_body g Rc c1 M p3 p4 p5 p6 Q) : KI B (wl (66 + 3 * g.2) a (shX B.2.1 a g.1)) yX5_bestOrder cX5_bestOrder 10 (some .int) (frr + 1) (loo + 29) [.ref (a c1), .ref (a 8), .int p3, .int p4, .int p5, .int p6] M Q := by
  rw [w5_bestOrder_body] at h
  refine KI_of (by decide +kernel) (Nat.le_of_ble_eq_true rfl) (fun E C hR => ?_)
  change V B E 10 (wl (66 + 3 * g.2) a (shX B.2.1 a g.1) M) 0 [(0, .ref (a c1)), (1, .ref (a 8)), (2, .int p3), (3, .int p4), (4, .int p5), (5, .int p6)] []
  change Ok B E cX5_bestOrder 10 RX5 (frr + 1) (loo + 29) at C
  refine v_iload_n C 3 dX5_bestOrder_0 rfl rfl ?_
  refine v_aload_n C 0 dX5_bestOrder_1 rfl rfl ?_
  refine fX5_0_g_many C hp_c1 dX5_bestOrder_2 ?_
  refine v_iconst C dX5_bestOrder_5 (v := (1 : Int32)) (by decide) ?_
  refine v_isub C dX5_bestOrder_6 ?_
  refine v_icmp_lt C dX5_bestOrder_7 (tgt := 27) (by decide) (fun c => ?_) (fun c => ?_)
  · replace h := h.1 c
    refine v_iconst C dX5_bestOrder_27 (v := (0 : Int32)) (by decide) ?_
    refine v_istore (lv' := [(6, .int (0 : Int32)), (0, .ref (a c1)), (1, .ref (a 8)), (2, .int p3), (3, .int p4), (4, .int p5), (5, .int p6)]) C dX5_bestOrder_28 (by decide) rfl ?_
    refine v_iconst C dX5_bestOrder_30 (v := (0 : Int32)) (by decide) ?_
    refine v_istore (lv' := [(7, .int (0 : Int32)), (6, .int (0 : Int32)), (0, .ref (a c1)), (1, .ref (a 8)), (2, .int p3), (3, .int p4), (4, .int p5), (5, .int p6)]) C dX5_bestOrder_31 (by decide) rfl ?_
    obtain ⟨n1, h⟩ := h
    refine v_sub [2, 3, 4, 5, 6, 7, 1, 0] rfl ?_
    exact t5_bestOrder_b33 hp_c1 hRc0 hfb hlb C hR  n1 M p3 p4 p5 p6 (0 : Int32) (0 : Int32)  h
  · replace h := h.2 c
    refine v_aload_n C 0 dX5_bestOrder_10 rfl rfl ?_
    refine v_iload_n C 2 dX5_bestOrder_11 rfl rfl ?_
    refine v_callVi (k := c1) (As := [.int p3]) (rest := []) C (c0_howMany hp_c1 h) eX5_113 (by omega) (by omega) (xlt_c (j := 0) hp_c1 (by decide)) (sh_c0 hp_c1 _) rfl rfl rfl (Nat.le_of_ble_eq_true rfl) dX5_bestOrder_12 (fun r3 M2 h => ?_)
    refine v_ldc C (v := (100000 : Int32)) (gdm 653 (by decide +kernel) (by decide +kernel)) dX5_bestOrder_15 ?_
    refine v_imul C dX5_bestOrder_17 ?_
    refine v_ldc C (v := (100000 : Int32)) (gdm 653 (by decide +kernel) (by decide +kernel)) dX5_bestOrder_18 ?_
    refine v_iadd C dX5_bestOrder_20 ?_
    refine v_iconst C dX5_bestOrder_21 (v := (1 : Int32)) (by decide) ?_
    refine v_isub C dX5_bestOrder_22 ?_
    refine v_iload C 5 dX5_bestOrder_23 rfl ?_
    refine v_isub C dX5_bestOrder_25 ?_
    exact hR _ _ _ _ h dX5_bestOrder_26
def w_OX (g : GX) : Nat → Nat → Nat → S0 → Int32 → Int32 → Int32 → Int32 → (Int32 → S0 → Prop) → Prop
  | 0, _, _, _, _, _, _, _, _ => False
  | d + 1, i, c1, M, p3, p4, p5, p6, Q => match i with
    | _ => w5_bestOrder_body g (w_OX g d) c1 M p3 p4 p5 p6 Q
theorem c_OX {B : BX} {a : Nat → Nat} {g : GX} : ∀ d : Nat, (∀ (c1 : Nat) (M : S0) (p3 : Int32) (p4 : Int32) (p5 : Int32) (p6 : Int32) (Q : Int32 → S0 → Prop), isClub c1 → w_OX g d 0 c1 M p3 p4 p5 p6 Q → KI B (wl (66 + 3 * g.2) a (shX B.2.1 a g.1)) yX5_bestOrder cX5_bestOrder 10 (some .int) (5 + d) (120 + 29 * d) [.ref (a c1), .ref (a 8), .int p3, .int p4, .int p5, .int p6] M Q) := by
  intro d
  induction d with
  | zero => exact fun _ _ _ _ _ _ _ _ h => h.elim
  | succ d ih =>
    exact fun c1 M p3 p4 p5 p6 Q hp_c1 h => c5_bestOrder_body (frr := 5 + d) (loo := 120 + 29 * d) hp_c1 ih (by omega) (by omega) h
theorem c5_bestOrder {B : BX} {a : Nat → Nat} {g : GX} (d : Nat) {c1 : Nat} {M : S0} {p3 : Int32} {p4 : Int32} {p5 : Int32} {p6 : Int32} {Q : Int32 → S0 → Prop} (hp_c1 : isClub c1) (h : w_OX g d 0 c1 M p3 p4 p5 p6 Q) : KI B (wl (66 + 3 * g.2) a (shX B.2.1 a g.1)) yX5_bestOrder cX5_bestOrder 10 (some .int) (5 + d) (120 + 29 * d) [.ref (a c1), .ref (a 8), .int p3, .int p4, .int p5, .int p6] M Q := (c_OX d) _ _ _ _ _ _ _ hp_c1 h
def w5_order (g : GX) (M : S0) (p1 : Int32) (p2 : Int32) (Q : Int32 → S0 → Prop) : Prop :=
    w0_isPlayer g 10 M p1 (fun r2 M1 => ((r2 = 0) → (Q (-2 : Int32) M1)) ∧ ((¬ r2 = 0) → (w5_isWithin g M1 p2 (0 : Int32) (1 : Int32) (fun r4 M3 => ((¬ r4 = 0) → (∃ d, d ≤ 10 ∧ w_OX g d 0 10 M3 p1 (0 : Int32) ((1 : Int32) <<< (p1 &&& 31)) (0 : Int32) (fun r7 M6 => ((¬ p2 = 0) → (Q (r7 / (100000 : Int32)) M6)) ∧ ((p2 = 0) → (Q ((99999 : Int32) - (r7 - r7 / (100000 : Int32) * (100000 : Int32))) M6))))) ∧ ((r4 = 0) → (Q (-2 : Int32) M3))))))
set_option maxHeartbeats 4000000 in
set_option maxRecDepth 20000 in
theorem c5_order {B : BX} {a : Nat → Nat} {g : GX} {M : S0} {p1 : Int32} {p2 : Int32} {Q : Int32 → S0 → Prop} (h : w5_order g M p1 p2 Q) : KI B (wl (66 + 3 * g.2) a (shX B.2.1 a g.1)) yX5_order cX5_order 4 (some .int) 16 439 [.ref (a 0), .int p1, .int p2] M Q := by
  rw [w5_order] at h
  refine KI_of (by decide +kernel) (Nat.le_of_ble_eq_true rfl) (fun E C hR => ?_)
  change V B E 4 (wl (66 + 3 * g.2) a (shX B.2.1 a g.1) M) 0 [(0, .ref (a 0)), (1, .int p1), (2, .int p2)] []
  change Ok B E cX5_order 4 RX5 16 439 at C
  refine v_aload_n C 0 dX5_order_0 rfl rfl ?_
  refine fX5_5_g_now C dX5_order_1 ?_
  refine v_iload_n C 1 dX5_order_4 rfl rfl ?_
  refine v_callVi (k := 10) (As := [.int p1]) (rest := []) C (c0_isPlayer cl_10 h) eX5_90 (by omega) (by omega) (xlt_c (j := 0) cl_10 (by decide)) (sh_c0 cl_10 _) rfl rfl rfl (Nat.le_of_ble_eq_true rfl) dX5_order_5 (fun r2 M1 h => ?_)
  refine v_if_eq C dX5_order_8 (tgt := 20) (by decide) (fun c => ?_) (fun c => ?_)
  · replace h := h.1 c
    refine v_bipush C dX5_order_20 (v := (-2 : Int32)) (by decide) ?_
    exact hR _ _ _ _ h dX5_order_22
  · replace h := h.2 c
    refine v_iload_n C 2 dX5_order_11 rfl rfl ?_
    refine v_iconst C dX5_order_12 (v := (0 : Int32)) (by decide) ?_
    refine v_iconst C dX5_order_13 (v := (1 : Int32)) (by decide) ?_
    refine v_callSi (As := [.int p2, .int (0 : Int32), .int (1 : Int32)]) (rest := []) C (c5_isWithin  h) eX5_82 (by omega) (by omega) rfl rfl (Nat.le_of_ble_eq_true rfl) dX5_order_14 (fun r4 M3 h => ?_)
    refine v_if_ne C dX5_order_17 (tgt := 23) (by decide) (fun c => ?_) (fun c => ?_)
    · replace h := h.1 c
      refine v_aload_n C 0 dX5_order_23 rfl rfl ?_
      refine fX5_5_g_now C dX5_order_24 ?_
      refine v_aload_n C 0 dX5_order_27 rfl rfl ?_
      refine fX5_5_g_thoughts C dX5_order_28 ?_
      refine v_iload_n C 1 dX5_order_31 rfl rfl ?_
      refine v_iconst C dX5_order_32 (v := (0 : Int32)) (by decide) ?_
      refine v_iconst C dX5_order_33 (v := (1 : Int32)) (by decide) ?_
      refine v_iload_n C 1 dX5_order_34 rfl rfl ?_
      refine v_ishl C dX5_order_35 ?_
      refine v_iconst C dX5_order_36 (v := (0 : Int32)) (by decide) ?_
      obtain ⟨d, hd5, h⟩ := h
      refine v_callSi (As := [.ref (a 10), .ref (a 8), .int p1, .int (0 : Int32), .int ((1 : Int32) <<< (p1 &&& 31)), .int (0 : Int32)]) (rest := []) C (c5_bestOrder d cl_10 h) eX5_199 (by omega) (by omega) rfl rfl (Nat.le_of_ble_eq_true rfl) dX5_order_37 (fun r7 M6 h => ?_)
      refine v_istore_n (lv' := [(3, .int r7), (0, .ref (a 0)), (1, .int p1), (2, .int p2)]) C dX5_order_40 rfl (by decide) rfl ?_
      refine v_iload_n C 3 dX5_order_41 rfl rfl ?_
      refine v_if_ne C dX5_order_42 (tgt := 55) (by decide) (fun c => ?_) (fun c => ?_)
      · replace h := h.1 c
        refine v_iload_n C 0 dX5_order_55 rfl rfl ?_
        refine v_ldc C (v := (100000 : Int32)) (gdm 653 (by decide +kernel) (by decide +kernel)) dX5_order_56 ?_
        refine v_idiv C dX5_order_58 (by decide) ?_
        exact hR _ _ _ _ h dX5_order_59
      · replace h := h.2 c
        refine v_ldc C (v := (99999 : Int32)) (gdm 660 (by decide +kernel) (by decide +kernel)) dX5_order_45 ?_
        refine v_iload_n C 0 dX5_order_47 rfl rfl ?_
        refine v_ldc C (v := (100000 : Int32)) (gdm 653 (by decide +kernel) (by decide +kernel)) dX5_order_48 ?_
        refine v_irem C dX5_order_50 (by decide) ?_
        refine v_isub C dX5_order_51 ?_
        refine v_goto C dX5_order_52 (tgt := 59) (by decide) ?_
        exact hR _ _ _ _ h dX5_order_59
    · replace h := h.2 c
      refine v_bipush C dX5_order_20 (v := (-2 : Int32)) (by decide) ?_
      exact hR _ _ _ _ h dX5_order_22
def w5_whoCouldHaveAll_b32 (g : GX) (Rc : Nat → Nat → S0 → Int32 → Int32 → (Int32 → S0 → Prop) → Prop) (c1 : Nat) (K17 : S0 → Int32 → Int32 → Int32 → Int32 → Prop) (Q : Int32 → S0 → Prop) : Nat → S0 → Int32 → Int32 → Int32 → Int32 → Int32 → Prop
  | 0, _, _, _, _, _, _ => False
  | n + 1, M, v2_32, v3_32, v4_32, v5_32, v6_32 =>
    (((M c1 7) ≤ v6_32) → (∀ x6 : Int32, x6 = v5_32 + (1 : Int32) → (K17 M v2_32 v3_32 v4_32 x6))) ∧ ((¬ (M c1 7) ≤ v6_32) → (w5_thinkOn g c1 M v2_32 (fun r8 M7 => ((r8 = none) → (∀ x10 : Int32, x10 = v6_32 + (1 : Int32) → (w5_whoCouldHaveAll_b32 g Rc c1 K17 Q n M7 v2_32 v3_32 v4_32 v5_32 x10))) ∧ (∀ k9 : Nat, r8 = some k9 → ((isClub k9) ∧ (w0_meet g k9 M7 v5_32 v6_32 (fun r13 M12 => Rc 0 k9 M12 (v2_32 + (1 : Int32)) v3_32 (fun r15 M14 => ∀ x16 : Int32, x16 = (v4_32 ||| r15) → (∀ x17 : Int32, x17 = v6_32 + (1 : Int32) → (w5_whoCouldHaveAll_b32 g Rc c1 K17 Q n M14 v2_32 v3_32 x16 v5_32 x17))))))))))
set_option maxHeartbeats 4000000 in
set_option maxRecDepth 20000 in
theorem t5_whoCouldHaveAll_b32 {B : BX} {E : EX} {a : Nat → Nat} {g : GX} {Rc : Nat → Nat → S0 → Int32 → Int32 → (Int32 → S0 → Prop) → Prop} {frr loo : Nat} {c1 : Nat} {K17 : S0 → Int32 → Int32 → Int32 → Int32 → Prop} {Q : Int32 → S0 → Prop} (hp_c1 : isClub c1) (hRc0 : ∀ (c1 : Nat) (M : S0) (p3 : Int32) (p4 : Int32) (Q : Int32 → S0 → Prop), isClub c1 → Rc 0 c1 M p3 p4 Q → KI B (wl (66 + 3 * g.2) a (shX B.2.1 a g.1)) yX5_whoCouldHaveAll cX5_whoCouldHaveAll 8 (some .int) frr loo [.ref (a c1), .ref (a 8), .int p3, .int p4] M Q) (hfb : 5 ≤ frr) (hlb : 120 ≤ loo) (C : Ok B E cX5_whoCouldHaveAll 8 RX5 (frr + 1) (loo + 27)) (hR : RetI B E cX5_whoCouldHaveAll 8 (wl (66 + 3 * g.2) a (shX B.2.1 a g.1)) Q) (hK17 : ∀ (M : S0) (v2_17 : Int32) (v3_17 : Int32) (v4_17 : Int32) (v5_17 : Int32), K17 M v2_17 v3_17 v4_17 v5_17 → V B E 8 (wl (66 + 3 * g.2) a (shX B.2.1 a g.1) M) 17 [(0, .ref (a c1)), (1, .ref (a 8)), (2, .int v2_17), (3, .int v3_17), (4, .int v4_17), (5, .int v5_17)] []) : ∀ (n : Nat) (M : S0) (v2_32 : Int32) (v3_32 : Int32) (v4_32 : Int32) (v5_32 : Int32) (v6_32 : Int32), w5_whoCouldHaveAll_b32 g Rc c1 K17 Q n M v2_32 v3_32 v4_32 v5_32 v6_32 → V B E 8 (wl (66 + 3 * g.2) a (shX B.2.1 a g.1) M) 32 [(0, .ref (a c1)), (1, .ref (a 8)), (2, .int v2_32), (3, .int v3_32), (4, .int v4_32), (5, .int v5_32), (6, .int v6_32)] [] := by
  intro n
  induction n with
  | zero =>
    intro M v2_32 v3_32 v4_32 v5_32 v6_32  h
    exact h.elim
  | succ n ih =>
    intro M v2_32 v3_32 v4_32 v5_32 v6_32  h
    rw [w5_whoCouldHaveAll_b32] at h
    refine v_iload C 6 dX5_whoCouldHaveAll_32 rfl ?_
    refine v_aload_n C 0 dX5_whoCouldHaveAll_34 rfl rfl ?_
    refine fX5_0_g_many C hp_c1 dX5_whoCouldHaveAll_35 ?_
    refine v_icmp_ge C dX5_whoCouldHaveAll_38 (tgt := 85) (by decide) (fun c => ?_) (fun c => ?_)
    · replace h := h.1 c
      obtain ⟨x6, ex6⟩ : ∃ z : Int32, z = v5_32 + (1 : Int32) := ⟨_, rfl⟩
      replace h := h x6 ex6
      refine v_iinc (v := x6) (lv' := [(5, .int x6), (0, .ref (a c1)), (1, .ref (a 8)), (2, .int v2_32), (3, .int v3_32), (4, .int v4_32), (6, .int v6_32)]) C 5 dX5_whoCouldHaveAll_85 rfl (by rw [ex6]; rfl) (by decide) rfl ?_
      refine v_goto C dX5_whoCouldHaveAll_88 (tgt := 17) (by decide) ?_
      refine v_sub [1, 2, 3, 4, 5, 0] rfl ?_
      exact hK17 M v2_32 v3_32 v4_32 x6  h
    · replace h := h.2 c
      refine v_aload_n C 0 dX5_whoCouldHaveAll_41 rfl rfl ?_
      refine v_aload_n C 1 dX5_whoCouldHaveAll_42 rfl rfl ?_
      refine v_iload_n C 2 dX5_whoCouldHaveAll_43 rfl rfl ?_
      refine v_callSa (As := [.ref (a c1), .ref (a 8), .int v2_32]) (rest := []) C (c5_thinkOn hp_c1 h) eX5_205 (by omega) (by omega) rfl rfl (Nat.le_of_ble_eq_true rfl) dX5_whoCouldHaveAll_44 (fun r8 M7 h => ?_)
      rcases r8 with _ | k9
      · replace h := h.1 rfl
        change V _ _ _ _ _ _ (.null :: _)
        refine v_astoreN (lv' := [(7, .null), (0, .ref (a c1)), (1, .ref (a 8)), (2, .int v2_32), (3, .int v3_32), (4, .int v4_32), (5, .int v5_32), (6, .int v6_32)]) C dX5_whoCouldHaveAll_47 (by decide) rfl ?_
        refine v_aloadN C 0 dX5_whoCouldHaveAll_49 rfl ?_
        refine v_ifnullN C dX5_whoCouldHaveAll_51 (tgt := 79) (by decide) ?_
        obtain ⟨x10, ex10⟩ : ∃ z : Int32, z = v6_32 + (1 : Int32) := ⟨_, rfl⟩
        replace h := h x10 ex10
        refine v_iinc (v := x10) (lv' := [(6, .int x10), (7, .null), (0, .ref (a c1)), (1, .ref (a 8)), (2, .int v2_32), (3, .int v3_32), (4, .int v4_32), (5, .int v5_32)]) C 7 dX5_whoCouldHaveAll_79 rfl (by rw [ex10]; rfl) (by decide) rfl ?_
        refine v_goto C dX5_whoCouldHaveAll_82 (tgt := 32) (by decide) ?_
        refine v_sub [2, 3, 4, 5, 6, 7, 0] rfl ?_
        exact ih M7 v2_32 v3_32 v4_32 v5_32 x10  h
      · replace h := h.2 k9 rfl
        change V _ _ _ _ _ _ (.ref (a k9) :: _)
        refine v_astore (lv' := [(7, .ref (a k9)), (0, .ref (a c1)), (1, .ref (a 8)), (2, .int v2_32), (3, .int v3_32), (4, .int v4_32), (5, .int v5_32), (6, .int v6_32)]) C dX5_whoCouldHaveAll_47 (by decide) rfl ?_
        refine v_aload C 0 dX5_whoCouldHaveAll_49 rfl ?_
        refine v_ifnull C dX5_whoCouldHaveAll_51 ?_
        refine v_aload C 0 dX5_whoCouldHaveAll_54 rfl ?_
        refine v_iload C 6 dX5_whoCouldHaveAll_56 rfl ?_
        refine v_iload C 7 dX5_whoCouldHaveAll_58 rfl ?_
        obtain ⟨hf11, h⟩ := h
        refine v_callVi (k := k9) (As := [.int v5_32, .int v6_32]) (rest := []) C (c0_meet hf11 h) eX5_137 (by omega) (by omega) (xlt_c (j := 0) hf11 (by decide)) (sh_c0 hf11 _) rfl rfl rfl (Nat.le_of_ble_eq_true rfl) dX5_whoCouldHaveAll_60 (fun r13 M12 h => ?_)
        refine v_pop C dX5_whoCouldHaveAll_63 rfl ?_
        refine v_iload C 5 dX5_whoCouldHaveAll_64 rfl ?_
        refine v_aload C 0 dX5_whoCouldHaveAll_66 rfl ?_
        refine v_aload_n C 2 dX5_whoCouldHaveAll_68 rfl rfl ?_
        refine v_iload_n C 3 dX5_whoCouldHaveAll_69 rfl rfl ?_
        refine v_iconst C dX5_whoCouldHaveAll_70 (v := (1 : Int32)) (by decide) ?_
        refine v_iadd C dX5_whoCouldHaveAll_71 ?_
        refine v_iload_n C 4 dX5_whoCouldHaveAll_72 rfl rfl ?_
        refine v_callSi (As := [.ref (a k9), .ref (a 8), .int (v2_32 + (1 : Int32)), .int v3_32]) (rest := [.int v4_32]) C (hRc0 _ _ _ _ _ hf11 h) eX5_214 (by omega) (by omega) rfl rfl (Nat.le_of_ble_eq_true rfl) dX5_whoCouldHaveAll_73 (fun r15 M14 h => ?_)
        refine v_ior C dX5_whoCouldHaveAll_76 ?_
        refine v_nmi (fun x16 ex16 => ?_)
        replace h := h x16 ex16
        refine v_istore (lv' := [(4, .int x16), (7, .ref (a k9)), (0, .ref (a c1)), (1, .ref (a 8)), (2, .int v2_32), (3, .int v3_32), (5, .int v5_32), (6, .int v6_32)]) C dX5_whoCouldHaveAll_77 (by decide) rfl ?_
        obtain ⟨x17, ex17⟩ : ∃ z : Int32, z = v6_32 + (1 : Int32) := ⟨_, rfl⟩
        replace h := h x17 ex17
        refine v_iinc (v := x17) (lv' := [(6, .int x17), (4, .int x16), (7, .ref (a k9)), (0, .ref (a c1)), (1, .ref (a 8)), (2, .int v2_32), (3, .int v3_32), (5, .int v5_32)]) C 7 dX5_whoCouldHaveAll_79 rfl (by rw [ex17]; rfl) (by decide) rfl ?_
        refine v_goto C dX5_whoCouldHaveAll_82 (tgt := 32) (by decide) ?_
        refine v_sub [3, 4, 5, 6, 1, 7, 0] rfl ?_
        exact ih M14 v2_32 v3_32 x16 v5_32 x17  h
def w5_whoCouldHaveAll_b17 (g : GX) (Rc : Nat → Nat → S0 → Int32 → Int32 → (Int32 → S0 → Prop) → Prop) (c1 : Nat) (Q : Int32 → S0 → Prop) : Nat → S0 → Int32 → Int32 → Int32 → Int32 → Prop
  | 0, _, _, _, _, _ => False
  | n + 1, M, v2_17, v3_17, v4_17, v5_17 =>
    (((M c1 7) ≤ v5_17) → (Q v4_17 M)) ∧ ((¬ (M c1 7) ≤ v5_17) → (∀ x4 : Int32, x4 = (v5_17 + (1 : Int32)) → (∃ n5, w5_whoCouldHaveAll_b32 g Rc c1 (w5_whoCouldHaveAll_b17 g Rc c1  Q n) Q n5 M v2_17 v3_17 v4_17 v5_17 x4)))
set_option maxHeartbeats 4000000 in
set_option maxRecDepth 20000 in
theorem t5_whoCouldHaveAll_b17 {B : BX} {E : EX} {a : Nat → Nat} {g : GX} {Rc : Nat → Nat → S0 → Int32 → Int32 → (Int32 → S0 → Prop) → Prop} {frr loo : Nat} {c1 : Nat} {Q : Int32 → S0 → Prop} (hp_c1 : isClub c1) (hRc0 : ∀ (c1 : Nat) (M : S0) (p3 : Int32) (p4 : Int32) (Q : Int32 → S0 → Prop), isClub c1 → Rc 0 c1 M p3 p4 Q → KI B (wl (66 + 3 * g.2) a (shX B.2.1 a g.1)) yX5_whoCouldHaveAll cX5_whoCouldHaveAll 8 (some .int) frr loo [.ref (a c1), .ref (a 8), .int p3, .int p4] M Q) (hfb : 5 ≤ frr) (hlb : 120 ≤ loo) (C : Ok B E cX5_whoCouldHaveAll 8 RX5 (frr + 1) (loo + 27)) (hR : RetI B E cX5_whoCouldHaveAll 8 (wl (66 + 3 * g.2) a (shX B.2.1 a g.1)) Q) : ∀ (n : Nat) (M : S0) (v2_17 : Int32) (v3_17 : Int32) (v4_17 : Int32) (v5_17 : Int32), w5_whoCouldHaveAll_b17 g Rc c1  Q n M v2_17 v3_17 v4_17 v5_17 → V B E 8 (wl (66 + 3 * g.2) a (shX B.2.1 a g.1) M) 17 [(0, .ref (a c1)), (1, .ref (a 8)), (2, .int v2_17), (3, .int v3_17), (4, .int v4_17), (5, .int v5_17)] [] := by
  intro n
  induction n with
  | zero =>
    intro M v2_17 v3_17 v4_17 v5_17  h
    exact h.elim
  | succ n ih =>
    intro M v2_17 v3_17 v4_17 v5_17  h
    rw [w5_whoCouldHaveAll_b17] at h
    refine v_iload C 5 dX5_whoCouldHaveAll_17 rfl ?_
    refine v_aload_n C 0 dX5_whoCouldHaveAll_19 rfl rfl ?_
    refine fX5_0_g_many C hp_c1 dX5_whoCouldHaveAll_20 ?_
    refine v_icmp_ge C dX5_whoCouldHaveAll_23 (tgt := 91) (by decide) (fun c => ?_) (fun c => ?_)
    · replace h := h.1 c
      refine v_iload C 4 dX5_whoCouldHaveAll_91 rfl ?_
      exact hR _ _ _ _ h dX5_whoCouldHaveAll_93
    · replace h := h.2 c
      refine v_iload C 5 dX5_whoCouldHaveAll_26 rfl ?_
      refine v_iconst C dX5_whoCouldHaveAll_28 (v := (1 : Int32)) (by decide) ?_
      refine v_iadd C dX5_whoCouldHaveAll_29 ?_
      refine v_nmi (fun x4 ex4 => ?_)
      replace h := h x4 ex4
      refine v_istore (lv' := [(6, .int x4), (0, .ref (a c1)), (1, .ref (a 8)), (2, .int v2_17), (3, .int v3_17), (4, .int v4_17), (5, .int v5_17)]) C dX5_whoCouldHaveAll_30 (by decide) rfl ?_
      obtain ⟨n5, h⟩ := h
      refine v_sub [1, 2, 3, 4, 5, 6, 0] rfl ?_
      exact t5_whoCouldHaveAll_b32 hp_c1 hRc0 hfb hlb C hR ih n5 M v2_17 v3_17 v4_17 v5_17 x4  h
def w5_whoCouldHaveAll_body (g : GX) (Rc : Nat → Nat → S0 → Int32 → Int32 → (Int32 → S0 → Prop) → Prop) (c1 : Nat) (M : S0) (p3 : Int32) (p4 : Int32) (Q : Int32 → S0 → Prop) : Prop :=
    w0_whoHasAll g c1 M (fun r2 M1 => ((p3 < p4) → (∃ n3, w5_whoCouldHaveAll_b17 g Rc c1  Q n3 M1 p3 p4 r2 (0 : Int32))) ∧ ((¬ p3 < p4) → (Q r2 M1)))
set_option maxHeartbeats 4000000 in
set_option maxRecDepth 20000 in
theorem c5_whoCouldHaveAll_body {B : BX} {a : Nat → Nat} {g : GX} {Rc : Nat → Nat → S0 → Int32 → Int32 → (Int32 → S0 → Prop) → Prop} {frr loo : Nat} {c1 : Nat} {M : S0} {p3 : Int32} {p4 : Int32} {Q : Int32 → S0 → Prop} (hp_c1 : isClub c1) (hRc0 : ∀ (c1 : Nat) (M : S0) (p3 : Int32) (p4 : Int32) (Q : Int32 → S0 → Prop), isClub c1 → Rc 0 c1 M p3 p4 Q → KI B (wl (66 + 3 * g.2) a (shX B.2.1 a g.1)) yX5_whoCouldHaveAll cX5_whoCouldHaveAll 8 (some .int) frr loo [.ref (a c1), .ref (a 8), .int p3, .int p4] M Q) (hfb : 5 ≤ frr) (hlb : 120 ≤ loo) (h : w5_whoCouldHaveAll_body g Rc c1 M p3 p4 Q) : KI B (wl (66 + 3 * g.2) a (shX B.2.1 a g.1)) yX5_whoCouldHaveAll cX5_whoCouldHaveAll 8 (some .int) (frr + 1) (loo + 27) [.ref (a c1), .ref (a 8), .int p3, .int p4] M Q := by
  rw [w5_whoCouldHaveAll_body] at h
  refine KI_of (by decide +kernel) (Nat.le_of_ble_eq_true rfl) (fun E C hR => ?_)
  change V B E 8 (wl (66 + 3 * g.2) a (shX B.2.1 a g.1) M) 0 [(0, .ref (a c1)), (1, .ref (a 8)), (2, .int p3), (3, .int p4)] []
  change Ok B E cX5_whoCouldHaveAll 8 RX5 (frr + 1) (loo + 27) at C
  refine v_aload_n C 0 dX5_whoCouldHaveAll_0 rfl rfl ?_
  refine v_callVi (k := c1) (As := []) (rest := []) C (c0_whoHasAll hp_c1 h) eX5_218 (by omega) (by omega) (xlt_c (j := 0) hp_c1 (by decide)) (sh_c0 hp_c1 _) rfl rfl rfl (Nat.le_of_ble_eq_true rfl) dX5_whoCouldHaveAll_1 (fun r2 M1 h => ?_)
  refine v_istore (lv' := [(4, .int r2), (0, .ref (a c1)), (1, .ref (a 8)), (2, .int p3), (3, .int p4)]) C dX5_whoCouldHaveAll_4 (by decide) rfl ?_
  refine v_iload_n C 3 dX5_whoCouldHaveAll_6 rfl rfl ?_
  refine v_iload_n C 4 dX5_whoCouldHaveAll_7 rfl rfl ?_
  refine v_icmp_lt C dX5_whoCouldHaveAll_8 (tgt := 14) (by decide) (fun c => ?_) (fun c => ?_)
  · replace h := h.1 c
    refine v_iconst C dX5_whoCouldHaveAll_14 (v := (0 : Int32)) (by decide) ?_
    refine v_istore (lv' := [(5, .int (0 : Int32)), (4, .int r2), (0, .ref (a c1)), (1, .ref (a 8)), (2, .int p3), (3, .int p4)]) C dX5_whoCouldHaveAll_15 (by decide) rfl ?_
    obtain ⟨n3, h⟩ := h
    refine v_sub [2, 3, 4, 5, 1, 0] rfl ?_
    exact t5_whoCouldHaveAll_b17 hp_c1 hRc0 hfb hlb C hR  n3 M1 p3 p4 r2 (0 : Int32)  h
  · replace h := h.2 c
    refine v_iload C 0 dX5_whoCouldHaveAll_11 rfl ?_
    exact hR _ _ _ _ h dX5_whoCouldHaveAll_13
def w_WX (g : GX) : Nat → Nat → Nat → S0 → Int32 → Int32 → (Int32 → S0 → Prop) → Prop
  | 0, _, _, _, _, _, _ => False
  | d + 1, i, c1, M, p3, p4, Q => match i with
    | _ => w5_whoCouldHaveAll_body g (w_WX g d) c1 M p3 p4 Q
theorem c_WX {B : BX} {a : Nat → Nat} {g : GX} : ∀ d : Nat, (∀ (c1 : Nat) (M : S0) (p3 : Int32) (p4 : Int32) (Q : Int32 → S0 → Prop), isClub c1 → w_WX g d 0 c1 M p3 p4 Q → KI B (wl (66 + 3 * g.2) a (shX B.2.1 a g.1)) yX5_whoCouldHaveAll cX5_whoCouldHaveAll 8 (some .int) (5 + d) (120 + 27 * d) [.ref (a c1), .ref (a 8), .int p3, .int p4] M Q) := by
  intro d
  induction d with
  | zero => exact fun _ _ _ _ _ _ h => h.elim
  | succ d ih =>
    exact fun c1 M p3 p4 Q hp_c1 h => c5_whoCouldHaveAll_body (frr := 5 + d) (loo := 120 + 27 * d) hp_c1 ih (by omega) (by omega) h
theorem c5_whoCouldHaveAll {B : BX} {a : Nat → Nat} {g : GX} (d : Nat) {c1 : Nat} {M : S0} {p3 : Int32} {p4 : Int32} {Q : Int32 → S0 → Prop} (hp_c1 : isClub c1) (h : w_WX g d 0 c1 M p3 p4 Q) : KI B (wl (66 + 3 * g.2) a (shX B.2.1 a g.1)) yX5_whoCouldHaveAll cX5_whoCouldHaveAll 8 (some .int) (5 + d) (120 + 27 * d) [.ref (a c1), .ref (a 8), .int p3, .int p4] M Q := (c_WX d) _ _ _ _ _ hp_c1 h
def w5_all (g : GX) (M : S0) (p1 : Int32) (Q : Int32 → S0 → Prop) : Prop :=
    w5_isWithin g M p1 (0 : Int32) (3 : Int32) (fun r2 M1 => ((¬ r2 = 0) → (((¬ p1 = (3 : Int32)) → (∃ d, d ≤ 8 ∧ w_WX g d 0 10 M1 (0 : Int32) p1 (fun r5 M4 => Q r5 M4))) ∧ ((p1 = (3 : Int32)) → ((((M1 10 7) ≤ (4 : Int32)) → (∃ d, d ≤ 8 ∧ w_WX g d 0 10 M1 (0 : Int32) p1 (fun r8 M7 => Q r8 M7))) ∧ ((¬ (M1 10 7) ≤ (4 : Int32)) → (Q (-3 : Int32) M1)))))) ∧ ((r2 = 0) → (Q (-2 : Int32) M1)))
set_option maxHeartbeats 4000000 in
set_option maxRecDepth 20000 in
theorem c5_all {B : BX} {a : Nat → Nat} {g : GX} {M : S0} {p1 : Int32} {Q : Int32 → S0 → Prop} (h : w5_all g M p1 Q) : KI B (wl (66 + 3 * g.2) a (shX B.2.1 a g.1)) yX5_all cX5_all 2 (some .int) 14 363 [.ref (a 0), .int p1] M Q := by
  rw [w5_all] at h
  refine KI_of (by decide +kernel) (Nat.le_of_ble_eq_true rfl) (fun E C hR => ?_)
  change V B E 2 (wl (66 + 3 * g.2) a (shX B.2.1 a g.1) M) 0 [(0, .ref (a 0)), (1, .int p1)] []
  change Ok B E cX5_all 2 RX5 14 363 at C
  refine v_iload_n C 1 dX5_all_0 rfl rfl ?_
  refine v_iconst C dX5_all_1 (v := (0 : Int32)) (by decide) ?_
  refine v_iconst C dX5_all_2 (v := (3 : Int32)) (by decide) ?_
  refine v_callSi (As := [.int p1, .int (0 : Int32), .int (3 : Int32)]) (rest := []) C (c5_isWithin  h) eX5_82 (by omega) (by omega) rfl rfl (Nat.le_of_ble_eq_true rfl) dX5_all_3 (fun r2 M1 h => ?_)
  refine v_if_ne C dX5_all_6 (tgt := 12) (by decide) (fun c => ?_) (fun c => ?_)
  · replace h := h.1 c
    refine v_iload_n C 1 dX5_all_12 rfl rfl ?_
    refine v_iconst C dX5_all_13 (v := (3 : Int32)) (by decide) ?_
    refine v_icmp_ne C dX5_all_14 (tgt := 31) (by decide) (fun c => ?_) (fun c => ?_)
    · replace h := h.1 c
      refine v_aload_n C 0 dX5_all_31 rfl rfl ?_
      refine fX5_5_g_now C dX5_all_32 ?_
      refine v_aload_n C 0 dX5_all_35 rfl rfl ?_
      refine fX5_5_g_thoughts C dX5_all_36 ?_
      refine v_iconst C dX5_all_39 (v := (0 : Int32)) (by decide) ?_
      refine v_iload_n C 1 dX5_all_40 rfl rfl ?_
      obtain ⟨d, hd3, h⟩ := h
      refine v_callSi (As := [.ref (a 10), .ref (a 8), .int (0 : Int32), .int p1]) (rest := []) C (c5_whoCouldHaveAll d cl_10 h) eX5_214 (by omega) (by omega) rfl rfl (Nat.le_of_ble_eq_true rfl) dX5_all_41 (fun r5 M4 h => ?_)
      exact hR _ _ _ _ h dX5_all_44
    · replace h := h.2 c
      refine v_aload_n C 0 dX5_all_17 rfl rfl ?_
      refine fX5_5_g_now C dX5_all_18 ?_
      refine fX5_0_g_many C cl_10 dX5_all_21 ?_
      refine v_iconst C dX5_all_24 (v := (4 : Int32)) (by decide) ?_
      refine v_icmp_le C dX5_all_25 (tgt := 31) (by decide) (fun c => ?_) (fun c => ?_)
      · replace h := h.1 c
        refine v_aload_n C 0 dX5_all_31 rfl rfl ?_
        refine fX5_5_g_now C dX5_all_32 ?_
        refine v_aload_n C 0 dX5_all_35 rfl rfl ?_
        refine fX5_5_g_thoughts C dX5_all_36 ?_
        refine v_iconst C dX5_all_39 (v := (0 : Int32)) (by decide) ?_
        refine v_iload_n C 1 dX5_all_40 rfl rfl ?_
        obtain ⟨d, hd6, h⟩ := h
        refine v_callSi (As := [.ref (a 10), .ref (a 8), .int (0 : Int32), .int p1]) (rest := []) C (c5_whoCouldHaveAll d cl_10 h) eX5_214 (by omega) (by omega) rfl rfl (Nat.le_of_ble_eq_true rfl) dX5_all_41 (fun r8 M7 h => ?_)
        exact hR _ _ _ _ h dX5_all_44
      · replace h := h.2 c
        refine v_bipush C dX5_all_28 (v := (-3 : Int32)) (by decide) ?_
        exact hR _ _ _ _ h dX5_all_30
  · replace h := h.2 c
    refine v_bipush C dX5_all_9 (v := (-2 : Int32)) (by decide) ?_
    exact hR _ _ _ _ h dX5_all_11
def w5_soon_b23 (g : GX) (Q : Int32 → S0 → Prop) : Nat → S0 → Int32 → Int32 → Nat → Int32 → Prop
  | 0, _, _, _, _, _ => False
  | n + 1, M, v1_23, v2_23, v3_23, v4_23 =>
    (((20 : Int32) < v4_23) → (Q (-1 : Int32) M)) ∧ ((¬ (20 : Int32) < v4_23) → ((vp_in v1_23 6) ∧ (((¬ (M (v3_23 + 5) (Int32.toNatClampNeg v1_23)) = 0) → (w0_meet g v3_23 M v1_23 v2_23 (fun r10 M9 => ∀ x11 : Int32, x11 = v4_23 + (1 : Int32) → (w5_soon_b23 g  Q n M9 v1_23 v2_23 v3_23 x11)))) ∧ (((M (v3_23 + 5) (Int32.toNatClampNeg v1_23)) = 0) → (Q v4_23 M)))))
set_option maxHeartbeats 4000000 in
set_option maxRecDepth 20000 in
theorem t5_soon_b23 {B : BX} {E : EX} {a : Nat → Nat} {g : GX} {Q : Int32 → S0 → Prop} (C : Ok B E cX5_soon 5 RX5 5 120) (hR : RetI B E cX5_soon 5 (wl (66 + 3 * g.2) a (shX B.2.1 a g.1)) Q) : ∀ (n : Nat) (M : S0) (v1_23 : Int32) (v2_23 : Int32) (v3_23 : Nat) (v4_23 : Int32), (hp_v3_23 : isClub v3_23) → w5_soon_b23 g  Q n M v1_23 v2_23 v3_23 v4_23 → V B E 5 (wl (66 + 3 * g.2) a (shX B.2.1 a g.1) M) 23 [(1, .int v1_23), (2, .int v2_23), (3, .ref (a v3_23)), (4, .int v4_23)] [] := by
  intro n
  induction n with
  | zero =>
    intro M v1_23 v2_23 v3_23 v4_23 hp_v3_23 h
    exact h.elim
  | succ n ih =>
    intro M v1_23 v2_23 v3_23 v4_23 hp_v3_23 h
    rw [w5_soon_b23] at h
    refine v_iload C 3 dX5_soon_23 rfl ?_
    refine v_bipush C dX5_soon_25 (v := (20 : Int32)) (by decide) ?_
    refine v_icmp_gt C dX5_soon_27 (tgt := 55) (by decide) (fun c => ?_) (fun c => ?_)
    · replace h := h.1 c
      refine v_iconst C dX5_soon_55 (v := (-1 : Int32)) (by decide) ?_
      exact hR _ _ _ _ h dX5_soon_56
    · replace h := h.2 c
      refine v_aload_n C 2 dX5_soon_30 rfl rfl ?_
      refine fX5_0_g_has C hp_v3_23 dX5_soon_31 ?_
      refine v_iload_n C 0 dX5_soon_34 rfl rfl ?_
      obtain ⟨hi8, h⟩ := h
      refine v_iald (k := (v3_23 + 5)) C (xlt_c hp_v3_23 (by decide)) (sh_ca (ca_of hp_v3_23 (by decide) (by decide)) _) hi8 dX5_soon_35 ?_
      refine v_if_ne C dX5_soon_36 (tgt := 42) (by decide) (fun c => ?_) (fun c => ?_)
      · replace h := h.1 c
        refine v_aload_n C 2 dX5_soon_42 rfl rfl ?_
        refine v_iload_n C 0 dX5_soon_43 rfl rfl ?_
        refine v_iload_n C 1 dX5_soon_44 rfl rfl ?_
        refine v_callVi (k := v3_23) (As := [.int v1_23, .int v2_23]) (rest := []) C (c0_meet hp_v3_23 h) eX5_137 (by omega) (by omega) (xlt_c (j := 0) hp_v3_23 (by decide)) (sh_c0 hp_v3_23 _) rfl rfl rfl (Nat.le_of_ble_eq_true rfl) dX5_soon_45 (fun r10 M9 h => ?_)
        refine v_pop C dX5_soon_48 rfl ?_
        obtain ⟨x11, ex11⟩ : ∃ z : Int32, z = v4_23 + (1 : Int32) := ⟨_, rfl⟩
        replace h := h x11 ex11
        refine v_iinc (v := x11) (lv' := [(4, .int x11), (1, .int v1_23), (2, .int v2_23), (3, .ref (a v3_23))]) C 3 dX5_soon_49 rfl (by rw [ex11]; rfl) (by decide) rfl ?_
        refine v_goto C dX5_soon_52 (tgt := 23) (by decide) ?_
        refine v_sub [1, 2, 3, 0] rfl ?_
        exact ih M9 v1_23 v2_23 v3_23 x11 hp_v3_23 h
      · replace h := h.2 c
        refine v_iload C 3 dX5_soon_39 rfl ?_
        exact hR _ _ _ _ h dX5_soon_41
def w5_soon (g : GX) (M : S0) (p1 : Int32) (p2 : Int32) (Q : Int32 → S0 → Prop) : Prop :=
    w0_areTwo g 10 M p1 p2 (fun r2 M1 => ((¬ r2 = 0) → (w5_think g M1 (fun r4 M3 => ((r4 = none) → (False)) ∧ (∀ k5 : Nat, r4 = some k5 → ((isClub k5) ∧ (∃ n7, w5_soon_b23 g  Q n7 M3 p1 p2 k5 (0 : Int32))))))) ∧ ((r2 = 0) → (Q (-2 : Int32) M1)))
set_option maxHeartbeats 4000000 in
set_option maxRecDepth 20000 in
theorem c5_soon {B : BX} {a : Nat → Nat} {g : GX} {M : S0} {p1 : Int32} {p2 : Int32} {Q : Int32 → S0 → Prop} (h : w5_soon g M p1 p2 Q) : KI B (wl (66 + 3 * g.2) a (shX B.2.1 a g.1)) yX5_soon cX5_soon 5 (some .int) 5 120 [.ref (a 0), .int p1, .int p2] M Q := by
  rw [w5_soon] at h
  refine KI_of (by decide +kernel) (Nat.le_of_ble_eq_true rfl) (fun E C hR => ?_)
  change V B E 5 (wl (66 + 3 * g.2) a (shX B.2.1 a g.1) M) 0 [(0, .ref (a 0)), (1, .int p1), (2, .int p2)] []
  change Ok B E cX5_soon 5 RX5 5 120 at C
  refine v_aload_n C 0 dX5_soon_0 rfl rfl ?_
  refine fX5_5_g_now C dX5_soon_1 ?_
  refine v_iload_n C 1 dX5_soon_4 rfl rfl ?_
  refine v_iload_n C 2 dX5_soon_5 rfl rfl ?_
  refine v_callVi (k := 10) (As := [.int p1, .int p2]) (rest := []) C (c0_areTwo cl_10 h) eX5_116 (by omega) (by omega) (xlt_c (j := 0) cl_10 (by decide)) (sh_c0 cl_10 _) rfl rfl rfl (Nat.le_of_ble_eq_true rfl) dX5_soon_6 (fun r2 M1 h => ?_)
  refine v_if_ne C dX5_soon_9 (tgt := 15) (by decide) (fun c => ?_) (fun c => ?_)
  · replace h := h.1 c
    refine v_aload_n C 0 dX5_soon_15 rfl rfl ?_
    refine v_callVa (k := 0) (As := []) (rest := []) C (c5_think  h) eX5_133 (by omega) (by omega) (by omega) rfl rfl rfl rfl (Nat.le_of_ble_eq_true rfl) dX5_soon_16 (fun r4 M3 h => ?_)
    rcases r4 with _ | k5
    · replace h := h.1 rfl
      change V _ _ _ _ _ _ (.null :: _)
      exact h.elim
    · replace h := h.2 k5 rfl
      change V _ _ _ _ _ _ (.ref (a k5) :: _)
      refine v_astore_n (lv' := [(3, .ref (a k5)), (0, .ref (a 0)), (1, .int p1), (2, .int p2)]) C dX5_soon_19 rfl (by decide) rfl ?_
      refine v_iconst C dX5_soon_20 (v := (0 : Int32)) (by decide) ?_
      refine v_istore (lv' := [(4, .int (0 : Int32)), (3, .ref (a k5)), (0, .ref (a 0)), (1, .int p1), (2, .int p2)]) C dX5_soon_21 (by decide) rfl ?_
      obtain ⟨hf6, h⟩ := h
      obtain ⟨n7, h⟩ := h
      refine v_sub [3, 4, 1, 0] rfl ?_
      exact t5_soon_b23   C hR  n7 M3 p1 p2 k5 (0 : Int32) hf6 h
  · replace h := h.2 c
    refine v_bipush C dX5_soon_12 (v := (-2 : Int32)) (by decide) ?_
    exact hR _ _ _ _ h dX5_soon_14
def w5_firstOtherwise_b2 (g : GX) (c1 : Nat) (s2 : Nat) (Q : Int32 → S0 → Prop) : Nat → S0 → Int32 → Int32 → Prop
  | 0, _, _, _ => False
  | n + 1, M, v2_2, v3_2 =>
    (((M c1 7) ≤ v3_2) → (Q (-1 : Int32) M)) ∧ ((¬ (M c1 7) ≤ v3_2) → (w0_power g c1 M v2_2 v3_2 (fun r3 M2 => w2_item g s2 M2 v3_2 (fun r5 M4 => ((r3 = r5) → (∀ x6 : Int32, x6 = v3_2 + (1 : Int32) → (w5_firstOtherwise_b2 g c1 s2  Q n M4 v2_2 x6))) ∧ ((¬ r3 = r5) → (Q v3_2 M4))))))
set_option maxHeartbeats 4000000 in
set_option maxRecDepth 20000 in
theorem t5_firstOtherwise_b2 {B : BX} {E : EX} {a : Nat → Nat} {g : GX} {c1 : Nat} {s2 : Nat} {Q : Int32 → S0 → Prop} (hp_c1 : isClub c1) (hp_s2 : isSheet s2) (C : Ok B E cX5_firstOtherwise 4 RX5 3 72) (hR : RetI B E cX5_firstOtherwise 4 (wl (66 + 3 * g.2) a (shX B.2.1 a g.1)) Q) : ∀ (n : Nat) (M : S0) (v2_2 : Int32) (v3_2 : Int32), w5_firstOtherwise_b2 g c1 s2  Q n M v2_2 v3_2 → V B E 4 (wl (66 + 3 * g.2) a (shX B.2.1 a g.1) M) 2 [(0, .ref (a c1)), (1, .ref (a s2)), (2, .int v2_2), (3, .int v3_2)] [] := by
  intro n
  induction n with
  | zero =>
    intro M v2_2 v3_2  h
    exact h.elim
  | succ n ih =>
    intro M v2_2 v3_2  h
    rw [w5_firstOtherwise_b2] at h
    refine v_iload_n C 3 dX5_firstOtherwise_2 rfl rfl ?_
    refine v_aload_n C 0 dX5_firstOtherwise_3 rfl rfl ?_
    refine fX5_0_g_many C hp_c1 dX5_firstOtherwise_4 ?_
    refine v_icmp_ge C dX5_firstOtherwise_7 (tgt := 32) (by decide) (fun c => ?_) (fun c => ?_)
    · replace h := h.1 c
      refine v_iconst C dX5_firstOtherwise_32 (v := (-1 : Int32)) (by decide) ?_
      exact hR _ _ _ _ h dX5_firstOtherwise_33
    · replace h := h.2 c
      refine v_aload_n C 0 dX5_firstOtherwise_10 rfl rfl ?_
      refine v_iload_n C 2 dX5_firstOtherwise_11 rfl rfl ?_
      refine v_iload_n C 3 dX5_firstOtherwise_12 rfl rfl ?_
      refine v_callVi (k := c1) (As := [.int v2_2, .int v3_2]) (rest := []) C (c0_power hp_c1 h) eX5_120 (by omega) (by omega) (xlt_c (j := 0) hp_c1 (by decide)) (sh_c0 hp_c1 _) rfl rfl rfl (Nat.le_of_ble_eq_true rfl) dX5_firstOtherwise_13 (fun r3 M2 h => ?_)
      refine v_aload_n C 1 dX5_firstOtherwise_16 rfl rfl ?_
      refine v_iload_n C 3 dX5_firstOtherwise_17 rfl rfl ?_
      refine v_callVi (k := s2) (As := [.int v3_2]) (rest := [.int r3]) C (c2_item hp_s2 h) eX5_179 (by omega) (by omega) (xlt_s (j := 0) hp_s2 (by decide)) (sh_s0 hp_s2 _) rfl rfl rfl (Nat.le_of_ble_eq_true rfl) dX5_firstOtherwise_18 (fun r5 M4 h => ?_)
      refine v_icmp_eq C dX5_firstOtherwise_21 (tgt := 26) (by decide) (fun c => ?_) (fun c => ?_)
      · replace h := h.1 c
        obtain ⟨x6, ex6⟩ : ∃ z : Int32, z = v3_2 + (1 : Int32) := ⟨_, rfl⟩
        replace h := h x6 ex6
        refine v_iinc (v := x6) (lv' := [(3, .int x6), (0, .ref (a c1)), (1, .ref (a s2)), (2, .int v2_2)]) C 3 dX5_firstOtherwise_26 rfl (by rw [ex6]; rfl) (by decide) rfl ?_
        refine v_goto C dX5_firstOtherwise_29 (tgt := 2) (by decide) ?_
        refine v_sub [1, 2, 3, 0] rfl ?_
        exact ih M4 v2_2 x6  h
      · replace h := h.2 c
        refine v_iload_n C 3 dX5_firstOtherwise_24 rfl rfl ?_
        exact hR _ _ _ _ h dX5_firstOtherwise_25
def w5_firstOtherwise (g : GX) (c1 : Nat) (s2 : Nat) (M : S0) (p3 : Int32) (Q : Int32 → S0 → Prop) : Prop :=
    ∃ n1, w5_firstOtherwise_b2 g c1 s2  Q n1 M p3 (0 : Int32)
set_option maxHeartbeats 4000000 in
set_option maxRecDepth 20000 in
theorem c5_firstOtherwise {B : BX} {a : Nat → Nat} {g : GX} {c1 : Nat} {s2 : Nat} {M : S0} {p3 : Int32} {Q : Int32 → S0 → Prop} (hp_c1 : isClub c1) (hp_s2 : isSheet s2) (h : w5_firstOtherwise g c1 s2 M p3 Q) : KI B (wl (66 + 3 * g.2) a (shX B.2.1 a g.1)) yX5_firstOtherwise cX5_firstOtherwise 4 (some .int) 3 72 [.ref (a c1), .ref (a s2), .int p3] M Q := by
  rw [w5_firstOtherwise] at h
  refine KI_of (by decide +kernel) (Nat.le_of_ble_eq_true rfl) (fun E C hR => ?_)
  change V B E 4 (wl (66 + 3 * g.2) a (shX B.2.1 a g.1) M) 0 [(0, .ref (a c1)), (1, .ref (a s2)), (2, .int p3)] []
  change Ok B E cX5_firstOtherwise 4 RX5 3 72 at C
  refine v_iconst C dX5_firstOtherwise_0 (v := (0 : Int32)) (by decide) ?_
  refine v_istore_n (lv' := [(3, .int (0 : Int32)), (0, .ref (a c1)), (1, .ref (a s2)), (2, .int p3)]) C dX5_firstOtherwise_1 rfl (by decide) rfl ?_
  obtain ⟨n1, h⟩ := h
  refine v_sub [1, 2, 3, 0] rfl ?_
  exact t5_firstOtherwise_b2 hp_c1 hp_s2  C hR  n1 M p3 (0 : Int32)  h
def w5_fits (g : GX) (s1 : Nat) (M : S0) (p2 : Int32) (p3 : Int32) (p4 : Int32) (Q : Int32 → S0 → Prop) : Prop :=
    w5_think g M (fun r2 M1 => ((r2 = none) → (False)) ∧ (∀ k3 : Nat, r2 = some k3 → ((isClub k3) ∧ (w0_isPlayer g k3 M1 p2 (fun r6 M5 => ((¬ r6 = 0) → (((¬ p3 = 0) → (∀ M7 : S0, M7 = up M5 k3 8 p4 → (w5_firstOtherwise g k3 s1 M7 p2 (fun r9 M8 => ((¬ r9 = (-1 : Int32)) → (Q (0 : Int32) M8)) ∧ ((r9 = (-1 : Int32)) → (Q (1 : Int32) M8)))))) ∧ ((p3 = 0) → ((vp_in p2 6) ∧ (∀ M11 : S0, M11 = up M5 (k3 + 3) (Int32.toNatClampNeg p2) p4 → (w5_firstOtherwise g k3 s1 M11 p2 (fun r13 M12 => ((¬ r13 = (-1 : Int32)) → (Q (0 : Int32) M12)) ∧ ((r13 = (-1 : Int32)) → (Q (1 : Int32) M12))))))))) ∧ ((r6 = 0) → (Q (0 : Int32) M5)))))))
set_option maxHeartbeats 4000000 in
set_option maxRecDepth 20000 in
theorem c5_fits {B : BX} {a : Nat → Nat} {g : GX} {s1 : Nat} {M : S0} {p2 : Int32} {p3 : Int32} {p4 : Int32} {Q : Int32 → S0 → Prop} (hp_s1 : isSheet s1) (h : w5_fits g s1 M p2 p3 p4 Q) : KI B (wl (66 + 3 * g.2) a (shX B.2.1 a g.1)) yX5_fits cX5_fits 6 (some .boolean) 4 95 [.ref (a 0), .ref (a s1), .int p2, .int p3, .int p4] M Q := by
  rw [w5_fits] at h
  refine KZ_of (by decide +kernel) (Nat.le_of_ble_eq_true rfl) (fun E C hR => ?_)
  change V B E 6 (wl (66 + 3 * g.2) a (shX B.2.1 a g.1) M) 0 [(0, .ref (a 0)), (1, .ref (a s1)), (2, .int p2), (3, .int p3), (4, .int p4)] []
  change Ok B E cX5_fits 6 RX5 4 95 at C
  refine v_aload_n C 0 dX5_fits_0 rfl rfl ?_
  refine v_callVa (k := 0) (As := []) (rest := []) C (c5_think  h) eX5_133 (by omega) (by omega) (by omega) rfl rfl rfl rfl (Nat.le_of_ble_eq_true rfl) dX5_fits_1 (fun r2 M1 h => ?_)
  rcases r2 with _ | k3
  · replace h := h.1 rfl
    change V _ _ _ _ _ _ (.null :: _)
    exact h.elim
  · replace h := h.2 k3 rfl
    change V _ _ _ _ _ _ (.ref (a k3) :: _)
    refine v_astore (lv' := [(5, .ref (a k3)), (0, .ref (a 0)), (1, .ref (a s1)), (2, .int p2), (3, .int p3), (4, .int p4)]) C dX5_fits_4 (by decide) rfl ?_
    refine v_aload C 0 dX5_fits_6 rfl ?_
    refine v_iload_n C 3 dX5_fits_8 rfl rfl ?_
    obtain ⟨hf4, h⟩ := h
    refine v_callVi (k := k3) (As := [.int p2]) (rest := []) C (c0_isPlayer hf4 h) eX5_90 (by omega) (by omega) (xlt_c (j := 0) hf4 (by decide)) (sh_c0 hf4 _) rfl rfl rfl (Nat.le_of_ble_eq_true rfl) dX5_fits_9 (fun r6 M5 h => ?_)
    refine v_if_ne C dX5_fits_12 (tgt := 17) (by decide) (fun c => ?_) (fun c => ?_)
    · replace h := h.1 c
      refine v_iload_n C 4 dX5_fits_17 rfl rfl ?_
      refine v_if_ne C dX5_fits_18 (tgt := 33) (by decide) (fun c => ?_) (fun c => ?_)
      · replace h := h.1 c
        refine v_aload C 0 dX5_fits_33 rfl ?_
        refine v_iload C 5 dX5_fits_35 rfl ?_
        refine fX5_0_p_round C hf4 dX5_fits_37 (fun M7 eM7 => ?_)
        replace h := h M7 eM7
        refine v_aload C 0 dX5_fits_40 rfl ?_
        refine v_aload_n C 2 dX5_fits_42 rfl rfl ?_
        refine v_iload_n C 3 dX5_fits_43 rfl rfl ?_
        refine v_callSi (As := [.ref (a k3), .ref (a s1), .int p2]) (rest := []) C (c5_firstOtherwise hf4 hp_s1 h) eX5_221 (by omega) (by omega) rfl rfl (Nat.le_of_ble_eq_true rfl) dX5_fits_44 (fun r9 M8 h => ?_)
        refine v_iconst C dX5_fits_47 (v := (-1 : Int32)) (by decide) ?_
        refine v_icmp_ne C dX5_fits_48 (tgt := 55) (by decide) (fun c => ?_) (fun c => ?_)
        · replace h := h.1 c
          refine v_iconst C dX5_fits_55 (v := (0 : Int32)) (by decide) ?_
          exact hR _ _ _ _ rfl h dX5_fits_56
        · replace h := h.2 c
          refine v_iconst C dX5_fits_51 (v := (1 : Int32)) (by decide) ?_
          refine v_goto C dX5_fits_52 (tgt := 56) (by decide) ?_
          exact hR _ _ _ _ rfl h dX5_fits_56
      · replace h := h.2 c
        refine v_aload C 0 dX5_fits_21 rfl ?_
        refine fX5_0_g_strong C hf4 dX5_fits_23 ?_
        refine v_iload_n C 3 dX5_fits_26 rfl rfl ?_
        refine v_iload C 5 dX5_fits_27 rfl ?_
        obtain ⟨hi10, h⟩ := h
        refine v_iast (k := (k3 + 3)) C (xlt_c hf4 (by decide)) (sh_ca (ca_of hf4 (by decide) (by decide))) hi10 dX5_fits_29 ?_
        obtain ⟨M11, eM11⟩ : ∃ z : S0, z = up M5 (k3 + 3) (Int32.toNatClampNeg p2) p4 := ⟨_, rfl⟩
        rw [← eM11]
        replace h := h M11 eM11
        refine v_goto C dX5_fits_30 (tgt := 40) (by decide) ?_
        refine v_aload C 0 dX5_fits_40 rfl ?_
        refine v_aload_n C 2 dX5_fits_42 rfl rfl ?_
        refine v_iload_n C 3 dX5_fits_43 rfl rfl ?_
        refine v_callSi (As := [.ref (a k3), .ref (a s1), .int p2]) (rest := []) C (c5_firstOtherwise hf4 hp_s1 h) eX5_221 (by omega) (by omega) rfl rfl (Nat.le_of_ble_eq_true rfl) dX5_fits_44 (fun r13 M12 h => ?_)
        refine v_iconst C dX5_fits_47 (v := (-1 : Int32)) (by decide) ?_
        refine v_icmp_ne C dX5_fits_48 (tgt := 55) (by decide) (fun c => ?_) (fun c => ?_)
        · replace h := h.1 c
          refine v_iconst C dX5_fits_55 (v := (0 : Int32)) (by decide) ?_
          exact hR _ _ _ _ rfl h dX5_fits_56
        · replace h := h.2 c
          refine v_iconst C dX5_fits_51 (v := (1 : Int32)) (by decide) ?_
          refine v_goto C dX5_fits_52 (tgt := 56) (by decide) ?_
          exact hR _ _ _ _ rfl h dX5_fits_56
    · replace h := h.2 c
      refine v_iconst C dX5_fits_15 (v := (0 : Int32)) (by decide) ?_
      exact hR _ _ _ _ rfl h dX5_fits_16
def w5_howManyFit_b6 (g : GX) (s1 : Nat) (Q : Int32 → S0 → Prop) : Nat → S0 → Int32 → Int32 → Int32 → Int32 → Prop
  | 0, _, _, _, _, _ => False
  | n + 1, M, v2_6, v3_6, v4_6, v5_6 =>
    (((100 : Int32) ≤ v5_6) → (Q v4_6 M)) ∧ ((¬ (100 : Int32) ≤ v5_6) → (w5_fits g s1 M v2_6 v3_6 v5_6 (fun r3 M2 => ((r3 = 0) → (∀ x4 : Int32, x4 = v5_6 + (1 : Int32) → (w5_howManyFit_b6 g s1  Q n M2 v2_6 v3_6 v4_6 x4))) ∧ ((¬ r3 = 0) → (∀ x5 : Int32, x5 = v4_6 + (1 : Int32) → (∀ x6 : Int32, x6 = v5_6 + (1 : Int32) → (w5_howManyFit_b6 g s1  Q n M2 v2_6 v3_6 x5 x6)))))))
set_option maxHeartbeats 4000000 in
set_option maxRecDepth 20000 in
theorem t5_howManyFit_b6 {B : BX} {E : EX} {a : Nat → Nat} {g : GX} {s1 : Nat} {Q : Int32 → S0 → Prop} (hp_s1 : isSheet s1) (C : Ok B E cX5_howManyFit 6 RX5 5 120) (hR : RetI B E cX5_howManyFit 6 (wl (66 + 3 * g.2) a (shX B.2.1 a g.1)) Q) : ∀ (n : Nat) (M : S0) (v2_6 : Int32) (v3_6 : Int32) (v4_6 : Int32) (v5_6 : Int32), w5_howManyFit_b6 g s1  Q n M v2_6 v3_6 v4_6 v5_6 → V B E 6 (wl (66 + 3 * g.2) a (shX B.2.1 a g.1) M) 6 [(0, .ref (a 0)), (1, .ref (a s1)), (2, .int v2_6), (3, .int v3_6), (4, .int v4_6), (5, .int v5_6)] [] := by
  intro n
  induction n with
  | zero =>
    intro M v2_6 v3_6 v4_6 v5_6  h
    exact h.elim
  | succ n ih =>
    intro M v2_6 v3_6 v4_6 v5_6  h
    rw [w5_howManyFit_b6] at h
    refine v_iload C 5 dX5_howManyFit_6 rfl ?_
    refine v_bipush C dX5_howManyFit_8 (v := (100 : Int32)) (by decide) ?_
    refine v_icmp_ge C dX5_howManyFit_10 (tgt := 34) (by decide) (fun c => ?_) (fun c => ?_)
    · replace h := h.1 c
      refine v_iload C 4 dX5_howManyFit_34 rfl ?_
      exact hR _ _ _ _ h dX5_howManyFit_36
    · replace h := h.2 c
      refine v_aload_n C 0 dX5_howManyFit_13 rfl rfl ?_
      refine v_aload_n C 1 dX5_howManyFit_14 rfl rfl ?_
      refine v_iload_n C 2 dX5_howManyFit_15 rfl rfl ?_
      refine v_iload_n C 3 dX5_howManyFit_16 rfl rfl ?_
      refine v_iload C 5 dX5_howManyFit_17 rfl ?_
      refine v_callVi (k := 0) (As := [.ref (a s1), .int v2_6, .int v3_6, .int v5_6]) (rest := []) C (c5_fits hp_s1 h) eX5_239 (by omega) (by omega) (by omega) rfl rfl rfl rfl (Nat.le_of_ble_eq_true rfl) dX5_howManyFit_19 (fun r3 M2 h => ?_)
      refine v_if_eq C dX5_howManyFit_22 (tgt := 28) (by decide) (fun c => ?_) (fun c => ?_)
      · replace h := h.1 c
        obtain ⟨x4, ex4⟩ : ∃ z : Int32, z = v5_6 + (1 : Int32) := ⟨_, rfl⟩
        replace h := h x4 ex4
        refine v_iinc (v := x4) (lv' := [(5, .int x4), (0, .ref (a 0)), (1, .ref (a s1)), (2, .int v2_6), (3, .int v3_6), (4, .int v4_6)]) C 5 dX5_howManyFit_28 rfl (by rw [ex4]; rfl) (by decide) rfl ?_
        refine v_goto C dX5_howManyFit_31 (tgt := 6) (by decide) ?_
        refine v_sub [1, 2, 3, 4, 5, 0] rfl ?_
        exact ih M2 v2_6 v3_6 v4_6 x4  h
      · replace h := h.2 c
        obtain ⟨x5, ex5⟩ : ∃ z : Int32, z = v4_6 + (1 : Int32) := ⟨_, rfl⟩
        replace h := h x5 ex5
        refine v_iinc (v := x5) (lv' := [(4, .int x5), (0, .ref (a 0)), (1, .ref (a s1)), (2, .int v2_6), (3, .int v3_6), (5, .int v5_6)]) C 4 dX5_howManyFit_25 rfl (by rw [ex5]; rfl) (by decide) rfl ?_
        obtain ⟨x6, ex6⟩ : ∃ z : Int32, z = v5_6 + (1 : Int32) := ⟨_, rfl⟩
        replace h := h x6 ex6
        refine v_iinc (v := x6) (lv' := [(5, .int x6), (4, .int x5), (0, .ref (a 0)), (1, .ref (a s1)), (2, .int v2_6), (3, .int v3_6)]) C 5 dX5_howManyFit_28 rfl (by rw [ex6]; rfl) (by decide) rfl ?_
        refine v_goto C dX5_howManyFit_31 (tgt := 6) (by decide) ?_
        refine v_sub [2, 3, 4, 5, 1, 0] rfl ?_
        exact ih M2 v2_6 v3_6 x5 x6  h
def w5_howManyFit (g : GX) (s1 : Nat) (M : S0) (p2 : Int32) (p3 : Int32) (Q : Int32 → S0 → Prop) : Prop :=
    ∃ n1, w5_howManyFit_b6 g s1  Q n1 M p2 p3 (0 : Int32) (0 : Int32)
set_option maxHeartbeats 4000000 in
set_option maxRecDepth 20000 in
theorem c5_howManyFit {B : BX} {a : Nat → Nat} {g : GX} {s1 : Nat} {M : S0} {p2 : Int32} {p3 : Int32} {Q : Int32 → S0 → Prop} (hp_s1 : isSheet s1) (h : w5_howManyFit g s1 M p2 p3 Q) : KI B (wl (66 + 3 * g.2) a (shX B.2.1 a g.1)) yX5_howManyFit cX5_howManyFit 6 (some .int) 5 120 [.ref (a 0), .ref (a s1), .int p2, .int p3] M Q := by
  rw [w5_howManyFit] at h
  refine KI_of (by decide +kernel) (Nat.le_of_ble_eq_true rfl) (fun E C hR => ?_)
  change V B E 6 (wl (66 + 3 * g.2) a (shX B.2.1 a g.1) M) 0 [(0, .ref (a 0)), (1, .ref (a s1)), (2, .int p2), (3, .int p3)] []
  change Ok B E cX5_howManyFit 6 RX5 5 120 at C
  refine v_iconst C dX5_howManyFit_0 (v := (0 : Int32)) (by decide) ?_
  refine v_istore (lv' := [(4, .int (0 : Int32)), (0, .ref (a 0)), (1, .ref (a s1)), (2, .int p2), (3, .int p3)]) C dX5_howManyFit_1 (by decide) rfl ?_
  refine v_iconst C dX5_howManyFit_3 (v := (0 : Int32)) (by decide) ?_
  refine v_istore (lv' := [(5, .int (0 : Int32)), (4, .int (0 : Int32)), (0, .ref (a 0)), (1, .ref (a s1)), (2, .int p2), (3, .int p3)]) C dX5_howManyFit_4 (by decide) rfl ?_
  obtain ⟨n1, h⟩ := h
  refine v_sub [2, 3, 4, 5, 1, 0] rfl ?_
  exact t5_howManyFit_b6 hp_s1  C hR  n1 M p2 p3 (0 : Int32) (0 : Int32)  h
def w5_leastThatFits_b3 (g : GX) (s1 : Nat) (Q : Int32 → S0 → Prop) : Nat → S0 → Int32 → Int32 → Int32 → Prop
  | 0, _, _, _, _ => False
  | n + 1, M, v2_3, v3_3, v4_3 =>
    (((100 : Int32) ≤ v4_3) → (Q (-1 : Int32) M)) ∧ ((¬ (100 : Int32) ≤ v4_3) → (w5_fits g s1 M v2_3 v3_3 v4_3 (fun r3 M2 => ((r3 = 0) → (∀ x4 : Int32, x4 = v4_3 + (1 : Int32) → (w5_leastThatFits_b3 g s1  Q n M2 v2_3 v3_3 x4))) ∧ ((¬ r3 = 0) → (Q v4_3 M2)))))
set_option maxHeartbeats 4000000 in
set_option maxRecDepth 20000 in
theorem t5_leastThatFits_b3 {B : BX} {E : EX} {a : Nat → Nat} {g : GX} {s1 : Nat} {Q : Int32 → S0 → Prop} (hp_s1 : isSheet s1) (C : Ok B E cX5_leastThatFits 5 RX5 5 120) (hR : RetI B E cX5_leastThatFits 5 (wl (66 + 3 * g.2) a (shX B.2.1 a g.1)) Q) : ∀ (n : Nat) (M : S0) (v2_3 : Int32) (v3_3 : Int32) (v4_3 : Int32), w5_leastThatFits_b3 g s1  Q n M v2_3 v3_3 v4_3 → V B E 5 (wl (66 + 3 * g.2) a (shX B.2.1 a g.1) M) 3 [(0, .ref (a 0)), (1, .ref (a s1)), (2, .int v2_3), (3, .int v3_3), (4, .int v4_3)] [] := by
  intro n
  induction n with
  | zero =>
    intro M v2_3 v3_3 v4_3  h
    exact h.elim
  | succ n ih =>
    intro M v2_3 v3_3 v4_3  h
    rw [w5_leastThatFits_b3] at h
    refine v_iload C 4 dX5_leastThatFits_3 rfl ?_
    refine v_bipush C dX5_leastThatFits_5 (v := (100 : Int32)) (by decide) ?_
    refine v_icmp_ge C dX5_leastThatFits_7 (tgt := 31) (by decide) (fun c => ?_) (fun c => ?_)
    · replace h := h.1 c
      refine v_iconst C dX5_leastThatFits_31 (v := (-1 : Int32)) (by decide) ?_
      exact hR _ _ _ _ h dX5_leastThatFits_32
    · replace h := h.2 c
      refine v_aload_n C 0 dX5_leastThatFits_10 rfl rfl ?_
      refine v_aload_n C 1 dX5_leastThatFits_11 rfl rfl ?_
      refine v_iload_n C 2 dX5_leastThatFits_12 rfl rfl ?_
      refine v_iload_n C 3 dX5_leastThatFits_13 rfl rfl ?_
      refine v_iload C 4 dX5_leastThatFits_14 rfl ?_
      refine v_callVi (k := 0) (As := [.ref (a s1), .int v2_3, .int v3_3, .int v4_3]) (rest := []) C (c5_fits hp_s1 h) eX5_239 (by omega) (by omega) (by omega) rfl rfl rfl rfl (Nat.le_of_ble_eq_true rfl) dX5_leastThatFits_16 (fun r3 M2 h => ?_)
      refine v_if_eq C dX5_leastThatFits_19 (tgt := 25) (by decide) (fun c => ?_) (fun c => ?_)
      · replace h := h.1 c
        obtain ⟨x4, ex4⟩ : ∃ z : Int32, z = v4_3 + (1 : Int32) := ⟨_, rfl⟩
        replace h := h x4 ex4
        refine v_iinc (v := x4) (lv' := [(4, .int x4), (0, .ref (a 0)), (1, .ref (a s1)), (2, .int v2_3), (3, .int v3_3)]) C 4 dX5_leastThatFits_25 rfl (by rw [ex4]; rfl) (by decide) rfl ?_
        refine v_goto C dX5_leastThatFits_28 (tgt := 3) (by decide) ?_
        refine v_sub [1, 2, 3, 4, 0] rfl ?_
        exact ih M2 v2_3 v3_3 x4  h
      · replace h := h.2 c
        refine v_iload C 4 dX5_leastThatFits_22 rfl ?_
        exact hR _ _ _ _ h dX5_leastThatFits_24
def w5_leastThatFits (g : GX) (s1 : Nat) (M : S0) (p2 : Int32) (p3 : Int32) (Q : Int32 → S0 → Prop) : Prop :=
    ∃ n1, w5_leastThatFits_b3 g s1  Q n1 M p2 p3 (0 : Int32)
set_option maxHeartbeats 4000000 in
set_option maxRecDepth 20000 in
theorem c5_leastThatFits {B : BX} {a : Nat → Nat} {g : GX} {s1 : Nat} {M : S0} {p2 : Int32} {p3 : Int32} {Q : Int32 → S0 → Prop} (hp_s1 : isSheet s1) (h : w5_leastThatFits g s1 M p2 p3 Q) : KI B (wl (66 + 3 * g.2) a (shX B.2.1 a g.1)) yX5_leastThatFits cX5_leastThatFits 5 (some .int) 5 120 [.ref (a 0), .ref (a s1), .int p2, .int p3] M Q := by
  rw [w5_leastThatFits] at h
  refine KI_of (by decide +kernel) (Nat.le_of_ble_eq_true rfl) (fun E C hR => ?_)
  change V B E 5 (wl (66 + 3 * g.2) a (shX B.2.1 a g.1) M) 0 [(0, .ref (a 0)), (1, .ref (a s1)), (2, .int p2), (3, .int p3)] []
  change Ok B E cX5_leastThatFits 5 RX5 5 120 at C
  refine v_iconst C dX5_leastThatFits_0 (v := (0 : Int32)) (by decide) ?_
  refine v_istore (lv' := [(4, .int (0 : Int32)), (0, .ref (a 0)), (1, .ref (a s1)), (2, .int p2), (3, .int p3)]) C dX5_leastThatFits_1 (by decide) rfl ?_
  obtain ⟨n1, h⟩ := h
  refine v_sub [1, 2, 3, 4, 0] rfl ?_
  exact t5_leastThatFits_b3 hp_s1  C hR  n1 M p2 p3 (0 : Int32)  h
