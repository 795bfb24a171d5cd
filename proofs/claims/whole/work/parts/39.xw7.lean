def w_OX (g : GX) : Nat → Nat → Nat → S0 → Int32 → Int32 → Int32 → Int32 → (S0 → Prop) → Prop
  | 0, _, _, _, _, _, _, _, _ => False
  | d + 1, i, c1, M, p2, p3, p4, p5, Q => match i with
    | _ => w5_tryOrders_body g (w_OX g d) c1 M p2 p3 p4 p5 Q
theorem c_OX {B : BX} {a : Nat → Nat} {g : GX} : ∀ d : Nat, (∀ (c1 : Nat) (M : S0) (p2 : Int32) (p3 : Int32) (p4 : Int32) (p5 : Int32) (Q : S0 → Prop), isClub c1 → w_OX g d 0 c1 M p2 p3 p4 p5 Q → KV B (wl (66 + 3 * g.2) a (shX B.2.1 a g.1)) yX5_tryOrders cX5_tryOrders 8 none (5 + d) (120 + 27 * d) [.ref (a 0), .ref (a c1), .int p2, .int p3, .int p4, .int p5] M Q) := by
  intro d
  induction d with
  | zero => exact fun _ _ _ _ _ _ _ _ h => h.elim
  | succ d ih =>
    exact fun c1 M p2 p3 p4 p5 Q hp_c1 h => c5_tryOrders_body (frr := 5 + d) (loo := 120 + 27 * d) hp_c1 ih (by omega) (by omega) h
theorem c5_tryOrders {B : BX} {a : Nat → Nat} {g : GX} (d : Nat) {c1 : Nat} {M : S0} {p2 : Int32} {p3 : Int32} {p4 : Int32} {p5 : Int32} {Q : S0 → Prop} (hp_c1 : isClub c1) (h : w_OX g d 0 c1 M p2 p3 p4 p5 Q) : KV B (wl (66 + 3 * g.2) a (shX B.2.1 a g.1)) yX5_tryOrders cX5_tryOrders 8 none (5 + d) (120 + 27 * d) [.ref (a 0), .ref (a c1), .int p2, .int p3, .int p4, .int p5] M Q := (c_OX d) _ _ _ _ _ _ _ hp_c1 h
def w5_order (g : GX) (M : S0) (p1 : Int32) (p2 : Int32) (Q : Int32 → S0 → Prop) : Prop :=
    w0_isPlayer g 10 M p1 (fun r2 M1 => ((r2 = 0) → (Q (-2 : Int32) M1)) ∧ ((¬ r2 = 0) → (w5_isWithin g M1 p2 (0 : Int32) (1 : Int32) (fun r4 M3 => ((¬ r4 = 0) → (∀ M5 : S0, M5 = up M3 0 8 (-1 : Int32) → (∀ M6 : S0, M6 = up M5 0 9 (0 : Int32) → (∃ d, d ≤ 10 ∧ w_OX g d 0 10 M6 p1 (0 : Int32) ((1 : Int32) <<< (p1 &&& 31)) (0 : Int32) (fun M8 => ((¬ p2 = 0) → (Q (M8 0 8) M8)) ∧ ((p2 = 0) → (Q (M8 0 9) M8))))))) ∧ ((r4 = 0) → (Q (-2 : Int32) M3))))))
set_option maxHeartbeats 4000000 in
set_option maxRecDepth 20000 in
theorem c5_order {B : BX} {a : Nat → Nat} {g : GX} {M : S0} {p1 : Int32} {p2 : Int32} {Q : Int32 → S0 → Prop} (h : w5_order g M p1 p2 Q) : KI B (wl (66 + 3 * g.2) a (shX B.2.1 a g.1)) yX5_order cX5_order 3 (some .int) 16 417 [.ref (a 0), .int p1, .int p2] M Q := by
  rw [w5_order] at h
  refine KI_of (by decide +kernel) (Nat.le_of_ble_eq_true rfl) (fun E C hR => ?_)
  change V B E 3 (wl (66 + 3 * g.2) a (shX B.2.1 a g.1) M) 0 [(0, .ref (a 0)), (1, .int p1), (2, .int p2)] []
  change Ok B E cX5_order 3 RX5 16 417 at C
  refine v_aload_n C 0 dX5_order_0 rfl rfl ?_
  refine fX5_5_g_now C dX5_order_1 ?_
  refine v_iload_n C 1 dX5_order_4 rfl rfl ?_
  refine v_callVi (k := 10) (As := [.int p1]) (rest := []) C (c0_isPlayer cl_10 h) eX5_90 (by omega) (by omega) (xlt_c (j := 0) cl_10 (by decide)) (sh_c0 cl_10 _) rfl rfl rfl (Nat.le_of_ble_eq_true rfl) dX5_order_5 (fun r2 M1 h => ?_)
  refine v_if_eq C dX5_order_8 (tgt := 20) (by decide) (fun c => ?_) (fun c => ?_)
  · replace h := h.1 c
    refine v_bipush C dX5_order_20 (v := (-2 : Int32)) (by decide) ?_
    exact hR _ _ _ _ h dX5_order_22
  · replace h := h.2 c
    refine v_iload_n C 2 dX5_order_11 rfl rfl ?_
    refine v_iconst C dX5_order_12 (v := (0 : Int32)) (by decide) ?_
    refine v_iconst C dX5_order_13 (v := (1 : Int32)) (by decide) ?_
    refine v_callSi (As := [.int p2, .int (0 : Int32), .int (1 : Int32)]) (rest := []) C (c5_isWithin  h) eX5_82 (by omega) (by omega) rfl rfl (Nat.le_of_ble_eq_true rfl) dX5_order_14 (fun r4 M3 h => ?_)
    refine v_if_ne C dX5_order_17 (tgt := 23) (by decide) (fun c => ?_) (fun c => ?_)
    · replace h := h.1 c
      refine v_aload_n C 0 dX5_order_23 rfl rfl ?_
      refine v_iconst C dX5_order_24 (v := (-1 : Int32)) (by decide) ?_
      refine fX5_5_p_mostByOrder C dX5_order_25 (fun M5 eM5 => ?_)
      replace h := h M5 eM5
      refine v_aload_n C 0 dX5_order_28 rfl rfl ?_
      refine v_iconst C dX5_order_29 (v := (0 : Int32)) (by decide) ?_
      refine fX5_5_p_firstOrder C dX5_order_30 (fun M6 eM6 => ?_)
      replace h := h M6 eM6
      refine v_aload_n C 0 dX5_order_33 rfl rfl ?_
      refine v_aload_n C 0 dX5_order_34 rfl rfl ?_
      refine fX5_5_g_now C dX5_order_35 ?_
      refine v_iload_n C 1 dX5_order_38 rfl rfl ?_
      refine v_iconst C dX5_order_39 (v := (0 : Int32)) (by decide) ?_
      refine v_iconst C dX5_order_40 (v := (1 : Int32)) (by decide) ?_
      refine v_iload_n C 1 dX5_order_41 rfl rfl ?_
      refine v_ishl C dX5_order_42 ?_
      refine v_iconst C dX5_order_43 (v := (0 : Int32)) (by decide) ?_
      obtain ⟨d, hd7, h⟩ := h
      refine v_callVv (k := 0) (As := [.ref (a 10), .int p1, .int (0 : Int32), .int ((1 : Int32) <<< (p1 &&& 31)), .int (0 : Int32)]) (rest := []) C (c5_tryOrders d cl_10 h) eX5_205 (by omega) (by omega) (by omega) rfl rfl rfl rfl (Nat.le_of_ble_eq_true rfl) dX5_order_44 (fun M8 h => ?_)
      refine v_iload_n C 2 dX5_order_47 rfl rfl ?_
      refine v_if_ne C dX5_order_48 (tgt := 58) (by decide) (fun c => ?_) (fun c => ?_)
      · replace h := h.1 c
        refine v_aload_n C 0 dX5_order_58 rfl rfl ?_
        refine fX5_5_g_mostByOrder C dX5_order_59 ?_
        exact hR _ _ _ _ h dX5_order_62
      · replace h := h.2 c
        refine v_aload_n C 0 dX5_order_51 rfl rfl ?_
        refine fX5_5_g_firstOrder C dX5_order_52 ?_
        refine v_goto C dX5_order_55 (tgt := 62) (by decide) ?_
        exact hR _ _ _ _ h dX5_order_62
    · replace h := h.2 c
      refine v_bipush C dX5_order_20 (v := (-2 : Int32)) (by decide) ?_
      exact hR _ _ _ _ h dX5_order_22
def w5_whoCouldHaveAll_b35 (g : GX) (Rc : Nat → Nat → S0 → Int32 → Int32 → (Int32 → S0 → Prop) → Prop) (c1 : Nat) (K17 : S0 → Int32 → Int32 → Int32 → Int32 → Prop) (Q : Int32 → S0 → Prop) : Nat → S0 → Int32 → Int32 → Int32 → Int32 → Int32 → Prop
  | 0, _, _, _, _, _, _ => False
  | n + 1, M, v2_35, v3_35, v4_35, v5_35, v6_35 =>
    (((M 10 7) ≤ v6_35) → (∀ x6 : Int32, x6 = v5_35 + (1 : Int32) → (K17 M v2_35 v3_35 v4_35 x6))) ∧ ((¬ (M 10 7) ≤ v6_35) → (w5_thinkOn g c1 M v2_35 (fun r8 M7 => ((r8 = none) → (∀ x10 : Int32, x10 = v6_35 + (1 : Int32) → (w5_whoCouldHaveAll_b35 g Rc c1 K17 Q n M7 v2_35 v3_35 v4_35 v5_35 x10))) ∧ (∀ k9 : Nat, r8 = some k9 → ((isClub k9) ∧ (w0_meet g k9 M7 v5_35 v6_35 (fun r13 M12 => Rc 0 k9 M12 (v2_35 + (1 : Int32)) v3_35 (fun r15 M14 => ∀ x16 : Int32, x16 = (v4_35 ||| r15) → (∀ x17 : Int32, x17 = v6_35 + (1 : Int32) → (w5_whoCouldHaveAll_b35 g Rc c1 K17 Q n M14 v2_35 v3_35 x16 v5_35 x17))))))))))
set_option maxHeartbeats 4000000 in
set_option maxRecDepth 20000 in
theorem t5_whoCouldHaveAll_b35 {B : BX} {E : EX} {a : Nat → Nat} {g : GX} {Rc : Nat → Nat → S0 → Int32 → Int32 → (Int32 → S0 → Prop) → Prop} {frr loo : Nat} {c1 : Nat} {K17 : S0 → Int32 → Int32 → Int32 → Int32 → Prop} {Q : Int32 → S0 → Prop} (hp_c1 : isClub c1) (hRc0 : ∀ (c1 : Nat) (M : S0) (p2 : Int32) (p3 : Int32) (Q : Int32 → S0 → Prop), isClub c1 → Rc 0 c1 M p2 p3 Q → KI B (wl (66 + 3 * g.2) a (shX B.2.1 a g.1)) yX5_whoCouldHaveAll cX5_whoCouldHaveAll 8 (some .int) frr loo [.ref (a 0), .ref (a c1), .int p2, .int p3] M Q) (hfb : 5 ≤ frr) (hlb : 120 ≤ loo) (C : Ok B E cX5_whoCouldHaveAll 8 RX5 (frr + 1) (loo + 27)) (hR : RetI B E cX5_whoCouldHaveAll 8 (wl (66 + 3 * g.2) a (shX B.2.1 a g.1)) Q) (hK17 : ∀ (M : S0) (v2_17 : Int32) (v3_17 : Int32) (v4_17 : Int32) (v5_17 : Int32), K17 M v2_17 v3_17 v4_17 v5_17 → V B E 8 (wl (66 + 3 * g.2) a (shX B.2.1 a g.1) M) 17 [(0, .ref (a 0)), (1, .ref (a c1)), (2, .int v2_17), (3, .int v3_17), (4, .int v4_17), (5, .int v5_17)] []) : ∀ (n : Nat) (M : S0) (v2_35 : Int32) (v3_35 : Int32) (v4_35 : Int32) (v5_35 : Int32) (v6_35 : Int32), w5_whoCouldHaveAll_b35 g Rc c1 K17 Q n M v2_35 v3_35 v4_35 v5_35 v6_35 → V B E 8 (wl (66 + 3 * g.2) a (shX B.2.1 a g.1) M) 35 [(0, .ref (a 0)), (1, .ref (a c1)), (2, .int v2_35), (3, .int v3_35), (4, .int v4_35), (5, .int v5_35), (6, .int v6_35)] [] := by
  intro n
  induction n with
  | zero =>
    intro M v2_35 v3_35 v4_35 v5_35 v6_35  h
    exact h.elim
  | succ n ih =>
    intro M v2_35 v3_35 v4_35 v5_35 v6_35  h
    rw [w5_whoCouldHaveAll_b35] at h
    refine v_iload C 6 dX5_whoCouldHaveAll_35 rfl ?_
    refine v_aload_n C 0 dX5_whoCouldHaveAll_37 rfl rfl ?_
    refine fX5_5_g_now C dX5_whoCouldHaveAll_38 ?_
    refine fX5_0_g_many C cl_10 dX5_whoCouldHaveAll_41 ?_
    refine v_icmp_ge C dX5_whoCouldHaveAll_44 (tgt := 91) (by decide) (fun c => ?_) (fun c => ?_)
    · replace h := h.1 c
      obtain ⟨x6, ex6⟩ : ∃ z : Int32, z = v5_35 + (1 : Int32) := ⟨_, rfl⟩
      replace h := h x6 ex6
      refine v_iinc (v := x6) (lv' := [(5, .int x6), (0, .ref (a 0)), (1, .ref (a c1)), (2, .int v2_35), (3, .int v3_35), (4, .int v4_35), (6, .int v6_35)]) C 5 dX5_whoCouldHaveAll_91 rfl (by rw [ex6]; rfl) (by decide) rfl ?_
      refine v_goto C dX5_whoCouldHaveAll_94 (tgt := 17) (by decide) ?_
      refine v_sub [1, 2, 3, 4, 5, 0] rfl ?_
      exact hK17 M v2_35 v3_35 v4_35 x6  h
    · replace h := h.2 c
      refine v_aload_n C 0 dX5_whoCouldHaveAll_47 rfl rfl ?_
      refine v_aload_n C 1 dX5_whoCouldHaveAll_48 rfl rfl ?_
      refine v_iload_n C 2 dX5_whoCouldHaveAll_49 rfl rfl ?_
      refine v_callVa (k := 0) (As := [.ref (a c1), .int v2_35]) (rest := []) C (c5_thinkOn hp_c1 h) eX5_209 (by omega) (by omega) (by omega) rfl rfl rfl rfl (Nat.le_of_ble_eq_true rfl) dX5_whoCouldHaveAll_50 (fun r8 M7 h => ?_)
      rcases r8 with _ | k9
      · replace h := h.1 rfl
        change V _ _ _ _ _ _ (.null :: _)
        refine v_astoreN (lv' := [(7, .null), (0, .ref (a 0)), (1, .ref (a c1)), (2, .int v2_35), (3, .int v3_35), (4, .int v4_35), (5, .int v5_35), (6, .int v6_35)]) C dX5_whoCouldHaveAll_53 (by decide) rfl ?_
        refine v_aloadN C 0 dX5_whoCouldHaveAll_55 rfl ?_
        refine v_ifnullN C dX5_whoCouldHaveAll_57 (tgt := 85) (by decide) ?_
        obtain ⟨x10, ex10⟩ : ∃ z : Int32, z = v6_35 + (1 : Int32) := ⟨_, rfl⟩
        replace h := h x10 ex10
        refine v_iinc (v := x10) (lv' := [(6, .int x10), (7, .null), (0, .ref (a 0)), (1, .ref (a c1)), (2, .int v2_35), (3, .int v3_35), (4, .int v4_35), (5, .int v5_35)]) C 7 dX5_whoCouldHaveAll_85 rfl (by rw [ex10]; rfl) (by decide) rfl ?_
        refine v_goto C dX5_whoCouldHaveAll_88 (tgt := 35) (by decide) ?_
        refine v_sub [2, 3, 4, 5, 6, 7, 0] rfl ?_
        exact ih M7 v2_35 v3_35 v4_35 v5_35 x10  h
      · replace h := h.2 k9 rfl
        change V _ _ _ _ _ _ (.ref (a k9) :: _)
        refine v_astore (lv' := [(7, .ref (a k9)), (0, .ref (a 0)), (1, .ref (a c1)), (2, .int v2_35), (3, .int v3_35), (4, .int v4_35), (5, .int v5_35), (6, .int v6_35)]) C dX5_whoCouldHaveAll_53 (by decide) rfl ?_
        refine v_aload C 0 dX5_whoCouldHaveAll_55 rfl ?_
        refine v_ifnull C dX5_whoCouldHaveAll_57 ?_
        refine v_aload C 0 dX5_whoCouldHaveAll_60 rfl ?_
        refine v_iload C 6 dX5_whoCouldHaveAll_62 rfl ?_
        refine v_iload C 7 dX5_whoCouldHaveAll_64 rfl ?_
        obtain ⟨hf11, h⟩ := h
        refine v_callVi (k := k9) (As := [.int v5_35, .int v6_35]) (rest := []) C (c0_meet hf11 h) eX5_137 (by omega) (by omega) (xlt_c (j := 0) hf11 (by decide)) (sh_c0 hf11 _) rfl rfl rfl (Nat.le_of_ble_eq_true rfl) dX5_whoCouldHaveAll_66 (fun r13 M12 h => ?_)
        refine v_pop C dX5_whoCouldHaveAll_69 rfl ?_
        refine v_iload C 5 dX5_whoCouldHaveAll_70 rfl ?_
        refine v_aload_n C 1 dX5_whoCouldHaveAll_72 rfl rfl ?_
        refine v_aload C 0 dX5_whoCouldHaveAll_73 rfl ?_
        refine v_iload_n C 3 dX5_whoCouldHaveAll_75 rfl rfl ?_
        refine v_iconst C dX5_whoCouldHaveAll_76 (v := (1 : Int32)) (by decide) ?_
        refine v_iadd C dX5_whoCouldHaveAll_77 ?_
        refine v_iload_n C 4 dX5_whoCouldHaveAll_78 rfl rfl ?_
        refine v_callVi (k := 0) (As := [.ref (a k9), .int (v2_35 + (1 : Int32)), .int v3_35]) (rest := [.int v4_35]) C (hRc0 _ _ _ _ _ hf11 h) eX5_213 (by omega) (by omega) (by omega) rfl rfl rfl rfl (Nat.le_of_ble_eq_true rfl) dX5_whoCouldHaveAll_79 (fun r15 M14 h => ?_)
        refine v_ior C dX5_whoCouldHaveAll_82 ?_
        refine v_nmi (fun x16 ex16 => ?_)
        replace h := h x16 ex16
        refine v_istore (lv' := [(4, .int x16), (7, .ref (a k9)), (0, .ref (a 0)), (1, .ref (a c1)), (2, .int v2_35), (3, .int v3_35), (5, .int v5_35), (6, .int v6_35)]) C dX5_whoCouldHaveAll_83 (by decide) rfl ?_
        obtain ⟨x17, ex17⟩ : ∃ z : Int32, z = v6_35 + (1 : Int32) := ⟨_, rfl⟩
        replace h := h x17 ex17
        refine v_iinc (v := x17) (lv' := [(6, .int x17), (4, .int x16), (7, .ref (a k9)), (0, .ref (a 0)), (1, .ref (a c1)), (2, .int v2_35), (3, .int v3_35), (5, .int v5_35)]) C 7 dX5_whoCouldHaveAll_85 rfl (by rw [ex17]; rfl) (by decide) rfl ?_
        refine v_goto C dX5_whoCouldHaveAll_88 (tgt := 35) (by decide) ?_
        refine v_sub [3, 4, 5, 6, 1, 7, 0] rfl ?_
        exact ih M14 v2_35 v3_35 x16 v5_35 x17  h
def w5_whoCouldHaveAll_b17 (g : GX) (Rc : Nat → Nat → S0 → Int32 → Int32 → (Int32 → S0 → Prop) → Prop) (c1 : Nat) (Q : Int32 → S0 → Prop) : Nat → S0 → Int32 → Int32 → Int32 → Int32 → Prop
  | 0, _, _, _, _, _ => False
  | n + 1, M, v2_17, v3_17, v4_17, v5_17 =>
    (((M 10 7) ≤ v5_17) → (Q v4_17 M)) ∧ ((¬ (M 10 7) ≤ v5_17) → (∀ x4 : Int32, x4 = (v5_17 + (1 : Int32)) → (∃ n5, w5_whoCouldHaveAll_b35 g Rc c1 (w5_whoCouldHaveAll_b17 g Rc c1  Q n) Q n5 M v2_17 v3_17 v4_17 v5_17 x4)))
set_option maxHeartbeats 4000000 in
set_option maxRecDepth 20000 in
theorem t5_whoCouldHaveAll_b17 {B : BX} {E : EX} {a : Nat → Nat} {g : GX} {Rc : Nat → Nat → S0 → Int32 → Int32 → (Int32 → S0 → Prop) → Prop} {frr loo : Nat} {c1 : Nat} {Q : Int32 → S0 → Prop} (hp_c1 : isClub c1) (hRc0 : ∀ (c1 : Nat) (M : S0) (p2 : Int32) (p3 : Int32) (Q : Int32 → S0 → Prop), isClub c1 → Rc 0 c1 M p2 p3 Q → KI B (wl (66 + 3 * g.2) a (shX B.2.1 a g.1)) yX5_whoCouldHaveAll cX5_whoCouldHaveAll 8 (some .int) frr loo [.ref (a 0), .ref (a c1), .int p2, .int p3] M Q) (hfb : 5 ≤ frr) (hlb : 120 ≤ loo) (C : Ok B E cX5_whoCouldHaveAll 8 RX5 (frr + 1) (loo + 27)) (hR : RetI B E cX5_whoCouldHaveAll 8 (wl (66 + 3 * g.2) a (shX B.2.1 a g.1)) Q) : ∀ (n : Nat) (M : S0) (v2_17 : Int32) (v3_17 : Int32) (v4_17 : Int32) (v5_17 : Int32), w5_whoCouldHaveAll_b17 g Rc c1  Q n M v2_17 v3_17 v4_17 v5_17 → V B E 8 (wl (66 + 3 * g.2) a (shX B.2.1 a g.1) M) 17 [(0, .ref (a 0)), (1, .ref (a c1)), (2, .int v2_17), (3, .int v3_17), (4, .int v4_17), (5, .int v5_17)] [] := by
  intro n
  induction n with
  | zero =>
    intro M v2_17 v3_17 v4_17 v5_17  h
    exact h.elim
  | succ n ih =>
    intro M v2_17 v3_17 v4_17 v5_17  h
    rw [w5_whoCouldHaveAll_b17] at h
    refine v_iload C 5 dX5_whoCouldHaveAll_17 rfl ?_
    refine v_aload_n C 0 dX5_whoCouldHaveAll_19 rfl rfl ?_
    refine fX5_5_g_now C dX5_whoCouldHaveAll_20 ?_
    refine fX5_0_g_many C cl_10 dX5_whoCouldHaveAll_23 ?_
    refine v_icmp_ge C dX5_whoCouldHaveAll_26 (tgt := 97) (by decide) (fun c => ?_) (fun c => ?_)
    · replace h := h.1 c
      refine v_iload C 4 dX5_whoCouldHaveAll_97 rfl ?_
      exact hR _ _ _ _ h dX5_whoCouldHaveAll_99
    · replace h := h.2 c
      refine v_iload C 5 dX5_whoCouldHaveAll_29 rfl ?_
      refine v_iconst C dX5_whoCouldHaveAll_31 (v := (1 : Int32)) (by decide) ?_
      refine v_iadd C dX5_whoCouldHaveAll_32 ?_
      refine v_nmi (fun x4 ex4 => ?_)
      replace h := h x4 ex4
      refine v_istore (lv' := [(6, .int x4), (0, .ref (a 0)), (1, .ref (a c1)), (2, .int v2_17), (3, .int v3_17), (4, .int v4_17), (5, .int v5_17)]) C dX5_whoCouldHaveAll_33 (by decide) rfl ?_
      obtain ⟨n5, h⟩ := h
      refine v_sub [1, 2, 3, 4, 5, 6, 0] rfl ?_
      exact t5_whoCouldHaveAll_b35 hp_c1 hRc0 hfb hlb C hR ih n5 M v2_17 v3_17 v4_17 v5_17 x4  h
def w5_whoCouldHaveAll_body (g : GX) (Rc : Nat → Nat → S0 → Int32 → Int32 → (Int32 → S0 → Prop) → Prop) (c1 : Nat) (M : S0) (p2 : Int32) (p3 : Int32) (Q : Int32 → S0 → Prop) : Prop :=
    w0_whoHasAll g c1 M (fun r2 M1 => ((p2 < p3) → (∃ n3, w5_whoCouldHaveAll_b17 g Rc c1  Q n3 M1 p2 p3 r2 (0 : Int32))) ∧ ((¬ p2 < p3) → (Q r2 M1)))
set_option maxHeartbeats 4000000 in
set_option maxRecDepth 20000 in
theorem c5_whoCouldHaveAll_body {B : BX} {a : Nat → Nat} {g : GX} {Rc : Nat → Nat → S0 → Int32 → Int32 → (Int32 → S0 → Prop) → Prop} {frr loo : Nat} {c1 : Nat} {M : S0} {p2 : Int32} {p3 : Int32} {Q : Int32 → S0 → Prop} (hp_c1 : isClub c1) (hRc0 : ∀ (c1 : Nat) (M : S0) (p2 : Int32) (p3 : Int32) (Q : Int32 → S0 → Prop), isClub c1 → Rc 0 c1 M p2 p3 Q → KI B (wl (66 + 3 * g.2) a (shX B.2.1 a g.1)) yX5_whoCouldHaveAll cX5_whoCouldHaveAll 8 (some .int) frr loo [.ref (a 0), .ref (a c1), .int p2, .int p3] M Q) (hfb : 5 ≤ frr) (hlb : 120 ≤ loo) (h : w5_whoCouldHaveAll_body g Rc c1 M p2 p3 Q) : KI B (wl (66 + 3 * g.2) a (shX B.2.1 a g.1)) yX5_whoCouldHaveAll cX5_whoCouldHaveAll 8 (some .int) (frr + 1) (loo + 27) [.ref (a 0), .ref (a c1), .int p2, .int p3] M Q := by
  rw [w5_whoCouldHaveAll_body] at h
  refine KI_of (by decide +kernel) (Nat.le_of_ble_eq_true rfl) (fun E C hR => ?_)
  change V B E 8 (wl (66 + 3 * g.2) a (shX B.2.1 a g.1) M) 0 [(0, .ref (a 0)), (1, .ref (a c1)), (2, .int p2), (3, .int p3)] []
  change Ok B E cX5_whoCouldHaveAll 8 RX5 (frr + 1) (loo + 27) at C
  refine v_aload_n C 1 dX5_whoCouldHaveAll_0 rfl rfl ?_
  refine v_callVi (k := c1) (As := []) (rest := []) C (c0_whoHasAll hp_c1 h) eX5_217 (by omega) (by omega) (xlt_c (j := 0) hp_c1 (by decide)) (sh_c0 hp_c1 _) rfl rfl rfl (Nat.le_of_ble_eq_true rfl) dX5_whoCouldHaveAll_1 (fun r2 M1 h => ?_)
  refine v_istore (lv' := [(4, .int r2), (0, .ref (a 0)), (1, .ref (a c1)), (2, .int p2), (3, .int p3)]) C dX5_whoCouldHaveAll_4 (by decide) rfl ?_
  refine v_iload_n C 3 dX5_whoCouldHaveAll_6 rfl rfl ?_
  refine v_iload_n C 4 dX5_whoCouldHaveAll_7 rfl rfl ?_
  refine v_icmp_lt C dX5_whoCouldHaveAll_8 (tgt := 14) (by decide) (fun c => ?_) (fun c => ?_)
  · replace h := h.1 c
    refine v_iconst C dX5_whoCouldHaveAll_14 (v := (0 : Int32)) (by decide) ?_
    refine v_istore (lv' := [(5, .int (0 : Int32)), (4, .int r2), (0, .ref (a 0)), (1, .ref (a c1)), (2, .int p2), (3, .int p3)]) C dX5_whoCouldHaveAll_15 (by decide) rfl ?_
    obtain ⟨n3, h⟩ := h
    refine v_sub [2, 3, 4, 5, 1, 0] rfl ?_
    exact t5_whoCouldHaveAll_b17 hp_c1 hRc0 hfb hlb C hR  n3 M1 p2 p3 r2 (0 : Int32)  h
  · replace h := h.2 c
    refine v_iload C 0 dX5_whoCouldHaveAll_11 rfl ?_
    exact hR _ _ _ _ h dX5_whoCouldHaveAll_13
def w_WX (g : GX) : Nat → Nat → Nat → S0 → Int32 → Int32 → (Int32 → S0 → Prop) → Prop
  | 0, _, _, _, _, _, _ => False
  | d + 1, i, c1, M, p2, p3, Q => match i with
    | _ => w5_whoCouldHaveAll_body g (w_WX g d) c1 M p2 p3 Q
theorem c_WX {B : BX} {a : Nat → Nat} {g : GX} : ∀ d : Nat, (∀ (c1 : Nat) (M : S0) (p2 : Int32) (p3 : Int32) (Q : Int32 → S0 → Prop), isClub c1 → w_WX g d 0 c1 M p2 p3 Q → KI B (wl (66 + 3 * g.2) a (shX B.2.1 a g.1)) yX5_whoCouldHaveAll cX5_whoCouldHaveAll 8 (some .int) (5 + d) (120 + 27 * d) [.ref (a 0), .ref (a c1), .int p2, .int p3] M Q) := by
  intro d
  induction d with
  | zero => exact fun _ _ _ _ _ _ h => h.elim
  | succ d ih =>
    exact fun c1 M p2 p3 Q hp_c1 h => c5_whoCouldHaveAll_body (frr := 5 + d) (loo := 120 + 27 * d) hp_c1 ih (by omega) (by omega) h
theorem c5_whoCouldHaveAll {B : BX} {a : Nat → Nat} {g : GX} (d : Nat) {c1 : Nat} {M : S0} {p2 : Int32} {p3 : Int32} {Q : Int32 → S0 → Prop} (hp_c1 : isClub c1) (h : w_WX g d 0 c1 M p2 p3 Q) : KI B (wl (66 + 3 * g.2) a (shX B.2.1 a g.1)) yX5_whoCouldHaveAll cX5_whoCouldHaveAll 8 (some .int) (5 + d) (120 + 27 * d) [.ref (a 0), .ref (a c1), .int p2, .int p3] M Q := (c_WX d) _ _ _ _ _ hp_c1 h
def w5_all (g : GX) (M : S0) (p1 : Int32) (Q : Int32 → S0 → Prop) : Prop :=
    w5_isWithin g M p1 (0 : Int32) (3 : Int32) (fun r2 M1 => ((¬ r2 = 0) → (((¬ p1 = (3 : Int32)) → (∃ d, d ≤ 8 ∧ w_WX g d 0 10 M1 (0 : Int32) p1 (fun r5 M4 => Q r5 M4))) ∧ ((p1 = (3 : Int32)) → ((((M1 10 7) ≤ (4 : Int32)) → (∃ d, d ≤ 8 ∧ w_WX g d 0 10 M1 (0 : Int32) p1 (fun r8 M7 => Q r8 M7))) ∧ ((¬ (M1 10 7) ≤ (4 : Int32)) → (Q (-3 : Int32) M1)))))) ∧ ((r2 = 0) → (Q (-2 : Int32) M1)))
set_option maxHeartbeats 4000000 in
set_option maxRecDepth 20000 in
theorem c5_all {B : BX} {a : Nat → Nat} {g : GX} {M : S0} {p1 : Int32} {Q : Int32 → S0 → Prop} (h : w5_all g M p1 Q) : KI B (wl (66 + 3 * g.2) a (shX B.2.1 a g.1)) yX5_all cX5_all 2 (some .int) 14 363 [.ref (a 0), .int p1] M Q := by
  rw [w5_all] at h
  refine KI_of (by decide +kernel) (Nat.le_of_ble_eq_true rfl) (fun E C hR => ?_)
  change V B E 2 (wl (66 + 3 * g.2) a (shX B.2.1 a g.1) M) 0 [(0, .ref (a 0)), (1, .int p1)] []
  change Ok B E cX5_all 2 RX5 14 363 at C
  refine v_iload_n C 1 dX5_all_0 rfl rfl ?_
  refine v_iconst C dX5_all_1 (v := (0 : Int32)) (by decide) ?_
  refine v_iconst C dX5_all_2 (v := (3 : Int32)) (by decide) ?_
  refine v_callSi (As := [.int p1, .int (0 : Int32), .int (3 : Int32)]) (rest := []) C (c5_isWithin  h) eX5_82 (by omega) (by omega) rfl rfl (Nat.le_of_ble_eq_true rfl) dX5_all_3 (fun r2 M1 h => ?_)
  refine v_if_ne C dX5_all_6 (tgt := 12) (by decide) (fun c => ?_) (fun c => ?_)
  · replace h := h.1 c
    refine v_iload_n C 1 dX5_all_12 rfl rfl ?_
    refine v_iconst C dX5_all_13 (v := (3 : Int32)) (by decide) ?_
    refine v_icmp_ne C dX5_all_14 (tgt := 31) (by decide) (fun c => ?_) (fun c => ?_)
    · replace h := h.1 c
      refine v_aload_n C 0 dX5_all_31 rfl rfl ?_
      refine v_aload_n C 0 dX5_all_32 rfl rfl ?_
      refine fX5_5_g_now C dX5_all_33 ?_
      refine v_iconst C dX5_all_36 (v := (0 : Int32)) (by decide) ?_
      refine v_iload_n C 1 dX5_all_37 rfl rfl ?_
      obtain ⟨d, hd3, h⟩ := h
      refine v_callVi (k := 0) (As := [.ref (a 10), .int (0 : Int32), .int p1]) (rest := []) C (c5_whoCouldHaveAll d cl_10 h) eX5_213 (by omega) (by omega) (by omega) rfl rfl rfl rfl (Nat.le_of_ble_eq_true rfl) dX5_all_38 (fun r5 M4 h => ?_)
      exact hR _ _ _ _ h dX5_all_41
    · replace h := h.2 c
      refine v_aload_n C 0 dX5_all_17 rfl rfl ?_
      refine fX5_5_g_now C dX5_all_18 ?_
      refine fX5_0_g_many C cl_10 dX5_all_21 ?_
      refine v_iconst C dX5_all_24 (v := (4 : Int32)) (by decide) ?_
      refine v_icmp_le C dX5_all_25 (tgt := 31) (by decide) (fun c => ?_) (fun c => ?_)
      · replace h := h.1 c
        refine v_aload_n C 0 dX5_all_31 rfl rfl ?_
        refine v_aload_n C 0 dX5_all_32 rfl rfl ?_
        refine fX5_5_g_now C dX5_all_33 ?_
        refine v_iconst C dX5_all_36 (v := (0 : Int32)) (by decide) ?_
        refine v_iload_n C 1 dX5_all_37 rfl rfl ?_
        obtain ⟨d, hd6, h⟩ := h
        refine v_callVi (k := 0) (As := [.ref (a 10), .int (0 : Int32), .int p1]) (rest := []) C (c5_whoCouldHaveAll d cl_10 h) eX5_213 (by omega) (by omega) (by omega) rfl rfl rfl rfl (Nat.le_of_ble_eq_true rfl) dX5_all_38 (fun r8 M7 h => ?_)
        exact hR _ _ _ _ h dX5_all_41
      · replace h := h.2 c
        refine v_bipush C dX5_all_28 (v := (-3 : Int32)) (by decide) ?_
        exact hR _ _ _ _ h dX5_all_30
  · replace h := h.2 c
    refine v_bipush C dX5_all_9 (v := (-2 : Int32)) (by decide) ?_
    exact hR _ _ _ _ h dX5_all_11
def w5_soon_b23 (g : GX) (Q : Int32 → S0 → Prop) : Nat → S0 → Int32 → Int32 → Nat → Int32 → Prop
  | 0, _, _, _, _, _ => False
  | n + 1, M, v1_23, v2_23, v3_23, v4_23 =>
    (((20 : Int32) < v4_23) → (Q (-1 : Int32) M)) ∧ ((¬ (20 : Int32) < v4_23) → ((vp_in v1_23 6) ∧ (((¬ (M (v3_23 + 5) (Int32.toNatClampNeg v1_23)) = 0) → (w0_meet g v3_23 M v1_23 v2_23 (fun r10 M9 => ∀ x11 : Int32, x11 = v4_23 + (1 : Int32) → (w5_soon_b23 g  Q n M9 v1_23 v2_23 v3_23 x11)))) ∧ (((M (v3_23 + 5) (Int32.toNatClampNeg v1_23)) = 0) → (Q v4_23 M)))))
set_option maxHeartbeats 4000000 in
set_option maxRecDepth 20000 in
theorem t5_soon_b23 {B : BX} {E : EX} {a : Nat → Nat} {g : GX} {Q : Int32 → S0 → Prop} (C : Ok B E cX5_soon 5 RX5 5 120) (hR : RetI B E cX5_soon 5 (wl (66 + 3 * g.2) a (shX B.2.1 a g.1)) Q) : ∀ (n : Nat) (M : S0) (v1_23 : Int32) (v2_23 : Int32) (v3_23 : Nat) (v4_23 : Int32), (hp_v3_23 : isClub v3_23) → w5_soon_b23 g  Q n M v1_23 v2_23 v3_23 v4_23 → V B E 5 (wl (66 + 3 * g.2) a (shX B.2.1 a g.1) M) 23 [(1, .int v1_23), (2, .int v2_23), (3, .ref (a v3_23)), (4, .int v4_23)] [] := by
  intro n
  induction n with
  | zero =>
    intro M v1_23 v2_23 v3_23 v4_23 hp_v3_23 h
    exact h.elim
  | succ n ih =>
    intro M v1_23 v2_23 v3_23 v4_23 hp_v3_23 h
    rw [w5_soon_b23] at h
    refine v_iload C 3 dX5_soon_23 rfl ?_
    refine v_bipush C dX5_soon_25 (v := (20 : Int32)) (by decide) ?_
    refine v_icmp_gt C dX5_soon_27 (tgt := 55) (by decide) (fun c => ?_) (fun c => ?_)
    · replace h := h.1 c
      refine v_iconst C dX5_soon_55 (v := (-1 : Int32)) (by decide) ?_
      exact hR _ _ _ _ h dX5_soon_56
    · replace h := h.2 c
      refine v_aload_n C 2 dX5_soon_30 rfl rfl ?_
      refine fX5_0_g_has C hp_v3_23 dX5_soon_31 ?_
      refine v_iload_n C 0 dX5_soon_34 rfl rfl ?_
      obtain ⟨hi8, h⟩ := h
      refine v_iald (k := (v3_23 + 5)) C (xlt_c hp_v3_23 (by decide)) (sh_ca (ca_of hp_v3_23 (by decide) (by decide)) _) hi8 dX5_soon_35 ?_
      refine v_if_ne C dX5_soon_36 (tgt := 42) (by decide) (fun c => ?_) (fun c => ?_)
      · replace h := h.1 c
        refine v_aload_n C 2 dX5_soon_42 rfl rfl ?_
        refine v_iload_n C 0 dX5_soon_43 rfl rfl ?_
        refine v_iload_n C 1 dX5_soon_44 rfl rfl ?_
        refine v_callVi (k := v3_23) (As := [.int v1_23, .int v2_23]) (rest := []) C (c0_meet hp_v3_23 h) eX5_137 (by omega) (by omega) (xlt_c (j := 0) hp_v3_23 (by decide)) (sh_c0 hp_v3_23 _) rfl rfl rfl (Nat.le_of_ble_eq_true rfl) dX5_soon_45 (fun r10 M9 h => ?_)
        refine v_pop C dX5_soon_48 rfl ?_
        obtain ⟨x11, ex11⟩ : ∃ z : Int32, z = v4_23 + (1 : Int32) := ⟨_, rfl⟩
        replace h := h x11 ex11
        refine v_iinc (v := x11) (lv' := [(4, .int x11), (1, .int v1_23), (2, .int v2_23), (3, .ref (a v3_23))]) C 3 dX5_soon_49 rfl (by rw [ex11]; rfl) (by decide) rfl ?_
        refine v_goto C dX5_soon_52 (tgt := 23) (by decide) ?_
        refine v_sub [1, 2, 3, 0] rfl ?_
        exact ih M9 v1_23 v2_23 v3_23 x11 hp_v3_23 h
      · replace h := h.2 c
        refine v_iload C 3 dX5_soon_39 rfl ?_
        exact hR _ _ _ _ h dX5_soon_41
def w5_soon (g : GX) (M : S0) (p1 : Int32) (p2 : Int32) (Q : Int32 → S0 → Prop) : Prop :=
    w0_areTwo g 10 M p1 p2 (fun r2 M1 => ((¬ r2 = 0) → (w5_think g M1 (fun r4 M3 => ((r4 = none) → (False)) ∧ (∀ k5 : Nat, r4 = some k5 → ((isClub k5) ∧ (∃ n7, w5_soon_b23 g  Q n7 M3 p1 p2 k5 (0 : Int32))))))) ∧ ((r2 = 0) → (Q (-2 : Int32) M1)))
set_option maxHeartbeats 4000000 in
set_option maxRecDepth 20000 in
theorem c5_soon {B : BX} {a : Nat → Nat} {g : GX} {M : S0} {p1 : Int32} {p2 : Int32} {Q : Int32 → S0 → Prop} (h : w5_soon g M p1 p2 Q) : KI B (wl (66 + 3 * g.2) a (shX B.2.1 a g.1)) yX5_soon cX5_soon 5 (some .int) 5 120 [.ref (a 0), .int p1, .int p2] M Q := by
  rw [w5_soon] at h
  refine KI_of (by decide +kernel) (Nat.le_of_ble_eq_true rfl) (fun E C hR => ?_)
  change V B E 5 (wl (66 + 3 * g.2) a (shX B.2.1 a g.1) M) 0 [(0, .ref (a 0)), (1, .int p1), (2, .int p2)] []
  change Ok B E cX5_soon 5 RX5 5 120 at C
  refine v_aload_n C 0 dX5_soon_0 rfl rfl ?_
  refine fX5_5_g_now C dX5_soon_1 ?_
  refine v_iload_n C 1 dX5_soon_4 rfl rfl ?_
  refine v_iload_n C 2 dX5_soon_5 rfl rfl ?_
  refine v_callVi (k := 10) (As := [.int p1, .int p2]) (rest := []) C (c0_areTwo cl_10 h) eX5_116 (by omega) (by omega) (xlt_c (j := 0) cl_10 (by decide)) (sh_c0 cl_10 _) rfl rfl rfl (Nat.le_of_ble_eq_true rfl) dX5_soon_6 (fun r2 M1 h => ?_)
  refine v_if_ne C dX5_soon_9 (tgt := 15) (by decide) (fun c => ?_) (fun c => ?_)
  · replace h := h.1 c
    refine v_aload_n C 0 dX5_soon_15 rfl rfl ?_
    refine v_callVa (k := 0) (As := []) (rest := []) C (c5_think  h) eX5_133 (by omega) (by omega) (by omega) rfl rfl rfl rfl (Nat.le_of_ble_eq_true rfl) dX5_soon_16 (fun r4 M3 h => ?_)
    rcases r4 with _ | k5
    · replace h := h.1 rfl
      change V _ _ _ _ _ _ (.null :: _)
      exact h.elim
    · replace h := h.2 k5 rfl
      change V _ _ _ _ _ _ (.ref (a k5) :: _)
      refine v_astore_n (lv' := [(3, .ref (a k5)), (0, .ref (a 0)), (1, .int p1), (2, .int p2)]) C dX5_soon_19 rfl (by decide) rfl ?_
      refine v_iconst C dX5_soon_20 (v := (0 : Int32)) (by decide) ?_
      refine v_istore (lv' := [(4, .int (0 : Int32)), (3, .ref (a k5)), (0, .ref (a 0)), (1, .int p1), (2, .int p2)]) C dX5_soon_21 (by decide) rfl ?_
      obtain ⟨hf6, h⟩ := h
      obtain ⟨n7, h⟩ := h
      refine v_sub [3, 4, 1, 0] rfl ?_
      exact t5_soon_b23   C hR  n7 M3 p1 p2 k5 (0 : Int32) hf6 h
  · replace h := h.2 c
    refine v_bipush C dX5_soon_12 (v := (-2 : Int32)) (by decide) ?_
    exact hR _ _ _ _ h dX5_soon_14
def w5_firstOtherwise_b2 (g : GX) (c1 : Nat) (s2 : Nat) (Q : Int32 → S0 → Prop) : Nat → S0 → Int32 → Int32 → Prop
  | 0, _, _, _ => False
  | n + 1, M, v2_2, v3_2 =>
    (((M c1 7) ≤ v3_2) → (Q (-1 : Int32) M)) ∧ ((¬ (M c1 7) ≤ v3_2) → (w0_power g c1 M v2_2 v3_2 (fun r3 M2 => w2_item g s2 M2 v3_2 (fun r5 M4 => ((r3 = r5) → (∀ x6 : Int32, x6 = v3_2 + (1 : Int32) → (w5_firstOtherwise_b2 g c1 s2  Q n M4 v2_2 x6))) ∧ ((¬ r3 = r5) → (Q v3_2 M4))))))
set_option maxHeartbeats 4000000 in
set_option maxRecDepth 20000 in
theorem t5_firstOtherwise_b2 {B : BX} {E : EX} {a : Nat → Nat} {g : GX} {c1 : Nat} {s2 : Nat} {Q : Int32 → S0 → Prop} (hp_c1 : isClub c1) (hp_s2 : isSheet s2) (C : Ok B E cX5_firstOtherwise 4 RX5 3 72) (hR : RetI B E cX5_firstOtherwise 4 (wl (66 + 3 * g.2) a (shX B.2.1 a g.1)) Q) : ∀ (n : Nat) (M : S0) (v2_2 : Int32) (v3_2 : Int32), w5_firstOtherwise_b2 g c1 s2  Q n M v2_2 v3_2 → V B E 4 (wl (66 + 3 * g.2) a (shX B.2.1 a g.1) M) 2 [(0, .ref (a c1)), (1, .ref (a s2)), (2, .int v2_2), (3, .int v3_2)] [] := by
  intro n
  induction n with
  | zero =>
    intro M v2_2 v3_2  h
    exact h.elim
  | succ n ih =>
    intro M v2_2 v3_2  h
    rw [w5_firstOtherwise_b2] at h
    refine v_iload_n C 3 dX5_firstOtherwise_2 rfl rfl ?_
    refine v_aload_n C 0 dX5_firstOtherwise_3 rfl rfl ?_
    refine fX5_0_g_many C hp_c1 dX5_firstOtherwise_4 ?_
    refine v_icmp_ge C dX5_firstOtherwise_7 (tgt := 32) (by decide) (fun c => ?_) (fun c => ?_)
    · replace h := h.1 c
      refine v_iconst C dX5_firstOtherwise_32 (v := (-1 : Int32)) (by decide) ?_
      exact hR _ _ _ _ h dX5_firstOtherwise_33
    · replace h := h.2 c
      refine v_aload_n C 0 dX5_firstOtherwise_10 rfl rfl ?_
      refine v_iload_n C 2 dX5_firstOtherwise_11 rfl rfl ?_
      refine v_iload_n C 3 dX5_firstOtherwise_12 rfl rfl ?_
      refine v_callVi (k := c1) (As := [.int v2_2, .int v3_2]) (rest := []) C (c0_power hp_c1 h) eX5_120 (by omega) (by omega) (xlt_c (j := 0) hp_c1 (by decide)) (sh_c0 hp_c1 _) rfl rfl rfl (Nat.le_of_ble_eq_true rfl) dX5_firstOtherwise_13 (fun r3 M2 h => ?_)
      refine v_aload_n C 1 dX5_firstOtherwise_16 rfl rfl ?_
      refine v_iload_n C 3 dX5_firstOtherwise_17 rfl rfl ?_
      refine v_callVi (k := s2) (As := [.int v3_2]) (rest := [.int r3]) C (c2_item hp_s2 h) eX5_179 (by omega) (by omega) (xlt_s (j := 0) hp_s2 (by decide)) (sh_s0 hp_s2 _) rfl rfl rfl (Nat.le_of_ble_eq_true rfl) dX5_firstOtherwise_18 (fun r5 M4 h => ?_)
      refine v_icmp_eq C dX5_firstOtherwise_21 (tgt := 26) (by decide) (fun c => ?_) (fun c => ?_)
      · replace h := h.1 c
        obtain ⟨x6, ex6⟩ : ∃ z : Int32, z = v3_2 + (1 : Int32) := ⟨_, rfl⟩
        replace h := h x6 ex6
        refine v_iinc (v := x6) (lv' := [(3, .int x6), (0, .ref (a c1)), (1, .ref (a s2)), (2, .int v2_2)]) C 3 dX5_firstOtherwise_26 rfl (by rw [ex6]; rfl) (by decide) rfl ?_
        refine v_goto C dX5_firstOtherwise_29 (tgt := 2) (by decide) ?_
        refine v_sub [1, 2, 3, 0] rfl ?_
        exact ih M4 v2_2 x6  h
      · replace h := h.2 c
        refine v_iload_n C 3 dX5_firstOtherwise_24 rfl rfl ?_
        exact hR _ _ _ _ h dX5_firstOtherwise_25
def w5_firstOtherwise (g : GX) (c1 : Nat) (s2 : Nat) (M : S0) (p3 : Int32) (Q : Int32 → S0 → Prop) : Prop :=
    ∃ n1, w5_firstOtherwise_b2 g c1 s2  Q n1 M p3 (0 : Int32)
set_option maxHeartbeats 4000000 in
set_option maxRecDepth 20000 in
theorem c5_firstOtherwise {B : BX} {a : Nat → Nat} {g : GX} {c1 : Nat} {s2 : Nat} {M : S0} {p3 : Int32} {Q : Int32 → S0 → Prop} (hp_c1 : isClub c1) (hp_s2 : isSheet s2) (h : w5_firstOtherwise g c1 s2 M p3 Q) : KI B (wl (66 + 3 * g.2) a (shX B.2.1 a g.1)) yX5_firstOtherwise cX5_firstOtherwise 4 (some .int) 3 72 [.ref (a c1), .ref (a s2), .int p3] M Q := by
  rw [w5_firstOtherwise] at h
  refine KI_of (by decide +kernel) (Nat.le_of_ble_eq_true rfl) (fun E C hR => ?_)
  change V B E 4 (wl (66 + 3 * g.2) a (shX B.2.1 a g.1) M) 0 [(0, .ref (a c1)), (1, .ref (a s2)), (2, .int p3)] []
  change Ok B E cX5_firstOtherwise 4 RX5 3 72 at C
  refine v_iconst C dX5_firstOtherwise_0 (v := (0 : Int32)) (by decide) ?_
  refine v_istore_n (lv' := [(3, .int (0 : Int32)), (0, .ref (a c1)), (1, .ref (a s2)), (2, .int p3)]) C dX5_firstOtherwise_1 rfl (by decide) rfl ?_
  obtain ⟨n1, h⟩ := h
  refine v_sub [1, 2, 3, 0] rfl ?_
  exact t5_firstOtherwise_b2 hp_c1 hp_s2  C hR  n1 M p3 (0 : Int32)  h
def w5_fits (g : GX) (s1 : Nat) (M : S0) (p2 : Int32) (p3 : Int32) (p4 : Int32) (Q : Int32 → S0 → Prop) : Prop :=
    w5_think g M (fun r2 M1 => ((r2 = none) → (False)) ∧ (∀ k3 : Nat, r2 = some k3 → ((isClub k3) ∧ (w0_isPlayer g k3 M1 p2 (fun r6 M5 => ((¬ r6 = 0) → (((¬ p3 = 0) → (∀ M7 : S0, M7 = up M5 k3 8 p4 → (w5_firstOtherwise g k3 s1 M7 p2 (fun r9 M8 => ((¬ r9 = (-1 : Int32)) → (Q (0 : Int32) M8)) ∧ ((r9 = (-1 : Int32)) → (Q (1 : Int32) M8)))))) ∧ ((p3 = 0) → ((vp_in p2 6) ∧ (∀ M11 : S0, M11 = up M5 (k3 + 3) (Int32.toNatClampNeg p2) p4 → (w5_firstOtherwise g k3 s1 M11 p2 (fun r13 M12 => ((¬ r13 = (-1 : Int32)) → (Q (0 : Int32) M12)) ∧ ((r13 = (-1 : Int32)) → (Q (1 : Int32) M12))))))))) ∧ ((r6 = 0) → (Q (0 : Int32) M5)))))))
set_option maxHeartbeats 4000000 in
set_option maxRecDepth 20000 in
theorem c5_fits {B : BX} {a : Nat → Nat} {g : GX} {s1 : Nat} {M : S0} {p2 : Int32} {p3 : Int32} {p4 : Int32} {Q : Int32 → S0 → Prop} (hp_s1 : isSheet s1) (h : w5_fits g s1 M p2 p3 p4 Q) : KI B (wl (66 + 3 * g.2) a (shX B.2.1 a g.1)) yX5_fits cX5_fits 6 (some .boolean) 4 95 [.ref (a 0), .ref (a s1), .int p2, .int p3, .int p4] M Q := by
  rw [w5_fits] at h
  refine KZ_of (by decide +kernel) (Nat.le_of_ble_eq_true rfl) (fun E C hR => ?_)
  change V B E 6 (wl (66 + 3 * g.2) a (shX B.2.1 a g.1) M) 0 [(0, .ref (a 0)), (1, .ref (a s1)), (2, .int p2), (3, .int p3), (4, .int p4)] []
  change Ok B E cX5_fits 6 RX5 4 95 at C
  refine v_aload_n C 0 dX5_fits_0 rfl rfl ?_
  refine v_callVa (k := 0) (As := []) (rest := []) C (c5_think  h) eX5_133 (by omega) (by omega) (by omega) rfl rfl rfl rfl (Nat.le_of_ble_eq_true rfl) dX5_fits_1 (fun r2 M1 h => ?_)
  rcases r2 with _ | k3
  · replace h := h.1 rfl
    change V _ _ _ _ _ _ (.null :: _)
    exact h.elim
  · replace h := h.2 k3 rfl
    change V _ _ _ _ _ _ (.ref (a k3) :: _)
    refine v_astore (lv' := [(5, .ref (a k3)), (0, .ref (a 0)), (1, .ref (a s1)), (2, .int p2), (3, .int p3), (4, .int p4)]) C dX5_fits_4 (by decide) rfl ?_
    refine v_aload C 0 dX5_fits_6 rfl ?_
    refine v_iload_n C 3 dX5_fits_8 rfl rfl ?_
    obtain ⟨hf4, h⟩ := h
    refine v_callVi (k := k3) (As := [.int p2]) (rest := []) C (c0_isPlayer hf4 h) eX5_90 (by omega) (by omega) (xlt_c (j := 0) hf4 (by decide)) (sh_c0 hf4 _) rfl rfl rfl (Nat.le_of_ble_eq_true rfl) dX5_fits_9 (fun r6 M5 h => ?_)
    refine v_if_ne C dX5_fits_12 (tgt := 17) (by decide) (fun c => ?_) (fun c => ?_)
    · replace h := h.1 c
      refine v_iload_n C 4 dX5_fits_17 rfl rfl ?_
      refine v_if_ne C dX5_fits_18 (tgt := 33) (by decide) (fun c => ?_) (fun c => ?_)
      · replace h := h.1 c
        refine v_aload C 0 dX5_fits_33 rfl ?_
        refine v_iload C 5 dX5_fits_35 rfl ?_
        refine fX5_0_p_round C hf4 dX5_fits_37 (fun M7 eM7 => ?_)
        replace h := h M7 eM7
        refine v_aload C 0 dX5_fits_40 rfl ?_
        refine v_aload_n C 2 dX5_fits_42 rfl rfl ?_
        refine v_iload_n C 3 dX5_fits_43 rfl rfl ?_
        refine v_callSi (As := [.ref (a k3), .ref (a s1), .int p2]) (rest := []) C (c5_firstOtherwise hf4 hp_s1 h) eX5_220 (by omega) (by omega) rfl rfl (Nat.le_of_ble_eq_true rfl) dX5_fits_44 (fun r9 M8 h => ?_)
        refine v_iconst C dX5_fits_47 (v := (-1 : Int32)) (by decide) ?_
        refine v_icmp_ne C dX5_fits_48 (tgt := 55) (by decide) (fun c => ?_) (fun c => ?_)
        · replace h := h.1 c
          refine v_iconst C dX5_fits_55 (v := (0 : Int32)) (by decide) ?_
          exact hR _ _ _ _ rfl h dX5_fits_56
        · replace h := h.2 c
          refine v_iconst C dX5_fits_51 (v := (1 : Int32)) (by decide) ?_
          refine v_goto C dX5_fits_52 (tgt := 56) (by decide) ?_
          exact hR _ _ _ _ rfl h dX5_fits_56
      · replace h := h.2 c
        refine v_aload C 0 dX5_fits_21 rfl ?_
        refine fX5_0_g_strong C hf4 dX5_fits_23 ?_
        refine v_iload_n C 3 dX5_fits_26 rfl rfl ?_
        refine v_iload C 5 dX5_fits_27 rfl ?_
        obtain ⟨hi10, h⟩ := h
        refine v_iast (k := (k3 + 3)) C (xlt_c hf4 (by decide)) (sh_ca (ca_of hf4 (by decide) (by decide))) hi10 dX5_fits_29 ?_
        obtain ⟨M11, eM11⟩ : ∃ z : S0, z = up M5 (k3 + 3) (Int32.toNatClampNeg p2) p4 := ⟨_, rfl⟩
        rw [← eM11]
        replace h := h M11 eM11
        refine v_goto C dX5_fits_30 (tgt := 40) (by decide) ?_
        refine v_aload C 0 dX5_fits_40 rfl ?_
        refine v_aload_n C 2 dX5_fits_42 rfl rfl ?_
        refine v_iload_n C 3 dX5_fits_43 rfl rfl ?_
        refine v_callSi (As := [.ref (a k3), .ref (a s1), .int p2]) (rest := []) C (c5_firstOtherwise hf4 hp_s1 h) eX5_220 (by omega) (by omega) rfl rfl (Nat.le_of_ble_eq_true rfl) dX5_fits_44 (fun r13 M12 h => ?_)
        refine v_iconst C dX5_fits_47 (v := (-1 : Int32)) (by decide) ?_
        refine v_icmp_ne C dX5_fits_48 (tgt := 55) (by decide) (fun c => ?_) (fun c => ?_)
        · replace h := h.1 c
          refine v_iconst C dX5_fits_55 (v := (0 : Int32)) (by decide) ?_
          exact hR _ _ _ _ rfl h dX5_fits_56
        · replace h := h.2 c
          refine v_iconst C dX5_fits_51 (v := (1 : Int32)) (by decide) ?_
          refine v_goto C dX5_fits_52 (tgt := 56) (by decide) ?_
          exact hR _ _ _ _ rfl h dX5_fits_56
    · replace h := h.2 c
      refine v_iconst C dX5_fits_15 (v := (0 : Int32)) (by decide) ?_
      exact hR _ _ _ _ rfl h dX5_fits_16
def w5_howManyFit_b6 (g : GX) (s1 : Nat) (Q : Int32 → S0 → Prop) : Nat → S0 → Int32 → Int32 → Int32 → Int32 → Prop
  | 0, _, _, _, _, _ => False
  | n + 1, M, v2_6, v3_6, v4_6, v5_6 =>
    (((100 : Int32) ≤ v5_6) → (Q v4_6 M)) ∧ ((¬ (100 : Int32) ≤ v5_6) → (w5_fits g s1 M v2_6 v3_6 v5_6 (fun r3 M2 => ((r3 = 0) → (∀ x4 : Int32, x4 = v5_6 + (1 : Int32) → (w5_howManyFit_b6 g s1  Q n M2 v2_6 v3_6 v4_6 x4))) ∧ ((¬ r3 = 0) → (∀ x5 : Int32, x5 = v4_6 + (1 : Int32) → (∀ x6 : Int32, x6 = v5_6 + (1 : Int32) → (w5_howManyFit_b6 g s1  Q n M2 v2_6 v3_6 x5 x6)))))))
set_option maxHeartbeats 4000000 in
set_option maxRecDepth 20000 in
theorem t5_howManyFit_b6 {B : BX} {E : EX} {a : Nat → Nat} {g : GX} {s1 : Nat} {Q : Int32 → S0 → Prop} (hp_s1 : isSheet s1) (C : Ok B E cX5_howManyFit 6 RX5 5 120) (hR : RetI B E cX5_howManyFit 6 (wl (66 + 3 * g.2) a (shX B.2.1 a g.1)) Q) : ∀ (n : Nat) (M : S0) (v2_6 : Int32) (v3_6 : Int32) (v4_6 : Int32) (v5_6 : Int32), w5_howManyFit_b6 g s1  Q n M v2_6 v3_6 v4_6 v5_6 → V B E 6 (wl (66 + 3 * g.2) a (shX B.2.1 a g.1) M) 6 [(0, .ref (a 0)), (1, .ref (a s1)), (2, .int v2_6), (3, .int v3_6), (4, .int v4_6), (5, .int v5_6)] [] := by
  intro n
  induction n with
  | zero =>
    intro M v2_6 v3_6 v4_6 v5_6  h
    exact h.elim
  | succ n ih =>
    intro M v2_6 v3_6 v4_6 v5_6  h
    rw [w5_howManyFit_b6] at h
    refine v_iload C 5 dX5_howManyFit_6 rfl ?_
    refine v_bipush C dX5_howManyFit_8 (v := (100 : Int32)) (by decide) ?_
    refine v_icmp_ge C dX5_howManyFit_10 (tgt := 34) (by decide) (fun c => ?_) (fun c => ?_)
    · replace h := h.1 c
      refine v_iload C 4 dX5_howManyFit_34 rfl ?_
      exact hR _ _ _ _ h dX5_howManyFit_36
    · replace h := h.2 c
      refine v_aload_n C 0 dX5_howManyFit_13 rfl rfl ?_
      refine v_aload_n C 1 dX5_howManyFit_14 rfl rfl ?_
      refine v_iload_n C 2 dX5_howManyFit_15 rfl rfl ?_
      refine v_iload_n C 3 dX5_howManyFit_16 rfl rfl ?_
      refine v_iload C 5 dX5_howManyFit_17 rfl ?_
      refine v_callVi (k := 0) (As := [.ref (a s1), .int v2_6, .int v3_6, .int v5_6]) (rest := []) C (c5_fits hp_s1 h) eX5_238 (by omega) (by omega) (by omega) rfl rfl rfl rfl (Nat.le_of_ble_eq_true rfl) dX5_howManyFit_19 (fun r3 M2 h => ?_)
      refine v_if_eq C dX5_howManyFit_22 (tgt := 28) (by decide) (fun c => ?_) (fun c => ?_)
      · replace h := h.1 c
        obtain ⟨x4, ex4⟩ : ∃ z : Int32, z = v5_6 + (1 : Int32) := ⟨_, rfl⟩
        replace h := h x4 ex4
        refine v_iinc (v := x4) (lv' := [(5, .int x4), (0, .ref (a 0)), (1, .ref (a s1)), (2, .int v2_6), (3, .int v3_6), (4, .int v4_6)]) C 5 dX5_howManyFit_28 rfl (by rw [ex4]; rfl) (by decide) rfl ?_
        refine v_goto C dX5_howManyFit_31 (tgt := 6) (by decide) ?_
        refine v_sub [1, 2, 3, 4, 5, 0] rfl ?_
        exact ih M2 v2_6 v3_6 v4_6 x4  h
      · replace h := h.2 c
        obtain ⟨x5, ex5⟩ : ∃ z : Int32, z = v4_6 + (1 : Int32) := ⟨_, rfl⟩
        replace h := h x5 ex5
        refine v_iinc (v := x5) (lv' := [(4, .int x5), (0, .ref (a 0)), (1, .ref (a s1)), (2, .int v2_6), (3, .int v3_6), (5, .int v5_6)]) C 4 dX5_howManyFit_25 rfl (by rw [ex5]; rfl) (by decide) rfl ?_
        obtain ⟨x6, ex6⟩ : ∃ z : Int32, z = v5_6 + (1 : Int32) := ⟨_, rfl⟩
        replace h := h x6 ex6
        refine v_iinc (v := x6) (lv' := [(5, .int x6), (4, .int x5), (0, .ref (a 0)), (1, .ref (a s1)), (2, .int v2_6), (3, .int v3_6)]) C 5 dX5_howManyFit_28 rfl (by rw [ex6]; rfl) (by decide) rfl ?_
        refine v_goto C dX5_howManyFit_31 (tgt := 6) (by decide) ?_
        refine v_sub [2, 3, 4, 5, 1, 0] rfl ?_
        exact ih M2 v2_6 v3_6 x5 x6  h
def w5_howManyFit (g : GX) (s1 : Nat) (M : S0) (p2 : Int32) (p3 : Int32) (Q : Int32 → S0 → Prop) : Prop :=
    ∃ n1, w5_howManyFit_b6 g s1  Q n1 M p2 p3 (0 : Int32) (0 : Int32)
set_option maxHeartbeats 4000000 in
set_option maxRecDepth 20000 in
theorem c5_howManyFit {B : BX} {a : Nat → Nat} {g : GX} {s1 : Nat} {M : S0} {p2 : Int32} {p3 : Int32} {Q : Int32 → S0 → Prop} (hp_s1 : isSheet s1) (h : w5_howManyFit g s1 M p2 p3 Q) : KI B (wl (66 + 3 * g.2) a (shX B.2.1 a g.1)) yX5_howManyFit cX5_howManyFit 6 (some .int) 5 120 [.ref (a 0), .ref (a s1), .int p2, .int p3] M Q := by
  rw [w5_howManyFit] at h
  refine KI_of (by decide +kernel) (Nat.le_of_ble_eq_true rfl) (fun E C hR => ?_)
  change V B E 6 (wl (66 + 3 * g.2) a (shX B.2.1 a g.1) M) 0 [(0, .ref (a 0)), (1, .ref (a s1)), (2, .int p2), (3, .int p3)] []
  change Ok B E cX5_howManyFit 6 RX5 5 120 at C
  refine v_iconst C dX5_howManyFit_0 (v := (0 : Int32)) (by decide) ?_
  refine v_istore (lv' := [(4, .int (0 : Int32)), (0, .ref (a 0)), (1, .ref (a s1)), (2, .int p2), (3, .int p3)]) C dX5_howManyFit_1 (by decide) rfl ?_
  refine v_iconst C dX5_howManyFit_3 (v := (0 : Int32)) (by decide) ?_
  refine v_istore (lv' := [(5, .int (0 : Int32)), (4, .int (0 : Int32)), (0, .ref (a 0)), (1, .ref (a s1)), (2, .int p2), (3, .int p3)]) C dX5_howManyFit_4 (by decide) rfl ?_
  obtain ⟨n1, h⟩ := h
  refine v_sub [2, 3, 4, 5, 1, 0] rfl ?_
  exact t5_howManyFit_b6 hp_s1  C hR  n1 M p2 p3 (0 : Int32) (0 : Int32)  h
def w5_leastThatFits_b3 (g : GX) (s1 : Nat) (Q : Int32 → S0 → Prop) : Nat → S0 → Int32 → Int32 → Int32 → Prop
  | 0, _, _, _, _ => False
  | n + 1, M, v2_3, v3_3, v4_3 =>
    (((100 : Int32) ≤ v4_3) → (Q (-1 : Int32) M)) ∧ ((¬ (100 : Int32) ≤ v4_3) → (w5_fits g s1 M v2_3 v3_3 v4_3 (fun r3 M2 => ((r3 = 0) → (∀ x4 : Int32, x4 = v4_3 + (1 : Int32) → (w5_leastThatFits_b3 g s1  Q n M2 v2_3 v3_3 x4))) ∧ ((¬ r3 = 0) → (Q v4_3 M2)))))
set_option maxHeartbeats 4000000 in
set_option maxRecDepth 20000 in
theorem t5_leastThatFits_b3 {B : BX} {E : EX} {a : Nat → Nat} {g : GX} {s1 : Nat} {Q : Int32 → S0 → Prop} (hp_s1 : isSheet s1) (C : Ok B E cX5_leastThatFits 5 RX5 5 120) (hR : RetI B E cX5_leastThatFits 5 (wl (66 + 3 * g.2) a (shX B.2.1 a g.1)) Q) : ∀ (n : Nat) (M : S0) (v2_3 : Int32) (v3_3 : Int32) (v4_3 : Int32), w5_leastThatFits_b3 g s1  Q n M v2_3 v3_3 v4_3 → V B E 5 (wl (66 + 3 * g.2) a (shX B.2.1 a g.1) M) 3 [(0, .ref (a 0)), (1, .ref (a s1)), (2, .int v2_3), (3, .int v3_3), (4, .int v4_3)] [] := by
  intro n
  induction n with
  | zero =>
    intro M v2_3 v3_3 v4_3  h
    exact h.elim
  | succ n ih =>
    intro M v2_3 v3_3 v4_3  h
    rw [w5_leastThatFits_b3] at h
    refine v_iload C 4 dX5_leastThatFits_3 rfl ?_
    refine v_bipush C dX5_leastThatFits_5 (v := (100 : Int32)) (by decide) ?_
    refine v_icmp_ge C dX5_leastThatFits_7 (tgt := 31) (by decide) (fun c => ?_) (fun c => ?_)
    · replace h := h.1 c
      refine v_iconst C dX5_leastThatFits_31 (v := (-1 : Int32)) (by decide) ?_
      exact hR _ _ _ _ h dX5_leastThatFits_32
    · replace h := h.2 c
      refine v_aload_n C 0 dX5_leastThatFits_10 rfl rfl ?_
      refine v_aload_n C 1 dX5_leastThatFits_11 rfl rfl ?_
      refine v_iload_n C 2 dX5_leastThatFits_12 rfl rfl ?_
      refine v_iload_n C 3 dX5_leastThatFits_13 rfl rfl ?_
      refine v_iload C 4 dX5_leastThatFits_14 rfl ?_
      refine v_callVi (k := 0) (As := [.ref (a s1), .int v2_3, .int v3_3, .int v4_3]) (rest := []) C (c5_fits hp_s1 h) eX5_238 (by omega) (by omega) (by omega) rfl rfl rfl rfl (Nat.le_of_ble_eq_true rfl) dX5_leastThatFits_16 (fun r3 M2 h => ?_)
      refine v_if_eq C dX5_leastThatFits_19 (tgt := 25) (by decide) (fun c => ?_) (fun c => ?_)
      · replace h := h.1 c
        obtain ⟨x4, ex4⟩ : ∃ z : Int32, z = v4_3 + (1 : Int32) := ⟨_, rfl⟩
        replace h := h x4 ex4
        refine v_iinc (v := x4) (lv' := [(4, .int x4), (0, .ref (a 0)), (1, .ref (a s1)), (2, .int v2_3), (3, .int v3_3)]) C 4 dX5_leastThatFits_25 rfl (by rw [ex4]; rfl) (by decide) rfl ?_
        refine v_goto C dX5_leastThatFits_28 (tgt := 3) (by decide) ?_
        refine v_sub [1, 2, 3, 4, 0] rfl ?_
        exact ih M2 v2_3 v3_3 x4  h
      · replace h := h.2 c
        refine v_iload C 4 dX5_leastThatFits_22 rfl ?_
        exact hR _ _ _ _ h dX5_leastThatFits_24
def w5_leastThatFits (g : GX) (s1 : Nat) (M : S0) (p2 : Int32) (p3 : Int32) (Q : Int32 → S0 → Prop) : Prop :=
    ∃ n1, w5_leastThatFits_b3 g s1  Q n1 M p2 p3 (0 : Int32)
set_option maxHeartbeats 4000000 in
set_option maxRecDepth 20000 in
theorem c5_leastThatFits {B : BX} {a : Nat → Nat} {g : GX} {s1 : Nat} {M : S0} {p2 : Int32} {p3 : Int32} {Q : Int32 → S0 → Prop} (hp_s1 : isSheet s1) (h : w5_leastThatFits g s1 M p2 p3 Q) : KI B (wl (66 + 3 * g.2) a (shX B.2.1 a g.1)) yX5_leastThatFits cX5_leastThatFits 5 (some .int) 5 120 [.ref (a 0), .ref (a s1), .int p2, .int p3] M Q := by
  rw [w5_leastThatFits] at h
  refine KI_of (by decide +kernel) (Nat.le_of_ble_eq_true rfl) (fun E C hR => ?_)
  change V B E 5 (wl (66 + 3 * g.2) a (shX B.2.1 a g.1) M) 0 [(0, .ref (a 0)), (1, .ref (a s1)), (2, .int p2), (3, .int p3)] []
  change Ok B E cX5_leastThatFits 5 RX5 5 120 at C
  refine v_iconst C dX5_leastThatFits_0 (v := (0 : Int32)) (by decide) ?_
  refine v_istore (lv' := [(4, .int (0 : Int32)), (0, .ref (a 0)), (1, .ref (a s1)), (2, .int p2), (3, .int p3)]) C dX5_leastThatFits_1 (by decide) rfl ?_
  obtain ⟨n1, h⟩ := h
  refine v_sub [1, 2, 3, 4, 0] rfl ?_
  exact t5_leastThatFits_b3 hp_s1  C hR  n1 M p2 p3 (0 : Int32)  h
def w5_playersThatFit_b4 (g : GX) (s1 : Nat) (Q : Int32 → S0 → Prop) : Nat → S0 → Int32 → Int32 → Prop
  | 0, _, _, _ => False
  | n + 1, M, v2_4, v3_4 =>
    (((M 10 7) ≤ v3_4) → (Q v2_4 M)) ∧ ((¬ (M 10 7) ≤ v3_4) → (w5_firstOtherwise g 10 s1 M v3_4 (fun r3 M2 => ((¬ r3 = (-1 : Int32)) → (∀ x4 : Int32, x4 = v3_4 + (1 : Int32) → (w5_playersThatFit_b4 g s1  Q n M2 v2_4 x4))) ∧ ((r3 = (-1 : Int32)) → (∀ x5 : Int32, x5 = (v2_4 ||| ((1 : Int32) <<< (v3_4 &&& 31))) → (∀ x6 : Int32, x6 = v3_4 + (1 : Int32) → (w5_playersThatFit_b4 g s1  Q n M2 x5 x6)))))))
set_option maxHeartbeats 4000000 in
set_option maxRecDepth 20000 in
theorem t5_playersThatFit_b4 {B : BX} {E : EX} {a : Nat → Nat} {g : GX} {s1 : Nat} {Q : Int32 → S0 → Prop} (hp_s1 : isSheet s1) (C : Ok B E cX5_playersThatFit 4 RX5 4 95) (hR : RetI B E cX5_playersThatFit 4 (wl (66 + 3 * g.2) a (shX B.2.1 a g.1)) Q) : ∀ (n : Nat) (M : S0) (v2_4 : Int32) (v3_4 : Int32), w5_playersThatFit_b4 g s1  Q n M v2_4 v3_4 → V B E 4 (wl (66 + 3 * g.2) a (shX B.2.1 a g.1) M) 4 [(0, .ref (a 0)), (1, .ref (a s1)), (2, .int v2_4), (3, .int v3_4)] [] := by
  intro n
  induction n with
  | zero =>
    intro M v2_4 v3_4  h
    exact h.elim
  | succ n ih =>
    intro M v2_4 v3_4  h
    rw [w5_playersThatFit_b4] at h
    refine v_iload_n C 3 dX5_playersThatFit_4 rfl rfl ?_
    refine v_aload_n C 0 dX5_playersThatFit_5 rfl rfl ?_
    refine fX5_5_g_now C dX5_playersThatFit_6 ?_
    refine fX5_0_g_many C cl_10 dX5_playersThatFit_9 ?_
    refine v_icmp_ge C dX5_playersThatFit_12 (tgt := 40) (by decide) (fun c => ?_) (fun c => ?_)
    · replace h := h.1 c
      refine v_iload_n C 2 dX5_playersThatFit_40 rfl rfl ?_
      exact hR _ _ _ _ h dX5_playersThatFit_41
    · replace h := h.2 c
      refine v_aload_n C 0 dX5_playersThatFit_15 rfl rfl ?_
      refine fX5_5_g_now C dX5_playersThatFit_16 ?_
      refine v_aload_n C 1 dX5_playersThatFit_19 rfl rfl ?_
      refine v_iload_n C 3 dX5_playersThatFit_20 rfl rfl ?_
      refine v_callSi (As := [.ref (a 10), .ref (a s1), .int v3_4]) (rest := []) C (c5_firstOtherwise cl_10 hp_s1 h) eX5_220 (by omega) (by omega) rfl rfl (Nat.le_of_ble_eq_true rfl) dX5_playersThatFit_21 (fun r3 M2 h => ?_)
      refine v_iconst C dX5_playersThatFit_24 (v := (-1 : Int32)) (by decide) ?_
      refine v_icmp_ne C dX5_playersThatFit_25 (tgt := 34) (by decide) (fun c => ?_) (fun c => ?_)
      · replace h := h.1 c
        obtain ⟨x4, ex4⟩ : ∃ z : Int32, z = v3_4 + (1 : Int32) := ⟨_, rfl⟩
        replace h := h x4 ex4
        refine v_iinc (v := x4) (lv' := [(3, .int x4), (0, .ref (a 0)), (1, .ref (a s1)), (2, .int v2_4)]) C 3 dX5_playersThatFit_34 rfl (by rw [ex4]; rfl) (by decide) rfl ?_
        refine v_goto C dX5_playersThatFit_37 (tgt := 4) (by decide) ?_
        refine v_sub [1, 2, 3, 0] rfl ?_
        exact ih M2 v2_4 x4  h
      · replace h := h.2 c
        refine v_iload_n C 2 dX5_playersThatFit_28 rfl rfl ?_
        refine v_iconst C dX5_playersThatFit_29 (v := (1 : Int32)) (by decide) ?_
        refine v_iload_n C 3 dX5_playersThatFit_30 rfl rfl ?_
        refine v_ishl C dX5_playersThatFit_31 ?_
        refine v_ior C dX5_playersThatFit_32 ?_
        refine v_nmi (fun x5 ex5 => ?_)
        replace h := h x5 ex5
        refine v_istore_n (lv' := [(2, .int x5), (0, .ref (a 0)), (1, .ref (a s1)), (3, .int v3_4)]) C dX5_playersThatFit_33 rfl (by decide) rfl ?_
        obtain ⟨x6, ex6⟩ : ∃ z : Int32, z = v3_4 + (1 : Int32) := ⟨_, rfl⟩
        replace h := h x6 ex6
        refine v_iinc (v := x6) (lv' := [(3, .int x6), (2, .int x5), (0, .ref (a 0)), (1, .ref (a s1))]) C 3 dX5_playersThatFit_34 rfl (by rw [ex6]; rfl) (by decide) rfl ?_
        refine v_goto C dX5_playersThatFit_37 (tgt := 4) (by decide) ?_
        refine v_sub [2, 3, 1, 0] rfl ?_
        exact ih M2 x5 x6  h
def w5_playersThatFit (g : GX) (s1 : Nat) (M : S0) (Q : Int32 → S0 → Prop) : Prop :=
    ∃ n1, w5_playersThatFit_b4 g s1  Q n1 M (0 : Int32) (0 : Int32)
set_option maxHeartbeats 4000000 in
set_option maxRecDepth 20000 in
theorem c5_playersThatFit {B : BX} {a : Nat → Nat} {g : GX} {s1 : Nat} {M : S0} {Q : Int32 → S0 → Prop} (hp_s1 : isSheet s1) (h : w5_playersThatFit g s1 M  Q) : KI B (wl (66 + 3 * g.2) a (shX B.2.1 a g.1)) yX5_playersThatFit cX5_playersThatFit 4 (some .int) 4 95 [.ref (a 0), .ref (a s1)] M Q := by
  rw [w5_playersThatFit] at h
  refine KI_of (by decide +kernel) (Nat.le_of_ble_eq_true rfl) (fun E C hR => ?_)
  change V B E 4 (wl (66 + 3 * g.2) a (shX B.2.1 a g.1) M) 0 [(0, .ref (a 0)), (1, .ref (a s1))] []
  change Ok B E cX5_playersThatFit 4 RX5 4 95 at C
  refine v_iconst C dX5_playersThatFit_0 (v := (0 : Int32)) (by decide) ?_
  refine v_istore_n (lv' := [(2, .int (0 : Int32)), (0, .ref (a 0)), (1, .ref (a s1))]) C dX5_playersThatFit_1 rfl (by decide) rfl ?_
  refine v_iconst C dX5_playersThatFit_2 (v := (0 : Int32)) (by decide) ?_
  refine v_istore_n (lv' := [(3, .int (0 : Int32)), (2, .int (0 : Int32)), (0, .ref (a 0)), (1, .ref (a s1))]) C dX5_playersThatFit_3 rfl (by decide) rfl ?_
  obtain ⟨n1, h⟩ := h
  refine v_sub [2, 3, 1, 0] rfl ?_
  exact t5_playersThatFit_b4 hp_s1  C hR  n1 M (0 : Int32) (0 : Int32)  h
def w5_bitsThatFit_b52 (g : GX) (s1 : Nat) (Q : Int32 → S0 → Prop) : Nat → S0 → Int32 → Int32 → Int32 → Nat → Int32 → Int32 → Prop
  | 0, _, _, _, _, _, _, _ => False
  | n + 1, M, v2_52, v3_52, v4_52, v5_52, v6_52, v7_52 =>
    ((v4_52 ≤ v7_52) → (Q v6_52 M)) ∧ ((¬ v4_52 ≤ v7_52) → (((¬ v3_52 = (1 : Int32)) → (((¬ v3_52 = (2 : Int32)) → (∀ M23 : S0, M23 = up M v5_52 9 v7_52 → (w5_firstOtherwise g v5_52 s1 M23 v2_52 (fun r25 M24 => ((¬ r25 = (-1 : Int32)) → (∀ x26 : Int32, x26 = v7_52 + (1 : Int32) → (w5_bitsThatFit_b52 g s1  Q n M24 v2_52 v3_52 v4_52 v5_52 v6_52 x26))) ∧ ((r25 = (-1 : Int32)) → (∀ x27 : Int32, x27 = (v6_52 ||| ((1 : Int32) <<< (v7_52 &&& 31))) → (∀ x28 : Int32, x28 = v7_52 + (1 : Int32) → (w5_bitsThatFit_b52 g s1  Q n M24 v2_52 v3_52 v4_52 v5_52 x27 x28)))))))) ∧ ((v3_52 = (2 : Int32)) → ((vp_in v2_52 6) ∧ (∀ M30 : S0, M30 = up M (v5_52 + 2) (Int32.toNatClampNeg v2_52) v7_52 → (w5_firstOtherwise g v5_52 s1 M30 v2_52 (fun r32 M31 => ((¬ r32 = (-1 : Int32)) → (∀ x33 : Int32, x33 = v7_52 + (1 : Int32) → (w5_bitsThatFit_b52 g s1  Q n M31 v2_52 v3_52 v4_52 v5_52 v6_52 x33))) ∧ ((r32 = (-1 : Int32)) → (∀ x34 : Int32, x34 = (v6_52 ||| ((1 : Int32) <<< (v7_52 &&& 31))) → (∀ x35 : Int32, x35 = v7_52 + (1 : Int32) → (w5_bitsThatFit_b52 g s1  Q n M31 v2_52 v3_52 v4_52 v5_52 x34 x35))))))))))) ∧ ((v3_52 = (1 : Int32)) → ((vp_in v2_52 6) ∧ (∀ M37 : S0, M37 = up M (v5_52 + 1) (Int32.toNatClampNeg v2_52) v7_52 → (w5_firstOtherwise g v5_52 s1 M37 v2_52 (fun r39 M38 => ((¬ r39 = (-1 : Int32)) → (∀ x40 : Int32, x40 = v7_52 + (1 : Int32) → (w5_bitsThatFit_b52 g s1  Q n M38 v2_52 v3_52 v4_52 v5_52 v6_52 x40))) ∧ ((r39 = (-1 : Int32)) → (∀ x41 : Int32, x41 = (v6_52 ||| ((1 : Int32) <<< (v7_52 &&& 31))) → (∀ x42 : Int32, x42 = v7_52 + (1 : Int32) → (w5_bitsThatFit_b52 g s1  Q n M38 v2_52 v3_52 v4_52 v5_52 x41 x42)))))))))))
set_option maxHeartbeats 4000000 in
set_option maxRecDepth 20000 in
theorem t5_bitsThatFit_b52 {B : BX} {E : EX} {a : Nat → Nat} {g : GX} {s1 : Nat} {Q : Int32 → S0 → Prop} (hp_s1 : isSheet s1) (C : Ok B E cX5_bitsThatFit 8 RX5 4 95) (hR : RetI B E cX5_bitsThatFit 8 (wl (66 + 3 * g.2) a (shX B.2.1 a g.1)) Q) : ∀ (n : Nat) (M : S0) (v2_52 : Int32) (v3_52 : Int32) (v4_52 : Int32) (v5_52 : Nat) (v6_52 : Int32) (v7_52 : Int32), (hp_v5_52 : isClub v5_52) → w5_bitsThatFit_b52 g s1  Q n M v2_52 v3_52 v4_52 v5_52 v6_52 v7_52 → V B E 8 (wl (66 + 3 * g.2) a (shX B.2.1 a g.1) M) 52 [(1, .ref (a s1)), (2, .int v2_52), (3, .int v3_52), (4, .int v4_52), (5, .ref (a v5_52)), (6, .int v6_52), (7, .int v7_52)] [] := by
  intro n
  induction n with
  | zero =>
    intro M v2_52 v3_52 v4_52 v5_52 v6_52 v7_52 hp_v5_52 h
    exact h.elim
  | succ n ih =>
    intro M v2_52 v3_52 v4_52 v5_52 v6_52 v7_52 hp_v5_52 h
    rw [w5_bitsThatFit_b52] at h
    refine v_iload C 6 dX5_bitsThatFit_52 rfl ?_
    refine v_iload C 3 dX5_bitsThatFit_54 rfl ?_
    refine v_icmp_ge C dX5_bitsThatFit_56 (tgt := 126) (by decide) (fun c => ?_) (fun c => ?_)
    · replace h := h.1 c
      refine v_iload C 5 dX5_bitsThatFit_126 rfl ?_
      exact hR _ _ _ _ h dX5_bitsThatFit_128
    · replace h := h.2 c
      refine v_iload_n C 2 dX5_bitsThatFit_59 rfl rfl ?_
      refine v_iconst C dX5_bitsThatFit_60 (v := (1 : Int32)) (by decide) ?_
      refine v_icmp_ne C dX5_bitsThatFit_61 (tgt := 76) (by decide) (fun c => ?_) (fun c => ?_)
      · replace h := h.1 c
        refine v_iload_n C 2 dX5_bitsThatFit_76 rfl rfl ?_
        refine v_iconst C dX5_bitsThatFit_77 (v := (2 : Int32)) (by decide) ?_
        refine v_icmp_ne C dX5_bitsThatFit_78 (tgt := 93) (by decide) (fun c => ?_) (fun c => ?_)
        · replace h := h.1 c
          refine v_aload C 4 dX5_bitsThatFit_93 rfl ?_
          refine v_iload C 6 dX5_bitsThatFit_95 rfl ?_
          refine fX5_0_p_rule C hp_v5_52 dX5_bitsThatFit_97 (fun M23 eM23 => ?_)
          replace h := h M23 eM23
          refine v_aload C 4 dX5_bitsThatFit_100 rfl ?_
          refine v_aload_n C 0 dX5_bitsThatFit_102 rfl rfl ?_
          refine v_iload_n C 1 dX5_bitsThatFit_103 rfl rfl ?_
          refine v_callSi (As := [.ref (a v5_52), .ref (a s1), .int v2_52]) (rest := []) C (c5_firstOtherwise hp_v5_52 hp_s1 h) eX5_220 (by omega) (by omega) rfl rfl (Nat.le_of_ble_eq_true rfl) dX5_bitsThatFit_104 (fun r25 M24 h => ?_)
          refine v_iconst C dX5_bitsThatFit_107 (v := (-1 : Int32)) (by decide) ?_
          refine v_icmp_ne C dX5_bitsThatFit_108 (tgt := 120) (by decide) (fun c => ?_) (fun c => ?_)
          · replace h := h.1 c
            obtain ⟨x26, ex26⟩ : ∃ z : Int32, z = v7_52 + (1 : Int32) := ⟨_, rfl⟩
            replace h := h x26 ex26
            refine v_iinc (v := x26) (lv' := [(7, .int x26), (1, .ref (a s1)), (2, .int v2_52), (3, .int v3_52), (4, .int v4_52), (5, .ref (a v5_52)), (6, .int v6_52)]) C 6 dX5_bitsThatFit_120 rfl (by rw [ex26]; rfl) (by decide) rfl ?_
            refine v_goto C dX5_bitsThatFit_123 (tgt := 52) (by decide) ?_
            refine v_sub [1, 2, 3, 4, 5, 6, 0] rfl ?_
            exact ih M24 v2_52 v3_52 v4_52 v5_52 v6_52 x26 hp_v5_52 h
          · replace h := h.2 c
            refine v_iload C 5 dX5_bitsThatFit_111 rfl ?_
            refine v_iconst C dX5_bitsThatFit_113 (v := (1 : Int32)) (by decide) ?_
            refine v_iload C 6 dX5_bitsThatFit_114 rfl ?_
            refine v_ishl C dX5_bitsThatFit_116 ?_
            refine v_ior C dX5_bitsThatFit_117 ?_
            refine v_nmi (fun x27 ex27 => ?_)
            replace h := h x27 ex27
            refine v_istore (lv' := [(6, .int x27), (1, .ref (a s1)), (2, .int v2_52), (3, .int v3_52), (4, .int v4_52), (5, .ref (a v5_52)), (7, .int v7_52)]) C dX5_bitsThatFit_118 (by decide) rfl ?_
            obtain ⟨x28, ex28⟩ : ∃ z : Int32, z = v7_52 + (1 : Int32) := ⟨_, rfl⟩
            replace h := h x28 ex28
            refine v_iinc (v := x28) (lv' := [(7, .int x28), (6, .int x27), (1, .ref (a s1)), (2, .int v2_52), (3, .int v3_52), (4, .int v4_52), (5, .ref (a v5_52))]) C 6 dX5_bitsThatFit_120 rfl (by rw [ex28]; rfl) (by decide) rfl ?_
            refine v_goto C dX5_bitsThatFit_123 (tgt := 52) (by decide) ?_
            refine v_sub [2, 3, 4, 5, 6, 1, 0] rfl ?_
            exact ih M24 v2_52 v3_52 v4_52 v5_52 x27 x28 hp_v5_52 h
        · replace h := h.2 c
          refine v_aload C 4 dX5_bitsThatFit_81 rfl ?_
          refine fX5_0_g_number C hp_v5_52 dX5_bitsThatFit_83 ?_
          refine v_iload_n C 1 dX5_bitsThatFit_86 rfl rfl ?_
          refine v_iload C 6 dX5_bitsThatFit_87 rfl ?_
          obtain ⟨hi29, h⟩ := h
          refine v_iast (k := (v5_52 + 2)) C (xlt_c hp_v5_52 (by decide)) (sh_ca (ca_of hp_v5_52 (by decide) (by decide))) hi29 dX5_bitsThatFit_89 ?_
          obtain ⟨M30, eM30⟩ : ∃ z : S0, z = up M (v5_52 + 2) (Int32.toNatClampNeg v2_52) v7_52 := ⟨_, rfl⟩
          rw [← eM30]
          replace h := h M30 eM30
          refine v_goto C dX5_bitsThatFit_90 (tgt := 100) (by decide) ?_
          refine v_aload C 4 dX5_bitsThatFit_100 rfl ?_
          refine v_aload_n C 0 dX5_bitsThatFit_102 rfl rfl ?_
          refine v_iload_n C 1 dX5_bitsThatFit_103 rfl rfl ?_
          refine v_callSi (As := [.ref (a v5_52), .ref (a s1), .int v2_52]) (rest := []) C (c5_firstOtherwise hp_v5_52 hp_s1 h) eX5_220 (by omega) (by omega) rfl rfl (Nat.le_of_ble_eq_true rfl) dX5_bitsThatFit_104 (fun r32 M31 h => ?_)
          refine v_iconst C dX5_bitsThatFit_107 (v := (-1 : Int32)) (by decide) ?_
          refine v_icmp_ne C dX5_bitsThatFit_108 (tgt := 120) (by decide) (fun c => ?_) (fun c => ?_)
          · replace h := h.1 c
            obtain ⟨x33, ex33⟩ : ∃ z : Int32, z = v7_52 + (1 : Int32) := ⟨_, rfl⟩
            replace h := h x33 ex33
            refine v_iinc (v := x33) (lv' := [(7, .int x33), (1, .ref (a s1)), (2, .int v2_52), (3, .int v3_52), (4, .int v4_52), (5, .ref (a v5_52)), (6, .int v6_52)]) C 6 dX5_bitsThatFit_120 rfl (by rw [ex33]; rfl) (by decide) rfl ?_
            refine v_goto C dX5_bitsThatFit_123 (tgt := 52) (by decide) ?_
            refine v_sub [1, 2, 3, 4, 5, 6, 0] rfl ?_
            exact ih M31 v2_52 v3_52 v4_52 v5_52 v6_52 x33 hp_v5_52 h
          · replace h := h.2 c
            refine v_iload C 5 dX5_bitsThatFit_111 rfl ?_
            refine v_iconst C dX5_bitsThatFit_113 (v := (1 : Int32)) (by decide) ?_
            refine v_iload C 6 dX5_bitsThatFit_114 rfl ?_
            refine v_ishl C dX5_bitsThatFit_116 ?_
            refine v_ior C dX5_bitsThatFit_117 ?_
            refine v_nmi (fun x34 ex34 => ?_)
            replace h := h x34 ex34
            refine v_istore (lv' := [(6, .int x34), (1, .ref (a s1)), (2, .int v2_52), (3, .int v3_52), (4, .int v4_52), (5, .ref (a v5_52)), (7, .int v7_52)]) C dX5_bitsThatFit_118 (by decide) rfl ?_
            obtain ⟨x35, ex35⟩ : ∃ z : Int32, z = v7_52 + (1 : Int32) := ⟨_, rfl⟩
            replace h := h x35 ex35
            refine v_iinc (v := x35) (lv' := [(7, .int x35), (6, .int x34), (1, .ref (a s1)), (2, .int v2_52), (3, .int v3_52), (4, .int v4_52), (5, .ref (a v5_52))]) C 6 dX5_bitsThatFit_120 rfl (by rw [ex35]; rfl) (by decide) rfl ?_
            refine v_goto C dX5_bitsThatFit_123 (tgt := 52) (by decide) ?_
            refine v_sub [2, 3, 4, 5, 6, 1, 0] rfl ?_
            exact ih M31 v2_52 v3_52 v4_52 v5_52 x34 x35 hp_v5_52 h
      · replace h := h.2 c
        refine v_aload C 4 dX5_bitsThatFit_64 rfl ?_
        refine fX5_0_g_kind C hp_v5_52 dX5_bitsThatFit_66 ?_
        refine v_iload_n C 1 dX5_bitsThatFit_69 rfl rfl ?_
        refine v_iload C 6 dX5_bitsThatFit_70 rfl ?_
        obtain ⟨hi36, h⟩ := h
        refine v_iast (k := (v5_52 + 1)) C (xlt_c hp_v5_52 (by decide)) (sh_ca (ca_of hp_v5_52 (by decide) (by decide))) hi36 dX5_bitsThatFit_72 ?_
        obtain ⟨M37, eM37⟩ : ∃ z : S0, z = up M (v5_52 + 1) (Int32.toNatClampNeg v2_52) v7_52 := ⟨_, rfl⟩
        rw [← eM37]
        replace h := h M37 eM37
        refine v_goto C dX5_bitsThatFit_73 (tgt := 100) (by decide) ?_
        refine v_aload C 4 dX5_bitsThatFit_100 rfl ?_
        refine v_aload_n C 0 dX5_bitsThatFit_102 rfl rfl ?_
        refine v_iload_n C 1 dX5_bitsThatFit_103 rfl rfl ?_
        refine v_callSi (As := [.ref (a v5_52), .ref (a s1), .int v2_52]) (rest := []) C (c5_firstOtherwise hp_v5_52 hp_s1 h) eX5_220 (by omega) (by omega) rfl rfl (Nat.le_of_ble_eq_true rfl) dX5_bitsThatFit_104 (fun r39 M38 h => ?_)
        refine v_iconst C dX5_bitsThatFit_107 (v := (-1 : Int32)) (by decide) ?_
        refine v_icmp_ne C dX5_bitsThatFit_108 (tgt := 120) (by decide) (fun c => ?_) (fun c => ?_)
        · replace h := h.1 c
          obtain ⟨x40, ex40⟩ : ∃ z : Int32, z = v7_52 + (1 : Int32) := ⟨_, rfl⟩
          replace h := h x40 ex40
          refine v_iinc (v := x40) (lv' := [(7, .int x40), (1, .ref (a s1)), (2, .int v2_52), (3, .int v3_52), (4, .int v4_52), (5, .ref (a v5_52)), (6, .int v6_52)]) C 6 dX5_bitsThatFit_120 rfl (by rw [ex40]; rfl) (by decide) rfl ?_
          refine v_goto C dX5_bitsThatFit_123 (tgt := 52) (by decide) ?_
          refine v_sub [1, 2, 3, 4, 5, 6, 0] rfl ?_
          exact ih M38 v2_52 v3_52 v4_52 v5_52 v6_52 x40 hp_v5_52 h
        · replace h := h.2 c
          refine v_iload C 5 dX5_bitsThatFit_111 rfl ?_
          refine v_iconst C dX5_bitsThatFit_113 (v := (1 : Int32)) (by decide) ?_
          refine v_iload C 6 dX5_bitsThatFit_114 rfl ?_
          refine v_ishl C dX5_bitsThatFit_116 ?_
          refine v_ior C dX5_bitsThatFit_117 ?_
          refine v_nmi (fun x41 ex41 => ?_)
          replace h := h x41 ex41
          refine v_istore (lv' := [(6, .int x41), (1, .ref (a s1)), (2, .int v2_52), (3, .int v3_52), (4, .int v4_52), (5, .ref (a v5_52)), (7, .int v7_52)]) C dX5_bitsThatFit_118 (by decide) rfl ?_
          obtain ⟨x42, ex42⟩ : ∃ z : Int32, z = v7_52 + (1 : Int32) := ⟨_, rfl⟩
          replace h := h x42 ex42
          refine v_iinc (v := x42) (lv' := [(7, .int x42), (6, .int x41), (1, .ref (a s1)), (2, .int v2_52), (3, .int v3_52), (4, .int v4_52), (5, .ref (a v5_52))]) C 6 dX5_bitsThatFit_120 rfl (by rw [ex42]; rfl) (by decide) rfl ?_
          refine v_goto C dX5_bitsThatFit_123 (tgt := 52) (by decide) ?_
          refine v_sub [2, 3, 4, 5, 6, 1, 0] rfl ?_
          exact ih M38 v2_52 v3_52 v4_52 v5_52 x41 x42 hp_v5_52 h
def w5_bitsThatFit (g : GX) (s1 : Nat) (M : S0) (p2 : Int32) (p3 : Int32) (Q : Int32 → S0 → Prop) : Prop :=
    ((¬ p3 = (1 : Int32)) → (((¬ p3 = (2 : Int32)) → (∀ x1 : Int32, x1 = (M 1 3) → (w5_think g M (fun r3 M2 => ((r3 = none) → (False)) ∧ (∀ k4 : Nat, r3 = some k4 → ((isClub k4) ∧ (w0_isPlayer g k4 M2 p2 (fun r7 M6 => ((¬ r7 = 0) → (∃ n8, w5_bitsThatFit_b52 g s1  Q n8 M6 p2 p3 x1 k4 (0 : Int32) (0 : Int32))) ∧ ((r7 = 0) → (Q (0 : Int32) M6)))))))))) ∧ ((p3 = (2 : Int32)) → (w5_think g M (fun r10 M9 => ((r10 = none) → (False)) ∧ (∀ k11 : Nat, r10 = some k11 → ((isClub k11) ∧ (w0_isPlayer g k11 M9 p2 (fun r14 M13 => ((¬ r14 = 0) → (∃ n15, w5_bitsThatFit_b52 g s1  Q n15 M13 p2 p3 (10 : Int32) k11 (0 : Int32) (0 : Int32))) ∧ ((r14 = 0) → (Q (0 : Int32) M13))))))))))) ∧ ((p3 = (1 : Int32)) → (w5_think g M (fun r17 M16 => ((r17 = none) → (False)) ∧ (∀ k18 : Nat, r17 = some k18 → ((isClub k18) ∧ (w0_isPlayer g k18 M16 p2 (fun r21 M20 => ((¬ r21 = 0) → (∃ n22, w5_bitsThatFit_b52 g s1  Q n22 M20 p2 p3 (6 : Int32) k18 (0 : Int32) (0 : Int32))) ∧ ((r21 = 0) → (Q (0 : Int32) M20)))))))))
set_option maxHeartbeats 4000000 in
set_option maxRecDepth 20000 in
theorem c5_bitsThatFit {B : BX} {a : Nat → Nat} {g : GX} {s1 : Nat} {M : S0} {p2 : Int32} {p3 : Int32} {Q : Int32 → S0 → Prop} (hp_s1 : isSheet s1) (h : w5_bitsThatFit g s1 M p2 p3 Q) : KI B (wl (66 + 3 * g.2) a (shX B.2.1 a g.1)) yX5_bitsThatFit cX5_bitsThatFit 8 (some .int) 4 95 [.ref (a 0), .ref (a s1), .int p2, .int p3] M Q := by
  rw [w5_bitsThatFit] at h
  refine KI_of (by decide +kernel) (Nat.le_of_ble_eq_true rfl) (fun E C hR => ?_)
  change V B E 8 (wl (66 + 3 * g.2) a (shX B.2.1 a g.1) M) 0 [(0, .ref (a 0)), (1, .ref (a s1)), (2, .int p2), (3, .int p3)] []
  change Ok B E cX5_bitsThatFit 8 RX5 4 95 at C
  refine v_iload_n C 3 dX5_bitsThatFit_0 rfl rfl ?_
  refine v_iconst C dX5_bitsThatFit_1 (v := (1 : Int32)) (by decide) ?_
  refine v_icmp_ne C dX5_bitsThatFit_2 (tgt := 10) (by decide) (fun c => ?_) (fun c => ?_)
  · replace h := h.1 c
    refine v_iload_n C 3 dX5_bitsThatFit_10 rfl rfl ?_
    refine v_iconst C dX5_bitsThatFit_11 (v := (2 : Int32)) (by decide) ?_
    refine v_icmp_ne C dX5_bitsThatFit_12 (tgt := 20) (by decide) (fun c => ?_) (fun c => ?_)
    · replace h := h.1 c
      refine v_aload_n C 0 dX5_bitsThatFit_20 rfl rfl ?_
      refine fX5_5_g_texts C dX5_bitsThatFit_21 ?_
      refine fX5_4_g_many C dX5_bitsThatFit_24 ?_
      refine v_nmi (fun x1 ex1 => ?_)
      replace h := h x1 ex1
      refine v_istore (lv' := [(4, .int x1), (0, .ref (a 0)), (1, .ref (a s1)), (2, .int p2), (3, .int p3)]) C dX5_bitsThatFit_27 (by decide) rfl ?_
      refine v_aload_n C 1 dX5_bitsThatFit_29 rfl rfl ?_
      refine v_callVa (k := 0) (As := []) (rest := []) C (c5_think  h) eX5_133 (by omega) (by omega) (by omega) rfl rfl rfl rfl (Nat.le_of_ble_eq_true rfl) dX5_bitsThatFit_30 (fun r3 M2 h => ?_)
      rcases r3 with _ | k4
      · replace h := h.1 rfl
        change V _ _ _ _ _ _ (.null :: _)
        exact h.elim
      · replace h := h.2 k4 rfl
        change V _ _ _ _ _ _ (.ref (a k4) :: _)
        refine v_astore (lv' := [(5, .ref (a k4)), (4, .int x1), (0, .ref (a 0)), (1, .ref (a s1)), (2, .int p2), (3, .int p3)]) C dX5_bitsThatFit_33 (by decide) rfl ?_
        refine v_aload C 0 dX5_bitsThatFit_35 rfl ?_
        refine v_iload_n C 4 dX5_bitsThatFit_37 rfl rfl ?_
        obtain ⟨hf5, h⟩ := h
        refine v_callVi (k := k4) (As := [.int p2]) (rest := []) C (c0_isPlayer hf5 h) eX5_90 (by omega) (by omega) (xlt_c (j := 0) hf5 (by decide)) (sh_c0 hf5 _) rfl rfl rfl (Nat.le_of_ble_eq_true rfl) dX5_bitsThatFit_38 (fun r7 M6 h => ?_)
        refine v_if_ne C dX5_bitsThatFit_41 (tgt := 46) (by decide) (fun c => ?_) (fun c => ?_)
        · replace h := h.1 c
          refine v_iconst C dX5_bitsThatFit_46 (v := (0 : Int32)) (by decide) ?_
          refine v_istore (lv' := [(6, .int (0 : Int32)), (5, .ref (a k4)), (4, .int x1), (0, .ref (a 0)), (1, .ref (a s1)), (2, .int p2), (3, .int p3)]) C dX5_bitsThatFit_47 (by decide) rfl ?_
          refine v_iconst C dX5_bitsThatFit_49 (v := (0 : Int32)) (by decide) ?_
          refine v_istore (lv' := [(7, .int (0 : Int32)), (6, .int (0 : Int32)), (5, .ref (a k4)), (4, .int x1), (0, .ref (a 0)), (1, .ref (a s1)), (2, .int p2), (3, .int p3)]) C dX5_bitsThatFit_50 (by decide) rfl ?_
          obtain ⟨n8, h⟩ := h
          refine v_sub [5, 6, 7, 3, 2, 1, 0] rfl ?_
          exact t5_bitsThatFit_b52 hp_s1  C hR  n8 M6 p2 p3 x1 k4 (0 : Int32) (0 : Int32) hf5 h
        · replace h := h.2 c
          refine v_iconst C dX5_bitsThatFit_44 (v := (0 : Int32)) (by decide) ?_
          exact hR _ _ _ _ h dX5_bitsThatFit_45
    · replace h := h.2 c
      refine v_bipush C dX5_bitsThatFit_15 (v := (10 : Int32)) (by decide) ?_
      refine v_goto C dX5_bitsThatFit_17 (tgt := 27) (by decide) ?_
      refine v_istore (lv' := [(4, .int (10 : Int32)), (0, .ref (a 0)), (1, .ref (a s1)), (2, .int p2), (3, .int p3)]) C dX5_bitsThatFit_27 (by decide) rfl ?_
      refine v_aload_n C 1 dX5_bitsThatFit_29 rfl rfl ?_
      refine v_callVa (k := 0) (As := []) (rest := []) C (c5_think  h) eX5_133 (by omega) (by omega) (by omega) rfl rfl rfl rfl (Nat.le_of_ble_eq_true rfl) dX5_bitsThatFit_30 (fun r10 M9 h => ?_)
      rcases r10 with _ | k11
      · replace h := h.1 rfl
        change V _ _ _ _ _ _ (.null :: _)
        exact h.elim
      · replace h := h.2 k11 rfl
        change V _ _ _ _ _ _ (.ref (a k11) :: _)
        refine v_astore (lv' := [(5, .ref (a k11)), (4, .int (10 : Int32)), (0, .ref (a 0)), (1, .ref (a s1)), (2, .int p2), (3, .int p3)]) C dX5_bitsThatFit_33 (by decide) rfl ?_
        refine v_aload C 0 dX5_bitsThatFit_35 rfl ?_
        refine v_iload_n C 4 dX5_bitsThatFit_37 rfl rfl ?_
        obtain ⟨hf12, h⟩ := h
        refine v_callVi (k := k11) (As := [.int p2]) (rest := []) C (c0_isPlayer hf12 h) eX5_90 (by omega) (by omega) (xlt_c (j := 0) hf12 (by decide)) (sh_c0 hf12 _) rfl rfl rfl (Nat.le_of_ble_eq_true rfl) dX5_bitsThatFit_38 (fun r14 M13 h => ?_)
        refine v_if_ne C dX5_bitsThatFit_41 (tgt := 46) (by decide) (fun c => ?_) (fun c => ?_)
        · replace h := h.1 c
          refine v_iconst C dX5_bitsThatFit_46 (v := (0 : Int32)) (by decide) ?_
          refine v_istore (lv' := [(6, .int (0 : Int32)), (5, .ref (a k11)), (4, .int (10 : Int32)), (0, .ref (a 0)), (1, .ref (a s1)), (2, .int p2), (3, .int p3)]) C dX5_bitsThatFit_47 (by decide) rfl ?_
          refine v_iconst C dX5_bitsThatFit_49 (v := (0 : Int32)) (by decide) ?_
          refine v_istore (lv' := [(7, .int (0 : Int32)), (6, .int (0 : Int32)), (5, .ref (a k11)), (4, .int (10 : Int32)), (0, .ref (a 0)), (1, .ref (a s1)), (2, .int p2), (3, .int p3)]) C dX5_bitsThatFit_50 (by decide) rfl ?_
          obtain ⟨n15, h⟩ := h
          refine v_sub [5, 6, 7, 3, 2, 1, 0] rfl ?_
          exact t5_bitsThatFit_b52 hp_s1  C hR  n15 M13 p2 p3 (10 : Int32) k11 (0 : Int32) (0 : Int32) hf12 h
        · replace h := h.2 c
          refine v_iconst C dX5_bitsThatFit_44 (v := (0 : Int32)) (by decide) ?_
          exact hR _ _ _ _ h dX5_bitsThatFit_45
  · replace h := h.2 c
    refine v_bipush C dX5_bitsThatFit_5 (v := (6 : Int32)) (by decide) ?_
    refine v_goto C dX5_bitsThatFit_7 (tgt := 27) (by decide) ?_
    refine v_istore (lv' := [(4, .int (6 : Int32)), (0, .ref (a 0)), (1, .ref (a s1)), (2, .int p2), (3, .int p3)]) C dX5_bitsThatFit_27 (by decide) rfl ?_
    refine v_aload_n C 1 dX5_bitsThatFit_29 rfl rfl ?_
    refine v_callVa (k := 0) (As := []) (rest := []) C (c5_think  h) eX5_133 (by omega) (by omega) (by omega) rfl rfl rfl rfl (Nat.le_of_ble_eq_true rfl) dX5_bitsThatFit_30 (fun r17 M16 h => ?_)
    rcases r17 with _ | k18
    · replace h := h.1 rfl
      change V _ _ _ _ _ _ (.null :: _)
      exact h.elim
    · replace h := h.2 k18 rfl
      change V _ _ _ _ _ _ (.ref (a k18) :: _)
      refine v_astore (lv' := [(5, .ref (a k18)), (4, .int (6 : Int32)), (0, .ref (a 0)), (1, .ref (a s1)), (2, .int p2), (3, .int p3)]) C dX5_bitsThatFit_33 (by decide) rfl ?_
      refine v_aload C 0 dX5_bitsThatFit_35 rfl ?_
      refine v_iload_n C 4 dX5_bitsThatFit_37 rfl rfl ?_
      obtain ⟨hf19, h⟩ := h
      refine v_callVi (k := k18) (As := [.int p2]) (rest := []) C (c0_isPlayer hf19 h) eX5_90 (by omega) (by omega) (xlt_c (j := 0) hf19 (by decide)) (sh_c0 hf19 _) rfl rfl rfl (Nat.le_of_ble_eq_true rfl) dX5_bitsThatFit_38 (fun r21 M20 h => ?_)
      refine v_if_ne C dX5_bitsThatFit_41 (tgt := 46) (by decide) (fun c => ?_) (fun c => ?_)
      · replace h := h.1 c
        refine v_iconst C dX5_bitsThatFit_46 (v := (0 : Int32)) (by decide) ?_
        refine v_istore (lv' := [(6, .int (0 : Int32)), (5, .ref (a k18)), (4, .int (6 : Int32)), (0, .ref (a 0)), (1, .ref (a s1)), (2, .int p2), (3, .int p3)]) C dX5_bitsThatFit_47 (by decide) rfl ?_
        refine v_iconst C dX5_bitsThatFit_49 (v := (0 : Int32)) (by decide) ?_
        refine v_istore (lv' := [(7, .int (0 : Int32)), (6, .int (0 : Int32)), (5, .ref (a k18)), (4, .int (6 : Int32)), (0, .ref (a 0)), (1, .ref (a s1)), (2, .int p2), (3, .int p3)]) C dX5_bitsThatFit_50 (by decide) rfl ?_
        obtain ⟨n22, h⟩ := h
        refine v_sub [5, 6, 7, 3, 2, 1, 0] rfl ?_
        exact t5_bitsThatFit_b52 hp_s1  C hR  n22 M20 p2 p3 (6 : Int32) k18 (0 : Int32) (0 : Int32) hf19 h
      · replace h := h.2 c
        refine v_iconst C dX5_bitsThatFit_44 (v := (0 : Int32)) (by decide) ?_
        exact hR _ _ _ _ h dX5_bitsThatFit_45
