def w5_playersThatFit_b4 (g : GX) (s1 : Nat) (Q : Int32 → S0 → Prop) : Nat → S0 → Int32 → Int32 → Prop
  | 0, _, _, _ => False
  | n + 1, M, v2_4, v3_4 =>
    (((M 10 7) ≤ v3_4) → (Q v2_4 M)) ∧ ((¬ (M 10 7) ≤ v3_4) → (w5_firstOtherwise g 10 s1 M v3_4 (fun r3 M2 => ((¬ r3 = (-1 : Int32)) → (∀ x4 : Int32, x4 = v3_4 + (1 : Int32) → (w5_playersThatFit_b4 g s1  Q n M2 v2_4 x4))) ∧ ((r3 = (-1 : Int32)) → (∀ x5 : Int32, x5 = (v2_4 ||| ((1 : Int32) <<< (v3_4 &&& 31))) → (∀ x6 : Int32, x6 = v3_4 + (1 : Int32) → (w5_playersThatFit_b4 g s1  Q n M2 x5 x6)))))))
set_option maxHeartbeats 4000000 in
set_option maxRecDepth 20000 in
theorem t5_playersThatFit_b4 {B : BX} {E : EX} {a : Nat → Nat} {g : GX} {s1 : Nat} {Q : Int32 → S0 → Prop} (hp_s1 : isSheet s1) (C : Ok B E cX5_playersThatFit 4 RX5 4 95) (hR : RetI B E cX5_playersThatFit 4 (wl (66 + 3 * g.2) a (shX B.2.1 a g.1)) Q) : ∀ (n : Nat) (M : S0) (v2_4 : Int32) (v3_4 : Int32), w5_playersThatFit_b4 g s1  Q n M v2_4 v3_4 → V B E 4 (wl (66 + 3 * g.2) a (shX B.2.1 a g.1) M) 4 [(0, .ref (a 0)), (1, .ref (a s1)), (2, .int v2_4), (3, .int v3_4)] [] := by
  intro n
  induction n with
  | zero =>
    intro M v2_4 v3_4  h
    exact h.elim
  | succ n ih =>
    intro M v2_4 v3_4  h
    rw [w5_playersThatFit_b4] at h
    refine v_iload_n C 3 dX5_playersThatFit_4 rfl rfl ?_
    refine v_aload_n C 0 dX5_playersThatFit_5 rfl rfl ?_
    refine fX5_5_g_now C dX5_playersThatFit_6 ?_
    refine fX5_0_g_many C cl_10 dX5_playersThatFit_9 ?_
    refine v_icmp_ge C dX5_playersThatFit_12 (tgt := 40) (by decide) (fun c => ?_) (fun c => ?_)
    · replace h := h.1 c
      refine v_iload_n C 2 dX5_playersThatFit_40 rfl rfl ?_
      exact hR _ _ _ _ h dX5_playersThatFit_41
    · replace h := h.2 c
      refine v_aload_n C 0 dX5_playersThatFit_15 rfl rfl ?_
      refine fX5_5_g_now C dX5_playersThatFit_16 ?_
      refine v_aload_n C 1 dX5_playersThatFit_19 rfl rfl ?_
      refine v_iload_n C 3 dX5_playersThatFit_20 rfl rfl ?_
      refine v_callSi (As := [.ref (a 10), .ref (a s1), .int v3_4]) (rest := []) C (c5_firstOtherwise cl_10 hp_s1 h) eX5_221 (by omega) (by omega) rfl rfl (Nat.le_of_ble_eq_true rfl) dX5_playersThatFit_21 (fun r3 M2 h => ?_)
      refine v_iconst C dX5_playersThatFit_24 (v := (-1 : Int32)) (by decide) ?_
      refine v_icmp_ne C dX5_playersThatFit_25 (tgt := 34) (by decide) (fun c => ?_) (fun c => ?_)
      · replace h := h.1 c
        obtain ⟨x4, ex4⟩ : ∃ z : Int32, z = v3_4 + (1 : Int32) := ⟨_, rfl⟩
        replace h := h x4 ex4
        refine v_iinc (v := x4) (lv' := [(3, .int x4), (0, .ref (a 0)), (1, .ref (a s1)), (2, .int v2_4)]) C 3 dX5_playersThatFit_34 rfl (by rw [ex4]; rfl) (by decide) rfl ?_
        refine v_goto C dX5_playersThatFit_37 (tgt := 4) (by decide) ?_
        refine v_sub [1, 2, 3, 0] rfl ?_
        exact ih M2 v2_4 x4  h
      · replace h := h.2 c
        refine v_iload_n C 2 dX5_playersThatFit_28 rfl rfl ?_
        refine v_iconst C dX5_playersThatFit_29 (v := (1 : Int32)) (by decide) ?_
        refine v_iload_n C 3 dX5_playersThatFit_30 rfl rfl ?_
        refine v_ishl C dX5_playersThatFit_31 ?_
        refine v_ior C dX5_playersThatFit_32 ?_
        refine v_nmi (fun x5 ex5 => ?_)
        replace h := h x5 ex5
        refine v_istore_n (lv' := [(2, .int x5), (0, .ref (a 0)), (1, .ref (a s1)), (3, .int v3_4)]) C dX5_playersThatFit_33 rfl (by decide) rfl ?_
        obtain ⟨x6, ex6⟩ : ∃ z : Int32, z = v3_4 + (1 : Int32) := ⟨_, rfl⟩
        replace h := h x6 ex6
        refine v_iinc (v := x6) (lv' := [(3, .int x6), (2, .int x5), (0, .ref (a 0)), (1, .ref (a s1))]) C 3 dX5_playersThatFit_34 rfl (by rw [ex6]; rfl) (by decide) rfl ?_
        refine v_goto C dX5_playersThatFit_37 (tgt := 4) (by decide) ?_
        refine v_sub [2, 3, 1, 0] rfl ?_
        exact ih M2 x5 x6  h
def w5_playersThatFit (g : GX) (s1 : Nat) (M : S0) (Q : Int32 → S0 → Prop) : Prop :=
    ∃ n1, w5_playersThatFit_b4 g s1  Q n1 M (0 : Int32) (0 : Int32)
set_option maxHeartbeats 4000000 in
set_option maxRecDepth 20000 in
theorem c5_playersThatFit {B : BX} {a : Nat → Nat} {g : GX} {s1 : Nat} {M : S0} {Q : Int32 → S0 → Prop} (hp_s1 : isSheet s1) (h : w5_playersThatFit g s1 M  Q) : KI B (wl (66 + 3 * g.2) a (shX B.2.1 a g.1)) yX5_playersThatFit cX5_playersThatFit 4 (some .int) 4 95 [.ref (a 0), .ref (a s1)] M Q := by
  rw [w5_playersThatFit] at h
  refine KI_of (by decide +kernel) (Nat.le_of_ble_eq_true rfl) (fun E C hR => ?_)
  change V B E 4 (wl (66 + 3 * g.2) a (shX B.2.1 a g.1) M) 0 [(0, .ref (a 0)), (1, .ref (a s1))] []
  change Ok B E cX5_playersThatFit 4 RX5 4 95 at C
  refine v_iconst C dX5_playersThatFit_0 (v := (0 : Int32)) (by decide) ?_
  refine v_istore_n (lv' := [(2, .int (0 : Int32)), (0, .ref (a 0)), (1, .ref (a s1))]) C dX5_playersThatFit_1 rfl (by decide) rfl ?_
  refine v_iconst C dX5_playersThatFit_2 (v := (0 : Int32)) (by decide) ?_
  refine v_istore_n (lv' := [(3, .int (0 : Int32)), (2, .int (0 : Int32)), (0, .ref (a 0)), (1, .ref (a s1))]) C dX5_playersThatFit_3 rfl (by decide) rfl ?_
  obtain ⟨n1, h⟩ := h
  refine v_sub [2, 3, 1, 0] rfl ?_
  exact t5_playersThatFit_b4 hp_s1  C hR  n1 M (0 : Int32) (0 : Int32)  h
def w5_bitsThatFit_b52 (g : GX) (s1 : Nat) (Q : Int32 → S0 → Prop) : Nat → S0 → Int32 → Int32 → Int32 → Nat → Int32 → Int32 → Prop
  | 0, _, _, _, _, _, _, _ => False
  | n + 1, M, v2_52, v3_52, v4_52, v5_52, v6_52, v7_52 =>
    ((v4_52 ≤ v7_52) → (Q v6_52 M)) ∧ ((¬ v4_52 ≤ v7_52) → (((¬ v3_52 = (1 : Int32)) → (((¬ v3_52 = (2 : Int32)) → (∀ M23 : S0, M23 = up M v5_52 9 v7_52 → (w5_firstOtherwise g v5_52 s1 M23 v2_52 (fun r25 M24 => ((¬ r25 = (-1 : Int32)) → (∀ x26 : Int32, x26 = v7_52 + (1 : Int32) → (w5_bitsThatFit_b52 g s1  Q n M24 v2_52 v3_52 v4_52 v5_52 v6_52 x26))) ∧ ((r25 = (-1 : Int32)) → (∀ x27 : Int32, x27 = (v6_52 ||| ((1 : Int32) <<< (v7_52 &&& 31))) → (∀ x28 : Int32, x28 = v7_52 + (1 : Int32) → (w5_bitsThatFit_b52 g s1  Q n M24 v2_52 v3_52 v4_52 v5_52 x27 x28)))))))) ∧ ((v3_52 = (2 : Int32)) → ((vp_in v2_52 6) ∧ (∀ M30 : S0, M30 = up M (v5_52 + 2) (Int32.toNatClampNeg v2_52) v7_52 → (w5_firstOtherwise g v5_52 s1 M30 v2_52 (fun r32 M31 => ((¬ r32 = (-1 : Int32)) → (∀ x33 : Int32, x33 = v7_52 + (1 : Int32) → (w5_bitsThatFit_b52 g s1  Q n M31 v2_52 v3_52 v4_52 v5_52 v6_52 x33))) ∧ ((r32 = (-1 : Int32)) → (∀ x34 : Int32, x34 = (v6_52 ||| ((1 : Int32) <<< (v7_52 &&& 31))) → (∀ x35 : Int32, x35 = v7_52 + (1 : Int32) → (w5_bitsThatFit_b52 g s1  Q n M31 v2_52 v3_52 v4_52 v5_52 x34 x35))))))))))) ∧ ((v3_52 = (1 : Int32)) → ((vp_in v2_52 6) ∧ (∀ M37 : S0, M37 = up M (v5_52 + 1) (Int32.toNatClampNeg v2_52) v7_52 → (w5_firstOtherwise g v5_52 s1 M37 v2_52 (fun r39 M38 => ((¬ r39 = (-1 : Int32)) → (∀ x40 : Int32, x40 = v7_52 + (1 : Int32) → (w5_bitsThatFit_b52 g s1  Q n M38 v2_52 v3_52 v4_52 v5_52 v6_52 x40))) ∧ ((r39 = (-1 : Int32)) → (∀ x41 : Int32, x41 = (v6_52 ||| ((1 : Int32) <<< (v7_52 &&& 31))) → (∀ x42 : Int32, x42 = v7_52 + (1 : Int32) → (w5_bitsThatFit_b52 g s1  Q n M38 v2_52 v3_52 v4_52 v5_52 x41 x42)))))))))))
set_option maxHeartbeats 4000000 in
set_option maxRecDepth 20000 in
theorem t5_bitsThatFit_b52 {B : BX} {E : EX} {a : Nat → Nat} {g : GX} {s1 : Nat} {Q : Int32 → S0 → Prop} (hp_s1 : isSheet s1) (C : Ok B E cX5_bitsThatFit 8 RX5 4 95) (hR : RetI B E cX5_bitsThatFit 8 (wl (66 + 3 * g.2) a (shX B.2.1 a g.1)) Q) : ∀ (n : Nat) (M : S0) (v2_52 : Int32) (v3_52 : Int32) (v4_52 : Int32) (v5_52 : Nat) (v6_52 : Int32) (v7_52 : Int32), (hp_v5_52 : isClub v5_52) → w5_bitsThatFit_b52 g s1  Q n M v2_52 v3_52 v4_52 v5_52 v6_52 v7_52 → V B E 8 (wl (66 + 3 * g.2) a (shX B.2.1 a g.1) M) 52 [(1, .ref (a s1)), (2, .int v2_52), (3, .int v3_52), (4, .int v4_52), (5, .ref (a v5_52)), (6, .int v6_52), (7, .int v7_52)] [] := by
  intro n
  induction n with
  | zero =>
    intro M v2_52 v3_52 v4_52 v5_52 v6_52 v7_52 hp_v5_52 h
    exact h.elim
  | succ n ih =>
    intro M v2_52 v3_52 v4_52 v5_52 v6_52 v7_52 hp_v5_52 h
    rw [w5_bitsThatFit_b52] at h
    refine v_iload C 6 dX5_bitsThatFit_52 rfl ?_
    refine v_iload C 3 dX5_bitsThatFit_54 rfl ?_
    refine v_icmp_ge C dX5_bitsThatFit_56 (tgt := 126) (by decide) (fun c => ?_) (fun c => ?_)
    · replace h := h.1 c
      refine v_iload C 5 dX5_bitsThatFit_126 rfl ?_
      exact hR _ _ _ _ h dX5_bitsThatFit_128
    · replace h := h.2 c
      refine v_iload_n C 2 dX5_bitsThatFit_59 rfl rfl ?_
      refine v_iconst C dX5_bitsThatFit_60 (v := (1 : Int32)) (by decide) ?_
      refine v_icmp_ne C dX5_bitsThatFit_61 (tgt := 76) (by decide) (fun c => ?_) (fun c => ?_)
      · replace h := h.1 c
        refine v_iload_n C 2 dX5_bitsThatFit_76 rfl rfl ?_
        refine v_iconst C dX5_bitsThatFit_77 (v := (2 : Int32)) (by decide) ?_
        refine v_icmp_ne C dX5_bitsThatFit_78 (tgt := 93) (by decide) (fun c => ?_) (fun c => ?_)
        · replace h := h.1 c
          refine v_aload C 4 dX5_bitsThatFit_93 rfl ?_
          refine v_iload C 6 dX5_bitsThatFit_95 rfl ?_
          refine fX5_0_p_rule C hp_v5_52 dX5_bitsThatFit_97 (fun M23 eM23 => ?_)
          replace h := h M23 eM23
          refine v_aload C 4 dX5_bitsThatFit_100 rfl ?_
          refine v_aload_n C 0 dX5_bitsThatFit_102 rfl rfl ?_
          refine v_iload_n C 1 dX5_bitsThatFit_103 rfl rfl ?_
          refine v_callSi (As := [.ref (a v5_52), .ref (a s1), .int v2_52]) (rest := []) C (c5_firstOtherwise hp_v5_52 hp_s1 h) eX5_221 (by omega) (by omega) rfl rfl (Nat.le_of_ble_eq_true rfl) dX5_bitsThatFit_104 (fun r25 M24 h => ?_)
          refine v_iconst C dX5_bitsThatFit_107 (v := (-1 : Int32)) (by decide) ?_
          refine v_icmp_ne C dX5_bitsThatFit_108 (tgt := 120) (by decide) (fun c => ?_) (fun c => ?_)
          · replace h := h.1 c
            obtain ⟨x26, ex26⟩ : ∃ z : Int32, z = v7_52 + (1 : Int32) := ⟨_, rfl⟩
            replace h := h x26 ex26
            refine v_iinc (v := x26) (lv' := [(7, .int x26), (1, .ref (a s1)), (2, .int v2_52), (3, .int v3_52), (4, .int v4_52), (5, .ref (a v5_52)), (6, .int v6_52)]) C 6 dX5_bitsThatFit_120 rfl (by rw [ex26]; rfl) (by decide) rfl ?_
            refine v_goto C dX5_bitsThatFit_123 (tgt := 52) (by decide) ?_
            refine v_sub [1, 2, 3, 4, 5, 6, 0] rfl ?_
            exact ih M24 v2_52 v3_52 v4_52 v5_52 v6_52 x26 hp_v5_52 h
          · replace h := h.2 c
            refine v_iload C 5 dX5_bitsThatFit_111 rfl ?_
            refine v_iconst C dX5_bitsThatFit_113 (v := (1 : Int32)) (by decide) ?_
            refine v_iload C 6 dX5_bitsThatFit_114 rfl ?_
            refine v_ishl C dX5_bitsThatFit_116 ?_
            refine v_ior C dX5_bitsThatFit_117 ?_
            refine v_nmi (fun x27 ex27 => ?_)
            replace h := h x27 ex27
            refine v_istore (lv' := [(6, .int x27), (1, .ref (a s1)), (2, .int v2_52), (3, .int v3_52), (4, .int v4_52), (5, .ref (a v5_52)), (7, .int v7_52)]) C dX5_bitsThatFit_118 (by decide) rfl ?_
            obtain ⟨x28, ex28⟩ : ∃ z : Int32, z = v7_52 + (1 : Int32) := ⟨_, rfl⟩
            replace h := h x28 ex28
            refine v_iinc (v := x28) (lv' := [(7, .int x28), (6, .int x27), (1, .ref (a s1)), (2, .int v2_52), (3, .int v3_52), (4, .int v4_52), (5, .ref (a v5_52))]) C 6 dX5_bitsThatFit_120 rfl (by rw [ex28]; rfl) (by decide) rfl ?_
            refine v_goto C dX5_bitsThatFit_123 (tgt := 52) (by decide) ?_
            refine v_sub [2, 3, 4, 5, 6, 1, 0] rfl ?_
            exact ih M24 v2_52 v3_52 v4_52 v5_52 x27 x28 hp_v5_52 h
        · replace h := h.2 c
          refine v_aload C 4 dX5_bitsThatFit_81 rfl ?_
          refine fX5_0_g_number C hp_v5_52 dX5_bitsThatFit_83 ?_
          refine v_iload_n C 1 dX5_bitsThatFit_86 rfl rfl ?_
          refine v_iload C 6 dX5_bitsThatFit_87 rfl ?_
          obtain ⟨hi29, h⟩ := h
          refine v_iast (k := (v5_52 + 2)) C (xlt_c hp_v5_52 (by decide)) (sh_ca (ca_of hp_v5_52 (by decide) (by decide))) hi29 dX5_bitsThatFit_89 ?_
          obtain ⟨M30, eM30⟩ : ∃ z : S0, z = up M (v5_52 + 2) (Int32.toNatClampNeg v2_52) v7_52 := ⟨_, rfl⟩
          rw [← eM30]
          replace h := h M30 eM30
          refine v_goto C dX5_bitsThatFit_90 (tgt := 100) (by decide) ?_
          refine v_aload C 4 dX5_bitsThatFit_100 rfl ?_
          refine v_aload_n C 0 dX5_bitsThatFit_102 rfl rfl ?_
          refine v_iload_n C 1 dX5_bitsThatFit_103 rfl rfl ?_
          refine v_callSi (As := [.ref (a v5_52), .ref (a s1), .int v2_52]) (rest := []) C (c5_firstOtherwise hp_v5_52 hp_s1 h) eX5_221 (by omega) (by omega) rfl rfl (Nat.le_of_ble_eq_true rfl) dX5_bitsThatFit_104 (fun r32 M31 h => ?_)
          refine v_iconst C dX5_bitsThatFit_107 (v := (-1 : Int32)) (by decide) ?_
          refine v_icmp_ne C dX5_bitsThatFit_108 (tgt := 120) (by decide) (fun c => ?_) (fun c => ?_)
          · replace h := h.1 c
            obtain ⟨x33, ex33⟩ : ∃ z : Int32, z = v7_52 + (1 : Int32) := ⟨_, rfl⟩
            replace h := h x33 ex33
            refine v_iinc (v := x33) (lv' := [(7, .int x33), (1, .ref (a s1)), (2, .int v2_52), (3, .int v3_52), (4, .int v4_52), (5, .ref (a v5_52)), (6, .int v6_52)]) C 6 dX5_bitsThatFit_120 rfl (by rw [ex33]; rfl) (by decide) rfl ?_
            refine v_goto C dX5_bitsThatFit_123 (tgt := 52) (by decide) ?_
            refine v_sub [1, 2, 3, 4, 5, 6, 0] rfl ?_
            exact ih M31 v2_52 v3_52 v4_52 v5_52 v6_52 x33 hp_v5_52 h
          · replace h := h.2 c
            refine v_iload C 5 dX5_bitsThatFit_111 rfl ?_
            refine v_iconst C dX5_bitsThatFit_113 (v := (1 : Int32)) (by decide) ?_
            refine v_iload C 6 dX5_bitsThatFit_114 rfl ?_
            refine v_ishl C dX5_bitsThatFit_116 ?_
            refine v_ior C dX5_bitsThatFit_117 ?_
            refine v_nmi (fun x34 ex34 => ?_)
            replace h := h x34 ex34
            refine v_istore (lv' := [(6, .int x34), (1, .ref (a s1)), (2, .int v2_52), (3, .int v3_52), (4, .int v4_52), (5, .ref (a v5_52)), (7, .int v7_52)]) C dX5_bitsThatFit_118 (by decide) rfl ?_
            obtain ⟨x35, ex35⟩ : ∃ z : Int32, z = v7_52 + (1 : Int32) := ⟨_, rfl⟩
            replace h := h x35 ex35
            refine v_iinc (v := x35) (lv' := [(7, .int x35), (6, .int x34), (1, .ref (a s1)), (2, .int v2_52), (3, .int v3_52), (4, .int v4_52), (5, .ref (a v5_52))]) C 6 dX5_bitsThatFit_120 rfl (by rw [ex35]; rfl) (by decide) rfl ?_
            refine v_goto C dX5_bitsThatFit_123 (tgt := 52) (by decide) ?_
            refine v_sub [2, 3, 4, 5, 6, 1, 0] rfl ?_
            exact ih M31 v2_52 v3_52 v4_52 v5_52 x34 x35 hp_v5_52 h
      · replace h := h.2 c
        refine v_aload C 4 dX5_bitsThatFit_64 rfl ?_
        refine fX5_0_g_kind C hp_v5_52 dX5_bitsThatFit_66 ?_
        refine v_iload_n C 1 dX5_bitsThatFit_69 rfl rfl ?_
        refine v_iload C 6 dX5_bitsThatFit_70 rfl ?_
        obtain ⟨hi36, h⟩ := h
        refine v_iast (k := (v5_52 + 1)) C (xlt_c hp_v5_52 (by decide)) (sh_ca (ca_of hp_v5_52 (by decide) (by decide))) hi36 dX5_bitsThatFit_72 ?_
        obtain ⟨M37, eM37⟩ : ∃ z : S0, z = up M (v5_52 + 1) (Int32.toNatClampNeg v2_52) v7_52 := ⟨_, rfl⟩
        rw [← eM37]
        replace h := h M37 eM37
        refine v_goto C dX5_bitsThatFit_73 (tgt := 100) (by decide) ?_
        refine v_aload C 4 dX5_bitsThatFit_100 rfl ?_
        refine v_aload_n C 0 dX5_bitsThatFit_102 rfl rfl ?_
        refine v_iload_n C 1 dX5_bitsThatFit_103 rfl rfl ?_
        refine v_callSi (As := [.ref (a v5_52), .ref (a s1), .int v2_52]) (rest := []) C (c5_firstOtherwise hp_v5_52 hp_s1 h) eX5_221 (by omega) (by omega) rfl rfl (Nat.le_of_ble_eq_true rfl) dX5_bitsThatFit_104 (fun r39 M38 h => ?_)
        refine v_iconst C dX5_bitsThatFit_107 (v := (-1 : Int32)) (by decide) ?_
        refine v_icmp_ne C dX5_bitsThatFit_108 (tgt := 120) (by decide) (fun c => ?_) (fun c => ?_)
        · replace h := h.1 c
          obtain ⟨x40, ex40⟩ : ∃ z : Int32, z = v7_52 + (1 : Int32) := ⟨_, rfl⟩
          replace h := h x40 ex40
          refine v_iinc (v := x40) (lv' := [(7, .int x40), (1, .ref (a s1)), (2, .int v2_52), (3, .int v3_52), (4, .int v4_52), (5, .ref (a v5_52)), (6, .int v6_52)]) C 6 dX5_bitsThatFit_120 rfl (by rw [ex40]; rfl) (by decide) rfl ?_
          refine v_goto C dX5_bitsThatFit_123 (tgt := 52) (by decide) ?_
          refine v_sub [1, 2, 3, 4, 5, 6, 0] rfl ?_
          exact ih M38 v2_52 v3_52 v4_52 v5_52 v6_52 x40 hp_v5_52 h
        · replace h := h.2 c
          refine v_iload C 5 dX5_bitsThatFit_111 rfl ?_
          refine v_iconst C dX5_bitsThatFit_113 (v := (1 : Int32)) (by decide) ?_
          refine v_iload C 6 dX5_bitsThatFit_114 rfl ?_
          refine v_ishl C dX5_bitsThatFit_116 ?_
          refine v_ior C dX5_bitsThatFit_117 ?_
          refine v_nmi (fun x41 ex41 => ?_)
          replace h := h x41 ex41
          refine v_istore (lv' := [(6, .int x41), (1, .ref (a s1)), (2, .int v2_52), (3, .int v3_52), (4, .int v4_52), (5, .ref (a v5_52)), (7, .int v7_52)]) C dX5_bitsThatFit_118 (by decide) rfl ?_
          obtain ⟨x42, ex42⟩ : ∃ z : Int32, z = v7_52 + (1 : Int32) := ⟨_, rfl⟩
          replace h := h x42 ex42
          refine v_iinc (v := x42) (lv' := [(7, .int x42), (6, .int x41), (1, .ref (a s1)), (2, .int v2_52), (3, .int v3_52), (4, .int v4_52), (5, .ref (a v5_52))]) C 6 dX5_bitsThatFit_120 rfl (by rw [ex42]; rfl) (by decide) rfl ?_
          refine v_goto C dX5_bitsThatFit_123 (tgt := 52) (by decide) ?_
          refine v_sub [2, 3, 4, 5, 6, 1, 0] rfl ?_
          exact ih M38 v2_52 v3_52 v4_52 v5_52 x41 x42 hp_v5_52 h
def w5_bitsThatFit (g : GX) (s1 : Nat) (M : S0) (p2 : Int32) (p3 : Int32) (Q : Int32 → S0 → Prop) : Prop :=
    ((¬ p3 = (1 : Int32)) → (((¬ p3 = (2 : Int32)) → (∀ x1 : Int32, x1 = (M 1 3) → (w5_think g M (fun r3 M2 => ((r3 = none) → (False)) ∧ (∀ k4 : Nat, r3 = some k4 → ((isClub k4) ∧ (w0_isPlayer g k4 M2 p2 (fun r7 M6 => ((¬ r7 = 0) → (∃ n8, w5_bitsThatFit_b52 g s1  Q n8 M6 p2 p3 x1 k4 (0 : Int32) (0 : Int32))) ∧ ((r7 = 0) → (Q (0 : Int32) M6)))))))))) ∧ ((p3 = (2 : Int32)) → (w5_think g M (fun r10 M9 => ((r10 = none) → (False)) ∧ (∀ k11 : Nat, r10 = some k11 → ((isClub k11) ∧ (w0_isPlayer g k11 M9 p2 (fun r14 M13 => ((¬ r14 = 0) → (∃ n15, w5_bitsThatFit_b52 g s1  Q n15 M13 p2 p3 (10 : Int32) k11 (0 : Int32) (0 : Int32))) ∧ ((r14 = 0) → (Q (0 : Int32) M13))))))))))) ∧ ((p3 = (1 : Int32)) → (w5_think g M (fun r17 M16 => ((r17 = none) → (False)) ∧ (∀ k18 : Nat, r17 = some k18 → ((isClub k18) ∧ (w0_isPlayer g k18 M16 p2 (fun r21 M20 => ((¬ r21 = 0) → (∃ n22, w5_bitsThatFit_b52 g s1  Q n22 M20 p2 p3 (6 : Int32) k18 (0 : Int32) (0 : Int32))) ∧ ((r21 = 0) → (Q (0 : Int32) M20)))))))))
set_option maxHeartbeats 4000000 in
set_option maxRecDepth 20000 in
theorem c5_bitsThatFit {B : BX} {a : Nat → Nat} {g : GX} {s1 : Nat} {M : S0} {p2 : Int32} {p3 : Int32} {Q : Int32 → S0 → Prop} (hp_s1 : isSheet s1) (h : w5_bitsThatFit g s1 M p2 p3 Q) : KI B (wl (66 + 3 * g.2) a (shX B.2.1 a g.1)) yX5_bitsThatFit cX5_bitsThatFit 8 (some .int) 4 95 [.ref (a 0), .ref (a s1), .int p2, .int p3] M Q := by
  rw [w5_bitsThatFit] at h
  refine KI_of (by decide +kernel) (Nat.le_of_ble_eq_true rfl) (fun E C hR => ?_)
  change V B E 8 (wl (66 + 3 * g.2) a (shX B.2.1 a g.1) M) 0 [(0, .ref (a 0)), (1, .ref (a s1)), (2, .int p2), (3, .int p3)] []
  change Ok B E cX5_bitsThatFit 8 RX5 4 95 at C
  refine v_iload_n C 3 dX5_bitsThatFit_0 rfl rfl ?_
  refine v_iconst C dX5_bitsThatFit_1 (v := (1 : Int32)) (by decide) ?_
  refine v_icmp_ne C dX5_bitsThatFit_2 (tgt := 10) (by decide) (fun c => ?_) (fun c => ?_)
  · replace h := h.1 c
    refine v_iload_n C 3 dX5_bitsThatFit_10 rfl rfl ?_
    refine v_iconst C dX5_bitsThatFit_11 (v := (2 : Int32)) (by decide) ?_
    refine v_icmp_ne C dX5_bitsThatFit_12 (tgt := 20) (by decide) (fun c => ?_) (fun c => ?_)
    · replace h := h.1 c
      refine v_aload_n C 0 dX5_bitsThatFit_20 rfl rfl ?_
      refine fX5_5_g_texts C dX5_bitsThatFit_21 ?_
      refine fX5_4_g_many C dX5_bitsThatFit_24 ?_
      refine v_nmi (fun x1 ex1 => ?_)
      replace h := h x1 ex1
      refine v_istore (lv' := [(4, .int x1), (0, .ref (a 0)), (1, .ref (a s1)), (2, .int p2), (3, .int p3)]) C dX5_bitsThatFit_27 (by decide) rfl ?_
      refine v_aload_n C 1 dX5_bitsThatFit_29 rfl rfl ?_
      refine v_callVa (k := 0) (As := []) (rest := []) C (c5_think  h) eX5_133 (by omega) (by omega) (by omega) rfl rfl rfl rfl (Nat.le_of_ble_eq_true rfl) dX5_bitsThatFit_30 (fun r3 M2 h => ?_)
      rcases r3 with _ | k4
      · replace h := h.1 rfl
        change V _ _ _ _ _ _ (.null :: _)
        exact h.elim
      · replace h := h.2 k4 rfl
        change V _ _ _ _ _ _ (.ref (a k4) :: _)
        refine v_astore (lv' := [(5, .ref (a k4)), (4, .int x1), (0, .ref (a 0)), (1, .ref (a s1)), (2, .int p2), (3, .int p3)]) C dX5_bitsThatFit_33 (by decide) rfl ?_
        refine v_aload C 0 dX5_bitsThatFit_35 rfl ?_
        refine v_iload_n C 4 dX5_bitsThatFit_37 rfl rfl ?_
        obtain ⟨hf5, h⟩ := h
        refine v_callVi (k := k4) (As := [.int p2]) (rest := []) C (c0_isPlayer hf5 h) eX5_90 (by omega) (by omega) (xlt_c (j := 0) hf5 (by decide)) (sh_c0 hf5 _) rfl rfl rfl (Nat.le_of_ble_eq_true rfl) dX5_bitsThatFit_38 (fun r7 M6 h => ?_)
        refine v_if_ne C dX5_bitsThatFit_41 (tgt := 46) (by decide) (fun c => ?_) (fun c => ?_)
        · replace h := h.1 c
          refine v_iconst C dX5_bitsThatFit_46 (v := (0 : Int32)) (by decide) ?_
          refine v_istore (lv' := [(6, .int (0 : Int32)), (5, .ref (a k4)), (4, .int x1), (0, .ref (a 0)), (1, .ref (a s1)), (2, .int p2), (3, .int p3)]) C dX5_bitsThatFit_47 (by decide) rfl ?_
          refine v_iconst C dX5_bitsThatFit_49 (v := (0 : Int32)) (by decide) ?_
          refine v_istore (lv' := [(7, .int (0 : Int32)), (6, .int (0 : Int32)), (5, .ref (a k4)), (4, .int x1), (0, .ref (a 0)), (1, .ref (a s1)), (2, .int p2), (3, .int p3)]) C dX5_bitsThatFit_50 (by decide) rfl ?_
          obtain ⟨n8, h⟩ := h
          refine v_sub [5, 6, 7, 3, 2, 1, 0] rfl ?_
          exact t5_bitsThatFit_b52 hp_s1  C hR  n8 M6 p2 p3 x1 k4 (0 : Int32) (0 : Int32) hf5 h
        · replace h := h.2 c
          refine v_iconst C dX5_bitsThatFit_44 (v := (0 : Int32)) (by decide) ?_
          exact hR _ _ _ _ h dX5_bitsThatFit_45
    · replace h := h.2 c
      refine v_bipush C dX5_bitsThatFit_15 (v := (10 : Int32)) (by decide) ?_
      refine v_goto C dX5_bitsThatFit_17 (tgt := 27) (by decide) ?_
      refine v_istore (lv' := [(4, .int (10 : Int32)), (0, .ref (a 0)), (1, .ref (a s1)), (2, .int p2), (3, .int p3)]) C dX5_bitsThatFit_27 (by decide) rfl ?_
      refine v_aload_n C 1 dX5_bitsThatFit_29 rfl rfl ?_
      refine v_callVa (k := 0) (As := []) (rest := []) C (c5_think  h) eX5_133 (by omega) (by omega) (by omega) rfl rfl rfl rfl (Nat.le_of_ble_eq_true rfl) dX5_bitsThatFit_30 (fun r10 M9 h => ?_)
      rcases r10 with _ | k11
      · replace h := h.1 rfl
        change V _ _ _ _ _ _ (.null :: _)
        exact h.elim
      · replace h := h.2 k11 rfl
        change V _ _ _ _ _ _ (.ref (a k11) :: _)
        refine v_astore (lv' := [(5, .ref (a k11)), (4, .int (10 : Int32)), (0, .ref (a 0)), (1, .ref (a s1)), (2, .int p2), (3, .int p3)]) C dX5_bitsThatFit_33 (by decide) rfl ?_
        refine v_aload C 0 dX5_bitsThatFit_35 rfl ?_
        refine v_iload_n C 4 dX5_bitsThatFit_37 rfl rfl ?_
        obtain ⟨hf12, h⟩ := h
        refine v_callVi (k := k11) (As := [.int p2]) (rest := []) C (c0_isPlayer hf12 h) eX5_90 (by omega) (by omega) (xlt_c (j := 0) hf12 (by decide)) (sh_c0 hf12 _) rfl rfl rfl (Nat.le_of_ble_eq_true rfl) dX5_bitsThatFit_38 (fun r14 M13 h => ?_)
        refine v_if_ne C dX5_bitsThatFit_41 (tgt := 46) (by decide) (fun c => ?_) (fun c => ?_)
        · replace h := h.1 c
          refine v_iconst C dX5_bitsThatFit_46 (v := (0 : Int32)) (by decide) ?_
          refine v_istore (lv' := [(6, .int (0 : Int32)), (5, .ref (a k11)), (4, .int (10 : Int32)), (0, .ref (a 0)), (1, .ref (a s1)), (2, .int p2), (3, .int p3)]) C dX5_bitsThatFit_47 (by decide) rfl ?_
          refine v_iconst C dX5_bitsThatFit_49 (v := (0 : Int32)) (by decide) ?_
          refine v_istore (lv' := [(7, .int (0 : Int32)), (6, .int (0 : Int32)), (5, .ref (a k11)), (4, .int (10 : Int32)), (0, .ref (a 0)), (1, .ref (a s1)), (2, .int p2), (3, .int p3)]) C dX5_bitsThatFit_50 (by decide) rfl ?_
          obtain ⟨n15, h⟩ := h
          refine v_sub [5, 6, 7, 3, 2, 1, 0] rfl ?_
          exact t5_bitsThatFit_b52 hp_s1  C hR  n15 M13 p2 p3 (10 : Int32) k11 (0 : Int32) (0 : Int32) hf12 h
        · replace h := h.2 c
          refine v_iconst C dX5_bitsThatFit_44 (v := (0 : Int32)) (by decide) ?_
          exact hR _ _ _ _ h dX5_bitsThatFit_45
  · replace h := h.2 c
    refine v_bipush C dX5_bitsThatFit_5 (v := (6 : Int32)) (by decide) ?_
    refine v_goto C dX5_bitsThatFit_7 (tgt := 27) (by decide) ?_
    refine v_istore (lv' := [(4, .int (6 : Int32)), (0, .ref (a 0)), (1, .ref (a s1)), (2, .int p2), (3, .int p3)]) C dX5_bitsThatFit_27 (by decide) rfl ?_
    refine v_aload_n C 1 dX5_bitsThatFit_29 rfl rfl ?_
    refine v_callVa (k := 0) (As := []) (rest := []) C (c5_think  h) eX5_133 (by omega) (by omega) (by omega) rfl rfl rfl rfl (Nat.le_of_ble_eq_true rfl) dX5_bitsThatFit_30 (fun r17 M16 h => ?_)
    rcases r17 with _ | k18
    · replace h := h.1 rfl
      change V _ _ _ _ _ _ (.null :: _)
      exact h.elim
    · replace h := h.2 k18 rfl
      change V _ _ _ _ _ _ (.ref (a k18) :: _)
      refine v_astore (lv' := [(5, .ref (a k18)), (4, .int (6 : Int32)), (0, .ref (a 0)), (1, .ref (a s1)), (2, .int p2), (3, .int p3)]) C dX5_bitsThatFit_33 (by decide) rfl ?_
      refine v_aload C 0 dX5_bitsThatFit_35 rfl ?_
      refine v_iload_n C 4 dX5_bitsThatFit_37 rfl rfl ?_
      obtain ⟨hf19, h⟩ := h
      refine v_callVi (k := k18) (As := [.int p2]) (rest := []) C (c0_isPlayer hf19 h) eX5_90 (by omega) (by omega) (xlt_c (j := 0) hf19 (by decide)) (sh_c0 hf19 _) rfl rfl rfl (Nat.le_of_ble_eq_true rfl) dX5_bitsThatFit_38 (fun r21 M20 h => ?_)
      refine v_if_ne C dX5_bitsThatFit_41 (tgt := 46) (by decide) (fun c => ?_) (fun c => ?_)
      · replace h := h.1 c
        refine v_iconst C dX5_bitsThatFit_46 (v := (0 : Int32)) (by decide) ?_
        refine v_istore (lv' := [(6, .int (0 : Int32)), (5, .ref (a k18)), (4, .int (6 : Int32)), (0, .ref (a 0)), (1, .ref (a s1)), (2, .int p2), (3, .int p3)]) C dX5_bitsThatFit_47 (by decide) rfl ?_
        refine v_iconst C dX5_bitsThatFit_49 (v := (0 : Int32)) (by decide) ?_
        refine v_istore (lv' := [(7, .int (0 : Int32)), (6, .int (0 : Int32)), (5, .ref (a k18)), (4, .int (6 : Int32)), (0, .ref (a 0)), (1, .ref (a s1)), (2, .int p2), (3, .int p3)]) C dX5_bitsThatFit_50 (by decide) rfl ?_
        obtain ⟨n22, h⟩ := h
        refine v_sub [5, 6, 7, 3, 2, 1, 0] rfl ?_
        exact t5_bitsThatFit_b52 hp_s1  C hR  n22 M20 p2 p3 (6 : Int32) k18 (0 : Int32) (0 : Int32) hf19 h
      · replace h := h.2 c
        refine v_iconst C dX5_bitsThatFit_44 (v := (0 : Int32)) (by decide) ?_
        exact hR _ _ _ _ h dX5_bitsThatFit_45
def w5_tells (g : GX) (M : S0) (p1 : Int32) (p2 : Int32) (p3 : Int32) (Q : Int32 → S0 → Prop) : Prop :=
    w5_sheetAt g M p1 (fun r2 M1 => ((r2 = none) → (Q (-2 : Int32) M1)) ∧ (∀ k3 : Nat, r2 = some k3 → (w0_isPlayer g 10 M1 p2 (fun r5 M4 => ((r5 = 0) → (Q (-2 : Int32) M4)) ∧ ((¬ r5 = 0) → (w5_isWithin g M4 p3 (0 : Int32) (8 : Int32) (fun r7 M6 => ((¬ r7 = 0) → ((isSheet k3) ∧ (w2_isMissing g k3 M6 (fun r10 M9 => ((r10 = 0) → ((((M9 k3 2) = (M9 10 7)) → (((p3.toInt = 0) → (w5_firstOtherwise g 10 k3 M9 p2 (fun r12 M11 => Q r12 M11))) ∧ ((p3.toInt = 1) → (w5_bitsThatFit g k3 M9 p2 p3 (fun r14 M13 => Q r14 M13))) ∧ ((p3.toInt = 2) → (w5_bitsThatFit g k3 M9 p2 p3 (fun r16 M15 => Q r16 M15))) ∧ ((p3.toInt = 3) → (w5_howManyFit g k3 M9 p2 (0 : Int32) (fun r18 M17 => Q r18 M17))) ∧ ((p3.toInt = 4) → (w5_leastThatFits g k3 M9 p2 (0 : Int32) (fun r20 M19 => Q r20 M19))) ∧ ((p3.toInt = 5) → (w5_howManyFit g k3 M9 p2 (4 : Int32) (fun r22 M21 => Q r22 M21))) ∧ ((p3.toInt = 6) → (w5_leastThatFits g k3 M9 p2 (4 : Int32) (fun r24 M23 => Q r24 M23))) ∧ ((p3.toInt = 7) → (w5_bitsThatFit g k3 M9 p2 p3 (fun r26 M25 => Q r26 M25))) ∧ ((p3.toInt = 8) → (w5_playersThatFit g k3 M9 (fun r28 M27 => Q r28 M27))) ∧ ((p3.toInt < 0 ∨ 8 < p3.toInt) → (w5_bitsThatFit g k3 M9 p2 p3 (fun r30 M29 => Q r30 M29))))) ∧ ((¬ (M9 k3 2) = (M9 10 7)) → (Q (-2 : Int32) M9)))) ∧ ((¬ r10 = 0) → (Q (-11 : Int32) M9)))))) ∧ ((r7 = 0) → (Q (-2 : Int32) M6)))))))))
set_option maxHeartbeats 4000000 in
set_option maxRecDepth 20000 in
theorem c5_tells {B : BX} {a : Nat → Nat} {g : GX} {M : S0} {p1 : Int32} {p2 : Int32} {p3 : Int32} {Q : Int32 → S0 → Prop} (h : w5_tells g M p1 p2 p3 Q) : KI B (wl (66 + 3 * g.2) a (shX B.2.1 a g.1)) yX5_tells cX5_tells 5 (some .int) 6 145 [.ref (a 0), .int p1, .int p2, .int p3] M Q := by
  rw [w5_tells] at h
  refine KI_of (by decide +kernel) (Nat.le_of_ble_eq_true rfl) (fun E C hR => ?_)
  change V B E 5 (wl (66 + 3 * g.2) a (shX B.2.1 a g.1) M) 0 [(0, .ref (a 0)), (1, .int p1), (2, .int p2), (3, .int p3)] []
  change Ok B E cX5_tells 5 RX5 6 145 at C
  refine v_aload_n C 0 dX5_tells_0 rfl rfl ?_
  refine v_iload_n C 1 dX5_tells_1 rfl rfl ?_
  refine v_callVa (k := 0) (As := [.int p1]) (rest := []) C (c5_sheetAt  h) eX5_155 (by omega) (by omega) (by omega) rfl rfl rfl rfl (Nat.le_of_ble_eq_true rfl) dX5_tells_2 (fun r2 M1 h => ?_)
  rcases r2 with _ | k3
  · replace h := h.1 rfl
    change V _ _ _ _ _ _ (.null :: _)
    refine v_astoreN (lv' := [(4, .null), (0, .ref (a 0)), (1, .int p1), (2, .int p2), (3, .int p3)]) C dX5_tells_5 (by decide) rfl ?_
    refine v_aloadN C 0 dX5_tells_7 rfl ?_
    refine v_ifnullN C dX5_tells_9 (tgt := 33) (by decide) ?_
    refine v_bipush C dX5_tells_33 (v := (-2 : Int32)) (by decide) ?_
    exact hR _ _ _ _ h dX5_tells_35
  · replace h := h.2 k3 rfl
    change V _ _ _ _ _ _ (.ref (a k3) :: _)
    refine v_astore (lv' := [(4, .ref (a k3)), (0, .ref (a 0)), (1, .int p1), (2, .int p2), (3, .int p3)]) C dX5_tells_5 (by decide) rfl ?_
    refine v_aload C 0 dX5_tells_7 rfl ?_
    refine v_ifnull C dX5_tells_9 ?_
    refine v_aload_n C 1 dX5_tells_12 rfl rfl ?_
    refine fX5_5_g_now C dX5_tells_13 ?_
    refine v_iload_n C 3 dX5_tells_16 rfl rfl ?_
    refine v_callVi (k := 10) (As := [.int p2]) (rest := []) C (c0_isPlayer cl_10 h) eX5_90 (by omega) (by omega) (xlt_c (j := 0) cl_10 (by decide)) (sh_c0 cl_10 _) rfl rfl rfl (Nat.le_of_ble_eq_true rfl) dX5_tells_17 (fun r5 M4 h => ?_)
    refine v_if_eq C dX5_tells_20 (tgt := 33) (by decide) (fun c => ?_) (fun c => ?_)
    · replace h := h.1 c
      refine v_bipush C dX5_tells_33 (v := (-2 : Int32)) (by decide) ?_
      exact hR _ _ _ _ h dX5_tells_35
    · replace h := h.2 c
      refine v_iload_n C 4 dX5_tells_23 rfl rfl ?_
      refine v_iconst C dX5_tells_24 (v := (0 : Int32)) (by decide) ?_
      refine v_bipush C dX5_tells_25 (v := (8 : Int32)) (by decide) ?_
      refine v_callSi (As := [.int p3, .int (0 : Int32), .int (8 : Int32)]) (rest := []) C (c5_isWithin  h) eX5_82 (by omega) (by omega) rfl rfl (Nat.le_of_ble_eq_true rfl) dX5_tells_27 (fun r7 M6 h => ?_)
      refine v_if_ne C dX5_tells_30 (tgt := 36) (by decide) (fun c => ?_) (fun c => ?_)
      · replace h := h.1 c
        refine v_aload C 0 dX5_tells_36 rfl ?_
        obtain ⟨hf8, h⟩ := h
        refine v_callVi (k := k3) (As := []) (rest := []) C (c2_isMissing hf8 h) eX5_159 (by omega) (by omega) (xlt_s (j := 0) hf8 (by decide)) (sh_s0 hf8 _) rfl rfl rfl (Nat.le_of_ble_eq_true rfl) dX5_tells_38 (fun r10 M9 h => ?_)
        refine v_if_eq C dX5_tells_41 (tgt := 47) (by decide) (fun c => ?_) (fun c => ?_)
        · replace h := h.1 c
          refine v_aload C 0 dX5_tells_47 rfl ?_
          refine fX5_2_g_size C hf8 dX5_tells_49 ?_
          refine v_aload_n C 1 dX5_tells_52 rfl rfl ?_
          refine fX5_5_g_now C dX5_tells_53 ?_
          refine fX5_0_g_many C cl_10 dX5_tells_56 ?_
          refine v_icmp_eq C dX5_tells_59 (tgt := 65) (by decide) (fun c => ?_) (fun c => ?_)
          · replace h := h.1 c
            refine v_iload_n C 4 dX5_tells_65 rfl rfl ?_
            refine v_sw C dX5_tells_66 [116, 170, 170, 127, 136, 145, 154, 170, 163] (by decide) (by decide) (tgt := 170) (by decide) (fun j t ht hx => ?_) (fun c => ?_)
            · match j, ht, hx with
              | 0, ht, hx =>
                obtain rfl : 116 = t := Option.some.inj ht
                replace h := h.1 (by omega)
                refine v_aload_n C 1 dX5_tells_116 rfl rfl ?_
                refine fX5_5_g_now C dX5_tells_117 ?_
                refine v_aload C 0 dX5_tells_120 rfl ?_
                refine v_iload_n C 3 dX5_tells_122 rfl rfl ?_
                refine v_callSi (As := [.ref (a 10), .ref (a k3), .int p2]) (rest := []) C (c5_firstOtherwise cl_10 hf8 h) eX5_221 (by omega) (by omega) rfl rfl (Nat.le_of_ble_eq_true rfl) dX5_tells_123 (fun r12 M11 h => ?_)
                exact hR _ _ _ _ h dX5_tells_126
              | 1, ht, hx =>
                obtain rfl : 170 = t := Option.some.inj ht
                replace h := h.2.1 (by omega)
                refine v_aload_n C 1 dX5_tells_170 rfl rfl ?_
                refine v_aload C 0 dX5_tells_171 rfl ?_
                refine v_iload_n C 3 dX5_tells_173 rfl rfl ?_
                refine v_iload_n C 4 dX5_tells_174 rfl rfl ?_
                refine v_callVi (k := 0) (As := [.ref (a k3), .int p2, .int p3]) (rest := []) C (c5_bitsThatFit hf8 h) eX5_236 (by omega) (by omega) (by omega) rfl rfl rfl rfl (Nat.le_of_ble_eq_true rfl) dX5_tells_175 (fun r14 M13 h => ?_)
                exact hR _ _ _ _ h dX5_tells_178
              | 2, ht, hx =>
                obtain rfl : 170 = t := Option.some.inj ht
                replace h := h.2.2.1 (by omega)
                refine v_aload_n C 1 dX5_tells_170 rfl rfl ?_
                refine v_aload C 0 dX5_tells_171 rfl ?_
                refine v_iload_n C 3 dX5_tells_173 rfl rfl ?_
                refine v_iload_n C 4 dX5_tells_174 rfl rfl ?_
                refine v_callVi (k := 0) (As := [.ref (a k3), .int p2, .int p3]) (rest := []) C (c5_bitsThatFit hf8 h) eX5_236 (by omega) (by omega) (by omega) rfl rfl rfl rfl (Nat.le_of_ble_eq_true rfl) dX5_tells_175 (fun r16 M15 h => ?_)
                exact hR _ _ _ _ h dX5_tells_178
              | 3, ht, hx =>
                obtain rfl : 127 = t := Option.some.inj ht
                replace h := h.2.2.2.1 (by omega)
                refine v_aload_n C 1 dX5_tells_127 rfl rfl ?_
                refine v_aload C 0 dX5_tells_128 rfl ?_
                refine v_iload_n C 3 dX5_tells_130 rfl rfl ?_
                refine v_iconst C dX5_tells_131 (v := (0 : Int32)) (by decide) ?_
                refine v_callVi (k := 0) (As := [.ref (a k3), .int p2, .int (0 : Int32)]) (rest := []) C (c5_howManyFit hf8 h) eX5_225 (by omega) (by omega) (by omega) rfl rfl rfl rfl (Nat.le_of_ble_eq_true rfl) dX5_tells_132 (fun r18 M17 h => ?_)
                exact hR _ _ _ _ h dX5_tells_135
              | 4, ht, hx =>
                obtain rfl : 136 = t := Option.some.inj ht
                replace h := h.2.2.2.2.1 (by omega)
                refine v_aload_n C 1 dX5_tells_136 rfl rfl ?_
                refine v_aload C 0 dX5_tells_137 rfl ?_
                refine v_iload_n C 3 dX5_tells_139 rfl rfl ?_
                refine v_iconst C dX5_tells_140 (v := (0 : Int32)) (by decide) ?_
                refine v_callVi (k := 0) (As := [.ref (a k3), .int p2, .int (0 : Int32)]) (rest := []) C (c5_leastThatFits hf8 h) eX5_229 (by omega) (by omega) (by omega) rfl rfl rfl rfl (Nat.le_of_ble_eq_true rfl) dX5_tells_141 (fun r20 M19 h => ?_)
                exact hR _ _ _ _ h dX5_tells_144
              | 5, ht, hx =>
                obtain rfl : 145 = t := Option.some.inj ht
                replace h := h.2.2.2.2.2.1 (by omega)
                refine v_aload_n C 1 dX5_tells_145 rfl rfl ?_
                refine v_aload C 0 dX5_tells_146 rfl ?_
                refine v_iload_n C 3 dX5_tells_148 rfl rfl ?_
                refine v_iconst C dX5_tells_149 (v := (4 : Int32)) (by decide) ?_
                refine v_callVi (k := 0) (As := [.ref (a k3), .int p2, .int (4 : Int32)]) (rest := []) C (c5_howManyFit hf8 h) eX5_225 (by omega) (by omega) (by omega) rfl rfl rfl rfl (Nat.le_of_ble_eq_true rfl) dX5_tells_150 (fun r22 M21 h => ?_)
                exact hR _ _ _ _ h dX5_tells_153
              | 6, ht, hx =>
                obtain rfl : 154 = t := Option.some.inj ht
                replace h := h.2.2.2.2.2.2.1 (by omega)
                refine v_aload_n C 1 dX5_tells_154 rfl rfl ?_
                refine v_aload C 0 dX5_tells_155 rfl ?_
                refine v_iload_n C 3 dX5_tells_157 rfl rfl ?_
                refine v_iconst C dX5_tells_158 (v := (4 : Int32)) (by decide) ?_
                refine v_callVi (k := 0) (As := [.ref (a k3), .int p2, .int (4 : Int32)]) (rest := []) C (c5_leastThatFits hf8 h) eX5_229 (by omega) (by omega) (by omega) rfl rfl rfl rfl (Nat.le_of_ble_eq_true rfl) dX5_tells_159 (fun r24 M23 h => ?_)
                exact hR _ _ _ _ h dX5_tells_162
              | 7, ht, hx =>
                obtain rfl : 170 = t := Option.some.inj ht
                replace h := h.2.2.2.2.2.2.2.1 (by omega)
                refine v_aload_n C 1 dX5_tells_170 rfl rfl ?_
                refine v_aload C 0 dX5_tells_171 rfl ?_
                refine v_iload_n C 3 dX5_tells_173 rfl rfl ?_
                refine v_iload_n C 4 dX5_tells_174 rfl rfl ?_
                refine v_callVi (k := 0) (As := [.ref (a k3), .int p2, .int p3]) (rest := []) C (c5_bitsThatFit hf8 h) eX5_236 (by omega) (by omega) (by omega) rfl rfl rfl rfl (Nat.le_of_ble_eq_true rfl) dX5_tells_175 (fun r26 M25 h => ?_)
                exact hR _ _ _ _ h dX5_tells_178
              | 8, ht, hx =>
                obtain rfl : 163 = t := Option.some.inj ht
                replace h := h.2.2.2.2.2.2.2.2.1 (by omega)
                refine v_aload_n C 1 dX5_tells_163 rfl rfl ?_
                refine v_aload C 0 dX5_tells_164 rfl ?_
                refine v_callVi (k := 0) (As := [.ref (a k3)]) (rest := []) C (c5_playersThatFit hf8 h) eX5_232 (by omega) (by omega) (by omega) rfl rfl rfl rfl (Nat.le_of_ble_eq_true rfl) dX5_tells_166 (fun r28 M27 h => ?_)
                exact hR _ _ _ _ h dX5_tells_169
              | j + 9, ht, hx => simp at ht
            · replace h := h.2.2.2.2.2.2.2.2.2 c
              refine v_aload_n C 1 dX5_tells_170 rfl rfl ?_
              refine v_aload C 0 dX5_tells_171 rfl ?_
              refine v_iload_n C 3 dX5_tells_173 rfl rfl ?_
              refine v_iload_n C 4 dX5_tells_174 rfl rfl ?_
              refine v_callVi (k := 0) (As := [.ref (a k3), .int p2, .int p3]) (rest := []) C (c5_bitsThatFit hf8 h) eX5_236 (by omega) (by omega) (by omega) rfl rfl rfl rfl (Nat.le_of_ble_eq_true rfl) dX5_tells_175 (fun r30 M29 h => ?_)
              exact hR _ _ _ _ h dX5_tells_178
          · replace h := h.2 c
            refine v_bipush C dX5_tells_62 (v := (-2 : Int32)) (by decide) ?_
            exact hR _ _ _ _ h dX5_tells_64
        · replace h := h.2 c
          refine v_bipush C dX5_tells_44 (v := (-11 : Int32)) (by decide) ?_
          exact hR _ _ _ _ h dX5_tells_46
      · replace h := h.2 c
        refine v_bipush C dX5_tells_33 (v := (-2 : Int32)) (by decide) ?_
        exact hR _ _ _ _ h dX5_tells_35
def w5_film_b39 (g : GX) (Q : Int32 → S0 → Prop) : Nat → S0 → Int32 → Nat → Int32 → Prop
  | 0, _, _, _, _ => False
  | n + 1, M, v2_39, v3_39, v4_39 =>
    (((M 10 7) ≤ v4_39) → (Q (M 10 7) M)) ∧ ((¬ (M 10 7) ≤ v4_39) → (w0_power g 10 M v2_39 v4_39 (fun r10 M9 => w2_put g v3_39 M9 v4_39 r10 (fun M11 => ∀ x12 : Int32, x12 = v4_39 + (1 : Int32) → (w5_film_b39 g  Q n M11 v2_39 v3_39 x12)))))
set_option maxHeartbeats 4000000 in
set_option maxRecDepth 20000 in
theorem t5_film_b39 {B : BX} {E : EX} {a : Nat → Nat} {g : GX} {Q : Int32 → S0 → Prop} (C : Ok B E cX5_film 5 RX5 3 72) (hR : RetI B E cX5_film 5 (wl (66 + 3 * g.2) a (shX B.2.1 a g.1)) Q) : ∀ (n : Nat) (M : S0) (v2_39 : Int32) (v3_39 : Nat) (v4_39 : Int32), (hp_v3_39 : isSheet v3_39) → w5_film_b39 g  Q n M v2_39 v3_39 v4_39 → V B E 5 (wl (66 + 3 * g.2) a (shX B.2.1 a g.1) M) 39 [(0, .ref (a 0)), (2, .int v2_39), (3, .ref (a v3_39)), (4, .int v4_39)] [] := by
  intro n
  induction n with
  | zero =>
    intro M v2_39 v3_39 v4_39 hp_v3_39 h
    exact h.elim
  | succ n ih =>
    intro M v2_39 v3_39 v4_39 hp_v3_39 h
    rw [w5_film_b39] at h
    refine v_iload C 3 dX5_film_39 rfl ?_
    refine v_aload_n C 0 dX5_film_41 rfl rfl ?_
    refine fX5_5_g_now C dX5_film_42 ?_
    refine fX5_0_g_many C cl_10 dX5_film_45 ?_
    refine v_icmp_ge C dX5_film_48 (tgt := 73) (by decide) (fun c => ?_) (fun c => ?_)
    · replace h := h.1 c
      refine v_aload_n C 0 dX5_film_73 rfl rfl ?_
      refine fX5_5_g_now C dX5_film_74 ?_
      refine fX5_0_g_many C cl_10 dX5_film_77 ?_
      exact hR _ _ _ _ h dX5_film_80
    · replace h := h.2 c
      refine v_aload_n C 2 dX5_film_51 rfl rfl ?_
      refine v_iload C 3 dX5_film_52 rfl ?_
      refine v_aload_n C 0 dX5_film_54 rfl rfl ?_
      refine fX5_5_g_now C dX5_film_55 ?_
      refine v_iload_n C 1 dX5_film_58 rfl rfl ?_
      refine v_iload C 3 dX5_film_59 rfl ?_
      refine v_callVi (k := 10) (As := [.int v2_39, .int v4_39]) (rest := [.int v4_39, .ref (a v3_39)]) C (c0_power cl_10 h) eX5_120 (by omega) (by omega) (xlt_c (j := 0) cl_10 (by decide)) (sh_c0 cl_10 _) rfl rfl rfl (Nat.le_of_ble_eq_true rfl) dX5_film_61 (fun r10 M9 h => ?_)
      refine v_callVv (k := v3_39) (As := [.int v4_39, .int r10]) (rest := []) C (c2_put hp_v3_39 h) eX5_246 (by omega) (by omega) (xlt_s (j := 0) hp_v3_39 (by decide)) (sh_s0 hp_v3_39 _) rfl rfl rfl (Nat.le_of_ble_eq_true rfl) dX5_film_64 (fun M11 h => ?_)
      obtain ⟨x12, ex12⟩ : ∃ z : Int32, z = v4_39 + (1 : Int32) := ⟨_, rfl⟩
      replace h := h x12 ex12
      refine v_iinc (v := x12) (lv' := [(4, .int x12), (0, .ref (a 0)), (2, .int v2_39), (3, .ref (a v3_39))]) C 3 dX5_film_67 rfl (by rw [ex12]; rfl) (by decide) rfl ?_
      refine v_goto C dX5_film_70 (tgt := 39) (by decide) ?_
      refine v_sub [1, 2, 3, 0] rfl ?_
      exact ih M11 v2_39 v3_39 x12 hp_v3_39 h
def w5_film (g : GX) (M : S0) (p1 : Int32) (p2 : Int32) (Q : Int32 → S0 → Prop) : Prop :=
    w5_sheetAt g M p1 (fun r2 M1 => ((r2 = none) → (Q (-2 : Int32) M1)) ∧ (∀ k3 : Nat, r2 = some k3 → (w0_isPlayer g 10 M1 p2 (fun r5 M4 => ((¬ r5 = 0) → ((isSheet k3) ∧ (w2_becomes g k3 M4 (1 : Int32) (M4 10 7) (fun M7 => ∃ n8, w5_film_b39 g  Q n8 M7 p2 k3 (0 : Int32))))) ∧ ((r5 = 0) → (Q (-2 : Int32) M4))))))
set_option maxHeartbeats 4000000 in
set_option maxRecDepth 20000 in
theorem c5_film {B : BX} {a : Nat → Nat} {g : GX} {M : S0} {p1 : Int32} {p2 : Int32} {Q : Int32 → S0 → Prop} (h : w5_film g M p1 p2 Q) : KI B (wl (66 + 3 * g.2) a (shX B.2.1 a g.1)) yX5_film cX5_film 5 (some .int) 3 72 [.ref (a 0), .int p1, .int p2] M Q := by
  rw [w5_film] at h
  refine KI_of (by decide +kernel) (Nat.le_of_ble_eq_true rfl) (fun E C hR => ?_)
  change V B E 5 (wl (66 + 3 * g.2) a (shX B.2.1 a g.1) M) 0 [(0, .ref (a 0)), (1, .int p1), (2, .int p2)] []
  change Ok B E cX5_film 5 RX5 3 72 at C
  refine v_aload_n C 0 dX5_film_0 rfl rfl ?_
  refine v_iload_n C 1 dX5_film_1 rfl rfl ?_
  refine v_callVa (k := 0) (As := [.int p1]) (rest := []) C (c5_sheetAt  h) eX5_155 (by omega) (by omega) (by omega) rfl rfl rfl rfl (Nat.le_of_ble_eq_true rfl) dX5_film_2 (fun r2 M1 h => ?_)
  rcases r2 with _ | k3
  · replace h := h.1 rfl
    change V _ _ _ _ _ _ (.null :: _)
    refine v_astoreN_n (lv' := [(3, .null), (0, .ref (a 0)), (1, .int p1), (2, .int p2)]) C dX5_film_5 rfl (by decide) rfl ?_
    refine v_aloadN_n C 0 dX5_film_6 rfl rfl ?_
    refine v_ifnullN C dX5_film_7 (tgt := 21) (by decide) ?_
    refine v_bipush C dX5_film_21 (v := (-2 : Int32)) (by decide) ?_
    exact hR _ _ _ _ h dX5_film_23
  · replace h := h.2 k3 rfl
    change V _ _ _ _ _ _ (.ref (a k3) :: _)
    refine v_astore_n (lv' := [(3, .ref (a k3)), (0, .ref (a 0)), (1, .int p1), (2, .int p2)]) C dX5_film_5 rfl (by decide) rfl ?_
    refine v_aload_n C 0 dX5_film_6 rfl rfl ?_
    refine v_ifnull C dX5_film_7 ?_
    refine v_aload_n C 1 dX5_film_10 rfl rfl ?_
    refine fX5_5_g_now C dX5_film_11 ?_
    refine v_iload_n C 3 dX5_film_14 rfl rfl ?_
    refine v_callVi (k := 10) (As := [.int p2]) (rest := []) C (c0_isPlayer cl_10 h) eX5_90 (by omega) (by omega) (xlt_c (j := 0) cl_10 (by decide)) (sh_c0 cl_10 _) rfl rfl rfl (Nat.le_of_ble_eq_true rfl) dX5_film_15 (fun r5 M4 h => ?_)
    refine v_if_ne C dX5_film_18 (tgt := 24) (by decide) (fun c => ?_) (fun c => ?_)
    · replace h := h.1 c
      refine v_aload_n C 0 dX5_film_24 rfl rfl ?_
      refine v_iconst C dX5_film_25 (v := (1 : Int32)) (by decide) ?_
      refine v_aload_n C 1 dX5_film_26 rfl rfl ?_
      refine fX5_5_g_now C dX5_film_27 ?_
      refine fX5_0_g_many C cl_10 dX5_film_30 ?_
      obtain ⟨hf6, h⟩ := h
      refine v_callVv (k := k3) (As := [.int (1 : Int32), .int (M4 10 7)]) (rest := []) C (c2_becomes hf6 h) eX5_243 (by omega) (by omega) (xlt_s (j := 0) hf6 (by decide)) (sh_s0 hf6 _) rfl rfl rfl (Nat.le_of_ble_eq_true rfl) dX5_film_33 (fun M7 h => ?_)
      refine v_iconst C dX5_film_36 (v := (0 : Int32)) (by decide) ?_
      refine v_istore (lv' := [(4, .int (0 : Int32)), (3, .ref (a k3)), (0, .ref (a 0)), (1, .int p1), (2, .int p2)]) C dX5_film_37 (by decide) rfl ?_
      obtain ⟨n8, h⟩ := h
      refine v_sub [2, 4, 1, 0] rfl ?_
      exact t5_film_b39   C hR  n8 M7 p2 k3 (0 : Int32) hf6 h
    · replace h := h.2 c
      refine v_bipush C dX5_film_21 (v := (-2 : Int32)) (by decide) ?_
      exact hR _ _ _ _ h dX5_film_23
def w5_hasBehindDrawn_b30 (g : GX) (Q : Int32 → S0 → Prop) : Nat → S0 → Int32 → Int32 → Nat → Int32 → Int32 → Int32 → Prop
  | 0, _, _, _, _, _, _, _ => False
  | n + 1, M, v2_30, v3_30, v4_30, v5_30, v6_30, v7_30 =>
    ((v3_30 ≤ v7_30) → ((vp_in v2_30 6) ∧ (Q (M (v4_30 + 5) (Int32.toNatClampNeg v2_30)) M))) ∧ ((¬ v3_30 ≤ v7_30) → (((v5_30 ≤ (1 : Int32)) → ((vp_in v2_30 6) ∧ (Q (M (v4_30 + 5) (Int32.toNatClampNeg v2_30)) M))) ∧ ((¬ v5_30 ≤ (1 : Int32)) → (∀ x11 : Int32, x11 = ((v6_30 * (1103515245 : Int32)) + (12345 : Int32)) → ((¬ v5_30 = 0) ∧ (∀ x13 : Int32, x13 = (((Int32.toUInt32 x11 >>> (Int32.toUInt32 (9 : Int32) &&& Int32.toUInt32 31)).toInt32) - ((Int32.toUInt32 x11 >>> (Int32.toUInt32 (9 : Int32) &&& Int32.toUInt32 31)).toInt32) / v5_30 * v5_30) → ((¬ (v5_30 - (1 : Int32)) = 0) ∧ (∀ x15 : Int32, x15 = ((1 : Int32) + (((Int32.toUInt32 x11 >>> (Int32.toUInt32 (17 : Int32) &&& Int32.toUInt32 31)).toInt32) - ((Int32.toUInt32 x11 >>> (Int32.toUInt32 (17 : Int32) &&& Int32.toUInt32 31)).toInt32) / (v5_30 - (1 : Int32)) * (v5_30 - (1 : Int32)))) → ((¬ v5_30 = 0) ∧ (w0_meet g v4_30 M x13 ((x13 + x15) - (x13 + x15) / v5_30 * v5_30) (fun r18 M17 => ∀ x19 : Int32, x19 = v7_30 + (1 : Int32) → (w5_hasBehindDrawn_b30 g  Q n M17 v2_30 v3_30 v4_30 v5_30 x11 x19))))))))))))
set_option maxHeartbeats 4000000 in
set_option maxRecDepth 20000 in
theorem t5_hasBehindDrawn_b30 {B : BX} {E : EX} {a : Nat → Nat} {g : GX} {Q : Int32 → S0 → Prop} (C : Ok B E cX5_hasBehindDrawn 10 RX5 5 120) (hR : RetI B E cX5_hasBehindDrawn 10 (wl (66 + 3 * g.2) a (shX B.2.1 a g.1)) Q) : ∀ (n : Nat) (M : S0) (v2_30 : Int32) (v3_30 : Int32) (v4_30 : Nat) (v5_30 : Int32) (v6_30 : Int32) (v7_30 : Int32), (hp_v4_30 : isClub v4_30) → w5_hasBehindDrawn_b30 g  Q n M v2_30 v3_30 v4_30 v5_30 v6_30 v7_30 → V B E 10 (wl (66 + 3 * g.2) a (shX B.2.1 a g.1) M) 30 [(2, .int v2_30), (3, .int v3_30), (4, .ref (a v4_30)), (5, .int v5_30), (6, .int v6_30), (7, .int v7_30)] [] := by
  intro n
  induction n with
  | zero =>
    intro M v2_30 v3_30 v4_30 v5_30 v6_30 v7_30 hp_v4_30 h
    exact h.elim
  | succ n ih =>
    intro M v2_30 v3_30 v4_30 v5_30 v6_30 v7_30 hp_v4_30 h
    rw [w5_hasBehindDrawn_b30] at h
    refine v_iload C 5 dX5_hasBehindDrawn_30 rfl ?_
    refine v_iload_n C 1 dX5_hasBehindDrawn_32 rfl rfl ?_
    refine v_icmp_ge C dX5_hasBehindDrawn_33 (tgt := 99) (by decide) (fun c => ?_) (fun c => ?_)
    · replace h := h.1 c
      refine v_aload C 2 dX5_hasBehindDrawn_99 rfl ?_
      refine fX5_0_g_has C hp_v4_30 dX5_hasBehindDrawn_101 ?_
      refine v_iload_n C 0 dX5_hasBehindDrawn_104 rfl rfl ?_
      obtain ⟨hi9, h⟩ := h
      refine v_iald (k := (v4_30 + 5)) C (xlt_c hp_v4_30 (by decide)) (sh_ca (ca_of hp_v4_30 (by decide) (by decide)) _) hi9 dX5_hasBehindDrawn_105 ?_
      exact hR _ _ _ _ h dX5_hasBehindDrawn_106
    · replace h := h.2 c
      refine v_iload C 3 dX5_hasBehindDrawn_36 rfl ?_
      refine v_iconst C dX5_hasBehindDrawn_38 (v := (1 : Int32)) (by decide) ?_
      refine v_icmp_le C dX5_hasBehindDrawn_39 (tgt := 99) (by decide) (fun c => ?_) (fun c => ?_)
      · replace h := h.1 c
        refine v_aload C 2 dX5_hasBehindDrawn_99 rfl ?_
        refine fX5_0_g_has C hp_v4_30 dX5_hasBehindDrawn_101 ?_
        refine v_iload_n C 0 dX5_hasBehindDrawn_104 rfl rfl ?_
        obtain ⟨hi10, h⟩ := h
        refine v_iald (k := (v4_30 + 5)) C (xlt_c hp_v4_30 (by decide)) (sh_ca (ca_of hp_v4_30 (by decide) (by decide)) _) hi10 dX5_hasBehindDrawn_105 ?_
        exact hR _ _ _ _ h dX5_hasBehindDrawn_106
      · replace h := h.2 c
        refine v_iload C 4 dX5_hasBehindDrawn_42 rfl ?_
        refine v_ldc C (v := (1103515245 : Int32)) (gdm 724 (by decide +kernel) (by decide +kernel)) dX5_hasBehindDrawn_44 ?_
        refine v_imul C dX5_hasBehindDrawn_46 ?_
        refine v_sipush C dX5_hasBehindDrawn_47 (v := (12345 : Int32)) (by decide) ?_
        refine v_iadd C dX5_hasBehindDrawn_50 ?_
        refine v_nmi (fun x11 ex11 => ?_)
        replace h := h x11 ex11
        refine v_istore (lv' := [(6, .int x11), (2, .int v2_30), (3, .int v3_30), (4, .ref (a v4_30)), (5, .int v5_30), (7, .int v7_30)]) C dX5_hasBehindDrawn_51 (by decide) rfl ?_
        refine v_iload C 0 dX5_hasBehindDrawn_53 rfl ?_
        refine v_bipush C dX5_hasBehindDrawn_55 (v := (9 : Int32)) (by decide) ?_
        refine v_iushr C dX5_hasBehindDrawn_57 ?_
        refine v_iload C 4 dX5_hasBehindDrawn_58 rfl ?_
        obtain ⟨hz12, h⟩ := h
        refine v_irem C dX5_hasBehindDrawn_60 hz12 ?_
        refine v_nmi (fun x13 ex13 => ?_)
        replace h := h x13 ex13
        refine v_istore (lv' := [(8, .int x13), (6, .int x11), (2, .int v2_30), (3, .int v3_30), (4, .ref (a v4_30)), (5, .int v5_30), (7, .int v7_30)]) C dX5_hasBehindDrawn_61 (by decide) rfl ?_
        refine v_iconst C dX5_hasBehindDrawn_63 (v := (1 : Int32)) (by decide) ?_
        refine v_iload C 1 dX5_hasBehindDrawn_64 rfl ?_
        refine v_bipush C dX5_hasBehindDrawn_66 (v := (17 : Int32)) (by decide) ?_
        refine v_iushr C dX5_hasBehindDrawn_68 ?_
        refine v_iload C 5 dX5_hasBehindDrawn_69 rfl ?_
        refine v_iconst C dX5_hasBehindDrawn_71 (v := (1 : Int32)) (by decide) ?_
        refine v_isub C dX5_hasBehindDrawn_72 ?_
        obtain ⟨hz14, h⟩ := h
        refine v_irem C dX5_hasBehindDrawn_73 hz14 ?_
        refine v_iadd C dX5_hasBehindDrawn_74 ?_
        refine v_nmi (fun x15 ex15 => ?_)
        replace h := h x15 ex15
        refine v_istore (lv' := [(9, .int x15), (8, .int x13), (6, .int x11), (2, .int v2_30), (3, .int v3_30), (4, .ref (a v4_30)), (5, .int v5_30), (7, .int v7_30)]) C dX5_hasBehindDrawn_75 (by decide) rfl ?_
        refine v_aload C 5 dX5_hasBehindDrawn_77 rfl ?_
        refine v_iload C 1 dX5_hasBehindDrawn_79 rfl ?_
        refine v_iload C 1 dX5_hasBehindDrawn_81 rfl ?_
        refine v_iload C 0 dX5_hasBehindDrawn_83 rfl ?_
        refine v_iadd C dX5_hasBehindDrawn_85 ?_
        refine v_iload C 6 dX5_hasBehindDrawn_86 rfl ?_
        obtain ⟨hz16, h⟩ := h
        refine v_irem C dX5_hasBehindDrawn_88 hz16 ?_
        refine v_callVi (k := v4_30) (As := [.int x13, .int ((x13 + x15) - (x13 + x15) / v5_30 * v5_30)]) (rest := []) C (c0_meet hp_v4_30 h) eX5_137 (by omega) (by omega) (xlt_c (j := 0) hp_v4_30 (by decide)) (sh_c0 hp_v4_30 _) rfl rfl rfl (Nat.le_of_ble_eq_true rfl) dX5_hasBehindDrawn_89 (fun r18 M17 h => ?_)
        refine v_pop C dX5_hasBehindDrawn_92 rfl ?_
        obtain ⟨x19, ex19⟩ : ∃ z : Int32, z = v7_30 + (1 : Int32) := ⟨_, rfl⟩
        replace h := h x19 ex19
        refine v_iinc (v := x19) (lv' := [(7, .int x19), (9, .int x15), (8, .int x13), (6, .int x11), (2, .int v2_30), (3, .int v3_30), (4, .ref (a v4_30)), (5, .int v5_30)]) C 7 dX5_hasBehindDrawn_93 rfl (by rw [ex19]; rfl) (by decide) rfl ?_
        refine v_goto C dX5_hasBehindDrawn_96 (tgt := 30) (by decide) ?_
        refine v_sub [4, 5, 6, 7, 3, 0] rfl ?_
        exact ih M17 v2_30 v3_30 v4_30 v5_30 x11 x19 hp_v4_30 h
def w5_hasBehindDrawn (g : GX) (M : S0) (p1 : Int32) (p2 : Int32) (p3 : Int32) (Q : Int32 → S0 → Prop) : Prop :=
    w5_think g M (fun r2 M1 => ((r2 = none) → (False)) ∧ (∀ k3 : Nat, r2 = some k3 → ((isClub k3) ∧ (w0_isPlayer g k3 M1 p2 (fun r6 M5 => ((¬ r6 = 0) → (∀ x7 : Int32, x7 = (M5 k3 7) → (∃ n8, w5_hasBehindDrawn_b30 g  Q n8 M5 p2 p3 k3 x7 p1 (0 : Int32)))) ∧ ((r6 = 0) → (Q (0 : Int32) M5)))))))
set_option maxHeartbeats 4000000 in
set_option maxRecDepth 20000 in
theorem c5_hasBehindDrawn {B : BX} {a : Nat → Nat} {g : GX} {M : S0} {p1 : Int32} {p2 : Int32} {p3 : Int32} {Q : Int32 → S0 → Prop} (h : w5_hasBehindDrawn g M p1 p2 p3 Q) : KI B (wl (66 + 3 * g.2) a (shX B.2.1 a g.1)) yX5_hasBehindDrawn cX5_hasBehindDrawn 10 (some .int) 5 120 [.ref (a 0), .int p1, .int p2, .int p3] M Q := by
  rw [w5_hasBehindDrawn] at h
  refine KI_of (by decide +kernel) (Nat.le_of_ble_eq_true rfl) (fun E C hR => ?_)
  change V B E 10 (wl (66 + 3 * g.2) a (shX B.2.1 a g.1) M) 0 [(0, .ref (a 0)), (1, .int p1), (2, .int p2), (3, .int p3)] []
  change Ok B E cX5_hasBehindDrawn 10 RX5 5 120 at C
  refine v_aload_n C 0 dX5_hasBehindDrawn_0 rfl rfl ?_
  refine v_callVa (k := 0) (As := []) (rest := []) C (c5_think  h) eX5_133 (by omega) (by omega) (by omega) rfl rfl rfl rfl (Nat.le_of_ble_eq_true rfl) dX5_hasBehindDrawn_1 (fun r2 M1 h => ?_)
  rcases r2 with _ | k3
  · replace h := h.1 rfl
    change V _ _ _ _ _ _ (.null :: _)
    exact h.elim
  · replace h := h.2 k3 rfl
    change V _ _ _ _ _ _ (.ref (a k3) :: _)
    refine v_astore (lv' := [(4, .ref (a k3)), (0, .ref (a 0)), (1, .int p1), (2, .int p2), (3, .int p3)]) C dX5_hasBehindDrawn_4 (by decide) rfl ?_
    refine v_aload C 0 dX5_hasBehindDrawn_6 rfl ?_
    refine v_iload_n C 3 dX5_hasBehindDrawn_8 rfl rfl ?_
    obtain ⟨hf4, h⟩ := h
    refine v_callVi (k := k3) (As := [.int p2]) (rest := []) C (c0_isPlayer hf4 h) eX5_90 (by omega) (by omega) (xlt_c (j := 0) hf4 (by decide)) (sh_c0 hf4 _) rfl rfl rfl (Nat.le_of_ble_eq_true rfl) dX5_hasBehindDrawn_9 (fun r6 M5 h => ?_)
    refine v_if_ne C dX5_hasBehindDrawn_12 (tgt := 17) (by decide) (fun c => ?_) (fun c => ?_)
    · replace h := h.1 c
      refine v_aload C 0 dX5_hasBehindDrawn_17 rfl ?_
      refine fX5_0_g_many C hf4 dX5_hasBehindDrawn_19 ?_
      refine v_nmi (fun x7 ex7 => ?_)
      replace h := h x7 ex7
      refine v_istore (lv' := [(5, .int x7), (4, .ref (a k3)), (0, .ref (a 0)), (1, .int p1), (2, .int p2), (3, .int p3)]) C dX5_hasBehindDrawn_22 (by decide) rfl ?_
      refine v_iload_n C 3 dX5_hasBehindDrawn_24 rfl rfl ?_
      refine v_istore (lv' := [(6, .int p1), (5, .int x7), (4, .ref (a k3)), (0, .ref (a 0)), (1, .int p1), (2, .int p2), (3, .int p3)]) C dX5_hasBehindDrawn_25 (by decide) rfl ?_
      refine v_iconst C dX5_hasBehindDrawn_27 (v := (0 : Int32)) (by decide) ?_
      refine v_istore (lv' := [(7, .int (0 : Int32)), (6, .int p1), (5, .int x7), (4, .ref (a k3)), (0, .ref (a 0)), (1, .int p1), (2, .int p2), (3, .int p3)]) C dX5_hasBehindDrawn_28 (by decide) rfl ?_
      obtain ⟨n8, h⟩ := h
      refine v_sub [6, 7, 3, 2, 1, 0] rfl ?_
      exact t5_hasBehindDrawn_b30   C hR  n8 M5 p2 p3 k3 x7 p1 (0 : Int32) hf4 h
    · replace h := h.2 c
      refine v_iconst C dX5_hasBehindDrawn_15 (v := (0 : Int32)) (by decide) ?_
      exact hR _ _ _ _ h dX5_hasBehindDrawn_16
def w5_drawn (g : GX) (M : S0) (p1 : Int32) (p2 : Int32) (p3 : Int32) (Q : Int32 → S0 → Prop) : Prop :=
    w0_isPlayer g 10 M p2 (fun r2 M1 => ((r2 = 0) → (Q (-2 : Int32) M1)) ∧ ((¬ r2 = 0) → (w5_isWithin g M1 p3 (0 : Int32) (60 : Int32) (fun r4 M3 => ((¬ r4 = 0) → (w5_hasBehindDrawn g M3 p1 p2 p3 (fun r6 M5 => Q r6 M5))) ∧ ((r4 = 0) → (Q (-2 : Int32) M3))))))
set_option maxHeartbeats 4000000 in
set_option maxRecDepth 20000 in
theorem c5_drawn {B : BX} {a : Nat → Nat} {g : GX} {M : S0} {p1 : Int32} {p2 : Int32} {p3 : Int32} {Q : Int32 → S0 → Prop} (h : w5_drawn g M p1 p2 p3 Q) : KI B (wl (66 + 3 * g.2) a (shX B.2.1 a g.1)) yX5_drawn cX5_drawn 4 (some .int) 6 149 [.ref (a 0), .int p1, .int p2, .int p3] M Q := by
  rw [w5_drawn] at h
  refine KI_of (by decide +kernel) (Nat.le_of_ble_eq_true rfl) (fun E C hR => ?_)
  change V B E 4 (wl (66 + 3 * g.2) a (shX B.2.1 a g.1) M) 0 [(0, .ref (a 0)), (1, .int p1), (2, .int p2), (3, .int p3)] []
  change Ok B E cX5_drawn 4 RX5 6 149 at C
  refine v_aload_n C 0 dX5_drawn_0 rfl rfl ?_
  refine fX5_5_g_now C dX5_drawn_1 ?_
  refine v_iload_n C 2 dX5_drawn_4 rfl rfl ?_
  refine v_callVi (k := 10) (As := [.int p2]) (rest := []) C (c0_isPlayer cl_10 h) eX5_90 (by omega) (by omega) (xlt_c (j := 0) cl_10 (by decide)) (sh_c0 cl_10 _) rfl rfl rfl (Nat.le_of_ble_eq_true rfl) dX5_drawn_5 (fun r2 M1 h => ?_)
  refine v_if_eq C dX5_drawn_8 (tgt := 21) (by decide) (fun c => ?_) (fun c => ?_)
  · replace h := h.1 c
    refine v_bipush C dX5_drawn_21 (v := (-2 : Int32)) (by decide) ?_
    exact hR _ _ _ _ h dX5_drawn_23
  · replace h := h.2 c
    refine v_iload_n C 3 dX5_drawn_11 rfl rfl ?_
    refine v_iconst C dX5_drawn_12 (v := (0 : Int32)) (by decide) ?_
    refine v_bipush C dX5_drawn_13 (v := (60 : Int32)) (by decide) ?_
    refine v_callSi (As := [.int p3, .int (0 : Int32), .int (60 : Int32)]) (rest := []) C (c5_isWithin  h) eX5_82 (by omega) (by omega) rfl rfl (Nat.le_of_ble_eq_true rfl) dX5_drawn_15 (fun r4 M3 h => ?_)
    refine v_if_ne C dX5_drawn_18 (tgt := 24) (by decide) (fun c => ?_) (fun c => ?_)
    · replace h := h.1 c
      refine v_aload_n C 0 dX5_drawn_24 rfl rfl ?_
      refine v_iload_n C 1 dX5_drawn_25 rfl rfl ?_
      refine v_iload_n C 2 dX5_drawn_26 rfl rfl ?_
      refine v_iload_n C 3 dX5_drawn_27 rfl rfl ?_
      refine v_callVi (k := 0) (As := [.int p1, .int p2, .int p3]) (rest := []) C (c5_hasBehindDrawn  h) eX5_249 (by omega) (by omega) (by omega) rfl rfl rfl rfl (Nat.le_of_ble_eq_true rfl) dX5_drawn_28 (fun r6 M5 h => ?_)
      exact hR _ _ _ _ h dX5_drawn_31
    · replace h := h.2 c
      refine v_bipush C dX5_drawn_21 (v := (-2 : Int32)) (by decide) ?_
      exact hR _ _ _ _ h dX5_drawn_23
def w5_partOfLowest_b2 (g : GX) (Q : Int32 → S0 → Prop) : Nat → S0 → Int32 → Int32 → Int32 → Int32 → Prop
  | 0, _, _, _, _, _ => False
  | n + 1, M, v0_2, v1_2, v2_2, v3_2 =>
    ((v3_2 ≤ 0) → (Q (-1 : Int32) M)) ∧ ((¬ v3_2 ≤ 0) → ((¬ v3_2 = 0) ∧ (((¬ (v1_2 - v1_2 / v3_2 * v3_2) = 0) → (∀ x3 : Int32, x3 = v3_2 + (-1 : Int32) → (w5_partOfLowest_b2 g  Q n M v0_2 v1_2 v2_2 x3))) ∧ (((v1_2 - v1_2 / v3_2 * v3_2) = 0) → ((¬ v3_2 = 0) ∧ (((¬ (v2_2 - v2_2 / v3_2 * v3_2) = 0) → (∀ x5 : Int32, x5 = v3_2 + (-1 : Int32) → (w5_partOfLowest_b2 g  Q n M v0_2 v1_2 v2_2 x5))) ∧ (((v2_2 - v2_2 / v3_2 * v3_2) = 0) → (((¬ v0_2 = 0) → ((¬ v3_2 = 0) ∧ (Q (v2_2 / v3_2) M))) ∧ ((v0_2 = 0) → ((¬ v3_2 = 0) ∧ (Q (v1_2 / v3_2) M)))))))))))
set_option maxHeartbeats 4000000 in
set_option maxRecDepth 20000 in
theorem t5_partOfLowest_b2 {B : BX} {E : EX} {a : Nat → Nat} {g : GX} {Q : Int32 → S0 → Prop} (C : Ok B E cX5_partOfLowest 4 RX5 0 0) (hR : RetI B E cX5_partOfLowest 4 (wl (66 + 3 * g.2) a (shX B.2.1 a g.1)) Q) : ∀ (n : Nat) (M : S0) (v0_2 : Int32) (v1_2 : Int32) (v2_2 : Int32) (v3_2 : Int32), w5_partOfLowest_b2 g  Q n M v0_2 v1_2 v2_2 v3_2 → V B E 4 (wl (66 + 3 * g.2) a (shX B.2.1 a g.1) M) 2 [(0, .int v0_2), (1, .int v1_2), (2, .int v2_2), (3, .int v3_2)] [] := by
  intro n
  induction n with
  | zero =>
    intro M v0_2 v1_2 v2_2 v3_2  h
    exact h.elim
  | succ n ih =>
    intro M v0_2 v1_2 v2_2 v3_2  h
    rw [w5_partOfLowest_b2] at h
    refine v_iload_n C 3 dX5_partOfLowest_2 rfl rfl ?_
    refine v_if_le C dX5_partOfLowest_3 (tgt := 38) (by decide) (fun c => ?_) (fun c => ?_)
    · replace h := h.1 c
      refine v_iconst C dX5_partOfLowest_38 (v := (-1 : Int32)) (by decide) ?_
      exact hR _ _ _ _ h dX5_partOfLowest_39
    · replace h := h.2 c
      refine v_iload_n C 1 dX5_partOfLowest_6 rfl rfl ?_
      refine v_iload_n C 3 dX5_partOfLowest_7 rfl rfl ?_
      obtain ⟨hz2, h⟩ := h
      refine v_irem C dX5_partOfLowest_8 hz2 ?_
      refine v_if_ne C dX5_partOfLowest_9 (tgt := 32) (by decide) (fun c => ?_) (fun c => ?_)
      · replace h := h.1 c
        obtain ⟨x3, ex3⟩ : ∃ z : Int32, z = v3_2 + (-1 : Int32) := ⟨_, rfl⟩
        replace h := h x3 ex3
        refine v_iinc (v := x3) (lv' := [(3, .int x3), (0, .int v0_2), (1, .int v1_2), (2, .int v2_2)]) C 3 dX5_partOfLowest_32 rfl (by rw [ex3]; rfl) (by decide) rfl ?_
        refine v_goto C dX5_partOfLowest_35 (tgt := 2) (by decide) ?_
        refine v_sub [1, 2, 3, 0] rfl ?_
        exact ih M v0_2 v1_2 v2_2 x3  h
      · replace h := h.2 c
        refine v_iload_n C 2 dX5_partOfLowest_12 rfl rfl ?_
        refine v_iload_n C 3 dX5_partOfLowest_13 rfl rfl ?_
        obtain ⟨hz4, h⟩ := h
        refine v_irem C dX5_partOfLowest_14 hz4 ?_
        refine v_if_ne C dX5_partOfLowest_15 (tgt := 32) (by decide) (fun c => ?_) (fun c => ?_)
        · replace h := h.1 c
          obtain ⟨x5, ex5⟩ : ∃ z : Int32, z = v3_2 + (-1 : Int32) := ⟨_, rfl⟩
          replace h := h x5 ex5
          refine v_iinc (v := x5) (lv' := [(3, .int x5), (0, .int v0_2), (1, .int v1_2), (2, .int v2_2)]) C 3 dX5_partOfLowest_32 rfl (by rw [ex5]; rfl) (by decide) rfl ?_
          refine v_goto C dX5_partOfLowest_35 (tgt := 2) (by decide) ?_
          refine v_sub [1, 2, 3, 0] rfl ?_
          exact ih M v0_2 v1_2 v2_2 x5  h
        · replace h := h.2 c
          refine v_iload_n C 0 dX5_partOfLowest_18 rfl rfl ?_
          refine v_if_ne C dX5_partOfLowest_19 (tgt := 28) (by decide) (fun c => ?_) (fun c => ?_)
          · replace h := h.1 c
            refine v_iload_n C 2 dX5_partOfLowest_28 rfl rfl ?_
            refine v_iload_n C 3 dX5_partOfLowest_29 rfl rfl ?_
            obtain ⟨hz6, h⟩ := h
            refine v_idiv C dX5_partOfLowest_30 hz6 ?_
            exact hR _ _ _ _ h dX5_partOfLowest_31
          · replace h := h.2 c
            refine v_iload_n C 1 dX5_partOfLowest_22 rfl rfl ?_
            refine v_iload_n C 3 dX5_partOfLowest_23 rfl rfl ?_
            obtain ⟨hz7, h⟩ := h
            refine v_idiv C dX5_partOfLowest_24 hz7 ?_
            refine v_goto C dX5_partOfLowest_25 (tgt := 31) (by decide) ?_
            exact hR _ _ _ _ h dX5_partOfLowest_31
def w5_partOfLowest (g : GX) (M : S0) (p1 : Int32) (p2 : Int32) (p3 : Int32) (Q : Int32 → S0 → Prop) : Prop :=
    ∃ n1, w5_partOfLowest_b2 g  Q n1 M p1 p2 p3 p3
set_option maxHeartbeats 4000000 in
set_option maxRecDepth 20000 in
theorem c5_partOfLowest {B : BX} {a : Nat → Nat} {g : GX} {M : S0} {p1 : Int32} {p2 : Int32} {p3 : Int32} {Q : Int32 → S0 → Prop} (h : w5_partOfLowest g M p1 p2 p3 Q) : KI B (wl (66 + 3 * g.2) a (shX B.2.1 a g.1)) yX5_partOfLowest cX5_partOfLowest 4 (some .int) 0 0 [.int p1, .int p2, .int p3] M Q := by
  rw [w5_partOfLowest] at h
  refine KI_of (by decide +kernel) (Nat.le_of_ble_eq_true rfl) (fun E C hR => ?_)
  change V B E 4 (wl (66 + 3 * g.2) a (shX B.2.1 a g.1) M) 0 [(0, .int p1), (1, .int p2), (2, .int p3)] []
  change Ok B E cX5_partOfLowest 4 RX5 0 0 at C
  refine v_iload_n C 2 dX5_partOfLowest_0 rfl rfl ?_
  refine v_istore_n (lv' := [(3, .int p3), (0, .int p1), (1, .int p2), (2, .int p3)]) C dX5_partOfLowest_1 rfl (by decide) rfl ?_
  obtain ⟨n1, h⟩ := h
  refine v_sub [1, 2, 3, 0] rfl ?_
  exact t5_partOfLowest_b2   C hR  n1 M p1 p2 p3 p3  h
