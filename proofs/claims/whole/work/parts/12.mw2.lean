def w6_atom_body (Rc : Nat → S0 → (Int32 → S0 → Prop) → Prop) (M : S0) (Q : Int32 → S0 → Prop) : Prop :=
    w6_isSign M (45 : Int32) (fun r2 M1 => ((r2 = 0) → (w6_isSign M1 (40 : Int32) (fun r4 M3 => ((r4 = 0) → (((¬ (M3 0 25) = 0) → (((¬ (M3 0 25) = 0) → (w6_fail M3 (fun M5 => Q (0 : Int32) M5))) ∧ (((M3 0 25) = 0) → (((¬ (M3 0 21) = (1 : Int32)) → (w6_fail M3 (fun M6 => Q (0 : Int32) M6))) ∧ (((M3 0 21) = (1 : Int32)) → (w6_name M3 (fun r8 M7 => ((¬ (M7 0 25) = 0) → (Q r8 M7)) ∧ (((M7 0 25) = 0) → (w6_next M7 (fun M9 => Q r8 M9)))))))))) ∧ (((M3 0 25) = 0) → (((¬ (M3 0 21) = (2 : Int32)) → (((¬ (M3 0 25) = 0) → (w6_fail M3 (fun M10 => Q (0 : Int32) M10))) ∧ (((M3 0 25) = 0) → (((¬ (M3 0 21) = (1 : Int32)) → (w6_fail M3 (fun M11 => Q (0 : Int32) M11))) ∧ (((M3 0 21) = (1 : Int32)) → (w6_name M3 (fun r13 M12 => ((¬ (M12 0 25) = 0) → (Q r13 M12)) ∧ (((M12 0 25) = 0) → (w6_next M12 (fun M14 => Q r13 M14)))))))))) ∧ (((M3 0 21) = (2 : Int32)) → (∀ x15 : Int32, x15 = (Int64.toInt32 (j64 (M3 0 23) (M3 0 100))) → (w6_next M3 (fun M16 => Q x15 M16)))))))) ∧ ((¬ r4 = 0) → (w6_opens M3 (fun r18 M17 => ((r18 = 0) → (Q (0 : Int32) M17)) ∧ ((¬ r18 = 0) → (Rc 5 M17 (fun r20 M19 => w6_isSign M19 (41 : Int32) (fun r22 M21 => ((¬ r22 = 0) → (∀ M23 : S0, M23 = up M21 0 24 ((M21 0 24) - (1 : Int32)) → (((¬ (M23 0 25) = 0) → (Q r20 M23)) ∧ (((M23 0 25) = 0) → (w6_next M23 (fun M24 => Q r20 M24)))))) ∧ ((r22 = 0) → (w6_fail M21 (fun M25 => ∀ M26 : S0, M26 = up M25 0 24 ((M25 0 24) - (1 : Int32)) → (((¬ (M26 0 25) = 0) → (Q r20 M26)) ∧ (((M26 0 25) = 0) → (w6_next M26 (fun M27 => Q r20 M27))))))))))))))))) ∧ ((¬ r2 = 0) → (w6_opens M1 (fun r29 M28 => ((r29 = 0) → (Q (0 : Int32) M28)) ∧ ((¬ r29 = 0) → (Rc 0 M28 (fun r31 M30 => ∀ x32 : Int32, x32 = (-r31) → (∀ M33 : S0, M33 = up M30 0 24 ((M30 0 24) - (1 : Int32)) → (Q x32 M33)))))))))
set_option maxHeartbeats 4000000 in
set_option maxRecDepth 20000 in
theorem c6_atom_body {B : BX} {a : Nat → Nat} {Rc : Nat → S0 → (Int32 → S0 → Prop) → Prop} {frr loo : Nat} {M : S0} {Q : Int32 → S0 → Prop} (hRc0 : ∀ (M : S0) (Q : Int32 → S0 → Prop), Rc 0  M  Q → KI B (wl 12 a (shM B.2.1 a)) yX6_atom cX6_atom 2 (some .int) frr loo [.ref (a 0)] M Q) (hRc1 : ∀ (M : S0) (Q : Int32 → S0 → Prop), Rc 1  M  Q → KI B (wl 12 a (shM B.2.1 a)) yX6_term cX6_term 2 (some .int) frr loo [.ref (a 0)] M Q) (hRc2 : ∀ (M : S0) (Q : Int32 → S0 → Prop), Rc 2  M  Q → KI B (wl 12 a (shM B.2.1 a)) yX6_added cX6_added 4 (some .int) frr loo [.ref (a 0)] M Q) (hRc3 : ∀ (M : S0) (Q : Int32 → S0 → Prop), Rc 3  M  Q → KI B (wl 12 a (shM B.2.1 a)) yX6_not cX6_not 4 (some .int) frr loo [.ref (a 0)] M Q) (hRc4 : ∀ (M : S0) (Q : Int32 → S0 → Prop), Rc 4  M  Q → KI B (wl 12 a (shM B.2.1 a)) yX6_both cX6_both 3 (some .int) frr loo [.ref (a 0)] M Q) (hRc5 : ∀ (M : S0) (Q : Int32 → S0 → Prop), Rc 5  M  Q → KI B (wl 12 a (shM B.2.1 a)) yX6_either cX6_either 3 (some .int) frr loo [.ref (a 0)] M Q) (hfb : 4 ≤ frr) (hlb : 91 ≤ loo) (h : w6_atom_body Rc M  Q) : KI B (wl 12 a (shM B.2.1 a)) yX6_atom cX6_atom 2 (some .int) (frr + 1) (loo + 23) [.ref (a 0)] M Q := by
  rw [w6_atom_body] at h
  refine KI_of (by decide +kernel) (Nat.le_of_ble_eq_true rfl) (fun E C hR => ?_)
  change V B E 2 (wl 12 a (shM B.2.1 a) M) 0 [(0, .ref (a 0))] []
  change Ok B E cX6_atom 2 RX6 (frr + 1) (loo + 23) at C
  refine v_iconst C dX6_atom_0 (v := (0 : Int32)) (by decide) ?_
  refine v_istore_n (lv' := [(1, .int (0 : Int32)), (0, .ref (a 0))]) C dX6_atom_1 rfl (by decide) rfl ?_
  refine v_aload_n C 1 dX6_atom_2 rfl rfl ?_
  refine v_bipush C dX6_atom_3 (v := (45 : Int32)) (by decide) ?_
  refine v_callVi (k := 0) (As := [.int (45 : Int32)]) (rest := []) C (c6_isSign  h) eX6_203 (by omega) (by omega) (by decide) rfl rfl rfl rfl (Nat.le_of_ble_eq_true rfl) dX6_atom_5 (fun r2 M1 h => ?_)
  refine v_if_eq C dX6_atom_8 (tgt := 37) (by decide) (fun c => ?_) (fun c => ?_)
  · replace h := h.1 c
    refine v_aload_n C 1 dX6_atom_37 rfl rfl ?_
    refine v_bipush C dX6_atom_38 (v := (40 : Int32)) (by decide) ?_
    refine v_callVi (k := 0) (As := [.int (40 : Int32)]) (rest := []) C (c6_isSign  h) eX6_203 (by omega) (by omega) (by decide) rfl rfl rfl rfl (Nat.le_of_ble_eq_true rfl) dX6_atom_40 (fun r4 M3 h => ?_)
    refine v_if_eq C dX6_atom_43 (tgt := 95) (by decide) (fun c => ?_) (fun c => ?_)
    · replace h := h.1 c
      refine v_aload_n C 1 dX6_atom_95 rfl rfl ?_
      refine fX6_6_g_bad C dX6_atom_96 ?_
      refine v_if_ne C dX6_atom_99 (tgt := 123) (by decide) (fun c => ?_) (fun c => ?_)
      · replace h := h.1 c
        refine v_aload_n C 1 dX6_atom_123 rfl rfl ?_
        refine fX6_6_g_bad C dX6_atom_124 ?_
        refine v_if_ne C dX6_atom_127 (tgt := 157) (by decide) (fun c => ?_) (fun c => ?_)
        · replace h := h.1 c
          refine v_aload_n C 1 dX6_atom_157 rfl rfl ?_
          refine v_callVv (k := 0) (As := []) (rest := []) C (c6_fail  h) eX6_175 (by omega) (by omega) (by decide) rfl rfl rfl rfl (Nat.le_of_ble_eq_true rfl) dX6_atom_158 (fun M5 h => ?_)
          refine v_iload_n C 0 dX6_atom_161 rfl rfl ?_
          exact hR _ _ _ _ h dX6_atom_162
        · replace h := h.2 c
          refine v_aload_n C 1 dX6_atom_130 rfl rfl ?_
          refine fX6_6_g_token C dX6_atom_131 ?_
          refine v_iconst C dX6_atom_134 (v := (1 : Int32)) (by decide) ?_
          refine v_icmp_ne C dX6_atom_135 (tgt := 157) (by decide) (fun c => ?_) (fun c => ?_)
          · replace h := h.1 c
            refine v_aload_n C 1 dX6_atom_157 rfl rfl ?_
            refine v_callVv (k := 0) (As := []) (rest := []) C (c6_fail  h) eX6_175 (by omega) (by omega) (by decide) rfl rfl rfl rfl (Nat.le_of_ble_eq_true rfl) dX6_atom_158 (fun M6 h => ?_)
            refine v_iload_n C 0 dX6_atom_161 rfl rfl ?_
            exact hR _ _ _ _ h dX6_atom_162
          · replace h := h.2 c
            refine v_aload_n C 1 dX6_atom_138 rfl rfl ?_
            refine v_callVi (k := 0) (As := []) (rest := []) C (c6_name  h) eX6_217 (by omega) (by omega) (by decide) rfl rfl rfl rfl (Nat.le_of_ble_eq_true rfl) dX6_atom_139 (fun r8 M7 h => ?_)
            refine v_istore_n (lv' := [(1, .int r8), (0, .ref (a 0))]) C dX6_atom_142 rfl (by decide) rfl ?_
            refine v_aload_n C 1 dX6_atom_143 rfl rfl ?_
            refine fX6_6_g_bad C dX6_atom_144 ?_
            refine v_if_ne C dX6_atom_147 (tgt := 161) (by decide) (fun c => ?_) (fun c => ?_)
            · replace h := h.1 c
              refine v_iload_n C 0 dX6_atom_161 rfl rfl ?_
              exact hR _ _ _ _ h dX6_atom_162
            · replace h := h.2 c
              refine v_aload_n C 1 dX6_atom_150 rfl rfl ?_
              refine v_callVv (k := 0) (As := []) (rest := []) C (c6_next  h) eX6_178 (by omega) (by omega) (by decide) rfl rfl rfl rfl (Nat.le_of_ble_eq_true rfl) dX6_atom_151 (fun M9 h => ?_)
              refine v_goto C dX6_atom_154 (tgt := 161) (by decide) ?_
              refine v_iload_n C 0 dX6_atom_161 rfl rfl ?_
              exact hR _ _ _ _ h dX6_atom_162
      · replace h := h.2 c
        refine v_aload_n C 1 dX6_atom_102 rfl rfl ?_
        refine fX6_6_g_token C dX6_atom_103 ?_
        refine v_iconst C dX6_atom_106 (v := (2 : Int32)) (by decide) ?_
        refine v_icmp_ne C dX6_atom_107 (tgt := 123) (by decide) (fun c => ?_) (fun c => ?_)
        · replace h := h.1 c
          refine v_aload_n C 1 dX6_atom_123 rfl rfl ?_
          refine fX6_6_g_bad C dX6_atom_124 ?_
          refine v_if_ne C dX6_atom_127 (tgt := 157) (by decide) (fun c => ?_) (fun c => ?_)
          · replace h := h.1 c
            refine v_aload_n C 1 dX6_atom_157 rfl rfl ?_
            refine v_callVv (k := 0) (As := []) (rest := []) C (c6_fail  h) eX6_175 (by omega) (by omega) (by decide) rfl rfl rfl rfl (Nat.le_of_ble_eq_true rfl) dX6_atom_158 (fun M10 h => ?_)
            refine v_iload_n C 0 dX6_atom_161 rfl rfl ?_
            exact hR _ _ _ _ h dX6_atom_162
          · replace h := h.2 c
            refine v_aload_n C 1 dX6_atom_130 rfl rfl ?_
            refine fX6_6_g_token C dX6_atom_131 ?_
            refine v_iconst C dX6_atom_134 (v := (1 : Int32)) (by decide) ?_
            refine v_icmp_ne C dX6_atom_135 (tgt := 157) (by decide) (fun c => ?_) (fun c => ?_)
            · replace h := h.1 c
              refine v_aload_n C 1 dX6_atom_157 rfl rfl ?_
              refine v_callVv (k := 0) (As := []) (rest := []) C (c6_fail  h) eX6_175 (by omega) (by omega) (by decide) rfl rfl rfl rfl (Nat.le_of_ble_eq_true rfl) dX6_atom_158 (fun M11 h => ?_)
              refine v_iload_n C 0 dX6_atom_161 rfl rfl ?_
              exact hR _ _ _ _ h dX6_atom_162
            · replace h := h.2 c
              refine v_aload_n C 1 dX6_atom_138 rfl rfl ?_
              refine v_callVi (k := 0) (As := []) (rest := []) C (c6_name  h) eX6_217 (by omega) (by omega) (by decide) rfl rfl rfl rfl (Nat.le_of_ble_eq_true rfl) dX6_atom_139 (fun r13 M12 h => ?_)
              refine v_istore_n (lv' := [(1, .int r13), (0, .ref (a 0))]) C dX6_atom_142 rfl (by decide) rfl ?_
              refine v_aload_n C 1 dX6_atom_143 rfl rfl ?_
              refine fX6_6_g_bad C dX6_atom_144 ?_
              refine v_if_ne C dX6_atom_147 (tgt := 161) (by decide) (fun c => ?_) (fun c => ?_)
              · replace h := h.1 c
                refine v_iload_n C 0 dX6_atom_161 rfl rfl ?_
                exact hR _ _ _ _ h dX6_atom_162
              · replace h := h.2 c
                refine v_aload_n C 1 dX6_atom_150 rfl rfl ?_
                refine v_callVv (k := 0) (As := []) (rest := []) C (c6_next  h) eX6_178 (by omega) (by omega) (by decide) rfl rfl rfl rfl (Nat.le_of_ble_eq_true rfl) dX6_atom_151 (fun M14 h => ?_)
                refine v_goto C dX6_atom_154 (tgt := 161) (by decide) ?_
                refine v_iload_n C 0 dX6_atom_161 rfl rfl ?_
                exact hR _ _ _ _ h dX6_atom_162
        · replace h := h.2 c
          refine v_aload_n C 1 dX6_atom_110 rfl rfl ?_
          refine fX6_6_g_tokenWorth C dX6_atom_111 ?_
          refine v_l2i C dX6_atom_114 ?_
          refine v_nmi (fun x15 ex15 => ?_)
          replace h := h x15 ex15
          refine v_istore_n (lv' := [(1, .int x15), (0, .ref (a 0))]) C dX6_atom_115 rfl (by decide) rfl ?_
          refine v_aload_n C 1 dX6_atom_116 rfl rfl ?_
          refine v_callVv (k := 0) (As := []) (rest := []) C (c6_next  h) eX6_178 (by omega) (by omega) (by decide) rfl rfl rfl rfl (Nat.le_of_ble_eq_true rfl) dX6_atom_117 (fun M16 h => ?_)
          refine v_goto C dX6_atom_120 (tgt := 161) (by decide) ?_
          refine v_iload_n C 0 dX6_atom_161 rfl rfl ?_
          exact hR _ _ _ _ h dX6_atom_162
    · replace h := h.2 c
      refine v_aload_n C 1 dX6_atom_46 rfl rfl ?_
      refine v_callVi (k := 0) (As := []) (rest := []) C (c6_opens  h) eX6_206 (by omega) (by omega) (by decide) rfl rfl rfl rfl (Nat.le_of_ble_eq_true rfl) dX6_atom_47 (fun r18 M17 h => ?_)
      refine v_if_eq C dX6_atom_50 (tgt := 161) (by decide) (fun c => ?_) (fun c => ?_)
      · replace h := h.1 c
        refine v_iload_n C 0 dX6_atom_161 rfl rfl ?_
        exact hR _ _ _ _ h dX6_atom_162
      · replace h := h.2 c
        refine v_aload_n C 1 dX6_atom_53 rfl rfl ?_
        refine v_callVi (k := 0) (As := []) (rest := []) C (hRc5 _ _  h) eX6_214 (by omega) (by omega) (by decide) rfl rfl rfl rfl (Nat.le_of_ble_eq_true rfl) dX6_atom_54 (fun r20 M19 h => ?_)
        refine v_istore_n (lv' := [(1, .int r20), (0, .ref (a 0))]) C dX6_atom_57 rfl (by decide) rfl ?_
        refine v_aload_n C 1 dX6_atom_58 rfl rfl ?_
        refine v_bipush C dX6_atom_59 (v := (41 : Int32)) (by decide) ?_
        refine v_callVi (k := 0) (As := [.int (41 : Int32)]) (rest := []) C (c6_isSign  h) eX6_203 (by omega) (by omega) (by decide) rfl rfl rfl rfl (Nat.le_of_ble_eq_true rfl) dX6_atom_61 (fun r22 M21 h => ?_)
        refine v_if_ne C dX6_atom_64 (tgt := 71) (by decide) (fun c => ?_) (fun c => ?_)
        · replace h := h.1 c
          refine v_aload_n C 1 dX6_atom_71 rfl rfl ?_
          refine v_dup C dX6_atom_72 rfl ?_
          refine fX6_6_g_open C dX6_atom_73 ?_
          refine v_iconst C dX6_atom_76 (v := (1 : Int32)) (by decide) ?_
          refine v_isub C dX6_atom_77 ?_
          refine fX6_6_p_open C dX6_atom_78 (fun M23 eM23 => ?_)
          replace h := h M23 eM23
          refine v_aload_n C 1 dX6_atom_81 rfl rfl ?_
          refine fX6_6_g_bad C dX6_atom_82 ?_
          refine v_if_ne C dX6_atom_85 (tgt := 161) (by decide) (fun c => ?_) (fun c => ?_)
          · replace h := h.1 c
            refine v_iload_n C 0 dX6_atom_161 rfl rfl ?_
            exact hR _ _ _ _ h dX6_atom_162
          · replace h := h.2 c
            refine v_aload_n C 1 dX6_atom_88 rfl rfl ?_
            refine v_callVv (k := 0) (As := []) (rest := []) C (c6_next  h) eX6_178 (by omega) (by omega) (by decide) rfl rfl rfl rfl (Nat.le_of_ble_eq_true rfl) dX6_atom_89 (fun M24 h => ?_)
            refine v_goto C dX6_atom_92 (tgt := 161) (by decide) ?_
            refine v_iload_n C 0 dX6_atom_161 rfl rfl ?_
            exact hR _ _ _ _ h dX6_atom_162
        · replace h := h.2 c
          refine v_aload_n C 1 dX6_atom_67 rfl rfl ?_
          refine v_callVv (k := 0) (As := []) (rest := []) C (c6_fail  h) eX6_175 (by omega) (by omega) (by decide) rfl rfl rfl rfl (Nat.le_of_ble_eq_true rfl) dX6_atom_68 (fun M25 h => ?_)
          refine v_aload_n C 1 dX6_atom_71 rfl rfl ?_
          refine v_dup C dX6_atom_72 rfl ?_
          refine fX6_6_g_open C dX6_atom_73 ?_
          refine v_iconst C dX6_atom_76 (v := (1 : Int32)) (by decide) ?_
          refine v_isub C dX6_atom_77 ?_
          refine fX6_6_p_open C dX6_atom_78 (fun M26 eM26 => ?_)
          replace h := h M26 eM26
          refine v_aload_n C 1 dX6_atom_81 rfl rfl ?_
          refine fX6_6_g_bad C dX6_atom_82 ?_
          refine v_if_ne C dX6_atom_85 (tgt := 161) (by decide) (fun c => ?_) (fun c => ?_)
          · replace h := h.1 c
            refine v_iload_n C 0 dX6_atom_161 rfl rfl ?_
            exact hR _ _ _ _ h dX6_atom_162
          · replace h := h.2 c
            refine v_aload_n C 1 dX6_atom_88 rfl rfl ?_
            refine v_callVv (k := 0) (As := []) (rest := []) C (c6_next  h) eX6_178 (by omega) (by omega) (by decide) rfl rfl rfl rfl (Nat.le_of_ble_eq_true rfl) dX6_atom_89 (fun M27 h => ?_)
            refine v_goto C dX6_atom_92 (tgt := 161) (by decide) ?_
            refine v_iload_n C 0 dX6_atom_161 rfl rfl ?_
            exact hR _ _ _ _ h dX6_atom_162
  · replace h := h.2 c
    refine v_aload_n C 1 dX6_atom_11 rfl rfl ?_
    refine v_callVi (k := 0) (As := []) (rest := []) C (c6_opens  h) eX6_206 (by omega) (by omega) (by decide) rfl rfl rfl rfl (Nat.le_of_ble_eq_true rfl) dX6_atom_12 (fun r29 M28 h => ?_)
    refine v_if_eq C dX6_atom_15 (tgt := 161) (by decide) (fun c => ?_) (fun c => ?_)
    · replace h := h.1 c
      refine v_iload_n C 0 dX6_atom_161 rfl rfl ?_
      exact hR _ _ _ _ h dX6_atom_162
    · replace h := h.2 c
      refine v_aload_n C 1 dX6_atom_18 rfl rfl ?_
      refine v_callVi (k := 0) (As := []) (rest := []) C (hRc0 _ _  h) eX6_210 (by omega) (by omega) (by decide) rfl rfl rfl rfl (Nat.le_of_ble_eq_true rfl) dX6_atom_19 (fun r31 M30 h => ?_)
      refine v_ineg C dX6_atom_22 ?_
      refine v_nmi (fun x32 ex32 => ?_)
      replace h := h x32 ex32
      refine v_istore_n (lv' := [(1, .int x32), (0, .ref (a 0))]) C dX6_atom_23 rfl (by decide) rfl ?_
      refine v_aload_n C 1 dX6_atom_24 rfl rfl ?_
      refine v_dup C dX6_atom_25 rfl ?_
      refine fX6_6_g_open C dX6_atom_26 ?_
      refine v_iconst C dX6_atom_29 (v := (1 : Int32)) (by decide) ?_
      refine v_isub C dX6_atom_30 ?_
      refine fX6_6_p_open C dX6_atom_31 (fun M33 eM33 => ?_)
      replace h := h M33 eM33
      refine v_goto C dX6_atom_34 (tgt := 161) (by decide) ?_
      refine v_iload_n C 0 dX6_atom_161 rfl rfl ?_
      exact hR _ _ _ _ h dX6_atom_162
def w6_term_b5 (Rc : Nat → S0 → (Int32 → S0 → Prop) → Prop) (Q : Int32 → S0 → Prop) : Nat → S0 → Int32 → Prop
  | 0, _, _ => False
  | n + 1, M, v1_5 =>
    w6_isSign M (42 : Int32) (fun r5 M4 => ((r5 = 0) → (Q v1_5 M4)) ∧ ((¬ r5 = 0) → (w6_next M4 (fun M6 => Rc 0 M6 (fun r8 M7 => ∀ x9 : Int32, x9 = (v1_5 * r8) → (w6_term_b5 Rc  Q n M7 x9))))))
set_option maxHeartbeats 4000000 in
set_option maxRecDepth 20000 in
theorem t6_term_b5 {B : BX} {E : EX} {a : Nat → Nat} {Rc : Nat → S0 → (Int32 → S0 → Prop) → Prop} {frr loo : Nat} {Q : Int32 → S0 → Prop} (hRc0 : ∀ (M : S0) (Q : Int32 → S0 → Prop), Rc 0  M  Q → KI B (wl 12 a (shM B.2.1 a)) yX6_atom cX6_atom 2 (some .int) frr loo [.ref (a 0)] M Q) (hRc1 : ∀ (M : S0) (Q : Int32 → S0 → Prop), Rc 1  M  Q → KI B (wl 12 a (shM B.2.1 a)) yX6_term cX6_term 2 (some .int) frr loo [.ref (a 0)] M Q) (hRc2 : ∀ (M : S0) (Q : Int32 → S0 → Prop), Rc 2  M  Q → KI B (wl 12 a (shM B.2.1 a)) yX6_added cX6_added 4 (some .int) frr loo [.ref (a 0)] M Q) (hRc3 : ∀ (M : S0) (Q : Int32 → S0 → Prop), Rc 3  M  Q → KI B (wl 12 a (shM B.2.1 a)) yX6_not cX6_not 4 (some .int) frr loo [.ref (a 0)] M Q) (hRc4 : ∀ (M : S0) (Q : Int32 → S0 → Prop), Rc 4  M  Q → KI B (wl 12 a (shM B.2.1 a)) yX6_both cX6_both 3 (some .int) frr loo [.ref (a 0)] M Q) (hRc5 : ∀ (M : S0) (Q : Int32 → S0 → Prop), Rc 5  M  Q → KI B (wl 12 a (shM B.2.1 a)) yX6_either cX6_either 3 (some .int) frr loo [.ref (a 0)] M Q) (hfb : 4 ≤ frr) (hlb : 91 ≤ loo) (C : Ok B E cX6_term 2 RX6 (frr + 1) (loo + 23)) (hR : RetI B E cX6_term 2 (wl 12 a (shM B.2.1 a)) Q) : ∀ (n : Nat) (M : S0) (v1_5 : Int32), w6_term_b5 Rc  Q n M v1_5 → V B E 2 (wl 12 a (shM B.2.1 a) M) 5 [(0, .ref (a 0)), (1, .int v1_5)] [] := by
  intro n
  induction n with
  | zero =>
    intro M v1_5  h
    exact h.elim
  | succ n ih =>
    intro M v1_5  h
    rw [w6_term_b5] at h
    refine v_aload_n C 0 dX6_term_5 rfl rfl ?_
    refine v_bipush C dX6_term_6 (v := (42 : Int32)) (by decide) ?_
    refine v_callVi (k := 0) (As := [.int (42 : Int32)]) (rest := []) C (c6_isSign  h) eX6_203 (by omega) (by omega) (by decide) rfl rfl rfl rfl (Nat.le_of_ble_eq_true rfl) dX6_term_8 (fun r5 M4 h => ?_)
    refine v_if_eq C dX6_term_11 (tgt := 28) (by decide) (fun c => ?_) (fun c => ?_)
    · replace h := h.1 c
      refine v_iload_n C 1 dX6_term_28 rfl rfl ?_
      exact hR _ _ _ _ h dX6_term_29
    · replace h := h.2 c
      refine v_aload_n C 0 dX6_term_14 rfl rfl ?_
      refine v_callVv (k := 0) (As := []) (rest := []) C (c6_next  h) eX6_178 (by omega) (by omega) (by decide) rfl rfl rfl rfl (Nat.le_of_ble_eq_true rfl) dX6_term_15 (fun M6 h => ?_)
      refine v_iload_n C 1 dX6_term_18 rfl rfl ?_
      refine v_aload_n C 0 dX6_term_19 rfl rfl ?_
      refine v_callVi (k := 0) (As := []) (rest := [.int v1_5]) C (hRc0 _ _  h) eX6_210 (by omega) (by omega) (by decide) rfl rfl rfl rfl (Nat.le_of_ble_eq_true rfl) dX6_term_20 (fun r8 M7 h => ?_)
      refine v_imul C dX6_term_23 ?_
      refine v_nmi (fun x9 ex9 => ?_)
      replace h := h x9 ex9
      refine v_istore_n (lv' := [(1, .int x9), (0, .ref (a 0))]) C dX6_term_24 rfl (by decide) rfl ?_
      refine v_goto C dX6_term_25 (tgt := 5) (by decide) ?_
      refine v_sub [1, 0] rfl ?_
      exact ih M7 x9  h
def w6_term_body (Rc : Nat → S0 → (Int32 → S0 → Prop) → Prop) (M : S0) (Q : Int32 → S0 → Prop) : Prop :=
    Rc 0 M (fun r2 M1 => ∃ n3, w6_term_b5 Rc  Q n3 M1 r2)
set_option maxHeartbeats 4000000 in
set_option maxRecDepth 20000 in
theorem c6_term_body {B : BX} {a : Nat → Nat} {Rc : Nat → S0 → (Int32 → S0 → Prop) → Prop} {frr loo : Nat} {M : S0} {Q : Int32 → S0 → Prop} (hRc0 : ∀ (M : S0) (Q : Int32 → S0 → Prop), Rc 0  M  Q → KI B (wl 12 a (shM B.2.1 a)) yX6_atom cX6_atom 2 (some .int) frr loo [.ref (a 0)] M Q) (hRc1 : ∀ (M : S0) (Q : Int32 → S0 → Prop), Rc 1  M  Q → KI B (wl 12 a (shM B.2.1 a)) yX6_term cX6_term 2 (some .int) frr loo [.ref (a 0)] M Q) (hRc2 : ∀ (M : S0) (Q : Int32 → S0 → Prop), Rc 2  M  Q → KI B (wl 12 a (shM B.2.1 a)) yX6_added cX6_added 4 (some .int) frr loo [.ref (a 0)] M Q) (hRc3 : ∀ (M : S0) (Q : Int32 → S0 → Prop), Rc 3  M  Q → KI B (wl 12 a (shM B.2.1 a)) yX6_not cX6_not 4 (some .int) frr loo [.ref (a 0)] M Q) (hRc4 : ∀ (M : S0) (Q : Int32 → S0 → Prop), Rc 4  M  Q → KI B (wl 12 a (shM B.2.1 a)) yX6_both cX6_both 3 (some .int) frr loo [.ref (a 0)] M Q) (hRc5 : ∀ (M : S0) (Q : Int32 → S0 → Prop), Rc 5  M  Q → KI B (wl 12 a (shM B.2.1 a)) yX6_either cX6_either 3 (some .int) frr loo [.ref (a 0)] M Q) (hfb : 4 ≤ frr) (hlb : 91 ≤ loo) (h : w6_term_body Rc M  Q) : KI B (wl 12 a (shM B.2.1 a)) yX6_term cX6_term 2 (some .int) (frr + 1) (loo + 23) [.ref (a 0)] M Q := by
  rw [w6_term_body] at h
  refine KI_of (by decide +kernel) (Nat.le_of_ble_eq_true rfl) (fun E C hR => ?_)
  change V B E 2 (wl 12 a (shM B.2.1 a) M) 0 [(0, .ref (a 0))] []
  change Ok B E cX6_term 2 RX6 (frr + 1) (loo + 23) at C
  refine v_aload_n C 0 dX6_term_0 rfl rfl ?_
  refine v_callVi (k := 0) (As := []) (rest := []) C (hRc0 _ _  h) eX6_210 (by omega) (by omega) (by decide) rfl rfl rfl rfl (Nat.le_of_ble_eq_true rfl) dX6_term_1 (fun r2 M1 h => ?_)
  refine v_istore_n (lv' := [(1, .int r2), (0, .ref (a 0))]) C dX6_term_4 rfl (by decide) rfl ?_
  obtain ⟨n3, h⟩ := h
  refine v_sub [1, 0] rfl ?_
  exact t6_term_b5  hRc0 hRc1 hRc2 hRc3 hRc4 hRc5 hfb hlb C hR  n3 M1 r2  h
def w6_added_b5 (Rc : Nat → S0 → (Int32 → S0 → Prop) → Prop) (Q : Int32 → S0 → Prop) : Nat → S0 → Int32 → Prop
  | 0, _, _ => False
  | n + 1, M, v1_5 =>
    w6_isSign M (43 : Int32) (fun r5 M4 => ((¬ r5 = 0) → (((¬ (lg_cmp (j64 (M4 0 23) (M4 0 100)) (43 : Int64)) = 0) → (w6_next M4 (fun M6 => Rc 1 M6 (fun r8 M7 => ∀ x9 : Int32, x9 = (v1_5 - r8) → (w6_added_b5 Rc  Q n M7 x9))))) ∧ (((lg_cmp (j64 (M4 0 23) (M4 0 100)) (43 : Int64)) = 0) → (w6_next M4 (fun M10 => Rc 1 M10 (fun r12 M11 => ∀ x13 : Int32, x13 = (v1_5 + r12) → (w6_added_b5 Rc  Q n M11 x13))))))) ∧ ((r5 = 0) → (w6_isSign M4 (45 : Int32) (fun r15 M14 => ((r15 = 0) → (Q v1_5 M14)) ∧ ((¬ r15 = 0) → (((¬ (lg_cmp (j64 (M14 0 23) (M14 0 100)) (43 : Int64)) = 0) → (w6_next M14 (fun M16 => Rc 1 M16 (fun r18 M17 => ∀ x19 : Int32, x19 = (v1_5 - r18) → (w6_added_b5 Rc  Q n M17 x19))))) ∧ (((lg_cmp (j64 (M14 0 23) (M14 0 100)) (43 : Int64)) = 0) → (w6_next M14 (fun M20 => Rc 1 M20 (fun r22 M21 => ∀ x23 : Int32, x23 = (v1_5 + r22) → (w6_added_b5 Rc  Q n M21 x23)))))))))))
set_option maxHeartbeats 4000000 in
set_option maxRecDepth 20000 in
theorem t6_added_b5 {B : BX} {E : EX} {a : Nat → Nat} {Rc : Nat → S0 → (Int32 → S0 → Prop) → Prop} {frr loo : Nat} {Q : Int32 → S0 → Prop} (hRc0 : ∀ (M : S0) (Q : Int32 → S0 → Prop), Rc 0  M  Q → KI B (wl 12 a (shM B.2.1 a)) yX6_atom cX6_atom 2 (some .int) frr loo [.ref (a 0)] M Q) (hRc1 : ∀ (M : S0) (Q : Int32 → S0 → Prop), Rc 1  M  Q → KI B (wl 12 a (shM B.2.1 a)) yX6_term cX6_term 2 (some .int) frr loo [.ref (a 0)] M Q) (hRc2 : ∀ (M : S0) (Q : Int32 → S0 → Prop), Rc 2  M  Q → KI B (wl 12 a (shM B.2.1 a)) yX6_added cX6_added 4 (some .int) frr loo [.ref (a 0)] M Q) (hRc3 : ∀ (M : S0) (Q : Int32 → S0 → Prop), Rc 3  M  Q → KI B (wl 12 a (shM B.2.1 a)) yX6_not cX6_not 4 (some .int) frr loo [.ref (a 0)] M Q) (hRc4 : ∀ (M : S0) (Q : Int32 → S0 → Prop), Rc 4  M  Q → KI B (wl 12 a (shM B.2.1 a)) yX6_both cX6_both 3 (some .int) frr loo [.ref (a 0)] M Q) (hRc5 : ∀ (M : S0) (Q : Int32 → S0 → Prop), Rc 5  M  Q → KI B (wl 12 a (shM B.2.1 a)) yX6_either cX6_either 3 (some .int) frr loo [.ref (a 0)] M Q) (hfb : 4 ≤ frr) (hlb : 91 ≤ loo) (C : Ok B E cX6_added 4 RX6 (frr + 1) (loo + 23)) (hR : RetI B E cX6_added 4 (wl 12 a (shM B.2.1 a)) Q) : ∀ (n : Nat) (M : S0) (v1_5 : Int32), w6_added_b5 Rc  Q n M v1_5 → V B E 4 (wl 12 a (shM B.2.1 a) M) 5 [(0, .ref (a 0)), (1, .int v1_5)] [] := by
  intro n
  induction n with
  | zero =>
    intro M v1_5  h
    exact h.elim
  | succ n ih =>
    intro M v1_5  h
    rw [w6_added_b5] at h
    refine v_aload_n C 0 dX6_added_5 rfl rfl ?_
    refine v_bipush C dX6_added_6 (v := (43 : Int32)) (by decide) ?_
    refine v_callVi (k := 0) (As := [.int (43 : Int32)]) (rest := []) C (c6_isSign  h) eX6_203 (by omega) (by omega) (by decide) rfl rfl rfl rfl (Nat.le_of_ble_eq_true rfl) dX6_added_8 (fun r5 M4 h => ?_)
    refine v_if_ne C dX6_added_11 (tgt := 23) (by decide) (fun c => ?_) (fun c => ?_)
    · replace h := h.1 c
      refine v_aload_n C 0 dX6_added_23 rfl rfl ?_
      refine fX6_6_g_tokenWorth C dX6_added_24 ?_
      refine v_ldc2 C (v := (43 : Int64)) (gdm 1051 (by decide +kernel) (by decide +kernel)) dX6_added_27 ?_
      refine v_lcmp C dX6_added_30 ?_
      refine v_if_ne C dX6_added_31 (tgt := 38) (by decide) (fun c => ?_) (fun c => ?_)
      · replace h := h.1 c
        refine v_iconst C dX6_added_38 (v := (0 : Int32)) (by decide) ?_
        refine v_istore_n (lv' := [(2, .int (0 : Int32)), (0, .ref (a 0)), (1, .int v1_5)]) C dX6_added_39 rfl (by decide) rfl ?_
        refine v_aload_n C 1 dX6_added_40 rfl rfl ?_
        refine v_callVv (k := 0) (As := []) (rest := []) C (c6_next  h) eX6_178 (by omega) (by omega) (by decide) rfl rfl rfl rfl (Nat.le_of_ble_eq_true rfl) dX6_added_41 (fun M6 h => ?_)
        refine v_aload_n C 1 dX6_added_44 rfl rfl ?_
        refine v_callVi (k := 0) (As := []) (rest := []) C (hRc1 _ _  h) eX6_220 (by omega) (by omega) (by decide) rfl rfl rfl rfl (Nat.le_of_ble_eq_true rfl) dX6_added_45 (fun r8 M7 h => ?_)
        refine v_istore_n (lv' := [(3, .int r8), (2, .int (0 : Int32)), (0, .ref (a 0)), (1, .int v1_5)]) C dX6_added_48 rfl (by decide) rfl ?_
        refine v_iload_n C 1 dX6_added_49 rfl rfl ?_
        refine v_if_eq C dX6_added_50 (tgt := 59) (by decide) (fun c => ?_) (fun c => absurd c (by decide))
        refine v_iload_n C 3 dX6_added_59 rfl rfl ?_
        refine v_iload_n C 0 dX6_added_60 rfl rfl ?_
        refine v_isub C dX6_added_61 ?_
        refine v_nmi (fun x9 ex9 => ?_)
        replace h := h x9 ex9
        refine v_istore_n (lv' := [(1, .int x9), (3, .int r8), (2, .int (0 : Int32)), (0, .ref (a 0))]) C dX6_added_62 rfl (by decide) rfl ?_
        refine v_goto C dX6_added_63 (tgt := 5) (by decide) ?_
        refine v_sub [3, 0] rfl ?_
        exact ih M7 x9  h
      · replace h := h.2 c
        refine v_iconst C dX6_added_34 (v := (1 : Int32)) (by decide) ?_
        refine v_goto C dX6_added_35 (tgt := 39) (by decide) ?_
        refine v_istore_n (lv' := [(2, .int (1 : Int32)), (0, .ref (a 0)), (1, .int v1_5)]) C dX6_added_39 rfl (by decide) rfl ?_
        refine v_aload_n C 1 dX6_added_40 rfl rfl ?_
        refine v_callVv (k := 0) (As := []) (rest := []) C (c6_next  h) eX6_178 (by omega) (by omega) (by decide) rfl rfl rfl rfl (Nat.le_of_ble_eq_true rfl) dX6_added_41 (fun M10 h => ?_)
        refine v_aload_n C 1 dX6_added_44 rfl rfl ?_
        refine v_callVi (k := 0) (As := []) (rest := []) C (hRc1 _ _  h) eX6_220 (by omega) (by omega) (by decide) rfl rfl rfl rfl (Nat.le_of_ble_eq_true rfl) dX6_added_45 (fun r12 M11 h => ?_)
        refine v_istore_n (lv' := [(3, .int r12), (2, .int (1 : Int32)), (0, .ref (a 0)), (1, .int v1_5)]) C dX6_added_48 rfl (by decide) rfl ?_
        refine v_iload_n C 1 dX6_added_49 rfl rfl ?_
        refine v_if_eq C dX6_added_50 (tgt := 59) (by decide) (fun c => absurd c (by decide)) (fun c => ?_)
        refine v_iload_n C 3 dX6_added_53 rfl rfl ?_
        refine v_iload_n C 0 dX6_added_54 rfl rfl ?_
        refine v_iadd C dX6_added_55 ?_
        refine v_goto C dX6_added_56 (tgt := 62) (by decide) ?_
        refine v_nmi (fun x13 ex13 => ?_)
        replace h := h x13 ex13
        refine v_istore_n (lv' := [(1, .int x13), (3, .int r12), (2, .int (1 : Int32)), (0, .ref (a 0))]) C dX6_added_62 rfl (by decide) rfl ?_
        refine v_goto C dX6_added_63 (tgt := 5) (by decide) ?_
        refine v_sub [3, 0] rfl ?_
        exact ih M11 x13  h
    · replace h := h.2 c
      refine v_aload_n C 0 dX6_added_14 rfl rfl ?_
      refine v_bipush C dX6_added_15 (v := (45 : Int32)) (by decide) ?_
      refine v_callVi (k := 0) (As := [.int (45 : Int32)]) (rest := []) C (c6_isSign  h) eX6_203 (by omega) (by omega) (by decide) rfl rfl rfl rfl (Nat.le_of_ble_eq_true rfl) dX6_added_17 (fun r15 M14 h => ?_)
      refine v_if_eq C dX6_added_20 (tgt := 66) (by decide) (fun c => ?_) (fun c => ?_)
      · replace h := h.1 c
        refine v_iload_n C 1 dX6_added_66 rfl rfl ?_
        exact hR _ _ _ _ h dX6_added_67
      · replace h := h.2 c
        refine v_aload_n C 0 dX6_added_23 rfl rfl ?_
        refine fX6_6_g_tokenWorth C dX6_added_24 ?_
        refine v_ldc2 C (v := (43 : Int64)) (gdm 1051 (by decide +kernel) (by decide +kernel)) dX6_added_27 ?_
        refine v_lcmp C dX6_added_30 ?_
        refine v_if_ne C dX6_added_31 (tgt := 38) (by decide) (fun c => ?_) (fun c => ?_)
        · replace h := h.1 c
          refine v_iconst C dX6_added_38 (v := (0 : Int32)) (by decide) ?_
          refine v_istore_n (lv' := [(2, .int (0 : Int32)), (0, .ref (a 0)), (1, .int v1_5)]) C dX6_added_39 rfl (by decide) rfl ?_
          refine v_aload_n C 1 dX6_added_40 rfl rfl ?_
          refine v_callVv (k := 0) (As := []) (rest := []) C (c6_next  h) eX6_178 (by omega) (by omega) (by decide) rfl rfl rfl rfl (Nat.le_of_ble_eq_true rfl) dX6_added_41 (fun M16 h => ?_)
          refine v_aload_n C 1 dX6_added_44 rfl rfl ?_
          refine v_callVi (k := 0) (As := []) (rest := []) C (hRc1 _ _  h) eX6_220 (by omega) (by omega) (by decide) rfl rfl rfl rfl (Nat.le_of_ble_eq_true rfl) dX6_added_45 (fun r18 M17 h => ?_)
          refine v_istore_n (lv' := [(3, .int r18), (2, .int (0 : Int32)), (0, .ref (a 0)), (1, .int v1_5)]) C dX6_added_48 rfl (by decide) rfl ?_
          refine v_iload_n C 1 dX6_added_49 rfl rfl ?_
          refine v_if_eq C dX6_added_50 (tgt := 59) (by decide) (fun c => ?_) (fun c => absurd c (by decide))
          refine v_iload_n C 3 dX6_added_59 rfl rfl ?_
          refine v_iload_n C 0 dX6_added_60 rfl rfl ?_
          refine v_isub C dX6_added_61 ?_
          refine v_nmi (fun x19 ex19 => ?_)
          replace h := h x19 ex19
          refine v_istore_n (lv' := [(1, .int x19), (3, .int r18), (2, .int (0 : Int32)), (0, .ref (a 0))]) C dX6_added_62 rfl (by decide) rfl ?_
          refine v_goto C dX6_added_63 (tgt := 5) (by decide) ?_
          refine v_sub [3, 0] rfl ?_
          exact ih M17 x19  h
        · replace h := h.2 c
          refine v_iconst C dX6_added_34 (v := (1 : Int32)) (by decide) ?_
          refine v_goto C dX6_added_35 (tgt := 39) (by decide) ?_
          refine v_istore_n (lv' := [(2, .int (1 : Int32)), (0, .ref (a 0)), (1, .int v1_5)]) C dX6_added_39 rfl (by decide) rfl ?_
          refine v_aload_n C 1 dX6_added_40 rfl rfl ?_
          refine v_callVv (k := 0) (As := []) (rest := []) C (c6_next  h) eX6_178 (by omega) (by omega) (by decide) rfl rfl rfl rfl (Nat.le_of_ble_eq_true rfl) dX6_added_41 (fun M20 h => ?_)
          refine v_aload_n C 1 dX6_added_44 rfl rfl ?_
          refine v_callVi (k := 0) (As := []) (rest := []) C (hRc1 _ _  h) eX6_220 (by omega) (by omega) (by decide) rfl rfl rfl rfl (Nat.le_of_ble_eq_true rfl) dX6_added_45 (fun r22 M21 h => ?_)
          refine v_istore_n (lv' := [(3, .int r22), (2, .int (1 : Int32)), (0, .ref (a 0)), (1, .int v1_5)]) C dX6_added_48 rfl (by decide) rfl ?_
          refine v_iload_n C 1 dX6_added_49 rfl rfl ?_
          refine v_if_eq C dX6_added_50 (tgt := 59) (by decide) (fun c => absurd c (by decide)) (fun c => ?_)
          refine v_iload_n C 3 dX6_added_53 rfl rfl ?_
          refine v_iload_n C 0 dX6_added_54 rfl rfl ?_
          refine v_iadd C dX6_added_55 ?_
          refine v_goto C dX6_added_56 (tgt := 62) (by decide) ?_
          refine v_nmi (fun x23 ex23 => ?_)
          replace h := h x23 ex23
          refine v_istore_n (lv' := [(1, .int x23), (3, .int r22), (2, .int (1 : Int32)), (0, .ref (a 0))]) C dX6_added_62 rfl (by decide) rfl ?_
          refine v_goto C dX6_added_63 (tgt := 5) (by decide) ?_
          refine v_sub [3, 0] rfl ?_
          exact ih M21 x23  h
def w6_added_body (Rc : Nat → S0 → (Int32 → S0 → Prop) → Prop) (M : S0) (Q : Int32 → S0 → Prop) : Prop :=
    Rc 1 M (fun r2 M1 => ∃ n3, w6_added_b5 Rc  Q n3 M1 r2)
set_option maxHeartbeats 4000000 in
set_option maxRecDepth 20000 in
theorem c6_added_body {B : BX} {a : Nat → Nat} {Rc : Nat → S0 → (Int32 → S0 → Prop) → Prop} {frr loo : Nat} {M : S0} {Q : Int32 → S0 → Prop} (hRc0 : ∀ (M : S0) (Q : Int32 → S0 → Prop), Rc 0  M  Q → KI B (wl 12 a (shM B.2.1 a)) yX6_atom cX6_atom 2 (some .int) frr loo [.ref (a 0)] M Q) (hRc1 : ∀ (M : S0) (Q : Int32 → S0 → Prop), Rc 1  M  Q → KI B (wl 12 a (shM B.2.1 a)) yX6_term cX6_term 2 (some .int) frr loo [.ref (a 0)] M Q) (hRc2 : ∀ (M : S0) (Q : Int32 → S0 → Prop), Rc 2  M  Q → KI B (wl 12 a (shM B.2.1 a)) yX6_added cX6_added 4 (some .int) frr loo [.ref (a 0)] M Q) (hRc3 : ∀ (M : S0) (Q : Int32 → S0 → Prop), Rc 3  M  Q → KI B (wl 12 a (shM B.2.1 a)) yX6_not cX6_not 4 (some .int) frr loo [.ref (a 0)] M Q) (hRc4 : ∀ (M : S0) (Q : Int32 → S0 → Prop), Rc 4  M  Q → KI B (wl 12 a (shM B.2.1 a)) yX6_both cX6_both 3 (some .int) frr loo [.ref (a 0)] M Q) (hRc5 : ∀ (M : S0) (Q : Int32 → S0 → Prop), Rc 5  M  Q → KI B (wl 12 a (shM B.2.1 a)) yX6_either cX6_either 3 (some .int) frr loo [.ref (a 0)] M Q) (hfb : 4 ≤ frr) (hlb : 91 ≤ loo) (h : w6_added_body Rc M  Q) : KI B (wl 12 a (shM B.2.1 a)) yX6_added cX6_added 4 (some .int) (frr + 1) (loo + 23) [.ref (a 0)] M Q := by
  rw [w6_added_body] at h
  refine KI_of (by decide +kernel) (Nat.le_of_ble_eq_true rfl) (fun E C hR => ?_)
  change V B E 4 (wl 12 a (shM B.2.1 a) M) 0 [(0, .ref (a 0))] []
  change Ok B E cX6_added 4 RX6 (frr + 1) (loo + 23) at C
  refine v_aload_n C 0 dX6_added_0 rfl rfl ?_
  refine v_callVi (k := 0) (As := []) (rest := []) C (hRc1 _ _  h) eX6_220 (by omega) (by omega) (by decide) rfl rfl rfl rfl (Nat.le_of_ble_eq_true rfl) dX6_added_1 (fun r2 M1 h => ?_)
  refine v_istore_n (lv' := [(1, .int r2), (0, .ref (a 0))]) C dX6_added_4 rfl (by decide) rfl ?_
  obtain ⟨n3, h⟩ := h
  refine v_sub [1, 0] rfl ?_
  exact t6_added_b5  hRc0 hRc1 hRc2 hRc3 hRc4 hRc5 hfb hlb C hR  n3 M1 r2  h
def w6_not_body (Rc : Nat → S0 → (Int32 → S0 → Prop) → Prop) (M : S0) (Q : Int32 → S0 → Prop) : Prop :=
    w6_isWord M (110 : Int32) (111 : Int32) (116 : Int32) (0 : Int32) (0 : Int32) (0 : Int32) (0 : Int32) (0 : Int32) (fun r2 M1 => ((r2 = 0) → (Rc 2 M1 (fun r4 M3 => w6_isSign M3 (60 : Int32) (fun r6 M5 => ((¬ r6 = 0) → (((¬ (lg_cmp (j64 (M5 0 23) (M5 0 100)) (60 : Int64)) = 0) → (w6_next M5 (fun M7 => Rc 2 M7 (fun r9 M8 => ((¬ r4 = r9) → (Q (0 : Int32) M8)) ∧ ((r4 = r9) → (Q (1 : Int32) M8)))))) ∧ (((lg_cmp (j64 (M5 0 23) (M5 0 100)) (60 : Int64)) = 0) → (w6_next M5 (fun M10 => Rc 2 M10 (fun r12 M11 => ((r12 ≤ r4) → (Q (0 : Int32) M11)) ∧ ((¬ r12 ≤ r4) → (Q (1 : Int32) M11)))))))) ∧ ((r6 = 0) → (w6_isSign M5 (61 : Int32) (fun r14 M13 => ((¬ r14 = 0) → (((¬ (lg_cmp (j64 (M13 0 23) (M13 0 100)) (60 : Int64)) = 0) → (w6_next M13 (fun M15 => Rc 2 M15 (fun r17 M16 => ((¬ r4 = r17) → (Q (0 : Int32) M16)) ∧ ((r4 = r17) → (Q (1 : Int32) M16)))))) ∧ (((lg_cmp (j64 (M13 0 23) (M13 0 100)) (60 : Int64)) = 0) → (w6_next M13 (fun M18 => Rc 2 M18 (fun r20 M19 => ((r20 ≤ r4) → (Q (0 : Int32) M19)) ∧ ((¬ r20 ≤ r4) → (Q (1 : Int32) M19)))))))) ∧ ((r14 = 0) → (Q r4 M13))))))))) ∧ ((¬ r2 = 0) → (w6_opens M1 (fun r22 M21 => ((¬ r22 = 0) → (Rc 3 M21 (fun r24 M23 => ∀ M25 : S0, M25 = up M23 0 24 ((M23 0 24) - (1 : Int32)) → (((¬ r24 = 0) → (Q (0 : Int32) M25)) ∧ ((r24 = 0) → (Q (1 : Int32) M25)))))) ∧ ((r22 = 0) → (Q (0 : Int32) M21))))))
set_option maxHeartbeats 4000000 in
set_option maxRecDepth 20000 in
theorem c6_not_body {B : BX} {a : Nat → Nat} {Rc : Nat → S0 → (Int32 → S0 → Prop) → Prop} {frr loo : Nat} {M : S0} {Q : Int32 → S0 → Prop} (hRc0 : ∀ (M : S0) (Q : Int32 → S0 → Prop), Rc 0  M  Q → KI B (wl 12 a (shM B.2.1 a)) yX6_atom cX6_atom 2 (some .int) frr loo [.ref (a 0)] M Q) (hRc1 : ∀ (M : S0) (Q : Int32 → S0 → Prop), Rc 1  M  Q → KI B (wl 12 a (shM B.2.1 a)) yX6_term cX6_term 2 (some .int) frr loo [.ref (a 0)] M Q) (hRc2 : ∀ (M : S0) (Q : Int32 → S0 → Prop), Rc 2  M  Q → KI B (wl 12 a (shM B.2.1 a)) yX6_added cX6_added 4 (some .int) frr loo [.ref (a 0)] M Q) (hRc3 : ∀ (M : S0) (Q : Int32 → S0 → Prop), Rc 3  M  Q → KI B (wl 12 a (shM B.2.1 a)) yX6_not cX6_not 4 (some .int) frr loo [.ref (a 0)] M Q) (hRc4 : ∀ (M : S0) (Q : Int32 → S0 → Prop), Rc 4  M  Q → KI B (wl 12 a (shM B.2.1 a)) yX6_both cX6_both 3 (some .int) frr loo [.ref (a 0)] M Q) (hRc5 : ∀ (M : S0) (Q : Int32 → S0 → Prop), Rc 5  M  Q → KI B (wl 12 a (shM B.2.1 a)) yX6_either cX6_either 3 (some .int) frr loo [.ref (a 0)] M Q) (hfb : 4 ≤ frr) (hlb : 91 ≤ loo) (h : w6_not_body Rc M  Q) : KI B (wl 12 a (shM B.2.1 a)) yX6_not cX6_not 4 (some .int) (frr + 1) (loo + 23) [.ref (a 0)] M Q := by
  rw [w6_not_body] at h
  refine KI_of (by decide +kernel) (Nat.le_of_ble_eq_true rfl) (fun E C hR => ?_)
  change V B E 4 (wl 12 a (shM B.2.1 a) M) 0 [(0, .ref (a 0))] []
  change Ok B E cX6_not 4 RX6 (frr + 1) (loo + 23) at C
  refine v_aload_n C 0 dX6_not_0 rfl rfl ?_
  refine v_bipush C dX6_not_1 (v := (110 : Int32)) (by decide) ?_
  refine v_bipush C dX6_not_3 (v := (111 : Int32)) (by decide) ?_
  refine v_bipush C dX6_not_5 (v := (116 : Int32)) (by decide) ?_
  refine v_iconst C dX6_not_7 (v := (0 : Int32)) (by decide) ?_
  refine v_iconst C dX6_not_8 (v := (0 : Int32)) (by decide) ?_
  refine v_iconst C dX6_not_9 (v := (0 : Int32)) (by decide) ?_
  refine v_iconst C dX6_not_10 (v := (0 : Int32)) (by decide) ?_
  refine v_iconst C dX6_not_11 (v := (0 : Int32)) (by decide) ?_
  refine v_callVi (k := 0) (As := [.int (110 : Int32), .int (111 : Int32), .int (116 : Int32), .int (0 : Int32), .int (0 : Int32), .int (0 : Int32), .int (0 : Int32), .int (0 : Int32)]) (rest := []) C (c6_isWord  h) eX6_181 (by omega) (by omega) (by decide) rfl rfl rfl rfl (Nat.le_of_ble_eq_true rfl) dX6_not_12 (fun r2 M1 h => ?_)
  refine v_if_eq C dX6_not_15 (tgt := 52) (by decide) (fun c => ?_) (fun c => ?_)
  · replace h := h.1 c
    refine v_aload_n C 0 dX6_not_52 rfl rfl ?_
    refine v_callVi (k := 0) (As := []) (rest := []) C (hRc2 _ _  h) eX6_228 (by omega) (by omega) (by decide) rfl rfl rfl rfl (Nat.le_of_ble_eq_true rfl) dX6_not_53 (fun r4 M3 h => ?_)
    refine v_istore_n (lv' := [(1, .int r4), (0, .ref (a 0))]) C dX6_not_56 rfl (by decide) rfl ?_
    refine v_aload_n C 1 dX6_not_57 rfl rfl ?_
    refine v_bipush C dX6_not_58 (v := (60 : Int32)) (by decide) ?_
    refine v_callVi (k := 0) (As := [.int (60 : Int32)]) (rest := []) C (c6_isSign  h) eX6_203 (by omega) (by omega) (by decide) rfl rfl rfl rfl (Nat.le_of_ble_eq_true rfl) dX6_not_60 (fun r6 M5 h => ?_)
    refine v_if_ne C dX6_not_63 (tgt := 77) (by decide) (fun c => ?_) (fun c => ?_)
    · replace h := h.1 c
      refine v_aload_n C 1 dX6_not_77 rfl rfl ?_
      refine fX6_6_g_tokenWorth C dX6_not_78 ?_
      refine v_ldc2 C (v := (60 : Int64)) (gdm 1052 (by decide +kernel) (by decide +kernel)) dX6_not_81 ?_
      refine v_lcmp C dX6_not_84 ?_
      refine v_if_ne C dX6_not_85 (tgt := 92) (by decide) (fun c => ?_) (fun c => ?_)
      · replace h := h.1 c
        refine v_iconst C dX6_not_92 (v := (0 : Int32)) (by decide) ?_
        refine v_istore_n (lv' := [(2, .int (0 : Int32)), (1, .int r4), (0, .ref (a 0))]) C dX6_not_93 rfl (by decide) rfl ?_
        refine v_aload_n C 2 dX6_not_94 rfl rfl ?_
        refine v_callVv (k := 0) (As := []) (rest := []) C (c6_next  h) eX6_178 (by omega) (by omega) (by decide) rfl rfl rfl rfl (Nat.le_of_ble_eq_true rfl) dX6_not_95 (fun M7 h => ?_)
        refine v_aload_n C 2 dX6_not_98 rfl rfl ?_
        refine v_callVi (k := 0) (As := []) (rest := []) C (hRc2 _ _  h) eX6_228 (by omega) (by omega) (by decide) rfl rfl rfl rfl (Nat.le_of_ble_eq_true rfl) dX6_not_99 (fun r9 M8 h => ?_)
        refine v_istore_n (lv' := [(3, .int r9), (2, .int (0 : Int32)), (1, .int r4), (0, .ref (a 0))]) C dX6_not_102 rfl (by decide) rfl ?_
        refine v_iload_n C 1 dX6_not_103 rfl rfl ?_
        refine v_if_eq C dX6_not_104 (tgt := 115) (by decide) (fun c => ?_) (fun c => absurd c (by decide))
        refine v_iload_n C 2 dX6_not_115 rfl rfl ?_
        refine v_iload_n C 0 dX6_not_116 rfl rfl ?_
        refine v_icmp_ne C dX6_not_117 (tgt := 124) (by decide) (fun c => ?_) (fun c => ?_)
        · replace h := h.1 c
          refine v_iconst C dX6_not_124 (v := (0 : Int32)) (by decide) ?_
          exact hR _ _ _ _ h dX6_not_125
        · replace h := h.2 c
          refine v_iconst C dX6_not_120 (v := (1 : Int32)) (by decide) ?_
          refine v_goto C dX6_not_121 (tgt := 125) (by decide) ?_
          exact hR _ _ _ _ h dX6_not_125
      · replace h := h.2 c
        refine v_iconst C dX6_not_88 (v := (1 : Int32)) (by decide) ?_
        refine v_goto C dX6_not_89 (tgt := 93) (by decide) ?_
        refine v_istore_n (lv' := [(2, .int (1 : Int32)), (1, .int r4), (0, .ref (a 0))]) C dX6_not_93 rfl (by decide) rfl ?_
        refine v_aload_n C 2 dX6_not_94 rfl rfl ?_
        refine v_callVv (k := 0) (As := []) (rest := []) C (c6_next  h) eX6_178 (by omega) (by omega) (by decide) rfl rfl rfl rfl (Nat.le_of_ble_eq_true rfl) dX6_not_95 (fun M10 h => ?_)
        refine v_aload_n C 2 dX6_not_98 rfl rfl ?_
        refine v_callVi (k := 0) (As := []) (rest := []) C (hRc2 _ _  h) eX6_228 (by omega) (by omega) (by decide) rfl rfl rfl rfl (Nat.le_of_ble_eq_true rfl) dX6_not_99 (fun r12 M11 h => ?_)
        refine v_istore_n (lv' := [(3, .int r12), (2, .int (1 : Int32)), (1, .int r4), (0, .ref (a 0))]) C dX6_not_102 rfl (by decide) rfl ?_
        refine v_iload_n C 1 dX6_not_103 rfl rfl ?_
        refine v_if_eq C dX6_not_104 (tgt := 115) (by decide) (fun c => absurd c (by decide)) (fun c => ?_)
        refine v_iload_n C 2 dX6_not_107 rfl rfl ?_
        refine v_iload_n C 0 dX6_not_108 rfl rfl ?_
        refine v_icmp_ge C dX6_not_109 (tgt := 124) (by decide) (fun c => ?_) (fun c => ?_)
        · replace h := h.1 c
          refine v_iconst C dX6_not_124 (v := (0 : Int32)) (by decide) ?_
          exact hR _ _ _ _ h dX6_not_125
        · replace h := h.2 c
          refine v_goto C dX6_not_112 (tgt := 120) (by decide) ?_
          refine v_iconst C dX6_not_120 (v := (1 : Int32)) (by decide) ?_
          refine v_goto C dX6_not_121 (tgt := 125) (by decide) ?_
          exact hR _ _ _ _ h dX6_not_125
    · replace h := h.2 c
      refine v_aload_n C 1 dX6_not_66 rfl rfl ?_
      refine v_bipush C dX6_not_67 (v := (61 : Int32)) (by decide) ?_
      refine v_callVi (k := 0) (As := [.int (61 : Int32)]) (rest := []) C (c6_isSign  h) eX6_203 (by omega) (by omega) (by decide) rfl rfl rfl rfl (Nat.le_of_ble_eq_true rfl) dX6_not_69 (fun r14 M13 h => ?_)
      refine v_if_ne C dX6_not_72 (tgt := 77) (by decide) (fun c => ?_) (fun c => ?_)
      · replace h := h.1 c
        refine v_aload_n C 1 dX6_not_77 rfl rfl ?_
        refine fX6_6_g_tokenWorth C dX6_not_78 ?_
        refine v_ldc2 C (v := (60 : Int64)) (gdm 1052 (by decide +kernel) (by decide +kernel)) dX6_not_81 ?_
        refine v_lcmp C dX6_not_84 ?_
        refine v_if_ne C dX6_not_85 (tgt := 92) (by decide) (fun c => ?_) (fun c => ?_)
        · replace h := h.1 c
          refine v_iconst C dX6_not_92 (v := (0 : Int32)) (by decide) ?_
          refine v_istore_n (lv' := [(2, .int (0 : Int32)), (1, .int r4), (0, .ref (a 0))]) C dX6_not_93 rfl (by decide) rfl ?_
          refine v_aload_n C 2 dX6_not_94 rfl rfl ?_
          refine v_callVv (k := 0) (As := []) (rest := []) C (c6_next  h) eX6_178 (by omega) (by omega) (by decide) rfl rfl rfl rfl (Nat.le_of_ble_eq_true rfl) dX6_not_95 (fun M15 h => ?_)
          refine v_aload_n C 2 dX6_not_98 rfl rfl ?_
          refine v_callVi (k := 0) (As := []) (rest := []) C (hRc2 _ _  h) eX6_228 (by omega) (by omega) (by decide) rfl rfl rfl rfl (Nat.le_of_ble_eq_true rfl) dX6_not_99 (fun r17 M16 h => ?_)
          refine v_istore_n (lv' := [(3, .int r17), (2, .int (0 : Int32)), (1, .int r4), (0, .ref (a 0))]) C dX6_not_102 rfl (by decide) rfl ?_
          refine v_iload_n C 1 dX6_not_103 rfl rfl ?_
          refine v_if_eq C dX6_not_104 (tgt := 115) (by decide) (fun c => ?_) (fun c => absurd c (by decide))
          refine v_iload_n C 2 dX6_not_115 rfl rfl ?_
          refine v_iload_n C 0 dX6_not_116 rfl rfl ?_
          refine v_icmp_ne C dX6_not_117 (tgt := 124) (by decide) (fun c => ?_) (fun c => ?_)
          · replace h := h.1 c
            refine v_iconst C dX6_not_124 (v := (0 : Int32)) (by decide) ?_
            exact hR _ _ _ _ h dX6_not_125
          · replace h := h.2 c
            refine v_iconst C dX6_not_120 (v := (1 : Int32)) (by decide) ?_
            refine v_goto C dX6_not_121 (tgt := 125) (by decide) ?_
            exact hR _ _ _ _ h dX6_not_125
        · replace h := h.2 c
          refine v_iconst C dX6_not_88 (v := (1 : Int32)) (by decide) ?_
          refine v_goto C dX6_not_89 (tgt := 93) (by decide) ?_
          refine v_istore_n (lv' := [(2, .int (1 : Int32)), (1, .int r4), (0, .ref (a 0))]) C dX6_not_93 rfl (by decide) rfl ?_
          refine v_aload_n C 2 dX6_not_94 rfl rfl ?_
          refine v_callVv (k := 0) (As := []) (rest := []) C (c6_next  h) eX6_178 (by omega) (by omega) (by decide) rfl rfl rfl rfl (Nat.le_of_ble_eq_true rfl) dX6_not_95 (fun M18 h => ?_)
          refine v_aload_n C 2 dX6_not_98 rfl rfl ?_
          refine v_callVi (k := 0) (As := []) (rest := []) C (hRc2 _ _  h) eX6_228 (by omega) (by omega) (by decide) rfl rfl rfl rfl (Nat.le_of_ble_eq_true rfl) dX6_not_99 (fun r20 M19 h => ?_)
          refine v_istore_n (lv' := [(3, .int r20), (2, .int (1 : Int32)), (1, .int r4), (0, .ref (a 0))]) C dX6_not_102 rfl (by decide) rfl ?_
          refine v_iload_n C 1 dX6_not_103 rfl rfl ?_
          refine v_if_eq C dX6_not_104 (tgt := 115) (by decide) (fun c => absurd c (by decide)) (fun c => ?_)
          refine v_iload_n C 2 dX6_not_107 rfl rfl ?_
          refine v_iload_n C 0 dX6_not_108 rfl rfl ?_
          refine v_icmp_ge C dX6_not_109 (tgt := 124) (by decide) (fun c => ?_) (fun c => ?_)
          · replace h := h.1 c
            refine v_iconst C dX6_not_124 (v := (0 : Int32)) (by decide) ?_
            exact hR _ _ _ _ h dX6_not_125
          · replace h := h.2 c
            refine v_goto C dX6_not_112 (tgt := 120) (by decide) ?_
            refine v_iconst C dX6_not_120 (v := (1 : Int32)) (by decide) ?_
            refine v_goto C dX6_not_121 (tgt := 125) (by decide) ?_
            exact hR _ _ _ _ h dX6_not_125
      · replace h := h.2 c
        refine v_iload_n C 0 dX6_not_75 rfl rfl ?_
        exact hR _ _ _ _ h dX6_not_76
  · replace h := h.2 c
    refine v_aload_n C 0 dX6_not_18 rfl rfl ?_
    refine v_callVi (k := 0) (As := []) (rest := []) C (c6_opens  h) eX6_206 (by omega) (by omega) (by decide) rfl rfl rfl rfl (Nat.le_of_ble_eq_true rfl) dX6_not_19 (fun r22 M21 h => ?_)
    refine v_if_ne C dX6_not_22 (tgt := 27) (by decide) (fun c => ?_) (fun c => ?_)
    · replace h := h.1 c
      refine v_aload_n C 0 dX6_not_27 rfl rfl ?_
      refine v_callVi (k := 0) (As := []) (rest := []) C (hRc3 _ _  h) eX6_225 (by omega) (by omega) (by decide) rfl rfl rfl rfl (Nat.le_of_ble_eq_true rfl) dX6_not_28 (fun r24 M23 h => ?_)
      refine v_istore_n (lv' := [(1, .int r24), (0, .ref (a 0))]) C dX6_not_31 rfl (by decide) rfl ?_
      refine v_aload_n C 1 dX6_not_32 rfl rfl ?_
      refine v_dup C dX6_not_33 rfl ?_
      refine fX6_6_g_open C dX6_not_34 ?_
      refine v_iconst C dX6_not_37 (v := (1 : Int32)) (by decide) ?_
      refine v_isub C dX6_not_38 ?_
      refine fX6_6_p_open C dX6_not_39 (fun M25 eM25 => ?_)
      replace h := h M25 eM25
      refine v_iload_n C 0 dX6_not_42 rfl rfl ?_
      refine v_if_ne C dX6_not_43 (tgt := 50) (by decide) (fun c => ?_) (fun c => ?_)
      · replace h := h.1 c
        refine v_iconst C dX6_not_50 (v := (0 : Int32)) (by decide) ?_
        exact hR _ _ _ _ h dX6_not_51
      · replace h := h.2 c
        refine v_iconst C dX6_not_46 (v := (1 : Int32)) (by decide) ?_
        refine v_goto C dX6_not_47 (tgt := 51) (by decide) ?_
        exact hR _ _ _ _ h dX6_not_51
    · replace h := h.2 c
      refine v_iconst C dX6_not_25 (v := (0 : Int32)) (by decide) ?_
      exact hR _ _ _ _ h dX6_not_26
def w6_both_b5 (Rc : Nat → S0 → (Int32 → S0 → Prop) → Prop) (Q : Int32 → S0 → Prop) : Nat → S0 → Int32 → Prop
  | 0, _, _ => False
  | n + 1, M, v1_5 =>
    w6_isWord M (97 : Int32) (110 : Int32) (100 : Int32) (0 : Int32) (0 : Int32) (0 : Int32) (0 : Int32) (0 : Int32) (fun r5 M4 => ((r5 = 0) → (Q v1_5 M4)) ∧ ((¬ r5 = 0) → (w6_next M4 (fun M6 => Rc 3 M6 (fun r8 M7 => ((v1_5 = 0) → (w6_both_b5 Rc  Q n M7 (0 : Int32))) ∧ ((¬ v1_5 = 0) → (((r8 = 0) → (w6_both_b5 Rc  Q n M7 (0 : Int32))) ∧ ((¬ r8 = 0) → (w6_both_b5 Rc  Q n M7 (1 : Int32))))))))))
set_option maxHeartbeats 4000000 in
set_option maxRecDepth 20000 in
theorem t6_both_b5 {B : BX} {E : EX} {a : Nat → Nat} {Rc : Nat → S0 → (Int32 → S0 → Prop) → Prop} {frr loo : Nat} {Q : Int32 → S0 → Prop} (hRc0 : ∀ (M : S0) (Q : Int32 → S0 → Prop), Rc 0  M  Q → KI B (wl 12 a (shM B.2.1 a)) yX6_atom cX6_atom 2 (some .int) frr loo [.ref (a 0)] M Q) (hRc1 : ∀ (M : S0) (Q : Int32 → S0 → Prop), Rc 1  M  Q → KI B (wl 12 a (shM B.2.1 a)) yX6_term cX6_term 2 (some .int) frr loo [.ref (a 0)] M Q) (hRc2 : ∀ (M : S0) (Q : Int32 → S0 → Prop), Rc 2  M  Q → KI B (wl 12 a (shM B.2.1 a)) yX6_added cX6_added 4 (some .int) frr loo [.ref (a 0)] M Q) (hRc3 : ∀ (M : S0) (Q : Int32 → S0 → Prop), Rc 3  M  Q → KI B (wl 12 a (shM B.2.1 a)) yX6_not cX6_not 4 (some .int) frr loo [.ref (a 0)] M Q) (hRc4 : ∀ (M : S0) (Q : Int32 → S0 → Prop), Rc 4  M  Q → KI B (wl 12 a (shM B.2.1 a)) yX6_both cX6_both 3 (some .int) frr loo [.ref (a 0)] M Q) (hRc5 : ∀ (M : S0) (Q : Int32 → S0 → Prop), Rc 5  M  Q → KI B (wl 12 a (shM B.2.1 a)) yX6_either cX6_either 3 (some .int) frr loo [.ref (a 0)] M Q) (hfb : 4 ≤ frr) (hlb : 91 ≤ loo) (C : Ok B E cX6_both 3 RX6 (frr + 1) (loo + 23)) (hR : RetI B E cX6_both 3 (wl 12 a (shM B.2.1 a)) Q) : ∀ (n : Nat) (M : S0) (v1_5 : Int32), w6_both_b5 Rc  Q n M v1_5 → V B E 3 (wl 12 a (shM B.2.1 a) M) 5 [(0, .ref (a 0)), (1, .int v1_5)] [] := by
  intro n
  induction n with
  | zero =>
    intro M v1_5  h
    exact h.elim
  | succ n ih =>
    intro M v1_5  h
    rw [w6_both_b5] at h
    refine v_aload_n C 0 dX6_both_5 rfl rfl ?_
    refine v_bipush C dX6_both_6 (v := (97 : Int32)) (by decide) ?_
    refine v_bipush C dX6_both_8 (v := (110 : Int32)) (by decide) ?_
    refine v_bipush C dX6_both_10 (v := (100 : Int32)) (by decide) ?_
    refine v_iconst C dX6_both_12 (v := (0 : Int32)) (by decide) ?_
    refine v_iconst C dX6_both_13 (v := (0 : Int32)) (by decide) ?_
    refine v_iconst C dX6_both_14 (v := (0 : Int32)) (by decide) ?_
    refine v_iconst C dX6_both_15 (v := (0 : Int32)) (by decide) ?_
    refine v_iconst C dX6_both_16 (v := (0 : Int32)) (by decide) ?_
    refine v_callVi (k := 0) (As := [.int (97 : Int32), .int (110 : Int32), .int (100 : Int32), .int (0 : Int32), .int (0 : Int32), .int (0 : Int32), .int (0 : Int32), .int (0 : Int32)]) (rest := []) C (c6_isWord  h) eX6_181 (by omega) (by omega) (by decide) rfl rfl rfl rfl (Nat.le_of_ble_eq_true rfl) dX6_both_17 (fun r5 M4 h => ?_)
    refine v_if_eq C dX6_both_20 (tgt := 49) (by decide) (fun c => ?_) (fun c => ?_)
    · replace h := h.1 c
      refine v_iload_n C 1 dX6_both_49 rfl rfl ?_
      exact hR _ _ _ _ h dX6_both_50
    · replace h := h.2 c
      refine v_aload_n C 0 dX6_both_23 rfl rfl ?_
      refine v_callVv (k := 0) (As := []) (rest := []) C (c6_next  h) eX6_178 (by omega) (by omega) (by decide) rfl rfl rfl rfl (Nat.le_of_ble_eq_true rfl) dX6_both_24 (fun M6 h => ?_)
      refine v_aload_n C 0 dX6_both_27 rfl rfl ?_
      refine v_callVi (k := 0) (As := []) (rest := []) C (hRc3 _ _  h) eX6_225 (by omega) (by omega) (by decide) rfl rfl rfl rfl (Nat.le_of_ble_eq_true rfl) dX6_both_28 (fun r8 M7 h => ?_)
      refine v_istore_n (lv' := [(2, .int r8), (0, .ref (a 0)), (1, .int v1_5)]) C dX6_both_31 rfl (by decide) rfl ?_
      refine v_iload_n C 2 dX6_both_32 rfl rfl ?_
      refine v_if_eq C dX6_both_33 (tgt := 44) (by decide) (fun c => ?_) (fun c => ?_)
      · replace h := h.1 c
        refine v_iconst C dX6_both_44 (v := (0 : Int32)) (by decide) ?_
        refine v_istore_n (lv' := [(1, .int (0 : Int32)), (2, .int r8), (0, .ref (a 0))]) C dX6_both_45 rfl (by decide) rfl ?_
        refine v_goto C dX6_both_46 (tgt := 5) (by decide) ?_
        refine v_sub [2, 0] rfl ?_
        exact ih M7 (0 : Int32)  h
      · replace h := h.2 c
        refine v_iload_n C 0 dX6_both_36 rfl rfl ?_
        refine v_if_eq C dX6_both_37 (tgt := 44) (by decide) (fun c => ?_) (fun c => ?_)
        · replace h := h.1 c
          refine v_iconst C dX6_both_44 (v := (0 : Int32)) (by decide) ?_
          refine v_istore_n (lv' := [(1, .int (0 : Int32)), (2, .int r8), (0, .ref (a 0))]) C dX6_both_45 rfl (by decide) rfl ?_
          refine v_goto C dX6_both_46 (tgt := 5) (by decide) ?_
          refine v_sub [2, 0] rfl ?_
          exact ih M7 (0 : Int32)  h
        · replace h := h.2 c
          refine v_iconst C dX6_both_40 (v := (1 : Int32)) (by decide) ?_
          refine v_goto C dX6_both_41 (tgt := 45) (by decide) ?_
          refine v_istore_n (lv' := [(1, .int (1 : Int32)), (2, .int r8), (0, .ref (a 0))]) C dX6_both_45 rfl (by decide) rfl ?_
          refine v_goto C dX6_both_46 (tgt := 5) (by decide) ?_
          refine v_sub [2, 0] rfl ?_
          exact ih M7 (1 : Int32)  h
def w6_both_body (Rc : Nat → S0 → (Int32 → S0 → Prop) → Prop) (M : S0) (Q : Int32 → S0 → Prop) : Prop :=
    Rc 3 M (fun r2 M1 => ∃ n3, w6_both_b5 Rc  Q n3 M1 r2)
set_option maxHeartbeats 4000000 in
set_option maxRecDepth 20000 in
theorem c6_both_body {B : BX} {a : Nat → Nat} {Rc : Nat → S0 → (Int32 → S0 → Prop) → Prop} {frr loo : Nat} {M : S0} {Q : Int32 → S0 → Prop} (hRc0 : ∀ (M : S0) (Q : Int32 → S0 → Prop), Rc 0  M  Q → KI B (wl 12 a (shM B.2.1 a)) yX6_atom cX6_atom 2 (some .int) frr loo [.ref (a 0)] M Q) (hRc1 : ∀ (M : S0) (Q : Int32 → S0 → Prop), Rc 1  M  Q → KI B (wl 12 a (shM B.2.1 a)) yX6_term cX6_term 2 (some .int) frr loo [.ref (a 0)] M Q) (hRc2 : ∀ (M : S0) (Q : Int32 → S0 → Prop), Rc 2  M  Q → KI B (wl 12 a (shM B.2.1 a)) yX6_added cX6_added 4 (some .int) frr loo [.ref (a 0)] M Q) (hRc3 : ∀ (M : S0) (Q : Int32 → S0 → Prop), Rc 3  M  Q → KI B (wl 12 a (shM B.2.1 a)) yX6_not cX6_not 4 (some .int) frr loo [.ref (a 0)] M Q) (hRc4 : ∀ (M : S0) (Q : Int32 → S0 → Prop), Rc 4  M  Q → KI B (wl 12 a (shM B.2.1 a)) yX6_both cX6_both 3 (some .int) frr loo [.ref (a 0)] M Q) (hRc5 : ∀ (M : S0) (Q : Int32 → S0 → Prop), Rc 5  M  Q → KI B (wl 12 a (shM B.2.1 a)) yX6_either cX6_either 3 (some .int) frr loo [.ref (a 0)] M Q) (hfb : 4 ≤ frr) (hlb : 91 ≤ loo) (h : w6_both_body Rc M  Q) : KI B (wl 12 a (shM B.2.1 a)) yX6_both cX6_both 3 (some .int) (frr + 1) (loo + 23) [.ref (a 0)] M Q := by
  rw [w6_both_body] at h
  refine KI_of (by decide +kernel) (Nat.le_of_ble_eq_true rfl) (fun E C hR => ?_)
  change V B E 3 (wl 12 a (shM B.2.1 a) M) 0 [(0, .ref (a 0))] []
  change Ok B E cX6_both 3 RX6 (frr + 1) (loo + 23) at C
  refine v_aload_n C 0 dX6_both_0 rfl rfl ?_
  refine v_callVi (k := 0) (As := []) (rest := []) C (hRc3 _ _  h) eX6_225 (by omega) (by omega) (by decide) rfl rfl rfl rfl (Nat.le_of_ble_eq_true rfl) dX6_both_1 (fun r2 M1 h => ?_)
  refine v_istore_n (lv' := [(1, .int r2), (0, .ref (a 0))]) C dX6_both_4 rfl (by decide) rfl ?_
  obtain ⟨n3, h⟩ := h
  refine v_sub [1, 0] rfl ?_
  exact t6_both_b5  hRc0 hRc1 hRc2 hRc3 hRc4 hRc5 hfb hlb C hR  n3 M1 r2  h
def w6_either_b5 (Rc : Nat → S0 → (Int32 → S0 → Prop) → Prop) (Q : Int32 → S0 → Prop) : Nat → S0 → Int32 → Prop
  | 0, _, _ => False
  | n + 1, M, v1_5 =>
    w6_isWord M (111 : Int32) (114 : Int32) (0 : Int32) (0 : Int32) (0 : Int32) (0 : Int32) (0 : Int32) (0 : Int32) (fun r5 M4 => ((r5 = 0) → (Q v1_5 M4)) ∧ ((¬ r5 = 0) → (w6_next M4 (fun M6 => Rc 4 M6 (fun r8 M7 => ((¬ v1_5 = 0) → (w6_either_b5 Rc  Q n M7 (1 : Int32))) ∧ ((v1_5 = 0) → (((r8 = 0) → (w6_either_b5 Rc  Q n M7 (0 : Int32))) ∧ ((¬ r8 = 0) → (w6_either_b5 Rc  Q n M7 (1 : Int32))))))))))
set_option maxHeartbeats 4000000 in
set_option maxRecDepth 20000 in
theorem t6_either_b5 {B : BX} {E : EX} {a : Nat → Nat} {Rc : Nat → S0 → (Int32 → S0 → Prop) → Prop} {frr loo : Nat} {Q : Int32 → S0 → Prop} (hRc0 : ∀ (M : S0) (Q : Int32 → S0 → Prop), Rc 0  M  Q → KI B (wl 12 a (shM B.2.1 a)) yX6_atom cX6_atom 2 (some .int) frr loo [.ref (a 0)] M Q) (hRc1 : ∀ (M : S0) (Q : Int32 → S0 → Prop), Rc 1  M  Q → KI B (wl 12 a (shM B.2.1 a)) yX6_term cX6_term 2 (some .int) frr loo [.ref (a 0)] M Q) (hRc2 : ∀ (M : S0) (Q : Int32 → S0 → Prop), Rc 2  M  Q → KI B (wl 12 a (shM B.2.1 a)) yX6_added cX6_added 4 (some .int) frr loo [.ref (a 0)] M Q) (hRc3 : ∀ (M : S0) (Q : Int32 → S0 → Prop), Rc 3  M  Q → KI B (wl 12 a (shM B.2.1 a)) yX6_not cX6_not 4 (some .int) frr loo [.ref (a 0)] M Q) (hRc4 : ∀ (M : S0) (Q : Int32 → S0 → Prop), Rc 4  M  Q → KI B (wl 12 a (shM B.2.1 a)) yX6_both cX6_both 3 (some .int) frr loo [.ref (a 0)] M Q) (hRc5 : ∀ (M : S0) (Q : Int32 → S0 → Prop), Rc 5  M  Q → KI B (wl 12 a (shM B.2.1 a)) yX6_either cX6_either 3 (some .int) frr loo [.ref (a 0)] M Q) (hfb : 4 ≤ frr) (hlb : 91 ≤ loo) (C : Ok B E cX6_either 3 RX6 (frr + 1) (loo + 23)) (hR : RetI B E cX6_either 3 (wl 12 a (shM B.2.1 a)) Q) : ∀ (n : Nat) (M : S0) (v1_5 : Int32), w6_either_b5 Rc  Q n M v1_5 → V B E 3 (wl 12 a (shM B.2.1 a) M) 5 [(0, .ref (a 0)), (1, .int v1_5)] [] := by
  intro n
  induction n with
  | zero =>
    intro M v1_5  h
    exact h.elim
  | succ n ih =>
    intro M v1_5  h
    rw [w6_either_b5] at h
    refine v_aload_n C 0 dX6_either_5 rfl rfl ?_
    refine v_bipush C dX6_either_6 (v := (111 : Int32)) (by decide) ?_
    refine v_bipush C dX6_either_8 (v := (114 : Int32)) (by decide) ?_
    refine v_iconst C dX6_either_10 (v := (0 : Int32)) (by decide) ?_
    refine v_iconst C dX6_either_11 (v := (0 : Int32)) (by decide) ?_
    refine v_iconst C dX6_either_12 (v := (0 : Int32)) (by decide) ?_
    refine v_iconst C dX6_either_13 (v := (0 : Int32)) (by decide) ?_
    refine v_iconst C dX6_either_14 (v := (0 : Int32)) (by decide) ?_
    refine v_iconst C dX6_either_15 (v := (0 : Int32)) (by decide) ?_
    refine v_callVi (k := 0) (As := [.int (111 : Int32), .int (114 : Int32), .int (0 : Int32), .int (0 : Int32), .int (0 : Int32), .int (0 : Int32), .int (0 : Int32), .int (0 : Int32)]) (rest := []) C (c6_isWord  h) eX6_181 (by omega) (by omega) (by decide) rfl rfl rfl rfl (Nat.le_of_ble_eq_true rfl) dX6_either_16 (fun r5 M4 h => ?_)
    refine v_if_eq C dX6_either_19 (tgt := 48) (by decide) (fun c => ?_) (fun c => ?_)
    · replace h := h.1 c
      refine v_iload_n C 1 dX6_either_48 rfl rfl ?_
      exact hR _ _ _ _ h dX6_either_49
    · replace h := h.2 c
      refine v_aload_n C 0 dX6_either_22 rfl rfl ?_
      refine v_callVv (k := 0) (As := []) (rest := []) C (c6_next  h) eX6_178 (by omega) (by omega) (by decide) rfl rfl rfl rfl (Nat.le_of_ble_eq_true rfl) dX6_either_23 (fun M6 h => ?_)
      refine v_aload_n C 0 dX6_either_26 rfl rfl ?_
      refine v_callVi (k := 0) (As := []) (rest := []) C (hRc4 _ _  h) eX6_233 (by omega) (by omega) (by decide) rfl rfl rfl rfl (Nat.le_of_ble_eq_true rfl) dX6_either_27 (fun r8 M7 h => ?_)
      refine v_istore_n (lv' := [(2, .int r8), (0, .ref (a 0)), (1, .int v1_5)]) C dX6_either_30 rfl (by decide) rfl ?_
      refine v_iload_n C 2 dX6_either_31 rfl rfl ?_
      refine v_if_ne C dX6_either_32 (tgt := 39) (by decide) (fun c => ?_) (fun c => ?_)
      · replace h := h.1 c
        refine v_iconst C dX6_either_39 (v := (1 : Int32)) (by decide) ?_
        refine v_goto C dX6_either_40 (tgt := 44) (by decide) ?_
        refine v_istore_n (lv' := [(1, .int (1 : Int32)), (2, .int r8), (0, .ref (a 0))]) C dX6_either_44 rfl (by decide) rfl ?_
        refine v_goto C dX6_either_45 (tgt := 5) (by decide) ?_
        refine v_sub [2, 0] rfl ?_
        exact ih M7 (1 : Int32)  h
      · replace h := h.2 c
        refine v_iload_n C 0 dX6_either_35 rfl rfl ?_
        refine v_if_eq C dX6_either_36 (tgt := 43) (by decide) (fun c => ?_) (fun c => ?_)
        · replace h := h.1 c
          refine v_iconst C dX6_either_43 (v := (0 : Int32)) (by decide) ?_
          refine v_istore_n (lv' := [(1, .int (0 : Int32)), (2, .int r8), (0, .ref (a 0))]) C dX6_either_44 rfl (by decide) rfl ?_
          refine v_goto C dX6_either_45 (tgt := 5) (by decide) ?_
          refine v_sub [2, 0] rfl ?_
          exact ih M7 (0 : Int32)  h
        · replace h := h.2 c
          refine v_iconst C dX6_either_39 (v := (1 : Int32)) (by decide) ?_
          refine v_goto C dX6_either_40 (tgt := 44) (by decide) ?_
          refine v_istore_n (lv' := [(1, .int (1 : Int32)), (2, .int r8), (0, .ref (a 0))]) C dX6_either_44 rfl (by decide) rfl ?_
          refine v_goto C dX6_either_45 (tgt := 5) (by decide) ?_
          refine v_sub [2, 0] rfl ?_
          exact ih M7 (1 : Int32)  h
def w6_either_body (Rc : Nat → S0 → (Int32 → S0 → Prop) → Prop) (M : S0) (Q : Int32 → S0 → Prop) : Prop :=
    Rc 4 M (fun r2 M1 => ∃ n3, w6_either_b5 Rc  Q n3 M1 r2)
set_option maxHeartbeats 4000000 in
set_option maxRecDepth 20000 in
theorem c6_either_body {B : BX} {a : Nat → Nat} {Rc : Nat → S0 → (Int32 → S0 → Prop) → Prop} {frr loo : Nat} {M : S0} {Q : Int32 → S0 → Prop} (hRc0 : ∀ (M : S0) (Q : Int32 → S0 → Prop), Rc 0  M  Q → KI B (wl 12 a (shM B.2.1 a)) yX6_atom cX6_atom 2 (some .int) frr loo [.ref (a 0)] M Q) (hRc1 : ∀ (M : S0) (Q : Int32 → S0 → Prop), Rc 1  M  Q → KI B (wl 12 a (shM B.2.1 a)) yX6_term cX6_term 2 (some .int) frr loo [.ref (a 0)] M Q) (hRc2 : ∀ (M : S0) (Q : Int32 → S0 → Prop), Rc 2  M  Q → KI B (wl 12 a (shM B.2.1 a)) yX6_added cX6_added 4 (some .int) frr loo [.ref (a 0)] M Q) (hRc3 : ∀ (M : S0) (Q : Int32 → S0 → Prop), Rc 3  M  Q → KI B (wl 12 a (shM B.2.1 a)) yX6_not cX6_not 4 (some .int) frr loo [.ref (a 0)] M Q) (hRc4 : ∀ (M : S0) (Q : Int32 → S0 → Prop), Rc 4  M  Q → KI B (wl 12 a (shM B.2.1 a)) yX6_both cX6_both 3 (some .int) frr loo [.ref (a 0)] M Q) (hRc5 : ∀ (M : S0) (Q : Int32 → S0 → Prop), Rc 5  M  Q → KI B (wl 12 a (shM B.2.1 a)) yX6_either cX6_either 3 (some .int) frr loo [.ref (a 0)] M Q) (hfb : 4 ≤ frr) (hlb : 91 ≤ loo) (h : w6_either_body Rc M  Q) : KI B (wl 12 a (shM B.2.1 a)) yX6_either cX6_either 3 (some .int) (frr + 1) (loo + 23) [.ref (a 0)] M Q := by
  rw [w6_either_body] at h
  refine KI_of (by decide +kernel) (Nat.le_of_ble_eq_true rfl) (fun E C hR => ?_)
  change V B E 3 (wl 12 a (shM B.2.1 a) M) 0 [(0, .ref (a 0))] []
  change Ok B E cX6_either 3 RX6 (frr + 1) (loo + 23) at C
  refine v_aload_n C 0 dX6_either_0 rfl rfl ?_
  refine v_callVi (k := 0) (As := []) (rest := []) C (hRc4 _ _  h) eX6_233 (by omega) (by omega) (by decide) rfl rfl rfl rfl (Nat.le_of_ble_eq_true rfl) dX6_either_1 (fun r2 M1 h => ?_)
  refine v_istore_n (lv' := [(1, .int r2), (0, .ref (a 0))]) C dX6_either_4 rfl (by decide) rfl ?_
  obtain ⟨n3, h⟩ := h
  refine v_sub [1, 0] rfl ?_
  exact t6_either_b5  hRc0 hRc1 hRc2 hRc3 hRc4 hRc5 hfb hlb C hR  n3 M1 r2  h
