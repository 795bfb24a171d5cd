def w6_laysBack_b12 (Q : S0 → Prop) : Nat → S0 → Int32 → Prop
  | 0, _, _ => False
  | n + 1, M, v1_12 =>
    (((24 : Int32) ≤ v1_12) → ((vp_in (((26 : Int32) * (M 0 28)) + (24 : Int32)) 208) ∧ (∀ M4 : S0, M4 = up M 0 8 (M 6 (Int32.toNatClampNeg (((26 : Int32) * (M 0 28)) + (24 : Int32)))) → ((vp_in (((26 : Int32) * (M4 0 28)) + (25 : Int32)) 208) ∧ (∀ M6 : S0, M6 = up M4 0 7 (M4 6 (Int32.toNatClampNeg (((26 : Int32) * (M4 0 28)) + (25 : Int32)))) → (Q M6)))))) ∧ ((¬ (24 : Int32) ≤ v1_12) → ((vp_in (((26 : Int32) * (M 0 28)) + v1_12) 208) ∧ ((vp_in v1_12 24) ∧ (∀ M9 : S0, M9 = up M 5 (Int32.toNatClampNeg v1_12) (M 6 (Int32.toNatClampNeg (((26 : Int32) * (M 0 28)) + v1_12))) → (∀ x10 : Int32, x10 = v1_12 + (1 : Int32) → (w6_laysBack_b12   Q n M9 x10))))))
set_option maxHeartbeats 4000000 in
set_option maxRecDepth 20000 in
theorem t6_laysBack_b12 {B : BX} {E : EX} {a : Nat → Nat} {Q : S0 → Prop} (C : Ok B E cX6_laysBack 2 RX6 0 0) (hR : RetV B E cX6_laysBack 2 (wl 12 a (shM B.2.1 a)) Q) : ∀ (n : Nat) (M : S0) (v1_12 : Int32), w6_laysBack_b12   Q n M v1_12 → V B E 2 (wl 12 a (shM B.2.1 a) M) 12 [(0, .ref (a 0)), (1, .int v1_12)] [] := by
  intro n
  induction n with
  | zero =>
    intro M v1_12  h
    exact h.elim
  | succ n ih =>
    intro M v1_12  h
    rw [w6_laysBack_b12] at h
    refine v_iload_n C 1 dX6_laysBack_12 rfl rfl ?_
    refine v_bipush C dX6_laysBack_13 (v := (24 : Int32)) (by decide) ?_
    refine v_icmp_ge C dX6_laysBack_15 (tgt := 44) (by decide) (fun c => ?_) (fun c => ?_)
    · replace h := h.1 c
      refine v_aload_n C 0 dX6_laysBack_44 rfl rfl ?_
      refine v_aload_n C 0 dX6_laysBack_45 rfl rfl ?_
      refine fX6_6_g_aside C dX6_laysBack_46 ?_
      refine v_bipush C dX6_laysBack_49 (v := (26 : Int32)) (by decide) ?_
      refine v_aload_n C 0 dX6_laysBack_51 rfl rfl ?_
      refine fX6_6_g_asideMany C dX6_laysBack_52 ?_
      refine v_imul C dX6_laysBack_55 ?_
      refine v_bipush C dX6_laysBack_56 (v := (24 : Int32)) (by decide) ?_
      refine v_iadd C dX6_laysBack_58 ?_
      obtain ⟨hi3, h⟩ := h
      refine v_iald (k := 6) C (by decide) rfl hi3 dX6_laysBack_59 ?_
      refine fX6_6_p_hall C dX6_laysBack_60 (fun M4 eM4 => ?_)
      replace h := h M4 eM4
      refine v_aload_n C 0 dX6_laysBack_63 rfl rfl ?_
      refine v_aload_n C 0 dX6_laysBack_64 rfl rfl ?_
      refine fX6_6_g_aside C dX6_laysBack_65 ?_
      refine v_bipush C dX6_laysBack_68 (v := (26 : Int32)) (by decide) ?_
      refine v_aload_n C 0 dX6_laysBack_70 rfl rfl ?_
      refine fX6_6_g_asideMany C dX6_laysBack_71 ?_
      refine v_imul C dX6_laysBack_74 ?_
      refine v_bipush C dX6_laysBack_75 (v := (25 : Int32)) (by decide) ?_
      refine v_iadd C dX6_laysBack_77 ?_
      obtain ⟨hi5, h⟩ := h
      refine v_iald (k := 6) C (by decide) rfl hi5 dX6_laysBack_78 ?_
      refine fX6_6_p_roundNow C dX6_laysBack_79 (fun M6 eM6 => ?_)
      replace h := h M6 eM6
      exact hR _ _ _ h dX6_laysBack_82
    · replace h := h.2 c
      refine v_aload_n C 0 dX6_laysBack_18 rfl rfl ?_
      refine fX6_6_g_rows C dX6_laysBack_19 ?_
      refine v_iload_n C 1 dX6_laysBack_22 rfl rfl ?_
      refine v_aload_n C 0 dX6_laysBack_23 rfl rfl ?_
      refine fX6_6_g_aside C dX6_laysBack_24 ?_
      refine v_bipush C dX6_laysBack_27 (v := (26 : Int32)) (by decide) ?_
      refine v_aload_n C 0 dX6_laysBack_29 rfl rfl ?_
      refine fX6_6_g_asideMany C dX6_laysBack_30 ?_
      refine v_imul C dX6_laysBack_33 ?_
      refine v_iload_n C 1 dX6_laysBack_34 rfl rfl ?_
      refine v_iadd C dX6_laysBack_35 ?_
      obtain ⟨hi7, h⟩ := h
      refine v_iald (k := 6) C (by decide) rfl hi7 dX6_laysBack_36 ?_
      obtain ⟨hi8, h⟩ := h
      refine v_iast (k := 5) C (by decide) (fun _ => rfl) hi8 dX6_laysBack_37 ?_
      obtain ⟨M9, eM9⟩ : ∃ z : S0, z = up M 5 (Int32.toNatClampNeg v1_12) (M 6 (Int32.toNatClampNeg (((26 : Int32) * (M 0 28)) + v1_12))) := ⟨_, rfl⟩
      rw [← eM9]
      replace h := h M9 eM9
      obtain ⟨x10, ex10⟩ : ∃ z : Int32, z = v1_12 + (1 : Int32) := ⟨_, rfl⟩
      replace h := h x10 ex10
      refine v_iinc (v := x10) (lv' := [(1, .int x10), (0, .ref (a 0))]) C 1 dX6_laysBack_38 rfl (by rw [ex10]; rfl) (by decide) rfl ?_
      refine v_goto C dX6_laysBack_41 (tgt := 12) (by decide) ?_
      refine v_sub [1, 0] rfl ?_
      exact ih M9 x10  h
def w6_laysBack (M : S0) (Q : S0 → Prop) : Prop :=
    ∀ M1 : S0, M1 = up M 0 28 ((M 0 28) - (1 : Int32)) → (∃ n2, w6_laysBack_b12   Q n2 M1 (0 : Int32))
set_option maxHeartbeats 4000000 in
set_option maxRecDepth 20000 in
theorem c6_laysBack {B : BX} {a : Nat → Nat} {M : S0} {Q : S0 → Prop} (h : w6_laysBack  M  Q) : KV B (wl 12 a (shM B.2.1 a)) yX6_laysBack cX6_laysBack 2 none 0 0 [.ref (a 0)] M Q := by
  rw [w6_laysBack] at h
  refine KV_of (by decide +kernel) (Nat.le_of_ble_eq_true rfl) (fun E C hR => ?_)
  change V B E 2 (wl 12 a (shM B.2.1 a) M) 0 [(0, .ref (a 0))] []
  change Ok B E cX6_laysBack 2 RX6 0 0 at C
  refine v_aload_n C 0 dX6_laysBack_0 rfl rfl ?_
  refine v_dup C dX6_laysBack_1 rfl ?_
  refine fX6_6_g_asideMany C dX6_laysBack_2 ?_
  refine v_iconst C dX6_laysBack_5 (v := (1 : Int32)) (by decide) ?_
  refine v_isub C dX6_laysBack_6 ?_
  refine fX6_6_p_asideMany C dX6_laysBack_7 (fun M1 eM1 => ?_)
  replace h := h M1 eM1
  refine v_iconst C dX6_laysBack_10 (v := (0 : Int32)) (by decide) ?_
  refine v_istore_n (lv' := [(1, .int (0 : Int32)), (0, .ref (a 0))]) C dX6_laysBack_11 rfl (by decide) rfl ?_
  obtain ⟨n2, h⟩ := h
  refine v_sub [1, 0] rfl ?_
  exact t6_laysBack_b12   C hR  n2 M1 (0 : Int32)  h
def w6_hasBehind (M : S0) (p1 : Int32) (p2 : Int32) (Q : Int32 → S0 → Prop) : Prop :=
    w6_laysAside M (fun M1 => w6_games M1 p1 p2 (fun r3 M2 => w6_hasMany M2 p1 (fun r5 M4 => w6_laysBack M4 (fun M6 => Q r5 M6))))
set_option maxHeartbeats 4000000 in
set_option maxRecDepth 20000 in
theorem c6_hasBehind {B : BX} {a : Nat → Nat} {M : S0} {p1 : Int32} {p2 : Int32} {Q : Int32 → S0 → Prop} (h : w6_hasBehind  M p1 p2 Q) : KI B (wl 12 a (shM B.2.1 a)) yX6_hasBehind cX6_hasBehind 4 (some .int) 72 1663 [.ref (a 0), .int p1, .int p2] M Q := by
  rw [w6_hasBehind] at h
  refine KI_of (by decide +kernel) (Nat.le_of_ble_eq_true rfl) (fun E C hR => ?_)
  change V B E 4 (wl 12 a (shM B.2.1 a) M) 0 [(0, .ref (a 0)), (1, .int p1), (2, .int p2)] []
  change Ok B E cX6_hasBehind 4 RX6 72 1663 at C
  refine v_aload_n C 0 dX6_hasBehind_0 rfl rfl ?_
  refine v_callVv (k := 0) (As := []) (rest := []) C (c6_laysAside  h) eX6_275 (by omega) (by omega) (by decide) rfl rfl rfl rfl (Nat.le_of_ble_eq_true rfl) dX6_hasBehind_1 (fun M1 h => ?_)
  refine v_aload_n C 0 dX6_hasBehind_4 rfl rfl ?_
  refine v_iload_n C 1 dX6_hasBehind_5 rfl rfl ?_
  refine v_iload_n C 2 dX6_hasBehind_6 rfl rfl ?_
  refine v_callVi (k := 0) (As := [.int p1, .int p2]) (rest := []) C (c6_games  h) eX6_278 (by omega) (by omega) (by decide) rfl rfl rfl rfl (Nat.le_of_ble_eq_true rfl) dX6_hasBehind_7 (fun r3 M2 h => ?_)
  refine v_pop C dX6_hasBehind_10 rfl ?_
  refine v_aload_n C 0 dX6_hasBehind_11 rfl rfl ?_
  refine v_iload_n C 1 dX6_hasBehind_12 rfl rfl ?_
  refine v_callVi (k := 0) (As := [.int p1]) (rest := []) C (c6_hasMany  h) eX6_122 (by omega) (by omega) (by decide) rfl rfl rfl rfl (Nat.le_of_ble_eq_true rfl) dX6_hasBehind_13 (fun r5 M4 h => ?_)
  refine v_istore_n (lv' := [(3, .int r5), (0, .ref (a 0)), (1, .int p1), (2, .int p2)]) C dX6_hasBehind_16 rfl (by decide) rfl ?_
  refine v_aload_n C 1 dX6_hasBehind_17 rfl rfl ?_
  refine v_callVv (k := 0) (As := []) (rest := []) C (c6_laysBack  h) eX6_281 (by omega) (by omega) (by decide) rfl rfl rfl rfl (Nat.le_of_ble_eq_true rfl) dX6_hasBehind_18 (fun M6 h => ?_)
  refine v_iload_n C 0 dX6_hasBehind_21 rfl rfl ?_
  exact hR _ _ _ _ h dX6_hasBehind_22
def w6_asks (M : S0) (p1 : Int32) (p2 : Int32) (p3 : Int32) (Q : Int32 → S0 → Prop) : Prop :=
    w6_areTwo M p1 p2 (fun r2 M1 => ((r2 = 0) → (Q (-1000 : Int32) M1)) ∧ ((¬ r2 = 0) → (w6_in M1 (Int32.toInt64 p3) (0 : Int64) (5 : Int64) (fun r4 M3 => ((¬ r4 = 0) → ((((2 : Int32) ≤ p3) → ((((5 : Int32) ≤ p3) → (w6_hasBehind M3 p1 p2 (fun r6 M5 => Q r6 M5))) ∧ ((¬ (5 : Int32) ≤ p3) → (((¬ p3 = (4 : Int32)) → (((¬ p3 = (2 : Int32)) → (w6_tiresOf M3 p1 p2 (0 : Int32) (fun r8 M7 => Q r8 M7))) ∧ ((p3 = (2 : Int32)) → (w6_tiresOf M3 p1 p2 (1 : Int32) (fun r10 M9 => Q r10 M9))))) ∧ ((p3 = (4 : Int32)) → (w6_winnerOf M3 p1 p2 (fun r12 M11 => Q r12 M11))))))) ∧ ((¬ (2 : Int32) ≤ p3) → (((¬ p3 = 0) → (w6_powerOf M3 p2 p1 (fun r14 M13 => Q r14 M13))) ∧ ((p3 = 0) → (w6_powerOf M3 p1 p2 (fun r16 M15 => Q r16 M15))))))) ∧ ((r4 = 0) → (Q (-1000 : Int32) M3))))))
set_option maxHeartbeats 4000000 in
set_option maxRecDepth 20000 in
theorem c6_asks {B : BX} {a : Nat → Nat} {M : S0} {p1 : Int32} {p2 : Int32} {p3 : Int32} {Q : Int32 → S0 → Prop} (h : w6_asks  M p1 p2 p3 Q) : KI B (wl 12 a (shM B.2.1 a)) yX6_asks cX6_asks 4 (some .int) 73 1686 [.ref (a 0), .int p1, .int p2, .int p3] M Q := by
  rw [w6_asks] at h
  refine KI_of (by decide +kernel) (Nat.le_of_ble_eq_true rfl) (fun E C hR => ?_)
  change V B E 4 (wl 12 a (shM B.2.1 a) M) 0 [(0, .ref (a 0)), (1, .int p1), (2, .int p2), (3, .int p3)] []
  change Ok B E cX6_asks 4 RX6 73 1686 at C
  refine v_aload_n C 0 dX6_asks_0 rfl rfl ?_
  refine v_iload_n C 1 dX6_asks_1 rfl rfl ?_
  refine v_iload_n C 2 dX6_asks_2 rfl rfl ?_
  refine v_callVi (k := 0) (As := [.int p1, .int p2]) (rest := []) C (c6_areTwo  h) eX6_269 (by omega) (by omega) (by decide) rfl rfl rfl rfl (Nat.le_of_ble_eq_true rfl) dX6_asks_3 (fun r2 M1 h => ?_)
  refine v_if_eq C dX6_asks_6 (tgt := 21) (by decide) (fun c => ?_) (fun c => ?_)
  · replace h := h.1 c
    refine v_sipush C dX6_asks_21 (v := (-1000 : Int32)) (by decide) ?_
    exact hR _ _ _ _ h dX6_asks_24
  · replace h := h.2 c
    refine v_iload_n C 3 dX6_asks_9 rfl rfl ?_
    refine v_i2l C dX6_asks_10 ?_
    refine v_lconst C dX6_asks_11 (v := (0 : Int64)) (by decide) ?_
    refine v_ldc2 C (v := (5 : Int64)) (gdm 971 (by decide +kernel) (by decide +kernel)) dX6_asks_12 ?_
    refine v_callSi (As := [.long (Int32.toInt64 p3), .long (0 : Int64), .long (5 : Int64)]) (rest := []) C (c6_in  h) eX6_64 (by omega) (by omega) rfl rfl (Nat.le_of_ble_eq_true rfl) dX6_asks_15 (fun r4 M3 h => ?_)
    refine v_if_ne C dX6_asks_18 (tgt := 25) (by decide) (fun c => ?_) (fun c => ?_)
    · replace h := h.1 c
      refine v_iload_n C 3 dX6_asks_25 rfl rfl ?_
      refine v_iconst C dX6_asks_26 (v := (2 : Int32)) (by decide) ?_
      refine v_icmp_ge C dX6_asks_27 (tgt := 50) (by decide) (fun c => ?_) (fun c => ?_)
      · replace h := h.1 c
        refine v_iload_n C 3 dX6_asks_50 rfl rfl ?_
        refine v_iconst C dX6_asks_51 (v := (5 : Int32)) (by decide) ?_
        refine v_icmp_ge C dX6_asks_52 (tgt := 86) (by decide) (fun c => ?_) (fun c => ?_)
        · replace h := h.1 c
          refine v_aload_n C 0 dX6_asks_86 rfl rfl ?_
          refine v_iload_n C 1 dX6_asks_87 rfl rfl ?_
          refine v_iload_n C 2 dX6_asks_88 rfl rfl ?_
          refine v_callVi (k := 0) (As := [.int p1, .int p2]) (rest := []) C (c6_hasBehind  h) eX6_272 (by omega) (by omega) (by decide) rfl rfl rfl rfl (Nat.le_of_ble_eq_true rfl) dX6_asks_89 (fun r6 M5 h => ?_)
          exact hR _ _ _ _ h dX6_asks_92
        · replace h := h.2 c
          refine v_iload_n C 3 dX6_asks_55 rfl rfl ?_
          refine v_iconst C dX6_asks_56 (v := (4 : Int32)) (by decide) ?_
          refine v_icmp_ne C dX6_asks_57 (tgt := 69) (by decide) (fun c => ?_) (fun c => ?_)
          · replace h := h.1 c
            refine v_aload_n C 0 dX6_asks_69 rfl rfl ?_
            refine v_iload_n C 1 dX6_asks_70 rfl rfl ?_
            refine v_iload_n C 2 dX6_asks_71 rfl rfl ?_
            refine v_iload_n C 3 dX6_asks_72 rfl rfl ?_
            refine v_iconst C dX6_asks_73 (v := (2 : Int32)) (by decide) ?_
            refine v_icmp_ne C dX6_asks_74 (tgt := 81) (by decide) (fun c => ?_) (fun c => ?_)
            · replace h := h.1 c
              refine v_iconst C dX6_asks_81 (v := (0 : Int32)) (by decide) ?_
              refine v_callVi (k := 0) (As := [.int p1, .int p2, .int (0 : Int32)]) (rest := []) C (c6_tiresOf  h) eX6_262 (by omega) (by omega) (by decide) rfl rfl rfl rfl (Nat.le_of_ble_eq_true rfl) dX6_asks_82 (fun r8 M7 h => ?_)
              exact hR _ _ _ _ h dX6_asks_85
            · replace h := h.2 c
              refine v_iconst C dX6_asks_77 (v := (1 : Int32)) (by decide) ?_
              refine v_goto C dX6_asks_78 (tgt := 82) (by decide) ?_
              refine v_callVi (k := 0) (As := [.int p1, .int p2, .int (1 : Int32)]) (rest := []) C (c6_tiresOf  h) eX6_262 (by omega) (by omega) (by decide) rfl rfl rfl rfl (Nat.le_of_ble_eq_true rfl) dX6_asks_82 (fun r10 M9 h => ?_)
              exact hR _ _ _ _ h dX6_asks_85
          · replace h := h.2 c
            refine v_aload_n C 0 dX6_asks_60 rfl rfl ?_
            refine v_iload_n C 1 dX6_asks_61 rfl rfl ?_
            refine v_iload_n C 2 dX6_asks_62 rfl rfl ?_
            refine v_callVi (k := 0) (As := [.int p1, .int p2]) (rest := []) C (c6_winnerOf  h) eX6_259 (by omega) (by omega) (by decide) rfl rfl rfl rfl (Nat.le_of_ble_eq_true rfl) dX6_asks_63 (fun r12 M11 h => ?_)
            refine v_goto C dX6_asks_66 (tgt := 85) (by decide) ?_
            exact hR _ _ _ _ h dX6_asks_85
      · replace h := h.2 c
        refine v_iload_n C 3 dX6_asks_30 rfl rfl ?_
        refine v_if_ne C dX6_asks_31 (tgt := 43) (by decide) (fun c => ?_) (fun c => ?_)
        · replace h := h.1 c
          refine v_aload_n C 0 dX6_asks_43 rfl rfl ?_
          refine v_iload_n C 2 dX6_asks_44 rfl rfl ?_
          refine v_iload_n C 1 dX6_asks_45 rfl rfl ?_
          refine v_callVi (k := 0) (As := [.int p2, .int p1]) (rest := []) C (c6_powerOf  h) eX6_256 (by omega) (by omega) (by decide) rfl rfl rfl rfl (Nat.le_of_ble_eq_true rfl) dX6_asks_46 (fun r14 M13 h => ?_)
          exact hR _ _ _ _ h dX6_asks_49
        · replace h := h.2 c
          refine v_aload_n C 0 dX6_asks_34 rfl rfl ?_
          refine v_iload_n C 1 dX6_asks_35 rfl rfl ?_
          refine v_iload_n C 2 dX6_asks_36 rfl rfl ?_
          refine v_callVi (k := 0) (As := [.int p1, .int p2]) (rest := []) C (c6_powerOf  h) eX6_256 (by omega) (by omega) (by decide) rfl rfl rfl rfl (Nat.le_of_ble_eq_true rfl) dX6_asks_37 (fun r16 M15 h => ?_)
          refine v_goto C dX6_asks_40 (tgt := 49) (by decide) ?_
          exact hR _ _ _ _ h dX6_asks_49
    · replace h := h.2 c
      refine v_sipush C dX6_asks_21 (v := (-1000 : Int32)) (by decide) ?_
      exact hR _ _ _ _ h dX6_asks_24
def w6_game (M : S0) (p1 : Int32) (p2 : Int32) (Q : Int32 → S0 → Prop) : Prop :=
    w6_areTwo M p1 p2 (fun r2 M1 => ((¬ r2 = 0) → (((¬ (M1 0 7) = (999 : Int32)) → (w6_games M1 p1 p2 (fun r4 M3 => Q r4 M3))) ∧ (((M1 0 7) = (999 : Int32)) → (Q (-3 : Int32) M1)))) ∧ ((r2 = 0) → (Q (-2 : Int32) M1)))
set_option maxHeartbeats 4000000 in
set_option maxRecDepth 20000 in
theorem c6_game {B : BX} {a : Nat → Nat} {M : S0} {p1 : Int32} {p2 : Int32} {Q : Int32 → S0 → Prop} (h : w6_game  M p1 p2 Q) : KI B (wl 12 a (shM B.2.1 a)) yX6_game cX6_game 3 (some .int) 72 1663 [.ref (a 0), .int p1, .int p2] M Q := by
  rw [w6_game] at h
  refine KI_of (by decide +kernel) (Nat.le_of_ble_eq_true rfl) (fun E C hR => ?_)
  change V B E 3 (wl 12 a (shM B.2.1 a) M) 0 [(0, .ref (a 0)), (1, .int p1), (2, .int p2)] []
  change Ok B E cX6_game 3 RX6 72 1663 at C
  refine v_aload_n C 0 dX6_game_0 rfl rfl ?_
  refine v_iload_n C 1 dX6_game_1 rfl rfl ?_
  refine v_iload_n C 2 dX6_game_2 rfl rfl ?_
  refine v_callVi (k := 0) (As := [.int p1, .int p2]) (rest := []) C (c6_areTwo  h) eX6_269 (by omega) (by omega) (by decide) rfl rfl rfl rfl (Nat.le_of_ble_eq_true rfl) dX6_game_3 (fun r2 M1 h => ?_)
  refine v_if_ne C dX6_game_6 (tgt := 12) (by decide) (fun c => ?_) (fun c => ?_)
  · replace h := h.1 c
    refine v_aload_n C 0 dX6_game_12 rfl rfl ?_
    refine fX6_6_g_roundNow C dX6_game_13 ?_
    refine v_sipush C dX6_game_16 (v := (999 : Int32)) (by decide) ?_
    refine v_icmp_ne C dX6_game_19 (tgt := 27) (by decide) (fun c => ?_) (fun c => ?_)
    · replace h := h.1 c
      refine v_aload_n C 0 dX6_game_27 rfl rfl ?_
      refine v_iload_n C 1 dX6_game_28 rfl rfl ?_
      refine v_iload_n C 2 dX6_game_29 rfl rfl ?_
      refine v_callVi (k := 0) (As := [.int p1, .int p2]) (rest := []) C (c6_games  h) eX6_278 (by omega) (by omega) (by decide) rfl rfl rfl rfl (Nat.le_of_ble_eq_true rfl) dX6_game_30 (fun r4 M3 h => ?_)
      exact hR _ _ _ _ h dX6_game_33
    · replace h := h.2 c
      refine v_bipush C dX6_game_22 (v := (-3 : Int32)) (by decide) ?_
      refine v_goto C dX6_game_24 (tgt := 33) (by decide) ?_
      exact hR _ _ _ _ h dX6_game_33
  · replace h := h.2 c
    refine v_bipush C dX6_game_9 (v := (-2 : Int32)) (by decide) ?_
    exact hR _ _ _ _ h dX6_game_11
def w6_eveningBad_b14 (Q : Int32 → S0 → Prop) : Nat → S0 → Int32 → Int32 → Prop
  | 0, _, _, _ => False
  | n + 1, M, v1_14, v2_14 =>
    (vp_in v1_14 4) ∧ ((((M 10 (Int32.toNatClampNeg v1_14)) ≤ v2_14) → (Q (0 : Int32) M)) ∧ ((¬ (M 10 (Int32.toNatClampNeg v1_14)) ≤ v2_14) → ((vp_in (((40 : Int32) * v1_14) + v2_14) 160) ∧ (∀ x5 : Int32, x5 = (M 11 (Int32.toNatClampNeg (((40 : Int32) * v1_14) + v2_14))) → (w6_in M (Int32.toInt64 x5) (0 : Int64) (55 : Int64) (fun r7 M6 => ((r7 = 0) → (Q (-2 : Int32) M6)) ∧ ((¬ r7 = 0) → (w6_areTwo M6 (x5 / (10 : Int32)) (x5 - x5 / (10 : Int32) * (10 : Int32)) (fun r9 M8 => ((¬ r9 = 0) → (∀ x10 : Int32, x10 = v2_14 + (1 : Int32) → (w6_eveningBad_b14   Q n M8 v1_14 x10))) ∧ ((r9 = 0) → (Q (-2 : Int32) M8)))))))))))
set_option maxHeartbeats 4000000 in
set_option maxRecDepth 20000 in
theorem t6_eveningBad_b14 {B : BX} {E : EX} {a : Nat → Nat} {Q : Int32 → S0 → Prop} (C : Ok B E cX6_eveningBad 4 RX6 3 68) (hR : RetI B E cX6_eveningBad 4 (wl 12 a (shM B.2.1 a)) Q) : ∀ (n : Nat) (M : S0) (v1_14 : Int32) (v2_14 : Int32), w6_eveningBad_b14   Q n M v1_14 v2_14 → V B E 4 (wl 12 a (shM B.2.1 a) M) 14 [(0, .ref (a 0)), (1, .int v1_14), (2, .int v2_14)] [] := by
  intro n
  induction n with
  | zero =>
    intro M v1_14 v2_14  h
    exact h.elim
  | succ n ih =>
    intro M v1_14 v2_14  h
    rw [w6_eveningBad_b14] at h
    refine v_iload_n C 2 dX6_eveningBad_14 rfl rfl ?_
    refine v_aload_n C 0 dX6_eveningBad_15 rfl rfl ?_
    refine fX6_6_g_sheetSize C dX6_eveningBad_16 ?_
    refine v_iload_n C 1 dX6_eveningBad_19 rfl rfl ?_
    obtain ⟨hi3, h⟩ := h
    refine v_iald (k := 10) C (by decide) rfl hi3 dX6_eveningBad_20 ?_
    refine v_icmp_ge C dX6_eveningBad_21 (tgt := 72) (by decide) (fun c => ?_) (fun c => ?_)
    · replace h := h.1 c
      refine v_iconst C dX6_eveningBad_72 (v := (0 : Int32)) (by decide) ?_
      exact hR _ _ _ _ h dX6_eveningBad_73
    · replace h := h.2 c
      refine v_aload_n C 0 dX6_eveningBad_24 rfl rfl ?_
      refine fX6_6_g_items C dX6_eveningBad_25 ?_
      refine v_bipush C dX6_eveningBad_28 (v := (40 : Int32)) (by decide) ?_
      refine v_iload_n C 1 dX6_eveningBad_30 rfl rfl ?_
      refine v_imul C dX6_eveningBad_31 ?_
      refine v_iload_n C 2 dX6_eveningBad_32 rfl rfl ?_
      refine v_iadd C dX6_eveningBad_33 ?_
      obtain ⟨hi4, h⟩ := h
      refine v_iald (k := 11) C (by decide) rfl hi4 dX6_eveningBad_34 ?_
      refine v_nmi (fun x5 ex5 => ?_)
      replace h := h x5 ex5
      refine v_istore_n (lv' := [(3, .int x5), (0, .ref (a 0)), (1, .int v1_14), (2, .int v2_14)]) C dX6_eveningBad_35 rfl (by decide) rfl ?_
      refine v_iload_n C 0 dX6_eveningBad_36 rfl rfl ?_
      refine v_i2l C dX6_eveningBad_37 ?_
      refine v_lconst C dX6_eveningBad_38 (v := (0 : Int64)) (by decide) ?_
      refine v_ldc2 C (v := (55 : Int64)) (gdm 1124 (by decide +kernel) (by decide +kernel)) dX6_eveningBad_39 ?_
      refine v_callSi (As := [.long (Int32.toInt64 x5), .long (0 : Int64), .long (55 : Int64)]) (rest := []) C (c6_in  h) eX6_64 (by omega) (by omega) rfl rfl (Nat.le_of_ble_eq_true rfl) dX6_eveningBad_42 (fun r7 M6 h => ?_)
      refine v_if_eq C dX6_eveningBad_45 (tgt := 63) (by decide) (fun c => ?_) (fun c => ?_)
      · replace h := h.1 c
        refine v_bipush C dX6_eveningBad_63 (v := (-2 : Int32)) (by decide) ?_
        exact hR _ _ _ _ h dX6_eveningBad_65
      · replace h := h.2 c
        refine v_aload_n C 1 dX6_eveningBad_48 rfl rfl ?_
        refine v_iload_n C 0 dX6_eveningBad_49 rfl rfl ?_
        refine v_bipush C dX6_eveningBad_50 (v := (10 : Int32)) (by decide) ?_
        refine v_idiv C dX6_eveningBad_52 (by decide) ?_
        refine v_iload_n C 0 dX6_eveningBad_53 rfl rfl ?_
        refine v_bipush C dX6_eveningBad_54 (v := (10 : Int32)) (by decide) ?_
        refine v_irem C dX6_eveningBad_56 (by decide) ?_
        refine v_callVi (k := 0) (As := [.int (x5 / (10 : Int32)), .int (x5 - x5 / (10 : Int32) * (10 : Int32))]) (rest := []) C (c6_areTwo  h) eX6_269 (by omega) (by omega) (by decide) rfl rfl rfl rfl (Nat.le_of_ble_eq_true rfl) dX6_eveningBad_57 (fun r9 M8 h => ?_)
        refine v_if_ne C dX6_eveningBad_60 (tgt := 66) (by decide) (fun c => ?_) (fun c => ?_)
        · replace h := h.1 c
          obtain ⟨x10, ex10⟩ : ∃ z : Int32, z = v2_14 + (1 : Int32) := ⟨_, rfl⟩
          replace h := h x10 ex10
          refine v_iinc (v := x10) (lv' := [(2, .int x10), (3, .int x5), (0, .ref (a 0)), (1, .int v1_14)]) C 3 dX6_eveningBad_66 rfl (by rw [ex10]; rfl) (by decide) rfl ?_
          refine v_goto C dX6_eveningBad_69 (tgt := 14) (by decide) ?_
          refine v_sub [2, 3, 0] rfl ?_
          exact ih M8 v1_14 x10  h
        · replace h := h.2 c
          refine v_bipush C dX6_eveningBad_63 (v := (-2 : Int32)) (by decide) ?_
          exact hR _ _ _ _ h dX6_eveningBad_65
def w6_eveningBad (M : S0) (p1 : Int32) (Q : Int32 → S0 → Prop) : Prop :=
    (vp_in p1 4) ∧ (((¬ (M 8 (Int32.toNatClampNeg p1)) = 0) → (∃ n2, w6_eveningBad_b14   Q n2 M p1 (0 : Int32))) ∧ (((M 8 (Int32.toNatClampNeg p1)) = 0) → (Q (-11 : Int32) M)))
set_option maxHeartbeats 4000000 in
set_option maxRecDepth 20000 in
theorem c6_eveningBad {B : BX} {a : Nat → Nat} {M : S0} {p1 : Int32} {Q : Int32 → S0 → Prop} (h : w6_eveningBad  M p1 Q) : KI B (wl 12 a (shM B.2.1 a)) yX6_eveningBad cX6_eveningBad 4 (some .int) 3 68 [.ref (a 0), .int p1] M Q := by
  rw [w6_eveningBad] at h
  refine KI_of (by decide +kernel) (Nat.le_of_ble_eq_true rfl) (fun E C hR => ?_)
  change V B E 4 (wl 12 a (shM B.2.1 a) M) 0 [(0, .ref (a 0)), (1, .int p1)] []
  change Ok B E cX6_eveningBad 4 RX6 3 68 at C
  refine v_aload_n C 0 dX6_eveningBad_0 rfl rfl ?_
  refine fX6_6_g_isThere C dX6_eveningBad_1 ?_
  refine v_iload_n C 1 dX6_eveningBad_4 rfl rfl ?_
  obtain ⟨hi1, h⟩ := h
  refine v_zald (k := 8) C (by decide) rfl hi1 dX6_eveningBad_5 ?_
  refine v_if_ne C dX6_eveningBad_6 (tgt := 12) (by decide) (fun c => ?_) (fun c => ?_)
  · replace h := h.1 c
    refine v_iconst C dX6_eveningBad_12 (v := (0 : Int32)) (by decide) ?_
    refine v_istore_n (lv' := [(2, .int (0 : Int32)), (0, .ref (a 0)), (1, .int p1)]) C dX6_eveningBad_13 rfl (by decide) rfl ?_
    obtain ⟨n2, h⟩ := h
    refine v_sub [1, 2, 0] rfl ?_
    exact t6_eveningBad_b14   C hR  n2 M p1 (0 : Int32)  h
  · replace h := h.2 c
    refine v_bipush C dX6_eveningBad_9 (v := (-11 : Int32)) (by decide) ?_
    exact hR _ _ _ _ h dX6_eveningBad_11
def w6_goes_b4 (Q : Int32 → S0 → Prop) : Nat → S0 → Int32 → Int32 → Int32 → Prop
  | 0, _, _, _, _ => False
  | n + 1, M, v1_4, v2_4, v3_4 =>
    (vp_in v1_4 4) ∧ ((((M 10 (Int32.toNatClampNeg v1_4)) ≤ v3_4) → (Q v2_4 M)) ∧ ((¬ (M 10 (Int32.toNatClampNeg v1_4)) ≤ v3_4) → ((vp_in (((40 : Int32) * v1_4) + v3_4) 160) ∧ (∀ x4 : Int32, x4 = (M 11 (Int32.toNatClampNeg (((40 : Int32) * v1_4) + v3_4))) → (w6_games M (x4 / (10 : Int32)) (x4 - x4 / (10 : Int32) * (10 : Int32)) (fun r6 M5 => ((¬ r6 = (-1 : Int32)) → (∀ x7 : Int32, x7 = (v2_4 + (0 : Int32)) → (∀ x8 : Int32, x8 = v3_4 + (1 : Int32) → (w6_goes_b4   Q n M5 v1_4 x7 x8)))) ∧ ((r6 = (-1 : Int32)) → (∀ x9 : Int32, x9 = (v2_4 + (1 : Int32)) → (∀ x10 : Int32, x10 = v3_4 + (1 : Int32) → (w6_goes_b4   Q n M5 v1_4 x9 x10))))))))))
set_option maxHeartbeats 4000000 in
set_option maxRecDepth 20000 in
theorem t6_goes_b4 {B : BX} {E : EX} {a : Nat → Nat} {Q : Int32 → S0 → Prop} (C : Ok B E cX6_goes 5 RX6 72 1663) (hR : RetI B E cX6_goes 5 (wl 12 a (shM B.2.1 a)) Q) : ∀ (n : Nat) (M : S0) (v1_4 : Int32) (v2_4 : Int32) (v3_4 : Int32), w6_goes_b4   Q n M v1_4 v2_4 v3_4 → V B E 5 (wl 12 a (shM B.2.1 a) M) 4 [(0, .ref (a 0)), (1, .int v1_4), (2, .int v2_4), (3, .int v3_4)] [] := by
  intro n
  induction n with
  | zero =>
    intro M v1_4 v2_4 v3_4  h
    exact h.elim
  | succ n ih =>
    intro M v1_4 v2_4 v3_4  h
    rw [w6_goes_b4] at h
    refine v_iload_n C 3 dX6_goes_4 rfl rfl ?_
    refine v_aload_n C 0 dX6_goes_5 rfl rfl ?_
    refine fX6_6_g_sheetSize C dX6_goes_6 ?_
    refine v_iload_n C 1 dX6_goes_9 rfl rfl ?_
    obtain ⟨hi2, h⟩ := h
    refine v_iald (k := 10) C (by decide) rfl hi2 dX6_goes_10 ?_
    refine v_icmp_ge C dX6_goes_11 (tgt := 59) (by decide) (fun c => ?_) (fun c => ?_)
    · replace h := h.1 c
      refine v_iload_n C 2 dX6_goes_59 rfl rfl ?_
      exact hR _ _ _ _ h dX6_goes_60
    · replace h := h.2 c
      refine v_aload_n C 0 dX6_goes_14 rfl rfl ?_
      refine fX6_6_g_items C dX6_goes_15 ?_
      refine v_bipush C dX6_goes_18 (v := (40 : Int32)) (by decide) ?_
      refine v_iload_n C 1 dX6_goes_20 rfl rfl ?_
      refine v_imul C dX6_goes_21 ?_
      refine v_iload_n C 3 dX6_goes_22 rfl rfl ?_
      refine v_iadd C dX6_goes_23 ?_
      obtain ⟨hi3, h⟩ := h
      refine v_iald (k := 11) C (by decide) rfl hi3 dX6_goes_24 ?_
      refine v_nmi (fun x4 ex4 => ?_)
      replace h := h x4 ex4
      refine v_istore (lv' := [(4, .int x4), (0, .ref (a 0)), (1, .int v1_4), (2, .int v2_4), (3, .int v3_4)]) C dX6_goes_25 (by decide) rfl ?_
      refine v_iload_n C 3 dX6_goes_27 rfl rfl ?_
      refine v_aload_n C 1 dX6_goes_28 rfl rfl ?_
      refine v_iload C 0 dX6_goes_29 rfl ?_
      refine v_bipush C dX6_goes_31 (v := (10 : Int32)) (by decide) ?_
      refine v_idiv C dX6_goes_33 (by decide) ?_
      refine v_iload C 0 dX6_goes_34 rfl ?_
      refine v_bipush C dX6_goes_36 (v := (10 : Int32)) (by decide) ?_
      refine v_irem C dX6_goes_38 (by decide) ?_
      refine v_callVi (k := 0) (As := [.int (x4 / (10 : Int32)), .int (x4 - x4 / (10 : Int32) * (10 : Int32))]) (rest := [.int v2_4]) C (c6_games  h) eX6_278 (by omega) (by omega) (by decide) rfl rfl rfl rfl (Nat.le_of_ble_eq_true rfl) dX6_goes_39 (fun r6 M5 h => ?_)
      refine v_iconst C dX6_goes_42 (v := (-1 : Int32)) (by decide) ?_
      refine v_icmp_ne C dX6_goes_43 (tgt := 50) (by decide) (fun c => ?_) (fun c => ?_)
      · replace h := h.1 c
        refine v_iconst C dX6_goes_50 (v := (0 : Int32)) (by decide) ?_
        refine v_iadd C dX6_goes_51 ?_
        refine v_nmi (fun x7 ex7 => ?_)
        replace h := h x7 ex7
        refine v_istore_n (lv' := [(2, .int x7), (4, .int x4), (0, .ref (a 0)), (1, .int v1_4), (3, .int v3_4)]) C dX6_goes_52 rfl (by decide) rfl ?_
        obtain ⟨x8, ex8⟩ : ∃ z : Int32, z = v3_4 + (1 : Int32) := ⟨_, rfl⟩
        replace h := h x8 ex8
        refine v_iinc (v := x8) (lv' := [(3, .int x8), (2, .int x7), (4, .int x4), (0, .ref (a 0)), (1, .int v1_4)]) C 4 dX6_goes_53 rfl (by rw [ex8]; rfl) (by decide) rfl ?_
        refine v_goto C dX6_goes_56 (tgt := 4) (by decide) ?_
        refine v_sub [3, 4, 1, 0] rfl ?_
        exact ih M5 v1_4 x7 x8  h
      · replace h := h.2 c
        refine v_iconst C dX6_goes_46 (v := (1 : Int32)) (by decide) ?_
        refine v_goto C dX6_goes_47 (tgt := 51) (by decide) ?_
        refine v_iadd C dX6_goes_51 ?_
        refine v_nmi (fun x9 ex9 => ?_)
        replace h := h x9 ex9
        refine v_istore_n (lv' := [(2, .int x9), (4, .int x4), (0, .ref (a 0)), (1, .int v1_4), (3, .int v3_4)]) C dX6_goes_52 rfl (by decide) rfl ?_
        obtain ⟨x10, ex10⟩ : ∃ z : Int32, z = v3_4 + (1 : Int32) := ⟨_, rfl⟩
        replace h := h x10 ex10
        refine v_iinc (v := x10) (lv' := [(3, .int x10), (2, .int x9), (4, .int x4), (0, .ref (a 0)), (1, .int v1_4)]) C 4 dX6_goes_53 rfl (by rw [ex10]; rfl) (by decide) rfl ?_
        refine v_goto C dX6_goes_56 (tgt := 4) (by decide) ?_
        refine v_sub [3, 4, 1, 0] rfl ?_
        exact ih M5 v1_4 x9 x10  h
def w6_goes (M : S0) (p1 : Int32) (Q : Int32 → S0 → Prop) : Prop :=
    ∃ n1, w6_goes_b4   Q n1 M p1 (0 : Int32) (0 : Int32)
set_option maxHeartbeats 4000000 in
set_option maxRecDepth 20000 in
theorem c6_goes {B : BX} {a : Nat → Nat} {M : S0} {p1 : Int32} {Q : Int32 → S0 → Prop} (h : w6_goes  M p1 Q) : KI B (wl 12 a (shM B.2.1 a)) yX6_goes cX6_goes 5 (some .int) 72 1663 [.ref (a 0), .int p1] M Q := by
  rw [w6_goes] at h
  refine KI_of (by decide +kernel) (Nat.le_of_ble_eq_true rfl) (fun E C hR => ?_)
  change V B E 5 (wl 12 a (shM B.2.1 a) M) 0 [(0, .ref (a 0)), (1, .int p1)] []
  change Ok B E cX6_goes 5 RX6 72 1663 at C
  refine v_iconst C dX6_goes_0 (v := (0 : Int32)) (by decide) ?_
  refine v_istore_n (lv' := [(2, .int (0 : Int32)), (0, .ref (a 0)), (1, .int p1)]) C dX6_goes_1 rfl (by decide) rfl ?_
  refine v_iconst C dX6_goes_2 (v := (0 : Int32)) (by decide) ?_
  refine v_istore_n (lv' := [(3, .int (0 : Int32)), (2, .int (0 : Int32)), (0, .ref (a 0)), (1, .int p1)]) C dX6_goes_3 rfl (by decide) rfl ?_
  obtain ⟨n1, h⟩ := h
  refine v_sub [2, 3, 1, 0] rfl ?_
  exact t6_goes_b4   C hR  n1 M p1 (0 : Int32) (0 : Int32)  h
def w6_richest_b4 (Q : Int32 → S0 → Prop) : Nat → S0 → Int32 → Int32 → Prop
  | 0, _, _, _ => False
  | n + 1, M, v1_4, v2_4 =>
    (((M 0 11) ≤ v2_4) → (Q v1_4 M)) ∧ ((¬ (M 0 11) ≤ v2_4) → (w6_has M v2_4 (fun r3 M2 => ((r3 = 0) → (∀ x4 : Int32, x4 = v2_4 + (1 : Int32) → (w6_richest_b4   Q n M2 v1_4 x4))) ∧ ((¬ r3 = 0) → (((v1_4 = (-1 : Int32)) → (∀ x5 : Int32, x5 = v2_4 + (1 : Int32) → (w6_richest_b4   Q n M2 v2_4 x5))) ∧ ((¬ v1_4 = (-1 : Int32)) → (w6_hasMany M2 v2_4 (fun r7 M6 => w6_hasMany M6 v1_4 (fun r9 M8 => ((r7 ≤ r9) → (∀ x10 : Int32, x10 = v2_4 + (1 : Int32) → (w6_richest_b4   Q n M8 v1_4 x10))) ∧ ((¬ r7 ≤ r9) → (∀ x11 : Int32, x11 = v2_4 + (1 : Int32) → (w6_richest_b4   Q n M8 v2_4 x11))))))))))))
set_option maxHeartbeats 4000000 in
set_option maxRecDepth 20000 in
theorem t6_richest_b4 {B : BX} {E : EX} {a : Nat → Nat} {Q : Int32 → S0 → Prop} (C : Ok B E cX6_richest 3 RX6 2 43) (hR : RetI B E cX6_richest 3 (wl 12 a (shM B.2.1 a)) Q) : ∀ (n : Nat) (M : S0) (v1_4 : Int32) (v2_4 : Int32), w6_richest_b4   Q n M v1_4 v2_4 → V B E 3 (wl 12 a (shM B.2.1 a) M) 4 [(0, .ref (a 0)), (1, .int v1_4), (2, .int v2_4)] [] := by
  intro n
  induction n with
  | zero =>
    intro M v1_4 v2_4  h
    exact h.elim
  | succ n ih =>
    intro M v1_4 v2_4  h
    rw [w6_richest_b4] at h
    refine v_iload_n C 2 dX6_richest_4 rfl rfl ?_
    refine v_aload_n C 0 dX6_richest_5 rfl rfl ?_
    refine fX6_6_g_many C dX6_richest_6 ?_
    refine v_icmp_ge C dX6_richest_9 (tgt := 46) (by decide) (fun c => ?_) (fun c => ?_)
    · replace h := h.1 c
      refine v_iload_n C 1 dX6_richest_46 rfl rfl ?_
      exact hR _ _ _ _ h dX6_richest_47
    · replace h := h.2 c
      refine v_aload_n C 0 dX6_richest_12 rfl rfl ?_
      refine v_iload_n C 2 dX6_richest_13 rfl rfl ?_
      refine v_callVi (k := 0) (As := [.int v2_4]) (rest := []) C (c6_has  h) eX6_112 (by omega) (by omega) (by decide) rfl rfl rfl rfl (Nat.le_of_ble_eq_true rfl) dX6_richest_14 (fun r3 M2 h => ?_)
      refine v_if_eq C dX6_richest_17 (tgt := 40) (by decide) (fun c => ?_) (fun c => ?_)
      · replace h := h.1 c
        obtain ⟨x4, ex4⟩ : ∃ z : Int32, z = v2_4 + (1 : Int32) := ⟨_, rfl⟩
        replace h := h x4 ex4
        refine v_iinc (v := x4) (lv' := [(2, .int x4), (0, .ref (a 0)), (1, .int v1_4)]) C 2 dX6_richest_40 rfl (by rw [ex4]; rfl) (by decide) rfl ?_
        refine v_goto C dX6_richest_43 (tgt := 4) (by decide) ?_
        refine v_sub [1, 2, 0] rfl ?_
        exact ih M2 v1_4 x4  h
      · replace h := h.2 c
        refine v_iload_n C 1 dX6_richest_20 rfl rfl ?_
        refine v_iconst C dX6_richest_21 (v := (-1 : Int32)) (by decide) ?_
        refine v_icmp_eq C dX6_richest_22 (tgt := 38) (by decide) (fun c => ?_) (fun c => ?_)
        · replace h := h.1 c
          refine v_iload_n C 2 dX6_richest_38 rfl rfl ?_
          refine v_istore_n (lv' := [(1, .int v2_4), (0, .ref (a 0)), (2, .int v2_4)]) C dX6_richest_39 rfl (by decide) rfl ?_
          obtain ⟨x5, ex5⟩ : ∃ z : Int32, z = v2_4 + (1 : Int32) := ⟨_, rfl⟩
          replace h := h x5 ex5
          refine v_iinc (v := x5) (lv' := [(2, .int x5), (1, .int v2_4), (0, .ref (a 0))]) C 2 dX6_richest_40 rfl (by rw [ex5]; rfl) (by decide) rfl ?_
          refine v_goto C dX6_richest_43 (tgt := 4) (by decide) ?_
          refine v_sub [2, 1, 0] rfl ?_
          exact ih M2 v2_4 x5  h
        · replace h := h.2 c
          refine v_aload_n C 0 dX6_richest_25 rfl rfl ?_
          refine v_iload_n C 2 dX6_richest_26 rfl rfl ?_
          refine v_callVi (k := 0) (As := [.int v2_4]) (rest := []) C (c6_hasMany  h) eX6_122 (by omega) (by omega) (by decide) rfl rfl rfl rfl (Nat.le_of_ble_eq_true rfl) dX6_richest_27 (fun r7 M6 h => ?_)
          refine v_aload_n C 0 dX6_richest_30 rfl rfl ?_
          refine v_iload_n C 1 dX6_richest_31 rfl rfl ?_
          refine v_callVi (k := 0) (As := [.int v1_4]) (rest := [.int r7]) C (c6_hasMany  h) eX6_122 (by omega) (by omega) (by decide) rfl rfl rfl rfl (Nat.le_of_ble_eq_true rfl) dX6_richest_32 (fun r9 M8 h => ?_)
          refine v_icmp_le C dX6_richest_35 (tgt := 40) (by decide) (fun c => ?_) (fun c => ?_)
          · replace h := h.1 c
            obtain ⟨x10, ex10⟩ : ∃ z : Int32, z = v2_4 + (1 : Int32) := ⟨_, rfl⟩
            replace h := h x10 ex10
            refine v_iinc (v := x10) (lv' := [(2, .int x10), (0, .ref (a 0)), (1, .int v1_4)]) C 2 dX6_richest_40 rfl (by rw [ex10]; rfl) (by decide) rfl ?_
            refine v_goto C dX6_richest_43 (tgt := 4) (by decide) ?_
            refine v_sub [1, 2, 0] rfl ?_
            exact ih M8 v1_4 x10  h
          · replace h := h.2 c
            refine v_iload_n C 2 dX6_richest_38 rfl rfl ?_
            refine v_istore_n (lv' := [(1, .int v2_4), (0, .ref (a 0)), (2, .int v2_4)]) C dX6_richest_39 rfl (by decide) rfl ?_
            obtain ⟨x11, ex11⟩ : ∃ z : Int32, z = v2_4 + (1 : Int32) := ⟨_, rfl⟩
            replace h := h x11 ex11
            refine v_iinc (v := x11) (lv' := [(2, .int x11), (1, .int v2_4), (0, .ref (a 0))]) C 2 dX6_richest_40 rfl (by rw [ex11]; rfl) (by decide) rfl ?_
            refine v_goto C dX6_richest_43 (tgt := 4) (by decide) ?_
            refine v_sub [2, 1, 0] rfl ?_
            exact ih M8 v2_4 x11  h
def w6_richest (M : S0) (Q : Int32 → S0 → Prop) : Prop :=
    ∃ n1, w6_richest_b4   Q n1 M (-1 : Int32) (0 : Int32)
set_option maxHeartbeats 4000000 in
set_option maxRecDepth 20000 in
theorem c6_richest {B : BX} {a : Nat → Nat} {M : S0} {Q : Int32 → S0 → Prop} (h : w6_richest  M  Q) : KI B (wl 12 a (shM B.2.1 a)) yX6_richest cX6_richest 3 (some .int) 2 43 [.ref (a 0)] M Q := by
  rw [w6_richest] at h
  refine KI_of (by decide +kernel) (Nat.le_of_ble_eq_true rfl) (fun E C hR => ?_)
  change V B E 3 (wl 12 a (shM B.2.1 a) M) 0 [(0, .ref (a 0))] []
  change Ok B E cX6_richest 3 RX6 2 43 at C
  refine v_iconst C dX6_richest_0 (v := (-1 : Int32)) (by decide) ?_
  refine v_istore_n (lv' := [(1, .int (-1 : Int32)), (0, .ref (a 0))]) C dX6_richest_1 rfl (by decide) rfl ?_
  refine v_iconst C dX6_richest_2 (v := (0 : Int32)) (by decide) ?_
  refine v_istore_n (lv' := [(2, .int (0 : Int32)), (1, .int (-1 : Int32)), (0, .ref (a 0))]) C dX6_richest_3 rfl (by decide) rfl ?_
  obtain ⟨n1, h⟩ := h
  refine v_sub [2, 1, 0] rfl ?_
  exact t6_richest_b4   C hR  n1 M (-1 : Int32) (0 : Int32)  h
def w6_isSheet (M : S0) (p1 : Int32) (Q : Int32 → S0 → Prop) : Prop :=
    w6_in M (Int32.toInt64 p1) (0 : Int64) (3 : Int64) (fun r2 M1 => (narrow .boolean (.int r2) = .int r2) ∧ (Q r2 M1))
set_option maxHeartbeats 4000000 in
set_option maxRecDepth 20000 in
theorem c6_isSheet {B : BX} {a : Nat → Nat} {M : S0} {p1 : Int32} {Q : Int32 → S0 → Prop} (h : w6_isSheet  M p1 Q) : KI B (wl 12 a (shM B.2.1 a)) yX6_isSheet cX6_isSheet 1 (some .boolean) 1 25 [.int p1] M Q := by
  rw [w6_isSheet] at h
  refine KZ_of (by decide +kernel) (Nat.le_of_ble_eq_true rfl) (fun E C hR => ?_)
  change V B E 1 (wl 12 a (shM B.2.1 a) M) 0 [(0, .int p1)] []
  change Ok B E cX6_isSheet 1 RX6 1 25 at C
  refine v_iload_n C 0 dX6_isSheet_0 rfl rfl ?_
  refine v_i2l C dX6_isSheet_1 ?_
  refine v_lconst C dX6_isSheet_2 (v := (0 : Int64)) (by decide) ?_
  refine v_ldc2 C (v := (3 : Int64)) (gdm 917 (by decide +kernel) (by decide +kernel)) dX6_isSheet_3 ?_
  refine v_callSi (As := [.long (Int32.toInt64 p1), .long (0 : Int64), .long (3 : Int64)]) (rest := []) C (c6_in  h) eX6_64 (by omega) (by omega) rfl rfl (Nat.le_of_ble_eq_true rfl) dX6_isSheet_6 (fun r2 M1 h => ?_)
  obtain ⟨hn3, h⟩ := h
  exact hR _ _ _ _ hn3 h dX6_isSheet_9
def w6_evening (M : S0) (p1 : Int32) (p2 : Int32) (Q : Int32 → S0 → Prop) : Prop :=
    w6_isSheet M p1 (fun r2 M1 => ((r2 = 0) → (Q (-2 : Int32) M1)) ∧ ((¬ r2 = 0) → (w6_in M1 (Int32.toInt64 p2) (0 : Int64) (8 : Int64) (fun r4 M3 => ((r4 = 0) → (Q (-2 : Int32) M3)) ∧ ((¬ r4 = 0) → ((((6 : Int32) ≤ p2) → (w6_eveningBad M3 p1 (fun r6 M5 => ((r6 = 0) → (w6_laysAside M5 (fun M7 => w6_goes M7 p1 (fun r9 M8 => (((6 : Int32) ≤ p2) → (((¬ p2 = (6 : Int32)) → (((¬ p2 = (7 : Int32)) → (w6_richest M8 (fun r11 M10 => w6_laysBack M10 (fun M12 => Q r11 M12)))) ∧ ((p2 = (7 : Int32)) → (w6_laysBack M8 (fun M13 => Q r9 M13))))) ∧ ((p2 = (6 : Int32)) → (w6_bitsOf M8 (M8 0 8) (fun r15 M14 => w6_laysBack M14 (fun M16 => Q r15 M16)))))) ∧ ((¬ (6 : Int32) ≤ p2) → (w6_hasMany M8 p2 (fun r18 M17 => w6_laysBack M17 (fun M19 => Q r18 M19)))))))) ∧ ((¬ r6 = 0) → (Q r6 M5))))) ∧ ((¬ (6 : Int32) ≤ p2) → (w6_isOne M3 p2 (fun r21 M20 => ((¬ r21 = 0) → (w6_eveningBad M20 p1 (fun r23 M22 => ((r23 = 0) → (w6_laysAside M22 (fun M24 => w6_goes M24 p1 (fun r26 M25 => (((6 : Int32) ≤ p2) → (((¬ p2 = (6 : Int32)) → (((¬ p2 = (7 : Int32)) → (w6_richest M25 (fun r28 M27 => w6_laysBack M27 (fun M29 => Q r28 M29)))) ∧ ((p2 = (7 : Int32)) → (w6_laysBack M25 (fun M30 => Q r26 M30))))) ∧ ((p2 = (6 : Int32)) → (w6_bitsOf M25 (M25 0 8) (fun r32 M31 => w6_laysBack M31 (fun M33 => Q r32 M33)))))) ∧ ((¬ (6 : Int32) ≤ p2) → (w6_hasMany M25 p2 (fun r35 M34 => w6_laysBack M34 (fun M36 => Q r35 M36)))))))) ∧ ((¬ r23 = 0) → (Q r23 M22))))) ∧ ((r21 = 0) → (Q (-2 : Int32) M20)))))))))))
set_option maxHeartbeats 4000000 in
set_option maxRecDepth 20000 in
theorem c6_evening {B : BX} {a : Nat → Nat} {M : S0} {p1 : Int32} {p2 : Int32} {Q : Int32 → S0 → Prop} (h : w6_evening  M p1 p2 Q) : KI B (wl 12 a (shM B.2.1 a)) yX6_evening cX6_evening 6 (some .int) 73 1687 [.ref (a 0), .int p1, .int p2] M Q := by
  rw [w6_evening] at h
  refine KI_of (by decide +kernel) (Nat.le_of_ble_eq_true rfl) (fun E C hR => ?_)
  change V B E 6 (wl 12 a (shM B.2.1 a) M) 0 [(0, .ref (a 0)), (1, .int p1), (2, .int p2)] []
  change Ok B E cX6_evening 6 RX6 73 1687 at C
  refine v_iload_n C 1 dX6_evening_0 rfl rfl ?_
  refine v_callSi (As := [.int p1]) (rest := []) C (c6_isSheet  h) eX6_286 (by omega) (by omega) rfl rfl (Nat.le_of_ble_eq_true rfl) dX6_evening_1 (fun r2 M1 h => ?_)
  refine v_if_eq C dX6_evening_4 (tgt := 33) (by decide) (fun c => ?_) (fun c => ?_)
  · replace h := h.1 c
    refine v_bipush C dX6_evening_33 (v := (-2 : Int32)) (by decide) ?_
    exact hR _ _ _ _ h dX6_evening_35
  · replace h := h.2 c
    refine v_iload_n C 2 dX6_evening_7 rfl rfl ?_
    refine v_i2l C dX6_evening_8 ?_
    refine v_lconst C dX6_evening_9 (v := (0 : Int64)) (by decide) ?_
    refine v_ldc2 C (v := (8 : Int64)) (gdm 1119 (by decide +kernel) (by decide +kernel)) dX6_evening_10 ?_
    refine v_callSi (As := [.long (Int32.toInt64 p2), .long (0 : Int64), .long (8 : Int64)]) (rest := []) C (c6_in  h) eX6_64 (by omega) (by omega) rfl rfl (Nat.le_of_ble_eq_true rfl) dX6_evening_13 (fun r4 M3 h => ?_)
    refine v_if_eq C dX6_evening_16 (tgt := 33) (by decide) (fun c => ?_) (fun c => ?_)
    · replace h := h.1 c
      refine v_bipush C dX6_evening_33 (v := (-2 : Int32)) (by decide) ?_
      exact hR _ _ _ _ h dX6_evening_35
    · replace h := h.2 c
      refine v_iload_n C 2 dX6_evening_19 rfl rfl ?_
      refine v_bipush C dX6_evening_20 (v := (6 : Int32)) (by decide) ?_
      refine v_icmp_ge C dX6_evening_22 (tgt := 36) (by decide) (fun c => ?_) (fun c => ?_)
      · replace h := h.1 c
        refine v_aload_n C 0 dX6_evening_36 rfl rfl ?_
        refine v_iload_n C 1 dX6_evening_37 rfl rfl ?_
        refine v_callVi (k := 0) (As := [.int p1]) (rest := []) C (c6_eveningBad  h) eX6_291 (by omega) (by omega) (by decide) rfl rfl rfl rfl (Nat.le_of_ble_eq_true rfl) dX6_evening_38 (fun r6 M5 h => ?_)
        refine v_istore_n (lv' := [(3, .int r6), (0, .ref (a 0)), (1, .int p1), (2, .int p2)]) C dX6_evening_41 rfl (by decide) rfl ?_
        refine v_iload_n C 0 dX6_evening_42 rfl rfl ?_
        refine v_if_eq C dX6_evening_43 (tgt := 48) (by decide) (fun c => ?_) (fun c => ?_)
        · replace h := h.1 c
          refine v_aload_n C 1 dX6_evening_48 rfl rfl ?_
          refine v_callVv (k := 0) (As := []) (rest := []) C (c6_laysAside  h) eX6_275 (by omega) (by omega) (by decide) rfl rfl rfl rfl (Nat.le_of_ble_eq_true rfl) dX6_evening_49 (fun M7 h => ?_)
          refine v_aload_n C 1 dX6_evening_52 rfl rfl ?_
          refine v_iload_n C 2 dX6_evening_53 rfl rfl ?_
          refine v_callVi (k := 0) (As := [.int p1]) (rest := []) C (c6_goes  h) eX6_294 (by omega) (by omega) (by decide) rfl rfl rfl rfl (Nat.le_of_ble_eq_true rfl) dX6_evening_54 (fun r9 M8 h => ?_)
          refine v_istore (lv' := [(4, .int r9), (3, .int r6), (0, .ref (a 0)), (1, .int p1), (2, .int p2)]) C dX6_evening_57 (by decide) rfl ?_
          refine v_iload_n C 4 dX6_evening_59 rfl rfl ?_
          refine v_bipush C dX6_evening_60 (v := (6 : Int32)) (by decide) ?_
          refine v_icmp_ge C dX6_evening_62 (tgt := 73) (by decide) (fun c => ?_) (fun c => ?_)
          · replace h := h.1 c
            refine v_iload_n C 4 dX6_evening_73 rfl rfl ?_
            refine v_bipush C dX6_evening_74 (v := (6 : Int32)) (by decide) ?_
            refine v_icmp_ne C dX6_evening_76 (tgt := 89) (by decide) (fun c => ?_) (fun c => ?_)
            · replace h := h.1 c
              refine v_iload_n C 4 dX6_evening_89 rfl rfl ?_
              refine v_bipush C dX6_evening_90 (v := (7 : Int32)) (by decide) ?_
              refine v_icmp_ne C dX6_evening_92 (tgt := 100) (by decide) (fun c => ?_) (fun c => ?_)
              · replace h := h.1 c
                refine v_aload_n C 2 dX6_evening_100 rfl rfl ?_
                refine v_callVi (k := 0) (As := []) (rest := []) C (c6_richest  h) eX6_297 (by omega) (by omega) (by decide) rfl rfl rfl rfl (Nat.le_of_ble_eq_true rfl) dX6_evening_101 (fun r11 M10 h => ?_)
                refine v_istore (lv' := [(5, .int r11), (4, .int r9), (3, .int r6), (0, .ref (a 0)), (1, .int p1), (2, .int p2)]) C dX6_evening_104 (by decide) rfl ?_
                refine v_aload_n C 3 dX6_evening_106 rfl rfl ?_
                refine v_callVv (k := 0) (As := []) (rest := []) C (c6_laysBack  h) eX6_281 (by omega) (by omega) (by decide) rfl rfl rfl rfl (Nat.le_of_ble_eq_true rfl) dX6_evening_107 (fun M12 h => ?_)
                refine v_iload C 0 dX6_evening_110 rfl ?_
                exact hR _ _ _ _ h dX6_evening_112
              · replace h := h.2 c
                refine v_iload C 0 dX6_evening_95 rfl ?_
                refine v_goto C dX6_evening_97 (tgt := 104) (by decide) ?_
                refine v_istore (lv' := [(5, .int r9), (4, .int r9), (3, .int r6), (0, .ref (a 0)), (1, .int p1), (2, .int p2)]) C dX6_evening_104 (by decide) rfl ?_
                refine v_aload_n C 3 dX6_evening_106 rfl rfl ?_
                refine v_callVv (k := 0) (As := []) (rest := []) C (c6_laysBack  h) eX6_281 (by omega) (by omega) (by decide) rfl rfl rfl rfl (Nat.le_of_ble_eq_true rfl) dX6_evening_107 (fun M13 h => ?_)
                refine v_iload C 0 dX6_evening_110 rfl ?_
                exact hR _ _ _ _ h dX6_evening_112
            · replace h := h.2 c
              refine v_aload_n C 2 dX6_evening_79 rfl rfl ?_
              refine fX6_6_g_hall C dX6_evening_80 ?_
              refine v_callSi (As := [.int (M8 0 8)]) (rest := []) C (c6_bitsOf  h) eX6_116 (by omega) (by omega) rfl rfl (Nat.le_of_ble_eq_true rfl) dX6_evening_83 (fun r15 M14 h => ?_)
              refine v_goto C dX6_evening_86 (tgt := 104) (by decide) ?_
              refine v_istore (lv' := [(5, .int r15), (4, .int r9), (3, .int r6), (0, .ref (a 0)), (1, .int p1), (2, .int p2)]) C dX6_evening_104 (by decide) rfl ?_
              refine v_aload_n C 3 dX6_evening_106 rfl rfl ?_
              refine v_callVv (k := 0) (As := []) (rest := []) C (c6_laysBack  h) eX6_281 (by omega) (by omega) (by decide) rfl rfl rfl rfl (Nat.le_of_ble_eq_true rfl) dX6_evening_107 (fun M16 h => ?_)
              refine v_iload C 0 dX6_evening_110 rfl ?_
              exact hR _ _ _ _ h dX6_evening_112
          · replace h := h.2 c
            refine v_aload_n C 2 dX6_evening_65 rfl rfl ?_
            refine v_iload_n C 4 dX6_evening_66 rfl rfl ?_
            refine v_callVi (k := 0) (As := [.int p2]) (rest := []) C (c6_hasMany  h) eX6_122 (by omega) (by omega) (by decide) rfl rfl rfl rfl (Nat.le_of_ble_eq_true rfl) dX6_evening_67 (fun r18 M17 h => ?_)
            refine v_goto C dX6_evening_70 (tgt := 104) (by decide) ?_
            refine v_istore (lv' := [(5, .int r18), (4, .int r9), (3, .int r6), (0, .ref (a 0)), (1, .int p1), (2, .int p2)]) C dX6_evening_104 (by decide) rfl ?_
            refine v_aload_n C 3 dX6_evening_106 rfl rfl ?_
            refine v_callVv (k := 0) (As := []) (rest := []) C (c6_laysBack  h) eX6_281 (by omega) (by omega) (by decide) rfl rfl rfl rfl (Nat.le_of_ble_eq_true rfl) dX6_evening_107 (fun M19 h => ?_)
            refine v_iload C 0 dX6_evening_110 rfl ?_
            exact hR _ _ _ _ h dX6_evening_112
        · replace h := h.2 c
          refine v_iload_n C 0 dX6_evening_46 rfl rfl ?_
          exact hR _ _ _ _ h dX6_evening_47
      · replace h := h.2 c
        refine v_aload_n C 0 dX6_evening_25 rfl rfl ?_
        refine v_iload_n C 2 dX6_evening_26 rfl rfl ?_
        refine v_callVi (k := 0) (As := [.int p2]) (rest := []) C (c6_isOne  h) eX6_68 (by omega) (by omega) (by decide) rfl rfl rfl rfl (Nat.le_of_ble_eq_true rfl) dX6_evening_27 (fun r21 M20 h => ?_)
        refine v_if_ne C dX6_evening_30 (tgt := 36) (by decide) (fun c => ?_) (fun c => ?_)
        · replace h := h.1 c
          refine v_aload_n C 0 dX6_evening_36 rfl rfl ?_
          refine v_iload_n C 1 dX6_evening_37 rfl rfl ?_
          refine v_callVi (k := 0) (As := [.int p1]) (rest := []) C (c6_eveningBad  h) eX6_291 (by omega) (by omega) (by decide) rfl rfl rfl rfl (Nat.le_of_ble_eq_true rfl) dX6_evening_38 (fun r23 M22 h => ?_)
          refine v_istore_n (lv' := [(3, .int r23), (0, .ref (a 0)), (1, .int p1), (2, .int p2)]) C dX6_evening_41 rfl (by decide) rfl ?_
          refine v_iload_n C 0 dX6_evening_42 rfl rfl ?_
          refine v_if_eq C dX6_evening_43 (tgt := 48) (by decide) (fun c => ?_) (fun c => ?_)
          · replace h := h.1 c
            refine v_aload_n C 1 dX6_evening_48 rfl rfl ?_
            refine v_callVv (k := 0) (As := []) (rest := []) C (c6_laysAside  h) eX6_275 (by omega) (by omega) (by decide) rfl rfl rfl rfl (Nat.le_of_ble_eq_true rfl) dX6_evening_49 (fun M24 h => ?_)
            refine v_aload_n C 1 dX6_evening_52 rfl rfl ?_
            refine v_iload_n C 2 dX6_evening_53 rfl rfl ?_
            refine v_callVi (k := 0) (As := [.int p1]) (rest := []) C (c6_goes  h) eX6_294 (by omega) (by omega) (by decide) rfl rfl rfl rfl (Nat.le_of_ble_eq_true rfl) dX6_evening_54 (fun r26 M25 h => ?_)
            refine v_istore (lv' := [(4, .int r26), (3, .int r23), (0, .ref (a 0)), (1, .int p1), (2, .int p2)]) C dX6_evening_57 (by decide) rfl ?_
            refine v_iload_n C 4 dX6_evening_59 rfl rfl ?_
            refine v_bipush C dX6_evening_60 (v := (6 : Int32)) (by decide) ?_
            refine v_icmp_ge C dX6_evening_62 (tgt := 73) (by decide) (fun c => ?_) (fun c => ?_)
            · replace h := h.1 c
              refine v_iload_n C 4 dX6_evening_73 rfl rfl ?_
              refine v_bipush C dX6_evening_74 (v := (6 : Int32)) (by decide) ?_
              refine v_icmp_ne C dX6_evening_76 (tgt := 89) (by decide) (fun c => ?_) (fun c => ?_)
              · replace h := h.1 c
                refine v_iload_n C 4 dX6_evening_89 rfl rfl ?_
                refine v_bipush C dX6_evening_90 (v := (7 : Int32)) (by decide) ?_
                refine v_icmp_ne C dX6_evening_92 (tgt := 100) (by decide) (fun c => ?_) (fun c => ?_)
                · replace h := h.1 c
                  refine v_aload_n C 2 dX6_evening_100 rfl rfl ?_
                  refine v_callVi (k := 0) (As := []) (rest := []) C (c6_richest  h) eX6_297 (by omega) (by omega) (by decide) rfl rfl rfl rfl (Nat.le_of_ble_eq_true rfl) dX6_evening_101 (fun r28 M27 h => ?_)
                  refine v_istore (lv' := [(5, .int r28), (4, .int r26), (3, .int r23), (0, .ref (a 0)), (1, .int p1), (2, .int p2)]) C dX6_evening_104 (by decide) rfl ?_
                  refine v_aload_n C 3 dX6_evening_106 rfl rfl ?_
                  refine v_callVv (k := 0) (As := []) (rest := []) C (c6_laysBack  h) eX6_281 (by omega) (by omega) (by decide) rfl rfl rfl rfl (Nat.le_of_ble_eq_true rfl) dX6_evening_107 (fun M29 h => ?_)
                  refine v_iload C 0 dX6_evening_110 rfl ?_
                  exact hR _ _ _ _ h dX6_evening_112
                · replace h := h.2 c
                  refine v_iload C 0 dX6_evening_95 rfl ?_
                  refine v_goto C dX6_evening_97 (tgt := 104) (by decide) ?_
                  refine v_istore (lv' := [(5, .int r26), (4, .int r26), (3, .int r23), (0, .ref (a 0)), (1, .int p1), (2, .int p2)]) C dX6_evening_104 (by decide) rfl ?_
                  refine v_aload_n C 3 dX6_evening_106 rfl rfl ?_
                  refine v_callVv (k := 0) (As := []) (rest := []) C (c6_laysBack  h) eX6_281 (by omega) (by omega) (by decide) rfl rfl rfl rfl (Nat.le_of_ble_eq_true rfl) dX6_evening_107 (fun M30 h => ?_)
                  refine v_iload C 0 dX6_evening_110 rfl ?_
                  exact hR _ _ _ _ h dX6_evening_112
              · replace h := h.2 c
                refine v_aload_n C 2 dX6_evening_79 rfl rfl ?_
                refine fX6_6_g_hall C dX6_evening_80 ?_
                refine v_callSi (As := [.int (M25 0 8)]) (rest := []) C (c6_bitsOf  h) eX6_116 (by omega) (by omega) rfl rfl (Nat.le_of_ble_eq_true rfl) dX6_evening_83 (fun r32 M31 h => ?_)
                refine v_goto C dX6_evening_86 (tgt := 104) (by decide) ?_
                refine v_istore (lv' := [(5, .int r32), (4, .int r26), (3, .int r23), (0, .ref (a 0)), (1, .int p1), (2, .int p2)]) C dX6_evening_104 (by decide) rfl ?_
                refine v_aload_n C 3 dX6_evening_106 rfl rfl ?_
                refine v_callVv (k := 0) (As := []) (rest := []) C (c6_laysBack  h) eX6_281 (by omega) (by omega) (by decide) rfl rfl rfl rfl (Nat.le_of_ble_eq_true rfl) dX6_evening_107 (fun M33 h => ?_)
                refine v_iload C 0 dX6_evening_110 rfl ?_
                exact hR _ _ _ _ h dX6_evening_112
            · replace h := h.2 c
              refine v_aload_n C 2 dX6_evening_65 rfl rfl ?_
              refine v_iload_n C 4 dX6_evening_66 rfl rfl ?_
              refine v_callVi (k := 0) (As := [.int p2]) (rest := []) C (c6_hasMany  h) eX6_122 (by omega) (by omega) (by decide) rfl rfl rfl rfl (Nat.le_of_ble_eq_true rfl) dX6_evening_67 (fun r35 M34 h => ?_)
              refine v_goto C dX6_evening_70 (tgt := 104) (by decide) ?_
              refine v_istore (lv' := [(5, .int r35), (4, .int r26), (3, .int r23), (0, .ref (a 0)), (1, .int p1), (2, .int p2)]) C dX6_evening_104 (by decide) rfl ?_
              refine v_aload_n C 3 dX6_evening_106 rfl rfl ?_
              refine v_callVv (k := 0) (As := []) (rest := []) C (c6_laysBack  h) eX6_281 (by omega) (by omega) (by decide) rfl rfl rfl rfl (Nat.le_of_ble_eq_true rfl) dX6_evening_107 (fun M36 h => ?_)
              refine v_iload C 0 dX6_evening_110 rfl ?_
              exact hR _ _ _ _ h dX6_evening_112
          · replace h := h.2 c
            refine v_iload_n C 0 dX6_evening_46 rfl rfl ?_
            exact hR _ _ _ _ h dX6_evening_47
        · replace h := h.2 c
          refine v_bipush C dX6_evening_33 (v := (-2 : Int32)) (by decide) ?_
          exact hR _ _ _ _ h dX6_evening_35
def w6_play (M : S0) (p1 : Int32) (Q : Int32 → S0 → Prop) : Prop :=
    w6_isSheet M p1 (fun r2 M1 => ((¬ r2 = 0) → (w6_eveningBad M1 p1 (fun r4 M3 => ((r4 = 0) → ((vp_in p1 4) ∧ (((((M3 0 7) + (M3 10 (Int32.toNatClampNeg p1))) ≤ (999 : Int32)) → (w6_goes M3 p1 (fun r7 M6 => Q r7 M6))) ∧ ((¬ ((M3 0 7) + (M3 10 (Int32.toNatClampNeg p1))) ≤ (999 : Int32)) → (Q (-3 : Int32) M3))))) ∧ ((¬ r4 = 0) → (Q r4 M3))))) ∧ ((r2 = 0) → (Q (-2 : Int32) M1)))
set_option maxHeartbeats 4000000 in
set_option maxRecDepth 20000 in
theorem c6_play {B : BX} {a : Nat → Nat} {M : S0} {p1 : Int32} {Q : Int32 → S0 → Prop} (h : w6_play  M p1 Q) : KI B (wl 12 a (shM B.2.1 a)) yX6_play cX6_play 3 (some .int) 73 1687 [.ref (a 0), .int p1] M Q := by
  rw [w6_play] at h
  refine KI_of (by decide +kernel) (Nat.le_of_ble_eq_true rfl) (fun E C hR => ?_)
  change V B E 3 (wl 12 a (shM B.2.1 a) M) 0 [(0, .ref (a 0)), (1, .int p1)] []
  change Ok B E cX6_play 3 RX6 73 1687 at C
  refine v_iload_n C 1 dX6_play_0 rfl rfl ?_
  refine v_callSi (As := [.int p1]) (rest := []) C (c6_isSheet  h) eX6_286 (by omega) (by omega) rfl rfl (Nat.le_of_ble_eq_true rfl) dX6_play_1 (fun r2 M1 h => ?_)
  refine v_if_ne C dX6_play_4 (tgt := 10) (by decide) (fun c => ?_) (fun c => ?_)
  · replace h := h.1 c
    refine v_aload_n C 0 dX6_play_10 rfl rfl ?_
    refine v_iload_n C 1 dX6_play_11 rfl rfl ?_
    refine v_callVi (k := 0) (As := [.int p1]) (rest := []) C (c6_eveningBad  h) eX6_291 (by omega) (by omega) (by decide) rfl rfl rfl rfl (Nat.le_of_ble_eq_true rfl) dX6_play_12 (fun r4 M3 h => ?_)
    refine v_istore_n (lv' := [(2, .int r4), (0, .ref (a 0)), (1, .int p1)]) C dX6_play_15 rfl (by decide) rfl ?_
    refine v_iload_n C 0 dX6_play_16 rfl rfl ?_
    refine v_if_eq C dX6_play_17 (tgt := 22) (by decide) (fun c => ?_) (fun c => ?_)
    · replace h := h.1 c
      refine v_aload_n C 1 dX6_play_22 rfl rfl ?_
      refine fX6_6_g_roundNow C dX6_play_23 ?_
      refine v_aload_n C 1 dX6_play_26 rfl rfl ?_
      refine fX6_6_g_sheetSize C dX6_play_27 ?_
      refine v_iload_n C 2 dX6_play_30 rfl rfl ?_
      obtain ⟨hi5, h⟩ := h
      refine v_iald (k := 10) C (by decide) rfl hi5 dX6_play_31 ?_
      refine v_iadd C dX6_play_32 ?_
      refine v_sipush C dX6_play_33 (v := (999 : Int32)) (by decide) ?_
      refine v_icmp_le C dX6_play_36 (tgt := 44) (by decide) (fun c => ?_) (fun c => ?_)
      · replace h := h.1 c
        refine v_aload_n C 1 dX6_play_44 rfl rfl ?_
        refine v_iload_n C 2 dX6_play_45 rfl rfl ?_
        refine v_callVi (k := 0) (As := [.int p1]) (rest := []) C (c6_goes  h) eX6_294 (by omega) (by omega) (by decide) rfl rfl rfl rfl (Nat.le_of_ble_eq_true rfl) dX6_play_46 (fun r7 M6 h => ?_)
        exact hR _ _ _ _ h dX6_play_49
      · replace h := h.2 c
        refine v_bipush C dX6_play_39 (v := (-3 : Int32)) (by decide) ?_
        refine v_goto C dX6_play_41 (tgt := 49) (by decide) ?_
        exact hR _ _ _ _ h dX6_play_49
    · replace h := h.2 c
      refine v_iload_n C 0 dX6_play_20 rfl rfl ?_
      exact hR _ _ _ _ h dX6_play_21
  · replace h := h.2 c
    refine v_bipush C dX6_play_7 (v := (-2 : Int32)) (by decide) ?_
    exact hR _ _ _ _ h dX6_play_9
def w6_robins_b14 (K2 : S0 → Int32 → Int32 → Prop) (Q : S0 → Prop) : Nat → S0 → Int32 → Int32 → Int32 → Prop
  | 0, _, _, _, _ => False
  | n + 1, M, v1_14, v2_14, v3_14 =>
    (((M 0 11) ≤ v3_14) → (∀ x4 : Int32, x4 = v2_14 + (1 : Int32) → (K2 M v1_14 x4))) ∧ ((¬ (M 0 11) ≤ v3_14) → ((((((10 : Int32) * v2_14) + v3_14) = v1_14) → (∀ x5 : Int32, x5 = v3_14 + (1 : Int32) → (w6_robins_b14  K2 Q n M v1_14 v2_14 x5))) ∧ ((¬ (((10 : Int32) * v2_14) + v3_14) = v1_14) → (w6_games M v2_14 v3_14 (fun r7 M6 => ∀ x8 : Int32, x8 = v3_14 + (1 : Int32) → (w6_robins_b14  K2 Q n M6 v1_14 v2_14 x8))))))
set_option maxHeartbeats 4000000 in
set_option maxRecDepth 20000 in
theorem t6_robins_b14 {B : BX} {E : EX} {a : Nat → Nat} {K2 : S0 → Int32 → Int32 → Prop} {Q : S0 → Prop} (C : Ok B E cX6_robins 4 RX6 72 1663) (hR : RetV B E cX6_robins 4 (wl 12 a (shM B.2.1 a)) Q) (hK2 : ∀ (M : S0) (v1_2 : Int32) (v2_2 : Int32), K2 M v1_2 v2_2 → V B E 4 (wl 12 a (shM B.2.1 a) M) 2 [(0, .ref (a 0)), (1, .int v1_2), (2, .int v2_2)] []) : ∀ (n : Nat) (M : S0) (v1_14 : Int32) (v2_14 : Int32) (v3_14 : Int32), w6_robins_b14  K2 Q n M v1_14 v2_14 v3_14 → V B E 4 (wl 12 a (shM B.2.1 a) M) 14 [(0, .ref (a 0)), (1, .int v1_14), (2, .int v2_14), (3, .int v3_14)] [] := by
  intro n
  induction n with
  | zero =>
    intro M v1_14 v2_14 v3_14  h
    exact h.elim
  | succ n ih =>
    intro M v1_14 v2_14 v3_14  h
    rw [w6_robins_b14] at h
    refine v_iload_n C 3 dX6_robins_14 rfl rfl ?_
    refine v_aload_n C 0 dX6_robins_15 rfl rfl ?_
    refine fX6_6_g_many C dX6_robins_16 ?_
    refine v_icmp_ge C dX6_robins_19 (tgt := 45) (by decide) (fun c => ?_) (fun c => ?_)
    · replace h := h.1 c
      obtain ⟨x4, ex4⟩ : ∃ z : Int32, z = v2_14 + (1 : Int32) := ⟨_, rfl⟩
      replace h := h x4 ex4
      refine v_iinc (v := x4) (lv' := [(2, .int x4), (0, .ref (a 0)), (1, .int v1_14), (3, .int v3_14)]) C 2 dX6_robins_45 rfl (by rw [ex4]; rfl) (by decide) rfl ?_
      refine v_goto C dX6_robins_48 (tgt := 2) (by decide) ?_
      refine v_sub [1, 2, 0] rfl ?_
      exact hK2 M v1_14 x4  h
    · replace h := h.2 c
      refine v_bipush C dX6_robins_22 (v := (10 : Int32)) (by decide) ?_
      refine v_iload_n C 2 dX6_robins_24 rfl rfl ?_
      refine v_imul C dX6_robins_25 ?_
      refine v_iload_n C 3 dX6_robins_26 rfl rfl ?_
      refine v_iadd C dX6_robins_27 ?_
      refine v_iload_n C 1 dX6_robins_28 rfl rfl ?_
      refine v_icmp_eq C dX6_robins_29 (tgt := 39) (by decide) (fun c => ?_) (fun c => ?_)
      · replace h := h.1 c
        obtain ⟨x5, ex5⟩ : ∃ z : Int32, z = v3_14 + (1 : Int32) := ⟨_, rfl⟩
        replace h := h x5 ex5
        refine v_iinc (v := x5) (lv' := [(3, .int x5), (0, .ref (a 0)), (1, .int v1_14), (2, .int v2_14)]) C 3 dX6_robins_39 rfl (by rw [ex5]; rfl) (by decide) rfl ?_
        refine v_goto C dX6_robins_42 (tgt := 14) (by decide) ?_
        refine v_sub [1, 2, 3, 0] rfl ?_
        exact ih M v1_14 v2_14 x5  h
      · replace h := h.2 c
        refine v_aload_n C 0 dX6_robins_32 rfl rfl ?_
        refine v_iload_n C 2 dX6_robins_33 rfl rfl ?_
        refine v_iload_n C 3 dX6_robins_34 rfl rfl ?_
        refine v_callVi (k := 0) (As := [.int v2_14, .int v3_14]) (rest := []) C (c6_games  h) eX6_278 (by omega) (by omega) (by decide) rfl rfl rfl rfl (Nat.le_of_ble_eq_true rfl) dX6_robins_35 (fun r7 M6 h => ?_)
        refine v_pop C dX6_robins_38 rfl ?_
        obtain ⟨x8, ex8⟩ : ∃ z : Int32, z = v3_14 + (1 : Int32) := ⟨_, rfl⟩
        replace h := h x8 ex8
        refine v_iinc (v := x8) (lv' := [(3, .int x8), (0, .ref (a 0)), (1, .int v1_14), (2, .int v2_14)]) C 3 dX6_robins_39 rfl (by rw [ex8]; rfl) (by decide) rfl ?_
        refine v_goto C dX6_robins_42 (tgt := 14) (by decide) ?_
        refine v_sub [1, 2, 3, 0] rfl ?_
        exact ih M6 v1_14 v2_14 x8  h
def w6_robins_b2 (Q : S0 → Prop) : Nat → S0 → Int32 → Int32 → Prop
  | 0, _, _, _ => False
  | n + 1, M, v1_2, v2_2 =>
    (((M 0 11) ≤ v2_2) → (Q M)) ∧ ((¬ (M 0 11) ≤ v2_2) → (∀ x2 : Int32, x2 = (v2_2 + (1 : Int32)) → (∃ n3, w6_robins_b14  (w6_robins_b2   Q n) Q n3 M v1_2 v2_2 x2)))
set_option maxHeartbeats 4000000 in
set_option maxRecDepth 20000 in
theorem t6_robins_b2 {B : BX} {E : EX} {a : Nat → Nat} {Q : S0 → Prop} (C : Ok B E cX6_robins 4 RX6 72 1663) (hR : RetV B E cX6_robins 4 (wl 12 a (shM B.2.1 a)) Q) : ∀ (n : Nat) (M : S0) (v1_2 : Int32) (v2_2 : Int32), w6_robins_b2   Q n M v1_2 v2_2 → V B E 4 (wl 12 a (shM B.2.1 a) M) 2 [(0, .ref (a 0)), (1, .int v1_2), (2, .int v2_2)] [] := by
  intro n
  induction n with
  | zero =>
    intro M v1_2 v2_2  h
    exact h.elim
  | succ n ih =>
    intro M v1_2 v2_2  h
    rw [w6_robins_b2] at h
    refine v_iload_n C 2 dX6_robins_2 rfl rfl ?_
    refine v_aload_n C 0 dX6_robins_3 rfl rfl ?_
    refine fX6_6_g_many C dX6_robins_4 ?_
    refine v_icmp_ge C dX6_robins_7 (tgt := 51) (by decide) (fun c => ?_) (fun c => ?_)
    · replace h := h.1 c
      exact hR _ _ _ h dX6_robins_51
    · replace h := h.2 c
      refine v_iload_n C 2 dX6_robins_10 rfl rfl ?_
      refine v_iconst C dX6_robins_11 (v := (1 : Int32)) (by decide) ?_
      refine v_iadd C dX6_robins_12 ?_
      refine v_nmi (fun x2 ex2 => ?_)
      replace h := h x2 ex2
      refine v_istore_n (lv' := [(3, .int x2), (0, .ref (a 0)), (1, .int v1_2), (2, .int v2_2)]) C dX6_robins_13 rfl (by decide) rfl ?_
      obtain ⟨n3, h⟩ := h
      refine v_sub [1, 2, 3, 0] rfl ?_
      exact t6_robins_b14   C hR ih n3 M v1_2 v2_2 x2  h
def w6_robins (M : S0) (p1 : Int32) (Q : S0 → Prop) : Prop :=
    ∃ n1, w6_robins_b2   Q n1 M p1 (0 : Int32)
set_option maxHeartbeats 4000000 in
set_option maxRecDepth 20000 in
theorem c6_robins {B : BX} {a : Nat → Nat} {M : S0} {p1 : Int32} {Q : S0 → Prop} (h : w6_robins  M p1 Q) : KV B (wl 12 a (shM B.2.1 a)) yX6_robins cX6_robins 4 none 72 1663 [.ref (a 0), .int p1] M Q := by
  rw [w6_robins] at h
  refine KV_of (by decide +kernel) (Nat.le_of_ble_eq_true rfl) (fun E C hR => ?_)
  change V B E 4 (wl 12 a (shM B.2.1 a) M) 0 [(0, .ref (a 0)), (1, .int p1)] []
  change Ok B E cX6_robins 4 RX6 72 1663 at C
  refine v_iconst C dX6_robins_0 (v := (0 : Int32)) (by decide) ?_
  refine v_istore_n (lv' := [(2, .int (0 : Int32)), (0, .ref (a 0)), (1, .int p1)]) C dX6_robins_1 rfl (by decide) rfl ?_
  obtain ⟨n1, h⟩ := h
  refine v_sub [1, 2, 0] rfl ?_
  exact t6_robins_b2   C hR  n1 M p1 (0 : Int32)  h
