def w5_play (g : GX) (M : S0) (p1 : Int32) (Q : Int32 → S0 → Prop) : Prop :=
    w5_sheetAt g M p1 (fun r2 M1 => ((r2 = none) → (Q (-2 : Int32) M1)) ∧ (∀ k3 : Nat, r2 = some k3 → ((isSheet k3) ∧ (w2_isMissing g k3 M1 (fun r6 M5 => ((r6 = 0) → (w5_tellsGames g k3 M5 (fun r8 M7 => ((¬ r8 = 0) → (((((M7 10 8) + (M7 k3 2)) ≤ (999 : Int32)) → (w5_playTold g 10 k3 M7 (fun r10 M9 => Q r10 M9))) ∧ ((¬ ((M7 10 8) + (M7 k3 2)) ≤ (999 : Int32)) → (Q (-3 : Int32) M7)))) ∧ ((r8 = 0) → (Q (-2 : Int32) M7))))) ∧ ((¬ r6 = 0) → (Q (-11 : Int32) M5)))))))
set_option maxHeartbeats 4000000 in
set_option maxRecDepth 20000 in
theorem c5_play {B : BX} {a : Nat → Nat} {g : GX} {M : S0} {p1 : Int32} {Q : Int32 → S0 → Prop} (h : w5_play g M p1 Q) : KI B (wl (66 + 3 * g.2) a (shX B.2.1 a g.1)) yX5_play cX5_play 3 (some .int) 6 143 [.ref (a 0), .int p1] M Q := by
  rw [w5_play] at h
  refine KI_of (by decide +kernel) (Nat.le_of_ble_eq_true rfl) (fun E C hR => ?_)
  change V B E 3 (wl (66 + 3 * g.2) a (shX B.2.1 a g.1) M) 0 [(0, .ref (a 0)), (1, .int p1)] []
  change Ok B E cX5_play 3 RX5 6 143 at C
  refine v_aload_n C 0 dX5_play_0 rfl rfl ?_
  refine v_iload_n C 1 dX5_play_1 rfl rfl ?_
  refine v_callVa (k := 0) (As := [.int p1]) (rest := []) C (c5_sheetAt  h) eX5_155 (by omega) (by omega) (by omega) rfl rfl rfl rfl (Nat.le_of_ble_eq_true rfl) dX5_play_2 (fun r2 M1 h => ?_)
  rcases r2 with _ | k3
  · replace h := h.1 rfl
    change V _ _ _ _ _ _ (.null :: _)
    refine v_astoreN_n (lv' := [(2, .null), (0, .ref (a 0)), (1, .int p1)]) C dX5_play_5 rfl (by decide) rfl ?_
    refine v_aloadN_n C 0 dX5_play_6 rfl rfl ?_
    refine v_ifnonnullN C dX5_play_7 ?_
    refine v_bipush C dX5_play_10 (v := (-2 : Int32)) (by decide) ?_
    exact hR _ _ _ _ h dX5_play_12
  · replace h := h.2 k3 rfl
    change V _ _ _ _ _ _ (.ref (a k3) :: _)
    refine v_astore_n (lv' := [(2, .ref (a k3)), (0, .ref (a 0)), (1, .int p1)]) C dX5_play_5 rfl (by decide) rfl ?_
    refine v_aload_n C 0 dX5_play_6 rfl rfl ?_
    refine v_ifnonnull C dX5_play_7 (tgt := 13) (by decide) ?_
    refine v_aload_n C 0 dX5_play_13 rfl rfl ?_
    obtain ⟨hf4, h⟩ := h
    refine v_callVi (k := k3) (As := []) (rest := []) C (c2_isMissing hf4 h) eX5_159 (by omega) (by omega) (xlt_s (j := 0) hf4 (by decide)) (sh_s0 hf4 _) rfl rfl rfl (Nat.le_of_ble_eq_true rfl) dX5_play_14 (fun r6 M5 h => ?_)
    refine v_if_eq C dX5_play_17 (tgt := 23) (by decide) (fun c => ?_) (fun c => ?_)
    · replace h := h.1 c
      refine v_aload_n C 1 dX5_play_23 rfl rfl ?_
      refine v_aload_n C 0 dX5_play_24 rfl rfl ?_
      refine v_callVi (k := 0) (As := [.ref (a k3)]) (rest := []) C (c5_tellsGames hf4 h) eX5_163 (by omega) (by omega) (by omega) rfl rfl rfl rfl (Nat.le_of_ble_eq_true rfl) dX5_play_25 (fun r8 M7 h => ?_)
      refine v_if_ne C dX5_play_28 (tgt := 34) (by decide) (fun c => ?_) (fun c => ?_)
      · replace h := h.1 c
        refine v_aload_n C 1 dX5_play_34 rfl rfl ?_
        refine fX5_5_g_now C dX5_play_35 ?_
        refine fX5_0_g_round C cl_10 dX5_play_38 ?_
        refine v_aload_n C 0 dX5_play_41 rfl rfl ?_
        refine fX5_2_g_size C hf4 dX5_play_42 ?_
        refine v_iadd C dX5_play_45 ?_
        refine v_sipush C dX5_play_46 (v := (999 : Int32)) (by decide) ?_
        refine v_icmp_le C dX5_play_49 (tgt := 55) (by decide) (fun c => ?_) (fun c => ?_)
        · replace h := h.1 c
          refine v_aload_n C 1 dX5_play_55 rfl rfl ?_
          refine fX5_5_g_now C dX5_play_56 ?_
          refine v_aload_n C 0 dX5_play_59 rfl rfl ?_
          refine v_callSi (As := [.ref (a 10), .ref (a k3)]) (rest := []) C (c5_playTold cl_10 hf4 h) eX5_167 (by omega) (by omega) rfl rfl (Nat.le_of_ble_eq_true rfl) dX5_play_60 (fun r10 M9 h => ?_)
          exact hR _ _ _ _ h dX5_play_63
        · replace h := h.2 c
          refine v_bipush C dX5_play_52 (v := (-3 : Int32)) (by decide) ?_
          exact hR _ _ _ _ h dX5_play_54
      · replace h := h.2 c
        refine v_bipush C dX5_play_31 (v := (-2 : Int32)) (by decide) ?_
        exact hR _ _ _ _ h dX5_play_33
    · replace h := h.2 c
      refine v_bipush C dX5_play_20 (v := (-11 : Int32)) (by decide) ?_
      exact hR _ _ _ _ h dX5_play_22
def w5_robinWithout_b23 (g : GX) (K7 : S0 → Int32 → Nat → Int32 → Prop) (Q : Option Nat → S0 → Prop) : Nat → S0 → Int32 → Nat → Int32 → Int32 → Prop
  | 0, _, _, _, _, _ => False
  | n + 1, M, v1_23, v2_23, v3_23, v4_23 =>
    (((M 10 7) ≤ v4_23) → (∀ x8 : Int32, x8 = v3_23 + (1 : Int32) → (K7 M v1_23 v2_23 x8))) ∧ ((¬ (M 10 7) ≤ v4_23) → ((((((10 : Int32) * v3_23) + v4_23) = v1_23) → (∀ x9 : Int32, x9 = v4_23 + (1 : Int32) → (w5_robinWithout_b23 g K7 Q n M v1_23 v2_23 v3_23 x9))) ∧ ((¬ (((10 : Int32) * v3_23) + v4_23) = v1_23) → (w0_meet g v2_23 M v3_23 v4_23 (fun r11 M10 => ∀ x12 : Int32, x12 = v4_23 + (1 : Int32) → (w5_robinWithout_b23 g K7 Q n M10 v1_23 v2_23 v3_23 x12))))))
set_option maxHeartbeats 4000000 in
set_option maxRecDepth 20000 in
theorem t5_robinWithout_b23 {B : BX} {E : EX} {a : Nat → Nat} {g : GX} {K7 : S0 → Int32 → Nat → Int32 → Prop} {Q : Option Nat → S0 → Prop} (C : Ok B E cX5_robinWithout 5 RX5 5 120) (hR : RetA B E cX5_robinWithout 5 (wl (66 + 3 * g.2) a (shX B.2.1 a g.1)) a Q) (hK7 : ∀ (M : S0) (v1_7 : Int32) (v2_7 : Nat) (v3_7 : Int32), isClub v2_7 → K7 M v1_7 v2_7 v3_7 → V B E 5 (wl (66 + 3 * g.2) a (shX B.2.1 a g.1) M) 7 [(0, .ref (a 0)), (1, .int v1_7), (2, .ref (a v2_7)), (3, .int v3_7)] []) : ∀ (n : Nat) (M : S0) (v1_23 : Int32) (v2_23 : Nat) (v3_23 : Int32) (v4_23 : Int32), (hp_v2_23 : isClub v2_23) → w5_robinWithout_b23 g K7 Q n M v1_23 v2_23 v3_23 v4_23 → V B E 5 (wl (66 + 3 * g.2) a (shX B.2.1 a g.1) M) 23 [(0, .ref (a 0)), (1, .int v1_23), (2, .ref (a v2_23)), (3, .int v3_23), (4, .int v4_23)] [] := by
  intro n
  induction n with
  | zero =>
    intro M v1_23 v2_23 v3_23 v4_23 hp_v2_23 h
    exact h.elim
  | succ n ih =>
    intro M v1_23 v2_23 v3_23 v4_23 hp_v2_23 h
    rw [w5_robinWithout_b23] at h
    refine v_iload C 4 dX5_robinWithout_23 rfl ?_
    refine v_aload_n C 0 dX5_robinWithout_25 rfl rfl ?_
    refine fX5_5_g_now C dX5_robinWithout_26 ?_
    refine fX5_0_g_many C cl_10 dX5_robinWithout_29 ?_
    refine v_icmp_ge C dX5_robinWithout_32 (tgt := 60) (by decide) (fun c => ?_) (fun c => ?_)
    · replace h := h.1 c
      obtain ⟨x8, ex8⟩ : ∃ z : Int32, z = v3_23 + (1 : Int32) := ⟨_, rfl⟩
      replace h := h x8 ex8
      refine v_iinc (v := x8) (lv' := [(3, .int x8), (0, .ref (a 0)), (1, .int v1_23), (2, .ref (a v2_23)), (4, .int v4_23)]) C 3 dX5_robinWithout_60 rfl (by rw [ex8]; rfl) (by decide) rfl ?_
      refine v_goto C dX5_robinWithout_63 (tgt := 7) (by decide) ?_
      refine v_sub [1, 2, 3, 0] rfl ?_
      exact hK7 M v1_23 v2_23 x8 hp_v2_23 h
    · replace h := h.2 c
      refine v_bipush C dX5_robinWithout_35 (v := (10 : Int32)) (by decide) ?_
      refine v_iload_n C 3 dX5_robinWithout_37 rfl rfl ?_
      refine v_imul C dX5_robinWithout_38 ?_
      refine v_iload C 4 dX5_robinWithout_39 rfl ?_
      refine v_iadd C dX5_robinWithout_41 ?_
      refine v_iload_n C 1 dX5_robinWithout_42 rfl rfl ?_
      refine v_icmp_eq C dX5_robinWithout_43 (tgt := 54) (by decide) (fun c => ?_) (fun c => ?_)
      · replace h := h.1 c
        obtain ⟨x9, ex9⟩ : ∃ z : Int32, z = v4_23 + (1 : Int32) := ⟨_, rfl⟩
        replace h := h x9 ex9
        refine v_iinc (v := x9) (lv' := [(4, .int x9), (0, .ref (a 0)), (1, .int v1_23), (2, .ref (a v2_23)), (3, .int v3_23)]) C 4 dX5_robinWithout_54 rfl (by rw [ex9]; rfl) (by decide) rfl ?_
        refine v_goto C dX5_robinWithout_57 (tgt := 23) (by decide) ?_
        refine v_sub [1, 2, 3, 4, 0] rfl ?_
        exact ih M v1_23 v2_23 v3_23 x9 hp_v2_23 h
      · replace h := h.2 c
        refine v_aload_n C 2 dX5_robinWithout_46 rfl rfl ?_
        refine v_iload_n C 3 dX5_robinWithout_47 rfl rfl ?_
        refine v_iload C 4 dX5_robinWithout_48 rfl ?_
        refine v_callVi (k := v2_23) (As := [.int v3_23, .int v4_23]) (rest := []) C (c0_meet hp_v2_23 h) eX5_137 (by omega) (by omega) (xlt_c (j := 0) hp_v2_23 (by decide)) (sh_c0 hp_v2_23 _) rfl rfl rfl (Nat.le_of_ble_eq_true rfl) dX5_robinWithout_50 (fun r11 M10 h => ?_)
        refine v_pop C dX5_robinWithout_53 rfl ?_
        obtain ⟨x12, ex12⟩ : ∃ z : Int32, z = v4_23 + (1 : Int32) := ⟨_, rfl⟩
        replace h := h x12 ex12
        refine v_iinc (v := x12) (lv' := [(4, .int x12), (0, .ref (a 0)), (1, .int v1_23), (2, .ref (a v2_23)), (3, .int v3_23)]) C 4 dX5_robinWithout_54 rfl (by rw [ex12]; rfl) (by decide) rfl ?_
        refine v_goto C dX5_robinWithout_57 (tgt := 23) (by decide) ?_
        refine v_sub [1, 2, 3, 4, 0] rfl ?_
        exact ih M10 v1_23 v2_23 v3_23 x12 hp_v2_23 h
def w5_robinWithout_b7 (g : GX) (Q : Option Nat → S0 → Prop) : Nat → S0 → Int32 → Nat → Int32 → Prop
  | 0, _, _, _, _ => False
  | n + 1, M, v1_7, v2_7, v3_7 =>
    (((M 10 7) ≤ v3_7) → (Q (some v2_7) M)) ∧ ((¬ (M 10 7) ≤ v3_7) → (∀ x6 : Int32, x6 = (v3_7 + (1 : Int32)) → (∃ n7, w5_robinWithout_b23 g (w5_robinWithout_b7 g  Q n) Q n7 M v1_7 v2_7 v3_7 x6)))
set_option maxHeartbeats 4000000 in
set_option maxRecDepth 20000 in
theorem t5_robinWithout_b7 {B : BX} {E : EX} {a : Nat → Nat} {g : GX} {Q : Option Nat → S0 → Prop} (C : Ok B E cX5_robinWithout 5 RX5 5 120) (hR : RetA B E cX5_robinWithout 5 (wl (66 + 3 * g.2) a (shX B.2.1 a g.1)) a Q) : ∀ (n : Nat) (M : S0) (v1_7 : Int32) (v2_7 : Nat) (v3_7 : Int32), (hp_v2_7 : isClub v2_7) → w5_robinWithout_b7 g  Q n M v1_7 v2_7 v3_7 → V B E 5 (wl (66 + 3 * g.2) a (shX B.2.1 a g.1) M) 7 [(0, .ref (a 0)), (1, .int v1_7), (2, .ref (a v2_7)), (3, .int v3_7)] [] := by
  intro n
  induction n with
  | zero =>
    intro M v1_7 v2_7 v3_7 hp_v2_7 h
    exact h.elim
  | succ n ih =>
    intro M v1_7 v2_7 v3_7 hp_v2_7 h
    rw [w5_robinWithout_b7] at h
    refine v_iload_n C 3 dX5_robinWithout_7 rfl rfl ?_
    refine v_aload_n C 0 dX5_robinWithout_8 rfl rfl ?_
    refine fX5_5_g_now C dX5_robinWithout_9 ?_
    refine fX5_0_g_many C cl_10 dX5_robinWithout_12 ?_
    refine v_icmp_ge C dX5_robinWithout_15 (tgt := 66) (by decide) (fun c => ?_) (fun c => ?_)
    · replace h := h.1 c
      refine v_aload_n C 2 dX5_robinWithout_66 rfl rfl ?_
      exact hR (some v2_7) _ _ _ _ rfl h dX5_robinWithout_67
    · replace h := h.2 c
      refine v_iload_n C 3 dX5_robinWithout_18 rfl rfl ?_
      refine v_iconst C dX5_robinWithout_19 (v := (1 : Int32)) (by decide) ?_
      refine v_iadd C dX5_robinWithout_20 ?_
      refine v_nmi (fun x6 ex6 => ?_)
      replace h := h x6 ex6
      refine v_istore (lv' := [(4, .int x6), (0, .ref (a 0)), (1, .int v1_7), (2, .ref (a v2_7)), (3, .int v3_7)]) C dX5_robinWithout_21 (by decide) rfl ?_
      obtain ⟨n7, h⟩ := h
      refine v_sub [1, 2, 3, 4, 0] rfl ?_
      exact t5_robinWithout_b23   C hR ih n7 M v1_7 v2_7 v3_7 x6 hp_v2_7 h
def w5_robinWithout (g : GX) (M : S0) (p1 : Int32) (Q : Option Nat → S0 → Prop) : Prop :=
    w5_think g M (fun r2 M1 => ((r2 = none) → (False)) ∧ (∀ k3 : Nat, r2 = some k3 → ((isClub k3) ∧ (∃ n5, w5_robinWithout_b7 g  Q n5 M1 p1 k3 (0 : Int32)))))
set_option maxHeartbeats 4000000 in
set_option maxRecDepth 20000 in
theorem c5_robinWithout {B : BX} {a : Nat → Nat} {g : GX} {M : S0} {p1 : Int32} {Q : Option Nat → S0 → Prop} (h : w5_robinWithout g M p1 Q) : KA B (wl (66 + 3 * g.2) a (shX B.2.1 a g.1)) a yX5_robinWithout cX5_robinWithout 5 (some (.object "LoserKeepsTheBoard$Club")) 5 120 [.ref (a 0), .int p1] M Q := by
  rw [w5_robinWithout] at h
  refine KA_of (by decide +kernel) (Nat.le_of_ble_eq_true rfl) (fun E C hR => ?_) (Or.inl ⟨_, rfl⟩)
  change V B E 5 (wl (66 + 3 * g.2) a (shX B.2.1 a g.1) M) 0 [(0, .ref (a 0)), (1, .int p1)] []
  change Ok B E cX5_robinWithout 5 RX5 5 120 at C
  refine v_aload_n C 0 dX5_robinWithout_0 rfl rfl ?_
  refine v_callVa (k := 0) (As := []) (rest := []) C (c5_think  h) eX5_133 (by omega) (by omega) (by omega) rfl rfl rfl rfl (Nat.le_of_ble_eq_true rfl) dX5_robinWithout_1 (fun r2 M1 h => ?_)
  rcases r2 with _ | k3
  · replace h := h.1 rfl
    change V _ _ _ _ _ _ (.null :: _)
    exact h.elim
  · replace h := h.2 k3 rfl
    change V _ _ _ _ _ _ (.ref (a k3) :: _)
    refine v_astore_n (lv' := [(2, .ref (a k3)), (0, .ref (a 0)), (1, .int p1)]) C dX5_robinWithout_4 rfl (by decide) rfl ?_
    refine v_iconst C dX5_robinWithout_5 (v := (0 : Int32)) (by decide) ?_
    refine v_istore_n (lv' := [(3, .int (0 : Int32)), (2, .ref (a k3)), (0, .ref (a 0)), (1, .int p1)]) C dX5_robinWithout_6 rfl (by decide) rfl ?_
    obtain ⟨hf4, h⟩ := h
    obtain ⟨n5, h⟩ := h
    refine v_sub [2, 3, 1, 0] rfl ?_
    exact t5_robinWithout_b7   C hR  n5 M1 p1 k3 (0 : Int32) hf4 h
def w5_keptApart_b29 (g : GX) (K13 : S0 → Int32 → Int32 → Int32 → Prop) (Q : Int32 → S0 → Prop) : Nat → S0 → Int32 → Int32 → Int32 → Int32 → Prop
  | 0, _, _, _, _, _ => False
  | n + 1, M, v1_29, v2_29, v3_29, v4_29 =>
    (((M 10 7) ≤ v4_29) → (∀ x10 : Int32, x10 = v3_29 + (1 : Int32) → (K13 M v1_29 v2_29 x10))) ∧ ((¬ (M 10 7) ≤ v4_29) → (w5_robinWithout g M (((10 : Int32) * v3_29) + v4_29) (fun r12 M11 => ((r12 = none) → (False)) ∧ (∀ k13 : Nat, r12 = some k13 → ((isClub k13) ∧ (w0_manyInHall g k13 M11 (fun r16 M15 => ((v1_29 ≤ r16) → (∀ x17 : Int32, x17 = v4_29 + (1 : Int32) → (w5_keptApart_b29 g K13 Q n M15 v1_29 v2_29 v3_29 x17))) ∧ ((¬ v1_29 ≤ r16) → (∀ x18 : Int32, x18 = (((10 : Int32) * v3_29) + v4_29) → (∀ x19 : Int32, x19 = v4_29 + (1 : Int32) → (w5_keptApart_b29 g K13 Q n M15 r16 x18 v3_29 x19)))))))))))
set_option maxHeartbeats 4000000 in
set_option maxRecDepth 20000 in
theorem t5_keptApart_b29 {B : BX} {E : EX} {a : Nat → Nat} {g : GX} {K13 : S0 → Int32 → Int32 → Int32 → Prop} {Q : Int32 → S0 → Prop} (C : Ok B E cX5_keptApart 6 RX5 6 144) (hR : RetI B E cX5_keptApart 6 (wl (66 + 3 * g.2) a (shX B.2.1 a g.1)) Q) (hK13 : ∀ (M : S0) (v1_13 : Int32) (v2_13 : Int32) (v3_13 : Int32), K13 M v1_13 v2_13 v3_13 → V B E 6 (wl (66 + 3 * g.2) a (shX B.2.1 a g.1) M) 13 [(0, .ref (a 0)), (1, .int v1_13), (2, .int v2_13), (3, .int v3_13)] []) : ∀ (n : Nat) (M : S0) (v1_29 : Int32) (v2_29 : Int32) (v3_29 : Int32) (v4_29 : Int32), w5_keptApart_b29 g K13 Q n M v1_29 v2_29 v3_29 v4_29 → V B E 6 (wl (66 + 3 * g.2) a (shX B.2.1 a g.1) M) 29 [(0, .ref (a 0)), (1, .int v1_29), (2, .int v2_29), (3, .int v3_29), (4, .int v4_29)] [] := by
  intro n
  induction n with
  | zero =>
    intro M v1_29 v2_29 v3_29 v4_29  h
    exact h.elim
  | succ n ih =>
    intro M v1_29 v2_29 v3_29 v4_29  h
    rw [w5_keptApart_b29] at h
    refine v_iload C 4 dX5_keptApart_29 rfl ?_
    refine v_aload_n C 0 dX5_keptApart_31 rfl rfl ?_
    refine fX5_5_g_now C dX5_keptApart_32 ?_
    refine fX5_0_g_many C cl_10 dX5_keptApart_35 ?_
    refine v_icmp_ge C dX5_keptApart_38 (tgt := 80) (by decide) (fun c => ?_) (fun c => ?_)
    · replace h := h.1 c
      obtain ⟨x10, ex10⟩ : ∃ z : Int32, z = v3_29 + (1 : Int32) := ⟨_, rfl⟩
      replace h := h x10 ex10
      refine v_iinc (v := x10) (lv' := [(3, .int x10), (0, .ref (a 0)), (1, .int v1_29), (2, .int v2_29), (4, .int v4_29)]) C 3 dX5_keptApart_80 rfl (by rw [ex10]; rfl) (by decide) rfl ?_
      refine v_goto C dX5_keptApart_83 (tgt := 13) (by decide) ?_
      refine v_sub [1, 2, 3, 0] rfl ?_
      exact hK13 M v1_29 v2_29 x10  h
    · replace h := h.2 c
      refine v_aload_n C 0 dX5_keptApart_41 rfl rfl ?_
      refine v_bipush C dX5_keptApart_42 (v := (10 : Int32)) (by decide) ?_
      refine v_iload_n C 3 dX5_keptApart_44 rfl rfl ?_
      refine v_imul C dX5_keptApart_45 ?_
      refine v_iload C 4 dX5_keptApart_46 rfl ?_
      refine v_iadd C dX5_keptApart_48 ?_
      refine v_callVa (k := 0) (As := [.int (((10 : Int32) * v3_29) + v4_29)]) (rest := []) C (c5_robinWithout  h) eX5_188 (by omega) (by omega) (by omega) rfl rfl rfl rfl (Nat.le_of_ble_eq_true rfl) dX5_keptApart_49 (fun r12 M11 h => ?_)
      rcases r12 with _ | k13
      · replace h := h.1 rfl
        change V _ _ _ _ _ _ (.null :: _)
        exact h.elim
      · replace h := h.2 k13 rfl
        change V _ _ _ _ _ _ (.ref (a k13) :: _)
        obtain ⟨hf14, h⟩ := h
        refine v_callVi (k := k13) (As := []) (rest := []) C (c0_manyInHall hf14 h) eX5_171 (by omega) (by omega) (xlt_c (j := 0) hf14 (by decide)) (sh_c0 hf14 _) rfl rfl rfl (Nat.le_of_ble_eq_true rfl) dX5_keptApart_52 (fun r16 M15 h => ?_)
        refine v_istore (lv' := [(5, .int r16), (0, .ref (a 0)), (1, .int v1_29), (2, .int v2_29), (3, .int v3_29), (4, .int v4_29)]) C dX5_keptApart_55 (by decide) rfl ?_
        refine v_iload C 0 dX5_keptApart_57 rfl ?_
        refine v_iload_n C 2 dX5_keptApart_59 rfl rfl ?_
        refine v_icmp_ge C dX5_keptApart_60 (tgt := 74) (by decide) (fun c => ?_) (fun c => ?_)
        · replace h := h.1 c
          obtain ⟨x17, ex17⟩ : ∃ z : Int32, z = v4_29 + (1 : Int32) := ⟨_, rfl⟩
          replace h := h x17 ex17
          refine v_iinc (v := x17) (lv' := [(4, .int x17), (5, .int r16), (0, .ref (a 0)), (1, .int v1_29), (2, .int v2_29), (3, .int v3_29)]) C 5 dX5_keptApart_74 rfl (by rw [ex17]; rfl) (by decide) rfl ?_
          refine v_goto C dX5_keptApart_77 (tgt := 29) (by decide) ?_
          refine v_sub [2, 3, 4, 5, 0] rfl ?_
          exact ih M15 v1_29 v2_29 v3_29 x17  h
        · replace h := h.2 c
          refine v_iload C 0 dX5_keptApart_63 rfl ?_
          refine v_istore_n (lv' := [(1, .int r16), (5, .int r16), (0, .ref (a 0)), (2, .int v2_29), (3, .int v3_29), (4, .int v4_29)]) C dX5_keptApart_65 rfl (by decide) rfl ?_
          refine v_bipush C dX5_keptApart_66 (v := (10 : Int32)) (by decide) ?_
          refine v_iload_n C 4 dX5_keptApart_68 rfl rfl ?_
          refine v_imul C dX5_keptApart_69 ?_
          refine v_iload C 5 dX5_keptApart_70 rfl ?_
          refine v_iadd C dX5_keptApart_72 ?_
          refine v_nmi (fun x18 ex18 => ?_)
          replace h := h x18 ex18
          refine v_istore_n (lv' := [(2, .int x18), (1, .int r16), (5, .int r16), (0, .ref (a 0)), (3, .int v3_29), (4, .int v4_29)]) C dX5_keptApart_73 rfl (by decide) rfl ?_
          obtain ⟨x19, ex19⟩ : ∃ z : Int32, z = v4_29 + (1 : Int32) := ⟨_, rfl⟩
          replace h := h x19 ex19
          refine v_iinc (v := x19) (lv' := [(4, .int x19), (2, .int x18), (1, .int r16), (5, .int r16), (0, .ref (a 0)), (3, .int v3_29)]) C 5 dX5_keptApart_74 rfl (by rw [ex19]; rfl) (by decide) rfl ?_
          refine v_goto C dX5_keptApart_77 (tgt := 29) (by decide) ?_
          refine v_sub [4, 2, 1, 5, 0] rfl ?_
          exact ih M15 r16 x18 v3_29 x19  h
def w5_keptApart_b13 (g : GX) (Q : Int32 → S0 → Prop) : Nat → S0 → Int32 → Int32 → Int32 → Prop
  | 0, _, _, _, _ => False
  | n + 1, M, v1_13, v2_13, v3_13 =>
    (((M 10 7) ≤ v3_13) → (Q v2_13 M)) ∧ ((¬ (M 10 7) ≤ v3_13) → (∀ x8 : Int32, x8 = (v3_13 + (1 : Int32)) → (∃ n9, w5_keptApart_b29 g (w5_keptApart_b13 g  Q n) Q n9 M v1_13 v2_13 v3_13 x8)))
set_option maxHeartbeats 4000000 in
set_option maxRecDepth 20000 in
theorem t5_keptApart_b13 {B : BX} {E : EX} {a : Nat → Nat} {g : GX} {Q : Int32 → S0 → Prop} (C : Ok B E cX5_keptApart 6 RX5 6 144) (hR : RetI B E cX5_keptApart 6 (wl (66 + 3 * g.2) a (shX B.2.1 a g.1)) Q) : ∀ (n : Nat) (M : S0) (v1_13 : Int32) (v2_13 : Int32) (v3_13 : Int32), w5_keptApart_b13 g  Q n M v1_13 v2_13 v3_13 → V B E 6 (wl (66 + 3 * g.2) a (shX B.2.1 a g.1) M) 13 [(0, .ref (a 0)), (1, .int v1_13), (2, .int v2_13), (3, .int v3_13)] [] := by
  intro n
  induction n with
  | zero =>
    intro M v1_13 v2_13 v3_13  h
    exact h.elim
  | succ n ih =>
    intro M v1_13 v2_13 v3_13  h
    rw [w5_keptApart_b13] at h
    refine v_iload_n C 3 dX5_keptApart_13 rfl rfl ?_
    refine v_aload_n C 0 dX5_keptApart_14 rfl rfl ?_
    refine fX5_5_g_now C dX5_keptApart_15 ?_
    refine fX5_0_g_many C cl_10 dX5_keptApart_18 ?_
    refine v_icmp_ge C dX5_keptApart_21 (tgt := 86) (by decide) (fun c => ?_) (fun c => ?_)
    · replace h := h.1 c
      refine v_iload_n C 2 dX5_keptApart_86 rfl rfl ?_
      exact hR _ _ _ _ h dX5_keptApart_87
    · replace h := h.2 c
      refine v_iload_n C 3 dX5_keptApart_24 rfl rfl ?_
      refine v_iconst C dX5_keptApart_25 (v := (1 : Int32)) (by decide) ?_
      refine v_iadd C dX5_keptApart_26 ?_
      refine v_nmi (fun x8 ex8 => ?_)
      replace h := h x8 ex8
      refine v_istore (lv' := [(4, .int x8), (0, .ref (a 0)), (1, .int v1_13), (2, .int v2_13), (3, .int v3_13)]) C dX5_keptApart_27 (by decide) rfl ?_
      obtain ⟨n9, h⟩ := h
      refine v_sub [1, 2, 3, 4, 0] rfl ?_
      exact t5_keptApart_b29   C hR ih n9 M v1_13 v2_13 v3_13 x8  h
def w5_keptApart (g : GX) (M : S0) (Q : Int32 → S0 → Prop) : Prop :=
    w5_robinWithout g M (-1 : Int32) (fun r2 M1 => ((r2 = none) → (False)) ∧ (∀ k3 : Nat, r2 = some k3 → ((isClub k3) ∧ (w0_manyInHall g k3 M1 (fun r6 M5 => ∃ n7, w5_keptApart_b13 g  Q n7 M5 r6 (-1 : Int32) (0 : Int32))))))
set_option maxHeartbeats 4000000 in
set_option maxRecDepth 20000 in
theorem c5_keptApart {B : BX} {a : Nat → Nat} {g : GX} {M : S0} {Q : Int32 → S0 → Prop} (h : w5_keptApart g M  Q) : KI B (wl (66 + 3 * g.2) a (shX B.2.1 a g.1)) yX5_keptApart cX5_keptApart 6 (some .int) 6 144 [.ref (a 0)] M Q := by
  rw [w5_keptApart] at h
  refine KI_of (by decide +kernel) (Nat.le_of_ble_eq_true rfl) (fun E C hR => ?_)
  change V B E 6 (wl (66 + 3 * g.2) a (shX B.2.1 a g.1) M) 0 [(0, .ref (a 0))] []
  change Ok B E cX5_keptApart 6 RX5 6 144 at C
  refine v_aload_n C 0 dX5_keptApart_0 rfl rfl ?_
  refine v_iconst C dX5_keptApart_1 (v := (-1 : Int32)) (by decide) ?_
  refine v_callVa (k := 0) (As := [.int (-1 : Int32)]) (rest := []) C (c5_robinWithout  h) eX5_188 (by omega) (by omega) (by omega) rfl rfl rfl rfl (Nat.le_of_ble_eq_true rfl) dX5_keptApart_2 (fun r2 M1 h => ?_)
  rcases r2 with _ | k3
  · replace h := h.1 rfl
    change V _ _ _ _ _ _ (.null :: _)
    exact h.elim
  · replace h := h.2 k3 rfl
    change V _ _ _ _ _ _ (.ref (a k3) :: _)
    obtain ⟨hf4, h⟩ := h
    refine v_callVi (k := k3) (As := []) (rest := []) C (c0_manyInHall hf4 h) eX5_171 (by omega) (by omega) (xlt_c (j := 0) hf4 (by decide)) (sh_c0 hf4 _) rfl rfl rfl (Nat.le_of_ble_eq_true rfl) dX5_keptApart_5 (fun r6 M5 h => ?_)
    refine v_istore_n (lv' := [(1, .int r6), (0, .ref (a 0))]) C dX5_keptApart_8 rfl (by decide) rfl ?_
    refine v_iconst C dX5_keptApart_9 (v := (-1 : Int32)) (by decide) ?_
    refine v_istore_n (lv' := [(2, .int (-1 : Int32)), (1, .int r6), (0, .ref (a 0))]) C dX5_keptApart_10 rfl (by decide) rfl ?_
    refine v_iconst C dX5_keptApart_11 (v := (0 : Int32)) (by decide) ?_
    refine v_istore_n (lv' := [(3, .int (0 : Int32)), (2, .int (-1 : Int32)), (1, .int r6), (0, .ref (a 0))]) C dX5_keptApart_12 rfl (by decide) rfl ?_
    obtain ⟨n7, h⟩ := h
    refine v_sub [3, 2, 1, 0] rfl ?_
    exact t5_keptApart_b13   C hR  n7 M5 r6 (-1 : Int32) (0 : Int32)  h
def w5_isRing (g : GX) (M : S0) (p1 : Int32) (p2 : Int32) (p3 : Int32) (Q : Int32 → S0 → Prop) : Prop :=
    w0_winner g 10 M p1 p2 (fun r2 M1 => ((¬ r2 = p1) → (Q (0 : Int32) M1)) ∧ ((r2 = p1) → (w0_winner g 10 M1 p2 p3 (fun r4 M3 => ((¬ r4 = p2) → (Q (0 : Int32) M3)) ∧ ((r4 = p2) → (w0_winner g 10 M3 p3 p1 (fun r6 M5 => ((¬ r6 = p3) → (Q (0 : Int32) M5)) ∧ ((r6 = p3) → (Q (1 : Int32) M5)))))))))
set_option maxHeartbeats 4000000 in
set_option maxRecDepth 20000 in
theorem c5_isRing {B : BX} {a : Nat → Nat} {g : GX} {M : S0} {p1 : Int32} {p2 : Int32} {p3 : Int32} {Q : Int32 → S0 → Prop} (h : w5_isRing g M p1 p2 p3 Q) : KI B (wl (66 + 3 * g.2) a (shX B.2.1 a g.1)) yX5_isRing cX5_isRing 4 (some .boolean) 4 95 [.ref (a 0), .int p1, .int p2, .int p3] M Q := by
  rw [w5_isRing] at h
  refine KZ_of (by decide +kernel) (Nat.le_of_ble_eq_true rfl) (fun E C hR => ?_)
  change V B E 4 (wl (66 + 3 * g.2) a (shX B.2.1 a g.1) M) 0 [(0, .ref (a 0)), (1, .int p1), (2, .int p2), (3, .int p3)] []
  change Ok B E cX5_isRing 4 RX5 4 95 at C
  refine v_aload_n C 0 dX5_isRing_0 rfl rfl ?_
  refine fX5_5_g_now C dX5_isRing_1 ?_
  refine v_iload_n C 1 dX5_isRing_4 rfl rfl ?_
  refine v_iload_n C 2 dX5_isRing_5 rfl rfl ?_
  refine v_callVi (k := 10) (As := [.int p1, .int p2]) (rest := []) C (c0_winner cl_10 h) eX5_127 (by omega) (by omega) (xlt_c (j := 0) cl_10 (by decide)) (sh_c0 cl_10 _) rfl rfl rfl (Nat.le_of_ble_eq_true rfl) dX5_isRing_6 (fun r2 M1 h => ?_)
  refine v_iload_n C 1 dX5_isRing_9 rfl rfl ?_
  refine v_icmp_ne C dX5_isRing_10 (tgt := 43) (by decide) (fun c => ?_) (fun c => ?_)
  · replace h := h.1 c
    refine v_iconst C dX5_isRing_43 (v := (0 : Int32)) (by decide) ?_
    exact hR _ _ _ _ rfl h dX5_isRing_44
  · replace h := h.2 c
    refine v_aload_n C 0 dX5_isRing_13 rfl rfl ?_
    refine fX5_5_g_now C dX5_isRing_14 ?_
    refine v_iload_n C 2 dX5_isRing_17 rfl rfl ?_
    refine v_iload_n C 3 dX5_isRing_18 rfl rfl ?_
    refine v_callVi (k := 10) (As := [.int p2, .int p3]) (rest := []) C (c0_winner cl_10 h) eX5_127 (by omega) (by omega) (xlt_c (j := 0) cl_10 (by decide)) (sh_c0 cl_10 _) rfl rfl rfl (Nat.le_of_ble_eq_true rfl) dX5_isRing_19 (fun r4 M3 h => ?_)
    refine v_iload_n C 2 dX5_isRing_22 rfl rfl ?_
    refine v_icmp_ne C dX5_isRing_23 (tgt := 43) (by decide) (fun c => ?_) (fun c => ?_)
    · replace h := h.1 c
      refine v_iconst C dX5_isRing_43 (v := (0 : Int32)) (by decide) ?_
      exact hR _ _ _ _ rfl h dX5_isRing_44
    · replace h := h.2 c
      refine v_aload_n C 0 dX5_isRing_26 rfl rfl ?_
      refine fX5_5_g_now C dX5_isRing_27 ?_
      refine v_iload_n C 3 dX5_isRing_30 rfl rfl ?_
      refine v_iload_n C 1 dX5_isRing_31 rfl rfl ?_
      refine v_callVi (k := 10) (As := [.int p3, .int p1]) (rest := []) C (c0_winner cl_10 h) eX5_127 (by omega) (by omega) (xlt_c (j := 0) cl_10 (by decide)) (sh_c0 cl_10 _) rfl rfl rfl (Nat.le_of_ble_eq_true rfl) dX5_isRing_32 (fun r6 M5 h => ?_)
      refine v_iload_n C 3 dX5_isRing_35 rfl rfl ?_
      refine v_icmp_ne C dX5_isRing_36 (tgt := 43) (by decide) (fun c => ?_) (fun c => ?_)
      · replace h := h.1 c
        refine v_iconst C dX5_isRing_43 (v := (0 : Int32)) (by decide) ?_
        exact hR _ _ _ _ rfl h dX5_isRing_44
      · replace h := h.2 c
        refine v_iconst C dX5_isRing_39 (v := (1 : Int32)) (by decide) ?_
        refine v_goto C dX5_isRing_40 (tgt := 44) (by decide) ?_
        exact hR _ _ _ _ rfl h dX5_isRing_44
def w5_rings_b35 (g : GX) (K4 : S0 → Int32 → Int32 → Prop) (K19 : S0 → Int32 → Int32 → Int32 → Prop) (Q : Int32 → S0 → Prop) : Nat → S0 → Int32 → Int32 → Int32 → Int32 → Prop
  | 0, _, _, _, _, _ => False
  | n + 1, M, v1_35, v2_35, v3_35, v4_35 =>
    (((M 10 7) ≤ v4_35) → (∀ x7 : Int32, x7 = v3_35 + (1 : Int32) → (K19 M v1_35 v2_35 x7))) ∧ ((¬ (M 10 7) ≤ v4_35) → (w5_isRing g M v2_35 v3_35 v4_35 (fun r9 M8 => ((¬ r9 = 0) → (∀ x10 : Int32, x10 = v1_35 + (1 : Int32) → (∀ x11 : Int32, x11 = v4_35 + (1 : Int32) → (w5_rings_b35 g K4 K19 Q n M8 x10 v2_35 v3_35 x11)))) ∧ ((r9 = 0) → (w5_isRing g M8 v2_35 v4_35 v3_35 (fun r13 M12 => ((r13 = 0) → (∀ x14 : Int32, x14 = v4_35 + (1 : Int32) → (w5_rings_b35 g K4 K19 Q n M12 v1_35 v2_35 v3_35 x14))) ∧ ((¬ r13 = 0) → (∀ x15 : Int32, x15 = v1_35 + (1 : Int32) → (∀ x16 : Int32, x16 = v4_35 + (1 : Int32) → (w5_rings_b35 g K4 K19 Q n M12 x15 v2_35 v3_35 x16))))))))))
set_option maxHeartbeats 4000000 in
set_option maxRecDepth 20000 in
theorem t5_rings_b35 {B : BX} {E : EX} {a : Nat → Nat} {g : GX} {K4 : S0 → Int32 → Int32 → Prop} {K19 : S0 → Int32 → Int32 → Int32 → Prop} {Q : Int32 → S0 → Prop} (C : Ok B E cX5_rings 5 RX5 5 118) (hR : RetI B E cX5_rings 5 (wl (66 + 3 * g.2) a (shX B.2.1 a g.1)) Q) (hK4 : ∀ (M : S0) (v1_4 : Int32) (v2_4 : Int32), K4 M v1_4 v2_4 → V B E 5 (wl (66 + 3 * g.2) a (shX B.2.1 a g.1) M) 4 [(0, .ref (a 0)), (1, .int v1_4), (2, .int v2_4)] []) (hK19 : ∀ (M : S0) (v1_19 : Int32) (v2_19 : Int32) (v3_19 : Int32), K19 M v1_19 v2_19 v3_19 → V B E 5 (wl (66 + 3 * g.2) a (shX B.2.1 a g.1) M) 19 [(0, .ref (a 0)), (1, .int v1_19), (2, .int v2_19), (3, .int v3_19)] []) : ∀ (n : Nat) (M : S0) (v1_35 : Int32) (v2_35 : Int32) (v3_35 : Int32) (v4_35 : Int32), w5_rings_b35 g K4 K19 Q n M v1_35 v2_35 v3_35 v4_35 → V B E 5 (wl (66 + 3 * g.2) a (shX B.2.1 a g.1) M) 35 [(0, .ref (a 0)), (1, .int v1_35), (2, .int v2_35), (3, .int v3_35), (4, .int v4_35)] [] := by
  intro n
  induction n with
  | zero =>
    intro M v1_35 v2_35 v3_35 v4_35  h
    exact h.elim
  | succ n ih =>
    intro M v1_35 v2_35 v3_35 v4_35  h
    rw [w5_rings_b35] at h
    refine v_iload C 4 dX5_rings_35 rfl ?_
    refine v_aload_n C 0 dX5_rings_37 rfl rfl ?_
    refine fX5_5_g_now C dX5_rings_38 ?_
    refine fX5_0_g_many C cl_10 dX5_rings_41 ?_
    refine v_icmp_ge C dX5_rings_44 (tgt := 78) (by decide) (fun c => ?_) (fun c => ?_)
    · replace h := h.1 c
      obtain ⟨x7, ex7⟩ : ∃ z : Int32, z = v3_35 + (1 : Int32) := ⟨_, rfl⟩
      replace h := h x7 ex7
      refine v_iinc (v := x7) (lv' := [(3, .int x7), (0, .ref (a 0)), (1, .int v1_35), (2, .int v2_35), (4, .int v4_35)]) C 3 dX5_rings_78 rfl (by rw [ex7]; rfl) (by decide) rfl ?_
      refine v_goto C dX5_rings_81 (tgt := 19) (by decide) ?_
      refine v_sub [1, 2, 3, 0] rfl ?_
      exact hK19 M v1_35 v2_35 x7  h
    · replace h := h.2 c
      refine v_aload_n C 0 dX5_rings_47 rfl rfl ?_
      refine v_iload_n C 2 dX5_rings_48 rfl rfl ?_
      refine v_iload_n C 3 dX5_rings_49 rfl rfl ?_
      refine v_iload C 4 dX5_rings_50 rfl ?_
      refine v_callVi (k := 0) (As := [.int v2_35, .int v3_35, .int v4_35]) (rest := []) C (c5_isRing  h) eX5_196 (by omega) (by omega) (by omega) rfl rfl rfl rfl (Nat.le_of_ble_eq_true rfl) dX5_rings_52 (fun r9 M8 h => ?_)
      refine v_if_ne C dX5_rings_55 (tgt := 69) (by decide) (fun c => ?_) (fun c => ?_)
      · replace h := h.1 c
        obtain ⟨x10, ex10⟩ : ∃ z : Int32, z = v1_35 + (1 : Int32) := ⟨_, rfl⟩
        replace h := h x10 ex10
        refine v_iinc (v := x10) (lv' := [(1, .int x10), (0, .ref (a 0)), (2, .int v2_35), (3, .int v3_35), (4, .int v4_35)]) C 1 dX5_rings_69 rfl (by rw [ex10]; rfl) (by decide) rfl ?_
        obtain ⟨x11, ex11⟩ : ∃ z : Int32, z = v4_35 + (1 : Int32) := ⟨_, rfl⟩
        replace h := h x11 ex11
        refine v_iinc (v := x11) (lv' := [(4, .int x11), (1, .int x10), (0, .ref (a 0)), (2, .int v2_35), (3, .int v3_35)]) C 4 dX5_rings_72 rfl (by rw [ex11]; rfl) (by decide) rfl ?_
        refine v_goto C dX5_rings_75 (tgt := 35) (by decide) ?_
        refine v_sub [2, 1, 3, 4, 0] rfl ?_
        exact ih M8 x10 v2_35 v3_35 x11  h
      · replace h := h.2 c
        refine v_aload_n C 0 dX5_rings_58 rfl rfl ?_
        refine v_iload_n C 2 dX5_rings_59 rfl rfl ?_
        refine v_iload C 4 dX5_rings_60 rfl ?_
        refine v_iload_n C 3 dX5_rings_62 rfl rfl ?_
        refine v_callVi (k := 0) (As := [.int v2_35, .int v4_35, .int v3_35]) (rest := []) C (c5_isRing  h) eX5_196 (by omega) (by omega) (by omega) rfl rfl rfl rfl (Nat.le_of_ble_eq_true rfl) dX5_rings_63 (fun r13 M12 h => ?_)
        refine v_if_eq C dX5_rings_66 (tgt := 72) (by decide) (fun c => ?_) (fun c => ?_)
        · replace h := h.1 c
          obtain ⟨x14, ex14⟩ : ∃ z : Int32, z = v4_35 + (1 : Int32) := ⟨_, rfl⟩
          replace h := h x14 ex14
          refine v_iinc (v := x14) (lv' := [(4, .int x14), (0, .ref (a 0)), (1, .int v1_35), (2, .int v2_35), (3, .int v3_35)]) C 4 dX5_rings_72 rfl (by rw [ex14]; rfl) (by decide) rfl ?_
          refine v_goto C dX5_rings_75 (tgt := 35) (by decide) ?_
          refine v_sub [1, 2, 3, 4, 0] rfl ?_
          exact ih M12 v1_35 v2_35 v3_35 x14  h
        · replace h := h.2 c
          obtain ⟨x15, ex15⟩ : ∃ z : Int32, z = v1_35 + (1 : Int32) := ⟨_, rfl⟩
          replace h := h x15 ex15
          refine v_iinc (v := x15) (lv' := [(1, .int x15), (0, .ref (a 0)), (2, .int v2_35), (3, .int v3_35), (4, .int v4_35)]) C 1 dX5_rings_69 rfl (by rw [ex15]; rfl) (by decide) rfl ?_
          obtain ⟨x16, ex16⟩ : ∃ z : Int32, z = v4_35 + (1 : Int32) := ⟨_, rfl⟩
          replace h := h x16 ex16
          refine v_iinc (v := x16) (lv' := [(4, .int x16), (1, .int x15), (0, .ref (a 0)), (2, .int v2_35), (3, .int v3_35)]) C 4 dX5_rings_72 rfl (by rw [ex16]; rfl) (by decide) rfl ?_
          refine v_goto C dX5_rings_75 (tgt := 35) (by decide) ?_
          refine v_sub [2, 1, 3, 4, 0] rfl ?_
          exact ih M12 x15 v2_35 v3_35 x16  h
def w5_rings_b19 (g : GX) (K4 : S0 → Int32 → Int32 → Prop) (Q : Int32 → S0 → Prop) : Nat → S0 → Int32 → Int32 → Int32 → Prop
  | 0, _, _, _, _ => False
  | n + 1, M, v1_19, v2_19, v3_19 =>
    (((M 10 7) ≤ v3_19) → (∀ x4 : Int32, x4 = v2_19 + (1 : Int32) → (K4 M v1_19 x4))) ∧ ((¬ (M 10 7) ≤ v3_19) → (∀ x5 : Int32, x5 = (v3_19 + (1 : Int32)) → (∃ n6, w5_rings_b35 g K4 (w5_rings_b19 g K4 Q n) Q n6 M v1_19 v2_19 v3_19 x5)))
set_option maxHeartbeats 4000000 in
set_option maxRecDepth 20000 in
theorem t5_rings_b19 {B : BX} {E : EX} {a : Nat → Nat} {g : GX} {K4 : S0 → Int32 → Int32 → Prop} {Q : Int32 → S0 → Prop} (C : Ok B E cX5_rings 5 RX5 5 118) (hR : RetI B E cX5_rings 5 (wl (66 + 3 * g.2) a (shX B.2.1 a g.1)) Q) (hK4 : ∀ (M : S0) (v1_4 : Int32) (v2_4 : Int32), K4 M v1_4 v2_4 → V B E 5 (wl (66 + 3 * g.2) a (shX B.2.1 a g.1) M) 4 [(0, .ref (a 0)), (1, .int v1_4), (2, .int v2_4)] []) : ∀ (n : Nat) (M : S0) (v1_19 : Int32) (v2_19 : Int32) (v3_19 : Int32), w5_rings_b19 g K4 Q n M v1_19 v2_19 v3_19 → V B E 5 (wl (66 + 3 * g.2) a (shX B.2.1 a g.1) M) 19 [(0, .ref (a 0)), (1, .int v1_19), (2, .int v2_19), (3, .int v3_19)] [] := by
  intro n
  induction n with
  | zero =>
    intro M v1_19 v2_19 v3_19  h
    exact h.elim
  | succ n ih =>
    intro M v1_19 v2_19 v3_19  h
    rw [w5_rings_b19] at h
    refine v_iload_n C 3 dX5_rings_19 rfl rfl ?_
    refine v_aload_n C 0 dX5_rings_20 rfl rfl ?_
    refine fX5_5_g_now C dX5_rings_21 ?_
    refine fX5_0_g_many C cl_10 dX5_rings_24 ?_
    refine v_icmp_ge C dX5_rings_27 (tgt := 84) (by decide) (fun c => ?_) (fun c => ?_)
    · replace h := h.1 c
      obtain ⟨x4, ex4⟩ : ∃ z : Int32, z = v2_19 + (1 : Int32) := ⟨_, rfl⟩
      replace h := h x4 ex4
      refine v_iinc (v := x4) (lv' := [(2, .int x4), (0, .ref (a 0)), (1, .int v1_19), (3, .int v3_19)]) C 2 dX5_rings_84 rfl (by rw [ex4]; rfl) (by decide) rfl ?_
      refine v_goto C dX5_rings_87 (tgt := 4) (by decide) ?_
      refine v_sub [1, 2, 0] rfl ?_
      exact hK4 M v1_19 x4  h
    · replace h := h.2 c
      refine v_iload_n C 3 dX5_rings_30 rfl rfl ?_
      refine v_iconst C dX5_rings_31 (v := (1 : Int32)) (by decide) ?_
      refine v_iadd C dX5_rings_32 ?_
      refine v_nmi (fun x5 ex5 => ?_)
      replace h := h x5 ex5
      refine v_istore (lv' := [(4, .int x5), (0, .ref (a 0)), (1, .int v1_19), (2, .int v2_19), (3, .int v3_19)]) C dX5_rings_33 (by decide) rfl ?_
      obtain ⟨n6, h⟩ := h
      refine v_sub [1, 2, 3, 4, 0] rfl ?_
      exact t5_rings_b35   C hR hK4 ih n6 M v1_19 v2_19 v3_19 x5  h
def w5_rings_b4 (g : GX) (Q : Int32 → S0 → Prop) : Nat → S0 → Int32 → Int32 → Prop
  | 0, _, _, _ => False
  | n + 1, M, v1_4, v2_4 =>
    (((M 10 7) ≤ v2_4) → (Q v1_4 M)) ∧ ((¬ (M 10 7) ≤ v2_4) → (∀ x2 : Int32, x2 = (v2_4 + (1 : Int32)) → (∃ n3, w5_rings_b19 g (w5_rings_b4 g  Q n) Q n3 M v1_4 v2_4 x2)))
set_option maxHeartbeats 4000000 in
set_option maxRecDepth 20000 in
theorem t5_rings_b4 {B : BX} {E : EX} {a : Nat → Nat} {g : GX} {Q : Int32 → S0 → Prop} (C : Ok B E cX5_rings 5 RX5 5 118) (hR : RetI B E cX5_rings 5 (wl (66 + 3 * g.2) a (shX B.2.1 a g.1)) Q) : ∀ (n : Nat) (M : S0) (v1_4 : Int32) (v2_4 : Int32), w5_rings_b4 g  Q n M v1_4 v2_4 → V B E 5 (wl (66 + 3 * g.2) a (shX B.2.1 a g.1) M) 4 [(0, .ref (a 0)), (1, .int v1_4), (2, .int v2_4)] [] := by
  intro n
  induction n with
  | zero =>
    intro M v1_4 v2_4  h
    exact h.elim
  | succ n ih =>
    intro M v1_4 v2_4  h
    rw [w5_rings_b4] at h
    refine v_iload_n C 2 dX5_rings_4 rfl rfl ?_
    refine v_aload_n C 0 dX5_rings_5 rfl rfl ?_
    refine fX5_5_g_now C dX5_rings_6 ?_
    refine fX5_0_g_many C cl_10 dX5_rings_9 ?_
    refine v_icmp_ge C dX5_rings_12 (tgt := 90) (by decide) (fun c => ?_) (fun c => ?_)
    · replace h := h.1 c
      refine v_iload_n C 1 dX5_rings_90 rfl rfl ?_
      exact hR _ _ _ _ h dX5_rings_91
    · replace h := h.2 c
      refine v_iload_n C 2 dX5_rings_15 rfl rfl ?_
      refine v_iconst C dX5_rings_16 (v := (1 : Int32)) (by decide) ?_
      refine v_iadd C dX5_rings_17 ?_
      refine v_nmi (fun x2 ex2 => ?_)
      replace h := h x2 ex2
      refine v_istore_n (lv' := [(3, .int x2), (0, .ref (a 0)), (1, .int v1_4), (2, .int v2_4)]) C dX5_rings_18 rfl (by decide) rfl ?_
      obtain ⟨n3, h⟩ := h
      refine v_sub [1, 2, 3, 0] rfl ?_
      exact t5_rings_b19   C hR ih n3 M v1_4 v2_4 x2  h
def w5_rings (g : GX) (M : S0) (Q : Int32 → S0 → Prop) : Prop :=
    ∃ n1, w5_rings_b4 g  Q n1 M (0 : Int32) (0 : Int32)
set_option maxHeartbeats 4000000 in
set_option maxRecDepth 20000 in
theorem c5_rings {B : BX} {a : Nat → Nat} {g : GX} {M : S0} {Q : Int32 → S0 → Prop} (h : w5_rings g M  Q) : KI B (wl (66 + 3 * g.2) a (shX B.2.1 a g.1)) yX5_rings cX5_rings 5 (some .int) 5 118 [.ref (a 0)] M Q := by
  rw [w5_rings] at h
  refine KI_of (by decide +kernel) (Nat.le_of_ble_eq_true rfl) (fun E C hR => ?_)
  change V B E 5 (wl (66 + 3 * g.2) a (shX B.2.1 a g.1) M) 0 [(0, .ref (a 0))] []
  change Ok B E cX5_rings 5 RX5 5 118 at C
  refine v_iconst C dX5_rings_0 (v := (0 : Int32)) (by decide) ?_
  refine v_istore_n (lv' := [(1, .int (0 : Int32)), (0, .ref (a 0))]) C dX5_rings_1 rfl (by decide) rfl ?_
  refine v_iconst C dX5_rings_2 (v := (0 : Int32)) (by decide) ?_
  refine v_istore_n (lv' := [(2, .int (0 : Int32)), (1, .int (0 : Int32)), (0, .ref (a 0))]) C dX5_rings_3 rfl (by decide) rfl ?_
  obtain ⟨n1, h⟩ := h
  refine v_sub [2, 1, 0] rfl ?_
  exact t5_rings_b4   C hR  n1 M (0 : Int32) (0 : Int32)  h
def w5_robin (g : GX) (M : S0) (p1 : Int32) (Q : Int32 → S0 → Prop) : Prop :=
    w5_isWithin g M p1 (0 : Int32) (8 : Int32) (fun r2 M1 => ((r2 = 0) → (Q (-2 : Int32) M1)) ∧ ((¬ r2 = 0) → ((((6 : Int32) ≤ p1) → (((¬ p1 = (7 : Int32)) → (((¬ p1 = (8 : Int32)) → (w5_robinWithout g M1 (-1 : Int32) (fun r4 M3 => ((r4 = none) → (False)) ∧ (∀ k5 : Nat, r4 = some k5 → (((¬ p1 = (6 : Int32)) → ((isClub k5) ∧ ((vp_in p1 6) ∧ (Q (M3 (k5 + 5) (Int32.toNatClampNeg p1)) M3)))) ∧ ((p1 = (6 : Int32)) → ((isClub k5) ∧ (Q (M3 k5 6) M3)))))))) ∧ ((p1 = (8 : Int32)) → (w5_rings g M1 (fun r10 M9 => Q r10 M9))))) ∧ ((p1 = (7 : Int32)) → (w5_keptApart g M1 (fun r12 M11 => Q r12 M11))))) ∧ ((¬ (6 : Int32) ≤ p1) → (w0_isPlayer g 10 M1 p1 (fun r14 M13 => ((¬ r14 = 0) → (((¬ p1 = (7 : Int32)) → (((¬ p1 = (8 : Int32)) → (w5_robinWithout g M13 (-1 : Int32) (fun r16 M15 => ((r16 = none) → (False)) ∧ (∀ k17 : Nat, r16 = some k17 → (((¬ p1 = (6 : Int32)) → ((isClub k17) ∧ ((vp_in p1 6) ∧ (Q (M15 (k17 + 5) (Int32.toNatClampNeg p1)) M15)))) ∧ ((p1 = (6 : Int32)) → ((isClub k17) ∧ (Q (M15 k17 6) M15)))))))) ∧ ((p1 = (8 : Int32)) → (w5_rings g M13 (fun r22 M21 => Q r22 M21))))) ∧ ((p1 = (7 : Int32)) → (w5_keptApart g M13 (fun r24 M23 => Q r24 M23))))) ∧ ((r14 = 0) → (Q (-2 : Int32) M13))))))))
set_option maxHeartbeats 4000000 in
set_option maxRecDepth 20000 in
theorem c5_robin {B : BX} {a : Nat → Nat} {g : GX} {M : S0} {p1 : Int32} {Q : Int32 → S0 → Prop} (h : w5_robin g M p1 Q) : KI B (wl (66 + 3 * g.2) a (shX B.2.1 a g.1)) yX5_robin cX5_robin 3 (some .int) 7 169 [.ref (a 0), .int p1] M Q := by
  rw [w5_robin] at h
  refine KI_of (by decide +kernel) (Nat.le_of_ble_eq_true rfl) (fun E C hR => ?_)
  change V B E 3 (wl (66 + 3 * g.2) a (shX B.2.1 a g.1) M) 0 [(0, .ref (a 0)), (1, .int p1)] []
  change Ok B E cX5_robin 3 RX5 7 169 at C
  refine v_iload_n C 1 dX5_robin_0 rfl rfl ?_
  refine v_iconst C dX5_robin_1 (v := (0 : Int32)) (by decide) ?_
  refine v_bipush C dX5_robin_2 (v := (8 : Int32)) (by decide) ?_
  refine v_callSi (As := [.int p1, .int (0 : Int32), .int (8 : Int32)]) (rest := []) C (c5_isWithin  h) eX5_82 (by omega) (by omega) rfl rfl (Nat.le_of_ble_eq_true rfl) dX5_robin_4 (fun r2 M1 h => ?_)
  refine v_if_eq C dX5_robin_7 (tgt := 27) (by decide) (fun c => ?_) (fun c => ?_)
  · replace h := h.1 c
    refine v_bipush C dX5_robin_27 (v := (-2 : Int32)) (by decide) ?_
    exact hR _ _ _ _ h dX5_robin_29
  · replace h := h.2 c
    refine v_iload_n C 1 dX5_robin_10 rfl rfl ?_
    refine v_bipush C dX5_robin_11 (v := (6 : Int32)) (by decide) ?_
    refine v_icmp_ge C dX5_robin_13 (tgt := 30) (by decide) (fun c => ?_) (fun c => ?_)
    · replace h := h.1 c
      refine v_iload_n C 1 dX5_robin_30 rfl rfl ?_
      refine v_bipush C dX5_robin_31 (v := (7 : Int32)) (by decide) ?_
      refine v_icmp_ne C dX5_robin_33 (tgt := 41) (by decide) (fun c => ?_) (fun c => ?_)
      · replace h := h.1 c
        refine v_iload_n C 1 dX5_robin_41 rfl rfl ?_
        refine v_bipush C dX5_robin_42 (v := (8 : Int32)) (by decide) ?_
        refine v_icmp_ne C dX5_robin_44 (tgt := 52) (by decide) (fun c => ?_) (fun c => ?_)
        · replace h := h.1 c
          refine v_aload_n C 0 dX5_robin_52 rfl rfl ?_
          refine v_iconst C dX5_robin_53 (v := (-1 : Int32)) (by decide) ?_
          refine v_callVa (k := 0) (As := [.int (-1 : Int32)]) (rest := []) C (c5_robinWithout  h) eX5_188 (by omega) (by omega) (by omega) rfl rfl rfl rfl (Nat.le_of_ble_eq_true rfl) dX5_robin_54 (fun r4 M3 h => ?_)
          rcases r4 with _ | k5
          · replace h := h.1 rfl
            change V _ _ _ _ _ _ (.null :: _)
            exact h.elim
          · replace h := h.2 k5 rfl
            change V _ _ _ _ _ _ (.ref (a k5) :: _)
            refine v_astore_n (lv' := [(2, .ref (a k5)), (0, .ref (a 0)), (1, .int p1)]) C dX5_robin_57 rfl (by decide) rfl ?_
            refine v_iload_n C 2 dX5_robin_58 rfl rfl ?_
            refine v_bipush C dX5_robin_59 (v := (6 : Int32)) (by decide) ?_
            refine v_icmp_ne C dX5_robin_61 (tgt := 71) (by decide) (fun c => ?_) (fun c => ?_)
            · replace h := h.1 c
              refine v_aload_n C 0 dX5_robin_71 rfl rfl ?_
              obtain ⟨hf6, h⟩ := h
              refine fX5_0_g_has C hf6 dX5_robin_72 ?_
              refine v_iload_n C 2 dX5_robin_75 rfl rfl ?_
              obtain ⟨hi7, h⟩ := h
              refine v_iald (k := (k5 + 5)) C (xlt_c hf6 (by decide)) (sh_ca (ca_of hf6 (by decide) (by decide)) _) hi7 dX5_robin_76 ?_
              exact hR _ _ _ _ h dX5_robin_77
            · replace h := h.2 c
              refine v_aload_n C 0 dX5_robin_64 rfl rfl ?_
              obtain ⟨hf8, h⟩ := h
              refine fX5_0_g_hall C hf8 dX5_robin_65 ?_
              refine v_goto C dX5_robin_68 (tgt := 77) (by decide) ?_
              exact hR _ _ _ _ h dX5_robin_77
        · replace h := h.2 c
          refine v_aload_n C 0 dX5_robin_47 rfl rfl ?_
          refine v_callVi (k := 0) (As := []) (rest := []) C (c5_rings  h) eX5_185 (by omega) (by omega) (by omega) rfl rfl rfl rfl (Nat.le_of_ble_eq_true rfl) dX5_robin_48 (fun r10 M9 h => ?_)
          exact hR _ _ _ _ h dX5_robin_51
      · replace h := h.2 c
        refine v_aload_n C 0 dX5_robin_36 rfl rfl ?_
        refine v_callVi (k := 0) (As := []) (rest := []) C (c5_keptApart  h) eX5_182 (by omega) (by omega) (by omega) rfl rfl rfl rfl (Nat.le_of_ble_eq_true rfl) dX5_robin_37 (fun r12 M11 h => ?_)
        exact hR _ _ _ _ h dX5_robin_40
    · replace h := h.2 c
      refine v_aload_n C 0 dX5_robin_16 rfl rfl ?_
      refine fX5_5_g_now C dX5_robin_17 ?_
      refine v_iload_n C 1 dX5_robin_20 rfl rfl ?_
      refine v_callVi (k := 10) (As := [.int p1]) (rest := []) C (c0_isPlayer cl_10 h) eX5_90 (by omega) (by omega) (xlt_c (j := 0) cl_10 (by decide)) (sh_c0 cl_10 _) rfl rfl rfl (Nat.le_of_ble_eq_true rfl) dX5_robin_21 (fun r14 M13 h => ?_)
      refine v_if_ne C dX5_robin_24 (tgt := 30) (by decide) (fun c => ?_) (fun c => ?_)
      · replace h := h.1 c
        refine v_iload_n C 1 dX5_robin_30 rfl rfl ?_
        refine v_bipush C dX5_robin_31 (v := (7 : Int32)) (by decide) ?_
        refine v_icmp_ne C dX5_robin_33 (tgt := 41) (by decide) (fun c => ?_) (fun c => ?_)
        · replace h := h.1 c
          refine v_iload_n C 1 dX5_robin_41 rfl rfl ?_
          refine v_bipush C dX5_robin_42 (v := (8 : Int32)) (by decide) ?_
          refine v_icmp_ne C dX5_robin_44 (tgt := 52) (by decide) (fun c => ?_) (fun c => ?_)
          · replace h := h.1 c
            refine v_aload_n C 0 dX5_robin_52 rfl rfl ?_
            refine v_iconst C dX5_robin_53 (v := (-1 : Int32)) (by decide) ?_
            refine v_callVa (k := 0) (As := [.int (-1 : Int32)]) (rest := []) C (c5_robinWithout  h) eX5_188 (by omega) (by omega) (by omega) rfl rfl rfl rfl (Nat.le_of_ble_eq_true rfl) dX5_robin_54 (fun r16 M15 h => ?_)
            rcases r16 with _ | k17
            · replace h := h.1 rfl
              change V _ _ _ _ _ _ (.null :: _)
              exact h.elim
            · replace h := h.2 k17 rfl
              change V _ _ _ _ _ _ (.ref (a k17) :: _)
              refine v_astore_n (lv' := [(2, .ref (a k17)), (0, .ref (a 0)), (1, .int p1)]) C dX5_robin_57 rfl (by decide) rfl ?_
              refine v_iload_n C 2 dX5_robin_58 rfl rfl ?_
              refine v_bipush C dX5_robin_59 (v := (6 : Int32)) (by decide) ?_
              refine v_icmp_ne C dX5_robin_61 (tgt := 71) (by decide) (fun c => ?_) (fun c => ?_)
              · replace h := h.1 c
                refine v_aload_n C 0 dX5_robin_71 rfl rfl ?_
                obtain ⟨hf18, h⟩ := h
                refine fX5_0_g_has C hf18 dX5_robin_72 ?_
                refine v_iload_n C 2 dX5_robin_75 rfl rfl ?_
                obtain ⟨hi19, h⟩ := h
                refine v_iald (k := (k17 + 5)) C (xlt_c hf18 (by decide)) (sh_ca (ca_of hf18 (by decide) (by decide)) _) hi19 dX5_robin_76 ?_
                exact hR _ _ _ _ h dX5_robin_77
              · replace h := h.2 c
                refine v_aload_n C 0 dX5_robin_64 rfl rfl ?_
                obtain ⟨hf20, h⟩ := h
                refine fX5_0_g_hall C hf20 dX5_robin_65 ?_
                refine v_goto C dX5_robin_68 (tgt := 77) (by decide) ?_
                exact hR _ _ _ _ h dX5_robin_77
          · replace h := h.2 c
            refine v_aload_n C 0 dX5_robin_47 rfl rfl ?_
            refine v_callVi (k := 0) (As := []) (rest := []) C (c5_rings  h) eX5_185 (by omega) (by omega) (by omega) rfl rfl rfl rfl (Nat.le_of_ble_eq_true rfl) dX5_robin_48 (fun r22 M21 h => ?_)
            exact hR _ _ _ _ h dX5_robin_51
        · replace h := h.2 c
          refine v_aload_n C 0 dX5_robin_36 rfl rfl ?_
          refine v_callVi (k := 0) (As := []) (rest := []) C (c5_keptApart  h) eX5_182 (by omega) (by omega) (by omega) rfl rfl rfl rfl (Nat.le_of_ble_eq_true rfl) dX5_robin_37 (fun r24 M23 h => ?_)
          exact hR _ _ _ _ h dX5_robin_40
      · replace h := h.2 c
        refine v_bipush C dX5_robin_27 (v := (-2 : Int32)) (by decide) ?_
        exact hR _ _ _ _ h dX5_robin_29
def w5_best_b31 (g : GX) (Q : Int32 → S0 → Prop) : Nat → S0 → Int32 → Int32 → Int32 → Int32 → Int32 → Prop
  | 0, _, _, _, _, _, _ => False
  | n + 1, M, v1_31, v2_31, v3_31, v4_31, v5_31 =>
    (((M 10 7) ≤ v5_31) → (((¬ v2_31 = 0) → (Q v3_31 M)) ∧ ((v2_31 = 0) → (Q v4_31 M)))) ∧ ((¬ (M 10 7) ≤ v5_31) → (((¬ v5_31 = v1_31) → (w5_manyBehindGame g M v1_31 v5_31 (fun r7 M6 => ((r7 ≤ v3_31) → (∀ x8 : Int32, x8 = v5_31 + (1 : Int32) → (w5_best_b31 g  Q n M6 v1_31 v2_31 v3_31 v4_31 x8))) ∧ ((¬ r7 ≤ v3_31) → (∀ x9 : Int32, x9 = v5_31 + (1 : Int32) → (w5_best_b31 g  Q n M6 v1_31 v2_31 r7 v5_31 x9)))))) ∧ ((v5_31 = v1_31) → ((((-1 : Int32) ≤ v3_31) → (∀ x10 : Int32, x10 = v5_31 + (1 : Int32) → (w5_best_b31 g  Q n M v1_31 v2_31 v3_31 v4_31 x10))) ∧ ((¬ (-1 : Int32) ≤ v3_31) → (∀ x11 : Int32, x11 = v5_31 + (1 : Int32) → (w5_best_b31 g  Q n M v1_31 v2_31 (-1 : Int32) v5_31 x11)))))))
set_option maxHeartbeats 4000000 in
set_option maxRecDepth 20000 in
theorem t5_best_b31 {B : BX} {E : EX} {a : Nat → Nat} {g : GX} {Q : Int32 → S0 → Prop} (C : Ok B E cX5_best 7 RX5 6 143) (hR : RetI B E cX5_best 7 (wl (66 + 3 * g.2) a (shX B.2.1 a g.1)) Q) : ∀ (n : Nat) (M : S0) (v1_31 : Int32) (v2_31 : Int32) (v3_31 : Int32) (v4_31 : Int32) (v5_31 : Int32), w5_best_b31 g  Q n M v1_31 v2_31 v3_31 v4_31 v5_31 → V B E 7 (wl (66 + 3 * g.2) a (shX B.2.1 a g.1) M) 31 [(0, .ref (a 0)), (1, .int v1_31), (2, .int v2_31), (3, .int v3_31), (4, .int v4_31), (5, .int v5_31)] [] := by
  intro n
  induction n with
  | zero =>
    intro M v1_31 v2_31 v3_31 v4_31 v5_31  h
    exact h.elim
  | succ n ih =>
    intro M v1_31 v2_31 v3_31 v4_31 v5_31  h
    rw [w5_best_b31] at h
    refine v_iload C 5 dX5_best_31 rfl ?_
    refine v_aload_n C 0 dX5_best_33 rfl rfl ?_
    refine fX5_5_g_now C dX5_best_34 ?_
    refine fX5_0_g_many C cl_10 dX5_best_37 ?_
    refine v_icmp_ge C dX5_best_40 (tgt := 81) (by decide) (fun c => ?_) (fun c => ?_)
    · replace h := h.1 c
      refine v_iload_n C 2 dX5_best_81 rfl rfl ?_
      refine v_if_ne C dX5_best_82 (tgt := 90) (by decide) (fun c => ?_) (fun c => ?_)
      · replace h := h.1 c
        refine v_iload_n C 3 dX5_best_90 rfl rfl ?_
        exact hR _ _ _ _ h dX5_best_91
      · replace h := h.2 c
        refine v_iload C 4 dX5_best_85 rfl ?_
        refine v_goto C dX5_best_87 (tgt := 91) (by decide) ?_
        exact hR _ _ _ _ h dX5_best_91
    · replace h := h.2 c
      refine v_iload C 5 dX5_best_43 rfl ?_
      refine v_iload_n C 1 dX5_best_45 rfl rfl ?_
      refine v_icmp_ne C dX5_best_46 (tgt := 53) (by decide) (fun c => ?_) (fun c => ?_)
      · replace h := h.1 c
        refine v_aload_n C 0 dX5_best_53 rfl rfl ?_
        refine v_iload_n C 1 dX5_best_54 rfl rfl ?_
        refine v_iload C 5 dX5_best_55 rfl ?_
        refine v_callVi (k := 0) (As := [.int v1_31, .int v5_31]) (rest := []) C (c5_manyBehindGame  h) eX5_130 (by omega) (by omega) (by omega) rfl rfl rfl rfl (Nat.le_of_ble_eq_true rfl) dX5_best_57 (fun r7 M6 h => ?_)
        refine v_istore (lv' := [(6, .int r7), (0, .ref (a 0)), (1, .int v1_31), (2, .int v2_31), (3, .int v3_31), (4, .int v4_31), (5, .int v5_31)]) C dX5_best_60 (by decide) rfl ?_
        refine v_iload C 0 dX5_best_62 rfl ?_
        refine v_iload_n C 4 dX5_best_64 rfl rfl ?_
        refine v_icmp_le C dX5_best_65 (tgt := 75) (by decide) (fun c => ?_) (fun c => ?_)
        · replace h := h.1 c
          obtain ⟨x8, ex8⟩ : ∃ z : Int32, z = v5_31 + (1 : Int32) := ⟨_, rfl⟩
          replace h := h x8 ex8
          refine v_iinc (v := x8) (lv' := [(5, .int x8), (6, .int r7), (0, .ref (a 0)), (1, .int v1_31), (2, .int v2_31), (3, .int v3_31), (4, .int v4_31)]) C 6 dX5_best_75 rfl (by rw [ex8]; rfl) (by decide) rfl ?_
          refine v_goto C dX5_best_78 (tgt := 31) (by decide) ?_
          refine v_sub [2, 3, 4, 5, 6, 0] rfl ?_
          exact ih M6 v1_31 v2_31 v3_31 v4_31 x8  h
        · replace h := h.2 c
          refine v_iload C 0 dX5_best_68 rfl ?_
          refine v_istore_n (lv' := [(3, .int r7), (6, .int r7), (0, .ref (a 0)), (1, .int v1_31), (2, .int v2_31), (4, .int v4_31), (5, .int v5_31)]) C dX5_best_70 rfl (by decide) rfl ?_
          refine v_iload C 6 dX5_best_71 rfl ?_
          refine v_istore (lv' := [(4, .int v5_31), (3, .int r7), (6, .int r7), (0, .ref (a 0)), (1, .int v1_31), (2, .int v2_31), (5, .int v5_31)]) C dX5_best_73 (by decide) rfl ?_
          obtain ⟨x9, ex9⟩ : ∃ z : Int32, z = v5_31 + (1 : Int32) := ⟨_, rfl⟩
          replace h := h x9 ex9
          refine v_iinc (v := x9) (lv' := [(5, .int x9), (4, .int v5_31), (3, .int r7), (6, .int r7), (0, .ref (a 0)), (1, .int v1_31), (2, .int v2_31)]) C 6 dX5_best_75 rfl (by rw [ex9]; rfl) (by decide) rfl ?_
          refine v_goto C dX5_best_78 (tgt := 31) (by decide) ?_
          refine v_sub [4, 5, 6, 2, 1, 0] rfl ?_
          exact ih M6 v1_31 v2_31 r7 v5_31 x9  h
      · replace h := h.2 c
        refine v_iconst C dX5_best_49 (v := (-1 : Int32)) (by decide) ?_
        refine v_goto C dX5_best_50 (tgt := 60) (by decide) ?_
        refine v_istore (lv' := [(6, .int (-1 : Int32)), (0, .ref (a 0)), (1, .int v1_31), (2, .int v2_31), (3, .int v3_31), (4, .int v4_31), (5, .int v5_31)]) C dX5_best_60 (by decide) rfl ?_
        refine v_iload C 0 dX5_best_62 rfl ?_
        refine v_iload_n C 4 dX5_best_64 rfl rfl ?_
        refine v_icmp_le C dX5_best_65 (tgt := 75) (by decide) (fun c => ?_) (fun c => ?_)
        · replace h := h.1 c
          obtain ⟨x10, ex10⟩ : ∃ z : Int32, z = v5_31 + (1 : Int32) := ⟨_, rfl⟩
          replace h := h x10 ex10
          refine v_iinc (v := x10) (lv' := [(5, .int x10), (6, .int (-1 : Int32)), (0, .ref (a 0)), (1, .int v1_31), (2, .int v2_31), (3, .int v3_31), (4, .int v4_31)]) C 6 dX5_best_75 rfl (by rw [ex10]; rfl) (by decide) rfl ?_
          refine v_goto C dX5_best_78 (tgt := 31) (by decide) ?_
          refine v_sub [2, 3, 4, 5, 6, 0] rfl ?_
          exact ih M v1_31 v2_31 v3_31 v4_31 x10  h
        · replace h := h.2 c
          refine v_iload C 0 dX5_best_68 rfl ?_
          refine v_istore_n (lv' := [(3, .int (-1 : Int32)), (6, .int (-1 : Int32)), (0, .ref (a 0)), (1, .int v1_31), (2, .int v2_31), (4, .int v4_31), (5, .int v5_31)]) C dX5_best_70 rfl (by decide) rfl ?_
          refine v_iload C 6 dX5_best_71 rfl ?_
          refine v_istore (lv' := [(4, .int v5_31), (3, .int (-1 : Int32)), (6, .int (-1 : Int32)), (0, .ref (a 0)), (1, .int v1_31), (2, .int v2_31), (5, .int v5_31)]) C dX5_best_73 (by decide) rfl ?_
          obtain ⟨x11, ex11⟩ : ∃ z : Int32, z = v5_31 + (1 : Int32) := ⟨_, rfl⟩
          replace h := h x11 ex11
          refine v_iinc (v := x11) (lv' := [(5, .int x11), (4, .int v5_31), (3, .int (-1 : Int32)), (6, .int (-1 : Int32)), (0, .ref (a 0)), (1, .int v1_31), (2, .int v2_31)]) C 6 dX5_best_75 rfl (by rw [ex11]; rfl) (by decide) rfl ?_
          refine v_goto C dX5_best_78 (tgt := 31) (by decide) ?_
          refine v_sub [4, 5, 6, 2, 1, 0] rfl ?_
          exact ih M v1_31 v2_31 (-1 : Int32) v5_31 x11  h
def w5_best (g : GX) (M : S0) (p1 : Int32) (p2 : Int32) (Q : Int32 → S0 → Prop) : Prop :=
    w0_isPlayer g 10 M p1 (fun r2 M1 => ((r2 = 0) → (Q (-2 : Int32) M1)) ∧ ((¬ r2 = 0) → (w5_isWithin g M1 p2 (0 : Int32) (1 : Int32) (fun r4 M3 => ((¬ r4 = 0) → (∃ n5, w5_best_b31 g  Q n5 M3 p1 p2 (-1 : Int32) (-1 : Int32) (0 : Int32))) ∧ ((r4 = 0) → (Q (-2 : Int32) M3))))))
set_option maxHeartbeats 4000000 in
set_option maxRecDepth 20000 in
theorem c5_best {B : BX} {a : Nat → Nat} {g : GX} {M : S0} {p1 : Int32} {p2 : Int32} {Q : Int32 → S0 → Prop} (h : w5_best g M p1 p2 Q) : KI B (wl (66 + 3 * g.2) a (shX B.2.1 a g.1)) yX5_best cX5_best 7 (some .int) 6 143 [.ref (a 0), .int p1, .int p2] M Q := by
  rw [w5_best] at h
  refine KI_of (by decide +kernel) (Nat.le_of_ble_eq_true rfl) (fun E C hR => ?_)
  change V B E 7 (wl (66 + 3 * g.2) a (shX B.2.1 a g.1) M) 0 [(0, .ref (a 0)), (1, .int p1), (2, .int p2)] []
  change Ok B E cX5_best 7 RX5 6 143 at C
  refine v_aload_n C 0 dX5_best_0 rfl rfl ?_
  refine fX5_5_g_now C dX5_best_1 ?_
  refine v_iload_n C 1 dX5_best_4 rfl rfl ?_
  refine v_callVi (k := 10) (As := [.int p1]) (rest := []) C (c0_isPlayer cl_10 h) eX5_90 (by omega) (by omega) (xlt_c (j := 0) cl_10 (by decide)) (sh_c0 cl_10 _) rfl rfl rfl (Nat.le_of_ble_eq_true rfl) dX5_best_5 (fun r2 M1 h => ?_)
  refine v_if_eq C dX5_best_8 (tgt := 20) (by decide) (fun c => ?_) (fun c => ?_)
  · replace h := h.1 c
    refine v_bipush C dX5_best_20 (v := (-2 : Int32)) (by decide) ?_
    exact hR _ _ _ _ h dX5_best_22
  · replace h := h.2 c
    refine v_iload_n C 2 dX5_best_11 rfl rfl ?_
    refine v_iconst C dX5_best_12 (v := (0 : Int32)) (by decide) ?_
    refine v_iconst C dX5_best_13 (v := (1 : Int32)) (by decide) ?_
    refine v_callSi (As := [.int p2, .int (0 : Int32), .int (1 : Int32)]) (rest := []) C (c5_isWithin  h) eX5_82 (by omega) (by omega) rfl rfl (Nat.le_of_ble_eq_true rfl) dX5_best_14 (fun r4 M3 h => ?_)
    refine v_if_ne C dX5_best_17 (tgt := 23) (by decide) (fun c => ?_) (fun c => ?_)
    · replace h := h.1 c
      refine v_iconst C dX5_best_23 (v := (-1 : Int32)) (by decide) ?_
      refine v_istore_n (lv' := [(3, .int (-1 : Int32)), (0, .ref (a 0)), (1, .int p1), (2, .int p2)]) C dX5_best_24 rfl (by decide) rfl ?_
      refine v_iconst C dX5_best_25 (v := (-1 : Int32)) (by decide) ?_
      refine v_istore (lv' := [(4, .int (-1 : Int32)), (3, .int (-1 : Int32)), (0, .ref (a 0)), (1, .int p1), (2, .int p2)]) C dX5_best_26 (by decide) rfl ?_
      refine v_iconst C dX5_best_28 (v := (0 : Int32)) (by decide) ?_
      refine v_istore (lv' := [(5, .int (0 : Int32)), (4, .int (-1 : Int32)), (3, .int (-1 : Int32)), (0, .ref (a 0)), (1, .int p1), (2, .int p2)]) C dX5_best_29 (by decide) rfl ?_
      obtain ⟨n5, h⟩ := h
      refine v_sub [3, 4, 5, 2, 1, 0] rfl ?_
      exact t5_best_b31   C hR  n5 M3 p1 p2 (-1 : Int32) (-1 : Int32) (0 : Int32)  h
    · replace h := h.2 c
      refine v_bipush C dX5_best_20 (v := (-2 : Int32)) (by decide) ?_
      exact hR _ _ _ _ h dX5_best_22
def w5_thinkOn (g : GX) (c1 : Nat) (M : S0) (p3 : Int32) (Q : Option Nat → S0 → Prop) : Prop :=
    ((p3 < 0) → (Q none M)) ∧ ((¬ p3 < 0) → ((((5 : Int32) ≤ p3) → (Q none M)) ∧ ((¬ (5 : Int32) ≤ p3) → ((vp_in p3 5) ∧ ((isClub (28 + 6 * (Int32.toNatClampNeg p3))) ∧ (w0_takes g (28 + 6 * (Int32.toNatClampNeg p3)) c1 M (fun M3 => Q (some (28 + 6 * (Int32.toNatClampNeg p3))) M3)))))))
set_option maxHeartbeats 4000000 in
set_option maxRecDepth 20000 in
theorem c5_thinkOn {B : BX} {a : Nat → Nat} {g : GX} {c1 : Nat} {M : S0} {p3 : Int32} {Q : Option Nat → S0 → Prop} (hp_c1 : isClub c1) (h : w5_thinkOn g c1 M p3 Q) : KA B (wl (66 + 3 * g.2) a (shX B.2.1 a g.1)) a yX5_thinkOn cX5_thinkOn 4 (some (.object "LoserKeepsTheBoard$Club")) 1 22 [.ref (a c1), .ref (a 8), .int p3] M Q := by
  rw [w5_thinkOn] at h
  refine KA_of (by decide +kernel) (Nat.le_of_ble_eq_true rfl) (fun E C hR => ?_) (Or.inl ⟨_, rfl⟩)
  change V B E 4 (wl (66 + 3 * g.2) a (shX B.2.1 a g.1) M) 0 [(0, .ref (a c1)), (1, .ref (a 8)), (2, .int p3)] []
  change Ok B E cX5_thinkOn 4 RX5 1 22 at C
  refine v_iload_n C 2 dX5_thinkOn_0 rfl rfl ?_
  refine v_if_lt C dX5_thinkOn_1 (tgt := 16) (by decide) (fun c => ?_) (fun c => ?_)
  · replace h := h.1 c
    refine v_null C dX5_thinkOn_16 ?_
    refine v_astoreN_n (lv' := [(3, .null), (0, .ref (a c1)), (1, .ref (a 8)), (2, .int p3)]) C dX5_thinkOn_17 rfl (by decide) rfl ?_
    refine v_aloadN_n C 0 dX5_thinkOn_18 rfl rfl ?_
    refine v_ifnullN C dX5_thinkOn_19 (tgt := 27) (by decide) ?_
    refine v_aloadN_n C 0 dX5_thinkOn_27 rfl rfl ?_
    exact hR none _ _ _ _ rfl h dX5_thinkOn_28
  · replace h := h.2 c
    refine v_iload_n C 2 dX5_thinkOn_4 rfl rfl ?_
    refine v_aload_n C 1 dX5_thinkOn_5 rfl rfl ?_
    refine v_alen (k := 8) (t := 2) C (by omega) rfl rfl (v := (5 : Int32)) rfl dX5_thinkOn_6 ?_
    refine v_icmp_ge C dX5_thinkOn_7 (tgt := 16) (by decide) (fun c => ?_) (fun c => ?_)
    · replace h := h.1 c
      refine v_null C dX5_thinkOn_16 ?_
      refine v_astoreN_n (lv' := [(3, .null), (0, .ref (a c1)), (1, .ref (a 8)), (2, .int p3)]) C dX5_thinkOn_17 rfl (by decide) rfl ?_
      refine v_aloadN_n C 0 dX5_thinkOn_18 rfl rfl ?_
      refine v_ifnullN C dX5_thinkOn_19 (tgt := 27) (by decide) ?_
      refine v_aloadN_n C 0 dX5_thinkOn_27 rfl rfl ?_
      exact hR none _ _ _ _ rfl h dX5_thinkOn_28
    · replace h := h.2 c
      refine v_aload_n C 1 dX5_thinkOn_10 rfl rfl ?_
      refine v_iload_n C 2 dX5_thinkOn_11 rfl rfl ?_
      obtain ⟨hi1, h⟩ := h
      refine v_aald (k := 8) (t := 2) C (by omega) rfl rfl hi1 (v := .ref (a (28 + 6 * (Int32.toNatClampNeg p3)))) rfl dX5_thinkOn_12 ?_
      refine v_goto C dX5_thinkOn_13 (tgt := 17) (by decide) ?_
      refine v_astore_n (lv' := [(3, .ref (a (28 + 6 * (Int32.toNatClampNeg p3)))), (0, .ref (a c1)), (1, .ref (a 8)), (2, .int p3)]) C dX5_thinkOn_17 rfl (by decide) rfl ?_
      refine v_aload_n C 0 dX5_thinkOn_18 rfl rfl ?_
      refine v_ifnull C dX5_thinkOn_19 ?_
      refine v_aload_n C 0 dX5_thinkOn_22 rfl rfl ?_
      refine v_aload_n C 1 dX5_thinkOn_23 rfl rfl ?_
      obtain ⟨hf2, h⟩ := h
      refine v_callVv (k := (28 + 6 * (Int32.toNatClampNeg p3))) (As := [.ref (a c1)]) (rest := []) C (c0_takes hf2 hp_c1 h) eX5_264 (by omega) (by omega) (xlt_c (j := 0) hf2 (by decide)) (sh_c0 hf2 _) rfl rfl rfl (Nat.le_of_ble_eq_true rfl) dX5_thinkOn_24 (fun M3 h => ?_)
      refine v_aload_n C 0 dX5_thinkOn_27 rfl rfl ?_
      exact hR (some (28 + 6 * (Int32.toNatClampNeg p3))) _ _ _ _ rfl h dX5_thinkOn_28
