def w1_readNot_b17 (Rc : Nat → S0 → Int32 → (S0 → Prop) → Prop) (Q : S0 → Prop) : Nat → S0 → Int32 → Int32 → Prop
  | 0, _, _, _ => False
  | n + 1, M, v2_17, v3_17 =>
    ((v2_17 ≤ v3_17) → (Q M)) ∧ ((¬ v2_17 ≤ v3_17) → (w1_emit M (-19 : Int32) (fun M5 => ∀ x6 : Int32, x6 = v3_17 + (1 : Int32) → (w1_readNot_b17 Rc  Q n M5 v2_17 x6))))
set_option maxHeartbeats 4000000 in
set_option maxRecDepth 20000 in
theorem t1_readNot_b17 {B : BX} {E : EX} {a : Nat → Nat} {Rc : Nat → S0 → Int32 → (S0 → Prop) → Prop} {frr loo : Nat} {Q : S0 → Prop} (hRc0 : ∀ (M : S0) (p1 : Int32) (Q : S0 → Prop), Rc 0  M p1 Q → KV B (wl 3 a (shR B.2.1 a)) yX1_readOne cX1_readOne 4 none frr loo [.ref (a 0), .int p1] M Q) (hRc1 : ∀ (M : S0) (p1 : Int32) (Q : S0 → Prop), Rc 1  M p1 Q → KV B (wl 3 a (shR B.2.1 a)) yX1_readTerm cX1_readTerm 3 none frr loo [.ref (a 0), .int p1] M Q) (hRc2 : ∀ (M : S0) (p1 : Int32) (Q : S0 → Prop), Rc 2  M p1 Q → KV B (wl 3 a (shR B.2.1 a)) yX1_readSum cX1_readSum 4 none frr loo [.ref (a 0), .int p1] M Q) (hRc3 : ∀ (M : S0) (p1 : Int32) (Q : S0 → Prop), Rc 3  M p1 Q → KV B (wl 3 a (shR B.2.1 a)) yX1_readNot cX1_readNot 4 none frr loo [.ref (a 0), .int p1] M Q) (hRc4 : ∀ (M : S0) (p1 : Int32) (Q : S0 → Prop), Rc 4  M p1 Q → KV B (wl 3 a (shR B.2.1 a)) yX1_readBoth cX1_readBoth 3 none frr loo [.ref (a 0), .int p1] M Q) (hRc5 : ∀ (M : S0) (p1 : Int32) (Q : S0 → Prop), Rc 5  M p1 Q → KV B (wl 3 a (shR B.2.1 a)) yX1_readEither cX1_readEither 3 none frr loo [.ref (a 0), .int p1] M Q) (hRc6 : ∀ (M : S0) (p1 : Int32) (Q : S0 → Prop), Rc 6  M p1 Q → KV B (wl 3 a (shR B.2.1 a)) yX1_readPlain cX1_readPlain 2 none frr loo [.ref (a 0), .int p1] M Q) (hRc7 : ∀ (M : S0) (p1 : Int32) (Q : S0 → Prop), Rc 7  M p1 Q → KV B (wl 3 a (shR B.2.1 a)) yX1_readCompared cX1_readCompared 3 none frr loo [.ref (a 0), .int p1] M Q) (hfb : 12 ≤ frr) (hlb : 388 ≤ loo) (C : Ok B E cX1_readNot 4 RX1 (frr + 1) (loo + 23)) (hR : RetV B E cX1_readNot 4 (wl 3 a (shR B.2.1 a)) Q) : ∀ (n : Nat) (M : S0) (v2_17 : Int32) (v3_17 : Int32), w1_readNot_b17 Rc  Q n M v2_17 v3_17 → V B E 4 (wl 3 a (shR B.2.1 a) M) 17 [(0, .ref (a 0)), (2, .int v2_17), (3, .int v3_17)] [] := by
  intro n
  induction n with
  | zero =>
    intro M v2_17 v3_17  h
    exact h.elim
  | succ n ih =>
    intro M v2_17 v3_17  h
    rw [w1_readNot_b17] at h
    refine v_iload_n C 2 dX1_readNot_17 rfl rfl ?_
    refine v_iload_n C 1 dX1_readNot_18 rfl rfl ?_
    refine v_icmp_ge C dX1_readNot_19 (tgt := 34) (by decide) (fun c => ?_) (fun c => ?_)
    · replace h := h.1 c
      exact hR _ _ _ h dX1_readNot_34
    · replace h := h.2 c
      refine v_aload_n C 0 dX1_readNot_22 rfl rfl ?_
      refine v_bipush C dX1_readNot_23 (v := (-19 : Int32)) (by decide) ?_
      refine v_callVv (k := 0) (As := [.int (-19 : Int32)]) (rest := []) C (c1_emit  h) eX1_80 (by omega) (by omega) (by decide) rfl rfl rfl rfl (Nat.le_of_ble_eq_true rfl) dX1_readNot_25 (fun M5 h => ?_)
      obtain ⟨x6, ex6⟩ : ∃ z : Int32, z = v3_17 + (1 : Int32) := ⟨_, rfl⟩
      replace h := h x6 ex6
      refine v_iinc (v := x6) (lv' := [(3, .int x6), (0, .ref (a 0)), (2, .int v2_17)]) C 2 dX1_readNot_28 rfl (by rw [ex6]; rfl) (by decide) rfl ?_
      refine v_goto C dX1_readNot_31 (tgt := 17) (by decide) ?_
      refine v_sub [1, 2, 0] rfl ?_
      exact ih M5 v2_17 x6  h
def w1_readNot_body (Rc : Nat → S0 → Int32 → (S0 → Prop) → Prop) (M : S0) (p1 : Int32) (Q : S0 → Prop) : Prop :=
    w1_passed M (6 : Int32) p1 (fun r2 M1 => Rc 7 M1 (p1 + r2) (fun M3 => ∃ n4, w1_readNot_b17 Rc  Q n4 M3 r2 (0 : Int32)))
set_option maxHeartbeats 4000000 in
set_option maxRecDepth 20000 in
theorem c1_readNot_body {B : BX} {a : Nat → Nat} {Rc : Nat → S0 → Int32 → (S0 → Prop) → Prop} {frr loo : Nat} {M : S0} {p1 : Int32} {Q : S0 → Prop} (hRc0 : ∀ (M : S0) (p1 : Int32) (Q : S0 → Prop), Rc 0  M p1 Q → KV B (wl 3 a (shR B.2.1 a)) yX1_readOne cX1_readOne 4 none frr loo [.ref (a 0), .int p1] M Q) (hRc1 : ∀ (M : S0) (p1 : Int32) (Q : S0 → Prop), Rc 1  M p1 Q → KV B (wl 3 a (shR B.2.1 a)) yX1_readTerm cX1_readTerm 3 none frr loo [.ref (a 0), .int p1] M Q) (hRc2 : ∀ (M : S0) (p1 : Int32) (Q : S0 → Prop), Rc 2  M p1 Q → KV B (wl 3 a (shR B.2.1 a)) yX1_readSum cX1_readSum 4 none frr loo [.ref (a 0), .int p1] M Q) (hRc3 : ∀ (M : S0) (p1 : Int32) (Q : S0 → Prop), Rc 3  M p1 Q → KV B (wl 3 a (shR B.2.1 a)) yX1_readNot cX1_readNot 4 none frr loo [.ref (a 0), .int p1] M Q) (hRc4 : ∀ (M : S0) (p1 : Int32) (Q : S0 → Prop), Rc 4  M p1 Q → KV B (wl 3 a (shR B.2.1 a)) yX1_readBoth cX1_readBoth 3 none frr loo [.ref (a 0), .int p1] M Q) (hRc5 : ∀ (M : S0) (p1 : Int32) (Q : S0 → Prop), Rc 5  M p1 Q → KV B (wl 3 a (shR B.2.1 a)) yX1_readEither cX1_readEither 3 none frr loo [.ref (a 0), .int p1] M Q) (hRc6 : ∀ (M : S0) (p1 : Int32) (Q : S0 → Prop), Rc 6  M p1 Q → KV B (wl 3 a (shR B.2.1 a)) yX1_readPlain cX1_readPlain 2 none frr loo [.ref (a 0), .int p1] M Q) (hRc7 : ∀ (M : S0) (p1 : Int32) (Q : S0 → Prop), Rc 7  M p1 Q → KV B (wl 3 a (shR B.2.1 a)) yX1_readCompared cX1_readCompared 3 none frr loo [.ref (a 0), .int p1] M Q) (hfb : 12 ≤ frr) (hlb : 388 ≤ loo) (h : w1_readNot_body Rc M p1 Q) : KV B (wl 3 a (shR B.2.1 a)) yX1_readNot cX1_readNot 4 none (frr + 1) (loo + 23) [.ref (a 0), .int p1] M Q := by
  rw [w1_readNot_body] at h
  refine KV_of (by decide +kernel) (Nat.le_of_ble_eq_true rfl) (fun E C hR => ?_)
  change V B E 4 (wl 3 a (shR B.2.1 a) M) 0 [(0, .ref (a 0)), (1, .int p1)] []
  change Ok B E cX1_readNot 4 RX1 (frr + 1) (loo + 23) at C
  refine v_aload_n C 0 dX1_readNot_0 rfl rfl ?_
  refine v_bipush C dX1_readNot_1 (v := (6 : Int32)) (by decide) ?_
  refine v_iload_n C 1 dX1_readNot_3 rfl rfl ?_
  refine v_callVi (k := 0) (As := [.int (6 : Int32), .int p1]) (rest := []) C (c1_passed  h) eX1_86 (by omega) (by omega) (by decide) rfl rfl rfl rfl (Nat.le_of_ble_eq_true rfl) dX1_readNot_4 (fun r2 M1 h => ?_)
  refine v_istore_n (lv' := [(2, .int r2), (0, .ref (a 0)), (1, .int p1)]) C dX1_readNot_7 rfl (by decide) rfl ?_
  refine v_aload_n C 1 dX1_readNot_8 rfl rfl ?_
  refine v_iload_n C 2 dX1_readNot_9 rfl rfl ?_
  refine v_iload_n C 0 dX1_readNot_10 rfl rfl ?_
  refine v_iadd C dX1_readNot_11 ?_
  refine v_callVv (k := 0) (As := [.int (p1 + r2)]) (rest := []) C (hRc7 _ _ _  h) eX1_90 (by omega) (by omega) (by decide) rfl rfl rfl rfl (Nat.le_of_ble_eq_true rfl) dX1_readNot_12 (fun M3 h => ?_)
  refine v_iconst C dX1_readNot_15 (v := (0 : Int32)) (by decide) ?_
  refine v_istore_n (lv' := [(3, .int (0 : Int32)), (2, .int r2), (0, .ref (a 0)), (1, .int p1)]) C dX1_readNot_16 rfl (by decide) rfl ?_
  obtain ⟨n4, h⟩ := h
  refine v_sub [2, 1, 0] rfl ?_
  exact t1_readNot_b17  hRc0 hRc1 hRc2 hRc3 hRc4 hRc5 hRc6 hRc7 hfb hlb C hR  n4 M3 r2 (0 : Int32)  h
def w1_readBoth_b7 (Rc : Nat → S0 → Int32 → (S0 → Prop) → Prop) (Q : S0 → Prop) : Nat → S0 → Int32 → Int32 → Prop
  | 0, _, _, _ => False
  | n + 1, M, v1_7, v2_7 =>
    (((160 : Int32) ≤ v2_7) → (Q M)) ∧ ((¬ (160 : Int32) ≤ v2_7) → (((¬ (M 0 6) = (5 : Int32)) → (Q M)) ∧ (((M 0 6) = (5 : Int32)) → (w1_next M (fun M3 => Rc 3 M3 v1_7 (fun M4 => w1_emit M4 (-17 : Int32) (fun M5 => ∀ x6 : Int32, x6 = v2_7 + (1 : Int32) → (w1_readBoth_b7 Rc  Q n M5 v1_7 x6))))))))
set_option maxHeartbeats 4000000 in
set_option maxRecDepth 20000 in
theorem t1_readBoth_b7 {B : BX} {E : EX} {a : Nat → Nat} {Rc : Nat → S0 → Int32 → (S0 → Prop) → Prop} {frr loo : Nat} {Q : S0 → Prop} (hRc0 : ∀ (M : S0) (p1 : Int32) (Q : S0 → Prop), Rc 0  M p1 Q → KV B (wl 3 a (shR B.2.1 a)) yX1_readOne cX1_readOne 4 none frr loo [.ref (a 0), .int p1] M Q) (hRc1 : ∀ (M : S0) (p1 : Int32) (Q : S0 → Prop), Rc 1  M p1 Q → KV B (wl 3 a (shR B.2.1 a)) yX1_readTerm cX1_readTerm 3 none frr loo [.ref (a 0), .int p1] M Q) (hRc2 : ∀ (M : S0) (p1 : Int32) (Q : S0 → Prop), Rc 2  M p1 Q → KV B (wl 3 a (shR B.2.1 a)) yX1_readSum cX1_readSum 4 none frr loo [.ref (a 0), .int p1] M Q) (hRc3 : ∀ (M : S0) (p1 : Int32) (Q : S0 → Prop), Rc 3  M p1 Q → KV B (wl 3 a (shR B.2.1 a)) yX1_readNot cX1_readNot 4 none frr loo [.ref (a 0), .int p1] M Q) (hRc4 : ∀ (M : S0) (p1 : Int32) (Q : S0 → Prop), Rc 4  M p1 Q → KV B (wl 3 a (shR B.2.1 a)) yX1_readBoth cX1_readBoth 3 none frr loo [.ref (a 0), .int p1] M Q) (hRc5 : ∀ (M : S0) (p1 : Int32) (Q : S0 → Prop), Rc 5  M p1 Q → KV B (wl 3 a (shR B.2.1 a)) yX1_readEither cX1_readEither 3 none frr loo [.ref (a 0), .int p1] M Q) (hRc6 : ∀ (M : S0) (p1 : Int32) (Q : S0 → Prop), Rc 6  M p1 Q → KV B (wl 3 a (shR B.2.1 a)) yX1_readPlain cX1_readPlain 2 none frr loo [.ref (a 0), .int p1] M Q) (hRc7 : ∀ (M : S0) (p1 : Int32) (Q : S0 → Prop), Rc 7  M p1 Q → KV B (wl 3 a (shR B.2.1 a)) yX1_readCompared cX1_readCompared 3 none frr loo [.ref (a 0), .int p1] M Q) (hfb : 12 ≤ frr) (hlb : 388 ≤ loo) (C : Ok B E cX1_readBoth 3 RX1 (frr + 1) (loo + 23)) (hR : RetV B E cX1_readBoth 3 (wl 3 a (shR B.2.1 a)) Q) : ∀ (n : Nat) (M : S0) (v1_7 : Int32) (v2_7 : Int32), w1_readBoth_b7 Rc  Q n M v1_7 v2_7 → V B E 3 (wl 3 a (shR B.2.1 a) M) 7 [(0, .ref (a 0)), (1, .int v1_7), (2, .int v2_7)] [] := by
  intro n
  induction n with
  | zero =>
    intro M v1_7 v2_7  h
    exact h.elim
  | succ n ih =>
    intro M v1_7 v2_7  h
    rw [w1_readBoth_b7] at h
    refine v_iload_n C 2 dX1_readBoth_7 rfl rfl ?_
    refine v_sipush C dX1_readBoth_8 (v := (160 : Int32)) (by decide) ?_
    refine v_icmp_ge C dX1_readBoth_11 (tgt := 43) (by decide) (fun c => ?_) (fun c => ?_)
    · replace h := h.1 c
      exact hR _ _ _ h dX1_readBoth_43
    · replace h := h.2 c
      refine v_aload_n C 0 dX1_readBoth_14 rfl rfl ?_
      refine fX1_1_g_token C dX1_readBoth_15 ?_
      refine v_iconst C dX1_readBoth_18 (v := (5 : Int32)) (by decide) ?_
      refine v_icmp_ne C dX1_readBoth_19 (tgt := 43) (by decide) (fun c => ?_) (fun c => ?_)
      · replace h := h.1 c
        exact hR _ _ _ h dX1_readBoth_43
      · replace h := h.2 c
        refine v_aload_n C 0 dX1_readBoth_22 rfl rfl ?_
        refine v_callVv (k := 0) (As := []) (rest := []) C (c1_next  h) eX1_54 (by omega) (by omega) (by decide) rfl rfl rfl rfl (Nat.le_of_ble_eq_true rfl) dX1_readBoth_23 (fun M3 h => ?_)
        refine v_aload_n C 0 dX1_readBoth_26 rfl rfl ?_
        refine v_iload_n C 1 dX1_readBoth_27 rfl rfl ?_
        refine v_callVv (k := 0) (As := [.int v1_7]) (rest := []) C (hRc3 _ _ _  h) eX1_83 (by omega) (by omega) (by decide) rfl rfl rfl rfl (Nat.le_of_ble_eq_true rfl) dX1_readBoth_28 (fun M4 h => ?_)
        refine v_aload_n C 0 dX1_readBoth_31 rfl rfl ?_
        refine v_bipush C dX1_readBoth_32 (v := (-17 : Int32)) (by decide) ?_
        refine v_callVv (k := 0) (As := [.int (-17 : Int32)]) (rest := []) C (c1_emit  h) eX1_80 (by omega) (by omega) (by decide) rfl rfl rfl rfl (Nat.le_of_ble_eq_true rfl) dX1_readBoth_34 (fun M5 h => ?_)
        obtain ⟨x6, ex6⟩ : ∃ z : Int32, z = v2_7 + (1 : Int32) := ⟨_, rfl⟩
        replace h := h x6 ex6
        refine v_iinc (v := x6) (lv' := [(2, .int x6), (0, .ref (a 0)), (1, .int v1_7)]) C 2 dX1_readBoth_37 rfl (by rw [ex6]; rfl) (by decide) rfl ?_
        refine v_goto C dX1_readBoth_40 (tgt := 7) (by decide) ?_
        refine v_sub [1, 2, 0] rfl ?_
        exact ih M5 v1_7 x6  h
def w1_readBoth_body (Rc : Nat → S0 → Int32 → (S0 → Prop) → Prop) (M : S0) (p1 : Int32) (Q : S0 → Prop) : Prop :=
    Rc 3 M p1 (fun M1 => ∃ n2, w1_readBoth_b7 Rc  Q n2 M1 p1 (0 : Int32))
set_option maxHeartbeats 4000000 in
set_option maxRecDepth 20000 in
theorem c1_readBoth_body {B : BX} {a : Nat → Nat} {Rc : Nat → S0 → Int32 → (S0 → Prop) → Prop} {frr loo : Nat} {M : S0} {p1 : Int32} {Q : S0 → Prop} (hRc0 : ∀ (M : S0) (p1 : Int32) (Q : S0 → Prop), Rc 0  M p1 Q → KV B (wl 3 a (shR B.2.1 a)) yX1_readOne cX1_readOne 4 none frr loo [.ref (a 0), .int p1] M Q) (hRc1 : ∀ (M : S0) (p1 : Int32) (Q : S0 → Prop), Rc 1  M p1 Q → KV B (wl 3 a (shR B.2.1 a)) yX1_readTerm cX1_readTerm 3 none frr loo [.ref (a 0), .int p1] M Q) (hRc2 : ∀ (M : S0) (p1 : Int32) (Q : S0 → Prop), Rc 2  M p1 Q → KV B (wl 3 a (shR B.2.1 a)) yX1_readSum cX1_readSum 4 none frr loo [.ref (a 0), .int p1] M Q) (hRc3 : ∀ (M : S0) (p1 : Int32) (Q : S0 → Prop), Rc 3  M p1 Q → KV B (wl 3 a (shR B.2.1 a)) yX1_readNot cX1_readNot 4 none frr loo [.ref (a 0), .int p1] M Q) (hRc4 : ∀ (M : S0) (p1 : Int32) (Q : S0 → Prop), Rc 4  M p1 Q → KV B (wl 3 a (shR B.2.1 a)) yX1_readBoth cX1_readBoth 3 none frr loo [.ref (a 0), .int p1] M Q) (hRc5 : ∀ (M : S0) (p1 : Int32) (Q : S0 → Prop), Rc 5  M p1 Q → KV B (wl 3 a (shR B.2.1 a)) yX1_readEither cX1_readEither 3 none frr loo [.ref (a 0), .int p1] M Q) (hRc6 : ∀ (M : S0) (p1 : Int32) (Q : S0 → Prop), Rc 6  M p1 Q → KV B (wl 3 a (shR B.2.1 a)) yX1_readPlain cX1_readPlain 2 none frr loo [.ref (a 0), .int p1] M Q) (hRc7 : ∀ (M : S0) (p1 : Int32) (Q : S0 → Prop), Rc 7  M p1 Q → KV B (wl 3 a (shR B.2.1 a)) yX1_readCompared cX1_readCompared 3 none frr loo [.ref (a 0), .int p1] M Q) (hfb : 12 ≤ frr) (hlb : 388 ≤ loo) (h : w1_readBoth_body Rc M p1 Q) : KV B (wl 3 a (shR B.2.1 a)) yX1_readBoth cX1_readBoth 3 none (frr + 1) (loo + 23) [.ref (a 0), .int p1] M Q := by
  rw [w1_readBoth_body] at h
  refine KV_of (by decide +kernel) (Nat.le_of_ble_eq_true rfl) (fun E C hR => ?_)
  change V B E 3 (wl 3 a (shR B.2.1 a) M) 0 [(0, .ref (a 0)), (1, .int p1)] []
  change Ok B E cX1_readBoth 3 RX1 (frr + 1) (loo + 23) at C
  refine v_aload_n C 0 dX1_readBoth_0 rfl rfl ?_
  refine v_iload_n C 1 dX1_readBoth_1 rfl rfl ?_
  refine v_callVv (k := 0) (As := [.int p1]) (rest := []) C (hRc3 _ _ _  h) eX1_83 (by omega) (by omega) (by decide) rfl rfl rfl rfl (Nat.le_of_ble_eq_true rfl) dX1_readBoth_2 (fun M1 h => ?_)
  refine v_iconst C dX1_readBoth_5 (v := (0 : Int32)) (by decide) ?_
  refine v_istore_n (lv' := [(2, .int (0 : Int32)), (0, .ref (a 0)), (1, .int p1)]) C dX1_readBoth_6 rfl (by decide) rfl ?_
  obtain ⟨n2, h⟩ := h
  refine v_sub [1, 2, 0] rfl ?_
  exact t1_readBoth_b7  hRc0 hRc1 hRc2 hRc3 hRc4 hRc5 hRc6 hRc7 hfb hlb C hR  n2 M1 p1 (0 : Int32)  h
def w1_readEither_b7 (Rc : Nat → S0 → Int32 → (S0 → Prop) → Prop) (Q : S0 → Prop) : Nat → S0 → Int32 → Int32 → Prop
  | 0, _, _, _ => False
  | n + 1, M, v1_7, v2_7 =>
    (((160 : Int32) ≤ v2_7) → (Q M)) ∧ ((¬ (160 : Int32) ≤ v2_7) → (((¬ (M 0 6) = (4 : Int32)) → (Q M)) ∧ (((M 0 6) = (4 : Int32)) → (w1_next M (fun M3 => Rc 4 M3 v1_7 (fun M4 => w1_emit M4 (-18 : Int32) (fun M5 => ∀ x6 : Int32, x6 = v2_7 + (1 : Int32) → (w1_readEither_b7 Rc  Q n M5 v1_7 x6))))))))
set_option maxHeartbeats 4000000 in
set_option maxRecDepth 20000 in
theorem t1_readEither_b7 {B : BX} {E : EX} {a : Nat → Nat} {Rc : Nat → S0 → Int32 → (S0 → Prop) → Prop} {frr loo : Nat} {Q : S0 → Prop} (hRc0 : ∀ (M : S0) (p1 : Int32) (Q : S0 → Prop), Rc 0  M p1 Q → KV B (wl 3 a (shR B.2.1 a)) yX1_readOne cX1_readOne 4 none frr loo [.ref (a 0), .int p1] M Q) (hRc1 : ∀ (M : S0) (p1 : Int32) (Q : S0 → Prop), Rc 1  M p1 Q → KV B (wl 3 a (shR B.2.1 a)) yX1_readTerm cX1_readTerm 3 none frr loo [.ref (a 0), .int p1] M Q) (hRc2 : ∀ (M : S0) (p1 : Int32) (Q : S0 → Prop), Rc 2  M p1 Q → KV B (wl 3 a (shR B.2.1 a)) yX1_readSum cX1_readSum 4 none frr loo [.ref (a 0), .int p1] M Q) (hRc3 : ∀ (M : S0) (p1 : Int32) (Q : S0 → Prop), Rc 3  M p1 Q → KV B (wl 3 a (shR B.2.1 a)) yX1_readNot cX1_readNot 4 none frr loo [.ref (a 0), .int p1] M Q) (hRc4 : ∀ (M : S0) (p1 : Int32) (Q : S0 → Prop), Rc 4  M p1 Q → KV B (wl 3 a (shR B.2.1 a)) yX1_readBoth cX1_readBoth 3 none frr loo [.ref (a 0), .int p1] M Q) (hRc5 : ∀ (M : S0) (p1 : Int32) (Q : S0 → Prop), Rc 5  M p1 Q → KV B (wl 3 a (shR B.2.1 a)) yX1_readEither cX1_readEither 3 none frr loo [.ref (a 0), .int p1] M Q) (hRc6 : ∀ (M : S0) (p1 : Int32) (Q : S0 → Prop), Rc 6  M p1 Q → KV B (wl 3 a (shR B.2.1 a)) yX1_readPlain cX1_readPlain 2 none frr loo [.ref (a 0), .int p1] M Q) (hRc7 : ∀ (M : S0) (p1 : Int32) (Q : S0 → Prop), Rc 7  M p1 Q → KV B (wl 3 a (shR B.2.1 a)) yX1_readCompared cX1_readCompared 3 none frr loo [.ref (a 0), .int p1] M Q) (hfb : 12 ≤ frr) (hlb : 388 ≤ loo) (C : Ok B E cX1_readEither 3 RX1 (frr + 1) (loo + 23)) (hR : RetV B E cX1_readEither 3 (wl 3 a (shR B.2.1 a)) Q) : ∀ (n : Nat) (M : S0) (v1_7 : Int32) (v2_7 : Int32), w1_readEither_b7 Rc  Q n M v1_7 v2_7 → V B E 3 (wl 3 a (shR B.2.1 a) M) 7 [(0, .ref (a 0)), (1, .int v1_7), (2, .int v2_7)] [] := by
  intro n
  induction n with
  | zero =>
    intro M v1_7 v2_7  h
    exact h.elim
  | succ n ih =>
    intro M v1_7 v2_7  h
    rw [w1_readEither_b7] at h
    refine v_iload_n C 2 dX1_readEither_7 rfl rfl ?_
    refine v_sipush C dX1_readEither_8 (v := (160 : Int32)) (by decide) ?_
    refine v_icmp_ge C dX1_readEither_11 (tgt := 43) (by decide) (fun c => ?_) (fun c => ?_)
    · replace h := h.1 c
      exact hR _ _ _ h dX1_readEither_43
    · replace h := h.2 c
      refine v_aload_n C 0 dX1_readEither_14 rfl rfl ?_
      refine fX1_1_g_token C dX1_readEither_15 ?_
      refine v_iconst C dX1_readEither_18 (v := (4 : Int32)) (by decide) ?_
      refine v_icmp_ne C dX1_readEither_19 (tgt := 43) (by decide) (fun c => ?_) (fun c => ?_)
      · replace h := h.1 c
        exact hR _ _ _ h dX1_readEither_43
      · replace h := h.2 c
        refine v_aload_n C 0 dX1_readEither_22 rfl rfl ?_
        refine v_callVv (k := 0) (As := []) (rest := []) C (c1_next  h) eX1_54 (by omega) (by omega) (by decide) rfl rfl rfl rfl (Nat.le_of_ble_eq_true rfl) dX1_readEither_23 (fun M3 h => ?_)
        refine v_aload_n C 0 dX1_readEither_26 rfl rfl ?_
        refine v_iload_n C 1 dX1_readEither_27 rfl rfl ?_
        refine v_callVv (k := 0) (As := [.int v1_7]) (rest := []) C (hRc4 _ _ _  h) eX1_77 (by omega) (by omega) (by decide) rfl rfl rfl rfl (Nat.le_of_ble_eq_true rfl) dX1_readEither_28 (fun M4 h => ?_)
        refine v_aload_n C 0 dX1_readEither_31 rfl rfl ?_
        refine v_bipush C dX1_readEither_32 (v := (-18 : Int32)) (by decide) ?_
        refine v_callVv (k := 0) (As := [.int (-18 : Int32)]) (rest := []) C (c1_emit  h) eX1_80 (by omega) (by omega) (by decide) rfl rfl rfl rfl (Nat.le_of_ble_eq_true rfl) dX1_readEither_34 (fun M5 h => ?_)
        obtain ⟨x6, ex6⟩ : ∃ z : Int32, z = v2_7 + (1 : Int32) := ⟨_, rfl⟩
        replace h := h x6 ex6
        refine v_iinc (v := x6) (lv' := [(2, .int x6), (0, .ref (a 0)), (1, .int v1_7)]) C 2 dX1_readEither_37 rfl (by rw [ex6]; rfl) (by decide) rfl ?_
        refine v_goto C dX1_readEither_40 (tgt := 7) (by decide) ?_
        refine v_sub [1, 2, 0] rfl ?_
        exact ih M5 v1_7 x6  h
def w1_readEither_body (Rc : Nat → S0 → Int32 → (S0 → Prop) → Prop) (M : S0) (p1 : Int32) (Q : S0 → Prop) : Prop :=
    Rc 4 M p1 (fun M1 => ∃ n2, w1_readEither_b7 Rc  Q n2 M1 p1 (0 : Int32))
set_option maxHeartbeats 4000000 in
set_option maxRecDepth 20000 in
theorem c1_readEither_body {B : BX} {a : Nat → Nat} {Rc : Nat → S0 → Int32 → (S0 → Prop) → Prop} {frr loo : Nat} {M : S0} {p1 : Int32} {Q : S0 → Prop} (hRc0 : ∀ (M : S0) (p1 : Int32) (Q : S0 → Prop), Rc 0  M p1 Q → KV B (wl 3 a (shR B.2.1 a)) yX1_readOne cX1_readOne 4 none frr loo [.ref (a 0), .int p1] M Q) (hRc1 : ∀ (M : S0) (p1 : Int32) (Q : S0 → Prop), Rc 1  M p1 Q → KV B (wl 3 a (shR B.2.1 a)) yX1_readTerm cX1_readTerm 3 none frr loo [.ref (a 0), .int p1] M Q) (hRc2 : ∀ (M : S0) (p1 : Int32) (Q : S0 → Prop), Rc 2  M p1 Q → KV B (wl 3 a (shR B.2.1 a)) yX1_readSum cX1_readSum 4 none frr loo [.ref (a 0), .int p1] M Q) (hRc3 : ∀ (M : S0) (p1 : Int32) (Q : S0 → Prop), Rc 3  M p1 Q → KV B (wl 3 a (shR B.2.1 a)) yX1_readNot cX1_readNot 4 none frr loo [.ref (a 0), .int p1] M Q) (hRc4 : ∀ (M : S0) (p1 : Int32) (Q : S0 → Prop), Rc 4  M p1 Q → KV B (wl 3 a (shR B.2.1 a)) yX1_readBoth cX1_readBoth 3 none frr loo [.ref (a 0), .int p1] M Q) (hRc5 : ∀ (M : S0) (p1 : Int32) (Q : S0 → Prop), Rc 5  M p1 Q → KV B (wl 3 a (shR B.2.1 a)) yX1_readEither cX1_readEither 3 none frr loo [.ref (a 0), .int p1] M Q) (hRc6 : ∀ (M : S0) (p1 : Int32) (Q : S0 → Prop), Rc 6  M p1 Q → KV B (wl 3 a (shR B.2.1 a)) yX1_readPlain cX1_readPlain 2 none frr loo [.ref (a 0), .int p1] M Q) (hRc7 : ∀ (M : S0) (p1 : Int32) (Q : S0 → Prop), Rc 7  M p1 Q → KV B (wl 3 a (shR B.2.1 a)) yX1_readCompared cX1_readCompared 3 none frr loo [.ref (a 0), .int p1] M Q) (hfb : 12 ≤ frr) (hlb : 388 ≤ loo) (h : w1_readEither_body Rc M p1 Q) : KV B (wl 3 a (shR B.2.1 a)) yX1_readEither cX1_readEither 3 none (frr + 1) (loo + 23) [.ref (a 0), .int p1] M Q := by
  rw [w1_readEither_body] at h
  refine KV_of (by decide +kernel) (Nat.le_of_ble_eq_true rfl) (fun E C hR => ?_)
  change V B E 3 (wl 3 a (shR B.2.1 a) M) 0 [(0, .ref (a 0)), (1, .int p1)] []
  change Ok B E cX1_readEither 3 RX1 (frr + 1) (loo + 23) at C
  refine v_aload_n C 0 dX1_readEither_0 rfl rfl ?_
  refine v_iload_n C 1 dX1_readEither_1 rfl rfl ?_
  refine v_callVv (k := 0) (As := [.int p1]) (rest := []) C (hRc4 _ _ _  h) eX1_77 (by omega) (by omega) (by decide) rfl rfl rfl rfl (Nat.le_of_ble_eq_true rfl) dX1_readEither_2 (fun M1 h => ?_)
  refine v_iconst C dX1_readEither_5 (v := (0 : Int32)) (by decide) ?_
  refine v_istore_n (lv' := [(2, .int (0 : Int32)), (0, .ref (a 0)), (1, .int p1)]) C dX1_readEither_6 rfl (by decide) rfl ?_
  obtain ⟨n2, h⟩ := h
  refine v_sub [1, 2, 0] rfl ?_
  exact t1_readEither_b7  hRc0 hRc1 hRc2 hRc3 hRc4 hRc5 hRc6 hRc7 hfb hlb C hR  n2 M1 p1 (0 : Int32)  h
def w1_readPlain_body (Rc : Nat → S0 → Int32 → (S0 → Prop) → Prop) (M : S0) (p1 : Int32) (Q : S0 → Prop) : Prop :=
    ((¬ (M 0 6) = (7 : Int32)) → ((((M 0 6) < (10 : Int32)) → (((¬ (M 0 6) = (40 : Int32)) → (w1_fails M (fun M1 => Q M1))) ∧ (((M 0 6) = (40 : Int32)) → ((((5 : Int32) ≤ p1) → (w1_fails M (fun M2 => Q M2))) ∧ ((¬ (5 : Int32) ≤ p1) → (w1_next M (fun M3 => Rc 5 M3 (p1 + (1 : Int32)) (fun M4 => w1_expect M4 (41 : Int32) (fun M5 => Q M5))))))))) ∧ ((¬ (M 0 6) < (10 : Int32)) → ((((16 : Int32) ≤ (M 0 6)) → (((¬ (M 0 6) = (40 : Int32)) → (w1_fails M (fun M6 => Q M6))) ∧ (((M 0 6) = (40 : Int32)) → ((((5 : Int32) ≤ p1) → (w1_fails M (fun M7 => Q M7))) ∧ ((¬ (5 : Int32) ≤ p1) → (w1_next M (fun M8 => Rc 5 M8 (p1 + (1 : Int32)) (fun M9 => w1_expect M9 (41 : Int32) (fun M10 => Q M10))))))))) ∧ ((¬ (16 : Int32) ≤ (M 0 6)) → (w1_emit M ((9 : Int32) - (M 0 6)) (fun M11 => w1_next M11 (fun M12 => Q M12)))))))) ∧ (((M 0 6) = (7 : Int32)) → (w1_emit M (M 0 8) (fun M13 => w1_next M13 (fun M14 => Q M14))))
set_option maxHeartbeats 4000000 in
set_option maxRecDepth 20000 in
theorem c1_readPlain_body {B : BX} {a : Nat → Nat} {Rc : Nat → S0 → Int32 → (S0 → Prop) → Prop} {frr loo : Nat} {M : S0} {p1 : Int32} {Q : S0 → Prop} (hRc0 : ∀ (M : S0) (p1 : Int32) (Q : S0 → Prop), Rc 0  M p1 Q → KV B (wl 3 a (shR B.2.1 a)) yX1_readOne cX1_readOne 4 none frr loo [.ref (a 0), .int p1] M Q) (hRc1 : ∀ (M : S0) (p1 : Int32) (Q : S0 → Prop), Rc 1  M p1 Q → KV B (wl 3 a (shR B.2.1 a)) yX1_readTerm cX1_readTerm 3 none frr loo [.ref (a 0), .int p1] M Q) (hRc2 : ∀ (M : S0) (p1 : Int32) (Q : S0 → Prop), Rc 2  M p1 Q → KV B (wl 3 a (shR B.2.1 a)) yX1_readSum cX1_readSum 4 none frr loo [.ref (a 0), .int p1] M Q) (hRc3 : ∀ (M : S0) (p1 : Int32) (Q : S0 → Prop), Rc 3  M p1 Q → KV B (wl 3 a (shR B.2.1 a)) yX1_readNot cX1_readNot 4 none frr loo [.ref (a 0), .int p1] M Q) (hRc4 : ∀ (M : S0) (p1 : Int32) (Q : S0 → Prop), Rc 4  M p1 Q → KV B (wl 3 a (shR B.2.1 a)) yX1_readBoth cX1_readBoth 3 none frr loo [.ref (a 0), .int p1] M Q) (hRc5 : ∀ (M : S0) (p1 : Int32) (Q : S0 → Prop), Rc 5  M p1 Q → KV B (wl 3 a (shR B.2.1 a)) yX1_readEither cX1_readEither 3 none frr loo [.ref (a 0), .int p1] M Q) (hRc6 : ∀ (M : S0) (p1 : Int32) (Q : S0 → Prop), Rc 6  M p1 Q → KV B (wl 3 a (shR B.2.1 a)) yX1_readPlain cX1_readPlain 2 none frr loo [.ref (a 0), .int p1] M Q) (hRc7 : ∀ (M : S0) (p1 : Int32) (Q : S0 → Prop), Rc 7  M p1 Q → KV B (wl 3 a (shR B.2.1 a)) yX1_readCompared cX1_readCompared 3 none frr loo [.ref (a 0), .int p1] M Q) (hfb : 12 ≤ frr) (hlb : 388 ≤ loo) (h : w1_readPlain_body Rc M p1 Q) : KV B (wl 3 a (shR B.2.1 a)) yX1_readPlain cX1_readPlain 2 none (frr + 1) (loo + 23) [.ref (a 0), .int p1] M Q := by
  rw [w1_readPlain_body] at h
  refine KV_of (by decide +kernel) (Nat.le_of_ble_eq_true rfl) (fun E C hR => ?_)
  change V B E 2 (wl 3 a (shR B.2.1 a) M) 0 [(0, .ref (a 0)), (1, .int p1)] []
  change Ok B E cX1_readPlain 2 RX1 (frr + 1) (loo + 23) at C
  refine v_aload_n C 0 dX1_readPlain_0 rfl rfl ?_
  refine fX1_1_g_token C dX1_readPlain_1 ?_
  refine v_bipush C dX1_readPlain_4 (v := (7 : Int32)) (by decide) ?_
  refine v_icmp_ne C dX1_readPlain_6 (tgt := 24) (by decide) (fun c => ?_) (fun c => ?_)
  · replace h := h.1 c
    refine v_aload_n C 0 dX1_readPlain_24 rfl rfl ?_
    refine fX1_1_g_token C dX1_readPlain_25 ?_
    refine v_bipush C dX1_readPlain_28 (v := (10 : Int32)) (by decide) ?_
    refine v_icmp_lt C dX1_readPlain_30 (tgt := 60) (by decide) (fun c => ?_) (fun c => ?_)
    · replace h := h.1 c
      refine v_aload_n C 0 dX1_readPlain_60 rfl rfl ?_
      refine fX1_1_g_token C dX1_readPlain_61 ?_
      refine v_bipush C dX1_readPlain_64 (v := (40 : Int32)) (by decide) ?_
      refine v_icmp_ne C dX1_readPlain_66 (tgt := 94) (by decide) (fun c => ?_) (fun c => ?_)
      · replace h := h.1 c
        refine v_aload_n C 0 dX1_readPlain_94 rfl rfl ?_
        refine v_callVv (k := 0) (As := []) (rest := []) C (c1_fails  h) eX1_105 (by omega) (by omega) (by decide) rfl rfl rfl rfl (Nat.le_of_ble_eq_true rfl) dX1_readPlain_95 (fun M1 h => ?_)
        exact hR _ _ _ h dX1_readPlain_98
      · replace h := h.2 c
        refine v_iload_n C 1 dX1_readPlain_69 rfl rfl ?_
        refine v_iconst C dX1_readPlain_70 (v := (5 : Int32)) (by decide) ?_
        refine v_icmp_ge C dX1_readPlain_71 (tgt := 94) (by decide) (fun c => ?_) (fun c => ?_)
        · replace h := h.1 c
          refine v_aload_n C 0 dX1_readPlain_94 rfl rfl ?_
          refine v_callVv (k := 0) (As := []) (rest := []) C (c1_fails  h) eX1_105 (by omega) (by omega) (by decide) rfl rfl rfl rfl (Nat.le_of_ble_eq_true rfl) dX1_readPlain_95 (fun M2 h => ?_)
          exact hR _ _ _ h dX1_readPlain_98
        · replace h := h.2 c
          refine v_aload_n C 0 dX1_readPlain_74 rfl rfl ?_
          refine v_callVv (k := 0) (As := []) (rest := []) C (c1_next  h) eX1_54 (by omega) (by omega) (by decide) rfl rfl rfl rfl (Nat.le_of_ble_eq_true rfl) dX1_readPlain_75 (fun M3 h => ?_)
          refine v_aload_n C 0 dX1_readPlain_78 rfl rfl ?_
          refine v_iload_n C 1 dX1_readPlain_79 rfl rfl ?_
          refine v_iconst C dX1_readPlain_80 (v := (1 : Int32)) (by decide) ?_
          refine v_iadd C dX1_readPlain_81 ?_
          refine v_callVv (k := 0) (As := [.int (p1 + (1 : Int32))]) (rest := []) C (hRc5 _ _ _  h) eX1_61 (by omega) (by omega) (by decide) rfl rfl rfl rfl (Nat.le_of_ble_eq_true rfl) dX1_readPlain_82 (fun M4 h => ?_)
          refine v_aload_n C 0 dX1_readPlain_85 rfl rfl ?_
          refine v_bipush C dX1_readPlain_86 (v := (41 : Int32)) (by decide) ?_
          refine v_callVv (k := 0) (As := [.int (41 : Int32)]) (rest := []) C (c1_expect  h) eX1_57 (by omega) (by omega) (by decide) rfl rfl rfl rfl (Nat.le_of_ble_eq_true rfl) dX1_readPlain_88 (fun M5 h => ?_)
          refine v_goto C dX1_readPlain_91 (tgt := 98) (by decide) ?_
          exact hR _ _ _ h dX1_readPlain_98
    · replace h := h.2 c
      refine v_aload_n C 0 dX1_readPlain_33 rfl rfl ?_
      refine fX1_1_g_token C dX1_readPlain_34 ?_
      refine v_bipush C dX1_readPlain_37 (v := (16 : Int32)) (by decide) ?_
      refine v_icmp_ge C dX1_readPlain_39 (tgt := 60) (by decide) (fun c => ?_) (fun c => ?_)
      · replace h := h.1 c
        refine v_aload_n C 0 dX1_readPlain_60 rfl rfl ?_
        refine fX1_1_g_token C dX1_readPlain_61 ?_
        refine v_bipush C dX1_readPlain_64 (v := (40 : Int32)) (by decide) ?_
        refine v_icmp_ne C dX1_readPlain_66 (tgt := 94) (by decide) (fun c => ?_) (fun c => ?_)
        · replace h := h.1 c
          refine v_aload_n C 0 dX1_readPlain_94 rfl rfl ?_
          refine v_callVv (k := 0) (As := []) (rest := []) C (c1_fails  h) eX1_105 (by omega) (by omega) (by decide) rfl rfl rfl rfl (Nat.le_of_ble_eq_true rfl) dX1_readPlain_95 (fun M6 h => ?_)
          exact hR _ _ _ h dX1_readPlain_98
        · replace h := h.2 c
          refine v_iload_n C 1 dX1_readPlain_69 rfl rfl ?_
          refine v_iconst C dX1_readPlain_70 (v := (5 : Int32)) (by decide) ?_
          refine v_icmp_ge C dX1_readPlain_71 (tgt := 94) (by decide) (fun c => ?_) (fun c => ?_)
          · replace h := h.1 c
            refine v_aload_n C 0 dX1_readPlain_94 rfl rfl ?_
            refine v_callVv (k := 0) (As := []) (rest := []) C (c1_fails  h) eX1_105 (by omega) (by omega) (by decide) rfl rfl rfl rfl (Nat.le_of_ble_eq_true rfl) dX1_readPlain_95 (fun M7 h => ?_)
            exact hR _ _ _ h dX1_readPlain_98
          · replace h := h.2 c
            refine v_aload_n C 0 dX1_readPlain_74 rfl rfl ?_
            refine v_callVv (k := 0) (As := []) (rest := []) C (c1_next  h) eX1_54 (by omega) (by omega) (by decide) rfl rfl rfl rfl (Nat.le_of_ble_eq_true rfl) dX1_readPlain_75 (fun M8 h => ?_)
            refine v_aload_n C 0 dX1_readPlain_78 rfl rfl ?_
            refine v_iload_n C 1 dX1_readPlain_79 rfl rfl ?_
            refine v_iconst C dX1_readPlain_80 (v := (1 : Int32)) (by decide) ?_
            refine v_iadd C dX1_readPlain_81 ?_
            refine v_callVv (k := 0) (As := [.int (p1 + (1 : Int32))]) (rest := []) C (hRc5 _ _ _  h) eX1_61 (by omega) (by omega) (by decide) rfl rfl rfl rfl (Nat.le_of_ble_eq_true rfl) dX1_readPlain_82 (fun M9 h => ?_)
            refine v_aload_n C 0 dX1_readPlain_85 rfl rfl ?_
            refine v_bipush C dX1_readPlain_86 (v := (41 : Int32)) (by decide) ?_
            refine v_callVv (k := 0) (As := [.int (41 : Int32)]) (rest := []) C (c1_expect  h) eX1_57 (by omega) (by omega) (by decide) rfl rfl rfl rfl (Nat.le_of_ble_eq_true rfl) dX1_readPlain_88 (fun M10 h => ?_)
            refine v_goto C dX1_readPlain_91 (tgt := 98) (by decide) ?_
            exact hR _ _ _ h dX1_readPlain_98
      · replace h := h.2 c
        refine v_aload_n C 0 dX1_readPlain_42 rfl rfl ?_
        refine v_bipush C dX1_readPlain_43 (v := (9 : Int32)) (by decide) ?_
        refine v_aload_n C 0 dX1_readPlain_45 rfl rfl ?_
        refine fX1_1_g_token C dX1_readPlain_46 ?_
        refine v_isub C dX1_readPlain_49 ?_
        refine v_callVv (k := 0) (As := [.int ((9 : Int32) - (M 0 6))]) (rest := []) C (c1_emit  h) eX1_80 (by omega) (by omega) (by decide) rfl rfl rfl rfl (Nat.le_of_ble_eq_true rfl) dX1_readPlain_50 (fun M11 h => ?_)
        refine v_aload_n C 0 dX1_readPlain_53 rfl rfl ?_
        refine v_callVv (k := 0) (As := []) (rest := []) C (c1_next  h) eX1_54 (by omega) (by omega) (by decide) rfl rfl rfl rfl (Nat.le_of_ble_eq_true rfl) dX1_readPlain_54 (fun M12 h => ?_)
        refine v_goto C dX1_readPlain_57 (tgt := 98) (by decide) ?_
        exact hR _ _ _ h dX1_readPlain_98
  · replace h := h.2 c
    refine v_aload_n C 0 dX1_readPlain_9 rfl rfl ?_
    refine v_aload_n C 0 dX1_readPlain_10 rfl rfl ?_
    refine fX1_1_g_value C dX1_readPlain_11 ?_
    refine v_callVv (k := 0) (As := [.int (M 0 8)]) (rest := []) C (c1_emit  h) eX1_80 (by omega) (by omega) (by decide) rfl rfl rfl rfl (Nat.le_of_ble_eq_true rfl) dX1_readPlain_14 (fun M13 h => ?_)
    refine v_aload_n C 0 dX1_readPlain_17 rfl rfl ?_
    refine v_callVv (k := 0) (As := []) (rest := []) C (c1_next  h) eX1_54 (by omega) (by omega) (by decide) rfl rfl rfl rfl (Nat.le_of_ble_eq_true rfl) dX1_readPlain_18 (fun M14 h => ?_)
    refine v_goto C dX1_readPlain_21 (tgt := 98) (by decide) ?_
    exact hR _ _ _ h dX1_readPlain_98
def w1_readCompared_body (Rc : Nat → S0 → Int32 → (S0 → Prop) → Prop) (M : S0) (p1 : Int32) (Q : S0 → Prop) : Prop :=
    Rc 2 M p1 (fun M1 => (((M1 0 6) = (60 : Int32)) → (∀ x2 : Int32, x2 = (M1 0 6) → (w1_next M1 (fun M3 => Rc 2 M3 p1 (fun M4 => ((¬ x2 = (60 : Int32)) → (w1_emit M4 (-16 : Int32) (fun M5 => Q M5))) ∧ ((x2 = (60 : Int32)) → (w1_emit M4 (-15 : Int32) (fun M6 => Q M6)))))))) ∧ ((¬ (M1 0 6) = (60 : Int32)) → (((¬ (M1 0 6) = (61 : Int32)) → (Q M1)) ∧ (((M1 0 6) = (61 : Int32)) → (∀ x7 : Int32, x7 = (M1 0 6) → (w1_next M1 (fun M8 => Rc 2 M8 p1 (fun M9 => ((¬ x7 = (60 : Int32)) → (w1_emit M9 (-16 : Int32) (fun M10 => Q M10))) ∧ ((x7 = (60 : Int32)) → (w1_emit M9 (-15 : Int32) (fun M11 => Q M11)))))))))))
set_option maxHeartbeats 4000000 in
set_option maxRecDepth 20000 in
theorem c1_readCompared_body {B : BX} {a : Nat → Nat} {Rc : Nat → S0 → Int32 → (S0 → Prop) → Prop} {frr loo : Nat} {M : S0} {p1 : Int32} {Q : S0 → Prop} (hRc0 : ∀ (M : S0) (p1 : Int32) (Q : S0 → Prop), Rc 0  M p1 Q → KV B (wl 3 a (shR B.2.1 a)) yX1_readOne cX1_readOne 4 none frr loo [.ref (a 0), .int p1] M Q) (hRc1 : ∀ (M : S0) (p1 : Int32) (Q : S0 → Prop), Rc 1  M p1 Q → KV B (wl 3 a (shR B.2.1 a)) yX1_readTerm cX1_readTerm 3 none frr loo [.ref (a 0), .int p1] M Q) (hRc2 : ∀ (M : S0) (p1 : Int32) (Q : S0 → Prop), Rc 2  M p1 Q → KV B (wl 3 a (shR B.2.1 a)) yX1_readSum cX1_readSum 4 none frr loo [.ref (a 0), .int p1] M Q) (hRc3 : ∀ (M : S0) (p1 : Int32) (Q : S0 → Prop), Rc 3  M p1 Q → KV B (wl 3 a (shR B.2.1 a)) yX1_readNot cX1_readNot 4 none frr loo [.ref (a 0), .int p1] M Q) (hRc4 : ∀ (M : S0) (p1 : Int32) (Q : S0 → Prop), Rc 4  M p1 Q → KV B (wl 3 a (shR B.2.1 a)) yX1_readBoth cX1_readBoth 3 none frr loo [.ref (a 0), .int p1] M Q) (hRc5 : ∀ (M : S0) (p1 : Int32) (Q : S0 → Prop), Rc 5  M p1 Q → KV B (wl 3 a (shR B.2.1 a)) yX1_readEither cX1_readEither 3 none frr loo [.ref (a 0), .int p1] M Q) (hRc6 : ∀ (M : S0) (p1 : Int32) (Q : S0 → Prop), Rc 6  M p1 Q → KV B (wl 3 a (shR B.2.1 a)) yX1_readPlain cX1_readPlain 2 none frr loo [.ref (a 0), .int p1] M Q) (hRc7 : ∀ (M : S0) (p1 : Int32) (Q : S0 → Prop), Rc 7  M p1 Q → KV B (wl 3 a (shR B.2.1 a)) yX1_readCompared cX1_readCompared 3 none frr loo [.ref (a 0), .int p1] M Q) (hfb : 12 ≤ frr) (hlb : 388 ≤ loo) (h : w1_readCompared_body Rc M p1 Q) : KV B (wl 3 a (shR B.2.1 a)) yX1_readCompared cX1_readCompared 3 none (frr + 1) (loo + 23) [.ref (a 0), .int p1] M Q := by
  rw [w1_readCompared_body] at h
  refine KV_of (by decide +kernel) (Nat.le_of_ble_eq_true rfl) (fun E C hR => ?_)
  change V B E 3 (wl 3 a (shR B.2.1 a) M) 0 [(0, .ref (a 0)), (1, .int p1)] []
  change Ok B E cX1_readCompared 3 RX1 (frr + 1) (loo + 23) at C
  refine v_aload_n C 0 dX1_readCompared_0 rfl rfl ?_
  refine v_iload_n C 1 dX1_readCompared_1 rfl rfl ?_
  refine v_callVv (k := 0) (As := [.int p1]) (rest := []) C (hRc2 _ _ _  h) eX1_93 (by omega) (by omega) (by decide) rfl rfl rfl rfl (Nat.le_of_ble_eq_true rfl) dX1_readCompared_2 (fun M1 h => ?_)
  refine v_aload_n C 0 dX1_readCompared_5 rfl rfl ?_
  refine fX1_1_g_token C dX1_readCompared_6 ?_
  refine v_bipush C dX1_readCompared_9 (v := (60 : Int32)) (by decide) ?_
  refine v_icmp_eq C dX1_readCompared_11 (tgt := 23) (by decide) (fun c => ?_) (fun c => ?_)
  · replace h := h.1 c
    refine v_aload_n C 0 dX1_readCompared_23 rfl rfl ?_
    refine fX1_1_g_token C dX1_readCompared_24 ?_
    refine v_nmi (fun x2 ex2 => ?_)
    replace h := h x2 ex2
    refine v_istore_n (lv' := [(2, .int x2), (0, .ref (a 0)), (1, .int p1)]) C dX1_readCompared_27 rfl (by decide) rfl ?_
    refine v_aload_n C 1 dX1_readCompared_28 rfl rfl ?_
    refine v_callVv (k := 0) (As := []) (rest := []) C (c1_next  h) eX1_54 (by omega) (by omega) (by decide) rfl rfl rfl rfl (Nat.le_of_ble_eq_true rfl) dX1_readCompared_29 (fun M3 h => ?_)
    refine v_aload_n C 1 dX1_readCompared_32 rfl rfl ?_
    refine v_iload_n C 2 dX1_readCompared_33 rfl rfl ?_
    refine v_callVv (k := 0) (As := [.int p1]) (rest := []) C (hRc2 _ _ _  h) eX1_93 (by omega) (by omega) (by decide) rfl rfl rfl rfl (Nat.le_of_ble_eq_true rfl) dX1_readCompared_34 (fun M4 h => ?_)
    refine v_aload_n C 1 dX1_readCompared_37 rfl rfl ?_
    refine v_iload_n C 0 dX1_readCompared_38 rfl rfl ?_
    refine v_bipush C dX1_readCompared_39 (v := (60 : Int32)) (by decide) ?_
    refine v_icmp_ne C dX1_readCompared_41 (tgt := 49) (by decide) (fun c => ?_) (fun c => ?_)
    · replace h := h.1 c
      refine v_bipush C dX1_readCompared_49 (v := (-16 : Int32)) (by decide) ?_
      refine v_callVv (k := 0) (As := [.int (-16 : Int32)]) (rest := []) C (c1_emit  h) eX1_80 (by omega) (by omega) (by decide) rfl rfl rfl rfl (Nat.le_of_ble_eq_true rfl) dX1_readCompared_51 (fun M5 h => ?_)
      exact hR _ _ _ h dX1_readCompared_54
    · replace h := h.2 c
      refine v_bipush C dX1_readCompared_44 (v := (-15 : Int32)) (by decide) ?_
      refine v_goto C dX1_readCompared_46 (tgt := 51) (by decide) ?_
      refine v_callVv (k := 0) (As := [.int (-15 : Int32)]) (rest := []) C (c1_emit  h) eX1_80 (by omega) (by omega) (by decide) rfl rfl rfl rfl (Nat.le_of_ble_eq_true rfl) dX1_readCompared_51 (fun M6 h => ?_)
      exact hR _ _ _ h dX1_readCompared_54
  · replace h := h.2 c
    refine v_aload_n C 0 dX1_readCompared_14 rfl rfl ?_
    refine fX1_1_g_token C dX1_readCompared_15 ?_
    refine v_bipush C dX1_readCompared_18 (v := (61 : Int32)) (by decide) ?_
    refine v_icmp_ne C dX1_readCompared_20 (tgt := 54) (by decide) (fun c => ?_) (fun c => ?_)
    · replace h := h.1 c
      exact hR _ _ _ h dX1_readCompared_54
    · replace h := h.2 c
      refine v_aload_n C 0 dX1_readCompared_23 rfl rfl ?_
      refine fX1_1_g_token C dX1_readCompared_24 ?_
      refine v_nmi (fun x7 ex7 => ?_)
      replace h := h x7 ex7
      refine v_istore_n (lv' := [(2, .int x7), (0, .ref (a 0)), (1, .int p1)]) C dX1_readCompared_27 rfl (by decide) rfl ?_
      refine v_aload_n C 1 dX1_readCompared_28 rfl rfl ?_
      refine v_callVv (k := 0) (As := []) (rest := []) C (c1_next  h) eX1_54 (by omega) (by omega) (by decide) rfl rfl rfl rfl (Nat.le_of_ble_eq_true rfl) dX1_readCompared_29 (fun M8 h => ?_)
      refine v_aload_n C 1 dX1_readCompared_32 rfl rfl ?_
      refine v_iload_n C 2 dX1_readCompared_33 rfl rfl ?_
      refine v_callVv (k := 0) (As := [.int p1]) (rest := []) C (hRc2 _ _ _  h) eX1_93 (by omega) (by omega) (by decide) rfl rfl rfl rfl (Nat.le_of_ble_eq_true rfl) dX1_readCompared_34 (fun M9 h => ?_)
      refine v_aload_n C 1 dX1_readCompared_37 rfl rfl ?_
      refine v_iload_n C 0 dX1_readCompared_38 rfl rfl ?_
      refine v_bipush C dX1_readCompared_39 (v := (60 : Int32)) (by decide) ?_
      refine v_icmp_ne C dX1_readCompared_41 (tgt := 49) (by decide) (fun c => ?_) (fun c => ?_)
      · replace h := h.1 c
        refine v_bipush C dX1_readCompared_49 (v := (-16 : Int32)) (by decide) ?_
        refine v_callVv (k := 0) (As := [.int (-16 : Int32)]) (rest := []) C (c1_emit  h) eX1_80 (by omega) (by omega) (by decide) rfl rfl rfl rfl (Nat.le_of_ble_eq_true rfl) dX1_readCompared_51 (fun M10 h => ?_)
        exact hR _ _ _ h dX1_readCompared_54
      · replace h := h.2 c
        refine v_bipush C dX1_readCompared_44 (v := (-15 : Int32)) (by decide) ?_
        refine v_goto C dX1_readCompared_46 (tgt := 51) (by decide) ?_
        refine v_callVv (k := 0) (As := [.int (-15 : Int32)]) (rest := []) C (c1_emit  h) eX1_80 (by omega) (by omega) (by decide) rfl rfl rfl rfl (Nat.le_of_ble_eq_true rfl) dX1_readCompared_51 (fun M11 h => ?_)
        exact hR _ _ _ h dX1_readCompared_54
def w_PX : Nat → Nat → S0 → Int32 → (S0 → Prop) → Prop
  | 0, _, _, _, _ => False
  | d + 1, i, M, p1, Q => match i with
    | 0 => w1_readOne_body (w_PX d)  M p1 Q
    | 1 => w1_readTerm_body (w_PX d)  M p1 Q
    | 2 => w1_readSum_body (w_PX d)  M p1 Q
    | 3 => w1_readNot_body (w_PX d)  M p1 Q
    | 4 => w1_readBoth_body (w_PX d)  M p1 Q
    | 5 => w1_readEither_body (w_PX d)  M p1 Q
    | 6 => w1_readPlain_body (w_PX d)  M p1 Q
    | _ => w1_readCompared_body (w_PX d)  M p1 Q
theorem c_PX {B : BX} {a : Nat → Nat} : ∀ d : Nat, (∀ (M : S0) (p1 : Int32) (Q : S0 → Prop), w_PX d 0  M p1 Q → KV B (wl 3 a (shR B.2.1 a)) yX1_readOne cX1_readOne 4 none (12 + d) (388 + 23 * d) [.ref (a 0), .int p1] M Q) ∧ (∀ (M : S0) (p1 : Int32) (Q : S0 → Prop), w_PX d 1  M p1 Q → KV B (wl 3 a (shR B.2.1 a)) yX1_readTerm cX1_readTerm 3 none (12 + d) (388 + 23 * d) [.ref (a 0), .int p1] M Q) ∧ (∀ (M : S0) (p1 : Int32) (Q : S0 → Prop), w_PX d 2  M p1 Q → KV B (wl 3 a (shR B.2.1 a)) yX1_readSum cX1_readSum 4 none (12 + d) (388 + 23 * d) [.ref (a 0), .int p1] M Q) ∧ (∀ (M : S0) (p1 : Int32) (Q : S0 → Prop), w_PX d 3  M p1 Q → KV B (wl 3 a (shR B.2.1 a)) yX1_readNot cX1_readNot 4 none (12 + d) (388 + 23 * d) [.ref (a 0), .int p1] M Q) ∧ (∀ (M : S0) (p1 : Int32) (Q : S0 → Prop), w_PX d 4  M p1 Q → KV B (wl 3 a (shR B.2.1 a)) yX1_readBoth cX1_readBoth 3 none (12 + d) (388 + 23 * d) [.ref (a 0), .int p1] M Q) ∧ (∀ (M : S0) (p1 : Int32) (Q : S0 → Prop), w_PX d 5  M p1 Q → KV B (wl 3 a (shR B.2.1 a)) yX1_readEither cX1_readEither 3 none (12 + d) (388 + 23 * d) [.ref (a 0), .int p1] M Q) ∧ (∀ (M : S0) (p1 : Int32) (Q : S0 → Prop), w_PX d 6  M p1 Q → KV B (wl 3 a (shR B.2.1 a)) yX1_readPlain cX1_readPlain 2 none (12 + d) (388 + 23 * d) [.ref (a 0), .int p1] M Q) ∧ (∀ (M : S0) (p1 : Int32) (Q : S0 → Prop), w_PX d 7  M p1 Q → KV B (wl 3 a (shR B.2.1 a)) yX1_readCompared cX1_readCompared 3 none (12 + d) (388 + 23 * d) [.ref (a 0), .int p1] M Q) := by
  intro d
  induction d with
  | zero => exact ⟨fun _ _ _  h => h.elim, fun _ _ _  h => h.elim, fun _ _ _  h => h.elim, fun _ _ _  h => h.elim, fun _ _ _  h => h.elim, fun _ _ _  h => h.elim, fun _ _ _  h => h.elim, fun _ _ _  h => h.elim⟩
  | succ d ih =>
    exact ⟨fun M p1 Q  h => c1_readOne_body (frr := 12 + d) (loo := 388 + 23 * d)  ih.1 ih.2.1 ih.2.2.1 ih.2.2.2.1 ih.2.2.2.2.1 ih.2.2.2.2.2.1 ih.2.2.2.2.2.2.1 ih.2.2.2.2.2.2.2 (by omega) (by omega) h, fun M p1 Q  h => c1_readTerm_body (frr := 12 + d) (loo := 388 + 23 * d)  ih.1 ih.2.1 ih.2.2.1 ih.2.2.2.1 ih.2.2.2.2.1 ih.2.2.2.2.2.1 ih.2.2.2.2.2.2.1 ih.2.2.2.2.2.2.2 (by omega) (by omega) h, fun M p1 Q  h => c1_readSum_body (frr := 12 + d) (loo := 388 + 23 * d)  ih.1 ih.2.1 ih.2.2.1 ih.2.2.2.1 ih.2.2.2.2.1 ih.2.2.2.2.2.1 ih.2.2.2.2.2.2.1 ih.2.2.2.2.2.2.2 (by omega) (by omega) h, fun M p1 Q  h => c1_readNot_body (frr := 12 + d) (loo := 388 + 23 * d)  ih.1 ih.2.1 ih.2.2.1 ih.2.2.2.1 ih.2.2.2.2.1 ih.2.2.2.2.2.1 ih.2.2.2.2.2.2.1 ih.2.2.2.2.2.2.2 (by omega) (by omega) h, fun M p1 Q  h => c1_readBoth_body (frr := 12 + d) (loo := 388 + 23 * d)  ih.1 ih.2.1 ih.2.2.1 ih.2.2.2.1 ih.2.2.2.2.1 ih.2.2.2.2.2.1 ih.2.2.2.2.2.2.1 ih.2.2.2.2.2.2.2 (by omega) (by omega) h, fun M p1 Q  h => c1_readEither_body (frr := 12 + d) (loo := 388 + 23 * d)  ih.1 ih.2.1 ih.2.2.1 ih.2.2.2.1 ih.2.2.2.2.1 ih.2.2.2.2.2.1 ih.2.2.2.2.2.2.1 ih.2.2.2.2.2.2.2 (by omega) (by omega) h, fun M p1 Q  h => c1_readPlain_body (frr := 12 + d) (loo := 388 + 23 * d)  ih.1 ih.2.1 ih.2.2.1 ih.2.2.2.1 ih.2.2.2.2.1 ih.2.2.2.2.2.1 ih.2.2.2.2.2.2.1 ih.2.2.2.2.2.2.2 (by omega) (by omega) h, fun M p1 Q  h => c1_readCompared_body (frr := 12 + d) (loo := 388 + 23 * d)  ih.1 ih.2.1 ih.2.2.1 ih.2.2.2.1 ih.2.2.2.2.1 ih.2.2.2.2.2.1 ih.2.2.2.2.2.2.1 ih.2.2.2.2.2.2.2 (by omega) (by omega) h⟩
theorem c1_readOne {B : BX} {a : Nat → Nat} (d : Nat) {M : S0} {p1 : Int32} {Q : S0 → Prop} (h : w_PX d 0  M p1 Q) : KV B (wl 3 a (shR B.2.1 a)) yX1_readOne cX1_readOne 4 none (12 + d) (388 + 23 * d) [.ref (a 0), .int p1] M Q := (c_PX d).1 _ _ _  h
theorem c1_readTerm {B : BX} {a : Nat → Nat} (d : Nat) {M : S0} {p1 : Int32} {Q : S0 → Prop} (h : w_PX d 1  M p1 Q) : KV B (wl 3 a (shR B.2.1 a)) yX1_readTerm cX1_readTerm 3 none (12 + d) (388 + 23 * d) [.ref (a 0), .int p1] M Q := (c_PX d).2.1 _ _ _  h
theorem c1_readSum {B : BX} {a : Nat → Nat} (d : Nat) {M : S0} {p1 : Int32} {Q : S0 → Prop} (h : w_PX d 2  M p1 Q) : KV B (wl 3 a (shR B.2.1 a)) yX1_readSum cX1_readSum 4 none (12 + d) (388 + 23 * d) [.ref (a 0), .int p1] M Q := (c_PX d).2.2.1 _ _ _  h
theorem c1_readNot {B : BX} {a : Nat → Nat} (d : Nat) {M : S0} {p1 : Int32} {Q : S0 → Prop} (h : w_PX d 3  M p1 Q) : KV B (wl 3 a (shR B.2.1 a)) yX1_readNot cX1_readNot 4 none (12 + d) (388 + 23 * d) [.ref (a 0), .int p1] M Q := (c_PX d).2.2.2.1 _ _ _  h
theorem c1_readBoth {B : BX} {a : Nat → Nat} (d : Nat) {M : S0} {p1 : Int32} {Q : S0 → Prop} (h : w_PX d 4  M p1 Q) : KV B (wl 3 a (shR B.2.1 a)) yX1_readBoth cX1_readBoth 3 none (12 + d) (388 + 23 * d) [.ref (a 0), .int p1] M Q := (c_PX d).2.2.2.2.1 _ _ _  h
theorem c1_readEither {B : BX} {a : Nat → Nat} (d : Nat) {M : S0} {p1 : Int32} {Q : S0 → Prop} (h : w_PX d 5  M p1 Q) : KV B (wl 3 a (shR B.2.1 a)) yX1_readEither cX1_readEither 3 none (12 + d) (388 + 23 * d) [.ref (a 0), .int p1] M Q := (c_PX d).2.2.2.2.2.1 _ _ _  h
theorem c1_readPlain {B : BX} {a : Nat → Nat} (d : Nat) {M : S0} {p1 : Int32} {Q : S0 → Prop} (h : w_PX d 6  M p1 Q) : KV B (wl 3 a (shR B.2.1 a)) yX1_readPlain cX1_readPlain 2 none (12 + d) (388 + 23 * d) [.ref (a 0), .int p1] M Q := (c_PX d).2.2.2.2.2.2.1 _ _ _  h
theorem c1_readCompared {B : BX} {a : Nat → Nat} (d : Nat) {M : S0} {p1 : Int32} {Q : S0 → Prop} (h : w_PX d 7  M p1 Q) : KV B (wl 3 a (shR B.2.1 a)) yX1_readCompared cX1_readCompared 3 none (12 + d) (388 + 23 * d) [.ref (a 0), .int p1] M Q := (c_PX d).2.2.2.2.2.2.2 _ _ _  h
def w2_isMissing (g : GX) (k0 : Nat) (M : S0) (Q : Int32 → S0 → Prop) : Prop :=
    ((¬ (M k0 1) = (-1 : Int32)) → (Q (0 : Int32) M)) ∧ (((M k0 1) = (-1 : Int32)) → (Q (1 : Int32) M))
set_option maxHeartbeats 4000000 in
set_option maxRecDepth 20000 in
theorem c2_isMissing {B : BX} {a : Nat → Nat} {g : GX} {k0 : Nat} {M : S0} {Q : Int32 → S0 → Prop} (hp_k0 : isSheet k0) (h : w2_isMissing g k0 M  Q) : KI B (wl (66 + 3 * g.2) a (shX B.2.1 a g.1)) yX2_isMissing cX2_isMissing 1 (some .boolean) 0 0 [.ref (a k0)] M Q := by
  rw [w2_isMissing] at h
  refine KZ_of (by decide +kernel) (Nat.le_of_ble_eq_true rfl) (fun E C hR => ?_)
  change V B E 1 (wl (66 + 3 * g.2) a (shX B.2.1 a g.1) M) 0 [(0, .ref (a k0))] []
  change Ok B E cX2_isMissing 1 RX2 0 0 at C
  refine v_aload_n C 0 dX2_isMissing_0 rfl rfl ?_
  refine fX2_2_g_sort C hp_k0 dX2_isMissing_1 ?_
  refine v_iconst C dX2_isMissing_4 (v := (-1 : Int32)) (by decide) ?_
  refine v_icmp_ne C dX2_isMissing_5 (tgt := 12) (by decide) (fun c => ?_) (fun c => ?_)
  · replace h := h.1 c
    refine v_iconst C dX2_isMissing_12 (v := (0 : Int32)) (by decide) ?_
    exact hR _ _ _ _ rfl h dX2_isMissing_13
  · replace h := h.2 c
    refine v_iconst C dX2_isMissing_8 (v := (1 : Int32)) (by decide) ?_
    refine v_goto C dX2_isMissing_9 (tgt := 13) (by decide) ?_
    exact hR _ _ _ _ rfl h dX2_isMissing_13
def w2_becomes_b18 (g : GX) (k0 : Nat) (Q : S0 → Prop) : Nat → S0 → Int32 → Prop
  | 0, _, _ => False
  | n + 1, M, v3_18 =>
    (((40 : Int32) ≤ v3_18) → (Q M)) ∧ ((¬ (40 : Int32) ≤ v3_18) → ((vp_in v3_18 40) ∧ (∀ M7 : S0, M7 = up M (k0 + 1) (Int32.toNatClampNeg v3_18) (0 : Int32) → (∀ x8 : Int32, x8 = v3_18 + (1 : Int32) → (w2_becomes_b18 g k0  Q n M7 x8)))))
set_option maxHeartbeats 4000000 in
set_option maxRecDepth 20000 in
theorem t2_becomes_b18 {B : BX} {E : EX} {a : Nat → Nat} {g : GX} {k0 : Nat} {Q : S0 → Prop} (hp_k0 : isSheet k0) (C : Ok B E cX2_becomes 4 RX2 1 22) (hR : RetV B E cX2_becomes 4 (wl (66 + 3 * g.2) a (shX B.2.1 a g.1)) Q) : ∀ (n : Nat) (M : S0) (v3_18 : Int32), w2_becomes_b18 g k0  Q n M v3_18 → V B E 4 (wl (66 + 3 * g.2) a (shX B.2.1 a g.1) M) 18 [(0, .ref (a k0)), (3, .int v3_18)] [] := by
  intro n
  induction n with
  | zero =>
    intro M v3_18  h
    exact h.elim
  | succ n ih =>
    intro M v3_18  h
    rw [w2_becomes_b18] at h
    refine v_iload_n C 1 dX2_becomes_18 rfl rfl ?_
    refine v_bipush C dX2_becomes_19 (v := (40 : Int32)) (by decide) ?_
    refine v_icmp_ge C dX2_becomes_21 (tgt := 37) (by decide) (fun c => ?_) (fun c => ?_)
    · replace h := h.1 c
      exact hR _ _ _ h dX2_becomes_37
    · replace h := h.2 c
      refine v_aload_n C 0 dX2_becomes_24 rfl rfl ?_
      refine fX2_2_g_items C hp_k0 dX2_becomes_25 ?_
      refine v_iload_n C 1 dX2_becomes_28 rfl rfl ?_
      refine v_iconst C dX2_becomes_29 (v := (0 : Int32)) (by decide) ?_
      obtain ⟨hi6, h⟩ := h
      refine v_iast (k := (k0 + 1)) C (xlt_s hp_k0 (by decide)) (sh_s1 hp_k0) hi6 dX2_becomes_30 ?_
      obtain ⟨M7, eM7⟩ : ∃ z : S0, z = up M (k0 + 1) (Int32.toNatClampNeg v3_18) (0 : Int32) := ⟨_, rfl⟩
      rw [← eM7]
      replace h := h M7 eM7
      obtain ⟨x8, ex8⟩ : ∃ z : Int32, z = v3_18 + (1 : Int32) := ⟨_, rfl⟩
      replace h := h x8 ex8
      refine v_iinc (v := x8) (lv' := [(3, .int x8), (0, .ref (a k0))]) C 1 dX2_becomes_31 rfl (by rw [ex8]; rfl) (by decide) rfl ?_
      refine v_goto C dX2_becomes_34 (tgt := 18) (by decide) ?_
      refine v_sub [1, 0] rfl ?_
      exact ih M7 x8  h
def w2_becomes (g : GX) (k0 : Nat) (M : S0) (p1 : Int32) (p2 : Int32) (Q : S0 → Prop) : Prop :=
    ∀ M1 : S0, M1 = up M k0 1 p1 → (w5_bounded g M1 p2 (0 : Int32) (40 : Int32) (fun r3 M2 => ∀ M4 : S0, M4 = up M2 k0 2 r3 → (∃ n5, w2_becomes_b18 g k0  Q n5 M4 (0 : Int32))))
set_option maxHeartbeats 4000000 in
set_option maxRecDepth 20000 in
theorem c2_becomes {B : BX} {a : Nat → Nat} {g : GX} {k0 : Nat} {M : S0} {p1 : Int32} {p2 : Int32} {Q : S0 → Prop} (hp_k0 : isSheet k0) (h : w2_becomes g k0 M p1 p2 Q) : KV B (wl (66 + 3 * g.2) a (shX B.2.1 a g.1)) yX2_becomes cX2_becomes 4 none 1 22 [.ref (a k0), .int p1, .int p2] M Q := by
  rw [w2_becomes] at h
  refine KV_of (by decide +kernel) (Nat.le_of_ble_eq_true rfl) (fun E C hR => ?_)
  change V B E 4 (wl (66 + 3 * g.2) a (shX B.2.1 a g.1) M) 0 [(0, .ref (a k0)), (1, .int p1), (2, .int p2)] []
  change Ok B E cX2_becomes 4 RX2 1 22 at C
  refine v_aload_n C 0 dX2_becomes_0 rfl rfl ?_
  refine v_iload_n C 1 dX2_becomes_1 rfl rfl ?_
  refine fX2_2_p_sort C hp_k0 dX2_becomes_2 (fun M1 eM1 => ?_)
  replace h := h M1 eM1
  refine v_aload_n C 0 dX2_becomes_5 rfl rfl ?_
  refine v_iload_n C 2 dX2_becomes_6 rfl rfl ?_
  refine v_iconst C dX2_becomes_7 (v := (0 : Int32)) (by decide) ?_
  refine v_bipush C dX2_becomes_8 (v := (40 : Int32)) (by decide) ?_
  refine v_callNi (As := [.int p2, .int (0 : Int32), .int (40 : Int32)]) (rest := [.ref (a k0)]) C (c5_bounded  h) eX2_22 (by omega) (by omega) rfl rfl (Nat.le_of_ble_eq_true rfl) dX2_becomes_10 (fun r3 M2 h => ?_)
  refine fX2_2_p_size C hp_k0 dX2_becomes_13 (fun M4 eM4 => ?_)
  replace h := h M4 eM4
  refine v_iconst C dX2_becomes_16 (v := (0 : Int32)) (by decide) ?_
  refine v_istore_n (lv' := [(3, .int (0 : Int32)), (0, .ref (a k0)), (1, .int p1), (2, .int p2)]) C dX2_becomes_17 rfl (by decide) rfl ?_
  obtain ⟨n5, h⟩ := h
  refine v_sub [1, 0] rfl ?_
  exact t2_becomes_b18 hp_k0  C hR  n5 M4 (0 : Int32)  h
def w2_holds (g : GX) (k0 : Nat) (M : S0) (p1 : Int32) (p2 : Int32) (Q : Int32 → S0 → Prop) : Prop :=
    ((p1 < 0) → (Q (0 : Int32) M)) ∧ ((¬ p1 < 0) → (((p2 < 0) → (Q (0 : Int32) M)) ∧ ((¬ p2 < 0) → ((((M k0 2) < p2) → (Q (0 : Int32) M)) ∧ ((¬ (M k0 2) < p2) → (((((M k0 2) - p2) < p1) → (Q (0 : Int32) M)) ∧ ((¬ ((M k0 2) - p2) < p1) → (Q (1 : Int32) M))))))))
set_option maxHeartbeats 4000000 in
set_option maxRecDepth 20000 in
theorem c2_holds {B : BX} {a : Nat → Nat} {g : GX} {k0 : Nat} {M : S0} {p1 : Int32} {p2 : Int32} {Q : Int32 → S0 → Prop} (hp_k0 : isSheet k0) (h : w2_holds g k0 M p1 p2 Q) : KI B (wl (66 + 3 * g.2) a (shX B.2.1 a g.1)) yX2_holds cX2_holds 3 (some .boolean) 0 0 [.ref (a k0), .int p1, .int p2] M Q := by
  rw [w2_holds] at h
  refine KZ_of (by decide +kernel) (Nat.le_of_ble_eq_true rfl) (fun E C hR => ?_)
  change V B E 3 (wl (66 + 3 * g.2) a (shX B.2.1 a g.1) M) 0 [(0, .ref (a k0)), (1, .int p1), (2, .int p2)] []
  change Ok B E cX2_holds 3 RX2 0 0 at C
  refine v_iload_n C 1 dX2_holds_0 rfl rfl ?_
  refine v_if_lt C dX2_holds_1 (tgt := 30) (by decide) (fun c => ?_) (fun c => ?_)
  · replace h := h.1 c
    refine v_iconst C dX2_holds_30 (v := (0 : Int32)) (by decide) ?_
    exact hR _ _ _ _ rfl h dX2_holds_31
  · replace h := h.2 c
    refine v_iload_n C 2 dX2_holds_4 rfl rfl ?_
    refine v_if_lt C dX2_holds_5 (tgt := 30) (by decide) (fun c => ?_) (fun c => ?_)
    · replace h := h.1 c
      refine v_iconst C dX2_holds_30 (v := (0 : Int32)) (by decide) ?_
      exact hR _ _ _ _ rfl h dX2_holds_31
    · replace h := h.2 c
      refine v_iload_n C 2 dX2_holds_8 rfl rfl ?_
      refine v_aload_n C 0 dX2_holds_9 rfl rfl ?_
      refine fX2_2_g_size C hp_k0 dX2_holds_10 ?_
      refine v_icmp_gt C dX2_holds_13 (tgt := 30) (by decide) (fun c => ?_) (fun c => ?_)
      · replace h := h.1 c
        refine v_iconst C dX2_holds_30 (v := (0 : Int32)) (by decide) ?_
        exact hR _ _ _ _ rfl h dX2_holds_31
      · replace h := h.2 c
        refine v_iload_n C 1 dX2_holds_16 rfl rfl ?_
        refine v_aload_n C 0 dX2_holds_17 rfl rfl ?_
        refine fX2_2_g_size C hp_k0 dX2_holds_18 ?_
        refine v_iload_n C 2 dX2_holds_21 rfl rfl ?_
        refine v_isub C dX2_holds_22 ?_
        refine v_icmp_gt C dX2_holds_23 (tgt := 30) (by decide) (fun c => ?_) (fun c => ?_)
        · replace h := h.1 c
          refine v_iconst C dX2_holds_30 (v := (0 : Int32)) (by decide) ?_
          exact hR _ _ _ _ rfl h dX2_holds_31
        · replace h := h.2 c
          refine v_iconst C dX2_holds_26 (v := (1 : Int32)) (by decide) ?_
          refine v_goto C dX2_holds_27 (tgt := 31) (by decide) ?_
          exact hR _ _ _ _ rfl h dX2_holds_31
def w2_item (g : GX) (k0 : Nat) (M : S0) (p1 : Int32) (Q : Int32 → S0 → Prop) : Prop :=
    ((p1 < 0) → (Q (0 : Int32) M)) ∧ ((¬ p1 < 0) → ((((M k0 2) ≤ p1) → (Q (0 : Int32) M)) ∧ ((¬ (M k0 2) ≤ p1) → ((((40 : Int32) ≤ p1) → (Q (0 : Int32) M)) ∧ ((¬ (40 : Int32) ≤ p1) → ((vp_in p1 40) ∧ (Q (M (k0 + 1) (Int32.toNatClampNeg p1)) M)))))))
set_option maxHeartbeats 4000000 in
set_option maxRecDepth 20000 in
theorem c2_item {B : BX} {a : Nat → Nat} {g : GX} {k0 : Nat} {M : S0} {p1 : Int32} {Q : Int32 → S0 → Prop} (hp_k0 : isSheet k0) (h : w2_item g k0 M p1 Q) : KI B (wl (66 + 3 * g.2) a (shX B.2.1 a g.1)) yX2_item cX2_item 2 (some .int) 0 0 [.ref (a k0), .int p1] M Q := by
  rw [w2_item] at h
  refine KI_of (by decide +kernel) (Nat.le_of_ble_eq_true rfl) (fun E C hR => ?_)
  change V B E 2 (wl (66 + 3 * g.2) a (shX B.2.1 a g.1) M) 0 [(0, .ref (a k0)), (1, .int p1)] []
  change Ok B E cX2_item 2 RX2 0 0 at C
  refine v_iload_n C 1 dX2_item_0 rfl rfl ?_
  refine v_if_lt C dX2_item_1 (tgt := 27) (by decide) (fun c => ?_) (fun c => ?_)
  · replace h := h.1 c
    refine v_iconst C dX2_item_27 (v := (0 : Int32)) (by decide) ?_
    exact hR _ _ _ _ h dX2_item_28
  · replace h := h.2 c
    refine v_iload_n C 1 dX2_item_4 rfl rfl ?_
    refine v_aload_n C 0 dX2_item_5 rfl rfl ?_
    refine fX2_2_g_size C hp_k0 dX2_item_6 ?_
    refine v_icmp_ge C dX2_item_9 (tgt := 27) (by decide) (fun c => ?_) (fun c => ?_)
    · replace h := h.1 c
      refine v_iconst C dX2_item_27 (v := (0 : Int32)) (by decide) ?_
      exact hR _ _ _ _ h dX2_item_28
    · replace h := h.2 c
      refine v_iload_n C 1 dX2_item_12 rfl rfl ?_
      refine v_bipush C dX2_item_13 (v := (40 : Int32)) (by decide) ?_
      refine v_icmp_ge C dX2_item_15 (tgt := 27) (by decide) (fun c => ?_) (fun c => ?_)
      · replace h := h.1 c
        refine v_iconst C dX2_item_27 (v := (0 : Int32)) (by decide) ?_
        exact hR _ _ _ _ h dX2_item_28
      · replace h := h.2 c
        refine v_aload_n C 0 dX2_item_18 rfl rfl ?_
        refine fX2_2_g_items C hp_k0 dX2_item_19 ?_
        refine v_iload_n C 1 dX2_item_22 rfl rfl ?_
        obtain ⟨hi1, h⟩ := h
        refine v_iald (k := (k0 + 1)) C (xlt_s hp_k0 (by decide)) (sh_s1 hp_k0 _) hi1 dX2_item_23 ?_
        refine v_goto C dX2_item_24 (tgt := 28) (by decide) ?_
        exact hR _ _ _ _ h dX2_item_28
def w2_put (g : GX) (k0 : Nat) (M : S0) (p1 : Int32) (p2 : Int32) (Q : S0 → Prop) : Prop :=
    ((p1 < 0) → (Q M)) ∧ ((¬ p1 < 0) → ((((M k0 2) ≤ p1) → (Q M)) ∧ ((¬ (M k0 2) ≤ p1) → ((((40 : Int32) ≤ p1) → (Q M)) ∧ ((¬ (40 : Int32) ≤ p1) → (((¬ (M k0 1) = 0) → (((¬ (M k0 1) = (1 : Int32)) → ((vp_in p1 40) ∧ (∀ M2 : S0, M2 = up M (k0 + 1) (Int32.toNatClampNeg p1) p2 → (Q M2)))) ∧ (((M k0 1) = (1 : Int32)) → ((vp_in p1 40) ∧ (∀ M4 : S0, M4 = up M (k0 + 1) (Int32.toNatClampNeg p1) (p2.toInt16.toInt32) → (Q M4)))))) ∧ (((M k0 1) = 0) → ((vp_in p1 40) ∧ (∀ M6 : S0, M6 = up M (k0 + 1) (Int32.toNatClampNeg p1) (p2.toInt8.toInt32) → (Q M6))))))))))
set_option maxHeartbeats 4000000 in
set_option maxRecDepth 20000 in
theorem c2_put {B : BX} {a : Nat → Nat} {g : GX} {k0 : Nat} {M : S0} {p1 : Int32} {p2 : Int32} {Q : S0 → Prop} (hp_k0 : isSheet k0) (h : w2_put g k0 M p1 p2 Q) : KV B (wl (66 + 3 * g.2) a (shX B.2.1 a g.1)) yX2_put cX2_put 3 none 0 0 [.ref (a k0), .int p1, .int p2] M Q := by
  rw [w2_put] at h
  refine KV_of (by decide +kernel) (Nat.le_of_ble_eq_true rfl) (fun E C hR => ?_)
  change V B E 3 (wl (66 + 3 * g.2) a (shX B.2.1 a g.1) M) 0 [(0, .ref (a k0)), (1, .int p1), (2, .int p2)] []
  change Ok B E cX2_put 3 RX2 0 0 at C
  refine v_iload_n C 1 dX2_put_0 rfl rfl ?_
  refine v_if_lt C dX2_put_1 (tgt := 50) (by decide) (fun c => ?_) (fun c => ?_)
  · replace h := h.1 c
    exact hR _ _ _ h dX2_put_50
  · replace h := h.2 c
    refine v_iload_n C 1 dX2_put_4 rfl rfl ?_
    refine v_aload_n C 0 dX2_put_5 rfl rfl ?_
    refine fX2_2_g_size C hp_k0 dX2_put_6 ?_
    refine v_icmp_ge C dX2_put_9 (tgt := 50) (by decide) (fun c => ?_) (fun c => ?_)
    · replace h := h.1 c
      exact hR _ _ _ h dX2_put_50
    · replace h := h.2 c
      refine v_iload_n C 1 dX2_put_12 rfl rfl ?_
      refine v_bipush C dX2_put_13 (v := (40 : Int32)) (by decide) ?_
      refine v_icmp_ge C dX2_put_15 (tgt := 50) (by decide) (fun c => ?_) (fun c => ?_)
      · replace h := h.1 c
        exact hR _ _ _ h dX2_put_50
      · replace h := h.2 c
        refine v_aload_n C 0 dX2_put_18 rfl rfl ?_
        refine fX2_2_g_items C hp_k0 dX2_put_19 ?_
        refine v_iload_n C 1 dX2_put_22 rfl rfl ?_
        refine v_aload_n C 0 dX2_put_23 rfl rfl ?_
        refine fX2_2_g_sort C hp_k0 dX2_put_24 ?_
        refine v_if_ne C dX2_put_27 (tgt := 35) (by decide) (fun c => ?_) (fun c => ?_)
        · replace h := h.1 c
          refine v_aload_n C 0 dX2_put_35 rfl rfl ?_
          refine fX2_2_g_sort C hp_k0 dX2_put_36 ?_
          refine v_iconst C dX2_put_39 (v := (1 : Int32)) (by decide) ?_
          refine v_icmp_ne C dX2_put_40 (tgt := 48) (by decide) (fun c => ?_) (fun c => ?_)
          · replace h := h.1 c
            refine v_iload_n C 2 dX2_put_48 rfl rfl ?_
            obtain ⟨hi1, h⟩ := h
            refine v_iast (k := (k0 + 1)) C (xlt_s hp_k0 (by decide)) (sh_s1 hp_k0) hi1 dX2_put_49 ?_
            obtain ⟨M2, eM2⟩ : ∃ z : S0, z = up M (k0 + 1) (Int32.toNatClampNeg p1) p2 := ⟨_, rfl⟩
            rw [← eM2]
            replace h := h M2 eM2
            exact hR _ _ _ h dX2_put_50
          · replace h := h.2 c
            refine v_iload_n C 2 dX2_put_43 rfl rfl ?_
            refine v_i2s C dX2_put_44 ?_
            refine v_goto C dX2_put_45 (tgt := 49) (by decide) ?_
            obtain ⟨hi3, h⟩ := h
            refine v_iast (k := (k0 + 1)) C (xlt_s hp_k0 (by decide)) (sh_s1 hp_k0) hi3 dX2_put_49 ?_
            obtain ⟨M4, eM4⟩ : ∃ z : S0, z = up M (k0 + 1) (Int32.toNatClampNeg p1) (p2.toInt16.toInt32) := ⟨_, rfl⟩
            rw [← eM4]
            replace h := h M4 eM4
            exact hR _ _ _ h dX2_put_50
        · replace h := h.2 c
          refine v_iload_n C 2 dX2_put_30 rfl rfl ?_
          refine v_i2b C dX2_put_31 ?_
          refine v_goto C dX2_put_32 (tgt := 49) (by decide) ?_
          obtain ⟨hi5, h⟩ := h
          refine v_iast (k := (k0 + 1)) C (xlt_s hp_k0 (by decide)) (sh_s1 hp_k0) hi5 dX2_put_49 ?_
          obtain ⟨M6, eM6⟩ : ∃ z : S0, z = up M (k0 + 1) (Int32.toNatClampNeg p1) (p2.toInt8.toInt32) := ⟨_, rfl⟩
          rw [← eM6]
          replace h := h M6 eM6
          exact hR _ _ _ h dX2_put_50
def w5_setRound (g : GX) (M : S0) (p1 : Int32) (Q : Int32 → S0 → Prop) : Prop :=
    w5_isWithin g M p1 (0 : Int32) (999 : Int32) (fun r2 M1 => ((¬ r2 = 0) → (∀ x3 : Int32, x3 = (M1 10 8) → (∀ M4 : S0, M4 = up M1 10 8 p1 → (Q x3 M4)))) ∧ ((r2 = 0) → (Q (-1000 : Int32) M1)))
set_option maxHeartbeats 4000000 in
set_option maxRecDepth 20000 in
theorem c5_setRound {B : BX} {a : Nat → Nat} {g : GX} {M : S0} {p1 : Int32} {Q : Int32 → S0 → Prop} (h : w5_setRound g M p1 Q) : KI B (wl (66 + 3 * g.2) a (shX B.2.1 a g.1)) yX5_setRound cX5_setRound 3 (some .int) 1 22 [.ref (a 0), .int p1] M Q := by
  rw [w5_setRound] at h
  refine KI_of (by decide +kernel) (Nat.le_of_ble_eq_true rfl) (fun E C hR => ?_)
  change V B E 3 (wl (66 + 3 * g.2) a (shX B.2.1 a g.1) M) 0 [(0, .ref (a 0)), (1, .int p1)] []
  change Ok B E cX5_setRound 3 RX5 1 22 at C
  refine v_iload_n C 1 dX5_setRound_0 rfl rfl ?_
  refine v_iconst C dX5_setRound_1 (v := (0 : Int32)) (by decide) ?_
  refine v_sipush C dX5_setRound_2 (v := (999 : Int32)) (by decide) ?_
  refine v_callSi (As := [.int p1, .int (0 : Int32), .int (999 : Int32)]) (rest := []) C (c5_isWithin  h) eX5_82 (by omega) (by omega) rfl rfl (Nat.le_of_ble_eq_true rfl) dX5_setRound_5 (fun r2 M1 h => ?_)
  refine v_if_ne C dX5_setRound_8 (tgt := 15) (by decide) (fun c => ?_) (fun c => ?_)
  · replace h := h.1 c
    refine v_aload_n C 0 dX5_setRound_15 rfl rfl ?_
    refine fX5_5_g_now C dX5_setRound_16 ?_
    refine fX5_0_g_round C cl_10 dX5_setRound_19 ?_
    refine v_nmi (fun x3 ex3 => ?_)
    replace h := h x3 ex3
    refine v_istore_n (lv' := [(2, .int x3), (0, .ref (a 0)), (1, .int p1)]) C dX5_setRound_22 rfl (by decide) rfl ?_
    refine v_aload_n C 1 dX5_setRound_23 rfl rfl ?_
    refine fX5_5_g_now C dX5_setRound_24 ?_
    refine v_iload_n C 2 dX5_setRound_27 rfl rfl ?_
    refine fX5_0_p_round C cl_10 dX5_setRound_28 (fun M4 eM4 => ?_)
    replace h := h M4 eM4
    refine v_iload_n C 0 dX5_setRound_31 rfl rfl ?_
    exact hR _ _ _ _ h dX5_setRound_32
  · replace h := h.2 c
    refine v_sipush C dX5_setRound_11 (v := (-1000 : Int32)) (by decide) ?_
    exact hR _ _ _ _ h dX5_setRound_14
