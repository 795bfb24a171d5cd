/-! Reader.madeCode, Reader.read, Texts.add: on the machine -/
section VPE
variable {B : BX} {E : EX} {nL : Nat} {w : va_W} {pc : Nat} {lv : List (Nat × Value)} {st : List Value}
theorem v_permE {w' : va_W} (g : Nat → Nat) (h1 : ∀ (k : Nat) (q : Nat × va_E), w'[k]? = some q → ∃ e, w[g k]? = some (q.1, e) ∧ ∀ (D : va_G) (cl : List vw_C) (H : Heap), va_at D cl (q.1, e) H → va_at D cl q H) (h2 : ∀ i j : Nat, i < w'.length → j < w'.length → g i = g j → i = j) (k : V B E nL w' pc lv st) : V B E nL w pc lv st := by
  obtain ⟨p, l, e, R, s, m, args, below, meth, c, A, Z, k9, n9⟩ := E
  intro H locs ls hP hD hS hl
  refine k H locs ls (fun k q hk => ?_) ⟨fun i j p q hi hj hpq => ?_, fun k q hk => ?_⟩ hS hl
  · obtain ⟨e, h3, h4⟩ := h1 k q hk
    exact h4 _ _ _ (hP _ _ h3)
  · obtain ⟨e1, h3, _⟩ := h1 i p hi
    obtain ⟨e2, h5, _⟩ := h1 j q hj
    exact h2 i j (List.getElem?_eq_some_iff.mp hi).1 (List.getElem?_eq_some_iff.mp hj).1 (hD.1 _ _ _ _ h3 h5 hpq)
  · obtain ⟨e, h3, _⟩ := h1 k q hk
    exact hD.2 _ (q.1, e) h3
theorem v_sub2 {w' : va_W} (is : List Nat) (hs : is.map (fun i => w[i]?) = w'.map some) (hn : va_nd is = true) (k : V B E nL w' pc lv st) : V B E nL w pc lv st := by
  have hsp : Sp w [] w' := Sp.at [] is rfl hs hn
  obtain ⟨p, l, e, R, s, m, args, below, meth, c, A, Z, k9, n9⟩ := E
  exact fun H locs ls hP hD hS hl => k H locs ls (hsp.P hP) (hsp.dd hD) hS hl
theorem v_si {x x' : Int32} (h : x = x') (z : V B E nL w pc lv (.int x' :: st)) : V B E nL w pc lv (.int x :: st) := by
  subst h
  exact z
end VPE
theorem cG_bounded {B : BX} {n : Nat} {a : Nat → Nat} {sh : Nat → (Nat → Int32) → va_E} {g : GX} {M : S0} {p1 p2 p3 : Int32} {Q : Int32 → S0 → Prop} (h : w5_bounded g M p1 p2 p3 Q) : KI B (wl n a sh) yX5_bounded cX5_bounded 3 (some .int) 0 0 [.int p1, .int p2, .int p3] M Q := by
  rw [w5_bounded] at h
  refine KI_of (by decide +kernel) (Nat.le_of_ble_eq_true rfl) (fun E C hR => ?_)
  change V B E 3 (wl n a sh M) 0 [(0, .int p1), (1, .int p2), (2, .int p3)] []
  change Ok B E cX5_bounded 3 RX5 0 0 at C
  refine v_iload_n C 0 dX5_bounded_0 rfl rfl ?_
  refine v_iload_n C 1 dX5_bounded_1 rfl rfl ?_
  refine v_icmp_ge C dX5_bounded_2 (tgt := 9) (by decide) (fun c => ?_) (fun c => ?_)
  · replace h := h.1 c
    refine v_iload_n C 0 dX5_bounded_9 rfl rfl ?_
    refine v_iload_n C 2 dX5_bounded_10 rfl rfl ?_
    refine v_icmp_le C dX5_bounded_11 (tgt := 18) (by decide) (fun c => ?_) (fun c => ?_)
    · replace h := h.1 c
      refine v_iload_n C 0 dX5_bounded_18 rfl rfl ?_
      exact hR _ _ _ _ h dX5_bounded_19
    · replace h := h.2 c
      refine v_iload_n C 2 dX5_bounded_14 rfl rfl ?_
      refine v_goto C dX5_bounded_15 (tgt := 19) (by decide) ?_
      exact hR _ _ _ _ h dX5_bounded_19
  · replace h := h.2 c
    refine v_iload_n C 1 dX5_bounded_5 rfl rfl ?_
    refine v_goto C dX5_bounded_6 (tgt := 19) (by decide) ?_
    exact hR _ _ _ _ h dX5_bounded_19
theorem upd_take {f : Nat → Int32} {i : Nat} : upd (fun j => if j < i then f j else 0) i (f i) = fun j => if j < i + 1 then f j else 0 := by
  funext j
  unfold upd
  by_cases h : j = i
  · rw [if_pos h, if_pos (by omega), h]
  · rw [if_neg h]
    show (if j < i then f j else 0) = _
    by_cases h2 : j < i
    · rw [if_pos h2, if_pos (by omega)]
    · rw [if_neg h2, if_neg (by omega)]
theorem en3_upd {x y z : Int32} : upd (upd (upd (fun _ => 0) 0 x) 1 y) 2 z = en3 x y z := by
  funext j
  unfold upd en3
  by_cases h0 : j = 0
  · subst h0; rfl
  · by_cases h1 : j = 1
    · subst h1; rfl
    · by_cases h2 : j = 2
      · subst h2; rfl
      · rw [if_neg h2, if_neg h1, if_neg h0, if_neg h0, if_neg h1, if_neg h2]
theorem eX1_73 : CWSN RX1 73 yX5_bounded RX5 cX5_bounded 3 (some .int) 3 := ⟨by decide +kernel, rfl, gdm 328 (by decide +kernel) (by decide +kernel), gdm 89 (by decide +kernel) (by decide +kernel), gdm 329 (by decide +kernel) (by decide +kernel), by decide +kernel, by decide +kernel, by decide +kernel⟩
theorem eX1_70 : CWI RX1 70 yX3_init cX3_init 3 2 := ⟨(gdm 330 (by decide +kernel) (by decide +kernel)), (gdm 331 (by decide +kernel) (by decide +kernel)), (gdm 96 (by decide +kernel) (by decide +kernel)), (gdm 332 (by decide +kernel) (by decide +kernel)), rfl, by decide +kernel, by decide +kernel, by decide +kernel⟩
theorem eX1_66 : CWV RX1 66 yX1_madeCode cX1_madeCode 3 (some (.array .int)) 0 := ⟨gdm 323 (by decide +kernel) (by decide +kernel), gdm 325 (by decide +kernel) (by decide +kernel), gdm 17 (by decide +kernel) (by decide +kernel), gdm 91 (by decide +kernel) (by decide +kernel), gdm 326 (by decide +kernel) (by decide +kernel), by decide +kernel, by decide +kernel, by decide +kernel⟩
set_option maxHeartbeats 4000000 in
set_option maxRecDepth 20000 in
theorem nX1_madeCode {B : BX} {a : Nat → Nat} {R : S0} {L : Nat} (hL : L ≤ 160) (hR4 : R 0 4 = nI L) : KGq B yX1_madeCode cX1_madeCode 3 (.array .int) 1 22 1 160 [.ref (a 0)] (wl 3 a (shR B.2.1 a) R) (fun o w1 => ∃ q : Nat, o = some q ∧ w1 = wl 3 a (shR B.2.1 a) R ++ [(q, .inl (B.2.1 0, L, .inl (fun j => if j < L then R 2 j else 0)))]) := by
  refine KGq_of (by decide +kernel) (Or.inr ⟨_, rfl⟩) (Nat.le_of_ble_eq_true rfl) (fun E G hI hR => ?_)
  change V B (bmp E 0 0) 3 (wl 3 a (shR B.2.1 a) R) 0 [(0, .ref (a 0))] []
  change OkG B E cX1_madeCode 3 RX1 1 22 1 160 at G
  have C := G.at (k := 0) (n := 0) (by decide) (by decide)
  refine v_aload_n C 0 dX1_madeCode_0 rfl rfl ?_
  refine fX1_1_g_codes C dX1_madeCode_1 ?_
  refine v_iconst C dX1_madeCode_4 (v := (0 : Int32)) (by decide) ?_
  refine v_sipush C dX1_madeCode_5 (v := (160 : Int32)) (by decide) ?_
  refine v_callNi (As := [.int (R 0 4), .int 0, .int 160]) (rest := []) C (cG_bounded (g := (fun _ => 0, 0)) (Q := fun r M1 => r = nI L ∧ M1 = R) ?_) eX1_73 (by decide) (by decide) rfl rfl (Nat.le_of_ble_eq_true rfl) dX1_madeCode_8 (fun r M1 hq => ?_)
  · unfold w5_bounded
    rw [hR4]
    exact ⟨fun _ => ⟨fun _ => ⟨rfl, rfl⟩, fun c => absurd (nI_le (b := 160) hL (by decide)) c⟩, fun c => absurd (nI_pos' (n := L) (by omega)) c⟩
  obtain ⟨rfl, rfl⟩ := hq
  refine v_newaE (N := L) (k := 0) (n := 0) G (gdm 134 (by decide +kernel) (by decide +kernel)) (nI_pos (by omega)) (nI_clamp (by omega)) (by omega) (by decide) (by omega) dX1_madeCode_11 (fun q => ?_)
  refine v_bm (k' := 1) (n' := L) rfl (Nat.zero_add L) ?_
  have C := G.at (k := 1) (n := L) (by decide) hL
  refine v_astore_n (lv' := [(1, .ref q), (0, .ref (a 0))]) C dX1_madeCode_13 rfl (by decide) rfl ?_
  refine v_iconst C dX1_madeCode_14 (v := (0 : Int32)) (by decide) ?_
  refine v_istore_n (lv' := [(2, .int 0), (1, .ref q), (0, .ref (a 0))]) C dX1_madeCode_15 rfl (by decide) rfl ?_
  have loop : ∀ (r i : Nat), i + r = L → V B (bmp E 1 L) 3 (wl 3 a (shR B.2.1 a) M1 ++ [(q, .inl (B.2.1 0, L, .inl (fun j => if j < i then M1 2 j else 0)))]) 16 [(2, .int (nI i)), (1, .ref q), (0, .ref (a 0))] [] := by
    intro r
    induction r with
    | zero =>
      intro i hi
      have e : i = L := by omega
      subst e
      refine v_iload_n C 0 dX1_madeCode_16 rfl rfl ?_
      refine v_aload_n C 1 dX1_madeCode_17 rfl rfl ?_
      refine v_alenE C 3 0 rfl rfl rfl dX1_madeCode_18 ?_
      refine v_icmp_ge C dX1_madeCode_19 (tgt := 44) (by decide) (fun c => ?_) (fun c => absurd (Int32.le_refl _) c)
      refine v_aload_n C 1 dX1_madeCode_44 rfl rfl ?_
      exact hR (some q) _ _ _ _ 1 i rfl (by decide) hL ⟨q, rfl, rfl⟩ dX1_madeCode_45
    | succ r ih =>
      intro i hi
      refine v_iload_n C 0 dX1_madeCode_16 rfl rfl ?_
      refine v_aload_n C 1 dX1_madeCode_17 rfl rfl ?_
      refine v_alenE C 3 0 rfl rfl (v := nI L) rfl dX1_madeCode_18 ?_
      refine v_icmp_ge C dX1_madeCode_19 (tgt := 44) (by decide) (fun c => absurd c (nI_ge (by omega) (by omega))) (fun c => ?_)
      refine v_iload_n C 0 dX1_madeCode_22 rfl rfl ?_
      refine v_sipush C dX1_madeCode_23 (v := (160 : Int32)) (by decide) ?_
      refine v_icmp_ge C dX1_madeCode_26 (tgt := 44) (by decide) (fun c => absurd c (nI_ge (b := 160) (by omega) (by decide))) (fun c => ?_)
      refine v_aload_n C 1 dX1_madeCode_29 rfl rfl ?_
      refine v_iload_n C 0 dX1_madeCode_30 rfl rfl ?_
      refine v_aload_n C 2 dX1_madeCode_31 rfl rfl ?_
      refine v_getE C ginX1 rfl 3 (by decide) (gdm 146 (by decide +kernel) (by decide +kernel)) 0 rfl rfl dX1_madeCode_32 ?_
      refine v_iload_n C 0 dX1_madeCode_35 rfl rfl ?_
      refine v_ialdE C 2 rfl (vpl _ _ (by omega) (by decide)) dX1_madeCode_36 ?_
      refine v_iastE C 3 rfl (vpl _ _ (by omega) (by omega)) dX1_madeCode_37 (w' := wl 3 a (shR B.2.1 a) M1 ++ [(q, .inl (B.2.1 0, L, .inl (fun j => if j < i + 1 then M1 2 j else 0)))]) (by rw [nI_clamp (n := i) (by omega), upd_take]; rfl) ?_
      refine v_iinc (v := nI (i + 1)) (lv' := [(2, .int (nI (i + 1))), (1, .ref q), (0, .ref (a 0))]) C 0 dX1_madeCode_38 rfl (by rw [← nI_1]; rfl) (by decide) rfl ?_
      refine v_goto C dX1_madeCode_41 (tgt := 16) (by decide) ?_
      exact ih (i + 1) (by omega)
  exact loop L 0 (by omega)
set_option maxHeartbeats 8000000 in
set_option maxRecDepth 20000 in
theorem nX1_read {B : BX} {a : Nat → Nat} {R : S0} {Qn : S0 → Prop} {Qs : Nat → (Nat → Int32) → (Nat → Int32) → S0 → Prop} (h : w1_read R Qn Qs) : KGq B yX1_read cX1_read 3 (.object "LoserKeepsTheBoard$Text") 80 1900 3 165 [.ref (a 0)] (wl 3 a (shR B.2.1 a) R) (fun o w1 => (o = none ∧ ∃ R', w1 = wl 3 a (shR B.2.1 a) R' ∧ Qn R') ∨ ∃ (L : Nat) (cf en : Nat → Int32) (R' : S0) (t c e : Nat), o = some t ∧ w1 = wl 3 a (shR B.2.1 a) R' ++ [(t, .inr (3, [.ref c, .ref e])), (c, .inl (B.2.1 0, L, .inl cf)), (e, .inl (B.2.1 0, 3, .inl en))] ∧ L ≤ 160 ∧ Qs L cf en R') := by
  refine KGq_of (by decide +kernel) (Or.inl ⟨_, rfl⟩) (Nat.le_of_ble_eq_true rfl) (fun E G hI hR => ?_)
  change V B (bmp E 0 0) 3 (wl 3 a (shR B.2.1 a) R) 0 [(0, .ref (a 0))] []
  change OkG B E cX1_read 3 RX1 80 1900 3 165 at G
  have C := G.at (k := 0) (n := 0) (by decide) (by decide)
  unfold w1_read at h
  refine v_aload_n C 0 dX1_read_0 rfl rfl ?_
  refine v_iconst C dX1_read_1 (v := (-1 : Int32)) (by decide) ?_
  refine fX1_1_p_fault C dX1_read_2 (fun N1 e1 => ?_)
  refine v_aload_n C 0 dX1_read_5 rfl rfl ?_
  refine v_iconst C dX1_read_6 (v := (0 : Int32)) (by decide) ?_
  refine fX1_1_p_codes C dX1_read_7 (fun N2 e2 => ?_)
  refine v_aload_n C 0 dX1_read_10 rfl rfl ?_
  refine v_iconst C dX1_read_11 (v := (0 : Int32)) (by decide) ?_
  refine fX1_1_p_place C dX1_read_12 (fun N3 e3 => ?_)
  rw [← e1, ← e2, ← e3] at h
  refine v_iconst C dX1_read_15 (v := (3 : Int32)) (by decide) ?_
  refine v_newaE (N := 3) (k := 0) (n := 0) G (gdm 134 (by decide +kernel) (by decide +kernel)) (by decide) (by decide) (by decide) (by decide) (by decide) dX1_read_16 (fun e => ?_)
  refine v_bm (k' := 1) (n' := 3) rfl rfl ?_
  have C := G.at (k := 1) (n := 3) (by decide) (by decide)
  refine v_astore_n (lv' := [(1, .ref e), (0, .ref (a 0))]) C dX1_read_18 rfl (by decide) rfl ?_
  refine v_aload_n C 1 dX1_read_19 rfl rfl ?_
  refine g_Vv (wf := wl 3 a (shR B.2.1 a)) (M := N3) (h := a 0) (k0 := 0) (As := []) (rest := []) C (c1_next h) eX1_54 (by decide) (by decide) rfl Sp.left rfl rfl rfl (Nat.le_of_ble_eq_true rfl) dX1_read_20 (fun R1 h1 => ?_)
  refine v_iconst C dX1_read_23 (v := (0 : Int32)) (by decide) ?_
  refine v_istore_n (lv' := [(2, .int 0), (1, .ref e), (0, .ref (a 0))]) C dX1_read_24 rfl (by decide) rfl ?_
  unfold wR_part at h1
  refine v_iload_n C 0 dX1_read_25 rfl rfl ?_
  refine v_iconst C dX1_read_26 (v := (3 : Int32)) (by decide) ?_
  refine v_icmp_ge C dX1_read_27 (tgt := 61) (by decide) (fun c => absurd c (by decide)) (fun c => ?_)
  refine v_aload_n C 2 dX1_read_30 rfl rfl ?_
  refine v_iconst C dX1_read_31 (v := (1 : Int32)) (by decide) ?_
  refine v_iload_n C 0 dX1_read_32 rfl rfl ?_
  refine v_iadd C dX1_read_33 ?_
  refine v_si (x' := 1) (by decide) ?_
  refine g_Vv (wf := wl 3 a (shR B.2.1 a)) (M := R1) (h := a 0) (k0 := 1) (As := [.int 1]) (rest := []) C (c1_expect h1) eX1_57 (by decide) (by decide) rfl Sp.right rfl rfl rfl (Nat.le_of_ble_eq_true rfl) dX1_read_34 (fun Ra0 ha0 => ?_)
  obtain ⟨dd0, hd0, ha0⟩ := ha0
  refine v_aload_n C 2 dX1_read_37 rfl rfl ?_
  refine v_iconst C dX1_read_38 (v := (0 : Int32)) (by decide) ?_
  refine g_Vv (wf := wl 3 a (shR B.2.1 a)) (M := Ra0) (h := a 0) (k0 := 1) (As := [.int 0]) (rest := []) C (c1_readEither dd0 ha0) eX1_61 (by omega) (by omega) rfl Sp.right rfl rfl rfl (Nat.le_of_ble_eq_true rfl) dX1_read_39 (fun Rb0 hb0 => ?_)
  refine v_aload_n C 2 dX1_read_42 rfl rfl ?_
  refine v_bipush C dX1_read_43 (v := (59 : Int32)) (by decide) ?_
  refine g_Vv (wf := wl 3 a (shR B.2.1 a)) (M := Rb0) (h := a 0) (k0 := 1) (As := [.int 59]) (rest := []) C (c1_expect hb0) eX1_57 (by decide) (by decide) rfl Sp.right rfl rfl rfl (Nat.le_of_ble_eq_true rfl) dX1_read_45 (fun R2 h2 => ?_)
  refine v_aload_n C 1 dX1_read_48 rfl rfl ?_
  refine v_iload_n C 0 dX1_read_49 rfl rfl ?_
  refine v_aload_n C 2 dX1_read_50 rfl rfl ?_
  refine v_getE C ginX1 rfl 4 (by decide) (gdm 147 (by decide +kernel) (by decide +kernel)) 1 rfl rfl dX1_read_51 ?_
  refine v_iastE C 0 rfl (vpl 0 3 (by decide) (by decide)) dX1_read_54 (w' := ([(e, .inl (B.2.1 0, 3, .inl (upd (fun _ => 0) 0 (R2 0 4))))] ++ wl 3 a (shR B.2.1 a) R2)) rfl ?_
  refine v_iinc (v := 1) (lv' := [(2, .int 1), (1, .ref e), (0, .ref (a 0))]) C 0 dX1_read_55 rfl (by decide) (by decide) rfl ?_
  refine v_goto C dX1_read_58 (tgt := 25) (by decide) ?_
  unfold wR_part at h2
  refine v_iload_n C 0 dX1_read_25 rfl rfl ?_
  refine v_iconst C dX1_read_26 (v := (3 : Int32)) (by decide) ?_
  refine v_icmp_ge C dX1_read_27 (tgt := 61) (by decide) (fun c => absurd c (by decide)) (fun c => ?_)
  refine v_aload_n C 2 dX1_read_30 rfl rfl ?_
  refine v_iconst C dX1_read_31 (v := (1 : Int32)) (by decide) ?_
  refine v_iload_n C 0 dX1_read_32 rfl rfl ?_
  refine v_iadd C dX1_read_33 ?_
  refine v_si (x' := 2) (by decide) ?_
  refine g_Vv (wf := wl 3 a (shR B.2.1 a)) (M := R2) (h := a 0) (k0 := 1) (As := [.int 2]) (rest := []) C (c1_expect h2) eX1_57 (by decide) (by decide) rfl Sp.right rfl rfl rfl (Nat.le_of_ble_eq_true rfl) dX1_read_34 (fun Ra1 ha1 => ?_)
  obtain ⟨dd1, hd1, ha1⟩ := ha1
  refine v_aload_n C 2 dX1_read_37 rfl rfl ?_
  refine v_iconst C dX1_read_38 (v := (0 : Int32)) (by decide) ?_
  refine g_Vv (wf := wl 3 a (shR B.2.1 a)) (M := Ra1) (h := a 0) (k0 := 1) (As := [.int 0]) (rest := []) C (c1_readEither dd1 ha1) eX1_61 (by omega) (by omega) rfl Sp.right rfl rfl rfl (Nat.le_of_ble_eq_true rfl) dX1_read_39 (fun Rb1 hb1 => ?_)
  refine v_aload_n C 2 dX1_read_42 rfl rfl ?_
  refine v_bipush C dX1_read_43 (v := (59 : Int32)) (by decide) ?_
  refine g_Vv (wf := wl 3 a (shR B.2.1 a)) (M := Rb1) (h := a 0) (k0 := 1) (As := [.int 59]) (rest := []) C (c1_expect hb1) eX1_57 (by decide) (by decide) rfl Sp.right rfl rfl rfl (Nat.le_of_ble_eq_true rfl) dX1_read_45 (fun R3 h3 => ?_)
  refine v_aload_n C 1 dX1_read_48 rfl rfl ?_
  refine v_iload_n C 0 dX1_read_49 rfl rfl ?_
  refine v_aload_n C 2 dX1_read_50 rfl rfl ?_
  refine v_getE C ginX1 rfl 4 (by decide) (gdm 147 (by decide +kernel) (by decide +kernel)) 1 rfl rfl dX1_read_51 ?_
  refine v_iastE C 0 rfl (vpl 1 3 (by decide) (by decide)) dX1_read_54 (w' := ([(e, .inl (B.2.1 0, 3, .inl (upd (upd (fun _ => 0) 0 (R2 0 4)) 1 (R3 0 4))))] ++ wl 3 a (shR B.2.1 a) R3)) rfl ?_
  refine v_iinc (v := 2) (lv' := [(2, .int 2), (1, .ref e), (0, .ref (a 0))]) C 0 dX1_read_55 rfl (by decide) (by decide) rfl ?_
  refine v_goto C dX1_read_58 (tgt := 25) (by decide) ?_
  unfold wR_part at h3
  refine v_iload_n C 0 dX1_read_25 rfl rfl ?_
  refine v_iconst C dX1_read_26 (v := (3 : Int32)) (by decide) ?_
  refine v_icmp_ge C dX1_read_27 (tgt := 61) (by decide) (fun c => absurd c (by decide)) (fun c => ?_)
  refine v_aload_n C 2 dX1_read_30 rfl rfl ?_
  refine v_iconst C dX1_read_31 (v := (1 : Int32)) (by decide) ?_
  refine v_iload_n C 0 dX1_read_32 rfl rfl ?_
  refine v_iadd C dX1_read_33 ?_
  refine v_si (x' := 3) (by decide) ?_
  refine g_Vv (wf := wl 3 a (shR B.2.1 a)) (M := R3) (h := a 0) (k0 := 1) (As := [.int 3]) (rest := []) C (c1_expect h3) eX1_57 (by decide) (by decide) rfl Sp.right rfl rfl rfl (Nat.le_of_ble_eq_true rfl) dX1_read_34 (fun Ra2 ha2 => ?_)
  obtain ⟨dd2, hd2, ha2⟩ := ha2
  refine v_aload_n C 2 dX1_read_37 rfl rfl ?_
  refine v_iconst C dX1_read_38 (v := (0 : Int32)) (by decide) ?_
  refine g_Vv (wf := wl 3 a (shR B.2.1 a)) (M := Ra2) (h := a 0) (k0 := 1) (As := [.int 0]) (rest := []) C (c1_readEither dd2 ha2) eX1_61 (by omega) (by omega) rfl Sp.right rfl rfl rfl (Nat.le_of_ble_eq_true rfl) dX1_read_39 (fun Rb2 hb2 => ?_)
  refine v_aload_n C 2 dX1_read_42 rfl rfl ?_
  refine v_bipush C dX1_read_43 (v := (59 : Int32)) (by decide) ?_
  refine g_Vv (wf := wl 3 a (shR B.2.1 a)) (M := Rb2) (h := a 0) (k0 := 1) (As := [.int 59]) (rest := []) C (c1_expect hb2) eX1_57 (by decide) (by decide) rfl Sp.right rfl rfl rfl (Nat.le_of_ble_eq_true rfl) dX1_read_45 (fun R4 h4 => ?_)
  refine v_aload_n C 1 dX1_read_48 rfl rfl ?_
  refine v_iload_n C 0 dX1_read_49 rfl rfl ?_
  refine v_aload_n C 2 dX1_read_50 rfl rfl ?_
  refine v_getE C ginX1 rfl 4 (by decide) (gdm 147 (by decide +kernel) (by decide +kernel)) 1 rfl rfl dX1_read_51 ?_
  refine v_iastE C 0 rfl (vpl 2 3 (by decide) (by decide)) dX1_read_54 (w' := ([(e, .inl (B.2.1 0, 3, .inl (upd (upd (upd (fun _ => 0) 0 (R2 0 4)) 1 (R3 0 4)) 2 (R4 0 4))))] ++ wl 3 a (shR B.2.1 a) R4)) rfl ?_
  refine v_iinc (v := 3) (lv' := [(2, .int 3), (1, .ref e), (0, .ref (a 0))]) C 0 dX1_read_55 rfl (by decide) (by decide) rfl ?_
  refine v_goto C dX1_read_58 (tgt := 25) (by decide) ?_
  rw [en3_upd]
  refine v_iload_n C 0 dX1_read_25 rfl rfl ?_
  refine v_iconst C dX1_read_26 (v := (3 : Int32)) (by decide) ?_
  refine v_icmp_ge C dX1_read_27 (tgt := 61) (by decide) (fun c => ?_) (fun c => absurd (by decide) c)
  refine v_aload_n C 2 dX1_read_61 rfl rfl ?_
  refine v_bipush C dX1_read_62 (v := (8 : Int32)) (by decide) ?_
  refine g_Vv (wf := wl 3 a (shR B.2.1 a)) (M := R4) (h := a 0) (k0 := 1) (As := [.int 8]) (rest := []) C (c1_expect h4) eX1_57 (by decide) (by decide) rfl Sp.right rfl rfl rfl (Nat.le_of_ble_eq_true rfl) dX1_read_64 (fun R5 h5 => ?_)
  refine v_aload_n C 2 dX1_read_67 rfl rfl ?_
  refine v_iconst C dX1_read_68 (v := (0 : Int32)) (by decide) ?_
  refine v_putE C ginX1 tyX1 tyX1_ok nmX1 rfl 1 (by decide) rfl (gdm 142 (by decide +kernel) (by decide +kernel)) 1 rfl (ty := .int) (by decide +kernel) rfl rfl (Nat.le_of_ble_eq_true rfl) dX1_read_69 (w' := ([(e, .inl (B.2.1 0, 3, .inl (en3 (R2 0 4) (R3 0 4) (R4 0 4))))] ++ wl 3 a (shR B.2.1 a) (up R5 0 1 0))) rfl ?_
  refine v_aload_n C 2 dX1_read_72 rfl rfl ?_
  refine v_getE C ginX1 rfl 2 (by decide) (gdm 144 (by decide +kernel) (by decide +kernel)) 1 rfl (v := .int (R5 0 2)) rfl dX1_read_73 ?_
  refine v_iconst C dX1_read_76 (v := (-1 : Int32)) (by decide) ?_
  refine v_icmp_ne C dX1_read_77 (tgt := 95) (by decide) (fun c => ?_) (fun c => ?_)
  · refine v_null C dX1_read_95 ?_
    refine v_sub2 (w' := wl 3 a (shR B.2.1 a) (up R5 0 1 0)) [1, 2, 3] rfl (by decide) ?_
    exact hR none _ _ _ _ 1 3 rfl (by decide) (by decide) (Or.inl ⟨rfl, _, rfl, h5.1 c⟩) dX1_read_96
  · obtain ⟨L, hL, hR4, hQ⟩ := h5.2 c
    refine v_newE (k := 1) (n := 3) G ginX3 tyX3 tyX3_ok (gdm 321 (by decide +kernel) (by decide +kernel)) (gdm 322 (by decide +kernel) (by decide +kernel)) (gdm 96 (by decide +kernel) (by decide +kernel)) (ci := 3) rfl (fs := [.null, .null]) (fun j hj => by rcases (by omega : j = 0 ∨ j = 1) with rfl | rfl <;> rfl) (by decide) (by decide) dX1_read_80 (fun t => ?_)
    refine v_bm (k' := 2) (n' := 5) rfl rfl ?_
    have C := G.at (k := 2) (n := 5) (by decide) (by decide)
    refine v_dup C dX1_read_83 rfl ?_
    refine v_aload_n C 2 dX1_read_84 rfl rfl ?_
    refine g_Gq (k := 2) (n := 5) (h := a 0) (k0 := 1) (wr := [(e, .inl (B.2.1 0, 3, .inl (en3 (R2 0 4) (R3 0 4) (R4 0 4)))), (t, .inr (3, [.null, .null]))]) (wc := wl 3 a (shR B.2.1 a) (up R5 0 1 0)) (As := []) (rest := [.ref t, .ref t]) G (nX1_madeCode (L := L) hL (by rw [up_j (by decide)]; exact hR4)) eX1_66 (by decide) (by decide) rfl (Sp.at [0, 4] [1, 2, 3] rfl rfl (by decide)) rfl (by decide) (by decide) rfl rfl (Nat.le_of_ble_eq_true rfl) dX1_read_85 (fun o w1 hw1 => ?_)
    obtain ⟨q, rfl, rfl⟩ := hw1
    refine v_bm (k' := 3) (n' := 165) rfl rfl ?_
    have C := G.at (k := 3) (n := 165) (by decide) (by decide)
    refine v_aload_n C 1 dX1_read_88 rfl rfl ?_
    refine g_I (k := 3) (n := 165) (h := t) (wr := [(e, .inl (B.2.1 0, 3, .inl (en3 (R2 0 4) (R3 0 4) (R4 0 4))))] ++ (wl 3 a (shR B.2.1 a) (up R5 0 1 0) ++ [(q, .inl (B.2.1 0, L, .inl (fun j => if j < L then (up R5 0 1 0) 2 j else 0)))])) (wc := [(t, .inr (3, [.null, .null]))]) (As := [.ref q, .ref e]) (rest := [.ref t]) G nX3_init eX1_70 (by decide) (by decide) (Sp.at [0, 2, 3, 4, 5] [1] rfl rfl (by decide)) (by decide) (by decide) rfl rfl (Nat.le_of_ble_eq_true rfl) dX1_read_89 (fun w1 hw1 => ?_)
    subst hw1
    refine v_goto C dX1_read_92 (tgt := 96) (by decide) ?_
    refine v_sub2 (w' := wl 3 a (shR B.2.1 a) (up R5 0 1 0) ++ [(t, .inr (3, [.ref q, .ref e])), (q, .inl (B.2.1 0, L, .inl (fun j => if j < L then R5 2 j else 0))), (e, .inl (B.2.1 0, 3, .inl (en3 (R2 0 4) (R3 0 4) (R4 0 4))))]) [1, 2, 3, 5, 4, 0] rfl (by decide) ?_
    exact hR (some t) _ _ _ _ 3 165 rfl (by decide) (by decide) (Or.inr ⟨L, _, _, _, t, q, e, rfl, rfl, hL, hQ⟩) dX1_read_96
set_option maxHeartbeats 4000000 in
set_option maxRecDepth 20000 in
theorem nX4_add {B : BX} {h rw vl sk t m : Nat} {f : Nat → Option Nat} {vs : List Value} (hm : m < 6) : KGi B yX4_add cX4_add 2 0 0 0 0 [.ref h, .ref t] [(h, .inr (4, [.ref rw, .ref vl, .ref sk, .int (nI m)])), (rw, .inl (B.2.1 4, 6, .inr (.inr (.inr (.inr f))))), (t, .inr (3, vs))] (fun r w1 => r = nI m ∧ w1 = [(h, .inr (4, [.ref rw, .ref vl, .ref sk, .int (nI (m + 1))])), (rw, .inl (B.2.1 4, 6, .inr (.inr (.inr (.inr (va_up f m (some t))))))), (t, .inr (3, vs))]) := by
  refine KGi_of (by decide +kernel) (Nat.le_of_ble_eq_true rfl) (fun E G hI hR => ?_)
  change V B (bmp E 0 0) 2 [(h, .inr (4, [.ref rw, .ref vl, .ref sk, .int (nI m)])), (rw, .inl (B.2.1 4, 6, .inr (.inr (.inr (.inr f))))), (t, .inr (3, vs))] 0 [(0, .ref h), (1, .ref t)] []
  change OkG B E cX4_add 2 RX4 0 0 0 0 at G
  have C := G.at (k := 0) (n := 0) (by decide) (by decide)
  refine v_aload_n C 1 dX4_add_0 rfl rfl ?_
  refine v_ifnull C dX4_add_1 ?_
  refine v_aload_n C 0 dX4_add_4 rfl rfl ?_
  refine v_getE C ginX4 rfl 3 (by decide) (gdm 123 (by decide +kernel) (by decide +kernel)) 0 rfl rfl dX4_add_5 ?_
  refine v_if_lt C dX4_add_8 (tgt := 20) (by decide) (fun c => absurd c (nI_pos (by omega))) (fun c => ?_)
  refine v_aload_n C 0 dX4_add_11 rfl rfl ?_
  refine v_getE C ginX4 rfl 3 (by decide) (gdm 123 (by decide +kernel) (by decide +kernel)) 0 rfl rfl dX4_add_12 ?_
  refine v_bipush C dX4_add_15 (v := (6 : Int32)) (by decide) ?_
  refine v_icmp_lt C dX4_add_17 (tgt := 22) (by decide) (fun c => ?_) (fun c => absurd (nI_lt (b := 6) hm (by decide)) c)
  refine v_aload_n C 0 dX4_add_22 rfl rfl ?_
  refine v_getE C ginX4 rfl 0 (by decide) (gdm 119 (by decide +kernel) (by decide +kernel)) 0 rfl rfl dX4_add_23 ?_
  refine v_aload_n C 0 dX4_add_26 rfl rfl ?_
  refine v_getE C ginX4 rfl 3 (by decide) (gdm 123 (by decide +kernel) (by decide +kernel)) 0 rfl rfl dX4_add_27 ?_
  refine v_aload_n C 1 dX4_add_30 rfl rfl ?_
  refine v_astqE C 1 4 2 rfl rfl rfl (ci := 3) rfl (vpl m 6 hm (by decide)) dX4_add_31 (w' := [(h, .inr (4, [.ref rw, .ref vl, .ref sk, .int (nI m)])), (rw, .inl (B.2.1 4, 6, .inr (.inr (.inr (.inr (va_up f m (some t))))))), (t, .inr (3, vs))]) (by rw [nI_clamp (n := m) (by omega)]; rfl) ?_
  refine v_aload_n C 0 dX4_add_32 rfl rfl ?_
  refine v_dup C dX4_add_33 rfl ?_
  refine v_getE C ginX4 rfl 3 (by decide) (gdm 123 (by decide +kernel) (by decide +kernel)) 0 rfl rfl dX4_add_34 ?_
  refine v_iconst C dX4_add_37 (v := (1 : Int32)) (by decide) ?_
  refine v_iadd C dX4_add_38 ?_
  refine v_si (nI_1 m) ?_
  refine v_putE C ginX4 tyX4 tyX4_ok nmX4 rfl 3 (by decide) rfl (gdm 123 (by decide +kernel) (by decide +kernel)) 0 rfl (ty := .int) (by decide +kernel) rfl rfl (Nat.le_of_ble_eq_true rfl) dX4_add_39 (w' := [(h, .inr (4, [.ref rw, .ref vl, .ref sk, .int (nI (m + 1))])), (rw, .inl (B.2.1 4, 6, .inr (.inr (.inr (.inr (va_up f m (some t))))))), (t, .inr (3, vs))]) rfl ?_
  refine v_aload_n C 0 dX4_add_42 rfl rfl ?_
  refine v_getE C ginX4 rfl 3 (by decide) (gdm 123 (by decide +kernel) (by decide +kernel)) 0 rfl rfl dX4_add_43 ?_
  refine v_iconst C dX4_add_46 (v := (1 : Int32)) (by decide) ?_
  refine v_isub C dX4_add_47 ?_
  refine v_si (nI_pred m) ?_
  exact hR _ _ _ _ 0 0 (by decide) (by decide) ⟨rfl, rfl⟩ dX4_add_48
