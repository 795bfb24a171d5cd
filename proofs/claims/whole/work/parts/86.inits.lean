/-! constructors: by program -/
section VBM
variable {B : BX} {E : EX} {nL : Nat} {w : va_W} {pc : Nat} {lv : List (Nat × Value)} {st : List Value}
theorem v_bm {k n k' n' : Nat} (hk : k = k') (hn : n = n') (z : V B (bmp E k' n') nL w pc lv st) : V B (bmp E k n) nL w pc lv st := by
  subst hk
  subst hn
  exact z
theorem v_w {w' : va_W} (h : w = w') (z : V B E nL w' pc lv st) : V B E nL w pc lv st := by
  subst h
  exact z
theorem v_swap {a b c : va_W} (z : V B E nL ((a ++ c) ++ b) pc lv st) : V B E nL ((a ++ b) ++ c) pc lv st := by
  obtain ⟨p, l, e, R, s, m, args, below, meth, cd, A, Z, k9, n9⟩ := E
  exact fun H locs ls hP hD hS hl => z H locs ls hP.swap hD.swap hS hl
end VBM
set_option maxHeartbeats 4000000 in
set_option maxRecDepth 20000 in
theorem nX0_init {B : BX} {h tx : Nat} : KGv B yX0_init cX0_init 2 1 20 5 30 [.ref h, .ref tx] [(h, .inr (0, [.null, .null, .null, .null, .null, .null, .int 0, .int 0, .int 0, .int 0]))] (fun w1 => ∃ q1 q2 q3 q4 q5 : Nat, w1 = [(h, .inr (0, [.ref tx, .ref q1, .ref q2, .ref q3, .ref q4, .ref q5, .int (255 : Int32), .int (0 : Int32), .int (0 : Int32), .int (0 : Int32)])), (q1, .inl (B.2.1 0, 6, .inl (fun _ => 0))), (q2, .inl (B.2.1 0, 6, .inl (fun _ => 0))), (q3, .inl (B.2.1 0, 6, .inl (fun _ => 0))), (q4, .inl (B.2.1 0, 6, .inl (fun _ => 0))), (q5, .inl (B.2.1 0, 6, .inl (fun _ => 0)))]) := by
  refine KGv_of (by decide +kernel) (Nat.le_of_ble_eq_true rfl) (fun E G hI hR => ?_)
  change V B (bmp E 0 0) 2 [(h, .inr (0, [.null, .null, .null, .null, .null, .null, .int 0, .int 0, .int 0, .int 0]))] 0 [(0, .ref h), (1, .ref tx)] []
  change OkG B E cX0_init 2 RX0 1 20 5 30 at G
  have C := G.at (k := 0) (n := 0) (by decide) (by decide)
  refine v_aload_n C 0 dX0_init_0 rfl rfl ?_
  refine v_objInit C (gdm 351 (by decide +kernel) (by decide +kernel)) (gdm 109 (by decide +kernel) (by decide +kernel)) (gdm 110 (by decide +kernel) (by decide +kernel)) (Nat.le_of_ble_eq_true rfl) (by decide) (by decide) dX0_init_1 ?_
  refine v_aload_n C 0 dX0_init_4 rfl rfl ?_
  refine v_bipush C dX0_init_5 (v := (6 : Int32)) (by decide) ?_
  refine v_newaE (N := 6) (k := 0) (n := 0) G (gdm 134 (by decide +kernel) (by decide +kernel)) (by decide) (by decide) (by decide) (by decide) (by decide) dX0_init_7 (fun q1 => ?_)
  refine v_bm (k' := 1) (n' := 6) rfl rfl (v_w (w' := [(h, .inr (0, [.null, .null, .null, .null, .null, .null, .int 0, .int 0, .int 0, .int 0])), (q1, .inl (B.2.1 0, 6, .inl (fun _ => 0)))]) rfl ?_)
  have C := G.at (k := 1) (n := 6) (by decide) (by decide)
  refine v_putFE C hI ginX0 tyX0 tyX0_ok nmX0 rfl 1 (by decide) rfl rfl (gdm 353 (by decide +kernel) (by decide +kernel)) 0 rfl (ty := (.array .int)) (by decide +kernel) rfl rfl (Nat.le_of_ble_eq_true rfl) dX0_init_9 (w' := [(h, .inr (0, [.null, .ref q1, .null, .null, .null, .null, .int 0, .int 0, .int 0, .int 0])), (q1, .inl (B.2.1 0, 6, .inl (fun _ => 0)))]) rfl ?_
  refine v_aload_n C 0 dX0_init_12 rfl rfl ?_
  refine v_bipush C dX0_init_13 (v := (6 : Int32)) (by decide) ?_
  refine v_newaE (N := 6) (k := 1) (n := 6) G (gdm 134 (by decide +kernel) (by decide +kernel)) (by decide) (by decide) (by decide) (by decide) (by decide) dX0_init_15 (fun q2 => ?_)
  refine v_bm (k' := 2) (n' := 12) rfl rfl (v_w (w' := [(h, .inr (0, [.null, .ref q1, .null, .null, .null, .null, .int 0, .int 0, .int 0, .int 0])), (q1, .inl (B.2.1 0, 6, .inl (fun _ => 0))), (q2, .inl (B.2.1 0, 6, .inl (fun _ => 0)))]) rfl ?_)
  have C := G.at (k := 2) (n := 12) (by decide) (by decide)
  refine v_putFE C hI ginX0 tyX0 tyX0_ok nmX0 rfl 2 (by decide) rfl rfl (gdm 355 (by decide +kernel) (by decide +kernel)) 0 rfl (ty := (.array .int)) (by decide +kernel) rfl rfl (Nat.le_of_ble_eq_true rfl) dX0_init_17 (w' := [(h, .inr (0, [.null, .ref q1, .ref q2, .null, .null, .null, .int 0, .int 0, .int 0, .int 0])), (q1, .inl (B.2.1 0, 6, .inl (fun _ => 0))), (q2, .inl (B.2.1 0, 6, .inl (fun _ => 0)))]) rfl ?_
  refine v_aload_n C 0 dX0_init_20 rfl rfl ?_
  refine v_bipush C dX0_init_21 (v := (6 : Int32)) (by decide) ?_
  refine v_newaE (N := 6) (k := 2) (n := 12) G (gdm 134 (by decide +kernel) (by decide +kernel)) (by decide) (by decide) (by decide) (by decide) (by decide) dX0_init_23 (fun q3 => ?_)
  refine v_bm (k' := 3) (n' := 18) rfl rfl (v_w (w' := [(h, .inr (0, [.null, .ref q1, .ref q2, .null, .null, .null, .int 0, .int 0, .int 0, .int 0])), (q1, .inl (B.2.1 0, 6, .inl (fun _ => 0))), (q2, .inl (B.2.1 0, 6, .inl (fun _ => 0))), (q3, .inl (B.2.1 0, 6, .inl (fun _ => 0)))]) rfl ?_)
  have C := G.at (k := 3) (n := 18) (by decide) (by decide)
  refine v_putFE C hI ginX0 tyX0 tyX0_ok nmX0 rfl 3 (by decide) rfl rfl (gdm 357 (by decide +kernel) (by decide +kernel)) 0 rfl (ty := (.array .int)) (by decide +kernel) rfl rfl (Nat.le_of_ble_eq_true rfl) dX0_init_25 (w' := [(h, .inr (0, [.null, .ref q1, .ref q2, .ref q3, .null, .null, .int 0, .int 0, .int 0, .int 0])), (q1, .inl (B.2.1 0, 6, .inl (fun _ => 0))), (q2, .inl (B.2.1 0, 6, .inl (fun _ => 0))), (q3, .inl (B.2.1 0, 6, .inl (fun _ => 0)))]) rfl ?_
  refine v_aload_n C 0 dX0_init_28 rfl rfl ?_
  refine v_bipush C dX0_init_29 (v := (6 : Int32)) (by decide) ?_
  refine v_newaE (N := 6) (k := 3) (n := 18) G (gdm 134 (by decide +kernel) (by decide +kernel)) (by decide) (by decide) (by decide) (by decide) (by decide) dX0_init_31 (fun q4 => ?_)
  refine v_bm (k' := 4) (n' := 24) rfl rfl (v_w (w' := [(h, .inr (0, [.null, .ref q1, .ref q2, .ref q3, .null, .null, .int 0, .int 0, .int 0, .int 0])), (q1, .inl (B.2.1 0, 6, .inl (fun _ => 0))), (q2, .inl (B.2.1 0, 6, .inl (fun _ => 0))), (q3, .inl (B.2.1 0, 6, .inl (fun _ => 0))), (q4, .inl (B.2.1 0, 6, .inl (fun _ => 0)))]) rfl ?_)
  have C := G.at (k := 4) (n := 24) (by decide) (by decide)
  refine v_putFE C hI ginX0 tyX0 tyX0_ok nmX0 rfl 4 (by decide) rfl rfl (gdm 359 (by decide +kernel) (by decide +kernel)) 0 rfl (ty := (.array .int)) (by decide +kernel) rfl rfl (Nat.le_of_ble_eq_true rfl) dX0_init_33 (w' := [(h, .inr (0, [.null, .ref q1, .ref q2, .ref q3, .ref q4, .null, .int 0, .int 0, .int 0, .int 0])), (q1, .inl (B.2.1 0, 6, .inl (fun _ => 0))), (q2, .inl (B.2.1 0, 6, .inl (fun _ => 0))), (q3, .inl (B.2.1 0, 6, .inl (fun _ => 0))), (q4, .inl (B.2.1 0, 6, .inl (fun _ => 0)))]) rfl ?_
  refine v_aload_n C 0 dX0_init_36 rfl rfl ?_
  refine v_bipush C dX0_init_37 (v := (6 : Int32)) (by decide) ?_
  refine v_newaE (N := 6) (k := 4) (n := 24) G (gdm 134 (by decide +kernel) (by decide +kernel)) (by decide) (by decide) (by decide) (by decide) (by decide) dX0_init_39 (fun q5 => ?_)
  refine v_bm (k' := 5) (n' := 30) rfl rfl (v_w (w' := [(h, .inr (0, [.null, .ref q1, .ref q2, .ref q3, .ref q4, .null, .int 0, .int 0, .int 0, .int 0])), (q1, .inl (B.2.1 0, 6, .inl (fun _ => 0))), (q2, .inl (B.2.1 0, 6, .inl (fun _ => 0))), (q3, .inl (B.2.1 0, 6, .inl (fun _ => 0))), (q4, .inl (B.2.1 0, 6, .inl (fun _ => 0))), (q5, .inl (B.2.1 0, 6, .inl (fun _ => 0)))]) rfl ?_)
  have C := G.at (k := 5) (n := 30) (by decide) (by decide)
  refine v_putFE C hI ginX0 tyX0 tyX0_ok nmX0 rfl 5 (by decide) rfl rfl (gdm 361 (by decide +kernel) (by decide +kernel)) 0 rfl (ty := (.array .int)) (by decide +kernel) rfl rfl (Nat.le_of_ble_eq_true rfl) dX0_init_41 (w' := [(h, .inr (0, [.null, .ref q1, .ref q2, .ref q3, .ref q4, .ref q5, .int 0, .int 0, .int 0, .int 0])), (q1, .inl (B.2.1 0, 6, .inl (fun _ => 0))), (q2, .inl (B.2.1 0, 6, .inl (fun _ => 0))), (q3, .inl (B.2.1 0, 6, .inl (fun _ => 0))), (q4, .inl (B.2.1 0, 6, .inl (fun _ => 0))), (q5, .inl (B.2.1 0, 6, .inl (fun _ => 0)))]) rfl ?_
  refine v_aload_n C 0 dX0_init_44 rfl rfl ?_
  refine v_sipush C dX0_init_45 (v := (255 : Int32)) (by decide) ?_
  refine v_putE C ginX0 tyX0 tyX0_ok nmX0 rfl 6 (by decide) rfl (gdm 363 (by decide +kernel) (by decide +kernel)) 0 rfl (ty := .int) (by decide +kernel) rfl rfl (Nat.le_of_ble_eq_true rfl) dX0_init_48 (w' := [(h, .inr (0, [.null, .ref q1, .ref q2, .ref q3, .ref q4, .ref q5, .int (255 : Int32), .int 0, .int 0, .int 0])), (q1, .inl (B.2.1 0, 6, .inl (fun _ => 0))), (q2, .inl (B.2.1 0, 6, .inl (fun _ => 0))), (q3, .inl (B.2.1 0, 6, .inl (fun _ => 0))), (q4, .inl (B.2.1 0, 6, .inl (fun _ => 0))), (q5, .inl (B.2.1 0, 6, .inl (fun _ => 0)))]) rfl ?_
  refine v_aload_n C 0 dX0_init_51 rfl rfl ?_
  refine v_iconst C dX0_init_52 (v := (0 : Int32)) (by decide) ?_
  refine v_putE C ginX0 tyX0 tyX0_ok nmX0 rfl 7 (by decide) rfl (gdm 365 (by decide +kernel) (by decide +kernel)) 0 rfl (ty := .int) (by decide +kernel) rfl rfl (Nat.le_of_ble_eq_true rfl) dX0_init_53 (w' := [(h, .inr (0, [.null, .ref q1, .ref q2, .ref q3, .ref q4, .ref q5, .int (255 : Int32), .int (0 : Int32), .int 0, .int 0])), (q1, .inl (B.2.1 0, 6, .inl (fun _ => 0))), (q2, .inl (B.2.1 0, 6, .inl (fun _ => 0))), (q3, .inl (B.2.1 0, 6, .inl (fun _ => 0))), (q4, .inl (B.2.1 0, 6, .inl (fun _ => 0))), (q5, .inl (B.2.1 0, 6, .inl (fun _ => 0)))]) rfl ?_
  refine v_aload_n C 0 dX0_init_56 rfl rfl ?_
  refine v_iconst C dX0_init_57 (v := (0 : Int32)) (by decide) ?_
  refine v_putE C ginX0 tyX0 tyX0_ok nmX0 rfl 8 (by decide) rfl (gdm 367 (by decide +kernel) (by decide +kernel)) 0 rfl (ty := .int) (by decide +kernel) rfl rfl (Nat.le_of_ble_eq_true rfl) dX0_init_58 (w' := [(h, .inr (0, [.null, .ref q1, .ref q2, .ref q3, .ref q4, .ref q5, .int (255 : Int32), .int (0 : Int32), .int (0 : Int32), .int 0])), (q1, .inl (B.2.1 0, 6, .inl (fun _ => 0))), (q2, .inl (B.2.1 0, 6, .inl (fun _ => 0))), (q3, .inl (B.2.1 0, 6, .inl (fun _ => 0))), (q4, .inl (B.2.1 0, 6, .inl (fun _ => 0))), (q5, .inl (B.2.1 0, 6, .inl (fun _ => 0)))]) rfl ?_
  refine v_aload_n C 0 dX0_init_61 rfl rfl ?_
  refine v_iconst C dX0_init_62 (v := (0 : Int32)) (by decide) ?_
  refine v_putE C ginX0 tyX0 tyX0_ok nmX0 rfl 9 (by decide) rfl (gdm 369 (by decide +kernel) (by decide +kernel)) 0 rfl (ty := .int) (by decide +kernel) rfl rfl (Nat.le_of_ble_eq_true rfl) dX0_init_63 (w' := [(h, .inr (0, [.null, .ref q1, .ref q2, .ref q3, .ref q4, .ref q5, .int (255 : Int32), .int (0 : Int32), .int (0 : Int32), .int (0 : Int32)])), (q1, .inl (B.2.1 0, 6, .inl (fun _ => 0))), (q2, .inl (B.2.1 0, 6, .inl (fun _ => 0))), (q3, .inl (B.2.1 0, 6, .inl (fun _ => 0))), (q4, .inl (B.2.1 0, 6, .inl (fun _ => 0))), (q5, .inl (B.2.1 0, 6, .inl (fun _ => 0)))]) rfl ?_
  refine v_aload_n C 0 dX0_init_66 rfl rfl ?_
  refine v_aload_n C 1 dX0_init_67 rfl rfl ?_
  refine v_putFE C hI ginX0 tyX0 tyX0_ok nmX0 rfl 0 (by decide) rfl rfl (gdm 352 (by decide +kernel) (by decide +kernel)) 0 rfl (ty := (.object "LoserKeepsTheBoard$Texts")) (by decide +kernel) rfl rfl (Nat.le_of_ble_eq_true rfl) dX0_init_68 (w' := [(h, .inr (0, [.ref tx, .ref q1, .ref q2, .ref q3, .ref q4, .ref q5, .int (255 : Int32), .int (0 : Int32), .int (0 : Int32), .int (0 : Int32)])), (q1, .inl (B.2.1 0, 6, .inl (fun _ => 0))), (q2, .inl (B.2.1 0, 6, .inl (fun _ => 0))), (q3, .inl (B.2.1 0, 6, .inl (fun _ => 0))), (q4, .inl (B.2.1 0, 6, .inl (fun _ => 0))), (q5, .inl (B.2.1 0, 6, .inl (fun _ => 0)))]) rfl ?_
  exact hR _ _ _ 5 30 (by decide) (by decide) ⟨q1, q2, q3, q4, q5, rfl⟩ dX0_init_71
set_option maxHeartbeats 4000000 in
set_option maxRecDepth 20000 in
theorem nX1_init {B : BX} {h  : Nat} : KGv B yX1_init cX1_init 1 1 20 2 320 [.ref h] [(h, .inr (1, [.null, .int 0, .int 0, .null, .int 0, .int 0, .int 0, .int 0, .int 0]))] (fun w1 => ∃ q1 q2 : Nat, w1 = [(h, .inr (1, [.ref q1, .int (0 : Int32), .int (-1 : Int32), .ref q2, .int (0 : Int32), .int (0 : Int32), .int (9 : Int32), .int (0 : Int32), .int (0 : Int32)])), (q1, .inl (B.2.1 0, 160, .inl (fun _ => 0))), (q2, .inl (B.2.1 0, 160, .inl (fun _ => 0)))]) := by
  refine KGv_of (by decide +kernel) (Nat.le_of_ble_eq_true rfl) (fun E G hI hR => ?_)
  change V B (bmp E 0 0) 1 [(h, .inr (1, [.null, .int 0, .int 0, .null, .int 0, .int 0, .int 0, .int 0, .int 0]))] 0 [(0, .ref h)] []
  change OkG B E cX1_init 1 RX1 1 20 2 320 at G
  have C := G.at (k := 0) (n := 0) (by decide) (by decide)
  refine v_aload_n C 0 dX1_init_0 rfl rfl ?_
  refine v_objInit C (gdm 140 (by decide +kernel) (by decide +kernel)) (gdm 109 (by decide +kernel) (by decide +kernel)) (gdm 110 (by decide +kernel) (by decide +kernel)) (Nat.le_of_ble_eq_true rfl) (by decide) (by decide) dX1_init_1 ?_
  refine v_aload_n C 0 dX1_init_4 rfl rfl ?_
  refine v_sipush C dX1_init_5 (v := (160 : Int32)) (by decide) ?_
  refine v_newaE (N := 160) (k := 0) (n := 0) G (gdm 134 (by decide +kernel) (by decide +kernel)) (by decide) (by decide) (by decide) (by decide) (by decide) dX1_init_8 (fun q1 => ?_)
  refine v_bm (k' := 1) (n' := 160) rfl rfl (v_w (w' := [(h, .inr (1, [.null, .int 0, .int 0, .null, .int 0, .int 0, .int 0, .int 0, .int 0])), (q1, .inl (B.2.1 0, 160, .inl (fun _ => 0)))]) rfl ?_)
  have C := G.at (k := 1) (n := 160) (by decide) (by decide)
  refine v_putFE C hI ginX1 tyX1 tyX1_ok nmX1 rfl 0 (by decide) rfl rfl (gdm 141 (by decide +kernel) (by decide +kernel)) 0 rfl (ty := (.array .int)) (by decide +kernel) rfl rfl (Nat.le_of_ble_eq_true rfl) dX1_init_10 (w' := [(h, .inr (1, [.ref q1, .int 0, .int 0, .null, .int 0, .int 0, .int 0, .int 0, .int 0])), (q1, .inl (B.2.1 0, 160, .inl (fun _ => 0)))]) rfl ?_
  refine v_aload_n C 0 dX1_init_13 rfl rfl ?_
  refine v_iconst C dX1_init_14 (v := (0 : Int32)) (by decide) ?_
  refine v_putE C ginX1 tyX1 tyX1_ok nmX1 rfl 1 (by decide) rfl (gdm 142 (by decide +kernel) (by decide +kernel)) 0 rfl (ty := .int) (by decide +kernel) rfl rfl (Nat.le_of_ble_eq_true rfl) dX1_init_15 (w' := [(h, .inr (1, [.ref q1, .int (0 : Int32), .int 0, .null, .int 0, .int 0, .int 0, .int 0, .int 0])), (q1, .inl (B.2.1 0, 160, .inl (fun _ => 0)))]) rfl ?_
  refine v_aload_n C 0 dX1_init_18 rfl rfl ?_
  refine v_iconst C dX1_init_19 (v := (-1 : Int32)) (by decide) ?_
  refine v_putE C ginX1 tyX1 tyX1_ok nmX1 rfl 2 (by decide) rfl (gdm 144 (by decide +kernel) (by decide +kernel)) 0 rfl (ty := .int) (by decide +kernel) rfl rfl (Nat.le_of_ble_eq_true rfl) dX1_init_20 (w' := [(h, .inr (1, [.ref q1, .int (0 : Int32), .int (-1 : Int32), .null, .int 0, .int 0, .int 0, .int 0, .int 0])), (q1, .inl (B.2.1 0, 160, .inl (fun _ => 0)))]) rfl ?_
  refine v_aload_n C 0 dX1_init_23 rfl rfl ?_
  refine v_sipush C dX1_init_24 (v := (160 : Int32)) (by decide) ?_
  refine v_newaE (N := 160) (k := 1) (n := 160) G (gdm 134 (by decide +kernel) (by decide +kernel)) (by decide) (by decide) (by decide) (by decide) (by decide) dX1_init_27 (fun q2 => ?_)
  refine v_bm (k' := 2) (n' := 320) rfl rfl (v_w (w' := [(h, .inr (1, [.ref q1, .int (0 : Int32), .int (-1 : Int32), .null, .int 0, .int 0, .int 0, .int 0, .int 0])), (q1, .inl (B.2.1 0, 160, .inl (fun _ => 0))), (q2, .inl (B.2.1 0, 160, .inl (fun _ => 0)))]) rfl ?_)
  have C := G.at (k := 2) (n := 320) (by decide) (by decide)
  refine v_putFE C hI ginX1 tyX1 tyX1_ok nmX1 rfl 3 (by decide) rfl rfl (gdm 146 (by decide +kernel) (by decide +kernel)) 0 rfl (ty := (.array .int)) (by decide +kernel) rfl rfl (Nat.le_of_ble_eq_true rfl) dX1_init_29 (w' := [(h, .inr (1, [.ref q1, .int (0 : Int32), .int (-1 : Int32), .ref q2, .int 0, .int 0, .int 0, .int 0, .int 0])), (q1, .inl (B.2.1 0, 160, .inl (fun _ => 0))), (q2, .inl (B.2.1 0, 160, .inl (fun _ => 0)))]) rfl ?_
  refine v_aload_n C 0 dX1_init_32 rfl rfl ?_
  refine v_iconst C dX1_init_33 (v := (0 : Int32)) (by decide) ?_
  refine v_putE C ginX1 tyX1 tyX1_ok nmX1 rfl 4 (by decide) rfl (gdm 147 (by decide +kernel) (by decide +kernel)) 0 rfl (ty := .int) (by decide +kernel) rfl rfl (Nat.le_of_ble_eq_true rfl) dX1_init_34 (w' := [(h, .inr (1, [.ref q1, .int (0 : Int32), .int (-1 : Int32), .ref q2, .int (0 : Int32), .int 0, .int 0, .int 0, .int 0])), (q1, .inl (B.2.1 0, 160, .inl (fun _ => 0))), (q2, .inl (B.2.1 0, 160, .inl (fun _ => 0)))]) rfl ?_
  refine v_aload_n C 0 dX1_init_37 rfl rfl ?_
  refine v_iconst C dX1_init_38 (v := (0 : Int32)) (by decide) ?_
  refine v_putE C ginX1 tyX1 tyX1_ok nmX1 rfl 5 (by decide) rfl (gdm 148 (by decide +kernel) (by decide +kernel)) 0 rfl (ty := .int) (by decide +kernel) rfl rfl (Nat.le_of_ble_eq_true rfl) dX1_init_39 (w' := [(h, .inr (1, [.ref q1, .int (0 : Int32), .int (-1 : Int32), .ref q2, .int (0 : Int32), .int (0 : Int32), .int 0, .int 0, .int 0])), (q1, .inl (B.2.1 0, 160, .inl (fun _ => 0))), (q2, .inl (B.2.1 0, 160, .inl (fun _ => 0)))]) rfl ?_
  refine v_aload_n C 0 dX1_init_42 rfl rfl ?_
  refine v_bipush C dX1_init_43 (v := (9 : Int32)) (by decide) ?_
  refine v_putE C ginX1 tyX1 tyX1_ok nmX1 rfl 6 (by decide) rfl (gdm 149 (by decide +kernel) (by decide +kernel)) 0 rfl (ty := .int) (by decide +kernel) rfl rfl (Nat.le_of_ble_eq_true rfl) dX1_init_45 (w' := [(h, .inr (1, [.ref q1, .int (0 : Int32), .int (-1 : Int32), .ref q2, .int (0 : Int32), .int (0 : Int32), .int (9 : Int32), .int 0, .int 0])), (q1, .inl (B.2.1 0, 160, .inl (fun _ => 0))), (q2, .inl (B.2.1 0, 160, .inl (fun _ => 0)))]) rfl ?_
  refine v_aload_n C 0 dX1_init_48 rfl rfl ?_
  refine v_iconst C dX1_init_49 (v := (0 : Int32)) (by decide) ?_
  refine v_putE C ginX1 tyX1 tyX1_ok nmX1 rfl 7 (by decide) rfl (gdm 150 (by decide +kernel) (by decide +kernel)) 0 rfl (ty := .int) (by decide +kernel) rfl rfl (Nat.le_of_ble_eq_true rfl) dX1_init_50 (w' := [(h, .inr (1, [.ref q1, .int (0 : Int32), .int (-1 : Int32), .ref q2, .int (0 : Int32), .int (0 : Int32), .int (9 : Int32), .int (0 : Int32), .int 0])), (q1, .inl (B.2.1 0, 160, .inl (fun _ => 0))), (q2, .inl (B.2.1 0, 160, .inl (fun _ => 0)))]) rfl ?_
  refine v_aload_n C 0 dX1_init_53 rfl rfl ?_
  refine v_iconst C dX1_init_54 (v := (0 : Int32)) (by decide) ?_
  refine v_putE C ginX1 tyX1 tyX1_ok nmX1 rfl 8 (by decide) rfl (gdm 151 (by decide +kernel) (by decide +kernel)) 0 rfl (ty := .int) (by decide +kernel) rfl rfl (Nat.le_of_ble_eq_true rfl) dX1_init_55 (w' := [(h, .inr (1, [.ref q1, .int (0 : Int32), .int (-1 : Int32), .ref q2, .int (0 : Int32), .int (0 : Int32), .int (9 : Int32), .int (0 : Int32), .int (0 : Int32)])), (q1, .inl (B.2.1 0, 160, .inl (fun _ => 0))), (q2, .inl (B.2.1 0, 160, .inl (fun _ => 0)))]) rfl ?_
  exact hR _ _ _ 2 320 (by decide) (by decide) ⟨q1, q2, rfl⟩ dX1_init_58
set_option maxHeartbeats 4000000 in
set_option maxRecDepth 20000 in
theorem nX2_init {B : BX} {h  : Nat} : KGv B yX2_init cX2_init 1 1 20 1 40 [.ref h] [(h, .inr (2, [.null, .int 0, .int 0]))] (fun w1 => ∃ q1 : Nat, w1 = [(h, .inr (2, [.ref q1, .int (-1 : Int32), .int (0 : Int32)])), (q1, .inl (B.2.1 0, 40, .inl (fun _ => 0)))]) := by
  refine KGv_of (by decide +kernel) (Nat.le_of_ble_eq_true rfl) (fun E G hI hR => ?_)
  change V B (bmp E 0 0) 1 [(h, .inr (2, [.null, .int 0, .int 0]))] 0 [(0, .ref h)] []
  change OkG B E cX2_init 1 RX2 1 20 1 40 at G
  have C := G.at (k := 0) (n := 0) (by decide) (by decide)
  refine v_aload_n C 0 dX2_init_0 rfl rfl ?_
  refine v_objInit C (gdm 399 (by decide +kernel) (by decide +kernel)) (gdm 109 (by decide +kernel) (by decide +kernel)) (gdm 110 (by decide +kernel) (by decide +kernel)) (Nat.le_of_ble_eq_true rfl) (by decide) (by decide) dX2_init_1 ?_
  refine v_aload_n C 0 dX2_init_4 rfl rfl ?_
  refine v_bipush C dX2_init_5 (v := (40 : Int32)) (by decide) ?_
  refine v_newaE (N := 40) (k := 0) (n := 0) G (gdm 134 (by decide +kernel) (by decide +kernel)) (by decide) (by decide) (by decide) (by decide) (by decide) dX2_init_7 (fun q1 => ?_)
  refine v_bm (k' := 1) (n' := 40) rfl rfl (v_w (w' := [(h, .inr (2, [.null, .int 0, .int 0])), (q1, .inl (B.2.1 0, 40, .inl (fun _ => 0)))]) rfl ?_)
  have C := G.at (k := 1) (n := 40) (by decide) (by decide)
  refine v_putFE C hI ginX2 tyX2 tyX2_ok nmX2 rfl 0 (by decide) rfl rfl (gdm 400 (by decide +kernel) (by decide +kernel)) 0 rfl (ty := (.array .int)) (by decide +kernel) rfl rfl (Nat.le_of_ble_eq_true rfl) dX2_init_9 (w' := [(h, .inr (2, [.ref q1, .int 0, .int 0])), (q1, .inl (B.2.1 0, 40, .inl (fun _ => 0)))]) rfl ?_
  refine v_aload_n C 0 dX2_init_12 rfl rfl ?_
  refine v_iconst C dX2_init_13 (v := (-1 : Int32)) (by decide) ?_
  refine v_putE C ginX2 tyX2 tyX2_ok nmX2 rfl 1 (by decide) rfl (gdm 402 (by decide +kernel) (by decide +kernel)) 0 rfl (ty := .int) (by decide +kernel) rfl rfl (Nat.le_of_ble_eq_true rfl) dX2_init_14 (w' := [(h, .inr (2, [.ref q1, .int (-1 : Int32), .int 0])), (q1, .inl (B.2.1 0, 40, .inl (fun _ => 0)))]) rfl ?_
  refine v_aload_n C 0 dX2_init_17 rfl rfl ?_
  refine v_iconst C dX2_init_18 (v := (0 : Int32)) (by decide) ?_
  refine v_putE C ginX2 tyX2 tyX2_ok nmX2 rfl 2 (by decide) rfl (gdm 404 (by decide +kernel) (by decide +kernel)) 0 rfl (ty := .int) (by decide +kernel) rfl rfl (Nat.le_of_ble_eq_true rfl) dX2_init_19 (w' := [(h, .inr (2, [.ref q1, .int (-1 : Int32), .int (0 : Int32)])), (q1, .inl (B.2.1 0, 40, .inl (fun _ => 0)))]) rfl ?_
  exact hR _ _ _ 1 40 (by decide) (by decide) ⟨q1, rfl⟩ dX2_init_22
set_option maxHeartbeats 4000000 in
set_option maxRecDepth 20000 in
theorem nX3_init {B : BX} {h cd en : Nat} : KGv B yX3_init cX3_init 3 1 20 0 0 [.ref h, .ref cd, .ref en] [(h, .inr (3, [.null, .null]))] (fun w1 => w1 = [(h, .inr (3, [.ref cd, .ref en]))]) := by
  refine KGv_of (by decide +kernel) (Nat.le_of_ble_eq_true rfl) (fun E G hI hR => ?_)
  change V B (bmp E 0 0) 3 [(h, .inr (3, [.null, .null]))] 0 [(0, .ref h), (1, .ref cd), (2, .ref en)] []
  change OkG B E cX3_init 3 RX3 1 20 0 0 at G
  have C := G.at (k := 0) (n := 0) (by decide) (by decide)
  refine v_aload_n C 0 dX3_init_0 rfl rfl ?_
  refine v_objInit C (gdm 333 (by decide +kernel) (by decide +kernel)) (gdm 109 (by decide +kernel) (by decide +kernel)) (gdm 110 (by decide +kernel) (by decide +kernel)) (Nat.le_of_ble_eq_true rfl) (by decide) (by decide) dX3_init_1 ?_
  refine v_aload_n C 0 dX3_init_4 rfl rfl ?_
  refine v_aload_n C 1 dX3_init_5 rfl rfl ?_
  refine v_putFE C hI ginX3 tyX3 tyX3_ok nmX3 rfl 0 (by decide) rfl rfl (gdm 334 (by decide +kernel) (by decide +kernel)) 0 rfl (ty := (.array .int)) (by decide +kernel) rfl rfl (Nat.le_of_ble_eq_true rfl) dX3_init_6 (w' := [(h, .inr (3, [.ref cd, .null]))]) rfl ?_
  refine v_aload_n C 0 dX3_init_9 rfl rfl ?_
  refine v_aload_n C 2 dX3_init_10 rfl rfl ?_
  refine v_putFE C hI ginX3 tyX3 tyX3_ok nmX3 rfl 1 (by decide) rfl rfl (gdm 335 (by decide +kernel) (by decide +kernel)) 0 rfl (ty := (.array .int)) (by decide +kernel) rfl rfl (Nat.le_of_ble_eq_true rfl) dX3_init_11 (w' := [(h, .inr (3, [.ref cd, .ref en]))]) rfl ?_
  exact hR _ _ _ 0 0 (by decide) (by decide) rfl dX3_init_14
set_option maxHeartbeats 4000000 in
set_option maxRecDepth 20000 in
theorem nX4_init {B : BX} {h  : Nat} : KGv B yX4_init cX4_init 1 1 20 3 76 [.ref h] [(h, .inr (4, [.null, .null, .null, .int 0]))] (fun w1 => ∃ q1 q2 q3 : Nat, w1 = [(h, .inr (4, [.ref q1, .ref q2, .ref q3, .int (0 : Int32)])), (q1, .inl (B.2.1 4, 6, .inr (.inr (.inr (.inr (fun _ => none)))))), (q2, .inl (B.2.1 0, 6, .inl (fun _ => 0))), (q3, .inl (B.2.1 0, 64, .inl (fun _ => 0)))]) := by
  refine KGv_of (by decide +kernel) (Nat.le_of_ble_eq_true rfl) (fun E G hI hR => ?_)
  change V B (bmp E 0 0) 1 [(h, .inr (4, [.null, .null, .null, .int 0]))] 0 [(0, .ref h)] []
  change OkG B E cX4_init 1 RX4 1 20 3 76 at G
  have C := G.at (k := 0) (n := 0) (by decide) (by decide)
  refine v_aload_n C 0 dX4_init_0 rfl rfl ?_
  refine v_objInit C (gdm 116 (by decide +kernel) (by decide +kernel)) (gdm 109 (by decide +kernel) (by decide +kernel)) (gdm 110 (by decide +kernel) (by decide +kernel)) (Nat.le_of_ble_eq_true rfl) (by decide) (by decide) dX4_init_1 ?_
  refine v_aload_n C 0 dX4_init_4 rfl rfl ?_
  refine v_bipush C dX4_init_5 (v := (6 : Int32)) (by decide) ?_
  refine v_newqE (N := 6) (k := 0) (n := 0) G 4 rfl G.2.2.2.2.2.1 (gdm 117 (by decide +kernel) (by decide +kernel)) (by decide) (by decide) (by decide) (by decide) (by decide) dX4_init_7 (fun q1 => ?_)
  refine v_bm (k' := 1) (n' := 6) rfl rfl (v_w (w' := [(h, .inr (4, [.null, .null, .null, .int 0])), (q1, .inl (B.2.1 4, 6, .inr (.inr (.inr (.inr (fun _ => none))))))]) rfl ?_)
  have C := G.at (k := 1) (n := 6) (by decide) (by decide)
  refine v_putFE C hI ginX4 tyX4 tyX4_ok nmX4 rfl 0 (by decide) rfl rfl (gdm 119 (by decide +kernel) (by decide +kernel)) 0 rfl (ty := (.array (.object "LoserKeepsTheBoard$Text"))) (by decide +kernel) rfl rfl (Nat.le_of_ble_eq_true rfl) dX4_init_10 (w' := [(h, .inr (4, [.ref q1, .null, .null, .int 0])), (q1, .inl (B.2.1 4, 6, .inr (.inr (.inr (.inr (fun _ => none))))))]) rfl ?_
  refine v_aload_n C 0 dX4_init_13 rfl rfl ?_
  refine v_bipush C dX4_init_14 (v := (6 : Int32)) (by decide) ?_
  refine v_newaE (N := 6) (k := 1) (n := 6) G (gdm 134 (by decide +kernel) (by decide +kernel)) (by decide) (by decide) (by decide) (by decide) (by decide) dX4_init_16 (fun q2 => ?_)
  refine v_bm (k' := 2) (n' := 12) rfl rfl (v_w (w' := [(h, .inr (4, [.ref q1, .null, .null, .int 0])), (q1, .inl (B.2.1 4, 6, .inr (.inr (.inr (.inr (fun _ => none)))))), (q2, .inl (B.2.1 0, 6, .inl (fun _ => 0)))]) rfl ?_)
  have C := G.at (k := 2) (n := 12) (by decide) (by decide)
  refine v_putFE C hI ginX4 tyX4 tyX4_ok nmX4 rfl 1 (by decide) rfl rfl (gdm 120 (by decide +kernel) (by decide +kernel)) 0 rfl (ty := (.array .int)) (by decide +kernel) rfl rfl (Nat.le_of_ble_eq_true rfl) dX4_init_18 (w' := [(h, .inr (4, [.ref q1, .ref q2, .null, .int 0])), (q1, .inl (B.2.1 4, 6, .inr (.inr (.inr (.inr (fun _ => none)))))), (q2, .inl (B.2.1 0, 6, .inl (fun _ => 0)))]) rfl ?_
  refine v_aload_n C 0 dX4_init_21 rfl rfl ?_
  refine v_bipush C dX4_init_22 (v := (64 : Int32)) (by decide) ?_
  refine v_newaE (N := 64) (k := 2) (n := 12) G (gdm 134 (by decide +kernel) (by decide +kernel)) (by decide) (by decide) (by decide) (by decide) (by decide) dX4_init_24 (fun q3 => ?_)
  refine v_bm (k' := 3) (n' := 76) rfl rfl (v_w (w' := [(h, .inr (4, [.ref q1, .ref q2, .null, .int 0])), (q1, .inl (B.2.1 4, 6, .inr (.inr (.inr (.inr (fun _ => none)))))), (q2, .inl (B.2.1 0, 6, .inl (fun _ => 0))), (q3, .inl (B.2.1 0, 64, .inl (fun _ => 0)))]) rfl ?_)
  have C := G.at (k := 3) (n := 76) (by decide) (by decide)
  refine v_putFE C hI ginX4 tyX4 tyX4_ok nmX4 rfl 2 (by decide) rfl rfl (gdm 122 (by decide +kernel) (by decide +kernel)) 0 rfl (ty := (.array .int)) (by decide +kernel) rfl rfl (Nat.le_of_ble_eq_true rfl) dX4_init_26 (w' := [(h, .inr (4, [.ref q1, .ref q2, .ref q3, .int 0])), (q1, .inl (B.2.1 4, 6, .inr (.inr (.inr (.inr (fun _ => none)))))), (q2, .inl (B.2.1 0, 6, .inl (fun _ => 0))), (q3, .inl (B.2.1 0, 64, .inl (fun _ => 0)))]) rfl ?_
  refine v_aload_n C 0 dX4_init_29 rfl rfl ?_
  refine v_iconst C dX4_init_30 (v := (0 : Int32)) (by decide) ?_
  refine v_putE C ginX4 tyX4 tyX4_ok nmX4 rfl 3 (by decide) rfl (gdm 123 (by decide +kernel) (by decide +kernel)) 0 rfl (ty := .int) (by decide +kernel) rfl rfl (Nat.le_of_ble_eq_true rfl) dX4_init_31 (w' := [(h, .inr (4, [.ref q1, .ref q2, .ref q3, .int (0 : Int32)])), (q1, .inl (B.2.1 4, 6, .inr (.inr (.inr (.inr (fun _ => none)))))), (q2, .inl (B.2.1 0, 6, .inl (fun _ => 0))), (q3, .inl (B.2.1 0, 64, .inl (fun _ => 0)))]) rfl ?_
  exact hR _ _ _ 3 76 (by decide) (by decide) ⟨q1, q2, q3, rfl⟩ dX4_init_34
