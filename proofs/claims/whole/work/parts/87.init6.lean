/-! the check's constructor -/
def a12 (h q1 q2 q3 q4 q5 q6 q7 q8 q9 q10 q11 : Nat) : Nat → Nat := fun k => match k with
  | 0 => h
  | 1 => q1
  | 2 => q2
  | 3 => q3
  | 4 => q4
  | 5 => q5
  | 6 => q6
  | 7 => q7
  | 8 => q8
  | 9 => q9
  | 10 => q10
  | _ => q11
def M6i : S0 := fun k j => if k = 0 then (if j = 8 then 255 else if j = 34 then -1 else 0) else 0
def b48 : List Int32 := [112, 108, 97, 121, 115, 32, 115, 116, 114, 111, 110, 103, 32, 59, 32, 116, 104, 114, 111, 119, 115, 32, 104, 97, 115, 32, 60, 32, 49, 32, 59, 32, 116, 105, 114, 101, 115, 32, 49, 32, 59, 32, 32, 32, 32, 32, 32, 32]
def Sp6 (n : Nat) (M : S0) : Prop := (∀ k j, (k ≠ 1 ∨ 8 * n ≤ j) → M k j = M6i k j) ∧ ∀ j, j < 8 * n → M 1 j = b48.getD j 0
theorem j64_00 : j64 0 0 = 0 := by decide
theorem m_spell {M : S0} {n : Nat} {p2 p3 p4 p5 p6 p7 p8 p9 : Int32} (hn : n < 6) (h : Sp6 n M) (hb : ∀ i, i < 8 → b48.getD (8 * n + i) 0 = [p2, p3, p4, p5, p6, p7, p8, p9].getD i 0) {Q : S0 → Prop} (k : ∀ M', Sp6 (n + 1) M' → Q M') : w6_spell M (nI (8 * n)) p2 p3 p4 p5 p6 p7 p8 p9 Q := by
  unfold w6_spell
  have ad : ∀ i : Nat, nI (8 * n) + nI i = nI (8 * n + i) := fun i => nI_add _ _
  have e1 : nI (8 * n) + (1 : Int32) = nI (8 * n + 1) := ad 1
  have e2 : nI (8 * n) + (2 : Int32) = nI (8 * n + 2) := ad 2
  have e3 : nI (8 * n) + (3 : Int32) = nI (8 * n + 3) := ad 3
  have e4 : nI (8 * n) + (4 : Int32) = nI (8 * n + 4) := ad 4
  have e5 : nI (8 * n) + (5 : Int32) = nI (8 * n + 5) := ad 5
  have e6 : nI (8 * n) + (6 : Int32) = nI (8 * n + 6) := ad 6
  have e7 : nI (8 * n) + (7 : Int32) = nI (8 * n + 7) := ad 7
  rw [e1, e2, e3, e4, e5, e6, e7, nI_clamp (n := 8 * n) (by omega), nI_clamp (n := 8 * n + 1) (by omega), nI_clamp (n := 8 * n + 2) (by omega), nI_clamp (n := 8 * n + 3) (by omega), nI_clamp (n := 8 * n + 4) (by omega), nI_clamp (n := 8 * n + 5) (by omega), nI_clamp (n := 8 * n + 6) (by omega), nI_clamp (n := 8 * n + 7) (by omega)]
  refine ⟨vpl _ _ (by omega) (by decide), ?_⟩
  rintro _ rfl
  refine ⟨vpl _ _ (by omega) (by decide), ?_⟩
  rintro _ rfl
  refine ⟨vpl _ _ (by omega) (by decide), ?_⟩
  rintro _ rfl
  refine ⟨vpl _ _ (by omega) (by decide), ?_⟩
  rintro _ rfl
  refine ⟨vpl _ _ (by omega) (by decide), ?_⟩
  rintro _ rfl
  refine ⟨vpl _ _ (by omega) (by decide), ?_⟩
  rintro _ rfl
  refine ⟨vpl _ _ (by omega) (by decide), ?_⟩
  rintro _ rfl
  refine ⟨vpl _ _ (by omega) (by decide), ?_⟩
  rintro _ rfl
  refine k _ ⟨fun k' j q => ?_, fun j hj => ?_⟩
  · by_cases z : k' = 1
    · subst z
      rw [up_j (by omega), up_j (by omega), up_j (by omega), up_j (by omega), up_j (by omega), up_j (by omega), up_j (by omega), up_j (by omega)]
      exact h.1 1 j (by omega)
    · rw [up_k z, up_k z, up_k z, up_k z, up_k z, up_k z, up_k z, up_k z]
      exact h.1 k' j (Or.inl z)
  · rcases Nat.lt_or_ge j (8 * n) with z | z
    · rw [up_j (by omega), up_j (by omega), up_j (by omega), up_j (by omega), up_j (by omega), up_j (by omega), up_j (by omega), up_j (by omega)]
      exact h.2 j z
    · obtain ⟨i, rfl⟩ : ∃ i, j = 8 * n + i := ⟨j - 8 * n, by omega⟩
      rw [hb i (by omega)]
      rcases (by omega : i = 0 ∨ i = 1 ∨ i = 2 ∨ i = 3 ∨ i = 4 ∨ i = 5 ∨ i = 6 ∨ i = 7) with rfl | rfl | rfl | rfl | rfl | rfl | rfl | rfl
      · rw [up_j (by omega), up_j (by omega), up_j (by omega), up_j (by omega), up_j (by omega), up_j (by omega), up_j (by omega)]; exact up_s
      · rw [up_j (by omega), up_j (by omega), up_j (by omega), up_j (by omega), up_j (by omega), up_j (by omega)]; exact up_s
      · rw [up_j (by omega), up_j (by omega), up_j (by omega), up_j (by omega), up_j (by omega)]; exact up_s
      · rw [up_j (by omega), up_j (by omega), up_j (by omega), up_j (by omega)]; exact up_s
      · rw [up_j (by omega), up_j (by omega), up_j (by omega)]; exact up_s
      · rw [up_j (by omega), up_j (by omega)]; exact up_s
      · rw [up_j (by omega)]; exact up_s
      · exact up_s
/-- the check's memory, new -/
def New6 (M : S0) : Prop := (∀ k j, (k ≠ 1 ∨ 48 ≤ j) → (k ≠ 2 ∨ j ≠ 0) → (k ≠ 0 ∨ j ≠ 3) → M k j = M6i k j) ∧ (∀ j, j < 48 → M 1 j = b48.getD j 0) ∧ M 2 0 = 48 ∧ M 0 3 = 1
theorem eX6i_54 : CWV RX6 54 yX6_spell cX6_spell 10 none 9 := ⟨gdm 785 (by decide +kernel) (by decide +kernel), gdm 787 (by decide +kernel) (by decide +kernel), gdm 40 (by decide +kernel) (by decide +kernel), gdm 99 (by decide +kernel) (by decide +kernel), gdm 788 (by decide +kernel) (by decide +kernel), by decide +kernel, by decide +kernel, by decide +kernel⟩
set_option maxHeartbeats 8000000 in
set_option maxRecDepth 20000 in
theorem nX6_init {B : BX} {h : Nat} : KGv B yX6_init cX6_init 1 1 40 11 1560 [.ref h] [(h, .inr (6, [.int 0, .null, .null, .int 0, .int 0, .null, .int 0, .int 0, .int 0, .null, .null, .int 0, .int 0, .int 0, .int 0, .int 0, .int 0, .int 0, .int 0, .int 0, .int 0, .int 0, .int 0, .long 0, .int 0, .int 0, .int 0, .null, .int 0, .int 0, .int 0, .int 0, .null, .int 0, .int 0, .int 0, .int 0, .null, .null, .null, .null]))] (fun w1 => ∃ (q1 q2 q3 q4 q5 q6 q7 q8 q9 q10 q11 : Nat) (M : S0), w1 = wl 12 (a12 h q1 q2 q3 q4 q5 q6 q7 q8 q9 q10 q11) (shM B.2.1 (a12 h q1 q2 q3 q4 q5 q6 q7 q8 q9 q10 q11)) M ∧ New6 M) := by
  refine KGv_of (by decide +kernel) (Nat.le_of_ble_eq_true rfl) (fun E G hI hR => ?_)
  change V B (bmp E 0 0) 1 [(h, .inr (6, [.int 0, .null, .null, .int 0, .int 0, .null, .int 0, .int 0, .int 0, .null, .null, .int 0, .int 0, .int 0, .int 0, .int 0, .int 0, .int 0, .int 0, .int 0, .int 0, .int 0, .int 0, .long 0, .int 0, .int 0, .int 0, .null, .int 0, .int 0, .int 0, .int 0, .null, .int 0, .int 0, .int 0, .int 0, .null, .null, .null, .null]))] 0 [(0, .ref h)] []
  change OkG B E cX6_init 1 RX6 1 40 11 1560 at G
  have C := G.at (k := 0) (n := 0) (by decide) (by decide)
  refine v_aload_n C 0 dX6_init_0 rfl rfl ?_
  refine v_objInit C (gdm 784 (by decide +kernel) (by decide +kernel)) (gdm 109 (by decide +kernel) (by decide +kernel)) (gdm 110 (by decide +kernel) (by decide +kernel)) (Nat.le_of_ble_eq_true rfl) (by decide) (by decide) dX6_init_1 ?_
  refine v_aload_n C 0 dX6_init_4 rfl rfl ?_
  refine v_sipush C dX6_init_5 (v := (960 : Int32)) (by decide) ?_
  refine v_newaE (N := 960) (k := 0) (n := 0) G (gdm 134 (by decide +kernel) (by decide +kernel)) (by decide) (by decide) (by decide) (by decide) (by decide) dX6_init_8 (fun q1 => ?_)
  refine v_bm (k' := 1) (n' := 960) rfl rfl (v_w (w' := [(h, .inr (6, [.int 0, .null, .null, .int 0, .int 0, .null, .int 0, .int 0, .int 0, .null, .null, .int 0, .int 0, .int 0, .int 0, .int 0, .int 0, .int 0, .int 0, .int 0, .int 0, .int 0, .int 0, .long 0, .int 0, .int 0, .int 0, .null, .int 0, .int 0, .int 0, .int 0, .null, .int 0, .int 0, .int 0, .int 0, .null, .null, .null, .null])), (q1, .inl (B.2.1 0, 960, .inl (fun _ => 0)))]) rfl ?_)
  have C := G.at (k := 1) (n := 960) (by decide) (by decide)
  refine v_putFE C hI ginX6 tyX6 tyX6_ok nmX6 rfl 1 (by decide) rfl rfl (gdm 789 (by decide +kernel) (by decide +kernel)) 0 rfl (ty := (.array .int)) (by decide +kernel) rfl rfl (Nat.le_of_ble_eq_true rfl) dX6_init_10 (w' := [(h, .inr (6, [.int 0, .ref q1, .null, .int 0, .int 0, .null, .int 0, .int 0, .int 0, .null, .null, .int 0, .int 0, .int 0, .int 0, .int 0, .int 0, .int 0, .int 0, .int 0, .int 0, .int 0, .int 0, .long 0, .int 0, .int 0, .int 0, .null, .int 0, .int 0, .int 0, .int 0, .null, .int 0, .int 0, .int 0, .int 0, .null, .null, .null, .null])), (q1, .inl (B.2.1 0, 960, .inl (fun _ => 0)))]) rfl ?_
  refine v_aload_n C 0 dX6_init_13 rfl rfl ?_
  refine v_bipush C dX6_init_14 (v := (6 : Int32)) (by decide) ?_
  refine v_newaE (N := 6) (k := 1) (n := 960) G (gdm 134 (by decide +kernel) (by decide +kernel)) (by decide) (by decide) (by decide) (by decide) (by decide) dX6_init_16 (fun q2 => ?_)
  refine v_bm (k' := 2) (n' := 966) rfl rfl (v_w (w' := [(h, .inr (6, [.int 0, .ref q1, .null, .int 0, .int 0, .null, .int 0, .int 0, .int 0, .null, .null, .int 0, .int 0, .int 0, .int 0, .int 0, .int 0, .int 0, .int 0, .int 0, .int 0, .int 0, .int 0, .long 0, .int 0, .int 0, .int 0, .null, .int 0, .int 0, .int 0, .int 0, .null, .int 0, .int 0, .int 0, .int 0, .null, .null, .null, .null])), (q1, .inl (B.2.1 0, 960, .inl (fun _ => 0))), (q2, .inl (B.2.1 0, 6, .inl (fun _ => 0)))]) rfl ?_)
  have C := G.at (k := 2) (n := 966) (by decide) (by decide)
  refine v_putFE C hI ginX6 tyX6 tyX6_ok nmX6 rfl 2 (by decide) rfl rfl (gdm 790 (by decide +kernel) (by decide +kernel)) 0 rfl (ty := (.array .int)) (by decide +kernel) rfl rfl (Nat.le_of_ble_eq_true rfl) dX6_init_18 (w' := [(h, .inr (6, [.int 0, .ref q1, .ref q2, .int 0, .int 0, .null, .int 0, .int 0, .int 0, .null, .null, .int 0, .int 0, .int 0, .int 0, .int 0, .int 0, .int 0, .int 0, .int 0, .int 0, .int 0, .int 0, .long 0, .int 0, .int 0, .int 0, .null, .int 0, .int 0, .int 0, .int 0, .null, .int 0, .int 0, .int 0, .int 0, .null, .null, .null, .null])), (q1, .inl (B.2.1 0, 960, .inl (fun _ => 0))), (q2, .inl (B.2.1 0, 6, .inl (fun _ => 0)))]) rfl ?_
  refine v_aload_n C 0 dX6_init_21 rfl rfl ?_
  refine v_sipush C dX6_init_22 (v := (160 : Int32)) (by decide) ?_
  refine v_newaE (N := 160) (k := 2) (n := 966) G (gdm 134 (by decide +kernel) (by decide +kernel)) (by decide) (by decide) (by decide) (by decide) (by decide) dX6_init_25 (fun q3 => ?_)
  refine v_bm (k' := 3) (n' := 1126) rfl rfl (v_w (w' := [(h, .inr (6, [.int 0, .ref q1, .ref q2, .int 0, .int 0, .null, .int 0, .int 0, .int 0, .null, .null, .int 0, .int 0, .int 0, .int 0, .int 0, .int 0, .int 0, .int 0, .int 0, .int 0, .int 0, .int 0, .long 0, .int 0, .int 0, .int 0, .null, .int 0, .int 0, .int 0, .int 0, .null, .int 0, .int 0, .int 0, .int 0, .null, .null, .null, .null])), (q1, .inl (B.2.1 0, 960, .inl (fun _ => 0))), (q2, .inl (B.2.1 0, 6, .inl (fun _ => 0))), (q3, .inl (B.2.1 0, 160, .inl (fun _ => 0)))]) rfl ?_)
  have C := G.at (k := 3) (n := 1126) (by decide) (by decide)
  refine v_putFE C hI ginX6 tyX6 tyX6_ok nmX6 rfl 5 (by decide) rfl rfl (gdm 793 (by decide +kernel) (by decide +kernel)) 0 rfl (ty := (.array .int)) (by decide +kernel) rfl rfl (Nat.le_of_ble_eq_true rfl) dX6_init_27 (w' := [(h, .inr (6, [.int 0, .ref q1, .ref q2, .int 0, .int 0, .ref q3, .int 0, .int 0, .int 0, .null, .null, .int 0, .int 0, .int 0, .int 0, .int 0, .int 0, .int 0, .int 0, .int 0, .int 0, .int 0, .int 0, .long 0, .int 0, .int 0, .int 0, .null, .int 0, .int 0, .int 0, .int 0, .null, .int 0, .int 0, .int 0, .int 0, .null, .null, .null, .null])), (q1, .inl (B.2.1 0, 960, .inl (fun _ => 0))), (q2, .inl (B.2.1 0, 6, .inl (fun _ => 0))), (q3, .inl (B.2.1 0, 160, .inl (fun _ => 0)))]) rfl ?_
  refine v_aload_n C 0 dX6_init_30 rfl rfl ?_
  refine v_sipush C dX6_init_31 (v := (255 : Int32)) (by decide) ?_
  refine v_putE C ginX6 tyX6 tyX6_ok nmX6 rfl 8 (by decide) rfl (gdm 796 (by decide +kernel) (by decide +kernel)) 0 rfl (ty := .int) (by decide +kernel) rfl rfl (Nat.le_of_ble_eq_true rfl) dX6_init_34 (w' := [(h, .inr (6, [.int 0, .ref q1, .ref q2, .int 0, .int 0, .ref q3, .int 0, .int 0, .int (255 : Int32), .null, .null, .int 0, .int 0, .int 0, .int 0, .int 0, .int 0, .int 0, .int 0, .int 0, .int 0, .int 0, .int 0, .long 0, .int 0, .int 0, .int 0, .null, .int 0, .int 0, .int 0, .int 0, .null, .int 0, .int 0, .int 0, .int 0, .null, .null, .null, .null])), (q1, .inl (B.2.1 0, 960, .inl (fun _ => 0))), (q2, .inl (B.2.1 0, 6, .inl (fun _ => 0))), (q3, .inl (B.2.1 0, 160, .inl (fun _ => 0)))]) rfl ?_
  refine v_aload_n C 0 dX6_init_37 rfl rfl ?_
  refine v_bipush C dX6_init_38 (v := (6 : Int32)) (by decide) ?_
  refine v_newaE (N := 6) (k := 3) (n := 1126) G (gdm 134 (by decide +kernel) (by decide +kernel)) (by decide) (by decide) (by decide) (by decide) (by decide) dX6_init_40 (fun q4 => ?_)
  refine v_bm (k' := 4) (n' := 1132) rfl rfl (v_w (w' := [(h, .inr (6, [.int 0, .ref q1, .ref q2, .int 0, .int 0, .ref q3, .int 0, .int 0, .int (255 : Int32), .null, .null, .int 0, .int 0, .int 0, .int 0, .int 0, .int 0, .int 0, .int 0, .int 0, .int 0, .int 0, .int 0, .long 0, .int 0, .int 0, .int 0, .null, .int 0, .int 0, .int 0, .int 0, .null, .int 0, .int 0, .int 0, .int 0, .null, .null, .null, .null])), (q1, .inl (B.2.1 0, 960, .inl (fun _ => 0))), (q2, .inl (B.2.1 0, 6, .inl (fun _ => 0))), (q3, .inl (B.2.1 0, 160, .inl (fun _ => 0))), (q4, .inl (B.2.1 0, 6, .inl (fun _ => 0)))]) rfl ?_)
  have C := G.at (k := 4) (n := 1132) (by decide) (by decide)
  refine v_putFE C hI ginX6 tyX6 tyX6_ok nmX6 rfl 9 (by decide) rfl rfl (gdm 797 (by decide +kernel) (by decide +kernel)) 0 rfl (ty := (.array .int)) (by decide +kernel) rfl rfl (Nat.le_of_ble_eq_true rfl) dX6_init_42 (w' := [(h, .inr (6, [.int 0, .ref q1, .ref q2, .int 0, .int 0, .ref q3, .int 0, .int 0, .int (255 : Int32), .ref q4, .null, .int 0, .int 0, .int 0, .int 0, .int 0, .int 0, .int 0, .int 0, .int 0, .int 0, .int 0, .int 0, .long 0, .int 0, .int 0, .int 0, .null, .int 0, .int 0, .int 0, .int 0, .null, .int 0, .int 0, .int 0, .int 0, .null, .null, .null, .null])), (q1, .inl (B.2.1 0, 960, .inl (fun _ => 0))), (q2, .inl (B.2.1 0, 6, .inl (fun _ => 0))), (q3, .inl (B.2.1 0, 160, .inl (fun _ => 0))), (q4, .inl (B.2.1 0, 6, .inl (fun _ => 0)))]) rfl ?_
  refine v_aload_n C 0 dX6_init_45 rfl rfl ?_
  refine v_bipush C dX6_init_46 (v := (24 : Int32)) (by decide) ?_
  refine v_newaE (N := 24) (k := 4) (n := 1132) G (gdm 134 (by decide +kernel) (by decide +kernel)) (by decide) (by decide) (by decide) (by decide) (by decide) dX6_init_48 (fun q5 => ?_)
  refine v_bm (k' := 5) (n' := 1156) rfl rfl (v_w (w' := [(h, .inr (6, [.int 0, .ref q1, .ref q2, .int 0, .int 0, .ref q3, .int 0, .int 0, .int (255 : Int32), .ref q4, .null, .int 0, .int 0, .int 0, .int 0, .int 0, .int 0, .int 0, .int 0, .int 0, .int 0, .int 0, .int 0, .long 0, .int 0, .int 0, .int 0, .null, .int 0, .int 0, .int 0, .int 0, .null, .int 0, .int 0, .int 0, .int 0, .null, .null, .null, .null])), (q1, .inl (B.2.1 0, 960, .inl (fun _ => 0))), (q2, .inl (B.2.1 0, 6, .inl (fun _ => 0))), (q3, .inl (B.2.1 0, 160, .inl (fun _ => 0))), (q4, .inl (B.2.1 0, 6, .inl (fun _ => 0))), (q5, .inl (B.2.1 0, 24, .inl (fun _ => 0)))]) rfl ?_)
  have C := G.at (k := 5) (n := 1156) (by decide) (by decide)
  refine v_putFE C hI ginX6 tyX6 tyX6_ok nmX6 rfl 10 (by decide) rfl rfl (gdm 798 (by decide +kernel) (by decide +kernel)) 0 rfl (ty := (.array .int)) (by decide +kernel) rfl rfl (Nat.le_of_ble_eq_true rfl) dX6_init_50 (w' := [(h, .inr (6, [.int 0, .ref q1, .ref q2, .int 0, .int 0, .ref q3, .int 0, .int 0, .int (255 : Int32), .ref q4, .ref q5, .int 0, .int 0, .int 0, .int 0, .int 0, .int 0, .int 0, .int 0, .int 0, .int 0, .int 0, .int 0, .long 0, .int 0, .int 0, .int 0, .null, .int 0, .int 0, .int 0, .int 0, .null, .int 0, .int 0, .int 0, .int 0, .null, .null, .null, .null])), (q1, .inl (B.2.1 0, 960, .inl (fun _ => 0))), (q2, .inl (B.2.1 0, 6, .inl (fun _ => 0))), (q3, .inl (B.2.1 0, 160, .inl (fun _ => 0))), (q4, .inl (B.2.1 0, 6, .inl (fun _ => 0))), (q5, .inl (B.2.1 0, 24, .inl (fun _ => 0)))]) rfl ?_
  refine v_aload_n C 0 dX6_init_53 rfl rfl ?_
  refine v_sipush C dX6_init_54 (v := (208 : Int32)) (by decide) ?_
  refine v_newaE (N := 208) (k := 5) (n := 1156) G (gdm 134 (by decide +kernel) (by decide +kernel)) (by decide) (by decide) (by decide) (by decide) (by decide) dX6_init_57 (fun q6 => ?_)
  refine v_bm (k' := 6) (n' := 1364) rfl rfl (v_w (w' := [(h, .inr (6, [.int 0, .ref q1, .ref q2, .int 0, .int 0, .ref q3, .int 0, .int 0, .int (255 : Int32), .ref q4, .ref q5, .int 0, .int 0, .int 0, .int 0, .int 0, .int 0, .int 0, .int 0, .int 0, .int 0, .int 0, .int 0, .long 0, .int 0, .int 0, .int 0, .null, .int 0, .int 0, .int 0, .int 0, .null, .int 0, .int 0, .int 0, .int 0, .null, .null, .null, .null])), (q1, .inl (B.2.1 0, 960, .inl (fun _ => 0))), (q2, .inl (B.2.1 0, 6, .inl (fun _ => 0))), (q3, .inl (B.2.1 0, 160, .inl (fun _ => 0))), (q4, .inl (B.2.1 0, 6, .inl (fun _ => 0))), (q5, .inl (B.2.1 0, 24, .inl (fun _ => 0))), (q6, .inl (B.2.1 0, 208, .inl (fun _ => 0)))]) rfl ?_)
  have C := G.at (k := 6) (n := 1364) (by decide) (by decide)
  refine v_putFE C hI ginX6 tyX6 tyX6_ok nmX6 rfl 27 (by decide) rfl rfl (gdm 815 (by decide +kernel) (by decide +kernel)) 0 rfl (ty := (.array .int)) (by decide +kernel) rfl rfl (Nat.le_of_ble_eq_true rfl) dX6_init_59 (w' := [(h, .inr (6, [.int 0, .ref q1, .ref q2, .int 0, .int 0, .ref q3, .int 0, .int 0, .int (255 : Int32), .ref q4, .ref q5, .int 0, .int 0, .int 0, .int 0, .int 0, .int 0, .int 0, .int 0, .int 0, .int 0, .int 0, .int 0, .long 0, .int 0, .int 0, .int 0, .ref q6, .int 0, .int 0, .int 0, .int 0, .null, .int 0, .int 0, .int 0, .int 0, .null, .null, .null, .null])), (q1, .inl (B.2.1 0, 960, .inl (fun _ => 0))), (q2, .inl (B.2.1 0, 6, .inl (fun _ => 0))), (q3, .inl (B.2.1 0, 160, .inl (fun _ => 0))), (q4, .inl (B.2.1 0, 6, .inl (fun _ => 0))), (q5, .inl (B.2.1 0, 24, .inl (fun _ => 0))), (q6, .inl (B.2.1 0, 208, .inl (fun _ => 0)))]) rfl ?_
  refine v_aload_n C 0 dX6_init_62 rfl rfl ?_
  refine v_bipush C dX6_init_63 (v := (24 : Int32)) (by decide) ?_
  refine v_newaE (N := 24) (k := 6) (n := 1364) G (gdm 134 (by decide +kernel) (by decide +kernel)) (by decide) (by decide) (by decide) (by decide) (by decide) dX6_init_65 (fun q7 => ?_)
  refine v_bm (k' := 7) (n' := 1388) rfl rfl (v_w (w' := [(h, .inr (6, [.int 0, .ref q1, .ref q2, .int 0, .int 0, .ref q3, .int 0, .int 0, .int (255 : Int32), .ref q4, .ref q5, .int 0, .int 0, .int 0, .int 0, .int 0, .int 0, .int 0, .int 0, .int 0, .int 0, .int 0, .int 0, .long 0, .int 0, .int 0, .int 0, .ref q6, .int 0, .int 0, .int 0, .int 0, .null, .int 0, .int 0, .int 0, .int 0, .null, .null, .null, .null])), (q1, .inl (B.2.1 0, 960, .inl (fun _ => 0))), (q2, .inl (B.2.1 0, 6, .inl (fun _ => 0))), (q3, .inl (B.2.1 0, 160, .inl (fun _ => 0))), (q4, .inl (B.2.1 0, 6, .inl (fun _ => 0))), (q5, .inl (B.2.1 0, 24, .inl (fun _ => 0))), (q6, .inl (B.2.1 0, 208, .inl (fun _ => 0))), (q7, .inl (B.2.1 0, 24, .inl (fun _ => 0)))]) rfl ?_)
  have C := G.at (k := 7) (n := 1388) (by decide) (by decide)
  refine v_putFE C hI ginX6 tyX6 tyX6_ok nmX6 rfl 32 (by decide) rfl rfl (gdm 820 (by decide +kernel) (by decide +kernel)) 0 rfl (ty := (.array .int)) (by decide +kernel) rfl rfl (Nat.le_of_ble_eq_true rfl) dX6_init_67 (w' := [(h, .inr (6, [.int 0, .ref q1, .ref q2, .int 0, .int 0, .ref q3, .int 0, .int 0, .int (255 : Int32), .ref q4, .ref q5, .int 0, .int 0, .int 0, .int 0, .int 0, .int 0, .int 0, .int 0, .int 0, .int 0, .int 0, .int 0, .long 0, .int 0, .int 0, .int 0, .ref q6, .int 0, .int 0, .int 0, .int 0, .ref q7, .int 0, .int 0, .int 0, .int 0, .null, .null, .null, .null])), (q1, .inl (B.2.1 0, 960, .inl (fun _ => 0))), (q2, .inl (B.2.1 0, 6, .inl (fun _ => 0))), (q3, .inl (B.2.1 0, 160, .inl (fun _ => 0))), (q4, .inl (B.2.1 0, 6, .inl (fun _ => 0))), (q5, .inl (B.2.1 0, 24, .inl (fun _ => 0))), (q6, .inl (B.2.1 0, 208, .inl (fun _ => 0))), (q7, .inl (B.2.1 0, 24, .inl (fun _ => 0)))]) rfl ?_
  refine v_aload_n C 0 dX6_init_70 rfl rfl ?_
  refine v_iconst C dX6_init_71 (v := (-1 : Int32)) (by decide) ?_
  refine v_putE C ginX6 tyX6 tyX6_ok nmX6 rfl 34 (by decide) rfl (gdm 822 (by decide +kernel) (by decide +kernel)) 0 rfl (ty := .int) (by decide +kernel) rfl rfl (Nat.le_of_ble_eq_true rfl) dX6_init_72 (w' := [(h, .inr (6, [.int 0, .ref q1, .ref q2, .int 0, .int 0, .ref q3, .int 0, .int 0, .int (255 : Int32), .ref q4, .ref q5, .int 0, .int 0, .int 0, .int 0, .int 0, .int 0, .int 0, .int 0, .int 0, .int 0, .int 0, .int 0, .long 0, .int 0, .int 0, .int 0, .ref q6, .int 0, .int 0, .int 0, .int 0, .ref q7, .int 0, .int (-1 : Int32), .int 0, .int 0, .null, .null, .null, .null])), (q1, .inl (B.2.1 0, 960, .inl (fun _ => 0))), (q2, .inl (B.2.1 0, 6, .inl (fun _ => 0))), (q3, .inl (B.2.1 0, 160, .inl (fun _ => 0))), (q4, .inl (B.2.1 0, 6, .inl (fun _ => 0))), (q5, .inl (B.2.1 0, 24, .inl (fun _ => 0))), (q6, .inl (B.2.1 0, 208, .inl (fun _ => 0))), (q7, .inl (B.2.1 0, 24, .inl (fun _ => 0)))]) rfl ?_
  refine v_aload_n C 0 dX6_init_75 rfl rfl ?_
  refine v_iconst C dX6_init_76 (v := (4 : Int32)) (by decide) ?_
  refine v_newzE (N := 4) (k := 7) (n := 1388) G (gdm 912 (by decide +kernel) (by decide +kernel)) (by decide) (by decide) (by decide) (by decide) (by decide) dX6_init_77 (fun q8 => ?_)
  refine v_bm (k' := 8) (n' := 1392) rfl rfl (v_w (w' := [(h, .inr (6, [.int 0, .ref q1, .ref q2, .int 0, .int 0, .ref q3, .int 0, .int 0, .int (255 : Int32), .ref q4, .ref q5, .int 0, .int 0, .int 0, .int 0, .int 0, .int 0, .int 0, .int 0, .int 0, .int 0, .int 0, .int 0, .long 0, .int 0, .int 0, .int 0, .ref q6, .int 0, .int 0, .int 0, .int 0, .ref q7, .int 0, .int (-1 : Int32), .int 0, .int 0, .null, .null, .null, .null])), (q1, .inl (B.2.1 0, 960, .inl (fun _ => 0))), (q2, .inl (B.2.1 0, 6, .inl (fun _ => 0))), (q3, .inl (B.2.1 0, 160, .inl (fun _ => 0))), (q4, .inl (B.2.1 0, 6, .inl (fun _ => 0))), (q5, .inl (B.2.1 0, 24, .inl (fun _ => 0))), (q6, .inl (B.2.1 0, 208, .inl (fun _ => 0))), (q7, .inl (B.2.1 0, 24, .inl (fun _ => 0))), (q8, .inl (B.2.1 1, 4, .inl (fun _ => 0)))]) rfl ?_)
  have C := G.at (k := 8) (n := 1392) (by decide) (by decide)
  refine v_putFE C hI ginX6 tyX6 tyX6_ok nmX6 rfl 37 (by decide) rfl rfl (gdm 825 (by decide +kernel) (by decide +kernel)) 0 rfl (ty := (.array .boolean)) (by decide +kernel) rfl rfl (Nat.le_of_ble_eq_true rfl) dX6_init_79 (w' := [(h, .inr (6, [.int 0, .ref q1, .ref q2, .int 0, .int 0, .ref q3, .int 0, .int 0, .int (255 : Int32), .ref q4, .ref q5, .int 0, .int 0, .int 0, .int 0, .int 0, .int 0, .int 0, .int 0, .int 0, .int 0, .int 0, .int 0, .long 0, .int 0, .int 0, .int 0, .ref q6, .int 0, .int 0, .int 0, .int 0, .ref q7, .int 0, .int (-1 : Int32), .int 0, .int 0, .ref q8, .null, .null, .null])), (q1, .inl (B.2.1 0, 960, .inl (fun _ => 0))), (q2, .inl (B.2.1 0, 6, .inl (fun _ => 0))), (q3, .inl (B.2.1 0, 160, .inl (fun _ => 0))), (q4, .inl (B.2.1 0, 6, .inl (fun _ => 0))), (q5, .inl (B.2.1 0, 24, .inl (fun _ => 0))), (q6, .inl (B.2.1 0, 208, .inl (fun _ => 0))), (q7, .inl (B.2.1 0, 24, .inl (fun _ => 0))), (q8, .inl (B.2.1 1, 4, .inl (fun _ => 0)))]) rfl ?_
  refine v_aload_n C 0 dX6_init_82 rfl rfl ?_
  refine v_iconst C dX6_init_83 (v := (4 : Int32)) (by decide) ?_
  refine v_newaE (N := 4) (k := 8) (n := 1392) G (gdm 134 (by decide +kernel) (by decide +kernel)) (by decide) (by decide) (by decide) (by decide) (by decide) dX6_init_84 (fun q9 => ?_)
  refine v_bm (k' := 9) (n' := 1396) rfl rfl (v_w (w' := [(h, .inr (6, [.int 0, .ref q1, .ref q2, .int 0, .int 0, .ref q3, .int 0, .int 0, .int (255 : Int32), .ref q4, .ref q5, .int 0, .int 0, .int 0, .int 0, .int 0, .int 0, .int 0, .int 0, .int 0, .int 0, .int 0, .int 0, .long 0, .int 0, .int 0, .int 0, .ref q6, .int 0, .int 0, .int 0, .int 0, .ref q7, .int 0, .int (-1 : Int32), .int 0, .int 0, .ref q8, .null, .null, .null])), (q1, .inl (B.2.1 0, 960, .inl (fun _ => 0))), (q2, .inl (B.2.1 0, 6, .inl (fun _ => 0))), (q3, .inl (B.2.1 0, 160, .inl (fun _ => 0))), (q4, .inl (B.2.1 0, 6, .inl (fun _ => 0))), (q5, .inl (B.2.1 0, 24, .inl (fun _ => 0))), (q6, .inl (B.2.1 0, 208, .inl (fun _ => 0))), (q7, .inl (B.2.1 0, 24, .inl (fun _ => 0))), (q8, .inl (B.2.1 1, 4, .inl (fun _ => 0))), (q9, .inl (B.2.1 0, 4, .inl (fun _ => 0)))]) rfl ?_)
  have C := G.at (k := 9) (n := 1396) (by decide) (by decide)
  refine v_putFE C hI ginX6 tyX6 tyX6_ok nmX6 rfl 38 (by decide) rfl rfl (gdm 826 (by decide +kernel) (by decide +kernel)) 0 rfl (ty := (.array .int)) (by decide +kernel) rfl rfl (Nat.le_of_ble_eq_true rfl) dX6_init_86 (w' := [(h, .inr (6, [.int 0, .ref q1, .ref q2, .int 0, .int 0, .ref q3, .int 0, .int 0, .int (255 : Int32), .ref q4, .ref q5, .int 0, .int 0, .int 0, .int 0, .int 0, .int 0, .int 0, .int 0, .int 0, .int 0, .int 0, .int 0, .long 0, .int 0, .int 0, .int 0, .ref q6, .int 0, .int 0, .int 0, .int 0, .ref q7, .int 0, .int (-1 : Int32), .int 0, .int 0, .ref q8, .ref q9, .null, .null])), (q1, .inl (B.2.1 0, 960, .inl (fun _ => 0))), (q2, .inl (B.2.1 0, 6, .inl (fun _ => 0))), (q3, .inl (B.2.1 0, 160, .inl (fun _ => 0))), (q4, .inl (B.2.1 0, 6, .inl (fun _ => 0))), (q5, .inl (B.2.1 0, 24, .inl (fun _ => 0))), (q6, .inl (B.2.1 0, 208, .inl (fun _ => 0))), (q7, .inl (B.2.1 0, 24, .inl (fun _ => 0))), (q8, .inl (B.2.1 1, 4, .inl (fun _ => 0))), (q9, .inl (B.2.1 0, 4, .inl (fun _ => 0)))]) rfl ?_
  refine v_aload_n C 0 dX6_init_89 rfl rfl ?_
  refine v_iconst C dX6_init_90 (v := (4 : Int32)) (by decide) ?_
  refine v_newaE (N := 4) (k := 9) (n := 1396) G (gdm 134 (by decide +kernel) (by decide +kernel)) (by decide) (by decide) (by decide) (by decide) (by decide) dX6_init_91 (fun q10 => ?_)
  refine v_bm (k' := 10) (n' := 1400) rfl rfl (v_w (w' := [(h, .inr (6, [.int 0, .ref q1, .ref q2, .int 0, .int 0, .ref q3, .int 0, .int 0, .int (255 : Int32), .ref q4, .ref q5, .int 0, .int 0, .int 0, .int 0, .int 0, .int 0, .int 0, .int 0, .int 0, .int 0, .int 0, .int 0, .long 0, .int 0, .int 0, .int 0, .ref q6, .int 0, .int 0, .int 0, .int 0, .ref q7, .int 0, .int (-1 : Int32), .int 0, .int 0, .ref q8, .ref q9, .null, .null])), (q1, .inl (B.2.1 0, 960, .inl (fun _ => 0))), (q2, .inl (B.2.1 0, 6, .inl (fun _ => 0))), (q3, .inl (B.2.1 0, 160, .inl (fun _ => 0))), (q4, .inl (B.2.1 0, 6, .inl (fun _ => 0))), (q5, .inl (B.2.1 0, 24, .inl (fun _ => 0))), (q6, .inl (B.2.1 0, 208, .inl (fun _ => 0))), (q7, .inl (B.2.1 0, 24, .inl (fun _ => 0))), (q8, .inl (B.2.1 1, 4, .inl (fun _ => 0))), (q9, .inl (B.2.1 0, 4, .inl (fun _ => 0))), (q10, .inl (B.2.1 0, 4, .inl (fun _ => 0)))]) rfl ?_)
  have C := G.at (k := 10) (n := 1400) (by decide) (by decide)
  refine v_putFE C hI ginX6 tyX6 tyX6_ok nmX6 rfl 39 (by decide) rfl rfl (gdm 827 (by decide +kernel) (by decide +kernel)) 0 rfl (ty := (.array .int)) (by decide +kernel) rfl rfl (Nat.le_of_ble_eq_true rfl) dX6_init_93 (w' := [(h, .inr (6, [.int 0, .ref q1, .ref q2, .int 0, .int 0, .ref q3, .int 0, .int 0, .int (255 : Int32), .ref q4, .ref q5, .int 0, .int 0, .int 0, .int 0, .int 0, .int 0, .int 0, .int 0, .int 0, .int 0, .int 0, .int 0, .long 0, .int 0, .int 0, .int 0, .ref q6, .int 0, .int 0, .int 0, .int 0, .ref q7, .int 0, .int (-1 : Int32), .int 0, .int 0, .ref q8, .ref q9, .ref q10, .null])), (q1, .inl (B.2.1 0, 960, .inl (fun _ => 0))), (q2, .inl (B.2.1 0, 6, .inl (fun _ => 0))), (q3, .inl (B.2.1 0, 160, .inl (fun _ => 0))), (q4, .inl (B.2.1 0, 6, .inl (fun _ => 0))), (q5, .inl (B.2.1 0, 24, .inl (fun _ => 0))), (q6, .inl (B.2.1 0, 208, .inl (fun _ => 0))), (q7, .inl (B.2.1 0, 24, .inl (fun _ => 0))), (q8, .inl (B.2.1 1, 4, .inl (fun _ => 0))), (q9, .inl (B.2.1 0, 4, .inl (fun _ => 0))), (q10, .inl (B.2.1 0, 4, .inl (fun _ => 0)))]) rfl ?_
  refine v_aload_n C 0 dX6_init_96 rfl rfl ?_
  refine v_sipush C dX6_init_97 (v := (160 : Int32)) (by decide) ?_
  refine v_newaE (N := 160) (k := 10) (n := 1400) G (gdm 134 (by decide +kernel) (by decide +kernel)) (by decide) (by decide) (by decide) (by decide) (by decide) dX6_init_100 (fun q11 => ?_)
  refine v_bm (k' := 11) (n' := 1560) rfl rfl (v_w (w' := [(h, .inr (6, [.int 0, .ref q1, .ref q2, .int 0, .int 0, .ref q3, .int 0, .int 0, .int (255 : Int32), .ref q4, .ref q5, .int 0, .int 0, .int 0, .int 0, .int 0, .int 0, .int 0, .int 0, .int 0, .int 0, .int 0, .int 0, .long 0, .int 0, .int 0, .int 0, .ref q6, .int 0, .int 0, .int 0, .int 0, .ref q7, .int 0, .int (-1 : Int32), .int 0, .int 0, .ref q8, .ref q9, .ref q10, .null])), (q1, .inl (B.2.1 0, 960, .inl (fun _ => 0))), (q2, .inl (B.2.1 0, 6, .inl (fun _ => 0))), (q3, .inl (B.2.1 0, 160, .inl (fun _ => 0))), (q4, .inl (B.2.1 0, 6, .inl (fun _ => 0))), (q5, .inl (B.2.1 0, 24, .inl (fun _ => 0))), (q6, .inl (B.2.1 0, 208, .inl (fun _ => 0))), (q7, .inl (B.2.1 0, 24, .inl (fun _ => 0))), (q8, .inl (B.2.1 1, 4, .inl (fun _ => 0))), (q9, .inl (B.2.1 0, 4, .inl (fun _ => 0))), (q10, .inl (B.2.1 0, 4, .inl (fun _ => 0))), (q11, .inl (B.2.1 0, 160, .inl (fun _ => 0)))]) rfl ?_)
  have C := G.at (k := 11) (n := 1560) (by decide) (by decide)
  refine v_putFE C hI ginX6 tyX6 tyX6_ok nmX6 rfl 40 (by decide) rfl rfl (gdm 828 (by decide +kernel) (by decide +kernel)) 0 rfl (ty := (.array .int)) (by decide +kernel) rfl rfl (Nat.le_of_ble_eq_true rfl) dX6_init_102 (w' := [(h, .inr (6, [.int 0, .ref q1, .ref q2, .int 0, .int 0, .ref q3, .int 0, .int 0, .int (255 : Int32), .ref q4, .ref q5, .int 0, .int 0, .int 0, .int 0, .int 0, .int 0, .int 0, .int 0, .int 0, .int 0, .int 0, .int 0, .long 0, .int 0, .int 0, .int 0, .ref q6, .int 0, .int 0, .int 0, .int 0, .ref q7, .int 0, .int (-1 : Int32), .int 0, .int 0, .ref q8, .ref q9, .ref q10, .ref q11])), (q1, .inl (B.2.1 0, 960, .inl (fun _ => 0))), (q2, .inl (B.2.1 0, 6, .inl (fun _ => 0))), (q3, .inl (B.2.1 0, 160, .inl (fun _ => 0))), (q4, .inl (B.2.1 0, 6, .inl (fun _ => 0))), (q5, .inl (B.2.1 0, 24, .inl (fun _ => 0))), (q6, .inl (B.2.1 0, 208, .inl (fun _ => 0))), (q7, .inl (B.2.1 0, 24, .inl (fun _ => 0))), (q8, .inl (B.2.1 1, 4, .inl (fun _ => 0))), (q9, .inl (B.2.1 0, 4, .inl (fun _ => 0))), (q10, .inl (B.2.1 0, 4, .inl (fun _ => 0))), (q11, .inl (B.2.1 0, 160, .inl (fun _ => 0)))]) rfl ?_
  rw [show (Value.long 0) = Value.long (j64 0 0) from by rw [j64_00]]
  refine v_w (w' := wl 12 (a12 h q1 q2 q3 q4 q5 q6 q7 q8 q9 q10 q11) (shM B.2.1 (a12 h q1 q2 q3 q4 q5 q6 q7 q8 q9 q10 q11)) M6i) rfl ?_
  have s0 : Sp6 0 M6i := ⟨fun _ _ _ => rfl, fun j hj => absurd hj (by omega)⟩
  refine v_aload_n C 0 dX6_init_105 rfl rfl ?_
  refine v_iconst C dX6_init_106 (v := (0 : Int32)) (by decide) ?_
  refine v_bipush C dX6_init_107 (v := (112 : Int32)) (by decide) ?_
  refine v_bipush C dX6_init_109 (v := (108 : Int32)) (by decide) ?_
  refine v_bipush C dX6_init_111 (v := (97 : Int32)) (by decide) ?_
  refine v_bipush C dX6_init_113 (v := (121 : Int32)) (by decide) ?_
  refine v_bipush C dX6_init_115 (v := (115 : Int32)) (by decide) ?_
  refine v_bipush C dX6_init_117 (v := (32 : Int32)) (by decide) ?_
  refine v_bipush C dX6_init_119 (v := (115 : Int32)) (by decide) ?_
  refine v_bipush C dX6_init_121 (v := (116 : Int32)) (by decide) ?_
  refine v_callVv (k := 0) (n := 12) (a := (a12 h q1 q2 q3 q4 q5 q6 q7 q8 q9 q10 q11)) (sh := shM B.2.1 (a12 h q1 q2 q3 q4 q5 q6 q7 q8 q9 q10 q11)) (M := M6i) (As := [.int (0 : Int32), .int (112 : Int32), .int (108 : Int32), .int (97 : Int32), .int (121 : Int32), .int (115 : Int32), .int (32 : Int32), .int (115 : Int32), .int (116 : Int32)]) (rest := []) C (c6_spell (Q := Sp6 1) (m_spell (n := 0) (by decide) s0 (by decide +kernel) (fun _ z => z))) eX6i_54 (by decide) (by decide) (by decide) rfl rfl rfl rfl (Nat.le_of_ble_eq_true rfl) dX6_init_123 (fun N1 s1 => ?_)
  refine v_aload_n C 0 dX6_init_126 rfl rfl ?_
  refine v_bipush C dX6_init_127 (v := (8 : Int32)) (by decide) ?_
  refine v_bipush C dX6_init_129 (v := (114 : Int32)) (by decide) ?_
  refine v_bipush C dX6_init_131 (v := (111 : Int32)) (by decide) ?_
  refine v_bipush C dX6_init_133 (v := (110 : Int32)) (by decide) ?_
  refine v_bipush C dX6_init_135 (v := (103 : Int32)) (by decide) ?_
  refine v_bipush C dX6_init_137 (v := (32 : Int32)) (by decide) ?_
  refine v_bipush C dX6_init_139 (v := (59 : Int32)) (by decide) ?_
  refine v_bipush C dX6_init_141 (v := (32 : Int32)) (by decide) ?_
  refine v_bipush C dX6_init_143 (v := (116 : Int32)) (by decide) ?_
  refine v_callVv (k := 0) (n := 12) (a := (a12 h q1 q2 q3 q4 q5 q6 q7 q8 q9 q10 q11)) (sh := shM B.2.1 (a12 h q1 q2 q3 q4 q5 q6 q7 q8 q9 q10 q11)) (M := N1) (As := [.int (8 : Int32), .int (114 : Int32), .int (111 : Int32), .int (110 : Int32), .int (103 : Int32), .int (32 : Int32), .int (59 : Int32), .int (32 : Int32), .int (116 : Int32)]) (rest := []) C (c6_spell (Q := Sp6 2) (m_spell (n := 1) (by decide) s1 (by decide +kernel) (fun _ z => z))) eX6i_54 (by decide) (by decide) (by decide) rfl rfl rfl rfl (Nat.le_of_ble_eq_true rfl) dX6_init_145 (fun N2 s2 => ?_)
  refine v_aload_n C 0 dX6_init_148 rfl rfl ?_
  refine v_bipush C dX6_init_149 (v := (16 : Int32)) (by decide) ?_
  refine v_bipush C dX6_init_151 (v := (104 : Int32)) (by decide) ?_
  refine v_bipush C dX6_init_153 (v := (114 : Int32)) (by decide) ?_
  refine v_bipush C dX6_init_155 (v := (111 : Int32)) (by decide) ?_
  refine v_bipush C dX6_init_157 (v := (119 : Int32)) (by decide) ?_
  refine v_bipush C dX6_init_159 (v := (115 : Int32)) (by decide) ?_
  refine v_bipush C dX6_init_161 (v := (32 : Int32)) (by decide) ?_
  refine v_bipush C dX6_init_163 (v := (104 : Int32)) (by decide) ?_
  refine v_bipush C dX6_init_165 (v := (97 : Int32)) (by decide) ?_
  refine v_callVv (k := 0) (n := 12) (a := (a12 h q1 q2 q3 q4 q5 q6 q7 q8 q9 q10 q11)) (sh := shM B.2.1 (a12 h q1 q2 q3 q4 q5 q6 q7 q8 q9 q10 q11)) (M := N2) (As := [.int (16 : Int32), .int (104 : Int32), .int (114 : Int32), .int (111 : Int32), .int (119 : Int32), .int (115 : Int32), .int (32 : Int32), .int (104 : Int32), .int (97 : Int32)]) (rest := []) C (c6_spell (Q := Sp6 3) (m_spell (n := 2) (by decide) s2 (by decide +kernel) (fun _ z => z))) eX6i_54 (by decide) (by decide) (by decide) rfl rfl rfl rfl (Nat.le_of_ble_eq_true rfl) dX6_init_167 (fun N3 s3 => ?_)
  refine v_aload_n C 0 dX6_init_170 rfl rfl ?_
  refine v_bipush C dX6_init_171 (v := (24 : Int32)) (by decide) ?_
  refine v_bipush C dX6_init_173 (v := (115 : Int32)) (by decide) ?_
  refine v_bipush C dX6_init_175 (v := (32 : Int32)) (by decide) ?_
  refine v_bipush C dX6_init_177 (v := (60 : Int32)) (by decide) ?_
  refine v_bipush C dX6_init_179 (v := (32 : Int32)) (by decide) ?_
  refine v_bipush C dX6_init_181 (v := (49 : Int32)) (by decide) ?_
  refine v_bipush C dX6_init_183 (v := (32 : Int32)) (by decide) ?_
  refine v_bipush C dX6_init_185 (v := (59 : Int32)) (by decide) ?_
  refine v_bipush C dX6_init_187 (v := (32 : Int32)) (by decide) ?_
  refine v_callVv (k := 0) (n := 12) (a := (a12 h q1 q2 q3 q4 q5 q6 q7 q8 q9 q10 q11)) (sh := shM B.2.1 (a12 h q1 q2 q3 q4 q5 q6 q7 q8 q9 q10 q11)) (M := N3) (As := [.int (24 : Int32), .int (115 : Int32), .int (32 : Int32), .int (60 : Int32), .int (32 : Int32), .int (49 : Int32), .int (32 : Int32), .int (59 : Int32), .int (32 : Int32)]) (rest := []) C (c6_spell (Q := Sp6 4) (m_spell (n := 3) (by decide) s3 (by decide +kernel) (fun _ z => z))) eX6i_54 (by decide) (by decide) (by decide) rfl rfl rfl rfl (Nat.le_of_ble_eq_true rfl) dX6_init_189 (fun N4 s4 => ?_)
  refine v_aload_n C 0 dX6_init_192 rfl rfl ?_
  refine v_bipush C dX6_init_193 (v := (32 : Int32)) (by decide) ?_
  refine v_bipush C dX6_init_195 (v := (116 : Int32)) (by decide) ?_
  refine v_bipush C dX6_init_197 (v := (105 : Int32)) (by decide) ?_
  refine v_bipush C dX6_init_199 (v := (114 : Int32)) (by decide) ?_
  refine v_bipush C dX6_init_201 (v := (101 : Int32)) (by decide) ?_
  refine v_bipush C dX6_init_203 (v := (115 : Int32)) (by decide) ?_
  refine v_bipush C dX6_init_205 (v := (32 : Int32)) (by decide) ?_
  refine v_bipush C dX6_init_207 (v := (49 : Int32)) (by decide) ?_
  refine v_bipush C dX6_init_209 (v := (32 : Int32)) (by decide) ?_
  refine v_callVv (k := 0) (n := 12) (a := (a12 h q1 q2 q3 q4 q5 q6 q7 q8 q9 q10 q11)) (sh := shM B.2.1 (a12 h q1 q2 q3 q4 q5 q6 q7 q8 q9 q10 q11)) (M := N4) (As := [.int (32 : Int32), .int (116 : Int32), .int (105 : Int32), .int (114 : Int32), .int (101 : Int32), .int (115 : Int32), .int (32 : Int32), .int (49 : Int32), .int (32 : Int32)]) (rest := []) C (c6_spell (Q := Sp6 5) (m_spell (n := 4) (by decide) s4 (by decide +kernel) (fun _ z => z))) eX6i_54 (by decide) (by decide) (by decide) rfl rfl rfl rfl (Nat.le_of_ble_eq_true rfl) dX6_init_211 (fun N5 s5 => ?_)
  refine v_aload_n C 0 dX6_init_214 rfl rfl ?_
  refine v_bipush C dX6_init_215 (v := (40 : Int32)) (by decide) ?_
  refine v_bipush C dX6_init_217 (v := (59 : Int32)) (by decide) ?_
  refine v_bipush C dX6_init_219 (v := (32 : Int32)) (by decide) ?_
  refine v_bipush C dX6_init_221 (v := (32 : Int32)) (by decide) ?_
  refine v_bipush C dX6_init_223 (v := (32 : Int32)) (by decide) ?_
  refine v_bipush C dX6_init_225 (v := (32 : Int32)) (by decide) ?_
  refine v_bipush C dX6_init_227 (v := (32 : Int32)) (by decide) ?_
  refine v_bipush C dX6_init_229 (v := (32 : Int32)) (by decide) ?_
  refine v_bipush C dX6_init_231 (v := (32 : Int32)) (by decide) ?_
  refine v_callVv (k := 0) (n := 12) (a := (a12 h q1 q2 q3 q4 q5 q6 q7 q8 q9 q10 q11)) (sh := shM B.2.1 (a12 h q1 q2 q3 q4 q5 q6 q7 q8 q9 q10 q11)) (M := N5) (As := [.int (40 : Int32), .int (59 : Int32), .int (32 : Int32), .int (32 : Int32), .int (32 : Int32), .int (32 : Int32), .int (32 : Int32), .int (32 : Int32), .int (32 : Int32)]) (rest := []) C (c6_spell (Q := Sp6 6) (m_spell (n := 5) (by decide) s5 (by decide +kernel) (fun _ z => z))) eX6i_54 (by decide) (by decide) (by decide) rfl rfl rfl rfl (Nat.le_of_ble_eq_true rfl) dX6_init_233 (fun N6 s6 => ?_)
  refine v_aload_n C 0 dX6_init_236 rfl rfl ?_
  refine fX6_6_g_textSize C dX6_init_237 ?_
  refine v_iconst C dX6_init_240 (v := (0 : Int32)) (by decide) ?_
  refine v_bipush C dX6_init_241 (v := (48 : Int32)) (by decide) ?_
  refine v_iast (k := 2) C (by decide) (fun _ => rfl) (vpl 0 6 (by decide) (by decide)) dX6_init_243 ?_
  refine v_aload_n C 0 dX6_init_244 rfl rfl ?_
  refine v_iconst C dX6_init_245 (v := (1 : Int32)) (by decide) ?_
  refine fX6_6_p_textCount C dX6_init_246 (fun N8 e8 => ?_)
  refine hR _ _ _ 11 1560 (by decide) (by decide) ⟨q1, q2, q3, q4, q5, q6, q7, q8, q9, q10, q11, N8, rfl, ?_⟩ dX6_init_249
  subst e8
  refine ⟨fun k j z1 z2 z3 => ?_, fun j hj => ?_, ?_, up_s⟩
  · by_cases z : k = 0
    · subst z; rw [up_j (by omega), up_k (by decide)]; exact s6.1 0 j (by omega)
    · rw [up_k z]
      by_cases y : k = 2
      · subst y
        have e : Int32.toNatClampNeg 0 = 0 := rfl
        rw [e, up_j (by omega)]; exact s6.1 2 j (by omega)
      · rw [up_k y]; exact s6.1 k j z1
  · rw [up_k (by decide), up_k (by decide)]; exact s6.2 j hj
  · rw [up_k (by decide)]; exact up_s
