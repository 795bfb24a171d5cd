theorem eJ0_335 : CWV RJ0 335 yJ0_coder_7d493 cJ0_coder_7d493 1 (some .byte) 0 := ⟨gdm 180 (by decide +kernel) (by decide +kernel), gdm 181 (by decide +kernel) (by decide +kernel), gdm 182 (by decide +kernel) (by decide +kernel), gdm 92 (by decide +kernel) (by decide +kernel), gdm 183 (by decide +kernel) (by decide +kernel), by decide +kernel, by decide +kernel, by decide +kernel⟩
theorem eJ0_492 : CWV RJ0 492 yJ0_isLatin1_aae02 cJ0_isLatin1_aae02 1 (some .boolean) 0 := ⟨gdm 190 (by decide +kernel) (by decide +kernel), gdm 191 (by decide +kernel) (by decide +kernel), gdm 192 (by decide +kernel) (by decide +kernel), gdm 92 (by decide +kernel) (by decide +kernel), gdm 193 (by decide +kernel) (by decide +kernel), by decide +kernel, by decide +kernel, by decide +kernel⟩
theorem eJ0_495 : CWS RJ0 495 yJ1_charAt_3b067 cJ1_charAt_3b067 2 (some .char) 2 := ⟨gdm 194 (by decide +kernel) (by decide +kernel), gdm 195 (by decide +kernel) (by decide +kernel), gdm 93 (by decide +kernel) (by decide +kernel), gdm 196 (by decide +kernel) (by decide +kernel), by decide +kernel, by decide +kernel, by decide +kernel⟩
theorem eJ1_9 : CWS RJ1 9 yJ0_checkIndex_df160 cJ0_checkIndex_df160 2 none 2 := ⟨gdm 197 (by decide +kernel) (by decide +kernel), gdm 198 (by decide +kernel) (by decide +kernel), gdm 92 (by decide +kernel) (by decide +kernel), gdm 199 (by decide +kernel) (by decide +kernel), by decide +kernel, by decide +kernel, by decide +kernel⟩
theorem eJ0_1059 : CWS RJ0 1059 yJ3_checkIndex_8e157 cJ3_checkIndex_8e157 3 (some .int) 3 := ⟨gdm 202 (by decide +kernel) (by decide +kernel), gdm 203 (by decide +kernel) (by decide +kernel), gdm 94 (by decide +kernel) (by decide +kernel), gdm 204 (by decide +kernel) (by decide +kernel), by decide +kernel, by decide +kernel, by decide +kernel⟩

/-- the char at k of a literal -/
def sCh (i k : Nat) : Int32 := (sByt.getD i []).getD k 0 &&& 255
section VX
variable {B : BX} {E : EX} {cc : ByteArray} {nL : Nat} {own : String} {fr lo : Nat} {w : va_W} {pc : Nat} {lv : List (Nat × Value)} {st : List Value}
variable {n : Nat} {a : Nat → Nat} {sh : Nat → (Nat → Int32) → va_E} {M : S0}
theorem v_copy (C : Ok B E cc nL own fr lo) {index k0 k1 n0 n1 : Nat} (hw : Cond.methodLink own index arraycopyName ∈ lw_gd ∧ Cond.native arraycopyName ∈ lw_gd ∧ Cond.static arraycopyName ∈ lw_gd ∧ Cond.initialized "java/lang/System" ∈ lw_gd) (hk0 : k0 < n) (hs0 : sh k0 (M k0) = .inl (B.2.1 0, n0, .inl (M k0))) (hk1 : k1 < n) (hs1 : ∀ r, sh k1 r = .inl (B.2.1 0, n1, .inl r)) {sp dp nn : Int32} (h1 : ¬ sp < 0) (h2 : ¬ dp < 0) (h3 : ¬ nn < 0) (h4 : sp.toNatClampNeg + nn.toNatClampNeg ≤ n0) (h5 : dp.toNatClampNeg + nn.toNatClampNeg ≤ n1) (hfr : 1 ≤ fr) (hlo : nativeFrameWords "java/lang/System" "arraycopy" 5 + 11 ≤ lo) (hd : decode cc pc = .ok (.invokestatic index, 3)) (kk : ∀ M1 : S0, M1 = upR M k1 (va_cpy (M k0) (M k1) sp.toNatClampNeg dp.toNatClampNeg nn.toNatClampNeg) → V B E nL (wl n a sh M1) (pc + 3) lv []) : V B E nL (wl n a sh M) pc lv [.int nn, .int dp, .ref (a k1), .int sp, .ref (a k0)] := by
  obtain ⟨p, l, e, R, s, m, args, below, meth, c, A, Z, k9, n9⟩ := E
  obtain ⟨g1, g2, g3, g4, g5, g6, g7, g8, g9, g10, g11, g12, g13⟩ := C
  intro H locs ls hP hD hS hl
  refine va_copyi g1 g2 (by rw [g3]; exact hl.1.symm) g4 (g5 _ hw.1) (g5 _ hw.2.1) (g5 _ hw.2.2.1) (g5 _ hw.2.2.2) g6 hP hD hS k0 k1 0 0 (by rw [wl_get hk0, hs0]) (by rw [wl_get hk1, hs1]) rfl rfl rfl h1 h2 h3 h4 h5 (fun _ _ => rfl) (Nat.le_trans hfr g9) (by simpa using Nat.le_trans hlo g10) hd (fun H1 locs1 hP1 hD1 hS1 => ?_)
  rw [← hs1, wl_setR] at hP1 hD1
  exact kk _ rfl H1 locs1 ls hP1 hD1 hS1 hl
theorem v_max (C : Ok B E cc nL own fr lo) {index : Nat} (hw : Cond.methodLink own index Lib.Math.max.name ∈ lw_gd ∧ Cond.static Lib.Math.max.name ∈ lw_gd ∧ Cond.initialized "java/lang/Math" ∈ lw_gd ∧ Cond.code Lib.Math.max.name Lib.Math.max.code 2 (some .int) ∈ lw_gd) (hfr : 1 ≤ fr) (hlo : 21 ≤ lo) {x y : Int32} {rest : List Value} (hcat : (rest.map fun v => v.category).sum ≤ 8) (hd : decode cc pc = .ok (.invokestatic index, 3)) (kk : V B E nL w (pc + 3) lv (.int (if x < y then y else x) :: rest)) : V B E nL w pc lv (.int y :: .int x :: rest) := by
  obtain ⟨p, l, e, R, s, m, args, below, meth, c, A, Z, k9, n9⟩ := E
  obtain ⟨g1, g2, g3, g4, g5, g6, g7, g8, g9, g10, g11, g12, g13⟩ := C
  exact fun H locs ls hP hD hS hl => va_mmax g1 g2 (by rw [g3]; exact hl.1.symm) g4 (g5 _ hw.1) (g5 _ hw.2.1) (g5 _ hw.2.2.1) (g5 _ hw.2.2.2) (Nat.le_trans hfr g9) (Nat.le_trans (by omega) (Nat.le_trans hlo g10)) g12 g13 hd (kk H locs ls hP hD hS hl)
theorem v_sget (C : Ok B E cc nL own fr lo) {i index : Nat} {nm d : String} {v : Value} (hf : ∀ (A : Nat → Prop) (U : State) (H : Heap), SF B A U H → va_OF "java/lang/String" nm d v (B.2.2.1 i) A U H) (hw : Cond.fieldLink own index "java/lang/String" nm d ∈ lw_gd) (hd : decode cc pc = .ok (.getfield index, 3)) (kk : V B E nL w (pc + 3) lv (v :: st)) : V B E nL w pc lv (.ref (B.2.2.1 i) :: st) := by
  obtain ⟨p, l, e, R, s, m, args, below, meth, c, A, Z, k9, n9⟩ := E
  obtain ⟨g1, g2, g3, g4, g5, g6, g7, g8, g9, g10, g11, g12, g13⟩ := C
  exact fun H locs ls hP hD hS hl => vk_getf g1 g2 (hf _ _ _ g11) hS g4 (g5 _ hw) (fun _ h => h) hd (kk H locs ls hP hD hS hl)
theorem v_slen0 (C : Ok B E cc nL own fr lo) {i : Nat} (hi : i < 13) (hd : decode cc pc = .ok (.arraylength, 1)) (kk : V B E nL w (pc + 1) lv (.int (nI (sLen.getD i 0)) :: st)) : V B E nL w pc lv (.ref (B.2.2.2 i) :: st) := by
  obtain ⟨p, l, e, R, s, m, args, below, meth, c, A, Z, k9, n9⟩ := E
  obtain ⟨g1, g2, g3, g4, g5, g6, g7, g8, g9, g10, g11, g12, g13⟩ := C
  exact fun H locs ls hP hD hS hl => va_tlen g1 g2 (g11.1.1 i hi).2.2.2 hS rfl hd (kk H locs ls hP hD hS hl)
theorem v_sbyte (C : Ok B E cc nL own fr lo) {i : Nat} (hi : i < 13) {j : Int32} (hj : vp_in j (sLen.getD i 0)) (hd : decode cc pc = .ok (.baload, 1)) (kk : V B E nL w (pc + 1) lv (.int ((sByt.getD i []).getD j.toNatClampNeg 0) :: st)) : V B E nL w pc lv (.int j :: .ref (B.2.2.2 i) :: st) := by
  obtain ⟨p, l, e, R, s, m, args, below, meth, c, A, Z, k9, n9⟩ := E
  obtain ⟨g1, g2, g3, g4, g5, g6, g7, g8, g9, g10, g11, g12, g13⟩ := C
  exact fun H locs ls hP hD hS hl => va_tb g1 g2 (g11.1.1 i hi).2.2.2 hS hj rfl hd (kk H locs ls hP hD hS hl)
theorem v_compact (C : Ok B E cc nL own fr lo) {index : Nat} (hw : Cond.fieldLink own index "java/lang/String" "COMPACT_STRINGS" "Z" ∈ lw_gd) (hd : decode cc pc = .ok (.getstatic index, 3)) (kk : V B E nL w (pc + 3) lv (.int 1 :: st)) : V B E nL w pc lv st := by
  obtain ⟨p, l, e, R, s, m, args, below, meth, c, A, Z, k9, n9⟩ := E
  obtain ⟨g1, g2, g3, g4, g5, g6, g7, g8, g9, g10, g11, g12, g13⟩ := C
  exact fun H locs ls hP hD hS hl => va_gets g1 g2 g11.2.2.1 hS g4 (g5 _ hw) (fun _ h => h) hd (kk H locs ls hP hD hS hl)
theorem v_sioobe (C : Ok B E cc nL own fr lo) {index : Nat} (hw : Cond.fieldLink own index "jdk/internal/util/Preconditions" "SIOOBE_FORMATTER" "Ljava/util/function/BiFunction;" ∈ lw_gd) (hd : decode cc pc = .ok (.getstatic index, 3)) (kk : ∀ v : Value, v = .null ∨ (∃ t, v = .ref t) → V B E nL w (pc + 3) lv (v :: st)) : V B E nL w pc lv st := by
  obtain ⟨p, l, e, R, s, m, args, below, meth, c, A, Z, k9, n9⟩ := E
  obtain ⟨g1, g2, g3, g4, g5, g6, g7, g8, g9, g10, g11, g12, g13⟩ := C
  intro H locs ls hP hD hS hl
  rcases g11.2.2.2.1 with hz | ⟨t, hz⟩
  · exact va_gets g1 g2 hz hS g4 (g5 _ hw) (fun _ h => h) hd (kk _ (Or.inl rfl) H locs ls hP hD hS hl)
  · exact va_gets g1 g2 hz hS g4 (g5 _ hw) (fun _ h => h) hd (kk _ (Or.inr ⟨t, rfl⟩) H locs ls hP hD hS hl)
/-- a call on a literal -/
theorem v_callTi (C : Ok B E cc nL own fr lo) {y : MethodName} {b : ByteArray} {mL fr' lo' np idx i : Nat} {ret : Option FieldType} {As rest : List Value} {Q' : Int32 → S0 → Prop} (hi : i < 13) (hy : y.cls = "java/lang/String") (hM : KI B (wl n a sh) y b mL ret fr' lo' (.ref (B.2.2.1 i) :: As) M Q') (hw : CWV own idx y b mL ret np) (hfr : fr' + 1 ≤ fr) (hlo : 8 + (mL + 11) + lo' ≤ lo) (hn : As.length = np) (hst : st = As.reverse ++ .ref (B.2.2.1 i) :: rest) (hcat : (rest.map fun v => v.category).sum ≤ 8) (hd : decode cc pc = .ok (.invokevirtual idx, 3)) (kk : ∀ (r : Int32) (M1 : S0), Q' r M1 → V B E nL (wl n a sh M1) (pc + 3) lv (.int r :: rest)) : V B E nL (wl n a sh M) pc lv st := by
  obtain ⟨p, l, e, R, s, m, args, below, meth, c, A, Z, k9, n9⟩ := E
  obtain ⟨h1, h2, h3, h4, h5, h6, h7, h8, h9, h10, h11, h12, h13⟩ := C
  intro H locs ls hP hD hS hl
  subst hst
  have hF := wl_free hD hS h7
  refine va_calli (va_runV (As := As) (rest := rest) ⟨h1, h2, h3, h4, h5⟩ (hM l H.size) (hw.cw h5 hfr hlo h9 h10) ⟨Pw_blind, by rw [hy]; exact vk_recv h11.1 hi hS, fun U hU hW => ⟨rfl, Pw_at hP hD hS h7 h6 h11 U hU hW⟩⟩ rfl hn hl.1 rfl (lv_room hcat) hd ⟨h12, h13⟩) hS (fun q _ h => hF q h) hF (fun r M1 t H1 locs1 ht hvm hq hB hz1 hk1 hS1 => ?_)
  obtain ⟨hP1, hK1, hD1⟩ := hB
  rw [ht] at hP1
  exact kk r M1 hq H1 locs1 ls hP1 (hD1.weaken (fun _ q _ h => hF q.1 h)) hS1 hl
end VX
section VJ
variable {B : BX} {n : Nat} {a : Nat → Nat} {sh : Nat → (Nat → Int32) → va_E} {M : S0} {Q : Int32 → S0 → Prop}
theorem of_value {i : Nat} (hi : i < 13) : ∀ (A : Nat → Prop) (U : State) (H : Heap), SF B A U H → va_OF "java/lang/String" "value" "[B" (.ref (B.2.2.2 i)) (B.2.2.1 i) A U H := fun _ _ _ h => (h.1.1 i hi).2.2.1
theorem of_coder {i : Nat} (hi : i < 13) : ∀ (A : Nat → Prop) (U : State) (H : Heap), SF B A U H → va_OF "java/lang/String" "coder" "B" (.int 0) (B.2.2.1 i) A U H := fun _ _ _ h => (h.1.1 i hi).2.1
theorem sLen_small : ∀ i, i < 13 → sLen.getD i 0 < 2 ^ 31 := by decide
theorem cJ_coder {i : Nat} (hi : i < 13) (h : Q 0 M) : KI B (wl n a sh) yJ0_coder_7d493 cJ0_coder_7d493 1 (some .byte) 0 0 [.ref (B.2.2.1 i)] M Q := by
  refine KZ_of (by decide +kernel) (Nat.le_of_ble_eq_true rfl) (fun E C hR => ?_)
  change V B E 1 (wl n a sh M) 0 [(0, .ref (B.2.2.1 i))] []
  change Ok B E cJ0_coder_7d493 1 RJ0 0 0 at C
  refine v_compact C (gdm 184 (by decide +kernel) (by decide +kernel)) dJ0_coder_7d493_0 ?_
  refine v_if_eq C dJ0_coder_7d493_3 (tgt := 13) (by decide) (fun c => absurd c (by decide)) (fun c => ?_)
  refine v_aload_n C 0 dJ0_coder_7d493_6 rfl rfl ?_
  refine v_sget C (of_coder hi) (gdm 1253 (by decide +kernel) (by decide +kernel)) dJ0_coder_7d493_7 ?_
  refine v_goto C dJ0_coder_7d493_10 (tgt := 14) (by decide) ?_
  exact hR _ _ _ _ rfl h dJ0_coder_7d493_14
theorem cJ_isLatin1 {i : Nat} (hi : i < 13) (h : Q 1 M) : KI B (wl n a sh) yJ0_isLatin1_aae02 cJ0_isLatin1_aae02 1 (some .boolean) 0 0 [.ref (B.2.2.1 i)] M Q := by
  refine KZ_of (by decide +kernel) (Nat.le_of_ble_eq_true rfl) (fun E C hR => ?_)
  change V B E 1 (wl n a sh M) 0 [(0, .ref (B.2.2.1 i))] []
  change Ok B E cJ0_isLatin1_aae02 1 RJ0 0 0 at C
  refine v_compact C (gdm 184 (by decide +kernel) (by decide +kernel)) dJ0_isLatin1_aae02_0 ?_
  refine v_if_eq C dJ0_isLatin1_aae02_3 (tgt := 17) (by decide) (fun c => absurd c (by decide)) (fun c => ?_)
  refine v_aload_n C 0 dJ0_isLatin1_aae02_6 rfl rfl ?_
  refine v_sget C (of_coder hi) (gdm 1253 (by decide +kernel) (by decide +kernel)) dJ0_isLatin1_aae02_7 ?_
  refine v_if_ne C dJ0_isLatin1_aae02_10 (tgt := 17) (by decide) (fun c => absurd c (by decide)) (fun c => ?_)
  refine v_iconst C dJ0_isLatin1_aae02_13 (v := (1 : Int32)) (by decide) ?_
  refine v_goto C dJ0_isLatin1_aae02_14 (tgt := 18) (by decide) ?_
  exact hR _ _ _ _ rfl h dJ0_isLatin1_aae02_18
theorem cJ_length {i : Nat} (hi : i < 13) (h : Q (nI (sLen.getD i 0)) M) : KI B (wl n a sh) yJ0_length_8abf5 cJ0_length_8abf5 1 (some .int) 1 20 [.ref (B.2.2.1 i)] M Q := by
  refine KI_of (by decide +kernel) (Nat.le_of_ble_eq_true rfl) (fun E C hR => ?_)
  change V B E 1 (wl n a sh M) 0 [(0, .ref (B.2.2.1 i))] []
  change Ok B E cJ0_length_8abf5 1 RJ0 1 20 at C
  refine v_aload_n C 0 dJ0_length_8abf5_0 rfl rfl ?_
  refine v_sget C (of_value hi) (gdm 1252 (by decide +kernel) (by decide +kernel)) dJ0_length_8abf5_1 ?_
  refine v_slen0 C hi dJ0_length_8abf5_4 ?_
  refine v_aload_n C 0 dJ0_length_8abf5_5 rfl rfl ?_
  refine v_callTi (As := []) (rest := [.int (nI (sLen.getD i 0))]) C hi rfl (cJ_coder (Q := fun r M1 => r = 0 ∧ M1 = M) hi ⟨rfl, rfl⟩) eJ0_335 (by omega) (by omega) rfl rfl (Nat.le_of_ble_eq_true rfl) dJ0_length_8abf5_6 (fun r M1 hq => ?_)
  obtain ⟨rfl, rfl⟩ := hq
  refine v_ishr C dJ0_length_8abf5_9 ?_
  have e : nI (sLen.getD i 0) >>> ((0 : Int32) &&& 31) = nI (sLen.getD i 0) := by
    rw [show ((0 : Int32) &&& 31) = 0 by decide, Int32.shiftRight_zero]
  rw [e]
  exact hR _ _ _ _ h dJ0_length_8abf5_10
theorem cJ_chk3 {i m : Int32} {v : Value} (h0 : ¬ i < 0) (h1 : i < m) (hv : v = .null ∨ ∃ t, v = .ref t) (h : Q i M) : KI B (wl n a sh) yJ3_checkIndex_8e157 cJ3_checkIndex_8e157 3 (some .int) 0 0 [.int i, .int m, v] M Q := by
  refine KI_of (by decide +kernel) (by rcases hv with rfl | ⟨t, rfl⟩ <;> exact Nat.le_of_ble_eq_true rfl) (fun E C hR => ?_)
  have e : lv_args 0 [.int i, .int m, v] = [(0, .int i), (1, .int m), (2, v)] := rfl
  rw [e]
  change Ok B E cJ3_checkIndex_8e157 3 RJ3 0 0 at C
  refine v_iload_n C 0 dJ3_checkIndex_8e157_0 rfl rfl ?_
  refine v_if_lt C dJ3_checkIndex_8e157_1 (tgt := 9) (by decide) (fun c => absurd c h0) (fun c => ?_)
  refine v_iload_n C 0 dJ3_checkIndex_8e157_4 rfl rfl ?_
  refine v_iload_n C 1 dJ3_checkIndex_8e157_5 rfl rfl ?_
  refine v_icmp_lt C dJ3_checkIndex_8e157_6 (tgt := 16) (by decide) (fun c => ?_) (fun c => absurd h1 c)
  refine v_iload_n C 0 dJ3_checkIndex_8e157_16 rfl rfl ?_
  exact hR _ _ _ _ h dJ3_checkIndex_8e157_17
theorem cJ_chk {i m : Int32} {Q : S0 → Prop} (h0 : ¬ i < 0) (h1 : i < m) (h : Q M) : KV B (wl n a sh) yJ0_checkIndex_df160 cJ0_checkIndex_df160 2 none 1 22 [.int i, .int m] M Q := by
  refine KV_of (by decide +kernel) (Nat.le_of_ble_eq_true rfl) (fun E C hR => ?_)
  change V B E 2 (wl n a sh M) 0 [(0, .int i), (1, .int m)] []
  change Ok B E cJ0_checkIndex_df160 2 RJ0 1 22 at C
  refine v_iload_n C 0 dJ0_checkIndex_df160_0 rfl rfl ?_
  refine v_iload_n C 1 dJ0_checkIndex_df160_1 rfl rfl ?_
  refine v_sioobe C (gdm 200 (by decide +kernel) (by decide +kernel)) dJ0_checkIndex_df160_2 (fun v hv => ?_)
  refine v_callSi (As := [.int i, .int m, v]) (rest := []) C (cJ_chk3 (Q := fun r M1 => M1 = M) h0 h1 hv rfl) eJ0_1059 (by omega) (by omega) rfl rfl (Nat.le_of_ble_eq_true rfl) dJ0_checkIndex_df160_5 (fun r M1 hq => ?_)
  subst hq
  refine v_pop C dJ0_checkIndex_df160_8 rfl ?_
  exact hR _ _ _ h dJ0_checkIndex_df160_9
theorem sCh_chr (i : Nat) (hi : i < 13) (k : Nat) : ((((sByt.getD i []).getD k 0) &&& 255).toUInt32 % 65536).toInt32 = sCh i k := by
  unfold sCh
  generalize (sByt.getD i []).getD k 0 = z
  apply Int32.toBitVec_inj.mp
  apply BitVec.eq_of_toNat_eq
  have h : (z.toBitVec &&& 255#32).toNat < 256 := by
    rw [BitVec.toNat_and]
    exact Nat.lt_of_le_of_lt Nat.and_le_right (by decide)
  have e : ((z &&& 255).toUInt32 % 65536).toInt32.toBitVec = (z.toBitVec &&& 255#32) % 65536#32 := rfl
  rw [e, BitVec.toNat_umod]
  show (z.toBitVec &&& 255#32).toNat % 65536 = (z.toBitVec &&& 255#32).toNat
  omega
theorem sCh_nar (i k : Nat) : narrow .char (.int (sCh i k)) = .int (sCh i k) := by
  unfold sCh
  generalize (sByt.getD i []).getD k 0 = z
  show Value.int _ = Value.int _
  congr 1
  apply Int32.toBitVec_inj.mp
  apply BitVec.eq_of_toNat_eq
  have h : (z.toBitVec &&& 255#32).toNat < 256 := by
    rw [BitVec.toNat_and]
    exact Nat.lt_of_le_of_lt Nat.and_le_right (by decide)
  have e : (z &&& 255).toUInt32.toUInt16.toUInt32.toInt32.toBitVec = BitVec.setWidth 32 (BitVec.setWidth 16 (z.toBitVec &&& 255#32)) := rfl
  rw [e, BitVec.toNat_setWidth, BitVec.toNat_setWidth]
  show (z.toBitVec &&& 255#32).toNat % 2 ^ 16 % 2 ^ 32 = (z.toBitVec &&& 255#32).toNat
  omega
theorem cJ_chr1 {i : Nat} {k : Int32} (hi : i < 13) (hk : vp_in k (sLen.getD i 0)) (h : Q (sCh i k.toNatClampNeg) M) : KI B (wl n a sh) yJ1_charAt_3b067 cJ1_charAt_3b067 2 (some .char) 2 43 [.ref (B.2.2.2 i), .int k] M Q := by
  refine KZ_of (by decide +kernel) (Nat.le_of_ble_eq_true rfl) (fun E C hR => ?_)
  change V B E 2 (wl n a sh M) 0 [(0, .ref (B.2.2.2 i)), (1, .int k)] []
  change Ok B E cJ1_charAt_3b067 2 RJ1 2 43 at C
  have hlt : k < nI (sLen.getD i 0) := by
    obtain ⟨j, hj, rfl⟩ := vp_in_of hk (sLen_small i hi)
    exact nI_lt hj (sLen_small i hi)
  refine v_iload_n C 1 dJ1_charAt_3b067_0 rfl rfl ?_
  refine v_aload_n C 0 dJ1_charAt_3b067_1 rfl rfl ?_
  refine v_slen0 C hi dJ1_charAt_3b067_2 ?_
  refine v_callSv (As := [.int k, .int (nI (sLen.getD i 0))]) (rest := []) C (cJ_chk (Q := fun M1 => M1 = M) (fun q => hk (Or.inl q)) hlt rfl) eJ1_9 (by omega) (by omega) rfl rfl (Nat.le_of_ble_eq_true rfl) dJ1_charAt_3b067_3 (fun M1 hq => ?_)
  subst hq
  refine v_aload_n C 0 dJ1_charAt_3b067_6 rfl rfl ?_
  refine v_iload_n C 1 dJ1_charAt_3b067_7 rfl rfl ?_
  refine v_sbyte C hi hk dJ1_charAt_3b067_8 ?_
  refine v_sipush C dJ1_charAt_3b067_9 (v := (255 : Int32)) (by decide) ?_
  refine v_iand C dJ1_charAt_3b067_12 ?_
  refine v_i2c C dJ1_charAt_3b067_13 ?_
  rw [sCh_chr i hi]
  exact hR _ _ _ _ (sCh_nar i _) h dJ1_charAt_3b067_14
theorem cJ_charAt {i : Nat} {k : Int32} (hi : i < 13) (hk : vp_in k (sLen.getD i 0)) (h : Q (sCh i k.toNatClampNeg) M) : KI B (wl n a sh) yJ0_charAt_5068e cJ0_charAt_5068e 2 (some .char) 3 64 [.ref (B.2.2.1 i), .int k] M Q := by
  refine KZ_of (by decide +kernel) (Nat.le_of_ble_eq_true rfl) (fun E C hR => ?_)
  change V B E 2 (wl n a sh M) 0 [(0, .ref (B.2.2.1 i)), (1, .int k)] []
  change Ok B E cJ0_charAt_5068e 2 RJ0 3 64 at C
  refine v_aload_n C 0 dJ0_charAt_5068e_0 rfl rfl ?_
  refine v_callTi (As := []) (rest := []) C hi rfl (cJ_isLatin1 (Q := fun r M1 => r = 1 ∧ M1 = M) hi ⟨rfl, rfl⟩) eJ0_492 (by omega) (by omega) rfl rfl (Nat.le_of_ble_eq_true rfl) dJ0_charAt_5068e_1 (fun r M1 hq => ?_)
  obtain ⟨rfl, rfl⟩ := hq
  refine v_if_eq C dJ0_charAt_5068e_4 (tgt := 16) (by decide) (fun c => absurd c (by decide)) (fun c => ?_)
  refine v_aload_n C 0 dJ0_charAt_5068e_7 rfl rfl ?_
  refine v_sget C (of_value hi) (gdm 1252 (by decide +kernel) (by decide +kernel)) dJ0_charAt_5068e_8 ?_
  refine v_iload_n C 1 dJ0_charAt_5068e_11 rfl rfl ?_
  refine v_callSi (As := [.ref (B.2.2.2 i), .int k]) (rest := []) C (cJ_chr1 (Q := fun r M2 => r = sCh i k.toNatClampNeg ∧ M2 = M1) hi hk ⟨rfl, rfl⟩) eJ0_495 (by omega) (by omega) rfl rfl (Nat.le_of_ble_eq_true rfl) dJ0_charAt_5068e_12 (fun r M2 hq => ?_)
  obtain ⟨rfl, rfl⟩ := hq
  exact hR _ _ _ _ (sCh_nar i _) h dJ0_charAt_5068e_15
end VJ
section VX2
variable {B : BX} {E : EX} {cc : ByteArray} {nL : Nat} {own : String} {fr lo : Nat} {pc : Nat} {lv : List (Nat × Value)} {st : List Value}
variable {n : Nat} {a : Nat → Nat} {sh : Nat → (Nat → Int32) → va_E} {M : S0}
theorem v_slen (C : Ok B E cc nL own fr lo) {i idx : Nat} (hi : i < 13) (hd : decode cc pc = .ok (.invokevirtual idx, 3)) (hw : CWV own idx yJ0_length_8abf5 cJ0_length_8abf5 1 (some .int) 0) (hfr : 8 ≤ fr) (hlo : 300 ≤ lo) {rest : List Value} (hcat : (rest.map fun v => v.category).sum ≤ 8) (kk : V B E nL (wl n a sh M) (pc + 3) lv (.int (nI (sLen.getD i 0)) :: rest)) : V B E nL (wl n a sh M) pc lv (.ref (B.2.2.1 i) :: rest) := by
  refine v_callTi (As := []) (rest := rest) C hi rfl (cJ_length (Q := fun r M1 => r = nI (sLen.getD i 0) ∧ M1 = M) hi ⟨rfl, rfl⟩) hw (by omega) (by omega) rfl rfl hcat hd (fun r M1 hq => ?_)
  obtain ⟨rfl, rfl⟩ := hq
  exact kk
theorem v_schar (C : Ok B E cc nL own fr lo) {i idx : Nat} (hi : i < 13) {k : Int32} (hk : vp_in k (sLen.getD i 0)) (hd : decode cc pc = .ok (.invokevirtual idx, 3)) (hw : CWV own idx yJ0_charAt_5068e cJ0_charAt_5068e 2 (some .char) 1) (hfr : 8 ≤ fr) (hlo : 300 ≤ lo) {rest : List Value} (hcat : (rest.map fun v => v.category).sum ≤ 8) (kk : V B E nL (wl n a sh M) (pc + 3) lv (.int (sCh i k.toNatClampNeg) :: rest)) : V B E nL (wl n a sh M) pc lv (.int k :: .ref (B.2.2.1 i) :: rest) := by
  refine v_callTi (As := [.int k]) (rest := rest) C hi rfl (cJ_charAt (Q := fun r M1 => r = sCh i k.toNatClampNeg ∧ M1 = M) hi hk ⟨rfl, rfl⟩) hw (by omega) (by omega) rfl rfl hcat hd (fun r M1 hq => ?_)
  obtain ⟨rfl, rfl⟩ := hq
  exact kk
end VX2
theorem eX5_copy : Cond.methodLink RX5 281 arraycopyName ∈ lw_gd ∧ Cond.native arraycopyName ∈ lw_gd ∧ Cond.static arraycopyName ∈ lw_gd ∧ Cond.initialized "java/lang/System" ∈ lw_gd := ⟨gdm 762 (by decide +kernel) (by decide +kernel), gdm 764 (by decide +kernel) (by decide +kernel), gdm 763 (by decide +kernel) (by decide +kernel), gdm 102 (by decide +kernel) (by decide +kernel)⟩
theorem eX5_max : Cond.methodLink RX5 209 Lib.Math.max.name ∈ lw_gd ∧ Cond.static Lib.Math.max.name ∈ lw_gd ∧ Cond.initialized "java/lang/Math" ∈ lw_gd ∧ Cond.code Lib.Math.max.name Lib.Math.max.code 2 (some .int) ∈ lw_gd := ⟨gdm 657 (by decide +kernel) (by decide +kernel), gdm 658 (by decide +kernel) (by decide +kernel), gdm 101 (by decide +kernel) (by decide +kernel), gdm 659 (by decide +kernel) (by decide +kernel)⟩
