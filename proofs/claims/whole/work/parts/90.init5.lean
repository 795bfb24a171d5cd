/-! the class's constructor -/
theorem eX5_9 : CWIN RX5 9 yX4_init cX4_init 1 0 := ⟨by decide +kernel, (gdm 114 (by decide +kernel) (by decide +kernel)), (gdm 90 (by decide +kernel) (by decide +kernel)), (gdm 115 (by decide +kernel) (by decide +kernel)), rfl, by decide +kernel, by decide +kernel, by decide +kernel⟩
theorem eX5_18 : CWIN RX5 18 yX1_init cX1_init 1 0 := ⟨by decide +kernel, (gdm 138 (by decide +kernel) (by decide +kernel)), (gdm 91 (by decide +kernel) (by decide +kernel)), (gdm 139 (by decide +kernel) (by decide +kernel)), rfl, by decide +kernel, by decide +kernel, by decide +kernel⟩
theorem eX5_62 : CWIN RX5 62 yX2_init cX2_init 1 0 := ⟨by decide +kernel, (gdm 397 (by decide +kernel) (by decide +kernel)), (gdm 98 (by decide +kernel) (by decide +kernel)), (gdm 398 (by decide +kernel) (by decide +kernel)), rfl, by decide +kernel, by decide +kernel, by decide +kernel⟩
theorem eX5_39 : CWI RX5 39 yX0_init cX0_init 2 1 := ⟨(gdm 348 (by decide +kernel) (by decide +kernel)), (gdm 349 (by decide +kernel) (by decide +kernel)), (gdm 97 (by decide +kernel) (by decide +kernel)), (gdm 350 (by decide +kernel) (by decide +kernel)), rfl, by decide +kernel, by decide +kernel, by decide +kernel⟩
theorem eX5_25 : CWV RX5 25 yX1_write cX1_write 3 none 1 := ⟨gdm 172 (by decide +kernel) (by decide +kernel), gdm 173 (by decide +kernel) (by decide +kernel), gdm 174 (by decide +kernel) (by decide +kernel), gdm 91 (by decide +kernel) (by decide +kernel), gdm 175 (by decide +kernel) (by decide +kernel), by decide +kernel, by decide +kernel, by decide +kernel⟩

def clubC (K : Nat → ClassId) (tx : Nat) (q : Nat → Nat) : va_W := [(q 0, .inr (0, [.ref tx, .ref (q 1), .ref (q 2), .ref (q 3), .ref (q 4), .ref (q 5), .int 255, .int 0, .int 0, .int 0])), (q 1, .inl (K 0, 6, .inl (fun _ => 0))), (q 2, .inl (K 0, 6, .inl (fun _ => 0))), (q 3, .inl (K 0, 6, .inl (fun _ => 0))), (q 4, .inl (K 0, 6, .inl (fun _ => 0))), (q 5, .inl (K 0, 6, .inl (fun _ => 0)))]
def sheetC (K : Nat → ClassId) (q : Nat → Nat) : va_W := [(q 0, .inr (2, [.ref (q 1), .int (-1), .int 0])), (q 1, .inl (K 0, 40, .inl (fun _ => 0)))]
section N5
variable {B : BX} {E : EX} {h tx t : Nat} {fs : List Value} {R : va_W} {lv : List (Nat × Value)} {st : List Value} {fr lo k n : Nat}
set_option maxHeartbeats 1000000 in
theorem v_club {pc q0 : Nat} (G : OkG B E cX5_init 2 RX5 fr lo 68 1075) (hfr : 2 ≤ fr) (hlo : 41 ≤ lo) (hf : fs[0]? = some (.ref tx)) (hk : k + 6 ≤ 68) (hn : n + 40 ≤ 1075) (hl : lv[q0]? = some (0, .ref h)) (hcat : (st.map fun v => v.category).sum + 1 ≤ 8) (hd1 : decode cX5_init pc = .ok (.new 37, 3)) (hd2 : decode cX5_init (pc + 3) = .ok (.dup, 1)) (hd3 : decode cX5_init (pc + 3 + 1) = .ok (.aload_n 0, 1)) (hd4 : decode cX5_init (pc + 3 + 1 + 1) = .ok (.getfield 10, 3)) (hd5 : decode cX5_init (pc + 3 + 1 + 1 + 3) = .ok (.invokespecial 39, 3)) (kk : ∀ q : Nat → Nat, V B (bmp E (k + 6) (n + 40)) 2 ((h, .inr (5, fs)) :: (R ++ clubC B.2.1 tx q)) (pc + 3 + 1 + 1 + 3 + 3) lv (.ref (q 0) :: st)) : V B (bmp E k n) 2 ((h, .inr (5, fs)) :: R) pc lv st := by
  refine v_newE G ginX0 tyX0 tyX0_ok (gdm 346 (by decide +kernel) (by decide +kernel)) (gdm 347 (by decide +kernel) (by decide +kernel)) (gdm 97 (by decide +kernel) (by decide +kernel)) (ci := 0) rfl (fs := [.null, .null, .null, .null, .null, .null, .int 0, .int 0, .int 0, .int 0]) (by decide) (by omega) (by omega) hd1 (fun q => ?_)
  have C := G.at (k := k + 1) (n := n + 10) (by omega) (by omega)
  refine v_dup C hd2 rfl ?_
  refine v_aload_n C q0 hd3 rfl hl ?_
  refine v_getE C ginX5 rfl 0 (by decide) (gdm 413 (by decide +kernel) (by decide +kernel)) 0 rfl hf hd4 ?_
  refine g_I (k := k + 1) (n := n + 10) (h := q) (wr := (h, .inr (5, fs)) :: R) (As := [.ref tx]) (rest := .ref q :: st) G nX0_init eX5_39 (by omega) (by omega) Sp.right (by omega) (by omega) rfl rfl (by rw [List.map_cons, List.sum_cons]; show 1 + _ ≤ 8; omega) hd5 (fun w1 hw1 => ?_)
  obtain ⟨q1, q2, q3, q4, q5, rfl⟩ := hw1
  exact kk (fun i => match i with | 0 => q | 1 => q1 | 2 => q2 | 3 => q3 | 4 => q4 | _ => q5)
set_option maxHeartbeats 1000000 in
theorem v_sheet {pc : Nat} (G : OkG B E cX5_init 2 RX5 fr lo 68 1075) (hfr : 2 ≤ fr) (hlo : 41 ≤ lo) (hk : k + 2 ≤ 68) (hn : n + 43 ≤ 1075) (hcat : (st.map fun v => v.category).sum + 1 ≤ 8) (hd1 : decode cX5_init pc = .ok (.new 56, 3)) (hd2 : decode cX5_init (pc + 3) = .ok (.dup, 1)) (hd5 : decode cX5_init (pc + 3 + 1) = .ok (.invokespecial 62, 3)) (kk : ∀ q : Nat → Nat, V B (bmp E (k + 2) (n + 43)) 2 ((h, .inr (5, fs)) :: (R ++ sheetC B.2.1 q)) (pc + 3 + 1 + 3) lv (.ref (q 0) :: st)) : V B (bmp E k n) 2 ((h, .inr (5, fs)) :: R) pc lv st := by
  refine v_newE G ginX2 tyX2 tyX2_ok (gdm 393 (by decide +kernel) (by decide +kernel)) (gdm 395 (by decide +kernel) (by decide +kernel)) (gdm 98 (by decide +kernel) (by decide +kernel)) (ci := 2) rfl (fs := [.null, .int 0, .int 0]) (by decide) (by omega) (by omega) hd1 (fun q => ?_)
  have C := G.at (k := k + 1) (n := n + 3) (by omega) (by omega)
  refine v_dup C hd2 rfl ?_
  refine g_IN (k := k + 1) (n := n + 3) (h := q) (wr := (h, .inr (5, fs)) :: R) (As := []) (rest := .ref q :: st) G nX2_init eX5_62 (by omega) (by omega) Sp.right (by omega) (by omega) rfl rfl (by rw [List.map_cons, List.sum_cons]; show 1 + _ ≤ 8; omega) hd5 (fun w1 hw1 => ?_)
  obtain ⟨q1, rfl⟩ := hw1
  exact kk (fun i => match i with | 0 => q | _ => q1)
theorem v_thoughts {f : Nat → Option Nat} {i : Nat} (hi : i < 5) (G : OkG B E cX5_init 2 RX5 fr lo 68 1075) (hfr : 2 ≤ fr) (hlo : 41 ≤ lo) (hf : fs[0]? = some (.ref tx)) (hf6 : fs[6]? = some (.ref t)) (hk : k + 6 ≤ 68) (hn : n + 40 ≤ 1075) (kk : ∀ q : Nat → Nat, V B (bmp E (k + 6) (n + 40)) 2 ((h, .inr (5, fs)) :: (t, .inl (B.2.1 2, 5, .inr (.inr (.inr (.inr (va_up f i (some (q 0)))))))) :: (R ++ clubC B.2.1 tx q)) 105 [(1, .int (nI (i + 1))), (0, .ref h)] []) : V B (bmp E k n) 2 ((h, .inr (5, fs)) :: (t, .inl (B.2.1 2, 5, .inr (.inr (.inr (.inr f))))) :: R) 105 [(1, .int (nI i)), (0, .ref h)] [] := by
  have C := G.at (k := k) (n := n) (by omega) (by omega)
  refine v_iload_n C 0 dX5_init_105 rfl rfl ?_
  refine v_aload_n C 1 dX5_init_106 rfl rfl ?_
  refine v_getE C ginX5 rfl 6 (by decide) (gdm 419 (by decide +kernel) (by decide +kernel)) 0 rfl hf6 dX5_init_107 ?_
  refine v_alenE C 1 2 rfl rfl (v := nI 5) rfl dX5_init_110 ?_
  refine v_icmp_ge C dX5_init_111 (tgt := 137) (by decide) (fun c => absurd c (nI_ge (by omega) (by omega))) (fun c => ?_)
  refine v_aload_n C 1 dX5_init_114 rfl rfl ?_
  refine v_getE C ginX5 rfl 6 (by decide) (gdm 419 (by decide +kernel) (by decide +kernel)) 0 rfl hf6 dX5_init_115 ?_
  refine v_iload_n C 0 dX5_init_118 rfl rfl ?_
  refine v_club (q0 := 1) G hfr hlo hf hk hn rfl (Nat.le_of_ble_eq_true rfl) dX5_init_119 dX5_init_122 dX5_init_123 dX5_init_124 dX5_init_127 (fun q => ?_)
  have C := G.at (k := k + 6) (n := n + 40) (by omega) (by omega)
  refine v_astqE C 1 2 (R.length + 2) rfl rfl (by show (R ++ clubC B.2.1 tx q)[R.length]? = _; rw [List.getElem?_append_right (Nat.le_refl _), Nat.sub_self]; rfl) (ci := 0) rfl (vpl i 5 hi (by decide)) dX5_init_130 (w' := (h, .inr (5, fs)) :: (t, .inl (B.2.1 2, 5, .inr (.inr (.inr (.inr (va_up f i (some (q 0)))))))) :: (R ++ clubC B.2.1 tx q)) (by rw [nI_clamp (n := i) (by omega)]; rfl) ?_
  refine v_iinc (v := nI (i + 1)) (lv' := [(1, .int (nI (i + 1))), (0, .ref h)]) C 0 dX5_init_131 rfl (by rw [← nI_1]; rfl) (by decide) rfl ?_
  exact v_goto C dX5_init_134 (tgt := 105) (by decide) (kk q)
theorem v_sheets {f : Nat → Option Nat} {i : Nat} (hi : i < 4) (G : OkG B E cX5_init 2 RX5 fr lo 68 1075) (hfr : 2 ≤ fr) (hlo : 41 ≤ lo) (hf7 : fs[7]? = some (.ref t)) (hk : k + 2 ≤ 68) (hn : n + 43 ≤ 1075) (kk : ∀ q : Nat → Nat, V B (bmp E (k + 2) (n + 43)) 2 ((h, .inr (5, fs)) :: (t, .inl (B.2.1 3, 4, .inr (.inr (.inr (.inr (va_up f i (some (q 0)))))))) :: (R ++ sheetC B.2.1 q)) 147 [(1, .int (nI (i + 1))), (0, .ref h)] []) : V B (bmp E k n) 2 ((h, .inr (5, fs)) :: (t, .inl (B.2.1 3, 4, .inr (.inr (.inr (.inr f))))) :: R) 147 [(1, .int (nI i)), (0, .ref h)] [] := by
  have C := G.at (k := k) (n := n) (by omega) (by omega)
  refine v_iload_n C 0 dX5_init_147 rfl rfl ?_
  refine v_aload_n C 1 dX5_init_148 rfl rfl ?_
  refine v_getE C ginX5 rfl 7 (by decide) (gdm 420 (by decide +kernel) (by decide +kernel)) 0 rfl hf7 dX5_init_149 ?_
  refine v_alenE C 1 3 rfl rfl (v := nI 4) rfl dX5_init_152 ?_
  refine v_icmp_ge C dX5_init_153 (tgt := 175) (by decide) (fun c => absurd c (nI_ge (by omega) (by omega))) (fun c => ?_)
  refine v_aload_n C 1 dX5_init_156 rfl rfl ?_
  refine v_getE C ginX5 rfl 7 (by decide) (gdm 420 (by decide +kernel) (by decide +kernel)) 0 rfl hf7 dX5_init_157 ?_
  refine v_iload_n C 0 dX5_init_160 rfl rfl ?_
  refine v_sheet G hfr hlo hk hn (Nat.le_of_ble_eq_true rfl) dX5_init_161 dX5_init_164 dX5_init_165 (fun q => ?_)
  have C := G.at (k := k + 2) (n := n + 43) (by omega) (by omega)
  refine v_astqE C 1 3 (R.length + 2) rfl rfl (by show (R ++ sheetC B.2.1 q)[R.length]? = _; rw [List.getElem?_append_right (Nat.le_refl _), Nat.sub_self]; rfl) (ci := 2) rfl (vpl i 4 hi (by decide)) dX5_init_168 (w' := (h, .inr (5, fs)) :: (t, .inl (B.2.1 3, 4, .inr (.inr (.inr (.inr (va_up f i (some (q 0)))))))) :: (R ++ sheetC B.2.1 q)) (by rw [nI_clamp (n := i) (by omega)]; rfl) ?_
  refine v_iinc (v := nI (i + 1)) (lv' := [(1, .int (nI (i + 1))), (0, .ref h)]) C 0 dX5_init_169 rfl (by rw [← nI_1]; rfl) (by decide) rfl ?_
  exact v_goto C dX5_init_172 (tgt := 147) (by decide) (kk q)
end N5

/-! the literal -/
def b41 : Nat → Int32 := fun h => if h < 41 then (sByt.getD 0 []).getD h 0 else -1
theorem bf_b41 : Bf b41 41 := by
  refine ⟨by decide, ?_, fun h hh => if_neg (by omega)⟩
  have z : ∀ h, h < 41 → b41 h = nI (b41 h).toNatClampNeg ∧ (b41 h).toNatClampNeg < 256 := by decide +kernel
  exact fun h hh => ⟨_, (z h hh).2, (z h hh).1⟩
theorem txt_b41 : txt b41 = .inr ([-1], [-2, 1, -15], [1]) := by decide +kernel
theorem sCh_b41 : ∀ h, h < 41 → sCh 0 h = b41 h := by decide +kernel
theorem x_write_b {Q : S0 → Prop} (H : ∀ R, XT b41 41 R → Q R) : ∀ (r i : Nat) (M : S0), i + r = 41 → M 0 1 = nI i → (∀ h, h < i → M 1 h = b41 h) → w1_write_b2 0 Q (r + 1) M (nI i) := by
  intro r
  induction r with
  | zero =>
    intro i M hi e1 hb
    have e : i = 41 := by omega
    subst e
    rw [w1_write_b2]
    exact br_t (by decide) (H M ⟨e1, hb⟩)
  | succ r ih =>
    intro i M hi e1 hb
    rw [w1_write_b2]
    have eL : nI (sLen.getD 0 0) = nI 41 := by decide
    have eN : sLen.getD 0 0 = 41 := by decide
    rw [eL, eN]
    refine br_f (nI_ge (by omega) (by omega)) ⟨vpl _ _ (by omega) (by decide), ?_⟩
    unfold w1_append
    rw [e1]
    refine br_f (nI_pos (by omega)) (br_t (nI_lt (b := 160) (by omega) (by decide)) ⟨vpl _ _ (by omega) (by decide), ?_⟩)
    rw [nI_clamp (by omega), sCh_b41 i (by omega)]
    rintro _ rfl _ rfl
    rw [up_k (by decide), e1, nI_1]
    rintro _ rfl
    refine ih (i + 1) _ (by omega) up_s (fun h hh => ?_)
    rw [up_k (by decide)]
    by_cases z : h = i
    · subst z; exact up_s
    · rw [up_j z]; exact hb h (by omega)
def R5i : S0 := fun k j => if k = 0 then (if j = 2 then -1 else if j = 6 then 9 else 0) else 0
theorem x_write {Q : S0 → Prop} (H : ∀ R, XT b41 41 R → Q R) : w1_write 0 R5i Q := ⟨42, x_write_b H 41 0 R5i rfl rfl (fun h hh => absurd hh (Nat.not_lt_zero h))⟩
/-- the class's memory, new -/
def X5i (R : S0) (cf : Nat → Int32) : S0 := fun k j => if k = 1 then (if j = 3 then 1 else 0) else if k = 2 then (if j = 0 then 1 else 0) else if k = 5 then R 0 j else if k = 6 then R 1 j else if k = 7 then R 2 j else if k = 67 then cf j else if k = 68 then en3 (nI 1) (nI 4) (nI 5) j else if k = 10 ∨ k = 16 ∨ k = 22 ∨ k = 28 ∨ k = 34 ∨ k = 40 ∨ k = 46 ∨ k = 52 then (if j = 6 then 255 else 0) else if k = 58 ∨ k = 60 ∨ k = 62 ∨ k = 64 then (if j = 1 then -1 else 0) else 0
def a69 (L : List Nat) : Nat → Nat := fun k => L.getD k 0
def ln69 : Nat → Nat := fun k => if k = 66 then 5 else 0
set_option maxHeartbeats 8000000 in
set_option maxRecDepth 20000 in
theorem nX5_init {B : BX} {h : Nat} : KGv B yX5_init cX5_init 2 81 1950 68 1075 [.ref h] [(h, .inr (5, [.null, .null, .null, .null, .int 0, .null, .null, .null]))] (fun w1 => ∃ (a : Nat → Nat) (R : S0) (cf : Nat → Int32), w1 = wl 69 a (shX B.2.1 a ln69) (X5i R cf) ∧ a 0 = h ∧ (∀ i, i < 5 → cf i = [(-1 : Int32), -2, 1, -15, 1].getD i 0) ∧ R 0 1 = 0) := by
  refine KGv_of (by decide +kernel) (Nat.le_of_ble_eq_true rfl) (fun E G hI hR => ?_)
  change V B (bmp E 0 0) 2 [(h, .inr (5, [.null, .null, .null, .null, .int 0, .null, .null, .null]))] 0 [(0, .ref h)] []
  change OkG B E cX5_init 2 RX5 81 1950 68 1075 at G
  have C := G.at (k := 0) (n := 0) (by decide) (by decide)
  refine v_aload_n C 0 dX5_init_0 rfl rfl ?_
  refine v_objInit C (gdm 108 (by decide +kernel) (by decide +kernel)) (gdm 109 (by decide +kernel) (by decide +kernel)) (gdm 110 (by decide +kernel) (by decide +kernel)) (Nat.le_of_ble_eq_true rfl) (by decide) (by decide) dX5_init_1 ?_
  refine v_aload_n C 0 dX5_init_4 rfl rfl ?_
  refine v_newE (k := 0) (n := 0) G ginX4 tyX4 tyX4_ok (gdm 111 (by decide +kernel) (by decide +kernel))  (gdm 112 (by decide +kernel) (by decide +kernel)) (gdm 90 (by decide +kernel) (by decide +kernel)) (ci := 4) rfl (fs := [.null, .null, .null, .int 0]) (by decide) (by decide) (by decide) dX5_init_5 (fun tx => ?_)
  refine v_bm (k' := 1) (n' := 4) rfl rfl ?_
  have C := G.at (k := 1) (n := 4) (by decide) (by decide)
  refine v_dup C dX5_init_8 rfl ?_
  refine g_IN (k := 1) (n := 4) (h := tx) (wr := [(h, .inr (5, [.null, .null, .null, .null, .int 0, .null, .null, .null]))]) (As := []) (rest := [.ref tx, .ref h]) G nX4_init eX5_9 (by decide) (by decide) Sp.right (by decide) (by decide) rfl rfl (Nat.le_of_ble_eq_true rfl) dX5_init_9 (fun w1 hw1 => ?_)
  obtain ⟨rw, vl, sk, rfl⟩ := hw1
  refine v_bm (k' := 4) (n' := 80) rfl rfl ?_
  have C := G.at (k := 4) (n := 80) (by decide) (by decide)
  refine v_putFE C hI ginX5 tyX5 tyX5_ok nmX5 rfl 0 (by decide) rfl rfl (gdm 413 (by decide +kernel) (by decide +kernel)) 0 rfl (ty := .object "LoserKeepsTheBoard$Texts") (by decide +kernel) rfl rfl (Nat.le_of_ble_eq_true rfl) dX5_init_12 (w' := [(h, .inr (5, [.ref tx, .null, .null, .null, .int 0, .null, .null, .null])), (tx, .inr (4, [.ref rw, .ref vl, .ref sk, .int (0 : Int32)])), (rw, .inl (B.2.1 4, 6, .inr (.inr (.inr (.inr (fun _ => none)))))), (vl, .inl (B.2.1 0, 6, .inl (fun _ => 0))), (sk, .inl (B.2.1 0, 64, .inl (fun _ => 0)))]) rfl ?_
  refine v_aload_n C 0 dX5_init_15 rfl rfl ?_
  refine v_newE (k := 4) (n := 80) G ginX1 tyX1 tyX1_ok (gdm 135 (by decide +kernel) (by decide +kernel)) (gdm 136 (by decide +kernel) (by decide +kernel)) (gdm 91 (by decide +kernel) (by decide +kernel)) (ci := 1) rfl (fs := [.null, .int 0, .int 0, .null, .int 0, .int 0, .int 0, .int 0, .int 0]) (by decide) (by decide) (by decide) dX5_init_16 (fun r0 => ?_)
  refine v_bm (k' := 5) (n' := 89) rfl rfl ?_
  have C := G.at (k := 5) (n := 89) (by decide) (by decide)
  refine v_dup C dX5_init_19 rfl ?_
  refine g_IN (k := 5) (n := 89) (h := r0) (wr := [(h, .inr (5, [.ref tx, .null, .null, .null, .int 0, .null, .null, .null])), (tx, .inr (4, [.ref rw, .ref vl, .ref sk, .int (0 : Int32)])), (rw, .inl (B.2.1 4, 6, .inr (.inr (.inr (.inr (fun _ => none)))))), (vl, .inl (B.2.1 0, 6, .inl (fun _ => 0))), (sk, .inl (B.2.1 0, 64, .inl (fun _ => 0)))]) (As := []) (rest := [.ref r0, .ref h]) G nX1_init eX5_18 (by decide) (by decide) Sp.right (by decide) (by decide) rfl rfl (Nat.le_of_ble_eq_true rfl) dX5_init_20 (fun w1 hw1 => ?_)
  obtain ⟨r1, r2, rfl⟩ := hw1
  refine v_bm (k' := 7) (n' := 409) rfl rfl ?_
  have C := G.at (k := 7) (n := 409) (by decide) (by decide)
  obtain ⟨P, eP⟩ : ∃ P : va_W, P = [(h, .inr (5, [.ref tx, .ref r0, .null, .null, .int 0, .null, .null, .null])), (tx, .inr (4, [.ref rw, .ref vl, .ref sk, .int (nI 0)])), (rw, .inl (B.2.1 4, 6, .inr (.inr (.inr (.inr (fun _ => none)))))), (vl, .inl (B.2.1 0, 6, .inl (fun _ => 0))), (sk, .inl (B.2.1 0, 64, .inl (fun _ => 0)))] := ⟨_, rfl⟩
  obtain ⟨a, ea⟩ : ∃ a : Nat → Nat, a = a69 [r0, r1, r2] := ⟨_, rfl⟩
  refine v_putFE C hI ginX5 tyX5 tyX5_ok nmX5 rfl 1 (by decide) rfl rfl (gdm 414 (by decide +kernel) (by decide +kernel)) 0 rfl (ty := .object "LoserKeepsTheBoard$Reader") (by decide +kernel) rfl rfl (Nat.le_of_ble_eq_true rfl) dX5_init_23 (w' := P ++ wl 3 a (shR B.2.1 a) R5i) (by rw [eP, ea]; rfl) ?_
  refine v_aload_n C 0 dX5_init_26 rfl rfl ?_
  refine v_getE C ginX5 rfl 1 (by decide) (gdm 414 (by decide +kernel) (by decide +kernel)) 0 (by rw [eP]; rfl) rfl dX5_init_27 ?_
  refine v_ldcS C 0 rfl dX5_init_30 ?_
  have ea0 : r0 = a 0 := by rw [ea]; rfl
  refine g_Vv (wf := wl 3 a (shR B.2.1 a)) (M := R5i) (h := r0) (k0 := 5) (As := [.ref (B.2.2.1 0)]) (rest := []) C (by rw [ea0]; exact c1_write (Q := fun R => XT b41 41 R) (by decide) (x_write fun R hR => hR)) eX5_25 (by decide) (by decide) (by rw [eP, ea]; rfl) Sp.right rfl rfl rfl (Nat.le_of_ble_eq_true rfl) dX5_init_32 (fun R1 h1 => ?_)
  refine v_aload_n C 0 dX5_init_35 rfl rfl ?_
  refine v_getE C ginX5 rfl 0 (by decide) (gdm 413 (by decide +kernel) (by decide +kernel)) 0 (by rw [eP]; rfl) rfl dX5_init_36 ?_
  refine v_aload_n C 0 dX5_init_39 rfl rfl ?_
  refine v_getE C ginX5 rfl 1 (by decide) (gdm 414 (by decide +kernel) (by decide +kernel)) 0 (by rw [eP]; rfl) rfl dX5_init_40 ?_
  have hw : w1_read R1 (fun _ => False) (fun L cf en R => L = 5 ∧ (∀ i, i < 5 → cf i = [(-1 : Int32), -2, 1, -15, 1].getD i 0) ∧ en = en3 (nI 1) (nI 4) (nI 5) ∧ R 0 1 = 0) := by
    refine x_read bf_b41 h1 (fun d1 d2 d3 et len cf R' hcf hr1 => ?_) (fun a' et => by rw [txt_b41] at et; cases et)
    rw [txt_b41] at et
    have q1 := Prod.mk.inj (Sum.inr.inj et)
    have q2 := Prod.mk.inj q1.2
    obtain ⟨rfl, rfl, rfl⟩ : d1 = [-1] ∧ d2 = [-2, 1, -15] ∧ d3 = [1] := ⟨q1.1.symm, q2.1.symm, q2.2.symm⟩
    exact ⟨rfl, hcf, rfl, hr1⟩
  refine g_Gq (k := 7) (n := 409) (h := r0) (k0 := 5) (wr := P) (As := []) (rest := [.ref tx]) G (by rw [ea0]; exact nX1_read hw) eX5_29 (by decide) (by decide) (by rw [eP, ea]; rfl) Sp.right rfl (by decide) (by decide) rfl rfl (Nat.le_of_ble_eq_true rfl) dX5_init_43 (fun o w1 hw1 => ?_)
  refine v_bm (k' := 10) (n' := 574) rfl rfl ?_
  have C := G.at (k := 10) (n := 574) (by decide) (by decide)
  rcases hw1 with ⟨-, -, -, hF⟩ | ⟨L, cf, en, R, t, cd, e, rfl, rfl, hL, rfl, hcf, rfl, hR1⟩
  · exact hF.elim
  refine g_Gi (k := 10) (n := 574) (h := tx) (k0 := 1) (wr := [(h, .inr (5, [.ref tx, .ref r0, .null, .null, .int 0, .null, .null, .null])), (vl, .inl (B.2.1 0, 6, .inl (fun _ => 0))), (sk, .inl (B.2.1 0, 64, .inl (fun _ => 0))), (r0, shR B.2.1 a 0 (R 0)), (r1, shR B.2.1 a 1 (R 1)), (r2, shR B.2.1 a 2 (R 2)), (cd, .inl (B.2.1 0, 5, .inl cf)), (e, .inl (B.2.1 0, 3, .inl (en3 (nI 1) (nI 4) (nI 5))))]) (wc := [(tx, .inr (4, [.ref rw, .ref vl, .ref sk, .int (nI 0)])), (rw, .inl (B.2.1 4, 6, .inr (.inr (.inr (.inr (fun _ => none)))))), (t, .inr (3, [.ref cd, .ref e]))]) (As := [.ref t]) (rest := []) G (nX4_add (m := 0) (by decide)) eX5_33 (by decide) (by decide) (by rw [eP]; rfl) (Sp.at [0, 3, 4, 5, 6, 7, 9, 10] [1, 2, 8] (by rw [eP, ea]; rfl) (by rw [eP]; rfl) (by decide)) rfl (by decide) (by decide) rfl rfl (Nat.le_of_ble_eq_true rfl) dX5_init_46 (fun r w1 hw1 => ?_)
  obtain ⟨rfl, rfl⟩ := hw1
  refine v_bm (k' := 10) (n' := 574) rfl rfl ?_
  refine v_pop C dX5_init_49 rfl ?_
  refine v_aload_n C 0 dX5_init_50 rfl rfl ?_
  obtain ⟨W, eW⟩ : ∃ W : va_W, W = [(vl, .inl (B.2.1 0, 6, .inl (fun _ => 0))), (sk, .inl (B.2.1 0, 64, .inl (fun _ => 0))), (r0, shR B.2.1 a 0 (R 0)), (r1, shR B.2.1 a 1 (R 1)), (r2, shR B.2.1 a 2 (R 2)), (cd, .inl (B.2.1 0, 5, .inl cf)), (e, .inl (B.2.1 0, 3, .inl (en3 (nI 1) (nI 4) (nI 5)))), (tx, .inr (4, [.ref rw, .ref vl, .ref sk, .int (nI (0 + 1))])), (rw, .inl (B.2.1 4, 6, .inr (.inr (.inr (.inr (va_up (fun _ => none) 0 (some t))))))), (t, .inr (3, [.ref cd, .ref e]))] := ⟨_, rfl⟩
  refine v_w (w' := (h, .inr (5, [.ref tx, .ref r0, .null, .null, .int 0, .null, .null, .null])) :: W) (by rw [eW]; rfl) ?_
  refine v_club (tx := tx) (k := 10) (n := 574) (q0 := 0) G (by decide) (by decide) rfl (by decide) (by decide) rfl (Nat.le_of_ble_eq_true rfl) dX5_init_51 dX5_init_54 dX5_init_55 dX5_init_56 dX5_init_59 (fun u => ?_)
  refine v_bm (k' := 16) (n' := 614) rfl rfl ?_
  have C := G.at (k := 16) (n := 614) (by decide) (by decide)
  refine v_putFE C hI ginX5 tyX5 tyX5_ok nmX5 rfl 2 (by decide) rfl rfl (gdm 415 (by decide +kernel) (by decide +kernel)) 0 rfl (ty := .object "LoserKeepsTheBoard$Club") (by decide +kernel) rfl rfl (Nat.le_of_ble_eq_true rfl) dX5_init_62 (w' := (h, .inr (5, [.ref tx, .ref r0, .ref (u 0), .null, .int 0, .null, .null, .null])) :: (W ++ clubC B.2.1 tx u)) rfl ?_
  refine v_aload_n C 0 dX5_init_65 rfl rfl ?_
  refine v_club (tx := tx) (k := 16) (n := 614) (q0 := 0) G (by decide) (by decide) rfl (by decide) (by decide) rfl (Nat.le_of_ble_eq_true rfl) dX5_init_66 dX5_init_69 dX5_init_70 dX5_init_71 dX5_init_74 (fun v => ?_)
  refine v_bm (k' := 22) (n' := 654) rfl rfl ?_
  have C := G.at (k := 22) (n := 654) (by decide) (by decide)
  refine v_putFE C hI ginX5 tyX5 tyX5_ok nmX5 rfl 3 (by decide) rfl rfl (gdm 416 (by decide +kernel) (by decide +kernel)) 0 rfl (ty := .object "LoserKeepsTheBoard$Club") (by decide +kernel) rfl rfl (Nat.le_of_ble_eq_true rfl) dX5_init_77 (w' := (h, .inr (5, [.ref tx, .ref r0, .ref (u 0), .ref (v 0), .int 0, .null, .null, .null])) :: ((W ++ clubC B.2.1 tx u) ++ clubC B.2.1 tx v)) rfl ?_
  refine v_aload_n C 0 dX5_init_80 rfl rfl ?_
  refine v_club (tx := tx) (k := 22) (n := 654) (q0 := 0) G (by decide) (by decide) rfl (by decide) (by decide) rfl (Nat.le_of_ble_eq_true rfl) dX5_init_81 dX5_init_84 dX5_init_85 dX5_init_86 dX5_init_89 (fun x => ?_)
  refine v_bm (k' := 28) (n' := 694) rfl rfl ?_
  have C := G.at (k := 28) (n := 694) (by decide) (by decide)
  refine v_putFE C hI ginX5 tyX5 tyX5_ok nmX5 rfl 5 (by decide) rfl rfl (gdm 418 (by decide +kernel) (by decide +kernel)) 0 rfl (ty := .object "LoserKeepsTheBoard$Club") (by decide +kernel) rfl rfl (Nat.le_of_ble_eq_true rfl) dX5_init_92 (w' := (h, .inr (5, [.ref tx, .ref r0, .ref (u 0), .ref (v 0), .int 0, .ref (x 0), .null, .null])) :: (((W ++ clubC B.2.1 tx u) ++ clubC B.2.1 tx v) ++ clubC B.2.1 tx x)) rfl ?_
  refine v_aload_n C 0 dX5_init_95 rfl rfl ?_
  refine v_iconst C dX5_init_96 (v := (5 : Int32)) (by decide) ?_
  refine v_newqE (N := 5) (k := 28) (n := 694) G 2 rfl G.2.2.2.2.2.2.1 (gdm 346 (by decide +kernel) (by decide +kernel)) (by decide) (by decide) (by decide) (by decide) (by decide) dX5_init_97 (fun th => ?_)
  refine v_bm (k' := 29) (n' := 699) rfl rfl ?_
  have C := G.at (k := 29) (n := 699) (by decide) (by decide)
  refine v_swap (a := [(h, .inr (5, [.ref tx, .ref r0, .ref (u 0), .ref (v 0), .int 0, .ref (x 0), .null, .null]))]) (b := (((W ++ clubC B.2.1 tx u) ++ clubC B.2.1 tx v) ++ clubC B.2.1 tx x)) (c := [(th, .inl (B.2.1 2, 5, .inr (.inr (.inr (.inr (fun _ => none))))))]) ?_
  refine v_putFE C hI ginX5 tyX5 tyX5_ok nmX5 rfl 6 (by decide) rfl rfl (gdm 419 (by decide +kernel) (by decide +kernel)) 0 rfl (ty := .array (.object "LoserKeepsTheBoard$Club")) (by decide +kernel) rfl rfl (Nat.le_of_ble_eq_true rfl) dX5_init_100 (w' := (h, .inr (5, [.ref tx, .ref r0, .ref (u 0), .ref (v 0), .int 0, .ref (x 0), .ref th, .null])) :: (th, .inl (B.2.1 2, 5, .inr (.inr (.inr (.inr (fun _ => none)))))) :: (((W ++ clubC B.2.1 tx u) ++ clubC B.2.1 tx v) ++ clubC B.2.1 tx x)) rfl ?_
  refine v_iconst C dX5_init_103 (v := (0 : Int32)) (by decide) ?_
  refine v_istore_n (lv' := [(1, .int (nI 0)), (0, .ref h)]) C dX5_init_104 rfl (by decide) rfl ?_
  refine v_thoughts (i := 0) (tx := tx) (k := 29) (n := 699) (by decide) G (by decide) (by decide) rfl rfl (by decide) (by decide) (fun t0 => ?_)
  refine v_thoughts (i := 1) (tx := tx) (k := 35) (n := 739) (by decide) G (by decide) (by decide) rfl rfl (by decide) (by decide) (fun t1 => ?_)
  refine v_thoughts (i := 2) (tx := tx) (k := 41) (n := 779) (by decide) G (by decide) (by decide) rfl rfl (by decide) (by decide) (fun t2 => ?_)
  refine v_thoughts (i := 3) (tx := tx) (k := 47) (n := 819) (by decide) G (by decide) (by decide) rfl rfl (by decide) (by decide) (fun t3 => ?_)
  refine v_thoughts (i := 4) (tx := tx) (k := 53) (n := 859) (by decide) G (by decide) (by decide) rfl rfl (by decide) (by decide) (fun t4 => ?_)
  refine v_bm (k' := 59) (n' := 899) rfl rfl ?_
  have C := G.at (k := 59) (n := 899) (by decide) (by decide)
  refine v_iload_n C 0 dX5_init_105 rfl rfl ?_
  refine v_aload_n C 1 dX5_init_106 rfl rfl ?_
  refine v_getE C ginX5 rfl 6 (by decide) (gdm 419 (by decide +kernel) (by decide +kernel)) 0 rfl rfl dX5_init_107 ?_
  refine v_alenE C 1 2 rfl rfl (v := nI 5) rfl dX5_init_110 ?_
  refine v_icmp_ge C dX5_init_111 (tgt := 137) (by decide) (fun c => ?_) (fun c => absurd (Int32.le_refl _) c)
  refine v_aload_n C 1 dX5_init_137 rfl rfl ?_
  refine v_iconst C dX5_init_138 (v := (4 : Int32)) (by decide) ?_
  refine v_newqE (N := 4) (k := 59) (n := 899) G 3 rfl G.2.2.2.2.2.2.2 (gdm 393 (by decide +kernel) (by decide +kernel)) (by decide) (by decide) (by decide) (by decide) (by decide) dX5_init_139 (fun ss => ?_)
  refine v_bm (k' := 60) (n' := 903) rfl rfl ?_
  have C := G.at (k := 60) (n := 903) (by decide) (by decide)
  refine v_swap (a := [(h, .inr (5, [.ref tx, .ref r0, .ref (u 0), .ref (v 0), .int 0, .ref (x 0), .ref th, .null]))]) (b := ((th, .inl (B.2.1 2, 5, .inr (.inr (.inr (.inr (va_up (va_up (va_up (va_up (va_up (fun _ => none) 0 (some (t0 0))) 1 (some (t1 0))) 2 (some (t2 0))) 3 (some (t3 0))) 4 (some (t4 0)))))))) :: ((((((((W ++ clubC B.2.1 tx u) ++ clubC B.2.1 tx v) ++ clubC B.2.1 tx x) ++ clubC B.2.1 tx t0) ++ clubC B.2.1 tx t1) ++ clubC B.2.1 tx t2) ++ clubC B.2.1 tx t3) ++ clubC B.2.1 tx t4))) (c := [(ss, .inl (B.2.1 3, 4, .inr (.inr (.inr (.inr (fun _ => none))))))]) ?_
  refine v_putFE C hI ginX5 tyX5 tyX5_ok nmX5 rfl 7 (by decide) rfl rfl (gdm 420 (by decide +kernel) (by decide +kernel)) 0 rfl (ty := .array (.object "LoserKeepsTheBoard$Sheet")) (by decide +kernel) rfl rfl (Nat.le_of_ble_eq_true rfl) dX5_init_142 (w' := (h, .inr (5, [.ref tx, .ref r0, .ref (u 0), .ref (v 0), .int 0, .ref (x 0), .ref th, .ref ss])) :: (ss, .inl (B.2.1 3, 4, .inr (.inr (.inr (.inr (fun _ => none)))))) :: ((th, .inl (B.2.1 2, 5, .inr (.inr (.inr (.inr (va_up (va_up (va_up (va_up (va_up (fun _ => none) 0 (some (t0 0))) 1 (some (t1 0))) 2 (some (t2 0))) 3 (some (t3 0))) 4 (some (t4 0)))))))) :: ((((((((W ++ clubC B.2.1 tx u) ++ clubC B.2.1 tx v) ++ clubC B.2.1 tx x) ++ clubC B.2.1 tx t0) ++ clubC B.2.1 tx t1) ++ clubC B.2.1 tx t2) ++ clubC B.2.1 tx t3) ++ clubC B.2.1 tx t4))) rfl ?_
  refine v_iconst C dX5_init_145 (v := (0 : Int32)) (by decide) ?_
  refine v_istore_n (lv' := [(1, .int (nI 0)), (0, .ref h)]) C dX5_init_146 rfl (by decide) rfl ?_
  refine v_sheets (i := 0) (k := 60) (n := 903) (by decide) G (by decide) (by decide) rfl (by decide) (by decide) (fun s0 => ?_)
  refine v_sheets (i := 1) (k := 62) (n := 946) (by decide) G (by decide) (by decide) rfl (by decide) (by decide) (fun s1 => ?_)
  refine v_sheets (i := 2) (k := 64) (n := 989) (by decide) G (by decide) (by decide) rfl (by decide) (by decide) (fun s2 => ?_)
  refine v_sheets (i := 3) (k := 66) (n := 1032) (by decide) G (by decide) (by decide) rfl (by decide) (by decide) (fun s3 => ?_)
  refine v_bm (k' := 68) (n' := 1075) rfl rfl ?_
  have C := G.at (k := 68) (n := 1075) (by decide) (by decide)
  refine v_iload_n C 0 dX5_init_147 rfl rfl ?_
  refine v_aload_n C 1 dX5_init_148 rfl rfl ?_
  refine v_getE C ginX5 rfl 7 (by decide) (gdm 420 (by decide +kernel) (by decide +kernel)) 0 rfl rfl dX5_init_149 ?_
  refine v_alenE C 1 3 rfl rfl (v := nI 4) rfl dX5_init_152 ?_
  refine v_icmp_ge C dX5_init_153 (tgt := 175) (by decide) (fun c => ?_) (fun c => absurd (Int32.le_refl _) c)
  obtain ⟨A, eA⟩ : ∃ A : Nat → Nat, A = a69 [h, tx, rw, vl, sk, r0, r1, r2, th, ss, u 0, u 1, u 2, u 3, u 4, u 5, v 0, v 1, v 2, v 3, v 4, v 5, x 0, x 1, x 2, x 3, x 4, x 5, t0 0, t0 1, t0 2, t0 3, t0 4, t0 5, t1 0, t1 1, t1 2, t1 3, t1 4, t1 5, t2 0, t2 1, t2 2, t2 3, t2 4, t2 5, t3 0, t3 1, t3 2, t3 3, t3 4, t3 5, t4 0, t4 1, t4 2, t4 3, t4 4, t4 5, s0 0, s0 1, s1 0, s1 1, s2 0, s2 1, s3 0, s3 1, t, cd, e] := ⟨_, rfl⟩
  refine v_sub2 (w' := ml 69 (fun k => if k = 2 then (A 2, .inl (B.2.1 4, 6, .inr (.inr (.inr (.inr (va_up (fun _ => none) 0 (some t))))))) else if k = 8 then (A 8, .inl (B.2.1 2, 5, .inr (.inr (.inr (.inr (va_up (va_up (va_up (va_up (va_up (fun _ => none) 0 (some (t0 0))) 1 (some (t1 0))) 2 (some (t2 0))) 3 (some (t3 0))) 4 (some (t4 0)))))))) else if k = 9 then (A 9, .inl (B.2.1 3, 4, .inr (.inr (.inr (.inr (va_up (va_up (va_up (va_up (fun _ => none) 0 (some (s0 0))) 1 (some (s1 0))) 2 (some (s2 0))) 3 (some (s3 0)))))))) else enX B.2.1 A ln69 (X5i R cf) k)) [0, 10, 11, 3, 4, 5, 6, 7, 2, 1, 13, 14, 15, 16, 17, 18, 19, 20, 21, 22, 23, 24, 25, 26, 27, 28, 29, 30, 31, 32, 33, 34, 35, 36, 37, 38, 39, 40, 41, 42, 43, 44, 45, 46, 47, 48, 49, 50, 51, 52, 53, 54, 55, 56, 57, 58, 59, 60, 61, 62, 63, 64, 65, 66, 67, 68, 12, 8, 9] (by rw [eA, eW, ea]; rfl) (by decide) ?_
  refine v_mlE (N := 69) (en := enX B.2.1 A ln69 (X5i R cf)) (fun k => k) (fun k hk => ?_) (fun i j _ _ z => z) ?_
  · rw [ml_get hk]
    by_cases k2 : k = 2
    · subst k2
      refine ⟨_, rfl, fun D cl H y => at_refs (fun j hj => ?_) y⟩
      rcases (by omega : j = 0 ∨ j = 1 ∨ j = 2 ∨ j = 3 ∨ j = 4 ∨ j = 5) with rfl | rfl | rfl | rfl | rfl | rfl
      · rw [eA]; rfl
      all_goals rfl
    · by_cases k8 : k = 8
      · subst k8
        refine ⟨_, rfl, fun D cl H y => at_refs (fun j hj => ?_) y⟩
        rcases (by omega : j = 0 ∨ j = 1 ∨ j = 2 ∨ j = 3 ∨ j = 4) with rfl | rfl | rfl | rfl | rfl <;> (rw [eA]; rfl)
      · by_cases k9 : k = 9
        · subst k9
          refine ⟨_, rfl, fun D cl H y => at_refs (fun j hj => ?_) y⟩
          rcases (by omega : j = 0 ∨ j = 1 ∨ j = 2 ∨ j = 3) with rfl | rfl | rfl | rfl <;> (rw [eA]; rfl)
        · rw [if_neg k2, if_neg k8, if_neg k9]
          exact ⟨_, rfl, fun D cl H y => y⟩
  · exact hR _ _ _ 68 1075 (by decide) (by decide) ⟨A, R, cf, rfl, by rw [eA]; rfl, hcf, hR1⟩ dX5_init_175
