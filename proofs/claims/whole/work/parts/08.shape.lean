/-! the worlds: the cells of the check (12), and of the class (66, and three for each text): what each holds out of the plain memory -/
def fl6 (a : Nat → Nat) (r : Nat → Int32) : List Value := [.int (r 0), .ref (a 1), .ref (a 2), .int (r 3), .int (r 4), .ref (a 3), .int (r 6), .int (r 7), .int (r 8), .ref (a 4), .ref (a 5), .int (r 11), .int (r 12), .int (r 13), .int (r 14), .int (r 15), .int (r 16), .int (r 17), .int (r 18), .int (r 19), .int (r 20), .int (r 21), .int (r 22), .long (j64 (r 23) (r 100)), .int (r 24), .int (r 25), .int (r 26), .ref (a 6), .int (r 28), .int (r 29), .int (r 30), .int (r 31), .ref (a 7), .int (r 33), .int (r 34), .int (r 35), .int (r 36), .ref (a 8), .ref (a 9), .ref (a 10), .ref (a 11)]
def shM (K : Nat → ClassId) (a : Nat → Nat) (k : Nat) (r : Nat → Int32) : va_E := match k with
  | 0 => .inr (6, fl6 a r)
  | 1 => .inl (K 0, 960, .inl r)
  | 2 => .inl (K 0, 6, .inl r)
  | 3 => .inl (K 0, 160, .inl r)
  | 4 => .inl (K 0, 6, .inl r)
  | 5 => .inl (K 0, 24, .inl r)
  | 6 => .inl (K 0, 208, .inl r)
  | 7 => .inl (K 0, 24, .inl r)
  | 8 => .inl (K 1, 4, .inl r)
  | 9 => .inl (K 0, 4, .inl r)
  | 10 => .inl (K 0, 4, .inl r)
  | _ => .inl (K 0, 160, .inl r)
def fl5 (a : Nat → Nat) (r : Nat → Int32) : List Value := [.ref (a 1), .ref (a 5), .ref (a 10), .ref (a 16), .int (r 4), .ref (a 22), .ref (a 8), .ref (a 9)]
def fl4 (a : Nat → Nat) (r : Nat → Int32) : List Value := [.ref (a 2), .ref (a 3), .ref (a 4), .int (r 3)]
def fl1 (a : Nat → Nat) (r : Nat → Int32) : List Value := [.ref (a 6), .int (r 1), .int (r 2), .ref (a 7), .int (r 4), .int (r 5), .int (r 6), .int (r 7), .int (r 8)]
def flR (a : Nat → Nat) (r : Nat → Int32) : List Value := [.ref (a 1), .int (r 1), .int (r 2), .ref (a 2), .int (r 4), .int (r 5), .int (r 6), .int (r 7), .int (r 8)]
def shR (K : Nat → ClassId) (a : Nat → Nat) (k : Nat) (r : Nat → Int32) : va_E := match k with
  | 0 => .inr (1, flR a r)
  | 1 => .inl (K 0, 160, .inl r)
  | _ => .inl (K 0, 160, .inl r)
def fl0 (a : Nat → Nat) (b : Nat) (r : Nat → Int32) : List Value := [.ref (a 1), .ref (a (b + 1)), .ref (a (b + 2)), .ref (a (b + 3)), .ref (a (b + 4)), .ref (a (b + 5)), .int (r 6), .int (r 7), .int (r 8), .int (r 9)]
def fl2 (a : Nat → Nat) (b : Nat) (r : Nat → Int32) : List Value := [.ref (a (b + 1)), .int (r 1), .int (r 2)]
def fl3 (a : Nat → Nat) (b : Nat) (r : Nat → Int32) : List Value := [.ref (a (b + 1)), .ref (a (b + 2))]
abbrev GX : Type := (Nat → Nat) × Nat
def rowF (a : Nat → Nat) (r : Nat → Int32) : Nat → Option Nat := fun j => if r j = 0 then none else some (a (66 + 3 * ((r j).toNatClampNeg - 1)))
def thF (a : Nat → Nat) : Nat → Option Nat := fun j => some (a (28 + 6 * j))
def shF (a : Nat → Nat) : Nat → Option Nat := fun j => some (a (58 + 2 * j))
def shX0 (K : Nat → ClassId) (a : Nat → Nat) (k : Nat) (r : Nat → Int32) : va_E := match k with
  | 0 => .inr (5, fl5 a r)
  | 1 => .inr (4, fl4 a r)
  | 2 => .inl (K 4, 6, .inr (.inr (.inr (.inr (rowF a r)))))
  | 3 => .inl (K 0, 6, .inl r)
  | 4 => .inl (K 0, 64, .inl r)
  | 5 => .inr (1, fl1 a r)
  | 6 => .inl (K 0, 160, .inl r)
  | 7 => .inl (K 0, 160, .inl r)
  | 8 => .inl (K 2, 5, .inr (.inr (.inr (.inr (thF a)))))
  | _ => .inl (K 3, 4, .inr (.inr (.inr (.inr (shF a)))))
def shX (K : Nat → ClassId) (a : Nat → Nat) (ln : Nat → Nat) (k : Nat) (r : Nat → Int32) : va_E :=
  if k < 10 then shX0 K a k r
  else if k < 58 then (if (k - 10) % 6 = 0 then .inr (0, fl0 a k r) else .inl (K 0, 6, .inl r))
  else if k < 66 then (if (k - 58) % 2 = 0 then .inr (2, fl2 a k r) else .inl (K 0, 40, .inl r))
  else (if (k - 66) % 3 = 0 then .inr (3, fl3 a k r) else if (k - 66) % 3 = 1 then .inl (K 0, ln (k - 1), .inl r) else .inl (K 0, 3, .inl r))
def isClub (b : Nat) : Prop := ∃ c, c < 8 ∧ b = 10 + 6 * c
def isSheet (b : Nat) : Prop := ∃ c, c < 4 ∧ b = 58 + 2 * c
def isText (g : GX) (b : Nat) : Prop := ∃ c, c < g.2 ∧ b = 66 + 3 * c
def isCArr (k : Nat) : Prop := ∃ c j, c < 8 ∧ 1 ≤ j ∧ j ≤ 5 ∧ k = 10 + 6 * c + j
theorem cl_10 : isClub 10 := ⟨0, by decide, rfl⟩
theorem cl_16 : isClub 16 := ⟨1, by decide, rfl⟩
theorem cl_22 : isClub 22 := ⟨2, by decide, rfl⟩
theorem ca_of {b j : Nat} (h : isClub b) (h1 : 1 ≤ j) (h5 : j ≤ 5) : isCArr (b + j) := by
  obtain ⟨c, hc, rfl⟩ := h
  exact ⟨c, j, hc, h1, h5, rfl⟩
section SHX
variable {K : Nat → ClassId} {a : Nat → Nat} {ln : Nat → Nat} {g : GX} {b : Nat}
theorem xlt_c {j m : Nat} (h : isClub b) (hj : j ≤ 5) : b + j < 66 + 3 * m := by
  obtain ⟨c, hc, rfl⟩ := h
  omega
theorem xlt_s {j m : Nat} (h : isSheet b) (hj : j ≤ 1) : b + j < 66 + 3 * m := by
  obtain ⟨c, hc, rfl⟩ := h
  omega
theorem xlt_t {j : Nat} (h : isText g b) (hj : j ≤ 2) : b + j < 66 + 3 * g.2 := by
  obtain ⟨c, hc, rfl⟩ := h
  omega
theorem xlt_ca {m : Nat} (h : isCArr b) : b < 66 + 3 * m := by
  obtain ⟨c, j, hc, h1, h5, rfl⟩ := h
  omega
theorem sh_c0 (h : isClub b) (r : Nat → Int32) : shX K a ln b r = .inr (0, fl0 a b r) := by
  obtain ⟨c, hc, rfl⟩ := h
  unfold shX
  rw [if_neg (by omega), if_pos (by omega), if_pos (by omega)]
theorem sh_ca (h : isCArr b) (r : Nat → Int32) : shX K a ln b r = .inl (K 0, 6, .inl r) := by
  obtain ⟨c, j, hc, h1, h5, rfl⟩ := h
  unfold shX
  rw [if_neg (by omega), if_pos (by omega), if_neg (by omega)]
theorem sh_s0 (h : isSheet b) (r : Nat → Int32) : shX K a ln b r = .inr (2, fl2 a b r) := by
  obtain ⟨c, hc, rfl⟩ := h
  unfold shX
  rw [if_neg (by omega), if_neg (by omega), if_pos (by omega), if_pos (by omega)]
theorem sh_s1 (h : isSheet b) (r : Nat → Int32) : shX K a ln (b + 1) r = .inl (K 0, 40, .inl r) := by
  obtain ⟨c, hc, rfl⟩ := h
  unfold shX
  rw [if_neg (by omega), if_neg (by omega), if_pos (by omega), if_neg (by omega)]
theorem sh_t0 (h : isText g b) (r : Nat → Int32) : shX K a ln b r = .inr (3, fl3 a b r) := by
  obtain ⟨c, hc, rfl⟩ := h
  unfold shX
  rw [if_neg (by omega), if_neg (by omega), if_neg (by omega), if_pos (by omega)]
theorem sh_t1 (h : isText g b) (r : Nat → Int32) : shX K a ln (b + 1) r = .inl (K 0, ln b, .inl r) := by
  obtain ⟨c, hc, rfl⟩ := h
  unfold shX
  rw [if_neg (by omega), if_neg (by omega), if_neg (by omega), if_neg (by omega), if_pos (by omega)]
  rfl
theorem sh_t2 (h : isText g b) (r : Nat → Int32) : shX K a ln (b + 2) r = .inl (K 0, 3, .inl r) := by
  obtain ⟨c, hc, rfl⟩ := h
  unfold shX
  rw [if_neg (by omega), if_neg (by omega), if_neg (by omega), if_neg (by omega), if_neg (by omega)]
end SHX
theorem up_R {M : S0} {k j : Nat} {x : Int32} : up M k j x = upR M k (upd (M k) j x) := by
  funext k' j'
  by_cases h : k' = k
  · subst h; simp [up, upR, upd]
  · simp [up, upR, h]
theorem up_R2 {M : S0} {k j j2 : Nat} {x y : Int32} : up (up M k j x) k j2 y = upR M k (upd (upd (M k) j x) j2 y) := by
  funext k' j'
  by_cases h : k' = k
  · subst h; simp [up, upR, upd]
  · simp [up, upR, h]
section VSW
variable {B : BX} {E : EX} {cc : ByteArray} {nL : Nat} {own : String} {fr lo : Nat} {w : va_W} {pc : Nat} {lv : List (Nat × Value)} {st : List Value}
theorem v_sw (C : Ok B E cc nL own fr lo) {dflt lo' hi : Int} {offs : Array Int} {len : Nat} {x : Int32} (hd : decode cc pc = .ok (.tableswitch dflt lo' hi offs, len)) (tgts : List Nat) (hof : offs.toList = tgts.map (fun t : Nat => (t : Int) - (pc : Int))) (hlen : (hi - lo' + 1).toNat = tgts.length) {tgt : Nat} (ht : (pc : Int) + dflt = (tgt : Int)) (kin : ∀ (j t : Nat), tgts[j]? = some t → x.toInt = lo' + (j : Int) → V B E nL w t lv st) (kout : x.toInt < lo' ∨ hi < x.toInt → V B E nL w tgt lv st) : V B E nL w pc lv (.int x :: st) := by
  have ho : ∀ j : Nat, j < tgts.length → ∃ t, tgts[j]? = some t ∧ offs[j]? = some ((t : Int) - (pc : Int)) := by
    intro j hj
    refine ⟨tgts[j], List.getElem?_eq_getElem hj, ?_⟩
    rw [← Array.getElem?_toList, hof, List.getElem?_map, List.getElem?_eq_getElem hj]
    rfl
  refine v_table C hd (fun off tgt h1 h2 h3 h4 => ?_) (fun j hj => ?_) ht kout
  · obtain ⟨t, e1, e2⟩ := ho (x.toInt - lo').toNat (by omega)
    rw [e2] at h3
    have h5 : tgt = t := by
      have := Option.some.inj h3
      omega
    subst h5
    exact kin _ _ e1 (by omega)
  · obtain ⟨t, e1, e2⟩ := ho j (by omega)
    exact ⟨_, t, e2, by omega⟩
theorem v_topi (k : ∀ y, ∀ x : Int32, x = y → V B E nL w pc lv (.int x :: st)) {x : Int32} : V B E nL w pc lv (.int x :: st) := k x x rfl
theorem v_nmi {x : Int32} (k : ∀ y : Int32, y = x → V B E nL w pc lv (.int y :: st)) : V B E nL w pc lv (.int x :: st) := k x rfl
theorem v_nml {x : Int64} (k : ∀ y : Int64, y = x → V B E nL w pc lv (.long y :: st)) : V B E nL w pc lv (.long x :: st) := k x rfl
theorem v_sub {lv' : List (Nat × Value)} (ks : List Nat) (he : lv_pick lv ks = lv') (k : V B E nL w pc lv' st) : V B E nL w pc lv st := by
  obtain ⟨p, l, e, R, s, m, args, below, meth, c, A, Z, k9, n9⟩ := E
  exact fun H locs ls hP hD hS hl => k H locs ls hP hD hS (lv_sub hl ks he)
end VSW
theorem ginX0 : ∀ w ∈ u_ws RX0 TX0 10, w ∈ lw_gd := by
  have e : u_ws RX0 TX0 10 = [371, 373, 375, 377, 379, 381, 383, 385, 387, 389].filterMap (fun i => lw_tbl[i]?) := by decide +kernel
  have e2 : (u_ws RX0 TX0 10).all goodWord = true := by decide +kernel
  intro w hw
  have h2 := List.all_eq_true.mp e2 w hw
  rw [e] at hw
  obtain ⟨i, -, hi⟩ := List.mem_filterMap.mp hw
  exact gdm i hi h2
theorem ginX1 : ∀ w ∈ u_ws RX1 TX1 9, w ∈ lw_gd := by
  have e : u_ws RX1 TX1 9 = [152, 154, 156, 158, 160, 162, 164, 166, 168].filterMap (fun i => lw_tbl[i]?) := by decide +kernel
  have e2 : (u_ws RX1 TX1 9).all goodWord = true := by decide +kernel
  intro w hw
  have h2 := List.all_eq_true.mp e2 w hw
  rw [e] at hw
  obtain ⟨i, -, hi⟩ := List.mem_filterMap.mp hw
  exact gdm i hi h2
theorem ginX2 : ∀ w ∈ u_ws RX2 TX2 3, w ∈ lw_gd := by
  have e : u_ws RX2 TX2 3 = [406, 408, 410].filterMap (fun i => lw_tbl[i]?) := by decide +kernel
  have e2 : (u_ws RX2 TX2 3).all goodWord = true := by decide +kernel
  intro w hw
  have h2 := List.all_eq_true.mp e2 w hw
  rw [e] at hw
  obtain ⟨i, -, hi⟩ := List.mem_filterMap.mp hw
  exact gdm i hi h2
theorem ginX3 : ∀ w ∈ u_ws RX3 TX3 2, w ∈ lw_gd := by
  have e : u_ws RX3 TX3 2 = [336, 338].filterMap (fun i => lw_tbl[i]?) := by decide +kernel
  have e2 : (u_ws RX3 TX3 2).all goodWord = true := by decide +kernel
  intro w hw
  have h2 := List.all_eq_true.mp e2 w hw
  rw [e] at hw
  obtain ⟨i, -, hi⟩ := List.mem_filterMap.mp hw
  exact gdm i hi h2
theorem ginX4 : ∀ w ∈ u_ws RX4 TX4 4, w ∈ lw_gd := by
  have e : u_ws RX4 TX4 4 = [125, 127, 129, 131].filterMap (fun i => lw_tbl[i]?) := by decide +kernel
  have e2 : (u_ws RX4 TX4 4).all goodWord = true := by decide +kernel
  intro w hw
  have h2 := List.all_eq_true.mp e2 w hw
  rw [e] at hw
  obtain ⟨i, -, hi⟩ := List.mem_filterMap.mp hw
  exact gdm i hi h2
theorem ginX5 : ∀ w ∈ u_ws RX5 TX5 8, w ∈ lw_gd := by
  have e : u_ws RX5 TX5 8 = [421, 423, 425, 427, 429, 431, 433, 435].filterMap (fun i => lw_tbl[i]?) := by decide +kernel
  have e2 : (u_ws RX5 TX5 8).all goodWord = true := by decide +kernel
  intro w hw
  have h2 := List.all_eq_true.mp e2 w hw
  rw [e] at hw
  obtain ⟨i, -, hi⟩ := List.mem_filterMap.mp hw
  exact gdm i hi h2
theorem ginX6 : ∀ w ∈ u_ws RX6 TX6 41, w ∈ lw_gd := by
  have e : u_ws RX6 TX6 41 = [829, 831, 833, 835, 837, 839, 841, 843, 845, 847, 849, 851, 853, 855, 857, 859, 861, 863, 865, 867, 869, 871, 873, 875, 877, 879, 881, 883, 885, 887, 889, 891, 893, 895, 897, 899, 901, 903, 905, 907, 909].filterMap (fun i => lw_tbl[i]?) := by decide +kernel
  have e2 : (u_ws RX6 TX6 41).all goodWord = true := by decide +kernel
  intro w hw
  have h2 := List.all_eq_true.mp e2 w hw
  rw [e] at hw
  obtain ⟨i, -, hi⟩ := List.mem_filterMap.mp hw
  exact gdm i hi h2
