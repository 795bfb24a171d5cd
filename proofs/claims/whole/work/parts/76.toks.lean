/-! TOKENS of a TEXT, and how they are read: plainly (b: the byte at a place, -1 behind the end; n: how many) -/
def isL (x : Int32) : Bool := decide (¬ x < 97 ∧ ¬ 122 < x)
def isD (x : Int32) : Bool := decide (¬ x < 48 ∧ ¬ 57 < x)
def isB (x : Int32) : Bool := decide (x = 32 ∨ x = 10)
def isG (x : Int32) : Bool := decide (x = 40 ∨ x = 41 ∨ x = 59 ∨ x = 43 ∨ x = 45 ∨ x = 42 ∨ x = 60 ∨ x = 61)
def Bf (b : Nat → Int32) (n : Nat) : Prop := n ≤ 160 ∧ (∀ h, h < n → ∃ c : Nat, c < 256 ∧ b h = nI c) ∧ ∀ h, n ≤ h → b h = -1
def spn (b : Nat → Int32) (p : Int32 → Bool) : Nat → Nat → Nat
  | 0, h => h
  | k + 1, h => if p (b h) = true then spn b p k (h + 1) else h
def dgs (b : Nat → Int32) : Nat → Nat → Nat → Nat → Nat × Nat × Nat
  | 0, h, c, w => (h, c, w)
  | k + 1, h, c, w => if isD (b h) = true then dgs b k (h + 1) (c + 1) (if c < 4 then 10 * w + (b h - 48).toNatClampNeg else w) else (h, c, w)
def wrd (b : Nat → Int32) (a e : Nat) : List Int32 := (List.range (e - a)).map (fun i => b (a + i))
def kwt (w : List Int32) : Int32 :=
  if w = [112, 108, 97, 121, 115] then 1 else if w = [116, 104, 114, 111, 119, 115] then 2 else if w = [116, 105, 114, 101, 115] then 3
  else if w = [111, 114] then 4 else if w = [97, 110, 100] then 5 else if w = [110, 111, 116] then 6
  else if w = [115, 116, 114, 111, 110, 103] then 10 else if w = [104, 97, 115] then 11 else if w = [110, 117, 109, 98, 101, 114] then 12
  else if w = [116, 104, 101, 105, 114, 115] then 13 else if w = [114, 111, 117, 110, 100] then 14 else if w = [115, 116, 97, 107, 101] then 15 else 9
theorem ite_n {c : Prop} [Decidable c] {x y z : Int32} (h1 : ¬ x = z) (h2 : ¬ y = z) : ¬ (if c then x else y) = z := by
  by_cases h : c
  · rw [if_pos h]; exact h1
  · rw [if_neg h]; exact h2
theorem kwt_7 {w : List Int32} : ¬ kwt w = 7 := ite_n (by decide) (ite_n (by decide) (ite_n (by decide) (ite_n (by decide) (ite_n (by decide) (ite_n (by decide) (ite_n (by decide) (ite_n (by decide) (ite_n (by decide) (ite_n (by decide) (ite_n (by decide) (ite_n (by decide) (by decide))))))))))))
/-- kind (0 the end, 1 a word, 2 a number, 3 a sign, 4 none), token, where it begins, where it ends, what a number says -/
abbrev TS : Type := Nat × Int32 × Nat × Nat × Nat
abbrev kt (s : TS) : Nat := s.1
abbrev tk (s : TS) : Int32 := s.2.1
abbrev ta (s : TS) : Nat := s.2.2.1
abbrev tp (s : TS) : Nat := s.2.2.2.1
abbrev tw (s : TS) : Nat := s.2.2.2.2
def scA (b : Nat → Int32) (a : Nat) : TS :=
  if b a = -1 then (0, 8, a, a, 0)
  else if isL (b a) = true then (1, kwt (wrd b a (spn b isL 161 a)), a, spn b isL 161 a, 0)
  else if isD (b a) = true then (if 4 < (dgs b 161 a 0 0).2.1 then 4 else 2, if 4 < (dgs b 161 a 0 0).2.1 then 9 else 7, a, (dgs b 161 a 0 0).1, (dgs b 161 a 0 0).2.2)
  else (if isG (b a) = true then 3 else 4, if isG (b a) = true then b a else 9, a, a + 1, 0)
def scn (b : Nat → Int32) (h : Nat) : TS := scA b (spn b isB 161 h)
theorem spn_ge (b : Nat → Int32) (p : Int32 → Bool) : ∀ k h, h ≤ spn b p k h := by
  intro k
  induction k with
  | zero => intro h; exact Nat.le_refl _
  | succ k ih =>
    intro h
    unfold spn
    split
    · exact Nat.le_trans (Nat.le_succ h) (ih (h + 1))
    · exact Nat.le_refl _
theorem spn_gt {b : Nat → Int32} {p : Int32 → Bool} {k h : Nat} (hp : p (b h) = true) : h < spn b p (k + 1) h := by
  unfold spn
  rw [if_pos hp]
  exact spn_ge b p k (h + 1)
theorem spn_le {b : Nat → Int32} {p : Int32 → Bool} {n : Nat} (hb : ∀ h, n ≤ h → p (b h) = false) : ∀ k h, h ≤ n → spn b p k h ≤ n := by
  intro k
  induction k with
  | zero => intro h hh; exact hh
  | succ k ih =>
    intro h hh
    unfold spn
    by_cases c : p (b h) = true
    · rw [if_pos c]
      refine ih (h + 1) ?_
      rcases Nat.lt_or_ge h n with q | q
      · exact q
      · rw [hb h q] at c; cases c
    · rw [if_neg c]; exact hh
theorem spn_all {b : Nat → Int32} {p : Int32 → Bool} : ∀ k h i, h ≤ i → i < spn b p k h → p (b i) = true := by
  intro k
  induction k with
  | zero => intro h i h1 h2; exact absurd h2 (Nat.not_lt.mpr h1)
  | succ k ih =>
    intro h i h1 h2
    unfold spn at h2
    by_cases c : p (b h) = true
    · rw [if_pos c] at h2
      rcases Nat.eq_or_lt_of_le h1 with q | q
      · rw [← q]; exact c
      · exact ih (h + 1) i q h2
    · rw [if_neg c] at h2
      exact absurd h2 (Nat.not_lt.mpr h1)
theorem spn_stop {b : Nat → Int32} {p : Int32 → Bool} {n : Nat} (hb : ∀ h, n ≤ h → p (b h) = false) : ∀ k h, n < h + k → p (b (spn b p k h)) = false := by
  intro k
  induction k with
  | zero => intro h hh; exact hb h (by omega)
  | succ k ih =>
    intro h hh
    unfold spn
    by_cases c : p (b h) = true
    · rw [if_pos c]; exact ih (h + 1) (by omega)
    · rw [if_neg c]; exact Bool.eq_false_iff.mpr c
theorem dgs_1 {b : Nat → Int32} : ∀ k h c w, (dgs b k h c w).1 = spn b isD k h := by
  intro k
  induction k with
  | zero => intro h c w; rfl
  | succ k ih =>
    intro h c w
    unfold dgs spn
    by_cases q : isD (b h) = true
    · rw [if_pos q, if_pos q]; exact ih _ _ _
    · rw [if_neg q, if_neg q]
theorem isD_n {x : Int32} (h : isD x = true) : ∃ c : Nat, c < 10 ∧ x = nI (48 + c) := by
  have h := of_decide_eq_true h
  obtain ⟨h1, h2⟩ := h
  rw [Int32.lt_iff_toInt_lt] at h1 h2
  have a1 : (48 : Int32).toInt = 48 := by decide
  have a2 : (57 : Int32).toInt = 57 := by decide
  rw [a1] at h1
  rw [a2] at h2
  refine ⟨(x.toInt - 48).toNat, by omega, ?_⟩
  apply Int32.toInt_inj.mp
  rw [nI_toInt (by omega)]
  omega
theorem dgs_w {b : Nat → Int32} : ∀ k h c w, w < 10 ^ (min c 4) → (dgs b k h c w).2.2 < 10 ^ (min (dgs b k h c w).2.1 4) := by
  intro k
  induction k with
  | zero => intro h c w hw; exact hw
  | succ k ih =>
    intro h c w hw
    unfold dgs
    by_cases q : isD (b h) = true
    · rw [if_pos q]
      refine ih _ _ _ ?_
      by_cases c4 : c < 4
      · rw [if_pos c4]
        obtain ⟨d, hd, e⟩ := isD_n q
        have e2 : (b h - 48).toNatClampNeg = d := by
          rw [e, show (48 : Int32) = nI 48 from rfl, nI_sub (by omega), nI_clamp (by omega)]
          omega
        rw [e2]
        rw [show min c 4 = c by omega] at hw
        rw [show min (c + 1) 4 = c + 1 by omega, Nat.pow_succ]
        omega
      · rw [if_neg c4]
        rw [show min c 4 = 4 by omega] at hw
        rw [show min (c + 1) 4 = 4 by omega]
        exact hw
    · rw [if_neg q]; exact hw
theorem dgs_w4 {b : Nat → Int32} (k h : Nat) : (dgs b k h 0 0).2.2 < 10000 := by
  have h1 := dgs_w (b := b) k h 0 0 (by decide)
  have h2 : 10 ^ (min (dgs b k h 0 0).2.1 4) ≤ 10 ^ 4 := Nat.pow_le_pow_right (by decide) (Nat.min_le_right _ _)
  exact Nat.lt_of_lt_of_le h1 h2
theorem m1_L : isL (-1) = false := by decide
theorem m1_D : isD (-1) = false := by decide
theorem m1_B : isB (-1) = false := by decide
section TOK
variable {b : Nat → Int32} {n : Nat}
theorem Bf.no {p : Int32 → Bool} (hb : Bf b n) (hp : p (-1) = false) : ∀ h, n ≤ h → p (b h) = false := fun h hh => by rw [hb.2.2 h hh]; exact hp
theorem Bf.in {h : Nat} (hb : Bf b n) (h1 : ¬ b h = -1) : h < n := by
  rcases Nat.lt_or_ge h n with q | q
  · exact q
  · exact absurd (hb.2.2 h q) h1
theorem Bf.ne {h : Nat} (hb : Bf b n) (h1 : h < n) : ¬ b h = -1 := by
  obtain ⟨c, hc, e⟩ := hb.2.1 h h1
  rw [e]
  exact nI_nm1 (by omega)
/-- what a token that was scanned is -/
def Sc (b : Nat → Int32) (n : Nat) (s : TS) : Prop := ta s ≤ n ∧ ((kt s = 0 ∧ tk s = 8 ∧ ta s = n ∧ tp s = n) ∨ (ta s < tp s ∧ tp s ≤ n ∧ ((kt s = 1 ∧ tk s = kwt (wrd b (ta s) (tp s)) ∧ ∀ i, ta s ≤ i → i < tp s → isL (b i) = true) ∨ (kt s = 2 ∧ tk s = 7 ∧ tw s < 10000) ∨ (kt s = 3 ∧ isG (tk s) = true) ∨ (kt s = 4 ∧ tk s = 9))))
theorem scA_ok (hb : Bf b n) {a : Nat} (ha : a ≤ n) : Sc b n (scA b a) ∧ ta (scA b a) = a := by
  have n160 := hb.1
  unfold scA
  by_cases c1 : b a = -1
  · rw [if_pos c1]
    have e : a = n := by
      rcases Nat.lt_or_ge a n with q | q
      · exact absurd c1 (hb.ne q)
      · omega
    exact ⟨⟨ha, Or.inl ⟨rfl, rfl, e, e⟩⟩, rfl⟩
  · rw [if_neg c1]
    have an := hb.in c1
    by_cases c2 : isL (b a) = true
    · rw [if_pos c2]
      exact ⟨⟨ha, Or.inr ⟨spn_gt c2, spn_le (hb.no m1_L) _ _ ha, Or.inl ⟨rfl, rfl, fun i h1 h2 => spn_all _ _ _ h1 h2⟩⟩⟩, rfl⟩
    · rw [if_neg c2]
      by_cases c3 : isD (b a) = true
      · rw [if_pos c3]
        have e1 : a < (dgs b 161 a 0 0).1 := by rw [dgs_1]; exact spn_gt c3
        have e2 : (dgs b 161 a 0 0).1 ≤ n := by rw [dgs_1]; exact spn_le (hb.no m1_D) _ _ ha
        refine ⟨⟨ha, Or.inr ⟨e1, e2, ?_⟩⟩, rfl⟩
        by_cases c4 : 4 < (dgs b 161 a 0 0).2.1
        · exact Or.inr (Or.inr (Or.inr ⟨if_pos c4, if_pos c4⟩))
        · exact Or.inr (Or.inl ⟨if_neg c4, if_neg c4, dgs_w4 _ _⟩)
      · rw [if_neg c3]
        refine ⟨⟨ha, Or.inr ⟨Nat.lt_succ_self a, an, ?_⟩⟩, rfl⟩
        by_cases c4 : isG (b a) = true
        · exact Or.inr (Or.inr (Or.inl ⟨if_pos c4, by show isG (if isG (b a) = true then b a else 9) = true; rw [if_pos c4]; exact c4⟩))
        · exact Or.inr (Or.inr (Or.inr ⟨if_neg c4, if_neg c4⟩))
theorem scn_ok (hb : Bf b n) {h : Nat} (hh : h ≤ n) : Sc b n (scn b h) ∧ h ≤ ta (scn b h) := by
  have e := scA_ok hb (spn_le (hb.no m1_B) 161 h hh)
  exact ⟨e.1, by unfold scn; rw [e.2]; exact spn_ge _ _ _ _⟩
/-- the token behind this one -/
abbrev nx (b : Nat → Int32) (s : TS) : TS := scn b (tp s)
theorem Sc.tpn {s : TS} (h : Sc b n s) : tp s ≤ n := by
  rcases h.2 with q | q
  · exact Nat.le_of_eq q.2.2.2
  · exact q.2.1
theorem Sc.go {s : TS} (hb : Bf b n) (h : Sc b n s) : Sc b n (nx b s) := (scn_ok hb h.tpn).1
theorem Sc.lt {s : TS} (h : Sc b n s) (h8 : ¬ tk s = 8) : ta s < tp s ∧ ta s < n := by
  rcases h.2 with q | q
  · exact absurd q.2.1 h8
  · exact ⟨q.1, Nat.lt_of_lt_of_le q.1 q.2.1⟩
theorem Sc.nxlt {s : TS} (hb : Bf b n) (h : Sc b n s) (h8 : ¬ tk s = 8) : ta s + 1 ≤ ta (nx b s) := Nat.le_trans (h.lt h8).1 (scn_ok hb h.tpn).2
end TOK
/-- what joins at a level (1 term, 2 sum, 4 both, 5 either): its code, 0: nothing -/
def opc (l : Nat) (t : Int32) : Int32 := if l = 1 then (if t = 42 then -13 else 0) else if l = 2 then (if t = 43 then -11 else if t = 45 then -12 else 0) else if l = 4 then (if t = 5 then -17 else 0) else if t = 4 then -18 else 0
theorem opc_8 {l : Nat} {t : Int32} (h : ¬ opc l t = 0) : ¬ t = 8 := by
  rintro rfl
  apply h
  unfold opc
  split
  · rfl
  · split
    · rfl
    · split <;> rfl
abbrev PR : Type := Nat ⊕ (List Int32 × TS)
def pbd (r : PR) (k : List Int32 → TS → PR) : PR := match r with
  | .inl a => .inl a
  | .inr q => k q.1 q.2
theorem pbd_r {r : PR} {k : List Int32 → TS → PR} {q : List Int32 × TS} (h : pbd r k = .inr q) : ∃ d s, r = .inr (d, s) ∧ k d s = .inr q := by
  cases r with
  | inl a => cases h
  | inr p => exact ⟨p.1, p.2, rfl, h⟩
/-- the reading: 0 one, 1 term, 2 sum, 3 not, 4 both, 5 either; 7, 8, 10, 11 the loops of 1, 2, 4, 5 (c is what stands ahead) -/
def prs (b : Nat → Int32) : Nat → Nat → Nat → List Int32 → TS → PR
  | 0, _, _, _, s => .inl (ta s)
  | f + 1, l, o, c, s =>
    if 6 < l then
      if opc (l - 6) (tk s) = 0 then .inr (c, s)
      else pbd (prs b f (l - 7) o [] (nx b s)) (fun d s' => prs b f l o (c ++ (d ++ [opc (l - 6) (tk s)])) s')
    else if l = 0 then
      if tk s = 7 then .inr ([nI (tw s)], nx b s)
      else if ¬ tk s < 10 ∧ tk s < 16 then .inr ([9 - tk s], nx b s)
      else if tk s = 45 ∧ o < 5 then pbd (prs b f 0 (o + 1) [] (nx b s)) (fun d s' => .inr (d ++ [-14], s'))
      else if tk s = 40 ∧ o < 5 then pbd (prs b f 5 (o + 1) [] (nx b s)) (fun d s' => if tk s' = 41 then .inr (d, nx b s') else .inl (ta s'))
      else .inl (ta s)
    else if l = 3 then
      if tk s = 6 then (if o < 5 then pbd (prs b f 3 (o + 1) [] (nx b s)) (fun d s' => .inr (d ++ [-19], s')) else .inl (ta s))
      else pbd (prs b f 2 o [] s) (fun d s' => if tk s' = 60 ∨ tk s' = 61 then pbd (prs b f 2 o [] (nx b s')) (fun d2 s2 => .inr (d ++ (d2 ++ [if tk s' = 60 then -15 else -16]), s2)) else .inr (d, s'))
    else pbd (prs b f (l - 1) o [] s) (fun d s' => prs b f (l + 6) o d s')
/-! code worked out on a stack of at most cap -/
def jn (c x y : Int32) : Int32 := if c = -11 then x + y else if c = -12 then x - y else if c = -13 then x * y else if c = -15 then (if x < y then 1 else 0) else if c = -16 then (if x = y then 1 else 0) else if c = -17 then (if ¬ x = 0 ∧ ¬ y = 0 then 1 else 0) else if c = -18 then (if ¬ x = 0 ∨ ¬ y = 0 then 1 else 0) else 0
def run (v : Nat → Int32) (cap : Nat) : List Int32 → List Int32 → Option (List Int32)
  | [], st => some st
  | c :: cs, st =>
    if ¬ c < -6 then (if st.length < cap then run v cap cs ((if c < 0 then v (-1 - c).toNatClampNeg else c) :: st) else none)
    else if c = -14 then (if st.length = 0 then none else run v cap cs (-(st.headD 0) :: st.tail))
    else if c = -19 then (if st.length = 0 then none else run v cap cs ((if st.headD 0 = 0 then 1 else 0) :: st.tail))
    else (if st.length < 2 then none else run v cap cs (jn c (st.tail.headD 0) (st.headD 0) :: st.tail.tail))
/-- the code d says x, with D places of the stack -/
def Evl (v : Nat → Int32) (d : List Int32) (D : Nat) (x : Int32) : Prop := ∀ (st : List Int32) (cap : Nat), st.length + D ≤ cap → ∀ e : List Int32, run v cap (d ++ e) st = run v cap e (x :: st)
theorem Evl.up {v : Nat → Int32} {d : List Int32} {D E : Nat} {x : Int32} (h : Evl v d D x) (hd : D ≤ E) : Evl v d E x := fun st cap hc e => h st cap (by omega) e
theorem evl_num {v : Nat → Int32} {w : Nat} (hw : w < 10000) : Evl v [nI w] 1 (nI w) := by
  intro st cap hc e
  show run v cap (nI w :: e) st = _
  rw [run]
  have e1 : ¬ nI w < -6 := by
    rw [Int32.lt_iff_toInt_lt, nI_toInt (by omega), show (-6 : Int32).toInt = -6 by decide]
    omega
  rw [if_pos e1, if_pos (by omega), if_neg (nI_pos (by omega))]
theorem evl_name {v : Nat → Int32} {i : Nat} (hi : i < 6) : Evl v [(-1 : Int32) - nI i] 1 (v i) := by
  intro st cap hc e
  show run v cap (((-1 : Int32) - nI i) :: e) st = _
  rw [run]
  have e1 : ∀ i, i < 6 → ¬ ((-1 : Int32) - nI i) < -6 ∧ ((-1 : Int32) - nI i) < 0 ∧ ((-1 : Int32) - ((-1 : Int32) - nI i)).toNatClampNeg = i := by decide +kernel
  obtain ⟨a1, a2, a3⟩ := e1 i hi
  rw [if_pos a1, if_pos (by omega), if_pos a2, a3]
theorem Evl.neg {v : Nat → Int32} {d : List Int32} {D : Nat} {x : Int32} (h : Evl v d D x) : Evl v (d ++ [-14]) D (-x) := by
  intro st cap hc e
  rw [List.append_assoc, h st cap hc]
  show run v cap ((-14 : Int32) :: e) (x :: st) = _
  rw [run, if_neg (by decide), if_pos rfl, if_neg (by simp)]
  rfl
theorem Evl.inv {v : Nat → Int32} {d : List Int32} {D : Nat} {x : Int32} (h : Evl v d D x) : Evl v (d ++ [-19]) D (if x = 0 then 1 else 0) := by
  intro st cap hc e
  rw [List.append_assoc, h st cap hc]
  show run v cap ((-19 : Int32) :: e) (x :: st) = _
  rw [run, if_neg (by decide), if_neg (by decide), if_pos rfl, if_neg (by simp)]
  rfl
theorem Evl.join {v : Nat → Int32} {c d : List Int32} {D E : Nat} {x y : Int32} {op : Int32} (hc : Evl v c D x) (hd : Evl v d E y) (hE : E + 1 ≤ D) (ho : op < -6 ∧ ¬ op = -14 ∧ ¬ op = -19) : Evl v (c ++ (d ++ [op])) D (jn op x y) := by
  intro st cap hq e
  rw [List.append_assoc, hc st cap hq, List.append_assoc, hd (x :: st) cap (by simp only [List.length_cons]; omega)]
  show run v cap (op :: e) (y :: x :: st) = _
  rw [run, if_neg (fun z => z ho.1), if_neg ho.2.1, if_neg ho.2.2, if_neg (by simp only [List.length_cons]; omega)]
  rfl
theorem opc_op {l : Nat} {t : Int32} (h : ¬ opc l t = 0) : opc l t < -6 ∧ ¬ opc l t = -14 ∧ ¬ opc l t = -19 := by
  unfold opc at h ⊢
  split
  · rename_i a
    rw [if_pos a] at h
    split
    · decide
    · rename_i a2; rw [if_neg a2] at h; exact absurd rfl h
  · rename_i a
    rw [if_neg a] at h
    split
    · rename_i a2
      rw [if_pos a2] at h
      split
      · decide
      · rename_i a3
        rw [if_neg a3] at h
        split
        · decide
        · rename_i a4; rw [if_neg a4] at h; exact absurd rfl h
    · rename_i a2
      rw [if_neg a2] at h
      split
      · rename_i a3
        rw [if_pos a3] at h
        split
        · decide
        · rename_i a4; rw [if_neg a4] at h; exact absurd rfl h
      · rename_i a3
        rw [if_neg a3] at h
        split
        · decide
        · rename_i a4; rw [if_neg a4] at h; exact absurd rfl h
/-- how many places of the stack a level wants -/
abbrev Dl (l o : Nat) : Nat := l + 1 + 5 * (5 - o)
theorem tk_name {t : Int32} (h : ¬ t < 10 ∧ t < 16) : ∃ i : Nat, i < 6 ∧ t = nI (10 + i) ∧ 9 - t = (-1 : Int32) - nI i := by
  obtain ⟨h1, h2⟩ := h
  rw [Int32.lt_iff_toInt_lt] at h1 h2
  rw [show (10 : Int32).toInt = 10 by decide] at h1
  rw [show (16 : Int32).toInt = 16 by decide] at h2
  have k : ∀ i, i < 6 → 9 - nI (10 + i) = (-1 : Int32) - nI i := by decide +kernel
  obtain ⟨i, hi, e⟩ : ∃ i : Nat, i < 6 ∧ t = nI (10 + i) := by
    refine ⟨(t.toInt - 10).toNat, by omega, ?_⟩
    apply Int32.toInt_inj.mp
    rw [nI_toInt (by omega)]
    omega
  exact ⟨i, hi, e, by rw [e]; exact k i hi⟩
section PRS
variable {b : Nat → Int32} {n : Nat}
theorem prs_ok (hb : Bf b n) : ∀ (f l o : Nat) (c : List Int32) (s : TS) (d : List Int32) (s' : TS), prs b f l o c s = .inr (d, s') → Sc b n s → (l ≤ 5 → Sc b n s' ∧ ta s < ta s' ∧ d.length + ta s ≤ ta s' ∧ ∀ v, ∃ x, Evl v d (Dl l o) x) ∧ (7 ≤ l → l ≤ 11 → Sc b n s' ∧ ta s ≤ ta s' ∧ d.length + ta s ≤ ta s' + c.length ∧ ∀ v, (∃ x, Evl v c (Dl (l - 6) o) x) → ∃ x, Evl v d (Dl (l - 6) o) x) := by
  intro f
  induction f with
  | zero => intro l o c s d s' h; cases h
  | succ f ih =>
    intro l o c s d s' h hs
    rw [prs] at h
    by_cases l6 : 6 < l
    · rw [if_pos l6] at h
      refine ⟨fun z => absurd z (by omega), fun _ l11 => ?_⟩
      by_cases c0 : opc (l - 6) (tk s) = 0
      · rw [if_pos c0] at h
        obtain ⟨rfl, rfl⟩ := Prod.mk.inj (Sum.inr.inj h)
        exact ⟨hs, Nat.le_refl _, by omega, fun v hx => hx⟩
      · rw [if_neg c0] at h
        obtain ⟨d1, s1, e1, e2⟩ := pbd_r h
        have h8 := opc_8 c0
        obtain ⟨a1, a2, a3, a4⟩ := (ih _ _ _ _ _ _ e1 (hs.go hb)).1 (by omega)
        obtain ⟨b1, b2, b3, b4⟩ := (ih _ _ _ _ _ _ e2 a1).2 (by omega) l11
        have g := hs.nxlt hb h8
        rw [List.length_append, List.length_append, List.length_singleton] at b3
        refine ⟨b1, by omega, by omega, fun v hx => b4 v ?_⟩
        obtain ⟨x, hx⟩ := hx
        obtain ⟨y, hy⟩ := a4 v
        exact ⟨_, hx.join hy (by show l - 7 + 1 + 5 * (5 - o) + 1 ≤ l - 6 + 1 + 5 * (5 - o); omega) (opc_op c0)⟩
    · rw [if_neg l6] at h
      refine ⟨fun l5 => ?_, fun z => absurd z (by omega)⟩
      by_cases l0 : l = 0
      · rw [if_pos l0] at h
        subst l0
        by_cases c7 : tk s = 7
        · rw [if_pos c7] at h
          obtain ⟨rfl, rfl⟩ := Prod.mk.inj (Sum.inr.inj h)
          have h8 : ¬ tk s = 8 := by rw [c7]; decide
          have g := hs.nxlt hb h8
          have w4 : tw s < 10000 := by
            rcases hs.2 with q | ⟨_, _, q⟩
            · exact absurd q.2.1 h8
            · rcases q with q | q | q | q
              · exfalso
                have := q.2.1
                rw [c7] at this
                exact kwt_7 this.symm
              · exact q.2.2
              · rw [c7] at q; exact absurd q.2 (by decide)
              · rw [c7] at q; exact absurd q.2 (by decide)
          refine ⟨hs.go hb, by omega, by rw [List.length_singleton]; omega, fun v => ⟨_, (evl_num w4).up (by show 1 ≤ 0 + 1 + 5 * (5 - o); omega)⟩⟩
        · rw [if_neg c7] at h
          by_cases cn : ¬ tk s < 10 ∧ tk s < 16
          · rw [if_pos cn] at h
            obtain ⟨rfl, rfl⟩ := Prod.mk.inj (Sum.inr.inj h)
            obtain ⟨i, hi, e1, e2⟩ := tk_name cn
            have h8 : ¬ tk s = 8 := by
              rw [e1]
              exact (by decide +kernel : ∀ i, i < 6 → ¬ nI (10 + i) = 8) i hi
            have g := hs.nxlt hb h8
            refine ⟨hs.go hb, by omega, by rw [List.length_singleton]; omega, fun v => ⟨v i, ?_⟩⟩
            · rw [e2]
              exact (evl_name hi).up (by show 1 ≤ 0 + 1 + 5 * (5 - o); omega)
          · rw [if_neg cn] at h
            by_cases cm : tk s = 45 ∧ o < 5
            · rw [if_pos cm] at h
              obtain ⟨d1, s1, e1, e2⟩ := pbd_r h
              obtain ⟨rfl, rfl⟩ := Prod.mk.inj (Sum.inr.inj e2)
              have g := hs.nxlt hb (by rw [cm.1]; decide)
              obtain ⟨a1, a2, a3, a4⟩ := (ih _ _ _ _ _ _ e1 (hs.go hb)).1 (by omega)
              refine ⟨a1, by omega, by rw [List.length_append, List.length_singleton]; omega, fun v => ?_⟩
              obtain ⟨y, hy⟩ := a4 v
              exact ⟨_, hy.neg.up (by show 0 + 1 + 5 * (5 - (o + 1)) ≤ 0 + 1 + 5 * (5 - o); omega)⟩
            · rw [if_neg cm] at h
              by_cases cp : tk s = 40 ∧ o < 5
              · rw [if_pos cp] at h
                obtain ⟨d1, s1, e1, e2⟩ := pbd_r h
                have g := hs.nxlt hb (by rw [cp.1]; decide)
                obtain ⟨a1, a2, a3, a4⟩ := (ih _ _ _ _ _ _ e1 (hs.go hb)).1 (by omega)
                by_cases c41 : tk s1 = 41
                · rw [if_pos c41] at e2
                  obtain ⟨rfl, rfl⟩ := Prod.mk.inj (Sum.inr.inj e2)
                  have g2 := a1.nxlt hb (by rw [c41]; decide)
                  refine ⟨a1.go hb, by omega, by omega, fun v => ?_⟩
                  obtain ⟨y, hy⟩ := a4 v
                  exact ⟨_, hy.up (by show 5 + 1 + 5 * (5 - (o + 1)) ≤ 0 + 1 + 5 * (5 - o); omega)⟩
                · rw [if_neg c41] at e2; cases e2
              · rw [if_neg cp] at h; cases h
      · rw [if_neg l0] at h
        by_cases l3 : l = 3
        · rw [if_pos l3] at h
          subst l3
          by_cases c6 : tk s = 6
          · rw [if_pos c6] at h
            by_cases o5 : o < 5
            · rw [if_pos o5] at h
              obtain ⟨d1, s1, e1, e2⟩ := pbd_r h
              obtain ⟨rfl, rfl⟩ := Prod.mk.inj (Sum.inr.inj e2)
              have g := hs.nxlt hb (by rw [c6]; decide)
              obtain ⟨a1, a2, a3, a4⟩ := (ih _ _ _ _ _ _ e1 (hs.go hb)).1 (by omega)
              refine ⟨a1, by omega, by rw [List.length_append, List.length_singleton]; omega, fun v => ?_⟩
              obtain ⟨y, hy⟩ := a4 v
              exact ⟨_, hy.inv.up (by show 3 + 1 + 5 * (5 - (o + 1)) ≤ 3 + 1 + 5 * (5 - o); omega)⟩
            · rw [if_neg o5] at h; cases h
          · rw [if_neg c6] at h
            obtain ⟨d1, s1, e1, e2⟩ := pbd_r h
            obtain ⟨a1, a2, a3, a4⟩ := (ih _ _ _ _ _ _ e1 hs).1 (by omega)
            by_cases cc : tk s1 = 60 ∨ tk s1 = 61
            · rw [if_pos cc] at e2
              obtain ⟨d2, s2, e3, e4⟩ := pbd_r e2
              obtain ⟨rfl, rfl⟩ := Prod.mk.inj (Sum.inr.inj e4)
              have g := a1.nxlt hb (by rcases cc with q | q <;> rw [q] <;> decide)
              obtain ⟨b1, b2, b3, b4⟩ := (ih _ _ _ _ _ _ e3 (a1.go hb)).1 (by omega)
              refine ⟨b1, by omega, by rw [List.length_append, List.length_append, List.length_singleton]; omega, fun v => ?_⟩
              obtain ⟨x, hx⟩ := a4 v
              obtain ⟨y, hy⟩ := b4 v
              refine ⟨_, (hx.up (E := Dl 3 o) (by show 2 + 1 + 5 * (5 - o) ≤ 3 + 1 + 5 * (5 - o); omega)).join hy (by show 2 + 1 + 5 * (5 - o) + 1 ≤ 3 + 1 + 5 * (5 - o); omega) ?_⟩
              split <;> decide
            · rw [if_neg cc] at e2
              obtain ⟨rfl, rfl⟩ := Prod.mk.inj (Sum.inr.inj e2)
              refine ⟨a1, a2, a3, fun v => ?_⟩
              obtain ⟨x, hx⟩ := a4 v
              exact ⟨x, hx.up (by show 2 + 1 + 5 * (5 - o) ≤ 3 + 1 + 5 * (5 - o); omega)⟩
        · rw [if_neg l3] at h
          obtain ⟨d1, s1, e1, e2⟩ := pbd_r h
          obtain ⟨a1, a2, a3, a4⟩ := (ih _ _ _ _ _ _ e1 hs).1 (by omega)
          obtain ⟨b1, b2, b3, b4⟩ := (ih _ _ _ _ _ _ e2 a1).2 (by omega) (by omega)
          refine ⟨b1, by omega, by omega, fun v => ?_⟩
          obtain ⟨x, hx⟩ := a4 v
          have e : l + 6 - 6 = l := by omega
          rw [e] at b4
          exact b4 v ⟨x, hx.up (by show l - 1 + 1 + 5 * (5 - o) ≤ l + 1 + 5 * (5 - o); omega)⟩
end PRS
/-- a part: its KEY, E, ; -/
def prt (b : Nat → Int32) (q : Int32) (s : TS) : PR := if tk s = q then pbd (prs b 250 5 0 [] (nx b s)) (fun d s' => if tk s' = 59 then .inr (d, nx b s') else .inl (ta s')) else .inl (ta s)
/-- a TEXT: its FAULT's place, or its three parts -/
def txt (b : Nat → Int32) : Nat ⊕ (List Int32 × List Int32 × List Int32) := match prt b 1 (scn b 0) with
  | .inl a => .inl a
  | .inr q1 => match prt b 2 q1.2 with
    | .inl a => .inl a
    | .inr q2 => match prt b 3 q2.2 with
      | .inl a => .inl a
      | .inr q3 => if tk q3.2 = 8 then .inr (q1.1, q2.1, q3.1) else .inl (ta q3.2)
theorem prt_ok {b : Nat → Int32} {n : Nat} (hb : Bf b n) {q : Int32} (hq : ¬ q = 8) {s : TS} {d : List Int32} {s' : TS} (h : prt b q s = .inr (d, s')) (hs : Sc b n s) : Sc b n s' ∧ d.length + ta s ≤ ta s' ∧ ∀ v, ∃ x, Evl v d 31 x := by
  unfold prt at h
  by_cases c : tk s = q
  · rw [if_pos c] at h
    obtain ⟨d1, s1, e1, e2⟩ := pbd_r h
    have g := hs.nxlt hb (by rw [c]; exact hq)
    obtain ⟨a1, a2, a3, a4⟩ := (prs_ok hb _ _ _ _ _ _ _ e1 (hs.go hb)).1 (by omega)
    by_cases c2 : tk s1 = 59
    · rw [if_pos c2] at e2
      obtain ⟨rfl, rfl⟩ := Prod.mk.inj (Sum.inr.inj e2)
      have g2 := a1.nxlt hb (by rw [c2]; decide)
      exact ⟨a1.go hb, by omega, a4⟩
    · rw [if_neg c2] at e2; cases e2
  · rw [if_neg c] at h; cases h
