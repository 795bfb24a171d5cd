/-! a club, plainly; and what the class's Club does to it -/
abbrev CS : Type := Nat × (Nat → Int32) × (Nat → Int32) × (Nat → Int32) × (Nat → Int32) × (Nat → Nat) × Nat × Int32 × Nat
abbrev cN (κ : CS) : Nat := κ.1
abbrev cK (κ : CS) : Nat → Int32 := κ.2.1
abbrev cU (κ : CS) : Nat → Int32 := κ.2.2.1
abbrev cS (κ : CS) : Nat → Int32 := κ.2.2.2.1
abbrev cW (κ : CS) : Nat → Int32 := κ.2.2.2.2.1
abbrev cH (κ : CS) : Nat → Nat := κ.2.2.2.2.2.1
abbrev cL (κ : CS) : Nat := κ.2.2.2.2.2.2.1
abbrev cR (κ : CS) : Int32 := κ.2.2.2.2.2.2.2.1
abbrev cT (κ : CS) : Nat := κ.2.2.2.2.2.2.2.2
abbrev TV : Type := Nat → Nat → (Nat → Int32) → Int32
def IC (κ : CS) : Prop := cN κ ≤ 6 ∧ (∀ p, cH κ p < 256) ∧ cL κ < 256 ∧ (∀ p q, p ≠ q → cH κ p &&& cH κ q = 0) ∧ (∀ p, cH κ p &&& cL κ = 0) ∧ ∀ p, cN κ ≤ p → cH κ p = 0
def vals (κ : CS) (p q : Nat) : Nat → Int32 := fun i => match i with
  | 0 => cS κ p
  | 1 => nI (pc8 (cH κ p))
  | 2 => cU κ p
  | 3 => cS κ q
  | 4 => cR κ
  | _ => nI (pc8 (cH κ q) + pc8 (cL κ))
def thrS (tv : TV) (κ : CS) (p q : Nat) : Bool :=
  if cK κ p = 1 then (decide (tv (cT κ) 1 (vals κ p q) ≠ 0) && decide (pc8 (cH κ p) < 4)) else if cK κ p = 2 then false else if cK κ p = 4 then false
  else if cK κ p = 3 then ((decide (tv (cT κ) 1 (vals κ p q) ≠ 0) && decide (pc8 (cH κ p) < 4)) || decide (cH κ q ≠ 0)) else decide (tv (cT κ) 1 (vals κ p q) ≠ 0)
def plyF (κ : CS) (p : Nat) (v : Int32) : Int32 :=
  if cK κ p = 1 then 2 * v else if cK κ p = 2 then v / 2 else if cK κ p = 3 then (if cH κ p = 0 then 2 * v + cU κ p else 2 * v)
  else if cK κ p = 4 then (if cR κ - cR κ / 10 * 10 = cU κ p then v / 2 + 50 else v / 2) else if cK κ p = 5 then 0 else v
def powS (tv : TV) (κ : CS) (p q : Nat) : Int32 := if thrS tv κ p q = true then -1 else bnd (plyF κ p (bnd (tv (cT κ) 0 (vals κ p q)) 0 99)) 0 999
def tirF (κ : CS) (p : Nat) (won : Bool) (v : Int32) : Int32 :=
  if cK κ p = 1 then (if won = true then 0 else v) else if cK κ p = 2 then -v else if cK κ p = 3 then (if won = true then 1 else v + 1)
  else if cK κ p = 4 then -v - 3 else if cK κ p = 5 then 0 else v
def tirS (tv : TV) (κ : CS) (p q : Nat) (won : Bool) : Int32 := bnd (tirF κ p won (bnd (tv (cT κ) 2 (vals κ p q)) (-9) 9)) (-99) 99
/-- who wins: 0 the one, 1 the other, 2 nobody -/
def whoS (tv : TV) (κ : CS) (p q : Nat) : Nat := if powS tv κ p q = powS tv κ q p then 2 else if powS tv κ p q ≤ powS tv κ q p then 1 else 0
def whoI (w p q : Nat) : Int32 := if w = 2 then -1 else if w = 1 then nI q else nI p
def losS (κ : CS) (l w : Nat) : CS := (cN κ, cK κ, cU κ, cS κ, fun j => if j = w then bnd (cW κ w + 1) 0 999 else cW κ j, fun j => if j = w then 0 else if j = l then cH κ l ||| (cH κ w ||| cL κ) else cH κ j, 0, cR κ, cT κ)
def draS (κ : CS) (p q : Nat) : CS := (cN κ, cK κ, cU κ, cS κ, cW κ, fun j => if j = q then 0 else if j = p then 0 else cH κ j, cL κ ||| (cH κ p ||| cH κ q), cR κ, cT κ)
def strS (κ : CS) (p q : Nat) (t1 t2 : Int32) : CS := (cN κ, cK κ, cU κ, fun j => if j = q then bnd (cS κ q - t2) 0 99 else if j = p then bnd (cS κ p - t1) 0 99 else cS κ j, cW κ, cH κ, cL κ, cR κ + 1, cT κ)
def meetS (tv : TV) (κ : CS) (p q : Nat) : CS :=
  strS (if whoS tv κ p q = 2 then draS κ p q else if whoS tv κ p q = 1 then losS κ p q else losS κ q p) p q (tirS tv κ p q (decide (whoS tv κ p q = 0))) (tirS tv κ q p (decide (whoS tv κ p q = 1)))
def RelX (b : Nat) (κ : CS) (X : S0) : Prop := X b 7 = nI (cN κ) ∧ X b 6 = nI (cL κ) ∧ X b 8 = cR κ ∧ X b 9 = nI (cT κ) ∧ (∀ p, p < 6 → X (b + 5) p = nI (cH κ p)) ∧ ∀ p, p < cN κ → X (b + 1) p = cK κ p ∧ X (b + 2) p = cU κ p ∧ X (b + 3) p = cS κ p ∧ X (b + 4) p = cW κ p
/-- all as it was but the rows of work -/
def FX (X X' : S0) : Prop := ∀ k, k ≠ 3 → k ≠ 4 → X' k = X k
/-- all as it was but the rows of work and one club -/
def FXb (b : Nat) (X X' : S0) : Prop := ∀ k, k ≠ 3 → k ≠ 4 → (k < b ∨ b + 5 < k) → X' k = X k
theorem FX.rf {X : S0} : FX X X := fun _ _ _ => rfl
theorem FX.tr {X Y Z : S0} (h : FX X Y) (h2 : FX Y Z) : FX X Z := fun k a b => (h2 k a b).trans (h k a b)
theorem FX.b {b : Nat} {X X' : S0} (h : FX X X') : FXb b X X' := fun k h1 h2 _ => h k h1 h2
theorem FXb.tr {b : Nat} {X Y Z : S0} (h : FXb b X Y) (h2 : FXb b Y Z) : FXb b X Z := fun k a c d => (h2 k a c d).trans (h k a c d)
theorem RelX.fr {b : Nat} {κ : CS} {X X' : S0} (hb : 10 ≤ b) (h : RelX b κ X) (hf : FX X X') : RelX b κ X' := by
  have e : ∀ i, X' (b + i) = X (b + i) := fun i => hf _ (by omega) (by omega)
  have e0 : X' b = X b := e 0
  unfold RelX
  rw [e0, e 1, e 2, e 3, e 4, e 5]
  exact h
/-- the texts, as the class works them out -/
def TX (tv : TV) (nT : Nat) (g : GX) (X : S0) : Prop := ∀ r, r < nT → ∀ part, part < 3 → ∀ (G : GX) (X' : S0) (v : Nat → Int32) (Q : Int32 → S0 → Prop), (r < g.2 → r < G.2) → G.1 (66 + 3 * r) = g.1 (66 + 3 * r) → (∀ k, 66 + 3 * r ≤ k → k ≤ 66 + 3 * r + 2 → X' k = X k) → X' 2 r = X 2 r → (∀ i, i < 6 → X' 3 i = v i) → (∀ X'' : S0, (∀ k, k ≠ 4 → X'' k = X' k) → Q (tv r part v) X'') → w4_valueOf G X' (nI r) (nI part) Q
theorem TX.fr {tv : TV} {nT : Nat} {g : GX} {X X' : S0} (h : TX tv nT g X) (h1 : ∀ k, 66 ≤ k → X' k = X k) (h2 : X' 2 = X 2) : TX tv nT g X' :=
  fun r hr part hp G Y v Q z1 z2 a b c d => h r hr part hp G Y v Q z1 z2 (fun k hk hk2 => (a k hk hk2).trans (h1 k (by omega))) (b.trans (congrFun h2 r)) c d
theorem up_s {M : S0} {k j : Nat} {x : Int32} : up M k j x k j = x := by simp [up]
theorem up_j {M : S0} {k j j' : Nat} {x : Int32} (h : j' ≠ j) : up M k j x k j' = M k j' := by simp [up, h]
theorem up_k {M : S0} {k k' j j' : Nat} {x : Int32} (h : k' ≠ k) : up M k j x k' j' = M k' j' := by simp [up, h]
theorem up_r {M : S0} {k k' j : Nat} {x : Int32} (h : k' ≠ k) : up M k j x k' = M k' := by funext j'; simp [up, h]
section XC
variable {g : GX} {b : Nat} {X : S0} {κ : CS} {tv : TV} {nT : Nat}
theorem x_bc {x : Int32} {Q : Int32 → S0 → Prop} (h : Q (bcF x) X) : wb6_bitCount_0f7a4 g X x Q := by
  unfold wb6_bitCount_0f7a4
  rintro _ rfl _ rfl _ rfl _ rfl _ rfl
  exact h
theorem x_within {p1 p2 p3 : Int32} {Q : Int32 → S0 → Prop} (h : Q (if ¬ p1 < p2 ∧ ¬ p3 < p1 then 1 else 0) X) : w5_isWithin g X p1 p2 p3 Q := by
  unfold w5_isWithin
  refine ⟨fun c1 => ?_, fun c1 => ⟨fun c2 => ?_, fun c2 => ?_⟩⟩
  · rw [if_neg (fun z => z.1 c1)] at h; exact h
  · rw [if_neg (fun z => z.2 c2)] at h; exact h
  · rw [if_pos ⟨c1, c2⟩] at h; exact h
theorem x_bounded {p1 p2 p3 : Int32} {Q : Int32 → S0 → Prop} (h : Q (bnd p1 p2 p3) X) : w5_bounded g X p1 p2 p3 Q := by
  unfold w5_bounded
  unfold bnd at h
  refine ⟨fun c1 => ⟨fun c2 => ?_, fun c2 => ?_⟩, fun c1 => ?_⟩
  · rw [if_neg (Int32.not_lt.mpr c1), if_neg (Int32.not_lt.mpr c2)] at h; exact h
  · rw [if_neg (Int32.not_lt.mpr c1), if_pos (Int32.not_le.mp c2)] at h; exact h
  · rw [if_pos (Int32.not_le.mp c1)] at h; exact h
theorem six_le {n : Nat} {p : Int32} (h6 : n ≤ 6) (c : ¬ nI n ≤ p) : ¬ (6 : Int32) ≤ p := by
  intro z
  exact c (Int32.le_trans (nI_le (b := 6) h6 (by decide)) z)
theorem x_isPlayer {p : Int32} {Q : Int32 → S0 → Prop} {n : Nat} (hn : X b 7 = nI n) (h6 : n ≤ 6) (h : Q (if isP n p then 1 else 0) X) : w0_isPlayer g b X p Q := by
  unfold w0_isPlayer
  rw [hn]
  refine ⟨fun c1 => ?_, fun c1 => ⟨fun c2 => ?_, fun c2 => br_f (six_le h6 c2) ?_⟩⟩
  · rw [if_neg (fun z => z.1 c1)] at h; exact h
  · rw [if_neg (fun z => Int32.not_lt.mpr c2 z.2)] at h; exact h
  · rw [if_pos ⟨c1, Int32.not_le.mp c2⟩] at h; exact h
theorem x_areTwo {p q : Int32} {Q : Int32 → S0 → Prop} {n : Nat} (hn : X b 7 = nI n) (h6 : n ≤ 6) (h : Q (if isP n p ∧ isP n q ∧ ¬ p = q then 1 else 0) X) : w0_areTwo g b X p q Q := by
  unfold w0_areTwo
  rw [hn]
  refine ⟨fun c1 => ?_, fun c1 => ⟨fun c2 => ?_, fun c2 => br_f (six_le h6 c2) ⟨fun c3 => ?_, fun c3 => ⟨fun c4 => ?_, fun c4 => br_f (six_le h6 c4) ⟨fun c5 => ?_, fun c5 => ?_⟩⟩⟩⟩⟩
  · rw [if_neg (fun z => z.1.1 c1)] at h; exact h
  · rw [if_neg (fun z => Int32.not_lt.mpr c2 z.1.2)] at h; exact h
  · rw [if_neg (fun z => z.2.1.1 c3)] at h; exact h
  · rw [if_neg (fun z => Int32.not_lt.mpr c4 z.2.1.2)] at h; exact h
  · rw [if_neg (fun z => z.2.2 c5)] at h; exact h
  · rw [if_pos ⟨⟨c1, Int32.not_le.mp c2⟩, ⟨c3, Int32.not_le.mp c4⟩, c5⟩] at h; exact h
theorem v60 : vp_in (0 : Int32) 6 := vpl 0 6 (by decide) (by decide)
theorem v61 : vp_in (1 : Int32) 6 := vpl 1 6 (by decide) (by decide)
theorem v62 : vp_in (2 : Int32) 6 := vpl 2 6 (by decide) (by decide)
theorem v63 : vp_in (3 : Int32) 6 := vpl 3 6 (by decide) (by decide)
theorem v64 : vp_in (4 : Int32) 6 := vpl 4 6 (by decide) (by decide)
theorem v65 : vp_in (5 : Int32) 6 := vpl 5 6 (by decide) (by decide)
theorem x_nameValues {p q : Nat} {Q : S0 → Prop} (hb : 10 ≤ b) (hR : RelX b κ X) (hI : IC κ) (hp : p < cN κ) (hq : q < cN κ) (h : ∀ X' : S0, (∀ k, k ≠ 3 → X' k = X k) → (∀ i, i < 6 → X' 3 i = vals κ p q i) → Q X') : w0_nameValues g b X (nI p) (nI q) Q := by
  obtain ⟨i1, i2, i3, i4, i5, i6⟩ := hI
  obtain ⟨r1, r2, r3, r4, r5, r6⟩ := hR
  have vp := vpl p 6 (by omega) (by omega)
  have vq := vpl q 6 (by omega) (by omega)
  have ep := nI_clamp (n := p) (by omega)
  have eq := nI_clamp (n := q) (by omega)
  unfold w0_nameValues
  refine ⟨vp, v60, ?_⟩
  rintro _ rfl
  refine ⟨vp, x_bc ⟨v61, ?_⟩⟩
  rintro _ rfl
  refine ⟨vp, v62, ?_⟩
  rintro _ rfl
  refine ⟨vq, v63, ?_⟩
  rintro _ rfl
  refine ⟨v64, ?_⟩
  rintro _ rfl
  refine ⟨vq, x_bc ⟨v65, ?_⟩⟩
  rintro _ rfl
  refine h _ (fun k hk => ?_) (fun i hi => ?_)
  · simp only [up_r hk]
  · have e1 : bcF (X (b + 5) p) = nI (pc8 (cH κ p)) := by rw [r5 p (by omega)]; exact bcF_pc _ (i2 p)
    have e2 : bcF (X (b + 5) q ||| X b 6) = nI (pc8 (cH κ q) + pc8 (cL κ)) := by
      rw [r5 q (by omega), r2, nx_or, bcF_pc _ (or_lt (i2 q) i3), pc8_or (i5 q)]
    obtain ⟨p1, p2, p3, p4⟩ := r6 p hp
    obtain ⟨q1, q2, q3, q4⟩ := r6 q hq
    match i, hi with
    | 0, _ => simp (disch := omega) only [cl0, cl1, cl2, cl3, cl4, cl5, up_j, up_k, up_s, ep, p3, vals]
    | 1, _ => simp (disch := omega) only [cl0, cl1, cl2, cl3, cl4, cl5, up_j, up_k, up_s, ep, e1, vals]
    | 2, _ => simp (disch := omega) only [cl0, cl1, cl2, cl3, cl4, cl5, up_j, up_k, up_s, ep, p2, vals]
    | 3, _ => simp (disch := omega) only [cl0, cl1, cl2, cl3, cl4, cl5, up_j, up_k, up_s, eq, q3, vals]
    | 4, _ => simp (disch := omega) only [cl0, cl1, cl2, cl3, cl4, cl5, up_j, up_k, up_s, r3, vals]
    | 5, _ => simp (disch := omega) only [cl0, cl1, cl2, cl3, cl4, cl5, up_j, up_k, up_s, eq, e2, vals]
theorem ti_eq {x : Int32} {z : Int} {y : Int32} (h : x.toInt = z) (hy : y.toInt = z) : x = y := Int32.toInt_inj.mp (h.trans hy.symm)
theorem ti_ne {x y : Int32} {lo hi z : Int} (h : x.toInt < lo ∨ hi < x.toInt) (hy : y.toInt = z) (h2 : lo ≤ z ∧ z ≤ hi) : ¬ x = y := by
  rintro rfl
  omega
theorem x_playsBy {p : Nat} {v : Int32} {Q : Int32 → S0 → Prop} (hR : RelX b κ X) (hI : IC κ) (hp : p < cN κ) (h : Q (plyF κ p v) X) : w0_playsBy g b X v (nI p) Q := by
  obtain ⟨i1, i2, i3, i4, i5, i6⟩ := hI
  obtain ⟨r1, r2, r3, r4, r5, r6⟩ := hR
  have vp := vpl p 6 (by omega) (by omega)
  obtain ⟨p1, p2, p3, p4⟩ := r6 p hp
  unfold w0_playsBy
  rw [nI_clamp (n := p) (by omega), p1, p2, r3, r5 p (by omega)]
  have ez : nI (cH κ p) = 0 ↔ cH κ p = 0 := nI_eq (b := 0) (Nat.lt_trans (i2 p) (by decide)) (by decide)
  unfold plyF at h
  refine ⟨vp, fun c => ?_, fun c => ?_, fun c => ⟨vp, fun c2 => ?_, fun c2 => ⟨vp, ?_⟩⟩, fun c => ⟨vp, fun c2 => ?_, fun c2 => ?_⟩, fun c => ?_, fun c => ?_⟩
  · rw [if_pos (ti_eq (y := 1) c (by decide))] at h; exact h
  · rw [ti_eq (y := 2) c (by decide)] at h; exact h
  · rw [ti_eq (y := 3) c (by decide)] at h
    rw [if_neg (by decide), if_neg (by decide), if_pos rfl, if_neg (fun z => c2 (ez.mpr z))] at h
    exact h
  · rw [ti_eq (y := 3) c (by decide)] at h
    rw [if_neg (by decide), if_neg (by decide), if_pos rfl, if_pos (ez.mp c2)] at h
    exact h
  · rw [ti_eq (y := 4) c (by decide)] at h
    rw [if_neg (by decide), if_neg (by decide), if_neg (by decide), if_pos rfl, if_neg c2] at h
    exact h
  · rw [ti_eq (y := 4) c (by decide)] at h
    rw [if_neg (by decide), if_neg (by decide), if_neg (by decide), if_pos rfl, if_pos c2] at h
    exact h
  · rw [ti_eq (y := 5) c (by decide)] at h
    rw [if_neg (by decide), if_neg (by decide), if_neg (by decide), if_neg (by decide), if_pos rfl] at h
    exact h
  · rw [if_neg (ti_ne (y := 1) c (z := 1) (by decide) (by decide)), if_neg (ti_ne (y := 2) c (z := 2) (by decide) (by decide)), if_neg (ti_ne (y := 3) c (z := 3) (by decide) (by decide)), if_neg (ti_ne (y := 4) c (z := 4) (by decide) (by decide)), if_neg (ti_ne (y := 5) c (z := 5) (by decide) (by decide))] at h
    exact h
theorem x_tiresBy {p : Nat} {v : Int32} {won : Bool} {Q : Int32 → S0 → Prop} (hR : RelX b κ X) (hI : IC κ) (hp : p < cN κ) (h : Q (tirF κ p won v) X) : w0_tiresBy g b X v (nI p) (if won = true then 1 else 0) Q := by
  obtain ⟨i1, i2, i3, i4, i5, i6⟩ := hI
  obtain ⟨r1, r2, r3, r4, r5, r6⟩ := hR
  have vp := vpl p 6 (by omega) (by omega)
  obtain ⟨p1, p2, p3, p4⟩ := r6 p hp
  unfold w0_tiresBy
  rw [nI_clamp (n := p) (by omega), p1]
  have ew : ((if won = true then (1 : Int32) else 0) = 0) ↔ ¬ won = true := by cases won <;> decide
  rw [ew]
  unfold tirF at h
  refine ⟨vp, fun c => ⟨fun c2 => ?_, fun c2 => ?_⟩, fun c => ?_, fun c => ⟨fun c2 => ?_, fun c2 => ?_⟩, fun c => ?_, fun c => ?_, fun c => ?_⟩
  · rw [if_pos (ti_eq (y := 1) c (by decide)), if_neg c2] at h; exact h
  · rw [if_pos (ti_eq (y := 1) c (by decide)), if_pos (Classical.not_not.mp c2)] at h; exact h
  · rw [ti_eq (y := 2) c (by decide)] at h; exact h
  · rw [ti_eq (y := 3) c (by decide)] at h
    rw [if_neg (by decide), if_neg (by decide), if_pos rfl, if_neg c2] at h
    exact h
  · rw [ti_eq (y := 3) c (by decide)] at h
    rw [if_neg (by decide), if_neg (by decide), if_pos rfl, if_pos (Classical.not_not.mp c2)] at h
    exact h
  · rw [ti_eq (y := 4) c (by decide)] at h
    exact h
  · rw [ti_eq (y := 5) c (by decide)] at h
    exact h
  · rw [if_neg (ti_ne (y := 1) c (z := 1) (by decide) (by decide)), if_neg (ti_ne (y := 2) c (z := 2) (by decide) (by decide)), if_neg (ti_ne (y := 3) c (z := 3) (by decide) (by decide)), if_neg (ti_ne (y := 4) c (z := 4) (by decide) (by decide)), if_neg (ti_ne (y := 5) c (z := 5) (by decide) (by decide))] at h
    exact h
/-- whether one throws, of what throws told -/
def thrF (κ : CS) (p q : Nat) (yes : Bool) : Bool :=
  if cK κ p = 1 then (yes && decide (pc8 (cH κ p) < 4)) else if cK κ p = 2 then false else if cK κ p = 4 then false
  else if cK κ p = 3 then ((yes && decide (pc8 (cH κ p) < 4)) || decide (cH κ q ≠ 0)) else yes
theorem thrS_F {p q : Nat} : thrS tv κ p q = thrF κ p q (decide (tv (cT κ) 1 (vals κ p q) ≠ 0)) := rfl
end XC
