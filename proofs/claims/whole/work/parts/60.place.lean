/-! where a THING is, and where it comes -/
theorem bitv : ∀ h, h < 256 → ∀ t, t < 8 → ((nI h >>> (nI t &&& 31)) &&& 1) = (if h.testBit t = true then 1 else 0) := by decide +kernel
theorem clrv : ∀ t, t < 8 → ∀ x, x < 256 → nI x &&& (((1 : Int32) <<< (nI t &&& 31)) ^^^ (-1)) = nI (x &&& (255 - 2 ^ t)) := by decide +kernel
theorem setv : ∀ t, t < 8 → ∀ x, x < 256 → nI x ||| ((1 : Int32) <<< (nI t &&& 31)) = nI (x ||| 2 ^ t) := by decide +kernel
theorem tw_dis : ∀ t, t < 8 → 2 ^ t &&& (255 - 2 ^ t) = 0 := by decide
theorem tw_lt : ∀ t, t < 8 → 2 ^ t < 256 := by decide
def whrF (h : Nat → Nat) (t : Nat) : Nat → Nat → Int32
  | 0, _ => -1
  | f + 1, i => if (h i).testBit t = true then nI i else whrF h t f (i + 1)
theorem whr_z {h : Nat → Nat} {t : Nat} : ∀ (f i : Nat), (∀ p, i ≤ p → h p = 0) → whrF h t f i = -1 := by
  intro f
  induction f with
  | zero => intro i _; rfl
  | succ f ih =>
    intro i hz
    rw [whrF, hz i (Nat.le_refl _), if_neg (by simp)]
    exact ih (i + 1) (fun p hp => hz p (by omega))
theorem whr_n {h : Nat → Nat} {t n : Nat} (hz : ∀ p, n ≤ p → h p = 0) : ∀ (f i m : Nat), i + f = n → whrF h t (f + m) i = whrF h t f i := by
  intro f
  induction f with
  | zero =>
    intro i m e
    rw [Nat.zero_add]
    exact whr_z m i (fun p hp => hz p (by omega))
  | succ f ih =>
    intro i m e
    rw [show f + 1 + m = (f + m) + 1 by omega, whrF, whrF, ih (i + 1) m (by omega)]
/-- a THING comes to one, or to THE HALL -/
def brS (κ : CS) (t : Nat) (o : Option Nat) : CS := (cN κ, cK κ, cU κ, cS κ, cW κ, fun j => if o = some j then (cH κ j &&& (255 - 2 ^ t)) ||| 2 ^ t else cH κ j &&& (255 - 2 ^ t), (if o = none then (cL κ &&& (255 - 2 ^ t)) ||| 2 ^ t else cL κ &&& (255 - 2 ^ t)), cR κ, cT κ)
theorem and_dis {x y m : Nat} (h : x &&& y = 0) : (x &&& m) &&& (y &&& m) = 0 := by
  apply Nat.eq_of_testBit_eq
  intro i
  have e1 : (x &&& y).testBit i = false := by rw [h]; simp
  rw [Nat.testBit_and] at e1
  rw [Nat.testBit_and, Nat.testBit_and, Nat.testBit_and, Nat.zero_testBit]
  revert e1
  cases x.testBit i <;> cases y.testBit i <;> cases m.testBit i <;> simp
theorem and_dis2 {b y m : Nat} (h : b &&& m = 0) : b &&& (y &&& m) = 0 := by
  apply Nat.eq_of_testBit_eq
  intro i
  have e1 : (b &&& m).testBit i = false := by rw [h]; simp
  rw [Nat.testBit_and] at e1
  rw [Nat.testBit_and, Nat.testBit_and, Nat.zero_testBit]
  revert e1
  cases b.testBit i <;> cases y.testBit i <;> cases m.testBit i <;> simp
theorem and_lt {x m : Nat} (h : x < 256) : x &&& m < 256 := Nat.lt_of_le_of_lt Nat.and_le_left h
theorem ic_br {κ : CS} {t : Nat} {o : Option Nat} (hI : IC κ) (ht : t < 8) (ho : ∀ p, o = some p → p < cN κ) : IC (brS κ t o) := by
  obtain ⟨i1, i2, i3, i4, i5, i6⟩ := hI
  have d := tw_dis t ht
  refine ⟨i1, fun p => ?_, ?_, fun p q hpq => ?_, fun p => ?_, fun p hp => ?_⟩
  · show (if o = some p then _ else _) < 256
    split
    · exact or_lt (and_lt (i2 p)) (tw_lt t ht)
    · exact and_lt (i2 p)
  · show (if o = none then _ else _) < 256
    split
    · exact or_lt (and_lt i3) (tw_lt t ht)
    · exact and_lt i3
  · show (if o = some p then (cH κ p &&& (255 - 2 ^ t)) ||| 2 ^ t else cH κ p &&& (255 - 2 ^ t)) &&& (if o = some q then (cH κ q &&& (255 - 2 ^ t)) ||| 2 ^ t else cH κ q &&& (255 - 2 ^ t)) = 0
    by_cases c1 : o = some p
    · rw [if_pos c1, if_neg (fun e => hpq (Option.some.inj (c1.symm.trans e)))]
      exact or_dis (and_dis (i4 p q hpq)) (and_dis2 d)
    · rw [if_neg c1]
      by_cases c2 : o = some q
      · rw [if_pos c2]
        exact land_c (or_dis (and_dis (i4 q p (fun e => hpq e.symm))) (and_dis2 d))
      · rw [if_neg c2]; exact and_dis (i4 p q hpq)
  · show (if o = some p then (cH κ p &&& (255 - 2 ^ t)) ||| 2 ^ t else cH κ p &&& (255 - 2 ^ t)) &&& (if o = none then (cL κ &&& (255 - 2 ^ t)) ||| 2 ^ t else cL κ &&& (255 - 2 ^ t)) = 0
    cases o with
    | none =>
      rw [if_neg (by simp), if_pos rfl]
      exact land_c (or_dis (land_c (and_dis (i5 p))) (and_dis2 d))
    | some q =>
      rw [if_neg (show ¬ (some q = none) by simp)]
      by_cases c : some q = some p
      · rw [if_pos c]; exact or_dis (and_dis (i5 p)) (and_dis2 d)
      · rw [if_neg c]; exact and_dis (i5 p)
  · have hp : cN κ ≤ p := hp
    show (if o = some p then (cH κ p &&& (255 - 2 ^ t)) ||| 2 ^ t else cH κ p &&& (255 - 2 ^ t)) = 0
    rw [if_neg (fun e => by have := ho p e; omega), i6 p hp]
    exact Nat.zero_and _
/-- whom a number names: a player, or nobody -/
def toS (o : Option Nat) : Int32 := match o with
  | none => -1
  | some p => nI p
section PL
variable {g : GX} {b : Nat} {X M : S0} {κ : CS} {tv : TV} {nT : Nat}
theorem x_placeOf_b {t : Nat} {Q : Int32 → S0 → Prop} (hR : RelX b κ X) (hI : IC κ) (ht : t < 8) : ∀ (f i n : Nat), i + f = 6 → f < n → Q (whrF (cH κ) t f i) X → w0_placeOf_b2 g b Q n X (nI t) (nI i) := by
  intro f
  induction f with
  | zero =>
    intro i n e hn h
    cases n with
    | zero => omega
    | succ n =>
      rw [w0_placeOf_b2]
      exact br_t (nI_le (a := 6) (by omega) (by omega)) h
  | succ f ih =>
    intro i n e hn h
    cases n with
    | zero => omega
    | succ n =>
      rw [w0_placeOf_b2]
      refine br_f (nI_ge (b := 6) (by omega) (by decide)) ⟨vpl _ _ (by omega) (by decide), ?_⟩
      rw [nI_clamp (n := i) (by omega), hR.2.2.2.2.1 i (by omega), bitv _ (hI.2.1 i) t ht]
      rw [whrF] at h
      rw [b01]
      refine ⟨fun c => ?_, fun c => ?_⟩
      · rintro _ rfl
        rw [nI_1]
        rw [if_neg c] at h
        exact ih (i + 1) n (by omega) (by omega) h
      · rw [if_pos (Classical.not_not.mp c)] at h
        exact h
theorem x_placeOf {t : Nat} {Q : Int32 → S0 → Prop} (hR : RelX b κ X) (hI : IC κ) (ht : t < 8) (h : Q (whrF (cH κ) t (cN κ) 0) X) : w0_placeOf g b X (nI t) Q := by
  unfold w0_placeOf
  refine ⟨7, x_placeOf_b hR hI ht 6 0 7 rfl (by decide) ?_⟩
  have e : whrF (cH κ) t 6 0 = whrF (cH κ) t (cN κ) 0 := by
    have i1 := hI.1
    rw [show 6 = cN κ + (6 - cN κ) by omega]
    exact whr_n hI.2.2.2.2.2 (cN κ) 0 _ (Nat.zero_add _)
  rw [e]
  exact h
theorem m_whereIs_b {t : Nat} {Q : Int32 → S0 → Prop} (hR : RelM κ M) (hI : IC κ) (ht : t < 8) : ∀ (f i n : Nat), i + f = cN κ → f < n → Q (whrF (cH κ) t f i) M → w6_whereIs_b2 Q n M (nI t) (nI i) := by
  have i1 := hI.1
  intro f
  induction f with
  | zero =>
    intro i n e hn h
    cases n with
    | zero => omega
    | succ n =>
      rw [w6_whereIs_b2, hR.1]
      exact br_t (nI_le (by omega) (by omega)) h
  | succ f ih =>
    intro i n e hn h
    cases n with
    | zero => omega
    | succ n =>
      rw [w6_whereIs_b2, hR.1, rw3]
      refine br_f (nI_ge (by omega) (by omega)) ⟨vpl _ _ (by omega) (by decide), ?_⟩
      rw [nI_clamp (n := 4 * i + 3) (by omega), (hR.2.2.2.2 i (by omega)).2.2.2.2, bitv _ (hI.2.1 i) t ht]
      rw [whrF] at h
      have e1 : ((if (cH κ i).testBit t = true then (1 : Int32) else 0) = 1) ↔ (cH κ i).testBit t = true := by
        by_cases c : (cH κ i).testBit t = true
        · rw [if_pos c]; exact ⟨fun _ => c, fun _ => rfl⟩
        · rw [if_neg c]; exact ⟨fun z => absurd z (by decide), fun z => absurd z c⟩
      rw [e1]
      refine ⟨fun c => ?_, fun c => ?_⟩
      · rintro _ rfl
        rw [nI_1]
        rw [if_neg c] at h
        exact ih (i + 1) n (by omega) (by omega) h
      · rw [if_pos c] at h
        exact h
theorem m_whereIs {t : Nat} {Q : Int32 → S0 → Prop} (hR : RelM κ M) (hI : IC κ) (ht : t < 8) (h : Q (whrF (cH κ) t (cN κ) 0) M) : w6_whereIs M (nI t) Q := by
  unfold w6_whereIs
  exact ⟨cN κ + 1, m_whereIs_b hR hI ht (cN κ) 0 _ (Nat.zero_add _) (Nat.lt_succ_self _) h⟩
theorem x_bring_b {t : Nat} {o : Option Nat} {Q : S0 → Prop} (hb : 10 ≤ b) (hI : IC κ) (ht : t < 8) (ho : ∀ p, o = some p → p < cN κ) (X0 : S0) (hR : RelX b κ X0) (h : ∀ X' : S0, FXb b X0 X' → RelX b (brS κ t o) X' → Q X') : ∀ (f i n : Nat) (Y : S0), i + f = 6 → f < n → (∀ k j, k ≠ b + 5 → (k ≠ b ∨ j ≠ 6) → Y k j = X0 k j) → Y b 6 = nI (cL κ &&& (255 - 2 ^ t)) → (∀ p, p < 6 → Y (b + 5) p = if p < i then nI (cH κ p &&& (255 - 2 ^ t)) else nI (cH κ p)) → w0_bring_b19 g b Q n Y (toS o) ((1 : Int32) <<< (nI t &&& 31)) (nI i) := by
  have i1 := hI.1
  intro f
  induction f with
  | zero =>
    intro i n Y e hn f1 f2 f3
    cases n with
    | zero => omega
    | succ n =>
      rw [w0_bring_b19]
      obtain ⟨r1, r2, r3, r4, r5, r6⟩ := hR
      refine br_t (nI_le (a := 6) (by omega) (by omega)) (x_isPlayer (n := cN κ) (by rw [f1 b 7 (by omega) (by omega)]; exact r1) i1 ?_)
      rw [b01]
      have fin : ∀ Z : S0, (∀ k j, k ≠ b + 5 → (k ≠ b ∨ j ≠ 6) → Z k j = X0 k j) → Z b 6 = nI (cL (brS κ t o)) → (∀ p, p < 6 → Z (b + 5) p = nI (cH (brS κ t o) p)) → Q Z := by
        intro Z a1 a2 a3
        refine h Z (fun k h3 h4 hk => funext fun j => a1 k j (by omega) (by omega)) ⟨?_, a2, ?_, ?_, a3, fun p hp => ?_⟩
        · rw [a1 b 7 (by omega) (by omega)]; exact r1
        · rw [a1 b 8 (by omega) (by omega)]; exact r3
        · rw [a1 b 9 (by omega) (by omega)]; exact r4
        · rw [a1 (b + 1) p (by omega) (by omega), a1 (b + 2) p (by omega) (by omega), a1 (b + 3) p (by omega) (by omega), a1 (b + 4) p (by omega) (by omega)]
          exact r6 p hp
      cases o with
      | none =>
        refine br_t (fun z => absurd (show (-1 : Int32) < 0 by decide) z.1) ?_
        rintro _ rfl
        refine fin _ (fun k j a c => ?_) ?_ (fun p hp => ?_)
        · by_cases ek : k = b
          · subst ek; rw [up_j (by omega)]; exact f1 k j a c
          · rw [up_k ek]; exact f1 k j a c
        · rw [up_s, f2, setv t ht _ (and_lt hI.2.2.1)]; rfl
        · rw [up_k (by omega), f3 p hp, if_pos (by omega)]; rfl
      | some p0 =>
        have hp0 := ho p0 rfl
        refine br_f (fun z => z (isP_nI hp0 (by omega))) ?_
        show vp_in (nI p0) 6 ∧ _
        refine ⟨vpl _ _ (by omega) (by decide), vpl _ _ (by omega) (by decide), ?_⟩
        rintro _ rfl
        have ec : Int32.toNatClampNeg (toS (some p0)) = p0 := nI_clamp (n := p0) (by omega)
        rw [ec]
        refine fin _ (fun k j a c => ?_) ?_ (fun p hp => ?_)
        · rw [up_k a]; exact f1 k j a c
        · rw [up_k (by omega), f2]; rfl
        · show _ = nI (if some p0 = some p then (cH κ p &&& (255 - 2 ^ t)) ||| 2 ^ t else cH κ p &&& (255 - 2 ^ t))
          by_cases ep : p = p0
          · subst ep
            rw [if_pos rfl, up_s, f3 p hp, if_pos (by omega), setv t ht _ (and_lt (hI.2.1 p))]
          · rw [if_neg (fun z => ep (Option.some.inj z).symm), up_j ep, f3 p hp, if_pos (by omega)]
  | succ f ih =>
    intro i n Y e hn f1 f2 f3
    cases n with
    | zero => omega
    | succ n =>
      rw [w0_bring_b19]
      refine br_f (nI_ge (b := 6) (by omega) (by decide)) ⟨vpl _ _ (by omega) (by decide), vpl _ _ (by omega) (by decide), ?_⟩
      rintro _ rfl _ rfl
      rw [nI_1, nI_clamp (n := i) (by omega), f3 i (by omega), if_neg (by omega), clrv t ht _ (hI.2.1 i)]
      refine ih (i + 1) n _ (by omega) (by omega) (fun k j a c => ?_) ?_ (fun p hp => ?_)
      · rw [up_k a]; exact f1 k j a c
      · rw [up_k (by omega)]; exact f2
      · by_cases ep : p = i
        · subst ep; rw [up_s, if_pos (by omega)]
        · rw [up_j ep, f3 p hp]
          by_cases c : p < i
          · rw [if_pos c, if_pos (by omega)]
          · rw [if_neg c, if_neg (by omega)]
theorem x_bring {t : Nat} {o : Option Nat} {Q : S0 → Prop} (hb : 10 ≤ b) (hR : RelX b κ X) (hI : IC κ) (ht : t < 8) (ho : ∀ p, o = some p → p < cN κ) (h : ∀ X' : S0, FXb b X X' → RelX b (brS κ t o) X' → Q X') : w0_bring g b X (nI t) (toS o) Q := by
  unfold w0_bring
  rintro _ rfl _ rfl
  rw [hR.2.1, clrv t ht _ hI.2.2.1]
  refine ⟨7, x_bring_b hb hI ht ho X hR h 6 0 7 _ rfl (by decide) (fun k j a c => ?_) up_s (fun p hp => ?_)⟩
  · by_cases ek : k = b
    · subst ek; exact up_j (by omega)
    · exact up_k ek
  · rw [up_k (by omega), if_neg (by omega)]; exact hR.2.2.2.2.1 p hp
theorem m_moves_b {t : Nat} {o : Option Nat} {Q : S0 → Prop} (hI : IC κ) (ht : t < 8) (ho : ∀ p, o = some p → p < cN κ) (M0 : S0) (hR : RelM κ M0) (h : ∀ M' : S0, GM M0 M' → RelM (brS κ t o) M' → Q M') : ∀ (f i n : Nat) (Y : S0), i + f = cN κ → f < n → (∀ k j, (k ≠ 5 ∨ ∀ p, j ≠ 4 * p + 3) → (k ≠ 0 ∨ j ≠ 8) → Y k j = M0 k j) → Y 0 8 = nI (cL κ &&& (255 - 2 ^ t)) → (∀ p, p < cN κ → Y 5 (4 * p + 3) = if p < i then nI (cH κ p &&& (255 - 2 ^ t)) else nI (cH κ p)) → w6_moves_b19 Q n Y (toS o) ((1 : Int32) <<< (nI t &&& 31)) (nI i) := by
  have i1 := hI.1
  intro f
  induction f with
  | zero =>
    intro i n Y e hn f1 f2 f3
    cases n with
    | zero => omega
    | succ n =>
      rw [w6_moves_b19]
      obtain ⟨r1, r2, r3, r4, r5⟩ := hR
      rw [f1 0 11 (by omega) (by omega), r1]
      refine br_t (nI_le (by omega) (by omega)) ?_
      have fin : ∀ Z : S0, (∀ k j, (k ≠ 5 ∨ ∀ p, j ≠ 4 * p + 3) → (k ≠ 0 ∨ j ≠ 8) → Z k j = M0 k j) → Z 0 8 = nI (cL (brS κ t o)) → (∀ p, p < cN κ → Z 5 (4 * p + 3) = nI (cH (brS κ t o) p)) → Q Z := by
        intro Z a1 a2 a3
        refine h Z (fun k j h5 hk => a1 k j (Or.inl h5) (by omega)) ⟨?_, a2, ?_, ?_, fun p hp => ?_⟩
        · rw [a1 0 11 (by omega) (by omega)]; exact r1
        · rw [a1 0 7 (by omega) (by omega)]; exact r3
        · rw [a1 0 4 (by omega) (by omega)]; exact r4
        · obtain ⟨p1, p2, p3, p4, p5⟩ := r5 p hp
          rw [a1 4 p (by omega) (by omega), a1 5 (4 * p) (Or.inr (fun _ => by omega)) (by omega), a1 5 (4 * p + 1) (Or.inr (fun _ => by omega)) (by omega), a1 5 (4 * p + 2) (Or.inr (fun _ => by omega)) (by omega)]
          exact ⟨p1, p2, p3, p4, a3 p hp⟩
      cases o with
      | none =>
        refine s_f rfl ?_
        rintro _ rfl
        refine fin _ (fun k j a c => ?_) ?_ (fun p hp => ?_)
        · by_cases ek : k = 0
          · subst ek; rw [up_j (by omega)]; exact f1 0 j a c
          · rw [up_k ek]; exact f1 k j a c
        · rw [up_s, f2, setv t ht _ (and_lt hI.2.2.1)]; rfl
        · rw [up_k (by omega), f3 p hp, if_pos (by omega)]; rfl
      | some p0 =>
        have hp0 := ho p0 rfl
        refine s_t (nI_nm1 (p := p0) (by omega)) ?_
        show vp_in (((4 : Int32) * nI p0) + (3 : Int32)) 24 ∧ vp_in (((4 : Int32) * nI p0) + (3 : Int32)) 24 ∧ ∀ M6 : S0, M6 = up Y 5 (Int32.toNatClampNeg (((4 : Int32) * nI p0) + (3 : Int32))) ((Y 5 (Int32.toNatClampNeg (((4 : Int32) * nI p0) + (3 : Int32)))) ||| _) → Q M6
        rw [rw3, nI_clamp (n := 4 * p0 + 3) (by omega)]
        refine ⟨vpl _ _ (by omega) (by decide), vpl _ _ (by omega) (by decide), ?_⟩
        rintro _ rfl
        refine fin _ (fun k j a c => ?_) ?_ (fun p hp => ?_)
        · by_cases ek : k = 5
          · subst ek
            rcases a with a | a
            · exact absurd rfl a
            · rw [up_j (a p0)]; exact f1 5 j (Or.inr a) c
          · rw [up_k ek]; exact f1 k j a c
        · rw [up_k (by omega), f2]; rfl
        · show _ = nI (if some p0 = some p then (cH κ p &&& (255 - 2 ^ t)) ||| 2 ^ t else cH κ p &&& (255 - 2 ^ t))
          by_cases ep : p = p0
          · subst ep
            rw [if_pos rfl, up_s, f3 p hp, if_pos (by omega), setv t ht _ (and_lt (hI.2.1 p))]
          · rw [if_neg (fun z => ep (Option.some.inj z).symm), up_j (by omega), f3 p hp, if_pos (by omega)]
  | succ f ih =>
    intro i n Y e hn f1 f2 f3
    cases n with
    | zero => omega
    | succ n =>
      rw [w6_moves_b19, f1 0 11 (by omega) (by omega), hR.1, rw3, nI_clamp (n := 4 * i + 3) (by omega)]
      refine br_f (nI_ge (by omega) (by omega)) ⟨vpl _ _ (by omega) (by decide), vpl _ _ (by omega) (by decide), ?_⟩
      rintro _ rfl _ rfl
      rw [nI_1, f3 i (by omega), if_neg (by omega), clrv t ht _ (hI.2.1 i)]
      refine ih (i + 1) n _ (by omega) (by omega) (fun k j a c => ?_) ?_ (fun p hp => ?_)
      · by_cases ek : k = 5
        · subst ek
          rcases a with a | a
          · exact absurd rfl a
          · rw [up_j (a i)]; exact f1 5 j (Or.inr a) c
        · rw [up_k ek]; exact f1 k j a c
      · rw [up_k (by omega)]; exact f2
      · by_cases ep : p = i
        · subst ep; rw [up_s, if_pos (by omega)]
        · rw [up_j (by omega), f3 p hp]
          by_cases c : p < i
          · rw [if_pos c, if_pos (by omega)]
          · rw [if_neg c, if_neg (by omega)]
theorem m_moves {t : Nat} {o : Option Nat} {Q : S0 → Prop} (hR : RelM κ M) (hI : IC κ) (ht : t < 8) (ho : ∀ p, o = some p → p < cN κ) (h : ∀ M' : S0, GM M M' → RelM (brS κ t o) M' → Q M') : w6_moves M (nI t) (toS o) Q := by
  unfold w6_moves
  rintro _ rfl _ rfl
  rw [hR.2.1, clrv t ht _ hI.2.2.1]
  refine ⟨cN κ + 1, m_moves_b hI ht ho M hR h (cN κ) 0 _ _ (Nat.zero_add _) (Nat.lt_succ_self _) (fun k j a c => ?_) up_s (fun p hp => ?_)⟩
  · by_cases ek : k = 0
    · subst ek; exact up_j (by omega)
    · exact up_k ek
  · rw [up_k (by omega), if_neg (by omega)]; exact (hR.2.2.2.2 p hp).2.2.2.2
end PL
