/-! in thought: a club taken, in the class; laid aside and back, in the check -/
section XT
variable {g : GX} {X : S0} {κ : CS}
theorem x_takes_b {b c : Nat} {Q : S0 → Prop} (hb : 10 ≤ b) (hbc : b + 5 < c ∨ c + 5 < b) (X0 : S0) (h : ∀ X' : S0, (∀ k, (k < b ∨ b + 5 < k) → X' k = X0 k) → (∀ j, 6 ≤ j → j ≤ 9 → X' b j = X0 c j) → (∀ r j, 1 ≤ r → r ≤ 5 → j < 6 → X' (b + r) j = X0 (c + r) j) → Q X') :
    ∀ (n i : Nat) (Y : S0), i ≤ 6 → 6 - i < n → (∀ k, (k < b ∨ b + 5 < k) → Y k = X0 k) → (∀ r j, 1 ≤ r → r ≤ 5 → j < i → Y (b + r) j = X0 (c + r) j) → w0_takes_b7 g b c Q n Y (nI i) := by
  intro n
  induction n with
  | zero => intro i Y _ h0; omega
  | succ n ih =>
    intro i Y hi hn f1 f2
    rw [w0_takes_b7]
    by_cases e : i = 6
    · subst e
      refine br_t (by decide) ?_
      rintro _ rfl _ rfl _ rfl _ rfl
      have ec : Y c = X0 c := f1 c (by omega)
      refine h _ (fun k hk => ?_) (fun j h6 h9 => ?_) (fun r j h1 h5 hj => ?_)
      · rw [up_r (by omega), up_r (by omega), up_r (by omega), up_r (by omega)]; exact f1 k hk
      · rcases (by omega : j = 6 ∨ j = 7 ∨ j = 8 ∨ j = 9) with rfl | rfl | rfl | rfl <;> simp (disch := omega) only [up_s, up_j, up_k, ec]
      · simp (disch := omega) only [up_k]
        exact f2 r j h1 h5 hj
    · have hlt : i < 6 := by omega
      refine br_f (nI_ge (b := 6) hlt (by decide)) ?_
      rw [nI_clamp (n := i) (by omega)]
      have v := vpl i 6 hlt (by decide)
      refine ⟨v, v, ?_⟩
      rintro _ rfl
      refine ⟨v, v, ?_⟩
      rintro _ rfl
      refine ⟨v, v, ?_⟩
      rintro _ rfl
      refine ⟨v, v, ?_⟩
      rintro _ rfl
      refine ⟨v, v, ?_⟩
      rintro _ rfl _ rfl
      rw [nI_1]
      have e1 := f1 (c + 1) (by omega)
      have e2 := f1 (c + 2) (by omega)
      have e3 := f1 (c + 3) (by omega)
      have e4 := f1 (c + 4) (by omega)
      have e5 := f1 (c + 5) (by omega)
      refine ih (i + 1) _ (by omega) (by omega) (fun k hk => ?_) (fun r j h1 h5 hj => ?_)
      · rw [up_r (by omega), up_r (by omega), up_r (by omega), up_r (by omega), up_r (by omega)]; exact f1 k hk
      · by_cases ej : j = i
        · subst ej
          rcases (by omega : r = 1 ∨ r = 2 ∨ r = 3 ∨ r = 4 ∨ r = 5) with rfl | rfl | rfl | rfl | rfl <;> simp (disch := omega) only [up_s, up_j, up_k, e1, e2, e3, e4, e5]
        · simp (disch := omega) only [up_j, up_k]
          rw [← f2 r j h1 h5 (by omega)]
          rcases (by omega : r = 1 ∨ r = 2 ∨ r = 3 ∨ r = 4 ∨ r = 5) with rfl | rfl | rfl | rfl | rfl <;> simp (disch := omega) only [up_s, up_j, up_k]
theorem x_takes {b c : Nat} {Q : S0 → Prop} (hb : 10 ≤ b) (hbc : b + 5 < c ∨ c + 5 < b) (hR : RelX c κ X) (h6 : cN κ ≤ 6) (h : ∀ X' : S0, (∀ k, (k < b ∨ b + 5 < k) → X' k = X k) → RelX b κ X' → Q X') : w0_takes g b c X Q := by
  unfold w0_takes
  refine ⟨7, x_takes_b hb hbc X (fun X' f1 f2 f3 => h X' f1 ?_) 7 0 X (by omega) (by omega) (fun _ _ => rfl) (fun _ j _ _ hj => absurd hj (Nat.not_lt_zero j))⟩
  obtain ⟨r1, r2, r3, r4, r5, r6⟩ := hR
  refine ⟨by rw [f2 7 (by omega) (by omega)]; exact r1, by rw [f2 6 (by omega) (by omega)]; exact r2, by rw [f2 8 (by omega) (by omega)]; exact r3, by rw [f2 9 (by omega) (by omega)]; exact r4, fun p hp => ?_, fun p hp => ?_⟩
  · rw [f3 5 p (by omega) (by omega) hp]; exact r5 p hp
  · rw [f3 1 p (by omega) (by omega) (by omega), f3 2 p (by omega) (by omega) (by omega), f3 3 p (by omega) (by omega) (by omega), f3 4 p (by omega) (by omega) (by omega)]
    exact r6 p hp
/-- all as it was but the rows of work and the clubs in thought -/
def FT (X X' : S0) : Prop := ∀ k, k ≠ 3 → k ≠ 4 → (k < 22 ∨ 58 ≤ k) → X' k = X k
theorem FT.rf {X : S0} : FT X X := fun _ _ _ _ => rfl
theorem FT.tr {X Y Z : S0} (h : FT X Y) (h2 : FT Y Z) : FT X Z := fun k a c d => (h2 k a c d).trans (h k a c d)
theorem FX.t {X X' : S0} (h : FX X X') : FT X X' := fun k a b _ => h k a b
theorem FXb.t {b : Nat} {X X' : S0} (h : FXb b X X') (hb : 22 ≤ b) (hb2 : b + 5 < 58) : FT X X' := fun k a c d => h k a c (by omega)
theorem TX.t {tv : TV} {nT : Nat} {X X' : S0} (h : TX tv nT g X) (f : FT X X') : TX tv nT g X' := h.fr (fun k hk => f k (by omega) (by omega) (by omega)) (f 2 (by decide) (by decide) (by decide))
theorem TX.xb {tv : TV} {nT : Nat} {b : Nat} {X X' : S0} (h : TX tv nT g X) (f : FXb b X X') (hb : 10 ≤ b) (hb2 : b + 5 < 66) : TX tv nT g X' := h.fr (fun k hk => f k (by omega) (by omega) (by omega)) (f 2 (by decide) (by decide) (by omega))
theorem RelX.t {b : Nat} {X X' : S0} (h : RelX b κ X) (f : FT X X') (hb : 10 ≤ b) (hb2 : b + 5 < 22) : RelX b κ X' := by
  have e : ∀ i, i ≤ 5 → X' (b + i) = X (b + i) := fun i hi => f _ (by omega) (by omega) (by omega)
  have e0 : X' b = X b := e 0 (by omega)
  unfold RelX
  rw [e0, e 1 (by omega), e 2 (by omega), e 3 (by omega), e 4 (by omega), e 5 (by omega)]
  exact h
theorem RelX.o {b c : Nat} {X X' : S0} (h : RelX b κ X) (f : FXb c X X') (hb : 10 ≤ b) (hc : b + 5 < c ∨ c + 5 < b) : RelX b κ X' := by
  have e : ∀ i, i ≤ 5 → X' (b + i) = X (b + i) := fun i hi => f _ (by omega) (by omega) (by omega)
  have e0 : X' b = X b := e 0 (by omega)
  unfold RelX
  rw [e0, e 1 (by omega), e 2 (by omega), e 3 (by omega), e 4 (by omega), e 5 (by omega)]
  exact h
theorem cl_22e : isClub 22 := cl_22
theorem x_think {Q : Option Nat → S0 → Prop} (hR : RelX 10 κ X) (h6 : cN κ ≤ 6) (h : ∀ X' : S0, FT X X' → RelX 22 κ X' → Q (some 22) X') : w5_think g X Q := by
  unfold w5_think
  refine x_takes (by decide) (by decide) hR h6 (fun X' f R => h X' (fun k _ _ a => f k (by omega)) R)
theorem x_howMany {b p : Nat} {Q : Int32 → S0 → Prop} (hR : RelX b κ X) (hI : IC κ) (hp : p < cN κ) (h : Q (nI (pc8 (cH κ p))) X) : w0_howMany g b X (nI p) Q := by
  have i1 := hI.1
  unfold w0_howMany
  refine x_isPlayer hR.1 i1 ?_
  rw [if_pos (isP_nI hp (by omega))]
  refine br_f (by decide) ⟨vpl _ _ (by omega) (by omega), x_bc ?_⟩
  rw [nI_clamp (by omega), hR.2.2.2.2.1 p (by omega), bcF_pc _ (hI.2.1 p)]
  exact h
theorem x_manyInHall {b : Nat} {Q : Int32 → S0 → Prop} (hR : RelX b κ X) (hI : IC κ) (h : Q (nI (pc8 (cL κ))) X) : w0_manyInHall g b X Q := by
  unfold w0_manyInHall
  refine x_bc ?_
  rw [hR.2.1, bcF_pc _ hI.2.2.1]
  exact h
theorem x_manyBehind {tv : TV} {nT p q : Nat} {Q : Int32 → S0 → Prop} (hR : RelX 10 κ X) (hI : IC κ) (hT : TX tv nT g X) (ht : cT κ < nT) (hp : p < cN κ) (hq : q < cN κ) (hne : p ≠ q) (h : ∀ X' : S0, FT X X' → Q (nI (pc8 (cH (meetS tv κ p q) p))) X') : w5_manyBehindGame g X (nI p) (nI q) Q := by
  unfold w5_manyBehindGame
  refine x_think hR hI.1 (fun X1 f1 R1 => ⟨fun e => (by cases e), fun k e => ?_⟩)
  obtain rfl : 22 = k := Option.some.inj e
  refine ⟨cl_22, x_meet (by decide) (by decide) R1 hI (hT.t f1) ht hp hq hne (fun X2 f2 R2 => ?_)⟩
  exact x_howMany R2 (ic_meet hI hp hq hne) (by rw [meet_N]; exact hp) (h X2 (f1.tr (f2.t (by decide) (by decide))))
end XT
theorem r26 (d k : Nat) : ((26 : Int32) * nI d) + nI k = nI (26 * d + k) := by
  have e : (26 : Int32) * nI d = nI (26 * d) := nI_mul 26 d
  rw [e, nI_add]
section MT
variable {M : S0} {κ : CS}
theorem m_aside_b {Q : S0 → Prop} {d : Nat} (hd : d < 8) (M0 : S0) (h0 : M0 0 28 = nI d) (h : ∀ M' : S0, (∀ k j, k ≠ 6 → (k ≠ 0 ∨ j ≠ 28) → M' k j = M0 k j) → M' 0 28 = nI (d + 1) → (∀ j, j < 26 * d → M' 6 j = M0 6 j) → (∀ k, k < 24 → M' 6 (26 * d + k) = M0 5 k) → M' 6 (26 * d + 24) = M0 0 8 → M' 6 (26 * d + 25) = M0 0 7 → Q M') :
    ∀ (n i : Nat) (Y : S0), i ≤ 24 → 24 - i < n → (∀ k j, k ≠ 6 → Y k j = M0 k j) → (∀ j, j < 26 * d → Y 6 j = M0 6 j) → (∀ k, k < i → Y 6 (26 * d + k) = M0 5 k) → w6_laysAside_b2 Q n Y (nI i) := by
  intro n
  induction n with
  | zero => intro i Y _ h0; omega
  | succ n ih =>
    intro i Y hi hn f1 f2 f3
    rw [w6_laysAside_b2, f1 0 28 (by decide), h0, r26]
    by_cases e : i = 24
    · subst e
      refine br_t (by decide) ?_
      have r24 : ((26 : Int32) * nI d) + (24 : Int32) = nI (26 * d + 24) := r26 d 24
      have r25 : ((26 : Int32) * nI d) + (25 : Int32) = nI (26 * d + 25) := r26 d 25
      rw [r24, nI_clamp (by omega)]
      refine ⟨vpl _ _ (by omega) (by omega), ?_⟩
      rintro _ rfl
      rw [up_k (by decide), f1 0 28 (by decide), h0, r25, nI_clamp (by omega)]
      refine ⟨vpl _ _ (by omega) (by omega), ?_⟩
      rintro _ rfl _ rfl
      refine h _ (fun k j hk hj => ?_) ?_ (fun j hj => ?_) (fun k hk => ?_) ?_ ?_
      · by_cases ek : k = 0
        · subst ek
          rw [up_j (by omega), up_k (by omega), up_k (by omega)]; exact f1 0 j (by decide)
        · rw [up_k ek, up_k hk, up_k hk]; exact f1 k j hk
      · simp (disch := omega) only [up_s, up_j, up_k]
        rw [f1 0 28 (by decide), h0, nI_1]
      · simp (disch := omega) only [up_s, up_j, up_k]
        exact f2 j hj
      · simp (disch := omega) only [up_s, up_j, up_k]
        exact f3 k hk
      · simp (disch := omega) only [up_s, up_j, up_k]
        exact f1 0 8 (by decide)
      · simp (disch := omega) only [up_s, up_j, up_k]
        exact f1 0 7 (by decide)
    · refine br_f (nI_ge (b := 24) (by omega) (by decide)) ⟨vpl _ _ (by omega) (by omega), vpl _ _ (by omega) (by omega), ?_⟩
      rintro _ rfl _ rfl
      rw [nI_1, nI_clamp (n := 26 * d + i) (by omega), nI_clamp (n := i) (by omega)]
      refine ih (i + 1) _ (by omega) (by omega) (fun k j hk => ?_) (fun j hj => ?_) (fun k hk => ?_)
      · rw [up_k hk]; exact f1 k j hk
      · rw [up_j (by omega)]; exact f2 j hj
      · by_cases ek : k = i
        · subst ek
          rw [up_s]; exact f1 5 k (by decide)
        · rw [up_j (by omega)]; exact f3 k (by omega)
theorem m_aside {Q : S0 → Prop} {d : Nat} (hd : d < 8) (h0 : M 0 28 = nI d) (h : ∀ M' : S0, (∀ k j, k ≠ 6 → (k ≠ 0 ∨ j ≠ 28) → M' k j = M k j) → M' 0 28 = nI (d + 1) → (∀ j, j < 26 * d → M' 6 j = M 6 j) → (∀ k, k < 24 → M' 6 (26 * d + k) = M 5 k) → M' 6 (26 * d + 24) = M 0 8 → M' 6 (26 * d + 25) = M 0 7 → Q M') : w6_laysAside M Q := by
  unfold w6_laysAside
  exact ⟨25, m_aside_b hd M h0 h 25 0 M (by omega) (by omega) (fun _ _ _ => rfl) (fun _ _ => rfl) (fun k hk => absurd hk (Nat.not_lt_zero k))⟩
theorem m_back_b {Q : S0 → Prop} {d : Nat} (hd : d < 8) (M0 : S0) (h0 : M0 0 28 = nI d) (h : ∀ M' : S0, (∀ k j, k ≠ 5 → (k ≠ 0 ∨ (j ≠ 7 ∧ j ≠ 8)) → M' k j = M0 k j) → (∀ k, k < 24 → M' 5 k = M0 6 (26 * d + k)) → M' 0 8 = M0 6 (26 * d + 24) → M' 0 7 = M0 6 (26 * d + 25) → Q M') :
    ∀ (n i : Nat) (Y : S0), i ≤ 24 → 24 - i < n → (∀ k j, k ≠ 5 → Y k j = M0 k j) → (∀ k, k < i → Y 5 k = M0 6 (26 * d + k)) → w6_laysBack_b12 Q n Y (nI i) := by
  intro n
  induction n with
  | zero => intro i Y _ h0; omega
  | succ n ih =>
    intro i Y hi hn f1 f3
    rw [w6_laysBack_b12, f1 0 28 (by decide), h0, r26]
    by_cases e : i = 24
    · subst e
      refine br_t (by decide) ?_
      have r24 : ((26 : Int32) * nI d) + (24 : Int32) = nI (26 * d + 24) := r26 d 24
      have r25 : ((26 : Int32) * nI d) + (25 : Int32) = nI (26 * d + 25) := r26 d 25
      rw [r24, nI_clamp (by omega)]
      refine ⟨vpl _ _ (by omega) (by omega), ?_⟩
      rintro _ rfl
      rw [up_j (by decide), f1 0 28 (by decide), h0, r25, nI_clamp (by omega)]
      refine ⟨vpl _ _ (by omega) (by omega), ?_⟩
      rintro _ rfl
      refine h _ (fun k j hk hj => ?_) (fun k hk => ?_) ?_ ?_
      · by_cases ek : k = 0
        · subst ek
          rw [up_j (by omega), up_j (by omega)]; exact f1 0 j (by decide)
        · rw [up_k ek, up_k ek]; exact f1 k j hk
      · rw [up_k (by decide), up_k (by decide)]; exact f3 k hk
      · rw [up_j (by decide), up_s]; exact f1 6 _ (by decide)
      · rw [up_s, up_k (by decide)]; exact f1 6 _ (by decide)
    · refine br_f (nI_ge (b := 24) (by omega) (by decide)) ⟨vpl _ _ (by omega) (by omega), vpl _ _ (by omega) (by omega), ?_⟩
      rintro _ rfl _ rfl
      rw [nI_1, nI_clamp (n := 26 * d + i) (by omega), nI_clamp (n := i) (by omega)]
      refine ih (i + 1) _ (by omega) (by omega) (fun k j hk => ?_) (fun k hk => ?_)
      · rw [up_k hk]; exact f1 k j hk
      · by_cases ek : k = i
        · subst ek
          rw [up_s]; exact f1 6 _ (by decide)
        · rw [up_j (by omega)]; exact f3 k (by omega)
theorem m_back {Q : S0 → Prop} {d : Nat} (hd : d < 8) (h0 : M 0 28 = nI (d + 1)) (h : ∀ M' : S0, (∀ k j, k ≠ 5 → (k ≠ 0 ∨ (j ≠ 7 ∧ j ≠ 8 ∧ j ≠ 28)) → M' k j = M k j) → M' 0 28 = nI d → (∀ k, k < 24 → M' 5 k = M 6 (26 * d + k)) → M' 0 8 = M 6 (26 * d + 24) → M' 0 7 = M 6 (26 * d + 25) → Q M') : w6_laysBack M Q := by
  unfold w6_laysBack
  rintro _ rfl
  rw [h0, nI_pred]
  refine ⟨25, m_back_b hd (up M 0 28 (nI d)) up_s (fun M' f1 f2 f3 f4 => h M' (fun k j hk hj => ?_) ?_ (fun k hk => ?_) ?_ ?_) 25 0 _ (by omega) (by omega) (fun _ _ _ => rfl) (fun k hk => absurd hk (Nat.not_lt_zero k))⟩
  · rw [f1 k j hk (by omega)]
    by_cases ek : k = 0
    · subst ek; exact up_j (by omega)
    · exact up_k ek
  · rw [f1 0 28 (by decide) (by omega)]; exact up_s
  · rw [f2 k hk]; exact up_k (by decide)
  · rw [f3]; exact up_k (by decide)
  · rw [f4]; exact up_k (by decide)
/-- games, and thought, at a depth d: what stays -/
def GQ (d : Nat) (M M' : S0) : Prop := (∀ k j, k ≠ 5 → k ≠ 6 → (k ≠ 0 ∨ (j < 12 ∧ j ≠ 7 ∧ j ≠ 8) ∨ (31 < j ∧ j ≠ 100) ∨ j = 28) → M' k j = M k j) ∧ ∀ j, j < 26 * d → M' 6 j = M 6 j
/-- thought that is over -/
def QM (d : Nat) (M M' : S0) : Prop := (∀ k j, k ≠ 5 → k ≠ 6 → (k ≠ 0 ∨ j < 12 ∨ (31 < j ∧ j ≠ 100) ∨ j = 28) → M' k j = M k j) ∧ (∀ j, j < 26 * d → M' 6 j = M 6 j) ∧ ∀ j, j < 24 → M' 5 j = M 5 j
theorem GQ.rf {d : Nat} {M : S0} : GQ d M M := ⟨fun _ _ _ _ _ => rfl, fun _ _ => rfl⟩
theorem GQ.tr {d : Nat} {X Y Z : S0} (h : GQ d X Y) (h2 : GQ d Y Z) : GQ d X Z := ⟨fun k j a b c => (h2.1 k j a b c).trans (h.1 k j a b c), fun j hj => (h2.2 j hj).trans (h.2 j hj)⟩
theorem QM.rf {d : Nat} {M : S0} : QM d M M := ⟨fun _ _ _ _ _ => rfl, fun _ _ => rfl, fun _ _ => rfl⟩
theorem QM.tr {d : Nat} {X Y Z : S0} (h : QM d X Y) (h2 : QM d Y Z) : QM d X Z := ⟨fun k j a b c => (h2.1 k j a b c).trans (h.1 k j a b c), fun j hj => (h2.2.1 j hj).trans (h.2.1 j hj), fun j hj => (h2.2.2 j hj).trans (h.2.2 j hj)⟩
theorem QM.g {d : Nat} {X Y : S0} (h : QM d X Y) : GQ d X Y := ⟨fun k j a b c => h.1 k j a b (by omega), h.2.1⟩
theorem GM.q {d : Nat} {X Y : S0} (h : GM X Y) : GQ d X Y := ⟨fun k j a b c => h k j a (by omega), fun j _ => h 6 j (by decide) (by omega)⟩
theorem ScM.q {d : Nat} {X Y : S0} (h : ScM X Y) : QM d X Y := ⟨fun k j a b c => h k j (by omega), fun j _ => h 6 j (by omega), fun j _ => h 5 j (by omega)⟩
theorem TM.q {tv : TV} {nT d : Nat} {M M' : S0} (h : TM tv nT M) (hf : GQ d M M') : TM tv nT M' := h.fr (fun r _ j _ => hf.1 1 _ (by omega) (by omega) (by omega)) (fun r _ => hf.1 2 _ (by omega) (by omega) (by omega))
theorem RelM.q {d : Nat} {κ : CS} {M M' : S0} (h : RelM κ M) (h6 : cN κ ≤ 6) (hf : QM d M M') : RelM κ M' := by
  obtain ⟨r1, r2, r3, r4, r5⟩ := h
  obtain ⟨f1, f2, f3⟩ := hf
  refine ⟨by rw [f1 0 11 (by omega) (by omega) (by omega)]; exact r1, by rw [f1 0 8 (by omega) (by omega) (by omega)]; exact r2, by rw [f1 0 7 (by omega) (by omega) (by omega)]; exact r3, by rw [f1 0 4 (by omega) (by omega) (by omega)]; exact r4, fun p hp => ?_⟩
  rw [f1 4 p (by omega) (by omega) (by omega), f3 (4 * p) (by omega), f3 (4 * p + 1) (by omega), f3 (4 * p + 2) (by omega), f3 (4 * p + 3) (by omega)]
  exact r5 p hp
/-- just laid aside -/
def TH1 (d : Nat) (M M1 : S0) : Prop := (∀ k j, k ≠ 6 → (k ≠ 0 ∨ j ≠ 28) → M1 k j = M k j) ∧ ∀ j, j < 26 * d → M1 6 j = M 6 j
theorem TM.h1 {tv : TV} {nT d : Nat} {M M' : S0} (h : TM tv nT M) (hf : TH1 d M M') : TM tv nT M' := h.fr (fun r _ j _ => hf.1 1 _ (by omega) (by omega)) (fun r _ => hf.1 2 _ (by omega) (by omega))
/-- laid aside: what the body begins with, and what is so at its end, laid back -/
theorem m_thought {d : Nat} {Q : S0 → Prop} (hd : d < 8) (h0 : M 0 28 = nI d) (hR : RelM κ M) (h : ∀ M1 : S0, TH1 d M M1 → M1 0 28 = nI (d + 1) → RelM κ M1 → (∀ M2 : S0, GQ (d + 1) M1 M2 → ∀ Q' : S0 → Prop, (∀ M3 : S0, QM d M M3 → Q' M3) → w6_laysBack M2 Q') → Q M1) : w6_laysAside M Q := by
  refine m_aside hd h0 (fun M1 f1 f2 f3 f4 f5 f6 => h M1 ⟨f1, f3⟩ f2 ?_ (fun M2 g Q' hq => ?_))
  · obtain ⟨r1, r2, r3, r4, r5⟩ := hR
    refine ⟨by rw [f1 0 11 (by omega) (by omega)]; exact r1, by rw [f1 0 8 (by omega) (by omega)]; exact r2, by rw [f1 0 7 (by omega) (by omega)]; exact r3, by rw [f1 0 4 (by omega) (by omega)]; exact r4, fun p hp => ?_⟩
    rw [f1 4 p (by omega) (by omega), f1 5 (4 * p) (by omega) (by omega), f1 5 (4 * p + 1) (by omega) (by omega), f1 5 (4 * p + 2) (by omega) (by omega), f1 5 (4 * p + 3) (by omega) (by omega)]
    exact r5 p hp
  · obtain ⟨g1, g2⟩ := g
    refine m_back hd (by rw [g1 0 28 (by omega) (by omega) (by omega)]; exact f2) (fun M3 a1 a2 a3 a4 a5 => hq M3 ⟨fun k j b1 b2 b3 => ?_, fun j hj => ?_, fun j hj => ?_⟩)
    · by_cases e : k = 0
      · subst e
        by_cases e1 : j = 28
        · subst e1; rw [a2, h0]
        · by_cases e2 : j = 8
          · subst e2; rw [a4, g2 _ (by omega), f5]
          · by_cases e3 : j = 7
            · subst e3; rw [a5, g2 _ (by omega), f6]
            · rw [a1 0 j (by omega) (by omega), g1 0 j (by omega) (by omega) (by omega), f1 0 j (by omega) (by omega)]
      · rw [a1 k j b1 (by omega), g1 k j b1 b2 (by omega), f1 k j b2 (by omega)]
    · rw [a1 6 j (by omega) (by omega), g2 j (by omega), f3 j hj]
    · rw [a3 j hj, g2 _ (by omega), f4 j hj]
end MT
