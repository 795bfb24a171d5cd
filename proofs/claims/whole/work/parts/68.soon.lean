/-! soon, image, back -/
def soF (tv : TV) (i j : Nat) : Nat → Nat → CS → Int32
  | 0, _, _ => -1
  | f + 1, n, κ => if cH κ i = 0 then nI n else soF tv i j f (n + 1) (meetS tv κ i j)
section SOON
variable {tv : TV} {nT : Nat} {κ : CS} {g : GX} {X M : S0}
theorem nIz {n : Nat} (h : n < 2 ^ 31) : nI n = 0 ↔ n = 0 := nI_eq (b := 0) h (by decide)
theorem ht8 {κ : CS} (hI : IC κ) (p : Nat) : cH κ p < 2 ^ 31 := Nat.lt_trans (hI.2.1 p) (by decide)
theorem x_soon_b {i j N : Nat} {Q : Int32 → S0 → Prop} (hi : i < N) (hj : j < N) (hne : i ≠ j) : ∀ (f k n : Nat) (X : S0) (κ : CS), k + f = 21 → f < n → RelX 22 κ X → IC κ → TX tv nT g X → cT κ < nT → cN κ = N → (∀ X' : S0, FT X X' → Q (soF tv i j f k κ) X') → w5_soon_b23 g Q n X (nI i) (nI j) 22 (nI k) := by
  intro f
  induction f with
  | zero =>
    intro k n X κ e hn hX hI hT ht hN h
    cases n with
    | zero => omega
    | succ n =>
      rw [w5_soon_b23]
      exact br_t (nI_lt (a := 20) (by omega) (by omega)) (h X FT.rf)
  | succ f ih =>
    intro k n X κ e hn hX hI hT ht hN h
    have i1 := hI.1
    cases n with
    | zero => omega
    | succ n =>
      rw [w5_soon_b23, nI_clamp (n := i) (by omega), hX.2.2.2.2.1 i (by omega), nIz (ht8 hI i)]
      rw [soF] at h
      refine br_f (nI_nlt (a := 20) (b := k) (by omega) (by decide)) ⟨vpl _ _ (by omega) (by decide), fun c => ?_, fun c => ?_⟩
      · rw [if_neg c] at h
        refine x_meet (by decide) (by decide) hX hI hT ht (by omega) (by omega) hne (fun X1 f1 R1 => ?_)
        rintro _ rfl
        rw [nI_1]
        exact ih (k + 1) n X1 _ (by omega) (by omega) R1 (ic_meet hI (by omega) (by omega) hne) (hT.xb f1 (by decide) (by decide)) (by rw [meet_T]; exact ht) (by rw [meet_N]; exact hN) (fun X' f' => h X' ((f1.t (by decide) (by decide)).tr f'))
      · rw [if_pos c] at h
        exact h X FT.rf
theorem m_soon_b {i j N : Nat} {Q : Int32 → S0 → Prop} {M0 : S0} (hi : i < N) (hj : j < N) (hne : i ≠ j) : ∀ (f k n : Nat) (M : S0) (κ : CS), k + f = 21 → f < n → RelM κ M → IC κ → TM tv nT M → cT κ < nT → cN κ = N → (∀ M' : S0, GQ 1 M M' → ∀ Q' : S0 → Prop, (∀ M3 : S0, QM 0 M0 M3 → Q' M3) → w6_laysBack M' Q') → (∀ M3 : S0, QM 0 M0 M3 → Q (soF tv i j f k κ) M3) → w6_soon_b18 Q n M (nI i) (nI j) (nI k) := by
  intro f
  induction f with
  | zero =>
    intro k n M κ e hn hM hI hT ht hN hb h
    cases n with
    | zero => omega
    | succ n =>
      rw [w6_soon_b18]
      refine br_t (nI_lt (a := 20) (by omega) (by omega)) (hb M GQ.rf _ (fun M3 q => ?_))
      exact br_f (nI_ge (a := 20) (b := k) (by omega) (by omega)) (h M3 q)
  | succ f ih =>
    intro k n M κ e hn hM hI hT ht hN hb h
    have i1 := hI.1
    cases n with
    | zero => omega
    | succ n =>
      rw [w6_soon_b18]
      rw [soF] at h
      refine br_f (nI_nlt (a := 20) (b := k) (by omega) (by decide)) (m_has hM i1 (by omega) ?_)
      rw [nIz (ht8 hI i)]
      refine ⟨fun c => ?_, fun c => ?_⟩
      · rw [if_pos c] at h
        refine hb M GQ.rf _ (fun M3 q => ?_)
        exact br_t (nI_le (a := k) (b := 20) (by omega) (by decide)) (h M3 q)
      · rw [if_neg c] at h
        refine m_games hM hI hT ht (by omega) (by omega) hne (fun M1 f1 R1 => ?_)
        rintro _ rfl
        rw [nI_1]
        exact ih (k + 1) n M1 _ (by omega) (by omega) R1 (ic_meet hI (by omega) (by omega) hne) (hT.g f1) (by rw [meet_T]; exact ht) (by rw [meet_N]; exact hN) (fun M' f' => hb M' (f1.q.tr f')) h
theorem op_soon (h : Rel tv nT κ g X M) (p1 p2 : Int32) : w5_soon g X p1 p2 (fun r X' => w6_soon M p1 p2 (fun r' M' => Owes tv nT g r X' r' M')) := by
  have H := h
  obtain ⟨hX, hM, hI, hr, ht, hO⟩ := h
  have i1 := hI.1
  unfold w5_soon
  refine x_areTwo hX.1 i1 ?_
  rw [b01]
  by_cases c : isP (cN κ) p1 ∧ isP (cN κ) p2 ∧ ¬ p1 = p2
  · refine s_t (fun z => z c) ?_
    obtain ⟨i, j, hi, hj, hne, rfl, rfl⟩ := or_lt2 i1 c
    refine x_think hX i1 (fun X1 f1 R1 => ⟨fun e => (by cases e), fun k e => ?_⟩)
    obtain rfl : 22 = k := Option.some.inj e
    refine ⟨cl_22, 22, x_soon_b hi hj hne 21 0 22 X1 κ rfl (by decide) R1 hI (hO.1.t f1) ht rfl (fun X2 f2 => ?_)⟩
    unfold w6_soon
    refine m_areTwo hM.1 i1 ?_
    rw [b01]
    refine s_t (fun z => z c) (m_thought (d := 0) (by decide) hO.2.2.2.2.2.2.2.1 hM (fun M1 t1 e1 R1 bk => ?_))
    exact ⟨22, m_soon_b hi hj hne 21 0 22 M1 κ rfl (by decide) R1 hI (hO.2.1.h1 t1) ht rfl bk (fun M3 q => ⟨rfl, _, H.keep (f1.tr f2) q⟩)⟩
  · refine s_f c ?_
    unfold w6_soon
    refine m_areTwo hM.1 i1 ?_
    rw [b01]
    exact s_f c ⟨rfl, _, H⟩
theorem Rel.kept {X' M' : S0} (h : Rel tv nT κ g X M) (hX : ∀ k, k ≠ 0 → (k < 16 ∨ 21 < k) → X' k = X k) (hM : ∀ k j, k ≠ 7 → (k ≠ 0 ∨ j < 33 ∨ 36 < j) → M' k j = M k j) (hK : KeptR κ nT X' M') : Rel tv nT κ g X' M' := by
  obtain ⟨r1, r2, r3, r4, r5, h1, h2, h3, h4, h5, h6, h7, h8, h9, h10, h11, h12⟩ := h
  refine ⟨?_, ?_, r3, r4, r5, h1.fr (fun k hk => hX k (by omega) (by omega)) (hX 2 (by omega) (by omega)), h2.fr (fun r _ j _ => hM 1 _ (by omega) (by omega)) (fun r _ => hM 2 _ (by omega) (by omega)), h3, h4, ?_, ?_, fun t => ?_, ?_, hK, ?_, fun i' hi' => ?_, h12⟩
  · unfold RelX
    rw [hX 10 (by omega) (by omega), hX (10 + 1) (by omega) (by omega), hX (10 + 2) (by omega) (by omega), hX (10 + 3) (by omega) (by omega), hX (10 + 4) (by omega) (by omega), hX (10 + 5) (by omega) (by omega)]
    exact r1
  · obtain ⟨a1, a2, a3, a4, a5⟩ := r2
    refine ⟨by rw [hM 0 11 (by omega) (by omega)]; exact a1, by rw [hM 0 8 (by omega) (by omega)]; exact a2, by rw [hM 0 7 (by omega) (by omega)]; exact a3, by rw [hM 0 4 (by omega) (by omega)]; exact a4, fun p hp => ?_⟩
    rw [hM 4 _ (by omega) (by omega), hM 5 _ (by omega) (by omega), hM 5 _ (by omega) (by omega), hM 5 _ (by omega) (by omega), hM 5 _ (by omega) (by omega)]
    exact a5 p hp
  · rw [hX 1 (by omega) (by omega)]; exact h5
  · rw [hM 0 3 (by omega) (by omega)]; exact h6
  · rw [hX 2 (by omega) (by omega)]; exact h7 t
  · rw [hM 0 28 (by omega) (by omega)]; exact h8
  · obtain ⟨sz, a1, a2, a3, a4⟩ := h10
    refine ⟨sz, a1, by rw [hX 5 (by omega) (by omega)]; exact a2, by rw [hM 0 6 (by omega) (by omega)]; exact a3, fun j hj => ?_⟩
    rw [hX 6 (by omega) (by omega), hM 3 j (by omega) (by omega)]
    exact a4 j hj
  · exact (h11 i' hi').fr hi' (hX _ (by omega) (by omega)) (hX _ (by omega) (by omega)) (fun k j a b => hM k j (by omega) (by omega))
theorem m_image_b {Q : Int32 → S0 → Prop} (M0 : S0) (h : ∀ M' : S0, (∀ k j, k ≠ 7 → (k ≠ 0 ∨ j < 33 ∨ 36 < j) → M' k j = M0 k j) → (∀ k, k < 24 → M' 7 k = M0 5 k) → M' 0 33 = M0 0 8 → M' 0 34 = M0 0 11 → M' 0 35 = M0 0 7 → M' 0 36 = M0 0 4 → Q (M0 0 11) M') : ∀ (n i : Nat) (Y : S0), i ≤ 24 → 24 - i < n → (∀ k j, k ≠ 7 → Y k j = M0 k j) → (∀ k, k < i → Y 7 k = M0 5 k) → w6_image_b2 Q n Y (nI i) := by
  intro n
  induction n with
  | zero => intro i Y _ h0; omega
  | succ n ih =>
    intro i Y hi hn f1 f3
    rw [w6_image_b2]
    by_cases e : i = 24
    · subst e
      refine br_t (by decide) ?_
      rintro _ rfl _ rfl _ rfl _ rfl
      have g1 : ∀ j, Y 0 j = M0 0 j := fun j => f1 0 j (by decide)
      have hh := h (up (up (up (up Y 0 33 (Y 0 8)) 0 34 (Y 0 11)) 0 35 (Y 0 7)) 0 36 (Y 0 4)) (fun k j hk hj => ?_) (fun k hk => ?_) ?_ ?_ ?_ ?_
      · simp (disch := omega) only [up_s, up_j, up_k]
        rw [← g1 11] at hh
        exact hh
      · by_cases ek : k = 0
        · subst ek
          rw [up_j (by omega), up_j (by omega), up_j (by omega), up_j (by omega)]; exact f1 0 j (by decide)
        · rw [up_k ek, up_k ek, up_k ek, up_k ek]; exact f1 k j hk
      · rw [up_k (by decide), up_k (by decide), up_k (by decide), up_k (by decide)]; exact f3 k hk
      · simp (disch := omega) only [up_s, up_j, up_k]; exact g1 8
      · simp (disch := omega) only [up_s, up_j, up_k]; exact g1 11
      · simp (disch := omega) only [up_s, up_j, up_k]; exact g1 7
      · simp (disch := omega) only [up_s, up_j, up_k]; exact g1 4
    · refine br_f (nI_ge (b := 24) (by omega) (by decide)) ⟨vpl _ _ (by omega) (by omega), vpl _ _ (by omega) (by omega), ?_⟩
      rintro _ rfl _ rfl
      rw [nI_1, nI_clamp (n := i) (by omega)]
      refine ih (i + 1) _ (by omega) (by omega) (fun k j hk => ?_) (fun k hk => ?_)
      · rw [up_k hk]; exact f1 k j hk
      · by_cases ek : k = i
        · subst ek
          rw [up_s]; exact f1 5 k (by decide)
        · rw [up_j (by omega)]; exact f3 k (by omega)
theorem op_image (h : Rel tv nT κ g X M) : w5_image g X (fun r X' => w6_image M (fun r' M' => Owes tv nT g r X' r' M')) := by
  have H := h
  obtain ⟨hX, hM, hI, hr, ht, hO⟩ := h
  have i1 := hI.1
  unfold w5_image
  refine x_takes (by decide) (by decide) hX i1 (fun X1 f1 R1 => ?_)
  rintro _ rfl
  rw [up_k (by decide), f1 10 (by omega), hX.1]
  unfold w6_image
  refine ⟨25, m_image_b M (fun M' a1 a2 a3 a4 a5 a6 => ⟨hM.1.symm, κ, H.kept (fun k h0 hk => ?_) a1 (Or.inr ⟨κ, up_s, ?_, ⟨?_, ?_, ?_, ?_, fun p hp => ?_⟩, hI, hr, ht, Nat.le_refl _, fun _ _ => rfl⟩)⟩) 25 0 M (by omega) (by omega) (fun _ _ _ => rfl) (fun k hk => absurd hk (Nat.not_lt_zero k))⟩
  · rw [up_r h0]; exact f1 k hk
  · unfold RelX
    rw [up_r (by decide), up_r (by decide), up_r (by decide), up_r (by decide), up_r (by decide), up_r (by decide)]
    exact R1
  · rw [a4]; exact hM.1
  · rw [a3]; exact hM.2.1
  · rw [a5]; exact hM.2.2.1
  · rw [a6]; exact hM.2.2.2.1
  · obtain ⟨b1, b2, b3, b4, b5⟩ := hM.2.2.2.2 p hp
    rw [a2 _ (by omega), a2 _ (by omega), a2 _ (by omega), a2 _ (by omega)]
    exact ⟨b2, b3, b4, b5⟩
theorem m_bk_b {Q : Int32 → S0 → Prop} (M0 : S0) (h : ∀ M' : S0, (∀ k j, k ≠ 5 → (k ≠ 0 ∨ (j ≠ 8 ∧ j ≠ 11 ∧ j ≠ 7 ∧ j ≠ 4)) → M' k j = M0 k j) → (∀ k, k < 24 → M' 5 k = M0 7 k) → M' 0 8 = M0 0 33 → M' 0 11 = M0 0 34 → M' 0 7 = M0 0 35 → M' 0 4 = M0 0 36 → Q (M0 0 34) M') : ∀ (n i : Nat) (Y : S0), i ≤ 24 → 24 - i < n → (∀ k j, k ≠ 5 → Y k j = M0 k j) → (∀ k, k < i → Y 5 k = M0 7 k) → w6_back_b13 Q n Y (nI i) := by
  intro n
  induction n with
  | zero => intro i Y _ h0; omega
  | succ n ih =>
    intro i Y hi hn f1 f3
    rw [w6_back_b13]
    by_cases e : i = 24
    · subst e
      refine br_t (by decide) ?_
      rintro _ rfl _ rfl _ rfl _ rfl
      have g1 : ∀ j, Y 0 j = M0 0 j := fun j => f1 0 j (by decide)
      have hh := h (up (up (up (up Y 0 8 (Y 0 33)) 0 11 (Y 0 34)) 0 7 (Y 0 35)) 0 4 (Y 0 36)) (fun k j hk hj => ?_) (fun k hk => ?_) ?_ ?_ ?_ ?_
      · simp (disch := omega) only [up_s, up_j, up_k]
        rw [← g1 34] at hh
        exact hh
      · by_cases ek : k = 0
        · subst ek
          rw [up_j (by omega), up_j (by omega), up_j (by omega), up_j (by omega)]; exact f1 0 j (by decide)
        · rw [up_k ek, up_k ek, up_k ek, up_k ek]; exact f1 k j hk
      · rw [up_k (by decide), up_k (by decide), up_k (by decide), up_k (by decide)]; exact f3 k hk
      · simp (disch := omega) only [up_s, up_j, up_k]; exact g1 33
      · simp (disch := omega) only [up_s, up_j, up_k]; exact g1 34
      · simp (disch := omega) only [up_s, up_j, up_k]; exact g1 35
      · simp (disch := omega) only [up_s, up_j, up_k]; exact g1 36
    · refine br_f (nI_ge (b := 24) (by omega) (by decide)) ⟨vpl _ _ (by omega) (by omega), vpl _ _ (by omega) (by omega), ?_⟩
      rintro _ rfl _ rfl
      rw [nI_1, nI_clamp (n := i) (by omega)]
      refine ih (i + 1) _ (by omega) (by omega) (fun k j hk => ?_) (fun k hk => ?_)
      · rw [up_k hk]; exact f1 k j hk
      · by_cases ek : k = i
        · subst ek
          rw [up_s]; exact f1 7 k (by decide)
        · rw [up_j (by omega)]; exact f3 k (by omega)
theorem op_back (h : Rel tv nT κ g X M) : w5_back g X (fun r X' => w6_back M (fun r' M' => Owes tv nT g r X' r' M')) := by
  have H := h
  obtain ⟨hX, hM, hI, hr, ht, hO⟩ := h
  have i1 := hI.1
  have hO2 := hO
  obtain ⟨o1, o2, o3, o4, o5, o6, o7, o8, o9, o10, o11, o12⟩ := hO
  unfold w5_back
  rcases o9 with ⟨z1, z2⟩ | ⟨κ', z1, z2, z3, z4, z5, z6, z7, z8⟩
  · refine s_f z1 ?_
    unfold w6_back
    exact s_f z2 ⟨rfl, _, H⟩
  · refine s_t (by rw [z1]; decide) (x_takes (by decide) (by decide) z2 z4.1 (fun X1 f1 R1 => ?_))
    have n6 := z4.1
    rw [R1.1]
    unfold w6_back
    rw [z3.1]
    refine s_t (nI_nm1 (by omega)) ⟨25, m_bk_b M (fun M' a1 a2 a3 a4 a5 a6 => ⟨z3.1.symm, κ', R1, ⟨?_, ?_, ?_, ?_, fun p hp => ?_⟩, z4, z5, z6, ?_⟩) 25 0 M (by omega) (by omega) (fun _ _ _ => rfl) (fun k hk => absurd hk (Nat.not_lt_zero k))⟩
    · rw [a4]; exact z3.1
    · rw [a3]; exact z3.2.1
    · rw [a5]; exact z3.2.2.1
    · rw [a6]; exact z3.2.2.2.1
    · obtain ⟨b2, b3, b4, b5⟩ := z3.2.2.2.2 p hp
      rw [a1 4 p (by omega) (by omega), a2 _ (by omega), a2 _ (by omega), a2 _ (by omega), a2 _ (by omega), z8 p hp]
      exact ⟨(hM.2.2.2.2 p (by omega)).1, b2, b3, b4, b5⟩
    · have R := hO2.fr (κ2 := κ) (X' := X1) (M' := M') rfl rfl (fun k _ _ a => f1 k (by omega)) (fun k j a b c d => a1 k j (by omega) (by omega))
      obtain ⟨c1, c2, c3, c4, c5, c6, c7, c8, c9, c10, c11, c12⟩ := R
      refine ⟨c1, c2, c3, c4, c5, c6, c7, c8, ?_, c10, c11, fun p hp => ?_⟩
      · have e : ∀ k, 16 ≤ k → X1 k = X k := fun k hk => f1 k (by omega)
        refine Or.inr ⟨κ', by rw [f1 0 (by omega)]; exact z1, ?_, ⟨?_, ?_, ?_, ?_, fun p hp => ?_⟩, z4, z5, z6, Nat.le_refl _, fun _ _ => rfl⟩
        · unfold RelX
          rw [e 16 (by decide), e (16 + 1) (by decide), e (16 + 2) (by decide), e (16 + 3) (by decide), e (16 + 4) (by decide), e (16 + 5) (by decide)]
          exact z2
        · rw [a1 0 34 (by omega) (by omega)]; exact z3.1
        · rw [a1 0 33 (by omega) (by omega)]; exact z3.2.1
        · rw [a1 0 35 (by omega) (by omega)]; exact z3.2.2.1
        · rw [a1 0 36 (by omega) (by omega)]; exact z3.2.2.2.1
        · rw [a1 7 _ (by omega) (by omega), a1 7 _ (by omega) (by omega), a1 7 _ (by omega) (by omega), a1 7 _ (by omega) (by omega)]
          exact z3.2.2.2.2 p hp
      · rw [z8 p hp]; exact c12 p (by omega)
end SOON
