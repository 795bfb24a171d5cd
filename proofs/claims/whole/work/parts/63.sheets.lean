/-! the host's sheets -/
section SHT
variable {tv : TV} {nT : Nat} {κ : CS} {g : GX} {X M : S0}
theorem Rel.sh {X' M' : S0} {i : Nat} (hi : i < 4) (h : Rel tv nT κ g X M) (hX : ∀ k, k ≠ 58 + 2 * i → k ≠ 58 + 2 * i + 1 → X' k = X k) (hM : ∀ k j, ((k = 8 ∨ k = 9 ∨ k = 10) → j ≠ i) → (k = 11 → ¬ (40 * i ≤ j ∧ j < 40 * i + 40)) → M' k j = M k j) (hS : ShR X' M' i) : Rel tv nT κ g X' M' := by
  obtain ⟨r1, r2, r3, r4, r5, h1, h2, h3, h4, h5, h6, h7, h8, h9, h10, h11, h12⟩ := h
  have q1 : ∀ k j, k < 8 → M' k j = M k j := fun k j hk => hM k j (by omega) (by omega)
  have f : ∀ k, k < 58 → X' k = X k := fun k hk => hX k (by omega) (by omega)
  refine ⟨?_, ?_, r3, r4, r5, h1.fr (fun k hk => hX k (by omega) (by omega)) (f 2 (by omega)), h2.fr (fun r _ j _ => q1 1 _ (by omega)) (fun r _ => q1 2 _ (by omega)), h3, h4, ?_, ?_, fun t => ?_, ?_, ?_, ?_, fun i' hi' => ?_, h12⟩
  · unfold RelX
    rw [f 10 (by omega), f (10 + 1) (by omega), f (10 + 2) (by omega), f (10 + 3) (by omega), f (10 + 4) (by omega), f (10 + 5) (by omega)]
    exact r1
  · obtain ⟨a1, a2, a3, a4, a5⟩ := r2
    refine ⟨by rw [q1 0 11 (by omega)]; exact a1, by rw [q1 0 8 (by omega)]; exact a2, by rw [q1 0 7 (by omega)]; exact a3, by rw [q1 0 4 (by omega)]; exact a4, fun p hp => ?_⟩
    rw [q1 4 _ (by omega), q1 5 _ (by omega), q1 5 _ (by omega), q1 5 _ (by omega), q1 5 _ (by omega)]
    exact a5 p hp
  · rw [f 1 (by omega)]; exact h5
  · rw [q1 0 3 (by omega)]; exact h6
  · rw [f 2 (by omega)]; exact h7 t
  · rw [q1 0 28 (by omega)]; exact h8
  · unfold KeptR
    rw [f 0 (by omega), q1 0 34 (by omega)]
    rcases h9 with h | ⟨κ', a1, a2, a3, a4, a5, a6, a7, a8⟩
    · exact Or.inl h
    · refine Or.inr ⟨κ', a1, ?_, ?_, a4, a5, a6, a7, a8⟩
      · unfold RelX
        rw [f 16 (by omega), f (16 + 1) (by omega), f (16 + 2) (by omega), f (16 + 3) (by omega), f (16 + 4) (by omega), f (16 + 5) (by omega)]
        exact a2
      · obtain ⟨b1, b2, b3, b4, b5⟩ := a3
        refine ⟨by rw [q1 0 34 (by omega)]; exact b1, by rw [q1 0 33 (by omega)]; exact b2, by rw [q1 0 35 (by omega)]; exact b3, by rw [q1 0 36 (by omega)]; exact b4, fun p hp => ?_⟩
        rw [q1 7 _ (by omega), q1 7 _ (by omega), q1 7 _ (by omega), q1 7 _ (by omega)]
        exact b5 p hp
  · obtain ⟨sz, a1, a2, a3, a4⟩ := h10
    refine ⟨sz, a1, by rw [f 5 (by omega)]; exact a2, by rw [q1 0 6 (by omega)]; exact a3, fun j hj => ?_⟩
    rw [f 6 (by omega), q1 3 j (by omega)]
    exact a4 j hj
  · by_cases e : i' = i
    · subst e; exact hS
    · have z := h11 i' hi'
      unfold ShR at z ⊢
      rw [hX (58 + 2 * i') (by omega) (by omega), hX (58 + 2 * i' + 1) (by omega) (by omega), hM 8 i' (fun _ => e) (by omega), hM 9 i' (fun _ => e) (by omega), hM 10 i' (fun _ => e) (by omega)]
      rcases z with z | ⟨so, n, z1, z2, z3, z4, z5, z6, z7, z8⟩
      · exact Or.inl z
      · exact Or.inr ⟨so, n, z1, z2, z3, z4, z5, z6, z7, fun j hj => by rw [hM 11 _ (by omega) (by omega)]; exact z8 j hj⟩
theorem x_sheetAt {p : Int32} {Q : Option Nat → S0 → Prop} (h0 : ¬ (¬ p < 0 ∧ ¬ (3 : Int32) < p) → Q none X) (h1 : ∀ i, i < 4 → p = nI i → Q (some (58 + 2 * i)) X) : w5_sheetAt g X p Q := by
  unfold w5_sheetAt
  refine ⟨fun c => h0 (fun z => z.1 c), fun c => ⟨fun c2 => h0 (fun z => ?_), fun c2 => ?_⟩⟩
  · obtain ⟨j, hj, rfl⟩ := rng (k := 3) (by decide) z
    exact nI_ge (b := 4) (by omega) (by decide) c2
  · obtain ⟨j, hj, rfl⟩ := nI_of c
    have h4 : j < 4 := (nI_ltI (b := 4) hj (by decide)).mp (Int32.not_le.mp c2)
    rw [nI_clamp hj]
    exact ⟨vpl _ _ h4 (by decide), h1 j h4 rfl⟩
theorem m_isSheet {p : Int32} {Q : Int32 → S0 → Prop} (h : Q (if ¬ p < 0 ∧ ¬ (3 : Int32) < p then 1 else 0) M) : w6_isSheet M p Q := by
  unfold w6_isSheet
  exact m_in32 (b := 0) (c := 3) ⟨narB, h⟩
theorem isS_nI {i : Nat} (h : i < 4) : ¬ nI i < 0 ∧ ¬ (3 : Int32) < nI i := rng2 (k := 3) (by omega) (by decide)
theorem isSh {i : Nat} (h : i < 4) : isSheet (58 + 2 * i) := ⟨i, h, rfl⟩
theorem x_becomes_b {k : Nat} {Q : S0 → Prop} (X0 : S0) (h : ∀ X' : S0, (∀ k', k' ≠ k + 1 → X' k' = X0 k') → (∀ j, j < 40 → X' (k + 1) j = 0) → Q X') : ∀ (f i n : Nat) (Y : S0), i + f = 40 → f < n → (∀ k', k' ≠ k + 1 → Y k' = X0 k') → (∀ j, j < i → Y (k + 1) j = 0) → w2_becomes_b18 g k Q n Y (nI i) := by
  intro f
  induction f with
  | zero =>
    intro i n Y e hn f1 f2
    cases n with
    | zero => omega
    | succ n =>
      rw [w2_becomes_b18]
      exact br_t (nI_le (a := 40) (by omega) (by omega)) (h Y f1 (fun j hj => f2 j (by omega)))
  | succ f ih =>
    intro i n Y e hn f1 f2
    cases n with
    | zero => omega
    | succ n =>
      rw [w2_becomes_b18]
      refine br_f (nI_ge (b := 40) (by omega) (by decide)) ⟨vpl _ _ (by omega) (by decide), ?_⟩
      rintro _ rfl _ rfl
      rw [nI_1, nI_clamp (n := i) (by omega)]
      refine ih (i + 1) n _ (by omega) (by omega) (fun k' hk => ?_) (fun j hj => ?_)
      · rw [up_r hk]; exact f1 k' hk
      · by_cases ej : j = i
        · subst ej; exact up_s
        · rw [up_j ej]; exact f2 j (by omega)
theorem x_becomes {k n : Nat} {so : Int32} {Q : S0 → Prop} (hn : n ≤ 40) (h : ∀ X' : S0, (∀ k', k' ≠ k → k' ≠ k + 1 → X' k' = X k') → X' k 1 = so → X' k 2 = nI n → (∀ j, j < 40 → X' (k + 1) j = 0) → Q X') : w2_becomes g k X so (nI n) Q := by
  unfold w2_becomes
  rintro _ rfl
  refine x_bounded ?_
  have e : bnd (nI n) 0 40 = nI n := by
    unfold bnd
    rw [if_neg (nI_pos (by omega)), if_neg (show ¬ (40 : Int32) < nI n from nI_nlt (a := 40) (b := n) hn (by decide))]
  rw [e]
  rintro _ rfl
  refine ⟨41, x_becomes_b (up (up X k 1 so) k 2 (nI n)) (fun X' f1 f2 => h X' (fun k' a b => ?_) ?_ ?_ f2) 40 0 41 _ rfl (by decide) (fun _ _ => rfl) (fun j hj => absurd hj (Nat.not_lt_zero j))⟩
  · rw [f1 k' b, up_r a, up_r a]
  · rw [f1 k (by omega), up_j (by decide), up_s]
  · rw [f1 k (by omega), up_s]
theorem r40 (i j : Nat) : ((40 : Int32) * nI i) + nI j = nI (40 * i + j) := by
  have e : (40 : Int32) * nI i = nI (40 * i) := nI_mul 40 i
  rw [e, nI_add]
theorem m_sheet_b {i n so : Nat} {Q : Int32 → S0 → Prop} (hi : i < 4) (hn : n ≤ 40) (hs : so < 3) (M0 : S0) (h : ∀ M' : S0, (∀ k j, (k ≠ 11 ∨ ¬ (40 * i ≤ j ∧ j < 40 * i + 40)) → M' k j = M0 k j) → (∀ j, j < n → M' 11 (40 * i + j) = 0) → Q 1 M') : ∀ (f j m : Nat) (Y : S0), j + f = n → f < m → (∀ k j, (k ≠ 11 ∨ ¬ (40 * i ≤ j ∧ j < 40 * i + 40)) → Y k j = M0 k j) → (∀ j', j' < j → Y 11 (40 * i + j') = 0) → w6_sheet_b77 Q m Y (nI i) (nI so) (nI n) (nI j) := by
  intro f
  induction f with
  | zero =>
    intro j m Y e hm f1 f2
    cases m with
    | zero => omega
    | succ m =>
      rw [w6_sheet_b77]
      exact br_t (nI_le (by omega) (by omega)) (h Y f1 (fun j' hj => f2 j' (by omega)))
  | succ f ih =>
    intro j m Y e hm f1 f2
    cases m with
    | zero => omega
    | succ m =>
      rw [w6_sheet_b77, r40, nI_clamp (n := 40 * i + j) (by omega)]
      refine br_f (nI_ge (by omega) (by omega)) (br_f (nI_pos (by omega)) ⟨vpl _ _ (by omega) (by decide), ?_⟩)
      rintro _ rfl _ rfl
      rw [nI_1]
      refine ih (j + 1) m _ (by omega) (by omega) (fun k j' a => ?_) (fun j' hj => ?_)
      · by_cases ek : k = 11
        · subst ek
          rw [up_j (by omega)]; exact f1 11 j' a
        · rw [up_k ek]; exact f1 k j' a
      · by_cases ej : j' = j
        · subst ej; exact up_s
        · rw [up_j (by omega)]; exact f2 j' (by omega)
theorem op_sheet (h : Rel tv nT κ g X M) (p1 p2 p3 : Int32) : w5_sheet g X p1 p2 p3 (fun r X' => w6_sheet M p1 p2 p3 (fun r' M' => Owes tv nT g r X' r' M')) := by
  unfold w5_sheet
  refine x_sheetAt (fun c => ⟨fun _ => ?_, fun k e => (by cases e)⟩) (fun i hi ei => ⟨fun e => (by cases e), fun k e => ?_⟩)
  · unfold w6_sheet
    refine m_isSheet ?_
    rw [b01]
    exact br_t c ⟨rfl, _, h⟩
  · obtain rfl : 58 + 2 * i = k := Option.some.inj e
    subst ei
    have lt2 : ∀ x : Int32, (¬ x < -1 ∧ ¬ (2 : Int32) < x) → x = -1 ∨ ∃ so, so < 3 ∧ x = nI so := by
      intro x hx
      by_cases c : x < 0
      · left
        apply Int32.toInt_inj.mp
        have a := Int32.lt_iff_toInt_lt.mp c
        have b := hx.1
        rw [Int32.lt_iff_toInt_lt] at b
        rw [show (0 : Int32).toInt = 0 by decide] at a
        rw [show (-1 : Int32).toInt = -1 by decide] at b ⊢
        omega
      · obtain ⟨j, hj, rfl⟩ := rng (k := 2) (by decide) ⟨c, hx.2⟩
        exact Or.inr ⟨j, by omega, rfl⟩
    have md : ∀ (r : Int32) (X' : S0), (¬ (¬ p2 < -1 ∧ ¬ (2 : Int32) < p2) → Owes tv nT g r X' (-2) M) → (p2 = -1 → ∀ M' : S0, (∀ k j, ((k = 8 ∨ k = 9 ∨ k = 10) → j ≠ i) → M' k j = M k j) → M' 8 i = 0 → Owes tv nT g r X' 1 M') → (∀ so, so < 3 → p2 = nI so → (¬ p3 ≤ 40 → Owes tv nT g r X' (-2) M) ∧ (p3 ≤ 40 → ¬ 0 ≤ p3 → Owes tv nT g r X' (-14) M) ∧ ∀ n, n ≤ 40 → p3 = nI n → ∀ M' : S0, (∀ k j, ((k = 8 ∨ k = 9 ∨ k = 10) → j ≠ i) → (k = 11 → ¬ (40 * i ≤ j ∧ j < 40 * i + 40)) → M' k j = M k j) → M' 8 i = 1 → M' 9 i = nI so → M' 10 i = nI n → (∀ j, j < n → M' 11 (40 * i + j) = 0) → Owes tv nT g r X' 1 M') → w6_sheet M (nI i) p2 p3 (fun r' M' => Owes tv nT g r X' r' M') := by
      intro r X' a1 a2 a3
      have vi := vpl i 4 hi (by decide)
      unfold w6_sheet
      refine m_isSheet ?_
      rw [b01]
      refine br_f (fun z => z (isS_nI hi)) (m_in32 (b := -1) (c := 2) ?_)
      rw [b01]
      by_cases c : ¬ p2 < -1 ∧ ¬ (2 : Int32) < p2
      · refine br_f (fun z => z c) ?_
        rcases lt2 p2 c with e2 | ⟨so, hs, e2⟩
        · subst e2
          refine br_t (by decide) ?_
          unfold w6_sheet_b34
          rw [nI_clamp (n := i) (by omega)]
          refine br_t (by decide) (br_t (by decide) ⟨vi, ?_⟩)
          rintro _ rfl
          refine ⟨vi, ?_⟩
          rintro _ rfl
          refine ⟨vi, ?_⟩
          rintro _ rfl
          refine ⟨1, ?_⟩
          rw [w6_sheet_b77]
          have fin := a2 rfl (up (up (up M 8 i 0) 9 i (-1)) 10 i p3) (fun k j hj => ?_) ?_
          · exact ⟨fun _ => fin, fun _ => br_t (by decide) fin⟩
          · by_cases k10 : k = 10
            · subst k10; rw [up_j (hj (by omega)), up_k (by decide), up_k (by decide)]
            · rw [up_k k10]
              by_cases k9 : k = 9
              · subst k9; rw [up_j (hj (by omega)), up_k (by decide)]
              · rw [up_k k9]
                by_cases k8 : k = 8
                · subst k8; rw [up_j (hj (by omega))]
                · rw [up_k k8]
          · rw [up_k (by decide), up_k (by decide), up_s]
        · subst e2
          obtain ⟨b1, b2, b3⟩ := a3 so hs rfl
          refine br_f (nI_pos (by omega)) ⟨fun c4 => ?_, fun c4 => b1 c4⟩
          unfold w6_sheet_b34
          rw [nI_clamp (n := i) (by omega)]
          refine br_f (nI_pos (by omega)) ⟨fun c5 => br_f (nI_pos (by omega)) ⟨vi, ?_⟩, fun c5 => b2 c4 c5⟩
          obtain ⟨n, hn, rfl⟩ := rng (k := 40) (by decide) ⟨Int32.not_lt.mpr c5, Int32.not_lt.mpr c4⟩
          rintro _ rfl
          refine ⟨vi, ?_⟩
          rintro _ rfl
          refine ⟨vi, ?_⟩
          rintro _ rfl
          refine ⟨n + 1, m_sheet_b hi hn hs (up (up (up M 8 i 1) 9 i (nI so)) 10 i (nI n)) (fun M' f1 f2 => b3 n hn rfl M' (fun k j hj h11 => ?_) ?_ ?_ ?_ f2) n 0 (n + 1) _ (Nat.zero_add _) (Nat.lt_succ_self _) (fun _ _ _ => rfl) (fun j hj => absurd hj (Nat.not_lt_zero j))⟩
          · rw [f1 k j (by omega)]
            by_cases k10 : k = 10
            · subst k10; rw [up_j (hj (by omega)), up_k (by decide), up_k (by decide)]
            · rw [up_k k10]
              by_cases k9 : k = 9
              · subst k9; rw [up_j (hj (by omega)), up_k (by decide)]
              · rw [up_k k9]
                by_cases k8 : k = 8
                · subst k8; rw [up_j (hj (by omega))]
                · rw [up_k k8]
          · rw [f1 8 i (by omega), up_k (by decide), up_k (by decide), up_s]
          · rw [f1 9 i (by omega), up_k (by decide), up_s]
          · rw [f1 10 i (by omega), up_s]
      · exact br_t c (a1 c)
    refine x_within ?_
    rw [b01]
    by_cases c : ¬ p2 < -1 ∧ ¬ (2 : Int32) < p2
    · refine s_t (fun z => z c) ?_
      rcases lt2 p2 c with e2 | ⟨so, hs, e2⟩
      · subst e2
        refine s_f rfl ⟨isSh hi, x_becomes (n := 0) (by decide) (fun X' f1 f2 f3 f4 => ?_)⟩
        refine md _ _ (fun z => absurd c z) (fun _ M' q1 q2 => ⟨rfl, κ, h.sh hi f1 (fun k j a _ => q1 k j a) (Or.inl ⟨f2, q2⟩)⟩) (fun so hs z => absurd z.symm (nI_nm1 (by omega)))
      · subst e2
        refine s_t (nI_nm1 (by omega)) ⟨fun c4 => ⟨fun c5 => ⟨isSh hi, ?_⟩, fun c5 => ?_⟩, fun c4 => ?_⟩
        · obtain ⟨n, hn, rfl⟩ := rng (k := 40) (by decide) ⟨Int32.not_lt.mpr c5, Int32.not_lt.mpr c4⟩
          refine x_becomes hn (fun X' f1 f2 f3 f4 => ?_)
          refine md _ _ (fun z => absurd c z) (fun z => absurd z (nI_nm1 (by omega))) (fun so' hs' z => ⟨fun z => absurd c4 z, fun _ z => absurd c5 z, fun n' hn' e' M' q1 q2 q3 q4 q5 => ?_⟩)
          have e1 := (nI_eq (by omega) (by omega)).mp z
          have e2 := (nI_eq (by omega) (by omega)).mp e'
          subst e1
          subst e2
          exact ⟨rfl, κ, h.sh hi f1 q1 (Or.inr ⟨so, n, hs, hn, f2, f3, q2, q3, q4, fun j hj => by rw [f4 j (by omega), q5 j hj]⟩)⟩
        · refine md _ _ (fun z => absurd c z) (fun z => absurd z (nI_nm1 (by omega))) (fun so' hs' z => ⟨fun z => absurd c4 z, fun _ _ => ⟨rfl, κ, h⟩, fun n' hn' e' => absurd (by rw [e']; exact nI_pos' (by omega)) c5⟩)
        · refine md _ _ (fun z => absurd c z) (fun z => absurd z (nI_nm1 (by omega))) (fun so' hs' z => ⟨fun _ => ⟨rfl, κ, h⟩, fun z => absurd z c4, fun n' hn' e' => absurd (by rw [e']; exact nI_le (b := 40) hn' (by decide)) c4⟩)
    · refine s_f c (md _ _ (fun _ => ⟨rfl, κ, h⟩) (fun z => absurd (by rw [z]; decide) c) (fun so hs z => absurd (by rw [z]; exact ⟨fun w => nI_pos (n := so) (by omega) (Int32.lt_trans w (by decide)), nI_nlt (a := 2) (b := so) (by omega) (by decide)⟩) c))
end SHT
