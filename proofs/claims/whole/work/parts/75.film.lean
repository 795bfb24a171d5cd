/-! film -/
theorem as_k : ∀ k, k < 1000 → (nI k).toInt16.toInt32 = nI k := by decide +kernel
theorem as_id {v : Int32} (h : -1 ≤ v.toInt ∧ v.toInt ≤ 999) : asS 1 v = v := by
  show v.toInt16.toInt32 = v
  by_cases c : v < 0
  · have e : v = -1 := by
      apply Int32.toInt_inj.mp
      have a := Int32.lt_iff_toInt_lt.mp c
      rw [show (0 : Int32).toInt = 0 by decide] at a
      rw [show (-1 : Int32).toInt = -1 by decide]
      omega
    rw [e]; decide
  · obtain ⟨k, hk, rfl⟩ := nI_of c
    rw [nI_toInt hk] at h
    exact as_k k (by omega)
def pwV (tv : TV) (κ : CS) (i q : Nat) : Int32 := if q = i then 0 else powS tv κ i q
theorem pw_as (tv : TV) (κ : CS) (i q : Nat) : asS 1 (pwV tv κ i q) = pwV tv κ i q := by
  refine as_id ?_
  unfold pwV
  by_cases c : q = i
  · rw [if_pos c]; decide
  · rw [if_neg c]; exact pow_b tv κ i q
section FLM
variable {tv : TV} {nT : Nat} {κ : CS} {g : GX} {X M : S0}
theorem m_sheet1 {i so n : Nat} {Q : Int32 → S0 → Prop} (hi : i < 4) (hs : so < 3) (hn : n ≤ 40) (h : ∀ M' : S0, (∀ k j, ((k = 8 ∨ k = 9 ∨ k = 10) → j ≠ i) → (k = 11 → ¬ (40 * i ≤ j ∧ j < 40 * i + 40)) → M' k j = M k j) → M' 8 i = 1 → M' 9 i = nI so → M' 10 i = nI n → Q 1 M') : w6_sheet M (nI i) (nI so) (nI n) Q := by
  have vi := vpl i 4 hi (by decide)
  unfold w6_sheet
  refine m_isSheet ?_
  rw [b01]
  refine br_f (fun z => z (isS_nI hi)) (m_in32 (b := -1) (c := 2) ?_)
  rw [b01]
  have c2 : ¬ nI so < -1 ∧ ¬ (2 : Int32) < nI so := ⟨fun w => nI_pos (n := so) (by omega) (Int32.lt_trans w (by decide)), nI_nlt (a := 2) (b := so) (by omega) (by decide)⟩
  refine br_f (fun z => z c2) (br_f (nI_pos (by omega)) ⟨fun c4 => ?_, fun c4 => absurd (nI_le (b := 40) hn (by decide)) c4⟩)
  unfold w6_sheet_b34
  rw [nI_clamp (n := i) (by omega)]
  refine br_f (nI_pos (by omega)) ⟨fun c5 => br_f (nI_pos (by omega)) ⟨vi, ?_⟩, fun c5 => absurd (nI_pos' (by omega)) c5⟩
  rintro _ rfl
  refine ⟨vi, ?_⟩
  rintro _ rfl
  refine ⟨vi, ?_⟩
  rintro _ rfl
  refine ⟨n + 1, m_sheet_b hi hn hs (up (up (up M 8 i 1) 9 i (nI so)) 10 i (nI n)) (fun M' f1 f2 => h M' (fun k j hj h11 => ?_) ?_ ?_ ?_) n 0 (n + 1) _ (Nat.zero_add _) (Nat.lt_succ_self _) (fun _ _ _ => rfl) (fun j hj => absurd hj (Nat.not_lt_zero j))⟩
  · rw [f1 k j (by omega)]
    by_cases k10 : k = 10
    · subst k10; rw [up_j (hj (by omega)), up_k (by decide), up_k (by decide)]
    · rw [up_k k10]
      by_cases k9 : k = 9
      · subst k9; rw [up_j (hj (by omega)), up_k (by decide)]
      · rw [up_k k9]
        by_cases k8 : k = 8
        · subst k8; rw [up_j (hj (by omega))]
        · rw [up_k k8]
  · rw [f1 8 i (by omega), up_k (by decide), up_k (by decide), up_s]
  · rw [f1 9 i (by omega), up_k (by decide), up_s]
  · rw [f1 10 i (by omega), up_s]
theorem x_film_b {i sh : Nat} {Q : Int32 → S0 → Prop} (hsh : 58 ≤ sh) (hsh2 : sh + 1 < 66) (hI : IC κ) (ht : cT κ < nT) (hi : i < cN κ) (X0 : S0) (hX0 : RelX 10 κ X0) (hT0 : TX tv nT g X0) (h1 : X0 sh 1 = nI 1) (h2 : X0 sh 2 = nI (cN κ)) (h : ∀ X' : S0, (∀ k, k ≠ 3 → k ≠ 4 → k ≠ sh + 1 → X' k = X0 k) → (∀ j, j < cN κ → X' (sh + 1) j = pwV tv κ i j) → Q (nI (cN κ)) X') : ∀ (f q n : Nat) (X : S0), q + f = cN κ → f < n → (∀ k, k ≠ 3 → k ≠ 4 → k ≠ sh + 1 → X k = X0 k) → (∀ j, j < q → X (sh + 1) j = pwV tv κ i j) → w5_film_b39 g Q n X (nI i) sh (nI q) := by
  have i1 := hI.1
  intro f
  induction f with
  | zero =>
    intro q n X e hn f1 f2
    cases n with
    | zero => omega
    | succ n =>
      rw [w5_film_b39, f1 10 (by omega) (by omega) (by omega), hX0.1]
      exact br_t (nI_le (by omega) (by omega)) (h X f1 (fun j hj => f2 j (by omega)))
  | succ f ih =>
    intro q n X e hn f1 f2
    cases n with
    | zero => omega
    | succ n =>
      rw [w5_film_b39, f1 10 (by omega) (by omega) (by omega), hX0.1]
      have fe : ∀ r, r ≤ 5 → X (10 + r) = X0 (10 + r) := fun r hr => f1 _ (by omega) (by omega) (by omega)
      have hX : RelX 10 κ X := by
        unfold RelX
        rw [f1 10 (by omega) (by omega) (by omega), fe 1 (by omega), fe 2 (by omega), fe 3 (by omega), fe 4 (by omega), fe 5 (by omega)]
        exact hX0
      have hT : TX tv nT g X := hT0.fr (fun k hk => f1 k (by omega) (by omega) (by omega)) (f1 2 (by omega) (by omega) (by omega))
      have fin : ∀ X1 : S0, FX X X1 → w2_put g sh X1 (nI q) (pwV tv κ i q) (fun M11 => ∀ x12 : Int32, x12 = nI q + (1 : Int32) → (w5_film_b39 g Q n M11 (nI i) sh x12)) := by
        intro X1 g1
        have gs : X1 sh = X0 sh := by rw [g1 sh (by omega) (by omega)]; exact f1 sh (by omega) (by omega) (by omega)
        refine x_put (n := cN κ) (so := 1) (by omega) (by rw [gs]; exact h1) (by decide) (by rw [gs]; exact h2) (by omega) ?_
        rintro _ rfl
        rw [nI_1, pw_as]
        refine ih (q + 1) n _ (by omega) (by omega) (fun k a b c => ?_) (fun j hj => ?_)
        · rw [up_r c, g1 k a b]; exact f1 k a b c
        · by_cases ej : j = q
          · subst ej; exact up_s
          · rw [up_j ej, g1 (sh + 1) (by omega) (by omega)]; exact f2 j (by omega)
      refine br_f (nI_ge (by omega) (by omega)) ?_
      by_cases c : q = i
      · have z := fin X FX.rf
        unfold pwV at z
        rw [if_pos c] at z
        subst c
        exact x_power0 hX i1 z
      · refine x_power (by decide) (by decide) hX hI hT ht hi (by omega) (fun z => c z.symm) (fun X1 g1 => ?_)
        have z := fin X1 g1
        unfold pwV at z
        rw [if_neg c] at z
        exact z
theorem m_film_b {i sh : Nat} {Q : Int32 → S0 → Prop} (hsh : sh < 4) (hI : IC κ) (ht : cT κ < nT) (hi : i < cN κ) (M0 : S0) (hM0 : RelM κ M0) (hT0 : TM tv nT M0) (h : ∀ M' : S0, (∀ k j, (k ≠ 0 ∨ j < 12 ∨ (26 < j ∧ j ≠ 100)) → (k ≠ 11 ∨ ¬ (40 * sh ≤ j ∧ j < 40 * sh + 40)) → M' k j = M0 k j) → (∀ j, j < cN κ → M' 11 (40 * sh + j) = pwV tv κ i j) → Q (nI (cN κ)) M') : ∀ (f q n : Nat) (M : S0), q + f = cN κ → f < n → (∀ k j, (k ≠ 0 ∨ j < 12 ∨ (26 < j ∧ j ≠ 100)) → (k ≠ 11 ∨ ¬ (40 * sh ≤ j ∧ j < 40 * sh + 40)) → M k j = M0 k j) → (∀ j, j < q → M 11 (40 * sh + j) = pwV tv κ i j) → w6_film_b31 Q n M (nI sh) (nI i) (nI q) := by
  have i1 := hI.1
  intro f
  induction f with
  | zero =>
    intro q n M e hn f1 f2
    cases n with
    | zero => omega
    | succ n =>
      rw [w6_film_b31, f1 0 11 (by omega) (by omega), hM0.1]
      exact br_t (nI_le (by omega) (by omega)) (h M f1 (fun j hj => f2 j (by omega)))
  | succ f ih =>
    intro q n M e hn f1 f2
    cases n with
    | zero => omega
    | succ n =>
      rw [w6_film_b31, f1 0 11 (by omega) (by omega), hM0.1, r40, nI_clamp (n := 40 * sh + q) (by omega)]
      have hM : RelM κ M := by
        obtain ⟨a1, a2, a3, a4, a5⟩ := hM0
        refine ⟨by rw [f1 0 11 (by omega) (by omega)]; exact a1, by rw [f1 0 8 (by omega) (by omega)]; exact a2, by rw [f1 0 7 (by omega) (by omega)]; exact a3, by rw [f1 0 4 (by omega) (by omega)]; exact a4, fun p hp => ?_⟩
        rw [f1 4 p (by omega) (by omega), f1 5 (4 * p) (by omega) (by omega), f1 5 (4 * p + 1) (by omega) (by omega), f1 5 (4 * p + 2) (by omega) (by omega), f1 5 (4 * p + 3) (by omega) (by omega)]
        exact a5 p hp
      have hT : TM tv nT M := hT0.fr (fun r _ j _ => f1 1 _ (by omega) (by omega)) (fun r _ => f1 2 _ (by omega) (by omega))
      have eq : nI q = nI i ↔ q = i := nI_eq (by omega) (by omega)
      rw [eq]
      have fin : ∀ M1 : S0, ScM M M1 → w6_film_b31 Q n (up M1 11 (40 * sh + q) (pwV tv κ i q)) (nI sh) (nI i) (nI (q + 1)) := by
        intro M1 g1
        refine ih (q + 1) n _ (by omega) (by omega) (fun k j a b => ?_) (fun j hj => ?_)
        · by_cases ek : k = 11
          · subst ek
            rw [up_j (by omega), g1 11 j (by omega)]
            exact f1 11 j a b
          · rw [up_k ek, g1 k j a]; exact f1 k j a b
        · by_cases ej : j = q
          · subst ej; exact up_s
          · rw [up_j (by omega), g1 11 _ (by omega)]; exact f2 j (by omega)
      unfold pwV at fin
      refine br_f (nI_ge (by omega) (by omega)) ⟨fun c => m_powerOf hM hI hT ht hi (by omega) (fun M1 g1 => ⟨vpl _ _ (by omega) (by decide), ?_⟩), fun c => ⟨vpl _ _ (by omega) (by decide), ?_⟩⟩
      · rintro _ rfl _ rfl
        rw [nI_1]
        have z := fin M1 g1
        rw [if_neg c] at z
        exact z
      · rintro _ rfl _ rfl
        rw [nI_1]
        have z := fin M ScM.rf
        rw [if_pos c] at z
        exact z
theorem op_film (h : Rel tv nT κ g X M) (p1 p2 : Int32) : w5_film g X p1 p2 (fun r X' => w6_film M p1 p2 (fun r' M' => Owes tv nT g r X' r' M')) := by
  have H := h
  obtain ⟨hX, hM, hI, hr, ht, hO⟩ := h
  have i1 := hI.1
  unfold w5_film
  have no : ∀ X1 : S0, X1 = X → (¬ (¬ p1 < 0 ∧ ¬ (3 : Int32) < p1) ∨ ¬ isP (cN κ) p2) → w6_film M p1 p2 (fun r' M' => Owes tv nT g (-2) X1 r' M') := by
    intro X1 eX hor
    subst eX
    unfold w6_film
    refine m_isSheet ?_
    rw [b01]
    refine ⟨fun _ => ⟨rfl, _, H⟩, fun c1 => m_isOne hM.1 i1 ?_⟩
    rw [b01]
    refine ⟨fun c2 => ?_, fun _ => ⟨rfl, _, H⟩⟩
    rcases hor with z | z
    · exact absurd z c1
    · exact absurd z c2
  refine x_sheetAt (fun c => ⟨fun _ => no X rfl (Or.inl c), fun k e => (by cases e)⟩) (fun sh hsh esh => ⟨fun e => (by cases e), fun k e => x_isPlayer hX.1 i1 ?_⟩)
  obtain rfl : 58 + 2 * sh = k := Option.some.inj e
  subst esh
  rw [b01]
  refine ⟨fun c => ⟨isSh hsh, ?_⟩, fun c => no X rfl (Or.inr c)⟩
  have c := Classical.not_not.mp c
  obtain ⟨i, hi, rfl⟩ := isP_of c (by omega)
  rw [hX.1]
  refine x_becomes (n := cN κ) (by omega) (fun X1 f1 f2 f3 f4 => ⟨cN κ + 1, ?_⟩)
  have R1 : RelX 10 κ X1 := by
    have fe : ∀ r, r ≤ 5 → X1 (10 + r) = X (10 + r) := fun r hr => f1 _ (by omega) (by omega)
    unfold RelX
    rw [f1 10 (by omega) (by omega), fe 1 (by omega), fe 2 (by omega), fe 3 (by omega), fe 4 (by omega), fe 5 (by omega)]
    exact hX
  have T1 : TX tv nT g X1 := hO.1.fr (fun k hk => f1 k (by omega) (by omega)) (f1 2 (by omega) (by omega))
  refine x_film_b (by omega) (by omega) hI ht hi X1 R1 T1 f2 f3 (fun X2 g1 g2 => ?_) (cN κ) 0 _ X1 (Nat.zero_add _) (Nat.lt_succ_self _) (fun _ _ _ _ => rfl) (fun j hj => absurd hj (Nat.not_lt_zero j))
  unfold w6_film
  refine m_isSheet ?_
  rw [b01]
  refine br_f (fun z => z (isS_nI hsh)) (m_isOne hM.1 i1 ?_)
  rw [b01, hM.1]
  refine s_t (fun z => z c) ?_
  have e1 : (1 : Int32) = nI 1 := rfl
  rw [e1]
  refine m_sheet1 hsh (by decide) (by omega) (fun M1 a1 a2 a3 a4 => ⟨cN κ + 1, ?_⟩)
  have RM1 : RelM κ M1 := by
    obtain ⟨b1, b2, b3, b4, b5⟩ := hM
    refine ⟨by rw [a1 0 11 (by omega) (by omega)]; exact b1, by rw [a1 0 8 (by omega) (by omega)]; exact b2, by rw [a1 0 7 (by omega) (by omega)]; exact b3, by rw [a1 0 4 (by omega) (by omega)]; exact b4, fun p hp => ?_⟩
    rw [a1 4 p (by omega) (by omega), a1 5 (4 * p) (by omega) (by omega), a1 5 (4 * p + 1) (by omega) (by omega), a1 5 (4 * p + 2) (by omega) (by omega), a1 5 (4 * p + 3) (by omega) (by omega)]
    exact b5 p hp
  have TM1 : TM tv nT M1 := hO.2.1.fr (fun r _ j _ => a1 1 _ (by omega) (by omega)) (fun r _ => a1 2 _ (by omega) (by omega))
  refine m_film_b hsh hI ht hi M1 RM1 TM1 (fun M2 q1 q2 => ⟨rfl, κ, ?_⟩) (cN κ) 0 _ M1 (Nat.zero_add _) (Nat.lt_succ_self _) (fun _ _ _ _ => rfl) (fun j hj => absurd hj (Nat.not_lt_zero j))
  have ft : FT X (fun k => if k = 58 + 2 * sh ∨ k = 58 + 2 * sh + 1 then X k else X2 k) := fun k a b d => by
    show (if k = 58 + 2 * sh ∨ k = 58 + 2 * sh + 1 then X k else X2 k) = X k
    by_cases ek : k = 58 + 2 * sh ∨ k = 58 + 2 * sh + 1
    · rw [if_pos ek]
    · rw [if_neg ek, g1 k a b (by omega)]; exact f1 k (by omega) (by omega)
  have sm : ScM M (fun k j => if k = 0 then M2 k j else M k j) := fun k j a => by
    show (if k = 0 then M2 k j else M k j) = M k j
    by_cases ek : k = 0
    · subst ek
      rw [if_pos rfl, q1 0 j a (by omega)]
      exact a1 0 j (by omega) (by omega)
    · rw [if_neg ek]
  refine (H.keep ft sm.q).sh hsh (fun k a b => (if_neg (by omega)).symm) (fun k j a b => ?_) (Or.inr ⟨1, cN κ, by decide, by omega, ?_, ?_, ?_, ?_, ?_, fun j hj => ?_⟩)
  · show M2 k j = (if k = 0 then M2 k j else M k j)
    by_cases ek : k = 0
    · rw [if_pos ek]
    · rw [if_neg ek, q1 k j (Or.inl ek) (by omega)]; exact a1 k j a b
  · rw [g1 _ (by omega) (by omega) (by omega)]; exact f2
  · rw [g1 _ (by omega) (by omega) (by omega)]; exact f3
  · rw [q1 8 _ (by omega) (by omega)]; exact a2
  · rw [q1 9 _ (by omega) (by omega)]; exact a3
  · rw [q1 10 _ (by omega) (by omega)]; exact a4
  · rw [g2 j hj, q2 j hj]
end FLM
