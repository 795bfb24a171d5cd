/-! set -/
section OPS3
variable {tv : TV} {nT : Nat} {κ : CS} {g : GX} {X M : S0}
theorem mu_g {M : S0} {k j : Nat} {x : Int32} (hk : k = 4 ∨ k = 5 ∨ k = 6 ∨ (k = 0 ∧ j ≠ 3 ∧ j ≠ 6 ∧ (j ≤ 31 ∨ j = 100) ∧ j ≠ 28)) : GR M (up M k j x) := fun k' j' a b c d => by
  by_cases e : k' = k
  · subst e
    exact up_j (by omega)
  · exact up_k e
theorem xu_a {X : S0} {k j : Nat} {x : Int32} (hk : k = 3 ∨ k = 4 ∨ (10 ≤ k ∧ k ≤ 15) ∨ (22 ≤ k ∧ k < 58)) : FA X (up X k j x) := fun k' a b c => up_r (by omega)
theorem m_isValue {j : Nat} {v : Int32} {Q : Int32 → S0 → Prop} (hj : j ≤ 3) (h1 : j ≠ 1) (m : Nat) (hm : m = if j = 0 then 999 else if j = 2 then 9 else 99) (h : Q (if ¬ v < 0 ∧ ¬ nI m < v then 1 else 0) M) : w6_isValue M (nI j) v Q := by
  unfold w6_isValue
  have e : ∀ k : Nat, k < 100 → (nI j = nI k ↔ j = k) := fun k hk => nI_eq (by omega) (by omega)
  have e0 : nI j = 0 ↔ j = 0 := e 0 (by decide)
  have e1 : nI j = 1 ↔ j = 1 := e 1 (by decide)
  have e2 : nI j = 2 ↔ j = 2 := e 2 (by decide)
  rw [e0, e1, e2]
  refine s_t h1 ⟨fun c => ⟨fun c2 => ?_, fun c2 => ?_⟩, fun c => ?_⟩
  · rw [if_neg c, if_neg c2] at hm
    subst hm
    exact m_in32 (b := 0) (c := 99) ⟨narB, h⟩
  · rw [if_neg c, if_pos c2] at hm
    subst hm
    exact m_in32 (b := 0) (c := 9) ⟨narB, h⟩
  · rw [if_pos c] at hm
    subst hm
    exact m_in32 (b := 0) (c := 999) ⟨narB, h⟩
theorem in_rd {v : Int32} (h : ¬ v < 0 ∧ ¬ (999 : Int32) < v) : RdOk v := by
  obtain ⟨j, hj, rfl⟩ := rng (k := 999) (by decide) h
  unfold RdOk
  rw [nI_toInt (by omega)]
  omega
theorem m_set {j : Nat} {p v : Int32} {Q : Int32 → S0 → Prop} (hM : RelM κ M) (hI : IC κ) (hj : j ≤ 3)
    (h0 : j = 0 → (¬ v < 0 ∧ ¬ (999 : Int32) < v) → Q (cR κ) (up M 0 7 v)) (h0' : j = 0 → ¬ (¬ v < 0 ∧ ¬ (999 : Int32) < v) → Q (-1000) M)
    (h1 : j = 1 → ∀ t, t < 8 → p = nI t → ∀ o : Option Nat, (∀ i, o = some i → i < cN κ) → v = toS o → ∀ M' : S0, GM M M' → RelM (brS κ t o) M' → Q (whrF (cH κ) t (cN κ) 0) M') (h1' : j = 1 → ¬ ((¬ p < 0 ∧ ¬ (7 : Int32) < p) ∧ (v = -1 ∨ isP (cN κ) v)) → Q (-1000) M)
    (h2 : 2 ≤ j → ∀ i, i < cN κ → p = nI i → (¬ v < 0 ∧ ¬ nI (if j = 2 then 9 else 99) < v) → Q (toldS κ i j) (up M 5 (4 * i + (j - 2)) v)) (h2' : 2 ≤ j → ¬ (isP (cN κ) p ∧ (¬ v < 0 ∧ ¬ nI (if j = 2 then 9 else 99) < v)) → Q (-1000) M) : w6_set M (nI j) p v Q := by
  have i1 := hI.1
  unfold w6_set
  refine m_in32 (b := 0) (c := 3) ?_
  rw [b01]
  refine br_f (fun z => z (rng2 hj (by decide))) ?_
  have e : ∀ m : Nat, m < 100 → (nI j = nI m ↔ j = m) := fun m hm => nI_eq (by omega) (by omega)
  have e0 : nI j = 0 ↔ j = 0 := e 0 (by decide)
  have e1 : nI j = 1 ↔ j = 1 := e 1 (by decide)
  have el : (4 : Int32) ≤ nI j ↔ 4 ≤ j := nI_leI (a := 4) (by decide) (by omega)
  rcases (by omega : j = 0 ∨ j = 1 ∨ 2 ≤ j) with k | k | k2
  · subst k
    refine m_isOf0 (br_f (by decide) (m_isValue (by omega) (by decide) 999 rfl ?_))
    rw [b01]
    by_cases c : ¬ v < 0 ∧ ¬ (999 : Int32) < v
    · refine s_t (fun z => z c) (m_told hM hI (by decide) (fun _ => ?_) (fun z => absurd z (by decide)) (fun z => absurd z (by decide)))
      unfold w6_lays
      refine s_f rfl ?_
      rintro _ rfl
      exact h0 rfl c
    · exact s_f c (h0' rfl c)
  · subst k
    refine m_isOf1 ?_
    rw [b01]
    by_cases c : ¬ p < 0 ∧ ¬ (7 : Int32) < p
    · refine br_f (fun z => z c) ?_
      obtain ⟨t, ht, rfl⟩ := rng (k := 7) (by decide) c
      unfold w6_isValue
      have go : ∀ o : Option Nat, (∀ i, o = some i → i < cN κ) → v = toS o → w6_told M (nI t) (nI 1) (fun r8 M7 => w6_lays M7 (nI 1) (nI t) v (fun M9 => Q r8 M9)) := by
        intro o ho ev
        refine m_told hM hI (by decide) (fun z => absurd z (by decide)) (fun _ => ?_) (fun z => absurd z (by decide))
        rw [if_pos c, nI_clamp (by omega)]
        unfold w6_lays
        refine s_t (by decide) (s_f rfl ?_)
        rw [ev]
        exact m_moves hM hI (by omega) ho (h1 rfl t (by omega) rfl o ho ev)
      refine s_f rfl ⟨fun c2 => s_t (by decide) (go none (fun _ z => by cases z) c2), fun c2 => m_isOne hM.1 i1 ?_⟩
      rw [b01]
      by_cases c3 : isP (cN κ) v
      · obtain ⟨i, hi, rfl⟩ := isP_of c3 (by omega)
        exact br_f (fun z => z c3) (s_t (by decide) (go (some i) (fun _ z => by cases z; exact hi) rfl))
      · exact br_t c3 (s_f rfl (h1' rfl (fun z => z.2.elim c2 c3)))
    · exact br_t c (h1' rfl (fun z => c z.1))
  · refine m_isOf2 hM i1 k2 (by omega) ?_
    rw [b01]
    by_cases c : isP (cN κ) p
    · refine br_f (fun z => z c) (m_isValue (by omega) (by omega) (if j = 2 then 9 else 99) (by rw [if_neg (show ¬ j = 0 by omega)]) ?_)
      rw [b01]
      by_cases c2 : ¬ v < 0 ∧ ¬ nI (if j = 2 then 9 else 99) < v
      · obtain ⟨i, hi, rfl⟩ := isP_of c (by omega)
        refine s_t (fun z => z c2) (m_told hM hI (by omega) (fun z => absurd z (by omega)) (fun z => absurd z (by omega)) (fun _ => ⟨fun i' hi' e' => ?_, fun z => absurd c z⟩))
        have := (nI_eq (by omega) (by omega)).mp e'
        subst this
        unfold w6_lays
        rw [e0, e1, el, rwk i j k2, nI_clamp (n := 4 * i + (j - 2)) (by omega)]
        refine s_t (by omega) (s_t (by omega) (br_f (by omega) ⟨vpl _ _ (by omega) (by decide), ?_⟩))
        rintro _ rfl
        exact h2 k2 i hi rfl c2
      · exact s_f c2 (h2' k2 (fun z => c2 z.2))
    · exact br_t c (h2' k2 (fun z => c z.1))
theorem x_setOf {j i : Nat} {v : Int32} {Q : Int32 → S0 → Prop} (hX : RelX 10 κ X) (hI : IC κ) (hj : j = 2 ∨ j = 3) {m : Int32} {p : Int32} (h : ∀ i, i < cN κ → p = nI i → (¬ v < 0 ∧ ¬ m < v) → Q (X (10 + j) i) (up X (10 + j) i v)) (h' : ¬ (isP (cN κ) p ∧ (¬ v < 0 ∧ ¬ m < v)) → Q (-1000) X) : w5_setOf g (10 + j) X p v m Q := by
  have i1 := hI.1
  unfold w5_setOf
  refine x_isPlayer hX.1 i1 ?_
  rw [b01]
  by_cases c : isP (cN κ) p
  · obtain ⟨i, hi, rfl⟩ := isP_of c (by omega)
    refine br_f (fun z => z c) (br_f (nI_ge (b := 6) (by omega) (by decide)) (x_within ?_))
    rw [b01]
    by_cases c2 : ¬ v < 0 ∧ ¬ m < v
    · refine s_t (fun z => z c2) ⟨vpl _ _ (by omega) (by decide), ?_⟩
      rintro _ rfl
      refine ⟨vpl _ _ (by omega) (by decide), ?_⟩
      rintro _ rfl
      rw [nI_clamp (n := i) (by omega)]
      exact h i hi rfl c2
    · exact s_f c2 (h' (fun z => c2 z.2))
  · exact br_t c (h' (fun z => c z.1))
theorem rel_up {κ2 : CS} {X' M' : S0} (H : Rel tv nT κ g X M) (R : RelX 10 κ2 X') (R2 : RelM κ2 M') (hI : IC κ2) (hr : RdOk (cR κ2)) (ht : cT κ2 < nT) (hN : cN κ2 = cN κ) (hK : cK κ2 = cK κ) (fa : FA X X') (fg : GR M M') : Rel tv nT κ2 g X' M' := ⟨R, R2, hI, hr, ht, H.2.2.2.2.2.fr hN hK fa fg⟩
theorem op_set (h : Rel tv nT κ g X M) (p1 p2 p3 : Int32) : w5_set g X p1 p2 p3 (fun r X' => w6_set M p1 p2 p3 (fun r' M' => Owes tv nT g r X' r' M')) := by
  have H := h
  obtain ⟨hX, hM, hI, hr, ht, hO⟩ := h
  have i1 := hI.1
  have e : ∀ j : Nat, j ≤ 3 → p1.toInt = (j : Int) → p1 = nI j := fun j hj hc => ti_eq hc (nI_toInt (by omega))
  unfold w5_set
  refine ⟨fun c => ?_, fun c => ?_, fun c => ?_, fun c => ?_, fun c => ?_⟩
  · rw [e 0 (by decide) c]
    unfold w5_setRound
    refine x_within ?_
    rw [b01]
    have md : ∀ (r : Int32) (X' : S0), ((¬ p3 < 0 ∧ ¬ (999 : Int32) < p3) → Owes tv nT g r X' (cR κ) (up M 0 7 p3)) → (¬ (¬ p3 < 0 ∧ ¬ (999 : Int32) < p3) → Owes tv nT g r X' (-1000) M) → w6_set M (nI 0) p2 p3 (fun r' M' => Owes tv nT g r X' r' M') := fun r X' a b => m_set hM hI (by decide) (fun _ => a) (fun _ => b) (fun z => absurd z (by decide)) (fun z => absurd z (by decide)) (fun z => absurd z (by decide)) (fun z => absurd z (by decide))
    by_cases c2 : ¬ p3 < 0 ∧ ¬ (999 : Int32) < p3
    · refine s_t (fun z => z c2) ?_
      rintro _ rfl _ rfl
      refine md _ _ (fun _ => ⟨hX.2.2.1, (cN κ, cK κ, cU κ, cS κ, cW κ, cH κ, cL κ, p3, cT κ), rel_up H ?_ ?_ hI (in_rd c2) ht rfl rfl (xu_a (by omega)) (mu_g (by omega))⟩) (fun z => absurd c2 z)
      · obtain ⟨r1, r2, r3, r4, r5, r6⟩ := hX
        refine ⟨by rw [up_j (by decide)]; exact r1, by rw [up_j (by decide)]; exact r2, up_s, by rw [up_j (by decide)]; exact r4, fun p hp => by rw [up_k (by decide)]; exact r5 p hp, fun p hp => ?_⟩
        rw [up_k (by decide), up_k (by decide), up_k (by decide), up_k (by decide)]
        exact r6 p hp
      · obtain ⟨r1, r2, r3, r4, r5⟩ := hM
        refine ⟨by rw [up_j (by decide)]; exact r1, by rw [up_j (by decide)]; exact r2, up_s, by rw [up_j (by decide)]; exact r4, fun p hp => ?_⟩
        rw [up_k (by decide), up_k (by decide), up_k (by decide), up_k (by decide), up_k (by decide)]
        exact r5 p hp
    · exact s_f c2 (md _ _ (fun z => absurd z c2) (fun _ => ⟨rfl, _, H⟩))
  · rw [e 1 (by decide) c]
    unfold w5_setPlace
    refine x_within ?_
    rw [b01]
    have md : ∀ (r : Int32) (X' : S0), (∀ t, t < 8 → p2 = nI t → ∀ o : Option Nat, (∀ i, o = some i → i < cN κ) → p3 = toS o → ∀ M' : S0, GM M M' → RelM (brS κ t o) M' → Owes tv nT g r X' (whrF (cH κ) t (cN κ) 0) M') → (¬ ((¬ p2 < 0 ∧ ¬ (7 : Int32) < p2) ∧ (p3 = -1 ∨ isP (cN κ) p3)) → Owes tv nT g r X' (-1000) M) → w6_set M (nI 1) p2 p3 (fun r' M' => Owes tv nT g r X' r' M') := fun r X' a b => m_set hM hI (by decide) (fun z => absurd z (by decide)) (fun z => absurd z (by decide)) (fun _ => a) (fun _ => b) (fun z => absurd z (by decide)) (fun z => absurd z (by decide))
    by_cases c2 : ¬ p2 < 0 ∧ ¬ (7 : Int32) < p2
    · refine br_f (fun z => z c2) ?_
      obtain ⟨t, ht8, rfl⟩ := rng (k := 7) (by decide) c2
      have toinj : ∀ o o' : Option Nat, (∀ i, o = some i → i < cN κ) → (∀ i, o' = some i → i < cN κ) → toS o = toS o' → o = o' := by
        intro o o' a a' z
        cases o with
        | none => cases o' with
          | none => rfl
          | some i => exact absurd z.symm (nI_nm1 (by have := a' i rfl; omega))
        | some i => cases o' with
          | none => exact absurd z (nI_nm1 (by have := a i rfl; omega))
          | some i' => rw [(nI_eq (by have := a i rfl; omega) (by have := a' i' rfl; omega)).mp z]
      have go : ∀ o : Option Nat, (∀ i, o = some i → i < cN κ) → p3 = toS o → (p3 = -1 ∨ isP (cN κ) p3) → w0_placeOf g 10 X (nI t) (fun r4 M3 => w0_bring g 10 M3 (nI t) p3 (fun M5 => w6_set M (nI 1) (nI t) p3 (fun r' M' => Owes tv nT g r4 M5 r' M'))) := by
        intro o ho ev ok
        refine x_placeOf hX hI (by omega) ?_
        have k := x_bring (g := g) (t := t) (o := o) (Q := fun M5 => w6_set M (nI 1) (nI t) p3 (fun r' M' => Owes tv nT g (whrF (cH κ) t (cN κ) 0) M5 r' M')) (by decide) hX hI (by omega) ho (fun X1 f1 R1 => md _ _ (fun t' ht' et o' ho' ev' M' f2 R2 => ?_) (fun z => absurd ⟨c2, ok⟩ z))
        · rw [← ev] at k; exact k
        · have e1 := (nI_eq (by omega) (by omega)).mp et
          have e2 := toinj o o' ho ho' (ev.symm.trans ev')
          subst e1
          subst e2
          exact ⟨rfl, _, rel_up H R1 R2 (ic_br hI ht' ho) hr ht rfl rfl f1.a (f2.q (d := 0)).r⟩
      refine ⟨fun c3 => go none (fun _ z => by cases z) c3 (Or.inl c3), fun c3 => x_isPlayer hX.1 i1 ?_⟩
      rw [b01]
      by_cases c4 : isP (cN κ) p3
      · obtain ⟨i, hi, rfl⟩ := isP_of c4 (by omega)
        exact s_t (fun z => z c4) (go (some i) (fun _ z => by cases z; exact hi) rfl (Or.inr c4))
      · refine s_f c4 (md _ _ (fun t' ht' et o' ho' ev' M' f2 R2 => ?_) (fun _ => ⟨rfl, _, H⟩))
        cases o' with
        | none => exact absurd ev' c3
        | some i => exact absurd (by rw [ev']; exact isP_nI (ho' i rfl) (by omega)) c4
    · refine br_t c2 (md _ _ (fun t' ht' et o' ho' ev' M' f2 R2 => absurd (by rw [et]; exact rng2 (k := 7) (by omega) (by decide)) c2) (fun _ => ⟨rfl, _, H⟩))
  · rw [e 2 (by decide) c]
    refine x_setOf (j := 2) (i := 0) hX hI (Or.inl rfl) (fun i hi ei hv => ?_) (fun z => ?_)
    · refine m_set hM hI (by decide) (fun z => absurd z (by decide)) (fun z => absurd z (by decide)) (fun z => absurd z (by decide)) (fun z => absurd z (by decide)) (fun _ i' hi' ei' hv' => ?_) (fun _ z => absurd ⟨by rw [ei]; exact isP_nI hi (by omega), hv⟩ z)
      have e1 := (nI_eq (by omega) (by omega)).mp (ei.symm.trans ei')
      subst e1
      refine ⟨(hX.2.2.2.2.2 i hi).2.1, (cN κ, cK κ, fun j => if j = i then p3 else cU κ j, cS κ, cW κ, cH κ, cL κ, cR κ, cT κ), rel_up H ?_ ?_ hI hr ht rfl rfl (xu_a (by omega)) (mu_g (by omega))⟩
      · obtain ⟨r1, r2, r3, r4, r5, r6⟩ := hX
        refine ⟨by rw [up_k (by decide)]; exact r1, by rw [up_k (by decide)]; exact r2, by rw [up_k (by decide)]; exact r3, by rw [up_k (by decide)]; exact r4, fun p hp => by rw [up_k (by decide)]; exact r5 p hp, fun p hp => ?_⟩
        obtain ⟨q1, q2, q3, q4⟩ := r6 p hp
        refine ⟨by rw [up_k (by decide)]; exact q1, ?_, by rw [up_k (by decide)]; exact q3, by rw [up_k (by decide)]; exact q4⟩
        show _ = (if p = i then p3 else cU κ p)
        by_cases ep : p = i
        · subst ep; rw [up_s, if_pos rfl]
        · rw [up_j ep, if_neg ep]; exact q2
      · obtain ⟨r1, r2, r3, r4, r5⟩ := hM
        refine ⟨by rw [up_k (by decide)]; exact r1, by rw [up_k (by decide)]; exact r2, by rw [up_k (by decide)]; exact r3, by rw [up_k (by decide)]; exact r4, fun p hp => ?_⟩
        obtain ⟨q1, q2, q3, q4, q5⟩ := r5 p hp
        refine ⟨by rw [up_k (by decide)]; exact q1, ?_, by rw [up_j (by omega)]; exact q3, by rw [up_j (by omega)]; exact q4, by rw [up_j (by omega)]; exact q5⟩
        show _ = (if p = i then p3 else cU κ p)
        by_cases ep : p = i
        · subst ep; rw [if_pos rfl]; exact up_s
        · rw [up_j (by omega), if_neg ep]; exact q2
    · exact m_set hM hI (by decide) (fun z => absurd z (by decide)) (fun z => absurd z (by decide)) (fun z => absurd z (by decide)) (fun z => absurd z (by decide)) (fun _ i' hi' ei' hv' => absurd ⟨by rw [ei']; exact isP_nI hi' (by omega), hv'⟩ z) (fun _ _ => ⟨rfl, _, H⟩)
  · rw [e 3 (by decide) c]
    refine x_setOf (j := 3) (i := 0) hX hI (Or.inr rfl) (fun i hi ei hv => ?_) (fun z => ?_)
    · refine m_set hM hI (by decide) (fun z => absurd z (by decide)) (fun z => absurd z (by decide)) (fun z => absurd z (by decide)) (fun z => absurd z (by decide)) (fun _ i' hi' ei' hv' => ?_) (fun _ z => absurd ⟨by rw [ei]; exact isP_nI hi (by omega), hv⟩ z)
      have e1 := (nI_eq (by omega) (by omega)).mp (ei.symm.trans ei')
      subst e1
      refine ⟨(hX.2.2.2.2.2 i hi).2.2.1, (cN κ, cK κ, cU κ, fun j => if j = i then p3 else cS κ j, cW κ, cH κ, cL κ, cR κ, cT κ), rel_up H ?_ ?_ hI hr ht rfl rfl (xu_a (by omega)) (mu_g (by omega))⟩
      · obtain ⟨r1, r2, r3, r4, r5, r6⟩ := hX
        refine ⟨by rw [up_k (by decide)]; exact r1, by rw [up_k (by decide)]; exact r2, by rw [up_k (by decide)]; exact r3, by rw [up_k (by decide)]; exact r4, fun p hp => by rw [up_k (by decide)]; exact r5 p hp, fun p hp => ?_⟩
        obtain ⟨q1, q2, q3, q4⟩ := r6 p hp
        refine ⟨by rw [up_k (by decide)]; exact q1, by rw [up_k (by decide)]; exact q2, ?_, by rw [up_k (by decide)]; exact q4⟩
        show _ = (if p = i then p3 else cS κ p)
        by_cases ep : p = i
        · subst ep; rw [up_s, if_pos rfl]
        · rw [up_j ep, if_neg ep]; exact q3
      · obtain ⟨r1, r2, r3, r4, r5⟩ := hM
        refine ⟨by rw [up_k (by decide)]; exact r1, by rw [up_k (by decide)]; exact r2, by rw [up_k (by decide)]; exact r3, by rw [up_k (by decide)]; exact r4, fun p hp => ?_⟩
        obtain ⟨q1, q2, q3, q4, q5⟩ := r5 p hp
        refine ⟨by rw [up_k (by decide)]; exact q1, by rw [up_j (by omega)]; exact q2, ?_, by rw [up_j (by omega)]; exact q4, by rw [up_j (by omega)]; exact q5⟩
        show _ = (if p = i then p3 else cS κ p)
        by_cases ep : p = i
        · subst ep; rw [if_pos rfl]; exact up_s
        · rw [up_j (by omega), if_neg ep]; exact q3
    · exact m_set hM hI (by decide) (fun z => absurd z (by decide)) (fun z => absurd z (by decide)) (fun z => absurd z (by decide)) (fun z => absurd z (by decide)) (fun _ i' hi' ei' hv' => absurd ⟨by rw [ei']; exact isP_nI hi' (by omega), hv'⟩ z) (fun _ _ => ⟨rfl, _, H⟩)
  · have fin : w6_set M p1 p2 p3 (fun r' M' => Owes tv nT g (-1000) X r' M') := by
      unfold w6_set
      refine m_in32 (b := 0) (c := 3) ?_
      rw [b01]
      refine br_t (fun z => ?_) ⟨rfl, _, H⟩
      obtain ⟨j, hj, rfl⟩ := rng (k := 3) (by decide) z
      rw [nI_toInt (by omega)] at c
      omega
    exact fin
end OPS3
