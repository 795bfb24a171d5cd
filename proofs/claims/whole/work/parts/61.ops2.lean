/-! told, set, taken -/
section OPS2
variable {tv : TV} {nT : Nat} {κ : CS} {g : GX} {X M : S0}
theorem m_isThing {p : Int32} {Q : Int32 → S0 → Prop} (h : Q (if ¬ p < 0 ∧ ¬ (7 : Int32) < p then 1 else 0) M) : w6_isThing M p Q := by
  unfold w6_isThing
  exact m_in32 (b := 0) (c := 7) ⟨narB, h⟩
theorem m_isOf0 {p : Int32} {Q : Int32 → S0 → Prop} (h : Q 1 M) : w6_isOf M (nI 0) p Q := by
  unfold w6_isOf
  exact br_t rfl h
theorem m_isOf1 {p : Int32} {Q : Int32 → S0 → Prop} (h : Q (if ¬ p < 0 ∧ ¬ (7 : Int32) < p then 1 else 0) M) : w6_isOf M (nI 1) p Q := by
  unfold w6_isOf
  refine br_f (by decide) (s_f rfl (m_isThing ?_))
  rw [b01]
  refine ⟨fun c => ?_, fun c => ?_⟩
  · rw [if_neg c] at h; exact h
  · rw [if_pos (Classical.not_not.mp c)] at h; exact h
theorem m_isOf2 {j : Nat} {p : Int32} {Q : Int32 → S0 → Prop} (hM : RelM κ M) (i1 : cN κ ≤ 6) (h2 : 2 ≤ j) (hj : j ≤ 7) (h : Q (if isP (cN κ) p then 1 else 0) M) : w6_isOf M (nI j) p Q := by
  unfold w6_isOf
  refine br_f (nI_ne0 (by omega) (by omega)) (s_t (fun z => ?_) (m_isOne hM.1 i1 ?_))
  · have := (nI_eq (b := 1) (by omega) (by decide)).mp z
    omega
  · rw [b01]
    refine ⟨fun c => ?_, fun c => ?_⟩
    · rw [if_neg c] at h; exact h
    · rw [if_pos (Classical.not_not.mp c)] at h; exact h
/-- what is told of a player -/
def toldS (κ : CS) (i j : Nat) : Int32 := if j = 2 then cU κ i else if j = 3 then cS κ i else if j = 4 then cK κ i else if j = 5 then cW κ i else if j = 6 then nI (cH κ i) else nI (pc8 (cH κ i))
theorem rwk (i j : Nat) (h2 : 2 ≤ j) : ((((4 : Int32) * nI i) + nI j) - (2 : Int32)) = nI (4 * i + (j - 2)) := by
  rw [r4_k]
  have e : nI (4 * i + j) - nI 2 = nI (4 * i + j - 2) := nI_sub (by omega)
  rw [show (4 * i + (j - 2)) = 4 * i + j - 2 by omega]
  exact e
theorem m_told {j : Nat} {p : Int32} {Q : Int32 → S0 → Prop} (hM : RelM κ M) (hI : IC κ) (hj : j ≤ 7) (h0 : j = 0 → Q (cR κ) M) (h1 : j = 1 → Q (if ¬ p < 0 ∧ ¬ (7 : Int32) < p then whrF (cH κ) p.toNatClampNeg (cN κ) 0 else -1000) M) (h2 : 2 ≤ j → (∀ i, i < cN κ → p = nI i → Q (toldS κ i j) M) ∧ (¬ isP (cN κ) p → Q (-1000) M)) : w6_told M p (nI j) Q := by
  have i1 := hI.1
  unfold w6_told
  refine m_in32 (b := 0) (c := 7) ?_
  rw [b01]
  refine br_f (fun z => z (rng2 hj (by decide))) ?_
  rcases (by omega : j = 0 ∨ j = 1 ∨ 2 ≤ j) with rfl | rfl | k2
  · refine m_isOf0 (s_t (by decide) (br_f (by decide) (s_f rfl ?_)))
    rw [hM.2.2.1]; exact h0 rfl
  · refine m_isOf1 ?_
    rw [b01]
    have h1 := h1 rfl
    by_cases c : ¬ p < 0 ∧ ¬ (7 : Int32) < p
    · refine s_t (fun z => z c) (br_f (by decide) (s_t (by decide) (s_f rfl ?_)))
      obtain ⟨t, ht, rfl⟩ := rng (k := 7) (by decide) c
      rw [if_pos c, nI_clamp (by omega)] at h1
      exact m_whereIs hM hI (by omega) h1
    · rw [if_neg c] at h1
      exact s_f c h1
  · obtain ⟨h2, h3⟩ := h2 k2
    refine m_isOf2 hM i1 k2 hj ?_
    rw [b01]
    by_cases c : isP (cN κ) p
    · obtain ⟨i, hi, rfl⟩ := isP_of c (by omega)
      have h2 := h2 i hi rfl
      obtain ⟨p1, p2, p3, p4, p5⟩ := hM.2.2.2.2 i hi
      refine s_t (fun z => z c) ?_
      have e : ∀ m : Nat, m < 100 → (nI j = nI m ↔ j = m) := fun m hm => nI_eq (by omega) (by omega)
      have e4 : nI j = 4 ↔ j = 4 := e 4 (by decide)
      have e5 : nI j = 5 ↔ j = 5 := e 5 (by decide)
      have e6 : nI j = 6 ↔ j = 6 := e 6 (by decide)
      have e0 : nI j = 0 ↔ j = 0 := e 0 (by decide)
      have e1 : nI j = 1 ↔ j = 1 := e 1 (by decide)
      have el : (4 : Int32) ≤ nI j ↔ 4 ≤ j := nI_leI (a := 4) (by decide) (by omega)
      rw [e4, e5, e6, e0, e1, el, rwk i j k2, rw2, nI_clamp (n := 4 * i + 2) (by omega), nI_clamp (n := i) (by omega), nI_clamp (n := 4 * i + (j - 2)) (by omega)]
      unfold toldS at h2
      refine ⟨fun c4 => ⟨fun c5 => ⟨fun c6 => ⟨fun c7 => ?_, fun c7 => ?_⟩, fun c6 => ⟨vpl _ _ (by omega) (by decide), ?_⟩⟩, fun c5 => ⟨vpl _ _ (by omega) (by decide), ?_⟩⟩, fun c4 => s_t (by omega) (s_t (by omega) ⟨vpl _ _ (by omega) (by decide), ?_⟩)⟩
      · rw [if_neg (by omega), if_neg (by omega), if_neg (by omega), if_neg (by omega), if_neg (by omega)] at h2
        exact m_hasMany hM hI hi h2
      · rw [if_neg (by omega), if_neg (by omega), if_neg (by omega), if_neg (by omega), if_pos (by omega)] at h2
        exact m_has hM i1 hi h2
      · rw [if_neg (by omega), if_neg (by omega), if_neg (by omega), if_pos (by omega)] at h2
        rw [p4]; exact h2
      · rw [if_neg (by omega), if_neg (by omega), if_pos (by omega)] at h2
        rw [p1]; exact h2
      · rcases (by omega : j = 2 ∨ j = 3) with rfl | rfl
        · rw [if_pos rfl] at h2
          rw [show 4 * i + (2 - 2) = 4 * i by omega, p2]; exact h2
        · rw [if_neg (by decide), if_pos rfl] at h2
          rw [show 4 * i + (3 - 2) = 4 * i + 1 by omega, p3]; exact h2
    · exact s_f c (h3 c)
theorem m_told_out {p p2 : Int32} {Q : Int32 → S0 → Prop} (h : ¬ (¬ p2 < 0 ∧ ¬ (7 : Int32) < p2)) (hq : Q (-1000) M) : w6_told M p p2 Q := by
  unfold w6_told
  refine m_in32 (b := 0) (c := 7) ?_
  rw [b01]
  exact br_t h hq
theorem op_told (h : Rel tv nT κ g X M) (p1 p2 : Int32) : w5_told g X p1 p2 (fun r X' => w6_told M p1 p2 (fun r' M' => Owes tv nT g r X' r' M')) := by
  have H := h
  obtain ⟨hX, hM, hI, hr, ht, hO⟩ := h
  have i1 := hI.1
  unfold w5_told
  by_cases c : ¬ p2 < 0 ∧ ¬ (7 : Int32) < p2
  · obtain ⟨j, hj, rfl⟩ := rng (k := 7) (by decide) c
    rcases (by omega : j = 0 ∨ j = 1 ∨ 2 ≤ j) with rfl | rfl | k2
    · refine s_f rfl ?_
      rw [hX.2.2.1]
      exact m_told hM hI hj (fun _ => ⟨rfl, _, H⟩) (fun z => absurd z (by decide)) (fun z => absurd z (by decide))
    · refine s_t (by decide) (s_f rfl (x_within ?_))
      rw [b01]
      refine ⟨fun c1 => ?_, fun c1 => ?_⟩
      · exact m_told hM hI hj (fun z => absurd z (by decide)) (fun _ => by
          have c1 : ¬ (¬ p1 < 0 ∧ ¬ (7 : Int32) < p1) := c1
          rw [if_neg c1]; exact ⟨rfl, _, H⟩) (fun z => absurd z (by decide))
      · have c1 := Classical.not_not.mp c1
        obtain ⟨t, ht8, rfl⟩ := rng (k := 7) (by decide) c1
        refine x_placeOf hX hI (by omega) ?_
        exact m_told hM hI hj (fun z => absurd z (by decide)) (fun _ => by
          rw [if_pos c1, nI_clamp (by omega)]; exact ⟨rfl, _, H⟩) (fun z => absurd z (by decide))
    · refine s_t (nI_ne0 (by omega) (by omega)) (s_t (fun z => ?_) (x_isPlayer hX.1 i1 ?_))
      · have := (nI_eq (b := 1) (by omega) (by decide)).mp z
        omega
      · rw [b01]
        by_cases c1 : isP (cN κ) p1
        · refine s_t (fun z => z c1) ?_
          obtain ⟨i, hi, rfl⟩ := isP_of c1 (by omega)
          obtain ⟨p1', p2', p3', p4'⟩ := hX.2.2.2.2.2 i hi
          have p5' := hX.2.2.2.2.1 i (by omega)
          rw [nI_clamp (n := i) (by omega), p1', p2', p3', p4', p5', nI_toInt (by omega)]
          have fin : ∀ r : Int32, r = toldS κ i j → w6_told M (nI i) (nI j) (fun r' M' => Owes tv nT g r X r' M') := fun r e =>
            m_told hM hI hj (fun z => absurd z (by omega)) (fun z => absurd z (by omega)) (fun _ => ⟨fun i' hi' e' => by
              have := (nI_eq (by omega) (by omega)).mp e'
              subst this
              exact ⟨e, _, H⟩, fun z => absurd c1 z⟩)
          have vi := vpl i 6 (by omega) (by decide)
          unfold toldS at fin
          refine ⟨fun q => ⟨vi, fin _ ?_⟩, fun q => ⟨vi, fin _ ?_⟩, fun q => ⟨vi, fin _ ?_⟩, fun q => ⟨vi, fin _ ?_⟩, fun q => ⟨vi, fin _ ?_⟩, fun q => x_howMany hX hI hi (fin _ ?_), fun q => by omega⟩
          · rw [if_pos (by omega)]
          · rw [if_neg (by omega), if_pos (by omega)]
          · rw [if_neg (by omega), if_neg (by omega), if_pos (by omega)]
          · rw [if_neg (by omega), if_neg (by omega), if_neg (by omega), if_pos (by omega)]
          · rw [if_neg (by omega), if_neg (by omega), if_neg (by omega), if_neg (by omega), if_pos (by omega)]
          · rw [if_neg (by omega), if_neg (by omega), if_neg (by omega), if_neg (by omega), if_neg (by omega)]
        · refine s_f c1 ?_
          exact m_told hM hI hj (fun z => absurd z (by omega)) (fun z => absurd z (by omega)) (fun _ => ⟨fun i' hi' e' => absurd (by rw [e']; exact isP_nI hi' (by omega)) c1, fun _ => ⟨rfl, _, H⟩⟩)
  · have o := rngN (k := 7) (by decide) c
    have fin : w6_told M p1 p2 (fun r' M' => Owes tv nT g (-1000) X r' M') := m_told_out c ⟨rfl, _, H⟩
    refine s_t (fun z => c (by rw [z]; decide)) (s_t (fun z => c (by rw [z]; decide)) (x_isPlayer hX.1 i1 ?_))
    rw [b01]
    refine ⟨fun c1 => ⟨fun q => by omega, fun q => by omega, fun q => by omega, fun q => by omega, fun q => by omega, fun q => by omega, fun _ => fin⟩, fun c1 => fin⟩
end OPS2
