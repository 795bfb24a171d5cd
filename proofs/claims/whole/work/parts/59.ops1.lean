/-! calls, one by one -/
section OPS1
variable {tv : TV} {nT : Nat} {κ : CS} {g : GX} {X M : S0}
theorem kz (j : Nat) (k : Nat) (hj : j < 2 ^ 31) (hk : k < 2 ^ 31) : nI j = nI k ↔ j = k := nI_eq hj hk
theorem op_force (h : Rel tv nT κ g X M) (p1 : Int32) : w5_force g X p1 (fun r X' => w6_force M p1 (fun r' M' => Owes tv nT g r X' r' M')) := by
  have H := h
  obtain ⟨hX, hM, hI, hr, ht, hO⟩ := h
  have hO2 := hO
  obtain ⟨o1, o2, o3, o4, o5, o6, o7⟩ := hO
  unfold w5_force w6_force
  have e : nI nT - 1 = nI (nT - 1) := nI_sub (b := 1) (by omega)
  rw [o5, o6, e]
  refine x_within ?_
  rw [b01]
  by_cases c : ¬ p1 < 0 ∧ ¬ nI (nT - 1) < p1
  · obtain ⟨j, hj, rfl⟩ := rng (by omega) c
    refine s_t (fun z => z c) ?_
    rintro _ rfl _ rfl
    refine m_in32 (b := 0) ?_
    rw [b01]
    refine s_t (fun z => z c) ?_
    rintro _ rfl _ rfl
    rw [hX.2.2.2.1, hM.2.2.2.1]
    refine ⟨rfl, (cN κ, cK κ, cU κ, cS κ, cW κ, cH κ, cL κ, cR κ, j), ?_, ?_, hI, hr, by show j < nT; omega, hO2.fr rfl rfl (fun k _ _ a => up_r (by omega)) (fun k j' a b c d => ?_)⟩
    · obtain ⟨r1, r2, r3, r4, r5, r6⟩ := hX
      refine ⟨by rw [up_j (by decide)]; exact r1, by rw [up_j (by decide)]; exact r2, by rw [up_j (by decide)]; exact r3, up_s, fun p hp => by rw [up_k (by decide)]; exact r5 p hp, fun p hp => ?_⟩
      rw [up_k (by decide), up_k (by decide), up_k (by decide), up_k (by decide)]
      exact r6 p hp
    · obtain ⟨r1, r2, r3, r4, r5⟩ := hM
      refine ⟨by rw [up_j (by decide)]; exact r1, by rw [up_j (by decide)]; exact r2, by rw [up_j (by decide)]; exact r3, up_s, fun p hp => ?_⟩
      rw [up_k (by decide), up_k (by decide), up_k (by decide), up_k (by decide), up_k (by decide)]
      exact r5 p hp
    · by_cases ek : k = 0
      · subst ek; exact up_j (by omega)
      · exact up_k ek
  · refine s_f c ?_
    refine m_in32 (b := 0) ?_
    rw [b01]
    exact s_f c ⟨rfl, _, H⟩
theorem op_count (h : Rel tv nT κ g X M) (p1 : Int32) : w5_count g X p1 (fun r X' => w6_count M p1 (fun r' M' => Owes tv nT g r X' r' M')) := by
  have H := h
  obtain ⟨hX, hM, hI, hr, ht, hO⟩ := h
  obtain ⟨o1, o2, o3, o4, o5, o6, o7, o8, o9, ⟨sz, z1, z2, z3, z4⟩, o11⟩ := hO
  have md : ∀ j : Nat, j ≤ 5 → ∀ r : Int32, (j = 0 → r = nI (cN κ)) → (j = 1 → r = nI (pc8 (cL κ))) → (j = 2 → r = cR κ) → (j = 3 → r = nI nT) → (j = 4 → r = nI sz) → (j = 5 → r = nI (cT κ)) → w6_count M (nI j) (fun r' M' => Owes tv nT g r X r' M') := by
    intro j hj r c0 c1 c2 c3 c4 c5
    unfold w6_count
    refine m_in32 (b := 0) (c := 5) ?_
    rw [b01]
    refine s_t (fun z => z (rng2 hj (by decide))) ?_
    rcases (by omega : j = 0 ∨ j = 1 ∨ j = 2 ∨ j = 3 ∨ j = 4 ∨ j = 5) with rfl | rfl | rfl | rfl | rfl | rfl
    · exact s_f rfl ⟨(c0 rfl).trans hM.1.symm, _, H⟩
    · refine s_t (by decide) (s_f rfl ?_)
      rw [hM.2.1]
      exact m_bitsOf hI.2.2.1 ⟨c1 rfl, _, H⟩
    · exact s_t (by decide) (s_t (by decide) (s_f rfl ⟨(c2 rfl).trans hM.2.2.1.symm, _, H⟩))
    · exact s_t (by decide) (s_t (by decide) (s_t (by decide) (s_f rfl ⟨(c3 rfl).trans o6.symm, _, H⟩)))
    · exact s_t (by decide) (s_t (by decide) (s_t (by decide) (s_t (by decide) (s_f rfl ⟨(c4 rfl).trans z3.symm, _, H⟩))))
    · exact s_t (by decide) (s_t (by decide) (s_t (by decide) (s_t (by decide) (s_t (by decide) ⟨(c5 rfl).trans hM.2.2.2.1.symm, _, H⟩))))
  unfold w5_count
  have e : ∀ j : Nat, j ≤ 5 → p1.toInt = (j : Int) → p1 = nI j := fun j hj hc => ti_eq hc (nI_toInt (by omega))
  refine ⟨fun c => ?_, fun c => ?_, fun c => ?_, fun c => ?_, fun c => ?_, fun c => ?_, fun c => ?_⟩
  · rw [e 0 (by decide) c, hX.1]
    exact md 0 (by decide) _ (fun _ => rfl) (fun z => absurd z (by decide)) (fun z => absurd z (by decide)) (fun z => absurd z (by decide)) (fun z => absurd z (by decide)) (fun z => absurd z (by decide))
  · rw [e 1 (by decide) c]
    exact x_manyInHall hX hI (md 1 (by decide) _ (fun z => absurd z (by decide)) (fun _ => rfl) (fun z => absurd z (by decide)) (fun z => absurd z (by decide)) (fun z => absurd z (by decide)) (fun z => absurd z (by decide)))
  · rw [e 2 (by decide) c, hX.2.2.1]
    exact md 2 (by decide) _ (fun z => absurd z (by decide)) (fun z => absurd z (by decide)) (fun _ => rfl) (fun z => absurd z (by decide)) (fun z => absurd z (by decide)) (fun z => absurd z (by decide))
  · rw [e 3 (by decide) c, o5]
    exact md 3 (by decide) _ (fun z => absurd z (by decide)) (fun z => absurd z (by decide)) (fun z => absurd z (by decide)) (fun _ => rfl) (fun z => absurd z (by decide)) (fun z => absurd z (by decide))
  · rw [e 4 (by decide) c, z2]
    exact md 4 (by decide) _ (fun z => absurd z (by decide)) (fun z => absurd z (by decide)) (fun z => absurd z (by decide)) (fun z => absurd z (by decide)) (fun _ => rfl) (fun z => absurd z (by decide))
  · rw [e 5 (by decide) c, hX.2.2.2.1]
    exact md 5 (by decide) _ (fun z => absurd z (by decide)) (fun z => absurd z (by decide)) (fun z => absurd z (by decide)) (fun z => absurd z (by decide)) (fun z => absurd z (by decide)) (fun _ => rfl)
  · unfold w6_count
    refine m_in32 (b := 0) (c := 5) ?_
    rw [b01]
    refine s_f (fun z => ?_) ⟨rfl, _, H⟩
    obtain ⟨j, hj, rfl⟩ := rng (k := 5) (by decide) z
    rw [nI_toInt (by omega)] at c
    omega
theorem RO.grow {κ2 : CS} {X' M' : S0} {c : Nat} (hO : RO tv nT κ g X M) (hc : c < 6) (hN : cN κ2 = cN κ + 1) (hK : cK κ2 = fun j => if j = cN κ then nI c else cK κ j) (fa : FA X X') (fg : GR M M') : RO tv nT κ2 g X' M' := by
  have R := hO.fr (κ2 := κ) rfl rfl fa fg
  obtain ⟨a1, a2, a3, a4, a5, a6, a7, a8, a9, a10, a11, a12⟩ := R
  refine ⟨a1, a2, a3, a4, a5, a6, a7, a8, ?_, a10, a11, fun p hp => ?_⟩
  · rcases a9 with z | ⟨κ', b1, b2, b3, b4, b5, b6, b7, b8⟩
    · exact Or.inl z
    · refine Or.inr ⟨κ', b1, b2, b3, b4, b5, b6, by omega, fun p hp => ?_⟩
      rw [hK]
      show _ = (if p = cN κ then nI c else cK κ p)
      rw [if_neg (by omega)]
      exact b8 p hp
  · rw [hK]
    show ∃ c' : Nat, c' < 6 ∧ (if p = cN κ then nI c else cK κ p) = nI c'
    by_cases ep : p = cN κ
    · rw [if_pos ep]; exact ⟨c, hc, rfl⟩
    · rw [if_neg ep]
      exact a12 p (by omega)
theorem op_player (h : Rel tv nT κ g X M) (p1 p2 : Int32) : w0_comes g 10 X p1 p2 (fun r X' => w6_player M p1 p2 (fun r' M' => (r = r' ∧ ∃ κ', Rel tv nT κ' g X' M'))) := by
  have H := h
  obtain ⟨hX, hM, hI, hr, ht, hO⟩ := h
  have i1 := hI.1
  unfold w0_comes w6_player
  refine x_within ?_
  rw [b01]
  by_cases c : ¬ p1 < 0 ∧ ¬ (5 : Int32) < p1
  · refine br_f (fun z => z c) (x_within ?_)
    rw [b01]
    by_cases c2 : ¬ p2 < 0 ∧ ¬ (9 : Int32) < p2
    · refine s_t (fun z => z c2) ?_
      obtain ⟨k1, hk1, rfl⟩ := rng (k := 5) (by decide) c
      rw [hX.1]
      refine br_f (nI_pos (by omega)) ?_
      by_cases c3 : cN κ < 6
      · refine br_t (nI_lt (b := 6) c3 (by decide)) ⟨vpl _ _ c3 (by decide), ?_⟩
        rintro _ rfl
        rw [up_k (by decide), hX.1, nI_clamp (n := cN κ) (by omega)]
        refine ⟨vpl _ _ c3 (by decide), ?_⟩
        rintro _ rfl
        rw [up_k (by decide), up_k (by decide), hX.1, nI_clamp (n := cN κ) (by omega)]
        refine ⟨vpl _ _ c3 (by decide), ?_⟩
        rintro _ rfl
        rw [up_k (by decide), up_k (by decide), up_k (by decide), hX.1, nI_clamp (n := cN κ) (by omega)]
        refine ⟨vpl _ _ c3 (by decide), ?_⟩
        rintro _ rfl
        rw [up_k (by decide), up_k (by decide), up_k (by decide), up_k (by decide), hX.1, nI_clamp (n := cN κ) (by omega)]
        refine ⟨vpl _ _ c3 (by decide), ?_⟩
        rintro _ rfl _ rfl
        rw [up_s, up_k (by decide), up_k (by decide), up_k (by decide), up_k (by decide), up_k (by decide), hX.1, nI_1, nI_pred]
        refine m_in32 (b := 0) (c := 5) ?_
        rw [b01]
        refine br_f (fun z => z c) (m_in32 (b := 0) (c := 9) ?_)
        rw [b01]
        refine s_t (fun z => z c2) ?_
        rw [hM.1]
        have e6 : ¬ nI (cN κ) = 6 := fun z => by
          have := (nI_eq (b := 6) (by omega) (by decide)).mp z
          omega
        refine s_t e6 ⟨vpl _ _ c3 (by decide), ?_⟩
        rintro _ rfl
        rw [up_k (by decide), hM.1, rw0, nI_clamp (n := cN κ) (by omega), nI_clamp (n := 4 * cN κ) (by omega)]
        refine ⟨vpl _ _ (by omega) (by decide), ?_⟩
        rintro _ rfl
        rw [up_k (by decide), up_k (by decide), hM.1, rw1, nI_clamp (n := 4 * cN κ + 1) (by omega)]
        refine ⟨vpl _ _ (by omega) (by decide), ?_⟩
        rintro _ rfl
        rw [up_k (by decide), up_k (by decide), up_k (by decide), hM.1, rw2, nI_clamp (n := 4 * cN κ + 2) (by omega)]
        refine ⟨vpl _ _ (by omega) (by decide), ?_⟩
        rintro _ rfl
        rw [up_k (by decide), up_k (by decide), up_k (by decide), up_k (by decide), hM.1, rw3, nI_clamp (n := 4 * cN κ + 3) (by omega)]
        refine ⟨vpl _ _ (by omega) (by decide), ?_⟩
        rintro _ rfl _ rfl
        rw [up_s, up_k (by decide), up_k (by decide), up_k (by decide), up_k (by decide), up_k (by decide), hM.1, nI_1, nI_pred]
        have h0 : cH κ (cN κ) = 0 := hI.2.2.2.2.2 _ (Nat.le_refl _)
        refine ⟨rfl, (cN κ + 1, fun j => if j = cN κ then nI k1 else cK κ j, fun j => if j = cN κ then p2 else cU κ j, fun j => if j = cN κ then 50 else cS κ j, fun j => if j = cN κ then 0 else cW κ j, cH κ, cL κ, cR κ, cT κ), ?_, ?_, ⟨c3, hI.2.1, hI.2.2.1, hI.2.2.2.1, hI.2.2.2.2.1, fun p hp => hI.2.2.2.2.2 p (Nat.le_of_succ_le hp)⟩, hr, ht, ?_⟩
        · obtain ⟨r1, r2, r3, r4, r5, r6⟩ := hX
          refine ⟨up_s, ?_, ?_, ?_, fun p hp => ?_, fun p hp => ?_⟩
          · simp (disch := omega) only [up_s, up_j, up_k, r2]
          · simp (disch := omega) only [up_s, up_j, up_k, r3]
          · simp (disch := omega) only [up_s, up_j, up_k, r4]
          · by_cases ep : p = cN κ
            · subst ep
              simp (disch := omega) only [up_s, up_j, up_k]
              show _ = nI (cH κ (cN κ))
              rw [h0]; rfl
            · simp (disch := omega) only [up_s, up_j, up_k]
              exact r5 p hp
          · by_cases ep : p = cN κ
            · subst ep
              refine ⟨?_, ?_, ?_, ?_⟩ <;> simp (disch := omega) only [up_s, up_j, up_k] <;> exact (if_pos rfl).symm
            · have hp2 : p < cN κ := by
                have : p < cN κ + 1 := hp
                omega
              obtain ⟨q1, q2, q3, q4⟩ := r6 p hp2
              refine ⟨?_, ?_, ?_, ?_⟩ <;> simp (disch := omega) only [up_s, up_j, up_k, q1, q2, q3, q4] <;> exact (if_neg ep).symm
        · obtain ⟨r1, r2, r3, r4, r5⟩ := hM
          refine ⟨up_s, ?_, ?_, ?_, fun p hp => ?_⟩
          · simp (disch := omega) only [up_s, up_j, up_k, r2]
          · simp (disch := omega) only [up_s, up_j, up_k, r3]
          · simp (disch := omega) only [up_s, up_j, up_k, r4]
          · by_cases ep : p = cN κ
            · subst ep
              refine ⟨?_, ?_, ?_, ?_, ?_⟩ <;> simp (disch := omega) only [up_s, up_j, up_k] <;> first | exact (if_pos rfl).symm | (show (0 : Int32) = nI (cH κ (cN κ)); rw [h0]; rfl)
            · have hp2 : p < cN κ := by
                have : p < cN κ + 1 := hp
                omega
              obtain ⟨q1, q2, q3, q4, q5⟩ := r5 p hp2
              refine ⟨?_, ?_, ?_, ?_, ?_⟩ <;> simp (disch := omega) only [up_s, up_j, up_k, q1, q2, q3, q4, q5] <;> exact (if_neg ep).symm
        · refine RO.grow (c := k1) hO (by omega) rfl rfl (fun k _ _ a => ?_) (fun k j a b c d => ?_)
          · simp (disch := omega) only [up_r]
          · by_cases ek : k = 0
            · subst ek
              simp (disch := omega) only [up_s, up_j, up_k]
            · simp (disch := omega) only [up_s, up_j, up_k]
      · have e6 : cN κ = 6 := by omega
        refine br_f (nI_nlt (b := 6) (by omega) (by omega)) ?_
        refine m_in32 (b := 0) (c := 5) ?_
        rw [b01]
        refine br_f (fun z => z c) (m_in32 (b := 0) (c := 9) ?_)
        rw [b01]
        refine s_t (fun z => z c2) ?_
        rw [hM.1, e6]
        exact s_f rfl ⟨rfl, _, H⟩
    · refine s_f c2 (m_in32 (b := 0) (c := 5) ?_)
      rw [b01]
      refine br_f (fun z => z c) (m_in32 (b := 0) (c := 9) ?_)
      rw [b01]
      exact s_f c2 ⟨rfl, _, H⟩
  · refine br_t c (m_in32 (b := 0) (c := 5) ?_)
    rw [b01]
    exact br_t c ⟨rfl, _, H⟩
end OPS1
