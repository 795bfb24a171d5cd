/-! players -/
section PLR
variable {tv : TV} {nT : Nat} {κ : CS} {g : GX} {X M : S0}
theorem sh_of {i : Nat} (h : Rel tv nT κ g X M) (hi : i < 4) : ShR X M i := h.2.2.2.2.2.2.2.2.2.2.2.2.2.2.2.1 i hi
theorem m_hold {n k : Nat} {a : Int32} (hn : n ≤ 40) (hk : k ≤ 6) : (¬ a < 0 ∧ a ≤ ((nI n - ((2 : Int32) * nI k)) - (2 : Int32))) ↔ ∃ p, a = nI p ∧ p + 2 * k + 2 ≤ n := by
  have e2 : (2 : Int32) * nI k = nI (2 * k) := nI_mul 2 k
  have e3 : ((nI n - nI (2 * k)) - (2 : Int32)).toInt = (n : Int) - 2 * k - 2 := by
    have a1 : (nI n - nI (2 * k)).toInt = (n : Int) - (2 * k : Nat) := by
      rw [sub_ge (by omega) (nI_pos (by omega)), nI_toInt (by omega)]
    rw [sub_sm (by omega) (by omega) (by decide) (by decide), a1, show (2 : Int32).toInt = 2 by decide]
    omega
  rw [e2, Int32.le_iff_toInt_le, e3]
  constructor
  · rintro ⟨h1, h2⟩
    obtain ⟨p, hp, rfl⟩ := nI_of h1
    rw [nI_toInt hp] at h2
    exact ⟨p, rfl, by omega⟩
  · rintro ⟨p, rfl, h⟩
    refine ⟨nI_pos (by omega), ?_⟩
    rw [nI_toInt (by omega)]
    omega
theorem lock_players {i so N : Nat} (hi : i < 4) (hs : so < 3) (hN : N ≤ 40) {a : Int32} {nn : Nat} (hnn : nn ≤ 6) : ∀ (f k came n : Nat) (κ : CS) (X : S0) (Q : Int32 → S0 → Prop), k + f = nn → f < n → RelX 10 κ X → IC κ → X (58 + 2 * i) 2 = nI N → (∀ (r : Int32) (X' : S0), (∀ (M : S0) (m : Nat), f < m → Rel tv nT κ g X M → M 8 i = 1 → M 10 i = nI N → (∀ j, j < N → X (58 + 2 * i + 1) j = M 11 (40 * i + j)) → w6_players_b75 (fun r' M' => Owes tv nT g r X' r' M') m M (nI i) a (nI nn) (nI came) (nI k)) → Q r X') → (k = 0 ∨ ∃ p, a = nI p ∧ p + 2 * k ≤ N) → w5_players_b64 g Q n X a (nI nn) (58 + 2 * i) (nI came) (nI k) := by
  intro f
  induction f with
  | zero =>
    intro k came n κ X Q e hn hX hI hz h hk0
    cases n with
    | zero => omega
    | succ n =>
      rw [w5_players_b64]
      refine br_t (nI_le (by omega) (by omega)) (h _ _ (fun M m hm hR _ _ _ => ?_))
      cases m with
      | zero => omega
      | succ m =>
        rw [w6_players_b75]
        exact br_t (nI_le (by omega) (by omega)) ⟨rfl, _, hR⟩
  | succ f ih =>
    intro k came n κ X Q e hn hX hI hz h hk0
    cases n with
    | zero => omega
    | succ n =>
      rw [w5_players_b64]
      refine br_f (nI_ge (by omega) (by omega)) ?_
      rintro _ rfl
      have e2 : (2 : Int32) * nI k = nI (2 * k) := nI_mul 2 k
      have ok : hP N (a + ((2 : Int32) * nI k)) 2 ↔ ∃ p, a = nI p ∧ p + 2 * k + 2 ≤ N := by
        constructor
        · rintro ⟨p, m, e1, e3, e4⟩
          have m2 : m = 2 := ((nI_eq (a := 2) (by decide) (by omega)).mp e3).symm
          subst m2
          rcases hk0 with rfl | ⟨p0, rfl, hp0⟩
          · rw [show (2 : Int32) * nI 0 = 0 by decide, Int32.add_zero] at e1
            exact ⟨p, e1, by omega⟩
          · rw [e2, nI_add] at e1
            have := (nI_eq (by omega) (by omega)).mp e1
            exact ⟨p0, rfl, by omega⟩
        · rintro ⟨p, rfl, hp⟩
          exact ⟨p + 2 * k, 2, by rw [e2, nI_add], rfl, by omega⟩
      refine x_holds hN hz (fun p m hpm ep em => ?_) (fun c => ?_)
      · obtain ⟨p0, rfl, hp0⟩ := ok.mp ⟨p, m, ep, em, hpm⟩
        refine s_t (by decide) ?_
        rw [e2, nI_add, nI_1]
        refine x_item hN hz (by omega) (x_item hN hz (by omega) ?_)
        have mstep : ∀ (r : Int32) (X' : S0) (M : S0) (m : Nat), f + 1 < m → Rel tv nT κ g X M → M 8 i = 1 → M 10 i = nI N → (∀ j, j < N → X (58 + 2 * i + 1) j = M 11 (40 * i + j)) → w6_player M (X (58 + 2 * i + 1) (p0 + 2 * k)) (X (58 + 2 * i + 1) (p0 + 2 * k + 1)) (fun r18 M17 => ((r18 < 0) → w6_players_b75 (fun r' M' => Owes tv nT g r X' r' M') (m - 1) M17 (nI i) (nI p0) (nI nn) (nI came) (nI (k + 1))) ∧ ((¬ r18 < 0) → w6_players_b75 (fun r' M' => Owes tv nT g r X' r' M') (m - 1) M17 (nI i) (nI p0) (nI nn) (nI (came + 1)) (nI (k + 1)))) → w6_players_b75 (fun r' M' => Owes tv nT g r X' r' M') m M (nI i) (nI p0) (nI nn) (nI came) (nI k) := by
          intro r X' M m hm hR h8 h10 hit hp
          cases m with
          | zero => omega
          | succ m =>
            rw [w6_players_b75, nI_clamp (n := i) (by omega), h10]
            refine br_f (nI_ge (by omega) (by omega)) (br_f (nI_pos (by omega)) ⟨vpl _ _ hi (by decide), br_t ((m_hold hN (by omega)).mpr ⟨p0, rfl, by omega⟩).2 ?_⟩)
            rintro _ rfl
            rw [e2, r40, nI_add, nI_1, nI_clamp (n := 40 * i + p0 + 2 * k) (by omega), nI_clamp (n := 40 * i + p0 + 2 * k + 1) (by omega)]
            refine ⟨vpl _ _ (by omega) (by decide), vpl _ _ (by omega) (by decide), ?_⟩
            rw [hit _ (by omega), hit _ (by omega)] at hp
            rw [show 40 * i + p0 + 2 * k = 40 * i + (p0 + 2 * k) by omega, show 40 * i + (p0 + 2 * k) + 1 = 40 * i + (p0 + 2 * k + 1) by omega]
            rw [show nI came + (0 : Int32) = nI came from Int32.add_zero _, nI_1, nI_1]
            have hp2 := hp
            simp only [forall_eq, forall_eq_apply_imp_iff] at hp2 ⊢
            exact hp2
        have sz0 : ∀ c u, RelX 10 (comS κ c u) X → True := fun _ _ _ => trivial
        refine x_comes hX hI (fun c => ?_) (fun c e6 => ?_) (fun c hc ec okc h6 X1 f1 R1 => ?_)
        · refine br_t (by decide) ?_
          rintro _ rfl
          rw [nI_1]
          refine ih (k + 1) came n κ X Q (by omega) (by omega) hX hI hz (fun r X' hM => h r X' (fun M m hm hR h8 h10 hit => ?_)) (Or.inr ⟨p0, rfl, by omega⟩)
          refine mstep r X' M m hm hR h8 h10 hit (m_player hR.2.1 hI (fun _ => br_t (by decide) (hM M (m - 1) (by omega) hR h8 h10 hit)) (fun z => absurd z c) (fun _ _ _ z => absurd z c))
        · refine br_t (by decide) ?_
          rintro _ rfl
          rw [nI_1]
          refine ih (k + 1) came n κ X Q (by omega) (by omega) hX hI hz (fun r X' hM => h r X' (fun M m hm hR h8 h10 hit => ?_)) (Or.inr ⟨p0, rfl, by omega⟩)
          refine mstep r X' M m hm hR h8 h10 hit (m_player hR.2.1 hI (fun z => absurd c z) (fun _ _ => br_t (by decide) (hM M (m - 1) (by omega) hR h8 h10 hit)) (fun _ _ _ _ z => by omega))
        · refine br_f (nI_pos (by omega)) ?_
          rintro _ rfl _ rfl
          rw [nI_1, nI_1]
          have g1 : X1 (58 + 2 * i) = X (58 + 2 * i) := f1 _ (by omega) (by omega) (by omega)
          have g2 : X1 (58 + 2 * i + 1) = X (58 + 2 * i + 1) := f1 _ (by omega) (by omega) (by omega)
          refine ih (k + 1) (came + 1) n _ X1 Q (by omega) (by omega) R1 (ic_com hI h6) (by rw [g1]; exact hz) (fun r X' hM => h r X' (fun M m hm hR h8 h10 hit => ?_)) (Or.inr ⟨p0, rfl, by omega⟩)
          refine mstep r X' M m hm hR h8 h10 hit (m_player hR.2.1 hI (fun z => absurd okc z) (fun _ z => by omega) (fun c' hc' ec' _ _ M1 f2 R2 => ?_))
          have e1 := (nI_eq (by omega) (by omega)).mp (ec.symm.trans ec')
          subst e1
          exact br_f (nI_pos (by omega)) (hM M1 (m - 1) (by omega) (hR.com hc h6 f1 R1 f2 R2) (by rw [f2 8 i (by omega) (by omega) (by omega) (by omega)]; exact h8) (by rw [f2 10 i (by omega) (by omega) (by omega) (by omega)]; exact h10) (fun j hj => by rw [g2, f2 11 _ (by omega) (by omega) (by omega) (by omega)]; exact hit j hj))
      · refine s_f rfl (h _ _ (fun M m hm hR h8 h10 hit => ?_))
        cases m with
        | zero => omega
        | succ m =>
          rw [w6_players_b75, nI_clamp (n := i) (by omega), h10]
          have c2 : ¬ ∃ p, a = nI p ∧ p + 2 * k + 2 ≤ N := fun z => c (ok.mpr z)
          refine br_f (nI_ge (by omega) (by omega)) ⟨fun _ => ⟨rfl, _, hR⟩, fun c3 => ⟨vpl _ _ hi (by decide), br_f (fun z => c2 ((m_hold hN (by omega)).mp ⟨c3, z⟩)) ⟨rfl, _, hR⟩⟩⟩
theorem op_players (h : Rel tv nT κ g X M) (p1 p2 p3 p4 : Int32) : w5_players g X p1 p2 p3 p4 (fun r X' => w6_players M p1 p2 p3 p4 (fun r' M' => Owes tv nT g r X' r' M')) := by
  unfold w5_players
  refine x_sheetAt (fun c => ⟨fun _ => ?_, fun k e => (by cases e)⟩) (fun i hi ei => ⟨fun e => (by cases e), fun k e => ?_⟩)
  · unfold w6_players
    refine m_isSheet ?_
    rw [b01]
    exact br_t c ⟨rfl, _, h⟩
  · obtain rfl : 58 + 2 * i = k := Option.some.inj e
    subst ei
    have vi := vpl i 4 hi (by decide)
    have md : ∀ (r : Int32) (X' : S0), (¬ (¬ p2 < 0 ∧ ¬ (2 : Int32) < p2) → Owes tv nT g r X' (-2) M) → (¬ (¬ p4 < 0 ∧ ¬ (6 : Int32) < p4) → Owes tv nT g r X' (-2) M) → (M 8 i = 0 → Owes tv nT g r X' (-11) M) → (M 8 i = 1 → ¬ M 9 i = p2 → Owes tv nT g r X' (-13) M) → (M 8 i = 1 → M 9 i = p2 → (¬ p4 < 0 ∧ ¬ (6 : Int32) < p4) → ∃ m, w6_players_b75 (fun r' M' => Owes tv nT g r X' r' M') m M (nI i) p3 p4 0 0) → w6_players M (nI i) p2 p3 p4 (fun r' M' => Owes tv nT g r X' r' M') := by
      intro r X' a1 a2 a3 a4 a5
      unfold w6_players
      refine m_isSheet ?_
      rw [b01]
      refine br_f (fun z => z (isS_nI hi)) (m_in32 (b := 0) (c := 2) ?_)
      rw [b01]
      refine ⟨fun c => a1 c, fun c => m_in32 (b := 0) (c := 6) ?_⟩
      rw [b01, nI_clamp (n := i) (by omega)]
      refine ⟨fun c2 => ⟨vi, fun c3 => ⟨vi, s_f c3 (a3 c3)⟩, fun c3 => ?_⟩, fun c2 => a2 c2⟩
      have c8 : M 8 i = 1 := by
        rcases sh_of h hi with ⟨_, z⟩ | ⟨_, _, _, _, _, _, z, _⟩
        · exact absurd z c3
        · exact z
      exact ⟨vi, fun c4 => ⟨vi, s_t c3 (a5 c8 c4 (Classical.not_not.mp c2))⟩, fun c4 => a4 c8 c4⟩
    refine x_within ?_
    rw [b01]
    have done : ∀ r : Int32, r = -2 → (¬ (¬ p2 < 0 ∧ ¬ (2 : Int32) < p2) ∨ ¬ (¬ p4 < 0 ∧ ¬ (6 : Int32) < p4)) → w6_players M (nI i) p2 p3 p4 (fun r' M' => Owes tv nT g r X r' M') := by
      intro r er hor
      subst er
      unfold w6_players
      refine m_isSheet ?_
      rw [b01]
      refine br_f (fun z => z (isS_nI hi)) (m_in32 (b := 0) (c := 2) ?_)
      rw [b01]
      refine ⟨fun c => ⟨rfl, _, h⟩, fun c => m_in32 (b := 0) (c := 6) ?_⟩
      rw [b01]
      rcases hor with z | z
      · exact absurd z c
      · exact s_f z ⟨rfl, _, h⟩
    refine ⟨fun c => done _ rfl (Or.inl c), fun c => x_within ?_⟩
    rw [b01]
    refine ⟨fun c2 => ⟨isSh hi, x_isMissing ?_⟩, fun c2 => done _ rfl (Or.inr c2)⟩
    have c := Classical.not_not.mp c
    have c2 := Classical.not_not.mp c2
    rw [b01]
    rcases sh_of h hi with ⟨s1, s2⟩ | ⟨so, n, hs, hn, s1, s2, s3, s4, s5, s6⟩
    · refine br_f (fun z => z s1) (md _ _ (fun z => absurd c z) (fun z => absurd c2 z) (fun _ => ⟨rfl, _, h⟩) (fun z => absurd (s2.symm.trans z) (by decide)) (fun z => absurd (s2.symm.trans z) (by decide)))
    · refine br_t (fun z => nI_nm1 (p := so) (by omega) (s1.symm.trans z)) ?_
      rw [s1]
      obtain ⟨nn, hnn, rfl⟩ := rng (k := 6) (by decide) c2
      refine ⟨fun c3 => ⟨nn + 1, lock_players hi hs hn hnn nn 0 0 (nn + 1) κ X _ (Nat.zero_add _) (Nat.lt_succ_self _) h.1 h.2.2.1 s2 (fun r X' hM => md _ _ (fun z => absurd c z) (fun z => absurd c2 z) (fun z => absurd (s3.symm.trans z) (by decide)) (fun _ z => absurd (s4.trans c3) z) (fun _ _ _ => ⟨nn + 1, hM M (nn + 1) (Nat.lt_succ_self _) h s3 s5 s6⟩)) (Or.inl rfl)⟩, fun c3 => md _ _ (fun z => absurd c z) (fun z => absurd c2 z) (fun z => absurd (s3.symm.trans z) (by decide)) (fun _ _ => ⟨rfl, _, h⟩) (fun _ z => absurd (s4.symm.trans z) c3)⟩
end PLR
