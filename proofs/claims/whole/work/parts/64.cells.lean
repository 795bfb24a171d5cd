/-! cell, players -/
section CEL
variable {tv : TV} {nT : Nat} {κ : CS} {g : GX} {X M : S0}
theorem in_pred {n : Nat} {p : Int32} (hn : n ≤ 1000) : (¬ p < 0 ∧ ¬ nI n - 1 < p) ↔ isP n p := by
  have e1 : (nI n - 1).toInt = (n : Int) - 1 := by
    rw [sub_sm (by rw [nI_toInt (by omega)]; omega) (by rw [nI_toInt (by omega)]; omega) (by decide) (by decide), nI_toInt (by omega)]
    rfl
  rw [Int32.lt_iff_toInt_lt (x := nI n - 1), e1]
  show _ ↔ _ ∧ p < nI n
  rw [Int32.lt_iff_toInt_lt (y := nI n), nI_toInt (by omega)]
  exact ⟨fun z => ⟨z.1, by omega⟩, fun z => ⟨z.1, by omega⟩⟩
theorem x_isMissing {k : Nat} {Q : Int32 → S0 → Prop} (h : Q (if X k 1 = -1 then 1 else 0) X) : w2_isMissing g k X Q := by
  unfold w2_isMissing
  refine ⟨fun c => ?_, fun c => ?_⟩
  · rw [if_neg c] at h; exact h
  · rw [if_pos c] at h; exact h
def hP (n : Nat) (a b : Int32) : Prop := ∃ i m : Nat, a = nI i ∧ b = nI m ∧ i + m ≤ n
theorem sub_ge {n : Nat} {b : Int32} (hn : n ≤ 1000) (hb : ¬ b < 0) : (nI n - b).toInt = (n : Int) - b.toInt := by
  obtain ⟨m, hm, rfl⟩ := nI_of hb
  rw [Int32.toInt_sub, nI_toInt (by omega), nI_toInt hm, Int.bmod_eq_of_le (by omega) (by omega)]
theorem holds_iff {n : Nat} {a b : Int32} (hn : n ≤ 1000) : (¬ a < 0 ∧ ¬ b < 0 ∧ ¬ nI n < b ∧ ¬ (nI n - b) < a) ↔ hP n a b := by
  constructor
  · rintro ⟨h1, h2, h3, h4⟩
    have e := sub_ge (n := n) hn h2
    obtain ⟨i, hi, rfl⟩ := nI_of h1
    obtain ⟨m, hm, rfl⟩ := nI_of h2
    rw [Int32.lt_iff_toInt_lt, e, nI_toInt hi, nI_toInt hm] at h4
    exact ⟨i, m, rfl, rfl, by omega⟩
  · rintro ⟨i, m, rfl, rfl, h⟩
    have b := nI_pos (n := m) (by omega)
    refine ⟨nI_pos (by omega), b, nI_nlt (by omega) (by omega), ?_⟩
    rw [Int32.lt_iff_toInt_lt, sub_ge (n := n) hn b, nI_toInt (by omega), nI_toInt (by omega)]
    omega
theorem x_holds {k n : Nat} {a b : Int32} {Q : Int32 → S0 → Prop} (hn : n ≤ 40) (h2 : X k 2 = nI n) (h1 : ∀ i m, i + m ≤ n → a = nI i → b = nI m → Q 1 X) (h0 : ¬ hP n a b → Q 0 X) : w2_holds g k X a b Q := by
  unfold w2_holds
  rw [h2]
  refine ⟨fun c => h0 (fun z => ((holds_iff (by omega)).mpr z).1 c), fun c1 => ⟨fun c => h0 (fun z => ((holds_iff (by omega)).mpr z).2.1 c), fun c2 => ⟨fun c => h0 (fun z => ((holds_iff (by omega)).mpr z).2.2.1 c), fun c3 => ⟨fun c => h0 (fun z => ((holds_iff (by omega)).mpr z).2.2.2 c), fun c4 => ?_⟩⟩⟩⟩
  obtain ⟨i, m, e1, e2, e3⟩ := (holds_iff (n := n) (by omega)).mp ⟨c1, c2, c3, c4⟩
  exact h1 i m e3 e1 e2
theorem x_item {k n i : Nat} {Q : Int32 → S0 → Prop} (hn : n ≤ 40) (h2 : X k 2 = nI n) (hi : i < n) (h : Q (X (k + 1) i) X) : w2_item g k X (nI i) Q := by
  unfold w2_item
  rw [h2, nI_clamp (by omega)]
  exact br_f (nI_pos (by omega)) (br_f (nI_ge hi (by omega)) (br_f (nI_ge (b := 40) (by omega) (by decide)) ⟨vpl _ _ (by omega) (by decide), h⟩))
/-- an item as its sort holds it -/
def asS (so : Nat) (v : Int32) : Int32 := if so = 0 then v.toInt8.toInt32 else if so = 1 then v.toInt16.toInt32 else v
theorem x_put {k n i so : Nat} {v : Int32} {Q : S0 → Prop} (hn : n ≤ 40) (h1 : X k 1 = nI so) (hs : so < 3) (h2 : X k 2 = nI n) (hi : i < n) (h : Q (up X (k + 1) i (asS so v))) : w2_put g k X (nI i) v Q := by
  unfold w2_put
  rw [h2, h1, nI_clamp (by omega)]
  have vi := vpl i 40 (by omega) (by decide)
  refine br_f (nI_pos (by omega)) (br_f (nI_ge hi (by omega)) (br_f (nI_ge (b := 40) (by omega) (by decide)) ?_))
  unfold asS at h
  have e0 : nI so = 0 ↔ so = 0 := nI_eq (b := 0) (by omega) (by decide)
  have e1 : nI so = 1 ↔ so = 1 := nI_eq (b := 1) (by omega) (by decide)
  rw [e0, e1]
  refine ⟨fun c => ⟨fun c2 => ⟨vi, ?_⟩, fun c2 => ⟨vi, ?_⟩⟩, fun c => ⟨vi, ?_⟩⟩
  · rintro _ rfl; rw [if_neg c, if_neg c2] at h; exact h
  · rintro _ rfl; rw [if_neg c, if_pos c2] at h; exact h
  · rintro _ rfl; rw [if_pos c] at h; exact h
theorem op_cell (h : Rel tv nT κ g X M) (p1 p2 p3 : Int32) : w5_cell g X p1 p2 p3 (fun r X' => w6_cell M p1 p2 p3 (fun r' M' => Owes tv nT g r X' r' M')) := by
  unfold w5_cell
  refine x_sheetAt (fun c => ⟨fun _ => ?_, fun k e => (by cases e)⟩) (fun i hi ei => ⟨fun e => (by cases e), fun k e => ?_⟩)
  · unfold w6_cell
    refine m_isSheet ?_
    rw [b01]
    exact s_f c ⟨rfl, _, h⟩
  · obtain rfl : 58 + 2 * i = k := Option.some.inj e
    subst ei
    have vi := vpl i 4 hi (by decide)
    refine ⟨isSh hi, x_isMissing ?_⟩
    rw [b01]
    rcases h.2.2.2.2.2.2.2.2.2.2.2.2.2.2.2.1 i hi with ⟨s1, s2⟩ | ⟨so, n, hs, hn, s1, s2, s3, s4, s5, s6⟩
    · refine br_f (fun z => z s1) ?_
      unfold w6_cell
      refine m_isSheet ?_
      rw [b01, nI_clamp (n := i) (by omega), s2]
      exact s_t (fun z => z (isS_nI hi)) ⟨vi, s_f rfl ⟨rfl, _, h⟩⟩
    · refine br_t (fun z => nI_nm1 (p := so) (by omega) (s1.symm.trans z)) ?_
      have md : ∀ (r : Int32) (X' : S0), (∀ j, j < n → p2 = nI j → Owes tv nT g r X' 1 (up M 11 (40 * i + j) (asS so p3))) → (¬ isP n p2 → Owes tv nT g r X' (-12) M) → w6_cell M (nI i) p2 p3 (fun r' M' => Owes tv nT g r X' r' M') := by
        intro r X' a1 a2
        unfold w6_cell
        refine m_isSheet ?_
        rw [b01, nI_clamp (n := i) (by omega), s3, s5]
        refine s_t (fun z => z (isS_nI hi)) ⟨vi, s_t (by decide) ⟨vi, m_in32 (b := 0) ?_⟩⟩
        rw [b01, in_pred (by omega)]
        by_cases c : isP n p2
        · obtain ⟨j, hj, rfl⟩ := isP_of c (by omega)
          have a1 := a1 j hj rfl
          unfold asS at a1
          have e0 : nI so = 0 ↔ so = 0 := nI_eq (b := 0) (by omega) (by decide)
          have e1 : nI so = 1 ↔ so = 1 := nI_eq (b := 1) (by omega) (by decide)
          rw [s4, e0, e1, r40, nI_clamp (n := 40 * i + j) (by omega)]
          have vj := vpl (40 * i + j) 160 (by omega) (by decide)
          refine s_t (fun z => z c) ⟨vi, fun c0 => ⟨vi, fun c1 => ⟨vj, ?_⟩, fun c1 => ⟨vj, ?_⟩⟩, fun c0 => ⟨vj, ?_⟩⟩
          · rintro _ rfl; rw [if_neg c0, if_neg c1] at a1; exact a1
          · rintro _ rfl; rw [if_neg c0, if_pos c1] at a1; exact a1
          · rintro _ rfl; rw [if_pos c0] at a1; exact a1
        · exact s_f c (a2 c)
      refine x_holds hn s2 (fun j m hjm ej em => ?_) (fun c => ?_)
      · have m1 : m = 1 := ((nI_eq (a := 1) (by decide) (by omega)).mp em).symm
        subst m1
        subst ej
        refine s_t (by decide) (x_put hn s1 hs s2 (by omega) (md _ _ (fun j' hj' e' => ?_) (fun z => absurd (isP_nI (by omega) (by omega)) z)))
        have := (nI_eq (by omega) (by omega)).mp e'
        subst this
        refine ⟨rfl, κ, h.sh hi (fun k a b => up_r (by omega)) (fun k j' a b => ?_) (Or.inr ⟨so, n, hs, hn, ?_, ?_, ?_, ?_, ?_, fun j' hj' => ?_⟩)⟩
        · by_cases ek : k = 11
          · subst ek; exact up_j (by omega)
          · exact up_k ek
        · rw [up_k (by omega)]; exact s1
        · rw [up_k (by omega)]; exact s2
        · rw [up_k (by decide)]; exact s3
        · rw [up_k (by decide)]; exact s4
        · rw [up_k (by decide)]; exact s5
        · by_cases ej : j' = j
          · subst ej; rw [up_s, up_s]
          · rw [up_j ej, up_j (by omega)]; exact s6 j' hj'
      · refine s_f rfl (md _ _ (fun j hj e' => absurd ⟨j, 1, e', rfl, hj⟩ c) (fun _ => ⟨rfl, κ, h⟩))
/-- one comes -/
def comS (κ : CS) (c : Nat) (u : Int32) : CS := (cN κ + 1, fun j => if j = cN κ then nI c else cK κ j, fun j => if j = cN κ then u else cU κ j, fun j => if j = cN κ then 50 else cS κ j, fun j => if j = cN κ then 0 else cW κ j, cH κ, cL κ, cR κ, cT κ)
theorem ic_com {c : Nat} {u : Int32} (hI : IC κ) (h : cN κ < 6) : IC (comS κ c u) := ⟨h, hI.2.1, hI.2.2.1, hI.2.2.2.1, hI.2.2.2.2.1, fun p hp => hI.2.2.2.2.2 p (Nat.le_of_succ_le hp)⟩
def comOk (p1 p2 : Int32) : Prop := (¬ p1 < 0 ∧ ¬ (5 : Int32) < p1) ∧ (¬ p2 < 0 ∧ ¬ (9 : Int32) < p2)
theorem x_comes {p1 p2 : Int32} {Q : Int32 → S0 → Prop} (hX : RelX 10 κ X) (hI : IC κ) (h0 : ¬ comOk p1 p2 → Q (-2) X) (h1 : comOk p1 p2 → cN κ = 6 → Q (-4) X) (h2 : ∀ c, c < 6 → p1 = nI c → comOk p1 p2 → cN κ < 6 → ∀ X' : S0, FXb 10 X X' → RelX 10 (comS κ c p2) X' → Q (nI (cN κ)) X') : w0_comes g 10 X p1 p2 Q := by
  have i1 := hI.1
  unfold w0_comes
  refine x_within ?_
  rw [b01]
  by_cases c : ¬ p1 < 0 ∧ ¬ (5 : Int32) < p1
  · refine br_f (fun z => z c) (x_within ?_)
    rw [b01]
    by_cases c2 : ¬ p2 < 0 ∧ ¬ (9 : Int32) < p2
    · refine s_t (fun z => z c2) ?_
      obtain ⟨k1, hk1, rfl⟩ := rng (k := 5) (by decide) c
      rw [hX.1]
      refine br_f (nI_pos (by omega)) ?_
      by_cases c3 : cN κ < 6
      · refine br_t (nI_lt (b := 6) c3 (by decide)) ⟨vpl _ _ c3 (by decide), ?_⟩
        rintro _ rfl
        rw [up_k (by decide), hX.1, nI_clamp (n := cN κ) (by omega)]
        refine ⟨vpl _ _ c3 (by decide), ?_⟩
        rintro _ rfl
        rw [up_k (by decide), up_k (by decide), hX.1, nI_clamp (n := cN κ) (by omega)]
        refine ⟨vpl _ _ c3 (by decide), ?_⟩
        rintro _ rfl
        rw [up_k (by decide), up_k (by decide), up_k (by decide), hX.1, nI_clamp (n := cN κ) (by omega)]
        refine ⟨vpl _ _ c3 (by decide), ?_⟩
        rintro _ rfl
        rw [up_k (by decide), up_k (by decide), up_k (by decide), up_k (by decide), hX.1, nI_clamp (n := cN κ) (by omega)]
        refine ⟨vpl _ _ c3 (by decide), ?_⟩
        rintro _ rfl _ rfl
        rw [up_s, up_k (by decide), up_k (by decide), up_k (by decide), up_k (by decide), up_k (by decide), hX.1, nI_1, nI_pred]
        have h0 : cH κ (cN κ) = 0 := hI.2.2.2.2.2 _ (Nat.le_refl _)
        refine h2 k1 (by omega) rfl ⟨c, c2⟩ c3 _ (fun k h3 h4 hk => ?_) ?_
        · simp (disch := omega) only [up_r]
        · obtain ⟨r1, r2, r3, r4, r5, r6⟩ := hX
          refine ⟨up_s, ?_, ?_, ?_, fun p hp => ?_, fun p hp => ?_⟩
          · simp (disch := omega) only [up_s, up_j, up_k, r2]; rfl
          · simp (disch := omega) only [up_s, up_j, up_k, r3]; rfl
          · simp (disch := omega) only [up_s, up_j, up_k, r4]; rfl
          · by_cases ep : p = cN κ
            · subst ep
              simp (disch := omega) only [up_s, up_j, up_k]
              show _ = nI (cH κ (cN κ))
              rw [h0]; rfl
            · simp (disch := omega) only [up_s, up_j, up_k]
              exact r5 p hp
          · by_cases ep : p = cN κ
            · subst ep
              refine ⟨?_, ?_, ?_, ?_⟩ <;> simp (disch := omega) only [up_s, up_j, up_k] <;> exact (if_pos rfl).symm
            · have hp2 : p < cN κ := by
                have : p < cN κ + 1 := hp
                omega
              obtain ⟨q1, q2, q3, q4⟩ := r6 p hp2
              refine ⟨?_, ?_, ?_, ?_⟩ <;> simp (disch := omega) only [up_s, up_j, up_k, q1, q2, q3, q4] <;> exact (if_neg ep).symm
      · exact br_f (nI_nlt (b := 6) (by omega) (by omega)) (h1 ⟨c, c2⟩ (by omega))
    · exact s_f c2 (h0 (fun z => c2 z.2))
  · exact br_t c (h0 (fun z => c z.1))
theorem m_player {p1 p2 : Int32} {Q : Int32 → S0 → Prop} (hM : RelM κ M) (hI : IC κ) (h0 : ¬ comOk p1 p2 → Q (-2) M) (h1 : comOk p1 p2 → cN κ = 6 → Q (-4) M) (h2 : ∀ c, c < 6 → p1 = nI c → comOk p1 p2 → cN κ < 6 → ∀ M' : S0, GR M M' → RelM (comS κ c p2) M' → Q (nI (cN κ)) M') : w6_player M p1 p2 Q := by
  have i1 := hI.1
  unfold w6_player
  refine m_in32 (b := 0) (c := 5) ?_
  rw [b01]
  by_cases c : ¬ p1 < 0 ∧ ¬ (5 : Int32) < p1
  · refine br_f (fun z => z c) (m_in32 (b := 0) (c := 9) ?_)
    rw [b01]
    by_cases c2 : ¬ p2 < 0 ∧ ¬ (9 : Int32) < p2
    · refine s_t (fun z => z c2) ?_
      obtain ⟨k1, hk1, rfl⟩ := rng (k := 5) (by decide) c
      rw [hM.1]
      by_cases c3 : cN κ < 6
      · have e6 : ¬ nI (cN κ) = 6 := fun z => by
          have := (nI_eq (b := 6) (by omega) (by decide)).mp z
          omega
        refine s_t e6 ⟨vpl _ _ c3 (by decide), ?_⟩
        rintro _ rfl
        rw [up_k (by decide), hM.1, rw0, nI_clamp (n := cN κ) (by omega), nI_clamp (n := 4 * cN κ) (by omega)]
        refine ⟨vpl _ _ (by omega) (by decide), ?_⟩
        rintro _ rfl
        rw [up_k (by decide), up_k (by decide), hM.1, rw1, nI_clamp (n := 4 * cN κ + 1) (by omega)]
        refine ⟨vpl _ _ (by omega) (by decide), ?_⟩
        rintro _ rfl
        rw [up_k (by decide), up_k (by decide), up_k (by decide), hM.1, rw2, nI_clamp (n := 4 * cN κ + 2) (by omega)]
        refine ⟨vpl _ _ (by omega) (by decide), ?_⟩
        rintro _ rfl
        rw [up_k (by decide), up_k (by decide), up_k (by decide), up_k (by decide), hM.1, rw3, nI_clamp (n := 4 * cN κ + 3) (by omega)]
        refine ⟨vpl _ _ (by omega) (by decide), ?_⟩
        rintro _ rfl _ rfl
        rw [up_s, up_k (by decide), up_k (by decide), up_k (by decide), up_k (by decide), up_k (by decide), hM.1, nI_1, nI_pred]
        have h0 : cH κ (cN κ) = 0 := hI.2.2.2.2.2 _ (Nat.le_refl _)
        refine h2 k1 (by omega) rfl ⟨c, c2⟩ c3 _ (fun k j a b c d => ?_) ?_
        · by_cases ek : k = 0
          · subst ek
            simp (disch := omega) only [up_s, up_j, up_k]
          · simp (disch := omega) only [up_s, up_j, up_k]
        · obtain ⟨r1, r2, r3, r4, r5⟩ := hM
          refine ⟨up_s, ?_, ?_, ?_, fun p hp => ?_⟩
          · simp (disch := omega) only [up_s, up_j, up_k, r2]; rfl
          · simp (disch := omega) only [up_s, up_j, up_k, r3]; rfl
          · simp (disch := omega) only [up_s, up_j, up_k, r4]; rfl
          · by_cases ep : p = cN κ
            · subst ep
              refine ⟨?_, ?_, ?_, ?_, ?_⟩ <;> simp (disch := omega) only [up_s, up_j, up_k] <;> first | exact (if_pos rfl).symm | (show (0 : Int32) = nI (cH κ (cN κ)); rw [h0]; rfl)
            · have hp2 : p < cN κ := by
                have : p < cN κ + 1 := hp
                omega
              obtain ⟨q1, q2, q3, q4, q5⟩ := r5 p hp2
              refine ⟨?_, ?_, ?_, ?_, ?_⟩ <;> simp (disch := omega) only [up_s, up_j, up_k, q1, q2, q3, q4, q5] <;> first | exact (if_neg ep).symm | rfl
      · have e6 : cN κ = 6 := by omega
        rw [e6]
        exact s_f rfl (h1 ⟨c, c2⟩ e6)
    · exact s_f c2 (h0 (fun z => c2 z.2))
  · exact br_t c (h0 (fun z => c z.1))
theorem Rel.com {X' M' : S0} {c : Nat} {u : Int32} (h : Rel tv nT κ g X M) (hc : c < 6) (hn : cN κ < 6) (f : FXb 10 X X') (R : RelX 10 (comS κ c u) X') (fg : GR M M') (R2 : RelM (comS κ c u) M') : Rel tv nT (comS κ c u) g X' M' := by
  obtain ⟨h1, h2, h3, h4, h5, h6⟩ := h
  exact ⟨R, R2, ic_com h3 hn, h4, h5, RO.grow h6 hc rfl rfl f.a fg⟩
theorem op_player2 (h : Rel tv nT κ g X M) (p1 p2 : Int32) : w5_player g X p1 p2 (fun r X' => w6_player M p1 p2 (fun r' M' => Owes tv nT g r X' r' M')) := by
  have H := h
  obtain ⟨hX, hM, hI, hr, ht, hO⟩ := h
  unfold w5_player
  refine x_comes hX hI (fun c => m_player hM hI (fun _ => ⟨rfl, _, H⟩) (fun z => absurd z c) (fun _ _ _ z => absurd z c)) (fun c e => m_player hM hI (fun z => absurd c z) (fun _ _ => ⟨rfl, _, H⟩) (fun _ _ _ _ z => by omega)) (fun c hc ec ok hn X' f R => ?_)
  refine m_player hM hI (fun z => absurd ok z) (fun _ z => by omega) (fun c' hc' ec' _ _ M' f2 R2 => ?_)
  have := (nI_eq (by omega) (by omega)).mp (ec.symm.trans ec')
  subst this
  exact ⟨rfl, _, H.com hc hn f R f2 R2⟩
end CEL
