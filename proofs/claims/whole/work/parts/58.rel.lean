/-! what the class holds, and what the check holds, of one and the same club -/
def ShR (X M : S0) (i : Nat) : Prop := (X (58 + 2 * i) 1 = -1 ∧ M 8 i = 0) ∨ ∃ so n : Nat, so < 3 ∧ n ≤ 40 ∧ X (58 + 2 * i) 1 = nI so ∧ X (58 + 2 * i) 2 = nI n ∧ M 8 i = 1 ∧ M 9 i = nI so ∧ M 10 i = nI n ∧ ∀ j, j < n → X (58 + 2 * i + 1) j = M 11 (40 * i + j)
/-- ROUND as it may truly be -/
def RdOk (x : Int32) : Prop := 0 ≤ x.toInt ∧ x.toInt ≤ 999
/-- the check's IMAGE -/
def RelK (κ : CS) (M : S0) : Prop := M 0 34 = nI (cN κ) ∧ M 0 33 = nI (cL κ) ∧ M 0 35 = cR κ ∧ M 0 36 = nI (cT κ) ∧ ∀ p, p < cN κ → M 7 (4 * p) = cU κ p ∧ M 7 (4 * p + 1) = cS κ p ∧ M 7 (4 * p + 2) = cW κ p ∧ M 7 (4 * p + 3) = nI (cH κ p)
def KeptR (κ : CS) (nT : Nat) (X M : S0) : Prop := (X 0 4 = 0 ∧ M 0 34 = -1) ∨ ∃ κ' : CS, X 0 4 = 1 ∧ RelX 16 κ' X ∧ RelK κ' M ∧ IC κ' ∧ RdOk (cR κ') ∧ cT κ' < nT ∧ cN κ' ≤ cN κ ∧ ∀ p, p < cN κ' → cK κ' p = cK κ p
def TapeR (X M : S0) : Prop := ∃ sz : Nat, sz ≤ 160 ∧ X 5 1 = nI sz ∧ M 0 6 = nI sz ∧ ∀ j, j < sz → X 6 j = M 3 j ∧ ∃ c : Nat, c < 256 ∧ M 3 j = nI c
/-- all but the club that is now -/
def RO (tv : TV) (nT : Nat) (κ : CS) (g : GX) (X M : S0) : Prop := TX tv nT g X ∧ TM tv nT M ∧ nT ≤ 6 ∧ g.2 = nT ∧ X 1 3 = nI nT ∧ M 0 3 = nI nT ∧ (∀ t, X 2 t = if t < nT then nI (t + 1) else 0) ∧ M 0 28 = nI 0 ∧ KeptR κ nT X M ∧ TapeR X M ∧ (∀ i, i < 4 → ShR X M i) ∧ ∀ p, p < cN κ → ∃ c : Nat, c < 6 ∧ cK κ p = nI c
def Rel (tv : TV) (nT : Nat) (κ : CS) (g : GX) (X M : S0) : Prop := RelX 10 κ X ∧ RelM κ M ∧ IC κ ∧ RdOk (cR κ) ∧ cT κ < nT ∧ RO tv nT κ g X M
/-- the class's frame: no more than the club that is now, the clubs in thought and the rows of work has changed -/
def FA (X X' : S0) : Prop := ∀ k, k ≠ 3 → k ≠ 4 → (k < 10 ∨ (15 < k ∧ k < 22) ∨ 58 ≤ k) → X' k = X k
theorem FA.rf {X : S0} : FA X X := fun _ _ _ _ => rfl
theorem FA.tr {X Y Z : S0} (h : FA X Y) (h2 : FA Y Z) : FA X Z := fun k a c d => (h2 k a c d).trans (h k a c d)
theorem FT.a {X X' : S0} (h : FT X X') : FA X X' := fun k a b c => h k a b (by omega)
theorem FXb.a {X X' : S0} (h : FXb 10 X X') : FA X X' := fun k a b c => h k a b (by omega)
theorem FX.a {X X' : S0} (h : FX X X') : FA X X' := fun k a b _ => h k a b
theorem ShR.fr {X M X' M' : S0} {i : Nat} (hi : i < 4) (h : ShR X M i) (e1 : X' (58 + 2 * i) = X (58 + 2 * i)) (e2 : X' (58 + 2 * i + 1) = X (58 + 2 * i + 1)) (e3 : ∀ k j, 8 ≤ k → k ≤ 11 → M' k j = M k j) : ShR X' M' i := by
  unfold ShR
  rw [e1, e2, e3 8 i (by decide) (by decide), e3 9 i (by decide) (by decide), e3 10 i (by decide) (by decide)]
  rcases h with h | ⟨so, n, h1, h2, h3, h4, h5, h6, h7, h8⟩
  · exact Or.inl h
  · exact Or.inr ⟨so, n, h1, h2, h3, h4, h5, h6, h7, fun j hj => by rw [e3 11 _ (by decide) (by decide)]; exact h8 j hj⟩
/-- the check's frame: no more than the club that is now, what is laid aside and the fields of work has changed -/
def GR (M M' : S0) : Prop := ∀ k j, k ≠ 4 → k ≠ 5 → k ≠ 6 → (k ≠ 0 ∨ j = 3 ∨ j = 6 ∨ (31 < j ∧ j ≠ 100) ∨ j = 28) → M' k j = M k j
theorem GQ.r {d : Nat} {M M' : S0} (h : GQ d M M') : GR M M' := fun k j _ a b c => h.1 k j a b (by omega)
theorem GR.tr {X Y Z : S0} (h : GR X Y) (h2 : GR Y Z) : GR X Z := fun k j a b c d => (h2 k j a b c d).trans (h k j a b c d)
theorem GR.rf {X : S0} : GR X X := fun _ _ _ _ _ _ => rfl
theorem TM.r {tv : TV} {nT : Nat} {M M' : S0} (h : TM tv nT M) (hf : GR M M') : TM tv nT M' := h.fr (fun r _ j _ => hf 1 _ (by omega) (by omega) (by omega) (by omega)) (fun r _ => hf 2 _ (by omega) (by omega) (by omega) (by omega))
theorem RO.fr {tv : TV} {nT : Nat} {κ κ2 : CS} {g : GX} {X M X' M' : S0} (h : RO tv nT κ g X M) (hN : cN κ2 = cN κ) (hK : cK κ2 = cK κ) (f : FA X X') (q1 : GR M M') : RO tv nT κ2 g X' M' := by
  obtain ⟨h1, h2, h3, h4, h5, h6, h7, h8, h9, h10, h11, h12⟩ := h
  refine ⟨h1.fr (fun k hk => f k (by omega) (by omega) (by omega)) (f 2 (by omega) (by omega) (by omega)), h2.r q1, h3, h4, ?_, ?_, fun t => ?_, ?_, ?_, ?_, ⟨fun i hi => (h11 i hi).fr hi (f _ (by omega) (by omega) (by omega)) (f _ (by omega) (by omega) (by omega)) (fun k j a b => q1 k j (by omega) (by omega) (by omega) (by omega)), by rw [hN, hK]; exact h12⟩⟩
  · rw [f 1 (by omega) (by omega) (by omega)]; exact h5
  · rw [q1 0 3 (by omega) (by omega) (by omega) (by omega)]; exact h6
  · rw [f 2 (by omega) (by omega) (by omega)]; exact h7 t
  · rw [q1 0 28 (by omega) (by omega) (by omega) (by omega)]; exact h8
  · unfold KeptR
    rw [f 0 (by omega) (by omega) (by omega), q1 0 34 (by omega) (by omega) (by omega) (by omega), hN, hK]
    rcases h9 with h | ⟨κ', a1, a2, a3, a4, a5, a6, a7, a8⟩
    · exact Or.inl h
    · refine Or.inr ⟨κ', a1, ?_, ?_, a4, a5, a6, a7, a8⟩
      · unfold RelX
        rw [f 16 (by omega) (by omega) (by omega), f (16 + 1) (by omega) (by omega) (by omega), f (16 + 2) (by omega) (by omega) (by omega), f (16 + 3) (by omega) (by omega) (by omega), f (16 + 4) (by omega) (by omega) (by omega), f (16 + 5) (by omega) (by omega) (by omega)]
        exact a2
      · obtain ⟨b1, b2, b3, b4, b5⟩ := a3
        refine ⟨by rw [q1 0 34 (by omega) (by omega) (by omega) (by omega)]; exact b1, by rw [q1 0 33 (by omega) (by omega) (by omega) (by omega)]; exact b2, by rw [q1 0 35 (by omega) (by omega) (by omega) (by omega)]; exact b3, by rw [q1 0 36 (by omega) (by omega) (by omega) (by omega)]; exact b4, fun p hp => ?_⟩
        rw [q1 7 _ (by omega) (by omega) (by omega) (by omega), q1 7 _ (by omega) (by omega) (by omega) (by omega), q1 7 _ (by omega) (by omega) (by omega) (by omega), q1 7 _ (by omega) (by omega) (by omega) (by omega)]
        exact b5 p hp
  · obtain ⟨sz, a1, a2, a3, a4⟩ := h10
    refine ⟨sz, a1, by rw [f 5 (by omega) (by omega) (by omega)]; exact a2, by rw [q1 0 6 (by omega) (by omega) (by omega) (by omega)]; exact a3, fun j hj => ?_⟩
    rw [f 6 (by omega) (by omega) (by omega), q1 3 j (by omega) (by omega) (by omega) (by omega)]
    exact a4 j hj
theorem Rel.keep {tv : TV} {nT : Nat} {κ : CS} {g : GX} {X M X' M' : S0} (h : Rel tv nT κ g X M) (f : FT X X') (q : QM 0 M M') : Rel tv nT κ g X' M' := by
  obtain ⟨h1, h2, h3, h4, h5, h6⟩ := h
  exact ⟨h1.t f (by decide) (by decide), h2.q h3.1 q, h3, h4, h5, h6.fr rfl rfl f.a q.g.r⟩
theorem meet_K {tv : TV} {κ : CS} {p q : Nat} : cK (meetS tv κ p q) = cK κ := by
  show cK (if whoS tv κ p q = 2 then draS κ p q else if whoS tv κ p q = 1 then losS κ p q else losS κ q p) = cK κ
  split
  · rfl
  · split <;> rfl
theorem meet_R {tv : TV} {κ : CS} {p q : Nat} : cR (meetS tv κ p q) = cR κ + 1 := by
  show cR (if whoS tv κ p q = 2 then draS κ p q else if whoS tv κ p q = 1 then losS κ p q else losS κ q p) + 1 = cR κ + 1
  split
  · rfl
  · split <;> rfl
theorem rd_1 {x : Int32} (h : RdOk x) (h2 : x.toInt < 999) : RdOk (x + 1) := by
  have e : (x + 1).toInt = x.toInt + 1 := by
    rw [Int32.toInt_add, show (1 : Int32).toInt = 1 by decide, Int.bmod_eq_of_le (by have := h.1; omega) (by omega)]
  unfold RdOk
  rw [e]
  exact ⟨by have := h.1; omega, by omega⟩
/-- a game, truly: the club that is now -/
theorem Rel.meet {tv : TV} {nT : Nat} {κ : CS} {g : GX} {X M X' M' : S0} {p q : Nat} (h : Rel tv nT κ g X M) (hp : p < cN κ) (hq : q < cN κ) (hne : p ≠ q) (hr : (cR κ).toInt < 999) (f : FXb 10 X X') (R : RelX 10 (meetS tv κ p q) X') (f2 : GM M M') (R2 : RelM (meetS tv κ p q) M') : Rel tv nT (meetS tv κ p q) g X' M' := by
  obtain ⟨h1, h2, h3, h4, h5, h6⟩ := h
  exact ⟨R, R2, ic_meet h3 hp hq hne, by rw [meet_R]; exact rd_1 h4 hr, by rw [meet_T]; exact h5, h6.fr meet_N meet_K f.a (f2.q (d := 0)).r⟩
theorem rng {p : Int32} {k : Nat} (hk : k < 2 ^ 31) (h : ¬ p < 0 ∧ ¬ nI k < p) : ∃ j, j ≤ k ∧ p = nI j := by
  obtain ⟨j, hj, rfl⟩ := nI_of h.1
  refine ⟨j, ?_, rfl⟩
  rcases Nat.lt_or_ge k j with q | q
  · exact absurd (nI_lt q hj) h.2
  · exact q
theorem rngN {p : Int32} {k : Nat} (hk : k < 2 ^ 31) (h : ¬ (¬ p < 0 ∧ ¬ nI k < p)) : p.toInt < 0 ∨ (k : Int) < p.toInt := by
  by_cases c : p < 0
  · exact Or.inl (by have := Int32.lt_iff_toInt_lt.mp c; rw [show (0 : Int32).toInt = 0 by decide] at this; exact this)
  · right
    have c2 : nI k < p := Classical.not_not.mp (fun z => h ⟨c, z⟩)
    have := Int32.lt_iff_toInt_lt.mp c2
    rw [nI_toInt hk] at this
    exact this
theorem rng2 {j k : Nat} (hj : j ≤ k) (hk : k < 2 ^ 31) : ¬ nI j < 0 ∧ ¬ nI k < nI j := ⟨nI_pos (by omega), nI_nlt hj (by omega)⟩
section OPS
variable {tv : TV} {nT : Nat} {κ : CS} {g : GX} {X M : S0}
/-- what a call owes: the answers are one, and the two still hold the same club -/
def Owes (tv : TV) (nT : Nat) (g : GX) (r : Int32) (X' : S0) (r' : Int32) (M' : S0) : Prop := r = r' ∧ ∃ κ', Rel tv nT κ' g X' M'
theorem or_lt2 {p q : Int32} {n : Nat} (hn : n ≤ 6) (h : isP n p ∧ isP n q ∧ ¬ p = q) : ∃ i j, i < n ∧ j < n ∧ i ≠ j ∧ p = nI i ∧ q = nI j := by
  obtain ⟨i, hi, rfl⟩ := isP_of h.1 (by omega)
  obtain ⟨j, hj, rfl⟩ := isP_of h.2.1 (by omega)
  exact ⟨i, j, hi, hj, fun e => h.2.2 (by rw [e]), rfl, rfl⟩
theorem op_game (h : Rel tv nT κ g X M) (p1 p2 : Int32) : w5_game g X p1 p2 (fun r X' => w6_game M p1 p2 (fun r' M' => Owes tv nT g r X' r' M')) := by
  have H := h
  obtain ⟨hX, hM, hI, hr, ht, hO⟩ := h
  have i1 := hI.1
  unfold w5_game w6_game
  refine x_areTwo hX.1 i1 ?_
  rw [b01]
  by_cases c : isP (cN κ) p1 ∧ isP (cN κ) p2 ∧ ¬ p1 = p2
  · refine s_t (fun z => z c) ?_
    obtain ⟨i, j, hi, hj, hne, rfl, rfl⟩ := or_lt2 i1 c
    rw [hX.2.2.1]
    by_cases c2 : (cR κ).toInt < 999
    · have e : cR κ < 999 := by
        rw [Int32.lt_iff_toInt_lt, show (999 : Int32).toInt = 999 by decide]; omega
      refine br_t e (x_meet (by decide) (by decide) hX hI hO.1 ht hi hj hne (fun X1 f1 R1 => ?_))
      refine m_areTwo hM.1 i1 ?_
      rw [b01]
      refine s_t (fun z => z c) ?_
      have e2 : ¬ cR κ = 999 := fun z => by rw [z] at c2; exact absurd c2 (by decide)
      rw [hM.2.2.1]
      refine s_t e2 (m_games hM hI hO.2.1 ht hi hj hne (fun M1 f2 R2 => ?_))
      exact ⟨rfl, _, H.meet hi hj hne c2 f1 R1 f2 R2⟩
    · have e3 : cR κ = 999 := Int32.toInt_inj.mp (by rw [show (999 : Int32).toInt = 999 by decide]; have := hr.2; omega)
      refine br_f (by rw [e3]; decide) ?_
      refine m_areTwo hM.1 i1 ?_
      rw [b01]
      refine s_t (fun z => z c) ?_
      rw [hM.2.2.1]
      exact s_f e3 ⟨rfl, _, H⟩
  · refine s_f c ?_
    refine m_areTwo hM.1 i1 ?_
    rw [b01]
    exact s_f c ⟨rfl, _, H⟩
end OPS
