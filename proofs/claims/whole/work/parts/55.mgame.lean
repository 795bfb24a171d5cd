/-! POWER, TIRE, A GAME, in the check -/
section MG
variable {M : S0} {κ : CS} {tv : TV} {nT : Nat}
theorem tv_yes {x : Int32} : (sayF 1 x = 0) ↔ ¬ (x ≠ 0) := by
  show x = 0 ↔ _
  exact Classical.not_not.symm
theorem m_throwsIt {p q : Nat} {Q : Int32 → S0 → Prop} (hR : RelM κ M) (hI : IC κ) (hT : TM tv nT M) (ht : cT κ < nT) (hp : p < cN κ) (hq : q < cN κ) (h : ∀ M' : S0, ScM M M' → Q (if thrS tv κ p q = true then 1 else 0) M') : w6_throwsIt M (nI p) (nI q) Q := by
  have i1 := hI.1
  unfold w6_throwsIt
  rw [nI_clamp (n := p) (by omega), (hR.2.2.2.2 p hp).1]
  refine ⟨vpl _ _ (by omega) (by omega), ?_⟩
  rintro _ rfl
  by_cases k2 : cK κ p = 2
  · refine br_t k2 ?_
    have h := h M ScM.rf
    rw [show thrS tv κ p q = false by simp [thrS, k2]] at h
    exact h
  · refine br_f k2 ?_
    by_cases k4 : cK κ p = 4
    · refine s_f k4 ?_
      have h := h M ScM.rf
      rw [show thrS tv κ p q = false by simp [thrS, k4]] at h
      exact h
    · refine s_t k4 (m_says (part := 1) hR hI hT ht (by decide) hp hq (fun M1 f1 => ?_))
      have R1 := hR.fr f1
      have h := h M1 f1
      rw [tv_yes]
      have eh : (nI (cH κ q) = 0) ↔ cH κ q = 0 := nI_eq (b := 0) (Nat.lt_trans (hI.2.1 q) (by decide)) (by decide)
      have e8 := pc8_le (cH κ p)
      have eg : ((4 : Int32) ≤ nI (pc8 (cH κ p))) ↔ ¬ pc8 (cH κ p) < 4 := by rw [Nat.not_lt]; exact nI_leI (a := 4) (by decide) (by omega)
      refine ⟨fun c => ?_, fun c => ?_⟩
      · unfold w6_throwsIt_b34
        refine br_t rfl ⟨fun k1 => ⟨fun k3 => ⟨rfl, ?_⟩, fun k3 => m_has R1 i1 hq ⟨fun c2 => ?_, fun c2 => ?_⟩⟩, fun k1 => ?_⟩
        · rw [show thrS tv κ p q = false by simp [thrS, k1, k2, k3, k4]; simpa using c] at h
          exact h
        · rw [eh] at c2
          rw [show thrS tv κ p q = false by simp only [thrS, k3, if_neg (show ¬ (3 : Int32) = 1 by decide), if_neg (show ¬ (3 : Int32) = 2 by decide), if_neg (show ¬ (3 : Int32) = 4 by decide), if_true, decide_eq_false c, Bool.false_and, Bool.false_or]; simp [c2]] at h
          exact h
        · rw [eh] at c2
          rw [show thrS tv κ p q = true by simp only [thrS, k3, if_neg (show ¬ (3 : Int32) = 1 by decide), if_neg (show ¬ (3 : Int32) = 2 by decide), if_neg (show ¬ (3 : Int32) = 4 by decide), if_true, decide_eq_false c, Bool.false_and, Bool.false_or]; simp [c2]] at h
          exact h
        · rw [show thrS tv κ p q = false by simp only [thrS, k1, if_true, decide_eq_false c, Bool.false_and]] at h
          exact h
      · have c := Classical.not_not.mp c
        unfold w6_throwsIt_b34
        refine br_f (by decide) (m_hasMany R1 hI hp ?_)
        rw [eg]
        refine ⟨fun c4 => ⟨fun k1 => ⟨fun k3 => ⟨rfl, ?_⟩, fun k3 => m_has R1 i1 hq ⟨fun c2 => ?_, fun c2 => ?_⟩⟩, fun k1 => ?_⟩, fun c4 => ⟨fun k1 => ⟨fun k3 => ⟨rfl, ?_⟩, fun k3 => ?_⟩, fun k1 => ?_⟩⟩
        · rw [show thrS tv κ p q = true by simp only [thrS, if_neg k1, if_neg k2, if_neg k3, if_neg k4, decide_eq_true c]] at h
          exact h
        · rw [eh] at c2
          rw [show thrS tv κ p q = false by simp only [thrS, k3, if_neg (show ¬ (3 : Int32) = 1 by decide), if_neg (show ¬ (3 : Int32) = 2 by decide), if_neg (show ¬ (3 : Int32) = 4 by decide), if_true, decide_eq_false c4, Bool.and_false, Bool.false_or]; simp [c2]] at h
          exact h
        · rw [eh] at c2
          rw [show thrS tv κ p q = true by simp only [thrS, k3, if_neg (show ¬ (3 : Int32) = 1 by decide), if_neg (show ¬ (3 : Int32) = 2 by decide), if_neg (show ¬ (3 : Int32) = 4 by decide), if_true, decide_eq_false c4, Bool.and_false, Bool.false_or]; simp [c2]] at h
          exact h
        · rw [show thrS tv κ p q = false by simp only [thrS, k1, if_true, decide_eq_false c4, Bool.and_false]] at h
          exact h
        · rw [show thrS tv κ p q = true by simp only [thrS, if_neg k1, if_neg k2, if_neg k3, if_neg k4, decide_eq_true c]] at h
          exact h
        · have c4 := Classical.not_not.mp c4
          rw [show thrS tv κ p q = true by simp only [thrS, k3, if_neg (show ¬ (3 : Int32) = 1 by decide), if_neg (show ¬ (3 : Int32) = 2 by decide), if_neg (show ¬ (3 : Int32) = 4 by decide), if_true, decide_eq_true c4, decide_eq_true c, Bool.and_self, Bool.true_or]] at h
          exact h
        · have c4 := Classical.not_not.mp c4
          rw [show thrS tv κ p q = true by simp only [thrS, k1, if_true, decide_eq_true c4, decide_eq_true c, Bool.and_self]] at h
          exact h
theorem add0 (x : Int32) : x + 0 = x := Int32.add_zero x
theorem m_playsOf {p q : Nat} {Q : Int32 → S0 → Prop} (hR : RelM κ M) (hI : IC κ) (hT : TM tv nT M) (ht : cT κ < nT) (hp : p < cN κ) (hq : q < cN κ) (h : ∀ M' : S0, ScM M M' → Q (bnd (plyF κ p (bnd (tv (cT κ) 0 (vals κ p q)) 0 99)) 0 999) M') : w6_playsOf M (nI p) (nI q) Q := by
  have i1 := hI.1
  unfold w6_playsOf
  rw [nI_clamp (n := p) (by omega), (hR.2.2.2.2 p hp).1, rw0, nI_clamp (n := 4 * p) (by omega)]
  refine ⟨vpl _ _ (by omega) (by omega), ?_⟩
  rintro _ rfl
  by_cases k5 : cK κ p = 5
  · refine s_f k5 ?_
    have h := h M ScM.rf
    rw [show plyF κ p (bnd (tv (cT κ) 0 (vals κ p q)) 0 99) = 0 by simp [plyF, k5]] at h
    exact h
  · refine s_t k5 (m_says (part := 0) hR hI hT ht (by decide) hp hq (fun M1 f1 => ?_))
    have R1 := hR.fr f1
    have h := h M1 f1
    rw [show sayF 0 (tv (cT κ) 0 (vals κ p q)) = bnd (tv (cT κ) 0 (vals κ p q)) 0 99 from rfl]
    generalize bnd (tv (cT κ) 0 (vals κ p q)) 0 99 = v at h ⊢
    refine ⟨vpl _ _ (by omega) (by omega), ?_⟩
    rintro _ rfl
    rw [(R1.2.2.2.2 p hp).2.1, R1.2.2.1]
    have eh : (nI (cH κ p) = 0) ↔ cH κ p = 0 := nI_eq (b := 0) (Nat.lt_trans (hI.2.1 p) (by decide)) (by decide)
    refine ⟨fun k1 => ⟨fun k3 => ⟨fun k2 => ⟨fun k4 => m_within ?_, fun k4 => ⟨fun c => ?_, fun c => ?_⟩⟩, fun k2 => ?_⟩, fun k3 => m_has R1 i1 hp ⟨fun c => ?_, fun c => ?_⟩⟩, fun k1 => ?_⟩
    · rw [show plyF κ p v = v by simp [plyF, k1, k2, k3, k4, k5]] at h
      exact h
    · rintro _ rfl
      rw [show plyF κ p v = v / 2 by simp [plyF, k4, c]] at h
      rw [add0]
      exact m_within h
    · rintro _ rfl
      rw [show plyF κ p v = v / 2 + 50 by simp [plyF, k4, c]] at h
      exact m_within h
    · rintro _ rfl
      rw [show plyF κ p v = v / 2 by simp [plyF, k2]] at h
      exact m_within h
    · rintro _ rfl
      rw [eh] at c
      rw [show plyF κ p v = 2 * v by simp [plyF, k3, c]] at h
      rw [add0]
      exact m_within h
    · rintro _ rfl
      rw [eh] at c
      rw [show plyF κ p v = 2 * v + cU κ p by simp [plyF, k3, c]] at h
      exact m_within h
    · rintro _ rfl
      rw [show plyF κ p v = 2 * v by simp [plyF, k1]] at h
      exact m_within h
theorem m_powerOf {p q : Nat} {Q : Int32 → S0 → Prop} (hR : RelM κ M) (hI : IC κ) (hT : TM tv nT M) (ht : cT κ < nT) (hp : p < cN κ) (hq : q < cN κ) (h : ∀ M' : S0, ScM M M' → Q (powS tv κ p q) M') : w6_powerOf M (nI p) (nI q) Q := by
  unfold w6_powerOf
  refine m_throwsIt hR hI hT ht hp hq (fun M1 f1 => ?_)
  rw [b01]
  unfold powS at h
  refine ⟨fun c => m_playsOf (hR.fr f1) hI (hT.g f1.g) ht hp hq (fun M2 f2 => ?_), fun c => ?_⟩
  · have h := h M2 (f1.tr f2)
    rw [if_neg c] at h
    exact h
  · have h := h M1 f1
    rw [if_pos (Classical.not_not.mp c)] at h
    exact h
theorem m_tiresOf {p q : Nat} {won : Bool} {Q : Int32 → S0 → Prop} (hR : RelM κ M) (hI : IC κ) (hT : TM tv nT M) (ht : cT κ < nT) (hp : p < cN κ) (hq : q < cN κ) (h : ∀ M' : S0, ScM M M' → Q (tirS tv κ p q won) M') : w6_tiresOf M (nI p) (nI q) (if won = true then 1 else 0) Q := by
  have i1 := hI.1
  unfold w6_tiresOf
  unfold tirS at h
  rw [nI_clamp (n := p) (by omega), (hR.2.2.2.2 p hp).1]
  refine ⟨vpl _ _ (by omega) (by omega), ?_⟩
  rintro _ rfl
  by_cases k5 : cK κ p = 5
  · refine s_f k5 ?_
    have h := h M ScM.rf
    rw [show tirF κ p won (bnd (tv (cT κ) 2 (vals κ p q)) (-9) 9) = 0 by simp [tirF, k5]] at h
    exact h
  · refine s_t k5 (m_says (part := 2) hR hI hT ht (by decide) hp hq (fun M1 f1 => ?_))
    have h := h M1 f1
    rw [show sayF 2 (tv (cT κ) 2 (vals κ p q)) = bnd (tv (cT κ) 2 (vals κ p q)) (-9) 9 from rfl]
    generalize bnd (tv (cT κ) 2 (vals κ p q)) (-9) 9 = v at h ⊢
    rw [b01]
    refine ⟨fun c => ⟨fun k1 => ⟨fun k3 => ⟨fun k2 => ⟨fun k4 => m_within ?_, fun k4 => m_within ?_⟩, fun k2 => m_within ?_⟩, fun k3 => m_within ?_⟩, fun k1 => m_within ?_⟩, fun c => ⟨fun k1 => ⟨fun k3 => ⟨fun k2 => ⟨fun k4 => m_within ?_, fun k4 => m_within ?_⟩, fun k2 => m_within ?_⟩, fun k3 => m_within ?_⟩, fun k1 => m_within ?_⟩⟩
    · rw [show tirF κ p won v = v by simp [tirF, k1, k2, k3, k4, k5]] at h; exact h
    · rw [show tirF κ p won v = -v - 3 by simp [tirF, k4]] at h; exact h
    · rw [show tirF κ p won v = -v by simp [tirF, k2]] at h; exact h
    · rw [show tirF κ p won v = v + 1 by simp [tirF, k3, c]] at h; exact h
    · rw [show tirF κ p won v = v by simp [tirF, k1, c]] at h; exact h
    · rw [show tirF κ p won v = v by simp [tirF, k1, k2, k3, k4, k5]] at h; exact h
    · rw [show tirF κ p won v = -v - 3 by simp [tirF, k4]] at h; exact h
    · rw [show tirF κ p won v = -v by simp [tirF, k2]] at h; exact h
    · have c := Classical.not_not.mp c
      rw [show tirF κ p won v = 1 by simp [tirF, k3, c]] at h; exact h
    · have c := Classical.not_not.mp c
      rw [show tirF κ p won v = 0 by simp [tirF, k1, c]] at h; exact h
theorem m_winnerOf {p q : Nat} {Q : Int32 → S0 → Prop} (hR : RelM κ M) (hI : IC κ) (hT : TM tv nT M) (ht : cT κ < nT) (hp : p < cN κ) (hq : q < cN κ) (h : ∀ M' : S0, ScM M M' → Q (whoI (whoS tv κ p q) p q) M') : w6_winnerOf M (nI p) (nI q) Q := by
  unfold w6_winnerOf
  refine m_powerOf hR hI hT ht hp hq (fun M1 f1 => m_powerOf (hR.fr f1) hI (hT.g f1.g) ht hq hp (fun M2 f2 => ?_))
  have h := h M2 (f1.tr f2)
  unfold whoS at h
  refine ⟨fun c => ⟨fun c2 => ?_, fun c2 => ?_⟩, fun c => ?_⟩
  · rw [if_pos (Int32.le_antisymm c c2)] at h; exact h
  · rw [if_neg (fun e => c2 (by rw [e]; exact Int32.le_refl _)), if_pos c] at h; exact h
  · rw [if_neg (fun e => c (by rw [e]; exact Int32.le_refl _)), if_neg c] at h; exact h
end MG
