/-! the check's side: the same club, its rows -/
def RelM (κ : CS) (M : S0) : Prop := M 0 11 = nI (cN κ) ∧ M 0 8 = nI (cL κ) ∧ M 0 7 = cR κ ∧ M 0 4 = nI (cT κ) ∧ ∀ p, p < cN κ → M 4 p = cK κ p ∧ M 5 (4 * p) = cU κ p ∧ M 5 (4 * p + 1) = cS κ p ∧ M 5 (4 * p + 2) = cW κ p ∧ M 5 (4 * p + 3) = nI (cH κ p)
/-- all as it was but the fields of the reading -/
def ScM (M M' : S0) : Prop := ∀ k j, (k ≠ 0 ∨ j < 12 ∨ (26 < j ∧ j ≠ 100)) → M' k j = M k j
/-- all as it was but those, the rows, ROUND and THE HALL -/
def GM (M M' : S0) : Prop := ∀ k j, k ≠ 5 → (k ≠ 0 ∨ (j < 12 ∧ j ≠ 7 ∧ j ≠ 8) ∨ (26 < j ∧ j ≠ 100)) → M' k j = M k j
theorem ScM.rf {M : S0} : ScM M M := fun _ _ _ => rfl
theorem ScM.tr {X Y Z : S0} (h : ScM X Y) (h2 : ScM Y Z) : ScM X Z := fun k j a => (h2 k j a).trans (h k j a)
theorem ScM.g {X Y : S0} (h : ScM X Y) : GM X Y := fun k j _ a => h k j (by omega)
theorem GM.rf {M : S0} : GM M M := fun _ _ _ _ => rfl
theorem GM.tr {X Y Z : S0} (h : GM X Y) (h2 : GM Y Z) : GM X Z := fun k j a b => (h2 k j a b).trans (h k j a b)
theorem RelM.fr {κ : CS} {M M' : S0} (h : RelM κ M) (hf : ScM M M') : RelM κ M' := by
  obtain ⟨r1, r2, r3, r4, r5⟩ := h
  refine ⟨by rw [hf 0 11 (by omega)]; exact r1, by rw [hf 0 8 (by omega)]; exact r2, by rw [hf 0 7 (by omega)]; exact r3, by rw [hf 0 4 (by omega)]; exact r4, fun p hp => ?_⟩
  rw [hf 4 p (by omega), hf 5 (4 * p) (by omega), hf 5 (4 * p + 1) (by omega), hf 5 (4 * p + 2) (by omega), hf 5 (4 * p + 3) (by omega)]
  exact r5 p hp
/-- the texts, as the check works them out -/
def TM (tv : TV) (nT : Nat) (M : S0) : Prop := ∀ r, r < nT → ∀ part, part < 3 → ∀ (M' : S0) (v : Nat → Int32) (Q : Int32 → S0 → Prop), (∀ j, j < 160 → M' 1 (160 * r + j) = M 1 (160 * r + j)) → M' 2 r = M 2 r → (∀ i, i < 6 → M' 0 (12 + i) = v i) → (∀ M'' : S0, ScM M' M'' → Q (tv r part v) M'') → w6_read M' (nI r) (nI part) Q
theorem TM.fr {tv : TV} {nT : Nat} {M M' : S0} (h : TM tv nT M) (h1 : ∀ r, r < nT → ∀ j, j < 160 → M' 1 (160 * r + j) = M 1 (160 * r + j)) (h2 : ∀ r, r < nT → M' 2 r = M 2 r) : TM tv nT M' :=
  fun r hr part hp Y v Q a b c d => h r hr part hp Y v Q (fun j hj => (a j hj).trans (h1 r hr j hj)) (b.trans (h2 r hr)) c d
theorem TM.g {tv : TV} {nT : Nat} {M M' : S0} (h : TM tv nT M) (hf : GM M M') : TM tv nT M' := h.fr (fun r _ j _ => hf 1 _ (by omega) (by omega)) (fun r _ => hf 2 _ (by omega) (by omega))
theorem lg_lt {x y : Int64} : lg_cmp x y < 0 ↔ x < y := by
  unfold lg_cmp
  by_cases h : x > y
  · rw [if_pos h]
    exact ⟨fun z => absurd z (by decide), fun z => absurd (Int64.lt_trans z h) (Int64.lt_irrefl)⟩
  · rw [if_neg h]
    by_cases h2 : x = y
    · rw [if_pos h2, h2]
      exact ⟨fun z => absurd z (by decide), fun z => absurd z (Int64.lt_irrefl)⟩
    · rw [if_neg h2]
      exact ⟨fun _ => Int64.lt_of_le_of_ne (Int64.not_lt.mp h) h2, fun _ => by decide⟩
theorem lg_gt {x y : Int64} : 0 < lg_cmp x y ↔ y < x := by
  unfold lg_cmp
  by_cases h : x > y
  · rw [if_pos h]; exact ⟨fun _ => h, fun _ => by decide⟩
  · rw [if_neg h]
    by_cases h2 : x = y
    · rw [if_pos h2]
      exact ⟨fun z => absurd z (by decide), fun z => absurd z h⟩
    · rw [if_neg h2]
      exact ⟨fun z => absurd z (by decide), fun z => absurd z h⟩
theorem lg_eq {x y : Int64} : lg_cmp x y = 0 ↔ x = y := by
  unfold lg_cmp
  by_cases h : x > y
  · rw [if_pos h]
    exact ⟨fun z => absurd z (by decide), fun z => absurd h (by rw [z]; exact Int64.lt_irrefl)⟩
  · rw [if_neg h]
    by_cases h2 : x = y
    · rw [if_pos h2]; exact ⟨fun _ => h2, fun _ => rfl⟩
    · rw [if_neg h2]
      exact ⟨fun z => absurd z (by decide), fun z => absurd z h2⟩
theorem lt64 {x y : Int32} : x.toInt64 < y.toInt64 ↔ x < y := by
  rw [Int64.lt_iff_toInt_lt, Int32.toInt_toInt64, Int32.toInt_toInt64, Int32.lt_iff_toInt_lt]
theorem narB {c : Prop} [Decidable c] : narrow .boolean (.int (if c then (1 : Int32) else 0)) = .int (if c then (1 : Int32) else 0) := by
  by_cases h : c
  · rw [if_pos h]; rfl
  · rw [if_neg h]; rfl
theorem b01 {c : Prop} [Decidable c] : ((if c then (1 : Int32) else 0) = 0) ↔ ¬ c := by
  by_cases h : c
  · rw [if_pos h]; exact ⟨fun z => absurd z (by decide), fun z => absurd h z⟩
  · rw [if_neg h]; exact ⟨fun _ => h, fun _ => rfl⟩
section MC
variable {M : S0} {κ : CS} {tv : TV} {nT : Nat}
theorem m_in {a b c : Int64} {Q : Int32 → S0 → Prop} (h : Q (if ¬ a < b ∧ ¬ c < a then 1 else 0) M) : w6_in M a b c Q := by
  unfold w6_in
  rw [lg_lt, lg_gt]
  refine ⟨fun c1 => ?_, fun c1 => ⟨fun c2 => ?_, fun c2 => ?_⟩⟩
  · rw [if_neg (fun z => z.1 c1)] at h; exact h
  · rw [if_neg (fun z => z.2 c2)] at h; exact h
  · rw [if_pos ⟨c1, c2⟩] at h; exact h
theorem m_in32 {a b c : Int32} {Q : Int32 → S0 → Prop} (h : Q (if ¬ a < b ∧ ¬ c < a then 1 else 0) M) : w6_in M a.toInt64 b.toInt64 c.toInt64 Q := by
  refine m_in ?_
  simp only [lt64]
  exact h
theorem m_isOne {p : Int32} {Q : Int32 → S0 → Prop} {n : Nat} (hn : M 0 11 = nI n) (h6 : n ≤ 6) (h : Q (if isP n p then 1 else 0) M) : w6_isOne M p Q := by
  unfold w6_isOne
  rw [hn]
  refine m_in32 (b := 0) ⟨narB, ?_⟩
  have e : (¬ p < 0 ∧ ¬ nI n - 1 < p) ↔ isP n p := by
    have e1 : (nI n - 1).toInt = (n : Int) - 1 := by
      rw [sub_sm (by rw [nI_toInt (by omega)]; omega) (by rw [nI_toInt (by omega)]; omega) (by decide) (by decide), nI_toInt (by omega)]
      rfl
    rw [Int32.lt_iff_toInt_lt (x := nI n - 1), e1]
    show _ ↔ _ ∧ p < nI n
    rw [Int32.lt_iff_toInt_lt (y := nI n), nI_toInt (by omega)]
    exact ⟨fun z => ⟨z.1, by omega⟩, fun z => ⟨z.1, by omega⟩⟩
  simp only [e]
  exact h
theorem m_areTwo {p q : Int32} {Q : Int32 → S0 → Prop} {n : Nat} (hn : M 0 11 = nI n) (h6 : n ≤ 6) (h : Q (if isP n p ∧ isP n q ∧ ¬ p = q then 1 else 0) M) : w6_areTwo M p q Q := by
  unfold w6_areTwo
  refine m_isOne hn h6 ?_
  rw [b01]
  refine ⟨fun c => ?_, fun c => m_isOne hn h6 ?_⟩
  · rw [if_neg (fun z => c z.1)] at h; exact h
  · have c := Classical.not_not.mp c
    rw [b01]
    refine ⟨fun c2 => ?_, fun c2 => ⟨fun c3 => ?_, fun c3 => ?_⟩⟩
    · rw [if_neg (fun z => c2 z.2.1)] at h; exact h
    · rw [if_neg (fun z => z.2.2 c3)] at h; exact h
    · rw [if_pos ⟨c, Classical.not_not.mp c2, c3⟩] at h; exact h
theorem m_within {p1 p2 p3 : Int32} {Q : Int32 → S0 → Prop} (h : Q (bnd p1 p2 p3) M) : w6_within M p1 p2 p3 Q := by
  unfold w6_within
  unfold bnd at h
  refine ⟨fun c1 => ⟨fun c2 => ?_, fun c2 => ?_⟩, fun c1 => ?_⟩
  · rw [if_neg (Int32.not_lt.mpr c1), if_neg (Int32.not_lt.mpr c2)] at h; exact h
  · rw [if_neg (Int32.not_lt.mpr c1), if_pos (Int32.not_le.mp c2)] at h; exact h
  · rw [if_pos (Int32.not_le.mp c1)] at h; exact h
theorem m_bits_b {Q : Int32 → S0 → Prop} : ∀ (k : Nat), k < 256 → ∀ c : Nat, Q (nI (c + pc8 k)) M → w6_bitsOf_b4 Q (k + 1) M (nI c) (nI k) := by
  intro k
  induction k using Nat.strongRecOn with
  | _ k ih =>
    intro hk c h
    rw [w6_bitsOf_b4]
    by_cases k0 : k = 0
    · subst k0
      refine br_t rfl ?_
      rw [pc8_0] at h
      exact h
    · obtain ⟨e1, e2, e3⟩ := kern1 k hk k0
      refine br_f (nI_ne0 (by omega) (by omega)) ?_
      rintro _ rfl _ rfl
      rw [e1, nI_1]
      have := ih (k &&& (k - 1)) e2 (by omega) (c + 1) (by rw [show c + 1 + pc8 (k &&& (k - 1)) = c + pc8 k by omega]; exact h)
      have mono : ∀ (f f' : Nat) (v x : Int32), f ≤ f' → w6_bitsOf_b4 Q f M v x → w6_bitsOf_b4 Q f' M v x := by
        intro f
        induction f with
        | zero => intro f' v x _ z; exact z.elim
        | succ f ihf =>
          intro f' v x hf z
          cases f' with
          | zero => omega
          | succ f' =>
            rw [w6_bitsOf_b4] at z ⊢
            exact ⟨z.1, fun n x2 e x3 e' => ihf f' x2 x3 (by omega) (z.2 n x2 e x3 e')⟩
      exact mono _ _ _ _ (by omega) this
theorem m_bitsOf {k : Nat} {Q : Int32 → S0 → Prop} (hk : k < 256) (h : Q (nI (pc8 k)) M) : w6_bitsOf M (nI k) Q := by
  unfold w6_bitsOf
  exact ⟨k + 1, m_bits_b k hk 0 (by rw [Nat.zero_add]; exact h)⟩
theorem rw3 {p : Nat} : ((4 : Int32) * nI p) + (3 : Int32) = nI (4 * p + 3) := r4_k p 3
theorem rw2 {p : Nat} : ((4 : Int32) * nI p) + (2 : Int32) = nI (4 * p + 2) := r4_k p 2
theorem rw1 {p : Nat} : ((4 : Int32) * nI p) + (1 : Int32) = nI (4 * p + 1) := r4_k p 1
theorem rw0 {p : Nat} : ((4 : Int32) * nI p) = nI (4 * p) := r4_0 p
theorem m_has {p : Nat} {Q : Int32 → S0 → Prop} (hR : RelM κ M) (h6 : cN κ ≤ 6) (hp : p < cN κ) (h : Q (nI (cH κ p)) M) : w6_has M (nI p) Q := by
  unfold w6_has
  rw [rw3, nI_clamp (by omega), (hR.2.2.2.2 p hp).2.2.2.2]
  exact ⟨vpl _ _ (by omega) (by omega), h⟩
theorem m_hasMany {p : Nat} {Q : Int32 → S0 → Prop} (hR : RelM κ M) (hI : IC κ) (hp : p < cN κ) (h : Q (nI (pc8 (cH κ p))) M) : w6_hasMany M (nI p) Q := by
  unfold w6_hasMany
  exact m_has hR hI.1 hp (m_bitsOf (hI.2.1 p) h)
def sayF (part : Nat) (v : Int32) : Int32 := if part = 0 then bnd v 0 99 else if part = 2 then bnd v (-9) 9 else v
theorem m_says {part p q : Nat} {Q : Int32 → S0 → Prop} (hR : RelM κ M) (hI : IC κ) (hT : TM tv nT M) (ht : cT κ < nT) (hpt : part < 3) (hp : p < cN κ) (hq : q < cN κ) (h : ∀ M' : S0, ScM M M' → Q (sayF part (tv (cT κ) part (vals κ p q))) M') : w6_says M (nI part) (nI p) (nI q) Q := by
  have i1 := hI.1
  unfold w6_says
  rw [rw1, rw0, rw1, nI_clamp (n := 4 * p + 1) (by omega), nI_clamp (n := 4 * p) (by omega), nI_clamp (n := 4 * q + 1) (by omega)]
  have s1 : ∀ {Y : S0} {j : Nat} {x : Int32}, 11 < j → j < 27 → ScM M Y → ScM M (up Y 0 j x) := fun {Y j x} h1 h2 f => f.tr (fun k j' a => by
    by_cases e : k = 0
    · subst e; exact up_j (by omega)
    · exact up_k e)
  refine ⟨vpl _ _ (by omega) (by omega), ?_⟩
  intro Y1 e1
  have f1 : ScM M Y1 := by rw [e1]; exact s1 (by decide) (by decide) ScM.rf
  refine m_hasMany (hR.fr f1) hI hp ?_
  intro Y2 e2
  have f2 : ScM M Y2 := by rw [e2]; exact s1 (by decide) (by decide) f1
  refine ⟨vpl _ _ (by omega) (by omega), ?_⟩
  intro Y3 e3
  have f3 : ScM M Y3 := by rw [e3]; exact s1 (by decide) (by decide) f2
  refine ⟨vpl _ _ (by omega) (by omega), ?_⟩
  intro Y4 e4
  have f4 : ScM M Y4 := by rw [e4]; exact s1 (by decide) (by decide) f3
  intro Y5 e5
  have f5 : ScM M Y5 := by rw [e5]; exact s1 (by decide) (by decide) f4
  rw [(hR.fr f5).2.1]
  refine m_bitsOf hI.2.2.1 (m_hasMany (hR.fr f5) hI hq ?_)
  intro Y6 e6
  have f6 : ScM M Y6 := by rw [e6]; exact s1 (by decide) (by decide) f5
  rw [(hR.fr f6).2.2.2.1]
  have vs : ∀ i, i < 6 → Y6 0 (12 + i) = vals κ p q i := by
    obtain ⟨r1, r2, r3, r4, r5⟩ := hR
    obtain ⟨p1, p2, p3, p4, p5⟩ := r5 p hp
    obtain ⟨q1, q2, q3, q4, q5⟩ := r5 q hq
    intro i hi
    have g2 : Y2 5 (4 * p) = M 5 (4 * p) := f2 5 _ (by omega)
    have g3 : Y3 5 (4 * q + 1) = M 5 (4 * q + 1) := f3 5 _ (by omega)
    have g4 : Y4 0 7 = M 0 7 := f4 0 7 (by omega)
    match i, hi with
    | 0, _ =>
      show Y6 0 12 = cS κ p
      rw [e6, up_j (by decide), e5, up_j (by decide), e4, up_j (by decide), e3, up_j (by decide), e2, up_j (by decide), e1, up_s, p3]
    | 1, _ =>
      show Y6 0 13 = _
      rw [e6, up_j (by decide), e5, up_j (by decide), e4, up_j (by decide), e3, up_j (by decide), e2, up_s]
      rfl
    | 2, _ =>
      show Y6 0 14 = cU κ p
      rw [e6, up_j (by decide), e5, up_j (by decide), e4, up_j (by decide), e3, up_s, g2, p2]
    | 3, _ =>
      show Y6 0 15 = cS κ q
      rw [e6, up_j (by decide), e5, up_j (by decide), e4, up_s, g3, q3]
    | 4, _ =>
      show Y6 0 16 = cR κ
      rw [e6, up_j (by decide), e5, up_s, g4, r3]
    | 5, _ =>
      show Y6 0 17 = nI (pc8 (cH κ q) + pc8 (cL κ))
      rw [e6, up_s, nI_add, Nat.add_comm]
  refine hT (cT κ) ht part hpt Y6 (vals κ p q) _ (fun j _ => f6 1 _ (by omega)) (f6 2 _ (by omega)) vs (fun Y7 f7 => ?_)
  have h := h Y7 (f6.tr f7)
  unfold sayF at h
  have en : ∀ k, k < 3 → (nI part = nI k ↔ part = k) := fun k hk => nI_eq (by omega) (by omega)
  have en0 : nI part = 0 ↔ part = 0 := en 0 (by decide)
  have en2 : nI part = 2 ↔ part = 2 := en 2 (by decide)
  rw [en0, en2]
  refine ⟨fun c => ⟨fun c2 => ?_, fun c2 => m_within ?_⟩, fun c => m_within ?_⟩
  · rw [if_neg c, if_neg c2] at h; exact h
  · rw [if_neg c, if_pos c2] at h; exact h
  · rw [if_pos c] at h; exact h
end MC
