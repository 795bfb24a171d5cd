/-! tells -/
/-- one field of the club told otherwise (the sort is the check's: 0 ROUND, 2 NUMBER, 3 STRONG, 4 KIND, 5 THE RULE) -/
def mdS (κ : CS) (s i : Nat) (v : Int32) : CS :=
  (cN κ, (if s = 4 then (fun j => if j = i then v else cK κ j) else cK κ), (if s = 2 then (fun j => if j = i then v else cU κ j) else cU κ), (if s = 3 then (fun j => if j = i then v else cS κ j) else cS κ), cW κ, cH κ, cL κ, (if s = 0 then v else cR κ), (if s = 5 then v.toNatClampNeg else cT κ))
theorem ic_md {κ : CS} {s i : Nat} {v : Int32} (h : IC κ) : IC (mdS κ s i v) := h
theorem md_md {κ : CS} {s i : Nat} {v w : Int32} : mdS (mdS κ s i w) s i v = mdS κ s i v := by
  unfold mdS
  have e : ∀ (f : Nat → Int32), (fun j => if j = i then v else (if j = i then w else f j)) = (fun j => if j = i then v else f j) := fun f => funext fun j => by
    by_cases c : j = i
    · rw [if_pos c, if_pos c]
    · rw [if_neg c, if_neg c, if_neg c]
  by_cases c4 : s = 4
  · subst c4; simp [e]
  · by_cases c2 : s = 2
    · subst c2; simp [e]
    · by_cases c3 : s = 3
      · subst c3; simp [e]
      · by_cases c0 : s = 0
        · subst c0; simp
        · by_cases c5 : s = 5
          · subst c5; simp
          · simp [c4, c2, c3, c0, c5]
def wasS (κ : CS) (s i : Nat) : Int32 := if s = 4 then cK κ i else if s = 2 then cU κ i else if s = 3 then cS κ i else if s = 0 then cR κ else nI (cT κ)
theorem md_was {κ : CS} {s i : Nat} (hs : s = 0 ∨ s = 2 ∨ s = 3 ∨ s = 4 ∨ s = 5) (ht : cT κ < 2 ^ 31) : mdS κ s i (wasS κ s i) = κ := by
  have e : ∀ (f : Nat → Int32), (fun j => if j = i then f i else f j) = f := fun f => funext fun j => by
    by_cases c : j = i
    · rw [if_pos c, c]
    · rw [if_neg c]
  rcases hs with rfl | rfl | rfl | rfl | rfl <;> simp [mdS, wasS, e, nI_clamp ht]
def foF (tv : TV) (κ : CS) (it : Nat → Int32) (i : Nat) : Nat → Nat → Int32
  | 0, _ => -1
  | f + 1, q => if (if q = i then 0 else powS tv κ i q) = it q then foF tv κ it i f (q + 1) else nI q
abbrev fitP (tv : TV) (κ : CS) (it : Nat → Int32) (s i v : Nat) : Prop := foF tv (mdS κ s i (nI v)) it i (cN κ) 0 = -1
def cnF (P : Nat → Prop) [DecidablePred P] : Nat → Nat
  | 0 => 0
  | k + 1 => cnF P k + (if P k then 1 else 0)
def dlF (P : Nat → Prop) [DecidablePred P] : Nat → Int32 → Int32
  | 0, l => l
  | k + 1, l => dlF P k (if P k then nI k else l)
def bsF (P : Nat → Prop) [DecidablePred P] : Nat → Nat
  | 0 => 0
  | k + 1 => bsF P k ||| (if P k ∧ k < 10 then 2 ^ k else 0)
theorem dl_no {P : Nat → Prop} [DecidablePred P] : ∀ (k : Nat) (l : Int32), (∀ u, u < k → ¬ P u) → dlF P k l = l := by
  intro k
  induction k with
  | zero => intro l _; rfl
  | succ k ih => intro l h; rw [dlF, if_neg (h k (Nat.lt_succ_self k))]; exact ih l (fun u hu => h u (by omega))
theorem dl_ex {P : Nat → Prop} [DecidablePred P] (a : Nat) : ∀ (f : Nat) (l : Int32), ∃ l', dlF P (a + f) l = dlF P a l' := by
  intro f
  induction f with
  | zero => intro l; exact ⟨l, rfl⟩
  | succ f ih => intro l; exact ih (if P (a + f) then nI (a + f) else l)
theorem cn_le {P : Nat → Prop} [DecidablePred P] : ∀ k, cnF P k ≤ k := by
  intro k
  induction k with
  | zero => exact Nat.le_refl _
  | succ k ih => rw [cnF]; split <;> omega
section TLS
variable {tv : TV} {nT : Nat} {κ : CS} {g : GX} {X M : S0} {it : Nat → Int32}
theorem x_power0 {b p : Nat} {Q : Int32 → S0 → Prop} (hX : RelX b κ X) (h6 : cN κ ≤ 6) (h : Q 0 X) : w0_power g b X (nI p) (nI p) Q := by
  unfold w0_power
  refine x_areTwo hX.1 h6 ?_
  rw [b01]
  exact s_f (fun z => z.2.2 rfl) h
theorem x_fo_b {b s i : Nat} {Q : Int32 → S0 → Prop} (hb : 10 ≤ b) (hb6 : b + 5 < 66) (hs : 58 ≤ s) (hI : IC κ) (ht : cT κ < nT) (hi : i < cN κ) : ∀ (f q n : Nat) (X : S0), q + f = cN κ → f < n → RelX b κ X → TX tv nT g X → X s 2 = nI (cN κ) → (∀ j, j < cN κ → X (s + 1) j = it j) → (∀ X' : S0, FX X X' → Q (foF tv κ it i f q) X') → w5_firstOtherwise_b2 g b s Q n X (nI i) (nI q) := by
  have i1 := hI.1
  intro f
  induction f with
  | zero =>
    intro q n X e hn hX hT h2 hit h
    cases n with
    | zero => omega
    | succ n =>
      rw [w5_firstOtherwise_b2, hX.1]
      exact br_t (nI_le (by omega) (by omega)) (h X FX.rf)
  | succ f ih =>
    intro q n X e hn hX hT h2 hit h
    cases n with
    | zero => omega
    | succ n =>
      rw [w5_firstOtherwise_b2, hX.1]
      rw [foF] at h
      have go : ∀ X1 : S0, FX X X1 → w2_item g s X1 (nI q) (fun r5 M4 => (((if q = i then 0 else powS tv κ i q) = r5) → (∀ x6 : Int32, x6 = nI q + (1 : Int32) → (w5_firstOtherwise_b2 g b s Q n M4 (nI i) x6))) ∧ ((¬ (if q = i then 0 else powS tv κ i q) = r5) → (Q (nI q) M4))) := by
        intro X1 f1
        have g1 : X1 s = X s := f1 s (by omega) (by omega)
        have g2 : X1 (s + 1) = X (s + 1) := f1 _ (by omega) (by omega)
        refine x_item (n := cN κ) (by omega) (by rw [g1]; exact h2) (by omega) ?_
        rw [g2, hit q (by omega)]
        refine ⟨fun c => ?_, fun c => ?_⟩
        · rintro _ rfl
          rw [nI_1]
          rw [if_pos c] at h
          exact ih (q + 1) n X1 (by omega) (by omega) (hX.fr hb f1) (hT.t f1.t) (by rw [g1]; exact h2) (fun j hj => by rw [g2]; exact hit j hj) (fun X' f' => h X' (f1.tr f'))
        · rw [if_neg c] at h
          exact h X1 f1
      refine br_f (nI_ge (by omega) (by omega)) ?_
      by_cases c : q = i
      · subst c
        have z := go X FX.rf
        rw [if_pos rfl] at z
        exact x_power0 hX i1 z
      · refine x_power hb hb6 hX hI hT ht hi (by omega) (fun z => c z.symm) (fun X1 f1 => ?_)
        have z := go X1 f1
        rw [if_neg c] at z
        exact z
theorem x_fo {b s i : Nat} {Q : Int32 → S0 → Prop} (hb : 10 ≤ b) (hb6 : b + 5 < 66) (hs : 58 ≤ s) (hI : IC κ) (ht : cT κ < nT) (hi : i < cN κ) (hX : RelX b κ X) (hT : TX tv nT g X) (h2 : X s 2 = nI (cN κ)) (hit : ∀ j, j < cN κ → X (s + 1) j = it j) (h : ∀ X' : S0, FX X X' → Q (foF tv κ it i (cN κ) 0) X') : w5_firstOtherwise g b s X (nI i) Q := by
  unfold w5_firstOtherwise
  exact ⟨cN κ + 1, x_fo_b hb hb6 hs hI ht hi (cN κ) 0 _ X (Nat.zero_add _) (Nat.lt_succ_self _) hX hT h2 hit h⟩
theorem m_fo {s i : Nat} {Q : Int32 → S0 → Prop} (hs : s < 4) (hI : IC κ) (ht : cT κ < nT) (hi : i < cN κ) (hM : RelM κ M) (hT : TM tv nT M) (hit : ∀ j, j < cN κ → M 11 (40 * s + j) = it j) (h : ∀ M' : S0, ScM M M' → Q (foF tv κ it i (cN κ) 0) M') : w6_firstOther M (nI s) (nI i) Q := by
  have i1 := hI.1
  have lp : ∀ (f q n : Nat) (M : S0), q + f = cN κ → f < n → RelM κ M → TM tv nT M → (∀ j, j < cN κ → M 11 (40 * s + j) = it j) → (∀ M' : S0, ScM M M' → Q (foF tv κ it i f q) M') → w6_firstOther_b2 Q n M (nI s) (nI i) (nI q) := by
    intro f
    induction f with
    | zero =>
      intro q n M e hn hM hT hit h
      cases n with
      | zero => omega
      | succ n =>
        rw [w6_firstOther_b2, hM.1]
        exact br_t (nI_le (by omega) (by omega)) (h M ScM.rf)
    | succ f ih =>
      intro q n M e hn hM hT hit h
      cases n with
      | zero => omega
      | succ n =>
        rw [w6_firstOther_b2, hM.1, r40, nI_clamp (n := 40 * s + q) (by omega)]
        rw [foF] at h
        have eq : nI q = nI i ↔ q = i := nI_eq (by omega) (by omega)
        rw [eq]
        have nx : ∀ M1 : S0, ScM M M1 → ((if q = i then 0 else powS tv κ i q) = it q) → (∀ x : Int32, x = nI q + 1 → w6_firstOther_b2 Q n M1 (nI s) (nI i) x) := by
          intro M1 f1 c
          rintro _ rfl
          rw [nI_1]
          rw [if_pos c] at h
          exact ih (q + 1) n M1 (by omega) (by omega) (hM.fr f1) (hT.g f1.g) (fun j hj => by rw [f1 11 _ (by omega)]; exact hit j hj) (fun M' f' => h M' (f1.tr f'))
        refine br_f (nI_ge (by omega) (by omega)) ⟨fun c => m_powerOf hM hI hT ht hi (by omega) (fun M1 f1 => ⟨vpl _ _ (by omega) (by decide), ?_⟩), fun c => ⟨vpl _ _ (by omega) (by decide), ?_⟩⟩
        · rw [f1 11 _ (by omega), hit q (by omega)]
          refine ⟨fun c2 => nx M1 f1 (by rw [if_neg c]; exact c2), fun c2 => ?_⟩
          rw [if_neg (by rw [if_neg c]; exact c2)] at h
          exact h M1 f1
        · rw [hit q (by omega)]
          refine ⟨fun c2 => nx M ScM.rf (by rw [if_pos c]; exact c2), fun c2 => ?_⟩
          rw [if_neg (by rw [if_pos c]; exact c2)] at h
          exact h M ScM.rf
  unfold w6_firstOther
  exact ⟨cN κ + 1, lp (cN κ) 0 _ M (Nat.zero_add _) (Nat.lt_succ_self _) hM hT hit h⟩
theorem x_md0 {b i : Nat} {v : Int32} (hX : RelX b κ X) : RelX b (mdS κ 0 i v) (up X b 8 v) := by
  obtain ⟨r1, r2, r3, r4, r5, r6⟩ := hX
  refine ⟨by rw [up_j (by decide)]; exact r1, by rw [up_j (by decide)]; exact r2, up_s, by rw [up_j (by decide)]; exact r4, fun p hp => by rw [up_k (by omega)]; exact r5 p hp, fun p hp => ?_⟩
  rw [up_k (by omega), up_k (by omega), up_k (by omega), up_k (by omega)]
  exact r6 p hp
theorem x_md5 {b i t : Nat} (ht : t < 2 ^ 31) (hX : RelX b κ X) : RelX b (mdS κ 5 i (nI t)) (up X b 9 (nI t)) := by
  obtain ⟨r1, r2, r3, r4, r5, r6⟩ := hX
  refine ⟨by rw [up_j (by decide)]; exact r1, by rw [up_j (by decide)]; exact r2, by rw [up_j (by decide)]; exact r3, ?_, fun p hp => by rw [up_k (by omega)]; exact r5 p hp, fun p hp => ?_⟩
  · rw [up_s]
    show nI t = nI ((nI t).toNatClampNeg)
    rw [nI_clamp ht]
  · rw [up_k (by omega), up_k (by omega), up_k (by omega), up_k (by omega)]
    exact r6 p hp
theorem x_mdr {b i s : Nat} {v : Int32} (hX : RelX b κ X) (hi : i < cN κ) (hs : s = 2 ∨ s = 3 ∨ s = 4) : RelX b (mdS κ s i v) (up X (b + (if s = 4 then 1 else s)) i v) := by
  obtain ⟨r1, r2, r3, r4, r5, r6⟩ := hX
  rcases hs with rfl | rfl | rfl
  · refine ⟨by rw [up_k (by simp)]; exact r1, by rw [up_k (by simp)]; exact r2, by rw [up_k (by simp)]; exact r3, by rw [up_k (by simp)]; exact r4, fun p hp => by rw [up_k (by simp)]; exact r5 p hp, fun p hp => ?_⟩
    obtain ⟨p1, p2, p3, p4⟩ := r6 p hp
    refine ⟨by rw [up_k (by simp)]; exact p1, ?_, by rw [up_k (by simp)]; exact p3, by rw [up_k (by simp)]; exact p4⟩
    show _ = (if p = i then v else cU κ p)
    by_cases c : p = i
    · subst c; rw [if_pos rfl]; exact up_s
    · rw [if_neg c]; exact (up_j c).trans p2
  · refine ⟨by rw [up_k (by simp)]; exact r1, by rw [up_k (by simp)]; exact r2, by rw [up_k (by simp)]; exact r3, by rw [up_k (by simp)]; exact r4, fun p hp => by rw [up_k (by simp)]; exact r5 p hp, fun p hp => ?_⟩
    obtain ⟨p1, p2, p3, p4⟩ := r6 p hp
    refine ⟨by rw [up_k (by simp)]; exact p1, by rw [up_k (by simp)]; exact p2, ?_, by rw [up_k (by simp)]; exact p4⟩
    show _ = (if p = i then v else cS κ p)
    by_cases c : p = i
    · subst c; rw [if_pos rfl]; exact up_s
    · rw [if_neg c]; exact (up_j c).trans p3
  · refine ⟨by rw [up_k (by simp)]; exact r1, by rw [up_k (by simp)]; exact r2, by rw [up_k (by simp)]; exact r3, by rw [up_k (by simp)]; exact r4, fun p hp => by rw [up_k (by simp)]; exact r5 p hp, fun p hp => ?_⟩
    obtain ⟨p1, p2, p3, p4⟩ := r6 p hp
    refine ⟨?_, by rw [up_k (by simp)]; exact p2, by rw [up_k (by simp)]; exact p3, by rw [up_k (by simp)]; exact p4⟩
    show _ = (if p = i then v else cK κ p)
    by_cases c : p = i
    · subst c; exact Eq.trans up_s (if_pos rfl).symm
    · rw [if_neg c]; exact (up_j c).trans p1
theorem md_T {s i : Nat} {v : Int32} (h : s ≠ 5) : cT (mdS κ s i v) = cT κ := if_neg h
theorem x_fits {s i v sh : Nat} {Q : Int32 → S0 → Prop} (hs : s = 0 ∨ s = 3) (hsh : 58 ≤ sh) (hI : IC κ) (ht : cT κ < nT) (hi : i < cN κ) (hX : RelX 10 κ X) (hT : TX tv nT g X) (h2 : X sh 2 = nI (cN κ)) (hit : ∀ j, j < cN κ → X (sh + 1) j = it j) (h : ∀ X' : S0, FT X X' → Q (if fitP tv κ it s i v then 1 else 0) X') : w5_fits g sh X (nI i) (if s = 3 then 0 else 4) (nI v) Q := by
  have i1 := hI.1
  unfold w5_fits
  refine x_think hX i1 (fun X1 f1 R1 => ⟨fun e => (by cases e), fun k e => ?_⟩)
  obtain rfl : 22 = k := Option.some.inj e
  refine ⟨cl_22, x_isP1 R1.1 i1 (isP_nI hi (by omega)) (s_t (by decide) ?_)⟩
  rw [nI_clamp (n := i) (by omega)]
  have fin : ∀ X2 : S0, FT X1 X2 → RelX 22 (mdS κ s i (nI v)) X2 → w5_firstOtherwise g 22 sh X2 (nI i) (fun r9 M8 => ((¬ r9 = (-1 : Int32)) → (Q (0 : Int32) M8)) ∧ ((r9 = (-1 : Int32)) → (Q (1 : Int32) M8))) := by
    intro X2 f2 R2
    have g1 : X2 sh = X sh := by rw [f2 sh (by omega) (by omega) (by omega), f1 sh (by omega) (by omega) (by omega)]
    have g2 : X2 (sh + 1) = X (sh + 1) := by rw [f2 _ (by omega) (by omega) (by omega), f1 _ (by omega) (by omega) (by omega)]
    refine x_fo (κ := mdS κ s i (nI v)) (it := it) (by decide) (by decide) hsh (ic_md hI) (by rw [md_T (by omega)]; exact ht) hi R2 ((hT.t f1).t f2) (by rw [g1]; exact h2) (fun j hj => by rw [g2]; exact hit j hj) (fun X3 f3 => ?_)
    have h := h X3 ((f1.tr f2).tr f3.t)
    refine ⟨fun c => ?_, fun c => ?_⟩
    · rw [if_neg (show ¬ fitP tv κ it s i v from c)] at h; exact h
    · rw [if_pos (show fitP tv κ it s i v from c)] at h; exact h
  rcases hs with rfl | rfl
  · rw [if_neg (by decide)]
    refine s_t (by decide) ?_
    rintro _ rfl
    exact fin _ (fun k a b c => up_r (by omega)) (x_md0 R1)
  · rw [if_pos rfl]
    refine s_f rfl ⟨vpl _ _ (by omega) (by decide), ?_⟩
    rintro _ rfl
    exact fin _ (fun k a b c => up_r (by omega)) (x_mdr R1 hi (Or.inr (Or.inl rfl)))
theorem x_hmf {s i sh : Nat} {Q : Int32 → S0 → Prop} (hs : s = 0 ∨ s = 3) (hsh : 58 ≤ sh) (hI : IC κ) (ht : cT κ < nT) (hi : i < cN κ) (hX : RelX 10 κ X) (hT : TX tv nT g X) (h2 : X sh 2 = nI (cN κ)) (hit : ∀ j, j < cN κ → X (sh + 1) j = it j) (h : ∀ X' : S0, FT X X' → Q (nI (cnF (fitP tv κ it s i) 100)) X') : w5_howManyFit g sh X (nI i) (if s = 3 then 0 else 4) Q := by
  have i1 := hI.1
  have lp : ∀ (f v n : Nat) (X : S0), v + f = 100 → f < n → RelX 10 κ X → TX tv nT g X → X sh 2 = nI (cN κ) → (∀ j, j < cN κ → X (sh + 1) j = it j) → (∀ X' : S0, FT X X' → Q (nI (cnF (fitP tv κ it s i) 100)) X') → w5_howManyFit_b6 g sh Q n X (nI i) (if s = 3 then 0 else 4) (nI (cnF (fitP tv κ it s i) v)) (nI v) := by
    intro f
    induction f with
    | zero =>
      intro v n X e hn hX hT h2 hit h
      cases n with
      | zero => omega
      | succ n =>
        rw [w5_howManyFit_b6]
        have ev : v = 100 := by omega
        rw [ev]
        exact br_t (by decide) (h X FT.rf)
    | succ f ih =>
      intro v n X e hn hX hT h2 hit h
      cases n with
      | zero => omega
      | succ n =>
        rw [w5_howManyFit_b6]
        refine br_f (nI_ge (b := 100) (by omega) (by decide)) (x_fits hs hsh hI ht hi hX hT h2 hit (fun X1 f1 => ?_))
        rw [b01]
        have nx := ih (v + 1) n X1 (by omega) (by omega) (hX.t f1 (by decide) (by decide)) (hT.t f1) (by rw [f1 sh (by omega) (by omega) (by omega)]; exact h2) (fun j hj => by rw [f1 _ (by omega) (by omega) (by omega)]; exact hit j hj) (fun X' f' => h X' (f1.tr f'))
        rw [cnF] at nx
        refine ⟨fun c => ?_, fun c => ?_⟩
        · rintro _ rfl
          rw [nI_1]
          rw [if_neg c, Nat.add_zero] at nx
          exact nx
        · rintro _ rfl _ rfl
          rw [nI_1, nI_1]
          rw [if_pos (Classical.not_not.mp c)] at nx
          exact nx
  unfold w5_howManyFit
  exact ⟨101, lp 100 0 101 X rfl (by decide) hX hT h2 hit h⟩
theorem x_ltf {s i sh : Nat} {Q : Int32 → S0 → Prop} (hs : s = 0 ∨ s = 3) (hsh : 58 ≤ sh) (hI : IC κ) (ht : cT κ < nT) (hi : i < cN κ) (hX : RelX 10 κ X) (hT : TX tv nT g X) (h2 : X sh 2 = nI (cN κ)) (hit : ∀ j, j < cN κ → X (sh + 1) j = it j) (h : ∀ X' : S0, FT X X' → Q (dlF (fitP tv κ it s i) 100 (-1)) X') : w5_leastThatFits g sh X (nI i) (if s = 3 then 0 else 4) Q := by
  have i1 := hI.1
  have lp : ∀ (f v n : Nat) (X : S0), v + f = 100 → f < n → (∀ u, u < v → ¬ fitP tv κ it s i u) → RelX 10 κ X → TX tv nT g X → X sh 2 = nI (cN κ) → (∀ j, j < cN κ → X (sh + 1) j = it j) → (∀ X' : S0, FT X X' → Q (dlF (fitP tv κ it s i) 100 (-1)) X') → w5_leastThatFits_b3 g sh Q n X (nI i) (if s = 3 then 0 else 4) (nI v) := by
    intro f
    induction f with
    | zero =>
      intro v n X e hn hno hX hT h2 hit h
      cases n with
      | zero => omega
      | succ n =>
        rw [w5_leastThatFits_b3]
        have ev : v = 100 := by omega
        subst ev
        have h := h X FT.rf
        rw [dl_no 100 (-1) hno] at h
        exact br_t (by decide) h
    | succ f ih =>
      intro v n X e hn hno hX hT h2 hit h
      cases n with
      | zero => omega
      | succ n =>
        rw [w5_leastThatFits_b3]
        refine br_f (nI_ge (b := 100) (by omega) (by decide)) (x_fits hs hsh hI ht hi hX hT h2 hit (fun X1 f1 => ?_))
        rw [b01]
        refine ⟨fun c => ?_, fun c => ?_⟩
        · rintro _ rfl
          rw [nI_1]
          exact ih (v + 1) n X1 (by omega) (by omega) (fun u hu => by
            rcases Nat.lt_or_ge u v with z | z
            · exact hno u z
            · have : u = v := by omega
              subst this
              exact c) (hX.t f1 (by decide) (by decide)) (hT.t f1) (by rw [f1 sh (by omega) (by omega) (by omega)]; exact h2) (fun j hj => by rw [f1 _ (by omega) (by omega) (by omega)]; exact hit j hj) (fun X' f' => h X' (f1.tr f'))
        · have h := h X1 f1
          obtain ⟨l', e'⟩ := dl_ex (P := fitP tv κ it s i) (v + 1) f (-1)
          rw [show 100 = v + 1 + f by omega, e', dlF, if_pos (Classical.not_not.mp c), dl_no v _ hno] at h
          exact h
  unfold w5_leastThatFits
  exact ⟨101, lp 100 0 101 X rfl (by decide) (fun u hu => absurd hu (Nat.not_lt_zero u)) hX hT h2 hit h⟩
theorem x_btf {s i sh L wh : Nat} {Q : Int32 → S0 → Prop} (hs : (s = 4 ∧ L = 6 ∧ wh = 1) ∨ (s = 2 ∧ L = 10 ∧ wh = 2) ∨ (s = 5 ∧ L = nT ∧ wh = 7)) (hL : nT ≤ 6) (hnT : X 1 3 = nI nT) (hsh : 58 ≤ sh) (hI : IC κ) (ht : cT κ < nT) (hi : i < cN κ) (hX : RelX 10 κ X) (hT : TX tv nT g X) (h2 : X sh 2 = nI (cN κ)) (hit : ∀ j, j < cN κ → X (sh + 1) j = it j) (h : ∀ X' : S0, FT X X' → Q (nI (bsF (fitP tv κ it s i) L)) X') : w5_bitsThatFit g sh X (nI i) (nI wh) Q := by
  have i1 := hI.1
  have lp : ∀ (f v n : Nat) (X : S0) (κ1 : CS), v + f = L → f < n → RelX 22 κ1 X → (∀ w, mdS κ1 s i w = mdS κ s i w) → cN κ1 = cN κ → TX tv nT g X → X sh 2 = nI (cN κ) → (∀ j, j < cN κ → X (sh + 1) j = it j) → (∀ X' : S0, FT X X' → Q (nI (bsF (fitP tv κ it s i) L)) X') → w5_bitsThatFit_b52 g sh Q n X (nI i) (nI wh) (nI L) 22 (nI (bsF (fitP tv κ it s i) v)) (nI v) := by
    intro f
    induction f with
    | zero =>
      intro v n X κ1 e hn hX hk hn1 hT h2 hit h
      cases n with
      | zero => omega
      | succ n =>
        rw [w5_bitsThatFit_b52]
        have ev : v = L := by omega
        subst ev
        exact br_t (nI_le (by omega) (by omega)) (h X FT.rf)
    | succ f ih =>
      intro v n X κ1 e hn hX hk hn1 hT h2 hit h
      cases n with
      | zero => omega
      | succ n =>
        rw [w5_bitsThatFit_b52, nI_clamp (n := i) (by omega)]
        have w1 : nI wh = 1 ↔ wh = 1 := nI_eq (b := 1) (by omega) (by decide)
        have w2 : nI wh = 2 ↔ wh = 2 := nI_eq (b := 2) (by omega) (by decide)
        rw [w1, w2]
        have fin : ∀ X2 : S0, FT X X2 → RelX 22 (mdS κ s i (nI v)) X2 → w5_firstOtherwise g 22 sh X2 (nI i) (fun r25 M24 => ((¬ r25 = (-1 : Int32)) → (∀ x26 : Int32, x26 = nI v + (1 : Int32) → (w5_bitsThatFit_b52 g sh  Q n M24 (nI i) (nI wh) (nI L) 22 (nI (bsF (fitP tv κ it s i) v)) x26))) ∧ ((r25 = (-1 : Int32)) → (∀ x27 : Int32, x27 = (nI (bsF (fitP tv κ it s i) v) ||| ((1 : Int32) <<< (nI v &&& 31))) → (∀ x28 : Int32, x28 = nI v + (1 : Int32) → (w5_bitsThatFit_b52 g sh  Q n M24 (nI i) (nI wh) (nI L) 22 x27 x28))))) := by
          intro X2 f2 R2
          have g1 : X2 sh = X sh := f2 sh (by omega) (by omega) (by omega)
          have g2 : X2 (sh + 1) = X (sh + 1) := f2 _ (by omega) (by omega) (by omega)
          refine x_fo (κ := mdS κ s i (nI v)) (it := it) (by decide) (by decide) hsh (ic_md hI) ?_ hi R2 (hT.t f2) (by rw [g1]; exact h2) (fun j hj => by rw [g2]; exact hit j hj) (fun X3 f3 => ?_)
          · by_cases c5 : s = 5
            · subst c5
              show (nI v).toNatClampNeg < nT
              rw [nI_clamp (by omega)]; omega
            · rw [md_T c5]; exact ht
          · have ff := f2.tr f3.t
            have nx := ih (v + 1) n X3 (mdS κ s i (nI v)) (by omega) (by omega) (R2.fr (by decide) f3) (fun w => md_md) rfl (hT.t ff) (by rw [ff sh (by omega) (by omega) (by omega)]; exact h2) (fun j hj => by rw [ff _ (by omega) (by omega) (by omega)]; exact hit j hj) (fun X' f' => h X' (ff.tr f'))
            rw [bsF] at nx
            refine ⟨fun c => ?_, fun c => ?_⟩
            · rintro _ rfl
              rw [nI_1]
              rw [if_neg (fun z => c z.1), Nat.or_zero] at nx
              exact nx
            · rintro _ rfl _ rfl
              rw [nI_1]
              rw [if_pos ⟨c, by omega⟩] at nx
              have e2 : (1 : Int32) <<< (nI v &&& 31) = nI (2 ^ v) := (by decide +kernel : ∀ t, t < 10 → (1 : Int32) <<< (nI t &&& 31) = nI (2 ^ t)) v (by omega)
              rw [e2, nx_or]
              exact nx
        refine br_f (nI_ge (by omega) (by omega)) ?_
        rcases hs with ⟨rfl, z2, rfl⟩ | ⟨rfl, z2, rfl⟩ | ⟨rfl, z2, rfl⟩
        · refine s_f rfl ⟨vpl _ _ (by omega) (by decide), ?_⟩
          rintro _ rfl
          refine fin _ (fun k a b c => up_r (by omega)) ?_
          rw [← hk]
          exact x_mdr hX (by omega) (Or.inr (Or.inr rfl))
        · refine s_t (by decide) (s_f rfl ⟨vpl _ _ (by omega) (by decide), ?_⟩)
          rintro _ rfl
          refine fin _ (fun k a b c => up_r (by omega)) ?_
          rw [← hk]
          exact x_mdr hX (by omega) (Or.inl rfl)
        · refine s_t (by decide) (s_t (by decide) ?_)
          rintro _ rfl
          refine fin _ (fun k a b c => up_r (by omega)) ?_
          rw [← hk]
          exact x_md5 (by omega) hX
  have st : w5_think g X (fun r3 M2 => ((r3 = none) → (False)) ∧ (∀ k4 : Nat, r3 = some k4 → ((isClub k4) ∧ (w0_isPlayer g k4 M2 (nI i) (fun r7 M6 => ((¬ r7 = 0) → (∃ n8, w5_bitsThatFit_b52 g sh  Q n8 M6 (nI i) (nI wh) (nI L) k4 (0 : Int32) (0 : Int32))) ∧ ((r7 = 0) → (Q (0 : Int32) M6))))))) := by
    refine x_think hX i1 (fun X1 f1 R1 => ⟨fun e => (by cases e), fun k e => ?_⟩)
    obtain rfl : 22 = k := Option.some.inj e
    refine ⟨cl_22, x_isP1 R1.1 i1 (isP_nI hi (by omega)) (s_t (by decide) ⟨L + 1, ?_⟩)⟩
    exact lp L 0 _ X1 κ (Nat.zero_add _) (Nat.lt_succ_self _) R1 (fun _ => rfl) rfl (hT.t f1) (by rw [f1 sh (by omega) (by omega) (by omega)]; exact h2) (fun j hj => by rw [f1 _ (by omega) (by omega) (by omega)]; exact hit j hj) (fun X' f' => h X' (f1.tr f'))
  unfold w5_bitsThatFit
  rcases hs with ⟨rfl, rfl, rfl⟩ | ⟨rfl, rfl, rfl⟩ | ⟨rfl, rfl, rfl⟩
  · exact s_f rfl st
  · exact s_t (by decide) (s_f rfl st)
  · refine s_t (by decide) (s_t (by decide) ?_)
    rintro _ rfl
    rw [hnT]
    exact st
def lkF (tv : TV) (κ : CS) (it : Nat → Int32) : Nat → Nat → Nat → Nat
  | 0, _, x => x
  | f + 1, p, x => lkF tv κ it f (p + 1) (if foF tv κ it p (cN κ) 0 = -1 then x ||| 2 ^ p else x)
theorem x_ptf {sh : Nat} {Q : Int32 → S0 → Prop} (hsh : 58 ≤ sh) (hI : IC κ) (ht : cT κ < nT) (hX : RelX 10 κ X) (hT : TX tv nT g X) (h2 : X sh 2 = nI (cN κ)) (hit : ∀ j, j < cN κ → X (sh + 1) j = it j) (h : ∀ X' : S0, FX X X' → Q (nI (lkF tv κ it (cN κ) 0 0)) X') : w5_playersThatFit g sh X Q := by
  have i1 := hI.1
  have lp : ∀ (f p n x : Nat) (X : S0), p + f = cN κ → f < n → RelX 10 κ X → TX tv nT g X → X sh 2 = nI (cN κ) → (∀ j, j < cN κ → X (sh + 1) j = it j) → (∀ X' : S0, FX X X' → Q (nI (lkF tv κ it f p x)) X') → w5_playersThatFit_b4 g sh Q n X (nI x) (nI p) := by
    intro f
    induction f with
    | zero =>
      intro p n x X e hn hX hT h2 hit h
      cases n with
      | zero => omega
      | succ n =>
        rw [w5_playersThatFit_b4, hX.1]
        exact br_t (nI_le (by omega) (by omega)) (h X FX.rf)
    | succ f ih =>
      intro p n x X e hn hX hT h2 hit h
      cases n with
      | zero => omega
      | succ n =>
        rw [w5_playersThatFit_b4, hX.1]
        rw [lkF] at h
        refine br_f (nI_ge (by omega) (by omega)) (x_fo (it := it) (by decide) (by decide) hsh hI ht (by omega) hX hT h2 hit (fun X1 f1 => ⟨fun c => ?_, fun c => ?_⟩))
        · rintro _ rfl
          rw [nI_1]
          rw [if_neg c] at h
          exact ih (p + 1) n x X1 (by omega) (by omega) (hX.fr (by decide) f1) (hT.t f1.t) (by rw [f1 sh (by omega) (by omega)]; exact h2) (fun j hj => by rw [f1 _ (by omega) (by omega)]; exact hit j hj) (fun X' f' => h X' (f1.tr f'))
        · rintro _ rfl _ rfl
          rw [nI_1, tw_s p (by omega), nx_or]
          rw [if_pos c] at h
          exact ih (p + 1) n _ X1 (by omega) (by omega) (hX.fr (by decide) f1) (hT.t f1.t) (by rw [f1 sh (by omega) (by omega)]; exact h2) (fun j hj => by rw [f1 _ (by omega) (by omega)]; exact hit j hj) (fun X' f' => h X' (f1.tr f'))
  unfold w5_playersThatFit
  exact ⟨cN κ + 1, lp (cN κ) 0 _ 0 X (Nat.zero_add _) (Nat.lt_succ_self _) hX hT h2 hit h⟩
theorem m_like {s : Nat} {Q : Int32 → S0 → Prop} (hs : s < 4) (hI : IC κ) (ht : cT κ < nT) (hM : RelM κ M) (hT : TM tv nT M) (hit : ∀ j, j < cN κ → M 11 (40 * s + j) = it j) (h : ∀ M' : S0, ScM M M' → Q (nI (lkF tv κ it (cN κ) 0 0)) M') : w6_likeSet M (nI s) Q := by
  have i1 := hI.1
  have lp : ∀ (f p n x : Nat) (M : S0), p + f = cN κ → f < n → RelM κ M → TM tv nT M → (∀ j, j < cN κ → M 11 (40 * s + j) = it j) → (∀ M' : S0, ScM M M' → Q (nI (lkF tv κ it f p x)) M') → w6_likeSet_b4 Q n M (nI s) (nI x) (nI p) := by
    intro f
    induction f with
    | zero =>
      intro p n x M e hn hM hT hit h
      cases n with
      | zero => omega
      | succ n =>
        rw [w6_likeSet_b4, hM.1]
        exact br_t (nI_le (by omega) (by omega)) (h M ScM.rf)
    | succ f ih =>
      intro p n x M e hn hM hT hit h
      cases n with
      | zero => omega
      | succ n =>
        rw [w6_likeSet_b4, hM.1, tw_s p (by omega), tw_z p (by omega)]
        rw [lkF] at h
        refine br_f (nI_ge (by omega) (by omega)) (m_fo (it := it) hs hI ht (by omega) hM hT hit (fun M1 f1 => ⟨fun c => ?_, fun c => ?_⟩))
        · rintro _ rfl _ rfl
          have e0 : nI x ||| 0 = nI x := (nx_or x 0).trans (by rw [Nat.or_zero])
          rw [nI_1, e0]
          rw [if_neg c] at h
          exact ih (p + 1) n x M1 (by omega) (by omega) (hM.fr f1) (hT.g f1.g) (fun j hj => by rw [f1 11 _ (by omega)]; exact hit j hj) (fun M' f' => h M' (f1.tr f'))
        · rintro _ rfl _ rfl
          rw [nI_1, nx_or]
          rw [if_pos c] at h
          exact ih (p + 1) n _ M1 (by omega) (by omega) (hM.fr f1) (hT.g f1.g) (fun j hj => by rw [f1 11 _ (by omega)]; exact hit j hj) (fun M' f' => h M' (f1.tr f'))
  unfold w6_likeSet
  exact ⟨cN κ + 1, lp (cN κ) 0 _ 0 M (Nat.zero_add _) (Nat.lt_succ_self _) hM hT hit h⟩
theorem m_lays {s i : Nat} {v : Int32} {Q : S0 → Prop} (hs : s = 0 ∨ s = 2 ∨ s = 3 ∨ s = 4 ∨ s = 5) (h5 : s = 5 → v = nI v.toNatClampNeg) (hM : RelM κ M) (i1 : cN κ ≤ 6) (hi : i < cN κ) (h : ∀ M' : S0, GR M M' → RelM (mdS κ s i v) M' → Q M') : w6_lays M (nI s) (nI i) v Q := by
  obtain ⟨r1, r2, r3, r4, r5⟩ := hM
  unfold w6_lays
  rcases hs with rfl | rfl | rfl | rfl | rfl
  · refine s_f rfl ?_
    rintro _ rfl
    refine h _ (mu_g (Or.inr (Or.inr (Or.inr ⟨rfl, by decide, by decide, by decide, by decide⟩)))) ⟨by rw [up_j (by decide)]; exact r1, by rw [up_j (by decide)]; exact r2, up_s, by rw [up_j (by decide)]; exact r4, fun p hp => ?_⟩
    rw [up_k (by decide), up_k (by decide), up_k (by decide), up_k (by decide), up_k (by decide)]
    exact r5 p hp
  · rw [rwk i 2 (by decide), nI_clamp (n := 4 * i + (2 - 2)) (by omega)]
    refine s_t (by decide) (s_t (by decide) (br_f (by decide) ⟨vpl _ _ (by omega) (by decide), ?_⟩))
    rintro _ rfl
    refine h _ (mu_g (Or.inr (Or.inl rfl))) ⟨by rw [up_k (by decide)]; exact r1, by rw [up_k (by decide)]; exact r2, by rw [up_k (by decide)]; exact r3, by rw [up_k (by decide)]; exact r4, fun p hp => ?_⟩
    obtain ⟨p1, p2, p3, p4, p5⟩ := r5 p hp
    refine ⟨by rw [up_k (by decide)]; exact p1, ?_, by rw [up_j (by omega)]; exact p3, by rw [up_j (by omega)]; exact p4, by rw [up_j (by omega)]; exact p5⟩
    show _ = (if p = i then v else cU κ p)
    by_cases c : p = i
    · subst c; rw [if_pos rfl]; exact up_s
    · rw [if_neg c]; exact (up_j (by omega)).trans p2
  · rw [rwk i 3 (by decide), nI_clamp (n := 4 * i + (3 - 2)) (by omega)]
    refine s_t (by decide) (s_t (by decide) (br_f (by decide) ⟨vpl _ _ (by omega) (by decide), ?_⟩))
    rintro _ rfl
    refine h _ (mu_g (Or.inr (Or.inl rfl))) ⟨by rw [up_k (by decide)]; exact r1, by rw [up_k (by decide)]; exact r2, by rw [up_k (by decide)]; exact r3, by rw [up_k (by decide)]; exact r4, fun p hp => ?_⟩
    obtain ⟨p1, p2, p3, p4, p5⟩ := r5 p hp
    refine ⟨by rw [up_k (by decide)]; exact p1, by rw [up_j (by omega)]; exact p2, ?_, by rw [up_j (by omega)]; exact p4, by rw [up_j (by omega)]; exact p5⟩
    show _ = (if p = i then v else cS κ p)
    by_cases c : p = i
    · subst c; rw [if_pos rfl]; exact up_s
    · rw [if_neg c]; exact (up_j (by omega)).trans p3
  · refine s_t (by decide) (s_t (by decide) (br_t (by decide) (s_f rfl ⟨vpl _ _ (by omega) (by decide), ?_⟩)))
    rintro _ rfl
    rw [nI_clamp (n := i) (by omega)]
    refine h _ (mu_g (Or.inl rfl)) ⟨by rw [up_k (by decide)]; exact r1, by rw [up_k (by decide)]; exact r2, by rw [up_k (by decide)]; exact r3, by rw [up_k (by decide)]; exact r4, fun p hp => ?_⟩
    obtain ⟨p1, p2, p3, p4, p5⟩ := r5 p hp
    refine ⟨?_, by rw [up_k (by decide)]; exact p2, by rw [up_k (by decide)]; exact p3, by rw [up_k (by decide)]; exact p4, by rw [up_k (by decide)]; exact p5⟩
    show _ = (if p = i then v else cK κ p)
    by_cases c : p = i
    · subst c; rw [if_pos rfl]; exact up_s
    · rw [if_neg c]; exact (up_j (by omega)).trans p1
  · refine s_t (by decide) (s_t (by decide) (br_t (by decide) (s_t (by decide) ?_)))
    rintro _ rfl
    refine h _ (mu_g (Or.inr (Or.inr (Or.inr ⟨rfl, by decide, by decide, by decide, by decide⟩)))) ⟨by rw [up_j (by decide)]; exact r1, by rw [up_j (by decide)]; exact r2, by rw [up_j (by decide)]; exact r3, ?_, fun p hp => ?_⟩
    · rw [up_s]; exact h5 rfl
    · rw [up_k (by decide), up_k (by decide), up_k (by decide), up_k (by decide), up_k (by decide)]
      exact r5 p hp
/-- all values, the greatest ahead -/
theorem m_tells_b {s i sh wh L : Nat} {Q : Int32 → S0 → Prop} (hs : s = 0 ∨ s = 2 ∨ s = 3 ∨ s = 4 ∨ s = 5) (h5 : s = 5 → L ≤ nT) (hL : L ≤ 100) (hwh : wh ≤ 8) (hsh : sh < 4) (hI : IC κ) (ht : cT κ < nT) (hnT : nT ≤ 6) (hi : i < cN κ) : ∀ (k n x c : Nat) (l : Int32) (M : S0) (κ1 : CS), k ≤ L → k < n → RelM κ1 M → (∀ w, mdS κ1 s i w = mdS κ s i w) → cN κ1 = cN κ → TM tv nT M → (∀ j, j < cN κ → M 11 (40 * sh + j) = it j) → (∀ M' : S0, GR M M' → RelM κ M' → Q (if wh = 3 ∨ wh = 5 then nI (c + cnF (fitP tv κ it s i) k) else if wh = 4 ∨ wh = 6 then dlF (fitP tv κ it s i) k l else nI (x ||| bsF (fitP tv κ it s i) k)) M') → w6_tells_b202 Q n M (nI sh) (nI i) (nI wh) (nI s) (wasS κ s i) (nI x) (nI c) l (nI k - 1) := by
  have i1 := hI.1
  intro k
  induction k with
  | zero =>
    intro n x c l M κ1 hk hn hM hm hn1 hT hit h
    cases n with
    | zero => omega
    | succ n =>
      rw [w6_tells_b202]
      refine br_t (by decide) (m_lays hs (fun z => ?_) hM (by omega) (by omega) (fun M1 f1 R1 => ?_))
      · subst z
        show nI (cT κ) = nI ((nI (cT κ)).toNatClampNeg)
        rw [nI_clamp (by omega)]
      · rw [hm, md_was hs (by omega)] at R1
        have h := h M1 f1 R1
        rw [cnF, dlF, bsF, Nat.or_zero, Nat.add_zero] at h
        have w3 : nI wh = 3 ↔ wh = 3 := nI_eq (b := 3) (by omega) (by decide)
        have w4 : nI wh = 4 ↔ wh = 4 := nI_eq (b := 4) (by omega) (by decide)
        have w5 : nI wh = 5 ↔ wh = 5 := nI_eq (b := 5) (by omega) (by decide)
        have w6 : nI wh = 6 ↔ wh = 6 := nI_eq (b := 6) (by omega) (by decide)
        rw [w3, w4, w5, w6]
        refine ⟨fun c3 => ?_, fun c3 => ⟨fun c5 => ⟨fun c4 => ?_, fun c4 => ⟨fun c6 => ?_, fun c6 => ?_⟩⟩, fun c5 => ?_⟩⟩
        · rw [if_pos (Or.inl c3)] at h; exact h
        · rw [if_neg (by omega), if_pos (Or.inl c4)] at h; exact h
        · rw [if_neg (by omega), if_neg (by omega)] at h; exact h
        · rw [if_neg (by omega), if_pos (Or.inr c6)] at h; exact h
        · rw [if_pos (Or.inr c5)] at h; exact h
  | succ k ih =>
    intro n x c l M κ1 hk hn hM hm hn1 hT hit h
    cases n with
    | zero => omega
    | succ n =>
      rw [w6_tells_b202, nI_pred]
      refine br_f (nI_pos (by omega)) (m_lays hs (fun z => by rw [nI_clamp (by omega)]) hM (by omega) (by omega) (fun M1 f1 R1 => ?_))
      rw [hm] at R1
      refine m_fo (κ := mdS κ s i (nI k)) (it := it) hsh (ic_md hI) ?_ hi R1 (hT.r f1) (fun j hj => by rw [f1 11 _ (by omega) (by omega) (by omega) (by omega)]; exact hit j hj) (fun M2 f2 => ?_)
      · by_cases c5 : s = 5
        · subst c5
          show (nI k).toNatClampNeg < nT
          rw [nI_clamp (by omega)]
          have := h5 rfl
          omega
        · rw [md_T c5]; exact ht
      have e1 : nI k + (-1 : Int32) = nI k - 1 := (Int32.sub_eq_add_neg _ _).symm
      have ff : GR M M2 := f1.tr (f2.g.q (d := 0)).r
      have nx : ∀ (x' c' : Nat) (l' : Int32), (∀ M' : S0, GR M M' → RelM κ M' → Q (if wh = 3 ∨ wh = 5 then nI (c' + cnF (fitP tv κ it s i) k) else if wh = 4 ∨ wh = 6 then dlF (fitP tv κ it s i) k l' else nI (x' ||| bsF (fitP tv κ it s i) k)) M') → w6_tells_b202 Q n M2 (nI sh) (nI i) (nI wh) (nI s) (wasS κ s i) (nI x') (nI c') l' (nI k - 1) := fun x' c' l' hh => ih n x' c' l' M2 (mdS κ s i (nI k)) (by omega) (by omega) (R1.fr f2) (fun w => md_md) rfl (hT.r ff) (fun j hj => by rw [ff 11 _ (by omega) (by omega) (by omega) (by omega)]; exact hit j hj) (fun M' f' R' => hh M' (ff.tr f') R')
      rw [cnF, dlF, bsF] at h
      refine ⟨fun cc => ?_, fun cc => ?_⟩
      · rintro _ rfl
        rw [e1]
        rw [if_neg (show ¬ fitP tv κ it s i k from cc), if_neg (show ¬ fitP tv κ it s i k from cc), if_neg (show ¬ (fitP tv κ it s i k ∧ k < 10) from fun z => cc z.1), Nat.or_zero, Nat.add_zero] at h
        exact nx x c l h
      · rw [if_pos (show fitP tv κ it s i k from cc), if_pos (show fitP tv κ it s i k from cc)] at h
        have e10 : (10 : Int32) ≤ nI k ↔ 10 ≤ k := nI_leI (a := 10) (by decide) (by omega)
        rw [e10]
        refine ⟨fun c10 => ?_, fun c10 => ?_⟩
        · rintro _ rfl _ rfl _ rfl
          have e0 : nI x ||| 0 = nI x := (nx_or x 0).trans (by rw [Nat.or_zero])
          rw [e1, e0, nI_1]
          rw [if_neg (show ¬ (fitP tv κ it s i k ∧ k < 10) from fun z => by omega), Nat.or_zero] at h
          exact nx x (c + 1) (nI k) (by rw [show c + 1 + cnF (fitP tv κ it s i) k = c + (cnF (fitP tv κ it s i) k + 1) by omega]; exact h)
        · rintro _ rfl _ rfl _ rfl
          have e2 : (1 : Int32) <<< (nI k &&& 31) = nI (2 ^ k) := (by decide +kernel : ∀ t, t < 10 → (1 : Int32) <<< (nI t &&& 31) = nI (2 ^ t)) k (by omega)
          rw [e1, e2, nx_or, nI_1]
          rw [if_pos (show fitP tv κ it s i k ∧ k < 10 from ⟨cc, by omega⟩)] at h
          exact nx (x ||| 2 ^ k) (c + 1) (nI k) (by rw [show c + 1 + cnF (fitP tv κ it s i) k = c + (cnF (fitP tv κ it s i) k + 1) by omega, Nat.or_assoc, Nat.or_comm (2 ^ k)]; exact h)
/-- what TELLS tells, by what it is asked -/
def tlS (tv : TV) (nT : Nat) (κ : CS) (it : Nat → Int32) (i wh : Nat) : Int32 :=
  if wh = 0 then foF tv κ it i (cN κ) 0 else if wh = 8 then nI (lkF tv κ it (cN κ) 0 0)
  else if wh = 1 then nI (bsF (fitP tv κ it 4 i) 6) else if wh = 2 then nI (bsF (fitP tv κ it 2 i) 10)
  else if wh = 3 then nI (cnF (fitP tv κ it 3 i) 100) else if wh = 4 then dlF (fitP tv κ it 3 i) 100 (-1)
  else if wh = 5 then nI (cnF (fitP tv κ it 0 i) 100) else if wh = 6 then dlF (fitP tv κ it 0 i) 100 (-1)
  else nI (bsF (fitP tv κ it 5 i) nT)
theorem m_t125 {s i sh wh L : Nat} {Q : Int32 → S0 → Prop} (hs : (s = 0 ∧ L = 100) ∨ (s = 2 ∧ L = 10) ∨ (s = 3 ∧ L = 100) ∨ (s = 4 ∧ L = 6) ∨ (s = 5 ∧ L = nT)) (hwh : wh ≤ 8) (hsh : sh < 4) (hI : IC κ) (ht : cT κ < nT) (hnT : nT ≤ 6) (h3 : M 0 3 = nI nT) (hi : i < cN κ) (hM : RelM κ M) (hT : TM tv nT M) (hit : ∀ j, j < cN κ → M 11 (40 * sh + j) = it j) (h : ∀ M' : S0, GR M M' → RelM κ M' → Q (if wh = 3 ∨ wh = 5 then nI (cnF (fitP tv κ it s i) L) else if wh = 4 ∨ wh = 6 then dlF (fitP tv κ it s i) L (-1) else nI (bsF (fitP tv κ it s i) L)) M') : w6_tells_b125 Q M (nI sh) (nI i) (nI wh) (nI s) := by
  have i1 := hI.1
  have go : ∀ l : Int32, l = nI L - 1 → ∃ n, w6_tells_b202 Q n M (nI sh) (nI i) (nI wh) (nI s) (wasS κ s i) 0 0 (-1) l := by
    intro l el
    subst el
    refine ⟨L + 1, m_tells_b (κ := κ) (it := it) (by omega) (by omega) (by omega) hwh hsh hI ht hnT hi L _ 0 0 (-1) M κ (Nat.le_refl _) (Nat.lt_succ_self _) hM (fun _ => rfl) rfl hT hit (fun M' f' R' => ?_)⟩
    rw [Nat.zero_add, Nat.zero_or]
    exact h M' f' R'
  unfold w6_tells_b125
  rcases hs with ⟨rfl, rfl⟩ | ⟨rfl, rfl⟩ | ⟨rfl, rfl⟩ | ⟨rfl, rfl⟩ | ⟨rfl, rfl⟩
  · exact s_t (by decide) (m_told hM hI (by decide) (fun _ => s_t (by decide) (s_t (by decide) (s_t (by decide) (go 99 (by decide))))) (fun z => absurd z (by decide)) (fun z => absurd z (by decide)))
  · exact s_t (by decide) (m_told hM hI (by decide) (fun z => absurd z (by decide)) (fun z => absurd z (by decide)) (fun _ => ⟨fun i' hi' ei => by
      have := (nI_eq (by omega) (by omega)).mp ei
      subst this
      exact s_t (by decide) (s_t (by decide) (s_f rfl (go 9 (by decide)))), fun z => absurd (isP_nI hi (by omega)) z⟩))
  · exact s_t (by decide) (m_told hM hI (by decide) (fun z => absurd z (by decide)) (fun z => absurd z (by decide)) (fun _ => ⟨fun i' hi' ei => by
      have := (nI_eq (by omega) (by omega)).mp ei
      subst this
      exact s_t (by decide) (s_t (by decide) (s_t (by decide) (go 99 (by decide)))), fun z => absurd (isP_nI hi (by omega)) z⟩))
  · exact s_t (by decide) (m_told hM hI (by decide) (fun z => absurd z (by decide)) (fun z => absurd z (by decide)) (fun _ => ⟨fun i' hi' ei => by
      have := (nI_eq (by omega) (by omega)).mp ei
      subst this
      exact s_t (by decide) (s_f rfl (go 5 (by decide))), fun z => absurd (isP_nI hi (by omega)) z⟩))
  · refine s_f rfl ?_
    rintro _ rfl
    refine s_f rfl ?_
    rintro _ rfl
    rw [hM.2.2.2.1, h3]
    exact go _ rfl
theorem op_tells (h : Rel tv nT κ g X M) (p1 p2 p3 : Int32) : w5_tells g X p1 p2 p3 (fun r X' => w6_tells M p1 p2 p3 (fun r' M' => Owes tv nT g r X' r' M')) := by
  have H := h
  obtain ⟨hX, hM, hI, hr, ht, hO⟩ := h
  have i1 := hI.1
  unfold w5_tells
  have no : ∀ X1 : S0, X1 = X → (¬ (¬ p1 < 0 ∧ ¬ (3 : Int32) < p1) ∨ ¬ isP (cN κ) p2 ∨ ¬ (¬ p3 < 0 ∧ ¬ (8 : Int32) < p3)) → w6_tells M p1 p2 p3 (fun r' M' => Owes tv nT g (-2) X1 r' M') := by
    intro X1 eX hor
    subst eX
    unfold w6_tells
    refine m_isSheet ?_
    rw [b01]
    refine ⟨fun _ => ⟨rfl, _, H⟩, fun c1 => m_isOne hM.1 i1 ?_⟩
    rw [b01]
    refine ⟨fun _ => ⟨rfl, _, H⟩, fun c2 => m_in32 (b := 0) (c := 8) ?_⟩
    rw [b01]
    refine ⟨fun c3 => ?_, fun _ => ⟨rfl, _, H⟩⟩
    rcases hor with z | z | z
    · exact absurd z c1
    · exact absurd z c2
    · exact absurd z c3
  refine x_sheetAt (fun c => ⟨fun _ => no X rfl (Or.inl c), fun k e => (by cases e)⟩) (fun sh hsh esh => ⟨fun e => (by cases e), fun k e => x_isPlayer hX.1 i1 ?_⟩)
  obtain rfl : 58 + 2 * sh = k := Option.some.inj e
  subst esh
  rw [b01]
  refine ⟨fun c => no X rfl (Or.inr (Or.inl c)), fun c => x_within ?_⟩
  rw [b01]
  refine ⟨fun c2 => ⟨isSh hsh, x_isMissing ?_⟩, fun c2 => no X rfl (Or.inr (Or.inr c2))⟩
  rw [b01]
  have c := Classical.not_not.mp c
  have c2 := Classical.not_not.mp c2
  obtain ⟨i, hi, rfl⟩ := isP_of c (by omega)
  obtain ⟨wh, hwh, rfl⟩ := rng (k := 8) (by decide) c2
  have vs := vpl sh 4 hsh (by decide)
  rcases sh_of H hsh with ⟨s1, s2⟩ | ⟨so, N, hso, hN, s1, s2, s3, s4, s5, s6⟩
  · refine br_f (fun z => z s1) ?_
    unfold w6_tells
    refine m_isSheet ?_
    rw [b01]
    refine br_f (fun z => z (isS_nI hsh)) (m_isOne hM.1 i1 ?_)
    rw [b01]
    refine br_f (fun z => z c) (m_in32 (b := 0) (c := 8) ?_)
    rw [b01, nI_clamp (n := sh) (by omega)]
    exact s_t (fun z => z c2) ⟨vs, s_f s2 ⟨rfl, _, H⟩⟩
  · refine br_t (fun z => nI_nm1 (p := so) (by omega) (s1.symm.trans z)) ?_
    have eN : nI N = nI (cN κ) ↔ N = cN κ := nI_eq (by omega) (by omega)
    rw [s2, hX.1, eN]
    by_cases cN0 : N = cN κ
    · subst cN0
      refine br_t rfl ?_
      have tT : ∀ Q : Int32 → S0 → Prop, (∀ M' : S0, GR M M' → RelM κ M' → Q (tlS tv nT κ (fun j => M 11 (40 * sh + j)) i wh) M') → w6_tells M (nI sh) (nI i) (nI wh) Q := by
        intro Q q
        unfold w6_tells
        refine m_isSheet ?_
        rw [b01]
        refine br_f (fun z => z (isS_nI hsh)) (m_isOne hM.1 i1 ?_)
        rw [b01]
        refine br_f (fun z => z c) (m_in32 (b := 0) (c := 8) ?_)
        rw [b01, nI_clamp (n := sh) (by omega), s3, s5, hM.1]
        refine s_t (fun z => z c2) ⟨vs, s_t (by decide) ⟨vs, br_t rfl ?_⟩⟩
        have d0 : nI wh = 0 ↔ wh = 0 := nIz (by omega)
        have d1 : nI wh = 1 ↔ wh = 1 := nI_eq (b := 1) (by omega) (by decide)
        have d2 : nI wh = 2 ↔ wh = 2 := nI_eq (b := 2) (by omega) (by decide)
        have d8 : nI wh = 8 ↔ wh = 8 := nI_eq (b := 8) (by omega) (by decide)
        have d5 : (5 : Int32) ≤ nI wh ↔ 5 ≤ wh := nI_leI (a := 5) (by decide) (by omega)
        have d7 : (7 : Int32) ≤ nI wh ↔ 7 ≤ wh := nI_leI (a := 7) (by decide) (by omega)
        rw [d0, d1, d2, d8, d5, d7]
        have tt : ∀ s L : Nat, ((s = 0 ∧ L = 100) ∨ (s = 2 ∧ L = 10) ∨ (s = 3 ∧ L = 100) ∨ (s = 4 ∧ L = 6) ∨ (s = 5 ∧ L = nT)) → (tlS tv nT κ (fun j => M 11 (40 * sh + j)) i wh = if wh = 3 ∨ wh = 5 then nI (cnF (fitP tv κ (fun j => M 11 (40 * sh + j)) s i) L) else if wh = 4 ∨ wh = 6 then dlF (fitP tv κ (fun j => M 11 (40 * sh + j)) s i) L (-1) else nI (bsF (fitP tv κ (fun j => M 11 (40 * sh + j)) s i) L)) → w6_tells_b125 Q M (nI sh) (nI i) (nI wh) (nI s) := fun s L hsL ev => m_t125 (it := fun j => M 11 (40 * sh + j)) hsL hwh hsh hI ht hO.2.2.1 hO.2.2.2.2.2.1 hi hM hO.2.1 (fun _ _ => rfl) (fun M' f' R' => by rw [← ev]; exact q M' f' R')
        have q0 : wh = 0 → w6_firstOther M (nI sh) (nI i) Q := fun w0 => m_fo (it := fun j => M 11 (40 * sh + j)) hsh hI ht hi hM hO.2.1 (fun _ _ => rfl) (fun M' f' => by
          have z := q M' (f'.g.q (d := 0)).r (hM.fr f')
          unfold tlS at z
          rw [if_pos w0] at z
          exact z)
        have q8 : wh = 8 → w6_likeSet M (nI sh) Q := fun w8 => m_like (it := fun j => M 11 (40 * sh + j)) hsh hI ht hM hO.2.1 (fun _ _ => rfl) (fun M' f' => by
          have z := q M' (f'.g.q (d := 0)).r (hM.fr f')
          unfold tlS at z
          rw [if_neg (by omega), if_pos w8] at z
          exact z)
        unfold tlS at tt
        refine ⟨fun c0 => ⟨fun z => absurd c0 z, fun _ => q0 c0⟩, fun c0 => ⟨fun c8 => ⟨fun c1 => ⟨fun c2 => ⟨fun c5 => ⟨fun c7 => ?_, fun c7 => ?_⟩, fun c5 => ?_⟩, fun c2 => ?_⟩, fun c1 => ?_⟩, fun c8 => ⟨fun _ => q8 c8, fun z => absurd z c0⟩⟩⟩
        · exact tt 5 nT (by omega) (by
            obtain rfl : wh = 7 := by omega
            simp)
        · exact tt 0 100 (by omega) (by
            rcases (by omega : wh = 5 ∨ wh = 6) with rfl | rfl <;> simp)
        · exact tt 3 100 (by omega) (by
            rcases (by omega : wh = 3 ∨ wh = 4) with rfl | rfl <;> simp)
        · exact tt 2 10 (by omega) (by subst c2; simp)
        · exact tt 4 6 (by omega) (by subst c1; simp)
      have vw : (nI wh).toInt = (wh : Int) := nI_toInt (by omega)
      have fin : ∀ (r : Int32) (X1 : S0), r = tlS tv nT κ (fun j => M 11 (40 * sh + j)) i wh → FT X X1 → w6_tells M (nI sh) (nI i) (nI wh) (fun r' M' => Owes tv nT g r X1 r' M') := fun r X1 er f1 => tT _ (fun M' f' R' => ⟨er, _, rel_up H (hX.t f1 (by decide) (by decide)) R' hI hr ht rfl rfl f1.a f'⟩)
      unfold tlS at fin
      rw [vw]
      refine ⟨fun e => ?_, fun e => ?_, fun e => ?_, fun e => ?_, fun e => ?_, fun e => ?_, fun e => ?_, fun e => ?_, fun e => ?_, fun e => by omega⟩
      · obtain rfl : wh = 0 := by omega
        exact x_fo (it := fun j => M 11 (40 * sh + j)) (by decide) (by decide) (by omega) hI ht hi hX hO.1 s2 s6 (fun X1 f1 => fin _ X1 (by simp) f1.t)
      · obtain rfl : wh = 1 := by omega
        exact x_btf (it := fun j => M 11 (40 * sh + j)) (Or.inl ⟨rfl, rfl, rfl⟩) hO.2.2.1 hO.2.2.2.2.1 (by omega) hI ht hi hX hO.1 s2 s6 (fun X1 f1 => fin _ X1 (by simp) f1)
      · obtain rfl : wh = 2 := by omega
        exact x_btf (it := fun j => M 11 (40 * sh + j)) (Or.inr (Or.inl ⟨rfl, rfl, rfl⟩)) hO.2.2.1 hO.2.2.2.2.1 (by omega) hI ht hi hX hO.1 s2 s6 (fun X1 f1 => fin _ X1 (by simp) f1)
      · obtain rfl : wh = 3 := by omega
        exact x_hmf (s := 3) (it := fun j => M 11 (40 * sh + j)) (Or.inr rfl) (by omega) hI ht hi hX hO.1 s2 s6 (fun X1 f1 => fin _ X1 (by simp) f1)
      · obtain rfl : wh = 4 := by omega
        exact x_ltf (s := 3) (it := fun j => M 11 (40 * sh + j)) (Or.inr rfl) (by omega) hI ht hi hX hO.1 s2 s6 (fun X1 f1 => fin _ X1 (by simp) f1)
      · obtain rfl : wh = 5 := by omega
        exact x_hmf (s := 0) (it := fun j => M 11 (40 * sh + j)) (Or.inl rfl) (by omega) hI ht hi hX hO.1 s2 s6 (fun X1 f1 => fin _ X1 (by simp) f1)
      · obtain rfl : wh = 6 := by omega
        exact x_ltf (s := 0) (it := fun j => M 11 (40 * sh + j)) (Or.inl rfl) (by omega) hI ht hi hX hO.1 s2 s6 (fun X1 f1 => fin _ X1 (by simp) f1)
      · obtain rfl : wh = 7 := by omega
        exact x_btf (it := fun j => M 11 (40 * sh + j)) (Or.inr (Or.inr ⟨rfl, rfl, rfl⟩)) hO.2.2.1 hO.2.2.2.2.1 (by omega) hI ht hi hX hO.1 s2 s6 (fun X1 f1 => fin _ X1 (by simp) f1)
      · obtain rfl : wh = 8 := by omega
        exact x_ptf (it := fun j => M 11 (40 * sh + j)) (by omega) hI ht hX hO.1 s2 s6 (fun X1 f1 => fin _ X1 (by simp) f1.t)
    · refine br_f cN0 ?_
      unfold w6_tells
      refine m_isSheet ?_
      rw [b01]
      refine br_f (fun z => z (isS_nI hsh)) (m_isOne hM.1 i1 ?_)
      rw [b01]
      refine br_f (fun z => z c) (m_in32 (b := 0) (c := 8) ?_)
      rw [b01, nI_clamp (n := sh) (by omega), s3, s5, hM.1, eN]
      exact s_t (fun z => z c2) ⟨vs, s_t (by decide) ⟨vs, br_f cN0 ⟨rfl, _, H⟩⟩⟩
end TLS
