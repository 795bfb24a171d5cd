/-! each with each once; kept apart; rings -/
def rbI (tv : TV) (but : Int32) (a : Nat) : Nat → Nat → CS → CS
  | 0, _, κ => κ
  | f + 1, b, κ => rbI tv but a f (b + 1) (if nI (10 * a + b) = but then κ else meetS tv κ a b)
def rbO (tv : TV) (but : Int32) (n : Nat) : Nat → Nat → CS → CS
  | 0, _, κ => κ
  | f + 1, a, κ => rbO tv but n f (a + 1) (rbI tv but a (n - (a + 1)) (a + 1) κ)
theorem r10 (i j : Nat) : ((10 : Int32) * nI i) + nI j = nI (10 * i + j) := by
  have e : (10 : Int32) * nI i = nI (10 * i) := nI_mul 10 i
  rw [e, nI_add]
/-- how many are in THE HALL behind all games but one -/
def hvF (tv : TV) (κ : CS) (but : Int32) : Int32 := nI (pc8 (cL (rbO tv but (cN κ) (cN κ) 0 κ)))
def apI (tv : TV) (κ : CS) (a : Nat) : Nat → Nat → Int32 → Int32 → Int32 × Int32
  | 0, _, l, w => (l, w)
  | f + 1, b, l, w => if l ≤ hvF tv κ (nI (10 * a + b)) then apI tv κ a f (b + 1) l w else apI tv κ a f (b + 1) (hvF tv κ (nI (10 * a + b))) (nI (10 * a + b))
def apO (tv : TV) (κ : CS) : Nat → Nat → Int32 → Int32 → Int32
  | 0, _, _, w => w
  | f + 1, a, l, w => apO tv κ f (a + 1) (apI tv κ a (cN κ - (a + 1)) (a + 1) l w).1 (apI tv κ a (cN κ - (a + 1)) (a + 1) l w).2
def wnI (tv : TV) (κ : CS) (p q : Nat) : Int32 := whoI (whoS tv κ p q) p q
theorem wn_sym (tv : TV) (κ : CS) (p q : Nat) : wnI tv κ q p = wnI tv κ p q := by
  unfold wnI whoS
  by_cases e : powS tv κ p q = powS tv κ q p
  · rw [if_pos e, if_pos e.symm]; rfl
  · rw [if_neg e, if_neg (fun z => e z.symm)]
    by_cases l : powS tv κ p q ≤ powS tv κ q p
    · rw [if_pos l, if_neg (fun z => e (Int32.le_antisymm l z))]; rfl
    · rw [if_neg l, if_pos (Int32.le_of_lt (Int32.not_le.mp l))]; rfl
abbrev rgP (tv : TV) (κ : CS) (a b c : Nat) : Prop := (wnI tv κ a b = nI a ∧ wnI tv κ b c = nI b ∧ wnI tv κ a c = nI c) ∨ (wnI tv κ a b = nI b ∧ wnI tv κ b c = nI c ∧ wnI tv κ a c = nI a)
def rgC (tv : TV) (κ : CS) (a b : Nat) : Nat → Nat → Nat → Nat
  | 0, _, m => m
  | f + 1, c, m => rgC tv κ a b f (c + 1) (if rgP tv κ a b c then m + 1 else m)
def rgB (tv : TV) (κ : CS) (a : Nat) : Nat → Nat → Nat → Nat
  | 0, _, m => m
  | f + 1, b, m => rgB tv κ a f (b + 1) (rgC tv κ a b (cN κ - (b + 1)) (b + 1) m)
def rgA (tv : TV) (κ : CS) : Nat → Nat → Nat → Nat
  | 0, _, m => m
  | f + 1, a, m => rgA tv κ f (a + 1) (rgB tv κ a (cN κ - (a + 1)) (a + 1) m)
section RBN
variable {tv : TV} {nT : Nat} {κ : CS} {g : GX} {X M : S0}
theorem x_rb_in {N a : Nat} {but : Int32} {K : S0 → Int32 → Nat → Int32 → Prop} {Q : Option Nat → S0 → Prop} : ∀ (f b n : Nat) (X : S0) (κ : CS), b + f = N → f < n → a < b → RelX 22 κ X → X 10 7 = nI N → IC κ → TX tv nT g X → cT κ < nT → cN κ = N → (∀ X' : S0, FXb 22 X X' → RelX 22 (rbI tv but a f b κ) X' → IC (rbI tv but a f b κ) → cT (rbI tv but a f b κ) < nT → cN (rbI tv but a f b κ) = N → K X' but 22 (nI (a + 1))) → w5_robinWithout_b23 g K Q n X but 22 (nI a) (nI b) := by
  intro f
  induction f with
  | zero =>
    intro b n X κ e hn hab hX h7 hI hT ht hN h
    cases n with
    | zero => omega
    | succ n =>
      have i1 := hI.1
      rw [w5_robinWithout_b23, h7]
      refine br_t (nI_le (by omega) (by omega)) ?_
      rintro _ rfl
      rw [nI_1]
      exact h X (fun _ _ _ _ => rfl) hX hI ht hN
  | succ f ih =>
    intro b n X κ e hn hab hX h7 hI hT ht hN h
    have i1 := hI.1
    cases n with
    | zero => omega
    | succ n =>
      rw [w5_robinWithout_b23, h7, r10]
      rw [rbI] at h
      refine br_f (nI_ge (by omega) (by omega)) ⟨fun c => ?_, fun c => ?_⟩
      · rintro _ rfl
        rw [nI_1]
        rw [if_pos c] at h
        exact ih (b + 1) n X κ (by omega) (by omega) (by omega) hX h7 hI hT ht hN h
      · rw [if_neg c] at h
        refine x_meet (by decide) (by decide) hX hI hT ht (by omega) (by omega) (by omega) (fun X1 f1 R1 => ?_)
        rintro _ rfl
        rw [nI_1]
        exact ih (b + 1) n X1 _ (by omega) (by omega) (by omega) R1 (by rw [f1 10 (by omega) (by omega) (by omega)]; exact h7) (ic_meet hI (by omega) (by omega) (by omega)) (hT.xb f1 (by decide) (by decide)) (by rw [meet_T]; exact ht) (by rw [meet_N]; exact hN) (fun X' f' => h X' (f1.tr f'))
theorem x_rb_out {N : Nat} {but : Int32} {Q : Option Nat → S0 → Prop} : ∀ (f a n : Nat) (X : S0) (κ : CS), a + f = N → f < n → RelX 22 κ X → X 10 7 = nI N → IC κ → TX tv nT g X → cT κ < nT → cN κ = N → (∀ X' : S0, FXb 22 X X' → RelX 22 (rbO tv but N f a κ) X' → IC (rbO tv but N f a κ) → cN (rbO tv but N f a κ) = N → Q (some 22) X') → w5_robinWithout_b7 g Q n X but 22 (nI a) := by
  intro f
  induction f with
  | zero =>
    intro a n X κ e hn hX h7 hI hT ht hN h
    cases n with
    | zero => omega
    | succ n =>
      have i1 := hI.1
      rw [w5_robinWithout_b7, h7]
      exact br_t (nI_le (by omega) (by omega)) (h X (fun _ _ _ _ => rfl) hX hI hN)
  | succ f ih =>
    intro a n X κ e hn hX h7 hI hT ht hN h
    have i1 := hI.1
    cases n with
    | zero => omega
    | succ n =>
      rw [w5_robinWithout_b7, h7]
      refine br_f (nI_ge (by omega) (by omega)) ?_
      rintro _ rfl
      rw [nI_1]
      rw [rbO] at h
      refine ⟨N - (a + 1) + 1, x_rb_in (N - (a + 1)) (a + 1) _ X κ (by omega) (Nat.lt_succ_self _) (Nat.lt_succ_self _) hX h7 hI hT ht hN (fun X1 f1 R1 hI1 ht1 hN1 => ?_)⟩
      exact ih (a + 1) n X1 _ (by omega) (by omega) R1 (by rw [f1 10 (by omega) (by omega) (by omega)]; exact h7) hI1 (hT.xb f1 (by decide) (by decide)) ht1 hN1 (fun X' f' => h X' (f1.tr f'))
theorem x_robinWithout {but : Int32} {Q : Option Nat → S0 → Prop} (hX : RelX 10 κ X) (hI : IC κ) (hT : TX tv nT g X) (ht : cT κ < nT) (h : ∀ X' : S0, FT X X' → RelX 22 (rbO tv but (cN κ) (cN κ) 0 κ) X' → IC (rbO tv but (cN κ) (cN κ) 0 κ) → cN (rbO tv but (cN κ) (cN κ) 0 κ) = cN κ → Q (some 22) X') : w5_robinWithout g X but Q := by
  unfold w5_robinWithout
  refine x_think hX hI.1 (fun X1 f1 R1 => ⟨fun e => (by cases e), fun k e => ?_⟩)
  obtain rfl : 22 = k := Option.some.inj e
  refine ⟨cl_22, cN κ + 1, x_rb_out (cN κ) 0 _ X1 κ (Nat.zero_add _) (Nat.lt_succ_self _) R1 (by rw [f1 10 (by omega) (by omega) (by omega)]; exact hX.1) hI (hT.t f1) ht rfl (fun X' f' => h X' (f1.tr (f'.t (by decide) (by decide))))⟩
theorem m_rb_in {N a : Nat} {but : Int32} {K : S0 → Int32 → Int32 → Prop} {Q : S0 → Prop} : ∀ (f b n : Nat) (M : S0) (κ : CS), b + f = N → f < n → a < b → RelM κ M → IC κ → TM tv nT M → cT κ < nT → cN κ = N → (∀ M' : S0, GM M M' → RelM (rbI tv but a f b κ) M' → IC (rbI tv but a f b κ) → cT (rbI tv but a f b κ) < nT → cN (rbI tv but a f b κ) = N → K M' but (nI (a + 1))) → w6_robins_b14 K Q n M but (nI a) (nI b) := by
  intro f
  induction f with
  | zero =>
    intro b n M κ e hn hab hM hI hT ht hN h
    cases n with
    | zero => omega
    | succ n =>
      have i1 := hI.1
      rw [w6_robins_b14, hM.1, hN]
      refine br_t (nI_le (by omega) (by omega)) ?_
      rintro _ rfl
      rw [nI_1]
      exact h M GM.rf hM hI ht hN
  | succ f ih =>
    intro b n M κ e hn hab hM hI hT ht hN h
    have i1 := hI.1
    cases n with
    | zero => omega
    | succ n =>
      rw [w6_robins_b14, hM.1, hN, r10]
      rw [rbI] at h
      refine br_f (nI_ge (by omega) (by omega)) ⟨fun c => ?_, fun c => ?_⟩
      · rintro _ rfl
        rw [nI_1]
        rw [if_pos c] at h
        exact ih (b + 1) n M κ (by omega) (by omega) (by omega) hM hI hT ht hN h
      · rw [if_neg c] at h
        refine m_games hM hI hT ht (by omega) (by omega) (by omega) (fun M1 f1 R1 => ?_)
        rintro _ rfl
        rw [nI_1]
        exact ih (b + 1) n M1 _ (by omega) (by omega) (by omega) R1 (ic_meet hI (by omega) (by omega) (by omega)) (hT.g f1) (by rw [meet_T]; exact ht) (by rw [meet_N]; exact hN) (fun M' f' => h M' (f1.tr f'))
theorem m_rb_out {N : Nat} {but : Int32} {Q : S0 → Prop} : ∀ (f a n : Nat) (M : S0) (κ : CS), a + f = N → f < n → RelM κ M → IC κ → TM tv nT M → cT κ < nT → cN κ = N → (∀ M' : S0, GM M M' → RelM (rbO tv but N f a κ) M' → IC (rbO tv but N f a κ) → cN (rbO tv but N f a κ) = N → Q M') → w6_robins_b2 Q n M but (nI a) := by
  intro f
  induction f with
  | zero =>
    intro a n M κ e hn hM hI hT ht hN h
    cases n with
    | zero => omega
    | succ n =>
      have i1 := hI.1
      rw [w6_robins_b2, hM.1, hN]
      exact br_t (nI_le (by omega) (by omega)) (h M GM.rf hM hI hN)
  | succ f ih =>
    intro a n M κ e hn hM hI hT ht hN h
    have i1 := hI.1
    cases n with
    | zero => omega
    | succ n =>
      rw [w6_robins_b2, hM.1, hN]
      refine br_f (nI_ge (by omega) (by omega)) ?_
      rintro _ rfl
      rw [nI_1]
      rw [rbO] at h
      refine ⟨N - (a + 1) + 1, m_rb_in (N - (a + 1)) (a + 1) _ M κ (by omega) (Nat.lt_succ_self _) (Nat.lt_succ_self _) hM hI hT ht hN (fun M1 f1 R1 hI1 ht1 hN1 => ?_)⟩
      exact ih (a + 1) n M1 _ (by omega) (by omega) R1 hI1 (hT.g f1) ht1 hN1 (fun M' f' => h M' (f1.tr f'))
theorem m_robins {but : Int32} {Q : S0 → Prop} (hM : RelM κ M) (hI : IC κ) (hT : TM tv nT M) (ht : cT κ < nT) (h : ∀ M' : S0, GM M M' → RelM (rbO tv but (cN κ) (cN κ) 0 κ) M' → IC (rbO tv but (cN κ) (cN κ) 0 κ) → cN (rbO tv but (cN κ) (cN κ) 0 κ) = cN κ → Q M') : w6_robins M but Q := by
  unfold w6_robins
  exact ⟨cN κ + 1, m_rb_out (cN κ) 0 _ M κ (Nat.zero_add _) (Nat.lt_succ_self _) hM hI hT ht rfl h⟩
theorem m_hallBehind {but : Int32} {Q : Int32 → S0 → Prop} (h0 : M 0 28 = nI 0) (hM : RelM κ M) (hI : IC κ) (hT : TM tv nT M) (ht : cT κ < nT) (h : ∀ M' : S0, QM 0 M M' → Q (hvF tv κ but) M') : w6_hallBehind M but Q := by
  unfold w6_hallBehind
  refine m_thought (d := 0) (by decide) h0 hM (fun M1 t1 e1 R1 bk => m_robins R1 hI (hT.h1 t1) ht (fun M2 f2 R2 I2 N2 => ?_))
  rw [R2.2.1]
  exact m_bitsOf I2.2.2.1 (bk M2 f2.q _ h)
theorem QM.z {M M' : S0} (f : QM 0 M M') (h0 : M 0 28 = nI 0) : M' 0 28 = nI 0 := by rw [f.1 0 28 (by decide) (by decide) (by omega)]; exact h0
theorem x_ap_in {a : Nat} {K : S0 → Int32 → Int32 → Int32 → Prop} {Q : Int32 → S0 → Prop} (hI : IC κ) (ht : cT κ < nT) : ∀ (f b n : Nat) (X : S0) (l w : Int32), b + f = cN κ → f < n → a < b → RelX 10 κ X → TX tv nT g X → (∀ X' : S0, FT X X' → K X' (apI tv κ a f b l w).1 (apI tv κ a f b l w).2 (nI (a + 1))) → w5_keptApart_b29 g K Q n X l w (nI a) (nI b) := by
  have i1 := hI.1
  intro f
  induction f with
  | zero =>
    intro b n X l w e hn hab hX hT h
    cases n with
    | zero => omega
    | succ n =>
      rw [w5_keptApart_b29, hX.1]
      refine br_t (nI_le (by omega) (by omega)) ?_
      rintro _ rfl
      rw [nI_1]
      exact h X FT.rf
  | succ f ih =>
    intro b n X l w e hn hab hX hT h
    cases n with
    | zero => omega
    | succ n =>
      rw [w5_keptApart_b29, hX.1, r10]
      rw [apI] at h
      refine br_f (nI_ge (by omega) (by omega)) (x_robinWithout hX hI hT ht (fun X1 f1 R1 I1 N1 => ⟨fun e => (by cases e), fun k e => ?_⟩))
      obtain rfl : 22 = k := Option.some.inj e
      refine ⟨cl_22, x_manyInHall R1 I1 ⟨fun c => ?_, fun c => ?_⟩⟩
      · rintro _ rfl
        rw [nI_1]
        rw [if_pos (show l ≤ hvF tv κ (nI (10 * a + b)) from c)] at h
        exact ih (b + 1) n X1 _ _ (by omega) (by omega) (by omega) (hX.t f1 (by decide) (by decide)) (hT.t f1) (fun X' f' => h X' (f1.tr f'))
      · rintro _ rfl _ rfl
        rw [nI_1]
        rw [if_neg (show ¬ l ≤ hvF tv κ (nI (10 * a + b)) from c)] at h
        exact ih (b + 1) n X1 _ _ (by omega) (by omega) (by omega) (hX.t f1 (by decide) (by decide)) (hT.t f1) (fun X' f' => h X' (f1.tr f'))
theorem x_ap_out {Q : Int32 → S0 → Prop} (hI : IC κ) (ht : cT κ < nT) : ∀ (f a n : Nat) (X : S0) (l w : Int32), a + f = cN κ → f < n → RelX 10 κ X → TX tv nT g X → (∀ X' : S0, FT X X' → Q (apO tv κ f a l w) X') → w5_keptApart_b13 g Q n X l w (nI a) := by
  have i1 := hI.1
  intro f
  induction f with
  | zero =>
    intro a n X l w e hn hX hT h
    cases n with
    | zero => omega
    | succ n =>
      rw [w5_keptApart_b13, hX.1]
      exact br_t (nI_le (by omega) (by omega)) (h X FT.rf)
  | succ f ih =>
    intro a n X l w e hn hX hT h
    cases n with
    | zero => omega
    | succ n =>
      rw [w5_keptApart_b13, hX.1]
      rw [apO] at h
      refine br_f (nI_ge (by omega) (by omega)) ?_
      rintro _ rfl
      rw [nI_1]
      refine ⟨cN κ - (a + 1) + 1, x_ap_in hI ht (cN κ - (a + 1)) (a + 1) _ X l w (by omega) (Nat.lt_succ_self _) (Nat.lt_succ_self _) hX hT (fun X1 f1 => ?_)⟩
      exact ih (a + 1) n X1 _ _ (by omega) (by omega) (hX.t f1 (by decide) (by decide)) (hT.t f1) (fun X' f' => h X' (f1.tr f'))
theorem m_ap_in {a : Nat} {K : S0 → Int32 → Int32 → Int32 → Prop} {Q : Int32 → S0 → Prop} (hI : IC κ) (ht : cT κ < nT) : ∀ (f b n : Nat) (M : S0) (l w : Int32), b + f = cN κ → f < n → a < b → M 0 28 = nI 0 → RelM κ M → TM tv nT M → (∀ M' : S0, QM 0 M M' → K M' (apI tv κ a f b l w).2 (apI tv κ a f b l w).1 (nI (a + 1))) → w6_apart_b23 K Q n M w l (nI a) (nI b) := by
  have i1 := hI.1
  intro f
  induction f with
  | zero =>
    intro b n M l w e hn hab h0 hM hT h
    cases n with
    | zero => omega
    | succ n =>
      rw [w6_apart_b23, hM.1]
      refine br_t (nI_le (by omega) (by omega)) ?_
      rintro _ rfl
      rw [nI_1]
      exact h M QM.rf
  | succ f ih =>
    intro b n M l w e hn hab h0 hM hT h
    cases n with
    | zero => omega
    | succ n =>
      rw [w6_apart_b23, hM.1, r10]
      rw [apI] at h
      refine br_f (nI_ge (by omega) (by omega)) (m_hallBehind h0 hM hI hT ht (fun M1 f1 => ⟨fun c => ?_, fun c => ?_⟩))
      · rintro _ rfl
        rw [nI_1]
        rw [if_pos c] at h
        exact ih (b + 1) n M1 _ _ (by omega) (by omega) (by omega) (f1.z h0) (hM.q i1 f1) (hT.q f1.g) (fun M' f' => h M' (f1.tr f'))
      · rintro _ rfl _ rfl
        rw [nI_1]
        rw [if_neg c] at h
        exact ih (b + 1) n M1 _ _ (by omega) (by omega) (by omega) (f1.z h0) (hM.q i1 f1) (hT.q f1.g) (fun M' f' => h M' (f1.tr f'))
theorem m_ap_out {Q : Int32 → S0 → Prop} (hI : IC κ) (ht : cT κ < nT) : ∀ (f a n : Nat) (M : S0) (l w : Int32), a + f = cN κ → f < n → M 0 28 = nI 0 → RelM κ M → TM tv nT M → (∀ M' : S0, QM 0 M M' → Q (apO tv κ f a l w) M') → w6_apart_b10 Q n M w l (nI a) := by
  have i1 := hI.1
  intro f
  induction f with
  | zero =>
    intro a n M l w e hn h0 hM hT h
    cases n with
    | zero => omega
    | succ n =>
      rw [w6_apart_b10, hM.1]
      exact br_t (nI_le (by omega) (by omega)) (h M QM.rf)
  | succ f ih =>
    intro a n M l w e hn h0 hM hT h
    cases n with
    | zero => omega
    | succ n =>
      rw [w6_apart_b10, hM.1]
      rw [apO] at h
      refine br_f (nI_ge (by omega) (by omega)) ?_
      rintro _ rfl
      rw [nI_1]
      refine ⟨cN κ - (a + 1) + 1, m_ap_in hI ht (cN κ - (a + 1)) (a + 1) _ M l w (by omega) (Nat.lt_succ_self _) (Nat.lt_succ_self _) h0 hM hT (fun M1 f1 => ?_)⟩
      exact ih (a + 1) n M1 _ _ (by omega) (by omega) (f1.z h0) (hM.q i1 f1) (hT.q f1.g) (fun M' f' => h M' (f1.tr f'))
theorem x_keptApart {Q : Int32 → S0 → Prop} (hX : RelX 10 κ X) (hI : IC κ) (hT : TX tv nT g X) (ht : cT κ < nT) (h : ∀ X' : S0, FT X X' → Q (apO tv κ (cN κ) 0 (hvF tv κ (-1)) (-1)) X') : w5_keptApart g X Q := by
  unfold w5_keptApart
  refine x_robinWithout hX hI hT ht (fun X1 f1 R1 I1 N1 => ⟨fun e => (by cases e), fun k e => ?_⟩)
  obtain rfl : 22 = k := Option.some.inj e
  refine ⟨cl_22, x_manyInHall R1 I1 ⟨cN κ + 1, ?_⟩⟩
  exact x_ap_out hI ht (cN κ) 0 _ X1 _ _ (Nat.zero_add _) (Nat.lt_succ_self _) (hX.t f1 (by decide) (by decide)) (hT.t f1) (fun X' f' => h X' (f1.tr f'))
theorem m_apart {Q : Int32 → S0 → Prop} (h0 : M 0 28 = nI 0) (hM : RelM κ M) (hI : IC κ) (hT : TM tv nT M) (ht : cT κ < nT) (h : ∀ M' : S0, QM 0 M M' → Q (apO tv κ (cN κ) 0 (hvF tv κ (-1)) (-1)) M') : w6_apart M Q := by
  unfold w6_apart
  refine m_hallBehind h0 hM hI hT ht (fun M1 f1 => ⟨cN κ + 1, ?_⟩)
  exact m_ap_out hI ht (cN κ) 0 _ M1 _ _ (Nat.zero_add _) (Nat.lt_succ_self _) (f1.z h0) (hM.q hI.1 f1) (hT.q f1.g) (fun M' f' => h M' (f1.tr f'))
theorem x_isRing {a b c : Nat} {Q : Int32 → S0 → Prop} (hX : RelX 10 κ X) (hI : IC κ) (hT : TX tv nT g X) (ht : cT κ < nT) (ha : a < cN κ) (hb : b < cN κ) (hc : c < cN κ) (hab : a ≠ b) (hbc : b ≠ c) (hca : c ≠ a) (h1 : (wnI tv κ a b = nI a ∧ wnI tv κ b c = nI b ∧ wnI tv κ c a = nI c) → ∀ X' : S0, FX X X' → Q 1 X') (h0 : ¬ (wnI tv κ a b = nI a ∧ wnI tv κ b c = nI b ∧ wnI tv κ c a = nI c) → ∀ X' : S0, FX X X' → Q 0 X') : w5_isRing g X (nI a) (nI b) (nI c) Q := by
  unfold w5_isRing
  refine x_winner (by decide) (by decide) hX hI hT ht ha hb hab (fun X1 f1 => ⟨fun c1 => h0 (fun z => c1 z.1) X1 f1, fun c1 => ?_⟩)
  refine x_winner (by decide) (by decide) (hX.fr (by decide) f1) hI (hT.t f1.t) ht hb hc hbc (fun X2 f2 => ⟨fun c2 => h0 (fun z => c2 z.2.1) X2 (f1.tr f2), fun c2 => ?_⟩)
  refine x_winner (by decide) (by decide) ((hX.fr (by decide) f1).fr (by decide) f2) hI ((hT.t f1.t).t f2.t) ht hc ha hca (fun X3 f3 => ⟨fun c3 => h0 (fun z => c3 z.2.2) X3 ((f1.tr f2).tr f3), fun c3 => h1 ⟨c1, c2, c3⟩ X3 ((f1.tr f2).tr f3)⟩)
theorem x_rg_c {a b : Nat} {K4 : S0 → Int32 → Int32 → Prop} {K : S0 → Int32 → Int32 → Int32 → Prop} {Q : Int32 → S0 → Prop} (hI : IC κ) (ht : cT κ < nT) (hab : a < b) : ∀ (f c n m : Nat) (X : S0), c + f = cN κ → f < n → b < c → RelX 10 κ X → TX tv nT g X → (∀ X' : S0, FX X X' → K X' (nI (rgC tv κ a b f c m)) (nI a) (nI (b + 1))) → w5_rings_b35 g K4 K Q n X (nI m) (nI a) (nI b) (nI c) := by
  have i1 := hI.1
  intro f
  induction f with
  | zero =>
    intro c n m X e hn hbc hX hT h
    cases n with
    | zero => omega
    | succ n =>
      rw [w5_rings_b35, hX.1]
      refine br_t (nI_le (by omega) (by omega)) ?_
      rintro _ rfl
      rw [nI_1]
      exact h X FX.rf
  | succ f ih =>
    intro c n m X e hn hbc hX hT h
    cases n with
    | zero => omega
    | succ n =>
      rw [w5_rings_b35, hX.1]
      rw [rgC] at h
      refine br_f (nI_ge (by omega) (by omega)) (x_isRing hX hI hT ht (by omega) (by omega) (by omega) (by omega) (by omega) (by omega) (fun r X1 f1 => s_t (by decide) ?_) (fun r X1 f1 => s_f rfl ?_))
      · rintro _ rfl _ rfl
        rw [nI_1, nI_1]
        rw [if_pos (Or.inl ⟨r.1, r.2.1, (wn_sym tv κ c a).trans r.2.2⟩)] at h
        exact ih (c + 1) n (m + 1) X1 (by omega) (by omega) (by omega) (hX.fr (by decide) f1) (hT.t f1.t) (fun X' f' => h X' (f1.tr f'))
      · refine x_isRing (hX.fr (by decide) f1) hI (hT.t f1.t) ht (by omega) (by omega) (by omega) (by omega) (by omega) (by omega) (fun r2 X2 f2 => br_f (by decide) ?_) (fun r2 X2 f2 => br_t rfl ?_)
        · rintro _ rfl _ rfl
          rw [nI_1, nI_1]
          rw [if_pos (Or.inr ⟨(wn_sym tv κ b a).trans r2.2.2, (wn_sym tv κ c b).trans r2.2.1, r2.1⟩)] at h
          exact ih (c + 1) n (m + 1) X2 (by omega) (by omega) (by omega) ((hX.fr (by decide) f1).fr (by decide) f2) ((hT.t f1.t).t f2.t) (fun X' f' => h X' ((f1.tr f2).tr f'))
        · rintro _ rfl
          rw [nI_1]
          rw [if_neg (fun z => by
            rcases z with z | z
            · exact r ⟨z.1, z.2.1, (wn_sym tv κ a c).trans z.2.2⟩
            · exact r2 ⟨z.2.2, (wn_sym tv κ b c).trans z.2.1, (wn_sym tv κ a b).trans z.1⟩)] at h
          exact ih (c + 1) n m X2 (by omega) (by omega) (by omega) ((hX.fr (by decide) f1).fr (by decide) f2) ((hT.t f1.t).t f2.t) (fun X' f' => h X' ((f1.tr f2).tr f'))
theorem x_rg_b {a : Nat} {K : S0 → Int32 → Int32 → Prop} {Q : Int32 → S0 → Prop} (hI : IC κ) (ht : cT κ < nT) : ∀ (f b n m : Nat) (X : S0), b + f = cN κ → f < n → a < b → RelX 10 κ X → TX tv nT g X → (∀ X' : S0, FX X X' → K X' (nI (rgB tv κ a f b m)) (nI (a + 1))) → w5_rings_b19 g K Q n X (nI m) (nI a) (nI b) := by
  have i1 := hI.1
  intro f
  induction f with
  | zero =>
    intro b n m X e hn hab hX hT h
    cases n with
    | zero => omega
    | succ n =>
      rw [w5_rings_b19, hX.1]
      refine br_t (nI_le (by omega) (by omega)) ?_
      rintro _ rfl
      rw [nI_1]
      exact h X FX.rf
  | succ f ih =>
    intro b n m X e hn hab hX hT h
    cases n with
    | zero => omega
    | succ n =>
      rw [w5_rings_b19, hX.1]
      rw [rgB] at h
      refine br_f (nI_ge (by omega) (by omega)) ?_
      rintro _ rfl
      rw [nI_1]
      refine ⟨cN κ - (b + 1) + 1, x_rg_c hI ht hab (cN κ - (b + 1)) (b + 1) _ m X (by omega) (Nat.lt_succ_self _) (Nat.lt_succ_self _) hX hT (fun X1 f1 => ?_)⟩
      exact ih (b + 1) n _ X1 (by omega) (by omega) (by omega) (hX.fr (by decide) f1) (hT.t f1.t) (fun X' f' => h X' (f1.tr f'))
theorem x_rg_a {Q : Int32 → S0 → Prop} (hI : IC κ) (ht : cT κ < nT) : ∀ (f a n m : Nat) (X : S0), a + f = cN κ → f < n → RelX 10 κ X → TX tv nT g X → (∀ X' : S0, FX X X' → Q (nI (rgA tv κ f a m)) X') → w5_rings_b4 g Q n X (nI m) (nI a) := by
  have i1 := hI.1
  intro f
  induction f with
  | zero =>
    intro a n m X e hn hX hT h
    cases n with
    | zero => omega
    | succ n =>
      rw [w5_rings_b4, hX.1]
      exact br_t (nI_le (by omega) (by omega)) (h X FX.rf)
  | succ f ih =>
    intro a n m X e hn hX hT h
    cases n with
    | zero => omega
    | succ n =>
      rw [w5_rings_b4, hX.1]
      rw [rgA] at h
      refine br_f (nI_ge (by omega) (by omega)) ?_
      rintro _ rfl
      rw [nI_1]
      refine ⟨cN κ - (a + 1) + 1, x_rg_b hI ht (cN κ - (a + 1)) (a + 1) _ m X (by omega) (Nat.lt_succ_self _) (Nat.lt_succ_self _) hX hT (fun X1 f1 => ?_)⟩
      exact ih (a + 1) n _ X1 (by omega) (by omega) (hX.fr (by decide) f1) (hT.t f1.t) (fun X' f' => h X' (f1.tr f'))
theorem m_rg_c {a b : Nat} {K4 : S0 → Int32 → Int32 → Prop} {K : S0 → Int32 → Int32 → Int32 → Prop} {Q : Int32 → S0 → Prop} (hI : IC κ) (ht : cT κ < nT) (hab : a < b) : ∀ (f c n m : Nat) (M : S0), c + f = cN κ → f < n → b < c → RelM κ M → TM tv nT M → (∀ M' : S0, ScM M M' → K M' (nI (rgC tv κ a b f c m)) (nI a) (nI (b + 1))) → w6_ringMany_b29 K4 K Q n M (nI m) (nI a) (nI b) (nI c) := by
  have i1 := hI.1
  intro f
  induction f with
  | zero =>
    intro c n m M e hn hbc hM hT h
    cases n with
    | zero => omega
    | succ n =>
      rw [w6_ringMany_b29, hM.1]
      refine br_t (nI_le (by omega) (by omega)) ?_
      rintro _ rfl
      rw [nI_1]
      exact h M ScM.rf
  | succ f ih =>
    intro c n m M e hn hbc hM hT h
    cases n with
    | zero => omega
    | succ n =>
      rw [w6_ringMany_b29, hM.1]
      rw [rgC] at h
      refine br_f (nI_ge (by omega) (by omega)) (m_winnerOf hM hI hT ht (by omega) (by omega) (fun M1 f1 => m_winnerOf (hM.fr f1) hI (hT.g f1.g) ht (by omega) (by omega) (fun M2 f2 => m_winnerOf ((hM.fr f1).fr f2) hI ((hT.g f1.g).g f2.g) ht (by omega) (by omega) (fun M3 f3 => ?_))))
      have f' := (f1.tr f2).tr f3
      have hY : rgP tv κ a b c → w6_ringMany_b29 K4 K Q n M3 (nI m + 1) (nI a) (nI b) (nI c + 1) := fun r => by
        rw [nI_1, nI_1]
        rw [if_pos r] at h
        exact ih (c + 1) n (m + 1) M3 (by omega) (by omega) (by omega) (hM.fr f') (hT.g f'.g) (fun M' f4 => h M' (f'.tr f4))
      have hN : ¬ rgP tv κ a b c → w6_ringMany_b29 K4 K Q n M3 (nI m + 0) (nI a) (nI b) (nI c + 1) := fun r => by
        rw [Int32.add_zero, nI_1]
        rw [if_neg r] at h
        exact ih (c + 1) n m M3 (by omega) (by omega) (by omega) (hM.fr f') (hT.g f'.g) (fun M' f4 => h M' (f'.tr f4))
      unfold rgP wnI at hY hN
      clear ih h hT hM f1 f2 f3 f'
      repeat' (first | apply And.intro | intro _)
      all_goals (subst_vars; first | exact hN (by rintro (⟨a1, a2, a3⟩ | ⟨a1, a2, a3⟩) <;> contradiction) | exact hY (Or.inl ⟨by assumption, by assumption, by assumption⟩) | exact hY (Or.inr ⟨by assumption, by assumption, by assumption⟩))
theorem m_rg_b {a : Nat} {K : S0 → Int32 → Int32 → Prop} {Q : Int32 → S0 → Prop} (hI : IC κ) (ht : cT κ < nT) : ∀ (f b n m : Nat) (M : S0), b + f = cN κ → f < n → a < b → RelM κ M → TM tv nT M → (∀ M' : S0, ScM M M' → K M' (nI (rgB tv κ a f b m)) (nI (a + 1))) → w6_ringMany_b16 K Q n M (nI m) (nI a) (nI b) := by
  have i1 := hI.1
  intro f
  induction f with
  | zero =>
    intro b n m M e hn hab hM hT h
    cases n with
    | zero => omega
    | succ n =>
      rw [w6_ringMany_b16, hM.1]
      refine br_t (nI_le (by omega) (by omega)) ?_
      rintro _ rfl
      rw [nI_1]
      exact h M ScM.rf
  | succ f ih =>
    intro b n m M e hn hab hM hT h
    cases n with
    | zero => omega
    | succ n =>
      rw [w6_ringMany_b16, hM.1]
      rw [rgB] at h
      refine br_f (nI_ge (by omega) (by omega)) ?_
      rintro _ rfl
      rw [nI_1]
      refine ⟨cN κ - (b + 1) + 1, m_rg_c hI ht hab (cN κ - (b + 1)) (b + 1) _ m M (by omega) (Nat.lt_succ_self _) (Nat.lt_succ_self _) hM hT (fun M1 f1 => ?_)⟩
      exact ih (b + 1) n _ M1 (by omega) (by omega) (by omega) (hM.fr f1) (hT.g f1.g) (fun M' f' => h M' (f1.tr f'))
theorem m_rg_a {Q : Int32 → S0 → Prop} (hI : IC κ) (ht : cT κ < nT) : ∀ (f a n m : Nat) (M : S0), a + f = cN κ → f < n → RelM κ M → TM tv nT M → (∀ M' : S0, ScM M M' → Q (nI (rgA tv κ f a m)) M') → w6_ringMany_b4 Q n M (nI m) (nI a) := by
  have i1 := hI.1
  intro f
  induction f with
  | zero =>
    intro a n m M e hn hM hT h
    cases n with
    | zero => omega
    | succ n =>
      rw [w6_ringMany_b4, hM.1]
      exact br_t (nI_le (by omega) (by omega)) (h M ScM.rf)
  | succ f ih =>
    intro a n m M e hn hM hT h
    cases n with
    | zero => omega
    | succ n =>
      rw [w6_ringMany_b4, hM.1]
      rw [rgA] at h
      refine br_f (nI_ge (by omega) (by omega)) ?_
      rintro _ rfl
      rw [nI_1]
      refine ⟨cN κ - (a + 1) + 1, m_rg_b hI ht (cN κ - (a + 1)) (a + 1) _ m M (by omega) (Nat.lt_succ_self _) (Nat.lt_succ_self _) hM hT (fun M1 f1 => ?_)⟩
      exact ih (a + 1) n _ M1 (by omega) (by omega) (hM.fr f1) (hT.g f1.g) (fun M' f' => h M' (f1.tr f'))
theorem op_robin (h : Rel tv nT κ g X M) (p1 : Int32) : w5_robin g X p1 (fun r X' => w6_robin M p1 (fun r' M' => Owes tv nT g r X' r' M')) := by
  have H := h
  obtain ⟨hX, hM, hI, hr, ht, hO⟩ := h
  have i1 := hI.1
  have h0 := hO.2.2.2.2.2.2.2.1
  unfold w5_robin
  refine x_within ?_
  rw [b01]
  by_cases c : ¬ p1 < 0 ∧ ¬ (8 : Int32) < p1
  · obtain ⟨w, hw, rfl⟩ := rng (k := 8) (by decide) c
    refine br_f (fun z => z c) ?_
    have e6 : (6 : Int32) ≤ nI w ↔ 6 ≤ w := nI_leI (a := 6) (by decide) (by omega)
    have e6' : nI w ≤ 6 ↔ w ≤ 6 := nI_leI (b := 6) (by omega) (by decide)
    have d6 : nI w = 6 ↔ w = 6 := nI_eq (b := 6) (by omega) (by decide)
    have d7 : nI w = 7 ↔ w = 7 := nI_eq (b := 7) (by omega) (by decide)
    have d8 : nI w = 8 ↔ w = 8 := nI_eq (b := 8) (by omega) (by decide)
    rw [e6, d7, d8, d6]
    by_cases c2 : w < 6
    · refine br_f (by omega) (x_isPlayer hX.1 i1 ?_)
      rw [b01]
      by_cases c3 : isP (cN κ) (nI w)
      · have hw2 : w < cN κ := (nI_ltI (by omega) (by omega)).mp c3.2
        refine s_t (fun z => z c3) (s_t (by omega) (s_t (by omega) (x_robinWithout hX hI hO.1 ht (fun X1 f1 R1 I1 N1 => ⟨fun e => (by cases e), fun k e => ?_⟩))))
        obtain rfl : 22 = k := Option.some.inj e
        refine s_t (by omega) ⟨cl_22, vpl _ _ (by omega) (by decide), ?_⟩
        rw [nI_clamp (n := w) (by omega), R1.2.2.2.2.1 w (by omega)]
        unfold w6_robin
        refine m_in32 (b := 0) (c := 8) ?_
        rw [b01]
        refine br_f (fun z => z c) ?_
        rw [e6, e6', d6]
        refine br_f (by omega) (m_isP1 hM.1 i1 c3 (s_t (by decide) (br_t (by omega) (m_thought (d := 0) (by decide) h0 hM (fun M1 t1 e1 R1 bk => m_robins R1 hI (hO.2.1.h1 t1) ht (fun M2 f2 R2 I2 N2 => s_t (by omega) (m_has R2 I2.1 (by rw [N2]; exact hw2) (bk M2 f2.q _ (fun M3 q3 => ⟨rfl, _, H.keep f1 q3⟩)))))))))
      · refine s_f c3 ?_
        unfold w6_robin
        refine m_in32 (b := 0) (c := 8) ?_
        rw [b01]
        refine br_f (fun z => z c) (br_f (fun z => by have := e6.mp z; omega) (m_isOne hM.1 i1 ?_))
        rw [b01]
        exact s_f c3 ⟨rfl, _, H⟩
    · refine br_t (by omega) ?_
      have mm : ∀ Q : Int32 → S0 → Prop, (w = 6 → w6_laysAside M (fun M3 => w6_robins M3 (-1 : Int32) (fun M4 => ∀ x8 : Int32, x8 = (M4 0 8) → (w6_laysBack M4 (fun M9 => Q x8 M9))))) → (w = 7 → w6_apart M Q) → (w = 8 → w6_ringMany M Q) → w6_robin M (nI w) Q := by
        intro Q q6 q7 q8
        unfold w6_robin
        refine m_in32 (b := 0) (c := 8) ?_
        rw [b01]
        refine br_f (fun z => z c) ?_
        rw [e6, e6', d6, d7]
        refine br_t (by omega) ⟨fun z => ?_, fun z => ⟨fun z2 => q8 (by omega), fun z2 => q7 z2⟩⟩
        have e : w = 6 := by omega
        have q6 := q6 e
        have e2 : ∀ A : S0 → Prop, ∀ B : S0 → Prop, (fun M4 => (¬ w = 6 → A M4) ∧ (w = 6 → B M4)) = B := fun A B => funext fun M4 => propext ⟨fun z => z.2 e, fun z => ⟨fun y => absurd e y, fun _ => z⟩⟩
        rw [e2]
        exact q6
      rcases (by omega : w = 6 ∨ w = 7 ∨ w = 8) with z | z | z
      · refine s_t (by omega) (s_t (by omega) (x_robinWithout hX hI hO.1 ht (fun X1 f1 R1 I1 N1 => ⟨fun e => (by cases e), fun k e => ?_⟩)))
        obtain rfl : 22 = k := Option.some.inj e
        refine s_f z ⟨cl_22, ?_⟩
        rw [R1.2.1]
        refine mm _ (fun _ => m_thought (d := 0) (by decide) h0 hM (fun M1 t1 e1 R1 bk => m_robins R1 hI (hO.2.1.h1 t1) ht (fun M2 f2 R2 I2 N2 => ?_))) (fun y => by omega) (fun y => by omega)
        rintro _ rfl
        rw [R2.2.1]
        exact bk M2 f2.q _ (fun M3 q3 => ⟨rfl, _, H.keep f1 q3⟩)
      · refine s_f z (x_keptApart hX hI hO.1 ht (fun X1 f1 => mm _ (fun y => by omega) (fun _ => m_apart h0 hM hI hO.2.1 ht (fun M1 q1 => ⟨rfl, _, H.keep f1 q1⟩)) (fun y => by omega)))
      · refine s_t (by omega) (s_f z ?_)
        unfold w5_rings
        refine ⟨cN κ + 1, x_rg_a hI ht (cN κ) 0 _ 0 X (Nat.zero_add _) (Nat.lt_succ_self _) hX hO.1 (fun X1 f1 => mm _ (fun y => by omega) (fun y => by omega) (fun _ => ?_))⟩
        unfold w6_ringMany
        exact ⟨cN κ + 1, m_rg_a hI ht (cN κ) 0 _ 0 M (Nat.zero_add _) (Nat.lt_succ_self _) hM hO.2.1 (fun M1 f2 => ⟨rfl, _, H.keep f1.t f2.q⟩)⟩
  · refine br_t c ?_
    unfold w6_robin
    refine m_in32 (b := 0) (c := 8) ?_
    rw [b01]
    exact br_t c ⟨rfl, _, H⟩
end RBN
