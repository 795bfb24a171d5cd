/-! drawn, chance -/
theorem u_nI (y : UInt32) : y.toInt32 = nI y.toNat := by
  apply Int32.toBitVec_inj.1
  show y.toBitVec = BitVec.ofNat 32 y.toBitVec.toNat
  simp
def m9 (z : Int32) : Nat := (Int32.toUInt32 z >>> (Int32.toUInt32 (9 : Int32) &&& Int32.toUInt32 31)).toNat
def m17 (z : Int32) : Nat := (Int32.toUInt32 z >>> (Int32.toUInt32 (17 : Int32) &&& Int32.toUInt32 31)).toNat
theorem e9 (z : Int32) : (Int32.toUInt32 z >>> (Int32.toUInt32 (9 : Int32) &&& Int32.toUInt32 31)).toInt32 = nI (m9 z) := u_nI _
theorem e17 (z : Int32) : (Int32.toUInt32 z >>> (Int32.toUInt32 (17 : Int32) &&& Int32.toUInt32 31)).toInt32 = nI (m17 z) := u_nI _
theorem m9_lt (z : Int32) : m9 z < 2 ^ 31 := by
  unfold m9
  rw [UInt32.toNat_shiftRight, show (Int32.toUInt32 (9 : Int32) &&& Int32.toUInt32 31).toNat % 32 = 9 by decide, Nat.shiftRight_eq_div_pow]
  have := (Int32.toUInt32 z).toNat_lt
  omega
theorem m17_lt (z : Int32) : m17 z < 2 ^ 31 := by
  unfold m17
  rw [UInt32.toNat_shiftRight, show (Int32.toUInt32 (17 : Int32) &&& Int32.toUInt32 31).toNat % 32 = 17 by decide, Nat.shiftRight_eq_div_pow]
  have := (Int32.toUInt32 z).toNat_lt
  omega
def hA (n : Nat) (z : Int32) : Nat := m9 z % n
def hB (n : Nat) (z : Int32) : Nat := (m9 z % n + (1 + m17 z % (n - 1))) % n
theorem hA_lt {n : Nat} (h : 2 ≤ n) (z : Int32) : hA n z < n := Nat.mod_lt _ (by omega)
theorem hB_lt {n : Nat} (h : 2 ≤ n) (z : Int32) : hB n z < n := Nat.mod_lt _ (by omega)
theorem hAB {n : Nat} (h : 2 ≤ n) (z : Int32) : hA n z ≠ hB n z := by
  unfold hA hB
  have h1 : m9 z % n < n := Nat.mod_lt _ (by omega)
  have h2 : m17 z % (n - 1) < n - 1 := Nat.mod_lt _ (by omega)
  generalize m9 z % n = a at h1 ⊢
  generalize m17 z % (n - 1) = t at h2
  by_cases c : a + (1 + t) < n
  · rw [Nat.mod_eq_of_lt c]; omega
  · rw [Nat.mod_eq_sub_mod (by omega), Nat.mod_eq_of_lt (by omega)]; omega
def hdF (tv : TV) : Nat → Int32 → CS → CS
  | 0, _, κ => κ
  | f + 1, z, κ => if cN κ ≤ 1 then κ else hdF tv f (z * 1103515245 + 12345) (meetS tv κ (hA (cN κ) (z * 1103515245 + 12345)) (hB (cN κ) (z * 1103515245 + 12345)))
theorem hd_inv (tv : TV) : ∀ (f : Nat) (z : Int32) (κ : CS), IC κ → IC (hdF tv f z κ) ∧ cN (hdF tv f z κ) = cN κ := by
  intro f
  induction f with
  | zero => intro z κ h; exact ⟨h, rfl⟩
  | succ f ih =>
    intro z κ h
    rw [hdF]
    by_cases c : cN κ ≤ 1
    · rw [if_pos c]; exact ⟨h, rfl⟩
    · rw [if_neg c]
      obtain ⟨a, b⟩ := ih (z * 1103515245 + 12345) _ (ic_meet (tv := tv) h (hA_lt (by omega) (z * 1103515245 + 12345)) (hB_lt (by omega) (z * 1103515245 + 12345)) (hAB (by omega) _))
      exact ⟨a, b.trans meet_N⟩
/-- above the line and below it, by what divides both -/
def lowF (a m : Nat) : Nat → Nat
  | 0 => 0
  | f + 1 => if a % (f + 1) = 0 ∧ m % (f + 1) = 0 then f + 1 else lowF a m f
theorem low_gcd : ∀ m, m < 21 → ∀ a, a < 21 → (0 < m → lowF a m m = Nat.gcd m a) := by decide +kernel
def lI (n : Nat) : Int64 := Int64.ofNat n
theorem lI_toInt {n : Nat} (h : n < 2 ^ 31) : (lI n).toInt = n := Int64.toInt_ofNat_of_lt (by omega)
theorem lI_add (a b : Nat) : lI a + lI b = lI (a + b) := (Int64.ofNat_add a b).symm
theorem lI_mul (a b : Nat) : lI a * lI b = lI (a * b) := (Int64.ofNat_mul a b).symm
theorem lI_sub {a b : Nat} (h : b ≤ a) : lI a - lI b = lI (a - b) := by
  have e : lI a = lI (a - b) + lI b := by rw [lI_add]; congr 1; omega
  rw [e]; exact Int64.add_sub_cancel _ _
theorem lI_div {a b : Nat} (ha : a < 2 ^ 31) (hb : b < 2 ^ 31) : lI a / lI b = lI (a / b) := by
  have hd := Nat.div_le_self a b
  apply Int64.toInt_inj.mp
  rw [Int64.toInt_div, lI_toInt ha, lI_toInt hb, lI_toInt (Nat.lt_of_le_of_lt hd ha), ← Int.ofNat_tdiv]
  generalize a / b = q at hd ⊢
  exact Int.bmod_eq_of_le (by omega) (by omega)
theorem lI_mod {a b : Nat} (ha : a < 2 ^ 31) (hb : b < 2 ^ 31) : lI a - lI a / lI b * lI b = lI (a % b) := by
  rw [lI_div ha hb, lI_mul, lI_sub (Nat.div_mul_le_self a b)]
  congr 1
  have := Nat.div_add_mod a b
  rw [Nat.mul_comm (a / b) b]
  omega
theorem lI_eq {a b : Nat} (ha : a < 2 ^ 31) (hb : b < 2 ^ 31) : lI a = lI b ↔ a = b := by
  refine ⟨fun h => ?_, fun h => by rw [h]⟩
  have := congrArg Int64.toInt h
  rw [lI_toInt ha, lI_toInt hb] at this
  omega
theorem lI_of {n : Nat} (h : n < 2 ^ 31) : Int32.toInt64 (nI n) = lI n := by
  apply Int64.toInt_inj.mp
  rw [Int32.toInt_toInt64, nI_toInt h, lI_toInt h]
theorem nI_m1 (n : Nat) : nI (n + 1) + (-1 : Int32) = nI n := by
  have e : nI (n + 1) + (-1 : Int32) = nI (n + 1) - 1 := by rw [Int32.sub_eq_add_neg]
  rw [e, nI_pred]
def chF (tv : TV) (κ : CS) (i : Nat) (sd p4 : Int32) : Nat → Nat → Nat → Nat
  | 0, _, c => c
  | f + 1, k, c => chF tv κ i sd p4 f (k + 1) (if nI (pc8 (cH (hdF tv 6 (sd + nI k) κ) i)) < p4 then c else c + 1)
theorem ch_le (tv : TV) (κ : CS) (i : Nat) (sd p4 : Int32) : ∀ (f k c : Nat), chF tv κ i sd p4 f k c ≤ c + f := by
  intro f
  induction f with
  | zero => intro k c; exact Nat.le_refl _
  | succ f ih =>
    intro k c
    rw [chF]
    have a := ih (k + 1) (if nI (pc8 (cH (hdF tv 6 (sd + nI k) κ) i)) < p4 then c else c + 1)
    refine Nat.le_trans a ?_
    split <;> omega
section DRW
variable {tv : TV} {nT : Nat} {κ : CS} {g : GX} {X M : S0}
theorem x_hd_b {i n : Nat} {Q : Int32 → S0 → Prop} (hn60 : n ≤ 60) : ∀ (f k m : Nat) (z : Int32) (X : S0) (κ : CS), k + f = n → f < m → i < cN κ → RelX 22 κ X → IC κ → TX tv nT g X → cT κ < nT → (∀ X' : S0, FT X X' → Q (nI (cH (hdF tv f z κ) i)) X') → w5_hasBehindDrawn_b30 g Q m X (nI i) (nI n) 22 (nI (cN κ)) z (nI k) := by
  intro f
  induction f with
  | zero =>
    intro k m z X κ e hm hi hX hI hT ht h
    have i1 := hI.1
    cases m with
    | zero => omega
    | succ m =>
      rw [w5_hasBehindDrawn_b30, nI_clamp (n := i) (by omega), hX.2.2.2.2.1 i (by omega)]
      exact br_t (nI_le (by omega) (by omega)) ⟨vpl _ _ (by omega) (by decide), h X FT.rf⟩
  | succ f ih =>
    intro k m z X κ e hm hi hX hI hT ht h
    have i1 := hI.1
    cases m with
    | zero => omega
    | succ m =>
      rw [w5_hasBehindDrawn_b30, nI_clamp (n := i) (by omega), hX.2.2.2.2.1 i (by omega)]
      rw [hdF] at h
      have e1 : nI (cN κ) ≤ 1 ↔ cN κ ≤ 1 := nI_leI (b := 1) (by omega) (by decide)
      rw [e1]
      refine br_f (nI_ge (by omega) (by omega)) ⟨fun c => ⟨vpl _ _ (by omega) (by decide), ?_⟩, fun c => ?_⟩
      · rw [if_pos c] at h
        exact h X FT.rf
      · rw [if_neg c] at h
        have en : nI (cN κ) - 1 = nI (cN κ - 1) := nI_sub (b := 1) (by omega)
        rintro _ rfl
        rw [e9, e17, en, nI_mod (m9_lt _) (by omega), nI_mod (m17_lt _) (by omega)]
        refine ⟨nI_ne0 (by omega) (by omega), ?_⟩
        rintro _ rfl
        refine ⟨nI_ne0 (by omega) (by omega), ?_⟩
        rintro _ rfl
        have l1 := hA_lt (n := cN κ) (by omega) (z * 1103515245 + 12345)
        have l2 : m17 (z * 1103515245 + 12345) % (cN κ - 1) < cN κ - 1 := Nat.mod_lt _ (by omega)
        have l1' : m9 (z * 1103515245 + 12345) % cN κ < cN κ := l1
        have e2 : (1 : Int32) + nI (m17 (z * 1103515245 + 12345) % (cN κ - 1)) = nI (1 + m17 (z * 1103515245 + 12345) % (cN κ - 1)) := nI_add 1 _
        rw [e2, nI_add, nI_mod (by omega) (by omega)]
        refine ⟨nI_ne0 (by omega) (by omega), x_meet (by decide) (by decide) hX hI hT ht l1 (hB_lt (by omega) _) (hAB (by omega) _) (fun X1 f1 R1 => ?_)⟩
        rintro _ rfl
        rw [nI_1, ← meet_N (tv := tv) (κ := κ) (p := hA (cN κ) (z * 1103515245 + 12345)) (q := hB (cN κ) (z * 1103515245 + 12345))]
        exact ih (k + 1) m _ X1 _ (by omega) (by omega) (by rw [meet_N]; exact hi) R1 (ic_meet hI l1 (hB_lt (by omega) _) (hAB (by omega) _)) (hT.xb f1 (by decide) (by decide)) (by rw [meet_T]; exact ht) (fun X' f' => h X' ((f1.t (by decide) (by decide)).tr f'))
theorem x_hd {i n : Nat} {z : Int32} {Q : Int32 → S0 → Prop} (hn60 : n ≤ 60) (hi : i < cN κ) (hX : RelX 10 κ X) (hI : IC κ) (hT : TX tv nT g X) (ht : cT κ < nT) (h : ∀ X' : S0, FT X X' → Q (nI (cH (hdF tv n z κ) i)) X') : w5_hasBehindDrawn g X z (nI i) (nI n) Q := by
  unfold w5_hasBehindDrawn
  refine x_think hX hI.1 (fun X1 f1 R1 => ⟨fun e => (by cases e), fun k e => ?_⟩)
  obtain rfl : 22 = k := Option.some.inj e
  refine ⟨cl_22, x_isP1 R1.1 hI.1 (isP_nI hi (by have := hI.1; omega)) (s_t (by decide) ?_)⟩
  rintro _ rfl
  rw [R1.1]
  exact ⟨n + 1, x_hd_b hn60 n 0 _ z X1 κ (Nat.zero_add _) (Nat.lt_succ_self _) hi R1 hI (hT.t f1) ht (fun X' f' => h X' (f1.tr f'))⟩
theorem m_hd_b {i n : Nat} {Q : Int32 → S0 → Prop} {M0 : S0} (hn60 : n ≤ 60) : ∀ (f k m : Nat) (z : Int32) (M : S0) (κ : CS), k + f = n → f < m → i < cN κ → RelM κ M → IC κ → TM tv nT M → cT κ < nT → (∀ M' : S0, GQ 1 M M' → ∀ Q' : S0 → Prop, (∀ M3 : S0, QM 0 M0 M3 → Q' M3) → w6_laysBack M' Q') → (∀ M' : S0, QM 0 M0 M' → Q (nI (cH (hdF tv f z κ) i)) M') → w6_hasDrawn_b10 Q m M (nI i) (nI n) z (nI k) := by
  intro f
  induction f with
  | zero =>
    intro k m z M κ e hm hi hM hI hT ht hb h
    have i1 := hI.1
    cases m with
    | zero => omega
    | succ m =>
      rw [w6_hasDrawn_b10]
      exact br_t (nI_le (by omega) (by omega)) (m_has hM i1 hi (hb M GQ.rf _ h))
  | succ f ih =>
    intro k m z M κ e hm hi hM hI hT ht hb h
    have i1 := hI.1
    cases m with
    | zero => omega
    | succ m =>
      rw [w6_hasDrawn_b10, hM.1]
      rw [hdF] at h
      have e1 : nI (cN κ) ≤ 1 ↔ cN κ ≤ 1 := nI_leI (b := 1) (by omega) (by decide)
      rw [e1]
      refine br_f (nI_ge (by omega) (by omega)) ⟨fun c => m_has hM i1 hi ?_, fun c => ?_⟩
      · rw [if_pos c] at h
        exact hb M GQ.rf _ h
      · rw [if_neg c] at h
        have en : nI (cN κ) - 1 = nI (cN κ - 1) := nI_sub (b := 1) (by omega)
        rintro _ rfl
        rw [e9, e17, en, nI_mod (m9_lt _) (by omega), nI_mod (m17_lt _) (by omega)]
        refine ⟨nI_ne0 (by omega) (by omega), ?_⟩
        rintro _ rfl
        refine ⟨nI_ne0 (by omega) (by omega), nI_ne0 (by omega) (by omega), ?_⟩
        rintro _ rfl
        have l1 := hA_lt (n := cN κ) (by omega) (z * 1103515245 + 12345)
        have l2 : m17 (z * 1103515245 + 12345) % (cN κ - 1) < cN κ - 1 := Nat.mod_lt _ (by omega)
        have l1' : m9 (z * 1103515245 + 12345) % cN κ < cN κ := l1
        rw [nI_1, nI_add, nI_mod (by omega) (by omega), show m9 (z * 1103515245 + 12345) % cN κ + 1 + m17 (z * 1103515245 + 12345) % (cN κ - 1) = m9 (z * 1103515245 + 12345) % cN κ + (1 + m17 (z * 1103515245 + 12345) % (cN κ - 1)) by omega]
        refine m_games hM hI hT ht l1 (hB_lt (by omega) _) (hAB (by omega) _) (fun M1 f1 R1 => ?_)
        rintro _ rfl
        rw [nI_1]
        exact ih (k + 1) m _ M1 _ (by omega) (by omega) (by rw [meet_N]; exact hi) R1 (ic_meet hI l1 (hB_lt (by omega) _) (hAB (by omega) _)) (hT.g f1) (by rw [meet_T]; exact ht) (fun M' f' => hb M' (f1.q.tr f')) h
theorem m_hd {i n : Nat} {z : Int32} {Q : Int32 → S0 → Prop} (hn60 : n ≤ 60) (hi : i < cN κ) (h0 : M 0 28 = nI 0) (hM : RelM κ M) (hI : IC κ) (hT : TM tv nT M) (ht : cT κ < nT) (h : ∀ M' : S0, QM 0 M M' → Q (nI (cH (hdF tv n z κ) i)) M') : w6_hasDrawn M z (nI i) (nI n) Q := by
  unfold w6_hasDrawn
  refine m_thought (d := 0) (by decide) h0 hM (fun M1 t1 e1 R1 bk => ⟨n + 1, ?_⟩)
  exact m_hd_b hn60 n 0 _ z M1 κ (Nat.zero_add _) (Nat.lt_succ_self _) hi R1 hI (hT.h1 t1) ht bk h
theorem op_drawn (h : Rel tv nT κ g X M) (p1 p2 p3 : Int32) : w5_drawn g X p1 p2 p3 (fun r X' => w6_drawn M p1 p2 p3 (fun r' M' => Owes tv nT g r X' r' M')) := by
  have H := h
  obtain ⟨hX, hM, hI, hr, ht, hO⟩ := h
  have i1 := hI.1
  unfold w5_drawn w6_drawn
  refine x_isPlayer hX.1 i1 ?_
  rw [b01]
  by_cases c : isP (cN κ) p2
  · obtain ⟨i, hi, rfl⟩ := isP_of c (by omega)
    refine br_f (fun z => z c) (x_within ?_)
    rw [b01]
    by_cases c2 : ¬ p3 < 0 ∧ ¬ (60 : Int32) < p3
    · obtain ⟨n, hn, rfl⟩ := rng (k := 60) (by decide) c2
      refine s_t (fun z => z c2) (x_hd hn hi hX hI hO.1 ht (fun X1 f1 => ?_))
      refine m_isOne hM.1 i1 ?_
      rw [b01]
      refine br_f (fun z => z c) (m_in32 (b := 0) (c := 60) ?_)
      rw [b01]
      exact br_f (fun z => z c2) (m_hd hn hi hO.2.2.2.2.2.2.2.1 hM hI hO.2.1 ht (fun M1 q1 => ⟨rfl, _, H.keep f1 q1⟩))
    · refine s_f c2 (m_isOne hM.1 i1 ?_)
      rw [b01]
      refine br_f (fun z => z c) (m_in32 (b := 0) (c := 60) ?_)
      rw [b01]
      exact br_t c2 ⟨rfl, _, H⟩
  · refine br_t c (m_isOne hM.1 i1 ?_)
    rw [b01]
    exact br_t c ⟨rfl, _, H⟩
/-- what a call owes whose answer is a long -/
def OwesL (tv : TV) (nT : Nat) (g : GX) (r : Int64) (X' : S0) (r' : Int64) (M' : S0) : Prop := r = r' ∧ ∃ κ', Rel tv nT κ' g X' M'
theorem x_low {p a m : Nat} {Q : Int32 → S0 → Prop} (hm : m < 21) (ha : a < 21) (h : Q (if p = 0 then nI (a / lowF a m m) else nI (m / lowF a m m)) X) (hp : p < 2 ^ 31) (hg : ∃ G, 0 < G ∧ G ≤ m ∧ lowF a m m = G) : w5_partOfLowest g X (nI p) (nI a) (nI m) Q := by
  unfold w5_partOfLowest
  obtain ⟨G, g0, gm, eg⟩ := hg
  rw [eg] at h
  have k : ∀ (f n : Nat), f ≤ m → f < n → lowF a m f = G → w5_partOfLowest_b2 g Q n X (nI p) (nI a) (nI m) (nI f) := by
    intro f
    induction f with
    | zero => intro n _ _ z; rw [lowF] at z; omega
    | succ f ih =>
      intro n hf hn z
      cases n with
      | zero => omega
      | succ n =>
        rw [w5_partOfLowest_b2, nI_mod (by omega) (by omega), nI_mod (by omega) (by omega)]
        have e3 : nI (a % (f + 1)) = 0 ↔ a % (f + 1) = 0 := nIz (by have := Nat.mod_lt a (show 0 < f + 1 by omega); omega)
        have e4 : nI (m % (f + 1)) = 0 ↔ m % (f + 1) = 0 := nIz (by have := Nat.mod_lt m (show 0 < f + 1 by omega); omega)
        have e5 : nI p = 0 ↔ p = 0 := nIz hp
        rw [e3, e4, e5]
        rw [lowF] at z
        have e0 : ¬ nI (f + 1) ≤ 0 := fun z => by
          have := (nI_leI (a := f + 1) (b := 0) (by omega) (by decide)).mp z
          omega
        have e1 : ¬ nI (f + 1) = 0 := nI_ne0 (by omega) (by omega)
        refine br_f e0 ⟨e1, fun c => ?_, fun c => ⟨e1, fun c2 => ?_, fun c2 => ?_⟩⟩
        · rintro _ rfl
          rw [nI_m1]
          rw [if_neg (fun y => c y.1)] at z
          exact ih n (by omega) (by omega) z
        · rintro _ rfl
          rw [nI_m1]
          rw [if_neg (fun y => c2 y.2)] at z
          exact ih n (by omega) (by omega) z
        · rw [if_pos ⟨c, c2⟩] at z
          rw [nI_div (by omega) (by omega), nI_div (by omega) (by omega), z]
          refine ⟨fun c3 => ⟨nI_ne0 (by omega) (by omega), ?_⟩, fun c3 => ⟨nI_ne0 (by omega) (by omega), ?_⟩⟩
          · rw [if_neg c3] at h; exact h
          · rw [if_pos c3] at h; exact h
  exact ⟨m + 1, k m _ (Nat.le_refl _) (Nat.lt_succ_self _) eg⟩
theorem m_gcd {p a m : Nat} {Q : Int64 → S0 → Prop} (hm : m < 21) (ha : a < 21) (hp : p < 2 ^ 31) {G : Nat} (hG : 0 < G) (hG2 : G ≤ 21) (h : Q (if p = 0 then lI (a / G) else lI (m / G)) M) : ∀ (q x n : Nat), q < 21 → x < 21 → q < n → Nat.gcd q x = G → w6_chance_b103 Q n M (nI m) (nI p) (lI a) (lI x) (lI q) := by
  intro q
  induction q using Nat.strongRecOn with
  | _ q ih =>
    intro x n hq hx hn e
    cases n with
    | zero => omega
    | succ n =>
      have ez : lg_cmp (lI q) 0 = 0 ↔ q = 0 := by
        rw [lg_eq]; exact lI_eq (b := 0) (by omega) (by decide)
      rw [w6_chance_b103, ez, nIz hp, lI_of (by omega)]
      refine ⟨fun c => ?_, fun c => ?_⟩
      · subst c
        rw [Nat.gcd_zero_left] at e
        subst e
        have nz : ¬ lI x = 0 := fun z => by
          have := (lI_eq (b := 0) (by omega) (by decide)).mp z
          omega
        rw [lI_div (by omega) (by omega), lI_div (by omega) (by omega)]
        refine ⟨fun c3 => ⟨nz, ?_⟩, fun c3 => ⟨nz, ?_⟩⟩
        · rw [if_neg c3] at h; exact h
        · rw [if_pos c3] at h; exact h
      · have nz : ¬ lI q = 0 := fun z => c ((lI_eq (b := 0) (by omega) (by decide)).mp z)
        refine ⟨nz, ?_⟩
        rintro _ rfl
        rw [lI_mod (by omega) (by omega)]
        have lt := Nat.mod_lt x (show 0 < q by omega)
        exact ih (x % q) lt q n (by omega) (by omega) (by omega) (by rw [← e]; exact (Nat.gcd_rec q x).symm)
theorem x_ch_b {i m p : Nat} {sd p4 : Int32} {Q : Int64 → S0 → Prop} (hI : IC κ) (ht : cT κ < nT) (hi : i < cN κ) (hm : m < 21) (hm0 : 0 < m) (hp : p < 2 ^ 31) : ∀ (f k n c : Nat) (X : S0), k + f = m → f < n → c ≤ k → RelX 10 κ X → TX tv nT g X → (∀ X' : S0, FT X X' → Q (if p = 0 then lI (chF tv κ i sd p4 f k c / Nat.gcd m (chF tv κ i sd p4 f k c)) else lI (m / Nat.gcd m (chF tv κ i sd p4 f k c))) X') → w5_chance_b56 g Q n X sd (nI m) (nI i) p4 (nI p) (nI c) (nI k) := by
  have i1 := hI.1
  intro f
  induction f with
  | zero =>
    intro k n c X e hn hc hX hT h
    cases n with
    | zero => omega
    | succ n =>
      rw [w5_chance_b56]
      have h := h X FT.rf
      rw [chF] at h
      have lg := low_gcd m hm c (by omega) hm0
      have g0 := Nat.gcd_pos_of_pos_left c hm0
      have gm := Nat.gcd_le_left c hm0
      have d1 := Nat.div_le_self c (Nat.gcd m c)
      have d2 := Nat.div_le_self m (Nat.gcd m c)
      refine br_t (nI_le (by omega) (by omega)) (x_low hm (by omega) ?_ hp ⟨_, g0, gm, lg⟩)
      rw [lg]
      by_cases c0 : p = 0
      · rw [if_pos c0] at h ⊢
        rw [lI_of (by omega)]; exact h
      · rw [if_neg c0] at h ⊢
        rw [lI_of (by omega)]; exact h
  | succ f ih =>
    intro k n c X e hn hc hX hT h
    cases n with
    | zero => omega
    | succ n =>
      rw [w5_chance_b56]
      rw [chF] at h
      refine br_f (nI_ge (by omega) (by omega)) (x_hd (n := 6) (by decide) hi hX hI hT ht (fun X1 f1 => x_bc ?_))
      rw [bcF_pc _ ((hd_inv tv 6 _ κ hI).1.2.1 i)]
      refine ⟨fun c2 => ?_, fun c2 => ?_⟩
      · rintro _ rfl
        rw [nI_1]
        rw [if_pos c2] at h
        exact ih (k + 1) n c X1 (by omega) (by omega) (by omega) (hX.t f1 (by decide) (by decide)) (hT.t f1) (fun X' f' => h X' (f1.tr f'))
      · rintro _ rfl _ rfl
        rw [nI_1, nI_1]
        rw [if_neg c2] at h
        exact ih (k + 1) n (c + 1) X1 (by omega) (by omega) (by omega) (hX.t f1 (by decide) (by decide)) (hT.t f1) (fun X' f' => h X' (f1.tr f'))
theorem m_ch_b {i m p : Nat} {sd p4 : Int32} {Q : Int64 → S0 → Prop} (hI : IC κ) (ht : cT κ < nT) (hi : i < cN κ) (hm : m < 21) (hm0 : 0 < m) (hp : p < 2 ^ 31) : ∀ (f k n c : Nat) (M : S0), k + f = m → f < n → c ≤ k → M 0 28 = nI 0 → RelM κ M → TM tv nT M → (∀ M' : S0, QM 0 M M' → Q (if p = 0 then lI (chF tv κ i sd p4 f k c / Nat.gcd m (chF tv κ i sd p4 f k c)) else lI (m / Nat.gcd m (chF tv κ i sd p4 f k c))) M') → w6_chance_b54 Q n M sd (nI m) (nI i) p4 (nI p) (lI c) (nI k) := by
  have i1 := hI.1
  intro f
  induction f with
  | zero =>
    intro k n c M e hn hc h0 hM hT h
    cases n with
    | zero => omega
    | succ n =>
      rw [w6_chance_b54]
      have h := h M QM.rf
      rw [chF] at h
      have g0 := Nat.gcd_pos_of_pos_left c hm0
      have gm := Nat.gcd_le_left c hm0
      refine br_t (nI_le (by omega) (by omega)) ?_
      rintro _ rfl
      rw [lI_of (by omega)]
      exact ⟨22, m_gcd hm (by omega) hp g0 (by omega) h m c 22 (by omega) (by omega) (by omega) rfl⟩
  | succ f ih =>
    intro k n c M e hn hc h0 hM hT h
    cases n with
    | zero => omega
    | succ n =>
      rw [w6_chance_b54]
      rw [chF] at h
      refine br_f (nI_ge (by omega) (by omega)) (m_hd (n := 6) (by decide) hi h0 hM hI hT ht (fun M1 f1 => m_bitsOf ((hd_inv tv 6 _ κ hI).1.2.1 i) ⟨fun c2 => ?_, fun c2 => ?_⟩))
      · rintro _ rfl _ rfl
        rw [nI_1, Int64.add_zero]
        rw [if_pos c2] at h
        exact ih (k + 1) n c M1 (by omega) (by omega) (by omega) (f1.z h0) (hM.q i1 f1) (hT.q f1.g) (fun M' f' => h M' (f1.tr f'))
      · rintro _ rfl _ rfl
        have e1 : lI c + 1 = lI (c + 1) := lI_add c 1
        rw [nI_1, e1]
        rw [if_neg c2] at h
        exact ih (k + 1) n (c + 1) M1 (by omega) (by omega) (by omega) (f1.z h0) (hM.q i1 f1) (hT.q f1.g) (fun M' f' => h M' (f1.tr f'))
theorem op_chance (h : Rel tv nT κ g X M) (p1 p2 p3 p4 p5 : Int32) : w5_chance g X p1 p2 p3 p4 p5 (fun r X' => w6_chance M p1 p2 p3 p4 p5 (fun r' M' => OwesL tv nT g r X' r' M')) := by
  have H := h
  obtain ⟨hX, hM, hI, hr, ht, hO⟩ := h
  have i1 := hI.1
  unfold w5_chance
  have no : ∀ (X1 : S0), X1 = X → (¬ (¬ p2 < 1 ∧ ¬ (20 : Int32) < p2) ∨ ¬ isP (cN κ) p3 ∨ ¬ (¬ p4 < 0 ∧ ¬ (8 : Int32) < p4) ∨ ¬ (¬ p5 < 0 ∧ ¬ (1 : Int32) < p5)) → w6_chance M p1 p2 p3 p4 p5 (fun r' M' => OwesL tv nT g (-4611686018427387904 : Int64) X1 r' M') := by
    intro X1 eX hor
    subst eX
    unfold w6_chance
    refine m_in32 (b := 1) (c := 20) ?_
    rw [b01]
    refine ⟨fun _ => ⟨rfl, _, H⟩, fun c1 => m_isOne hM.1 i1 ?_⟩
    rw [b01]
    refine ⟨fun _ => ⟨rfl, _, H⟩, fun c2 => m_in32 (b := 0) (c := 8) ?_⟩
    rw [b01]
    refine ⟨fun _ => ⟨rfl, _, H⟩, fun c3 => m_in32 (b := 0) (c := 1) ?_⟩
    rw [b01]
    refine ⟨fun c4 => ?_, fun _ => ⟨rfl, _, H⟩⟩
    rcases hor with z | z | z | z
    · exact absurd z c1
    · exact absurd z c2
    · exact absurd z c3
    · exact absurd z c4
  refine x_within ?_
  rw [b01]
  refine ⟨fun c1 => no X rfl (Or.inl c1), fun c1 => x_isPlayer hX.1 i1 ?_⟩
  rw [b01]
  refine ⟨fun c2 => x_within ?_, fun c2 => no X rfl (Or.inr (Or.inl c2))⟩
  rw [b01]
  refine ⟨fun c3 => no X rfl (Or.inr (Or.inr (Or.inl c3))), fun c3 => x_within ?_⟩
  rw [b01]
  refine ⟨fun c4 => ?_, fun c4 => no X rfl (Or.inr (Or.inr (Or.inr c4)))⟩
  have c1 := Classical.not_not.mp c1
  have c2 := Classical.not_not.mp c2
  have c3 := Classical.not_not.mp c3
  have c4 := Classical.not_not.mp c4
  obtain ⟨i, hi, rfl⟩ := isP_of c2 (by omega)
  obtain ⟨p, hp, rfl⟩ := rng (k := 1) (by decide) c4
  have c1' : ∃ m, 0 < m ∧ m < 21 ∧ p2 = nI m := by
    have a1 : ¬ p2 < 0 := fun z => c1.1 (Int32.lt_trans z (by decide))
    obtain ⟨m, hm, rfl⟩ := rng (k := 20) (by decide) ⟨a1, c1.2⟩
    refine ⟨m, ?_, by omega, rfl⟩
    rcases Nat.eq_zero_or_pos m with z | z
    · subst z; exact absurd (by decide) c1.1
    · exact z
  obtain ⟨m, hm0, hm, rfl⟩ := c1'
  refine ⟨m + 1, x_ch_b hI ht hi hm hm0 (by omega) m 0 _ 0 X (Nat.zero_add _) (Nat.lt_succ_self _) (Nat.le_refl _) hX hO.1 (fun X1 f1 => ?_)⟩
  unfold w6_chance
  refine m_in32 (b := 1) (c := 20) ?_
  rw [b01]
  refine br_f (fun z => z c1) (m_isOne hM.1 i1 ?_)
  rw [b01]
  refine br_f (fun z => z c2) (m_in32 (b := 0) (c := 8) ?_)
  rw [b01]
  refine br_f (fun z => z c3) (m_in32 (b := 0) (c := 1) ?_)
  rw [b01]
  refine s_t (fun z => z c4) ?_
  rintro _ rfl
  exact ⟨m + 1, m_ch_b hI ht hi hm hm0 (by omega) m 0 _ 0 M (Nat.zero_add _) (Nat.lt_succ_self _) (Nat.le_refl _) hO.2.2.2.2.2.2.2.1 hM hO.2.1 (fun M1 q1 => ⟨rfl, _, H.keep f1 q1⟩)⟩
end DRW
