/-! evening, play -/
abbrev tgOk (κ : CS) (v : Int32) : Prop := isP (cN κ) (v / 10) ∧ isP (cN κ) (v - v / 10 * 10) ∧ ¬ v / 10 = v - v / 10 * 10
theorem tg_ex {κ : CS} {v : Int32} (i1 : cN κ ≤ 6) (h : tgOk κ v) : ∃ i j, i < cN κ ∧ j < cN κ ∧ i ≠ j ∧ v / 10 = nI i ∧ v - v / 10 * 10 = nI j ∧ v = nI (10 * i + j) := by
  obtain ⟨i, j, hi, hj, hne, e1, e2⟩ := or_lt2 i1 h
  refine ⟨i, j, hi, hj, hne, e1, e2, ?_⟩
  have e : v = v / 10 * 10 + (v - v / 10 * 10) := by
    rw [Int32.add_comm]; exact (Int32.sub_add_cancel v _).symm
  rw [e, e2, e1]
  have em : nI i * 10 = nI (i * 10) := nI_mul i 10
  rw [em, nI_add, Nat.mul_comm i 10]
theorem tg_in {κ : CS} {v : Int32} (i1 : cN κ ≤ 6) (h : tgOk κ v) : ¬ v < 0 ∧ ¬ (55 : Int32) < v := by
  obtain ⟨i, j, hi, hj, _, _, _, rfl⟩ := tg_ex i1 h
  exact rng2 (k := 55) (by omega) (by decide)
def plF (tv : TV) (it : Nat → Int32) : Nat → Nat → Nat → CS → Nat × CS
  | 0, _, d, κ => (d, κ)
  | f + 1, k, d, κ => plF tv it f (k + 1) (if whoS tv κ (it k / 10).toNatClampNeg (it k - it k / 10 * 10).toNatClampNeg = 2 then d + 1 else d) (meetS tv κ (it k / 10).toNatClampNeg (it k - it k / 10 * 10).toNatClampNeg)
/-- who has most -/
def rcF (h : Nat → Nat) : Nat → Nat → Option Nat → Option Nat
  | 0, _, o => o
  | f + 1, p, none => rcF h f (p + 1) (if h p = 0 then none else some p)
  | f + 1, p, some w => rcF h f (p + 1) (if pc8 (h p) ≤ pc8 (h w) then some w else some p)
theorem who_n {w p q : Nat} (hp : p < 2 ^ 31) (hq : q < 2 ^ 31) : whoI w p q = -1 ↔ w = 2 := by
  unfold whoI
  by_cases c : w = 2
  · rw [if_pos c]; exact ⟨fun _ => c, fun _ => rfl⟩
  · rw [if_neg c]
    refine ⟨fun z => ?_, fun z => absurd z c⟩
    by_cases c1 : w = 1
    · rw [if_pos c1] at z; exact absurd z (nI_nm1 hq)
    · rw [if_neg c1] at z; exact absurd z (nI_nm1 hp)
section EVE
variable {tv : TV} {nT : Nat} {κ : CS} {g : GX} {X M : S0}
theorem x_tells_b {s N : Nat} {it : Nat → Int32} {Q : Int32 → S0 → Prop} (hX : RelX 10 κ X) (i1 : cN κ ≤ 6) (hN : N ≤ 40) (h2 : X s 2 = nI N) (hit : ∀ j, j < N → X (s + 1) j = it j) : ∀ (f k n : Nat), k + f = N → f < n → ((∀ j, k ≤ j → j < N → tgOk κ (it j)) → Q 1 X) → ((∃ j, j < N ∧ ¬ tgOk κ (it j)) → Q 0 X) → w5_tellsGames_b2 g s Q n X (nI k) := by
  intro f
  induction f with
  | zero =>
    intro k n e hn h1 h0
    cases n with
    | zero => omega
    | succ n =>
      rw [w5_tellsGames_b2, h2]
      exact br_t (nI_le (by omega) (by omega)) (h1 (fun j a b => by omega))
  | succ f ih =>
    intro k n e hn h1 h0
    cases n with
    | zero => omega
    | succ n =>
      rw [w5_tellsGames_b2, h2]
      refine br_f (nI_ge (by omega) (by omega)) (x_item hN h2 (by omega) (x_item hN h2 (by omega) ?_))
      rw [hit k (by omega)]
      refine x_areTwo hX.1 i1 ?_
      rw [b01]
      refine ⟨fun c => ?_, fun c => h0 ⟨k, by omega, c⟩⟩
      rintro _ rfl
      rw [nI_1]
      exact ih (k + 1) n (by omega) (by omega) (fun z => h1 (fun j a b => by
        rcases Nat.lt_or_ge k j with q | q
        · exact z j q b
        · have : j = k := by omega
          subst this
          exact Classical.not_not.mp c)) h0
theorem m_bad_b {i N : Nat} {it : Nat → Int32} {Q : Int32 → S0 → Prop} (hM : RelM κ M) (i1 : cN κ ≤ 6) (hi : i < 4) (hN : N ≤ 40) (h2 : M 10 i = nI N) (hit : ∀ j, j < N → M 11 (40 * i + j) = it j) : ∀ (f k n : Nat), k + f = N → f < n → ((∀ j, k ≤ j → j < N → tgOk κ (it j)) → Q 0 M) → ((∃ j, j < N ∧ ¬ tgOk κ (it j)) → Q (-2) M) → w6_eveningBad_b14 Q n M (nI i) (nI k) := by
  intro f
  induction f with
  | zero =>
    intro k n e hn h1 h0
    cases n with
    | zero => omega
    | succ n =>
      rw [w6_eveningBad_b14, nI_clamp (n := i) (by omega), h2]
      exact ⟨vpl _ _ hi (by decide), br_t (nI_le (by omega) (by omega)) (h1 (fun j a b => by omega))⟩
  | succ f ih =>
    intro k n e hn h1 h0
    cases n with
    | zero => omega
    | succ n =>
      rw [w6_eveningBad_b14, nI_clamp (n := i) (by omega), h2, r40, nI_clamp (n := 40 * i + k) (by omega)]
      refine ⟨vpl _ _ hi (by decide), br_f (nI_ge (by omega) (by omega)) ⟨vpl _ _ (by omega) (by decide), ?_⟩⟩
      rintro _ rfl
      rw [hit k (by omega)]
      refine m_in32 (b := 0) (c := 55) ?_
      rw [b01]
      refine ⟨fun c => h0 ⟨k, by omega, fun z => c (tg_in i1 z)⟩, fun _ => m_areTwo hM.1 i1 ?_⟩
      rw [b01]
      refine ⟨fun c => ?_, fun c => h0 ⟨k, by omega, c⟩⟩
      rintro _ rfl
      rw [nI_1]
      exact ih (k + 1) n (by omega) (by omega) (fun z => h1 (fun j a b => by
        rcases Nat.lt_or_ge k j with q | q
        · exact z j q b
        · have : j = k := by omega
          subst this
          exact Classical.not_not.mp c)) h0
theorem tg_N {κ' : CS} {v : Int32} (e : cN κ' = cN κ) (h : tgOk κ v) : tgOk κ' v := by
  unfold tgOk at h ⊢
  rw [e]; exact h
theorem x_play_b {b i N : Nat} {it : Nat → Int32} {Q : Int32 → S0 → Prop} (hb : 10 ≤ b) (hb6 : b + 5 < 58) (hN : N ≤ 40) : ∀ (f k n d : Nat) (X : S0) (κ : CS), k + f = N → f < n → RelX b κ X → IC κ → TX tv nT g X → cT κ < nT → X (58 + 2 * i) 2 = nI N → (∀ j, j < N → X (58 + 2 * i + 1) j = it j) → (∀ j, k ≤ j → j < N → tgOk κ (it j)) → (∀ X' : S0, FXb b X X' → RelX b (plF tv it f k d κ).2 X' → Q (nI (plF tv it f k d κ).1) X') → w5_playTold_b4 g b (58 + 2 * i) Q n X (nI d) (nI k) := by
  intro f
  induction f with
  | zero =>
    intro k n d X κ e hn hX hI hT ht h2 hit htg h
    cases n with
    | zero => omega
    | succ n =>
      rw [w5_playTold_b4, h2]
      exact br_t (nI_le (by omega) (by omega)) (h X (fun _ _ _ _ => rfl) hX)
  | succ f ih =>
    intro k n d X κ e hn hX hI hT ht h2 hit htg h
    have i1 := hI.1
    cases n with
    | zero => omega
    | succ n =>
      rw [w5_playTold_b4, h2]
      refine br_f (nI_ge (by omega) (by omega)) (x_item hN h2 (by omega) (x_item hN h2 (by omega) ?_))
      rw [hit k (by omega)]
      obtain ⟨p, q, hp, hq, hne, ep, eq, _⟩ := tg_ex i1 (htg k (Nat.le_refl _) (by omega))
      rw [plF, eq, ep, nI_clamp (n := p) (by omega), nI_clamp (n := q) (by omega)] at h
      rw [eq, ep]
      refine x_meet hb (by omega) hX hI hT ht hp hq hne (fun X1 f1 R1 => ?_)
      rw [who_n (by omega) (by omega)]
      have g1 : X1 (58 + 2 * i) = X (58 + 2 * i) := f1 _ (by omega) (by omega) (by omega)
      have g2 : X1 (58 + 2 * i + 1) = X (58 + 2 * i + 1) := f1 _ (by omega) (by omega) (by omega)
      refine ⟨fun c => ?_, fun c => ?_⟩
      · rintro _ rfl
        rw [nI_1]
        rw [if_neg c] at h
        exact ih (k + 1) n d X1 _ (by omega) (by omega) R1 (ic_meet hI hp hq hne) (hT.xb f1 hb (by omega)) (by rw [meet_T]; exact ht) (by rw [g1]; exact h2) (fun j hj => by rw [g2]; exact hit j hj) (fun j a b => tg_N meet_N (htg j (by omega) b)) (fun X' f' => h X' (f1.tr f'))
      · rintro _ rfl _ rfl
        rw [nI_1, nI_1]
        rw [if_pos c] at h
        exact ih (k + 1) n (d + 1) X1 _ (by omega) (by omega) R1 (ic_meet hI hp hq hne) (hT.xb f1 hb (by omega)) (by rw [meet_T]; exact ht) (by rw [g1]; exact h2) (fun j hj => by rw [g2]; exact hit j hj) (fun j a b => tg_N meet_N (htg j (by omega) b)) (fun X' f' => h X' (f1.tr f'))
theorem m_goes_b {i N : Nat} {it : Nat → Int32} {Q : Int32 → S0 → Prop} (hi : i < 4) (hN : N ≤ 40) : ∀ (f k n d : Nat) (M : S0) (κ : CS), k + f = N → f < n → RelM κ M → IC κ → TM tv nT M → cT κ < nT → M 10 i = nI N → (∀ j, j < N → M 11 (40 * i + j) = it j) → (∀ j, k ≤ j → j < N → tgOk κ (it j)) → (∀ M' : S0, GM M M' → RelM (plF tv it f k d κ).2 M' → Q (nI (plF tv it f k d κ).1) M') → w6_goes_b4 Q n M (nI i) (nI d) (nI k) := by
  intro f
  induction f with
  | zero =>
    intro k n d M κ e hn hM hI hT ht h2 hit htg h
    cases n with
    | zero => omega
    | succ n =>
      rw [w6_goes_b4, nI_clamp (n := i) (by omega), h2]
      exact ⟨vpl _ _ hi (by decide), br_t (nI_le (by omega) (by omega)) (h M GM.rf hM)⟩
  | succ f ih =>
    intro k n d M κ e hn hM hI hT ht h2 hit htg h
    have i1 := hI.1
    cases n with
    | zero => omega
    | succ n =>
      rw [w6_goes_b4, nI_clamp (n := i) (by omega), h2, r40, nI_clamp (n := 40 * i + k) (by omega)]
      refine ⟨vpl _ _ hi (by decide), br_f (nI_ge (by omega) (by omega)) ⟨vpl _ _ (by omega) (by decide), ?_⟩⟩
      rintro _ rfl
      rw [hit k (by omega)]
      obtain ⟨p, q, hp, hq, hne, ep, eq, _⟩ := tg_ex i1 (htg k (Nat.le_refl _) (by omega))
      rw [plF, eq, ep, nI_clamp (n := p) (by omega), nI_clamp (n := q) (by omega)] at h
      rw [eq, ep]
      refine m_games hM hI hT ht hp hq hne (fun M1 f1 R1 => ?_)
      rw [who_n (by omega) (by omega)]
      have g1 : M1 10 i = M 10 i := f1 _ _ (by omega) (by omega)
      have g2 : ∀ j, M1 11 j = M 11 j := fun j => f1 _ _ (by omega) (by omega)
      refine ⟨fun c => ?_, fun c => ?_⟩
      · rintro _ rfl _ rfl
        rw [Int32.add_zero, nI_1]
        rw [if_neg c] at h
        exact ih (k + 1) n d M1 _ (by omega) (by omega) R1 (ic_meet hI hp hq hne) (hT.g f1) (by rw [meet_T]; exact ht) (by rw [g1]; exact h2) (fun j hj => by rw [g2]; exact hit j hj) (fun j a b => tg_N meet_N (htg j (by omega) b)) (fun M' f' => h M' (f1.tr f'))
      · rintro _ rfl _ rfl
        rw [nI_1, nI_1]
        rw [if_pos c] at h
        exact ih (k + 1) n (d + 1) M1 _ (by omega) (by omega) R1 (ic_meet hI hp hq hne) (hT.g f1) (by rw [meet_T]; exact ht) (by rw [g1]; exact h2) (fun j hj => by rw [g2]; exact hit j hj) (fun j a b => tg_N meet_N (htg j (by omega) b)) (fun M' f' => h M' (f1.tr f'))
theorem pl_inv {it : Nat → Int32} {N : Nat} : ∀ (f k d : Nat) (κ : CS), k + f = N → IC κ → (∀ j, k ≤ j → j < N → tgOk κ (it j)) → IC (plF tv it f k d κ).2 ∧ cN (plF tv it f k d κ).2 = cN κ ∧ cT (plF tv it f k d κ).2 = cT κ ∧ cK (plF tv it f k d κ).2 = cK κ ∧ cR (plF tv it f k d κ).2 = cR κ + nI f := by
  intro f
  induction f with
  | zero => intro k d κ e hI _; exact ⟨hI, rfl, rfl, rfl, (Int32.add_zero _).symm⟩
  | succ f ih =>
    intro k d κ e hI htg
    obtain ⟨p, q, hp, hq, hne, ep, eq, _⟩ := tg_ex hI.1 (htg k (Nat.le_refl _) (by omega))
    have i1 := hI.1
    rw [plF, eq, ep, nI_clamp (n := p) (by omega), nI_clamp (n := q) (by omega)]
    obtain ⟨a1, a2, a3, a4, a5⟩ := ih (k + 1) (if whoS tv κ p q = 2 then d + 1 else d) (meetS tv κ p q) (by omega) (ic_meet hI hp hq hne) (fun j a b => tg_N meet_N (htg j (by omega) b))
    refine ⟨a1, a2.trans meet_N, a3.trans meet_T, a4.trans meet_K, ?_⟩
    rw [a5, meet_R, Int32.add_assoc]
    have : (1 : Int32) + nI f = nI (f + 1) := by rw [Int32.add_comm]; exact nI_1 f
    rw [this]
theorem x_most_b {b : Nat} {Q : Int32 → S0 → Prop} (hX : RelX b κ X) (hI : IC κ) : ∀ (f p n : Nat) (o : Option Nat), p + f = cN κ → f < n → (∀ w, o = some w → w < cN κ ∧ cH κ w ≠ 0) → Q (toS (rcF (cH κ) f p o)) X → w0_whoHasMost_b6 g b Q n X (match o with | none => 0 | some w => nI (pc8 (cH κ w))) (toS o) (nI p) := by
  have i1 := hI.1
  have l8 : ∀ p, pc8 (cH κ p) < 2 ^ 31 := fun p => by have := pc8_le (cH κ p); omega
  intro f
  induction f with
  | zero =>
    intro p n o e hn ho h
    cases n with
    | zero => omega
    | succ n =>
      rw [w0_whoHasMost_b6, hX.1]
      refine br_t (nI_le (by omega) (by omega)) ?_
      cases o <;> exact h
  | succ f ih =>
    intro p n o e hn ho h
    cases n with
    | zero => omega
    | succ n =>
      rw [w0_whoHasMost_b6, hX.1]
      refine br_f (nI_ge (by omega) (by omega)) (x_howMany hX hI (by omega) ?_)
      have z0 := pc8_z _ (hI.2.1 p)
      cases o with
      | none =>
        rw [rcF] at h
        have e0 : (nI (pc8 (cH κ p)) ≤ 0) ↔ cH κ p = 0 := by
          have e1 : nI (pc8 (cH κ p)) ≤ 0 ↔ pc8 (cH κ p) ≤ 0 := nI_leI (b := 0) (l8 p) (by decide)
          rw [e1]; omega
        refine ⟨fun c => ?_, fun c => x_howMany hX hI (by omega) ?_⟩
        · have c : nI (pc8 (cH κ p)) ≤ 0 := c
          rw [e0] at c
          rintro _ rfl
          rw [nI_1]
          rw [if_pos c] at h
          exact ih (p + 1) n none (by omega) (by omega) (fun w z => by cases z) h
        · have c : ¬ nI (pc8 (cH κ p)) ≤ 0 := c
          rw [e0] at c
          rintro _ rfl
          rw [nI_1]
          rw [if_neg c] at h
          exact ih (p + 1) n (some p) (by omega) (by omega) (fun w z => by
            obtain rfl := Option.some.inj z
            exact ⟨by omega, c⟩) h
      | some w =>
        rw [rcF] at h
        obtain ⟨w1, w2⟩ := ho w rfl
        refine ⟨fun c => ?_, fun c => x_howMany hX hI (by omega) ?_⟩
        · have c := (nI_leI (l8 p) (l8 w)).mp c
          rintro _ rfl
          rw [nI_1]
          rw [if_pos c] at h
          exact ih (p + 1) n (some w) (by omega) (by omega) ho h
        · have c : ¬ pc8 (cH κ p) ≤ pc8 (cH κ w) := fun z => c ((nI_leI (l8 p) (l8 w)).mpr z)
          rintro _ rfl
          rw [nI_1]
          rw [if_neg c] at h
          exact ih (p + 1) n (some p) (by omega) (by omega) (fun w' z => by
            obtain rfl := Option.some.inj z
            refine ⟨by omega, fun z0 => c ?_⟩
            rw [z0, pc8_0]; omega) h
theorem m_rich_b {Q : Int32 → S0 → Prop} (hM : RelM κ M) (hI : IC κ) : ∀ (f p n : Nat) (o : Option Nat), p + f = cN κ → f < n → (∀ w, o = some w → w < cN κ ∧ cH κ w ≠ 0) → Q (toS (rcF (cH κ) f p o)) M → w6_richest_b4 Q n M (toS o) (nI p) := by
  have i1 := hI.1
  have l8 : ∀ p, pc8 (cH κ p) < 2 ^ 31 := fun p => by have := pc8_le (cH κ p); omega
  intro f
  induction f with
  | zero =>
    intro p n o e hn ho h
    cases n with
    | zero => omega
    | succ n =>
      rw [w6_richest_b4, hM.1]
      refine br_t (nI_le (by omega) (by omega)) ?_
      cases o <;> exact h
  | succ f ih =>
    intro p n o e hn ho h
    cases n with
    | zero => omega
    | succ n =>
      rw [w6_richest_b4, hM.1]
      refine br_f (nI_ge (by omega) (by omega)) (m_has hM i1 (by omega) ?_)
      rw [nIz (ht8 hI p)]
      cases o with
      | none =>
        rw [rcF] at h
        refine ⟨fun c => ?_, fun c => br_t rfl ?_⟩
        · rintro _ rfl
          rw [nI_1]
          rw [if_pos c] at h
          exact ih (p + 1) n none (by omega) (by omega) (fun w z => by cases z) h
        · rintro _ rfl
          rw [nI_1]
          rw [if_neg c] at h
          exact ih (p + 1) n (some p) (by omega) (by omega) (fun w z => by
            obtain rfl := Option.some.inj z
            exact ⟨by omega, c⟩) h
      | some w =>
        rw [rcF] at h
        obtain ⟨w1, w2⟩ := ho w rfl
        refine ⟨fun c => ?_, fun c => br_f (nI_nm1 (by omega)) (m_hasMany hM hI (by omega) (m_hasMany hM hI w1 ?_))⟩
        · rintro _ rfl
          rw [nI_1]
          rw [if_pos (by rw [c, pc8_0]; omega)] at h
          exact ih (p + 1) n (some w) (by omega) (by omega) ho h
        · refine ⟨fun c2 => ?_, fun c2 => ?_⟩
          · have c2 := (nI_leI (l8 p) (l8 w)).mp c2
            rintro _ rfl
            rw [nI_1]
            rw [if_pos c2] at h
            exact ih (p + 1) n (some w) (by omega) (by omega) ho h
          · have c2 : ¬ pc8 (cH κ p) ≤ pc8 (cH κ w) := fun z => c2 ((nI_leI (l8 p) (l8 w)).mpr z)
            rintro _ rfl
            rw [nI_1]
            rw [if_neg c2] at h
            exact ih (p + 1) n (some p) (by omega) (by omega) (fun w' z => by
              obtain rfl := Option.some.inj z
              exact ⟨by omega, c⟩) h
/-- what an EVENING tells -/
def evS (r : Nat × CS) (w : Nat) : Int32 := if w < 6 then nI (pc8 (cH r.2 w)) else if w = 6 then nI (pc8 (cL r.2)) else if w = 7 then nI r.1 else toS (rcF (cH r.2) (cN r.2) 0 none)
theorem m_evBad {i N : Nat} {it : Nat → Int32} {Q : Int32 → S0 → Prop} (hM : RelM κ M) (i1 : cN κ ≤ 6) (hi : i < 4) (h8 : M 8 i = 1) (hN : N ≤ 40) (h2 : M 10 i = nI N) (hit : ∀ j, j < N → M 11 (40 * i + j) = it j) (h1 : (∀ j, j < N → tgOk κ (it j)) → Q 0 M) (h0 : (∃ j, j < N ∧ ¬ tgOk κ (it j)) → Q (-2) M) : w6_eveningBad M (nI i) Q := by
  unfold w6_eveningBad
  rw [nI_clamp (n := i) (by omega), h8]
  exact ⟨vpl _ _ hi (by decide), s_t (by decide) ⟨N + 1, m_bad_b hM i1 hi hN h2 hit N 0 _ (Nat.zero_add _) (Nat.lt_succ_self _) (fun z => h1 (fun j b => z j (Nat.zero_le _) b)) h0⟩⟩
theorem m_evNo {i : Nat} {Q : Int32 → S0 → Prop} (hi : i < 4) (h8 : M 8 i = 0) (h : Q (-11) M) : w6_eveningBad M (nI i) Q := by
  unfold w6_eveningBad
  rw [nI_clamp (n := i) (by omega), h8]
  exact ⟨vpl _ _ hi (by decide), s_f rfl h⟩
theorem x_isP1 {b : Nat} {p : Int32} {Q : Int32 → S0 → Prop} {n : Nat} (hn : X b 7 = nI n) (h6 : n ≤ 6) (hp : isP n p) (h : Q 1 X) : w0_isPlayer g b X p Q := x_isPlayer hn h6 (by rw [if_pos hp]; exact h)
theorem m_isP1 {p : Int32} {Q : Int32 → S0 → Prop} {n : Nat} (hn : M 0 11 = nI n) (h6 : n ≤ 6) (hp : isP n p) (h : Q 1 M) : w6_isOne M p Q := m_isOne hn h6 (by rw [if_pos hp]; exact h)
theorem m_evening {i w : Nat} {Q : Int32 → S0 → Prop} (H : Rel tv nT κ g X M) (hi : i < 4) (hw : w ≤ 8) (hw2 : w < 6 → w < cN κ) (h11 : M 8 i = 0 → Q (-11) M) (h : ∀ N, N ≤ 40 → M 8 i = 1 → M 10 i = nI N → ((∃ j, j < N ∧ ¬ tgOk κ (M 11 (40 * i + j))) → Q (-2) M) ∧ ((∀ j, j < N → tgOk κ (M 11 (40 * i + j))) → ∀ M' : S0, QM 0 M M' → Q (evS (plF tv (fun j => M 11 (40 * i + j)) N 0 0 κ) w) M')) : w6_evening M (nI i) (nI w) Q := by
  obtain ⟨hX, hM, hI, hr, ht, hO⟩ := H
  have i1 := hI.1
  unfold w6_evening
  refine m_isSheet ?_
  rw [b01]
  refine br_f (fun z => z (isS_nI hi)) (m_in32 (b := 0) (c := 8) ?_)
  rw [b01]
  refine br_f (fun z => z (rng2 hw (by decide))) ⟨fun c => ?_, fun c => m_isP1 hM.1 i1 (isP_nI (hw2 (Classical.byContradiction (fun z => c (nI_le (a := 6) (Nat.le_of_not_lt z) (by omega))))) (by omega)) (s_t (by decide) ?_)⟩
  all_goals (
    rcases hO.2.2.2.2.2.2.2.2.2.2.1 i hi with ⟨_, s2⟩ | ⟨so, N, hso, hN, s1, s2, s3, s4, s5, s6⟩
    · refine m_evNo hi s2 (br_f (by decide) (h11 s2))
    · obtain ⟨h0, h1⟩ := h N hN s3 s5
      refine m_evBad (it := fun j => M 11 (40 * i + j)) hM i1 hi s3 hN s5 (fun _ _ => rfl) (fun htg => ?_) (fun z => br_f (by decide) (h0 z))
      have h1 := h1 htg
      refine br_t rfl (m_thought (d := 0) (by decide) hO.2.2.2.2.2.2.2.1 hM (fun M1 t1 e1 R1 bk => ?_))
      unfold w6_goes
      refine ⟨N + 1, m_goes_b (it := fun j => M 11 (40 * i + j)) hi hN N 0 (N + 1) 0 M1 κ (Nat.zero_add _) (Nat.lt_succ_self _) R1 hI (hO.2.1.h1 t1) ht (by rw [t1.1 10 i (by decide) (by omega)]; exact s5) (fun j _ => t1.1 11 _ (by decide) (by omega)) (fun j _ b => htg j b) (fun M2 f2 R2 => ?_)⟩
      obtain ⟨a1, a2, a3, a4, a5⟩ := pl_inv (tv := tv) (it := fun j => M 11 (40 * i + j)) N 0 0 κ (Nat.zero_add _) hI (fun j _ b => htg j b)
      have e6 : (6 : Int32) ≤ nI w ↔ 6 ≤ w := nI_leI (a := 6) (by decide) (by omega)
      have d6 : nI w = 6 ↔ w = 6 := nI_eq (b := 6) (by omega) (by decide)
      have d7 : nI w = 7 ↔ w = 7 := nI_eq (b := 7) (by omega) (by decide)
      rw [e6, d6, d7]
      unfold evS at h1
      refine ⟨fun c6 => ⟨fun c7 => ⟨fun c8 => ?_, fun c8 => ?_⟩, fun c7 => ?_⟩, fun c6 => ?_⟩
      · rw [if_neg (by omega), if_neg c7, if_neg c8, a2] at h1
        unfold w6_richest
        exact ⟨cN κ + 1, m_rich_b R2 a1 (cN κ) 0 _ none (by rw [a2]; omega) (Nat.lt_succ_self _) (fun w z => by cases z) (bk M2 f2.q _ h1)⟩
      · rw [if_neg (by omega), if_neg c7, if_pos c8] at h1
        exact bk M2 f2.q _ h1
      · rw [if_neg (by omega), if_pos c7] at h1
        rw [R2.2.1]
        exact m_bitsOf a1.2.2.1 (bk M2 f2.q _ h1)
      · rw [if_pos (by omega)] at h1
        exact m_hasMany R2 a1 (by rw [a2]; exact hw2 (by omega)) (bk M2 f2.q _ h1))
theorem m_evOut {p w : Int32} {Q : Int32 → S0 → Prop} (hM : RelM κ M) (i1 : cN κ ≤ 6) (h : ¬ (¬ p < 0 ∧ ¬ (3 : Int32) < p) ∨ ¬ (¬ w < 0 ∧ ¬ (8 : Int32) < w) ∨ (¬ (6 : Int32) ≤ w ∧ ¬ isP (cN κ) w)) (hq : Q (-2) M) : w6_evening M p w Q := by
  unfold w6_evening
  refine m_isSheet ?_
  rw [b01]
  refine ⟨fun _ => hq, fun c => m_in32 (b := 0) (c := 8) ?_⟩
  rw [b01]
  refine ⟨fun _ => hq, fun c2 => ?_⟩
  rcases h with z | z | ⟨z1, z2⟩
  · exact absurd z c
  · exact absurd z c2
  · refine br_f z1 (m_isOne hM.1 i1 ?_)
    rw [b01]
    exact s_f z2 hq
theorem op_evening (h : Rel tv nT κ g X M) (p1 p2 : Int32) : w5_evening g X p1 p2 (fun r X' => w6_evening M p1 p2 (fun r' M' => Owes tv nT g r X' r' M')) := by
  have H := h
  obtain ⟨hX, hM, hI, hr, ht, hO⟩ := h
  have i1 := hI.1
  unfold w5_evening
  refine x_sheetAt (fun c => ⟨fun _ => m_evOut hM i1 (Or.inl c) ⟨rfl, _, H⟩, fun k e => (by cases e)⟩) (fun i hi ei => ⟨fun e => (by cases e), fun k e => ?_⟩)
  obtain rfl : 58 + 2 * i = k := Option.some.inj e
  subst ei
  refine x_within ?_
  rw [b01]
  by_cases c : ¬ p2 < 0 ∧ ¬ (8 : Int32) < p2
  · obtain ⟨w, hw, rfl⟩ := rng (k := 8) (by decide) c
    have e6 : (6 : Int32) ≤ nI w ↔ 6 ≤ w := nI_leI (a := 6) (by decide) (by omega)
    refine br_f (fun z => z c) ?_
    by_cases c2 : w < 6 → w < cN κ
    · have c3 : 6 ≤ w ∨ isP (cN κ) (nI w) := by
        rcases Nat.lt_or_ge w 6 with z | z
        · exact Or.inr (isP_nI (c2 z) (by omega))
        · exact Or.inl z
      have vw : (nI w).toInt = (w : Int) := nI_toInt (by omega)
      rw [e6, vw]
      refine ⟨fun c6 => ⟨isSh hi, ?_⟩, fun c6 => x_isP1 hX.1 i1 (c3.resolve_left c6) (s_t (by decide) ⟨isSh hi, ?_⟩)⟩
      all_goals (
        refine x_isMissing ?_
        rw [b01]
        rcases sh_of H hi with ⟨s1, s2⟩ | ⟨so, N, hso, hN, s1, s2, s3, s4, s5, s6⟩
        · refine br_f (fun z => z s1) (m_evening H hi hw c2 (fun _ => ⟨rfl, _, H⟩) (fun N _ z _ => absurd (s2.symm.trans z) (by decide)))
        · refine br_t (fun z => nI_nm1 (p := so) (by omega) (s1.symm.trans z)) ?_
          unfold w5_tellsGames
          refine ⟨N + 1, x_tells_b (it := fun j => M 11 (40 * i + j)) hX i1 hN s2 s6 N 0 _ (Nat.zero_add _) (Nat.lt_succ_self _) (fun htg => ?_) (fun hno => ?_)⟩
          · have htg : ∀ j, j < N → tgOk κ (M 11 (40 * i + j)) := fun j b => htg j (Nat.zero_le _) b
            refine s_t (by decide) (x_think hX i1 (fun X1 f1 R1 => ⟨fun e => (by cases e), fun k e => ?_⟩))
            obtain rfl : 22 = k := Option.some.inj e
            unfold w5_playTold
            refine ⟨cl_22, N + 1, x_play_b (it := fun j => M 11 (40 * i + j)) (by decide) (by decide) hN N 0 (N + 1) 0 X1 κ (Nat.zero_add _) (Nat.lt_succ_self _) R1 hI (hO.1.t f1) ht (by rw [f1 _ (by omega) (by omega) (by omega)]; exact s2) (fun j hj => by rw [f1 _ (by omega) (by omega) (by omega)]; exact s6 j hj) (fun j _ b => htg j b) (fun X2 f2 R2 => ?_)⟩
            obtain ⟨a1, a2, a3, a4, a5⟩ := pl_inv (tv := tv) (it := fun j => M 11 (40 * i + j)) N 0 0 κ (Nat.zero_add _) hI (fun j _ b => htg j b)
            have fin : ∀ r : Int32, r = evS (plF tv (fun j => M 11 (40 * i + j)) N 0 0 κ) w → w6_evening M (nI i) (nI w) (fun r' M' => Owes tv nT g r X2 r' M') := fun r er => m_evening H hi hw c2 (fun z => absurd (s3.symm.trans z) (by decide)) (fun N' hN' _ z => by
              have e1 := (nI_eq (by omega) (by omega)).mp (s5.symm.trans z)
              subst e1
              exact ⟨fun ⟨j, hj, z⟩ => absurd (htg j hj) z, fun _ M' q => ⟨er, _, H.keep (f1.tr (f2.t (by decide) (by decide))) q⟩⟩)
            unfold evS at fin
            refine ⟨fun q => ?_, fun q => ?_, fun q => ?_, fun q => ?_⟩
            · exact x_manyInHall R2 a1 (fin _ (by rw [if_neg (by omega), if_pos (by omega)]))
            · exact fin _ (by rw [if_neg (by omega), if_neg (by omega), if_pos (by omega)])
            · unfold w0_whoHasMost
              refine ⟨cN κ + 1, x_most_b R2 a1 (cN κ) 0 _ none (by rw [a2]; omega) (Nat.lt_succ_self _) (fun w z => by cases z) (fin _ ?_)⟩
              rw [if_neg (by omega), if_neg (by omega), if_neg (by omega), a2]
            · exact x_howMany R2 a1 (by rw [a2]; exact c2 (by omega)) (fin _ (by rw [if_pos (by omega)]))
          · refine s_f rfl (m_evening H hi hw c2 (fun z => absurd (s3.symm.trans z) (by decide)) (fun N' hN' _ z => by
              have e1 := (nI_eq (by omega) (by omega)).mp (s5.symm.trans z)
              subst e1
              obtain ⟨j, hj, hz⟩ := hno
              exact ⟨fun _ => ⟨rfl, _, H⟩, fun y => absurd (y j hj) hz⟩)))
    · have c3 : w < 6 ∧ ¬ w < cN κ := ⟨Classical.byContradiction (fun z => c2 (fun y => absurd y z)), fun z => c2 (fun _ => z)⟩
      have c4 : ¬ isP (cN κ) (nI w) := fun z => c3.2 ((nI_ltI (by omega) (by omega)).mp z.2)
      refine br_f (fun z => by have := e6.mp z; omega) (x_isPlayer hX.1 i1 ?_)
      rw [b01]
      exact s_f c4 (m_evOut hM i1 (Or.inr (Or.inr ⟨fun z => by have := e6.mp z; omega, c4⟩)) ⟨rfl, _, H⟩)
  · exact br_t c (m_evOut hM i1 (Or.inr (Or.inl c)) ⟨rfl, _, H⟩)
theorem rd_add {x : Int32} {N : Nat} (h : RdOk x) (hN : N ≤ 40) (h2 : x + nI N ≤ 999) : RdOk (x + nI N) := by
  have e : (x + nI N).toInt = x.toInt + N := by
    have := h.1; have := h.2
    rw [Int32.toInt_add, nI_toInt (by omega), Int.bmod_eq_of_le (by omega) (by omega)]
  have h2 := Int32.le_iff_toInt_le.mp h2
  rw [show (999 : Int32).toInt = 999 by decide] at h2
  exact ⟨by rw [e]; have := h.1; omega, h2⟩
theorem op_play (h : Rel tv nT κ g X M) (p1 : Int32) : w5_play g X p1 (fun r X' => w6_play M p1 (fun r' M' => Owes tv nT g r X' r' M')) := by
  have H := h
  obtain ⟨hX, hM, hI, hr, ht, hO⟩ := h
  have i1 := hI.1
  unfold w5_play
  refine x_sheetAt (fun c => ⟨fun _ => ?_, fun k e => (by cases e)⟩) (fun i hi ei => ⟨fun e => (by cases e), fun k e => ?_⟩)
  · unfold w6_play
    refine m_isSheet ?_
    rw [b01]
    exact s_f c ⟨rfl, _, H⟩
  obtain rfl : 58 + 2 * i = k := Option.some.inj e
  subst ei
  have ms : ∀ Q : Int32 → S0 → Prop, w6_eveningBad M (nI i) (fun r4 M3 => ((r4 = 0) → ((vp_in (nI i) 4) ∧ (((((M3 0 7) + (M3 10 (Int32.toNatClampNeg (nI i)))) ≤ (999 : Int32)) → (w6_goes M3 (nI i) (fun r7 M6 => Q r7 M6))) ∧ ((¬ ((M3 0 7) + (M3 10 (Int32.toNatClampNeg (nI i)))) ≤ (999 : Int32)) → (Q (-3 : Int32) M3))))) ∧ ((¬ r4 = 0) → (Q r4 M3))) → w6_play M (nI i) Q := by
    intro Q q
    unfold w6_play
    refine m_isSheet ?_
    rw [b01]
    exact s_t (fun z => z (isS_nI hi)) q
  refine ⟨isSh hi, x_isMissing ?_⟩
  rw [b01]
  rcases sh_of H hi with ⟨s1, s2⟩ | ⟨so, N, hso, hN, s1, s2, s3, s4, s5, s6⟩
  · exact br_f (fun z => z s1) (ms _ (m_evNo hi s2 (br_f (by decide) ⟨rfl, _, H⟩)))
  · refine br_t (fun z => nI_nm1 (p := so) (by omega) (s1.symm.trans z)) ?_
    unfold w5_tellsGames
    refine ⟨N + 1, x_tells_b (it := fun j => M 11 (40 * i + j)) hX i1 hN s2 s6 N 0 _ (Nat.zero_add _) (Nat.lt_succ_self _) (fun htg => ?_) (fun hno => ?_)⟩
    · have htg : ∀ j, j < N → tgOk κ (M 11 (40 * i + j)) := fun j b => htg j (Nat.zero_le _) b
      refine s_t (by decide) ?_
      rw [hX.2.2.1, s2]
      have mb : ∀ Q : Int32 → S0 → Prop, (cR κ + nI N ≤ 999 → ∃ n1, w6_goes_b4 Q n1 M (nI i) 0 0) → (¬ cR κ + nI N ≤ 999 → Q (-3) M) → w6_play M (nI i) Q := by
        intro Q q1 q2
        refine ms Q (m_evBad (it := fun j => M 11 (40 * i + j)) hM i1 hi s3 hN s5 (fun _ _ => rfl) (fun _ => br_t rfl ?_) (fun ⟨j, hj, z⟩ => absurd (htg j hj) z))
        rw [nI_clamp (n := i) (by omega), hM.2.2.1, s5]
        exact ⟨vpl _ _ hi (by decide), q1, q2⟩
      refine ⟨fun c => ?_, fun c => mb _ (fun z => absurd z c) (fun _ => ⟨rfl, _, H⟩)⟩
      unfold w5_playTold
      refine ⟨N + 1, x_play_b (it := fun j => M 11 (40 * i + j)) (by decide) (by decide) hN N 0 (N + 1) 0 X κ (Nat.zero_add _) (Nat.lt_succ_self _) hX hI hO.1 ht s2 s6 (fun j _ b => htg j b) (fun X2 f2 R2 => ?_)⟩
      refine mb _ (fun _ => ⟨N + 1, m_goes_b (it := fun j => M 11 (40 * i + j)) hi hN N 0 (N + 1) 0 M κ (Nat.zero_add _) (Nat.lt_succ_self _) hM hI hO.2.1 ht s5 (fun j _ => rfl) (fun j _ b => htg j b) (fun M2 f3 R3 => ?_)⟩) (fun z => absurd c z)
      obtain ⟨a1, a2, a3, a4, a5⟩ := pl_inv (tv := tv) (it := fun j => M 11 (40 * i + j)) N 0 0 κ (Nat.zero_add _) hI (fun j _ b => htg j b)
      exact ⟨rfl, _, rel_up H R2 R3 a1 (by rw [a5]; exact rd_add hr hN c) (by rw [a3]; exact ht) a2 a4 f2.a (f3.q (d := 0)).r⟩
    · refine s_f rfl (ms _ (m_evBad (it := fun j => M 11 (40 * i + j)) hM i1 hi s3 hN s5 (fun _ _ => rfl) (fun z => ?_) (fun _ => br_f (by decide) ⟨rfl, _, H⟩)))
      obtain ⟨j, hj, hz⟩ := hno
      exact absurd (z j hj) hz
end EVE
