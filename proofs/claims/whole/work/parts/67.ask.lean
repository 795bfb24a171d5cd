/-! taken, asks, best -/
def abvI (x : Int32) : Int32 := if x = 0 then -1 else if x = 3 then 1 else if x = 4 then 2 else 0
def kF (k : Int32) : Nat → Int32 → Bool
  | 0, _ => false
  | f + 1, x => if x = -1 then false else if x = k then true else kF k f (abvI x)
def rkI (x : Int32) : Nat := if x = -1 then 0 else if x = 0 then 1 else if x = 3 then 3 else if x = 4 then 3 else 2
def isKd (x : Int32) : Prop := x = -1 ∨ ∃ c : Nat, c < 6 ∧ x = nI c
theorem abv_ok : ∀ c, c < 6 → rkI (abvI (nI c)) < rkI (nI c) ∧ (abvI (nI c) = -1 ∨ abvI (nI c) = nI 0 ∨ abvI (nI c) = nI 1 ∨ abvI (nI c) = nI 2) := by decide +kernel
theorem abv_k {x : Int32} (h : isKd x) (h1 : ¬ x = -1) : rkI (abvI x) < rkI x ∧ isKd (abvI x) := by
  rcases h with h | ⟨c, hc, rfl⟩
  · exact absurd h h1
  · obtain ⟨a, b⟩ := abv_ok c hc
    refine ⟨a, ?_⟩
    rcases b with b | b | b | b
    · exact Or.inl b
    · exact Or.inr ⟨0, by decide, b⟩
    · exact Or.inr ⟨1, by decide, b⟩
    · exact Or.inr ⟨2, by decide, b⟩
section ASK
variable {tv : TV} {nT : Nat} {κ : CS} {g : GX} {X M : S0}
theorem x_kindAbove {x : Int32} {Q : Int32 → S0 → Prop} (hx : isKd x) (h1 : ¬ x = -1) (h : Q (abvI x) X) : w5_kindAbove g X x Q := by
  unfold w5_kindAbove
  rcases hx with z | ⟨c, hc, rfl⟩
  · exact absurd z h1
  · rw [nI_toInt (by omega)]
    rcases (by omega : c = 0 ∨ c = 1 ∨ c = 2 ∨ c = 3 ∨ c = 4 ∨ c = 5) with rfl | rfl | rfl | rfl | rfl | rfl <;> exact ⟨fun z => (by first | exact h | omega), fun z => (by first | exact h | omega), fun z => (by first | exact h | omega), fun z => (by first | exact h | omega), fun z => (by first | exact h | omega), fun z => (by first | exact h | omega)⟩
theorem m_over {x : Int32} {Q : Int32 → S0 → Prop} (h : Q (abvI x) M) : w6_over M x Q := by
  unfold w6_over
  unfold abvI at h
  refine ⟨fun c => ⟨fun c2 => ⟨fun c3 => ?_, fun c3 => ?_⟩, fun c2 => ?_⟩, fun c => ?_⟩
  · rw [if_neg c, if_neg c2, if_neg c3] at h; exact h
  · rw [if_neg c, if_neg c2, if_pos c3] at h; exact h
  · rw [if_neg c, if_pos c2] at h; exact h
  · rw [if_pos c] at h; exact h
theorem x_isOfKind_b {k : Int32} {Q : Int32 → S0 → Prop} : ∀ (f i n : Nat) (x : Int32), i + f = 6 → f < n → isKd x → Q (if kF k f x = true then 1 else 0) X → w5_isOfKind_b4 g Q n X k x (nI i) := by
  intro f
  induction f with
  | zero =>
    intro i n x e hn hx h
    cases n with
    | zero => omega
    | succ n =>
      rw [w5_isOfKind_b4]
      exact br_t (nI_le (a := 6) (by omega) (by omega)) h
  | succ f ih =>
    intro i n x e hn hx h
    cases n with
    | zero => omega
    | succ n =>
      rw [w5_isOfKind_b4]
      rw [kF] at h
      refine br_f (nI_ge (b := 6) (by omega) (by decide)) ⟨fun c => ?_, fun c => ⟨fun c2 => x_kindAbove hx c ?_, fun c2 => ?_⟩⟩
      · rw [if_pos c] at h; exact h
      · rintro _ rfl
        rw [nI_1]
        rw [if_neg c, if_neg c2] at h
        exact ih (i + 1) n _ (by omega) (by omega) (abv_k hx c).2 h
      · rw [if_neg c, if_pos c2] at h; exact h
theorem m_taken_b {p k : Int32} {Q : Int32 → S0 → Prop} (hk : ¬ k = -1) (hv : vp_in ((4 : Int32) * p) 24) : ∀ (f n : Nat) (x : Int32), rkI x < f → f ≤ n → isKd x → (kF k f x = true → Q (M 5 (Int32.toNatClampNeg ((4 : Int32) * p))) M) → (kF k f x = false → Q (-13) M) → w6_taken_b33 Q n M p k x := by
  intro f
  induction f with
  | zero => intro n x h0; omega
  | succ f ih =>
    intro n x hr hn hx h1 h0
    cases n with
    | zero => omega
    | succ n =>
      rw [w6_taken_b33]
      rw [kF] at h1 h0
      refine ⟨fun c => ⟨fun _ => h0 (by rw [if_pos c]), fun c2 => absurd (c2.symm.trans c) hk⟩, fun c => ⟨fun c2 => ⟨fun c3 => absurd c2 c3, fun _ => ⟨hv, h1 (by rw [if_neg c, if_pos c2])⟩⟩, fun c2 => m_over ?_⟩⟩
      have a := abv_k hx c
      exact ih n _ (by omega) (by omega) a.2 (fun z => h1 (by rw [if_neg c, if_neg c2]; exact z)) (fun z => h0 (by rw [if_neg c, if_neg c2]; exact z))
theorem op_taken (h : Rel tv nT κ g X M) (p1 p2 : Int32) : w5_taken g X p1 p2 (fun r X' => w6_taken M p1 p2 (fun r' M' => Owes tv nT g r X' r' M')) := by
  have H := h
  obtain ⟨hX, hM, hI, hr, ht, hO⟩ := h
  have i1 := hI.1
  unfold w5_taken
  refine x_within ?_
  rw [b01]
  by_cases c : ¬ p2 < 0 ∧ ¬ (5 : Int32) < p2
  · refine s_t (fun z => z c) (x_isPlayer hX.1 i1 ?_)
    rw [b01]
    by_cases c2 : isP (cN κ) p1
    · refine s_t (fun z => z c2) ?_
      obtain ⟨i, hi, rfl⟩ := isP_of c2 (by omega)
      have vi := vpl i 6 (by omega) (by decide)
      rw [nI_clamp (n := i) (by omega), (hX.2.2.2.2.2 i hi).1]
      obtain ⟨cc, hcc, ecc⟩ := hO.2.2.2.2.2.2.2.2.2.2.2 i hi
      have kk : isKd (cK κ i) := Or.inr ⟨cc, hcc, ecc⟩
      have rk : rkI (cK κ i) < 6 := by rw [ecc]; exact (by decide +kernel : ∀ c, c < 6 → rkI (nI c) < 6) cc hcc
      have hk : ¬ p2 = -1 := fun z => by rw [z] at c; exact absurd c (by decide)
      have md : ∀ (r : Int32), (kF p2 6 (cK κ i) = true → r = cU κ i) → (kF p2 6 (cK κ i) = false → r = -13) → w6_taken M (nI i) p2 (fun r' M' => Owes tv nT g r X r' M') := by
        intro r e1 e0
        unfold w6_taken
        refine m_in32 (b := 0) (c := 5) ?_
        rw [b01]
        refine s_t (fun z => z c) (m_isOne hM.1 i1 ?_)
        rw [b01]
        refine s_t (fun z => z c2) ⟨vi, ?_⟩
        rintro _ rfl
        rw [nI_clamp (n := i) (by omega), (hM.2.2.2.2 i hi).1]
        refine ⟨6, m_taken_b hk (by rw [rw0]; exact vpl _ _ (by omega) (by decide)) 6 6 _ rk (Nat.le_refl _) kk (fun z => ?_) (fun z => ⟨e0 z, _, H⟩)⟩
        rw [rw0, nI_clamp (by omega), (hM.2.2.2.2 i hi).2.1]
        exact ⟨e1 z, _, H⟩
      refine ⟨vi, ?_⟩
      unfold w5_isOfKind
      refine ⟨7, x_isOfKind_b 6 0 7 _ rfl (by decide) kk ?_⟩
      rw [b01]
      refine ⟨fun z => md _ (fun w => absurd w z) (fun _ => rfl), fun z => ⟨vi, md _ (fun _ => ?_) (fun w => absurd (Classical.not_not.mp z) (by rw [w]; decide))⟩⟩
      exact (hX.2.2.2.2.2 i hi).2.1
    · refine s_f c2 ?_
      unfold w6_taken
      refine m_in32 (b := 0) (c := 5) ?_
      rw [b01]
      refine s_t (fun z => z c) (m_isOne hM.1 i1 ?_)
      rw [b01]
      exact s_f c2 ⟨rfl, _, H⟩
  · refine s_f c ?_
    unfold w6_taken
    refine m_in32 (b := 0) (c := 5) ?_
    rw [b01]
    exact s_f c ⟨rfl, _, H⟩
/-- a game in thought, and how many the one has behind it -/
theorem m_hasBehind {p q : Nat} {Q : Int32 → S0 → Prop} (h0 : M 0 28 = nI 0) (hR : RelM κ M) (hI : IC κ) (hT : TM tv nT M) (ht : cT κ < nT) (hp : p < cN κ) (hq : q < cN κ) (hne : p ≠ q) (h : ∀ M' : S0, QM 0 M M' → Q (nI (pc8 (cH (meetS tv κ p q) p))) M') : w6_hasBehind M (nI p) (nI q) Q := by
  unfold w6_hasBehind
  refine m_thought (d := 0) (by decide) h0 hR (fun M1 t1 e1 R1 bk => ?_)
  refine m_games R1 hI (hT.h1 t1) ht hp hq hne (fun M2 f2 R2 => ?_)
  refine m_hasMany R2 (ic_meet hI hp hq hne) (by rw [meet_N]; exact hp) ?_
  exact bk M2 f2.q _ (fun M3 q3 => h M3 q3)
theorem op_asks (h : Rel tv nT κ g X M) (p1 p2 p3 : Int32) : w5_asks g X p1 p2 p3 (fun r X' => w6_asks M p1 p2 p3 (fun r' M' => Owes tv nT g r X' r' M')) := by
  have H := h
  obtain ⟨hX, hM, hI, hr, ht, hO⟩ := h
  have i1 := hI.1
  unfold w5_asks w6_asks
  refine x_areTwo hX.1 i1 ?_
  rw [b01]
  by_cases c : isP (cN κ) p1 ∧ isP (cN κ) p2 ∧ ¬ p1 = p2
  · refine s_t (fun z => z c) ?_
    obtain ⟨i, j, hi, hj, hne, rfl, rfl⟩ := or_lt2 i1 c
    by_cases c3 : ¬ p3 < 0 ∧ ¬ (5 : Int32) < p3
    · obtain ⟨k, hk, rfl⟩ := rng (k := 5) (by decide) c3
      have vk : (nI k).toInt = k := nI_toInt (by omega)
      have md : ∀ Qm : Int32 → S0 → Prop, (k = 0 → w6_powerOf M (nI i) (nI j) Qm) → (k = 1 → w6_powerOf M (nI j) (nI i) Qm) → (k = 2 → w6_tiresOf M (nI i) (nI j) (1 : Int32) Qm) → (k = 3 → w6_tiresOf M (nI i) (nI j) (0 : Int32) Qm) → (k = 4 → w6_winnerOf M (nI i) (nI j) Qm) → (k = 5 → w6_hasBehind M (nI i) (nI j) Qm) → w6_areTwo M (nI i) (nI j) (fun r2 M1 => ((r2 = 0) → (Qm (-1000 : Int32) M1)) ∧ ((¬ r2 = 0) → (w6_in M1 (Int32.toInt64 (nI k)) (0 : Int64) (5 : Int64) (fun r4 M3 => ((¬ r4 = 0) → ((((2 : Int32) ≤ (nI k)) → ((((5 : Int32) ≤ (nI k)) → (w6_hasBehind M3 (nI i) (nI j) (fun r6 M5 => Qm r6 M5))) ∧ ((¬ (5 : Int32) ≤ (nI k)) → (((¬ (nI k) = (4 : Int32)) → (((¬ (nI k) = (2 : Int32)) → (w6_tiresOf M3 (nI i) (nI j) (0 : Int32) (fun r8 M7 => Qm r8 M7))) ∧ (((nI k) = (2 : Int32)) → (w6_tiresOf M3 (nI i) (nI j) (1 : Int32) (fun r10 M9 => Qm r10 M9))))) ∧ (((nI k) = (4 : Int32)) → (w6_winnerOf M3 (nI i) (nI j) (fun r12 M11 => Qm r12 M11))))))) ∧ ((¬ (2 : Int32) ≤ (nI k)) → (((¬ (nI k) = 0) → (w6_powerOf M3 (nI j) (nI i) (fun r14 M13 => Qm r14 M13))) ∧ (((nI k) = 0) → (w6_powerOf M3 (nI i) (nI j) (fun r16 M15 => Qm r16 M15))))))) ∧ ((r4 = 0) → (Qm (-1000 : Int32) M3)))))) := by
        intro Qm a0 a1 a2 a3 a4 a5
        refine m_areTwo hM.1 i1 ?_
        rw [b01]
        refine br_f (fun z => z c) (m_in32 (b := 0) (c := 5) ?_)
        rw [b01]
        refine s_t (fun z => z c3) ?_
        rcases (by omega : k = 0 ∨ k = 1 ∨ k = 2 ∨ k = 3 ∨ k = 4 ∨ k = 5) with rfl | rfl | rfl | rfl | rfl | rfl
        · exact br_f (by decide) (s_f rfl (a0 rfl))
        · exact br_f (by decide) (s_t (by decide) (a1 rfl))
        · exact br_t (by decide) (br_f (by decide) (s_t (by decide) (s_f rfl (a2 rfl))))
        · exact br_t (by decide) (br_f (by decide) (s_t (by decide) (s_t (by decide) (a3 rfl))))
        · exact br_t (by decide) (br_f (by decide) (s_f rfl (a4 rfl)))
        · exact br_t (by decide) (br_t (by decide) (a5 rfl))
      have n0 : ∀ {a b : Nat} {P : Prop}, k = a → a ≠ b → k = b → P := fun x y z => absurd (x.symm.trans z) y
      rw [vk]
      refine ⟨fun e => ?_, fun e => ?_, fun e => ?_, fun e => ?_, fun e => ?_, fun e => ?_, fun e => by omega⟩
      · have e : k = 0 := by omega
        refine x_power (by decide) (by decide) hX hI hO.1 ht hi hj hne (fun X1 f1 => ?_)
        exact md _ (fun _ => m_powerOf hM hI hO.2.1 ht hi hj (fun M1 f2 => ⟨rfl, _, H.keep f1.t f2.q⟩)) (n0 e (by decide)) (n0 e (by decide)) (n0 e (by decide)) (n0 e (by decide)) (n0 e (by decide))
      · have e : k = 1 := by omega
        refine x_power (by decide) (by decide) hX hI hO.1 ht hj hi (fun z => hne z.symm) (fun X1 f1 => ?_)
        exact md _ (n0 e (by decide)) (fun _ => m_powerOf hM hI hO.2.1 ht hj hi (fun M1 f2 => ⟨rfl, _, H.keep f1.t f2.q⟩)) (n0 e (by decide)) (n0 e (by decide)) (n0 e (by decide)) (n0 e (by decide))
      · have e : k = 2 := by omega
        refine x_tiring (won := true) (by decide) (by decide) hX hI hO.1 ht hi hj hne (fun X1 f1 => ?_)
        exact md _ (n0 e (by decide)) (n0 e (by decide)) (fun _ => m_tiresOf (won := true) hM hI hO.2.1 ht hi hj (fun M1 f2 => ⟨rfl, _, H.keep f1.t f2.q⟩)) (n0 e (by decide)) (n0 e (by decide)) (n0 e (by decide))
      · have e : k = 3 := by omega
        refine x_tiring (won := false) (by decide) (by decide) hX hI hO.1 ht hi hj hne (fun X1 f1 => ?_)
        exact md _ (n0 e (by decide)) (n0 e (by decide)) (n0 e (by decide)) (fun _ => m_tiresOf (won := false) hM hI hO.2.1 ht hi hj (fun M1 f2 => ⟨rfl, _, H.keep f1.t f2.q⟩)) (n0 e (by decide)) (n0 e (by decide))
      · have e : k = 4 := by omega
        refine x_winner (by decide) (by decide) hX hI hO.1 ht hi hj hne (fun X1 f1 => ?_)
        exact md _ (n0 e (by decide)) (n0 e (by decide)) (n0 e (by decide)) (n0 e (by decide)) (fun _ => m_winnerOf hM hI hO.2.1 ht hi hj (fun M1 f2 => ⟨rfl, _, H.keep f1.t f2.q⟩)) (n0 e (by decide))
      · have e : k = 5 := by omega
        refine x_manyBehind hX hI hO.1 ht hi hj hne (fun X1 f1 => ?_)
        exact md _ (n0 e (by decide)) (n0 e (by decide)) (n0 e (by decide)) (n0 e (by decide)) (n0 e (by decide)) (fun _ => m_hasBehind hO.2.2.2.2.2.2.2.1 hM hI hO.2.1 ht hi hj hne (fun M1 q2 => ⟨rfl, _, H.keep f1 q2⟩))
    · have o := rngN (k := 5) (by decide) c3
      refine ⟨fun e => by omega, fun e => by omega, fun e => by omega, fun e => by omega, fun e => by omega, fun e => by omega, fun _ => m_areTwo hM.1 i1 ?_⟩
      rw [b01]
      refine br_f (fun z => z c) (m_in32 (b := 0) (c := 5) ?_)
      rw [b01]
      exact s_f c3 ⟨rfl, _, H⟩
  · refine s_f c (m_areTwo hM.1 i1 ?_)
    rw [b01]
    exact br_t c ⟨rfl, _, H⟩
/-- whom to play: the greatest number, and who it is -/
def beV (tv : TV) (κ : CS) (i q : Nat) : Int32 := if q = i then -1 else nI (pc8 (cH (meetS tv κ i q) i))
def beF (tv : TV) (κ : CS) (i : Nat) : Nat → Nat → Int32 → Int32 → Int32 × Int32
  | 0, _, m, w => (m, w)
  | f + 1, q, m, w => if beV tv κ i q ≤ m then beF tv κ i f (q + 1) m w else beF tv κ i f (q + 1) (beV tv κ i q) (nI q)
theorem x_best_b {i : Nat} {wh : Int32} {Q : Int32 → S0 → Prop} (hI : IC κ) (ht : cT κ < nT) (hi : i < cN κ) : ∀ (f q n : Nat) (X : S0) (m w : Int32), RelX 10 κ X → TX tv nT g X → q + f = cN κ → f < n → (∀ X' : S0, FT X X' → Q (if wh = 0 then (beF tv κ i f q m w).2 else (beF tv κ i f q m w).1) X') → w5_best_b31 g Q n X (nI i) wh m w (nI q) := by
  have i1 := hI.1
  intro f
  induction f with
  | zero =>
    intro q n X m w hX hT e hn h
    cases n with
    | zero => omega
    | succ n =>
      rw [w5_best_b31, hX.1]
      have h := h X FT.rf
      refine br_t (nI_le (by omega) (by omega)) ⟨fun c => ?_, fun c => ?_⟩
      · rw [if_neg c] at h; exact h
      · rw [if_pos c] at h; exact h
  | succ f ih =>
    intro q n X m w hX hT e hn h
    cases n with
    | zero => omega
    | succ n =>
      rw [w5_best_b31, hX.1]
      have eq : nI q = nI i ↔ q = i := nI_eq (by omega) (by omega)
      rw [eq]
      rw [beF] at h
      refine br_f (nI_ge (by omega) (by omega)) ⟨fun c => x_manyBehind hX hI hT ht hi (by omega) (fun z => c z.symm) (fun X1 f1 => ?_), fun c => ?_⟩
      · have ev : beV tv κ i q = nI (pc8 (cH (meetS tv κ i q) i)) := if_neg c
        rw [ev] at h
        refine ⟨fun c2 => ?_, fun c2 => ?_⟩
        · rintro _ rfl
          rw [nI_1]
          rw [if_pos c2] at h
          exact ih (q + 1) n X1 _ _ (hX.t f1 (by decide) (by decide)) (hT.t f1) (by omega) (by omega) (fun X' f' => h X' (f1.tr f'))
        · rintro _ rfl
          rw [nI_1]
          rw [if_neg c2] at h
          exact ih (q + 1) n X1 _ _ (hX.t f1 (by decide) (by decide)) (hT.t f1) (by omega) (by omega) (fun X' f' => h X' (f1.tr f'))
      · have ev : beV tv κ i q = -1 := if_pos c
        rw [ev] at h
        refine ⟨fun c2 => ?_, fun c2 => ?_⟩
        · rintro _ rfl
          rw [nI_1]
          rw [if_pos c2] at h
          exact ih (q + 1) n X _ _ hX hT (by omega) (by omega) h
        · rintro _ rfl
          rw [nI_1]
          rw [if_neg c2] at h
          exact ih (q + 1) n X _ _ hX hT (by omega) (by omega) h
theorem m_best_b {i : Nat} {wh : Int32} {Q : Int32 → S0 → Prop} (hI : IC κ) (ht : cT κ < nT) (hi : i < cN κ) : ∀ (f q n : Nat) (M : S0) (m w : Int32), M 0 28 = nI 0 → RelM κ M → TM tv nT M → q + f = cN κ → f < n → (∀ M' : S0, QM 0 M M' → Q (if wh = 0 then (beF tv κ i f q m w).2 else (beF tv κ i f q m w).1) M') → w6_best_b29 Q n M (nI i) wh w m (nI q) := by
  have i1 := hI.1
  intro f
  induction f with
  | zero =>
    intro q n M m w h0 hM hT e hn h
    cases n with
    | zero => omega
    | succ n =>
      rw [w6_best_b29, hM.1]
      have h := h M QM.rf
      refine br_t (nI_le (by omega) (by omega)) ⟨fun c => ?_, fun c => ?_⟩
      · rw [if_neg c] at h; exact h
      · rw [if_pos c] at h; exact h
  | succ f ih =>
    intro q n M m w h0 hM hT e hn h
    cases n with
    | zero => omega
    | succ n =>
      rw [w6_best_b29, hM.1]
      have eq : nI q = nI i ↔ q = i := nI_eq (by omega) (by omega)
      rw [eq]
      rw [beF] at h
      refine br_f (nI_ge (by omega) (by omega)) ⟨fun c => m_hasBehind h0 hM hI hT ht hi (by omega) (fun z => c z.symm) (fun M1 f1 => ?_), fun c => ?_⟩
      · have ev : beV tv κ i q = nI (pc8 (cH (meetS tv κ i q) i)) := if_neg c
        rw [ev] at h
        have h01 : M1 0 28 = nI 0 := by rw [f1.1 0 28 (by decide) (by decide) (by omega)]; exact h0
        refine ⟨fun c2 => ?_, fun c2 => ?_⟩
        · rintro _ rfl
          rw [nI_1]
          rw [if_pos c2] at h
          exact ih (q + 1) n M1 _ _ h01 (hM.q i1 f1) (hT.q f1.g) (by omega) (by omega) (fun M' f' => h M' (f1.tr f'))
        · rintro _ rfl
          rw [nI_1]
          rw [if_neg c2] at h
          exact ih (q + 1) n M1 _ _ h01 (hM.q i1 f1) (hT.q f1.g) (by omega) (by omega) (fun M' f' => h M' (f1.tr f'))
      · have ev : beV tv κ i q = -1 := if_pos c
        rw [ev] at h
        refine ⟨fun c2 => ?_, fun c2 => ?_⟩
        · rintro _ rfl
          rw [nI_1]
          rw [if_pos c2] at h
          exact ih (q + 1) n M _ _ h0 hM hT (by omega) (by omega) h
        · rintro _ rfl
          rw [nI_1]
          rw [if_neg c2] at h
          exact ih (q + 1) n M _ _ h0 hM hT (by omega) (by omega) h
theorem op_best (h : Rel tv nT κ g X M) (p1 p2 : Int32) : w5_best g X p1 p2 (fun r X' => w6_best M p1 p2 (fun r' M' => Owes tv nT g r X' r' M')) := by
  have H := h
  obtain ⟨hX, hM, hI, hr, ht, hO⟩ := h
  have i1 := hI.1
  unfold w5_best w6_best
  refine x_isPlayer hX.1 i1 ?_
  rw [b01]
  by_cases c : isP (cN κ) p1
  · obtain ⟨i, hi, rfl⟩ := isP_of c (by omega)
    refine br_f (fun z => z c) (x_within ?_)
    rw [b01]
    by_cases c2 : ¬ p2 < 0 ∧ ¬ (1 : Int32) < p2
    · refine s_t (fun z => z c2) ⟨cN κ + 1, x_best_b hI ht hi (cN κ) 0 _ X _ _ hX hO.1 (Nat.zero_add _) (Nat.lt_succ_self _) (fun X1 f1 => ?_)⟩
      refine m_isOne hM.1 i1 ?_
      rw [b01]
      refine br_f (fun z => z c) (m_in32 (b := 0) (c := 1) ?_)
      rw [b01]
      refine s_t (fun z => z c2) ⟨cN κ + 1, m_best_b hI ht hi (cN κ) 0 _ M _ _ hO.2.2.2.2.2.2.2.1 hM hO.2.1 (Nat.zero_add _) (Nat.lt_succ_self _) (fun M1 q1 => ⟨rfl, _, H.keep f1 q1⟩)⟩
    · refine s_f c2 (m_isOne hM.1 i1 ?_)
      rw [b01]
      refine br_f (fun z => z c) (m_in32 (b := 0) (c := 1) ?_)
      rw [b01]
      exact s_f c2 ⟨rfl, _, H⟩
  · refine br_t c (m_isOne hM.1 i1 ?_)
    rw [b01]
    exact br_t c ⟨rfl, _, H⟩
end ASK
