/-! who could have all -/
def alF (κ : CS) : Nat → Nat → Nat → Nat
  | 0, _, x => x
  | f + 1, p, x => alF κ f (p + 1) (if pc8 (cH κ p) = 8 then x ||| 2 ^ p else x)
def aB (s : Nat → Nat → Nat) (a : Nat) : Nat → Nat → Nat → Nat
  | 0, _, x => x
  | f + 1, b, x => aB s a f (b + 1) (x ||| s a b)
def aA (s : Nat → Nat → Nat) (N : Nat) : Nat → Nat → Nat → Nat
  | 0, _, x => x
  | f + 1, a, x => aA s N f (a + 1) (aB s a (N - (a + 1)) (a + 1) x)
def aS (tv : TV) (N : Nat) : Nat → CS → Nat
  | 0, κ => alF κ N 0 0
  | l + 1, κ => aA (fun a b => aS tv N l (meetS tv κ a b)) N N 0 (alF κ N 0 0)
theorem al_or (κ : CS) (y : Nat) : ∀ (f p x : Nat), alF κ f p (y ||| x) = y ||| alF κ f p x := by
  intro f
  induction f with
  | zero => intro p x; rfl
  | succ f ih =>
    intro p x
    rw [alF, alF, ← ih]
    by_cases c : pc8 (cH κ p) = 8
    · rw [if_pos c, if_pos c, Nat.or_assoc]
    · rw [if_neg c, if_neg c]
theorem aB_or (s : Nat → Nat → Nat) (a y : Nat) : ∀ (f b x : Nat), aB s a f b (y ||| x) = y ||| aB s a f b x := by
  intro f
  induction f with
  | zero => intro b x; rfl
  | succ f ih => intro b x; rw [aB, aB, ← ih, Nat.or_assoc]
theorem aA_or (s : Nat → Nat → Nat) (N y : Nat) : ∀ (f a x : Nat), aA s N f a (y ||| x) = y ||| aA s N f a x := by
  intro f
  induction f with
  | zero => intro a x; rfl
  | succ f ih => intro a x; rw [aA, aA, ← ih, aB_or]
theorem tw_s : ∀ t, t < 8 → (1 : Int32) <<< (nI t &&& 31) = nI (2 ^ t) := by decide +kernel
theorem tw_z : ∀ t, t < 8 → (0 : Int32) <<< (nI t &&& 31) = 0 := by decide +kernel
section ALL
variable {tv : TV} {nT : Nat} {κ : CS} {g : GX} {X M : S0}
theorem x_whoAll_b {b : Nat} {Q : Int32 → S0 → Prop} (hX : RelX b κ X) (hI : IC κ) : ∀ (f p n x : Nat), p + f = cN κ → f < n → Q (nI (alF κ f p x)) X → w0_whoHasAll_b4 g b Q n X (nI x) (nI p) := by
  have i1 := hI.1
  intro f
  induction f with
  | zero =>
    intro p n x e hn h
    cases n with
    | zero => omega
    | succ n =>
      rw [w0_whoHasAll_b4, hX.1]
      exact br_t (nI_le (by omega) (by omega)) h
  | succ f ih =>
    intro p n x e hn h
    cases n with
    | zero => omega
    | succ n =>
      rw [w0_whoHasAll_b4, hX.1]
      rw [alF] at h
      refine br_f (nI_ge (by omega) (by omega)) (x_howMany hX hI (by omega) ?_)
      have l8 := pc8_le (cH κ p)
      have e8 : nI (pc8 (cH κ p)) = 8 ↔ pc8 (cH κ p) = 8 := nI_eq (b := 8) (by omega) (by decide)
      rw [e8]
      refine ⟨fun c => ?_, fun c => ?_⟩
      · rintro _ rfl
        rw [nI_1]
        rw [if_neg c] at h
        exact ih (p + 1) n x (by omega) (by omega) h
      · rintro _ rfl _ rfl
        rw [nI_1, tw_s p (by omega), nx_or]
        rw [if_pos c] at h
        exact ih (p + 1) n _ (by omega) (by omega) h
theorem FT.d {d : Nat} {X X' : S0} (h : FD d X X') (h0 : ∀ j, X' 0 j = X 0 j) : FT X X' := fun k a b c => by
  by_cases e : k = 0
  · subst e; exact funext h0
  · exact h.1 k e a b (by omega)
theorem FX.d {d : Nat} {X X' : S0} (h : FX X X') : FD d X X' := ⟨fun k _ a b _ => h k a b, fun j _ _ => by rw [h 0 (by decide) (by decide)]⟩
theorem x_all {N n : Nat} (hN6 : N ≤ 6) (hn3 : n ≤ 3) : ∀ (l d c : Nat) (κ : CS) (X : S0) (Q : Int32 → S0 → Prop) (dd : Nat), l + d = n → l < dd → ((d = 0 ∧ c = 10) ∨ (0 < d ∧ c = 22 + 6 * d)) → RelX c κ X → X 10 7 = nI N → IC κ → cN κ = N → TX tv nT g X → cT κ < nT → (∀ X' : S0, FD d X X' → (∀ j, X' 0 j = X 0 j) → Q (nI (aS tv N l κ)) X') → w_WX g dd 0 c X (nI d) (nI n) Q := by
  intro l
  induction l with
  | zero =>
    intro d c κ X Q dd e hdd hc hX h7 hI hN hT ht h
    cases dd with
    | zero => omega
    | succ dd =>
      rw [w_WX]
      show w5_whoCouldHaveAll_body g (w_WX g dd) c X _ _ Q
      unfold w5_whoCouldHaveAll_body w0_whoHasAll
      refine ⟨N + 1, x_whoAll_b hX hI N 0 _ 0 (by omega) (Nat.lt_succ_self _) (br_f (nI_nlt (by omega) (by omega)) (h X FD.rf (fun _ => rfl)))⟩
  | succ l ih =>
    intro d c κ X Q dd e hdd hc hX h7 hI hN hT ht h
    cases dd with
    | zero => omega
    | succ dd =>
      rw [w_WX]
      show w5_whoCouldHaveAll_body g (w_WX g dd) c X _ _ Q
      unfold w5_whoCouldHaveAll_body w0_whoHasAll
      rw [aS] at h
      refine ⟨N + 1, x_whoAll_b hX hI N 0 _ 0 (by omega) (Nat.lt_succ_self _) (br_t (nI_lt (by omega) (by omega)) ⟨N + 1, ?_⟩)⟩
      have li : ∀ (a : Nat) (K : S0 → Int32 → Int32 → Int32 → Int32 → Prop) (f b m x : Nat) (X : S0), b + f = N → f < m → a < b → RelX c κ X → X 10 7 = nI N → TX tv nT g X → (∀ X' : S0, FD d X X' → (∀ j, X' 0 j = X 0 j) → K X' (nI d) (nI n) (nI (aB (fun a b => aS tv N l (meetS tv κ a b)) a f b x)) (nI (a + 1))) → w5_whoCouldHaveAll_b32 g (w_WX g dd) c K Q m X (nI d) (nI n) (nI x) (nI a) (nI b) := by
        intro a K f
        induction f with
        | zero =>
          intro b m x X e2 hm hab hX h7 hT h
          cases m with
          | zero => omega
          | succ m =>
            rw [w5_whoCouldHaveAll_b32, hX.1, hN]
            refine br_t (nI_le (by omega) (by omega)) ?_
            rintro _ rfl
            rw [nI_1]
            exact h X FD.rf (fun _ => rfl)
        | succ f ihf =>
          intro b m x X e2 hm hab hX h7 hT h
          cases m with
          | zero => omega
          | succ m =>
            rw [w5_whoCouldHaveAll_b32, hX.1, hN]
            rw [aB] at h
            refine br_f (nI_ge (by omega) (by omega)) (x_thinkOn (by omega) hc hX hI.1 (fun X1 f1 R1 z1 => ⟨fun z => (by cases z), fun k ek => ?_⟩))
            obtain rfl : 28 + 6 * d = k := Option.some.inj ek
            refine ⟨⟨d + 3, by omega, by omega⟩, x_meet (by omega) (by omega) R1 hI (hT.d f1) ht (by omega) (by omega) (by omega) (fun X2 f2 R2 => ?_)⟩
            have f2' : FD d X1 X2 := ⟨fun k a b c e => f2 k b c (by omega), fun j _ _ => by rw [f2 0 (by omega) (by omega) (by omega)]⟩
            have z2 : ∀ j, X2 0 j = X1 0 j := fun j => by rw [f2 0 (by omega) (by omega) (by omega)]
            rw [nI_1]
            refine ih (d + 1) (28 + 6 * d) (meetS tv κ a b) X2 _ dd (by omega) (by omega) (Or.inr ⟨by omega, by omega⟩) R2 (by rw [f2 10 (by omega) (by omega) (by omega), f1.1 10 (by omega) (by omega) (by omega) (by omega)]; exact h7) (ic_meet hI (by omega) (by omega) (by omega)) (by rw [meet_N]; exact hN) ((hT.d f1).d f2') (by rw [meet_T]; exact ht) (fun X3 f3 z3 => ?_)
            rintro _ rfl _ rfl
            rw [nI_1, nx_or]
            have ff := (f1.tr f2').tr f3.up
            have zz : ∀ j, X3 0 j = X 0 j := fun j => (z3 j).trans ((z2 j).trans (z1 j))
            exact ihf (b + 1) m _ X3 (by omega) (by omega) (by omega) (hX.d ff hc) (by rw [ff.1 10 (by omega) (by omega) (by omega) (by omega)]; exact h7) (hT.d ff) (fun X' f' z' => h X' (ff.tr f') (fun j => (z' j).trans (zz j)))
      have lo : ∀ (f a m x : Nat) (X : S0), a + f = N → f < m → RelX c κ X → X 10 7 = nI N → TX tv nT g X → (∀ X' : S0, FD d X X' → (∀ j, X' 0 j = X 0 j) → Q (nI (aA (fun a b => aS tv N l (meetS tv κ a b)) N f a x)) X') → w5_whoCouldHaveAll_b17 g (w_WX g dd) c Q m X (nI d) (nI n) (nI x) (nI a) := by
        intro f
        induction f with
        | zero =>
          intro a m x X e2 hm hX h7 hT h
          cases m with
          | zero => omega
          | succ m =>
            rw [w5_whoCouldHaveAll_b17, hX.1, hN]
            exact br_t (nI_le (by omega) (by omega)) (h X FD.rf (fun _ => rfl))
        | succ f ihf =>
          intro a m x X e2 hm hX h7 hT h
          cases m with
          | zero => omega
          | succ m =>
            rw [w5_whoCouldHaveAll_b17, hX.1, hN]
            rw [aA] at h
            refine br_f (nI_ge (by omega) (by omega)) ?_
            rintro _ rfl
            rw [nI_1]
            refine ⟨N - (a + 1) + 1, li a _ (N - (a + 1)) (a + 1) _ x X (by omega) (Nat.lt_succ_self _) (Nat.lt_succ_self _) hX h7 hT (fun X1 f1 z1 => ?_)⟩
            exact ihf (a + 1) m _ X1 (by omega) (by omega) (hX.d f1 hc) (by rw [f1.1 10 (by omega) (by omega) (by omega) (by omega)]; exact h7) (hT.d f1) (fun X' f' z' => h X' (f1.tr f') (fun j => (z' j).trans (z1 j)))
      exact lo N 0 (N + 1) _ X (Nat.zero_add _) (Nat.lt_succ_self _) hX h7 hT h
theorem m_triesW {Rc : Nat → S0 → Int32 → (S0 → Prop) → Prop} {Q : S0 → Prop} {L : Int32} (hI : IC κ) : ∀ (f p n x : Nat) (M : S0), p + f = cN κ → f < n → RelM κ M → M 0 31 = nI x → (∀ M' : S0, QM 8 M M' → M' 0 31 = nI (alF κ f p x) → ((¬ L = 0 → ∃ n2, w6_tries_b50 Rc Q n2 M' L 0) ∧ (L = 0 → Q M'))) → w6_tries_b2 Rc Q n M L (nI p) := by
  have i1 := hI.1
  intro f
  induction f with
  | zero =>
    intro p n x M e hn hM hx h
    cases n with
    | zero => omega
    | succ n =>
      rw [w6_tries_b2, hM.1]
      exact br_t (nI_le (by omega) (by omega)) (h M QM.rf hx)
  | succ f ih =>
    intro p n x M e hn hM hx h
    cases n with
    | zero => omega
    | succ n =>
      rw [w6_tries_b2, hM.1, hx, tw_s p (by omega), tw_z p (by omega)]
      rw [alF] at h
      refine br_f (nI_ge (by omega) (by omega)) (m_has hM i1 (by omega) ?_)
      have e8 : nI (cH κ p) = 255 ↔ pc8 (cH κ p) = 8 := by
        rw [pc8_8 _ (hI.2.1 p)]; exact nI_eq (b := 255) (ht8 hI p) (by decide)
      rw [e8]
      refine ⟨fun c => ?_, fun c => ?_⟩
      · rintro _ rfl _ rfl
        rw [nI_1]
        rw [if_neg c] at h
        have q : QM 8 M (up M 0 31 (nI x ||| 0)) := up_q (by decide) (by decide) (by decide)
        exact ih (p + 1) n x _ (by omega) (by omega) (hM.q i1 q) (by
          rw [up_s]; exact (nx_or x 0).trans (by rw [Nat.or_zero])) (fun M' q' => h M' (q.tr q'))
      · rintro _ rfl _ rfl
        rw [nI_1, nx_or]
        rw [if_pos c] at h
        have q : QM 8 M (up M 0 31 (nI (x ||| 2 ^ p))) := up_q (by decide) (by decide) (by decide)
        exact ih (p + 1) n _ _ (by omega) (by omega) (hM.q i1 q) up_s (fun M' q' => h M' (q.tr q'))
theorem QM.to8 {d : Nat} {X Y : S0} (h : QM 8 X Y) (hd : d ≤ 8) : QM d X Y := ⟨h.1, fun j hj => h.2.1 j (by omega), h.2.2⟩
theorem m_all {N n : Nat} (hN6 : N ≤ 6) (hn3 : n ≤ 3) : ∀ (l d : Nat) (κ : CS) (M : S0) (Q : S0 → Prop) (dd x : Nat), l + d = n → l < dd → RelM κ M → M 0 28 = nI d → IC κ → cN κ = N → TM tv nT M → cT κ < nT → M 0 31 = nI x → (∀ M' : S0, QM d M M' → M' 0 31 = nI (x ||| aS tv N l κ) → Q M') → w_TM dd 0 M (nI l) Q := by
  intro l
  induction l with
  | zero =>
    intro d κ M Q dd x e hdd hM h0 hI hN hT ht hx h
    cases dd with
    | zero => omega
    | succ dd =>
      rw [w_TM]
      show w6_tries_body (w_TM dd) M _ Q
      unfold w6_tries_body
      rw [aS] at h
      refine ⟨N + 1, m_triesW hI N 0 _ x M (by omega) (Nat.lt_succ_self _) hM hx (fun M' q hx' => s_f rfl (h M' (q.to8 (by omega)) ?_))⟩
      rw [hx', ← al_or, Nat.or_zero]
  | succ l ih =>
    intro d κ M Q dd x e hdd hM h0 hI hN hT ht hx h
    cases dd with
    | zero => omega
    | succ dd =>
      rw [w_TM]
      show w6_tries_body (w_TM dd) M _ Q
      unfold w6_tries_body
      rw [aS] at h
      refine ⟨N + 1, m_triesW hI N 0 _ x M (by omega) (Nat.lt_succ_self _) hM hx (fun M1 q1 hx1 => s_t (nI_ne0 (by omega) (by omega)) ⟨N + 1, ?_⟩)⟩
      have q1 : QM d M M1 := q1.to8 (by omega)
      have li : ∀ (a : Nat) (K : S0 → Int32 → Int32 → Prop) (f b m x : Nat) (M : S0), b + f = N → f < m → a < b → RelM κ M → M 0 28 = nI d → TM tv nT M → M 0 31 = nI x → (∀ M' : S0, QM d M M' → M' 0 31 = nI (aB (fun a b => aS tv N l (meetS tv κ a b)) a f b x) → K M' (nI (l + 1)) (nI (a + 1))) → w6_tries_b62 (w_TM dd) K Q m M (nI (l + 1)) (nI a) (nI b) := by
        intro a K f
        induction f with
        | zero =>
          intro b m x M e2 hm hab hM h0 hT hx h
          cases m with
          | zero => omega
          | succ m =>
            rw [w6_tries_b62, hM.1, hN]
            refine br_t (nI_le (by omega) (by omega)) ?_
            rintro _ rfl
            rw [nI_1]
            exact h M QM.rf hx
        | succ f ihf =>
          intro b m x M e2 hm hab hM h0 hT hx h
          cases m with
          | zero => omega
          | succ m =>
            rw [w6_tries_b62, hM.1, hN]
            rw [aB] at h
            refine br_f (nI_ge (by omega) (by omega)) (m_thought2 (d := d) (by omega) h0 hM (fun M1 t1 z1 R1 bk => m_games R1 hI (hT.h1 t1) ht (by omega) (by omega) (by omega) (fun M2 f2 R2 => ?_)))
            rw [nI_pred]
            refine ih (d + 1) (meetS tv κ a b) M2 _ dd x (by omega) (by omega) R2 (by rw [f2 0 28 (by omega) (by omega)]; exact z1) (ic_meet hI (by omega) (by omega) (by omega)) (by rw [meet_N]; exact hN) ((hT.h1 t1).g f2) (by rw [meet_T]; exact ht) (by rw [f2 0 31 (by omega) (by omega), t1.1 0 31 (by omega) (by omega)]; exact hx) (fun M3 f3 s3 => ?_)
            refine bk M3 (f2.q.tr f3.g) _ (fun M4 q4 y4 => ?_)
            rintro _ rfl
            rw [nI_1]
            exact ihf (b + 1) m _ M4 (by omega) (by omega) (by omega) (hM.q hI.1 q4) (q4.zd h0) (hT.q q4.g) (by rw [y4 31 (by omega) (by omega)]; exact s3) (fun M' f' => h M' (q4.tr f'))
      have lo : ∀ (f a m x : Nat) (M : S0), a + f = N → f < m → RelM κ M → M 0 28 = nI d → TM tv nT M → M 0 31 = nI x → (∀ M' : S0, QM d M M' → M' 0 31 = nI (aA (fun a b => aS tv N l (meetS tv κ a b)) N f a x) → Q M') → w6_tries_b50 (w_TM dd) Q m M (nI (l + 1)) (nI a) := by
        intro f
        induction f with
        | zero =>
          intro a m x M e2 hm hM h0 hT hx h
          cases m with
          | zero => omega
          | succ m =>
            rw [w6_tries_b50, hM.1, hN]
            exact br_t (nI_le (by omega) (by omega)) (h M QM.rf hx)
        | succ f ihf =>
          intro a m x M e2 hm hM h0 hT hx h
          cases m with
          | zero => omega
          | succ m =>
            rw [w6_tries_b50, hM.1, hN]
            rw [aA] at h
            refine br_f (nI_ge (by omega) (by omega)) ?_
            rintro _ rfl
            rw [nI_1]
            refine ⟨N - (a + 1) + 1, li a _ (N - (a + 1)) (a + 1) _ x M (by omega) (Nat.lt_succ_self _) (Nat.lt_succ_self _) hM h0 hT hx (fun M1 f1 s1 => ?_)⟩
            exact ihf (a + 1) m _ M1 (by omega) (by omega) (hM.q hI.1 f1) (f1.zd h0) (hT.q f1.g) s1 (fun M' f' => h M' (f1.tr f'))
      refine lo N 0 (N + 1) _ M1 (Nat.zero_add _) (Nat.lt_succ_self _) (hM.q hI.1 q1) (q1.zd h0) (hT.q q1.g) hx1 (fun M' q' s' => h M' (q1.tr q') ?_)
      rw [s', ← aA_or]
      congr 2
      rw [← al_or, Nat.or_zero]
theorem op_all (h : Rel tv nT κ g X M) (p1 : Int32) : w5_all g X p1 (fun r X' => w6_all M p1 (fun r' M' => Owes tv nT g r X' r' M')) := by
  have H := h
  obtain ⟨hX, hM, hI, hr, ht, hO⟩ := h
  have i1 := hI.1
  unfold w5_all
  refine x_within ?_
  rw [b01]
  by_cases c : ¬ p1 < 0 ∧ ¬ (3 : Int32) < p1
  · obtain ⟨n, hn, rfl⟩ := rng (k := 3) (by decide) c
    refine s_t (fun z => z c) ?_
    rw [hX.1]
    have md : ∀ X1 : S0, FD 0 X X1 → ∃ d, d ≤ 8 ∧ w_TM d 0 (up M 0 31 0) (nI n) (fun M5 => (fun r' M' => Owes tv nT g (nI (aS tv (cN κ) n κ)) X1 r' M') (M5 0 31) M5) := by
      intro X1 f1
      have q : QM 0 M (up M 0 31 0) := up_q (by decide) (by decide) (by decide)
      refine ⟨8, Nat.le_refl _, m_all i1 hn n 0 κ _ _ 8 0 (Nat.add_zero _) (by omega) (hM.q i1 q) (q.zd hO.2.2.2.2.2.2.2.1) hI rfl (hO.2.1.q q.g) ht up_s (fun M' q' s' => ⟨?_, _, H.keepD f1 (q.tr q')⟩)⟩
      rw [s', Nat.zero_or]
    have mi : ∀ Q : Int32 → S0 → Prop, ((¬ nI n = (3 : Int32)) → (∀ M3 : S0, M3 = up M 0 31 (0 : Int32) → (∃ d, d ≤ 8 ∧ w_TM  d 0 M3 (nI n) (fun M5 => Q (M5 0 31) M5)))) → ((nI n = (3 : Int32)) → (((nI (cN κ) ≤ (4 : Int32)) → (∀ M6 : S0, M6 = up M 0 31 (0 : Int32) → (∃ d, d ≤ 8 ∧ w_TM  d 0 M6 (nI n) (fun M8 => Q (M8 0 31) M8)))) ∧ ((¬ nI (cN κ) ≤ (4 : Int32)) → (Q (-3 : Int32) M)))) → w6_all M (nI n) Q := by
      intro Q a b
      unfold w6_all
      refine m_in32 (b := 0) (c := 3) ?_
      rw [b01, hM.1]
      exact s_t (fun z => z c) ⟨a, b⟩
    have xi : ∀ Q : Int32 → S0 → Prop, (∀ X1 : S0, FD 0 X X1 → Q (nI (aS tv (cN κ) n κ)) X1) → ∃ d, d ≤ 8 ∧ w_WX g d 0 10 X 0 (nI n) Q := fun Q q => ⟨8, Nat.le_refl _, x_all i1 hn n 0 10 κ X Q 8 (Nat.add_zero _) (by omega) (Or.inl ⟨rfl, rfl⟩) hX hX.1 hI rfl hO.1 ht (fun X' f' _ => q X' f')⟩
    refine ⟨fun c3 => xi _ (fun X1 f1 => mi _ (fun _ M3 e => by subst e; exact md X1 f1) (fun z => absurd z c3)), fun c3 => ⟨fun c4 => xi _ (fun X1 f1 => mi _ (fun z => absurd c3 z) (fun _ => br_t c4 (fun M3 e => by subst e; exact md X1 f1))), fun c4 => mi _ (fun z => absurd c3 z) (fun _ => br_f c4 ⟨rfl, _, H⟩)⟩⟩
  · refine s_f c ?_
    unfold w6_all
    refine m_in32 (b := 0) (c := 3) ?_
    rw [b01]
    exact s_f c ⟨rfl, _, H⟩
end ALL
