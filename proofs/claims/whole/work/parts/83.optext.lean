/-! feed, text -/
def RdX (X : S0) : S0 := fun k j => X (5 + k) j
def putR (X R : S0) : S0 := fun k => if 5 ≤ k ∧ k ≤ 7 then R (k - 5) else X k
theorem putR_o {X R : S0} {k : Nat} (h : k < 5 ∨ 7 < k) : putR X R k = X k := if_neg (by omega)
theorem putR_5 {X R : S0} : putR X R 5 = R 0 := rfl
theorem putR_6 {X R : S0} : putR X R 6 = R 1 := rfl
def w5_feed (g : GX) (M : S0) (p1 : Int32) (Q : Int32 → S0 → Prop) : Prop :=
  w5_isWithin g M p1 (0 : Int32) (255 : Int32) (fun r2 M1 => ((¬ r2 = 0) → w1_append (RdX M1) p1 (fun r4 R => ((r4 = 0) → Q (-4 : Int32) (putR M1 R)) ∧ ((¬ r4 = 0) → Q (putR M1 R 5 1) (putR M1 R)))) ∧ ((r2 = 0) → Q (-2 : Int32) M1))
def gN (g : GX) (L : Nat) : GX := (fun k => if k = 66 + 3 * g.2 then L else g.1 k, g.2 + 1)
def xN (g : GX) (X : S0) (cf en : Nat → Int32) : S0 := fun k => if k = 66 + 3 * g.2 + 1 then cf else if k = 66 + 3 * g.2 + 2 then en else up (up X 2 (Int32.toNatClampNeg (X 1 3)) (nI (g.2 + 1))) 1 3 (X 1 3 + 1) k
def w5_text (g : GX) (X : S0) (Q : Int32 → GX → S0 → Prop) : Prop :=
  ((6 : Int32) ≤ X 1 3 → Q (-4) g X) ∧ (¬ (6 : Int32) ≤ X 1 3 → w1_read (RdX X) (fun R => Q (-100 - R 0 2) g (putR X R)) (fun L cf en R => (X 1 3 = nI g.2 ∧ g.2 < 6 ∧ ∀ t, X 2 t = if t < g.2 then nI (t + 1) else 0) ∧ Q (X 1 3 + 1 - 1) (gN g L) (xN g (putR X R) cf en)))
section OPT
variable {tv : TV} {nT : Nat} {κ : CS} {g : GX} {X M : S0}
theorem RO.tx {X' M' : S0} (h : RO tv nT κ g X M) (hX : ∀ k, k < 5 ∨ 7 < k → X' k = X k) (hM : ∀ k j, k ≠ 3 → (k ≠ 0 ∨ j = 3 ∨ j = 28 ∨ (31 < j ∧ j ≠ 100)) → (k ≠ 1 ∨ j < 160 * nT) → (k ≠ 2 ∨ j < nT) → M' k j = M k j) (hT : TapeR X' M') : RO tv nT κ g X' M' := by
  obtain ⟨h1, h2, h3, h4, h5, h6, h7, h8, h9, h10, h11, h12⟩ := h
  refine ⟨h1.fr (fun k hk => hX k (by omega)) (hX 2 (by omega)), h2.fr (fun r hr j hj => hM 1 _ (by omega) (by omega) (Or.inr (by omega)) (by omega)) (fun r hr => hM 2 _ (by omega) (by omega) (by omega) (Or.inr hr)), h3, h4, ?_, ?_, fun t => ?_, ?_, ?_, hT, fun i hi => (h11 i hi).fr hi (hX _ (by omega)) (hX _ (by omega)) (fun k j a b => hM k j (by omega) (by omega) (by omega) (by omega)), h12⟩
  · rw [hX 1 (by omega)]; exact h5
  · rw [hM 0 3 (by omega) (by omega) (by omega) (by omega)]; exact h6
  · rw [hX 2 (by omega)]; exact h7 t
  · rw [hM 0 28 (by omega) (by omega) (by omega) (by omega)]; exact h8
  · unfold KeptR
    rw [hX 0 (by omega), hM 0 34 (by omega) (by omega) (by omega) (by omega)]
    rcases h9 with h | ⟨κ', a1, a2, a3, a4, a5, a6, a7, a8⟩
    · exact Or.inl h
    · refine Or.inr ⟨κ', a1, ?_, ?_, a4, a5, a6, a7, a8⟩
      · unfold RelX
        rw [hX 16 (by omega), hX (16 + 1) (by omega), hX (16 + 2) (by omega), hX (16 + 3) (by omega), hX (16 + 4) (by omega), hX (16 + 5) (by omega)]
        exact a2
      · obtain ⟨b1, b2, b3, b4, b5⟩ := a3
        refine ⟨by rw [hM 0 34 (by omega) (by omega) (by omega) (by omega)]; exact b1, by rw [hM 0 33 (by omega) (by omega) (by omega) (by omega)]; exact b2, by rw [hM 0 35 (by omega) (by omega) (by omega) (by omega)]; exact b3, by rw [hM 0 36 (by omega) (by omega) (by omega) (by omega)]; exact b4, fun p hp => ?_⟩
        rw [hM 7 _ (by omega) (by omega) (by omega) (by omega), hM 7 _ (by omega) (by omega) (by omega) (by omega), hM 7 _ (by omega) (by omega) (by omega) (by omega), hM 7 _ (by omega) (by omega) (by omega) (by omega)]
        exact b5 p hp
theorem RelX.tx {X' : S0} (h : RelX 10 κ X) (hX : ∀ k, k < 5 ∨ 7 < k → X' k = X k) : RelX 10 κ X' := by
  unfold RelX
  rw [hX 10 (by omega), hX (10 + 1) (by omega), hX (10 + 2) (by omega), hX (10 + 3) (by omega), hX (10 + 4) (by omega), hX (10 + 5) (by omega)]
  exact h
theorem RelM.tx {M' : S0} (h : RelM κ M) (hM : ∀ k j, k ≠ 1 → k ≠ 2 → k ≠ 3 → (k ≠ 0 ∨ (j < 12 ∧ j ≠ 3 ∧ j ≠ 6)) → M' k j = M k j) : RelM κ M' := by
  obtain ⟨r1, r2, r3, r4, r5⟩ := h
  refine ⟨by rw [hM 0 11 (by omega) (by omega) (by omega) (by omega)]; exact r1, by rw [hM 0 8 (by omega) (by omega) (by omega) (by omega)]; exact r2, by rw [hM 0 7 (by omega) (by omega) (by omega) (by omega)]; exact r3, by rw [hM 0 4 (by omega) (by omega) (by omega) (by omega)]; exact r4, fun p hp => ?_⟩
  rw [hM 4 p (by omega) (by omega) (by omega) (by omega), hM 5 (4 * p) (by omega) (by omega) (by omega) (by omega), hM 5 (4 * p + 1) (by omega) (by omega) (by omega) (by omega), hM 5 (4 * p + 2) (by omega) (by omega) (by omega) (by omega), hM 5 (4 * p + 3) (by omega) (by omega) (by omega) (by omega)]
  exact r5 p hp
theorem op_feed (h : Rel tv nT κ g X M) (p1 : Int32) : w5_feed g X p1 (fun r X' => w6_feed M p1 (fun r' M' => Owes tv nT g r X' r' M')) := by
  have H := h
  obtain ⟨hX, hM, hI, hr, ht, hO⟩ := h
  obtain ⟨sz, z1, z2, z3, z4⟩ := hO.2.2.2.2.2.2.2.2.2.1
  unfold w5_feed w6_feed
  refine x_within ?_
  rw [b01]
  by_cases c : ¬ p1 < 0 ∧ ¬ (255 : Int32) < p1
  · refine s_t (fun z => z c) ?_
    obtain ⟨q, hq, rfl⟩ := rng (k := 255) (by decide) c
    unfold w1_append
    have e1 : RdX X 0 1 = nI sz := z2
    rw [e1]
    refine br_f (nI_pos (by omega)) ?_
    by_cases c2 : sz < 160
    · refine br_t (nI_lt (b := 160) c2 (by decide)) ⟨vpl _ _ c2 (by decide), ?_⟩
      rw [nI_clamp (by omega)]
      rintro _ rfl _ rfl
      rw [up_k (by decide), e1, nI_1]
      refine br_f (by decide) ?_
      refine m_in32 (b := 0) (c := 255) ?_
      rw [b01]
      refine s_t (fun z => z c) ?_
      rw [z3]
      refine s_t (fun z => ?_) ⟨vpl _ _ c2 (by decide), ?_⟩
      · have := (nI_eq (b := 160) (by omega) (by decide)).mp z
        omega
      rw [nI_clamp (by omega)]
      rintro _ rfl _ rfl
      have e6 : up M 3 sz (nI q) 0 6 = nI sz := by rw [up_k (by decide)]; exact z3
      rw [e6, nI_1]
      refine ⟨by rw [putR_5, up_s, up_s], κ, hX.tx (fun k hk => putR_o hk), hM.tx (fun k j a b d e => ?_), hI, hr, ht, hO.tx (fun k hk => putR_o hk) (fun k j a b d e => ?_) ⟨sz + 1, by omega, by rw [putR_5]; exact up_s, up_s, fun j hj => ?_⟩⟩
      · by_cases q2 : k = 0
        · subst q2; rw [up_j (by omega), up_k (by decide)]
        · rw [up_k q2, up_k d]
      · by_cases q2 : k = 0
        · subst q2; rw [up_j (by omega), up_k (by decide)]
        · rw [up_k q2, up_k a]
      · have em : up (up M 3 sz (nI q)) 0 6 (nI (sz + 1)) 3 = up M 3 sz (nI q) 3 := up_r (by decide)
        rw [putR_6, up_k (by decide), em]
        by_cases ej : j = sz
        · subst ej
          rw [up_s, up_s]
          exact ⟨rfl, q, by omega, rfl⟩
        · rw [up_j ej, up_j ej]
          exact z4 j (by omega)
    · have e : sz = 160 := by omega
      subst e
      refine br_f (by decide) (br_t rfl ?_)
      refine m_in32 (b := 0) (c := 255) ?_
      rw [b01]
      refine s_t (fun z => z c) ?_
      rw [z3]
      refine s_f rfl ⟨rfl, κ, ?_⟩
      have e : putR X (RdX X) = X := by
        funext k
        unfold putR
        by_cases q : 5 ≤ k ∧ k ≤ 7
        · rw [if_pos q]
          show X (5 + (k - 5)) = X k
          rw [show 5 + (k - 5) = k by omega]
        · rw [if_neg q]
      rw [e]
      exact H
  · refine s_f c ?_
    refine m_in32 (b := 0) (c := 255) ?_
    rw [b01]
    exact s_f c ⟨rfl, _, H⟩
theorem m_copy {sz nT : Nat} {Q : Int32 → S0 → Prop} (hn : nT < 6) (hs : sz ≤ 160) : ∀ (f i m : Nat) (M : S0), i + f = sz → f < m → M 0 6 = nI sz → M 0 3 = nI nT → (∀ M' : S0, (∀ k j, (k ≠ 1 ∨ j < 160 * nT) → M' k j = M k j) → (∀ j, i ≤ j → j < sz → M' 1 (160 * nT + j) = M 3 j) → (∀ j, j < i → M' 1 (160 * nT + j) = M 1 (160 * nT + j)) → w6_text_b14 Q 1 M' (nI sz)) → w6_text_b14 Q m M (nI i) := by
  intro f
  induction f with
  | zero =>
    intro i m M hi hm e6 e3 H
    have h := H M (fun _ _ _ => rfl) (fun j a b => by omega) (fun _ _ => rfl)
    have e : i = sz := by omega
    subst e
    obtain ⟨m, rfl⟩ : ∃ m', m = m' + 1 := ⟨m - 1, by omega⟩
    rw [w6_text_b14] at h ⊢
    rw [e6] at h ⊢
    exact br_t (nI_le (by omega) (by omega)) (h.1 (nI_le (by omega) (by omega)))
  | succ f ih =>
    intro i m M hi hm e6 e3 H
    obtain ⟨m, rfl⟩ : ∃ m', m = m' + 1 := ⟨m - 1, by omega⟩
    rw [w6_text_b14, e6, e3, show (160 : Int32) = nI 160 from rfl, nI_mul, nI_add]
    refine br_f (nI_ge (by omega) (by omega)) ⟨vpl _ _ (by omega) (by decide), vpl _ _ (by omega) (by decide), ?_⟩
    rw [nI_clamp (by omega), nI_clamp (by omega)]
    rintro _ rfl _ rfl
    rw [nI_1]
    refine ih (i + 1) m _ (by omega) (by omega) (by rw [up_k (by decide)]; exact e6) (by rw [up_k (by decide)]; exact e3) (fun M' f1 f2 f3 => H M' (fun k j q => ?_) (fun j a b => ?_) (fun j a => ?_))
    · rw [f1 k j q]
      rcases q with q | q
      · exact up_k q
      · by_cases z : k = 1
        · subst z; exact up_j (by omega)
        · exact up_k z
    · by_cases ej : j = i
      · subst ej
        rw [f3 j (by omega), up_s]
      · rw [f2 j (by omega) b, up_k (by decide)]
    · rw [f3 j (by omega), up_j (by omega)]
theorem txt_ok {b : Nat → Int32} {n : Nat} (hb : Bf b n) {d1 d2 d3 : List Int32} (h : txt b = .inr (d1, d2, d3)) : ∀ (v : Nat → Int32) (part : Nat), part < 3 → ∃ x, Evl v (pk3 d1 d2 d3 part) 31 x := by
  have s0 := scn_ok hb (Nat.zero_le n)
  unfold txt at h
  cases e1 : prt b 1 (scn b 0) with
  | inl a => rw [e1] at h; cases h
  | inr q1 =>
    obtain ⟨c1, s1⟩ := q1
    have k1 := prt_ok hb (by decide) e1 s0.1
    simp only [e1] at h
    cases e2 : prt b 2 s1 with
    | inl a => simp only [e2] at h; cases h
    | inr q2 =>
      obtain ⟨c2, s2⟩ := q2
      have k2 := prt_ok hb (by decide) e2 k1.1
      simp only [e2] at h
      cases e3 : prt b 3 s2 with
      | inl a => simp only [e3] at h; cases h
      | inr q3 =>
        obtain ⟨c3, s3⟩ := q3
        have k3 := prt_ok hb (by decide) e3 k2.1
        simp only [e3] at h
        by_cases c8 : tk s3 = 8
        · rw [if_pos c8] at h
          have q1 := Prod.mk.inj (Sum.inr.inj h)
          have q2 := Prod.mk.inj q1.2
          rw [← q1.1, ← q2.1, ← q2.2]
          intro v part hp
          rcases (by omega : part = 0 ∨ part = 1 ∨ part = 2) with rfl | rfl | rfl
          · exact k1.2.2 v
          · exact k2.2.2 v
          · exact k3.2.2 v
        · rw [if_neg c8] at h; cases h
/-- text nT comes on both sides -/
theorem RO.txN {X' M' : S0} {d1 d2 d3 : List Int32} {b : Nat → Int32} {n L : Nat} (h : RO tv nT κ g X M) (hn : nT < 6) (hb : Bf b n) (htx : txt b = .inr (d1, d2, d3)) (hL : L = (d1 ++ (d2 ++ d3)).length) (hC : TC (gN g L) X' nT d1 d2 d3) (hX2 : ∀ t, X' 2 t = if t = nT then nI (nT + 1) else X 2 t) (hX1 : X' 1 3 = nI (nT + 1)) (hX0 : X' 0 = X 0) (hX : ∀ k, 7 < k → k < 66 + 3 * nT → X' k = X k) (hM : ∀ k j, k ≠ 3 → (k ≠ 0 ∨ j = 28 ∨ (31 < j ∧ j ≠ 100)) → (k ≠ 1 ∨ j < 160 * nT) → (k ≠ 2 ∨ j < nT) → M' k j = M k j) (hM3 : M' 0 3 = nI (nT + 1)) (hm1 : ∀ j, j < n → M' 1 (160 * nT + j) = b j) (hm2 : M' 2 nT = nI n) (hT : TapeR X' M') : RO (fun r part v => if r = nT then tvD (pk3 d1 d2 d3 part) v else tv r part v) (nT + 1) κ (gN g L) X' M' := by
  obtain ⟨h1, h2, h3, h4, h5, h6, h7, h8, h9, h10, h11, h12⟩ := h
  have n160 := hb.1
  refine ⟨?_, ?_, by omega, by show g.2 + 1 = nT + 1; rw [h4], hX1, hM3, fun t => ?_, ?_, ?_, hT, fun i hi => (h11 i hi).fr hi (hX _ (by omega) (by omega)) (hX _ (by omega) (by omega)) (fun k j a b => hM k j (by omega) (by omega) (by omega) (by omega)), h12⟩
  · intro r hr part hp G Y v Q z1 z2 a a2 c d
    by_cases er : r = nT
    · subst er
      dsimp only at d
      rw [if_pos rfl] at d
      obtain ⟨x, hx⟩ := txt_ok hb htx v part hp
      rw [(tvD_e hx).2] at d
      obtain ⟨t1, t2, t3, t4, t5, t6⟩ := hC
      refine x_valueOf hn (z1 (by show r < g.2 + 1; omega)) (a2.trans ((hX2 r).trans (if_pos rfl))) ⟨z2.trans t1, t2, fun i hi => by rw [a _ (by omega) (by omega)]; exact t3 i hi, by rw [a _ (by omega) (by omega)]; exact t4, by rw [a _ (by omega) (by omega)]; exact t5, by rw [a _ (by omega) (by omega)]; exact t6⟩ hp c hx d
    · dsimp only at d
      rw [if_neg er] at d
      refine h1 r (by omega) part hp G Y v Q (fun z => z1 (by show r < g.2 + 1; omega)) (z2.trans (by show (if 66 + 3 * r = 66 + 3 * g.2 then L else g.1 (66 + 3 * r)) = _; rw [if_neg (by omega)])) (fun k k1 k2 => (a k k1 k2).trans (hX k (by omega) (by omega))) (a2.trans ((hX2 r).trans (if_neg er))) c d
  · intro r hr part hp Y v Q a a2 c d
    by_cases er : r = nT
    · subst er
      dsimp only at d
      rw [if_pos rfl] at d
      refine m_read hb hn hp (fun j hj => (a j (by omega)).trans (hm1 j hj)) (a2.trans hm2) c (fun e1 e2 e3 et x1 x2 x3 hx1 hx2 hx3 M2 sc _ => ?_) (fun a' et => by rw [htx] at et; cases et)
      rw [htx] at et
      have q1 := Prod.mk.inj (Sum.inr.inj et)
      have q2 := Prod.mk.inj q1.2
      rw [← q1.1] at hx1
      rw [← q2.1] at hx2
      rw [← q2.2] at hx3
      have k := d M2 sc
      rcases (by omega : part = 0 ∨ part = 1 ∨ part = 2) with rfl | rfl | rfl
      · rw [show tvD (pk3 d1 d2 d3 0) v = x1 from (tvD_e hx1).2] at k; exact k
      · rw [show tvD (pk3 d1 d2 d3 1) v = x2 from (tvD_e hx2).2] at k; exact k
      · rw [show tvD (pk3 d1 d2 d3 2) v = x3 from (tvD_e hx3).2] at k; exact k
    · dsimp only at d
      rw [if_neg er] at d
      exact h2 r (by omega) part hp Y v Q (fun j hj => (a j hj).trans (hM 1 _ (by omega) (by omega) (Or.inr (by omega)) (by omega))) (a2.trans (hM 2 _ (by omega) (by omega) (by omega) (Or.inr (by omega)))) c d
  · rw [hX2]
    by_cases et : t = nT
    · rw [if_pos et, if_pos (by omega), et]
    · rw [if_neg et, h7 t]
      by_cases et2 : t < nT
      · rw [if_pos et2, if_pos (by omega)]
      · rw [if_neg et2, if_neg (by omega)]
  · rw [hM 0 28 (by omega) (by omega) (by omega) (by omega)]; exact h8
  · unfold KeptR
    rw [hX0, hM 0 34 (by omega) (by omega) (by omega) (by omega)]
    rcases h9 with h | ⟨κ', a1, a2, a3, a4, a5, a6, a7, a8⟩
    · exact Or.inl h
    · refine Or.inr ⟨κ', a1, ?_, ?_, a4, a5, by omega, a7, a8⟩
      · unfold RelX
        rw [hX 16 (by omega) (by omega), hX (16 + 1) (by omega) (by omega), hX (16 + 2) (by omega) (by omega), hX (16 + 3) (by omega) (by omega), hX (16 + 4) (by omega) (by omega), hX (16 + 5) (by omega) (by omega)]
        exact a2
      · obtain ⟨b1, b2, b3, b4, b5⟩ := a3
        refine ⟨by rw [hM 0 34 (by omega) (by omega) (by omega) (by omega)]; exact b1, by rw [hM 0 33 (by omega) (by omega) (by omega) (by omega)]; exact b2, by rw [hM 0 35 (by omega) (by omega) (by omega) (by omega)]; exact b3, by rw [hM 0 36 (by omega) (by omega) (by omega) (by omega)]; exact b4, fun p hp => ?_⟩
        rw [hM 7 _ (by omega) (by omega) (by omega) (by omega), hM 7 _ (by omega) (by omega) (by omega) (by omega), hM 7 _ (by omega) (by omega) (by omega) (by omega), hM 7 _ (by omega) (by omega) (by omega) (by omega)]
        exact b5 p hp
theorem op_text (h : Rel tv nT κ g X M) : w5_text g X (fun r g' X' => w6_text M (fun r' M' => r = r' ∧ ∃ tv' nT' κ', Rel tv' nT' κ' g' X' M')) := by
  have H := h
  obtain ⟨hX, hM, hI, hr, ht, hO⟩ := h
  obtain ⟨sz, z1, z2, z3, z4⟩ := hO.2.2.2.2.2.2.2.2.2.1
  have n6 := hO.2.2.1
  have g2 := hO.2.2.2.1
  have x13 := hO.2.2.2.2.1
  have m3 := hO.2.2.2.2.2.1
  unfold w5_text w6_text
  rw [m3]
  rw [x13]
  by_cases c6 : nT = 6
  · subst c6
    exact br_t (by decide) (s_f rfl ⟨rfl, _, _, _, H⟩)
  · have hn : nT < 6 := by omega
    have ne6 : ¬ nI nT = 6 := fun z => c6 ((nI_eq (b := 6) (by omega) (by decide)).mp z)
    refine br_f (nI_ge (b := 6) hn (by decide)) ?_
    have hb : Bf (fun h => if h < sz then X 6 h else -1) sz := by
      refine ⟨z1, fun h hh => ?_, fun h hh => if_neg (by omega)⟩
      obtain ⟨c, hc, e⟩ := (z4 h hh).2
      exact ⟨c, hc, by show (if h < sz then X 6 h else -1) = _; rw [if_pos hh, (z4 h hh).1, e]⟩
    have hxt : XT (fun h => if h < sz then X 6 h else -1) sz (RdX X) := ⟨z2, fun h hh => by show X 6 h = (if h < sz then X 6 h else -1); rw [if_pos hh]⟩
    have go : ∀ Q : Int32 → S0 → Prop, (∀ (M4 : S0), (∀ k j, (k ≠ 1 ∨ j < 160 * nT) → (k ≠ 2 ∨ j ≠ nT) → (k ≠ 0 ∨ j ≠ 6) → M4 k j = M k j) → (∀ j, j < sz → M4 1 (160 * nT + j) = X 6 j) → M4 2 nT = nI sz → M4 0 6 = 0 → w6_read M4 (nI nT) (0 : Int32) (fun r6 M5 => (((M5 0 25) = 0) → (∀ M7 : S0, M7 = up M5 0 3 ((M5 0 3) + (1 : Int32)) → (Q ((M7 0 3) - (1 : Int32)) M7))) ∧ ((¬ (M5 0 25) = 0) → (Q ((-100 : Int32) - (M5 0 26)) M5)))) → ∃ n1, w6_text_b14 Q n1 M (0 : Int32) := by
      intro Q k
      refine ⟨sz + 1, m_copy hn z1 sz 0 _ M (by omega) (by omega) z3 m3 (fun M1 f1 f2 f3 => ?_)⟩
      rw [w6_text_b14, f1 0 6 (by omega), z3, f1 0 3 (by omega), m3]
      refine br_t (nI_le (by omega) (by omega)) ⟨vpl _ _ hn (by decide), ?_⟩
      rw [nI_clamp (by omega)]
      rintro _ rfl _ rfl
      rw [up_j (by decide), up_k (by decide), f1 0 3 (by omega), m3]
      refine k _ (fun k' j q1 q2 q3 => ?_) (fun j hj => ?_) (by rw [up_k (by decide)]; exact up_s) up_s
      · by_cases w0 : k' = 0
        · subst w0; rw [up_j (by omega), up_k (by decide)]; exact f1 0 j (by omega)
        · rw [up_k w0]
          by_cases w2 : k' = 2
          · subst w2; rw [up_j (by omega)]; exact f1 2 j (by omega)
          · rw [up_k w2]; exact f1 k' j q1
      · rw [up_k (by decide), up_k (by decide), f2 j (by omega) hj]
        exact ((z4 j hj).1).symm
    refine x_read hb hxt (fun d1 d2 d3 et len cf R' hcf hr1 => ?_) (fun a et R' hr2 hr1 => ?_)
    · refine ⟨⟨by rw [g2], by rw [g2]; exact hn, by rw [g2]; exact hO.2.2.2.2.2.2.1⟩, s_t ne6 (go _ (fun M4 f1 f2 f3 f4 => ?_))⟩
      refine m_read (v := fun i => M4 0 (12 + i)) hb hn (part := 0) (by decide) (fun j hj => by rw [f2 j hj]; show _ = (if j < sz then X 6 j else -1); rw [if_pos hj]) f3 (fun _ _ => rfl) (fun e1 e2 e3 et2 x1 x2 x3 hx1 hx2 hx3 M5 sc b0 => ?_) (fun a' et2 => by rw [et] at et2; cases et2)
      refine br_t b0 ?_
      rintro _ rfl
      have e53 : M5 0 3 = nI nT := by rw [sc 0 3 (by omega), f1 0 3 (by omega) (by omega) (by omega), m3]
      rw [e53, nI_1, up_s, nI_pred]
      refine ⟨rfl, _, nT + 1, κ, ?_, hM.tx (fun k j a b' d e => ?_), hI, hr, by omega, hO.txN (b := fun h => if h < sz then X 6 h else -1) (n := sz) hn hb et rfl ?_ (fun t => ?_) ?_ ?_ (fun k k1 k2 => ?_) (fun k j a b' d e => ?_) up_s (fun j hj => ?_) ?_ ⟨0, by omega, ?_, ?_, fun j hj => absurd hj (Nat.not_lt_zero j)⟩⟩
      · have hx : ∀ k, 7 < k → k < 66 → xN g (putR X R') cf (en3 (nI d1.length) (nI (d1.length + d2.length)) (nI (d1 ++ (d2 ++ d3)).length)) k = X k := by
          intro k k1 k2
          unfold xN
          rw [if_neg (by omega), if_neg (by omega), up_r (by omega), up_r (by omega)]
          exact putR_o (by omega)
        unfold RelX
        rw [hx 10 (by omega) (by omega), hx (10 + 1) (by omega) (by omega), hx (10 + 2) (by omega) (by omega), hx (10 + 3) (by omega) (by omega), hx (10 + 4) (by omega) (by omega), hx (10 + 5) (by omega) (by omega)]
        exact hX
      · by_cases q2 : k = 0
        · subst q2; rw [up_j (by omega), sc 0 j (by omega)]; exact f1 0 j (by omega) (by omega) (by omega)
        · rw [up_k q2, sc k j (by omega)]; exact f1 k j (by omega) (by omega) (by omega)
      · refine ⟨by show (if 66 + 3 * nT = 66 + 3 * g.2 then _ else _) = _; rw [if_pos (by rw [g2])], len, fun i hi => ?_, ?_, ?_, ?_⟩
        · unfold xN
          rw [g2, if_pos rfl]; exact hcf i hi
        · unfold xN
          rw [g2, if_neg (by omega), if_pos rfl]; rfl
        · unfold xN
          rw [g2, if_neg (by omega), if_pos rfl]; rfl
        · unfold xN
          rw [g2, if_neg (by omega), if_pos rfl]; rfl
      · unfold xN
        rw [if_neg (by omega), if_neg (by omega), up_k (by decide), putR_o (by omega), x13, nI_clamp (by omega)]
        by_cases et' : t = nT
        · subst et'; rw [if_pos rfl, up_s, g2]
        · rw [if_neg et', up_j et', putR_o (by omega)]
      · unfold xN
        rw [if_neg (by omega), if_neg (by omega), up_s, putR_o (by omega), x13, nI_1]
      · unfold xN
        rw [if_neg (by omega), if_neg (by omega), up_r (by decide), up_r (by decide), putR_o (by omega)]
      · unfold xN
        rw [if_neg (by omega), if_neg (by omega), up_r (by omega), up_r (by omega), putR_o (by omega)]
      · by_cases q2 : k = 0
        · subst q2; rw [up_j (by omega), sc 0 j (by omega)]; exact f1 0 j (by omega) (by omega) (by omega)
        · rw [up_k q2, sc k j (by omega)]; exact f1 k j d (by omega) (by omega)
      · rw [up_k (by decide), sc 1 _ (by omega), f2 j hj]
        show _ = (if j < sz then X 6 j else -1)
        rw [if_pos hj]
      · rw [up_k (by decide), sc 2 _ (by omega)]; exact f3
      · unfold xN
        rw [if_neg (by omega), if_neg (by omega), up_k (by decide), up_k (by decide), putR_5]; exact hr1
      · rw [up_j (by decide), sc 0 6 (by omega)]; exact f4
    · refine s_t ne6 (go _ (fun M4 f1 f2 f3 f4 => ?_))
      refine m_read (v := fun i => M4 0 (12 + i)) hb hn (part := 0) (by decide) (fun j hj => by rw [f2 j hj]; show _ = (if j < sz then X 6 j else -1); rw [if_pos hj]) f3 (fun _ _ => rfl) (fun e1 e2 e3 et2 => by rw [et] at et2; cases et2) (fun a' et2 x M5 sc b1 b2 => ?_)
      rw [et] at et2
      obtain rfl := Sum.inl.inj et2
      refine br_f (by rw [b1]; decide) ?_
      rw [hr2, b2]
      refine ⟨rfl, tv, nT, κ, hX.tx (fun k hk => putR_o hk), hM.tx (fun k j a b d e => ?_), hI, hr, ht, hO.tx (fun k hk => putR_o hk) (fun k j a b d e => ?_) ⟨0, by omega, by rw [putR_5]; exact hr1, ?_, fun j hj => absurd hj (Nat.not_lt_zero j)⟩⟩
      · rw [sc k j (by omega)]; exact f1 k j (by omega) (by omega) (by omega)
      · rw [sc k j (by omega)]; exact f1 k j d (by omega) (by omega)
      · rw [sc 0 6 (by omega)]; exact f4
end OPT
