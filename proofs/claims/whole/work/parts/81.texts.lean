/-! a whole TEXT on both sides; what it says -/
theorem kwt_8 {w : List Int32} : ¬ kwt w = 8 := ite_n (by decide) (ite_n (by decide) (ite_n (by decide) (ite_n (by decide) (ite_n (by decide) (ite_n (by decide) (ite_n (by decide) (ite_n (by decide) (ite_n (by decide) (ite_n (by decide) (ite_n (by decide) (ite_n (by decide) (by decide))))))))))))
section TXS
variable {b : Nat → Int32} {n t : Nat} {v : Nat → Int32}
theorem m_part (hb : Bf b n) {q r : Int32} (hq : ¬ q = 8) (hq9 : ¬ q = 9) {s : TS} (hs : Sc b n s) {M : S0} (hM : SM b n t v s 0 M) {Q : Int32 → S0 → Prop} (r1 : tk s = q → r = 1) (r0 : ¬ tk s = q → r = 0) (H : ∀ d s', prt b q s = .inr (d, s') → ∀ x, Evl v d 31 x → ∀ M', GP M M' → SM b n t v s' 0 M' → Q x M') (HF : ∀ a, prt b q s = .inl a → ∀ x M', GP M M' → FM a M' → Q x M') : w6_part M r Q := by
  have n160 := hb.1
  unfold prt at H HF
  unfold w6_part
  by_cases c : tk s = q
  · rw [if_pos c] at H HF
    rw [r1 c]
    refine s_t (by decide) ?_
    unfold w6_part_b8
    have g := hs.nxlt hb (by rw [c]; exact hq)
    refine s_f hM.2.2.1 (hM.next hb hs (hs.n4 (by rw [c]; exact hq9)) (fun M1 g1 h1 => br_t h1.2.2.1 ⟨60, Nat.le_refl _, ?_⟩))
    refine (m_prs hb 250).1 5 (by omega) 0 (by omega) 60 (by omega) _ (hs.go hb) (by omega) M1 h1 _ (fun d s' e x hx M2 g2 h2 => ?_) (fun a e x M2 g2 h2 => ?_)
    · have k := (prs_ok hb _ _ _ _ _ _ _ e (hs.go hb)).1 (by omega)
      rw [e] at H HF
      refine h2.sign k.1 (p := 59) (by decide) (fun c59 => s_t (by decide) ?_) (fun c59 => s_f rfl ?_)
      · refine s_f h2.2.2.1 (h2.next hb k.1 (k.1.n4 (by rw [c59]; decide)) (fun M3 g3 h3 => H d (nx b s') ?_ x hx M3 ((g1.tr g2).tr g3) h3))
        show (if tk s' = 59 then _ else _) = _
        rw [if_pos c59]
      · refine h2.fail (fun M3 g3 h3 => s_t h3.bd (HF (ta s') ?_ x M3 ((g1.tr g2).tr g3) h3))
        show (if tk s' = 59 then _ else _) = _
        rw [if_neg c59]
    · exact h2.sign (s_f rfl (h2.fail (s_t h2.bd (HF a (by rw [e]; rfl) x M2 (g1.tr g2) h2))))
  · rw [if_neg c] at HF
    rw [r0 c]
    refine s_f rfl (hM.fail (fun M1 g1 h1 => ?_))
    unfold w6_part_b8
    exact s_t h1.bd (br_f h1.bd (h1.sign (s_f rfl (h1.fail (s_t h1.bd (HF _ rfl 0 M1 g1 h1))))))
theorem m_read (hb : Bf b n) (ht : t < 6) {part : Nat} (hp : part < 3) {M : S0} (h1 : ∀ h, h < n → M 1 (160 * t + h) = b h) (h2 : M 2 t = nI n) (h3 : ∀ i, i < 6 → M 0 (12 + i) = v i) {Q : Int32 → S0 → Prop} (H : ∀ d1 d2 d3, txt b = .inr (d1, d2, d3) → ∀ x1 x2 x3, Evl v d1 31 x1 → Evl v d2 31 x2 → Evl v d3 31 x3 → ∀ M', ScM M M' → M' 0 25 = 0 → Q (if part = 0 then x1 else if part = 1 then x2 else x3) M') (HF : ∀ a, txt b = .inl a → ∀ x M', ScM M M' → M' 0 25 = 1 → M' 0 26 = nI a → Q x M') : w6_read M (nI t) (nI part) Q := by
  have n160 := hb.1
  unfold w6_read
  have e160 : (160 : Int32) * nI t = nI (160 * t) := nI_mul 160 t
  rintro _ rfl
  refine ⟨vpl _ _ ht (by decide), ?_⟩
  rw [nI_clamp (n := t) (by omega), up_k (by decide), h2, e160]
  rintro _ rfl _ rfl _ rfl _ rfl
  generalize hM0 : up (up (up (up (up M 0 18 (nI (160 * t))) 0 19 (nI n)) 0 20 0) 0 24 0) 0 25 0 = M0
  have sc : ScM M M0 := by
    intro k j q
    rw [← hM0]
    by_cases z : k = 0
    · subst z
      rw [up_j (by omega), up_j (by omega), up_j (by omega), up_j (by omega), up_j (by omega)]
    · rw [up_k z, up_k z, up_k z, up_k z, up_k z]
  have mb : MB b n t v M0 := by
    refine ⟨ht, ?_, ?_, fun h hh => ?_, fun i hi => ?_⟩
    · rw [← hM0, up_j (by decide), up_j (by decide), up_j (by decide), up_j (by decide)]; exact up_s
    · rw [← hM0, up_j (by decide), up_j (by decide), up_j (by decide)]; exact up_s
    · rw [sc 1 _ (Or.inl (by decide))]; exact h1 h hh
    · rw [← hM0, up_j (by omega), up_j (by omega), up_j (by omega), up_j (by omega), up_j (by omega)]; exact h3 i hi
  have a24 : M0 0 24 = nI 0 := by rw [← hM0, up_j (by decide)]; exact up_s
  have a25 : M0 0 25 = 0 := by rw [← hM0]; exact up_s
  have a20 : M0 0 20 = nI 0 := by rw [← hM0, up_j (by decide), up_j (by decide)]; exact up_s
  have gsc : ∀ {A B : S0}, GP A B → ScM A B := fun g k j q => g k j (by omega)
  refine m_next hb (Nat.zero_le n) mb a20 (fun M1 f => ?_)
  have s0 := scn_ok hb (Nat.zero_le n)
  have h1 : SM b n t v (scn b 0) 0 M1 := ⟨mb.g f.1.p, (f.1 0 24 (Or.inr (by decide))).trans a24, (f.1 0 25 (Or.inr (by decide))).trans a25, f.2⟩
  have sc1 : ScM M M1 := sc.tr (gsc f.1.p)
  have sel : ∀ (x1 x2 x3 : Int32) (M' : S0), Q (if part = 0 then x1 else if part = 1 then x2 else x3) M' → ((¬ nI part = 0 → ((¬ nI part = (1 : Int32) → Q x3 M') ∧ (nI part = (1 : Int32) → Q x2 M'))) ∧ (nI part = 0 → Q x1 M')) := by
    intro x1 x2 x3 M' h
    rcases (by omega : part = 0 ∨ part = 1 ∨ part = 2) with rfl | rfl | rfl
    · exact s_f rfl h
    · exact s_t (by decide) (s_f rfl h)
    · exact s_t (by decide) (s_t (by decide) h)
  unfold txt at H HF
  have bad : ∀ a, (∀ x M', ScM M M' → M' 0 25 = 1 → M' 0 26 = nI a → Q x M') → ∀ (y1 y2 : Int32) (M' : S0), ScM M M' → FM a M' → w6_read_b93 Q M' (nI part) y1 y2 := by
    intro a HF y1 y2 M' s' h'
    unfold w6_read_b93
    exact br_f h'.bd (s_t h'.bd (sel y1 y2 0 M' (HF _ M' s' h'.1 h'.2)))
  have wq : ∀ {q : Int32} {w : List Int32} {s : TS} {M' : S0} {Q' : Int32 → S0 → Prop} {p1 p2 p3 p4 p5 p6 p7 p8 : Int32}, (q, w) ∈ kwT → Sc b n s → SM b n t v s 0 M' → (∀ i, i < 8 → [p1, p2, p3, p4, p5, p6, p7, p8].getD i 0 = w.getD i 0) → (∀ r, (tk s = q → r = 1) → (¬ tk s = q → r = 0) → Q' r M') → w6_isWord M' p1 p2 p3 p4 p5 p6 p7 p8 Q' := by
    intro q w s M' Q' p1 p2 p3 p4 p5 p6 p7 p8 hq hs hm hw k
    exact m_word hb q w hm hs hq hw (fun c => k 1 (fun _ => rfl) (fun z => absurd c z)) (fun c => k 0 (fun z => absurd z c) (fun _ => rfl))
  refine wq (q := 1) (w := [112, 108, 97, 121, 115]) (by decide) s0.1 h1 (by decide) (fun r9 ra rb => ?_)
  refine m_part hb (q := 1) (by decide) (by decide) s0.1 h1 ra rb (fun d1 s1 e1 x1 hx1 M2 g2 h2 => ?_) (fun a e1 x M2 g2 h2 => ?_)
  · have k1 := prt_ok hb (by decide) e1 s0.1
    rw [e1] at H HF
    refine br_t h2.2.2.1 ?_
    refine wq (q := 2) (w := [116, 104, 114, 111, 119, 115]) (by decide) k1.1 h2 (by decide) (fun r13 ra rb => ?_)
    refine m_part hb (q := 2) (by decide) (by decide) k1.1 h2 ra rb (fun d2 s2 e2 x2 hx2 M3 g3 h3 => ?_) (fun a e2 x M3 g3 h3 => ?_)
    · have k2 := prt_ok hb (by decide) e2 k1.1
      simp only [e2] at H HF
      unfold w6_read_b93
      refine br_t h3.2.2.1 ?_
      refine wq (q := 3) (w := [116, 105, 114, 101, 115]) (by decide) k2.1 h3 (by decide) (fun r17 ra rb => ?_)
      refine m_part hb (q := 3) (by decide) (by decide) k2.1 h3 ra rb (fun d3 s3 e3 x3 hx3 M4 g4 h4 => ?_) (fun a e3 x M4 g4 h4 => ?_)
      · have k3 := prt_ok hb (by decide) e3 k2.1
        simp only [e3] at H HF
        have sc4 : ScM M M4 := ((sc1.tr (gsc g2)).tr (gsc g3)).tr (gsc g4)
        refine s_f h4.2.2.1 ?_
        have e0 : M4 0 21 = 0 ↔ tk s3 = 8 := by
          rw [h4.2.2.2.1]
          have kk := k3.1.kt4
          constructor
          · intro z
            have z := (nI_eq (b := 0) (by omega) (by decide)).mp z
            rcases k3.1.2 with y | ⟨_, _, y | y | y | y⟩
            · exact y.2.1
            · omega
            · omega
            · omega
            · omega
          · intro z
            rcases k3.1.2 with y | ⟨_, _, y | y | y | y⟩
            · rw [y.1]; rfl
            · rw [y.2.1] at z
              exact absurd z kwt_8
            · rw [y.2.1] at z; exact absurd z (by decide)
            · rw [z] at y; exact absurd y.2 (by decide)
            · rw [z] at y; exact absurd y.2 (by decide)
        by_cases c8 : tk s3 = 8
        · rw [if_pos c8] at H
          refine br_t (e0.mpr c8) (sel x1 x2 x3 M4 (H d1 d2 d3 rfl x1 x2 x3 hx1 hx2 hx3 M4 sc4 h4.2.2.1))
        · rw [if_neg c8] at HF
          refine br_f (fun z => c8 (e0.mp z)) (h4.fail (fun M5 g5 h5 => sel x1 x2 x3 M5 (HF _ rfl _ M5 (sc4.tr (gsc g5)) h5.1 h5.2)))
      · simp only [e3] at HF
        refine s_t h4.bd (sel x1 x2 x M4 (HF a rfl _ M4 (((sc1.tr (gsc g2)).tr (gsc g3)).tr (gsc g4)) h4.1 h4.2))
    · simp only [e2] at HF
      exact bad a (HF a rfl) x1 x M3 ((sc1.tr (gsc g2)).tr (gsc g3)) h3
  · rw [e1] at HF
    refine br_f h2.bd (bad a (HF a rfl) x 0 M2 (sc1.tr (gsc g2)) h2)
/-! the class reads a whole TEXT -/
def wR_part (q : Int32) (R : S0) (Q : S0 → Prop) : Prop := w1_expect R q (fun X1 => ∃ d, d ≤ 60 ∧ w_PX d 5 X1 0 (fun X2 => w1_expect X2 59 Q))
def en3 (x y z : Int32) : Nat → Int32 := fun j => if j = 0 then x else if j = 1 then y else if j = 2 then z else 0
def w1_read (R : S0) (Qn : S0 → Prop) (Qs : Nat → (Nat → Int32) → (Nat → Int32) → S0 → Prop) : Prop :=
  w1_next (up (up (up R 0 2 (-1)) 0 4 0) 0 5 0) (fun R1 => wR_part 1 R1 (fun R2 => wR_part 2 R2 (fun R3 => wR_part 3 R3 (fun R4 => w1_expect R4 8 (fun R5 => (¬ R5 0 2 = -1 → Qn (up R5 0 1 0)) ∧ (R5 0 2 = -1 → ∃ L : Nat, L ≤ 160 ∧ R5 0 4 = nI L ∧ Qs L (fun j => if j < L then R5 2 j else 0) (en3 (R2 0 4) (R3 0 4) (R4 0 4)) (up R5 0 1 0)))))))
theorem x_read (hb : Bf b n) {R : S0} (hR : XT b n R) {Qn : S0 → Prop} {Qs : Nat → (Nat → Int32) → (Nat → Int32) → S0 → Prop} (H : ∀ d1 d2 d3, txt b = .inr (d1, d2, d3) → (d1 ++ (d2 ++ d3)).length ≤ 160 → ∀ (cf : Nat → Int32) R', (∀ i, i < (d1 ++ (d2 ++ d3)).length → cf i = (d1 ++ (d2 ++ d3)).getD i 0) → R' 0 1 = 0 → Qs (d1 ++ (d2 ++ d3)).length cf (en3 (nI d1.length) (nI (d1.length + d2.length)) (nI (d1 ++ (d2 ++ d3)).length)) R') (HF : ∀ a, txt b = .inl a → ∀ R', R' 0 2 = nI a → R' 0 1 = 0 → Qn R') : w1_read R Qn Qs := by
  have n160 := hb.1
  unfold w1_read
  have s0 := scn_ok hb (Nat.zero_le n)
  have t0 : XT b n (up (up (up R 0 2 (-1)) 0 4 0) 0 5 0) := ((hR.up (by decide)).up (by decide)).up (by decide)
  refine x_next hb (Nat.zero_le n) t0 up_s (fun R1 f => ?_)
  have h1 : SX b n (scn b 0) [] R1 := ⟨⟨(f.1 0 1 (Or.inr (by decide))).trans t0.1, fun h hh => (f.1 1 h (Or.inl (by decide))).trans (t0.2 h hh)⟩, by rw [f.1 0 2 (Or.inr (by decide)), up_j (by decide), up_j (by decide)]; exact up_s, by rw [f.1 0 4 (Or.inr (by decide)), up_j (by decide)]; exact up_s, fun i hi => absurd hi (Nat.not_lt_zero i), f.2.1, f.2.2.1, f.2.2.2.1, f.2.2.2.2⟩
  unfold txt at H HF
  have fin : ∀ a, (∀ R', R' 0 2 = nI a → R' 0 1 = 0 → Qn R') → ∀ (Z : Nat → (Nat → Int32)) R5, FR a R5 → ((¬ R5 0 2 = -1 → Qn (up R5 0 1 0)) ∧ (R5 0 2 = -1 → ∃ L : Nat, L ≤ 160 ∧ R5 0 4 = nI L ∧ Qs L (fun j => if j < L then R5 2 j else 0) (Z 0) (up R5 0 1 0))) := by
    intro a HF Z R5 h5
    refine s_t (by rw [h5.1]; exact nI_nm1 (by have := h5.2.2; omega)) (HF _ (by rw [up_j (by decide)]; exact h5.1) up_s)
  refine x_prt hb (by decide) s0.1 h1 (Nat.zero_le _) (fun d1 s1 e1 R2 h2 => ?_) (fun a e1 R2 h2 => ?_)
  · have k1 := prt_ok hb (by decide) e1 s0.1
    rw [e1] at H HF
    have h2 : SX b n s1 d1 R2 := h2
    refine x_prt hb (by decide) k1.1 h2 (by omega) (fun d2 s2 e2 R3 h3 => ?_) (fun a e2 R3 h3 => ?_)
    · have k2 := prt_ok hb (by decide) e2 k1.1
      simp only [e2] at H HF
      refine x_prt hb (by decide) k2.1 h3 (by rw [List.length_append]; omega) (fun d3 s3 e3 R4 h4 => ?_) (fun a e3 R4 h4 => ?_)
      · have k3 := prt_ok hb (by decide) e3 k2.1
        have k31 := k3.1.1
        simp only [e3] at H HF
        refine h4.expect hb k3.1 (fun c8 R5 h5 => ?_) (fun c8 R5 h5 => ?_)
        · rw [if_pos c8] at H
          have len : (d1 ++ (d2 ++ d3)).length ≤ 160 := by rw [List.length_append, List.length_append]; omega
          rw [List.append_assoc] at h5 h4
          refine s_f h5.2.1 ⟨_, len, h5.2.2.1, ?_⟩
          have := H d1 d2 d3 rfl len (fun j => if j < (d1 ++ (d2 ++ d3)).length then R5 2 j else 0) (up R5 0 1 0) (fun i hi => by show (if i < _ then _ else _) = _; rw [if_pos hi]; exact h5.2.2.2.1 i hi) up_s
          rw [h2.2.2.1, h3.2.2.1, h4.2.2.1, show (d1 ++ d2).length = d1.length + d2.length from List.length_append]
          exact this
        · rw [if_neg c8] at HF
          exact fin _ (HF _ rfl) (fun _ => _) R5 h5
      · simp only [e3] at HF
        exact h4.expect (by decide) (fun R5 h5 => fin a (HF a rfl) (fun _ => _) R5 h5)
    · simp only [e2] at HF
      exact x_prtF (by decide) h3 (fun R4 h4 => h4.expect (by decide) (fun R5 h5 => fin a (HF a rfl) (fun _ => _) R5 h5))
  · rw [e1] at HF
    exact x_prtF (by decide) h2 (fun R3 h3 => x_prtF (by decide) h3 (fun R4 h4 => h4.expect (by decide) (fun R5 h5 => fin a (HF a rfl) (fun _ => _) R5 h5)))
end TXS
