/-! the class's Reader: it reads so -/
section XRD
variable {b : Nat → Int32} {n : Nat} {X : S0}
theorem s_f' {c A B : Prop} (h : c) (k : A) : (c → A) ∧ (¬ c → B) := ⟨fun _ => k, fun z => absurd h z⟩
theorem c01 {t : Bool} : (cond t (1 : Int32) 0 = 0) ↔ ¬ t = true := by cases t <;> decide
def XT (b : Nat → Int32) (n : Nat) (X : S0) : Prop := X 0 1 = nI n ∧ ∀ h, h < n → X 1 h = b h
theorem x_byteAt (hb : Bf b n) (t : XT b n X) {h : Nat} {Q : Int32 → S0 → Prop} (hh : h ≤ 160) (k : Q (b h) X) : w1_byteAt X (nI h) Q := by
  have n160 := hb.1
  unfold w1_byteAt
  refine br_f (nI_pos (by omega)) ?_
  rw [t.1]
  by_cases c : h < n
  · refine br_f (nI_ge c (by omega)) (br_f (nI_ge (b := 160) (by omega) (by omega)) ⟨vpl _ _ (by omega) (by omega), ?_⟩)
    rw [nI_clamp (by omega), t.2 h c]
    exact k
  · refine br_t (nI_le (by omega) (by omega)) ?_
    rw [hb.2.2 h (by omega)] at k
    exact k
theorem x_isLetter {x : Int32} {Q : Int32 → S0 → Prop} (h : Q (cond (isL x) 1 0) X) : w1_isLetter X x Q := by
  unfold w1_isLetter
  refine ⟨fun c => ?_, fun c => ⟨fun c2 => ?_, fun c2 => ?_⟩⟩
  · rw [show isL x = false from decide_eq_false (fun z => z.1 c)] at h; exact h
  · rw [show isL x = false from decide_eq_false (fun z => z.2 c2)] at h; exact h
  · rw [show isL x = true from decide_eq_true ⟨c, c2⟩] at h; exact h
theorem x_isDigit {x : Int32} {Q : Int32 → S0 → Prop} (h : Q (cond (isD x) 1 0) X) : w1_isDigit X x Q := by
  unfold w1_isDigit
  refine ⟨fun c => ?_, fun c => ⟨fun c2 => ?_, fun c2 => ?_⟩⟩
  · rw [show isD x = false from decide_eq_false (fun z => z.1 c)] at h; exact h
  · rw [show isD x = false from decide_eq_false (fun z => z.2 c2)] at h; exact h
  · rw [show isD x = true from decide_eq_true ⟨c, c2⟩] at h; exact h
theorem x_isSign {x : Int32} {Q : Int32 → S0 → Prop} (h : Q (cond (isG x) 1 0) X) : w1_isSign X x Q := by
  unfold w1_isSign
  have t : (x = 40 ∨ x = 41 ∨ x = 59 ∨ x = 43 ∨ x = 45 ∨ x = 42 ∨ x = 60 ∨ x = 61) → Q 1 X := fun z => by
    rw [show isG x = true from decide_eq_true z] at h; exact h
  refine ⟨fun c => t (Or.inl c), fun c1 => ⟨fun c => t (Or.inr (Or.inl c)), fun c2 => ⟨fun c => t (Or.inr (Or.inr (Or.inl c))), fun c3 => ⟨fun c => t (Or.inr (Or.inr (Or.inr (Or.inl c)))), fun c4 => ⟨fun c => t (Or.inr (Or.inr (Or.inr (Or.inr (Or.inl c))))), fun c5 => ⟨fun c => t (Or.inr (Or.inr (Or.inr (Or.inr (Or.inr (Or.inl c)))))), fun c6 => ⟨fun c => t (Or.inr (Or.inr (Or.inr (Or.inr (Or.inr (Or.inr (Or.inl c))))))), fun c7 => ⟨fun c8 => ?_, fun c => t (Or.inr (Or.inr (Or.inr (Or.inr (Or.inr (Or.inr (Or.inr c))))))) ⟩⟩⟩⟩⟩⟩⟩⟩
  rw [show isG x = false from decide_eq_false (fun z => by exact z.elim c1 (fun z => z.elim c2 (fun z => z.elim c3 (fun z => z.elim c4 (fun z => z.elim c5 (fun z => z.elim c6 (fun z => z.elim c7 c8)))))))] at h
  exact h
theorem XT.fr {X' : S0} (t : XT b n X) (f : ∀ k j, (k ≠ 0 ∨ j ≠ 5 ∧ j ≠ 6 ∧ j ≠ 7 ∧ j ≠ 8) → k ≠ 2 → X' k j = X k j) : XT b n X' := ⟨(f 0 1 (Or.inr (by decide)) (by decide)).trans t.1, fun h hh => (f 1 h (Or.inl (by decide)) (by decide)).trans (t.2 h hh)⟩
theorem XT.up {j : Nat} {x : Int32} (t : XT b n X) (hj : j ≠ 1) : XT b n (up X 0 j x) := ⟨by rw [up_j (by omega)]; exact t.1, fun h hh => by rw [up_k (by decide)]; exact t.2 h hh⟩
theorem x_word_b (hb : Bf b n) {Q : S0 → Prop} : ∀ (k h : Nat) (X : S0) (i m : Nat), n < h + k → i ≤ h → h ≤ n → k ≤ m → XT b n X → X 0 5 = nI h → (∀ X' : S0, (∀ k j, (k ≠ 0 ∨ j ≠ 5) → X' k j = X k j) → X' 0 5 = nI (spn b isL k h) → w1_readWord_b39 Q X') → w1_readWord_b2 Q m X (nI i) := by
  have n160 := hb.1
  intro k
  induction k with
  | zero => intro h X i m h1 h2 h3; omega
  | succ k ih =>
    intro h X i m h1 h2 h3 h4 t e H
    obtain ⟨m, rfl⟩ : ∃ m', m = m' + 1 := ⟨m - 1, by omega⟩
    rw [w1_readWord_b2]
    unfold spn at H
    by_cases ci : 160 ≤ i
    · refine br_t (nI_le (a := 160) ci (by omega)) (H X (fun _ _ _ => rfl) ?_)
      have e2 : isL (b h) = false := by rw [hb.2.2 h (by omega)]; decide
      rw [e2, if_neg (by decide)]
      exact e
    · refine br_f (nI_ge (b := 160) (by omega) (by omega)) ?_
      rw [e]
      refine x_byteAt hb t (by omega) (x_isLetter ?_)
      rw [c01]
      by_cases c : isL (b h) = true
      · refine br_f (fun z => z c) ?_
        rintro _ rfl _ rfl
        have hn : h < n := hb.in (fun z => by rw [z] at c; exact absurd c (by decide))
        rw [e, nI_1, nI_1]
        refine ih (h + 1) _ (i + 1) m (by omega) (by omega) (by omega) (by omega) (t.up (by decide)) up_s (fun X' f g => ?_)
        refine H X' (fun k' j' q => ?_) ?_
        · rw [f k' j' q]
          rcases q with q | q
          · exact up_k q
          · by_cases q2 : k' = 0
            · subst q2; exact up_j q
            · exact up_k q2
        · rw [if_pos c]; exact g
      · refine br_t c (H X (fun _ _ _ => rfl) ?_)
        rw [if_neg c]; exact e

theorem wrd_eq {b : Nat → Int32} {a e : Nat} {w : List Int32} : wrd b a e = w ↔ (e - a = w.length ∧ ∀ i, i < w.length → b (a + i) = w.getD i 0) := by
  unfold wrd
  constructor
  · rintro rfl
    refine ⟨by simp, fun i hi => ?_⟩
    rw [List.length_map, List.length_range] at hi
    rw [List.getD_eq_getElem?_getD, List.getElem?_map, List.getElem?_range hi]
    rfl
  · rintro ⟨h1, h2⟩
    apply List.ext_getElem?
    intro i
    rw [List.getElem?_map]
    rcases Nat.lt_or_ge i w.length with q | q
    · rw [List.getElem?_range (by omega), List.getElem?_eq_getElem q]
      have := h2 i q
      rw [List.getD_eq_getElem?_getD, List.getElem?_eq_getElem q] at this
      exact congrArg some this
    · rw [List.getElem?_eq_none (by rw [List.length_range]; omega), List.getElem?_eq_none q]
      rfl
theorem x_stands_b {q a e : Nat} {w : List Int32} {Q : Int32 → S0 → Prop} (hb : Bf b n) (hw : sLen.getD q 0 = w.length) (hc : ∀ i, i < w.length → sCh q i = w.getD i 0) (t : XT b n X) (ha : X 0 7 = nI a) (hae : a + w.length ≤ n) (h1 : (∀ i, i < w.length → b (a + i) = w.getD i 0) → Q 1 X) (h0 : ¬ (∀ i, i < w.length → b (a + i) = w.getD i 0) → Q 0 X) : ∀ (r i m : Nat), i + r = w.length → r < m → (∀ i', i' < i → b (a + i') = w.getD i' 0) → w1_stands_b37 q Q m X (nI i) := by
  have n160 := hb.1
  intro r
  induction r with
  | zero =>
    intro i m hi hm hp
    obtain ⟨m, rfl⟩ : ∃ m', m = m' + 1 := ⟨m - 1, by omega⟩
    rw [w1_stands_b37, hw]
    refine br_t (nI_le (by omega) (by omega)) (h1 (fun i' hi' => hp i' (by omega)))
  | succ r ih =>
    intro i m hi hm hp
    obtain ⟨m, rfl⟩ : ∃ m', m = m' + 1 := ⟨m - 1, by omega⟩
    rw [w1_stands_b37, hw, ha, nI_add]
    refine br_f (nI_ge (by omega) (by omega)) ⟨vpl _ _ (by omega) (by omega), vpl _ _ (by omega) (by omega), ?_⟩
    rw [nI_clamp (by omega), nI_clamp (by omega), t.2 _ (by omega), hc i (by omega)]
    refine ⟨fun c => ?_, fun c => h0 (fun z => c (z i (by omega)))⟩
    rintro _ rfl
    rw [nI_1]
    refine ih (i + 1) m (by omega) (by omega) (fun i' hi' => ?_)
    rcases Nat.lt_or_ge i' i with z | z
    · exact hp i' z
    · have : i' = i := by omega
      rw [this]; exact c
theorem x_stands {q a e : Nat} (w : List Int32) {Q : Int32 → S0 → Prop} (hb : Bf b n) (hw : sLen.getD q 0 = w.length) (hc : ∀ i, i < w.length → sCh q i = w.getD i 0) (hl : w.length < 2 ^ 31) (t : XT b n X) (ha : X 0 7 = nI a) (he : X 0 5 = nI e) (hae : a ≤ e) (hen : e ≤ n) (h1 : wrd b a e = w → Q 1 X) (h0 : ¬ wrd b a e = w → Q 0 X) : w1_stands q X Q := by
  have n160 := hb.1
  unfold w1_stands
  rw [ha, he, hw]
  refine br_f (nI_pos (by omega)) (br_f (nI_nlt (b := a) (a := 160) (by omega) (by omega) |> fun _ => nI_nlt (a := 160) (b := e) (by omega) (by omega)) ?_)
  rw [nI_sub hae]
  by_cases c : e - a = w.length
  · rw [c]
    refine br_t rfl ⟨w.length + 1, x_stands_b (a := a) (e := e) hb hw hc t ha (by omega) (fun z => h1 (wrd_eq.mpr ⟨c, z⟩)) (fun z => h0 (fun y => z (wrd_eq.mp y).2)) w.length 0 _ (by omega) (by omega) (fun i' hi' => by omega)⟩
  · refine br_f (fun z => c ?_) (h0 (fun y => c (wrd_eq.mp y).1))
    exact (nI_eq (by omega) hl).mp z
theorem x_b39 {a e : Nat} {Q : S0 → Prop} (hb : Bf b n) (t : XT b n X) (ha : X 0 7 = nI a) (he : X 0 5 = nI e) (hae : a ≤ e) (hen : e ≤ n) (H : Q (up X 0 6 (kwt (wrd b a e)))) : w1_readWord_b39 Q X := by
  have go : ∀ z : Int32, kwt (wrd b a e) = z → ∀ M : S0, M = up X 0 6 z → Q M := fun z hz M hM => by rw [hM, ← hz]; exact H
  unfold w1_readWord_b39
  refine x_stands [112, 108, 97, 121, 115] hb (by decide) (by decide) (by decide) t ha he hae hen (fun c => (fun k => ⟨fun z => absurd z (by decide), fun _ => k⟩) (go 1 (by rw [c]; decide))) (fun c0 => s_f' rfl ?_)
  refine x_stands [116, 104, 114, 111, 119, 115] hb (by decide) (by decide) (by decide) t ha he hae hen (fun c => (fun k => ⟨fun z => absurd z (by decide), fun _ => k⟩) (go 2 (by rw [c]; decide))) (fun c1 => s_f' rfl ?_)
  refine x_stands [116, 105, 114, 101, 115] hb (by decide) (by decide) (by decide) t ha he hae hen (fun c => (fun k => ⟨fun z => absurd z (by decide), fun _ => k⟩) (go 3 (by rw [c]; decide))) (fun c2 => s_f' rfl ?_)
  refine x_stands [111, 114] hb (by decide) (by decide) (by decide) t ha he hae hen (fun c => (fun k => ⟨fun z => absurd z (by decide), fun _ => k⟩) (go 4 (by rw [c]; decide))) (fun c3 => s_f' rfl ?_)
  refine x_stands [97, 110, 100] hb (by decide) (by decide) (by decide) t ha he hae hen (fun c => (fun k => ⟨fun z => absurd z (by decide), fun _ => k⟩) (go 5 (by rw [c]; decide))) (fun c4 => s_f' rfl ?_)
  refine x_stands [110, 111, 116] hb (by decide) (by decide) (by decide) t ha he hae hen (fun c => (fun k => ⟨fun z => absurd z (by decide), fun _ => k⟩) (go 6 (by rw [c]; decide))) (fun c5 => s_f' rfl ?_)
  refine x_stands [115, 116, 114, 111, 110, 103] hb (by decide) (by decide) (by decide) t ha he hae hen (fun c => (fun k => ⟨fun z => absurd z (by decide), fun _ => k⟩) (go 10 (by rw [c]; decide))) (fun c6 => s_f' rfl ?_)
  refine x_stands [104, 97, 115] hb (by decide) (by decide) (by decide) t ha he hae hen (fun c => (fun k => ⟨fun z => absurd z (by decide), fun _ => k⟩) (go 11 (by rw [c]; decide))) (fun c7 => s_f' rfl ?_)
  refine x_stands [110, 117, 109, 98, 101, 114] hb (by decide) (by decide) (by decide) t ha he hae hen (fun c => (fun k => ⟨fun z => absurd z (by decide), fun _ => k⟩) (go 12 (by rw [c]; decide))) (fun c8 => s_f' rfl ?_)
  refine x_stands [116, 104, 101, 105, 114, 115] hb (by decide) (by decide) (by decide) t ha he hae hen (fun c => (fun k => ⟨fun z => absurd z (by decide), fun _ => k⟩) (go 13 (by rw [c]; decide))) (fun c9 => s_f' rfl ?_)
  refine x_stands [114, 111, 117, 110, 100] hb (by decide) (by decide) (by decide) t ha he hae hen (fun c => (fun k => ⟨fun z => absurd z (by decide), fun _ => k⟩) (go 14 (by rw [c]; decide))) (fun c10 => s_f' rfl ?_)
  refine x_stands [115, 116, 97, 107, 101] hb (by decide) (by decide) (by decide) t ha he hae hen (fun c => (fun k => ⟨fun z => absurd z (by decide), fun _ => k⟩) (go 15 (by rw [c]; decide))) (fun c11 => s_f' rfl ?_)
  exact go 9 (by unfold kwt; rw [if_neg c0, if_neg c1, if_neg c2, if_neg c3, if_neg c4, if_neg c5, if_neg c6, if_neg c7, if_neg c8, if_neg c9, if_neg c10, if_neg c11])

theorem x_num_b (hb : Bf b n) {Q : S0 → Prop} : ∀ (k h : Nat) (X : S0) (i m cn w : Nat), n < h + k → i ≤ h → cn ≤ h → w < 10 ^ (min cn 4) → h ≤ n → k ≤ m → XT b n X → X 0 5 = nI h → X 0 8 = nI w → (∀ X' : S0, (∀ k j, (k ≠ 0 ∨ (j ≠ 5 ∧ j ≠ 6 ∧ j ≠ 8)) → X' k j = X k j) → X' 0 5 = nI (dgs b k h cn w).1 → X' 0 6 = (if 4 < (dgs b k h cn w).2.1 then 9 else 7) → X' 0 8 = nI (dgs b k h cn w).2.2 → Q X') → w1_readNumber_b9 Q m X (nI cn) (nI i) := by
  have n160 := hb.1
  intro k
  induction k with
  | zero => intro h X i m cn w h1 h2 h3 hw h4; omega
  | succ k ih =>
    intro h X i m cn w h1 h2 h3 hw h4 h5 t e ew H
    obtain ⟨m, rfl⟩ : ∃ m', m = m' + 1 := ⟨m - 1, by omega⟩
    rw [w1_readNumber_b9]
    unfold dgs at H
    have stop : isD (b h) = false → ∀ X2 : S0, X2 = X → (((nI cn ≤ (4 : Int32)) → (∀ M3 : S0, M3 = up X2 0 6 (7 : Int32) → (Q M3))) ∧ ((¬ nI cn ≤ (4 : Int32)) → (∀ M4 : S0, M4 = up X2 0 6 (9 : Int32) → (Q M4)))) := by
      intro z X2 e2
      subst e2
      rw [z] at H
      simp only [Bool.false_eq_true, if_false] at H
      refine ⟨fun c => ?_, fun c => ?_⟩
      · rintro _ rfl
        have c4 : cn ≤ 4 := (nI_leI (b := 4) (by omega) (by decide)).mp c
        refine H _ (fun k' j' q => ?_) (by rw [up_j (by decide)]; exact e) (by rw [if_neg (by omega)]; exact up_s) (by rw [up_j (by decide)]; exact ew)
        rcases q with q | q
        · exact up_k q
        · by_cases q2 : k' = 0
          · subst q2; exact up_j q.2.1
          · exact up_k q2
      · rintro _ rfl
        have c4 : ¬ cn ≤ 4 := fun z => c ((nI_leI (b := 4) (by omega) (by decide)).mpr z)
        refine H _ (fun k' j' q => ?_) (by rw [up_j (by decide)]; exact e) (by rw [if_pos (by omega)]; exact up_s) (by rw [up_j (by decide)]; exact ew)
        rcases q with q | q
        · exact up_k q
        · by_cases q2 : k' = 0
          · subst q2; exact up_j q.2.1
          · exact up_k q2
    by_cases ci : 160 ≤ i
    · refine br_t (nI_le (a := 160) ci (by omega)) (stop ?_ X rfl)
      rw [hb.2.2 h (by omega)]; decide
    · refine br_f (nI_ge (b := 160) (by omega) (by omega)) ?_
      rw [e]
      refine x_byteAt hb t (by omega) (x_isDigit ?_)
      rw [c01]
      by_cases c : isD (b h) = true
      · refine br_f (fun z => z c) ?_
        rintro _ rfl
        have hn : h < n := hb.in (fun z => by rw [z] at c; exact absurd c (by decide))
        rw [nI_1]
        rw [if_pos c] at H
        have w4 : w < 10000 := by
          have : 10 ^ (min cn 4) ≤ 10 ^ 4 := Nat.pow_le_pow_right (by decide) (Nat.min_le_right _ _)
          exact Nat.lt_of_lt_of_le hw this
        have hw2 := dgs_w (b := b) 1 h cn w hw
        unfold dgs at hw2
        rw [if_pos c] at hw2
        have hw2 : (if cn < 4 then 10 * w + (b h - 48).toNatClampNeg else w) < 10 ^ (min (cn + 1) 4) := hw2
        have fin : ∀ (w2 : Nat) (X2 : S0), X2 = up (up X 0 8 (nI w2)) 0 5 (nI (h + 1)) → (if cn < 4 then 10 * w + (b h - 48).toNatClampNeg else w) = w2 → w1_readNumber_b9 Q m X2 (nI (cn + 1)) (nI (i + 1)) := by
          intro w2 X2 e2 e3
          rw [e3] at H hw2
          subst e2
          refine ih (h + 1) _ (i + 1) m (cn + 1) w2 (by omega) (by omega) (by omega) hw2 (by omega) (by omega) ((t.up (by decide)).up (by decide)) up_s (by rw [up_j (by decide)]; exact up_s) (fun X' f g1 g2 g3 => H X' (fun k' j' q => ?_) g1 g2 g3)
          rw [f k' j' q]
          rcases q with q | q
          · rw [up_k q, up_k q]
          · by_cases q2 : k' = 0
            · subst q2; rw [up_j q.1, up_j q.2.2]
            · rw [up_k q2, up_k q2]
        refine ⟨fun c4 => ?_, fun c4 => ?_⟩
        · have c4 : cn + 1 ≤ 4 := (nI_leI (b := 4) (by omega) (by decide)).mp c4
          rw [e]
          refine x_byteAt hb t (by omega) ?_
          rintro _ rfl _ rfl _ rfl
          rw [nI_1]
          obtain ⟨dg, hdg, edg⟩ := isD_n c
          have e9 : ((X 0 8 * (10 : Int32)) + b h) - 48 = nI (10 * w + dg) := by
            rw [ew, edg, show (10 : Int32) = nI 10 from rfl, nI_mul, nI_add, show (48 : Int32) = nI 48 from rfl, nI_sub (by omega)]
            congr 1
            omega
          rw [e9, up_j (by decide), e, nI_1]
          refine fin _ _ rfl ?_
          rw [if_pos (by omega), edg, show (48 : Int32) = nI 48 from rfl, nI_sub (by omega), nI_clamp (by omega)]
          omega
        · have c4 : ¬ cn + 1 ≤ 4 := fun z => c4 ((nI_leI (b := 4) (by omega) (by decide)).mpr z)
          rintro _ rfl _ rfl _ rfl
          rw [ew, up_j (by decide), e, nI_1, nI_1]
          exact fin w _ rfl (if_neg (by omega))
      · refine br_t c (stop (Bool.eq_false_iff.mpr c) X rfl)
def tailN (Q : S0 → Prop) (M : S0) : Prop := (∀ M2 : S0, M2 = up M 0 7 (M 0 5) → (w1_byteAt M2 (M2 0 5) (fun r4 M3 => ((¬ r4 = (-1 : Int32)) → (w1_isLetter M3 r4 (fun r6 M5 => ((r6 = 0) → (w1_isDigit M5 r4 (fun r8 M7 => ((r8 = 0) → (∀ M9 : S0, M9 = up M7 0 5 ((M7 0 5) + (1 : Int32)) → (w1_isSign M9 r4 (fun r11 M10 => ((r11 = 0) → (∀ M12 : S0, M12 = up M10 0 6 (9 : Int32) → (Q M12))) ∧ ((¬ r11 = 0) → (∀ M13 : S0, M13 = up M10 0 6 r4 → (Q M13))))))) ∧ ((¬ r8 = 0) → (w1_readNumber M7 (fun M14 => Q M14)))))) ∧ ((¬ r6 = 0) → (w1_readWord M5 (fun M15 => Q M15)))))) ∧ ((r4 = (-1 : Int32)) → (∀ M16 : S0, M16 = up M3 0 6 (8 : Int32) → (Q M16))))))

/-- what next() leaves -/
def NX (X X' : S0) (s : TS) : Prop := (∀ k j, (k ≠ 0 ∨ j ≠ 5 ∧ j ≠ 6 ∧ j ≠ 7 ∧ j ≠ 8) → X' k j = X k j) ∧ X' 0 5 = nI (tp s) ∧ X' 0 6 = tk s ∧ X' 0 7 = nI (ta s) ∧ (tk s = 7 → X' 0 8 = nI (tw s))
theorem x_tail (hb : Bf b n) {Q : S0 → Prop} {a : Nat} (ha : a ≤ n) (t : XT b n X) (e : X 0 5 = nI a) (H : ∀ X' : S0, NX X X' (scA b a) → Q X') : tailN Q X := by
  have n160 := hb.1
  unfold tailN
  rintro _ rfl
  have t7 := t.up (j := 7) (x := X 0 5) (by decide)
  have e5 : up X 0 7 (X 0 5) 0 5 = nI a := by rw [up_j (by decide)]; exact e
  rw [e5]
  refine x_byteAt hb t7 (by omega) ?_
  unfold scA at H
  by_cases c1 : b a = -1
  · refine s_f c1 ?_
    rintro _ rfl
    rw [if_pos c1] at H
    refine H _ ⟨fun k j q => ?_, by rw [up_j (by decide)]; exact e5, up_s, by rw [up_j (by decide), up_s]; exact e, fun z => absurd z (by decide : ¬ (8 : Int32) = 7)⟩
    rcases q with q | q
    · rw [up_k q, up_k q]
    · by_cases q2 : k = 0
      · subst q2; rw [up_j q.2.1, up_j q.2.2.1]
      · rw [up_k q2, up_k q2]
  · rw [if_neg c1] at H
    have an := hb.in c1
    refine ⟨fun _ => ?_, fun z => absurd z c1⟩
    refine x_isLetter ?_
    rw [c01]
    by_cases c2 : isL (b a) = true
    · rw [if_pos c2] at H
      refine br_f (fun z => z c2) ?_
      unfold w1_readWord
      refine ⟨161, x_word_b hb 161 a _ 0 161 (by omega) (by omega) ha (by omega) t7 e5 (fun X' f g => ?_)⟩
      refine x_b39 (a := a) (e := spn b isL 161 a) hb ⟨(f 0 1 (by decide)).trans t7.1, fun h hh => (f 1 h (Or.inl (by decide))).trans (t7.2 h hh)⟩ ((f 0 7 (by decide)).trans (by rw [up_s]; exact e)) g (spn_ge _ _ _ _) (spn_le (hb.no m1_L) _ _ ha) ?_
      refine H _ ⟨fun k j q => ?_, by rw [up_j (by decide)]; exact g, up_s, ?_, fun z => absurd z kwt_7⟩
      · rcases q with q | q
        · rw [up_k q, f k j (Or.inl q), up_k q]
        · by_cases q2 : k = 0
          · subst q2; rw [up_j q.2.1, f 0 j (Or.inr q.1), up_j q.2.2.1]
          · rw [up_k q2, f k j (Or.inl q2), up_k q2]
      · rw [up_j (by decide), f 0 7 (by decide), up_s]; exact e
    · rw [if_neg c2] at H
      refine br_t c2 (x_isDigit ?_)
      rw [c01]
      by_cases c3 : isD (b a) = true
      · rw [if_pos c3] at H
        refine br_f (fun z => z c3) ?_
        unfold w1_readNumber
        rintro _ rfl
        refine ⟨161, x_num_b hb 161 a _ 0 161 0 0 (by omega) (by omega) (by omega) (by decide) ha (by omega) (t7.up (by decide)) (by rw [up_j (by decide)]; exact e5) up_s (fun X' f g1 g2 g3 => ?_)⟩
        refine H _ ⟨fun k j q => ?_, g1, g2, ?_, fun _ => g3⟩
        · rcases q with q | q
          · rw [f k j (Or.inl q), up_k q, up_k q]
          · by_cases q2 : k = 0
            · subst q2; rw [f 0 j (Or.inr ⟨q.1, q.2.1, q.2.2.2⟩), up_j q.2.2.2, up_j q.2.2.1]
            · rw [f k j (Or.inl q2), up_k q2, up_k q2]
        · rw [f 0 7 (by decide), up_j (by decide), up_s]; exact e
      · rw [if_neg c3] at H
        refine br_t c3 ?_
        rintro _ rfl
        refine x_isSign ?_
        rw [c01]
        have fr : ∀ (z : Int32) (k j : Nat), (k ≠ 0 ∨ j ≠ 5 ∧ j ≠ 6 ∧ j ≠ 7 ∧ j ≠ 8) → up (up (up X 0 7 (X 0 5)) 0 5 ((up X 0 7 (X 0 5)) 0 5 + 1)) 0 6 z k j = X k j := by
          intro z k j q
          rcases q with q | q
          · rw [up_k q, up_k q, up_k q]
          · by_cases q2 : k = 0
            · subst q2; rw [up_j q.2.1, up_j q.1, up_j q.2.2.1]
            · rw [up_k q2, up_k q2, up_k q2]
        by_cases c4 : isG (b a) = true
        · rw [if_pos c4, if_pos c4] at H
          refine br_f (fun z => z c4) ?_
          rintro _ rfl
          refine H _ ⟨fr _, by rw [up_j (by decide), up_s, e5, nI_1], up_s, by rw [up_j (by decide), up_j (by decide), up_s]; exact e, fun z => ?_⟩
          have z : b a = 7 := z
          rw [z] at c4
          exact absurd c4 (by decide)
        · rw [if_neg c4, if_neg c4] at H
          refine br_t c4 ?_
          rintro _ rfl
          exact H _ ⟨fr _, by rw [up_j (by decide), up_s, e5, nI_1], up_s, by rw [up_j (by decide), up_j (by decide), up_s]; exact e, fun z => absurd z (by decide : ¬ (9 : Int32) = 7)⟩
theorem x_next_b (hb : Bf b n) {Q : S0 → Prop} : ∀ (k h : Nat) (X : S0) (i m : Nat), n < h + k → i ≤ h → h ≤ n → k ≤ m → XT b n X → X 0 5 = nI h → (∀ X' : S0, NX X X' (scA b (spn b isB k h)) → Q X') → w1_next_b2 Q m X (nI i) := by
  have n160 := hb.1
  intro k
  induction k with
  | zero => intro h X i m h1 h2 h3; omega
  | succ k ih =>
    intro h X i m h1 h2 h3 h4 t e H
    obtain ⟨m, rfl⟩ : ∃ m', m = m' + 1 := ⟨m - 1, by omega⟩
    rw [w1_next_b2]
    have tl : ¬ isB (b h) = true → tailN Q X := fun z => by
      unfold spn at H
      rw [if_neg z] at H
      exact x_tail hb h3 t e H
    by_cases ci : 160 ≤ i
    · refine br_t (nI_le (a := 160) ci (by omega)) (tl ?_)
      rw [hb.2.2 h (by omega)]; decide
    · refine br_f (nI_ge (b := 160) (by omega) (by omega)) ?_
      rw [e]
      have step : isB (b h) = true → w1_next_b2 Q m (up X 0 5 (nI (h + 1))) (nI (i + 1)) := fun c => by
        have hn : h < n := hb.in (fun z => by rw [z] at c; exact absurd c (by decide))
        refine ih (h + 1) _ (i + 1) m (by omega) (by omega) (by omega) (by omega) (t.up (by decide)) up_s (fun X' f => ?_)
        unfold spn at H
        rw [if_pos c] at H
        refine H X' ⟨fun k' j' q => ?_, f.2⟩
        rw [f.1 k' j' q]
        rcases q with q | q
        · exact up_k q
        · by_cases q2 : k' = 0
          · subst q2; exact up_j q.1
          · exact up_k q2
      refine x_byteAt hb t (by omega) ?_
      refine ⟨fun c => ?_, fun c => ?_⟩
      · rintro _ rfl _ rfl
        rw [e, nI_1, nI_1]
        exact step (decide_eq_true (Or.inl c))
      rw [e]
      refine x_byteAt hb t (by omega) ?_
      refine ⟨fun c2 => ?_, fun c2 => ?_⟩
      · have tl2 := tl (fun z => by
          rcases of_decide_eq_true z with y | y
          · exact c y
          · exact c2 y)
        exact tl2
      · rintro _ rfl _ rfl
        rw [e, nI_1, nI_1]
        exact step (decide_eq_true (Or.inr c2))
theorem x_next (hb : Bf b n) {Q : S0 → Prop} {h : Nat} (hh : h ≤ n) (t : XT b n X) (e : X 0 5 = nI h) (H : ∀ X' : S0, NX X X' (scn b h) → Q X') : w1_next X Q := by
  have n160 := hb.1
  unfold w1_next
  exact ⟨161, x_next_b hb 161 h X 0 161 (by omega) (by omega) hh (by omega) t e H⟩
end XRD
