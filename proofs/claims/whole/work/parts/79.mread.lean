/-! the check reads tokens so -/
theorem i64_inj {x y : Int32} : x.toInt64 = y.toInt64 ↔ x = y := by
  constructor
  · intro h
    apply Int32.toInt_inj.mp
    rw [← Int32.toInt_toInt64, ← Int32.toInt_toInt64, h]
  · rintro rfl; rfl
/-- the words that are KEYS or NAMES -/
def kwT : List (Int32 × List Int32) := [(1, [112, 108, 97, 121, 115]), (2, [116, 104, 114, 111, 119, 115]), (3, [116, 105, 114, 101, 115]), (4, [111, 114]), (5, [97, 110, 100]), (6, [110, 111, 116]), (10, [115, 116, 114, 111, 110, 103]), (11, [104, 97, 115]), (12, [110, 117, 109, 98, 101, 114]), (13, [116, 104, 101, 105, 114, 115]), (14, [114, 111, 117, 110, 100]), (15, [115, 116, 97, 107, 101])]
theorem kwt_c (w : List Int32) : kwt w = 9 ∨ ∃ p, p ∈ kwT ∧ kwt w = p.1 ∧ w = p.2 := by
  have go : ∀ p, p ∈ kwT → kwt p.2 = p.1 := by decide +kernel
  by_cases h : ∃ p, p ∈ kwT ∧ w = p.2
  · obtain ⟨p, hp, rfl⟩ := h
    exact Or.inr ⟨p, hp, go p hp, rfl⟩
  · left
    have no : ∀ (q : Int32) (v : List Int32), (q, v) ∈ kwT → ¬ w = v := fun q v hq z => h ⟨_, hq, z⟩
    unfold kwt
    rw [if_neg (no 1 _ (by decide)), if_neg (no 2 _ (by decide)), if_neg (no 3 _ (by decide)), if_neg (no 4 _ (by decide)), if_neg (no 5 _ (by decide)), if_neg (no 6 _ (by decide)), if_neg (no 10 _ (by decide)), if_neg (no 11 _ (by decide)), if_neg (no 12 _ (by decide)), if_neg (no 13 _ (by decide)), if_neg (no 14 _ (by decide)), if_neg (no 15 _ (by decide))]
theorem kwt_q {w : List Int32} {q : Int32} {v : List Int32} (hq : (q, v) ∈ kwT) : kwt w = q ↔ w = v := by
  have inj : ∀ p, p ∈ kwT → ∀ p', p' ∈ kwT → p.1 = p'.1 → p.2 = p'.2 := by decide +kernel
  have n9 : ∀ p, p ∈ kwT → ¬ p.1 = 9 := by decide +kernel
  have go : ∀ p, p ∈ kwT → kwt p.2 = p.1 := by decide +kernel
  constructor
  · intro h
    rcases kwt_c w with e | ⟨p, hp, e1, e2⟩
    · exact absurd (h.symm.trans e) (n9 _ hq)
    · rw [e2]
      exact inj _ hp _ hq (e1.symm.trans h)
  · rintro rfl
    exact go _ hq
theorem kwt_16 (w : List Int32) : kwt w < 16 := by
  have n9 : ∀ p, p ∈ kwT → p.1 < 16 := by decide +kernel
  rcases kwt_c w with e | ⟨p, hp, e1, e2⟩
  · rw [e]; decide
  · rw [e1]; exact n9 p hp
section MRD
variable {b : Nat → Int32} {n t : Nat} {v : Nat → Int32} {M : S0}
theorem sgn_40 {x : Int32} (h : isG x = true) : ¬ x < 16 := by
  have h := of_decide_eq_true h
  rcases h with rfl | rfl | rfl | rfl | rfl | rfl | rfl | rfl <;> decide
theorem Sc.sgn {s : TS} {p : Int32} (h : Sc b n s) (hp : isG p = true) (e : tk s = p) : kt s = 3 := by
  rcases h.2 with q | ⟨_, _, q | q | q | q⟩
  · rw [← e, q.2.1] at hp; exact absurd hp (by decide)
  · rw [← e, q.2.1] at hp; exact absurd (kwt_16 _) (sgn_40 hp)
  · rw [← e, q.2.1] at hp; exact absurd hp (by decide)
  · exact q.1
  · rw [← e, q.2] at hp; exact absurd hp (by decide)
theorem Sc.num {s : TS} (h : Sc b n s) : kt s = 2 ↔ tk s = 7 := by
  rcases h.2 with q | ⟨_, _, q | q | q | q⟩
  · rw [q.1, q.2.1]; decide
  · rw [q.1, q.2.1]; exact ⟨fun z => absurd z (by decide), fun z => absurd z kwt_7⟩
  · rw [q.1, q.2.1]; decide
  · rw [q.1]; exact ⟨fun z => absurd z (by decide), fun z => by rw [z] at q; exact absurd q.2 (by decide)⟩
  · rw [q.1, q.2]; decide
theorem Sc.kw {s : TS} {q : Int32} {w : List Int32} (h : Sc b n s) (hq : (q, w) ∈ kwT) : tk s = q ↔ (kt s = 1 ∧ wrd b (ta s) (tp s) = w) := by
  have k : ∀ p, p ∈ kwT → ¬ p.1 = 8 ∧ ¬ p.1 = 7 ∧ ¬ p.1 = 9 ∧ p.1 < 16 := by decide +kernel
  obtain ⟨k1, k2, k3, k4⟩ := k _ hq
  rcases h.2 with c | ⟨_, _, c | c | c | c⟩
  · rw [c.1, c.2.1]; exact ⟨fun z => absurd z.symm k1, fun z => absurd z.1 (by decide)⟩
  · rw [c.1, c.2.1, kwt_q hq]; exact ⟨fun z => ⟨rfl, z⟩, fun z => z.2⟩
  · rw [c.1, c.2.1]; exact ⟨fun z => absurd z.symm k2, fun z => absurd z.1 (by decide)⟩
  · rw [c.1]; exact ⟨fun z => by rw [z] at c; exact absurd k4 (sgn_40 c.2), fun z => absurd z.1 (by decide)⟩
  · rw [c.1, c.2]; exact ⟨fun z => absurd z.symm k3, fun z => absurd z.1 (by decide)⟩
theorem Sc.kt4 {s : TS} (h : Sc b n s) : kt s ≤ 4 := by
  rcases h.2 with q | ⟨_, _, q | q | q | q⟩ <;> rw [q.1] <;> decide
theorem Sc.n4 {s : TS} (h : Sc b n s) (h9 : ¬ tk s = 9) : kt s ≠ 4 := by
  intro z
  rcases h.2 with q | ⟨_, _, q | q | q | q⟩
  · rw [q.1] at z; exact absurd z (by decide)
  · rw [q.1] at z; exact absurd z (by decide)
  · rw [q.1] at z; exact absurd z (by decide)
  · rw [q.1] at z; exact absurd z (by decide)
  · exact h9 q.2
/-- the text that is read, and what the names say -/
def MB (b : Nat → Int32) (n t : Nat) (v : Nat → Int32) (M : S0) : Prop := t < 6 ∧ M 0 18 = nI (160 * t) ∧ M 0 19 = nI n ∧ (∀ h, h < n → M 1 (160 * t + h) = b h) ∧ ∀ i, i < 6 → M 0 (12 + i) = v i
def GP (M M' : S0) : Prop := ∀ k j, (k ≠ 0 ∨ j < 20 ∨ (26 < j ∧ j ≠ 100)) → M' k j = M k j
def GN (M M' : S0) : Prop := ∀ k j, (k ≠ 0 ∨ (j ≠ 20 ∧ j ≠ 21 ∧ j ≠ 22 ∧ j ≠ 23 ∧ j ≠ 100)) → M' k j = M k j
theorem GP.rf : GP M M := fun _ _ _ => rfl
theorem GP.tr {X Y Z : S0} (h : GP X Y) (h2 : GP Y Z) : GP X Z := fun k j q => (h2 k j q).trans (h k j q)
theorem GN.rf : GN M M := fun _ _ _ => rfl
theorem GN.tr {X Y Z : S0} (h : GN X Y) (h2 : GN Y Z) : GN X Z := fun k j q => (h2 k j q).trans (h k j q)
theorem GN.p {X Y : S0} (h : GN X Y) : GP X Y := fun k j q => h k j (by omega)
theorem GN.up {j : Nat} {x : Int32} (hj : j = 20 ∨ j = 21 ∨ j = 22 ∨ j = 23 ∨ j = 100) : GN M (up M 0 j x) := by
  intro k i q
  rcases q with q | q
  · exact up_k q
  · by_cases z : k = 0
    · subst z; exact up_j (by omega)
    · exact up_k z
theorem GP.up {j : Nat} {x : Int32} (hj : (20 ≤ j ∧ j ≤ 26) ∨ j = 100) : GP M (up M 0 j x) := by
  intro k i q
  by_cases z : k = 0
  · subst z; exact up_j (by omega)
  · exact up_k z
theorem MB.g {M' : S0} (h : MB b n t v M) (g : GP M M') : MB b n t v M' := ⟨h.1, (g 0 18 (by decide)).trans h.2.1, (g 0 19 (by decide)).trans h.2.2.1, fun i hi => (g 1 _ (Or.inl (by decide))).trans (h.2.2.2.1 i hi), fun i hi => (g 0 (12 + i) (by omega)).trans (h.2.2.2.2 i hi)⟩
theorem m_byteAt (hb : Bf b n) (t0 : MB b n t v M) {h : Nat} {Q : Int32 → S0 → Prop} (hh : h ≤ 400) (k : Q (b h) M) : w6_byteAt M (nI h) Q := by
  have n160 := hb.1
  obtain ⟨t1, t2, t3, t4, t5⟩ := t0
  unfold w6_byteAt
  rw [t3, t2]
  by_cases c : h < n
  · refine br_f (nI_ge c (by omega)) ?_
    rw [nI_add, nI_clamp (by omega), t4 h c]
    exact ⟨vpl _ _ (by omega) (by decide), k⟩
  · refine br_t (nI_le (by omega) (by omega)) ?_
    rw [hb.2.2 h (by omega)] at k
    exact k
theorem m_inL {x : Int32} {Q : Int32 → S0 → Prop} (h : Q (cond (isL x) 1 0) M) : w6_in M x.toInt64 97 122 Q := by
  refine m_in32 (b := 97) (c := 122) ?_
  by_cases c : ¬ x < 97 ∧ ¬ 122 < x
  · rw [if_pos c]
    rw [show isL x = true from decide_eq_true c] at h; exact h
  · rw [if_neg c]
    rw [show isL x = false from decide_eq_false c] at h; exact h
theorem m_inD {x : Int32} {Q : Int32 → S0 → Prop} (h : Q (cond (isD x) 1 0) M) : w6_in M x.toInt64 48 57 Q := by
  refine m_in32 (b := 48) (c := 57) ?_
  by_cases c : ¬ x < 48 ∧ ¬ 57 < x
  · rw [if_pos c]
    rw [show isD x = true from decide_eq_true c] at h; exact h
  · rw [if_neg c]
    rw [show isD x = false from decide_eq_false c] at h; exact h
theorem m_word_b (hb : Bf b n) {Q : S0 → Prop} : ∀ (k h : Nat) (M : S0) (m : Nat), n < h + k → h ≤ n → k ≤ m → MB b n t v M → M 0 20 = nI h → (∀ M' : S0, (∀ k j, (k ≠ 0 ∨ j ≠ 20) → M' k j = M k j) → M' 0 20 = nI (spn b isL k h) → Q M') → w6_next_b100 Q m M := by
  have n160 := hb.1
  intro k
  induction k with
  | zero => intro h M m h1 h2; omega
  | succ k ih =>
    intro h M m h1 h2 h3 t0 e H
    obtain ⟨m, rfl⟩ : ∃ m', m = m' + 1 := ⟨m - 1, by omega⟩
    rw [w6_next_b100, e]
    unfold spn at H
    refine m_byteAt hb t0 (by omega) (m_inL ?_)
    rw [c01]
    by_cases c : isL (b h) = true
    · refine br_f (fun z => z c) ?_
      rintro _ rfl
      have hn : h < n := hb.in (fun z => by rw [z] at c; exact absurd c (by decide))
      rw [e, nI_1]
      rw [if_pos c] at H
      refine ih (h + 1) _ m (by omega) (by omega) (by omega) (t0.g (GP.up (by decide))) up_s (fun M' f g => H M' (fun k' j' q => ?_) g)
      rw [f k' j' q]
      rcases q with q | q
      · exact up_k q
      · by_cases q2 : k' = 0
        · subst q2; exact up_j q
        · exact up_k q2
    · rw [if_neg c] at H
      exact br_t c (H M (fun _ _ _ => rfl) e)
theorem m_num_b (hb : Bf b n) {Q : S0 → Prop} : ∀ (k h : Nat) (M : S0) (m cn w : Nat), n < h + k → cn ≤ h → w < 10 ^ (min cn 4) → h ≤ n → k ≤ m → MB b n t v M → M 0 20 = nI h → j64 (M 0 23) (M 0 100) = lN w → (∀ M' : S0, GN M M' → M' 0 22 = M 0 22 → M' 0 20 = nI (dgs b k h cn w).1 → M' 0 21 = nI (if 4 < (dgs b k h cn w).2.1 then 4 else 2) → j64 (M' 0 23) (M' 0 100) = lN (dgs b k h cn w).2.2 → Q M') → w6_next_b160 Q m M (nI cn) := by
  have n160 := hb.1
  intro k
  induction k with
  | zero => intro h M m cn w h1 h2 hw h4; omega
  | succ k ih =>
    intro h M m cn w h1 h2 hw h4 h5 t0 e ew H
    obtain ⟨m, rfl⟩ : ∃ m', m = m' + 1 := ⟨m - 1, by omega⟩
    rw [w6_next_b160, e]
    unfold dgs at H
    refine m_byteAt hb t0 (by omega) (m_inD ?_)
    rw [c01]
    by_cases c : isD (b h) = true
    · refine br_f (fun z => z c) ?_
      have hn : h < n := hb.in (fun z => by rw [z] at c; exact absurd c (by decide))
      rw [if_pos c] at H
      have w4 : w < 10000 := by
        have : 10 ^ (min cn 4) ≤ 10 ^ 4 := Nat.pow_le_pow_right (by decide) (Nat.min_le_right _ _)
        exact Nat.lt_of_lt_of_le hw this
      have hw2 := dgs_w (b := b) 1 h cn w hw
      unfold dgs at hw2
      rw [if_pos c] at hw2
      have hw2 : (if cn < 4 then 10 * w + (b h - 48).toNatClampNeg else w) < 10 ^ (min (cn + 1) 4) := hw2
      have fin : ∀ (w2 : Nat) (y : Int64) (M2 : S0), y = lN w2 → M2 = up (up (up M 0 23 (lo64 y)) 0 100 (hi64 y)) 0 20 (nI (h + 1)) → (if cn < 4 then 10 * w + (b h - 48).toNatClampNeg else w) = w2 → w6_next_b160 Q m M2 (nI (cn + 1)) := by
        intro w2 y M2 ey e2 e3
        rw [e3] at H hw2
        subst e2
        have g : GN M (up (up (up M 0 23 (lo64 y)) 0 100 (hi64 y)) 0 20 (nI (h + 1))) := ((GN.up (by decide)).tr (GN.up (by decide))).tr (GN.up (by decide))
        refine ih (h + 1) _ m (cn + 1) w2 (by omega) (by omega) hw2 (by omega) (by omega) (t0.g g.p) up_s ?_ (fun M' f g0 g1 g2 g3 => H M' (g.tr f) (g0.trans ?_) g1 g2 g3)
        · rw [up_j (by decide), up_j (by decide), up_s, up_j (by decide), up_s, j64_lohi, ey]
        · rw [up_j (by decide), up_j (by decide), up_j (by decide)]
      refine ⟨fun c4 => ?_, fun c4 => ?_⟩
      · have c4 : 4 ≤ cn := (nI_leI (a := 4) (by decide) (by omega)).mp c4
        rintro _ rfl _ rfl _ rfl
        rw [up_j (by decide), up_j (by decide), e, nI_1, nI_1, ew]
        exact fin w _ _ rfl rfl (if_neg (by omega))
      · have c4 : ¬ 4 ≤ cn := fun z => c4 ((nI_leI (a := 4) (by decide) (by omega)).mpr z)
        rw [e]
        refine m_byteAt hb t0 (by omega) ?_
        rintro _ rfl _ rfl _ rfl
        rw [up_j (by decide), up_j (by decide), e, nI_1, nI_1, ew]
        obtain ⟨dg, hdg, edg⟩ := isD_n c
        refine fin (10 * w + dg) _ _ ?_ rfl ?_
        · rw [edg, nI_l (by omega), show (10 : Int64) = lN 10 from rfl, lN_mul, lN_add, show (48 : Int64) = lN 48 from rfl, lN_sub (by omega)]
          congr 1
          omega
        · rw [if_pos (by omega), edg, show (48 : Int32) = nI 48 from rfl, nI_sub (by omega), nI_clamp (by omega)]
          omega
    · rw [if_neg c] at H
      refine br_t c ⟨fun c4 => ?_, fun c4 => ?_⟩
      · rintro _ rfl
        have c4 : cn ≤ 4 := (nI_leI (b := 4) (by omega) (by decide)).mp c4
        refine H _ (GN.up (by decide)) (up_j (by decide)) (by rw [up_j (by decide)]; exact e) ?_ (by rw [up_j (by decide), up_j (by decide)]; exact ew)
        rw [if_neg (show ¬ 4 < cn by omega)]; exact up_s
      · rintro _ rfl
        have c4 : ¬ cn ≤ 4 := fun z => c4 ((nI_leI (b := 4) (by omega) (by decide)).mpr z)
        refine H _ (GN.up (by decide)) (up_j (by decide)) (by rw [up_j (by decide)]; exact e) ?_ (by rw [up_j (by decide), up_j (by decide)]; exact ew)
        rw [if_pos (show 4 < cn by omega)]; exact up_s
/-- what next() leaves -/
def NM (s : TS) (M M' : S0) : Prop := GN M M' ∧ M' 0 21 = nI (kt s) ∧ M' 0 22 = nI (ta s) ∧ (kt s ≠ 4 → M' 0 20 = nI (tp s)) ∧ (kt s = 2 → j64 (M' 0 23) (M' 0 100) = lN (tw s)) ∧ (kt s = 3 → j64 (M' 0 23) (M' 0 100) = (tk s).toInt64)
def tailM (Q : S0 → Prop) (M : S0) : Prop := (∀ M7 : S0, M7 = up M 0 22 (M 0 20) → (w6_byteAt M7 (M7 0 20) (fun r9 M8 => ∀ M10 : S0, M10 = up M8 0 21 (4 : Int32) → (((0 ≤ r9) → (w6_in M10 (Int32.toInt64 r9) (97 : Int64) (122 : Int64) (fun r12 M11 => ((r12 = 0) → (w6_in M11 (Int32.toInt64 r9) (48 : Int64) (57 : Int64) (fun r14 M13 => ((r14 = 0) → (((r9 = (40 : Int32)) → (∀ M15 : S0, M15 = up M13 0 21 (3 : Int32) → (∀ M16 : S0, M16 = up (up M15 0 23 (lo64 (Int32.toInt64 r9))) 0 100 (hi64 (Int32.toInt64 r9)) → (∀ M17 : S0, M17 = up M16 0 20 ((M16 0 20) + (1 : Int32)) → (Q M17))))) ∧ ((¬ r9 = (40 : Int32)) → (((r9 = (41 : Int32)) → (∀ M18 : S0, M18 = up M13 0 21 (3 : Int32) → (∀ M19 : S0, M19 = up (up M18 0 23 (lo64 (Int32.toInt64 r9))) 0 100 (hi64 (Int32.toInt64 r9)) → (∀ M20 : S0, M20 = up M19 0 20 ((M19 0 20) + (1 : Int32)) → (Q M20))))) ∧ ((¬ r9 = (41 : Int32)) → (((r9 = (59 : Int32)) → (∀ M21 : S0, M21 = up M13 0 21 (3 : Int32) → (∀ M22 : S0, M22 = up (up M21 0 23 (lo64 (Int32.toInt64 r9))) 0 100 (hi64 (Int32.toInt64 r9)) → (∀ M23 : S0, M23 = up M22 0 20 ((M22 0 20) + (1 : Int32)) → (Q M23))))) ∧ ((¬ r9 = (59 : Int32)) → (((r9 = (43 : Int32)) → (∀ M24 : S0, M24 = up M13 0 21 (3 : Int32) → (∀ M25 : S0, M25 = up (up M24 0 23 (lo64 (Int32.toInt64 r9))) 0 100 (hi64 (Int32.toInt64 r9)) → (∀ M26 : S0, M26 = up M25 0 20 ((M25 0 20) + (1 : Int32)) → (Q M26))))) ∧ ((¬ r9 = (43 : Int32)) → (((r9 = (45 : Int32)) → (∀ M27 : S0, M27 = up M13 0 21 (3 : Int32) → (∀ M28 : S0, M28 = up (up M27 0 23 (lo64 (Int32.toInt64 r9))) 0 100 (hi64 (Int32.toInt64 r9)) → (∀ M29 : S0, M29 = up M28 0 20 ((M28 0 20) + (1 : Int32)) → (Q M29))))) ∧ ((¬ r9 = (45 : Int32)) → (((r9 = (42 : Int32)) → (∀ M30 : S0, M30 = up M13 0 21 (3 : Int32) → (∀ M31 : S0, M31 = up (up M30 0 23 (lo64 (Int32.toInt64 r9))) 0 100 (hi64 (Int32.toInt64 r9)) → (∀ M32 : S0, M32 = up M31 0 20 ((M31 0 20) + (1 : Int32)) → (Q M32))))) ∧ ((¬ r9 = (42 : Int32)) → (((r9 = (60 : Int32)) → (∀ M33 : S0, M33 = up M13 0 21 (3 : Int32) → (∀ M34 : S0, M34 = up (up M33 0 23 (lo64 (Int32.toInt64 r9))) 0 100 (hi64 (Int32.toInt64 r9)) → (∀ M35 : S0, M35 = up M34 0 20 ((M34 0 20) + (1 : Int32)) → (Q M35))))) ∧ ((¬ r9 = (60 : Int32)) → (((¬ r9 = (61 : Int32)) → (Q M13)) ∧ ((r9 = (61 : Int32)) → (∀ M36 : S0, M36 = up M13 0 21 (3 : Int32) → (∀ M37 : S0, M37 = up (up M36 0 23 (lo64 (Int32.toInt64 r9))) 0 100 (hi64 (Int32.toInt64 r9)) → (∀ M38 : S0, M38 = up M37 0 20 ((M37 0 20) + (1 : Int32)) → (Q M38))))))))))))))))))))) ∧ ((¬ r14 = 0) → (∀ M39 : S0, M39 = up M13 0 21 (2 : Int32) → (∀ M40 : S0, M40 = up (up M39 0 23 (lo64 (0 : Int64))) 0 100 (hi64 (0 : Int64)) → (∃ n41, w6_next_b160   Q n41 M40 (0 : Int32)))))))) ∧ ((¬ r12 = 0) → (∀ M42 : S0, M42 = up M11 0 21 (1 : Int32) → (∃ n43, w6_next_b100   Q n43 M42)))))) ∧ ((¬ 0 ≤ r9) → (∀ M44 : S0, M44 = up M10 0 21 (0 : Int32) → (∀ M45 : S0, M45 = up M44 0 22 (M44 0 19) → (Q M45))))))))

theorem m_tail (hb : Bf b n) {Q : S0 → Prop} {a : Nat} (ha : a ≤ n) (t0 : MB b n t v M) (e : M 0 20 = nI a) (H : ∀ M' : S0, NM (scA b a) M M' → Q M') : tailM Q M := by
  have n160 := hb.1
  unfold tailM
  rintro _ rfl
  have g1 : GN M (up M 0 22 (M 0 20)) := GN.up (by decide)
  have t1 := t0.g g1.p
  have e1 : up M 0 22 (M 0 20) 0 20 = nI a := by rw [up_j (by decide)]; exact e
  rw [e1]
  refine m_byteAt hb t1 (by omega) ?_
  rintro _ rfl
  have g2 : GN M (up (up M 0 22 (M 0 20)) 0 21 4) := g1.tr (GN.up (by decide))
  have t2 := t0.g g2.p
  have e2 : up (up M 0 22 (M 0 20)) 0 21 4 0 20 = nI a := by rw [up_j (by decide)]; exact e1
  have a2 : up (up M 0 22 (M 0 20)) 0 21 4 0 22 = nI a := by rw [up_j (by decide), up_s]; exact e
  have k2 : up (up M 0 22 (M 0 20)) 0 21 4 0 21 = 4 := up_s
  generalize hM2 : up (up M 0 22 (M 0 20)) 0 21 4 = M2 at g2 t2 e2 a2 k2 ⊢
  unfold scA at H
  by_cases c1 : b a = -1
  · rw [if_pos c1] at H
    rw [c1]
    have an : a = n := by
      rcases Nat.lt_or_ge a n with q | q
      · exact absurd c1 (hb.ne q)
      · omega
    refine br_f (by decide) ?_
    rintro _ rfl _ rfl
    refine H _ ⟨(g2.tr (GN.up (by decide))).tr (GN.up (by decide)), by rw [up_j (by decide), up_s]; rfl, by rw [up_s, up_j (by decide), t2.2.2.1, an], fun _ => by rw [up_j (by decide), up_j (by decide)]; exact e2, fun z => absurd z (by decide : ¬ (0 : Nat) = 2), fun z => absurd z (by decide : ¬ (0 : Nat) = 3)⟩
  · rw [if_neg c1] at H
    have an := hb.in c1
    obtain ⟨cc, hcc, ecc⟩ := hb.2.1 a an
    refine br_t (by rw [ecc]; exact nI_pos' (by omega)) ?_
    refine m_inL ?_
    rw [c01]
    by_cases c2 : isL (b a) = true
    · rw [if_pos c2] at H
      refine br_f (fun z => z c2) ?_
      rintro _ rfl
      refine ⟨161, m_word_b hb 161 a _ 161 (by omega) ha (by omega) (t2.g (GP.up (by decide))) (by rw [up_j (by decide)]; exact e2) (fun M' f g => ?_)⟩
      have g3 : GN M M' := by
        intro k j q
        rw [f k j (by omega)]
        exact (g2.tr (GN.up (by decide))) k j q
      refine H _ ⟨g3, by rw [f 0 21 (by decide), up_s]; rfl, by rw [f 0 22 (by decide), up_j (by decide)]; exact a2, fun _ => g, fun z => absurd z (by decide : ¬ (1 : Nat) = 2), fun z => absurd z (by decide : ¬ (1 : Nat) = 3)⟩
    · rw [if_neg c2] at H
      refine br_t c2 (m_inD ?_)
      rw [c01]
      by_cases c3 : isD (b a) = true
      · rw [if_pos c3] at H
        refine br_f (fun z => z c3) ?_
        rintro _ rfl _ rfl
        have g3 : GN M2 (up (up (up M2 0 21 2) 0 23 (lo64 0)) 0 100 (hi64 0)) := ((GN.up (by decide)).tr (GN.up (by decide))).tr (GN.up (by decide))
        refine ⟨161, m_num_b hb 161 a _ 161 0 0 (by omega) (by omega) (by decide) ha (by omega) (t2.g g3.p) (by rw [up_j (by decide), up_j (by decide), up_j (by decide)]; exact e2) (by rw [up_j (by decide), up_s, up_s, j64_lohi]; rfl) (fun M' f f22 f1 f2 f3 => ?_)⟩
        refine H _ ⟨(g2.tr g3).tr f, f2, ?_, fun _ => f1, fun _ => f3, fun z => ?_⟩
        · rw [f22, up_j (by decide), up_j (by decide), up_j (by decide)]; exact a2
        · have z : (if 4 < (dgs b 161 a 0 0).2.1 then 4 else 2) = 3 := z
          split at z <;> exact absurd z (by decide)
      · rw [if_neg c3] at H
        refine br_t c3 ?_
        have sg : isG (b a) = true → ∀ X, X = up (up (up (up M2 0 21 3) 0 23 (lo64 (b a).toInt64)) 0 100 (hi64 (b a).toInt64)) 0 20 (up (up (up M2 0 21 3) 0 23 (lo64 (b a).toInt64)) 0 100 (hi64 (b a).toInt64) 0 20 + 1) → Q X := by
          rintro c4 _ rfl
          rw [if_pos c4, if_pos c4] at H
          refine H _ ⟨(((g2.tr (GN.up (by decide))).tr (GN.up (by decide))).tr (GN.up (by decide))).tr (GN.up (by decide)), by rw [up_j (by decide), up_j (by decide), up_j (by decide), up_s]; rfl, by rw [up_j (by decide), up_j (by decide), up_j (by decide), up_j (by decide)]; exact a2, fun _ => by rw [up_s, up_j (by decide), up_j (by decide), up_j (by decide), e2, nI_1], fun z => absurd z (by decide : ¬ (3 : Nat) = 2), fun _ => by rw [up_j (by decide), up_j (by decide), up_s, up_j (by decide), up_s, j64_lohi]⟩
        have ns : isG (b a) = false → Q M2 := fun c4 => by
          rw [c4] at H
          refine H _ ⟨g2, by rw [k2]; rfl, a2, fun z => absurd rfl z, fun z => absurd z (by decide : ¬ (4 : Nat) = 2), fun z => absurd z (by decide : ¬ (4 : Nat) = 3)⟩
        have t : (b a = 40 ∨ b a = 41 ∨ b a = 59 ∨ b a = 43 ∨ b a = 45 ∨ b a = 42 ∨ b a = 60 ∨ b a = 61) → ∀ Y, Y = up M2 0 21 (3 : Int32) → ∀ Z, Z = up (up Y 0 23 (lo64 (b a).toInt64)) 0 100 (hi64 (b a).toInt64) → ∀ W, W = up Z 0 20 (Z 0 20 + 1) → Q W := by
          rintro z _ rfl _ rfl W hW
          exact sg (decide_eq_true z) W hW
        refine ⟨fun c => t (Or.inl c), fun d1 => ⟨fun c => t (Or.inr (Or.inl c)), fun d2 => ⟨fun c => t (Or.inr (Or.inr (Or.inl c))), fun d3 => ⟨fun c => t (Or.inr (Or.inr (Or.inr (Or.inl c)))), fun d4 => ⟨fun c => t (Or.inr (Or.inr (Or.inr (Or.inr (Or.inl c))))), fun d5 => ⟨fun c => t (Or.inr (Or.inr (Or.inr (Or.inr (Or.inr (Or.inl c)))))), fun d6 => ⟨fun c => t (Or.inr (Or.inr (Or.inr (Or.inr (Or.inr (Or.inr (Or.inl c))))))), fun d7 => ⟨fun d8 => ns ?_, fun c => t (Or.inr (Or.inr (Or.inr (Or.inr (Or.inr (Or.inr (Or.inr c))))))) ⟩⟩⟩⟩⟩⟩⟩⟩
        exact decide_eq_false (fun z => z.elim d1 (fun z => z.elim d2 (fun z => z.elim d3 (fun z => z.elim d4 (fun z => z.elim d5 (fun z => z.elim d6 (fun z => z.elim d7 d8)))))))
theorem m_next_b (hb : Bf b n) {Q : S0 → Prop} : ∀ (k h : Nat) (M : S0) (m : Nat), n < h + k → h ≤ n → k ≤ m → MB b n t v M → M 0 20 = nI h → (∀ M' : S0, NM (scA b (spn b isB k h)) M M' → Q M') → w6_next_b0 Q m M := by
  have n160 := hb.1
  intro k
  induction k with
  | zero => intro h M m h1 h2; omega
  | succ k ih =>
    intro h M m h1 h2 h3 t0 e H
    obtain ⟨m, rfl⟩ : ∃ m', m = m' + 1 := ⟨m - 1, by omega⟩
    rw [w6_next_b0]
    have tl : ¬ isB (b h) = true → tailM Q M := fun z => by
      unfold spn at H
      rw [if_neg z] at H
      exact m_tail hb h2 t0 e H
    have step : isB (b h) = true → w6_next_b0 Q m (up M 0 20 (nI (h + 1))) := fun c => by
      have hn : h < n := hb.in (fun z => by rw [z] at c; exact absurd c (by decide))
      refine ih (h + 1) _ m (by omega) (by omega) (by omega) (t0.g (GP.up (by decide))) up_s (fun M' f => ?_)
      unfold spn at H
      rw [if_pos c] at H
      exact H M' ⟨(GN.up (by decide)).tr f.1, f.2⟩
    rw [e]
    refine m_byteAt hb t0 (by omega) ?_
    refine ⟨fun c => ?_, fun c => ?_⟩
    · rintro _ rfl
      rw [e, nI_1]
      exact step (decide_eq_true (Or.inl c))
    rw [e]
    refine m_byteAt hb t0 (by omega) ?_
    refine ⟨fun c2 => ?_, fun c2 => ?_⟩
    · have tl2 := tl (fun z => by
        rcases of_decide_eq_true z with y | y
        · exact c y
        · exact c2 y)
      exact tl2
    · rintro _ rfl
      rw [e, nI_1]
      exact step (decide_eq_true (Or.inr c2))
theorem m_next (hb : Bf b n) {Q : S0 → Prop} {h : Nat} (hh : h ≤ n) (t0 : MB b n t v M) (e : M 0 20 = nI h) (H : ∀ M' : S0, NM (scn b h) M M' → Q M') : w6_next M Q := by
  have n160 := hb.1
  unfold w6_next
  exact ⟨161, m_next_b hb 161 h M 161 (by omega) hh (by omega) t0 e H⟩
end MRD
