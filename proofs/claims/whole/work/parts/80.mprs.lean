/-! the check's reading of a TEXT: it works out what prs's code says -/
section MPR
variable {b : Nat → Int32} {n t : Nat} {v : Nat → Int32}
def SM (b : Nat → Int32) (n t : Nat) (v : Nat → Int32) (s : TS) (o : Nat) (M : S0) : Prop := MB b n t v M ∧ M 0 24 = nI o ∧ M 0 25 = 0 ∧ M 0 21 = nI (kt s) ∧ M 0 22 = nI (ta s) ∧ (kt s ≠ 4 → M 0 20 = nI (tp s)) ∧ (kt s = 2 → j64 (M 0 23) (M 0 100) = lN (tw s)) ∧ (kt s = 3 → j64 (M 0 23) (M 0 100) = (tk s).toInt64)
/-- behind a FAULT -/
def FM (a : Nat) (M : S0) : Prop := M 0 25 = 1 ∧ M 0 26 = nI a
theorem FM.bd {a : Nat} {M : S0} (h : FM a M) : ¬ M 0 25 = 0 := by rw [h.1]; decide
theorem SM.next (hb : Bf b n) {s : TS} {o : Nat} {M : S0} {Q : S0 → Prop} (h : SM b n t v s o M) (hs : Sc b n s) (h4 : kt s ≠ 4) (k : ∀ M', GP M M' → SM b n t v (nx b s) o M' → Q M') : w6_next M Q := by
  obtain ⟨h1, h2, h3, h5, h6, h7, h8, h9⟩ := h
  exact m_next hb hs.tpn h1 (h7 h4) (fun M' f => k M' f.1.p ⟨h1.g f.1.p, (f.1 0 24 (Or.inr (by decide))).trans h2, (f.1 0 25 (Or.inr (by decide))).trans h3, f.2⟩)
theorem SM.up24 {s : TS} {o o' : Nat} {M : S0} (h : SM b n t v s o M) : SM b n t v s o' (up M 0 24 (nI o')) := by
  obtain ⟨h1, h2, h3, h5, h6, h7, h8, h9⟩ := h
  exact ⟨h1.g (GP.up (by decide)), up_s, by rw [up_j (by decide)]; exact h3, by rw [up_j (by decide)]; exact h5, by rw [up_j (by decide)]; exact h6, fun z => by rw [up_j (by decide)]; exact h7 z, fun z => by rw [up_j (by decide), up_j (by decide)]; exact h8 z, fun z => by rw [up_j (by decide), up_j (by decide)]; exact h9 z⟩
theorem FM.up24 {a : Nat} {M : S0} {x : Int32} (h : FM a M) : FM a (up M 0 24 x) := ⟨by rw [up_j (by decide)]; exact h.1, by rw [up_j (by decide)]; exact h.2⟩
theorem SM.fail {s : TS} {o : Nat} {M : S0} {Q : S0 → Prop} (h : SM b n t v s o M) (k : ∀ M', GP M M' → FM (ta s) M' → Q M') : w6_fail M Q := by
  unfold w6_fail
  refine s_f h.2.2.1 ?_
  rintro _ rfl _ rfl
  exact k _ ((GP.up (by decide)).tr (GP.up (by decide))) ⟨by rw [up_j (by decide)]; exact up_s, by rw [up_s, up_j (by decide)]; exact h.2.2.2.2.1⟩
theorem FM.fail {a : Nat} {M : S0} {Q : S0 → Prop} (h : FM a M) (k : Q M) : w6_fail M Q := by
  unfold w6_fail
  exact s_t h.bd k
theorem SM.sign {s : TS} {o : Nat} {M : S0} {p : Int32} {Q : Int32 → S0 → Prop} (h : SM b n t v s o M) (hs : Sc b n s) (hp : isG p = true) (k1 : tk s = p → Q 1 M) (k0 : ¬ tk s = p → Q 0 M) : w6_isSign M p Q := by
  unfold w6_isSign
  refine s_f h.2.2.1 ?_
  rw [h.2.2.2.1]
  have e3 : nI (kt s) = 3 ↔ kt s = 3 := nI_eq (b := 3) (by have := hs.kt4; omega) (by decide)
  by_cases c : kt s = 3
  · refine s_f (e3.mpr c) ?_
    rw [h.2.2.2.2.2.2.2 c, lg_eq, i64_inj]
    exact ⟨k0, k1⟩
  · exact s_t (fun z => c (e3.mp z)) (k0 (fun z => c (hs.sgn hp z)))
theorem FM.sign {a : Nat} {M : S0} {p : Int32} {Q : Int32 → S0 → Prop} (h : FM a M) (k0 : Q 0 M) : w6_isSign M p Q := by
  unfold w6_isSign
  exact s_t h.bd k0
/-- letter i of the word at hand -/
def LT (b : Nat → Int32) (s : TS) (i : Nat) (p : Int32) : Prop := if tp s ≤ ta s + i then p = 0 else b (ta s + i) = p
theorem m_letter (hb : Bf b n) {s : TS} {o : Nat} {M : S0} {p : Int32} {i : Nat} {Q : Int32 → S0 → Prop} (h : SM b n t v s o M) (hs : Sc b n s) (hi : i < 8) (h4 : kt s ≠ 4) (k1 : LT b s i p → Q 1 M) (k0 : ¬ LT b s i p → Q 0 M) : w6_isLetter M (nI i) p Q := by
  have n160 := hb.1
  have a1 : ta s ≤ n := hs.1
  have a2 := hs.tpn
  unfold LT at k1 k0
  unfold w6_isLetter
  rw [h.2.2.2.2.1, h.2.2.2.2.2.1 h4, nI_add]
  by_cases c : tp s ≤ ta s + i
  · rw [if_pos c] at k1 k0
    exact br_t (nI_le c (by omega)) ⟨k0, k1⟩
  · rw [if_neg c] at k1 k0
    exact br_f (nI_ge (by omega) (by omega)) (m_byteAt hb h.1 (by omega) ⟨k0, k1⟩)
theorem m_word (hb : Bf b n) {s : TS} {o : Nat} {M : S0} {p1 p2 p3 p4 p5 p6 p7 p8 : Int32} {Q : Int32 → S0 → Prop} (q : Int32) (w : List Int32) (h : SM b n t v s o M) (hs : Sc b n s) (hq : (q, w) ∈ kwT) (hw : ∀ i, i < 8 → [p1, p2, p3, p4, p5, p6, p7, p8].getD i 0 = w.getD i 0) (k1 : tk s = q → Q 1 M) (k0 : ¬ tk s = q → Q 0 M) : w6_isWord M p1 p2 p3 p4 p5 p6 p7 p8 Q := by
  have n160 := hb.1
  have kz : ∀ p, p ∈ kwT → p.2.length ≤ 8 ∧ ∀ i, i < p.2.length → ¬ p.2.getD i 0 = 0 := by decide +kernel
  obtain ⟨wl, wz⟩ := kz _ hq
  have wl : w.length ≤ 8 := wl
  have wz : ∀ i, i < w.length → ¬ w.getD i 0 = 0 := wz
  rw [hs.kw hq] at k1 k0
  unfold w6_isWord
  refine s_f h.2.2.1 ?_
  rw [h.2.2.2.1]
  have e1 : nI (kt s) = 1 ↔ kt s = 1 := nI_eq (b := 1) (by have := hs.kt4; omega) (by decide)
  by_cases c : kt s = 1
  · refine s_f (e1.mpr c) ?_
    have h4 : kt s ≠ 4 := by omega
    obtain ⟨hlt, hpn, hlet⟩ : ta s < tp s ∧ tp s ≤ n ∧ ∀ i, ta s ≤ i → i < tp s → isL (b i) = true := by
      rcases hs.2 with z | ⟨z1, z2, z | z | z | z⟩
      · omega
      · exact ⟨z1, z2, z.2.2⟩
      · omega
      · omega
      · omega
    have no : ∀ i, i < 8 → ¬ LT b s i ([p1, p2, p3, p4, p5, p6, p7, p8].getD i 0) → Q 0 M := by
      intro i hi hn
      refine k0 (fun z => hn ?_)
      rw [hw i hi]
      obtain ⟨z1, z2⟩ := wrd_eq.mp z.2
      unfold LT
      by_cases c2 : tp s ≤ ta s + i
      · rw [if_pos c2, List.getD_eq_getElem?_getD, List.getElem?_eq_none (by omega)]
        rfl
      · rw [if_neg c2]
        exact z2 i (by omega)
    rw [h.2.2.2.2.1, h.2.2.2.2.2.1 h4, show (8 : Int32) = nI 8 from rfl, nI_add]
    refine ⟨fun c8 => k0 (fun z => ?_), fun c8 => ?_⟩
    · have c8 := (nI_ltI (by omega) (by omega)).mp c8
      have := (wrd_eq.mp z.2).1
      omega
    · have c8 : ¬ ta s + 8 < tp s := fun z => c8 (nI_lt z (by omega))
      refine m_letter (i := 0) hb h hs (by decide) h4 (fun l0 => br_f (by decide) ?_) (fun l => br_t rfl (no 0 (by decide) l))
      refine m_letter (i := 1) hb h hs (by decide) h4 (fun l1 => br_f (by decide) ?_) (fun l => br_t rfl (no 1 (by decide) l))
      refine m_letter (i := 2) hb h hs (by decide) h4 (fun l2 => br_f (by decide) ?_) (fun l => br_t rfl (no 2 (by decide) l))
      refine m_letter (i := 3) hb h hs (by decide) h4 (fun l3 => br_f (by decide) ?_) (fun l => br_t rfl (no 3 (by decide) l))
      refine m_letter (i := 4) hb h hs (by decide) h4 (fun l4 => br_f (by decide) ?_) (fun l => br_t rfl (no 4 (by decide) l))
      refine m_letter (i := 5) hb h hs (by decide) h4 (fun l5 => br_f (by decide) ?_) (fun l => br_t rfl (no 5 (by decide) l))
      refine m_letter (i := 6) hb h hs (by decide) h4 (fun l6 => br_f (by decide) ?_) (fun l => br_t rfl (no 6 (by decide) l))
      refine m_letter (i := 7) hb h hs (by decide) h4 (fun l7 => br_f (by decide) ?_) (fun l => br_t rfl (no 7 (by decide) l))
      have all : ∀ i, i < 8 → LT b s i (w.getD i 0) := by
        intro i hi
        rw [← hw i hi]
        rcases (by omega : i = 0 ∨ i = 1 ∨ i = 2 ∨ i = 3 ∨ i = 4 ∨ i = 5 ∨ i = 6 ∨ i = 7) with rfl | rfl | rfl | rfl | rfl | rfl | rfl | rfl
        · exact l0
        · exact l1
        · exact l2
        · exact l3
        · exact l4
        · exact l5
        · exact l6
        · exact l7
      refine k1 ⟨c, wrd_eq.mpr ⟨?_, fun i hi => ?_⟩⟩
      · rcases Nat.lt_trichotomy (tp s - ta s) w.length with z | z | z
        · exfalso
          have y := all (tp s - ta s) (by omega)
          unfold LT at y
          rw [if_pos (by omega)] at y
          exact wz _ z y
        · exact z
        · exfalso
          have y := all w.length (by omega)
          unfold LT at y
          rw [if_neg (by omega), List.getD_eq_getElem?_getD, List.getElem?_eq_none (Nat.le_refl _)] at y
          have y2 := hlet (ta s + w.length) (by omega) (by omega)
          rw [y] at y2
          exact absurd y2 (by decide)
      · have y := all i (by omega)
        unfold LT at y
        by_cases c2 : tp s ≤ ta s + i
        · rw [if_pos c2] at y
          exact absurd y (wz i hi)
        · rw [if_neg c2] at y
          exact y
  · exact s_t (fun z => c (e1.mp z)) (k0 (fun z => c z.1))
theorem FM.word {a : Nat} {M : S0} {p1 p2 p3 p4 p5 p6 p7 p8 : Int32} {Q : Int32 → S0 → Prop} (h : FM a M) (k0 : Q 0 M) : w6_isWord M p1 p2 p3 p4 p5 p6 p7 p8 Q := by
  unfold w6_isWord
  exact s_t h.bd k0
theorem SM.opens (hb : Bf b n) {s : TS} {o : Nat} {M : S0} {Q : Int32 → S0 → Prop} (h : SM b n t v s o M) (hs : Sc b n s) (h4 : kt s ≠ 4) (ho : o ≤ 5) (k1 : o < 5 → ∀ M', GP M M' → SM b n t v (nx b s) (o + 1) M' → Q 1 M') (k0 : ¬ o < 5 → ∀ M', GP M M' → FM (ta s) M' → Q 0 M') : w6_opens M Q := by
  unfold w6_opens
  rw [h.2.1]
  by_cases c : o < 5
  · refine s_t (fun z => ?_) ?_
    · have := (nI_eq (b := 5) (by omega) (by decide)).mp z
      omega
    · rintro _ rfl
      rw [nI_1]
      exact h.up24.next hb hs h4 (fun M' g k => k1 c M' ((GP.up (by decide)).tr g) k)
  · have e : o = 5 := by omega
    subst e
    exact s_f rfl (h.fail (k0 c))
theorem m_name (hb : Bf b n) {s : TS} {o : Nat} {M : S0} {Q : Int32 → S0 → Prop} (h : SM b n t v s o M) (hs : Sc b n s) (k1 : ∀ i, i < 6 → tk s = nI (10 + i) → Q (v i) M) (k0 : ¬ (¬ tk s < 10 ∧ tk s < 16) → ∀ M', GP M M' → FM (ta s) M' → Q 0 M') : w6_name M Q := by
  have nm : ∀ i, i < 6 → M 0 (12 + i) = v i := h.1.2.2.2.2
  unfold w6_name
  refine m_word hb 10 [115, 116, 114, 111, 110, 103] h hs (by decide) (by decide) (fun c => br_f (by decide) ?_) (fun c0 => br_t rfl ?_)
  · rw [nm 0 (by decide)]; exact k1 0 (by decide) c
  refine m_word hb 11 [104, 97, 115] h hs (by decide) (by decide) (fun c => br_f (by decide) ?_) (fun c1 => br_t rfl ?_)
  · rw [nm 1 (by decide)]; exact k1 1 (by decide) c
  refine m_word hb 12 [110, 117, 109, 98, 101, 114] h hs (by decide) (by decide) (fun c => br_f (by decide) ?_) (fun c2 => br_t rfl ?_)
  · rw [nm 2 (by decide)]; exact k1 2 (by decide) c
  refine m_word hb 13 [116, 104, 101, 105, 114, 115] h hs (by decide) (by decide) (fun c => br_f (by decide) ?_) (fun c3 => br_t rfl ?_)
  · rw [nm 3 (by decide)]; exact k1 3 (by decide) c
  refine m_word hb 14 [114, 111, 117, 110, 100] h hs (by decide) (by decide) (fun c => br_f (by decide) ?_) (fun c4 => br_t rfl ?_)
  · rw [nm 4 (by decide)]; exact k1 4 (by decide) c
  refine m_word hb 15 [115, 116, 97, 107, 101] h hs (by decide) (by decide) (fun c => br_f (by decide) ?_) (fun c5 => br_t rfl ?_)
  · rw [nm 5 (by decide)]; exact k1 5 (by decide) c
  refine h.fail (fun M' g f => k0 (fun z => ?_) M' g f)
  obtain ⟨i, hi, e, -⟩ := tk_name z
  rcases (by omega : i = 0 ∨ i = 1 ∨ i = 2 ∨ i = 3 ∨ i = 4 ∨ i = 5) with rfl | rfl | rfl | rfl | rfl | rfl
  · exact c0 e
  · exact c1 e
  · exact c2 e
  · exact c3 e
  · exact c4 e
  · exact c5 e
theorem prs_0 {f o : Nat} {c : List Int32} {s : TS} : prs b (f + 1) 0 o c s = if tk s = 7 then .inr ([nI (tw s)], nx b s) else if ¬ tk s < 10 ∧ tk s < 16 then .inr ([9 - tk s], nx b s) else if tk s = 45 ∧ o < 5 then pbd (prs b f 0 (o + 1) [] (nx b s)) (fun d s' => .inr (d ++ [-14], s')) else if tk s = 40 ∧ o < 5 then pbd (prs b f 5 (o + 1) [] (nx b s)) (fun d s' => if tk s' = 41 then .inr (d, nx b s') else .inl (ta s')) else .inl (ta s) := by
  rw [prs, if_neg (by decide), if_pos rfl]
theorem prs_3 {f o : Nat} {c : List Int32} {s : TS} : prs b (f + 1) 3 o c s = if tk s = 6 then (if o < 5 then pbd (prs b f 3 (o + 1) [] (nx b s)) (fun d s' => .inr (d ++ [-19], s')) else .inl (ta s)) else pbd (prs b f 2 o [] s) (fun d s' => if tk s' = 60 ∨ tk s' = 61 then pbd (prs b f 2 o [] (nx b s')) (fun d2 s2 => .inr (d ++ (d2 ++ [if tk s' = 60 then -15 else -16]), s2)) else .inr (d, s')) := by
  rw [prs, if_neg (by decide), if_neg (by decide), if_pos rfl]
theorem i01 {x : Int32} {M : S0} {Q : Int32 → S0 → Prop} (h : Q (if x = 0 then 1 else 0) M) : ((¬ x = 0) → Q (0 : Int32) M) ∧ ((x = 0) → Q (1 : Int32) M) :=
  ⟨fun c => by rw [if_neg c] at h; exact h, fun c => by rw [if_pos c] at h; exact h⟩
theorem m_prs (hb : Bf b n) : ∀ f : Nat,
    (∀ l, l ≤ 5 → ∀ o, o ≤ 5 → ∀ dd, l + 1 + 6 * (5 - o) ≤ dd → ∀ s, Sc b n s → l + 1 + 7 * (5 - o) + (n + 1 - ta s) ≤ f → ∀ M : S0, SM b n t v s o M → ∀ Q : Int32 → S0 → Prop, (∀ d s', prs b f l o [] s = .inr (d, s') → ∀ x, Evl v d (Dl l o) x → ∀ M', GP M M' → SM b n t v s' o M' → Q x M') → (∀ a, prs b f l o [] s = .inl a → ∀ x M', GP M M' → FM a M' → Q x M') → w_PM dd l M Q) ∧
    (∀ l, (l = 1 ∨ l = 2 ∨ l = 4 ∨ l = 5) → ∀ o, o ≤ 5 → ∀ dd, l + 6 * (5 - o) ≤ dd → ∀ (Q : Int32 → S0 → Prop) (Lp : Nat → S0 → Int32 → Prop), (∀ m a M x, FM a M → Q x M → Lp (m + 1) M x) → (∀ m s M x, Sc b n s → SM b n t v s o M → opc l (tk s) = 0 → Q x M → Lp (m + 1) M x) → (∀ m s M x, Sc b n s → SM b n t v s o M → ¬ opc l (tk s) = 0 → (∀ post : Int32 → S0 → Prop, (∀ y M2, Lp m M2 (jn (opc l (tk s)) x y) → post y M2) → w6_next M (fun M1 => w_PM dd (l - 1) M1 post)) → Lp (m + 1) M x) → ∀ s, Sc b n s → l + 1 + 7 * (5 - o) + (n + 1 - ta s) ≤ f → ∀ (c : List Int32) (x : Int32) (M : S0), SM b n t v s o M → Evl v c (Dl l o) x → ∀ m, f ≤ m → (∀ d s', prs b f (l + 6) o c s = .inr (d, s') → ∀ x, Evl v d (Dl l o) x → ∀ M', GP M M' → SM b n t v s' o M' → Q x M') → (∀ a, prs b f (l + 6) o c s = .inl a → ∀ x M', GP M M' → FM a M' → Q x M') → Lp m M x) := by
  have n160 := hb.1
  intro f
  induction f with
  | zero => exact ⟨fun l hl o ho dd hd s hs hf => absurd hf (by omega), fun l hl o ho dd hd Q Lp _ _ _ s hs hf => absurd hf (by omega)⟩
  | succ f ih =>
    obtain ⟨ihA, ihB⟩ := ih
    refine ⟨?_, ?_⟩
    · intro l hl o ho dd hd s hs hf M hM Q H HF
      obtain ⟨dd, rfl⟩ : ∃ m', dd = m' + 1 := ⟨dd - 1, by omega⟩
      have s1 : ta s ≤ n := hs.1
      rcases (by omega : l = 0 ∨ l = 3 ∨ (l = 1 ∨ l = 2 ∨ l = 4 ∨ l = 5)) with rfl | rfl | hl4
      · show w6_atom_body (w_PM dd) M Q
        unfold w6_atom_body
        rw [prs_0] at H HF
        refine hM.sign hs (p := 45) (by decide) (fun c45 => br_f (by decide) ?_) (fun c45 => br_t rfl ?_)
        · rw [if_neg (by rw [c45]; decide), if_neg (by rw [c45]; decide)] at H HF
          have h4 := hs.n4 (by rw [c45]; decide)
          have g := hs.nxlt hb (by rw [c45]; decide)
          refine hM.opens hb hs h4 ho (fun o5 M1 g1 h1 => br_f (by decide) ?_) (fun o5 M1 g1 h1 => br_t rfl ?_)
          · rw [if_pos ⟨c45, o5⟩] at H HF
            refine ihA 0 (by omega) (o + 1) (by omega) dd (by omega) _ (hs.go hb) (by omega) M1 h1 _ (fun d s' e x hx M2 g2 h2 => ?_) (fun a e x M2 g2 h2 => ?_)
            · rintro _ rfl _ rfl
              rw [h2.2.1, nI_pred]
              exact H _ _ (by rw [e]; rfl) _ (hx.neg.up (by show 0 + 1 + 5 * (5 - (o + 1)) ≤ 0 + 1 + 5 * (5 - o); omega)) _ ((g1.tr g2).tr (GP.up (by decide))) h2.up24
            · rintro _ rfl _ rfl
              exact HF a (by rw [e]; rfl) _ _ ((g1.tr g2).tr (GP.up (by decide))) h2.up24
          · rw [if_neg (fun z => o5 z.2), if_neg (fun z => o5 z.2)] at HF
            exact HF _ rfl _ _ g1 h1
        · have n45 : ¬ (tk s = 45 ∧ o < 5) := fun z => c45 z.1
          refine hM.sign hs (p := 40) (by decide) (fun c40 => br_f (by decide) ?_) (fun c40 => br_t rfl ?_)
          · rw [if_neg (by rw [c40]; decide), if_neg (by rw [c40]; decide), if_neg n45] at H HF
            have h4 := hs.n4 (by rw [c40]; decide)
            have g := hs.nxlt hb (by rw [c40]; decide)
            refine hM.opens hb hs h4 ho (fun o5 M1 g1 h1 => br_f (by decide) ?_) (fun o5 M1 g1 h1 => br_t rfl ?_)
            · rw [if_pos ⟨c40, o5⟩] at H HF
              refine ihA 5 (by omega) (o + 1) (by omega) dd (by omega) _ (hs.go hb) (by omega) M1 h1 _ (fun d s' e x hx M2 g2 h2 => ?_) (fun a e x M2 g2 h2 => ?_)
              · have k := (prs_ok hb _ _ _ _ _ _ _ e (hs.go hb)).1 (by omega)
                rw [e] at H HF
                refine h2.sign k.1 (p := 41) (by decide) (fun c41 => s_t (by decide) ?_) (fun c41 => s_f rfl ?_)
                · rintro _ rfl
                  rw [h2.2.1, nI_pred]
                  have h3 : SM b n t v s' o (up M2 0 24 (nI o)) := h2.up24
                  refine s_f h3.2.2.1 (h3.next hb k.1 (k.1.n4 (by rw [c41]; decide)) (fun M4 g4 h4 => ?_))
                  refine H d (nx b s') ?_ _ (hx.up (by show 5 + 1 + 5 * (5 - (o + 1)) ≤ 0 + 1 + 5 * (5 - o); omega)) _ (((g1.tr g2).tr (GP.up (by decide))).tr g4) h4
                  show (if tk s' = 41 then _ else _) = _
                  rw [if_pos c41]
                · refine h2.fail (fun M3 g3 h3 => ?_)
                  rintro _ rfl
                  refine s_t h3.up24.bd (HF (ta s') ?_ _ _ (((g1.tr g2).tr g3).tr (GP.up (by decide))) h3.up24)
                  show (if tk s' = 41 then _ else _) = _
                  rw [if_neg c41]
              · refine h2.sign (s_f rfl (h2.fail ?_))
                rintro _ rfl
                exact s_t h2.up24.bd (HF a (by rw [e]; rfl) _ _ ((g1.tr g2).tr (GP.up (by decide))) h2.up24)
            · rw [if_neg (fun z => o5 z.2)] at HF
              exact HF _ rfl _ _ g1 h1
          · have n40 : ¬ (tk s = 40 ∧ o < 5) := fun z => c40 z.1
            rw [if_neg n45, if_neg n40] at H HF
            refine s_f hM.2.2.1 ?_
            rw [hM.2.2.2.1]
            have e2 : nI (kt s) = 2 ↔ kt s = 2 := nI_eq (b := 2) (by have := hs.kt4; omega) (by decide)
            have e1 : nI (kt s) = 1 ↔ kt s = 1 := nI_eq (b := 1) (by have := hs.kt4; omega) (by decide)
            by_cases c7 : tk s = 7
            · have k2 := hs.num.mpr c7
              rw [if_pos c7] at H
              refine s_f (e2.mpr k2) ?_
              rintro _ rfl
              have w4 : tw s < 10000 := by
                rcases hs.2 with z | ⟨_, _, z | z | z | z⟩
                · omega
                · omega
                · exact z.2.2
                · omega
                · omega
              rw [hM.2.2.2.2.2.2.1 k2, lN_i]
              refine hM.next hb hs (by omega) (fun M1 g1 h1 => H _ _ rfl _ ((evl_num w4).up (by show 1 ≤ 0 + 1 + 5 * (5 - o); omega)) M1 g1 h1)
            · rw [if_neg c7] at H HF
              refine s_t (fun z => c7 (hs.num.mp (e2.mp z))) (s_f hM.2.2.1 ?_)
              by_cases k1 : kt s = 1
              · refine s_f (e1.mpr k1) ?_
                refine m_name hb hM hs (fun i hi ei => ?_) (fun cn M1 g1 h1 => ?_)
                · have cn : ¬ tk s < 10 ∧ tk s < 16 := by
                    rw [ei]
                    exact (by decide +kernel : ∀ i, i < 6 → (¬ nI (10 + i) < 10 ∧ nI (10 + i) < 16)) i hi
                  rw [if_pos cn] at H
                  obtain ⟨i', hi', e', e''⟩ := tk_name cn
                  have ii : i' = i := by
                    have := (nI_eq (by omega) (by omega)).mp (e'.symm.trans ei)
                    omega
                  rw [ii] at e''
                  refine s_f hM.2.2.1 (hM.next hb hs (by omega) (fun M1 g1 h1 => H _ _ rfl _ ?_ M1 g1 h1))
                  rw [e'']
                  exact (evl_name hi).up (by show 1 ≤ 0 + 1 + 5 * (5 - o); omega)
                · rw [if_neg cn] at HF
                  exact s_t h1.bd (HF _ rfl _ _ g1 h1)
              · refine s_t (fun z => k1 (e1.mp z)) (hM.fail (fun M1 g1 h1 => HF _ ?_ _ _ g1 h1))
                have cn : ¬ (¬ tk s < 10 ∧ tk s < 16) := fun z => by
                  rcases hs.2 with y | ⟨_, _, y | y | y | y⟩
                  · rw [y.2.1] at z; exact absurd z (by decide)
                  · exact k1 y.1
                  · rw [y.2.1] at z; exact absurd z (by decide)
                  · exact sgn_40 y.2 z.2
                  · rw [y.2] at z; exact absurd z (by decide)
                rw [if_neg cn]
      · show w6_not_body (w_PM dd) M Q
        unfold w6_not_body
        rw [prs_3] at H HF
        refine m_word hb 6 [110, 111, 116] hM hs (by decide) (by decide) (fun c6 => br_f (by decide) ?_) (fun c6 => br_t rfl ?_)
        · rw [if_pos c6] at H HF
          have g := hs.nxlt hb (by rw [c6]; decide)
          refine hM.opens hb hs (hs.n4 (by rw [c6]; decide)) ho (fun o5 M1 g1 h1 => s_t (by decide) ?_) (fun o5 M1 g1 h1 => s_f rfl ?_)
          · rw [if_pos o5] at H HF
            refine ihA 3 (by omega) (o + 1) (by omega) dd (by omega) _ (hs.go hb) (by omega) M1 h1 _ (fun d s' e x hx M2 g2 h2 => ?_) (fun a e x M2 g2 h2 => ?_)
            · rintro _ rfl
              rw [h2.2.1, nI_pred]
              exact i01 (H _ _ (by rw [e]; rfl) _ (hx.inv.up (by show 3 + 1 + 5 * (5 - (o + 1)) ≤ 3 + 1 + 5 * (5 - o); omega)) _ ((g1.tr g2).tr (GP.up (by decide))) h2.up24)
            · rintro _ rfl
              exact i01 (HF a (by rw [e]; rfl) _ _ ((g1.tr g2).tr (GP.up (by decide))) h2.up24)
          · rw [if_neg o5] at HF
            exact HF _ rfl _ _ g1 h1
        · rw [if_neg c6] at H HF
          refine ihA 2 (by omega) o ho dd (by omega) s hs (by omega) M hM _ (fun d s' e x hx M2 g2 h2 => ?_) (fun a e x M2 g2 h2 => ?_)
          · have k := (prs_ok hb _ _ _ _ _ _ _ e hs).1 (by omega)
            rw [e] at H HF
            have H : ∀ d9 s9, (if tk s' = 60 ∨ tk s' = 61 then pbd (prs b f 2 o [] (nx b s')) (fun d2 s2 => .inr (d ++ (d2 ++ [if tk s' = 60 then -15 else -16]), s2)) else .inr (d, s')) = (.inr (d9, s9) : PR) → ∀ x, Evl v d9 (Dl 3 o) x → ∀ M', GP M M' → SM b n t v s9 o M' → Q x M' := H
            have HF : ∀ a, (if tk s' = 60 ∨ tk s' = 61 then pbd (prs b f 2 o [] (nx b s')) (fun d2 s2 => .inr (d ++ (d2 ++ [if tk s' = 60 then -15 else -16]), s2)) else .inr (d, s')) = (.inl a : PR) → ∀ x M', GP M M' → FM a M' → Q x M' := HF
            have cmp : (tk s' = 60 ∨ tk s' = 61) → ∀ post : Int32 → S0 → Prop, (∀ y M4, Q (jn (if tk s' = 60 then -15 else -16) x y) M4 → post y M4) → w6_next M2 (fun M3 => w_PM dd 2 M3 post) := by
              intro cc post hp
              rw [if_pos cc] at H HF
              have g := k.1.nxlt hb (by rcases cc with q | q <;> rw [q] <;> decide)
              refine h2.next hb k.1 (k.1.n4 (by rcases cc with q | q <;> rw [q] <;> decide)) (fun M3 g3 h3 => ?_)
              refine ihA 2 (by omega) o ho dd (by omega) _ (k.1.go hb) (by omega) M3 h3 _ (fun d2 s2 e2 y hy M4 g4 h4 => hp y M4 ?_) (fun a e2 y M4 g4 h4 => hp y M4 ?_)
              · refine H _ _ (by rw [e2]; rfl) _ ((hx.up (E := Dl 3 o) (by show 2 + 1 + 5 * (5 - o) ≤ 3 + 1 + 5 * (5 - o); omega)).join hy (by show 2 + 1 + 5 * (5 - o) + 1 ≤ 3 + 1 + 5 * (5 - o); omega) ?_) M4 ((g2.tr g3).tr g4) h4
                split <;> decide
              · exact HF a (by rw [e2]; rfl) _ M4 ((g2.tr g3).tr g4) h4
            have g60 : lg_cmp (j64 (M2 0 23) (M2 0 100)) 60 = 0 ↔ j64 (M2 0 23) (M2 0 100) = (60 : Int32).toInt64 := lg_eq
            refine h2.sign k.1 (p := 60) (by decide) (fun c60 => s_t (by decide) ?_) (fun c60 => s_f rfl ?_)
            · rw [g60, h2.2.2.2.2.2.2.2 (k.1.sgn (p := 60) (by decide) c60), i64_inj]
              refine s_f c60 (cmp (Or.inl c60) _ (fun y M4 q => ?_))
              rw [if_pos c60] at q
              unfold jn at q
              rw [if_neg (by decide), if_neg (by decide), if_neg (by decide), if_pos rfl] at q
              refine ⟨fun z => ?_, fun z => ?_⟩
              · rw [if_neg (Int32.not_lt.mpr z)] at q; exact q
              · rw [if_pos (Int32.not_le.mp z)] at q; exact q
            · refine h2.sign k.1 (p := 61) (by decide) (fun c61 => s_t (by decide) ?_) (fun c61 => s_f rfl ?_)
              · rw [g60, h2.2.2.2.2.2.2.2 (k.1.sgn (p := 61) (by decide) c61), i64_inj]
                refine s_t c60 (cmp (Or.inr c61) _ (fun y M4 q => ?_))
                rw [if_neg c60] at q
                unfold jn at q
                rw [if_neg (by decide), if_neg (by decide), if_neg (by decide), if_neg (by decide), if_pos rfl] at q
                refine ⟨fun z => ?_, fun z => ?_⟩
                · rw [if_neg z] at q; exact q
                · rw [if_pos z] at q; exact q
              · rw [if_neg (fun z => z.elim c60 c61)] at H
                exact H _ _ rfl _ (hx.up (by show 2 + 1 + 5 * (5 - o) ≤ 3 + 1 + 5 * (5 - o); omega)) M2 g2 h2
          · exact h2.sign (s_f rfl (h2.sign (s_f rfl (HF a (by rw [e]; rfl) _ _ g2 h2))))
      · rw [prs_lvl hl4] at H HF
        have main : ∀ Lp : Nat → S0 → Int32 → Prop, (∀ m a M x, FM a M → Q x M → Lp (m + 1) M x) → (∀ m s M x, Sc b n s → SM b n t v s o M → opc l (tk s) = 0 → Q x M → Lp (m + 1) M x) → (∀ m s M x, Sc b n s → SM b n t v s o M → ¬ opc l (tk s) = 0 → (∀ post : Int32 → S0 → Prop, (∀ y M2, Lp m M2 (jn (opc l (tk s)) x y) → post y M2) → w6_next M (fun M1 => w_PM dd (l - 1) M1 post)) → Lp (m + 1) M x) → w_PM dd (l - 1) M (fun r2 M1 => ∃ n3, Lp n3 M1 r2) := by
          intro Lp hbd hst hgo
          refine ihA (l - 1) (by omega) o ho dd (by omega) s hs (by omega) M hM _ (fun d s' e x hx M2 g2 h2 => ?_) (fun a e x M2 g2 h2 => ?_)
          · have k := (prs_ok hb _ _ _ _ _ _ _ e hs).1 (by omega)
            rw [e] at H HF
            exact ⟨f, ihB l hl4 o ho dd (by omega) Q Lp hbd hst hgo s' k.1 (by omega) d x M2 h2 (hx.up (by show l - 1 + 1 + 5 * (5 - o) ≤ l + 1 + 5 * (5 - o); omega)) f (Nat.le_refl _) (fun d' s'' e' y hy M' g' h' => H d' s'' e' y hy M' (g2.tr g') h') (fun a e' y M' g' h' => HF a e' y M' (g2.tr g') h')⟩
          · exact ⟨1, hbd 0 a M2 x h2 (HF a (by rw [e]; rfl) x M2 g2 h2)⟩
        rcases hl4 with rfl | rfl | rfl | rfl
        · show w6_term_body (w_PM dd) M Q
          unfold w6_term_body
          refine main (fun m M x => w6_term_b5 (w_PM dd) Q m M x) (fun m a M x h q => ?_) (fun m s M x hs hM h0 q => ?_) (fun m s M x hs hM h1 g => ?_)
          · show w6_term_b5 (w_PM dd) Q (m + 1) M x
            rw [w6_term_b5]
            exact h.sign (br_t rfl q)
          · show w6_term_b5 (w_PM dd) Q (m + 1) M x
            rw [w6_term_b5]
            refine hM.sign hs (p := 42) (by decide) (fun z => ?_) (fun z => br_t rfl q)
            rw [z] at h0; exact absurd h0 (by decide)
          · show w6_term_b5 (w_PM dd) Q (m + 1) M x
            rw [w6_term_b5]
            refine hM.sign hs (p := 42) (by decide) (fun z => br_f (by decide) ?_) (fun z => absurd (show opc 1 (tk s) = 0 from by unfold opc; rw [if_pos rfl, if_neg z]) h1)
            rw [z] at g
            refine g _ (fun y M2 h2 => ?_)
            rintro _ rfl
            exact h2
        · show w6_added_body (w_PM dd) M Q
          unfold w6_added_body
          refine main (fun m M x => w6_added_b5 (w_PM dd) Q m M x) (fun m a M x h q => ?_) (fun m s M x hs hM h0 q => ?_) (fun m s M x hs hM h1 g => ?_)
          · show w6_added_b5 (w_PM dd) Q (m + 1) M x
            rw [w6_added_b5]
            exact h.sign (s_f rfl (h.sign (br_t rfl q)))
          · show w6_added_b5 (w_PM dd) Q (m + 1) M x
            rw [w6_added_b5]
            refine hM.sign hs (p := 43) (by decide) (fun z => ?_) (fun z => s_f rfl (hM.sign hs (p := 45) (by decide) (fun z2 => ?_) (fun z2 => br_t rfl q)))
            · rw [z] at h0; exact absurd h0 (by decide)
            · rw [z2] at h0; exact absurd h0 (by decide)
          · show w6_added_b5 (w_PM dd) Q (m + 1) M x
            rw [w6_added_b5]
            have g43 : lg_cmp (j64 (M 0 23) (M 0 100)) 43 = 0 ↔ j64 (M 0 23) (M 0 100) = (43 : Int32).toInt64 := lg_eq
            refine hM.sign hs (p := 43) (by decide) (fun z => s_t (by decide) ?_) (fun z => s_f rfl (hM.sign hs (p := 45) (by decide) (fun z2 => br_f (by decide) ?_) (fun z2 => absurd (show opc 2 (tk s) = 0 from by unfold opc; rw [if_neg (by decide), if_pos rfl, if_neg z, if_neg z2]) h1)))
            · rw [g43, hM.2.2.2.2.2.2.2 (hs.sgn (p := 43) (by decide) z), i64_inj]
              rw [z] at g
              refine s_f z (g _ (fun y M2 h2 => ?_))
              rintro _ rfl
              exact h2
            · rw [g43, hM.2.2.2.2.2.2.2 (hs.sgn (p := 45) (by decide) z2), i64_inj]
              rw [z2] at g
              refine s_t z (g _ (fun y M2 h2 => ?_))
              rintro _ rfl
              exact h2
        · show w6_both_body (w_PM dd) M Q
          unfold w6_both_body
          refine main (fun m M x => w6_both_b5 (w_PM dd) Q m M x) (fun m a M x h q => ?_) (fun m s M x hs hM h0 q => ?_) (fun m s M x hs hM h1 g => ?_)
          · show w6_both_b5 (w_PM dd) Q (m + 1) M x
            rw [w6_both_b5]
            exact h.word (br_t rfl q)
          · show w6_both_b5 (w_PM dd) Q (m + 1) M x
            rw [w6_both_b5]
            refine m_word hb 5 [97, 110, 100] hM hs (by decide) (by decide) (fun z => ?_) (fun z => br_t rfl q)
            rw [z] at h0; exact absurd h0 (by decide)
          · show w6_both_b5 (w_PM dd) Q (m + 1) M x
            rw [w6_both_b5]
            refine m_word hb 5 [97, 110, 100] hM hs (by decide) (by decide) (fun z => br_f (by decide) ?_) (fun z => absurd (show opc 4 (tk s) = 0 from by unfold opc; rw [if_neg (by decide), if_neg (by decide), if_pos rfl, if_neg z]) h1)
            rw [z] at g
            refine g _ (fun y M2 h2 => ?_)
            have h2 : w6_both_b5 (w_PM dd) Q m M2 (if ¬ x = 0 ∧ ¬ y = 0 then 1 else 0) := h2
            refine ⟨fun c1 => ?_, fun c1 => ⟨fun c2 => ?_, fun c2 => ?_⟩⟩
            · rw [if_neg (fun z => z.1 c1)] at h2; exact h2
            · rw [if_neg (fun z => z.2 c2)] at h2; exact h2
            · rw [if_pos ⟨c1, c2⟩] at h2; exact h2
        · show w6_either_body (w_PM dd) M Q
          unfold w6_either_body
          refine main (fun m M x => w6_either_b5 (w_PM dd) Q m M x) (fun m a M x h q => ?_) (fun m s M x hs hM h0 q => ?_) (fun m s M x hs hM h1 g => ?_)
          · show w6_either_b5 (w_PM dd) Q (m + 1) M x
            rw [w6_either_b5]
            exact h.word (br_t rfl q)
          · show w6_either_b5 (w_PM dd) Q (m + 1) M x
            rw [w6_either_b5]
            refine m_word hb 4 [111, 114] hM hs (by decide) (by decide) (fun z => ?_) (fun z => br_t rfl q)
            rw [z] at h0; exact absurd h0 (by decide)
          · show w6_either_b5 (w_PM dd) Q (m + 1) M x
            rw [w6_either_b5]
            refine m_word hb 4 [111, 114] hM hs (by decide) (by decide) (fun z => br_f (by decide) ?_) (fun z => absurd (show opc 5 (tk s) = 0 from by unfold opc; rw [if_neg (by decide), if_neg (by decide), if_neg (by decide), if_neg z]) h1)
            rw [z] at g
            refine g _ (fun y M2 h2 => ?_)
            have h2 : w6_either_b5 (w_PM dd) Q m M2 (if ¬ x = 0 ∨ ¬ y = 0 then 1 else 0) := h2
            refine ⟨fun c1 => ?_, fun c1 => ⟨fun c2 => ?_, fun c2 => ?_⟩⟩
            · rw [if_pos (Or.inl c1)] at h2; exact h2
            · rw [if_neg (fun z => z.elim (fun z => z c1) (fun z => z c2))] at h2; exact h2
            · rw [if_pos (Or.inr c2)] at h2; exact h2
    · intro l hl o ho dd hd Q Lp hbd hst hgo s hs hf c x M hM hx m hm H HF
      obtain ⟨m, rfl⟩ : ∃ m', m = m' + 1 := ⟨m - 1, by omega⟩
      have s1 : ta s ≤ n := hs.1
      rw [prs_loop (by omega)] at H HF
      by_cases c1 : opc l (tk s) = 0
      · rw [if_pos c1] at H
        exact hst m s M x hs hM c1 (H _ _ rfl x hx M GP.rf hM)
      · rw [if_neg c1] at H HF
        have h8 := opc_8 c1
        have h9 : ¬ tk s = 9 := fun z => by rw [z] at c1; exact c1 (opc_9 hl)
        have g := hs.nxlt hb h8
        refine hgo m s M x hs hM c1 (fun post hp => ?_)
        refine hM.next hb hs (hs.n4 h9) (fun M1 g1 h1 => ?_)
        refine ihA (l - 1) (by omega) o ho dd (by omega) _ (hs.go hb) (by omega) M1 h1 post (fun d s' e y hy M2 g2 h2 => hp y M2 ?_) (fun a e y M2 g2 h2 => hp y M2 ?_)
        · have k := (prs_ok hb _ _ _ _ _ _ _ e (hs.go hb)).1 (by omega)
          rw [e] at H HF
          exact ihB l hl o ho dd hd Q Lp hbd hst hgo s' k.1 (by omega) (c ++ (d ++ [opc l (tk s)])) _ M2 h2 (hx.join hy (by show l - 1 + 1 + 5 * (5 - o) + 1 ≤ l + 1 + 5 * (5 - o); omega) (opc_op c1)) m (by omega) (fun d' s'' e' z hz M' g' h' => H d' s'' e' z hz M' ((g1.tr g2).tr g') h') (fun a e' z M' g' h' => HF a e' z M' ((g1.tr g2).tr g') h')
        · obtain ⟨m, rfl⟩ : ∃ m', m = m' + 1 := ⟨m - 1, by omega⟩
          exact hbd m a M2 _ h2 (HF a (by rw [e]; rfl) _ M2 (g1.tr g2) h2)
end MPR
