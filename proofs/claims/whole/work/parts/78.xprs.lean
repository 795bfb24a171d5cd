/-! the class's reading of a TEXT: it makes the code that prs says -/
section XPR
variable {b : Nat → Int32} {n : Nat}
def SX (b : Nat → Int32) (n : Nat) (s : TS) (c : List Int32) (X : S0) : Prop := XT b n X ∧ X 0 2 = -1 ∧ X 0 4 = nI c.length ∧ (∀ i, i < c.length → X 2 i = c.getD i 0) ∧ X 0 5 = nI (tp s) ∧ X 0 6 = tk s ∧ X 0 7 = nI (ta s) ∧ (tk s = 7 → X 0 8 = nI (tw s))
/-- behind a FAULT -/
def FR (a : Nat) (X : S0) : Prop := X 0 2 = nI a ∧ X 0 6 = 9 ∧ a ≤ 160
theorem SX.next (hb : Bf b n) {s : TS} {c : List Int32} {X : S0} {Q : S0 → Prop} (h : SX b n s c X) (hs : Sc b n s) (k : ∀ X', SX b n (nx b s) c X' → Q X') : w1_next X Q := by
  obtain ⟨h1, h2, h3, h4, h5, h6, h7, h8⟩ := h
  refine x_next hb hs.tpn h1 h5 (fun X' f => k X' ⟨⟨(f.1 0 1 (Or.inr (by decide))).trans h1.1, fun h hh => (f.1 1 h (Or.inl (by decide))).trans (h1.2 h hh)⟩, (f.1 0 2 (Or.inr (by decide))).trans h2, (f.1 0 4 (Or.inr (by decide))).trans h3, fun i hi => (f.1 2 i (Or.inl (by decide))).trans (h4 i hi), f.2.1, f.2.2.1, f.2.2.2.1, f.2.2.2.2⟩)
theorem gd_l {c e : List Int32} {i : Nat} (h : i < c.length) : (c ++ e).getD i 0 = c.getD i 0 := by
  rw [List.getD_eq_getElem?_getD, List.getD_eq_getElem?_getD, List.getElem?_append_left h]
theorem gd_s {c : List Int32} {x : Int32} : (c ++ [x]).getD c.length 0 = x := by
  rw [List.getD_eq_getElem?_getD, List.getElem?_append_right (Nat.le_refl _), Nat.sub_self]
  rfl
theorem SX.emit {s : TS} {c : List Int32} {X : S0} {x : Int32} {Q : S0 → Prop} (h : SX b n s c X) (hc : c.length < 160) (k : ∀ X', SX b n s (c ++ [x]) X' → Q X') : w1_emit X x Q := by
  obtain ⟨h1, h2, h3, h4, h5, h6, h7, h8⟩ := h
  unfold w1_emit
  rw [h3]
  refine br_f (nI_pos (by omega)) (br_f (nI_ge (b := 160) hc (by decide)) ⟨vpl _ _ hc (by decide), ?_⟩)
  rw [nI_clamp (by omega)]
  rintro _ rfl _ rfl
  rw [up_k (by decide), h3, nI_1]
  refine k _ ⟨⟨by rw [up_j (by decide), up_k (by decide)]; exact h1.1, fun h hh => by rw [up_k (by decide), up_k (by decide)]; exact h1.2 h hh⟩, by rw [up_j (by decide), up_k (by decide)]; exact h2, by rw [up_s, List.length_append]; rfl, fun i hi => ?_, by rw [up_j (by decide), up_k (by decide)]; exact h5, by rw [up_j (by decide), up_k (by decide)]; exact h6, by rw [up_j (by decide), up_k (by decide)]; exact h7, fun z => by rw [up_j (by decide), up_k (by decide)]; exact h8 z⟩
  rw [List.length_append, List.length_singleton] at hi
  rw [up_k (by decide)]
  by_cases q : i = c.length
  · subst q
    rw [up_s, gd_s]
  · rw [up_j q, h4 i (by omega), gd_l (by omega)]
theorem FR.emit {a : Nat} {X : S0} {x : Int32} {Q : S0 → Prop} (h : FR a X) (k : ∀ X', FR a X' → Q X') : w1_emit X x Q := by
  unfold w1_emit
  refine ⟨fun _ => k X h, fun _ => ⟨fun _ => k X h, fun c => ⟨?_, ?_⟩⟩⟩
  · rename_i c0
    obtain ⟨j, hj, e⟩ := nI_of c0
    rw [e] at c ⊢
    exact vpl _ _ (by
      rcases Nat.lt_or_ge j 160 with q | q
      · exact q
      · exact absurd (nI_le (a := 160) q hj) c) (by decide)
  · rintro _ rfl _ rfl
    exact k _ ⟨by rw [up_j (by decide), up_k (by decide)]; exact h.1, by rw [up_j (by decide), up_k (by decide)]; exact h.2.1, h.2.2⟩
theorem FR.fails {a : Nat} {X : S0} {Q : S0 → Prop} (h : FR a X) (k : ∀ X', FR a X' → Q X') : w1_fails X Q := by
  unfold w1_fails
  refine s_t (by rw [h.1]; exact nI_nm1 (by have := h.2.2; omega)) ?_
  rintro _ rfl
  exact k _ ⟨by rw [up_j (by decide)]; exact h.1, up_s, h.2.2⟩
theorem SX.fails (hb : Bf b n) {s : TS} {c : List Int32} {X : S0} {Q : S0 → Prop} (h : SX b n s c X) (hs : Sc b n s) (k : ∀ X', FR (ta s) X' → Q X') : w1_fails X Q := by
  unfold w1_fails
  refine s_f h.2.1 ?_
  rintro _ rfl _ rfl
  exact k _ ⟨by rw [up_j (by decide), up_s]; exact h.2.2.2.2.2.2.1, up_s, Nat.le_trans hs.1 hb.1⟩
theorem SX.expect (hb : Bf b n) {s : TS} {c : List Int32} {X : S0} {q : Int32} {Q : S0 → Prop} (h : SX b n s c X) (hs : Sc b n s) (k : tk s = q → ∀ X', SX b n (nx b s) c X' → Q X') (kf : ¬ tk s = q → ∀ X', FR (ta s) X' → Q X') : w1_expect X q Q := by
  unfold w1_expect
  rw [h.2.2.2.2.2.1]
  exact ⟨fun e => h.next hb hs (k e), fun e => h.fails hb hs (kf e)⟩
theorem FR.expect {a : Nat} {X : S0} {q : Int32} {Q : S0 → Prop} (h : FR a X) (hq : ¬ (9 : Int32) = q) (k : ∀ X', FR a X' → Q X') : w1_expect X q Q := by
  unfold w1_expect
  rw [h.2.1]
  exact br_f hq (h.fails k)
theorem x_fail : ∀ (l : Nat), l ≤ 5 → ∀ (dd : Nat), l + l / 3 + 2 ≤ dd → ∀ (a : Nat) (X : S0) (p : Int32) (Q : S0 → Prop), FR a X → (∀ X', FR a X' → Q X') → w_PX dd l X p Q := by
  have h6 : ∀ (dd : Nat), 1 ≤ dd → ∀ (a : Nat) (X : S0) (p : Int32) (Q : S0 → Prop), FR a X → (∀ X', FR a X' → Q X') → w_PX dd 6 X p Q := by
    intro dd hd a X p Q h k
    obtain ⟨dd, rfl⟩ : ∃ m', dd = m' + 1 := ⟨dd - 1, by omega⟩
    show w1_readPlain_body (w_PX dd) X p Q
    unfold w1_readPlain_body
    rw [h.2.1]
    exact s_t (by decide) (br_t (by decide) (s_t (by decide) (h.fails k)))
  have h0 : ∀ (dd : Nat), 2 ≤ dd → ∀ (a : Nat) (X : S0) (p : Int32) (Q : S0 → Prop), FR a X → (∀ X', FR a X' → Q X') → w_PX dd 0 X p Q := by
    intro dd hd a X p Q h k
    obtain ⟨dd, rfl⟩ : ∃ m', dd = m' + 1 := ⟨dd - 1, by omega⟩
    show w1_readOne_body (w_PX dd) X p Q
    unfold w1_readOne_body w1_passed
    refine ⟨1, ?_⟩
    rw [w1_passed_b5, h.2.1]
    have g : w_PX dd 6 X (p + 0) (fun M3 => ∃ n4, w1_readOne_b17 (w_PX dd) Q n4 M3 0 (0 : Int32)) := h6 dd (by omega) a X _ _ h (fun X' h' => ⟨1, by
      rw [w1_readOne_b17]
      exact br_t (by decide) (k X' h')⟩)
    exact ⟨fun _ => g, fun _ => s_t (by decide) g⟩
  have h1 : ∀ (dd : Nat), 3 ≤ dd → ∀ (a : Nat) (X : S0) (p : Int32) (Q : S0 → Prop), FR a X → (∀ X', FR a X' → Q X') → w_PX dd 1 X p Q := by
    intro dd hd a X p Q h k
    obtain ⟨dd, rfl⟩ : ∃ m', dd = m' + 1 := ⟨dd - 1, by omega⟩
    show w1_readTerm_body (w_PX dd) X p Q
    unfold w1_readTerm_body
    refine h0 dd (by omega) a X p _ h (fun X' h' => ⟨1, ?_⟩)
    rw [w1_readTerm_b7, h'.2.1]
    exact br_f (by decide) (s_t (by decide) (k X' h'))
  have h2 : ∀ (dd : Nat), 4 ≤ dd → ∀ (a : Nat) (X : S0) (p : Int32) (Q : S0 → Prop), FR a X → (∀ X', FR a X' → Q X') → w_PX dd 2 X p Q := by
    intro dd hd a X p Q h k
    obtain ⟨dd, rfl⟩ : ∃ m', dd = m' + 1 := ⟨dd - 1, by omega⟩
    show w1_readSum_body (w_PX dd) X p Q
    unfold w1_readSum_body
    refine h1 dd (by omega) a X p _ h (fun X' h' => ⟨1, ?_⟩)
    rw [w1_readSum_b7, h'.2.1]
    exact br_f (by decide) (br_f (by decide) (s_t (by decide) (k X' h')))
  have h7 : ∀ (dd : Nat), 5 ≤ dd → ∀ (a : Nat) (X : S0) (p : Int32) (Q : S0 → Prop), FR a X → (∀ X', FR a X' → Q X') → w_PX dd 7 X p Q := by
    intro dd hd a X p Q h k
    obtain ⟨dd, rfl⟩ : ∃ m', dd = m' + 1 := ⟨dd - 1, by omega⟩
    show w1_readCompared_body (w_PX dd) X p Q
    unfold w1_readCompared_body
    refine (h2 dd (by omega) a X p _ h (fun X' h' => ?_))
    rw [h'.2.1]
    exact br_f (by decide) (s_t (by decide) (k X' h'))
  have h3 : ∀ (dd : Nat), 6 ≤ dd → ∀ (a : Nat) (X : S0) (p : Int32) (Q : S0 → Prop), FR a X → (∀ X', FR a X' → Q X') → w_PX dd 3 X p Q := by
    intro dd hd a X p Q h k
    obtain ⟨dd, rfl⟩ : ∃ m', dd = m' + 1 := ⟨dd - 1, by omega⟩
    show w1_readNot_body (w_PX dd) X p Q
    unfold w1_readNot_body w1_passed
    refine ⟨1, ?_⟩
    rw [w1_passed_b5, h.2.1]
    have g : w_PX dd 7 X (p + 0) (fun M3 => ∃ n4, w1_readNot_b17 (w_PX dd) Q n4 M3 0 (0 : Int32)) := h7 dd (by omega) a X _ _ h (fun X' h' => ⟨1, by
      rw [w1_readNot_b17]
      exact br_t (by decide) (k X' h')⟩)
    exact ⟨fun _ => g, fun _ => s_t (by decide) g⟩
  have h4 : ∀ (dd : Nat), 7 ≤ dd → ∀ (a : Nat) (X : S0) (p : Int32) (Q : S0 → Prop), FR a X → (∀ X', FR a X' → Q X') → w_PX dd 4 X p Q := by
    intro dd hd a X p Q h k
    obtain ⟨dd, rfl⟩ : ∃ m', dd = m' + 1 := ⟨dd - 1, by omega⟩
    show w1_readBoth_body (w_PX dd) X p Q
    unfold w1_readBoth_body
    refine h3 dd (by omega) a X p _ h (fun X' h' => ⟨1, ?_⟩)
    rw [w1_readBoth_b7, h'.2.1]
    exact br_f (by decide) (s_t (by decide) (k X' h'))
  have h5 : ∀ (dd : Nat), 8 ≤ dd → ∀ (a : Nat) (X : S0) (p : Int32) (Q : S0 → Prop), FR a X → (∀ X', FR a X' → Q X') → w_PX dd 5 X p Q := by
    intro dd hd a X p Q h k
    obtain ⟨dd, rfl⟩ : ∃ m', dd = m' + 1 := ⟨dd - 1, by omega⟩
    show w1_readEither_body (w_PX dd) X p Q
    unfold w1_readEither_body
    refine h4 dd (by omega) a X p _ h (fun X' h' => ⟨1, ?_⟩)
    rw [w1_readEither_b7, h'.2.1]
    exact br_f (by decide) (s_t (by decide) (k X' h'))
  intro l hl dd hd
  rcases (by omega : l = 0 ∨ l = 1 ∨ l = 2 ∨ l = 3 ∨ l = 4 ∨ l = 5) with rfl | rfl | rfl | rfl | rfl | rfl
  · exact h0 dd (by omega)
  · exact h1 dd (by omega)
  · exact h2 dd (by omega)
  · exact h3 dd (by omega)
  · exact h4 dd (by omega)
  · exact h5 dd (by omega)
theorem wem_mono {X : S0} {x : Int32} {P Q : S0 → Prop} (h : w1_emit X x P) (k : ∀ X', P X' → Q X') : w1_emit X x Q := by
  unfold w1_emit at h ⊢
  exact ⟨fun c => k _ (h.1 c), fun c => ⟨fun c2 => k _ ((h.2 c).1 c2), fun c2 => ⟨((h.2 c).2 c2).1, fun M2 e2 M3 e3 => k _ (((h.2 c).2 c2).2 M2 e2 M3 e3)⟩⟩⟩
theorem prs_loop {f l o : Nat} {c : List Int32} {s : TS} (hl : 1 ≤ l) : prs b (f + 1) (l + 6) o c s = if opc l (tk s) = 0 then .inr (c, s) else pbd (prs b f (l - 1) o [] (nx b s)) (fun d s' => prs b f (l + 6) o (c ++ (d ++ [opc l (tk s)])) s') := by
  rw [prs, if_pos (by omega), show l + 6 - 6 = l by omega, show l + 6 - 7 = l - 1 by omega]
theorem prs_lvl {f l o : Nat} {c : List Int32} {s : TS} (hl : l = 1 ∨ l = 2 ∨ l = 4 ∨ l = 5) : prs b (f + 1) l o c s = pbd (prs b f (l - 1) o [] s) (fun d s' => prs b f (l + 6) o d s') := by
  rw [prs, if_neg (by omega), if_neg (by omega), if_neg (by omega)]
theorem prs_6 {o : Nat} {s : TS} (h6 : tk s = 6) : ∀ (f l : Nat), l ≤ 2 → prs b f l o [] s = .inl (ta s) := by
  intro f
  induction f with
  | zero => intro l _; rfl
  | succ f ih =>
    intro l hl
    by_cases l0 : l = 0
    · subst l0
      rw [prs, if_neg (by decide), if_pos rfl, h6, if_neg (by decide), if_neg (by decide), if_neg (fun z => absurd z.1 (by decide)), if_neg (fun z => absurd z.1 (by decide))]
    · rw [prs_lvl (by omega), ih (l - 1) (by omega)]
      rfl
theorem opc_9 {l : Nat} (hl : l = 1 ∨ l = 2 ∨ l = 4 ∨ l = 5) : opc l 9 = 0 := by
  rcases hl with rfl | rfl | rfl | rfl <;> decide
/-- how many of a TOKEN stand here, j at most, and what stands behind them -/
def pss (b : Nat → Int32) (t : Int32) : Nat → TS → Nat × TS
  | 0, s => (0, s)
  | j + 1, s => if tk s = t then ((pss b t j (nx b s)).1 + 1, (pss b t j (nx b s)).2) else (0, s)
theorem pss_p {t : Int32} {j : Nat} {s : TS} (h : tk s = t) : pss b t (j + 1) s = ((pss b t j (nx b s)).1 + 1, (pss b t j (nx b s)).2) := by rw [pss, if_pos h]
theorem pss_n {t : Int32} {j : Nat} {s : TS} (h : ¬ tk s = t) : pss b t (j + 1) s = (0, s) := by rw [pss, if_neg h]
theorem pss_ok (hb : Bf b n) {t : Int32} (ht : ¬ t = 8) : ∀ (j : Nat) (s : TS), Sc b n s → Sc b n (pss b t j s).2 ∧ ta s + (pss b t j s).1 ≤ ta (pss b t j s).2 ∧ (pss b t j s).1 ≤ j ∧ (tk (pss b t j s).2 = t → (pss b t j s).1 = j) := by
  intro j
  induction j with
  | zero => intro s hs; exact ⟨hs, Nat.le_refl _, Nat.le_refl _, fun _ => rfl⟩
  | succ j ih =>
    intro s hs
    by_cases c : tk s = t
    · rw [pss_p c]
      obtain ⟨a1, a2, a3, a4⟩ := ih (nx b s) (hs.go hb)
      have g := hs.nxlt hb (by rw [c]; exact ht)
      refine ⟨a1, ?_, Nat.succ_le_succ a3, fun z => congrArg Nat.succ (a4 z)⟩
      show ta s + ((pss b t j (nx b s)).1 + 1) ≤ ta (pss b t j (nx b s)).2
      omega
    · rw [pss_n c]
      exact ⟨hs, Nat.le_refl _, Nat.zero_le _, fun z => absurd z c⟩
theorem pbd_id (r : PR) : pbd r (fun d s' => .inr (d ++ [], s')) = r := by
  cases r with
  | inl a => rfl
  | inr q =>
    show (.inr (q.1 ++ [], q.2) : PR) = .inr q
    rw [List.append_nil]
theorem prs_pss {t op : Int32} {l : Nat} (hstep : ∀ (f o : Nat) (s : TS), tk s = t → o < 5 → prs b (f + 1) l o [] s = pbd (prs b f l (o + 1) [] (nx b s)) (fun d s' => .inr (d ++ [op], s'))) : ∀ (j o f : Nat) (s : TS), o + j = 5 → prs b (f + (pss b t j s).1) l o [] s = pbd (prs b f l (o + (pss b t j s).1) [] (pss b t j s).2) (fun d s' => .inr (d ++ List.replicate (pss b t j s).1 op, s')) := by
  intro j
  induction j with
  | zero => intro o f s _; exact (pbd_id _).symm
  | succ j ih =>
    intro o f s e
    by_cases c : tk s = t
    · rw [pss_p c]
      show prs b (f + (pss b t j (nx b s)).1 + 1) l o [] s = pbd (prs b f l (o + ((pss b t j (nx b s)).1 + 1)) [] (pss b t j (nx b s)).2) (fun d s' => .inr (d ++ List.replicate ((pss b t j (nx b s)).1 + 1) op, s'))
      rw [hstep _ o s c (by omega), ih (o + 1) f (nx b s) (by omega), show o + ((pss b t j (nx b s)).1 + 1) = o + 1 + (pss b t j (nx b s)).1 by omega]
      generalize prs b f l (o + 1 + (pss b t j (nx b s)).1) [] (pss b t j (nx b s)).2 = r
      cases r with
      | inl a => rfl
      | inr q =>
        show (.inr ((q.1 ++ List.replicate (pss b t j (nx b s)).1 op) ++ [op], q.2) : PR) = .inr (q.1 ++ List.replicate ((pss b t j (nx b s)).1 + 1) op, q.2)
        rw [List.replicate_succ', List.append_assoc]
    · rw [pss_n c]
      exact (pbd_id _).symm
theorem step_not (f o : Nat) (s : TS) (h : tk s = 6) (ho : o < 5) : prs b (f + 1) 3 o [] s = pbd (prs b f 3 (o + 1) [] (nx b s)) (fun d s' => .inr (d ++ [-19], s')) := by
  rw [prs, if_neg (by decide), if_neg (by decide), if_pos rfl, if_pos h, if_pos ho]
theorem step_min (f o : Nat) (s : TS) (h : tk s = 45) (ho : o < 5) : prs b (f + 1) 0 o [] s = pbd (prs b f 0 (o + 1) [] (nx b s)) (fun d s' => .inr (d ++ [-14], s')) := by
  rw [prs, if_neg (by decide), if_pos rfl, if_neg (by rw [h]; decide), if_neg (by rw [h]; decide), if_pos ⟨h, ho⟩]
theorem x_passed (hb : Bf b n) {t : Int32} : ∀ (j o w : Nat) (s : TS) (c : List Int32) (X : S0) (Q : Int32 → S0 → Prop), o + j = 5 → Sc b n s → SX b n s c X → (∀ X', SX b n (pss b t j s).2 c X' → Q (nI (w + (pss b t j s).1)) X') → w1_passed_b5 Q (j + 1) X t (nI w) (nI o) := by
  intro j
  induction j with
  | zero =>
    intro o w s c X Q e hs hX h
    rw [w1_passed_b5]
    exact br_t (nI_le (a := 5) (by omega) (by omega)) (h X hX)
  | succ j ih =>
    intro o w s c X Q e hs hX h
    rw [w1_passed_b5, hX.2.2.2.2.2.1]
    refine br_f (nI_ge (b := 5) (by omega) (by decide)) ?_
    by_cases q : tk s = t
    · rw [pss_p q] at h
      refine s_f q (hX.next hb hs (fun X1 h1 => ?_))
      rintro _ rfl _ rfl
      rw [nI_1, nI_1]
      refine ih (o + 1) (w + 1) (nx b s) c X1 Q (by omega) (hs.go hb) h1 (fun X2 h2 => ?_)
      have z := h X2 h2
      rw [show w + 1 + (pss b t j (nx b s)).1 = w + ((pss b t j (nx b s)).1 + 1) by omega]
      exact z
    · rw [pss_n q] at h
      exact s_t q (h X hX)
theorem x_ems {k : Nat} {op : Int32} {Q : S0 → Prop} {Lp : Nat → S0 → Int32 → Prop} (k5 : k ≤ 5) (hst : ∀ m X i, nI k ≤ i → Q X → Lp (m + 1) X i) (hgo : ∀ m X i, ¬ nI k ≤ i → w1_emit X op (fun X1 => Lp m X1 (i + 1)) → Lp (m + 1) X i) : (∀ (f i : Nat) (s : TS) (c : List Int32) (X : S0), i + f = k → SX b n s c X → c.length + f ≤ 160 → (∀ X', SX b n s (c ++ List.replicate f op) X' → Q X') → Lp (f + 1) X (nI i)) ∧ ∀ (f i a : Nat) (X : S0), i + f = k → FR a X → (∀ X', FR a X' → Q X') → Lp (f + 1) X (nI i) := by
  refine ⟨?_, ?_⟩
  · intro f
    induction f with
    | zero =>
      intro i s c X e hX hc h
      refine hst _ _ _ (nI_le (by omega) (by omega)) (h X ?_)
      rw [List.replicate_zero, List.append_nil]
      exact hX
    | succ f ih =>
      intro i s c X e hX hc h
      refine hgo _ _ _ (nI_ge (by omega) (by omega)) (hX.emit (by omega) (fun X1 h1 => ?_))
      rw [nI_1]
      refine ih (i + 1) s (c ++ [op]) X1 (by omega) h1 (by rw [List.length_append, List.length_singleton]; omega) (fun X2 h2 => h X2 ?_)
      rw [List.replicate_succ, List.append_cons]
      exact h2
  · intro f
    induction f with
    | zero =>
      intro i a X e hX h
      exact hst _ _ _ (nI_le (by omega) (by omega)) (h X hX)
    | succ f ih =>
      intro i a X e hX h
      refine hgo _ _ _ (nI_ge (by omega) (by omega)) (hX.emit (fun X1 h1 => ?_))
      rw [nI_1]
      exact ih (i + 1) a X1 (by omega) h1 h
abbrev PA (b : Nat → Int32) (n f l : Nat) : Prop := ∀ o, o ≤ 5 → ∀ dd, l + l / 3 + 2 + 8 * (5 - o) ≤ dd → ∀ s, Sc b n s → l + 1 + 7 * (5 - o) + (n + 1 - ta s) ≤ f → ∀ (c : List Int32) (X : S0), SX b n s c X → c.length ≤ ta s → ∀ Q : S0 → Prop, (∀ d s', prs b f l o [] s = .inr (d, s') → ∀ X', SX b n s' (c ++ d) X' → Q X') → (∀ a, prs b f l o [] s = .inl a → ∀ X', FR a X' → Q X') → w_PX dd l X (nI o) Q
/-- as PA, where no t stands ahead that could be open -/
abbrev PC (b : Nat → Int32) (n f l i : Nat) (t : Int32) : Prop := ∀ o, o ≤ 5 → ∀ dd, l + l / 3 + 1 + 8 * (5 - o) ≤ dd → ∀ s, Sc b n s → ¬ (tk s = t ∧ o < 5) → l + 1 + 7 * (5 - o) + (n + 1 - ta s) ≤ f → ∀ (c : List Int32) (X : S0), SX b n s c X → c.length ≤ ta s → ∀ Q : S0 → Prop, (∀ d s', prs b f l o [] s = .inr (d, s') → ∀ X', SX b n s' (c ++ d) X' → Q X') → (∀ a, prs b f l o [] s = .inl a → ∀ X', FR a X' → Q X') → w_PX dd i X (nI o) Q
theorem x_pre (hb : Bf b n) {F l i : Nat} {t op : Int32} (hl : l = 0 ∨ l = 3) (ht : ¬ t = 8) (hstep : ∀ (f o : Nat) (s : TS), tk s = t → o < 5 → prs b (f + 1) l o [] s = pbd (prs b f l (o + 1) [] (nx b s)) (fun d s' => .inr (d ++ [op], s'))) (Lp : Nat → (S0 → Prop) → Nat → S0 → Int32 → Int32 → Prop) (hst : ∀ dd Q m X r i, r ≤ i → Q X → Lp dd Q (m + 1) X r i) (hgo : ∀ dd Q m X r i, ¬ r ≤ i → w1_emit X op (fun X1 => Lp dd Q m X1 r (i + 1)) → Lp dd Q (m + 1) X r i) (hbody : ∀ dd X p Q, w1_passed X t p (fun r2 M1 => w_PX dd i M1 (p + r2) (fun M3 => ∃ n4, Lp dd Q n4 M3 r2 (0 : Int32))) → w_PX (dd + 1) l X p Q) (core : ∀ f, f ≤ F → PC b n f l i t) : PA b n F l := by
  intro o ho dd hd s hs hf c X hX hc Q H HF
  have n160 := hb.1
  obtain ⟨dd, rfl⟩ : ∃ m', dd = m' + 1 := ⟨dd - 1, by omega⟩
  obtain ⟨a1, a2, a3, a4⟩ := pss_ok hb ht (5 - o) s hs
  have pq := prs_pss hstep (5 - o) o (F - (pss b t (5 - o) s).1) s (by omega)
  have xp := x_passed hb (t := t) (5 - o) o 0 s c X
  generalize hk : (pss b t (5 - o) s).1 = k at a2 a3 a4 pq xp
  generalize hs2 : (pss b t (5 - o) s).2 = s2 at a1 a2 a4 pq xp
  have s1 : ta s2 ≤ n := a1.1
  rw [show F - k + k = F by omega] at pq
  rw [pq] at H HF
  refine hbody dd X _ Q ?_
  unfold w1_passed
  refine ⟨_, xp _ (by omega) hs hX (fun X1 h1 => ?_)⟩
  show w_PX dd i X1 (nI o + nI (0 + k)) _
  rw [Nat.zero_add, nI_add]
  obtain ⟨em, emF⟩ := x_ems (b := b) (n := n) (k := k) (op := op) (Q := Q) (Lp := fun m X i => Lp dd Q m X (nI k) i) (by omega) (fun m X i => hst dd Q m X (nI k) i) (fun m X i => hgo dd Q m X (nI k) i)
  refine core (F - k) (by omega) (o + k) (by omega) dd (by omega) s2 a1 (fun z => by have := a4 z.1; omega) (by omega) c X1 h1 (by omega) _ (fun d s' e X2 h2 => ⟨k + 1, ?_⟩) (fun a e X2 h2 => ⟨k + 1, ?_⟩)
  · rw [e] at H pq
    have pq : prs b F l o [] s = .inr (d ++ List.replicate k op, s') := pq
    have g := (prs_ok hb _ _ _ _ _ _ _ e a1).1 (by omega)
    have g1 := g.1.1
    have gl := g.2.2.1
    have pl := ((prs_ok hb _ _ _ _ _ _ _ pq hs).1 (by omega)).2.2.1
    rw [List.length_append, List.length_replicate] at pl
    refine em k 0 s' (c ++ d) X2 (Nat.zero_add _) h2 (by rw [List.length_append]; omega) (fun X3 h3 => H _ _ rfl X3 ?_)
    rw [List.append_assoc] at h3
    exact h3
  · rw [e] at HF
    exact emF k 0 a X2 (Nat.zero_add _) h2 (HF a rfl)
abbrev PB (b : Nat → Int32) (n f l : Nat) : Prop := ∀ o, o ≤ 5 → ∀ dd, l - 1 + (l - 1) / 3 + 2 + 8 * (5 - o) ≤ dd → ∀ (Q : S0 → Prop) (Lp : Nat → S0 → Int32 → Prop), (∀ m X i, opc l (X 0 6) = 0 → Q X → Lp (m + 1) X i) → (∀ m X i, ¬ (160 : Int32) ≤ i → ¬ opc l (X 0 6) = 0 → (∀ post : S0 → Prop, (∀ X2, w1_emit X2 (opc l (X 0 6)) (fun X3 => Lp m X3 (i + 1)) → post X2) → w1_next X (fun X1 => w_PX dd (l - 1) X1 (nI o) post)) → Lp (m + 1) X i) → ∀ s, Sc b n s → l + 1 + 7 * (5 - o) + (n + 1 - ta s) ≤ f → ∀ (c0 c : List Int32) (X : S0), SX b n s (c0 ++ c) X → (c0 ++ c).length ≤ ta s → ∀ i, i ≤ ta s → ∀ m, f ≤ m → (∀ d s', prs b f (l + 6) o c s = .inr (d, s') → ∀ X', SX b n s' (c0 ++ d) X' → Q X') → (∀ a, prs b f (l + 6) o c s = .inl a → ∀ X', FR a X' → Q X') → Lp m X (nI i)
theorem core_one (hb : Bf b n) {f : Nat} (ihA : ∀ l, l ≤ 5 → PA b n f l) : PC b n (f + 1) 0 6 45 := by
  have n160 := hb.1
  intro o ho dd hd s hs hn hf c X hX hc Q H HF
  obtain ⟨dd, rfl⟩ : ∃ m', dd = m' + 1 := ⟨dd - 1, by omega⟩
  have e6 := hX.2.2.2.2.2.1
  have s1 : ta s ≤ n := hs.1
  show w1_readPlain_body (w_PX dd) X (nI o) Q
  unfold w1_readPlain_body
  rw [e6]
  rw [prs, if_neg (by decide), if_pos rfl] at H HF
  by_cases c7 : tk s = 7
  · rw [if_pos c7] at H
    have g := hs.nxlt hb (by rw [c7]; decide)
    have g1 := (hs.lt (by rw [c7]; decide)).2
    refine s_f c7 ?_
    rw [hX.2.2.2.2.2.2.2 c7]
    exact hX.emit (by omega) (fun X1 h1 => h1.next hb hs (fun X2 h2 => H _ _ rfl X2 h2))
  · rw [if_neg c7] at H HF
    refine s_t c7 ?_
    by_cases cn : ¬ tk s < 10 ∧ tk s < 16
    · rw [if_pos cn] at H
      obtain ⟨i, hi, e1, e2⟩ := tk_name cn
      have h8 : ¬ tk s = 8 := by
        rw [e1]
        exact (by decide +kernel : ∀ i, i < 6 → ¬ nI (10 + i) = 8) i hi
      have g1 := (hs.lt h8).2
      refine br_f cn.1 (br_f (Int32.not_le.mpr cn.2) ?_)
      exact hX.emit (by omega) (fun X1 h1 => h1.next hb hs (fun X2 h2 => H _ _ rfl X2 h2))
    · rw [if_neg cn] at H HF
      rw [if_neg hn] at H HF
      have go : ((¬ tk s = 40) → w1_fails X (fun M1 => Q M1)) ∧ ((tk s = 40) → (((5 : Int32) ≤ nI o → w1_fails X (fun M2 => Q M2)) ∧ (¬ (5 : Int32) ≤ nI o → w1_next X (fun M3 => w_PX dd 5 M3 (nI o + (1 : Int32)) (fun M4 => w1_expect M4 (41 : Int32) (fun M5 => Q M5)))))) := by
        by_cases c40 : tk s = 40
        · refine s_f c40 ?_
          by_cases o5 : o < 5
          · rw [if_pos ⟨c40, o5⟩] at H HF
            have g := hs.nxlt hb (by rw [c40]; decide)
            refine br_f (nI_ge (b := 5) o5 (by decide)) ?_
            refine hX.next hb hs (fun X1 h1 => ?_)
            rw [nI_1]
            refine ihA 5 (by omega) (o + 1) (by omega) dd (by omega) _ (hs.go hb) (by omega) c X1 h1 (by omega) _ (fun d s' e X2 h2 => ?_) (fun a e X2 h2 => ?_)
            · have k := (prs_ok hb _ _ _ _ _ _ _ e (hs.go hb)).1 (by omega)
              rw [e] at H HF
              refine h2.expect hb k.1 (fun c41 X3 h3 => H _ _ ?_ X3 h3) (fun c41 X3 h3 => HF _ ?_ X3 h3)
              · show (if tk s' = 41 then _ else _) = _
                rw [if_pos c41]
              · show (if tk s' = 41 then _ else _) = _
                rw [if_neg c41]
            · exact h2.expect (by decide) (fun X3 h3 => HF a (by rw [e]; rfl) X3 h3)
          · rw [if_neg (fun z => o5 z.2)] at HF
            refine br_t (nI_le (a := 5) (by omega) (by omega)) ?_
            exact hX.fails hb hs (HF _ rfl)
        · refine s_t c40 ?_
          rw [if_neg (fun z => c40 z.1)] at HF
          exact hX.fails hb hs (HF _ rfl)
      refine ⟨fun _ => go, fun c10 => ⟨fun _ => go, fun c16 => absurd ⟨c10, Int32.not_le.mp c16⟩ cn⟩⟩
theorem core_not (hb : Bf b n) {f : Nat} (ihA : ∀ l, l ≤ 5 → PA b n f l) : PC b n (f + 1) 3 7 6 := by
  have n160 := hb.1
  intro o ho dd hd s hs hn hf c X hX hc Q H HF
  obtain ⟨dd, rfl⟩ : ∃ m', dd = m' + 1 := ⟨dd - 1, by omega⟩
  have s1 : ta s ≤ n := hs.1
  show w1_readCompared_body (w_PX dd) X (nI o) Q
  unfold w1_readCompared_body
  rw [prs, if_neg (by decide), if_neg (by decide), if_pos rfl] at H HF
  by_cases c6 : tk s = 6
  · rw [if_pos c6, if_neg (fun z => hn ⟨c6, z⟩)] at HF
    refine ihA 2 (by omega) o ho dd (by omega) s hs (by omega) c X hX hc _ (fun d s' e => ?_) (fun a e X2 h2 => ?_)
    · rw [prs_6 c6 _ _ (by omega)] at e; cases e
    · rw [prs_6 c6 _ _ (by omega)] at e
      obtain rfl := Sum.inl.inj e
      rw [h2.2.1]
      exact br_f (by decide) (s_t (by decide) (HF _ rfl X2 h2))
  · rw [if_neg c6] at H HF
    refine ihA 2 (by omega) o ho dd (by omega) s hs (by omega) c X hX hc _ (fun d s' e X2 h2 => ?_) (fun a e X2 h2 => ?_)
    · have k := (prs_ok hb _ _ _ _ _ _ _ e hs).1 (by omega)
      rw [e] at H HF
      have H : ∀ d9 s9, (if tk s' = 60 ∨ tk s' = 61 then pbd (prs b f 2 o [] (nx b s')) (fun d2 s2 => .inr (d ++ (d2 ++ [if tk s' = 60 then -15 else -16]), s2)) else .inr (d, s')) = (.inr (d9, s9) : PR) → ∀ X', SX b n s9 (c ++ d9) X' → Q X' := H
      have HF : ∀ a, (if tk s' = 60 ∨ tk s' = 61 then pbd (prs b f 2 o [] (nx b s')) (fun d2 s2 => .inr (d ++ (d2 ++ [if tk s' = 60 then -15 else -16]), s2)) else .inr (d, s')) = (.inl a : PR) → ∀ X', FR a X' → Q X' := HF
      have f6 := h2.2.2.2.2.2.1
      rw [f6]
      have cmp : (tk s' = 60 ∨ tk s' = 61) → ∀ post : S0 → Prop, (∀ X4, w1_emit X4 (if tk s' = 60 then -15 else -16) Q → post X4) → w1_next X2 (fun M3 => w_PX dd 2 M3 (nI o) post) := by
        intro cc post hp
        rw [if_pos cc] at H HF
        have g := k.1.nxlt hb (by rcases cc with q | q <;> rw [q] <;> decide)
        refine h2.next hb k.1 (fun X3 h3 => ?_)
        refine ihA 2 (by omega) o ho dd (by omega) _ (k.1.go hb) (by omega) (c ++ d) X3 h3 (by rw [List.length_append]; omega) _ (fun d2 s2 e2 X4 h4 => hp X4 ?_) (fun a e2 X4 h4 => hp X4 ?_)
        · have k2 := (prs_ok hb _ _ _ _ _ _ _ e2 (k.1.go hb)).1 (by omega)
          have k3 := k2.1.1
          refine h4.emit (by rw [List.length_append, List.length_append]; omega) (fun X5 h5 => H _ _ (by rw [e2]; rfl) X5 ?_)
          rw [List.append_assoc, List.append_assoc] at h5
          exact h5
        · exact h4.emit (fun X5 h5 => HF a (by rw [e2]; rfl) X5 h5)
      refine ⟨fun c60 => ?_, fun c60 => ⟨fun c61 => ?_, fun c61 => ?_⟩⟩
      · rintro _ rfl
        refine cmp (Or.inl c60) _ (fun X4 h4 => ?_)
        rw [if_pos c60] at h4
        exact s_f c60 h4
      · rw [if_neg (fun z => z.elim c60 c61)] at H
        exact H _ _ rfl X2 h2
      · rintro _ rfl
        refine cmp (Or.inr c61) _ (fun X4 h4 => ?_)
        rw [if_neg c60] at h4
        exact s_t c60 h4
    · rw [h2.2.1]
      exact br_f (by decide) (s_t (by decide) (HF a (by rw [e]; rfl) X2 h2))
theorem x_prs (hb : Bf b n) : ∀ f : Nat, (∀ l, l ≤ 5 → PA b n f l) ∧ ∀ l, (l = 1 ∨ l = 2 ∨ l = 4 ∨ l = 5) → PB b n f l := by
  have n160 := hb.1
  intro f
  induction f using Nat.strongRecOn
  rename_i F IH
  cases F with
  | zero => exact ⟨fun l hl o ho dd hd s hs hf => absurd hf (by omega), fun l hl o ho dd hd Q Lp _ _ s hs hf => absurd hf (by omega)⟩
  | succ f =>
    obtain ⟨ihA, ihB⟩ := IH f (Nat.lt_succ_self f)
    refine ⟨?_, ?_⟩
    · intro l hl
      rcases (by omega : l = 0 ∨ l = 3 ∨ (l = 1 ∨ l = 2 ∨ l = 4 ∨ l = 5)) with rfl | rfl | hl4
      · refine x_pre hb (i := 6) (t := 45) (Or.inl rfl) (by decide) step_min (fun dd Q m X r i => w1_readOne_b17 (w_PX dd) Q m X r i) (fun dd Q m X r i h q => ?_) (fun dd Q m X r i h q => ?_) (fun dd X p Q h => ?_) (fun f' hf' => ?_)
        · show w1_readOne_b17 (w_PX dd) Q (m + 1) X r i
          rw [w1_readOne_b17]
          exact br_t h q
        · show w1_readOne_b17 (w_PX dd) Q (m + 1) X r i
          rw [w1_readOne_b17]
          refine br_f h (wem_mono q (fun X1 h1 => ?_))
          rintro _ rfl
          exact h1
        · show w1_readOne_body (w_PX dd) X p Q
          unfold w1_readOne_body
          exact h
        · cases f' with
          | zero => exact fun o ho dd hd s hs hn hf => absurd hf (by omega)
          | succ f' => exact core_one hb (IH f' (by omega)).1
      · refine x_pre hb (i := 7) (t := 6) (Or.inr rfl) (by decide) step_not (fun dd Q m X r i => w1_readNot_b17 (w_PX dd) Q m X r i) (fun dd Q m X r i h q => ?_) (fun dd Q m X r i h q => ?_) (fun dd X p Q h => ?_) (fun f' hf' => ?_)
        · show w1_readNot_b17 (w_PX dd) Q (m + 1) X r i
          rw [w1_readNot_b17]
          exact br_t h q
        · show w1_readNot_b17 (w_PX dd) Q (m + 1) X r i
          rw [w1_readNot_b17]
          refine br_f h (wem_mono q (fun X1 h1 => ?_))
          rintro _ rfl
          exact h1
        · show w1_readNot_body (w_PX dd) X p Q
          unfold w1_readNot_body
          exact h
        · cases f' with
          | zero => exact fun o ho dd hd s hs hn hf => absurd hf (by omega)
          | succ f' => exact core_not hb (IH f' (by omega)).1
      · intro o ho dd hd s hs hf c X hX hc Q H HF
        obtain ⟨dd, rfl⟩ : ∃ m', dd = m' + 1 := ⟨dd - 1, by omega⟩
        have e6 := hX.2.2.2.2.2.1
        have s1 : ta s ≤ n := hs.1
        rw [prs_lvl hl4] at H HF
        have main : ∀ Lp : Nat → S0 → Int32 → Prop, (∀ m X i, opc l (X 0 6) = 0 → Q X → Lp (m + 1) X i) → (∀ m X i, ¬ (160 : Int32) ≤ i → ¬ opc l (X 0 6) = 0 → (∀ post : S0 → Prop, (∀ X2, w1_emit X2 (opc l (X 0 6)) (fun X3 => Lp m X3 (i + 1)) → post X2) → w1_next X (fun X1 => w_PX dd (l - 1) X1 (nI o) post)) → Lp (m + 1) X i) → w_PX dd (l - 1) X (nI o) (fun M1 => ∃ n2, Lp n2 M1 (0 : Int32)) := by
          intro Lp hst hgo
          refine ihA (l - 1) (by omega) o ho dd (by omega) s hs (by omega) c X hX hc _ (fun d s' e X2 h2 => ?_) (fun a e X2 h2 => ?_)
          · have k := (prs_ok hb _ _ _ _ _ _ _ e hs).1 (by omega)
            rw [e] at H HF
            exact ⟨f, ihB l hl4 o ho dd (by omega) Q Lp hst hgo s' k.1 (by omega) c d X2 h2 (by rw [List.length_append]; omega) 0 (by omega) f (Nat.le_refl _) H HF⟩
          · exact ⟨1, hst 0 X2 0 (by rw [h2.2.1]; exact opc_9 hl4) (HF a (by rw [e]; rfl) X2 h2)⟩
        rcases hl4 with rfl | rfl | rfl | rfl
        · show w1_readTerm_body (w_PX dd) X (nI o) Q
          unfold w1_readTerm_body
          refine main (fun m X i => w1_readTerm_b7 (w_PX dd) Q m X (nI o) i) (fun m X i h0 q => ?_) (fun m X i h0 h1 g => ?_)
          · show w1_readTerm_b7 (w_PX dd) Q (m + 1) X (nI o) i
            rw [w1_readTerm_b7]
            refine ⟨fun _ => q, fun _ => ⟨fun _ => q, fun z => ?_⟩⟩
            rw [z] at h0; exact absurd h0 (by decide)
          · show w1_readTerm_b7 (w_PX dd) Q (m + 1) X (nI o) i
            rw [w1_readTerm_b7]
            by_cases z : X 0 6 = 42
            · rw [z] at g
              exact br_f h0 (s_f z (g _ (fun X2 h2 => by
                refine wem_mono h2 (fun X3 h3 => ?_)
                rintro _ rfl
                exact h3)))
            · exact absurd (show opc 1 (X 0 6) = 0 from by unfold opc; rw [if_pos rfl, if_neg z]) h1
        · show w1_readSum_body (w_PX dd) X (nI o) Q
          unfold w1_readSum_body
          refine main (fun m X i => w1_readSum_b7 (w_PX dd) Q m X (nI o) i) (fun m X i h0 q => ?_) (fun m X i h0 h1 g => ?_)
          · show w1_readSum_b7 (w_PX dd) Q (m + 1) X (nI o) i
            rw [w1_readSum_b7]
            refine ⟨fun _ => q, fun _ => ⟨fun z => ?_, fun _ => ⟨fun _ => q, fun z => ?_⟩⟩⟩
            · rw [z] at h0; exact absurd h0 (by decide)
            · rw [z] at h0; exact absurd h0 (by decide)
          · show w1_readSum_b7 (w_PX dd) Q (m + 1) X (nI o) i
            rw [w1_readSum_b7]
            refine br_f h0 ?_
            by_cases z : X 0 6 = 43
            · refine br_t z ?_
              rintro _ rfl
              rw [z] at g ⊢
              refine g _ (fun X2 h2 => s_f rfl ?_)
              refine wem_mono h2 (fun X3 h3 => ?_)
              rintro _ rfl
              exact h3
            · refine br_f z ?_
              by_cases z2 : X 0 6 = 45
              · refine s_f z2 ?_
                rintro _ rfl
                rw [z2] at g ⊢
                refine g _ (fun X2 h2 => s_t (by decide) ?_)
                refine wem_mono h2 (fun X3 h3 => ?_)
                rintro _ rfl
                exact h3
              · exact absurd (show opc 2 (X 0 6) = 0 from by unfold opc; rw [if_neg (by decide), if_pos rfl, if_neg z, if_neg z2]) h1
        · show w1_readBoth_body (w_PX dd) X (nI o) Q
          unfold w1_readBoth_body
          refine main (fun m X i => w1_readBoth_b7 (w_PX dd) Q m X (nI o) i) (fun m X i h0 q => ?_) (fun m X i h0 h1 g => ?_)
          · show w1_readBoth_b7 (w_PX dd) Q (m + 1) X (nI o) i
            rw [w1_readBoth_b7]
            refine ⟨fun _ => q, fun _ => ⟨fun _ => q, fun z => ?_⟩⟩
            rw [z] at h0; exact absurd h0 (by decide)
          · show w1_readBoth_b7 (w_PX dd) Q (m + 1) X (nI o) i
            rw [w1_readBoth_b7]
            by_cases z : X 0 6 = 5
            · rw [z] at g
              exact br_f h0 (s_f z (g _ (fun X2 h2 => by
                refine wem_mono h2 (fun X3 h3 => ?_)
                rintro _ rfl
                exact h3)))
            · exact absurd (show opc 4 (X 0 6) = 0 from by unfold opc; rw [if_neg (by decide), if_neg (by decide), if_pos rfl, if_neg z]) h1
        · show w1_readEither_body (w_PX dd) X (nI o) Q
          unfold w1_readEither_body
          refine main (fun m X i => w1_readEither_b7 (w_PX dd) Q m X (nI o) i) (fun m X i h0 q => ?_) (fun m X i h0 h1 g => ?_)
          · show w1_readEither_b7 (w_PX dd) Q (m + 1) X (nI o) i
            rw [w1_readEither_b7]
            refine ⟨fun _ => q, fun _ => ⟨fun _ => q, fun z => ?_⟩⟩
            rw [z] at h0; exact absurd h0 (by decide)
          · show w1_readEither_b7 (w_PX dd) Q (m + 1) X (nI o) i
            rw [w1_readEither_b7]
            by_cases z : X 0 6 = 4
            · rw [z] at g
              exact br_f h0 (s_f z (g _ (fun X2 h2 => by
                refine wem_mono h2 (fun X3 h3 => ?_)
                rintro _ rfl
                exact h3)))
            · exact absurd (show opc 5 (X 0 6) = 0 from by unfold opc; rw [if_neg (by decide), if_neg (by decide), if_neg (by decide), if_neg z]) h1
    · intro l hl o ho dd hd Q Lp hst hgo s hs hf c0 c X hX hc i hi m hm H HF
      obtain ⟨m, rfl⟩ : ∃ m', m = m' + 1 := ⟨m - 1, by omega⟩
      have e6 := hX.2.2.2.2.2.1
      have s1 : ta s ≤ n := hs.1
      rw [prs_loop (by omega)] at H HF
      by_cases c1 : opc l (tk s) = 0
      · rw [if_pos c1] at H
        exact hst m X _ (by rw [e6]; exact c1) (H _ _ rfl X hX)
      · rw [if_neg c1] at H HF
        have h8 := opc_8 c1
        have g := hs.nxlt hb h8
        have g1 := (hs.lt h8).2
        refine hgo m X _ (nI_ge (b := 160) (by omega) (by omega)) (by rw [e6]; exact c1) (fun post hp => ?_)
        rw [e6] at hp
        refine hX.next hb hs (fun X1 h1 => ?_)
        refine ihA (l - 1) (by omega) o ho dd (by omega) _ (hs.go hb) (by omega) (c0 ++ c) X1 h1 (by omega) post (fun d s' e X2 h2 => hp X2 ?_) (fun a e X2 h2 => hp X2 ?_)
        · have k := (prs_ok hb _ _ _ _ _ _ _ e (hs.go hb)).1 (by omega)
          have k1 := k.1.1
          rw [e] at H HF
          have len : ((c0 ++ c) ++ d).length + 1 ≤ ta s' := by rw [List.length_append]; omega
          refine h2.emit (by omega) (fun X3 h3 => ?_)
          rw [List.append_assoc, List.append_assoc] at h3
          rw [nI_1]
          refine ihB l hl o ho dd hd Q Lp hst hgo s' k.1 (by omega) c0 (c ++ (d ++ [opc l (tk s)])) X3 h3 (by rw [← List.append_assoc, ← List.append_assoc, List.length_append, List.length_singleton]; exact len) (i + 1) (by omega) m (by omega) H HF
        · refine h2.emit (fun X3 h3 => ?_)
          obtain ⟨m, rfl⟩ : ∃ m', m = m' + 1 := ⟨m - 1, by omega⟩
          exact hst m X3 _ (by rw [h3.2.1]; exact opc_9 hl) (HF a (by rw [e]; rfl) X3 h3)
theorem x_prt (hb : Bf b n) {q : Int32} (hq : ¬ q = 8) {s : TS} (hs : Sc b n s) {c : List Int32} {X : S0} (hX : SX b n s c X) (hc : c.length ≤ ta s) {Q : S0 → Prop} (H : ∀ d s', prt b q s = .inr (d, s') → ∀ X', SX b n s' (c ++ d) X' → Q X') (HF : ∀ a, prt b q s = .inl a → ∀ X', FR a X' → Q X') : w1_expect X q (fun X1 => ∃ d, d ≤ 60 ∧ w_PX d 5 X1 0 (fun X2 => w1_expect X2 59 Q)) := by
  have n160 := hb.1
  unfold prt at H HF
  refine hX.expect hb hs (fun e X1 h1 => ⟨60, Nat.le_refl _, ?_⟩) (fun e X1 h1 => ⟨60, Nat.le_refl _, ?_⟩)
  · rw [if_pos e] at H HF
    have g := hs.nxlt hb (by rw [e]; exact hq)
    refine (x_prs hb 250).1 5 (by omega) 0 (by omega) 60 (by omega) _ (hs.go hb) (by omega) c X1 h1 (by omega) _ (fun d s' e1 X2 h2 => ?_) (fun a e1 X2 h2 => ?_)
    · have k := (prs_ok hb _ _ _ _ _ _ _ e1 (hs.go hb)).1 (by omega)
      rw [e1] at H HF
      refine h2.expect hb k.1 (fun c59 X3 h3 => H _ _ ?_ X3 h3) (fun c59 X3 h3 => HF _ ?_ X3 h3)
      · show (if tk s' = 59 then _ else _) = _
        rw [if_pos c59]
      · show (if tk s' = 59 then _ else _) = _
        rw [if_neg c59]
    · exact h2.expect (by decide) (fun X3 h3 => HF a (by rw [e1]; rfl) X3 h3)
  · rw [if_neg e] at HF
    exact x_fail 5 (by omega) 60 (by omega) _ X1 _ _ h1 (fun X2 h2 => h2.expect (by decide) (fun X3 h3 => HF _ rfl X3 h3))
theorem x_prtF {a : Nat} {q : Int32} (hq : ¬ (9 : Int32) = q) {X : S0} (hX : FR a X) {Q : S0 → Prop} (H : ∀ X', FR a X' → Q X') : w1_expect X q (fun X1 => ∃ d, d ≤ 60 ∧ w_PX d 5 X1 0 (fun X2 => w1_expect X2 59 Q)) :=
  hX.expect hq (fun X1 h1 => ⟨60, Nat.le_refl _, x_fail 5 (by omega) 60 (by omega) _ X1 _ _ h1 (fun X2 h2 => h2.expect (by decide) H)⟩)
end XPR
