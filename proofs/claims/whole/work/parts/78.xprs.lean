/-! the class's reading of a TEXT: it makes the code that prs says -/
section XPR
variable {b : Nat → Int32} {n : Nat}
def SX (b : Nat → Int32) (n : Nat) (s : TS) (c : List Int32) (X : S0) : Prop := XT b n X ∧ X 0 2 = -1 ∧ X 0 4 = nI c.length ∧ (∀ i, i < c.length → X 2 i = c.getD i 0) ∧ X 0 5 = nI (tp s) ∧ X 0 6 = tk s ∧ X 0 7 = nI (ta s) ∧ (tk s = 7 → X 0 8 = nI (tw s))
/-- behind a FAULT -/
def FR (a : Nat) (X : S0) : Prop := X 0 2 = nI a ∧ X 0 6 = 9 ∧ a ≤ 160
theorem SX.next (hb : Bf b n) {s : TS} {c : List Int32} {X : S0} {Q : S0 → Prop} (h : SX b n s c X) (hs : Sc b n s) (k : ∀ X', SX b n (nx b s) c X' → Q X') : w1_next X Q := by
  obtain ⟨h1, h2, h3, h4, h5, h6, h7, h8⟩ := h
  refine x_next hb hs.tpn h1 h5 (fun X' f => k X' ⟨⟨(f.1 0 1 (Or.inr (by decide))).trans h1.1, fun h hh => (f.1 1 h (Or.inl (by decide))).trans (h1.2 h hh)⟩, (f.1 0 2 (Or.inr (by decide))).trans h2, (f.1 0 4 (Or.inr (by decide))).trans h3, fun i hi => (f.1 2 i (Or.inl (by decide))).trans (h4 i hi), f.2.1, f.2.2.1, f.2.2.2.1, f.2.2.2.2⟩)
theorem gd_l {c e : List Int32} {i : Nat} (h : i < c.length) : (c ++ e).getD i 0 = c.getD i 0 := by
  rw [List.getD_eq_getElem?_getD, List.getD_eq_getElem?_getD, List.getElem?_append_left h]
theorem gd_s {c : List Int32} {x : Int32} : (c ++ [x]).getD c.length 0 = x := by
  rw [List.getD_eq_getElem?_getD, List.getElem?_append_right (Nat.le_refl _), Nat.sub_self]
  rfl
theorem SX.emit {s : TS} {c : List Int32} {X : S0} {x : Int32} {Q : S0 → Prop} (h : SX b n s c X) (hc : c.length < 160) (k : ∀ X', SX b n s (c ++ [x]) X' → Q X') : w1_emit X x Q := by
  obtain ⟨h1, h2, h3, h4, h5, h6, h7, h8⟩ := h
  unfold w1_emit
  rw [h3]
  refine br_f (nI_pos (by omega)) (br_f (nI_ge (b := 160) hc (by decide)) ⟨vpl _ _ hc (by decide), ?_⟩)
  rw [nI_clamp (by omega)]
  rintro _ rfl _ rfl
  rw [up_k (by decide), h3, nI_1]
  refine k _ ⟨⟨by rw [up_j (by decide), up_k (by decide)]; exact h1.1, fun h hh => by rw [up_k (by decide), up_k (by decide)]; exact h1.2 h hh⟩, by rw [up_j (by decide), up_k (by decide)]; exact h2, by rw [up_s, List.length_append]; rfl, fun i hi => ?_, by rw [up_j (by decide), up_k (by decide)]; exact h5, by rw [up_j (by decide), up_k (by decide)]; exact h6, by rw [up_j (by decide), up_k (by decide)]; exact h7, fun z => by rw [up_j (by decide), up_k (by decide)]; exact h8 z⟩
  rw [List.length_append, List.length_singleton] at hi
  rw [up_k (by decide)]
  by_cases q : i = c.length
  · subst q
    rw [up_s, gd_s]
  · rw [up_j q, h4 i (by omega), gd_l (by omega)]
theorem FR.emit {a : Nat} {X : S0} {x : Int32} {Q : S0 → Prop} (h : FR a X) (k : ∀ X', FR a X' → Q X') : w1_emit X x Q := by
  unfold w1_emit
  refine ⟨fun _ => k X h, fun _ => ⟨fun _ => k X h, fun c => ⟨?_, ?_⟩⟩⟩
  · rename_i c0
    obtain ⟨j, hj, e⟩ := nI_of c0
    rw [e] at c ⊢
    exact vpl _ _ (by
      rcases Nat.lt_or_ge j 160 with q | q
      · exact q
      · exact absurd (nI_le (a := 160) q hj) c) (by decide)
  · rintro _ rfl _ rfl
    exact k _ ⟨by rw [up_j (by decide), up_k (by decide)]; exact h.1, by rw [up_j (by decide), up_k (by decide)]; exact h.2.1, h.2.2⟩
theorem FR.fails {a : Nat} {X : S0} {Q : S0 → Prop} (h : FR a X) (k : ∀ X', FR a X' → Q X') : w1_fails X Q := by
  unfold w1_fails
  refine s_t (by rw [h.1]; exact nI_nm1 (by have := h.2.2; omega)) ?_
  rintro _ rfl
  exact k _ ⟨by rw [up_j (by decide)]; exact h.1, up_s, h.2.2⟩
theorem SX.fails (hb : Bf b n) {s : TS} {c : List Int32} {X : S0} {Q : S0 → Prop} (h : SX b n s c X) (hs : Sc b n s) (k : ∀ X', FR (ta s) X' → Q X') : w1_fails X Q := by
  unfold w1_fails
  refine s_f h.2.1 ?_
  rintro _ rfl _ rfl
  exact k _ ⟨by rw [up_j (by decide), up_s]; exact h.2.2.2.2.2.2.1, up_s, Nat.le_trans hs.1 hb.1⟩
theorem SX.expect (hb : Bf b n) {s : TS} {c : List Int32} {X : S0} {q : Int32} {Q : S0 → Prop} (h : SX b n s c X) (hs : Sc b n s) (k : tk s = q → ∀ X', SX b n (nx b s) c X' → Q X') (kf : ¬ tk s = q → ∀ X', FR (ta s) X' → Q X') : w1_expect X q Q := by
  unfold w1_expect
  rw [h.2.2.2.2.2.1]
  exact ⟨fun e => h.next hb hs (k e), fun e => h.fails hb hs (kf e)⟩
theorem FR.expect {a : Nat} {X : S0} {q : Int32} {Q : S0 → Prop} (h : FR a X) (hq : ¬ (9 : Int32) = q) (k : ∀ X', FR a X' → Q X') : w1_expect X q Q := by
  unfold w1_expect
  rw [h.2.1]
  exact br_f hq (h.fails k)
theorem x_fail : ∀ (l : Nat), l ≤ 5 → ∀ (dd : Nat), l + 1 ≤ dd → ∀ (a : Nat) (X : S0) (p : Int32) (Q : S0 → Prop), FR a X → (∀ X', FR a X' → Q X') → w_PX dd l X p Q := by
  have h0 : ∀ (dd : Nat), 1 ≤ dd → ∀ (a : Nat) (X : S0) (p : Int32) (Q : S0 → Prop), FR a X → (∀ X', FR a X' → Q X') → w_PX dd 0 X p Q := by
    intro dd hd a X p Q h k
    obtain ⟨dd, rfl⟩ : ∃ m', dd = m' + 1 := ⟨dd - 1, by omega⟩
    show w1_readOne_body (w_PX dd) X p Q
    unfold w1_readOne_body w1_readOne_b60
    rw [h.2.1]
    exact s_t (by decide) (br_t (by decide) (s_t (by decide) (s_t (by decide) (h.fails k))))
  have h1 : ∀ (dd : Nat), 2 ≤ dd → ∀ (a : Nat) (X : S0) (p : Int32) (Q : S0 → Prop), FR a X → (∀ X', FR a X' → Q X') → w_PX dd 1 X p Q := by
    intro dd hd a X p Q h k
    obtain ⟨dd, rfl⟩ : ∃ m', dd = m' + 1 := ⟨dd - 1, by omega⟩
    show w1_readTerm_body (w_PX dd) X p Q
    unfold w1_readTerm_body
    refine h0 dd (by omega) a X p _ h (fun X' h' => ⟨1, ?_⟩)
    rw [w1_readTerm_b7, h'.2.1]
    exact br_f (by decide) (s_t (by decide) (k X' h'))
  have h2 : ∀ (dd : Nat), 3 ≤ dd → ∀ (a : Nat) (X : S0) (p : Int32) (Q : S0 → Prop), FR a X → (∀ X', FR a X' → Q X') → w_PX dd 2 X p Q := by
    intro dd hd a X p Q h k
    obtain ⟨dd, rfl⟩ : ∃ m', dd = m' + 1 := ⟨dd - 1, by omega⟩
    show w1_readSum_body (w_PX dd) X p Q
    unfold w1_readSum_body
    refine h1 dd (by omega) a X p _ h (fun X' h' => ⟨1, ?_⟩)
    rw [w1_readSum_b7, h'.2.1]
    exact br_f (by decide) (br_f (by decide) (s_t (by decide) (k X' h')))
  have h3 : ∀ (dd : Nat), 4 ≤ dd → ∀ (a : Nat) (X : S0) (p : Int32) (Q : S0 → Prop), FR a X → (∀ X', FR a X' → Q X') → w_PX dd 3 X p Q := by
    intro dd hd a X p Q h k
    obtain ⟨dd, rfl⟩ : ∃ m', dd = m' + 1 := ⟨dd - 1, by omega⟩
    show w1_readNot_body (w_PX dd) X p Q
    unfold w1_readNot_body
    rw [h.2.1]
    refine s_t (by decide) (h2 dd (by omega) a X p _ h (fun X' h' => ?_))
    rw [h'.2.1]
    exact br_f (by decide) (s_t (by decide) (k X' h'))
  have h4 : ∀ (dd : Nat), 5 ≤ dd → ∀ (a : Nat) (X : S0) (p : Int32) (Q : S0 → Prop), FR a X → (∀ X', FR a X' → Q X') → w_PX dd 4 X p Q := by
    intro dd hd a X p Q h k
    obtain ⟨dd, rfl⟩ : ∃ m', dd = m' + 1 := ⟨dd - 1, by omega⟩
    show w1_readBoth_body (w_PX dd) X p Q
    unfold w1_readBoth_body
    refine h3 dd (by omega) a X p _ h (fun X' h' => ⟨1, ?_⟩)
    rw [w1_readBoth_b7, h'.2.1]
    exact br_f (by decide) (s_t (by decide) (k X' h'))
  have h5 : ∀ (dd : Nat), 6 ≤ dd → ∀ (a : Nat) (X : S0) (p : Int32) (Q : S0 → Prop), FR a X → (∀ X', FR a X' → Q X') → w_PX dd 5 X p Q := by
    intro dd hd a X p Q h k
    obtain ⟨dd, rfl⟩ : ∃ m', dd = m' + 1 := ⟨dd - 1, by omega⟩
    show w1_readEither_body (w_PX dd) X p Q
    unfold w1_readEither_body
    refine h4 dd (by omega) a X p _ h (fun X' h' => ⟨1, ?_⟩)
    rw [w1_readEither_b7, h'.2.1]
    exact br_f (by decide) (s_t (by decide) (k X' h'))
  intro l hl dd hd
  rcases (by omega : l = 0 ∨ l = 1 ∨ l = 2 ∨ l = 3 ∨ l = 4 ∨ l = 5) with rfl | rfl | rfl | rfl | rfl | rfl
  · exact h0 dd hd
  · exact h1 dd hd
  · exact h2 dd hd
  · exact h3 dd hd
  · exact h4 dd hd
  · exact h5 dd hd
theorem wem_mono {X : S0} {x : Int32} {P Q : S0 → Prop} (h : w1_emit X x P) (k : ∀ X', P X' → Q X') : w1_emit X x Q := by
  unfold w1_emit at h ⊢
  exact ⟨fun c => k _ (h.1 c), fun c => ⟨fun c2 => k _ ((h.2 c).1 c2), fun c2 => ⟨((h.2 c).2 c2).1, fun M2 e2 M3 e3 => k _ (((h.2 c).2 c2).2 M2 e2 M3 e3)⟩⟩⟩
theorem prs_loop {f l o : Nat} {c : List Int32} {s : TS} (hl : 1 ≤ l) : prs b (f + 1) (l + 6) o c s = if opc l (tk s) = 0 then .inr (c, s) else pbd (prs b f (l - 1) o [] (nx b s)) (fun d s' => prs b f (l + 6) o (c ++ (d ++ [opc l (tk s)])) s') := by
  rw [prs, if_pos (by omega), show l + 6 - 6 = l by omega, show l + 6 - 7 = l - 1 by omega]
theorem prs_lvl {f l o : Nat} {c : List Int32} {s : TS} (hl : l = 1 ∨ l = 2 ∨ l = 4 ∨ l = 5) : prs b (f + 1) l o c s = pbd (prs b f (l - 1) o [] s) (fun d s' => prs b f (l + 6) o d s') := by
  rw [prs, if_neg (by omega), if_neg (by omega), if_neg (by omega)]
theorem prs_6 {o : Nat} {s : TS} (h6 : tk s = 6) : ∀ (f l : Nat), l ≤ 2 → prs b f l o [] s = .inl (ta s) := by
  intro f
  induction f with
  | zero => intro l _; rfl
  | succ f ih =>
    intro l hl
    by_cases l0 : l = 0
    · subst l0
      rw [prs, if_neg (by decide), if_pos rfl, h6, if_neg (by decide), if_neg (by decide), if_neg (fun z => absurd z.1 (by decide)), if_neg (fun z => absurd z.1 (by decide))]
    · rw [prs_lvl (by omega), ih (l - 1) (by omega)]
      rfl
theorem opc_9 {l : Nat} (hl : l = 1 ∨ l = 2 ∨ l = 4 ∨ l = 5) : opc l 9 = 0 := by
  rcases hl with rfl | rfl | rfl | rfl <;> decide
theorem x_prs (hb : Bf b n) : ∀ f : Nat,
    (∀ l, l ≤ 5 → ∀ o, o ≤ 5 → ∀ dd, l + 1 + 6 * (5 - o) ≤ dd → ∀ s, Sc b n s → l + 1 + 7 * (5 - o) + (n + 1 - ta s) ≤ f → ∀ (c : List Int32) (X : S0), SX b n s c X → c.length ≤ ta s → ∀ Q : S0 → Prop, (∀ d s', prs b f l o [] s = .inr (d, s') → ∀ X', SX b n s' (c ++ d) X' → Q X') → (∀ a, prs b f l o [] s = .inl a → ∀ X', FR a X' → Q X') → w_PX dd l X (nI o) Q) ∧
    (∀ l, (l = 1 ∨ l = 2 ∨ l = 4 ∨ l = 5) → ∀ o, o ≤ 5 → ∀ dd, l + 6 * (5 - o) ≤ dd → ∀ (Q : S0 → Prop) (Lp : Nat → S0 → Int32 → Prop), (∀ m X i, opc l (X 0 6) = 0 → Q X → Lp (m + 1) X i) → (∀ m X i, ¬ (160 : Int32) ≤ i → ¬ opc l (X 0 6) = 0 → (∀ post : S0 → Prop, (∀ X2, w1_emit X2 (opc l (X 0 6)) (fun X3 => Lp m X3 (i + 1)) → post X2) → w1_next X (fun X1 => w_PX dd (l - 1) X1 (nI o) post)) → Lp (m + 1) X i) → ∀ s, Sc b n s → l + 1 + 7 * (5 - o) + (n + 1 - ta s) ≤ f → ∀ (c0 c : List Int32) (X : S0), SX b n s (c0 ++ c) X → (c0 ++ c).length ≤ ta s → ∀ i, i ≤ ta s → ∀ m, f ≤ m → (∀ d s', prs b f (l + 6) o c s = .inr (d, s') → ∀ X', SX b n s' (c0 ++ d) X' → Q X') → (∀ a, prs b f (l + 6) o c s = .inl a → ∀ X', FR a X' → Q X') → Lp m X (nI i)) := by
  have n160 := hb.1
  intro f
  induction f with
  | zero => exact ⟨fun l hl o ho dd hd s hs hf => absurd hf (by omega), fun l hl o ho dd hd Q Lp _ _ s hs hf => absurd hf (by omega)⟩
  | succ f ih =>
    obtain ⟨ihA, ihB⟩ := ih
    refine ⟨?_, ?_⟩
    · intro l hl o ho dd hd s hs hf c X hX hc Q H HF
      obtain ⟨dd, rfl⟩ : ∃ m', dd = m' + 1 := ⟨dd - 1, by omega⟩
      have e6 := hX.2.2.2.2.2.1
      have s1 : ta s ≤ n := hs.1
      rcases (by omega : l = 0 ∨ l = 3 ∨ (l = 1 ∨ l = 2 ∨ l = 4 ∨ l = 5)) with rfl | rfl | hl4
      · show w1_readOne_body (w_PX dd) X (nI o) Q
        unfold w1_readOne_body
        rw [e6]
        rw [prs, if_neg (by decide), if_pos rfl] at H HF
        by_cases c7 : tk s = 7
        · rw [if_pos c7] at H
          have g := hs.nxlt hb (by rw [c7]; decide)
          have g1 := (hs.lt (by rw [c7]; decide)).2
          refine s_f c7 ?_
          rw [hX.2.2.2.2.2.2.2 c7]
          exact hX.emit (by omega) (fun X1 h1 => h1.next hb hs (fun X2 h2 => H _ _ rfl X2 h2))
        · rw [if_neg c7] at H HF
          refine s_t c7 ?_
          by_cases cn : ¬ tk s < 10 ∧ tk s < 16
          · rw [if_pos cn] at H
            obtain ⟨i, hi, e1, e2⟩ := tk_name cn
            have h8 : ¬ tk s = 8 := by
              rw [e1]
              exact (by decide +kernel : ∀ i, i < 6 → ¬ nI (10 + i) = 8) i hi
            have g1 := (hs.lt h8).2
            refine br_f cn.1 (br_f (Int32.not_le.mpr cn.2) ?_)
            exact hX.emit (by omega) (fun X1 h1 => h1.next hb hs (fun X2 h2 => H _ _ rfl X2 h2))
          · rw [if_neg cn] at H HF
            have go : w1_readOne_b60 (w_PX dd) Q X (nI o) := by
              unfold w1_readOne_b60
              rw [e6]
              by_cases c45 : tk s = 45
              · refine s_f c45 ?_
                unfold w1_opens
                by_cases o5 : o < 5
                · rw [if_pos ⟨c45, o5⟩] at H HF
                  have g := hs.nxlt hb (by rw [c45]; decide)
                  refine br_f (nI_ge (b := 5) o5 (by decide)) (br_f (by decide) ?_)
                  refine hX.next hb hs (fun X1 h1 => ?_)
                  rw [nI_1]
                  refine ihA 0 (by omega) (o + 1) (by omega) dd (by omega) _ (hs.go hb) (by omega) c X1 h1 (by omega) _ (fun d s' e X2 h2 => ?_) (fun a e X2 h2 => ?_)
                  · have k := (prs_ok hb _ _ _ _ _ _ _ e (hs.go hb)).1 (by omega)
                    have k1 := k.1.1
                    refine h2.emit (by rw [List.length_append]; omega) (fun X3 h3 => H _ _ (by rw [e]; rfl) X3 ?_)
                    rw [List.append_assoc] at h3
                    exact h3
                  · exact h2.emit (fun X3 h3 => HF a (by rw [e]; rfl) X3 h3)
                · rw [if_neg (fun z => o5 z.2), if_neg (fun z => absurd (c45.symm.trans z.1) (by decide))] at HF
                  refine br_t (nI_le (a := 5) (by omega) (by omega)) (br_t rfl ?_)
                  rw [e6]
                  exact s_t (by rw [c45]; decide) (hX.fails hb hs (HF _ rfl))
              · refine s_t c45 ?_
                rw [if_neg (fun z => c45 z.1)] at H HF
                by_cases c40 : tk s = 40
                · refine s_f c40 ?_
                  unfold w1_opens
                  by_cases o5 : o < 5
                  · rw [if_pos ⟨c40, o5⟩] at H HF
                    have g := hs.nxlt hb (by rw [c40]; decide)
                    refine br_f (nI_ge (b := 5) o5 (by decide)) (br_f (by decide) ?_)
                    refine hX.next hb hs (fun X1 h1 => ?_)
                    rw [nI_1]
                    refine ihA 5 (by omega) (o + 1) (by omega) dd (by omega) _ (hs.go hb) (by omega) c X1 h1 (by omega) _ (fun d s' e X2 h2 => ?_) (fun a e X2 h2 => ?_)
                    · have k := (prs_ok hb _ _ _ _ _ _ _ e (hs.go hb)).1 (by omega)
                      rw [e] at H HF
                      refine h2.expect hb k.1 (fun c41 X3 h3 => H _ _ ?_ X3 h3) (fun c41 X3 h3 => HF _ ?_ X3 h3)
                      · show (if tk s' = 41 then _ else _) = _
                        rw [if_pos c41]
                      · show (if tk s' = 41 then _ else _) = _
                        rw [if_neg c41]
                    · exact h2.expect (by decide) (fun X3 h3 => HF a (by rw [e]; rfl) X3 h3)
                  · rw [if_neg (fun z => o5 z.2)] at HF
                    refine br_t (nI_le (a := 5) (by omega) (by omega)) (br_t rfl ?_)
                    exact hX.fails hb hs (HF _ rfl)
                · refine s_t c40 ?_
                  rw [if_neg (fun z => c40 z.1)] at HF
                  exact hX.fails hb hs (HF _ rfl)
            refine ⟨fun _ => go, fun c10 => ⟨fun _ => go, fun c16 => absurd ⟨c10, Int32.not_le.mp c16⟩ cn⟩⟩
      · show w1_readNot_body (w_PX dd) X (nI o) Q
        unfold w1_readNot_body
        rw [e6]
        rw [prs, if_neg (by decide), if_neg (by decide), if_pos rfl] at H HF
        by_cases c6 : tk s = 6
        · rw [if_pos c6] at H HF
          refine s_f c6 ?_
          unfold w1_opens
          by_cases o5 : o < 5
          · rw [if_pos o5] at H HF
            have g := hs.nxlt hb (by rw [c6]; decide)
            refine br_f (nI_ge (b := 5) o5 (by decide)) (br_f (by decide) ?_)
            refine hX.next hb hs (fun X1 h1 => ?_)
            rw [nI_1]
            refine ihA 3 (by omega) (o + 1) (by omega) dd (by omega) _ (hs.go hb) (by omega) c X1 h1 (by omega) _ (fun d s' e X2 h2 => ?_) (fun a e X2 h2 => ?_)
            · have k := (prs_ok hb _ _ _ _ _ _ _ e (hs.go hb)).1 (by omega)
              have k1 := k.1.1
              refine h2.emit (by rw [List.length_append]; omega) (fun X3 h3 => H _ _ (by rw [e]; rfl) X3 ?_)
              rw [List.append_assoc] at h3
              exact h3
            · exact h2.emit (fun X3 h3 => HF a (by rw [e]; rfl) X3 h3)
          · rw [if_neg o5] at HF
            refine br_t (nI_le (a := 5) (by omega) (by omega)) (br_t rfl ?_)
            refine ihA 2 (by omega) o ho dd (by omega) s hs (by omega) c X hX hc _ (fun d s' e => ?_) (fun a e X2 h2 => ?_)
            · rw [prs_6 c6 _ _ (by omega)] at e; cases e
            · rw [prs_6 c6 _ _ (by omega)] at e
              obtain rfl := Sum.inl.inj e
              rw [h2.2.1]
              exact br_f (by decide) (s_t (by decide) (HF _ rfl X2 h2))
        · rw [if_neg c6] at H HF
          refine s_t c6 ?_
          refine ihA 2 (by omega) o ho dd (by omega) s hs (by omega) c X hX hc _ (fun d s' e X2 h2 => ?_) (fun a e X2 h2 => ?_)
          · have k := (prs_ok hb _ _ _ _ _ _ _ e hs).1 (by omega)
            rw [e] at H HF
            have H : ∀ d9 s9, (if tk s' = 60 ∨ tk s' = 61 then pbd (prs b f 2 o [] (nx b s')) (fun d2 s2 => .inr (d ++ (d2 ++ [if tk s' = 60 then -15 else -16]), s2)) else .inr (d, s')) = (.inr (d9, s9) : PR) → ∀ X', SX b n s9 (c ++ d9) X' → Q X' := H
            have HF : ∀ a, (if tk s' = 60 ∨ tk s' = 61 then pbd (prs b f 2 o [] (nx b s')) (fun d2 s2 => .inr (d ++ (d2 ++ [if tk s' = 60 then -15 else -16]), s2)) else .inr (d, s')) = (.inl a : PR) → ∀ X', FR a X' → Q X' := HF
            have f6 := h2.2.2.2.2.2.1
            rw [f6]
            have cmp : (tk s' = 60 ∨ tk s' = 61) → ∀ post : S0 → Prop, (∀ X4, w1_emit X4 (if tk s' = 60 then -15 else -16) Q → post X4) → w1_next X2 (fun M3 => w_PX dd 2 M3 (nI o) post) := by
              intro cc post hp
              rw [if_pos cc] at H HF
              have g := k.1.nxlt hb (by rcases cc with q | q <;> rw [q] <;> decide)
              refine h2.next hb k.1 (fun X3 h3 => ?_)
              refine ihA 2 (by omega) o ho dd (by omega) _ (k.1.go hb) (by omega) (c ++ d) X3 h3 (by rw [List.length_append]; omega) _ (fun d2 s2 e2 X4 h4 => hp X4 ?_) (fun a e2 X4 h4 => hp X4 ?_)
              · have k2 := (prs_ok hb _ _ _ _ _ _ _ e2 (k.1.go hb)).1 (by omega)
                have k3 := k2.1.1
                refine h4.emit (by rw [List.length_append, List.length_append]; omega) (fun X5 h5 => H _ _ (by rw [e2]; rfl) X5 ?_)
                rw [List.append_assoc, List.append_assoc] at h5
                exact h5
              · exact h4.emit (fun X5 h5 => HF a (by rw [e2]; rfl) X5 h5)
            refine ⟨fun c60 => ?_, fun c60 => ⟨fun c61 => ?_, fun c61 => ?_⟩⟩
            · rintro _ rfl
              refine cmp (Or.inl c60) _ (fun X4 h4 => ?_)
              rw [if_pos c60] at h4
              exact s_f c60 h4
            · rw [if_neg (fun z => z.elim c60 c61)] at H
              exact H _ _ rfl X2 h2
            · rintro _ rfl
              refine cmp (Or.inr c61) _ (fun X4 h4 => ?_)
              rw [if_neg c60] at h4
              exact s_t c60 h4
          · rw [h2.2.1]
            exact br_f (by decide) (s_t (by decide) (HF a (by rw [e]; rfl) X2 h2))
      · rw [prs_lvl hl4] at H HF
        have main : ∀ Lp : Nat → S0 → Int32 → Prop, (∀ m X i, opc l (X 0 6) = 0 → Q X → Lp (m + 1) X i) → (∀ m X i, ¬ (160 : Int32) ≤ i → ¬ opc l (X 0 6) = 0 → (∀ post : S0 → Prop, (∀ X2, w1_emit X2 (opc l (X 0 6)) (fun X3 => Lp m X3 (i + 1)) → post X2) → w1_next X (fun X1 => w_PX dd (l - 1) X1 (nI o) post)) → Lp (m + 1) X i) → w_PX dd (l - 1) X (nI o) (fun M1 => ∃ n2, Lp n2 M1 (0 : Int32)) := by
          intro Lp hst hgo
          refine ihA (l - 1) (by omega) o ho dd (by omega) s hs (by omega) c X hX hc _ (fun d s' e X2 h2 => ?_) (fun a e X2 h2 => ?_)
          · have k := (prs_ok hb _ _ _ _ _ _ _ e hs).1 (by omega)
            rw [e] at H HF
            exact ⟨f, ihB l hl4 o ho dd (by omega) Q Lp hst hgo s' k.1 (by omega) c d X2 h2 (by rw [List.length_append]; omega) 0 (by omega) f (Nat.le_refl _) H HF⟩
          · exact ⟨1, hst 0 X2 0 (by rw [h2.2.1]; exact opc_9 hl4) (HF a (by rw [e]; rfl) X2 h2)⟩
        rcases hl4 with rfl | rfl | rfl | rfl
        · show w1_readTerm_body (w_PX dd) X (nI o) Q
          unfold w1_readTerm_body
          refine main (fun m X i => w1_readTerm_b7 (w_PX dd) Q m X (nI o) i) (fun m X i h0 q => ?_) (fun m X i h0 h1 g => ?_)
          · show w1_readTerm_b7 (w_PX dd) Q (m + 1) X (nI o) i
            rw [w1_readTerm_b7]
            refine ⟨fun _ => q, fun _ => ⟨fun _ => q, fun z => ?_⟩⟩
            rw [z] at h0; exact absurd h0 (by decide)
          · show w1_readTerm_b7 (w_PX dd) Q (m + 1) X (nI o) i
            rw [w1_readTerm_b7]
            by_cases z : X 0 6 = 42
            · rw [z] at g
              exact br_f h0 (s_f z (g _ (fun X2 h2 => by
                refine wem_mono h2 (fun X3 h3 => ?_)
                rintro _ rfl
                exact h3)))
            · exact absurd (show opc 1 (X 0 6) = 0 from by unfold opc; rw [if_pos rfl, if_neg z]) h1
        · show w1_readSum_body (w_PX dd) X (nI o) Q
          unfold w1_readSum_body
          refine main (fun m X i => w1_readSum_b7 (w_PX dd) Q m X (nI o) i) (fun m X i h0 q => ?_) (fun m X i h0 h1 g => ?_)
          · show w1_readSum_b7 (w_PX dd) Q (m + 1) X (nI o) i
            rw [w1_readSum_b7]
            refine ⟨fun _ => q, fun _ => ⟨fun z => ?_, fun _ => ⟨fun _ => q, fun z => ?_⟩⟩⟩
            · rw [z] at h0; exact absurd h0 (by decide)
            · rw [z] at h0; exact absurd h0 (by decide)
          · show w1_readSum_b7 (w_PX dd) Q (m + 1) X (nI o) i
            rw [w1_readSum_b7]
            refine br_f h0 ?_
            by_cases z : X 0 6 = 43
            · refine br_t z ?_
              rintro _ rfl
              rw [z] at g ⊢
              refine g _ (fun X2 h2 => s_f rfl ?_)
              refine wem_mono h2 (fun X3 h3 => ?_)
              rintro _ rfl
              exact h3
            · refine br_f z ?_
              by_cases z2 : X 0 6 = 45
              · refine s_f z2 ?_
                rintro _ rfl
                rw [z2] at g ⊢
                refine g _ (fun X2 h2 => s_t (by decide) ?_)
                refine wem_mono h2 (fun X3 h3 => ?_)
                rintro _ rfl
                exact h3
              · exact absurd (show opc 2 (X 0 6) = 0 from by unfold opc; rw [if_neg (by decide), if_pos rfl, if_neg z, if_neg z2]) h1
        · show w1_readBoth_body (w_PX dd) X (nI o) Q
          unfold w1_readBoth_body
          refine main (fun m X i => w1_readBoth_b7 (w_PX dd) Q m X (nI o) i) (fun m X i h0 q => ?_) (fun m X i h0 h1 g => ?_)
          · show w1_readBoth_b7 (w_PX dd) Q (m + 1) X (nI o) i
            rw [w1_readBoth_b7]
            refine ⟨fun _ => q, fun _ => ⟨fun _ => q, fun z => ?_⟩⟩
            rw [z] at h0; exact absurd h0 (by decide)
          · show w1_readBoth_b7 (w_PX dd) Q (m + 1) X (nI o) i
            rw [w1_readBoth_b7]
            by_cases z : X 0 6 = 5
            · rw [z] at g
              exact br_f h0 (s_f z (g _ (fun X2 h2 => by
                refine wem_mono h2 (fun X3 h3 => ?_)
                rintro _ rfl
                exact h3)))
            · exact absurd (show opc 4 (X 0 6) = 0 from by unfold opc; rw [if_neg (by decide), if_neg (by decide), if_pos rfl, if_neg z]) h1
        · show w1_readEither_body (w_PX dd) X (nI o) Q
          unfold w1_readEither_body
          refine main (fun m X i => w1_readEither_b7 (w_PX dd) Q m X (nI o) i) (fun m X i h0 q => ?_) (fun m X i h0 h1 g => ?_)
          · show w1_readEither_b7 (w_PX dd) Q (m + 1) X (nI o) i
            rw [w1_readEither_b7]
            refine ⟨fun _ => q, fun _ => ⟨fun _ => q, fun z => ?_⟩⟩
            rw [z] at h0; exact absurd h0 (by decide)
          · show w1_readEither_b7 (w_PX dd) Q (m + 1) X (nI o) i
            rw [w1_readEither_b7]
            by_cases z : X 0 6 = 4
            · rw [z] at g
              exact br_f h0 (s_f z (g _ (fun X2 h2 => by
                refine wem_mono h2 (fun X3 h3 => ?_)
                rintro _ rfl
                exact h3)))
            · exact absurd (show opc 5 (X 0 6) = 0 from by unfold opc; rw [if_neg (by decide), if_neg (by decide), if_neg (by decide), if_neg z]) h1
    · intro l hl o ho dd hd Q Lp hst hgo s hs hf c0 c X hX hc i hi m hm H HF
      obtain ⟨m, rfl⟩ : ∃ m', m = m' + 1 := ⟨m - 1, by omega⟩
      have e6 := hX.2.2.2.2.2.1
      have s1 : ta s ≤ n := hs.1
      rw [prs_loop (by omega)] at H HF
      by_cases c1 : opc l (tk s) = 0
      · rw [if_pos c1] at H
        exact hst m X _ (by rw [e6]; exact c1) (H _ _ rfl X hX)
      · rw [if_neg c1] at H HF
        have h8 := opc_8 c1
        have g := hs.nxlt hb h8
        have g1 := (hs.lt h8).2
        refine hgo m X _ (nI_ge (b := 160) (by omega) (by omega)) (by rw [e6]; exact c1) (fun post hp => ?_)
        rw [e6] at hp
        refine hX.next hb hs (fun X1 h1 => ?_)
        refine ihA (l - 1) (by omega) o ho dd (by omega) _ (hs.go hb) (by omega) (c0 ++ c) X1 h1 (by omega) post (fun d s' e X2 h2 => hp X2 ?_) (fun a e X2 h2 => hp X2 ?_)
        · have k := (prs_ok hb _ _ _ _ _ _ _ e (hs.go hb)).1 (by omega)
          have k1 := k.1.1
          rw [e] at H HF
          have len : ((c0 ++ c) ++ d).length + 1 ≤ ta s' := by rw [List.length_append]; omega
          refine h2.emit (by omega) (fun X3 h3 => ?_)
          rw [List.append_assoc, List.append_assoc] at h3
          rw [nI_1]
          refine ihB l hl o ho dd hd Q Lp hst hgo s' k.1 (by omega) c0 (c ++ (d ++ [opc l (tk s)])) X3 h3 (by rw [← List.append_assoc, ← List.append_assoc, List.length_append, List.length_singleton]; exact len) (i + 1) (by omega) m (by omega) H HF
        · refine h2.emit (fun X3 h3 => ?_)
          obtain ⟨m, rfl⟩ : ∃ m', m = m' + 1 := ⟨m - 1, by omega⟩
          exact hst m X3 _ (by rw [h3.2.1]; exact opc_9 hl) (HF a (by rw [e]; rfl) X3 h3)
theorem x_prt (hb : Bf b n) {q : Int32} (hq : ¬ q = 8) {s : TS} (hs : Sc b n s) {c : List Int32} {X : S0} (hX : SX b n s c X) (hc : c.length ≤ ta s) {Q : S0 → Prop} (H : ∀ d s', prt b q s = .inr (d, s') → ∀ X', SX b n s' (c ++ d) X' → Q X') (HF : ∀ a, prt b q s = .inl a → ∀ X', FR a X' → Q X') : w1_expect X q (fun X1 => ∃ d, d ≤ 60 ∧ w_PX d 5 X1 0 (fun X2 => w1_expect X2 59 Q)) := by
  have n160 := hb.1
  unfold prt at H HF
  refine hX.expect hb hs (fun e X1 h1 => ⟨60, Nat.le_refl _, ?_⟩) (fun e X1 h1 => ⟨60, Nat.le_refl _, ?_⟩)
  · rw [if_pos e] at H HF
    have g := hs.nxlt hb (by rw [e]; exact hq)
    refine (x_prs hb 250).1 5 (by omega) 0 (by omega) 60 (by omega) _ (hs.go hb) (by omega) c X1 h1 (by omega) _ (fun d s' e1 X2 h2 => ?_) (fun a e1 X2 h2 => ?_)
    · have k := (prs_ok hb _ _ _ _ _ _ _ e1 (hs.go hb)).1 (by omega)
      rw [e1] at H HF
      refine h2.expect hb k.1 (fun c59 X3 h3 => H _ _ ?_ X3 h3) (fun c59 X3 h3 => HF _ ?_ X3 h3)
      · show (if tk s' = 59 then _ else _) = _
        rw [if_pos c59]
      · show (if tk s' = 59 then _ else _) = _
        rw [if_neg c59]
    · exact h2.expect (by decide) (fun X3 h3 => HF a (by rw [e1]; rfl) X3 h3)
  · rw [if_neg e] at HF
    exact x_fail 5 (by omega) 60 (by omega) _ X1 _ _ h1 (fun X2 h2 => h2.expect (by decide) (fun X3 h3 => HF _ rfl X3 h3))
theorem x_prtF {a : Nat} {q : Int32} (hq : ¬ (9 : Int32) = q) {X : S0} (hX : FR a X) {Q : S0 → Prop} (H : ∀ X', FR a X' → Q X') : w1_expect X q (fun X1 => ∃ d, d ≤ 60 ∧ w_PX d 5 X1 0 (fun X2 => w1_expect X2 59 Q)) :=
  hX.expect hq (fun X1 h1 => ⟨60, Nat.le_refl _, x_fail 5 (by omega) 60 (by omega) _ X1 _ _ h1 (fun X2 h2 => h2.expect (by decide) H)⟩)
end XPR
