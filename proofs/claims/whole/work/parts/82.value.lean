/-! code worked out by the class; texts that come -/
def tvD (d : List Int32) (v : Nat → Int32) : Int32 := match run v 64 d [] with
  | some (x :: _) => x
  | _ => 0
theorem tvD_e {d : List Int32} {v : Nat → Int32} {x : Int32} (h : Evl v d 31 x) : run v 64 d [] = some [x] ∧ tvD d v = x := by
  have e := h [] 64 (by decide) []
  rw [List.append_nil] at e
  have e : run v 64 d [] = some [x] := e
  refine ⟨e, ?_⟩
  unfold tvD
  rw [e]
def StR (M : S0) : List Int32 → Prop
  | [] => True
  | x :: st => M 4 st.length = x ∧ StR M st
theorem StR.up {M : S0} {j : Nat} {x : Int32} : ∀ {st : List Int32}, StR M st → st.length ≤ j → StR (up M 4 j x) st := by
  intro st
  induction st with
  | nil => intro _ _; trivial
  | cons y st ih =>
    intro h hj
    rw [List.length_cons] at hj
    exact ⟨by rw [up_j (by omega)]; exact h.1, ih h.2 (by omega)⟩
theorem x_joined {g : GX} {X : S0} {c p2 p3 : Int32} {Q : Int32 → S0 → Prop} (h : Q (jn c p2 p3) X) : w4_joined g X c p2 p3 Q := by
  unfold w4_joined
  unfold jn at h
  have k : ∀ z : Int32, ∀ y : Int, c.toInt = y → z.toInt = y → c = z := fun z y a b => ti_eq a b
  refine ⟨fun e => ?_, fun e => ?_, fun e => ?_, fun e => ?_, fun e => ?_, fun e => ?_, fun e => ?_, fun e => ?_, fun e => ?_⟩
  · rw [k (-18) _ e (by decide), if_neg (by decide), if_neg (by decide), if_neg (by decide), if_neg (by decide), if_neg (by decide), if_neg (by decide), if_pos rfl] at h
    refine ⟨fun c1 => ?_, fun c1 => ⟨fun c2 => ?_, fun c2 => ?_⟩⟩
    · rw [if_pos (Or.inl c1)] at h; exact h
    · rw [if_neg (fun z => z.elim (fun z => z c1) (fun z => z c2))] at h; exact h
    · rw [if_pos (Or.inr c2)] at h; exact h
  · rw [k (-17) _ e (by decide), if_neg (by decide), if_neg (by decide), if_neg (by decide), if_neg (by decide), if_neg (by decide), if_pos rfl] at h
    refine ⟨fun c1 => ?_, fun c1 => ⟨fun c2 => ?_, fun c2 => ?_⟩⟩
    · rw [if_neg (fun z => z.1 c1)] at h; exact h
    · rw [if_neg (fun z => z.2 c2)] at h; exact h
    · rw [if_pos ⟨c1, c2⟩] at h; exact h
  · rw [k (-16) _ e (by decide), if_neg (by decide), if_neg (by decide), if_neg (by decide), if_neg (by decide), if_pos rfl] at h
    refine ⟨fun c1 => ?_, fun c1 => ?_⟩
    · rw [if_neg c1] at h; exact h
    · rw [if_pos c1] at h; exact h
  · rw [k (-15) _ e (by decide), if_neg (by decide), if_neg (by decide), if_neg (by decide), if_pos rfl] at h
    refine ⟨fun c1 => ?_, fun c1 => ?_⟩
    · rw [if_neg (Int32.not_lt.mpr c1)] at h; exact h
    · rw [if_pos (Int32.not_le.mp c1)] at h; exact h
  · rw [k (-14) _ e (by decide), if_neg (by decide), if_neg (by decide), if_neg (by decide), if_neg (by decide), if_neg (by decide), if_neg (by decide), if_neg (by decide)] at h
    exact h
  · rw [k (-13) _ e (by decide), if_neg (by decide), if_neg (by decide), if_pos rfl] at h
    exact h
  · rw [k (-12) _ e (by decide), if_neg (by decide), if_pos rfl] at h
    exact h
  · rw [k (-11) _ e (by decide), if_pos rfl] at h
    exact h
  · rw [if_neg (ti_ne e (z := -11) (by decide) (by decide)), if_neg (ti_ne e (z := -12) (by decide) (by decide)), if_neg (ti_ne e (z := -13) (by decide) (by decide)), if_neg (ti_ne e (z := -15) (by decide) (by decide)), if_neg (ti_ne e (z := -16) (by decide) (by decide)), if_neg (ti_ne e (z := -17) (by decide) (by decide)), if_neg (ti_ne e (z := -18) (by decide) (by decide))] at h
    exact h
theorem nm_in {c : Int32} (h : ¬ c < -6) (h0 : c < 0) : ∃ i : Nat, i < 6 ∧ (-1 : Int32) - c = nI i := by
  rw [Int32.lt_iff_toInt_lt] at h h0
  rw [show (-6 : Int32).toInt = -6 by decide] at h
  rw [show (0 : Int32).toInt = 0 by decide] at h0
  refine ⟨(-1 - c.toInt).toNat, by omega, ?_⟩
  apply Int32.toInt_inj.mp
  rw [sub_sm (by decide) (by decide) (by omega) (by omega), show (-1 : Int32).toInt = -1 by decide, nI_toInt (by omega)]
  omega
section XVL
variable {g : GX} {v : Nat → Int32}
theorem x_run {k0 till : Nat} {x : Int32} {Q : Int32 → S0 → Prop} (hk : isText g k0) (hL : g.1 k0 ≤ 160) (htl : till ≤ g.1 k0) : ∀ (cs st : List Int32) (i m : Nat) (M : S0), (∀ k, k < cs.length → M (k0 + 1) (i + k) = cs.getD k 0) → till = i + cs.length → (∀ j, j < 6 → M 3 j = v j) → st.length ≤ 64 → StR M st → cs.length < m → run v 64 cs st = some [x] → (∀ M' : S0, (∀ k, k ≠ 4 → M' k = M k) → Q x M') → w4_valueOf_b46 g Q m M k0 (nI till) (nI st.length) (nI i) := by
  have k66 : 66 ≤ k0 := by
    obtain ⟨c, hc, rfl⟩ := hk
    omega
  intro cs
  induction cs with
  | nil =>
    intro st i m M hc ht hv hs hR hm hr H
    obtain ⟨m, rfl⟩ : ∃ m', m = m' + 1 := ⟨m - 1, by omega⟩
    rw [w4_valueOf_b46]
    have hr : some st = some [x] := hr
    obtain rfl := Option.some.inj hr
    rw [List.length_nil] at ht
    refine br_t (nI_le (by omega) (by omega)) (br_f (nI_nle (n := 1) (by decide) (by decide)) ⟨vpl 0 64 (by decide) (by decide), ?_⟩)
    have e : M 4 (Int32.toNatClampNeg 0) = x := hR.1
    rw [e]
    exact H M (fun _ _ => rfl)
  | cons c cs ih =>
    intro st i m M hc ht hv hs hR hm hr H
    rw [List.length_cons] at ht hm
    obtain ⟨m, rfl⟩ : ∃ m', m = m' + 1 := ⟨m - 1, by omega⟩
    rw [w4_valueOf_b46]
    have c0 := hc 0 (by rw [List.length_cons]; omega)
    have c0 : M (k0 + 1) i = c := c0
    refine br_f (nI_ge (by omega) (by omega)) ?_
    unfold w3_codeAt
    refine br_f (nI_pos (by omega)) (br_f (nI_ge (by omega) (by omega)) ⟨vpl _ _ (by omega) (by omega), ?_⟩)
    rw [nI_clamp (n := i) (by omega), c0]
    rw [run] at hr
    have hc1 : ∀ (j : Nat) (y : Int32) (k : Nat), k < cs.length → up M 4 j y (k0 + 1) (i + 1 + k) = cs.getD k 0 := by
      intro j y k hk
      rw [up_k (by omega), show i + 1 + k = i + (k + 1) by omega]
      exact hc (k + 1) (by rw [List.length_cons]; omega)
    have hc2 : ∀ (k : Nat), k < cs.length → M (k0 + 1) (i + 1 + k) = cs.getD k 0 := by
      intro k hk
      rw [show i + 1 + k = i + (k + 1) by omega]
      exact hc (k + 1) (by rw [List.length_cons]; omega)
    have hv1 : ∀ (j : Nat) (y : Int32) (k : Nat), k < 6 → up M 4 j y 3 k = v k := fun j y k hk => by rw [up_k (by decide)]; exact hv k hk
    have H1 : ∀ (j : Nat) (y : Int32) (M' : S0), (∀ k, k ≠ 4 → M' k = up M 4 j y k) → Q x M' := fun j y M' f => H M' (fun k hk => (f k hk).trans (up_r hk))
    by_cases c6 : c < -6
    · rw [if_neg (fun z => z c6)] at hr
      refine br_t c6 ?_
      by_cases c14 : c = -14
      · rw [if_pos c14] at hr
        cases st with
        | nil => exact absurd hr (by simp)
        | cons y st =>
          rw [if_neg (by simp)] at hr
          have hr : run v 64 cs (-y :: st) = some [x] := hr
          rw [List.length_cons] at hs ⊢
          refine s_f c14 (br_f (nI_nle (by omega) (by omega)) ?_)
          rw [nI_pred, nI_clamp (by omega)]
          refine ⟨vpl _ _ (by omega) (by decide), vpl _ _ (by omega) (by decide), ?_⟩
          rintro _ rfl _ rfl
          rw [nI_1, hR.1]
          exact ih (-y :: st) (i + 1) m _ (hc1 _ _) (by omega) (hv1 _ _) (by rw [List.length_cons]; omega) ⟨up_s, hR.2.up (Nat.le_refl _)⟩ (by omega) hr (H1 _ _)
      · rw [if_neg c14] at hr
        refine s_t c14 ?_
        unfold w4_valueOf_b141
        by_cases c19 : c = -19
        · rw [if_pos c19] at hr
          cases st with
          | nil => exact absurd hr (by simp)
          | cons y st =>
            rw [if_neg (by simp)] at hr
            have hr : run v 64 cs ((if y = 0 then 1 else 0) :: st) = some [x] := hr
            rw [List.length_cons] at hs ⊢
            refine s_f c19 (br_f (nI_nle (by omega) (by omega)) ?_)
            rw [nI_pred, nI_clamp (by omega), hR.1]
            refine ⟨vpl _ _ (by omega) (by decide), fun y0 => ⟨vpl _ _ (by omega) (by decide), ?_⟩, fun y0 => ⟨vpl _ _ (by omega) (by decide), ?_⟩⟩
            · rintro _ rfl _ rfl
              rw [if_neg y0] at hr
              rw [nI_1]
              exact ih (0 :: st) (i + 1) m _ (hc1 _ _) (by omega) (hv1 _ _) (by rw [List.length_cons]; omega) ⟨up_s, hR.2.up (Nat.le_refl _)⟩ (by omega) hr (H1 _ _)
            · rintro _ rfl _ rfl
              rw [if_pos y0] at hr
              rw [nI_1]
              exact ih (1 :: st) (i + 1) m _ (hc1 _ _) (by omega) (hv1 _ _) (by rw [List.length_cons]; omega) ⟨up_s, hR.2.up (Nat.le_refl _)⟩ (by omega) hr (H1 _ _)
        · rw [if_neg c19] at hr
          cases st with
          | nil => exact absurd hr (by simp)
          | cons y st =>
            cases st with
            | nil => exact absurd hr (by simp)
            | cons z st =>
              rw [if_neg (by simp only [List.length_cons]; omega)] at hr
              have hr : run v 64 cs (jn c z y :: st) = some [x] := hr
              rw [List.length_cons, List.length_cons] at hs ⊢
              refine s_t c19 (br_f (nI_ge (a := 1) (by omega) (by omega)) ?_)
              rintro _ rfl
              rw [nI_m1, nI_pred, nI_clamp (by omega), nI_clamp (by omega)]
              refine ⟨vpl _ _ (by omega) (by decide), vpl _ _ (by omega) (by decide), ?_⟩
              have e1 : M 4 (st.length + 1) = y := hR.1
              rw [e1, hR.2.1]
              refine x_joined ⟨vpl _ _ (by omega) (by decide), ?_⟩
              rintro _ rfl _ rfl
              rw [nI_1]
              exact ih (jn c z y :: st) (i + 1) m _ (hc1 _ _) (by omega) (hv1 _ _) (by rw [List.length_cons]; omega) ⟨up_s, hR.2.2.up (Nat.le_refl _)⟩ (by omega) hr (H1 _ _)
    · rw [if_pos c6] at hr
      by_cases hs64 : st.length < 64
      · rw [if_pos hs64] at hr
        refine br_f c6 (br_f (nI_ge (b := 64) hs64 (by decide)) ⟨fun cn => ?_, fun cn => ?_⟩)
        · rw [if_pos cn] at hr
          obtain ⟨j, hj, ej⟩ := nm_in c6 cn
          rw [ej, nI_clamp (by omega)] at hr
          rw [ej]
          refine ⟨vpl _ _ hj (by decide), vpl _ _ hs64 (by decide), ?_⟩
          rintro _ rfl _ rfl _ rfl
          rw [nI_clamp (n := st.length) (by omega), nI_clamp (n := j) (by omega), hv j hj, nI_1, nI_1]
          exact ih (v j :: st) (i + 1) m _ (hc1 _ _) (by omega) (hv1 _ _) (by rw [List.length_cons]; omega) ⟨up_s, hR.up (Nat.le_refl _)⟩ (by omega) hr (H1 _ _)
        · rw [if_neg cn] at hr
          refine ⟨vpl _ _ hs64 (by decide), ?_⟩
          rintro _ rfl _ rfl _ rfl
          rw [nI_clamp (n := st.length) (by omega), nI_1, nI_1]
          exact ih (c :: st) (i + 1) m _ (hc1 _ _) (by omega) (hv1 _ _) (by rw [List.length_cons]; omega) ⟨up_s, hR.up (Nat.le_refl _)⟩ (by omega) hr (H1 _ _)
      · rw [if_neg hs64] at hr
        cases hr
/-- text r's code, as the class holds it -/
def TC (g : GX) (X : S0) (r : Nat) (d1 d2 d3 : List Int32) : Prop := g.1 (66 + 3 * r) = (d1 ++ (d2 ++ d3)).length ∧ (d1 ++ (d2 ++ d3)).length ≤ 160 ∧ (∀ i, i < (d1 ++ (d2 ++ d3)).length → X (66 + 3 * r + 1) i = (d1 ++ (d2 ++ d3)).getD i 0) ∧ X (66 + 3 * r + 2) 0 = nI d1.length ∧ X (66 + 3 * r + 2) 1 = nI (d1.length + d2.length) ∧ X (66 + 3 * r + 2) 2 = nI (d1 ++ (d2 ++ d3)).length
def pk3 (d1 d2 d3 : List Int32) (part : Nat) : List Int32 := if part = 0 then d1 else if part = 1 then d2 else d3
theorem gd_r {c e : List Int32} {i : Nat} : (c ++ e).getD (c.length + i) 0 = e.getD i 0 := by
  rw [List.getD_eq_getElem?_getD, List.getD_eq_getElem?_getD, List.getElem?_append_right (by omega), Nat.add_sub_cancel_left]
theorem x_valueOf {r part : Nat} {d1 d2 d3 : List Int32} {x : Int32} {X : S0} {Q : Int32 → S0 → Prop} (hr : r < 6) (hg : r < g.2) (h2 : X 2 r = nI (r + 1)) (hC : TC g X r d1 d2 d3) (hp : part < 3) (hv : ∀ i, i < 6 → X 3 i = v i) (hx : Evl v (pk3 d1 d2 d3 part) 31 x) (H : ∀ X' : S0, (∀ k, k ≠ 4 → X' k = X k) → Q x X') : w4_valueOf g X (nI r) (nI part) Q := by
  obtain ⟨t1, t2, t3, t4, t5, t6⟩ := hC
  unfold w4_valueOf
  refine br_f (nI_pos (by omega)) (br_f (nI_ge (b := 6) hr (by decide)) ⟨vpl _ _ hr (by decide), ?_⟩)
  rw [nI_clamp (n := r) (by omega), h2]
  refine br_f (nI_ne0 (by omega) (by omega)) ?_
  rw [nI_clamp (n := r + 1) (by omega), Nat.add_sub_cancel]
  have hk : isText g (66 + 3 * r) := ⟨r, hg, rfl⟩
  refine ⟨hk, ?_⟩
  have len : (d1 ++ (d2 ++ d3)).length = d1.length + (d2.length + d3.length) := by rw [List.length_append, List.length_append]
  have endo : ∀ (p : Nat) (Q' : Int32 → S0 → Prop), p < 3 → Q' (X (66 + 3 * r + 2) p) X → w3_endOf g (66 + 3 * r) X (nI p) Q' := by
    intro p Q' hp h
    unfold w3_endOf
    refine br_f (nI_pos (by omega)) (br_f (nI_ge (b := 3) hp (by decide)) ⟨vpl _ _ hp (by decide), ?_⟩)
    rw [nI_clamp (by omega)]
    exact h
  have go : ∀ (fr till : Nat) (d : List Int32), (∀ k, k < d.length → X (66 + 3 * r + 1) (fr + k) = d.getD k 0) → till = fr + d.length → till ≤ (d1 ++ (d2 ++ d3)).length → Evl v d 31 x → ∃ n7, w4_valueOf_b46 g Q n7 X (66 + 3 * r) (nI till) (0 : Int32) (nI fr) := by
    intro fr till d h1 h3 h4 h5
    exact ⟨d.length + 1, x_run (till := till) hk (by omega) (by omega) d [] fr _ X h1 h3 hv (by decide) trivial (by omega) (tvD_e h5).1 H⟩
  rcases (by omega : part = 0 ∨ part = 1 ∨ part = 2) with rfl | rfl | rfl
  · refine endo 0 _ (by decide) ?_
    unfold w3_endOf
    refine br_t (by decide) ?_
    rw [t4]
    have hx : Evl v d1 31 x := hx
    exact go 0 _ d1 (fun k hk => by rw [Nat.zero_add, t3 k (by omega)]; exact gd_l hk) (by omega) (by omega) hx
  · refine endo 1 _ (by decide) ?_
    refine endo 0 _ (by decide) ?_
    rw [t4, t5]
    have hx : Evl v d2 31 x := hx
    refine go d1.length _ d2 (fun k hk => ?_) (by omega) (by omega) hx
    rw [t3 _ (by omega), gd_r, gd_l hk]
  · refine endo 2 _ (by decide) ?_
    refine endo 1 _ (by decide) ?_
    rw [t5, t6]
    have hx : Evl v d3 31 x := hx
    refine go (d1.length + d2.length) _ d3 (fun k hk => ?_) (by omega) (by omega) hx
    rw [t3 _ (by omega), Nat.add_assoc, gd_r, gd_r]
end XVL
