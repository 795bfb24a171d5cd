/-! who wins, and A GAME, in the class's Club; the club stays a club -/
theorem bnd_lo {v lo hi : Int32} (h : lo ≤ hi) : lo ≤ bnd v lo hi := by
  unfold bnd
  by_cases c : v < lo
  · rw [if_pos c]; exact Int32.le_refl _
  · rw [if_neg c]
    by_cases c2 : hi < v
    · rw [if_pos c2]; exact h
    · rw [if_neg c2]; exact Int32.not_lt.mp c
theorem bnd_hi {v lo hi : Int32} (h : lo ≤ hi) : bnd v lo hi ≤ hi := by
  unfold bnd
  by_cases c : v < lo
  · rw [if_pos c]; exact h
  · rw [if_neg c]
    by_cases c2 : hi < v
    · rw [if_pos c2]; exact Int32.le_refl _
    · rw [if_neg c2]; exact Int32.not_lt.mp c2
theorem pow_b (tv : TV) (κ : CS) (p q : Nat) : -1 ≤ (powS tv κ p q).toInt ∧ (powS tv κ p q).toInt ≤ 999 := by
  unfold powS
  by_cases c : thrS tv κ p q = true
  · rw [if_pos c]; decide
  · rw [if_neg c]
    have h1 := Int32.le_iff_toInt_le.mp (bnd_lo (v := plyF κ p (bnd (tv (cT κ) 0 (vals κ p q)) 0 99)) (lo := 0) (hi := 999) (by decide))
    have h2 := Int32.le_iff_toInt_le.mp (bnd_hi (v := plyF κ p (bnd (tv (cT κ) 0 (vals κ p q)) 0 99)) (lo := 0) (hi := 999) (by decide))
    have e1 : (0 : Int32).toInt = 0 := by decide
    have e2 : (999 : Int32).toInt = 999 := by decide
    omega
theorem sub_sm {x y : Int32} (h1 : -1000 ≤ x.toInt) (h2 : x.toInt ≤ 1000) (h3 : -1000 ≤ y.toInt) (h4 : y.toInt ≤ 1000) : (x - y).toInt = x.toInt - y.toInt := by
  rw [Int32.toInt_sub, Int.bmod_eq_of_le (by omega) (by omega)]
theorem ic_los {κ : CS} {l w : Nat} (hI : IC κ) (hl : l < cN κ) (hw : w < cN κ) (hne : l ≠ w) : IC (losS κ l w) := by
  obtain ⟨i1, i2, i3, i4, i5, i6⟩ := hI
  refine ⟨i1, fun p => ?_, (show 0 < 256 by decide), fun p q hpq => ?_, fun p => ?_, fun p hp => ?_⟩
  · show (if p = w then 0 else if p = l then _ else cH κ p) < 256
    split
    · decide
    · split
      · exact or_lt (i2 l) (or_lt (i2 w) i3)
      · exact i2 p
  · show (if p = w then 0 else if p = l then _ else cH κ p) &&& (if q = w then 0 else if q = l then _ else cH κ q) = 0
    by_cases c1 : p = w
    · rw [if_pos c1]; exact Nat.zero_and _
    · by_cases c2 : q = w
      · rw [if_pos c2]; exact Nat.and_zero _
      · rw [if_neg c1, if_neg c2]
        by_cases c3 : p = l
        · rw [if_pos c3, if_neg (fun e => hpq (c3.trans e.symm))]
          exact or_dis (i4 l q (fun e => hpq (c3.trans e))) (or_dis (i4 w q (fun e => c2 e.symm)) (land_c (i5 q)))
        · rw [if_neg c3]
          by_cases c4 : q = l
          · rw [if_pos c4]
            exact land_c (or_dis (i4 l p (fun e => c3 e.symm)) (or_dis (i4 w p (fun e => c1 e.symm)) (land_c (i5 p))))
          · rw [if_neg c4]; exact i4 p q hpq
  · exact Nat.and_zero _
  · have hp : cN κ ≤ p := hp
    show (if p = w then 0 else if p = l then _ else cH κ p) = 0
    rw [if_neg (by omega), if_neg (by omega)]
    exact i6 p hp
theorem ic_dra {κ : CS} {l w : Nat} (hI : IC κ) (hne : l ≠ w) : IC (draS κ l w) := by
  obtain ⟨i1, i2, i3, i4, i5, i6⟩ := hI
  refine ⟨i1, fun p => ?_, or_lt i3 (or_lt (i2 l) (i2 w)), fun p q hpq => ?_, fun p => ?_, fun p hp => ?_⟩
  · show (if p = w then 0 else if p = l then 0 else cH κ p) < 256
    split
    · decide
    · split
      · decide
      · exact i2 p
  · show (if p = w then 0 else if p = l then 0 else cH κ p) &&& (if q = w then 0 else if q = l then 0 else cH κ q) = 0
    split
    · exact Nat.zero_and _
    · split
      · exact Nat.zero_and _
      · split
        · exact Nat.and_zero _
        · split
          · exact Nat.and_zero _
          · exact i4 p q hpq
  · show (if p = w then 0 else if p = l then 0 else cH κ p) &&& (cL κ ||| (cH κ l ||| cH κ w)) = 0
    by_cases c1 : p = w
    · rw [if_pos c1]; exact Nat.zero_and _
    · by_cases c2 : p = l
      · rw [if_neg c1, if_pos c2]; exact Nat.zero_and _
      · rw [if_neg c1, if_neg c2]
        exact land_c (or_dis (land_c (i5 p)) (or_dis (i4 l p (fun e => c2 e.symm)) (i4 w p (fun e => c1 e.symm))))
  · have hp : cN κ ≤ p := hp
    show (if p = w then 0 else if p = l then 0 else cH κ p) = 0
    split
    · rfl
    · split
      · rfl
      · exact i6 p hp
theorem ic_meet {tv : TV} {κ : CS} {p q : Nat} (hI : IC κ) (hp : p < cN κ) (hq : q < cN κ) (hne : p ≠ q) : IC (meetS tv κ p q) := by
  have k : IC (if whoS tv κ p q = 2 then draS κ p q else if whoS tv κ p q = 1 then losS κ p q else losS κ q p) := by
    split
    · exact ic_dra hI hne
    · split
      · exact ic_los hI hp hq hne
      · exact ic_los hI hq hp (fun e => hne e.symm)
  exact k
theorem meet_N {tv : TV} {κ : CS} {p q : Nat} : cN (meetS tv κ p q) = cN κ := by
  show cN (if whoS tv κ p q = 2 then draS κ p q else if whoS tv κ p q = 1 then losS κ p q else losS κ q p) = cN κ
  split
  · rfl
  · split <;> rfl
theorem meet_T {tv : TV} {κ : CS} {p q : Nat} : cT (meetS tv κ p q) = cT κ := by
  show cT (if whoS tv κ p q = 2 then draS κ p q else if whoS tv κ p q = 1 then losS κ p q else losS κ q p) = cT κ
  split
  · rfl
  · split <;> rfl
section XG
variable {g : GX} {b : Nat} {X : S0} {κ : CS} {tv : TV} {nT : Nat}
theorem x_winner {p q : Nat} {Q : Int32 → S0 → Prop} (hb : 10 ≤ b) (hb6 : b + 5 < 66) (hR : RelX b κ X) (hI : IC κ) (hT : TX tv nT g X) (ht : cT κ < nT) (hp : p < cN κ) (hq : q < cN κ) (hne : p ≠ q) (h : ∀ X' : S0, FX X X' → Q (whoI (whoS tv κ p q) p q) X') : w0_winner g b X (nI p) (nI q) Q := by
  unfold w0_winner
  refine x_power hb hb6 hR hI hT ht hp hq hne (fun X1 f1 => ?_)
  refine x_power hb hb6 (hR.fr hb f1) hI (hT.fr (fun k hk => f1 k (by omega) (by omega)) (f1 2 (by decide) (by decide))) ht hq hp (fun e => hne e.symm) (fun X2 f2 => ?_)
  rintro _ rfl
  obtain ⟨a1, a2⟩ := pow_b tv κ p q
  obtain ⟨a3, a4⟩ := pow_b tv κ q p
  have e := sub_sm (x := powS tv κ p q) (y := powS tv κ q p) (by omega) (by omega) (by omega) (by omega)
  have e0 : (0 : Int32).toInt = 0 := by decide
  have h := h X2 (f1.tr f2)
  have z : powS tv κ p q - powS tv κ q p = 0 ↔ powS tv κ p q = powS tv κ q p := by
    rw [← Int32.toInt_inj, ← Int32.toInt_inj, e, e0]; omega
  have z2 : powS tv κ p q - powS tv κ q p ≤ 0 ↔ powS tv κ p q ≤ powS tv κ q p := by
    rw [Int32.le_iff_toInt_le, Int32.le_iff_toInt_le, e, e0]; omega
  rw [z, z2]
  unfold whoS at h
  refine ⟨fun c => ⟨fun c2 => ?_, fun c2 => ?_⟩, fun c => ?_⟩
  · rw [if_neg c, if_pos c2] at h; exact h
  · rw [if_neg c, if_neg c2] at h; exact h
  · rw [if_pos c] at h; exact h
theorem x_loses {l w : Nat} {Q : S0 → Prop} (hb : 10 ≤ b) (hR : RelX b κ X) (hI : IC κ) (hl : l < cN κ) (hw : w < cN κ) (hne : l ≠ w) (h : ∀ X' : S0, FXb b X X' → RelX b (losS κ l w) X' → Q X') : w0_loses g b X (nI l) (nI w) Q := by
  obtain ⟨i1, i2, i3, i4, i5, i6⟩ := hI
  obtain ⟨r1, r2, r3, r4, r5, r6⟩ := hR
  have vl := vpl l 6 (by omega) (by omega)
  have vw := vpl w 6 (by omega) (by omega)
  unfold w0_loses
  rw [nI_clamp (n := l) (by omega), nI_clamp (n := w) (by omega)]
  refine ⟨vl, vw, vl, ?_⟩
  rintro _ rfl
  refine ⟨vw, ?_⟩
  rintro _ rfl _ rfl
  refine ⟨vw, x_bounded ⟨vw, ?_⟩⟩
  rintro _ rfl
  refine h _ (fun k h3 h4 hk => ?_) ⟨?_, ?_, ?_, ?_, fun p hp => ?_, fun p hp => ?_⟩
  · rw [up_r (by omega), up_r (by omega), up_r (by omega), up_r (by omega)]
  · simp (disch := omega) only [up_s, up_j, up_k, r1]; rfl
  · simp (disch := omega) only [up_s, up_j, up_k]; rfl
  · simp (disch := omega) only [up_s, up_j, up_k, r3]; rfl
  · simp (disch := omega) only [up_s, up_j, up_k, r4]; rfl
  · show _ = nI (if p = w then 0 else if p = l then cH κ l ||| (cH κ w ||| cL κ) else cH κ p)
    by_cases c1 : p = w
    · subst c1
      simp (disch := omega) only [up_s, up_j, up_k, if_true]; rfl
    · by_cases c2 : p = l
      · subst c2
        rw [if_neg c1, if_pos rfl]
        simp (disch := omega) only [up_s, up_j, up_k]
        rw [r5 p (by omega), r5 w (by omega), r2, nx_or, nx_or]
      · rw [if_neg c1, if_neg c2]
        simp (disch := omega) only [up_s, up_j, up_k]
        exact r5 p hp
  · obtain ⟨p1, p2, p3, p4⟩ := r6 p hp
    refine ⟨?_, ?_, ?_, ?_⟩
    · simp (disch := omega) only [up_s, up_j, up_k, p1]; rfl
    · simp (disch := omega) only [up_s, up_j, up_k, p2]; rfl
    · simp (disch := omega) only [up_s, up_j, up_k, p3]; rfl
    · show _ = (if p = w then bnd (cW κ w + 1) 0 999 else cW κ p)
      by_cases c1 : p = w
      · subst c1
        rw [if_pos rfl]
        simp (disch := omega) only [up_s, up_j, up_k, p4]
      · rw [if_neg c1]
        simp (disch := omega) only [up_s, up_j, up_k, p4]
theorem x_str {p q : Nat} {t1 t2 wv : Int32} {Q : Int32 → S0 → Prop} (hb : 10 ≤ b) (hR : RelX b κ X) (h6 : cN κ ≤ 6) (hp : p < cN κ) (hq : q < cN κ) (hne : p ≠ q) (h : ∀ X' : S0, FXb b X X' → RelX b (strS κ p q t1 t2) X' → Q wv X') : w0_meet_b118 g b Q X (nI p) (nI q) wv t1 t2 := by
  obtain ⟨r1, r2, r3, r4, r5, r6⟩ := hR
  have vp := vpl p 6 (by omega) (by omega)
  have vq := vpl q 6 (by omega) (by omega)
  unfold w0_meet_b118
  rw [nI_clamp (n := p) (by omega), nI_clamp (n := q) (by omega)]
  refine ⟨vp, x_bounded ⟨vp, ?_⟩⟩
  rintro _ rfl
  refine ⟨vq, x_bounded ⟨vq, ?_⟩⟩
  rintro _ rfl _ rfl
  refine h _ (fun k h3 h4 hk => ?_) ⟨?_, ?_, ?_, ?_, fun j hj => ?_, fun j hj => ?_⟩
  · rw [up_r (by omega), up_r (by omega), up_r (by omega)]
  · simp (disch := omega) only [up_s, up_j, up_k, r1]; rfl
  · simp (disch := omega) only [up_s, up_j, up_k, r2]; rfl
  · simp (disch := omega) only [up_s, up_j, up_k, r3]; rfl
  · simp (disch := omega) only [up_s, up_j, up_k, r4]; rfl
  · simp (disch := omega) only [up_s, up_j, up_k]
    exact r5 j hj
  · obtain ⟨p1, p2, p3, p4⟩ := r6 j hj
    refine ⟨?_, ?_, ?_, ?_⟩
    · simp (disch := omega) only [up_s, up_j, up_k, p1]; rfl
    · simp (disch := omega) only [up_s, up_j, up_k, p2]; rfl
    · show _ = (if j = q then bnd (cS κ q - t2) 0 99 else if j = p then bnd (cS κ p - t1) 0 99 else cS κ j)
      by_cases c1 : j = q
      · subst c1
        rw [if_pos rfl]
        simp (disch := omega) only [up_s, up_j, up_k, p3]
      · rw [if_neg c1]
        by_cases c2 : j = p
        · subst c2
          rw [if_pos rfl]
          simp (disch := omega) only [up_s, up_j, up_k, p3]
        · rw [if_neg c2]
          simp (disch := omega) only [up_s, up_j, up_k, p3]
    · simp (disch := omega) only [up_s, up_j, up_k, p4]; rfl
theorem x_draw {p q : Nat} {Q : S0 → Prop} (hb : 10 ≤ b) (hR : RelX b κ X) (h6 : cN κ ≤ 6) (hp : p < cN κ) (hq : q < cN κ) (hne : p ≠ q) (h : ∀ X' : S0, FXb b X X' → RelX b (draS κ p q) X' → Q X') : Q (up (up (up X b 6 (X b 6 ||| (X (b + 5) p ||| X (b + 5) q))) (b + 5) p 0) (b + 5) q 0) := by
  obtain ⟨r1, r2, r3, r4, r5, r6⟩ := hR
  refine h _ (fun k h3 h4 hk => ?_) ⟨?_, ?_, ?_, ?_, fun j hj => ?_, fun j hj => ?_⟩
  · rw [up_r (by omega), up_r (by omega), up_r (by omega)]
  · simp (disch := omega) only [up_s, up_j, up_k, r1]; rfl
  · simp (disch := omega) only [up_s, up_j, up_k]
    rw [r5 p (by omega), r5 q (by omega), r2, nx_or, nx_or]; rfl
  · simp (disch := omega) only [up_s, up_j, up_k, r3]; rfl
  · simp (disch := omega) only [up_s, up_j, up_k, r4]; rfl
  · show _ = nI (if j = q then 0 else if j = p then 0 else cH κ j)
    by_cases c1 : j = q
    · subst c1
      rw [if_pos rfl]
      simp (disch := omega) only [up_s]; rfl
    · rw [if_neg c1]
      by_cases c2 : j = p
      · subst c2
        rw [if_pos rfl]
        simp (disch := omega) only [up_s, up_j]; rfl
      · rw [if_neg c2]
        simp (disch := omega) only [up_s, up_j, up_k]
        exact r5 j hj
  · obtain ⟨p1, p2, p3, p4⟩ := r6 j hj
    refine ⟨?_, ?_, ?_, ?_⟩
    · simp (disch := omega) only [up_s, up_j, up_k, p1]; rfl
    · simp (disch := omega) only [up_s, up_j, up_k, p2]; rfl
    · simp (disch := omega) only [up_s, up_j, up_k, p3]; rfl
    · simp (disch := omega) only [up_s, up_j, up_k, p4]; rfl
theorem nI_nm1 {p : Nat} (h : p < 2 ^ 31) : ¬ nI p = -1 := by
  intro e
  have := nI_pos h
  rw [e] at this
  exact this (by decide)
theorem x_meet {p q : Nat} {Q : Int32 → S0 → Prop} (hb : 10 ≤ b) (hb6 : b + 5 < 66) (hR : RelX b κ X) (hI : IC κ) (hT : TX tv nT g X) (ht : cT κ < nT) (hp : p < cN κ) (hq : q < cN κ) (hne : p ≠ q) (h : ∀ X' : S0, FXb b X X' → RelX b (meetS tv κ p q) X' → Q (whoI (whoS tv κ p q) p q) X') : w0_meet g b X (nI p) (nI q) Q := by
  have i1 := hI.1
  have n1 : ¬ nI p = nI q := fun e => hne ((nI_eq (by omega) (by omega)).mp e)
  have n2 : ¬ nI q = nI p := fun e => n1 e.symm
  have n3 := nI_nm1 (p := p) (by omega)
  have n4 := nI_nm1 (p := q) (by omega)
  have tf : ∀ {Y : S0}, FX X Y → TX tv nT g Y := fun f => hT.fr (fun k hk => f k (by omega) (by omega)) (f 2 (by decide) (by decide))
  unfold w0_meet
  refine x_areTwo hR.1 hI.1 ?_
  rw [if_pos ⟨isP_nI hp (by omega), isP_nI hq (by omega), n1⟩]
  refine s_t (by decide) (x_winner hb hb6 hR hI hT ht hp hq hne (fun X1 f1 => ?_))
  have R1 := hR.fr hb f1
  unfold meetS at h
  have hw : whoS tv κ p q = 0 ∨ whoS tv κ p q = 1 ∨ whoS tv κ p q = 2 := by
    unfold whoS
    split
    · exact Or.inr (Or.inr rfl)
    · split
      · exact Or.inr (Or.inl rfl)
      · exact Or.inl rfl
  rcases hw with w | w | w
  · rw [w] at h ⊢
    rw [show whoI 0 p q = nI p from rfl] at h ⊢
    rw [if_neg (by decide), if_neg (by decide)] at h
    refine s_f rfl ?_
    unfold w0_meet_b31
    refine x_tiring (won := true) hb hb6 R1 hI (tf f1) ht hp hq hne (fun X2 f2 => ?_)
    have f12 := f1.tr f2
    refine s_t n1 (x_tiring (won := false) hb hb6 (hR.fr hb f12) hI (tf f12) ht hq hp (fun e => hne e.symm) (fun X3 f3 => ?_))
    have f13 := f12.tr f3
    refine s_t n3 (s_f rfl (x_loses hb (hR.fr hb f13) hI hq hp (fun e => hne e.symm) (fun X4 f4 R4 => ?_)))
    exact x_str hb R4 i1 hp hq hne (fun X5 f5 R5 => h X5 ((f13.b.tr f4).tr f5) R5)
  · rw [w] at h ⊢
    rw [show whoI 1 p q = nI q from rfl] at h ⊢
    rw [if_neg (by decide), if_pos rfl] at h
    refine s_t n2 ?_
    unfold w0_meet_b31
    refine x_tiring (won := false) hb hb6 R1 hI (tf f1) ht hp hq hne (fun X2 f2 => ?_)
    have f12 := f1.tr f2
    refine s_f rfl (x_tiring (won := true) hb hb6 (hR.fr hb f12) hI (tf f12) ht hq hp (fun e => hne e.symm) (fun X3 f3 => ?_))
    have f13 := f12.tr f3
    refine s_t n4 (s_t n2 (x_loses hb (hR.fr hb f13) hI hp hq hne (fun X4 f4 R4 => ?_)))
    exact x_str hb R4 i1 hp hq hne (fun X5 f5 R5 => h X5 ((f13.b.tr f4).tr f5) R5)
  · rw [w] at h ⊢
    rw [show whoI 2 p q = -1 from rfl] at h ⊢
    rw [if_pos rfl] at h
    have n5 : ¬ (-1 : Int32) = nI p := fun e => n3 e.symm
    have n6 : ¬ (-1 : Int32) = nI q := fun e => n4 e.symm
    refine s_t n5 ?_
    unfold w0_meet_b31
    refine x_tiring (won := false) hb hb6 R1 hI (tf f1) ht hp hq hne (fun X2 f2 => ?_)
    have f12 := f1.tr f2
    refine s_t n6 (x_tiring (won := false) hb hb6 (hR.fr hb f12) hI (tf f12) ht hq hp (fun e => hne e.symm) (fun X3 f3 => ?_))
    have f13 := f12.tr f3
    refine s_f rfl ⟨vpl p 6 (by omega) (by omega), vpl q 6 (by omega) (by omega), ?_⟩
    rintro _ rfl
    refine ⟨vpl p 6 (by omega) (by omega), ?_⟩
    rintro _ rfl
    refine ⟨vpl q 6 (by omega) (by omega), ?_⟩
    rintro _ rfl
    rw [nI_clamp (n := p) (by omega), nI_clamp (n := q) (by omega)]
    exact x_draw (Q := fun Y => w0_meet_b118 g b Q Y (nI p) (nI q) (-1) _ _) hb (hR.fr hb f13) i1 hp hq hne (fun X4 f4 R4 => x_str hb R4 i1 hp hq hne (fun X5 f5 R5 => h X5 ((f13.b.tr f4).tr f5) R5))
end XG
