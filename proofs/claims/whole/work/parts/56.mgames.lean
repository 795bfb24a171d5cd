/-! A GAME in the check, to its end -/
theorem or_3 (a b c : Nat) : (a ||| b) ||| c = a ||| (b ||| c) := Nat.or_assoc a b c
theorem or_3' (a b c : Nat) : (a ||| b) ||| c = b ||| (a ||| c) := by rw [Nat.or_comm a b, Nat.or_assoc]
theorem or_3d (a b c : Nat) : (a ||| b) ||| c = c ||| (a ||| b) := Nat.or_comm _ _
section MG2
variable {M : S0} {κ : CS} {tv : TV} {nT : Nat}
theorem m_win {p q l w : Nat} {t1 t2 : Int32} {wv : Int32} {Q : Int32 → S0 → Prop} (hR : RelM κ M) (i1 : cN κ ≤ 6) (hp : p < cN κ) (hq : q < cN κ) (hne : p ≠ q) (hlw : (p = w ∧ q = l) ∨ (p = l ∧ q = w)) (hwv : wv = nI w) (h : ∀ M' : S0, GM M M' → RelM (strS (losS κ l w) p q t1 t2) M' → Q wv M') : w6_games_b113 Q (up (up (up M 5 (4 * p + 3) 0) 5 (4 * q + 3) 0) 0 8 0) (nI p) (nI q) wv t1 t2 (nI ((cH κ p ||| cH κ q) ||| cL κ)) (nI l) := by
  have hl : l < cN κ := by omega
  have hw : w < cN κ := by omega
  subst hwv
  unfold w6_games_b113
  rw [rw3, rw2, rw1, rw1, nI_clamp (n := 4 * l + 3) (by omega), nI_clamp (n := 4 * w + 2) (by omega), nI_clamp (n := 4 * p + 1) (by omega), nI_clamp (n := 4 * q + 1) (by omega)]
  obtain ⟨r1, r2, r3, r4, r5⟩ := hR
  refine ⟨vpl _ _ (by omega) (by omega), ?_⟩
  rintro _ rfl
  refine ⟨vpl _ _ (by omega) (by omega), m_within ⟨vpl _ _ (by omega) (by omega), ?_⟩⟩
  rintro _ rfl
  refine ⟨vpl _ _ (by omega) (by omega), m_within ⟨vpl _ _ (by omega) (by omega), ?_⟩⟩
  rintro _ rfl
  refine ⟨vpl _ _ (by omega) (by omega), m_within ⟨vpl _ _ (by omega) (by omega), ?_⟩⟩
  rintro _ rfl _ rfl
  refine h _ (fun k j a b => ?_) ⟨?_, ?_, ?_, ?_, fun j hj => ?_⟩
  · by_cases e : k = 0
    · subst e
      simp (disch := omega) only [up_s, up_j, up_k]
    · simp (disch := omega) only [up_s, up_j, up_k]
  · simp (disch := omega) only [up_s, up_j, up_k, r1]; rfl
  · simp (disch := omega) only [up_s, up_j, up_k]; rfl
  · simp (disch := omega) only [up_s, up_j, up_k, r3]; rfl
  · simp (disch := omega) only [up_s, up_j, up_k, r4]; rfl
  · obtain ⟨p1, p2, p3, p4, p5⟩ := r5 j hj
    refine ⟨?_, ?_, ?_, ?_, ?_⟩
    · simp (disch := omega) only [up_s, up_j, up_k, p1]; rfl
    · simp (disch := omega) only [up_s, up_j, up_k, p2]; rfl
    · show _ = (if j = q then bnd (cS κ q - t2) 0 99 else if j = p then bnd (cS κ p - t1) 0 99 else cS κ j)
      by_cases c1 : j = q
      · subst c1
        rw [if_pos rfl]
        simp (disch := omega) only [up_s, up_j, up_k, p3]
      · rw [if_neg c1]
        by_cases c2 : j = p
        · subst c2
          rw [if_pos rfl]
          simp (disch := omega) only [up_s, up_j, up_k, p3]
        · rw [if_neg c2]
          simp (disch := omega) only [up_s, up_j, up_k, p3]
    · show _ = (if j = w then bnd (cW κ w + 1) 0 999 else cW κ j)
      by_cases c1 : j = w
      · subst c1
        rw [if_pos rfl]
        simp (disch := omega) only [up_s, up_j, up_k, p4]
      · rw [if_neg c1]
        simp (disch := omega) only [up_s, up_j, up_k, p4]
    · show _ = nI (if j = w then 0 else if j = l then cH κ l ||| (cH κ w ||| cL κ) else cH κ j)
      by_cases c1 : j = w
      · subst c1
        rw [if_pos rfl]
        rcases hlw with ⟨e1, e2⟩ | ⟨e1, e2⟩
        · subst e1
          simp (disch := omega) only [up_s, up_j, up_k]; rfl
        · subst e2
          simp (disch := omega) only [up_s, up_j, up_k]; rfl
      · rw [if_neg c1]
        by_cases c2 : j = l
        · subst c2
          rw [if_pos rfl]
          simp (disch := omega) only [up_s, up_j, up_k]
          rcases hlw with ⟨e1, e2⟩ | ⟨e1, e2⟩
          · rw [e1, e2, or_3']
          · rw [e1, e2, or_3]
        · rw [if_neg c2]
          have a1 : j ≠ p := by omega
          have a2 : j ≠ q := by omega
          simp (disch := omega) only [up_s, up_j, up_k, p5]
theorem m_games {p q : Nat} {Q : Int32 → S0 → Prop} (hR : RelM κ M) (hI : IC κ) (hT : TM tv nT M) (ht : cT κ < nT) (hp : p < cN κ) (hq : q < cN κ) (hne : p ≠ q) (h : ∀ M' : S0, GM M M' → RelM (meetS tv κ p q) M' → Q (whoI (whoS tv κ p q) p q) M') : w6_games M (nI p) (nI q) Q := by
  have i1 := hI.1
  have n1 : ¬ nI p = nI q := fun e => hne ((nI_eq (by omega) (by omega)).mp e)
  have n2 : ¬ nI q = nI p := fun e => n1 e.symm
  have n3 := nI_nm1 (p := p) (by omega)
  have n4 := nI_nm1 (p := q) (by omega)
  have n5 : ¬ (-1 : Int32) = nI p := fun e => n3 e.symm
  have n6 : ¬ (-1 : Int32) = nI q := fun e => n4 e.symm
  unfold w6_games
  refine m_winnerOf hR hI hT ht hp hq (fun M1 f1 => ?_)
  have R1 := hR.fr f1
  unfold meetS at h
  have hw : whoS tv κ p q = 0 ∨ whoS tv κ p q = 1 ∨ whoS tv κ p q = 2 := by
    unfold whoS
    split
    · exact Or.inr (Or.inr rfl)
    · split
      · exact Or.inr (Or.inl rfl)
      · exact Or.inl rfl
  have tail : ∀ (Y : S0) (wv t1 : Int32) (won2 : Bool), ScM M Y → (∀ Z : S0, ScM M Z → ((¬ wv = (-1 : Int32)) → ((wv = (-1 : Int32) → False) ∧ ((¬ wv = nI p) → w6_games_b113 Q (up (up (up Z 5 (4 * p + 3) 0) 5 (4 * q + 3) 0) 0 8 0) (nI p) (nI q) wv t1 (tirS tv κ q p won2) (nI ((cH κ p ||| cH κ q) ||| cL κ)) (nI p)) ∧ ((wv = nI p) → w6_games_b113 Q (up (up (up Z 5 (4 * p + 3) 0) 5 (4 * q + 3) 0) 0 8 0) (nI p) (nI q) wv t1 (tirS tv κ q p won2) (nI ((cH κ p ||| cH κ q) ||| cL κ)) (nI q)))) ∧ (wv = (-1 : Int32) → ∀ M' : S0, GM M M' → RelM (strS (draS κ p q) p q t1 (tirS tv κ q p won2)) M' → Q (-1) M')) → w6_games_b38 Q Y (nI p) (nI q) wv t1 (if won2 = true then 1 else 0) (nI p) (nI q) := by
    intro Y wv t1 won2 fY k
    unfold w6_games_b38
    refine m_tiresOf (hR.fr fY) hI (hT.g fY.g) ht hq hp (fun Z fZ => ?_)
    have fz := fY.tr fZ
    have RZ := hR.fr fz
    refine m_has RZ i1 hp (m_has RZ i1 hq ?_)
    rintro _ rfl
    rw [rw3, rw3, rw1, rw1, nI_clamp (n := 4 * p + 3) (by omega), nI_clamp (n := 4 * q + 3) (by omega), nI_clamp (n := 4 * p + 1) (by omega), nI_clamp (n := 4 * q + 1) (by omega), RZ.2.1, nx_or, nx_or]
    obtain ⟨k1, k2⟩ := k Z fz
    refine ⟨vpl _ _ (by omega) (by omega), ?_⟩
    rintro _ rfl
    refine ⟨vpl _ _ (by omega) (by omega), ?_⟩
    rintro _ rfl
    refine ⟨fun c => ?_, fun c => ?_⟩
    · rintro _ rfl
      exact ⟨fun c2 => absurd c2 c, fun _ => (k1 c).2⟩
    · rintro _ rfl
      refine ⟨fun _ => ?_, fun c2 => absurd c c2⟩
      rw [c]
      obtain ⟨r1, r2, r3, r4, r5⟩ := RZ
      refine ⟨vpl _ _ (by omega) (by omega), m_within ⟨vpl _ _ (by omega) (by omega), ?_⟩⟩
      rintro _ rfl
      refine ⟨vpl _ _ (by omega) (by omega), m_within ⟨vpl _ _ (by omega) (by omega), ?_⟩⟩
      rintro _ rfl _ rfl
      refine k2 c _ (fun k j a b => ?_) ⟨?_, ?_, ?_, ?_, fun j hj => ?_⟩
      · refine (?_ : _ = Z k j).trans (fz.g k j a b)
        by_cases e : k = 0
        · subst e
          simp (disch := omega) only [up_s, up_j, up_k]
        · simp (disch := omega) only [up_s, up_j, up_k]
      · simp (disch := omega) only [up_s, up_j, up_k, r1]; rfl
      · simp (disch := omega) only [up_s, up_j, up_k]
        rw [or_3d]; rfl
      · simp (disch := omega) only [up_s, up_j, up_k, r3]; rfl
      · simp (disch := omega) only [up_s, up_j, up_k, r4]; rfl
      · obtain ⟨p1, p2, p3, p4, p5⟩ := r5 j hj
        refine ⟨?_, ?_, ?_, ?_, ?_⟩
        · simp (disch := omega) only [up_s, up_j, up_k, p1]; rfl
        · simp (disch := omega) only [up_s, up_j, up_k, p2]; rfl
        · show _ = (if j = q then bnd (cS κ q - _) 0 99 else if j = p then bnd (cS κ p - t1) 0 99 else cS κ j)
          by_cases c1 : j = q
          · subst c1
            rw [if_pos rfl]
            simp (disch := omega) only [up_s, up_j, up_k, p3]
          · rw [if_neg c1]
            by_cases c2 : j = p
            · subst c2
              rw [if_pos rfl]
              simp (disch := omega) only [up_s, up_j, up_k, p3]
            · rw [if_neg c2]
              simp (disch := omega) only [up_s, up_j, up_k, p3]
        · simp (disch := omega) only [up_s, up_j, up_k, p4]; rfl
        · show _ = nI (if j = q then 0 else if j = p then 0 else cH κ j)
          by_cases c1 : j = q
          · subst c1
            rw [if_pos rfl]
            simp (disch := omega) only [up_s, up_j, up_k]; rfl
          · rw [if_neg c1]
            by_cases c2 : j = p
            · subst c2
              rw [if_pos rfl]
              simp (disch := omega) only [up_s, up_j, up_k]; rfl
            · rw [if_neg c2]
              simp (disch := omega) only [up_s, up_j, up_k, p5]
  rcases hw with w | w | w
  · rw [w] at h ⊢
    rw [show whoI 0 p q = nI p from rfl] at h ⊢
    rw [if_neg (by decide), if_neg (by decide)] at h
    refine s_f rfl (m_tiresOf (won := true) R1 hI (hT.g f1.g) ht hp hq (fun M2 f2 => s_t n1 ?_))
    refine tail M2 (nI p) _ false (f1.tr f2) (fun Z fz => ⟨fun _ => ⟨fun c => n3 c, fun c => absurd rfl c, fun _ => ?_⟩, fun c => absurd c n3⟩)
    exact m_win (l := q) (w := p) (hR.fr fz) i1 hp hq hne (Or.inl ⟨rfl, rfl⟩) rfl (fun M' g' R' => h M' (fz.g.tr g') R')
  · rw [w] at h ⊢
    rw [show whoI 1 p q = nI q from rfl] at h ⊢
    rw [if_neg (by decide), if_pos rfl] at h
    refine s_t n2 (m_tiresOf (won := false) R1 hI (hT.g f1.g) ht hp hq (fun M2 f2 => s_f rfl ?_))
    refine tail M2 (nI q) _ true (f1.tr f2) (fun Z fz => ⟨fun _ => ⟨fun c => n4 c, fun _ => ?_, fun c => absurd c n2⟩, fun c => absurd c n4⟩)
    exact m_win (l := p) (w := q) (hR.fr fz) i1 hp hq hne (Or.inr ⟨rfl, rfl⟩) rfl (fun M' g' R' => h M' (fz.g.tr g') R')
  · rw [w] at h ⊢
    rw [show whoI 2 p q = -1 from rfl] at h ⊢
    rw [if_pos rfl] at h
    refine s_t n5 (m_tiresOf (won := false) R1 hI (hT.g f1.g) ht hp hq (fun M2 f2 => s_t n6 ?_))
    exact tail M2 (-1) _ false (f1.tr f2) (fun Z fz => ⟨fun c => absurd rfl c, fun _ => h⟩)
end MG2
