/-! copy -/
section CPY
variable {tv : TV} {nT : Nat} {κ : CS} {g : GX} {X M : S0}
/-- item by item: none is read behind its being written -/
theorem m_copy_b {s d i j nn : Nat} {Q : Int32 → S0 → Prop} (hs : s < 4) (hd : d < 4) (hi : i + nn ≤ 40) (hj : j + nn ≤ 40) (up_ : Bool) (ha : up_ = false → ¬ s = d ∨ j ≤ i) (hb : up_ = true → i < j) (M0 : S0) (h : ∀ M' : S0, (∀ k q, (k ≠ 11 ∨ ¬ (40 * d + j ≤ q ∧ q < 40 * d + j + nn)) → M' k q = M0 k q) → (∀ q, q < nn → M' 11 (40 * d + j + q) = M0 11 (40 * s + i + q)) → Q (nI nn) M') : ∀ (f k n : Nat) (Y : S0), k + f = nn → f < n → (∀ k' q, (k' ≠ 11 ∨ ¬ (40 * d + j ≤ q ∧ q < 40 * d + j + nn)) → Y k' q = M0 k' q) → (∀ q, q < nn → Y 11 (40 * d + j + q) = if (if up_ = true then nn - k ≤ q else q < k) then M0 11 (40 * s + i + q) else M0 11 (40 * d + j + q)) → w6_copy_b121 Q n Y (nI s) (nI i) (nI d) (nI j) (nI nn) (if up_ = true then 1 else 0) (nI k) := by
  intro f
  induction f with
  | zero =>
    intro k n Y e hn f1 f2
    cases n with
    | zero => omega
    | succ n =>
      rw [w6_copy_b121]
      refine br_t (nI_le (by omega) (by omega)) (h Y f1 (fun q hq => ?_))
      rw [f2 q hq, if_pos]
      cases up_ with
      | true => rw [if_pos rfl]; omega
      | false => rw [if_neg (by decide)]; omega
  | succ f ih =>
    intro k n Y e hn f1 f2
    cases n with
    | zero => omega
    | succ n =>
      rw [w6_copy_b121]
      refine br_f (nI_ge (by omega) (by omega)) ?_
      have step : ∀ q0, q0 < nn → (if up_ = true then q0 = nn - 1 - k else q0 = k) → ∀ n', f < n' → w6_copy_b121 Q n' (up Y 11 (40 * d + j + q0) (Y 11 (40 * s + i + q0))) (nI s) (nI i) (nI d) (nI j) (nI nn) (if up_ = true then 1 else 0) (nI (k + 1)) := by
        intro q0 hq0 e0 n' hn'
        have src : Y 11 (40 * s + i + q0) = M0 11 (40 * s + i + q0) := by
          by_cases c : 40 * d + j ≤ 40 * s + i + q0 ∧ 40 * s + i + q0 < 40 * d + j + nn
          · have esd : s = d := by omega
            have e1 : 40 * s + i + q0 = 40 * d + j + (i + q0 - j) := by omega
            rw [e1, f2 (i + q0 - j) (by omega), if_neg]
            cases up_ with
            | true =>
              have := hb rfl
              rw [if_pos rfl] at e0 ⊢
              omega
            | false =>
              rcases ha rfl with z | z
              · exact absurd esd z
              · rw [if_neg (by decide)] at e0 ⊢
                omega
          · exact f1 11 _ (Or.inr c)
        refine ih (k + 1) n' _ (by omega) hn' (fun k' q a => ?_) (fun q hq => ?_)
        · by_cases ek : k' = 11
          · subst ek; rw [up_j (by omega)]; exact f1 11 q a
          · rw [up_k ek]; exact f1 k' q a
        · by_cases eq : q = q0
          · subst eq
            rw [up_s, src, if_pos]
            cases up_ with
            | true => rw [if_pos rfl] at e0 ⊢; omega
            | false => rw [if_neg (by decide)] at e0 ⊢; omega
          · rw [up_j (by omega), f2 q hq]
            have ec : (if up_ = true then nn - k ≤ q else q < k) ↔ (if up_ = true then nn - (k + 1) ≤ q else q < k + 1) := by
              cases up_ with
              | true => rw [if_pos rfl] at e0; rw [if_pos rfl, if_pos rfl]; omega
              | false => rw [if_neg (by decide)] at e0; rw [if_neg (by decide), if_neg (by decide)]; omega
            by_cases c : (if up_ = true then nn - k ≤ q else q < k)
            · rw [if_pos c, if_pos (ec.mp c)]
            · rw [if_neg c, if_neg (fun z => c (ec.mpr z))]
      rw [r40, r40, b01]
      refine ⟨fun c => ?_, fun c => ?_⟩
      · have st := step k (by omega) (by rw [if_neg c]) n (by omega)
        rw [nI_add, nI_add, nI_clamp (n := 40 * d + j + k) (by omega), nI_clamp (n := 40 * s + i + k) (by omega)]
        refine ⟨vpl _ _ (by omega) (by decide), vpl _ _ (by omega) (by decide), ?_⟩
        rintro _ rfl _ rfl
        rw [nI_1]
        exact st
      · have c := Classical.not_not.mp c
        have st := step (nn - 1 - k) (by omega) (by rw [if_pos c]) n (by omega)
        rintro _ rfl
        have e1 : nI nn - (1 : Int32) - nI k = nI (nn - 1 - k) := by
          have a1 : nI nn - (1 : Int32) = nI (nn - 1) := nI_sub (b := 1) (by omega)
          rw [a1, nI_sub (by omega)]
        rw [e1, nI_add, nI_add, nI_clamp (n := 40 * d + j + (nn - 1 - k)) (by omega), nI_clamp (n := 40 * s + i + (nn - 1 - k)) (by omega)]
        refine ⟨vpl _ _ (by omega) (by decide), vpl _ _ (by omega) (by decide), ?_⟩
        rintro _ rfl _ rfl
        rw [nI_1]
        exact st
theorem op_copy (h : Rel tv nT κ g X M) (p1 p2 p3 p4 p5 : Int32) : w5_copy g X p1 p2 p3 p4 p5 (fun r X' => w6_copy M p1 p2 p3 p4 p5 (fun r' M' => Owes tv nT g r X' r' M')) := by
  unfold w5_copy
  have dn : ∀ r : Int32, r = -2 → (¬ (¬ p1 < 0 ∧ ¬ (3 : Int32) < p1) ∨ ¬ (¬ p3 < 0 ∧ ¬ (3 : Int32) < p3)) → w6_copy M p1 p2 p3 p4 p5 (fun r' M' => Owes tv nT g r X r' M') := by
    intro r er hor
    subst er
    unfold w6_copy
    refine m_isSheet ?_
    rw [b01]
    refine ⟨fun c => ⟨rfl, _, h⟩, fun c => m_isSheet ?_⟩
    rw [b01]
    rcases hor with z | z
    · exact absurd z c
    · exact s_f z ⟨rfl, _, h⟩
  refine x_sheetAt (fun c => ⟨fun _ => ?_, fun k e => (by cases e)⟩) (fun s hs es => ⟨fun e => (by cases e), fun k e => ?_⟩)
  · refine x_sheetAt (fun _ => ⟨fun _ => dn _ rfl (Or.inl c), fun k e => (by cases e)⟩) (fun _ _ _ => ⟨fun e => (by cases e), fun _ _ => dn _ rfl (Or.inl c)⟩)
  · obtain rfl : 58 + 2 * s = k := Option.some.inj e
    refine x_sheetAt (fun c => ⟨fun _ => dn _ rfl (Or.inr c), fun k e => (by cases e)⟩) (fun d hd ed => ⟨fun e => (by cases e), fun k e => ?_⟩)
    obtain rfl : 58 + 2 * d = k := Option.some.inj e
    subst es
    subst ed
    have vs := vpl s 4 hs (by decide)
    have vd := vpl d 4 hd (by decide)
    refine ⟨isSh hs, x_isMissing ?_⟩
    rw [b01]
    rcases sh_of h hs with ⟨s1, s2⟩ | ⟨so, n, hso, hn, s1, s2, s3, s4, s5, s6⟩
    · refine s_t (fun z => z s1) ?_
      unfold w6_copy
      refine m_isSheet ?_
      rw [b01]
      refine br_f (fun z => z (isS_nI hs)) (m_isSheet ?_)
      rw [b01, nI_clamp (n := s) (by omega), nI_clamp (n := d) (by omega)]
      refine s_t (fun z => z (isS_nI hd)) ?_
      exact ⟨vs, br_t s2 ⟨rfl, _, h⟩⟩
    · refine s_f (fun z => nI_nm1 (p := so) (by omega) (s1.symm.trans z)) ⟨isSh hd, x_isMissing ?_⟩
      rw [b01]
      have ns : ¬ M 8 s = 0 := fun z => absurd (s3.symm.trans z) (by decide)
      rcases sh_of h hd with ⟨d1, d2⟩ | ⟨so', n', hso', hn', d1, d2, d3, d4, d5, d6⟩
      · refine br_f (fun z => z d1) ?_
        unfold w6_copy
        refine m_isSheet ?_
        rw [b01]
        refine br_f (fun z => z (isS_nI hs)) (m_isSheet ?_)
        rw [b01, nI_clamp (n := s) (by omega), nI_clamp (n := d) (by omega)]
        refine s_t (fun z => z (isS_nI hd)) ?_
        exact ⟨vs, br_f ns ⟨vd, s_f d2 ⟨rfl, _, h⟩⟩⟩
      · have nd : ¬ M 8 d = 0 := fun z => absurd (d3.symm.trans z) (by decide)
        refine br_t (fun z => nI_nm1 (p := so') (by omega) (d1.symm.trans z)) ?_
        rw [s1, d1]
        by_cases eso : nI so = nI so'
        · have out : ∀ r : Int32, r = -12 → (¬ hP n p2 p5 ∨ ¬ hP n' p4 p5) → w6_copy M (nI s) p2 (nI d) p4 p5 (fun r' M' => Owes tv nT g r X r' M') := by
            intro r er hor
            subst er
            unfold w6_copy
            refine m_isSheet ?_
            rw [b01]
            refine br_f (fun z => z (isS_nI hs)) (m_isSheet ?_)
            rw [b01, nI_clamp (n := s) (by omega), nI_clamp (n := d) (by omega)]
            refine s_t (fun z => z (isS_nI hd)) ?_
            refine ⟨vs, br_f ns ⟨vd, s_t nd ⟨vs, vd, br_t (by rw [s4, d4]; exact eso) ?_⟩⟩⟩
            rw [s5, d5]
            have g0 : Owes tv nT g (-12) X (-12) M := ⟨rfl, _, h⟩
            refine ⟨fun _ => g0, fun c5 => ⟨fun _ => g0, fun c2 => ⟨fun _ => g0, fun c4 => ⟨vs, fun _ => g0, fun c6 => ⟨vd, fun c7 => ?_, fun _ => g0⟩⟩⟩⟩⟩
            exfalso
            have cs : ∀ (N : Nat) (a : Int32), N ≤ 40 → ¬ a < 0 → a ≤ nI N - p5 → hP N a p5 := by
              intro N a hN ha hle
              refine (holds_iff (by omega)).mp ⟨ha, c5, ?_, Int32.not_lt.mpr hle⟩
              obtain ⟨m, hm, rfl⟩ := nI_of c5
              obtain ⟨q, hq, rfl⟩ := nI_of ha
              rw [Int32.le_iff_toInt_le, sub_ge (by omega) c5, nI_toInt hq, nI_toInt hm] at hle
              exact nI_nlt (by omega) (by omega)
            rcases hor with z | z
            · exact z (cs n p2 hn c2 (Int32.not_lt.mp c6))
            · exact z (cs n' p4 hn' c4 c7)
          refine br_t eso (x_holds hn s2 (fun i m him ei em => ?_) (fun c => br_t rfl (out _ rfl (Or.inl c))))
          refine br_f (by decide) (x_holds hn' d2 (fun j m' hjm ej em' => ?_) (fun c => s_f rfl (out _ rfl (Or.inr c))))
          have := (nI_eq (by omega) (by omega)).mp (em.symm.trans em')
          subst this
          subst ei
          subst ej
          subst em
          refine s_t (by decide) ⟨nI_pos (by omega), nI_pos (by omega), nI_pos (by omega), ?_⟩
          rw [nI_clamp (n := i) (by omega), nI_clamp (n := j) (by omega), nI_clamp (n := m) (by omega)]
          refine ⟨by omega, by omega, ?_⟩
          rintro _ rfl
          unfold w6_copy
          refine m_isSheet ?_
          rw [b01]
          refine br_f (fun z => z (isS_nI hs)) (m_isSheet ?_)
          rw [b01, nI_clamp (n := s) (by omega), nI_clamp (n := d) (by omega)]
          refine s_t (fun z => z (isS_nI hd)) ?_
          refine ⟨vs, br_f ns ⟨vd, s_t nd ⟨vs, vd, br_t (by rw [s4, d4]; exact eso) ?_⟩⟩⟩
          rw [s5, d5]
          have hI1 := (holds_iff (n := n) (by omega)).mpr ⟨i, m, rfl, rfl, him⟩
          have hI2 := (holds_iff (n := n') (by omega)).mpr ⟨j, m, rfl, rfl, hjm⟩
          refine br_f (nI_pos (by omega)) (br_f (nI_pos (by omega)) (br_f (nI_pos (by omega)) ⟨vs, br_f hI1.2.2.2 ⟨vd, br_t (Int32.not_lt.mp hI2.2.2.2) ?_⟩⟩))
          have esd : nI s = nI d ↔ s = d := nI_eq (by omega) (by omega)
          have eji : nI j ≤ nI i ↔ j ≤ i := nI_leI (by omega) (by omega)
          rw [esd, eji]
          have go : ∀ up_ : Bool, (up_ = false → ¬ s = d ∨ j ≤ i) → (up_ = true → i < j) → ∃ n11, w6_copy_b121 (fun r' M' => Owes tv nT g (nI m) (upR X (58 + 2 * d + 1) (va_cpy (X (58 + 2 * s + 1)) (X (58 + 2 * d + 1)) i j m)) r' M') n11 M (nI s) (nI i) (nI d) (nI j) (nI m) (if up_ = true then 1 else 0) (nI 0) := by
            intro up_ ha hb
            have y0 : ∀ q, q < m → M 11 (40 * d + j + q) = if (if up_ = true then m - 0 ≤ q else q < 0) then M 11 (40 * s + i + q) else M 11 (40 * d + j + q) := by
              intro q hq
              rw [if_neg]
              cases up_ with
              | true => rw [if_pos rfl]; omega
              | false => rw [if_neg (by decide)]; omega
            refine ⟨m + 1, m_copy_b hs hd (by omega) (by omega) up_ ha hb M (fun M' f1 f2 => ⟨rfl, κ, h.sh hd (fun k a b => ?_) (fun k q a b => f1 k q (by omega)) (Or.inr ⟨so', n', hso', hn', ?_, ?_, ?_, ?_, ?_, fun q hq => ?_⟩)⟩) m 0 (m + 1) M (Nat.zero_add _) (Nat.lt_succ_self _) (fun _ _ _ => rfl) y0⟩
            · simp [upR, b]
            · rw [show upR X (58 + 2 * d + 1) _ (58 + 2 * d) = X (58 + 2 * d) by simp [upR]]; exact d1
            · rw [show upR X (58 + 2 * d + 1) _ (58 + 2 * d) = X (58 + 2 * d) by simp [upR]]; exact d2
            · rw [f1 8 d (Or.inl (by decide))]; exact d3
            · rw [f1 9 d (Or.inl (by decide))]; exact d4
            · rw [f1 10 d (Or.inl (by decide))]; exact d5
            · show (if 58 + 2 * d + 1 = 58 + 2 * d + 1 then va_cpy (X (58 + 2 * s + 1)) (X (58 + 2 * d + 1)) i j m else X (58 + 2 * d + 1)) q = _
              rw [if_pos rfl]
              unfold va_cpy
              by_cases c : j ≤ q ∧ q < j + m
              · rw [if_pos c, s6 _ (by omega), show 40 * d + q = 40 * d + j + (q - j) by omega, f2 (q - j) (by omega)]
                congr 1
                omega
              · rw [if_neg c, f1 11 _ (by omega)]
                exact d6 q hq
          refine ⟨fun c => go false (fun _ => Or.inl c) (fun z => absurd z (by decide)), fun c => ⟨fun c2 => go false (fun _ => Or.inr c2) (fun z => absurd z (by decide)), fun c2 => go true (fun z => absurd z (by decide)) (fun _ => by omega)⟩⟩
        · refine br_f eso ?_
          unfold w6_copy
          refine m_isSheet ?_
          rw [b01]
          refine br_f (fun z => z (isS_nI hs)) (m_isSheet ?_)
          rw [b01, nI_clamp (n := s) (by omega), nI_clamp (n := d) (by omega)]
          refine s_t (fun z => z (isS_nI hd)) ?_
          refine ⟨vs, br_f ns ⟨vd, s_t nd ⟨vs, vd, br_f (by rw [s4, d4]; exact eso) ⟨rfl, _, h⟩⟩⟩⟩
end CPY
