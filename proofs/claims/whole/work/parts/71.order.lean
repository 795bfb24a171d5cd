/-! in which order; who could have all -/
abbrev OSt : Type := Option (Nat × Nat)
def leafS (v dig : Nat) : OSt → OSt
  | none => some (v, dig)
  | some (m, dg) => if v ≤ m then some (m, dg) else some (v, dig)
def orL (s : Nat → OSt → OSt) : Nat → Nat → OSt → OSt
  | 0, _, st => st
  | f + 1, q, st => orL s f (q + 1) (s q st)
def orF (tv : TV) (i N : Nat) : Nat → Nat → CS → Nat → OSt → OSt
  | 0, _, κ, dig, st => leafS (pc8 (cH κ i)) dig st
  | l + 1, left, κ, dig, st => orL (fun q st => if left.testBit q = true then orF tv i N l (left &&& (255 - 2 ^ q)) (meetS tv κ i q) (10 * dig + q + 1) st else st) N 0 st
theorem orL_ne {s : Nat → OSt → OSt} (h2 : ∀ q st, st ≠ none → s q st ≠ none) : ∀ (f q : Nat) (st : OSt), st ≠ none → orL s f q st ≠ none := by
  intro f
  induction f with
  | zero => intro q st h; exact h
  | succ f ih => intro q st h; rw [orL]; exact ih (q + 1) _ (h2 q st h)
theorem orL_ne2 {s : Nat → OSt → OSt} {P : Nat → Prop} (h1 : ∀ q st, P q → s q st ≠ none) (h2 : ∀ q st, st ≠ none → s q st ≠ none) : ∀ (f q : Nat) (st : OSt), (∃ q', q ≤ q' ∧ q' < q + f ∧ P q') → orL s f q st ≠ none := by
  intro f
  induction f with
  | zero => intro q st h; obtain ⟨q', a, b, _⟩ := h; omega
  | succ f ih =>
    intro q st h
    rw [orL]
    obtain ⟨q', a, b, c⟩ := h
    by_cases e : q' = q
    · subst e; exact orL_ne h2 f _ _ (h1 q' st c)
    · exact ih (q + 1) _ ⟨q', by omega, by omega, c⟩
theorem or_mono (tv : TV) (i N : Nat) : ∀ (l left : Nat) (κ : CS) (dig : Nat) (st : OSt), st ≠ none → orF tv i N l left κ dig st ≠ none := by
  intro l
  induction l with
  | zero =>
    intro left κ dig st h
    rw [orF]
    cases st with
    | none => exact absurd rfl h
    | some s =>
      rw [leafS]
      split <;> (intro z; cases z)
  | succ l ih =>
    intro left κ dig st h
    rw [orF]
    refine orL_ne (fun q st h => ?_) N 0 st h
    show (if left.testBit q = true then _ else st) ≠ none
    by_cases c : left.testBit q = true
    · rw [if_pos c]; exact ih _ _ _ _ h
    · rw [if_neg c]; exact h
def sbB (N left : Nat) : Bool := decide (left = 0) || ((left.testBit 0 && decide (0 < N)) || (left.testBit 1 && decide (1 < N)) || (left.testBit 2 && decide (2 < N)) || (left.testBit 3 && decide (3 < N)) || (left.testBit 4 && decide (4 < N)) || (left.testBit 5 && decide (5 < N)))
theorem sb_all : ∀ N, N < 7 → ∀ left, left < 2 ^ N → sbB N left = true := by decide +kernel
theorem some_bit (N : Nat) (hN : N < 7) (left : Nat) (hl : left < 2 ^ N) (h0 : left ≠ 0) : (left.testBit 0 = true ∧ 0 < N) ∨ (left.testBit 1 = true ∧ 1 < N) ∨ (left.testBit 2 = true ∧ 2 < N) ∨ (left.testBit 3 = true ∧ 3 < N) ∨ (left.testBit 4 = true ∧ 4 < N) ∨ (left.testBit 5 = true ∧ 5 < N) := by
  have h := sb_all N hN left hl
  unfold sbB at h
  simpa [h0, or_assoc] using h
def mkB (N left q : Nat) : Bool := decide ((2 ^ N - 1 - left).testBit q = !left.testBit q) && (!left.testBit q || (decide (pc8 (left &&& (255 - 2 ^ q)) + 1 = pc8 left) && decide (left &&& (255 - 2 ^ q) < 2 ^ N) && decide ((2 ^ N - 1 - left) ||| 2 ^ q = 2 ^ N - 1 - (left &&& (255 - 2 ^ q)))))
theorem mk_all : ∀ N, N < 7 → ∀ left, left < 2 ^ N → ∀ q, q < N → mkB N left q = true := by decide +kernel
theorem msk (N : Nat) (hN : N < 7) (left : Nat) (hl : left < 2 ^ N) (q : Nat) (hq : q < N) : (2 ^ N - 1 - left).testBit q = !left.testBit q ∧ (left.testBit q = true → pc8 (left &&& (255 - 2 ^ q)) + 1 = pc8 left ∧ left &&& (255 - 2 ^ q) < 2 ^ N ∧ (2 ^ N - 1 - left) ||| 2 ^ q = 2 ^ N - 1 - (left &&& (255 - 2 ^ q))) := by
  have h := mk_all N hN left hl q hq
  unfold mkB at h
  rw [Bool.and_eq_true] at h
  refine ⟨of_decide_eq_true h.1, fun c => ?_⟩
  have h2 := h.2
  rw [c, Bool.not_true, Bool.false_or, Bool.and_eq_true, Bool.and_eq_true] at h2
  exact ⟨of_decide_eq_true h2.1.1, of_decide_eq_true h2.1.2, of_decide_eq_true h2.2⟩
theorem msk0 : ∀ N, N < 7 → ∀ i, i < N → pc8 (2 ^ N - 1 - 2 ^ i) + 1 = N ∧ 2 ^ N - 1 - 2 ^ i < 2 ^ N ∧ (2 ^ N - 1 - 2 ^ i).testBit i = false ∧ 2 ^ N - 1 - (2 ^ N - 1 - 2 ^ i) = 2 ^ i ∧ (((1 : Int32) <<< (nI N &&& 31)) - (1 : Int32)) &&& (((1 : Int32) <<< (nI i &&& 31)) ^^^ (-1 : Int32)) = nI (2 ^ N - 1 - 2 ^ i) ∧ (1 : Int32) <<< (nI i &&& 31) = nI (2 ^ i) := by decide +kernel
theorem or_some (tv : TV) (i : Nat) {N : Nat} (hN : N < 7) : ∀ (l left : Nat) (κ : CS) (dig : Nat) (st : OSt), pc8 left = l → left < 2 ^ N → orF tv i N l left κ dig st ≠ none := by
  intro l
  induction l with
  | zero =>
    intro left κ dig st _ _
    rw [orF]
    cases st with
    | none => intro z; cases z
    | some s =>
      rw [leafS]
      split <;> (intro z; cases z)
  | succ l ih =>
    intro left κ dig st hp hl
    rw [orF]
    refine orL_ne2 (P := fun q => left.testBit q = true ∧ q < N) (fun q st h => ?_) (fun q st h => ?_) N 0 st ?_
    · show (if left.testBit q = true then _ else st) ≠ none
      rw [if_pos h.1]
      obtain ⟨k3, k4, _⟩ := (msk N hN left hl q h.2).2 h.1
      exact ih _ _ _ _ (by omega) k4
    · show (if left.testBit q = true then _ else st) ≠ none
      by_cases c : left.testBit q = true
      · rw [if_pos c]; exact or_mono tv i N _ _ _ _ _ h
      · rw [if_neg c]; exact h
    · have l0 : left ≠ 0 := fun z => by rw [z, pc8_0] at hp; omega
      rcases some_bit N hN left hl l0 with z | z | z | z | z | z
      · exact ⟨0, by omega, by omega, z.1, z.2⟩
      · exact ⟨1, by omega, by omega, z.1, z.2⟩
      · exact ⟨2, by omega, by omega, z.1, z.2⟩
      · exact ⟨3, by omega, by omega, z.1, z.2⟩
      · exact ⟨4, by omega, by omega, z.1, z.2⟩
      · exact ⟨5, by omega, by omega, z.1, z.2⟩
theorem nI_div {a b : Nat} (ha : a < 2 ^ 31) (hb : b < 2 ^ 31) : nI a / nI b = nI (a / b) := by
  have hd := Nat.div_le_self a b
  apply Int32.toInt_inj.mp
  rw [Int32.toInt_div, nI_toInt ha, nI_toInt hb, nI_toInt (Nat.lt_of_le_of_lt hd ha), ← Int.ofNat_tdiv]
  generalize a / b = q at hd ⊢
  exact Int.bmod_eq_of_le (by omega) (by omega)
theorem nI_mod {a b : Nat} (ha : a < 2 ^ 31) (hb : b < 2 ^ 31) : nI a - nI a / nI b * nI b = nI (a % b) := by
  rw [nI_div ha hb, nI_mul, nI_sub (Nat.div_mul_le_self a b)]
  congr 1
  have := Nat.div_add_mod a b
  rw [Nat.mul_comm (a / b) b]
  omega
def bgL (s : Nat → Nat) : Nat → Nat → Nat → Nat
  | 0, _, b => b
  | f + 1, q, b => bgL s f (q + 1) (max b (s q))
/-- the best of a search told as one number -/
def bgF (tv : TV) (i N : Nat) : Nat → Nat → CS → Nat → Nat
  | 0, _, κ, dig => pc8 (cH κ i) * 100000 + 99999 - dig
  | l + 1, left, κ, dig => bgL (fun q => if left.testBit q = true then bgF tv i N l (left &&& (255 - 2 ^ q)) (meetS tv κ i q) (10 * dig + q + 1) else 0) N 0 0
def eO : OSt → Nat
  | none => 0
  | some (m, dg) => m * 100000 + 99999 - dg
def okO (k : Nat) : OSt → Prop
  | none => True
  | some (_, dg) => dg < k
theorem okO.up {k k' : Nat} {st : OSt} (h : okO k st) (hk : k ≤ k') : okO k' st := by
  cases st with
  | none => trivial
  | some s => exact Nat.lt_of_lt_of_le h hk
theorem leaf_e {v dig : Nat} {st : OSt} (h : okO dig st) (hd : dig < 100000) : eO (leafS v dig st) = max (eO st) (v * 100000 + 99999 - dig) ∧ okO (dig + 1) (leafS v dig st) := by
  cases st with
  | none => exact ⟨(Nat.max_eq_right (Nat.zero_le _)).symm, Nat.lt_succ_self _⟩
  | some s =>
    obtain ⟨m, dg⟩ := s
    have h : dg < dig := h
    rw [leafS]
    by_cases c : v ≤ m
    · rw [if_pos c]
      refine ⟨(Nat.max_eq_left ?_).symm, Nat.lt_succ_of_lt h⟩
      show v * 100000 + 99999 - dig ≤ m * 100000 + 99999 - dg
      omega
    · rw [if_neg c]
      refine ⟨(Nat.max_eq_right ?_).symm, Nat.lt_succ_self _⟩
      show m * 100000 + 99999 - dg ≤ v * 100000 + 99999 - dig
      omega
theorem bgL_le {s : Nat → Nat} {B : Nat} (hs : ∀ q, s q ≤ B) : ∀ (f q b : Nat), b ≤ B → bgL s f q b ≤ B := by
  intro f
  induction f with
  | zero => intro q b h; exact h
  | succ f ih => intro q b h; rw [bgL]; exact ih (q + 1) _ (Nat.max_le.mpr ⟨h, hs q⟩)
theorem bgF_le (tv : TV) (i N : Nat) : ∀ (l left : Nat) (κ : CS) (dig : Nat), bgF tv i N l left κ dig ≤ 899999 := by
  intro l
  induction l with
  | zero =>
    intro left κ dig
    rw [bgF]
    have := pc8_le (cH κ i)
    omega
  | succ l ih =>
    intro left κ dig
    rw [bgF]
    refine bgL_le (fun q => ?_) N 0 0 (Nat.zero_le _)
    show (if left.testBit q = true then _ else 0) ≤ 899999
    by_cases c : left.testBit q = true
    · rw [if_pos c]; exact ih _ _ _
    · rw [if_neg c]; exact Nat.zero_le _
theorem or_bs (tv : TV) (i : Nat) {N : Nat} (hN : N ≤ 6) : ∀ (l left : Nat) (κ : CS) (dig : Nat) (st : OSt), (dig + 1) * 10 ^ l ≤ 100000 → okO (dig * 10 ^ l) st → eO (orF tv i N l left κ dig st) = max (eO st) (bgF tv i N l left κ dig) ∧ okO ((dig + 1) * 10 ^ l) (orF tv i N l left κ dig st) := by
  intro l
  induction l with
  | zero =>
    intro left κ dig st hd h
    rw [Nat.pow_zero, Nat.mul_one] at hd h ⊢
    rw [orF, bgF]
    exact leaf_e h (by omega)
  | succ l ih =>
    intro left κ dig st hd h
    rw [Nat.pow_succ, Nat.mul_comm (10 ^ l) 10, ← Nat.mul_assoc] at hd h ⊢
    have e1 : (dig + 1) * 10 = 10 * dig + 10 := by omega
    have e2 : dig * 10 = 10 * dig := Nat.mul_comm _ _
    rw [e1] at hd ⊢
    rw [e2] at h
    rw [orF, bgF]
    have lp : ∀ (f q : Nat) (st' : OSt) (b : Nat), q + f = N → okO ((10 * dig + q + 1) * 10 ^ l) st' → eO st' = max (eO st) b → eO (orL (fun q st => if left.testBit q = true then orF tv i N l (left &&& (255 - 2 ^ q)) (meetS tv κ i q) (10 * dig + q + 1) st else st) f q st') = max (eO st) (bgL (fun q => if left.testBit q = true then bgF tv i N l (left &&& (255 - 2 ^ q)) (meetS tv κ i q) (10 * dig + q + 1) else 0) f q b) ∧ okO ((10 * dig + 10) * 10 ^ l) (orL (fun q st => if left.testBit q = true then orF tv i N l (left &&& (255 - 2 ^ q)) (meetS tv κ i q) (10 * dig + q + 1) st else st) f q st') := by
      intro f
      induction f with
      | zero =>
        intro q st' b e hk he
        exact ⟨he, hk.up (Nat.mul_le_mul_right _ (by omega))⟩
      | succ f ihf =>
        intro q st' b e hk he
        rw [orL, bgL]
        by_cases c : left.testBit q = true
        · rw [if_pos c, if_pos c]
          obtain ⟨a1, a2⟩ := ih (left &&& (255 - 2 ^ q)) (meetS tv κ i q) (10 * dig + q + 1) st' (Nat.le_trans (Nat.mul_le_mul_right _ (by omega)) hd) hk
          exact ihf (q + 1) _ _ (by omega) a2 (by rw [a1, he, Nat.max_assoc])
        · rw [if_neg c, if_neg c, Nat.max_eq_left (Nat.zero_le b)]
          exact ihf (q + 1) _ _ (by omega) (hk.up (Nat.mul_le_mul_right _ (by omega))) he
    exact lp N 0 st 0 (Nat.zero_add _) (h.up (Nat.mul_le_mul_right _ (by omega))) (Nat.max_eq_left (Nat.zero_le _)).symm
theorem p2_256 : ∀ N, N < 7 → 2 ^ N ≤ 64 := by decide
def stM (st : OSt) (M : S0) : Prop := match st with
  | none => M 0 29 = -1 ∧ M 0 30 = 0
  | some (m, dg) => M 0 29 = nI dg ∧ M 0 30 = nI m ∧ m ≤ 8 ∧ dg < 2 ^ 31
/-- all as it was but the rows of work, the clubs in thought from one on, the two fields of a search -/
def FD (d : Nat) (X X' : S0) : Prop := (∀ k, k ≠ 0 → k ≠ 3 → k ≠ 4 → (k < 28 + 6 * d ∨ 58 ≤ k) → X' k = X k) ∧ ∀ j, j ≠ 8 → j ≠ 9 → X' 0 j = X 0 j
theorem FD.rf {d : Nat} {X : S0} : FD d X X := ⟨fun _ _ _ _ _ => rfl, fun _ _ _ => rfl⟩
theorem FD.tr {d : Nat} {X Y Z : S0} (h : FD d X Y) (h2 : FD d Y Z) : FD d X Z := ⟨fun k a b c e => (h2.1 k a b c e).trans (h.1 k a b c e), fun j a b => (h2.2 j a b).trans (h.2 j a b)⟩
theorem FD.up {d : Nat} {X Y : S0} (h : FD (d + 1) X Y) : FD d X Y := ⟨fun k a b c e => h.1 k a b c (by omega), h.2⟩
section ORD
variable {tv : TV} {nT : Nat} {κ : CS} {g : GX} {X M : S0}
theorem RelX.d {d c : Nat} {X X' : S0} (h : RelX c κ X) (f : FD d X X') (hc : (d = 0 ∧ c = 10) ∨ (0 < d ∧ c = 22 + 6 * d)) : RelX c κ X' := by
  have e : ∀ i, i ≤ 5 → X' (c + i) = X (c + i) := fun i hi => f.1 _ (by omega) (by omega) (by omega) (by omega)
  have e0 : X' c = X c := e 0 (by omega)
  unfold RelX
  rw [e0, e 1 (by omega), e 2 (by omega), e 3 (by omega), e 4 (by omega), e 5 (by omega)]
  exact h
theorem TX.d {d : Nat} {X X' : S0} (h : TX tv nT g X) (f : FD d X X') : TX tv nT g X' := h.fr (fun k hk => f.1 k (by omega) (by omega) (by omega) (by omega)) (f.1 2 (by decide) (by decide) (by decide) (by omega))
theorem x_thinkOn {d c : Nat} {Q : Option Nat → S0 → Prop} (hd : d < 5) (hc : (d = 0 ∧ c = 10) ∨ (0 < d ∧ c = 22 + 6 * d)) (hR : RelX c κ X) (h6 : cN κ ≤ 6) (h : ∀ X' : S0, FD d X X' → RelX (28 + 6 * d) κ X' → (∀ j, X' 0 j = X 0 j) → Q (some (28 + 6 * d)) X') : w5_thinkOn g c X (nI d) Q := by
  unfold w5_thinkOn
  rw [nI_clamp (n := d) (by omega)]
  refine br_f (nI_pos (by omega)) (br_f (nI_ge (b := 5) hd (by decide)) ⟨vpl _ _ hd (by decide), ⟨d + 3, by omega, by omega⟩, x_takes (by omega) (by omega) hR h6 (fun X' f R => h X' ⟨fun k _ _ _ e => f k (by omega), fun j _ _ => by rw [f 0 (by omega)]⟩ R (fun j => by rw [f 0 (by omega)]))⟩)
theorem stM.eq {st : OSt} {M M' : S0} (h : stM st M) (e8 : M' 0 29 = M 0 29) (e9 : M' 0 30 = M 0 30) : stM st M' := by
  unfold stM at h ⊢
  rw [e8, e9]
  exact h
theorem nI_max {a b : Nat} (ha : a < 2 ^ 31) (hb : b < 2 ^ 31) : (if nI a < nI b then nI b else nI a) = nI (max a b) := by
  by_cases c : a < b
  · rw [Nat.max_eq_right (Nat.le_of_lt c), if_pos (nI_lt c hb)]
  · rw [Nat.max_eq_left (Nat.le_of_not_lt c), if_neg (nI_nlt (Nat.le_of_not_lt c) ha)]
theorem x_orders {i N : Nat} (hi : i < N) (hN6 : N ≤ 6) : ∀ (l d left c : Nat) (κ : CS) (dig : Nat) (X : S0) (Q : Int32 → S0 → Prop) (dd : Nat), l + d + 1 = N → l < dd → pc8 left = l → left < 2 ^ N → left.testBit i = false → ((d = 0 ∧ c = 10) ∨ (0 < d ∧ c = 22 + 6 * d)) → RelX c κ X → IC κ → cN κ = N → TX tv nT g X → cT κ < nT → dig < 10 ^ d → (∀ X' : S0, FD d X X' → Q (nI (bgF tv i N l left κ dig)) X') → w_OX g dd 0 c X (nI i) (nI d) (nI (2 ^ N - 1 - left)) (nI dig) Q := by
  intro l
  induction l with
  | zero =>
    intro d left c κ dig X Q dd e hdd hp hl hli hc hX hI hN hT ht hdig h
    cases dd with
    | zero => omega
    | succ dd =>
      rw [w_OX]
      show w5_bestOrder_body g (w_OX g dd) c X _ _ _ _ Q
      unfold w5_bestOrder_body
      have e1 : nI N - 1 = nI (N - 1) := nI_sub (b := 1) (by omega)
      rw [hX.1, hN, e1]
      have d5 : dig < 100000 := by
        have : 10 ^ d ≤ 10 ^ 5 := Nat.pow_le_pow_right (by decide) (by omega)
        omega
      have h := h X FD.rf
      rw [bgF] at h
      have e3 : nI (pc8 (cH κ i)) * (100000 : Int32) + (100000 : Int32) - 1 - nI dig = nI (pc8 (cH κ i) * 100000 + 99999 - dig) := by
        have a1 : nI (pc8 (cH κ i)) * (100000 : Int32) = nI (pc8 (cH κ i) * 100000) := nI_mul _ 100000
        have a2 : nI (pc8 (cH κ i) * 100000) + (100000 : Int32) = nI (pc8 (cH κ i) * 100000 + 100000) := nI_add _ 100000
        have a3 : nI (pc8 (cH κ i) * 100000 + 100000) - 1 = nI (pc8 (cH κ i) * 100000 + 99999) := nI_sub (b := 1) (by omega)
        rw [a1, a2, a3, nI_sub (by omega)]
      rw [← e3] at h
      exact br_f (nI_nlt (by omega) (by omega)) (x_howMany hX hI (by omega) h)
  | succ l ih =>
    intro d left c κ dig X Q dd e hdd hp hl hli hc hX hI hN hT ht hdig h
    cases dd with
    | zero => omega
    | succ dd =>
      rw [w_OX]
      show w5_bestOrder_body g (w_OX g dd) c X _ _ _ _ Q
      unfold w5_bestOrder_body
      have e1 : nI N - 1 = nI (N - 1) := nI_sub (b := 1) (by omega)
      rw [hX.1, hN, e1]
      refine br_t (nI_lt (by omega) (by omega)) ⟨N + 1, ?_⟩
      rw [bgF] at h
      have h64 := p2_256 N (by omega)
      have lp : ∀ (f q n b : Nat) (X : S0), q + f = N → f < n → b ≤ 899999 → RelX c κ X → TX tv nT g X → (∀ X' : S0, FD d X X' → Q (nI (bgL (fun q => if left.testBit q = true then bgF tv i N l (left &&& (255 - 2 ^ q)) (meetS tv κ i q) (10 * dig + q + 1) else 0) f q b)) X') → w5_bestOrder_b33 g (w_OX g dd) c Q n X (nI i) (nI d) (nI (2 ^ N - 1 - left)) (nI dig) (nI b) (nI q) := by
        intro f
        induction f with
        | zero =>
          intro q n b X e2 hn hb hX hT h
          cases n with
          | zero => omega
          | succ n =>
            rw [w5_bestOrder_b33, hX.1, hN]
            exact br_t (nI_le (by omega) (by omega)) (h X FD.rf)
        | succ f ihf =>
          intro q n b X e2 hn hb hX hT h
          cases n with
          | zero => omega
          | succ n =>
            rw [w5_bestOrder_b33, hX.1, hN]
            rw [bgL] at h
            obtain ⟨k1, k2⟩ := msk N (by omega) left hl q (by omega)
            rw [bitv _ (by omega) q (by omega), b01, k1]
            refine br_f (nI_ge (by omega) (by omega)) ⟨fun cb => ?_, fun cb => ?_⟩
            · have cq : left.testBit q = true := by
                cases z : left.testBit q with
                | true => rfl
                | false => rw [z] at cb; exact absurd rfl cb
              obtain ⟨k3, k4, k5⟩ := k2 cq
              rw [if_pos cq] at h
              have hqi : i ≠ q := fun z => by rw [z] at hli; rw [hli] at cq; cases cq
              refine x_thinkOn (by omega) hc hX hI.1 (fun X1 f1 R1 z1 => ⟨fun z => (by cases z), fun k ek => ?_⟩)
              obtain rfl : 28 + 6 * d = k := Option.some.inj ek
              refine ⟨⟨d + 3, by omega, by omega⟩, x_meet (by omega) (by omega) R1 hI (hT.d f1) ht (by omega) (by omega) hqi (fun X2 f2 R2 => ?_)⟩
              have f2' : FD d X1 X2 := ⟨fun k a b c e => f2 k b c (by omega), fun j _ _ => by rw [f2 0 (by omega) (by omega) (by omega)]⟩
              have e3 : nI dig * 10 + nI q + 1 = nI (10 * dig + q + 1) := by
                have a1 : nI dig * 10 = nI (dig * 10) := nI_mul dig 10
                rw [a1, nI_add, nI_1, Nat.mul_comm dig 10]
              rw [nI_1, setv q (by omega) _ (by omega), k5, e3]
              refine ih (d + 1) _ (28 + 6 * d) (meetS tv κ i q) _ X2 _ dd (by omega) (by omega) (by omega) k4 (by rw [Nat.testBit_and, hli]; rfl) (Or.inr ⟨by omega, by omega⟩) R2 (ic_meet hI (by omega) (by omega) hqi) (by rw [meet_N]; exact hN) ((hT.d f1).d f2') (by rw [meet_T]; exact ht) (by
                have := Nat.pow_succ 10 d
                omega) (fun X3 f3 => ?_)
              have w8 := bgF_le tv i N l (left &&& (255 - 2 ^ q)) (meetS tv κ i q) (10 * dig + q + 1)
              have ff := (f1.tr f2').tr f3.up
              rw [nI_max (by omega) (by omega)]
              rintro _ rfl _ rfl
              rw [nI_1]
              exact ihf (q + 1) n _ X3 (by omega) (by omega) (Nat.max_le.mpr ⟨hb, w8⟩) (hX.d ff hc) (hT.d ff) (fun X' f' => h X' (ff.tr f'))
            · have cq : ¬ left.testBit q = true := by
                intro z
                rw [z] at cb
                exact cb (by decide)
              rw [if_neg cq, Nat.max_eq_left (Nat.zero_le b)] at h
              rintro _ rfl
              rw [nI_1]
              exact ihf (q + 1) n b X (by omega) (by omega) hb hX hT h
      exact lp N 0 (N + 1) 0 X (Nat.zero_add _) (Nat.lt_succ_self _) (Nat.zero_le _) hX hT h
theorem m_thought2 {d : Nat} {Q : S0 → Prop} (hd : d < 8) (h0 : M 0 28 = nI d) (hR : RelM κ M) (h : ∀ M1 : S0, TH1 d M M1 → M1 0 28 = nI (d + 1) → RelM κ M1 → (∀ M2 : S0, GQ (d + 1) M1 M2 → ∀ Q' : S0 → Prop, (∀ M3 : S0, QM d M M3 → (∀ j, 29 ≤ j → j ≤ 31 → M3 0 j = M2 0 j) → Q' M3) → w6_laysBack M2 Q') → Q M1) : w6_laysAside M Q := by
  refine m_aside hd h0 (fun M1 f1 f2 f3 f4 f5 f6 => h M1 ⟨f1, f3⟩ f2 ?_ (fun M2 g Q' hq => ?_))
  · obtain ⟨r1, r2, r3, r4, r5⟩ := hR
    refine ⟨by rw [f1 0 11 (by omega) (by omega)]; exact r1, by rw [f1 0 8 (by omega) (by omega)]; exact r2, by rw [f1 0 7 (by omega) (by omega)]; exact r3, by rw [f1 0 4 (by omega) (by omega)]; exact r4, fun p hp => ?_⟩
    rw [f1 4 p (by omega) (by omega), f1 5 (4 * p) (by omega) (by omega), f1 5 (4 * p + 1) (by omega) (by omega), f1 5 (4 * p + 2) (by omega) (by omega), f1 5 (4 * p + 3) (by omega) (by omega)]
    exact r5 p hp
  · obtain ⟨g1, g2⟩ := g
    refine m_back hd (by rw [g1 0 28 (by omega) (by omega) (by omega)]; exact f2) (fun M3 a1 a2 a3 a4 a5 => hq M3 ⟨fun k j b1 b2 b3 => ?_, fun j hj => ?_, fun j hj => ?_⟩ (fun j b1 b2 => a1 0 j (by omega) (by omega)))
    · by_cases e : k = 0
      · subst e
        by_cases e1 : j = 28
        · subst e1; rw [a2, h0]
        · by_cases e2 : j = 8
          · subst e2; rw [a4, g2 _ (by omega), f5]
          · by_cases e3 : j = 7
            · subst e3; rw [a5, g2 _ (by omega), f6]
            · rw [a1 0 j (by omega) (by omega), g1 0 j (by omega) (by omega) (by omega), f1 0 j (by omega) (by omega)]
      · rw [a1 k j b1 (by omega), g1 k j b1 b2 (by omega), f1 k j b2 (by omega)]
    · rw [a1 6 j (by omega) (by omega), g2 j (by omega), f3 j hj]
    · rw [a3 j hj, g2 _ (by omega), f4 j hj]
theorem QM.dn {d : Nat} {X Y : S0} (h : QM (d + 1) X Y) : QM d X Y := ⟨h.1, fun j hj => h.2.1 j (by omega), h.2.2⟩
theorem QM.zd {d d' : Nat} {M M' : S0} (f : QM d M M') (h0 : M 0 28 = nI d') : M' 0 28 = nI d' := by rw [f.1 0 28 (by decide) (by decide) (by omega)]; exact h0
theorem up_q {d j : Nat} {x : Int32} (h1 : 12 ≤ j) (h2 : j ≤ 31) (h3 : j ≠ 28) : QM d M (up M 0 j x) := ⟨fun k j' a b c => by
  by_cases e : k = 0
  · subst e; exact up_j (by omega)
  · exact up_k e, fun j' _ => up_k (by decide), fun j' _ => up_k (by decide)⟩
theorem m_orders {i N : Nat} (hi : i < N) (hN6 : N ≤ 6) : ∀ (l d left : Nat) (κ : CS) (dig : Nat) (st : OSt) (M : S0) (Q : S0 → Prop) (dd : Nat), l + d + 1 = N → l < dd → pc8 left = l → left < 2 ^ N → left.testBit i = false → RelM κ M → M 0 28 = nI d → IC κ → cN κ = N → TM tv nT M → cT κ < nT → dig < 10 ^ d → stM st M → (∀ M' : S0, QM d M M' → stM (orF tv i N l left κ dig st) M' → Q M') → w_OM dd 0 M (nI i) (nI left) (nI dig) Q := by
  intro l
  induction l with
  | zero =>
    intro d left κ dig st M Q dd e hdd hp hl hli hM h0 hI hN hT ht hdig hst h
    have h64 := p2_256 N (by omega)
    cases dd with
    | zero => omega
    | succ dd =>
      rw [w_OM]
      show w6_orders_body (w_OM dd) M _ _ _ Q
      unfold w6_orders_body
      have l0 : left = 0 := (pc8_z left (by omega)).mp hp
      subst l0
      have d31 : dig < 2 ^ 31 := by
        have : 10 ^ d ≤ 10 ^ 5 := Nat.pow_le_pow_right (by decide) (by omega)
        omega
      have v8 := pc8_le (cH κ i)
      have fin : (∀ m dg, st = some (m, dg) → ¬ pc8 (cH κ i) ≤ m) → Q (up (up M 0 29 (nI dig)) 0 30 (nI (pc8 (cH κ i)))) := by
        intro hm
        refine h _ ((up_q (by decide) (by decide) (by decide)).tr (up_q (by decide) (by decide) (by decide))) ?_
        have e2 : orF tv i N 0 0 κ dig st = some (pc8 (cH κ i), dig) := by
          rw [orF]
          cases st with
          | none => rfl
          | some s => exact if_neg (hm s.1 s.2 rfl)
        rw [e2]
        refine ⟨by rw [up_j (by decide), up_s], up_s, v8, d31⟩
      refine s_f rfl (m_hasMany hM hI (by omega) ?_)
      cases st with
      | none =>
        obtain ⟨s1, s2⟩ := hst
        refine br_t s1 ?_
        rintro _ rfl _ rfl
        exact fin (fun m dg z => by cases z)
      | some s =>
        obtain ⟨m, dg⟩ := s
        obtain ⟨s1, s2, s3, s4⟩ := hst
        refine br_f (by rw [s1]; exact nI_nm1 s4) ?_
        rw [s2]
        refine ⟨fun z => ?_, fun z => ?_⟩
        · have z := (nI_leI (by omega) (by omega)).mp z
          refine h M QM.rf ?_
          rw [orF, leafS, if_pos z]
          exact ⟨s1, s2, s3, s4⟩
        · rintro _ rfl _ rfl
          exact fin (fun m' dg' e => by
            cases e
            exact fun y => z (nI_le y (by omega)))
  | succ l ih =>
    intro d left κ dig st M Q dd e hdd hp hl hli hM h0 hI hN hT ht hdig hst h
    have h64 := p2_256 N (by omega)
    cases dd with
    | zero => omega
    | succ dd =>
      rw [w_OM]
      show w6_orders_body (w_OM dd) M _ _ _ Q
      unfold w6_orders_body
      have l0 : left ≠ 0 := fun z => by
        have := (pc8_z left (by omega)).mpr z
        omega
      refine s_t (fun z => l0 ((nIz (by omega)).mp z)) ⟨N + 1, ?_⟩
      rw [orF] at h
      have lp : ∀ (f q n : Nat) (M : S0) (st : OSt), q + f = N → f < n → RelM κ M → M 0 28 = nI d → TM tv nT M → stM st M → (∀ M' : S0, QM d M M' → stM (orL (fun q st => if left.testBit q = true then orF tv i N l (left &&& (255 - 2 ^ q)) (meetS tv κ i q) (10 * dig + q + 1) st else st) f q st) M' → Q M') → w6_orders_b43 (w_OM dd) Q n M (nI i) (nI left) (nI dig) (nI q) := by
        intro f
        induction f with
        | zero =>
          intro q n M st e2 hn hM h0 hT hst h
          cases n with
          | zero => omega
          | succ n =>
            rw [w6_orders_b43, hM.1, hN]
            exact br_t (nI_le (by omega) (by omega)) (h M QM.rf hst)
        | succ f ihf =>
          intro q n M st e2 hn hM h0 hT hst h
          cases n with
          | zero => omega
          | succ n =>
            rw [w6_orders_b43, hM.1, hN, bitv _ (by omega) q (by omega)]
            rw [orL] at h
            obtain ⟨k1, k2⟩ := msk N (by omega) left hl q (by omega)
            have eb : ((if left.testBit q = true then (1 : Int32) else 0) = 1) ↔ left.testBit q = true := by
              by_cases c : left.testBit q = true
              · rw [if_pos c]; exact ⟨fun _ => c, fun _ => rfl⟩
              · rw [if_neg c]; exact ⟨fun z => absurd z (by decide), fun z => absurd z c⟩
            rw [eb]
            refine br_f (nI_ge (by omega) (by omega)) ⟨fun cq => ?_, fun cq => ?_⟩
            · rw [if_neg cq] at h
              rintro _ rfl
              rw [nI_1]
              exact ihf (q + 1) n M st (by omega) (by omega) hM h0 hT hst h
            · obtain ⟨k3, k4, k5⟩ := k2 cq
              rw [if_pos cq] at h
              have hqi : i ≠ q := fun z => by rw [z] at hli; rw [hli] at cq; cases cq
              refine m_thought2 (d := d) (by omega) h0 hM (fun M1 t1 z1 R1 bk => m_games R1 hI (hT.h1 t1) ht (by omega) (by omega) hqi (fun M2 f2 R2 => ?_))
              have e3 : (10 : Int32) * nI dig + nI q + 1 = nI (10 * dig + q + 1) := by
                rw [r10, nI_1]
              rw [clrv q (by omega) _ (by omega), e3]
              have y2 : ∀ j, 29 ≤ j → j ≤ 31 → M2 0 j = M 0 j := fun j a b => by rw [f2 0 j (by omega) (by omega), t1.1 0 j (by omega) (by omega)]
              refine ih (d + 1) _ (meetS tv κ i q) _ st M2 _ dd (by omega) (by omega) (by omega) k4 (by rw [Nat.testBit_and, hli]; rfl) R2 (by rw [f2 0 28 (by omega) (by omega)]; exact z1) (ic_meet hI (by omega) (by omega) hqi) (by rw [meet_N]; exact hN) ((hT.h1 t1).g f2) (by rw [meet_T]; exact ht) (by
                have := Nat.pow_succ 10 d
                omega) (hst.eq (y2 29 (by omega) (by omega)) (y2 30 (by omega) (by omega))) (fun M3 f3 s3 => ?_)
              refine bk M3 (f2.q.tr f3.g) _ (fun M4 q4 y4 => ?_)
              rintro _ rfl
              rw [nI_1]
              exact ihf (q + 1) n M4 _ (by omega) (by omega) (hM.q hI.1 q4) (q4.zd h0) (hT.q q4.g) (s3.eq (y4 29 (by omega) (by omega)) (y4 30 (by omega) (by omega))) (fun M' f' => h M' (q4.tr f'))
      exact lp N 0 (N + 1) M st (Nat.zero_add _) (Nat.lt_succ_self _) hM h0 hT hst h
/-- the two fields of a search are nobody's -/
theorem Rel.up0 {X' : S0} (h : Rel tv nT κ g X M) (hX : ∀ k, k ≠ 0 → X' k = X k) (h4 : X' 0 4 = X 0 4) : Rel tv nT κ g X' M := by
  have z := h.2.2.2.2.2.2.2.2.2.2.2.2.2.1
  refine h.kept (fun k a _ => hX k a) (fun _ _ _ _ => rfl) ?_
  unfold KeptR at z ⊢
  rw [h4]
  rcases z with z | ⟨κ', a1, a2, a3⟩
  · exact Or.inl z
  · refine Or.inr ⟨κ', a1, ?_, a3⟩
    unfold RelX
    rw [hX 16 (by decide), hX (16 + 1) (by decide), hX (16 + 2) (by decide), hX (16 + 3) (by decide), hX (16 + 4) (by decide), hX (16 + 5) (by decide)]
    exact a2
theorem Rel.keepD {X' M' : S0} (h : Rel tv nT κ g X M) (f : FD 0 X X') (q : QM 0 M M') : Rel tv nT κ g X' M' := by
  have f1 : FT X (fun k => if k = 0 then X 0 else X' k) := fun k a b c => by
    show (if k = 0 then X 0 else X' k) = X k
    by_cases e : k = 0
    · rw [if_pos e, e]
    · rw [if_neg e]; exact f.1 k e a b (by omega)
  refine (h.keep f1 q).up0 (fun k hk => (if_neg hk).symm) (f.2 4 (by decide) (by decide))
theorem op_order (h : Rel tv nT κ g X M) (p1 p2 : Int32) : w5_order g X p1 p2 (fun r X' => w6_order M p1 p2 (fun r' M' => Owes tv nT g r X' r' M')) := by
  have H := h
  obtain ⟨hX, hM, hI, hr, ht, hO⟩ := h
  have i1 := hI.1
  unfold w5_order
  refine x_isPlayer hX.1 i1 ?_
  rw [b01]
  by_cases c : isP (cN κ) p1
  · obtain ⟨i, hi, rfl⟩ := isP_of c (by omega)
    refine br_f (fun z => z c) (x_within ?_)
    rw [b01]
    by_cases c2 : ¬ p2 < 0 ∧ ¬ (1 : Int32) < p2
    · refine s_t (fun z => z c2) ?_
      obtain ⟨k1, k2, k3, k4, k5, k6⟩ := msk0 (cN κ) (by omega) i hi
      rw [k6, ← k4]
      refine ⟨10, Nat.le_refl _, x_orders hi i1 (cN κ - 1) 0 _ 10 κ 0 X _ 10 (by omega) (by omega) (by omega) k2 k3 (Or.inl ⟨rfl, rfl⟩) hX hI rfl hO.1 ht (by decide) (fun X1 f1 => ?_)⟩
      have md : ∀ r : Int32, (∀ M' : S0, QM 0 M M' → stM (orF tv i (cN κ) (cN κ - 1) (2 ^ cN κ - 1 - 2 ^ i) κ 0 none) M' → r = if p2 = 0 then M' 0 29 else M' 0 30) → w6_order M (nI i) p2 (fun r' M' => Owes tv nT g r X1 r' M') := by
        intro r hr'
        unfold w6_order
        refine m_isOne hM.1 i1 ?_
        rw [b01]
        refine br_f (fun z => z c) (m_in32 (b := 0) (c := 1) ?_)
        rw [b01]
        refine s_t (fun z => z c2) ?_
        rintro _ rfl _ rfl
        have q0 : QM 0 M (up (up M 0 29 (-1)) 0 30 0) := (up_q (by decide) (by decide) (by decide)).tr (up_q (by decide) (by decide) (by decide))
        rw [up_j (by decide), up_j (by decide), hM.1, k5]
        refine ⟨10, Nat.le_refl _, m_orders hi i1 (cN κ - 1) 0 _ κ 0 none _ _ 10 (by omega) (by omega) (by omega) k2 k3 (hM.q i1 q0) (q0.zd hO.2.2.2.2.2.2.2.1) hI rfl (hO.2.1.q q0.g) ht (by decide) ⟨by rw [up_j (by decide), up_s], up_s⟩ (fun M1 q1 s2 => ?_)⟩
        have fin : Owes tv nT g r X1 (if p2 = 0 then M1 0 29 else M1 0 30) M1 := ⟨hr' M1 (q0.tr q1) s2, _, H.keepD f1 (q0.tr q1)⟩
        refine ⟨fun z => ?_, fun z => ?_⟩
        · rw [if_neg z] at fin; exact fin
        · rw [if_pos z] at fin; exact fin
      have ne : orF tv i (cN κ) (cN κ - 1) (2 ^ cN κ - 1 - 2 ^ i) κ 0 none ≠ none := or_some tv i (by omega) (cN κ - 1) _ κ 0 none (by omega) k2
      have p5 : (0 + 1) * 10 ^ (cN κ - 1) ≤ 100000 := by
        have : 10 ^ (cN κ - 1) ≤ 10 ^ 5 := Nat.pow_le_pow_right (by decide) (by omega)
        omega
      obtain ⟨b1, b2⟩ := or_bs tv i i1 (cN κ - 1) (2 ^ cN κ - 1 - 2 ^ i) κ 0 none p5 trivial
      have w8 := bgF_le tv i (cN κ) (cN κ - 1) (2 ^ cN κ - 1 - 2 ^ i) κ 0
      generalize bgF tv i (cN κ) (cN κ - 1) (2 ^ cN κ - 1 - 2 ^ i) κ 0 = B at b1 w8 ⊢
      have q1 : nI B / (100000 : Int32) = nI (B / 100000) := nI_div (b := 100000) (by omega) (by decide)
      have q2 : nI B - nI B / (100000 : Int32) * (100000 : Int32) = nI (B % 100000) := nI_mod (b := 100000) (by omega) (by decide)
      have q3 : (99999 : Int32) - nI (B % 100000) = nI (99999 - B % 100000) := nI_sub (a := 99999) (by omega)
      refine ⟨fun z => md _ (fun M' _ s => ?_), fun z => md _ (fun M' _ s => ?_)⟩
      · rw [if_neg z]
        cases e : orF tv i (cN κ) (cN κ - 1) (2 ^ cN κ - 1 - 2 ^ i) κ 0 none with
        | none => exact absurd e ne
        | some st =>
          obtain ⟨m, dg⟩ := st
          rw [e] at s b1 b2
          have b1 : m * 100000 + 99999 - dg = max 0 B := b1
          have b2 : dg < (0 + 1) * 10 ^ (cN κ - 1) := b2
          rw [Nat.max_eq_right (Nat.zero_le B)] at b1
          rw [q1, s.2.1]
          congr 1
          omega
      · rw [if_pos z]
        cases e : orF tv i (cN κ) (cN κ - 1) (2 ^ cN κ - 1 - 2 ^ i) κ 0 none with
        | none => exact absurd e ne
        | some st =>
          obtain ⟨m, dg⟩ := st
          rw [e] at s b1 b2
          have b1 : m * 100000 + 99999 - dg = max 0 B := b1
          have b2 : dg < (0 + 1) * 10 ^ (cN κ - 1) := b2
          rw [Nat.max_eq_right (Nat.zero_le B)] at b1
          rw [q2, q3, s.1]
          congr 1
          omega
    · refine s_f c2 ?_
      unfold w6_order
      refine m_isOne hM.1 i1 ?_
      rw [b01]
      refine br_f (fun z => z c) (m_in32 (b := 0) (c := 1) ?_)
      rw [b01]
      exact s_f c2 ⟨rfl, _, H⟩
  · refine br_t c ?_
    unfold w6_order
    refine m_isOne hM.1 i1 ?_
    rw [b01]
    exact br_t c ⟨rfl, _, H⟩
end ORD
