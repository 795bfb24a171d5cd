/-! numbers and bits -/
/-! ===== Int32 by its bits: bt x i ===== -/
def bt (x : Int32) (i : Nat) : Bool := x.toBitVec.getLsbD i
theorem b_ext {x y : Int32} (h : ∀ i, i < 32 → bt x i = bt y i) : x = y := Int32.toBitVec_inj.mp (BitVec.eq_of_getLsbD_eq (fun i hi => h i hi))
theorem b_or (x y : Int32) (i : Nat) : bt (x ||| y) i = (bt x i || bt y i) := by unfold bt; rw [Int32.toBitVec_or, BitVec.getLsbD_or]
theorem b_and (x y : Int32) (i : Nat) : bt (x &&& y) i = (bt x i && bt y i) := by unfold bt; rw [Int32.toBitVec_and, BitVec.getLsbD_and]
theorem b_xor (x y : Int32) (i : Nat) : bt (x ^^^ y) i = (bt x i ^^ bt y i) := by unfold bt; rw [Int32.toBitVec_xor, BitVec.getLsbD_xor]
theorem b_big {x : Int32} {i : Nat} (h : 32 ≤ i) : bt x i = false := BitVec.getLsbD_of_ge _ _ h
theorem b_255 (i : Nat) : bt 255 i = decide (i < 8) := by
  rcases Nat.lt_or_ge i 32 with h | h
  · exact (by decide +kernel : ∀ i, i < 32 → bt 255 i = decide (i < 8)) i h
  · rw [b_big h, decide_eq_false (by omega)]
theorem b_65535 (i : Nat) : bt 65535 i = decide (i < 16) := by
  rcases Nat.lt_or_ge i 32 with h | h
  · exact (by decide +kernel : ∀ i, i < 32 → bt 65535 i = decide (i < 16)) i h
  · rw [b_big h, decide_eq_false (by omega)]
theorem b_m1 : ∀ i, i < 32 → bt (-1) i = true := by decide +kernel
theorem b_0 (i : Nat) : bt 0 i = false := BitVec.getLsbD_zero
theorem s_l : ∀ n, n < 32 → ((nI n &&& 31).toBitVec.smod 32).toNat = n := by decide +kernel
theorem s_u : ∀ n, n < 32 → (((nI n).toUInt32 &&& Int32.toUInt32 31).toBitVec % 32).toNat = n := by decide +kernel
theorem b_shl (n : Nat) (hn : n < 32) (x : Int32) {i : Nat} (hi : i < 32) : bt (x <<< (nI n &&& 31)) i = (decide (n ≤ i) && bt x (i - n)) := by
  unfold bt
  rw [Int32.toBitVec_shiftLeft]
  show (x.toBitVec <<< ((nI n &&& 31).toBitVec.smod 32).toNat).getLsbD i = _
  rw [s_l n hn, BitVec.getLsbD_shiftLeft]
  rcases Nat.lt_or_ge i n with h | h
  · simp [h, Nat.not_le.mpr h]
  · simp [hi, h, Nat.not_lt.mpr h]
theorem b_ushr (n : Nat) (hn : n < 32) (x : Int32) (i : Nat) : bt ((x.toUInt32 >>> ((nI n).toUInt32 &&& Int32.toUInt32 31)).toInt32) i = bt x (n + i) := by
  show (x.toUInt32 >>> ((nI n).toUInt32 &&& Int32.toUInt32 31)).toBitVec.getLsbD i = x.toUInt32.toBitVec.getLsbD (n + i)
  rw [UInt32.toBitVec_shiftRight]
  show (x.toUInt32.toBitVec >>> (((nI n).toUInt32 &&& Int32.toUInt32 31).toBitVec % 32).toNat).getLsbD i = _
  rw [s_u n hn, BitVec.getLsbD_ushiftRight]
theorem b_sshr (n : Nat) (hn : n < 32) (x : Int32) {i : Nat} (hi : i < 32) : bt (x >>> (nI n &&& 31)) i = if n + i < 32 then bt x (n + i) else bt x 31 := by
  unfold bt
  rw [Int32.toBitVec_shiftRight]
  show (x.toBitVec.sshiftRight ((nI n &&& 31).toBitVec.smod 32).toNat).getLsbD i = _
  rw [s_l n hn, BitVec.getLsbD_sshiftRight, BitVec.msb_eq_getLsbD_last]
  simp [hi]
theorem b_shl8 (x : Int32) {i : Nat} (hi : i < 32) : bt (x <<< ((8 : Int32) &&& 31)) i = (decide (8 ≤ i) && bt x (i - 8)) := b_shl 8 (by omega) x hi
theorem b_shl16 (x : Int32) {i : Nat} (hi : i < 32) : bt (x <<< ((16 : Int32) &&& 31)) i = (decide (16 ≤ i) && bt x (i - 16)) := b_shl 16 (by omega) x hi
theorem b_shl24 (x : Int32) {i : Nat} (hi : i < 32) : bt (x <<< ((24 : Int32) &&& 31)) i = (decide (24 ≤ i) && bt x (i - 24)) := b_shl 24 (by omega) x hi
theorem b_sshr8 (x : Int32) {i : Nat} (hi : i < 32) : bt (x >>> ((8 : Int32) &&& 31)) i = if 8 + i < 32 then bt x (8 + i) else bt x 31 := b_sshr 8 (by omega) x hi
/-! ===== nI under and, xor, >>>, one bit, 65535 ===== -/
theorem nx_and (a b : Nat) : nI a &&& nI b = nI (a &&& b) := by
  apply Int32.toBitVec_inj.1
  show BitVec.ofNat 32 a &&& BitVec.ofNat 32 b = BitVec.ofNat 32 (a &&& b)
  apply BitVec.eq_of_getLsbD_eq
  intro i hi
  simp [hi]
theorem nx_xor (a b : Nat) : nI a ^^^ nI b = nI (a ^^^ b) := by
  apply Int32.toBitVec_inj.1
  show BitVec.ofNat 32 a ^^^ BitVec.ofNat 32 b = BitVec.ofNat 32 (a ^^^ b)
  apply BitVec.eq_of_getLsbD_eq
  intro i hi
  simp [hi]
theorem nx_or (a b : Nat) : nI a ||| nI b = nI (a ||| b) := by
  apply Int32.toBitVec_inj.1
  show BitVec.ofNat 32 a ||| BitVec.ofNat 32 b = BitVec.ofNat 32 (a ||| b)
  apply BitVec.eq_of_getLsbD_eq
  intro i hi
  simp [hi]
theorem nI_mul (a b : Nat) : nI a * nI b = nI (a * b) := (Int32.ofNat_mul a b).symm
theorem nI_sub {a b : Nat} (h : b ≤ a) : nI a - nI b = nI (a - b) := by
  have e : nI a = nI (a - b) + nI b := by rw [nI_add]; congr 1; omega
  rw [e]; exact Int32.add_sub_cancel _ _
theorem s_t {c A B : Prop} (h : ¬ c) (k : A) : (¬ c → A) ∧ (c → B) := ⟨fun _ => k, fun z => absurd z h⟩
theorem s_f {c A B : Prop} (h : c) (k : B) : (¬ c → A) ∧ (c → B) := ⟨fun z => absurd h z, fun _ => k⟩
/-- how many bits: the JDK's way -/
def bcF (p1 : Int32) : Int32 :=
  let x1 := p1 - (((Int32.toUInt32 p1 >>> (Int32.toUInt32 (1 : Int32) &&& Int32.toUInt32 31)).toInt32) &&& (1431655765 : Int32))
  let x2 := (x1 &&& (858993459 : Int32)) + (((Int32.toUInt32 x1 >>> (Int32.toUInt32 (2 : Int32) &&& Int32.toUInt32 31)).toInt32) &&& (858993459 : Int32))
  let x3 := (x2 + ((Int32.toUInt32 x2 >>> (Int32.toUInt32 (4 : Int32) &&& Int32.toUInt32 31)).toInt32)) &&& (252645135 : Int32)
  let x4 := x3 + ((Int32.toUInt32 x3 >>> (Int32.toUInt32 (8 : Int32) &&& Int32.toUInt32 31)).toInt32)
  let x5 := x4 + ((Int32.toUInt32 x4 >>> (Int32.toUInt32 (16 : Int32) &&& Int32.toUInt32 31)).toInt32)
  x5 &&& (63 : Int32)
def pc8 (n : Nat) : Nat := (n.testBit 0).toNat + (n.testBit 1).toNat + (n.testBit 2).toNat + (n.testBit 3).toNat + (n.testBit 4).toNat + (n.testBit 5).toNat + (n.testBit 6).toNat + (n.testBit 7).toNat
theorem bcF_pc : ∀ n, n < 256 → bcF (nI n) = nI (pc8 n) := by decide +kernel
theorem pc8_le (n : Nat) : pc8 n ≤ 8 := by
  unfold pc8
  have h : ∀ b : Bool, b.toNat ≤ 1 := by decide
  have := h (n.testBit 0); have := h (n.testBit 1); have := h (n.testBit 2); have := h (n.testBit 3)
  have := h (n.testBit 4); have := h (n.testBit 5); have := h (n.testBit 6); have := h (n.testBit 7)
  omega
theorem pc8_or {a b : Nat} (h : a &&& b = 0) : pc8 (a ||| b) = pc8 a + pc8 b := by
  have k : ∀ i, (a.testBit i || b.testBit i).toNat = (a.testBit i).toNat + (b.testBit i).toNat := by
    intro i
    have e : (a &&& b).testBit i = false := by rw [h]; simp
    rw [Nat.testBit_and] at e
    revert e
    cases a.testBit i <;> cases b.testBit i <;> simp
  simp only [pc8, Nat.testBit_or, k]
  omega
theorem pc8_0 : pc8 0 = 0 := by decide
theorem pc8_z : ∀ n, n < 256 → (pc8 n = 0 ↔ n = 0) := by decide +kernel
theorem pc8_8 : ∀ n, n < 256 → (pc8 n = 8 ↔ n = 255) := by decide +kernel
theorem kern1 : ∀ n, n < 256 → n ≠ 0 → (nI n &&& (nI n - 1) = nI (n &&& (n - 1)) ∧ n &&& (n - 1) < n ∧ pc8 (n &&& (n - 1)) + 1 = pc8 n) := by decide +kernel
theorem or_lt {a b : Nat} (ha : a < 256) (hb : b < 256) : a ||| b < 256 := Nat.or_lt_two_pow (n := 8) ha hb
theorem or_dis {a b c : Nat} (h1 : a &&& c = 0) (h2 : b &&& c = 0) : (a ||| b) &&& c = 0 := by
  apply Nat.eq_of_testBit_eq
  intro i
  have e1 : (a &&& c).testBit i = false := by rw [h1]; simp
  have e2 : (b &&& c).testBit i = false := by rw [h2]; simp
  rw [Nat.testBit_and] at e1 e2
  rw [Nat.testBit_and, Nat.testBit_or, Nat.zero_testBit]
  revert e1 e2
  cases a.testBit i <;> cases b.testBit i <;> cases c.testBit i <;> simp
theorem land_c {a b : Nat} (h : a &&& b = 0) : b &&& a = 0 := by rw [Nat.and_comm]; exact h
/-- a number within bounds -/
def bnd (v lo hi : Int32) : Int32 := if v < lo then lo else if hi < v then hi else v
theorem r4_0 (p : Nat) : (4 : Int32) * nI p = nI (4 * p) := nI_mul 4 p
theorem r4_k (p k : Nat) : (4 : Int32) * nI p + nI k = nI (4 * p + k) := by rw [r4_0, nI_add]
theorem cl0 : Int32.toNatClampNeg (0 : Int32) = 0 := by decide
theorem cl1 : Int32.toNatClampNeg (1 : Int32) = 1 := by decide
theorem cl2 : Int32.toNatClampNeg (2 : Int32) = 2 := by decide
theorem cl3 : Int32.toNatClampNeg (3 : Int32) = 3 := by decide
theorem cl4 : Int32.toNatClampNeg (4 : Int32) = 4 := by decide
theorem cl5 : Int32.toNatClampNeg (5 : Int32) = 5 := by decide
theorem vpl (k N : Nat) (h : k < N) (hN : N < 2 ^ 31) : vp_in (nI k) N := vp_in_nI h hN
/-- of one of n -/
abbrev isP (n : Nat) (p : Int32) : Prop := ¬ p < 0 ∧ p < nI n

theorem isP_of {n : Nat} {p : Int32} (h : isP n p) (hn : n < 2 ^ 31) : ∃ i, i < n ∧ p = nI i := by
  obtain ⟨j, hj, rfl⟩ := nI_of h.1
  exact ⟨j, (nI_ltI hj hn).mp h.2, rfl⟩
theorem isP_nI {n i : Nat} (h : i < n) (hn : n < 2 ^ 31) : isP n (nI i) := ⟨nI_pos (by omega), nI_lt h hn⟩
