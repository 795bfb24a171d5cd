def lw_gd : List Cond := lw_tbl.filter goodWord
theorem lw_allGood : lw_gd.all goodWord = true := by
  simp [lw_gd]
theorem gdm {w : Cond} (i : Nat) (h : lw_tbl[i]? = some w) (hg : goodWord w = true) : w ∈ lw_gd := List.mem_filter.mpr ⟨List.mem_of_getElem? h, hg⟩
theorem gd_in {w : Cond} (h : w ∈ lw_gd) : w ∈ lw_tbl := (List.mem_filter.mp h).1

/-! V: one judgement for a method's walk over a world that is a function of a plain memory M (cell, slot -> int) -/
abbrev S0 : Type := Nat → Nat → Int32
def up (M : S0) (k j : Nat) (x : Int32) : S0 := fun k' j' => if k' = k ∧ j' = j then x else M k' j'
/-- a world: n cells at the addresses a, of shapes sh -/
def wl (n : Nat) (a : Nat → Nat) (sh : Nat → (Nat → Int32) → va_E) (M : S0) : va_W := (List.range n).map fun k => (a k, sh k (M k))
theorem wl_get {n : Nat} {a : Nat → Nat} {sh : Nat → (Nat → Int32) → va_E} {M : S0} {k : Nat} (hk : k < n) : (wl n a sh M)[k]? = some (a k, sh k (M k)) := by
  simp [wl, List.getElem?_map, List.getElem?_range hk]
theorem up_row (M : S0) (k j : Nat) (x : Int32) : up M k j x k = upd (M k) j x := by
  funext j'; simp [up, upd]
theorem up_ne (M : S0) {k j k' : Nat} (x : Int32) (h : k' ≠ k) : up M k j x k' = M k' := by
  funext j'; simp [up, h]
theorem wl_set {n : Nat} {a : Nat → Nat} {sh : Nat → (Nat → Int32) → va_E} {M : S0} {k j : Nat} {x : Int32} : (wl n a sh M).set k (a k, sh k (upd (M k) j x)) = wl n a sh (up M k j x) := by
  apply List.ext_getElem?
  intro i
  by_cases hi : i < n
  · by_cases e : i = k
    · subst e
      rw [List.getElem?_set_self (by simp [wl, hi]), wl_get hi, up_row]
    · rw [List.getElem?_set_ne (fun h => e h.symm), wl_get hi, wl_get hi, up_ne _ _ e]
  · rw [List.getElem?_eq_none (by simp [wl]; omega), List.getElem?_eq_none (by simp [wl]; omega)]
/-- a row copied into another -/
def upR (M : S0) (k : Nat) (f : Nat → Int32) : S0 := fun k' => if k' = k then f else M k'
theorem wl_setR {n : Nat} {a : Nat → Nat} {sh : Nat → (Nat → Int32) → va_E} {M : S0} {k : Nat} {f : Nat → Int32} : (wl n a sh M).set k (a k, sh k f) = wl n a sh (upR M k f) := by
  apply List.ext_getElem?
  intro i
  by_cases hi : i < n
  · by_cases e : i = k
    · subst e
      rw [List.getElem?_set_self (by simp [wl, hi]), wl_get hi]; simp [upR]
    · rw [List.getElem?_set_ne (fun h => e h.symm), wl_get hi, wl_get hi]; simp [upR, e]
  · rw [List.getElem?_eq_none (by simp [wl]; omega), List.getElem?_eq_none (by simp [wl]; omega)]
/-- longs in two ints -/
def j64 (lo hi : Int32) : Int64 := Int64.ofBitVec (hi.toBitVec ++ lo.toBitVec)
def lo64 (v : Int64) : Int32 := Int32.ofBitVec (v.toBitVec.extractLsb' 0 32)
def hi64 (v : Int64) : Int32 := Int32.ofBitVec (v.toBitVec.extractLsb' 32 32)
theorem j64_lohi (v : Int64) : j64 (lo64 v) (hi64 v) = v := by
  apply Int64.toBitVec_inj.mp
  show (v.toBitVec.extractLsb' 32 32) ++ (v.toBitVec.extractLsb' 0 32) = v.toBitVec
  apply BitVec.eq_of_getLsbD_eq
  intro i hi
  rw [BitVec.getLsbD_append]
  by_cases h : i < 32
  · simp [h, BitVec.getLsbD_extractLsb']
  · simp [h, BitVec.getLsbD_extractLsb']
    have e : 32 + (i - 32) = i := by omega
    rw [e]
    have e2 : i - 32 < 32 := by omega
    simp [e2]
abbrev BX : Type := va_G × (Nat → ClassId) × (Nat → Nat) × (Nat → Nat)
abbrev cls7 : List vw_C := [(RX0, TX0, 10), (RX1, TX1, 9), (RX2, TX2, 3), (RX3, TX3, 2), (RX4, TX4, 4), (RX5, TX5, 8), (RX6, TX6, 41)]
def tyk (K : Nat → ClassId) : List (ClassId × FieldType) := [(K 0, .int), (K 1, .boolean), (K 2, .object RX0), (K 3, .object RX2), (K 4, .object RX3)]
/-- the literals: whose, which entry, text, bytes -/
def sWho : List (String × Nat × String × List Int32) := [(RX5, 23, "plays strong ; throws has < 1 ; tires 1 ;", [112, 108, 97, 121, 115, 32, 115, 116, 114, 111, 110, 103, 32, 59, 32, 116, 104, 114, 111, 119, 115, 32, 104, 97, 115, 32, 60, 32, 49, 32, 59, 32, 116, 105, 114, 101, 115, 32, 49, 32, 59]), (RX1, 127, "plays", [112, 108, 97, 121, 115]), (RX1, 133, "throws", [116, 104, 114, 111, 119, 115]), (RX1, 135, "tires", [116, 105, 114, 101, 115]), (RX1, 137, "or", [111, 114]), (RX1, 139, "and", [97, 110, 100]), (RX1, 141, "not", [110, 111, 116]), (RX1, 143, "strong", [115, 116, 114, 111, 110, 103]), (RX1, 145, "has", [104, 97, 115]), (RX1, 147, "number", [110, 117, 109, 98, 101, 114]), (RX1, 149, "theirs", [116, 104, 101, 105, 114, 115]), (RX1, 151, "round", [114, 111, 117, 110, 100]), (RX1, 153, "stake", [115, 116, 97, 107, 101])]
def sLen : List Nat := sWho.map fun q => q.2.2.2.length
def sByt : List (List Int32) := sWho.map fun q => q.2.2.2
def nest7 : List (String × Nat × MethodName) := [(RX5, 9, yX4_init), (RX5, 18, yX1_init), (RX1, 73, yX5_bounded), (RX5, 62, yX2_init), (RX0, 44, yX5_isWithin), (RX0, 82, yX5_bounded), (RX2, 22, yX5_bounded)]
def SF (B : BX) (A : Nat → Prop) (U : State) (H : Heap) : Prop := vk_S 13 sLen sByt B.2.2.1 B.2.2.2 A U H ∧ (∀ (i : Nat) (q : String × Nat × String × List Int32), sWho[i]? = some q → vk_R q.1 q.2.1 q.2.2.1 (B.2.2.1 i) U) ∧ va_Z "java/lang/String" "COMPACT_STRINGS" "Z" (.int 1) A U H ∧ va_Zq "jdk/internal/util/Preconditions" "SIOOBE_FORMATTER" "Ljava/util/function/BiFunction;" A U H ∧ ∀ q ∈ nest7, va_Nw (.methodLinkNest q.1 q.2.1 q.2.2 RX5) U
theorem SF.warm {B : BX} {A : Nat → Prop} {s U : State} {H : Heap} (h : SF B A s H) (hW : s.WarmedH U.vm) : SF B A U H := ⟨h.1.moved hW.alike, fun i q hq => (h.2.1 i q hq).warm hW, h.2.2.1.moved hW.alike, h.2.2.2.1.moved hW.alike, fun q hq => va_Nw.warmM hW (h.2.2.2.2 q hq)⟩
theorem SF.kept {B : BX} {A : Nat → Prop} {s : State} {H H1 : Heap} (h : SF B A s H) (hq : ∀ a : Nat, a < H.size → ¬ A a → H1[a]? = H[a]?) : SF B A s H1 := ⟨h.1.kept hq, h.2.1, h.2.2.1.kept hq, h.2.2.2.1.kept hq, h.2.2.2.2⟩
theorem SF.narrow {B : BX} {A A' : Nat → Prop} {s : State} {H : Heap} (h : SF B A s H) (hq : ∀ q, A' q → A q) : SF B A' s H := ⟨h.1.narrow hq, h.2.1, h.2.2.1.narrow hq, h.2.2.2.1.narrow hq, h.2.2.2.2⟩
abbrev EX : Type := Program × Launch × Env × Room × State × MethodId × Array Value × List Frame × Method × Code × (Nat → Prop) × (State → Prop) × Nat × Nat
def V (B : BX) (E : EX) (nL : Nat) (w : va_W) (pc : Nat) (lv : List (Nat × Value)) (st : List Value) : Prop :=
  match E with
  | (p, l, e, R, s, m, args, below, meth, c, A, Z, k9, n9) => ∀ (H : Heap) (locs : List Loc) (ls : Array Slot), va_P B.1 cls7 w H → va_D A w → va_S A s.heap H locs → lv_has ls nL lv → W p l e R s m args below meth c H locs k9 n9 Z (F0 m pc ls st)
def Ok (B : BX) (E : EX) (cc : ByteArray) (nL : Nat) (own : String) (fr lo : Nat) : Prop :=
  match E with
  | (p, _, _, R, s, m, args, _, meth, c, A, _, k9, n9) => p.tables.exec = Jvm.exec ∧ c.code = cc ∧ c.maxLocals = nL ∧ s.vm.findClass own = some m.cls ∧ (∀ w ∈ lw_gd, w.before args s = true) ∧ va_K B.1 cls7 (tyk B.2.1) s ∧ (∀ q, s.heap.size ≤ q → A q) ∧ meth.locks = false ∧ fr ≤ R.frames ∧ lo ≤ R.locals ∧ SF B A s s.heap ∧ k9 ≤ R.cells ∧ n9 ≤ R.slots
/-- so many cells and slots more are new -/
def bmp (E : EX) (dk dn : Nat) : EX := match E with
  | (p, l, e, R, s, m, args, below, meth, c, A, Z, k9, n9) => (p, l, e, R, s, m, args, below, meth, c, A, Z, k9 + dk, n9 + dn)
def ceC (E : EX) : Nat := E.2.2.2.2.2.2.2.2.2.2.2.2.1
def ceS (E : EX) : Nat := E.2.2.2.2.2.2.2.2.2.2.2.2.2
def rmC (E : EX) : Nat := E.2.2.2.1.cells
def rmS (E : EX) : Nat := E.2.2.2.1.slots
def Pw (B : BX) (w : va_W) (sz : Nat) (U : State) : Prop := U.heap.size = sz ∧ va_P B.1 cls7 w U.heap ∧ va_K B.1 cls7 (tyk B.2.1) U ∧ va_D (fun _ => True) w ∧ SF B (va_A w sz) U U.heap
def Bw (B : BX) (A : Nat → Prop) (w : va_W) (t : State) : Prop := va_P B.1 cls7 w t.heap ∧ va_K B.1 cls7 (tyk B.2.1) t ∧ va_D A w
def rmm (fr lo : Nat) : Room := { frames := fr, cells := 0, slots := 0, locals := lo }
theorem Pw_blind {B : BX} {w : va_W} {sz : Nat} {av : List Value} : FrameBlind (va_Pc av (Pw B w sz)) := fun a U g mk q => by
  obtain ⟨q0, q1, qP, qK, qD, qS, qR, qZ, qY, qN⟩ := q
  exact ⟨q0, q1, qP, va_K.moved (u := U) (U := U.calling g mk a) (Vm.Alike.refl U.vm) qK, qD, qS.moved (Vm.Alike.refl U.vm), fun i q hq => (qR i q hq).same (u := U) rfl, va_Z.moved (u := U) (U := U.calling g mk a) (Vm.Alike.refl U.vm) qZ, va_Zq.moved (u := U) (U := U.calling g mk a) (Vm.Alike.refl U.vm) qY, fun z hz => va_Nw.same rfl rfl (qN z hz)⟩
def RetI (B : BX) (E : EX) (cc : ByteArray) (nL : Nat) (wf : S0 → va_W) (Q : Int32 → S0 → Prop) : Prop := ∀ (v : Int32) (M : S0) (pc : Nat) (lv : List (Nat × Value)), Q v M → decode cc pc = .ok (.ireturn, 1) → V B E nL (wf M) pc lv [.int v]
def RetZ (B : BX) (E : EX) (cc : ByteArray) (nL : Nat) (wf : S0 → va_W) (ty : FieldType) (Q : Int32 → S0 → Prop) : Prop := ∀ (v : Int32) (M : S0) (pc : Nat) (lv : List (Nat × Value)), narrow ty (.int v) = .int v → Q v M → decode cc pc = .ok (.ireturn, 1) → V B E nL (wf M) pc lv [.int v]
def RetL (B : BX) (E : EX) (cc : ByteArray) (nL : Nat) (wf : S0 → va_W) (Q : Int64 → S0 → Prop) : Prop := ∀ (v : Int64) (M : S0) (pc : Nat) (lv : List (Nat × Value)), Q v M → decode cc pc = .ok (.lreturn, 1) → V B E nL (wf M) pc lv [.long v]
def RetV (B : BX) (E : EX) (cc : ByteArray) (nL : Nat) (wf : S0 → va_W) (Q : S0 → Prop) : Prop := ∀ (M : S0) (pc : Nat) (lv : List (Nat × Value)), Q M → decode cc pc = .ok (.return_, 1) → V B E nL (wf M) pc lv []
def RetA (B : BX) (E : EX) (cc : ByteArray) (nL : Nat) (wf : S0 → va_W) (a : Nat → Nat) (Q : Option Nat → S0 → Prop) : Prop := ∀ (o : Option Nat) (v : Value) (M : S0) (pc : Nat) (lv : List (Nat × Value)), v = va_rf (o.map a) → Q o M → decode cc pc = .ok (.areturn, 1) → V B E nL (wf M) pc lv [v]
/-- contracts: answer an int (or narrower), a long, nothing, a reference of the world or null -/
def KI (B : BX) (wf : S0 → va_W) (y : MethodName) (cc : ByteArray) (maxL : Nat) (ret : Option FieldType) (fr lo : Nat) (av : List Value) (M : S0) (Q : Int32 → S0 → Prop) : Prop :=
  ∀ (l : Launch) (sz : Nat), Met l y (.code y cc maxL ret :: lw_gd) (rmm fr lo) (va_Pc av (Pw B (wf M) sz)) (va_Qi Q (fun M1 t => Bw B (va_A (wf M) sz) (wf M1) t) (va_A (wf M) sz)) 0 0 (va_A (wf M) sz)
def KL (B : BX) (wf : S0 → va_W) (y : MethodName) (cc : ByteArray) (maxL : Nat) (ret : Option FieldType) (fr lo : Nat) (av : List Value) (M : S0) (Q : Int64 → S0 → Prop) : Prop :=
  ∀ (l : Launch) (sz : Nat), Met l y (.code y cc maxL ret :: lw_gd) (rmm fr lo) (va_Pc av (Pw B (wf M) sz)) (va_Ql Q (fun M1 t => Bw B (va_A (wf M) sz) (wf M1) t) (va_A (wf M) sz)) 0 0 (va_A (wf M) sz)
def KV (B : BX) (wf : S0 → va_W) (y : MethodName) (cc : ByteArray) (maxL : Nat) (ret : Option FieldType) (fr lo : Nat) (av : List Value) (M : S0) (Q : S0 → Prop) : Prop :=
  ∀ (l : Launch) (sz : Nat), Met l y (.code y cc maxL ret :: lw_gd) (rmm fr lo) (va_Pc av (Pw B (wf M) sz)) (va_Qv Q (fun M1 t => Bw B (va_A (wf M) sz) (wf M1) t) (va_A (wf M) sz)) 0 0 (va_A (wf M) sz)
def KA (B : BX) (wf : S0 → va_W) (a : Nat → Nat) (y : MethodName) (cc : ByteArray) (maxL : Nat) (ret : Option FieldType) (fr lo : Nat) (av : List Value) (M : S0) (Q : Option Nat → S0 → Prop) : Prop :=
  ∀ (l : Launch) (sz : Nat), Met l y (.code y cc maxL ret :: lw_gd) (rmm fr lo) (va_Pc av (Pw B (wf M) sz)) (va_Qq (fun r M1 => ∃ o : Option Nat, r = o.map a ∧ Q o M1) (fun M1 t => Bw B (va_A (wf M) sz) (wf M1) t) (va_A (wf M) sz)) 0 0 (va_A (wf M) sz)
section VROWS
variable {B : BX} {E : EX} {cc : ByteArray} {nL : Nat} {own : String} {fr lo : Nat} {w : va_W} {pc : Nat} {lv : List (Nat × Value)} {st : List Value}
theorem v_iadd (C : Ok B E cc nL own fr lo) {x y : Int32} (hd : decode cc pc = .ok (.iadd, 1))  (k : V B E nL w (pc + 1) lv (.int (x + y) :: st)) : V B E nL w pc lv (.int y :: .int x :: st) := by
  obtain ⟨p, l, e, R, s, m, args, below, meth, c, A, Z, k9, n9⟩ := E
  exact fun H locs ls hP hD hS hl => lv_iadd C.1 C.2.1 hd (k H locs ls hP hD hS hl)
theorem v_isub (C : Ok B E cc nL own fr lo) {x y : Int32} (hd : decode cc pc = .ok (.isub, 1))  (k : V B E nL w (pc + 1) lv (.int (x - y) :: st)) : V B E nL w pc lv (.int y :: .int x :: st) := by
  obtain ⟨p, l, e, R, s, m, args, below, meth, c, A, Z, k9, n9⟩ := E
  exact fun H locs ls hP hD hS hl => lv_isub C.1 C.2.1 hd (k H locs ls hP hD hS hl)
theorem v_imul (C : Ok B E cc nL own fr lo) {x y : Int32} (hd : decode cc pc = .ok (.imul, 1))  (k : V B E nL w (pc + 1) lv (.int (x * y) :: st)) : V B E nL w pc lv (.int y :: .int x :: st) := by
  obtain ⟨p, l, e, R, s, m, args, below, meth, c, A, Z, k9, n9⟩ := E
  exact fun H locs ls hP hD hS hl => lv_imul C.1 C.2.1 hd (k H locs ls hP hD hS hl)
theorem v_iand (C : Ok B E cc nL own fr lo) {x y : Int32} (hd : decode cc pc = .ok (.iand, 1))  (k : V B E nL w (pc + 1) lv (.int (x &&& y) :: st)) : V B E nL w pc lv (.int y :: .int x :: st) := by
  obtain ⟨p, l, e, R, s, m, args, below, meth, c, A, Z, k9, n9⟩ := E
  exact fun H locs ls hP hD hS hl => lv_iand C.1 C.2.1 hd (k H locs ls hP hD hS hl)
theorem v_ior (C : Ok B E cc nL own fr lo) {x y : Int32} (hd : decode cc pc = .ok (.ior, 1))  (k : V B E nL w (pc + 1) lv (.int (x ||| y) :: st)) : V B E nL w pc lv (.int y :: .int x :: st) := by
  obtain ⟨p, l, e, R, s, m, args, below, meth, c, A, Z, k9, n9⟩ := E
  exact fun H locs ls hP hD hS hl => lv_ior C.1 C.2.1 hd (k H locs ls hP hD hS hl)
theorem v_ixor (C : Ok B E cc nL own fr lo) {x y : Int32} (hd : decode cc pc = .ok (.ixor, 1))  (k : V B E nL w (pc + 1) lv (.int (x ^^^ y) :: st)) : V B E nL w pc lv (.int y :: .int x :: st) := by
  obtain ⟨p, l, e, R, s, m, args, below, meth, c, A, Z, k9, n9⟩ := E
  exact fun H locs ls hP hD hS hl => lv_ixor C.1 C.2.1 hd (k H locs ls hP hD hS hl)
theorem v_ishl (C : Ok B E cc nL own fr lo) {x y : Int32} (hd : decode cc pc = .ok (.ishl, 1))  (k : V B E nL w (pc + 1) lv (.int (x <<< (y &&& 31)) :: st)) : V B E nL w pc lv (.int y :: .int x :: st) := by
  obtain ⟨p, l, e, R, s, m, args, below, meth, c, A, Z, k9, n9⟩ := E
  exact fun H locs ls hP hD hS hl => lv_ishl C.1 C.2.1 hd (k H locs ls hP hD hS hl)
theorem v_ishr (C : Ok B E cc nL own fr lo) {x y : Int32} (hd : decode cc pc = .ok (.ishr, 1))  (k : V B E nL w (pc + 1) lv (.int (x >>> (y &&& 31)) :: st)) : V B E nL w pc lv (.int y :: .int x :: st) := by
  obtain ⟨p, l, e, R, s, m, args, below, meth, c, A, Z, k9, n9⟩ := E
  exact fun H locs ls hP hD hS hl => lv_ishr C.1 C.2.1 hd (k H locs ls hP hD hS hl)
theorem v_iushr (C : Ok B E cc nL own fr lo) {x y : Int32} (hd : decode cc pc = .ok (.iushr, 1))  (k : V B E nL w (pc + 1) lv (.int ((x.toUInt32 >>> (y.toUInt32 &&& Int32.toUInt32 31)).toInt32) :: st)) : V B E nL w pc lv (.int y :: .int x :: st) := by
  obtain ⟨p, l, e, R, s, m, args, below, meth, c, A, Z, k9, n9⟩ := E
  exact fun H locs ls hP hD hS hl => lv_iushr C.1 C.2.1 hd rfl (k H locs ls hP hD hS hl)
theorem v_idiv (C : Ok B E cc nL own fr lo) {x y : Int32} (hd : decode cc pc = .ok (.idiv, 1)) (hne : ¬ y = 0) (k : V B E nL w (pc + 1) lv (.int (x / y) :: st)) : V B E nL w pc lv (.int y :: .int x :: st) := by
  obtain ⟨p, l, e, R, s, m, args, below, meth, c, A, Z, k9, n9⟩ := E
  exact fun H locs ls hP hD hS hl => lv_idiv C.1 C.2.1 hd hne (k H locs ls hP hD hS hl)
theorem v_irem (C : Ok B E cc nL own fr lo) {x y : Int32} (hd : decode cc pc = .ok (.irem, 1)) (hne : ¬ y = 0) (k : V B E nL w (pc + 1) lv (.int (x - x / y * y) :: st)) : V B E nL w pc lv (.int y :: .int x :: st) := by
  obtain ⟨p, l, e, R, s, m, args, below, meth, c, A, Z, k9, n9⟩ := E
  exact fun H locs ls hP hD hS hl => lv_irem C.1 C.2.1 hd hne (k H locs ls hP hD hS hl)
theorem v_ineg (C : Ok B E cc nL own fr lo) {x : Int32} (hd : decode cc pc = .ok (.ineg, 1))  (k : V B E nL w (pc + 1) lv (.int (-x) :: st)) : V B E nL w pc lv (.int x :: st) := by
  obtain ⟨p, l, e, R, s, m, args, below, meth, c, A, Z, k9, n9⟩ := E
  exact fun H locs ls hP hD hS hl => lv_ineg C.1 C.2.1 hd (k H locs ls hP hD hS hl)
theorem v_ladd (C : Ok B E cc nL own fr lo) {x y : Int64} (hd : decode cc pc = .ok (.ladd, 1))  (k : V B E nL w (pc + 1) lv (.long (x + y) :: st)) : V B E nL w pc lv (.long y :: .long x :: st) := by
  obtain ⟨p, l, e, R, s, m, args, below, meth, c, A, Z, k9, n9⟩ := E
  exact fun H locs ls hP hD hS hl => lv_ladd C.1 C.2.1 hd (k H locs ls hP hD hS hl)
theorem v_lsub (C : Ok B E cc nL own fr lo) {x y : Int64} (hd : decode cc pc = .ok (.lsub, 1))  (k : V B E nL w (pc + 1) lv (.long (x - y) :: st)) : V B E nL w pc lv (.long y :: .long x :: st) := by
  obtain ⟨p, l, e, R, s, m, args, below, meth, c, A, Z, k9, n9⟩ := E
  exact fun H locs ls hP hD hS hl => lv_lsub C.1 C.2.1 hd (k H locs ls hP hD hS hl)
theorem v_lmul (C : Ok B E cc nL own fr lo) {x y : Int64} (hd : decode cc pc = .ok (.lmul, 1))  (k : V B E nL w (pc + 1) lv (.long (x * y) :: st)) : V B E nL w pc lv (.long y :: .long x :: st) := by
  obtain ⟨p, l, e, R, s, m, args, below, meth, c, A, Z, k9, n9⟩ := E
  exact fun H locs ls hP hD hS hl => lv_lmul C.1 C.2.1 hd (k H locs ls hP hD hS hl)
theorem v_ldiv (C : Ok B E cc nL own fr lo) {x y : Int64} (hd : decode cc pc = .ok (.ldiv, 1)) (hne : ¬ y = 0) (k : V B E nL w (pc + 1) lv (.long (x / y) :: st)) : V B E nL w pc lv (.long y :: .long x :: st) := by
  obtain ⟨p, l, e, R, s, m, args, below, meth, c, A, Z, k9, n9⟩ := E
  exact fun H locs ls hP hD hS hl => lv_ldiv C.1 C.2.1 hd hne (k H locs ls hP hD hS hl)
theorem v_lrem (C : Ok B E cc nL own fr lo) {x y : Int64} (hd : decode cc pc = .ok (.lrem, 1)) (hne : ¬ y = 0) (k : V B E nL w (pc + 1) lv (.long (x - x / y * y) :: st)) : V B E nL w pc lv (.long y :: .long x :: st) := by
  obtain ⟨p, l, e, R, s, m, args, below, meth, c, A, Z, k9, n9⟩ := E
  exact fun H locs ls hP hD hS hl => lv_lrem C.1 C.2.1 hd hne (k H locs ls hP hD hS hl)
theorem v_lcmp (C : Ok B E cc nL own fr lo) {x y : Int64} (hd : decode cc pc = .ok (.lcmp, 1))  (k : V B E nL w (pc + 1) lv (.int (lg_cmp x y) :: st)) : V B E nL w pc lv (.long y :: .long x :: st) := by
  obtain ⟨p, l, e, R, s, m, args, below, meth, c, A, Z, k9, n9⟩ := E
  exact fun H locs ls hP hD hS hl => W.lcmp C.1 C.2.1 hd (k H locs ls hP hD hS hl)
theorem v_i2l (C : Ok B E cc nL own fr lo) {x : Int32} (hd : decode cc pc = .ok (.i2l, 1))  (k : V B E nL w (pc + 1) lv (.long (x.toInt64) :: st)) : V B E nL w pc lv (.int x :: st) := by
  obtain ⟨p, l, e, R, s, m, args, below, meth, c, A, Z, k9, n9⟩ := E
  exact fun H locs ls hP hD hS hl => lv_i2l C.1 C.2.1 hd rfl (k H locs ls hP hD hS hl)
theorem v_l2i (C : Ok B E cc nL own fr lo) {x : Int64} (hd : decode cc pc = .ok (.l2i, 1))  (k : V B E nL w (pc + 1) lv (.int (x.toInt32) :: st)) : V B E nL w pc lv (.long x :: st) := by
  obtain ⟨p, l, e, R, s, m, args, below, meth, c, A, Z, k9, n9⟩ := E
  exact fun H locs ls hP hD hS hl => lv_l2i C.1 C.2.1 hd rfl (k H locs ls hP hD hS hl)
theorem v_i2b (C : Ok B E cc nL own fr lo) {x : Int32} (hd : decode cc pc = .ok (.i2b, 1))  (k : V B E nL w (pc + 1) lv (.int (x.toInt8.toInt32) :: st)) : V B E nL w pc lv (.int x :: st) := by
  obtain ⟨p, l, e, R, s, m, args, below, meth, c, A, Z, k9, n9⟩ := E
  exact fun H locs ls hP hD hS hl => lv_i2b C.1 C.2.1 hd rfl (k H locs ls hP hD hS hl)
theorem v_i2s (C : Ok B E cc nL own fr lo) {x : Int32} (hd : decode cc pc = .ok (.i2s, 1))  (k : V B E nL w (pc + 1) lv (.int (x.toInt16.toInt32) :: st)) : V B E nL w pc lv (.int x :: st) := by
  obtain ⟨p, l, e, R, s, m, args, below, meth, c, A, Z, k9, n9⟩ := E
  exact fun H locs ls hP hD hS hl => lv_i2s C.1 C.2.1 hd rfl (k H locs ls hP hD hS hl)
theorem v_i2c (C : Ok B E cc nL own fr lo) {x : Int32} (hd : decode cc pc = .ok (.i2c, 1))  (k : V B E nL w (pc + 1) lv (.int ((x.toUInt32 % 65536).toInt32) :: st)) : V B E nL w pc lv (.int x :: st) := by
  obtain ⟨p, l, e, R, s, m, args, below, meth, c, A, Z, k9, n9⟩ := E
  exact fun H locs ls hP hD hS hl => lv_i2c C.1 C.2.1 hd rfl (k H locs ls hP hD hS hl)
theorem v_iconst (C : Ok B E cc nL own fr lo) {n : Int} {v : Int32} (hd : decode cc pc = .ok (.iconst n, 1)) (hv : Int32.ofInt n = v) (k : V B E nL w (pc + 1) lv (.int v :: st)) : V B E nL w pc lv (st) := by
  obtain ⟨p, l, e, R, s, m, args, below, meth, c, A, Z, k9, n9⟩ := E
  exact fun H locs ls hP hD hS hl => lv_iconst C.1 C.2.1 hd hv (k H locs ls hP hD hS hl)
theorem v_bipush (C : Ok B E cc nL own fr lo) {n : Int} {v : Int32} (hd : decode cc pc = .ok (.bipush n, 2)) (hv : (Int8.ofInt n).toInt32 = v) (k : V B E nL w (pc + 2) lv (.int v :: st)) : V B E nL w pc lv (st) := by
  obtain ⟨p, l, e, R, s, m, args, below, meth, c, A, Z, k9, n9⟩ := E
  exact fun H locs ls hP hD hS hl => lv_bipush C.1 C.2.1 hd hv (k H locs ls hP hD hS hl)
theorem v_sipush (C : Ok B E cc nL own fr lo) {n : Int} {v : Int32} (hd : decode cc pc = .ok (.sipush n, 3)) (hv : (Int16.ofInt n).toInt32 = v) (k : V B E nL w (pc + 3) lv (.int v :: st)) : V B E nL w pc lv (st) := by
  obtain ⟨p, l, e, R, s, m, args, below, meth, c, A, Z, k9, n9⟩ := E
  exact fun H locs ls hP hD hS hl => lv_sipush C.1 C.2.1 hd hv (k H locs ls hP hD hS hl)
theorem v_lconst (C : Ok B E cc nL own fr lo) {n : Fin 2} {v : Int64} (hd : decode cc pc = .ok (.lconst n, 1)) (hv : Int64.ofNat (n : Nat) = v) (k : V B E nL w (pc + 1) lv (.long v :: st)) : V B E nL w pc lv (st) := by
  obtain ⟨p, l, e, R, s, m, args, below, meth, c, A, Z, k9, n9⟩ := E
  exact fun H locs ls hP hD hS hl => lv_lconst C.1 C.2.1 hd hv (k H locs ls hP hD hS hl)
theorem v_dup (C : Ok B E cc nL own fr lo) {v : Value} (hd : decode cc pc = .ok (.dup, 1)) (hv : v.category = 1) (k : V B E nL w (pc + 1) lv (v :: v :: st)) : V B E nL w pc lv (v :: st) := by
  obtain ⟨p, l, e, R, s, m, args, below, meth, c, A, Z, k9, n9⟩ := E
  exact fun H locs ls hP hD hS hl => lv_dup C.1 C.2.1 hd hv (k H locs ls hP hD hS hl)
theorem v_dup2 (C : Ok B E cc nL own fr lo) {va vb : Value} (hd : decode cc pc = .ok (.dup2, 1)) (hva : va.category = 1) (hvb : vb.category = 1) (k : V B E nL w (pc + 1) lv (va :: vb :: va :: vb :: st)) : V B E nL w pc lv (va :: vb :: st) := by
  obtain ⟨p, l, e, R, s, m, args, below, meth, c, A, Z, k9, n9⟩ := E
  exact fun H locs ls hP hD hS hl => lv_dup2_11 C.1 C.2.1 hd hva hvb (k H locs ls hP hD hS hl)
theorem v_dup_x1 (C : Ok B E cc nL own fr lo) {va vb : Value} (hd : decode cc pc = .ok (.dup_x1, 1)) (hva : va.category = 1) (hvb : vb.category = 1) (k : V B E nL w (pc + 1) lv (va :: vb :: va :: st)) : V B E nL w pc lv (va :: vb :: st) := by
  obtain ⟨p, l, e, R, s, m, args, below, meth, c, A, Z, k9, n9⟩ := E
  exact fun H locs ls hP hD hS hl => lv_dup_x1 C.1 C.2.1 hd hva hvb (k H locs ls hP hD hS hl)
theorem v_pop (C : Ok B E cc nL own fr lo) {v : Value} (hd : decode cc pc = .ok (.pop, 1)) (hv : v.category = 1) (k : V B E nL w (pc + 1) lv (st)) : V B E nL w pc lv (v :: st) := by
  obtain ⟨p, l, e, R, s, m, args, below, meth, c, A, Z, k9, n9⟩ := E
  exact fun H locs ls hP hD hS hl => lv_pop C.1 C.2.1 hd hv (k H locs ls hP hD hS hl)
theorem v_null (C : Ok B E cc nL own fr lo)  (hd : decode cc pc = .ok (.aconst_null, 1))  (k : V B E nL w (pc + 1) lv (.null :: st)) : V B E nL w pc lv (st) := by
  obtain ⟨p, l, e, R, s, m, args, below, meth, c, A, Z, k9, n9⟩ := E
  exact fun H locs ls hP hD hS hl => lv_null C.1 C.2.1 hd (k H locs ls hP hD hS hl)
theorem v_iload_n (C : Ok B E cc nL own fr lo) (q : Nat) {k : Fin 4} {i : Nat} {x : Int32} (hd : decode cc pc = .ok (.iload_n k, 1)) (hi : (k : Nat) = i) (hq : lv[q]? = some (i, .int x)) (kk : V B E nL w (pc + 1) lv (.int x :: st)) : V B E nL w pc lv st := by
  obtain ⟨p, l, e, R, s, m, args, below, meth, c, A, Z, k9, n9⟩ := E
  exact fun H locs ls hP hD hS hl => lv_iload_n C.1 C.2.1 hd hi (lv_at hl q hq) (kk H locs ls hP hD hS hl)
theorem v_iload (C : Ok B E cc nL own fr lo) (q : Nat) {i : Nat} {x : Int32} (hd : decode cc pc = .ok (.iload i, 2)) (hq : lv[q]? = some (i, .int x)) (kk : V B E nL w (pc + 2) lv (.int x :: st)) : V B E nL w pc lv st := by
  obtain ⟨p, l, e, R, s, m, args, below, meth, c, A, Z, k9, n9⟩ := E
  exact fun H locs ls hP hD hS hl => lv_iload C.1 C.2.1 hd (lv_at hl q hq) (kk H locs ls hP hD hS hl)
theorem v_lload_n (C : Ok B E cc nL own fr lo) (q : Nat) {k : Fin 4} {i : Nat} {x : Int64} (hd : decode cc pc = .ok (.lload_n k, 1)) (hi : (k : Nat) = i) (hq : lv[q]? = some (i, .long x)) (kk : V B E nL w (pc + 1) lv (.long x :: st)) : V B E nL w pc lv st := by
  obtain ⟨p, l, e, R, s, m, args, below, meth, c, A, Z, k9, n9⟩ := E
  exact fun H locs ls hP hD hS hl => lv_lload_n C.1 C.2.1 hd hi (lv_at hl q hq) (kk H locs ls hP hD hS hl)
theorem v_lload (C : Ok B E cc nL own fr lo) (q : Nat) {i : Nat} {x : Int64} (hd : decode cc pc = .ok (.lload i, 2)) (hq : lv[q]? = some (i, .long x)) (kk : V B E nL w (pc + 2) lv (.long x :: st)) : V B E nL w pc lv st := by
  obtain ⟨p, l, e, R, s, m, args, below, meth, c, A, Z, k9, n9⟩ := E
  exact fun H locs ls hP hD hS hl => lv_lload C.1 C.2.1 hd (lv_at hl q hq) (kk H locs ls hP hD hS hl)
theorem v_aload_n (C : Ok B E cc nL own fr lo) (q : Nat) {k : Fin 4} {i : Nat} {x : Nat} (hd : decode cc pc = .ok (.aload_n k, 1)) (hi : (k : Nat) = i) (hq : lv[q]? = some (i, .ref x)) (kk : V B E nL w (pc + 1) lv (.ref x :: st)) : V B E nL w pc lv st := by
  obtain ⟨p, l, e, R, s, m, args, below, meth, c, A, Z, k9, n9⟩ := E
  exact fun H locs ls hP hD hS hl => lv_aload_n C.1 C.2.1 hd hi (lv_at hl q hq) (kk H locs ls hP hD hS hl)
theorem v_aload (C : Ok B E cc nL own fr lo) (q : Nat) {i : Nat} {x : Nat} (hd : decode cc pc = .ok (.aload i, 2)) (hq : lv[q]? = some (i, .ref x)) (kk : V B E nL w (pc + 2) lv (.ref x :: st)) : V B E nL w pc lv st := by
  obtain ⟨p, l, e, R, s, m, args, below, meth, c, A, Z, k9, n9⟩ := E
  exact fun H locs ls hP hD hS hl => lv_aload C.1 C.2.1 hd (lv_at hl q hq) (kk H locs ls hP hD hS hl)
theorem v_aloadN_n (C : Ok B E cc nL own fr lo) (q : Nat) {k : Fin 4} {i : Nat} (hd : decode cc pc = .ok (.aload_n k, 1)) (hi : (k : Nat) = i) (hq : lv[q]? = some (i, .null)) (kk : V B E nL w (pc + 1) lv (.null :: st)) : V B E nL w pc lv st := by
  obtain ⟨p, l, e, R, s, m, args, below, meth, c, A, Z, k9, n9⟩ := E
  exact fun H locs ls hP hD hS hl => lv_aload_nN C.1 C.2.1 hd hi (lv_at hl q hq) (kk H locs ls hP hD hS hl)
theorem v_aloadN (C : Ok B E cc nL own fr lo) (q : Nat) {i : Nat} (hd : decode cc pc = .ok (.aload i, 2)) (hq : lv[q]? = some (i, .null)) (kk : V B E nL w (pc + 2) lv (.null :: st)) : V B E nL w pc lv st := by
  obtain ⟨p, l, e, R, s, m, args, below, meth, c, A, Z, k9, n9⟩ := E
  exact fun H locs ls hP hD hS hl => lv_aloadN C.1 C.2.1 hd (lv_at hl q hq) (kk H locs ls hP hD hS hl)
theorem v_istore_n (C : Ok B E cc nL own fr lo) {k : Fin 4} {i : Nat} {x : Int32} {lv' : List (Nat × Value)} (hd : decode cc pc = .ok (.istore_n k, 1)) (hi : (k : Nat) = i) (hn : i < nL) (he : (i, .int x) :: lv.filter (fun q => !(q.1 == i) && !(q.1 + 1 == i && q.2.category == 2)) = lv') (kk : V B E nL w (pc + 1) lv' st) : V B E nL w pc lv (.int x :: st) := by
  obtain ⟨p, l, e, R, s, m, args, below, meth, c, A, Z, k9, n9⟩ := E
  exact fun H locs ls hP hD hS hl => lv_istore_n C.1 C.2.1 hd hi hl hn he (fun ls' hl' => kk H locs ls' hP hD hS hl')
theorem v_istore (C : Ok B E cc nL own fr lo) {i : Nat} {x : Int32} {lv' : List (Nat × Value)} (hd : decode cc pc = .ok (.istore i, 2)) (hn : i < nL) (he : (i, .int x) :: lv.filter (fun q => !(q.1 == i) && !(q.1 + 1 == i && q.2.category == 2)) = lv') (kk : V B E nL w (pc + 2) lv' st) : V B E nL w pc lv (.int x :: st) := by
  obtain ⟨p, l, e, R, s, m, args, below, meth, c, A, Z, k9, n9⟩ := E
  exact fun H locs ls hP hD hS hl => lv_istore C.1 C.2.1 hd hl hn he (fun ls' hl' => kk H locs ls' hP hD hS hl')
theorem v_lstore_n (C : Ok B E cc nL own fr lo) {k : Fin 4} {i : Nat} {x : Int64} {lv' : List (Nat × Value)} (hd : decode cc pc = .ok (.lstore_n k, 1)) (hi : (k : Nat) = i) (hn : i + 1 < nL) (he : (i, .long x) :: lv.filter (fun q => !(q.1 == i) && (!(q.1 == i + 1) && !(q.1 + 1 == i && q.2.category == 2))) = lv') (kk : V B E nL w (pc + 1) lv' st) : V B E nL w pc lv (.long x :: st) := by
  obtain ⟨p, l, e, R, s, m, args, below, meth, c, A, Z, k9, n9⟩ := E
  exact fun H locs ls hP hD hS hl => lv_lstore_n C.1 C.2.1 hd hi hl hn he (fun ls' hl' => kk H locs ls' hP hD hS hl')
theorem v_lstore (C : Ok B E cc nL own fr lo) {i : Nat} {x : Int64} {lv' : List (Nat × Value)} (hd : decode cc pc = .ok (.lstore i, 2)) (hn : i + 1 < nL) (he : (i, .long x) :: lv.filter (fun q => !(q.1 == i) && (!(q.1 == i + 1) && !(q.1 + 1 == i && q.2.category == 2))) = lv') (kk : V B E nL w (pc + 2) lv' st) : V B E nL w pc lv (.long x :: st) := by
  obtain ⟨p, l, e, R, s, m, args, below, meth, c, A, Z, k9, n9⟩ := E
  exact fun H locs ls hP hD hS hl => lv_lstore C.1 C.2.1 hd hl hn he (fun ls' hl' => kk H locs ls' hP hD hS hl')
theorem v_astore_n (C : Ok B E cc nL own fr lo) {k : Fin 4} {i : Nat} {x : Nat} {lv' : List (Nat × Value)} (hd : decode cc pc = .ok (.astore_n k, 1)) (hi : (k : Nat) = i) (hn : i < nL) (he : (i, .ref x) :: lv.filter (fun q => !(q.1 == i) && !(q.1 + 1 == i && q.2.category == 2)) = lv') (kk : V B E nL w (pc + 1) lv' st) : V B E nL w pc lv (.ref x :: st) := by
  obtain ⟨p, l, e, R, s, m, args, below, meth, c, A, Z, k9, n9⟩ := E
  exact fun H locs ls hP hD hS hl => lv_astore_n C.1 C.2.1 hd hi hl hn he (fun ls' hl' => kk H locs ls' hP hD hS hl')
theorem v_astore (C : Ok B E cc nL own fr lo) {i : Nat} {x : Nat} {lv' : List (Nat × Value)} (hd : decode cc pc = .ok (.astore i, 2)) (hn : i < nL) (he : (i, .ref x) :: lv.filter (fun q => !(q.1 == i) && !(q.1 + 1 == i && q.2.category == 2)) = lv') (kk : V B E nL w (pc + 2) lv' st) : V B E nL w pc lv (.ref x :: st) := by
  obtain ⟨p, l, e, R, s, m, args, below, meth, c, A, Z, k9, n9⟩ := E
  exact fun H locs ls hP hD hS hl => lv_astore C.1 C.2.1 hd hl hn he (fun ls' hl' => kk H locs ls' hP hD hS hl')
theorem v_astoreN_n (C : Ok B E cc nL own fr lo) {k : Fin 4} {i : Nat}  {lv' : List (Nat × Value)} (hd : decode cc pc = .ok (.astore_n k, 1)) (hi : (k : Nat) = i) (hn : i < nL) (he : (i, .null) :: lv.filter (fun q => !(q.1 == i) && !(q.1 + 1 == i && q.2.category == 2)) = lv') (kk : V B E nL w (pc + 1) lv' st) : V B E nL w pc lv (.null :: st) := by
  obtain ⟨p, l, e, R, s, m, args, below, meth, c, A, Z, k9, n9⟩ := E
  exact fun H locs ls hP hD hS hl => lv_astore_nN C.1 C.2.1 hd hi hl hn he (fun ls' hl' => kk H locs ls' hP hD hS hl')
theorem v_astoreN (C : Ok B E cc nL own fr lo) {i : Nat}  {lv' : List (Nat × Value)} (hd : decode cc pc = .ok (.astore i, 2)) (hn : i < nL) (he : (i, .null) :: lv.filter (fun q => !(q.1 == i) && !(q.1 + 1 == i && q.2.category == 2)) = lv') (kk : V B E nL w (pc + 2) lv' st) : V B E nL w pc lv (.null :: st) := by
  obtain ⟨p, l, e, R, s, m, args, below, meth, c, A, Z, k9, n9⟩ := E
  exact fun H locs ls hP hD hS hl => lv_astoreN C.1 C.2.1 hd hl hn he (fun ls' hl' => kk H locs ls' hP hD hS hl')
theorem v_iinc (C : Ok B E cc nL own fr lo) (q : Nat) {i : Nat} {n : Int} {x v : Int32} {lv' : List (Nat × Value)} (hd : decode cc pc = .ok (.iinc i n, 3)) (hq : lv[q]? = some (i, .int x)) (hv : x + Int32.ofInt n = v) (hn : i < nL) (he : (i, Value.int v) :: lv.filter (fun q => !(q.1 == i) && !(q.1 + 1 == i && q.2.category == 2)) = lv') (kk : V B E nL w (pc + 3) lv' st) : V B E nL w pc lv st := by
  obtain ⟨p, l, e, R, s, m, args, below, meth, c, A, Z, k9, n9⟩ := E
  exact fun H locs ls hP hD hS hl => lv_iinc C.1 C.2.1 hd hl hq hv hn he (fun ls' hl' => kk H locs ls' hP hD hS hl')
theorem v_if_eq (C : Ok B E cc nL own fr lo) {x : Int32} {off : Int} {tgt : Nat} (hd : decode cc pc = .ok (.ifCond .eq off, 3)) (ht : (pc : Int) + off = (tgt : Int)) (kt : x = 0 → V B E nL w tgt lv st) (kf : ¬ x = 0 → V B E nL w (pc + 3) lv st) : V B E nL w pc lv (.int x :: st) := by
  obtain ⟨p, l, e, R, s, m, args, below, meth, c, A, Z, k9, n9⟩ := E
  exact fun H locs ls hP hD hS hl => lv_if_eq C.1 C.2.1 hd ht (fun h => kt h H locs ls hP hD hS hl) (fun h => kf h H locs ls hP hD hS hl)
theorem v_icmp_eq (C : Ok B E cc nL own fr lo) {x y : Int32} {off : Int} {tgt : Nat} (hd : decode cc pc = .ok (.if_icmp .eq off, 3)) (ht : (pc : Int) + off = (tgt : Int)) (kt : x = y → V B E nL w tgt lv st) (kf : ¬ x = y → V B E nL w (pc + 3) lv st) : V B E nL w pc lv (.int y :: .int x :: st) := by
  obtain ⟨p, l, e, R, s, m, args, below, meth, c, A, Z, k9, n9⟩ := E
  exact fun H locs ls hP hD hS hl => lv_icmp_eq C.1 C.2.1 hd ht (fun h => kt h H locs ls hP hD hS hl) (fun h => kf h H locs ls hP hD hS hl)
theorem v_if_ne (C : Ok B E cc nL own fr lo) {x : Int32} {off : Int} {tgt : Nat} (hd : decode cc pc = .ok (.ifCond .ne off, 3)) (ht : (pc : Int) + off = (tgt : Int)) (kt : ¬ x = 0 → V B E nL w tgt lv st) (kf : x = 0 → V B E nL w (pc + 3) lv st) : V B E nL w pc lv (.int x :: st) := by
  obtain ⟨p, l, e, R, s, m, args, below, meth, c, A, Z, k9, n9⟩ := E
  exact fun H locs ls hP hD hS hl => lv_if_ne C.1 C.2.1 hd ht (fun h => kt h H locs ls hP hD hS hl) (fun h => kf h H locs ls hP hD hS hl)
theorem v_icmp_ne (C : Ok B E cc nL own fr lo) {x y : Int32} {off : Int} {tgt : Nat} (hd : decode cc pc = .ok (.if_icmp .ne off, 3)) (ht : (pc : Int) + off = (tgt : Int)) (kt : ¬ x = y → V B E nL w tgt lv st) (kf : x = y → V B E nL w (pc + 3) lv st) : V B E nL w pc lv (.int y :: .int x :: st) := by
  obtain ⟨p, l, e, R, s, m, args, below, meth, c, A, Z, k9, n9⟩ := E
  exact fun H locs ls hP hD hS hl => lv_icmp_ne C.1 C.2.1 hd ht (fun h => kt h H locs ls hP hD hS hl) (fun h => kf h H locs ls hP hD hS hl)
theorem v_if_lt (C : Ok B E cc nL own fr lo) {x : Int32} {off : Int} {tgt : Nat} (hd : decode cc pc = .ok (.ifCond .lt off, 3)) (ht : (pc : Int) + off = (tgt : Int)) (kt : x < 0 → V B E nL w tgt lv st) (kf : ¬ x < 0 → V B E nL w (pc + 3) lv st) : V B E nL w pc lv (.int x :: st) := by
  obtain ⟨p, l, e, R, s, m, args, below, meth, c, A, Z, k9, n9⟩ := E
  exact fun H locs ls hP hD hS hl => lv_if_lt C.1 C.2.1 hd ht (fun h => kt h H locs ls hP hD hS hl) (fun h => kf h H locs ls hP hD hS hl)
theorem v_icmp_lt (C : Ok B E cc nL own fr lo) {x y : Int32} {off : Int} {tgt : Nat} (hd : decode cc pc = .ok (.if_icmp .lt off, 3)) (ht : (pc : Int) + off = (tgt : Int)) (kt : x < y → V B E nL w tgt lv st) (kf : ¬ x < y → V B E nL w (pc + 3) lv st) : V B E nL w pc lv (.int y :: .int x :: st) := by
  obtain ⟨p, l, e, R, s, m, args, below, meth, c, A, Z, k9, n9⟩ := E
  exact fun H locs ls hP hD hS hl => lv_icmp_lt C.1 C.2.1 hd ht (fun h => kt h H locs ls hP hD hS hl) (fun h => kf h H locs ls hP hD hS hl)
theorem v_if_ge (C : Ok B E cc nL own fr lo) {x : Int32} {off : Int} {tgt : Nat} (hd : decode cc pc = .ok (.ifCond .ge off, 3)) (ht : (pc : Int) + off = (tgt : Int)) (kt : 0 ≤ x → V B E nL w tgt lv st) (kf : ¬ 0 ≤ x → V B E nL w (pc + 3) lv st) : V B E nL w pc lv (.int x :: st) := by
  obtain ⟨p, l, e, R, s, m, args, below, meth, c, A, Z, k9, n9⟩ := E
  exact fun H locs ls hP hD hS hl => lv_if_ge C.1 C.2.1 hd ht (fun h => kt h H locs ls hP hD hS hl) (fun h => kf h H locs ls hP hD hS hl)
theorem v_icmp_ge (C : Ok B E cc nL own fr lo) {x y : Int32} {off : Int} {tgt : Nat} (hd : decode cc pc = .ok (.if_icmp .ge off, 3)) (ht : (pc : Int) + off = (tgt : Int)) (kt : y ≤ x → V B E nL w tgt lv st) (kf : ¬ y ≤ x → V B E nL w (pc + 3) lv st) : V B E nL w pc lv (.int y :: .int x :: st) := by
  obtain ⟨p, l, e, R, s, m, args, below, meth, c, A, Z, k9, n9⟩ := E
  exact fun H locs ls hP hD hS hl => lv_icmp_ge C.1 C.2.1 hd ht (fun h => kt h H locs ls hP hD hS hl) (fun h => kf h H locs ls hP hD hS hl)
theorem v_if_gt (C : Ok B E cc nL own fr lo) {x : Int32} {off : Int} {tgt : Nat} (hd : decode cc pc = .ok (.ifCond .gt off, 3)) (ht : (pc : Int) + off = (tgt : Int)) (kt : 0 < x → V B E nL w tgt lv st) (kf : ¬ 0 < x → V B E nL w (pc + 3) lv st) : V B E nL w pc lv (.int x :: st) := by
  obtain ⟨p, l, e, R, s, m, args, below, meth, c, A, Z, k9, n9⟩ := E
  exact fun H locs ls hP hD hS hl => lv_if_gt C.1 C.2.1 hd ht (fun h => kt h H locs ls hP hD hS hl) (fun h => kf h H locs ls hP hD hS hl)
theorem v_icmp_gt (C : Ok B E cc nL own fr lo) {x y : Int32} {off : Int} {tgt : Nat} (hd : decode cc pc = .ok (.if_icmp .gt off, 3)) (ht : (pc : Int) + off = (tgt : Int)) (kt : y < x → V B E nL w tgt lv st) (kf : ¬ y < x → V B E nL w (pc + 3) lv st) : V B E nL w pc lv (.int y :: .int x :: st) := by
  obtain ⟨p, l, e, R, s, m, args, below, meth, c, A, Z, k9, n9⟩ := E
  exact fun H locs ls hP hD hS hl => lv_icmp_gt C.1 C.2.1 hd ht (fun h => kt h H locs ls hP hD hS hl) (fun h => kf h H locs ls hP hD hS hl)
theorem v_if_le (C : Ok B E cc nL own fr lo) {x : Int32} {off : Int} {tgt : Nat} (hd : decode cc pc = .ok (.ifCond .le off, 3)) (ht : (pc : Int) + off = (tgt : Int)) (kt : x ≤ 0 → V B E nL w tgt lv st) (kf : ¬ x ≤ 0 → V B E nL w (pc + 3) lv st) : V B E nL w pc lv (.int x :: st) := by
  obtain ⟨p, l, e, R, s, m, args, below, meth, c, A, Z, k9, n9⟩ := E
  exact fun H locs ls hP hD hS hl => lv_if_le C.1 C.2.1 hd ht (fun h => kt h H locs ls hP hD hS hl) (fun h => kf h H locs ls hP hD hS hl)
theorem v_icmp_le (C : Ok B E cc nL own fr lo) {x y : Int32} {off : Int} {tgt : Nat} (hd : decode cc pc = .ok (.if_icmp .le off, 3)) (ht : (pc : Int) + off = (tgt : Int)) (kt : x ≤ y → V B E nL w tgt lv st) (kf : ¬ x ≤ y → V B E nL w (pc + 3) lv st) : V B E nL w pc lv (.int y :: .int x :: st) := by
  obtain ⟨p, l, e, R, s, m, args, below, meth, c, A, Z, k9, n9⟩ := E
  exact fun H locs ls hP hD hS hl => lv_icmp_le C.1 C.2.1 hd ht (fun h => kt h H locs ls hP hD hS hl) (fun h => kf h H locs ls hP hD hS hl)
theorem v_goto (C : Ok B E cc nL own fr lo) {off : Int} {tgt : Nat} (hd : decode cc pc = .ok (.goto off, 3)) (ht : (pc : Int) + off = (tgt : Int)) (k : V B E nL w tgt lv st) : V B E nL w pc lv st := by
  obtain ⟨p, l, e, R, s, m, args, below, meth, c, A, Z, k9, n9⟩ := E
  exact fun H locs ls hP hD hS hl => lv_goto C.1 C.2.1 hd ht (k H locs ls hP hD hS hl)
theorem v_ifnull (C : Ok B E cc nL own fr lo) {x : Nat} {off : Int} (hd : decode cc pc = .ok (.ifnull off, 3)) (k : V B E nL w (pc + 3) lv st) : V B E nL w pc lv (.ref x :: st) := by
  obtain ⟨p, l, e, R, s, m, args, below, meth, c, A, Z, k9, n9⟩ := E
  exact fun H locs ls hP hD hS hl => lv_ifnull C.1 C.2.1 hd (k H locs ls hP hD hS hl)
theorem v_ifnullN (C : Ok B E cc nL own fr lo) {off : Int} {tgt : Nat} (hd : decode cc pc = .ok (.ifnull off, 3)) (ht : (pc : Int) + off = (tgt : Int)) (k : V B E nL w tgt lv st) : V B E nL w pc lv (.null :: st) := by
  obtain ⟨p, l, e, R, s, m, args, below, meth, c, A, Z, k9, n9⟩ := E
  exact fun H locs ls hP hD hS hl => lv_ifnullN C.1 C.2.1 hd ht (k H locs ls hP hD hS hl)
theorem v_ifnonnull (C : Ok B E cc nL own fr lo) {x : Nat} {off : Int} {tgt : Nat} (hd : decode cc pc = .ok (.ifnonnull off, 3)) (ht : (pc : Int) + off = (tgt : Int)) (k : V B E nL w tgt lv st) : V B E nL w pc lv (.ref x :: st) := by
  obtain ⟨p, l, e, R, s, m, args, below, meth, c, A, Z, k9, n9⟩ := E
  exact fun H locs ls hP hD hS hl => lv_ifnonnull C.1 C.2.1 hd ht (k H locs ls hP hD hS hl)
theorem v_ifnonnullN (C : Ok B E cc nL own fr lo) {off : Int} (hd : decode cc pc = .ok (.ifnonnull off, 3)) (k : V B E nL w (pc + 3) lv st) : V B E nL w pc lv (.null :: st) := by
  obtain ⟨p, l, e, R, s, m, args, below, meth, c, A, Z, k9, n9⟩ := E
  exact fun H locs ls hP hD hS hl => lv_ifnonnullN C.1 C.2.1 hd (k H locs ls hP hD hS hl)
theorem v_ldc (C : Ok B E cc nL own fr lo) {index : Nat} {v : Int32} (hw : Cond.constant own index v ∈ lw_gd) (hd : decode cc pc = .ok (.ldc index, 2)) (k : V B E nL w (pc + 2) lv (.int v :: st)) : V B E nL w pc lv st := by
  obtain ⟨p, l, e, R, s, m, args, below, meth, c, A, Z, k9, n9⟩ := E
  exact fun H locs ls hP hD hS hl => lv_ldc C.1 C.2.1 C.2.2.2.1 (C.2.2.2.2.1 _ hw) hd (k H locs ls hP hD hS hl)
theorem v_ldcw (C : Ok B E cc nL own fr lo) {index : Nat} {v : Int32} (hw : Cond.constant own index v ∈ lw_gd) (hd : decode cc pc = .ok (.ldc_w index, 3)) (k : V B E nL w (pc + 3) lv (.int v :: st)) : V B E nL w pc lv st := by
  obtain ⟨p, l, e, R, s, m, args, below, meth, c, A, Z, k9, n9⟩ := E
  exact fun H locs ls hP hD hS hl => lv_ldcw C.1 C.2.1 C.2.2.2.1 (C.2.2.2.2.1 _ hw) hd (k H locs ls hP hD hS hl)
theorem v_ldc2 (C : Ok B E cc nL own fr lo) {index : Nat} {v : Int64} (hw : Cond.constantLong own index v ∈ lw_gd) (hd : decode cc pc = .ok (.ldc2_w index, 3)) (k : V B E nL w (pc + 3) lv (.long v :: st)) : V B E nL w pc lv st := by
  obtain ⟨p, l, e, R, s, m, args, below, meth, c, A, Z, k9, n9⟩ := E
  exact fun H locs ls hP hD hS hl => lv_ldc2 C.1 C.2.1 C.2.2.2.1 (C.2.2.2.2.1 _ hw) hd (k H locs ls hP hD hS hl)
theorem v_ldcS (C : Ok B E cc nL own fr lo) (i : Nat) {index : Nat} {tx : String} {bs : List Int32} (hs : sWho[i]? = some (own, index, tx, bs)) (hd : decode cc pc = .ok (.ldc index, 2)) (k : V B E nL w (pc + 2) lv (.ref (B.2.2.1 i) :: st)) : V B E nL w pc lv st := by
  obtain ⟨p, l, e, R, s, m, args, below, meth, c, A, Z, k9, n9⟩ := E
  obtain ⟨h1, h2, h3, h4, h5, h6, h7, h8, h9, h10, h11, h12, h13⟩ := C
  exact fun H locs ls hP hD hS hl => va_ldcS h1 h2 h4 (h11.2.1 i _ hs) hd (k H locs ls hP hD hS hl)
theorem v_table (C : Ok B E cc nL own fr lo) {dflt lo' hi : Int} {offs : Array Int} {len : Nat} {x : Int32} (hd : decode cc pc = .ok (.tableswitch dflt lo' hi offs, len)) (kin : ∀ (off : Int) (tgt : Nat), ¬ x.toInt < lo' → ¬ hi < x.toInt → offs[(x.toInt - lo').toNat]? = some off → (pc : Int) + off = (tgt : Int) → V B E nL w tgt lv st) (hoff : ∀ j : Nat, j < (hi - lo' + 1).toNat → ∃ (off : Int) (tgt : Nat), offs[j]? = some off ∧ (pc : Int) + off = (tgt : Int)) {tgt : Nat} (ht : (pc : Int) + dflt = (tgt : Int)) (kout : x.toInt < lo' ∨ hi < x.toInt → V B E nL w tgt lv st) : V B E nL w pc lv (.int x :: st) := by
  obtain ⟨p, l, e, R, s, m, args, below, meth, c, A, Z, k9, n9⟩ := E
  intro H locs ls hP hD hS hl
  by_cases h1 : x.toInt < lo'
  · exact lv_tableOut C.1 C.2.1 hd (Or.inl h1) ht (kout (Or.inl h1) H locs ls hP hD hS hl)
  · by_cases h2 : hi < x.toInt
    · exact lv_tableOut C.1 C.2.1 hd (Or.inr h2) ht (kout (Or.inr h2) H locs ls hP hD hS hl)
    · obtain ⟨off, tgt, e1, e2⟩ := hoff (x.toInt - lo').toNat (by omega)
      exact lv_tableIn C.1 C.2.1 hd h1 h2 e1 e2 (kin off tgt h1 h2 e1 e2 H locs ls hP hD hS hl)

variable {n : Nat} {a : Nat → Nat} {sh : Nat → (Nat → Int32) → va_E} {M : S0}
/-- a field read: of cell k, the slot j -/
theorem v_get (C : Ok B E cc nL own fr lo) {Cn : String} {T : u_T} {N ci index : Nat} (hin : ∀ w ∈ u_ws Cn T N, w ∈ lw_gd) (hc : cls7[ci]? = some (Cn, T, N)) (j : Nat) (hj : j < N) (hlink : Cond.fieldLink own index (T j).1 (T j).2.1 (T j).2.2.1 ∈ lw_gd) {k : Nat} (hk : k < n) {fl : (Nat → Int32) → List Value} (hs : sh k (M k) = .inr (ci, fl (M k))) {v : Value} (hv : (fl (M k))[j]? = some v) (hd : decode cc pc = .ok (.getfield index, 3)) (kk : V B E nL (wl n a sh M) (pc + 3) lv (v :: st)) : V B E nL (wl n a sh M) pc lv (.ref (a k) :: st) := by
  obtain ⟨p, l, e, R, s, m, args, below, meth, c, A, Z, k9, n9⟩ := E
  obtain ⟨h1, h2, h3, h4, h5, h6, h7, h8, h9, h10, h11, h12, h13⟩ := C
  exact fun H locs ls hP hD hS hl => va_get h1 h2 h5 hin h4 h6 hP k (by rw [wl_get hk, hs]) hc j hj (h5 _ hlink) (fun _ h => h) hv hd (kk H locs ls hP hD hS hl)
/-- a field written, of a type of ints -/
theorem v_put (C : Ok B E cc nL own fr lo) {Cn : String} {T : u_T} {N ci index : Nat} (hin : ∀ w ∈ u_ws Cn T N, w ∈ lw_gd) (ty0 : Nat → FieldType) (hty : ∀ k, k < N → parseFieldDescriptor (T k).2.2.1 = some (ty0 k)) (hnm : ∀ a, a < N → ∀ b, b < N → a ≠ b → (T a).2.1 ≠ (T b).2.1) (hc : cls7[ci]? = some (Cn, T, N)) (j : Nat) (hj : j < N) (hfin : (T j).2.2.2 = false) (hlink : Cond.fieldLink own index (T j).1 (T j).2.1 (T j).2.2.1 ∈ lw_gd) {k : Nat} (hk : k < n) {fl : (Nat → Int32) → List Value} (hs : ∀ r, sh k r = .inr (ci, fl r)) {v : Value} {M1 : S0} {r1 : Nat → Int32} (hset : (fl (M k)).set j v = fl r1) (hM1 : M1 = upR M k r1) {ty : FieldType} (hdesc : parseFieldDescriptor (T j).2.2.1 = some ty) (hn : narrow ty v = v) (hfit : fits ty v = true) (hl0 : j < (fl (M k)).length) (hd : decode cc pc = .ok (.putfield index, 3)) (kk : V B E nL (wl n a sh M1) (pc + 3) lv st) : V B E nL (wl n a sh M) pc lv (v :: .ref (a k) :: st) := by
  obtain ⟨p, l, e, R, s, m, args, below, meth, c, A, Z, k9, n9⟩ := E
  obtain ⟨h1, h2, h3, h4, h5, h6, h7, h8, h9, h10, h11, h12, h13⟩ := C
  intro H locs ls hP hD hS hl
  refine va_put h1 h2 h5 hin ty0 hty hnm h4 h6 hP hD hS k (by rw [wl_get hk, hs]) hc j hj (h5 _ hlink) (fun _ h => h) hfin hdesc hn hfit hl0 hd (fun H1 locs1 hP1 hD1 hS1 => ?_)
  rw [hset, ← hs, wl_setR, ← hM1] at hP1 hD1
  exact kk H1 locs1 ls hP1 hD1 hS1 hl
theorem v_iald (C : Ok B E cc nL own fr lo) {k len : Nat} {i : Int32} (hk : k < n) (hs : sh k (M k) = .inl (B.2.1 0, len, .inl (M k))) (hi : vp_in i len) (hd : decode cc pc = .ok (.iaload, 1)) (kk : V B E nL (wl n a sh M) (pc + 1) lv (.int (M k i.toNatClampNeg) :: st)) : V B E nL (wl n a sh M) pc lv (.int i :: .ref (a k) :: st) := by
  obtain ⟨p, l, e, R, s, m, args, below, meth, c, A, Z, k9, n9⟩ := E
  obtain ⟨h1, h2, h3, h4, h5, h6, h7, h8, h9, h10, h11, h12, h13⟩ := C
  exact fun H locs ls hP hD hS hl => va_iald h1 h2 h6 hP k 0 (by rw [wl_get hk, hs]) rfl hi hd (kk H locs ls hP hD hS hl)
theorem v_zald (C : Ok B E cc nL own fr lo) {k len : Nat} {i : Int32} (hk : k < n) (hs : sh k (M k) = .inl (B.2.1 1, len, .inl (M k))) (hi : vp_in i len) (hd : decode cc pc = .ok (.baload, 1)) (kk : V B E nL (wl n a sh M) (pc + 1) lv (.int (M k i.toNatClampNeg) :: st)) : V B E nL (wl n a sh M) pc lv (.int i :: .ref (a k) :: st) := by
  obtain ⟨p, l, e, R, s, m, args, below, meth, c, A, Z, k9, n9⟩ := E
  obtain ⟨h1, h2, h3, h4, h5, h6, h7, h8, h9, h10, h11, h12, h13⟩ := C
  exact fun H locs ls hP hD hS hl => va_zald h1 h2 h6 hP k 1 (by rw [wl_get hk, hs]) rfl hi hd (kk H locs ls hP hD hS hl)
theorem v_iast (C : Ok B E cc nL own fr lo) {k len : Nat} {i x : Int32} (hk : k < n) (hs : ∀ r, sh k r = .inl (B.2.1 0, len, .inl r)) (hi : vp_in i len) (hd : decode cc pc = .ok (.iastore, 1)) (kk : V B E nL (wl n a sh (up M k i.toNatClampNeg x)) (pc + 1) lv st) : V B E nL (wl n a sh M) pc lv (.int x :: .int i :: .ref (a k) :: st) := by
  obtain ⟨p, l, e, R, s, m, args, below, meth, c, A, Z, k9, n9⟩ := E
  obtain ⟨h1, h2, h3, h4, h5, h6, h7, h8, h9, h10, h11, h12, h13⟩ := C
  intro H locs ls hP hD hS hl
  refine va_iast h1 h2 h6 hP hD hS k 0 (by rw [wl_get hk, hs]) rfl hi hd (fun H1 locs1 hP1 hD1 hS1 => ?_)
  rw [← hs, wl_set] at hP1 hD1
  exact kk H1 locs1 ls hP1 hD1 hS1 hl
theorem v_zast (C : Ok B E cc nL own fr lo) {k len : Nat} {i x : Int32} (hk : k < n) (hs : ∀ r, sh k r = .inl (B.2.1 1, len, .inl r)) (hi : vp_in i len) (hx : vp_nar .boolean x = x) (hd : decode cc pc = .ok (.bastore, 1)) (kk : V B E nL (wl n a sh (up M k i.toNatClampNeg x)) (pc + 1) lv st) : V B E nL (wl n a sh M) pc lv (.int x :: .int i :: .ref (a k) :: st) := by
  obtain ⟨p, l, e, R, s, m, args, below, meth, c, A, Z, k9, n9⟩ := E
  obtain ⟨h1, h2, h3, h4, h5, h6, h7, h8, h9, h10, h11, h12, h13⟩ := C
  intro H locs ls hP hD hS hl
  refine va_zast h1 h2 h6 hP hD hS k 1 (by rw [wl_get hk, hs]) rfl hi hd (fun H1 locs1 hP1 hD1 hS1 => ?_)
  rw [hx, ← hs, wl_set] at hP1 hD1
  exact kk H1 locs1 ls hP1 hD1 hS1 hl
theorem v_alen (C : Ok B E cc nL own fr lo) {k t : Nat} {cA : ClassId} {x : vp_A} (hk : k < n) (hs : sh k (M k) = .inl (cA, x)) {ty : FieldType} (ht : (tyk B.2.1)[t]? = some (cA, ty)) {v : Int32} (hv : Int32.ofNat x.1 = v) (hd : decode cc pc = .ok (.arraylength, 1)) (kk : V B E nL (wl n a sh M) (pc + 1) lv (.int v :: st)) : V B E nL (wl n a sh M) pc lv (.ref (a k) :: st) := by
  obtain ⟨p, l, e, R, s, m, args, below, meth, c, A, Z, k9, n9⟩ := E
  obtain ⟨h1, h2, h3, h4, h5, h6, h7, h8, h9, h10, h11, h12, h13⟩ := C
  exact fun H locs ls hP hD hS hl => va_alen h1 h2 h6 hP k t (by rw [wl_get hk, hs]) ht hv hd (kk H locs ls hP hD hS hl)
theorem v_aald (C : Ok B E cc nL own fr lo) {k len t : Nat} {cA : ClassId} {Cn : String} {i : Int32} {f : Nat → Option Nat} (hk : k < n) (hs : sh k (M k) = .inl (cA, len, .inr (.inr (.inr (.inr f))))) (ht : (tyk B.2.1)[t]? = some (cA, .object Cn)) (hi : vp_in i len) {v : Value} (hv : va_rf (f i.toNatClampNeg) = v) (hd : decode cc pc = .ok (.aaload, 1)) (kk : V B E nL (wl n a sh M) (pc + 1) lv (v :: st)) : V B E nL (wl n a sh M) pc lv (.int i :: .ref (a k) :: st) := by
  obtain ⟨p, l, e, R, s, m, args, below, meth, c, A, Z, k9, n9⟩ := E
  obtain ⟨h1, h2, h3, h4, h5, h6, h7, h8, h9, h10, h11, h12, h13⟩ := C
  exact fun H locs ls hP hD hS hl => va_aldq h1 h2 h6 hP k t (by rw [wl_get hk, hs]) ht hi hd (by rw [hv]; exact kk H locs ls hP hD hS hl)
/-- what a call gives: the callee's end, in this frame -/
theorem wl_free {A : Nat → Prop} {s : State} {H : Heap} {locs : List Loc} {w : va_W} (hD : va_D A w) (hS : va_S A s.heap H locs) (hA : ∀ q, s.heap.size ≤ q → A q) : ∀ q, va_A w H.size q → A q := by
  rintro q (⟨k, e, h⟩ | h)
  · exact hD.2 k (q, e) h
  · exact hA q (Nat.le_trans hS.1 h)
theorem lw_good (y : MethodName) (b : ByteArray) (n : Nat) (r : Option FieldType) (pre : List Cond) (hpre : ∀ w ∈ pre, w ∈ lw_gd) (hc : Cond.code y b n r ∈ lw_gd) : GoodIn lw_gd (pre ++ (Cond.code y b n r :: lw_gd)) := by
  intro w hw
  have hm : w ∈ lw_gd := by
    rcases List.mem_append.mp hw with h | h
    · exact hpre w h
    · rcases List.mem_cons.mp h with h | h
      · rw [h]; exact hc
      · exact h
  exact ⟨hm, good_of_word (List.all_eq_true.mp lw_allGood w hm)⟩
def WV (own : String) (idx : Nat) (Cn : String) (y : MethodName) : Prop := Cond.methodLink own idx y ∈ lw_gd ∧ Cond.instanceMethod y ∈ lw_gd ∧ Cond.selects Cn y y ∈ lw_gd ∧ Cond.initialized Cn ∈ lw_gd
theorem WV.all {own : String} {idx : Nat} {Cn : String} {y : MethodName} (h : WV own idx Cn y) : ∀ w ∈ ([.methodLink own idx y, .instanceMethod y, .selects Cn y y, .initialized Cn] : List Cond), w ∈ lw_gd := by
  intro w hw
  simp only [List.mem_cons, List.not_mem_nil, or_false] at hw
  rcases hw with rfl | rfl | rfl | rfl
  · exact h.1
  · exact h.2.1
  · exact h.2.2.1
  · exact h.2.2.2
def WS (own : String) (idx : Nat) (y : MethodName) : Prop := Cond.methodLink own idx y ∈ lw_gd ∧ Cond.static y ∈ lw_gd ∧ Cond.initialized y.cls ∈ lw_gd
def WSN (own : String) (idx : Nat) (y : MethodName) (host : String) : Prop := Cond.methodLinkNest own idx y host ∈ lw_gd ∧ Cond.static y ∈ lw_gd ∧ Cond.initialized y.cls ∈ lw_gd
end VROWS
