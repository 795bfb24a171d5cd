/-! V with objects that are made: contracts that make cells; a call on a part of the world -/
def AO3 (U : State) : Prop := va_AO RX3 U ∧ va_AO RX0 U ∧ va_AO RX2 U
theorem AO3.moved {u U : State} (hvm : u.vm.Alike U.vm) (h : AO3 u) : AO3 U := ⟨h.1.moved hvm, h.2.1.moved hvm, h.2.2.moved hvm⟩
def Pg (B : BX) (w : va_W) (sz : Nat) (U : State) : Prop := Pw B w sz U ∧ AO3 U
theorem Pg_blind {B : BX} {w : va_W} {sz : Nat} {av : List Value} : FrameBlind (va_Pc av (Pg B w sz)) := fun a U g mk q => by
  obtain ⟨q0, qp, qa⟩ := q
  have h := Pw_blind a U g mk ⟨q0, qp⟩
  exact ⟨h.1, h.2, AO3.moved (u := U) (U := U.calling g mk a) (Vm.Alike.refl U.vm) qa⟩
def rmG (fr lo mc ms : Nat) : Room := { frames := fr, cells := mc, slots := ms, locals := lo }
def KGv (B : BX) (y : MethodName) (cc : ByteArray) (maxL : Nat) (fr lo mc ms : Nat) (av : List Value) (w : va_W) (Post : va_W → Prop) : Prop :=
  ∀ (l : Launch) (sz : Nat), Met l y (.code y cc maxL none :: lw_gd) (rmG fr lo mc ms) (va_Pc av (Pg B w sz)) (va_Qv Post (fun w1 t => Bw B (va_A w sz) w1 t) (va_A w sz)) mc ms (va_A w sz)
def KGi (B : BX) (y : MethodName) (cc : ByteArray) (maxL : Nat) (fr lo mc ms : Nat) (av : List Value) (w : va_W) (Post : Int32 → va_W → Prop) : Prop :=
  ∀ (l : Launch) (sz : Nat), Met l y (.code y cc maxL (some .int) :: lw_gd) (rmG fr lo mc ms) (va_Pc av (Pg B w sz)) (va_Qi Post (fun w1 t => Bw B (va_A w sz) w1 t) (va_A w sz)) mc ms (va_A w sz)
def KGq (B : BX) (y : MethodName) (cc : ByteArray) (maxL : Nat) (rt : FieldType) (fr lo mc ms : Nat) (av : List Value) (w : va_W) (Post : Option Nat → va_W → Prop) : Prop :=
  ∀ (l : Launch) (sz : Nat), Met l y (.code y cc maxL (some rt) :: lw_gd) (rmG fr lo mc ms) (va_Pc av (Pg B w sz)) (va_Qq Post (fun w1 t => Bw B (va_A w sz) w1 t) (va_A w sz)) mc ms (va_A w sz)
def stE (E : EX) : State := E.2.2.2.2.1
def mtE (E : EX) : Method := E.2.2.2.2.2.2.2.2.1
def OkG (B : BX) (E : EX) (cc : ByteArray) (nL : Nat) (own : String) (fr lo mc ms : Nat) : Prop := Ok B E cc nL own fr lo ∧ ceC E = 0 ∧ ceS E = 0 ∧ mc ≤ rmC E ∧ ms ≤ rmS E ∧ AO3 (stE E)
theorem OkG.at {B : BX} {E : EX} {cc : ByteArray} {nL : Nat} {own : String} {fr lo mc ms : Nat} (h : OkG B E cc nL own fr lo mc ms) {k n : Nat} (hk : k ≤ mc) (hn : n ≤ ms) : Ok B (bmp E k n) cc nL own fr lo := by
  obtain ⟨p, l, e, R, s, m, args, below, meth, c, A, Z, k9, n9⟩ := E
  obtain ⟨⟨h1, h2, h3, h4, h5, h6, h7, h8, h9, h10, h11, h12, h13⟩, e1, e2, e3, e4, e5⟩ := h
  have e1 : k9 = 0 := e1
  have e2 : n9 = 0 := e2
  have e3 : mc ≤ R.cells := e3
  have e4 : ms ≤ R.slots := e4
  subst e1; subst e2
  exact ⟨h1, h2, h3, h4, h5, h6, h7, h8, h9, h10, h11, by show 0 + k ≤ R.cells; omega, by show 0 + n ≤ R.slots; omega⟩
def RetGv (B : BX) (E : EX) (cc : ByteArray) (nL mc ms : Nat) (Post : va_W → Prop) : Prop := ∀ (w1 : va_W) (pc : Nat) (lv : List (Nat × Value)) (k n : Nat), k ≤ mc → n ≤ ms → Post w1 → decode cc pc = .ok (.return_, 1) → V B (bmp E k n) nL w1 pc lv []
def RetGi (B : BX) (E : EX) (cc : ByteArray) (nL mc ms : Nat) (Post : Int32 → va_W → Prop) : Prop := ∀ (r : Int32) (w1 : va_W) (pc : Nat) (lv : List (Nat × Value)) (k n : Nat), k ≤ mc → n ≤ ms → Post r w1 → decode cc pc = .ok (.ireturn, 1) → V B (bmp E k n) nL w1 pc lv [.int r]
def RetGq (B : BX) (E : EX) (cc : ByteArray) (nL mc ms : Nat) (Post : Option Nat → va_W → Prop) : Prop := ∀ (o : Option Nat) (v : Value) (w1 : va_W) (pc : Nat) (lv : List (Nat × Value)) (k n : Nat), v = va_rf o → k ≤ mc → n ≤ ms → Post o w1 → decode cc pc = .ok (.areturn, 1) → V B (bmp E k n) nL w1 pc lv [v]
theorem KGv_of {B : BX} {y : MethodName} {cc : ByteArray} {maxL fr lo mc ms : Nat} {av : List Value} {w : va_W} {Post : va_W → Prop} (hy : plainName y.cls = true) (hlv : (lg_sl av).length ≤ maxL) (body : ∀ E : EX, OkG B E cc maxL y.cls fr lo mc ms → (mtE E).name = y.name → RetGv B E cc maxL mc ms Post → V B (bmp E 0 0) maxL w 0 (lv_args 0 av) []) : KGv B y cc maxL fr lo mc ms av w Post := by
  intro l sz
  refine Met.ofW (cc := cc) (maxL := maxL) (ret := none) hy rfl ?_
  intro p e s m args below meth c s₁ BL hml hv
  obtain ⟨rfl, ⟨hsz, hP, hK, hD0, hSF⟩, hAO⟩ := hv
  have hts : ∀ w ∈ lw_gd, w.before av.toArray s = true := fun w hw => atoms_spec (ws := Cond.code y cc maxL none :: lw_gd) BL.pre w (List.mem_cons_of_mem _ hw)
  have hown : s.vm.findClass y.cls = some m.cls := findClass_of_methodNamed BL.named
  have hin : meth.name = y.name := (name_of_methodNamed BL.named BL.method).1
  subst hsz
  have hD := hD0.self (sz := s.heap.size)
  have hl := lv_entry av (n := maxL) hlv
  rw [lg_entry_eq]
  have hlocks := BL.notSynchronized
  have C : OkG B (p, l, e, (headSpec (Cond.code y cc maxL none :: lw_gd) (rmG fr lo mc ms)).room, s, m, av.toArray, below, meth, c, va_A w s.heap.size, MQ below (va_Qv Post (fun w1 t => Bw B (va_A w s.heap.size) w1 t) (va_A w s.heap.size)) av.toArray s mc ms (va_A w s.heap.size), 0, 0) cc maxL y.cls fr lo mc ms := ⟨⟨BL.exec, BL.bytes, hml, hown, hts, hK, fun q h => Or.inr h, hlocks, Nat.le_refl _, Nat.le_refl _, hSF, Nat.zero_le _, Nat.zero_le _⟩, rfl, rfl, Nat.le_refl _, Nat.le_refl _, hAO⟩
  refine body _ C hin ?_ s.heap [] _ hP hD va_S.rf hl
  intro w1 pc lv k n hk hn hq hd H locs ls hP1 hD1 hS1 hl1
  refine W.widen (k := mc) (n := ms) (by omega) (by omega) ?_
  exact W.vret BL.exec BL.bytes BL.returns (fun t ht hW => ⟨⟨w1, rfl, hq, by rw [ht]; exact hP1, va_K.moved hW.alike hK, hD1⟩, hS1.F ht⟩) hS1.2.2 hd
theorem KGi_of {B : BX} {y : MethodName} {cc : ByteArray} {maxL fr lo mc ms : Nat} {av : List Value} {w : va_W} {Post : Int32 → va_W → Prop} (hy : plainName y.cls = true) (hlv : (lg_sl av).length ≤ maxL) (body : ∀ E : EX, OkG B E cc maxL y.cls fr lo mc ms → (mtE E).name = y.name → RetGi B E cc maxL mc ms Post → V B (bmp E 0 0) maxL w 0 (lv_args 0 av) []) : KGi B y cc maxL fr lo mc ms av w Post := by
  intro l sz
  refine Met.ofW (cc := cc) (maxL := maxL) (ret := some .int) hy rfl ?_
  intro p e s m args below meth c s₁ BL hml hv
  obtain ⟨rfl, ⟨hsz, hP, hK, hD0, hSF⟩, hAO⟩ := hv
  have hts : ∀ w ∈ lw_gd, w.before av.toArray s = true := fun w hw => atoms_spec (ws := Cond.code y cc maxL (some .int) :: lw_gd) BL.pre w (List.mem_cons_of_mem _ hw)
  have hown : s.vm.findClass y.cls = some m.cls := findClass_of_methodNamed BL.named
  have hin : meth.name = y.name := (name_of_methodNamed BL.named BL.method).1
  subst hsz
  have hD := hD0.self (sz := s.heap.size)
  have hl := lv_entry av (n := maxL) hlv
  rw [lg_entry_eq]
  have hlocks := BL.notSynchronized
  have C : OkG B (p, l, e, (headSpec (Cond.code y cc maxL (some .int) :: lw_gd) (rmG fr lo mc ms)).room, s, m, av.toArray, below, meth, c, va_A w s.heap.size, MQ below (va_Qi Post (fun w1 t => Bw B (va_A w s.heap.size) w1 t) (va_A w s.heap.size)) av.toArray s mc ms (va_A w s.heap.size), 0, 0) cc maxL y.cls fr lo mc ms := ⟨⟨BL.exec, BL.bytes, hml, hown, hts, hK, fun q h => Or.inr h, hlocks, Nat.le_refl _, Nat.le_refl _, hSF, Nat.zero_le _, Nat.zero_le _⟩, rfl, rfl, Nat.le_refl _, Nat.le_refl _, hAO⟩
  refine body _ C hin ?_ s.heap [] _ hP hD va_S.rf hl
  intro r w1 pc lv k n hk hn hq hd H locs ls hP1 hD1 hS1 hl1
  refine W.widen (k := mc) (n := ms) (by omega) (by omega) ?_
  exact W.iret BL.exec BL.bytes BL.returns (fun t ht hW => ⟨⟨r, w1, rfl, hq, by rw [ht]; exact hP1, va_K.moved hW.alike hK, hD1⟩, hS1.F ht⟩) hS1.2.2 hd
theorem KGq_of {B : BX} {y : MethodName} {cc : ByteArray} {maxL fr lo mc ms : Nat} {rt : FieldType} {av : List Value} {w : va_W} {Post : Option Nat → va_W → Prop} (hy : plainName y.cls = true) (hrt : (∃ n, rt = .object n) ∨ ∃ t, rt = .array t) (hlv : (lg_sl av).length ≤ maxL) (body : ∀ E : EX, OkG B E cc maxL y.cls fr lo mc ms → (mtE E).name = y.name → RetGq B E cc maxL mc ms Post → V B (bmp E 0 0) maxL w 0 (lv_args 0 av) []) : KGq B y cc maxL rt fr lo mc ms av w Post := by
  intro l sz
  refine Met.ofW (cc := cc) (maxL := maxL) (ret := some rt) hy rfl ?_
  intro p e s m args below meth c s₁ BL hml hv
  obtain ⟨rfl, ⟨hsz, hP, hK, hD0, hSF⟩, hAO⟩ := hv
  have hts : ∀ w ∈ lw_gd, w.before av.toArray s = true := fun w hw => atoms_spec (ws := Cond.code y cc maxL (some rt) :: lw_gd) BL.pre w (List.mem_cons_of_mem _ hw)
  have hown : s.vm.findClass y.cls = some m.cls := findClass_of_methodNamed BL.named
  have hin : meth.name = y.name := (name_of_methodNamed BL.named BL.method).1
  subst hsz
  have hD := hD0.self (sz := s.heap.size)
  have hl := lv_entry av (n := maxL) hlv
  rw [lg_entry_eq]
  have hlocks := BL.notSynchronized
  have C : OkG B (p, l, e, (headSpec (Cond.code y cc maxL (some rt) :: lw_gd) (rmG fr lo mc ms)).room, s, m, av.toArray, below, meth, c, va_A w s.heap.size, MQ below (va_Qq Post (fun w1 t => Bw B (va_A w s.heap.size) w1 t) (va_A w s.heap.size)) av.toArray s mc ms (va_A w s.heap.size), 0, 0) cc maxL y.cls fr lo mc ms := ⟨⟨BL.exec, BL.bytes, hml, hown, hts, hK, fun q h => Or.inr h, hlocks, Nat.le_refl _, Nat.le_refl _, hSF, Nat.zero_le _, Nat.zero_le _⟩, rfl, rfl, Nat.le_refl _, Nat.le_refl _, hAO⟩
  refine body _ C hin ?_ s.heap [] _ hP hD va_S.rf hl
  intro o v w1 pc lv k n hv hk hn hq hd H locs ls hP1 hD1 hS1 hl1
  subst hv
  refine W.widen (k := mc) (n := ms) (by omega) (by omega) ?_
  exact W.aret BL.exec BL.bytes BL.returns hrt (va_rf_or _) (fun t ht hW => ⟨⟨o, w1, rfl, hq, by rw [ht]; exact hP1, va_K.moved hW.alike hK, hD1⟩, hS1.F ht⟩) hS1.2.2 hd
/-! a part of a world -/
def Sp (w wr wc : va_W) : Prop := ∃ gr gc : Nat → Nat, (∀ (k : Nat) (q : Nat × va_E), wr[k]? = some q → w[gr k]? = some q) ∧ (∀ (k : Nat) (q : Nat × va_E), wc[k]? = some q → w[gc k]? = some q) ∧ (∀ i j : Nat, i < wr.length → j < wr.length → gr i = gr j → i = j) ∧ (∀ i j : Nat, i < wc.length → j < wc.length → gc i = gc j → i = j) ∧ ∀ i j : Nat, i < wr.length → j < wc.length → gr i ≠ gc j
section SPL
variable {w wr wc w1 : va_W} {D : va_G} {cl : List vw_C} {A : Nat → Prop} {H H1 : Heap}
theorem Sp.P (h : Sp w wr wc) (hP : va_P D cl w H) : va_P D cl wc H := by
  obtain ⟨gr, gc, h1, h2, h3, h4, h5⟩ := h
  exact hP.by gc h2
theorem Sp.dd (h : Sp w wr wc) (hD : va_D A w) : va_D A wc := by
  obtain ⟨gr, gc, h1, h2, h3, h4, h5⟩ := h
  exact hD.by gc h2 h4
theorem Sp.join (h : Sp w wr wc) (hP : va_P D cl w H) (hD : va_D A w) (hk : ∀ q : Nat, q < H.size → ¬ va_A wc H.size q → H1[q]? = H[q]?) (hF : ∀ q, va_A wc H.size q → A q) (hP1 : va_P D cl w1 H1) (hD1 : va_D (va_A wc H.size) w1) : va_P D cl (wr ++ w1) H1 ∧ va_D A (wr ++ w1) := by
  obtain ⟨gr, gc, h1, h2, h3, h4, h5⟩ := h
  have apart : ∀ (k : Nat) (q : Nat × va_E), wr[k]? = some q → q.1 < H.size ∧ ¬ va_A wc H.size q.1 := by
    intro k q hq
    have hw := h1 k q hq
    have hl := (hP _ q hw).lt
    refine ⟨hl, fun hh => ?_⟩
    rcases hh with ⟨k2, e, hh⟩ | hh
    · have hw2 := h2 k2 _ hh
      exact h5 k k2 (List.getElem?_eq_some_iff.mp hq).1 (List.getElem?_eq_some_iff.mp hh).1 (hD.1 _ _ q (q.1, e) hw hw2 rfl)
    · omega
  refine ⟨va_P.app (fun k q hq => ?_) hP1, va_D.app (hD.by gr h1 h3) (hD1.weaken (fun k q _ hh => hF q.1 hh)) (fun i j x y hx hy hxy => ?_)⟩
  · obtain ⟨g1, g2⟩ := apart k q hq
    exact (hP _ q (h1 k q hq)).kept (hk q.1 g1 g2)
  · exact (apart i x hx).2 (by rw [hxy]; exact hD1.2 j y hy)
end SPL
section VG
variable {B : BX} {E : EX} {cc : ByteArray} {nL : Nat} {own : String} {fr lo : Nat} {w : va_W} {pc : Nat} {lv : List (Nat × Value)} {st : List Value}
theorem v_perm {w' : va_W} (g : Nat → Nat) (h1 : ∀ (k : Nat) (q : Nat × va_E), w'[k]? = some q → w[g k]? = some q) (h2 : ∀ i j : Nat, i < w'.length → j < w'.length → g i = g j → i = j) (k : V B E nL w' pc lv st) : V B E nL w pc lv st := by
  obtain ⟨p, l, e, R, s, m, args, below, meth, c, A, Z, k9, n9⟩ := E
  exact fun H locs ls hP hD hS hl => k H locs ls (hP.by g h1) (hD.by g h1 h2) hS hl
theorem v_getE (C : Ok B E cc nL own fr lo) {Cn : String} {T : u_T} {N ci index : Nat} (hin : ∀ w ∈ u_ws Cn T N, w ∈ lw_gd) (hc : cls7[ci]? = some (Cn, T, N)) (j : Nat) (hj : j < N) (hlink : Cond.fieldLink own index (T j).1 (T j).2.1 (T j).2.2.1 ∈ lw_gd) (k : Nat) {h : Nat} {fs : List Value} (hs : w[k]? = some (h, .inr (ci, fs))) {v : Value} (hv : fs[j]? = some v) (hd : decode cc pc = .ok (.getfield index, 3)) (kk : V B E nL w (pc + 3) lv (v :: st)) : V B E nL w pc lv (.ref h :: st) := by
  obtain ⟨p, l, e, R, s, m, args, below, meth, c, A, Z, k9, n9⟩ := E
  obtain ⟨h1, h2, h3, h4, h5, h6, h7, h8, h9, h10, h11, h12, h13⟩ := C
  exact fun H locs ls hP hD hS hl => va_get h1 h2 h5 hin h4 h6 hP k hs hc j hj (h5 _ hlink) (fun _ h => h) hv hd (kk H locs ls hP hD hS hl)
theorem v_putE (C : Ok B E cc nL own fr lo) {Cn : String} {T : u_T} {N ci index : Nat} (hin : ∀ w ∈ u_ws Cn T N, w ∈ lw_gd) (ty0 : Nat → FieldType) (hty : ∀ k, k < N → parseFieldDescriptor (T k).2.2.1 = some (ty0 k)) (hnm : ∀ a, a < N → ∀ b, b < N → a ≠ b → (T a).2.1 ≠ (T b).2.1) (hc : cls7[ci]? = some (Cn, T, N)) (j : Nat) (hj : j < N) (hfin : (T j).2.2.2 = false) (hlink : Cond.fieldLink own index (T j).1 (T j).2.1 (T j).2.2.1 ∈ lw_gd) (k : Nat) {h : Nat} {fs : List Value} (hs : w[k]? = some (h, .inr (ci, fs))) {v : Value} {ty : FieldType} (hdesc : parseFieldDescriptor (T j).2.2.1 = some ty) (hn : narrow ty v = v) (hfit : fits ty v = true) (hl0 : j < fs.length) (hd : decode cc pc = .ok (.putfield index, 3)) {w' : va_W} (hw' : w.set k (h, .inr (ci, fs.set j v)) = w') (kk : V B E nL w' (pc + 3) lv st) : V B E nL w pc lv (v :: .ref h :: st) := by
  obtain ⟨p, l, e, R, s, m, args, below, meth, c, A, Z, k9, n9⟩ := E
  obtain ⟨h1, h2, h3, h4, h5, h6, h7, h8, h9, h10, h11, h12, h13⟩ := C
  subst hw'
  exact fun H locs ls hP hD hS hl => va_put h1 h2 h5 hin ty0 hty hnm h4 h6 hP hD hS k hs hc j hj (h5 _ hlink) (fun _ h => h) hfin hdesc hn hfit hl0 hd (fun H1 locs1 hP1 hD1 hS1 => kk H1 locs1 ls hP1 hD1 hS1 hl)
theorem v_putFE (C : Ok B E cc nL own fr lo) (hI : (mtE E).name = "<init>") {T : u_T} {N ci index : Nat} (hin : ∀ w ∈ u_ws own T N, w ∈ lw_gd) (ty0 : Nat → FieldType) (hty : ∀ k, k < N → parseFieldDescriptor (T k).2.2.1 = some (ty0 k)) (hnm : ∀ a, a < N → ∀ b, b < N → a ≠ b → (T a).2.1 ≠ (T b).2.1) (hc : cls7[ci]? = some (own, T, N)) (j : Nat) (hj : j < N) (hfin : (T j).2.2.2 = true) (hdecl : (T j).1 = own) (hlink : Cond.fieldLink own index (T j).1 (T j).2.1 (T j).2.2.1 ∈ lw_gd) (k : Nat) {h : Nat} {fs : List Value} (hs : w[k]? = some (h, .inr (ci, fs))) {v : Value} {ty : FieldType} (hdesc : parseFieldDescriptor (T j).2.2.1 = some ty) (hn : narrow ty v = v) (hfit : fits ty v = true) (hl0 : j < fs.length) (hd : decode cc pc = .ok (.putfield index, 3)) {w' : va_W} (hw' : w.set k (h, .inr (ci, fs.set j v)) = w') (kk : V B E nL w' (pc + 3) lv st) : V B E nL w pc lv (v :: .ref h :: st) := by
  obtain ⟨p, l, e, R, s, m, args, below, meth, c, A, Z, k9, n9⟩ := E
  obtain ⟨h1, h2, h3, h4, h5, h6, h7, h8, h9, h10, h11, h12, h13⟩ := C
  subst hw'
  exact fun H locs ls hP hD hS hl => va_putF h1 h2 h5 hin ty0 hty hnm h4 h6 hP hD hS k hs hc j hj (h5 _ hlink) (fun _ h => h) hfin hI hdecl hdesc hn hfit hl0 hd (fun H1 locs1 hP1 hD1 hS1 => kk H1 locs1 ls hP1 hD1 hS1 hl)
theorem v_objInit (C : Ok B E cc nL own fr lo) {idx : Nat} {h : Nat} (hlink : Cond.methodLink own idx objectInit ∈ lw_gd) (hinst : Cond.instanceMethod objectInit ∈ lw_gd) (hcode : Cond.code objectInit ⟨#[0xb1]⟩ 1 none ∈ lw_gd) (hcat : (st.map fun v => v.category).sum ≤ 8) (hfr : 1 ≤ fr) (hlo : 20 ≤ lo) (hd : decode cc pc = .ok (.invokespecial idx, 3)) (kk : V B E nL w (pc + 3) lv st) : V B E nL w pc lv (.ref h :: st) := by
  obtain ⟨p, l, e, R, s, m, args, below, meth, c, A, Z, k9, n9⟩ := E
  obtain ⟨h1, h2, h3, h4, h5, h6, h7, h8, h9, h10, h11, h12, h13⟩ := C
  intro H locs ls hP hD hS hl
  have hr : 2 * (F0 m pc ls (.ref h :: st)).monitorRoom + (st.map fun v => v.category).sum ≤ 8 := lv_room hcat
  exact W.objInit h1 h2 h4 (h5 _ hlink) (h5 _ hinst) (h5 _ hcode) rfl (by rw [h3]; exact hl.1) rfl hd (Nat.le_trans hfr h9) (by omega) (kk H locs ls hP hD hS hl)
theorem v_alenE (C : Ok B E cc nL own fr lo) (k t : Nat) {h : Nat} {cA : ClassId} {x : vp_A} (hs : w[k]? = some (h, .inl (cA, x))) {ty : FieldType} (ht : (tyk B.2.1)[t]? = some (cA, ty)) {v : Int32} (hv : Int32.ofNat x.1 = v) (hd : decode cc pc = .ok (.arraylength, 1)) (kk : V B E nL w (pc + 1) lv (.int v :: st)) : V B E nL w pc lv (.ref h :: st) := by
  obtain ⟨p, l, e, R, s, m, args, below, meth, c, A, Z, k9, n9⟩ := E
  obtain ⟨h1, h2, h3, h4, h5, h6, h7, h8, h9, h10, h11, h12, h13⟩ := C
  exact fun H locs ls hP hD hS hl => va_alen h1 h2 h6 hP k t hs ht hv hd (kk H locs ls hP hD hS hl)
theorem v_ialdE (C : Ok B E cc nL own fr lo) (k : Nat) {h len : Nat} {f : Nat → Int32} {i : Int32} (hs : w[k]? = some (h, .inl (B.2.1 0, len, .inl f))) (hi : vp_in i len) (hd : decode cc pc = .ok (.iaload, 1)) (kk : V B E nL w (pc + 1) lv (.int (f i.toNatClampNeg) :: st)) : V B E nL w pc lv (.int i :: .ref h :: st) := by
  obtain ⟨p, l, e, R, s, m, args, below, meth, c, A, Z, k9, n9⟩ := E
  obtain ⟨h1, h2, h3, h4, h5, h6, h7, h8, h9, h10, h11, h12, h13⟩ := C
  exact fun H locs ls hP hD hS hl => va_iald h1 h2 h6 hP k 0 hs rfl hi hd (kk H locs ls hP hD hS hl)
theorem v_iastE (C : Ok B E cc nL own fr lo) (k : Nat) {h len : Nat} {f : Nat → Int32} {i x : Int32} (hs : w[k]? = some (h, .inl (B.2.1 0, len, .inl f))) (hi : vp_in i len) (hd : decode cc pc = .ok (.iastore, 1)) {w' : va_W} (hw' : w.set k (h, .inl (B.2.1 0, len, .inl (upd f i.toNatClampNeg x))) = w') (kk : V B E nL w' (pc + 1) lv st) : V B E nL w pc lv (.int x :: .int i :: .ref h :: st) := by
  obtain ⟨p, l, e, R, s, m, args, below, meth, c, A, Z, k9, n9⟩ := E
  obtain ⟨h1, h2, h3, h4, h5, h6, h7, h8, h9, h10, h11, h12, h13⟩ := C
  subst hw'
  exact fun H locs ls hP hD hS hl => va_iast h1 h2 h6 hP hD hS k 0 hs rfl hi hd (fun H1 locs1 hP1 hD1 hS1 => kk H1 locs1 ls hP1 hD1 hS1 hl)
theorem v_astqE (C : Ok B E cc nL own fr lo) (k t kq : Nat) {h len v ci : Nat} {f : Nat → Option Nat} {r : vw_C} {vs : List Value} {i : Int32} {cA : ClassId} (hs : w[k]? = some (h, .inl (cA, len, .inr (.inr (.inr (.inr f)))))) (ht : (tyk B.2.1)[t]? = some (cA, .object r.1)) (hv : w[kq]? = some (v, .inr (ci, vs))) (hc : cls7[ci]? = some r) (hi : vp_in i len) (hd : decode cc pc = .ok (.aastore, 1)) {w' : va_W} (hw' : w.set k (h, .inl (cA, len, .inr (.inr (.inr (.inr (va_up f i.toNatClampNeg (some v))))))) = w') (kk : V B E nL w' (pc + 1) lv st) : V B E nL w pc lv (.ref v :: .int i :: .ref h :: st) := by
  obtain ⟨p, l, e, R, s, m, args, below, meth, c, A, Z, k9, n9⟩ := E
  obtain ⟨h1, h2, h3, h4, h5, h6, h7, h8, h9, h10, h11, h12, h13⟩ := C
  subst hw'
  exact fun H locs ls hP hD hS hl => va_astq h1 h2 h6 hP hD hS k t kq ci hs ht hv hc hi hd (fun H1 locs1 hP1 hD1 hS1 => kk H1 locs1 ls hP1 hD1 hS1 hl)
variable {mc ms k n : Nat}
theorem v_newE (G : OkG B E cc nL own fr lo mc ms) {Cn : String} {T : u_T} {N ci index : Nat} (hin : ∀ w ∈ u_ws Cn T N, w ∈ lw_gd) (ty0 : Nat → FieldType) (hty : ∀ k, k < N → parseFieldDescriptor (T k).2.2.1 = some (ty0 k)) (hcl : Cond.classLink own index Cn ∈ lw_gd) (hinst : Cond.instantiable Cn N ∈ lw_gd) (hini : Cond.initialized Cn ∈ lw_gd) (hc : cls7[ci]? = some (Cn, T, N)) {fs : List Value} (hfs : ∀ j, j < N → defaultValue (ty0 j) = vp_V fs j) (hk : k + 1 ≤ mc) (hn : n + N ≤ ms) (hd : decode cc pc = .ok (.new index, 3)) (kk : ∀ q : Nat, V B (bmp E (k + 1) (n + N)) nL (w ++ [(q, .inr (ci, fs))]) (pc + 3) lv (.ref q :: st)) : V B (bmp E k n) nL w pc lv st := by
  have C := G.at (k := k) (n := n) (by omega) (by omega)
  obtain ⟨p, l, e, R, s, m, args, below, meth, c, A, Z, k9, n9⟩ := E
  obtain ⟨h1, h2, h3, h4, h5, h6, h7, h8, h9, h10, h11, h12, h13⟩ := C
  obtain ⟨-, e1, e2, e3, e4, -⟩ := G
  have e1 : k9 = 0 := e1
  have e2 : n9 = 0 := e2
  have e3 : mc ≤ R.cells := e3
  have e4 : ms ≤ R.slots := e4
  subst e1; subst e2
  intro H locs ls hP hD hS hl
  refine va_new h1 h2 h5 hin ty0 hty h4 (h5 _ hcl) (h5 _ hinst) (h5 _ hini) h6 hP hD hS h7 hc hfs (by omega) (by omega) hd (fun q H1 hP1 hD1 hS1 => ?_)
  have z := kk q H1 locs ls hP1 hD1 hS1 hl
  rw [← Nat.add_assoc 0 n N] at z
  exact z
theorem v_newaE (G : OkG B E cc nL own fr lo mc ms) {v : Int32} {N : Nat} (harr : Cond.arrayClass .int ∈ lw_gd) (hn0 : ¬ v < 0) (hN : v.toNatClampNeg = N) (hb : N * 4 ≤ 536870912) (hk : k + 1 ≤ mc) (hn : n + N ≤ ms) (hd : decode cc pc = .ok (.newarray .int, 2)) (kk : ∀ q : Nat, V B (bmp E (k + 1) (n + N)) nL (w ++ [(q, .inl (B.2.1 0, N, .inl (fun _ => 0)))]) (pc + 2) lv (.ref q :: st)) : V B (bmp E k n) nL w pc lv (.int v :: st) := by
  have C := G.at (k := k) (n := n) (by omega) (by omega)
  obtain ⟨p, l, e, R, s, m, args, below, meth, c, A, Z, k9, n9⟩ := E
  obtain ⟨h1, h2, h3, h4, h5, h6, h7, h8, h9, h10, h11, h12, h13⟩ := C
  obtain ⟨-, e1, e2, e3, e4, -⟩ := G
  have e1 : k9 = 0 := e1
  have e2 : n9 = 0 := e2
  have e3 : mc ≤ R.cells := e3
  have e4 : ms ≤ R.slots := e4
  subst e1; subst e2
  intro H locs ls hP hD hS hl
  refine va_newa (atype := .int) (ty := .int) (N' := N) (a0 := (N, .inl (fun _ => 0))) h1 h2 (h5 _ harr) rfl h6 hP hD hS h7 (fun _ => rfl) hn0 hN hb (by omega) (by omega) hd (fun q cA H1 hK1 hP1 hD1 hS1 => ?_)
  have ea : s.vm.findClass ("[" ++ (FieldType.int).toString) = some cA := (hK1.2 5 (cA, .int) rfl).2
  have eb : s.vm.findClass ("[" ++ (FieldType.int).toString) = some (B.2.1 0) := (h6.2 0 (B.2.1 0, .int) rfl).2
  have ec : cA = B.2.1 0 := Option.some.inj (ea.symm.trans eb)
  subst ec
  have z := kk q H1 locs ls hP1 hD1 hS1 hl
  rw [← Nat.add_assoc 0 n N] at z
  exact z
theorem v_newzE (G : OkG B E cc nL own fr lo mc ms) {v : Int32} {N : Nat} (harr : Cond.arrayClass .boolean ∈ lw_gd) (hn0 : ¬ v < 0) (hN : v.toNatClampNeg = N) (hb : N * 4 ≤ 536870912) (hk : k + 1 ≤ mc) (hn : n + N ≤ ms) (hd : decode cc pc = .ok (.newarray .boolean, 2)) (kk : ∀ q : Nat, V B (bmp E (k + 1) (n + N)) nL (w ++ [(q, .inl (B.2.1 1, N, .inl (fun _ => 0)))]) (pc + 2) lv (.ref q :: st)) : V B (bmp E k n) nL w pc lv (.int v :: st) := by
  have C := G.at (k := k) (n := n) (by omega) (by omega)
  obtain ⟨p, l, e, R, s, m, args, below, meth, c, A, Z, k9, n9⟩ := E
  obtain ⟨h1, h2, h3, h4, h5, h6, h7, h8, h9, h10, h11, h12, h13⟩ := C
  obtain ⟨-, e1, e2, e3, e4, -⟩ := G
  have e1 : k9 = 0 := e1
  have e2 : n9 = 0 := e2
  have e3 : mc ≤ R.cells := e3
  have e4 : ms ≤ R.slots := e4
  subst e1; subst e2
  intro H locs ls hP hD hS hl
  refine va_newa (atype := .boolean) (ty := .boolean) (N' := N) (a0 := (N, .inl (fun _ => 0))) h1 h2 (h5 _ harr) rfl h6 hP hD hS h7 (fun _ => rfl) hn0 hN (Nat.le_trans (Nat.mul_le_mul_left N (by decide)) hb) (by omega) (by omega) hd (fun q cA H1 hK1 hP1 hD1 hS1 => ?_)
  have ea : s.vm.findClass ("[" ++ (FieldType.boolean).toString) = some cA := (hK1.2 5 (cA, .boolean) rfl).2
  have eb : s.vm.findClass ("[" ++ (FieldType.boolean).toString) = some (B.2.1 1) := (h6.2 1 (B.2.1 1, .boolean) rfl).2
  have ec : cA = B.2.1 1 := Option.some.inj (ea.symm.trans eb)
  subst ec
  have z := kk q H1 locs ls hP1 hD1 hS1 hl
  rw [← Nat.add_assoc 0 n N] at z
  exact z
theorem v_newqE (G : OkG B E cc nL own fr lo mc ms) (t : Nat) {Cn : String} {cA : ClassId} {v : Int32} {N index : Nat} (ht : (tyk B.2.1)[t]? = some (cA, .object Cn)) (hover : va_AO Cn (stE E)) (hcl : Cond.classLink own index Cn ∈ lw_gd) (hn0 : ¬ v < 0) (hN : v.toNatClampNeg = N) (hb : N * 4 ≤ 536870912) (hk : k + 1 ≤ mc) (hn : n + N ≤ ms) (hd : decode cc pc = .ok (.anewarray index, 3)) (kk : ∀ q : Nat, V B (bmp E (k + 1) (n + N)) nL (w ++ [(q, .inl (cA, N, .inr (.inr (.inr (.inr (fun _ => none))))))]) (pc + 3) lv (.ref q :: st)) : V B (bmp E k n) nL w pc lv (.int v :: st) := by
  have C := G.at (k := k) (n := n) (by omega) (by omega)
  obtain ⟨p, l, e, R, s, m, args, below, meth, c, A, Z, k9, n9⟩ := E
  obtain ⟨h1, h2, h3, h4, h5, h6, h7, h8, h9, h10, h11, h12, h13⟩ := C
  obtain ⟨-, e1, e2, e3, e4, -⟩ := G
  have e1 : k9 = 0 := e1
  have e2 : n9 = 0 := e2
  have e3 : mc ≤ R.cells := e3
  have e4 : ms ≤ R.slots := e4
  subst e1; subst e2
  intro H locs ls hP hD hS hl
  refine va_newq h1 h2 h4 (h5 _ hcl) hover h6 hP hD hS h7 hn0 hN hb (by omega) (by omega) hd (fun q cA' H1 hK1 hP1 hD1 hS1 => ?_)
  obtain ⟨_, _, _, _, _, ea⟩ := (hK1.2 5 (cA', .object Cn) rfl).2
  obtain ⟨_, _, _, _, _, eb⟩ := (h6.2 t _ ht).2
  have ec : cA' = cA := Option.some.inj (ea.symm.trans eb)
  subst ec
  have z := kk q H1 locs ls hP1 hD1 hS1 hl
  rw [← Nat.add_assoc 0 n N] at z
  exact z
end VG
