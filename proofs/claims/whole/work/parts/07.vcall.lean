/-! entries and calls for V -/
section VCALL
variable {B : BX} {E : EX} {cc : ByteArray} {nL : Nat} {own : String} {fr lo : Nat} {w : va_W} {pc : Nat} {lv : List (Nat × Value)} {st : List Value}
variable {n : Nat} {a : Nat → Nat} {sh : Nat → (Nat → Int32) → va_E} {M : S0}

theorem KI_of {wf : S0 → va_W} {y : MethodName} {maxL : Nat} {av : List Value} {Q : Int32 → S0 → Prop} (hy : plainName y.cls = true) (hlv : (lg_sl av).length ≤ maxL) (body : ∀ E : EX, Ok B E cc maxL y.cls fr lo → RetI B E cc maxL wf Q → V B E maxL (wf M) 0 (lv_args 0 av) []) : KI B wf y cc maxL (some .int) fr lo av M Q := by
  intro l sz
  refine Met.ofW (cc := cc) (maxL := maxL) (ret := some .int) hy rfl ?_
  intro p e s m args below meth c s₁ BL hml hv
  obtain ⟨rfl, hsz, hP, hK, hD0, hSF⟩ := hv
  have hts : ∀ w ∈ lw_gd, w.before av.toArray s = true := fun w hw => atoms_spec (ws := Cond.code y cc maxL (some .int) :: lw_gd) BL.pre w (List.mem_cons_of_mem _ hw)
  have hown : s.vm.findClass y.cls = some m.cls := findClass_of_methodNamed BL.named
  subst hsz
  have hD := hD0.self (sz := s.heap.size)
  have hl := lv_entry av (n := maxL) hlv
  rw [lg_entry_eq]
  have hlocks := BL.notSynchronized
  have C : Ok B (p, l, e, (headSpec (Cond.code y cc maxL (some .int) :: lw_gd) (rmm fr lo)).room, s, m, av.toArray, below, meth, c, va_A (wf M) s.heap.size, MQ below (va_Qi Q (fun M1 t => Bw B (va_A (wf M) s.heap.size) (wf M1) t) (va_A (wf M) s.heap.size)) av.toArray s 0 0 (va_A (wf M) s.heap.size), 0, 0) cc maxL y.cls fr lo := ⟨BL.exec, BL.bytes, hml, hown, hts, hK, fun q h => Or.inr h, hlocks, Nat.le_refl _, Nat.le_refl _, hSF, Nat.zero_le _, Nat.zero_le _⟩
  refine body _ C ?_ s.heap [] _ hP hD va_S.rf hl
  intro v M1 pc lv hq hd H locs ls hP1 hD1 hS1 hl1
  exact W.iret BL.exec BL.bytes BL.returns (fun t ht hW => ⟨⟨v, M1, rfl, hq, by rw [ht]; exact hP1, va_K.moved hW.alike hK, hD1⟩, hS1.F ht⟩) hS1.2.2 hd

theorem KZ_of {wf : S0 → va_W} {y : MethodName} {maxL : Nat} {ty : FieldType} {av : List Value} {Q : Int32 → S0 → Prop} (hy : plainName y.cls = true) (hlv : (lg_sl av).length ≤ maxL) (body : ∀ E : EX, Ok B E cc maxL y.cls fr lo → RetZ B E cc maxL wf ty Q → V B E maxL (wf M) 0 (lv_args 0 av) []) : KI B wf y cc maxL (some ty) fr lo av M Q := by
  intro l sz
  refine Met.ofW (cc := cc) (maxL := maxL) (ret := some ty) hy rfl ?_
  intro p e s m args below meth c s₁ BL hml hv
  obtain ⟨rfl, hsz, hP, hK, hD0, hSF⟩ := hv
  have hts : ∀ w ∈ lw_gd, w.before av.toArray s = true := fun w hw => atoms_spec (ws := Cond.code y cc maxL (some ty) :: lw_gd) BL.pre w (List.mem_cons_of_mem _ hw)
  have hown : s.vm.findClass y.cls = some m.cls := findClass_of_methodNamed BL.named
  subst hsz
  have hD := hD0.self (sz := s.heap.size)
  have hl := lv_entry av (n := maxL) hlv
  rw [lg_entry_eq]
  have hlocks := BL.notSynchronized
  have C : Ok B (p, l, e, (headSpec (Cond.code y cc maxL (some ty) :: lw_gd) (rmm fr lo)).room, s, m, av.toArray, below, meth, c, va_A (wf M) s.heap.size, MQ below (va_Qi Q (fun M1 t => Bw B (va_A (wf M) s.heap.size) (wf M1) t) (va_A (wf M) s.heap.size)) av.toArray s 0 0 (va_A (wf M) s.heap.size), 0, 0) cc maxL y.cls fr lo := ⟨BL.exec, BL.bytes, hml, hown, hts, hK, fun q h => Or.inr h, hlocks, Nat.le_refl _, Nat.le_refl _, hSF, Nat.zero_le _, Nat.zero_le _⟩
  refine body _ C ?_ s.heap [] _ hP hD va_S.rf hl
  intro v M1 pc lv hn hq hd H locs ls hP1 hD1 hS1 hl1
  exact W.zret BL.exec BL.bytes BL.returns hn (fun t ht hW => ⟨⟨v, M1, rfl, hq, by rw [ht]; exact hP1, va_K.moved hW.alike hK, hD1⟩, hS1.F ht⟩) hS1.2.2 hd

theorem KL_of {wf : S0 → va_W} {y : MethodName} {maxL : Nat} {av : List Value} {Q : Int64 → S0 → Prop} (hy : plainName y.cls = true) (hlv : (lg_sl av).length ≤ maxL) (body : ∀ E : EX, Ok B E cc maxL y.cls fr lo → RetL B E cc maxL wf Q → V B E maxL (wf M) 0 (lv_args 0 av) []) : KL B wf y cc maxL (some .long) fr lo av M Q := by
  intro l sz
  refine Met.ofW (cc := cc) (maxL := maxL) (ret := some .long) hy rfl ?_
  intro p e s m args below meth c s₁ BL hml hv
  obtain ⟨rfl, hsz, hP, hK, hD0, hSF⟩ := hv
  have hts : ∀ w ∈ lw_gd, w.before av.toArray s = true := fun w hw => atoms_spec (ws := Cond.code y cc maxL (some .long) :: lw_gd) BL.pre w (List.mem_cons_of_mem _ hw)
  have hown : s.vm.findClass y.cls = some m.cls := findClass_of_methodNamed BL.named
  subst hsz
  have hD := hD0.self (sz := s.heap.size)
  have hl := lv_entry av (n := maxL) hlv
  rw [lg_entry_eq]
  have hlocks := BL.notSynchronized
  have C : Ok B (p, l, e, (headSpec (Cond.code y cc maxL (some .long) :: lw_gd) (rmm fr lo)).room, s, m, av.toArray, below, meth, c, va_A (wf M) s.heap.size, MQ below (va_Ql Q (fun M1 t => Bw B (va_A (wf M) s.heap.size) (wf M1) t) (va_A (wf M) s.heap.size)) av.toArray s 0 0 (va_A (wf M) s.heap.size), 0, 0) cc maxL y.cls fr lo := ⟨BL.exec, BL.bytes, hml, hown, hts, hK, fun q h => Or.inr h, hlocks, Nat.le_refl _, Nat.le_refl _, hSF, Nat.zero_le _, Nat.zero_le _⟩
  refine body _ C ?_ s.heap [] _ hP hD va_S.rf hl
  intro v M1 pc lv hq hd H locs ls hP1 hD1 hS1 hl1
  exact W.lret BL.exec BL.bytes BL.returns (fun t ht hW => ⟨⟨v, M1, rfl, hq, by rw [ht]; exact hP1, va_K.moved hW.alike hK, hD1⟩, hS1.F ht⟩) hS1.2.2 hd

theorem KV_of {wf : S0 → va_W} {y : MethodName} {maxL : Nat} {av : List Value} {Q : S0 → Prop} (hy : plainName y.cls = true) (hlv : (lg_sl av).length ≤ maxL) (body : ∀ E : EX, Ok B E cc maxL y.cls fr lo → RetV B E cc maxL wf Q → V B E maxL (wf M) 0 (lv_args 0 av) []) : KV B wf y cc maxL none fr lo av M Q := by
  intro l sz
  refine Met.ofW (cc := cc) (maxL := maxL) (ret := none) hy rfl ?_
  intro p e s m args below meth c s₁ BL hml hv
  obtain ⟨rfl, hsz, hP, hK, hD0, hSF⟩ := hv
  have hts : ∀ w ∈ lw_gd, w.before av.toArray s = true := fun w hw => atoms_spec (ws := Cond.code y cc maxL (none) :: lw_gd) BL.pre w (List.mem_cons_of_mem _ hw)
  have hown : s.vm.findClass y.cls = some m.cls := findClass_of_methodNamed BL.named
  subst hsz
  have hD := hD0.self (sz := s.heap.size)
  have hl := lv_entry av (n := maxL) hlv
  rw [lg_entry_eq]
  have hlocks := BL.notSynchronized
  have C : Ok B (p, l, e, (headSpec (Cond.code y cc maxL (none) :: lw_gd) (rmm fr lo)).room, s, m, av.toArray, below, meth, c, va_A (wf M) s.heap.size, MQ below (va_Qv Q (fun M1 t => Bw B (va_A (wf M) s.heap.size) (wf M1) t) (va_A (wf M) s.heap.size)) av.toArray s 0 0 (va_A (wf M) s.heap.size), 0, 0) cc maxL y.cls fr lo := ⟨BL.exec, BL.bytes, hml, hown, hts, hK, fun q h => Or.inr h, hlocks, Nat.le_refl _, Nat.le_refl _, hSF, Nat.zero_le _, Nat.zero_le _⟩
  refine body _ C ?_ s.heap [] _ hP hD va_S.rf hl
  intro M1 pc lv hq hd H locs ls hP1 hD1 hS1 hl1
  exact W.vret BL.exec BL.bytes BL.returns (fun t ht hW => ⟨⟨M1, rfl, hq, by rw [ht]; exact hP1, va_K.moved hW.alike hK, hD1⟩, hS1.F ht⟩) hS1.2.2 hd

theorem KA_of {wf : S0 → va_W} {y : MethodName} {maxL : Nat} {rt : FieldType} {av : List Value} {Q : Option Nat → S0 → Prop} (hy : plainName y.cls = true) (hlv : (lg_sl av).length ≤ maxL) (body : ∀ E : EX, Ok B E cc maxL y.cls fr lo → RetA B E cc maxL wf a Q → V B E maxL (wf M) 0 (lv_args 0 av) []) : ((∃ n, rt = .object n) ∨ ∃ t, rt = .array t) → KA B wf a y cc maxL (some rt) fr lo av M Q := by
  intro hrt l sz
  refine Met.ofW (cc := cc) (maxL := maxL) (ret := some rt) hy rfl ?_
  intro p e s m args below meth c s₁ BL hml hv
  obtain ⟨rfl, hsz, hP, hK, hD0, hSF⟩ := hv
  have hts : ∀ w ∈ lw_gd, w.before av.toArray s = true := fun w hw => atoms_spec (ws := Cond.code y cc maxL (some rt) :: lw_gd) BL.pre w (List.mem_cons_of_mem _ hw)
  have hown : s.vm.findClass y.cls = some m.cls := findClass_of_methodNamed BL.named
  subst hsz
  have hD := hD0.self (sz := s.heap.size)
  have hl := lv_entry av (n := maxL) hlv
  rw [lg_entry_eq]
  have hlocks := BL.notSynchronized
  have C : Ok B (p, l, e, (headSpec (Cond.code y cc maxL (some rt) :: lw_gd) (rmm fr lo)).room, s, m, av.toArray, below, meth, c, va_A (wf M) s.heap.size, MQ below (va_Qq (fun r M1 => ∃ o : Option Nat, r = o.map a ∧ Q o M1) (fun M1 t => Bw B (va_A (wf M) s.heap.size) (wf M1) t) (va_A (wf M) s.heap.size)) av.toArray s 0 0 (va_A (wf M) s.heap.size), 0, 0) cc maxL y.cls fr lo := ⟨BL.exec, BL.bytes, hml, hown, hts, hK, fun q h => Or.inr h, hlocks, Nat.le_refl _, Nat.le_refl _, hSF, Nat.zero_le _, Nat.zero_le _⟩
  refine body _ C ?_ s.heap [] _ hP hD va_S.rf hl
  intro o v M1 pc lv hv hq hd H locs ls hP1 hD1 hS1 hl1
  subst hv
  exact W.aret BL.exec BL.bytes BL.returns hrt (va_rf_or _) (fun t ht hW => ⟨⟨o.map a, M1, rfl, ⟨o, rfl, hq⟩, by rw [ht]; exact hP1, va_K.moved hW.alike hK, hD1⟩, hS1.F ht⟩) hS1.2.2 hd

/-- what the tables say of a call -/
def CWV (own : String) (idx : Nat) (y : MethodName) (b : ByteArray) (mL : Nat) (ret : Option FieldType) (np : Nat) : Prop := Cond.methodLink own idx y ∈ lw_gd ∧ Cond.instanceMethod y ∈ lw_gd ∧ Cond.selects y.cls y y ∈ lw_gd ∧ Cond.initialized y.cls ∈ lw_gd ∧ Cond.code y b mL ret ∈ lw_gd ∧ y.cls ≠ "java/lang/invoke/MethodHandle" ∧ y.cls ≠ "java/lang/invoke/VarHandle" ∧ (parseMethodDescriptor y.desc).map (fun d => d.parameters.length) = some np
def CWS (own : String) (idx : Nat) (y : MethodName) (b : ByteArray) (mL : Nat) (ret : Option FieldType) (np : Nat) : Prop := Cond.methodLink own idx y ∈ lw_gd ∧ Cond.static y ∈ lw_gd ∧ Cond.initialized y.cls ∈ lw_gd ∧ Cond.code y b mL ret ∈ lw_gd ∧ y.cls ≠ "java/lang/invoke/MethodHandle" ∧ y.cls ≠ "java/lang/invoke/VarHandle" ∧ (parseMethodDescriptor y.desc).map (fun d => d.parameters.length) = some np
def CWSN (own : String) (idx : Nat) (y : MethodName) (host : String) (b : ByteArray) (mL : Nat) (ret : Option FieldType) (np : Nat) : Prop := (own, idx, y) ∈ nest7 ∧ host = RX5 ∧ Cond.static y ∈ lw_gd ∧ Cond.initialized y.cls ∈ lw_gd ∧ Cond.code y b mL ret ∈ lw_gd ∧ y.cls ≠ "java/lang/invoke/MethodHandle" ∧ y.cls ≠ "java/lang/invoke/VarHandle" ∧ (parseMethodDescriptor y.desc).map (fun d => d.parameters.length) = some np
theorem CWV.cw {y : MethodName} {b : ByteArray} {mL np idx : Nat} {ret : Option FieldType} {s : State} {args : Array Value} {R : Room} {fr' lo' : Nat} (h : CWV own idx y b mL ret np) (hts : ∀ w ∈ lw_gd, w.before args s = true) (hf : fr' + 1 ≤ fr) (hl : 8 + (mL + 11) + lo' ≤ lo) (h9 : fr ≤ R.frames) (h10 : lo ≤ R.locals) : CallW R s args own y.cls idx y b mL ret (Cond.code y b mL ret :: lw_gd) (rmm fr' lo') 0 0 np := by
  obtain ⟨g1, g2, g3, g4, g5, g6, g7, g8⟩ := h
  exact cwV np hts (lw_good y b mL ret [.methodLink own idx y, .instanceMethod y, .selects y.cls y y, .initialized y.cls] (WV.all ⟨g1, g2, g3, g4⟩) g5) rfl rfl rfl ⟨rfl, g6, g7, g8⟩ ⟨Nat.le_trans hf h9, Nat.le_trans hl h10⟩
theorem CWS.cw {y : MethodName} {b : ByteArray} {mL np idx : Nat} {ret : Option FieldType} {s : State} {args : Array Value} {R : Room} {fr' lo' : Nat} (h : CWS own idx y b mL ret np) (hts : ∀ w ∈ lw_gd, w.before args s = true) (hf : fr' + 1 ≤ fr) (hl : 8 + (mL + 11) + lo' ≤ lo) (h9 : fr ≤ R.frames) (h10 : lo ≤ R.locals) : CallB R s args own idx y b mL ret (Cond.code y b mL ret :: lw_gd) (rmm fr' lo') 0 0 np ∧ (Cond.static y).before args s = true := by
  obtain ⟨g1, g2, g4, g5, g6, g7, g8⟩ := h
  refine va_cwS np hts (lw_good y b mL ret [.methodLink own idx y, .static y, .initialized y.cls] ?_ g5) rfl rfl rfl ⟨g6, g7, g8⟩ ⟨Nat.le_trans hf h9, Nat.le_trans hl h10⟩
  intro w hw
  simp only [List.mem_cons, List.not_mem_nil, or_false] at hw
  rcases hw with rfl | rfl | rfl
  · exact g1
  · exact g2
  · exact g4
theorem CWSN.cw {y : MethodName} {b : ByteArray} {mL np idx : Nat} {host : String} {ret : Option FieldType} {s : State} {args : Array Value} {R : Room} {fr' lo' : Nat} (h : CWSN own idx y host b mL ret np) (hN : va_Nw (.methodLinkNest own idx y RX5) s) (hts : ∀ w ∈ lw_gd, w.before args s = true) (hf : fr' + 1 ≤ fr) (hl : 8 + (mL + 11) + lo' ≤ lo) (h9 : fr ≤ R.frames) (h10 : lo ≤ R.locals) : va_CN R s args own idx y host b mL ret (Cond.code y b mL ret :: lw_gd) (rmm fr' lo') 0 0 np ∧ (Cond.static y).before args s = true ∧ True := by
  obtain ⟨g1, rfl, g2, g4, g5, g6, g7, g8⟩ := h
  exact ⟨va_cnB np hts (lw_good y b mL ret [] (fun _ h => absurd h List.not_mem_nil) g5) rfl rfl rfl hN (hts _ g4) ⟨g6, g7, g8⟩ ⟨Nat.le_trans hf h9, Nat.le_trans hl h10⟩, hts _ g2, trivial⟩
theorem Pw_at {A : Nat → Prop} {s : State} {H : Heap} {locs : List Loc} (hP : va_P B.1 cls7 w H) (hD : va_D A w) (hS : va_S A s.heap H locs) (hA : ∀ q, s.heap.size ≤ q → A q) (hK : va_K B.1 cls7 (tyk B.2.1) s) (hSF : SF B A s s.heap) : ∀ U : State, U.heap = H → s.WarmedH U.vm → Pw B w H.size U := by
  intro U hU hW
  refine ⟨by rw [hU], by rw [hU]; exact hP, va_K.moved hW.alike hK, hD.weaken (fun _ _ _ _ => trivial), ?_⟩
  rw [hU]
  exact SF.warm (SF.narrow (SF.kept hSF hS.2.1) (wl_free hD hS hA)) hW

theorem v_callVi (C : Ok B E cc nL own fr lo) {y : MethodName} {b : ByteArray} {mL fr' lo' np idx : Nat} {ret : Option FieldType} {As rest : List Value} {Q' : Int32 → S0 → Prop} {k ci N' : Nat} {fs : List Value} {T' : u_T} (hM : KI B (wl n a sh) y b mL ret fr' lo' (.ref (a k) :: As) M Q') (hw : CWV own idx y b mL ret np) (hfr : fr' + 1 ≤ fr) (hlo : 8 + (mL + 11) + lo' ≤ lo) (hk : k < n) (hs : sh k (M k) = .inr (ci, fs)) (hci : cls7[ci]? = some (y.cls, T', N')) (hn : As.length = np) (hst : st = As.reverse ++ .ref (a k) :: rest) (hcat : (rest.map fun v => v.category).sum ≤ 8) (hd : decode cc pc = .ok (.invokevirtual idx, 3)) (kk : ∀ (r : Int32) (M1 : S0), Q' r M1 → V B E nL (wl n a sh M1) (pc + 3) lv (.int r :: rest)) : V B E nL (wl n a sh M) pc lv st := by
  obtain ⟨p, l, e, R, s, m, args, below, meth, c, A, Z, k9, n9⟩ := E
  obtain ⟨h1, h2, h3, h4, h5, h6, h7, h8, h9, h10, h11, h12, h13⟩ := C
  intro H locs ls hP hD hS hl
  subst hst
  have hF := wl_free hD hS h7
  refine va_calli (va_runV (As := As) (rest := rest) ⟨h1, h2, h3, h4, h5⟩ (hM l H.size) (hw.cw h5 hfr hlo h9 h10) ⟨Pw_blind, va_recv h6 hP hci (q0 := k) (by rw [wl_get hk, hs]), fun U hU hW => ⟨rfl, Pw_at hP hD hS h7 h6 h11 U hU hW⟩⟩ rfl hn hl.1 rfl (lv_room hcat) hd ⟨h12, h13⟩) hS (fun q _ h => hF q h) hF (fun r M1 t H1 locs1 ht hvm hq hB hz1 hk1 hS1 => ?_)
  obtain ⟨hP1, hK1, hD1⟩ := hB
  rw [ht] at hP1
  exact kk r M1 hq H1 locs1 ls hP1 (hD1.weaken (fun _ q _ h => hF q.1 h)) hS1 hl

theorem v_callVl (C : Ok B E cc nL own fr lo) {y : MethodName} {b : ByteArray} {mL fr' lo' np idx : Nat} {ret : Option FieldType} {As rest : List Value} {Q' : Int64 → S0 → Prop} {k ci N' : Nat} {fs : List Value} {T' : u_T} (hM : KL B (wl n a sh) y b mL ret fr' lo' (.ref (a k) :: As) M Q') (hw : CWV own idx y b mL ret np) (hfr : fr' + 1 ≤ fr) (hlo : 8 + (mL + 11) + lo' ≤ lo) (hk : k < n) (hs : sh k (M k) = .inr (ci, fs)) (hci : cls7[ci]? = some (y.cls, T', N')) (hn : As.length = np) (hst : st = As.reverse ++ .ref (a k) :: rest) (hcat : (rest.map fun v => v.category).sum ≤ 8) (hd : decode cc pc = .ok (.invokevirtual idx, 3)) (kk : ∀ (r : Int64) (M1 : S0), Q' r M1 → V B E nL (wl n a sh M1) (pc + 3) lv (.long r :: rest)) : V B E nL (wl n a sh M) pc lv st := by
  obtain ⟨p, l, e, R, s, m, args, below, meth, c, A, Z, k9, n9⟩ := E
  obtain ⟨h1, h2, h3, h4, h5, h6, h7, h8, h9, h10, h11, h12, h13⟩ := C
  intro H locs ls hP hD hS hl
  subst hst
  have hF := wl_free hD hS h7
  refine va_calll (va_runV (As := As) (rest := rest) ⟨h1, h2, h3, h4, h5⟩ (hM l H.size) (hw.cw h5 hfr hlo h9 h10) ⟨Pw_blind, va_recv h6 hP hci (q0 := k) (by rw [wl_get hk, hs]), fun U hU hW => ⟨rfl, Pw_at hP hD hS h7 h6 h11 U hU hW⟩⟩ rfl hn hl.1 rfl (lv_room hcat) hd ⟨h12, h13⟩) hS (fun q _ h => hF q h) hF (fun r M1 t H1 locs1 ht hvm hq hB hz1 hk1 hS1 => ?_)
  obtain ⟨hP1, hK1, hD1⟩ := hB
  rw [ht] at hP1
  exact kk r M1 hq H1 locs1 ls hP1 (hD1.weaken (fun _ q _ h => hF q.1 h)) hS1 hl

theorem v_callVv (C : Ok B E cc nL own fr lo) {y : MethodName} {b : ByteArray} {mL fr' lo' np idx : Nat} {ret : Option FieldType} {As rest : List Value} {Q' : S0 → Prop} {k ci N' : Nat} {fs : List Value} {T' : u_T} (hM : KV B (wl n a sh) y b mL ret fr' lo' (.ref (a k) :: As) M Q') (hw : CWV own idx y b mL ret np) (hfr : fr' + 1 ≤ fr) (hlo : 8 + (mL + 11) + lo' ≤ lo) (hk : k < n) (hs : sh k (M k) = .inr (ci, fs)) (hci : cls7[ci]? = some (y.cls, T', N')) (hn : As.length = np) (hst : st = As.reverse ++ .ref (a k) :: rest) (hcat : (rest.map fun v => v.category).sum ≤ 8) (hd : decode cc pc = .ok (.invokevirtual idx, 3)) (kk : ∀ (M1 : S0), Q' M1 → V B E nL (wl n a sh M1) (pc + 3) lv rest) : V B E nL (wl n a sh M) pc lv st := by
  obtain ⟨p, l, e, R, s, m, args, below, meth, c, A, Z, k9, n9⟩ := E
  obtain ⟨h1, h2, h3, h4, h5, h6, h7, h8, h9, h10, h11, h12, h13⟩ := C
  intro H locs ls hP hD hS hl
  subst hst
  have hF := wl_free hD hS h7
  refine va_callv (va_runV (As := As) (rest := rest) ⟨h1, h2, h3, h4, h5⟩ (hM l H.size) (hw.cw h5 hfr hlo h9 h10) ⟨Pw_blind, va_recv h6 hP hci (q0 := k) (by rw [wl_get hk, hs]), fun U hU hW => ⟨rfl, Pw_at hP hD hS h7 h6 h11 U hU hW⟩⟩ rfl hn hl.1 rfl (lv_room hcat) hd ⟨h12, h13⟩) hS (fun q _ h => hF q h) hF (fun M1 t H1 locs1 ht hvm hq hB hz1 hk1 hS1 => ?_)
  obtain ⟨hP1, hK1, hD1⟩ := hB
  rw [ht] at hP1
  exact kk M1 hq H1 locs1 ls hP1 (hD1.weaken (fun _ q _ h => hF q.1 h)) hS1 hl

theorem v_callVa (C : Ok B E cc nL own fr lo) {y : MethodName} {b : ByteArray} {mL fr' lo' np idx : Nat} {ret : Option FieldType} {As rest : List Value} {Q' : Option Nat → S0 → Prop} {k ci N' : Nat} {fs : List Value} {T' : u_T} (hM : KA B (wl n a sh) a y b mL ret fr' lo' (.ref (a k) :: As) M Q') (hw : CWV own idx y b mL ret np) (hfr : fr' + 1 ≤ fr) (hlo : 8 + (mL + 11) + lo' ≤ lo) (hk : k < n) (hs : sh k (M k) = .inr (ci, fs)) (hci : cls7[ci]? = some (y.cls, T', N')) (hn : As.length = np) (hst : st = As.reverse ++ .ref (a k) :: rest) (hcat : (rest.map fun v => v.category).sum ≤ 8) (hd : decode cc pc = .ok (.invokevirtual idx, 3)) (kk : ∀ (o : Option Nat) (M1 : S0), Q' o M1 → V B E nL (wl n a sh M1) (pc + 3) lv (va_rf (o.map a) :: rest)) : V B E nL (wl n a sh M) pc lv st := by
  obtain ⟨p, l, e, R, s, m, args, below, meth, c, A, Z, k9, n9⟩ := E
  obtain ⟨h1, h2, h3, h4, h5, h6, h7, h8, h9, h10, h11, h12, h13⟩ := C
  intro H locs ls hP hD hS hl
  subst hst
  have hF := wl_free hD hS h7
  refine va_callq (va_runV (As := As) (rest := rest) ⟨h1, h2, h3, h4, h5⟩ (hM l H.size) (hw.cw h5 hfr hlo h9 h10) ⟨Pw_blind, va_recv h6 hP hci (q0 := k) (by rw [wl_get hk, hs]), fun U hU hW => ⟨rfl, Pw_at hP hD hS h7 h6 h11 U hU hW⟩⟩ rfl hn hl.1 rfl (lv_room hcat) hd ⟨h12, h13⟩) hS (fun q _ h => hF q h) hF (fun r M1 t H1 locs1 ht hvm hq hB hz1 hk1 hS1 => ?_)
  obtain ⟨o, rfl, hq⟩ := hq
  obtain ⟨hP1, hK1, hD1⟩ := hB
  rw [ht] at hP1
  exact kk o M1 hq H1 locs1 ls hP1 (hD1.weaken (fun _ q _ h => hF q.1 h)) hS1 hl

theorem v_callSi (C : Ok B E cc nL own fr lo) {y : MethodName} {b : ByteArray} {mL fr' lo' np idx : Nat} {ret : Option FieldType} {As rest : List Value} {Q' : Int32 → S0 → Prop} (hM : KI B (wl n a sh) y b mL ret fr' lo' (As) M Q') (hw : CWS own idx y b mL ret np) (hfr : fr' + 1 ≤ fr) (hlo : 8 + (mL + 11) + lo' ≤ lo) (hn : As.length = np) (hst : st = As.reverse ++ rest) (hcat : (rest.map fun v => v.category).sum ≤ 8) (hd : decode cc pc = .ok (.invokestatic idx, 3)) (kk : ∀ (r : Int32) (M1 : S0), Q' r M1 → V B E nL (wl n a sh M1) (pc + 3) lv (.int r :: rest)) : V B E nL (wl n a sh M) pc lv st := by
  obtain ⟨p, l, e, R, s, m, args, below, meth, c, A, Z, k9, n9⟩ := E
  obtain ⟨h1, h2, h3, h4, h5, h6, h7, h8, h9, h10, h11, h12, h13⟩ := C
  intro H locs ls hP hD hS hl
  subst hst
  have hF := wl_free hD hS h7
  refine va_calli (va_runS (As := As) (rest := rest) ⟨h1, h2, h3, h4, h5⟩ (hM l H.size) (hw.cw h5 hfr hlo h9 h10) ⟨Pw_blind, fun U hU hW => ⟨rfl, Pw_at hP hD hS h7 h6 h11 U hU hW⟩⟩ rfl hn hl.1 rfl (lv_room hcat) hd ⟨h12, h13⟩) hS (fun q _ h => hF q h) hF (fun r M1 t H1 locs1 ht hvm hq hB hz1 hk1 hS1 => ?_)
  obtain ⟨hP1, hK1, hD1⟩ := hB
  rw [ht] at hP1
  exact kk r M1 hq H1 locs1 ls hP1 (hD1.weaken (fun _ q _ h => hF q.1 h)) hS1 hl

theorem v_callSl (C : Ok B E cc nL own fr lo) {y : MethodName} {b : ByteArray} {mL fr' lo' np idx : Nat} {ret : Option FieldType} {As rest : List Value} {Q' : Int64 → S0 → Prop} (hM : KL B (wl n a sh) y b mL ret fr' lo' (As) M Q') (hw : CWS own idx y b mL ret np) (hfr : fr' + 1 ≤ fr) (hlo : 8 + (mL + 11) + lo' ≤ lo) (hn : As.length = np) (hst : st = As.reverse ++ rest) (hcat : (rest.map fun v => v.category).sum ≤ 8) (hd : decode cc pc = .ok (.invokestatic idx, 3)) (kk : ∀ (r : Int64) (M1 : S0), Q' r M1 → V B E nL (wl n a sh M1) (pc + 3) lv (.long r :: rest)) : V B E nL (wl n a sh M) pc lv st := by
  obtain ⟨p, l, e, R, s, m, args, below, meth, c, A, Z, k9, n9⟩ := E
  obtain ⟨h1, h2, h3, h4, h5, h6, h7, h8, h9, h10, h11, h12, h13⟩ := C
  intro H locs ls hP hD hS hl
  subst hst
  have hF := wl_free hD hS h7
  refine va_calll (va_runS (As := As) (rest := rest) ⟨h1, h2, h3, h4, h5⟩ (hM l H.size) (hw.cw h5 hfr hlo h9 h10) ⟨Pw_blind, fun U hU hW => ⟨rfl, Pw_at hP hD hS h7 h6 h11 U hU hW⟩⟩ rfl hn hl.1 rfl (lv_room hcat) hd ⟨h12, h13⟩) hS (fun q _ h => hF q h) hF (fun r M1 t H1 locs1 ht hvm hq hB hz1 hk1 hS1 => ?_)
  obtain ⟨hP1, hK1, hD1⟩ := hB
  rw [ht] at hP1
  exact kk r M1 hq H1 locs1 ls hP1 (hD1.weaken (fun _ q _ h => hF q.1 h)) hS1 hl

theorem v_callSv (C : Ok B E cc nL own fr lo) {y : MethodName} {b : ByteArray} {mL fr' lo' np idx : Nat} {ret : Option FieldType} {As rest : List Value} {Q' : S0 → Prop} (hM : KV B (wl n a sh) y b mL ret fr' lo' (As) M Q') (hw : CWS own idx y b mL ret np) (hfr : fr' + 1 ≤ fr) (hlo : 8 + (mL + 11) + lo' ≤ lo) (hn : As.length = np) (hst : st = As.reverse ++ rest) (hcat : (rest.map fun v => v.category).sum ≤ 8) (hd : decode cc pc = .ok (.invokestatic idx, 3)) (kk : ∀ (M1 : S0), Q' M1 → V B E nL (wl n a sh M1) (pc + 3) lv rest) : V B E nL (wl n a sh M) pc lv st := by
  obtain ⟨p, l, e, R, s, m, args, below, meth, c, A, Z, k9, n9⟩ := E
  obtain ⟨h1, h2, h3, h4, h5, h6, h7, h8, h9, h10, h11, h12, h13⟩ := C
  intro H locs ls hP hD hS hl
  subst hst
  have hF := wl_free hD hS h7
  refine va_callv (va_runS (As := As) (rest := rest) ⟨h1, h2, h3, h4, h5⟩ (hM l H.size) (hw.cw h5 hfr hlo h9 h10) ⟨Pw_blind, fun U hU hW => ⟨rfl, Pw_at hP hD hS h7 h6 h11 U hU hW⟩⟩ rfl hn hl.1 rfl (lv_room hcat) hd ⟨h12, h13⟩) hS (fun q _ h => hF q h) hF (fun M1 t H1 locs1 ht hvm hq hB hz1 hk1 hS1 => ?_)
  obtain ⟨hP1, hK1, hD1⟩ := hB
  rw [ht] at hP1
  exact kk M1 hq H1 locs1 ls hP1 (hD1.weaken (fun _ q _ h => hF q.1 h)) hS1 hl

theorem v_callSa (C : Ok B E cc nL own fr lo) {y : MethodName} {b : ByteArray} {mL fr' lo' np idx : Nat} {ret : Option FieldType} {As rest : List Value} {Q' : Option Nat → S0 → Prop} (hM : KA B (wl n a sh) a y b mL ret fr' lo' (As) M Q') (hw : CWS own idx y b mL ret np) (hfr : fr' + 1 ≤ fr) (hlo : 8 + (mL + 11) + lo' ≤ lo) (hn : As.length = np) (hst : st = As.reverse ++ rest) (hcat : (rest.map fun v => v.category).sum ≤ 8) (hd : decode cc pc = .ok (.invokestatic idx, 3)) (kk : ∀ (o : Option Nat) (M1 : S0), Q' o M1 → V B E nL (wl n a sh M1) (pc + 3) lv (va_rf (o.map a) :: rest)) : V B E nL (wl n a sh M) pc lv st := by
  obtain ⟨p, l, e, R, s, m, args, below, meth, c, A, Z, k9, n9⟩ := E
  obtain ⟨h1, h2, h3, h4, h5, h6, h7, h8, h9, h10, h11, h12, h13⟩ := C
  intro H locs ls hP hD hS hl
  subst hst
  have hF := wl_free hD hS h7
  refine va_callq (va_runS (As := As) (rest := rest) ⟨h1, h2, h3, h4, h5⟩ (hM l H.size) (hw.cw h5 hfr hlo h9 h10) ⟨Pw_blind, fun U hU hW => ⟨rfl, Pw_at hP hD hS h7 h6 h11 U hU hW⟩⟩ rfl hn hl.1 rfl (lv_room hcat) hd ⟨h12, h13⟩) hS (fun q _ h => hF q h) hF (fun r M1 t H1 locs1 ht hvm hq hB hz1 hk1 hS1 => ?_)
  obtain ⟨o, rfl, hq⟩ := hq
  obtain ⟨hP1, hK1, hD1⟩ := hB
  rw [ht] at hP1
  exact kk o M1 hq H1 locs1 ls hP1 (hD1.weaken (fun _ q _ h => hF q.1 h)) hS1 hl

theorem v_callNi (C : Ok B E cc nL own fr lo) {y : MethodName} {b : ByteArray} {mL fr' lo' np idx : Nat} {ret : Option FieldType} {As rest : List Value} {Q' : Int32 → S0 → Prop} {host : String} (hM : KI B (wl n a sh) y b mL ret fr' lo' (As) M Q') (hw : CWSN own idx y host b mL ret np) (hfr : fr' + 1 ≤ fr) (hlo : 8 + (mL + 11) + lo' ≤ lo) (hn : As.length = np) (hst : st = As.reverse ++ rest) (hcat : (rest.map fun v => v.category).sum ≤ 8) (hd : decode cc pc = .ok (.invokestatic idx, 3)) (kk : ∀ (r : Int32) (M1 : S0), Q' r M1 → V B E nL (wl n a sh M1) (pc + 3) lv (.int r :: rest)) : V B E nL (wl n a sh M) pc lv st := by
  obtain ⟨p, l, e, R, s, m, args, below, meth, c, A, Z, k9, n9⟩ := E
  obtain ⟨h1, h2, h3, h4, h5, h6, h7, h8, h9, h10, h11, h12, h13⟩ := C
  intro H locs ls hP hD hS hl
  subst hst
  have hF := wl_free hD hS h7
  refine va_calli (va_runSN (As := As) (rest := rest) ⟨h1, h2, h3, h4, h5⟩ (hM l H.size) (hw.cw (h11.2.2.2.2 _ hw.1) h5 hfr hlo h9 h10) ⟨Pw_blind, fun U hU hW => ⟨rfl, Pw_at hP hD hS h7 h6 h11 U hU hW⟩⟩ rfl hn hl.1 rfl (lv_room hcat) hd ⟨h12, h13⟩) hS (fun q _ h => hF q h) hF (fun r M1 t H1 locs1 ht hvm hq hB hz1 hk1 hS1 => ?_)
  obtain ⟨hP1, hK1, hD1⟩ := hB
  rw [ht] at hP1
  exact kk r M1 hq H1 locs1 ls hP1 (hD1.weaken (fun _ q _ h => hF q.1 h)) hS1 hl

theorem v_callNl (C : Ok B E cc nL own fr lo) {y : MethodName} {b : ByteArray} {mL fr' lo' np idx : Nat} {ret : Option FieldType} {As rest : List Value} {Q' : Int64 → S0 → Prop} {host : String} (hM : KL B (wl n a sh) y b mL ret fr' lo' (As) M Q') (hw : CWSN own idx y host b mL ret np) (hfr : fr' + 1 ≤ fr) (hlo : 8 + (mL + 11) + lo' ≤ lo) (hn : As.length = np) (hst : st = As.reverse ++ rest) (hcat : (rest.map fun v => v.category).sum ≤ 8) (hd : decode cc pc = .ok (.invokestatic idx, 3)) (kk : ∀ (r : Int64) (M1 : S0), Q' r M1 → V B E nL (wl n a sh M1) (pc + 3) lv (.long r :: rest)) : V B E nL (wl n a sh M) pc lv st := by
  obtain ⟨p, l, e, R, s, m, args, below, meth, c, A, Z, k9, n9⟩ := E
  obtain ⟨h1, h2, h3, h4, h5, h6, h7, h8, h9, h10, h11, h12, h13⟩ := C
  intro H locs ls hP hD hS hl
  subst hst
  have hF := wl_free hD hS h7
  refine va_calll (va_runSN (As := As) (rest := rest) ⟨h1, h2, h3, h4, h5⟩ (hM l H.size) (hw.cw (h11.2.2.2.2 _ hw.1) h5 hfr hlo h9 h10) ⟨Pw_blind, fun U hU hW => ⟨rfl, Pw_at hP hD hS h7 h6 h11 U hU hW⟩⟩ rfl hn hl.1 rfl (lv_room hcat) hd ⟨h12, h13⟩) hS (fun q _ h => hF q h) hF (fun r M1 t H1 locs1 ht hvm hq hB hz1 hk1 hS1 => ?_)
  obtain ⟨hP1, hK1, hD1⟩ := hB
  rw [ht] at hP1
  exact kk r M1 hq H1 locs1 ls hP1 (hD1.weaken (fun _ q _ h => hF q.1 h)) hS1 hl

theorem v_callNv (C : Ok B E cc nL own fr lo) {y : MethodName} {b : ByteArray} {mL fr' lo' np idx : Nat} {ret : Option FieldType} {As rest : List Value} {Q' : S0 → Prop} {host : String} (hM : KV B (wl n a sh) y b mL ret fr' lo' (As) M Q') (hw : CWSN own idx y host b mL ret np) (hfr : fr' + 1 ≤ fr) (hlo : 8 + (mL + 11) + lo' ≤ lo) (hn : As.length = np) (hst : st = As.reverse ++ rest) (hcat : (rest.map fun v => v.category).sum ≤ 8) (hd : decode cc pc = .ok (.invokestatic idx, 3)) (kk : ∀ (M1 : S0), Q' M1 → V B E nL (wl n a sh M1) (pc + 3) lv rest) : V B E nL (wl n a sh M) pc lv st := by
  obtain ⟨p, l, e, R, s, m, args, below, meth, c, A, Z, k9, n9⟩ := E
  obtain ⟨h1, h2, h3, h4, h5, h6, h7, h8, h9, h10, h11, h12, h13⟩ := C
  intro H locs ls hP hD hS hl
  subst hst
  have hF := wl_free hD hS h7
  refine va_callv (va_runSN (As := As) (rest := rest) ⟨h1, h2, h3, h4, h5⟩ (hM l H.size) (hw.cw (h11.2.2.2.2 _ hw.1) h5 hfr hlo h9 h10) ⟨Pw_blind, fun U hU hW => ⟨rfl, Pw_at hP hD hS h7 h6 h11 U hU hW⟩⟩ rfl hn hl.1 rfl (lv_room hcat) hd ⟨h12, h13⟩) hS (fun q _ h => hF q h) hF (fun M1 t H1 locs1 ht hvm hq hB hz1 hk1 hS1 => ?_)
  obtain ⟨hP1, hK1, hD1⟩ := hB
  rw [ht] at hP1
  exact kk M1 hq H1 locs1 ls hP1 (hD1.weaken (fun _ q _ h => hF q.1 h)) hS1 hl

theorem v_callNa (C : Ok B E cc nL own fr lo) {y : MethodName} {b : ByteArray} {mL fr' lo' np idx : Nat} {ret : Option FieldType} {As rest : List Value} {Q' : Option Nat → S0 → Prop} {host : String} (hM : KA B (wl n a sh) a y b mL ret fr' lo' (As) M Q') (hw : CWSN own idx y host b mL ret np) (hfr : fr' + 1 ≤ fr) (hlo : 8 + (mL + 11) + lo' ≤ lo) (hn : As.length = np) (hst : st = As.reverse ++ rest) (hcat : (rest.map fun v => v.category).sum ≤ 8) (hd : decode cc pc = .ok (.invokestatic idx, 3)) (kk : ∀ (o : Option Nat) (M1 : S0), Q' o M1 → V B E nL (wl n a sh M1) (pc + 3) lv (va_rf (o.map a) :: rest)) : V B E nL (wl n a sh M) pc lv st := by
  obtain ⟨p, l, e, R, s, m, args, below, meth, c, A, Z, k9, n9⟩ := E
  obtain ⟨h1, h2, h3, h4, h5, h6, h7, h8, h9, h10, h11, h12, h13⟩ := C
  intro H locs ls hP hD hS hl
  subst hst
  have hF := wl_free hD hS h7
  refine va_callq (va_runSN (As := As) (rest := rest) ⟨h1, h2, h3, h4, h5⟩ (hM l H.size) (hw.cw (h11.2.2.2.2 _ hw.1) h5 hfr hlo h9 h10) ⟨Pw_blind, fun U hU hW => ⟨rfl, Pw_at hP hD hS h7 h6 h11 U hU hW⟩⟩ rfl hn hl.1 rfl (lv_room hcat) hd ⟨h12, h13⟩) hS (fun q _ h => hF q h) hF (fun r M1 t H1 locs1 ht hvm hq hB hz1 hk1 hS1 => ?_)
  obtain ⟨o, rfl, hq⟩ := hq
  obtain ⟨hP1, hK1, hD1⟩ := hB
  rw [ht] at hP1
  exact kk o M1 hq H1 locs1 ls hP1 (hD1.weaken (fun _ q _ h => hF q.1 h)) hS1 hl
end VCALL
