/-! calls on a part of the world -/
def CWI (own : String) (idx : Nat) (y : MethodName) (b : ByteArray) (mL np : Nat) : Prop := Cond.methodLink own idx y ∈ lw_gd ∧ Cond.instanceMethod y ∈ lw_gd ∧ Cond.initialized y.cls ∈ lw_gd ∧ Cond.code y b mL none ∈ lw_gd ∧ y.name = "<init>" ∧ y.cls ≠ "java/lang/invoke/MethodHandle" ∧ y.cls ≠ "java/lang/invoke/VarHandle" ∧ (parseMethodDescriptor y.desc).map (fun d => d.parameters.length) = some np
def CWIN (own : String) (idx : Nat) (y : MethodName) (b : ByteArray) (mL np : Nat) : Prop := (own, idx, y) ∈ nest7 ∧ Cond.instanceMethod y ∈ lw_gd ∧ Cond.initialized y.cls ∈ lw_gd ∧ Cond.code y b mL none ∈ lw_gd ∧ y.name = "<init>" ∧ y.cls ≠ "java/lang/invoke/MethodHandle" ∧ y.cls ≠ "java/lang/invoke/VarHandle" ∧ (parseMethodDescriptor y.desc).map (fun d => d.parameters.length) = some np
section VPT
variable {B : BX} {E : EX} {cc : ByteArray} {nL : Nat} {own : String} {fr lo mc ms k n : Nat} {w wr : va_W} {pc : Nat} {lv : List (Nat × Value)} {st : List Value}
theorem Pg_at {A : Nat → Prop} {s : State} {H : Heap} {locs : List Loc} (hP : va_P B.1 cls7 w H) (hD : va_D A w) (hS : va_S A s.heap H locs) (hA : ∀ q, s.heap.size ≤ q → A q) (hK : va_K B.1 cls7 (tyk B.2.1) s) (hSF : SF B A s s.heap) (hAO : AO3 s) : ∀ U : State, U.heap = H → s.WarmedH U.vm → Pg B w H.size U := fun U hU hW => ⟨Pw_at hP hD hS hA hK hSF U hU hW, AO3.moved hW.alike hAO⟩
theorem g_Vi (C : Ok B E cc nL own fr lo) {wf : S0 → va_W} {M : S0} {y : MethodName} {b : ByteArray} {mL fr' lo' np idx : Nat} {ret : Option FieldType} {As rest : List Value} {Q' : Int32 → S0 → Prop} {h k0 ci N' : Nat} {fs : List Value} {T' : u_T} (hM : KI B wf y b mL ret fr' lo' (.ref h :: As) M Q') (hw : CWV own idx y b mL ret np) (hfr : fr' + 1 ≤ fr) (hlo : 8 + (mL + 11) + lo' ≤ lo) (hs : w[k0]? = some (h, .inr (ci, fs))) (hsp : Sp w wr (wf M)) (hci : cls7[ci]? = some (y.cls, T', N')) (hn : As.length = np) (hst : st = As.reverse ++ .ref h :: rest) (hcat : (rest.map fun v => v.category).sum ≤ 8) (hd : decode cc pc = .ok (.invokevirtual idx, 3)) (kk : ∀ (r : Int32) (M1 : S0), Q' r M1 → V B E nL (wr ++ wf M1) (pc + 3) lv (.int r :: rest)) : V B E nL w pc lv st := by
  obtain ⟨p, l, e, R, s, m, args, below, meth, c, A, Z, k9, n9⟩ := E
  obtain ⟨h1, h2, h3, h4, h5, h6, h7, h8, h9, h10, h11, h12, h13⟩ := C
  intro H locs ls hP hD hS hl
  subst hst
  have hF := wl_free (hsp.dd hD) hS h7
  refine va_calli (va_runV (As := As) (rest := rest) ⟨h1, h2, h3, h4, h5⟩ (hM l H.size) (hw.cw h5 hfr hlo h9 h10) ⟨Pw_blind, va_recv h6 hP hci (q0 := k0) hs, fun U hU hW => ⟨rfl, Pw_at (hsp.P hP) (hsp.dd hD) hS h7 h6 h11 U hU hW⟩⟩ rfl hn hl.1 rfl (lv_room hcat) hd ⟨h12, h13⟩) hS (fun q _ h => hF q h) hF (fun r M1 t H1 locs1 ht hvm hq hB hz1 hk1 hS1 => ?_)
  obtain ⟨hP1, hK1, hD1⟩ := hB
  rw [ht] at hP1
  obtain ⟨hP2, hD2⟩ := hsp.join hP hD hk1 hF hP1 hD1
  exact kk r M1 hq H1 locs1 ls hP2 hD2 hS1 hl
theorem g_Vl (C : Ok B E cc nL own fr lo) {wf : S0 → va_W} {M : S0} {y : MethodName} {b : ByteArray} {mL fr' lo' np idx : Nat} {ret : Option FieldType} {As rest : List Value} {Q' : Int64 → S0 → Prop} {h k0 ci N' : Nat} {fs : List Value} {T' : u_T} (hM : KL B wf y b mL ret fr' lo' (.ref h :: As) M Q') (hw : CWV own idx y b mL ret np) (hfr : fr' + 1 ≤ fr) (hlo : 8 + (mL + 11) + lo' ≤ lo) (hs : w[k0]? = some (h, .inr (ci, fs))) (hsp : Sp w wr (wf M)) (hci : cls7[ci]? = some (y.cls, T', N')) (hn : As.length = np) (hst : st = As.reverse ++ .ref h :: rest) (hcat : (rest.map fun v => v.category).sum ≤ 8) (hd : decode cc pc = .ok (.invokevirtual idx, 3)) (kk : ∀ (r : Int64) (M1 : S0), Q' r M1 → V B E nL (wr ++ wf M1) (pc + 3) lv (.long r :: rest)) : V B E nL w pc lv st := by
  obtain ⟨p, l, e, R, s, m, args, below, meth, c, A, Z, k9, n9⟩ := E
  obtain ⟨h1, h2, h3, h4, h5, h6, h7, h8, h9, h10, h11, h12, h13⟩ := C
  intro H locs ls hP hD hS hl
  subst hst
  have hF := wl_free (hsp.dd hD) hS h7
  refine va_calll (va_runV (As := As) (rest := rest) ⟨h1, h2, h3, h4, h5⟩ (hM l H.size) (hw.cw h5 hfr hlo h9 h10) ⟨Pw_blind, va_recv h6 hP hci (q0 := k0) hs, fun U hU hW => ⟨rfl, Pw_at (hsp.P hP) (hsp.dd hD) hS h7 h6 h11 U hU hW⟩⟩ rfl hn hl.1 rfl (lv_room hcat) hd ⟨h12, h13⟩) hS (fun q _ h => hF q h) hF (fun r M1 t H1 locs1 ht hvm hq hB hz1 hk1 hS1 => ?_)
  obtain ⟨hP1, hK1, hD1⟩ := hB
  rw [ht] at hP1
  obtain ⟨hP2, hD2⟩ := hsp.join hP hD hk1 hF hP1 hD1
  exact kk r M1 hq H1 locs1 ls hP2 hD2 hS1 hl
theorem g_Vv (C : Ok B E cc nL own fr lo) {wf : S0 → va_W} {M : S0} {y : MethodName} {b : ByteArray} {mL fr' lo' np idx : Nat} {ret : Option FieldType} {As rest : List Value} {Q' : S0 → Prop} {h k0 ci N' : Nat} {fs : List Value} {T' : u_T} (hM : KV B wf y b mL ret fr' lo' (.ref h :: As) M Q') (hw : CWV own idx y b mL ret np) (hfr : fr' + 1 ≤ fr) (hlo : 8 + (mL + 11) + lo' ≤ lo) (hs : w[k0]? = some (h, .inr (ci, fs))) (hsp : Sp w wr (wf M)) (hci : cls7[ci]? = some (y.cls, T', N')) (hn : As.length = np) (hst : st = As.reverse ++ .ref h :: rest) (hcat : (rest.map fun v => v.category).sum ≤ 8) (hd : decode cc pc = .ok (.invokevirtual idx, 3)) (kk : ∀ (M1 : S0), Q' M1 → V B E nL (wr ++ wf M1) (pc + 3) lv rest) : V B E nL w pc lv st := by
  obtain ⟨p, l, e, R, s, m, args, below, meth, c, A, Z, k9, n9⟩ := E
  obtain ⟨h1, h2, h3, h4, h5, h6, h7, h8, h9, h10, h11, h12, h13⟩ := C
  intro H locs ls hP hD hS hl
  subst hst
  have hF := wl_free (hsp.dd hD) hS h7
  refine va_callv (va_runV (As := As) (rest := rest) ⟨h1, h2, h3, h4, h5⟩ (hM l H.size) (hw.cw h5 hfr hlo h9 h10) ⟨Pw_blind, va_recv h6 hP hci (q0 := k0) hs, fun U hU hW => ⟨rfl, Pw_at (hsp.P hP) (hsp.dd hD) hS h7 h6 h11 U hU hW⟩⟩ rfl hn hl.1 rfl (lv_room hcat) hd ⟨h12, h13⟩) hS (fun q _ h => hF q h) hF (fun M1 t H1 locs1 ht hvm hq hB hz1 hk1 hS1 => ?_)
  obtain ⟨hP1, hK1, hD1⟩ := hB
  rw [ht] at hP1
  obtain ⟨hP2, hD2⟩ := hsp.join hP hD hk1 hF hP1 hD1
  exact kk M1 hq H1 locs1 ls hP2 hD2 hS1 hl
theorem CWV.cwG {y : MethodName} {b : ByteArray} {mL np idx : Nat} {ret : Option FieldType} {s : State} {args : Array Value} {R : Room} {fr' lo' mc' ms' : Nat} (h : CWV own idx y b mL ret np) (hts : ∀ w ∈ lw_gd, w.before args s = true) (hf : fr' + 1 ≤ fr) (hl : 8 + (mL + 11) + lo' ≤ lo) (h9 : fr ≤ R.frames) (h10 : lo ≤ R.locals) : CallW R s args own y.cls idx y b mL ret (Cond.code y b mL ret :: lw_gd) (rmG fr' lo' mc' ms') mc' ms' np := by
  obtain ⟨g1, g2, g3, g4, g5, g6, g7, g8⟩ := h
  exact cwV np hts (lw_good y b mL ret [.methodLink own idx y, .instanceMethod y, .selects y.cls y y, .initialized y.cls] (WV.all ⟨g1, g2, g3, g4⟩) g5) rfl rfl rfl ⟨rfl, g6, g7, g8⟩ ⟨Nat.le_trans hf h9, Nat.le_trans hl h10⟩
theorem g_Gi (G : OkG B E cc nL own fr lo mc ms) {wc : va_W} {y : MethodName} {b : ByteArray} {mL fr' lo' mc' ms' np idx : Nat} {As rest : List Value} {Post : Int32 → va_W → Prop} {h k0 ci N' : Nat} {fs : List Value} {T' : u_T} (hM : KGi B y b mL fr' lo' mc' ms' (.ref h :: As) wc Post) (hw : CWV own idx y b mL (some .int) np) (hfr : fr' + 1 ≤ fr) (hlo : 8 + (mL + 11) + lo' ≤ lo) (hs : w[k0]? = some (h, .inr (ci, fs))) (hsp : Sp w wr wc) (hci : cls7[ci]? = some (y.cls, T', N')) (hkc : k + mc' ≤ mc) (hkn : n + ms' ≤ ms) (hn : As.length = np) (hst : st = As.reverse ++ .ref h :: rest) (hcat : (rest.map fun v => v.category).sum ≤ 8) (hd : decode cc pc = .ok (.invokevirtual idx, 3)) (kk : ∀ (r : Int32) (w1 : va_W), Post r w1 → V B (bmp E (k + mc') (n + ms')) nL (wr ++ w1) (pc + 3) lv (.int r :: rest)) : V B (bmp E k n) nL w pc lv st := by
  have C := G.at (k := k) (n := n) (by omega) (by omega)
  obtain ⟨p, l, e, R, s, m, args, below, meth, c, A, Z, k9, n9⟩ := E
  obtain ⟨h1, h2, h3, h4, h5, h6, h7, h8, h9, h10, h11, h12, h13⟩ := C
  obtain ⟨-, e1, e2, e3, e4, hAO⟩ := G
  have e1 : k9 = 0 := e1
  have e2 : n9 = 0 := e2
  have e3 : mc ≤ R.cells := e3
  have e4 : ms ≤ R.slots := e4
  subst e1; subst e2
  intro H locs ls hP hD hS hl
  subst hst
  have hF := wl_free (hsp.dd hD) hS h7
  refine va_calli (va_runV (As := As) (rest := rest) ⟨h1, h2, h3, h4, h5⟩ (hM l H.size) (hw.cwG h5 hfr hlo h9 h10) ⟨Pg_blind, va_recv h6 hP hci (q0 := k0) hs, fun U hU hW => ⟨rfl, Pg_at (hsp.P hP) (hsp.dd hD) hS h7 h6 h11 hAO U hU hW⟩⟩ rfl hn hl.1 rfl (lv_room hcat) hd ⟨by omega, by omega⟩) hS (fun q _ h => hF q h) hF (fun r w1 t H1 locs1 ht hvm hq hB hz1 hk1 hS1 => ?_)
  obtain ⟨hP1, hK1, hD1⟩ := hB
  rw [ht] at hP1
  obtain ⟨hP2, hD2⟩ := hsp.join hP hD hk1 hF hP1 hD1
  have z := kk r w1 hq H1 locs1 ls hP2 hD2 hS1 hl
  rw [← Nat.add_assoc 0 n ms', ← Nat.add_assoc 0 k mc'] at z
  exact z
theorem g_Gq (G : OkG B E cc nL own fr lo mc ms) {wc : va_W} {y : MethodName} {b : ByteArray} {mL fr' lo' mc' ms' np idx : Nat} {rt : FieldType} {As rest : List Value} {Post : Option Nat → va_W → Prop} {h k0 ci N' : Nat} {fs : List Value} {T' : u_T} (hM : KGq B y b mL rt fr' lo' mc' ms' (.ref h :: As) wc Post) (hw : CWV own idx y b mL (some rt) np) (hfr : fr' + 1 ≤ fr) (hlo : 8 + (mL + 11) + lo' ≤ lo) (hs : w[k0]? = some (h, .inr (ci, fs))) (hsp : Sp w wr wc) (hci : cls7[ci]? = some (y.cls, T', N')) (hkc : k + mc' ≤ mc) (hkn : n + ms' ≤ ms) (hn : As.length = np) (hst : st = As.reverse ++ .ref h :: rest) (hcat : (rest.map fun v => v.category).sum ≤ 8) (hd : decode cc pc = .ok (.invokevirtual idx, 3)) (kk : ∀ (o : Option Nat) (w1 : va_W), Post o w1 → V B (bmp E (k + mc') (n + ms')) nL (wr ++ w1) (pc + 3) lv (va_rf o :: rest)) : V B (bmp E k n) nL w pc lv st := by
  have C := G.at (k := k) (n := n) (by omega) (by omega)
  obtain ⟨p, l, e, R, s, m, args, below, meth, c, A, Z, k9, n9⟩ := E
  obtain ⟨h1, h2, h3, h4, h5, h6, h7, h8, h9, h10, h11, h12, h13⟩ := C
  obtain ⟨-, e1, e2, e3, e4, hAO⟩ := G
  have e1 : k9 = 0 := e1
  have e2 : n9 = 0 := e2
  have e3 : mc ≤ R.cells := e3
  have e4 : ms ≤ R.slots := e4
  subst e1; subst e2
  intro H locs ls hP hD hS hl
  subst hst
  have hF := wl_free (hsp.dd hD) hS h7
  refine va_callq (va_runV (As := As) (rest := rest) ⟨h1, h2, h3, h4, h5⟩ (hM l H.size) (hw.cwG h5 hfr hlo h9 h10) ⟨Pg_blind, va_recv h6 hP hci (q0 := k0) hs, fun U hU hW => ⟨rfl, Pg_at (hsp.P hP) (hsp.dd hD) hS h7 h6 h11 hAO U hU hW⟩⟩ rfl hn hl.1 rfl (lv_room hcat) hd ⟨by omega, by omega⟩) hS (fun q _ h => hF q h) hF (fun o w1 t H1 locs1 ht hvm hq hB hz1 hk1 hS1 => ?_)
  obtain ⟨hP1, hK1, hD1⟩ := hB
  rw [ht] at hP1
  obtain ⟨hP2, hD2⟩ := hsp.join hP hD hk1 hF hP1 hD1
  have z := kk o w1 hq H1 locs1 ls hP2 hD2 hS1 hl
  rw [← Nat.add_assoc 0 n ms', ← Nat.add_assoc 0 k mc'] at z
  exact z
theorem g_I (G : OkG B E cc nL own fr lo mc ms) {wc : va_W} {y : MethodName} {b : ByteArray} {mL fr' lo' mc' ms' np idx : Nat} {As rest : List Value} {Post : va_W → Prop} {h : Nat} (hM : KGv B y b mL fr' lo' mc' ms' (.ref h :: As) wc Post) (hw : CWI own idx y b mL np) (hfr : fr' + 1 ≤ fr) (hlo : 8 + (mL + 11) + lo' ≤ lo) (hsp : Sp w wr wc) (hkc : k + mc' ≤ mc) (hkn : n + ms' ≤ ms) (hn : As.length = np) (hst : st = As.reverse ++ .ref h :: rest) (hcat : (rest.map fun v => v.category).sum ≤ 8) (hd : decode cc pc = .ok (.invokespecial idx, 3)) (kk : ∀ (w1 : va_W), Post w1 → V B (bmp E (k + mc') (n + ms')) nL (wr ++ w1) (pc + 3) lv rest) : V B (bmp E k n) nL w pc lv st := by
  have C := G.at (k := k) (n := n) (by omega) (by omega)
  obtain ⟨p, l, e, R, s, m, args, below, meth, c, A, Z, k9, n9⟩ := E
  obtain ⟨h1, h2, h3, h4, h5, h6, h7, h8, h9, h10, h11, h12, h13⟩ := C
  obtain ⟨-, e1, e2, e3, e4, hAO⟩ := G
  have e1 : k9 = 0 := e1
  have e2 : n9 = 0 := e2
  have e3 : mc ≤ R.cells := e3
  have e4 : ms ≤ R.slots := e4
  subst e1; subst e2
  obtain ⟨g1, g2, g3, g4, g5, g6, g7, g8⟩ := hw
  intro H locs ls hP hD hS hl
  subst hst
  have hF := wl_free (hsp.dd hD) hS h7
  refine va_callv (va_runI (As := As) (rest := rest) ⟨h1, h2, h3, h4, h5⟩ (hM l H.size) (cwI np h5 (lw_good y b mL none [] (fun _ h => absurd h List.not_mem_nil) g4) rfl rfl rfl (h5 _ g3) (h5 _ g1) (h5 _ g2) g5 ⟨g6, g7, g8⟩ ⟨Nat.le_trans hfr h9, Nat.le_trans hlo h10⟩) ⟨Pg_blind, fun U hU hW => ⟨rfl, Pg_at (hsp.P hP) (hsp.dd hD) hS h7 h6 h11 hAO U hU hW⟩⟩ rfl hn hl.1 rfl (lv_room hcat) hd ⟨by omega, by omega⟩) hS (fun q _ h => hF q h) hF (fun w1 t H1 locs1 ht hvm hq hB hz1 hk1 hS1 => ?_)
  obtain ⟨hP1, hK1, hD1⟩ := hB
  rw [ht] at hP1
  obtain ⟨hP2, hD2⟩ := hsp.join hP hD hk1 hF hP1 hD1
  have z := kk w1 hq H1 locs1 ls hP2 hD2 hS1 hl
  rw [← Nat.add_assoc 0 n ms', ← Nat.add_assoc 0 k mc'] at z
  exact z
theorem g_IN (G : OkG B E cc nL own fr lo mc ms) {wc : va_W} {y : MethodName} {b : ByteArray} {mL fr' lo' mc' ms' np idx : Nat} {As rest : List Value} {Post : va_W → Prop} {h : Nat} (hM : KGv B y b mL fr' lo' mc' ms' (.ref h :: As) wc Post) (hw : CWIN own idx y b mL np) (hfr : fr' + 1 ≤ fr) (hlo : 8 + (mL + 11) + lo' ≤ lo) (hsp : Sp w wr wc) (hkc : k + mc' ≤ mc) (hkn : n + ms' ≤ ms) (hn : As.length = np) (hst : st = As.reverse ++ .ref h :: rest) (hcat : (rest.map fun v => v.category).sum ≤ 8) (hd : decode cc pc = .ok (.invokespecial idx, 3)) (kk : ∀ (w1 : va_W), Post w1 → V B (bmp E (k + mc') (n + ms')) nL (wr ++ w1) (pc + 3) lv rest) : V B (bmp E k n) nL w pc lv st := by
  have C := G.at (k := k) (n := n) (by omega) (by omega)
  obtain ⟨p, l, e, R, s, m, args, below, meth, c, A, Z, k9, n9⟩ := E
  obtain ⟨h1, h2, h3, h4, h5, h6, h7, h8, h9, h10, h11, h12, h13⟩ := C
  obtain ⟨-, e1, e2, e3, e4, hAO⟩ := G
  have e1 : k9 = 0 := e1
  have e2 : n9 = 0 := e2
  have e3 : mc ≤ R.cells := e3
  have e4 : ms ≤ R.slots := e4
  subst e1; subst e2
  obtain ⟨g1, g2, g3, g4, g5, g6, g7, g8⟩ := hw
  intro H locs ls hP hD hS hl
  subst hst
  have hF := wl_free (hsp.dd hD) hS h7
  refine va_callv (va_runIN (As := As) (rest := rest) ⟨h1, h2, h3, h4, h5⟩ (hM l H.size) ⟨va_cnB np h5 (lw_good y b mL none [] (fun _ h => absurd h List.not_mem_nil) g4) rfl rfl rfl (h11.2.2.2.2 _ g1) (h5 _ g3) ⟨g6, g7, g8⟩ ⟨Nat.le_trans hfr h9, Nat.le_trans hlo h10⟩, g5, h5 _ g2⟩ ⟨Pg_blind, fun U hU hW => ⟨rfl, Pg_at (hsp.P hP) (hsp.dd hD) hS h7 h6 h11 hAO U hU hW⟩⟩ rfl hn hl.1 rfl (lv_room hcat) hd ⟨by omega, by omega⟩) hS (fun q _ h => hF q h) hF (fun w1 t H1 locs1 ht hvm hq hB hz1 hk1 hS1 => ?_)
  obtain ⟨hP1, hK1, hD1⟩ := hB
  rw [ht] at hP1
  obtain ⟨hP2, hD2⟩ := hsp.join hP hD hk1 hF hP1 hD1
  have z := kk w1 hq H1 locs1 ls hP2 hD2 hS1 hl
  rw [← Nat.add_assoc 0 n ms', ← Nat.add_assoc 0 k mc'] at z
  exact z
end VPT
section SPX
variable {u v w wr wc : va_W}
theorem Sp.left : Sp (u ++ v) v u := by
  refine ⟨fun k => u.length + k, fun k => k, fun k q h => ?_, fun k q h => ?_, fun i j _ _ h => ?_, fun i j _ _ h => h, fun i j hi hj h => ?_⟩
  · show (u ++ v)[u.length + k]? = some q
    rw [List.getElem?_append_right (by omega), Nat.add_sub_cancel_left]; exact h
  · show (u ++ v)[k]? = some q
    rw [List.getElem?_append_left (List.getElem?_eq_some_iff.mp h).1]; exact h
  · have h : u.length + i = u.length + j := h
    omega
  · have h : u.length + i = j := h
    omega
theorem Sp.right : Sp (u ++ v) u v := by
  refine ⟨fun k => k, fun k => u.length + k, fun k q h => ?_, fun k q h => ?_, fun i j _ _ h => h, fun i j _ _ h => ?_, fun i j hi hj h => ?_⟩
  · show (u ++ v)[k]? = some q
    rw [List.getElem?_append_left (List.getElem?_eq_some_iff.mp h).1]; exact h
  · show (u ++ v)[u.length + k]? = some q
    rw [List.getElem?_append_right (by omega), Nat.add_sub_cancel_left]; exact h
  · have h : u.length + i = u.length + j := h
    omega
  · have h : i = u.length + j := h
    omega
theorem Sp.all : Sp u [] u := by
  refine ⟨fun k => k, fun k => k, fun k q h => by simp at h, fun k q h => h, fun i j hi => absurd hi (by simp), fun i j _ _ h => h, fun i j hi => absurd hi (by simp)⟩
/-- by the places, where the world is a list that is written -/
theorem Sp.at (ir ic : List Nat) (hr : ir.map (fun i => w[i]?) = wr.map some) (hc : ic.map (fun i => w[i]?) = wc.map some) (hn : va_nd (ir ++ ic) = true) : Sp w wr wc := by
  have lr : ir.length = wr.length := by have := congrArg List.length hr; simpa using this
  have lc : ic.length = wc.length := by have := congrArg List.length hc; simpa using this
  have get : ∀ {is : List Nat} {x : va_W}, is.map (fun i => w[i]?) = x.map some → ∀ (k : Nat) (q : Nat × va_E), x[k]? = some q → w[is.getD k 0]? = some q := by
    intro is x hx k q hq
    have h1 : (is.map (fun i => w[i]?))[k]? = some (some q) := by rw [hx, List.getElem?_map, hq]; rfl
    rw [List.getElem?_map] at h1
    cases hi : is[k]? with
    | none => rw [hi] at h1; cases h1
    | some i =>
      rw [hi] at h1
      rw [List.getD_eq_getElem?_getD, hi]
      exact Option.some.inj h1
  have inj := va_nd_inj (ir ++ ic) hn
  have el : ∀ (i : Nat), i < ir.length → (ir ++ ic)[i]? = some (ir.getD i 0) := by
    intro i hi
    rw [List.getElem?_append_left hi, List.getD_eq_getElem?_getD, List.getElem?_eq_getElem hi]
    rfl
  have er : ∀ (i : Nat), i < ic.length → (ir ++ ic)[ir.length + i]? = some (ic.getD i 0) := by
    intro i hi
    rw [List.getElem?_append_right (by omega), Nat.add_sub_cancel_left, List.getD_eq_getElem?_getD, List.getElem?_eq_getElem hi]
    rfl
  refine ⟨fun k => ir.getD k 0, fun k => ic.getD k 0, get hr, get hc, fun i j hi hj h => ?_, fun i j hi hj h => ?_, fun i j hi hj h => ?_⟩
  · have h : ir.getD i 0 = ir.getD j 0 := h
    exact inj i j _ (el i (by omega)) (by rw [h]; exact el j (by omega))
  · have h : ic.getD i 0 = ic.getD j 0 := h
    have := inj (ir.length + i) (ir.length + j) _ (er i (by omega)) (by rw [h]; exact er j (by omega))
    omega
  · have h : ir.getD i 0 = ic.getD j 0 := h
    have := inj i (ir.length + j) _ (el i (by omega)) (by rw [h]; exact er j (by omega))
    omega
end SPX
