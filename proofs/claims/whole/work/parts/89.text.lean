/-! feed, text: on the machine -/
def ml (N : Nat) (en : Nat → Nat × va_E) : va_W := (List.range N).map en
theorem ml_get {N : Nat} {en : Nat → Nat × va_E} {k : Nat} (hk : k < N) : (ml N en)[k]? = some (en k) := by
  simp [ml, List.getElem?_map, List.getElem?_range hk]
theorem ml_len {N : Nat} {en : Nat → Nat × va_E} : (ml N en).length = N := by simp [ml]
theorem ml_of {N : Nat} {en : Nat → Nat × va_E} {k : Nat} {q : Nat × va_E} (h : (ml N en)[k]? = some q) : k < N ∧ q = en k := by
  have hk : k < N := by
    have := (List.getElem?_eq_some_iff.mp h).1
    rw [ml_len] at this
    exact this
  exact ⟨hk, (Option.some.inj ((ml_get hk).symm.trans h)).symm⟩
theorem ml_sp {N p q : Nat} {en : Nat → Nat × va_E} {gr gc : Nat → Nat} (hr : ∀ i, i < p → gr i < N) (hc : ∀ i, i < q → gc i < N) (ir : ∀ i j, i < p → j < p → gr i = gr j → i = j) (ic : ∀ i j, i < q → j < q → gc i = gc j → i = j) (dis : ∀ i j, i < p → j < q → gr i ≠ gc j) : Sp (ml N en) (ml p (fun i => en (gr i))) (ml q (fun i => en (gc i))) := by
  refine ⟨gr, gc, fun k x h => ?_, fun k x h => ?_, ?_, ?_, ?_⟩
  · obtain ⟨hk, rfl⟩ := ml_of h
    exact ml_get (hr k hk)
  · obtain ⟨hk, rfl⟩ := ml_of h
    exact ml_get (hc k hk)
  · rw [ml_len]; exact ir
  · rw [ml_len]; exact ic
  · rw [ml_len, ml_len]; exact dis
section VML
variable {B : BX} {E : EX} {nL : Nat} {w : va_W} {pc : Nat} {lv : List (Nat × Value)} {st : List Value}
theorem v_ml {N : Nat} {en : Nat → Nat × va_E} (g : Nat → Nat) (h : ∀ k, k < N → w[g k]? = some (en k)) (inj : ∀ i j, i < N → j < N → g i = g j → i = j) (z : V B E nL (ml N en) pc lv st) : V B E nL w pc lv st := by
  refine v_perm g (fun k q hk => ?_) (by rw [ml_len]; exact inj) z
  obtain ⟨h1, rfl⟩ := ml_of hk
  exact h k h1
theorem v_mlE {N : Nat} {en : Nat → Nat × va_E} (g : Nat → Nat) (h : ∀ k, k < N → ∃ e, w[g k]? = some ((en k).1, e) ∧ ∀ (D : va_G) (cl : List vw_C) (H : Heap), va_at D cl ((en k).1, e) H → va_at D cl (en k) H) (inj : ∀ i j, i < N → j < N → g i = g j → i = j) (z : V B E nL (ml N en) pc lv st) : V B E nL w pc lv st := by
  refine v_permE g (fun k q hk => ?_) (by rw [ml_len]; exact inj) z
  obtain ⟨h1, rfl⟩ := ml_of hk
  exact h k h1
end VML
section RDX
variable {B : BX} {E : EX} {nL : Nat} {pc : Nat} {lv : List (Nat × Value)} {st : List Value} {g : GX} {a : Nat → Nat} {X R : S0} {K : Nat → ClassId}
abbrev enX (K : Nat → ClassId) (a : Nat → Nat) (ln : Nat → Nat) (X : S0) : Nat → Nat × va_E := fun k => (a k, shX K a ln k (X k))
def gr5 : Nat → Nat := fun i => if i < 5 then i else i + 3
def wrR (K : Nat → ClassId) (g : GX) (a : Nat → Nat) (X : S0) : va_W := ml (63 + 3 * g.2) (fun i => enX K a g.1 X (gr5 i))
theorem spR : Sp (wl (66 + 3 * g.2) a (shX K a g.1) X) (wrR K g a X) (wl 3 (fun k => a (5 + k)) (shR K (fun k => a (5 + k))) (RdX X)) := by
  have h := ml_sp (N := 66 + 3 * g.2) (p := 63 + 3 * g.2) (q := 3) (en := enX K a g.1 X) (gr := gr5) (gc := fun i => 5 + i) (fun i hi => by unfold gr5; split <;> omega) (fun i hi => by omega) (fun i j hi hj h => by unfold gr5 at h; split at h <;> split at h <;> omega) (fun i j hi hj h => by have h : 5 + i = 5 + j := h; omega) (fun i j hi hj h => by unfold gr5 at h; split at h <;> omega)
  exact h
theorem v_Rb (z : V B E nL (wl (66 + 3 * g.2) a (shX B.2.1 a g.1) (putR X R)) pc lv st) : V B E nL (wrR B.2.1 g a X ++ wl 3 (fun k => a (5 + k)) (shR B.2.1 (fun k => a (5 + k))) R) pc lv st := by
  refine v_ml (N := 66 + 3 * g.2) (en := enX B.2.1 a g.1 (putR X R)) (fun k => if k < 5 then k else if k ≤ 7 then 63 + 3 * g.2 + (k - 5) else k - 3) (fun k hk => ?_) (fun i j hi hj h => ?_) z
  · show (wrR B.2.1 g a X ++ _)[if k < 5 then k else if k ≤ 7 then 63 + 3 * g.2 + (k - 5) else k - 3]? = _
    by_cases c1 : k < 5
    · rw [if_pos c1, List.getElem?_append_left (by unfold wrR; rw [ml_len]; omega)]
      unfold wrR
      rw [ml_get (by omega)]
      show some (a (gr5 k), shX B.2.1 a g.1 (gr5 k) (X (gr5 k))) = some (a k, shX B.2.1 a g.1 k (putR X R k))
      rw [show gr5 k = k from if_pos c1, putR_o (Or.inl c1)]
    · rw [if_neg c1]
      by_cases c2 : k ≤ 7
      · rw [if_pos c2, List.getElem?_append_right (by unfold wrR; rw [ml_len]; omega), show (wrR B.2.1 g a X).length = 63 + 3 * g.2 from ml_len, Nat.add_sub_cancel_left]
        rcases (by omega : k = 5 ∨ k = 6 ∨ k = 7) with rfl | rfl | rfl <;> rfl
      · rw [if_neg c2, List.getElem?_append_left (by unfold wrR; rw [ml_len]; omega)]
        unfold wrR
        rw [ml_get (by omega)]
        show some (a (gr5 (k - 3)), shX B.2.1 a g.1 (gr5 (k - 3)) (X (gr5 (k - 3)))) = some (a k, shX B.2.1 a g.1 k (putR X R k))
        have e : gr5 (k - 3) = k := by
          unfold gr5
          rw [if_neg (by omega)]
          omega
        rw [e, putR_o (by omega)]
  · have h : (if i < 5 then i else if i ≤ 7 then 63 + 3 * g.2 + (i - 5) else i - 3) = (if j < 5 then j else if j ≤ 7 then 63 + 3 * g.2 + (j - 5) else j - 3) := h
    split at h
    · split at h
      · exact h
      · split at h <;> omega
    · split at h
      · split at h
        · omega
        · split at h <;> omega
      · split at h
        · omega
        · split at h <;> omega
/-- the world behind read, with a text that is new -/
def en3n (K : Nat → ClassId) (g : GX) (a : Nat → Nat) (X : S0) (t c e L : Nat) (cf en : Nat → Int32) : Nat → Nat × va_E := fun k => if k < 66 + 3 * g.2 then enX K a g.1 X k else if k = 66 + 3 * g.2 then (t, .inr (3, [.ref c, .ref e])) else if k = 66 + 3 * g.2 + 1 then (c, .inl (K 0, L, .inl cf)) else (e, .inl (K 0, 3, .inl en))
theorem v_Rb3 {t c e L : Nat} {cf en : Nat → Int32} (z : V B E nL (ml (66 + 3 * g.2 + 3) (en3n B.2.1 g a (putR X R) t c e L cf en)) pc lv st) : V B E nL (wrR B.2.1 g a X ++ (wl 3 (fun k => a (5 + k)) (shR B.2.1 (fun k => a (5 + k))) R ++ [(t, .inr (3, [.ref c, .ref e])), (c, .inl (B.2.1 0, L, .inl cf)), (e, .inl (B.2.1 0, 3, .inl en))])) pc lv st := by
  have lw : (wl 3 (fun k => a (5 + k)) (shR B.2.1 (fun k => a (5 + k))) R).length = 3 := rfl
  refine v_ml (g := fun k => if k < 5 then k else if k ≤ 7 then 63 + 3 * g.2 + (k - 5) else if k < 66 + 3 * g.2 then k - 3 else k) (fun k hk => ?_) (fun i j hi hj h => ?_) z
  · show (wrR B.2.1 g a X ++ _)[if k < 5 then k else if k ≤ 7 then 63 + 3 * g.2 + (k - 5) else if k < 66 + 3 * g.2 then k - 3 else k]? = _
    by_cases c1 : k < 5
    · rw [if_pos c1, List.getElem?_append_left (by unfold wrR; rw [ml_len]; omega)]
      unfold wrR en3n
      rw [ml_get (by omega), if_pos (by omega)]
      show some (a (gr5 k), shX B.2.1 a g.1 (gr5 k) (X (gr5 k))) = some (a k, shX B.2.1 a g.1 k (putR X R k))
      rw [show gr5 k = k from if_pos c1, putR_o (Or.inl c1)]
    · rw [if_neg c1]
      by_cases c2 : k ≤ 7
      · rw [if_pos c2, List.getElem?_append_right (by unfold wrR; rw [ml_len]; omega), show (wrR B.2.1 g a X).length = 63 + 3 * g.2 from ml_len, Nat.add_sub_cancel_left]
        unfold en3n
        rw [if_pos (by omega)]
        rcases (by omega : k = 5 ∨ k = 6 ∨ k = 7) with rfl | rfl | rfl <;> rfl
      · rw [if_neg c2]
        by_cases c3 : k < 66 + 3 * g.2
        · rw [if_pos c3, List.getElem?_append_left (by unfold wrR; rw [ml_len]; omega)]
          unfold wrR en3n
          rw [ml_get (by omega), if_pos c3]
          show some (a (gr5 (k - 3)), shX B.2.1 a g.1 (gr5 (k - 3)) (X (gr5 (k - 3)))) = some (a k, shX B.2.1 a g.1 k (putR X R k))
          have e : gr5 (k - 3) = k := by
            unfold gr5
            rw [if_neg (by omega)]
            omega
          rw [e, putR_o (by omega)]
        · rw [if_neg c3, List.getElem?_append_right (by unfold wrR; rw [ml_len]; omega), show (wrR B.2.1 g a X).length = 63 + 3 * g.2 from ml_len, List.getElem?_append_right (by rw [lw]; omega), lw]
          unfold en3n
          rw [if_neg c3]
          rcases (by omega : k = 66 + 3 * g.2 ∨ k = 66 + 3 * g.2 + 1 ∨ k = 66 + 3 * g.2 + 2) with e | e | e
          · rw [if_pos e, show k - (63 + 3 * g.2) - 3 = 0 by omega]; rfl
          · rw [if_neg (by omega), if_pos e, show k - (63 + 3 * g.2) - 3 = 1 by omega]; rfl
          · rw [if_neg (by omega), if_neg (by omega), show k - (63 + 3 * g.2) - 3 = 2 by omega]; rfl
  · have h : (if i < 5 then i else if i ≤ 7 then 63 + 3 * g.2 + (i - 5) else if i < 66 + 3 * g.2 then i - 3 else i) = (if j < 5 then j else if j ≤ 7 then 63 + 3 * g.2 + (j - 5) else if j < 66 + 3 * g.2 then j - 3 else j) := h
    by_cases i1 : i < 5
    · rw [if_pos i1] at h
      by_cases j1 : j < 5
      · rw [if_pos j1] at h; exact h
      · rw [if_neg j1] at h
        split at h
        · omega
        · split at h <;> omega
    · rw [if_neg i1] at h
      by_cases i2 : i ≤ 7
      · rw [if_pos i2] at h
        split at h
        · omega
        · split at h
          · omega
          · split at h <;> omega
      · rw [if_neg i2] at h
        split at h
        · split at h
          · omega
          · split at h
            · omega
            · split at h <;> omega
        · split at h
          · omega
          · split at h
            · omega
            · split at h <;> omega
theorem arrV_ext {c : ClassId} {N : Nat} {f f' : Nat → Value} (h : ∀ j, j < N → f j = f' j) : arrV c N f = arrV c N f' := by
  unfold arrV
  congr 1
  congr 1
  funext j
  exact h j.1 j.2
theorem at_refs {D : va_G} {cl : List vw_C} {q N : Nat} {c : ClassId} {f f' : Nat → Option Nat} {H : Heap} (h : ∀ j, j < N → f j = f' j) (z : va_at D cl (q, .inl (c, N, .inr (.inr (.inr (.inr f))))) H) : va_at D cl (q, .inl (c, N, .inr (.inr (.inr (.inr f'))))) H := by
  have e : arrV c N (fun j => va_rf (f j)) = arrV c N (fun j => va_rf (f' j)) := arrV_ext (fun j hj => by rw [h j hj])
  have z : H[q]? = some (arrV c N (fun j => va_rf (f j))) := z
  show H[q]? = some (arrV c N (fun j => va_rf (f' j)))
  rw [← e]
  exact z
/-- a cell's shape by other addresses, where those that it names are the same -/
theorem shX_ext {a' : Nat → Nat} {ln ln' : Nat → Nat} {n k q : Nat} {r : Nat → Int32} {D : va_G} {cl : List vw_C} {H : Heap} (hn : 66 ≤ n) (ha : ∀ j, j < n → a' j = a j) (hk : k < n) (h3 : ∀ c, k = 66 + 3 * c ∨ k = 66 + 3 * c + 1 ∨ k = 66 + 3 * c + 2 → 66 + 3 * c + 2 < n) (h2 : k ≠ 2) (hl : 66 ≤ k → ln' (k - 1) = ln (k - 1)) (z : va_at D cl (q, shX K a ln k r) H) : va_at D cl (q, shX K a' ln' k r) H := by
  by_cases c1 : k < 10
  · unfold shX at z ⊢
    rw [if_pos c1] at z ⊢
    rcases (by omega : k = 0 ∨ k = 1 ∨ k = 3 ∨ k = 4 ∨ k = 5 ∨ k = 6 ∨ k = 7 ∨ k = 8 ∨ k = 9) with rfl | rfl | rfl | rfl | rfl | rfl | rfl | rfl | rfl
    · have e : fl5 a' r = fl5 a r := by
        unfold fl5
        rw [ha 1 (by omega), ha 5 (by omega), ha 10 (by omega), ha 16 (by omega), ha 22 (by omega), ha 8 (by omega), ha 9 (by omega)]
      show va_at D cl (q, .inr (5, fl5 a' r)) H
      rw [e]; exact z
    · have e : fl4 a' r = fl4 a r := by
        unfold fl4
        rw [ha 2 (by omega), ha 3 (by omega), ha 4 (by omega)]
      show va_at D cl (q, .inr (4, fl4 a' r)) H
      rw [e]; exact z
    · exact z
    · exact z
    · have e : fl1 a' r = fl1 a r := by
        unfold fl1
        rw [ha 6 (by omega), ha 7 (by omega)]
      show va_at D cl (q, .inr (1, fl1 a' r)) H
      rw [e]; exact z
    · exact z
    · exact z
    · exact at_refs (fun j hj => by show some (a (28 + 6 * j)) = some (a' (28 + 6 * j)); rw [ha _ (by omega)]) z
    · exact at_refs (fun j hj => by show some (a (58 + 2 * j)) = some (a' (58 + 2 * j)); rw [ha _ (by omega)]) z
  · by_cases c2 : k < 58
    · unfold shX at z ⊢
      rw [if_neg c1, if_pos c2] at z ⊢
      by_cases c3 : (k - 10) % 6 = 0
      · rw [if_pos c3] at z ⊢
        have e : fl0 a' k r = fl0 a k r := by
          unfold fl0
          rw [ha 1 (by omega), ha (k + 1) (by omega), ha (k + 2) (by omega), ha (k + 3) (by omega), ha (k + 4) (by omega), ha (k + 5) (by omega)]
        rw [e]; exact z
      · rw [if_neg c3] at z ⊢; exact z
    · by_cases c3 : k < 66
      · unfold shX at z ⊢
        rw [if_neg c1, if_neg c2, if_pos c3] at z ⊢
        by_cases c4 : (k - 58) % 2 = 0
        · rw [if_pos c4] at z ⊢
          have e : fl2 a' k r = fl2 a k r := by
            unfold fl2
            rw [ha (k + 1) (by omega)]
          rw [e]; exact z
        · rw [if_neg c4] at z ⊢; exact z
      · unfold shX at z ⊢
        rw [if_neg c1, if_neg c2, if_neg c3] at z ⊢
        have h3' := h3 ((k - 66) / 3) (by omega)
        by_cases c4 : (k - 66) % 3 = 0
        · rw [if_pos c4] at z ⊢
          have e : fl3 a' k r = fl3 a k r := by
            unfold fl3
            rw [ha (k + 1) (by omega), ha (k + 2) (by omega)]
          rw [e]; exact z
        · rw [if_neg c4] at z ⊢
          by_cases c5 : (k - 66) % 3 = 1
          · rw [if_pos c5] at z ⊢
            rw [hl (by omega)]; exact z
          · rw [if_neg c5] at z ⊢; exact z
def gr2 (n : Nat) : Nat → Nat := fun i => if i = 0 then 0 else if i < n - 2 then i + 2 else i + 3
def aN (n t c e : Nat) (a : Nat → Nat) : Nat → Nat := fun k => if k = n then t else if k = n + 1 then c else if k = n + 2 then e else a k
/-- behind add: the class's world with one text more -/
theorem v_addb {t c e L : Nat} {cf en : Nat → Int32} (h13 : X 1 3 = nI g.2) (hg : g.2 < 6) (h2 : ∀ t, X 2 t = if t < g.2 then nI (t + 1) else 0) (z : V B E nL (wl (66 + 3 * (gN g L).2) (aN (66 + 3 * g.2) t c e a) (shX B.2.1 (aN (66 + 3 * g.2) t c e a) (gN g L).1) (xN g X cf en)) pc lv st) : V B E nL (ml (66 + 3 * g.2) (fun i => en3n B.2.1 g a X t c e L cf en (gr2 (66 + 3 * g.2) i)) ++ [(a 1, .inr (4, [.ref (a 2), .ref (a 3), .ref (a 4), .int (nI (g.2 + 1))])), (a 2, .inl (B.2.1 4, 6, .inr (.inr (.inr (.inr (va_up (rowF a (X 2)) g.2 (some t))))))), (t, .inr (3, [.ref c, .ref e]))]) pc lv st := by
  obtain ⟨n, hn⟩ : ∃ n, n = 66 + 3 * g.2 := ⟨_, rfl⟩
  have en' : wl (66 + 3 * (gN g L).2) (aN (66 + 3 * g.2) t c e a) (shX B.2.1 (aN (66 + 3 * g.2) t c e a) (gN g L).1) (xN g X cf en) = ml (n + 3) (enX B.2.1 (aN n t c e a) (gN g L).1 (xN g X cf en)) := by
    rw [show 66 + 3 * (gN g L).2 = n + 3 by show 66 + 3 * (g.2 + 1) = n + 3; omega, ← hn]
    rfl
  rw [en'] at z
  rw [← hn]
  have ao : ∀ j, j < n → aN n t c e a j = a j := fun j hj => by unfold aN; rw [if_neg (by omega), if_neg (by omega), if_neg (by omega)]
  have xo : ∀ k, k < n → k ≠ 1 → k ≠ 2 → xN g X cf en k = X k := fun k h1 h3 h4 => by
    unfold xN
    rw [← hn, if_neg (by omega), if_neg (by omega), up_r h3, up_r h4]
  have gl : ∀ k, k < n → (ml n (fun i => en3n B.2.1 g a X t c e L cf en (gr2 n i)) ++ [(a 1, .inr (4, [.ref (a 2), .ref (a 3), .ref (a 4), .int (nI (g.2 + 1))])), (a 2, .inl (B.2.1 4, 6, .inr (.inr (.inr (.inr (va_up (rowF a (X 2)) g.2 (some t))))))), (t, .inr (3, [.ref c, .ref e]))])[k]? = some (en3n B.2.1 g a X t c e L cf en (gr2 n k)) := fun k hk => by
    rw [List.getElem?_append_left (by rw [ml_len]; exact hk), ml_get hk]
  have gh : ∀ (j : Nat) (q : Nat × va_E), [(a 1, .inr (4, [.ref (a 2), .ref (a 3), .ref (a 4), .int (nI (g.2 + 1))])), (a 2, .inl (B.2.1 4, 6, .inr (.inr (.inr (.inr (va_up (rowF a (X 2)) g.2 (some t))))))), (t, .inr (3, [.ref c, .ref e]))][j]? = some q → (ml n (fun i => en3n B.2.1 g a X t c e L cf en (gr2 n i)) ++ [(a 1, .inr (4, [.ref (a 2), .ref (a 3), .ref (a 4), .int (nI (g.2 + 1))])), (a 2, .inl (B.2.1 4, 6, .inr (.inr (.inr (.inr (va_up (rowF a (X 2)) g.2 (some t))))))), (t, .inr (3, [.ref c, .ref e]))])[n + j]? = some q := fun j q hq => by
    rw [List.getElem?_append_right (by rw [ml_len]; omega), ml_len, Nat.add_sub_cancel_left]
    exact hq
  refine v_mlE (g := fun k => if k = 0 then 0 else if k = 1 then n else if k = 2 then n + 1 else if k < n then k - 2 else if k = n then n + 2 else k - 3) (fun k hk => ?_) (fun i j hi hj h => ?_) z
  · show ∃ x, (_ : va_W)[if k = 0 then 0 else if k = 1 then n else if k = 2 then n + 1 else if k < n then k - 2 else if k = n then n + 2 else k - 3]? = some (aN n t c e a k, x) ∧ ∀ (D : va_G) (cl : List vw_C) (H : Heap), va_at D cl (aN n t c e a k, x) H → va_at D cl (aN n t c e a k, shX B.2.1 (aN n t c e a) (gN g L).1 k (xN g X cf en k)) H
    have ext : ∀ (D : va_G) (cl : List vw_C) (H : Heap), k < n → k ≠ 1 → k ≠ 2 → va_at D cl (aN n t c e a k, shX B.2.1 a g.1 k (X k)) H → va_at D cl (aN n t c e a k, shX B.2.1 (aN n t c e a) (gN g L).1 k (xN g X cf en k)) H := by
      intro D cl H h1 h3 h4 y
      rw [xo k h1 h3 h4]
      refine shX_ext (n := n) (by omega) ao h1 (fun cc hcc => by omega) h4 (fun hk66 => ?_) y
      show (if k - 1 = 66 + 3 * g.2 then L else g.1 (k - 1)) = g.1 (k - 1)
      rw [if_neg (by omega)]
    by_cases k0 : k = 0
    · rw [if_pos k0]
      refine ⟨shX B.2.1 a g.1 k (X k), ?_, fun D cl H y => ext D cl H (by omega) (by omega) (by omega) y⟩
      rw [gl 0 (by omega), k0]
      show some (en3n B.2.1 g a X t c e L cf en 0) = _
      unfold en3n
      rw [if_pos (by omega), ao 0 (by omega)]
    · rw [if_neg k0]
      by_cases k1 : k = 1
      · subst k1
        rw [if_pos rfl]
        refine ⟨_, gh 0 (aN n t c e a 1, _) (by rw [ao 1 (by omega)]; rfl), fun D cl H y => ?_⟩
        have e4 : fl4 (aN n t c e a) (xN g X cf en 1) = [.ref (a 2), .ref (a 3), .ref (a 4), .int (nI (g.2 + 1))] := by
          unfold fl4
          rw [ao 2 (by omega), ao 3 (by omega), ao 4 (by omega)]
          unfold xN
          rw [if_neg (by omega), if_neg (by omega), up_s, h13, nI_1]
        show va_at D cl (aN n t c e a 1, .inr (4, fl4 (aN n t c e a) (xN g X cf en 1))) H
        rw [e4]
        exact y
      · rw [if_neg k1]
        by_cases k2 : k = 2
        · subst k2
          rw [if_pos rfl]
          refine ⟨_, gh 1 (aN n t c e a 2, _) (by rw [ao 2 (by omega)]; rfl), fun D cl H y => ?_⟩
          show va_at D cl (aN n t c e a 2, .inl (B.2.1 4, 6, .inr (.inr (.inr (.inr (rowF (aN n t c e a) (xN g X cf en 2))))))) H
          refine at_refs (fun j hj => ?_) y
          have ex : xN g X cf en 2 j = if j = g.2 then nI (g.2 + 1) else X 2 j := by
            unfold xN
            rw [if_neg (by omega), if_neg (by omega), up_k (by decide), h13, nI_clamp (by omega)]
            by_cases ej : j = g.2
            · rw [if_pos ej, ej, up_s]
            · rw [if_neg ej, up_j ej]
          unfold rowF va_up
          rw [ex]
          by_cases ej : j = g.2
          · rw [if_pos ej, if_pos ej, if_neg (nI_ne0 (by omega) (by omega)), nI_clamp (by omega), Nat.add_sub_cancel]
            unfold aN
            rw [if_pos (by omega)]
          · rw [if_neg ej, if_neg ej]
            show (if X 2 j = 0 then none else some (a (66 + 3 * ((X 2 j).toNatClampNeg - 1)))) = _
            rw [h2 j]
            by_cases lj : j < g.2
            · rw [if_pos lj, if_neg (nI_ne0 (by omega) (by omega)), if_neg (nI_ne0 (by omega) (by omega)), nI_clamp (by omega), Nat.add_sub_cancel, ao _ (by omega)]
            · rw [if_neg lj, if_pos rfl, if_pos rfl]
        · rw [if_neg k2]
          by_cases kn : k < n
          · rw [if_pos kn]
            refine ⟨shX B.2.1 a g.1 k (X k), ?_, fun D cl H y => ext D cl H kn k1 k2 y⟩
            rw [gl (k - 2) (by omega)]
            have eg : gr2 n (k - 2) = k := by
              unfold gr2
              rw [if_neg (by omega), if_pos (by omega)]
              omega
            rw [eg]
            unfold en3n
            rw [if_pos (by omega), ao k kn]
          · rw [if_neg kn]
            by_cases kn0 : k = n
            · subst kn0
              rw [if_pos rfl]
              refine ⟨_, gh 2 (aN k t c e a k, _) (by unfold aN; rw [if_pos rfl]; rfl), fun D cl H y => ?_⟩
              rw [sh_t0 (g := gN g L) ⟨g.2, by show g.2 < g.2 + 1; omega, hn⟩]
              have ef : fl3 (aN k t c e a) k (xN g X cf en k) = [.ref c, .ref e] := by
                unfold fl3 aN
                rw [if_neg (by omega), if_pos rfl, if_neg (by omega), if_neg (by omega), if_pos rfl]
              rw [ef]
              exact y
            · rw [if_neg kn0]
              rcases (by omega : k = n + 1 ∨ k = n + 2) with ek | ek
              · subst ek
                refine ⟨.inl (B.2.1 0, L, .inl cf), ?_, fun D cl H y => ?_⟩
                · rw [gl (n + 1 - 3) (by omega)]
                  have eg : gr2 n (n + 1 - 3) = n + 1 := by
                    unfold gr2
                    rw [if_neg (by omega), if_neg (by omega)]
                    omega
                  rw [eg]
                  unfold en3n aN
                  rw [if_neg (by omega), if_neg (by omega), if_pos (by omega), if_neg (by omega), if_pos rfl]
                · rw [sh_t1 (g := gN g L) ⟨g.2, by show g.2 < g.2 + 1; omega, hn⟩]
                  have e1 : (gN g L).1 n = L := if_pos hn
                  have e2 : xN g X cf en (n + 1) = cf := by unfold xN; rw [if_pos (by omega)]
                  rw [e1, e2]
                  exact y
              · subst ek
                refine ⟨.inl (B.2.1 0, 3, .inl en), ?_, fun D cl H y => ?_⟩
                · rw [gl (n + 2 - 3) (by omega)]
                  have eg : gr2 n (n + 2 - 3) = n + 2 := by
                    unfold gr2
                    rw [if_neg (by omega), if_neg (by omega)]
                    omega
                  rw [eg]
                  unfold en3n aN
                  rw [if_neg (by omega), if_neg (by omega), if_neg (by omega), if_neg (by omega), if_neg (by omega), if_pos rfl]
                · rw [sh_t2 (g := gN g L) ⟨g.2, by show g.2 < g.2 + 1; omega, hn⟩]
                  have e2 : xN g X cf en (n + 2) = en := by unfold xN; rw [if_neg (by omega), if_pos (by omega)]
                  rw [e2]
                  exact y
  · have h : (if i = 0 then 0 else if i = 1 then n else if i = 2 then n + 1 else if i < n then i - 2 else if i = n then n + 2 else i - 3) = (if j = 0 then 0 else if j = 1 then n else if j = 2 then n + 1 else if j < n then j - 2 else if j = n then n + 2 else j - 3) := h
    have cls : ∀ k, k < n + 3 → ∀ v, (if k = 0 then 0 else if k = 1 then n else if k = 2 then n + 1 else if k < n then k - 2 else if k = n then n + 2 else k - 3) = v → (k = 0 ∧ v = 0) ∨ (k = 1 ∧ v = n) ∨ (k = 2 ∧ v = n + 1) ∨ (2 < k ∧ k < n ∧ v = k - 2) ∨ (k = n ∧ v = n + 2) ∨ (n < k ∧ v = k - 3) := by
      intro k hk v hv
      split at hv
      · omega
      · split at hv
        · omega
        · split at hv
          · omega
          · split at hv
            · omega
            · split at hv <;> omega
    have h1 := cls i hi _ rfl
    have h2 := cls j hj _ rfl
    rw [h] at h1
    omega
end RDX
theorem fX5_1_g_fault {B : BX} {E : EX} {cc : ByteArray} {nL fr lo : Nat} {pc : Nat} {lv : List (Nat × Value)} {st : List Value} {a : Nat → Nat} {M : S0} {g : GX} (C : Ok B E cc nL RX5 fr lo) (hd : decode cc pc = .ok (.getfield 149, 3)) (kk : V B E nL (wl (66 + 3 * g.2) a (shX B.2.1 a g.1) M) (pc + 3) lv (.int (M 5 2) :: st)) : V B E nL (wl (66 + 3 * g.2) a (shX B.2.1 a g.1) M) pc lv (.ref (a 5) :: st) := v_get C ginX1 rfl 2 (by decide) (gdm 145 (by decide +kernel) (by decide +kernel)) (k := 5) (by omega) (fl := (fl1 a)) rfl rfl hd kk
theorem eX5_140 : CWV RX5 140 yX1_append cX1_append 2 (some .boolean) 1 := ⟨gdm 573 (by decide +kernel) (by decide +kernel), gdm 225 (by decide +kernel) (by decide +kernel), gdm 226 (by decide +kernel) (by decide +kernel), gdm 91 (by decide +kernel) (by decide +kernel), gdm 227 (by decide +kernel) (by decide +kernel), by decide +kernel, by decide +kernel, by decide +kernel⟩
theorem eX5_29 : CWV RX5 29 yX1_read cX1_read 3 (some (.object "LoserKeepsTheBoard$Text")) 0 := ⟨gdm 228 (by decide +kernel) (by decide +kernel), gdm 229 (by decide +kernel) (by decide +kernel), gdm 230 (by decide +kernel) (by decide +kernel), gdm 91 (by decide +kernel) (by decide +kernel), gdm 231 (by decide +kernel) (by decide +kernel), by decide +kernel, by decide +kernel, by decide +kernel⟩
theorem eX5_33 : CWV RX5 33 yX4_add cX4_add 2 (some .int) 1 := ⟨gdm 342 (by decide +kernel) (by decide +kernel), gdm 343 (by decide +kernel) (by decide +kernel), gdm 344 (by decide +kernel) (by decide +kernel), gdm 90 (by decide +kernel) (by decide +kernel), gdm 345 (by decide +kernel) (by decide +kernel), by decide +kernel, by decide +kernel, by decide +kernel⟩
set_option maxHeartbeats 4000000 in
set_option maxRecDepth 20000 in
theorem c5_feed {B : BX} {a : Nat → Nat} {g : GX} {M : S0} {p1 : Int32} {Q : Int32 → S0 → Prop} (h : w5_feed g M p1 Q) : KI B (wl (66 + 3 * g.2) a (shX B.2.1 a g.1)) yX5_feed cX5_feed 2 (some .int) 2 60 [.ref (a 0), .int p1] M Q := by
  unfold w5_feed at h
  refine KI_of (by decide +kernel) (Nat.le_of_ble_eq_true rfl) (fun E C hR => ?_)
  change V B E 2 (wl (66 + 3 * g.2) a (shX B.2.1 a g.1) M) 0 [(0, .ref (a 0)), (1, .int p1)] []
  change Ok B E cX5_feed 2 RX5 2 60 at C
  refine v_iload_n C 1 dX5_feed_0 rfl rfl ?_
  refine v_iconst C dX5_feed_1 (v := (0 : Int32)) (by decide) ?_
  refine v_sipush C dX5_feed_2 (v := (255 : Int32)) (by decide) ?_
  refine v_callSi (As := [.int p1, .int 0, .int 255]) (rest := []) C (c5_isWithin h) eX5_82 (by decide) (by decide) rfl rfl (Nat.le_of_ble_eq_true rfl) dX5_feed_5 (fun r2 M1 h => ?_)
  refine v_if_ne C dX5_feed_8 (tgt := 14) (by decide) (fun c => ?_) (fun c => ?_)
  · replace h := h.1 c
    refine v_aload_n C 0 dX5_feed_14 rfl rfl ?_
    refine fX5_5_g_reader C dX5_feed_15 ?_
    refine v_iload_n C 1 dX5_feed_18 rfl rfl ?_
    refine g_Vi (wf := wl 3 (fun k => a (5 + k)) (shR B.2.1 (fun k => a (5 + k)))) (M := RdX M1) (h := a 5) (k0 := 5) (fs := fl1 a (M1 5)) (As := [.int p1]) (rest := []) C (c1_append h) eX5_140 (by decide) (by decide) (by rw [wl_get (by omega)]; rfl) spR rfl rfl rfl (Nat.le_of_ble_eq_true rfl) dX5_feed_19 (fun r4 R h => ?_)
    refine v_Rb ?_
    refine v_if_eq C dX5_feed_22 (tgt := 35) (by decide) (fun c => ?_) (fun c => ?_)
    · replace h := h.1 c
      refine v_bipush C dX5_feed_35 (v := (-4 : Int32)) (by decide) ?_
      exact hR _ _ _ _ h dX5_feed_37
    · replace h := h.2 c
      refine v_aload_n C 0 dX5_feed_25 rfl rfl ?_
      refine fX5_5_g_reader C dX5_feed_26 ?_
      refine fX5_1_g_size C dX5_feed_29 ?_
      refine v_goto C dX5_feed_32 (tgt := 37) (by decide) ?_
      exact hR _ _ _ _ h dX5_feed_37
  · replace h := h.2 c
    refine v_bipush C dX5_feed_11 (v := (-2 : Int32)) (by decide) ?_
    exact hR _ _ _ _ h dX5_feed_13
set_option maxHeartbeats 8000000 in
set_option maxRecDepth 20000 in
theorem nX5_text {B : BX} {a : Nat → Nat} {g : GX} {X : S0} {Q : Int32 → GX → S0 → Prop} (h : w5_text g X Q) : KGi B yX5_text cX5_text 2 81 1950 3 165 [.ref (a 0)] (wl (66 + 3 * g.2) a (shX B.2.1 a g.1) X) (fun r w1 => ∃ (g' : GX) (a' : Nat → Nat) (X' : S0), a' 0 = a 0 ∧ w1 = wl (66 + 3 * g'.2) a' (shX B.2.1 a' g'.1) X' ∧ Q r g' X') := by
  refine KGi_of (by decide +kernel) (Nat.le_of_ble_eq_true rfl) (fun E G hI hR => ?_)
  change V B (bmp E 0 0) 2 (wl (66 + 3 * g.2) a (shX B.2.1 a g.1) X) 0 [(0, .ref (a 0))] []
  change OkG B E cX5_text 2 RX5 81 1950 3 165 at G
  have C := G.at (k := 0) (n := 0) (by decide) (by decide)
  unfold w5_text at h
  refine v_aload_n C 0 dX5_text_0 rfl rfl ?_
  refine fX5_5_g_texts C dX5_text_1 ?_
  refine fX5_4_g_many C dX5_text_4 ?_
  refine v_bipush C dX5_text_7 (v := (6 : Int32)) (by decide) ?_
  refine v_icmp_lt C dX5_text_9 (tgt := 15) (by decide) (fun c => ?_) (fun c => ?_)
  · replace h := h.2 (Int32.not_le.mpr c)
    refine v_aload_n C 0 dX5_text_15 rfl rfl ?_
    refine fX5_5_g_reader C dX5_text_16 ?_
    refine g_Gq (k := 0) (n := 0) (h := a 5) (k0 := 5) (fs := fl1 a (X 5)) (As := []) (rest := []) G (nX1_read (a := (fun k => a (5 + k))) h) eX5_29 (by decide) (by decide) (by rw [wl_get (by omega)]; rfl) spR rfl (by decide) (by decide) rfl rfl (Nat.le_of_ble_eq_true rfl) dX5_text_19 (fun o w1 hw1 => ?_)
    refine v_bm (k' := 3) (n' := 165) rfl rfl ?_
    have C := G.at (k := 3) (n := 165) (by decide) (by decide)
    rcases hw1 with ⟨rfl, R, rfl, hQ⟩ | ⟨L, cf, en, R, t, cd, e, rfl, rfl, hL, ⟨h13, hg, h2⟩, hQ⟩
    · refine v_Rb ?_
      refine v_astoreN_n (lv' := [(1, .null), (0, .ref (a 0))]) C dX5_text_22 rfl (by decide) rfl ?_
      refine v_aloadN_n C 0 dX5_text_23 rfl rfl ?_
      refine v_ifnonnullN C dX5_text_24 ?_
      refine v_bipush C dX5_text_27 (v := (-100 : Int32)) (by decide) ?_
      refine v_aload_n C 1 dX5_text_29 rfl rfl ?_
      refine fX5_5_g_reader C dX5_text_30 ?_
      refine fX5_1_g_fault C dX5_text_33 ?_
      refine v_isub C dX5_text_36 ?_
      exact hR _ _ _ _ 3 165 (by decide) (by decide) ⟨g, a, _, rfl, rfl, hQ⟩ dX5_text_37
    · refine v_Rb3 ?_
      refine v_astore_n (lv' := [(1, .ref t), (0, .ref (a 0))]) C dX5_text_22 rfl (by decide) rfl ?_
      refine v_aload_n C 0 dX5_text_23 rfl rfl ?_
      refine v_ifnonnull C dX5_text_24 (tgt := 38) (by decide) ?_
      refine v_aload_n C 1 dX5_text_38 rfl rfl ?_
      refine v_getE C ginX5 rfl 0 (by decide) (gdm 413 (by decide +kernel) (by decide +kernel)) 0 (fs := fl5 a (X 0)) (by rw [ml_get (by omega)]; unfold en3n; rw [if_pos (by omega)]; rfl) (v := .ref (a 1)) rfl dX5_text_39 ?_
      refine v_aload_n C 0 dX5_text_42 rfl rfl ?_
      have hpX : putR X R 1 = X 1 := putR_o (by decide)
      have hpX2 : putR X R 2 = X 2 := putR_o (by decide)
      have hsp : Sp (ml (66 + 3 * g.2 + 3) (en3n B.2.1 g a (putR X R) t cd e L cf en)) (ml (66 + 3 * g.2) (fun i => en3n B.2.1 g a (putR X R) t cd e L cf en (gr2 (66 + 3 * g.2) i))) [(a 1, .inr (4, [.ref (a 2), .ref (a 3), .ref (a 4), .int (nI g.2)])), (a 2, .inl (B.2.1 4, 6, .inr (.inr (.inr (.inr (rowF a (putR X R 2))))))), (t, .inr (3, [.ref cd, .ref e]))] := by
        have hs := ml_sp (N := 66 + 3 * g.2 + 3) (p := 66 + 3 * g.2) (q := 3) (en := en3n B.2.1 g a (putR X R) t cd e L cf en) (gr := gr2 (66 + 3 * g.2)) (gc := fun i => if i = 0 then 1 else if i = 1 then 2 else 66 + 3 * g.2) (fun i hi => by unfold gr2; split <;> (try split) <;> omega) (fun i hi => by show (if i = 0 then 1 else if i = 1 then 2 else 66 + 3 * g.2) < _; split <;> (try split) <;> omega) (fun i j hi hj h => by unfold gr2 at h; split at h <;> split at h <;> (try split at h) <;> (try split at h) <;> omega) (fun i j hi hj h => by have h : (if i = 0 then 1 else if i = 1 then 2 else 66 + 3 * g.2) = (if j = 0 then 1 else if j = 1 then 2 else 66 + 3 * g.2) := h; split at h <;> split at h <;> (try split at h) <;> (try split at h) <;> omega) (fun i j hi hj h => by have h : gr2 (66 + 3 * g.2) i = (if j = 0 then 1 else if j = 1 then 2 else 66 + 3 * g.2) := h; unfold gr2 at h; split at h <;> split at h <;> (try split at h) <;> (try split at h) <;> omega)
        have e3 : ml 3 (fun i => en3n B.2.1 g a (putR X R) t cd e L cf en ((fun i => if i = 0 then 1 else if i = 1 then 2 else 66 + 3 * g.2) i)) = [(a 1, .inr (4, [.ref (a 2), .ref (a 3), .ref (a 4), .int (nI g.2)])), (a 2, .inl (B.2.1 4, 6, .inr (.inr (.inr (.inr (rowF a (putR X R 2))))))), (t, .inr (3, [.ref cd, .ref e]))] := by
          show [en3n B.2.1 g a (putR X R) t cd e L cf en 1, en3n B.2.1 g a (putR X R) t cd e L cf en 2, en3n B.2.1 g a (putR X R) t cd e L cf en (66 + 3 * g.2)] = _
          have x1 : en3n B.2.1 g a (putR X R) t cd e L cf en 1 = (a 1, .inr (4, [.ref (a 2), .ref (a 3), .ref (a 4), .int (nI g.2)])) := by
            unfold en3n
            rw [if_pos (by omega), ← h13, ← hpX]
            rfl
          have x2 : en3n B.2.1 g a (putR X R) t cd e L cf en 2 = (a 2, .inl (B.2.1 4, 6, .inr (.inr (.inr (.inr (rowF a (putR X R 2))))))) := by
            unfold en3n
            rw [if_pos (by omega)]
            rfl
          have x3 : en3n B.2.1 g a (putR X R) t cd e L cf en (66 + 3 * g.2) = (t, .inr (3, [.ref cd, .ref e])) := by
            unfold en3n
            rw [if_neg (by omega), if_pos rfl]
          rw [x1, x2, x3]
        rw [e3] at hs
        exact hs
      refine g_Gi (k := 3) (n := 165) (h := a 1) (k0 := 1) (fs := [.ref (a 2), .ref (a 3), .ref (a 4), .int (nI g.2)]) (As := [.ref t]) (rest := []) G (nX4_add hg) eX5_33 (by decide) (by decide) (by rw [ml_get (by omega)]; unfold en3n; rw [if_pos (by omega), ← h13, ← hpX]; rfl) hsp rfl (by decide) (by decide) rfl rfl (Nat.le_of_ble_eq_true rfl) dX5_text_43 (fun r w1 hw1 => ?_)
      obtain ⟨rfl, rfl⟩ := hw1
      refine v_bm (k' := 3) (n' := 165) rfl rfl ?_
      refine v_addb (by rw [hpX]; exact h13) hg (by rw [hpX2]; exact h2) ?_
      refine hR _ _ _ _ 3 165 (by decide) (by decide) ⟨gN g L, _, _, ?_, rfl, ?_⟩ dX5_text_46
      · unfold aN
        rw [if_neg (by omega), if_neg (by omega), if_neg (by omega)]
      · rw [h13, nI_1, nI_pred] at hQ
        exact hQ
  · replace h := h.1 (Int32.not_lt.mp c)
    refine v_bipush C dX5_text_12 (v := (-4 : Int32)) (by decide) ?_
    exact hR _ _ _ _ 0 0 (by decide) (by decide) ⟨g, a, X, rfl, rfl, h⟩ dX5_text_14
