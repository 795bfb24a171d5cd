/-! POWER, TIRE, A GAME, in the class's Club -/
section XM
variable {g : GX} {b : Nat} {X : S0} {κ : CS} {tv : TV} {nT : Nat}
theorem x_throwsBy {p q : Nat} {yes : Bool} {Q : Int32 → S0 → Prop} (hR : RelX b κ X) (hI : IC κ) (hp : p < cN κ) (hq : q < cN κ) (h : Q (if thrF κ p q yes = true then 1 else 0) X) : w0_throwsBy g b X (if yes = true then 1 else 0) (nI p) (nI q) Q := by
  obtain ⟨i1, i2, i3, i4, i5, i6⟩ := hI
  obtain ⟨r1, r2, r3, r4, r5, r6⟩ := hR
  have vp := vpl p 6 (by omega) (by omega)
  have vq := vpl q 6 (by omega) (by omega)
  obtain ⟨p1, p2, p3, p4⟩ := r6 p hp
  unfold w0_throwsBy
  rw [nI_clamp (n := p) (by omega), nI_clamp (n := q) (by omega), p1]
  have ew : ((if yes = true then (1 : Int32) else 0) = 0) ↔ ¬ yes = true := by cases yes <;> decide
  rw [ew]
  have ez : X (b + 5) q = 0 ↔ cH κ q = 0 := by
    rw [r5 q (by omega)]
    exact nI_eq (b := 0) (Nat.lt_trans (i2 q) (by decide)) (by decide)
  have eb : bcF (X (b + 5) p) = nI (pc8 (cH κ p)) := by rw [r5 p (by omega)]; exact bcF_pc _ (i2 p)
  have e8 := pc8_le (cH κ p)
  have el : (bcF (X (b + 5) p) < 4) ↔ pc8 (cH κ p) < 4 := by rw [eb]; exact nI_ltI (b := 4) (by omega) (by decide)
  have eg : ((4 : Int32) ≤ bcF (X (b + 5) p)) ↔ ¬ pc8 (cH κ p) < 4 := by rw [eb, Nat.not_lt]; exact nI_leI (a := 4) (by decide) (by omega)
  have eN : narrow .boolean (.int (if yes = true then (1 : Int32) else 0)) = .int (if yes = true then (1 : Int32) else 0) := by cases yes <;> rfl
  refine ⟨vp, fun c => ⟨fun c2 => ?_, fun c2 => ⟨vp, x_bc ⟨fun c3 => ?_, fun c3 => ?_⟩⟩⟩, fun c => ?_, fun c => ⟨fun c2 => ⟨vq, fun c3 => ?_, fun c3 => ?_⟩, fun c2 => ⟨vp, x_bc ⟨fun c3 => ?_, fun c3 => ⟨vq, fun c4 => ?_, fun c4 => ?_⟩⟩⟩⟩, fun c => ?_, fun c => ⟨eN, ?_⟩⟩
  · have k := ti_eq (y := 1) c (by decide)
    simp only [Bool.not_eq_true] at c2
    rw [show thrF κ p q yes = false by simp [thrF, k, c2]] at h
    exact h
  · have k := ti_eq (y := 1) c (by decide)
    have c2 := Classical.not_not.mp c2
    rw [eg] at c3
    rw [show thrF κ p q yes = false by simp [thrF, k, c2, c3]] at h
    exact h
  · have k := ti_eq (y := 1) c (by decide)
    have c2 := Classical.not_not.mp c2
    rw [eg, Classical.not_not] at c3
    rw [show thrF κ p q yes = true by simp [thrF, k, c2, c3]] at h
    exact h
  · have k := ti_eq (y := 2) c (by decide)
    rw [show thrF κ p q yes = false by simp [thrF, k]] at h
    exact h
  · have k := ti_eq (y := 3) c (by decide)
    simp only [Bool.not_eq_true] at c2
    rw [ez] at c3
    rw [show thrF κ p q yes = false by simp [thrF, k, c2, c3]] at h
    exact h
  · have k := ti_eq (y := 3) c (by decide)
    simp only [Bool.not_eq_true] at c2
    rw [ez] at c3
    rw [show thrF κ p q yes = true by simp [thrF, k, c2, c3]] at h
    exact h
  · have k := ti_eq (y := 3) c (by decide)
    have c2 := Classical.not_not.mp c2
    rw [el] at c3
    rw [show thrF κ p q yes = true by simp [thrF, k, c2, c3]] at h
    exact h
  · have k := ti_eq (y := 3) c (by decide)
    have c2 := Classical.not_not.mp c2
    rw [el] at c3
    rw [ez] at c4
    rw [show thrF κ p q yes = false by simp [thrF, k, c2, c3, c4]] at h
    exact h
  · have k := ti_eq (y := 3) c (by decide)
    have c2 := Classical.not_not.mp c2
    rw [el] at c3
    rw [ez] at c4
    rw [show thrF κ p q yes = true by simp [thrF, k, c2, c3, c4]] at h
    exact h
  · have k := ti_eq (y := 4) c (by decide)
    rw [show thrF κ p q yes = false by simp [thrF, k]] at h
    exact h
  · have k1 := ti_ne (y := 1) c (z := 1) (by decide) (by decide)
    have k2 := ti_ne (y := 2) c (z := 2) (by decide) (by decide)
    have k3 := ti_ne (y := 3) c (z := 3) (by decide) (by decide)
    have k4 := ti_ne (y := 4) c (z := 4) (by decide) (by decide)
    rw [show thrF κ p q yes = yes by simp [thrF, k1, k2, k3, k4]] at h
    exact h
theorem x_power {p q : Nat} {Q : Int32 → S0 → Prop} (hb : 10 ≤ b) (hb6 : b + 5 < 66) (hR : RelX b κ X) (hI : IC κ) (hT : TX tv nT g X) (ht : cT κ < nT) (hp : p < cN κ) (hq : q < cN κ) (hne : p ≠ q) (h : ∀ X' : S0, FX X X' → Q (powS tv κ p q) X') : w0_power g b X (nI p) (nI q) Q := by
  unfold w0_power
  refine x_areTwo hR.1 hI.1 ?_
  have i1 := hI.1
  rw [if_pos ⟨isP_nI hp (by omega), isP_nI hq (by omega), fun e => hne ((nI_eq (by omega) (by omega)).mp e)⟩]
  refine s_t (by decide) (x_nameValues hb hR hI hp hq (fun X1 f1 v1 => ?_))
  have F1 : FX X X1 := fun k a _ => f1 k a
  have R1 := hR.fr hb F1
  rw [R1.2.2.2.1]
  have step : ∀ (part : Nat) (hpt : part < 3) (Y : S0) (Q' : Int32 → S0 → Prop), FX X1 Y → Y 3 = X1 3 → (∀ Y' : S0, FX X1 Y' → Y' 3 = X1 3 → Q' (tv (cT κ) part (vals κ p q)) Y') → w4_valueOf g Y (nI (cT κ)) (nI part) Q' := by
    intro part hpt Y Q' fy e3 k
    refine hT (cT κ) ht part hpt g Y (vals κ p q) Q' (fun z => z) rfl (fun k hk _ => ?_) ?_ (fun i hi => by rw [e3]; exact v1 i hi) (fun Y' f => k Y' (fun j a b => (f j b).trans (fy j a b)) ((f 3 (by decide)).trans e3))
    · rw [fy k (by omega) (by omega), f1 k (by omega)]
    · rw [fy 2 (by omega) (by omega), f1 2 (by omega)]
  refine step 1 (by decide) X1 _ FX.rf rfl (fun X2 f2 e2 => ?_)
  have R2 := R1.fr hb f2
  have last : ∀ (Y : S0), FX X1 Y → Y 3 = X1 3 → thrS tv κ p q = false → w4_valueOf g Y (Y b 9) (0 : Int32) (fun r9 M8 => w5_bounded g M8 r9 (0 : Int32) (99 : Int32) (fun r11 M10 => w0_playsBy g b M10 r11 (nI p) (fun r13 M12 => w5_bounded g M12 r13 (0 : Int32) (999 : Int32) (fun r15 M14 => Q r15 M14)))) := by
    intro Y fy ey ht2
    have RY := R1.fr hb fy
    rw [RY.2.2.2.1]
    refine step 0 (by decide) Y _ fy ey (fun Z fz ez => ?_)
    refine x_bounded (x_playsBy (R1.fr hb fz) hI hp (x_bounded ?_))
    have e := h Z (F1.tr fz)
    unfold powS at e
    rw [ht2] at e
    exact e
  have thr1 : thrS tv κ p q = true → ∀ Y : S0, FX X1 Y → Q (-1) Y := by
    intro e Y fy
    have e2 := h Y (F1.tr fy)
    unfold powS at e2
    rw [if_pos e] at e2
    exact e2
  refine ⟨fun c => ?_, fun c => ?_⟩
  · refine x_throwsBy (yes := false) R2 hI hp hq ?_
    have e : thrS tv κ p q = thrF κ p q false := by rw [thrS_F, decide_eq_false (fun z => z c)]
    rw [← e]
    refine ⟨fun c2 => ?_, fun c2 => ?_⟩
    · refine last X2 f2 e2 ?_
      cases k : thrS tv κ p q with
      | false => rfl
      | true => rw [k] at c2; exact absurd c2 (by decide)
    · refine thr1 ?_ X2 f2
      cases k : thrS tv κ p q with
      | true => rfl
      | false => rw [k] at c2; exact absurd rfl c2
  · refine x_throwsBy (yes := true) R2 hI hp hq ?_
    have e : thrS tv κ p q = thrF κ p q true := by rw [thrS_F, decide_eq_true c]
    rw [← e]
    refine ⟨fun c2 => ?_, fun c2 => ?_⟩
    · refine last X2 f2 e2 ?_
      cases k : thrS tv κ p q with
      | false => rfl
      | true => rw [k] at c2; exact absurd c2 (by decide)
    · refine thr1 ?_ X2 f2
      cases k : thrS tv κ p q with
      | true => rfl
      | false => rw [k] at c2; exact absurd rfl c2
theorem x_tiring {p q : Nat} {won : Bool} {Q : Int32 → S0 → Prop} (hb : 10 ≤ b) (hb6 : b + 5 < 66) (hR : RelX b κ X) (hI : IC κ) (hT : TX tv nT g X) (ht : cT κ < nT) (hp : p < cN κ) (hq : q < cN κ) (hne : p ≠ q) (h : ∀ X' : S0, FX X X' → Q (tirS tv κ p q won) X') : w0_tiring g b X (nI p) (nI q) (if won = true then 1 else 0) Q := by
  unfold w0_tiring
  refine x_areTwo hR.1 hI.1 ?_
  have i1 := hI.1
  rw [if_pos ⟨isP_nI hp (by omega), isP_nI hq (by omega), fun e => hne ((nI_eq (by omega) (by omega)).mp e)⟩]
  refine s_t (by decide) (x_nameValues hb hR hI hp hq (fun X1 f1 v1 => ?_))
  have F1 : FX X X1 := fun k a _ => f1 k a
  have R1 := hR.fr hb F1
  rw [R1.2.2.2.1]
  refine hT (cT κ) ht 2 (by decide) g X1 (vals κ p q) _ (fun z => z) rfl (fun k hk _ => f1 k (by omega)) (congrFun (f1 2 (by omega)) _) v1 (fun X2 f2 => ?_)
  have F2 : FX X1 X2 := fun k _ hk => f2 k hk
  exact x_bounded (x_tiresBy (R1.fr hb F2) hI hp (x_bounded (h X2 (F1.tr F2))))
end XM
