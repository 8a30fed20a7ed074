/-! PURE: kept: what a person was kept in -/
section KEPT
variable {N k : Nat} {a b : Nat → Nat} {wn cm fr to : Nat → Int32}
def ripN : Nat → Nat → Nat → Nat
  | 0, f, _ => f
  | m + 1, f, u => ripN m (rip f u) u
theorem ripN_le : ∀ (m : Nat) {f u : Nat}, f ≤ 9 → ripN m f u ≤ 9
  | 0, _, _, h => h
  | m + 1, _, _, h => ripN_le m (rip_le h)
theorem out_l {a0 : Int32} {u m : Nat} (hu : u ≤ 3) (hm : m < 1000) : ∀ d i, i + d = m → ∀ fl, d < fl → ∀ f, f ≤ 9 → x4_outOf_b5 N a0 (nI u) (nI m) fl (nI f) (nI i) = some (nI (ripN d f u)) := by
  intro d
  induction d with
  | zero =>
    intro i hi fl hfl f hf
    obtain ⟨fl, rfl⟩ : ∃ m, fl = m + 1 := ⟨fl - 1, by omega⟩
    have e : i = m := by omega
    subst e
    rw [x4_outOf_b5, if_pos (nI_le (Nat.le_refl _) (by omega))]
    rfl
  | succ d ih =>
    intro i hi fl hfl f hf
    obtain ⟨fl, rfl⟩ : ∃ m, fl = m + 1 := ⟨fl - 1, by omega⟩
    rw [x4_outOf_b5, if_neg (nI_ge (by omega) (by omega)), ripX hf hu, gB1_s, show nI i + (1 : Int32) = nI (i + 1) from nI_1 i]
    exact ih (i + 1) (by omega) fl (by omega) _ (rip_le hf)
theorem soak_l {a0 : Int32} {u m : Nat} (hu : u ≤ 3) (hm : m < 1000) : ∀ d i, i + d = m → ∀ fl, d < fl → ∀ f, f ≤ 9 → x8_soakedFor_b5 N a0 (nI u) (nI m) fl (nI f) (nI i) = some (nI (ripN d f u)) := by
  intro d
  induction d with
  | zero =>
    intro i hi fl hfl f hf
    obtain ⟨fl, rfl⟩ : ∃ m, fl = m + 1 := ⟨fl - 1, by omega⟩
    have e : i = m := by omega
    subst e
    rw [x8_soakedFor_b5, if_pos (nI_le (Nat.le_refl _) (by omega))]
    rfl
  | succ d ih =>
    intro i hi fl hfl f hf
    obtain ⟨fl, rfl⟩ : ∃ m, fl = m + 1 := ⟨fl - 1, by omega⟩
    rw [x8_soakedFor_b5, if_neg (nI_ge (by omega) (by omega)), ripM hf hu, gB1_s, show nI i + (1 : Int32) = nI (i + 1) from nI_1 i]
    exact ih (i + 1) (by omega) fl (by omega) _ (rip_le hf)
/-- does a way fit the first i tastes -/
def fitS (a b : Nat → Nat) (way : Nat) : Nat → Bool
  | 0 => true
  | i + 1 => fitS a b way i && decide (ripN (way % 10) (a i) (way / 10) = b i)
theorem fitS_succ (a b : Nat → Nat) (way i : Nat) : fitS a b way (i + 1) = (fitS a b way i && decide (ripN (way % 10) (a i) (way / 10) = b i)) := rfl
theorem fitS_no {way i : Nat} (h : fitS a b way i = false) : ∀ d, fitS a b way (i + d) = false
  | 0 => h
  | d + 1 => by rw [← Nat.add_assoc, fitS_succ, fitS_no h d]; rfl
def TT2 (k : Nat) (a b : Nat → Nat) (fr to : Nat → Int32) : Prop := k ≤ 6 ∧ ∀ i, i < k → fr i = nI (a i) ∧ to i = nI (b i) ∧ a i ≤ 9 ∧ b i ≤ 9
theorem fits_l {way : Nat} (hT : TT2 k a b wn cm) (hw : way < 40) (hN : 100 ≤ N) : ∀ d i, i + d = k → ∀ fl, d < fl → fitS a b way i = true → x4_fits_b2 N (nI k) wn cm (nI way) fl (nI i) = some (bI (fitS a b way k)) := by
  have hk := hT.1
  intro d
  induction d with
  | zero =>
    intro i hi fl hfl h
    obtain ⟨fl, rfl⟩ : ∃ m, fl = m + 1 := ⟨fl - 1, by omega⟩
    have e : i = k := by omega
    subst e
    rw [x4_fits_b2, if_pos (nI_le (Nat.le_refl _) (by omega)), h]
    rfl
  | succ d ih =>
    intro i hi fl hfl h
    obtain ⟨fl, rfl⟩ : ∃ m, fl = m + 1 := ⟨fl - 1, by omega⟩
    obtain ⟨t1, t2, t3, t4⟩ := hT.2 i (by omega)
    have d1 : nI way / (10 : Int32) = nI (way / 10) := pk_div (d := 10) (by omega) (by omega) (by omega)
    have d2 : nI way - nI (way / 10) * (10 : Int32) = nI (way % 10) := remN2 way (d := 10)
    have o : x4_outOf N (nI (a i)) (nI (way / 10)) (nI (way % 10)) = some (nI (ripN (way % 10) (a i) (way / 10))) := out_l (by omega) (by omega) (way % 10) 0 (by omega) N (by omega) (a i) t3
    have r9 := ripN_le (way % 10) (u := way / 10) t3
    rw [x4_fits_b2, if_neg (nI_ge (by omega) (by omega)), if_neg (show ¬ (6 : Int32) ≤ nI i from nI_ge (a := i) (b := 6) (by omega) (by omega)), gIn_t (by omega) (by omega), gChk_t, nI_clamp (by omega), t1, t2, d1, d2, o, gB1_s, gChk_t]
    by_cases z : ripN (way % 10) (a i) (way / 10) = b i
    · rw [if_pos (by rw [z]), show nI i + (1 : Int32) = nI (i + 1) from nI_1 i]
      refine ih (i + 1) (by omega) fl (by omega) ?_
      rw [fitS_succ, h, z]
      simp
    · rw [if_neg (fun y => z ((nI_eq (by omega) (by omega)).mp y))]
      have e : fitS a b way (i + 1) = false := by rw [fitS_succ, decide_eq_false z, Bool.and_false]
      have e2 := fitS_no e d
      rw [show i + 1 + d = k from by omega] at e2
      rw [e2]
      rfl
theorem fitsX {way : Nat} (hT : TT2 k a b wn cm) (hw : way < 40) (hN : 100 ≤ N) : x4_fits N (nI k) wn cm (nI way) = some (bI (fitS a b way k)) := fits_l hT hw hN k 0 (by omega) N (by have := hT.1; omega) rfl
/-- the first below n -/
def fstS (p : Nat → Bool) : Nat → Option Nat
  | 0 => none
  | i + 1 => match fstS p i with
    | some j => some j
    | none => if p i = true then some i else none
theorem fst_ct (p : Nat → Bool) : ∀ n, fb_ct p n = 0 ↔ fstS p n = none
  | 0 => ⟨fun _ => rfl, fun _ => rfl⟩
  | n + 1 => by
    rw [fb_ct_succ, fstS]
    have ih := fst_ct p n
    cases h : fstS p n with
    | some j =>
      have : ¬ fb_ct p n = 0 := fun z => by rw [ih.mp z] at h; cases h
      simp
      omega
    | none =>
      rw [ih.mpr h]
      cases p n <;> simp
theorem fst_keep {p : Nat → Bool} {n j : Nat} (h : fstS p n = some j) : ∀ d, fstS p (n + d) = some j
  | 0 => h
  | d + 1 => by rw [← Nat.add_assoc, fstS, fst_keep h d]
theorem cntX_l (hT : TT2 k a b wn cm) (hN : 100 ≤ N) : ∀ d i, i + d = 40 → ∀ fl, d < fl → x4_countFits_b4 N (nI k) wn cm fl (nI (fb_ct (fun w => fitS a b w k) i)) (nI i) = some (nI (fb_ct (fun w => fitS a b w k) 40)) := by
  intro d
  induction d with
  | zero =>
    intro i hi fl hfl
    obtain ⟨fl, rfl⟩ : ∃ m, fl = m + 1 := ⟨fl - 1, by omega⟩
    have e : i = 40 := by omega
    subst e
    rw [x4_countFits_b4, if_pos (show (40 : Int32) ≤ nI 40 from by decide)]
  | succ d ih =>
    intro i hi fl hfl
    obtain ⟨fl, rfl⟩ : ∃ m, fl = m + 1 := ⟨fl - 1, by omega⟩
    rw [x4_countFits_b4, if_neg (show ¬ (40 : Int32) ≤ nI i from nI_ge (a := i) (b := 40) (by omega) (by omega)), fitsX hT (by omega) hN, gB1_s]
    unfold x4_countFits_b24
    have step := ih (i + 1) (by omega) fl (by omega)
    rw [fb_ct_succ] at step
    rw [show nI i + (1 : Int32) = nI (i + 1) from nI_1 i]
    cases h : fitS a b i k with
    | true =>
      rw [if_neg (show ¬ bI true = (0 : Int32) from by decide), show nI (fb_ct (fun w => fitS a b w k) i) + (1 : Int32) = nI (fb_ct (fun w => fitS a b w k) i + 1) from nI_1 _]
      simp only [h, if_true] at step
      exact step
    | false =>
      rw [if_pos (show bI false = (0 : Int32) from rfl), show nI (fb_ct (fun w => fitS a b w k) i) + (0 : Int32) = nI (fb_ct (fun w => fitS a b w k) i + 0) from nI_add _ 0]
      simp only [h] at step
      exact step
theorem fstX_l (hT : TT2 k a b wn cm) (hN : 100 ≤ N) : ∀ d i, i + d = 40 → ∀ fl, d < fl → fstS (fun w => fitS a b w k) i = none → x4_firstFit_b2 N (nI k) wn cm fl (nI i) = some (oI (fstS (fun w => fitS a b w k) 40)) := by
  intro d
  induction d with
  | zero =>
    intro i hi fl hfl h
    obtain ⟨fl, rfl⟩ : ∃ m, fl = m + 1 := ⟨fl - 1, by omega⟩
    have e : i = 40 := by omega
    subst e
    rw [x4_firstFit_b2, if_pos (show (40 : Int32) ≤ nI 40 from by decide), h]
    rfl
  | succ d ih =>
    intro i hi fl hfl h
    obtain ⟨fl, rfl⟩ : ∃ m, fl = m + 1 := ⟨fl - 1, by omega⟩
    rw [x4_firstFit_b2, if_neg (show ¬ (40 : Int32) ≤ nI i from nI_ge (a := i) (b := 40) (by omega) (by omega)), fitsX hT (by omega) hN, gB1_s]
    cases hp : fitS a b i k with
    | true =>
      rw [if_neg (show ¬ bI true = (0 : Int32) from by decide)]
      have e : fstS (fun w => fitS a b w k) (i + 1) = some i := by
        rw [fstS, h]
        simp [hp]
      have e2 := fst_keep e d
      rw [show i + 1 + d = 40 from by omega] at e2
      rw [e2, oI_some]
    | false =>
      rw [if_pos (show bI false = (0 : Int32) from rfl), show nI i + (1 : Int32) = nI (i + 1) from nI_1 i]
      refine ih (i + 1) (by omega) fl (by omega) ?_
      rw [fstS, h]
      simp [hp]
theorem innM {way many : Nat} {a1 th : Int32} {first : Int32} (hT : TT2 k a b fr to) (hw : way < 40) (hm : many < 1000) (hN : 100 ≤ N) (k31 : Int32 → Int32 → Int32 → Int32 → Option (Int32 × (Int32) × (Int32) × (Int32))) : ∀ d i, i + d = k → ∀ fl, d < fl → x8_kept_b42 N (nI k) fr to a1 k31 fl (nI way) (bI (fitS a b way i)) (nI i) th (nI many) first = k31 (nI (way + 1)) th (nI (many + if fitS a b way k = true then 1 else 0)) (if fitS a b way k = true ∧ many = 0 then nI way else first) := by
  have hk := hT.1
  intro d
  induction d with
  | zero =>
    intro i hi fl hfl
    obtain ⟨fl, rfl⟩ : ∃ m, fl = m + 1 := ⟨fl - 1, by omega⟩
    have e : i = k := by omega
    subst e
    rw [x8_kept_b42, if_pos (nI_le (Nat.le_refl _) (by omega))]
    unfold x8_kept_b111 x8_kept_b115 x8_kept_b132
    rw [show nI way + (1 : Int32) = nI (way + 1) from nI_1 way]
    cases h : fitS a b way i with
    | true =>
      rw [if_neg (show ¬ bI true = (0 : Int32) from by decide), if_neg (show ¬ bI true = (0 : Int32) from by decide), if_neg (show ¬ bI true = (0 : Int32) from by decide), show nI many + (1 : Int32) = nI (many + 1) from nI_1 _, if_pos rfl]
      by_cases z : many = 0
      · rw [if_pos (show nI many = (0 : Int32) from eqn 0 z), if_pos ⟨rfl, z⟩]
      · rw [if_neg (show ¬ nI many = (0 : Int32) from nq 0 hm (by omega) z), if_neg (fun q => z q.2)]
    | false =>
      rw [if_pos (show bI false = (0 : Int32) from rfl), if_pos (show bI false = (0 : Int32) from rfl), show nI many + (0 : Int32) = nI (many + 0) from nI_add _ 0, if_neg (by decide), if_neg (fun q => by cases q.1)]
  | succ d ih =>
    intro i hi fl hfl
    obtain ⟨fl, rfl⟩ : ∃ m, fl = m + 1 := ⟨fl - 1, by omega⟩
    obtain ⟨t1, t2, t3, t4⟩ := hT.2 i (by omega)
    have d1 : nI way / (10 : Int32) = nI (way / 10) := pk_div (d := 10) (by omega) (by omega) (by omega)
    have d2 : nI way - nI (way / 10) * (10 : Int32) = nI (way % 10) := remN2 way (d := 10)
    have o : x8_soakedFor N (nI (a i)) (nI (way / 10)) (nI (way % 10)) = some (nI (ripN (way % 10) (a i) (way / 10))) := soak_l (by omega) (by omega) (way % 10) 0 (by omega) N (by omega) (a i) t3
    have r9 := ripN_le (way % 10) (u := way / 10) t3
    have step := ih (i + 1) (by omega) fl (by omega)
    rw [fitS_succ] at step
    rw [x8_kept_b42, if_neg (nI_ge (by omega) (by omega))]
    unfold x8_kept_b87
    rw [show nI i + (1 : Int32) = nI (i + 1) from nI_1 i]
    cases h : fitS a b way i with
    | true =>
      rw [if_neg (show ¬ bI true = (0 : Int32) from by decide), gIn_t (by omega) (by omega), gChk_t, nI_clamp (by omega), t1, t2, d1, d2, o, gB1_s, gChk_t]
      rw [h, Bool.true_and] at step
      by_cases z : ripN (way % 10) (a i) (way / 10) = b i
      · rw [if_pos (by rw [z])]
        rw [decide_eq_true z] at step
        exact step
      · rw [if_neg (fun y => z ((nI_eq (by omega) (by omega)).mp y))]
        rw [decide_eq_false z] at step
        exact step
    | false =>
      rw [if_pos (show bI false = (0 : Int32) from rfl)]
      rw [h, Bool.false_and] at step
      exact step
theorem kepM_l {a1 th : Int32} (hT : TT2 k a b fr to) (hN : 100 ≤ N) : ∀ d i, i + d = 40 → ∀ fl, d < fl → x8_kept_b31 N (nI k) fr to a1 fl (nI i) th (nI (fb_ct (fun w => fitS a b w k) i)) (oI (fstS (fun w => fitS a b w k) i)) = some (if a1 = (0 : Int32) then nI (fb_ct (fun w => fitS a b w k) 40) else oI (fstS (fun w => fitS a b w k) 40), th, nI (fb_ct (fun w => fitS a b w k) 40), oI (fstS (fun w => fitS a b w k) 40)) := by
  have hk := hT.1
  intro d
  induction d with
  | zero =>
    intro i hi fl hfl
    obtain ⟨fl, rfl⟩ : ∃ m, fl = m + 1 := ⟨fl - 1, by omega⟩
    have e : i = 40 := by omega
    subst e
    rw [x8_kept_b31, if_pos (show (40 : Int32) ≤ nI 40 from by decide)]
    by_cases z : a1 = 0
    · rw [if_pos z, if_pos z]
    · rw [if_neg z, if_neg z]
  | succ d ih =>
    intro i hi fl hfl
    obtain ⟨fl, rfl⟩ : ∃ m, fl = m + 1 := ⟨fl - 1, by omega⟩
    have hc := fb_ct_le (fun w => fitS a b w k) i
    have inn := innM (N := N) (way := i) (many := fb_ct (fun w => fitS a b w k) i) (a1 := a1) (th := th) (first := oI (fstS (fun w => fitS a b w k) i)) hT (by omega) (by omega) hN (x8_kept_b31 N (nI k) fr to a1 fl) k 0 (by omega) N (by omega)
    have step := ih (i + 1) (by omega) fl (by omega)
    rw [x8_kept_b31, if_neg (show ¬ (40 : Int32) ≤ nI i from nI_ge (a := i) (b := 40) (by omega) (by omega)), show x8_kept_b42 N (nI k) fr to a1 (x8_kept_b31 N (nI k) fr to a1 fl) N (nI i) 1 0 th (nI (fb_ct (fun w => fitS a b w k) i)) (oI (fstS (fun w => fitS a b w k) i)) = _ from inn]
    have ef : (if fitS a b i k = true ∧ fb_ct (fun w => fitS a b w k) i = 0 then nI i else oI (fstS (fun w => fitS a b w k) i)) = oI (fstS (fun w => fitS a b w k) (i + 1)) := by
      rw [fstS]
      cases h : fstS (fun w => fitS a b w k) i with
      | some j =>
        rw [if_neg (fun q => by rw [(fst_ct _ _).mp q.2] at h; cases h)]
      | none =>
        have z := (fst_ct _ _).mpr h
        by_cases q : fitS a b i k = true
        · rw [if_pos ⟨q, z⟩]
          simp only [q, if_true]
          rw [oI_some]
        · rw [if_neg (fun y => q y.1)]
          simp only [if_neg q]
    rw [ef]
    exact step
theorem st_kept {cnt td th km kf : Int32} (h : TST cnt wn cm td fr to) (hN : 2000 ≤ N) (a1 : Int32) : ∃ r km' kf', x7_kept N cnt wn cm a1 = some r ∧ x8_kept N th td km kf fr to a1 = some (r, 0, km', kf') := by
  obtain ⟨k, hk, rfl, rfl, hb⟩ := h
  have hT2 : TT2 k (fun i => (fr i).toNatClampNeg) (fun i => (to i).toNatClampNeg) fr to := ⟨hk, fun i hi => by
    obtain ⟨-, -, x, y, hx, hy, e1, e2⟩ := hb i hi
    have c1 : (fr i).toNatClampNeg = x := by rw [e1, nI_clamp (by omega)]
    have c2 : (to i).toNatClampNeg = y := by rw [e2, nI_clamp (by omega)]
    simp only [c1, c2]
    exact ⟨e1, e2, hx, hy⟩⟩
  have hT : TT2 k (fun i => (fr i).toNatClampNeg) (fun i => (to i).toNatClampNeg) wn cm := ⟨hk, fun i hi => by
    obtain ⟨q1, q2, -⟩ := hb i hi
    rw [q1, q2]
    exact hT2.2 i hi⟩
  unfold x7_kept x8_kept
  rcases inC 0 1 (by omega) (by omega) a1 with z | ⟨u, -, hu, rfl, g3, g4⟩
  · rw [r_bad' (lo := (0 : Int32)) (hi := (1 : Int32)) z, in_f 0 1 (by decide) (by decide) z]
    exact ⟨_, _, _, rfl, rfl⟩
  · have eM := kepM_l (N := N) (a1 := nI u) (th := 0) hT2 (by omega) 40 0 (by omega) N (by omega)
    rw [r_ok' (lo := (0 : Int32)) (hi := (1 : Int32)) g3 g4, in_t 0 1 (by decide) (by decide) g3 g4, gB1_s, if_neg n10]
    refine ⟨_, _, _, ?_, eM⟩
    by_cases z : u = 0
    · have eC := cntX_l (N := N) hT (by omega) 40 0 (by omega) N (by omega)
      rw [if_pos (show nI u = (0 : Int32) from eqn 0 z), if_pos (show nI u = (0 : Int32) from eqn 0 z)]
      unfold x4_countFits
      rw [show x4_countFits_b4 N (nI k) wn cm N 0 0 = _ from eC, gB1_s]
    · have eF := fstX_l (N := N) hT (by omega) 40 0 (by omega) N (by omega) rfl
      rw [if_neg (show ¬ nI u = (0 : Int32) from nq 0 (by omega) (by omega) z), if_neg (show ¬ nI u = (0 : Int32) from nq 0 (by omega) (by omega) z)]
      unfold x4_firstFit
      rw [show x4_firstFit_b2 N (nI k) wn cm N 0 = _ from eF, gB1_s]
end KEPT
