/-! PURE: pairs, in the class and in the reference -/
theorem nrfl {a b : Int32} (h : a = b) : a = b := Int32.toInt_inj.mp (congrArg Int32.toInt h)
theorem oI_some (j : Nat) : oI (some j) = nI j := nrfl rfl
theorem oI_none : oI none = -nI 9 := nrfl rfl
section PXM
variable {n : Nat} {c : Nat → Nat → Nat} {f kd sz pg : Nat → Int32} {N : Nat} {j s : Nat}
theorem isPlace_t {q : Nat} (h : q < 8) : x7_isPlace (nI q) = some (nI 1) := by
  have z : ∀ a : Fin 8, x7_isPlace (nI a.val) = some (nI 1) := by decide +kernel
  exact z ⟨q, h⟩
theorem fillX_b (hX : XR n c f) (hG : Good n c) : ∀ k i, i + k = n → ∀ fl, k < fl → ∀ y, (∀ q, q < 8 → y q = oI (atS c q i)) → ∃ y', x2_fillStanding_b24 N (nI n) f fl (nI i) y = some y' ∧ ∀ q, q < 8 → y' q = oI (atS c q n) := by
  have hn := hG.n6
  intro k
  induction k with
  | zero =>
    intro i hi fl hfl y hy
    obtain ⟨fl, rfl⟩ : ∃ m, fl = m + 1 := ⟨fl - 1, by omega⟩
    have e : i = n := by omega
    subst e
    exact ⟨y, by rw [x2_fillStanding_b24, if_pos (nI_le (Nat.le_refl _) (by omega))], hy⟩
  | succ k ih =>
    intro i hi fl hfl y hy
    obtain ⟨fl, rfl⟩ : ∃ m, fl = m + 1 := ⟨fl - 1, by omega⟩
    have hin : i < n := by omega
    obtain ⟨g0, g1, g2, g3, g4, g4', g5, g6, g7⟩ := hG.2.1 i hin
    rw [x2_fillStanding_b24, if_neg (nI_ge hin (by omega))]
    simp (disch := omega) only [li, partX hX, gB1_s, nI_eq, nI_add, isPlace_t, nI_clamp, gIn_t, gChk_t]
    rw [if_neg (by omega)]
    by_cases h : c i 7 = 2
    · rw [if_pos h]
      refine ih (i + 1) (by omega) fl (by omega) y (fun q hq => ?_)
      rw [hy q hq, atS_succ, if_neg (fun z => z.1 h)]
    · rw [if_neg h]
      refine ih (i + 1) (by omega) fl (by omega) _ (fun q hq => ?_)
      rw [atS_succ]
      by_cases e : c i 0 = q
      · rw [if_pos ⟨h, e⟩, e]
        exact pk_us
      · rw [if_neg (fun z => e z.2), pk_un (fun z => e z.symm)]
        exact hy q hq
theorem fillX_a (hX : XR n c f) (hG : Good n c) (hN : 100 ≤ N) : ∀ k i, i + k = 8 → ∀ fl, k < fl → ∀ y, (∀ q, q < i → y q = -nI 9) → ∃ y', x2_fillStanding_b2 N (nI n) f fl (nI i) y = some y' ∧ ∀ q, q < 8 → y' q = oI (atS c q n) := by
  have hn := hG.n6
  intro k
  induction k with
  | zero =>
    intro i hi fl hfl y hy
    obtain ⟨fl, rfl⟩ : ∃ m, fl = m + 1 := ⟨fl - 1, by omega⟩
    have e : i = 8 := by omega
    subst e
    obtain ⟨y', a, b⟩ := fillX_b (N := N) hX hG n 0 (by omega) N (by omega) y (fun q hq => hy q hq)
    refine ⟨y', ?_, b⟩
    rw [x2_fillStanding_b2, if_pos (show (8 : Int32) ≤ nI 8 from nI_le (Nat.le_refl 8) (by omega))]
    exact a
  | succ k ih =>
    intro i hi fl hfl y hy
    obtain ⟨fl, rfl⟩ : ∃ m, fl = m + 1 := ⟨fl - 1, by omega⟩
    rw [x2_fillStanding_b2, if_neg (show ¬ (8 : Int32) ≤ nI i from nI_ge (a := i) (b := 8) (by omega) (by omega))]
    simp (disch := omega) only [li, nI_add, nI_clamp, gIn_t, gChk_t]
    refine ih (i + 1) (by omega) fl (by omega) _ (fun q hq => ?_)
    by_cases e : q = i
    · rw [e]
      exact pk_us
    · rw [pk_un e]
      exact hy q (by omega)
theorem fillX (hX : XR n c f) (hG : Good n c) (hN : 100 ≤ N) (y : Nat → Int32) : ∃ y', x2_fillStanding N (nI n) f y = some y' ∧ ∀ q, q < 8 → y' q = oI (atS c q n) := fillX_a hX hG hN 8 0 (by omega) N (by omega) y (fun q hq => by omega)
theorem facingX (hX : XR n c f) (hG : Good n c) {a b : Nat} (ha : a < n) (hb : b < n) : x2_areFacing (nI n) f (nI a) (nI b) = some (if facing c a b = true then nI 1 else nI 0) := by
  have hn := hG.n6
  obtain ⟨g0, g1, g2, g3, g4, g4', g5, g6, g7⟩ := hG.2.1 a ha
  obtain ⟨o0, o1, o2, o3, o4, o4', o5, o6, o7⟩ := hG.2.1 b hb
  unfold x2_areFacing facing
  by_cases h1 : c a 6 = 2
  · by_cases h2 : c b 6 = 0
    · by_cases h3 : c a 7 = 0
      · by_cases h4 : c b 7 = 0
        · simp (disch := omega) only [li, partX hX, gB1_s, nI_eq, h1, h2, h3, h4, if_true, wholeX_t hX, clearX hX hG ha hb, clearX hX hG hb ha, decide_true, Bool.true_and, Bool.and_true]
          by_cases k1 : clr c a b = true
          · by_cases k2 : clr c b a = true
            · simp (disch := omega) only [k1, k2, if_true, nI_eq]
              rfl
            · simp (disch := omega) only [k1, k2, if_true, if_false, nI_eq]
              simp
          · simp (disch := omega) only [k1, if_true, if_false, nI_eq]
            simp
        · simp (disch := omega) only [li, partX hX, gB1_s, nI_eq, h1, h2, h3, if_true, wholeX_t hX ha hn h3, wholeX_f hX hb hn o7 h4, h4, decide_false, Bool.and_false, Bool.false_and]
          rfl
      · simp (disch := omega) only [li, partX hX, gB1_s, nI_eq, h1, h2, if_true, wholeX_f hX ha hn g7 h3, h3, decide_false, Bool.and_false, Bool.false_and]
        rfl
    · simp (disch := omega) only [li, partX hX, gB1_s, nI_eq, h1, h2, if_true, if_false, decide_false, Bool.and_false, Bool.false_and]
      rfl
  · simp (disch := omega) only [li, partX hX, gB1_s, nI_eq, h1, if_false, decide_false, Bool.and_false, Bool.false_and]
    rfl
theorem pcS_succ (n : Nat) (c : Nat → Nat → Nat) (q : Nat) : pcS n c (q + 1) = pcS n c q + (match atS c q n with
  | some b => (match scanL c n q with
    | some a => if facing c a b = true then 1 else 0
    | none => 0)
  | none => 0) := rfl
theorem scanL_succ (n : Nat) (c : Nat → Nat → Nat) (q : Nat) : scanL c n (q + 1) = (match atS c q n with
    | some o => some o
    | none => scanL c n q) := rfl
theorem pairsX_l (hX : XR n c f) (hG : Good n c) {y : Nat → Int32} (hy : ∀ q, q < 8 → y q = oI (atS c q n)) : ∀ k q, q + k = 8 → ∀ fl, k < fl → x2_pairs_b11 N (nI n) f fl (nI (pcS n c q)) (oI (scanL c n q)) (nI q) y = some (nI (pcS n c 8), y) := by
  have hn := hG.n6
  intro k
  induction k with
  | zero =>
    intro q hi fl hfl
    obtain ⟨fl, rfl⟩ : ∃ m, fl = m + 1 := ⟨fl - 1, by omega⟩
    have e : q = 8 := by omega
    subst e
    rw [x2_pairs_b11, if_pos (show (8 : Int32) ≤ nI 8 from nI_le (Nat.le_refl 8) (by omega))]
  | succ k ih =>
    intro q hi fl hfl
    obtain ⟨fl, rfl⟩ : ∃ m, fl = m + 1 := ⟨fl - 1, by omega⟩
    have hq : q < 8 := by omega
    have step := ih (q + 1) (by omega) fl (by omega)
    rw [pcS_succ, scanL_succ] at step
    rw [x2_pairs_b11, if_neg (show ¬ (8 : Int32) ≤ nI q from nI_ge (a := q) (b := 8) hq (by omega))]
    simp (disch := omega) only [li, nI_add, nI_clamp, gIn_t, gChk_t, hy]
    cases e : atS c q n with
    | none =>
      rw [e] at step
      simp only [oI_some, oI_none, if_true]
      exact step
    | some b =>
      obtain ⟨hb, -⟩ := atS_some e
      rw [e] at step
      simp only [oI_some, oI_none]
      rw [if_neg (ne9 (by omega))]
      cases es : scanL c n q with
      | none =>
        rw [es] at step
        simp only [oI_some, oI_none, if_true, x2_pairs_b53, x2_pairs_b54, li, nI_add]
        exact step
      | some a =>
        obtain ⟨ha, -⟩ := scanL_some es
        rw [es] at step
        simp only [oI_some, oI_none]
        rw [if_neg (ne9 (by omega)), facingX hX hG ha hb]
        by_cases hf : facing c a b = true
        · simp only [hf, if_true] at step
          simp (disch := omega) only [hf, if_true, gB1_s, nI_eq, x2_pairs_b54, li, nI_add]
          rw [if_neg (by omega)]
          exact step
        · simp only [hf, if_false] at step
          simp (disch := omega) only [hf, if_false, if_true, gB1_s, nI_eq, x2_pairs_b53, x2_pairs_b54, li, nI_add]
          exact step
theorem pairsX (hX : XR n c f) (hG : Good n c) (hN : 100 ≤ N) (y : Nat → Int32) : ∃ y', x2_pairs N (nI n) f y = some (nI (pmS n c n), y') := by
  obtain ⟨y', a, b⟩ := fillX (N := N) hX hG hN y
  refine ⟨y', ?_⟩
  unfold x2_pairs
  rw [a, gB1_s, ← pairs_eq hG]
  exact pairsX_l hX hG b 8 0 (by omega) N (by omega)
theorem pmS_succ (n : Nat) (c : Nat → Nat → Nat) (i : Nat) : pmS n c (i + 1) = pmS n c i + (match seesS n c i with
  | some o => if i < o ∧ seesS n c o = some i then 1 else 0
  | none => 0) := rfl
theorem pairsM_l (hM : MR n c kd sz pg) (hG : Good n c) (hs : s < 64) (hN : 100 ≤ N) : ∀ k i, i + k = n → ∀ fl, k < fl → x8_pairsOf_b4 N (nI n) (nI s) kd pg fl (nI (pmS n (maskC s c) i)) (nI i) = some (nI (pmS n (maskC s c) n)) := by
  have hn := hG.n6
  intro k
  induction k with
  | zero =>
    intro i hi fl hfl
    obtain ⟨fl, rfl⟩ : ∃ m, fl = m + 1 := ⟨fl - 1, by omega⟩
    have e : i = n := by omega
    subst e
    rw [x8_pairsOf_b4, if_pos (nI_le (Nat.le_refl _) (by omega))]
  | succ k ih =>
    intro i hi fl hfl
    obtain ⟨fl, rfl⟩ : ∃ m, fl = m + 1 := ⟨fl - 1, by omega⟩
    have hin : i < n := by omega
    have step := ih (i + 1) (by omega) fl (by omega)
    rw [pmS_succ] at step
    rw [x8_pairsOf_b4, if_neg (nI_ge hin (by omega)), seesM hM hG hin hs hN]
    cases e : seesS n (maskC s c) i with
    | none =>
      rw [e] at step
      simp only [oI_some, oI_none, gB1_s, li, if_true, x8_pairsOf_b49, x8_pairsOf_b50, nI_add]
      exact step
    | some o =>
      obtain ⟨ho, -⟩ := sees_lt (hG.mask s) hin e
      rw [e] at step
      simp only [oI_some, oI_none, gB1_s, li]
      rw [if_neg (ne9 (by omega))]
      by_cases hlt : i < o
      · rw [if_neg (nI_ge hlt (by omega)), seesM hM hG ho hs hN]
        by_cases hb : seesS n (maskC s c) o = some i
        · rw [hb]
          simp only [hlt, hb, and_self, if_true] at step
          simp only [oI_some, oI_none, gB1_s, if_true, x8_pairsOf_b50, nI_add, li]
          exact step
        · have e1 : ¬ oI (seesS n (maskC s c) o) = nI i := by
            cases eo : seesS n (maskC s c) o with
            | none =>
              simp only [oI_some, oI_none]
              exact ne9' (by omega)
            | some p =>
              obtain ⟨hp, -⟩ := sees_lt (hG.mask s) ho eo
              simp only [oI_some, oI_none]
              rw [nI_eq (by omega) (by omega)]
              intro z
              rw [eo, z] at hb
              exact hb rfl
          simp only [hb, and_false, if_false] at step
          simp only [gB1_s, e1, if_false, x8_pairsOf_b49, x8_pairsOf_b50, nI_add, li]
          exact step
      · rw [if_pos (nI_le (by omega) (by omega))]
        simp only [hlt, false_and, if_false] at step
        simp only [x8_pairsOf_b49, x8_pairsOf_b50, nI_add, li]
        exact step
theorem pairsM (hM : MR n c kd sz pg) (hG : Good n c) (hs : s < 64) (hN : 100 ≤ N) : x8_pairsOf N (nI n) (nI s) kd pg = some (nI (pmS n (maskC s c) n)) := pairsM_l hM hG hs hN n 0 (by omega) N (by have := hG.n6; omega)
end PXM
