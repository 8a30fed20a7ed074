/-! PURE: the text of a sale: the first fault -/
section TEXT
variable {N k i P : Nat} {t : Nat → Nat} {bs : Nat → Int32}
def ok (t : Nat → Nat) (i P : Nat) : Bool := if 36 < i then false else if i = 0 then decide (t i = 83) else if (i - 1) % 6 = 0 then decide (t i = 74) else if (i - 1) % 6 = 1 then decide (48 ≤ t i) && decide (t i < 56) && !P.testBit (t i - 48) else if (i - 1) % 6 = 2 then decide (48 ≤ t i) && decide (t i ≤ 57) else if (i - 1) % 6 = 3 then decide (48 ≤ t i) && decide (t i ≤ 51) else if (i - 1) % 6 = 4 then decide (48 ≤ t i) && decide (t i ≤ 51) else decide (49 ≤ t i) && decide (t i ≤ 57)
/-- the text as numbers -/
def TT (k : Nat) (t : Nat → Nat) (bs : Nat → Int32) : Prop := k ≤ 48 ∧ ∀ i, i < k → bs i = nI (t i) ∧ t i < 256
def bI (b : Bool) : Int32 := if b = true then nI 1 else nI 0
theorem d_place : ∀ a : Fin 256, x7_isPlace (nI a.val - nI 48) = some (bI (decide (48 ≤ a.val) && decide (a.val < 56))) := by decide +kernel
theorem d_stuff : ∀ a : Fin 256, x7_isStuff (nI a.val - nI 48) = some (bI (decide (48 ≤ a.val) && decide (a.val ≤ 51))) := by decide +kernel
theorem d_fig : ∀ a : Fin 256, x7_isFigure (nI a.val - nI 48) = some (bI (decide (48 ≤ a.val) && decide (a.val ≤ 57))) := by decide +kernel
theorem d_4 : ∀ a : Fin 256, (if nI a.val - nI 48 < nI 0 then some (nI 0) else if nI 3 < nI a.val - nI 48 then some (nI 0) else some (nI 1)) = some (bI (decide (48 ≤ a.val) && decide (a.val ≤ 51))) := by decide +kernel
theorem d_5 : ∀ a : Fin 256, (if nI a.val - nI 48 < nI 1 then some (nI 0) else if nI 9 < nI a.val - nI 48 then some (nI 0) else some (nI 1)) = some (bI (decide (49 ≤ a.val) && decide (a.val ≤ 57))) := by decide +kernel
theorem isInX {P a : Nat} (hP : P < 256) (ha : a < 8) : x7_isIn (nI P) (nI a) = some (bI (P.testBit a)) := by
  have z : ∀ p : Fin 256, ∀ b : Fin 8, x7_isIn (nI p.val) (nI b.val) = some (bI (p.val.testBit b.val)) := by decide +kernel
  exact z ⟨P, hP⟩ ⟨a, ha⟩
theorem hasM8 {P a : Nat} (hP : P < 256) (ha : a < 8) : x8_has (nI P) (nI a) = some (bI (P.testBit a)) := by
  have z : ∀ p : Fin 256, ∀ b : Fin 8, x8_has (nI p.val) (nI b.val) = some (bI (p.val.testBit b.val)) := by decide +kernel
  exact z ⟨P, hP⟩ ⟨a, ha⟩
theorem bI_t : bI true = nI 1 := rfl
theorem bI_f : bI false = nI 0 := rfl
theorem gBl_b (b : Bool) : gBl (bI b) = true := by cases b <;> decide
theorem letX (hT : TT k t bs) (hi : i < k) : x5_letter (nI k) bs (nI i) = some (nI (t i)) := by
  have hk := hT.1
  unfold x5_letter
  simp (disch := omega) only [li, nI_ltI, nI_leI, nI_clamp, gIn_t, gChk_t, (hT.2 i hi).1]
  rw [if_neg (by omega), if_neg (by omega), if_neg (by omega)]
theorem figTX (hT : TT k t bs) (hi : i < k) : x5_figure (nI k) bs (nI i) = some (nI (t i) - nI 48) := by
  unfold x5_figure
  rw [letX hT hi]
  rfl
theorem colX (h : i < 48) : x5_columnOf (nI i) = some (if i = 0 then -nI 9 else nI ((i - 1) % 6)) := by
  unfold x5_columnOf
  by_cases h0 : i = 0
  · subst h0
    rfl
  · simp (disch := omega) only [li, nI_leI, pk_sub, remN]
    rw [if_pos (by omega), if_neg h0]
theorem canX (hT : TT k t bs) (hi : i < k) (hP : P < 256) : x5_canBe (nI k) bs (nI i) (nI P) = some (bI (ok t i P)) := by
  have hk := hT.1
  have ht := (hT.2 i hi).2
  unfold x5_canBe ok
  by_cases h36 : 36 < i
  · rw [if_neg (show ¬ nI i ≤ (36 : Int32) from nI_ge (a := 36) (b := i) h36 (by omega)), if_pos h36]
    rfl
  · rw [if_pos (show nI i ≤ (36 : Int32) from nI_le (a := i) (b := 36) (by omega) (by omega)), if_neg h36, figTX hT hi, colX (by omega), letX hT hi, gB1_s, gB1_s]
    simp only [li]
    by_cases h0 : i = 0
    · rw [if_pos h0, if_pos h0, if_pos rfl, gB1_s]
      simp (disch := omega) only [nI_eq]
      by_cases e : t i = 83
      · rw [if_pos e, e]; rfl
      · rw [if_neg e, decide_eq_false e]; rfl
    · rw [if_neg h0, if_neg h0, if_neg (ne9 (by omega))]
      simp (disch := omega) only [nI_eq]
      by_cases c0 : (i - 1) % 6 = 0
      · rw [if_pos c0, if_pos c0, gB1_s]
        simp (disch := omega) only [nI_eq]
        by_cases e : t i = 74
        · rw [if_pos e, e]; rfl
        · rw [if_neg e, decide_eq_false e]; rfl
      · rw [if_neg c0, if_neg c0]
        by_cases c1 : (i - 1) % 6 = 1
        · rw [if_pos c1, if_pos c1, d_place ⟨t i, ht⟩, gB1_s]
          by_cases e : 48 ≤ t i ∧ t i < 56
          · rw [show (decide (48 ≤ (⟨t i, ht⟩ : Fin 256).val) && decide ((⟨t i, ht⟩ : Fin 256).val < 56)) = true from by simp [e.1, e.2], bI_t, if_neg (by decide), pk_sub e.1, isInX hP (by omega), gB1_s]
            cases P.testBit (t i - 48) <;> rfl
          · rw [show (decide (48 ≤ (⟨t i, ht⟩ : Fin 256).val) && decide ((⟨t i, ht⟩ : Fin 256).val < 56)) = false from by simp; omega, bI_f, if_pos rfl]
            rfl
        · rw [if_neg c1, if_neg c1]
          by_cases c2 : (i - 1) % 6 = 2
          · rw [if_pos c2, if_pos c2, d_fig ⟨t i, ht⟩, gB1_s, gBl_b, gChk_t]
          · rw [if_neg c2, if_neg c2]
            by_cases c3 : (i - 1) % 6 = 3
            · rw [if_pos c3, if_pos c3, d_stuff ⟨t i, ht⟩, gB1_s, gBl_b, gChk_t]
            · rw [if_neg c3, if_neg c3]
              by_cases c4 : (i - 1) % 6 = 4
              · rw [if_pos c4, if_pos c4]
                exact d_4 ⟨t i, ht⟩
              · rw [if_neg c4, if_neg c4]
                exact d_5 ⟨t i, ht⟩
section STEPS
variable {fl : Nat}
theorem csA (hT : TT k t bs) (hi : i < k) (hP : P < 256) (h : ok t i P = false) : x5_firstFault_b4 N (nI k) bs (fl + 1) (nI P) (nI i) = some (nI i) := by
  have hk := hT.1
  rw [x5_firstFault_b4, if_neg (nI_ge hi (by omega)), canX hT hi hP, h]
  rfl
theorem csB (hT : TT k t bs) (hi : i < k) (hP : P < 256) (h : ok t i P = true) (hc : i = 0 ∨ ¬ (i - 1) % 6 = 1) : x5_firstFault_b4 N (nI k) bs (fl + 1) (nI P) (nI i) = x5_firstFault_b4 N (nI k) bs fl (nI P) (nI (i + 1)) := by
  have hk := hT.1
  rw [x5_firstFault_b4, if_neg (nI_ge hi (by omega)), canX hT hi hP, h, gB1_s, colX (by omega), gB1_s, if_neg (show ¬ bI true = (0 : Int32) from by decide), if_neg]
  · rw [← nI_1]
  · by_cases h0 : i = 0
    · rw [if_pos h0]
      decide
    · rw [if_neg h0]
      intro z
      exact hc.elim h0 (fun q => q ((nI_eq (b := 1) (by omega) (by omega)).mp z))
theorem csC (hT : TT k t bs) (hi : i < k) (hP : P < 256) (h : ok t i P = true) (h0 : ¬ i = 0) (hc : (i - 1) % 6 = 1) : (48 ≤ t i ∧ t i < 56 ∧ P.testBit (t i - 48) = false ∧ P ||| 2 ^ (t i - 48) < 256) ∧ x5_firstFault_b4 N (nI k) bs (fl + 1) (nI P) (nI i) = x5_firstFault_b4 N (nI k) bs fl (nI (P ||| 2 ^ (t i - 48))) (nI (i + 1)) := by
  have hk := hT.1
  have e : 48 ≤ t i ∧ t i < 56 ∧ P.testBit (t i - 48) = false := by
    unfold ok at h
    by_cases h36 : 36 < i
    · rw [if_pos h36] at h
      cases h
    · rw [if_neg h36, if_neg h0, if_neg (by omega), if_pos hc] at h
      simp only [Bool.and_eq_true, decide_eq_true_eq, Bool.not_eq_true'] at h
      exact ⟨h.1.1, h.1.2, h.2⟩
  have e2 : P ||| 2 ^ (t i - 48) < 256 := Nat.or_lt_two_pow (n := 8) hP (Nat.pow_lt_pow_right (by omega) (by omega))
  refine ⟨⟨e.1, e.2.1, e.2.2, e2⟩, ?_⟩
  rw [x5_firstFault_b4, if_neg (nI_ge hi (by omega)), canX hT hi hP, h, gB1_s, colX (by omega), gB1_s, if_neg (show ¬ bI true = (0 : Int32) from by decide), if_neg h0, hc, if_pos (show nI 1 = (1 : Int32) from rfl), figTX hT hi, gB1_s, pk_sub e.1]
  have q : nI P ||| ((1 : Int32) <<< (nI (t i - 48) &&& 31)) = nI (P ||| 2 ^ (t i - 48)) := by
    rw [← fa_or]
    congr 1
    exact shl1 (by omega)
  rw [q, ← nI_1]
theorem csE (hk : k ≤ 48) : x5_firstFault_b4 N (nI k) bs (fl + 1) (nI P) (nI k) = some (if k % 6 = 1 then -nI 9 else nI k) := by
  rw [x5_firstFault_b4, if_pos (nI_le (Nat.le_refl _) (by omega))]
  have e : nI k - nI k / (6 : Int32) * (6 : Int32) = nI (k % 6) := remN (a := k) (d := 6) (by omega) (by omega) (by omega)
  rw [e]
  by_cases h : k % 6 = 1
  · rw [h, if_pos (show nI 1 = (1 : Int32) from rfl), if_pos rfl]
    rfl
  · rw [if_neg h, if_neg (show ¬ nI (k % 6) = (1 : Int32) from fun z => h ((nI_eq (b := 1) (by omega) (by omega)).mp z))]
end STEPS
/-- a figure of the reference -/
def fg (k : Nat) (t : Nat → Nat) (q lo hi : Nat) : Bool := decide (q < k) && decide (48 + lo ≤ t q) && decide (t q ≤ 48 + hi)
theorem d_i09 : ∀ a : Fin 256, x8_in (nI a.val - nI 48).toInt64 ((0 : Int32).toInt64) ((9 : Int32).toInt64) = some (bI (decide (48 ≤ a.val) && decide (a.val ≤ 57))) := by decide +kernel
theorem d_i03 : ∀ a : Fin 256, x8_in (nI a.val - nI 48).toInt64 ((0 : Int32).toInt64) ((3 : Int32).toInt64) = some (bI (decide (48 ≤ a.val) && decide (a.val ≤ 51))) := by decide +kernel
theorem d_i19 : ∀ a : Fin 256, x8_in (nI a.val - nI 48).toInt64 ((1 : Int32).toInt64) ((9 : Int32).toInt64) = some (bI (decide (49 ≤ a.val) && decide (a.val ≤ 57))) := by decide +kernel
theorem d_i07 : ∀ a : Fin 256, x8_in (nI a.val - nI 48).toInt64 (0 : Int64) (7 : Int64) = some (bI (decide (48 ≤ a.val) && decide (a.val < 56))) := by decide +kernel
theorem figM (hT : TT k t bs) {q lo hi : Nat} (hq : q ≤ k) (hh : ∀ a : Fin 256, x8_in (nI a.val - nI 48).toInt64 ((nI lo).toInt64) ((nI hi).toInt64) = some (bI (decide (48 + lo ≤ a.val) && decide (a.val ≤ 48 + hi)))) : x8_figure (nI k) (nI q) bs (nI lo) (nI hi) = some (if fg k t q lo hi = true then (nI (t q - 48), nI (q + 1)) else (-nI 9, nI q)) := by
  have hk := hT.1
  unfold x8_figure fg
  by_cases e : q = k
  · rw [if_pos (by rw [e]), if_neg (by simp; omega)]
    rfl
  · have hqk : q < k := by omega
    obtain ⟨b1, b2⟩ := hT.2 q hqk
    rw [if_neg (fun z => e ((nI_eq (by omega) (by omega)).mp z))]
    simp (disch := omega) only [li, gIn_t, gChk_t, nI_clamp, b1, nI_add, pk_sub, Nat.add_sub_cancel]
    rw [hh ⟨t q, b2⟩, gB1_s]
    by_cases z : 48 + lo ≤ t q ∧ t q ≤ 48 + hi
    · rw [show (decide (48 + lo ≤ (⟨t q, b2⟩ : Fin 256).val) && decide ((⟨t q, b2⟩ : Fin 256).val ≤ 48 + hi)) = true from by simp [z.1, z.2], bI_t, if_neg (by decide), if_pos (by simp [z.1, z.2, hqk]), pk_sub (by omega)]
    · rw [show (decide (48 + lo ≤ (⟨t q, b2⟩ : Fin 256).val) && decide ((⟨t q, b2⟩ : Fin 256).val ≤ 48 + hi)) = false from by simp; omega, bI_f, if_pos rfl, if_neg (by simp; omega)]
def upd5 (g : Nat → Int32) (m a b c d e : Nat) : Nat → Int32 := upd (upd (upd (upd (upd g (5 * m) (nI a)) (5 * m + 1) (nI b)) (5 * m + 2) (nI c)) (5 * m + 3) (nI d)) (5 * m + 4) (nI e)
/-- one jar read by the reference -/
theorem oneM (hT : TT k t bs) {m : Nat} (hm : m ≤ 6) (hi : i < k) (hP : P < 256) (rj : Nat → Int32) : x8_readOneJar (nI k) (nI i) (nI P) (nI m) bs rj = some (
    if ¬ (t i = 74 ∧ ¬ m = 6) then (nI 0, nI i, nI P, nI m, rj)
    else if ¬ (i + 1 < k ∧ 48 ≤ t (i + 1) ∧ t (i + 1) < 56 ∧ P.testBit (t (i + 1) - 48) = false) then (nI 0, nI (i + 1), nI P, nI m, rj)
    else if ¬ fg k t (i + 2) 0 9 = true then (nI 0, nI (i + 2), nI P, nI m, rj)
    else if ¬ fg k t (i + 3) 0 3 = true then (nI 0, nI (i + 3), nI P, nI m, rj)
    else if ¬ fg k t (i + 4) 0 3 = true then (nI 0, nI (i + 4), nI P, nI m, rj)
    else if ¬ fg k t (i + 5) 1 9 = true then (nI 0, nI (i + 5), nI P, nI m, rj)
    else (nI 1, nI (i + 6), nI (P ||| 2 ^ (t (i + 1) - 48)), nI (m + 1), upd5 rj m (t (i + 1) - 48) (t (i + 2) - 48) (t (i + 3) - 48) (t (i + 4) - 48) (t (i + 5) - 48))) := by
  have hk := hT.1
  obtain ⟨b1, b2⟩ := hT.2 i hi
  unfold x8_readOneJar
  simp (disch := omega) only [gIn_t, gChk_t, nI_clamp, b1]
  by_cases h1 : t i = 74
  · by_cases h2 : m = 6
    · rw [h1, h2, if_pos (show nI 74 = (74 : Int32) from rfl), if_pos (show nI 6 = (6 : Int32) from rfl), if_pos (show ¬ (74 = 74 ∧ ¬ 6 = 6) from by omega)]
      rfl
    · rw [if_pos (show nI (t i) = (74 : Int32) from by rw [h1]; rfl), if_neg (show ¬ nI m = (6 : Int32) from fun z => h2 ((nI_eq (b := 6) (by omega) (by omega)).mp z)), if_neg (show ¬ ¬ (t i = 74 ∧ ¬ m = 6) from fun z => z ⟨h1, h2⟩)]
      have e1 : nI i + (1 : Int32) = nI (i + 1) := nI_1 i
      rw [e1]
      by_cases h3 : i + 1 < k
      · obtain ⟨p1, p2⟩ := hT.2 (i + 1) h3
        rw [if_neg (nI_ge h3 (by omega)), gIn_t (by omega) (by omega), gChk_t, nI_clamp (by omega), p1]
        unfold x8_readOneJar_b63
        have e2 : x8_in (nI (t (i + 1)) - (48 : Int32)).toInt64 0 7 = _ := d_i07 ⟨t (i + 1), p2⟩
        rw [e2, gB1_s]
        by_cases h4 : 48 ≤ t (i + 1) ∧ t (i + 1) < 56
        · rw [show (decide (48 ≤ (⟨t (i + 1), p2⟩ : Fin 256).val) && decide ((⟨t (i + 1), p2⟩ : Fin 256).val < 56)) = true from by simp [h4.1, h4.2], bI_t, if_neg n10]
          have e3 : nI (t (i + 1)) - (48 : Int32) = nI (t (i + 1) - 48) := pk_sub (b := 48) h4.1
          rw [e3, hasM8 hP (by omega), gB1_s]
          by_cases h5 : P.testBit (t (i + 1) - 48) = false
          · have e4 : nI (i + 1) + (1 : Int32) = nI (i + 2) := nI_1 (i + 1)
            rw [h5, bI_f, if_pos n00, if_neg (show ¬ ¬ (i + 1 < k ∧ 48 ≤ t (i + 1) ∧ t (i + 1) < 56 ∧ false = false) from fun z => z ⟨h3, h4.1, h4.2, rfl⟩), e4]
            have f1 : x8_figure (nI k) (nI (i + 2)) bs (0 : Int32) (9 : Int32) = _ := figM (lo := 0) (hi := 9) hT (by omega) d_i09
            rw [f1]
            by_cases g1 : fg k t (i + 2) 0 9 = true
            · have q1 : i + 2 < k ∧ t (i + 2) < 256 := by
                unfold fg at g1
                simp only [Bool.and_eq_true, decide_eq_true_eq] at g1
                exact ⟨g1.1.1, (hT.2 _ g1.1.1).2⟩
              have f2 : x8_figure (nI k) (nI (i + 2 + 1)) bs (0 : Int32) (3 : Int32) = _ := figM (q := i + 3) (lo := 0) (hi := 3) hT (by omega) d_i03
              rw [if_pos g1, gB2_s, if_neg (show ¬ nI (t (i + 2) - 48) = (-9 : Int32) from ne9 (by omega)), f2, if_neg (show ¬ ¬ fg k t (i + 2) 0 9 = true from fun z => z g1)]
              by_cases g2 : fg k t (i + 3) 0 3 = true
              · have q2 : i + 3 < k ∧ t (i + 3) < 256 := by
                  unfold fg at g2
                  simp only [Bool.and_eq_true, decide_eq_true_eq] at g2
                  exact ⟨g2.1.1, (hT.2 _ g2.1.1).2⟩
                have f3 : x8_figure (nI k) (nI (i + 3 + 1)) bs (0 : Int32) (3 : Int32) = _ := figM (q := i + 4) (lo := 0) (hi := 3) hT (by omega) d_i03
                unfold x8_readOneJar_b124
                rw [if_pos g2, gB2_s, if_neg (show ¬ nI (t (i + 3) - 48) = (-9 : Int32) from ne9 (by omega)), f3, if_neg (show ¬ ¬ fg k t (i + 3) 0 3 = true from fun z => z g2)]
                by_cases g3 : fg k t (i + 4) 0 3 = true
                · have q3 : i + 4 < k ∧ t (i + 4) < 256 := by
                    unfold fg at g3
                    simp only [Bool.and_eq_true, decide_eq_true_eq] at g3
                    exact ⟨g3.1.1, (hT.2 _ g3.1.1).2⟩
                  have f4 : x8_figure (nI k) (nI (i + 4 + 1)) bs (1 : Int32) (9 : Int32) = _ := figM (q := i + 5) (lo := 1) (hi := 9) hT (by omega) d_i19
                  unfold x8_readOneJar_b142
                  rw [if_pos g3, gB2_s, if_neg (show ¬ nI (t (i + 4) - 48) = (-9 : Int32) from ne9 (by omega)), f4, if_neg (show ¬ ¬ fg k t (i + 4) 0 3 = true from fun z => z g3)]
                  by_cases g4 : fg k t (i + 5) 1 9 = true
                  · have q4 : i + 5 < k ∧ t (i + 5) < 256 := by
                      unfold fg at g4
                      simp only [Bool.and_eq_true, decide_eq_true_eq] at g4
                      exact ⟨g4.1.1, (hT.2 _ g4.1.1).2⟩
                    unfold x8_readOneJar_b163
                    rw [if_pos g4, gB2_s, if_neg (show ¬ nI (t (i + 5) - 48) = (-9 : Int32) from ne9 (by omega)), if_neg (show ¬ ¬ fg k t (i + 5) 1 9 = true from fun z => z g4)]
                    have e5 : nI P ||| ((1 : Int32) <<< (nI (t (i + 1) - 48) &&& 31)) = nI (P ||| 2 ^ (t (i + 1) - 48)) := by
                      rw [← fa_or]
                      congr 1
                      exact shl1 (by omega)
                    rw [e5]
                    simp (disch := omega) only [li, nI_add, pk_mul, gIn_t, gChk_t, nI_clamp]
                    rfl
                  · unfold x8_readOneJar_b163
                    rw [if_neg g4, gB2_s, if_pos (show -nI 9 = (-9 : Int32) from rfl), if_pos g4]
                    rfl
                · unfold x8_readOneJar_b142 x8_readOneJar_b163
                  rw [if_neg g3, gB2_s, if_pos (show -nI 9 = (-9 : Int32) from rfl), if_pos (show (-9 : Int32) = (-9 : Int32) from rfl), if_pos g3]
                  rfl
              · unfold x8_readOneJar_b124 x8_readOneJar_b142 x8_readOneJar_b163
                rw [if_neg g2, gB2_s, if_pos (show -nI 9 = (-9 : Int32) from rfl), if_pos (show (-9 : Int32) = (-9 : Int32) from rfl), if_pos (show (-9 : Int32) = (-9 : Int32) from rfl), if_pos g2]
                rfl
            · unfold x8_readOneJar_b124 x8_readOneJar_b142 x8_readOneJar_b163
              rw [if_neg g1, gB2_s, if_pos (show -nI 9 = (-9 : Int32) from rfl), if_pos (show (-9 : Int32) = (-9 : Int32) from rfl), if_pos (show (-9 : Int32) = (-9 : Int32) from rfl), if_pos (show (-9 : Int32) = (-9 : Int32) from rfl), if_pos g1]
              rfl
          · rw [show P.testBit (t (i + 1) - 48) = true from by simpa using h5, bI_t, if_neg n10, if_pos (show ¬ (i + 1 < k ∧ 48 ≤ t (i + 1) ∧ t (i + 1) < 56 ∧ true = false) from fun z => by cases z.2.2.2)]
            rfl
        · rw [show (decide (48 ≤ (⟨t (i + 1), p2⟩ : Fin 256).val) && decide ((⟨t (i + 1), p2⟩ : Fin 256).val < 56)) = false from by simp; omega, bI_f, if_pos n00, if_pos (show ¬ (i + 1 < k ∧ 48 ≤ t (i + 1) ∧ t (i + 1) < 56 ∧ P.testBit (t (i + 1) - 48) = false) from fun z => h4 ⟨z.2.1, z.2.2.1⟩)]
          rfl
      · rw [if_pos (nI_le (by omega) (by omega)), if_pos (show ¬ (i + 1 < k ∧ 48 ≤ t (i + 1) ∧ t (i + 1) < 56 ∧ P.testBit (t (i + 1) - 48) = false) from fun z => h3 z.1)]
        rfl
  · rw [if_neg (show ¬ nI (t i) = (74 : Int32) from fun z => h1 ((nI_eq (b := 74) (by omega) (by omega)).mp z)), if_pos (show ¬ (t i = 74 ∧ ¬ m = 6) from fun z => h1 z.1)]
    rfl
end TEXT
