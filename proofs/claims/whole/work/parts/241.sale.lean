/-! PURE: fault and sale -/
section SALE
variable {N k i P : Nat} {t : Nat → Nat} {bs tx : Nat → Int32}
def RD (t : Nat → Nat) (m P : Nat) (rj : Nat → Int32) : Prop := P < 256 ∧ (∀ j, j < m → (∀ p, p < 5 → rj (5 * j + p) = nI (t (6 * j + 2 + p) - 48)) ∧ 48 ≤ t (6 * j + 2) ∧ t (6 * j + 2) < 56 ∧ 48 ≤ t (6 * j + 3) ∧ t (6 * j + 3) ≤ 57 ∧ 48 ≤ t (6 * j + 4) ∧ t (6 * j + 4) ≤ 51 ∧ 48 ≤ t (6 * j + 5) ∧ t (6 * j + 5) ≤ 51 ∧ 49 ≤ t (6 * j + 6) ∧ t (6 * j + 6) ≤ 57 ∧ P.testBit (t (6 * j + 2) - 48) = true) ∧ ∀ a b, a < m → b < m → t (6 * a + 2) = t (6 * b + 2) → a = b
theorem u5 {g : Nat → Int32} {m a b c d e : Nat} : (∀ q, q < 5 * m → upd5 g m a b c d e q = g q) ∧ upd5 g m a b c d e (5 * m) = nI a ∧ upd5 g m a b c d e (5 * m + 1) = nI b ∧ upd5 g m a b c d e (5 * m + 2) = nI c ∧ upd5 g m a b c d e (5 * m + 3) = nI d ∧ upd5 g m a b c d e (5 * m + 4) = nI e := by
  unfold upd5
  refine ⟨fun q hq => ?_, ?_, ?_, ?_, ?_, ?_⟩
  · rw [pk_un (by omega), pk_un (by omega), pk_un (by omega), pk_un (by omega), pk_un (by omega)]
  · rw [pk_un (by omega), pk_un (by omega), pk_un (by omega), pk_un (by omega), pk_us]
  · rw [pk_un (by omega), pk_un (by omega), pk_un (by omega), pk_us]
  · rw [pk_un (by omega), pk_un (by omega), pk_us]
  · rw [pk_un (by omega), pk_us]
  · rw [pk_us]
theorem fg_iff {q lo hi : Nat} : fg k t q lo hi = true ↔ q < k ∧ 48 + lo ≤ t q ∧ t q ≤ 48 + hi := by
  unfold fg
  simp only [Bool.and_eq_true, decide_eq_true_eq, and_assoc]
theorem RD.step {m : Nat} {rj : Nat → Int32} (h : RD t m P rj) (hi : i = 6 * m + 1) (h1 : 48 ≤ t (i + 1) ∧ t (i + 1) < 56 ∧ P.testBit (t (i + 1) - 48) = false) (g1 : fg k t (i + 2) 0 9 = true) (g2 : fg k t (i + 3) 0 3 = true) (g3 : fg k t (i + 4) 0 3 = true) (g4 : fg k t (i + 5) 1 9 = true) : RD t (m + 1) (P ||| 2 ^ (t (i + 1) - 48)) (upd5 rj m (t (i + 1) - 48) (t (i + 2) - 48) (t (i + 3) - 48) (t (i + 4) - 48) (t (i + 5) - 48)) := by
  obtain ⟨hP, ha, hb⟩ := h
  rw [fg_iff] at g1 g2 g3 g4
  have e2 : P ||| 2 ^ (t (i + 1) - 48) < 256 := Nat.or_lt_two_pow (n := 8) hP (Nat.pow_lt_pow_right (by omega) (by omega))
  obtain ⟨u0, u1, u2, u3, u4, u5'⟩ := u5 (g := rj) (m := m) (a := t (i + 1) - 48) (b := t (i + 2) - 48) (c := t (i + 3) - 48) (d := t (i + 4) - 48) (e := t (i + 5) - 48)
  subst hi
  refine ⟨e2, fun j hj => ?_, fun a b hma hmb e => ?_⟩
  · by_cases q : j = m
    · subst q
      refine ⟨fun p hp => ?_, h1.1, h1.2.1, g1.2.1, g1.2.2, g2.2.1, g2.2.2, g3.2.1, g3.2.2, g4.2.1, g4.2.2, ?_⟩
      · rcases (by omega : p = 0 ∨ p = 1 ∨ p = 2 ∨ p = 3 ∨ p = 4) with rfl | rfl | rfl | rfl | rfl
        · exact u1
        · exact u2
        · exact u3
        · exact u4
        · exact u5'
      · rw [fb_bit_set]
        simp
    · obtain ⟨a1, a2⟩ := ha j (by omega)
      refine ⟨fun p hp => ?_, a2.1, a2.2.1, a2.2.2.1, a2.2.2.2.1, a2.2.2.2.2.1, a2.2.2.2.2.2.1, a2.2.2.2.2.2.2.1, a2.2.2.2.2.2.2.2.1, a2.2.2.2.2.2.2.2.2.1, a2.2.2.2.2.2.2.2.2.2.1, ?_⟩
      · rw [u0 _ (by omega)]
        exact a1 p hp
      · rw [fb_bit_set, a2.2.2.2.2.2.2.2.2.2.2]
        rfl
  · by_cases qa : a = m
    · by_cases qb : b = m
      · rw [qa, qb]
      · obtain ⟨-, b2⟩ := ha b (by omega)
        have z := b2.2.2.2.2.2.2.2.2.2.2
        subst qa
        rw [← e] at z
        exact absurd (z.symm.trans h1.2.2) (by decide)
    · by_cases qb : b = m
      · obtain ⟨-, b2⟩ := ha a (by omega)
        have z := b2.2.2.2.2.2.2.2.2.2.2
        subst qb
        rw [e] at z
        exact absurd (z.symm.trans h1.2.2) (by decide)
      · exact hb a b (by omega) (by omega) e
theorem csF (hT : TT k t bs) {q lo hi fl : Nat} (hP : P < 256) (hq : q ≤ k) (h36 : q ≤ 36) (hc : 2 ≤ (q - 1) % 6) (hok : ok t q P = (decide (48 + lo ≤ t q) && decide (t q ≤ 48 + hi))) : (¬ fg k t q lo hi = true → x5_firstFault_b4 N (nI k) bs (fl + 1) (nI P) (nI q) = some (nI q)) ∧ (fg k t q lo hi = true → x5_firstFault_b4 N (nI k) bs (fl + 1) (nI P) (nI q) = x5_firstFault_b4 N (nI k) bs fl (nI P) (nI (q + 1))) := by
  rw [fg_iff]
  refine ⟨fun h => ?_, fun h => ?_⟩
  · by_cases e : q = k
    · subst e
      rw [csE hT.1, if_neg (by omega)]
    · refine csA hT (by omega) hP ?_
      rw [hok]
      by_cases z : 48 + lo ≤ t q
      · by_cases z2 : t q ≤ 48 + hi
        · exact absurd ⟨by omega, z, z2⟩ h
        · rw [decide_eq_false z2, Bool.and_false]
      · rw [decide_eq_false z, Bool.false_and]
  · refine csB hT h.1 hP ?_ (Or.inr (by omega))
    rw [hok, decide_eq_true h.2.1, decide_eq_true h.2.2]
    rfl
/-- the two ways in which the text is read -/
theorem flt (hT : TT k t bs) (hT2 : TT k t tx) : ∀ d m P rj, RD t m P rj → m + d = 6 → 6 * m + 1 ≤ k → ∀ fl fl', 6 * d + 7 ≤ fl → d + 2 ≤ fl' → ∃ r pl P' q rj', x5_firstFault_b4 N (nI k) bs fl (nI P) (nI (6 * m + 1)) = some r ∧ x8_readSale_b40 N (nI k) tx fl' (nI (6 * m + 1)) (nI P) (nI m) rj = some (r, pl, P', q, rj') ∧ (r = -nI 9 → ∃ M P'', q = nI M ∧ M ≤ 6 ∧ k = 6 * M + 1 ∧ RD t M P'' rj') := by
  have hk := hT.1
  intro d
  induction d with
  | zero =>
    intro m P rj hR hm hi fl fl' hfl hfl'
    obtain ⟨fl, rfl⟩ : ∃ x, fl = x + 1 := ⟨fl - 1, by omega⟩
    obtain ⟨fl', rfl⟩ : ∃ x, fl' = x + 1 := ⟨fl' - 1, by omega⟩
    have e : m = 6 := by omega
    subst e
    by_cases hik : 6 * 6 + 1 = k
    · refine ⟨-nI 9, nI 37, nI P, nI 6, rj, ?_, ?_, fun _ => ⟨6, P, rfl, by omega, by omega, hR⟩⟩
      · subst hik
        rw [csE (by omega)]
        rfl
      · rw [x8_readSale_b40, if_pos (nI_le (by omega) (by omega))]
        rfl
    · refine ⟨nI 37, nI 37, nI P, nI 6, rj, ?_, ?_, fun z => absurd z (ne9 (by omega))⟩
      · refine csA hT (by omega) hR.1 ?_
        unfold ok
        rw [if_pos (by omega)]
      · rw [x8_readSale_b40, if_neg (nI_ge (by omega) (by omega)), oneM hT2 (by omega) (by omega) hR.1, if_pos (by omega)]
        rfl
  | succ d ih =>
    intro m P rj hR hm hi fl fl' hfl hfl'
    obtain ⟨fl, rfl⟩ : ∃ x, fl = x + 6 := ⟨fl - 6, by omega⟩
    obtain ⟨fl', rfl⟩ : ∃ x, fl' = x + 1 := ⟨fl' - 1, by omega⟩
    have hP := hR.1
    by_cases hik : 6 * m + 1 = k
    · refine ⟨-nI 9, nI (6 * m + 1), nI P, nI m, rj, ?_, ?_, fun _ => ⟨m, P, rfl, by omega, by omega, hR⟩⟩
      · rw [hik, csE (by omega), if_pos (by omega)]
      · rw [x8_readSale_b40, if_pos (nI_le (by omega) (by omega))]
        rfl
    · have hik2 : 6 * m + 1 < k := by omega
      rw [x8_readSale_b40, if_neg (nI_ge hik2 (by omega)), oneM hT2 (by omega) hik2 hP]
      generalize hI : 6 * m + 1 = i at *
      have o0 : ok t i P = decide (t i = 74) := by
        unfold ok
        rw [if_neg (by omega), if_neg (by omega), if_pos (by omega)]
      by_cases c1 : t i = 74
      · rw [if_neg (show ¬ ¬ (t i = 74 ∧ ¬ m = 6) from fun z => z ⟨c1, by omega⟩), csB (fl := fl + 5) hT hik2 hP (by rw [o0, c1]; rfl) (Or.inr (by omega))]
        by_cases c2 : i + 1 < k ∧ 48 ≤ t (i + 1) ∧ t (i + 1) < 56 ∧ P.testBit (t (i + 1) - 48) = false
        · have o1 : ok t (i + 1) P = true := by
            unfold ok
            rw [if_neg (by omega), if_neg (by omega), if_neg (by omega), if_pos (by omega), c2.2.2.2, decide_eq_true c2.2.1, decide_eq_true c2.2.2.1]
            rfl
          obtain ⟨⟨-, -, -, hP2⟩, s1⟩ := csC (N := N) (fl := fl + 4) hT c2.1 hP o1 (by omega) (by omega)
          rw [if_neg (show ¬ ¬ (i + 1 < k ∧ 48 ≤ t (i + 1) ∧ t (i + 1) < 56 ∧ P.testBit (t (i + 1) - 48) = false) from fun z => z c2), s1]
          obtain ⟨f1, f2⟩ := csF (N := N) (q := i + 2) (lo := 0) (hi := 9) (fl := fl + 3) hT hP2 (by omega) (by omega) (by omega) (by unfold ok; rw [if_neg (by omega), if_neg (by omega), if_neg (by omega), if_neg (by omega), if_pos (by omega)])
          by_cases g1 : fg k t (i + 2) 0 9 = true
          · rw [if_neg (show ¬ ¬ fg k t (i + 2) 0 9 = true from fun z => z g1), f2 g1]
            have l1 := (fg_iff.mp g1).1
            obtain ⟨f3, f4⟩ := csF (N := N) (q := i + 3) (lo := 0) (hi := 3) (fl := fl + 2) hT hP2 (by omega) (by omega) (by omega) (by unfold ok; rw [if_neg (by omega), if_neg (by omega), if_neg (by omega), if_neg (by omega), if_neg (by omega), if_pos (by omega)])
            by_cases g2 : fg k t (i + 3) 0 3 = true
            · rw [if_neg (show ¬ ¬ fg k t (i + 3) 0 3 = true from fun z => z g2), f4 g2]
              have l2 := (fg_iff.mp g2).1
              obtain ⟨f5, f6⟩ := csF (N := N) (q := i + 4) (lo := 0) (hi := 3) (fl := fl + 1) hT hP2 (by omega) (by omega) (by omega) (by unfold ok; rw [if_neg (by omega), if_neg (by omega), if_neg (by omega), if_neg (by omega), if_neg (by omega), if_neg (by omega), if_pos (by omega)])
              by_cases g3 : fg k t (i + 4) 0 3 = true
              · rw [if_neg (show ¬ ¬ fg k t (i + 4) 0 3 = true from fun z => z g3), f6 g3]
                have l3 := (fg_iff.mp g3).1
                obtain ⟨f7, f8⟩ := csF (N := N) (q := i + 5) (lo := 1) (hi := 9) (fl := fl) hT hP2 (by omega) (by omega) (by omega) (by unfold ok; rw [if_neg (by omega), if_neg (by omega), if_neg (by omega), if_neg (by omega), if_neg (by omega), if_neg (by omega), if_neg (by omega)])
                by_cases g4 : fg k t (i + 5) 1 9 = true
                · have l4 := (fg_iff.mp g4).1
                  rw [if_neg (show ¬ ¬ fg k t (i + 5) 1 9 = true from fun z => z g4), f8 g4, gB5_s, if_neg n10]
                  have e6 : i + 6 = 6 * (m + 1) + 1 := by omega
                  rw [show i + 5 + 1 = i + 6 from rfl, e6]
                  exact ih (m + 1) _ _ (hR.step hI.symm c2.2 g1 g2 g3 g4) (by omega) (by omega) fl fl' (by omega) (by omega)
                · rw [if_pos g4, f7 g4]
                  exact ⟨_, _, _, _, _, rfl, rfl, fun z => absurd z (ne9 (by omega))⟩
              · rw [if_pos g3, f5 g3]
                exact ⟨_, _, _, _, _, rfl, rfl, fun z => absurd z (ne9 (by omega))⟩
            · rw [if_pos g2, f3 g2]
              exact ⟨_, _, _, _, _, rfl, rfl, fun z => absurd z (ne9 (by omega))⟩
          · rw [if_pos g1, f1 g1]
            exact ⟨_, _, _, _, _, rfl, rfl, fun z => absurd z (ne9 (by omega))⟩
        · rw [if_pos c2]
          have s1 : x5_firstFault_b4 N (nI k) bs (fl + 4 + 1) (nI P) (nI (i + 1)) = some (nI (i + 1)) := by
            by_cases e : i + 1 = k
            · rw [e, csE hk, if_neg (by omega)]
            · refine csA hT (by omega) hP ?_
              unfold ok
              rw [if_neg (by omega), if_neg (by omega), if_neg (by omega), if_pos (by omega)]
              by_cases z : 48 ≤ t (i + 1)
              · by_cases z2 : t (i + 1) < 56
                · rw [show P.testBit (t (i + 1) - 48) = true from Bool.not_eq_false _ ▸ fun z3 => c2 ⟨by omega, z, z2, z3⟩, Bool.not_true, Bool.and_false]
                · rw [decide_eq_false z2, Bool.and_false, Bool.false_and]
              · rw [decide_eq_false z, Bool.false_and, Bool.false_and]
          rw [s1]
          exact ⟨_, _, _, _, _, rfl, rfl, fun z => absurd z (ne9 (by omega))⟩
      · rw [if_pos (show ¬ (t i = 74 ∧ ¬ m = 6) from fun z => c1 z.1), csA (fl := fl + 5) hT hik2 hP (by rw [o0, decide_eq_false c1])]
        exact ⟨_, _, _, _, _, rfl, rfl, fun z => absurd z (ne9 (by omega))⟩
theorem TXT.tt {len ts : Int32} (h : TXT len bs ts tx) : ∃ k t, len = nI k ∧ ts = nI k ∧ TT k t bs ∧ TT k t tx := by
  obtain ⟨k, hk, e1, e2, hb⟩ := h
  have z : ∀ i, i < k → tx i = nI (tx i).toNatClampNeg ∧ (tx i).toNatClampNeg < 256 := fun i hi => by
    obtain ⟨-, b, hb2, e⟩ := hb i hi
    rw [e, nI_clamp (by omega)]
    exact ⟨rfl, hb2⟩
  exact ⟨k, fun i => (tx i).toNatClampNeg, e1, e2, ⟨hk, fun i hi => ⟨(hb i hi).1.trans (z i hi).1, (z i hi).2⟩⟩, ⟨hk, z⟩⟩
/-- both faults -/
theorem faults (hT : TT k t bs) (hT2 : TT k t tx) (hN : 100 ≤ N) (p0 p1 p2 : Int32) (rj : Nat → Int32) : ∃ r pl P' q rj', x5_firstFault N (nI k) bs = some r ∧ x8_readSale N (nI k) p0 p1 p2 tx rj = some (r, pl, P', q, rj') ∧ (r = -nI 9 → ∃ M P'', q = nI M ∧ M ≤ 6 ∧ k = 6 * M + 1 ∧ RD t M P'' rj') := by
  have hk := hT.1
  unfold x5_firstFault x8_readSale
  obtain ⟨N, rfl⟩ : ∃ x, N = x + 50 := ⟨N - 50, by omega⟩
  by_cases h0 : k = 0
  · subst h0
    have e : x5_firstFault_b4 (N + 50) (nI 0) bs (N + 49 + 1) (nI 0) (nI 0) = _ := csE (P := 0) (N := N + 50) (fl := N + 49) (bs := bs) (k := 0) (by omega)
    refine ⟨nI 0, _, _, _, _, e, rfl, fun z => absurd z (ne9 (by omega))⟩
  · rw [if_neg (show ¬ nI k = (0 : Int32) from fun z => h0 ((nI_eq (b := 0) (by omega) (by omega)).mp z)), show gIn (0 : Int32) 48 = true from by decide, gChk_t, show (0 : Int32).toNatClampNeg = 0 from by decide, (hT2.2 0 (by omega)).1]
    have ht := (hT2.2 0 (by omega)).2
    have o0 : ok t 0 0 = decide (t 0 = 83) := rfl
    by_cases h1 : t 0 = 83
    · have e : x5_firstFault_b4 (N + 50) (nI k) bs (N + 49 + 1) (nI 0) (nI 0) = x5_firstFault_b4 (N + 50) (nI k) bs (N + 49) (nI 0) (nI (0 + 1)) := csB hT (by omega) (by omega) (by rw [o0, h1]; rfl) (Or.inl rfl)
      obtain ⟨r, pl, P', q, rj', a1, a2, a3⟩ := flt (N := N + 50) hT hT2 6 0 0 rj ⟨by omega, fun j hj => by omega, fun a b ha => by omega⟩ (by omega) (by omega) (N + 49) (N + 50) (by omega) (by omega)
      refine ⟨r, pl, P', q, rj', e.trans a1, ?_, a3⟩
      rw [h1, if_pos (show nI 83 = (83 : Int32) from rfl)]
      exact a2
    · have e : x5_firstFault_b4 (N + 50) (nI k) bs (N + 49 + 1) (nI 0) (nI 0) = some (nI 0) := csA hT (by omega) (by omega) (by rw [o0, decide_eq_false h1])
      rw [if_neg (show ¬ nI (t 0) = (83 : Int32) from fun z => h1 ((nI_eq (b := 83) (by omega) (by omega)).mp z))]
      exact ⟨nI 0, _, _, _, _, e, rfl, fun z => absurd z (ne9 (by omega))⟩
theorem st_fault {len ts th p0 p1 p2 : Int32} {rj : Nat → Int32} (h : TXT len bs ts tx) (hN : 100 ≤ N) : ∃ r pl P' q rj', x7_fault N len bs = some r ∧ x8_fault N th ts p0 p1 p2 tx rj = some (r, 0, pl, P', q, rj') := by
  obtain ⟨k, t, rfl, rfl, hT, hT2⟩ := h.tt
  obtain ⟨r, pl, P', q, rj', a1, a2, -⟩ := faults (N := N) hT hT2 hN p0 p1 p2 rj
  refine ⟨r, pl, P', q, rj', ?_, ?_⟩
  · unfold x7_fault
    rw [a1, gB1_s]
  · unfold x8_fault
    rw [a2, gB5_s]
/-- the jars of a text -/
def tC (t : Nat → Nat) : Nat → Nat → Nat := fun j p => if p < 5 then t (6 * j + 2 + p) - 48 else if p = 6 then 1 else 0
theorem RD.good {m : Nat} {rj : Nat → Int32} (h : RD t m P rj) (hm : m ≤ 6) : Good m (tC t) := by
  obtain ⟨hP, ha, hb⟩ := h
  refine ⟨hm, fun j hj => ?_, fun a b hma hmb _ _ e => ?_⟩
  · obtain ⟨-, q1, q2, q3, q4, q5, q6, q7, q8, q9, q10, -⟩ := ha j hj
    have e0 : tC t j 0 = t (6 * j + 2) - 48 := rfl
    have e1 : tC t j 1 = t (6 * j + 3) - 48 := rfl
    have e2 : tC t j 2 = t (6 * j + 4) - 48 := rfl
    have e3 : tC t j 3 = t (6 * j + 5) - 48 := rfl
    have e4 : tC t j 4 = t (6 * j + 6) - 48 := rfl
    have e5 : tC t j 5 = 0 := rfl
    have e6 : tC t j 6 = 1 := rfl
    have e7 : tC t j 7 = 0 := rfl
    rw [e0, e1, e2, e3, e4, e5, e6, e7]
    omega
  · have e0 : tC t a 0 = t (6 * a + 2) - 48 := rfl
    have e1 : tC t b 0 = t (6 * b + 2) - 48 := rfl
    rw [e0, e1] at e
    have qa := ha a hma
    have qb := ha b hmb
    exact hb a b hma hmb (by omega)
theorem XR.snoc {m : Nat} {c : Nat → Nat → Nat} {f : Nat → Int32} (h : XR m c f) {g : Nat → Int32} (h1 : ∀ q, q < 8 * m → g q = f q) (h2 : ∀ p, p < 8 → g (8 * m + p) = nI (c m p)) : XR (m + 1) c g := fun j hj p hp => by
  by_cases e : j = m
  · subst e
    exact h2 p hp
  · rw [h1 _ (by omega)]
    exact h j (by omega) p hp
theorem addX {m : Nat} {f : Nat → Int32} (hm : m < 6) (h : XR m (tC t) f) : ∃ f', x2_add (nI m) f (nI (t (6 * m + 2) - 48)) (nI (t (6 * m + 3) - 48)) (nI (t (6 * m + 4) - 48)) (nI (t (6 * m + 5) - 48)) (nI (t (6 * m + 6) - 48)) = some (nI (m + 1), f') ∧ XR (m + 1) (tC t) f' := by
  refine ⟨upd (upd (upd (upd (upd (upd (upd (upd f (8 * m + 0) (nI (t (6 * m + 2) - 48))) (8 * m + 1) (nI (t (6 * m + 3) - 48))) (8 * m + 2) (nI (t (6 * m + 4) - 48))) (8 * m + 3) (nI (t (6 * m + 5) - 48))) (8 * m + 4) (nI (t (6 * m + 6) - 48))) (8 * m + 5) (nI 0)) (8 * m + 6) (nI 1)) (8 * m + 7) (nI 0), ?_, h.snoc (fun q hq => ?_) (fun p hp => ?_)⟩
  · unfold x2_add
    rw [if_pos (show nI m < (6 : Int32) from nI_lt (b := 6) hm (by omega))]
    simp (disch := omega) only [li, put_eq, gB1_s, nI_add]
  · rw [pk_un (by omega), pk_un (by omega), pk_un (by omega), pk_un (by omega), pk_un (by omega), pk_un (by omega), pk_un (by omega), pk_un (by omega)]
  · rcases (by omega : p = 0 ∨ p = 1 ∨ p = 2 ∨ p = 3 ∨ p = 4 ∨ p = 5 ∨ p = 6 ∨ p = 7) with rfl | rfl | rfl | rfl | rfl | rfl | rfl | rfl
    · rw [pk_un (by omega), pk_un (by omega), pk_un (by omega), pk_un (by omega), pk_un (by omega), pk_un (by omega), pk_un (by omega), pk_us]; rfl
    · rw [pk_un (by omega), pk_un (by omega), pk_un (by omega), pk_un (by omega), pk_un (by omega), pk_un (by omega), pk_us]; rfl
    · rw [pk_un (by omega), pk_un (by omega), pk_un (by omega), pk_un (by omega), pk_un (by omega), pk_us]; rfl
    · rw [pk_un (by omega), pk_un (by omega), pk_un (by omega), pk_un (by omega), pk_us]; rfl
    · rw [pk_un (by omega), pk_un (by omega), pk_un (by omega), pk_us]; rfl
    · rw [pk_un (by omega), pk_un (by omega), pk_us]; rfl
    · rw [pk_un (by omega), pk_us]; rfl
    · rw [pk_us]; rfl
theorem fillSX {M P' : Nat} {rj : Nat → Int32} {w : Int32} (hT : TT k t bs) (hM : k = 6 * M + 1) (hM6 : M ≤ 6) (hR : RD t M P' rj) : ∀ d m, m + d = M → ∀ fl, d < fl → ∀ y, XR m (tC t) y → ∃ y', x5_fillShelf_b6 N (nI k) bs fl (nI (6 * m + 1)) (nI m) w y = some (nI M, w, y') ∧ XR M (tC t) y' := by
  have hk := hT.1
  intro d
  induction d with
  | zero =>
    intro m hm fl hfl y hy
    obtain ⟨fl, rfl⟩ : ∃ x, fl = x + 1 := ⟨fl - 1, by omega⟩
    have e : m = M := by omega
    subst e
    refine ⟨y, ?_, hy⟩
    rw [x5_fillShelf_b6]
    simp (disch := omega) only [li, nI_add, nI_ltI]
    rw [if_pos (by omega)]
  | succ d ih =>
    intro m hm fl hfl y hy
    obtain ⟨fl, rfl⟩ : ∃ x, fl = x + 1 := ⟨fl - 1, by omega⟩
    obtain ⟨-, q1, q2, q3, q4, q5, q6, q7, q8, q9, q10, -⟩ := hR.2.1 m (by omega)
    obtain ⟨f', a1, a2⟩ := addX (by omega) hy
    obtain ⟨y', b1, b2⟩ := ih (m + 1) (by omega) fl (by omega) f' a2
    refine ⟨y', ?_, b2⟩
    rw [x5_fillShelf_b6]
    simp (disch := omega) only [li, nI_add, nI_ltI]
    rw [if_neg (by omega), figTX hT (by omega), figTX hT (by omega), figTX hT (by omega), figTX hT (by omega), figTX hT (by omega)]
    simp only [gB1_s]
    rw [pk_sub (show 48 ≤ t (6 * m + 1 + 1) from q1), pk_sub (show 48 ≤ t (6 * m + 1 + 2) from q3), pk_sub (show 48 ≤ t (6 * m + 1 + 3) from q5), pk_sub (show 48 ≤ t (6 * m + 1 + 4) from q7), pk_sub (show 48 ≤ t (6 * m + 1 + 5) from by have := q9; show 48 ≤ t (6 * m + 6); omega)]
    have e : 6 * m + 1 + 6 = 6 * (m + 1) + 1 := by omega
    rw [e]
    have a1' : x2_add (nI m) y (nI (t (6 * m + 1 + 1) - 48)) (nI (t (6 * m + 1 + 2) - 48)) (nI (t (6 * m + 1 + 3) - 48)) (nI (t (6 * m + 1 + 4) - 48)) (nI (t (6 * m + 1 + 5) - 48)) = some (nI (m + 1), f') := a1
    rw [a1', gB2_s]
    exact b1
theorem MR.snoc {m : Nat} {c : Nat → Nat → Nat} {kd sz pg kd' sz' pg' : Nat → Int32} (h : MR m c kd sz pg) (hm : m < 6) (h1 : ∀ q, ¬ q = m → kd' q = kd q ∧ sz' q = sz q) (h2 : ∀ q, (∀ a, a = 0 ∨ a = 6 ∨ a = 12 ∨ a = 18 ∨ a = 24 ∨ a = 30 → ¬ q = a + m) → pg' q = pg q) (hn : pg' m = nI (c m 0) ∧ pg' (6 + m) = nI (c m 1) ∧ pg' (12 + m) = nI (c m 2) ∧ kd' m = nI (c m 3) ∧ sz' m = nI (c m 4) ∧ pg' (18 + m) = nI (c m 5) ∧ pg' (24 + m) = nI (c m 6) ∧ pg' (30 + m) = nI (c m 7)) : MR (m + 1) c kd' sz' pg' := fun j hj => by
  by_cases e : j = m
  · subst e
    exact hn
  · have q := h j (by omega)
    have w : ∀ b, (b = 0 ∨ b = 6 ∨ b = 12 ∨ b = 18 ∨ b = 24 ∨ b = 30) → pg' (b + j) = pg (b + j) := fun b hb => h2 _ (fun a ha => by omega)
    have w0 : pg' j = pg j := h2 _ (fun a ha => by omega)
    rw [w0, w 6 (by omega), w 12 (by omega), w 18 (by omega), w 24 (by omega), w 30 (by omega), (h1 j e).1, (h1 j e).2]
    exact q
theorem saleM_b {M P' : Nat} {rj ik : Nat → Int32} {th pl rp rq ac : Int32} (hM6 : M ≤ 6) (hR : RD t M P' rj) : ∀ d m, m + d = M → ∀ fl, d < fl → ∀ kd sz pg, MR m (tC t) kd sz pg → (∀ q, q < 37 → (m ≤ q % 6 ∨ q = 36) → pg q = nI 0) → ∃ kd' sz' pg', x8_sale_b48 N (nI k) tx fl (nI m) th pl (nI M) rp rq ac kd sz rj pg ik = some (nI M, th, pl, nI M, rp, rq, 0, kd', sz', rj, pg', upd (upd ik 0 (nI 0)) 1 (nI 0)) ∧ MR M (tC t) kd' sz' pg' ∧ pg' 36 = nI 0 := by
  intro d
  induction d with
  | zero =>
    intro m hm fl hfl kd sz pg h1 h2
    obtain ⟨fl, rfl⟩ : ∃ x, fl = x + 1 := ⟨fl - 1, by omega⟩
    have e : m = M := by omega
    subst e
    refine ⟨kd, sz, pg, ?_, h1, h2 36 (by omega) (Or.inr rfl)⟩
    rw [x8_sale_b48, if_pos (nI_le (Nat.le_refl _) (by omega)), show gIn (0 : Int32) 2 = true from by decide, show gIn (1 : Int32) 2 = true from by decide, gChk_t, gChk_t, nar0]
    rfl
  | succ d ih =>
    intro m hm fl hfl kd sz pg h1 h2
    obtain ⟨fl, rfl⟩ : ∃ x, fl = x + 1 := ⟨fl - 1, by omega⟩
    obtain ⟨rr, -⟩ := hR.2.1 m (by omega)
    have r0 : rj (5 * m) = nI (tC t m 0) := rr 0 (by omega)
    have r1 : rj (5 * m + 1) = nI (tC t m 1) := rr 1 (by omega)
    have r2 : rj (5 * m + 2) = nI (tC t m 2) := rr 2 (by omega)
    have r3 : rj (5 * m + 3) = nI (tC t m 3) := rr 3 (by omega)
    have r4 : rj (5 * m + 4) = nI (tC t m 4) := rr 4 (by omega)
    have z18 : pg (18 + m) = nI (tC t m 5) := h2 _ (by omega) (Or.inl (by omega))
    have z30 : pg (30 + m) = nI (tC t m 7) := h2 _ (by omega) (Or.inl (by omega))
    obtain ⟨kd', sz', pg', a1, a2, a3⟩ := ih (m + 1) (by omega) fl (by omega) (upd kd m (nI (tC t m 3))) (upd sz m (nI (tC t m 4))) (upd (upd (upd (upd pg m (nI (tC t m 0))) (6 + m) (nI (tC t m 1))) (12 + m) (nI (tC t m 2))) (24 + m) (nI 1)) (h1.snoc (by omega) (fun q hq => ⟨pk_un hq, pk_un hq⟩) (fun q hq => by
        rw [pk_un (hq 24 (by omega)), pk_un (hq 12 (by omega)), pk_un (hq 6 (by omega)), pk_un (by have := hq 0 (by omega); omega)]) ⟨by rw [pk_un (by omega), pk_un (by omega), pk_un (by omega), pk_us], by rw [pk_un (by omega), pk_un (by omega), pk_us], by rw [pk_un (by omega), pk_us], pk_us, pk_us, by rw [pk_un (by omega), pk_un (by omega), pk_un (by omega), pk_un (by omega), z18], pk_us, by rw [pk_un (by omega), pk_un (by omega), pk_un (by omega), pk_un (by omega), z30]⟩) (fun q hq hq2 => by
        rw [pk_un (by omega), pk_un (by omega), pk_un (by omega), pk_un (by omega)]
        exact h2 q hq (by omega))
    refine ⟨kd', sz', pg', ?_, a2, a3⟩
    rw [x8_sale_b48, if_neg (nI_ge (by omega) (by omega))]
    simp (disch := omega) only [li, nI_add, pk_mul, gIn_t, gChk_t, nI_clamp, r0, r1, r2, r3, r4]
    exact a1
theorem saleM_a {M P' : Nat} {rj ik kd sz : Nat → Int32} {th pl rp rq ac : Int32} (hM6 : M ≤ 6) (hR : RD t M P' rj) (hN : 100 ≤ N) : ∀ d m, m + d = 37 → ∀ fl, d < fl → ∀ pg, (∀ q, q < m → pg q = nI 0) → ∃ kd' sz' pg', x8_sale_b27 N (nI k) tx fl (nI m) th pl (nI M) rp rq ac kd sz rj pg ik = some (nI M, th, pl, nI M, rp, rq, 0, kd', sz', rj, pg', upd (upd ik 0 (nI 0)) 1 (nI 0)) ∧ MR M (tC t) kd' sz' pg' ∧ pg' 36 = nI 0 := by
  intro d
  induction d with
  | zero =>
    intro m hm fl hfl pg h2
    obtain ⟨fl, rfl⟩ : ∃ x, fl = x + 1 := ⟨fl - 1, by omega⟩
    have e : m = 37 := by omega
    subst e
    rw [x8_sale_b27, if_pos (show (37 : Int32) ≤ nI 37 from nI_le (Nat.le_refl 37) (by omega))]
    exact saleM_b hM6 hR M 0 (by omega) N (by omega) kd sz pg (fun j hj => by omega) (fun q hq _ => h2 q hq)
  | succ d ih =>
    intro m hm fl hfl pg h2
    obtain ⟨fl, rfl⟩ : ∃ x, fl = x + 1 := ⟨fl - 1, by omega⟩
    rw [x8_sale_b27, if_neg (show ¬ (37 : Int32) ≤ nI m from nI_ge (a := m) (b := 37) (by omega) (by omega)), gIn_t (by omega) (by omega), gChk_t, nI_clamp (by omega), show nI m + (1 : Int32) = nI (m + 1) from nI_1 m]
    exact ih (m + 1) (by omega) fl (by omega) (upd pg m (nI 0)) (fun q hq => by
      by_cases e : q = m
      · rw [e, pk_us]
      · rw [pk_un e]
        exact h2 q (by omega))
theorem forgetX (hN : 100 ≤ N) (fil : Nat → Int32) : x3_forget N fil = some (upd (upd fil 0 (nI 0)) 1 (nI 0)) := by
  obtain ⟨N, rfl⟩ : ∃ x, N = x + 3 := ⟨N - 3, by omega⟩
  unfold x3_forget
  rw [x3_forget_b2, if_neg (by decide), show gIn (0 : Int32) 2 = true from by decide, gChk_t, x3_forget_b2, if_neg (by decide), show gIn ((0 : Int32) + 1) 2 = true from by decide, gChk_t, x3_forget_b2, if_pos (by decide), nar0]
  rfl
theorem st_sale {n : Nat} {c : Nat → Nat → Nat} {w J W Jm : Int32} {f kd sz pg : Nat → Int32} (hS : SH n c w J W f Jm kd sz pg) {cnt nxt acts th : Int32} {M : Nat → Nat → Int32} {book : Nat → Int32} (hA : ACT n kd sz cnt nxt M acts book) {rows : Nat → Nat → Int32} {fil kept isK : Nat → Int32} (hL : SLT n kd sz rows fil kept isK) {len ts p0 p1 p2 : Int32} {rj : Nat → Int32} (hT : TXT len bs ts tx) (hN : 2000 ≤ N) : ∃ r J' W' f' cnt' fil' pl' Jm' P' q' acts' kd' sz' rj' pg' isK' n' c' w', x7_sale N len bs J W f cnt fil = some (r, J', W', f', cnt', fil') ∧ x8_sale N th ts p0 Jm p1 p2 acts tx kd sz rj pg isK = some (r, 0, pl', Jm', P', q', acts', kd', sz', rj', pg', isK') ∧ SH n' c' w' J' W' f' Jm' kd' sz' pg' ∧ ACT n' kd' sz' cnt' nxt M acts' book ∧ SLT n' kd' sz' rows fil' kept isK' := by
  obtain ⟨k, t, rfl, rfl, hT, hT2⟩ := hT.tt
  obtain ⟨r, pl, P', q, rj', a1, a2, a3⟩ := faults (N := N) hT hT2 (by omega) p0 p1 p2 rj
  unfold x7_sale x8_sale
  rw [a1, a2, gB1_s, gB5_s]
  by_cases h : r = -nI 9
  · obtain ⟨m, P2, rfl, hm, hkm, hR⟩ := a3 h
    rw [if_pos (show r = (-9 : Int32) from h), if_pos (show r = (-9 : Int32) from h)]
    obtain ⟨f', b1, b2⟩ := fillSX (N := N) (w := (0 : Int32)) hT hkm hm hR m 0 (by omega) N (by omega) f (fun j hj => by omega)
    obtain ⟨kd', sz', pg', d1, d2, d3⟩ := saleM_a (N := N) (k := k) (tx := tx) (kd := kd) (sz := sz) (ik := isK) (th := 0) (pl := pl) (rp := P') (rq := nI m) (ac := acts) hm hR (by omega) 37 0 (by omega) N (by omega) pg (fun q hq => by omega)
    refine ⟨nI m, nI m, 0, f', 0, upd (upd fil 0 (nI 0)) 1 (nI 0), pl, nI m, P', nI m, 0, kd', sz', rj', pg', upd (upd isK 0 (nI 0)) 1 (nI 0), m, tC t, 0, ?_, d1, ⟨hR.good hm, b2, rfl, rfl, d2, rfl, d3⟩, hA.forget, fun i hi => ?_⟩
    · unfold x5_fillShelf x2_clear x0_forget x2_jars
      rw [gB2_s]
      have b1' : x5_fillShelf_b6 N (nI k) bs N (1 : Int32) (0 : Int32) (0 : Int32) f = some (nI m, 0, f') := b1
      rw [b1', gB3_s, gB1_s, forgetX (by omega), gB1_s, gB1_s]
    · rcases (by omega : i = 0 ∨ i = 1) with rfl | rfl
      · have u : ∀ g : Nat → Int32, upd (upd g 0 (nI 0)) 1 (nI 0) 0 = nI 0 := fun g => by rw [pk_un (by omega), pk_us]
        rw [u, u]
        exact ⟨rfl, Or.inl rfl⟩
      · have u : ∀ g : Nat → Int32, upd (upd g 0 (nI 0)) 1 (nI 0) 1 = nI 0 := fun g => pk_us
        rw [u, u]
        exact ⟨rfl, Or.inl rfl⟩
  · rw [if_neg (show ¬ r = (-9 : Int32) from h), if_neg (show ¬ r = (-9 : Int32) from h)]
    exact ⟨_, _, _, _, _, _, _, _, _, _, _, _, _, _, _, _, n, c, w, rfl, rfl, hS, hA, hL⟩
end SALE
