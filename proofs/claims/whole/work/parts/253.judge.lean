/-! PURE: judge, years -/
section JUDGE
variable {N n : Nat} {kd sz pg : Nat → Int32}
theorem liL (n : Nat) : (OfNat.ofNat n : Int64) = lN n := Int64.toInt_inj.mp (congrArg Int64.toInt (show (OfNat.ofNat n : Int64) = lN n from rfl))
theorem without_l {a0 : Int64} {m : Nat} (hm : m < 1000) : ∀ k i, i + k = m → ∀ fl, k < fl → ∀ x, x < 2 ^ 63 → x7_without_b5 N a0 (nI m) fl (lN x) (nI i) = some (lN (x / 1000 ^ k)) := by
  intro k
  induction k with
  | zero =>
    intro i hi fl hfl x hx
    obtain ⟨fl, rfl⟩ : ∃ m, fl = m + 1 := ⟨fl - 1, by omega⟩
    have e : i = m := by omega
    subst e
    rw [x7_without_b5, if_pos (nI_le (Nat.le_refl _) (by omega)), Nat.pow_zero, Nat.div_one]
  | succ k ih =>
    intro i hi fl hfl x hx
    obtain ⟨fl, rfl⟩ : ∃ m, fl = m + 1 := ⟨fl - 1, by omega⟩
    have e : lN x / (1000 : Int64) = lN (x / 1000) := pk_lDiv (b := 1000) hx (by omega) (by omega)
    rw [x7_without_b5, if_neg (nI_ge (by omega) (by omega)), e, show nI i + (1 : Int32) = nI (i + 1) from nI_1 i, ih (i + 1) (by omega) fl (by omega) (x / 1000) (by omega), Nat.div_div_eq_div_mul, Nat.pow_succ, Nat.mul_comm]
theorem withoutX {m : Nat} (hm : m < 100) (hN : 100 ≤ N) {x : Nat} (hx : x < 2 ^ 63) : x7_without N (lN x) (nI m) = some (lN (x / 1000 ^ m)) := without_l (by omega) m 0 (by omega) N (by omega) x hx
theorem lpow_l {m : Nat} (hm : m < 1000) : ∀ k i, i + k = m → ∀ fl, k < fl → ∀ x, x8_longPower_b5 N (1000 : Int64) (nI m) fl (lN x) (nI i) = some (lN (x * 1000 ^ k)) := by
  intro k
  induction k with
  | zero =>
    intro i hi fl hfl x
    obtain ⟨fl, rfl⟩ : ∃ m, fl = m + 1 := ⟨fl - 1, by omega⟩
    have e : i = m := by omega
    subst e
    rw [x8_longPower_b5, if_pos (nI_le (Nat.le_refl _) (by omega)), Nat.pow_zero, Nat.mul_one]
  | succ k ih =>
    intro i hi fl hfl x
    obtain ⟨fl, rfl⟩ : ∃ m, fl = m + 1 := ⟨fl - 1, by omega⟩
    have e : lN x * (1000 : Int64) = lN (x * 1000) := lN_mul x 1000
    rw [x8_longPower_b5, if_neg (nI_ge (by omega) (by omega)), e, show nI i + (1 : Int32) = nI (i + 1) from nI_1 i, ih (i + 1) (by omega) fl (by omega) (x * 1000), Nat.mul_assoc, Nat.pow_succ, Nat.mul_comm 1000]
theorem lpowM {m : Nat} (hm : m < 100) (hN : 100 ≤ N) : x8_longPower N (1000 : Int64) (nI m) = some (lN (1000 ^ m)) := by
  have e := lpow_l (N := N) (m := m) (by omega) m 0 (by omega) N (by omega) 1
  rw [Nat.one_mul] at e
  exact e
theorem pow4 {m : Nat} (hm : m ≤ 4) : 1000 ^ m < 2 ^ 62 ∧ 0 < 1000 ^ m := by
  rcases (by omega : m = 0 ∨ m = 1 ∨ m = 2 ∨ m = 3 ∨ m = 4) with rfl | rfl | rfl | rfl | rfl <;> decide
theorem judge_l {q A : Nat} {nJ nW : Int32} {nf : Nat → Int32} {th : Int32} (hq : q ≤ 4) (hA : A < 2 ^ 63) (hN : 100 ≤ N) : ∀ k i, i + k = q → ∀ fl fl', k < fl → k < fl' → ∀ c w f tr, TRr n kd sz c w f tr → ∃ r W' f' tr', x7_judge_b43 N nJ nW nf (nI q) (lN A) fl (nI i) (nI n) w f = some (r, nI n, W', f') ∧ x8_judge_b44 N (nI n) kd sz pg (nI q) (lN A) fl' (nI i) th (nI 63) tr = some (r, th, nI 63, tr') := by
  intro k
  induction k with
  | zero =>
    intro i hi fl fl' hfl hfl' c w f tr h
    obtain ⟨fl, rfl⟩ : ∃ m, fl = m + 1 := ⟨fl - 1, by omega⟩
    obtain ⟨fl', rfl⟩ : ∃ m, fl' = m + 1 := ⟨fl' - 1, by omega⟩
    have e : i = q := by omega
    subst e
    rw [x7_judge_b43, x8_judge_b44, if_pos (nI_le (Nat.le_refl _) (by omega)), if_pos (nI_le (Nat.le_refl _) (by omega))]
    exact ⟨_, _, _, _, rfl, rfl⟩
  | succ k ih =>
    intro i hi fl fl' hfl hfl' c w f tr h
    obtain ⟨fl, rfl⟩ : ∃ m, fl = m + 1 := ⟨fl - 1, by omega⟩
    obtain ⟨fl', rfl⟩ : ∃ m, fl' = m + 1 := ⟨fl' - 1, by omega⟩
    have ek : (nI q - (1 : Int32)) - nI i = nI k := by
      have e1 : nI q - (1 : Int32) = nI (q - 1) := pk_sub (b := 1) (by omega)
      rw [e1, pk_sub (by omega)]
      congr 1
      omega
    obtain ⟨p1, p2⟩ := pow4 (m := k) (by omega)
    have hB : A / 1000 ^ k < 2 ^ 63 := Nat.lt_of_le_of_lt (Nat.div_le_self _ _) hA
    obtain ⟨d, hd⟩ : ∃ d, A / 1000 ^ k % 1000 = d := ⟨_, rfl⟩
    have hd9 : d < 1000 := by omega
    have e1 : (lN (A / 1000 ^ k) - lN (A / 1000 ^ k) / (1000 : Int64) * (1000 : Int64)).toInt32 = nI d := by
      have z : lN (A / 1000 ^ k) - lN (A / 1000 ^ k) / (1000 : Int64) * (1000 : Int64) = lN (A / 1000 ^ k % 1000) := pk_lRem (b := 1000) hB (by omega) (by omega)
      rw [z, lN_i, hd]
    have e2 : lN A / lN (1000 ^ k) = lN (A / 1000 ^ k) := pk_lDiv hA p2 (by omega)
    have e3 : gNzL (lN (1000 ^ k)) = true := by
      unfold gNzL
      rw [show decide (lN (1000 ^ k) = 0) = false from decide_eq_false (fun z => by
        have := (pk_lEQ (a := 1000 ^ k) (b := 0) (by omega) (by omega)).mp z
        omega)]
      rfl
    have d1 : nI d / (100 : Int32) = nI (d / 100) := pk_div (d := 100) (by omega) (by omega) (by omega)
    have d2 : nI d / (10 : Int32) = nI (d / 10) := pk_div (d := 10) (by omega) (by omega) (by omega)
    have d3 : nI (d / 10) - nI (d / 10) / (10 : Int32) * (10 : Int32) = nI (d / 10 % 10) := pk_rem (d := 10) (by omega) (by omega) (by omega)
    have d4 : nI d - nI (d / 10) * (10 : Int32) = nI (d % 10) := remN2 d (d := 10)
    rw [x7_judge_b43, x8_judge_b44, if_neg (nI_ge (by omega) (by omega)), if_neg (nI_ge (by omega) (by omega)), ek, withoutX (by omega) hN hA, lpowM (by omega) hN, gB1_s, gB1_s, e3, gChk_t, e2, e1, d1, d2, d3, d4]
    obtain ⟨b, c', w', f', tr', a1, a2, a3⟩ := doesEq (N := N) h hd9 hN
    rw [a1, a2, gB3_s, gB2_s]
    cases b with
    | false => exact ⟨_, _, _, _, rfl, rfl⟩
    | true =>
      rw [if_neg (show ¬ bI true = (0 : Int32) from by decide), if_neg (show ¬ bI true = (0 : Int32) from by decide), show nI i + (1 : Int32) = nI (i + 1) from nI_1 i]
      exact ih (i + 1) (by omega) fl fl' (by omega) (by omega) c' w' f' tr' a3
theorem st_judge {c : Nat → Nat → Nat} {w J W Jm : Int32} {f tr : Nat → Int32} (hS : SH n c w J W f Jm kd sz pg) {th sm tJ tW : Int32} {tf : Nat → Int32} (hN : 2000 ≤ N) (a1 : Int32) (a2 : Int64) : ∃ r tJ' tW' tf' s' tr', x7_judge N J W f tJ tW tf a1 a2 = some (r, tJ', tW', tf') ∧ x8_judge N th Jm sm kd sz pg tr a1 a2 = some (r, 0, s', tr') := by
  obtain ⟨hG, hX, rfl, rfl, hM, rfl, h36⟩ := hS
  have hn := hG.n6
  unfold x7_judge x8_judge
  rcases inC 1 4 (by omega) (by omega) a1 with z | ⟨q, hq1, hq, rfl, g1, g2⟩
  · rw [r_bad (lo := (1 : Int32)) (hi := (4 : Int32)) z, in_f 1 4 (by decide) (by decide) z]
    exact ⟨_, _, _, _, _, _, rfl, rfl⟩
  · rw [r_ok (lo := (1 : Int32)) (hi := (4 : Int32)) g1 g2, in_t 1 4 (by decide) (by decide) g1 g2, gB1_s, if_neg n10, lpowM (by omega) (by omega), gB1_s]
    obtain ⟨p1, p2⟩ := pow4 hq
    by_cases z : a2 < 0
    · have e : x8_in a2 0 (lN (1000 ^ q) - 1) = some (nI 0) := by
        unfold x8_in
        rw [if_pos ((cmp_lt _ _).mpr z)]
        rfl
      rw [if_pos ((cmp_lt _ _).mpr z), e]
      exact ⟨_, _, _, _, _, _, rfl, rfl⟩
    · obtain ⟨A, hA, rfl⟩ := pk_lOf z
      have e1 : lN (1000 ^ q) - (1 : Int64) = lN (1000 ^ q - 1) := lN_sub (b := 1) p2
      have e2 : x8_in (lN A) 0 (lN (1000 ^ q - 1)) = some (if A < 1000 ^ q then nI 1 else nI 0) := by
        unfold x8_in
        rw [if_neg (fun y => z ((cmp_lt _ _).mp y))]
        by_cases h : A < 1000 ^ q
        · rw [if_pos h, if_neg (fun y => by
            have := (pk_lLT (by omega) hA).mp ((cmp_gt _ _).mp y)
            omega)]
          rfl
        · rw [if_neg h, if_pos ((cmp_gt _ _).mpr ((pk_lLT (by omega) hA).mpr (by omega)))]
          rfl
      rw [if_neg (fun y => z ((cmp_lt _ _).mp y)), withoutX (by omega) (by omega) hA, gB1_s, e1, e2, gB1_s]
      by_cases h : A < 1000 ^ q
      · rw [if_pos h, if_neg n10, Nat.div_eq_of_lt h, if_pos (show lg_cmp (lN 0) 0 = (0 : Int32) from by decide)]
        obtain ⟨f1, x1, x2⟩ := copyX hX hn tJ tW tf W
        obtain ⟨t1, y1, y2, y3⟩ := beginM (N := N) hM hn (by omega) sm tr
        rw [x1, y1, gB3_s, gB2_s]
        obtain ⟨r, W', f', tr', e3, e4⟩ := judge_l (N := N) (nJ := nI n) (nW := W) (nf := f) (pg := pg) (th := 0) hq hA (by omega) q 0 (by omega) N N (by omega) (by omega) c W f1 t1 ⟨hG, x2, y2, y3.trans h36⟩
        exact ⟨r, nI n, W', f', nI 63, tr', e3, e4⟩
      · have hB : A / 1000 ^ q < 2 ^ 63 := Nat.lt_of_le_of_lt (Nat.div_le_self _ _) hA
        have hB2 : 0 < A / 1000 ^ q := Nat.div_pos (by omega) p2
        rw [if_neg h, if_pos n00, if_neg (fun y => by
          have := (pk_lEQ (b := 0) hB (by omega)).mp ((lg_cmp_eq _ _).mp y)
          omega)]
        exact ⟨_, _, _, _, _, _, rfl, rfl⟩
theorem ush33 (S : Int64) : ∃ B, B < 2 ^ 31 ∧ (S.toUInt64 >>> ((33 : Int32).toInt64.toUInt64 &&& Int64.toUInt64 63)).toInt64 = lN B := by
  have e0 : ((33 : Int32).toInt64.toUInt64 &&& Int64.toUInt64 63) = (33 : UInt64) := by decide
  rw [e0]
  refine ⟨(S.toUInt64 >>> (33 : UInt64)).toNat, ?_, ?_⟩
  · rw [UInt64.toNat_shiftRight, show (33 : UInt64).toNat % 64 = 33 from by decide, Nat.shiftRight_eq_div_pow]
    have := S.toUInt64.toNat_lt
    omega
  · apply Int64.toBitVec_inj.mp
    show (S.toUInt64 >>> (33 : UInt64)).toBitVec = BitVec.ofNat 64 _
    rw [← UInt64.toNat_toBitVec, BitVec.ofNat_toNat, BitVec.setWidth_eq]
/-- the chance of a year -/
def chn (S : Int64) : Int32 := ((S.toUInt64 >>> ((33 : Int32).toInt64.toUInt64 &&& Int64.toUInt64 63)).toInt64 - (S.toUInt64 >>> ((33 : Int32).toInt64.toUInt64 &&& Int64.toUInt64 63)).toInt64 / (32 : Int64) * (32 : Int64)).toInt32
theorem chn_lt (S : Int64) : ∃ x, x < 32 ∧ chn S = nI x := by
  obtain ⟨B, hB, e⟩ := ush33 S
  refine ⟨B % 32, by omega, ?_⟩
  unfold chn
  rw [e]
  have z : lN B - lN B / (32 : Int64) * (32 : Int64) = lN (B % 32) := pk_lRem (b := 32) (by omega) (by omega) (by omega)
  rw [z, lN_i]
theorem years_l {m : Nat} {nJ nW : Int32} {nf : Nat → Int32} {th : Int32} (hm : m ≤ 30) (hN : 100 ≤ N) : ∀ k i, i + k = m → ∀ fl fl', k < fl → k < fl' → ∀ c w f tr S x, TRr n kd sz c w f tr → ∃ r S' W' f' tr', x7_years_b29 N nJ nW nf (nI m) fl x (nI i) S (nI n) w f = some (r, S', nI n, W', f') ∧ x8_years_b28 N (nI n) kd sz pg (nI m) fl' x (nI i) th S (nI 63) tr = some (r, th, S', nI 63, tr') := by
  intro k
  induction k with
  | zero =>
    intro i hi fl fl' hfl hfl' c w f tr S x h
    obtain ⟨fl, rfl⟩ : ∃ m, fl = m + 1 := ⟨fl - 1, by omega⟩
    obtain ⟨fl', rfl⟩ : ∃ m, fl' = m + 1 := ⟨fl' - 1, by omega⟩
    have e : i = m := by omega
    subst e
    rw [x7_years_b29, x8_years_b28, if_pos (nI_le (Nat.le_refl _) (by omega)), if_pos (nI_le (Nat.le_refl _) (by omega))]
    exact ⟨_, _, _, _, _, rfl, rfl⟩
  | succ k ih =>
    intro i hi fl fl' hfl hfl' c w f tr S x h
    obtain ⟨fl, rfl⟩ : ∃ m, fl = m + 1 := ⟨fl - 1, by omega⟩
    obtain ⟨fl', rfl⟩ : ∃ m, fl' = m + 1 := ⟨fl' - 1, by omega⟩
    rw [x7_years_b29, x8_years_b28, if_neg (nI_ge (by omega) (by omega)), if_neg (nI_ge (by omega) (by omega))]
    generalize S * (6364136223846793005 : Int64) + (1442695040888963407 : Int64) = S2
    have fold : ((S2.toUInt64 >>> ((33 : Int32).toInt64.toUInt64 &&& Int64.toUInt64 63)).toInt64 - (S2.toUInt64 >>> ((33 : Int32).toInt64.toUInt64 &&& Int64.toUInt64 63)).toInt64 / (32 : Int64) * (32 : Int64)).toInt32 = chn S2 := rfl
    rw [fold]
    obtain ⟨u, hu, e⟩ := chn_lt S2
    rw [e]
    have step : ∃ (c' : Nat → Nat → Nat) (w' : Int32) (f' tr' : Nat → Int32) (d : Int32) (b : Int32), x7_trialByChance N (nI n) w f (nI u) = some (w', f') ∧ x8_does N (nI n) (nI 63) kd sz tr d = some (b, tr') ∧ TRr n kd sz c' w' f' tr' ∧ d = (if 24 ≤ u then (if u = 24 then (100 : Int32) else (0 : Int32)) else nI (300 + 10 * (u / 4) + u % 4)) := by
      by_cases h1 : 24 ≤ u
      · by_cases h2 : u = 24
        · obtain ⟨b, c', w', f', tr', a1, a2, a3⟩ := doesEq (N := N) h (d := 100) (by omega) hN
          refine ⟨c', w', f', tr', nI 100, bI b, ?_, a2, a3, by rw [if_pos h1, if_pos h2]; rfl⟩
          unfold x7_trialByChance
          rw [h2, if_pos (show (24 : Int32) ≤ nI 24 from by decide), if_pos (show nI 24 = (24 : Int32) from rfl)]
          unfold x7_trialDoes x2_tryShake at a1
          rw [if_neg (by decide), if_pos (by decide), if_pos (by decide), if_pos (by decide)] at a1
          cases er : x2_rattle N (nI n) f with
          | none => rw [er] at a1; cases a1
          | some v =>
            obtain ⟨v1, v2⟩ := v
            rw [er, gB2_s, gB2_s, if_neg (by decide)] at a1
            injection a1 with a1
            injection a1 with _ a1
            rw [gB2_s, a1]
        · obtain ⟨b, c', w', f', tr', a1, a2, a3⟩ := doesEq (N := N) h (d := 0) (by omega) hN
          refine ⟨c', w', f', tr', nI 0, bI b, ?_, a2, a3, by rw [if_pos h1, if_neg h2]; rfl⟩
          unfold x7_trialByChance
          rw [if_pos (show (24 : Int32) ≤ nI u from nI_le (a := 24) h1 (by omega)), if_neg (show ¬ nI u = (24 : Int32) from nq 24 (by omega) (by omega) h2)]
          unfold x7_trialDoes x2_tryWeek at a1
          rw [if_pos (by decide), if_pos (by decide), if_pos (by decide)] at a1
          cases er : x2_passWeek N (nI n) w f with
          | none => rw [er] at a1; cases a1
          | some v =>
            obtain ⟨v1, v2⟩ := v
            rw [er, gB2_s, gB3_s, if_neg (by decide)] at a1
            injection a1 with a1
            injection a1 with _ a1
            rw [gB2_s, a1]
      · obtain ⟨b, c', f', tr', a1, a2, a3⟩ := doFill (N := N) h (x := u / 4) (y := u % 4) (by omega) (by omega)
        refine ⟨c', w, f', tr', _, bI b, ?_, a2, a3, by rw [if_neg h1]⟩
        unfold x7_trialByChance
        have d1 : nI u / (4 : Int32) = nI (u / 4) := pk_div (d := 4) (by omega) (by omega) (by omega)
        have d2 : nI u - nI (u / 4) * (4 : Int32) = nI (u % 4) := remN2 u (d := 4)
        rw [if_neg (show ¬ (24 : Int32) ≤ nI u from nI_ge (a := u) (b := 24) (by omega) (by omega)), d1, d2, a1, gB2_s]
    obtain ⟨c', w', f', tr', d, b, s1, s2, s3, s4⟩ := step
    have eM : (if (24 : Int32) ≤ nI u then (if nI u = (24 : Int32) then x8_years_b103 N (nI n) kd sz pg (nI m) (x8_years_b28 N (nI n) kd sz pg (nI m) fl') x (nI i) (100 : Int32) th S2 (nI 63) tr else x8_years_b103 N (nI n) kd sz pg (nI m) (x8_years_b28 N (nI n) kd sz pg (nI m) fl') x (nI i) (0 : Int32) th S2 (nI 63) tr) else x8_years_b103 N (nI n) kd sz pg (nI m) (x8_years_b28 N (nI n) kd sz pg (nI m) fl') x (nI i) (((300 : Int32) + ((10 : Int32) * (nI u / (4 : Int32)))) + (nI u - nI u / (4 : Int32) * (4 : Int32))) th S2 (nI 63) tr) = x8_years_b103 N (nI n) kd sz pg (nI m) (x8_years_b28 N (nI n) kd sz pg (nI m) fl') x (nI i) d th S2 (nI 63) tr := by
      rw [s4]
      by_cases h1 : 24 ≤ u
      · rw [if_pos (show (24 : Int32) ≤ nI u from nI_le (a := 24) h1 (by omega)), if_pos h1]
        by_cases h2 : u = 24
        · rw [if_pos (show nI u = (24 : Int32) from eqn 24 h2), if_pos h2]
        · rw [if_neg (show ¬ nI u = (24 : Int32) from nq 24 (by omega) (by omega) h2), if_neg h2]
      · rw [if_neg (show ¬ (24 : Int32) ≤ nI u from nI_ge (a := u) (b := 24) (by omega) (by omega)), if_neg h1]
        have d1 : nI u / (4 : Int32) = nI (u / 4) := pk_div (d := 4) (by omega) (by omega) (by omega)
        have d2 : nI u - nI (u / 4) * (4 : Int32) = nI (u % 4) := remN2 u (d := 4)
        have e5 : (300 : Int32) + (10 : Int32) * nI (u / 4) + nI (u % 4) = nI (300 + 10 * (u / 4) + u % 4) := by
          rw [← nI_add, ← nI_add, ← pk_mul]
          rfl
        rw [d1, d2, e5]
    rw [eM, s1, gB2_s]
    unfold x8_years_b103
    have s5 := s3
    obtain ⟨hG', hX', hM', -⟩ := s5
    rw [s2, gB2_s, flavX hX' hG' hN, flavM hM' hG' hN, gB1_s, gB1_s, show nI i + (1 : Int32) = nI (i + 1) from nI_1 i]
    exact ih (i + 1) (by omega) fl fl' (by omega) (by omega) c' w' f' tr' S2 _ s3
theorem st_years {c : Nat → Nat → Nat} {w J W Jm : Int32} {f tr : Nat → Int32} (hS : SH n c w J W f Jm kd sz pg) {th sm tJ tW : Int32} {tf : Nat → Int32} (hN : 2000 ≤ N) (S : Int64) (a1 : Int32) : ∃ r S' tJ' tW' tf' s' tr', x7_years N S J W f tJ tW tf a1 = some (r, S', tJ', tW', tf') ∧ x8_years N th Jm S sm kd sz pg tr a1 = some (r, 0, S', s', tr') := by
  obtain ⟨hG, hX, rfl, rfl, hM, rfl, h36⟩ := hS
  have hn := hG.n6
  unfold x7_years x8_years
  rcases inC 1 30 (by omega) (by omega) a1 with z | ⟨m, hm1, hm, rfl, g1, g2⟩
  · rw [r_bad' (lo := (1 : Int32)) (hi := (30 : Int32)) z, in_f 1 30 (by decide) (by decide) z]
    exact ⟨_, _, _, _, _, _, _, rfl, rfl⟩
  · rw [r_ok' (lo := (1 : Int32)) (hi := (30 : Int32)) g1 g2, in_t 1 30 (by decide) (by decide) g1 g2, gB1_s, if_neg n10]
    obtain ⟨f1, x1, x2⟩ := copyX hX hn tJ tW tf W
    obtain ⟨t1, y1, y2, y3⟩ := beginM (N := N) hM hn (by omega) sm tr
    rw [x1, y1, gB3_s, gB2_s]
    obtain ⟨r, S', W', f', tr', e3, e4⟩ := years_l (N := N) (nJ := nI n) (nW := W) (nf := f) (pg := pg) (th := 0) hm (by omega) m 0 (by omega) N N (by omega) (by omega) c W f1 t1 S (0 : Int32) ⟨hG, x2, y2, y3.trans h36⟩
    exact ⟨r, S', nI n, W', f', nI 63, tr', e3, e4⟩
end JUDGE
