/-! PURE: fractions, powers, bits counted, shelves without some -/
section FRAC
variable {N n : Nat}
theorem gcd_l {a0 a1 b0 b1 : Int32} : ∀ m a b i, a < 2 ^ 31 → b < 2 ^ m → m ≤ 30 → i + 2 * m + 2 ≤ 1000 → ∀ fl fl', 2 * m + 2 ≤ fl → 2 * m + 2 ≤ fl' → x1_commonOf_b7 N a0 a1 fl (nI a) (nI b) (nI i) = some (nI (Nat.gcd a b)) ∧ x8_divisor_b13 N b0 b1 fl' (nI a) (nI b) = some (nI (Nat.gcd a b)) := by
  have fin : ∀ a i fl fl', i < 1000 → x1_commonOf_b7 N a0 a1 (fl + 1) (nI a) (nI 0) (nI i) = some (nI a) ∧ x8_divisor_b13 N b0 b1 (fl' + 1) (nI a) (nI 0) = some (nI a) := fun a i fl fl' hi => by
    rw [x1_commonOf_b7, x8_divisor_b13, if_neg (show ¬ (1000 : Int32) ≤ nI i from nI_ge (a := i) (b := 1000) hi (by omega)), if_pos (show nI 0 ≤ (0 : Int32) from by decide), if_pos n00]
    exact ⟨rfl, rfl⟩
  have step : ∀ a b i fl fl', a < 2 ^ 31 → 0 < b → b < 2 ^ 31 → i < 1000 → x1_commonOf_b7 N a0 a1 (fl + 1) (nI a) (nI b) (nI i) = x1_commonOf_b7 N a0 a1 fl (nI b) (nI (a % b)) (nI (i + 1)) ∧ x8_divisor_b13 N b0 b1 (fl' + 1) (nI a) (nI b) = x8_divisor_b13 N b0 b1 fl' (nI b) (nI (a % b)) := fun a b i fl fl' ha hb hb2 hi => by
    have nz : gNz (nI b) = true := by
      unfold gNz
      rw [show decide (nI b = 0) = false from decide_eq_false (nI_ne0 hb hb2)]
      rfl
    rw [x1_commonOf_b7, x8_divisor_b13, if_neg (show ¬ (1000 : Int32) ≤ nI i from nI_ge (a := i) (b := 1000) hi (by omega)), if_neg (nI_nle hb hb2), if_neg (nI_ne0 hb hb2), nz, gChk_t, gChk_t, pk_rem ha hb hb2, show nI i + (1 : Int32) = nI (i + 1) from nI_1 i]
    exact ⟨rfl, rfl⟩
  intro m
  induction m with
  | zero =>
    intro a b i ha hb hm hi fl fl' hfl hfl'
    obtain ⟨fl, rfl⟩ : ∃ x, fl = x + 1 := ⟨fl - 1, by omega⟩
    obtain ⟨fl', rfl⟩ : ∃ x, fl' = x + 1 := ⟨fl' - 1, by omega⟩
    have e : b = 0 := by rw [Nat.pow_zero] at hb; omega
    rw [e, Nat.gcd_zero_right]
    exact fin a i fl fl' (by omega)
  | succ m ih =>
    intro a b i ha hb hm hi fl fl' hfl hfl'
    obtain ⟨fl, rfl⟩ : ∃ x, fl = x + 2 := ⟨fl - 2, by omega⟩
    obtain ⟨fl', rfl⟩ : ∃ x, fl' = x + 2 := ⟨fl' - 2, by omega⟩
    have h30 : 2 ^ (m + 1) ≤ 2 ^ 30 := Nat.pow_le_pow_right (by omega) hm
    by_cases hb0 : b = 0
    · rw [hb0, Nat.gcd_zero_right]
      exact fin a i (fl + 1) (fl' + 1) (by omega)
    · obtain ⟨s1, s2⟩ := step a b i (fl + 1) (fl' + 1) ha (by omega) (by omega) (by omega)
      rw [s1, s2]
      have hr := Nat.mod_lt a (show 0 < b from by omega)
      by_cases hr0 : a % b = 0
      · have eg : Nat.gcd a b = b := by rw [Nat.gcd_comm, Nat.gcd_rec, hr0, Nat.gcd_zero_left]
        rw [hr0, eg]
        exact fin b (i + 1) fl fl' (by omega)
      · obtain ⟨s3, s4⟩ := step b (a % b) (i + 1) fl fl' (by omega) (by omega) (by omega) (by omega)
        rw [s3, s4]
        have eg : Nat.gcd (a % b) (b % (a % b)) = Nat.gcd a b := by
          rw [Nat.gcd_comm a b, Nat.gcd_rec b a, Nat.gcd_rec (a % b) b, Nat.gcd_comm]
        rw [← eg]
        have h2 := Nat.mod_lt b (show 0 < a % b from by omega)
        have h3 : b % (a % b) + a % b ≤ b := by
          have e1 := Nat.div_add_mod b (a % b)
          have e2 : 1 ≤ b / (a % b) := Nat.div_pos (by omega) (by omega)
          have e3 : a % b ≤ (a % b) * (b / (a % b)) := Nat.le_mul_of_pos_right _ (by omega)
          omega
        have e2 : 2 ^ (m + 1) = 2 ^ m * 2 := Nat.pow_succ 2 m
        exact ih (a % b) (b % (a % b)) (i + 1 + 1) (by omega) (by omega) (by omega) (by omega) fl fl' (by omega) (by omega)
theorem absN {u : Int32} (h1 : -1073741824 ≤ u.toInt) (h2 : u.toInt ≤ 1073741824) : ∃ a, a < 2 ^ 31 ∧ (if (0 : Int32) ≤ u then u else (0 : Int32) - u) = nI a ∧ ((0 : Int32) ≤ u → u = nI a) ∧ (¬ (0 : Int32) ≤ u → -u = nI a) := by
  by_cases h : (0 : Int32) ≤ u
  · obtain ⟨a, ha, rfl⟩ := nI_of (x := u) ((leI _ _).mp h)
    exact ⟨a, ha, if_pos h, fun _ => rfl, fun z => absurd h z⟩
  · have hu : u.toInt < 0 := by
      rw [fa_le, show (0 : Int32).toInt = 0 from by decide] at h
      omega
    refine ⟨u.toInt.natAbs, by omega, ?_, fun z => absurd z h, fun _ => ?_⟩
    · rw [if_neg h]
      apply Int32.toInt_inj.mp
      rw [fb_subI (by rw [show (0 : Int32).toInt = 0 from by decide]; omega) (by rw [show (0 : Int32).toInt = 0 from by decide]; omega), nI_toInt (by omega), show (0 : Int32).toInt = 0 from by decide]
      omega
    · apply Int32.toInt_inj.mp
      rw [fb_negI (by omega), nI_toInt (by omega)]
      omega
/-- both fractions -/
theorem fracs {u : Int32} (h1 : -1073741824 ≤ u.toInt) (h2 : u.toInt ≤ 1073741824) {L : Nat} (hL : 0 < L) (hL2 : L < 2 ^ 24) (hN : 100 ≤ N) (fa fb a3 : Int32) : ∃ A B, x1_make N fa fb u (nI L) = some (A, B) ∧ x8_fraction N u (nI L) a3 = some (if a3 = (0 : Int32) then B else A) := by
  obtain ⟨a, ha, e1, e2, e3⟩ := absN h1 h2
  have hg : 0 < Nat.gcd a L := Nat.gcd_pos_of_pos_right a hL
  have hg2 : Nat.gcd a L ≤ L := Nat.gcd_le_right a hL
  have nz : gNz (nI (Nat.gcd a L)) = true := by
    unfold gNz
    rw [show decide (nI (Nat.gcd a L) = 0) = false from decide_eq_false (nI_ne0 hg (by omega))]
    rfl
  refine ⟨u / nI (Nat.gcd a L), nI L / nI (Nat.gcd a L), ?_, ?_⟩
  · unfold x1_make x1_commonOf x1_make_b21 x1_make_b36
    obtain ⟨g1, -⟩ := gcd_l (N := N) (a0 := nI a) (a1 := nI L) (b0 := nI a) (b1 := nI L) 24 a L 0 ha hL2 (by omega) (by omega) N N (by omega) (by omega)
    rw [e1, show x1_commonOf_b7 N (nI a) (nI L) N (nI a) (nI L) 0 = _ from g1, gB1_s, if_neg (nI_nle hg (by omega)), nz, gChk_t, if_neg (nI_nle hg (by omega)), gChk_t]
  · have ed : x8_divisor N u (nI L) = some (nI (Nat.gcd a L)) := by
      obtain ⟨-, g2⟩ := gcd_l (N := N) (a0 := nI a) (a1 := nI L) (b0 := u) (b1 := nI L) 24 a L 0 ha hL2 (by omega) (by omega) N N (by omega) (by omega)
      unfold x8_divisor
      by_cases h : (0 : Int32) ≤ u
      · rw [if_pos h]
        have q := e2 h
        have g3 : x8_divisor_b13 N u (nI L) N u (nI L) = x8_divisor_b13 N u (nI L) N (nI a) (nI L) := congrArg (fun z => x8_divisor_b13 N u (nI L) N z (nI L)) q
        rw [g3]
        exact g2
      · rw [if_neg h, e3 h]
        exact g2
    unfold x8_fraction
    rw [ed, gB1_s]
    by_cases z : a3 = 0
    · rw [if_pos z, if_pos z, nz, gChk_t]
    · rw [if_neg z, if_neg z, nz, gChk_t]
theorem powX_l {a m : Nat} (hm : m < 1000) : ∀ d i, i + d = m → ∀ fl, d < fl → ∀ x, x7_power_b4 N (nI a) (nI m) fl (nI x) (nI i) = some (nI (x * a ^ d)) ∧ x8_power_b4 N (nI a) (nI m) fl (nI x) (nI i) = some (nI (x * a ^ d)) := by
  intro d
  induction d with
  | zero =>
    intro i hi fl hfl x
    obtain ⟨fl, rfl⟩ : ∃ m, fl = m + 1 := ⟨fl - 1, by omega⟩
    have e : i = m := by omega
    subst e
    rw [x7_power_b4, x8_power_b4, if_pos (nI_le (Nat.le_refl _) (by omega)), if_pos (nI_le (Nat.le_refl _) (by omega)), Nat.pow_zero, Nat.mul_one]
    exact ⟨rfl, rfl⟩
  | succ d ih =>
    intro i hi fl hfl x
    obtain ⟨fl, rfl⟩ : ∃ m, fl = m + 1 := ⟨fl - 1, by omega⟩
    have e : x * a ^ (d + 1) = x * a * a ^ d := by rw [Nat.pow_succ, Nat.mul_assoc, Nat.mul_comm a]
    rw [x7_power_b4, x8_power_b4, if_neg (nI_ge (by omega) (by omega)), if_neg (nI_ge (by omega) (by omega)), pk_mul, show nI i + (1 : Int32) = nI (i + 1) from nI_1 i, e]
    exact ih (i + 1) (by omega) fl (by omega) (x * a)
theorem powX {m : Nat} (a : Nat) (hm : m < 50) (hN : 100 ≤ N) : x7_power N (nI a) (nI m) = some (nI (a ^ m)) := by
  have e := (powX_l (N := N) (a := a) (m := m) (by omega) m 0 (by omega) N (by omega) 1).1
  rw [Nat.one_mul] at e
  exact e
theorem powM {m : Nat} (a : Nat) (hm : m < 50) (hN : 100 ≤ N) : x8_power N (nI a) (nI m) = some (nI (a ^ m)) := by
  have e := (powX_l (N := N) (a := a) (m := m) (by omega) m 0 (by omega) N (by omega) 1).2
  rw [Nat.one_mul] at e
  exact e
/-- how many bits of six -/
def pc (S : Nat) : Nat := S % 2 + S / 2 % 2 + S / 4 % 2 + S / 8 % 2 + S / 16 % 2 + S / 32 % 2
theorem pc_le (S : Nat) : pc S ≤ 6 := by
  unfold pc
  omega
theorem bitcX {S : Nat} (h : S < 64) : j6_bitCount (nI S) = some (nI (pc S)) := by
  have z : ∀ a : Fin 64, j6_bitCount (nI a.val) = some (nI (pc a.val)) := by decide +kernel
  exact z ⟨S, h⟩
theorem manyM {S : Nat} (h : S < 64) (hN : 100 ≤ N) : x8_many N (nI S) = some (nI (pc S)) := by
  obtain ⟨M, rfl⟩ : ∃ M, N = M + 9 := ⟨N - 9, by omega⟩
  unfold x8_many
  rw [x8_many_b4, if_neg (by decide), x8_many_b4, if_neg (by decide), x8_many_b4, if_neg (by decide), x8_many_b4, if_neg (by decide), x8_many_b4, if_neg (by decide), x8_many_b4, if_neg (by decide), x8_many_b4, if_neg (by decide), x8_many_b4, if_neg (by decide), x8_many_b4, if_pos (by decide)]
  have z : ∀ a : Fin 64, (0 : Int32) + ((nI a.val >>> ((0 : Int32) &&& 31)) &&& 1) + ((nI a.val >>> ((0 + 1 : Int32) &&& 31)) &&& 1) + ((nI a.val >>> ((0 + 1 + 1 : Int32) &&& 31)) &&& 1) + ((nI a.val >>> ((0 + 1 + 1 + 1 : Int32) &&& 31)) &&& 1) + ((nI a.val >>> ((0 + 1 + 1 + 1 + 1 : Int32) &&& 31)) &&& 1) + ((nI a.val >>> ((0 + 1 + 1 + 1 + 1 + 1 : Int32) &&& 31)) &&& 1) + ((nI a.val >>> ((0 + 1 + 1 + 1 + 1 + 1 + 1 : Int32) &&& 31)) &&& 1) + ((nI a.val >>> ((0 + 1 + 1 + 1 + 1 + 1 + 1 + 1 : Int32) &&& 31)) &&& 1) = nI (pc a.val) := by decide +kernel
  exact congrArg some (z ⟨S, h⟩)
theorem sub64 {S T : Nat} (hS : S < 64) (hT : T < 64) (h : (nI S &&& (nI T ^^^ (-1 : Int32))) = 0) : S ≤ T ∧ pc S ≤ pc T := by
  have z : ∀ a b : Fin 64, (nI a.val &&& (nI b.val ^^^ (-1 : Int32))) = 0 → a.val ≤ b.val ∧ pc a.val ≤ pc b.val := by decide +kernel
  exact z ⟨S, hS⟩ ⟨T, hT⟩ h
/-- the first i jars, without those that g names -/
def outI (i : Nat) (g : Nat → Bool) (c : Nat → Nat → Nat) : Nat → Nat → Nat := fun j p => if p = 7 ∧ j < i ∧ g j = true then 2 else c j p
theorem outI_0 (g : Nat → Bool) (c : Nat → Nat → Nat) : outI 0 g c = c := by
  funext j p
  exact if_neg (fun z => by omega)
theorem outI_t {i : Nat} {g : Nat → Bool} {c : Nat → Nat → Nat} (h : g i = true) : setC (outI i g c) i 7 2 = outI (i + 1) g c := by
  funext j p
  unfold setC outI
  by_cases z : j = i ∧ p = 7
  · rw [if_pos z, if_pos ⟨z.2, by omega, by rw [z.1]; exact h⟩]
  · rw [if_neg z]
    by_cases y : p = 7 ∧ j < i ∧ g j = true
    · rw [if_pos y, if_pos ⟨y.1, by omega, y.2.2⟩]
    · rw [if_neg y, if_neg (fun q => y ⟨q.1, by omega, q.2.2⟩)]
theorem outI_f {i : Nat} {g : Nat → Bool} {c : Nat → Nat → Nat} (h : g i = false) : outI i g c = outI (i + 1) g c := by
  funext j p
  unfold outI
  by_cases y : p = 7 ∧ j < i ∧ g j = true
  · rw [if_pos y, if_pos ⟨y.1, by omega, y.2.2⟩]
  · rw [if_neg y, if_neg (fun q => y ⟨q.1, by
      by_cases e : j = i
      · rw [e, h] at q
        cases q.2.2
      · omega, q.2.2⟩)]
theorem Good.out {c : Nat → Nat → Nat} (hG : Good n c) (i : Nat) (g : Nat → Bool) : Good n (outI i g c) := by
  refine ⟨hG.1, fun j hj => ?_, fun a b ha hb p r e => ?_⟩
  · obtain ⟨g0, g1, g2, g3, g4, g4', g5, g6, g7⟩ := hG.2.1 j hj
    unfold outI
    rw [if_neg (by omega), if_neg (by omega), if_neg (by omega), if_neg (by omega), if_neg (by omega), if_neg (by omega), if_neg (by omega)]
    refine ⟨g0, g1, g2, g3, g4, g4', g5, g6, ?_⟩
    split <;> omega
  · have k : ∀ x, ¬ outI i g c x 7 = 2 → ¬ c x 7 = 2 := fun x h => by
      unfold outI at h
      split at h
      · exact absurd rfl h
      · exact h
    have k0 : ∀ x, outI i g c x 0 = c x 0 := fun x => if_neg (by omega)
    rw [k0, k0] at e
    exact hG.2.2 a b ha hb (k a p) (k b r) e
theorem cwoX {c : Nat → Nat → Nat} {f : Nat → Int32} {gone : Int32} {g : Nat → Bool} (hX : XR n c f) (hG : Good n c) (hg : ∀ j, j < 6 → x7_isIn gone (nI j) = some (bI (g j))) (hN : 100 ≤ N) (w tJ tW : Int32) (tf : Nat → Int32) : ∃ f', x2_copyWithout N tJ tW tf (nI n) w f gone = some (nI n, w, f') ∧ XR n (outI n g c) f' := by
  have hn := hG.n6
  obtain ⟨f1, x1, x2⟩ := copyX hX hn tJ tW tf w
  have loop : ∀ d i, i + d = n → ∀ fl, d < fl → ∀ y, XR n (outI i g c) y → ∃ f', x2_copyWithout_b7 N (nI n) w f gone fl (nI i) (nI n) w y = some (nI n, w, f') ∧ XR n (outI n g c) f' := by
    intro d
    induction d with
    | zero =>
      intro i hi fl hfl y hy
      obtain ⟨fl, rfl⟩ : ∃ m, fl = m + 1 := ⟨fl - 1, by omega⟩
      have e : i = n := by omega
      subst e
      rw [x2_copyWithout_b7, if_pos (nI_le (Nat.le_refl _) (by omega))]
      exact ⟨_, rfl, hy⟩
    | succ d ih =>
      intro i hi fl hfl y hy
      obtain ⟨fl, rfl⟩ : ∃ m, fl = m + 1 := ⟨fl - 1, by omega⟩
      rw [x2_copyWithout_b7, if_neg (nI_ge (by omega) (by omega)), hg i (by omega), gB1_s, show nI i + (1 : Int32) = nI (i + 1) from nI_1 i]
      cases h : g i with
      | false =>
        rw [if_pos (show bI false = (0 : Int32) from rfl)]
        exact ih (i + 1) (by omega) fl (by omega) y (by rw [← outI_f h]; exact hy)
      | true =>
        have ep : x2_put y (nI i) (7 : Int32) (2 : Int32) = some (upd y (8 * i + 7) (nI 2)) := put_eq (p := 7) (by omega) (by omega) (nI 2)
        rw [if_neg (show ¬ bI true = (0 : Int32) from by decide), ep, gB1_s]
        exact ih (i + 1) (by omega) fl (by omega) _ (by rw [← outI_t h]; exact hy.put (by omega) (by omega))
  unfold x2_copyWithout
  rw [x1, gB3_s]
  exact loop n 0 (by omega) N (by omega) f1 (by rw [outI_0]; exact x2)
end FRAC
