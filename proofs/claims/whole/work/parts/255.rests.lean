/-! PURE: rests -/
section RESTS
variable {N n : Nat} {c c' : Nat → Nat → Nat}
/-- whom one sees doesn't hang on how others look -/
theorem atS_cg (h : ∀ k p, ¬ p = 6 → c k p = c' k p) (q : Nat) : ∀ n, atS c q n = atS c' q n
  | 0 => rfl
  | n + 1 => by rw [atS_succ, atS_succ, atS_cg h q n, h n 7 (by omega), h n 0 (by omega)]
theorem scanL_cg (h : ∀ k p, ¬ p = 6 → c k p = c' k p) (n : Nat) : ∀ q, scanL c n q = scanL c' n q
  | 0 => rfl
  | q + 1 => by rw [scanL_succ, scanL_succ, atS_cg h q n, scanL_cg h n q]
theorem scanR_succ (n : Nat) (c : Nat → Nat → Nat) (t : Nat) : scanR c n (t + 1) = (match atS c (7 - t) n with
  | some o => some o
  | none => scanR c n t) := rfl
theorem scanR_cg (h : ∀ k p, ¬ p = 6 → c k p = c' k p) (n : Nat) : ∀ t, scanR c n t = scanR c' n t
  | 0 => rfl
  | t + 1 => by rw [scanR_succ, scanR_succ, atS_cg h (7 - t) n, scanR_cg h n t]
theorem sees_cg (h : ∀ k p, ¬ p = 6 → c k p = c' k p) {j : Nat} (h6 : c j 6 = c' j 6) : seesS n c j = seesS n c' j := by
  have e1 : nearS n c j = nearS n c' j := by
    unfold nearS
    rw [h6, h j 0 (by omega), scanL_cg h n, scanR_cg h n]
  have e2 : ∀ o, clr c j o = clr c' j o := fun o => by
    unfold clr hzS
    rw [h j 3 (by omega), h j 0 (by omega), h j 5 (by omega), h o 0 (by omega), h o 7 (by omega), h o 5 (by omega)]
  unfold seesS
  rw [h j 7 (by omega), e1]
  simp only [e2]
theorem oI_eq {s : Option Nat} {b : Nat} (hs : ∀ o, s = some o → o < 1000) (hb : b < 1000) : oI s = nI b ↔ s = some b := by
  cases s with
  | none =>
    rw [oI_none]
    exact ⟨fun z => absurd z (ne9' (by omega)), fun z => by cases z⟩
  | some o =>
    rw [oI_some]
    have := hs o rfl
    exact ⟨fun z => by rw [(nI_eq (by omega) (by omega)).mp z], fun z => by injection z with z; rw [z]⟩
def al (p : Nat → Bool) : Nat → Bool
  | 0 => true
  | i + 1 => al p i && p i
theorem al_succ (p : Nat → Bool) (i : Nat) : al p (i + 1) = (al p i && p i) := rfl
theorem al_no {p : Nat → Bool} {i : Nat} (h : al p i = false) : ∀ d, al p (i + d) = false
  | 0 => h
  | d + 1 => by rw [← Nat.add_assoc, al_succ, al_no h d]; rfl
theorem al_and (p q : Nat → Bool) : ∀ n, al (fun i => p i && q i) n = (al p n && al q n)
  | 0 => rfl
  | n + 1 => by
    rw [al_succ, al_succ, al_succ, al_and p q n]
    cases al p n <;> cases al q n <;> cases p n <;> cases q n <;> rfl
theorem al_cg {p q : Nat → Bool} : ∀ {n : Nat}, (∀ i, i < n → p i = q i) → al p n = al q n
  | 0, _ => rfl
  | n + 1, h => by rw [al_succ, al_succ, al_cg (fun i hi => h i (by omega)), h n (by omega)]
def lk (s : Nat → Bool) : Nat → Nat
  | 0 => 0
  | i + 1 => if s i = true then lk s i ||| 2 ^ i else lk s i
theorem lk_bit (s : Nat → Bool) (o : Nat) : ∀ m, (lk s m).testBit o = (decide (o < m) && s o)
  | 0 => by simp [lk]
  | m + 1 => by
    rw [lk]
    by_cases h : s m = true
    · rw [if_pos h, fb_bit_set, lk_bit s o m]
      by_cases e : o = m
      · subst e
        simp [h]
      · by_cases l : o < m
        · simp [e, l, show o < m + 1 from by omega]
        · simp [e, l, show ¬ o < m + 1 from by omega]
    · rw [if_neg h, lk_bit s o m]
      by_cases e : o = m
      · subst e
        simp [Bool.eq_false_iff.mpr h]
      · by_cases l : o < m
        · simp [l, show o < m + 1 from by omega]
        · simp [l, show ¬ o < m + 1 from by omega]
theorem lk_lt (s : Nat → Bool) : ∀ m, lk s m < 2 ^ m
  | 0 => Nat.zero_lt_one
  | m + 1 => by
    rw [lk]
    have h1 := lk_lt s m
    have h2 : 2 ^ m < 2 ^ (m + 1) := Nat.pow_lt_pow_right (by omega) (by omega)
    split
    · exact Nat.or_lt_two_pow (by omega) h2
    · omega
def pt (s seen : Bool) (look : Nat) : Nat := (if s = true then 3 else 0) + (if seen = true then 0 else 1) + (if look = 1 then 1 else 0)
theorem pt_lt (s seen : Bool) (look : Nat) : pt s seen look < 10 := by
  unfold pt
  split <;> split <;> split <;> omega
theorem ptX (s seen : Bool) {look : Nat} (h : look < 4) : x7_points (bI s) (bI seen) (nI look) = some (nI (pt s seen look)) := by
  have z : ∀ (a b : Bool) (x : Fin 4), x7_points (bI a) (bI b) (nI x.val) = some (nI (pt a b x.val)) := by decide +kernel
  exact z s seen ⟨look, h⟩
theorem ptM (s seen : Bool) {look : Nat} (h : look < 4) : x8_gain (bI s) (bI seen) (nI look) = some (nI (pt s seen look)) := by
  have z : ∀ (a b : Bool) (x : Fin 4), x8_gain (bI a) (bI b) (nI x.val) = some (nI (pt a b x.val)) := by decide +kernel
  exact z s seen ⟨look, h⟩
/-- is look x best -/
def bst (P : Nat) (x : Nat) (seen : Bool) : Bool := al (fun o => decide (pt (P.testBit o) seen o ≤ pt (P.testBit x) seen x)) 4
theorem best_l {P h : Nat} {a1 : Int32} {seen : Bool} (hP : P < 16) (hh : h < 10) : ∀ d i, i + d = 4 → ∀ fl, d < fl → al (fun o => decide (pt (P.testBit o) seen o ≤ h)) i = true → x7_isBest_b14 N (nI P) a1 (bI seen) fl (nI h) (nI i) = some (bI (al (fun o => decide (pt (P.testBit o) seen o ≤ h)) 4)) := by
  intro d
  induction d with
  | zero =>
    intro i hi fl hfl ha
    obtain ⟨fl, rfl⟩ : ∃ m, fl = m + 1 := ⟨fl - 1, by omega⟩
    have e : i = 4 := by omega
    subst e
    rw [x7_isBest_b14, if_pos (show (4 : Int32) ≤ nI 4 from by decide), ha]
    rfl
  | succ d ih =>
    intro i hi fl hfl ha
    obtain ⟨fl, rfl⟩ : ∃ m, fl = m + 1 := ⟨fl - 1, by omega⟩
    have p10 := pt_lt (P.testBit i) seen i
    rw [x7_isBest_b14, if_neg (show ¬ (4 : Int32) ≤ nI i from nI_ge (a := i) (b := 4) (by omega) (by omega)), isInX (by omega) (by omega), gB1_s, ptX _ _ (by omega), gB1_s]
    by_cases z : pt (P.testBit i) seen i ≤ h
    · rw [if_pos (nI_le z (by omega)), show nI i + (1 : Int32) = nI (i + 1) from nI_1 i]
      exact ih (i + 1) (by omega) fl (by omega) (by rw [al_succ, ha, decide_eq_true z]; rfl)
    · rw [if_neg (nI_ge (by omega) (by omega))]
      have e : al (fun o => decide (pt (P.testBit o) seen o ≤ h)) (i + 1) = false := by rw [al_succ, decide_eq_false z, Bool.and_false]
      have e2 := al_no e d
      rw [show i + 1 + d = 4 from by omega] at e2
      rw [e2]
      rfl
theorem bestX {P x : Nat} {seen : Bool} (hP : P < 16) (hx : x < 4) (hN : 100 ≤ N) : x7_isBest N (nI P) (nI x) (bI seen) = some (bI (bst P x seen)) := by
  unfold x7_isBest
  rw [isInX (by omega) (by omega), gB1_s, ptX _ _ hx, gB1_s]
  exact best_l hP (pt_lt _ _ _) 4 0 (by omega) N (by omega) rfl
def rsS (P1 P2 k : Nat) : Bool := bst P1 (k / 4) (P2.testBit (k % 4)) && bst P2 (k % 4) (P1.testBit (k / 4))
theorem bI_0 (b : Bool) : (bI b = (0 : Int32)) ↔ b = false := by cases b <;> decide
section CLS
variable {nJ nW a1 a2 a3 : Int32} {nf : Nat → Int32} {P1 P2 many : Nat} {first : Int32}
theorem restX_s {fl k : Nat} (h1 : P1 < 16) (h2 : P2 < 16) (hm : many < 100) (hk : k < 16) (hN : 100 ≤ N) {tJ tW : Int32} {tf : Nat → Int32} : x7_rests_b92 N nJ nW nf a1 a2 a3 (fl + 1) (nI P1) (nI P2) (nI many) first (nI k) tJ tW tf = x7_rests_b92 N nJ nW nf a1 a2 a3 fl (nI P1) (nI P2) (nI (many + if rsS P1 P2 k = true then 1 else 0)) (if rsS P1 P2 k = true ∧ many = 0 then nI (10 * (k / 4) + k % 4) else first) (nI (k + 1)) tJ tW tf := by
  have d1 : nI k / (4 : Int32) = nI (k / 4) := pk_div (d := 4) (by omega) (by omega) (by omega)
  have d2 : nI k - nI (k / 4) * (4 : Int32) = nI (k % 4) := remN2 k (d := 4)
  have d3 : (10 : Int32) * nI (k / 4) + nI (k % 4) = nI (10 * (k / 4) + k % 4) := by
    rw [← nI_add, ← pk_mul]
    rfl
  rw [x7_rests_b92, if_neg (show ¬ (16 : Int32) ≤ nI k from nI_ge (a := k) (b := 16) hk (by omega)), d1, d2, d3, isInX (by omega) (by omega), gB1_s, bestX h1 (by omega) hN, gB1_s, show nI k + (1 : Int32) = nI (k + 1) from nI_1 k]
  unfold rsS x7_rests_b163
  cases e1 : bst P1 (k / 4) (P2.testBit (k % 4)) with
  | false =>
    rw [if_pos (show bI false = (0 : Int32) from rfl), Bool.false_and, if_neg (by decide), if_neg (fun q => by cases q.1)]
    rfl
  | true =>
    rw [if_neg (show ¬ bI true = (0 : Int32) from by decide), isInX (by omega) (by omega), gB1_s, bestX h2 (by omega) hN, gB1_s, Bool.true_and]
    cases e2 : bst P2 (k % 4) (P1.testBit (k / 4)) with
    | false =>
      rw [if_pos (show bI false = (0 : Int32) from rfl), if_neg (by decide), if_neg (fun q => by cases q.1)]
      rfl
    | true =>
      rw [if_neg (show ¬ bI true = (0 : Int32) from by decide), if_pos rfl, show nI many + (1 : Int32) = nI (many + 1) from nI_1 many, show nI k + (1 : Int32) = nI (k + 1) from nI_1 k]
      by_cases z : many = 0
      · rw [if_pos (show nI many = (0 : Int32) from eqn 0 z), if_pos ⟨rfl, z⟩]
      · rw [if_neg (show ¬ nI many = (0 : Int32) from nq 0 (by omega) (by omega) z), if_neg (fun q => z q.2)]
end CLS
section MOD
variable {J a1 a2 a3 th sm : Int32} {kd pg tr g : Nat → Int32} {P1 P2 many : Nat} {first : Int32}
def GA (P1 P2 : Nat) (m : Nat) (g : Nat → Int32) : Prop := ∀ k, k < m → g (2 * k) = nI (pt (P1.testBit (k / 4)) (P2.testBit (k % 4)) (k / 4)) ∧ g (2 * k + 1) = nI (pt (P2.testBit (k % 4)) (P1.testBit (k / 4)) (k % 4))
def rp (P1 P2 k : Nat) (o : Nat) : Bool := decide (pt (P1.testBit o) (P2.testBit (k % 4)) o ≤ pt (P1.testBit (k / 4)) (P2.testBit (k % 4)) (k / 4)) && decide (pt (P2.testBit o) (P1.testBit (k / 4)) o ≤ pt (P2.testBit (k % 4)) (P1.testBit (k / 4)) (k % 4))
theorem rp_al (P1 P2 k : Nat) : al (rp P1 P2 k) 4 = rsS P1 P2 k := al_and _ _ 4
theorem restM_i {k : Nat} (hg : GA P1 P2 16 g) (hm : many < 100) (hk : k < 16) (k208 : Int32 → Int32 → Int32 → Int32 → Int32 → (Nat → Int32) → (Nat → Int32) → Option (Int32 × (Int32) × (Int32) × (Int32) × (Int32) × (Nat → Int32) × (Nat → Int32))) : ∀ d i, i + d = 4 → ∀ fl, d < fl → x8_rests_b221 N J kd pg a1 a2 a3 k208 fl (nI k) (bI (al (rp P1 P2 k) i)) (nI i) th sm (nI many) first tr g = k208 (nI (k + 1)) th sm (nI (many + if rsS P1 P2 k = true then 1 else 0)) (if rsS P1 P2 k = true ∧ many = 0 then nI (10 * (k / 4) + k % 4) else first) tr g := by
  have d1 : nI k / (4 : Int32) = nI (k / 4) := pk_div (d := 4) (by omega) (by omega) (by omega)
  have d2 : nI k - nI (k / 4) * (4 : Int32) = nI (k % 4) := remN2 k (d := 4)
  have d3 : (10 : Int32) * nI (k / 4) + nI (k % 4) = nI (10 * (k / 4) + k % 4) := by
    rw [← nI_add, ← pk_mul]
    rfl
  intro d
  induction d with
  | zero =>
    intro i hi fl hfl
    obtain ⟨fl, rfl⟩ : ∃ m, fl = m + 1 := ⟨fl - 1, by omega⟩
    have e : i = 4 := by omega
    subst e
    rw [x8_rests_b221, if_pos (show (4 : Int32) ≤ nI 4 from by decide), rp_al, d1, d2, d3]
    unfold x8_rests_b334 x8_rests_b338 x8_rests_b356
    rw [show nI k + (1 : Int32) = nI (k + 1) from nI_1 k]
    cases h : rsS P1 P2 k with
    | true =>
      rw [if_neg (show ¬ bI true = (0 : Int32) from by decide), if_neg (show ¬ bI true = (0 : Int32) from by decide), if_neg (show ¬ bI true = (0 : Int32) from by decide), show nI many + (1 : Int32) = nI (many + 1) from nI_1 _, if_pos rfl]
      by_cases z : many = 0
      · rw [if_pos (show nI many = (0 : Int32) from eqn 0 z), if_pos ⟨rfl, z⟩]
      · rw [if_neg (show ¬ nI many = (0 : Int32) from nq 0 (by omega) (by omega) z), if_neg (fun q => z q.2)]
    | false =>
      rw [if_pos (show bI false = (0 : Int32) from rfl), if_pos (show bI false = (0 : Int32) from rfl), show nI many + (0 : Int32) = nI (many + 0) from nI_add _ 0, if_neg (by decide), if_neg (fun q => by cases q.1)]
  | succ d ih =>
    intro i hi fl hfl
    obtain ⟨fl, rfl⟩ : ∃ m, fl = m + 1 := ⟨fl - 1, by omega⟩
    have step := ih (i + 1) (by omega) fl (by omega)
    rw [al_succ] at step
    rw [x8_rests_b221, if_neg (show ¬ (4 : Int32) ≤ nI i from nI_ge (a := i) (b := 4) (by omega) (by omega))]
    unfold x8_rests_b297
    rw [show nI i + (1 : Int32) = nI (i + 1) from nI_1 i]
    cases h : al (rp P1 P2 k) i with
    | true =>
      rw [h, Bool.true_and] at step
      have g1 := (hg k hk).1
      have g2 := (hg k hk).2
      have g3 := (hg (4 * i + k % 4) (by omega)).1
      have g4 := (hg (k - k % 4 + i) (by omega)).2
      rw [show (4 * i + k % 4) / 4 = i from by omega, show (4 * i + k % 4) % 4 = k % 4 from by omega] at g3
      rw [show (k - k % 4 + i) / 4 = k / 4 from by omega, show (k - k % 4 + i) % 4 = i from by omega] at g4
      have p1 := pt_lt (P1.testBit (k / 4)) (P2.testBit (k % 4)) (k / 4)
      have p2 := pt_lt (P2.testBit (k % 4)) (P1.testBit (k / 4)) (k % 4)
      have p3 := pt_lt (P1.testBit i) (P2.testBit (k % 4)) i
      have p4 := pt_lt (P2.testBit i) (P1.testBit (k / 4)) i
      have e1 : (2 : Int32) * nI k = nI (2 * k) := pk_mul 2 k
      have e2 : (2 : Int32) * ((4 : Int32) * nI i + nI (k % 4)) = nI (2 * (4 * i + k % 4)) := by
        rw [← pk_mul, ← nI_add, ← pk_mul]
        rfl
      have e3 : nI (2 * k) + (1 : Int32) = nI (2 * k + 1) := nI_1 _
      have e4 : (2 : Int32) * (nI k - nI (k % 4) + nI i) + (1 : Int32) = nI (2 * (k - k % 4 + i) + 1) := by
        rw [pk_sub (show k % 4 ≤ k from by omega), ← nI_add, ← pk_mul, ← nI_add]
        rfl
      rw [if_neg (show ¬ bI true = (0 : Int32) from by decide), d1, d2, e1, e2, e3, e4]
      simp (disch := omega) only [gIn_t, gChk_t, nI_clamp, g1, g2, g3, g4, nI_ltI]
      unfold rp at step
      by_cases z1 : pt (P1.testBit (k / 4)) (P2.testBit (k % 4)) (k / 4) < pt (P1.testBit i) (P2.testBit (k % 4)) i
      · rw [if_pos z1]
        rw [decide_eq_false (show ¬ pt (P1.testBit i) (P2.testBit (k % 4)) i ≤ pt (P1.testBit (k / 4)) (P2.testBit (k % 4)) (k / 4) from by omega), Bool.false_and] at step
        exact step
      · rw [if_neg z1]
        rw [decide_eq_true (show pt (P1.testBit i) (P2.testBit (k % 4)) i ≤ pt (P1.testBit (k / 4)) (P2.testBit (k % 4)) (k / 4) from by omega), Bool.true_and] at step
        by_cases z2 : pt (P2.testBit (k % 4)) (P1.testBit (k / 4)) (k % 4) < pt (P2.testBit i) (P1.testBit (k / 4)) i
        · rw [if_pos z2]
          rw [decide_eq_false (show ¬ pt (P2.testBit i) (P1.testBit (k / 4)) i ≤ pt (P2.testBit (k % 4)) (P1.testBit (k / 4)) (k % 4) from by omega)] at step
          exact step
        · rw [if_neg z2]
          rw [decide_eq_true (show pt (P2.testBit i) (P1.testBit (k / 4)) i ≤ pt (P2.testBit (k % 4)) (P1.testBit (k / 4)) (k % 4) from by omega)] at step
          exact step
    | false =>
      rw [if_pos (show bI false = (0 : Int32) from rfl)]
      rw [h, Bool.false_and] at step
      exact step
/-- the two loops over 16 pairs -/
theorem rest_l {nJ nW tJ tW : Int32} {nf tf : Nat → Int32} (h1 : P1 < 16) (h2 : P2 < 16) (hg : GA P1 P2 16 g) (hN : 100 ≤ N) : ∀ d k, k + d = 16 → ∀ fl fl', d < fl → d < fl' → ∀ many first, many ≤ k → ∃ r r1 r2, x7_rests_b92 N nJ nW nf a1 a2 a3 fl (nI P1) (nI P2) (nI many) first (nI k) tJ tW tf = some (r, tJ, tW, tf) ∧ x8_rests_b208 N J kd pg a1 a2 a3 fl' (nI k) th sm (nI many) first tr g = some (r, th, sm, r1, r2, tr, g) := by
  intro d
  induction d with
  | zero =>
    intro k hk fl fl' hfl hfl' many first hm
    obtain ⟨fl, rfl⟩ : ∃ m, fl = m + 1 := ⟨fl - 1, by omega⟩
    obtain ⟨fl', rfl⟩ : ∃ m, fl' = m + 1 := ⟨fl' - 1, by omega⟩
    have e : k = 16 := by omega
    subst e
    rw [x7_rests_b92, x8_rests_b208, if_pos (show (16 : Int32) ≤ nI 16 from by decide), if_pos (show (16 : Int32) ≤ nI 16 from by decide)]
    by_cases z : a3 = 0
    · rw [if_pos z, if_pos z]
      exact ⟨_, _, _, rfl, rfl⟩
    · rw [if_neg z, if_neg z]
      exact ⟨_, _, _, rfl, rfl⟩
  | succ d ih =>
    intro k hk fl fl' hfl hfl' many first hm
    obtain ⟨fl, rfl⟩ : ∃ m, fl = m + 1 := ⟨fl - 1, by omega⟩
    obtain ⟨fl', rfl⟩ : ∃ m, fl' = m + 1 := ⟨fl' - 1, by omega⟩
    have inn := restM_i (N := N) (J := J) (a1 := a1) (a2 := a2) (a3 := a3) (th := th) (sm := sm) (kd := kd) (pg := pg) (tr := tr) (first := first) (k := k) hg (many := many) (by omega) (by omega) (x8_rests_b208 N J kd pg a1 a2 a3 fl') 4 0 (by omega) N (by omega)
    rw [restX_s h1 h2 (by omega) (by omega) hN, x8_rests_b208, if_neg (show ¬ (16 : Int32) ≤ nI k from nI_ge (a := k) (b := 16) (by omega) (by omega)), show x8_rests_b221 N J kd pg a1 a2 a3 (x8_rests_b208 N J kd pg a1 a2 a3 fl') N (nI k) 1 0 th sm (nI many) first tr g = _ from inn]
    exact ih (k + 1) (by omega) fl fl' (by omega) (by omega) _ _ (by split <;> omega)
end MOD
section LOOK
variable {J a3 th : Int32} {f kd sz pg : Nat → Int32} {a b : Nat}
/-- a look of a with which a sees b -/
def sw (n : Nat) (c : Nat → Nat → Nat) (a b x : Nat) : Bool := decide (seesS n (maskC 63 (setC c a 6 x)) a = some b)
theorem Good.look (hG : Good n c) {x : Nat} (hx : x < 4) : Good n (setC c a 6 x) := hG.put (by omega)
theorem sees_1000 (hG : Good n c) (ha : a < n) : ∀ o, seesS n c a = some o → o < 1000 := fun o h => by
  have := (sees_lt hG ha h).1
  have := hG.n6
  omega
theorem lookX_l {nJ nW w : Int32} {nf : Nat → Int32} (hG : Good n c) (ha : a < n) (hb : b < n) (hN : 100 ≤ N) : ∀ d i, i + d = 4 → ∀ fl, d < fl → ∀ x y, XR n (setC c a 6 x) y → ∃ y', x7_looksThatSee_b16 N nJ nW nf (nI a) (nI b) fl (nI (lk (sw n c a b) i)) (nI i) (nI n) w y = some (nI (lk (sw n c a b) 4), nI n, w, y') := by
  have hn := hG.n6
  intro d
  induction d with
  | zero =>
    intro i hi fl hfl x y hX
    obtain ⟨fl, rfl⟩ : ∃ m, fl = m + 1 := ⟨fl - 1, by omega⟩
    have e : i = 4 := by omega
    subst e
    rw [x7_looksThatSee_b16, if_pos (show (4 : Int32) ≤ nI 4 from by decide)]
    exact ⟨_, rfl⟩
  | succ d ih =>
    intro i hi fl hfl x y hX
    obtain ⟨fl, rfl⟩ : ∃ m, fl = m + 1 := ⟨fl - 1, by omega⟩
    have hX1 : XR n (setC (setC c a 6 x) a 6 i) (upd y (8 * a + 6) (nI i)) := hX.put ha (by omega)
    have hX2 : XR n (setC c a 6 i) (upd y (8 * a + 6) (nI i)) := hX1.congr (fun j _ p _ => by
      unfold setC
      by_cases z : j = a ∧ p = 6
      · rw [if_pos z, if_pos z]
      · rw [if_neg z, if_neg z, if_neg z])
    have hG2 : Good n (setC c a 6 i) := hG.look (by omega)
    have eT : x2_turn y (nI a) (nI i) = some (upd y (8 * a + 6) (nI i)) := by
      unfold x2_turn
      simp (disch := omega) only [li, put_eq, gB1_s]
    have hs := oI_eq (sees_1000 (hG2.mask 63) ha) (show b < 1000 from by omega)
    rw [x7_looksThatSee_b16, if_neg (show ¬ (4 : Int32) ≤ nI i from nI_ge (a := i) (b := 4) (by omega) (by omega)), eT, gB1_s, seesX (hX2.m63 hn) (hG2.mask 63) ha hN, gB1_s, show nI i + (1 : Int32) = nI (i + 1) from nI_1 i]
    by_cases z : seesS n (maskC 63 (setC c a 6 i)) a = some b
    · have e : lk (sw n c a b) (i + 1) = lk (sw n c a b) i ||| 2 ^ i := by
        rw [lk, if_pos (show sw n c a b i = true from decide_eq_true z)]
      have q : nI (lk (sw n c a b) i) ||| ((1 : Int32) <<< (nI i &&& 31)) = nI (lk (sw n c a b) i ||| 2 ^ i) := by
        rw [← fa_or]
        congr 1
        exact shl1 (by omega)
      rw [if_pos (hs.mpr z), q, ← e]
      exact ih (i + 1) (by omega) fl (by omega) i _ hX2
    · have e : lk (sw n c a b) (i + 1) = lk (sw n c a b) i := by
        rw [lk, if_neg (show ¬ sw n c a b i = true from fun y => z (of_decide_eq_true y))]
      rw [if_neg (fun y => z (hs.mp y)), ← e]
      exact ih (i + 1) (by omega) fl (by omega) i _ hX2
theorem looksX {w tJ tW : Int32} {tf : Nat → Int32} (hX : XR n c f) (hG : Good n c) (ha : a < n) (hb : b < n) (hN : 100 ≤ N) : ∃ y', x7_looksThatSee N (nI n) w f tJ tW tf (nI a) (nI b) = some (nI (lk (sw n c a b) 4), nI n, w, y') := by
  obtain ⟨f1, x1, x2⟩ := copyX hX hG.n6 tJ tW tf w
  have x3 : XR n (setC c a 6 (c a 6)) f1 := x2.congr (fun j _ p _ => by
    unfold setC
    by_cases z : j = a ∧ p = 6
    · rw [if_pos z, z.1, z.2]
    · rw [if_neg z])
  unfold x7_looksThatSee
  rw [x1, gB3_s]
  exact lookX_l hG ha hb hN 4 0 (by omega) N (by omega) (c a 6) f1 x3
theorem gainM_l (hM : MR n c kd sz pg) (hG : Good n c) (ha : a < n) (hb : b < n) (hab : ¬ a = b) (hN : 100 ≤ N) {rm rf : Int32} : ∀ d k, k + d = 16 → ∀ fl, d < fl → ∀ sm tr g, GA (lk (sw n c a b) 4) (lk (sw n c b a) 4) k g → ∃ sm' tr' g', GA (lk (sw n c a b) 4) (lk (sw n c b a) 4) 16 g' ∧ x8_rests_b69 N (nI n) kd pg (nI a) (nI b) a3 fl (nI k) th sm rm rf tr g = x8_rests_b208 N (nI n) kd pg (nI a) (nI b) a3 N (nI 0) th sm' (nI 0) (-nI 9) tr' g' := by
  have hn := hG.n6
  intro d
  induction d with
  | zero =>
    intro k hk fl hfl sm tr g hg
    obtain ⟨fl, rfl⟩ : ∃ m, fl = m + 1 := ⟨fl - 1, by omega⟩
    have e : k = 16 := by omega
    subst e
    refine ⟨sm, tr, g, hg, ?_⟩
    rw [x8_rests_b69, if_pos (show (16 : Int32) ≤ nI 16 from by decide)]
    rfl
  | succ d ih =>
    intro k hk fl hfl sm tr g hg
    obtain ⟨fl, rfl⟩ : ∃ m, fl = m + 1 := ⟨fl - 1, by omega⟩
    obtain ⟨t1, y1, y2, -⟩ := beginM (N := N) hM hn hN sm tr
    have d1 : nI k / (4 : Int32) = nI (k / 4) := pk_div (d := 4) (by omega) (by omega) (by omega)
    have d2 : nI k - nI (k / 4) * (4 : Int32) = nI (k % 4) := remN2 k (d := 4)
    have y3 : MR n (setC (setC c a 6 (k / 4)) b 6 (k % 4)) kd sz (upd (upd t1 (24 + a) (nI (k / 4))) (24 + b) (nI (k % 4))) := (y2.put hn ha 6 24 (by omega)).put hn hb 6 24 (by omega)
    have hG3 : Good n (setC (setC c a 6 (k / 4)) b 6 (k % 4)) := (hG.look (by omega)).look (by omega)
    have ea : seesS n (maskC 63 (setC (setC c a 6 (k / 4)) b 6 (k % 4))) a = seesS n (maskC 63 (setC c a 6 (k / 4))) a := by
      refine sees_cg (fun i p hp => ?_) ?_
      · unfold maskC
        rw [setC_ne (by omega)]
      · unfold maskC
        rw [setC_ne (by omega)]
    have eb : seesS n (maskC 63 (setC (setC c a 6 (k / 4)) b 6 (k % 4))) b = seesS n (maskC 63 (setC c b 6 (k % 4))) b := by
      refine sees_cg (fun i p hp => ?_) ?_
      · unfold maskC
        rw [setC_ne (by omega), setC_ne (by omega), setC_ne (by omega)]
      · unfold maskC
        rw [setC_eq, setC_eq]
    have s1 := seesM (N := N) (s := 63) y3 hG3 ha (by omega) hN
    have s2 := seesM (N := N) (s := 63) y3 hG3 hb (by omega) hN
    rw [ea] at s1
    rw [eb] at s2
    have q1 := oI_eq (sees_1000 ((hG.look (a := a) (x := k / 4) (by omega)).mask 63) ha) (show b < 1000 from by omega)
    have q2 := oI_eq (sees_1000 ((hG.look (a := b) (x := k % 4) (by omega)).mask 63) hb) (show a < 1000 from by omega)
    have b1 : (lk (sw n c a b) 4).testBit (k / 4) = sw n c a b (k / 4) := by
      rw [lk_bit, decide_eq_true (show k / 4 < 4 from by omega), Bool.true_and]
    have b2 : (lk (sw n c b a) 4).testBit (k % 4) = sw n c b a (k % 4) := by
      rw [lk_bit, decide_eq_true (show k % 4 < 4 from by omega), Bool.true_and]
    have gnew : GA (lk (sw n c a b) 4) (lk (sw n c b a) 4) (k + 1) (upd (upd g (2 * k) (nI (pt (sw n c a b (k / 4)) (sw n c b a (k % 4)) (k / 4)))) (2 * k + 1) (nI (pt (sw n c b a (k % 4)) (sw n c a b (k / 4)) (k % 4)))) := fun i hi => by
      by_cases e : i = k
      · subst e
        rw [pk_us, pk_un (by omega), pk_us, b1, b2]
        exact ⟨rfl, rfl⟩
      · rw [pk_un (by omega), pk_un (by omega), pk_un (by omega), pk_un (by omega)]
        exact hg i (by omega)
    obtain ⟨sm', tr', g', z1, z2⟩ := ih (k + 1) (by omega) fl (by omega) (nI 63) _ _ gnew
    refine ⟨sm', tr', g', z1, ?_⟩
    rw [← z2, x8_rests_b69, if_neg (show ¬ (16 : Int32) ≤ nI k from nI_ge (a := k) (b := 16) (by omega) (by omega)), y1, gB2_s, d1, d2]
    have e24a : (24 : Int32) + nI a = nI (24 + a) := nI_add 24 a
    have e24b : (24 : Int32) + nI b = nI (24 + b) := nI_add 24 b
    rw [e24a, e24b, gIn_t (by omega) (by omega), gChk_t, gIn_t (by omega) (by omega), gChk_t, nI_clamp (by omega), nI_clamp (by omega), s1, gB1_s]
    have e144 : ∀ (u v : Bool), x8_rests_b144 N (nI n) kd pg (nI a) (nI b) a3 (x8_rests_b69 N (nI n) kd pg (nI a) (nI b) a3 fl) (nI k) (bI u) (bI v) th (nI 63) rm rf (upd (upd t1 (24 + a) (nI (k / 4))) (24 + b) (nI (k % 4))) g = x8_rests_b69 N (nI n) kd pg (nI a) (nI b) a3 fl (nI (k + 1)) th (nI 63) rm rf (upd (upd t1 (24 + a) (nI (k / 4))) (24 + b) (nI (k % 4))) (upd (upd g (2 * k) (nI (pt u v (k / 4)))) (2 * k + 1) (nI (pt v u (k % 4)))) := fun u v => by
      unfold x8_rests_b144
      have e1 : (2 : Int32) * nI k = nI (2 * k) := pk_mul 2 k
      have e3 : nI (2 * k) + (1 : Int32) = nI (2 * k + 1) := nI_1 _
      rw [d1, d2, ptM _ _ (by omega), gB1_s, e1, e3, gIn_t (by omega) (by omega), gChk_t, ptM _ _ (by omega), gB1_s, gIn_t (by omega) (by omega), gChk_t, nI_clamp (by omega), nI_clamp (by omega), show nI k + (1 : Int32) = nI (k + 1) from nI_1 k]
    have e124 : ∀ (u : Bool), x8_rests_b124 N (nI n) kd pg (nI a) (nI b) a3 (x8_rests_b69 N (nI n) kd pg (nI a) (nI b) a3 fl) (nI k) (bI u) th (nI 63) rm rf (upd (upd t1 (24 + a) (nI (k / 4))) (24 + b) (nI (k % 4))) g = x8_rests_b144 N (nI n) kd pg (nI a) (nI b) a3 (x8_rests_b69 N (nI n) kd pg (nI a) (nI b) a3 fl) (nI k) (bI u) (bI (sw n c b a (k % 4))) th (nI 63) rm rf (upd (upd t1 (24 + a) (nI (k / 4))) (24 + b) (nI (k % 4))) g := fun u => by
      unfold x8_rests_b124
      rw [s2, gB1_s]
      by_cases z : seesS n (maskC 63 (setC c b 6 (k % 4))) b = some a
      · rw [if_pos (q2.mpr z), show sw n c b a (k % 4) = true from decide_eq_true z]
        rfl
      · rw [if_neg (fun y => z (q2.mp y)), show sw n c b a (k % 4) = false from decide_eq_false z]
        rfl
    by_cases z : seesS n (maskC 63 (setC c a 6 (k / 4))) a = some b
    · have sz : sw n c a b (k / 4) = true := decide_eq_true z
      rw [if_pos (q1.mpr z), sz]
      exact (e124 true).trans (e144 true _)
    · have sz : sw n c a b (k / 4) = false := decide_eq_false z
      rw [if_neg (fun y => z (q1.mp y)), sz]
      exact (e124 false).trans (e144 false _)
end LOOK
theorem st_rests {w J W Jm : Int32} {f kd sz pg tr g : Nat → Int32} (hS : SH n c w J W f Jm kd sz pg) {th sm tJ tW rm rf : Int32} {tf : Nat → Int32} (hN : 2000 ≤ N) (a1 a2 a3 : Int32) : ∃ r tJ' tW' tf' s' rm' rf' tr' g', x7_rests N J W f tJ tW tf a1 a2 a3 = some (r, tJ', tW', tf') ∧ x8_rests N th Jm sm rm rf kd pg tr g a1 a2 a3 = some (r, 0, s', rm', rf', tr', g') := by
  obtain ⟨hG, hX, rfl, rfl, hM, rfl, h36⟩ := hS
  have hn := hG.n6
  unfold x7_rests x8_rests
  rcases jarC hn a1 with ⟨q1, q2⟩ | ⟨a, ha, rfl, q1, q2⟩
  · rw [q1, q2]
    exact ⟨_, _, _, _, _, _, _, _, _, rfl, rfl⟩
  · rw [q1, q2, gB1_s, gB1_s, if_neg n10, if_pos n00]
    rcases jarC hn a2 with ⟨q3, q4⟩ | ⟨b, hb, rfl, q3, q4⟩
    · rw [q3, q4]
      exact ⟨_, _, _, _, _, _, _, _, _, rfl, rfl⟩
    · rw [q3, q4, gB1_s, gB1_s, if_neg n10, if_pos n00]
      by_cases hab : a = b
      · rw [if_pos (by rw [hab]), if_pos (by rw [hab])]
        exact ⟨_, _, _, _, _, _, _, _, _, rfl, rfl⟩
      · have nab : ¬ nI a = nI b := nq b (by omega) (by omega) hab
        rw [if_neg nab, if_neg nab]
        rcases inC 0 1 (by omega) (by omega) a3 with z | ⟨u, -, hu, rfl, g3, g4⟩
        · rw [r_bad' (lo := (0 : Int32)) (hi := (1 : Int32)) z, in_f 0 1 (by decide) (by decide) z]
          exact ⟨_, _, _, _, _, _, _, _, _, rfl, rfl⟩
        · rw [r_ok' (lo := (0 : Int32)) (hi := (1 : Int32)) g3 g4, in_t 0 1 (by decide) (by decide) g3 g4, gB1_s, if_neg n10]
          have ga := (hG.2.1 a ha).2.2.2.2.2.2.2.2
          have gb := (hG.2.1 b hb).2.2.2.2.2.2.2.2
          by_cases z1 : c a 7 = 0
          · rw [wholeX_t hX ha hn z1, wholeM_t hM ha hn z1, gB1_s, gB1_s, if_neg n10, if_neg n10]
            by_cases z2 : c b 7 = 0
            · rw [wholeX_t hX hb hn z2, wholeM_t hM hb hn z2, gB1_s, gB1_s, if_neg n10, if_neg n10]
              obtain ⟨y1, e1⟩ := looksX (N := N) (w := W) (tJ := tJ) (tW := tW) (tf := tf) hX hG ha hb (by omega)
              rw [e1, gB4_s]
              obtain ⟨y2, e2⟩ := looksX (N := N) (w := W) (tJ := nI n) (tW := W) (tf := y1) hX hG hb ha (by omega)
              rw [e2, gB4_s]
              obtain ⟨sm', tr', g', e3, e4⟩ := gainM_l (N := N) (a3 := nI u) (th := 0) (rm := rm) (rf := rf) hM hG ha hb hab (by omega) 16 0 (by omega) N (by omega) sm tr g (fun k hk => by omega)
              obtain ⟨r, r1, r2, e5, e6⟩ := rest_l (N := N) (J := nI n) (a1 := nI a) (a2 := nI b) (a3 := nI u) (th := 0) (sm := sm') (kd := kd) (pg := pg) (tr := tr') (nJ := nI n) (nW := W) (nf := f) (tJ := nI n) (tW := W) (tf := y2) (lk_lt (sw n c a b) 4) (lk_lt (sw n c b a) 4) e3 (by omega) 16 0 (by omega) N N (by omega) (by omega) 0 (-nI 9) (by omega)
              exact ⟨r, nI n, W, y2, sm', r1, r2, tr', g', e5, e4.trans e6⟩
            · rw [wholeX_f hX hb hn gb z2, wholeM_f hM hb hn gb z2]
              exact ⟨_, _, _, _, _, _, _, _, _, rfl, rfl⟩
          · rw [wholeX_f hX ha hn ga z1, wholeM_f hM ha hn ga z1]
            exact ⟨_, _, _, _, _, _, _, _, _, rfl, rfl⟩
end RESTS
