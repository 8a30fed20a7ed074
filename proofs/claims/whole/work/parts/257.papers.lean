/-! PURE: papers -/
section PAPERS
variable {N n : Nat} {c : Nat → Nat → Nat} {f kd sz pg : Nat → Int32}
theorem isIn64 {S : Nat} (hS : S < 64) : ∀ j, j < 6 → x7_isIn (nI S) (nI j) = some (bI (S.testBit j)) := fun j hj => isInX (by omega) (by omega)
theorem pwX {S : Nat} (hX : XR n c f) (hG : Good n c) (hS : S < 64) (hN : 100 ≤ N) (w tJ tW : Int32) (tf ts : Nat → Int32) : ∃ tf' ts', x7_pairsWithout N (nI n) w f tJ tW tf ts (nI S) = some (nI (pmS n (maskC 63 (outI n S.testBit c)) n), nI n, w, tf', ts') := by
  obtain ⟨f1, x1, x2⟩ := cwoX (N := N) hX hG (isIn64 hS) hN w tJ tW tf
  obtain ⟨ts', x3⟩ := pairsX (N := N) (x2.m63 hG.n6) ((hG.out n S.testBit).mask 63) hN ts
  refine ⟨f1, ts', ?_⟩
  unfold x7_pairsWithout
  rw [x1, gB3_s, x3, gB2_s]
theorem papM_i {S T u pw : Nat} {a1 a3 th : Int32} (hG : Good n c) (hS : S < 64) (hN : 100 ≤ N) (k56 : Int32 → Int32 → Int32 → Int32 → Int32 → Int32 → (Nat → Int32) → Option (Int32 × (Int32) × (Int32) × (Nat → Int32))) (hu : u ≤ 10) (hpw : pc S ≤ pw) (hpw6 : pw ≤ 6) {t : Nat} : ∀ d i, i + d = n → ∀ fl, d < fl → ∀ tr, MR n (outI i S.testBit c) kd sz tr → ∃ tr', x8_papers_b84 N (nI n) kd pg a1 (nI u) a3 k56 fl (nI T) (nI pw) (nI t) (nI S) (nI i) th (nI 63) tr = k56 (nI T) (nI pw) (nI (t + if nI (pmS n (maskC 63 (outI n S.testBit c)) n) < a1 then 0 else u ^ pc S * (10 - u) ^ (pw - pc S))) (nI (S + 1)) th (nI 63) tr' := by
  have hn := hG.n6
  have hpc := pc_le S
  intro d
  induction d with
  | zero =>
    intro i hi fl hfl tr hM
    obtain ⟨fl, rfl⟩ : ∃ m, fl = m + 1 := ⟨fl - 1, by omega⟩
    have e : i = n := by omega
    subst e
    refine ⟨tr, ?_⟩
    have eu : (10 : Int32) - nI u = nI (10 - u) := pk_sub (a := 10) hu
    rw [x8_papers_b84, if_pos (nI_le (Nat.le_refl _) (by omega)), manyM hS hN, gB1_s, pairsM hM (hG.out i S.testBit) (by omega) hN, gB1_s]
    unfold x8_papers_b177
    rw [show nI S + (1 : Int32) = nI (S + 1) from nI_1 S]
    by_cases z : nI (pmS i (maskC 63 (outI i S.testBit c)) i) < a1
    · rw [if_pos z, if_pos z, show nI t + (0 : Int32) = nI (t + 0) from nI_add t 0]
    · rw [if_neg z, if_neg z, powM u (by omega) hN, gB1_s, eu, pk_sub hpw, powM (10 - u) (by omega) hN, gB1_s, pk_mul, nI_add]
  | succ d ih =>
    intro i hi fl hfl tr hM
    obtain ⟨fl, rfl⟩ : ∃ m, fl = m + 1 := ⟨fl - 1, by omega⟩
    have e30 : (30 : Int32) + nI i = nI (30 + i) := nI_add 30 i
    rw [x8_papers_b84, if_neg (nI_ge (by omega) (by omega)), hasM8 (by omega) (by omega), gB1_s, e30]
    unfold x8_papers_b126
    rw [gIn_t (by omega) (by omega), gChk_t, gChk_t, nI_clamp (by omega), show nI i + (1 : Int32) = nI (i + 1) from nI_1 i]
    cases h : S.testBit i with
    | false =>
      rw [if_pos (show bI false = (0 : Int32) from rfl), fa_upd_same rfl]
      exact ih (i + 1) (by omega) fl (by omega) tr (by rw [← outI_f h]; exact hM)
    | true =>
      rw [if_neg (show ¬ bI true = (0 : Int32) from by decide)]
      exact ih (i + 1) (by omega) fl (by omega) _ (by rw [← outI_t h]; exact hM.put hn (by omega) 7 30 (by omega))
theorem bits_lt (st : Nat) (c : Nat → Nat → Nat) : ∀ n, bitsS st c n < 2 ^ n
  | 0 => Nat.zero_lt_one
  | n + 1 => by
    have h1 := bits_lt st c n
    have h2 : 2 ^ n < 2 ^ (n + 1) := Nat.pow_lt_pow_right (by omega) (by omega)
    unfold bitsS
    split
    · exact Nat.or_lt_two_pow (by omega) h2
    · first | exact Nat.or_lt_two_pow (by omega) (Nat.two_pow_pos _) | omega
theorem n64 (hn : n ≤ 6) : 2 ^ n ≤ 64 := Nat.pow_le_pow_right (n := 2) (by omega) hn
theorem papM_n {T pw : Nat} {a1 a2 a3 th : Int32} (hn : n ≤ 6) (hT : T < 2 ^ n) {t : Nat} : ∀ d S, S + d = 2 ^ n → T < S → ∀ fl, d < fl → ∀ sm tr, x8_papers_b56 N (nI n) kd pg a1 a2 a3 fl (nI T) (nI pw) (nI t) (nI S) th sm tr = gB1 (x8_power N (10 : Int32) (nI pw)) (fun r17 => gB1 (x8_fraction N (nI t) r17 a3) (fun r19 => some (r19, th, sm, tr))) := by
  have h64 := n64 hn
  have es : (1 : Int32) <<< (nI n &&& 31) = nI (2 ^ n) := shl1 (by omega)
  intro d
  induction d with
  | zero =>
    intro S hS hTS fl hfl sm tr
    obtain ⟨fl, rfl⟩ : ∃ m, fl = m + 1 := ⟨fl - 1, by omega⟩
    rw [x8_papers_b56, es, if_pos (nI_le (by omega) (by omega))]
  | succ d ih =>
    intro S hS hTS fl hfl sm tr
    obtain ⟨fl, rfl⟩ : ∃ m, fl = m + 1 := ⟨fl - 1, by omega⟩
    rw [x8_papers_b56, es, if_neg (nI_ge (by omega) (by omega)), if_neg (fun z => by
      have := (sub64 (by omega) (by omega) z).1
      omega), show nI S + (1 : Int32) = nI (S + 1) from nI_1 S]
    exact ih (S + 1) (by omega) (by omega) fl (by omega) sm tr
theorem pow10 {u a b : Nat} (hu : u ≤ 10) (h : a + b ≤ 6) : u ^ a * (10 - u) ^ b ≤ 1000000 := by
  have h1 : u ^ a ≤ 10 ^ a := Nat.pow_le_pow_left hu a
  have h2 : (10 - u) ^ b ≤ 10 ^ b := Nat.pow_le_pow_left (by omega) b
  have h3 : u ^ a * (10 - u) ^ b ≤ 10 ^ a * 10 ^ b := Nat.mul_le_mul h1 h2
  rw [← Nat.pow_add] at h3
  have h4 : 10 ^ (a + b) ≤ 10 ^ 6 := Nat.pow_le_pow_right (by omega) h
  omega
theorem pap_l {T u : Nat} {a1 a3 th w : Int32} (hX : XR n c f) (hM : MR n c kd sz pg) (hG : Good n c) (hT : T < 2 ^ n) (hu : u ≤ 10) (hN : 100 ≤ N) : ∀ d S, S + d = T + 1 → ∀ fl fl', d < fl → d + 2 ^ n < fl' → ∀ t tJ tW tf ts sm tr fa fb, t ≤ S * 1000000 → ∃ r tJ' tW' tf' ts' fa' fb' sm' tr', x7_papers_b45 N (nI n) w f a1 (nI u) a3 fl (nI T) (nI (pc T)) (nI t) (nI S) tJ tW tf ts fa fb = some (r, tJ', tW', tf', ts', fa', fb') ∧ x8_papers_b56 N (nI n) kd pg a1 (nI u) a3 fl' (nI T) (nI (pc T)) (nI t) (nI S) th sm tr = some (r, th, sm', tr') := by
  have hn := hG.n6
  have h64 := n64 hn
  have hpT := pc_le T
  intro d
  induction d with
  | zero =>
    intro S hS fl fl' hfl hfl' t tJ tW tf ts sm tr fa fb ht
    obtain ⟨fl, rfl⟩ : ∃ m, fl = m + 1 := ⟨fl - 1, by omega⟩
    have e := papM_n (N := N) (kd := kd) (pg := pg) (pw := pc T) (a1 := a1) (a2 := nI u) (a3 := a3) (th := th) hn hT (t := t) (2 ^ n - S) S (by omega) (by omega) fl' (by omega) sm tr
    rw [e, x7_papers_b45, if_pos (nI_lt (by omega) (by omega)), show x7_power N (10 : Int32) (nI (pc T)) = _ from powX 10 (by omega) hN, show x8_power N (10 : Int32) (nI (pc T)) = _ from powM 10 (by omega) hN, gB1_s, gB1_s]
    have hL : 0 < 10 ^ pc T := Nat.pow_pos (by omega)
    have hL2 : 10 ^ pc T ≤ 10 ^ 6 := Nat.pow_le_pow_right (by omega) hpT
    obtain ⟨A, B, q1, q2⟩ := fracs (N := N) (u := nI t) (by rw [nI_toInt (by omega)]; omega) (by rw [nI_toInt (by omega)]; omega) hL (by omega) hN fa fb a3
    rw [q1, q2, gB2_s, gB1_s]
    unfold x1_told
    by_cases z : a3 = 0
    · rw [if_pos z, if_pos z]
      exact ⟨_, _, _, _, _, _, _, _, _, rfl, rfl⟩
    · rw [if_neg z, if_neg z]
      exact ⟨_, _, _, _, _, _, _, _, _, rfl, rfl⟩
  | succ d ih =>
    intro S hS fl fl' hfl hfl' t tJ tW tf ts sm tr fa fb ht
    obtain ⟨fl, rfl⟩ : ∃ m, fl = m + 1 := ⟨fl - 1, by omega⟩
    obtain ⟨fl', rfl⟩ : ∃ m, fl' = m + 1 := ⟨fl' - 1, by omega⟩
    have es : (1 : Int32) <<< (nI n &&& 31) = nI (2 ^ n) := shl1 (by omega)
    have hpS := pc_le S
    have ht2 : t ≤ (S + 1) * 1000000 := Nat.le_trans ht (Nat.mul_le_mul_right _ (Nat.le_succ S))
    rw [x7_papers_b45, x8_papers_b56, es, if_neg (show ¬ nI T < nI S from nI_nlt (by omega) (by omega)), if_neg (nI_ge (by omega) (by omega))]
    by_cases z : (nI S &&& (nI T ^^^ (-1 : Int32))) = 0
    · obtain ⟨-, hpp⟩ := sub64 (by omega) (by omega) z
      obtain ⟨tf1, ts1, x1⟩ := pwX (N := N) hX hG (S := S) (by omega) hN w tJ tW tf ts
      obtain ⟨t1, y1, y2, -⟩ := beginM (N := N) hM hn hN sm tr
      rw [if_pos z, if_pos z, x1, gB5_s, y1, gB2_s]
      obtain ⟨tr', y3⟩ := papM_i (N := N) (kd := kd) (sz := sz) (pg := pg) (T := T) (a1 := a1) (a3 := a3) (th := th) hG (S := S) (by omega) hN (x8_papers_b56 N (nI n) kd pg a1 (nI u) a3 fl') hu hpp hpT (t := t) n 0 (by omega) N (by omega) t1 (by rw [outI_0]; exact y2)
      rw [show x8_papers_b84 N (nI n) kd pg a1 (nI u) a3 (x8_papers_b56 N (nI n) kd pg a1 (nI u) a3 fl') N (nI T) (nI (pc T)) (nI t) (nI S) 0 th (nI 63) t1 = _ from y3, show nI S + (1 : Int32) = nI (S + 1) from nI_1 S]
      by_cases z2 : nI (pmS n (maskC 63 (outI n S.testBit c)) n) < a1
      · rw [if_pos z2, if_pos z2]
        exact ih (S + 1) (by omega) fl fl' (by omega) (by omega) t _ _ _ _ _ _ _ _ ht2
      · have hb := pow10 (u := u) (a := pc S) (b := pc T - pc S) hu (by omega)
        have eu : (10 : Int32) - nI u = nI (10 - u) := pk_sub (a := 10) hu
        rw [if_neg z2, if_neg z2, bitcX (by omega), gB1_s, powX u (by omega) hN, gB1_s, eu, pk_sub hpp, powX (10 - u) (by omega) hN, gB1_s, pk_mul, nI_add]
        have ht3 : t + u ^ pc S * (10 - u) ^ (pc T - pc S) ≤ (S + 1) * 1000000 := (Nat.succ_mul S 1000000).symm ▸ Nat.add_le_add ht hb
        exact ih (S + 1) (by omega) fl fl' (by omega) (by omega) _ _ _ _ _ _ _ _ _ ht3
    · rw [if_neg z, if_neg z, show nI S + (1 : Int32) = nI (S + 1) from nI_1 S]
      exact ih (S + 1) (by omega) fl fl' (by omega) (by omega) t _ _ _ _ _ _ _ _ ht2
theorem st_papers {w J W Jm : Int32} {tr : Nat → Int32} (hS : SH n c w J W f Jm kd sz pg) {th sm tJ tW fa fb : Int32} {tf ts : Nat → Int32} (hN : 2000 ≤ N) (a1 a2 a3 : Int32) : ∃ r tJ' tW' tf' ts' fa' fb' s' tr', x7_papers N J W f tJ tW tf ts fa fb a1 a2 a3 = some (r, tJ', tW', tf', ts', fa', fb') ∧ x8_papers N th Jm sm kd pg tr a1 a2 a3 = some (r, 0, s', tr') := by
  obtain ⟨hG, hX, rfl, rfl, hM, rfl, h36⟩ := hS
  have hn := hG.n6
  have h64 := n64 hn
  unfold x7_papers x8_papers
  rcases inC 0 3 (by omega) (by omega) a1 with z | ⟨m, -, hm, rfl, g1, g2⟩
  · rw [r_bad (lo := (0 : Int32)) (hi := (3 : Int32)) z, in_f 0 3 (by decide) (by decide) z]
    exact ⟨_, _, _, _, _, _, _, _, _, rfl, rfl⟩
  · rw [r_ok (lo := (0 : Int32)) (hi := (3 : Int32)) g1 g2, in_t 0 3 (by decide) (by decide) g1 g2, gB1_s, if_neg n10]
    rcases inC 0 10 (by omega) (by omega) a2 with z | ⟨u, -, hu, rfl, g3, g4⟩
    · rw [r_bad' (lo := (0 : Int32)) (hi := (10 : Int32)) z, in_f 0 10 (by decide) (by decide) z]
      exact ⟨_, _, _, _, _, _, _, _, _, rfl, rfl⟩
    · have hT := bits_lt 0 c n
      rw [r_ok' (lo := (0 : Int32)) (hi := (10 : Int32)) g3 g4, in_t 0 10 (by decide) (by decide) g3 g4, gB1_s, if_neg n10, show x2_bitsOf N (nI n) f (0 : Int32) = _ from bitsX (st := 0) hX hG (by omega) (by omega), show x8_thatAre N (nI n) pg (0 : Int32) = _ from bitsM (st := 0) hM hG (by omega) (by omega), gB1_s, gB1_s, bitcX (by omega), manyM (by omega) (by omega), gB1_s, gB1_s]
      obtain ⟨r, tJ', tW', tf', ts', fa', fb', sm', tr', e1, e2⟩ := pap_l (N := N) (a1 := nI m) (a3 := a3) (th := 0) (w := W) hX hM hG hT hu (by omega) (bitsS 0 c n + 1) 0 (by omega) N N (by omega) (by omega) 0 tJ tW tf ts sm tr fa fb (by omega)
      exact ⟨r, tJ', tW', tf', ts', fa', fb', sm', tr', e1, e2⟩
end PAPERS
