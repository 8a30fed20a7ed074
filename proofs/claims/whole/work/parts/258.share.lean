/-! PURE: share -/
section SHARE
variable {N n : Nat} {c : Nat → Nat → Nat} {f kd sz pg : Nat → Int32}
def fa : Nat → Nat
  | 0 => 1
  | i + 1 => (i + 1) * fa i
theorem ordX {m : Nat} (h : m ≤ 6) : x7_ordersOf (nI m) = some (nI (fa m)) := by
  have z : ∀ a : Fin 7, x7_ordersOf (nI a.val) = some (nI (fa a.val)) := by decide +kernel
  exact z ⟨m, by omega⟩
theorem ways_l {m : Nat} (hm : m ≤ 6) : ∀ d i, i + d = m → ∀ fl, d < fl → x8_ways_b4 N (nI m) fl (nI (fa i)) (nI (i + 1)) = some (nI (fa m)) := by
  intro d
  induction d with
  | zero =>
    intro i hi fl hfl
    obtain ⟨fl, rfl⟩ : ∃ m, fl = m + 1 := ⟨fl - 1, by omega⟩
    have e : i = m := by omega
    subst e
    rw [x8_ways_b4, if_pos (nI_lt (by omega) (by omega))]
  | succ d ih =>
    intro i hi fl hfl
    obtain ⟨fl, rfl⟩ : ∃ m, fl = m + 1 := ⟨fl - 1, by omega⟩
    rw [x8_ways_b4, if_neg (nI_nlt (by omega) (by omega)), pk_mul, show nI (i + 1) + (1 : Int32) = nI (i + 1 + 1) from nI_1 _, Nat.mul_comm]
    exact ih (i + 1) (by omega) fl (by omega)
theorem waysM {m : Nat} (hm : m ≤ 6) (hN : 100 ≤ N) : x8_ways N (nI m) = some (nI (fa m)) := by
  by_cases h : m = 0
  · subst h
    obtain ⟨M, rfl⟩ : ∃ M, N = M + 1 := ⟨N - 1, by omega⟩
    unfold x8_ways
    rw [x8_ways_b4, if_pos (by decide)]
    rfl
  · exact ways_l (N := N) hm (m - 1) 1 (by omega) N (by omega)
theorem termB {a b k l : Nat} (ha : a ≤ 6) (hb : b ≤ 6) (hk : k ≤ 6) (hl : l ≤ 6) : -3110400 ≤ (((nI a - nI b) * nI (fa k)) * nI (fa l)).toInt ∧ (((nI a - nI b) * nI (fa k)) * nI (fa l)).toInt ≤ 3110400 := by
  have z : ∀ a b k l : Fin 7, -3110400 ≤ (((nI a.val - nI b.val) * nI (fa k.val)) * nI (fa l.val)).toInt ∧ (((nI a.val - nI b.val) * nI (fa k.val)) * nI (fa l.val)).toInt ≤ 3110400 := by decide +kernel
  exact z ⟨a, by omega⟩ ⟨b, by omega⟩ ⟨k, by omega⟩ ⟨l, by omega⟩
theorem pcN {n S j : Nat} (hn : n ≤ 6) (hj : j < n) (hS : S < 2 ^ n) (h : S.testBit j = false) : pc S ≤ n - 1 := by
  have z : ∀ n : Fin 7, ∀ j : Fin 6, ∀ S : Fin 64, j.val < n.val → S.val < 2 ^ n.val → S.val.testBit j.val = false → pc S.val ≤ n.val - 1 := by decide +kernel
  have h64 := n64 hn
  exact z ⟨n, by omega⟩ ⟨j, by omega⟩ ⟨S, by omega⟩ hj hS h
/-- the bits of those that are seen -/
def smS (n : Nat) (c : Nat → Nat → Nat) : Nat → Nat
  | 0 => 0
  | i + 1 => smS n c i ||| (match seesS n c i with
    | some o => 2 ^ o
    | none => 0)
theorem smS_succ (n : Nat) (c : Nat → Nat → Nat) (i : Nat) : smS n c (i + 1) = smS n c i ||| (match seesS n c i with
    | some o => 2 ^ o
    | none => 0) := rfl
theorem smS_lt (hG : Good n c) : ∀ i, i ≤ n → smS n c i < 64
  | 0, _ => show (0 : Nat) < 64 from by decide
  | i + 1, h => by
    have h1 := smS_lt hG i (by omega)
    have hn := hG.n6
    rw [smS_succ]
    refine Nat.or_lt_two_pow (n := 6) h1 ?_
    cases e : seesS n c i with
    | none => decide
    | some o =>
      have := (sees_lt hG (show i < n from by omega) e).1
      exact Nat.pow_lt_pow_right (by omega) (by omega)
theorem orI {a o : Nat} (ho : o < 31) : nI a ||| ((1 : Int32) <<< (nI o &&& 31)) = nI (a ||| 2 ^ o) := by
  rw [← fa_or]
  congr 1
  exact shl1 ho
theorem cntX (hX : XR n c f) (hG : Good n c) (hN : 100 ≤ N) : x2_countSeen N (nI n) f = some (nI (pc (smS n c n))) := by
  have hn := hG.n6
  have loop : ∀ d i, i + d = n → ∀ fl, d < fl → x2_countSeen_b4 N (nI n) f fl (nI (smS n c i)) (nI i) = some (nI (pc (smS n c n))) := by
    intro d
    induction d with
    | zero =>
      intro i hi fl hfl
      obtain ⟨fl, rfl⟩ : ∃ m, fl = m + 1 := ⟨fl - 1, by omega⟩
      have e : i = n := by omega
      subst e
      rw [x2_countSeen_b4, if_pos (nI_le (Nat.le_refl _) (by omega)), bitcX (smS_lt hG i (Nat.le_refl _)), gB1_s]
    | succ d ih =>
      intro i hi fl hfl
      obtain ⟨fl, rfl⟩ : ∃ m, fl = m + 1 := ⟨fl - 1, by omega⟩
      have step := ih (i + 1) (by omega) fl (by omega)
      rw [smS_succ] at step
      rw [x2_countSeen_b4, if_neg (nI_ge (by omega) (by omega)), seesX hX hG (by omega) hN, gB1_s]
      unfold x2_countSeen_b32
      rw [show nI i + (1 : Int32) = nI (i + 1) from nI_1 i]
      cases e : seesS n c i with
      | none =>
        rw [oI_none, if_pos (show -nI 9 = (-9 : Int32) from rfl), show nI (smS n c i) ||| (0 : Int32) = nI (smS n c i ||| 0) from fa_or _ 0]
        rw [e] at step
        exact step
      | some o =>
        have ho := (sees_lt hG (show i < n from by omega) e).1
        rw [oI_some, if_neg (show ¬ nI o = (-9 : Int32) from ne9 (by omega)), orI (by omega)]
        rw [e] at step
        exact step
  exact loop n 0 (by omega) N (by omega)
theorem seenM {S : Nat} (hM : MR n c kd sz pg) (hG : Good n c) (hS : S < 64) (hN : 100 ≤ N) (sm : Int32) : x8_seenBy N (nI n) sm kd pg (nI S) = some (nI (pc (smS n (maskC S c) n)), nI 63) := by
  have hn := hG.n6
  have hGm := hG.mask S
  have loop : ∀ d i, i + d = n → ∀ fl, d < fl → x8_seenBy_b9 N (nI n) kd pg (nI S) fl (nI (smS n (maskC S c) i)) (nI i) (nI S) = some (nI (pc (smS n (maskC S c) n)), nI 63) := by
    intro d
    induction d with
    | zero =>
      intro i hi fl hfl
      obtain ⟨fl, rfl⟩ : ∃ m, fl = m + 1 := ⟨fl - 1, by omega⟩
      have e : i = n := by omega
      subst e
      rw [x8_seenBy_b9, if_pos (nI_le (Nat.le_refl _) (by omega)), manyM (smS_lt hGm i (Nat.le_refl _)) hN, gB1_s]
      rfl
    | succ d ih =>
      intro i hi fl hfl
      obtain ⟨fl, rfl⟩ : ∃ m, fl = m + 1 := ⟨fl - 1, by omega⟩
      have step := ih (i + 1) (by omega) fl (by omega)
      rw [smS_succ] at step
      rw [x8_seenBy_b9, if_neg (nI_ge (by omega) (by omega)), seesM hM hG (by omega) hS hN, gB1_s]
      unfold x8_seenBy_b44
      rw [show nI i + (1 : Int32) = nI (i + 1) from nI_1 i]
      cases e : seesS n (maskC S c) i with
      | none =>
        rw [oI_none, if_pos (show -nI 9 = (-9 : Int32) from rfl), show nI (smS n (maskC S c) i) ||| (0 : Int32) = nI (smS n (maskC S c) i ||| 0) from fa_or _ 0]
        rw [e] at step
        exact step
      | some o =>
        have ho := (sees_lt hGm (show i < n from by omega) e).1
        rw [oI_some, if_neg (show ¬ nI o = (-9 : Int32) from ne9 (by omega)), orI (by omega)]
        rw [e] at step
        exact step
  exact loop n 0 (by omega) N (by omega)
theorem notIn {S : Nat} (hS : S < 64) : ∀ j, j < 6 → x7_isIn (nI S ^^^ (-1 : Int32)) (nI j) = some (bI (!S.testBit j)) := fun j hj => by
  have z : ∀ s : Fin 64, ∀ j : Fin 6, x7_isIn (nI s.val ^^^ (-1 : Int32)) (nI j.val) = some (bI (!s.val.testBit j.val)) := by decide +kernel
  exact z ⟨S, hS⟩ ⟨j, hj⟩
theorem amongX {S : Nat} (hX : XR n c f) (hG : Good n c) (hS : S < 64) (hN : 100 ≤ N) (w tJ tW : Int32) (tf : Nat → Int32) : ∃ tf', x7_seenAmong N (nI n) w f tJ tW tf (nI S) = some (nI (pc (smS n (maskC S c) n)), nI n, w, tf') := by
  obtain ⟨f1, x1, x2⟩ := cwoX (N := N) hX hG (notIn hS) hN w tJ tW tf
  have x3 : XR n (maskC S c) f1 := x2.congr (fun j hj p _ => by
    unfold outI maskC
    by_cases z : p = 7 ∧ S.testBit j = false
    · rw [if_pos z, if_pos ⟨z.1, hj, by simp [z.2]⟩]
    · rw [if_neg z, if_neg (fun y => z ⟨y.1, by simpa using y.2.2⟩)])
  refine ⟨f1, ?_⟩
  unfold x7_seenAmong
  rw [x1, gB3_s, cntX x3 (hG.mask S) hN, gB1_s]
theorem valM_l {a1 a2 th : Int32} (hM : MR n c kd sz pg) (hG : Good n c) (hN : 100 ≤ N) : ∀ d S, S + d = 2 ^ n → ∀ fl, d < fl → ∀ sm v, (∀ s, s < S → v s = nI (pc (smS n (maskC s c) n))) → ∃ sm' v', (∀ s, s < 2 ^ n → v' s = nI (pc (smS n (maskC s c) n))) ∧ x8_share_b17 N (nI n) kd pg a1 a2 fl (nI S) th sm v = x8_share_b49 N (nI n) kd pg a1 a2 N (nI 0) (nI 0) th sm' v' := by
  have hn := hG.n6
  have h64 := n64 hn
  have es : (1 : Int32) <<< (nI n &&& 31) = nI (2 ^ n) := shl1 (by omega)
  intro d
  induction d with
  | zero =>
    intro S hS fl hfl sm v hv
    obtain ⟨fl, rfl⟩ : ∃ m, fl = m + 1 := ⟨fl - 1, by omega⟩
    refine ⟨sm, v, fun s hs => hv s (by omega), ?_⟩
    rw [x8_share_b17, es, if_pos (nI_le (by omega) (by omega))]
    rfl
  | succ d ih =>
    intro S hS fl hfl sm v hv
    obtain ⟨fl, rfl⟩ : ∃ m, fl = m + 1 := ⟨fl - 1, by omega⟩
    rw [x8_share_b17, es, if_neg (nI_ge (by omega) (by omega)), seenM hM hG (by omega) hN, gB2_s, gIn_t (by omega) (by omega), gChk_t, nI_clamp (by omega), show nI S + (1 : Int32) = nI (S + 1) from nI_1 S]
    exact ih (S + 1) (by omega) fl (by omega) _ _ (fun s hs => by
      by_cases e : s = S
      · rw [e, pk_us]
      · rw [pk_un e]
        exact hv s (by omega))
theorem bdstep {S K : Nat} {s x : Int} (h1 : -((S * K : Nat) : Int) ≤ s) (h2 : s ≤ ((S * K : Nat) : Int)) (h3 : -(K : Int) ≤ x) (h4 : x ≤ (K : Int)) : -(((S + 1) * K : Nat) : Int) ≤ s + x ∧ s + x ≤ (((S + 1) * K : Nat) : Int) := by
  rw [Nat.succ_mul]
  generalize S * K = P at *
  omega
theorem sha_l {j : Nat} {a1 a2 th w : Int32} {v : Nat → Int32} (hX : XR n c f) (hG : Good n c) (hj : j < n) (hv : ∀ s, s < 2 ^ n → v s = nI (pc (smS n (maskC s c) n))) (hN : 100 ≤ N) : ∀ d S, S + d = 2 ^ n → ∀ fl fl', d < fl → d < fl' → ∀ (s : Int32) tJ tW tf sm fx fy, -(S * 3110400 : Nat) ≤ s.toInt → s.toInt ≤ (S * 3110400 : Nat) → ∃ r tJ' tW' tf' fx' fy', x7_share_b39 N (nI n) w f a1 a2 fl (nI n) (nI (2 ^ n - 1)) (nI (2 ^ j)) s (nI S) tJ tW tf fx fy = some (r, tJ', tW', tf', fx', fy') ∧ x8_share_b49 N (nI n) kd pg (nI j) a2 fl' s (nI S) th sm v = some (r, th, sm, v) := by
  have hn := hG.n6
  have h64 := n64 hn
  have hp := Nat.two_pow_pos n
  have es : (1 : Int32) <<< (nI n &&& 31) = nI (2 ^ n) := shl1 (by omega)
  have ej : (1 : Int32) <<< (nI j &&& 31) = nI (2 ^ j) := shl1 (by omega)
  have hj2 : 2 ^ j < 2 ^ n := Nat.pow_lt_pow_right (by omega) hj
  intro d
  induction d with
  | zero =>
    intro S hS fl fl' hfl hfl' s tJ tW tf sm fx fy b1 b2
    obtain ⟨fl, rfl⟩ : ∃ m, fl = m + 1 := ⟨fl - 1, by omega⟩
    obtain ⟨fl', rfl⟩ : ∃ m, fl' = m + 1 := ⟨fl' - 1, by omega⟩
    have hfa : ∀ m : Fin 7, 0 < fa m.val ∧ fa m.val < 2 ^ 24 := by decide
    obtain ⟨f1, f2⟩ := hfa ⟨n, by omega⟩
    obtain ⟨A, B, q1, q2⟩ := fracs (N := N) (u := s) (by omega) (by omega) f1 f2 hN fx fy a2
    rw [x7_share_b39, x8_share_b49, es, if_pos (nI_lt (by omega) (by omega)), if_pos (nI_le (by omega) (by omega)), ordX hn, waysM hn hN, gB1_s, gB1_s, show x1_make N fx fy s (nI (fa n)) = _ from q1, show x8_fraction N s (nI (fa n)) a2 = _ from q2, gB2_s, gB1_s]
    unfold x1_told
    by_cases z : a2 = 0
    · rw [if_pos z, if_pos z]
      exact ⟨_, _, _, _, _, _, rfl, rfl⟩
    · rw [if_neg z, if_neg z]
      exact ⟨_, _, _, _, _, _, rfl, rfl⟩
  | succ d ih =>
    intro S hS fl fl' hfl hfl' s tJ tW tf sm fx fy b1 b2
    obtain ⟨fl, rfl⟩ : ∃ m, fl = m + 1 := ⟨fl - 1, by omega⟩
    obtain ⟨fl', rfl⟩ : ∃ m, fl' = m + 1 := ⟨fl' - 1, by omega⟩
    have hS64 : S < 64 := by omega
    rw [x7_share_b39, x8_share_b49, es, ej, if_neg (show ¬ nI (2 ^ n - 1) < nI S from nI_nlt (by omega) (by omega)), if_neg (nI_ge (by omega) (by omega)), hasM8 (by omega) (by omega), gB1_s, show nI S + (1 : Int32) = nI (S + 1) from nI_1 S]
    have hb := fa_bit (n := S) (j := j) (by omega)
    cases h : S.testBit j with
    | true =>
      rw [if_neg (fun z => by rw [hb.mp z] at h; cases h), if_neg (show ¬ bI true = (0 : Int32) from by decide)]
      refine ih (S + 1) (by omega) fl fl' (by omega) (by omega) s tJ tW tf sm fx fy ?_ ?_
      · have q := (bdstep (K := 3110400) (x := 0) b1 b2 (by decide) (by decide)).1
        rw [Int.add_zero] at q
        exact q
      · have q := (bdstep (K := 3110400) (x := 0) b1 b2 (by decide) (by decide)).2
        rw [Int.add_zero] at q
        exact q
    | false =>
      have hpc := pcN hn hj (show S < 2 ^ n from by omega) h
      have hor : S ||| 2 ^ j < 2 ^ n := Nat.or_lt_two_pow (by omega) hj2
      obtain ⟨t1, x1⟩ := amongX (N := N) (S := S ||| 2 ^ j) hX hG (by omega) hN w tJ tW tf
      obtain ⟨t2, x2⟩ := amongX (N := N) (S := S) hX hG hS64 hN w (nI n) w t1
      have e1 : nI n - (1 : Int32) = nI (n - 1) := pk_sub (b := 1) (by omega)
      have t := termB (a := pc (smS n (maskC (S ||| 2 ^ j) c) n)) (b := pc (smS n (maskC S c) n)) (k := pc S) (l := n - 1 - pc S) (pc_le _) (pc_le _) (by omega) (by omega)
      have em : (nI (fa (pc S)) * nI (fa (n - 1 - pc S))) * (nI (pc (smS n (maskC (S ||| 2 ^ j) c) n)) - nI (pc (smS n (maskC S c) n))) = ((nI (pc (smS n (maskC (S ||| 2 ^ j) c) n)) - nI (pc (smS n (maskC S c) n))) * nI (fa (pc S))) * nI (fa (n - 1 - pc S)) := by
        rw [Int32.mul_comm, Int32.mul_assoc]
      rw [if_pos (hb.mpr h), if_pos (show bI false = (0 : Int32) from rfl), bitcX hS64, gB1_s, fa_or, x1, gB4_s, x2, gB4_s, ordX (by omega), gB1_s, e1, pk_sub hpc, ordX (by omega), gB1_s, manyM hS64 hN, gB1_s, waysM (by omega) hN, gB1_s, pk_sub hpc, waysM (by omega) hN, gB1_s, gIn_t (by omega) (by omega), gChk_t, gIn_t (by omega) (by omega), gChk_t, nI_clamp (by omega), nI_clamp (by omega), hv _ hor, hv S (by omega), em]
      generalize ((nI (pc (smS n (maskC (S ||| 2 ^ j) c) n)) - nI (pc (smS n (maskC S c) n))) * nI (fa (pc S))) * nI (fa (n - 1 - pc S)) = x at t
      have ea : (s + x).toInt = s.toInt + x.toInt := fb_addI (by omega) (by omega)
      refine ih (S + 1) (by omega) fl fl' (by omega) (by omega) (s + x) (nI n) w t2 sm fx fy ?_ ?_ <;> rw [ea]
      · exact (bdstep (K := 3110400) b1 b2 t.1 t.2).1
      · exact (bdstep (K := 3110400) b1 b2 t.1 t.2).2
theorem st_share {w J W Jm : Int32} {v : Nat → Int32} (hS : SH n c w J W f Jm kd sz pg) {th sm tJ tW fx fy : Int32} {tf : Nat → Int32} (hN : 2000 ≤ N) (a1 a2 : Int32) : ∃ r tJ' tW' tf' fx' fy' s' v', x7_share N J W f tJ tW tf fx fy a1 a2 = some (r, tJ', tW', tf', fx', fy') ∧ x8_share N th Jm sm kd pg v a1 a2 = some (r, 0, s', v') := by
  obtain ⟨hG, hX, rfl, rfl, hM, rfl, h36⟩ := hS
  have hn := hG.n6
  have h64 := n64 hn
  unfold x7_share x8_share
  rcases jarC hn a1 with ⟨q1, q2⟩ | ⟨j, hj, rfl, q1, q2⟩
  · rw [q1, q2]
    exact ⟨_, _, _, _, _, _, _, _, rfl, rfl⟩
  · have es : (1 : Int32) <<< (nI n &&& 31) = nI (2 ^ n) := shl1 (by omega)
    have ej : (1 : Int32) <<< (nI j &&& 31) = nI (2 ^ j) := shl1 (by omega)
    have e1 : nI (2 ^ n) - (1 : Int32) = nI (2 ^ n - 1) := pk_sub (b := 1) (Nat.two_pow_pos n)
    unfold x2_jars
    rw [q1, q2, gB1_s, if_neg n10, gB1_s, gB1_s, if_pos n00, es, ej, e1]
    obtain ⟨sm', v', z1, z2⟩ := valM_l (N := N) (a1 := nI j) (a2 := a2) (th := 0) hM hG (by omega) (2 ^ n) 0 (by omega) N (by omega) sm v (fun s hs => by omega)
    obtain ⟨r, tJ', tW', tf', fx', fy', e2, e3⟩ := sha_l (N := N) (kd := kd) (pg := pg) (a1 := nI j) (a2 := a2) (th := 0) (w := W) hX hG hj z1 (by omega) (2 ^ n) 0 (by omega) N N (by omega) (by omega) (nI 0) tJ tW tf sm' fx fy (by decide) (by decide)
    exact ⟨r, tJ', tW', tf', fx', fy', sm', v', e2, z2.trans e3⟩
end SHARE
