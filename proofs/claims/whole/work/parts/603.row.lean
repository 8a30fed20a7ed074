/-! PURE: row -/
section ROW
variable {N n : Nat} {c : Nat → Nat → Nat} {kd sz pg : Nat → Int32}
abbrev gL (n : Nat) (c : Nat → Nat → Nat) (L : List Nat) : Nat → Nat := fun i => en (wp n c) 8 (gd L i)
abbrev rL (n : Nat) (c : Nat → Nat → Nat) (L : List Nat) : Nat := pmS n (maskC 63 (pC (gL n c L) c)) n
def bnd (n : Nat) (c : Nat → Nat → Nat) : Nat := if fb_ct (lkp c 2) n < fb_ct (lkp c 0) n then fb_ct (lkp c 2) n else fb_ct (lkp c 0) n
theorem rL_le (hG : Good n c) {L : List Nat} (hP : PM (fb_ct (wh c) n) L) : rL n c L ≤ bnd n c := by
  have hn := hG.n6
  have h := pm_le ((hG.pC hP).mask 63)
  have e : ∀ look, fb_ct (lkp (maskC 63 (pC (gL n c L) c)) look) n = fb_ct (lkp c look) n := fun look => fb_ct_cong (fun j hj => by
    rw [← lkp_pC (c := c) (gL n c L) look j]
    unfold lkp wh
    rw [mask_63 hn _ j hj 7 (by omega), mask_63 hn _ j hj 6 (by omega)])
  rw [e, e] at h
  unfold bnd
  split
  · exact h.2
  · exact h.1
theorem bnd_le (n : Nat) (c : Nat → Nat → Nat) : bnd n c ≤ n := by
  unfold bnd
  have := fb_ct_le (lkp c 2) n
  have := fb_ct_le (lkp c 0) n
  split <;> omega
section LOOPS
variable {m : Nat}
theorem rowTail (hM : MR n c kd sz pg) (hG : Good n c) (hm : m = fb_ct (wh c) n) (h1 : 1 ≤ m) (hN : 100 ≤ N) {spM : Nat → Int32} (hmv : ∀ k, k < m → spM k = nI (en (wh c) n k)) {M : Nat} (hM1 : bnd n c ≤ M) (hM2 : M < 1000) {way : Int32} : ∀ k L, stp m k L = true → PM m L → ∀ fl, k < fl → ∀ sm tr od, AR m (en (wp n c) 8) L od → ∃ sm' tr' od', x8_findRow_b34 N (nI n) kd pg fl (nI m) (1 : Int32) sm (nI M) way tr od spM = some (sm', nI M, way, tr', od', spM) := by
  have hn := hG.n6
  have hv := vm_en hG
  intro k
  induction k with
  | zero =>
    intro L hs
    cases hs
  | succ k ih =>
    intro L hs hP fl hfl sm tr od hA
    obtain ⟨fl, rfl⟩ : ∃ x, fl = x + 1 := ⟨fl - 1, by omega⟩
    have hP' : PM (fb_ct (wh c) n) L := hm ▸ hP
    have hr := rL_le hG hP'
    have hb := bnd_le n c
    obtain ⟨tr', e⟩ := conM (N := N) (g := gL n c L) (most := nI M) (way := way) (sm := sm) (od := od) hm hn hmv hA (hG.pC hP') hN hM (x8_findRow_b34 N (nI n) kd pg fl) tr
    rw [x8_findRow_b34, if_neg (show ¬ (1 : Int32) = (0 : Int32) from by decide), e, if_pos (show nI (rL n c L) ≤ nI M from nI_le (by omega) (by omega)), if_pos (show nI (rL n c L) ≤ nI M from nI_le (by omega) (by omega))]
    obtain ⟨od', n1, n2⟩ := nextM (N := N) (hm ▸ hv) h1 hP hA hN
    rw [stp] at hs
    cases hx : nextL m L with
    | none =>
      obtain ⟨fl, rfl⟩ : ∃ x, fl = x + 1 := ⟨fl - 1, by omega⟩
      rw [n1 hx, gB2_s, x8_findRow_b34, if_pos n00]
      exact ⟨_, _, _, rfl⟩
    | some L' =>
      obtain ⟨q1, q2, q3⟩ := n2 L' hx
      rw [hx] at hs
      rw [q1, gB2_s]
      exact ih L' hs q3 fl (by omega) _ _ _ q2
theorem rowMain (hM : MR n c kd sz pg) (hG : Good n c) (hm : m = fb_ct (wh c) n) (h1 : 1 ≤ m) (hN : 100 ≤ N) {spM mvf : Nat → Int32} (hmv : ∀ k, k < m → spM k = nI (en (wh c) n k)) (hmvX : ∀ k, k < m → mvf k = nI (en (wh c) n k)) : ∀ k L, stp m k L = true → k ≤ 720 → PM m L → ∀ fl fl', k + 1 < fl → k + 1 < fl' → ∀ most fig way sm tr od spf y st c', AR m (en (wp n c) 8) L od → AR m (en (wp n c) 8) L spf → lkC n c c' → XR n c' y → (most = -nI 9 ∨ ∃ M, most = nI M ∧ M < 1000 ∧ fig = way) → ∃ M F cnt' mvf' spf' y' st' sm' tr' od', x6_search_b30 N (nI n) fl (nI (bnd n c)) (1 : Int32) (nI (720 - k)) (nI m) most fig mvf spf y st = some (cnt', M, F, mvf', spf', y', st') ∧ x8_findRow_b34 N (nI n) kd pg fl' (nI m) (1 : Int32) sm most way tr od spM = some (sm', M, F, tr', od', spM) := by
  have hn := hG.n6
  have hv := vm_en hG
  intro k
  induction k with
  | zero =>
    intro L hs
    cases hs
  | succ k ih =>
    intro L hs hk hP fl fl' hfl hfl' most fig way sm tr od spf y st c' hA hA2 hl hX hmost
    obtain ⟨fl, rfl⟩ : ∃ x, fl = x + 1 := ⟨fl - 1, by omega⟩
    obtain ⟨fl', rfl⟩ : ∃ x, fl' = x + 1 := ⟨fl' - 1, by omega⟩
    have hP' : PM (fb_ct (wh c) n) L := hm ▸ hP
    have hr := rL_le hG hP'
    have hb := bnd_le n c
    obtain ⟨tr', eM⟩ := conM (N := N) (g := gL n c L) (most := most) (way := way) (sm := sm) (od := od) hm hn hmv hA (hG.pC hP') hN hM (x8_findRow_b34 N (nI n) kd pg fl') tr
    obtain ⟨y', st', eX, hX'⟩ := conX (N := N) (g := gL n c L) (most := most) (fig := fig) (mvf := mvf) (spf := spf) hm hn hmvX hA2 hl (hG.pC hP') hN hX st
    have hl' : lkC n c (pC (gL n c L) c) := lk_pC _ _
    -- what most and figures are now
    obtain ⟨M, F, hM1, e1, e2, e3⟩ : ∃ M F, M < 1000 ∧ (if nI (rL n c L) ≤ most then most else nI (rL n c L)) = nI M ∧ (if nI (rL n c L) ≤ most then fig else td (gL n c L) m) = F ∧ (if nI (rL n c L) ≤ most then way else td (gL n c L) m) = F := by
      rcases hmost with z | ⟨M, z1, z2, z3⟩
      · have nle : ¬ nI (rL n c L) ≤ most := by
          rw [z, fa_le, nI_toInt (by omega), show (-nI 9 : Int32).toInt = -9 from by decide]
          omega
        exact ⟨rL n c L, td (gL n c L) m, by omega, if_neg nle, if_neg nle, if_neg nle⟩
      · by_cases q : nI (rL n c L) ≤ most
        · exact ⟨M, way, z2, by rw [if_pos q, z1], by rw [if_pos q, z3], by rw [if_pos q]⟩
        · exact ⟨rL n c L, td (gL n c L) m, by omega, if_neg q, if_neg q, if_neg q⟩
    rw [e1, e3] at eM
    rw [e1, e2] at eX
    have ek : nI (720 - (k + 1)) + (1 : Int32) = nI (720 - k) := by
      rw [show (720 - k) = 720 - (k + 1) + 1 from by omega]
      exact nI_1 _
    rw [x6_search_b30, if_neg (show ¬ (720 : Int32) ≤ nI (720 - (k + 1)) from nI_ge (b := 720) (by omega) (by omega)), if_neg (show ¬ (1 : Int32) = (0 : Int32) from by decide), eX, gB4_s, x8_findRow_b34, if_neg (show ¬ (1 : Int32) = (0 : Int32) from by decide), eM]
    unfold x6_search_b66
    rw [ek]
    obtain ⟨od', n1, n2⟩ := nextM (N := N) (hm ▸ hv) h1 hP hA hN
    obtain ⟨spf', o1, o2⟩ := nextX (N := N) (hm ▸ hv) h1 hP hA2 hN
    have endX : ∀ mv sp2, x6_search_b30 N (nI n) fl (nI (bnd n c)) (0 : Int32) (nI (720 - k)) (nI m) (nI M) F mv sp2 y' st' = some (nI m, nI M, F, mv, sp2, y', st') := fun mv sp2 => by
      obtain ⟨fl, rfl⟩ : ∃ x, fl = x + 1 := ⟨fl - 1, by omega⟩
      rw [x6_search_b30, if_pos rfl, ite_self]
    have endM : ∀ sm2 tr2 od2, x8_findRow_b34 N (nI n) kd pg fl' (nI m) (nI 0) sm2 (nI M) F tr2 od2 spM = some (sm2, nI M, F, tr2, od2, spM) := fun sm2 tr2 od2 => by
      obtain ⟨fl', rfl⟩ : ∃ x, fl' = x + 1 := ⟨fl' - 1, by omega⟩
      rw [x8_findRow_b34, if_pos n00]
    rw [stp] at hs
    by_cases z : bnd n c ≤ M
    · rw [if_pos (nI_le z (by omega)), endX]
      cases hx : nextL m L with
      | none =>
        rw [n1 hx, gB2_s, endM]
        exact ⟨_, _, _, _, _, _, _, _, _, _, rfl, rfl⟩
      | some L' =>
        obtain ⟨q1, q2, q3⟩ := n2 L' hx
        rw [hx] at hs
        rw [q1, gB2_s]
        obtain ⟨sm2, tr2, od2, t1⟩ := rowTail (N := N) hM hG hm h1 hN hmv z hM1 (way := F) k L' hs q3 fl' (by omega) (nI 63) tr' od' q2
        exact ⟨nI M, F, _, _, _, _, _, sm2, tr2, od2, rfl, t1⟩
    · rw [if_neg (nI_ge (by omega) (by omega))]
      cases hx : nextL m L with
      | none =>
        rw [n1 hx, gB2_s, endM, o1 hx, gB2_s, if_pos n00, endX]
        exact ⟨_, _, _, _, _, _, _, _, _, _, rfl, rfl⟩
      | some L' =>
        obtain ⟨q1, q2, q3⟩ := n2 L' hx
        obtain ⟨p1, p2, -⟩ := o2 L' hx
        rw [hx] at hs
        rw [q1, gB2_s, p1, gB2_s, if_neg n10]
        exact ih L' hs (by omega) q3 fl fl' (by omega) (by omega) (nI M) F F (nI 63) tr' od' spf' y' st' _ q2 p2 hl' hX' (Or.inr ⟨M, rfl, hM1, rfl⟩)
end LOOPS
theorem range_gd {m i : Nat} (h : i < m) : gd (List.range m) i = i := by
  unfold gd
  rw [List.getD_eq_getElem?_getD, List.getElem?_range h]
  rfl
theorem range_pm (m : Nat) : PM m (List.range m) := ⟨List.length_range, fun i hi => by rw [range_gd hi]; exact hi, fun i j hi hj e => by rw [range_gd hi, range_gd hj] at e; exact e⟩
theorem range_stp {m : Nat} (h1 : 1 ≤ m) (h6 : m ≤ 6) : stp m 720 (List.range m) = true := by
  rcases (by omega : m = 1 ∨ m = 2 ∨ m = 3 ∨ m = 4 ∨ m = 5 ∨ m = 6) with rfl | rfl | rfl | rfl | rfl | rfl
  · exact stp_1
  · exact stp_2
  · exact stp_3
  · exact stp_4
  · exact stp_5
  · exact stp_6
theorem st_row {w J W Jm : Int32} {f tr od spM : Nat → Int32} (hS : SH n c w J W f Jm kd sz pg) {th sm rm rw' tJ tW wc wm wf : Int32} {tf ts wmv wsp : Nat → Int32} (hN : 2000 ≤ N) (a1 : Int32) : ∃ r tJ' tW' tf' ts' wc' wm' wf' wmv' wsp' sm' rm' rw2 tr' od' sp', x7_row N J W f tJ tW tf ts wc wm wf wmv wsp a1 = some (r, tJ', tW', tf', ts', wc', wm', wf', wmv', wsp') ∧ x8_row N th Jm sm rm rw' kd pg tr od spM a1 = some (r, 0, sm', rm', rw2, tr', od', sp') := by
  obtain ⟨hG, hX, rfl, rfl, hM, rfl, h36⟩ := hS
  have hn := hG.n6
  obtain ⟨f1, x1, x2⟩ := copyX hX hn tJ tW tf W
  obtain ⟨mv', sp', x3, x4, x5⟩ := gatX (N := N) (cnt := wc) x2 hG (by omega) wmv wsp
  obtain ⟨od', spM', y1, y2, y3⟩ := layM (N := N) hM hG (by omega) od spM
  have hm6 : fb_ct (wh c) n ≤ 6 := by
    have := fb_ct_le (wh c) n
    omega
  have eb : (if nI (fb_ct (lkp c 2) n) < nI (fb_ct (lkp c 0) n) then nI (fb_ct (lkp c 2) n) else nI (fb_ct (lkp c 0) n)) = nI (bnd n c) := by
    have := fb_ct_le (lkp c 2) n
    have := fb_ct_le (lkp c 0) n
    unfold bnd
    by_cases z : fb_ct (lkp c 2) n < fb_ct (lkp c 0) n
    · rw [if_pos (nI_lt z (by omega)), if_pos z]
    · rw [if_neg (nI_nlt (by omega) (by omega)), if_neg z]
  have key : ∃ M F cnt' mvf' spf' y' st' sm' tr' od2 sp2, x6_search_b30 N (nI n) N (nI (bnd n c)) (1 : Int32) (0 : Int32) (nI (fb_ct (wh c) n)) (-9 : Int32) wf mv' sp' f1 ts = some (cnt', M, F, mvf', spf', y', st') ∧ (if nI (fb_ct (wh c) n) = (0 : Int32) then x8_findRow_b16 N (nI n) kd pg (nI (fb_ct (wh c) n)) (0 : Int32) sm rm rw' tr od' spM' else x8_findRow_b16 N (nI n) kd pg (nI (fb_ct (wh c) n)) (-9 : Int32) sm rm rw' tr od' spM') = some (sm', M, F, tr', od2, sp2) := by
    by_cases h0 : fb_ct (wh c) n = 0
    · have hP : PM (fb_ct (wh c) n) [] := by
        rw [h0]
        exact ⟨rfl, fun i hi => by omega, fun i j hi => by omega⟩
      have hr := rL_le hG hP
      have hb0 : bnd n c = 0 := by
        have e : fb_ct (lkp c 0) n = 0 := by
          have := fb_ct_sub (p := lkp c 0) (q := wh c) (n := n) (fun k _ h => by
            unfold lkp at h
            rw [Bool.and_eq_true] at h
            exact h.1)
          omega
        unfold bnd
        rw [e]
        rw [if_neg (by omega)]
      obtain ⟨M, rfl⟩ : ∃ x, N = x + 2 := ⟨N - 2, by omega⟩
      obtain ⟨y', st', eX, -⟩ := conX (N := M + 2) (g := gL n c []) (most := -nI 9) (fig := wf) (mvf := mv') (spf := sp') (m0 := fb_ct (wh c) n) rfl hn x4 (fun k hk => by omega) (lk_self c) (hG.pC hP) (by omega) x2 ts
      have er : rL n c [] = 0 := by omega
      have nle : ¬ nI (rL n c []) ≤ -nI 9 := by
        rw [er]
        decide
      rw [if_neg nle, if_neg nle, show pmS n (maskC 63 (pC (gL n c []) c)) n = 0 from er] at eX
      rw [if_pos (show nI (fb_ct (wh c) n) = (0 : Int32) from eqn 0 h0)]
      unfold x8_findRow_b16
      rw [if_pos (show nI (fb_ct (wh c) n) ≤ (0 : Int32) from nI_le (b := 0) (by omega) (by omega)), x8_findRow_b34, if_pos rfl]
      rw [x6_search_b30, if_neg (show ¬ (720 : Int32) ≤ (0 : Int32) from by decide), if_neg (show ¬ (1 : Int32) = (0 : Int32) from by decide), show x6_consider (M + 2) (nI (fb_ct (wh c) n)) (-9 : Int32) wf mv' sp' (nI n) f1 ts = _ from eX, gB4_s, hb0, if_pos (show nI 0 ≤ nI 0 from by decide)]
      unfold x6_search_b66
      rw [x6_search_b30, if_neg (show ¬ (720 : Int32) ≤ (0 : Int32) + 1 from by decide), if_pos rfl]
      rw [h0]
      exact ⟨_, _, _, _, _, _, _, _, _, _, _, rfl, rfl⟩
    · have h1 : 1 ≤ fb_ct (wh c) n := by omega
      have hA : AR (fb_ct (wh c) n) (en (wp n c) 8) (List.range (fb_ct (wh c) n)) od' := fun i hi => by rw [range_gd hi]; exact y2 i hi
      have hA2 : AR (fb_ct (wh c) n) (en (wp n c) 8) (List.range (fb_ct (wh c) n)) sp' := fun i hi => by rw [range_gd hi]; exact x5 i hi
      obtain ⟨M, F, cnt', mvf', spf', y', st', sm', tr', od2, e1, e2⟩ := rowMain (N := N) hM hG rfl h1 (by omega) y3 x4 720 (List.range (fb_ct (wh c) n)) (range_stp h1 hm6) (by omega) (range_pm _) N N (by omega) (by omega) (-nI 9) wf (0 : Int32) sm tr od' sp' f1 ts c hA hA2 (lk_self c) x2 (Or.inl rfl)
      rw [if_neg (show ¬ nI (fb_ct (wh c) n) = (0 : Int32) from nq 0 (by omega) (by omega) h0)]
      unfold x8_findRow_b16
      rw [if_neg (show ¬ nI (fb_ct (wh c) n) ≤ (0 : Int32) from nI_nle (by omega) (by omega))]
      exact ⟨M, F, cnt', mvf', spf', y', st', sm', tr', od2, spM', e1, e2⟩
  obtain ⟨M, F, cnt', mvf', spf', y', st', sm', tr', od2, sp2, k1, k2⟩ := key
  unfold x7_row x8_row x6_search x8_findRow
  rw [x1, gB3_s, x3, gB3_s, show x2_countLooking N (nI n) f1 (0 : Int32) = _ from lookCX (look := 0) x2 hG (by omega) (by omega), gB1_s, show x2_countLooking N (nI n) f1 (2 : Int32) = _ from lookCX (look := 2) x2 hG (by omega) (by omega), gB1_s, eb, k1, gB7_s, y1, gB3_s, k2, gB6_s]
  unfold x6_most x6_figures
  by_cases z : a1 = 0
  · rw [if_pos z, if_pos z, gB1_s]
    exact ⟨_, _, _, _, _, _, _, _, _, _, _, _, _, _, _, _, rfl, rfl⟩
  · rw [if_neg z, if_neg z, gB1_s]
    exact ⟨_, _, _, _, _, _, _, _, _, _, _, _, _, _, _, _, rfl, rfl⟩
end ROW
