/-! PURE: told doings: week, shake, set, pour, open, looks at, is like -/
section DOES
variable {N n : Nat} {kd sz : Nat → Int32}
def TRr (n : Nat) (kd sz : Nat → Int32) (c : Nat → Nat → Nat) (w : Int32) (f tr : Nat → Int32) : Prop := Good n c ∧ XR n c f ∧ MR n c kd sz tr ∧ tr 36 = w
theorem has_no {x : Nat} (hx : n ≤ x) (h9 : x < 1000) : x2_has (nI n) (nI x) = some (nI 0) := hasX_f (Or.inr (nI_le hx (by omega)))
theorem noJ_no {x : Nat} (hn : n ≤ 6) (hx : n ≤ x) (h9 : x < 1000) : x8_noJar (nI n) (nI x) = some (nI 1) := noJar_t hn (Or.inr (nI_le hx (by omega)))
theorem whole_no {x : Nat} (f : Nat → Int32) (hx : n ≤ x) (h9 : x < 1000) : x2_isWhole (nI n) f (nI x) = some (nI 0) := by
  unfold x2_isWhole
  rw [has_no hx h9]
  rfl
theorem part_any (f : Nat → Int32) {x : Nat} (h9 : x < 1000) : ∃ v, x2_part f (nI x) (6 : Int32) = some v := by
  by_cases h : x < 6
  · exact ⟨_, part_eq (p := 6) h (by omega)⟩
  · unfold x2_part
    rw [if_neg (nI_pos (by omega)), if_pos (show (6 : Int32) ≤ nI x from nI_le (a := 6) (by omega) (by omega))]
    exact ⟨_, rfl⟩
theorem sees_no {x : Nat} (f : Nat → Int32) (hx : n ≤ x) (h9 : x < 1000) : x2_seenBy N (nI n) f (nI x) = some (-nI 9) := by
  obtain ⟨v, e⟩ := part_any f h9
  unfold x2_seenBy
  rw [e, gB1_s, whole_no f hx h9]
  rfl
theorem place_no {q : Nat} (hq : 8 ≤ q) (h9 : q < 1000) : x7_isPlace (nI q) = some (nI 0) := (isPlace_f (x := nI q) (Or.inr (nI_le hq (by omega)))).1
theorem stuff_no {q : Nat} (hq : 4 ≤ q) (h9 : q < 1000) : x7_isStuff (nI q) = some (nI 0) := (isStuff_f (x := nI q) (Or.inr (nI_le hq (by omega)))).1
theorem remN2 (a : Nat) {d : Nat} : nI a - nI (a / d) * nI d = nI (a % d) := by
  rw [pk_mul, pk_sub (Nat.div_mul_le_self a d)]
  congr 1
  have h := Nat.div_add_mod a d
  rw [Nat.mul_comm] at h
  omega
theorem nq {a : Nat} (b : Nat) (ha : a < 1000) (hb : b < 1000) (h : ¬ a = b) : ¬ nI a = nI b := fun z => h ((nI_eq (by omega) (by omega)).mp z)
theorem eqn {a : Nat} (b : Nat) (h : a = b) : nI a = nI b := by rw [h]
section DT
variable {J s : Int32} {tr : Nat → Int32} {X Y : Int32} {a : Nat}
theorem b66_no (ha : a ≤ 9) (q5 : ¬ a = 5) (q6 : ¬ a = 6) : x8_doesTo_b66 N J s kd (nI a) X Y tr = some (nI 0, tr) := by
  unfold x8_doesTo_b66
  rw [if_neg (show ¬ nI a = (5 : Int32) from nq 5 (by omega) (by omega) q5), if_neg (show ¬ nI a = (6 : Int32) from nq 6 (by omega) (by omega) q6)]
  rfl
theorem b33_no (ha : a ≤ 9) (q3 : ¬ a = 3) : x8_doesTo_b33 N J s kd (nI a) X Y tr = x8_doesTo_b66 N J s kd (nI a) X Y tr := by
  unfold x8_doesTo_b33
  rw [if_neg (show ¬ nI a = (3 : Int32) from nq 3 (by omega) (by omega) q3)]
theorem dTo_no (ha : a ≤ 9) (q2 : ¬ a = 2) : x8_doesTo N J s kd tr (nI a) X Y = x8_doesTo_b33 N J s kd (nI a) X Y tr := by
  unfold x8_doesTo
  rw [if_neg (show ¬ nI a = (2 : Int32) from nq 2 (by omega) (by omega) q2)]
end DT
theorem doFill {c : Nat → Nat → Nat} {w : Int32} {f tr : Nat → Int32} (h : TRr n kd sz c w f tr) {x y : Nat} (hx : x ≤ 9) (hy : y ≤ 9) : ∃ (b : Bool) (c' : Nat → Nat → Nat) (f' tr' : Nat → Int32), x2_tryFill (nI n) f (nI x) (nI y) = some (bI b, f') ∧ x8_does N (nI n) (nI 63) kd sz tr (nI (300 + 10 * x + y)) = some (bI b, tr') ∧ TRr n kd sz c' w f' tr' := by
  have h0 := h
  obtain ⟨hG, hX, hM, h36⟩ := h
  have hn := hG.n6
  have e1 : (300 + 10 * x + y) / 100 = 3 := by omega
  have e2 : (300 + 10 * x + y) / 10 % 10 = x := by omega
  have e3 : (300 + 10 * x + y) % 10 = y := by omega
  have eM : x8_does N (nI n) (nI 63) kd sz tr (nI (300 + 10 * x + y)) = gB1 (x8_noJar (nI n) (nI x)) (fun r8 => (if r8 = nI 0 then gB2 (x8_doesTo N (nI n) (nI 63) kd tr (nI 3) (nI x) (nI y)) (fun r11 y12 => (if r11 = nI 0 then some (nI 0, y12) else some (nI 1, y12))) else some (nI 0, tr))) := by
    unfold x8_does
    simp (disch := omega) only [li, pk_div, remN2, nI_eq, e1, e2, e3]
    rw [if_neg (by omega), if_neg (by omega), if_neg (by omega)]
  rw [eM]
  unfold x2_tryFill
  by_cases hj : x < n
  · rw [noJar_f hn hj, gB1_s, if_pos rfl]
    by_cases hu : y < 4
    · have eD : x8_doesTo N (nI n) (nI 63) kd tr (nI 3) (nI x) (nI y) = (if canP c x y = true then gB1 (x8_goPour tr (nI x) (nI y)) (fun y17 => some (nI 1, y17)) else some (nI 0, tr)) := by
        rw [dTo_no (by omega) (by omega)]
        unfold x8_doesTo_b33
        rw [if_pos (show nI 3 = (3 : Int32) from rfl), if_neg (show ¬ (4 : Int32) ≤ nI y from nI_ge (a := y) (b := 4) hu (by omega)), canPM hM hG hj hu, gB1_s]
        by_cases z : canP c x y = true
        · rw [if_pos z, if_pos z, if_neg n10]
          rfl
        · rw [if_neg z, if_neg z, if_pos n00, b66_no (by omega) (by omega) (by omega)]
      rw [eD, canPX hX hG hj hu, gB1_s]
      by_cases z : canP c x y = true
      · obtain ⟨f', x1, x2⟩ := fillX2 hX hn hj y
        obtain ⟨pg', y1, y2, y3⟩ := pourM2 hM hn hj y
        rw [if_pos z, if_pos z, x1, y1, if_neg n10]
        exact ⟨true, pourC c x y, f', pg', rfl, rfl, hG.pour hu, x2, y2, by rw [y3, h36]⟩
      · rw [if_neg z, if_neg z]
        exact ⟨false, c, f, tr, rfl, rfl, h0⟩
    · have eD : x8_doesTo N (nI n) (nI 63) kd tr (nI 3) (nI x) (nI y) = some (nI 0, tr) := by
        rw [dTo_no (by omega) (by omega)]
        unfold x8_doesTo_b33
        rw [if_pos (show nI 3 = (3 : Int32) from rfl), if_pos (show (4 : Int32) ≤ nI y from nI_le (a := 4) (b := y) (by omega) (by omega)), b66_no (by omega) (by omega) (by omega)]
      have eC : x2_canFill (nI n) f (nI x) (nI y) = some (nI 0) := by
        unfold x2_canFill
        by_cases z : c x 7 = 0
        · rw [wholeX_t hX hj hn z, gB1_s, if_neg n10, stuff_no (by omega) (by omega)]
          rfl
        · rw [wholeX_f hX hj hn (hG.2.1 x hj).2.2.2.2.2.2.2.2 z]
          rfl
      rw [eD, eC]
      exact ⟨false, c, f, tr, rfl, rfl, h0⟩
  · rw [noJ_no hn (by omega) (by omega)]
    have eC : x2_canFill (nI n) f (nI x) (nI y) = some (nI 0) := by
      unfold x2_canFill
      rw [whole_no f (by omega) (by omega)]
      rfl
    rw [eC]
    exact ⟨false, c, f, tr, rfl, rfl, h0⟩
/-- one doing, told by three figures -/
theorem doesEq {c : Nat → Nat → Nat} {w : Int32} {f tr : Nat → Int32} (h : TRr n kd sz c w f tr) {d : Nat} (hd : d < 1000) (hN : 100 ≤ N) : ∃ (b : Bool) (c' : Nat → Nat → Nat) (w' : Int32) (f' tr' : Nat → Int32), x7_trialDoes N (nI n) w f (nI (d / 100)) (nI (d / 10 % 10)) (nI (d % 10)) = some (bI b, w', f') ∧ x8_does N (nI n) (nI 63) kd sz tr (nI d) = some (bI b, tr') ∧ TRr n kd sz c' w' f' tr' := by
  have h0 := h
  obtain ⟨hG, hX, hM, h36⟩ := h
  have hn := hG.n6
  obtain ⟨a, ea⟩ : ∃ a, d / 100 = a := ⟨_, rfl⟩
  obtain ⟨x, ex⟩ : ∃ x, d / 10 % 10 = x := ⟨_, rfl⟩
  obtain ⟨y, ey⟩ : ∃ y, d % 10 = y := ⟨_, rfl⟩
  have ha : a ≤ 9 := by omega
  have hx : x ≤ 9 := by omega
  have hy : y ≤ 9 := by omega
  have ed : d = 100 * a + 10 * x + y := by omega
  rw [ea, ex, ey]
  have eM : x8_does N (nI n) (nI 63) kd sz tr (nI d) = (if d = 0 then gB1 (x8_goWeek N (nI n) kd tr) (fun y25 => some (nI 1, y25)) else if d = 100 then gB2 (x8_goShake N (nI n) kd sz tr) (fun r22 y23 => some (nI 1, y23)) else if a = 4 then (if x = 0 then gB1 (x8_noJar (nI n) (nI y)) (fun r16 => (if r16 = nI 0 then gB1 (x8_isWhole tr (nI y)) (fun r19 => (if r19 = nI 0 then x8_does_b84 N (nI n) (nI 63) kd sz (nI d) (nI y) tr else x8_does_b85 N (nI n) (nI 63) kd sz (nI d) (nI y) (nI 1) tr)) else x8_does_b84 N (nI n) (nI 63) kd sz (nI d) (nI y) tr)) else x8_does_b84 N (nI n) (nI 63) kd sz (nI d) (nI y) tr) else gB1 (x8_noJar (nI n) (nI x)) (fun r8 => (if r8 = nI 0 then gB2 (x8_doesTo N (nI n) (nI 63) kd tr (nI a) (nI x) (nI y)) (fun r11 y12 => (if r11 = nI 0 then some (nI 0, y12) else some (nI 1, y12))) else some (nI 0, tr)))) := by
    unfold x8_does
    simp (disch := omega) only [li, pk_div, remN2, nI_eq, ea, ex, ey]
  have dead : ¬ d = 0 → ¬ d = 100 → ¬ a = 4 → ¬ a = 2 → ¬ a = 3 → ¬ a = 5 → ¬ a = 6 → x8_does N (nI n) (nI 63) kd sz tr (nI d) = some (nI 0, tr) := fun q0 q1 q4 q2 q3 q5 q6 => by
    rw [eM, if_neg q0, if_neg q1, if_neg q4]
    by_cases hj : x < n
    · rw [noJar_f hn hj, gB1_s, if_pos rfl]
      have eD : x8_doesTo N (nI n) (nI 63) kd tr (nI a) (nI x) (nI y) = some (nI 0, tr) := by
        rw [dTo_no ha q2, b33_no ha q3, b66_no ha q5 q6]
      rw [eD]
      rfl
    · rw [noJ_no hn (by omega) (by omega)]
      rfl
  unfold x7_trialDoes
  by_cases a0 : a = 0
  · rw [if_pos (show nI a = (0 : Int32) from eqn 0 a0)]
    by_cases z : d = 0
    · rw [if_pos (show nI x = (0 : Int32) from eqn 0 (by omega)), if_pos (show nI y = (0 : Int32) from eqn 0 (by omega)), eM, if_pos z]
      obtain ⟨f1, x1, x2⟩ := weekX (N := N) hX hG hN w
      obtain ⟨t1, y1, y2, y3⟩ := weekM (N := N) hM hG hN h36
      unfold x2_tryWeek
      rw [x1, y1]
      exact ⟨true, _, _, f1, t1, rfl, rfl, hG.week (ev := evn w), x2, y2, y3⟩
    · rw [dead z (by omega) (by omega) (by omega) (by omega) (by omega) (by omega)]
      refine ⟨false, c, w, f, tr, ?_, rfl, h0⟩
      by_cases z1 : x = 0
      · rw [if_pos (show nI x = (0 : Int32) from eqn 0 (by omega)), if_neg (show ¬ nI y = (0 : Int32) from nq 0 (by omega) (by omega) (by omega))]
        rfl
      · rw [if_neg (show ¬ nI x = (0 : Int32) from nq 0 (by omega) (by omega) z1)]
        rfl
  · rw [if_neg (show ¬ nI a = (0 : Int32) from nq 0 (by omega) (by omega) a0)]
    by_cases a1 : a = 1
    · rw [if_pos (show nI a = (1 : Int32) from eqn 1 a1)]
      by_cases z : d = 100
      · rw [if_pos (show nI x = (0 : Int32) from eqn 0 (by omega)), if_pos (show nI y = (0 : Int32) from eqn 0 (by omega)), eM, if_neg (show ¬ d = 0 from by omega), if_pos z]
        obtain ⟨f1, x1, x2⟩ := shkX (N := N) hX hG hN
        obtain ⟨t1, y1, y2, y3⟩ := shkM (N := N) hM hG hN
        unfold x2_tryShake
        rw [x1, y1]
        exact ⟨true, shkC c, w, f1, t1, rfl, rfl, hG.map shk_ok shk_0 shk_7, x2, y2, by rw [y3, h36]⟩
      · rw [dead (by omega) z (by omega) (by omega) (by omega) (by omega) (by omega)]
        refine ⟨false, c, w, f, tr, ?_, rfl, h0⟩
        by_cases z1 : x = 0
        · rw [if_pos (show nI x = (0 : Int32) from eqn 0 (by omega)), if_neg (show ¬ nI y = (0 : Int32) from nq 0 (by omega) (by omega) (by omega))]
          rfl
        · rw [if_neg (show ¬ nI x = (0 : Int32) from nq 0 (by omega) (by omega) z1)]
          rfl
    · rw [if_neg (show ¬ nI a = (1 : Int32) from nq 1 (by omega) (by omega) a1)]
      by_cases a2 : a = 2
      · rw [if_pos (show nI a = (2 : Int32) from eqn 2 a2), eM, if_neg (show ¬ d = 0 from by omega), if_neg (show ¬ d = 100 from by omega), if_neg (show ¬ a = 4 from by omega)]
        unfold x2_tryStand
        by_cases hj : x < n
        · rw [noJar_f hn hj, gB1_s, if_pos rfl]
          by_cases hq : y < 8
          · have eD : x8_doesTo N (nI n) (nI 63) kd tr (nI a) (nI x) (nI y) = (if canS n c x y = true then some (nI 1, upd tr (0 + x) (nI y)) else some (nI 0, tr)) := by
              unfold x8_doesTo
              rw [if_pos (show nI a = (2 : Int32) from eqn 2 a2), if_neg (show ¬ (8 : Int32) ≤ nI y from nI_ge (a := y) (b := 8) hq (by omega)), canSM hM hG hj hq hN, gB1_s]
              by_cases z : canS n c x y = true
              · rw [if_pos z, if_pos z, if_neg n10, gIn_t (by omega) (by omega), gChk_t, nI_clamp (by omega), Nat.zero_add]
                rfl
              · rw [if_neg z, if_neg z, if_pos n00, b33_no ha (by omega), b66_no ha (by omega) (by omega)]
            rw [eD, canSX hX hG hj hq hN, gB1_s]
            by_cases z : canS n c x y = true
            · rw [if_pos z, if_pos z, if_neg n10]
              have eS : x2_stand f (nI x) (nI y) = some (upd f (8 * x + 0) (nI y)) := by
                unfold x2_stand
                simp (disch := omega) only [li, put_eq, gB1_s]
              rw [eS]
              exact ⟨true, setC c x 0 y, w, _, _, rfl, rfl, hG.set0 hq (canS_no hn z), hX.put hj (by omega), hM.put hn hj 0 0 (by omega), by rw [pk_un (by omega), h36]⟩
            · rw [if_neg z, if_neg z]
              exact ⟨false, c, w, f, tr, rfl, rfl, h0⟩
          · have eD : x8_doesTo N (nI n) (nI 63) kd tr (nI a) (nI x) (nI y) = some (nI 0, tr) := by
              unfold x8_doesTo
              rw [if_pos (show nI a = (2 : Int32) from eqn 2 a2), if_pos (show (8 : Int32) ≤ nI y from nI_le (a := 8) (b := y) (by omega) (by omega)), b33_no ha (by omega), b66_no ha (by omega) (by omega)]
            have eC : x2_canStand N (nI n) f (nI x) (nI y) = some (nI 0) := by
              unfold x2_canStand
              by_cases z : c x 7 = 0
              · rw [wholeX_t hX hj hn z, gB1_s, if_neg n10, place_no (by omega) (by omega)]
                rfl
              · rw [wholeX_f hX hj hn (hG.2.1 x hj).2.2.2.2.2.2.2.2 z]
                rfl
            rw [eD, eC]
            exact ⟨false, c, w, f, tr, rfl, rfl, h0⟩
        · rw [noJ_no hn (by omega) (by omega)]
          have eC : x2_canStand N (nI n) f (nI x) (nI y) = some (nI 0) := by
            unfold x2_canStand
            rw [whole_no f (by omega) (by omega)]
            rfl
          rw [eC]
          exact ⟨false, c, w, f, tr, rfl, rfl, h0⟩
      · rw [if_neg (show ¬ nI a = (2 : Int32) from nq 2 (by omega) (by omega) a2)]
        by_cases a3 : a = 3
        · rw [if_pos (show nI a = (3 : Int32) from eqn 3 a3)]
          obtain ⟨b, c', f', tr', q1, q2, q3⟩ := doFill (N := N) h0 hx hy
          rw [q1, gB2_s, gBl_b, gChk_t, show d = 300 + 10 * x + y from by omega, q2]
          exact ⟨b, c', w, f', tr', rfl, rfl, q3⟩
        · rw [if_neg (show ¬ nI a = (3 : Int32) from nq 3 (by omega) (by omega) a3)]
          by_cases a4 : a = 4
          · rw [if_pos (show nI a = (4 : Int32) from eqn 4 a4), eM, if_neg (show ¬ d = 0 from by omega), if_neg (show ¬ d = 100 from by omega), if_pos a4]
            by_cases z : x = 0
            · rw [if_pos (show nI x = (0 : Int32) from eqn 0 (by omega)), if_pos z]
              unfold x2_tryLetOut
              by_cases hj : y < n
              · rw [noJar_f hn hj, gB1_s, if_pos rfl]
                by_cases z7 : c y 7 = 0
                · rw [wholeX_t hX hj hn z7, wholeM_t hM hj hn z7, gB1_s, gB1_s, if_neg n10, if_neg (by decide)]
                  have eL : x2_letOut f (nI y) = some (upd f (8 * y + 7) (nI 2)) := by
                    unfold x2_letOut
                    simp (disch := omega) only [li, put_eq, gB1_s]
                  have eB : x8_does_b85 N (nI n) (nI 63) kd sz (nI d) (nI y) (nI 1) tr = some (nI 1, upd tr (30 + y) (nI 2)) := by
                    unfold x8_does_b85
                    simp (disch := omega) only [li, nI_add, gIn_t, gChk_t, nI_clamp, gBl_1]
                    rw [if_neg (by decide)]
                  rw [eL, eB]
                  exact ⟨true, setC c y 7 2, w, _, _, rfl, rfl, hG.put (by omega), hX.put hj (by omega), hM.put hn hj 7 30 (by omega), by rw [pk_un (by omega), h36]⟩
                · have g7 := (hG.2.1 y hj).2.2.2.2.2.2.2.2
                  rw [wholeX_f hX hj hn g7 z7, wholeM_f hM hj hn g7 z7]
                  exact ⟨false, c, w, f, tr, rfl, rfl, h0⟩
              · rw [noJ_no hn (by omega) (by omega), whole_no f (by omega) (by omega)]
                exact ⟨false, c, w, f, tr, rfl, rfl, h0⟩
            · rw [if_neg (show ¬ nI x = (0 : Int32) from nq 0 (by omega) (by omega) z), if_neg z]
              exact ⟨false, c, w, f, tr, rfl, rfl, h0⟩
          · rw [if_neg (show ¬ nI a = (4 : Int32) from nq 4 (by omega) (by omega) a4)]
            by_cases a5 : a = 5
            · rw [if_pos (show nI a = (5 : Int32) from eqn 5 a5), eM, if_neg (show ¬ d = 0 from by omega), if_neg (show ¬ d = 100 from by omega), if_neg a4]
              by_cases hj : x < n
              · rw [noJar_f hn hj, gB1_s, if_pos rfl, seesX (hX.m63 hn) (hG.mask 63) hj hN]
                by_cases hyn : y < n
                · have eD : x8_doesTo N (nI n) (nI 63) kd tr (nI a) (nI x) (nI y) = (if oI (seesS n (maskC 63 c) x) = nI y then some (nI 1, tr) else some (nI 0, tr)) := by
                    rw [dTo_no ha a2, b33_no ha a3]
                    unfold x8_doesTo_b66
                    rw [if_pos (show nI a = (5 : Int32) from eqn 5 a5), if_neg (nI_ge hyn (by omega)), seesM hM hG hj (by omega) hN, gB1_s]
                    rfl
                  rw [eD, hasX hyn hn, gB1_s, if_neg n10, gB1_s]
                  by_cases z : oI (seesS n (maskC 63 c) x) = nI y
                  · rw [if_pos z, if_pos z]
                    exact ⟨true, c, w, f, tr, rfl, rfl, h0⟩
                  · rw [if_neg z, if_neg z]
                    exact ⟨false, c, w, f, tr, rfl, rfl, h0⟩
                · have eD : x8_doesTo N (nI n) (nI 63) kd tr (nI a) (nI x) (nI y) = some (nI 0, tr) := by
                    rw [dTo_no ha a2, b33_no ha a3]
                    unfold x8_doesTo_b66
                    rw [if_pos (show nI a = (5 : Int32) from eqn 5 a5), if_pos (nI_le (by omega) (by omega))]
                    rfl
                  rw [eD, has_no (by omega) (by omega)]
                  exact ⟨false, c, w, f, tr, rfl, rfl, h0⟩
              · rw [noJ_no hn (by omega) (by omega), sees_no f (by omega) (by omega)]
                refine ⟨false, c, w, f, tr, ?_, rfl, h0⟩
                by_cases hyn : y < n
                · rw [hasX hyn hn, gB1_s, if_neg n10, gB1_s, if_neg (ne9' (by omega))]
                  rfl
                · rw [has_no (by omega) (by omega)]
                  rfl
            · rw [if_neg (show ¬ nI a = (5 : Int32) from nq 5 (by omega) (by omega) a5)]
              by_cases a6 : a = 6
              · rw [if_pos (show nI a = (6 : Int32) from eqn 6 a6), eM, if_neg (show ¬ d = 0 from by omega), if_neg (show ¬ d = 100 from by omega), if_neg a4]
                by_cases hj : x < n
                · obtain ⟨g0, g1, g2, g3, g4, g4', g5, g6, g7⟩ := hG.2.1 x hj
                  rw [noJar_f hn hj, gB1_s, if_pos rfl]
                  by_cases z7 : c x 7 = 0
                  · have eD : x8_doesTo N (nI n) (nI 63) kd tr (nI a) (nI x) (nI y) = (if c x 1 = y then some (nI 1, tr) else some (nI 0, tr)) := by
                      rw [dTo_no ha a2, b33_no ha a3]
                      unfold x8_doesTo_b66
                      rw [if_neg (show ¬ nI a = (5 : Int32) from nq 5 (by omega) (by omega) a5), if_pos (show nI a = (6 : Int32) from eqn 6 a6), wholeM_t hM hj hn z7, gB1_s, if_neg n10]
                      simp (disch := omega) only [li, nI_add, gIn_t, gChk_t, nI_clamp, hM.p1, nI_eq]
                    rw [eD, wholeX_t hX hj hn z7, gB1_s, if_neg n10, show x2_part f (nI x) (1 : Int32) = some (nI (c x 1)) from partX (p := 1) hX hj hn (by omega), gB1_s]
                    simp (disch := omega) only [nI_eq]
                    by_cases z : c x 1 = y
                    · rw [if_pos z, if_pos z]
                      exact ⟨true, c, w, f, tr, rfl, rfl, h0⟩
                    · rw [if_neg z, if_neg z]
                      exact ⟨false, c, w, f, tr, rfl, rfl, h0⟩
                  · have eD : x8_doesTo N (nI n) (nI 63) kd tr (nI a) (nI x) (nI y) = some (nI 0, tr) := by
                      rw [dTo_no ha a2, b33_no ha a3]
                      unfold x8_doesTo_b66
                      rw [if_neg (show ¬ nI a = (5 : Int32) from nq 5 (by omega) (by omega) a5), if_pos (show nI a = (6 : Int32) from eqn 6 a6), wholeM_f hM hj hn g7 z7, gB1_s, if_pos n00]
                      rfl
                    rw [eD, wholeX_f hX hj hn g7 z7]
                    exact ⟨false, c, w, f, tr, rfl, rfl, h0⟩
                · rw [noJ_no hn (by omega) (by omega), whole_no f (by omega) (by omega)]
                  exact ⟨false, c, w, f, tr, rfl, rfl, h0⟩
              · rw [if_neg (show ¬ nI a = (6 : Int32) from nq 6 (by omega) (by omega) a6), dead (by omega) (by omega) a4 a2 a3 a5 a6]
                exact ⟨false, c, w, f, tr, rfl, rfl, h0⟩
end DOES
