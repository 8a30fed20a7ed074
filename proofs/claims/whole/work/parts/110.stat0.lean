abbrev rm_X1_commonOf : Room := { frames := 0, cells := 0, slots := 0, locals := 0 }
abbrev w_X1_commonOf (cI cZ cG : ClassId) : va_W := []
set_option maxHeartbeats 4000000 in
set_option maxRecDepth 100000 in
theorem c_X1_commonOf (l : Launch) (dC : Nat → ClassId) (dI : Nat → Nat → Nat) (cI cZ cG : ClassId) {N : Nat} (a0 : Int32) (a1 : Int32) {r0 : Int32} (hf : x1_commonOf N a0 a1 = some r0) : Met l yX1_commonOf wsX1_commonOf rm_X1_commonOf (va_Pc [.int a0, .int a1] (gR (dC, dI) vwCl (gT cI cZ cG) (w_X1_commonOf cI cZ cG))) (vp_Si (fun r => r = r0)) 0 0 (fun _ => False) := by
  refine Met.ofW (cc := cX1_commonOf) (maxL := 6) (ret := (some .int)) (by decide) rfl ?_
  intro p e s m args below meth c s₁ B hml hv
  obtain ⟨rfl, hv⟩ := hv
  obtain ⟨hP, hK, hN⟩ := hv
  have hx := B.exec
  have hb := B.bytes
  have hr := B.returns
  have hts := atoms_spec (ws := wsX1_commonOf) B.pre
  have hown : s.vm.findClass RX1 = some m.cls := findClass_of_methodNamed B.named
  have hlocks := B.notSynchronized
  obtain ⟨Q, hQ⟩ : ∃ Q : State → Prop, Q = MQ below (vp_Si (fun r => r = r0)) (([Value.int a0, Value.int a1] : List Value).toArray) s 0 0 (fun _ => False) := ⟨_, rfl⟩
  have hl := lv_entry ([.int a0, .int a1]) (n := 6) (Nat.le_of_ble_eq_true rfl)
  rw [← hQ, lg_entry_eq]
  generalize (lg_sl ([.int a0, .int a1]) ++ List.replicate (6 - (lg_sl ([.int a0, .int a1])).length) Slot.unset).toArray = ls at hl ⊢
  have hl : lv_has ls 6 [(0, .int a0), (1, .int a1)] := hl
  show W p l e rm_X1_commonOf s m (([Value.int a0, Value.int a1] : List Value).toArray) below meth c s.heap [] 0 0 Q (F0 m 0 ls [])
  have L7 : ∀ (n7 : Nat), ∀ (x2 : Int32) (x3 : Int32) (x4 : Int32) (ls : Array Slot), x1_commonOf_b7 N a0 a1 n7 x2 x3 x4 = some r0 → lv_has ls 6 [(2, .int x2), (3, .int x3), (4, .int x4)] → W p l e rm_X1_commonOf s m (([Value.int a0, Value.int a1] : List Value).toArray) below meth c s.heap [] 0 0 Q (F0 m 7 ls []) := by
    intro n7
    induction n7 with
    | zero =>
      intro x2 x3 x4 ls hf hl
      exact g_no hf
    | succ n7 ih7 =>
      intro x2 x3 x4 ls hf hl
      unfold x1_commonOf_b7 at hf
      refine lv_iload hx hb dX1_commonOf_7 (lv_at hl 2 rfl) ?_
      refine lv_sipush (v := (1000 : Int32)) hx hb dX1_commonOf_9 (by decide +kernel) ?_
      refine lv_icmp_ge (tgt := 35) hx hb dX1_commonOf_12 (by decide) (fun c1 => ?_) (fun c1 => ?_)
      · have hf := g_pos c1 hf
        refine lv_iload_n hx hb dX1_commonOf_35 rfl (lv_at hl 0 rfl) ?_
        rw [hQ]
        exact W.iret (v := x2) hx hb hr (fun t ht hW => ⟨_, rfl, Option.some.inj hf, ht⟩) (fun q h => by cases h) dX1_commonOf_36
      · have hf := g_neg c1 hf
        refine lv_iload_n hx hb dX1_commonOf_15 rfl (lv_at hl 1 rfl) ?_
        refine lv_if_le (tgt := 35) hx hb dX1_commonOf_16 (by decide) (fun c2 => ?_) (fun c2 => ?_)
        · have hf := g_pos c2 hf
          refine lv_iload_n hx hb dX1_commonOf_35 rfl (lv_at hl 0 rfl) ?_
          rw [hQ]
          exact W.iret (v := x2) hx hb hr (fun t ht hW => ⟨_, rfl, Option.some.inj hf, ht⟩) (fun q h => by cases h) dX1_commonOf_36
        · have hf := g_neg c2 hf
          refine lv_iload_n hx hb dX1_commonOf_19 rfl (lv_at hl 0 rfl) ?_
          refine lv_iload_n hx hb dX1_commonOf_20 rfl (lv_at hl 1 rfl) ?_
          obtain ⟨h3, hf⟩ := g_chk hf
          refine lv_irem hx hb dX1_commonOf_21 (gNz_ne h3) ?_
          refine lv_istore (lv' := [(5, .int (x2 - x2 / x3 * x3)), (2, .int x2), (3, .int x3), (4, .int x4)]) hx hb dX1_commonOf_22 hl (by decide) rfl (fun ls hl => ?_)
          refine lv_iload_n hx hb dX1_commonOf_24 rfl (lv_at hl 2 rfl) ?_
          refine lv_istore_n (lv' := [(2, .int x3), (5, .int (x2 - x2 / x3 * x3)), (3, .int x3), (4, .int x4)]) hx hb dX1_commonOf_25 rfl hl (by decide) rfl (fun ls hl => ?_)
          refine lv_iload hx hb dX1_commonOf_26 (lv_at hl 1 rfl) ?_
          refine lv_istore_n (lv' := [(3, .int (x2 - x2 / x3 * x3)), (2, .int x3), (5, .int (x2 - x2 / x3 * x3)), (4, .int x4)]) hx hb dX1_commonOf_28 rfl hl (by decide) rfl (fun ls hl => ?_)
          refine lv_iinc (v := (x4 + (1 : Int32))) (lv' := [(4, .int (x4 + (1 : Int32))), (3, .int (x2 - x2 / x3 * x3)), (2, .int x3), (5, .int (x2 - x2 / x3 * x3))]) hx hb dX1_commonOf_29 hl (k := 3) rfl rfl (by decide) rfl (fun ls hl => ?_)
          refine lv_goto (tgt := 7) hx hb dX1_commonOf_32 (by decide) ?_
          exact ih7 x3 (x2 - x2 / x3 * x3) (x4 + (1 : Int32)) ls hf (lv_sub hl [2, 1, 0] rfl)
  unfold x1_commonOf at hf
  refine lv_iload_n hx hb dX1_commonOf_0 rfl (lv_at hl 0 rfl) ?_
  refine lv_istore_n (lv' := [(2, .int a0), (0, .int a0), (1, .int a1)]) hx hb dX1_commonOf_1 rfl hl (by decide) rfl (fun ls hl => ?_)
  refine lv_iload_n hx hb dX1_commonOf_2 rfl (lv_at hl 2 rfl) ?_
  refine lv_istore_n (lv' := [(3, .int a1), (2, .int a0), (0, .int a0), (1, .int a1)]) hx hb dX1_commonOf_3 rfl hl (by decide) rfl (fun ls hl => ?_)
  refine lv_iconst (v := (0 : Int32)) hx hb dX1_commonOf_4 (by decide) ?_
  refine lv_istore (lv' := [(4, .int (0 : Int32)), (3, .int a1), (2, .int a0), (0, .int a0), (1, .int a1)]) hx hb dX1_commonOf_5 hl (by decide) rfl (fun ls hl => ?_)
  exact L7 N a0 a1 (0 : Int32) ls hf (lv_sub hl [2, 1, 0] rfl)
abbrev rm_J6_compare_7cf53 : Room := { frames := 0, cells := 0, slots := 0, locals := 0 }
abbrev w_J6_compare_7cf53 (cI cZ cG : ClassId) : va_W := []
set_option maxHeartbeats 4000000 in
set_option maxRecDepth 100000 in
theorem c_J6_compare_7cf53 (l : Launch) (dC : Nat → ClassId) (dI : Nat → Nat → Nat) (cI cZ cG : ClassId) (a0 : Int32) (a1 : Int32) {r0 : Int32} (hf : j6_compare a0 a1 = some r0) : Met l yJ6_compare_7cf53 wsJ6_compare_7cf53 rm_J6_compare_7cf53 (va_Pc [.int a0, .int a1] (gR (dC, dI) vwCl (gT cI cZ cG) (w_J6_compare_7cf53 cI cZ cG))) (vp_Si (fun r => r = r0)) 0 0 (fun _ => False) := by
  refine Met.ofW (cc := cJ6_compare_7cf53) (maxL := 2) (ret := (some .int)) (by decide) rfl ?_
  intro p e s m args below meth c s₁ B hml hv
  obtain ⟨rfl, hv⟩ := hv
  obtain ⟨hP, hK, hN⟩ := hv
  have hx := B.exec
  have hb := B.bytes
  have hr := B.returns
  have hts := atoms_spec (ws := wsJ6_compare_7cf53) B.pre
  have hown : s.vm.findClass RJ6 = some m.cls := findClass_of_methodNamed B.named
  have hlocks := B.notSynchronized
  obtain ⟨Q, hQ⟩ : ∃ Q : State → Prop, Q = MQ below (vp_Si (fun r => r = r0)) (([Value.int a0, Value.int a1] : List Value).toArray) s 0 0 (fun _ => False) := ⟨_, rfl⟩
  have hl := lv_entry ([.int a0, .int a1]) (n := 2) (Nat.le_of_ble_eq_true rfl)
  rw [← hQ, lg_entry_eq]
  generalize (lg_sl ([.int a0, .int a1]) ++ List.replicate (2 - (lg_sl ([.int a0, .int a1])).length) Slot.unset).toArray = ls at hl ⊢
  have hl : lv_has ls 2 [(0, .int a0), (1, .int a1)] := hl
  show W p l e rm_J6_compare_7cf53 s m (([Value.int a0, Value.int a1] : List Value).toArray) below meth c s.heap [] 0 0 Q (F0 m 0 ls [])
  unfold j6_compare at hf
  refine lv_iload_n hx hb dJ6_compare_7cf53_0 rfl (lv_at hl 0 rfl) ?_
  refine lv_iload_n hx hb dJ6_compare_7cf53_1 rfl (lv_at hl 1 rfl) ?_
  refine lv_icmp_ge (tgt := 9) hx hb dJ6_compare_7cf53_2 (by decide) (fun c1 => ?_) (fun c1 => ?_)
  · have hf := g_pos c1 hf
    refine lv_iload_n hx hb dJ6_compare_7cf53_9 rfl (lv_at hl 0 rfl) ?_
    refine lv_iload_n hx hb dJ6_compare_7cf53_10 rfl (lv_at hl 1 rfl) ?_
    refine lv_icmp_ne (tgt := 18) hx hb dJ6_compare_7cf53_11 (by decide) (fun c2 => ?_) (fun c2 => ?_)
    · have hf := g_neg c2 hf
      refine lv_iconst (v := (1 : Int32)) hx hb dJ6_compare_7cf53_18 (by decide) ?_
      rw [hQ]
      exact W.iret (v := (1 : Int32)) hx hb hr (fun t ht hW => ⟨_, rfl, Option.some.inj hf, ht⟩) (fun q h => by cases h) dJ6_compare_7cf53_19
    · have hf := g_pos c2 hf
      refine lv_iconst (v := (0 : Int32)) hx hb dJ6_compare_7cf53_14 (by decide) ?_
      refine lv_goto (tgt := 19) hx hb dJ6_compare_7cf53_15 (by decide) ?_
      rw [hQ]
      exact W.iret (v := (0 : Int32)) hx hb hr (fun t ht hW => ⟨_, rfl, Option.some.inj hf, ht⟩) (fun q h => by cases h) dJ6_compare_7cf53_19
  · have hf := g_neg c1 hf
    refine lv_iconst (v := (-1 : Int32)) hx hb dJ6_compare_7cf53_5 (by decide) ?_
    refine lv_goto (tgt := 19) hx hb dJ6_compare_7cf53_6 (by decide) ?_
    rw [hQ]
    exact W.iret (v := (-1 : Int32)) hx hb hr (fun t ht hW => ⟨_, rfl, Option.some.inj hf, ht⟩) (fun q h => by cases h) dJ6_compare_7cf53_19
abbrev rm_X7_ripened : Room := { frames := 1, cells := 0, slots := 0, locals := 21 }
abbrev w_X7_ripened (cI cZ cG : ClassId) : va_W := []
set_option maxHeartbeats 4000000 in
set_option maxRecDepth 100000 in
theorem c_X7_ripened (l : Launch) (dC : Nat → ClassId) (dI : Nat → Nat → Nat) (cI cZ cG : ClassId) (a0 : Int32) (a1 : Int32) {r0 : Int32} (hf : x7_ripened a0 a1 = some r0) : Met l yX7_ripened wsX7_ripened rm_X7_ripened (va_Pc [.int a0, .int a1] (gR (dC, dI) vwCl (gT cI cZ cG) (w_X7_ripened cI cZ cG))) (vp_Si (fun r => r = r0)) 0 0 (fun _ => False) := by
  refine Met.ofW (cc := cX7_ripened) (maxL := 2) (ret := (some .int)) (by decide) rfl ?_
  intro p e s m args below meth c s₁ B hml hv
  obtain ⟨rfl, hv⟩ := hv
  obtain ⟨hP, hK, hN⟩ := hv
  have hx := B.exec
  have hb := B.bytes
  have hr := B.returns
  have hts := atoms_spec (ws := wsX7_ripened) B.pre
  have hown : s.vm.findClass RX7 = some m.cls := findClass_of_methodNamed B.named
  have hlocks := B.notSynchronized
  obtain ⟨Q, hQ⟩ : ∃ Q : State → Prop, Q = MQ below (vp_Si (fun r => r = r0)) (([Value.int a0, Value.int a1] : List Value).toArray) s 0 0 (fun _ => False) := ⟨_, rfl⟩
  have hl := lv_entry ([.int a0, .int a1]) (n := 2) (Nat.le_of_ble_eq_true rfl)
  rw [← hQ, lg_entry_eq]
  generalize (lg_sl ([.int a0, .int a1]) ++ List.replicate (2 - (lg_sl ([.int a0, .int a1])).length) Slot.unset).toArray = ls at hl ⊢
  have hl : lv_has ls 2 [(0, .int a0), (1, .int a1)] := hl
  show W p l e rm_X7_ripened s m (([Value.int a0, Value.int a1] : List Value).toArray) below meth c s.heap [] 0 0 Q (F0 m 0 ls [])
  unfold x7_ripened at hf
  refine lv_iload_n hx hb dX7_ripened_0 rfl (lv_at hl 1 rfl) ?_
  by_cases c1 : a1 = (0 : Int32)
  · have hf := g_pos c1 hf
    refine lv_tableIn (tgt := 28) hx hb dX7_ripened_1 (by rw [c1]; decide) (by rw [c1]; decide) (by rw [c1]; rfl) (by decide) ?_
    refine lv_iload_n hx hb dX7_ripened_28 rfl (lv_at hl 0 rfl) ?_
    refine lv_iconst (v := (1 : Int32)) hx hb dX7_ripened_29 (by decide) ?_
    refine lv_iadd hx hb dX7_ripened_30 ?_
    refine lv_bipush (v := (9 : Int32)) hx hb dX7_ripened_31 (by decide +kernel) ?_
    refine va_mmin hx hb (hml.trans hl.1.symm) hown (hts (.methodLink RX7 297 Lib.Math.min.name) (by decide +kernel)) (hts (.static Lib.Math.min.name) (by decide +kernel)) (hts (.initialized "java/lang/Math") (by decide +kernel)) (hts (.code Lib.Math.min.name Lib.Math.min.code 2 (some .int)) (by decide +kernel)) (Nat.le_of_ble_eq_true rfl) (Nat.le_of_ble_eq_true rfl) (Nat.zero_le _) (Nat.zero_le _) dX7_ripened_33 ?_
    rw [hQ]
    exact W.iret (v := (if (9 : Int32) < (a0 + (1 : Int32)) then (9 : Int32) else (a0 + (1 : Int32)))) hx hb hr (fun t ht hW => ⟨_, rfl, Option.some.inj hf, ht⟩) (fun q h => by cases h) dX7_ripened_36
  have hf := g_neg c1 hf
  by_cases c2 : a1 = (1 : Int32)
  · have hf := g_pos c2 hf
    refine lv_tableIn (tgt := 37) hx hb dX7_ripened_1 (by rw [c2]; decide) (by rw [c2]; decide) (by rw [c2]; rfl) (by decide) ?_
    refine lv_iload_n hx hb dX7_ripened_37 rfl (lv_at hl 0 rfl) ?_
    refine lv_iconst (v := (1 : Int32)) hx hb dX7_ripened_38 (by decide) ?_
    refine lv_isub hx hb dX7_ripened_39 ?_
    refine lv_iconst (v := (0 : Int32)) hx hb dX7_ripened_40 (by decide) ?_
    refine va_mmax hx hb (hml.trans hl.1.symm) hown (hts (.methodLink RX7 300 Lib.Math.max.name) (by decide +kernel)) (hts (.static Lib.Math.max.name) (by decide +kernel)) (hts (.initialized "java/lang/Math") (by decide +kernel)) (hts (.code Lib.Math.max.name Lib.Math.max.code 2 (some .int)) (by decide +kernel)) (Nat.le_of_ble_eq_true rfl) (Nat.le_of_ble_eq_true rfl) (Nat.zero_le _) (Nat.zero_le _) dX7_ripened_41 ?_
    rw [hQ]
    exact W.iret (v := (if (a0 - (1 : Int32)) < (0 : Int32) then (0 : Int32) else (a0 - (1 : Int32)))) hx hb hr (fun t ht hW => ⟨_, rfl, Option.some.inj hf, ht⟩) (fun q h => by cases h) dX7_ripened_44
  have hf := g_neg c2 hf
  by_cases c3 : a1 = (2 : Int32)
  · have hf := g_pos c3 hf
    refine lv_tableIn (tgt := 45) hx hb dX7_ripened_1 (by rw [c3]; decide) (by rw [c3]; decide) (by rw [c3]; rfl) (by decide) ?_
    refine lv_iload_n hx hb dX7_ripened_45 rfl (lv_at hl 0 rfl) ?_
    refine lv_iconst (v := (5 : Int32)) hx hb dX7_ripened_46 (by decide) ?_
    refine lv_iload_n hx hb dX7_ripened_47 rfl (lv_at hl 0 rfl) ?_
    obtain ⟨r4, hc5, hf⟩ := g_b1 hf
    refine g_rS (As := [.int (5 : Int32), .int a0]) (rest := [.int a0]) ⟨hx, hb, hml, hown, hts⟩ (c_J6_compare_7cf53 l dC dI cI cZ cG    (5 : Int32) a0 hc5) (va_cwS 2 hts gX7_ripened_J6_compare_7cf53 rfl rfl rfl (by decide +kernel) ⟨Nat.le_of_ble_eq_true rfl, Nat.le_of_ble_eq_true rfl⟩) hK hN (hP.sub [] rfl) rfl hl.1 rfl (Nat.le_of_ble_eq_true rfl) dX7_ripened_48 ⟨Nat.zero_le _, Nat.zero_le _⟩ ?_
    refine lv_iadd hx hb dX7_ripened_51 ?_
    rw [hQ]
    exact W.iret (v := (a0 + r4)) hx hb hr (fun t ht hW => ⟨_, rfl, Option.some.inj hf, ht⟩) (fun q h => by cases h) dX7_ripened_52
  have hf := g_neg c3 hf
  have h6 := lv_neT (a := 0) c1 (by decide)
  have h7 := lv_neT (a := 1) c2 (by decide)
  have h8 := lv_neT (a := 2) c3 (by decide)
  refine lv_tableOut (tgt := 53) hx hb dX7_ripened_1 (by omega) (by decide) ?_
  refine lv_iload_n hx hb dX7_ripened_53 rfl (lv_at hl 0 rfl) ?_
  rw [hQ]
  exact W.iret (v := a0) hx hb hr (fun t ht hW => ⟨_, rfl, Option.some.inj hf, ht⟩) (fun q h => by cases h) dX7_ripened_54
abbrev rm_X4_outOf : Room := { frames := 2, cells := 0, slots := 0, locals := 42 }
abbrev w_X4_outOf (cI cZ cG : ClassId) : va_W := []
set_option maxHeartbeats 4000000 in
set_option maxRecDepth 100000 in
theorem c_X4_outOf (l : Launch) (dC : Nat → ClassId) (dI : Nat → Nat → Nat) (cI cZ cG : ClassId) {N : Nat} (a0 : Int32) (a1 : Int32) (a2 : Int32) {r0 : Int32} (hf : x4_outOf N a0 a1 a2 = some r0) : Met l yX4_outOf wsX4_outOf rm_X4_outOf (va_Pc [.int a0, .int a1, .int a2] (gR (dC, dI) vwCl (gT cI cZ cG) (w_X4_outOf cI cZ cG))) (vp_Si (fun r => r = r0)) 0 0 (fun _ => False) := by
  refine Met.ofW (cc := cX4_outOf) (maxL := 5) (ret := (some .int)) (by decide) rfl ?_
  intro p e s m args below meth c s₁ B hml hv
  obtain ⟨rfl, hv⟩ := hv
  obtain ⟨hP, hK, hN⟩ := hv
  have hx := B.exec
  have hb := B.bytes
  have hr := B.returns
  have hts := atoms_spec (ws := wsX4_outOf) B.pre
  have hown : s.vm.findClass RX4 = some m.cls := findClass_of_methodNamed B.named
  have hlocks := B.notSynchronized
  obtain ⟨Q, hQ⟩ : ∃ Q : State → Prop, Q = MQ below (vp_Si (fun r => r = r0)) (([Value.int a0, Value.int a1, Value.int a2] : List Value).toArray) s 0 0 (fun _ => False) := ⟨_, rfl⟩
  have hl := lv_entry ([.int a0, .int a1, .int a2]) (n := 5) (Nat.le_of_ble_eq_true rfl)
  rw [← hQ, lg_entry_eq]
  generalize (lg_sl ([.int a0, .int a1, .int a2]) ++ List.replicate (5 - (lg_sl ([.int a0, .int a1, .int a2])).length) Slot.unset).toArray = ls at hl ⊢
  have hl : lv_has ls 5 [(0, .int a0), (1, .int a1), (2, .int a2)] := hl
  show W p l e rm_X4_outOf s m (([Value.int a0, Value.int a1, Value.int a2] : List Value).toArray) below meth c s.heap [] 0 0 Q (F0 m 0 ls [])
  have L5 : ∀ (n5 : Nat), ∀ (x3 : Int32) (x4 : Int32) (ls : Array Slot), x4_outOf_b5 N a0 a1 a2 n5 x3 x4 = some r0 → lv_has ls 5 [(1, .int a1), (2, .int a2), (3, .int x3), (4, .int x4)] → W p l e rm_X4_outOf s m (([Value.int a0, Value.int a1, Value.int a2] : List Value).toArray) below meth c s.heap [] 0 0 Q (F0 m 5 ls []) := by
    intro n5
    induction n5 with
    | zero =>
      intro x3 x4 ls hf hl
      exact g_no hf
    | succ n5 ih5 =>
      intro x3 x4 ls hf hl
      unfold x4_outOf_b5 at hf
      refine lv_iload hx hb dX4_outOf_5 (lv_at hl 3 rfl) ?_
      refine lv_iload_n hx hb dX4_outOf_7 rfl (lv_at hl 1 rfl) ?_
      refine lv_icmp_ge (tgt := 23) hx hb dX4_outOf_8 (by decide) (fun c1 => ?_) (fun c1 => ?_)
      · have hf := g_pos c1 hf
        refine lv_iload_n hx hb dX4_outOf_23 rfl (lv_at hl 2 rfl) ?_
        rw [hQ]
        exact W.iret (v := x3) hx hb hr (fun t ht hW => ⟨_, rfl, Option.some.inj hf, ht⟩) (fun q h => by cases h) dX4_outOf_24
      · have hf := g_neg c1 hf
        refine lv_iload_n hx hb dX4_outOf_11 rfl (lv_at hl 2 rfl) ?_
        refine lv_iload_n hx hb dX4_outOf_12 rfl (lv_at hl 0 rfl) ?_
        obtain ⟨r2, hc3, hf⟩ := g_b1 hf
        refine g_rSN (As := [.int x3, .int a1]) (rest := []) ⟨hx, hb, hml, hown, hts⟩ (c_X7_ripened l dC dI cI cZ cG    x3 a1 hc3) ⟨va_cnB (host := "GreenJars") 2 hts gX4_outOf_X7_ripened_n30 rfl rfl rfl (hN _ (List.mem_of_getElem? (i := 15) rfl)) (hts (.initialized RX7) (by decide +kernel)) (by decide +kernel) ⟨Nat.le_of_ble_eq_true rfl, Nat.le_of_ble_eq_true rfl⟩, hts (.static yX7_ripened) (by decide +kernel), trivial⟩ hK hN (hP.sub [] rfl) rfl hl.1 rfl (Nat.le_of_ble_eq_true rfl) dX4_outOf_13 ⟨Nat.zero_le _, Nat.zero_le _⟩ ?_
        refine lv_istore_n (lv' := [(3, .int r2), (1, .int a1), (2, .int a2), (4, .int x4)]) hx hb dX4_outOf_16 rfl hl (by decide) rfl (fun ls hl => ?_)
        refine lv_iinc (v := (x4 + (1 : Int32))) (lv' := [(4, .int (x4 + (1 : Int32))), (3, .int r2), (1, .int a1), (2, .int a2)]) hx hb dX4_outOf_17 hl (k := 3) rfl rfl (by decide) rfl (fun ls hl => ?_)
        refine lv_goto (tgt := 5) hx hb dX4_outOf_20 (by decide) ?_
        exact ih5 r2 (x4 + (1 : Int32)) ls hf (lv_sub hl [2, 3, 1, 0] rfl)
  unfold x4_outOf at hf
  refine lv_iload_n hx hb dX4_outOf_0 rfl (lv_at hl 0 rfl) ?_
  refine lv_istore_n (lv' := [(3, .int a0), (0, .int a0), (1, .int a1), (2, .int a2)]) hx hb dX4_outOf_1 rfl hl (by decide) rfl (fun ls hl => ?_)
  refine lv_iconst (v := (0 : Int32)) hx hb dX4_outOf_2 (by decide) ?_
  refine lv_istore (lv' := [(4, .int (0 : Int32)), (3, .int a0), (0, .int a0), (1, .int a1), (2, .int a2)]) hx hb dX4_outOf_3 hl (by decide) rfl (fun ls hl => ?_)
  exact L5 N a0 (0 : Int32) ls hf (lv_sub hl [3, 4, 1, 0] rfl)
abbrev rm_X7_without : Room := { frames := 0, cells := 0, slots := 0, locals := 0 }
abbrev w_X7_without (cI cZ cG : ClassId) : va_W := []
set_option maxHeartbeats 4000000 in
set_option maxRecDepth 100000 in
theorem c_X7_without (l : Launch) (dC : Nat → ClassId) (dI : Nat → Nat → Nat) (cI cZ cG : ClassId) {N : Nat} (a0 : Int64) (a2 : Int32) {r0 : Int64} (hf : x7_without N a0 a2 = some r0) : Met l yX7_without wsX7_without rm_X7_without (va_Pc [.long a0, .int a2] (gR (dC, dI) vwCl (gT cI cZ cG) (w_X7_without cI cZ cG))) (vp_Sl (fun r => r = r0)) 0 0 (fun _ => False) := by
  refine Met.ofW (cc := cX7_without) (maxL := 6) (ret := (some .long)) (by decide) rfl ?_
  intro p e s m args below meth c s₁ B hml hv
  obtain ⟨rfl, hv⟩ := hv
  obtain ⟨hP, hK, hN⟩ := hv
  have hx := B.exec
  have hb := B.bytes
  have hr := B.returns
  have hts := atoms_spec (ws := wsX7_without) B.pre
  have hown : s.vm.findClass RX7 = some m.cls := findClass_of_methodNamed B.named
  have hlocks := B.notSynchronized
  obtain ⟨Q, hQ⟩ : ∃ Q : State → Prop, Q = MQ below (vp_Sl (fun r => r = r0)) (([Value.long a0, Value.int a2] : List Value).toArray) s 0 0 (fun _ => False) := ⟨_, rfl⟩
  have hl := lv_entry ([.long a0, .int a2]) (n := 6) (Nat.le_of_ble_eq_true rfl)
  rw [← hQ, lg_entry_eq]
  generalize (lg_sl ([.long a0, .int a2]) ++ List.replicate (6 - (lg_sl ([.long a0, .int a2])).length) Slot.unset).toArray = ls at hl ⊢
  have hl : lv_has ls 6 [(0, .long a0), (2, .int a2)] := hl
  show W p l e rm_X7_without s m (([Value.long a0, Value.int a2] : List Value).toArray) below meth c s.heap [] 0 0 Q (F0 m 0 ls [])
  have L5 : ∀ (n5 : Nat), ∀ (x3 : Int64) (x5 : Int32) (ls : Array Slot), x7_without_b5 N a0 a2 n5 x3 x5 = some r0 → lv_has ls 6 [(2, .int a2), (3, .long x3), (5, .int x5)] → W p l e rm_X7_without s m (([Value.long a0, Value.int a2] : List Value).toArray) below meth c s.heap [] 0 0 Q (F0 m 5 ls []) := by
    intro n5
    induction n5 with
    | zero =>
      intro x3 x5 ls hf hl
      exact g_no hf
    | succ n5 ih5 =>
      intro x3 x5 ls hf hl
      unfold x7_without_b5 at hf
      refine lv_iload hx hb dX7_without_5 (lv_at hl 2 rfl) ?_
      refine lv_iload_n hx hb dX7_without_7 rfl (lv_at hl 0 rfl) ?_
      refine lv_icmp_ge (tgt := 23) hx hb dX7_without_8 (by decide) (fun c1 => ?_) (fun c1 => ?_)
      · have hf := g_pos c1 hf
        refine lv_lload_n hx hb dX7_without_23 rfl (lv_at hl 1 rfl) ?_
        rw [hQ]
        exact W.lret (v := x3) hx hb hr (fun t ht hW => ⟨_, rfl, Option.some.inj hf, ht⟩) (fun q h => by cases h) dX7_without_24
      · have hf := g_neg c1 hf
        refine lv_lload_n hx hb dX7_without_11 rfl (lv_at hl 1 rfl) ?_
        refine lv_ldc2 (v := (1000 : Int64)) hx hb hown (hts (.constantLong RX7 197 (1000 : Int64)) (by decide +kernel)) dX7_without_12 ?_
        refine lv_ldiv hx hb dX7_without_15 (by decide) ?_
        refine lv_lstore_n (lv' := [(3, .long (x3 / (1000 : Int64))), (2, .int a2), (5, .int x5)]) hx hb dX7_without_16 rfl hl (by decide) rfl (fun ls hl => ?_)
        refine lv_iinc (v := (x5 + (1 : Int32))) (lv' := [(5, .int (x5 + (1 : Int32))), (3, .long (x3 / (1000 : Int64))), (2, .int a2)]) hx hb dX7_without_17 hl (k := 2) rfl rfl (by decide) rfl (fun ls hl => ?_)
        refine lv_goto (tgt := 5) hx hb dX7_without_20 (by decide) ?_
        exact ih5 (x3 / (1000 : Int64)) (x5 + (1 : Int32)) ls hf (lv_sub hl [2, 1, 0] rfl)
  unfold x7_without at hf
  refine lv_lload_n hx hb dX7_without_0 rfl (lv_at hl 0 rfl) ?_
  refine lv_lstore_n (lv' := [(3, .long a0), (0, .long a0), (2, .int a2)]) hx hb dX7_without_1 rfl hl (by decide) rfl (fun ls hl => ?_)
  refine lv_iconst (v := (0 : Int32)) hx hb dX7_without_2 (by decide) ?_
  refine lv_istore (lv' := [(5, .int (0 : Int32)), (3, .long a0), (0, .long a0), (2, .int a2)]) hx hb dX7_without_3 hl (by decide) rfl (fun ls hl => ?_)
  exact L5 N a0 (0 : Int32) ls hf (lv_sub hl [3, 1, 0] rfl)
abbrev rm_X7_isIn : Room := { frames := 0, cells := 0, slots := 0, locals := 0 }
abbrev w_X7_isIn (cI cZ cG : ClassId) : va_W := []
set_option maxHeartbeats 4000000 in
set_option maxRecDepth 100000 in
theorem c_X7_isIn (l : Launch) (dC : Nat → ClassId) (dI : Nat → Nat → Nat) (cI cZ cG : ClassId) (a0 : Int32) (a1 : Int32) {r0 : Int32} (hf : x7_isIn a0 a1 = some r0) : Met l yX7_isIn wsX7_isIn rm_X7_isIn (va_Pc [.int a0, .int a1] (gR (dC, dI) vwCl (gT cI cZ cG) (w_X7_isIn cI cZ cG))) (vp_Si (fun r => r = r0)) 0 0 (fun _ => False) := by
  refine Met.ofW (cc := cX7_isIn) (maxL := 2) (ret := (some .boolean)) (by decide) rfl ?_
  intro p e s m args below meth c s₁ B hml hv
  obtain ⟨rfl, hv⟩ := hv
  obtain ⟨hP, hK, hN⟩ := hv
  have hx := B.exec
  have hb := B.bytes
  have hr := B.returns
  have hts := atoms_spec (ws := wsX7_isIn) B.pre
  have hown : s.vm.findClass RX7 = some m.cls := findClass_of_methodNamed B.named
  have hlocks := B.notSynchronized
  obtain ⟨Q, hQ⟩ : ∃ Q : State → Prop, Q = MQ below (vp_Si (fun r => r = r0)) (([Value.int a0, Value.int a1] : List Value).toArray) s 0 0 (fun _ => False) := ⟨_, rfl⟩
  have hl := lv_entry ([.int a0, .int a1]) (n := 2) (Nat.le_of_ble_eq_true rfl)
  rw [← hQ, lg_entry_eq]
  generalize (lg_sl ([.int a0, .int a1]) ++ List.replicate (2 - (lg_sl ([.int a0, .int a1])).length) Slot.unset).toArray = ls at hl ⊢
  have hl : lv_has ls 2 [(0, .int a0), (1, .int a1)] := hl
  show W p l e rm_X7_isIn s m (([Value.int a0, Value.int a1] : List Value).toArray) below meth c s.heap [] 0 0 Q (F0 m 0 ls [])
  unfold x7_isIn at hf
  refine lv_iload_n hx hb dX7_isIn_0 rfl (lv_at hl 0 rfl) ?_
  refine lv_iload_n hx hb dX7_isIn_1 rfl (lv_at hl 1 rfl) ?_
  refine lv_ishr hx hb dX7_isIn_2 ?_
  refine lv_iconst (v := (1 : Int32)) hx hb dX7_isIn_3 (by decide) ?_
  refine lv_iand hx hb dX7_isIn_4 ?_
  refine lv_if_eq (tgt := 12) hx hb dX7_isIn_5 (by decide) (fun c1 => ?_) (fun c1 => ?_)
  · have hf := g_pos c1 hf
    refine lv_iconst (v := (0 : Int32)) hx hb dX7_isIn_12 (by decide) ?_
    rw [hQ]
    exact W.zret (v := (0 : Int32)) hx hb hr (by decide +kernel) (fun t ht hW => ⟨_, rfl, Option.some.inj hf, ht⟩) (fun q h => by cases h) dX7_isIn_13
  · have hf := g_neg c1 hf
    refine lv_iconst (v := (1 : Int32)) hx hb dX7_isIn_8 (by decide) ?_
    refine lv_goto (tgt := 13) hx hb dX7_isIn_9 (by decide) ?_
    rw [hQ]
    exact W.zret (v := (1 : Int32)) hx hb hr (by decide +kernel) (fun t ht hW => ⟨_, rfl, Option.some.inj hf, ht⟩) (fun q h => by cases h) dX7_isIn_13
abbrev rm_X7_points : Room := { frames := 0, cells := 0, slots := 0, locals := 0 }
abbrev w_X7_points (cI cZ cG : ClassId) : va_W := []
set_option maxHeartbeats 4000000 in
set_option maxRecDepth 100000 in
theorem c_X7_points (l : Launch) (dC : Nat → ClassId) (dI : Nat → Nat → Nat) (cI cZ cG : ClassId) (a0 : Int32) (a1 : Int32) (a2 : Int32) {r0 : Int32} (hf : x7_points a0 a1 a2 = some r0) : Met l yX7_points wsX7_points rm_X7_points (va_Pc [.int a0, .int a1, .int a2] (gR (dC, dI) vwCl (gT cI cZ cG) (w_X7_points cI cZ cG))) (vp_Si (fun r => r = r0)) 0 0 (fun _ => False) := by
  refine Met.ofW (cc := cX7_points) (maxL := 3) (ret := (some .int)) (by decide) rfl ?_
  intro p e s m args below meth c s₁ B hml hv
  obtain ⟨rfl, hv⟩ := hv
  obtain ⟨hP, hK, hN⟩ := hv
  have hx := B.exec
  have hb := B.bytes
  have hr := B.returns
  have hts := atoms_spec (ws := wsX7_points) B.pre
  have hown : s.vm.findClass RX7 = some m.cls := findClass_of_methodNamed B.named
  have hlocks := B.notSynchronized
  obtain ⟨Q, hQ⟩ : ∃ Q : State → Prop, Q = MQ below (vp_Si (fun r => r = r0)) (([Value.int a0, Value.int a1, Value.int a2] : List Value).toArray) s 0 0 (fun _ => False) := ⟨_, rfl⟩
  have hl := lv_entry ([.int a0, .int a1, .int a2]) (n := 3) (Nat.le_of_ble_eq_true rfl)
  rw [← hQ, lg_entry_eq]
  generalize (lg_sl ([.int a0, .int a1, .int a2]) ++ List.replicate (3 - (lg_sl ([.int a0, .int a1, .int a2])).length) Slot.unset).toArray = ls at hl ⊢
  have hl : lv_has ls 3 [(0, .int a0), (1, .int a1), (2, .int a2)] := hl
  show W p l e rm_X7_points s m (([Value.int a0, Value.int a1, Value.int a2] : List Value).toArray) below meth c s.heap [] 0 0 Q (F0 m 0 ls [])
  have J29 : ∀ (t0 : Int32) (t1 : Int32) (ls : Array Slot), x7_points_b29 a0 a1 a2 t0 t1 = some r0 → lv_has ls 3 [] → W p l e rm_X7_points s m (([Value.int a0, Value.int a1, Value.int a2] : List Value).toArray) below meth c s.heap [] 0 0 Q (F0 m 29 ls [.int t1, .int t0]) := by
    intro t0 t1 ls hf hl
    unfold x7_points_b29 at hf
    refine lv_iadd hx hb dX7_points_29 ?_
    rw [hQ]
    exact W.iret (v := (t0 + t1)) hx hb hr (fun t ht hW => ⟨_, rfl, Option.some.inj hf, ht⟩) (fun q h => by cases h) dX7_points_30
  have J18 : ∀ (t0 : Int32) (t1 : Int32) (ls : Array Slot), x7_points_b18 a0 a1 a2 t0 t1 = some r0 → lv_has ls 3 [(2, .int a2)] → W p l e rm_X7_points s m (([Value.int a0, Value.int a1, Value.int a2] : List Value).toArray) below meth c s.heap [] 0 0 Q (F0 m 18 ls [.int t1, .int t0]) := by
    intro t0 t1 ls hf hl
    unfold x7_points_b18 at hf
    refine lv_iadd hx hb dX7_points_18 ?_
    refine lv_iload_n hx hb dX7_points_19 rfl (lv_at hl 0 rfl) ?_
    refine lv_iconst (v := (1 : Int32)) hx hb dX7_points_20 (by decide) ?_
    refine lv_icmp_ne (tgt := 28) hx hb dX7_points_21 (by decide) (fun c1 => ?_) (fun c1 => ?_)
    · have hf := g_neg c1 hf
      refine lv_iconst (v := (0 : Int32)) hx hb dX7_points_28 (by decide) ?_
      exact J29 (t0 + t1) (0 : Int32) ls hf (lv_sub hl [] rfl)
    · have hf := g_pos c1 hf
      refine lv_iconst (v := (1 : Int32)) hx hb dX7_points_24 (by decide) ?_
      refine lv_goto (tgt := 29) hx hb dX7_points_25 (by decide) ?_
      exact J29 (t0 + t1) (1 : Int32) ls hf (lv_sub hl [] rfl)
  have J9 : ∀ (t0 : Int32) (ls : Array Slot), x7_points_b9 a0 a1 a2 t0 = some r0 → lv_has ls 3 [(1, .int a1), (2, .int a2)] → W p l e rm_X7_points s m (([Value.int a0, Value.int a1, Value.int a2] : List Value).toArray) below meth c s.heap [] 0 0 Q (F0 m 9 ls [.int t0]) := by
    intro t0 ls hf hl
    unfold x7_points_b9 at hf
    refine lv_iload_n hx hb dX7_points_9 rfl (lv_at hl 0 rfl) ?_
    refine lv_if_eq (tgt := 17) hx hb dX7_points_10 (by decide) (fun c2 => ?_) (fun c2 => ?_)
    · have hf := g_pos c2 hf
      refine lv_iconst (v := (1 : Int32)) hx hb dX7_points_17 (by decide) ?_
      exact J18 t0 (1 : Int32) ls hf (lv_sub hl [1] rfl)
    · have hf := g_neg c2 hf
      refine lv_iconst (v := (0 : Int32)) hx hb dX7_points_13 (by decide) ?_
      refine lv_goto (tgt := 18) hx hb dX7_points_14 (by decide) ?_
      exact J18 t0 (0 : Int32) ls hf (lv_sub hl [1] rfl)
  unfold x7_points at hf
  refine lv_iload_n hx hb dX7_points_0 rfl (lv_at hl 0 rfl) ?_
  refine lv_if_eq (tgt := 8) hx hb dX7_points_1 (by decide) (fun c3 => ?_) (fun c3 => ?_)
  · have hf := g_pos c3 hf
    refine lv_iconst (v := (0 : Int32)) hx hb dX7_points_8 (by decide) ?_
    exact J9 (0 : Int32) ls hf (lv_sub hl [1, 2] rfl)
  · have hf := g_neg c3 hf
    refine lv_iconst (v := (3 : Int32)) hx hb dX7_points_4 (by decide) ?_
    refine lv_goto (tgt := 9) hx hb dX7_points_5 (by decide) ?_
    exact J9 (3 : Int32) ls hf (lv_sub hl [1, 2] rfl)
abbrev rm_X7_isBest : Room := { frames := 1, cells := 0, slots := 0, locals := 22 }
abbrev w_X7_isBest (cI cZ cG : ClassId) : va_W := []
set_option maxHeartbeats 4000000 in
set_option maxRecDepth 100000 in
theorem c_X7_isBest (l : Launch) (dC : Nat → ClassId) (dI : Nat → Nat → Nat) (cI cZ cG : ClassId) {N : Nat} (a0 : Int32) (a1 : Int32) (a2 : Int32) {r0 : Int32} (hf : x7_isBest N a0 a1 a2 = some r0) : Met l yX7_isBest wsX7_isBest rm_X7_isBest (va_Pc [.int a0, .int a1, .int a2] (gR (dC, dI) vwCl (gT cI cZ cG) (w_X7_isBest cI cZ cG))) (vp_Si (fun r => r = r0)) 0 0 (fun _ => False) := by
  refine Met.ofW (cc := cX7_isBest) (maxL := 5) (ret := (some .boolean)) (by decide) rfl ?_
  intro p e s m args below meth c s₁ B hml hv
  obtain ⟨rfl, hv⟩ := hv
  obtain ⟨hP, hK, hN⟩ := hv
  have hx := B.exec
  have hb := B.bytes
  have hr := B.returns
  have hts := atoms_spec (ws := wsX7_isBest) B.pre
  have hown : s.vm.findClass RX7 = some m.cls := findClass_of_methodNamed B.named
  have hlocks := B.notSynchronized
  obtain ⟨Q, hQ⟩ : ∃ Q : State → Prop, Q = MQ below (vp_Si (fun r => r = r0)) (([Value.int a0, Value.int a1, Value.int a2] : List Value).toArray) s 0 0 (fun _ => False) := ⟨_, rfl⟩
  have hl := lv_entry ([.int a0, .int a1, .int a2]) (n := 5) (Nat.le_of_ble_eq_true rfl)
  rw [← hQ, lg_entry_eq]
  generalize (lg_sl ([.int a0, .int a1, .int a2]) ++ List.replicate (5 - (lg_sl ([.int a0, .int a1, .int a2])).length) Slot.unset).toArray = ls at hl ⊢
  have hl : lv_has ls 5 [(0, .int a0), (1, .int a1), (2, .int a2)] := hl
  show W p l e rm_X7_isBest s m (([Value.int a0, Value.int a1, Value.int a2] : List Value).toArray) below meth c s.heap [] 0 0 Q (F0 m 0 ls [])
  have L14 : ∀ (n14 : Nat), ∀ (x3 : Int32) (x4 : Int32) (ls : Array Slot), x7_isBest_b14 N a0 a1 a2 n14 x3 x4 = some r0 → lv_has ls 5 [(0, .int a0), (2, .int a2), (3, .int x3), (4, .int x4)] → W p l e rm_X7_isBest s m (([Value.int a0, Value.int a1, Value.int a2] : List Value).toArray) below meth c s.heap [] 0 0 Q (F0 m 14 ls []) := by
    intro n14
    induction n14 with
    | zero =>
      intro x3 x4 ls hf hl
      exact g_no hf
    | succ n14 ih14 =>
      intro x3 x4 ls hf hl
      unfold x7_isBest_b14 at hf
      refine lv_iload hx hb dX7_isBest_14 (lv_at hl 3 rfl) ?_
      refine lv_iconst (v := (4 : Int32)) hx hb dX7_isBest_16 (by decide) ?_
      refine lv_icmp_ge (tgt := 44) hx hb dX7_isBest_17 (by decide) (fun c1 => ?_) (fun c1 => ?_)
      · have hf := g_pos c1 hf
        refine lv_iconst (v := (1 : Int32)) hx hb dX7_isBest_44 (by decide) ?_
        rw [hQ]
        exact W.zret (v := (1 : Int32)) hx hb hr (by decide +kernel) (fun t ht hW => ⟨_, rfl, Option.some.inj hf, ht⟩) (fun q h => by cases h) dX7_isBest_45
      · have hf := g_neg c1 hf
        refine lv_iload_n hx hb dX7_isBest_20 rfl (lv_at hl 0 rfl) ?_
        refine lv_iload hx hb dX7_isBest_21 (lv_at hl 3 rfl) ?_
        obtain ⟨r2, hc3, hf⟩ := g_b1 hf
        refine g_rS (As := [.int a0, .int x4]) (rest := []) ⟨hx, hb, hml, hown, hts⟩ (c_X7_isIn l dC dI cI cZ cG    a0 x4 hc3) (va_cwS 2 hts gX7_isBest_X7_isIn rfl rfl rfl (by decide +kernel) ⟨Nat.le_of_ble_eq_true rfl, Nat.le_of_ble_eq_true rfl⟩) hK hN (hP.sub [] rfl) rfl hl.1 rfl (Nat.le_of_ble_eq_true rfl) dX7_isBest_23 ⟨Nat.zero_le _, Nat.zero_le _⟩ ?_
        refine lv_iload_n hx hb dX7_isBest_26 rfl (lv_at hl 1 rfl) ?_
        refine lv_iload hx hb dX7_isBest_27 (lv_at hl 3 rfl) ?_
        obtain ⟨r4, hc5, hf⟩ := g_b1 hf
        refine g_rS (As := [.int r2, .int a2, .int x4]) (rest := []) ⟨hx, hb, hml, hown, hts⟩ (c_X7_points l dC dI cI cZ cG    r2 a2 x4 hc5) (va_cwS 3 hts gX7_isBest_X7_points rfl rfl rfl (by decide +kernel) ⟨Nat.le_of_ble_eq_true rfl, Nat.le_of_ble_eq_true rfl⟩) hK hN (hP.sub [] rfl) rfl hl.1 rfl (Nat.le_of_ble_eq_true rfl) dX7_isBest_29 ⟨Nat.zero_le _, Nat.zero_le _⟩ ?_
        refine lv_iload_n hx hb dX7_isBest_32 rfl (lv_at hl 2 rfl) ?_
        refine lv_icmp_le (tgt := 38) hx hb dX7_isBest_33 (by decide) (fun c6 => ?_) (fun c6 => ?_)
        · have hf := g_pos c6 hf
          refine lv_iinc (v := (x4 + (1 : Int32))) (lv' := [(4, .int (x4 + (1 : Int32))), (0, .int a0), (2, .int a2), (3, .int x3)]) hx hb dX7_isBest_38 hl (k := 3) rfl rfl (by decide) rfl (fun ls hl => ?_)
          refine lv_goto (tgt := 14) hx hb dX7_isBest_41 (by decide) ?_
          exact ih14 x3 (x4 + (1 : Int32)) ls hf (lv_sub hl [1, 2, 3, 0] rfl)
        · have hf := g_neg c6 hf
          refine lv_iconst (v := (0 : Int32)) hx hb dX7_isBest_36 (by decide) ?_
          rw [hQ]
          exact W.zret (v := (0 : Int32)) hx hb hr (by decide +kernel) (fun t ht hW => ⟨_, rfl, Option.some.inj hf, ht⟩) (fun q h => by cases h) dX7_isBest_37
  unfold x7_isBest at hf
  refine lv_iload_n hx hb dX7_isBest_0 rfl (lv_at hl 0 rfl) ?_
  refine lv_iload_n hx hb dX7_isBest_1 rfl (lv_at hl 1 rfl) ?_
  obtain ⟨r7, hc8, hf⟩ := g_b1 hf
  refine g_rS (As := [.int a0, .int a1]) (rest := []) ⟨hx, hb, hml, hown, hts⟩ (c_X7_isIn l dC dI cI cZ cG    a0 a1 hc8) (va_cwS 2 hts gX7_isBest_X7_isIn rfl rfl rfl (by decide +kernel) ⟨Nat.le_of_ble_eq_true rfl, Nat.le_of_ble_eq_true rfl⟩) hK hN (hP.sub [] rfl) rfl hl.1 rfl (Nat.le_of_ble_eq_true rfl) dX7_isBest_2 ⟨Nat.zero_le _, Nat.zero_le _⟩ ?_
  refine lv_iload_n hx hb dX7_isBest_5 rfl (lv_at hl 2 rfl) ?_
  refine lv_iload_n hx hb dX7_isBest_6 rfl (lv_at hl 1 rfl) ?_
  obtain ⟨r9, hc10, hf⟩ := g_b1 hf
  refine g_rS (As := [.int r7, .int a2, .int a1]) (rest := []) ⟨hx, hb, hml, hown, hts⟩ (c_X7_points l dC dI cI cZ cG    r7 a2 a1 hc10) (va_cwS 3 hts gX7_isBest_X7_points rfl rfl rfl (by decide +kernel) ⟨Nat.le_of_ble_eq_true rfl, Nat.le_of_ble_eq_true rfl⟩) hK hN (hP.sub [] rfl) rfl hl.1 rfl (Nat.le_of_ble_eq_true rfl) dX7_isBest_7 ⟨Nat.zero_le _, Nat.zero_le _⟩ ?_
  refine lv_istore_n (lv' := [(3, .int r9), (0, .int a0), (1, .int a1), (2, .int a2)]) hx hb dX7_isBest_10 rfl hl (by decide) rfl (fun ls hl => ?_)
  refine lv_iconst (v := (0 : Int32)) hx hb dX7_isBest_11 (by decide) ?_
  refine lv_istore (lv' := [(4, .int (0 : Int32)), (3, .int r9), (0, .int a0), (1, .int a1), (2, .int a2)]) hx hb dX7_isBest_12 hl (by decide) rfl (fun ls hl => ?_)
  exact L14 N r9 (0 : Int32) ls hf (lv_sub hl [2, 4, 1, 0] rfl)
abbrev rm_X7_isFigure : Room := { frames := 0, cells := 0, slots := 0, locals := 0 }
abbrev w_X7_isFigure (cI cZ cG : ClassId) : va_W := []
set_option maxHeartbeats 4000000 in
set_option maxRecDepth 100000 in
theorem c_X7_isFigure (l : Launch) (dC : Nat → ClassId) (dI : Nat → Nat → Nat) (cI cZ cG : ClassId) (a0 : Int32) {r0 : Int32} (hf : x7_isFigure a0 = some r0) : Met l yX7_isFigure wsX7_isFigure rm_X7_isFigure (va_Pc [.int a0] (gR (dC, dI) vwCl (gT cI cZ cG) (w_X7_isFigure cI cZ cG))) (vp_Si (fun r => r = r0)) 0 0 (fun _ => False) := by
  refine Met.ofW (cc := cX7_isFigure) (maxL := 1) (ret := (some .boolean)) (by decide) rfl ?_
  intro p e s m args below meth c s₁ B hml hv
  obtain ⟨rfl, hv⟩ := hv
  obtain ⟨hP, hK, hN⟩ := hv
  have hx := B.exec
  have hb := B.bytes
  have hr := B.returns
  have hts := atoms_spec (ws := wsX7_isFigure) B.pre
  have hown : s.vm.findClass RX7 = some m.cls := findClass_of_methodNamed B.named
  have hlocks := B.notSynchronized
  obtain ⟨Q, hQ⟩ : ∃ Q : State → Prop, Q = MQ below (vp_Si (fun r => r = r0)) (([Value.int a0] : List Value).toArray) s 0 0 (fun _ => False) := ⟨_, rfl⟩
  have hl := lv_entry ([.int a0]) (n := 1) (Nat.le_of_ble_eq_true rfl)
  rw [← hQ, lg_entry_eq]
  generalize (lg_sl ([.int a0]) ++ List.replicate (1 - (lg_sl ([.int a0])).length) Slot.unset).toArray = ls at hl ⊢
  have hl : lv_has ls 1 [(0, .int a0)] := hl
  show W p l e rm_X7_isFigure s m (([Value.int a0] : List Value).toArray) below meth c s.heap [] 0 0 Q (F0 m 0 ls [])
  unfold x7_isFigure at hf
  refine lv_iload_n hx hb dX7_isFigure_0 rfl (lv_at hl 0 rfl) ?_
  refine lv_if_lt (tgt := 14) hx hb dX7_isFigure_1 (by decide) (fun c1 => ?_) (fun c1 => ?_)
  · have hf := g_pos c1 hf
    refine lv_iconst (v := (0 : Int32)) hx hb dX7_isFigure_14 (by decide) ?_
    rw [hQ]
    exact W.zret (v := (0 : Int32)) hx hb hr (by decide +kernel) (fun t ht hW => ⟨_, rfl, Option.some.inj hf, ht⟩) (fun q h => by cases h) dX7_isFigure_15
  · have hf := g_neg c1 hf
    refine lv_iload_n hx hb dX7_isFigure_4 rfl (lv_at hl 0 rfl) ?_
    refine lv_bipush (v := (9 : Int32)) hx hb dX7_isFigure_5 (by decide +kernel) ?_
    refine lv_icmp_gt (tgt := 14) hx hb dX7_isFigure_7 (by decide) (fun c2 => ?_) (fun c2 => ?_)
    · have hf := g_pos c2 hf
      refine lv_iconst (v := (0 : Int32)) hx hb dX7_isFigure_14 (by decide) ?_
      rw [hQ]
      exact W.zret (v := (0 : Int32)) hx hb hr (by decide +kernel) (fun t ht hW => ⟨_, rfl, Option.some.inj hf, ht⟩) (fun q h => by cases h) dX7_isFigure_15
    · have hf := g_neg c2 hf
      refine lv_iconst (v := (1 : Int32)) hx hb dX7_isFigure_10 (by decide) ?_
      refine lv_goto (tgt := 15) hx hb dX7_isFigure_11 (by decide) ?_
      rw [hQ]
      exact W.zret (v := (1 : Int32)) hx hb hr (by decide +kernel) (fun t ht hW => ⟨_, rfl, Option.some.inj hf, ht⟩) (fun q h => by cases h) dX7_isFigure_15
abbrev rm_X7_isPlace : Room := { frames := 0, cells := 0, slots := 0, locals := 0 }
abbrev w_X7_isPlace (cI cZ cG : ClassId) : va_W := []
set_option maxHeartbeats 4000000 in
set_option maxRecDepth 100000 in
theorem c_X7_isPlace (l : Launch) (dC : Nat → ClassId) (dI : Nat → Nat → Nat) (cI cZ cG : ClassId) (a0 : Int32) {r0 : Int32} (hf : x7_isPlace a0 = some r0) : Met l yX7_isPlace wsX7_isPlace rm_X7_isPlace (va_Pc [.int a0] (gR (dC, dI) vwCl (gT cI cZ cG) (w_X7_isPlace cI cZ cG))) (vp_Si (fun r => r = r0)) 0 0 (fun _ => False) := by
  refine Met.ofW (cc := cX7_isPlace) (maxL := 1) (ret := (some .boolean)) (by decide) rfl ?_
  intro p e s m args below meth c s₁ B hml hv
  obtain ⟨rfl, hv⟩ := hv
  obtain ⟨hP, hK, hN⟩ := hv
  have hx := B.exec
  have hb := B.bytes
  have hr := B.returns
  have hts := atoms_spec (ws := wsX7_isPlace) B.pre
  have hown : s.vm.findClass RX7 = some m.cls := findClass_of_methodNamed B.named
  have hlocks := B.notSynchronized
  obtain ⟨Q, hQ⟩ : ∃ Q : State → Prop, Q = MQ below (vp_Si (fun r => r = r0)) (([Value.int a0] : List Value).toArray) s 0 0 (fun _ => False) := ⟨_, rfl⟩
  have hl := lv_entry ([.int a0]) (n := 1) (Nat.le_of_ble_eq_true rfl)
  rw [← hQ, lg_entry_eq]
  generalize (lg_sl ([.int a0]) ++ List.replicate (1 - (lg_sl ([.int a0])).length) Slot.unset).toArray = ls at hl ⊢
  have hl : lv_has ls 1 [(0, .int a0)] := hl
  show W p l e rm_X7_isPlace s m (([Value.int a0] : List Value).toArray) below meth c s.heap [] 0 0 Q (F0 m 0 ls [])
  unfold x7_isPlace at hf
  refine lv_iload_n hx hb dX7_isPlace_0 rfl (lv_at hl 0 rfl) ?_
  refine lv_if_lt (tgt := 14) hx hb dX7_isPlace_1 (by decide) (fun c1 => ?_) (fun c1 => ?_)
  · have hf := g_pos c1 hf
    refine lv_iconst (v := (0 : Int32)) hx hb dX7_isPlace_14 (by decide) ?_
    rw [hQ]
    exact W.zret (v := (0 : Int32)) hx hb hr (by decide +kernel) (fun t ht hW => ⟨_, rfl, Option.some.inj hf, ht⟩) (fun q h => by cases h) dX7_isPlace_15
  · have hf := g_neg c1 hf
    refine lv_iload_n hx hb dX7_isPlace_4 rfl (lv_at hl 0 rfl) ?_
    refine lv_bipush (v := (8 : Int32)) hx hb dX7_isPlace_5 (by decide +kernel) ?_
    refine lv_icmp_ge (tgt := 14) hx hb dX7_isPlace_7 (by decide) (fun c2 => ?_) (fun c2 => ?_)
    · have hf := g_pos c2 hf
      refine lv_iconst (v := (0 : Int32)) hx hb dX7_isPlace_14 (by decide) ?_
      rw [hQ]
      exact W.zret (v := (0 : Int32)) hx hb hr (by decide +kernel) (fun t ht hW => ⟨_, rfl, Option.some.inj hf, ht⟩) (fun q h => by cases h) dX7_isPlace_15
    · have hf := g_neg c2 hf
      refine lv_iconst (v := (1 : Int32)) hx hb dX7_isPlace_10 (by decide) ?_
      refine lv_goto (tgt := 15) hx hb dX7_isPlace_11 (by decide) ?_
      rw [hQ]
      exact W.zret (v := (1 : Int32)) hx hb hr (by decide +kernel) (fun t ht hW => ⟨_, rfl, Option.some.inj hf, ht⟩) (fun q h => by cases h) dX7_isPlace_15
abbrev rm_X7_isStuff : Room := { frames := 0, cells := 0, slots := 0, locals := 0 }
abbrev w_X7_isStuff (cI cZ cG : ClassId) : va_W := []
set_option maxHeartbeats 4000000 in
set_option maxRecDepth 100000 in
theorem c_X7_isStuff (l : Launch) (dC : Nat → ClassId) (dI : Nat → Nat → Nat) (cI cZ cG : ClassId) (a0 : Int32) {r0 : Int32} (hf : x7_isStuff a0 = some r0) : Met l yX7_isStuff wsX7_isStuff rm_X7_isStuff (va_Pc [.int a0] (gR (dC, dI) vwCl (gT cI cZ cG) (w_X7_isStuff cI cZ cG))) (vp_Si (fun r => r = r0)) 0 0 (fun _ => False) := by
  refine Met.ofW (cc := cX7_isStuff) (maxL := 1) (ret := (some .boolean)) (by decide) rfl ?_
  intro p e s m args below meth c s₁ B hml hv
  obtain ⟨rfl, hv⟩ := hv
  obtain ⟨hP, hK, hN⟩ := hv
  have hx := B.exec
  have hb := B.bytes
  have hr := B.returns
  have hts := atoms_spec (ws := wsX7_isStuff) B.pre
  have hown : s.vm.findClass RX7 = some m.cls := findClass_of_methodNamed B.named
  have hlocks := B.notSynchronized
  obtain ⟨Q, hQ⟩ : ∃ Q : State → Prop, Q = MQ below (vp_Si (fun r => r = r0)) (([Value.int a0] : List Value).toArray) s 0 0 (fun _ => False) := ⟨_, rfl⟩
  have hl := lv_entry ([.int a0]) (n := 1) (Nat.le_of_ble_eq_true rfl)
  rw [← hQ, lg_entry_eq]
  generalize (lg_sl ([.int a0]) ++ List.replicate (1 - (lg_sl ([.int a0])).length) Slot.unset).toArray = ls at hl ⊢
  have hl : lv_has ls 1 [(0, .int a0)] := hl
  show W p l e rm_X7_isStuff s m (([Value.int a0] : List Value).toArray) below meth c s.heap [] 0 0 Q (F0 m 0 ls [])
  unfold x7_isStuff at hf
  refine lv_iload_n hx hb dX7_isStuff_0 rfl (lv_at hl 0 rfl) ?_
  refine lv_if_lt (tgt := 13) hx hb dX7_isStuff_1 (by decide) (fun c1 => ?_) (fun c1 => ?_)
  · have hf := g_pos c1 hf
    refine lv_iconst (v := (0 : Int32)) hx hb dX7_isStuff_13 (by decide) ?_
    rw [hQ]
    exact W.zret (v := (0 : Int32)) hx hb hr (by decide +kernel) (fun t ht hW => ⟨_, rfl, Option.some.inj hf, ht⟩) (fun q h => by cases h) dX7_isStuff_14
  · have hf := g_neg c1 hf
    refine lv_iload_n hx hb dX7_isStuff_4 rfl (lv_at hl 0 rfl) ?_
    refine lv_iconst (v := (4 : Int32)) hx hb dX7_isStuff_5 (by decide) ?_
    refine lv_icmp_ge (tgt := 13) hx hb dX7_isStuff_6 (by decide) (fun c2 => ?_) (fun c2 => ?_)
    · have hf := g_pos c2 hf
      refine lv_iconst (v := (0 : Int32)) hx hb dX7_isStuff_13 (by decide) ?_
      rw [hQ]
      exact W.zret (v := (0 : Int32)) hx hb hr (by decide +kernel) (fun t ht hW => ⟨_, rfl, Option.some.inj hf, ht⟩) (fun q h => by cases h) dX7_isStuff_14
    · have hf := g_neg c2 hf
      refine lv_iconst (v := (1 : Int32)) hx hb dX7_isStuff_9 (by decide) ?_
      refine lv_goto (tgt := 14) hx hb dX7_isStuff_10 (by decide) ?_
      rw [hQ]
      exact W.zret (v := (1 : Int32)) hx hb hr (by decide +kernel) (fun t ht hW => ⟨_, rfl, Option.some.inj hf, ht⟩) (fun q h => by cases h) dX7_isStuff_14
abbrev rm_X7_ordersOf : Room := { frames := 0, cells := 0, slots := 0, locals := 0 }
abbrev w_X7_ordersOf (cI cZ cG : ClassId) : va_W := []
set_option maxHeartbeats 4000000 in
set_option maxRecDepth 100000 in
theorem c_X7_ordersOf (l : Launch) (dC : Nat → ClassId) (dI : Nat → Nat → Nat) (cI cZ cG : ClassId) (tO : Nat) (a0 : Int32) {r0 : Int32} (hf : x7_ordersOf a0 = some r0) : Met l yX7_ordersOf wsX7_ordersOf rm_X7_ordersOf (va_Pc [.int a0] (fun U => gR (dC, dI) vwCl (gT cI cZ cG) (w_X7_ordersOf cI cZ cG) U ∧ gO tO (fun _ => False) U)) (vp_Si (fun r => r = r0)) 0 0 (fun _ => False) := by
  refine Met.ofW (cc := cX7_ordersOf) (maxL := 1) (ret := (some .int)) (by decide) rfl ?_
  intro p e s m args below meth c s₁ B hml hv
  obtain ⟨rfl, hv⟩ := hv
  obtain ⟨hv, hO⟩ := hv
  have hS : va_S (fun _ => False) s.heap s.heap [] := va_S.rf
  obtain ⟨hP, hK, hN⟩ := hv
  have hx := B.exec
  have hb := B.bytes
  have hr := B.returns
  have hts := atoms_spec (ws := wsX7_ordersOf) B.pre
  have hown : s.vm.findClass RX7 = some m.cls := findClass_of_methodNamed B.named
  have hlocks := B.notSynchronized
  obtain ⟨Q, hQ⟩ : ∃ Q : State → Prop, Q = MQ below (vp_Si (fun r => r = r0)) (([Value.int a0] : List Value).toArray) s 0 0 (fun _ => False) := ⟨_, rfl⟩
  have hl := lv_entry ([.int a0]) (n := 1) (Nat.le_of_ble_eq_true rfl)
  rw [← hQ, lg_entry_eq]
  generalize (lg_sl ([.int a0]) ++ List.replicate (1 - (lg_sl ([.int a0])).length) Slot.unset).toArray = ls at hl ⊢
  have hl : lv_has ls 1 [(0, .int a0)] := hl
  show W p l e rm_X7_ordersOf s m (([Value.int a0] : List Value).toArray) below meth c s.heap [] 0 0 Q (F0 m 0 ls [])
  unfold x7_ordersOf at hf
  refine lv_iload_n hx hb dX7_ordersOf_0 rfl (lv_at hl 0 rfl) ?_
  refine lv_if_lt (tgt := 20) hx hb dX7_ordersOf_1 (by decide) (fun c1 => ?_) (fun c1 => ?_)
  · have hf := g_pos c1 hf
    refine lv_iconst (v := (0 : Int32)) hx hb dX7_ordersOf_20 (by decide) ?_
    rw [hQ]
    exact W.iret (v := (0 : Int32)) hx hb hr (fun t ht hW => ⟨_, rfl, Option.some.inj hf, ht⟩) (fun q h => by cases h) dX7_ordersOf_21
  · have hf := g_neg c1 hf
    refine lv_iload_n hx hb dX7_ordersOf_4 rfl (lv_at hl 0 rfl) ?_
    refine va_gets hx hb hO.1 hS hown (hts (.fieldLink RX7 293 "GreenJars" "ORDERS" "[I") (by decide +kernel)) (fun _ h => h) dX7_ordersOf_5 ?_
    refine va_tlen (v := (7 : Int32)) hx hb hO.2 hS rfl dX7_ordersOf_8 ?_
    refine lv_icmp_ge (tgt := 20) hx hb dX7_ordersOf_9 (by decide) (fun c2 => ?_) (fun c2 => ?_)
    · have hf := g_pos c2 hf
      refine lv_iconst (v := (0 : Int32)) hx hb dX7_ordersOf_20 (by decide) ?_
      rw [hQ]
      exact W.iret (v := (0 : Int32)) hx hb hr (fun t ht hW => ⟨_, rfl, Option.some.inj hf, ht⟩) (fun q h => by cases h) dX7_ordersOf_21
    · have hf := g_neg c2 hf
      refine va_gets hx hb hO.1 hS hown (hts (.fieldLink RX7 293 "GreenJars" "ORDERS" "[I") (by decide +kernel)) (fun _ h => h) dX7_ordersOf_12 ?_
      refine lv_iload_n hx hb dX7_ordersOf_15 rfl (lv_at hl 0 rfl) ?_
      obtain ⟨h3, hf⟩ := g_chk hf
      refine va_ti hx hb hO.2 hS (gIn_vp h3) rfl dX7_ordersOf_16 ?_
      refine lv_goto (tgt := 21) hx hb dX7_ordersOf_17 (by decide) ?_
      rw [hQ]
      exact W.iret (v := (gOrd a0.toNatClampNeg)) hx hb hr (fun t ht hW => ⟨_, rfl, Option.some.inj hf, ht⟩) (fun q h => by cases h) dX7_ordersOf_21
abbrev rm_X7_power : Room := { frames := 0, cells := 0, slots := 0, locals := 0 }
abbrev w_X7_power (cI cZ cG : ClassId) : va_W := []
set_option maxHeartbeats 4000000 in
set_option maxRecDepth 100000 in
theorem c_X7_power (l : Launch) (dC : Nat → ClassId) (dI : Nat → Nat → Nat) (cI cZ cG : ClassId) {N : Nat} (a0 : Int32) (a1 : Int32) {r0 : Int32} (hf : x7_power N a0 a1 = some r0) : Met l yX7_power wsX7_power rm_X7_power (va_Pc [.int a0, .int a1] (gR (dC, dI) vwCl (gT cI cZ cG) (w_X7_power cI cZ cG))) (vp_Si (fun r => r = r0)) 0 0 (fun _ => False) := by
  refine Met.ofW (cc := cX7_power) (maxL := 4) (ret := (some .int)) (by decide) rfl ?_
  intro p e s m args below meth c s₁ B hml hv
  obtain ⟨rfl, hv⟩ := hv
  obtain ⟨hP, hK, hN⟩ := hv
  have hx := B.exec
  have hb := B.bytes
  have hr := B.returns
  have hts := atoms_spec (ws := wsX7_power) B.pre
  have hown : s.vm.findClass RX7 = some m.cls := findClass_of_methodNamed B.named
  have hlocks := B.notSynchronized
  obtain ⟨Q, hQ⟩ : ∃ Q : State → Prop, Q = MQ below (vp_Si (fun r => r = r0)) (([Value.int a0, Value.int a1] : List Value).toArray) s 0 0 (fun _ => False) := ⟨_, rfl⟩
  have hl := lv_entry ([.int a0, .int a1]) (n := 4) (Nat.le_of_ble_eq_true rfl)
  rw [← hQ, lg_entry_eq]
  generalize (lg_sl ([.int a0, .int a1]) ++ List.replicate (4 - (lg_sl ([.int a0, .int a1])).length) Slot.unset).toArray = ls at hl ⊢
  have hl : lv_has ls 4 [(0, .int a0), (1, .int a1)] := hl
  show W p l e rm_X7_power s m (([Value.int a0, Value.int a1] : List Value).toArray) below meth c s.heap [] 0 0 Q (F0 m 0 ls [])
  have L4 : ∀ (n4 : Nat), ∀ (x2 : Int32) (x3 : Int32) (ls : Array Slot), x7_power_b4 N a0 a1 n4 x2 x3 = some r0 → lv_has ls 4 [(0, .int a0), (1, .int a1), (2, .int x2), (3, .int x3)] → W p l e rm_X7_power s m (([Value.int a0, Value.int a1] : List Value).toArray) below meth c s.heap [] 0 0 Q (F0 m 4 ls []) := by
    intro n4
    induction n4 with
    | zero =>
      intro x2 x3 ls hf hl
      exact g_no hf
    | succ n4 ih4 =>
      intro x2 x3 ls hf hl
      unfold x7_power_b4 at hf
      refine lv_iload_n hx hb dX7_power_4 rfl (lv_at hl 3 rfl) ?_
      refine lv_iload_n hx hb dX7_power_5 rfl (lv_at hl 1 rfl) ?_
      refine lv_icmp_ge (tgt := 19) hx hb dX7_power_6 (by decide) (fun c1 => ?_) (fun c1 => ?_)
      · have hf := g_pos c1 hf
        refine lv_iload_n hx hb dX7_power_19 rfl (lv_at hl 2 rfl) ?_
        rw [hQ]
        exact W.iret (v := x2) hx hb hr (fun t ht hW => ⟨_, rfl, Option.some.inj hf, ht⟩) (fun q h => by cases h) dX7_power_20
      · have hf := g_neg c1 hf
        refine lv_iload_n hx hb dX7_power_9 rfl (lv_at hl 2 rfl) ?_
        refine lv_iload_n hx hb dX7_power_10 rfl (lv_at hl 0 rfl) ?_
        refine lv_imul hx hb dX7_power_11 ?_
        refine lv_istore_n (lv' := [(2, .int (x2 * a0)), (0, .int a0), (1, .int a1), (3, .int x3)]) hx hb dX7_power_12 rfl hl (by decide) rfl (fun ls hl => ?_)
        refine lv_iinc (v := (x3 + (1 : Int32))) (lv' := [(3, .int (x3 + (1 : Int32))), (2, .int (x2 * a0)), (0, .int a0), (1, .int a1)]) hx hb dX7_power_13 hl (k := 3) rfl rfl (by decide) rfl (fun ls hl => ?_)
        refine lv_goto (tgt := 4) hx hb dX7_power_16 (by decide) ?_
        exact ih4 (x2 * a0) (x3 + (1 : Int32)) ls hf (lv_sub hl [2, 3, 1, 0] rfl)
  unfold x7_power at hf
  refine lv_iconst (v := (1 : Int32)) hx hb dX7_power_0 (by decide) ?_
  refine lv_istore_n (lv' := [(2, .int (1 : Int32)), (0, .int a0), (1, .int a1)]) hx hb dX7_power_1 rfl hl (by decide) rfl (fun ls hl => ?_)
  refine lv_iconst (v := (0 : Int32)) hx hb dX7_power_2 (by decide) ?_
  refine lv_istore_n (lv' := [(3, .int (0 : Int32)), (2, .int (1 : Int32)), (0, .int a0), (1, .int a1)]) hx hb dX7_power_3 rfl hl (by decide) rfl (fun ls hl => ?_)
  exact L4 N (1 : Int32) (0 : Int32) ls hf (lv_sub hl [2, 3, 1, 0] rfl)
abbrev rm_J6_bitCount_0f7a4 : Room := { frames := 0, cells := 0, slots := 0, locals := 0 }
abbrev w_J6_bitCount_0f7a4 (cI cZ cG : ClassId) : va_W := []
set_option maxHeartbeats 4000000 in
set_option maxRecDepth 100000 in
theorem c_J6_bitCount_0f7a4 (l : Launch) (dC : Nat → ClassId) (dI : Nat → Nat → Nat) (cI cZ cG : ClassId) (a0 : Int32) {r0 : Int32} (hf : j6_bitCount a0 = some r0) : Met l yJ6_bitCount_0f7a4 wsJ6_bitCount_0f7a4 rm_J6_bitCount_0f7a4 (va_Pc [.int a0] (gR (dC, dI) vwCl (gT cI cZ cG) (w_J6_bitCount_0f7a4 cI cZ cG))) (vp_Si (fun r => r = r0)) 0 0 (fun _ => False) := by
  refine Met.ofW (cc := cJ6_bitCount_0f7a4) (maxL := 1) (ret := (some .int)) (by decide) rfl ?_
  intro p e s m args below meth c s₁ B hml hv
  obtain ⟨rfl, hv⟩ := hv
  obtain ⟨hP, hK, hN⟩ := hv
  have hx := B.exec
  have hb := B.bytes
  have hr := B.returns
  have hts := atoms_spec (ws := wsJ6_bitCount_0f7a4) B.pre
  have hown : s.vm.findClass RJ6 = some m.cls := findClass_of_methodNamed B.named
  have hlocks := B.notSynchronized
  obtain ⟨Q, hQ⟩ : ∃ Q : State → Prop, Q = MQ below (vp_Si (fun r => r = r0)) (([Value.int a0] : List Value).toArray) s 0 0 (fun _ => False) := ⟨_, rfl⟩
  have hl := lv_entry ([.int a0]) (n := 1) (Nat.le_of_ble_eq_true rfl)
  rw [← hQ, lg_entry_eq]
  generalize (lg_sl ([.int a0]) ++ List.replicate (1 - (lg_sl ([.int a0])).length) Slot.unset).toArray = ls at hl ⊢
  have hl : lv_has ls 1 [(0, .int a0)] := hl
  show W p l e rm_J6_bitCount_0f7a4 s m (([Value.int a0] : List Value).toArray) below meth c s.heap [] 0 0 Q (F0 m 0 ls [])
  unfold j6_bitCount at hf
  refine lv_iload_n hx hb dJ6_bitCount_0f7a4_0 rfl (lv_at hl 0 rfl) ?_
  refine lv_iload_n hx hb dJ6_bitCount_0f7a4_1 rfl (lv_at hl 0 rfl) ?_
  refine lv_iconst (v := (1 : Int32)) hx hb dJ6_bitCount_0f7a4_2 (by decide) ?_
  refine lv_iushr hx hb dJ6_bitCount_0f7a4_3 rfl ?_
  refine lv_ldcw (v := (1431655765 : Int32)) hx hb hown (hts (.constant RJ6 265 (1431655765 : Int32)) (by decide +kernel)) dJ6_bitCount_0f7a4_4 ?_
  refine lv_iand hx hb dJ6_bitCount_0f7a4_7 ?_
  refine lv_isub hx hb dJ6_bitCount_0f7a4_8 ?_
  refine lv_istore_n (lv' := [(0, .int (a0 - ((a0.toUInt32 >>> ((1 : Int32).toUInt32 &&& Int32.toUInt32 31)).toInt32 &&& (1431655765 : Int32))))]) hx hb dJ6_bitCount_0f7a4_9 rfl hl (by decide) rfl (fun ls hl => ?_)
  refine lv_iload_n hx hb dJ6_bitCount_0f7a4_10 rfl (lv_at hl 0 rfl) ?_
  refine lv_ldcw (v := (858993459 : Int32)) hx hb hown (hts (.constant RJ6 266 (858993459 : Int32)) (by decide +kernel)) dJ6_bitCount_0f7a4_11 ?_
  refine lv_iand hx hb dJ6_bitCount_0f7a4_14 ?_
  refine lv_iload_n hx hb dJ6_bitCount_0f7a4_15 rfl (lv_at hl 0 rfl) ?_
  refine lv_iconst (v := (2 : Int32)) hx hb dJ6_bitCount_0f7a4_16 (by decide) ?_
  refine lv_iushr hx hb dJ6_bitCount_0f7a4_17 rfl ?_
  refine lv_ldcw (v := (858993459 : Int32)) hx hb hown (hts (.constant RJ6 266 (858993459 : Int32)) (by decide +kernel)) dJ6_bitCount_0f7a4_18 ?_
  refine lv_iand hx hb dJ6_bitCount_0f7a4_21 ?_
  refine lv_iadd hx hb dJ6_bitCount_0f7a4_22 ?_
  refine lv_istore_n (lv' := [(0, .int (((a0 - ((a0.toUInt32 >>> ((1 : Int32).toUInt32 &&& Int32.toUInt32 31)).toInt32 &&& (1431655765 : Int32))) &&& (858993459 : Int32)) + (((a0 - ((a0.toUInt32 >>> ((1 : Int32).toUInt32 &&& Int32.toUInt32 31)).toInt32 &&& (1431655765 : Int32))).toUInt32 >>> ((2 : Int32).toUInt32 &&& Int32.toUInt32 31)).toInt32 &&& (858993459 : Int32))))]) hx hb dJ6_bitCount_0f7a4_23 rfl hl (by decide) rfl (fun ls hl => ?_)
  refine lv_iload_n hx hb dJ6_bitCount_0f7a4_24 rfl (lv_at hl 0 rfl) ?_
  refine lv_iload_n hx hb dJ6_bitCount_0f7a4_25 rfl (lv_at hl 0 rfl) ?_
  refine lv_iconst (v := (4 : Int32)) hx hb dJ6_bitCount_0f7a4_26 (by decide) ?_
  refine lv_iushr hx hb dJ6_bitCount_0f7a4_27 rfl ?_
  refine lv_iadd hx hb dJ6_bitCount_0f7a4_28 ?_
  refine lv_ldcw (v := (252645135 : Int32)) hx hb hown (hts (.constant RJ6 267 (252645135 : Int32)) (by decide +kernel)) dJ6_bitCount_0f7a4_29 ?_
  refine lv_iand hx hb dJ6_bitCount_0f7a4_32 ?_
  refine lv_istore_n (lv' := [(0, .int (((((a0 - ((a0.toUInt32 >>> ((1 : Int32).toUInt32 &&& Int32.toUInt32 31)).toInt32 &&& (1431655765 : Int32))) &&& (858993459 : Int32)) + (((a0 - ((a0.toUInt32 >>> ((1 : Int32).toUInt32 &&& Int32.toUInt32 31)).toInt32 &&& (1431655765 : Int32))).toUInt32 >>> ((2 : Int32).toUInt32 &&& Int32.toUInt32 31)).toInt32 &&& (858993459 : Int32))) + ((((a0 - ((a0.toUInt32 >>> ((1 : Int32).toUInt32 &&& Int32.toUInt32 31)).toInt32 &&& (1431655765 : Int32))) &&& (858993459 : Int32)) + (((a0 - ((a0.toUInt32 >>> ((1 : Int32).toUInt32 &&& Int32.toUInt32 31)).toInt32 &&& (1431655765 : Int32))).toUInt32 >>> ((2 : Int32).toUInt32 &&& Int32.toUInt32 31)).toInt32 &&& (858993459 : Int32))).toUInt32 >>> ((4 : Int32).toUInt32 &&& Int32.toUInt32 31)).toInt32) &&& (252645135 : Int32)))]) hx hb dJ6_bitCount_0f7a4_33 rfl hl (by decide) rfl (fun ls hl => ?_)
  refine lv_iload_n hx hb dJ6_bitCount_0f7a4_34 rfl (lv_at hl 0 rfl) ?_
  refine lv_iload_n hx hb dJ6_bitCount_0f7a4_35 rfl (lv_at hl 0 rfl) ?_
  refine lv_bipush (v := (8 : Int32)) hx hb dJ6_bitCount_0f7a4_36 (by decide +kernel) ?_
  refine lv_iushr hx hb dJ6_bitCount_0f7a4_38 rfl ?_
  refine lv_iadd hx hb dJ6_bitCount_0f7a4_39 ?_
  refine lv_istore_n (lv' := [(0, .int ((((((a0 - ((a0.toUInt32 >>> ((1 : Int32).toUInt32 &&& Int32.toUInt32 31)).toInt32 &&& (1431655765 : Int32))) &&& (858993459 : Int32)) + (((a0 - ((a0.toUInt32 >>> ((1 : Int32).toUInt32 &&& Int32.toUInt32 31)).toInt32 &&& (1431655765 : Int32))).toUInt32 >>> ((2 : Int32).toUInt32 &&& Int32.toUInt32 31)).toInt32 &&& (858993459 : Int32))) + ((((a0 - ((a0.toUInt32 >>> ((1 : Int32).toUInt32 &&& Int32.toUInt32 31)).toInt32 &&& (1431655765 : Int32))) &&& (858993459 : Int32)) + (((a0 - ((a0.toUInt32 >>> ((1 : Int32).toUInt32 &&& Int32.toUInt32 31)).toInt32 &&& (1431655765 : Int32))).toUInt32 >>> ((2 : Int32).toUInt32 &&& Int32.toUInt32 31)).toInt32 &&& (858993459 : Int32))).toUInt32 >>> ((4 : Int32).toUInt32 &&& Int32.toUInt32 31)).toInt32) &&& (252645135 : Int32)) + ((((((a0 - ((a0.toUInt32 >>> ((1 : Int32).toUInt32 &&& Int32.toUInt32 31)).toInt32 &&& (1431655765 : Int32))) &&& (858993459 : Int32)) + (((a0 - ((a0.toUInt32 >>> ((1 : Int32).toUInt32 &&& Int32.toUInt32 31)).toInt32 &&& (1431655765 : Int32))).toUInt32 >>> ((2 : Int32).toUInt32 &&& Int32.toUInt32 31)).toInt32 &&& (858993459 : Int32))) + ((((a0 - ((a0.toUInt32 >>> ((1 : Int32).toUInt32 &&& Int32.toUInt32 31)).toInt32 &&& (1431655765 : Int32))) &&& (858993459 : Int32)) + (((a0 - ((a0.toUInt32 >>> ((1 : Int32).toUInt32 &&& Int32.toUInt32 31)).toInt32 &&& (1431655765 : Int32))).toUInt32 >>> ((2 : Int32).toUInt32 &&& Int32.toUInt32 31)).toInt32 &&& (858993459 : Int32))).toUInt32 >>> ((4 : Int32).toUInt32 &&& Int32.toUInt32 31)).toInt32) &&& (252645135 : Int32)).toUInt32 >>> ((8 : Int32).toUInt32 &&& Int32.toUInt32 31)).toInt32))]) hx hb dJ6_bitCount_0f7a4_40 rfl hl (by decide) rfl (fun ls hl => ?_)
  refine lv_iload_n hx hb dJ6_bitCount_0f7a4_41 rfl (lv_at hl 0 rfl) ?_
  refine lv_iload_n hx hb dJ6_bitCount_0f7a4_42 rfl (lv_at hl 0 rfl) ?_
  refine lv_bipush (v := (16 : Int32)) hx hb dJ6_bitCount_0f7a4_43 (by decide +kernel) ?_
  refine lv_iushr hx hb dJ6_bitCount_0f7a4_45 rfl ?_
  refine lv_iadd hx hb dJ6_bitCount_0f7a4_46 ?_
  refine lv_istore_n (lv' := [(0, .int (((((((a0 - ((a0.toUInt32 >>> ((1 : Int32).toUInt32 &&& Int32.toUInt32 31)).toInt32 &&& (1431655765 : Int32))) &&& (858993459 : Int32)) + (((a0 - ((a0.toUInt32 >>> ((1 : Int32).toUInt32 &&& Int32.toUInt32 31)).toInt32 &&& (1431655765 : Int32))).toUInt32 >>> ((2 : Int32).toUInt32 &&& Int32.toUInt32 31)).toInt32 &&& (858993459 : Int32))) + ((((a0 - ((a0.toUInt32 >>> ((1 : Int32).toUInt32 &&& Int32.toUInt32 31)).toInt32 &&& (1431655765 : Int32))) &&& (858993459 : Int32)) + (((a0 - ((a0.toUInt32 >>> ((1 : Int32).toUInt32 &&& Int32.toUInt32 31)).toInt32 &&& (1431655765 : Int32))).toUInt32 >>> ((2 : Int32).toUInt32 &&& Int32.toUInt32 31)).toInt32 &&& (858993459 : Int32))).toUInt32 >>> ((4 : Int32).toUInt32 &&& Int32.toUInt32 31)).toInt32) &&& (252645135 : Int32)) + ((((((a0 - ((a0.toUInt32 >>> ((1 : Int32).toUInt32 &&& Int32.toUInt32 31)).toInt32 &&& (1431655765 : Int32))) &&& (858993459 : Int32)) + (((a0 - ((a0.toUInt32 >>> ((1 : Int32).toUInt32 &&& Int32.toUInt32 31)).toInt32 &&& (1431655765 : Int32))).toUInt32 >>> ((2 : Int32).toUInt32 &&& Int32.toUInt32 31)).toInt32 &&& (858993459 : Int32))) + ((((a0 - ((a0.toUInt32 >>> ((1 : Int32).toUInt32 &&& Int32.toUInt32 31)).toInt32 &&& (1431655765 : Int32))) &&& (858993459 : Int32)) + (((a0 - ((a0.toUInt32 >>> ((1 : Int32).toUInt32 &&& Int32.toUInt32 31)).toInt32 &&& (1431655765 : Int32))).toUInt32 >>> ((2 : Int32).toUInt32 &&& Int32.toUInt32 31)).toInt32 &&& (858993459 : Int32))).toUInt32 >>> ((4 : Int32).toUInt32 &&& Int32.toUInt32 31)).toInt32) &&& (252645135 : Int32)).toUInt32 >>> ((8 : Int32).toUInt32 &&& Int32.toUInt32 31)).toInt32) + (((((((a0 - ((a0.toUInt32 >>> ((1 : Int32).toUInt32 &&& Int32.toUInt32 31)).toInt32 &&& (1431655765 : Int32))) &&& (858993459 : Int32)) + (((a0 - ((a0.toUInt32 >>> ((1 : Int32).toUInt32 &&& Int32.toUInt32 31)).toInt32 &&& (1431655765 : Int32))).toUInt32 >>> ((2 : Int32).toUInt32 &&& Int32.toUInt32 31)).toInt32 &&& (858993459 : Int32))) + ((((a0 - ((a0.toUInt32 >>> ((1 : Int32).toUInt32 &&& Int32.toUInt32 31)).toInt32 &&& (1431655765 : Int32))) &&& (858993459 : Int32)) + (((a0 - ((a0.toUInt32 >>> ((1 : Int32).toUInt32 &&& Int32.toUInt32 31)).toInt32 &&& (1431655765 : Int32))).toUInt32 >>> ((2 : Int32).toUInt32 &&& Int32.toUInt32 31)).toInt32 &&& (858993459 : Int32))).toUInt32 >>> ((4 : Int32).toUInt32 &&& Int32.toUInt32 31)).toInt32) &&& (252645135 : Int32)) + ((((((a0 - ((a0.toUInt32 >>> ((1 : Int32).toUInt32 &&& Int32.toUInt32 31)).toInt32 &&& (1431655765 : Int32))) &&& (858993459 : Int32)) + (((a0 - ((a0.toUInt32 >>> ((1 : Int32).toUInt32 &&& Int32.toUInt32 31)).toInt32 &&& (1431655765 : Int32))).toUInt32 >>> ((2 : Int32).toUInt32 &&& Int32.toUInt32 31)).toInt32 &&& (858993459 : Int32))) + ((((a0 - ((a0.toUInt32 >>> ((1 : Int32).toUInt32 &&& Int32.toUInt32 31)).toInt32 &&& (1431655765 : Int32))) &&& (858993459 : Int32)) + (((a0 - ((a0.toUInt32 >>> ((1 : Int32).toUInt32 &&& Int32.toUInt32 31)).toInt32 &&& (1431655765 : Int32))).toUInt32 >>> ((2 : Int32).toUInt32 &&& Int32.toUInt32 31)).toInt32 &&& (858993459 : Int32))).toUInt32 >>> ((4 : Int32).toUInt32 &&& Int32.toUInt32 31)).toInt32) &&& (252645135 : Int32)).toUInt32 >>> ((8 : Int32).toUInt32 &&& Int32.toUInt32 31)).toInt32).toUInt32 >>> ((16 : Int32).toUInt32 &&& Int32.toUInt32 31)).toInt32))]) hx hb dJ6_bitCount_0f7a4_47 rfl hl (by decide) rfl (fun ls hl => ?_)
  refine lv_iload_n hx hb dJ6_bitCount_0f7a4_48 rfl (lv_at hl 0 rfl) ?_
  refine lv_bipush (v := (63 : Int32)) hx hb dJ6_bitCount_0f7a4_49 (by decide +kernel) ?_
  refine lv_iand hx hb dJ6_bitCount_0f7a4_51 ?_
  rw [hQ]
  exact W.iret (v := ((((((((a0 - ((a0.toUInt32 >>> ((1 : Int32).toUInt32 &&& Int32.toUInt32 31)).toInt32 &&& (1431655765 : Int32))) &&& (858993459 : Int32)) + (((a0 - ((a0.toUInt32 >>> ((1 : Int32).toUInt32 &&& Int32.toUInt32 31)).toInt32 &&& (1431655765 : Int32))).toUInt32 >>> ((2 : Int32).toUInt32 &&& Int32.toUInt32 31)).toInt32 &&& (858993459 : Int32))) + ((((a0 - ((a0.toUInt32 >>> ((1 : Int32).toUInt32 &&& Int32.toUInt32 31)).toInt32 &&& (1431655765 : Int32))) &&& (858993459 : Int32)) + (((a0 - ((a0.toUInt32 >>> ((1 : Int32).toUInt32 &&& Int32.toUInt32 31)).toInt32 &&& (1431655765 : Int32))).toUInt32 >>> ((2 : Int32).toUInt32 &&& Int32.toUInt32 31)).toInt32 &&& (858993459 : Int32))).toUInt32 >>> ((4 : Int32).toUInt32 &&& Int32.toUInt32 31)).toInt32) &&& (252645135 : Int32)) + ((((((a0 - ((a0.toUInt32 >>> ((1 : Int32).toUInt32 &&& Int32.toUInt32 31)).toInt32 &&& (1431655765 : Int32))) &&& (858993459 : Int32)) + (((a0 - ((a0.toUInt32 >>> ((1 : Int32).toUInt32 &&& Int32.toUInt32 31)).toInt32 &&& (1431655765 : Int32))).toUInt32 >>> ((2 : Int32).toUInt32 &&& Int32.toUInt32 31)).toInt32 &&& (858993459 : Int32))) + ((((a0 - ((a0.toUInt32 >>> ((1 : Int32).toUInt32 &&& Int32.toUInt32 31)).toInt32 &&& (1431655765 : Int32))) &&& (858993459 : Int32)) + (((a0 - ((a0.toUInt32 >>> ((1 : Int32).toUInt32 &&& Int32.toUInt32 31)).toInt32 &&& (1431655765 : Int32))).toUInt32 >>> ((2 : Int32).toUInt32 &&& Int32.toUInt32 31)).toInt32 &&& (858993459 : Int32))).toUInt32 >>> ((4 : Int32).toUInt32 &&& Int32.toUInt32 31)).toInt32) &&& (252645135 : Int32)).toUInt32 >>> ((8 : Int32).toUInt32 &&& Int32.toUInt32 31)).toInt32) + (((((((a0 - ((a0.toUInt32 >>> ((1 : Int32).toUInt32 &&& Int32.toUInt32 31)).toInt32 &&& (1431655765 : Int32))) &&& (858993459 : Int32)) + (((a0 - ((a0.toUInt32 >>> ((1 : Int32).toUInt32 &&& Int32.toUInt32 31)).toInt32 &&& (1431655765 : Int32))).toUInt32 >>> ((2 : Int32).toUInt32 &&& Int32.toUInt32 31)).toInt32 &&& (858993459 : Int32))) + ((((a0 - ((a0.toUInt32 >>> ((1 : Int32).toUInt32 &&& Int32.toUInt32 31)).toInt32 &&& (1431655765 : Int32))) &&& (858993459 : Int32)) + (((a0 - ((a0.toUInt32 >>> ((1 : Int32).toUInt32 &&& Int32.toUInt32 31)).toInt32 &&& (1431655765 : Int32))).toUInt32 >>> ((2 : Int32).toUInt32 &&& Int32.toUInt32 31)).toInt32 &&& (858993459 : Int32))).toUInt32 >>> ((4 : Int32).toUInt32 &&& Int32.toUInt32 31)).toInt32) &&& (252645135 : Int32)) + ((((((a0 - ((a0.toUInt32 >>> ((1 : Int32).toUInt32 &&& Int32.toUInt32 31)).toInt32 &&& (1431655765 : Int32))) &&& (858993459 : Int32)) + (((a0 - ((a0.toUInt32 >>> ((1 : Int32).toUInt32 &&& Int32.toUInt32 31)).toInt32 &&& (1431655765 : Int32))).toUInt32 >>> ((2 : Int32).toUInt32 &&& Int32.toUInt32 31)).toInt32 &&& (858993459 : Int32))) + ((((a0 - ((a0.toUInt32 >>> ((1 : Int32).toUInt32 &&& Int32.toUInt32 31)).toInt32 &&& (1431655765 : Int32))) &&& (858993459 : Int32)) + (((a0 - ((a0.toUInt32 >>> ((1 : Int32).toUInt32 &&& Int32.toUInt32 31)).toInt32 &&& (1431655765 : Int32))).toUInt32 >>> ((2 : Int32).toUInt32 &&& Int32.toUInt32 31)).toInt32 &&& (858993459 : Int32))).toUInt32 >>> ((4 : Int32).toUInt32 &&& Int32.toUInt32 31)).toInt32) &&& (252645135 : Int32)).toUInt32 >>> ((8 : Int32).toUInt32 &&& Int32.toUInt32 31)).toInt32).toUInt32 >>> ((16 : Int32).toUInt32 &&& Int32.toUInt32 31)).toInt32) &&& (63 : Int32))) hx hb hr (fun t ht hW => ⟨_, rfl, Option.some.inj hf, ht⟩) (fun q h => by cases h) dJ6_bitCount_0f7a4_52
