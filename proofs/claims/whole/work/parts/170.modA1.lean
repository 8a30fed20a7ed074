abbrev rm_X8_jarAt : Room := { frames := 2, cells := 0, slots := 0, locals := 43 }
abbrev w_X8_jarAt (cI cZ cG : ClassId) (o : Nat) (o_text : Nat) (o_kind : Nat) (o_size : Nat) (o_readJar : Nat) (o_page : Nat) (o_trial : Nat) (o_book : Nat) (o_kept : Nat) (o_isKept : Nat) (o_tastedFrom : Nat) (o_tastedTo : Nat) (o_order : Nat) (o_spots : Nat) (o_gains : Nat) (o_value : Nat) (q1 : Nat) (v_thrown : Int32) (v_textSize : Int32) (v_place : Int32) (v_jars : Int32) (v_readPlaces : Int32) (v_readJars : Int32) (v_acts : Int32) (v_tasted : Int32) (v_seed : Int64) (v_some : Int32) (v_rowMany : Int32) (v_rowWay : Int32) (v_stuffWhich : Int32) (v_stuffNear : Int32) (v_keptMany : Int32) (v_keptFirst : Int32) (v_restMany : Int32) (v_restFirst : Int32) (f_q1 : Nat → Int32) : va_W := [(o, .inr (8, [.int v_thrown, .ref o_text, .int v_textSize, .int v_place, .int v_jars, .ref o_kind, .ref o_size, .int v_readPlaces, .int v_readJars, .ref o_readJar, .ref o_page, .ref o_trial, .ref o_book, .int v_acts, .ref o_kept, .ref o_isKept, .int v_tasted, .ref o_tastedFrom, .ref o_tastedTo, .long v_seed, .int v_some, .ref o_order, .ref o_spots, .int v_rowMany, .int v_rowWay, .int v_stuffWhich, .int v_stuffNear, .int v_keptMany, .int v_keptFirst, .int v_restMany, .int v_restFirst, .ref o_gains, .ref o_value])), (q1, .inl (cI, 37, .inl f_q1))]
set_option maxHeartbeats 4000000 in
set_option maxRecDepth 100000 in
theorem c_X8_jarAt (l : Launch) (dC : Nat → ClassId) (dI : Nat → Nat → Nat) (cI cZ cG : ClassId) {N : Nat} (o : Nat) (o_text : Nat) (o_kind : Nat) (o_size : Nat) (o_readJar : Nat) (o_page : Nat) (o_trial : Nat) (o_book : Nat) (o_kept : Nat) (o_isKept : Nat) (o_tastedFrom : Nat) (o_tastedTo : Nat) (o_order : Nat) (o_spots : Nat) (o_gains : Nat) (o_value : Nat) (q1 : Nat) (v_thrown : Int32) (v_textSize : Int32) (v_place : Int32) (v_jars : Int32) (v_readPlaces : Int32) (v_readJars : Int32) (v_acts : Int32) (v_tasted : Int32) (v_seed : Int64) (v_some : Int32) (v_rowMany : Int32) (v_rowWay : Int32) (v_stuffWhich : Int32) (v_stuffNear : Int32) (v_keptMany : Int32) (v_keptFirst : Int32) (v_restMany : Int32) (v_restFirst : Int32) (f_q1 : Nat → Int32) (a2 : Int32) {r0 : Int32} (hf : x8_jarAt N v_jars v_some f_q1 a2 = some r0) : Met l yX8_jarAt wsX8_jarAt rm_X8_jarAt (va_Pc [.ref o, .ref q1, .int a2] (gR (dC, dI) vwCl (gT cI cZ cG) (w_X8_jarAt cI cZ cG o o_text o_kind o_size o_readJar o_page o_trial o_book o_kept o_isKept o_tastedFrom o_tastedTo o_order o_spots o_gains o_value q1 v_thrown v_textSize v_place v_jars v_readPlaces v_readJars v_acts v_tasted v_seed v_some v_rowMany v_rowWay v_stuffWhich v_stuffNear v_keptMany v_keptFirst v_restMany v_restFirst f_q1))) (vp_Si (fun r => r = r0)) 0 0 (fun _ => False) := by
  refine Met.ofW (cc := cX8_jarAt) (maxL := 5) (ret := (some .int)) (by decide) rfl ?_
  intro p e s m args below meth c s₁ B hml hv
  obtain ⟨rfl, hv⟩ := hv
  obtain ⟨hP, hK, hN⟩ := hv
  have hx := B.exec
  have hb := B.bytes
  have hr := B.returns
  have hts := atoms_spec (ws := wsX8_jarAt) B.pre
  have hown : s.vm.findClass RX8 = some m.cls := findClass_of_methodNamed B.named
  have hlocks := B.notSynchronized
  have hiX8 : ∀ w ∈ u_ws RX8 TX8 33, w ∈ wsX8_jarAt := fun w h => List.mem_cons_of_mem _ (List.mem_append_right _ h)
  obtain ⟨Q, hQ⟩ : ∃ Q : State → Prop, Q = MQ below (vp_Si (fun r => r = r0)) (([Value.ref o, Value.ref q1, Value.int a2] : List Value).toArray) s 0 0 (fun _ => False) := ⟨_, rfl⟩
  have hl := lv_entry ([.ref o, .ref q1, .int a2]) (n := 5) (Nat.le_of_ble_eq_true rfl)
  rw [← hQ, lg_entry_eq]
  generalize (lg_sl ([.ref o, .ref q1, .int a2]) ++ List.replicate (5 - (lg_sl ([.ref o, .ref q1, .int a2])).length) Slot.unset).toArray = ls at hl ⊢
  have hl : lv_has ls 5 [(0, .ref o), (1, .ref q1), (2, .int a2)] := hl
  show W p l e rm_X8_jarAt s m (([Value.ref o, Value.ref q1, Value.int a2] : List Value).toArray) below meth c s.heap [] 0 0 Q (F0 m 0 ls [])
  have L6 : ∀ (n6 : Nat), ∀ (x3 : Int32) (x4 : Int32) (ls : Array Slot), x8_jarAt_b6 N v_jars v_some f_q1 a2 n6 x3 x4 = some r0 → lv_has ls 5 [(0, .ref o), (1, .ref q1), (2, .int a2), (3, .int x3), (4, .int x4)] → W p l e rm_X8_jarAt s m (([Value.ref o, Value.ref q1, Value.int a2] : List Value).toArray) below meth c s.heap [] 0 0 Q (F0 m 6 ls []) := by
    intro n6
    induction n6 with
    | zero =>
      intro x3 x4 ls hf hl
      exact g_no hf
    | succ n6 ih6 =>
      have J38 : ∀ (x3 : Int32) (x4 : Int32) (ls : Array Slot), x8_jarAt_b38 N v_jars v_some f_q1 a2 (x8_jarAt_b6 N v_jars v_some f_q1 a2 n6) x3 x4 = some r0 → lv_has ls 5 [(0, .ref o), (1, .ref q1), (2, .int a2), (3, .int x3), (4, .int x4)] → W p l e rm_X8_jarAt s m (([Value.ref o, Value.ref q1, Value.int a2] : List Value).toArray) below meth c s.heap [] 0 0 Q (F0 m 38 ls []) := by
        intro x3 x4 ls hf hl
        unfold x8_jarAt_b38 at hf
        refine lv_iload_n hx hb dX8_jarAt_38 rfl (lv_at hl 3 rfl) ?_
        refine lv_istore_n (lv' := [(3, .int x3), (0, .ref o), (1, .ref q1), (2, .int a2), (4, .int x4)]) hx hb dX8_jarAt_39 rfl hl (by decide) rfl (fun ls hl => ?_)
        refine lv_iinc (v := (x4 + (1 : Int32))) (lv' := [(4, .int (x4 + (1 : Int32))), (3, .int x3), (0, .ref o), (1, .ref q1), (2, .int a2)]) hx hb dX8_jarAt_40 hl (k := 4) rfl rfl (by decide) rfl (fun ls hl => ?_)
        refine lv_goto (tgt := 6) hx hb dX8_jarAt_43 (by decide) ?_
        exact ih6 x3 (x4 + (1 : Int32)) ls hf (lv_sub hl [2, 3, 4, 1, 0] rfl)
      intro x3 x4 ls hf hl
      unfold x8_jarAt_b6 at hf
      refine lv_iload hx hb dX8_jarAt_6 (lv_at hl 4 rfl) ?_
      refine lv_aload_n hx hb dX8_jarAt_8 rfl (lv_at hl 0 rfl) ?_
      refine va_get (D := (dC, dI)) (ci := 8) (v := .int v_jars) (C := RX8) (T := TX8) (N := 33) hx hb hts hiX8 hown hK hP 0 rfl rfl 4 (by decide) (hts (.fieldLink RX8 60 "GreenJarsModel" "jars" "I") (by decide +kernel)) (fun _ h9 => h9) rfl dX8_jarAt_9 ?_
      refine lv_icmp_ge (tgt := 46) hx hb dX8_jarAt_12 (by decide) (fun c1 => ?_) (fun c1 => ?_)
      · have hf := g_pos c1 hf
        refine lv_iload_n hx hb dX8_jarAt_46 rfl (lv_at hl 3 rfl) ?_
        rw [hQ]
        exact W.iret (v := x3) hx hb hr (fun t ht hW => ⟨_, rfl, Option.some.inj hf, ht⟩) (fun q h => by cases h) dX8_jarAt_47
      · have hf := g_neg c1 hf
        refine lv_aload_n hx hb dX8_jarAt_15 rfl (lv_at hl 0 rfl) ?_
        refine lv_aload_n hx hb dX8_jarAt_16 rfl (lv_at hl 1 rfl) ?_
        refine lv_iload hx hb dX8_jarAt_17 (lv_at hl 4 rfl) ?_
        obtain ⟨r2, hc3, hf⟩ := g_b1 hf
        refine g_rV (As := [.ref q1, .int x4]) (rest := []) ⟨hx, hb, hml, hown, hts⟩ (c_X8_isOn l dC dI cI cZ cG o o_text o_kind o_size o_readJar o_page o_trial o_book o_kept o_isKept o_tastedFrom o_tastedTo o_order o_spots o_gains o_value q1  v_thrown v_textSize v_place v_jars v_readPlaces v_readJars v_acts v_tasted v_seed v_some v_rowMany v_rowWay v_stuffWhich v_stuffNear v_keptMany v_keptFirst v_restMany v_restFirst f_q1 x4 hc3) (cwV 2 hts gX8_jarAt_X8_isOn rfl rfl rfl (by decide +kernel) ⟨Nat.le_of_ble_eq_true rfl, Nat.le_of_ble_eq_true rfl⟩) hK hN (hP.sub [0, 1] rfl) (va_recv hK hP (ci := 8) (q0 := 0) rfl rfl) rfl hl.1 rfl (Nat.le_of_ble_eq_true rfl) dX8_jarAt_19 ⟨Nat.zero_le _, Nat.zero_le _⟩ ?_
        refine lv_if_eq (tgt := 38) hx hb dX8_jarAt_22 (by decide) (fun c4 => ?_) (fun c4 => ?_)
        · have hf := g_pos c4 hf
          exact J38 x3 x4 ls hf (lv_sub hl [0, 1, 2, 3, 4] rfl)
        · have hf := g_neg c4 hf
          refine lv_aload_n hx hb dX8_jarAt_25 rfl (lv_at hl 1 rfl) ?_
          refine lv_iload hx hb dX8_jarAt_26 (lv_at hl 4 rfl) ?_
          obtain ⟨h5, hf⟩ := g_chk hf
          refine va_iald hx hb hK hP 1 0 rfl rfl (gIn_vp h5) dX8_jarAt_28 ?_
          refine lv_iload_n hx hb dX8_jarAt_29 rfl (lv_at hl 2 rfl) ?_
          refine lv_icmp_ne (tgt := 38) hx hb dX8_jarAt_30 (by decide) (fun c6 => ?_) (fun c6 => ?_)
          · have hf := g_neg c6 hf
            exact J38 x3 x4 ls hf (lv_sub hl [0, 1, 2, 3, 4] rfl)
          · have hf := g_pos c6 hf
            refine lv_iload hx hb dX8_jarAt_33 (lv_at hl 4 rfl) ?_
            refine lv_goto (tgt := 39) hx hb dX8_jarAt_35 (by decide) ?_
            refine lv_istore_n (lv' := [(3, .int x4), (0, .ref o), (1, .ref q1), (2, .int a2), (4, .int x4)]) hx hb dX8_jarAt_39 rfl hl (by decide) rfl (fun ls hl => ?_)
            refine lv_iinc (v := (x4 + (1 : Int32))) (lv' := [(4, .int (x4 + (1 : Int32))), (3, .int x4), (0, .ref o), (1, .ref q1), (2, .int a2)]) hx hb dX8_jarAt_40 hl (k := 4) rfl rfl (by decide) rfl (fun ls hl => ?_)
            refine lv_goto (tgt := 6) hx hb dX8_jarAt_43 (by decide) ?_
            exact ih6 x4 (x4 + (1 : Int32)) ls hf (lv_sub hl [2, 3, 4, 1, 0] rfl)
  unfold x8_jarAt at hf
  refine lv_bipush (v := (-9 : Int32)) hx hb dX8_jarAt_0 (by decide +kernel) ?_
  refine lv_istore_n (lv' := [(3, .int (-9 : Int32)), (0, .ref o), (1, .ref q1), (2, .int a2)]) hx hb dX8_jarAt_2 rfl hl (by decide) rfl (fun ls hl => ?_)
  refine lv_iconst (v := (0 : Int32)) hx hb dX8_jarAt_3 (by decide) ?_
  refine lv_istore (lv' := [(4, .int (0 : Int32)), (3, .int (-9 : Int32)), (0, .ref o), (1, .ref q1), (2, .int a2)]) hx hb dX8_jarAt_4 hl (by decide) rfl (fun ls hl => ?_)
  exact L6 N (-9 : Int32) (0 : Int32) ls hf (lv_sub hl [2, 3, 4, 1, 0] rfl)
abbrev rm_X8_hazeOf : Room := { frames := 1, cells := 0, slots := 0, locals := 21 }
abbrev w_X8_hazeOf (cI cZ cG : ClassId) (q0 : Nat) (f_q0 : Nat → Int32) : va_W := [(q0, .inl (cI, 37, .inl f_q0))]
set_option maxHeartbeats 4000000 in
set_option maxRecDepth 100000 in
theorem c_X8_hazeOf (l : Launch) (dC : Nat → ClassId) (dI : Nat → Nat → Nat) (cI cZ cG : ClassId) (q0 : Nat) (f_q0 : Nat → Int32) (a1 : Int32) {r0 : Int32} (hf : x8_hazeOf f_q0 a1 = some r0) : Met l yX8_hazeOf wsX8_hazeOf rm_X8_hazeOf (va_Pc [.ref q0, .int a1] (gR (dC, dI) vwCl (gT cI cZ cG) (w_X8_hazeOf cI cZ cG q0 f_q0))) (vp_Si (fun r => r = r0)) 0 0 (fun _ => False) := by
  refine Met.ofW (cc := cX8_hazeOf) (maxL := 2) (ret := (some .int)) (by decide) rfl ?_
  intro p e s m args below meth c s₁ B hml hv
  obtain ⟨rfl, hv⟩ := hv
  obtain ⟨hP, hK, hN⟩ := hv
  have hx := B.exec
  have hb := B.bytes
  have hr := B.returns
  have hts := atoms_spec (ws := wsX8_hazeOf) B.pre
  have hown : s.vm.findClass RX8 = some m.cls := findClass_of_methodNamed B.named
  have hlocks := B.notSynchronized
  obtain ⟨Q, hQ⟩ : ∃ Q : State → Prop, Q = MQ below (vp_Si (fun r => r = r0)) (([Value.ref q0, Value.int a1] : List Value).toArray) s 0 0 (fun _ => False) := ⟨_, rfl⟩
  have hl := lv_entry ([.ref q0, .int a1]) (n := 2) (Nat.le_of_ble_eq_true rfl)
  rw [← hQ, lg_entry_eq]
  generalize (lg_sl ([.ref q0, .int a1]) ++ List.replicate (2 - (lg_sl ([.ref q0, .int a1])).length) Slot.unset).toArray = ls at hl ⊢
  have hl : lv_has ls 2 [(0, .ref q0), (1, .int a1)] := hl
  show W p l e rm_X8_hazeOf s m (([Value.ref q0, Value.int a1] : List Value).toArray) below meth c s.heap [] 0 0 Q (F0 m 0 ls [])
  unfold x8_hazeOf at hf
  refine lv_aload_n hx hb dX8_hazeOf_0 rfl (lv_at hl 0 rfl) ?_
  refine lv_iload_n hx hb dX8_hazeOf_1 rfl (lv_at hl 1 rfl) ?_
  obtain ⟨r1, hc2, hf⟩ := g_b1 hf
  refine g_rS (As := [.ref q0, .int a1]) (rest := []) ⟨hx, hb, hml, hown, hts⟩ (c_X8_isWhole l dC dI cI cZ cG q0  f_q0 a1 hc2) (va_cwS 2 hts gX8_hazeOf_X8_isWhole rfl rfl rfl (by decide +kernel) ⟨Nat.le_of_ble_eq_true rfl, Nat.le_of_ble_eq_true rfl⟩) hK hN (hP.sub [0] rfl) rfl hl.1 rfl (Nat.le_of_ble_eq_true rfl) dX8_hazeOf_2 ⟨Nat.zero_le _, Nat.zero_le _⟩ ?_
  refine lv_if_eq (tgt := 17) hx hb dX8_hazeOf_5 (by decide) (fun c3 => ?_) (fun c3 => ?_)
  · have hf := g_pos c3 hf
    refine lv_iconst (v := (0 : Int32)) hx hb dX8_hazeOf_17 (by decide) ?_
    rw [hQ]
    exact W.iret (v := (0 : Int32)) hx hb hr (fun t ht hW => ⟨_, rfl, Option.some.inj hf, ht⟩) (fun q h => by cases h) dX8_hazeOf_18
  · have hf := g_neg c3 hf
    refine lv_aload_n hx hb dX8_hazeOf_8 rfl (lv_at hl 0 rfl) ?_
    refine lv_bipush (v := (18 : Int32)) hx hb dX8_hazeOf_9 (by decide +kernel) ?_
    refine lv_iload_n hx hb dX8_hazeOf_11 rfl (lv_at hl 1 rfl) ?_
    refine lv_iadd hx hb dX8_hazeOf_12 ?_
    obtain ⟨h4, hf⟩ := g_chk hf
    refine va_iald hx hb hK hP 0 0 rfl rfl (gIn_vp h4) dX8_hazeOf_13 ?_
    refine lv_goto (tgt := 18) hx hb dX8_hazeOf_14 (by decide) ?_
    rw [hQ]
    exact W.iret (v := (f_q0 ((18 : Int32) + a1).toNatClampNeg)) hx hb hr (fun t ht hW => ⟨_, rfl, Option.some.inj hf, ht⟩) (fun q h => by cases h) dX8_hazeOf_18
abbrev rm_X8_sees : Room := { frames := 3, cells := 0, slots := 0, locals := 67 }
abbrev w_X8_sees (cI cZ cG : ClassId) (o : Nat) (o_text : Nat) (o_kind : Nat) (o_size : Nat) (o_readJar : Nat) (o_page : Nat) (o_trial : Nat) (o_book : Nat) (o_kept : Nat) (o_isKept : Nat) (o_tastedFrom : Nat) (o_tastedTo : Nat) (o_order : Nat) (o_spots : Nat) (o_gains : Nat) (o_value : Nat) (q1 : Nat) (v_thrown : Int32) (v_textSize : Int32) (v_place : Int32) (v_jars : Int32) (v_readPlaces : Int32) (v_readJars : Int32) (v_acts : Int32) (v_tasted : Int32) (v_seed : Int64) (v_some : Int32) (v_rowMany : Int32) (v_rowWay : Int32) (v_stuffWhich : Int32) (v_stuffNear : Int32) (v_keptMany : Int32) (v_keptFirst : Int32) (v_restMany : Int32) (v_restFirst : Int32) (f_kind : Nat → Int32) (f_q1 : Nat → Int32) : va_W := [(o, .inr (8, [.int v_thrown, .ref o_text, .int v_textSize, .int v_place, .int v_jars, .ref o_kind, .ref o_size, .int v_readPlaces, .int v_readJars, .ref o_readJar, .ref o_page, .ref o_trial, .ref o_book, .int v_acts, .ref o_kept, .ref o_isKept, .int v_tasted, .ref o_tastedFrom, .ref o_tastedTo, .long v_seed, .int v_some, .ref o_order, .ref o_spots, .int v_rowMany, .int v_rowWay, .int v_stuffWhich, .int v_stuffNear, .int v_keptMany, .int v_keptFirst, .int v_restMany, .int v_restFirst, .ref o_gains, .ref o_value])), (o_kind, .inl (cI, 6, .inl f_kind)), (q1, .inl (cI, 37, .inl f_q1))]
set_option maxHeartbeats 4000000 in
set_option maxRecDepth 100000 in
theorem c_X8_sees (l : Launch) (dC : Nat → ClassId) (dI : Nat → Nat → Nat) (cI cZ cG : ClassId) {N : Nat} (o : Nat) (o_text : Nat) (o_kind : Nat) (o_size : Nat) (o_readJar : Nat) (o_page : Nat) (o_trial : Nat) (o_book : Nat) (o_kept : Nat) (o_isKept : Nat) (o_tastedFrom : Nat) (o_tastedTo : Nat) (o_order : Nat) (o_spots : Nat) (o_gains : Nat) (o_value : Nat) (q1 : Nat) (v_thrown : Int32) (v_textSize : Int32) (v_place : Int32) (v_jars : Int32) (v_readPlaces : Int32) (v_readJars : Int32) (v_acts : Int32) (v_tasted : Int32) (v_seed : Int64) (v_some : Int32) (v_rowMany : Int32) (v_rowWay : Int32) (v_stuffWhich : Int32) (v_stuffNear : Int32) (v_keptMany : Int32) (v_keptFirst : Int32) (v_restMany : Int32) (v_restFirst : Int32) (f_kind : Nat → Int32) (f_q1 : Nat → Int32) (a2 : Int32) {r0 : Int32} (hf : x8_sees N v_jars v_some f_kind f_q1 a2 = some r0) : Met l yX8_sees wsX8_sees rm_X8_sees (va_Pc [.ref o, .ref q1, .int a2] (gR (dC, dI) vwCl (gT cI cZ cG) (w_X8_sees cI cZ cG o o_text o_kind o_size o_readJar o_page o_trial o_book o_kept o_isKept o_tastedFrom o_tastedTo o_order o_spots o_gains o_value q1 v_thrown v_textSize v_place v_jars v_readPlaces v_readJars v_acts v_tasted v_seed v_some v_rowMany v_rowWay v_stuffWhich v_stuffNear v_keptMany v_keptFirst v_restMany v_restFirst f_kind f_q1))) (vp_Si (fun r => r = r0)) 0 0 (fun _ => False) := by
  refine Met.ofW (cc := cX8_sees) (maxL := 8) (ret := (some .int)) (by decide) rfl ?_
  intro p e s m args below meth c s₁ B hml hv
  obtain ⟨rfl, hv⟩ := hv
  obtain ⟨hP, hK, hN⟩ := hv
  have hx := B.exec
  have hb := B.bytes
  have hr := B.returns
  have hts := atoms_spec (ws := wsX8_sees) B.pre
  have hown : s.vm.findClass RX8 = some m.cls := findClass_of_methodNamed B.named
  have hlocks := B.notSynchronized
  have hiX8 : ∀ w ∈ u_ws RX8 TX8 33, w ∈ wsX8_sees := fun w h => List.mem_cons_of_mem _ (List.mem_append_right _ h)
  obtain ⟨Q, hQ⟩ : ∃ Q : State → Prop, Q = MQ below (vp_Si (fun r => r = r0)) (([Value.ref o, Value.ref q1, Value.int a2] : List Value).toArray) s 0 0 (fun _ => False) := ⟨_, rfl⟩
  have hl := lv_entry ([.ref o, .ref q1, .int a2]) (n := 8) (Nat.le_of_ble_eq_true rfl)
  rw [← hQ, lg_entry_eq]
  generalize (lg_sl ([.ref o, .ref q1, .int a2]) ++ List.replicate (8 - (lg_sl ([.ref o, .ref q1, .int a2])).length) Slot.unset).toArray = ls at hl ⊢
  have hl : lv_has ls 8 [(0, .ref o), (1, .ref q1), (2, .int a2)] := hl
  show W p l e rm_X8_sees s m (([Value.ref o, Value.ref q1, Value.int a2] : List Value).toArray) below meth c s.heap [] 0 0 Q (F0 m 0 ls [])
  have L49 : ∀ (n49 : Nat), ∀ (x4 : Int32) (x5 : Int32) (ls : Array Slot), x8_sees_b49 N v_jars v_some f_kind f_q1 a2 n49 x4 x5 = some r0 → lv_has ls 8 [(0, .ref o), (1, .ref q1), (2, .int a2), (4, .int x4), (5, .int x5)] → W p l e rm_X8_sees s m (([Value.ref o, Value.ref q1, Value.int a2] : List Value).toArray) below meth c s.heap [] 0 0 Q (F0 m 49 ls []) := by
    intro n49
    induction n49 with
    | zero =>
      intro x4 x5 ls hf hl
      exact g_no hf
    | succ n49 ih49 =>
      intro x4 x5 ls hf hl
      unfold x8_sees_b49 at hf
      refine lv_iload hx hb dX8_sees_49 (lv_at hl 4 rfl) ?_
      refine lv_i2l hx hb dX8_sees_51 rfl ?_
      refine lv_lconst (v := (0 : Int64)) hx hb dX8_sees_52 (by decide) ?_
      refine lv_ldc2 (v := (7 : Int64)) hx hb hown (hts (.constantLong RX8 78 (7 : Int64)) (by decide +kernel)) dX8_sees_53 ?_
      obtain ⟨r1, hc2, hf⟩ := g_b1 hf
      refine g_rS (As := [.long x5.toInt64, .long (0 : Int64), .long (7 : Int64)]) (rest := []) ⟨hx, hb, hml, hown, hts⟩ (c_X8_in l dC dI cI cZ cG    x5.toInt64 (0 : Int64) (7 : Int64) hc2) (va_cwS 3 hts gX8_sees_X8_in rfl rfl rfl (by decide +kernel) ⟨Nat.le_of_ble_eq_true rfl, Nat.le_of_ble_eq_true rfl⟩) hK hN (hP.sub [] rfl) rfl hl.1 rfl (Nat.le_of_ble_eq_true rfl) dX8_sees_56 ⟨Nat.zero_le _, Nat.zero_le _⟩ ?_
      refine lv_if_eq (tgt := 137) hx hb dX8_sees_59 (by decide) (fun c3 => ?_) (fun c3 => ?_)
      · have hf := g_pos c3 hf
        refine lv_bipush (v := (-9 : Int32)) hx hb dX8_sees_137 (by decide +kernel) ?_
        rw [hQ]
        exact W.iret (v := (-9 : Int32)) hx hb hr (fun t ht hW => ⟨_, rfl, Option.some.inj hf, ht⟩) (fun q h => by cases h) dX8_sees_139
      · have hf := g_neg c3 hf
        refine lv_aload_n hx hb dX8_sees_62 rfl (lv_at hl 0 rfl) ?_
        refine lv_aload_n hx hb dX8_sees_63 rfl (lv_at hl 1 rfl) ?_
        refine lv_iload hx hb dX8_sees_64 (lv_at hl 4 rfl) ?_
        obtain ⟨r4, hc5, hf⟩ := g_b1 hf
        refine g_rV (As := [.ref q1, .int x5]) (rest := []) ⟨hx, hb, hml, hown, hts⟩ (c_X8_jarAt l dC dI cI cZ cG o o_text o_kind o_size o_readJar o_page o_trial o_book o_kept o_isKept o_tastedFrom o_tastedTo o_order o_spots o_gains o_value q1  v_thrown v_textSize v_place v_jars v_readPlaces v_readJars v_acts v_tasted v_seed v_some v_rowMany v_rowWay v_stuffWhich v_stuffNear v_keptMany v_keptFirst v_restMany v_restFirst f_q1 x5 hc5) (cwV 2 hts gX8_sees_X8_jarAt rfl rfl rfl (by decide +kernel) ⟨Nat.le_of_ble_eq_true rfl, Nat.le_of_ble_eq_true rfl⟩) hK hN (hP.sub [0, 2] rfl) (va_recv hK hP (ci := 8) (q0 := 0) rfl rfl) rfl hl.1 rfl (Nat.le_of_ble_eq_true rfl) dX8_sees_66 ⟨Nat.zero_le _, Nat.zero_le _⟩ ?_
        refine lv_istore (lv' := [(6, .int r4), (0, .ref o), (1, .ref q1), (2, .int a2), (4, .int x4), (5, .int x5)]) hx hb dX8_sees_69 hl (by decide) rfl (fun ls hl => ?_)
        refine lv_iload hx hb dX8_sees_71 (lv_at hl 0 rfl) ?_
        refine lv_bipush (v := (-9 : Int32)) hx hb dX8_sees_73 (by decide +kernel) ?_
        refine lv_icmp_eq (tgt := 127) hx hb dX8_sees_75 (by decide) (fun c6 => ?_) (fun c6 => ?_)
        · have hf := g_pos c6 hf
          refine lv_iload hx hb dX8_sees_127 (lv_at hl 5 rfl) ?_
          refine lv_iload hx hb dX8_sees_129 (lv_at hl 4 rfl) ?_
          refine lv_iadd hx hb dX8_sees_131 ?_
          refine lv_istore (lv' := [(5, .int (x5 + x4)), (6, .int r4), (0, .ref o), (1, .ref q1), (2, .int a2), (4, .int x4)]) hx hb dX8_sees_132 hl (by decide) rfl (fun ls hl => ?_)
          refine lv_goto (tgt := 49) hx hb dX8_sees_134 (by decide) ?_
          exact ih49 x4 (x5 + x4) ls hf (lv_sub hl [2, 3, 4, 5, 0] rfl)
        · have hf := g_neg c6 hf
          refine lv_iload hx hb dX8_sees_78 (lv_at hl 4 rfl) ?_
          refine lv_iload hx hb dX8_sees_80 (lv_at hl 5 rfl) ?_
          refine lv_aload_n hx hb dX8_sees_82 rfl (lv_at hl 2 rfl) ?_
          refine lv_iload_n hx hb dX8_sees_83 rfl (lv_at hl 3 rfl) ?_
          obtain ⟨h7, hf⟩ := g_chk hf
          refine va_iald hx hb hK hP 2 0 rfl rfl (gIn_vp h7) dX8_sees_84 ?_
          refine lv_isub hx hb dX8_sees_85 ?_
          refine lv_imul hx hb dX8_sees_86 ?_
          refine lv_istore (lv' := [(7, .int (x4 * (x5 - (f_q1 a2.toNatClampNeg)))), (6, .int r4), (0, .ref o), (1, .ref q1), (2, .int a2), (4, .int x4), (5, .int x5)]) hx hb dX8_sees_87 hl (by decide) rfl (fun ls hl => ?_)
          refine lv_aload_n hx hb dX8_sees_89 rfl (lv_at hl 2 rfl) ?_
          refine va_get (D := (dC, dI)) (ci := 8) (v := .ref o_kind) (C := RX8) (T := TX8) (N := 33) hx hb hts hiX8 hown hK hP 0 rfl rfl 5 (by decide) (hts (.fieldLink RX8 13 "GreenJarsModel" "kind" "[I") (by decide +kernel)) (fun _ h9 => h9) rfl dX8_sees_90 ?_
          refine lv_iload_n hx hb dX8_sees_93 rfl (lv_at hl 4 rfl) ?_
          obtain ⟨h8, hf⟩ := g_chk hf
          refine va_iald hx hb hK hP 1 0 rfl rfl (gIn_vp h8) dX8_sees_94 ?_
          refine lv_iconst (v := (2 : Int32)) hx hb dX8_sees_95 (by decide) ?_
          refine lv_icmp_eq (tgt := 119) hx hb dX8_sees_96 (by decide) (fun c9 => ?_) (fun c9 => ?_)
          · have hf := g_pos c9 hf
            refine lv_iload hx hb dX8_sees_119 (lv_at hl 1 rfl) ?_
            refine lv_goto (tgt := 126) hx hb dX8_sees_121 (by decide) ?_
            rw [hQ]
            exact W.iret (v := r4) hx hb hr (fun t ht hW => ⟨_, rfl, Option.some.inj hf, ht⟩) (fun q h => by cases h) dX8_sees_126
          · have hf := g_neg c9 hf
            refine lv_iload hx hb dX8_sees_99 (lv_at hl 0 rfl) ?_
            refine lv_bipush (v := (9 : Int32)) hx hb dX8_sees_101 (by decide +kernel) ?_
            refine lv_aload_n hx hb dX8_sees_103 rfl (lv_at hl 3 rfl) ?_
            refine lv_iload_n hx hb dX8_sees_104 rfl (lv_at hl 4 rfl) ?_
            obtain ⟨r10, hc11, hf⟩ := g_b1 hf
            refine g_rS (As := [.ref q1, .int a2]) (rest := [.int (9 : Int32), .int (x4 * (x5 - (f_q1 a2.toNatClampNeg)))]) ⟨hx, hb, hml, hown, hts⟩ (c_X8_hazeOf l dC dI cI cZ cG q1  f_q1 a2 hc11) (va_cwS 2 hts gX8_sees_X8_hazeOf rfl rfl rfl (by decide +kernel) ⟨Nat.le_of_ble_eq_true rfl, Nat.le_of_ble_eq_true rfl⟩) hK hN (hP.sub [2] rfl) rfl hl.1 rfl (Nat.le_of_ble_eq_true rfl) dX8_sees_105 ⟨Nat.zero_le _, Nat.zero_le _⟩ ?_
            refine lv_isub hx hb dX8_sees_108 ?_
            refine lv_aload_n hx hb dX8_sees_109 rfl (lv_at hl 3 rfl) ?_
            refine lv_iload hx hb dX8_sees_110 (lv_at hl 1 rfl) ?_
            obtain ⟨r12, hc13, hf⟩ := g_b1 hf
            refine g_rS (As := [.ref q1, .int r4]) (rest := [.int ((9 : Int32) - r10), .int (x4 * (x5 - (f_q1 a2.toNatClampNeg)))]) ⟨hx, hb, hml, hown, hts⟩ (c_X8_hazeOf l dC dI cI cZ cG q1  f_q1 r4 hc13) (va_cwS 2 hts gX8_sees_X8_hazeOf rfl rfl rfl (by decide +kernel) ⟨Nat.le_of_ble_eq_true rfl, Nat.le_of_ble_eq_true rfl⟩) hK hN (hP.sub [2] rfl) rfl hl.1 rfl (Nat.le_of_ble_eq_true rfl) dX8_sees_112 ⟨Nat.zero_le _, Nat.zero_le _⟩ ?_
            refine lv_isub hx hb dX8_sees_115 ?_
            refine lv_icmp_gt (tgt := 124) hx hb dX8_sees_116 (by decide) (fun c14 => ?_) (fun c14 => ?_)
            · have hf := g_pos c14 hf
              refine lv_bipush (v := (-9 : Int32)) hx hb dX8_sees_124 (by decide +kernel) ?_
              rw [hQ]
              exact W.iret (v := (-9 : Int32)) hx hb hr (fun t ht hW => ⟨_, rfl, Option.some.inj hf, ht⟩) (fun q h => by cases h) dX8_sees_126
            · have hf := g_neg c14 hf
              refine lv_iload hx hb dX8_sees_119 (lv_at hl 1 rfl) ?_
              refine lv_goto (tgt := 126) hx hb dX8_sees_121 (by decide) ?_
              rw [hQ]
              exact W.iret (v := r4) hx hb hr (fun t ht hW => ⟨_, rfl, Option.some.inj hf, ht⟩) (fun q h => by cases h) dX8_sees_126
  unfold x8_sees at hf
  refine lv_aload_n hx hb dX8_sees_0 rfl (lv_at hl 1 rfl) ?_
  refine lv_bipush (v := (24 : Int32)) hx hb dX8_sees_1 (by decide +kernel) ?_
  refine lv_iload_n hx hb dX8_sees_3 rfl (lv_at hl 2 rfl) ?_
  refine lv_iadd hx hb dX8_sees_4 ?_
  obtain ⟨h15, hf⟩ := g_chk hf
  refine va_iald hx hb hK hP 2 0 rfl rfl (gIn_vp h15) dX8_sees_5 ?_
  refine lv_istore_n (lv' := [(3, .int (f_q1 ((24 : Int32) + a2).toNatClampNeg)), (0, .ref o), (1, .ref q1), (2, .int a2)]) hx hb dX8_sees_6 rfl hl (by decide) rfl (fun ls hl => ?_)
  refine lv_aload_n hx hb dX8_sees_7 rfl (lv_at hl 1 rfl) ?_
  refine va_get (D := (dC, dI)) (ci := 8) (v := .int v_some) (C := RX8) (T := TX8) (N := 33) hx hb hts hiX8 hown hK hP 0 rfl rfl 20 (by decide) (hts (.fieldLink RX8 109 "GreenJarsModel" "some" "I") (by decide +kernel)) (fun _ h9 => h9) rfl dX8_sees_8 ?_
  refine lv_iload_n hx hb dX8_sees_11 rfl (lv_at hl 3 rfl) ?_
  obtain ⟨r16, hc17, hf⟩ := g_b1 hf
  refine g_rS (As := [.int v_some, .int a2]) (rest := []) ⟨hx, hb, hml, hown, hts⟩ (c_X8_has l dC dI cI cZ cG    v_some a2 hc17) (va_cwS 2 hts gX8_sees_X8_has rfl rfl rfl (by decide +kernel) ⟨Nat.le_of_ble_eq_true rfl, Nat.le_of_ble_eq_true rfl⟩) hK hN (hP.sub [] rfl) rfl hl.1 rfl (Nat.le_of_ble_eq_true rfl) dX8_sees_12 ⟨Nat.zero_le _, Nat.zero_le _⟩ ?_
  refine lv_if_eq (tgt := 33) hx hb dX8_sees_15 (by decide) (fun c18 => ?_) (fun c18 => ?_)
  · have hf := g_pos c18 hf
    refine lv_bipush (v := (-9 : Int32)) hx hb dX8_sees_33 (by decide +kernel) ?_
    rw [hQ]
    exact W.iret (v := (-9 : Int32)) hx hb hr (fun t ht hW => ⟨_, rfl, Option.some.inj hf, ht⟩) (fun q h => by cases h) dX8_sees_35
  · have hf := g_neg c18 hf
    refine lv_aload_n hx hb dX8_sees_18 rfl (lv_at hl 2 rfl) ?_
    refine lv_iload_n hx hb dX8_sees_19 rfl (lv_at hl 3 rfl) ?_
    obtain ⟨r19, hc20, hf⟩ := g_b1 hf
    refine g_rS (As := [.ref q1, .int a2]) (rest := []) ⟨hx, hb, hml, hown, hts⟩ (c_X8_isWhole l dC dI cI cZ cG q1  f_q1 a2 hc20) (va_cwS 2 hts gX8_sees_X8_isWhole rfl rfl rfl (by decide +kernel) ⟨Nat.le_of_ble_eq_true rfl, Nat.le_of_ble_eq_true rfl⟩) hK hN (hP.sub [2] rfl) rfl hl.1 rfl (Nat.le_of_ble_eq_true rfl) dX8_sees_20 ⟨Nat.zero_le _, Nat.zero_le _⟩ ?_
    refine lv_if_eq (tgt := 33) hx hb dX8_sees_23 (by decide) (fun c21 => ?_) (fun c21 => ?_)
    · have hf := g_pos c21 hf
      refine lv_bipush (v := (-9 : Int32)) hx hb dX8_sees_33 (by decide +kernel) ?_
      rw [hQ]
      exact W.iret (v := (-9 : Int32)) hx hb hr (fun t ht hW => ⟨_, rfl, Option.some.inj hf, ht⟩) (fun q h => by cases h) dX8_sees_35
    · have hf := g_neg c21 hf
      refine lv_iload_n hx hb dX8_sees_26 rfl (lv_at hl 0 rfl) ?_
      refine lv_iconst (v := (2 : Int32)) hx hb dX8_sees_27 (by decide) ?_
      refine lv_irem hx hb dX8_sees_28 (by decide) ?_
      refine lv_iconst (v := (1 : Int32)) hx hb dX8_sees_29 (by decide) ?_
      refine lv_icmp_ne (tgt := 36) hx hb dX8_sees_30 (by decide) (fun c22 => ?_) (fun c22 => ?_)
      · have hf := g_neg c22 hf
        refine lv_iload_n hx hb dX8_sees_36 rfl (lv_at hl 0 rfl) ?_
        refine lv_iconst (v := (1 : Int32)) hx hb dX8_sees_37 (by decide) ?_
        refine lv_isub hx hb dX8_sees_38 ?_
        refine lv_istore (lv' := [(4, .int ((f_q1 ((24 : Int32) + a2).toNatClampNeg) - (1 : Int32))), (3, .int (f_q1 ((24 : Int32) + a2).toNatClampNeg)), (0, .ref o), (1, .ref q1), (2, .int a2)]) hx hb dX8_sees_39 hl (by decide) rfl (fun ls hl => ?_)
        refine lv_aload_n hx hb dX8_sees_41 rfl (lv_at hl 3 rfl) ?_
        refine lv_iload_n hx hb dX8_sees_42 rfl (lv_at hl 4 rfl) ?_
        obtain ⟨h23, hf⟩ := g_chk hf
        refine va_iald hx hb hK hP 2 0 rfl rfl (gIn_vp h23) dX8_sees_43 ?_
        refine lv_iload hx hb dX8_sees_44 (lv_at hl 0 rfl) ?_
        refine lv_iadd hx hb dX8_sees_46 ?_
        refine lv_istore (lv' := [(5, .int ((f_q1 a2.toNatClampNeg) + ((f_q1 ((24 : Int32) + a2).toNatClampNeg) - (1 : Int32)))), (4, .int ((f_q1 ((24 : Int32) + a2).toNatClampNeg) - (1 : Int32))), (3, .int (f_q1 ((24 : Int32) + a2).toNatClampNeg)), (0, .ref o), (1, .ref q1), (2, .int a2)]) hx hb dX8_sees_47 hl (by decide) rfl (fun ls hl => ?_)
        exact L49 N ((f_q1 ((24 : Int32) + a2).toNatClampNeg) - (1 : Int32)) ((f_q1 a2.toNatClampNeg) + ((f_q1 ((24 : Int32) + a2).toNatClampNeg) - (1 : Int32))) ls hf (lv_sub hl [3, 4, 5, 1, 0] rfl)
      · have hf := g_pos c22 hf
        refine lv_bipush (v := (-9 : Int32)) hx hb dX8_sees_33 (by decide +kernel) ?_
        rw [hQ]
        exact W.iret (v := (-9 : Int32)) hx hb hr (fun t ht hW => ⟨_, rfl, Option.some.inj hf, ht⟩) (fun q h => by cases h) dX8_sees_35
abbrev rm_X8_pairsOf : Room := { frames := 4, cells := 0, slots := 0, locals := 94 }
abbrev w_X8_pairsOf (cI cZ cG : ClassId) (o : Nat) (o_text : Nat) (o_kind : Nat) (o_size : Nat) (o_readJar : Nat) (o_page : Nat) (o_trial : Nat) (o_book : Nat) (o_kept : Nat) (o_isKept : Nat) (o_tastedFrom : Nat) (o_tastedTo : Nat) (o_order : Nat) (o_spots : Nat) (o_gains : Nat) (o_value : Nat) (q1 : Nat) (v_thrown : Int32) (v_textSize : Int32) (v_place : Int32) (v_jars : Int32) (v_readPlaces : Int32) (v_readJars : Int32) (v_acts : Int32) (v_tasted : Int32) (v_seed : Int64) (v_some : Int32) (v_rowMany : Int32) (v_rowWay : Int32) (v_stuffWhich : Int32) (v_stuffNear : Int32) (v_keptMany : Int32) (v_keptFirst : Int32) (v_restMany : Int32) (v_restFirst : Int32) (f_kind : Nat → Int32) (f_q1 : Nat → Int32) : va_W := [(o, .inr (8, [.int v_thrown, .ref o_text, .int v_textSize, .int v_place, .int v_jars, .ref o_kind, .ref o_size, .int v_readPlaces, .int v_readJars, .ref o_readJar, .ref o_page, .ref o_trial, .ref o_book, .int v_acts, .ref o_kept, .ref o_isKept, .int v_tasted, .ref o_tastedFrom, .ref o_tastedTo, .long v_seed, .int v_some, .ref o_order, .ref o_spots, .int v_rowMany, .int v_rowWay, .int v_stuffWhich, .int v_stuffNear, .int v_keptMany, .int v_keptFirst, .int v_restMany, .int v_restFirst, .ref o_gains, .ref o_value])), (o_kind, .inl (cI, 6, .inl f_kind)), (q1, .inl (cI, 37, .inl f_q1))]
set_option maxHeartbeats 4000000 in
set_option maxRecDepth 100000 in
theorem c_X8_pairsOf (l : Launch) (dC : Nat → ClassId) (dI : Nat → Nat → Nat) (cI cZ cG : ClassId) {N : Nat} (o : Nat) (o_text : Nat) (o_kind : Nat) (o_size : Nat) (o_readJar : Nat) (o_page : Nat) (o_trial : Nat) (o_book : Nat) (o_kept : Nat) (o_isKept : Nat) (o_tastedFrom : Nat) (o_tastedTo : Nat) (o_order : Nat) (o_spots : Nat) (o_gains : Nat) (o_value : Nat) (q1 : Nat) (v_thrown : Int32) (v_textSize : Int32) (v_place : Int32) (v_jars : Int32) (v_readPlaces : Int32) (v_readJars : Int32) (v_acts : Int32) (v_tasted : Int32) (v_seed : Int64) (v_some : Int32) (v_rowMany : Int32) (v_rowWay : Int32) (v_stuffWhich : Int32) (v_stuffNear : Int32) (v_keptMany : Int32) (v_keptFirst : Int32) (v_restMany : Int32) (v_restFirst : Int32) (f_kind : Nat → Int32) (f_q1 : Nat → Int32) {r0 : Int32} (hf : x8_pairsOf N v_jars v_some f_kind f_q1 = some r0) : Met l yX8_pairsOf wsX8_pairsOf rm_X8_pairsOf (va_Pc [.ref o, .ref q1] (gR (dC, dI) vwCl (gT cI cZ cG) (w_X8_pairsOf cI cZ cG o o_text o_kind o_size o_readJar o_page o_trial o_book o_kept o_isKept o_tastedFrom o_tastedTo o_order o_spots o_gains o_value q1 v_thrown v_textSize v_place v_jars v_readPlaces v_readJars v_acts v_tasted v_seed v_some v_rowMany v_rowWay v_stuffWhich v_stuffNear v_keptMany v_keptFirst v_restMany v_restFirst f_kind f_q1))) (vp_Si (fun r => r = r0)) 0 0 (fun _ => False) := by
  refine Met.ofW (cc := cX8_pairsOf) (maxL := 5) (ret := (some .int)) (by decide) rfl ?_
  intro p e s m args below meth c s₁ B hml hv
  obtain ⟨rfl, hv⟩ := hv
  obtain ⟨hP, hK, hN⟩ := hv
  have hx := B.exec
  have hb := B.bytes
  have hr := B.returns
  have hts := atoms_spec (ws := wsX8_pairsOf) B.pre
  have hown : s.vm.findClass RX8 = some m.cls := findClass_of_methodNamed B.named
  have hlocks := B.notSynchronized
  have hiX8 : ∀ w ∈ u_ws RX8 TX8 33, w ∈ wsX8_pairsOf := fun w h => List.mem_cons_of_mem _ (List.mem_append_right _ h)
  obtain ⟨Q, hQ⟩ : ∃ Q : State → Prop, Q = MQ below (vp_Si (fun r => r = r0)) (([Value.ref o, Value.ref q1] : List Value).toArray) s 0 0 (fun _ => False) := ⟨_, rfl⟩
  have hl := lv_entry ([.ref o, .ref q1]) (n := 5) (Nat.le_of_ble_eq_true rfl)
  rw [← hQ, lg_entry_eq]
  generalize (lg_sl ([.ref o, .ref q1]) ++ List.replicate (5 - (lg_sl ([.ref o, .ref q1])).length) Slot.unset).toArray = ls at hl ⊢
  have hl : lv_has ls 5 [(0, .ref o), (1, .ref q1)] := hl
  show W p l e rm_X8_pairsOf s m (([Value.ref o, Value.ref q1] : List Value).toArray) below meth c s.heap [] 0 0 Q (F0 m 0 ls [])
  have L4 : ∀ (n4 : Nat), ∀ (x2 : Int32) (x3 : Int32) (ls : Array Slot), x8_pairsOf_b4 N v_jars v_some f_kind f_q1 n4 x2 x3 = some r0 → lv_has ls 5 [(0, .ref o), (1, .ref q1), (2, .int x2), (3, .int x3)] → W p l e rm_X8_pairsOf s m (([Value.ref o, Value.ref q1] : List Value).toArray) below meth c s.heap [] 0 0 Q (F0 m 4 ls []) := by
    intro n4
    induction n4 with
    | zero =>
      intro x2 x3 ls hf hl
      exact g_no hf
    | succ n4 ih4 =>
      have J50 : ∀ (x3 : Int32) (t0 : Int32) (t1 : Int32) (ls : Array Slot), x8_pairsOf_b50 N v_jars v_some f_kind f_q1 (x8_pairsOf_b4 N v_jars v_some f_kind f_q1 n4) x3 t0 t1 = some r0 → lv_has ls 5 [(0, .ref o), (1, .ref q1), (3, .int x3)] → W p l e rm_X8_pairsOf s m (([Value.ref o, Value.ref q1] : List Value).toArray) below meth c s.heap [] 0 0 Q (F0 m 50 ls [.int t1, .int t0]) := by
        intro x3 t0 t1 ls hf hl
        unfold x8_pairsOf_b50 at hf
        refine lv_iadd hx hb dX8_pairsOf_50 ?_
        refine lv_istore_n (lv' := [(2, .int (t0 + t1)), (0, .ref o), (1, .ref q1), (3, .int x3)]) hx hb dX8_pairsOf_51 rfl hl (by decide) rfl (fun ls hl => ?_)
        refine lv_iinc (v := (x3 + (1 : Int32))) (lv' := [(3, .int (x3 + (1 : Int32))), (2, .int (t0 + t1)), (0, .ref o), (1, .ref q1)]) hx hb dX8_pairsOf_52 hl (k := 3) rfl rfl (by decide) rfl (fun ls hl => ?_)
        refine lv_goto (tgt := 4) hx hb dX8_pairsOf_55 (by decide) ?_
        exact ih4 (t0 + t1) (x3 + (1 : Int32)) ls hf (lv_sub hl [2, 3, 1, 0] rfl)
      have J49 : ∀ (x3 : Int32) (t0 : Int32) (ls : Array Slot), x8_pairsOf_b49 N v_jars v_some f_kind f_q1 (x8_pairsOf_b4 N v_jars v_some f_kind f_q1 n4) x3 t0 = some r0 → lv_has ls 5 [(0, .ref o), (1, .ref q1), (3, .int x3)] → W p l e rm_X8_pairsOf s m (([Value.ref o, Value.ref q1] : List Value).toArray) below meth c s.heap [] 0 0 Q (F0 m 49 ls [.int t0]) := by
        intro x3 t0 ls hf hl
        unfold x8_pairsOf_b49 at hf
        refine lv_iconst (v := (0 : Int32)) hx hb dX8_pairsOf_49 (by decide) ?_
        exact J50 x3 t0 (0 : Int32) ls hf (lv_sub hl [0, 1, 2] rfl)
      intro x2 x3 ls hf hl
      unfold x8_pairsOf_b4 at hf
      refine lv_iload_n hx hb dX8_pairsOf_4 rfl (lv_at hl 3 rfl) ?_
      refine lv_aload_n hx hb dX8_pairsOf_5 rfl (lv_at hl 0 rfl) ?_
      refine va_get (D := (dC, dI)) (ci := 8) (v := .int v_jars) (C := RX8) (T := TX8) (N := 33) hx hb hts hiX8 hown hK hP 0 rfl rfl 4 (by decide) (hts (.fieldLink RX8 60 "GreenJarsModel" "jars" "I") (by decide +kernel)) (fun _ h9 => h9) rfl dX8_pairsOf_6 ?_
      refine lv_icmp_ge (tgt := 58) hx hb dX8_pairsOf_9 (by decide) (fun c1 => ?_) (fun c1 => ?_)
      · have hf := g_pos c1 hf
        refine lv_iload_n hx hb dX8_pairsOf_58 rfl (lv_at hl 2 rfl) ?_
        rw [hQ]
        exact W.iret (v := x2) hx hb hr (fun t ht hW => ⟨_, rfl, Option.some.inj hf, ht⟩) (fun q h => by cases h) dX8_pairsOf_59
      · have hf := g_neg c1 hf
        refine lv_aload_n hx hb dX8_pairsOf_12 rfl (lv_at hl 0 rfl) ?_
        refine lv_aload_n hx hb dX8_pairsOf_13 rfl (lv_at hl 1 rfl) ?_
        refine lv_iload_n hx hb dX8_pairsOf_14 rfl (lv_at hl 3 rfl) ?_
        obtain ⟨r2, hc3, hf⟩ := g_b1 hf
        refine g_rV (As := [.ref q1, .int x3]) (rest := []) ⟨hx, hb, hml, hown, hts⟩ (c_X8_sees l dC dI cI cZ cG o o_text o_kind o_size o_readJar o_page o_trial o_book o_kept o_isKept o_tastedFrom o_tastedTo o_order o_spots o_gains o_value q1  v_thrown v_textSize v_place v_jars v_readPlaces v_readJars v_acts v_tasted v_seed v_some v_rowMany v_rowWay v_stuffWhich v_stuffNear v_keptMany v_keptFirst v_restMany v_restFirst f_kind f_q1 x3 hc3) (cwV 2 hts gX8_pairsOf_X8_sees rfl rfl rfl (by decide +kernel) ⟨Nat.le_of_ble_eq_true rfl, Nat.le_of_ble_eq_true rfl⟩) hK hN (hP.sub [0, 1, 2] rfl) (va_recv hK hP (ci := 8) (q0 := 0) rfl rfl) rfl hl.1 rfl (Nat.le_of_ble_eq_true rfl) dX8_pairsOf_15 ⟨Nat.zero_le _, Nat.zero_le _⟩ ?_
        refine lv_istore (lv' := [(4, .int r2), (0, .ref o), (1, .ref q1), (2, .int x2), (3, .int x3)]) hx hb dX8_pairsOf_18 hl (by decide) rfl (fun ls hl => ?_)
        refine lv_iload_n hx hb dX8_pairsOf_20 rfl (lv_at hl 3 rfl) ?_
        refine lv_iload hx hb dX8_pairsOf_21 (lv_at hl 0 rfl) ?_
        refine lv_bipush (v := (-9 : Int32)) hx hb dX8_pairsOf_23 (by decide +kernel) ?_
        refine lv_icmp_eq (tgt := 49) hx hb dX8_pairsOf_25 (by decide) (fun c4 => ?_) (fun c4 => ?_)
        · have hf := g_pos c4 hf
          exact J49 x3 x2 ls hf (lv_sub hl [1, 2, 4] rfl)
        · have hf := g_neg c4 hf
          refine lv_iload hx hb dX8_pairsOf_28 (lv_at hl 0 rfl) ?_
          refine lv_iload_n hx hb dX8_pairsOf_30 rfl (lv_at hl 4 rfl) ?_
          refine lv_icmp_le (tgt := 49) hx hb dX8_pairsOf_31 (by decide) (fun c5 => ?_) (fun c5 => ?_)
          · have hf := g_pos c5 hf
            exact J49 x3 x2 ls hf (lv_sub hl [1, 2, 4] rfl)
          · have hf := g_neg c5 hf
            refine lv_aload_n hx hb dX8_pairsOf_34 rfl (lv_at hl 1 rfl) ?_
            refine lv_aload_n hx hb dX8_pairsOf_35 rfl (lv_at hl 2 rfl) ?_
            refine lv_iload hx hb dX8_pairsOf_36 (lv_at hl 0 rfl) ?_
            obtain ⟨r6, hc7, hf⟩ := g_b1 hf
            refine g_rV (As := [.ref q1, .int r2]) (rest := [.int x2]) ⟨hx, hb, hml, hown, hts⟩ (c_X8_sees l dC dI cI cZ cG o o_text o_kind o_size o_readJar o_page o_trial o_book o_kept o_isKept o_tastedFrom o_tastedTo o_order o_spots o_gains o_value q1  v_thrown v_textSize v_place v_jars v_readPlaces v_readJars v_acts v_tasted v_seed v_some v_rowMany v_rowWay v_stuffWhich v_stuffNear v_keptMany v_keptFirst v_restMany v_restFirst f_kind f_q1 r2 hc7) (cwV 2 hts gX8_pairsOf_X8_sees rfl rfl rfl (by decide +kernel) ⟨Nat.le_of_ble_eq_true rfl, Nat.le_of_ble_eq_true rfl⟩) hK hN (hP.sub [0, 1, 2] rfl) (va_recv hK hP (ci := 8) (q0 := 0) rfl rfl) rfl hl.1 rfl (Nat.le_of_ble_eq_true rfl) dX8_pairsOf_38 ⟨Nat.zero_le _, Nat.zero_le _⟩ ?_
            refine lv_iload_n hx hb dX8_pairsOf_41 rfl (lv_at hl 4 rfl) ?_
            refine lv_icmp_ne (tgt := 49) hx hb dX8_pairsOf_42 (by decide) (fun c8 => ?_) (fun c8 => ?_)
            · have hf := g_neg c8 hf
              exact J49 x3 x2 ls hf (lv_sub hl [1, 2, 4] rfl)
            · have hf := g_pos c8 hf
              refine lv_iconst (v := (1 : Int32)) hx hb dX8_pairsOf_45 (by decide) ?_
              refine lv_goto (tgt := 50) hx hb dX8_pairsOf_46 (by decide) ?_
              exact J50 x3 x2 (1 : Int32) ls hf (lv_sub hl [1, 2, 4] rfl)
  unfold x8_pairsOf at hf
  refine lv_iconst (v := (0 : Int32)) hx hb dX8_pairsOf_0 (by decide) ?_
  refine lv_istore_n (lv' := [(2, .int (0 : Int32)), (0, .ref o), (1, .ref q1)]) hx hb dX8_pairsOf_1 rfl hl (by decide) rfl (fun ls hl => ?_)
  refine lv_iconst (v := (0 : Int32)) hx hb dX8_pairsOf_2 (by decide) ?_
  refine lv_istore_n (lv' := [(3, .int (0 : Int32)), (2, .int (0 : Int32)), (0, .ref o), (1, .ref q1)]) hx hb dX8_pairsOf_3 rfl hl (by decide) rfl (fun ls hl => ?_)
  exact L4 N (0 : Int32) (0 : Int32) ls hf (lv_sub hl [2, 3, 1, 0] rfl)
abbrev rm_X8_thatAre : Room := { frames := 0, cells := 0, slots := 0, locals := 0 }
abbrev w_X8_thatAre (cI cZ cG : ClassId) (o : Nat) (o_text : Nat) (o_kind : Nat) (o_size : Nat) (o_readJar : Nat) (o_page : Nat) (o_trial : Nat) (o_book : Nat) (o_kept : Nat) (o_isKept : Nat) (o_tastedFrom : Nat) (o_tastedTo : Nat) (o_order : Nat) (o_spots : Nat) (o_gains : Nat) (o_value : Nat) (q1 : Nat) (v_thrown : Int32) (v_textSize : Int32) (v_place : Int32) (v_jars : Int32) (v_readPlaces : Int32) (v_readJars : Int32) (v_acts : Int32) (v_tasted : Int32) (v_seed : Int64) (v_some : Int32) (v_rowMany : Int32) (v_rowWay : Int32) (v_stuffWhich : Int32) (v_stuffNear : Int32) (v_keptMany : Int32) (v_keptFirst : Int32) (v_restMany : Int32) (v_restFirst : Int32) (f_q1 : Nat → Int32) : va_W := [(o, .inr (8, [.int v_thrown, .ref o_text, .int v_textSize, .int v_place, .int v_jars, .ref o_kind, .ref o_size, .int v_readPlaces, .int v_readJars, .ref o_readJar, .ref o_page, .ref o_trial, .ref o_book, .int v_acts, .ref o_kept, .ref o_isKept, .int v_tasted, .ref o_tastedFrom, .ref o_tastedTo, .long v_seed, .int v_some, .ref o_order, .ref o_spots, .int v_rowMany, .int v_rowWay, .int v_stuffWhich, .int v_stuffNear, .int v_keptMany, .int v_keptFirst, .int v_restMany, .int v_restFirst, .ref o_gains, .ref o_value])), (q1, .inl (cI, 37, .inl f_q1))]
set_option maxHeartbeats 4000000 in
set_option maxRecDepth 100000 in
theorem c_X8_thatAre (l : Launch) (dC : Nat → ClassId) (dI : Nat → Nat → Nat) (cI cZ cG : ClassId) {N : Nat} (o : Nat) (o_text : Nat) (o_kind : Nat) (o_size : Nat) (o_readJar : Nat) (o_page : Nat) (o_trial : Nat) (o_book : Nat) (o_kept : Nat) (o_isKept : Nat) (o_tastedFrom : Nat) (o_tastedTo : Nat) (o_order : Nat) (o_spots : Nat) (o_gains : Nat) (o_value : Nat) (q1 : Nat) (v_thrown : Int32) (v_textSize : Int32) (v_place : Int32) (v_jars : Int32) (v_readPlaces : Int32) (v_readJars : Int32) (v_acts : Int32) (v_tasted : Int32) (v_seed : Int64) (v_some : Int32) (v_rowMany : Int32) (v_rowWay : Int32) (v_stuffWhich : Int32) (v_stuffNear : Int32) (v_keptMany : Int32) (v_keptFirst : Int32) (v_restMany : Int32) (v_restFirst : Int32) (f_q1 : Nat → Int32) (a2 : Int32) {r0 : Int32} (hf : x8_thatAre N v_jars f_q1 a2 = some r0) : Met l yX8_thatAre wsX8_thatAre rm_X8_thatAre (va_Pc [.ref o, .ref q1, .int a2] (gR (dC, dI) vwCl (gT cI cZ cG) (w_X8_thatAre cI cZ cG o o_text o_kind o_size o_readJar o_page o_trial o_book o_kept o_isKept o_tastedFrom o_tastedTo o_order o_spots o_gains o_value q1 v_thrown v_textSize v_place v_jars v_readPlaces v_readJars v_acts v_tasted v_seed v_some v_rowMany v_rowWay v_stuffWhich v_stuffNear v_keptMany v_keptFirst v_restMany v_restFirst f_q1))) (vp_Si (fun r => r = r0)) 0 0 (fun _ => False) := by
  refine Met.ofW (cc := cX8_thatAre) (maxL := 5) (ret := (some .int)) (by decide) rfl ?_
  intro p e s m args below meth c s₁ B hml hv
  obtain ⟨rfl, hv⟩ := hv
  obtain ⟨hP, hK, hN⟩ := hv
  have hx := B.exec
  have hb := B.bytes
  have hr := B.returns
  have hts := atoms_spec (ws := wsX8_thatAre) B.pre
  have hown : s.vm.findClass RX8 = some m.cls := findClass_of_methodNamed B.named
  have hlocks := B.notSynchronized
  have hiX8 : ∀ w ∈ u_ws RX8 TX8 33, w ∈ wsX8_thatAre := fun w h => List.mem_cons_of_mem _ (List.mem_append_right _ h)
  obtain ⟨Q, hQ⟩ : ∃ Q : State → Prop, Q = MQ below (vp_Si (fun r => r = r0)) (([Value.ref o, Value.ref q1, Value.int a2] : List Value).toArray) s 0 0 (fun _ => False) := ⟨_, rfl⟩
  have hl := lv_entry ([.ref o, .ref q1, .int a2]) (n := 5) (Nat.le_of_ble_eq_true rfl)
  rw [← hQ, lg_entry_eq]
  generalize (lg_sl ([.ref o, .ref q1, .int a2]) ++ List.replicate (5 - (lg_sl ([.ref o, .ref q1, .int a2])).length) Slot.unset).toArray = ls at hl ⊢
  have hl : lv_has ls 5 [(0, .ref o), (1, .ref q1), (2, .int a2)] := hl
  show W p l e rm_X8_thatAre s m (([Value.ref o, Value.ref q1, Value.int a2] : List Value).toArray) below meth c s.heap [] 0 0 Q (F0 m 0 ls [])
  have L5 : ∀ (n5 : Nat), ∀ (x3 : Int32) (x4 : Int32) (ls : Array Slot), x8_thatAre_b5 N v_jars f_q1 a2 n5 x3 x4 = some r0 → lv_has ls 5 [(0, .ref o), (1, .ref q1), (2, .int a2), (3, .int x3), (4, .int x4)] → W p l e rm_X8_thatAre s m (([Value.ref o, Value.ref q1, Value.int a2] : List Value).toArray) below meth c s.heap [] 0 0 Q (F0 m 5 ls []) := by
    intro n5
    induction n5 with
    | zero =>
      intro x3 x4 ls hf hl
      exact g_no hf
    | succ n5 ih5 =>
      have J34 : ∀ (x4 : Int32) (t0 : Int32) (t1 : Int32) (ls : Array Slot), x8_thatAre_b34 N v_jars f_q1 a2 (x8_thatAre_b5 N v_jars f_q1 a2 n5) x4 t0 t1 = some r0 → lv_has ls 5 [(0, .ref o), (1, .ref q1), (2, .int a2), (4, .int x4)] → W p l e rm_X8_thatAre s m (([Value.ref o, Value.ref q1, Value.int a2] : List Value).toArray) below meth c s.heap [] 0 0 Q (F0 m 34 ls [.int t1, .int t0]) := by
        intro x4 t0 t1 ls hf hl
        unfold x8_thatAre_b34 at hf
        refine lv_ior hx hb dX8_thatAre_34 ?_
        refine lv_istore_n (lv' := [(3, .int (t0 ||| t1)), (0, .ref o), (1, .ref q1), (2, .int a2), (4, .int x4)]) hx hb dX8_thatAre_35 rfl hl (by decide) rfl (fun ls hl => ?_)
        refine lv_iinc (v := (x4 + (1 : Int32))) (lv' := [(4, .int (x4 + (1 : Int32))), (3, .int (t0 ||| t1)), (0, .ref o), (1, .ref q1), (2, .int a2)]) hx hb dX8_thatAre_36 hl (k := 4) rfl rfl (by decide) rfl (fun ls hl => ?_)
        refine lv_goto (tgt := 5) hx hb dX8_thatAre_39 (by decide) ?_
        exact ih5 (t0 ||| t1) (x4 + (1 : Int32)) ls hf (lv_sub hl [2, 3, 4, 1, 0] rfl)
      intro x3 x4 ls hf hl
      unfold x8_thatAre_b5 at hf
      refine lv_iload hx hb dX8_thatAre_5 (lv_at hl 4 rfl) ?_
      refine lv_aload_n hx hb dX8_thatAre_7 rfl (lv_at hl 0 rfl) ?_
      refine va_get (D := (dC, dI)) (ci := 8) (v := .int v_jars) (C := RX8) (T := TX8) (N := 33) hx hb hts hiX8 hown hK hP 0 rfl rfl 4 (by decide) (hts (.fieldLink RX8 60 "GreenJarsModel" "jars" "I") (by decide +kernel)) (fun _ h9 => h9) rfl dX8_thatAre_8 ?_
      refine lv_icmp_ge (tgt := 42) hx hb dX8_thatAre_11 (by decide) (fun c1 => ?_) (fun c1 => ?_)
      · have hf := g_pos c1 hf
        refine lv_iload_n hx hb dX8_thatAre_42 rfl (lv_at hl 3 rfl) ?_
        rw [hQ]
        exact W.iret (v := x3) hx hb hr (fun t ht hW => ⟨_, rfl, Option.some.inj hf, ht⟩) (fun q h => by cases h) dX8_thatAre_43
      · have hf := g_neg c1 hf
        refine lv_iload_n hx hb dX8_thatAre_14 rfl (lv_at hl 3 rfl) ?_
        refine lv_aload_n hx hb dX8_thatAre_15 rfl (lv_at hl 1 rfl) ?_
        refine lv_bipush (v := (30 : Int32)) hx hb dX8_thatAre_16 (by decide +kernel) ?_
        refine lv_iload hx hb dX8_thatAre_18 (lv_at hl 4 rfl) ?_
        refine lv_iadd hx hb dX8_thatAre_20 ?_
        obtain ⟨h2, hf⟩ := g_chk hf
        refine va_iald hx hb hK hP 1 0 rfl rfl (gIn_vp h2) dX8_thatAre_21 ?_
        refine lv_iload_n hx hb dX8_thatAre_22 rfl (lv_at hl 2 rfl) ?_
        refine lv_icmp_ne (tgt := 33) hx hb dX8_thatAre_23 (by decide) (fun c3 => ?_) (fun c3 => ?_)
        · have hf := g_neg c3 hf
          refine lv_iconst (v := (0 : Int32)) hx hb dX8_thatAre_33 (by decide) ?_
          exact J34 x4 x3 (0 : Int32) ls hf (lv_sub hl [0, 1, 2, 4] rfl)
        · have hf := g_pos c3 hf
          refine lv_iconst (v := (1 : Int32)) hx hb dX8_thatAre_26 (by decide) ?_
          refine lv_iload hx hb dX8_thatAre_27 (lv_at hl 4 rfl) ?_
          refine lv_ishl hx hb dX8_thatAre_29 ?_
          refine lv_goto (tgt := 34) hx hb dX8_thatAre_30 (by decide) ?_
          exact J34 x4 x3 ((1 : Int32) <<< (x4 &&& 31)) ls hf (lv_sub hl [0, 1, 2, 4] rfl)
  unfold x8_thatAre at hf
  refine lv_iconst (v := (0 : Int32)) hx hb dX8_thatAre_0 (by decide) ?_
  refine lv_istore_n (lv' := [(3, .int (0 : Int32)), (0, .ref o), (1, .ref q1), (2, .int a2)]) hx hb dX8_thatAre_1 rfl hl (by decide) rfl (fun ls hl => ?_)
  refine lv_iconst (v := (0 : Int32)) hx hb dX8_thatAre_2 (by decide) ?_
  refine lv_istore (lv' := [(4, .int (0 : Int32)), (3, .int (0 : Int32)), (0, .ref o), (1, .ref q1), (2, .int a2)]) hx hb dX8_thatAre_3 hl (by decide) rfl (fun ls hl => ?_)
  exact L5 N (0 : Int32) (0 : Int32) ls hf (lv_sub hl [2, 3, 4, 1, 0] rfl)
abbrev rm_X8_places : Room := { frames := 0, cells := 0, slots := 0, locals := 0 }
abbrev w_X8_places (cI cZ cG : ClassId) (o : Nat) (o_text : Nat) (o_kind : Nat) (o_size : Nat) (o_readJar : Nat) (o_page : Nat) (o_trial : Nat) (o_book : Nat) (o_kept : Nat) (o_isKept : Nat) (o_tastedFrom : Nat) (o_tastedTo : Nat) (o_order : Nat) (o_spots : Nat) (o_gains : Nat) (o_value : Nat) (v_thrown : Int32) (v_textSize : Int32) (v_place : Int32) (v_jars : Int32) (v_readPlaces : Int32) (v_readJars : Int32) (v_acts : Int32) (v_tasted : Int32) (v_seed : Int64) (v_some : Int32) (v_rowMany : Int32) (v_rowWay : Int32) (v_stuffWhich : Int32) (v_stuffNear : Int32) (v_keptMany : Int32) (v_keptFirst : Int32) (v_restMany : Int32) (v_restFirst : Int32) (f_page : Nat → Int32) : va_W := [(o, .inr (8, [.int v_thrown, .ref o_text, .int v_textSize, .int v_place, .int v_jars, .ref o_kind, .ref o_size, .int v_readPlaces, .int v_readJars, .ref o_readJar, .ref o_page, .ref o_trial, .ref o_book, .int v_acts, .ref o_kept, .ref o_isKept, .int v_tasted, .ref o_tastedFrom, .ref o_tastedTo, .long v_seed, .int v_some, .ref o_order, .ref o_spots, .int v_rowMany, .int v_rowWay, .int v_stuffWhich, .int v_stuffNear, .int v_keptMany, .int v_keptFirst, .int v_restMany, .int v_restFirst, .ref o_gains, .ref o_value])), (o_page, .inl (cI, 37, .inl f_page))]
set_option maxHeartbeats 4000000 in
set_option maxRecDepth 100000 in
theorem c_X8_places (l : Launch) (dC : Nat → ClassId) (dI : Nat → Nat → Nat) (cI cZ cG : ClassId) {N : Nat} (o : Nat) (o_text : Nat) (o_kind : Nat) (o_size : Nat) (o_readJar : Nat) (o_page : Nat) (o_trial : Nat) (o_book : Nat) (o_kept : Nat) (o_isKept : Nat) (o_tastedFrom : Nat) (o_tastedTo : Nat) (o_order : Nat) (o_spots : Nat) (o_gains : Nat) (o_value : Nat) (v_thrown : Int32) (v_textSize : Int32) (v_place : Int32) (v_jars : Int32) (v_readPlaces : Int32) (v_readJars : Int32) (v_acts : Int32) (v_tasted : Int32) (v_seed : Int64) (v_some : Int32) (v_rowMany : Int32) (v_rowWay : Int32) (v_stuffWhich : Int32) (v_stuffNear : Int32) (v_keptMany : Int32) (v_keptFirst : Int32) (v_restMany : Int32) (v_restFirst : Int32) (f_page : Nat → Int32) {r0 : Int32} (hf : x8_places N v_jars f_page = some r0) : Met l yX8_places wsX8_places rm_X8_places (va_Pc [.ref o] (gR (dC, dI) vwCl (gT cI cZ cG) (w_X8_places cI cZ cG o o_text o_kind o_size o_readJar o_page o_trial o_book o_kept o_isKept o_tastedFrom o_tastedTo o_order o_spots o_gains o_value v_thrown v_textSize v_place v_jars v_readPlaces v_readJars v_acts v_tasted v_seed v_some v_rowMany v_rowWay v_stuffWhich v_stuffNear v_keptMany v_keptFirst v_restMany v_restFirst f_page))) (vp_Si (fun r => r = r0)) 0 0 (fun _ => False) := by
  refine Met.ofW (cc := cX8_places) (maxL := 3) (ret := (some .int)) (by decide) rfl ?_
  intro p e s m args below meth c s₁ B hml hv
  obtain ⟨rfl, hv⟩ := hv
  obtain ⟨hP, hK, hN⟩ := hv
  have hx := B.exec
  have hb := B.bytes
  have hr := B.returns
  have hts := atoms_spec (ws := wsX8_places) B.pre
  have hown : s.vm.findClass RX8 = some m.cls := findClass_of_methodNamed B.named
  have hlocks := B.notSynchronized
  have hiX8 : ∀ w ∈ u_ws RX8 TX8 33, w ∈ wsX8_places := fun w h => List.mem_cons_of_mem _ (List.mem_append_right _ h)
  obtain ⟨Q, hQ⟩ : ∃ Q : State → Prop, Q = MQ below (vp_Si (fun r => r = r0)) (([Value.ref o] : List Value).toArray) s 0 0 (fun _ => False) := ⟨_, rfl⟩
  have hl := lv_entry ([.ref o]) (n := 3) (Nat.le_of_ble_eq_true rfl)
  rw [← hQ, lg_entry_eq]
  generalize (lg_sl ([.ref o]) ++ List.replicate (3 - (lg_sl ([.ref o])).length) Slot.unset).toArray = ls at hl ⊢
  have hl : lv_has ls 3 [(0, .ref o)] := hl
  show W p l e rm_X8_places s m (([Value.ref o] : List Value).toArray) below meth c s.heap [] 0 0 Q (F0 m 0 ls [])
  have L4 : ∀ (n4 : Nat), ∀ (x1 : Int32) (x2 : Int32) (ls : Array Slot), x8_places_b4 N v_jars f_page n4 x1 x2 = some r0 → lv_has ls 3 [(0, .ref o), (1, .int x1), (2, .int x2)] → W p l e rm_X8_places s m (([Value.ref o] : List Value).toArray) below meth c s.heap [] 0 0 Q (F0 m 4 ls []) := by
    intro n4
    induction n4 with
    | zero =>
      intro x1 x2 ls hf hl
      exact g_no hf
    | succ n4 ih4 =>
      have J38 : ∀ (x2 : Int32) (t0 : Int32) (t1 : Int32) (ls : Array Slot), x8_places_b38 N v_jars f_page (x8_places_b4 N v_jars f_page n4) x2 t0 t1 = some r0 → lv_has ls 3 [(0, .ref o), (2, .int x2)] → W p l e rm_X8_places s m (([Value.ref o] : List Value).toArray) below meth c s.heap [] 0 0 Q (F0 m 38 ls [.int t1, .int t0]) := by
        intro x2 t0 t1 ls hf hl
        unfold x8_places_b38 at hf
        refine lv_ior hx hb dX8_places_38 ?_
        refine lv_istore_n (lv' := [(1, .int (t0 ||| t1)), (0, .ref o), (2, .int x2)]) hx hb dX8_places_39 rfl hl (by decide) rfl (fun ls hl => ?_)
        refine lv_iinc (v := (x2 + (1 : Int32))) (lv' := [(2, .int (x2 + (1 : Int32))), (1, .int (t0 ||| t1)), (0, .ref o)]) hx hb dX8_places_40 hl (k := 2) rfl rfl (by decide) rfl (fun ls hl => ?_)
        refine lv_goto (tgt := 4) hx hb dX8_places_43 (by decide) ?_
        exact ih4 (t0 ||| t1) (x2 + (1 : Int32)) ls hf (lv_sub hl [2, 1, 0] rfl)
      intro x1 x2 ls hf hl
      unfold x8_places_b4 at hf
      refine lv_iload_n hx hb dX8_places_4 rfl (lv_at hl 2 rfl) ?_
      refine lv_aload_n hx hb dX8_places_5 rfl (lv_at hl 0 rfl) ?_
      refine va_get (D := (dC, dI)) (ci := 8) (v := .int v_jars) (C := RX8) (T := TX8) (N := 33) hx hb hts hiX8 hown hK hP 0 rfl rfl 4 (by decide) (hts (.fieldLink RX8 60 "GreenJarsModel" "jars" "I") (by decide +kernel)) (fun _ h9 => h9) rfl dX8_places_6 ?_
      refine lv_icmp_ge (tgt := 46) hx hb dX8_places_9 (by decide) (fun c1 => ?_) (fun c1 => ?_)
      · have hf := g_pos c1 hf
        refine lv_iload_n hx hb dX8_places_46 rfl (lv_at hl 1 rfl) ?_
        rw [hQ]
        exact W.iret (v := x1) hx hb hr (fun t ht hW => ⟨_, rfl, Option.some.inj hf, ht⟩) (fun q h => by cases h) dX8_places_47
      · have hf := g_neg c1 hf
        refine lv_iload_n hx hb dX8_places_12 rfl (lv_at hl 1 rfl) ?_
        refine lv_aload_n hx hb dX8_places_13 rfl (lv_at hl 0 rfl) ?_
        refine va_get (D := (dC, dI)) (ci := 8) (v := .ref o_page) (C := RX8) (T := TX8) (N := 33) hx hb hts hiX8 hown hK hP 0 rfl rfl 10 (by decide) (hts (.fieldLink RX8 22 "GreenJarsModel" "page" "[I") (by decide +kernel)) (fun _ h9 => h9) rfl dX8_places_14 ?_
        refine lv_bipush (v := (30 : Int32)) hx hb dX8_places_17 (by decide +kernel) ?_
        refine lv_iload_n hx hb dX8_places_19 rfl (lv_at hl 2 rfl) ?_
        refine lv_iadd hx hb dX8_places_20 ?_
        obtain ⟨h2, hf⟩ := g_chk hf
        refine va_iald hx hb hK hP 1 0 rfl rfl (gIn_vp h2) dX8_places_21 ?_
        refine lv_iconst (v := (2 : Int32)) hx hb dX8_places_22 (by decide) ?_
        refine lv_icmp_ne (tgt := 30) hx hb dX8_places_23 (by decide) (fun c3 => ?_) (fun c3 => ?_)
        · have hf := g_neg c3 hf
          refine lv_iconst (v := (1 : Int32)) hx hb dX8_places_30 (by decide) ?_
          refine lv_aload_n hx hb dX8_places_31 rfl (lv_at hl 0 rfl) ?_
          refine va_get (D := (dC, dI)) (ci := 8) (v := .ref o_page) (C := RX8) (T := TX8) (N := 33) hx hb hts hiX8 hown hK hP 0 rfl rfl 10 (by decide) (hts (.fieldLink RX8 22 "GreenJarsModel" "page" "[I") (by decide +kernel)) (fun _ h9 => h9) rfl dX8_places_32 ?_
          refine lv_iload_n hx hb dX8_places_35 rfl (lv_at hl 2 rfl) ?_
          obtain ⟨h4, hf⟩ := g_chk hf
          refine va_iald hx hb hK hP 1 0 rfl rfl (gIn_vp h4) dX8_places_36 ?_
          refine lv_ishl hx hb dX8_places_37 ?_
          exact J38 x2 x1 ((1 : Int32) <<< ((f_page x2.toNatClampNeg) &&& 31)) ls hf (lv_sub hl [0, 2] rfl)
        · have hf := g_pos c3 hf
          refine lv_iconst (v := (0 : Int32)) hx hb dX8_places_26 (by decide) ?_
          refine lv_goto (tgt := 38) hx hb dX8_places_27 (by decide) ?_
          exact J38 x2 x1 (0 : Int32) ls hf (lv_sub hl [0, 2] rfl)
  unfold x8_places at hf
  refine lv_iconst (v := (0 : Int32)) hx hb dX8_places_0 (by decide) ?_
  refine lv_istore_n (lv' := [(1, .int (0 : Int32)), (0, .ref o)]) hx hb dX8_places_1 rfl hl (by decide) rfl (fun ls hl => ?_)
  refine lv_iconst (v := (0 : Int32)) hx hb dX8_places_2 (by decide) ?_
  refine lv_istore_n (lv' := [(2, .int (0 : Int32)), (1, .int (0 : Int32)), (0, .ref o)]) hx hb dX8_places_3 rfl hl (by decide) rfl (fun ls hl => ?_)
  exact L4 N (0 : Int32) (0 : Int32) ls hf (lv_sub hl [2, 1, 0] rfl)
abbrev rm_X8_flavours : Room := { frames := 1, cells := 0, slots := 0, locals := 21 }
abbrev w_X8_flavours (cI cZ cG : ClassId) (o : Nat) (o_text : Nat) (o_kind : Nat) (o_size : Nat) (o_readJar : Nat) (o_page : Nat) (o_trial : Nat) (o_book : Nat) (o_kept : Nat) (o_isKept : Nat) (o_tastedFrom : Nat) (o_tastedTo : Nat) (o_order : Nat) (o_spots : Nat) (o_gains : Nat) (o_value : Nat) (q1 : Nat) (v_thrown : Int32) (v_textSize : Int32) (v_place : Int32) (v_jars : Int32) (v_readPlaces : Int32) (v_readJars : Int32) (v_acts : Int32) (v_tasted : Int32) (v_seed : Int64) (v_some : Int32) (v_rowMany : Int32) (v_rowWay : Int32) (v_stuffWhich : Int32) (v_stuffNear : Int32) (v_keptMany : Int32) (v_keptFirst : Int32) (v_restMany : Int32) (v_restFirst : Int32) (f_q1 : Nat → Int32) : va_W := [(o, .inr (8, [.int v_thrown, .ref o_text, .int v_textSize, .int v_place, .int v_jars, .ref o_kind, .ref o_size, .int v_readPlaces, .int v_readJars, .ref o_readJar, .ref o_page, .ref o_trial, .ref o_book, .int v_acts, .ref o_kept, .ref o_isKept, .int v_tasted, .ref o_tastedFrom, .ref o_tastedTo, .long v_seed, .int v_some, .ref o_order, .ref o_spots, .int v_rowMany, .int v_rowWay, .int v_stuffWhich, .int v_stuffNear, .int v_keptMany, .int v_keptFirst, .int v_restMany, .int v_restFirst, .ref o_gains, .ref o_value])), (q1, .inl (cI, 37, .inl f_q1))]
set_option maxHeartbeats 4000000 in
set_option maxRecDepth 100000 in
theorem c_X8_flavours (l : Launch) (dC : Nat → ClassId) (dI : Nat → Nat → Nat) (cI cZ cG : ClassId) {N : Nat} (o : Nat) (o_text : Nat) (o_kind : Nat) (o_size : Nat) (o_readJar : Nat) (o_page : Nat) (o_trial : Nat) (o_book : Nat) (o_kept : Nat) (o_isKept : Nat) (o_tastedFrom : Nat) (o_tastedTo : Nat) (o_order : Nat) (o_spots : Nat) (o_gains : Nat) (o_value : Nat) (q1 : Nat) (v_thrown : Int32) (v_textSize : Int32) (v_place : Int32) (v_jars : Int32) (v_readPlaces : Int32) (v_readJars : Int32) (v_acts : Int32) (v_tasted : Int32) (v_seed : Int64) (v_some : Int32) (v_rowMany : Int32) (v_rowWay : Int32) (v_stuffWhich : Int32) (v_stuffNear : Int32) (v_keptMany : Int32) (v_keptFirst : Int32) (v_restMany : Int32) (v_restFirst : Int32) (f_q1 : Nat → Int32) {r0 : Int32} (hf : x8_flavours N v_jars f_q1 = some r0) : Met l yX8_flavours wsX8_flavours rm_X8_flavours (va_Pc [.ref o, .ref q1] (gR (dC, dI) vwCl (gT cI cZ cG) (w_X8_flavours cI cZ cG o o_text o_kind o_size o_readJar o_page o_trial o_book o_kept o_isKept o_tastedFrom o_tastedTo o_order o_spots o_gains o_value q1 v_thrown v_textSize v_place v_jars v_readPlaces v_readJars v_acts v_tasted v_seed v_some v_rowMany v_rowWay v_stuffWhich v_stuffNear v_keptMany v_keptFirst v_restMany v_restFirst f_q1))) (vp_Si (fun r => r = r0)) 0 0 (fun _ => False) := by
  refine Met.ofW (cc := cX8_flavours) (maxL := 4) (ret := (some .int)) (by decide) rfl ?_
  intro p e s m args below meth c s₁ B hml hv
  obtain ⟨rfl, hv⟩ := hv
  obtain ⟨hP, hK, hN⟩ := hv
  have hx := B.exec
  have hb := B.bytes
  have hr := B.returns
  have hts := atoms_spec (ws := wsX8_flavours) B.pre
  have hown : s.vm.findClass RX8 = some m.cls := findClass_of_methodNamed B.named
  have hlocks := B.notSynchronized
  have hiX8 : ∀ w ∈ u_ws RX8 TX8 33, w ∈ wsX8_flavours := fun w h => List.mem_cons_of_mem _ (List.mem_append_right _ h)
  obtain ⟨Q, hQ⟩ : ∃ Q : State → Prop, Q = MQ below (vp_Si (fun r => r = r0)) (([Value.ref o, Value.ref q1] : List Value).toArray) s 0 0 (fun _ => False) := ⟨_, rfl⟩
  have hl := lv_entry ([.ref o, .ref q1]) (n := 4) (Nat.le_of_ble_eq_true rfl)
  rw [← hQ, lg_entry_eq]
  generalize (lg_sl ([.ref o, .ref q1]) ++ List.replicate (4 - (lg_sl ([.ref o, .ref q1])).length) Slot.unset).toArray = ls at hl ⊢
  have hl : lv_has ls 4 [(0, .ref o), (1, .ref q1)] := hl
  show W p l e rm_X8_flavours s m (([Value.ref o, Value.ref q1] : List Value).toArray) below meth c s.heap [] 0 0 Q (F0 m 0 ls [])
  have L4 : ∀ (n4 : Nat), ∀ (x2 : Int32) (x3 : Int32) (ls : Array Slot), x8_flavours_b4 N v_jars f_q1 n4 x2 x3 = some r0 → lv_has ls 4 [(0, .ref o), (1, .ref q1), (2, .int x2), (3, .int x3)] → W p l e rm_X8_flavours s m (([Value.ref o, Value.ref q1] : List Value).toArray) below meth c s.heap [] 0 0 Q (F0 m 4 ls []) := by
    intro n4
    induction n4 with
    | zero =>
      intro x2 x3 ls hf hl
      exact g_no hf
    | succ n4 ih4 =>
      have J31 : ∀ (x3 : Int32) (t0 : Int32) (t1 : Int32) (ls : Array Slot), x8_flavours_b31 N v_jars f_q1 (x8_flavours_b4 N v_jars f_q1 n4) x3 t0 t1 = some r0 → lv_has ls 4 [(0, .ref o), (1, .ref q1), (3, .int x3)] → W p l e rm_X8_flavours s m (([Value.ref o, Value.ref q1] : List Value).toArray) below meth c s.heap [] 0 0 Q (F0 m 31 ls [.int t1, .int t0]) := by
        intro x3 t0 t1 ls hf hl
        unfold x8_flavours_b31 at hf
        refine lv_iadd hx hb dX8_flavours_31 ?_
        refine lv_istore_n (lv' := [(2, .int (t0 + t1)), (0, .ref o), (1, .ref q1), (3, .int x3)]) hx hb dX8_flavours_32 rfl hl (by decide) rfl (fun ls hl => ?_)
        refine lv_iinc (v := (x3 + (1 : Int32))) (lv' := [(3, .int (x3 + (1 : Int32))), (2, .int (t0 + t1)), (0, .ref o), (1, .ref q1)]) hx hb dX8_flavours_33 hl (k := 3) rfl rfl (by decide) rfl (fun ls hl => ?_)
        refine lv_goto (tgt := 4) hx hb dX8_flavours_36 (by decide) ?_
        exact ih4 (t0 + t1) (x3 + (1 : Int32)) ls hf (lv_sub hl [2, 3, 1, 0] rfl)
      intro x2 x3 ls hf hl
      unfold x8_flavours_b4 at hf
      refine lv_iload_n hx hb dX8_flavours_4 rfl (lv_at hl 3 rfl) ?_
      refine lv_aload_n hx hb dX8_flavours_5 rfl (lv_at hl 0 rfl) ?_
      refine va_get (D := (dC, dI)) (ci := 8) (v := .int v_jars) (C := RX8) (T := TX8) (N := 33) hx hb hts hiX8 hown hK hP 0 rfl rfl 4 (by decide) (hts (.fieldLink RX8 60 "GreenJarsModel" "jars" "I") (by decide +kernel)) (fun _ h9 => h9) rfl dX8_flavours_6 ?_
      refine lv_icmp_ge (tgt := 39) hx hb dX8_flavours_9 (by decide) (fun c1 => ?_) (fun c1 => ?_)
      · have hf := g_pos c1 hf
        refine lv_iload_n hx hb dX8_flavours_39 rfl (lv_at hl 2 rfl) ?_
        rw [hQ]
        exact W.iret (v := x2) hx hb hr (fun t ht hW => ⟨_, rfl, Option.some.inj hf, ht⟩) (fun q h => by cases h) dX8_flavours_40
      · have hf := g_neg c1 hf
        refine lv_iload_n hx hb dX8_flavours_12 rfl (lv_at hl 2 rfl) ?_
        refine lv_aload_n hx hb dX8_flavours_13 rfl (lv_at hl 1 rfl) ?_
        refine lv_iload_n hx hb dX8_flavours_14 rfl (lv_at hl 3 rfl) ?_
        obtain ⟨r2, hc3, hf⟩ := g_b1 hf
        refine g_rS (As := [.ref q1, .int x3]) (rest := [.int x2]) ⟨hx, hb, hml, hown, hts⟩ (c_X8_isWhole l dC dI cI cZ cG q1  f_q1 x3 hc3) (va_cwS 2 hts gX8_flavours_X8_isWhole rfl rfl rfl (by decide +kernel) ⟨Nat.le_of_ble_eq_true rfl, Nat.le_of_ble_eq_true rfl⟩) hK hN (hP.sub [1] rfl) rfl hl.1 rfl (Nat.le_of_ble_eq_true rfl) dX8_flavours_15 ⟨Nat.zero_le _, Nat.zero_le _⟩ ?_
        refine lv_if_eq (tgt := 30) hx hb dX8_flavours_18 (by decide) (fun c4 => ?_) (fun c4 => ?_)
        · have hf := g_pos c4 hf
          refine lv_iconst (v := (0 : Int32)) hx hb dX8_flavours_30 (by decide) ?_
          exact J31 x3 x2 (0 : Int32) ls hf (lv_sub hl [0, 1, 3] rfl)
        · have hf := g_neg c4 hf
          refine lv_aload_n hx hb dX8_flavours_21 rfl (lv_at hl 1 rfl) ?_
          refine lv_bipush (v := (6 : Int32)) hx hb dX8_flavours_22 (by decide +kernel) ?_
          refine lv_iload_n hx hb dX8_flavours_24 rfl (lv_at hl 3 rfl) ?_
          refine lv_iadd hx hb dX8_flavours_25 ?_
          obtain ⟨h5, hf⟩ := g_chk hf
          refine va_iald hx hb hK hP 1 0 rfl rfl (gIn_vp h5) dX8_flavours_26 ?_
          refine lv_goto (tgt := 31) hx hb dX8_flavours_27 (by decide) ?_
          exact J31 x3 x2 (f_q1 ((6 : Int32) + x3).toNatClampNeg) ls hf (lv_sub hl [0, 1, 3] rfl)
  unfold x8_flavours at hf
  refine lv_iconst (v := (0 : Int32)) hx hb dX8_flavours_0 (by decide) ?_
  refine lv_istore_n (lv' := [(2, .int (0 : Int32)), (0, .ref o), (1, .ref q1)]) hx hb dX8_flavours_1 rfl hl (by decide) rfl (fun ls hl => ?_)
  refine lv_iconst (v := (0 : Int32)) hx hb dX8_flavours_2 (by decide) ?_
  refine lv_istore_n (lv' := [(3, .int (0 : Int32)), (2, .int (0 : Int32)), (0, .ref o), (1, .ref q1)]) hx hb dX8_flavours_3 rfl hl (by decide) rfl (fun ls hl => ?_)
  exact L4 N (0 : Int32) (0 : Int32) ls hf (lv_sub hl [2, 3, 1, 0] rfl)
abbrev rm_X8_about : Room := { frames := 5, cells := 0, slots := 0, locals := 118 }
abbrev w_X8_about (cI cZ cG : ClassId) (o : Nat) (o_text : Nat) (o_kind : Nat) (o_size : Nat) (o_readJar : Nat) (o_page : Nat) (o_trial : Nat) (o_book : Nat) (o_kept : Nat) (o_isKept : Nat) (o_tastedFrom : Nat) (o_tastedTo : Nat) (o_order : Nat) (o_spots : Nat) (o_gains : Nat) (o_value : Nat) (v_thrown : Int32) (v_textSize : Int32) (v_place : Int32) (v_jars : Int32) (v_readPlaces : Int32) (v_readJars : Int32) (v_acts : Int32) (v_tasted : Int32) (v_seed : Int64) (v_some : Int32) (v_rowMany : Int32) (v_rowWay : Int32) (v_stuffWhich : Int32) (v_stuffNear : Int32) (v_keptMany : Int32) (v_keptFirst : Int32) (v_restMany : Int32) (v_restFirst : Int32) (f_kind : Nat → Int32) (f_page : Nat → Int32) : va_W := [(o, .inr (8, [.int v_thrown, .ref o_text, .int v_textSize, .int v_place, .int v_jars, .ref o_kind, .ref o_size, .int v_readPlaces, .int v_readJars, .ref o_readJar, .ref o_page, .ref o_trial, .ref o_book, .int v_acts, .ref o_kept, .ref o_isKept, .int v_tasted, .ref o_tastedFrom, .ref o_tastedTo, .long v_seed, .int v_some, .ref o_order, .ref o_spots, .int v_rowMany, .int v_rowWay, .int v_stuffWhich, .int v_stuffNear, .int v_keptMany, .int v_keptFirst, .int v_restMany, .int v_restFirst, .ref o_gains, .ref o_value])), (o_kind, .inl (cI, 6, .inl f_kind)), (o_page, .inl (cI, 37, .inl f_page))]
set_option maxHeartbeats 4000000 in
set_option maxRecDepth 100000 in
theorem c_X8_about (l : Launch) (dC : Nat → ClassId) (dI : Nat → Nat → Nat) (cI cZ cG : ClassId) {N : Nat} (o : Nat) (o_text : Nat) (o_kind : Nat) (o_size : Nat) (o_readJar : Nat) (o_page : Nat) (o_trial : Nat) (o_book : Nat) (o_kept : Nat) (o_isKept : Nat) (o_tastedFrom : Nat) (o_tastedTo : Nat) (o_order : Nat) (o_spots : Nat) (o_gains : Nat) (o_value : Nat) (sz : Nat) (v_thrown : Int32) (v_textSize : Int32) (v_place : Int32) (v_jars : Int32) (v_readPlaces : Int32) (v_readJars : Int32) (v_acts : Int32) (v_tasted : Int32) (v_seed : Int64) (v_some : Int32) (v_rowMany : Int32) (v_rowWay : Int32) (v_stuffWhich : Int32) (v_stuffNear : Int32) (v_keptMany : Int32) (v_keptFirst : Int32) (v_restMany : Int32) (v_restFirst : Int32) (f_kind : Nat → Int32) (f_page : Nat → Int32) (a1 : Int32) {r0 : Int32} {n_thrown : Int32} {n_some : Int32} (hf : x8_about N v_thrown v_textSize v_jars v_acts v_tasted v_some f_kind f_page a1 = some (r0, n_thrown, n_some)) : Met l yX8_about wsX8_about rm_X8_about (va_Pc [.ref o, .int a1] (gW (dC, dI) vwCl (gT cI cZ cG) (w_X8_about cI cZ cG o o_text o_kind o_size o_readJar o_page o_trial o_book o_kept o_isKept o_tastedFrom o_tastedTo o_order o_spots o_gains o_value v_thrown v_textSize v_place v_jars v_readPlaces v_readJars v_acts v_tasted v_seed v_some v_rowMany v_rowWay v_stuffWhich v_stuffNear v_keptMany v_keptFirst v_restMany v_restFirst f_kind f_page) sz)) (va_Qi (fun r _ => r = r0) (gE (dC, dI) vwCl (gT cI cZ cG) (w_X8_about cI cZ cG o o_text o_kind o_size o_readJar o_page o_trial o_book o_kept o_isKept o_tastedFrom o_tastedTo o_order o_spots o_gains o_value n_thrown v_textSize v_place v_jars v_readPlaces v_readJars v_acts v_tasted v_seed n_some v_rowMany v_rowWay v_stuffWhich v_stuffNear v_keptMany v_keptFirst v_restMany v_restFirst f_kind f_page) (va_A (w_X8_about cI cZ cG o o_text o_kind o_size o_readJar o_page o_trial o_book o_kept o_isKept o_tastedFrom o_tastedTo o_order o_spots o_gains o_value v_thrown v_textSize v_place v_jars v_readPlaces v_readJars v_acts v_tasted v_seed v_some v_rowMany v_rowWay v_stuffWhich v_stuffNear v_keptMany v_keptFirst v_restMany v_restFirst f_kind f_page) sz)) (va_A (w_X8_about cI cZ cG o o_text o_kind o_size o_readJar o_page o_trial o_book o_kept o_isKept o_tastedFrom o_tastedTo o_order o_spots o_gains o_value v_thrown v_textSize v_place v_jars v_readPlaces v_readJars v_acts v_tasted v_seed v_some v_rowMany v_rowWay v_stuffWhich v_stuffNear v_keptMany v_keptFirst v_restMany v_restFirst f_kind f_page) sz)) 0 0 (va_A (w_X8_about cI cZ cG o o_text o_kind o_size o_readJar o_page o_trial o_book o_kept o_isKept o_tastedFrom o_tastedTo o_order o_spots o_gains o_value v_thrown v_textSize v_place v_jars v_readPlaces v_readJars v_acts v_tasted v_seed v_some v_rowMany v_rowWay v_stuffWhich v_stuffNear v_keptMany v_keptFirst v_restMany v_restFirst f_kind f_page) sz) := by
  refine Met.ofW (cc := cX8_about) (maxL := 2) (ret := (some .int)) (by decide) rfl ?_
  intro p e s m args below meth c s₁ B hml hv
  obtain ⟨rfl, hv⟩ := hv
  obtain ⟨hsz, hP, hK, hN, hD0⟩ := hv
  have hx := B.exec
  have hb := B.bytes
  have hr := B.returns
  have hts := atoms_spec (ws := wsX8_about) B.pre
  have hown : s.vm.findClass RX8 = some m.cls := findClass_of_methodNamed B.named
  have hlocks := B.notSynchronized
  have hiX8 : ∀ w ∈ u_ws RX8 TX8 33, w ∈ wsX8_about := fun w h => List.mem_cons_of_mem _ (List.mem_append_right _ h)
  subst hsz
  have hD := hD0.self (sz := s.heap.size)
  generalize hAe : va_A (w_X8_about cI cZ cG o o_text o_kind o_size o_readJar o_page o_trial o_book o_kept o_isKept o_tastedFrom o_tastedTo o_order o_spots o_gains o_value v_thrown v_textSize v_place v_jars v_readPlaces v_readJars v_acts v_tasted v_seed v_some v_rowMany v_rowWay v_stuffWhich v_stuffNear v_keptMany v_keptFirst v_restMany v_restFirst f_kind f_page) s.heap.size = A at hD ⊢
  have hA : ∀ q : Nat, s.heap.size ≤ q → A q := fun q h => by rw [← hAe]; exact Or.inr h
  clear hD0
  have hS : va_S A s.heap s.heap [] := va_S.rf
  have hP : va_P (dC, dI) vwCl (w_X8_about cI cZ cG o o_text o_kind o_size o_readJar o_page o_trial o_book o_kept o_isKept o_tastedFrom o_tastedTo o_order o_spots o_gains o_value v_thrown v_textSize v_place v_jars v_readPlaces v_readJars v_acts v_tasted v_seed v_some v_rowMany v_rowWay v_stuffWhich v_stuffNear v_keptMany v_keptFirst v_restMany v_restFirst f_kind f_page) s.heap := hP
  obtain ⟨Q, hQ⟩ : ∃ Q : State → Prop, Q = MQ below (va_Qi (fun r _ => r = r0) (gE (dC, dI) vwCl (gT cI cZ cG) (w_X8_about cI cZ cG o o_text o_kind o_size o_readJar o_page o_trial o_book o_kept o_isKept o_tastedFrom o_tastedTo o_order o_spots o_gains o_value n_thrown v_textSize v_place v_jars v_readPlaces v_readJars v_acts v_tasted v_seed n_some v_rowMany v_rowWay v_stuffWhich v_stuffNear v_keptMany v_keptFirst v_restMany v_restFirst f_kind f_page) A) A) (([Value.ref o, Value.int a1] : List Value).toArray) s 0 0 A := ⟨_, rfl⟩
  have hl := lv_entry ([.ref o, .int a1]) (n := 2) (Nat.le_of_ble_eq_true rfl)
  rw [← hQ, lg_entry_eq]
  generalize (lg_sl ([.ref o, .int a1]) ++ List.replicate (2 - (lg_sl ([.ref o, .int a1])).length) Slot.unset).toArray = ls at hl ⊢
  have hl : lv_has ls 2 [(0, .ref o), (1, .int a1)] := hl
  generalize hH : s.heap = H at hP hS ⊢
  have hS : va_S A s.heap H [] := by rw [hH]; exact hS
  generalize hlc : ([] : List Loc) = locs at hS ⊢
  show W p l e rm_X8_about s m (([Value.ref o, Value.int a1] : List Value).toArray) below meth c H locs 0 0 Q (F0 m 0 ls [])
  unfold x8_about at hf
  refine lv_aload_n hx hb dX8_about_0 rfl (lv_at hl 0 rfl) ?_
  refine lv_iconst (v := (0 : Int32)) hx hb dX8_about_1 (by decide) ?_
  refine va_put (D := (dC, dI)) (ci := 8) (v := .int (0 : Int32)) (ty := .int) (C := RX8) (T := TX8) (N := 33) hx hb hts hiX8 tyX8 tyX8_ok nmX8 hown hK hP hD hS 0 rfl rfl 0 (by decide) (hts (.fieldLink RX8 56 "GreenJarsModel" "thrown" "I") (by decide +kernel)) (fun _ h9 => h9) rfl (by decide +kernel) rfl rfl (Nat.le_of_ble_eq_true rfl) dX8_about_2 (fun H locs hP hD hS => ?_)
  have hP : va_P (dC, dI) vwCl (w_X8_about cI cZ cG o o_text o_kind o_size o_readJar o_page o_trial o_book o_kept o_isKept o_tastedFrom o_tastedTo o_order o_spots o_gains o_value (0 : Int32) v_textSize v_place v_jars v_readPlaces v_readJars v_acts v_tasted v_seed v_some v_rowMany v_rowWay v_stuffWhich v_stuffNear v_keptMany v_keptFirst v_restMany v_restFirst f_kind f_page) H := hP
  have hD : va_D A (w_X8_about cI cZ cG o o_text o_kind o_size o_readJar o_page o_trial o_book o_kept o_isKept o_tastedFrom o_tastedTo o_order o_spots o_gains o_value (0 : Int32) v_textSize v_place v_jars v_readPlaces v_readJars v_acts v_tasted v_seed v_some v_rowMany v_rowWay v_stuffWhich v_stuffNear v_keptMany v_keptFirst v_restMany v_restFirst f_kind f_page) := hD
  refine lv_aload_n hx hb dX8_about_5 rfl (lv_at hl 0 rfl) ?_
  refine lv_bipush (v := (63 : Int32)) hx hb dX8_about_6 (by decide +kernel) ?_
  refine va_put (D := (dC, dI)) (ci := 8) (v := .int (63 : Int32)) (ty := .int) (C := RX8) (T := TX8) (N := 33) hx hb hts hiX8 tyX8 tyX8_ok nmX8 hown hK hP hD hS 0 rfl rfl 20 (by decide) (hts (.fieldLink RX8 109 "GreenJarsModel" "some" "I") (by decide +kernel)) (fun _ h9 => h9) rfl (by decide +kernel) rfl rfl (Nat.le_of_ble_eq_true rfl) dX8_about_8 (fun H locs hP hD hS => ?_)
  have hP : va_P (dC, dI) vwCl (w_X8_about cI cZ cG o o_text o_kind o_size o_readJar o_page o_trial o_book o_kept o_isKept o_tastedFrom o_tastedTo o_order o_spots o_gains o_value (0 : Int32) v_textSize v_place v_jars v_readPlaces v_readJars v_acts v_tasted v_seed (63 : Int32) v_rowMany v_rowWay v_stuffWhich v_stuffNear v_keptMany v_keptFirst v_restMany v_restFirst f_kind f_page) H := hP
  have hD : va_D A (w_X8_about cI cZ cG o o_text o_kind o_size o_readJar o_page o_trial o_book o_kept o_isKept o_tastedFrom o_tastedTo o_order o_spots o_gains o_value (0 : Int32) v_textSize v_place v_jars v_readPlaces v_readJars v_acts v_tasted v_seed (63 : Int32) v_rowMany v_rowWay v_stuffWhich v_stuffNear v_keptMany v_keptFirst v_restMany v_restFirst f_kind f_page) := hD
  refine lv_iload_n hx hb dX8_about_11 rfl (lv_at hl 1 rfl) ?_
  by_cases c1 : a1 = (0 : Int32)
  · have hf := g_pos c1 hf
    refine lv_tableIn (tgt := 68) hx hb dX8_about_12 (by rw [c1]; decide) (by rw [c1]; decide) (by rw [c1]; rfl) (by decide) ?_
    refine lv_aload_n hx hb dX8_about_68 rfl (lv_at hl 0 rfl) ?_
    refine va_get (D := (dC, dI)) (ci := 8) (v := .int v_jars) (C := RX8) (T := TX8) (N := 33) hx hb hts hiX8 hown hK hP 0 rfl rfl 4 (by decide) (hts (.fieldLink RX8 60 "GreenJarsModel" "jars" "I") (by decide +kernel)) (fun _ h9 => h9) rfl dX8_about_69 ?_
    rw [hQ]
    cases hf
    exact W.iret hx hb hr (fun t ht hW => ⟨⟨_, (), rfl, rfl, by rw [ht]; exact hP, va_K.moved hW.alike hK, hD⟩, hS.F ht⟩) hS.2.2 dX8_about_72
  have hf := g_neg c1 hf
  by_cases c2 : a1 = (1 : Int32)
  · have hf := g_pos c2 hf
    refine lv_tableIn (tgt := 73) hx hb dX8_about_12 (by rw [c2]; decide) (by rw [c2]; decide) (by rw [c2]; rfl) (by decide) ?_
    refine lv_aload_n hx hb dX8_about_73 rfl (lv_at hl 0 rfl) ?_
    refine va_get (D := (dC, dI)) (ci := 8) (v := .ref o_page) (C := RX8) (T := TX8) (N := 33) hx hb hts hiX8 hown hK hP 0 rfl rfl 10 (by decide) (hts (.fieldLink RX8 22 "GreenJarsModel" "page" "[I") (by decide +kernel)) (fun _ h9 => h9) rfl dX8_about_74 ?_
    refine lv_bipush (v := (36 : Int32)) hx hb dX8_about_77 (by decide +kernel) ?_
    obtain ⟨h3, hf⟩ := g_chk hf
    refine va_iald hx hb hK hP 2 0 rfl rfl (gIn_vp h3) dX8_about_79 ?_
    rw [hQ]
    cases hf
    exact W.iret hx hb hr (fun t ht hW => ⟨⟨_, (), rfl, rfl, by rw [ht]; exact hP, va_K.moved hW.alike hK, hD⟩, hS.F ht⟩) hS.2.2 dX8_about_80
  have hf := g_neg c2 hf
  by_cases c4 : a1 = (2 : Int32)
  · have hf := g_pos c4 hf
    refine lv_tableIn (tgt := 81) hx hb dX8_about_12 (by rw [c4]; decide) (by rw [c4]; decide) (by rw [c4]; rfl) (by decide) ?_
    refine lv_aload_n hx hb dX8_about_81 rfl (lv_at hl 0 rfl) ?_
    refine lv_aload_n hx hb dX8_about_82 rfl (lv_at hl 0 rfl) ?_
    refine va_get (D := (dC, dI)) (ci := 8) (v := .ref o_page) (C := RX8) (T := TX8) (N := 33) hx hb hts hiX8 hown hK hP 0 rfl rfl 10 (by decide) (hts (.fieldLink RX8 22 "GreenJarsModel" "page" "[I") (by decide +kernel)) (fun _ h9 => h9) rfl dX8_about_83 ?_
    refine lv_iload_n hx hb dX8_about_86 rfl (lv_at hl 1 rfl) ?_
    refine lv_iconst (v := (2 : Int32)) hx hb dX8_about_87 (by decide) ?_
    refine lv_isub hx hb dX8_about_88 ?_
    obtain ⟨r5, hc6, hf⟩ := g_b1 hf
    refine g_rV (As := [.ref o_page, .int (a1 - (2 : Int32))]) (rest := []) ⟨hx, hb, hml, hown, hts⟩ (c_X8_thatAre l dC dI cI cZ cG o o_text o_kind o_size o_readJar o_page o_trial o_book o_kept o_isKept o_tastedFrom o_tastedTo o_order o_spots o_gains o_value o_page  (0 : Int32) v_textSize v_place v_jars v_readPlaces v_readJars v_acts v_tasted v_seed (63 : Int32) v_rowMany v_rowWay v_stuffWhich v_stuffNear v_keptMany v_keptFirst v_restMany v_restFirst f_page (a1 - (2 : Int32)) hc6) (cwV 2 hts gX8_about_X8_thatAre rfl rfl rfl (by decide +kernel) ⟨Nat.le_of_ble_eq_true rfl, Nat.le_of_ble_eq_true rfl⟩) hK hN (hP.sub [0, 2] rfl) (va_recv hK hP (ci := 8) (q0 := 0) rfl rfl) rfl hl.1 rfl (Nat.le_of_ble_eq_true rfl) dX8_about_89 ⟨Nat.zero_le _, Nat.zero_le _⟩ ?_
    rw [hQ]
    cases hf
    exact W.iret hx hb hr (fun t ht hW => ⟨⟨_, (), rfl, rfl, by rw [ht]; exact hP, va_K.moved hW.alike hK, hD⟩, hS.F ht⟩) hS.2.2 dX8_about_92
  have hf := g_neg c4 hf
  by_cases c7 : a1 = (3 : Int32)
  · have hf := g_pos c7 hf
    refine lv_tableIn (tgt := 81) hx hb dX8_about_12 (by rw [c7]; decide) (by rw [c7]; decide) (by rw [c7]; rfl) (by decide) ?_
    refine lv_aload_n hx hb dX8_about_81 rfl (lv_at hl 0 rfl) ?_
    refine lv_aload_n hx hb dX8_about_82 rfl (lv_at hl 0 rfl) ?_
    refine va_get (D := (dC, dI)) (ci := 8) (v := .ref o_page) (C := RX8) (T := TX8) (N := 33) hx hb hts hiX8 hown hK hP 0 rfl rfl 10 (by decide) (hts (.fieldLink RX8 22 "GreenJarsModel" "page" "[I") (by decide +kernel)) (fun _ h9 => h9) rfl dX8_about_83 ?_
    refine lv_iload_n hx hb dX8_about_86 rfl (lv_at hl 1 rfl) ?_
    refine lv_iconst (v := (2 : Int32)) hx hb dX8_about_87 (by decide) ?_
    refine lv_isub hx hb dX8_about_88 ?_
    obtain ⟨r8, hc9, hf⟩ := g_b1 hf
    refine g_rV (As := [.ref o_page, .int (a1 - (2 : Int32))]) (rest := []) ⟨hx, hb, hml, hown, hts⟩ (c_X8_thatAre l dC dI cI cZ cG o o_text o_kind o_size o_readJar o_page o_trial o_book o_kept o_isKept o_tastedFrom o_tastedTo o_order o_spots o_gains o_value o_page  (0 : Int32) v_textSize v_place v_jars v_readPlaces v_readJars v_acts v_tasted v_seed (63 : Int32) v_rowMany v_rowWay v_stuffWhich v_stuffNear v_keptMany v_keptFirst v_restMany v_restFirst f_page (a1 - (2 : Int32)) hc9) (cwV 2 hts gX8_about_X8_thatAre rfl rfl rfl (by decide +kernel) ⟨Nat.le_of_ble_eq_true rfl, Nat.le_of_ble_eq_true rfl⟩) hK hN (hP.sub [0, 2] rfl) (va_recv hK hP (ci := 8) (q0 := 0) rfl rfl) rfl hl.1 rfl (Nat.le_of_ble_eq_true rfl) dX8_about_89 ⟨Nat.zero_le _, Nat.zero_le _⟩ ?_
    rw [hQ]
    cases hf
    exact W.iret hx hb hr (fun t ht hW => ⟨⟨_, (), rfl, rfl, by rw [ht]; exact hP, va_K.moved hW.alike hK, hD⟩, hS.F ht⟩) hS.2.2 dX8_about_92
  have hf := g_neg c7 hf
  by_cases c10 : a1 = (4 : Int32)
  · have hf := g_pos c10 hf
    refine lv_tableIn (tgt := 81) hx hb dX8_about_12 (by rw [c10]; decide) (by rw [c10]; decide) (by rw [c10]; rfl) (by decide) ?_
    refine lv_aload_n hx hb dX8_about_81 rfl (lv_at hl 0 rfl) ?_
    refine lv_aload_n hx hb dX8_about_82 rfl (lv_at hl 0 rfl) ?_
    refine va_get (D := (dC, dI)) (ci := 8) (v := .ref o_page) (C := RX8) (T := TX8) (N := 33) hx hb hts hiX8 hown hK hP 0 rfl rfl 10 (by decide) (hts (.fieldLink RX8 22 "GreenJarsModel" "page" "[I") (by decide +kernel)) (fun _ h9 => h9) rfl dX8_about_83 ?_
    refine lv_iload_n hx hb dX8_about_86 rfl (lv_at hl 1 rfl) ?_
    refine lv_iconst (v := (2 : Int32)) hx hb dX8_about_87 (by decide) ?_
    refine lv_isub hx hb dX8_about_88 ?_
    obtain ⟨r11, hc12, hf⟩ := g_b1 hf
    refine g_rV (As := [.ref o_page, .int (a1 - (2 : Int32))]) (rest := []) ⟨hx, hb, hml, hown, hts⟩ (c_X8_thatAre l dC dI cI cZ cG o o_text o_kind o_size o_readJar o_page o_trial o_book o_kept o_isKept o_tastedFrom o_tastedTo o_order o_spots o_gains o_value o_page  (0 : Int32) v_textSize v_place v_jars v_readPlaces v_readJars v_acts v_tasted v_seed (63 : Int32) v_rowMany v_rowWay v_stuffWhich v_stuffNear v_keptMany v_keptFirst v_restMany v_restFirst f_page (a1 - (2 : Int32)) hc12) (cwV 2 hts gX8_about_X8_thatAre rfl rfl rfl (by decide +kernel) ⟨Nat.le_of_ble_eq_true rfl, Nat.le_of_ble_eq_true rfl⟩) hK hN (hP.sub [0, 2] rfl) (va_recv hK hP (ci := 8) (q0 := 0) rfl rfl) rfl hl.1 rfl (Nat.le_of_ble_eq_true rfl) dX8_about_89 ⟨Nat.zero_le _, Nat.zero_le _⟩ ?_
    rw [hQ]
    cases hf
    exact W.iret hx hb hr (fun t ht hW => ⟨⟨_, (), rfl, rfl, by rw [ht]; exact hP, va_K.moved hW.alike hK, hD⟩, hS.F ht⟩) hS.2.2 dX8_about_92
  have hf := g_neg c10 hf
  by_cases c13 : a1 = (5 : Int32)
  · have hf := g_pos c13 hf
    refine lv_tableIn (tgt := 93) hx hb dX8_about_12 (by rw [c13]; decide) (by rw [c13]; decide) (by rw [c13]; rfl) (by decide) ?_
    refine lv_aload_n hx hb dX8_about_93 rfl (lv_at hl 0 rfl) ?_
    obtain ⟨r14, hc15, hf⟩ := g_b1 hf
    refine g_rV (As := []) (rest := []) ⟨hx, hb, hml, hown, hts⟩ (c_X8_places l dC dI cI cZ cG o o_text o_kind o_size o_readJar o_page o_trial o_book o_kept o_isKept o_tastedFrom o_tastedTo o_order o_spots o_gains o_value  (0 : Int32) v_textSize v_place v_jars v_readPlaces v_readJars v_acts v_tasted v_seed (63 : Int32) v_rowMany v_rowWay v_stuffWhich v_stuffNear v_keptMany v_keptFirst v_restMany v_restFirst f_page hc15) (cwV 0 hts gX8_about_X8_places rfl rfl rfl (by decide +kernel) ⟨Nat.le_of_ble_eq_true rfl, Nat.le_of_ble_eq_true rfl⟩) hK hN (hP.sub [0, 2] rfl) (va_recv hK hP (ci := 8) (q0 := 0) rfl rfl) rfl hl.1 rfl (Nat.le_of_ble_eq_true rfl) dX8_about_94 ⟨Nat.zero_le _, Nat.zero_le _⟩ ?_
    rw [hQ]
    cases hf
    exact W.iret hx hb hr (fun t ht hW => ⟨⟨_, (), rfl, rfl, by rw [ht]; exact hP, va_K.moved hW.alike hK, hD⟩, hS.F ht⟩) hS.2.2 dX8_about_97
  have hf := g_neg c13 hf
  by_cases c16 : a1 = (6 : Int32)
  · have hf := g_pos c16 hf
    refine lv_tableIn (tgt := 98) hx hb dX8_about_12 (by rw [c16]; decide) (by rw [c16]; decide) (by rw [c16]; rfl) (by decide) ?_
    refine lv_aload_n hx hb dX8_about_98 rfl (lv_at hl 0 rfl) ?_
    refine lv_aload_n hx hb dX8_about_99 rfl (lv_at hl 0 rfl) ?_
    refine va_get (D := (dC, dI)) (ci := 8) (v := .ref o_page) (C := RX8) (T := TX8) (N := 33) hx hb hts hiX8 hown hK hP 0 rfl rfl 10 (by decide) (hts (.fieldLink RX8 22 "GreenJarsModel" "page" "[I") (by decide +kernel)) (fun _ h9 => h9) rfl dX8_about_100 ?_
    obtain ⟨r17, hc18, hf⟩ := g_b1 hf
    refine g_rV (As := [.ref o_page]) (rest := []) ⟨hx, hb, hml, hown, hts⟩ (c_X8_pairsOf l dC dI cI cZ cG o o_text o_kind o_size o_readJar o_page o_trial o_book o_kept o_isKept o_tastedFrom o_tastedTo o_order o_spots o_gains o_value o_page  (0 : Int32) v_textSize v_place v_jars v_readPlaces v_readJars v_acts v_tasted v_seed (63 : Int32) v_rowMany v_rowWay v_stuffWhich v_stuffNear v_keptMany v_keptFirst v_restMany v_restFirst f_kind f_page hc18) (cwV 1 hts gX8_about_X8_pairsOf rfl rfl rfl (by decide +kernel) ⟨Nat.le_of_ble_eq_true rfl, Nat.le_of_ble_eq_true rfl⟩) hK hN (hP.sub [0, 1, 2] rfl) (va_recv hK hP (ci := 8) (q0 := 0) rfl rfl) rfl hl.1 rfl (Nat.le_of_ble_eq_true rfl) dX8_about_103 ⟨Nat.zero_le _, Nat.zero_le _⟩ ?_
    rw [hQ]
    cases hf
    exact W.iret hx hb hr (fun t ht hW => ⟨⟨_, (), rfl, rfl, by rw [ht]; exact hP, va_K.moved hW.alike hK, hD⟩, hS.F ht⟩) hS.2.2 dX8_about_106
  have hf := g_neg c16 hf
  by_cases c19 : a1 = (7 : Int32)
  · have hf := g_pos c19 hf
    refine lv_tableIn (tgt := 107) hx hb dX8_about_12 (by rw [c19]; decide) (by rw [c19]; decide) (by rw [c19]; rfl) (by decide) ?_
    refine lv_aload_n hx hb dX8_about_107 rfl (lv_at hl 0 rfl) ?_
    refine va_get (D := (dC, dI)) (ci := 8) (v := .int v_acts) (C := RX8) (T := TX8) (N := 33) hx hb hts hiX8 hown hK hP 0 rfl rfl 13 (by decide) (hts (.fieldLink RX8 99 "GreenJarsModel" "acts" "I") (by decide +kernel)) (fun _ h9 => h9) rfl dX8_about_108 ?_
    rw [hQ]
    cases hf
    exact W.iret hx hb hr (fun t ht hW => ⟨⟨_, (), rfl, rfl, by rw [ht]; exact hP, va_K.moved hW.alike hK, hD⟩, hS.F ht⟩) hS.2.2 dX8_about_111
  have hf := g_neg c19 hf
  by_cases c20 : a1 = (8 : Int32)
  · have hf := g_pos c20 hf
    refine lv_tableIn (tgt := 112) hx hb dX8_about_12 (by rw [c20]; decide) (by rw [c20]; decide) (by rw [c20]; rfl) (by decide) ?_
    refine lv_aload_n hx hb dX8_about_112 rfl (lv_at hl 0 rfl) ?_
    refine va_get (D := (dC, dI)) (ci := 8) (v := .int v_tasted) (C := RX8) (T := TX8) (N := 33) hx hb hts hiX8 hown hK hP 0 rfl rfl 16 (by decide) (hts (.fieldLink RX8 135 "GreenJarsModel" "tasted" "I") (by decide +kernel)) (fun _ h9 => h9) rfl dX8_about_113 ?_
    rw [hQ]
    cases hf
    exact W.iret hx hb hr (fun t ht hW => ⟨⟨_, (), rfl, rfl, by rw [ht]; exact hP, va_K.moved hW.alike hK, hD⟩, hS.F ht⟩) hS.2.2 dX8_about_116
  have hf := g_neg c20 hf
  by_cases c21 : a1 = (9 : Int32)
  · have hf := g_pos c21 hf
    refine lv_tableIn (tgt := 117) hx hb dX8_about_12 (by rw [c21]; decide) (by rw [c21]; decide) (by rw [c21]; rfl) (by decide) ?_
    refine lv_aload_n hx hb dX8_about_117 rfl (lv_at hl 0 rfl) ?_
    refine va_get (D := (dC, dI)) (ci := 8) (v := .int v_textSize) (C := RX8) (T := TX8) (N := 33) hx hb hts hiX8 hown hK hP 0 rfl rfl 2 (by decide) (hts (.fieldLink RX8 69 "GreenJarsModel" "textSize" "I") (by decide +kernel)) (fun _ h9 => h9) rfl dX8_about_118 ?_
    rw [hQ]
    cases hf
    exact W.iret hx hb hr (fun t ht hW => ⟨⟨_, (), rfl, rfl, by rw [ht]; exact hP, va_K.moved hW.alike hK, hD⟩, hS.F ht⟩) hS.2.2 dX8_about_121
  have hf := g_neg c21 hf
  have h22 := lv_neT (a := 0) c1 (by decide)
  have h23 := lv_neT (a := 1) c2 (by decide)
  have h24 := lv_neT (a := 2) c4 (by decide)
  have h25 := lv_neT (a := 3) c7 (by decide)
  have h26 := lv_neT (a := 4) c10 (by decide)
  have h27 := lv_neT (a := 5) c13 (by decide)
  have h28 := lv_neT (a := 6) c16 (by decide)
  have h29 := lv_neT (a := 7) c19 (by decide)
  have h30 := lv_neT (a := 8) c20 (by decide)
  have h31 := lv_neT (a := 9) c21 (by decide)
  refine lv_tableOut (tgt := 122) hx hb dX8_about_12 (by omega) (by decide) ?_
  refine lv_bipush (v := (-2 : Int32)) hx hb dX8_about_122 (by decide +kernel) ?_
  rw [hQ]
  cases hf
  exact W.iret hx hb hr (fun t ht hW => ⟨⟨_, (), rfl, rfl, by rw [ht]; exact hP, va_K.moved hW.alike hK, hD⟩, hS.F ht⟩) hS.2.2 dX8_about_124
abbrev rm_X8_jar : Room := { frames := 4, cells := 0, slots := 0, locals := 94 }
abbrev w_X8_jar (cI cZ cG : ClassId) (o : Nat) (o_text : Nat) (o_kind : Nat) (o_size : Nat) (o_readJar : Nat) (o_page : Nat) (o_trial : Nat) (o_book : Nat) (o_kept : Nat) (o_isKept : Nat) (o_tastedFrom : Nat) (o_tastedTo : Nat) (o_order : Nat) (o_spots : Nat) (o_gains : Nat) (o_value : Nat) (v_thrown : Int32) (v_textSize : Int32) (v_place : Int32) (v_jars : Int32) (v_readPlaces : Int32) (v_readJars : Int32) (v_acts : Int32) (v_tasted : Int32) (v_seed : Int64) (v_some : Int32) (v_rowMany : Int32) (v_rowWay : Int32) (v_stuffWhich : Int32) (v_stuffNear : Int32) (v_keptMany : Int32) (v_keptFirst : Int32) (v_restMany : Int32) (v_restFirst : Int32) (f_kind : Nat → Int32) (f_size : Nat → Int32) (f_page : Nat → Int32) : va_W := [(o, .inr (8, [.int v_thrown, .ref o_text, .int v_textSize, .int v_place, .int v_jars, .ref o_kind, .ref o_size, .int v_readPlaces, .int v_readJars, .ref o_readJar, .ref o_page, .ref o_trial, .ref o_book, .int v_acts, .ref o_kept, .ref o_isKept, .int v_tasted, .ref o_tastedFrom, .ref o_tastedTo, .long v_seed, .int v_some, .ref o_order, .ref o_spots, .int v_rowMany, .int v_rowWay, .int v_stuffWhich, .int v_stuffNear, .int v_keptMany, .int v_keptFirst, .int v_restMany, .int v_restFirst, .ref o_gains, .ref o_value])), (o_kind, .inl (cI, 6, .inl f_kind)), (o_size, .inl (cI, 6, .inl f_size)), (o_page, .inl (cI, 37, .inl f_page))]
set_option maxHeartbeats 4000000 in
set_option maxRecDepth 100000 in
theorem c_X8_jar (l : Launch) (dC : Nat → ClassId) (dI : Nat → Nat → Nat) (cI cZ cG : ClassId) {N : Nat} (o : Nat) (o_text : Nat) (o_kind : Nat) (o_size : Nat) (o_readJar : Nat) (o_page : Nat) (o_trial : Nat) (o_book : Nat) (o_kept : Nat) (o_isKept : Nat) (o_tastedFrom : Nat) (o_tastedTo : Nat) (o_order : Nat) (o_spots : Nat) (o_gains : Nat) (o_value : Nat) (sz : Nat) (v_thrown : Int32) (v_textSize : Int32) (v_place : Int32) (v_jars : Int32) (v_readPlaces : Int32) (v_readJars : Int32) (v_acts : Int32) (v_tasted : Int32) (v_seed : Int64) (v_some : Int32) (v_rowMany : Int32) (v_rowWay : Int32) (v_stuffWhich : Int32) (v_stuffNear : Int32) (v_keptMany : Int32) (v_keptFirst : Int32) (v_restMany : Int32) (v_restFirst : Int32) (f_kind : Nat → Int32) (f_size : Nat → Int32) (f_page : Nat → Int32) (a1 : Int32) (a2 : Int32) {r0 : Int32} {n_thrown : Int32} {n_some : Int32} (hf : x8_jar N v_thrown v_jars v_some f_kind f_size f_page a1 a2 = some (r0, n_thrown, n_some)) : Met l yX8_jar wsX8_jar rm_X8_jar (va_Pc [.ref o, .int a1, .int a2] (gW (dC, dI) vwCl (gT cI cZ cG) (w_X8_jar cI cZ cG o o_text o_kind o_size o_readJar o_page o_trial o_book o_kept o_isKept o_tastedFrom o_tastedTo o_order o_spots o_gains o_value v_thrown v_textSize v_place v_jars v_readPlaces v_readJars v_acts v_tasted v_seed v_some v_rowMany v_rowWay v_stuffWhich v_stuffNear v_keptMany v_keptFirst v_restMany v_restFirst f_kind f_size f_page) sz)) (va_Qi (fun r _ => r = r0) (gE (dC, dI) vwCl (gT cI cZ cG) (w_X8_jar cI cZ cG o o_text o_kind o_size o_readJar o_page o_trial o_book o_kept o_isKept o_tastedFrom o_tastedTo o_order o_spots o_gains o_value n_thrown v_textSize v_place v_jars v_readPlaces v_readJars v_acts v_tasted v_seed n_some v_rowMany v_rowWay v_stuffWhich v_stuffNear v_keptMany v_keptFirst v_restMany v_restFirst f_kind f_size f_page) (va_A (w_X8_jar cI cZ cG o o_text o_kind o_size o_readJar o_page o_trial o_book o_kept o_isKept o_tastedFrom o_tastedTo o_order o_spots o_gains o_value v_thrown v_textSize v_place v_jars v_readPlaces v_readJars v_acts v_tasted v_seed v_some v_rowMany v_rowWay v_stuffWhich v_stuffNear v_keptMany v_keptFirst v_restMany v_restFirst f_kind f_size f_page) sz)) (va_A (w_X8_jar cI cZ cG o o_text o_kind o_size o_readJar o_page o_trial o_book o_kept o_isKept o_tastedFrom o_tastedTo o_order o_spots o_gains o_value v_thrown v_textSize v_place v_jars v_readPlaces v_readJars v_acts v_tasted v_seed v_some v_rowMany v_rowWay v_stuffWhich v_stuffNear v_keptMany v_keptFirst v_restMany v_restFirst f_kind f_size f_page) sz)) 0 0 (va_A (w_X8_jar cI cZ cG o o_text o_kind o_size o_readJar o_page o_trial o_book o_kept o_isKept o_tastedFrom o_tastedTo o_order o_spots o_gains o_value v_thrown v_textSize v_place v_jars v_readPlaces v_readJars v_acts v_tasted v_seed v_some v_rowMany v_rowWay v_stuffWhich v_stuffNear v_keptMany v_keptFirst v_restMany v_restFirst f_kind f_size f_page) sz) := by
  refine Met.ofW (cc := cX8_jar) (maxL := 3) (ret := (some .int)) (by decide) rfl ?_
  intro p e s m args below meth c s₁ B hml hv
  obtain ⟨rfl, hv⟩ := hv
  obtain ⟨hsz, hP, hK, hN, hD0⟩ := hv
  have hx := B.exec
  have hb := B.bytes
  have hr := B.returns
  have hts := atoms_spec (ws := wsX8_jar) B.pre
  have hown : s.vm.findClass RX8 = some m.cls := findClass_of_methodNamed B.named
  have hlocks := B.notSynchronized
  have hiX8 : ∀ w ∈ u_ws RX8 TX8 33, w ∈ wsX8_jar := fun w h => List.mem_cons_of_mem _ (List.mem_append_right _ h)
  subst hsz
  have hD := hD0.self (sz := s.heap.size)
  generalize hAe : va_A (w_X8_jar cI cZ cG o o_text o_kind o_size o_readJar o_page o_trial o_book o_kept o_isKept o_tastedFrom o_tastedTo o_order o_spots o_gains o_value v_thrown v_textSize v_place v_jars v_readPlaces v_readJars v_acts v_tasted v_seed v_some v_rowMany v_rowWay v_stuffWhich v_stuffNear v_keptMany v_keptFirst v_restMany v_restFirst f_kind f_size f_page) s.heap.size = A at hD ⊢
  have hA : ∀ q : Nat, s.heap.size ≤ q → A q := fun q h => by rw [← hAe]; exact Or.inr h
  clear hD0
  have hS : va_S A s.heap s.heap [] := va_S.rf
  have hP : va_P (dC, dI) vwCl (w_X8_jar cI cZ cG o o_text o_kind o_size o_readJar o_page o_trial o_book o_kept o_isKept o_tastedFrom o_tastedTo o_order o_spots o_gains o_value v_thrown v_textSize v_place v_jars v_readPlaces v_readJars v_acts v_tasted v_seed v_some v_rowMany v_rowWay v_stuffWhich v_stuffNear v_keptMany v_keptFirst v_restMany v_restFirst f_kind f_size f_page) s.heap := hP
  obtain ⟨Q, hQ⟩ : ∃ Q : State → Prop, Q = MQ below (va_Qi (fun r _ => r = r0) (gE (dC, dI) vwCl (gT cI cZ cG) (w_X8_jar cI cZ cG o o_text o_kind o_size o_readJar o_page o_trial o_book o_kept o_isKept o_tastedFrom o_tastedTo o_order o_spots o_gains o_value n_thrown v_textSize v_place v_jars v_readPlaces v_readJars v_acts v_tasted v_seed n_some v_rowMany v_rowWay v_stuffWhich v_stuffNear v_keptMany v_keptFirst v_restMany v_restFirst f_kind f_size f_page) A) A) (([Value.ref o, Value.int a1, Value.int a2] : List Value).toArray) s 0 0 A := ⟨_, rfl⟩
  have hl := lv_entry ([.ref o, .int a1, .int a2]) (n := 3) (Nat.le_of_ble_eq_true rfl)
  rw [← hQ, lg_entry_eq]
  generalize (lg_sl ([.ref o, .int a1, .int a2]) ++ List.replicate (3 - (lg_sl ([.ref o, .int a1, .int a2])).length) Slot.unset).toArray = ls at hl ⊢
  have hl : lv_has ls 3 [(0, .ref o), (1, .int a1), (2, .int a2)] := hl
  generalize hH : s.heap = H at hP hS ⊢
  have hS : va_S A s.heap H [] := by rw [hH]; exact hS
  generalize hlc : ([] : List Loc) = locs at hS ⊢
  show W p l e rm_X8_jar s m (([Value.ref o, Value.int a1, Value.int a2] : List Value).toArray) below meth c H locs 0 0 Q (F0 m 0 ls [])
  unfold x8_jar at hf
  refine lv_aload_n hx hb dX8_jar_0 rfl (lv_at hl 0 rfl) ?_
  refine lv_iconst (v := (0 : Int32)) hx hb dX8_jar_1 (by decide) ?_
  refine va_put (D := (dC, dI)) (ci := 8) (v := .int (0 : Int32)) (ty := .int) (C := RX8) (T := TX8) (N := 33) hx hb hts hiX8 tyX8 tyX8_ok nmX8 hown hK hP hD hS 0 rfl rfl 0 (by decide) (hts (.fieldLink RX8 56 "GreenJarsModel" "thrown" "I") (by decide +kernel)) (fun _ h9 => h9) rfl (by decide +kernel) rfl rfl (Nat.le_of_ble_eq_true rfl) dX8_jar_2 (fun H locs hP hD hS => ?_)
  have hP : va_P (dC, dI) vwCl (w_X8_jar cI cZ cG o o_text o_kind o_size o_readJar o_page o_trial o_book o_kept o_isKept o_tastedFrom o_tastedTo o_order o_spots o_gains o_value (0 : Int32) v_textSize v_place v_jars v_readPlaces v_readJars v_acts v_tasted v_seed v_some v_rowMany v_rowWay v_stuffWhich v_stuffNear v_keptMany v_keptFirst v_restMany v_restFirst f_kind f_size f_page) H := hP
  have hD : va_D A (w_X8_jar cI cZ cG o o_text o_kind o_size o_readJar o_page o_trial o_book o_kept o_isKept o_tastedFrom o_tastedTo o_order o_spots o_gains o_value (0 : Int32) v_textSize v_place v_jars v_readPlaces v_readJars v_acts v_tasted v_seed v_some v_rowMany v_rowWay v_stuffWhich v_stuffNear v_keptMany v_keptFirst v_restMany v_restFirst f_kind f_size f_page) := hD
  refine lv_aload_n hx hb dX8_jar_5 rfl (lv_at hl 0 rfl) ?_
  refine lv_bipush (v := (63 : Int32)) hx hb dX8_jar_6 (by decide +kernel) ?_
  refine va_put (D := (dC, dI)) (ci := 8) (v := .int (63 : Int32)) (ty := .int) (C := RX8) (T := TX8) (N := 33) hx hb hts hiX8 tyX8 tyX8_ok nmX8 hown hK hP hD hS 0 rfl rfl 20 (by decide) (hts (.fieldLink RX8 109 "GreenJarsModel" "some" "I") (by decide +kernel)) (fun _ h9 => h9) rfl (by decide +kernel) rfl rfl (Nat.le_of_ble_eq_true rfl) dX8_jar_8 (fun H locs hP hD hS => ?_)
  have hP : va_P (dC, dI) vwCl (w_X8_jar cI cZ cG o o_text o_kind o_size o_readJar o_page o_trial o_book o_kept o_isKept o_tastedFrom o_tastedTo o_order o_spots o_gains o_value (0 : Int32) v_textSize v_place v_jars v_readPlaces v_readJars v_acts v_tasted v_seed (63 : Int32) v_rowMany v_rowWay v_stuffWhich v_stuffNear v_keptMany v_keptFirst v_restMany v_restFirst f_kind f_size f_page) H := hP
  have hD : va_D A (w_X8_jar cI cZ cG o o_text o_kind o_size o_readJar o_page o_trial o_book o_kept o_isKept o_tastedFrom o_tastedTo o_order o_spots o_gains o_value (0 : Int32) v_textSize v_place v_jars v_readPlaces v_readJars v_acts v_tasted v_seed (63 : Int32) v_rowMany v_rowWay v_stuffWhich v_stuffNear v_keptMany v_keptFirst v_restMany v_restFirst f_kind f_size f_page) := hD
  refine lv_aload_n hx hb dX8_jar_11 rfl (lv_at hl 0 rfl) ?_
  refine lv_iload_n hx hb dX8_jar_12 rfl (lv_at hl 1 rfl) ?_
  obtain ⟨r1, hc2, hf⟩ := g_b1 hf
  refine g_rV (As := [.int a1]) (rest := []) ⟨hx, hb, hml, hown, hts⟩ (c_X8_noJar l dC dI cI cZ cG o o_text o_kind o_size o_readJar o_page o_trial o_book o_kept o_isKept o_tastedFrom o_tastedTo o_order o_spots o_gains o_value  (0 : Int32) v_textSize v_place v_jars v_readPlaces v_readJars v_acts v_tasted v_seed (63 : Int32) v_rowMany v_rowWay v_stuffWhich v_stuffNear v_keptMany v_keptFirst v_restMany v_restFirst a1 hc2) (cwV 1 hts gX8_jar_X8_noJar rfl rfl rfl (by decide +kernel) ⟨Nat.le_of_ble_eq_true rfl, Nat.le_of_ble_eq_true rfl⟩) hK hN (hP.sub [0] rfl) (va_recv hK hP (ci := 8) (q0 := 0) rfl rfl) rfl hl.1 rfl (Nat.le_of_ble_eq_true rfl) dX8_jar_13 ⟨Nat.zero_le _, Nat.zero_le _⟩ ?_
  refine lv_if_eq (tgt := 21) hx hb dX8_jar_16 (by decide) (fun c3 => ?_) (fun c3 => ?_)
  · have hf := g_pos c3 hf
    refine lv_iload_n hx hb dX8_jar_21 rfl (lv_at hl 2 rfl) ?_
    by_cases c4 : a2 = (0 : Int32)
    · have hf := g_pos c4 hf
      refine lv_tableIn (tgt := 72) hx hb dX8_jar_22 (by rw [c4]; decide) (by rw [c4]; decide) (by rw [c4]; rfl) (by decide) ?_
      refine lv_aload_n hx hb dX8_jar_72 rfl (lv_at hl 0 rfl) ?_
      refine va_get (D := (dC, dI)) (ci := 8) (v := .ref o_page) (C := RX8) (T := TX8) (N := 33) hx hb hts hiX8 hown hK hP 0 rfl rfl 10 (by decide) (hts (.fieldLink RX8 22 "GreenJarsModel" "page" "[I") (by decide +kernel)) (fun _ h9 => h9) rfl dX8_jar_73 ?_
      refine lv_iload_n hx hb dX8_jar_76 rfl (lv_at hl 1 rfl) ?_
      obtain ⟨h5, hf⟩ := g_chk hf
      refine va_iald hx hb hK hP 3 0 rfl rfl (gIn_vp h5) dX8_jar_77 ?_
      rw [hQ]
      cases hf
      exact W.iret hx hb hr (fun t ht hW => ⟨⟨_, (), rfl, rfl, by rw [ht]; exact hP, va_K.moved hW.alike hK, hD⟩, hS.F ht⟩) hS.2.2 dX8_jar_78
    have hf := g_neg c4 hf
    by_cases c6 : a2 = (1 : Int32)
    · have hf := g_pos c6 hf
      refine lv_tableIn (tgt := 79) hx hb dX8_jar_22 (by rw [c6]; decide) (by rw [c6]; decide) (by rw [c6]; rfl) (by decide) ?_
      refine lv_aload_n hx hb dX8_jar_79 rfl (lv_at hl 0 rfl) ?_
      refine va_get (D := (dC, dI)) (ci := 8) (v := .ref o_page) (C := RX8) (T := TX8) (N := 33) hx hb hts hiX8 hown hK hP 0 rfl rfl 10 (by decide) (hts (.fieldLink RX8 22 "GreenJarsModel" "page" "[I") (by decide +kernel)) (fun _ h9 => h9) rfl dX8_jar_80 ?_
      refine lv_bipush (v := (6 : Int32)) hx hb dX8_jar_83 (by decide +kernel) ?_
      refine lv_iload_n hx hb dX8_jar_85 rfl (lv_at hl 1 rfl) ?_
      refine lv_iadd hx hb dX8_jar_86 ?_
      obtain ⟨h7, hf⟩ := g_chk hf
      refine va_iald hx hb hK hP 3 0 rfl rfl (gIn_vp h7) dX8_jar_87 ?_
      rw [hQ]
      cases hf
      exact W.iret hx hb hr (fun t ht hW => ⟨⟨_, (), rfl, rfl, by rw [ht]; exact hP, va_K.moved hW.alike hK, hD⟩, hS.F ht⟩) hS.2.2 dX8_jar_88
    have hf := g_neg c6 hf
    by_cases c8 : a2 = (2 : Int32)
    · have hf := g_pos c8 hf
      refine lv_tableIn (tgt := 89) hx hb dX8_jar_22 (by rw [c8]; decide) (by rw [c8]; decide) (by rw [c8]; rfl) (by decide) ?_
      refine lv_aload_n hx hb dX8_jar_89 rfl (lv_at hl 0 rfl) ?_
      refine va_get (D := (dC, dI)) (ci := 8) (v := .ref o_page) (C := RX8) (T := TX8) (N := 33) hx hb hts hiX8 hown hK hP 0 rfl rfl 10 (by decide) (hts (.fieldLink RX8 22 "GreenJarsModel" "page" "[I") (by decide +kernel)) (fun _ h9 => h9) rfl dX8_jar_90 ?_
      refine lv_bipush (v := (12 : Int32)) hx hb dX8_jar_93 (by decide +kernel) ?_
      refine lv_iload_n hx hb dX8_jar_95 rfl (lv_at hl 1 rfl) ?_
      refine lv_iadd hx hb dX8_jar_96 ?_
      obtain ⟨h9, hf⟩ := g_chk hf
      refine va_iald hx hb hK hP 3 0 rfl rfl (gIn_vp h9) dX8_jar_97 ?_
      rw [hQ]
      cases hf
      exact W.iret hx hb hr (fun t ht hW => ⟨⟨_, (), rfl, rfl, by rw [ht]; exact hP, va_K.moved hW.alike hK, hD⟩, hS.F ht⟩) hS.2.2 dX8_jar_98
    have hf := g_neg c8 hf
    by_cases c10 : a2 = (3 : Int32)
    · have hf := g_pos c10 hf
      refine lv_tableIn (tgt := 99) hx hb dX8_jar_22 (by rw [c10]; decide) (by rw [c10]; decide) (by rw [c10]; rfl) (by decide) ?_
      refine lv_aload_n hx hb dX8_jar_99 rfl (lv_at hl 0 rfl) ?_
      refine va_get (D := (dC, dI)) (ci := 8) (v := .ref o_kind) (C := RX8) (T := TX8) (N := 33) hx hb hts hiX8 hown hK hP 0 rfl rfl 5 (by decide) (hts (.fieldLink RX8 13 "GreenJarsModel" "kind" "[I") (by decide +kernel)) (fun _ h9 => h9) rfl dX8_jar_100 ?_
      refine lv_iload_n hx hb dX8_jar_103 rfl (lv_at hl 1 rfl) ?_
      obtain ⟨h11, hf⟩ := g_chk hf
      refine va_iald hx hb hK hP 1 0 rfl rfl (gIn_vp h11) dX8_jar_104 ?_
      rw [hQ]
      cases hf
      exact W.iret hx hb hr (fun t ht hW => ⟨⟨_, (), rfl, rfl, by rw [ht]; exact hP, va_K.moved hW.alike hK, hD⟩, hS.F ht⟩) hS.2.2 dX8_jar_105
    have hf := g_neg c10 hf
    by_cases c12 : a2 = (4 : Int32)
    · have hf := g_pos c12 hf
      refine lv_tableIn (tgt := 106) hx hb dX8_jar_22 (by rw [c12]; decide) (by rw [c12]; decide) (by rw [c12]; rfl) (by decide) ?_
      refine lv_aload_n hx hb dX8_jar_106 rfl (lv_at hl 0 rfl) ?_
      refine va_get (D := (dC, dI)) (ci := 8) (v := .ref o_size) (C := RX8) (T := TX8) (N := 33) hx hb hts hiX8 hown hK hP 0 rfl rfl 6 (by decide) (hts (.fieldLink RX8 16 "GreenJarsModel" "size" "[I") (by decide +kernel)) (fun _ h9 => h9) rfl dX8_jar_107 ?_
      refine lv_iload_n hx hb dX8_jar_110 rfl (lv_at hl 1 rfl) ?_
      obtain ⟨h13, hf⟩ := g_chk hf
      refine va_iald hx hb hK hP 2 0 rfl rfl (gIn_vp h13) dX8_jar_111 ?_
      rw [hQ]
      cases hf
      exact W.iret hx hb hr (fun t ht hW => ⟨⟨_, (), rfl, rfl, by rw [ht]; exact hP, va_K.moved hW.alike hK, hD⟩, hS.F ht⟩) hS.2.2 dX8_jar_112
    have hf := g_neg c12 hf
    by_cases c14 : a2 = (5 : Int32)
    · have hf := g_pos c14 hf
      refine lv_tableIn (tgt := 113) hx hb dX8_jar_22 (by rw [c14]; decide) (by rw [c14]; decide) (by rw [c14]; rfl) (by decide) ?_
      refine lv_aload_n hx hb dX8_jar_113 rfl (lv_at hl 0 rfl) ?_
      refine va_get (D := (dC, dI)) (ci := 8) (v := .ref o_page) (C := RX8) (T := TX8) (N := 33) hx hb hts hiX8 hown hK hP 0 rfl rfl 10 (by decide) (hts (.fieldLink RX8 22 "GreenJarsModel" "page" "[I") (by decide +kernel)) (fun _ h9 => h9) rfl dX8_jar_114 ?_
      refine lv_bipush (v := (18 : Int32)) hx hb dX8_jar_117 (by decide +kernel) ?_
      refine lv_iload_n hx hb dX8_jar_119 rfl (lv_at hl 1 rfl) ?_
      refine lv_iadd hx hb dX8_jar_120 ?_
      obtain ⟨h15, hf⟩ := g_chk hf
      refine va_iald hx hb hK hP 3 0 rfl rfl (gIn_vp h15) dX8_jar_121 ?_
      rw [hQ]
      cases hf
      exact W.iret hx hb hr (fun t ht hW => ⟨⟨_, (), rfl, rfl, by rw [ht]; exact hP, va_K.moved hW.alike hK, hD⟩, hS.F ht⟩) hS.2.2 dX8_jar_122
    have hf := g_neg c14 hf
    by_cases c16 : a2 = (6 : Int32)
    · have hf := g_pos c16 hf
      refine lv_tableIn (tgt := 123) hx hb dX8_jar_22 (by rw [c16]; decide) (by rw [c16]; decide) (by rw [c16]; rfl) (by decide) ?_
      refine lv_aload_n hx hb dX8_jar_123 rfl (lv_at hl 0 rfl) ?_
      refine va_get (D := (dC, dI)) (ci := 8) (v := .ref o_page) (C := RX8) (T := TX8) (N := 33) hx hb hts hiX8 hown hK hP 0 rfl rfl 10 (by decide) (hts (.fieldLink RX8 22 "GreenJarsModel" "page" "[I") (by decide +kernel)) (fun _ h9 => h9) rfl dX8_jar_124 ?_
      refine lv_bipush (v := (24 : Int32)) hx hb dX8_jar_127 (by decide +kernel) ?_
      refine lv_iload_n hx hb dX8_jar_129 rfl (lv_at hl 1 rfl) ?_
      refine lv_iadd hx hb dX8_jar_130 ?_
      obtain ⟨h17, hf⟩ := g_chk hf
      refine va_iald hx hb hK hP 3 0 rfl rfl (gIn_vp h17) dX8_jar_131 ?_
      rw [hQ]
      cases hf
      exact W.iret hx hb hr (fun t ht hW => ⟨⟨_, (), rfl, rfl, by rw [ht]; exact hP, va_K.moved hW.alike hK, hD⟩, hS.F ht⟩) hS.2.2 dX8_jar_132
    have hf := g_neg c16 hf
    by_cases c18 : a2 = (7 : Int32)
    · have hf := g_pos c18 hf
      refine lv_tableIn (tgt := 133) hx hb dX8_jar_22 (by rw [c18]; decide) (by rw [c18]; decide) (by rw [c18]; rfl) (by decide) ?_
      refine lv_aload_n hx hb dX8_jar_133 rfl (lv_at hl 0 rfl) ?_
      refine va_get (D := (dC, dI)) (ci := 8) (v := .ref o_page) (C := RX8) (T := TX8) (N := 33) hx hb hts hiX8 hown hK hP 0 rfl rfl 10 (by decide) (hts (.fieldLink RX8 22 "GreenJarsModel" "page" "[I") (by decide +kernel)) (fun _ h9 => h9) rfl dX8_jar_134 ?_
      refine lv_bipush (v := (30 : Int32)) hx hb dX8_jar_137 (by decide +kernel) ?_
      refine lv_iload_n hx hb dX8_jar_139 rfl (lv_at hl 1 rfl) ?_
      refine lv_iadd hx hb dX8_jar_140 ?_
      obtain ⟨h19, hf⟩ := g_chk hf
      refine va_iald hx hb hK hP 3 0 rfl rfl (gIn_vp h19) dX8_jar_141 ?_
      rw [hQ]
      cases hf
      exact W.iret hx hb hr (fun t ht hW => ⟨⟨_, (), rfl, rfl, by rw [ht]; exact hP, va_K.moved hW.alike hK, hD⟩, hS.F ht⟩) hS.2.2 dX8_jar_142
    have hf := g_neg c18 hf
    by_cases c20 : a2 = (8 : Int32)
    · have hf := g_pos c20 hf
      refine lv_tableIn (tgt := 143) hx hb dX8_jar_22 (by rw [c20]; decide) (by rw [c20]; decide) (by rw [c20]; rfl) (by decide) ?_
      refine lv_aload_n hx hb dX8_jar_143 rfl (lv_at hl 0 rfl) ?_
      refine lv_aload_n hx hb dX8_jar_144 rfl (lv_at hl 0 rfl) ?_
      refine va_get (D := (dC, dI)) (ci := 8) (v := .ref o_page) (C := RX8) (T := TX8) (N := 33) hx hb hts hiX8 hown hK hP 0 rfl rfl 10 (by decide) (hts (.fieldLink RX8 22 "GreenJarsModel" "page" "[I") (by decide +kernel)) (fun _ h9 => h9) rfl dX8_jar_145 ?_
      refine lv_iload_n hx hb dX8_jar_148 rfl (lv_at hl 1 rfl) ?_
      obtain ⟨r21, hc22, hf⟩ := g_b1 hf
      refine g_rV (As := [.ref o_page, .int a1]) (rest := []) ⟨hx, hb, hml, hown, hts⟩ (c_X8_sees l dC dI cI cZ cG o o_text o_kind o_size o_readJar o_page o_trial o_book o_kept o_isKept o_tastedFrom o_tastedTo o_order o_spots o_gains o_value o_page  (0 : Int32) v_textSize v_place v_jars v_readPlaces v_readJars v_acts v_tasted v_seed (63 : Int32) v_rowMany v_rowWay v_stuffWhich v_stuffNear v_keptMany v_keptFirst v_restMany v_restFirst f_kind f_page a1 hc22) (cwV 2 hts gX8_jar_X8_sees rfl rfl rfl (by decide +kernel) ⟨Nat.le_of_ble_eq_true rfl, Nat.le_of_ble_eq_true rfl⟩) hK hN (hP.sub [0, 1, 3] rfl) (va_recv hK hP (ci := 8) (q0 := 0) rfl rfl) rfl hl.1 rfl (Nat.le_of_ble_eq_true rfl) dX8_jar_149 ⟨Nat.zero_le _, Nat.zero_le _⟩ ?_
      rw [hQ]
      cases hf
      exact W.iret hx hb hr (fun t ht hW => ⟨⟨_, (), rfl, rfl, by rw [ht]; exact hP, va_K.moved hW.alike hK, hD⟩, hS.F ht⟩) hS.2.2 dX8_jar_152
    have hf := g_neg c20 hf
    have h23 := lv_neT (a := 0) c4 (by decide)
    have h24 := lv_neT (a := 1) c6 (by decide)
    have h25 := lv_neT (a := 2) c8 (by decide)
    have h26 := lv_neT (a := 3) c10 (by decide)
    have h27 := lv_neT (a := 4) c12 (by decide)
    have h28 := lv_neT (a := 5) c14 (by decide)
    have h29 := lv_neT (a := 6) c16 (by decide)
    have h30 := lv_neT (a := 7) c18 (by decide)
    have h31 := lv_neT (a := 8) c20 (by decide)
    refine lv_tableOut (tgt := 153) hx hb dX8_jar_22 (by omega) (by decide) ?_
    refine lv_bipush (v := (-2 : Int32)) hx hb dX8_jar_153 (by decide +kernel) ?_
    rw [hQ]
    cases hf
    exact W.iret hx hb hr (fun t ht hW => ⟨⟨_, (), rfl, rfl, by rw [ht]; exact hP, va_K.moved hW.alike hK, hD⟩, hS.F ht⟩) hS.2.2 dX8_jar_155
  · have hf := g_neg c3 hf
    refine lv_iconst (v := (-1 : Int32)) hx hb dX8_jar_19 (by decide) ?_
    rw [hQ]
    cases hf
    exact W.iret hx hb hr (fun t ht hW => ⟨⟨_, (), rfl, rfl, by rw [ht]; exact hP, va_K.moved hW.alike hK, hD⟩, hS.F ht⟩) hS.2.2 dX8_jar_20
abbrev rm_X8_at : Room := { frames := 3, cells := 0, slots := 0, locals := 67 }
abbrev w_X8_at (cI cZ cG : ClassId) (o : Nat) (o_text : Nat) (o_kind : Nat) (o_size : Nat) (o_readJar : Nat) (o_page : Nat) (o_trial : Nat) (o_book : Nat) (o_kept : Nat) (o_isKept : Nat) (o_tastedFrom : Nat) (o_tastedTo : Nat) (o_order : Nat) (o_spots : Nat) (o_gains : Nat) (o_value : Nat) (v_thrown : Int32) (v_textSize : Int32) (v_place : Int32) (v_jars : Int32) (v_readPlaces : Int32) (v_readJars : Int32) (v_acts : Int32) (v_tasted : Int32) (v_seed : Int64) (v_some : Int32) (v_rowMany : Int32) (v_rowWay : Int32) (v_stuffWhich : Int32) (v_stuffNear : Int32) (v_keptMany : Int32) (v_keptFirst : Int32) (v_restMany : Int32) (v_restFirst : Int32) (f_page : Nat → Int32) : va_W := [(o, .inr (8, [.int v_thrown, .ref o_text, .int v_textSize, .int v_place, .int v_jars, .ref o_kind, .ref o_size, .int v_readPlaces, .int v_readJars, .ref o_readJar, .ref o_page, .ref o_trial, .ref o_book, .int v_acts, .ref o_kept, .ref o_isKept, .int v_tasted, .ref o_tastedFrom, .ref o_tastedTo, .long v_seed, .int v_some, .ref o_order, .ref o_spots, .int v_rowMany, .int v_rowWay, .int v_stuffWhich, .int v_stuffNear, .int v_keptMany, .int v_keptFirst, .int v_restMany, .int v_restFirst, .ref o_gains, .ref o_value])), (o_page, .inl (cI, 37, .inl f_page))]
set_option maxHeartbeats 4000000 in
set_option maxRecDepth 100000 in
theorem c_X8_at (l : Launch) (dC : Nat → ClassId) (dI : Nat → Nat → Nat) (cI cZ cG : ClassId) {N : Nat} (o : Nat) (o_text : Nat) (o_kind : Nat) (o_size : Nat) (o_readJar : Nat) (o_page : Nat) (o_trial : Nat) (o_book : Nat) (o_kept : Nat) (o_isKept : Nat) (o_tastedFrom : Nat) (o_tastedTo : Nat) (o_order : Nat) (o_spots : Nat) (o_gains : Nat) (o_value : Nat) (sz : Nat) (v_thrown : Int32) (v_textSize : Int32) (v_place : Int32) (v_jars : Int32) (v_readPlaces : Int32) (v_readJars : Int32) (v_acts : Int32) (v_tasted : Int32) (v_seed : Int64) (v_some : Int32) (v_rowMany : Int32) (v_rowWay : Int32) (v_stuffWhich : Int32) (v_stuffNear : Int32) (v_keptMany : Int32) (v_keptFirst : Int32) (v_restMany : Int32) (v_restFirst : Int32) (f_page : Nat → Int32) (a1 : Int32) {r0 : Int32} {n_thrown : Int32} {n_some : Int32} (hf : x8_at N v_thrown v_jars v_some f_page a1 = some (r0, n_thrown, n_some)) : Met l yX8_at wsX8_at rm_X8_at (va_Pc [.ref o, .int a1] (gW (dC, dI) vwCl (gT cI cZ cG) (w_X8_at cI cZ cG o o_text o_kind o_size o_readJar o_page o_trial o_book o_kept o_isKept o_tastedFrom o_tastedTo o_order o_spots o_gains o_value v_thrown v_textSize v_place v_jars v_readPlaces v_readJars v_acts v_tasted v_seed v_some v_rowMany v_rowWay v_stuffWhich v_stuffNear v_keptMany v_keptFirst v_restMany v_restFirst f_page) sz)) (va_Qi (fun r _ => r = r0) (gE (dC, dI) vwCl (gT cI cZ cG) (w_X8_at cI cZ cG o o_text o_kind o_size o_readJar o_page o_trial o_book o_kept o_isKept o_tastedFrom o_tastedTo o_order o_spots o_gains o_value n_thrown v_textSize v_place v_jars v_readPlaces v_readJars v_acts v_tasted v_seed n_some v_rowMany v_rowWay v_stuffWhich v_stuffNear v_keptMany v_keptFirst v_restMany v_restFirst f_page) (va_A (w_X8_at cI cZ cG o o_text o_kind o_size o_readJar o_page o_trial o_book o_kept o_isKept o_tastedFrom o_tastedTo o_order o_spots o_gains o_value v_thrown v_textSize v_place v_jars v_readPlaces v_readJars v_acts v_tasted v_seed v_some v_rowMany v_rowWay v_stuffWhich v_stuffNear v_keptMany v_keptFirst v_restMany v_restFirst f_page) sz)) (va_A (w_X8_at cI cZ cG o o_text o_kind o_size o_readJar o_page o_trial o_book o_kept o_isKept o_tastedFrom o_tastedTo o_order o_spots o_gains o_value v_thrown v_textSize v_place v_jars v_readPlaces v_readJars v_acts v_tasted v_seed v_some v_rowMany v_rowWay v_stuffWhich v_stuffNear v_keptMany v_keptFirst v_restMany v_restFirst f_page) sz)) 0 0 (va_A (w_X8_at cI cZ cG o o_text o_kind o_size o_readJar o_page o_trial o_book o_kept o_isKept o_tastedFrom o_tastedTo o_order o_spots o_gains o_value v_thrown v_textSize v_place v_jars v_readPlaces v_readJars v_acts v_tasted v_seed v_some v_rowMany v_rowWay v_stuffWhich v_stuffNear v_keptMany v_keptFirst v_restMany v_restFirst f_page) sz) := by
  refine Met.ofW (cc := cX8_at) (maxL := 2) (ret := (some .int)) (by decide) rfl ?_
  intro p e s m args below meth c s₁ B hml hv
  obtain ⟨rfl, hv⟩ := hv
  obtain ⟨hsz, hP, hK, hN, hD0⟩ := hv
  have hx := B.exec
  have hb := B.bytes
  have hr := B.returns
  have hts := atoms_spec (ws := wsX8_at) B.pre
  have hown : s.vm.findClass RX8 = some m.cls := findClass_of_methodNamed B.named
  have hlocks := B.notSynchronized
  have hiX8 : ∀ w ∈ u_ws RX8 TX8 33, w ∈ wsX8_at := fun w h => List.mem_cons_of_mem _ (List.mem_append_right _ h)
  subst hsz
  have hD := hD0.self (sz := s.heap.size)
  generalize hAe : va_A (w_X8_at cI cZ cG o o_text o_kind o_size o_readJar o_page o_trial o_book o_kept o_isKept o_tastedFrom o_tastedTo o_order o_spots o_gains o_value v_thrown v_textSize v_place v_jars v_readPlaces v_readJars v_acts v_tasted v_seed v_some v_rowMany v_rowWay v_stuffWhich v_stuffNear v_keptMany v_keptFirst v_restMany v_restFirst f_page) s.heap.size = A at hD ⊢
  have hA : ∀ q : Nat, s.heap.size ≤ q → A q := fun q h => by rw [← hAe]; exact Or.inr h
  clear hD0
  have hS : va_S A s.heap s.heap [] := va_S.rf
  have hP : va_P (dC, dI) vwCl (w_X8_at cI cZ cG o o_text o_kind o_size o_readJar o_page o_trial o_book o_kept o_isKept o_tastedFrom o_tastedTo o_order o_spots o_gains o_value v_thrown v_textSize v_place v_jars v_readPlaces v_readJars v_acts v_tasted v_seed v_some v_rowMany v_rowWay v_stuffWhich v_stuffNear v_keptMany v_keptFirst v_restMany v_restFirst f_page) s.heap := hP
  obtain ⟨Q, hQ⟩ : ∃ Q : State → Prop, Q = MQ below (va_Qi (fun r _ => r = r0) (gE (dC, dI) vwCl (gT cI cZ cG) (w_X8_at cI cZ cG o o_text o_kind o_size o_readJar o_page o_trial o_book o_kept o_isKept o_tastedFrom o_tastedTo o_order o_spots o_gains o_value n_thrown v_textSize v_place v_jars v_readPlaces v_readJars v_acts v_tasted v_seed n_some v_rowMany v_rowWay v_stuffWhich v_stuffNear v_keptMany v_keptFirst v_restMany v_restFirst f_page) A) A) (([Value.ref o, Value.int a1] : List Value).toArray) s 0 0 A := ⟨_, rfl⟩
  have hl := lv_entry ([.ref o, .int a1]) (n := 2) (Nat.le_of_ble_eq_true rfl)
  rw [← hQ, lg_entry_eq]
  generalize (lg_sl ([.ref o, .int a1]) ++ List.replicate (2 - (lg_sl ([.ref o, .int a1])).length) Slot.unset).toArray = ls at hl ⊢
  have hl : lv_has ls 2 [(0, .ref o), (1, .int a1)] := hl
  generalize hH : s.heap = H at hP hS ⊢
  have hS : va_S A s.heap H [] := by rw [hH]; exact hS
  generalize hlc : ([] : List Loc) = locs at hS ⊢
  show W p l e rm_X8_at s m (([Value.ref o, Value.int a1] : List Value).toArray) below meth c H locs 0 0 Q (F0 m 0 ls [])
  unfold x8_at at hf
  refine lv_aload_n hx hb dX8_at_0 rfl (lv_at hl 0 rfl) ?_
  refine lv_iconst (v := (0 : Int32)) hx hb dX8_at_1 (by decide) ?_
  refine va_put (D := (dC, dI)) (ci := 8) (v := .int (0 : Int32)) (ty := .int) (C := RX8) (T := TX8) (N := 33) hx hb hts hiX8 tyX8 tyX8_ok nmX8 hown hK hP hD hS 0 rfl rfl 0 (by decide) (hts (.fieldLink RX8 56 "GreenJarsModel" "thrown" "I") (by decide +kernel)) (fun _ h9 => h9) rfl (by decide +kernel) rfl rfl (Nat.le_of_ble_eq_true rfl) dX8_at_2 (fun H locs hP hD hS => ?_)
  have hP : va_P (dC, dI) vwCl (w_X8_at cI cZ cG o o_text o_kind o_size o_readJar o_page o_trial o_book o_kept o_isKept o_tastedFrom o_tastedTo o_order o_spots o_gains o_value (0 : Int32) v_textSize v_place v_jars v_readPlaces v_readJars v_acts v_tasted v_seed v_some v_rowMany v_rowWay v_stuffWhich v_stuffNear v_keptMany v_keptFirst v_restMany v_restFirst f_page) H := hP
  have hD : va_D A (w_X8_at cI cZ cG o o_text o_kind o_size o_readJar o_page o_trial o_book o_kept o_isKept o_tastedFrom o_tastedTo o_order o_spots o_gains o_value (0 : Int32) v_textSize v_place v_jars v_readPlaces v_readJars v_acts v_tasted v_seed v_some v_rowMany v_rowWay v_stuffWhich v_stuffNear v_keptMany v_keptFirst v_restMany v_restFirst f_page) := hD
  refine lv_aload_n hx hb dX8_at_5 rfl (lv_at hl 0 rfl) ?_
  refine lv_bipush (v := (63 : Int32)) hx hb dX8_at_6 (by decide +kernel) ?_
  refine va_put (D := (dC, dI)) (ci := 8) (v := .int (63 : Int32)) (ty := .int) (C := RX8) (T := TX8) (N := 33) hx hb hts hiX8 tyX8 tyX8_ok nmX8 hown hK hP hD hS 0 rfl rfl 20 (by decide) (hts (.fieldLink RX8 109 "GreenJarsModel" "some" "I") (by decide +kernel)) (fun _ h9 => h9) rfl (by decide +kernel) rfl rfl (Nat.le_of_ble_eq_true rfl) dX8_at_8 (fun H locs hP hD hS => ?_)
  have hP : va_P (dC, dI) vwCl (w_X8_at cI cZ cG o o_text o_kind o_size o_readJar o_page o_trial o_book o_kept o_isKept o_tastedFrom o_tastedTo o_order o_spots o_gains o_value (0 : Int32) v_textSize v_place v_jars v_readPlaces v_readJars v_acts v_tasted v_seed (63 : Int32) v_rowMany v_rowWay v_stuffWhich v_stuffNear v_keptMany v_keptFirst v_restMany v_restFirst f_page) H := hP
  have hD : va_D A (w_X8_at cI cZ cG o o_text o_kind o_size o_readJar o_page o_trial o_book o_kept o_isKept o_tastedFrom o_tastedTo o_order o_spots o_gains o_value (0 : Int32) v_textSize v_place v_jars v_readPlaces v_readJars v_acts v_tasted v_seed (63 : Int32) v_rowMany v_rowWay v_stuffWhich v_stuffNear v_keptMany v_keptFirst v_restMany v_restFirst f_page) := hD
  refine lv_iload_n hx hb dX8_at_11 rfl (lv_at hl 1 rfl) ?_
  refine lv_i2l hx hb dX8_at_12 rfl ?_
  refine lv_lconst (v := (0 : Int64)) hx hb dX8_at_13 (by decide) ?_
  refine lv_ldc2 (v := (7 : Int64)) hx hb hown (hts (.constantLong RX8 78 (7 : Int64)) (by decide +kernel)) dX8_at_14 ?_
  obtain ⟨r1, hc2, hf⟩ := g_b1 hf
  refine g_rS (As := [.long a1.toInt64, .long (0 : Int64), .long (7 : Int64)]) (rest := []) ⟨hx, hb, hml, hown, hts⟩ (c_X8_in l dC dI cI cZ cG    a1.toInt64 (0 : Int64) (7 : Int64) hc2) (va_cwS 3 hts gX8_at_X8_in rfl rfl rfl (by decide +kernel) ⟨Nat.le_of_ble_eq_true rfl, Nat.le_of_ble_eq_true rfl⟩) hK hN (hP.sub [] rfl) rfl hl.1 rfl (Nat.le_of_ble_eq_true rfl) dX8_at_17 ⟨Nat.zero_le _, Nat.zero_le _⟩ ?_
  refine lv_if_eq (tgt := 35) hx hb dX8_at_20 (by decide) (fun c3 => ?_) (fun c3 => ?_)
  · have hf := g_pos c3 hf
    refine lv_iconst (v := (-1 : Int32)) hx hb dX8_at_35 (by decide) ?_
    rw [hQ]
    cases hf
    exact W.iret hx hb hr (fun t ht hW => ⟨⟨_, (), rfl, rfl, by rw [ht]; exact hP, va_K.moved hW.alike hK, hD⟩, hS.F ht⟩) hS.2.2 dX8_at_36
  · have hf := g_neg c3 hf
    refine lv_aload_n hx hb dX8_at_23 rfl (lv_at hl 0 rfl) ?_
    refine lv_aload_n hx hb dX8_at_24 rfl (lv_at hl 0 rfl) ?_
    refine va_get (D := (dC, dI)) (ci := 8) (v := .ref o_page) (C := RX8) (T := TX8) (N := 33) hx hb hts hiX8 hown hK hP 0 rfl rfl 10 (by decide) (hts (.fieldLink RX8 22 "GreenJarsModel" "page" "[I") (by decide +kernel)) (fun _ h9 => h9) rfl dX8_at_25 ?_
    refine lv_iload_n hx hb dX8_at_28 rfl (lv_at hl 1 rfl) ?_
    obtain ⟨r4, hc5, hf⟩ := g_b1 hf
    refine g_rV (As := [.ref o_page, .int a1]) (rest := []) ⟨hx, hb, hml, hown, hts⟩ (c_X8_jarAt l dC dI cI cZ cG o o_text o_kind o_size o_readJar o_page o_trial o_book o_kept o_isKept o_tastedFrom o_tastedTo o_order o_spots o_gains o_value o_page  (0 : Int32) v_textSize v_place v_jars v_readPlaces v_readJars v_acts v_tasted v_seed (63 : Int32) v_rowMany v_rowWay v_stuffWhich v_stuffNear v_keptMany v_keptFirst v_restMany v_restFirst f_page a1 hc5) (cwV 2 hts gX8_at_X8_jarAt rfl rfl rfl (by decide +kernel) ⟨Nat.le_of_ble_eq_true rfl, Nat.le_of_ble_eq_true rfl⟩) hK hN (hP.sub [0, 1] rfl) (va_recv hK hP (ci := 8) (q0 := 0) rfl rfl) rfl hl.1 rfl (Nat.le_of_ble_eq_true rfl) dX8_at_29 ⟨Nat.zero_le _, Nat.zero_le _⟩ ?_
    refine lv_goto (tgt := 36) hx hb dX8_at_32 (by decide) ?_
    rw [hQ]
    cases hf
    exact W.iret hx hb hr (fun t ht hW => ⟨⟨_, (), rfl, rfl, by rw [ht]; exact hP, va_K.moved hW.alike hK, hD⟩, hS.F ht⟩) hS.2.2 dX8_at_36
abbrev rm_X8_note : Room := { frames := 0, cells := 0, slots := 0, locals := 0 }
abbrev w_X8_note (cI cZ cG : ClassId) (o : Nat) (o_text : Nat) (o_kind : Nat) (o_size : Nat) (o_readJar : Nat) (o_page : Nat) (o_trial : Nat) (o_book : Nat) (o_kept : Nat) (o_isKept : Nat) (o_tastedFrom : Nat) (o_tastedTo : Nat) (o_order : Nat) (o_spots : Nat) (o_gains : Nat) (o_value : Nat) (v_thrown : Int32) (v_textSize : Int32) (v_place : Int32) (v_jars : Int32) (v_readPlaces : Int32) (v_readJars : Int32) (v_acts : Int32) (v_tasted : Int32) (v_seed : Int64) (v_some : Int32) (v_rowMany : Int32) (v_rowWay : Int32) (v_stuffWhich : Int32) (v_stuffNear : Int32) (v_keptMany : Int32) (v_keptFirst : Int32) (v_restMany : Int32) (v_restFirst : Int32) (f_page : Nat → Int32) (f_book : Nat → Int32) : va_W := [(o, .inr (8, [.int v_thrown, .ref o_text, .int v_textSize, .int v_place, .int v_jars, .ref o_kind, .ref o_size, .int v_readPlaces, .int v_readJars, .ref o_readJar, .ref o_page, .ref o_trial, .ref o_book, .int v_acts, .ref o_kept, .ref o_isKept, .int v_tasted, .ref o_tastedFrom, .ref o_tastedTo, .long v_seed, .int v_some, .ref o_order, .ref o_spots, .int v_rowMany, .int v_rowWay, .int v_stuffWhich, .int v_stuffNear, .int v_keptMany, .int v_keptFirst, .int v_restMany, .int v_restFirst, .ref o_gains, .ref o_value])), (o_page, .inl (cI, 37, .inl f_page)), (o_book, .inl (cI, 518, .inl f_book))]
set_option maxHeartbeats 4000000 in
set_option maxRecDepth 100000 in
theorem c_X8_note (l : Launch) (dC : Nat → ClassId) (dI : Nat → Nat → Nat) (cI cZ cG : ClassId) {N : Nat} (o : Nat) (o_text : Nat) (o_kind : Nat) (o_size : Nat) (o_readJar : Nat) (o_page : Nat) (o_trial : Nat) (o_book : Nat) (o_kept : Nat) (o_isKept : Nat) (o_tastedFrom : Nat) (o_tastedTo : Nat) (o_order : Nat) (o_spots : Nat) (o_gains : Nat) (o_value : Nat) (sz : Nat) (v_thrown : Int32) (v_textSize : Int32) (v_place : Int32) (v_jars : Int32) (v_readPlaces : Int32) (v_readJars : Int32) (v_acts : Int32) (v_tasted : Int32) (v_seed : Int64) (v_some : Int32) (v_rowMany : Int32) (v_rowWay : Int32) (v_stuffWhich : Int32) (v_stuffNear : Int32) (v_keptMany : Int32) (v_keptFirst : Int32) (v_restMany : Int32) (v_restFirst : Int32) (f_page : Nat → Int32) (f_book : Nat → Int32) {n_acts : Int32} {n_book : Nat → Int32} (hf : x8_note N v_acts f_page f_book = some (n_acts, n_book)) : Met l yX8_note wsX8_note rm_X8_note (va_Pc [.ref o] (gW (dC, dI) vwCl (gT cI cZ cG) (w_X8_note cI cZ cG o o_text o_kind o_size o_readJar o_page o_trial o_book o_kept o_isKept o_tastedFrom o_tastedTo o_order o_spots o_gains o_value v_thrown v_textSize v_place v_jars v_readPlaces v_readJars v_acts v_tasted v_seed v_some v_rowMany v_rowWay v_stuffWhich v_stuffNear v_keptMany v_keptFirst v_restMany v_restFirst f_page f_book) sz)) (va_Qv (fun _ => True) (gE (dC, dI) vwCl (gT cI cZ cG) (w_X8_note cI cZ cG o o_text o_kind o_size o_readJar o_page o_trial o_book o_kept o_isKept o_tastedFrom o_tastedTo o_order o_spots o_gains o_value v_thrown v_textSize v_place v_jars v_readPlaces v_readJars n_acts v_tasted v_seed v_some v_rowMany v_rowWay v_stuffWhich v_stuffNear v_keptMany v_keptFirst v_restMany v_restFirst f_page n_book) (va_A (w_X8_note cI cZ cG o o_text o_kind o_size o_readJar o_page o_trial o_book o_kept o_isKept o_tastedFrom o_tastedTo o_order o_spots o_gains o_value v_thrown v_textSize v_place v_jars v_readPlaces v_readJars v_acts v_tasted v_seed v_some v_rowMany v_rowWay v_stuffWhich v_stuffNear v_keptMany v_keptFirst v_restMany v_restFirst f_page f_book) sz)) (va_A (w_X8_note cI cZ cG o o_text o_kind o_size o_readJar o_page o_trial o_book o_kept o_isKept o_tastedFrom o_tastedTo o_order o_spots o_gains o_value v_thrown v_textSize v_place v_jars v_readPlaces v_readJars v_acts v_tasted v_seed v_some v_rowMany v_rowWay v_stuffWhich v_stuffNear v_keptMany v_keptFirst v_restMany v_restFirst f_page f_book) sz)) 0 0 (va_A (w_X8_note cI cZ cG o o_text o_kind o_size o_readJar o_page o_trial o_book o_kept o_isKept o_tastedFrom o_tastedTo o_order o_spots o_gains o_value v_thrown v_textSize v_place v_jars v_readPlaces v_readJars v_acts v_tasted v_seed v_some v_rowMany v_rowWay v_stuffWhich v_stuffNear v_keptMany v_keptFirst v_restMany v_restFirst f_page f_book) sz) := by
  refine Met.ofW (cc := cX8_note) (maxL := 2) (ret := none) (by decide) rfl ?_
  intro p e s m args below meth c s₁ B hml hv
  obtain ⟨rfl, hv⟩ := hv
  obtain ⟨hsz, hP, hK, hN, hD0⟩ := hv
  have hx := B.exec
  have hb := B.bytes
  have hr := B.returns
  have hts := atoms_spec (ws := wsX8_note) B.pre
  have hown : s.vm.findClass RX8 = some m.cls := findClass_of_methodNamed B.named
  have hlocks := B.notSynchronized
  have hiX8 : ∀ w ∈ u_ws RX8 TX8 33, w ∈ wsX8_note := fun w h => List.mem_cons_of_mem _ (List.mem_append_right _ h)
  subst hsz
  have hD := hD0.self (sz := s.heap.size)
  generalize hAe : va_A (w_X8_note cI cZ cG o o_text o_kind o_size o_readJar o_page o_trial o_book o_kept o_isKept o_tastedFrom o_tastedTo o_order o_spots o_gains o_value v_thrown v_textSize v_place v_jars v_readPlaces v_readJars v_acts v_tasted v_seed v_some v_rowMany v_rowWay v_stuffWhich v_stuffNear v_keptMany v_keptFirst v_restMany v_restFirst f_page f_book) s.heap.size = A at hD ⊢
  have hA : ∀ q : Nat, s.heap.size ≤ q → A q := fun q h => by rw [← hAe]; exact Or.inr h
  clear hD0
  have hS : va_S A s.heap s.heap [] := va_S.rf
  have hP : va_P (dC, dI) vwCl (w_X8_note cI cZ cG o o_text o_kind o_size o_readJar o_page o_trial o_book o_kept o_isKept o_tastedFrom o_tastedTo o_order o_spots o_gains o_value v_thrown v_textSize v_place v_jars v_readPlaces v_readJars v_acts v_tasted v_seed v_some v_rowMany v_rowWay v_stuffWhich v_stuffNear v_keptMany v_keptFirst v_restMany v_restFirst f_page f_book) s.heap := hP
  obtain ⟨Q, hQ⟩ : ∃ Q : State → Prop, Q = MQ below (va_Qv (fun _ => True) (gE (dC, dI) vwCl (gT cI cZ cG) (w_X8_note cI cZ cG o o_text o_kind o_size o_readJar o_page o_trial o_book o_kept o_isKept o_tastedFrom o_tastedTo o_order o_spots o_gains o_value v_thrown v_textSize v_place v_jars v_readPlaces v_readJars n_acts v_tasted v_seed v_some v_rowMany v_rowWay v_stuffWhich v_stuffNear v_keptMany v_keptFirst v_restMany v_restFirst f_page n_book) A) A) (([Value.ref o] : List Value).toArray) s 0 0 A := ⟨_, rfl⟩
  have hl := lv_entry ([.ref o]) (n := 2) (Nat.le_of_ble_eq_true rfl)
  rw [← hQ, lg_entry_eq]
  generalize (lg_sl ([.ref o]) ++ List.replicate (2 - (lg_sl ([.ref o])).length) Slot.unset).toArray = ls at hl ⊢
  have hl : lv_has ls 2 [(0, .ref o)] := hl
  generalize hH : s.heap = H at hP hS ⊢
  have hS : va_S A s.heap H [] := by rw [hH]; exact hS
  generalize hlc : ([] : List Loc) = locs at hS ⊢
  show W p l e rm_X8_note s m (([Value.ref o] : List Value).toArray) below meth c H locs 0 0 Q (F0 m 0 ls [])
  have L51 : ∀ (n51 : Nat), ∀ (x1 : Int32) (y_acts : Int32) (y_book : Nat → Int32) (H : Heap) (locs : List Loc) (ls : Array Slot), x8_note_b51 N f_page n51 x1 y_acts y_book = some (n_acts, n_book) → lv_has ls 2 [(0, .ref o), (1, .int x1)] → va_P (dC, dI) vwCl (w_X8_note cI cZ cG o o_text o_kind o_size o_readJar o_page o_trial o_book o_kept o_isKept o_tastedFrom o_tastedTo o_order o_spots o_gains o_value v_thrown v_textSize v_place v_jars v_readPlaces v_readJars y_acts v_tasted v_seed v_some v_rowMany v_rowWay v_stuffWhich v_stuffNear v_keptMany v_keptFirst v_restMany v_restFirst f_page y_book) H → va_D A (w_X8_note cI cZ cG o o_text o_kind o_size o_readJar o_page o_trial o_book o_kept o_isKept o_tastedFrom o_tastedTo o_order o_spots o_gains o_value v_thrown v_textSize v_place v_jars v_readPlaces v_readJars y_acts v_tasted v_seed v_some v_rowMany v_rowWay v_stuffWhich v_stuffNear v_keptMany v_keptFirst v_restMany v_restFirst f_page y_book) → va_S A s.heap H locs → W p l e rm_X8_note s m (([Value.ref o] : List Value).toArray) below meth c H locs 0 0 Q (F0 m 51 ls []) := by
    intro n51
    induction n51 with
    | zero =>
      intro x1 y_acts y_book H locs ls hf hl hP hD hS
      exact g_no hf
    | succ n51 ih51 =>
      intro x1 y_acts y_book H locs ls hf hl hP hD hS
      unfold x8_note_b51 at hf
      refine lv_iload_n hx hb dX8_note_51 rfl (lv_at hl 1 rfl) ?_
      refine lv_bipush (v := (37 : Int32)) hx hb dX8_note_52 (by decide +kernel) ?_
      refine lv_icmp_ge (tgt := 83) hx hb dX8_note_54 (by decide) (fun c1 => ?_) (fun c1 => ?_)
      · have hf := g_pos c1 hf
        refine lv_aload_n hx hb dX8_note_83 rfl (lv_at hl 0 rfl) ?_
        refine lv_dup hx hb dX8_note_84 rfl ?_
        refine va_get (D := (dC, dI)) (ci := 8) (v := .int y_acts) (C := RX8) (T := TX8) (N := 33) hx hb hts hiX8 hown hK hP 0 rfl rfl 13 (by decide) (hts (.fieldLink RX8 99 "GreenJarsModel" "acts" "I") (by decide +kernel)) (fun _ h9 => h9) rfl dX8_note_85 ?_
        refine lv_iconst (v := (1 : Int32)) hx hb dX8_note_88 (by decide) ?_
        refine lv_iadd hx hb dX8_note_89 ?_
        refine va_put (D := (dC, dI)) (ci := 8) (v := .int (y_acts + (1 : Int32))) (ty := .int) (C := RX8) (T := TX8) (N := 33) hx hb hts hiX8 tyX8 tyX8_ok nmX8 hown hK hP hD hS 0 rfl rfl 13 (by decide) (hts (.fieldLink RX8 99 "GreenJarsModel" "acts" "I") (by decide +kernel)) (fun _ h9 => h9) rfl (by decide +kernel) rfl rfl (Nat.le_of_ble_eq_true rfl) dX8_note_90 (fun H locs hP hD hS => ?_)
        have hP : va_P (dC, dI) vwCl (w_X8_note cI cZ cG o o_text o_kind o_size o_readJar o_page o_trial o_book o_kept o_isKept o_tastedFrom o_tastedTo o_order o_spots o_gains o_value v_thrown v_textSize v_place v_jars v_readPlaces v_readJars (y_acts + (1 : Int32)) v_tasted v_seed v_some v_rowMany v_rowWay v_stuffWhich v_stuffNear v_keptMany v_keptFirst v_restMany v_restFirst f_page y_book) H := hP
        have hD : va_D A (w_X8_note cI cZ cG o o_text o_kind o_size o_readJar o_page o_trial o_book o_kept o_isKept o_tastedFrom o_tastedTo o_order o_spots o_gains o_value v_thrown v_textSize v_place v_jars v_readPlaces v_readJars (y_acts + (1 : Int32)) v_tasted v_seed v_some v_rowMany v_rowWay v_stuffWhich v_stuffNear v_keptMany v_keptFirst v_restMany v_restFirst f_page y_book) := hD
        rw [hQ]
        cases hf
        exact W.vret hx hb hr (fun t ht hW => ⟨⟨(), rfl, trivial, by rw [ht]; exact hP, va_K.moved hW.alike hK, hD⟩, hS.F ht⟩) hS.2.2 dX8_note_93
      · have hf := g_neg c1 hf
        refine lv_aload_n hx hb dX8_note_57 rfl (lv_at hl 0 rfl) ?_
        refine va_get (D := (dC, dI)) (ci := 8) (v := .ref o_book) (C := RX8) (T := TX8) (N := 33) hx hb hts hiX8 hown hK hP 0 rfl rfl 12 (by decide) (hts (.fieldLink RX8 28 "GreenJarsModel" "book" "[I") (by decide +kernel)) (fun _ h9 => h9) rfl dX8_note_58 ?_
        refine lv_bipush (v := (37 : Int32)) hx hb dX8_note_61 (by decide +kernel) ?_
        refine lv_aload_n hx hb dX8_note_63 rfl (lv_at hl 0 rfl) ?_
        refine va_get (D := (dC, dI)) (ci := 8) (v := .int y_acts) (C := RX8) (T := TX8) (N := 33) hx hb hts hiX8 hown hK hP 0 rfl rfl 13 (by decide) (hts (.fieldLink RX8 99 "GreenJarsModel" "acts" "I") (by decide +kernel)) (fun _ h9 => h9) rfl dX8_note_64 ?_
        refine lv_imul hx hb dX8_note_67 ?_
        refine lv_iload_n hx hb dX8_note_68 rfl (lv_at hl 1 rfl) ?_
        refine lv_iadd hx hb dX8_note_69 ?_
        refine lv_aload_n hx hb dX8_note_70 rfl (lv_at hl 0 rfl) ?_
        refine va_get (D := (dC, dI)) (ci := 8) (v := .ref o_page) (C := RX8) (T := TX8) (N := 33) hx hb hts hiX8 hown hK hP 0 rfl rfl 10 (by decide) (hts (.fieldLink RX8 22 "GreenJarsModel" "page" "[I") (by decide +kernel)) (fun _ h9 => h9) rfl dX8_note_71 ?_
        refine lv_iload_n hx hb dX8_note_74 rfl (lv_at hl 1 rfl) ?_
        obtain ⟨h2, hf⟩ := g_chk hf
        refine va_iald hx hb hK hP 1 0 rfl rfl (gIn_vp h2) dX8_note_75 ?_
        obtain ⟨h3, hf⟩ := g_chk hf
        refine va_iast hx hb hK hP hD hS 2 0 rfl rfl (gIn_vp h3) dX8_note_76 (fun H locs hP hD hS => ?_)
        have hP : va_P (dC, dI) vwCl (w_X8_note cI cZ cG o o_text o_kind o_size o_readJar o_page o_trial o_book o_kept o_isKept o_tastedFrom o_tastedTo o_order o_spots o_gains o_value v_thrown v_textSize v_place v_jars v_readPlaces v_readJars y_acts v_tasted v_seed v_some v_rowMany v_rowWay v_stuffWhich v_stuffNear v_keptMany v_keptFirst v_restMany v_restFirst f_page (upd y_book (((37 : Int32) * y_acts) + x1).toNatClampNeg (f_page x1.toNatClampNeg))) H := hP
        have hD : va_D A (w_X8_note cI cZ cG o o_text o_kind o_size o_readJar o_page o_trial o_book o_kept o_isKept o_tastedFrom o_tastedTo o_order o_spots o_gains o_value v_thrown v_textSize v_place v_jars v_readPlaces v_readJars y_acts v_tasted v_seed v_some v_rowMany v_rowWay v_stuffWhich v_stuffNear v_keptMany v_keptFirst v_restMany v_restFirst f_page (upd y_book (((37 : Int32) * y_acts) + x1).toNatClampNeg (f_page x1.toNatClampNeg))) := hD
        refine lv_iinc (v := (x1 + (1 : Int32))) (lv' := [(1, .int (x1 + (1 : Int32))), (0, .ref o)]) hx hb dX8_note_77 hl (k := 1) rfl rfl (by decide) rfl (fun ls hl => ?_)
        refine lv_goto (tgt := 51) hx hb dX8_note_80 (by decide) ?_
        exact ih51 (x1 + (1 : Int32)) y_acts (upd y_book (((37 : Int32) * y_acts) + x1).toNatClampNeg (f_page x1.toNatClampNeg)) H locs ls hf (lv_sub hl [1, 0] rfl) hP hD hS
  have L11 : ∀ (n11 : Nat), ∀ (x1 : Int32) (y_acts : Int32) (y_book : Nat → Int32) (H : Heap) (locs : List Loc) (ls : Array Slot), x8_note_b11 N f_page n11 x1 y_acts y_book = some (n_acts, n_book) → lv_has ls 2 [(0, .ref o), (1, .int x1)] → va_P (dC, dI) vwCl (w_X8_note cI cZ cG o o_text o_kind o_size o_readJar o_page o_trial o_book o_kept o_isKept o_tastedFrom o_tastedTo o_order o_spots o_gains o_value v_thrown v_textSize v_place v_jars v_readPlaces v_readJars y_acts v_tasted v_seed v_some v_rowMany v_rowWay v_stuffWhich v_stuffNear v_keptMany v_keptFirst v_restMany v_restFirst f_page y_book) H → va_D A (w_X8_note cI cZ cG o o_text o_kind o_size o_readJar o_page o_trial o_book o_kept o_isKept o_tastedFrom o_tastedTo o_order o_spots o_gains o_value v_thrown v_textSize v_place v_jars v_readPlaces v_readJars y_acts v_tasted v_seed v_some v_rowMany v_rowWay v_stuffWhich v_stuffNear v_keptMany v_keptFirst v_restMany v_restFirst f_page y_book) → va_S A s.heap H locs → W p l e rm_X8_note s m (([Value.ref o] : List Value).toArray) below meth c H locs 0 0 Q (F0 m 11 ls []) := by
    intro n11
    induction n11 with
    | zero =>
      intro x1 y_acts y_book H locs ls hf hl hP hD hS
      exact g_no hf
    | succ n11 ih11 =>
      intro x1 y_acts y_book H locs ls hf hl hP hD hS
      unfold x8_note_b11 at hf
      refine lv_iload_n hx hb dX8_note_11 rfl (lv_at hl 1 rfl) ?_
      refine lv_sipush (v := (481 : Int32)) hx hb dX8_note_12 (by decide +kernel) ?_
      refine lv_icmp_ge (tgt := 39) hx hb dX8_note_15 (by decide) (fun c4 => ?_) (fun c4 => ?_)
      · have hf := g_pos c4 hf
        refine lv_aload_n hx hb dX8_note_39 rfl (lv_at hl 0 rfl) ?_
        refine lv_dup hx hb dX8_note_40 rfl ?_
        refine va_get (D := (dC, dI)) (ci := 8) (v := .int y_acts) (C := RX8) (T := TX8) (N := 33) hx hb hts hiX8 hown hK hP 0 rfl rfl 13 (by decide) (hts (.fieldLink RX8 99 "GreenJarsModel" "acts" "I") (by decide +kernel)) (fun _ h9 => h9) rfl dX8_note_41 ?_
        refine lv_iconst (v := (1 : Int32)) hx hb dX8_note_44 (by decide) ?_
        refine lv_isub hx hb dX8_note_45 ?_
        refine va_put (D := (dC, dI)) (ci := 8) (v := .int (y_acts - (1 : Int32))) (ty := .int) (C := RX8) (T := TX8) (N := 33) hx hb hts hiX8 tyX8 tyX8_ok nmX8 hown hK hP hD hS 0 rfl rfl 13 (by decide) (hts (.fieldLink RX8 99 "GreenJarsModel" "acts" "I") (by decide +kernel)) (fun _ h9 => h9) rfl (by decide +kernel) rfl rfl (Nat.le_of_ble_eq_true rfl) dX8_note_46 (fun H locs hP hD hS => ?_)
        have hP : va_P (dC, dI) vwCl (w_X8_note cI cZ cG o o_text o_kind o_size o_readJar o_page o_trial o_book o_kept o_isKept o_tastedFrom o_tastedTo o_order o_spots o_gains o_value v_thrown v_textSize v_place v_jars v_readPlaces v_readJars (y_acts - (1 : Int32)) v_tasted v_seed v_some v_rowMany v_rowWay v_stuffWhich v_stuffNear v_keptMany v_keptFirst v_restMany v_restFirst f_page y_book) H := hP
        have hD : va_D A (w_X8_note cI cZ cG o o_text o_kind o_size o_readJar o_page o_trial o_book o_kept o_isKept o_tastedFrom o_tastedTo o_order o_spots o_gains o_value v_thrown v_textSize v_place v_jars v_readPlaces v_readJars (y_acts - (1 : Int32)) v_tasted v_seed v_some v_rowMany v_rowWay v_stuffWhich v_stuffNear v_keptMany v_keptFirst v_restMany v_restFirst f_page y_book) := hD
        refine lv_iconst (v := (0 : Int32)) hx hb dX8_note_49 (by decide) ?_
        refine lv_istore_n (lv' := [(1, .int (0 : Int32)), (0, .ref o)]) hx hb dX8_note_50 rfl hl (by decide) rfl (fun ls hl => ?_)
        exact L51 N (0 : Int32) (y_acts - (1 : Int32)) y_book H locs ls hf (lv_sub hl [1, 0] rfl) hP hD hS
      · have hf := g_neg c4 hf
        refine lv_aload_n hx hb dX8_note_18 rfl (lv_at hl 0 rfl) ?_
        refine va_get (D := (dC, dI)) (ci := 8) (v := .ref o_book) (C := RX8) (T := TX8) (N := 33) hx hb hts hiX8 hown hK hP 0 rfl rfl 12 (by decide) (hts (.fieldLink RX8 28 "GreenJarsModel" "book" "[I") (by decide +kernel)) (fun _ h9 => h9) rfl dX8_note_19 ?_
        refine lv_iload_n hx hb dX8_note_22 rfl (lv_at hl 1 rfl) ?_
        refine lv_aload_n hx hb dX8_note_23 rfl (lv_at hl 0 rfl) ?_
        refine va_get (D := (dC, dI)) (ci := 8) (v := .ref o_book) (C := RX8) (T := TX8) (N := 33) hx hb hts hiX8 hown hK hP 0 rfl rfl 12 (by decide) (hts (.fieldLink RX8 28 "GreenJarsModel" "book" "[I") (by decide +kernel)) (fun _ h9 => h9) rfl dX8_note_24 ?_
        refine lv_iload_n hx hb dX8_note_27 rfl (lv_at hl 1 rfl) ?_
        refine lv_bipush (v := (37 : Int32)) hx hb dX8_note_28 (by decide +kernel) ?_
        refine lv_iadd hx hb dX8_note_30 ?_
        obtain ⟨h5, hf⟩ := g_chk hf
        refine va_iald hx hb hK hP 2 0 rfl rfl (gIn_vp h5) dX8_note_31 ?_
        obtain ⟨h6, hf⟩ := g_chk hf
        refine va_iast hx hb hK hP hD hS 2 0 rfl rfl (gIn_vp h6) dX8_note_32 (fun H locs hP hD hS => ?_)
        have hP : va_P (dC, dI) vwCl (w_X8_note cI cZ cG o o_text o_kind o_size o_readJar o_page o_trial o_book o_kept o_isKept o_tastedFrom o_tastedTo o_order o_spots o_gains o_value v_thrown v_textSize v_place v_jars v_readPlaces v_readJars y_acts v_tasted v_seed v_some v_rowMany v_rowWay v_stuffWhich v_stuffNear v_keptMany v_keptFirst v_restMany v_restFirst f_page (upd y_book x1.toNatClampNeg (y_book (x1 + (37 : Int32)).toNatClampNeg))) H := hP
        have hD : va_D A (w_X8_note cI cZ cG o o_text o_kind o_size o_readJar o_page o_trial o_book o_kept o_isKept o_tastedFrom o_tastedTo o_order o_spots o_gains o_value v_thrown v_textSize v_place v_jars v_readPlaces v_readJars y_acts v_tasted v_seed v_some v_rowMany v_rowWay v_stuffWhich v_stuffNear v_keptMany v_keptFirst v_restMany v_restFirst f_page (upd y_book x1.toNatClampNeg (y_book (x1 + (37 : Int32)).toNatClampNeg))) := hD
        refine lv_iinc (v := (x1 + (1 : Int32))) (lv' := [(1, .int (x1 + (1 : Int32))), (0, .ref o)]) hx hb dX8_note_33 hl (k := 1) rfl rfl (by decide) rfl (fun ls hl => ?_)
        refine lv_goto (tgt := 11) hx hb dX8_note_36 (by decide) ?_
        exact ih11 (x1 + (1 : Int32)) y_acts (upd y_book x1.toNatClampNeg (y_book (x1 + (37 : Int32)).toNatClampNeg)) H locs ls hf (lv_sub hl [1, 0] rfl) hP hD hS
  unfold x8_note at hf
  refine lv_aload_n hx hb dX8_note_0 rfl (lv_at hl 0 rfl) ?_
  refine va_get (D := (dC, dI)) (ci := 8) (v := .int v_acts) (C := RX8) (T := TX8) (N := 33) hx hb hts hiX8 hown hK hP 0 rfl rfl 13 (by decide) (hts (.fieldLink RX8 99 "GreenJarsModel" "acts" "I") (by decide +kernel)) (fun _ h9 => h9) rfl dX8_note_1 ?_
  refine lv_bipush (v := (14 : Int32)) hx hb dX8_note_4 (by decide +kernel) ?_
  refine lv_icmp_ne (tgt := 49) hx hb dX8_note_6 (by decide) (fun c7 => ?_) (fun c7 => ?_)
  · have hf := g_neg c7 hf
    refine lv_iconst (v := (0 : Int32)) hx hb dX8_note_49 (by decide) ?_
    refine lv_istore_n (lv' := [(1, .int (0 : Int32)), (0, .ref o)]) hx hb dX8_note_50 rfl hl (by decide) rfl (fun ls hl => ?_)
    exact L51 N (0 : Int32) v_acts f_book H locs ls hf (lv_sub hl [1, 0] rfl) hP hD hS
  · have hf := g_pos c7 hf
    refine lv_iconst (v := (0 : Int32)) hx hb dX8_note_9 (by decide) ?_
    refine lv_istore_n (lv' := [(1, .int (0 : Int32)), (0, .ref o)]) hx hb dX8_note_10 rfl hl (by decide) rfl (fun ls hl => ?_)
    exact L11 N (0 : Int32) v_acts f_book H locs ls hf (lv_sub hl [1, 0] rfl) hP hD hS
abbrev rm_X8_week : Room := { frames := 2, cells := 0, slots := 0, locals := 44 }
abbrev w_X8_week (cI cZ cG : ClassId) (o : Nat) (o_text : Nat) (o_kind : Nat) (o_size : Nat) (o_readJar : Nat) (o_page : Nat) (o_trial : Nat) (o_book : Nat) (o_kept : Nat) (o_isKept : Nat) (o_tastedFrom : Nat) (o_tastedTo : Nat) (o_order : Nat) (o_spots : Nat) (o_gains : Nat) (o_value : Nat) (v_thrown : Int32) (v_textSize : Int32) (v_place : Int32) (v_jars : Int32) (v_readPlaces : Int32) (v_readJars : Int32) (v_acts : Int32) (v_tasted : Int32) (v_seed : Int64) (v_some : Int32) (v_rowMany : Int32) (v_rowWay : Int32) (v_stuffWhich : Int32) (v_stuffNear : Int32) (v_keptMany : Int32) (v_keptFirst : Int32) (v_restMany : Int32) (v_restFirst : Int32) (f_kind : Nat → Int32) (f_page : Nat → Int32) (f_book : Nat → Int32) : va_W := [(o, .inr (8, [.int v_thrown, .ref o_text, .int v_textSize, .int v_place, .int v_jars, .ref o_kind, .ref o_size, .int v_readPlaces, .int v_readJars, .ref o_readJar, .ref o_page, .ref o_trial, .ref o_book, .int v_acts, .ref o_kept, .ref o_isKept, .int v_tasted, .ref o_tastedFrom, .ref o_tastedTo, .long v_seed, .int v_some, .ref o_order, .ref o_spots, .int v_rowMany, .int v_rowWay, .int v_stuffWhich, .int v_stuffNear, .int v_keptMany, .int v_keptFirst, .int v_restMany, .int v_restFirst, .ref o_gains, .ref o_value])), (o_kind, .inl (cI, 6, .inl f_kind)), (o_page, .inl (cI, 37, .inl f_page)), (o_book, .inl (cI, 518, .inl f_book))]
set_option maxHeartbeats 4000000 in
set_option maxRecDepth 100000 in
theorem c_X8_week (l : Launch) (dC : Nat → ClassId) (dI : Nat → Nat → Nat) (cI cZ cG : ClassId) {N : Nat} (o : Nat) (o_text : Nat) (o_kind : Nat) (o_size : Nat) (o_readJar : Nat) (o_page : Nat) (o_trial : Nat) (o_book : Nat) (o_kept : Nat) (o_isKept : Nat) (o_tastedFrom : Nat) (o_tastedTo : Nat) (o_order : Nat) (o_spots : Nat) (o_gains : Nat) (o_value : Nat) (sz : Nat) (v_thrown : Int32) (v_textSize : Int32) (v_place : Int32) (v_jars : Int32) (v_readPlaces : Int32) (v_readJars : Int32) (v_acts : Int32) (v_tasted : Int32) (v_seed : Int64) (v_some : Int32) (v_rowMany : Int32) (v_rowWay : Int32) (v_stuffWhich : Int32) (v_stuffNear : Int32) (v_keptMany : Int32) (v_keptFirst : Int32) (v_restMany : Int32) (v_restFirst : Int32) (f_kind : Nat → Int32) (f_page : Nat → Int32) (f_book : Nat → Int32) {r0 : Int32} {n_thrown : Int32} {n_acts : Int32} {n_page : Nat → Int32} {n_book : Nat → Int32} (hf : x8_week N v_thrown v_jars v_acts f_kind f_page f_book = some (r0, n_thrown, n_acts, n_page, n_book)) : Met l yX8_week wsX8_week rm_X8_week (va_Pc [.ref o] (gW (dC, dI) vwCl (gT cI cZ cG) (w_X8_week cI cZ cG o o_text o_kind o_size o_readJar o_page o_trial o_book o_kept o_isKept o_tastedFrom o_tastedTo o_order o_spots o_gains o_value v_thrown v_textSize v_place v_jars v_readPlaces v_readJars v_acts v_tasted v_seed v_some v_rowMany v_rowWay v_stuffWhich v_stuffNear v_keptMany v_keptFirst v_restMany v_restFirst f_kind f_page f_book) sz)) (va_Qi (fun r _ => r = r0) (gE (dC, dI) vwCl (gT cI cZ cG) (w_X8_week cI cZ cG o o_text o_kind o_size o_readJar o_page o_trial o_book o_kept o_isKept o_tastedFrom o_tastedTo o_order o_spots o_gains o_value n_thrown v_textSize v_place v_jars v_readPlaces v_readJars n_acts v_tasted v_seed v_some v_rowMany v_rowWay v_stuffWhich v_stuffNear v_keptMany v_keptFirst v_restMany v_restFirst f_kind n_page n_book) (va_A (w_X8_week cI cZ cG o o_text o_kind o_size o_readJar o_page o_trial o_book o_kept o_isKept o_tastedFrom o_tastedTo o_order o_spots o_gains o_value v_thrown v_textSize v_place v_jars v_readPlaces v_readJars v_acts v_tasted v_seed v_some v_rowMany v_rowWay v_stuffWhich v_stuffNear v_keptMany v_keptFirst v_restMany v_restFirst f_kind f_page f_book) sz)) (va_A (w_X8_week cI cZ cG o o_text o_kind o_size o_readJar o_page o_trial o_book o_kept o_isKept o_tastedFrom o_tastedTo o_order o_spots o_gains o_value v_thrown v_textSize v_place v_jars v_readPlaces v_readJars v_acts v_tasted v_seed v_some v_rowMany v_rowWay v_stuffWhich v_stuffNear v_keptMany v_keptFirst v_restMany v_restFirst f_kind f_page f_book) sz)) 0 0 (va_A (w_X8_week cI cZ cG o o_text o_kind o_size o_readJar o_page o_trial o_book o_kept o_isKept o_tastedFrom o_tastedTo o_order o_spots o_gains o_value v_thrown v_textSize v_place v_jars v_readPlaces v_readJars v_acts v_tasted v_seed v_some v_rowMany v_rowWay v_stuffWhich v_stuffNear v_keptMany v_keptFirst v_restMany v_restFirst f_kind f_page f_book) sz) := by
  refine Met.ofW (cc := cX8_week) (maxL := 1) (ret := (some .int)) (by decide) rfl ?_
  intro p e s m args below meth c s₁ B hml hv
  obtain ⟨rfl, hv⟩ := hv
  obtain ⟨hsz, hP, hK, hN, hD0⟩ := hv
  have hx := B.exec
  have hb := B.bytes
  have hr := B.returns
  have hts := atoms_spec (ws := wsX8_week) B.pre
  have hown : s.vm.findClass RX8 = some m.cls := findClass_of_methodNamed B.named
  have hlocks := B.notSynchronized
  have hiX8 : ∀ w ∈ u_ws RX8 TX8 33, w ∈ wsX8_week := fun w h => List.mem_cons_of_mem _ (List.mem_append_right _ h)
  subst hsz
  have hD := hD0.self (sz := s.heap.size)
  generalize hAe : va_A (w_X8_week cI cZ cG o o_text o_kind o_size o_readJar o_page o_trial o_book o_kept o_isKept o_tastedFrom o_tastedTo o_order o_spots o_gains o_value v_thrown v_textSize v_place v_jars v_readPlaces v_readJars v_acts v_tasted v_seed v_some v_rowMany v_rowWay v_stuffWhich v_stuffNear v_keptMany v_keptFirst v_restMany v_restFirst f_kind f_page f_book) s.heap.size = A at hD ⊢
  have hA : ∀ q : Nat, s.heap.size ≤ q → A q := fun q h => by rw [← hAe]; exact Or.inr h
  clear hD0
  have hS : va_S A s.heap s.heap [] := va_S.rf
  have hP : va_P (dC, dI) vwCl (w_X8_week cI cZ cG o o_text o_kind o_size o_readJar o_page o_trial o_book o_kept o_isKept o_tastedFrom o_tastedTo o_order o_spots o_gains o_value v_thrown v_textSize v_place v_jars v_readPlaces v_readJars v_acts v_tasted v_seed v_some v_rowMany v_rowWay v_stuffWhich v_stuffNear v_keptMany v_keptFirst v_restMany v_restFirst f_kind f_page f_book) s.heap := hP
  obtain ⟨Q, hQ⟩ : ∃ Q : State → Prop, Q = MQ below (va_Qi (fun r _ => r = r0) (gE (dC, dI) vwCl (gT cI cZ cG) (w_X8_week cI cZ cG o o_text o_kind o_size o_readJar o_page o_trial o_book o_kept o_isKept o_tastedFrom o_tastedTo o_order o_spots o_gains o_value n_thrown v_textSize v_place v_jars v_readPlaces v_readJars n_acts v_tasted v_seed v_some v_rowMany v_rowWay v_stuffWhich v_stuffNear v_keptMany v_keptFirst v_restMany v_restFirst f_kind n_page n_book) A) A) (([Value.ref o] : List Value).toArray) s 0 0 A := ⟨_, rfl⟩
  have hl := lv_entry ([.ref o]) (n := 1) (Nat.le_of_ble_eq_true rfl)
  rw [← hQ, lg_entry_eq]
  generalize (lg_sl ([.ref o]) ++ List.replicate (1 - (lg_sl ([.ref o])).length) Slot.unset).toArray = ls at hl ⊢
  have hl : lv_has ls 1 [(0, .ref o)] := hl
  generalize hH : s.heap = H at hP hS ⊢
  have hS : va_S A s.heap H [] := by rw [hH]; exact hS
  generalize hlc : ([] : List Loc) = locs at hS ⊢
  show W p l e rm_X8_week s m (([Value.ref o] : List Value).toArray) below meth c H locs 0 0 Q (F0 m 0 ls [])
  unfold x8_week at hf
  refine lv_aload_n hx hb dX8_week_0 rfl (lv_at hl 0 rfl) ?_
  refine lv_iconst (v := (0 : Int32)) hx hb dX8_week_1 (by decide) ?_
  refine va_put (D := (dC, dI)) (ci := 8) (v := .int (0 : Int32)) (ty := .int) (C := RX8) (T := TX8) (N := 33) hx hb hts hiX8 tyX8 tyX8_ok nmX8 hown hK hP hD hS 0 rfl rfl 0 (by decide) (hts (.fieldLink RX8 56 "GreenJarsModel" "thrown" "I") (by decide +kernel)) (fun _ h9 => h9) rfl (by decide +kernel) rfl rfl (Nat.le_of_ble_eq_true rfl) dX8_week_2 (fun H locs hP hD hS => ?_)
  have hP : va_P (dC, dI) vwCl (w_X8_week cI cZ cG o o_text o_kind o_size o_readJar o_page o_trial o_book o_kept o_isKept o_tastedFrom o_tastedTo o_order o_spots o_gains o_value (0 : Int32) v_textSize v_place v_jars v_readPlaces v_readJars v_acts v_tasted v_seed v_some v_rowMany v_rowWay v_stuffWhich v_stuffNear v_keptMany v_keptFirst v_restMany v_restFirst f_kind f_page f_book) H := hP
  have hD : va_D A (w_X8_week cI cZ cG o o_text o_kind o_size o_readJar o_page o_trial o_book o_kept o_isKept o_tastedFrom o_tastedTo o_order o_spots o_gains o_value (0 : Int32) v_textSize v_place v_jars v_readPlaces v_readJars v_acts v_tasted v_seed v_some v_rowMany v_rowWay v_stuffWhich v_stuffNear v_keptMany v_keptFirst v_restMany v_restFirst f_kind f_page f_book) := hD
  refine lv_aload_n hx hb dX8_week_5 rfl (lv_at hl 0 rfl) ?_
  obtain ⟨y1, y2, hc3, hf⟩ := g_b2 hf
  refine g_wVv (As := []) (rest := []) (wr := [(o_kind, .inl (cI, 6, .inl f_kind))]) (wn := (w_X8_week cI cZ cG o o_text o_kind o_size o_readJar o_page o_trial o_book o_kept o_isKept o_tastedFrom o_tastedTo o_order o_spots o_gains o_value (0 : Int32) v_textSize v_place v_jars v_readPlaces v_readJars y1 v_tasted v_seed v_some v_rowMany v_rowWay v_stuffWhich v_stuffNear v_keptMany v_keptFirst v_restMany v_restFirst f_kind f_page y2)) ⟨hx, hb, hml, hown, hts⟩ (c_X8_note l dC dI cI cZ cG o o_text o_kind o_size o_readJar o_page o_trial o_book o_kept o_isKept o_tastedFrom o_tastedTo o_order o_spots o_gains o_value H.size  (0 : Int32) v_textSize v_place v_jars v_readPlaces v_readJars v_acts v_tasted v_seed v_some v_rowMany v_rowWay v_stuffWhich v_stuffNear v_keptMany v_keptFirst v_restMany v_restFirst f_page f_book hc3) (cwV 0 hts gX8_week_X8_note rfl rfl rfl (by decide +kernel) ⟨Nat.le_of_ble_eq_true rfl, Nat.le_of_ble_eq_true rfl⟩) hK hN hP hD hS hA [0, 2, 3] [1] [1, 0, 2, 3] rfl rfl (by decide) rfl (by decide) (by decide) rfl (by decide) (va_recv hK hP (ci := 8) (q0 := 0) rfl rfl) rfl hl.1 rfl (Nat.le_of_ble_eq_true rfl) dX8_week_6 ⟨Nat.zero_le _, Nat.zero_le _⟩ (fun H locs hP hD hS => ?_)
  refine lv_aload_n hx hb dX8_week_9 rfl (lv_at hl 0 rfl) ?_
  refine lv_aload_n hx hb dX8_week_10 rfl (lv_at hl 0 rfl) ?_
  refine va_get (D := (dC, dI)) (ci := 8) (v := .ref o_page) (C := RX8) (T := TX8) (N := 33) hx hb hts hiX8 hown hK hP 0 rfl rfl 10 (by decide) (hts (.fieldLink RX8 22 "GreenJarsModel" "page" "[I") (by decide +kernel)) (fun _ h9 => h9) rfl dX8_week_11 ?_
  obtain ⟨y4, hc5, hf⟩ := g_b1 hf
  refine g_wVv (As := [.ref o_page]) (rest := []) (wr := [(o_book, .inl (cI, 518, .inl y2))]) (wn := (w_X8_week cI cZ cG o o_text o_kind o_size o_readJar o_page o_trial o_book o_kept o_isKept o_tastedFrom o_tastedTo o_order o_spots o_gains o_value (0 : Int32) v_textSize v_place v_jars v_readPlaces v_readJars y1 v_tasted v_seed v_some v_rowMany v_rowWay v_stuffWhich v_stuffNear v_keptMany v_keptFirst v_restMany v_restFirst f_kind y4 y2)) ⟨hx, hb, hml, hown, hts⟩ (c_X8_goWeek l dC dI cI cZ cG o o_text o_kind o_size o_readJar o_page o_trial o_book o_kept o_isKept o_tastedFrom o_tastedTo o_order o_spots o_gains o_value o_page H.size  (0 : Int32) v_textSize v_place v_jars v_readPlaces v_readJars y1 v_tasted v_seed v_some v_rowMany v_rowWay v_stuffWhich v_stuffNear v_keptMany v_keptFirst v_restMany v_restFirst f_kind f_page hc5) (cwV 1 hts gX8_week_X8_goWeek rfl rfl rfl (by decide +kernel) ⟨Nat.le_of_ble_eq_true rfl, Nat.le_of_ble_eq_true rfl⟩) hK hN hP hD hS hA [0, 1, 2] [3] [1, 2, 3, 0] rfl rfl (by decide) rfl (by decide) (by decide) rfl (by decide) (va_recv hK hP (ci := 8) (q0 := 0) rfl rfl) rfl hl.1 rfl (Nat.le_of_ble_eq_true rfl) dX8_week_14 ⟨Nat.zero_le _, Nat.zero_le _⟩ (fun H locs hP hD hS => ?_)
  refine lv_aload_n hx hb dX8_week_17 rfl (lv_at hl 0 rfl) ?_
  refine lv_aload_n hx hb dX8_week_18 rfl (lv_at hl 0 rfl) ?_
  refine va_get (D := (dC, dI)) (ci := 8) (v := .ref o_page) (C := RX8) (T := TX8) (N := 33) hx hb hts hiX8 hown hK hP 0 rfl rfl 10 (by decide) (hts (.fieldLink RX8 22 "GreenJarsModel" "page" "[I") (by decide +kernel)) (fun _ h9 => h9) rfl dX8_week_19 ?_
  obtain ⟨r6, hc7, hf⟩ := g_b1 hf
  refine g_rV (As := [.ref o_page]) (rest := []) ⟨hx, hb, hml, hown, hts⟩ (c_X8_flavours l dC dI cI cZ cG o o_text o_kind o_size o_readJar o_page o_trial o_book o_kept o_isKept o_tastedFrom o_tastedTo o_order o_spots o_gains o_value o_page  (0 : Int32) v_textSize v_place v_jars v_readPlaces v_readJars y1 v_tasted v_seed v_some v_rowMany v_rowWay v_stuffWhich v_stuffNear v_keptMany v_keptFirst v_restMany v_restFirst y4 hc7) (cwV 1 hts gX8_week_X8_flavours rfl rfl rfl (by decide +kernel) ⟨Nat.le_of_ble_eq_true rfl, Nat.le_of_ble_eq_true rfl⟩) hK hN (hP.sub [0, 2] rfl) (va_recv hK hP (ci := 8) (q0 := 0) rfl rfl) rfl hl.1 rfl (Nat.le_of_ble_eq_true rfl) dX8_week_22 ⟨Nat.zero_le _, Nat.zero_le _⟩ ?_
  rw [hQ]
  cases hf
  exact W.iret hx hb hr (fun t ht hW => ⟨⟨_, (), rfl, rfl, by rw [ht]; exact hP, va_K.moved hW.alike hK, hD⟩, hS.F ht⟩) hS.2.2 dX8_week_25
abbrev rm_X8_shake : Room := { frames := 2, cells := 0, slots := 0, locals := 46 }
abbrev w_X8_shake (cI cZ cG : ClassId) (o : Nat) (o_text : Nat) (o_kind : Nat) (o_size : Nat) (o_readJar : Nat) (o_page : Nat) (o_trial : Nat) (o_book : Nat) (o_kept : Nat) (o_isKept : Nat) (o_tastedFrom : Nat) (o_tastedTo : Nat) (o_order : Nat) (o_spots : Nat) (o_gains : Nat) (o_value : Nat) (v_thrown : Int32) (v_textSize : Int32) (v_place : Int32) (v_jars : Int32) (v_readPlaces : Int32) (v_readJars : Int32) (v_acts : Int32) (v_tasted : Int32) (v_seed : Int64) (v_some : Int32) (v_rowMany : Int32) (v_rowWay : Int32) (v_stuffWhich : Int32) (v_stuffNear : Int32) (v_keptMany : Int32) (v_keptFirst : Int32) (v_restMany : Int32) (v_restFirst : Int32) (f_kind : Nat → Int32) (f_size : Nat → Int32) (f_page : Nat → Int32) (f_book : Nat → Int32) : va_W := [(o, .inr (8, [.int v_thrown, .ref o_text, .int v_textSize, .int v_place, .int v_jars, .ref o_kind, .ref o_size, .int v_readPlaces, .int v_readJars, .ref o_readJar, .ref o_page, .ref o_trial, .ref o_book, .int v_acts, .ref o_kept, .ref o_isKept, .int v_tasted, .ref o_tastedFrom, .ref o_tastedTo, .long v_seed, .int v_some, .ref o_order, .ref o_spots, .int v_rowMany, .int v_rowWay, .int v_stuffWhich, .int v_stuffNear, .int v_keptMany, .int v_keptFirst, .int v_restMany, .int v_restFirst, .ref o_gains, .ref o_value])), (o_kind, .inl (cI, 6, .inl f_kind)), (o_size, .inl (cI, 6, .inl f_size)), (o_page, .inl (cI, 37, .inl f_page)), (o_book, .inl (cI, 518, .inl f_book))]
set_option maxHeartbeats 4000000 in
set_option maxRecDepth 100000 in
theorem c_X8_shake (l : Launch) (dC : Nat → ClassId) (dI : Nat → Nat → Nat) (cI cZ cG : ClassId) {N : Nat} (o : Nat) (o_text : Nat) (o_kind : Nat) (o_size : Nat) (o_readJar : Nat) (o_page : Nat) (o_trial : Nat) (o_book : Nat) (o_kept : Nat) (o_isKept : Nat) (o_tastedFrom : Nat) (o_tastedTo : Nat) (o_order : Nat) (o_spots : Nat) (o_gains : Nat) (o_value : Nat) (sz : Nat) (v_thrown : Int32) (v_textSize : Int32) (v_place : Int32) (v_jars : Int32) (v_readPlaces : Int32) (v_readJars : Int32) (v_acts : Int32) (v_tasted : Int32) (v_seed : Int64) (v_some : Int32) (v_rowMany : Int32) (v_rowWay : Int32) (v_stuffWhich : Int32) (v_stuffNear : Int32) (v_keptMany : Int32) (v_keptFirst : Int32) (v_restMany : Int32) (v_restFirst : Int32) (f_kind : Nat → Int32) (f_size : Nat → Int32) (f_page : Nat → Int32) (f_book : Nat → Int32) {r0 : Int32} {n_thrown : Int32} {n_acts : Int32} {n_page : Nat → Int32} {n_book : Nat → Int32} (hf : x8_shake N v_thrown v_jars v_acts f_kind f_size f_page f_book = some (r0, n_thrown, n_acts, n_page, n_book)) : Met l yX8_shake wsX8_shake rm_X8_shake (va_Pc [.ref o] (gW (dC, dI) vwCl (gT cI cZ cG) (w_X8_shake cI cZ cG o o_text o_kind o_size o_readJar o_page o_trial o_book o_kept o_isKept o_tastedFrom o_tastedTo o_order o_spots o_gains o_value v_thrown v_textSize v_place v_jars v_readPlaces v_readJars v_acts v_tasted v_seed v_some v_rowMany v_rowWay v_stuffWhich v_stuffNear v_keptMany v_keptFirst v_restMany v_restFirst f_kind f_size f_page f_book) sz)) (va_Qi (fun r _ => r = r0) (gE (dC, dI) vwCl (gT cI cZ cG) (w_X8_shake cI cZ cG o o_text o_kind o_size o_readJar o_page o_trial o_book o_kept o_isKept o_tastedFrom o_tastedTo o_order o_spots o_gains o_value n_thrown v_textSize v_place v_jars v_readPlaces v_readJars n_acts v_tasted v_seed v_some v_rowMany v_rowWay v_stuffWhich v_stuffNear v_keptMany v_keptFirst v_restMany v_restFirst f_kind f_size n_page n_book) (va_A (w_X8_shake cI cZ cG o o_text o_kind o_size o_readJar o_page o_trial o_book o_kept o_isKept o_tastedFrom o_tastedTo o_order o_spots o_gains o_value v_thrown v_textSize v_place v_jars v_readPlaces v_readJars v_acts v_tasted v_seed v_some v_rowMany v_rowWay v_stuffWhich v_stuffNear v_keptMany v_keptFirst v_restMany v_restFirst f_kind f_size f_page f_book) sz)) (va_A (w_X8_shake cI cZ cG o o_text o_kind o_size o_readJar o_page o_trial o_book o_kept o_isKept o_tastedFrom o_tastedTo o_order o_spots o_gains o_value v_thrown v_textSize v_place v_jars v_readPlaces v_readJars v_acts v_tasted v_seed v_some v_rowMany v_rowWay v_stuffWhich v_stuffNear v_keptMany v_keptFirst v_restMany v_restFirst f_kind f_size f_page f_book) sz)) 0 0 (va_A (w_X8_shake cI cZ cG o o_text o_kind o_size o_readJar o_page o_trial o_book o_kept o_isKept o_tastedFrom o_tastedTo o_order o_spots o_gains o_value v_thrown v_textSize v_place v_jars v_readPlaces v_readJars v_acts v_tasted v_seed v_some v_rowMany v_rowWay v_stuffWhich v_stuffNear v_keptMany v_keptFirst v_restMany v_restFirst f_kind f_size f_page f_book) sz) := by
  refine Met.ofW (cc := cX8_shake) (maxL := 1) (ret := (some .int)) (by decide) rfl ?_
  intro p e s m args below meth c s₁ B hml hv
  obtain ⟨rfl, hv⟩ := hv
  obtain ⟨hsz, hP, hK, hN, hD0⟩ := hv
  have hx := B.exec
  have hb := B.bytes
  have hr := B.returns
  have hts := atoms_spec (ws := wsX8_shake) B.pre
  have hown : s.vm.findClass RX8 = some m.cls := findClass_of_methodNamed B.named
  have hlocks := B.notSynchronized
  have hiX8 : ∀ w ∈ u_ws RX8 TX8 33, w ∈ wsX8_shake := fun w h => List.mem_cons_of_mem _ (List.mem_append_right _ h)
  subst hsz
  have hD := hD0.self (sz := s.heap.size)
  generalize hAe : va_A (w_X8_shake cI cZ cG o o_text o_kind o_size o_readJar o_page o_trial o_book o_kept o_isKept o_tastedFrom o_tastedTo o_order o_spots o_gains o_value v_thrown v_textSize v_place v_jars v_readPlaces v_readJars v_acts v_tasted v_seed v_some v_rowMany v_rowWay v_stuffWhich v_stuffNear v_keptMany v_keptFirst v_restMany v_restFirst f_kind f_size f_page f_book) s.heap.size = A at hD ⊢
  have hA : ∀ q : Nat, s.heap.size ≤ q → A q := fun q h => by rw [← hAe]; exact Or.inr h
  clear hD0
  have hS : va_S A s.heap s.heap [] := va_S.rf
  have hP : va_P (dC, dI) vwCl (w_X8_shake cI cZ cG o o_text o_kind o_size o_readJar o_page o_trial o_book o_kept o_isKept o_tastedFrom o_tastedTo o_order o_spots o_gains o_value v_thrown v_textSize v_place v_jars v_readPlaces v_readJars v_acts v_tasted v_seed v_some v_rowMany v_rowWay v_stuffWhich v_stuffNear v_keptMany v_keptFirst v_restMany v_restFirst f_kind f_size f_page f_book) s.heap := hP
  obtain ⟨Q, hQ⟩ : ∃ Q : State → Prop, Q = MQ below (va_Qi (fun r _ => r = r0) (gE (dC, dI) vwCl (gT cI cZ cG) (w_X8_shake cI cZ cG o o_text o_kind o_size o_readJar o_page o_trial o_book o_kept o_isKept o_tastedFrom o_tastedTo o_order o_spots o_gains o_value n_thrown v_textSize v_place v_jars v_readPlaces v_readJars n_acts v_tasted v_seed v_some v_rowMany v_rowWay v_stuffWhich v_stuffNear v_keptMany v_keptFirst v_restMany v_restFirst f_kind f_size n_page n_book) A) A) (([Value.ref o] : List Value).toArray) s 0 0 A := ⟨_, rfl⟩
  have hl := lv_entry ([.ref o]) (n := 1) (Nat.le_of_ble_eq_true rfl)
  rw [← hQ, lg_entry_eq]
  generalize (lg_sl ([.ref o]) ++ List.replicate (1 - (lg_sl ([.ref o])).length) Slot.unset).toArray = ls at hl ⊢
  have hl : lv_has ls 1 [(0, .ref o)] := hl
  generalize hH : s.heap = H at hP hS ⊢
  have hS : va_S A s.heap H [] := by rw [hH]; exact hS
  generalize hlc : ([] : List Loc) = locs at hS ⊢
  show W p l e rm_X8_shake s m (([Value.ref o] : List Value).toArray) below meth c H locs 0 0 Q (F0 m 0 ls [])
  unfold x8_shake at hf
  refine lv_aload_n hx hb dX8_shake_0 rfl (lv_at hl 0 rfl) ?_
  refine lv_iconst (v := (0 : Int32)) hx hb dX8_shake_1 (by decide) ?_
  refine va_put (D := (dC, dI)) (ci := 8) (v := .int (0 : Int32)) (ty := .int) (C := RX8) (T := TX8) (N := 33) hx hb hts hiX8 tyX8 tyX8_ok nmX8 hown hK hP hD hS 0 rfl rfl 0 (by decide) (hts (.fieldLink RX8 56 "GreenJarsModel" "thrown" "I") (by decide +kernel)) (fun _ h9 => h9) rfl (by decide +kernel) rfl rfl (Nat.le_of_ble_eq_true rfl) dX8_shake_2 (fun H locs hP hD hS => ?_)
  have hP : va_P (dC, dI) vwCl (w_X8_shake cI cZ cG o o_text o_kind o_size o_readJar o_page o_trial o_book o_kept o_isKept o_tastedFrom o_tastedTo o_order o_spots o_gains o_value (0 : Int32) v_textSize v_place v_jars v_readPlaces v_readJars v_acts v_tasted v_seed v_some v_rowMany v_rowWay v_stuffWhich v_stuffNear v_keptMany v_keptFirst v_restMany v_restFirst f_kind f_size f_page f_book) H := hP
  have hD : va_D A (w_X8_shake cI cZ cG o o_text o_kind o_size o_readJar o_page o_trial o_book o_kept o_isKept o_tastedFrom o_tastedTo o_order o_spots o_gains o_value (0 : Int32) v_textSize v_place v_jars v_readPlaces v_readJars v_acts v_tasted v_seed v_some v_rowMany v_rowWay v_stuffWhich v_stuffNear v_keptMany v_keptFirst v_restMany v_restFirst f_kind f_size f_page f_book) := hD
  refine lv_aload_n hx hb dX8_shake_5 rfl (lv_at hl 0 rfl) ?_
  obtain ⟨y1, y2, hc3, hf⟩ := g_b2 hf
  refine g_wVv (As := []) (rest := []) (wr := [(o_kind, .inl (cI, 6, .inl f_kind)), (o_size, .inl (cI, 6, .inl f_size))]) (wn := (w_X8_shake cI cZ cG o o_text o_kind o_size o_readJar o_page o_trial o_book o_kept o_isKept o_tastedFrom o_tastedTo o_order o_spots o_gains o_value (0 : Int32) v_textSize v_place v_jars v_readPlaces v_readJars y1 v_tasted v_seed v_some v_rowMany v_rowWay v_stuffWhich v_stuffNear v_keptMany v_keptFirst v_restMany v_restFirst f_kind f_size f_page y2)) ⟨hx, hb, hml, hown, hts⟩ (c_X8_note l dC dI cI cZ cG o o_text o_kind o_size o_readJar o_page o_trial o_book o_kept o_isKept o_tastedFrom o_tastedTo o_order o_spots o_gains o_value H.size  (0 : Int32) v_textSize v_place v_jars v_readPlaces v_readJars v_acts v_tasted v_seed v_some v_rowMany v_rowWay v_stuffWhich v_stuffNear v_keptMany v_keptFirst v_restMany v_restFirst f_page f_book hc3) (cwV 0 hts gX8_shake_X8_note rfl rfl rfl (by decide +kernel) ⟨Nat.le_of_ble_eq_true rfl, Nat.le_of_ble_eq_true rfl⟩) hK hN hP hD hS hA [0, 3, 4] [1, 2] [2, 0, 1, 3, 4] rfl rfl (by decide) rfl (by decide) (by decide) rfl (by decide) (va_recv hK hP (ci := 8) (q0 := 0) rfl rfl) rfl hl.1 rfl (Nat.le_of_ble_eq_true rfl) dX8_shake_6 ⟨Nat.zero_le _, Nat.zero_le _⟩ (fun H locs hP hD hS => ?_)
  refine lv_aload_n hx hb dX8_shake_9 rfl (lv_at hl 0 rfl) ?_
  refine lv_aload_n hx hb dX8_shake_10 rfl (lv_at hl 0 rfl) ?_
  refine va_get (D := (dC, dI)) (ci := 8) (v := .ref o_page) (C := RX8) (T := TX8) (N := 33) hx hb hts hiX8 hown hK hP 0 rfl rfl 10 (by decide) (hts (.fieldLink RX8 22 "GreenJarsModel" "page" "[I") (by decide +kernel)) (fun _ h9 => h9) rfl dX8_shake_11 ?_
  obtain ⟨r4, y5, hc6, hf⟩ := g_b2 hf
  refine g_wV (As := [.ref o_page]) (rest := []) (wr := [(o_book, .inl (cI, 518, .inl y2))]) (wn := (w_X8_shake cI cZ cG o o_text o_kind o_size o_readJar o_page o_trial o_book o_kept o_isKept o_tastedFrom o_tastedTo o_order o_spots o_gains o_value (0 : Int32) v_textSize v_place v_jars v_readPlaces v_readJars y1 v_tasted v_seed v_some v_rowMany v_rowWay v_stuffWhich v_stuffNear v_keptMany v_keptFirst v_restMany v_restFirst f_kind f_size y5 y2)) ⟨hx, hb, hml, hown, hts⟩ (c_X8_goShake l dC dI cI cZ cG o o_text o_kind o_size o_readJar o_page o_trial o_book o_kept o_isKept o_tastedFrom o_tastedTo o_order o_spots o_gains o_value o_page H.size  (0 : Int32) v_textSize v_place v_jars v_readPlaces v_readJars y1 v_tasted v_seed v_some v_rowMany v_rowWay v_stuffWhich v_stuffNear v_keptMany v_keptFirst v_restMany v_restFirst f_kind f_size f_page hc6) (cwV 1 hts gX8_shake_X8_goShake rfl rfl rfl (by decide +kernel) ⟨Nat.le_of_ble_eq_true rfl, Nat.le_of_ble_eq_true rfl⟩) hK hN hP hD hS hA [0, 1, 2, 3] [4] [1, 2, 3, 4, 0] rfl rfl (by decide) rfl (by decide) (by decide) rfl (by decide) (va_recv hK hP (ci := 8) (q0 := 0) rfl rfl) rfl hl.1 rfl (Nat.le_of_ble_eq_true rfl) dX8_shake_14 ⟨Nat.zero_le _, Nat.zero_le _⟩ (fun H locs hP hD hS => ?_)
  rw [hQ]
  cases hf
  exact W.iret hx hb hr (fun t ht hW => ⟨⟨_, (), rfl, rfl, by rw [ht]; exact hP, va_K.moved hW.alike hK, hD⟩, hS.F ht⟩) hS.2.2 dX8_shake_17
abbrev rm_X8_canSet : Room := { frames := 3, cells := 0, slots := 0, locals := 67 }
abbrev w_X8_canSet (cI cZ cG : ClassId) (o : Nat) (o_text : Nat) (o_kind : Nat) (o_size : Nat) (o_readJar : Nat) (o_page : Nat) (o_trial : Nat) (o_book : Nat) (o_kept : Nat) (o_isKept : Nat) (o_tastedFrom : Nat) (o_tastedTo : Nat) (o_order : Nat) (o_spots : Nat) (o_gains : Nat) (o_value : Nat) (q1 : Nat) (v_thrown : Int32) (v_textSize : Int32) (v_place : Int32) (v_jars : Int32) (v_readPlaces : Int32) (v_readJars : Int32) (v_acts : Int32) (v_tasted : Int32) (v_seed : Int64) (v_some : Int32) (v_rowMany : Int32) (v_rowWay : Int32) (v_stuffWhich : Int32) (v_stuffNear : Int32) (v_keptMany : Int32) (v_keptFirst : Int32) (v_restMany : Int32) (v_restFirst : Int32) (f_q1 : Nat → Int32) : va_W := [(o, .inr (8, [.int v_thrown, .ref o_text, .int v_textSize, .int v_place, .int v_jars, .ref o_kind, .ref o_size, .int v_readPlaces, .int v_readJars, .ref o_readJar, .ref o_page, .ref o_trial, .ref o_book, .int v_acts, .ref o_kept, .ref o_isKept, .int v_tasted, .ref o_tastedFrom, .ref o_tastedTo, .long v_seed, .int v_some, .ref o_order, .ref o_spots, .int v_rowMany, .int v_rowWay, .int v_stuffWhich, .int v_stuffNear, .int v_keptMany, .int v_keptFirst, .int v_restMany, .int v_restFirst, .ref o_gains, .ref o_value])), (q1, .inl (cI, 37, .inl f_q1))]
set_option maxHeartbeats 4000000 in
set_option maxRecDepth 100000 in
theorem c_X8_canSet (l : Launch) (dC : Nat → ClassId) (dI : Nat → Nat → Nat) (cI cZ cG : ClassId) {N : Nat} (o : Nat) (o_text : Nat) (o_kind : Nat) (o_size : Nat) (o_readJar : Nat) (o_page : Nat) (o_trial : Nat) (o_book : Nat) (o_kept : Nat) (o_isKept : Nat) (o_tastedFrom : Nat) (o_tastedTo : Nat) (o_order : Nat) (o_spots : Nat) (o_gains : Nat) (o_value : Nat) (q1 : Nat) (v_thrown : Int32) (v_textSize : Int32) (v_place : Int32) (v_jars : Int32) (v_readPlaces : Int32) (v_readJars : Int32) (v_acts : Int32) (v_tasted : Int32) (v_seed : Int64) (v_some : Int32) (v_rowMany : Int32) (v_rowWay : Int32) (v_stuffWhich : Int32) (v_stuffNear : Int32) (v_keptMany : Int32) (v_keptFirst : Int32) (v_restMany : Int32) (v_restFirst : Int32) (f_q1 : Nat → Int32) (a2 : Int32) (a3 : Int32) {r0 : Int32} (hf : x8_canSet N v_jars v_some f_q1 a2 a3 = some r0) : Met l yX8_canSet wsX8_canSet rm_X8_canSet (va_Pc [.ref o, .ref q1, .int a2, .int a3] (gR (dC, dI) vwCl (gT cI cZ cG) (w_X8_canSet cI cZ cG o o_text o_kind o_size o_readJar o_page o_trial o_book o_kept o_isKept o_tastedFrom o_tastedTo o_order o_spots o_gains o_value q1 v_thrown v_textSize v_place v_jars v_readPlaces v_readJars v_acts v_tasted v_seed v_some v_rowMany v_rowWay v_stuffWhich v_stuffNear v_keptMany v_keptFirst v_restMany v_restFirst f_q1))) (vp_Si (fun r => r = r0)) 0 0 (fun _ => False) := by
  refine Met.ofW (cc := cX8_canSet) (maxL := 4) (ret := (some .boolean)) (by decide) rfl ?_
  intro p e s m args below meth c s₁ B hml hv
  obtain ⟨rfl, hv⟩ := hv
  obtain ⟨hP, hK, hN⟩ := hv
  have hx := B.exec
  have hb := B.bytes
  have hr := B.returns
  have hts := atoms_spec (ws := wsX8_canSet) B.pre
  have hown : s.vm.findClass RX8 = some m.cls := findClass_of_methodNamed B.named
  have hlocks := B.notSynchronized
  have hiX8 : ∀ w ∈ u_ws RX8 TX8 33, w ∈ wsX8_canSet := fun w h => List.mem_cons_of_mem _ (List.mem_append_right _ h)
  obtain ⟨Q, hQ⟩ : ∃ Q : State → Prop, Q = MQ below (vp_Si (fun r => r = r0)) (([Value.ref o, Value.ref q1, Value.int a2, Value.int a3] : List Value).toArray) s 0 0 (fun _ => False) := ⟨_, rfl⟩
  have hl := lv_entry ([.ref o, .ref q1, .int a2, .int a3]) (n := 4) (Nat.le_of_ble_eq_true rfl)
  rw [← hQ, lg_entry_eq]
  generalize (lg_sl ([.ref o, .ref q1, .int a2, .int a3]) ++ List.replicate (4 - (lg_sl ([.ref o, .ref q1, .int a2, .int a3])).length) Slot.unset).toArray = ls at hl ⊢
  have hl : lv_has ls 4 [(0, .ref o), (1, .ref q1), (2, .int a2), (3, .int a3)] := hl
  show W p l e rm_X8_canSet s m (([Value.ref o, Value.ref q1, Value.int a2, Value.int a3] : List Value).toArray) below meth c s.heap [] 0 0 Q (F0 m 0 ls [])
  unfold x8_canSet at hf
  refine lv_aload_n hx hb dX8_canSet_0 rfl (lv_at hl 1 rfl) ?_
  refine lv_iload_n hx hb dX8_canSet_1 rfl (lv_at hl 2 rfl) ?_
  obtain ⟨r1, hc2, hf⟩ := g_b1 hf
  refine g_rS (As := [.ref q1, .int a2]) (rest := []) ⟨hx, hb, hml, hown, hts⟩ (c_X8_isWhole l dC dI cI cZ cG q1  f_q1 a2 hc2) (va_cwS 2 hts gX8_canSet_X8_isWhole rfl rfl rfl (by decide +kernel) ⟨Nat.le_of_ble_eq_true rfl, Nat.le_of_ble_eq_true rfl⟩) hK hN (hP.sub [1] rfl) rfl hl.1 rfl (Nat.le_of_ble_eq_true rfl) dX8_canSet_2 ⟨Nat.zero_le _, Nat.zero_le _⟩ ?_
  refine lv_if_eq (tgt := 23) hx hb dX8_canSet_5 (by decide) (fun c3 => ?_) (fun c3 => ?_)
  · have hf := g_pos c3 hf
    refine lv_iconst (v := (0 : Int32)) hx hb dX8_canSet_23 (by decide) ?_
    rw [hQ]
    exact W.zret (v := (0 : Int32)) hx hb hr (by decide +kernel) (fun t ht hW => ⟨_, rfl, Option.some.inj hf, ht⟩) (fun q h => by cases h) dX8_canSet_24
  · have hf := g_neg c3 hf
    refine lv_aload_n hx hb dX8_canSet_8 rfl (lv_at hl 0 rfl) ?_
    refine lv_aload_n hx hb dX8_canSet_9 rfl (lv_at hl 1 rfl) ?_
    refine lv_iload_n hx hb dX8_canSet_10 rfl (lv_at hl 3 rfl) ?_
    obtain ⟨r4, hc5, hf⟩ := g_b1 hf
    refine g_rV (As := [.ref q1, .int a3]) (rest := []) ⟨hx, hb, hml, hown, hts⟩ (c_X8_jarAt l dC dI cI cZ cG o o_text o_kind o_size o_readJar o_page o_trial o_book o_kept o_isKept o_tastedFrom o_tastedTo o_order o_spots o_gains o_value q1  v_thrown v_textSize v_place v_jars v_readPlaces v_readJars v_acts v_tasted v_seed v_some v_rowMany v_rowWay v_stuffWhich v_stuffNear v_keptMany v_keptFirst v_restMany v_restFirst f_q1 a3 hc5) (cwV 2 hts gX8_canSet_X8_jarAt rfl rfl rfl (by decide +kernel) ⟨Nat.le_of_ble_eq_true rfl, Nat.le_of_ble_eq_true rfl⟩) hK hN (hP.sub [0, 1] rfl) (va_recv hK hP (ci := 8) (q0 := 0) rfl rfl) rfl hl.1 rfl (Nat.le_of_ble_eq_true rfl) dX8_canSet_11 ⟨Nat.zero_le _, Nat.zero_le _⟩ ?_
    refine lv_bipush (v := (-9 : Int32)) hx hb dX8_canSet_14 (by decide +kernel) ?_
    refine lv_icmp_ne (tgt := 23) hx hb dX8_canSet_16 (by decide) (fun c6 => ?_) (fun c6 => ?_)
    · have hf := g_neg c6 hf
      refine lv_iconst (v := (0 : Int32)) hx hb dX8_canSet_23 (by decide) ?_
      rw [hQ]
      exact W.zret (v := (0 : Int32)) hx hb hr (by decide +kernel) (fun t ht hW => ⟨_, rfl, Option.some.inj hf, ht⟩) (fun q h => by cases h) dX8_canSet_24
    · have hf := g_pos c6 hf
      refine lv_iconst (v := (1 : Int32)) hx hb dX8_canSet_19 (by decide) ?_
      refine lv_goto (tgt := 24) hx hb dX8_canSet_20 (by decide) ?_
      rw [hQ]
      exact W.zret (v := (1 : Int32)) hx hb hr (by decide +kernel) (fun t ht hW => ⟨_, rfl, Option.some.inj hf, ht⟩) (fun q h => by cases h) dX8_canSet_24
abbrev rm_X8_set : Room := { frames := 4, cells := 0, slots := 0, locals := 90 }
abbrev w_X8_set (cI cZ cG : ClassId) (o : Nat) (o_text : Nat) (o_kind : Nat) (o_size : Nat) (o_readJar : Nat) (o_page : Nat) (o_trial : Nat) (o_book : Nat) (o_kept : Nat) (o_isKept : Nat) (o_tastedFrom : Nat) (o_tastedTo : Nat) (o_order : Nat) (o_spots : Nat) (o_gains : Nat) (o_value : Nat) (v_thrown : Int32) (v_textSize : Int32) (v_place : Int32) (v_jars : Int32) (v_readPlaces : Int32) (v_readJars : Int32) (v_acts : Int32) (v_tasted : Int32) (v_seed : Int64) (v_some : Int32) (v_rowMany : Int32) (v_rowWay : Int32) (v_stuffWhich : Int32) (v_stuffNear : Int32) (v_keptMany : Int32) (v_keptFirst : Int32) (v_restMany : Int32) (v_restFirst : Int32) (f_page : Nat → Int32) (f_book : Nat → Int32) : va_W := [(o, .inr (8, [.int v_thrown, .ref o_text, .int v_textSize, .int v_place, .int v_jars, .ref o_kind, .ref o_size, .int v_readPlaces, .int v_readJars, .ref o_readJar, .ref o_page, .ref o_trial, .ref o_book, .int v_acts, .ref o_kept, .ref o_isKept, .int v_tasted, .ref o_tastedFrom, .ref o_tastedTo, .long v_seed, .int v_some, .ref o_order, .ref o_spots, .int v_rowMany, .int v_rowWay, .int v_stuffWhich, .int v_stuffNear, .int v_keptMany, .int v_keptFirst, .int v_restMany, .int v_restFirst, .ref o_gains, .ref o_value])), (o_page, .inl (cI, 37, .inl f_page)), (o_book, .inl (cI, 518, .inl f_book))]
set_option maxHeartbeats 4000000 in
set_option maxRecDepth 100000 in
theorem c_X8_set (l : Launch) (dC : Nat → ClassId) (dI : Nat → Nat → Nat) (cI cZ cG : ClassId) {N : Nat} (o : Nat) (o_text : Nat) (o_kind : Nat) (o_size : Nat) (o_readJar : Nat) (o_page : Nat) (o_trial : Nat) (o_book : Nat) (o_kept : Nat) (o_isKept : Nat) (o_tastedFrom : Nat) (o_tastedTo : Nat) (o_order : Nat) (o_spots : Nat) (o_gains : Nat) (o_value : Nat) (sz : Nat) (v_thrown : Int32) (v_textSize : Int32) (v_place : Int32) (v_jars : Int32) (v_readPlaces : Int32) (v_readJars : Int32) (v_acts : Int32) (v_tasted : Int32) (v_seed : Int64) (v_some : Int32) (v_rowMany : Int32) (v_rowWay : Int32) (v_stuffWhich : Int32) (v_stuffNear : Int32) (v_keptMany : Int32) (v_keptFirst : Int32) (v_restMany : Int32) (v_restFirst : Int32) (f_page : Nat → Int32) (f_book : Nat → Int32) (a1 : Int32) (a2 : Int32) {r0 : Int32} {n_thrown : Int32} {n_acts : Int32} {n_some : Int32} {n_page : Nat → Int32} {n_book : Nat → Int32} (hf : x8_set N v_thrown v_jars v_acts v_some f_page f_book a1 a2 = some (r0, n_thrown, n_acts, n_some, n_page, n_book)) : Met l yX8_set wsX8_set rm_X8_set (va_Pc [.ref o, .int a1, .int a2] (gW (dC, dI) vwCl (gT cI cZ cG) (w_X8_set cI cZ cG o o_text o_kind o_size o_readJar o_page o_trial o_book o_kept o_isKept o_tastedFrom o_tastedTo o_order o_spots o_gains o_value v_thrown v_textSize v_place v_jars v_readPlaces v_readJars v_acts v_tasted v_seed v_some v_rowMany v_rowWay v_stuffWhich v_stuffNear v_keptMany v_keptFirst v_restMany v_restFirst f_page f_book) sz)) (va_Qi (fun r _ => r = r0) (gE (dC, dI) vwCl (gT cI cZ cG) (w_X8_set cI cZ cG o o_text o_kind o_size o_readJar o_page o_trial o_book o_kept o_isKept o_tastedFrom o_tastedTo o_order o_spots o_gains o_value n_thrown v_textSize v_place v_jars v_readPlaces v_readJars n_acts v_tasted v_seed n_some v_rowMany v_rowWay v_stuffWhich v_stuffNear v_keptMany v_keptFirst v_restMany v_restFirst n_page n_book) (va_A (w_X8_set cI cZ cG o o_text o_kind o_size o_readJar o_page o_trial o_book o_kept o_isKept o_tastedFrom o_tastedTo o_order o_spots o_gains o_value v_thrown v_textSize v_place v_jars v_readPlaces v_readJars v_acts v_tasted v_seed v_some v_rowMany v_rowWay v_stuffWhich v_stuffNear v_keptMany v_keptFirst v_restMany v_restFirst f_page f_book) sz)) (va_A (w_X8_set cI cZ cG o o_text o_kind o_size o_readJar o_page o_trial o_book o_kept o_isKept o_tastedFrom o_tastedTo o_order o_spots o_gains o_value v_thrown v_textSize v_place v_jars v_readPlaces v_readJars v_acts v_tasted v_seed v_some v_rowMany v_rowWay v_stuffWhich v_stuffNear v_keptMany v_keptFirst v_restMany v_restFirst f_page f_book) sz)) 0 0 (va_A (w_X8_set cI cZ cG o o_text o_kind o_size o_readJar o_page o_trial o_book o_kept o_isKept o_tastedFrom o_tastedTo o_order o_spots o_gains o_value v_thrown v_textSize v_place v_jars v_readPlaces v_readJars v_acts v_tasted v_seed v_some v_rowMany v_rowWay v_stuffWhich v_stuffNear v_keptMany v_keptFirst v_restMany v_restFirst f_page f_book) sz) := by
  refine Met.ofW (cc := cX8_set) (maxL := 4) (ret := (some .int)) (by decide) rfl ?_
  intro p e s m args below meth c s₁ B hml hv
  obtain ⟨rfl, hv⟩ := hv
  obtain ⟨hsz, hP, hK, hN, hD0⟩ := hv
  have hx := B.exec
  have hb := B.bytes
  have hr := B.returns
  have hts := atoms_spec (ws := wsX8_set) B.pre
  have hown : s.vm.findClass RX8 = some m.cls := findClass_of_methodNamed B.named
  have hlocks := B.notSynchronized
  have hiX8 : ∀ w ∈ u_ws RX8 TX8 33, w ∈ wsX8_set := fun w h => List.mem_cons_of_mem _ (List.mem_append_right _ h)
  subst hsz
  have hD := hD0.self (sz := s.heap.size)
  generalize hAe : va_A (w_X8_set cI cZ cG o o_text o_kind o_size o_readJar o_page o_trial o_book o_kept o_isKept o_tastedFrom o_tastedTo o_order o_spots o_gains o_value v_thrown v_textSize v_place v_jars v_readPlaces v_readJars v_acts v_tasted v_seed v_some v_rowMany v_rowWay v_stuffWhich v_stuffNear v_keptMany v_keptFirst v_restMany v_restFirst f_page f_book) s.heap.size = A at hD ⊢
  have hA : ∀ q : Nat, s.heap.size ≤ q → A q := fun q h => by rw [← hAe]; exact Or.inr h
  clear hD0
  have hS : va_S A s.heap s.heap [] := va_S.rf
  have hP : va_P (dC, dI) vwCl (w_X8_set cI cZ cG o o_text o_kind o_size o_readJar o_page o_trial o_book o_kept o_isKept o_tastedFrom o_tastedTo o_order o_spots o_gains o_value v_thrown v_textSize v_place v_jars v_readPlaces v_readJars v_acts v_tasted v_seed v_some v_rowMany v_rowWay v_stuffWhich v_stuffNear v_keptMany v_keptFirst v_restMany v_restFirst f_page f_book) s.heap := hP
  obtain ⟨Q, hQ⟩ : ∃ Q : State → Prop, Q = MQ below (va_Qi (fun r _ => r = r0) (gE (dC, dI) vwCl (gT cI cZ cG) (w_X8_set cI cZ cG o o_text o_kind o_size o_readJar o_page o_trial o_book o_kept o_isKept o_tastedFrom o_tastedTo o_order o_spots o_gains o_value n_thrown v_textSize v_place v_jars v_readPlaces v_readJars n_acts v_tasted v_seed n_some v_rowMany v_rowWay v_stuffWhich v_stuffNear v_keptMany v_keptFirst v_restMany v_restFirst n_page n_book) A) A) (([Value.ref o, Value.int a1, Value.int a2] : List Value).toArray) s 0 0 A := ⟨_, rfl⟩
  have hl := lv_entry ([.ref o, .int a1, .int a2]) (n := 4) (Nat.le_of_ble_eq_true rfl)
  rw [← hQ, lg_entry_eq]
  generalize (lg_sl ([.ref o, .int a1, .int a2]) ++ List.replicate (4 - (lg_sl ([.ref o, .int a1, .int a2])).length) Slot.unset).toArray = ls at hl ⊢
  have hl : lv_has ls 4 [(0, .ref o), (1, .int a1), (2, .int a2)] := hl
  generalize hH : s.heap = H at hP hS ⊢
  have hS : va_S A s.heap H [] := by rw [hH]; exact hS
  generalize hlc : ([] : List Loc) = locs at hS ⊢
  show W p l e rm_X8_set s m (([Value.ref o, Value.int a1, Value.int a2] : List Value).toArray) below meth c H locs 0 0 Q (F0 m 0 ls [])
  unfold x8_set at hf
  refine lv_aload_n hx hb dX8_set_0 rfl (lv_at hl 0 rfl) ?_
  refine lv_iconst (v := (0 : Int32)) hx hb dX8_set_1 (by decide) ?_
  refine va_put (D := (dC, dI)) (ci := 8) (v := .int (0 : Int32)) (ty := .int) (C := RX8) (T := TX8) (N := 33) hx hb hts hiX8 tyX8 tyX8_ok nmX8 hown hK hP hD hS 0 rfl rfl 0 (by decide) (hts (.fieldLink RX8 56 "GreenJarsModel" "thrown" "I") (by decide +kernel)) (fun _ h9 => h9) rfl (by decide +kernel) rfl rfl (Nat.le_of_ble_eq_true rfl) dX8_set_2 (fun H locs hP hD hS => ?_)
  have hP : va_P (dC, dI) vwCl (w_X8_set cI cZ cG o o_text o_kind o_size o_readJar o_page o_trial o_book o_kept o_isKept o_tastedFrom o_tastedTo o_order o_spots o_gains o_value (0 : Int32) v_textSize v_place v_jars v_readPlaces v_readJars v_acts v_tasted v_seed v_some v_rowMany v_rowWay v_stuffWhich v_stuffNear v_keptMany v_keptFirst v_restMany v_restFirst f_page f_book) H := hP
  have hD : va_D A (w_X8_set cI cZ cG o o_text o_kind o_size o_readJar o_page o_trial o_book o_kept o_isKept o_tastedFrom o_tastedTo o_order o_spots o_gains o_value (0 : Int32) v_textSize v_place v_jars v_readPlaces v_readJars v_acts v_tasted v_seed v_some v_rowMany v_rowWay v_stuffWhich v_stuffNear v_keptMany v_keptFirst v_restMany v_restFirst f_page f_book) := hD
  refine lv_aload_n hx hb dX8_set_5 rfl (lv_at hl 0 rfl) ?_
  refine lv_bipush (v := (63 : Int32)) hx hb dX8_set_6 (by decide +kernel) ?_
  refine va_put (D := (dC, dI)) (ci := 8) (v := .int (63 : Int32)) (ty := .int) (C := RX8) (T := TX8) (N := 33) hx hb hts hiX8 tyX8 tyX8_ok nmX8 hown hK hP hD hS 0 rfl rfl 20 (by decide) (hts (.fieldLink RX8 109 "GreenJarsModel" "some" "I") (by decide +kernel)) (fun _ h9 => h9) rfl (by decide +kernel) rfl rfl (Nat.le_of_ble_eq_true rfl) dX8_set_8 (fun H locs hP hD hS => ?_)
  have hP : va_P (dC, dI) vwCl (w_X8_set cI cZ cG o o_text o_kind o_size o_readJar o_page o_trial o_book o_kept o_isKept o_tastedFrom o_tastedTo o_order o_spots o_gains o_value (0 : Int32) v_textSize v_place v_jars v_readPlaces v_readJars v_acts v_tasted v_seed (63 : Int32) v_rowMany v_rowWay v_stuffWhich v_stuffNear v_keptMany v_keptFirst v_restMany v_restFirst f_page f_book) H := hP
  have hD : va_D A (w_X8_set cI cZ cG o o_text o_kind o_size o_readJar o_page o_trial o_book o_kept o_isKept o_tastedFrom o_tastedTo o_order o_spots o_gains o_value (0 : Int32) v_textSize v_place v_jars v_readPlaces v_readJars v_acts v_tasted v_seed (63 : Int32) v_rowMany v_rowWay v_stuffWhich v_stuffNear v_keptMany v_keptFirst v_restMany v_restFirst f_page f_book) := hD
  refine lv_aload_n hx hb dX8_set_11 rfl (lv_at hl 0 rfl) ?_
  refine lv_iload_n hx hb dX8_set_12 rfl (lv_at hl 1 rfl) ?_
  obtain ⟨r1, hc2, hf⟩ := g_b1 hf
  refine g_rV (As := [.int a1]) (rest := []) ⟨hx, hb, hml, hown, hts⟩ (c_X8_noJar l dC dI cI cZ cG o o_text o_kind o_size o_readJar o_page o_trial o_book o_kept o_isKept o_tastedFrom o_tastedTo o_order o_spots o_gains o_value  (0 : Int32) v_textSize v_place v_jars v_readPlaces v_readJars v_acts v_tasted v_seed (63 : Int32) v_rowMany v_rowWay v_stuffWhich v_stuffNear v_keptMany v_keptFirst v_restMany v_restFirst a1 hc2) (cwV 1 hts gX8_set_X8_noJar rfl rfl rfl (by decide +kernel) ⟨Nat.le_of_ble_eq_true rfl, Nat.le_of_ble_eq_true rfl⟩) hK hN (hP.sub [0] rfl) (va_recv hK hP (ci := 8) (q0 := 0) rfl rfl) rfl hl.1 rfl (Nat.le_of_ble_eq_true rfl) dX8_set_13 ⟨Nat.zero_le _, Nat.zero_le _⟩ ?_
  refine lv_if_ne (tgt := 31) hx hb dX8_set_16 (by decide) (fun c3 => ?_) (fun c3 => ?_)
  · have hf := g_neg c3 hf
    refine lv_iconst (v := (-1 : Int32)) hx hb dX8_set_31 (by decide) ?_
    rw [hQ]
    cases hf
    exact W.iret hx hb hr (fun t ht hW => ⟨⟨_, (), rfl, rfl, by rw [ht]; exact hP, va_K.moved hW.alike hK, hD⟩, hS.F ht⟩) hS.2.2 dX8_set_32
  · have hf := g_pos c3 hf
    refine lv_iload_n hx hb dX8_set_19 rfl (lv_at hl 2 rfl) ?_
    refine lv_i2l hx hb dX8_set_20 rfl ?_
    refine lv_lconst (v := (0 : Int64)) hx hb dX8_set_21 (by decide) ?_
    refine lv_ldc2 (v := (7 : Int64)) hx hb hown (hts (.constantLong RX8 78 (7 : Int64)) (by decide +kernel)) dX8_set_22 ?_
    obtain ⟨r4, hc5, hf⟩ := g_b1 hf
    refine g_rS (As := [.long a2.toInt64, .long (0 : Int64), .long (7 : Int64)]) (rest := []) ⟨hx, hb, hml, hown, hts⟩ (c_X8_in l dC dI cI cZ cG    a2.toInt64 (0 : Int64) (7 : Int64) hc5) (va_cwS 3 hts gX8_set_X8_in rfl rfl rfl (by decide +kernel) ⟨Nat.le_of_ble_eq_true rfl, Nat.le_of_ble_eq_true rfl⟩) hK hN (hP.sub [] rfl) rfl hl.1 rfl (Nat.le_of_ble_eq_true rfl) dX8_set_25 ⟨Nat.zero_le _, Nat.zero_le _⟩ ?_
    refine lv_if_ne (tgt := 33) hx hb dX8_set_28 (by decide) (fun c6 => ?_) (fun c6 => ?_)
    · have hf := g_neg c6 hf
      refine lv_aload_n hx hb dX8_set_33 rfl (lv_at hl 0 rfl) ?_
      refine lv_aload_n hx hb dX8_set_34 rfl (lv_at hl 0 rfl) ?_
      refine va_get (D := (dC, dI)) (ci := 8) (v := .ref o_page) (C := RX8) (T := TX8) (N := 33) hx hb hts hiX8 hown hK hP 0 rfl rfl 10 (by decide) (hts (.fieldLink RX8 22 "GreenJarsModel" "page" "[I") (by decide +kernel)) (fun _ h9 => h9) rfl dX8_set_35 ?_
      refine lv_iload_n hx hb dX8_set_38 rfl (lv_at hl 1 rfl) ?_
      refine lv_iload_n hx hb dX8_set_39 rfl (lv_at hl 2 rfl) ?_
      obtain ⟨r7, hc8, hf⟩ := g_b1 hf
      refine g_rV (As := [.ref o_page, .int a1, .int a2]) (rest := []) ⟨hx, hb, hml, hown, hts⟩ (c_X8_canSet l dC dI cI cZ cG o o_text o_kind o_size o_readJar o_page o_trial o_book o_kept o_isKept o_tastedFrom o_tastedTo o_order o_spots o_gains o_value o_page  (0 : Int32) v_textSize v_place v_jars v_readPlaces v_readJars v_acts v_tasted v_seed (63 : Int32) v_rowMany v_rowWay v_stuffWhich v_stuffNear v_keptMany v_keptFirst v_restMany v_restFirst f_page a1 a2 hc8) (cwV 3 hts gX8_set_X8_canSet rfl rfl rfl (by decide +kernel) ⟨Nat.le_of_ble_eq_true rfl, Nat.le_of_ble_eq_true rfl⟩) hK hN (hP.sub [0, 1] rfl) (va_recv hK hP (ci := 8) (q0 := 0) rfl rfl) rfl hl.1 rfl (Nat.le_of_ble_eq_true rfl) dX8_set_40 ⟨Nat.zero_le _, Nat.zero_le _⟩ ?_
      refine lv_if_ne (tgt := 49) hx hb dX8_set_43 (by decide) (fun c9 => ?_) (fun c9 => ?_)
      · have hf := g_neg c9 hf
        refine lv_aload_n hx hb dX8_set_49 rfl (lv_at hl 0 rfl) ?_
        obtain ⟨y10, y11, hc12, hf⟩ := g_b2 hf
        refine g_wVv (As := []) (rest := []) (wr := []) (wn := (w_X8_set cI cZ cG o o_text o_kind o_size o_readJar o_page o_trial o_book o_kept o_isKept o_tastedFrom o_tastedTo o_order o_spots o_gains o_value (0 : Int32) v_textSize v_place v_jars v_readPlaces v_readJars y10 v_tasted v_seed (63 : Int32) v_rowMany v_rowWay v_stuffWhich v_stuffNear v_keptMany v_keptFirst v_restMany v_restFirst f_page y11)) ⟨hx, hb, hml, hown, hts⟩ (c_X8_note l dC dI cI cZ cG o o_text o_kind o_size o_readJar o_page o_trial o_book o_kept o_isKept o_tastedFrom o_tastedTo o_order o_spots o_gains o_value H.size  (0 : Int32) v_textSize v_place v_jars v_readPlaces v_readJars v_acts v_tasted v_seed (63 : Int32) v_rowMany v_rowWay v_stuffWhich v_stuffNear v_keptMany v_keptFirst v_restMany v_restFirst f_page f_book hc12) (cwV 0 hts gX8_set_X8_note rfl rfl rfl (by decide +kernel) ⟨Nat.le_of_ble_eq_true rfl, Nat.le_of_ble_eq_true rfl⟩) hK hN hP hD hS hA [0, 1, 2] [] [0, 1, 2] rfl rfl (by decide) rfl (by decide) (by decide) rfl (by decide) (va_recv hK hP (ci := 8) (q0 := 0) rfl rfl) rfl hl.1 rfl (Nat.le_of_ble_eq_true rfl) dX8_set_50 ⟨Nat.zero_le _, Nat.zero_le _⟩ (fun H locs hP hD hS => ?_)
        refine lv_aload_n hx hb dX8_set_53 rfl (lv_at hl 0 rfl) ?_
        refine va_get (D := (dC, dI)) (ci := 8) (v := .ref o_page) (C := RX8) (T := TX8) (N := 33) hx hb hts hiX8 hown hK hP 0 rfl rfl 10 (by decide) (hts (.fieldLink RX8 22 "GreenJarsModel" "page" "[I") (by decide +kernel)) (fun _ h9 => h9) rfl dX8_set_54 ?_
        refine lv_iload_n hx hb dX8_set_57 rfl (lv_at hl 1 rfl) ?_
        obtain ⟨h13, hf⟩ := g_chk hf
        refine va_iald hx hb hK hP 1 0 rfl rfl (gIn_vp h13) dX8_set_58 ?_
        refine lv_istore_n (lv' := [(3, .int (f_page a1.toNatClampNeg)), (0, .ref o), (1, .int a1), (2, .int a2)]) hx hb dX8_set_59 rfl hl (by decide) rfl (fun ls hl => ?_)
        refine lv_aload_n hx hb dX8_set_60 rfl (lv_at hl 1 rfl) ?_
        refine va_get (D := (dC, dI)) (ci := 8) (v := .ref o_page) (C := RX8) (T := TX8) (N := 33) hx hb hts hiX8 hown hK hP 0 rfl rfl 10 (by decide) (hts (.fieldLink RX8 22 "GreenJarsModel" "page" "[I") (by decide +kernel)) (fun _ h9 => h9) rfl dX8_set_61 ?_
        refine lv_iload_n hx hb dX8_set_64 rfl (lv_at hl 2 rfl) ?_
        refine lv_iload_n hx hb dX8_set_65 rfl (lv_at hl 3 rfl) ?_
        obtain ⟨h14, hf⟩ := g_chk hf
        refine va_iast hx hb hK hP hD hS 1 0 rfl rfl (gIn_vp h14) dX8_set_66 (fun H locs hP hD hS => ?_)
        have hP : va_P (dC, dI) vwCl (w_X8_set cI cZ cG o o_text o_kind o_size o_readJar o_page o_trial o_book o_kept o_isKept o_tastedFrom o_tastedTo o_order o_spots o_gains o_value (0 : Int32) v_textSize v_place v_jars v_readPlaces v_readJars y10 v_tasted v_seed (63 : Int32) v_rowMany v_rowWay v_stuffWhich v_stuffNear v_keptMany v_keptFirst v_restMany v_restFirst (upd f_page a1.toNatClampNeg a2) y11) H := hP
        have hD : va_D A (w_X8_set cI cZ cG o o_text o_kind o_size o_readJar o_page o_trial o_book o_kept o_isKept o_tastedFrom o_tastedTo o_order o_spots o_gains o_value (0 : Int32) v_textSize v_place v_jars v_readPlaces v_readJars y10 v_tasted v_seed (63 : Int32) v_rowMany v_rowWay v_stuffWhich v_stuffNear v_keptMany v_keptFirst v_restMany v_restFirst (upd f_page a1.toNatClampNeg a2) y11) := hD
        refine lv_iload_n hx hb dX8_set_67 rfl (lv_at hl 0 rfl) ?_
        rw [hQ]
        cases hf
        exact W.iret hx hb hr (fun t ht hW => ⟨⟨_, (), rfl, rfl, by rw [ht]; exact hP, va_K.moved hW.alike hK, hD⟩, hS.F ht⟩) hS.2.2 dX8_set_68
      · have hf := g_pos c9 hf
        refine lv_bipush (v := (-3 : Int32)) hx hb dX8_set_46 (by decide +kernel) ?_
        rw [hQ]
        cases hf
        exact W.iret hx hb hr (fun t ht hW => ⟨⟨_, (), rfl, rfl, by rw [ht]; exact hP, va_K.moved hW.alike hK, hD⟩, hS.F ht⟩) hS.2.2 dX8_set_48
    · have hf := g_pos c6 hf
      refine lv_iconst (v := (-1 : Int32)) hx hb dX8_set_31 (by decide) ?_
      rw [hQ]
      cases hf
      exact W.iret hx hb hr (fun t ht hW => ⟨⟨_, (), rfl, rfl, by rw [ht]; exact hP, va_K.moved hW.alike hK, hD⟩, hS.F ht⟩) hS.2.2 dX8_set_32
abbrev rm_X8_canPour : Room := { frames := 1, cells := 0, slots := 0, locals := 21 }
abbrev w_X8_canPour (cI cZ cG : ClassId) (q0 : Nat) (f_q0 : Nat → Int32) : va_W := [(q0, .inl (cI, 37, .inl f_q0))]
set_option maxHeartbeats 4000000 in
set_option maxRecDepth 100000 in
theorem c_X8_canPour (l : Launch) (dC : Nat → ClassId) (dI : Nat → Nat → Nat) (cI cZ cG : ClassId) (q0 : Nat) (f_q0 : Nat → Int32) (a1 : Int32) (a2 : Int32) {r0 : Int32} (hf : x8_canPour f_q0 a1 a2 = some r0) : Met l yX8_canPour wsX8_canPour rm_X8_canPour (va_Pc [.ref q0, .int a1, .int a2] (gR (dC, dI) vwCl (gT cI cZ cG) (w_X8_canPour cI cZ cG q0 f_q0))) (vp_Si (fun r => r = r0)) 0 0 (fun _ => False) := by
  refine Met.ofW (cc := cX8_canPour) (maxL := 3) (ret := (some .boolean)) (by decide) rfl ?_
  intro p e s m args below meth c s₁ B hml hv
  obtain ⟨rfl, hv⟩ := hv
  obtain ⟨hP, hK, hN⟩ := hv
  have hx := B.exec
  have hb := B.bytes
  have hr := B.returns
  have hts := atoms_spec (ws := wsX8_canPour) B.pre
  have hown : s.vm.findClass RX8 = some m.cls := findClass_of_methodNamed B.named
  have hlocks := B.notSynchronized
  obtain ⟨Q, hQ⟩ : ∃ Q : State → Prop, Q = MQ below (vp_Si (fun r => r = r0)) (([Value.ref q0, Value.int a1, Value.int a2] : List Value).toArray) s 0 0 (fun _ => False) := ⟨_, rfl⟩
  have hl := lv_entry ([.ref q0, .int a1, .int a2]) (n := 3) (Nat.le_of_ble_eq_true rfl)
  rw [← hQ, lg_entry_eq]
  generalize (lg_sl ([.ref q0, .int a1, .int a2]) ++ List.replicate (3 - (lg_sl ([.ref q0, .int a1, .int a2])).length) Slot.unset).toArray = ls at hl ⊢
  have hl : lv_has ls 3 [(0, .ref q0), (1, .int a1), (2, .int a2)] := hl
  show W p l e rm_X8_canPour s m (([Value.ref q0, Value.int a1, Value.int a2] : List Value).toArray) below meth c s.heap [] 0 0 Q (F0 m 0 ls [])
  unfold x8_canPour at hf
  refine lv_aload_n hx hb dX8_canPour_0 rfl (lv_at hl 0 rfl) ?_
  refine lv_iload_n hx hb dX8_canPour_1 rfl (lv_at hl 1 rfl) ?_
  obtain ⟨r1, hc2, hf⟩ := g_b1 hf
  refine g_rS (As := [.ref q0, .int a1]) (rest := []) ⟨hx, hb, hml, hown, hts⟩ (c_X8_isWhole l dC dI cI cZ cG q0  f_q0 a1 hc2) (va_cwS 2 hts gX8_canPour_X8_isWhole rfl rfl rfl (by decide +kernel) ⟨Nat.le_of_ble_eq_true rfl, Nat.le_of_ble_eq_true rfl⟩) hK hN (hP.sub [0] rfl) rfl hl.1 rfl (Nat.le_of_ble_eq_true rfl) dX8_canPour_2 ⟨Nat.zero_le _, Nat.zero_le _⟩ ?_
  refine lv_if_eq (tgt := 22) hx hb dX8_canPour_5 (by decide) (fun c3 => ?_) (fun c3 => ?_)
  · have hf := g_pos c3 hf
    refine lv_iconst (v := (0 : Int32)) hx hb dX8_canPour_22 (by decide) ?_
    rw [hQ]
    exact W.zret (v := (0 : Int32)) hx hb hr (by decide +kernel) (fun t ht hW => ⟨_, rfl, Option.some.inj hf, ht⟩) (fun q h => by cases h) dX8_canPour_23
  · have hf := g_neg c3 hf
    refine lv_aload_n hx hb dX8_canPour_8 rfl (lv_at hl 0 rfl) ?_
    refine lv_bipush (v := (12 : Int32)) hx hb dX8_canPour_9 (by decide +kernel) ?_
    refine lv_iload_n hx hb dX8_canPour_11 rfl (lv_at hl 1 rfl) ?_
    refine lv_iadd hx hb dX8_canPour_12 ?_
    obtain ⟨h4, hf⟩ := g_chk hf
    refine va_iald hx hb hK hP 0 0 rfl rfl (gIn_vp h4) dX8_canPour_13 ?_
    refine lv_iload_n hx hb dX8_canPour_14 rfl (lv_at hl 2 rfl) ?_
    refine lv_icmp_eq (tgt := 22) hx hb dX8_canPour_15 (by decide) (fun c5 => ?_) (fun c5 => ?_)
    · have hf := g_pos c5 hf
      refine lv_iconst (v := (0 : Int32)) hx hb dX8_canPour_22 (by decide) ?_
      rw [hQ]
      exact W.zret (v := (0 : Int32)) hx hb hr (by decide +kernel) (fun t ht hW => ⟨_, rfl, Option.some.inj hf, ht⟩) (fun q h => by cases h) dX8_canPour_23
    · have hf := g_neg c5 hf
      refine lv_iconst (v := (1 : Int32)) hx hb dX8_canPour_18 (by decide) ?_
      refine lv_goto (tgt := 23) hx hb dX8_canPour_19 (by decide) ?_
      rw [hQ]
      exact W.zret (v := (1 : Int32)) hx hb hr (by decide +kernel) (fun t ht hW => ⟨_, rfl, Option.some.inj hf, ht⟩) (fun q h => by cases h) dX8_canPour_23
abbrev rm_X8_goPour : Room := { frames := 0, cells := 0, slots := 0, locals := 0 }
abbrev w_X8_goPour (cI cZ cG : ClassId) (q0 : Nat) (f_q0 : Nat → Int32) : va_W := [(q0, .inl (cI, 37, .inl f_q0))]
set_option maxHeartbeats 4000000 in
set_option maxRecDepth 100000 in
theorem c_X8_goPour (l : Launch) (dC : Nat → ClassId) (dI : Nat → Nat → Nat) (cI cZ cG : ClassId) (q0 : Nat) (sz : Nat) (f_q0 : Nat → Int32) (a1 : Int32) (a2 : Int32) {n_q0 : Nat → Int32} (hf : x8_goPour f_q0 a1 a2 = some n_q0) : Met l yX8_goPour wsX8_goPour rm_X8_goPour (va_Pc [.ref q0, .int a1, .int a2] (gW (dC, dI) vwCl (gT cI cZ cG) (w_X8_goPour cI cZ cG q0 f_q0) sz)) (va_Qv (fun _ => True) (gE (dC, dI) vwCl (gT cI cZ cG) (w_X8_goPour cI cZ cG q0 n_q0) (va_A (w_X8_goPour cI cZ cG q0 f_q0) sz)) (va_A (w_X8_goPour cI cZ cG q0 f_q0) sz)) 0 0 (va_A (w_X8_goPour cI cZ cG q0 f_q0) sz) := by
  refine Met.ofW (cc := cX8_goPour) (maxL := 3) (ret := none) (by decide) rfl ?_
  intro p e s m args below meth c s₁ B hml hv
  obtain ⟨rfl, hv⟩ := hv
  obtain ⟨hsz, hP, hK, hN, hD0⟩ := hv
  have hx := B.exec
  have hb := B.bytes
  have hr := B.returns
  have hts := atoms_spec (ws := wsX8_goPour) B.pre
  have hown : s.vm.findClass RX8 = some m.cls := findClass_of_methodNamed B.named
  have hlocks := B.notSynchronized
  subst hsz
  have hD := hD0.self (sz := s.heap.size)
  generalize hAe : va_A (w_X8_goPour cI cZ cG q0 f_q0) s.heap.size = A at hD ⊢
  have hA : ∀ q : Nat, s.heap.size ≤ q → A q := fun q h => by rw [← hAe]; exact Or.inr h
  clear hD0
  have hS : va_S A s.heap s.heap [] := va_S.rf
  have hP : va_P (dC, dI) vwCl (w_X8_goPour cI cZ cG q0 f_q0) s.heap := hP
  obtain ⟨Q, hQ⟩ : ∃ Q : State → Prop, Q = MQ below (va_Qv (fun _ => True) (gE (dC, dI) vwCl (gT cI cZ cG) (w_X8_goPour cI cZ cG q0 n_q0) A) A) (([Value.ref q0, Value.int a1, Value.int a2] : List Value).toArray) s 0 0 A := ⟨_, rfl⟩
  have hl := lv_entry ([.ref q0, .int a1, .int a2]) (n := 3) (Nat.le_of_ble_eq_true rfl)
  rw [← hQ, lg_entry_eq]
  generalize (lg_sl ([.ref q0, .int a1, .int a2]) ++ List.replicate (3 - (lg_sl ([.ref q0, .int a1, .int a2])).length) Slot.unset).toArray = ls at hl ⊢
  have hl : lv_has ls 3 [(0, .ref q0), (1, .int a1), (2, .int a2)] := hl
  generalize hH : s.heap = H at hP hS ⊢
  have hS : va_S A s.heap H [] := by rw [hH]; exact hS
  generalize hlc : ([] : List Loc) = locs at hS ⊢
  show W p l e rm_X8_goPour s m (([Value.ref q0, Value.int a1, Value.int a2] : List Value).toArray) below meth c H locs 0 0 Q (F0 m 0 ls [])
  unfold x8_goPour at hf
  refine lv_aload_n hx hb dX8_goPour_0 rfl (lv_at hl 0 rfl) ?_
  refine lv_bipush (v := (12 : Int32)) hx hb dX8_goPour_1 (by decide +kernel) ?_
  refine lv_iload_n hx hb dX8_goPour_3 rfl (lv_at hl 1 rfl) ?_
  refine lv_iadd hx hb dX8_goPour_4 ?_
  refine lv_iload_n hx hb dX8_goPour_5 rfl (lv_at hl 2 rfl) ?_
  obtain ⟨h1, hf⟩ := g_chk hf
  refine va_iast hx hb hK hP hD hS 0 0 rfl rfl (gIn_vp h1) dX8_goPour_6 (fun H locs hP hD hS => ?_)
  have hP : va_P (dC, dI) vwCl (w_X8_goPour cI cZ cG q0 (upd f_q0 ((12 : Int32) + a1).toNatClampNeg a2)) H := hP
  have hD : va_D A (w_X8_goPour cI cZ cG q0 (upd f_q0 ((12 : Int32) + a1).toNatClampNeg a2)) := hD
  refine lv_aload_n hx hb dX8_goPour_7 rfl (lv_at hl 0 rfl) ?_
  refine lv_bipush (v := (18 : Int32)) hx hb dX8_goPour_8 (by decide +kernel) ?_
  refine lv_iload_n hx hb dX8_goPour_10 rfl (lv_at hl 1 rfl) ?_
  refine lv_iadd hx hb dX8_goPour_11 ?_
  refine lv_iconst (v := (0 : Int32)) hx hb dX8_goPour_12 (by decide) ?_
  obtain ⟨h2, hf⟩ := g_chk hf
  refine va_iast hx hb hK hP hD hS 0 0 rfl rfl (gIn_vp h2) dX8_goPour_13 (fun H locs hP hD hS => ?_)
  have hP : va_P (dC, dI) vwCl (w_X8_goPour cI cZ cG q0 (upd (upd f_q0 ((12 : Int32) + a1).toNatClampNeg a2) ((18 : Int32) + a1).toNatClampNeg (0 : Int32))) H := hP
  have hD : va_D A (w_X8_goPour cI cZ cG q0 (upd (upd f_q0 ((12 : Int32) + a1).toNatClampNeg a2) ((18 : Int32) + a1).toNatClampNeg (0 : Int32))) := hD
  rw [hQ]
  cases hf
  exact W.vret hx hb hr (fun t ht hW => ⟨⟨(), rfl, trivial, by rw [ht]; exact hP, va_K.moved hW.alike hK, hD⟩, hS.F ht⟩) hS.2.2 dX8_goPour_14
abbrev rm_X8_pour : Room := { frames := 2, cells := 0, slots := 0, locals := 46 }
abbrev w_X8_pour (cI cZ cG : ClassId) (o : Nat) (o_text : Nat) (o_kind : Nat) (o_size : Nat) (o_readJar : Nat) (o_page : Nat) (o_trial : Nat) (o_book : Nat) (o_kept : Nat) (o_isKept : Nat) (o_tastedFrom : Nat) (o_tastedTo : Nat) (o_order : Nat) (o_spots : Nat) (o_gains : Nat) (o_value : Nat) (v_thrown : Int32) (v_textSize : Int32) (v_place : Int32) (v_jars : Int32) (v_readPlaces : Int32) (v_readJars : Int32) (v_acts : Int32) (v_tasted : Int32) (v_seed : Int64) (v_some : Int32) (v_rowMany : Int32) (v_rowWay : Int32) (v_stuffWhich : Int32) (v_stuffNear : Int32) (v_keptMany : Int32) (v_keptFirst : Int32) (v_restMany : Int32) (v_restFirst : Int32) (f_page : Nat → Int32) (f_book : Nat → Int32) : va_W := [(o, .inr (8, [.int v_thrown, .ref o_text, .int v_textSize, .int v_place, .int v_jars, .ref o_kind, .ref o_size, .int v_readPlaces, .int v_readJars, .ref o_readJar, .ref o_page, .ref o_trial, .ref o_book, .int v_acts, .ref o_kept, .ref o_isKept, .int v_tasted, .ref o_tastedFrom, .ref o_tastedTo, .long v_seed, .int v_some, .ref o_order, .ref o_spots, .int v_rowMany, .int v_rowWay, .int v_stuffWhich, .int v_stuffNear, .int v_keptMany, .int v_keptFirst, .int v_restMany, .int v_restFirst, .ref o_gains, .ref o_value])), (o_page, .inl (cI, 37, .inl f_page)), (o_book, .inl (cI, 518, .inl f_book))]
set_option maxHeartbeats 4000000 in
set_option maxRecDepth 100000 in
theorem c_X8_pour (l : Launch) (dC : Nat → ClassId) (dI : Nat → Nat → Nat) (cI cZ cG : ClassId) {N : Nat} (o : Nat) (o_text : Nat) (o_kind : Nat) (o_size : Nat) (o_readJar : Nat) (o_page : Nat) (o_trial : Nat) (o_book : Nat) (o_kept : Nat) (o_isKept : Nat) (o_tastedFrom : Nat) (o_tastedTo : Nat) (o_order : Nat) (o_spots : Nat) (o_gains : Nat) (o_value : Nat) (sz : Nat) (v_thrown : Int32) (v_textSize : Int32) (v_place : Int32) (v_jars : Int32) (v_readPlaces : Int32) (v_readJars : Int32) (v_acts : Int32) (v_tasted : Int32) (v_seed : Int64) (v_some : Int32) (v_rowMany : Int32) (v_rowWay : Int32) (v_stuffWhich : Int32) (v_stuffNear : Int32) (v_keptMany : Int32) (v_keptFirst : Int32) (v_restMany : Int32) (v_restFirst : Int32) (f_page : Nat → Int32) (f_book : Nat → Int32) (a1 : Int32) (a2 : Int32) {r0 : Int32} {n_thrown : Int32} {n_acts : Int32} {n_page : Nat → Int32} {n_book : Nat → Int32} (hf : x8_pour N v_thrown v_jars v_acts f_page f_book a1 a2 = some (r0, n_thrown, n_acts, n_page, n_book)) : Met l yX8_pour wsX8_pour rm_X8_pour (va_Pc [.ref o, .int a1, .int a2] (gW (dC, dI) vwCl (gT cI cZ cG) (w_X8_pour cI cZ cG o o_text o_kind o_size o_readJar o_page o_trial o_book o_kept o_isKept o_tastedFrom o_tastedTo o_order o_spots o_gains o_value v_thrown v_textSize v_place v_jars v_readPlaces v_readJars v_acts v_tasted v_seed v_some v_rowMany v_rowWay v_stuffWhich v_stuffNear v_keptMany v_keptFirst v_restMany v_restFirst f_page f_book) sz)) (va_Qi (fun r _ => r = r0) (gE (dC, dI) vwCl (gT cI cZ cG) (w_X8_pour cI cZ cG o o_text o_kind o_size o_readJar o_page o_trial o_book o_kept o_isKept o_tastedFrom o_tastedTo o_order o_spots o_gains o_value n_thrown v_textSize v_place v_jars v_readPlaces v_readJars n_acts v_tasted v_seed v_some v_rowMany v_rowWay v_stuffWhich v_stuffNear v_keptMany v_keptFirst v_restMany v_restFirst n_page n_book) (va_A (w_X8_pour cI cZ cG o o_text o_kind o_size o_readJar o_page o_trial o_book o_kept o_isKept o_tastedFrom o_tastedTo o_order o_spots o_gains o_value v_thrown v_textSize v_place v_jars v_readPlaces v_readJars v_acts v_tasted v_seed v_some v_rowMany v_rowWay v_stuffWhich v_stuffNear v_keptMany v_keptFirst v_restMany v_restFirst f_page f_book) sz)) (va_A (w_X8_pour cI cZ cG o o_text o_kind o_size o_readJar o_page o_trial o_book o_kept o_isKept o_tastedFrom o_tastedTo o_order o_spots o_gains o_value v_thrown v_textSize v_place v_jars v_readPlaces v_readJars v_acts v_tasted v_seed v_some v_rowMany v_rowWay v_stuffWhich v_stuffNear v_keptMany v_keptFirst v_restMany v_restFirst f_page f_book) sz)) 0 0 (va_A (w_X8_pour cI cZ cG o o_text o_kind o_size o_readJar o_page o_trial o_book o_kept o_isKept o_tastedFrom o_tastedTo o_order o_spots o_gains o_value v_thrown v_textSize v_place v_jars v_readPlaces v_readJars v_acts v_tasted v_seed v_some v_rowMany v_rowWay v_stuffWhich v_stuffNear v_keptMany v_keptFirst v_restMany v_restFirst f_page f_book) sz) := by
  refine Met.ofW (cc := cX8_pour) (maxL := 4) (ret := (some .int)) (by decide) rfl ?_
  intro p e s m args below meth c s₁ B hml hv
  obtain ⟨rfl, hv⟩ := hv
  obtain ⟨hsz, hP, hK, hN, hD0⟩ := hv
  have hx := B.exec
  have hb := B.bytes
  have hr := B.returns
  have hts := atoms_spec (ws := wsX8_pour) B.pre
  have hown : s.vm.findClass RX8 = some m.cls := findClass_of_methodNamed B.named
  have hlocks := B.notSynchronized
  have hiX8 : ∀ w ∈ u_ws RX8 TX8 33, w ∈ wsX8_pour := fun w h => List.mem_cons_of_mem _ (List.mem_append_right _ h)
  subst hsz
  have hD := hD0.self (sz := s.heap.size)
  generalize hAe : va_A (w_X8_pour cI cZ cG o o_text o_kind o_size o_readJar o_page o_trial o_book o_kept o_isKept o_tastedFrom o_tastedTo o_order o_spots o_gains o_value v_thrown v_textSize v_place v_jars v_readPlaces v_readJars v_acts v_tasted v_seed v_some v_rowMany v_rowWay v_stuffWhich v_stuffNear v_keptMany v_keptFirst v_restMany v_restFirst f_page f_book) s.heap.size = A at hD ⊢
  have hA : ∀ q : Nat, s.heap.size ≤ q → A q := fun q h => by rw [← hAe]; exact Or.inr h
  clear hD0
  have hS : va_S A s.heap s.heap [] := va_S.rf
  have hP : va_P (dC, dI) vwCl (w_X8_pour cI cZ cG o o_text o_kind o_size o_readJar o_page o_trial o_book o_kept o_isKept o_tastedFrom o_tastedTo o_order o_spots o_gains o_value v_thrown v_textSize v_place v_jars v_readPlaces v_readJars v_acts v_tasted v_seed v_some v_rowMany v_rowWay v_stuffWhich v_stuffNear v_keptMany v_keptFirst v_restMany v_restFirst f_page f_book) s.heap := hP
  obtain ⟨Q, hQ⟩ : ∃ Q : State → Prop, Q = MQ below (va_Qi (fun r _ => r = r0) (gE (dC, dI) vwCl (gT cI cZ cG) (w_X8_pour cI cZ cG o o_text o_kind o_size o_readJar o_page o_trial o_book o_kept o_isKept o_tastedFrom o_tastedTo o_order o_spots o_gains o_value n_thrown v_textSize v_place v_jars v_readPlaces v_readJars n_acts v_tasted v_seed v_some v_rowMany v_rowWay v_stuffWhich v_stuffNear v_keptMany v_keptFirst v_restMany v_restFirst n_page n_book) A) A) (([Value.ref o, Value.int a1, Value.int a2] : List Value).toArray) s 0 0 A := ⟨_, rfl⟩
  have hl := lv_entry ([.ref o, .int a1, .int a2]) (n := 4) (Nat.le_of_ble_eq_true rfl)
  rw [← hQ, lg_entry_eq]
  generalize (lg_sl ([.ref o, .int a1, .int a2]) ++ List.replicate (4 - (lg_sl ([.ref o, .int a1, .int a2])).length) Slot.unset).toArray = ls at hl ⊢
  have hl : lv_has ls 4 [(0, .ref o), (1, .int a1), (2, .int a2)] := hl
  generalize hH : s.heap = H at hP hS ⊢
  have hS : va_S A s.heap H [] := by rw [hH]; exact hS
  generalize hlc : ([] : List Loc) = locs at hS ⊢
  show W p l e rm_X8_pour s m (([Value.ref o, Value.int a1, Value.int a2] : List Value).toArray) below meth c H locs 0 0 Q (F0 m 0 ls [])
  unfold x8_pour at hf
  refine lv_aload_n hx hb dX8_pour_0 rfl (lv_at hl 0 rfl) ?_
  refine lv_iconst (v := (0 : Int32)) hx hb dX8_pour_1 (by decide) ?_
  refine va_put (D := (dC, dI)) (ci := 8) (v := .int (0 : Int32)) (ty := .int) (C := RX8) (T := TX8) (N := 33) hx hb hts hiX8 tyX8 tyX8_ok nmX8 hown hK hP hD hS 0 rfl rfl 0 (by decide) (hts (.fieldLink RX8 56 "GreenJarsModel" "thrown" "I") (by decide +kernel)) (fun _ h9 => h9) rfl (by decide +kernel) rfl rfl (Nat.le_of_ble_eq_true rfl) dX8_pour_2 (fun H locs hP hD hS => ?_)
  have hP : va_P (dC, dI) vwCl (w_X8_pour cI cZ cG o o_text o_kind o_size o_readJar o_page o_trial o_book o_kept o_isKept o_tastedFrom o_tastedTo o_order o_spots o_gains o_value (0 : Int32) v_textSize v_place v_jars v_readPlaces v_readJars v_acts v_tasted v_seed v_some v_rowMany v_rowWay v_stuffWhich v_stuffNear v_keptMany v_keptFirst v_restMany v_restFirst f_page f_book) H := hP
  have hD : va_D A (w_X8_pour cI cZ cG o o_text o_kind o_size o_readJar o_page o_trial o_book o_kept o_isKept o_tastedFrom o_tastedTo o_order o_spots o_gains o_value (0 : Int32) v_textSize v_place v_jars v_readPlaces v_readJars v_acts v_tasted v_seed v_some v_rowMany v_rowWay v_stuffWhich v_stuffNear v_keptMany v_keptFirst v_restMany v_restFirst f_page f_book) := hD
  refine lv_aload_n hx hb dX8_pour_5 rfl (lv_at hl 0 rfl) ?_
  refine lv_iload_n hx hb dX8_pour_6 rfl (lv_at hl 1 rfl) ?_
  obtain ⟨r1, hc2, hf⟩ := g_b1 hf
  refine g_rV (As := [.int a1]) (rest := []) ⟨hx, hb, hml, hown, hts⟩ (c_X8_noJar l dC dI cI cZ cG o o_text o_kind o_size o_readJar o_page o_trial o_book o_kept o_isKept o_tastedFrom o_tastedTo o_order o_spots o_gains o_value  (0 : Int32) v_textSize v_place v_jars v_readPlaces v_readJars v_acts v_tasted v_seed v_some v_rowMany v_rowWay v_stuffWhich v_stuffNear v_keptMany v_keptFirst v_restMany v_restFirst a1 hc2) (cwV 1 hts gX8_pour_X8_noJar rfl rfl rfl (by decide +kernel) ⟨Nat.le_of_ble_eq_true rfl, Nat.le_of_ble_eq_true rfl⟩) hK hN (hP.sub [0] rfl) (va_recv hK hP (ci := 8) (q0 := 0) rfl rfl) rfl hl.1 rfl (Nat.le_of_ble_eq_true rfl) dX8_pour_7 ⟨Nat.zero_le _, Nat.zero_le _⟩ ?_
  refine lv_if_ne (tgt := 25) hx hb dX8_pour_10 (by decide) (fun c3 => ?_) (fun c3 => ?_)
  · have hf := g_neg c3 hf
    refine lv_iconst (v := (-1 : Int32)) hx hb dX8_pour_25 (by decide) ?_
    rw [hQ]
    cases hf
    exact W.iret hx hb hr (fun t ht hW => ⟨⟨_, (), rfl, rfl, by rw [ht]; exact hP, va_K.moved hW.alike hK, hD⟩, hS.F ht⟩) hS.2.2 dX8_pour_26
  · have hf := g_pos c3 hf
    refine lv_iload_n hx hb dX8_pour_13 rfl (lv_at hl 2 rfl) ?_
    refine lv_i2l hx hb dX8_pour_14 rfl ?_
    refine lv_lconst (v := (0 : Int64)) hx hb dX8_pour_15 (by decide) ?_
    refine lv_ldc2 (v := (3 : Int64)) hx hb hown (hts (.constantLong RX8 159 (3 : Int64)) (by decide +kernel)) dX8_pour_16 ?_
    obtain ⟨r4, hc5, hf⟩ := g_b1 hf
    refine g_rS (As := [.long a2.toInt64, .long (0 : Int64), .long (3 : Int64)]) (rest := []) ⟨hx, hb, hml, hown, hts⟩ (c_X8_in l dC dI cI cZ cG    a2.toInt64 (0 : Int64) (3 : Int64) hc5) (va_cwS 3 hts gX8_pour_X8_in rfl rfl rfl (by decide +kernel) ⟨Nat.le_of_ble_eq_true rfl, Nat.le_of_ble_eq_true rfl⟩) hK hN (hP.sub [] rfl) rfl hl.1 rfl (Nat.le_of_ble_eq_true rfl) dX8_pour_19 ⟨Nat.zero_le _, Nat.zero_le _⟩ ?_
    refine lv_if_ne (tgt := 27) hx hb dX8_pour_22 (by decide) (fun c6 => ?_) (fun c6 => ?_)
    · have hf := g_neg c6 hf
      refine lv_aload_n hx hb dX8_pour_27 rfl (lv_at hl 0 rfl) ?_
      refine va_get (D := (dC, dI)) (ci := 8) (v := .ref o_page) (C := RX8) (T := TX8) (N := 33) hx hb hts hiX8 hown hK hP 0 rfl rfl 10 (by decide) (hts (.fieldLink RX8 22 "GreenJarsModel" "page" "[I") (by decide +kernel)) (fun _ h9 => h9) rfl dX8_pour_28 ?_
      refine lv_iload_n hx hb dX8_pour_31 rfl (lv_at hl 1 rfl) ?_
      refine lv_iload_n hx hb dX8_pour_32 rfl (lv_at hl 2 rfl) ?_
      obtain ⟨r7, hc8, hf⟩ := g_b1 hf
      refine g_rS (As := [.ref o_page, .int a1, .int a2]) (rest := []) ⟨hx, hb, hml, hown, hts⟩ (c_X8_canPour l dC dI cI cZ cG o_page  f_page a1 a2 hc8) (va_cwS 3 hts gX8_pour_X8_canPour rfl rfl rfl (by decide +kernel) ⟨Nat.le_of_ble_eq_true rfl, Nat.le_of_ble_eq_true rfl⟩) hK hN (hP.sub [1] rfl) rfl hl.1 rfl (Nat.le_of_ble_eq_true rfl) dX8_pour_33 ⟨Nat.zero_le _, Nat.zero_le _⟩ ?_
      refine lv_if_ne (tgt := 42) hx hb dX8_pour_36 (by decide) (fun c9 => ?_) (fun c9 => ?_)
      · have hf := g_neg c9 hf
        refine lv_aload_n hx hb dX8_pour_42 rfl (lv_at hl 0 rfl) ?_
        obtain ⟨y10, y11, hc12, hf⟩ := g_b2 hf
        refine g_wVv (As := []) (rest := []) (wr := []) (wn := (w_X8_pour cI cZ cG o o_text o_kind o_size o_readJar o_page o_trial o_book o_kept o_isKept o_tastedFrom o_tastedTo o_order o_spots o_gains o_value (0 : Int32) v_textSize v_place v_jars v_readPlaces v_readJars y10 v_tasted v_seed v_some v_rowMany v_rowWay v_stuffWhich v_stuffNear v_keptMany v_keptFirst v_restMany v_restFirst f_page y11)) ⟨hx, hb, hml, hown, hts⟩ (c_X8_note l dC dI cI cZ cG o o_text o_kind o_size o_readJar o_page o_trial o_book o_kept o_isKept o_tastedFrom o_tastedTo o_order o_spots o_gains o_value H.size  (0 : Int32) v_textSize v_place v_jars v_readPlaces v_readJars v_acts v_tasted v_seed v_some v_rowMany v_rowWay v_stuffWhich v_stuffNear v_keptMany v_keptFirst v_restMany v_restFirst f_page f_book hc12) (cwV 0 hts gX8_pour_X8_note rfl rfl rfl (by decide +kernel) ⟨Nat.le_of_ble_eq_true rfl, Nat.le_of_ble_eq_true rfl⟩) hK hN hP hD hS hA [0, 1, 2] [] [0, 1, 2] rfl rfl (by decide) rfl (by decide) (by decide) rfl (by decide) (va_recv hK hP (ci := 8) (q0 := 0) rfl rfl) rfl hl.1 rfl (Nat.le_of_ble_eq_true rfl) dX8_pour_43 ⟨Nat.zero_le _, Nat.zero_le _⟩ (fun H locs hP hD hS => ?_)
        refine lv_aload_n hx hb dX8_pour_46 rfl (lv_at hl 0 rfl) ?_
        refine va_get (D := (dC, dI)) (ci := 8) (v := .ref o_page) (C := RX8) (T := TX8) (N := 33) hx hb hts hiX8 hown hK hP 0 rfl rfl 10 (by decide) (hts (.fieldLink RX8 22 "GreenJarsModel" "page" "[I") (by decide +kernel)) (fun _ h9 => h9) rfl dX8_pour_47 ?_
        refine lv_bipush (v := (12 : Int32)) hx hb dX8_pour_50 (by decide +kernel) ?_
        refine lv_iload_n hx hb dX8_pour_52 rfl (lv_at hl 1 rfl) ?_
        refine lv_iadd hx hb dX8_pour_53 ?_
        obtain ⟨h13, hf⟩ := g_chk hf
        refine va_iald hx hb hK hP 1 0 rfl rfl (gIn_vp h13) dX8_pour_54 ?_
        refine lv_istore_n (lv' := [(3, .int (f_page ((12 : Int32) + a1).toNatClampNeg)), (0, .ref o), (1, .int a1), (2, .int a2)]) hx hb dX8_pour_55 rfl hl (by decide) rfl (fun ls hl => ?_)
        refine lv_aload_n hx hb dX8_pour_56 rfl (lv_at hl 1 rfl) ?_
        refine va_get (D := (dC, dI)) (ci := 8) (v := .ref o_page) (C := RX8) (T := TX8) (N := 33) hx hb hts hiX8 hown hK hP 0 rfl rfl 10 (by decide) (hts (.fieldLink RX8 22 "GreenJarsModel" "page" "[I") (by decide +kernel)) (fun _ h9 => h9) rfl dX8_pour_57 ?_
        refine lv_iload_n hx hb dX8_pour_60 rfl (lv_at hl 2 rfl) ?_
        refine lv_iload_n hx hb dX8_pour_61 rfl (lv_at hl 3 rfl) ?_
        obtain ⟨y14, hc15, hf⟩ := g_b1 hf
        refine g_wSv (As := [.ref o_page, .int a1, .int a2]) (rest := []) (wr := [(o, .inr (8, [.int (0 : Int32), .ref o_text, .int v_textSize, .int v_place, .int v_jars, .ref o_kind, .ref o_size, .int v_readPlaces, .int v_readJars, .ref o_readJar, .ref o_page, .ref o_trial, .ref o_book, .int y10, .ref o_kept, .ref o_isKept, .int v_tasted, .ref o_tastedFrom, .ref o_tastedTo, .long v_seed, .int v_some, .ref o_order, .ref o_spots, .int v_rowMany, .int v_rowWay, .int v_stuffWhich, .int v_stuffNear, .int v_keptMany, .int v_keptFirst, .int v_restMany, .int v_restFirst, .ref o_gains, .ref o_value])), (o_book, .inl (cI, 518, .inl y11))]) (wn := (w_X8_pour cI cZ cG o o_text o_kind o_size o_readJar o_page o_trial o_book o_kept o_isKept o_tastedFrom o_tastedTo o_order o_spots o_gains o_value (0 : Int32) v_textSize v_place v_jars v_readPlaces v_readJars y10 v_tasted v_seed v_some v_rowMany v_rowWay v_stuffWhich v_stuffNear v_keptMany v_keptFirst v_restMany v_restFirst y14 y11)) ⟨hx, hb, hml, hown, hts⟩ (c_X8_goPour l dC dI cI cZ cG o_page H.size  f_page a1 a2 hc15) (va_cwS 3 hts gX8_pour_X8_goPour rfl rfl rfl (by decide +kernel) ⟨Nat.le_of_ble_eq_true rfl, Nat.le_of_ble_eq_true rfl⟩) hK hN hP hD hS hA [1] [0, 2] [0, 2, 1] rfl rfl (by decide) rfl (by decide) (by decide) rfl (by decide) rfl hl.1 rfl (Nat.le_of_ble_eq_true rfl) dX8_pour_62 ⟨Nat.zero_le _, Nat.zero_le _⟩ (fun H locs hP hD hS => ?_)
        refine lv_iload_n hx hb dX8_pour_65 rfl (lv_at hl 0 rfl) ?_
        rw [hQ]
        cases hf
        exact W.iret hx hb hr (fun t ht hW => ⟨⟨_, (), rfl, rfl, by rw [ht]; exact hP, va_K.moved hW.alike hK, hD⟩, hS.F ht⟩) hS.2.2 dX8_pour_66
      · have hf := g_pos c9 hf
        refine lv_bipush (v := (-3 : Int32)) hx hb dX8_pour_39 (by decide +kernel) ?_
        rw [hQ]
        cases hf
        exact W.iret hx hb hr (fun t ht hW => ⟨⟨_, (), rfl, rfl, by rw [ht]; exact hP, va_K.moved hW.alike hK, hD⟩, hS.F ht⟩) hS.2.2 dX8_pour_41
    · have hf := g_pos c6 hf
      refine lv_iconst (v := (-1 : Int32)) hx hb dX8_pour_25 (by decide) ?_
      rw [hQ]
      cases hf
      exact W.iret hx hb hr (fun t ht hW => ⟨⟨_, (), rfl, rfl, by rw [ht]; exact hP, va_K.moved hW.alike hK, hD⟩, hS.F ht⟩) hS.2.2 dX8_pour_26
abbrev rm_X8_open : Room := { frames := 2, cells := 0, slots := 0, locals := 46 }
abbrev w_X8_open (cI cZ cG : ClassId) (o : Nat) (o_text : Nat) (o_kind : Nat) (o_size : Nat) (o_readJar : Nat) (o_page : Nat) (o_trial : Nat) (o_book : Nat) (o_kept : Nat) (o_isKept : Nat) (o_tastedFrom : Nat) (o_tastedTo : Nat) (o_order : Nat) (o_spots : Nat) (o_gains : Nat) (o_value : Nat) (v_thrown : Int32) (v_textSize : Int32) (v_place : Int32) (v_jars : Int32) (v_readPlaces : Int32) (v_readJars : Int32) (v_acts : Int32) (v_tasted : Int32) (v_seed : Int64) (v_some : Int32) (v_rowMany : Int32) (v_rowWay : Int32) (v_stuffWhich : Int32) (v_stuffNear : Int32) (v_keptMany : Int32) (v_keptFirst : Int32) (v_restMany : Int32) (v_restFirst : Int32) (f_page : Nat → Int32) (f_book : Nat → Int32) : va_W := [(o, .inr (8, [.int v_thrown, .ref o_text, .int v_textSize, .int v_place, .int v_jars, .ref o_kind, .ref o_size, .int v_readPlaces, .int v_readJars, .ref o_readJar, .ref o_page, .ref o_trial, .ref o_book, .int v_acts, .ref o_kept, .ref o_isKept, .int v_tasted, .ref o_tastedFrom, .ref o_tastedTo, .long v_seed, .int v_some, .ref o_order, .ref o_spots, .int v_rowMany, .int v_rowWay, .int v_stuffWhich, .int v_stuffNear, .int v_keptMany, .int v_keptFirst, .int v_restMany, .int v_restFirst, .ref o_gains, .ref o_value])), (o_page, .inl (cI, 37, .inl f_page)), (o_book, .inl (cI, 518, .inl f_book))]
set_option maxHeartbeats 4000000 in
set_option maxRecDepth 100000 in
theorem c_X8_open (l : Launch) (dC : Nat → ClassId) (dI : Nat → Nat → Nat) (cI cZ cG : ClassId) {N : Nat} (o : Nat) (o_text : Nat) (o_kind : Nat) (o_size : Nat) (o_readJar : Nat) (o_page : Nat) (o_trial : Nat) (o_book : Nat) (o_kept : Nat) (o_isKept : Nat) (o_tastedFrom : Nat) (o_tastedTo : Nat) (o_order : Nat) (o_spots : Nat) (o_gains : Nat) (o_value : Nat) (sz : Nat) (v_thrown : Int32) (v_textSize : Int32) (v_place : Int32) (v_jars : Int32) (v_readPlaces : Int32) (v_readJars : Int32) (v_acts : Int32) (v_tasted : Int32) (v_seed : Int64) (v_some : Int32) (v_rowMany : Int32) (v_rowWay : Int32) (v_stuffWhich : Int32) (v_stuffNear : Int32) (v_keptMany : Int32) (v_keptFirst : Int32) (v_restMany : Int32) (v_restFirst : Int32) (f_page : Nat → Int32) (f_book : Nat → Int32) (a1 : Int32) {r0 : Int32} {n_thrown : Int32} {n_acts : Int32} {n_page : Nat → Int32} {n_book : Nat → Int32} (hf : x8_open N v_thrown v_jars v_acts f_page f_book a1 = some (r0, n_thrown, n_acts, n_page, n_book)) : Met l yX8_open wsX8_open rm_X8_open (va_Pc [.ref o, .int a1] (gW (dC, dI) vwCl (gT cI cZ cG) (w_X8_open cI cZ cG o o_text o_kind o_size o_readJar o_page o_trial o_book o_kept o_isKept o_tastedFrom o_tastedTo o_order o_spots o_gains o_value v_thrown v_textSize v_place v_jars v_readPlaces v_readJars v_acts v_tasted v_seed v_some v_rowMany v_rowWay v_stuffWhich v_stuffNear v_keptMany v_keptFirst v_restMany v_restFirst f_page f_book) sz)) (va_Qi (fun r _ => r = r0) (gE (dC, dI) vwCl (gT cI cZ cG) (w_X8_open cI cZ cG o o_text o_kind o_size o_readJar o_page o_trial o_book o_kept o_isKept o_tastedFrom o_tastedTo o_order o_spots o_gains o_value n_thrown v_textSize v_place v_jars v_readPlaces v_readJars n_acts v_tasted v_seed v_some v_rowMany v_rowWay v_stuffWhich v_stuffNear v_keptMany v_keptFirst v_restMany v_restFirst n_page n_book) (va_A (w_X8_open cI cZ cG o o_text o_kind o_size o_readJar o_page o_trial o_book o_kept o_isKept o_tastedFrom o_tastedTo o_order o_spots o_gains o_value v_thrown v_textSize v_place v_jars v_readPlaces v_readJars v_acts v_tasted v_seed v_some v_rowMany v_rowWay v_stuffWhich v_stuffNear v_keptMany v_keptFirst v_restMany v_restFirst f_page f_book) sz)) (va_A (w_X8_open cI cZ cG o o_text o_kind o_size o_readJar o_page o_trial o_book o_kept o_isKept o_tastedFrom o_tastedTo o_order o_spots o_gains o_value v_thrown v_textSize v_place v_jars v_readPlaces v_readJars v_acts v_tasted v_seed v_some v_rowMany v_rowWay v_stuffWhich v_stuffNear v_keptMany v_keptFirst v_restMany v_restFirst f_page f_book) sz)) 0 0 (va_A (w_X8_open cI cZ cG o o_text o_kind o_size o_readJar o_page o_trial o_book o_kept o_isKept o_tastedFrom o_tastedTo o_order o_spots o_gains o_value v_thrown v_textSize v_place v_jars v_readPlaces v_readJars v_acts v_tasted v_seed v_some v_rowMany v_rowWay v_stuffWhich v_stuffNear v_keptMany v_keptFirst v_restMany v_restFirst f_page f_book) sz) := by
  refine Met.ofW (cc := cX8_open) (maxL := 2) (ret := (some .int)) (by decide) rfl ?_
  intro p e s m args below meth c s₁ B hml hv
  obtain ⟨rfl, hv⟩ := hv
  obtain ⟨hsz, hP, hK, hN, hD0⟩ := hv
  have hx := B.exec
  have hb := B.bytes
  have hr := B.returns
  have hts := atoms_spec (ws := wsX8_open) B.pre
  have hown : s.vm.findClass RX8 = some m.cls := findClass_of_methodNamed B.named
  have hlocks := B.notSynchronized
  have hiX8 : ∀ w ∈ u_ws RX8 TX8 33, w ∈ wsX8_open := fun w h => List.mem_cons_of_mem _ (List.mem_append_right _ h)
  subst hsz
  have hD := hD0.self (sz := s.heap.size)
  generalize hAe : va_A (w_X8_open cI cZ cG o o_text o_kind o_size o_readJar o_page o_trial o_book o_kept o_isKept o_tastedFrom o_tastedTo o_order o_spots o_gains o_value v_thrown v_textSize v_place v_jars v_readPlaces v_readJars v_acts v_tasted v_seed v_some v_rowMany v_rowWay v_stuffWhich v_stuffNear v_keptMany v_keptFirst v_restMany v_restFirst f_page f_book) s.heap.size = A at hD ⊢
  have hA : ∀ q : Nat, s.heap.size ≤ q → A q := fun q h => by rw [← hAe]; exact Or.inr h
  clear hD0
  have hS : va_S A s.heap s.heap [] := va_S.rf
  have hP : va_P (dC, dI) vwCl (w_X8_open cI cZ cG o o_text o_kind o_size o_readJar o_page o_trial o_book o_kept o_isKept o_tastedFrom o_tastedTo o_order o_spots o_gains o_value v_thrown v_textSize v_place v_jars v_readPlaces v_readJars v_acts v_tasted v_seed v_some v_rowMany v_rowWay v_stuffWhich v_stuffNear v_keptMany v_keptFirst v_restMany v_restFirst f_page f_book) s.heap := hP
  obtain ⟨Q, hQ⟩ : ∃ Q : State → Prop, Q = MQ below (va_Qi (fun r _ => r = r0) (gE (dC, dI) vwCl (gT cI cZ cG) (w_X8_open cI cZ cG o o_text o_kind o_size o_readJar o_page o_trial o_book o_kept o_isKept o_tastedFrom o_tastedTo o_order o_spots o_gains o_value n_thrown v_textSize v_place v_jars v_readPlaces v_readJars n_acts v_tasted v_seed v_some v_rowMany v_rowWay v_stuffWhich v_stuffNear v_keptMany v_keptFirst v_restMany v_restFirst n_page n_book) A) A) (([Value.ref o, Value.int a1] : List Value).toArray) s 0 0 A := ⟨_, rfl⟩
  have hl := lv_entry ([.ref o, .int a1]) (n := 2) (Nat.le_of_ble_eq_true rfl)
  rw [← hQ, lg_entry_eq]
  generalize (lg_sl ([.ref o, .int a1]) ++ List.replicate (2 - (lg_sl ([.ref o, .int a1])).length) Slot.unset).toArray = ls at hl ⊢
  have hl : lv_has ls 2 [(0, .ref o), (1, .int a1)] := hl
  generalize hH : s.heap = H at hP hS ⊢
  have hS : va_S A s.heap H [] := by rw [hH]; exact hS
  generalize hlc : ([] : List Loc) = locs at hS ⊢
  show W p l e rm_X8_open s m (([Value.ref o, Value.int a1] : List Value).toArray) below meth c H locs 0 0 Q (F0 m 0 ls [])
  unfold x8_open at hf
  refine lv_aload_n hx hb dX8_open_0 rfl (lv_at hl 0 rfl) ?_
  refine lv_iconst (v := (0 : Int32)) hx hb dX8_open_1 (by decide) ?_
  refine va_put (D := (dC, dI)) (ci := 8) (v := .int (0 : Int32)) (ty := .int) (C := RX8) (T := TX8) (N := 33) hx hb hts hiX8 tyX8 tyX8_ok nmX8 hown hK hP hD hS 0 rfl rfl 0 (by decide) (hts (.fieldLink RX8 56 "GreenJarsModel" "thrown" "I") (by decide +kernel)) (fun _ h9 => h9) rfl (by decide +kernel) rfl rfl (Nat.le_of_ble_eq_true rfl) dX8_open_2 (fun H locs hP hD hS => ?_)
  have hP : va_P (dC, dI) vwCl (w_X8_open cI cZ cG o o_text o_kind o_size o_readJar o_page o_trial o_book o_kept o_isKept o_tastedFrom o_tastedTo o_order o_spots o_gains o_value (0 : Int32) v_textSize v_place v_jars v_readPlaces v_readJars v_acts v_tasted v_seed v_some v_rowMany v_rowWay v_stuffWhich v_stuffNear v_keptMany v_keptFirst v_restMany v_restFirst f_page f_book) H := hP
  have hD : va_D A (w_X8_open cI cZ cG o o_text o_kind o_size o_readJar o_page o_trial o_book o_kept o_isKept o_tastedFrom o_tastedTo o_order o_spots o_gains o_value (0 : Int32) v_textSize v_place v_jars v_readPlaces v_readJars v_acts v_tasted v_seed v_some v_rowMany v_rowWay v_stuffWhich v_stuffNear v_keptMany v_keptFirst v_restMany v_restFirst f_page f_book) := hD
  refine lv_aload_n hx hb dX8_open_5 rfl (lv_at hl 0 rfl) ?_
  refine lv_iload_n hx hb dX8_open_6 rfl (lv_at hl 1 rfl) ?_
  obtain ⟨r1, hc2, hf⟩ := g_b1 hf
  refine g_rV (As := [.int a1]) (rest := []) ⟨hx, hb, hml, hown, hts⟩ (c_X8_noJar l dC dI cI cZ cG o o_text o_kind o_size o_readJar o_page o_trial o_book o_kept o_isKept o_tastedFrom o_tastedTo o_order o_spots o_gains o_value  (0 : Int32) v_textSize v_place v_jars v_readPlaces v_readJars v_acts v_tasted v_seed v_some v_rowMany v_rowWay v_stuffWhich v_stuffNear v_keptMany v_keptFirst v_restMany v_restFirst a1 hc2) (cwV 1 hts gX8_open_X8_noJar rfl rfl rfl (by decide +kernel) ⟨Nat.le_of_ble_eq_true rfl, Nat.le_of_ble_eq_true rfl⟩) hK hN (hP.sub [0] rfl) (va_recv hK hP (ci := 8) (q0 := 0) rfl rfl) rfl hl.1 rfl (Nat.le_of_ble_eq_true rfl) dX8_open_7 ⟨Nat.zero_le _, Nat.zero_le _⟩ ?_
  refine lv_if_eq (tgt := 15) hx hb dX8_open_10 (by decide) (fun c3 => ?_) (fun c3 => ?_)
  · have hf := g_pos c3 hf
    refine lv_aload_n hx hb dX8_open_15 rfl (lv_at hl 0 rfl) ?_
    refine va_get (D := (dC, dI)) (ci := 8) (v := .ref o_page) (C := RX8) (T := TX8) (N := 33) hx hb hts hiX8 hown hK hP 0 rfl rfl 10 (by decide) (hts (.fieldLink RX8 22 "GreenJarsModel" "page" "[I") (by decide +kernel)) (fun _ h9 => h9) rfl dX8_open_16 ?_
    refine lv_iload_n hx hb dX8_open_19 rfl (lv_at hl 1 rfl) ?_
    obtain ⟨r4, hc5, hf⟩ := g_b1 hf
    refine g_rS (As := [.ref o_page, .int a1]) (rest := []) ⟨hx, hb, hml, hown, hts⟩ (c_X8_isWhole l dC dI cI cZ cG o_page  f_page a1 hc5) (va_cwS 2 hts gX8_open_X8_isWhole rfl rfl rfl (by decide +kernel) ⟨Nat.le_of_ble_eq_true rfl, Nat.le_of_ble_eq_true rfl⟩) hK hN (hP.sub [1] rfl) rfl hl.1 rfl (Nat.le_of_ble_eq_true rfl) dX8_open_20 ⟨Nat.zero_le _, Nat.zero_le _⟩ ?_
    refine lv_if_ne (tgt := 29) hx hb dX8_open_23 (by decide) (fun c6 => ?_) (fun c6 => ?_)
    · have hf := g_neg c6 hf
      refine lv_aload_n hx hb dX8_open_29 rfl (lv_at hl 0 rfl) ?_
      obtain ⟨y7, y8, hc9, hf⟩ := g_b2 hf
      refine g_wVv (As := []) (rest := []) (wr := []) (wn := (w_X8_open cI cZ cG o o_text o_kind o_size o_readJar o_page o_trial o_book o_kept o_isKept o_tastedFrom o_tastedTo o_order o_spots o_gains o_value (0 : Int32) v_textSize v_place v_jars v_readPlaces v_readJars y7 v_tasted v_seed v_some v_rowMany v_rowWay v_stuffWhich v_stuffNear v_keptMany v_keptFirst v_restMany v_restFirst f_page y8)) ⟨hx, hb, hml, hown, hts⟩ (c_X8_note l dC dI cI cZ cG o o_text o_kind o_size o_readJar o_page o_trial o_book o_kept o_isKept o_tastedFrom o_tastedTo o_order o_spots o_gains o_value H.size  (0 : Int32) v_textSize v_place v_jars v_readPlaces v_readJars v_acts v_tasted v_seed v_some v_rowMany v_rowWay v_stuffWhich v_stuffNear v_keptMany v_keptFirst v_restMany v_restFirst f_page f_book hc9) (cwV 0 hts gX8_open_X8_note rfl rfl rfl (by decide +kernel) ⟨Nat.le_of_ble_eq_true rfl, Nat.le_of_ble_eq_true rfl⟩) hK hN hP hD hS hA [0, 1, 2] [] [0, 1, 2] rfl rfl (by decide) rfl (by decide) (by decide) rfl (by decide) (va_recv hK hP (ci := 8) (q0 := 0) rfl rfl) rfl hl.1 rfl (Nat.le_of_ble_eq_true rfl) dX8_open_30 ⟨Nat.zero_le _, Nat.zero_le _⟩ (fun H locs hP hD hS => ?_)
      refine lv_aload_n hx hb dX8_open_33 rfl (lv_at hl 0 rfl) ?_
      refine va_get (D := (dC, dI)) (ci := 8) (v := .ref o_page) (C := RX8) (T := TX8) (N := 33) hx hb hts hiX8 hown hK hP 0 rfl rfl 10 (by decide) (hts (.fieldLink RX8 22 "GreenJarsModel" "page" "[I") (by decide +kernel)) (fun _ h9 => h9) rfl dX8_open_34 ?_
      refine lv_bipush (v := (30 : Int32)) hx hb dX8_open_37 (by decide +kernel) ?_
      refine lv_iload_n hx hb dX8_open_39 rfl (lv_at hl 1 rfl) ?_
      refine lv_iadd hx hb dX8_open_40 ?_
      refine lv_iconst (v := (2 : Int32)) hx hb dX8_open_41 (by decide) ?_
      obtain ⟨h10, hf⟩ := g_chk hf
      refine va_iast hx hb hK hP hD hS 1 0 rfl rfl (gIn_vp h10) dX8_open_42 (fun H locs hP hD hS => ?_)
      have hP : va_P (dC, dI) vwCl (w_X8_open cI cZ cG o o_text o_kind o_size o_readJar o_page o_trial o_book o_kept o_isKept o_tastedFrom o_tastedTo o_order o_spots o_gains o_value (0 : Int32) v_textSize v_place v_jars v_readPlaces v_readJars y7 v_tasted v_seed v_some v_rowMany v_rowWay v_stuffWhich v_stuffNear v_keptMany v_keptFirst v_restMany v_restFirst (upd f_page ((30 : Int32) + a1).toNatClampNeg (2 : Int32)) y8) H := hP
      have hD : va_D A (w_X8_open cI cZ cG o o_text o_kind o_size o_readJar o_page o_trial o_book o_kept o_isKept o_tastedFrom o_tastedTo o_order o_spots o_gains o_value (0 : Int32) v_textSize v_place v_jars v_readPlaces v_readJars y7 v_tasted v_seed v_some v_rowMany v_rowWay v_stuffWhich v_stuffNear v_keptMany v_keptFirst v_restMany v_restFirst (upd f_page ((30 : Int32) + a1).toNatClampNeg (2 : Int32)) y8) := hD
      refine lv_aload_n hx hb dX8_open_43 rfl (lv_at hl 0 rfl) ?_
      refine va_get (D := (dC, dI)) (ci := 8) (v := .ref o_page) (C := RX8) (T := TX8) (N := 33) hx hb hts hiX8 hown hK hP 0 rfl rfl 10 (by decide) (hts (.fieldLink RX8 22 "GreenJarsModel" "page" "[I") (by decide +kernel)) (fun _ h9 => h9) rfl dX8_open_44 ?_
      refine lv_bipush (v := (6 : Int32)) hx hb dX8_open_47 (by decide +kernel) ?_
      refine lv_iload_n hx hb dX8_open_49 rfl (lv_at hl 1 rfl) ?_
      refine lv_iadd hx hb dX8_open_50 ?_
      obtain ⟨h11, hf⟩ := g_chk hf
      refine va_iald hx hb hK hP 1 0 rfl rfl (gIn_vp h11) dX8_open_51 ?_
      rw [hQ]
      cases hf
      exact W.iret hx hb hr (fun t ht hW => ⟨⟨_, (), rfl, rfl, by rw [ht]; exact hP, va_K.moved hW.alike hK, hD⟩, hS.F ht⟩) hS.2.2 dX8_open_52
    · have hf := g_pos c6 hf
      refine lv_bipush (v := (-3 : Int32)) hx hb dX8_open_26 (by decide +kernel) ?_
      rw [hQ]
      cases hf
      exact W.iret hx hb hr (fun t ht hW => ⟨⟨_, (), rfl, rfl, by rw [ht]; exact hP, va_K.moved hW.alike hK, hD⟩, hS.F ht⟩) hS.2.2 dX8_open_28
  · have hf := g_neg c3 hf
    refine lv_iconst (v := (-1 : Int32)) hx hb dX8_open_13 (by decide) ?_
    rw [hQ]
    cases hf
    exact W.iret hx hb hr (fun t ht hW => ⟨⟨_, (), rfl, rfl, by rw [ht]; exact hP, va_K.moved hW.alike hK, hD⟩, hS.F ht⟩) hS.2.2 dX8_open_14
abbrev rm_X8_undo : Room := { frames := 0, cells := 0, slots := 0, locals := 0 }
abbrev w_X8_undo (cI cZ cG : ClassId) (o : Nat) (o_text : Nat) (o_kind : Nat) (o_size : Nat) (o_readJar : Nat) (o_page : Nat) (o_trial : Nat) (o_book : Nat) (o_kept : Nat) (o_isKept : Nat) (o_tastedFrom : Nat) (o_tastedTo : Nat) (o_order : Nat) (o_spots : Nat) (o_gains : Nat) (o_value : Nat) (v_thrown : Int32) (v_textSize : Int32) (v_place : Int32) (v_jars : Int32) (v_readPlaces : Int32) (v_readJars : Int32) (v_acts : Int32) (v_tasted : Int32) (v_seed : Int64) (v_some : Int32) (v_rowMany : Int32) (v_rowWay : Int32) (v_stuffWhich : Int32) (v_stuffNear : Int32) (v_keptMany : Int32) (v_keptFirst : Int32) (v_restMany : Int32) (v_restFirst : Int32) (f_page : Nat → Int32) (f_book : Nat → Int32) : va_W := [(o, .inr (8, [.int v_thrown, .ref o_text, .int v_textSize, .int v_place, .int v_jars, .ref o_kind, .ref o_size, .int v_readPlaces, .int v_readJars, .ref o_readJar, .ref o_page, .ref o_trial, .ref o_book, .int v_acts, .ref o_kept, .ref o_isKept, .int v_tasted, .ref o_tastedFrom, .ref o_tastedTo, .long v_seed, .int v_some, .ref o_order, .ref o_spots, .int v_rowMany, .int v_rowWay, .int v_stuffWhich, .int v_stuffNear, .int v_keptMany, .int v_keptFirst, .int v_restMany, .int v_restFirst, .ref o_gains, .ref o_value])), (o_page, .inl (cI, 37, .inl f_page)), (o_book, .inl (cI, 518, .inl f_book))]
set_option maxHeartbeats 4000000 in
set_option maxRecDepth 100000 in
theorem c_X8_undo (l : Launch) (dC : Nat → ClassId) (dI : Nat → Nat → Nat) (cI cZ cG : ClassId) {N : Nat} (o : Nat) (o_text : Nat) (o_kind : Nat) (o_size : Nat) (o_readJar : Nat) (o_page : Nat) (o_trial : Nat) (o_book : Nat) (o_kept : Nat) (o_isKept : Nat) (o_tastedFrom : Nat) (o_tastedTo : Nat) (o_order : Nat) (o_spots : Nat) (o_gains : Nat) (o_value : Nat) (sz : Nat) (v_thrown : Int32) (v_textSize : Int32) (v_place : Int32) (v_jars : Int32) (v_readPlaces : Int32) (v_readJars : Int32) (v_acts : Int32) (v_tasted : Int32) (v_seed : Int64) (v_some : Int32) (v_rowMany : Int32) (v_rowWay : Int32) (v_stuffWhich : Int32) (v_stuffNear : Int32) (v_keptMany : Int32) (v_keptFirst : Int32) (v_restMany : Int32) (v_restFirst : Int32) (f_page : Nat → Int32) (f_book : Nat → Int32) {r0 : Int32} {n_thrown : Int32} {n_acts : Int32} {n_page : Nat → Int32} (hf : x8_undo N v_thrown v_acts f_page f_book = some (r0, n_thrown, n_acts, n_page)) : Met l yX8_undo wsX8_undo rm_X8_undo (va_Pc [.ref o] (gW (dC, dI) vwCl (gT cI cZ cG) (w_X8_undo cI cZ cG o o_text o_kind o_size o_readJar o_page o_trial o_book o_kept o_isKept o_tastedFrom o_tastedTo o_order o_spots o_gains o_value v_thrown v_textSize v_place v_jars v_readPlaces v_readJars v_acts v_tasted v_seed v_some v_rowMany v_rowWay v_stuffWhich v_stuffNear v_keptMany v_keptFirst v_restMany v_restFirst f_page f_book) sz)) (va_Qi (fun r _ => r = r0) (gE (dC, dI) vwCl (gT cI cZ cG) (w_X8_undo cI cZ cG o o_text o_kind o_size o_readJar o_page o_trial o_book o_kept o_isKept o_tastedFrom o_tastedTo o_order o_spots o_gains o_value n_thrown v_textSize v_place v_jars v_readPlaces v_readJars n_acts v_tasted v_seed v_some v_rowMany v_rowWay v_stuffWhich v_stuffNear v_keptMany v_keptFirst v_restMany v_restFirst n_page f_book) (va_A (w_X8_undo cI cZ cG o o_text o_kind o_size o_readJar o_page o_trial o_book o_kept o_isKept o_tastedFrom o_tastedTo o_order o_spots o_gains o_value v_thrown v_textSize v_place v_jars v_readPlaces v_readJars v_acts v_tasted v_seed v_some v_rowMany v_rowWay v_stuffWhich v_stuffNear v_keptMany v_keptFirst v_restMany v_restFirst f_page f_book) sz)) (va_A (w_X8_undo cI cZ cG o o_text o_kind o_size o_readJar o_page o_trial o_book o_kept o_isKept o_tastedFrom o_tastedTo o_order o_spots o_gains o_value v_thrown v_textSize v_place v_jars v_readPlaces v_readJars v_acts v_tasted v_seed v_some v_rowMany v_rowWay v_stuffWhich v_stuffNear v_keptMany v_keptFirst v_restMany v_restFirst f_page f_book) sz)) 0 0 (va_A (w_X8_undo cI cZ cG o o_text o_kind o_size o_readJar o_page o_trial o_book o_kept o_isKept o_tastedFrom o_tastedTo o_order o_spots o_gains o_value v_thrown v_textSize v_place v_jars v_readPlaces v_readJars v_acts v_tasted v_seed v_some v_rowMany v_rowWay v_stuffWhich v_stuffNear v_keptMany v_keptFirst v_restMany v_restFirst f_page f_book) sz) := by
  refine Met.ofW (cc := cX8_undo) (maxL := 2) (ret := (some .int)) (by decide) rfl ?_
  intro p e s m args below meth c s₁ B hml hv
  obtain ⟨rfl, hv⟩ := hv
  obtain ⟨hsz, hP, hK, hN, hD0⟩ := hv
  have hx := B.exec
  have hb := B.bytes
  have hr := B.returns
  have hts := atoms_spec (ws := wsX8_undo) B.pre
  have hown : s.vm.findClass RX8 = some m.cls := findClass_of_methodNamed B.named
  have hlocks := B.notSynchronized
  have hiX8 : ∀ w ∈ u_ws RX8 TX8 33, w ∈ wsX8_undo := fun w h => List.mem_cons_of_mem _ (List.mem_append_right _ h)
  subst hsz
  have hD := hD0.self (sz := s.heap.size)
  generalize hAe : va_A (w_X8_undo cI cZ cG o o_text o_kind o_size o_readJar o_page o_trial o_book o_kept o_isKept o_tastedFrom o_tastedTo o_order o_spots o_gains o_value v_thrown v_textSize v_place v_jars v_readPlaces v_readJars v_acts v_tasted v_seed v_some v_rowMany v_rowWay v_stuffWhich v_stuffNear v_keptMany v_keptFirst v_restMany v_restFirst f_page f_book) s.heap.size = A at hD ⊢
  have hA : ∀ q : Nat, s.heap.size ≤ q → A q := fun q h => by rw [← hAe]; exact Or.inr h
  clear hD0
  have hS : va_S A s.heap s.heap [] := va_S.rf
  have hP : va_P (dC, dI) vwCl (w_X8_undo cI cZ cG o o_text o_kind o_size o_readJar o_page o_trial o_book o_kept o_isKept o_tastedFrom o_tastedTo o_order o_spots o_gains o_value v_thrown v_textSize v_place v_jars v_readPlaces v_readJars v_acts v_tasted v_seed v_some v_rowMany v_rowWay v_stuffWhich v_stuffNear v_keptMany v_keptFirst v_restMany v_restFirst f_page f_book) s.heap := hP
  obtain ⟨Q, hQ⟩ : ∃ Q : State → Prop, Q = MQ below (va_Qi (fun r _ => r = r0) (gE (dC, dI) vwCl (gT cI cZ cG) (w_X8_undo cI cZ cG o o_text o_kind o_size o_readJar o_page o_trial o_book o_kept o_isKept o_tastedFrom o_tastedTo o_order o_spots o_gains o_value n_thrown v_textSize v_place v_jars v_readPlaces v_readJars n_acts v_tasted v_seed v_some v_rowMany v_rowWay v_stuffWhich v_stuffNear v_keptMany v_keptFirst v_restMany v_restFirst n_page f_book) A) A) (([Value.ref o] : List Value).toArray) s 0 0 A := ⟨_, rfl⟩
  have hl := lv_entry ([.ref o]) (n := 2) (Nat.le_of_ble_eq_true rfl)
  rw [← hQ, lg_entry_eq]
  generalize (lg_sl ([.ref o]) ++ List.replicate (2 - (lg_sl ([.ref o])).length) Slot.unset).toArray = ls at hl ⊢
  have hl : lv_has ls 2 [(0, .ref o)] := hl
  generalize hH : s.heap = H at hP hS ⊢
  have hS : va_S A s.heap H [] := by rw [hH]; exact hS
  generalize hlc : ([] : List Loc) = locs at hS ⊢
  show W p l e rm_X8_undo s m (([Value.ref o] : List Value).toArray) below meth c H locs 0 0 Q (F0 m 0 ls [])
  have L27 : ∀ (n27 : Nat), ∀ (x1 : Int32) (y_thrown : Int32) (y_acts : Int32) (y_page : Nat → Int32) (H : Heap) (locs : List Loc) (ls : Array Slot), x8_undo_b27 N f_book n27 x1 y_thrown y_acts y_page = some (r0, n_thrown, n_acts, n_page) → lv_has ls 2 [(0, .ref o), (1, .int x1)] → va_P (dC, dI) vwCl (w_X8_undo cI cZ cG o o_text o_kind o_size o_readJar o_page o_trial o_book o_kept o_isKept o_tastedFrom o_tastedTo o_order o_spots o_gains o_value y_thrown v_textSize v_place v_jars v_readPlaces v_readJars y_acts v_tasted v_seed v_some v_rowMany v_rowWay v_stuffWhich v_stuffNear v_keptMany v_keptFirst v_restMany v_restFirst y_page f_book) H → va_D A (w_X8_undo cI cZ cG o o_text o_kind o_size o_readJar o_page o_trial o_book o_kept o_isKept o_tastedFrom o_tastedTo o_order o_spots o_gains o_value y_thrown v_textSize v_place v_jars v_readPlaces v_readJars y_acts v_tasted v_seed v_some v_rowMany v_rowWay v_stuffWhich v_stuffNear v_keptMany v_keptFirst v_restMany v_restFirst y_page f_book) → va_S A s.heap H locs → W p l e rm_X8_undo s m (([Value.ref o] : List Value).toArray) below meth c H locs 0 0 Q (F0 m 27 ls []) := by
    intro n27
    induction n27 with
    | zero =>
      intro x1 y_thrown y_acts y_page H locs ls hf hl hP hD hS
      exact g_no hf
    | succ n27 ih27 =>
      intro x1 y_thrown y_acts y_page H locs ls hf hl hP hD hS
      unfold x8_undo_b27 at hf
      refine lv_iload_n hx hb dX8_undo_27 rfl (lv_at hl 1 rfl) ?_
      refine lv_bipush (v := (37 : Int32)) hx hb dX8_undo_28 (by decide +kernel) ?_
      refine lv_icmp_ge (tgt := 59) hx hb dX8_undo_30 (by decide) (fun c1 => ?_) (fun c1 => ?_)
      · have hf := g_pos c1 hf
        refine lv_aload_n hx hb dX8_undo_59 rfl (lv_at hl 0 rfl) ?_
        refine va_get (D := (dC, dI)) (ci := 8) (v := .int y_acts) (C := RX8) (T := TX8) (N := 33) hx hb hts hiX8 hown hK hP 0 rfl rfl 13 (by decide) (hts (.fieldLink RX8 99 "GreenJarsModel" "acts" "I") (by decide +kernel)) (fun _ h9 => h9) rfl dX8_undo_60 ?_
        rw [hQ]
        cases hf
        exact W.iret hx hb hr (fun t ht hW => ⟨⟨_, (), rfl, rfl, by rw [ht]; exact hP, va_K.moved hW.alike hK, hD⟩, hS.F ht⟩) hS.2.2 dX8_undo_63
      · have hf := g_neg c1 hf
        refine lv_aload_n hx hb dX8_undo_33 rfl (lv_at hl 0 rfl) ?_
        refine va_get (D := (dC, dI)) (ci := 8) (v := .ref o_page) (C := RX8) (T := TX8) (N := 33) hx hb hts hiX8 hown hK hP 0 rfl rfl 10 (by decide) (hts (.fieldLink RX8 22 "GreenJarsModel" "page" "[I") (by decide +kernel)) (fun _ h9 => h9) rfl dX8_undo_34 ?_
        refine lv_iload_n hx hb dX8_undo_37 rfl (lv_at hl 1 rfl) ?_
        refine lv_aload_n hx hb dX8_undo_38 rfl (lv_at hl 0 rfl) ?_
        refine va_get (D := (dC, dI)) (ci := 8) (v := .ref o_book) (C := RX8) (T := TX8) (N := 33) hx hb hts hiX8 hown hK hP 0 rfl rfl 12 (by decide) (hts (.fieldLink RX8 28 "GreenJarsModel" "book" "[I") (by decide +kernel)) (fun _ h9 => h9) rfl dX8_undo_39 ?_
        refine lv_bipush (v := (37 : Int32)) hx hb dX8_undo_42 (by decide +kernel) ?_
        refine lv_aload_n hx hb dX8_undo_44 rfl (lv_at hl 0 rfl) ?_
        refine va_get (D := (dC, dI)) (ci := 8) (v := .int y_acts) (C := RX8) (T := TX8) (N := 33) hx hb hts hiX8 hown hK hP 0 rfl rfl 13 (by decide) (hts (.fieldLink RX8 99 "GreenJarsModel" "acts" "I") (by decide +kernel)) (fun _ h9 => h9) rfl dX8_undo_45 ?_
        refine lv_imul hx hb dX8_undo_48 ?_
        refine lv_iload_n hx hb dX8_undo_49 rfl (lv_at hl 1 rfl) ?_
        refine lv_iadd hx hb dX8_undo_50 ?_
        obtain ⟨h2, hf⟩ := g_chk hf
        refine va_iald hx hb hK hP 2 0 rfl rfl (gIn_vp h2) dX8_undo_51 ?_
        obtain ⟨h3, hf⟩ := g_chk hf
        refine va_iast hx hb hK hP hD hS 1 0 rfl rfl (gIn_vp h3) dX8_undo_52 (fun H locs hP hD hS => ?_)
        have hP : va_P (dC, dI) vwCl (w_X8_undo cI cZ cG o o_text o_kind o_size o_readJar o_page o_trial o_book o_kept o_isKept o_tastedFrom o_tastedTo o_order o_spots o_gains o_value y_thrown v_textSize v_place v_jars v_readPlaces v_readJars y_acts v_tasted v_seed v_some v_rowMany v_rowWay v_stuffWhich v_stuffNear v_keptMany v_keptFirst v_restMany v_restFirst (upd y_page x1.toNatClampNeg (f_book (((37 : Int32) * y_acts) + x1).toNatClampNeg)) f_book) H := hP
        have hD : va_D A (w_X8_undo cI cZ cG o o_text o_kind o_size o_readJar o_page o_trial o_book o_kept o_isKept o_tastedFrom o_tastedTo o_order o_spots o_gains o_value y_thrown v_textSize v_place v_jars v_readPlaces v_readJars y_acts v_tasted v_seed v_some v_rowMany v_rowWay v_stuffWhich v_stuffNear v_keptMany v_keptFirst v_restMany v_restFirst (upd y_page x1.toNatClampNeg (f_book (((37 : Int32) * y_acts) + x1).toNatClampNeg)) f_book) := hD
        refine lv_iinc (v := (x1 + (1 : Int32))) (lv' := [(1, .int (x1 + (1 : Int32))), (0, .ref o)]) hx hb dX8_undo_53 hl (k := 1) rfl rfl (by decide) rfl (fun ls hl => ?_)
        refine lv_goto (tgt := 27) hx hb dX8_undo_56 (by decide) ?_
        exact ih27 (x1 + (1 : Int32)) y_thrown y_acts (upd y_page x1.toNatClampNeg (f_book (((37 : Int32) * y_acts) + x1).toNatClampNeg)) H locs ls hf (lv_sub hl [1, 0] rfl) hP hD hS
  unfold x8_undo at hf
  refine lv_aload_n hx hb dX8_undo_0 rfl (lv_at hl 0 rfl) ?_
  refine lv_iconst (v := (0 : Int32)) hx hb dX8_undo_1 (by decide) ?_
  refine va_put (D := (dC, dI)) (ci := 8) (v := .int (0 : Int32)) (ty := .int) (C := RX8) (T := TX8) (N := 33) hx hb hts hiX8 tyX8 tyX8_ok nmX8 hown hK hP hD hS 0 rfl rfl 0 (by decide) (hts (.fieldLink RX8 56 "GreenJarsModel" "thrown" "I") (by decide +kernel)) (fun _ h9 => h9) rfl (by decide +kernel) rfl rfl (Nat.le_of_ble_eq_true rfl) dX8_undo_2 (fun H locs hP hD hS => ?_)
  have hP : va_P (dC, dI) vwCl (w_X8_undo cI cZ cG o o_text o_kind o_size o_readJar o_page o_trial o_book o_kept o_isKept o_tastedFrom o_tastedTo o_order o_spots o_gains o_value (0 : Int32) v_textSize v_place v_jars v_readPlaces v_readJars v_acts v_tasted v_seed v_some v_rowMany v_rowWay v_stuffWhich v_stuffNear v_keptMany v_keptFirst v_restMany v_restFirst f_page f_book) H := hP
  have hD : va_D A (w_X8_undo cI cZ cG o o_text o_kind o_size o_readJar o_page o_trial o_book o_kept o_isKept o_tastedFrom o_tastedTo o_order o_spots o_gains o_value (0 : Int32) v_textSize v_place v_jars v_readPlaces v_readJars v_acts v_tasted v_seed v_some v_rowMany v_rowWay v_stuffWhich v_stuffNear v_keptMany v_keptFirst v_restMany v_restFirst f_page f_book) := hD
  refine lv_aload_n hx hb dX8_undo_5 rfl (lv_at hl 0 rfl) ?_
  refine va_get (D := (dC, dI)) (ci := 8) (v := .int v_acts) (C := RX8) (T := TX8) (N := 33) hx hb hts hiX8 hown hK hP 0 rfl rfl 13 (by decide) (hts (.fieldLink RX8 99 "GreenJarsModel" "acts" "I") (by decide +kernel)) (fun _ h9 => h9) rfl dX8_undo_6 ?_
  refine lv_if_ne (tgt := 15) hx hb dX8_undo_9 (by decide) (fun c4 => ?_) (fun c4 => ?_)
  · have hf := g_neg c4 hf
    refine lv_aload_n hx hb dX8_undo_15 rfl (lv_at hl 0 rfl) ?_
    refine lv_dup hx hb dX8_undo_16 rfl ?_
    refine va_get (D := (dC, dI)) (ci := 8) (v := .int v_acts) (C := RX8) (T := TX8) (N := 33) hx hb hts hiX8 hown hK hP 0 rfl rfl 13 (by decide) (hts (.fieldLink RX8 99 "GreenJarsModel" "acts" "I") (by decide +kernel)) (fun _ h9 => h9) rfl dX8_undo_17 ?_
    refine lv_iconst (v := (1 : Int32)) hx hb dX8_undo_20 (by decide) ?_
    refine lv_isub hx hb dX8_undo_21 ?_
    refine va_put (D := (dC, dI)) (ci := 8) (v := .int (v_acts - (1 : Int32))) (ty := .int) (C := RX8) (T := TX8) (N := 33) hx hb hts hiX8 tyX8 tyX8_ok nmX8 hown hK hP hD hS 0 rfl rfl 13 (by decide) (hts (.fieldLink RX8 99 "GreenJarsModel" "acts" "I") (by decide +kernel)) (fun _ h9 => h9) rfl (by decide +kernel) rfl rfl (Nat.le_of_ble_eq_true rfl) dX8_undo_22 (fun H locs hP hD hS => ?_)
    have hP : va_P (dC, dI) vwCl (w_X8_undo cI cZ cG o o_text o_kind o_size o_readJar o_page o_trial o_book o_kept o_isKept o_tastedFrom o_tastedTo o_order o_spots o_gains o_value (0 : Int32) v_textSize v_place v_jars v_readPlaces v_readJars (v_acts - (1 : Int32)) v_tasted v_seed v_some v_rowMany v_rowWay v_stuffWhich v_stuffNear v_keptMany v_keptFirst v_restMany v_restFirst f_page f_book) H := hP
    have hD : va_D A (w_X8_undo cI cZ cG o o_text o_kind o_size o_readJar o_page o_trial o_book o_kept o_isKept o_tastedFrom o_tastedTo o_order o_spots o_gains o_value (0 : Int32) v_textSize v_place v_jars v_readPlaces v_readJars (v_acts - (1 : Int32)) v_tasted v_seed v_some v_rowMany v_rowWay v_stuffWhich v_stuffNear v_keptMany v_keptFirst v_restMany v_restFirst f_page f_book) := hD
    refine lv_iconst (v := (0 : Int32)) hx hb dX8_undo_25 (by decide) ?_
    refine lv_istore_n (lv' := [(1, .int (0 : Int32)), (0, .ref o)]) hx hb dX8_undo_26 rfl hl (by decide) rfl (fun ls hl => ?_)
    exact L27 N (0 : Int32) (0 : Int32) (v_acts - (1 : Int32)) f_page H locs ls hf (lv_sub hl [1, 0] rfl) hP hD hS
  · have hf := g_pos c4 hf
    refine lv_bipush (v := (-3 : Int32)) hx hb dX8_undo_12 (by decide +kernel) ?_
    rw [hQ]
    cases hf
    exact W.iret hx hb hr (fun t ht hW => ⟨⟨_, (), rfl, rfl, by rw [ht]; exact hP, va_K.moved hW.alike hK, hD⟩, hS.F ht⟩) hS.2.2 dX8_undo_14
abbrev rm_X8_begin : Room := { frames := 0, cells := 0, slots := 0, locals := 0 }
abbrev w_X8_begin (cI cZ cG : ClassId) (o : Nat) (o_text : Nat) (o_kind : Nat) (o_size : Nat) (o_readJar : Nat) (o_page : Nat) (o_trial : Nat) (o_book : Nat) (o_kept : Nat) (o_isKept : Nat) (o_tastedFrom : Nat) (o_tastedTo : Nat) (o_order : Nat) (o_spots : Nat) (o_gains : Nat) (o_value : Nat) (v_thrown : Int32) (v_textSize : Int32) (v_place : Int32) (v_jars : Int32) (v_readPlaces : Int32) (v_readJars : Int32) (v_acts : Int32) (v_tasted : Int32) (v_seed : Int64) (v_some : Int32) (v_rowMany : Int32) (v_rowWay : Int32) (v_stuffWhich : Int32) (v_stuffNear : Int32) (v_keptMany : Int32) (v_keptFirst : Int32) (v_restMany : Int32) (v_restFirst : Int32) (f_page : Nat → Int32) (f_trial : Nat → Int32) : va_W := [(o, .inr (8, [.int v_thrown, .ref o_text, .int v_textSize, .int v_place, .int v_jars, .ref o_kind, .ref o_size, .int v_readPlaces, .int v_readJars, .ref o_readJar, .ref o_page, .ref o_trial, .ref o_book, .int v_acts, .ref o_kept, .ref o_isKept, .int v_tasted, .ref o_tastedFrom, .ref o_tastedTo, .long v_seed, .int v_some, .ref o_order, .ref o_spots, .int v_rowMany, .int v_rowWay, .int v_stuffWhich, .int v_stuffNear, .int v_keptMany, .int v_keptFirst, .int v_restMany, .int v_restFirst, .ref o_gains, .ref o_value])), (o_page, .inl (cI, 37, .inl f_page)), (o_trial, .inl (cI, 37, .inl f_trial))]
set_option maxHeartbeats 4000000 in
set_option maxRecDepth 100000 in
theorem c_X8_begin (l : Launch) (dC : Nat → ClassId) (dI : Nat → Nat → Nat) (cI cZ cG : ClassId) {N : Nat} (o : Nat) (o_text : Nat) (o_kind : Nat) (o_size : Nat) (o_readJar : Nat) (o_page : Nat) (o_trial : Nat) (o_book : Nat) (o_kept : Nat) (o_isKept : Nat) (o_tastedFrom : Nat) (o_tastedTo : Nat) (o_order : Nat) (o_spots : Nat) (o_gains : Nat) (o_value : Nat) (sz : Nat) (v_thrown : Int32) (v_textSize : Int32) (v_place : Int32) (v_jars : Int32) (v_readPlaces : Int32) (v_readJars : Int32) (v_acts : Int32) (v_tasted : Int32) (v_seed : Int64) (v_some : Int32) (v_rowMany : Int32) (v_rowWay : Int32) (v_stuffWhich : Int32) (v_stuffNear : Int32) (v_keptMany : Int32) (v_keptFirst : Int32) (v_restMany : Int32) (v_restFirst : Int32) (f_page : Nat → Int32) (f_trial : Nat → Int32) {n_some : Int32} {n_trial : Nat → Int32} (hf : x8_begin N v_some f_page f_trial = some (n_some, n_trial)) : Met l yX8_begin wsX8_begin rm_X8_begin (va_Pc [.ref o] (gW (dC, dI) vwCl (gT cI cZ cG) (w_X8_begin cI cZ cG o o_text o_kind o_size o_readJar o_page o_trial o_book o_kept o_isKept o_tastedFrom o_tastedTo o_order o_spots o_gains o_value v_thrown v_textSize v_place v_jars v_readPlaces v_readJars v_acts v_tasted v_seed v_some v_rowMany v_rowWay v_stuffWhich v_stuffNear v_keptMany v_keptFirst v_restMany v_restFirst f_page f_trial) sz)) (va_Qv (fun _ => True) (gE (dC, dI) vwCl (gT cI cZ cG) (w_X8_begin cI cZ cG o o_text o_kind o_size o_readJar o_page o_trial o_book o_kept o_isKept o_tastedFrom o_tastedTo o_order o_spots o_gains o_value v_thrown v_textSize v_place v_jars v_readPlaces v_readJars v_acts v_tasted v_seed n_some v_rowMany v_rowWay v_stuffWhich v_stuffNear v_keptMany v_keptFirst v_restMany v_restFirst f_page n_trial) (va_A (w_X8_begin cI cZ cG o o_text o_kind o_size o_readJar o_page o_trial o_book o_kept o_isKept o_tastedFrom o_tastedTo o_order o_spots o_gains o_value v_thrown v_textSize v_place v_jars v_readPlaces v_readJars v_acts v_tasted v_seed v_some v_rowMany v_rowWay v_stuffWhich v_stuffNear v_keptMany v_keptFirst v_restMany v_restFirst f_page f_trial) sz)) (va_A (w_X8_begin cI cZ cG o o_text o_kind o_size o_readJar o_page o_trial o_book o_kept o_isKept o_tastedFrom o_tastedTo o_order o_spots o_gains o_value v_thrown v_textSize v_place v_jars v_readPlaces v_readJars v_acts v_tasted v_seed v_some v_rowMany v_rowWay v_stuffWhich v_stuffNear v_keptMany v_keptFirst v_restMany v_restFirst f_page f_trial) sz)) 0 0 (va_A (w_X8_begin cI cZ cG o o_text o_kind o_size o_readJar o_page o_trial o_book o_kept o_isKept o_tastedFrom o_tastedTo o_order o_spots o_gains o_value v_thrown v_textSize v_place v_jars v_readPlaces v_readJars v_acts v_tasted v_seed v_some v_rowMany v_rowWay v_stuffWhich v_stuffNear v_keptMany v_keptFirst v_restMany v_restFirst f_page f_trial) sz) := by
  refine Met.ofW (cc := cX8_begin) (maxL := 2) (ret := none) (by decide) rfl ?_
  intro p e s m args below meth c s₁ B hml hv
  obtain ⟨rfl, hv⟩ := hv
  obtain ⟨hsz, hP, hK, hN, hD0⟩ := hv
  have hx := B.exec
  have hb := B.bytes
  have hr := B.returns
  have hts := atoms_spec (ws := wsX8_begin) B.pre
  have hown : s.vm.findClass RX8 = some m.cls := findClass_of_methodNamed B.named
  have hlocks := B.notSynchronized
  have hiX8 : ∀ w ∈ u_ws RX8 TX8 33, w ∈ wsX8_begin := fun w h => List.mem_cons_of_mem _ (List.mem_append_right _ h)
  subst hsz
  have hD := hD0.self (sz := s.heap.size)
  generalize hAe : va_A (w_X8_begin cI cZ cG o o_text o_kind o_size o_readJar o_page o_trial o_book o_kept o_isKept o_tastedFrom o_tastedTo o_order o_spots o_gains o_value v_thrown v_textSize v_place v_jars v_readPlaces v_readJars v_acts v_tasted v_seed v_some v_rowMany v_rowWay v_stuffWhich v_stuffNear v_keptMany v_keptFirst v_restMany v_restFirst f_page f_trial) s.heap.size = A at hD ⊢
  have hA : ∀ q : Nat, s.heap.size ≤ q → A q := fun q h => by rw [← hAe]; exact Or.inr h
  clear hD0
  have hS : va_S A s.heap s.heap [] := va_S.rf
  have hP : va_P (dC, dI) vwCl (w_X8_begin cI cZ cG o o_text o_kind o_size o_readJar o_page o_trial o_book o_kept o_isKept o_tastedFrom o_tastedTo o_order o_spots o_gains o_value v_thrown v_textSize v_place v_jars v_readPlaces v_readJars v_acts v_tasted v_seed v_some v_rowMany v_rowWay v_stuffWhich v_stuffNear v_keptMany v_keptFirst v_restMany v_restFirst f_page f_trial) s.heap := hP
  obtain ⟨Q, hQ⟩ : ∃ Q : State → Prop, Q = MQ below (va_Qv (fun _ => True) (gE (dC, dI) vwCl (gT cI cZ cG) (w_X8_begin cI cZ cG o o_text o_kind o_size o_readJar o_page o_trial o_book o_kept o_isKept o_tastedFrom o_tastedTo o_order o_spots o_gains o_value v_thrown v_textSize v_place v_jars v_readPlaces v_readJars v_acts v_tasted v_seed n_some v_rowMany v_rowWay v_stuffWhich v_stuffNear v_keptMany v_keptFirst v_restMany v_restFirst f_page n_trial) A) A) (([Value.ref o] : List Value).toArray) s 0 0 A := ⟨_, rfl⟩
  have hl := lv_entry ([.ref o]) (n := 2) (Nat.le_of_ble_eq_true rfl)
  rw [← hQ, lg_entry_eq]
  generalize (lg_sl ([.ref o]) ++ List.replicate (2 - (lg_sl ([.ref o])).length) Slot.unset).toArray = ls at hl ⊢
  have hl : lv_has ls 2 [(0, .ref o)] := hl
  generalize hH : s.heap = H at hP hS ⊢
  have hS : va_S A s.heap H [] := by rw [hH]; exact hS
  generalize hlc : ([] : List Loc) = locs at hS ⊢
  show W p l e rm_X8_begin s m (([Value.ref o] : List Value).toArray) below meth c H locs 0 0 Q (F0 m 0 ls [])
  have L8 : ∀ (n8 : Nat), ∀ (x1 : Int32) (y_some : Int32) (y_trial : Nat → Int32) (H : Heap) (locs : List Loc) (ls : Array Slot), x8_begin_b8 N f_page n8 x1 y_some y_trial = some (n_some, n_trial) → lv_has ls 2 [(0, .ref o), (1, .int x1)] → va_P (dC, dI) vwCl (w_X8_begin cI cZ cG o o_text o_kind o_size o_readJar o_page o_trial o_book o_kept o_isKept o_tastedFrom o_tastedTo o_order o_spots o_gains o_value v_thrown v_textSize v_place v_jars v_readPlaces v_readJars v_acts v_tasted v_seed y_some v_rowMany v_rowWay v_stuffWhich v_stuffNear v_keptMany v_keptFirst v_restMany v_restFirst f_page y_trial) H → va_D A (w_X8_begin cI cZ cG o o_text o_kind o_size o_readJar o_page o_trial o_book o_kept o_isKept o_tastedFrom o_tastedTo o_order o_spots o_gains o_value v_thrown v_textSize v_place v_jars v_readPlaces v_readJars v_acts v_tasted v_seed y_some v_rowMany v_rowWay v_stuffWhich v_stuffNear v_keptMany v_keptFirst v_restMany v_restFirst f_page y_trial) → va_S A s.heap H locs → W p l e rm_X8_begin s m (([Value.ref o] : List Value).toArray) below meth c H locs 0 0 Q (F0 m 8 ls []) := by
    intro n8
    induction n8 with
    | zero =>
      intro x1 y_some y_trial H locs ls hf hl hP hD hS
      exact g_no hf
    | succ n8 ih8 =>
      intro x1 y_some y_trial H locs ls hf hl hP hD hS
      unfold x8_begin_b8 at hf
      refine lv_iload_n hx hb dX8_begin_8 rfl (lv_at hl 1 rfl) ?_
      refine lv_bipush (v := (37 : Int32)) hx hb dX8_begin_9 (by decide +kernel) ?_
      refine lv_icmp_ge (tgt := 32) hx hb dX8_begin_11 (by decide) (fun c1 => ?_) (fun c1 => ?_)
      · have hf := g_pos c1 hf
        rw [hQ]
        cases hf
        exact W.vret hx hb hr (fun t ht hW => ⟨⟨(), rfl, trivial, by rw [ht]; exact hP, va_K.moved hW.alike hK, hD⟩, hS.F ht⟩) hS.2.2 dX8_begin_32
      · have hf := g_neg c1 hf
        refine lv_aload_n hx hb dX8_begin_14 rfl (lv_at hl 0 rfl) ?_
        refine va_get (D := (dC, dI)) (ci := 8) (v := .ref o_trial) (C := RX8) (T := TX8) (N := 33) hx hb hts hiX8 hown hK hP 0 rfl rfl 11 (by decide) (hts (.fieldLink RX8 25 "GreenJarsModel" "trial" "[I") (by decide +kernel)) (fun _ h9 => h9) rfl dX8_begin_15 ?_
        refine lv_iload_n hx hb dX8_begin_18 rfl (lv_at hl 1 rfl) ?_
        refine lv_aload_n hx hb dX8_begin_19 rfl (lv_at hl 0 rfl) ?_
        refine va_get (D := (dC, dI)) (ci := 8) (v := .ref o_page) (C := RX8) (T := TX8) (N := 33) hx hb hts hiX8 hown hK hP 0 rfl rfl 10 (by decide) (hts (.fieldLink RX8 22 "GreenJarsModel" "page" "[I") (by decide +kernel)) (fun _ h9 => h9) rfl dX8_begin_20 ?_
        refine lv_iload_n hx hb dX8_begin_23 rfl (lv_at hl 1 rfl) ?_
        obtain ⟨h2, hf⟩ := g_chk hf
        refine va_iald hx hb hK hP 1 0 rfl rfl (gIn_vp h2) dX8_begin_24 ?_
        obtain ⟨h3, hf⟩ := g_chk hf
        refine va_iast hx hb hK hP hD hS 2 0 rfl rfl (gIn_vp h3) dX8_begin_25 (fun H locs hP hD hS => ?_)
        have hP : va_P (dC, dI) vwCl (w_X8_begin cI cZ cG o o_text o_kind o_size o_readJar o_page o_trial o_book o_kept o_isKept o_tastedFrom o_tastedTo o_order o_spots o_gains o_value v_thrown v_textSize v_place v_jars v_readPlaces v_readJars v_acts v_tasted v_seed y_some v_rowMany v_rowWay v_stuffWhich v_stuffNear v_keptMany v_keptFirst v_restMany v_restFirst f_page (upd y_trial x1.toNatClampNeg (f_page x1.toNatClampNeg))) H := hP
        have hD : va_D A (w_X8_begin cI cZ cG o o_text o_kind o_size o_readJar o_page o_trial o_book o_kept o_isKept o_tastedFrom o_tastedTo o_order o_spots o_gains o_value v_thrown v_textSize v_place v_jars v_readPlaces v_readJars v_acts v_tasted v_seed y_some v_rowMany v_rowWay v_stuffWhich v_stuffNear v_keptMany v_keptFirst v_restMany v_restFirst f_page (upd y_trial x1.toNatClampNeg (f_page x1.toNatClampNeg))) := hD
        refine lv_iinc (v := (x1 + (1 : Int32))) (lv' := [(1, .int (x1 + (1 : Int32))), (0, .ref o)]) hx hb dX8_begin_26 hl (k := 1) rfl rfl (by decide) rfl (fun ls hl => ?_)
        refine lv_goto (tgt := 8) hx hb dX8_begin_29 (by decide) ?_
        exact ih8 (x1 + (1 : Int32)) y_some (upd y_trial x1.toNatClampNeg (f_page x1.toNatClampNeg)) H locs ls hf (lv_sub hl [1, 0] rfl) hP hD hS
  unfold x8_begin at hf
  refine lv_aload_n hx hb dX8_begin_0 rfl (lv_at hl 0 rfl) ?_
  refine lv_bipush (v := (63 : Int32)) hx hb dX8_begin_1 (by decide +kernel) ?_
  refine va_put (D := (dC, dI)) (ci := 8) (v := .int (63 : Int32)) (ty := .int) (C := RX8) (T := TX8) (N := 33) hx hb hts hiX8 tyX8 tyX8_ok nmX8 hown hK hP hD hS 0 rfl rfl 20 (by decide) (hts (.fieldLink RX8 109 "GreenJarsModel" "some" "I") (by decide +kernel)) (fun _ h9 => h9) rfl (by decide +kernel) rfl rfl (Nat.le_of_ble_eq_true rfl) dX8_begin_3 (fun H locs hP hD hS => ?_)
  have hP : va_P (dC, dI) vwCl (w_X8_begin cI cZ cG o o_text o_kind o_size o_readJar o_page o_trial o_book o_kept o_isKept o_tastedFrom o_tastedTo o_order o_spots o_gains o_value v_thrown v_textSize v_place v_jars v_readPlaces v_readJars v_acts v_tasted v_seed (63 : Int32) v_rowMany v_rowWay v_stuffWhich v_stuffNear v_keptMany v_keptFirst v_restMany v_restFirst f_page f_trial) H := hP
  have hD : va_D A (w_X8_begin cI cZ cG o o_text o_kind o_size o_readJar o_page o_trial o_book o_kept o_isKept o_tastedFrom o_tastedTo o_order o_spots o_gains o_value v_thrown v_textSize v_place v_jars v_readPlaces v_readJars v_acts v_tasted v_seed (63 : Int32) v_rowMany v_rowWay v_stuffWhich v_stuffNear v_keptMany v_keptFirst v_restMany v_restFirst f_page f_trial) := hD
  refine lv_iconst (v := (0 : Int32)) hx hb dX8_begin_6 (by decide) ?_
  refine lv_istore_n (lv' := [(1, .int (0 : Int32)), (0, .ref o)]) hx hb dX8_begin_7 rfl hl (by decide) rfl (fun ls hl => ?_)
  exact L8 N (0 : Int32) (63 : Int32) f_trial H locs ls hf (lv_sub hl [1, 0] rfl) hP hD hS
