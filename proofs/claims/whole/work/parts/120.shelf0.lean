abbrev rm_X2_jars : Room := { frames := 0, cells := 0, slots := 0, locals := 0 }
abbrev w_X2_jars (cI cZ cG : ClassId) (o : Nat) (o_cells : Nat) (o_standing : Nat) (v_jars : Int32) (v_weeks : Int32) : va_W := [(o, .inr (2, [.ref o_cells, .ref o_standing, .int v_jars, .int v_weeks]))]
set_option maxHeartbeats 4000000 in
set_option maxRecDepth 100000 in
theorem c_X2_jars (l : Launch) (dC : Nat → ClassId) (dI : Nat → Nat → Nat) (cI cZ cG : ClassId) (o : Nat) (o_cells : Nat) (o_standing : Nat) (v_jars : Int32) (v_weeks : Int32) {r0 : Int32} (hf : x2_jars v_jars = some r0) : Met l yX2_jars wsX2_jars rm_X2_jars (va_Pc [.ref o] (gR (dC, dI) vwCl (gT cI cZ cG) (w_X2_jars cI cZ cG o o_cells o_standing v_jars v_weeks))) (vp_Si (fun r => r = r0)) 0 0 (fun _ => False) := by
  refine Met.ofW (cc := cX2_jars) (maxL := 1) (ret := (some .int)) (by decide) rfl ?_
  intro p e s m args below meth c s₁ B hml hv
  obtain ⟨rfl, hv⟩ := hv
  obtain ⟨hP, hK, hN⟩ := hv
  have hx := B.exec
  have hb := B.bytes
  have hr := B.returns
  have hts := atoms_spec (ws := wsX2_jars) B.pre
  have hown : s.vm.findClass RX2 = some m.cls := findClass_of_methodNamed B.named
  have hlocks := B.notSynchronized
  have hiX2 : ∀ w ∈ u_ws RX2 TX2 4, w ∈ wsX2_jars := fun w h => List.mem_cons_of_mem _ (List.mem_append_right _ h)
  obtain ⟨Q, hQ⟩ : ∃ Q : State → Prop, Q = MQ below (vp_Si (fun r => r = r0)) (([Value.ref o] : List Value).toArray) s 0 0 (fun _ => False) := ⟨_, rfl⟩
  have hl := lv_entry ([.ref o]) (n := 1) (Nat.le_of_ble_eq_true rfl)
  rw [← hQ, lg_entry_eq]
  generalize (lg_sl ([.ref o]) ++ List.replicate (1 - (lg_sl ([.ref o])).length) Slot.unset).toArray = ls at hl ⊢
  have hl : lv_has ls 1 [(0, .ref o)] := hl
  show W p l e rm_X2_jars s m (([Value.ref o] : List Value).toArray) below meth c s.heap [] 0 0 Q (F0 m 0 ls [])
  unfold x2_jars at hf
  refine lv_aload_n hx hb dX2_jars_0 rfl (lv_at hl 0 rfl) ?_
  refine va_get (D := (dC, dI)) (ci := 2) (v := .int v_jars) (C := RX2) (T := TX2) (N := 4) hx hb hts hiX2 hown hK hP 0 rfl rfl 2 (by decide) (hts (.fieldLink RX2 18 "GreenJars$Shelf" "jars" "I") (by decide +kernel)) (fun _ h9 => h9) rfl dX2_jars_1 ?_
  rw [hQ]
  exact W.iret (v := v_jars) hx hb hr (fun t ht hW => ⟨_, rfl, Option.some.inj hf, ht⟩) (fun q h => by cases h) dX2_jars_4
abbrev rm_X2_weeks : Room := { frames := 0, cells := 0, slots := 0, locals := 0 }
abbrev w_X2_weeks (cI cZ cG : ClassId) (o : Nat) (o_cells : Nat) (o_standing : Nat) (v_jars : Int32) (v_weeks : Int32) : va_W := [(o, .inr (2, [.ref o_cells, .ref o_standing, .int v_jars, .int v_weeks]))]
set_option maxHeartbeats 4000000 in
set_option maxRecDepth 100000 in
theorem c_X2_weeks (l : Launch) (dC : Nat → ClassId) (dI : Nat → Nat → Nat) (cI cZ cG : ClassId) (o : Nat) (o_cells : Nat) (o_standing : Nat) (v_jars : Int32) (v_weeks : Int32) {r0 : Int32} (hf : x2_weeks v_weeks = some r0) : Met l yX2_weeks wsX2_weeks rm_X2_weeks (va_Pc [.ref o] (gR (dC, dI) vwCl (gT cI cZ cG) (w_X2_weeks cI cZ cG o o_cells o_standing v_jars v_weeks))) (vp_Si (fun r => r = r0)) 0 0 (fun _ => False) := by
  refine Met.ofW (cc := cX2_weeks) (maxL := 1) (ret := (some .int)) (by decide) rfl ?_
  intro p e s m args below meth c s₁ B hml hv
  obtain ⟨rfl, hv⟩ := hv
  obtain ⟨hP, hK, hN⟩ := hv
  have hx := B.exec
  have hb := B.bytes
  have hr := B.returns
  have hts := atoms_spec (ws := wsX2_weeks) B.pre
  have hown : s.vm.findClass RX2 = some m.cls := findClass_of_methodNamed B.named
  have hlocks := B.notSynchronized
  have hiX2 : ∀ w ∈ u_ws RX2 TX2 4, w ∈ wsX2_weeks := fun w h => List.mem_cons_of_mem _ (List.mem_append_right _ h)
  obtain ⟨Q, hQ⟩ : ∃ Q : State → Prop, Q = MQ below (vp_Si (fun r => r = r0)) (([Value.ref o] : List Value).toArray) s 0 0 (fun _ => False) := ⟨_, rfl⟩
  have hl := lv_entry ([.ref o]) (n := 1) (Nat.le_of_ble_eq_true rfl)
  rw [← hQ, lg_entry_eq]
  generalize (lg_sl ([.ref o]) ++ List.replicate (1 - (lg_sl ([.ref o])).length) Slot.unset).toArray = ls at hl ⊢
  have hl : lv_has ls 1 [(0, .ref o)] := hl
  show W p l e rm_X2_weeks s m (([Value.ref o] : List Value).toArray) below meth c s.heap [] 0 0 Q (F0 m 0 ls [])
  unfold x2_weeks at hf
  refine lv_aload_n hx hb dX2_weeks_0 rfl (lv_at hl 0 rfl) ?_
  refine va_get (D := (dC, dI)) (ci := 2) (v := .int v_weeks) (C := RX2) (T := TX2) (N := 4) hx hb hts hiX2 hown hK hP 0 rfl rfl 3 (by decide) (hts (.fieldLink RX2 22 "GreenJars$Shelf" "weeks" "I") (by decide +kernel)) (fun _ h9 => h9) rfl dX2_weeks_1 ?_
  rw [hQ]
  exact W.iret (v := v_weeks) hx hb hr (fun t ht hW => ⟨_, rfl, Option.some.inj hf, ht⟩) (fun q h => by cases h) dX2_weeks_4
abbrev rm_X2_has : Room := { frames := 0, cells := 0, slots := 0, locals := 0 }
abbrev w_X2_has (cI cZ cG : ClassId) (o : Nat) (o_cells : Nat) (o_standing : Nat) (v_jars : Int32) (v_weeks : Int32) : va_W := [(o, .inr (2, [.ref o_cells, .ref o_standing, .int v_jars, .int v_weeks]))]
set_option maxHeartbeats 4000000 in
set_option maxRecDepth 100000 in
theorem c_X2_has (l : Launch) (dC : Nat → ClassId) (dI : Nat → Nat → Nat) (cI cZ cG : ClassId) (o : Nat) (o_cells : Nat) (o_standing : Nat) (v_jars : Int32) (v_weeks : Int32) (a1 : Int32) {r0 : Int32} (hf : x2_has v_jars a1 = some r0) : Met l yX2_has wsX2_has rm_X2_has (va_Pc [.ref o, .int a1] (gR (dC, dI) vwCl (gT cI cZ cG) (w_X2_has cI cZ cG o o_cells o_standing v_jars v_weeks))) (vp_Si (fun r => r = r0)) 0 0 (fun _ => False) := by
  refine Met.ofW (cc := cX2_has) (maxL := 2) (ret := (some .boolean)) (by decide) rfl ?_
  intro p e s m args below meth c s₁ B hml hv
  obtain ⟨rfl, hv⟩ := hv
  obtain ⟨hP, hK, hN⟩ := hv
  have hx := B.exec
  have hb := B.bytes
  have hr := B.returns
  have hts := atoms_spec (ws := wsX2_has) B.pre
  have hown : s.vm.findClass RX2 = some m.cls := findClass_of_methodNamed B.named
  have hlocks := B.notSynchronized
  have hiX2 : ∀ w ∈ u_ws RX2 TX2 4, w ∈ wsX2_has := fun w h => List.mem_cons_of_mem _ (List.mem_append_right _ h)
  obtain ⟨Q, hQ⟩ : ∃ Q : State → Prop, Q = MQ below (vp_Si (fun r => r = r0)) (([Value.ref o, Value.int a1] : List Value).toArray) s 0 0 (fun _ => False) := ⟨_, rfl⟩
  have hl := lv_entry ([.ref o, .int a1]) (n := 2) (Nat.le_of_ble_eq_true rfl)
  rw [← hQ, lg_entry_eq]
  generalize (lg_sl ([.ref o, .int a1]) ++ List.replicate (2 - (lg_sl ([.ref o, .int a1])).length) Slot.unset).toArray = ls at hl ⊢
  have hl : lv_has ls 2 [(0, .ref o), (1, .int a1)] := hl
  show W p l e rm_X2_has s m (([Value.ref o, Value.int a1] : List Value).toArray) below meth c s.heap [] 0 0 Q (F0 m 0 ls [])
  unfold x2_has at hf
  refine lv_iload_n hx hb dX2_has_0 rfl (lv_at hl 1 rfl) ?_
  refine lv_if_lt (tgt := 16) hx hb dX2_has_1 (by decide) (fun c1 => ?_) (fun c1 => ?_)
  · have hf := g_pos c1 hf
    refine lv_iconst (v := (0 : Int32)) hx hb dX2_has_16 (by decide) ?_
    rw [hQ]
    exact W.zret (v := (0 : Int32)) hx hb hr (by decide +kernel) (fun t ht hW => ⟨_, rfl, Option.some.inj hf, ht⟩) (fun q h => by cases h) dX2_has_17
  · have hf := g_neg c1 hf
    refine lv_iload_n hx hb dX2_has_4 rfl (lv_at hl 1 rfl) ?_
    refine lv_aload_n hx hb dX2_has_5 rfl (lv_at hl 0 rfl) ?_
    refine va_get (D := (dC, dI)) (ci := 2) (v := .int v_jars) (C := RX2) (T := TX2) (N := 4) hx hb hts hiX2 hown hK hP 0 rfl rfl 2 (by decide) (hts (.fieldLink RX2 18 "GreenJars$Shelf" "jars" "I") (by decide +kernel)) (fun _ h9 => h9) rfl dX2_has_6 ?_
    refine lv_icmp_ge (tgt := 16) hx hb dX2_has_9 (by decide) (fun c2 => ?_) (fun c2 => ?_)
    · have hf := g_pos c2 hf
      refine lv_iconst (v := (0 : Int32)) hx hb dX2_has_16 (by decide) ?_
      rw [hQ]
      exact W.zret (v := (0 : Int32)) hx hb hr (by decide +kernel) (fun t ht hW => ⟨_, rfl, Option.some.inj hf, ht⟩) (fun q h => by cases h) dX2_has_17
    · have hf := g_neg c2 hf
      refine lv_iconst (v := (1 : Int32)) hx hb dX2_has_12 (by decide) ?_
      refine lv_goto (tgt := 17) hx hb dX2_has_13 (by decide) ?_
      rw [hQ]
      exact W.zret (v := (1 : Int32)) hx hb hr (by decide +kernel) (fun t ht hW => ⟨_, rfl, Option.some.inj hf, ht⟩) (fun q h => by cases h) dX2_has_17
abbrev rm_X2_part : Room := { frames := 0, cells := 0, slots := 0, locals := 0 }
abbrev w_X2_part (cI cZ cG : ClassId) (o : Nat) (o_cells : Nat) (o_standing : Nat) (v_jars : Int32) (v_weeks : Int32) (f_cells : Nat → Int32) : va_W := [(o, .inr (2, [.ref o_cells, .ref o_standing, .int v_jars, .int v_weeks])), (o_cells, .inl (cI, 48, .inl f_cells))]
set_option maxHeartbeats 4000000 in
set_option maxRecDepth 100000 in
theorem c_X2_part (l : Launch) (dC : Nat → ClassId) (dI : Nat → Nat → Nat) (cI cZ cG : ClassId) (o : Nat) (o_cells : Nat) (o_standing : Nat) (v_jars : Int32) (v_weeks : Int32) (f_cells : Nat → Int32) (a1 : Int32) (a2 : Int32) {r0 : Int32} (hf : x2_part f_cells a1 a2 = some r0) : Met l yX2_part wsX2_part rm_X2_part (va_Pc [.ref o, .int a1, .int a2] (gR (dC, dI) vwCl (gT cI cZ cG) (w_X2_part cI cZ cG o o_cells o_standing v_jars v_weeks f_cells))) (vp_Si (fun r => r = r0)) 0 0 (fun _ => False) := by
  refine Met.ofW (cc := cX2_part) (maxL := 3) (ret := (some .int)) (by decide) rfl ?_
  intro p e s m args below meth c s₁ B hml hv
  obtain ⟨rfl, hv⟩ := hv
  obtain ⟨hP, hK, hN⟩ := hv
  have hx := B.exec
  have hb := B.bytes
  have hr := B.returns
  have hts := atoms_spec (ws := wsX2_part) B.pre
  have hown : s.vm.findClass RX2 = some m.cls := findClass_of_methodNamed B.named
  have hlocks := B.notSynchronized
  have hiX2 : ∀ w ∈ u_ws RX2 TX2 4, w ∈ wsX2_part := fun w h => List.mem_cons_of_mem _ (List.mem_append_right _ h)
  obtain ⟨Q, hQ⟩ : ∃ Q : State → Prop, Q = MQ below (vp_Si (fun r => r = r0)) (([Value.ref o, Value.int a1, Value.int a2] : List Value).toArray) s 0 0 (fun _ => False) := ⟨_, rfl⟩
  have hl := lv_entry ([.ref o, .int a1, .int a2]) (n := 3) (Nat.le_of_ble_eq_true rfl)
  rw [← hQ, lg_entry_eq]
  generalize (lg_sl ([.ref o, .int a1, .int a2]) ++ List.replicate (3 - (lg_sl ([.ref o, .int a1, .int a2])).length) Slot.unset).toArray = ls at hl ⊢
  have hl : lv_has ls 3 [(0, .ref o), (1, .int a1), (2, .int a2)] := hl
  show W p l e rm_X2_part s m (([Value.ref o, Value.int a1, Value.int a2] : List Value).toArray) below meth c s.heap [] 0 0 Q (F0 m 0 ls [])
  unfold x2_part at hf
  refine lv_iload_n hx hb dX2_part_0 rfl (lv_at hl 1 rfl) ?_
  refine lv_if_lt (tgt := 20) hx hb dX2_part_1 (by decide) (fun c1 => ?_) (fun c1 => ?_)
  · have hf := g_pos c1 hf
    refine lv_iconst (v := (0 : Int32)) hx hb dX2_part_20 (by decide) ?_
    rw [hQ]
    exact W.iret (v := (0 : Int32)) hx hb hr (fun t ht hW => ⟨_, rfl, Option.some.inj hf, ht⟩) (fun q h => by cases h) dX2_part_21
  · have hf := g_neg c1 hf
    refine lv_iload_n hx hb dX2_part_4 rfl (lv_at hl 1 rfl) ?_
    refine lv_bipush (v := (6 : Int32)) hx hb dX2_part_5 (by decide +kernel) ?_
    refine lv_icmp_ge (tgt := 20) hx hb dX2_part_7 (by decide) (fun c2 => ?_) (fun c2 => ?_)
    · have hf := g_pos c2 hf
      refine lv_iconst (v := (0 : Int32)) hx hb dX2_part_20 (by decide) ?_
      rw [hQ]
      exact W.iret (v := (0 : Int32)) hx hb hr (fun t ht hW => ⟨_, rfl, Option.some.inj hf, ht⟩) (fun q h => by cases h) dX2_part_21
    · have hf := g_neg c2 hf
      refine lv_iload_n hx hb dX2_part_10 rfl (lv_at hl 2 rfl) ?_
      refine lv_if_lt (tgt := 20) hx hb dX2_part_11 (by decide) (fun c3 => ?_) (fun c3 => ?_)
      · have hf := g_pos c3 hf
        refine lv_iconst (v := (0 : Int32)) hx hb dX2_part_20 (by decide) ?_
        rw [hQ]
        exact W.iret (v := (0 : Int32)) hx hb hr (fun t ht hW => ⟨_, rfl, Option.some.inj hf, ht⟩) (fun q h => by cases h) dX2_part_21
      · have hf := g_neg c3 hf
        refine lv_iload_n hx hb dX2_part_14 rfl (lv_at hl 2 rfl) ?_
        refine lv_bipush (v := (8 : Int32)) hx hb dX2_part_15 (by decide +kernel) ?_
        refine lv_icmp_lt (tgt := 22) hx hb dX2_part_17 (by decide) (fun c4 => ?_) (fun c4 => ?_)
        · have hf := g_pos c4 hf
          refine lv_aload_n hx hb dX2_part_22 rfl (lv_at hl 0 rfl) ?_
          refine va_get (D := (dC, dI)) (ci := 2) (v := .ref o_cells) (C := RX2) (T := TX2) (N := 4) hx hb hts hiX2 hown hK hP 0 rfl rfl 0 (by decide) (hts (.fieldLink RX2 11 "GreenJars$Shelf" "cells" "[I") (by decide +kernel)) (fun _ h9 => h9) rfl dX2_part_23 ?_
          refine lv_iload_n hx hb dX2_part_26 rfl (lv_at hl 1 rfl) ?_
          refine lv_bipush (v := (8 : Int32)) hx hb dX2_part_27 (by decide +kernel) ?_
          refine lv_imul hx hb dX2_part_29 ?_
          refine lv_iload_n hx hb dX2_part_30 rfl (lv_at hl 2 rfl) ?_
          refine lv_iadd hx hb dX2_part_31 ?_
          obtain ⟨h5, hf⟩ := g_chk hf
          refine va_iald hx hb hK hP 1 0 rfl rfl (gIn_vp h5) dX2_part_32 ?_
          rw [hQ]
          exact W.iret (v := (f_cells ((a1 * (8 : Int32)) + a2).toNatClampNeg)) hx hb hr (fun t ht hW => ⟨_, rfl, Option.some.inj hf, ht⟩) (fun q h => by cases h) dX2_part_33
        · have hf := g_neg c4 hf
          refine lv_iconst (v := (0 : Int32)) hx hb dX2_part_20 (by decide) ?_
          rw [hQ]
          exact W.iret (v := (0 : Int32)) hx hb hr (fun t ht hW => ⟨_, rfl, Option.some.inj hf, ht⟩) (fun q h => by cases h) dX2_part_21
abbrev rm_X2_put : Room := { frames := 0, cells := 0, slots := 0, locals := 0 }
abbrev w_X2_put (cI cZ cG : ClassId) (o : Nat) (o_cells : Nat) (o_standing : Nat) (v_jars : Int32) (v_weeks : Int32) (f_cells : Nat → Int32) : va_W := [(o, .inr (2, [.ref o_cells, .ref o_standing, .int v_jars, .int v_weeks])), (o_cells, .inl (cI, 48, .inl f_cells))]
set_option maxHeartbeats 4000000 in
set_option maxRecDepth 100000 in
theorem c_X2_put (l : Launch) (dC : Nat → ClassId) (dI : Nat → Nat → Nat) (cI cZ cG : ClassId) (o : Nat) (o_cells : Nat) (o_standing : Nat) (sz : Nat) (v_jars : Int32) (v_weeks : Int32) (f_cells : Nat → Int32) (a1 : Int32) (a2 : Int32) (a3 : Int32) {n_cells : Nat → Int32} (hf : x2_put f_cells a1 a2 a3 = some n_cells) : Met l yX2_put wsX2_put rm_X2_put (va_Pc [.ref o, .int a1, .int a2, .int a3] (gW (dC, dI) vwCl (gT cI cZ cG) (w_X2_put cI cZ cG o o_cells o_standing v_jars v_weeks f_cells) sz)) (va_Qv (fun _ => True) (gE (dC, dI) vwCl (gT cI cZ cG) (w_X2_put cI cZ cG o o_cells o_standing v_jars v_weeks n_cells) (va_A (w_X2_put cI cZ cG o o_cells o_standing v_jars v_weeks f_cells) sz)) (va_A (w_X2_put cI cZ cG o o_cells o_standing v_jars v_weeks f_cells) sz)) 0 0 (va_A (w_X2_put cI cZ cG o o_cells o_standing v_jars v_weeks f_cells) sz) := by
  refine Met.ofW (cc := cX2_put) (maxL := 4) (ret := none) (by decide) rfl ?_
  intro p e s m args below meth c s₁ B hml hv
  obtain ⟨rfl, hv⟩ := hv
  obtain ⟨hsz, hP, hK, hN, hD0⟩ := hv
  have hx := B.exec
  have hb := B.bytes
  have hr := B.returns
  have hts := atoms_spec (ws := wsX2_put) B.pre
  have hown : s.vm.findClass RX2 = some m.cls := findClass_of_methodNamed B.named
  have hlocks := B.notSynchronized
  have hiX2 : ∀ w ∈ u_ws RX2 TX2 4, w ∈ wsX2_put := fun w h => List.mem_cons_of_mem _ (List.mem_append_right _ h)
  subst hsz
  have hD := hD0.self (sz := s.heap.size)
  generalize hAe : va_A (w_X2_put cI cZ cG o o_cells o_standing v_jars v_weeks f_cells) s.heap.size = A at hD ⊢
  have hA : ∀ q : Nat, s.heap.size ≤ q → A q := fun q h => by rw [← hAe]; exact Or.inr h
  clear hD0
  have hS : va_S A s.heap s.heap [] := va_S.rf
  have hP : va_P (dC, dI) vwCl (w_X2_put cI cZ cG o o_cells o_standing v_jars v_weeks f_cells) s.heap := hP
  obtain ⟨Q, hQ⟩ : ∃ Q : State → Prop, Q = MQ below (va_Qv (fun _ => True) (gE (dC, dI) vwCl (gT cI cZ cG) (w_X2_put cI cZ cG o o_cells o_standing v_jars v_weeks n_cells) A) A) (([Value.ref o, Value.int a1, Value.int a2, Value.int a3] : List Value).toArray) s 0 0 A := ⟨_, rfl⟩
  have hl := lv_entry ([.ref o, .int a1, .int a2, .int a3]) (n := 4) (Nat.le_of_ble_eq_true rfl)
  rw [← hQ, lg_entry_eq]
  generalize (lg_sl ([.ref o, .int a1, .int a2, .int a3]) ++ List.replicate (4 - (lg_sl ([.ref o, .int a1, .int a2, .int a3])).length) Slot.unset).toArray = ls at hl ⊢
  have hl : lv_has ls 4 [(0, .ref o), (1, .int a1), (2, .int a2), (3, .int a3)] := hl
  generalize hH : s.heap = H at hP hS ⊢
  have hS : va_S A s.heap H [] := by rw [hH]; exact hS
  generalize hlc : ([] : List Loc) = locs at hS ⊢
  show W p l e rm_X2_put s m (([Value.ref o, Value.int a1, Value.int a2, Value.int a3] : List Value).toArray) below meth c H locs 0 0 Q (F0 m 0 ls [])
  unfold x2_put at hf
  refine lv_iload_n hx hb dX2_put_0 rfl (lv_at hl 1 rfl) ?_
  refine lv_if_lt (tgt := 32) hx hb dX2_put_1 (by decide) (fun c1 => ?_) (fun c1 => ?_)
  · have hf := g_pos c1 hf
    rw [hQ]
    cases hf
    exact W.vret hx hb hr (fun t ht hW => ⟨⟨(), rfl, trivial, by rw [ht]; exact hP, va_K.moved hW.alike hK, hD⟩, hS.F ht⟩) hS.2.2 dX2_put_32
  · have hf := g_neg c1 hf
    refine lv_iload_n hx hb dX2_put_4 rfl (lv_at hl 1 rfl) ?_
    refine lv_bipush (v := (6 : Int32)) hx hb dX2_put_5 (by decide +kernel) ?_
    refine lv_icmp_ge (tgt := 32) hx hb dX2_put_7 (by decide) (fun c2 => ?_) (fun c2 => ?_)
    · have hf := g_pos c2 hf
      rw [hQ]
      cases hf
      exact W.vret hx hb hr (fun t ht hW => ⟨⟨(), rfl, trivial, by rw [ht]; exact hP, va_K.moved hW.alike hK, hD⟩, hS.F ht⟩) hS.2.2 dX2_put_32
    · have hf := g_neg c2 hf
      refine lv_iload_n hx hb dX2_put_10 rfl (lv_at hl 2 rfl) ?_
      refine lv_if_lt (tgt := 32) hx hb dX2_put_11 (by decide) (fun c3 => ?_) (fun c3 => ?_)
      · have hf := g_pos c3 hf
        rw [hQ]
        cases hf
        exact W.vret hx hb hr (fun t ht hW => ⟨⟨(), rfl, trivial, by rw [ht]; exact hP, va_K.moved hW.alike hK, hD⟩, hS.F ht⟩) hS.2.2 dX2_put_32
      · have hf := g_neg c3 hf
        refine lv_iload_n hx hb dX2_put_14 rfl (lv_at hl 2 rfl) ?_
        refine lv_bipush (v := (8 : Int32)) hx hb dX2_put_15 (by decide +kernel) ?_
        refine lv_icmp_ge (tgt := 32) hx hb dX2_put_17 (by decide) (fun c4 => ?_) (fun c4 => ?_)
        · have hf := g_pos c4 hf
          rw [hQ]
          cases hf
          exact W.vret hx hb hr (fun t ht hW => ⟨⟨(), rfl, trivial, by rw [ht]; exact hP, va_K.moved hW.alike hK, hD⟩, hS.F ht⟩) hS.2.2 dX2_put_32
        · have hf := g_neg c4 hf
          refine lv_aload_n hx hb dX2_put_20 rfl (lv_at hl 0 rfl) ?_
          refine va_get (D := (dC, dI)) (ci := 2) (v := .ref o_cells) (C := RX2) (T := TX2) (N := 4) hx hb hts hiX2 hown hK hP 0 rfl rfl 0 (by decide) (hts (.fieldLink RX2 11 "GreenJars$Shelf" "cells" "[I") (by decide +kernel)) (fun _ h9 => h9) rfl dX2_put_21 ?_
          refine lv_iload_n hx hb dX2_put_24 rfl (lv_at hl 1 rfl) ?_
          refine lv_bipush (v := (8 : Int32)) hx hb dX2_put_25 (by decide +kernel) ?_
          refine lv_imul hx hb dX2_put_27 ?_
          refine lv_iload_n hx hb dX2_put_28 rfl (lv_at hl 2 rfl) ?_
          refine lv_iadd hx hb dX2_put_29 ?_
          refine lv_iload_n hx hb dX2_put_30 rfl (lv_at hl 3 rfl) ?_
          obtain ⟨h5, hf⟩ := g_chk hf
          refine va_iast hx hb hK hP hD hS 1 0 rfl rfl (gIn_vp h5) dX2_put_31 (fun H locs hP hD hS => ?_)
          have hP : va_P (dC, dI) vwCl (w_X2_put cI cZ cG o o_cells o_standing v_jars v_weeks (upd f_cells ((a1 * (8 : Int32)) + a2).toNatClampNeg a3)) H := hP
          have hD : va_D A (w_X2_put cI cZ cG o o_cells o_standing v_jars v_weeks (upd f_cells ((a1 * (8 : Int32)) + a2).toNatClampNeg a3)) := hD
          rw [hQ]
          cases hf
          exact W.vret hx hb hr (fun t ht hW => ⟨⟨(), rfl, trivial, by rw [ht]; exact hP, va_K.moved hW.alike hK, hD⟩, hS.F ht⟩) hS.2.2 dX2_put_32
abbrev rm_X2_isWhole : Room := { frames := 1, cells := 0, slots := 0, locals := 22 }
abbrev w_X2_isWhole (cI cZ cG : ClassId) (o : Nat) (o_cells : Nat) (o_standing : Nat) (v_jars : Int32) (v_weeks : Int32) (f_cells : Nat → Int32) : va_W := [(o, .inr (2, [.ref o_cells, .ref o_standing, .int v_jars, .int v_weeks])), (o_cells, .inl (cI, 48, .inl f_cells))]
set_option maxHeartbeats 4000000 in
set_option maxRecDepth 100000 in
theorem c_X2_isWhole (l : Launch) (dC : Nat → ClassId) (dI : Nat → Nat → Nat) (cI cZ cG : ClassId) (o : Nat) (o_cells : Nat) (o_standing : Nat) (v_jars : Int32) (v_weeks : Int32) (f_cells : Nat → Int32) (a1 : Int32) {r0 : Int32} (hf : x2_isWhole v_jars f_cells a1 = some r0) : Met l yX2_isWhole wsX2_isWhole rm_X2_isWhole (va_Pc [.ref o, .int a1] (gR (dC, dI) vwCl (gT cI cZ cG) (w_X2_isWhole cI cZ cG o o_cells o_standing v_jars v_weeks f_cells))) (vp_Si (fun r => r = r0)) 0 0 (fun _ => False) := by
  refine Met.ofW (cc := cX2_isWhole) (maxL := 2) (ret := (some .boolean)) (by decide) rfl ?_
  intro p e s m args below meth c s₁ B hml hv
  obtain ⟨rfl, hv⟩ := hv
  obtain ⟨hP, hK, hN⟩ := hv
  have hx := B.exec
  have hb := B.bytes
  have hr := B.returns
  have hts := atoms_spec (ws := wsX2_isWhole) B.pre
  have hown : s.vm.findClass RX2 = some m.cls := findClass_of_methodNamed B.named
  have hlocks := B.notSynchronized
  have hiX2 : ∀ w ∈ u_ws RX2 TX2 4, w ∈ wsX2_isWhole := fun w h => List.mem_cons_of_mem _ (List.mem_append_right _ h)
  obtain ⟨Q, hQ⟩ : ∃ Q : State → Prop, Q = MQ below (vp_Si (fun r => r = r0)) (([Value.ref o, Value.int a1] : List Value).toArray) s 0 0 (fun _ => False) := ⟨_, rfl⟩
  have hl := lv_entry ([.ref o, .int a1]) (n := 2) (Nat.le_of_ble_eq_true rfl)
  rw [← hQ, lg_entry_eq]
  generalize (lg_sl ([.ref o, .int a1]) ++ List.replicate (2 - (lg_sl ([.ref o, .int a1])).length) Slot.unset).toArray = ls at hl ⊢
  have hl : lv_has ls 2 [(0, .ref o), (1, .int a1)] := hl
  show W p l e rm_X2_isWhole s m (([Value.ref o, Value.int a1] : List Value).toArray) below meth c s.heap [] 0 0 Q (F0 m 0 ls [])
  unfold x2_isWhole at hf
  refine lv_aload_n hx hb dX2_isWhole_0 rfl (lv_at hl 0 rfl) ?_
  refine lv_iload_n hx hb dX2_isWhole_1 rfl (lv_at hl 1 rfl) ?_
  obtain ⟨r1, hc2, hf⟩ := g_b1 hf
  refine g_rV (As := [.int a1]) (rest := []) ⟨hx, hb, hml, hown, hts⟩ (c_X2_has l dC dI cI cZ cG o o_cells o_standing  v_jars v_weeks a1 hc2) (cwV 1 hts gX2_isWhole_X2_has rfl rfl rfl (by decide +kernel) ⟨Nat.le_of_ble_eq_true rfl, Nat.le_of_ble_eq_true rfl⟩) hK hN (hP.sub [0] rfl) (va_recv hK hP (ci := 2) (q0 := 0) rfl rfl) rfl hl.1 rfl (Nat.le_of_ble_eq_true rfl) dX2_isWhole_2 ⟨Nat.zero_le _, Nat.zero_le _⟩ ?_
  refine lv_if_eq (tgt := 22) hx hb dX2_isWhole_5 (by decide) (fun c3 => ?_) (fun c3 => ?_)
  · have hf := g_pos c3 hf
    refine lv_iconst (v := (0 : Int32)) hx hb dX2_isWhole_22 (by decide) ?_
    rw [hQ]
    exact W.zret (v := (0 : Int32)) hx hb hr (by decide +kernel) (fun t ht hW => ⟨_, rfl, Option.some.inj hf, ht⟩) (fun q h => by cases h) dX2_isWhole_23
  · have hf := g_neg c3 hf
    refine lv_aload_n hx hb dX2_isWhole_8 rfl (lv_at hl 0 rfl) ?_
    refine lv_iload_n hx hb dX2_isWhole_9 rfl (lv_at hl 1 rfl) ?_
    refine lv_bipush (v := (7 : Int32)) hx hb dX2_isWhole_10 (by decide +kernel) ?_
    obtain ⟨r4, hc5, hf⟩ := g_b1 hf
    refine g_rV (As := [.int a1, .int (7 : Int32)]) (rest := []) ⟨hx, hb, hml, hown, hts⟩ (c_X2_part l dC dI cI cZ cG o o_cells o_standing  v_jars v_weeks f_cells a1 (7 : Int32) hc5) (cwV 2 hts gX2_isWhole_X2_part rfl rfl rfl (by decide +kernel) ⟨Nat.le_of_ble_eq_true rfl, Nat.le_of_ble_eq_true rfl⟩) hK hN (hP.sub [0, 1] rfl) (va_recv hK hP (ci := 2) (q0 := 0) rfl rfl) rfl hl.1 rfl (Nat.le_of_ble_eq_true rfl) dX2_isWhole_12 ⟨Nat.zero_le _, Nat.zero_le _⟩ ?_
    refine lv_if_ne (tgt := 22) hx hb dX2_isWhole_15 (by decide) (fun c6 => ?_) (fun c6 => ?_)
    · have hf := g_neg c6 hf
      refine lv_iconst (v := (0 : Int32)) hx hb dX2_isWhole_22 (by decide) ?_
      rw [hQ]
      exact W.zret (v := (0 : Int32)) hx hb hr (by decide +kernel) (fun t ht hW => ⟨_, rfl, Option.some.inj hf, ht⟩) (fun q h => by cases h) dX2_isWhole_23
    · have hf := g_pos c6 hf
      refine lv_iconst (v := (1 : Int32)) hx hb dX2_isWhole_18 (by decide) ?_
      refine lv_goto (tgt := 23) hx hb dX2_isWhole_19 (by decide) ?_
      rw [hQ]
      exact W.zret (v := (1 : Int32)) hx hb hr (by decide +kernel) (fun t ht hW => ⟨_, rfl, Option.some.inj hf, ht⟩) (fun q h => by cases h) dX2_isWhole_23
abbrev rm_X2_clear : Room := { frames := 0, cells := 0, slots := 0, locals := 0 }
abbrev w_X2_clear (cI cZ cG : ClassId) (o : Nat) (o_cells : Nat) (o_standing : Nat) (v_jars : Int32) (v_weeks : Int32) : va_W := [(o, .inr (2, [.ref o_cells, .ref o_standing, .int v_jars, .int v_weeks]))]
set_option maxHeartbeats 4000000 in
set_option maxRecDepth 100000 in
theorem c_X2_clear (l : Launch) (dC : Nat → ClassId) (dI : Nat → Nat → Nat) (cI cZ cG : ClassId) (o : Nat) (o_cells : Nat) (o_standing : Nat) (sz : Nat) (v_jars : Int32) (v_weeks : Int32) {n_jars : Int32} {n_weeks : Int32} (hf : x2_clear v_jars v_weeks = some (n_jars, n_weeks)) : Met l yX2_clear wsX2_clear rm_X2_clear (va_Pc [.ref o] (gW (dC, dI) vwCl (gT cI cZ cG) (w_X2_clear cI cZ cG o o_cells o_standing v_jars v_weeks) sz)) (va_Qv (fun _ => True) (gE (dC, dI) vwCl (gT cI cZ cG) (w_X2_clear cI cZ cG o o_cells o_standing n_jars n_weeks) (va_A (w_X2_clear cI cZ cG o o_cells o_standing v_jars v_weeks) sz)) (va_A (w_X2_clear cI cZ cG o o_cells o_standing v_jars v_weeks) sz)) 0 0 (va_A (w_X2_clear cI cZ cG o o_cells o_standing v_jars v_weeks) sz) := by
  refine Met.ofW (cc := cX2_clear) (maxL := 1) (ret := none) (by decide) rfl ?_
  intro p e s m args below meth c s₁ B hml hv
  obtain ⟨rfl, hv⟩ := hv
  obtain ⟨hsz, hP, hK, hN, hD0⟩ := hv
  have hx := B.exec
  have hb := B.bytes
  have hr := B.returns
  have hts := atoms_spec (ws := wsX2_clear) B.pre
  have hown : s.vm.findClass RX2 = some m.cls := findClass_of_methodNamed B.named
  have hlocks := B.notSynchronized
  have hiX2 : ∀ w ∈ u_ws RX2 TX2 4, w ∈ wsX2_clear := fun w h => List.mem_cons_of_mem _ (List.mem_append_right _ h)
  subst hsz
  have hD := hD0.self (sz := s.heap.size)
  generalize hAe : va_A (w_X2_clear cI cZ cG o o_cells o_standing v_jars v_weeks) s.heap.size = A at hD ⊢
  have hA : ∀ q : Nat, s.heap.size ≤ q → A q := fun q h => by rw [← hAe]; exact Or.inr h
  clear hD0
  have hS : va_S A s.heap s.heap [] := va_S.rf
  have hP : va_P (dC, dI) vwCl (w_X2_clear cI cZ cG o o_cells o_standing v_jars v_weeks) s.heap := hP
  obtain ⟨Q, hQ⟩ : ∃ Q : State → Prop, Q = MQ below (va_Qv (fun _ => True) (gE (dC, dI) vwCl (gT cI cZ cG) (w_X2_clear cI cZ cG o o_cells o_standing n_jars n_weeks) A) A) (([Value.ref o] : List Value).toArray) s 0 0 A := ⟨_, rfl⟩
  have hl := lv_entry ([.ref o]) (n := 1) (Nat.le_of_ble_eq_true rfl)
  rw [← hQ, lg_entry_eq]
  generalize (lg_sl ([.ref o]) ++ List.replicate (1 - (lg_sl ([.ref o])).length) Slot.unset).toArray = ls at hl ⊢
  have hl : lv_has ls 1 [(0, .ref o)] := hl
  generalize hH : s.heap = H at hP hS ⊢
  have hS : va_S A s.heap H [] := by rw [hH]; exact hS
  generalize hlc : ([] : List Loc) = locs at hS ⊢
  show W p l e rm_X2_clear s m (([Value.ref o] : List Value).toArray) below meth c H locs 0 0 Q (F0 m 0 ls [])
  unfold x2_clear at hf
  refine lv_aload_n hx hb dX2_clear_0 rfl (lv_at hl 0 rfl) ?_
  refine lv_iconst (v := (0 : Int32)) hx hb dX2_clear_1 (by decide) ?_
  refine va_put (D := (dC, dI)) (ci := 2) (v := .int (0 : Int32)) (ty := .int) (C := RX2) (T := TX2) (N := 4) hx hb hts hiX2 tyX2 tyX2_ok nmX2 hown hK hP hD hS 0 rfl rfl 2 (by decide) (hts (.fieldLink RX2 18 "GreenJars$Shelf" "jars" "I") (by decide +kernel)) (fun _ h9 => h9) rfl (by decide +kernel) rfl rfl (Nat.le_of_ble_eq_true rfl) dX2_clear_2 (fun H locs hP hD hS => ?_)
  have hP : va_P (dC, dI) vwCl (w_X2_clear cI cZ cG o o_cells o_standing (0 : Int32) v_weeks) H := hP
  have hD : va_D A (w_X2_clear cI cZ cG o o_cells o_standing (0 : Int32) v_weeks) := hD
  refine lv_aload_n hx hb dX2_clear_5 rfl (lv_at hl 0 rfl) ?_
  refine lv_iconst (v := (0 : Int32)) hx hb dX2_clear_6 (by decide) ?_
  refine va_put (D := (dC, dI)) (ci := 2) (v := .int (0 : Int32)) (ty := .int) (C := RX2) (T := TX2) (N := 4) hx hb hts hiX2 tyX2 tyX2_ok nmX2 hown hK hP hD hS 0 rfl rfl 3 (by decide) (hts (.fieldLink RX2 22 "GreenJars$Shelf" "weeks" "I") (by decide +kernel)) (fun _ h9 => h9) rfl (by decide +kernel) rfl rfl (Nat.le_of_ble_eq_true rfl) dX2_clear_7 (fun H locs hP hD hS => ?_)
  have hP : va_P (dC, dI) vwCl (w_X2_clear cI cZ cG o o_cells o_standing (0 : Int32) (0 : Int32)) H := hP
  have hD : va_D A (w_X2_clear cI cZ cG o o_cells o_standing (0 : Int32) (0 : Int32)) := hD
  rw [hQ]
  cases hf
  exact W.vret hx hb hr (fun t ht hW => ⟨⟨(), rfl, trivial, by rw [ht]; exact hP, va_K.moved hW.alike hK, hD⟩, hS.F ht⟩) hS.2.2 dX2_clear_10
abbrev rm_X2_add : Room := { frames := 1, cells := 0, slots := 0, locals := 23 }
abbrev w_X2_add (cI cZ cG : ClassId) (o : Nat) (o_cells : Nat) (o_standing : Nat) (v_jars : Int32) (v_weeks : Int32) (f_cells : Nat → Int32) : va_W := [(o, .inr (2, [.ref o_cells, .ref o_standing, .int v_jars, .int v_weeks])), (o_cells, .inl (cI, 48, .inl f_cells))]
set_option maxHeartbeats 4000000 in
set_option maxRecDepth 100000 in
theorem c_X2_add (l : Launch) (dC : Nat → ClassId) (dI : Nat → Nat → Nat) (cI cZ cG : ClassId) (o : Nat) (o_cells : Nat) (o_standing : Nat) (sz : Nat) (v_jars : Int32) (v_weeks : Int32) (f_cells : Nat → Int32) (a1 : Int32) (a2 : Int32) (a3 : Int32) (a4 : Int32) (a5 : Int32) {n_jars : Int32} {n_cells : Nat → Int32} (hf : x2_add v_jars f_cells a1 a2 a3 a4 a5 = some (n_jars, n_cells)) : Met l yX2_add wsX2_add rm_X2_add (va_Pc [.ref o, .int a1, .int a2, .int a3, .int a4, .int a5] (gW (dC, dI) vwCl (gT cI cZ cG) (w_X2_add cI cZ cG o o_cells o_standing v_jars v_weeks f_cells) sz)) (va_Qv (fun _ => True) (gE (dC, dI) vwCl (gT cI cZ cG) (w_X2_add cI cZ cG o o_cells o_standing n_jars v_weeks n_cells) (va_A (w_X2_add cI cZ cG o o_cells o_standing v_jars v_weeks f_cells) sz)) (va_A (w_X2_add cI cZ cG o o_cells o_standing v_jars v_weeks f_cells) sz)) 0 0 (va_A (w_X2_add cI cZ cG o o_cells o_standing v_jars v_weeks f_cells) sz) := by
  refine Met.ofW (cc := cX2_add) (maxL := 6) (ret := none) (by decide) rfl ?_
  intro p e s m args below meth c s₁ B hml hv
  obtain ⟨rfl, hv⟩ := hv
  obtain ⟨hsz, hP, hK, hN, hD0⟩ := hv
  have hx := B.exec
  have hb := B.bytes
  have hr := B.returns
  have hts := atoms_spec (ws := wsX2_add) B.pre
  have hown : s.vm.findClass RX2 = some m.cls := findClass_of_methodNamed B.named
  have hlocks := B.notSynchronized
  have hiX2 : ∀ w ∈ u_ws RX2 TX2 4, w ∈ wsX2_add := fun w h => List.mem_cons_of_mem _ (List.mem_append_right _ h)
  subst hsz
  have hD := hD0.self (sz := s.heap.size)
  generalize hAe : va_A (w_X2_add cI cZ cG o o_cells o_standing v_jars v_weeks f_cells) s.heap.size = A at hD ⊢
  have hA : ∀ q : Nat, s.heap.size ≤ q → A q := fun q h => by rw [← hAe]; exact Or.inr h
  clear hD0
  have hS : va_S A s.heap s.heap [] := va_S.rf
  have hP : va_P (dC, dI) vwCl (w_X2_add cI cZ cG o o_cells o_standing v_jars v_weeks f_cells) s.heap := hP
  obtain ⟨Q, hQ⟩ : ∃ Q : State → Prop, Q = MQ below (va_Qv (fun _ => True) (gE (dC, dI) vwCl (gT cI cZ cG) (w_X2_add cI cZ cG o o_cells o_standing n_jars v_weeks n_cells) A) A) (([Value.ref o, Value.int a1, Value.int a2, Value.int a3, Value.int a4, Value.int a5] : List Value).toArray) s 0 0 A := ⟨_, rfl⟩
  have hl := lv_entry ([.ref o, .int a1, .int a2, .int a3, .int a4, .int a5]) (n := 6) (Nat.le_of_ble_eq_true rfl)
  rw [← hQ, lg_entry_eq]
  generalize (lg_sl ([.ref o, .int a1, .int a2, .int a3, .int a4, .int a5]) ++ List.replicate (6 - (lg_sl ([.ref o, .int a1, .int a2, .int a3, .int a4, .int a5])).length) Slot.unset).toArray = ls at hl ⊢
  have hl : lv_has ls 6 [(0, .ref o), (1, .int a1), (2, .int a2), (3, .int a3), (4, .int a4), (5, .int a5)] := hl
  generalize hH : s.heap = H at hP hS ⊢
  have hS : va_S A s.heap H [] := by rw [hH]; exact hS
  generalize hlc : ([] : List Loc) = locs at hS ⊢
  show W p l e rm_X2_add s m (([Value.ref o, Value.int a1, Value.int a2, Value.int a3, Value.int a4, Value.int a5] : List Value).toArray) below meth c H locs 0 0 Q (F0 m 0 ls [])
  unfold x2_add at hf
  refine lv_aload_n hx hb dX2_add_0 rfl (lv_at hl 0 rfl) ?_
  refine va_get (D := (dC, dI)) (ci := 2) (v := .int v_jars) (C := RX2) (T := TX2) (N := 4) hx hb hts hiX2 hown hK hP 0 rfl rfl 2 (by decide) (hts (.fieldLink RX2 18 "GreenJars$Shelf" "jars" "I") (by decide +kernel)) (fun _ h9 => h9) rfl dX2_add_1 ?_
  refine lv_bipush (v := (6 : Int32)) hx hb dX2_add_4 (by decide +kernel) ?_
  refine lv_icmp_lt (tgt := 10) hx hb dX2_add_6 (by decide) (fun c1 => ?_) (fun c1 => ?_)
  · have hf := g_pos c1 hf
    refine lv_aload_n hx hb dX2_add_10 rfl (lv_at hl 0 rfl) ?_
    refine lv_aload_n hx hb dX2_add_11 rfl (lv_at hl 0 rfl) ?_
    refine va_get (D := (dC, dI)) (ci := 2) (v := .int v_jars) (C := RX2) (T := TX2) (N := 4) hx hb hts hiX2 hown hK hP 0 rfl rfl 2 (by decide) (hts (.fieldLink RX2 18 "GreenJars$Shelf" "jars" "I") (by decide +kernel)) (fun _ h9 => h9) rfl dX2_add_12 ?_
    refine lv_iconst (v := (0 : Int32)) hx hb dX2_add_15 (by decide) ?_
    refine lv_iload_n hx hb dX2_add_16 rfl (lv_at hl 1 rfl) ?_
    obtain ⟨y2, hc3, hf⟩ := g_b1 hf
    refine g_wVv (As := [.int v_jars, .int (0 : Int32), .int a1]) (rest := []) (wr := []) (wn := (w_X2_add cI cZ cG o o_cells o_standing v_jars v_weeks y2)) ⟨hx, hb, hml, hown, hts⟩ (c_X2_put l dC dI cI cZ cG o o_cells o_standing H.size  v_jars v_weeks f_cells v_jars (0 : Int32) a1 hc3) (cwV 3 hts gX2_add_X2_put rfl rfl rfl (by decide +kernel) ⟨Nat.le_of_ble_eq_true rfl, Nat.le_of_ble_eq_true rfl⟩) hK hN hP hD hS hA [0, 1] [] [0, 1] rfl rfl (by decide) rfl (by decide) (by decide) rfl (by decide) (va_recv hK hP (ci := 2) (q0 := 0) rfl rfl) rfl hl.1 rfl (Nat.le_of_ble_eq_true rfl) dX2_add_17 ⟨Nat.zero_le _, Nat.zero_le _⟩ (fun H locs hP hD hS => ?_)
    refine lv_aload_n hx hb dX2_add_20 rfl (lv_at hl 0 rfl) ?_
    refine lv_aload_n hx hb dX2_add_21 rfl (lv_at hl 0 rfl) ?_
    refine va_get (D := (dC, dI)) (ci := 2) (v := .int v_jars) (C := RX2) (T := TX2) (N := 4) hx hb hts hiX2 hown hK hP 0 rfl rfl 2 (by decide) (hts (.fieldLink RX2 18 "GreenJars$Shelf" "jars" "I") (by decide +kernel)) (fun _ h9 => h9) rfl dX2_add_22 ?_
    refine lv_iconst (v := (1 : Int32)) hx hb dX2_add_25 (by decide) ?_
    refine lv_iload_n hx hb dX2_add_26 rfl (lv_at hl 2 rfl) ?_
    obtain ⟨y4, hc5, hf⟩ := g_b1 hf
    refine g_wVv (As := [.int v_jars, .int (1 : Int32), .int a2]) (rest := []) (wr := []) (wn := (w_X2_add cI cZ cG o o_cells o_standing v_jars v_weeks y4)) ⟨hx, hb, hml, hown, hts⟩ (c_X2_put l dC dI cI cZ cG o o_cells o_standing H.size  v_jars v_weeks y2 v_jars (1 : Int32) a2 hc5) (cwV 3 hts gX2_add_X2_put rfl rfl rfl (by decide +kernel) ⟨Nat.le_of_ble_eq_true rfl, Nat.le_of_ble_eq_true rfl⟩) hK hN hP hD hS hA [0, 1] [] [0, 1] rfl rfl (by decide) rfl (by decide) (by decide) rfl (by decide) (va_recv hK hP (ci := 2) (q0 := 0) rfl rfl) rfl hl.1 rfl (Nat.le_of_ble_eq_true rfl) dX2_add_27 ⟨Nat.zero_le _, Nat.zero_le _⟩ (fun H locs hP hD hS => ?_)
    refine lv_aload_n hx hb dX2_add_30 rfl (lv_at hl 0 rfl) ?_
    refine lv_aload_n hx hb dX2_add_31 rfl (lv_at hl 0 rfl) ?_
    refine va_get (D := (dC, dI)) (ci := 2) (v := .int v_jars) (C := RX2) (T := TX2) (N := 4) hx hb hts hiX2 hown hK hP 0 rfl rfl 2 (by decide) (hts (.fieldLink RX2 18 "GreenJars$Shelf" "jars" "I") (by decide +kernel)) (fun _ h9 => h9) rfl dX2_add_32 ?_
    refine lv_iconst (v := (2 : Int32)) hx hb dX2_add_35 (by decide) ?_
    refine lv_iload_n hx hb dX2_add_36 rfl (lv_at hl 3 rfl) ?_
    obtain ⟨y6, hc7, hf⟩ := g_b1 hf
    refine g_wVv (As := [.int v_jars, .int (2 : Int32), .int a3]) (rest := []) (wr := []) (wn := (w_X2_add cI cZ cG o o_cells o_standing v_jars v_weeks y6)) ⟨hx, hb, hml, hown, hts⟩ (c_X2_put l dC dI cI cZ cG o o_cells o_standing H.size  v_jars v_weeks y4 v_jars (2 : Int32) a3 hc7) (cwV 3 hts gX2_add_X2_put rfl rfl rfl (by decide +kernel) ⟨Nat.le_of_ble_eq_true rfl, Nat.le_of_ble_eq_true rfl⟩) hK hN hP hD hS hA [0, 1] [] [0, 1] rfl rfl (by decide) rfl (by decide) (by decide) rfl (by decide) (va_recv hK hP (ci := 2) (q0 := 0) rfl rfl) rfl hl.1 rfl (Nat.le_of_ble_eq_true rfl) dX2_add_37 ⟨Nat.zero_le _, Nat.zero_le _⟩ (fun H locs hP hD hS => ?_)
    refine lv_aload_n hx hb dX2_add_40 rfl (lv_at hl 0 rfl) ?_
    refine lv_aload_n hx hb dX2_add_41 rfl (lv_at hl 0 rfl) ?_
    refine va_get (D := (dC, dI)) (ci := 2) (v := .int v_jars) (C := RX2) (T := TX2) (N := 4) hx hb hts hiX2 hown hK hP 0 rfl rfl 2 (by decide) (hts (.fieldLink RX2 18 "GreenJars$Shelf" "jars" "I") (by decide +kernel)) (fun _ h9 => h9) rfl dX2_add_42 ?_
    refine lv_iconst (v := (3 : Int32)) hx hb dX2_add_45 (by decide) ?_
    refine lv_iload hx hb dX2_add_46 (lv_at hl 4 rfl) ?_
    obtain ⟨y8, hc9, hf⟩ := g_b1 hf
    refine g_wVv (As := [.int v_jars, .int (3 : Int32), .int a4]) (rest := []) (wr := []) (wn := (w_X2_add cI cZ cG o o_cells o_standing v_jars v_weeks y8)) ⟨hx, hb, hml, hown, hts⟩ (c_X2_put l dC dI cI cZ cG o o_cells o_standing H.size  v_jars v_weeks y6 v_jars (3 : Int32) a4 hc9) (cwV 3 hts gX2_add_X2_put rfl rfl rfl (by decide +kernel) ⟨Nat.le_of_ble_eq_true rfl, Nat.le_of_ble_eq_true rfl⟩) hK hN hP hD hS hA [0, 1] [] [0, 1] rfl rfl (by decide) rfl (by decide) (by decide) rfl (by decide) (va_recv hK hP (ci := 2) (q0 := 0) rfl rfl) rfl hl.1 rfl (Nat.le_of_ble_eq_true rfl) dX2_add_48 ⟨Nat.zero_le _, Nat.zero_le _⟩ (fun H locs hP hD hS => ?_)
    refine lv_aload_n hx hb dX2_add_51 rfl (lv_at hl 0 rfl) ?_
    refine lv_aload_n hx hb dX2_add_52 rfl (lv_at hl 0 rfl) ?_
    refine va_get (D := (dC, dI)) (ci := 2) (v := .int v_jars) (C := RX2) (T := TX2) (N := 4) hx hb hts hiX2 hown hK hP 0 rfl rfl 2 (by decide) (hts (.fieldLink RX2 18 "GreenJars$Shelf" "jars" "I") (by decide +kernel)) (fun _ h9 => h9) rfl dX2_add_53 ?_
    refine lv_iconst (v := (4 : Int32)) hx hb dX2_add_56 (by decide) ?_
    refine lv_iload hx hb dX2_add_57 (lv_at hl 5 rfl) ?_
    obtain ⟨y10, hc11, hf⟩ := g_b1 hf
    refine g_wVv (As := [.int v_jars, .int (4 : Int32), .int a5]) (rest := []) (wr := []) (wn := (w_X2_add cI cZ cG o o_cells o_standing v_jars v_weeks y10)) ⟨hx, hb, hml, hown, hts⟩ (c_X2_put l dC dI cI cZ cG o o_cells o_standing H.size  v_jars v_weeks y8 v_jars (4 : Int32) a5 hc11) (cwV 3 hts gX2_add_X2_put rfl rfl rfl (by decide +kernel) ⟨Nat.le_of_ble_eq_true rfl, Nat.le_of_ble_eq_true rfl⟩) hK hN hP hD hS hA [0, 1] [] [0, 1] rfl rfl (by decide) rfl (by decide) (by decide) rfl (by decide) (va_recv hK hP (ci := 2) (q0 := 0) rfl rfl) rfl hl.1 rfl (Nat.le_of_ble_eq_true rfl) dX2_add_59 ⟨Nat.zero_le _, Nat.zero_le _⟩ (fun H locs hP hD hS => ?_)
    refine lv_aload_n hx hb dX2_add_62 rfl (lv_at hl 0 rfl) ?_
    refine lv_aload_n hx hb dX2_add_63 rfl (lv_at hl 0 rfl) ?_
    refine va_get (D := (dC, dI)) (ci := 2) (v := .int v_jars) (C := RX2) (T := TX2) (N := 4) hx hb hts hiX2 hown hK hP 0 rfl rfl 2 (by decide) (hts (.fieldLink RX2 18 "GreenJars$Shelf" "jars" "I") (by decide +kernel)) (fun _ h9 => h9) rfl dX2_add_64 ?_
    refine lv_iconst (v := (5 : Int32)) hx hb dX2_add_67 (by decide) ?_
    refine lv_iconst (v := (0 : Int32)) hx hb dX2_add_68 (by decide) ?_
    obtain ⟨y12, hc13, hf⟩ := g_b1 hf
    refine g_wVv (As := [.int v_jars, .int (5 : Int32), .int (0 : Int32)]) (rest := []) (wr := []) (wn := (w_X2_add cI cZ cG o o_cells o_standing v_jars v_weeks y12)) ⟨hx, hb, hml, hown, hts⟩ (c_X2_put l dC dI cI cZ cG o o_cells o_standing H.size  v_jars v_weeks y10 v_jars (5 : Int32) (0 : Int32) hc13) (cwV 3 hts gX2_add_X2_put rfl rfl rfl (by decide +kernel) ⟨Nat.le_of_ble_eq_true rfl, Nat.le_of_ble_eq_true rfl⟩) hK hN hP hD hS hA [0, 1] [] [0, 1] rfl rfl (by decide) rfl (by decide) (by decide) rfl (by decide) (va_recv hK hP (ci := 2) (q0 := 0) rfl rfl) rfl hl.1 rfl (Nat.le_of_ble_eq_true rfl) dX2_add_69 ⟨Nat.zero_le _, Nat.zero_le _⟩ (fun H locs hP hD hS => ?_)
    refine lv_aload_n hx hb dX2_add_72 rfl (lv_at hl 0 rfl) ?_
    refine lv_aload_n hx hb dX2_add_73 rfl (lv_at hl 0 rfl) ?_
    refine va_get (D := (dC, dI)) (ci := 2) (v := .int v_jars) (C := RX2) (T := TX2) (N := 4) hx hb hts hiX2 hown hK hP 0 rfl rfl 2 (by decide) (hts (.fieldLink RX2 18 "GreenJars$Shelf" "jars" "I") (by decide +kernel)) (fun _ h9 => h9) rfl dX2_add_74 ?_
    refine lv_bipush (v := (6 : Int32)) hx hb dX2_add_77 (by decide +kernel) ?_
    refine lv_iconst (v := (1 : Int32)) hx hb dX2_add_79 (by decide) ?_
    obtain ⟨y14, hc15, hf⟩ := g_b1 hf
    refine g_wVv (As := [.int v_jars, .int (6 : Int32), .int (1 : Int32)]) (rest := []) (wr := []) (wn := (w_X2_add cI cZ cG o o_cells o_standing v_jars v_weeks y14)) ⟨hx, hb, hml, hown, hts⟩ (c_X2_put l dC dI cI cZ cG o o_cells o_standing H.size  v_jars v_weeks y12 v_jars (6 : Int32) (1 : Int32) hc15) (cwV 3 hts gX2_add_X2_put rfl rfl rfl (by decide +kernel) ⟨Nat.le_of_ble_eq_true rfl, Nat.le_of_ble_eq_true rfl⟩) hK hN hP hD hS hA [0, 1] [] [0, 1] rfl rfl (by decide) rfl (by decide) (by decide) rfl (by decide) (va_recv hK hP (ci := 2) (q0 := 0) rfl rfl) rfl hl.1 rfl (Nat.le_of_ble_eq_true rfl) dX2_add_80 ⟨Nat.zero_le _, Nat.zero_le _⟩ (fun H locs hP hD hS => ?_)
    refine lv_aload_n hx hb dX2_add_83 rfl (lv_at hl 0 rfl) ?_
    refine lv_aload_n hx hb dX2_add_84 rfl (lv_at hl 0 rfl) ?_
    refine va_get (D := (dC, dI)) (ci := 2) (v := .int v_jars) (C := RX2) (T := TX2) (N := 4) hx hb hts hiX2 hown hK hP 0 rfl rfl 2 (by decide) (hts (.fieldLink RX2 18 "GreenJars$Shelf" "jars" "I") (by decide +kernel)) (fun _ h9 => h9) rfl dX2_add_85 ?_
    refine lv_bipush (v := (7 : Int32)) hx hb dX2_add_88 (by decide +kernel) ?_
    refine lv_iconst (v := (0 : Int32)) hx hb dX2_add_90 (by decide) ?_
    obtain ⟨y16, hc17, hf⟩ := g_b1 hf
    refine g_wVv (As := [.int v_jars, .int (7 : Int32), .int (0 : Int32)]) (rest := []) (wr := []) (wn := (w_X2_add cI cZ cG o o_cells o_standing v_jars v_weeks y16)) ⟨hx, hb, hml, hown, hts⟩ (c_X2_put l dC dI cI cZ cG o o_cells o_standing H.size  v_jars v_weeks y14 v_jars (7 : Int32) (0 : Int32) hc17) (cwV 3 hts gX2_add_X2_put rfl rfl rfl (by decide +kernel) ⟨Nat.le_of_ble_eq_true rfl, Nat.le_of_ble_eq_true rfl⟩) hK hN hP hD hS hA [0, 1] [] [0, 1] rfl rfl (by decide) rfl (by decide) (by decide) rfl (by decide) (va_recv hK hP (ci := 2) (q0 := 0) rfl rfl) rfl hl.1 rfl (Nat.le_of_ble_eq_true rfl) dX2_add_91 ⟨Nat.zero_le _, Nat.zero_le _⟩ (fun H locs hP hD hS => ?_)
    refine lv_aload_n hx hb dX2_add_94 rfl (lv_at hl 0 rfl) ?_
    refine lv_dup hx hb dX2_add_95 rfl ?_
    refine va_get (D := (dC, dI)) (ci := 2) (v := .int v_jars) (C := RX2) (T := TX2) (N := 4) hx hb hts hiX2 hown hK hP 0 rfl rfl 2 (by decide) (hts (.fieldLink RX2 18 "GreenJars$Shelf" "jars" "I") (by decide +kernel)) (fun _ h9 => h9) rfl dX2_add_96 ?_
    refine lv_iconst (v := (1 : Int32)) hx hb dX2_add_99 (by decide) ?_
    refine lv_iadd hx hb dX2_add_100 ?_
    refine va_put (D := (dC, dI)) (ci := 2) (v := .int (v_jars + (1 : Int32))) (ty := .int) (C := RX2) (T := TX2) (N := 4) hx hb hts hiX2 tyX2 tyX2_ok nmX2 hown hK hP hD hS 0 rfl rfl 2 (by decide) (hts (.fieldLink RX2 18 "GreenJars$Shelf" "jars" "I") (by decide +kernel)) (fun _ h9 => h9) rfl (by decide +kernel) rfl rfl (Nat.le_of_ble_eq_true rfl) dX2_add_101 (fun H locs hP hD hS => ?_)
    have hP : va_P (dC, dI) vwCl (w_X2_add cI cZ cG o o_cells o_standing (v_jars + (1 : Int32)) v_weeks y16) H := hP
    have hD : va_D A (w_X2_add cI cZ cG o o_cells o_standing (v_jars + (1 : Int32)) v_weeks y16) := hD
    rw [hQ]
    cases hf
    exact W.vret hx hb hr (fun t ht hW => ⟨⟨(), rfl, trivial, by rw [ht]; exact hP, va_K.moved hW.alike hK, hD⟩, hS.F ht⟩) hS.2.2 dX2_add_104
  · have hf := g_neg c1 hf
    rw [hQ]
    cases hf
    exact W.vret hx hb hr (fun t ht hW => ⟨⟨(), rfl, trivial, by rw [ht]; exact hP, va_K.moved hW.alike hK, hD⟩, hS.F ht⟩) hS.2.2 dX2_add_9
abbrev rm_X2_copy : Room := { frames := 1, cells := 0, slots := 0, locals := 26 }
abbrev w_X2_copy (cI cZ cG : ClassId) (o : Nat) (o_cells : Nat) (o_standing : Nat) (q1 : Nat) (q1_cells : Nat) (q1_standing : Nat) (v_jars : Int32) (v_weeks : Int32) (f_cells : Nat → Int32) (v_q1_jars : Int32) (v_q1_weeks : Int32) (f_q1_cells : Nat → Int32) : va_W := [(o, .inr (2, [.ref o_cells, .ref o_standing, .int v_jars, .int v_weeks])), (o_cells, .inl (cI, 48, .inl f_cells)), (q1, .inr (2, [.ref q1_cells, .ref q1_standing, .int v_q1_jars, .int v_q1_weeks])), (q1_cells, .inl (cI, 48, .inl f_q1_cells))]
set_option maxHeartbeats 4000000 in
set_option maxRecDepth 100000 in
theorem c_X2_copy (l : Launch) (dC : Nat → ClassId) (dI : Nat → Nat → Nat) (cI cZ cG : ClassId) (o : Nat) (o_cells : Nat) (o_standing : Nat) (q1 : Nat) (q1_cells : Nat) (q1_standing : Nat) (sz : Nat) (v_jars : Int32) (v_weeks : Int32) (f_cells : Nat → Int32) (v_q1_jars : Int32) (v_q1_weeks : Int32) (f_q1_cells : Nat → Int32) {n_jars : Int32} {n_weeks : Int32} {n_cells : Nat → Int32} (hf : x2_copy v_jars v_weeks f_cells v_q1_jars v_q1_weeks f_q1_cells = some (n_jars, n_weeks, n_cells)) : Met l yX2_copy wsX2_copy rm_X2_copy (va_Pc [.ref o, .ref q1] (gW (dC, dI) vwCl (gT cI cZ cG) (w_X2_copy cI cZ cG o o_cells o_standing q1 q1_cells q1_standing v_jars v_weeks f_cells v_q1_jars v_q1_weeks f_q1_cells) sz)) (va_Qv (fun _ => True) (gE (dC, dI) vwCl (gT cI cZ cG) (w_X2_copy cI cZ cG o o_cells o_standing q1 q1_cells q1_standing n_jars n_weeks n_cells v_q1_jars v_q1_weeks f_q1_cells) (va_A (w_X2_copy cI cZ cG o o_cells o_standing q1 q1_cells q1_standing v_jars v_weeks f_cells v_q1_jars v_q1_weeks f_q1_cells) sz)) (va_A (w_X2_copy cI cZ cG o o_cells o_standing q1 q1_cells q1_standing v_jars v_weeks f_cells v_q1_jars v_q1_weeks f_q1_cells) sz)) 0 0 (va_A (w_X2_copy cI cZ cG o o_cells o_standing q1 q1_cells q1_standing v_jars v_weeks f_cells v_q1_jars v_q1_weeks f_q1_cells) sz) := by
  refine Met.ofW (cc := cX2_copy) (maxL := 2) (ret := none) (by decide) rfl ?_
  intro p e s m args below meth c s₁ B hml hv
  obtain ⟨rfl, hv⟩ := hv
  obtain ⟨hsz, hP, hK, hN, hD0⟩ := hv
  have hx := B.exec
  have hb := B.bytes
  have hr := B.returns
  have hts := atoms_spec (ws := wsX2_copy) B.pre
  have hown : s.vm.findClass RX2 = some m.cls := findClass_of_methodNamed B.named
  have hlocks := B.notSynchronized
  have hiX2 : ∀ w ∈ u_ws RX2 TX2 4, w ∈ wsX2_copy := fun w h => List.mem_cons_of_mem _ (List.mem_append_right _ h)
  subst hsz
  have hD := hD0.self (sz := s.heap.size)
  generalize hAe : va_A (w_X2_copy cI cZ cG o o_cells o_standing q1 q1_cells q1_standing v_jars v_weeks f_cells v_q1_jars v_q1_weeks f_q1_cells) s.heap.size = A at hD ⊢
  have hA : ∀ q : Nat, s.heap.size ≤ q → A q := fun q h => by rw [← hAe]; exact Or.inr h
  clear hD0
  have hS : va_S A s.heap s.heap [] := va_S.rf
  have hP : va_P (dC, dI) vwCl (w_X2_copy cI cZ cG o o_cells o_standing q1 q1_cells q1_standing v_jars v_weeks f_cells v_q1_jars v_q1_weeks f_q1_cells) s.heap := hP
  obtain ⟨Q, hQ⟩ : ∃ Q : State → Prop, Q = MQ below (va_Qv (fun _ => True) (gE (dC, dI) vwCl (gT cI cZ cG) (w_X2_copy cI cZ cG o o_cells o_standing q1 q1_cells q1_standing n_jars n_weeks n_cells v_q1_jars v_q1_weeks f_q1_cells) A) A) (([Value.ref o, Value.ref q1] : List Value).toArray) s 0 0 A := ⟨_, rfl⟩
  have hl := lv_entry ([.ref o, .ref q1]) (n := 2) (Nat.le_of_ble_eq_true rfl)
  rw [← hQ, lg_entry_eq]
  generalize (lg_sl ([.ref o, .ref q1]) ++ List.replicate (2 - (lg_sl ([.ref o, .ref q1])).length) Slot.unset).toArray = ls at hl ⊢
  have hl : lv_has ls 2 [(0, .ref o), (1, .ref q1)] := hl
  generalize hH : s.heap = H at hP hS ⊢
  have hS : va_S A s.heap H [] := by rw [hH]; exact hS
  generalize hlc : ([] : List Loc) = locs at hS ⊢
  show W p l e rm_X2_copy s m (([Value.ref o, Value.ref q1] : List Value).toArray) below meth c H locs 0 0 Q (F0 m 0 ls [])
  unfold x2_copy at hf
  refine lv_aload_n hx hb dX2_copy_0 rfl (lv_at hl 1 rfl) ?_
  refine va_get (D := (dC, dI)) (ci := 2) (v := .ref q1_cells) (C := RX2) (T := TX2) (N := 4) hx hb hts hiX2 hown hK hP 2 rfl rfl 0 (by decide) (hts (.fieldLink RX2 11 "GreenJars$Shelf" "cells" "[I") (by decide +kernel)) (fun _ h9 => h9) rfl dX2_copy_1 ?_
  refine lv_iconst (v := (0 : Int32)) hx hb dX2_copy_4 (by decide) ?_
  refine lv_aload_n hx hb dX2_copy_5 rfl (lv_at hl 0 rfl) ?_
  refine va_get (D := (dC, dI)) (ci := 2) (v := .ref o_cells) (C := RX2) (T := TX2) (N := 4) hx hb hts hiX2 hown hK hP 0 rfl rfl 0 (by decide) (hts (.fieldLink RX2 11 "GreenJars$Shelf" "cells" "[I") (by decide +kernel)) (fun _ h9 => h9) rfl dX2_copy_6 ?_
  refine lv_iconst (v := (0 : Int32)) hx hb dX2_copy_9 (by decide) ?_
  refine lv_bipush (v := (48 : Int32)) hx hb dX2_copy_10 (by decide +kernel) ?_
  refine va_copyi (ty := .int) hx hb (hml.trans hl.1.symm) hown (hts (.methodLink RX2 37 arraycopyName) (by decide +kernel)) (hts (.native arraycopyName) (by decide +kernel)) (hts (.static arraycopyName) (by decide +kernel)) (hts (.initialized "java/lang/System") (by decide +kernel)) hK hP hD hS 3 1 0 0 rfl rfl rfl rfl rfl (by decide) (by decide) (by decide) (by decide) (by decide) (fun _ _ => rfl) (Nat.le_of_ble_eq_true rfl) (Nat.le_of_ble_eq_true rfl) dX2_copy_12 (fun H locs hP hD hS => ?_)
  have hP : va_P (dC, dI) vwCl (w_X2_copy cI cZ cG o o_cells o_standing q1 q1_cells q1_standing v_jars v_weeks (va_cpy f_q1_cells f_cells 0 0 48) v_q1_jars v_q1_weeks f_q1_cells) H := hP
  have hD : va_D A (w_X2_copy cI cZ cG o o_cells o_standing q1 q1_cells q1_standing v_jars v_weeks (va_cpy f_q1_cells f_cells 0 0 48) v_q1_jars v_q1_weeks f_q1_cells) := hD
  refine lv_aload_n hx hb dX2_copy_15 rfl (lv_at hl 0 rfl) ?_
  refine lv_aload_n hx hb dX2_copy_16 rfl (lv_at hl 1 rfl) ?_
  refine va_get (D := (dC, dI)) (ci := 2) (v := .int v_q1_jars) (C := RX2) (T := TX2) (N := 4) hx hb hts hiX2 hown hK hP 2 rfl rfl 2 (by decide) (hts (.fieldLink RX2 18 "GreenJars$Shelf" "jars" "I") (by decide +kernel)) (fun _ h9 => h9) rfl dX2_copy_17 ?_
  refine va_put (D := (dC, dI)) (ci := 2) (v := .int v_q1_jars) (ty := .int) (C := RX2) (T := TX2) (N := 4) hx hb hts hiX2 tyX2 tyX2_ok nmX2 hown hK hP hD hS 0 rfl rfl 2 (by decide) (hts (.fieldLink RX2 18 "GreenJars$Shelf" "jars" "I") (by decide +kernel)) (fun _ h9 => h9) rfl (by decide +kernel) rfl rfl (Nat.le_of_ble_eq_true rfl) dX2_copy_20 (fun H locs hP hD hS => ?_)
  have hP : va_P (dC, dI) vwCl (w_X2_copy cI cZ cG o o_cells o_standing q1 q1_cells q1_standing v_q1_jars v_weeks (va_cpy f_q1_cells f_cells 0 0 48) v_q1_jars v_q1_weeks f_q1_cells) H := hP
  have hD : va_D A (w_X2_copy cI cZ cG o o_cells o_standing q1 q1_cells q1_standing v_q1_jars v_weeks (va_cpy f_q1_cells f_cells 0 0 48) v_q1_jars v_q1_weeks f_q1_cells) := hD
  refine lv_aload_n hx hb dX2_copy_23 rfl (lv_at hl 0 rfl) ?_
  refine lv_aload_n hx hb dX2_copy_24 rfl (lv_at hl 1 rfl) ?_
  refine va_get (D := (dC, dI)) (ci := 2) (v := .int v_q1_weeks) (C := RX2) (T := TX2) (N := 4) hx hb hts hiX2 hown hK hP 2 rfl rfl 3 (by decide) (hts (.fieldLink RX2 22 "GreenJars$Shelf" "weeks" "I") (by decide +kernel)) (fun _ h9 => h9) rfl dX2_copy_25 ?_
  refine va_put (D := (dC, dI)) (ci := 2) (v := .int v_q1_weeks) (ty := .int) (C := RX2) (T := TX2) (N := 4) hx hb hts hiX2 tyX2 tyX2_ok nmX2 hown hK hP hD hS 0 rfl rfl 3 (by decide) (hts (.fieldLink RX2 22 "GreenJars$Shelf" "weeks" "I") (by decide +kernel)) (fun _ h9 => h9) rfl (by decide +kernel) rfl rfl (Nat.le_of_ble_eq_true rfl) dX2_copy_28 (fun H locs hP hD hS => ?_)
  have hP : va_P (dC, dI) vwCl (w_X2_copy cI cZ cG o o_cells o_standing q1 q1_cells q1_standing v_q1_jars v_q1_weeks (va_cpy f_q1_cells f_cells 0 0 48) v_q1_jars v_q1_weeks f_q1_cells) H := hP
  have hD : va_D A (w_X2_copy cI cZ cG o o_cells o_standing q1 q1_cells q1_standing v_q1_jars v_q1_weeks (va_cpy f_q1_cells f_cells 0 0 48) v_q1_jars v_q1_weeks f_q1_cells) := hD
  rw [hQ]
  cases hf
  exact W.vret hx hb hr (fun t ht hW => ⟨⟨(), rfl, trivial, by rw [ht]; exact hP, va_K.moved hW.alike hK, hD⟩, hS.F ht⟩) hS.2.2 dX2_copy_31
abbrev rm_X2_storeIn : Room := { frames := 1, cells := 0, slots := 0, locals := 26 }
abbrev w_X2_storeIn (cI cZ cG : ClassId) (o : Nat) (o_cells : Nat) (o_standing : Nat) (q1 : Nat) (v_jars : Int32) (v_weeks : Int32) (f_cells : Nat → Int32) (f_q1 : Nat → Int32) : va_W := [(o, .inr (2, [.ref o_cells, .ref o_standing, .int v_jars, .int v_weeks])), (o_cells, .inl (cI, 48, .inl f_cells)), (q1, .inl (cI, 49, .inl f_q1))]
set_option maxHeartbeats 4000000 in
set_option maxRecDepth 100000 in
theorem c_X2_storeIn (l : Launch) (dC : Nat → ClassId) (dI : Nat → Nat → Nat) (cI cZ cG : ClassId) (o : Nat) (o_cells : Nat) (o_standing : Nat) (q1 : Nat) (sz : Nat) (v_jars : Int32) (v_weeks : Int32) (f_cells : Nat → Int32) (f_q1 : Nat → Int32) {n_q1 : Nat → Int32} (hf : x2_storeIn v_weeks f_cells f_q1 = some n_q1) : Met l yX2_storeIn wsX2_storeIn rm_X2_storeIn (va_Pc [.ref o, .ref q1] (gW (dC, dI) vwCl (gT cI cZ cG) (w_X2_storeIn cI cZ cG o o_cells o_standing q1 v_jars v_weeks f_cells f_q1) sz)) (va_Qv (fun _ => True) (gE (dC, dI) vwCl (gT cI cZ cG) (w_X2_storeIn cI cZ cG o o_cells o_standing q1 v_jars v_weeks f_cells n_q1) (va_A (w_X2_storeIn cI cZ cG o o_cells o_standing q1 v_jars v_weeks f_cells f_q1) sz)) (va_A (w_X2_storeIn cI cZ cG o o_cells o_standing q1 v_jars v_weeks f_cells f_q1) sz)) 0 0 (va_A (w_X2_storeIn cI cZ cG o o_cells o_standing q1 v_jars v_weeks f_cells f_q1) sz) := by
  refine Met.ofW (cc := cX2_storeIn) (maxL := 2) (ret := none) (by decide) rfl ?_
  intro p e s m args below meth c s₁ B hml hv
  obtain ⟨rfl, hv⟩ := hv
  obtain ⟨hsz, hP, hK, hN, hD0⟩ := hv
  have hx := B.exec
  have hb := B.bytes
  have hr := B.returns
  have hts := atoms_spec (ws := wsX2_storeIn) B.pre
  have hown : s.vm.findClass RX2 = some m.cls := findClass_of_methodNamed B.named
  have hlocks := B.notSynchronized
  have hiX2 : ∀ w ∈ u_ws RX2 TX2 4, w ∈ wsX2_storeIn := fun w h => List.mem_cons_of_mem _ (List.mem_append_right _ h)
  subst hsz
  have hD := hD0.self (sz := s.heap.size)
  generalize hAe : va_A (w_X2_storeIn cI cZ cG o o_cells o_standing q1 v_jars v_weeks f_cells f_q1) s.heap.size = A at hD ⊢
  have hA : ∀ q : Nat, s.heap.size ≤ q → A q := fun q h => by rw [← hAe]; exact Or.inr h
  clear hD0
  have hS : va_S A s.heap s.heap [] := va_S.rf
  have hP : va_P (dC, dI) vwCl (w_X2_storeIn cI cZ cG o o_cells o_standing q1 v_jars v_weeks f_cells f_q1) s.heap := hP
  obtain ⟨Q, hQ⟩ : ∃ Q : State → Prop, Q = MQ below (va_Qv (fun _ => True) (gE (dC, dI) vwCl (gT cI cZ cG) (w_X2_storeIn cI cZ cG o o_cells o_standing q1 v_jars v_weeks f_cells n_q1) A) A) (([Value.ref o, Value.ref q1] : List Value).toArray) s 0 0 A := ⟨_, rfl⟩
  have hl := lv_entry ([.ref o, .ref q1]) (n := 2) (Nat.le_of_ble_eq_true rfl)
  rw [← hQ, lg_entry_eq]
  generalize (lg_sl ([.ref o, .ref q1]) ++ List.replicate (2 - (lg_sl ([.ref o, .ref q1])).length) Slot.unset).toArray = ls at hl ⊢
  have hl : lv_has ls 2 [(0, .ref o), (1, .ref q1)] := hl
  generalize hH : s.heap = H at hP hS ⊢
  have hS : va_S A s.heap H [] := by rw [hH]; exact hS
  generalize hlc : ([] : List Loc) = locs at hS ⊢
  show W p l e rm_X2_storeIn s m (([Value.ref o, Value.ref q1] : List Value).toArray) below meth c H locs 0 0 Q (F0 m 0 ls [])
  unfold x2_storeIn at hf
  refine lv_aload_n hx hb dX2_storeIn_0 rfl (lv_at hl 1 rfl) ?_
  refine va_alen (v := (49 : Int32)) hx hb hK hP 2 0 rfl rfl rfl dX2_storeIn_1 ?_
  refine lv_bipush (v := (49 : Int32)) hx hb dX2_storeIn_2 (by decide +kernel) ?_
  refine lv_icmp_lt (tgt := 27) hx hb dX2_storeIn_4 (by decide) (fun c1 => ?_) (fun c1 => ?_)
  · have hf := g_pos c1 hf
    rw [hQ]
    cases hf
    exact W.vret hx hb hr (fun t ht hW => ⟨⟨(), rfl, trivial, by rw [ht]; exact hP, va_K.moved hW.alike hK, hD⟩, hS.F ht⟩) hS.2.2 dX2_storeIn_27
  · have hf := g_neg c1 hf
    refine lv_aload_n hx hb dX2_storeIn_7 rfl (lv_at hl 0 rfl) ?_
    refine va_get (D := (dC, dI)) (ci := 2) (v := .ref o_cells) (C := RX2) (T := TX2) (N := 4) hx hb hts hiX2 hown hK hP 0 rfl rfl 0 (by decide) (hts (.fieldLink RX2 11 "GreenJars$Shelf" "cells" "[I") (by decide +kernel)) (fun _ h9 => h9) rfl dX2_storeIn_8 ?_
    refine lv_iconst (v := (0 : Int32)) hx hb dX2_storeIn_11 (by decide) ?_
    refine lv_aload_n hx hb dX2_storeIn_12 rfl (lv_at hl 1 rfl) ?_
    refine lv_iconst (v := (0 : Int32)) hx hb dX2_storeIn_13 (by decide) ?_
    refine lv_bipush (v := (48 : Int32)) hx hb dX2_storeIn_14 (by decide +kernel) ?_
    refine va_copyi (ty := .int) hx hb (hml.trans hl.1.symm) hown (hts (.methodLink RX2 37 arraycopyName) (by decide +kernel)) (hts (.native arraycopyName) (by decide +kernel)) (hts (.static arraycopyName) (by decide +kernel)) (hts (.initialized "java/lang/System") (by decide +kernel)) hK hP hD hS 1 2 0 0 rfl rfl rfl rfl rfl (by decide) (by decide) (by decide) (by decide) (by decide) (fun _ _ => rfl) (Nat.le_of_ble_eq_true rfl) (Nat.le_of_ble_eq_true rfl) dX2_storeIn_16 (fun H locs hP hD hS => ?_)
    have hP : va_P (dC, dI) vwCl (w_X2_storeIn cI cZ cG o o_cells o_standing q1 v_jars v_weeks f_cells (va_cpy f_cells f_q1 0 0 48)) H := hP
    have hD : va_D A (w_X2_storeIn cI cZ cG o o_cells o_standing q1 v_jars v_weeks f_cells (va_cpy f_cells f_q1 0 0 48)) := hD
    refine lv_aload_n hx hb dX2_storeIn_19 rfl (lv_at hl 1 rfl) ?_
    refine lv_bipush (v := (48 : Int32)) hx hb dX2_storeIn_20 (by decide +kernel) ?_
    refine lv_aload_n hx hb dX2_storeIn_22 rfl (lv_at hl 0 rfl) ?_
    refine va_get (D := (dC, dI)) (ci := 2) (v := .int v_weeks) (C := RX2) (T := TX2) (N := 4) hx hb hts hiX2 hown hK hP 0 rfl rfl 3 (by decide) (hts (.fieldLink RX2 22 "GreenJars$Shelf" "weeks" "I") (by decide +kernel)) (fun _ h9 => h9) rfl dX2_storeIn_23 ?_
    obtain ⟨h2, hf⟩ := g_chk hf
    refine va_iast hx hb hK hP hD hS 2 0 rfl rfl (gIn_vp h2) dX2_storeIn_26 (fun H locs hP hD hS => ?_)
    have hP : va_P (dC, dI) vwCl (w_X2_storeIn cI cZ cG o o_cells o_standing q1 v_jars v_weeks f_cells (upd (va_cpy f_cells f_q1 0 0 48) (48 : Int32).toNatClampNeg v_weeks)) H := hP
    have hD : va_D A (w_X2_storeIn cI cZ cG o o_cells o_standing q1 v_jars v_weeks f_cells (upd (va_cpy f_cells f_q1 0 0 48) (48 : Int32).toNatClampNeg v_weeks)) := hD
    rw [hQ]
    cases hf
    exact W.vret hx hb hr (fun t ht hW => ⟨⟨(), rfl, trivial, by rw [ht]; exact hP, va_K.moved hW.alike hK, hD⟩, hS.F ht⟩) hS.2.2 dX2_storeIn_27
abbrev rm_X2_fetchFrom : Room := { frames := 1, cells := 0, slots := 0, locals := 26 }
abbrev w_X2_fetchFrom (cI cZ cG : ClassId) (o : Nat) (o_cells : Nat) (o_standing : Nat) (q1 : Nat) (v_jars : Int32) (v_weeks : Int32) (f_cells : Nat → Int32) (f_q1 : Nat → Int32) : va_W := [(o, .inr (2, [.ref o_cells, .ref o_standing, .int v_jars, .int v_weeks])), (o_cells, .inl (cI, 48, .inl f_cells)), (q1, .inl (cI, 49, .inl f_q1))]
set_option maxHeartbeats 4000000 in
set_option maxRecDepth 100000 in
theorem c_X2_fetchFrom (l : Launch) (dC : Nat → ClassId) (dI : Nat → Nat → Nat) (cI cZ cG : ClassId) (o : Nat) (o_cells : Nat) (o_standing : Nat) (q1 : Nat) (sz : Nat) (v_jars : Int32) (v_weeks : Int32) (f_cells : Nat → Int32) (f_q1 : Nat → Int32) {n_weeks : Int32} {n_cells : Nat → Int32} (hf : x2_fetchFrom v_weeks f_cells f_q1 = some (n_weeks, n_cells)) : Met l yX2_fetchFrom wsX2_fetchFrom rm_X2_fetchFrom (va_Pc [.ref o, .ref q1] (gW (dC, dI) vwCl (gT cI cZ cG) (w_X2_fetchFrom cI cZ cG o o_cells o_standing q1 v_jars v_weeks f_cells f_q1) sz)) (va_Qv (fun _ => True) (gE (dC, dI) vwCl (gT cI cZ cG) (w_X2_fetchFrom cI cZ cG o o_cells o_standing q1 v_jars n_weeks n_cells f_q1) (va_A (w_X2_fetchFrom cI cZ cG o o_cells o_standing q1 v_jars v_weeks f_cells f_q1) sz)) (va_A (w_X2_fetchFrom cI cZ cG o o_cells o_standing q1 v_jars v_weeks f_cells f_q1) sz)) 0 0 (va_A (w_X2_fetchFrom cI cZ cG o o_cells o_standing q1 v_jars v_weeks f_cells f_q1) sz) := by
  refine Met.ofW (cc := cX2_fetchFrom) (maxL := 2) (ret := none) (by decide) rfl ?_
  intro p e s m args below meth c s₁ B hml hv
  obtain ⟨rfl, hv⟩ := hv
  obtain ⟨hsz, hP, hK, hN, hD0⟩ := hv
  have hx := B.exec
  have hb := B.bytes
  have hr := B.returns
  have hts := atoms_spec (ws := wsX2_fetchFrom) B.pre
  have hown : s.vm.findClass RX2 = some m.cls := findClass_of_methodNamed B.named
  have hlocks := B.notSynchronized
  have hiX2 : ∀ w ∈ u_ws RX2 TX2 4, w ∈ wsX2_fetchFrom := fun w h => List.mem_cons_of_mem _ (List.mem_append_right _ h)
  subst hsz
  have hD := hD0.self (sz := s.heap.size)
  generalize hAe : va_A (w_X2_fetchFrom cI cZ cG o o_cells o_standing q1 v_jars v_weeks f_cells f_q1) s.heap.size = A at hD ⊢
  have hA : ∀ q : Nat, s.heap.size ≤ q → A q := fun q h => by rw [← hAe]; exact Or.inr h
  clear hD0
  have hS : va_S A s.heap s.heap [] := va_S.rf
  have hP : va_P (dC, dI) vwCl (w_X2_fetchFrom cI cZ cG o o_cells o_standing q1 v_jars v_weeks f_cells f_q1) s.heap := hP
  obtain ⟨Q, hQ⟩ : ∃ Q : State → Prop, Q = MQ below (va_Qv (fun _ => True) (gE (dC, dI) vwCl (gT cI cZ cG) (w_X2_fetchFrom cI cZ cG o o_cells o_standing q1 v_jars n_weeks n_cells f_q1) A) A) (([Value.ref o, Value.ref q1] : List Value).toArray) s 0 0 A := ⟨_, rfl⟩
  have hl := lv_entry ([.ref o, .ref q1]) (n := 2) (Nat.le_of_ble_eq_true rfl)
  rw [← hQ, lg_entry_eq]
  generalize (lg_sl ([.ref o, .ref q1]) ++ List.replicate (2 - (lg_sl ([.ref o, .ref q1])).length) Slot.unset).toArray = ls at hl ⊢
  have hl : lv_has ls 2 [(0, .ref o), (1, .ref q1)] := hl
  generalize hH : s.heap = H at hP hS ⊢
  have hS : va_S A s.heap H [] := by rw [hH]; exact hS
  generalize hlc : ([] : List Loc) = locs at hS ⊢
  show W p l e rm_X2_fetchFrom s m (([Value.ref o, Value.ref q1] : List Value).toArray) below meth c H locs 0 0 Q (F0 m 0 ls [])
  unfold x2_fetchFrom at hf
  refine lv_aload_n hx hb dX2_fetchFrom_0 rfl (lv_at hl 1 rfl) ?_
  refine va_alen (v := (49 : Int32)) hx hb hK hP 2 0 rfl rfl rfl dX2_fetchFrom_1 ?_
  refine lv_bipush (v := (49 : Int32)) hx hb dX2_fetchFrom_2 (by decide +kernel) ?_
  refine lv_icmp_lt (tgt := 27) hx hb dX2_fetchFrom_4 (by decide) (fun c1 => ?_) (fun c1 => ?_)
  · have hf := g_pos c1 hf
    rw [hQ]
    cases hf
    exact W.vret hx hb hr (fun t ht hW => ⟨⟨(), rfl, trivial, by rw [ht]; exact hP, va_K.moved hW.alike hK, hD⟩, hS.F ht⟩) hS.2.2 dX2_fetchFrom_27
  · have hf := g_neg c1 hf
    refine lv_aload_n hx hb dX2_fetchFrom_7 rfl (lv_at hl 1 rfl) ?_
    refine lv_iconst (v := (0 : Int32)) hx hb dX2_fetchFrom_8 (by decide) ?_
    refine lv_aload_n hx hb dX2_fetchFrom_9 rfl (lv_at hl 0 rfl) ?_
    refine va_get (D := (dC, dI)) (ci := 2) (v := .ref o_cells) (C := RX2) (T := TX2) (N := 4) hx hb hts hiX2 hown hK hP 0 rfl rfl 0 (by decide) (hts (.fieldLink RX2 11 "GreenJars$Shelf" "cells" "[I") (by decide +kernel)) (fun _ h9 => h9) rfl dX2_fetchFrom_10 ?_
    refine lv_iconst (v := (0 : Int32)) hx hb dX2_fetchFrom_13 (by decide) ?_
    refine lv_bipush (v := (48 : Int32)) hx hb dX2_fetchFrom_14 (by decide +kernel) ?_
    refine va_copyi (ty := .int) hx hb (hml.trans hl.1.symm) hown (hts (.methodLink RX2 37 arraycopyName) (by decide +kernel)) (hts (.native arraycopyName) (by decide +kernel)) (hts (.static arraycopyName) (by decide +kernel)) (hts (.initialized "java/lang/System") (by decide +kernel)) hK hP hD hS 2 1 0 0 rfl rfl rfl rfl rfl (by decide) (by decide) (by decide) (by decide) (by decide) (fun _ _ => rfl) (Nat.le_of_ble_eq_true rfl) (Nat.le_of_ble_eq_true rfl) dX2_fetchFrom_16 (fun H locs hP hD hS => ?_)
    have hP : va_P (dC, dI) vwCl (w_X2_fetchFrom cI cZ cG o o_cells o_standing q1 v_jars v_weeks (va_cpy f_q1 f_cells 0 0 48) f_q1) H := hP
    have hD : va_D A (w_X2_fetchFrom cI cZ cG o o_cells o_standing q1 v_jars v_weeks (va_cpy f_q1 f_cells 0 0 48) f_q1) := hD
    refine lv_aload_n hx hb dX2_fetchFrom_19 rfl (lv_at hl 0 rfl) ?_
    refine lv_aload_n hx hb dX2_fetchFrom_20 rfl (lv_at hl 1 rfl) ?_
    refine lv_bipush (v := (48 : Int32)) hx hb dX2_fetchFrom_21 (by decide +kernel) ?_
    obtain ⟨h2, hf⟩ := g_chk hf
    refine va_iald hx hb hK hP 2 0 rfl rfl (gIn_vp h2) dX2_fetchFrom_23 ?_
    refine va_put (D := (dC, dI)) (ci := 2) (v := .int (f_q1 (48 : Int32).toNatClampNeg)) (ty := .int) (C := RX2) (T := TX2) (N := 4) hx hb hts hiX2 tyX2 tyX2_ok nmX2 hown hK hP hD hS 0 rfl rfl 3 (by decide) (hts (.fieldLink RX2 22 "GreenJars$Shelf" "weeks" "I") (by decide +kernel)) (fun _ h9 => h9) rfl (by decide +kernel) rfl rfl (Nat.le_of_ble_eq_true rfl) dX2_fetchFrom_24 (fun H locs hP hD hS => ?_)
    have hP : va_P (dC, dI) vwCl (w_X2_fetchFrom cI cZ cG o o_cells o_standing q1 v_jars (f_q1 (48 : Int32).toNatClampNeg) (va_cpy f_q1 f_cells 0 0 48) f_q1) H := hP
    have hD : va_D A (w_X2_fetchFrom cI cZ cG o o_cells o_standing q1 v_jars (f_q1 (48 : Int32).toNatClampNeg) (va_cpy f_q1 f_cells 0 0 48) f_q1) := hD
    rw [hQ]
    cases hf
    exact W.vret hx hb hr (fun t ht hW => ⟨⟨(), rfl, trivial, by rw [ht]; exact hP, va_K.moved hW.alike hK, hD⟩, hS.F ht⟩) hS.2.2 dX2_fetchFrom_27
abbrev rm_X2_copyWithout : Room := { frames := 2, cells := 0, slots := 0, locals := 47 }
abbrev w_X2_copyWithout (cI cZ cG : ClassId) (o : Nat) (o_cells : Nat) (o_standing : Nat) (q1 : Nat) (q1_cells : Nat) (q1_standing : Nat) (v_jars : Int32) (v_weeks : Int32) (f_cells : Nat → Int32) (v_q1_jars : Int32) (v_q1_weeks : Int32) (f_q1_cells : Nat → Int32) : va_W := [(o, .inr (2, [.ref o_cells, .ref o_standing, .int v_jars, .int v_weeks])), (o_cells, .inl (cI, 48, .inl f_cells)), (q1, .inr (2, [.ref q1_cells, .ref q1_standing, .int v_q1_jars, .int v_q1_weeks])), (q1_cells, .inl (cI, 48, .inl f_q1_cells))]
set_option maxHeartbeats 4000000 in
set_option maxRecDepth 100000 in
theorem c_X2_copyWithout (l : Launch) (dC : Nat → ClassId) (dI : Nat → Nat → Nat) (cI cZ cG : ClassId) {N : Nat} (o : Nat) (o_cells : Nat) (o_standing : Nat) (q1 : Nat) (q1_cells : Nat) (q1_standing : Nat) (sz : Nat) (v_jars : Int32) (v_weeks : Int32) (f_cells : Nat → Int32) (v_q1_jars : Int32) (v_q1_weeks : Int32) (f_q1_cells : Nat → Int32) (a2 : Int32) {n_jars : Int32} {n_weeks : Int32} {n_cells : Nat → Int32} (hf : x2_copyWithout N v_jars v_weeks f_cells v_q1_jars v_q1_weeks f_q1_cells a2 = some (n_jars, n_weeks, n_cells)) : Met l yX2_copyWithout wsX2_copyWithout rm_X2_copyWithout (va_Pc [.ref o, .ref q1, .int a2] (gW (dC, dI) vwCl (gT cI cZ cG) (w_X2_copyWithout cI cZ cG o o_cells o_standing q1 q1_cells q1_standing v_jars v_weeks f_cells v_q1_jars v_q1_weeks f_q1_cells) sz)) (va_Qv (fun _ => True) (gE (dC, dI) vwCl (gT cI cZ cG) (w_X2_copyWithout cI cZ cG o o_cells o_standing q1 q1_cells q1_standing n_jars n_weeks n_cells v_q1_jars v_q1_weeks f_q1_cells) (va_A (w_X2_copyWithout cI cZ cG o o_cells o_standing q1 q1_cells q1_standing v_jars v_weeks f_cells v_q1_jars v_q1_weeks f_q1_cells) sz)) (va_A (w_X2_copyWithout cI cZ cG o o_cells o_standing q1 q1_cells q1_standing v_jars v_weeks f_cells v_q1_jars v_q1_weeks f_q1_cells) sz)) 0 0 (va_A (w_X2_copyWithout cI cZ cG o o_cells o_standing q1 q1_cells q1_standing v_jars v_weeks f_cells v_q1_jars v_q1_weeks f_q1_cells) sz) := by
  refine Met.ofW (cc := cX2_copyWithout) (maxL := 4) (ret := none) (by decide) rfl ?_
  intro p e s m args below meth c s₁ B hml hv
  obtain ⟨rfl, hv⟩ := hv
  obtain ⟨hsz, hP, hK, hN, hD0⟩ := hv
  have hx := B.exec
  have hb := B.bytes
  have hr := B.returns
  have hts := atoms_spec (ws := wsX2_copyWithout) B.pre
  have hown : s.vm.findClass RX2 = some m.cls := findClass_of_methodNamed B.named
  have hlocks := B.notSynchronized
  have hiX2 : ∀ w ∈ u_ws RX2 TX2 4, w ∈ wsX2_copyWithout := fun w h => List.mem_cons_of_mem _ (List.mem_append_right _ h)
  subst hsz
  have hD := hD0.self (sz := s.heap.size)
  generalize hAe : va_A (w_X2_copyWithout cI cZ cG o o_cells o_standing q1 q1_cells q1_standing v_jars v_weeks f_cells v_q1_jars v_q1_weeks f_q1_cells) s.heap.size = A at hD ⊢
  have hA : ∀ q : Nat, s.heap.size ≤ q → A q := fun q h => by rw [← hAe]; exact Or.inr h
  clear hD0
  have hS : va_S A s.heap s.heap [] := va_S.rf
  have hP : va_P (dC, dI) vwCl (w_X2_copyWithout cI cZ cG o o_cells o_standing q1 q1_cells q1_standing v_jars v_weeks f_cells v_q1_jars v_q1_weeks f_q1_cells) s.heap := hP
  obtain ⟨Q, hQ⟩ : ∃ Q : State → Prop, Q = MQ below (va_Qv (fun _ => True) (gE (dC, dI) vwCl (gT cI cZ cG) (w_X2_copyWithout cI cZ cG o o_cells o_standing q1 q1_cells q1_standing n_jars n_weeks n_cells v_q1_jars v_q1_weeks f_q1_cells) A) A) (([Value.ref o, Value.ref q1, Value.int a2] : List Value).toArray) s 0 0 A := ⟨_, rfl⟩
  have hl := lv_entry ([.ref o, .ref q1, .int a2]) (n := 4) (Nat.le_of_ble_eq_true rfl)
  rw [← hQ, lg_entry_eq]
  generalize (lg_sl ([.ref o, .ref q1, .int a2]) ++ List.replicate (4 - (lg_sl ([.ref o, .ref q1, .int a2])).length) Slot.unset).toArray = ls at hl ⊢
  have hl : lv_has ls 4 [(0, .ref o), (1, .ref q1), (2, .int a2)] := hl
  generalize hH : s.heap = H at hP hS ⊢
  have hS : va_S A s.heap H [] := by rw [hH]; exact hS
  generalize hlc : ([] : List Loc) = locs at hS ⊢
  show W p l e rm_X2_copyWithout s m (([Value.ref o, Value.ref q1, Value.int a2] : List Value).toArray) below meth c H locs 0 0 Q (F0 m 0 ls [])
  have L7 : ∀ (n7 : Nat), ∀ (x3 : Int32) (y_jars : Int32) (y_weeks : Int32) (y_cells : Nat → Int32) (H : Heap) (locs : List Loc) (ls : Array Slot), x2_copyWithout_b7 N v_q1_jars v_q1_weeks f_q1_cells a2 n7 x3 y_jars y_weeks y_cells = some (n_jars, n_weeks, n_cells) → lv_has ls 4 [(0, .ref o), (2, .int a2), (3, .int x3)] → va_P (dC, dI) vwCl (w_X2_copyWithout cI cZ cG o o_cells o_standing q1 q1_cells q1_standing y_jars y_weeks y_cells v_q1_jars v_q1_weeks f_q1_cells) H → va_D A (w_X2_copyWithout cI cZ cG o o_cells o_standing q1 q1_cells q1_standing y_jars y_weeks y_cells v_q1_jars v_q1_weeks f_q1_cells) → va_S A s.heap H locs → W p l e rm_X2_copyWithout s m (([Value.ref o, Value.ref q1, Value.int a2] : List Value).toArray) below meth c H locs 0 0 Q (F0 m 7 ls []) := by
    intro n7
    induction n7 with
    | zero =>
      intro x3 y_jars y_weeks y_cells H locs ls hf hl hP hD hS
      exact g_no hf
    | succ n7 ih7 =>
      intro x3 y_jars y_weeks y_cells H locs ls hf hl hP hD hS
      unfold x2_copyWithout_b7 at hf
      refine lv_iload_n hx hb dX2_copyWithout_7 rfl (lv_at hl 2 rfl) ?_
      refine lv_aload_n hx hb dX2_copyWithout_8 rfl (lv_at hl 0 rfl) ?_
      refine va_get (D := (dC, dI)) (ci := 2) (v := .int y_jars) (C := RX2) (T := TX2) (N := 4) hx hb hts hiX2 hown hK hP 0 rfl rfl 2 (by decide) (hts (.fieldLink RX2 18 "GreenJars$Shelf" "jars" "I") (by decide +kernel)) (fun _ h9 => h9) rfl dX2_copyWithout_9 ?_
      refine lv_icmp_ge (tgt := 37) hx hb dX2_copyWithout_12 (by decide) (fun c1 => ?_) (fun c1 => ?_)
      · have hf := g_pos c1 hf
        rw [hQ]
        cases hf
        exact W.vret hx hb hr (fun t ht hW => ⟨⟨(), rfl, trivial, by rw [ht]; exact hP, va_K.moved hW.alike hK, hD⟩, hS.F ht⟩) hS.2.2 dX2_copyWithout_37
      · have hf := g_neg c1 hf
        refine lv_iload_n hx hb dX2_copyWithout_15 rfl (lv_at hl 1 rfl) ?_
        refine lv_iload_n hx hb dX2_copyWithout_16 rfl (lv_at hl 2 rfl) ?_
        obtain ⟨r2, hc3, hf⟩ := g_b1 hf
        refine g_rSN (As := [.int a2, .int x3]) (rest := []) ⟨hx, hb, hml, hown, hts⟩ (c_X7_isIn l dC dI cI cZ cG    a2 x3 hc3) ⟨va_cnB (host := "GreenJars") 2 hts gX2_copyWithout_X7_isIn_n47 rfl rfl rfl (hN _ (List.mem_of_getElem? (i := 14) rfl)) (hts (.initialized RX7) (by decide +kernel)) (by decide +kernel) ⟨Nat.le_of_ble_eq_true rfl, Nat.le_of_ble_eq_true rfl⟩, hts (.static yX7_isIn) (by decide +kernel), trivial⟩ hK hN (hP.sub [] rfl) rfl hl.1 rfl (Nat.le_of_ble_eq_true rfl) dX2_copyWithout_17 ⟨Nat.zero_le _, Nat.zero_le _⟩ ?_
        refine lv_if_eq (tgt := 31) hx hb dX2_copyWithout_20 (by decide) (fun c4 => ?_) (fun c4 => ?_)
        · have hf := g_pos c4 hf
          refine lv_iinc (v := (x3 + (1 : Int32))) (lv' := [(3, .int (x3 + (1 : Int32))), (0, .ref o), (2, .int a2)]) hx hb dX2_copyWithout_31 hl (k := 2) rfl rfl (by decide) rfl (fun ls hl => ?_)
          refine lv_goto (tgt := 7) hx hb dX2_copyWithout_34 (by decide) ?_
          exact ih7 (x3 + (1 : Int32)) y_jars y_weeks y_cells H locs ls hf (lv_sub hl [1, 2, 0] rfl) hP hD hS
        · have hf := g_neg c4 hf
          refine lv_aload_n hx hb dX2_copyWithout_23 rfl (lv_at hl 0 rfl) ?_
          refine lv_iload_n hx hb dX2_copyWithout_24 rfl (lv_at hl 2 rfl) ?_
          refine lv_bipush (v := (7 : Int32)) hx hb dX2_copyWithout_25 (by decide +kernel) ?_
          refine lv_iconst (v := (2 : Int32)) hx hb dX2_copyWithout_27 (by decide) ?_
          obtain ⟨y5, hc6, hf⟩ := g_b1 hf
          refine g_wVv (As := [.int x3, .int (7 : Int32), .int (2 : Int32)]) (rest := []) (wr := [(q1, .inr (2, [.ref q1_cells, .ref q1_standing, .int v_q1_jars, .int v_q1_weeks])), (q1_cells, .inl (cI, 48, .inl f_q1_cells))]) (wn := (w_X2_copyWithout cI cZ cG o o_cells o_standing q1 q1_cells q1_standing y_jars y_weeks y5 v_q1_jars v_q1_weeks f_q1_cells)) ⟨hx, hb, hml, hown, hts⟩ (c_X2_put l dC dI cI cZ cG o o_cells o_standing H.size  y_jars y_weeks y_cells x3 (7 : Int32) (2 : Int32) hc6) (cwV 3 hts gX2_copyWithout_X2_put rfl rfl rfl (by decide +kernel) ⟨Nat.le_of_ble_eq_true rfl, Nat.le_of_ble_eq_true rfl⟩) hK hN hP hD hS hA [0, 1] [2, 3] [2, 3, 0, 1] rfl rfl (by decide) rfl (by decide) (by decide) rfl (by decide) (va_recv hK hP (ci := 2) (q0 := 0) rfl rfl) rfl hl.1 rfl (Nat.le_of_ble_eq_true rfl) dX2_copyWithout_28 ⟨Nat.zero_le _, Nat.zero_le _⟩ (fun H locs hP hD hS => ?_)
          refine lv_iinc (v := (x3 + (1 : Int32))) (lv' := [(3, .int (x3 + (1 : Int32))), (0, .ref o), (2, .int a2)]) hx hb dX2_copyWithout_31 hl (k := 2) rfl rfl (by decide) rfl (fun ls hl => ?_)
          refine lv_goto (tgt := 7) hx hb dX2_copyWithout_34 (by decide) ?_
          exact ih7 (x3 + (1 : Int32)) y_jars y_weeks y5 H locs ls hf (lv_sub hl [1, 2, 0] rfl) hP hD hS
  unfold x2_copyWithout at hf
  refine lv_aload_n hx hb dX2_copyWithout_0 rfl (lv_at hl 0 rfl) ?_
  refine lv_aload_n hx hb dX2_copyWithout_1 rfl (lv_at hl 1 rfl) ?_
  obtain ⟨y7, y8, y9, hc10, hf⟩ := g_b3 hf
  refine g_wVv (As := [.ref q1]) (rest := []) (wr := []) (wn := (w_X2_copyWithout cI cZ cG o o_cells o_standing q1 q1_cells q1_standing y7 y8 y9 v_q1_jars v_q1_weeks f_q1_cells)) ⟨hx, hb, hml, hown, hts⟩ (c_X2_copy l dC dI cI cZ cG o o_cells o_standing q1 q1_cells q1_standing H.size  v_jars v_weeks f_cells v_q1_jars v_q1_weeks f_q1_cells hc10) (cwV 1 hts gX2_copyWithout_X2_copy rfl rfl rfl (by decide +kernel) ⟨Nat.le_of_ble_eq_true rfl, Nat.le_of_ble_eq_true rfl⟩) hK hN hP hD hS hA [0, 1, 2, 3] [] [0, 1, 2, 3] rfl rfl (by decide) rfl (by decide) (by decide) rfl (by decide) (va_recv hK hP (ci := 2) (q0 := 0) rfl rfl) rfl hl.1 rfl (Nat.le_of_ble_eq_true rfl) dX2_copyWithout_2 ⟨Nat.zero_le _, Nat.zero_le _⟩ (fun H locs hP hD hS => ?_)
  refine lv_iconst (v := (0 : Int32)) hx hb dX2_copyWithout_5 (by decide) ?_
  refine lv_istore_n (lv' := [(3, .int (0 : Int32)), (0, .ref o), (1, .ref q1), (2, .int a2)]) hx hb dX2_copyWithout_6 rfl hl (by decide) rfl (fun ls hl => ?_)
  exact L7 N (0 : Int32) y7 y8 y9 H locs ls hf (lv_sub hl [1, 3, 0] rfl) hP hD hS
abbrev rm_X2_lookOn : Room := { frames := 1, cells := 0, slots := 0, locals := 23 }
abbrev w_X2_lookOn (cI cZ cG : ClassId) (o : Nat) (o_cells : Nat) (o_standing : Nat) (v_jars : Int32) (v_weeks : Int32) (f_cells : Nat → Int32) : va_W := [(o, .inr (2, [.ref o_cells, .ref o_standing, .int v_jars, .int v_weeks])), (o_cells, .inl (cI, 48, .inl f_cells))]
set_option maxHeartbeats 4000000 in
set_option maxRecDepth 100000 in
theorem c_X2_lookOn (l : Launch) (dC : Nat → ClassId) (dI : Nat → Nat → Nat) (cI cZ cG : ClassId) (o : Nat) (o_cells : Nat) (o_standing : Nat) (sz : Nat) (v_jars : Int32) (v_weeks : Int32) (f_cells : Nat → Int32) (a1 : Int32) {n_cells : Nat → Int32} (hf : x2_lookOn f_cells a1 = some n_cells) : Met l yX2_lookOn wsX2_lookOn rm_X2_lookOn (va_Pc [.ref o, .int a1] (gW (dC, dI) vwCl (gT cI cZ cG) (w_X2_lookOn cI cZ cG o o_cells o_standing v_jars v_weeks f_cells) sz)) (va_Qv (fun _ => True) (gE (dC, dI) vwCl (gT cI cZ cG) (w_X2_lookOn cI cZ cG o o_cells o_standing v_jars v_weeks n_cells) (va_A (w_X2_lookOn cI cZ cG o o_cells o_standing v_jars v_weeks f_cells) sz)) (va_A (w_X2_lookOn cI cZ cG o o_cells o_standing v_jars v_weeks f_cells) sz)) 0 0 (va_A (w_X2_lookOn cI cZ cG o o_cells o_standing v_jars v_weeks f_cells) sz) := by
  refine Met.ofW (cc := cX2_lookOn) (maxL := 2) (ret := none) (by decide) rfl ?_
  intro p e s m args below meth c s₁ B hml hv
  obtain ⟨rfl, hv⟩ := hv
  obtain ⟨hsz, hP, hK, hN, hD0⟩ := hv
  have hx := B.exec
  have hb := B.bytes
  have hr := B.returns
  have hts := atoms_spec (ws := wsX2_lookOn) B.pre
  have hown : s.vm.findClass RX2 = some m.cls := findClass_of_methodNamed B.named
  have hlocks := B.notSynchronized
  have hiX2 : ∀ w ∈ u_ws RX2 TX2 4, w ∈ wsX2_lookOn := fun w h => List.mem_cons_of_mem _ (List.mem_append_right _ h)
  subst hsz
  have hD := hD0.self (sz := s.heap.size)
  generalize hAe : va_A (w_X2_lookOn cI cZ cG o o_cells o_standing v_jars v_weeks f_cells) s.heap.size = A at hD ⊢
  have hA : ∀ q : Nat, s.heap.size ≤ q → A q := fun q h => by rw [← hAe]; exact Or.inr h
  clear hD0
  have hS : va_S A s.heap s.heap [] := va_S.rf
  have hP : va_P (dC, dI) vwCl (w_X2_lookOn cI cZ cG o o_cells o_standing v_jars v_weeks f_cells) s.heap := hP
  obtain ⟨Q, hQ⟩ : ∃ Q : State → Prop, Q = MQ below (va_Qv (fun _ => True) (gE (dC, dI) vwCl (gT cI cZ cG) (w_X2_lookOn cI cZ cG o o_cells o_standing v_jars v_weeks n_cells) A) A) (([Value.ref o, Value.int a1] : List Value).toArray) s 0 0 A := ⟨_, rfl⟩
  have hl := lv_entry ([.ref o, .int a1]) (n := 2) (Nat.le_of_ble_eq_true rfl)
  rw [← hQ, lg_entry_eq]
  generalize (lg_sl ([.ref o, .int a1]) ++ List.replicate (2 - (lg_sl ([.ref o, .int a1])).length) Slot.unset).toArray = ls at hl ⊢
  have hl : lv_has ls 2 [(0, .ref o), (1, .int a1)] := hl
  generalize hH : s.heap = H at hP hS ⊢
  have hS : va_S A s.heap H [] := by rw [hH]; exact hS
  generalize hlc : ([] : List Loc) = locs at hS ⊢
  show W p l e rm_X2_lookOn s m (([Value.ref o, Value.int a1] : List Value).toArray) below meth c H locs 0 0 Q (F0 m 0 ls [])
  unfold x2_lookOn at hf
  refine lv_aload_n hx hb dX2_lookOn_0 rfl (lv_at hl 0 rfl) ?_
  refine lv_iload_n hx hb dX2_lookOn_1 rfl (lv_at hl 1 rfl) ?_
  refine lv_bipush (v := (6 : Int32)) hx hb dX2_lookOn_2 (by decide +kernel) ?_
  refine lv_aload_n hx hb dX2_lookOn_4 rfl (lv_at hl 0 rfl) ?_
  refine lv_iload_n hx hb dX2_lookOn_5 rfl (lv_at hl 1 rfl) ?_
  refine lv_bipush (v := (6 : Int32)) hx hb dX2_lookOn_6 (by decide +kernel) ?_
  obtain ⟨r1, hc2, hf⟩ := g_b1 hf
  refine g_rV (As := [.int a1, .int (6 : Int32)]) (rest := [.int (6 : Int32), .int a1, .ref o]) ⟨hx, hb, hml, hown, hts⟩ (c_X2_part l dC dI cI cZ cG o o_cells o_standing  v_jars v_weeks f_cells a1 (6 : Int32) hc2) (cwV 2 hts gX2_lookOn_X2_part rfl rfl rfl (by decide +kernel) ⟨Nat.le_of_ble_eq_true rfl, Nat.le_of_ble_eq_true rfl⟩) hK hN (hP.sub [0, 1] rfl) (va_recv hK hP (ci := 2) (q0 := 0) rfl rfl) rfl hl.1 rfl (Nat.le_of_ble_eq_true rfl) dX2_lookOn_8 ⟨Nat.zero_le _, Nat.zero_le _⟩ ?_
  refine lv_iconst (v := (1 : Int32)) hx hb dX2_lookOn_11 (by decide) ?_
  refine lv_iadd hx hb dX2_lookOn_12 ?_
  refine lv_iconst (v := (4 : Int32)) hx hb dX2_lookOn_13 (by decide) ?_
  refine lv_irem hx hb dX2_lookOn_14 (by decide) ?_
  obtain ⟨y3, hc4, hf⟩ := g_b1 hf
  refine g_wVv (As := [.int a1, .int (6 : Int32), .int ((r1 + (1 : Int32)) - (r1 + (1 : Int32)) / (4 : Int32) * (4 : Int32))]) (rest := []) (wr := []) (wn := (w_X2_lookOn cI cZ cG o o_cells o_standing v_jars v_weeks y3)) ⟨hx, hb, hml, hown, hts⟩ (c_X2_put l dC dI cI cZ cG o o_cells o_standing H.size  v_jars v_weeks f_cells a1 (6 : Int32) ((r1 + (1 : Int32)) - (r1 + (1 : Int32)) / (4 : Int32) * (4 : Int32)) hc4) (cwV 3 hts gX2_lookOn_X2_put rfl rfl rfl (by decide +kernel) ⟨Nat.le_of_ble_eq_true rfl, Nat.le_of_ble_eq_true rfl⟩) hK hN hP hD hS hA [0, 1] [] [0, 1] rfl rfl (by decide) rfl (by decide) (by decide) rfl (by decide) (va_recv hK hP (ci := 2) (q0 := 0) rfl rfl) rfl hl.1 rfl (Nat.le_of_ble_eq_true rfl) dX2_lookOn_15 ⟨Nat.zero_le _, Nat.zero_le _⟩ (fun H locs hP hD hS => ?_)
  rw [hQ]
  cases hf
  exact W.vret hx hb hr (fun t ht hW => ⟨⟨(), rfl, trivial, by rw [ht]; exact hP, va_K.moved hW.alike hK, hD⟩, hS.F ht⟩) hS.2.2 dX2_lookOn_18
abbrev rm_X2_passWeekIn : Room := { frames := 2, cells := 0, slots := 0, locals := 44 }
abbrev w_X2_passWeekIn (cI cZ cG : ClassId) (o : Nat) (o_cells : Nat) (o_standing : Nat) (v_jars : Int32) (v_weeks : Int32) (f_cells : Nat → Int32) : va_W := [(o, .inr (2, [.ref o_cells, .ref o_standing, .int v_jars, .int v_weeks])), (o_cells, .inl (cI, 48, .inl f_cells))]
set_option maxHeartbeats 4000000 in
set_option maxRecDepth 100000 in
theorem c_X2_passWeekIn (l : Launch) (dC : Nat → ClassId) (dI : Nat → Nat → Nat) (cI cZ cG : ClassId) (o : Nat) (o_cells : Nat) (o_standing : Nat) (sz : Nat) (v_jars : Int32) (v_weeks : Int32) (f_cells : Nat → Int32) (a1 : Int32) (a2 : Int32) {n_cells : Nat → Int32} (hf : x2_passWeekIn f_cells a1 a2 = some n_cells) : Met l yX2_passWeekIn wsX2_passWeekIn rm_X2_passWeekIn (va_Pc [.ref o, .int a1, .int a2] (gW (dC, dI) vwCl (gT cI cZ cG) (w_X2_passWeekIn cI cZ cG o o_cells o_standing v_jars v_weeks f_cells) sz)) (va_Qv (fun _ => True) (gE (dC, dI) vwCl (gT cI cZ cG) (w_X2_passWeekIn cI cZ cG o o_cells o_standing v_jars v_weeks n_cells) (va_A (w_X2_passWeekIn cI cZ cG o o_cells o_standing v_jars v_weeks f_cells) sz)) (va_A (w_X2_passWeekIn cI cZ cG o o_cells o_standing v_jars v_weeks f_cells) sz)) 0 0 (va_A (w_X2_passWeekIn cI cZ cG o o_cells o_standing v_jars v_weeks f_cells) sz) := by
  refine Met.ofW (cc := cX2_passWeekIn) (maxL := 4) (ret := none) (by decide) rfl ?_
  intro p e s m args below meth c s₁ B hml hv
  obtain ⟨rfl, hv⟩ := hv
  obtain ⟨hsz, hP, hK, hN, hD0⟩ := hv
  have hx := B.exec
  have hb := B.bytes
  have hr := B.returns
  have hts := atoms_spec (ws := wsX2_passWeekIn) B.pre
  have hown : s.vm.findClass RX2 = some m.cls := findClass_of_methodNamed B.named
  have hlocks := B.notSynchronized
  have hiX2 : ∀ w ∈ u_ws RX2 TX2 4, w ∈ wsX2_passWeekIn := fun w h => List.mem_cons_of_mem _ (List.mem_append_right _ h)
  subst hsz
  have hD := hD0.self (sz := s.heap.size)
  generalize hAe : va_A (w_X2_passWeekIn cI cZ cG o o_cells o_standing v_jars v_weeks f_cells) s.heap.size = A at hD ⊢
  have hA : ∀ q : Nat, s.heap.size ≤ q → A q := fun q h => by rw [← hAe]; exact Or.inr h
  clear hD0
  have hS : va_S A s.heap s.heap [] := va_S.rf
  have hP : va_P (dC, dI) vwCl (w_X2_passWeekIn cI cZ cG o o_cells o_standing v_jars v_weeks f_cells) s.heap := hP
  obtain ⟨Q, hQ⟩ : ∃ Q : State → Prop, Q = MQ below (va_Qv (fun _ => True) (gE (dC, dI) vwCl (gT cI cZ cG) (w_X2_passWeekIn cI cZ cG o o_cells o_standing v_jars v_weeks n_cells) A) A) (([Value.ref o, Value.int a1, Value.int a2] : List Value).toArray) s 0 0 A := ⟨_, rfl⟩
  have hl := lv_entry ([.ref o, .int a1, .int a2]) (n := 4) (Nat.le_of_ble_eq_true rfl)
  rw [← hQ, lg_entry_eq]
  generalize (lg_sl ([.ref o, .int a1, .int a2]) ++ List.replicate (4 - (lg_sl ([.ref o, .int a1, .int a2])).length) Slot.unset).toArray = ls at hl ⊢
  have hl : lv_has ls 4 [(0, .ref o), (1, .int a1), (2, .int a2)] := hl
  generalize hH : s.heap = H at hP hS ⊢
  have hS : va_S A s.heap H [] := by rw [hH]; exact hS
  generalize hlc : ([] : List Loc) = locs at hS ⊢
  show W p l e rm_X2_passWeekIn s m (([Value.ref o, Value.int a1, Value.int a2] : List Value).toArray) below meth c H locs 0 0 Q (F0 m 0 ls [])
  have J65 : ∀ (x3 : Int32) (y_cells : Nat → Int32) (H : Heap) (locs : List Loc) (ls : Array Slot), x2_passWeekIn_b65 a1 a2 x3 y_cells = some n_cells → lv_has ls 4 [(0, .ref o), (1, .int a1), (3, .int x3)] → va_P (dC, dI) vwCl (w_X2_passWeekIn cI cZ cG o o_cells o_standing v_jars v_weeks y_cells) H → va_D A (w_X2_passWeekIn cI cZ cG o o_cells o_standing v_jars v_weeks y_cells) → va_S A s.heap H locs → W p l e rm_X2_passWeekIn s m (([Value.ref o, Value.int a1, Value.int a2] : List Value).toArray) below meth c H locs 0 0 Q (F0 m 65 ls []) := by
    intro x3 y_cells H locs ls hf hl hP hD hS
    unfold x2_passWeekIn_b65 at hf
    refine lv_iload_n hx hb dX2_passWeekIn_65 rfl (lv_at hl 2 rfl) ?_
    refine lv_iconst (v := (1 : Int32)) hx hb dX2_passWeekIn_66 (by decide) ?_
    refine lv_icmp_ne (tgt := 75) hx hb dX2_passWeekIn_67 (by decide) (fun c1 => ?_) (fun c1 => ?_)
    · have hf := g_neg c1 hf
      rw [hQ]
      cases hf
      exact W.vret hx hb hr (fun t ht hW => ⟨⟨(), rfl, trivial, by rw [ht]; exact hP, va_K.moved hW.alike hK, hD⟩, hS.F ht⟩) hS.2.2 dX2_passWeekIn_75
    · have hf := g_pos c1 hf
      refine lv_aload_n hx hb dX2_passWeekIn_70 rfl (lv_at hl 0 rfl) ?_
      refine lv_iload_n hx hb dX2_passWeekIn_71 rfl (lv_at hl 1 rfl) ?_
      obtain ⟨y2, hc3, hf⟩ := g_b1 hf
      refine g_wVv (As := [.int a1]) (rest := []) (wr := []) (wn := (w_X2_passWeekIn cI cZ cG o o_cells o_standing v_jars v_weeks y2)) ⟨hx, hb, hml, hown, hts⟩ (c_X2_lookOn l dC dI cI cZ cG o o_cells o_standing H.size  v_jars v_weeks y_cells a1 hc3) (cwV 1 hts gX2_passWeekIn_X2_lookOn rfl rfl rfl (by decide +kernel) ⟨Nat.le_of_ble_eq_true rfl, Nat.le_of_ble_eq_true rfl⟩) hK hN hP hD hS hA [0, 1] [] [0, 1] rfl rfl (by decide) rfl (by decide) (by decide) rfl (by decide) (va_recv hK hP (ci := 2) (q0 := 0) rfl rfl) rfl hl.1 rfl (Nat.le_of_ble_eq_true rfl) dX2_passWeekIn_72 ⟨Nat.zero_le _, Nat.zero_le _⟩ (fun H locs hP hD hS => ?_)
      rw [hQ]
      cases hf
      exact W.vret hx hb hr (fun t ht hW => ⟨⟨(), rfl, trivial, by rw [ht]; exact hP, va_K.moved hW.alike hK, hD⟩, hS.F ht⟩) hS.2.2 dX2_passWeekIn_75
  have J37 : ∀ (x3 : Int32) (y_cells : Nat → Int32) (H : Heap) (locs : List Loc) (ls : Array Slot), x2_passWeekIn_b37 a1 a2 x3 y_cells = some n_cells → lv_has ls 4 [(0, .ref o), (1, .int a1), (2, .int a2), (3, .int x3)] → va_P (dC, dI) vwCl (w_X2_passWeekIn cI cZ cG o o_cells o_standing v_jars v_weeks y_cells) H → va_D A (w_X2_passWeekIn cI cZ cG o o_cells o_standing v_jars v_weeks y_cells) → va_S A s.heap H locs → W p l e rm_X2_passWeekIn s m (([Value.ref o, Value.int a1, Value.int a2] : List Value).toArray) below meth c H locs 0 0 Q (F0 m 37 ls []) := by
    intro x3 y_cells H locs ls hf hl hP hD hS
    unfold x2_passWeekIn_b37 at hf
    refine lv_iload_n hx hb dX2_passWeekIn_37 rfl (lv_at hl 2 rfl) ?_
    refine lv_if_ne (tgt := 65) hx hb dX2_passWeekIn_38 (by decide) (fun c4 => ?_) (fun c4 => ?_)
    · have hf := g_neg c4 hf
      exact J65 x3 y_cells H locs ls hf (lv_sub hl [0, 1, 3] rfl) hP hD hS
    · have hf := g_pos c4 hf
      refine lv_iload_n hx hb dX2_passWeekIn_41 rfl (lv_at hl 3 rfl) ?_
      refine lv_iconst (v := (2 : Int32)) hx hb dX2_passWeekIn_42 (by decide) ?_
      refine lv_icmp_eq (tgt := 65) hx hb dX2_passWeekIn_43 (by decide) (fun c5 => ?_) (fun c5 => ?_)
      · have hf := g_pos c5 hf
        exact J65 x3 y_cells H locs ls hf (lv_sub hl [0, 1, 3] rfl) hP hD hS
      · have hf := g_neg c5 hf
        refine lv_aload_n hx hb dX2_passWeekIn_46 rfl (lv_at hl 0 rfl) ?_
        refine lv_iload_n hx hb dX2_passWeekIn_47 rfl (lv_at hl 1 rfl) ?_
        refine lv_iconst (v := (5 : Int32)) hx hb dX2_passWeekIn_48 (by decide) ?_
        refine lv_aload_n hx hb dX2_passWeekIn_49 rfl (lv_at hl 0 rfl) ?_
        refine lv_iload_n hx hb dX2_passWeekIn_50 rfl (lv_at hl 1 rfl) ?_
        refine lv_iconst (v := (5 : Int32)) hx hb dX2_passWeekIn_51 (by decide) ?_
        obtain ⟨r6, hc7, hf⟩ := g_b1 hf
        refine g_rV (As := [.int a1, .int (5 : Int32)]) (rest := [.int (5 : Int32), .int a1, .ref o]) ⟨hx, hb, hml, hown, hts⟩ (c_X2_part l dC dI cI cZ cG o o_cells o_standing  v_jars v_weeks y_cells a1 (5 : Int32) hc7) (cwV 2 hts gX2_passWeekIn_X2_part rfl rfl rfl (by decide +kernel) ⟨Nat.le_of_ble_eq_true rfl, Nat.le_of_ble_eq_true rfl⟩) hK hN (hP.sub [0, 1] rfl) (va_recv hK hP (ci := 2) (q0 := 0) rfl rfl) rfl hl.1 rfl (Nat.le_of_ble_eq_true rfl) dX2_passWeekIn_52 ⟨Nat.zero_le _, Nat.zero_le _⟩ ?_
        refine lv_iconst (v := (1 : Int32)) hx hb dX2_passWeekIn_55 (by decide) ?_
        refine lv_iadd hx hb dX2_passWeekIn_56 ?_
        refine lv_bipush (v := (9 : Int32)) hx hb dX2_passWeekIn_57 (by decide +kernel) ?_
        refine va_mmin hx hb (hml.trans hl.1.symm) hown (hts (.methodLink RX2 64 Lib.Math.min.name) (by decide +kernel)) (hts (.static Lib.Math.min.name) (by decide +kernel)) (hts (.initialized "java/lang/Math") (by decide +kernel)) (hts (.code Lib.Math.min.name Lib.Math.min.code 2 (some .int)) (by decide +kernel)) (Nat.le_of_ble_eq_true rfl) (Nat.le_of_ble_eq_true rfl) (Nat.zero_le _) (Nat.zero_le _) dX2_passWeekIn_59 ?_
        obtain ⟨y8, hc9, hf⟩ := g_b1 hf
        refine g_wVv (As := [.int a1, .int (5 : Int32), .int (if (9 : Int32) < (r6 + (1 : Int32)) then (9 : Int32) else (r6 + (1 : Int32)))]) (rest := []) (wr := []) (wn := (w_X2_passWeekIn cI cZ cG o o_cells o_standing v_jars v_weeks y8)) ⟨hx, hb, hml, hown, hts⟩ (c_X2_put l dC dI cI cZ cG o o_cells o_standing H.size  v_jars v_weeks y_cells a1 (5 : Int32) (if (9 : Int32) < (r6 + (1 : Int32)) then (9 : Int32) else (r6 + (1 : Int32))) hc9) (cwV 3 hts gX2_passWeekIn_X2_put rfl rfl rfl (by decide +kernel) ⟨Nat.le_of_ble_eq_true rfl, Nat.le_of_ble_eq_true rfl⟩) hK hN hP hD hS hA [0, 1] [] [0, 1] rfl rfl (by decide) rfl (by decide) (by decide) rfl (by decide) (va_recv hK hP (ci := 2) (q0 := 0) rfl rfl) rfl hl.1 rfl (Nat.le_of_ble_eq_true rfl) dX2_passWeekIn_62 ⟨Nat.zero_le _, Nat.zero_le _⟩ (fun H locs hP hD hS => ?_)
        exact J65 x3 y8 H locs ls hf (lv_sub hl [0, 1, 3] rfl) hP hD hS
  have J16 : ∀ (x3 : Int32) (y_cells : Nat → Int32) (H : Heap) (locs : List Loc) (ls : Array Slot), x2_passWeekIn_b16 a1 a2 x3 y_cells = some n_cells → lv_has ls 4 [(0, .ref o), (1, .int a1), (2, .int a2), (3, .int x3)] → va_P (dC, dI) vwCl (w_X2_passWeekIn cI cZ cG o o_cells o_standing v_jars v_weeks y_cells) H → va_D A (w_X2_passWeekIn cI cZ cG o o_cells o_standing v_jars v_weeks y_cells) → va_S A s.heap H locs → W p l e rm_X2_passWeekIn s m (([Value.ref o, Value.int a1, Value.int a2] : List Value).toArray) below meth c H locs 0 0 Q (F0 m 16 ls []) := by
    intro x3 y_cells H locs ls hf hl hP hD hS
    unfold x2_passWeekIn_b16 at hf
    refine lv_aload_n hx hb dX2_passWeekIn_16 rfl (lv_at hl 0 rfl) ?_
    refine lv_iload_n hx hb dX2_passWeekIn_17 rfl (lv_at hl 1 rfl) ?_
    refine lv_iconst (v := (1 : Int32)) hx hb dX2_passWeekIn_18 (by decide) ?_
    refine lv_aload_n hx hb dX2_passWeekIn_19 rfl (lv_at hl 0 rfl) ?_
    refine lv_iload_n hx hb dX2_passWeekIn_20 rfl (lv_at hl 1 rfl) ?_
    refine lv_iconst (v := (1 : Int32)) hx hb dX2_passWeekIn_21 (by decide) ?_
    obtain ⟨r10, hc11, hf⟩ := g_b1 hf
    refine g_rV (As := [.int a1, .int (1 : Int32)]) (rest := [.int (1 : Int32), .int a1, .ref o]) ⟨hx, hb, hml, hown, hts⟩ (c_X2_part l dC dI cI cZ cG o o_cells o_standing  v_jars v_weeks y_cells a1 (1 : Int32) hc11) (cwV 2 hts gX2_passWeekIn_X2_part rfl rfl rfl (by decide +kernel) ⟨Nat.le_of_ble_eq_true rfl, Nat.le_of_ble_eq_true rfl⟩) hK hN (hP.sub [0, 1] rfl) (va_recv hK hP (ci := 2) (q0 := 0) rfl rfl) rfl hl.1 rfl (Nat.le_of_ble_eq_true rfl) dX2_passWeekIn_22 ⟨Nat.zero_le _, Nat.zero_le _⟩ ?_
    refine lv_aload_n hx hb dX2_passWeekIn_25 rfl (lv_at hl 0 rfl) ?_
    refine lv_iload_n hx hb dX2_passWeekIn_26 rfl (lv_at hl 1 rfl) ?_
    refine lv_iconst (v := (2 : Int32)) hx hb dX2_passWeekIn_27 (by decide) ?_
    obtain ⟨r12, hc13, hf⟩ := g_b1 hf
    refine g_rV (As := [.int a1, .int (2 : Int32)]) (rest := [.int r10, .int (1 : Int32), .int a1, .ref o]) ⟨hx, hb, hml, hown, hts⟩ (c_X2_part l dC dI cI cZ cG o o_cells o_standing  v_jars v_weeks y_cells a1 (2 : Int32) hc13) (cwV 2 hts gX2_passWeekIn_X2_part rfl rfl rfl (by decide +kernel) ⟨Nat.le_of_ble_eq_true rfl, Nat.le_of_ble_eq_true rfl⟩) hK hN (hP.sub [0, 1] rfl) (va_recv hK hP (ci := 2) (q0 := 0) rfl rfl) rfl hl.1 rfl (Nat.le_of_ble_eq_true rfl) dX2_passWeekIn_28 ⟨Nat.zero_le _, Nat.zero_le _⟩ ?_
    obtain ⟨r14, hc15, hf⟩ := g_b1 hf
    refine g_rSN (As := [.int r10, .int r12]) (rest := [.int (1 : Int32), .int a1, .ref o]) ⟨hx, hb, hml, hown, hts⟩ (c_X7_ripened l dC dI cI cZ cG    r10 r12 hc15) ⟨va_cnB (host := "GreenJars") 2 hts gX2_passWeekIn_X7_ripened_n61 rfl rfl rfl (hN _ (List.mem_of_getElem? (i := 12) rfl)) (hts (.initialized RX7) (by decide +kernel)) (by decide +kernel) ⟨Nat.le_of_ble_eq_true rfl, Nat.le_of_ble_eq_true rfl⟩, hts (.static yX7_ripened) (by decide +kernel), trivial⟩ hK hN (hP.sub [] rfl) rfl hl.1 rfl (Nat.le_of_ble_eq_true rfl) dX2_passWeekIn_31 ⟨Nat.zero_le _, Nat.zero_le _⟩ ?_
    obtain ⟨y16, hc17, hf⟩ := g_b1 hf
    refine g_wVv (As := [.int a1, .int (1 : Int32), .int r14]) (rest := []) (wr := []) (wn := (w_X2_passWeekIn cI cZ cG o o_cells o_standing v_jars v_weeks y16)) ⟨hx, hb, hml, hown, hts⟩ (c_X2_put l dC dI cI cZ cG o o_cells o_standing H.size  v_jars v_weeks y_cells a1 (1 : Int32) r14 hc17) (cwV 3 hts gX2_passWeekIn_X2_put rfl rfl rfl (by decide +kernel) ⟨Nat.le_of_ble_eq_true rfl, Nat.le_of_ble_eq_true rfl⟩) hK hN hP hD hS hA [0, 1] [] [0, 1] rfl rfl (by decide) rfl (by decide) (by decide) rfl (by decide) (va_recv hK hP (ci := 2) (q0 := 0) rfl rfl) rfl hl.1 rfl (Nat.le_of_ble_eq_true rfl) dX2_passWeekIn_34 ⟨Nat.zero_le _, Nat.zero_le _⟩ (fun H locs hP hD hS => ?_)
    exact J37 x3 y16 H locs ls hf (lv_sub hl [0, 1, 2, 3] rfl) hP hD hS
  unfold x2_passWeekIn at hf
  refine lv_aload_n hx hb dX2_passWeekIn_0 rfl (lv_at hl 0 rfl) ?_
  refine lv_iload_n hx hb dX2_passWeekIn_1 rfl (lv_at hl 1 rfl) ?_
  refine lv_iconst (v := (3 : Int32)) hx hb dX2_passWeekIn_2 (by decide) ?_
  obtain ⟨r18, hc19, hf⟩ := g_b1 hf
  refine g_rV (As := [.int a1, .int (3 : Int32)]) (rest := []) ⟨hx, hb, hml, hown, hts⟩ (c_X2_part l dC dI cI cZ cG o o_cells o_standing  v_jars v_weeks f_cells a1 (3 : Int32) hc19) (cwV 2 hts gX2_passWeekIn_X2_part rfl rfl rfl (by decide +kernel) ⟨Nat.le_of_ble_eq_true rfl, Nat.le_of_ble_eq_true rfl⟩) hK hN (hP.sub [0, 1] rfl) (va_recv hK hP (ci := 2) (q0 := 0) rfl rfl) rfl hl.1 rfl (Nat.le_of_ble_eq_true rfl) dX2_passWeekIn_3 ⟨Nat.zero_le _, Nat.zero_le _⟩ ?_
  refine lv_istore_n (lv' := [(3, .int r18), (0, .ref o), (1, .int a1), (2, .int a2)]) hx hb dX2_passWeekIn_6 rfl hl (by decide) rfl (fun ls hl => ?_)
  refine lv_iload_n hx hb dX2_passWeekIn_7 rfl (lv_at hl 3 rfl) ?_
  refine lv_if_ne (tgt := 16) hx hb dX2_passWeekIn_8 (by decide) (fun c20 => ?_) (fun c20 => ?_)
  · have hf := g_neg c20 hf
    exact J16 r18 f_cells H locs ls hf (lv_sub hl [1, 2, 3, 0] rfl) hP hD hS
  · have hf := g_pos c20 hf
    refine lv_iload_n hx hb dX2_passWeekIn_11 rfl (lv_at hl 0 rfl) ?_
    refine lv_iconst (v := (3 : Int32)) hx hb dX2_passWeekIn_12 (by decide) ?_
    refine lv_icmp_eq (tgt := 37) hx hb dX2_passWeekIn_13 (by decide) (fun c21 => ?_) (fun c21 => ?_)
    · have hf := g_pos c21 hf
      exact J37 r18 f_cells H locs ls hf (lv_sub hl [1, 2, 3, 0] rfl) hP hD hS
    · have hf := g_neg c21 hf
      exact J16 r18 f_cells H locs ls hf (lv_sub hl [1, 2, 3, 0] rfl) hP hD hS
abbrev rm_X2_passWeek : Room := { frames := 3, cells := 0, slots := 0, locals := 67 }
abbrev w_X2_passWeek (cI cZ cG : ClassId) (o : Nat) (o_cells : Nat) (o_standing : Nat) (v_jars : Int32) (v_weeks : Int32) (f_cells : Nat → Int32) : va_W := [(o, .inr (2, [.ref o_cells, .ref o_standing, .int v_jars, .int v_weeks])), (o_cells, .inl (cI, 48, .inl f_cells))]
set_option maxHeartbeats 4000000 in
set_option maxRecDepth 100000 in
theorem c_X2_passWeek (l : Launch) (dC : Nat → ClassId) (dI : Nat → Nat → Nat) (cI cZ cG : ClassId) {N : Nat} (o : Nat) (o_cells : Nat) (o_standing : Nat) (sz : Nat) (v_jars : Int32) (v_weeks : Int32) (f_cells : Nat → Int32) {n_weeks : Int32} {n_cells : Nat → Int32} (hf : x2_passWeek N v_jars v_weeks f_cells = some (n_weeks, n_cells)) : Met l yX2_passWeek wsX2_passWeek rm_X2_passWeek (va_Pc [.ref o] (gW (dC, dI) vwCl (gT cI cZ cG) (w_X2_passWeek cI cZ cG o o_cells o_standing v_jars v_weeks f_cells) sz)) (va_Qv (fun _ => True) (gE (dC, dI) vwCl (gT cI cZ cG) (w_X2_passWeek cI cZ cG o o_cells o_standing v_jars n_weeks n_cells) (va_A (w_X2_passWeek cI cZ cG o o_cells o_standing v_jars v_weeks f_cells) sz)) (va_A (w_X2_passWeek cI cZ cG o o_cells o_standing v_jars v_weeks f_cells) sz)) 0 0 (va_A (w_X2_passWeek cI cZ cG o o_cells o_standing v_jars v_weeks f_cells) sz) := by
  refine Met.ofW (cc := cX2_passWeek) (maxL := 3) (ret := none) (by decide) rfl ?_
  intro p e s m args below meth c s₁ B hml hv
  obtain ⟨rfl, hv⟩ := hv
  obtain ⟨hsz, hP, hK, hN, hD0⟩ := hv
  have hx := B.exec
  have hb := B.bytes
  have hr := B.returns
  have hts := atoms_spec (ws := wsX2_passWeek) B.pre
  have hown : s.vm.findClass RX2 = some m.cls := findClass_of_methodNamed B.named
  have hlocks := B.notSynchronized
  have hiX2 : ∀ w ∈ u_ws RX2 TX2 4, w ∈ wsX2_passWeek := fun w h => List.mem_cons_of_mem _ (List.mem_append_right _ h)
  subst hsz
  have hD := hD0.self (sz := s.heap.size)
  generalize hAe : va_A (w_X2_passWeek cI cZ cG o o_cells o_standing v_jars v_weeks f_cells) s.heap.size = A at hD ⊢
  have hA : ∀ q : Nat, s.heap.size ≤ q → A q := fun q h => by rw [← hAe]; exact Or.inr h
  clear hD0
  have hS : va_S A s.heap s.heap [] := va_S.rf
  have hP : va_P (dC, dI) vwCl (w_X2_passWeek cI cZ cG o o_cells o_standing v_jars v_weeks f_cells) s.heap := hP
  obtain ⟨Q, hQ⟩ : ∃ Q : State → Prop, Q = MQ below (va_Qv (fun _ => True) (gE (dC, dI) vwCl (gT cI cZ cG) (w_X2_passWeek cI cZ cG o o_cells o_standing v_jars n_weeks n_cells) A) A) (([Value.ref o] : List Value).toArray) s 0 0 A := ⟨_, rfl⟩
  have hl := lv_entry ([.ref o]) (n := 3) (Nat.le_of_ble_eq_true rfl)
  rw [← hQ, lg_entry_eq]
  generalize (lg_sl ([.ref o]) ++ List.replicate (3 - (lg_sl ([.ref o])).length) Slot.unset).toArray = ls at hl ⊢
  have hl : lv_has ls 3 [(0, .ref o)] := hl
  generalize hH : s.heap = H at hP hS ⊢
  have hS : va_S A s.heap H [] := by rw [hH]; exact hS
  generalize hlc : ([] : List Loc) = locs at hS ⊢
  show W p l e rm_X2_passWeek s m (([Value.ref o] : List Value).toArray) below meth c H locs 0 0 Q (F0 m 0 ls [])
  have L17 : ∀ (n17 : Nat), ∀ (x1 : Int32) (x2 : Int32) (y_weeks : Int32) (y_cells : Nat → Int32) (H : Heap) (locs : List Loc) (ls : Array Slot), x2_passWeek_b17 N v_jars n17 x1 x2 y_weeks y_cells = some (n_weeks, n_cells) → lv_has ls 3 [(0, .ref o), (1, .int x1), (2, .int x2)] → va_P (dC, dI) vwCl (w_X2_passWeek cI cZ cG o o_cells o_standing v_jars y_weeks y_cells) H → va_D A (w_X2_passWeek cI cZ cG o o_cells o_standing v_jars y_weeks y_cells) → va_S A s.heap H locs → W p l e rm_X2_passWeek s m (([Value.ref o] : List Value).toArray) below meth c H locs 0 0 Q (F0 m 17 ls []) := by
    intro n17
    induction n17 with
    | zero =>
      intro x1 x2 y_weeks y_cells H locs ls hf hl hP hD hS
      exact g_no hf
    | succ n17 ih17 =>
      intro x1 x2 y_weeks y_cells H locs ls hf hl hP hD hS
      unfold x2_passWeek_b17 at hf
      refine lv_iload_n hx hb dX2_passWeek_17 rfl (lv_at hl 2 rfl) ?_
      refine lv_aload_n hx hb dX2_passWeek_18 rfl (lv_at hl 0 rfl) ?_
      refine va_get (D := (dC, dI)) (ci := 2) (v := .int v_jars) (C := RX2) (T := TX2) (N := 4) hx hb hts hiX2 hown hK hP 0 rfl rfl 2 (by decide) (hts (.fieldLink RX2 18 "GreenJars$Shelf" "jars" "I") (by decide +kernel)) (fun _ h9 => h9) rfl dX2_passWeek_19 ?_
      refine lv_icmp_ge (tgt := 45) hx hb dX2_passWeek_22 (by decide) (fun c1 => ?_) (fun c1 => ?_)
      · have hf := g_pos c1 hf
        refine lv_aload_n hx hb dX2_passWeek_45 rfl (lv_at hl 0 rfl) ?_
        refine lv_dup hx hb dX2_passWeek_46 rfl ?_
        refine va_get (D := (dC, dI)) (ci := 2) (v := .int y_weeks) (C := RX2) (T := TX2) (N := 4) hx hb hts hiX2 hown hK hP 0 rfl rfl 3 (by decide) (hts (.fieldLink RX2 22 "GreenJars$Shelf" "weeks" "I") (by decide +kernel)) (fun _ h9 => h9) rfl dX2_passWeek_47 ?_
        refine lv_iconst (v := (1 : Int32)) hx hb dX2_passWeek_50 (by decide) ?_
        refine lv_iadd hx hb dX2_passWeek_51 ?_
        refine va_put (D := (dC, dI)) (ci := 2) (v := .int (y_weeks + (1 : Int32))) (ty := .int) (C := RX2) (T := TX2) (N := 4) hx hb hts hiX2 tyX2 tyX2_ok nmX2 hown hK hP hD hS 0 rfl rfl 3 (by decide) (hts (.fieldLink RX2 22 "GreenJars$Shelf" "weeks" "I") (by decide +kernel)) (fun _ h9 => h9) rfl (by decide +kernel) rfl rfl (Nat.le_of_ble_eq_true rfl) dX2_passWeek_52 (fun H locs hP hD hS => ?_)
        have hP : va_P (dC, dI) vwCl (w_X2_passWeek cI cZ cG o o_cells o_standing v_jars (y_weeks + (1 : Int32)) y_cells) H := hP
        have hD : va_D A (w_X2_passWeek cI cZ cG o o_cells o_standing v_jars (y_weeks + (1 : Int32)) y_cells) := hD
        rw [hQ]
        cases hf
        exact W.vret hx hb hr (fun t ht hW => ⟨⟨(), rfl, trivial, by rw [ht]; exact hP, va_K.moved hW.alike hK, hD⟩, hS.F ht⟩) hS.2.2 dX2_passWeek_55
      · have hf := g_neg c1 hf
        refine lv_aload_n hx hb dX2_passWeek_25 rfl (lv_at hl 0 rfl) ?_
        refine lv_iload_n hx hb dX2_passWeek_26 rfl (lv_at hl 2 rfl) ?_
        obtain ⟨r2, hc3, hf⟩ := g_b1 hf
        refine g_rV (As := [.int x2]) (rest := []) ⟨hx, hb, hml, hown, hts⟩ (c_X2_isWhole l dC dI cI cZ cG o o_cells o_standing  v_jars y_weeks y_cells x2 hc3) (cwV 1 hts gX2_passWeek_X2_isWhole rfl rfl rfl (by decide +kernel) ⟨Nat.le_of_ble_eq_true rfl, Nat.le_of_ble_eq_true rfl⟩) hK hN (hP.sub [0, 1] rfl) (va_recv hK hP (ci := 2) (q0 := 0) rfl rfl) rfl hl.1 rfl (Nat.le_of_ble_eq_true rfl) dX2_passWeek_27 ⟨Nat.zero_le _, Nat.zero_le _⟩ ?_
        refine lv_if_eq (tgt := 39) hx hb dX2_passWeek_30 (by decide) (fun c4 => ?_) (fun c4 => ?_)
        · have hf := g_pos c4 hf
          refine lv_iinc (v := (x2 + (1 : Int32))) (lv' := [(2, .int (x2 + (1 : Int32))), (0, .ref o), (1, .int x1)]) hx hb dX2_passWeek_39 hl (k := 2) rfl rfl (by decide) rfl (fun ls hl => ?_)
          refine lv_goto (tgt := 17) hx hb dX2_passWeek_42 (by decide) ?_
          exact ih17 x1 (x2 + (1 : Int32)) y_weeks y_cells H locs ls hf (lv_sub hl [1, 2, 0] rfl) hP hD hS
        · have hf := g_neg c4 hf
          refine lv_aload_n hx hb dX2_passWeek_33 rfl (lv_at hl 0 rfl) ?_
          refine lv_iload_n hx hb dX2_passWeek_34 rfl (lv_at hl 2 rfl) ?_
          refine lv_iload_n hx hb dX2_passWeek_35 rfl (lv_at hl 1 rfl) ?_
          obtain ⟨y5, hc6, hf⟩ := g_b1 hf
          refine g_wVv (As := [.int x2, .int x1]) (rest := []) (wr := []) (wn := (w_X2_passWeek cI cZ cG o o_cells o_standing v_jars y_weeks y5)) ⟨hx, hb, hml, hown, hts⟩ (c_X2_passWeekIn l dC dI cI cZ cG o o_cells o_standing H.size  v_jars y_weeks y_cells x2 x1 hc6) (cwV 2 hts gX2_passWeek_X2_passWeekIn rfl rfl rfl (by decide +kernel) ⟨Nat.le_of_ble_eq_true rfl, Nat.le_of_ble_eq_true rfl⟩) hK hN hP hD hS hA [0, 1] [] [0, 1] rfl rfl (by decide) rfl (by decide) (by decide) rfl (by decide) (va_recv hK hP (ci := 2) (q0 := 0) rfl rfl) rfl hl.1 rfl (Nat.le_of_ble_eq_true rfl) dX2_passWeek_36 ⟨Nat.zero_le _, Nat.zero_le _⟩ (fun H locs hP hD hS => ?_)
          refine lv_iinc (v := (x2 + (1 : Int32))) (lv' := [(2, .int (x2 + (1 : Int32))), (0, .ref o), (1, .int x1)]) hx hb dX2_passWeek_39 hl (k := 2) rfl rfl (by decide) rfl (fun ls hl => ?_)
          refine lv_goto (tgt := 17) hx hb dX2_passWeek_42 (by decide) ?_
          exact ih17 x1 (x2 + (1 : Int32)) y_weeks y5 H locs ls hf (lv_sub hl [1, 2, 0] rfl) hP hD hS
  unfold x2_passWeek at hf
  refine lv_aload_n hx hb dX2_passWeek_0 rfl (lv_at hl 0 rfl) ?_
  refine va_get (D := (dC, dI)) (ci := 2) (v := .int v_weeks) (C := RX2) (T := TX2) (N := 4) hx hb hts hiX2 hown hK hP 0 rfl rfl 3 (by decide) (hts (.fieldLink RX2 22 "GreenJars$Shelf" "weeks" "I") (by decide +kernel)) (fun _ h9 => h9) rfl dX2_passWeek_1 ?_
  refine lv_iconst (v := (2 : Int32)) hx hb dX2_passWeek_4 (by decide) ?_
  refine lv_irem hx hb dX2_passWeek_5 (by decide) ?_
  refine lv_if_ne (tgt := 13) hx hb dX2_passWeek_6 (by decide) (fun c7 => ?_) (fun c7 => ?_)
  · have hf := g_neg c7 hf
    refine lv_iconst (v := (0 : Int32)) hx hb dX2_passWeek_13 (by decide) ?_
    refine lv_istore_n (lv' := [(1, .int (0 : Int32)), (0, .ref o)]) hx hb dX2_passWeek_14 rfl hl (by decide) rfl (fun ls hl => ?_)
    refine lv_iconst (v := (0 : Int32)) hx hb dX2_passWeek_15 (by decide) ?_
    refine lv_istore_n (lv' := [(2, .int (0 : Int32)), (1, .int (0 : Int32)), (0, .ref o)]) hx hb dX2_passWeek_16 rfl hl (by decide) rfl (fun ls hl => ?_)
    exact L17 N (0 : Int32) (0 : Int32) v_weeks f_cells H locs ls hf (lv_sub hl [2, 1, 0] rfl) hP hD hS
  · have hf := g_pos c7 hf
    refine lv_iconst (v := (1 : Int32)) hx hb dX2_passWeek_9 (by decide) ?_
    refine lv_goto (tgt := 14) hx hb dX2_passWeek_10 (by decide) ?_
    refine lv_istore_n (lv' := [(1, .int (1 : Int32)), (0, .ref o)]) hx hb dX2_passWeek_14 rfl hl (by decide) rfl (fun ls hl => ?_)
    refine lv_iconst (v := (0 : Int32)) hx hb dX2_passWeek_15 (by decide) ?_
    refine lv_istore_n (lv' := [(2, .int (0 : Int32)), (1, .int (1 : Int32)), (0, .ref o)]) hx hb dX2_passWeek_16 rfl hl (by decide) rfl (fun ls hl => ?_)
    exact L17 N (1 : Int32) (0 : Int32) v_weeks f_cells H locs ls hf (lv_sub hl [2, 1, 0] rfl) hP hD hS
abbrev rm_X2_passWeeks : Room := { frames := 4, cells := 0, slots := 0, locals := 89 }
abbrev w_X2_passWeeks (cI cZ cG : ClassId) (o : Nat) (o_cells : Nat) (o_standing : Nat) (v_jars : Int32) (v_weeks : Int32) (f_cells : Nat → Int32) : va_W := [(o, .inr (2, [.ref o_cells, .ref o_standing, .int v_jars, .int v_weeks])), (o_cells, .inl (cI, 48, .inl f_cells))]
set_option maxHeartbeats 4000000 in
set_option maxRecDepth 100000 in
theorem c_X2_passWeeks (l : Launch) (dC : Nat → ClassId) (dI : Nat → Nat → Nat) (cI cZ cG : ClassId) {N : Nat} (o : Nat) (o_cells : Nat) (o_standing : Nat) (sz : Nat) (v_jars : Int32) (v_weeks : Int32) (f_cells : Nat → Int32) (a1 : Int32) {n_weeks : Int32} {n_cells : Nat → Int32} (hf : x2_passWeeks N v_jars v_weeks f_cells a1 = some (n_weeks, n_cells)) : Met l yX2_passWeeks wsX2_passWeeks rm_X2_passWeeks (va_Pc [.ref o, .int a1] (gW (dC, dI) vwCl (gT cI cZ cG) (w_X2_passWeeks cI cZ cG o o_cells o_standing v_jars v_weeks f_cells) sz)) (va_Qv (fun _ => True) (gE (dC, dI) vwCl (gT cI cZ cG) (w_X2_passWeeks cI cZ cG o o_cells o_standing v_jars n_weeks n_cells) (va_A (w_X2_passWeeks cI cZ cG o o_cells o_standing v_jars v_weeks f_cells) sz)) (va_A (w_X2_passWeeks cI cZ cG o o_cells o_standing v_jars v_weeks f_cells) sz)) 0 0 (va_A (w_X2_passWeeks cI cZ cG o o_cells o_standing v_jars v_weeks f_cells) sz) := by
  refine Met.ofW (cc := cX2_passWeeks) (maxL := 3) (ret := none) (by decide) rfl ?_
  intro p e s m args below meth c s₁ B hml hv
  obtain ⟨rfl, hv⟩ := hv
  obtain ⟨hsz, hP, hK, hN, hD0⟩ := hv
  have hx := B.exec
  have hb := B.bytes
  have hr := B.returns
  have hts := atoms_spec (ws := wsX2_passWeeks) B.pre
  have hown : s.vm.findClass RX2 = some m.cls := findClass_of_methodNamed B.named
  have hlocks := B.notSynchronized
  have hiX2 : ∀ w ∈ u_ws RX2 TX2 4, w ∈ wsX2_passWeeks := fun w h => List.mem_cons_of_mem _ (List.mem_append_right _ h)
  subst hsz
  have hD := hD0.self (sz := s.heap.size)
  generalize hAe : va_A (w_X2_passWeeks cI cZ cG o o_cells o_standing v_jars v_weeks f_cells) s.heap.size = A at hD ⊢
  have hA : ∀ q : Nat, s.heap.size ≤ q → A q := fun q h => by rw [← hAe]; exact Or.inr h
  clear hD0
  have hS : va_S A s.heap s.heap [] := va_S.rf
  have hP : va_P (dC, dI) vwCl (w_X2_passWeeks cI cZ cG o o_cells o_standing v_jars v_weeks f_cells) s.heap := hP
  obtain ⟨Q, hQ⟩ : ∃ Q : State → Prop, Q = MQ below (va_Qv (fun _ => True) (gE (dC, dI) vwCl (gT cI cZ cG) (w_X2_passWeeks cI cZ cG o o_cells o_standing v_jars n_weeks n_cells) A) A) (([Value.ref o, Value.int a1] : List Value).toArray) s 0 0 A := ⟨_, rfl⟩
  have hl := lv_entry ([.ref o, .int a1]) (n := 3) (Nat.le_of_ble_eq_true rfl)
  rw [← hQ, lg_entry_eq]
  generalize (lg_sl ([.ref o, .int a1]) ++ List.replicate (3 - (lg_sl ([.ref o, .int a1])).length) Slot.unset).toArray = ls at hl ⊢
  have hl : lv_has ls 3 [(0, .ref o), (1, .int a1)] := hl
  generalize hH : s.heap = H at hP hS ⊢
  have hS : va_S A s.heap H [] := by rw [hH]; exact hS
  generalize hlc : ([] : List Loc) = locs at hS ⊢
  show W p l e rm_X2_passWeeks s m (([Value.ref o, Value.int a1] : List Value).toArray) below meth c H locs 0 0 Q (F0 m 0 ls [])
  have L2 : ∀ (n2 : Nat), ∀ (x2 : Int32) (y_weeks : Int32) (y_cells : Nat → Int32) (H : Heap) (locs : List Loc) (ls : Array Slot), x2_passWeeks_b2 N v_jars a1 n2 x2 y_weeks y_cells = some (n_weeks, n_cells) → lv_has ls 3 [(0, .ref o), (1, .int a1), (2, .int x2)] → va_P (dC, dI) vwCl (w_X2_passWeeks cI cZ cG o o_cells o_standing v_jars y_weeks y_cells) H → va_D A (w_X2_passWeeks cI cZ cG o o_cells o_standing v_jars y_weeks y_cells) → va_S A s.heap H locs → W p l e rm_X2_passWeeks s m (([Value.ref o, Value.int a1] : List Value).toArray) below meth c H locs 0 0 Q (F0 m 2 ls []) := by
    intro n2
    induction n2 with
    | zero =>
      intro x2 y_weeks y_cells H locs ls hf hl hP hD hS
      exact g_no hf
    | succ n2 ih2 =>
      intro x2 y_weeks y_cells H locs ls hf hl hP hD hS
      unfold x2_passWeeks_b2 at hf
      refine lv_iload_n hx hb dX2_passWeeks_2 rfl (lv_at hl 2 rfl) ?_
      refine lv_iload_n hx hb dX2_passWeeks_3 rfl (lv_at hl 1 rfl) ?_
      refine lv_icmp_ge (tgt := 17) hx hb dX2_passWeeks_4 (by decide) (fun c1 => ?_) (fun c1 => ?_)
      · have hf := g_pos c1 hf
        rw [hQ]
        cases hf
        exact W.vret hx hb hr (fun t ht hW => ⟨⟨(), rfl, trivial, by rw [ht]; exact hP, va_K.moved hW.alike hK, hD⟩, hS.F ht⟩) hS.2.2 dX2_passWeeks_17
      · have hf := g_neg c1 hf
        refine lv_aload_n hx hb dX2_passWeeks_7 rfl (lv_at hl 0 rfl) ?_
        obtain ⟨y2, y3, hc4, hf⟩ := g_b2 hf
        refine g_wVv (As := []) (rest := []) (wr := []) (wn := (w_X2_passWeeks cI cZ cG o o_cells o_standing v_jars y2 y3)) ⟨hx, hb, hml, hown, hts⟩ (c_X2_passWeek l dC dI cI cZ cG o o_cells o_standing H.size  v_jars y_weeks y_cells hc4) (cwV 0 hts gX2_passWeeks_X2_passWeek rfl rfl rfl (by decide +kernel) ⟨Nat.le_of_ble_eq_true rfl, Nat.le_of_ble_eq_true rfl⟩) hK hN hP hD hS hA [0, 1] [] [0, 1] rfl rfl (by decide) rfl (by decide) (by decide) rfl (by decide) (va_recv hK hP (ci := 2) (q0 := 0) rfl rfl) rfl hl.1 rfl (Nat.le_of_ble_eq_true rfl) dX2_passWeeks_8 ⟨Nat.zero_le _, Nat.zero_le _⟩ (fun H locs hP hD hS => ?_)
        refine lv_iinc (v := (x2 + (1 : Int32))) (lv' := [(2, .int (x2 + (1 : Int32))), (0, .ref o), (1, .int a1)]) hx hb dX2_passWeeks_11 hl (k := 2) rfl rfl (by decide) rfl (fun ls hl => ?_)
        refine lv_goto (tgt := 2) hx hb dX2_passWeeks_14 (by decide) ?_
        exact ih2 (x2 + (1 : Int32)) y2 y3 H locs ls hf (lv_sub hl [1, 2, 0] rfl) hP hD hS
  unfold x2_passWeeks at hf
  refine lv_iconst (v := (0 : Int32)) hx hb dX2_passWeeks_0 (by decide) ?_
  refine lv_istore_n (lv' := [(2, .int (0 : Int32)), (0, .ref o), (1, .int a1)]) hx hb dX2_passWeeks_1 rfl hl (by decide) rfl (fun ls hl => ?_)
  exact L2 N (0 : Int32) v_weeks f_cells H locs ls hf (lv_sub hl [1, 2, 0] rfl) hP hD hS
abbrev rm_X2_wouldCrack : Room := { frames := 2, cells := 0, slots := 0, locals := 43 }
abbrev w_X2_wouldCrack (cI cZ cG : ClassId) (o : Nat) (o_cells : Nat) (o_standing : Nat) (v_jars : Int32) (v_weeks : Int32) (f_cells : Nat → Int32) : va_W := [(o, .inr (2, [.ref o_cells, .ref o_standing, .int v_jars, .int v_weeks])), (o_cells, .inl (cI, 48, .inl f_cells))]
set_option maxHeartbeats 4000000 in
set_option maxRecDepth 100000 in
theorem c_X2_wouldCrack (l : Launch) (dC : Nat → ClassId) (dI : Nat → Nat → Nat) (cI cZ cG : ClassId) (o : Nat) (o_cells : Nat) (o_standing : Nat) (v_jars : Int32) (v_weeks : Int32) (f_cells : Nat → Int32) (a1 : Int32) {r0 : Int32} (hf : x2_wouldCrack v_jars f_cells a1 = some r0) : Met l yX2_wouldCrack wsX2_wouldCrack rm_X2_wouldCrack (va_Pc [.ref o, .int a1] (gR (dC, dI) vwCl (gT cI cZ cG) (w_X2_wouldCrack cI cZ cG o o_cells o_standing v_jars v_weeks f_cells))) (vp_Si (fun r => r = r0)) 0 0 (fun _ => False) := by
  refine Met.ofW (cc := cX2_wouldCrack) (maxL := 2) (ret := (some .boolean)) (by decide) rfl ?_
  intro p e s m args below meth c s₁ B hml hv
  obtain ⟨rfl, hv⟩ := hv
  obtain ⟨hP, hK, hN⟩ := hv
  have hx := B.exec
  have hb := B.bytes
  have hr := B.returns
  have hts := atoms_spec (ws := wsX2_wouldCrack) B.pre
  have hown : s.vm.findClass RX2 = some m.cls := findClass_of_methodNamed B.named
  have hlocks := B.notSynchronized
  have hiX2 : ∀ w ∈ u_ws RX2 TX2 4, w ∈ wsX2_wouldCrack := fun w h => List.mem_cons_of_mem _ (List.mem_append_right _ h)
  obtain ⟨Q, hQ⟩ : ∃ Q : State → Prop, Q = MQ below (vp_Si (fun r => r = r0)) (([Value.ref o, Value.int a1] : List Value).toArray) s 0 0 (fun _ => False) := ⟨_, rfl⟩
  have hl := lv_entry ([.ref o, .int a1]) (n := 2) (Nat.le_of_ble_eq_true rfl)
  rw [← hQ, lg_entry_eq]
  generalize (lg_sl ([.ref o, .int a1]) ++ List.replicate (2 - (lg_sl ([.ref o, .int a1])).length) Slot.unset).toArray = ls at hl ⊢
  have hl : lv_has ls 2 [(0, .ref o), (1, .int a1)] := hl
  show W p l e rm_X2_wouldCrack s m (([Value.ref o, Value.int a1] : List Value).toArray) below meth c s.heap [] 0 0 Q (F0 m 0 ls [])
  unfold x2_wouldCrack at hf
  refine lv_aload_n hx hb dX2_wouldCrack_0 rfl (lv_at hl 0 rfl) ?_
  refine lv_iload_n hx hb dX2_wouldCrack_1 rfl (lv_at hl 1 rfl) ?_
  obtain ⟨r1, hc2, hf⟩ := g_b1 hf
  refine g_rV (As := [.int a1]) (rest := []) ⟨hx, hb, hml, hown, hts⟩ (c_X2_isWhole l dC dI cI cZ cG o o_cells o_standing  v_jars v_weeks f_cells a1 hc2) (cwV 1 hts gX2_wouldCrack_X2_isWhole rfl rfl rfl (by decide +kernel) ⟨Nat.le_of_ble_eq_true rfl, Nat.le_of_ble_eq_true rfl⟩) hK hN (hP.sub [0, 1] rfl) (va_recv hK hP (ci := 2) (q0 := 0) rfl rfl) rfl hl.1 rfl (Nat.le_of_ble_eq_true rfl) dX2_wouldCrack_2 ⟨Nat.zero_le _, Nat.zero_le _⟩ ?_
  refine lv_if_eq (tgt := 27) hx hb dX2_wouldCrack_5 (by decide) (fun c3 => ?_) (fun c3 => ?_)
  · have hf := g_pos c3 hf
    refine lv_iconst (v := (0 : Int32)) hx hb dX2_wouldCrack_27 (by decide) ?_
    rw [hQ]
    exact W.zret (v := (0 : Int32)) hx hb hr (by decide +kernel) (fun t ht hW => ⟨_, rfl, Option.some.inj hf, ht⟩) (fun q h => by cases h) dX2_wouldCrack_28
  · have hf := g_neg c3 hf
    refine lv_aload_n hx hb dX2_wouldCrack_8 rfl (lv_at hl 0 rfl) ?_
    refine lv_iload_n hx hb dX2_wouldCrack_9 rfl (lv_at hl 1 rfl) ?_
    refine lv_iconst (v := (4 : Int32)) hx hb dX2_wouldCrack_10 (by decide) ?_
    obtain ⟨r4, hc5, hf⟩ := g_b1 hf
    refine g_rV (As := [.int a1, .int (4 : Int32)]) (rest := []) ⟨hx, hb, hml, hown, hts⟩ (c_X2_part l dC dI cI cZ cG o o_cells o_standing  v_jars v_weeks f_cells a1 (4 : Int32) hc5) (cwV 2 hts gX2_wouldCrack_X2_part rfl rfl rfl (by decide +kernel) ⟨Nat.le_of_ble_eq_true rfl, Nat.le_of_ble_eq_true rfl⟩) hK hN (hP.sub [0, 1] rfl) (va_recv hK hP (ci := 2) (q0 := 0) rfl rfl) rfl hl.1 rfl (Nat.le_of_ble_eq_true rfl) dX2_wouldCrack_11 ⟨Nat.zero_le _, Nat.zero_le _⟩ ?_
    refine lv_aload_n hx hb dX2_wouldCrack_14 rfl (lv_at hl 0 rfl) ?_
    refine lv_iload_n hx hb dX2_wouldCrack_15 rfl (lv_at hl 1 rfl) ?_
    refine lv_iconst (v := (5 : Int32)) hx hb dX2_wouldCrack_16 (by decide) ?_
    obtain ⟨r6, hc7, hf⟩ := g_b1 hf
    refine g_rV (As := [.int a1, .int (5 : Int32)]) (rest := [.int r4]) ⟨hx, hb, hml, hown, hts⟩ (c_X2_part l dC dI cI cZ cG o o_cells o_standing  v_jars v_weeks f_cells a1 (5 : Int32) hc7) (cwV 2 hts gX2_wouldCrack_X2_part rfl rfl rfl (by decide +kernel) ⟨Nat.le_of_ble_eq_true rfl, Nat.le_of_ble_eq_true rfl⟩) hK hN (hP.sub [0, 1] rfl) (va_recv hK hP (ci := 2) (q0 := 0) rfl rfl) rfl hl.1 rfl (Nat.le_of_ble_eq_true rfl) dX2_wouldCrack_17 ⟨Nat.zero_le _, Nat.zero_le _⟩ ?_
    refine lv_icmp_ge (tgt := 27) hx hb dX2_wouldCrack_20 (by decide) (fun c8 => ?_) (fun c8 => ?_)
    · have hf := g_pos c8 hf
      refine lv_iconst (v := (0 : Int32)) hx hb dX2_wouldCrack_27 (by decide) ?_
      rw [hQ]
      exact W.zret (v := (0 : Int32)) hx hb hr (by decide +kernel) (fun t ht hW => ⟨_, rfl, Option.some.inj hf, ht⟩) (fun q h => by cases h) dX2_wouldCrack_28
    · have hf := g_neg c8 hf
      refine lv_iconst (v := (1 : Int32)) hx hb dX2_wouldCrack_23 (by decide) ?_
      refine lv_goto (tgt := 28) hx hb dX2_wouldCrack_24 (by decide) ?_
      rw [hQ]
      exact W.zret (v := (1 : Int32)) hx hb hr (by decide +kernel) (fun t ht hW => ⟨_, rfl, Option.some.inj hf, ht⟩) (fun q h => by cases h) dX2_wouldCrack_28
abbrev rm_X2_rattle : Room := { frames := 3, cells := 0, slots := 0, locals := 64 }
abbrev w_X2_rattle (cI cZ cG : ClassId) (o : Nat) (o_cells : Nat) (o_standing : Nat) (v_jars : Int32) (v_weeks : Int32) (f_cells : Nat → Int32) : va_W := [(o, .inr (2, [.ref o_cells, .ref o_standing, .int v_jars, .int v_weeks])), (o_cells, .inl (cI, 48, .inl f_cells))]
set_option maxHeartbeats 4000000 in
set_option maxRecDepth 100000 in
theorem c_X2_rattle (l : Launch) (dC : Nat → ClassId) (dI : Nat → Nat → Nat) (cI cZ cG : ClassId) {N : Nat} (o : Nat) (o_cells : Nat) (o_standing : Nat) (sz : Nat) (v_jars : Int32) (v_weeks : Int32) (f_cells : Nat → Int32) {r0 : Int32} {n_cells : Nat → Int32} (hf : x2_rattle N v_jars f_cells = some (r0, n_cells)) : Met l yX2_rattle wsX2_rattle rm_X2_rattle (va_Pc [.ref o] (gW (dC, dI) vwCl (gT cI cZ cG) (w_X2_rattle cI cZ cG o o_cells o_standing v_jars v_weeks f_cells) sz)) (va_Qi (fun r _ => r = r0) (gE (dC, dI) vwCl (gT cI cZ cG) (w_X2_rattle cI cZ cG o o_cells o_standing v_jars v_weeks n_cells) (va_A (w_X2_rattle cI cZ cG o o_cells o_standing v_jars v_weeks f_cells) sz)) (va_A (w_X2_rattle cI cZ cG o o_cells o_standing v_jars v_weeks f_cells) sz)) 0 0 (va_A (w_X2_rattle cI cZ cG o o_cells o_standing v_jars v_weeks f_cells) sz) := by
  refine Met.ofW (cc := cX2_rattle) (maxL := 3) (ret := (some .int)) (by decide) rfl ?_
  intro p e s m args below meth c s₁ B hml hv
  obtain ⟨rfl, hv⟩ := hv
  obtain ⟨hsz, hP, hK, hN, hD0⟩ := hv
  have hx := B.exec
  have hb := B.bytes
  have hr := B.returns
  have hts := atoms_spec (ws := wsX2_rattle) B.pre
  have hown : s.vm.findClass RX2 = some m.cls := findClass_of_methodNamed B.named
  have hlocks := B.notSynchronized
  have hiX2 : ∀ w ∈ u_ws RX2 TX2 4, w ∈ wsX2_rattle := fun w h => List.mem_cons_of_mem _ (List.mem_append_right _ h)
  subst hsz
  have hD := hD0.self (sz := s.heap.size)
  generalize hAe : va_A (w_X2_rattle cI cZ cG o o_cells o_standing v_jars v_weeks f_cells) s.heap.size = A at hD ⊢
  have hA : ∀ q : Nat, s.heap.size ≤ q → A q := fun q h => by rw [← hAe]; exact Or.inr h
  clear hD0
  have hS : va_S A s.heap s.heap [] := va_S.rf
  have hP : va_P (dC, dI) vwCl (w_X2_rattle cI cZ cG o o_cells o_standing v_jars v_weeks f_cells) s.heap := hP
  obtain ⟨Q, hQ⟩ : ∃ Q : State → Prop, Q = MQ below (va_Qi (fun r _ => r = r0) (gE (dC, dI) vwCl (gT cI cZ cG) (w_X2_rattle cI cZ cG o o_cells o_standing v_jars v_weeks n_cells) A) A) (([Value.ref o] : List Value).toArray) s 0 0 A := ⟨_, rfl⟩
  have hl := lv_entry ([.ref o]) (n := 3) (Nat.le_of_ble_eq_true rfl)
  rw [← hQ, lg_entry_eq]
  generalize (lg_sl ([.ref o]) ++ List.replicate (3 - (lg_sl ([.ref o])).length) Slot.unset).toArray = ls at hl ⊢
  have hl : lv_has ls 3 [(0, .ref o)] := hl
  generalize hH : s.heap = H at hP hS ⊢
  have hS : va_S A s.heap H [] := by rw [hH]; exact hS
  generalize hlc : ([] : List Loc) = locs at hS ⊢
  show W p l e rm_X2_rattle s m (([Value.ref o] : List Value).toArray) below meth c H locs 0 0 Q (F0 m 0 ls [])
  have L4 : ∀ (n4 : Nat), ∀ (x1 : Int32) (x2 : Int32) (y_cells : Nat → Int32) (H : Heap) (locs : List Loc) (ls : Array Slot), x2_rattle_b4 N v_jars n4 x1 x2 y_cells = some (r0, n_cells) → lv_has ls 3 [(0, .ref o), (1, .int x1), (2, .int x2)] → va_P (dC, dI) vwCl (w_X2_rattle cI cZ cG o o_cells o_standing v_jars v_weeks y_cells) H → va_D A (w_X2_rattle cI cZ cG o o_cells o_standing v_jars v_weeks y_cells) → va_S A s.heap H locs → W p l e rm_X2_rattle s m (([Value.ref o] : List Value).toArray) below meth c H locs 0 0 Q (F0 m 4 ls []) := by
    intro n4
    induction n4 with
    | zero =>
      intro x1 x2 y_cells H locs ls hf hl hP hD hS
      exact g_no hf
    | succ n4 ih4 =>
      intro x1 x2 y_cells H locs ls hf hl hP hD hS
      unfold x2_rattle_b4 at hf
      refine lv_iload_n hx hb dX2_rattle_4 rfl (lv_at hl 2 rfl) ?_
      refine lv_aload_n hx hb dX2_rattle_5 rfl (lv_at hl 0 rfl) ?_
      refine va_get (D := (dC, dI)) (ci := 2) (v := .int v_jars) (C := RX2) (T := TX2) (N := 4) hx hb hts hiX2 hown hK hP 0 rfl rfl 2 (by decide) (hts (.fieldLink RX2 18 "GreenJars$Shelf" "jars" "I") (by decide +kernel)) (fun _ h9 => h9) rfl dX2_rattle_6 ?_
      refine lv_icmp_ge (tgt := 63) hx hb dX2_rattle_9 (by decide) (fun c1 => ?_) (fun c1 => ?_)
      · have hf := g_pos c1 hf
        refine lv_iload_n hx hb dX2_rattle_63 rfl (lv_at hl 1 rfl) ?_
        rw [hQ]
        cases hf
        exact W.iret hx hb hr (fun t ht hW => ⟨⟨_, (), rfl, rfl, by rw [ht]; exact hP, va_K.moved hW.alike hK, hD⟩, hS.F ht⟩) hS.2.2 dX2_rattle_64
      · have hf := g_neg c1 hf
        refine lv_aload_n hx hb dX2_rattle_12 rfl (lv_at hl 0 rfl) ?_
        refine lv_iload_n hx hb dX2_rattle_13 rfl (lv_at hl 2 rfl) ?_
        obtain ⟨r2, hc3, hf⟩ := g_b1 hf
        refine g_rV (As := [.int x2]) (rest := []) ⟨hx, hb, hml, hown, hts⟩ (c_X2_wouldCrack l dC dI cI cZ cG o o_cells o_standing  v_jars v_weeks y_cells x2 hc3) (cwV 1 hts gX2_rattle_X2_wouldCrack rfl rfl rfl (by decide +kernel) ⟨Nat.le_of_ble_eq_true rfl, Nat.le_of_ble_eq_true rfl⟩) hK hN (hP.sub [0, 1] rfl) (va_recv hK hP (ci := 2) (q0 := 0) rfl rfl) rfl hl.1 rfl (Nat.le_of_ble_eq_true rfl) dX2_rattle_14 ⟨Nat.zero_le _, Nat.zero_le _⟩ ?_
        refine lv_if_eq (tgt := 34) hx hb dX2_rattle_17 (by decide) (fun c4 => ?_) (fun c4 => ?_)
        · have hf := g_pos c4 hf
          refine lv_aload_n hx hb dX2_rattle_34 rfl (lv_at hl 0 rfl) ?_
          refine lv_iload_n hx hb dX2_rattle_35 rfl (lv_at hl 2 rfl) ?_
          obtain ⟨r5, hc6, hf⟩ := g_b1 hf
          refine g_rV (As := [.int x2]) (rest := []) ⟨hx, hb, hml, hown, hts⟩ (c_X2_isWhole l dC dI cI cZ cG o o_cells o_standing  v_jars v_weeks y_cells x2 hc6) (cwV 1 hts gX2_rattle_X2_isWhole rfl rfl rfl (by decide +kernel) ⟨Nat.le_of_ble_eq_true rfl, Nat.le_of_ble_eq_true rfl⟩) hK hN (hP.sub [0, 1] rfl) (va_recv hK hP (ci := 2) (q0 := 0) rfl rfl) rfl hl.1 rfl (Nat.le_of_ble_eq_true rfl) dX2_rattle_36 ⟨Nat.zero_le _, Nat.zero_le _⟩ ?_
          refine lv_if_eq (tgt := 57) hx hb dX2_rattle_39 (by decide) (fun c7 => ?_) (fun c7 => ?_)
          · have hf := g_pos c7 hf
            refine lv_iinc (v := (x2 + (1 : Int32))) (lv' := [(2, .int (x2 + (1 : Int32))), (0, .ref o), (1, .int x1)]) hx hb dX2_rattle_57 hl (k := 2) rfl rfl (by decide) rfl (fun ls hl => ?_)
            refine lv_goto (tgt := 4) hx hb dX2_rattle_60 (by decide) ?_
            exact ih4 x1 (x2 + (1 : Int32)) y_cells H locs ls hf (lv_sub hl [1, 2, 0] rfl) hP hD hS
          · have hf := g_neg c7 hf
            refine lv_aload_n hx hb dX2_rattle_42 rfl (lv_at hl 0 rfl) ?_
            refine lv_iload_n hx hb dX2_rattle_43 rfl (lv_at hl 2 rfl) ?_
            refine lv_iconst (v := (3 : Int32)) hx hb dX2_rattle_44 (by decide) ?_
            obtain ⟨r8, hc9, hf⟩ := g_b1 hf
            refine g_rV (As := [.int x2, .int (3 : Int32)]) (rest := []) ⟨hx, hb, hml, hown, hts⟩ (c_X2_part l dC dI cI cZ cG o o_cells o_standing  v_jars v_weeks y_cells x2 (3 : Int32) hc9) (cwV 2 hts gX2_rattle_X2_part rfl rfl rfl (by decide +kernel) ⟨Nat.le_of_ble_eq_true rfl, Nat.le_of_ble_eq_true rfl⟩) hK hN (hP.sub [0, 1] rfl) (va_recv hK hP (ci := 2) (q0 := 0) rfl rfl) rfl hl.1 rfl (Nat.le_of_ble_eq_true rfl) dX2_rattle_45 ⟨Nat.zero_le _, Nat.zero_le _⟩ ?_
            refine lv_iconst (v := (3 : Int32)) hx hb dX2_rattle_48 (by decide) ?_
            refine lv_icmp_eq (tgt := 57) hx hb dX2_rattle_49 (by decide) (fun c10 => ?_) (fun c10 => ?_)
            · have hf := g_pos c10 hf
              refine lv_iinc (v := (x2 + (1 : Int32))) (lv' := [(2, .int (x2 + (1 : Int32))), (0, .ref o), (1, .int x1)]) hx hb dX2_rattle_57 hl (k := 2) rfl rfl (by decide) rfl (fun ls hl => ?_)
              refine lv_goto (tgt := 4) hx hb dX2_rattle_60 (by decide) ?_
              exact ih4 x1 (x2 + (1 : Int32)) y_cells H locs ls hf (lv_sub hl [1, 2, 0] rfl) hP hD hS
            · have hf := g_neg c10 hf
              refine lv_aload_n hx hb dX2_rattle_52 rfl (lv_at hl 0 rfl) ?_
              refine lv_iload_n hx hb dX2_rattle_53 rfl (lv_at hl 2 rfl) ?_
              obtain ⟨y11, hc12, hf⟩ := g_b1 hf
              refine g_wVv (As := [.int x2]) (rest := []) (wr := []) (wn := (w_X2_rattle cI cZ cG o o_cells o_standing v_jars v_weeks y11)) ⟨hx, hb, hml, hown, hts⟩ (c_X2_lookOn l dC dI cI cZ cG o o_cells o_standing H.size  v_jars v_weeks y_cells x2 hc12) (cwV 1 hts gX2_rattle_X2_lookOn rfl rfl rfl (by decide +kernel) ⟨Nat.le_of_ble_eq_true rfl, Nat.le_of_ble_eq_true rfl⟩) hK hN hP hD hS hA [0, 1] [] [0, 1] rfl rfl (by decide) rfl (by decide) (by decide) rfl (by decide) (va_recv hK hP (ci := 2) (q0 := 0) rfl rfl) rfl hl.1 rfl (Nat.le_of_ble_eq_true rfl) dX2_rattle_54 ⟨Nat.zero_le _, Nat.zero_le _⟩ (fun H locs hP hD hS => ?_)
              refine lv_iinc (v := (x2 + (1 : Int32))) (lv' := [(2, .int (x2 + (1 : Int32))), (0, .ref o), (1, .int x1)]) hx hb dX2_rattle_57 hl (k := 2) rfl rfl (by decide) rfl (fun ls hl => ?_)
              refine lv_goto (tgt := 4) hx hb dX2_rattle_60 (by decide) ?_
              exact ih4 x1 (x2 + (1 : Int32)) y11 H locs ls hf (lv_sub hl [1, 2, 0] rfl) hP hD hS
        · have hf := g_neg c4 hf
          refine lv_aload_n hx hb dX2_rattle_20 rfl (lv_at hl 0 rfl) ?_
          refine lv_iload_n hx hb dX2_rattle_21 rfl (lv_at hl 2 rfl) ?_
          refine lv_bipush (v := (7 : Int32)) hx hb dX2_rattle_22 (by decide +kernel) ?_
          refine lv_iconst (v := (1 : Int32)) hx hb dX2_rattle_24 (by decide) ?_
          obtain ⟨y13, hc14, hf⟩ := g_b1 hf
          refine g_wVv (As := [.int x2, .int (7 : Int32), .int (1 : Int32)]) (rest := []) (wr := []) (wn := (w_X2_rattle cI cZ cG o o_cells o_standing v_jars v_weeks y13)) ⟨hx, hb, hml, hown, hts⟩ (c_X2_put l dC dI cI cZ cG o o_cells o_standing H.size  v_jars v_weeks y_cells x2 (7 : Int32) (1 : Int32) hc14) (cwV 3 hts gX2_rattle_X2_put rfl rfl rfl (by decide +kernel) ⟨Nat.le_of_ble_eq_true rfl, Nat.le_of_ble_eq_true rfl⟩) hK hN hP hD hS hA [0, 1] [] [0, 1] rfl rfl (by decide) rfl (by decide) (by decide) rfl (by decide) (va_recv hK hP (ci := 2) (q0 := 0) rfl rfl) rfl hl.1 rfl (Nat.le_of_ble_eq_true rfl) dX2_rattle_25 ⟨Nat.zero_le _, Nat.zero_le _⟩ (fun H locs hP hD hS => ?_)
          refine lv_iinc (v := (x1 + (1 : Int32))) (lv' := [(1, .int (x1 + (1 : Int32))), (0, .ref o), (2, .int x2)]) hx hb dX2_rattle_28 hl (k := 1) rfl rfl (by decide) rfl (fun ls hl => ?_)
          refine lv_goto (tgt := 57) hx hb dX2_rattle_31 (by decide) ?_
          refine lv_iinc (v := (x2 + (1 : Int32))) (lv' := [(2, .int (x2 + (1 : Int32))), (1, .int (x1 + (1 : Int32))), (0, .ref o)]) hx hb dX2_rattle_57 hl (k := 2) rfl rfl (by decide) rfl (fun ls hl => ?_)
          refine lv_goto (tgt := 4) hx hb dX2_rattle_60 (by decide) ?_
          exact ih4 (x1 + (1 : Int32)) (x2 + (1 : Int32)) y13 H locs ls hf (lv_sub hl [2, 1, 0] rfl) hP hD hS
  unfold x2_rattle at hf
  refine lv_iconst (v := (0 : Int32)) hx hb dX2_rattle_0 (by decide) ?_
  refine lv_istore_n (lv' := [(1, .int (0 : Int32)), (0, .ref o)]) hx hb dX2_rattle_1 rfl hl (by decide) rfl (fun ls hl => ?_)
  refine lv_iconst (v := (0 : Int32)) hx hb dX2_rattle_2 (by decide) ?_
  refine lv_istore_n (lv' := [(2, .int (0 : Int32)), (1, .int (0 : Int32)), (0, .ref o)]) hx hb dX2_rattle_3 rfl hl (by decide) rfl (fun ls hl => ?_)
  exact L4 N (0 : Int32) (0 : Int32) f_cells H locs ls hf (lv_sub hl [2, 1, 0] rfl) hP hD hS
abbrev rm_X2_jarOn : Room := { frames := 1, cells := 0, slots := 0, locals := 22 }
abbrev w_X2_jarOn (cI cZ cG : ClassId) (o : Nat) (o_cells : Nat) (o_standing : Nat) (v_jars : Int32) (v_weeks : Int32) (f_cells : Nat → Int32) : va_W := [(o, .inr (2, [.ref o_cells, .ref o_standing, .int v_jars, .int v_weeks])), (o_cells, .inl (cI, 48, .inl f_cells))]
set_option maxHeartbeats 4000000 in
set_option maxRecDepth 100000 in
theorem c_X2_jarOn (l : Launch) (dC : Nat → ClassId) (dI : Nat → Nat → Nat) (cI cZ cG : ClassId) {N : Nat} (o : Nat) (o_cells : Nat) (o_standing : Nat) (v_jars : Int32) (v_weeks : Int32) (f_cells : Nat → Int32) (a1 : Int32) {r0 : Int32} (hf : x2_jarOn N v_jars f_cells a1 = some r0) : Met l yX2_jarOn wsX2_jarOn rm_X2_jarOn (va_Pc [.ref o, .int a1] (gR (dC, dI) vwCl (gT cI cZ cG) (w_X2_jarOn cI cZ cG o o_cells o_standing v_jars v_weeks f_cells))) (vp_Si (fun r => r = r0)) 0 0 (fun _ => False) := by
  refine Met.ofW (cc := cX2_jarOn) (maxL := 3) (ret := (some .int)) (by decide) rfl ?_
  intro p e s m args below meth c s₁ B hml hv
  obtain ⟨rfl, hv⟩ := hv
  obtain ⟨hP, hK, hN⟩ := hv
  have hx := B.exec
  have hb := B.bytes
  have hr := B.returns
  have hts := atoms_spec (ws := wsX2_jarOn) B.pre
  have hown : s.vm.findClass RX2 = some m.cls := findClass_of_methodNamed B.named
  have hlocks := B.notSynchronized
  have hiX2 : ∀ w ∈ u_ws RX2 TX2 4, w ∈ wsX2_jarOn := fun w h => List.mem_cons_of_mem _ (List.mem_append_right _ h)
  obtain ⟨Q, hQ⟩ : ∃ Q : State → Prop, Q = MQ below (vp_Si (fun r => r = r0)) (([Value.ref o, Value.int a1] : List Value).toArray) s 0 0 (fun _ => False) := ⟨_, rfl⟩
  have hl := lv_entry ([.ref o, .int a1]) (n := 3) (Nat.le_of_ble_eq_true rfl)
  rw [← hQ, lg_entry_eq]
  generalize (lg_sl ([.ref o, .int a1]) ++ List.replicate (3 - (lg_sl ([.ref o, .int a1])).length) Slot.unset).toArray = ls at hl ⊢
  have hl : lv_has ls 3 [(0, .ref o), (1, .int a1)] := hl
  show W p l e rm_X2_jarOn s m (([Value.ref o, Value.int a1] : List Value).toArray) below meth c s.heap [] 0 0 Q (F0 m 0 ls [])
  have L2 : ∀ (n2 : Nat), ∀ (x2 : Int32) (ls : Array Slot), x2_jarOn_b2 N v_jars f_cells a1 n2 x2 = some r0 → lv_has ls 3 [(0, .ref o), (1, .int a1), (2, .int x2)] → W p l e rm_X2_jarOn s m (([Value.ref o, Value.int a1] : List Value).toArray) below meth c s.heap [] 0 0 Q (F0 m 2 ls []) := by
    intro n2
    induction n2 with
    | zero =>
      intro x2 ls hf hl
      exact g_no hf
    | succ n2 ih2 =>
      intro x2 ls hf hl
      unfold x2_jarOn_b2 at hf
      refine lv_iload_n hx hb dX2_jarOn_2 rfl (lv_at hl 2 rfl) ?_
      refine lv_aload_n hx hb dX2_jarOn_3 rfl (lv_at hl 0 rfl) ?_
      refine va_get (D := (dC, dI)) (ci := 2) (v := .int v_jars) (C := RX2) (T := TX2) (N := 4) hx hb hts hiX2 hown hK hP 0 rfl rfl 2 (by decide) (hts (.fieldLink RX2 18 "GreenJars$Shelf" "jars" "I") (by decide +kernel)) (fun _ h9 => h9) rfl dX2_jarOn_4 ?_
      refine lv_icmp_ge (tgt := 39) hx hb dX2_jarOn_7 (by decide) (fun c1 => ?_) (fun c1 => ?_)
      · have hf := g_pos c1 hf
        refine lv_bipush (v := (-9 : Int32)) hx hb dX2_jarOn_39 (by decide +kernel) ?_
        rw [hQ]
        exact W.iret (v := (-9 : Int32)) hx hb hr (fun t ht hW => ⟨_, rfl, Option.some.inj hf, ht⟩) (fun q h => by cases h) dX2_jarOn_41
      · have hf := g_neg c1 hf
        refine lv_aload_n hx hb dX2_jarOn_10 rfl (lv_at hl 0 rfl) ?_
        refine lv_iload_n hx hb dX2_jarOn_11 rfl (lv_at hl 2 rfl) ?_
        refine lv_iconst (v := (0 : Int32)) hx hb dX2_jarOn_12 (by decide) ?_
        obtain ⟨r2, hc3, hf⟩ := g_b1 hf
        refine g_rV (As := [.int x2, .int (0 : Int32)]) (rest := []) ⟨hx, hb, hml, hown, hts⟩ (c_X2_part l dC dI cI cZ cG o o_cells o_standing  v_jars v_weeks f_cells x2 (0 : Int32) hc3) (cwV 2 hts gX2_jarOn_X2_part rfl rfl rfl (by decide +kernel) ⟨Nat.le_of_ble_eq_true rfl, Nat.le_of_ble_eq_true rfl⟩) hK hN (hP.sub [0, 1] rfl) (va_recv hK hP (ci := 2) (q0 := 0) rfl rfl) rfl hl.1 rfl (Nat.le_of_ble_eq_true rfl) dX2_jarOn_13 ⟨Nat.zero_le _, Nat.zero_le _⟩ ?_
        refine lv_iload_n hx hb dX2_jarOn_16 rfl (lv_at hl 1 rfl) ?_
        refine lv_icmp_ne (tgt := 33) hx hb dX2_jarOn_17 (by decide) (fun c4 => ?_) (fun c4 => ?_)
        · have hf := g_neg c4 hf
          refine lv_iinc (v := (x2 + (1 : Int32))) (lv' := [(2, .int (x2 + (1 : Int32))), (0, .ref o), (1, .int a1)]) hx hb dX2_jarOn_33 hl (k := 2) rfl rfl (by decide) rfl (fun ls hl => ?_)
          refine lv_goto (tgt := 2) hx hb dX2_jarOn_36 (by decide) ?_
          exact ih2 (x2 + (1 : Int32)) ls hf (lv_sub hl [1, 2, 0] rfl)
        · have hf := g_pos c4 hf
          refine lv_aload_n hx hb dX2_jarOn_20 rfl (lv_at hl 0 rfl) ?_
          refine lv_iload_n hx hb dX2_jarOn_21 rfl (lv_at hl 2 rfl) ?_
          refine lv_bipush (v := (7 : Int32)) hx hb dX2_jarOn_22 (by decide +kernel) ?_
          obtain ⟨r5, hc6, hf⟩ := g_b1 hf
          refine g_rV (As := [.int x2, .int (7 : Int32)]) (rest := []) ⟨hx, hb, hml, hown, hts⟩ (c_X2_part l dC dI cI cZ cG o o_cells o_standing  v_jars v_weeks f_cells x2 (7 : Int32) hc6) (cwV 2 hts gX2_jarOn_X2_part rfl rfl rfl (by decide +kernel) ⟨Nat.le_of_ble_eq_true rfl, Nat.le_of_ble_eq_true rfl⟩) hK hN (hP.sub [0, 1] rfl) (va_recv hK hP (ci := 2) (q0 := 0) rfl rfl) rfl hl.1 rfl (Nat.le_of_ble_eq_true rfl) dX2_jarOn_24 ⟨Nat.zero_le _, Nat.zero_le _⟩ ?_
          refine lv_iconst (v := (2 : Int32)) hx hb dX2_jarOn_27 (by decide) ?_
          refine lv_icmp_eq (tgt := 33) hx hb dX2_jarOn_28 (by decide) (fun c7 => ?_) (fun c7 => ?_)
          · have hf := g_pos c7 hf
            refine lv_iinc (v := (x2 + (1 : Int32))) (lv' := [(2, .int (x2 + (1 : Int32))), (0, .ref o), (1, .int a1)]) hx hb dX2_jarOn_33 hl (k := 2) rfl rfl (by decide) rfl (fun ls hl => ?_)
            refine lv_goto (tgt := 2) hx hb dX2_jarOn_36 (by decide) ?_
            exact ih2 (x2 + (1 : Int32)) ls hf (lv_sub hl [1, 2, 0] rfl)
          · have hf := g_neg c7 hf
            refine lv_iload_n hx hb dX2_jarOn_31 rfl (lv_at hl 2 rfl) ?_
            rw [hQ]
            exact W.iret (v := x2) hx hb hr (fun t ht hW => ⟨_, rfl, Option.some.inj hf, ht⟩) (fun q h => by cases h) dX2_jarOn_32
  unfold x2_jarOn at hf
  refine lv_iconst (v := (0 : Int32)) hx hb dX2_jarOn_0 (by decide) ?_
  refine lv_istore_n (lv' := [(2, .int (0 : Int32)), (0, .ref o), (1, .int a1)]) hx hb dX2_jarOn_1 rfl hl (by decide) rfl (fun ls hl => ?_)
  exact L2 N (0 : Int32) ls hf (lv_sub hl [1, 2, 0] rfl)
abbrev rm_X2_canStand : Room := { frames := 2, cells := 0, slots := 0, locals := 44 }
abbrev w_X2_canStand (cI cZ cG : ClassId) (o : Nat) (o_cells : Nat) (o_standing : Nat) (v_jars : Int32) (v_weeks : Int32) (f_cells : Nat → Int32) : va_W := [(o, .inr (2, [.ref o_cells, .ref o_standing, .int v_jars, .int v_weeks])), (o_cells, .inl (cI, 48, .inl f_cells))]
set_option maxHeartbeats 4000000 in
set_option maxRecDepth 100000 in
theorem c_X2_canStand (l : Launch) (dC : Nat → ClassId) (dI : Nat → Nat → Nat) (cI cZ cG : ClassId) {N : Nat} (o : Nat) (o_cells : Nat) (o_standing : Nat) (v_jars : Int32) (v_weeks : Int32) (f_cells : Nat → Int32) (a1 : Int32) (a2 : Int32) {r0 : Int32} (hf : x2_canStand N v_jars f_cells a1 a2 = some r0) : Met l yX2_canStand wsX2_canStand rm_X2_canStand (va_Pc [.ref o, .int a1, .int a2] (gR (dC, dI) vwCl (gT cI cZ cG) (w_X2_canStand cI cZ cG o o_cells o_standing v_jars v_weeks f_cells))) (vp_Si (fun r => r = r0)) 0 0 (fun _ => False) := by
  refine Met.ofW (cc := cX2_canStand) (maxL := 3) (ret := (some .boolean)) (by decide) rfl ?_
  intro p e s m args below meth c s₁ B hml hv
  obtain ⟨rfl, hv⟩ := hv
  obtain ⟨hP, hK, hN⟩ := hv
  have hx := B.exec
  have hb := B.bytes
  have hr := B.returns
  have hts := atoms_spec (ws := wsX2_canStand) B.pre
  have hown : s.vm.findClass RX2 = some m.cls := findClass_of_methodNamed B.named
  have hlocks := B.notSynchronized
  have hiX2 : ∀ w ∈ u_ws RX2 TX2 4, w ∈ wsX2_canStand := fun w h => List.mem_cons_of_mem _ (List.mem_append_right _ h)
  obtain ⟨Q, hQ⟩ : ∃ Q : State → Prop, Q = MQ below (vp_Si (fun r => r = r0)) (([Value.ref o, Value.int a1, Value.int a2] : List Value).toArray) s 0 0 (fun _ => False) := ⟨_, rfl⟩
  have hl := lv_entry ([.ref o, .int a1, .int a2]) (n := 3) (Nat.le_of_ble_eq_true rfl)
  rw [← hQ, lg_entry_eq]
  generalize (lg_sl ([.ref o, .int a1, .int a2]) ++ List.replicate (3 - (lg_sl ([.ref o, .int a1, .int a2])).length) Slot.unset).toArray = ls at hl ⊢
  have hl : lv_has ls 3 [(0, .ref o), (1, .int a1), (2, .int a2)] := hl
  show W p l e rm_X2_canStand s m (([Value.ref o, Value.int a1, Value.int a2] : List Value).toArray) below meth c s.heap [] 0 0 Q (F0 m 0 ls [])
  unfold x2_canStand at hf
  refine lv_aload_n hx hb dX2_canStand_0 rfl (lv_at hl 0 rfl) ?_
  refine lv_iload_n hx hb dX2_canStand_1 rfl (lv_at hl 1 rfl) ?_
  obtain ⟨r1, hc2, hf⟩ := g_b1 hf
  refine g_rV (As := [.int a1]) (rest := []) ⟨hx, hb, hml, hown, hts⟩ (c_X2_isWhole l dC dI cI cZ cG o o_cells o_standing  v_jars v_weeks f_cells a1 hc2) (cwV 1 hts gX2_canStand_X2_isWhole rfl rfl rfl (by decide +kernel) ⟨Nat.le_of_ble_eq_true rfl, Nat.le_of_ble_eq_true rfl⟩) hK hN (hP.sub [0, 1] rfl) (va_recv hK hP (ci := 2) (q0 := 0) rfl rfl) rfl hl.1 rfl (Nat.le_of_ble_eq_true rfl) dX2_canStand_2 ⟨Nat.zero_le _, Nat.zero_le _⟩ ?_
  refine lv_if_eq (tgt := 29) hx hb dX2_canStand_5 (by decide) (fun c3 => ?_) (fun c3 => ?_)
  · have hf := g_pos c3 hf
    refine lv_iconst (v := (0 : Int32)) hx hb dX2_canStand_29 (by decide) ?_
    rw [hQ]
    exact W.zret (v := (0 : Int32)) hx hb hr (by decide +kernel) (fun t ht hW => ⟨_, rfl, Option.some.inj hf, ht⟩) (fun q h => by cases h) dX2_canStand_30
  · have hf := g_neg c3 hf
    refine lv_iload_n hx hb dX2_canStand_8 rfl (lv_at hl 2 rfl) ?_
    obtain ⟨r4, hc5, hf⟩ := g_b1 hf
    refine g_rSN (As := [.int a2]) (rest := []) ⟨hx, hb, hml, hown, hts⟩ (c_X7_isPlace l dC dI cI cZ cG    a2 hc5) ⟨va_cnB (host := "GreenJars") 1 hts gX2_canStand_X7_isPlace_n76 rfl rfl rfl (hN _ (List.mem_of_getElem? (i := 11) rfl)) (hts (.initialized RX7) (by decide +kernel)) (by decide +kernel) ⟨Nat.le_of_ble_eq_true rfl, Nat.le_of_ble_eq_true rfl⟩, hts (.static yX7_isPlace) (by decide +kernel), trivial⟩ hK hN (hP.sub [] rfl) rfl hl.1 rfl (Nat.le_of_ble_eq_true rfl) dX2_canStand_9 ⟨Nat.zero_le _, Nat.zero_le _⟩ ?_
    refine lv_if_eq (tgt := 29) hx hb dX2_canStand_12 (by decide) (fun c6 => ?_) (fun c6 => ?_)
    · have hf := g_pos c6 hf
      refine lv_iconst (v := (0 : Int32)) hx hb dX2_canStand_29 (by decide) ?_
      rw [hQ]
      exact W.zret (v := (0 : Int32)) hx hb hr (by decide +kernel) (fun t ht hW => ⟨_, rfl, Option.some.inj hf, ht⟩) (fun q h => by cases h) dX2_canStand_30
    · have hf := g_neg c6 hf
      refine lv_aload_n hx hb dX2_canStand_15 rfl (lv_at hl 0 rfl) ?_
      refine lv_iload_n hx hb dX2_canStand_16 rfl (lv_at hl 2 rfl) ?_
      obtain ⟨r7, hc8, hf⟩ := g_b1 hf
      refine g_rV (As := [.int a2]) (rest := []) ⟨hx, hb, hml, hown, hts⟩ (c_X2_jarOn l dC dI cI cZ cG o o_cells o_standing  v_jars v_weeks f_cells a2 hc8) (cwV 1 hts gX2_canStand_X2_jarOn rfl rfl rfl (by decide +kernel) ⟨Nat.le_of_ble_eq_true rfl, Nat.le_of_ble_eq_true rfl⟩) hK hN (hP.sub [0, 1] rfl) (va_recv hK hP (ci := 2) (q0 := 0) rfl rfl) rfl hl.1 rfl (Nat.le_of_ble_eq_true rfl) dX2_canStand_17 ⟨Nat.zero_le _, Nat.zero_le _⟩ ?_
      refine lv_bipush (v := (-9 : Int32)) hx hb dX2_canStand_20 (by decide +kernel) ?_
      refine lv_icmp_ne (tgt := 29) hx hb dX2_canStand_22 (by decide) (fun c9 => ?_) (fun c9 => ?_)
      · have hf := g_neg c9 hf
        refine lv_iconst (v := (0 : Int32)) hx hb dX2_canStand_29 (by decide) ?_
        rw [hQ]
        exact W.zret (v := (0 : Int32)) hx hb hr (by decide +kernel) (fun t ht hW => ⟨_, rfl, Option.some.inj hf, ht⟩) (fun q h => by cases h) dX2_canStand_30
      · have hf := g_pos c9 hf
        refine lv_iconst (v := (1 : Int32)) hx hb dX2_canStand_25 (by decide) ?_
        refine lv_goto (tgt := 30) hx hb dX2_canStand_26 (by decide) ?_
        rw [hQ]
        exact W.zret (v := (1 : Int32)) hx hb hr (by decide +kernel) (fun t ht hW => ⟨_, rfl, Option.some.inj hf, ht⟩) (fun q h => by cases h) dX2_canStand_30
abbrev rm_X2_stand : Room := { frames := 1, cells := 0, slots := 0, locals := 23 }
abbrev w_X2_stand (cI cZ cG : ClassId) (o : Nat) (o_cells : Nat) (o_standing : Nat) (v_jars : Int32) (v_weeks : Int32) (f_cells : Nat → Int32) : va_W := [(o, .inr (2, [.ref o_cells, .ref o_standing, .int v_jars, .int v_weeks])), (o_cells, .inl (cI, 48, .inl f_cells))]
set_option maxHeartbeats 4000000 in
set_option maxRecDepth 100000 in
theorem c_X2_stand (l : Launch) (dC : Nat → ClassId) (dI : Nat → Nat → Nat) (cI cZ cG : ClassId) (o : Nat) (o_cells : Nat) (o_standing : Nat) (sz : Nat) (v_jars : Int32) (v_weeks : Int32) (f_cells : Nat → Int32) (a1 : Int32) (a2 : Int32) {n_cells : Nat → Int32} (hf : x2_stand f_cells a1 a2 = some n_cells) : Met l yX2_stand wsX2_stand rm_X2_stand (va_Pc [.ref o, .int a1, .int a2] (gW (dC, dI) vwCl (gT cI cZ cG) (w_X2_stand cI cZ cG o o_cells o_standing v_jars v_weeks f_cells) sz)) (va_Qv (fun _ => True) (gE (dC, dI) vwCl (gT cI cZ cG) (w_X2_stand cI cZ cG o o_cells o_standing v_jars v_weeks n_cells) (va_A (w_X2_stand cI cZ cG o o_cells o_standing v_jars v_weeks f_cells) sz)) (va_A (w_X2_stand cI cZ cG o o_cells o_standing v_jars v_weeks f_cells) sz)) 0 0 (va_A (w_X2_stand cI cZ cG o o_cells o_standing v_jars v_weeks f_cells) sz) := by
  refine Met.ofW (cc := cX2_stand) (maxL := 3) (ret := none) (by decide) rfl ?_
  intro p e s m args below meth c s₁ B hml hv
  obtain ⟨rfl, hv⟩ := hv
  obtain ⟨hsz, hP, hK, hN, hD0⟩ := hv
  have hx := B.exec
  have hb := B.bytes
  have hr := B.returns
  have hts := atoms_spec (ws := wsX2_stand) B.pre
  have hown : s.vm.findClass RX2 = some m.cls := findClass_of_methodNamed B.named
  have hlocks := B.notSynchronized
  have hiX2 : ∀ w ∈ u_ws RX2 TX2 4, w ∈ wsX2_stand := fun w h => List.mem_cons_of_mem _ (List.mem_append_right _ h)
  subst hsz
  have hD := hD0.self (sz := s.heap.size)
  generalize hAe : va_A (w_X2_stand cI cZ cG o o_cells o_standing v_jars v_weeks f_cells) s.heap.size = A at hD ⊢
  have hA : ∀ q : Nat, s.heap.size ≤ q → A q := fun q h => by rw [← hAe]; exact Or.inr h
  clear hD0
  have hS : va_S A s.heap s.heap [] := va_S.rf
  have hP : va_P (dC, dI) vwCl (w_X2_stand cI cZ cG o o_cells o_standing v_jars v_weeks f_cells) s.heap := hP
  obtain ⟨Q, hQ⟩ : ∃ Q : State → Prop, Q = MQ below (va_Qv (fun _ => True) (gE (dC, dI) vwCl (gT cI cZ cG) (w_X2_stand cI cZ cG o o_cells o_standing v_jars v_weeks n_cells) A) A) (([Value.ref o, Value.int a1, Value.int a2] : List Value).toArray) s 0 0 A := ⟨_, rfl⟩
  have hl := lv_entry ([.ref o, .int a1, .int a2]) (n := 3) (Nat.le_of_ble_eq_true rfl)
  rw [← hQ, lg_entry_eq]
  generalize (lg_sl ([.ref o, .int a1, .int a2]) ++ List.replicate (3 - (lg_sl ([.ref o, .int a1, .int a2])).length) Slot.unset).toArray = ls at hl ⊢
  have hl : lv_has ls 3 [(0, .ref o), (1, .int a1), (2, .int a2)] := hl
  generalize hH : s.heap = H at hP hS ⊢
  have hS : va_S A s.heap H [] := by rw [hH]; exact hS
  generalize hlc : ([] : List Loc) = locs at hS ⊢
  show W p l e rm_X2_stand s m (([Value.ref o, Value.int a1, Value.int a2] : List Value).toArray) below meth c H locs 0 0 Q (F0 m 0 ls [])
  unfold x2_stand at hf
  refine lv_aload_n hx hb dX2_stand_0 rfl (lv_at hl 0 rfl) ?_
  refine lv_iload_n hx hb dX2_stand_1 rfl (lv_at hl 1 rfl) ?_
  refine lv_iconst (v := (0 : Int32)) hx hb dX2_stand_2 (by decide) ?_
  refine lv_iload_n hx hb dX2_stand_3 rfl (lv_at hl 2 rfl) ?_
  obtain ⟨y1, hc2, hf⟩ := g_b1 hf
  refine g_wVv (As := [.int a1, .int (0 : Int32), .int a2]) (rest := []) (wr := []) (wn := (w_X2_stand cI cZ cG o o_cells o_standing v_jars v_weeks y1)) ⟨hx, hb, hml, hown, hts⟩ (c_X2_put l dC dI cI cZ cG o o_cells o_standing H.size  v_jars v_weeks f_cells a1 (0 : Int32) a2 hc2) (cwV 3 hts gX2_stand_X2_put rfl rfl rfl (by decide +kernel) ⟨Nat.le_of_ble_eq_true rfl, Nat.le_of_ble_eq_true rfl⟩) hK hN hP hD hS hA [0, 1] [] [0, 1] rfl rfl (by decide) rfl (by decide) (by decide) rfl (by decide) (va_recv hK hP (ci := 2) (q0 := 0) rfl rfl) rfl hl.1 rfl (Nat.le_of_ble_eq_true rfl) dX2_stand_4 ⟨Nat.zero_le _, Nat.zero_le _⟩ (fun H locs hP hD hS => ?_)
  rw [hQ]
  cases hf
  exact W.vret hx hb hr (fun t ht hW => ⟨⟨(), rfl, trivial, by rw [ht]; exact hP, va_K.moved hW.alike hK, hD⟩, hS.F ht⟩) hS.2.2 dX2_stand_7
abbrev rm_X2_canFill : Room := { frames := 2, cells := 0, slots := 0, locals := 43 }
abbrev w_X2_canFill (cI cZ cG : ClassId) (o : Nat) (o_cells : Nat) (o_standing : Nat) (v_jars : Int32) (v_weeks : Int32) (f_cells : Nat → Int32) : va_W := [(o, .inr (2, [.ref o_cells, .ref o_standing, .int v_jars, .int v_weeks])), (o_cells, .inl (cI, 48, .inl f_cells))]
set_option maxHeartbeats 4000000 in
set_option maxRecDepth 100000 in
theorem c_X2_canFill (l : Launch) (dC : Nat → ClassId) (dI : Nat → Nat → Nat) (cI cZ cG : ClassId) (o : Nat) (o_cells : Nat) (o_standing : Nat) (v_jars : Int32) (v_weeks : Int32) (f_cells : Nat → Int32) (a1 : Int32) (a2 : Int32) {r0 : Int32} (hf : x2_canFill v_jars f_cells a1 a2 = some r0) : Met l yX2_canFill wsX2_canFill rm_X2_canFill (va_Pc [.ref o, .int a1, .int a2] (gR (dC, dI) vwCl (gT cI cZ cG) (w_X2_canFill cI cZ cG o o_cells o_standing v_jars v_weeks f_cells))) (vp_Si (fun r => r = r0)) 0 0 (fun _ => False) := by
  refine Met.ofW (cc := cX2_canFill) (maxL := 3) (ret := (some .boolean)) (by decide) rfl ?_
  intro p e s m args below meth c s₁ B hml hv
  obtain ⟨rfl, hv⟩ := hv
  obtain ⟨hP, hK, hN⟩ := hv
  have hx := B.exec
  have hb := B.bytes
  have hr := B.returns
  have hts := atoms_spec (ws := wsX2_canFill) B.pre
  have hown : s.vm.findClass RX2 = some m.cls := findClass_of_methodNamed B.named
  have hlocks := B.notSynchronized
  have hiX2 : ∀ w ∈ u_ws RX2 TX2 4, w ∈ wsX2_canFill := fun w h => List.mem_cons_of_mem _ (List.mem_append_right _ h)
  obtain ⟨Q, hQ⟩ : ∃ Q : State → Prop, Q = MQ below (vp_Si (fun r => r = r0)) (([Value.ref o, Value.int a1, Value.int a2] : List Value).toArray) s 0 0 (fun _ => False) := ⟨_, rfl⟩
  have hl := lv_entry ([.ref o, .int a1, .int a2]) (n := 3) (Nat.le_of_ble_eq_true rfl)
  rw [← hQ, lg_entry_eq]
  generalize (lg_sl ([.ref o, .int a1, .int a2]) ++ List.replicate (3 - (lg_sl ([.ref o, .int a1, .int a2])).length) Slot.unset).toArray = ls at hl ⊢
  have hl : lv_has ls 3 [(0, .ref o), (1, .int a1), (2, .int a2)] := hl
  show W p l e rm_X2_canFill s m (([Value.ref o, Value.int a1, Value.int a2] : List Value).toArray) below meth c s.heap [] 0 0 Q (F0 m 0 ls [])
  unfold x2_canFill at hf
  refine lv_aload_n hx hb dX2_canFill_0 rfl (lv_at hl 0 rfl) ?_
  refine lv_iload_n hx hb dX2_canFill_1 rfl (lv_at hl 1 rfl) ?_
  obtain ⟨r1, hc2, hf⟩ := g_b1 hf
  refine g_rV (As := [.int a1]) (rest := []) ⟨hx, hb, hml, hown, hts⟩ (c_X2_isWhole l dC dI cI cZ cG o o_cells o_standing  v_jars v_weeks f_cells a1 hc2) (cwV 1 hts gX2_canFill_X2_isWhole rfl rfl rfl (by decide +kernel) ⟨Nat.le_of_ble_eq_true rfl, Nat.le_of_ble_eq_true rfl⟩) hK hN (hP.sub [0, 1] rfl) (va_recv hK hP (ci := 2) (q0 := 0) rfl rfl) rfl hl.1 rfl (Nat.le_of_ble_eq_true rfl) dX2_canFill_2 ⟨Nat.zero_le _, Nat.zero_le _⟩ ?_
  refine lv_if_eq (tgt := 29) hx hb dX2_canFill_5 (by decide) (fun c3 => ?_) (fun c3 => ?_)
  · have hf := g_pos c3 hf
    refine lv_iconst (v := (0 : Int32)) hx hb dX2_canFill_29 (by decide) ?_
    rw [hQ]
    exact W.zret (v := (0 : Int32)) hx hb hr (by decide +kernel) (fun t ht hW => ⟨_, rfl, Option.some.inj hf, ht⟩) (fun q h => by cases h) dX2_canFill_30
  · have hf := g_neg c3 hf
    refine lv_iload_n hx hb dX2_canFill_8 rfl (lv_at hl 2 rfl) ?_
    obtain ⟨r4, hc5, hf⟩ := g_b1 hf
    refine g_rSN (As := [.int a2]) (rest := []) ⟨hx, hb, hml, hown, hts⟩ (c_X7_isStuff l dC dI cI cZ cG    a2 hc5) ⟨va_cnB (host := "GreenJars") 1 hts gX2_canFill_X7_isStuff_n83 rfl rfl rfl (hN _ (List.mem_of_getElem? (i := 13) rfl)) (hts (.initialized RX7) (by decide +kernel)) (by decide +kernel) ⟨Nat.le_of_ble_eq_true rfl, Nat.le_of_ble_eq_true rfl⟩, hts (.static yX7_isStuff) (by decide +kernel), trivial⟩ hK hN (hP.sub [] rfl) rfl hl.1 rfl (Nat.le_of_ble_eq_true rfl) dX2_canFill_9 ⟨Nat.zero_le _, Nat.zero_le _⟩ ?_
    refine lv_if_eq (tgt := 29) hx hb dX2_canFill_12 (by decide) (fun c6 => ?_) (fun c6 => ?_)
    · have hf := g_pos c6 hf
      refine lv_iconst (v := (0 : Int32)) hx hb dX2_canFill_29 (by decide) ?_
      rw [hQ]
      exact W.zret (v := (0 : Int32)) hx hb hr (by decide +kernel) (fun t ht hW => ⟨_, rfl, Option.some.inj hf, ht⟩) (fun q h => by cases h) dX2_canFill_30
    · have hf := g_neg c6 hf
      refine lv_aload_n hx hb dX2_canFill_15 rfl (lv_at hl 0 rfl) ?_
      refine lv_iload_n hx hb dX2_canFill_16 rfl (lv_at hl 1 rfl) ?_
      refine lv_iconst (v := (2 : Int32)) hx hb dX2_canFill_17 (by decide) ?_
      obtain ⟨r7, hc8, hf⟩ := g_b1 hf
      refine g_rV (As := [.int a1, .int (2 : Int32)]) (rest := []) ⟨hx, hb, hml, hown, hts⟩ (c_X2_part l dC dI cI cZ cG o o_cells o_standing  v_jars v_weeks f_cells a1 (2 : Int32) hc8) (cwV 2 hts gX2_canFill_X2_part rfl rfl rfl (by decide +kernel) ⟨Nat.le_of_ble_eq_true rfl, Nat.le_of_ble_eq_true rfl⟩) hK hN (hP.sub [0, 1] rfl) (va_recv hK hP (ci := 2) (q0 := 0) rfl rfl) rfl hl.1 rfl (Nat.le_of_ble_eq_true rfl) dX2_canFill_18 ⟨Nat.zero_le _, Nat.zero_le _⟩ ?_
      refine lv_iload_n hx hb dX2_canFill_21 rfl (lv_at hl 2 rfl) ?_
      refine lv_icmp_eq (tgt := 29) hx hb dX2_canFill_22 (by decide) (fun c9 => ?_) (fun c9 => ?_)
      · have hf := g_pos c9 hf
        refine lv_iconst (v := (0 : Int32)) hx hb dX2_canFill_29 (by decide) ?_
        rw [hQ]
        exact W.zret (v := (0 : Int32)) hx hb hr (by decide +kernel) (fun t ht hW => ⟨_, rfl, Option.some.inj hf, ht⟩) (fun q h => by cases h) dX2_canFill_30
      · have hf := g_neg c9 hf
        refine lv_iconst (v := (1 : Int32)) hx hb dX2_canFill_25 (by decide) ?_
        refine lv_goto (tgt := 30) hx hb dX2_canFill_26 (by decide) ?_
        rw [hQ]
        exact W.zret (v := (1 : Int32)) hx hb hr (by decide +kernel) (fun t ht hW => ⟨_, rfl, Option.some.inj hf, ht⟩) (fun q h => by cases h) dX2_canFill_30
abbrev rm_X2_fill : Room := { frames := 1, cells := 0, slots := 0, locals := 23 }
abbrev w_X2_fill (cI cZ cG : ClassId) (o : Nat) (o_cells : Nat) (o_standing : Nat) (v_jars : Int32) (v_weeks : Int32) (f_cells : Nat → Int32) : va_W := [(o, .inr (2, [.ref o_cells, .ref o_standing, .int v_jars, .int v_weeks])), (o_cells, .inl (cI, 48, .inl f_cells))]
set_option maxHeartbeats 4000000 in
set_option maxRecDepth 100000 in
theorem c_X2_fill (l : Launch) (dC : Nat → ClassId) (dI : Nat → Nat → Nat) (cI cZ cG : ClassId) (o : Nat) (o_cells : Nat) (o_standing : Nat) (sz : Nat) (v_jars : Int32) (v_weeks : Int32) (f_cells : Nat → Int32) (a1 : Int32) (a2 : Int32) {n_cells : Nat → Int32} (hf : x2_fill f_cells a1 a2 = some n_cells) : Met l yX2_fill wsX2_fill rm_X2_fill (va_Pc [.ref o, .int a1, .int a2] (gW (dC, dI) vwCl (gT cI cZ cG) (w_X2_fill cI cZ cG o o_cells o_standing v_jars v_weeks f_cells) sz)) (va_Qv (fun _ => True) (gE (dC, dI) vwCl (gT cI cZ cG) (w_X2_fill cI cZ cG o o_cells o_standing v_jars v_weeks n_cells) (va_A (w_X2_fill cI cZ cG o o_cells o_standing v_jars v_weeks f_cells) sz)) (va_A (w_X2_fill cI cZ cG o o_cells o_standing v_jars v_weeks f_cells) sz)) 0 0 (va_A (w_X2_fill cI cZ cG o o_cells o_standing v_jars v_weeks f_cells) sz) := by
  refine Met.ofW (cc := cX2_fill) (maxL := 3) (ret := none) (by decide) rfl ?_
  intro p e s m args below meth c s₁ B hml hv
  obtain ⟨rfl, hv⟩ := hv
  obtain ⟨hsz, hP, hK, hN, hD0⟩ := hv
  have hx := B.exec
  have hb := B.bytes
  have hr := B.returns
  have hts := atoms_spec (ws := wsX2_fill) B.pre
  have hown : s.vm.findClass RX2 = some m.cls := findClass_of_methodNamed B.named
  have hlocks := B.notSynchronized
  have hiX2 : ∀ w ∈ u_ws RX2 TX2 4, w ∈ wsX2_fill := fun w h => List.mem_cons_of_mem _ (List.mem_append_right _ h)
  subst hsz
  have hD := hD0.self (sz := s.heap.size)
  generalize hAe : va_A (w_X2_fill cI cZ cG o o_cells o_standing v_jars v_weeks f_cells) s.heap.size = A at hD ⊢
  have hA : ∀ q : Nat, s.heap.size ≤ q → A q := fun q h => by rw [← hAe]; exact Or.inr h
  clear hD0
  have hS : va_S A s.heap s.heap [] := va_S.rf
  have hP : va_P (dC, dI) vwCl (w_X2_fill cI cZ cG o o_cells o_standing v_jars v_weeks f_cells) s.heap := hP
  obtain ⟨Q, hQ⟩ : ∃ Q : State → Prop, Q = MQ below (va_Qv (fun _ => True) (gE (dC, dI) vwCl (gT cI cZ cG) (w_X2_fill cI cZ cG o o_cells o_standing v_jars v_weeks n_cells) A) A) (([Value.ref o, Value.int a1, Value.int a2] : List Value).toArray) s 0 0 A := ⟨_, rfl⟩
  have hl := lv_entry ([.ref o, .int a1, .int a2]) (n := 3) (Nat.le_of_ble_eq_true rfl)
  rw [← hQ, lg_entry_eq]
  generalize (lg_sl ([.ref o, .int a1, .int a2]) ++ List.replicate (3 - (lg_sl ([.ref o, .int a1, .int a2])).length) Slot.unset).toArray = ls at hl ⊢
  have hl : lv_has ls 3 [(0, .ref o), (1, .int a1), (2, .int a2)] := hl
  generalize hH : s.heap = H at hP hS ⊢
  have hS : va_S A s.heap H [] := by rw [hH]; exact hS
  generalize hlc : ([] : List Loc) = locs at hS ⊢
  show W p l e rm_X2_fill s m (([Value.ref o, Value.int a1, Value.int a2] : List Value).toArray) below meth c H locs 0 0 Q (F0 m 0 ls [])
  unfold x2_fill at hf
  refine lv_aload_n hx hb dX2_fill_0 rfl (lv_at hl 0 rfl) ?_
  refine lv_iload_n hx hb dX2_fill_1 rfl (lv_at hl 1 rfl) ?_
  refine lv_iconst (v := (2 : Int32)) hx hb dX2_fill_2 (by decide) ?_
  refine lv_iload_n hx hb dX2_fill_3 rfl (lv_at hl 2 rfl) ?_
  obtain ⟨y1, hc2, hf⟩ := g_b1 hf
  refine g_wVv (As := [.int a1, .int (2 : Int32), .int a2]) (rest := []) (wr := []) (wn := (w_X2_fill cI cZ cG o o_cells o_standing v_jars v_weeks y1)) ⟨hx, hb, hml, hown, hts⟩ (c_X2_put l dC dI cI cZ cG o o_cells o_standing H.size  v_jars v_weeks f_cells a1 (2 : Int32) a2 hc2) (cwV 3 hts gX2_fill_X2_put rfl rfl rfl (by decide +kernel) ⟨Nat.le_of_ble_eq_true rfl, Nat.le_of_ble_eq_true rfl⟩) hK hN hP hD hS hA [0, 1] [] [0, 1] rfl rfl (by decide) rfl (by decide) (by decide) rfl (by decide) (va_recv hK hP (ci := 2) (q0 := 0) rfl rfl) rfl hl.1 rfl (Nat.le_of_ble_eq_true rfl) dX2_fill_4 ⟨Nat.zero_le _, Nat.zero_le _⟩ (fun H locs hP hD hS => ?_)
  refine lv_aload_n hx hb dX2_fill_7 rfl (lv_at hl 0 rfl) ?_
  refine lv_iload_n hx hb dX2_fill_8 rfl (lv_at hl 1 rfl) ?_
  refine lv_iconst (v := (5 : Int32)) hx hb dX2_fill_9 (by decide) ?_
  refine lv_iconst (v := (0 : Int32)) hx hb dX2_fill_10 (by decide) ?_
  obtain ⟨y3, hc4, hf⟩ := g_b1 hf
  refine g_wVv (As := [.int a1, .int (5 : Int32), .int (0 : Int32)]) (rest := []) (wr := []) (wn := (w_X2_fill cI cZ cG o o_cells o_standing v_jars v_weeks y3)) ⟨hx, hb, hml, hown, hts⟩ (c_X2_put l dC dI cI cZ cG o o_cells o_standing H.size  v_jars v_weeks y1 a1 (5 : Int32) (0 : Int32) hc4) (cwV 3 hts gX2_fill_X2_put rfl rfl rfl (by decide +kernel) ⟨Nat.le_of_ble_eq_true rfl, Nat.le_of_ble_eq_true rfl⟩) hK hN hP hD hS hA [0, 1] [] [0, 1] rfl rfl (by decide) rfl (by decide) (by decide) rfl (by decide) (va_recv hK hP (ci := 2) (q0 := 0) rfl rfl) rfl hl.1 rfl (Nat.le_of_ble_eq_true rfl) dX2_fill_11 ⟨Nat.zero_le _, Nat.zero_le _⟩ (fun H locs hP hD hS => ?_)
  rw [hQ]
  cases hf
  exact W.vret hx hb hr (fun t ht hW => ⟨⟨(), rfl, trivial, by rw [ht]; exact hP, va_K.moved hW.alike hK, hD⟩, hS.F ht⟩) hS.2.2 dX2_fill_14
abbrev rm_X2_letOut : Room := { frames := 1, cells := 0, slots := 0, locals := 23 }
abbrev w_X2_letOut (cI cZ cG : ClassId) (o : Nat) (o_cells : Nat) (o_standing : Nat) (v_jars : Int32) (v_weeks : Int32) (f_cells : Nat → Int32) : va_W := [(o, .inr (2, [.ref o_cells, .ref o_standing, .int v_jars, .int v_weeks])), (o_cells, .inl (cI, 48, .inl f_cells))]
set_option maxHeartbeats 4000000 in
set_option maxRecDepth 100000 in
theorem c_X2_letOut (l : Launch) (dC : Nat → ClassId) (dI : Nat → Nat → Nat) (cI cZ cG : ClassId) (o : Nat) (o_cells : Nat) (o_standing : Nat) (sz : Nat) (v_jars : Int32) (v_weeks : Int32) (f_cells : Nat → Int32) (a1 : Int32) {n_cells : Nat → Int32} (hf : x2_letOut f_cells a1 = some n_cells) : Met l yX2_letOut wsX2_letOut rm_X2_letOut (va_Pc [.ref o, .int a1] (gW (dC, dI) vwCl (gT cI cZ cG) (w_X2_letOut cI cZ cG o o_cells o_standing v_jars v_weeks f_cells) sz)) (va_Qv (fun _ => True) (gE (dC, dI) vwCl (gT cI cZ cG) (w_X2_letOut cI cZ cG o o_cells o_standing v_jars v_weeks n_cells) (va_A (w_X2_letOut cI cZ cG o o_cells o_standing v_jars v_weeks f_cells) sz)) (va_A (w_X2_letOut cI cZ cG o o_cells o_standing v_jars v_weeks f_cells) sz)) 0 0 (va_A (w_X2_letOut cI cZ cG o o_cells o_standing v_jars v_weeks f_cells) sz) := by
  refine Met.ofW (cc := cX2_letOut) (maxL := 2) (ret := none) (by decide) rfl ?_
  intro p e s m args below meth c s₁ B hml hv
  obtain ⟨rfl, hv⟩ := hv
  obtain ⟨hsz, hP, hK, hN, hD0⟩ := hv
  have hx := B.exec
  have hb := B.bytes
  have hr := B.returns
  have hts := atoms_spec (ws := wsX2_letOut) B.pre
  have hown : s.vm.findClass RX2 = some m.cls := findClass_of_methodNamed B.named
  have hlocks := B.notSynchronized
  have hiX2 : ∀ w ∈ u_ws RX2 TX2 4, w ∈ wsX2_letOut := fun w h => List.mem_cons_of_mem _ (List.mem_append_right _ h)
  subst hsz
  have hD := hD0.self (sz := s.heap.size)
  generalize hAe : va_A (w_X2_letOut cI cZ cG o o_cells o_standing v_jars v_weeks f_cells) s.heap.size = A at hD ⊢
  have hA : ∀ q : Nat, s.heap.size ≤ q → A q := fun q h => by rw [← hAe]; exact Or.inr h
  clear hD0
  have hS : va_S A s.heap s.heap [] := va_S.rf
  have hP : va_P (dC, dI) vwCl (w_X2_letOut cI cZ cG o o_cells o_standing v_jars v_weeks f_cells) s.heap := hP
  obtain ⟨Q, hQ⟩ : ∃ Q : State → Prop, Q = MQ below (va_Qv (fun _ => True) (gE (dC, dI) vwCl (gT cI cZ cG) (w_X2_letOut cI cZ cG o o_cells o_standing v_jars v_weeks n_cells) A) A) (([Value.ref o, Value.int a1] : List Value).toArray) s 0 0 A := ⟨_, rfl⟩
  have hl := lv_entry ([.ref o, .int a1]) (n := 2) (Nat.le_of_ble_eq_true rfl)
  rw [← hQ, lg_entry_eq]
  generalize (lg_sl ([.ref o, .int a1]) ++ List.replicate (2 - (lg_sl ([.ref o, .int a1])).length) Slot.unset).toArray = ls at hl ⊢
  have hl : lv_has ls 2 [(0, .ref o), (1, .int a1)] := hl
  generalize hH : s.heap = H at hP hS ⊢
  have hS : va_S A s.heap H [] := by rw [hH]; exact hS
  generalize hlc : ([] : List Loc) = locs at hS ⊢
  show W p l e rm_X2_letOut s m (([Value.ref o, Value.int a1] : List Value).toArray) below meth c H locs 0 0 Q (F0 m 0 ls [])
  unfold x2_letOut at hf
  refine lv_aload_n hx hb dX2_letOut_0 rfl (lv_at hl 0 rfl) ?_
  refine lv_iload_n hx hb dX2_letOut_1 rfl (lv_at hl 1 rfl) ?_
  refine lv_bipush (v := (7 : Int32)) hx hb dX2_letOut_2 (by decide +kernel) ?_
  refine lv_iconst (v := (2 : Int32)) hx hb dX2_letOut_4 (by decide) ?_
  obtain ⟨y1, hc2, hf⟩ := g_b1 hf
  refine g_wVv (As := [.int a1, .int (7 : Int32), .int (2 : Int32)]) (rest := []) (wr := []) (wn := (w_X2_letOut cI cZ cG o o_cells o_standing v_jars v_weeks y1)) ⟨hx, hb, hml, hown, hts⟩ (c_X2_put l dC dI cI cZ cG o o_cells o_standing H.size  v_jars v_weeks f_cells a1 (7 : Int32) (2 : Int32) hc2) (cwV 3 hts gX2_letOut_X2_put rfl rfl rfl (by decide +kernel) ⟨Nat.le_of_ble_eq_true rfl, Nat.le_of_ble_eq_true rfl⟩) hK hN hP hD hS hA [0, 1] [] [0, 1] rfl rfl (by decide) rfl (by decide) (by decide) rfl (by decide) (va_recv hK hP (ci := 2) (q0 := 0) rfl rfl) rfl hl.1 rfl (Nat.le_of_ble_eq_true rfl) dX2_letOut_5 ⟨Nat.zero_le _, Nat.zero_le _⟩ (fun H locs hP hD hS => ?_)
  rw [hQ]
  cases hf
  exact W.vret hx hb hr (fun t ht hW => ⟨⟨(), rfl, trivial, by rw [ht]; exact hP, va_K.moved hW.alike hK, hD⟩, hS.F ht⟩) hS.2.2 dX2_letOut_8
abbrev rm_X2_turn : Room := { frames := 1, cells := 0, slots := 0, locals := 23 }
abbrev w_X2_turn (cI cZ cG : ClassId) (o : Nat) (o_cells : Nat) (o_standing : Nat) (v_jars : Int32) (v_weeks : Int32) (f_cells : Nat → Int32) : va_W := [(o, .inr (2, [.ref o_cells, .ref o_standing, .int v_jars, .int v_weeks])), (o_cells, .inl (cI, 48, .inl f_cells))]
set_option maxHeartbeats 4000000 in
set_option maxRecDepth 100000 in
theorem c_X2_turn (l : Launch) (dC : Nat → ClassId) (dI : Nat → Nat → Nat) (cI cZ cG : ClassId) (o : Nat) (o_cells : Nat) (o_standing : Nat) (sz : Nat) (v_jars : Int32) (v_weeks : Int32) (f_cells : Nat → Int32) (a1 : Int32) (a2 : Int32) {n_cells : Nat → Int32} (hf : x2_turn f_cells a1 a2 = some n_cells) : Met l yX2_turn wsX2_turn rm_X2_turn (va_Pc [.ref o, .int a1, .int a2] (gW (dC, dI) vwCl (gT cI cZ cG) (w_X2_turn cI cZ cG o o_cells o_standing v_jars v_weeks f_cells) sz)) (va_Qv (fun _ => True) (gE (dC, dI) vwCl (gT cI cZ cG) (w_X2_turn cI cZ cG o o_cells o_standing v_jars v_weeks n_cells) (va_A (w_X2_turn cI cZ cG o o_cells o_standing v_jars v_weeks f_cells) sz)) (va_A (w_X2_turn cI cZ cG o o_cells o_standing v_jars v_weeks f_cells) sz)) 0 0 (va_A (w_X2_turn cI cZ cG o o_cells o_standing v_jars v_weeks f_cells) sz) := by
  refine Met.ofW (cc := cX2_turn) (maxL := 3) (ret := none) (by decide) rfl ?_
  intro p e s m args below meth c s₁ B hml hv
  obtain ⟨rfl, hv⟩ := hv
  obtain ⟨hsz, hP, hK, hN, hD0⟩ := hv
  have hx := B.exec
  have hb := B.bytes
  have hr := B.returns
  have hts := atoms_spec (ws := wsX2_turn) B.pre
  have hown : s.vm.findClass RX2 = some m.cls := findClass_of_methodNamed B.named
  have hlocks := B.notSynchronized
  have hiX2 : ∀ w ∈ u_ws RX2 TX2 4, w ∈ wsX2_turn := fun w h => List.mem_cons_of_mem _ (List.mem_append_right _ h)
  subst hsz
  have hD := hD0.self (sz := s.heap.size)
  generalize hAe : va_A (w_X2_turn cI cZ cG o o_cells o_standing v_jars v_weeks f_cells) s.heap.size = A at hD ⊢
  have hA : ∀ q : Nat, s.heap.size ≤ q → A q := fun q h => by rw [← hAe]; exact Or.inr h
  clear hD0
  have hS : va_S A s.heap s.heap [] := va_S.rf
  have hP : va_P (dC, dI) vwCl (w_X2_turn cI cZ cG o o_cells o_standing v_jars v_weeks f_cells) s.heap := hP
  obtain ⟨Q, hQ⟩ : ∃ Q : State → Prop, Q = MQ below (va_Qv (fun _ => True) (gE (dC, dI) vwCl (gT cI cZ cG) (w_X2_turn cI cZ cG o o_cells o_standing v_jars v_weeks n_cells) A) A) (([Value.ref o, Value.int a1, Value.int a2] : List Value).toArray) s 0 0 A := ⟨_, rfl⟩
  have hl := lv_entry ([.ref o, .int a1, .int a2]) (n := 3) (Nat.le_of_ble_eq_true rfl)
  rw [← hQ, lg_entry_eq]
  generalize (lg_sl ([.ref o, .int a1, .int a2]) ++ List.replicate (3 - (lg_sl ([.ref o, .int a1, .int a2])).length) Slot.unset).toArray = ls at hl ⊢
  have hl : lv_has ls 3 [(0, .ref o), (1, .int a1), (2, .int a2)] := hl
  generalize hH : s.heap = H at hP hS ⊢
  have hS : va_S A s.heap H [] := by rw [hH]; exact hS
  generalize hlc : ([] : List Loc) = locs at hS ⊢
  show W p l e rm_X2_turn s m (([Value.ref o, Value.int a1, Value.int a2] : List Value).toArray) below meth c H locs 0 0 Q (F0 m 0 ls [])
  unfold x2_turn at hf
  refine lv_aload_n hx hb dX2_turn_0 rfl (lv_at hl 0 rfl) ?_
  refine lv_iload_n hx hb dX2_turn_1 rfl (lv_at hl 1 rfl) ?_
  refine lv_bipush (v := (6 : Int32)) hx hb dX2_turn_2 (by decide +kernel) ?_
  refine lv_iload_n hx hb dX2_turn_4 rfl (lv_at hl 2 rfl) ?_
  obtain ⟨y1, hc2, hf⟩ := g_b1 hf
  refine g_wVv (As := [.int a1, .int (6 : Int32), .int a2]) (rest := []) (wr := []) (wn := (w_X2_turn cI cZ cG o o_cells o_standing v_jars v_weeks y1)) ⟨hx, hb, hml, hown, hts⟩ (c_X2_put l dC dI cI cZ cG o o_cells o_standing H.size  v_jars v_weeks f_cells a1 (6 : Int32) a2 hc2) (cwV 3 hts gX2_turn_X2_put rfl rfl rfl (by decide +kernel) ⟨Nat.le_of_ble_eq_true rfl, Nat.le_of_ble_eq_true rfl⟩) hK hN hP hD hS hA [0, 1] [] [0, 1] rfl rfl (by decide) rfl (by decide) (by decide) rfl (by decide) (va_recv hK hP (ci := 2) (q0 := 0) rfl rfl) rfl hl.1 rfl (Nat.le_of_ble_eq_true rfl) dX2_turn_5 ⟨Nat.zero_le _, Nat.zero_le _⟩ (fun H locs hP hD hS => ?_)
  rw [hQ]
  cases hf
  exact W.vret hx hb hr (fun t ht hW => ⟨⟨(), rfl, trivial, by rw [ht]; exact hP, va_K.moved hW.alike hK, hD⟩, hS.F ht⟩) hS.2.2 dX2_turn_8
abbrev rm_X2_tryWeek : Room := { frames := 4, cells := 0, slots := 0, locals := 89 }
abbrev w_X2_tryWeek (cI cZ cG : ClassId) (o : Nat) (o_cells : Nat) (o_standing : Nat) (v_jars : Int32) (v_weeks : Int32) (f_cells : Nat → Int32) : va_W := [(o, .inr (2, [.ref o_cells, .ref o_standing, .int v_jars, .int v_weeks])), (o_cells, .inl (cI, 48, .inl f_cells))]
set_option maxHeartbeats 4000000 in
set_option maxRecDepth 100000 in
theorem c_X2_tryWeek (l : Launch) (dC : Nat → ClassId) (dI : Nat → Nat → Nat) (cI cZ cG : ClassId) {N : Nat} (o : Nat) (o_cells : Nat) (o_standing : Nat) (sz : Nat) (v_jars : Int32) (v_weeks : Int32) (f_cells : Nat → Int32) {r0 : Int32} {n_weeks : Int32} {n_cells : Nat → Int32} (hf : x2_tryWeek N v_jars v_weeks f_cells = some (r0, n_weeks, n_cells)) : Met l yX2_tryWeek wsX2_tryWeek rm_X2_tryWeek (va_Pc [.ref o] (gW (dC, dI) vwCl (gT cI cZ cG) (w_X2_tryWeek cI cZ cG o o_cells o_standing v_jars v_weeks f_cells) sz)) (va_Qi (fun r _ => r = r0) (gE (dC, dI) vwCl (gT cI cZ cG) (w_X2_tryWeek cI cZ cG o o_cells o_standing v_jars n_weeks n_cells) (va_A (w_X2_tryWeek cI cZ cG o o_cells o_standing v_jars v_weeks f_cells) sz)) (va_A (w_X2_tryWeek cI cZ cG o o_cells o_standing v_jars v_weeks f_cells) sz)) 0 0 (va_A (w_X2_tryWeek cI cZ cG o o_cells o_standing v_jars v_weeks f_cells) sz) := by
  refine Met.ofW (cc := cX2_tryWeek) (maxL := 1) (ret := (some .boolean)) (by decide) rfl ?_
  intro p e s m args below meth c s₁ B hml hv
  obtain ⟨rfl, hv⟩ := hv
  obtain ⟨hsz, hP, hK, hN, hD0⟩ := hv
  have hx := B.exec
  have hb := B.bytes
  have hr := B.returns
  have hts := atoms_spec (ws := wsX2_tryWeek) B.pre
  have hown : s.vm.findClass RX2 = some m.cls := findClass_of_methodNamed B.named
  have hlocks := B.notSynchronized
  have hiX2 : ∀ w ∈ u_ws RX2 TX2 4, w ∈ wsX2_tryWeek := fun w h => List.mem_cons_of_mem _ (List.mem_append_right _ h)
  subst hsz
  have hD := hD0.self (sz := s.heap.size)
  generalize hAe : va_A (w_X2_tryWeek cI cZ cG o o_cells o_standing v_jars v_weeks f_cells) s.heap.size = A at hD ⊢
  have hA : ∀ q : Nat, s.heap.size ≤ q → A q := fun q h => by rw [← hAe]; exact Or.inr h
  clear hD0
  have hS : va_S A s.heap s.heap [] := va_S.rf
  have hP : va_P (dC, dI) vwCl (w_X2_tryWeek cI cZ cG o o_cells o_standing v_jars v_weeks f_cells) s.heap := hP
  obtain ⟨Q, hQ⟩ : ∃ Q : State → Prop, Q = MQ below (va_Qi (fun r _ => r = r0) (gE (dC, dI) vwCl (gT cI cZ cG) (w_X2_tryWeek cI cZ cG o o_cells o_standing v_jars n_weeks n_cells) A) A) (([Value.ref o] : List Value).toArray) s 0 0 A := ⟨_, rfl⟩
  have hl := lv_entry ([.ref o]) (n := 1) (Nat.le_of_ble_eq_true rfl)
  rw [← hQ, lg_entry_eq]
  generalize (lg_sl ([.ref o]) ++ List.replicate (1 - (lg_sl ([.ref o])).length) Slot.unset).toArray = ls at hl ⊢
  have hl : lv_has ls 1 [(0, .ref o)] := hl
  generalize hH : s.heap = H at hP hS ⊢
  have hS : va_S A s.heap H [] := by rw [hH]; exact hS
  generalize hlc : ([] : List Loc) = locs at hS ⊢
  show W p l e rm_X2_tryWeek s m (([Value.ref o] : List Value).toArray) below meth c H locs 0 0 Q (F0 m 0 ls [])
  unfold x2_tryWeek at hf
  refine lv_aload_n hx hb dX2_tryWeek_0 rfl (lv_at hl 0 rfl) ?_
  obtain ⟨y1, y2, hc3, hf⟩ := g_b2 hf
  refine g_wVv (As := []) (rest := []) (wr := []) (wn := (w_X2_tryWeek cI cZ cG o o_cells o_standing v_jars y1 y2)) ⟨hx, hb, hml, hown, hts⟩ (c_X2_passWeek l dC dI cI cZ cG o o_cells o_standing H.size  v_jars v_weeks f_cells hc3) (cwV 0 hts gX2_tryWeek_X2_passWeek rfl rfl rfl (by decide +kernel) ⟨Nat.le_of_ble_eq_true rfl, Nat.le_of_ble_eq_true rfl⟩) hK hN hP hD hS hA [0, 1] [] [0, 1] rfl rfl (by decide) rfl (by decide) (by decide) rfl (by decide) (va_recv hK hP (ci := 2) (q0 := 0) rfl rfl) rfl hl.1 rfl (Nat.le_of_ble_eq_true rfl) dX2_tryWeek_1 ⟨Nat.zero_le _, Nat.zero_le _⟩ (fun H locs hP hD hS => ?_)
  refine lv_iconst (v := (1 : Int32)) hx hb dX2_tryWeek_4 (by decide) ?_
  rw [hQ]
  cases hf
  exact W.zret hx hb hr (by decide +kernel) (fun t ht hW => ⟨⟨_, (), rfl, rfl, by rw [ht]; exact hP, va_K.moved hW.alike hK, hD⟩, hS.F ht⟩) hS.2.2 dX2_tryWeek_5
abbrev rm_X2_tryShake : Room := { frames := 4, cells := 0, slots := 0, locals := 86 }
abbrev w_X2_tryShake (cI cZ cG : ClassId) (o : Nat) (o_cells : Nat) (o_standing : Nat) (v_jars : Int32) (v_weeks : Int32) (f_cells : Nat → Int32) : va_W := [(o, .inr (2, [.ref o_cells, .ref o_standing, .int v_jars, .int v_weeks])), (o_cells, .inl (cI, 48, .inl f_cells))]
set_option maxHeartbeats 4000000 in
set_option maxRecDepth 100000 in
theorem c_X2_tryShake (l : Launch) (dC : Nat → ClassId) (dI : Nat → Nat → Nat) (cI cZ cG : ClassId) {N : Nat} (o : Nat) (o_cells : Nat) (o_standing : Nat) (sz : Nat) (v_jars : Int32) (v_weeks : Int32) (f_cells : Nat → Int32) {r0 : Int32} {n_cells : Nat → Int32} (hf : x2_tryShake N v_jars f_cells = some (r0, n_cells)) : Met l yX2_tryShake wsX2_tryShake rm_X2_tryShake (va_Pc [.ref o] (gW (dC, dI) vwCl (gT cI cZ cG) (w_X2_tryShake cI cZ cG o o_cells o_standing v_jars v_weeks f_cells) sz)) (va_Qi (fun r _ => r = r0) (gE (dC, dI) vwCl (gT cI cZ cG) (w_X2_tryShake cI cZ cG o o_cells o_standing v_jars v_weeks n_cells) (va_A (w_X2_tryShake cI cZ cG o o_cells o_standing v_jars v_weeks f_cells) sz)) (va_A (w_X2_tryShake cI cZ cG o o_cells o_standing v_jars v_weeks f_cells) sz)) 0 0 (va_A (w_X2_tryShake cI cZ cG o o_cells o_standing v_jars v_weeks f_cells) sz) := by
  refine Met.ofW (cc := cX2_tryShake) (maxL := 1) (ret := (some .boolean)) (by decide) rfl ?_
  intro p e s m args below meth c s₁ B hml hv
  obtain ⟨rfl, hv⟩ := hv
  obtain ⟨hsz, hP, hK, hN, hD0⟩ := hv
  have hx := B.exec
  have hb := B.bytes
  have hr := B.returns
  have hts := atoms_spec (ws := wsX2_tryShake) B.pre
  have hown : s.vm.findClass RX2 = some m.cls := findClass_of_methodNamed B.named
  have hlocks := B.notSynchronized
  have hiX2 : ∀ w ∈ u_ws RX2 TX2 4, w ∈ wsX2_tryShake := fun w h => List.mem_cons_of_mem _ (List.mem_append_right _ h)
  subst hsz
  have hD := hD0.self (sz := s.heap.size)
  generalize hAe : va_A (w_X2_tryShake cI cZ cG o o_cells o_standing v_jars v_weeks f_cells) s.heap.size = A at hD ⊢
  have hA : ∀ q : Nat, s.heap.size ≤ q → A q := fun q h => by rw [← hAe]; exact Or.inr h
  clear hD0
  have hS : va_S A s.heap s.heap [] := va_S.rf
  have hP : va_P (dC, dI) vwCl (w_X2_tryShake cI cZ cG o o_cells o_standing v_jars v_weeks f_cells) s.heap := hP
  obtain ⟨Q, hQ⟩ : ∃ Q : State → Prop, Q = MQ below (va_Qi (fun r _ => r = r0) (gE (dC, dI) vwCl (gT cI cZ cG) (w_X2_tryShake cI cZ cG o o_cells o_standing v_jars v_weeks n_cells) A) A) (([Value.ref o] : List Value).toArray) s 0 0 A := ⟨_, rfl⟩
  have hl := lv_entry ([.ref o]) (n := 1) (Nat.le_of_ble_eq_true rfl)
  rw [← hQ, lg_entry_eq]
  generalize (lg_sl ([.ref o]) ++ List.replicate (1 - (lg_sl ([.ref o])).length) Slot.unset).toArray = ls at hl ⊢
  have hl : lv_has ls 1 [(0, .ref o)] := hl
  generalize hH : s.heap = H at hP hS ⊢
  have hS : va_S A s.heap H [] := by rw [hH]; exact hS
  generalize hlc : ([] : List Loc) = locs at hS ⊢
  show W p l e rm_X2_tryShake s m (([Value.ref o] : List Value).toArray) below meth c H locs 0 0 Q (F0 m 0 ls [])
  unfold x2_tryShake at hf
  refine lv_aload_n hx hb dX2_tryShake_0 rfl (lv_at hl 0 rfl) ?_
  obtain ⟨r1, y2, hc3, hf⟩ := g_b2 hf
  refine g_wV (As := []) (rest := []) (wr := []) (wn := (w_X2_tryShake cI cZ cG o o_cells o_standing v_jars v_weeks y2)) ⟨hx, hb, hml, hown, hts⟩ (c_X2_rattle l dC dI cI cZ cG o o_cells o_standing H.size  v_jars v_weeks f_cells hc3) (cwV 0 hts gX2_tryShake_X2_rattle rfl rfl rfl (by decide +kernel) ⟨Nat.le_of_ble_eq_true rfl, Nat.le_of_ble_eq_true rfl⟩) hK hN hP hD hS hA [0, 1] [] [0, 1] rfl rfl (by decide) rfl (by decide) (by decide) rfl (by decide) (va_recv hK hP (ci := 2) (q0 := 0) rfl rfl) rfl hl.1 rfl (Nat.le_of_ble_eq_true rfl) dX2_tryShake_1 ⟨Nat.zero_le _, Nat.zero_le _⟩ (fun H locs hP hD hS => ?_)
  refine lv_pop hx hb dX2_tryShake_4 rfl ?_
  refine lv_iconst (v := (1 : Int32)) hx hb dX2_tryShake_5 (by decide) ?_
  rw [hQ]
  cases hf
  exact W.zret hx hb hr (by decide +kernel) (fun t ht hW => ⟨⟨_, (), rfl, rfl, by rw [ht]; exact hP, va_K.moved hW.alike hK, hD⟩, hS.F ht⟩) hS.2.2 dX2_tryShake_6
abbrev rm_X2_tryStand : Room := { frames := 3, cells := 0, slots := 0, locals := 66 }
abbrev w_X2_tryStand (cI cZ cG : ClassId) (o : Nat) (o_cells : Nat) (o_standing : Nat) (v_jars : Int32) (v_weeks : Int32) (f_cells : Nat → Int32) : va_W := [(o, .inr (2, [.ref o_cells, .ref o_standing, .int v_jars, .int v_weeks])), (o_cells, .inl (cI, 48, .inl f_cells))]
set_option maxHeartbeats 4000000 in
set_option maxRecDepth 100000 in
theorem c_X2_tryStand (l : Launch) (dC : Nat → ClassId) (dI : Nat → Nat → Nat) (cI cZ cG : ClassId) {N : Nat} (o : Nat) (o_cells : Nat) (o_standing : Nat) (sz : Nat) (v_jars : Int32) (v_weeks : Int32) (f_cells : Nat → Int32) (a1 : Int32) (a2 : Int32) {r0 : Int32} {n_cells : Nat → Int32} (hf : x2_tryStand N v_jars f_cells a1 a2 = some (r0, n_cells)) : Met l yX2_tryStand wsX2_tryStand rm_X2_tryStand (va_Pc [.ref o, .int a1, .int a2] (gW (dC, dI) vwCl (gT cI cZ cG) (w_X2_tryStand cI cZ cG o o_cells o_standing v_jars v_weeks f_cells) sz)) (va_Qi (fun r _ => r = r0) (gE (dC, dI) vwCl (gT cI cZ cG) (w_X2_tryStand cI cZ cG o o_cells o_standing v_jars v_weeks n_cells) (va_A (w_X2_tryStand cI cZ cG o o_cells o_standing v_jars v_weeks f_cells) sz)) (va_A (w_X2_tryStand cI cZ cG o o_cells o_standing v_jars v_weeks f_cells) sz)) 0 0 (va_A (w_X2_tryStand cI cZ cG o o_cells o_standing v_jars v_weeks f_cells) sz) := by
  refine Met.ofW (cc := cX2_tryStand) (maxL := 4) (ret := (some .boolean)) (by decide) rfl ?_
  intro p e s m args below meth c s₁ B hml hv
  obtain ⟨rfl, hv⟩ := hv
  obtain ⟨hsz, hP, hK, hN, hD0⟩ := hv
  have hx := B.exec
  have hb := B.bytes
  have hr := B.returns
  have hts := atoms_spec (ws := wsX2_tryStand) B.pre
  have hown : s.vm.findClass RX2 = some m.cls := findClass_of_methodNamed B.named
  have hlocks := B.notSynchronized
  have hiX2 : ∀ w ∈ u_ws RX2 TX2 4, w ∈ wsX2_tryStand := fun w h => List.mem_cons_of_mem _ (List.mem_append_right _ h)
  subst hsz
  have hD := hD0.self (sz := s.heap.size)
  generalize hAe : va_A (w_X2_tryStand cI cZ cG o o_cells o_standing v_jars v_weeks f_cells) s.heap.size = A at hD ⊢
  have hA : ∀ q : Nat, s.heap.size ≤ q → A q := fun q h => by rw [← hAe]; exact Or.inr h
  clear hD0
  have hS : va_S A s.heap s.heap [] := va_S.rf
  have hP : va_P (dC, dI) vwCl (w_X2_tryStand cI cZ cG o o_cells o_standing v_jars v_weeks f_cells) s.heap := hP
  obtain ⟨Q, hQ⟩ : ∃ Q : State → Prop, Q = MQ below (va_Qi (fun r _ => r = r0) (gE (dC, dI) vwCl (gT cI cZ cG) (w_X2_tryStand cI cZ cG o o_cells o_standing v_jars v_weeks n_cells) A) A) (([Value.ref o, Value.int a1, Value.int a2] : List Value).toArray) s 0 0 A := ⟨_, rfl⟩
  have hl := lv_entry ([.ref o, .int a1, .int a2]) (n := 4) (Nat.le_of_ble_eq_true rfl)
  rw [← hQ, lg_entry_eq]
  generalize (lg_sl ([.ref o, .int a1, .int a2]) ++ List.replicate (4 - (lg_sl ([.ref o, .int a1, .int a2])).length) Slot.unset).toArray = ls at hl ⊢
  have hl : lv_has ls 4 [(0, .ref o), (1, .int a1), (2, .int a2)] := hl
  generalize hH : s.heap = H at hP hS ⊢
  have hS : va_S A s.heap H [] := by rw [hH]; exact hS
  generalize hlc : ([] : List Loc) = locs at hS ⊢
  show W p l e rm_X2_tryStand s m (([Value.ref o, Value.int a1, Value.int a2] : List Value).toArray) below meth c H locs 0 0 Q (F0 m 0 ls [])
  unfold x2_tryStand at hf
  refine lv_aload_n hx hb dX2_tryStand_0 rfl (lv_at hl 0 rfl) ?_
  refine lv_iload_n hx hb dX2_tryStand_1 rfl (lv_at hl 1 rfl) ?_
  refine lv_iload_n hx hb dX2_tryStand_2 rfl (lv_at hl 2 rfl) ?_
  obtain ⟨r1, hc2, hf⟩ := g_b1 hf
  refine g_rV (As := [.int a1, .int a2]) (rest := []) ⟨hx, hb, hml, hown, hts⟩ (c_X2_canStand l dC dI cI cZ cG o o_cells o_standing  v_jars v_weeks f_cells a1 a2 hc2) (cwV 2 hts gX2_tryStand_X2_canStand rfl rfl rfl (by decide +kernel) ⟨Nat.le_of_ble_eq_true rfl, Nat.le_of_ble_eq_true rfl⟩) hK hN (hP.sub [0, 1] rfl) (va_recv hK hP (ci := 2) (q0 := 0) rfl rfl) rfl hl.1 rfl (Nat.le_of_ble_eq_true rfl) dX2_tryStand_3 ⟨Nat.zero_le _, Nat.zero_le _⟩ ?_
  refine lv_istore_n (lv' := [(3, .int r1), (0, .ref o), (1, .int a1), (2, .int a2)]) hx hb dX2_tryStand_6 rfl hl (by decide) rfl (fun ls hl => ?_)
  refine lv_iload_n hx hb dX2_tryStand_7 rfl (lv_at hl 0 rfl) ?_
  refine lv_if_eq (tgt := 17) hx hb dX2_tryStand_8 (by decide) (fun c3 => ?_) (fun c3 => ?_)
  · have hf := g_pos c3 hf
    refine lv_iload_n hx hb dX2_tryStand_17 rfl (lv_at hl 0 rfl) ?_
    obtain ⟨h4, hf⟩ := g_chk hf
    rw [hQ]
    cases hf
    exact W.zret hx hb hr (gBl_or h4) (fun t ht hW => ⟨⟨_, (), rfl, rfl, by rw [ht]; exact hP, va_K.moved hW.alike hK, hD⟩, hS.F ht⟩) hS.2.2 dX2_tryStand_18
  · have hf := g_neg c3 hf
    refine lv_aload_n hx hb dX2_tryStand_11 rfl (lv_at hl 1 rfl) ?_
    refine lv_iload_n hx hb dX2_tryStand_12 rfl (lv_at hl 2 rfl) ?_
    refine lv_iload_n hx hb dX2_tryStand_13 rfl (lv_at hl 3 rfl) ?_
    obtain ⟨y5, hc6, hf⟩ := g_b1 hf
    refine g_wVv (As := [.int a1, .int a2]) (rest := []) (wr := []) (wn := (w_X2_tryStand cI cZ cG o o_cells o_standing v_jars v_weeks y5)) ⟨hx, hb, hml, hown, hts⟩ (c_X2_stand l dC dI cI cZ cG o o_cells o_standing H.size  v_jars v_weeks f_cells a1 a2 hc6) (cwV 2 hts gX2_tryStand_X2_stand rfl rfl rfl (by decide +kernel) ⟨Nat.le_of_ble_eq_true rfl, Nat.le_of_ble_eq_true rfl⟩) hK hN hP hD hS hA [0, 1] [] [0, 1] rfl rfl (by decide) rfl (by decide) (by decide) rfl (by decide) (va_recv hK hP (ci := 2) (q0 := 0) rfl rfl) rfl hl.1 rfl (Nat.le_of_ble_eq_true rfl) dX2_tryStand_14 ⟨Nat.zero_le _, Nat.zero_le _⟩ (fun H locs hP hD hS => ?_)
    refine lv_iload_n hx hb dX2_tryStand_17 rfl (lv_at hl 0 rfl) ?_
    obtain ⟨h7, hf⟩ := g_chk hf
    rw [hQ]
    cases hf
    exact W.zret hx hb hr (gBl_or h7) (fun t ht hW => ⟨⟨_, (), rfl, rfl, by rw [ht]; exact hP, va_K.moved hW.alike hK, hD⟩, hS.F ht⟩) hS.2.2 dX2_tryStand_18
abbrev rm_X2_tryFill : Room := { frames := 3, cells := 0, slots := 0, locals := 65 }
abbrev w_X2_tryFill (cI cZ cG : ClassId) (o : Nat) (o_cells : Nat) (o_standing : Nat) (v_jars : Int32) (v_weeks : Int32) (f_cells : Nat → Int32) : va_W := [(o, .inr (2, [.ref o_cells, .ref o_standing, .int v_jars, .int v_weeks])), (o_cells, .inl (cI, 48, .inl f_cells))]
set_option maxHeartbeats 4000000 in
set_option maxRecDepth 100000 in
theorem c_X2_tryFill (l : Launch) (dC : Nat → ClassId) (dI : Nat → Nat → Nat) (cI cZ cG : ClassId) (o : Nat) (o_cells : Nat) (o_standing : Nat) (sz : Nat) (v_jars : Int32) (v_weeks : Int32) (f_cells : Nat → Int32) (a1 : Int32) (a2 : Int32) {r0 : Int32} {n_cells : Nat → Int32} (hf : x2_tryFill v_jars f_cells a1 a2 = some (r0, n_cells)) : Met l yX2_tryFill wsX2_tryFill rm_X2_tryFill (va_Pc [.ref o, .int a1, .int a2] (gW (dC, dI) vwCl (gT cI cZ cG) (w_X2_tryFill cI cZ cG o o_cells o_standing v_jars v_weeks f_cells) sz)) (va_Qi (fun r _ => r = r0) (gE (dC, dI) vwCl (gT cI cZ cG) (w_X2_tryFill cI cZ cG o o_cells o_standing v_jars v_weeks n_cells) (va_A (w_X2_tryFill cI cZ cG o o_cells o_standing v_jars v_weeks f_cells) sz)) (va_A (w_X2_tryFill cI cZ cG o o_cells o_standing v_jars v_weeks f_cells) sz)) 0 0 (va_A (w_X2_tryFill cI cZ cG o o_cells o_standing v_jars v_weeks f_cells) sz) := by
  refine Met.ofW (cc := cX2_tryFill) (maxL := 4) (ret := (some .boolean)) (by decide) rfl ?_
  intro p e s m args below meth c s₁ B hml hv
  obtain ⟨rfl, hv⟩ := hv
  obtain ⟨hsz, hP, hK, hN, hD0⟩ := hv
  have hx := B.exec
  have hb := B.bytes
  have hr := B.returns
  have hts := atoms_spec (ws := wsX2_tryFill) B.pre
  have hown : s.vm.findClass RX2 = some m.cls := findClass_of_methodNamed B.named
  have hlocks := B.notSynchronized
  have hiX2 : ∀ w ∈ u_ws RX2 TX2 4, w ∈ wsX2_tryFill := fun w h => List.mem_cons_of_mem _ (List.mem_append_right _ h)
  subst hsz
  have hD := hD0.self (sz := s.heap.size)
  generalize hAe : va_A (w_X2_tryFill cI cZ cG o o_cells o_standing v_jars v_weeks f_cells) s.heap.size = A at hD ⊢
  have hA : ∀ q : Nat, s.heap.size ≤ q → A q := fun q h => by rw [← hAe]; exact Or.inr h
  clear hD0
  have hS : va_S A s.heap s.heap [] := va_S.rf
  have hP : va_P (dC, dI) vwCl (w_X2_tryFill cI cZ cG o o_cells o_standing v_jars v_weeks f_cells) s.heap := hP
  obtain ⟨Q, hQ⟩ : ∃ Q : State → Prop, Q = MQ below (va_Qi (fun r _ => r = r0) (gE (dC, dI) vwCl (gT cI cZ cG) (w_X2_tryFill cI cZ cG o o_cells o_standing v_jars v_weeks n_cells) A) A) (([Value.ref o, Value.int a1, Value.int a2] : List Value).toArray) s 0 0 A := ⟨_, rfl⟩
  have hl := lv_entry ([.ref o, .int a1, .int a2]) (n := 4) (Nat.le_of_ble_eq_true rfl)
  rw [← hQ, lg_entry_eq]
  generalize (lg_sl ([.ref o, .int a1, .int a2]) ++ List.replicate (4 - (lg_sl ([.ref o, .int a1, .int a2])).length) Slot.unset).toArray = ls at hl ⊢
  have hl : lv_has ls 4 [(0, .ref o), (1, .int a1), (2, .int a2)] := hl
  generalize hH : s.heap = H at hP hS ⊢
  have hS : va_S A s.heap H [] := by rw [hH]; exact hS
  generalize hlc : ([] : List Loc) = locs at hS ⊢
  show W p l e rm_X2_tryFill s m (([Value.ref o, Value.int a1, Value.int a2] : List Value).toArray) below meth c H locs 0 0 Q (F0 m 0 ls [])
  unfold x2_tryFill at hf
  refine lv_aload_n hx hb dX2_tryFill_0 rfl (lv_at hl 0 rfl) ?_
  refine lv_iload_n hx hb dX2_tryFill_1 rfl (lv_at hl 1 rfl) ?_
  refine lv_iload_n hx hb dX2_tryFill_2 rfl (lv_at hl 2 rfl) ?_
  obtain ⟨r1, hc2, hf⟩ := g_b1 hf
  refine g_rV (As := [.int a1, .int a2]) (rest := []) ⟨hx, hb, hml, hown, hts⟩ (c_X2_canFill l dC dI cI cZ cG o o_cells o_standing  v_jars v_weeks f_cells a1 a2 hc2) (cwV 2 hts gX2_tryFill_X2_canFill rfl rfl rfl (by decide +kernel) ⟨Nat.le_of_ble_eq_true rfl, Nat.le_of_ble_eq_true rfl⟩) hK hN (hP.sub [0, 1] rfl) (va_recv hK hP (ci := 2) (q0 := 0) rfl rfl) rfl hl.1 rfl (Nat.le_of_ble_eq_true rfl) dX2_tryFill_3 ⟨Nat.zero_le _, Nat.zero_le _⟩ ?_
  refine lv_istore_n (lv' := [(3, .int r1), (0, .ref o), (1, .int a1), (2, .int a2)]) hx hb dX2_tryFill_6 rfl hl (by decide) rfl (fun ls hl => ?_)
  refine lv_iload_n hx hb dX2_tryFill_7 rfl (lv_at hl 0 rfl) ?_
  refine lv_if_eq (tgt := 17) hx hb dX2_tryFill_8 (by decide) (fun c3 => ?_) (fun c3 => ?_)
  · have hf := g_pos c3 hf
    refine lv_iload_n hx hb dX2_tryFill_17 rfl (lv_at hl 0 rfl) ?_
    obtain ⟨h4, hf⟩ := g_chk hf
    rw [hQ]
    cases hf
    exact W.zret hx hb hr (gBl_or h4) (fun t ht hW => ⟨⟨_, (), rfl, rfl, by rw [ht]; exact hP, va_K.moved hW.alike hK, hD⟩, hS.F ht⟩) hS.2.2 dX2_tryFill_18
  · have hf := g_neg c3 hf
    refine lv_aload_n hx hb dX2_tryFill_11 rfl (lv_at hl 1 rfl) ?_
    refine lv_iload_n hx hb dX2_tryFill_12 rfl (lv_at hl 2 rfl) ?_
    refine lv_iload_n hx hb dX2_tryFill_13 rfl (lv_at hl 3 rfl) ?_
    obtain ⟨y5, hc6, hf⟩ := g_b1 hf
    refine g_wVv (As := [.int a1, .int a2]) (rest := []) (wr := []) (wn := (w_X2_tryFill cI cZ cG o o_cells o_standing v_jars v_weeks y5)) ⟨hx, hb, hml, hown, hts⟩ (c_X2_fill l dC dI cI cZ cG o o_cells o_standing H.size  v_jars v_weeks f_cells a1 a2 hc6) (cwV 2 hts gX2_tryFill_X2_fill rfl rfl rfl (by decide +kernel) ⟨Nat.le_of_ble_eq_true rfl, Nat.le_of_ble_eq_true rfl⟩) hK hN hP hD hS hA [0, 1] [] [0, 1] rfl rfl (by decide) rfl (by decide) (by decide) rfl (by decide) (va_recv hK hP (ci := 2) (q0 := 0) rfl rfl) rfl hl.1 rfl (Nat.le_of_ble_eq_true rfl) dX2_tryFill_14 ⟨Nat.zero_le _, Nat.zero_le _⟩ (fun H locs hP hD hS => ?_)
    refine lv_iload_n hx hb dX2_tryFill_17 rfl (lv_at hl 0 rfl) ?_
    obtain ⟨h7, hf⟩ := g_chk hf
    rw [hQ]
    cases hf
    exact W.zret hx hb hr (gBl_or h7) (fun t ht hW => ⟨⟨_, (), rfl, rfl, by rw [ht]; exact hP, va_K.moved hW.alike hK, hD⟩, hS.F ht⟩) hS.2.2 dX2_tryFill_18
abbrev rm_X2_tryLetOut : Room := { frames := 2, cells := 0, slots := 0, locals := 44 }
abbrev w_X2_tryLetOut (cI cZ cG : ClassId) (o : Nat) (o_cells : Nat) (o_standing : Nat) (v_jars : Int32) (v_weeks : Int32) (f_cells : Nat → Int32) : va_W := [(o, .inr (2, [.ref o_cells, .ref o_standing, .int v_jars, .int v_weeks])), (o_cells, .inl (cI, 48, .inl f_cells))]
set_option maxHeartbeats 4000000 in
set_option maxRecDepth 100000 in
theorem c_X2_tryLetOut (l : Launch) (dC : Nat → ClassId) (dI : Nat → Nat → Nat) (cI cZ cG : ClassId) (o : Nat) (o_cells : Nat) (o_standing : Nat) (sz : Nat) (v_jars : Int32) (v_weeks : Int32) (f_cells : Nat → Int32) (a1 : Int32) {r0 : Int32} {n_cells : Nat → Int32} (hf : x2_tryLetOut v_jars f_cells a1 = some (r0, n_cells)) : Met l yX2_tryLetOut wsX2_tryLetOut rm_X2_tryLetOut (va_Pc [.ref o, .int a1] (gW (dC, dI) vwCl (gT cI cZ cG) (w_X2_tryLetOut cI cZ cG o o_cells o_standing v_jars v_weeks f_cells) sz)) (va_Qi (fun r _ => r = r0) (gE (dC, dI) vwCl (gT cI cZ cG) (w_X2_tryLetOut cI cZ cG o o_cells o_standing v_jars v_weeks n_cells) (va_A (w_X2_tryLetOut cI cZ cG o o_cells o_standing v_jars v_weeks f_cells) sz)) (va_A (w_X2_tryLetOut cI cZ cG o o_cells o_standing v_jars v_weeks f_cells) sz)) 0 0 (va_A (w_X2_tryLetOut cI cZ cG o o_cells o_standing v_jars v_weeks f_cells) sz) := by
  refine Met.ofW (cc := cX2_tryLetOut) (maxL := 3) (ret := (some .boolean)) (by decide) rfl ?_
  intro p e s m args below meth c s₁ B hml hv
  obtain ⟨rfl, hv⟩ := hv
  obtain ⟨hsz, hP, hK, hN, hD0⟩ := hv
  have hx := B.exec
  have hb := B.bytes
  have hr := B.returns
  have hts := atoms_spec (ws := wsX2_tryLetOut) B.pre
  have hown : s.vm.findClass RX2 = some m.cls := findClass_of_methodNamed B.named
  have hlocks := B.notSynchronized
  have hiX2 : ∀ w ∈ u_ws RX2 TX2 4, w ∈ wsX2_tryLetOut := fun w h => List.mem_cons_of_mem _ (List.mem_append_right _ h)
  subst hsz
  have hD := hD0.self (sz := s.heap.size)
  generalize hAe : va_A (w_X2_tryLetOut cI cZ cG o o_cells o_standing v_jars v_weeks f_cells) s.heap.size = A at hD ⊢
  have hA : ∀ q : Nat, s.heap.size ≤ q → A q := fun q h => by rw [← hAe]; exact Or.inr h
  clear hD0
  have hS : va_S A s.heap s.heap [] := va_S.rf
  have hP : va_P (dC, dI) vwCl (w_X2_tryLetOut cI cZ cG o o_cells o_standing v_jars v_weeks f_cells) s.heap := hP
  obtain ⟨Q, hQ⟩ : ∃ Q : State → Prop, Q = MQ below (va_Qi (fun r _ => r = r0) (gE (dC, dI) vwCl (gT cI cZ cG) (w_X2_tryLetOut cI cZ cG o o_cells o_standing v_jars v_weeks n_cells) A) A) (([Value.ref o, Value.int a1] : List Value).toArray) s 0 0 A := ⟨_, rfl⟩
  have hl := lv_entry ([.ref o, .int a1]) (n := 3) (Nat.le_of_ble_eq_true rfl)
  rw [← hQ, lg_entry_eq]
  generalize (lg_sl ([.ref o, .int a1]) ++ List.replicate (3 - (lg_sl ([.ref o, .int a1])).length) Slot.unset).toArray = ls at hl ⊢
  have hl : lv_has ls 3 [(0, .ref o), (1, .int a1)] := hl
  generalize hH : s.heap = H at hP hS ⊢
  have hS : va_S A s.heap H [] := by rw [hH]; exact hS
  generalize hlc : ([] : List Loc) = locs at hS ⊢
  show W p l e rm_X2_tryLetOut s m (([Value.ref o, Value.int a1] : List Value).toArray) below meth c H locs 0 0 Q (F0 m 0 ls [])
  unfold x2_tryLetOut at hf
  refine lv_aload_n hx hb dX2_tryLetOut_0 rfl (lv_at hl 0 rfl) ?_
  refine lv_iload_n hx hb dX2_tryLetOut_1 rfl (lv_at hl 1 rfl) ?_
  obtain ⟨r1, hc2, hf⟩ := g_b1 hf
  refine g_rV (As := [.int a1]) (rest := []) ⟨hx, hb, hml, hown, hts⟩ (c_X2_isWhole l dC dI cI cZ cG o o_cells o_standing  v_jars v_weeks f_cells a1 hc2) (cwV 1 hts gX2_tryLetOut_X2_isWhole rfl rfl rfl (by decide +kernel) ⟨Nat.le_of_ble_eq_true rfl, Nat.le_of_ble_eq_true rfl⟩) hK hN (hP.sub [0, 1] rfl) (va_recv hK hP (ci := 2) (q0 := 0) rfl rfl) rfl hl.1 rfl (Nat.le_of_ble_eq_true rfl) dX2_tryLetOut_2 ⟨Nat.zero_le _, Nat.zero_le _⟩ ?_
  refine lv_istore_n (lv' := [(2, .int r1), (0, .ref o), (1, .int a1)]) hx hb dX2_tryLetOut_5 rfl hl (by decide) rfl (fun ls hl => ?_)
  refine lv_iload_n hx hb dX2_tryLetOut_6 rfl (lv_at hl 0 rfl) ?_
  refine lv_if_eq (tgt := 15) hx hb dX2_tryLetOut_7 (by decide) (fun c3 => ?_) (fun c3 => ?_)
  · have hf := g_pos c3 hf
    refine lv_iload_n hx hb dX2_tryLetOut_15 rfl (lv_at hl 0 rfl) ?_
    obtain ⟨h4, hf⟩ := g_chk hf
    rw [hQ]
    cases hf
    exact W.zret hx hb hr (gBl_or h4) (fun t ht hW => ⟨⟨_, (), rfl, rfl, by rw [ht]; exact hP, va_K.moved hW.alike hK, hD⟩, hS.F ht⟩) hS.2.2 dX2_tryLetOut_16
  · have hf := g_neg c3 hf
    refine lv_aload_n hx hb dX2_tryLetOut_10 rfl (lv_at hl 1 rfl) ?_
    refine lv_iload_n hx hb dX2_tryLetOut_11 rfl (lv_at hl 2 rfl) ?_
    obtain ⟨y5, hc6, hf⟩ := g_b1 hf
    refine g_wVv (As := [.int a1]) (rest := []) (wr := []) (wn := (w_X2_tryLetOut cI cZ cG o o_cells o_standing v_jars v_weeks y5)) ⟨hx, hb, hml, hown, hts⟩ (c_X2_letOut l dC dI cI cZ cG o o_cells o_standing H.size  v_jars v_weeks f_cells a1 hc6) (cwV 1 hts gX2_tryLetOut_X2_letOut rfl rfl rfl (by decide +kernel) ⟨Nat.le_of_ble_eq_true rfl, Nat.le_of_ble_eq_true rfl⟩) hK hN hP hD hS hA [0, 1] [] [0, 1] rfl rfl (by decide) rfl (by decide) (by decide) rfl (by decide) (va_recv hK hP (ci := 2) (q0 := 0) rfl rfl) rfl hl.1 rfl (Nat.le_of_ble_eq_true rfl) dX2_tryLetOut_12 ⟨Nat.zero_le _, Nat.zero_le _⟩ (fun H locs hP hD hS => ?_)
    refine lv_iload_n hx hb dX2_tryLetOut_15 rfl (lv_at hl 0 rfl) ?_
    obtain ⟨h7, hf⟩ := g_chk hf
    rw [hQ]
    cases hf
    exact W.zret hx hb hr (gBl_or h7) (fun t ht hW => ⟨⟨_, (), rfl, rfl, by rw [ht]; exact hP, va_K.moved hW.alike hK, hD⟩, hS.F ht⟩) hS.2.2 dX2_tryLetOut_16
abbrev rm_X2_bitsOf : Room := { frames := 1, cells := 0, slots := 0, locals := 22 }
abbrev w_X2_bitsOf (cI cZ cG : ClassId) (o : Nat) (o_cells : Nat) (o_standing : Nat) (v_jars : Int32) (v_weeks : Int32) (f_cells : Nat → Int32) : va_W := [(o, .inr (2, [.ref o_cells, .ref o_standing, .int v_jars, .int v_weeks])), (o_cells, .inl (cI, 48, .inl f_cells))]
set_option maxHeartbeats 4000000 in
set_option maxRecDepth 100000 in
theorem c_X2_bitsOf (l : Launch) (dC : Nat → ClassId) (dI : Nat → Nat → Nat) (cI cZ cG : ClassId) {N : Nat} (o : Nat) (o_cells : Nat) (o_standing : Nat) (v_jars : Int32) (v_weeks : Int32) (f_cells : Nat → Int32) (a1 : Int32) {r0 : Int32} (hf : x2_bitsOf N v_jars f_cells a1 = some r0) : Met l yX2_bitsOf wsX2_bitsOf rm_X2_bitsOf (va_Pc [.ref o, .int a1] (gR (dC, dI) vwCl (gT cI cZ cG) (w_X2_bitsOf cI cZ cG o o_cells o_standing v_jars v_weeks f_cells))) (vp_Si (fun r => r = r0)) 0 0 (fun _ => False) := by
  refine Met.ofW (cc := cX2_bitsOf) (maxL := 4) (ret := (some .int)) (by decide) rfl ?_
  intro p e s m args below meth c s₁ B hml hv
  obtain ⟨rfl, hv⟩ := hv
  obtain ⟨hP, hK, hN⟩ := hv
  have hx := B.exec
  have hb := B.bytes
  have hr := B.returns
  have hts := atoms_spec (ws := wsX2_bitsOf) B.pre
  have hown : s.vm.findClass RX2 = some m.cls := findClass_of_methodNamed B.named
  have hlocks := B.notSynchronized
  have hiX2 : ∀ w ∈ u_ws RX2 TX2 4, w ∈ wsX2_bitsOf := fun w h => List.mem_cons_of_mem _ (List.mem_append_right _ h)
  obtain ⟨Q, hQ⟩ : ∃ Q : State → Prop, Q = MQ below (vp_Si (fun r => r = r0)) (([Value.ref o, Value.int a1] : List Value).toArray) s 0 0 (fun _ => False) := ⟨_, rfl⟩
  have hl := lv_entry ([.ref o, .int a1]) (n := 4) (Nat.le_of_ble_eq_true rfl)
  rw [← hQ, lg_entry_eq]
  generalize (lg_sl ([.ref o, .int a1]) ++ List.replicate (4 - (lg_sl ([.ref o, .int a1])).length) Slot.unset).toArray = ls at hl ⊢
  have hl : lv_has ls 4 [(0, .ref o), (1, .int a1)] := hl
  show W p l e rm_X2_bitsOf s m (([Value.ref o, Value.int a1] : List Value).toArray) below meth c s.heap [] 0 0 Q (F0 m 0 ls [])
  have L4 : ∀ (n4 : Nat), ∀ (x2 : Int32) (x3 : Int32) (ls : Array Slot), x2_bitsOf_b4 N v_jars f_cells a1 n4 x2 x3 = some r0 → lv_has ls 4 [(0, .ref o), (1, .int a1), (2, .int x2), (3, .int x3)] → W p l e rm_X2_bitsOf s m (([Value.ref o, Value.int a1] : List Value).toArray) below meth c s.heap [] 0 0 Q (F0 m 4 ls []) := by
    intro n4
    induction n4 with
    | zero =>
      intro x2 x3 ls hf hl
      exact g_no hf
    | succ n4 ih4 =>
      intro x2 x3 ls hf hl
      unfold x2_bitsOf_b4 at hf
      refine lv_iload_n hx hb dX2_bitsOf_4 rfl (lv_at hl 3 rfl) ?_
      refine lv_aload_n hx hb dX2_bitsOf_5 rfl (lv_at hl 0 rfl) ?_
      refine va_get (D := (dC, dI)) (ci := 2) (v := .int v_jars) (C := RX2) (T := TX2) (N := 4) hx hb hts hiX2 hown hK hP 0 rfl rfl 2 (by decide) (hts (.fieldLink RX2 18 "GreenJars$Shelf" "jars" "I") (by decide +kernel)) (fun _ h9 => h9) rfl dX2_bitsOf_6 ?_
      refine lv_icmp_ge (tgt := 35) hx hb dX2_bitsOf_9 (by decide) (fun c1 => ?_) (fun c1 => ?_)
      · have hf := g_pos c1 hf
        refine lv_iload_n hx hb dX2_bitsOf_35 rfl (lv_at hl 2 rfl) ?_
        rw [hQ]
        exact W.iret (v := x2) hx hb hr (fun t ht hW => ⟨_, rfl, Option.some.inj hf, ht⟩) (fun q h => by cases h) dX2_bitsOf_36
      · have hf := g_neg c1 hf
        refine lv_aload_n hx hb dX2_bitsOf_12 rfl (lv_at hl 0 rfl) ?_
        refine lv_iload_n hx hb dX2_bitsOf_13 rfl (lv_at hl 3 rfl) ?_
        refine lv_bipush (v := (7 : Int32)) hx hb dX2_bitsOf_14 (by decide +kernel) ?_
        obtain ⟨r2, hc3, hf⟩ := g_b1 hf
        refine g_rV (As := [.int x3, .int (7 : Int32)]) (rest := []) ⟨hx, hb, hml, hown, hts⟩ (c_X2_part l dC dI cI cZ cG o o_cells o_standing  v_jars v_weeks f_cells x3 (7 : Int32) hc3) (cwV 2 hts gX2_bitsOf_X2_part rfl rfl rfl (by decide +kernel) ⟨Nat.le_of_ble_eq_true rfl, Nat.le_of_ble_eq_true rfl⟩) hK hN (hP.sub [0, 1] rfl) (va_recv hK hP (ci := 2) (q0 := 0) rfl rfl) rfl hl.1 rfl (Nat.le_of_ble_eq_true rfl) dX2_bitsOf_16 ⟨Nat.zero_le _, Nat.zero_le _⟩ ?_
        refine lv_iload_n hx hb dX2_bitsOf_19 rfl (lv_at hl 1 rfl) ?_
        refine lv_icmp_ne (tgt := 29) hx hb dX2_bitsOf_20 (by decide) (fun c4 => ?_) (fun c4 => ?_)
        · have hf := g_neg c4 hf
          refine lv_iinc (v := (x3 + (1 : Int32))) (lv' := [(3, .int (x3 + (1 : Int32))), (0, .ref o), (1, .int a1), (2, .int x2)]) hx hb dX2_bitsOf_29 hl (k := 3) rfl rfl (by decide) rfl (fun ls hl => ?_)
          refine lv_goto (tgt := 4) hx hb dX2_bitsOf_32 (by decide) ?_
          exact ih4 x2 (x3 + (1 : Int32)) ls hf (lv_sub hl [1, 2, 3, 0] rfl)
        · have hf := g_pos c4 hf
          refine lv_iload_n hx hb dX2_bitsOf_23 rfl (lv_at hl 2 rfl) ?_
          refine lv_iconst (v := (1 : Int32)) hx hb dX2_bitsOf_24 (by decide) ?_
          refine lv_iload_n hx hb dX2_bitsOf_25 rfl (lv_at hl 3 rfl) ?_
          refine lv_ishl hx hb dX2_bitsOf_26 ?_
          refine lv_ior hx hb dX2_bitsOf_27 ?_
          refine lv_istore_n (lv' := [(2, .int (x2 ||| ((1 : Int32) <<< (x3 &&& 31)))), (0, .ref o), (1, .int a1), (3, .int x3)]) hx hb dX2_bitsOf_28 rfl hl (by decide) rfl (fun ls hl => ?_)
          refine lv_iinc (v := (x3 + (1 : Int32))) (lv' := [(3, .int (x3 + (1 : Int32))), (2, .int (x2 ||| ((1 : Int32) <<< (x3 &&& 31)))), (0, .ref o), (1, .int a1)]) hx hb dX2_bitsOf_29 hl (k := 3) rfl rfl (by decide) rfl (fun ls hl => ?_)
          refine lv_goto (tgt := 4) hx hb dX2_bitsOf_32 (by decide) ?_
          exact ih4 (x2 ||| ((1 : Int32) <<< (x3 &&& 31))) (x3 + (1 : Int32)) ls hf (lv_sub hl [2, 3, 1, 0] rfl)
  unfold x2_bitsOf at hf
  refine lv_iconst (v := (0 : Int32)) hx hb dX2_bitsOf_0 (by decide) ?_
  refine lv_istore_n (lv' := [(2, .int (0 : Int32)), (0, .ref o), (1, .int a1)]) hx hb dX2_bitsOf_1 rfl hl (by decide) rfl (fun ls hl => ?_)
  refine lv_iconst (v := (0 : Int32)) hx hb dX2_bitsOf_2 (by decide) ?_
  refine lv_istore_n (lv' := [(3, .int (0 : Int32)), (2, .int (0 : Int32)), (0, .ref o), (1, .int a1)]) hx hb dX2_bitsOf_3 rfl hl (by decide) rfl (fun ls hl => ?_)
  exact L4 N (0 : Int32) (0 : Int32) ls hf (lv_sub hl [2, 3, 1, 0] rfl)
abbrev rm_X2_placesTaken : Room := { frames := 1, cells := 0, slots := 0, locals := 22 }
abbrev w_X2_placesTaken (cI cZ cG : ClassId) (o : Nat) (o_cells : Nat) (o_standing : Nat) (v_jars : Int32) (v_weeks : Int32) (f_cells : Nat → Int32) : va_W := [(o, .inr (2, [.ref o_cells, .ref o_standing, .int v_jars, .int v_weeks])), (o_cells, .inl (cI, 48, .inl f_cells))]
set_option maxHeartbeats 4000000 in
set_option maxRecDepth 100000 in
theorem c_X2_placesTaken (l : Launch) (dC : Nat → ClassId) (dI : Nat → Nat → Nat) (cI cZ cG : ClassId) {N : Nat} (o : Nat) (o_cells : Nat) (o_standing : Nat) (v_jars : Int32) (v_weeks : Int32) (f_cells : Nat → Int32) {r0 : Int32} (hf : x2_placesTaken N v_jars f_cells = some r0) : Met l yX2_placesTaken wsX2_placesTaken rm_X2_placesTaken (va_Pc [.ref o] (gR (dC, dI) vwCl (gT cI cZ cG) (w_X2_placesTaken cI cZ cG o o_cells o_standing v_jars v_weeks f_cells))) (vp_Si (fun r => r = r0)) 0 0 (fun _ => False) := by
  refine Met.ofW (cc := cX2_placesTaken) (maxL := 3) (ret := (some .int)) (by decide) rfl ?_
  intro p e s m args below meth c s₁ B hml hv
  obtain ⟨rfl, hv⟩ := hv
  obtain ⟨hP, hK, hN⟩ := hv
  have hx := B.exec
  have hb := B.bytes
  have hr := B.returns
  have hts := atoms_spec (ws := wsX2_placesTaken) B.pre
  have hown : s.vm.findClass RX2 = some m.cls := findClass_of_methodNamed B.named
  have hlocks := B.notSynchronized
  have hiX2 : ∀ w ∈ u_ws RX2 TX2 4, w ∈ wsX2_placesTaken := fun w h => List.mem_cons_of_mem _ (List.mem_append_right _ h)
  obtain ⟨Q, hQ⟩ : ∃ Q : State → Prop, Q = MQ below (vp_Si (fun r => r = r0)) (([Value.ref o] : List Value).toArray) s 0 0 (fun _ => False) := ⟨_, rfl⟩
  have hl := lv_entry ([.ref o]) (n := 3) (Nat.le_of_ble_eq_true rfl)
  rw [← hQ, lg_entry_eq]
  generalize (lg_sl ([.ref o]) ++ List.replicate (3 - (lg_sl ([.ref o])).length) Slot.unset).toArray = ls at hl ⊢
  have hl : lv_has ls 3 [(0, .ref o)] := hl
  show W p l e rm_X2_placesTaken s m (([Value.ref o] : List Value).toArray) below meth c s.heap [] 0 0 Q (F0 m 0 ls [])
  have L4 : ∀ (n4 : Nat), ∀ (x1 : Int32) (x2 : Int32) (ls : Array Slot), x2_placesTaken_b4 N v_jars f_cells n4 x1 x2 = some r0 → lv_has ls 3 [(0, .ref o), (1, .int x1), (2, .int x2)] → W p l e rm_X2_placesTaken s m (([Value.ref o] : List Value).toArray) below meth c s.heap [] 0 0 Q (F0 m 4 ls []) := by
    intro n4
    induction n4 with
    | zero =>
      intro x1 x2 ls hf hl
      exact g_no hf
    | succ n4 ih4 =>
      intro x1 x2 ls hf hl
      unfold x2_placesTaken_b4 at hf
      refine lv_iload_n hx hb dX2_placesTaken_4 rfl (lv_at hl 2 rfl) ?_
      refine lv_aload_n hx hb dX2_placesTaken_5 rfl (lv_at hl 0 rfl) ?_
      refine va_get (D := (dC, dI)) (ci := 2) (v := .int v_jars) (C := RX2) (T := TX2) (N := 4) hx hb hts hiX2 hown hK hP 0 rfl rfl 2 (by decide) (hts (.fieldLink RX2 18 "GreenJars$Shelf" "jars" "I") (by decide +kernel)) (fun _ h9 => h9) rfl dX2_placesTaken_6 ?_
      refine lv_icmp_ge (tgt := 40) hx hb dX2_placesTaken_9 (by decide) (fun c1 => ?_) (fun c1 => ?_)
      · have hf := g_pos c1 hf
        refine lv_iload_n hx hb dX2_placesTaken_40 rfl (lv_at hl 1 rfl) ?_
        rw [hQ]
        exact W.iret (v := x1) hx hb hr (fun t ht hW => ⟨_, rfl, Option.some.inj hf, ht⟩) (fun q h => by cases h) dX2_placesTaken_41
      · have hf := g_neg c1 hf
        refine lv_aload_n hx hb dX2_placesTaken_12 rfl (lv_at hl 0 rfl) ?_
        refine lv_iload_n hx hb dX2_placesTaken_13 rfl (lv_at hl 2 rfl) ?_
        refine lv_bipush (v := (7 : Int32)) hx hb dX2_placesTaken_14 (by decide +kernel) ?_
        obtain ⟨r2, hc3, hf⟩ := g_b1 hf
        refine g_rV (As := [.int x2, .int (7 : Int32)]) (rest := []) ⟨hx, hb, hml, hown, hts⟩ (c_X2_part l dC dI cI cZ cG o o_cells o_standing  v_jars v_weeks f_cells x2 (7 : Int32) hc3) (cwV 2 hts gX2_placesTaken_X2_part rfl rfl rfl (by decide +kernel) ⟨Nat.le_of_ble_eq_true rfl, Nat.le_of_ble_eq_true rfl⟩) hK hN (hP.sub [0, 1] rfl) (va_recv hK hP (ci := 2) (q0 := 0) rfl rfl) rfl hl.1 rfl (Nat.le_of_ble_eq_true rfl) dX2_placesTaken_16 ⟨Nat.zero_le _, Nat.zero_le _⟩ ?_
        refine lv_iconst (v := (2 : Int32)) hx hb dX2_placesTaken_19 (by decide) ?_
        refine lv_icmp_eq (tgt := 34) hx hb dX2_placesTaken_20 (by decide) (fun c4 => ?_) (fun c4 => ?_)
        · have hf := g_pos c4 hf
          refine lv_iinc (v := (x2 + (1 : Int32))) (lv' := [(2, .int (x2 + (1 : Int32))), (0, .ref o), (1, .int x1)]) hx hb dX2_placesTaken_34 hl (k := 2) rfl rfl (by decide) rfl (fun ls hl => ?_)
          refine lv_goto (tgt := 4) hx hb dX2_placesTaken_37 (by decide) ?_
          exact ih4 x1 (x2 + (1 : Int32)) ls hf (lv_sub hl [1, 2, 0] rfl)
        · have hf := g_neg c4 hf
          refine lv_iload_n hx hb dX2_placesTaken_23 rfl (lv_at hl 1 rfl) ?_
          refine lv_iconst (v := (1 : Int32)) hx hb dX2_placesTaken_24 (by decide) ?_
          refine lv_aload_n hx hb dX2_placesTaken_25 rfl (lv_at hl 0 rfl) ?_
          refine lv_iload_n hx hb dX2_placesTaken_26 rfl (lv_at hl 2 rfl) ?_
          refine lv_iconst (v := (0 : Int32)) hx hb dX2_placesTaken_27 (by decide) ?_
          obtain ⟨r5, hc6, hf⟩ := g_b1 hf
          refine g_rV (As := [.int x2, .int (0 : Int32)]) (rest := [.int (1 : Int32), .int x1]) ⟨hx, hb, hml, hown, hts⟩ (c_X2_part l dC dI cI cZ cG o o_cells o_standing  v_jars v_weeks f_cells x2 (0 : Int32) hc6) (cwV 2 hts gX2_placesTaken_X2_part rfl rfl rfl (by decide +kernel) ⟨Nat.le_of_ble_eq_true rfl, Nat.le_of_ble_eq_true rfl⟩) hK hN (hP.sub [0, 1] rfl) (va_recv hK hP (ci := 2) (q0 := 0) rfl rfl) rfl hl.1 rfl (Nat.le_of_ble_eq_true rfl) dX2_placesTaken_28 ⟨Nat.zero_le _, Nat.zero_le _⟩ ?_
          refine lv_ishl hx hb dX2_placesTaken_31 ?_
          refine lv_ior hx hb dX2_placesTaken_32 ?_
          refine lv_istore_n (lv' := [(1, .int (x1 ||| ((1 : Int32) <<< (r5 &&& 31)))), (0, .ref o), (2, .int x2)]) hx hb dX2_placesTaken_33 rfl hl (by decide) rfl (fun ls hl => ?_)
          refine lv_iinc (v := (x2 + (1 : Int32))) (lv' := [(2, .int (x2 + (1 : Int32))), (1, .int (x1 ||| ((1 : Int32) <<< (r5 &&& 31)))), (0, .ref o)]) hx hb dX2_placesTaken_34 hl (k := 2) rfl rfl (by decide) rfl (fun ls hl => ?_)
          refine lv_goto (tgt := 4) hx hb dX2_placesTaken_37 (by decide) ?_
          exact ih4 (x1 ||| ((1 : Int32) <<< (r5 &&& 31))) (x2 + (1 : Int32)) ls hf (lv_sub hl [2, 1, 0] rfl)
  unfold x2_placesTaken at hf
  refine lv_iconst (v := (0 : Int32)) hx hb dX2_placesTaken_0 (by decide) ?_
  refine lv_istore_n (lv' := [(1, .int (0 : Int32)), (0, .ref o)]) hx hb dX2_placesTaken_1 rfl hl (by decide) rfl (fun ls hl => ?_)
  refine lv_iconst (v := (0 : Int32)) hx hb dX2_placesTaken_2 (by decide) ?_
  refine lv_istore_n (lv' := [(2, .int (0 : Int32)), (1, .int (0 : Int32)), (0, .ref o)]) hx hb dX2_placesTaken_3 rfl hl (by decide) rfl (fun ls hl => ?_)
  exact L4 N (0 : Int32) (0 : Int32) ls hf (lv_sub hl [2, 1, 0] rfl)
abbrev rm_X2_flavours : Room := { frames := 2, cells := 0, slots := 0, locals := 43 }
abbrev w_X2_flavours (cI cZ cG : ClassId) (o : Nat) (o_cells : Nat) (o_standing : Nat) (v_jars : Int32) (v_weeks : Int32) (f_cells : Nat → Int32) : va_W := [(o, .inr (2, [.ref o_cells, .ref o_standing, .int v_jars, .int v_weeks])), (o_cells, .inl (cI, 48, .inl f_cells))]
set_option maxHeartbeats 4000000 in
set_option maxRecDepth 100000 in
theorem c_X2_flavours (l : Launch) (dC : Nat → ClassId) (dI : Nat → Nat → Nat) (cI cZ cG : ClassId) {N : Nat} (o : Nat) (o_cells : Nat) (o_standing : Nat) (v_jars : Int32) (v_weeks : Int32) (f_cells : Nat → Int32) {r0 : Int32} (hf : x2_flavours N v_jars f_cells = some r0) : Met l yX2_flavours wsX2_flavours rm_X2_flavours (va_Pc [.ref o] (gR (dC, dI) vwCl (gT cI cZ cG) (w_X2_flavours cI cZ cG o o_cells o_standing v_jars v_weeks f_cells))) (vp_Si (fun r => r = r0)) 0 0 (fun _ => False) := by
  refine Met.ofW (cc := cX2_flavours) (maxL := 3) (ret := (some .int)) (by decide) rfl ?_
  intro p e s m args below meth c s₁ B hml hv
  obtain ⟨rfl, hv⟩ := hv
  obtain ⟨hP, hK, hN⟩ := hv
  have hx := B.exec
  have hb := B.bytes
  have hr := B.returns
  have hts := atoms_spec (ws := wsX2_flavours) B.pre
  have hown : s.vm.findClass RX2 = some m.cls := findClass_of_methodNamed B.named
  have hlocks := B.notSynchronized
  have hiX2 : ∀ w ∈ u_ws RX2 TX2 4, w ∈ wsX2_flavours := fun w h => List.mem_cons_of_mem _ (List.mem_append_right _ h)
  obtain ⟨Q, hQ⟩ : ∃ Q : State → Prop, Q = MQ below (vp_Si (fun r => r = r0)) (([Value.ref o] : List Value).toArray) s 0 0 (fun _ => False) := ⟨_, rfl⟩
  have hl := lv_entry ([.ref o]) (n := 3) (Nat.le_of_ble_eq_true rfl)
  rw [← hQ, lg_entry_eq]
  generalize (lg_sl ([.ref o]) ++ List.replicate (3 - (lg_sl ([.ref o])).length) Slot.unset).toArray = ls at hl ⊢
  have hl : lv_has ls 3 [(0, .ref o)] := hl
  show W p l e rm_X2_flavours s m (([Value.ref o] : List Value).toArray) below meth c s.heap [] 0 0 Q (F0 m 0 ls [])
  have L4 : ∀ (n4 : Nat), ∀ (x1 : Int32) (x2 : Int32) (ls : Array Slot), x2_flavours_b4 N v_jars f_cells n4 x1 x2 = some r0 → lv_has ls 3 [(0, .ref o), (1, .int x1), (2, .int x2)] → W p l e rm_X2_flavours s m (([Value.ref o] : List Value).toArray) below meth c s.heap [] 0 0 Q (F0 m 4 ls []) := by
    intro n4
    induction n4 with
    | zero =>
      intro x1 x2 ls hf hl
      exact g_no hf
    | succ n4 ih4 =>
      have J31 : ∀ (x2 : Int32) (t0 : Int32) (t1 : Int32) (ls : Array Slot), x2_flavours_b31 N v_jars f_cells (x2_flavours_b4 N v_jars f_cells n4) x2 t0 t1 = some r0 → lv_has ls 3 [(0, .ref o), (2, .int x2)] → W p l e rm_X2_flavours s m (([Value.ref o] : List Value).toArray) below meth c s.heap [] 0 0 Q (F0 m 31 ls [.int t1, .int t0]) := by
        intro x2 t0 t1 ls hf hl
        unfold x2_flavours_b31 at hf
        refine lv_iadd hx hb dX2_flavours_31 ?_
        refine lv_istore_n (lv' := [(1, .int (t0 + t1)), (0, .ref o), (2, .int x2)]) hx hb dX2_flavours_32 rfl hl (by decide) rfl (fun ls hl => ?_)
        refine lv_iinc (v := (x2 + (1 : Int32))) (lv' := [(2, .int (x2 + (1 : Int32))), (1, .int (t0 + t1)), (0, .ref o)]) hx hb dX2_flavours_33 hl (k := 2) rfl rfl (by decide) rfl (fun ls hl => ?_)
        refine lv_goto (tgt := 4) hx hb dX2_flavours_36 (by decide) ?_
        exact ih4 (t0 + t1) (x2 + (1 : Int32)) ls hf (lv_sub hl [2, 1, 0] rfl)
      intro x1 x2 ls hf hl
      unfold x2_flavours_b4 at hf
      refine lv_iload_n hx hb dX2_flavours_4 rfl (lv_at hl 2 rfl) ?_
      refine lv_aload_n hx hb dX2_flavours_5 rfl (lv_at hl 0 rfl) ?_
      refine va_get (D := (dC, dI)) (ci := 2) (v := .int v_jars) (C := RX2) (T := TX2) (N := 4) hx hb hts hiX2 hown hK hP 0 rfl rfl 2 (by decide) (hts (.fieldLink RX2 18 "GreenJars$Shelf" "jars" "I") (by decide +kernel)) (fun _ h9 => h9) rfl dX2_flavours_6 ?_
      refine lv_icmp_ge (tgt := 39) hx hb dX2_flavours_9 (by decide) (fun c1 => ?_) (fun c1 => ?_)
      · have hf := g_pos c1 hf
        refine lv_iload_n hx hb dX2_flavours_39 rfl (lv_at hl 1 rfl) ?_
        rw [hQ]
        exact W.iret (v := x1) hx hb hr (fun t ht hW => ⟨_, rfl, Option.some.inj hf, ht⟩) (fun q h => by cases h) dX2_flavours_40
      · have hf := g_neg c1 hf
        refine lv_iload_n hx hb dX2_flavours_12 rfl (lv_at hl 1 rfl) ?_
        refine lv_aload_n hx hb dX2_flavours_13 rfl (lv_at hl 0 rfl) ?_
        refine lv_iload_n hx hb dX2_flavours_14 rfl (lv_at hl 2 rfl) ?_
        obtain ⟨r2, hc3, hf⟩ := g_b1 hf
        refine g_rV (As := [.int x2]) (rest := [.int x1]) ⟨hx, hb, hml, hown, hts⟩ (c_X2_isWhole l dC dI cI cZ cG o o_cells o_standing  v_jars v_weeks f_cells x2 hc3) (cwV 1 hts gX2_flavours_X2_isWhole rfl rfl rfl (by decide +kernel) ⟨Nat.le_of_ble_eq_true rfl, Nat.le_of_ble_eq_true rfl⟩) hK hN (hP.sub [0, 1] rfl) (va_recv hK hP (ci := 2) (q0 := 0) rfl rfl) rfl hl.1 rfl (Nat.le_of_ble_eq_true rfl) dX2_flavours_15 ⟨Nat.zero_le _, Nat.zero_le _⟩ ?_
        refine lv_if_eq (tgt := 30) hx hb dX2_flavours_18 (by decide) (fun c4 => ?_) (fun c4 => ?_)
        · have hf := g_pos c4 hf
          refine lv_iconst (v := (0 : Int32)) hx hb dX2_flavours_30 (by decide) ?_
          exact J31 x2 x1 (0 : Int32) ls hf (lv_sub hl [0, 2] rfl)
        · have hf := g_neg c4 hf
          refine lv_aload_n hx hb dX2_flavours_21 rfl (lv_at hl 0 rfl) ?_
          refine lv_iload_n hx hb dX2_flavours_22 rfl (lv_at hl 2 rfl) ?_
          refine lv_iconst (v := (1 : Int32)) hx hb dX2_flavours_23 (by decide) ?_
          obtain ⟨r5, hc6, hf⟩ := g_b1 hf
          refine g_rV (As := [.int x2, .int (1 : Int32)]) (rest := [.int x1]) ⟨hx, hb, hml, hown, hts⟩ (c_X2_part l dC dI cI cZ cG o o_cells o_standing  v_jars v_weeks f_cells x2 (1 : Int32) hc6) (cwV 2 hts gX2_flavours_X2_part rfl rfl rfl (by decide +kernel) ⟨Nat.le_of_ble_eq_true rfl, Nat.le_of_ble_eq_true rfl⟩) hK hN (hP.sub [0, 1] rfl) (va_recv hK hP (ci := 2) (q0 := 0) rfl rfl) rfl hl.1 rfl (Nat.le_of_ble_eq_true rfl) dX2_flavours_24 ⟨Nat.zero_le _, Nat.zero_le _⟩ ?_
          refine lv_goto (tgt := 31) hx hb dX2_flavours_27 (by decide) ?_
          exact J31 x2 x1 r5 ls hf (lv_sub hl [0, 2] rfl)
  unfold x2_flavours at hf
  refine lv_iconst (v := (0 : Int32)) hx hb dX2_flavours_0 (by decide) ?_
  refine lv_istore_n (lv' := [(1, .int (0 : Int32)), (0, .ref o)]) hx hb dX2_flavours_1 rfl hl (by decide) rfl (fun ls hl => ?_)
  refine lv_iconst (v := (0 : Int32)) hx hb dX2_flavours_2 (by decide) ?_
  refine lv_istore_n (lv' := [(2, .int (0 : Int32)), (1, .int (0 : Int32)), (0, .ref o)]) hx hb dX2_flavours_3 rfl hl (by decide) rfl (fun ls hl => ?_)
  exact L4 N (0 : Int32) (0 : Int32) ls hf (lv_sub hl [2, 1, 0] rfl)
abbrev rm_X2_nearest : Room := { frames := 1, cells := 0, slots := 0, locals := 22 }
abbrev w_X2_nearest (cI cZ cG : ClassId) (o : Nat) (o_cells : Nat) (o_standing : Nat) (v_jars : Int32) (v_weeks : Int32) (f_cells : Nat → Int32) : va_W := [(o, .inr (2, [.ref o_cells, .ref o_standing, .int v_jars, .int v_weeks])), (o_cells, .inl (cI, 48, .inl f_cells))]
set_option maxHeartbeats 4000000 in
set_option maxRecDepth 100000 in
theorem c_X2_nearest (l : Launch) (dC : Nat → ClassId) (dI : Nat → Nat → Nat) (cI cZ cG : ClassId) {N : Nat} (o : Nat) (o_cells : Nat) (o_standing : Nat) (v_jars : Int32) (v_weeks : Int32) (f_cells : Nat → Int32) (a1 : Int32) (a2 : Int32) {r0 : Int32} (hf : x2_nearest N v_jars f_cells a1 a2 = some r0) : Met l yX2_nearest wsX2_nearest rm_X2_nearest (va_Pc [.ref o, .int a1, .int a2] (gR (dC, dI) vwCl (gT cI cZ cG) (w_X2_nearest cI cZ cG o o_cells o_standing v_jars v_weeks f_cells))) (vp_Si (fun r => r = r0)) 0 0 (fun _ => False) := by
  refine Met.ofW (cc := cX2_nearest) (maxL := 7) (ret := (some .int)) (by decide) rfl ?_
  intro p e s m args below meth c s₁ B hml hv
  obtain ⟨rfl, hv⟩ := hv
  obtain ⟨hP, hK, hN⟩ := hv
  have hx := B.exec
  have hb := B.bytes
  have hr := B.returns
  have hts := atoms_spec (ws := wsX2_nearest) B.pre
  have hown : s.vm.findClass RX2 = some m.cls := findClass_of_methodNamed B.named
  have hlocks := B.notSynchronized
  have hiX2 : ∀ w ∈ u_ws RX2 TX2 4, w ∈ wsX2_nearest := fun w h => List.mem_cons_of_mem _ (List.mem_append_right _ h)
  obtain ⟨Q, hQ⟩ : ∃ Q : State → Prop, Q = MQ below (vp_Si (fun r => r = r0)) (([Value.ref o, Value.int a1, Value.int a2] : List Value).toArray) s 0 0 (fun _ => False) := ⟨_, rfl⟩
  have hl := lv_entry ([.ref o, .int a1, .int a2]) (n := 7) (Nat.le_of_ble_eq_true rfl)
  rw [← hQ, lg_entry_eq]
  generalize (lg_sl ([.ref o, .int a1, .int a2]) ++ List.replicate (7 - (lg_sl ([.ref o, .int a1, .int a2])).length) Slot.unset).toArray = ls at hl ⊢
  have hl : lv_has ls 7 [(0, .ref o), (1, .int a1), (2, .int a2)] := hl
  show W p l e rm_X2_nearest s m (([Value.ref o, Value.int a1, Value.int a2] : List Value).toArray) below meth c s.heap [] 0 0 Q (F0 m 0 ls [])
  have L10 : ∀ (n10 : Nat), ∀ (x3 : Int32) (x4 : Int32) (x5 : Int32) (ls : Array Slot), x2_nearest_b10 N v_jars f_cells a1 a2 n10 x3 x4 x5 = some r0 → lv_has ls 7 [(0, .ref o), (1, .int a1), (2, .int a2), (3, .int x3), (4, .int x4), (5, .int x5)] → W p l e rm_X2_nearest s m (([Value.ref o, Value.int a1, Value.int a2] : List Value).toArray) below meth c s.heap [] 0 0 Q (F0 m 10 ls []) := by
    intro n10
    induction n10 with
    | zero =>
      intro x3 x4 x5 ls hf hl
      exact g_no hf
    | succ n10 ih10 =>
      intro x3 x4 x5 ls hf hl
      unfold x2_nearest_b10 at hf
      refine lv_iload hx hb dX2_nearest_10 (lv_at hl 5 rfl) ?_
      refine lv_aload_n hx hb dX2_nearest_12 rfl (lv_at hl 0 rfl) ?_
      refine va_get (D := (dC, dI)) (ci := 2) (v := .int v_jars) (C := RX2) (T := TX2) (N := 4) hx hb hts hiX2 hown hK hP 0 rfl rfl 2 (by decide) (hts (.fieldLink RX2 18 "GreenJars$Shelf" "jars" "I") (by decide +kernel)) (fun _ h9 => h9) rfl dX2_nearest_13 ?_
      refine lv_icmp_ge (tgt := 74) hx hb dX2_nearest_16 (by decide) (fun c1 => ?_) (fun c1 => ?_)
      · have hf := g_pos c1 hf
        refine lv_iload_n hx hb dX2_nearest_74 rfl (lv_at hl 3 rfl) ?_
        rw [hQ]
        exact W.iret (v := x3) hx hb hr (fun t ht hW => ⟨_, rfl, Option.some.inj hf, ht⟩) (fun q h => by cases h) dX2_nearest_75
      · have hf := g_neg c1 hf
        refine lv_aload_n hx hb dX2_nearest_19 rfl (lv_at hl 0 rfl) ?_
        refine lv_iload hx hb dX2_nearest_20 (lv_at hl 5 rfl) ?_
        refine lv_iconst (v := (0 : Int32)) hx hb dX2_nearest_22 (by decide) ?_
        obtain ⟨r2, hc3, hf⟩ := g_b1 hf
        refine g_rV (As := [.int x5, .int (0 : Int32)]) (rest := []) ⟨hx, hb, hml, hown, hts⟩ (c_X2_part l dC dI cI cZ cG o o_cells o_standing  v_jars v_weeks f_cells x5 (0 : Int32) hc3) (cwV 2 hts gX2_nearest_X2_part rfl rfl rfl (by decide +kernel) ⟨Nat.le_of_ble_eq_true rfl, Nat.le_of_ble_eq_true rfl⟩) hK hN (hP.sub [0, 1] rfl) (va_recv hK hP (ci := 2) (q0 := 0) rfl rfl) rfl hl.1 rfl (Nat.le_of_ble_eq_true rfl) dX2_nearest_23 ⟨Nat.zero_le _, Nat.zero_le _⟩ ?_
        refine lv_aload_n hx hb dX2_nearest_26 rfl (lv_at hl 0 rfl) ?_
        refine lv_iload_n hx hb dX2_nearest_27 rfl (lv_at hl 1 rfl) ?_
        refine lv_iconst (v := (0 : Int32)) hx hb dX2_nearest_28 (by decide) ?_
        obtain ⟨r4, hc5, hf⟩ := g_b1 hf
        refine g_rV (As := [.int a1, .int (0 : Int32)]) (rest := [.int r2]) ⟨hx, hb, hml, hown, hts⟩ (c_X2_part l dC dI cI cZ cG o o_cells o_standing  v_jars v_weeks f_cells a1 (0 : Int32) hc5) (cwV 2 hts gX2_nearest_X2_part rfl rfl rfl (by decide +kernel) ⟨Nat.le_of_ble_eq_true rfl, Nat.le_of_ble_eq_true rfl⟩) hK hN (hP.sub [0, 1] rfl) (va_recv hK hP (ci := 2) (q0 := 0) rfl rfl) rfl hl.1 rfl (Nat.le_of_ble_eq_true rfl) dX2_nearest_29 ⟨Nat.zero_le _, Nat.zero_le _⟩ ?_
        refine lv_isub hx hb dX2_nearest_32 ?_
        refine lv_iload_n hx hb dX2_nearest_33 rfl (lv_at hl 2 rfl) ?_
        refine lv_imul hx hb dX2_nearest_34 ?_
        refine lv_istore (lv' := [(6, .int ((r2 - r4) * a2)), (0, .ref o), (1, .int a1), (2, .int a2), (3, .int x3), (4, .int x4), (5, .int x5)]) hx hb dX2_nearest_35 hl (by decide) rfl (fun ls hl => ?_)
        refine lv_iload hx hb dX2_nearest_37 (lv_at hl 0 rfl) ?_
        refine lv_if_le (tgt := 68) hx hb dX2_nearest_39 (by decide) (fun c6 => ?_) (fun c6 => ?_)
        · have hf := g_pos c6 hf
          refine lv_iinc (v := (x5 + (1 : Int32))) (lv' := [(5, .int (x5 + (1 : Int32))), (6, .int ((r2 - r4) * a2)), (0, .ref o), (1, .int a1), (2, .int a2), (3, .int x3), (4, .int x4)]) hx hb dX2_nearest_68 hl (k := 6) rfl rfl (by decide) rfl (fun ls hl => ?_)
          refine lv_goto (tgt := 10) hx hb dX2_nearest_71 (by decide) ?_
          exact ih10 x3 x4 (x5 + (1 : Int32)) ls hf (lv_sub hl [2, 3, 4, 5, 6, 0] rfl)
        · have hf := g_neg c6 hf
          refine lv_iload hx hb dX2_nearest_42 (lv_at hl 0 rfl) ?_
          refine lv_iload hx hb dX2_nearest_44 (lv_at hl 5 rfl) ?_
          refine lv_icmp_ge (tgt := 68) hx hb dX2_nearest_46 (by decide) (fun c7 => ?_) (fun c7 => ?_)
          · have hf := g_pos c7 hf
            refine lv_iinc (v := (x5 + (1 : Int32))) (lv' := [(5, .int (x5 + (1 : Int32))), (6, .int ((r2 - r4) * a2)), (0, .ref o), (1, .int a1), (2, .int a2), (3, .int x3), (4, .int x4)]) hx hb dX2_nearest_68 hl (k := 6) rfl rfl (by decide) rfl (fun ls hl => ?_)
            refine lv_goto (tgt := 10) hx hb dX2_nearest_71 (by decide) ?_
            exact ih10 x3 x4 (x5 + (1 : Int32)) ls hf (lv_sub hl [2, 3, 4, 5, 6, 0] rfl)
          · have hf := g_neg c7 hf
            refine lv_aload_n hx hb dX2_nearest_49 rfl (lv_at hl 1 rfl) ?_
            refine lv_iload hx hb dX2_nearest_50 (lv_at hl 6 rfl) ?_
            refine lv_bipush (v := (7 : Int32)) hx hb dX2_nearest_52 (by decide +kernel) ?_
            obtain ⟨r8, hc9, hf⟩ := g_b1 hf
            refine g_rV (As := [.int x5, .int (7 : Int32)]) (rest := []) ⟨hx, hb, hml, hown, hts⟩ (c_X2_part l dC dI cI cZ cG o o_cells o_standing  v_jars v_weeks f_cells x5 (7 : Int32) hc9) (cwV 2 hts gX2_nearest_X2_part rfl rfl rfl (by decide +kernel) ⟨Nat.le_of_ble_eq_true rfl, Nat.le_of_ble_eq_true rfl⟩) hK hN (hP.sub [0, 1] rfl) (va_recv hK hP (ci := 2) (q0 := 0) rfl rfl) rfl hl.1 rfl (Nat.le_of_ble_eq_true rfl) dX2_nearest_54 ⟨Nat.zero_le _, Nat.zero_le _⟩ ?_
            refine lv_iconst (v := (2 : Int32)) hx hb dX2_nearest_57 (by decide) ?_
            refine lv_icmp_eq (tgt := 68) hx hb dX2_nearest_58 (by decide) (fun c10 => ?_) (fun c10 => ?_)
            · have hf := g_pos c10 hf
              refine lv_iinc (v := (x5 + (1 : Int32))) (lv' := [(5, .int (x5 + (1 : Int32))), (6, .int ((r2 - r4) * a2)), (0, .ref o), (1, .int a1), (2, .int a2), (3, .int x3), (4, .int x4)]) hx hb dX2_nearest_68 hl (k := 6) rfl rfl (by decide) rfl (fun ls hl => ?_)
              refine lv_goto (tgt := 10) hx hb dX2_nearest_71 (by decide) ?_
              exact ih10 x3 x4 (x5 + (1 : Int32)) ls hf (lv_sub hl [2, 3, 4, 5, 6, 0] rfl)
            · have hf := g_neg c10 hf
              refine lv_iload hx hb dX2_nearest_61 (lv_at hl 6 rfl) ?_
              refine lv_istore_n (lv' := [(3, .int x5), (6, .int ((r2 - r4) * a2)), (0, .ref o), (1, .int a1), (2, .int a2), (4, .int x4), (5, .int x5)]) hx hb dX2_nearest_63 rfl hl (by decide) rfl (fun ls hl => ?_)
              refine lv_iload hx hb dX2_nearest_64 (lv_at hl 1 rfl) ?_
              refine lv_istore (lv' := [(4, .int ((r2 - r4) * a2)), (3, .int x5), (6, .int ((r2 - r4) * a2)), (0, .ref o), (1, .int a1), (2, .int a2), (5, .int x5)]) hx hb dX2_nearest_66 hl (by decide) rfl (fun ls hl => ?_)
              refine lv_iinc (v := (x5 + (1 : Int32))) (lv' := [(5, .int (x5 + (1 : Int32))), (4, .int ((r2 - r4) * a2)), (3, .int x5), (6, .int ((r2 - r4) * a2)), (0, .ref o), (1, .int a1), (2, .int a2)]) hx hb dX2_nearest_68 hl (k := 6) rfl rfl (by decide) rfl (fun ls hl => ?_)
              refine lv_goto (tgt := 10) hx hb dX2_nearest_71 (by decide) ?_
              exact ih10 x5 ((r2 - r4) * a2) (x5 + (1 : Int32)) ls hf (lv_sub hl [4, 5, 6, 2, 1, 0] rfl)
  unfold x2_nearest at hf
  refine lv_bipush (v := (-9 : Int32)) hx hb dX2_nearest_0 (by decide +kernel) ?_
  refine lv_istore_n (lv' := [(3, .int (-9 : Int32)), (0, .ref o), (1, .int a1), (2, .int a2)]) hx hb dX2_nearest_2 rfl hl (by decide) rfl (fun ls hl => ?_)
  refine lv_bipush (v := (8 : Int32)) hx hb dX2_nearest_3 (by decide +kernel) ?_
  refine lv_istore (lv' := [(4, .int (8 : Int32)), (3, .int (-9 : Int32)), (0, .ref o), (1, .int a1), (2, .int a2)]) hx hb dX2_nearest_5 hl (by decide) rfl (fun ls hl => ?_)
  refine lv_iconst (v := (0 : Int32)) hx hb dX2_nearest_7 (by decide) ?_
  refine lv_istore (lv' := [(5, .int (0 : Int32)), (4, .int (8 : Int32)), (3, .int (-9 : Int32)), (0, .ref o), (1, .int a1), (2, .int a2)]) hx hb dX2_nearest_8 hl (by decide) rfl (fun ls hl => ?_)
  exact L10 N (-9 : Int32) (8 : Int32) (0 : Int32) ls hf (lv_sub hl [3, 4, 5, 2, 1, 0] rfl)
abbrev rm_X2_isClear : Room := { frames := 1, cells := 0, slots := 0, locals := 22 }
abbrev w_X2_isClear (cI cZ cG : ClassId) (o : Nat) (o_cells : Nat) (o_standing : Nat) (v_jars : Int32) (v_weeks : Int32) (f_cells : Nat → Int32) : va_W := [(o, .inr (2, [.ref o_cells, .ref o_standing, .int v_jars, .int v_weeks])), (o_cells, .inl (cI, 48, .inl f_cells))]
set_option maxHeartbeats 4000000 in
set_option maxRecDepth 100000 in
theorem c_X2_isClear (l : Launch) (dC : Nat → ClassId) (dI : Nat → Nat → Nat) (cI cZ cG : ClassId) (o : Nat) (o_cells : Nat) (o_standing : Nat) (v_jars : Int32) (v_weeks : Int32) (f_cells : Nat → Int32) (a1 : Int32) (a2 : Int32) {r0 : Int32} (hf : x2_isClear f_cells a1 a2 = some r0) : Met l yX2_isClear wsX2_isClear rm_X2_isClear (va_Pc [.ref o, .int a1, .int a2] (gR (dC, dI) vwCl (gT cI cZ cG) (w_X2_isClear cI cZ cG o o_cells o_standing v_jars v_weeks f_cells))) (vp_Si (fun r => r = r0)) 0 0 (fun _ => False) := by
  refine Met.ofW (cc := cX2_isClear) (maxL := 5) (ret := (some .boolean)) (by decide) rfl ?_
  intro p e s m args below meth c s₁ B hml hv
  obtain ⟨rfl, hv⟩ := hv
  obtain ⟨hP, hK, hN⟩ := hv
  have hx := B.exec
  have hb := B.bytes
  have hr := B.returns
  have hts := atoms_spec (ws := wsX2_isClear) B.pre
  have hown : s.vm.findClass RX2 = some m.cls := findClass_of_methodNamed B.named
  have hlocks := B.notSynchronized
  have hiX2 : ∀ w ∈ u_ws RX2 TX2 4, w ∈ wsX2_isClear := fun w h => List.mem_cons_of_mem _ (List.mem_append_right _ h)
  obtain ⟨Q, hQ⟩ : ∃ Q : State → Prop, Q = MQ below (vp_Si (fun r => r = r0)) (([Value.ref o, Value.int a1, Value.int a2] : List Value).toArray) s 0 0 (fun _ => False) := ⟨_, rfl⟩
  have hl := lv_entry ([.ref o, .int a1, .int a2]) (n := 5) (Nat.le_of_ble_eq_true rfl)
  rw [← hQ, lg_entry_eq]
  generalize (lg_sl ([.ref o, .int a1, .int a2]) ++ List.replicate (5 - (lg_sl ([.ref o, .int a1, .int a2])).length) Slot.unset).toArray = ls at hl ⊢
  have hl : lv_has ls 5 [(0, .ref o), (1, .int a1), (2, .int a2)] := hl
  show W p l e rm_X2_isClear s m (([Value.ref o, Value.int a1, Value.int a2] : List Value).toArray) below meth c s.heap [] 0 0 Q (F0 m 0 ls [])
  have J50 : ∀ (x3 : Int32) (t0 : Int32) (ls : Array Slot), x2_isClear_b50 f_cells a1 a2 x3 t0 = some r0 → lv_has ls 5 [(0, .ref o), (1, .int a1), (3, .int x3)] → W p l e rm_X2_isClear s m (([Value.ref o, Value.int a1, Value.int a2] : List Value).toArray) below meth c s.heap [] 0 0 Q (F0 m 50 ls [.int t0]) := by
    intro x3 t0 ls hf hl
    unfold x2_isClear_b50 at hf
    refine lv_istore (lv' := [(4, .int t0), (0, .ref o), (1, .int a1), (3, .int x3)]) hx hb dX2_isClear_50 hl (by decide) rfl (fun ls hl => ?_)
    refine lv_iload_n hx hb dX2_isClear_52 rfl (lv_at hl 3 rfl) ?_
    refine lv_bipush (v := (9 : Int32)) hx hb dX2_isClear_53 (by decide +kernel) ?_
    refine lv_aload_n hx hb dX2_isClear_55 rfl (lv_at hl 1 rfl) ?_
    refine lv_iload_n hx hb dX2_isClear_56 rfl (lv_at hl 2 rfl) ?_
    refine lv_iconst (v := (5 : Int32)) hx hb dX2_isClear_57 (by decide) ?_
    obtain ⟨r1, hc2, hf⟩ := g_b1 hf
    refine g_rV (As := [.int a1, .int (5 : Int32)]) (rest := [.int (9 : Int32), .int x3]) ⟨hx, hb, hml, hown, hts⟩ (c_X2_part l dC dI cI cZ cG o o_cells o_standing  v_jars v_weeks f_cells a1 (5 : Int32) hc2) (cwV 2 hts gX2_isClear_X2_part rfl rfl rfl (by decide +kernel) ⟨Nat.le_of_ble_eq_true rfl, Nat.le_of_ble_eq_true rfl⟩) hK hN (hP.sub [0, 1] rfl) (va_recv hK hP (ci := 2) (q0 := 0) rfl rfl) rfl hl.1 rfl (Nat.le_of_ble_eq_true rfl) dX2_isClear_58 ⟨Nat.zero_le _, Nat.zero_le _⟩ ?_
    refine lv_isub hx hb dX2_isClear_61 ?_
    refine lv_iload hx hb dX2_isClear_62 (lv_at hl 0 rfl) ?_
    refine lv_isub hx hb dX2_isClear_64 ?_
    refine lv_icmp_gt (tgt := 72) hx hb dX2_isClear_65 (by decide) (fun c3 => ?_) (fun c3 => ?_)
    · have hf := g_pos c3 hf
      refine lv_iconst (v := (0 : Int32)) hx hb dX2_isClear_72 (by decide) ?_
      rw [hQ]
      exact W.zret (v := (0 : Int32)) hx hb hr (by decide +kernel) (fun t ht hW => ⟨_, rfl, Option.some.inj hf, ht⟩) (fun q h => by cases h) dX2_isClear_73
    · have hf := g_neg c3 hf
      refine lv_iconst (v := (1 : Int32)) hx hb dX2_isClear_68 (by decide) ?_
      refine lv_goto (tgt := 73) hx hb dX2_isClear_69 (by decide) ?_
      rw [hQ]
      exact W.zret (v := (1 : Int32)) hx hb hr (by decide +kernel) (fun t ht hW => ⟨_, rfl, Option.some.inj hf, ht⟩) (fun q h => by cases h) dX2_isClear_73
  unfold x2_isClear at hf
  refine lv_aload_n hx hb dX2_isClear_0 rfl (lv_at hl 0 rfl) ?_
  refine lv_iload_n hx hb dX2_isClear_1 rfl (lv_at hl 1 rfl) ?_
  refine lv_iconst (v := (3 : Int32)) hx hb dX2_isClear_2 (by decide) ?_
  obtain ⟨r4, hc5, hf⟩ := g_b1 hf
  refine g_rV (As := [.int a1, .int (3 : Int32)]) (rest := []) ⟨hx, hb, hml, hown, hts⟩ (c_X2_part l dC dI cI cZ cG o o_cells o_standing  v_jars v_weeks f_cells a1 (3 : Int32) hc5) (cwV 2 hts gX2_isClear_X2_part rfl rfl rfl (by decide +kernel) ⟨Nat.le_of_ble_eq_true rfl, Nat.le_of_ble_eq_true rfl⟩) hK hN (hP.sub [0, 1] rfl) (va_recv hK hP (ci := 2) (q0 := 0) rfl rfl) rfl hl.1 rfl (Nat.le_of_ble_eq_true rfl) dX2_isClear_3 ⟨Nat.zero_le _, Nat.zero_le _⟩ ?_
  refine lv_iconst (v := (2 : Int32)) hx hb dX2_isClear_6 (by decide) ?_
  refine lv_icmp_ne (tgt := 12) hx hb dX2_isClear_7 (by decide) (fun c6 => ?_) (fun c6 => ?_)
  · have hf := g_neg c6 hf
    refine lv_aload_n hx hb dX2_isClear_12 rfl (lv_at hl 0 rfl) ?_
    refine lv_iload_n hx hb dX2_isClear_13 rfl (lv_at hl 2 rfl) ?_
    refine lv_iconst (v := (0 : Int32)) hx hb dX2_isClear_14 (by decide) ?_
    obtain ⟨r7, hc8, hf⟩ := g_b1 hf
    refine g_rV (As := [.int a2, .int (0 : Int32)]) (rest := []) ⟨hx, hb, hml, hown, hts⟩ (c_X2_part l dC dI cI cZ cG o o_cells o_standing  v_jars v_weeks f_cells a2 (0 : Int32) hc8) (cwV 2 hts gX2_isClear_X2_part rfl rfl rfl (by decide +kernel) ⟨Nat.le_of_ble_eq_true rfl, Nat.le_of_ble_eq_true rfl⟩) hK hN (hP.sub [0, 1] rfl) (va_recv hK hP (ci := 2) (q0 := 0) rfl rfl) rfl hl.1 rfl (Nat.le_of_ble_eq_true rfl) dX2_isClear_15 ⟨Nat.zero_le _, Nat.zero_le _⟩ ?_
    refine lv_aload_n hx hb dX2_isClear_18 rfl (lv_at hl 0 rfl) ?_
    refine lv_iload_n hx hb dX2_isClear_19 rfl (lv_at hl 1 rfl) ?_
    refine lv_iconst (v := (0 : Int32)) hx hb dX2_isClear_20 (by decide) ?_
    obtain ⟨r9, hc10, hf⟩ := g_b1 hf
    refine g_rV (As := [.int a1, .int (0 : Int32)]) (rest := [.int r7]) ⟨hx, hb, hml, hown, hts⟩ (c_X2_part l dC dI cI cZ cG o o_cells o_standing  v_jars v_weeks f_cells a1 (0 : Int32) hc10) (cwV 2 hts gX2_isClear_X2_part rfl rfl rfl (by decide +kernel) ⟨Nat.le_of_ble_eq_true rfl, Nat.le_of_ble_eq_true rfl⟩) hK hN (hP.sub [0, 1] rfl) (va_recv hK hP (ci := 2) (q0 := 0) rfl rfl) rfl hl.1 rfl (Nat.le_of_ble_eq_true rfl) dX2_isClear_21 ⟨Nat.zero_le _, Nat.zero_le _⟩ ?_
    refine lv_isub hx hb dX2_isClear_24 ?_
    refine va_mabs hx hb (hml.trans hl.1.symm) hown (hts (.methodLink RX2 112 Lib.Math.abs.name) (by decide +kernel)) (hts (.static Lib.Math.abs.name) (by decide +kernel)) (hts (.initialized "java/lang/Math") (by decide +kernel)) (hts (.code Lib.Math.abs.name Lib.Math.abs.code 1 (some .int)) (by decide +kernel)) (Nat.le_of_ble_eq_true rfl) (Nat.le_of_ble_eq_true rfl) (Nat.zero_le _) (Nat.zero_le _) dX2_isClear_25 ?_
    refine lv_istore_n (lv' := [(3, .int (if (0 : Int32) ≤ (r7 - r9) then (r7 - r9) else (0 : Int32) - (r7 - r9))), (0, .ref o), (1, .int a1), (2, .int a2)]) hx hb dX2_isClear_28 rfl hl (by decide) rfl (fun ls hl => ?_)
    refine lv_aload_n hx hb dX2_isClear_29 rfl (lv_at hl 1 rfl) ?_
    refine lv_iload_n hx hb dX2_isClear_30 rfl (lv_at hl 3 rfl) ?_
    refine lv_bipush (v := (7 : Int32)) hx hb dX2_isClear_31 (by decide +kernel) ?_
    obtain ⟨r11, hc12, hf⟩ := g_b1 hf
    refine g_rV (As := [.int a2, .int (7 : Int32)]) (rest := []) ⟨hx, hb, hml, hown, hts⟩ (c_X2_part l dC dI cI cZ cG o o_cells o_standing  v_jars v_weeks f_cells a2 (7 : Int32) hc12) (cwV 2 hts gX2_isClear_X2_part rfl rfl rfl (by decide +kernel) ⟨Nat.le_of_ble_eq_true rfl, Nat.le_of_ble_eq_true rfl⟩) hK hN (hP.sub [0, 1] rfl) (va_recv hK hP (ci := 2) (q0 := 0) rfl rfl) rfl hl.1 rfl (Nat.le_of_ble_eq_true rfl) dX2_isClear_33 ⟨Nat.zero_le _, Nat.zero_le _⟩ ?_
    refine lv_iconst (v := (1 : Int32)) hx hb dX2_isClear_36 (by decide) ?_
    refine lv_icmp_ne (tgt := 44) hx hb dX2_isClear_37 (by decide) (fun c13 => ?_) (fun c13 => ?_)
    · have hf := g_neg c13 hf
      refine lv_aload_n hx hb dX2_isClear_44 rfl (lv_at hl 1 rfl) ?_
      refine lv_iload_n hx hb dX2_isClear_45 rfl (lv_at hl 3 rfl) ?_
      refine lv_iconst (v := (5 : Int32)) hx hb dX2_isClear_46 (by decide) ?_
      obtain ⟨r14, hc15, hf⟩ := g_b1 hf
      refine g_rV (As := [.int a2, .int (5 : Int32)]) (rest := []) ⟨hx, hb, hml, hown, hts⟩ (c_X2_part l dC dI cI cZ cG o o_cells o_standing  v_jars v_weeks f_cells a2 (5 : Int32) hc15) (cwV 2 hts gX2_isClear_X2_part rfl rfl rfl (by decide +kernel) ⟨Nat.le_of_ble_eq_true rfl, Nat.le_of_ble_eq_true rfl⟩) hK hN (hP.sub [0, 1] rfl) (va_recv hK hP (ci := 2) (q0 := 0) rfl rfl) rfl hl.1 rfl (Nat.le_of_ble_eq_true rfl) dX2_isClear_47 ⟨Nat.zero_le _, Nat.zero_le _⟩ ?_
      exact J50 (if (0 : Int32) ≤ (r7 - r9) then (r7 - r9) else (0 : Int32) - (r7 - r9)) r14 ls hf (lv_sub hl [1, 2, 0] rfl)
    · have hf := g_pos c13 hf
      refine lv_iconst (v := (0 : Int32)) hx hb dX2_isClear_40 (by decide) ?_
      refine lv_goto (tgt := 50) hx hb dX2_isClear_41 (by decide) ?_
      exact J50 (if (0 : Int32) ≤ (r7 - r9) then (r7 - r9) else (0 : Int32) - (r7 - r9)) (0 : Int32) ls hf (lv_sub hl [1, 2, 0] rfl)
  · have hf := g_pos c6 hf
    refine lv_iconst (v := (1 : Int32)) hx hb dX2_isClear_10 (by decide) ?_
    rw [hQ]
    exact W.zret (v := (1 : Int32)) hx hb hr (by decide +kernel) (fun t ht hW => ⟨_, rfl, Option.some.inj hf, ht⟩) (fun q h => by cases h) dX2_isClear_11
abbrev rm_X2_seenBy : Room := { frames := 2, cells := 0, slots := 0, locals := 48 }
abbrev w_X2_seenBy (cI cZ cG : ClassId) (o : Nat) (o_cells : Nat) (o_standing : Nat) (v_jars : Int32) (v_weeks : Int32) (f_cells : Nat → Int32) : va_W := [(o, .inr (2, [.ref o_cells, .ref o_standing, .int v_jars, .int v_weeks])), (o_cells, .inl (cI, 48, .inl f_cells))]
set_option maxHeartbeats 4000000 in
set_option maxRecDepth 100000 in
theorem c_X2_seenBy (l : Launch) (dC : Nat → ClassId) (dI : Nat → Nat → Nat) (cI cZ cG : ClassId) {N : Nat} (o : Nat) (o_cells : Nat) (o_standing : Nat) (v_jars : Int32) (v_weeks : Int32) (f_cells : Nat → Int32) (a1 : Int32) {r0 : Int32} (hf : x2_seenBy N v_jars f_cells a1 = some r0) : Met l yX2_seenBy wsX2_seenBy rm_X2_seenBy (va_Pc [.ref o, .int a1] (gR (dC, dI) vwCl (gT cI cZ cG) (w_X2_seenBy cI cZ cG o o_cells o_standing v_jars v_weeks f_cells))) (vp_Si (fun r => r = r0)) 0 0 (fun _ => False) := by
  refine Met.ofW (cc := cX2_seenBy) (maxL := 4) (ret := (some .int)) (by decide) rfl ?_
  intro p e s m args below meth c s₁ B hml hv
  obtain ⟨rfl, hv⟩ := hv
  obtain ⟨hP, hK, hN⟩ := hv
  have hx := B.exec
  have hb := B.bytes
  have hr := B.returns
  have hts := atoms_spec (ws := wsX2_seenBy) B.pre
  have hown : s.vm.findClass RX2 = some m.cls := findClass_of_methodNamed B.named
  have hlocks := B.notSynchronized
  have hiX2 : ∀ w ∈ u_ws RX2 TX2 4, w ∈ wsX2_seenBy := fun w h => List.mem_cons_of_mem _ (List.mem_append_right _ h)
  obtain ⟨Q, hQ⟩ : ∃ Q : State → Prop, Q = MQ below (vp_Si (fun r => r = r0)) (([Value.ref o, Value.int a1] : List Value).toArray) s 0 0 (fun _ => False) := ⟨_, rfl⟩
  have hl := lv_entry ([.ref o, .int a1]) (n := 4) (Nat.le_of_ble_eq_true rfl)
  rw [← hQ, lg_entry_eq]
  generalize (lg_sl ([.ref o, .int a1]) ++ List.replicate (4 - (lg_sl ([.ref o, .int a1])).length) Slot.unset).toArray = ls at hl ⊢
  have hl : lv_has ls 4 [(0, .ref o), (1, .int a1)] := hl
  show W p l e rm_X2_seenBy s m (([Value.ref o, Value.int a1] : List Value).toArray) below meth c s.heap [] 0 0 Q (F0 m 0 ls [])
  have J39 : ∀ (t1 : Int32) (t2 : Int32) (ls : Array Slot), x2_seenBy_b39 N v_jars f_cells a1 t1 t2 = some r0 → lv_has ls 4 [(0, .ref o), (1, .int a1)] → W p l e rm_X2_seenBy s m (([Value.ref o, Value.int a1] : List Value).toArray) below meth c s.heap [] 0 0 Q (F0 m 39 ls [.int t2, .int t1, .ref o]) := by
    intro t1 t2 ls hf hl
    unfold x2_seenBy_b39 at hf
    obtain ⟨r1, hc2, hf⟩ := g_b1 hf
    refine g_rV (As := [.int t1, .int t2]) (rest := []) ⟨hx, hb, hml, hown, hts⟩ (c_X2_nearest l dC dI cI cZ cG o o_cells o_standing  v_jars v_weeks f_cells t1 t2 hc2) (cwV 2 hts gX2_seenBy_X2_nearest rfl rfl rfl (by decide +kernel) ⟨Nat.le_of_ble_eq_true rfl, Nat.le_of_ble_eq_true rfl⟩) hK hN (hP.sub [0, 1] rfl) (va_recv hK hP (ci := 2) (q0 := 0) rfl rfl) rfl hl.1 rfl (Nat.le_of_ble_eq_true rfl) dX2_seenBy_39 ⟨Nat.zero_le _, Nat.zero_le _⟩ ?_
    refine lv_istore_n (lv' := [(3, .int r1), (0, .ref o), (1, .int a1)]) hx hb dX2_seenBy_42 rfl hl (by decide) rfl (fun ls hl => ?_)
    refine lv_iload_n hx hb dX2_seenBy_43 rfl (lv_at hl 0 rfl) ?_
    refine lv_bipush (v := (-9 : Int32)) hx hb dX2_seenBy_44 (by decide +kernel) ?_
    refine lv_icmp_eq (tgt := 62) hx hb dX2_seenBy_46 (by decide) (fun c3 => ?_) (fun c3 => ?_)
    · have hf := g_pos c3 hf
      refine lv_bipush (v := (-9 : Int32)) hx hb dX2_seenBy_62 (by decide +kernel) ?_
      rw [hQ]
      exact W.iret (v := (-9 : Int32)) hx hb hr (fun t ht hW => ⟨_, rfl, Option.some.inj hf, ht⟩) (fun q h => by cases h) dX2_seenBy_64
    · have hf := g_neg c3 hf
      refine lv_aload_n hx hb dX2_seenBy_49 rfl (lv_at hl 1 rfl) ?_
      refine lv_iload_n hx hb dX2_seenBy_50 rfl (lv_at hl 2 rfl) ?_
      refine lv_iload_n hx hb dX2_seenBy_51 rfl (lv_at hl 0 rfl) ?_
      obtain ⟨r4, hc5, hf⟩ := g_b1 hf
      refine g_rV (As := [.int a1, .int r1]) (rest := []) ⟨hx, hb, hml, hown, hts⟩ (c_X2_isClear l dC dI cI cZ cG o o_cells o_standing  v_jars v_weeks f_cells a1 r1 hc5) (cwV 2 hts gX2_seenBy_X2_isClear rfl rfl rfl (by decide +kernel) ⟨Nat.le_of_ble_eq_true rfl, Nat.le_of_ble_eq_true rfl⟩) hK hN (hP.sub [0, 1] rfl) (va_recv hK hP (ci := 2) (q0 := 0) rfl rfl) rfl hl.1 rfl (Nat.le_of_ble_eq_true rfl) dX2_seenBy_52 ⟨Nat.zero_le _, Nat.zero_le _⟩ ?_
      refine lv_if_eq (tgt := 62) hx hb dX2_seenBy_55 (by decide) (fun c6 => ?_) (fun c6 => ?_)
      · have hf := g_pos c6 hf
        refine lv_bipush (v := (-9 : Int32)) hx hb dX2_seenBy_62 (by decide +kernel) ?_
        rw [hQ]
        exact W.iret (v := (-9 : Int32)) hx hb hr (fun t ht hW => ⟨_, rfl, Option.some.inj hf, ht⟩) (fun q h => by cases h) dX2_seenBy_64
      · have hf := g_neg c6 hf
        refine lv_iload_n hx hb dX2_seenBy_58 rfl (lv_at hl 0 rfl) ?_
        refine lv_goto (tgt := 64) hx hb dX2_seenBy_59 (by decide) ?_
        rw [hQ]
        exact W.iret (v := r1) hx hb hr (fun t ht hW => ⟨_, rfl, Option.some.inj hf, ht⟩) (fun q h => by cases h) dX2_seenBy_64
  have J28 : ∀ (x2 : Int32) (ls : Array Slot), x2_seenBy_b28 N v_jars f_cells a1 x2 = some r0 → lv_has ls 4 [(0, .ref o), (1, .int a1), (2, .int x2)] → W p l e rm_X2_seenBy s m (([Value.ref o, Value.int a1] : List Value).toArray) below meth c s.heap [] 0 0 Q (F0 m 28 ls []) := by
    intro x2 ls hf hl
    unfold x2_seenBy_b28 at hf
    refine lv_aload_n hx hb dX2_seenBy_28 rfl (lv_at hl 0 rfl) ?_
    refine lv_iload_n hx hb dX2_seenBy_29 rfl (lv_at hl 1 rfl) ?_
    refine lv_iload_n hx hb dX2_seenBy_30 rfl (lv_at hl 2 rfl) ?_
    refine lv_if_ne (tgt := 38) hx hb dX2_seenBy_31 (by decide) (fun c7 => ?_) (fun c7 => ?_)
    · have hf := g_neg c7 hf
      refine lv_iconst (v := (1 : Int32)) hx hb dX2_seenBy_38 (by decide) ?_
      exact J39 a1 (1 : Int32) ls hf (lv_sub hl [0, 1] rfl)
    · have hf := g_pos c7 hf
      refine lv_iconst (v := (-1 : Int32)) hx hb dX2_seenBy_34 (by decide) ?_
      refine lv_goto (tgt := 39) hx hb dX2_seenBy_35 (by decide) ?_
      exact J39 a1 (-1 : Int32) ls hf (lv_sub hl [0, 1] rfl)
  unfold x2_seenBy at hf
  refine lv_aload_n hx hb dX2_seenBy_0 rfl (lv_at hl 0 rfl) ?_
  refine lv_iload_n hx hb dX2_seenBy_1 rfl (lv_at hl 1 rfl) ?_
  refine lv_bipush (v := (6 : Int32)) hx hb dX2_seenBy_2 (by decide +kernel) ?_
  obtain ⟨r8, hc9, hf⟩ := g_b1 hf
  refine g_rV (As := [.int a1, .int (6 : Int32)]) (rest := []) ⟨hx, hb, hml, hown, hts⟩ (c_X2_part l dC dI cI cZ cG o o_cells o_standing  v_jars v_weeks f_cells a1 (6 : Int32) hc9) (cwV 2 hts gX2_seenBy_X2_part rfl rfl rfl (by decide +kernel) ⟨Nat.le_of_ble_eq_true rfl, Nat.le_of_ble_eq_true rfl⟩) hK hN (hP.sub [0, 1] rfl) (va_recv hK hP (ci := 2) (q0 := 0) rfl rfl) rfl hl.1 rfl (Nat.le_of_ble_eq_true rfl) dX2_seenBy_4 ⟨Nat.zero_le _, Nat.zero_le _⟩ ?_
  refine lv_istore_n (lv' := [(2, .int r8), (0, .ref o), (1, .int a1)]) hx hb dX2_seenBy_7 rfl hl (by decide) rfl (fun ls hl => ?_)
  refine lv_aload_n hx hb dX2_seenBy_8 rfl (lv_at hl 1 rfl) ?_
  refine lv_iload_n hx hb dX2_seenBy_9 rfl (lv_at hl 2 rfl) ?_
  obtain ⟨r10, hc11, hf⟩ := g_b1 hf
  refine g_rV (As := [.int a1]) (rest := []) ⟨hx, hb, hml, hown, hts⟩ (c_X2_isWhole l dC dI cI cZ cG o o_cells o_standing  v_jars v_weeks f_cells a1 hc11) (cwV 1 hts gX2_seenBy_X2_isWhole rfl rfl rfl (by decide +kernel) ⟨Nat.le_of_ble_eq_true rfl, Nat.le_of_ble_eq_true rfl⟩) hK hN (hP.sub [0, 1] rfl) (va_recv hK hP (ci := 2) (q0 := 0) rfl rfl) rfl hl.1 rfl (Nat.le_of_ble_eq_true rfl) dX2_seenBy_10 ⟨Nat.zero_le _, Nat.zero_le _⟩ ?_
  refine lv_if_eq (tgt := 25) hx hb dX2_seenBy_13 (by decide) (fun c12 => ?_) (fun c12 => ?_)
  · have hf := g_pos c12 hf
    refine lv_bipush (v := (-9 : Int32)) hx hb dX2_seenBy_25 (by decide +kernel) ?_
    rw [hQ]
    exact W.iret (v := (-9 : Int32)) hx hb hr (fun t ht hW => ⟨_, rfl, Option.some.inj hf, ht⟩) (fun q h => by cases h) dX2_seenBy_27
  · have hf := g_neg c12 hf
    refine lv_iload_n hx hb dX2_seenBy_16 rfl (lv_at hl 0 rfl) ?_
    refine lv_if_eq (tgt := 28) hx hb dX2_seenBy_17 (by decide) (fun c13 => ?_) (fun c13 => ?_)
    · have hf := g_pos c13 hf
      exact J28 r8 ls hf (lv_sub hl [1, 2, 0] rfl)
    · have hf := g_neg c13 hf
      refine lv_iload_n hx hb dX2_seenBy_20 rfl (lv_at hl 0 rfl) ?_
      refine lv_iconst (v := (2 : Int32)) hx hb dX2_seenBy_21 (by decide) ?_
      refine lv_icmp_eq (tgt := 28) hx hb dX2_seenBy_22 (by decide) (fun c14 => ?_) (fun c14 => ?_)
      · have hf := g_pos c14 hf
        exact J28 r8 ls hf (lv_sub hl [1, 2, 0] rfl)
      · have hf := g_neg c14 hf
        refine lv_bipush (v := (-9 : Int32)) hx hb dX2_seenBy_25 (by decide +kernel) ?_
        rw [hQ]
        exact W.iret (v := (-9 : Int32)) hx hb hr (fun t ht hW => ⟨_, rfl, Option.some.inj hf, ht⟩) (fun q h => by cases h) dX2_seenBy_27
abbrev rm_X2_fillStanding : Room := { frames := 1, cells := 0, slots := 0, locals := 22 }
abbrev w_X2_fillStanding (cI cZ cG : ClassId) (o : Nat) (o_cells : Nat) (o_standing : Nat) (v_jars : Int32) (v_weeks : Int32) (f_cells : Nat → Int32) (f_standing : Nat → Int32) : va_W := [(o, .inr (2, [.ref o_cells, .ref o_standing, .int v_jars, .int v_weeks])), (o_cells, .inl (cI, 48, .inl f_cells)), (o_standing, .inl (cI, 8, .inl f_standing))]
set_option maxHeartbeats 4000000 in
set_option maxRecDepth 100000 in
theorem c_X2_fillStanding (l : Launch) (dC : Nat → ClassId) (dI : Nat → Nat → Nat) (cI cZ cG : ClassId) {N : Nat} (o : Nat) (o_cells : Nat) (o_standing : Nat) (sz : Nat) (v_jars : Int32) (v_weeks : Int32) (f_cells : Nat → Int32) (f_standing : Nat → Int32) {n_standing : Nat → Int32} (hf : x2_fillStanding N v_jars f_cells f_standing = some n_standing) : Met l yX2_fillStanding wsX2_fillStanding rm_X2_fillStanding (va_Pc [.ref o] (gW (dC, dI) vwCl (gT cI cZ cG) (w_X2_fillStanding cI cZ cG o o_cells o_standing v_jars v_weeks f_cells f_standing) sz)) (va_Qv (fun _ => True) (gE (dC, dI) vwCl (gT cI cZ cG) (w_X2_fillStanding cI cZ cG o o_cells o_standing v_jars v_weeks f_cells n_standing) (va_A (w_X2_fillStanding cI cZ cG o o_cells o_standing v_jars v_weeks f_cells f_standing) sz)) (va_A (w_X2_fillStanding cI cZ cG o o_cells o_standing v_jars v_weeks f_cells f_standing) sz)) 0 0 (va_A (w_X2_fillStanding cI cZ cG o o_cells o_standing v_jars v_weeks f_cells f_standing) sz) := by
  refine Met.ofW (cc := cX2_fillStanding) (maxL := 3) (ret := none) (by decide) rfl ?_
  intro p e s m args below meth c s₁ B hml hv
  obtain ⟨rfl, hv⟩ := hv
  obtain ⟨hsz, hP, hK, hN, hD0⟩ := hv
  have hx := B.exec
  have hb := B.bytes
  have hr := B.returns
  have hts := atoms_spec (ws := wsX2_fillStanding) B.pre
  have hown : s.vm.findClass RX2 = some m.cls := findClass_of_methodNamed B.named
  have hlocks := B.notSynchronized
  have hiX2 : ∀ w ∈ u_ws RX2 TX2 4, w ∈ wsX2_fillStanding := fun w h => List.mem_cons_of_mem _ (List.mem_append_right _ h)
  subst hsz
  have hD := hD0.self (sz := s.heap.size)
  generalize hAe : va_A (w_X2_fillStanding cI cZ cG o o_cells o_standing v_jars v_weeks f_cells f_standing) s.heap.size = A at hD ⊢
  have hA : ∀ q : Nat, s.heap.size ≤ q → A q := fun q h => by rw [← hAe]; exact Or.inr h
  clear hD0
  have hS : va_S A s.heap s.heap [] := va_S.rf
  have hP : va_P (dC, dI) vwCl (w_X2_fillStanding cI cZ cG o o_cells o_standing v_jars v_weeks f_cells f_standing) s.heap := hP
  obtain ⟨Q, hQ⟩ : ∃ Q : State → Prop, Q = MQ below (va_Qv (fun _ => True) (gE (dC, dI) vwCl (gT cI cZ cG) (w_X2_fillStanding cI cZ cG o o_cells o_standing v_jars v_weeks f_cells n_standing) A) A) (([Value.ref o] : List Value).toArray) s 0 0 A := ⟨_, rfl⟩
  have hl := lv_entry ([.ref o]) (n := 3) (Nat.le_of_ble_eq_true rfl)
  rw [← hQ, lg_entry_eq]
  generalize (lg_sl ([.ref o]) ++ List.replicate (3 - (lg_sl ([.ref o])).length) Slot.unset).toArray = ls at hl ⊢
  have hl : lv_has ls 3 [(0, .ref o)] := hl
  generalize hH : s.heap = H at hP hS ⊢
  have hS : va_S A s.heap H [] := by rw [hH]; exact hS
  generalize hlc : ([] : List Loc) = locs at hS ⊢
  show W p l e rm_X2_fillStanding s m (([Value.ref o] : List Value).toArray) below meth c H locs 0 0 Q (F0 m 0 ls [])
  have L24 : ∀ (n24 : Nat), ∀ (x1 : Int32) (y_standing : Nat → Int32) (H : Heap) (locs : List Loc) (ls : Array Slot), x2_fillStanding_b24 N v_jars f_cells n24 x1 y_standing = some n_standing → lv_has ls 3 [(0, .ref o), (1, .int x1)] → va_P (dC, dI) vwCl (w_X2_fillStanding cI cZ cG o o_cells o_standing v_jars v_weeks f_cells y_standing) H → va_D A (w_X2_fillStanding cI cZ cG o o_cells o_standing v_jars v_weeks f_cells y_standing) → va_S A s.heap H locs → W p l e rm_X2_fillStanding s m (([Value.ref o] : List Value).toArray) below meth c H locs 0 0 Q (F0 m 24 ls []) := by
    intro n24
    induction n24 with
    | zero =>
      intro x1 y_standing H locs ls hf hl hP hD hS
      exact g_no hf
    | succ n24 ih24 =>
      intro x1 y_standing H locs ls hf hl hP hD hS
      unfold x2_fillStanding_b24 at hf
      refine lv_iload_n hx hb dX2_fillStanding_24 rfl (lv_at hl 1 rfl) ?_
      refine lv_aload_n hx hb dX2_fillStanding_25 rfl (lv_at hl 0 rfl) ?_
      refine va_get (D := (dC, dI)) (ci := 2) (v := .int v_jars) (C := RX2) (T := TX2) (N := 4) hx hb hts hiX2 hown hK hP 0 rfl rfl 2 (by decide) (hts (.fieldLink RX2 18 "GreenJars$Shelf" "jars" "I") (by decide +kernel)) (fun _ h9 => h9) rfl dX2_fillStanding_26 ?_
      refine lv_icmp_ge (tgt := 70) hx hb dX2_fillStanding_29 (by decide) (fun c1 => ?_) (fun c1 => ?_)
      · have hf := g_pos c1 hf
        rw [hQ]
        cases hf
        exact W.vret hx hb hr (fun t ht hW => ⟨⟨(), rfl, trivial, by rw [ht]; exact hP, va_K.moved hW.alike hK, hD⟩, hS.F ht⟩) hS.2.2 dX2_fillStanding_70
      · have hf := g_neg c1 hf
        refine lv_aload_n hx hb dX2_fillStanding_32 rfl (lv_at hl 0 rfl) ?_
        refine lv_iload_n hx hb dX2_fillStanding_33 rfl (lv_at hl 1 rfl) ?_
        refine lv_iconst (v := (0 : Int32)) hx hb dX2_fillStanding_34 (by decide) ?_
        obtain ⟨r2, hc3, hf⟩ := g_b1 hf
        refine g_rV (As := [.int x1, .int (0 : Int32)]) (rest := []) ⟨hx, hb, hml, hown, hts⟩ (c_X2_part l dC dI cI cZ cG o o_cells o_standing  v_jars v_weeks f_cells x1 (0 : Int32) hc3) (cwV 2 hts gX2_fillStanding_X2_part rfl rfl rfl (by decide +kernel) ⟨Nat.le_of_ble_eq_true rfl, Nat.le_of_ble_eq_true rfl⟩) hK hN (hP.sub [0, 1] rfl) (va_recv hK hP (ci := 2) (q0 := 0) rfl rfl) rfl hl.1 rfl (Nat.le_of_ble_eq_true rfl) dX2_fillStanding_35 ⟨Nat.zero_le _, Nat.zero_le _⟩ ?_
        refine lv_istore_n (lv' := [(2, .int r2), (0, .ref o), (1, .int x1)]) hx hb dX2_fillStanding_38 rfl hl (by decide) rfl (fun ls hl => ?_)
        refine lv_iload_n hx hb dX2_fillStanding_39 rfl (lv_at hl 0 rfl) ?_
        obtain ⟨r4, hc5, hf⟩ := g_b1 hf
        refine g_rSN (As := [.int r2]) (rest := []) ⟨hx, hb, hml, hown, hts⟩ (c_X7_isPlace l dC dI cI cZ cG    r2 hc5) ⟨va_cnB (host := "GreenJars") 1 hts gX2_fillStanding_X7_isPlace_n76 rfl rfl rfl (hN _ (List.mem_of_getElem? (i := 11) rfl)) (hts (.initialized RX7) (by decide +kernel)) (by decide +kernel) ⟨Nat.le_of_ble_eq_true rfl, Nat.le_of_ble_eq_true rfl⟩, hts (.static yX7_isPlace) (by decide +kernel), trivial⟩ hK hN (hP.sub [] rfl) rfl hl.1 rfl (Nat.le_of_ble_eq_true rfl) dX2_fillStanding_40 ⟨Nat.zero_le _, Nat.zero_le _⟩ ?_
        refine lv_if_eq (tgt := 64) hx hb dX2_fillStanding_43 (by decide) (fun c6 => ?_) (fun c6 => ?_)
        · have hf := g_pos c6 hf
          refine lv_iinc (v := (x1 + (1 : Int32))) (lv' := [(1, .int (x1 + (1 : Int32))), (2, .int r2), (0, .ref o)]) hx hb dX2_fillStanding_64 hl (k := 2) rfl rfl (by decide) rfl (fun ls hl => ?_)
          refine lv_goto (tgt := 24) hx hb dX2_fillStanding_67 (by decide) ?_
          exact ih24 (x1 + (1 : Int32)) y_standing H locs ls hf (lv_sub hl [2, 0] rfl) hP hD hS
        · have hf := g_neg c6 hf
          refine lv_aload_n hx hb dX2_fillStanding_46 rfl (lv_at hl 1 rfl) ?_
          refine lv_iload_n hx hb dX2_fillStanding_47 rfl (lv_at hl 2 rfl) ?_
          refine lv_bipush (v := (7 : Int32)) hx hb dX2_fillStanding_48 (by decide +kernel) ?_
          obtain ⟨r7, hc8, hf⟩ := g_b1 hf
          refine g_rV (As := [.int x1, .int (7 : Int32)]) (rest := []) ⟨hx, hb, hml, hown, hts⟩ (c_X2_part l dC dI cI cZ cG o o_cells o_standing  v_jars v_weeks f_cells x1 (7 : Int32) hc8) (cwV 2 hts gX2_fillStanding_X2_part rfl rfl rfl (by decide +kernel) ⟨Nat.le_of_ble_eq_true rfl, Nat.le_of_ble_eq_true rfl⟩) hK hN (hP.sub [0, 1] rfl) (va_recv hK hP (ci := 2) (q0 := 0) rfl rfl) rfl hl.1 rfl (Nat.le_of_ble_eq_true rfl) dX2_fillStanding_50 ⟨Nat.zero_le _, Nat.zero_le _⟩ ?_
          refine lv_iconst (v := (2 : Int32)) hx hb dX2_fillStanding_53 (by decide) ?_
          refine lv_icmp_eq (tgt := 64) hx hb dX2_fillStanding_54 (by decide) (fun c9 => ?_) (fun c9 => ?_)
          · have hf := g_pos c9 hf
            refine lv_iinc (v := (x1 + (1 : Int32))) (lv' := [(1, .int (x1 + (1 : Int32))), (2, .int r2), (0, .ref o)]) hx hb dX2_fillStanding_64 hl (k := 2) rfl rfl (by decide) rfl (fun ls hl => ?_)
            refine lv_goto (tgt := 24) hx hb dX2_fillStanding_67 (by decide) ?_
            exact ih24 (x1 + (1 : Int32)) y_standing H locs ls hf (lv_sub hl [2, 0] rfl) hP hD hS
          · have hf := g_neg c9 hf
            refine lv_aload_n hx hb dX2_fillStanding_57 rfl (lv_at hl 1 rfl) ?_
            refine va_get (D := (dC, dI)) (ci := 2) (v := .ref o_standing) (C := RX2) (T := TX2) (N := 4) hx hb hts hiX2 hown hK hP 0 rfl rfl 1 (by decide) (hts (.fieldLink RX2 15 "GreenJars$Shelf" "standing" "[I") (by decide +kernel)) (fun _ h9 => h9) rfl dX2_fillStanding_58 ?_
            refine lv_iload_n hx hb dX2_fillStanding_61 rfl (lv_at hl 0 rfl) ?_
            refine lv_iload_n hx hb dX2_fillStanding_62 rfl (lv_at hl 2 rfl) ?_
            obtain ⟨h10, hf⟩ := g_chk hf
            refine va_iast hx hb hK hP hD hS 2 0 rfl rfl (gIn_vp h10) dX2_fillStanding_63 (fun H locs hP hD hS => ?_)
            have hP : va_P (dC, dI) vwCl (w_X2_fillStanding cI cZ cG o o_cells o_standing v_jars v_weeks f_cells (upd y_standing r2.toNatClampNeg x1)) H := hP
            have hD : va_D A (w_X2_fillStanding cI cZ cG o o_cells o_standing v_jars v_weeks f_cells (upd y_standing r2.toNatClampNeg x1)) := hD
            refine lv_iinc (v := (x1 + (1 : Int32))) (lv' := [(1, .int (x1 + (1 : Int32))), (2, .int r2), (0, .ref o)]) hx hb dX2_fillStanding_64 hl (k := 2) rfl rfl (by decide) rfl (fun ls hl => ?_)
            refine lv_goto (tgt := 24) hx hb dX2_fillStanding_67 (by decide) ?_
            exact ih24 (x1 + (1 : Int32)) (upd y_standing r2.toNatClampNeg x1) H locs ls hf (lv_sub hl [2, 0] rfl) hP hD hS
  have L2 : ∀ (n2 : Nat), ∀ (x1 : Int32) (y_standing : Nat → Int32) (H : Heap) (locs : List Loc) (ls : Array Slot), x2_fillStanding_b2 N v_jars f_cells n2 x1 y_standing = some n_standing → lv_has ls 3 [(0, .ref o), (1, .int x1)] → va_P (dC, dI) vwCl (w_X2_fillStanding cI cZ cG o o_cells o_standing v_jars v_weeks f_cells y_standing) H → va_D A (w_X2_fillStanding cI cZ cG o o_cells o_standing v_jars v_weeks f_cells y_standing) → va_S A s.heap H locs → W p l e rm_X2_fillStanding s m (([Value.ref o] : List Value).toArray) below meth c H locs 0 0 Q (F0 m 2 ls []) := by
    intro n2
    induction n2 with
    | zero =>
      intro x1 y_standing H locs ls hf hl hP hD hS
      exact g_no hf
    | succ n2 ih2 =>
      intro x1 y_standing H locs ls hf hl hP hD hS
      unfold x2_fillStanding_b2 at hf
      refine lv_iload_n hx hb dX2_fillStanding_2 rfl (lv_at hl 1 rfl) ?_
      refine lv_bipush (v := (8 : Int32)) hx hb dX2_fillStanding_3 (by decide +kernel) ?_
      refine lv_icmp_ge (tgt := 22) hx hb dX2_fillStanding_5 (by decide) (fun c11 => ?_) (fun c11 => ?_)
      · have hf := g_pos c11 hf
        refine lv_iconst (v := (0 : Int32)) hx hb dX2_fillStanding_22 (by decide) ?_
        refine lv_istore_n (lv' := [(1, .int (0 : Int32)), (0, .ref o)]) hx hb dX2_fillStanding_23 rfl hl (by decide) rfl (fun ls hl => ?_)
        exact L24 N (0 : Int32) y_standing H locs ls hf (lv_sub hl [1, 0] rfl) hP hD hS
      · have hf := g_neg c11 hf
        refine lv_aload_n hx hb dX2_fillStanding_8 rfl (lv_at hl 0 rfl) ?_
        refine va_get (D := (dC, dI)) (ci := 2) (v := .ref o_standing) (C := RX2) (T := TX2) (N := 4) hx hb hts hiX2 hown hK hP 0 rfl rfl 1 (by decide) (hts (.fieldLink RX2 15 "GreenJars$Shelf" "standing" "[I") (by decide +kernel)) (fun _ h9 => h9) rfl dX2_fillStanding_9 ?_
        refine lv_iload_n hx hb dX2_fillStanding_12 rfl (lv_at hl 1 rfl) ?_
        refine lv_bipush (v := (-9 : Int32)) hx hb dX2_fillStanding_13 (by decide +kernel) ?_
        obtain ⟨h12, hf⟩ := g_chk hf
        refine va_iast hx hb hK hP hD hS 2 0 rfl rfl (gIn_vp h12) dX2_fillStanding_15 (fun H locs hP hD hS => ?_)
        have hP : va_P (dC, dI) vwCl (w_X2_fillStanding cI cZ cG o o_cells o_standing v_jars v_weeks f_cells (upd y_standing x1.toNatClampNeg (-9 : Int32))) H := hP
        have hD : va_D A (w_X2_fillStanding cI cZ cG o o_cells o_standing v_jars v_weeks f_cells (upd y_standing x1.toNatClampNeg (-9 : Int32))) := hD
        refine lv_iinc (v := (x1 + (1 : Int32))) (lv' := [(1, .int (x1 + (1 : Int32))), (0, .ref o)]) hx hb dX2_fillStanding_16 hl (k := 1) rfl rfl (by decide) rfl (fun ls hl => ?_)
        refine lv_goto (tgt := 2) hx hb dX2_fillStanding_19 (by decide) ?_
        exact ih2 (x1 + (1 : Int32)) (upd y_standing x1.toNatClampNeg (-9 : Int32)) H locs ls hf (lv_sub hl [1, 0] rfl) hP hD hS
  unfold x2_fillStanding at hf
  refine lv_iconst (v := (0 : Int32)) hx hb dX2_fillStanding_0 (by decide) ?_
  refine lv_istore_n (lv' := [(1, .int (0 : Int32)), (0, .ref o)]) hx hb dX2_fillStanding_1 rfl hl (by decide) rfl (fun ls hl => ?_)
  exact L2 N (0 : Int32) f_standing H locs ls hf (lv_sub hl [1, 0] rfl) hP hD hS
abbrev rm_X2_areFacing : Room := { frames := 2, cells := 0, slots := 0, locals := 46 }
abbrev w_X2_areFacing (cI cZ cG : ClassId) (o : Nat) (o_cells : Nat) (o_standing : Nat) (v_jars : Int32) (v_weeks : Int32) (f_cells : Nat → Int32) : va_W := [(o, .inr (2, [.ref o_cells, .ref o_standing, .int v_jars, .int v_weeks])), (o_cells, .inl (cI, 48, .inl f_cells))]
set_option maxHeartbeats 4000000 in
set_option maxRecDepth 100000 in
theorem c_X2_areFacing (l : Launch) (dC : Nat → ClassId) (dI : Nat → Nat → Nat) (cI cZ cG : ClassId) (o : Nat) (o_cells : Nat) (o_standing : Nat) (v_jars : Int32) (v_weeks : Int32) (f_cells : Nat → Int32) (a1 : Int32) (a2 : Int32) {r0 : Int32} (hf : x2_areFacing v_jars f_cells a1 a2 = some r0) : Met l yX2_areFacing wsX2_areFacing rm_X2_areFacing (va_Pc [.ref o, .int a1, .int a2] (gR (dC, dI) vwCl (gT cI cZ cG) (w_X2_areFacing cI cZ cG o o_cells o_standing v_jars v_weeks f_cells))) (vp_Si (fun r => r = r0)) 0 0 (fun _ => False) := by
  refine Met.ofW (cc := cX2_areFacing) (maxL := 3) (ret := (some .boolean)) (by decide) rfl ?_
  intro p e s m args below meth c s₁ B hml hv
  obtain ⟨rfl, hv⟩ := hv
  obtain ⟨hP, hK, hN⟩ := hv
  have hx := B.exec
  have hb := B.bytes
  have hr := B.returns
  have hts := atoms_spec (ws := wsX2_areFacing) B.pre
  have hown : s.vm.findClass RX2 = some m.cls := findClass_of_methodNamed B.named
  have hlocks := B.notSynchronized
  have hiX2 : ∀ w ∈ u_ws RX2 TX2 4, w ∈ wsX2_areFacing := fun w h => List.mem_cons_of_mem _ (List.mem_append_right _ h)
  obtain ⟨Q, hQ⟩ : ∃ Q : State → Prop, Q = MQ below (vp_Si (fun r => r = r0)) (([Value.ref o, Value.int a1, Value.int a2] : List Value).toArray) s 0 0 (fun _ => False) := ⟨_, rfl⟩
  have hl := lv_entry ([.ref o, .int a1, .int a2]) (n := 3) (Nat.le_of_ble_eq_true rfl)
  rw [← hQ, lg_entry_eq]
  generalize (lg_sl ([.ref o, .int a1, .int a2]) ++ List.replicate (3 - (lg_sl ([.ref o, .int a1, .int a2])).length) Slot.unset).toArray = ls at hl ⊢
  have hl : lv_has ls 3 [(0, .ref o), (1, .int a1), (2, .int a2)] := hl
  show W p l e rm_X2_areFacing s m (([Value.ref o, Value.int a1, Value.int a2] : List Value).toArray) below meth c s.heap [] 0 0 Q (F0 m 0 ls [])
  unfold x2_areFacing at hf
  refine lv_aload_n hx hb dX2_areFacing_0 rfl (lv_at hl 0 rfl) ?_
  refine lv_iload_n hx hb dX2_areFacing_1 rfl (lv_at hl 1 rfl) ?_
  refine lv_bipush (v := (6 : Int32)) hx hb dX2_areFacing_2 (by decide +kernel) ?_
  obtain ⟨r1, hc2, hf⟩ := g_b1 hf
  refine g_rV (As := [.int a1, .int (6 : Int32)]) (rest := []) ⟨hx, hb, hml, hown, hts⟩ (c_X2_part l dC dI cI cZ cG o o_cells o_standing  v_jars v_weeks f_cells a1 (6 : Int32) hc2) (cwV 2 hts gX2_areFacing_X2_part rfl rfl rfl (by decide +kernel) ⟨Nat.le_of_ble_eq_true rfl, Nat.le_of_ble_eq_true rfl⟩) hK hN (hP.sub [0, 1] rfl) (va_recv hK hP (ci := 2) (q0 := 0) rfl rfl) rfl hl.1 rfl (Nat.le_of_ble_eq_true rfl) dX2_areFacing_4 ⟨Nat.zero_le _, Nat.zero_le _⟩ ?_
  refine lv_iconst (v := (2 : Int32)) hx hb dX2_areFacing_7 (by decide) ?_
  refine lv_icmp_ne (tgt := 59) hx hb dX2_areFacing_8 (by decide) (fun c3 => ?_) (fun c3 => ?_)
  · have hf := g_neg c3 hf
    refine lv_iconst (v := (0 : Int32)) hx hb dX2_areFacing_59 (by decide) ?_
    rw [hQ]
    exact W.zret (v := (0 : Int32)) hx hb hr (by decide +kernel) (fun t ht hW => ⟨_, rfl, Option.some.inj hf, ht⟩) (fun q h => by cases h) dX2_areFacing_60
  · have hf := g_pos c3 hf
    refine lv_aload_n hx hb dX2_areFacing_11 rfl (lv_at hl 0 rfl) ?_
    refine lv_iload_n hx hb dX2_areFacing_12 rfl (lv_at hl 2 rfl) ?_
    refine lv_bipush (v := (6 : Int32)) hx hb dX2_areFacing_13 (by decide +kernel) ?_
    obtain ⟨r4, hc5, hf⟩ := g_b1 hf
    refine g_rV (As := [.int a2, .int (6 : Int32)]) (rest := []) ⟨hx, hb, hml, hown, hts⟩ (c_X2_part l dC dI cI cZ cG o o_cells o_standing  v_jars v_weeks f_cells a2 (6 : Int32) hc5) (cwV 2 hts gX2_areFacing_X2_part rfl rfl rfl (by decide +kernel) ⟨Nat.le_of_ble_eq_true rfl, Nat.le_of_ble_eq_true rfl⟩) hK hN (hP.sub [0, 1] rfl) (va_recv hK hP (ci := 2) (q0 := 0) rfl rfl) rfl hl.1 rfl (Nat.le_of_ble_eq_true rfl) dX2_areFacing_15 ⟨Nat.zero_le _, Nat.zero_le _⟩ ?_
    refine lv_if_ne (tgt := 59) hx hb dX2_areFacing_18 (by decide) (fun c6 => ?_) (fun c6 => ?_)
    · have hf := g_neg c6 hf
      refine lv_iconst (v := (0 : Int32)) hx hb dX2_areFacing_59 (by decide) ?_
      rw [hQ]
      exact W.zret (v := (0 : Int32)) hx hb hr (by decide +kernel) (fun t ht hW => ⟨_, rfl, Option.some.inj hf, ht⟩) (fun q h => by cases h) dX2_areFacing_60
    · have hf := g_pos c6 hf
      refine lv_aload_n hx hb dX2_areFacing_21 rfl (lv_at hl 0 rfl) ?_
      refine lv_iload_n hx hb dX2_areFacing_22 rfl (lv_at hl 1 rfl) ?_
      obtain ⟨r7, hc8, hf⟩ := g_b1 hf
      refine g_rV (As := [.int a1]) (rest := []) ⟨hx, hb, hml, hown, hts⟩ (c_X2_isWhole l dC dI cI cZ cG o o_cells o_standing  v_jars v_weeks f_cells a1 hc8) (cwV 1 hts gX2_areFacing_X2_isWhole rfl rfl rfl (by decide +kernel) ⟨Nat.le_of_ble_eq_true rfl, Nat.le_of_ble_eq_true rfl⟩) hK hN (hP.sub [0, 1] rfl) (va_recv hK hP (ci := 2) (q0 := 0) rfl rfl) rfl hl.1 rfl (Nat.le_of_ble_eq_true rfl) dX2_areFacing_23 ⟨Nat.zero_le _, Nat.zero_le _⟩ ?_
      refine lv_if_eq (tgt := 59) hx hb dX2_areFacing_26 (by decide) (fun c9 => ?_) (fun c9 => ?_)
      · have hf := g_pos c9 hf
        refine lv_iconst (v := (0 : Int32)) hx hb dX2_areFacing_59 (by decide) ?_
        rw [hQ]
        exact W.zret (v := (0 : Int32)) hx hb hr (by decide +kernel) (fun t ht hW => ⟨_, rfl, Option.some.inj hf, ht⟩) (fun q h => by cases h) dX2_areFacing_60
      · have hf := g_neg c9 hf
        refine lv_aload_n hx hb dX2_areFacing_29 rfl (lv_at hl 0 rfl) ?_
        refine lv_iload_n hx hb dX2_areFacing_30 rfl (lv_at hl 2 rfl) ?_
        obtain ⟨r10, hc11, hf⟩ := g_b1 hf
        refine g_rV (As := [.int a2]) (rest := []) ⟨hx, hb, hml, hown, hts⟩ (c_X2_isWhole l dC dI cI cZ cG o o_cells o_standing  v_jars v_weeks f_cells a2 hc11) (cwV 1 hts gX2_areFacing_X2_isWhole rfl rfl rfl (by decide +kernel) ⟨Nat.le_of_ble_eq_true rfl, Nat.le_of_ble_eq_true rfl⟩) hK hN (hP.sub [0, 1] rfl) (va_recv hK hP (ci := 2) (q0 := 0) rfl rfl) rfl hl.1 rfl (Nat.le_of_ble_eq_true rfl) dX2_areFacing_31 ⟨Nat.zero_le _, Nat.zero_le _⟩ ?_
        refine lv_if_eq (tgt := 59) hx hb dX2_areFacing_34 (by decide) (fun c12 => ?_) (fun c12 => ?_)
        · have hf := g_pos c12 hf
          refine lv_iconst (v := (0 : Int32)) hx hb dX2_areFacing_59 (by decide) ?_
          rw [hQ]
          exact W.zret (v := (0 : Int32)) hx hb hr (by decide +kernel) (fun t ht hW => ⟨_, rfl, Option.some.inj hf, ht⟩) (fun q h => by cases h) dX2_areFacing_60
        · have hf := g_neg c12 hf
          refine lv_aload_n hx hb dX2_areFacing_37 rfl (lv_at hl 0 rfl) ?_
          refine lv_iload_n hx hb dX2_areFacing_38 rfl (lv_at hl 1 rfl) ?_
          refine lv_iload_n hx hb dX2_areFacing_39 rfl (lv_at hl 2 rfl) ?_
          obtain ⟨r13, hc14, hf⟩ := g_b1 hf
          refine g_rV (As := [.int a1, .int a2]) (rest := []) ⟨hx, hb, hml, hown, hts⟩ (c_X2_isClear l dC dI cI cZ cG o o_cells o_standing  v_jars v_weeks f_cells a1 a2 hc14) (cwV 2 hts gX2_areFacing_X2_isClear rfl rfl rfl (by decide +kernel) ⟨Nat.le_of_ble_eq_true rfl, Nat.le_of_ble_eq_true rfl⟩) hK hN (hP.sub [0, 1] rfl) (va_recv hK hP (ci := 2) (q0 := 0) rfl rfl) rfl hl.1 rfl (Nat.le_of_ble_eq_true rfl) dX2_areFacing_40 ⟨Nat.zero_le _, Nat.zero_le _⟩ ?_
          refine lv_if_eq (tgt := 59) hx hb dX2_areFacing_43 (by decide) (fun c15 => ?_) (fun c15 => ?_)
          · have hf := g_pos c15 hf
            refine lv_iconst (v := (0 : Int32)) hx hb dX2_areFacing_59 (by decide) ?_
            rw [hQ]
            exact W.zret (v := (0 : Int32)) hx hb hr (by decide +kernel) (fun t ht hW => ⟨_, rfl, Option.some.inj hf, ht⟩) (fun q h => by cases h) dX2_areFacing_60
          · have hf := g_neg c15 hf
            refine lv_aload_n hx hb dX2_areFacing_46 rfl (lv_at hl 0 rfl) ?_
            refine lv_iload_n hx hb dX2_areFacing_47 rfl (lv_at hl 2 rfl) ?_
            refine lv_iload_n hx hb dX2_areFacing_48 rfl (lv_at hl 1 rfl) ?_
            obtain ⟨r16, hc17, hf⟩ := g_b1 hf
            refine g_rV (As := [.int a2, .int a1]) (rest := []) ⟨hx, hb, hml, hown, hts⟩ (c_X2_isClear l dC dI cI cZ cG o o_cells o_standing  v_jars v_weeks f_cells a2 a1 hc17) (cwV 2 hts gX2_areFacing_X2_isClear rfl rfl rfl (by decide +kernel) ⟨Nat.le_of_ble_eq_true rfl, Nat.le_of_ble_eq_true rfl⟩) hK hN (hP.sub [0, 1] rfl) (va_recv hK hP (ci := 2) (q0 := 0) rfl rfl) rfl hl.1 rfl (Nat.le_of_ble_eq_true rfl) dX2_areFacing_49 ⟨Nat.zero_le _, Nat.zero_le _⟩ ?_
            refine lv_if_eq (tgt := 59) hx hb dX2_areFacing_52 (by decide) (fun c18 => ?_) (fun c18 => ?_)
            · have hf := g_pos c18 hf
              refine lv_iconst (v := (0 : Int32)) hx hb dX2_areFacing_59 (by decide) ?_
              rw [hQ]
              exact W.zret (v := (0 : Int32)) hx hb hr (by decide +kernel) (fun t ht hW => ⟨_, rfl, Option.some.inj hf, ht⟩) (fun q h => by cases h) dX2_areFacing_60
            · have hf := g_neg c18 hf
              refine lv_iconst (v := (1 : Int32)) hx hb dX2_areFacing_55 (by decide) ?_
              refine lv_goto (tgt := 60) hx hb dX2_areFacing_56 (by decide) ?_
              rw [hQ]
              exact W.zret (v := (1 : Int32)) hx hb hr (by decide +kernel) (fun t ht hW => ⟨_, rfl, Option.some.inj hf, ht⟩) (fun q h => by cases h) dX2_areFacing_60
