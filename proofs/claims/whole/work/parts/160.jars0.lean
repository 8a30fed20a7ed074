abbrev rm_X7_write : Room := { frames := 1, cells := 0, slots := 0, locals := 21 }
abbrev w_X7_write (cI cZ cG : ClassId) (o : Nat) (o_text : Nat) (o_now : Nat) (o_trial : Nat) (o_acts : Nat) (o_slots : Nat) (o_tastes : Nat) (o_ways : Nat) (o_fraction : Nat) (o_text_bytes : Nat) (v_seedNow : Int64) (v_text_length : Int32) (f_text_bytes : Nat → Int32) : va_W := [(o, .inr (7, [.ref o_text, .ref o_now, .ref o_trial, .ref o_acts, .ref o_slots, .ref o_tastes, .ref o_ways, .ref o_fraction, .long v_seedNow])), (o_text, .inr (5, [.ref o_text_bytes, .int v_text_length])), (o_text_bytes, .inl (cI, 48, .inl f_text_bytes))]
set_option maxHeartbeats 4000000 in
set_option maxRecDepth 100000 in
theorem c_X7_write (l : Launch) (dC : Nat → ClassId) (dI : Nat → Nat → Nat) (cI cZ cG : ClassId) (o : Nat) (o_text : Nat) (o_now : Nat) (o_trial : Nat) (o_acts : Nat) (o_slots : Nat) (o_tastes : Nat) (o_ways : Nat) (o_fraction : Nat) (o_text_bytes : Nat) (sz : Nat) (v_seedNow : Int64) (v_text_length : Int32) (f_text_bytes : Nat → Int32) (a1 : Int32) {r0 : Int32} {n_text_length : Int32} {n_text_bytes : Nat → Int32} (hf : x7_write v_text_length f_text_bytes a1 = some (r0, n_text_length, n_text_bytes)) : Met l yX7_write wsX7_write rm_X7_write (va_Pc [.ref o, .int a1] (gW (dC, dI) vwCl (gT cI cZ cG) (w_X7_write cI cZ cG o o_text o_now o_trial o_acts o_slots o_tastes o_ways o_fraction o_text_bytes v_seedNow v_text_length f_text_bytes) sz)) (va_Qi (fun r _ => r = r0) (gE (dC, dI) vwCl (gT cI cZ cG) (w_X7_write cI cZ cG o o_text o_now o_trial o_acts o_slots o_tastes o_ways o_fraction o_text_bytes v_seedNow n_text_length n_text_bytes) (va_A (w_X7_write cI cZ cG o o_text o_now o_trial o_acts o_slots o_tastes o_ways o_fraction o_text_bytes v_seedNow v_text_length f_text_bytes) sz)) (va_A (w_X7_write cI cZ cG o o_text o_now o_trial o_acts o_slots o_tastes o_ways o_fraction o_text_bytes v_seedNow v_text_length f_text_bytes) sz)) 0 0 (va_A (w_X7_write cI cZ cG o o_text o_now o_trial o_acts o_slots o_tastes o_ways o_fraction o_text_bytes v_seedNow v_text_length f_text_bytes) sz) := by
  refine Met.ofW (cc := cX7_write) (maxL := 2) (ret := (some .int)) (by decide) rfl ?_
  intro p e s m args below meth c s₁ B hml hv
  obtain ⟨rfl, hv⟩ := hv
  obtain ⟨hsz, hP, hK, hN, hD0⟩ := hv
  have hx := B.exec
  have hb := B.bytes
  have hr := B.returns
  have hts := atoms_spec (ws := wsX7_write) B.pre
  have hown : s.vm.findClass RX7 = some m.cls := findClass_of_methodNamed B.named
  have hlocks := B.notSynchronized
  have hiX5 : ∀ w ∈ u_ws RX5 TX5 2, w ∈ wsX7_write := fun w h => List.mem_cons_of_mem _ (List.mem_append_right _ h)
  have hiX7 : ∀ w ∈ u_ws RX7 TX7 9, w ∈ wsX7_write := fun w h => List.mem_cons_of_mem _ (List.mem_append_left _ (List.mem_append_right _ h))
  subst hsz
  have hD := hD0.self (sz := s.heap.size)
  generalize hAe : va_A (w_X7_write cI cZ cG o o_text o_now o_trial o_acts o_slots o_tastes o_ways o_fraction o_text_bytes v_seedNow v_text_length f_text_bytes) s.heap.size = A at hD ⊢
  have hA : ∀ q : Nat, s.heap.size ≤ q → A q := fun q h => by rw [← hAe]; exact Or.inr h
  clear hD0
  have hS : va_S A s.heap s.heap [] := va_S.rf
  have hP : va_P (dC, dI) vwCl (w_X7_write cI cZ cG o o_text o_now o_trial o_acts o_slots o_tastes o_ways o_fraction o_text_bytes v_seedNow v_text_length f_text_bytes) s.heap := hP
  obtain ⟨Q, hQ⟩ : ∃ Q : State → Prop, Q = MQ below (va_Qi (fun r _ => r = r0) (gE (dC, dI) vwCl (gT cI cZ cG) (w_X7_write cI cZ cG o o_text o_now o_trial o_acts o_slots o_tastes o_ways o_fraction o_text_bytes v_seedNow n_text_length n_text_bytes) A) A) (([Value.ref o, Value.int a1] : List Value).toArray) s 0 0 A := ⟨_, rfl⟩
  have hl := lv_entry ([.ref o, .int a1]) (n := 2) (Nat.le_of_ble_eq_true rfl)
  rw [← hQ, lg_entry_eq]
  generalize (lg_sl ([.ref o, .int a1]) ++ List.replicate (2 - (lg_sl ([.ref o, .int a1])).length) Slot.unset).toArray = ls at hl ⊢
  have hl : lv_has ls 2 [(0, .ref o), (1, .int a1)] := hl
  generalize hH : s.heap = H at hP hS ⊢
  have hS : va_S A s.heap H [] := by rw [hH]; exact hS
  generalize hlc : ([] : List Loc) = locs at hS ⊢
  show W p l e rm_X7_write s m (([Value.ref o, Value.int a1] : List Value).toArray) below meth c H locs 0 0 Q (F0 m 0 ls [])
  unfold x7_write at hf
  refine lv_iload_n hx hb dX7_write_0 rfl (lv_at hl 1 rfl) ?_
  refine lv_if_lt (tgt := 11) hx hb dX7_write_1 (by decide) (fun c1 => ?_) (fun c1 => ?_)
  · have hf := g_pos c1 hf
    refine lv_bipush (v := (-2 : Int32)) hx hb dX7_write_11 (by decide +kernel) ?_
    rw [hQ]
    cases hf
    exact W.iret hx hb hr (fun t ht hW => ⟨⟨_, (), rfl, rfl, by rw [ht]; exact hP, va_K.moved hW.alike hK, hD⟩, hS.F ht⟩) hS.2.2 dX7_write_13
  · have hf := g_neg c1 hf
    refine lv_iload_n hx hb dX7_write_4 rfl (lv_at hl 1 rfl) ?_
    refine lv_sipush (v := (255 : Int32)) hx hb dX7_write_5 (by decide +kernel) ?_
    refine lv_icmp_le (tgt := 14) hx hb dX7_write_8 (by decide) (fun c2 => ?_) (fun c2 => ?_)
    · have hf := g_pos c2 hf
      refine lv_aload_n hx hb dX7_write_14 rfl (lv_at hl 0 rfl) ?_
      refine va_get (D := (dC, dI)) (ci := 7) (v := .ref o_text) (C := RX7) (T := TX7) (N := 9) hx hb hts hiX7 hown hK hP 0 rfl rfl 0 (by decide) (hts (.fieldLink RX7 10 "GreenJars" "text" "LGreenJars$Text;") (by decide +kernel)) (fun _ h9 => h9) rfl dX7_write_15 ?_
      refine lv_iload_n hx hb dX7_write_18 rfl (lv_at hl 1 rfl) ?_
      obtain ⟨r3, y4, y5, hc6, hf⟩ := g_b3 hf
      refine g_wV (As := [.int a1]) (rest := []) (wr := [(o, .inr (7, [.ref o_text, .ref o_now, .ref o_trial, .ref o_acts, .ref o_slots, .ref o_tastes, .ref o_ways, .ref o_fraction, .long v_seedNow]))]) (wn := (w_X7_write cI cZ cG o o_text o_now o_trial o_acts o_slots o_tastes o_ways o_fraction o_text_bytes v_seedNow y4 y5)) ⟨hx, hb, hml, hown, hts⟩ (c_X5_add l dC dI cI cZ cG o_text o_text_bytes H.size  v_text_length f_text_bytes a1 hc6) (cwV 1 hts gX7_write_X5_add rfl rfl rfl (by decide +kernel) ⟨Nat.le_of_ble_eq_true rfl, Nat.le_of_ble_eq_true rfl⟩) hK hN hP hD hS hA [1, 2] [0] [0, 1, 2] rfl rfl (by decide) rfl (by decide) (by decide) rfl (by decide) (va_recv hK hP (ci := 5) (q0 := 1) rfl rfl) rfl hl.1 rfl (Nat.le_of_ble_eq_true rfl) dX7_write_19 ⟨Nat.zero_le _, Nat.zero_le _⟩ (fun H locs hP hD hS => ?_)
      refine lv_if_eq (tgt := 35) hx hb dX7_write_22 (by decide) (fun c7 => ?_) (fun c7 => ?_)
      · have hf := g_pos c7 hf
        refine lv_bipush (v := (-4 : Int32)) hx hb dX7_write_35 (by decide +kernel) ?_
        rw [hQ]
        cases hf
        exact W.iret hx hb hr (fun t ht hW => ⟨⟨_, (), rfl, rfl, by rw [ht]; exact hP, va_K.moved hW.alike hK, hD⟩, hS.F ht⟩) hS.2.2 dX7_write_37
      · have hf := g_neg c7 hf
        refine lv_aload_n hx hb dX7_write_25 rfl (lv_at hl 0 rfl) ?_
        refine va_get (D := (dC, dI)) (ci := 7) (v := .ref o_text) (C := RX7) (T := TX7) (N := 9) hx hb hts hiX7 hown hK hP 0 rfl rfl 0 (by decide) (hts (.fieldLink RX7 10 "GreenJars" "text" "LGreenJars$Text;") (by decide +kernel)) (fun _ h9 => h9) rfl dX7_write_26 ?_
        obtain ⟨r8, hc9, hf⟩ := g_b1 hf
        refine g_rV (As := []) (rest := []) ⟨hx, hb, hml, hown, hts⟩ (c_X5_length l dC dI cI cZ cG o_text o_text_bytes  y4 hc9) (cwV 0 hts gX7_write_X5_length rfl rfl rfl (by decide +kernel) ⟨Nat.le_of_ble_eq_true rfl, Nat.le_of_ble_eq_true rfl⟩) hK hN (hP.sub [1] rfl) (va_recv hK hP (ci := 5) (q0 := 1) rfl rfl) rfl hl.1 rfl (Nat.le_of_ble_eq_true rfl) dX7_write_29 ⟨Nat.zero_le _, Nat.zero_le _⟩ ?_
        refine lv_goto (tgt := 37) hx hb dX7_write_32 (by decide) ?_
        rw [hQ]
        cases hf
        exact W.iret hx hb hr (fun t ht hW => ⟨⟨_, (), rfl, rfl, by rw [ht]; exact hP, va_K.moved hW.alike hK, hD⟩, hS.F ht⟩) hS.2.2 dX7_write_37
    · have hf := g_neg c2 hf
      refine lv_bipush (v := (-2 : Int32)) hx hb dX7_write_11 (by decide +kernel) ?_
      rw [hQ]
      cases hf
      exact W.iret hx hb hr (fun t ht hW => ⟨⟨_, (), rfl, rfl, by rw [ht]; exact hP, va_K.moved hW.alike hK, hD⟩, hS.F ht⟩) hS.2.2 dX7_write_13
abbrev rm_X7_wipe : Room := { frames := 1, cells := 0, slots := 0, locals := 20 }
abbrev w_X7_wipe (cI cZ cG : ClassId) (o : Nat) (o_text : Nat) (o_now : Nat) (o_trial : Nat) (o_acts : Nat) (o_slots : Nat) (o_tastes : Nat) (o_ways : Nat) (o_fraction : Nat) (o_text_bytes : Nat) (v_seedNow : Int64) (v_text_length : Int32) : va_W := [(o, .inr (7, [.ref o_text, .ref o_now, .ref o_trial, .ref o_acts, .ref o_slots, .ref o_tastes, .ref o_ways, .ref o_fraction, .long v_seedNow])), (o_text, .inr (5, [.ref o_text_bytes, .int v_text_length]))]
set_option maxHeartbeats 4000000 in
set_option maxRecDepth 100000 in
theorem c_X7_wipe (l : Launch) (dC : Nat → ClassId) (dI : Nat → Nat → Nat) (cI cZ cG : ClassId) (o : Nat) (o_text : Nat) (o_now : Nat) (o_trial : Nat) (o_acts : Nat) (o_slots : Nat) (o_tastes : Nat) (o_ways : Nat) (o_fraction : Nat) (o_text_bytes : Nat) (sz : Nat) (v_seedNow : Int64) (v_text_length : Int32) {r0 : Int32} {n_text_length : Int32} (hf : x7_wipe v_text_length = some (r0, n_text_length)) : Met l yX7_wipe wsX7_wipe rm_X7_wipe (va_Pc [.ref o] (gW (dC, dI) vwCl (gT cI cZ cG) (w_X7_wipe cI cZ cG o o_text o_now o_trial o_acts o_slots o_tastes o_ways o_fraction o_text_bytes v_seedNow v_text_length) sz)) (va_Qi (fun r _ => r = r0) (gE (dC, dI) vwCl (gT cI cZ cG) (w_X7_wipe cI cZ cG o o_text o_now o_trial o_acts o_slots o_tastes o_ways o_fraction o_text_bytes v_seedNow n_text_length) (va_A (w_X7_wipe cI cZ cG o o_text o_now o_trial o_acts o_slots o_tastes o_ways o_fraction o_text_bytes v_seedNow v_text_length) sz)) (va_A (w_X7_wipe cI cZ cG o o_text o_now o_trial o_acts o_slots o_tastes o_ways o_fraction o_text_bytes v_seedNow v_text_length) sz)) 0 0 (va_A (w_X7_wipe cI cZ cG o o_text o_now o_trial o_acts o_slots o_tastes o_ways o_fraction o_text_bytes v_seedNow v_text_length) sz) := by
  refine Met.ofW (cc := cX7_wipe) (maxL := 2) (ret := (some .int)) (by decide) rfl ?_
  intro p e s m args below meth c s₁ B hml hv
  obtain ⟨rfl, hv⟩ := hv
  obtain ⟨hsz, hP, hK, hN, hD0⟩ := hv
  have hx := B.exec
  have hb := B.bytes
  have hr := B.returns
  have hts := atoms_spec (ws := wsX7_wipe) B.pre
  have hown : s.vm.findClass RX7 = some m.cls := findClass_of_methodNamed B.named
  have hlocks := B.notSynchronized
  have hiX5 : ∀ w ∈ u_ws RX5 TX5 2, w ∈ wsX7_wipe := fun w h => List.mem_cons_of_mem _ (List.mem_append_right _ h)
  have hiX7 : ∀ w ∈ u_ws RX7 TX7 9, w ∈ wsX7_wipe := fun w h => List.mem_cons_of_mem _ (List.mem_append_left _ (List.mem_append_right _ h))
  subst hsz
  have hD := hD0.self (sz := s.heap.size)
  generalize hAe : va_A (w_X7_wipe cI cZ cG o o_text o_now o_trial o_acts o_slots o_tastes o_ways o_fraction o_text_bytes v_seedNow v_text_length) s.heap.size = A at hD ⊢
  have hA : ∀ q : Nat, s.heap.size ≤ q → A q := fun q h => by rw [← hAe]; exact Or.inr h
  clear hD0
  have hS : va_S A s.heap s.heap [] := va_S.rf
  have hP : va_P (dC, dI) vwCl (w_X7_wipe cI cZ cG o o_text o_now o_trial o_acts o_slots o_tastes o_ways o_fraction o_text_bytes v_seedNow v_text_length) s.heap := hP
  obtain ⟨Q, hQ⟩ : ∃ Q : State → Prop, Q = MQ below (va_Qi (fun r _ => r = r0) (gE (dC, dI) vwCl (gT cI cZ cG) (w_X7_wipe cI cZ cG o o_text o_now o_trial o_acts o_slots o_tastes o_ways o_fraction o_text_bytes v_seedNow n_text_length) A) A) (([Value.ref o] : List Value).toArray) s 0 0 A := ⟨_, rfl⟩
  have hl := lv_entry ([.ref o]) (n := 2) (Nat.le_of_ble_eq_true rfl)
  rw [← hQ, lg_entry_eq]
  generalize (lg_sl ([.ref o]) ++ List.replicate (2 - (lg_sl ([.ref o])).length) Slot.unset).toArray = ls at hl ⊢
  have hl : lv_has ls 2 [(0, .ref o)] := hl
  generalize hH : s.heap = H at hP hS ⊢
  have hS : va_S A s.heap H [] := by rw [hH]; exact hS
  generalize hlc : ([] : List Loc) = locs at hS ⊢
  show W p l e rm_X7_wipe s m (([Value.ref o] : List Value).toArray) below meth c H locs 0 0 Q (F0 m 0 ls [])
  unfold x7_wipe at hf
  refine lv_aload_n hx hb dX7_wipe_0 rfl (lv_at hl 0 rfl) ?_
  refine va_get (D := (dC, dI)) (ci := 7) (v := .ref o_text) (C := RX7) (T := TX7) (N := 9) hx hb hts hiX7 hown hK hP 0 rfl rfl 0 (by decide) (hts (.fieldLink RX7 10 "GreenJars" "text" "LGreenJars$Text;") (by decide +kernel)) (fun _ h9 => h9) rfl dX7_wipe_1 ?_
  obtain ⟨r1, hc2, hf⟩ := g_b1 hf
  refine g_rV (As := []) (rest := []) ⟨hx, hb, hml, hown, hts⟩ (c_X5_length l dC dI cI cZ cG o_text o_text_bytes  v_text_length hc2) (cwV 0 hts gX7_wipe_X5_length rfl rfl rfl (by decide +kernel) ⟨Nat.le_of_ble_eq_true rfl, Nat.le_of_ble_eq_true rfl⟩) hK hN (hP.sub [1] rfl) (va_recv hK hP (ci := 5) (q0 := 1) rfl rfl) rfl hl.1 rfl (Nat.le_of_ble_eq_true rfl) dX7_wipe_4 ⟨Nat.zero_le _, Nat.zero_le _⟩ ?_
  refine lv_istore_n (lv' := [(1, .int r1), (0, .ref o)]) hx hb dX7_wipe_7 rfl hl (by decide) rfl (fun ls hl => ?_)
  refine lv_aload_n hx hb dX7_wipe_8 rfl (lv_at hl 1 rfl) ?_
  refine va_get (D := (dC, dI)) (ci := 7) (v := .ref o_text) (C := RX7) (T := TX7) (N := 9) hx hb hts hiX7 hown hK hP 0 rfl rfl 0 (by decide) (hts (.fieldLink RX7 10 "GreenJars" "text" "LGreenJars$Text;") (by decide +kernel)) (fun _ h9 => h9) rfl dX7_wipe_9 ?_
  obtain ⟨y3, hc4, hf⟩ := g_b1 hf
  refine g_wVv (As := []) (rest := []) (wr := [(o, .inr (7, [.ref o_text, .ref o_now, .ref o_trial, .ref o_acts, .ref o_slots, .ref o_tastes, .ref o_ways, .ref o_fraction, .long v_seedNow]))]) (wn := (w_X7_wipe cI cZ cG o o_text o_now o_trial o_acts o_slots o_tastes o_ways o_fraction o_text_bytes v_seedNow y3)) ⟨hx, hb, hml, hown, hts⟩ (c_X5_clear l dC dI cI cZ cG o_text o_text_bytes H.size  v_text_length hc4) (cwV 0 hts gX7_wipe_X5_clear rfl rfl rfl (by decide +kernel) ⟨Nat.le_of_ble_eq_true rfl, Nat.le_of_ble_eq_true rfl⟩) hK hN hP hD hS hA [1] [0] [0, 1] rfl rfl (by decide) rfl (by decide) (by decide) rfl (by decide) (va_recv hK hP (ci := 5) (q0 := 1) rfl rfl) rfl hl.1 rfl (Nat.le_of_ble_eq_true rfl) dX7_wipe_12 ⟨Nat.zero_le _, Nat.zero_le _⟩ (fun H locs hP hD hS => ?_)
  refine lv_iload_n hx hb dX7_wipe_15 rfl (lv_at hl 0 rfl) ?_
  rw [hQ]
  cases hf
  exact W.iret hx hb hr (fun t ht hW => ⟨⟨_, (), rfl, rfl, by rw [ht]; exact hP, va_K.moved hW.alike hK, hD⟩, hS.F ht⟩) hS.2.2 dX7_wipe_16
abbrev rm_X7_fault : Room := { frames := 4, cells := 0, slots := 0, locals := 87 }
abbrev w_X7_fault (cI cZ cG : ClassId) (o : Nat) (o_text : Nat) (o_now : Nat) (o_trial : Nat) (o_acts : Nat) (o_slots : Nat) (o_tastes : Nat) (o_ways : Nat) (o_fraction : Nat) (o_text_bytes : Nat) (v_seedNow : Int64) (v_text_length : Int32) (f_text_bytes : Nat → Int32) : va_W := [(o, .inr (7, [.ref o_text, .ref o_now, .ref o_trial, .ref o_acts, .ref o_slots, .ref o_tastes, .ref o_ways, .ref o_fraction, .long v_seedNow])), (o_text, .inr (5, [.ref o_text_bytes, .int v_text_length])), (o_text_bytes, .inl (cI, 48, .inl f_text_bytes))]
set_option maxHeartbeats 4000000 in
set_option maxRecDepth 100000 in
theorem c_X7_fault (l : Launch) (dC : Nat → ClassId) (dI : Nat → Nat → Nat) (cI cZ cG : ClassId) {N : Nat} (o : Nat) (o_text : Nat) (o_now : Nat) (o_trial : Nat) (o_acts : Nat) (o_slots : Nat) (o_tastes : Nat) (o_ways : Nat) (o_fraction : Nat) (o_text_bytes : Nat) (v_seedNow : Int64) (v_text_length : Int32) (f_text_bytes : Nat → Int32) {r0 : Int32} (hf : x7_fault N v_text_length f_text_bytes = some r0) : Met l yX7_fault wsX7_fault rm_X7_fault (va_Pc [.ref o] (gR (dC, dI) vwCl (gT cI cZ cG) (w_X7_fault cI cZ cG o o_text o_now o_trial o_acts o_slots o_tastes o_ways o_fraction o_text_bytes v_seedNow v_text_length f_text_bytes))) (vp_Si (fun r => r = r0)) 0 0 (fun _ => False) := by
  refine Met.ofW (cc := cX7_fault) (maxL := 1) (ret := (some .int)) (by decide) rfl ?_
  intro p e s m args below meth c s₁ B hml hv
  obtain ⟨rfl, hv⟩ := hv
  obtain ⟨hP, hK, hN⟩ := hv
  have hx := B.exec
  have hb := B.bytes
  have hr := B.returns
  have hts := atoms_spec (ws := wsX7_fault) B.pre
  have hown : s.vm.findClass RX7 = some m.cls := findClass_of_methodNamed B.named
  have hlocks := B.notSynchronized
  have hiX5 : ∀ w ∈ u_ws RX5 TX5 2, w ∈ wsX7_fault := fun w h => List.mem_cons_of_mem _ (List.mem_append_right _ h)
  have hiX7 : ∀ w ∈ u_ws RX7 TX7 9, w ∈ wsX7_fault := fun w h => List.mem_cons_of_mem _ (List.mem_append_left _ (List.mem_append_right _ h))
  obtain ⟨Q, hQ⟩ : ∃ Q : State → Prop, Q = MQ below (vp_Si (fun r => r = r0)) (([Value.ref o] : List Value).toArray) s 0 0 (fun _ => False) := ⟨_, rfl⟩
  have hl := lv_entry ([.ref o]) (n := 1) (Nat.le_of_ble_eq_true rfl)
  rw [← hQ, lg_entry_eq]
  generalize (lg_sl ([.ref o]) ++ List.replicate (1 - (lg_sl ([.ref o])).length) Slot.unset).toArray = ls at hl ⊢
  have hl : lv_has ls 1 [(0, .ref o)] := hl
  show W p l e rm_X7_fault s m (([Value.ref o] : List Value).toArray) below meth c s.heap [] 0 0 Q (F0 m 0 ls [])
  unfold x7_fault at hf
  refine lv_aload_n hx hb dX7_fault_0 rfl (lv_at hl 0 rfl) ?_
  refine va_get (D := (dC, dI)) (ci := 7) (v := .ref o_text) (C := RX7) (T := TX7) (N := 9) hx hb hts hiX7 hown hK hP 0 rfl rfl 0 (by decide) (hts (.fieldLink RX7 10 "GreenJars" "text" "LGreenJars$Text;") (by decide +kernel)) (fun _ h9 => h9) rfl dX7_fault_1 ?_
  obtain ⟨r1, hc2, hf⟩ := g_b1 hf
  refine g_rV (As := []) (rest := []) ⟨hx, hb, hml, hown, hts⟩ (c_X5_firstFault l dC dI cI cZ cG o_text o_text_bytes  v_text_length f_text_bytes hc2) (cwV 0 hts gX7_fault_X5_firstFault rfl rfl rfl (by decide +kernel) ⟨Nat.le_of_ble_eq_true rfl, Nat.le_of_ble_eq_true rfl⟩) hK hN (hP.sub [1, 2] rfl) (va_recv hK hP (ci := 5) (q0 := 1) rfl rfl) rfl hl.1 rfl (Nat.le_of_ble_eq_true rfl) dX7_fault_4 ⟨Nat.zero_le _, Nat.zero_le _⟩ ?_
  rw [hQ]
  exact W.iret (v := r1) hx hb hr (fun t ht hW => ⟨_, rfl, Option.some.inj hf, ht⟩) (fun q h => by cases h) dX7_fault_7
abbrev rm_X7_sale : Room := { frames := 4, cells := 0, slots := 0, locals := 87 }
abbrev w_X7_sale (cI cZ cG : ClassId) (o : Nat) (o_text : Nat) (o_now : Nat) (o_trial : Nat) (o_acts : Nat) (o_slots : Nat) (o_tastes : Nat) (o_ways : Nat) (o_fraction : Nat) (o_text_bytes : Nat) (o_now_cells : Nat) (o_now_standing : Nat) (o_acts_before : Nat) (o_slots_rows : Nat) (o_slots_filled : Nat) (v_seedNow : Int64) (v_text_length : Int32) (f_text_bytes : Nat → Int32) (v_now_jars : Int32) (v_now_weeks : Int32) (f_now_cells : Nat → Int32) (v_acts_count : Int32) (v_acts_next : Int32) (f_slots_filled : Nat → Int32) : va_W := [(o, .inr (7, [.ref o_text, .ref o_now, .ref o_trial, .ref o_acts, .ref o_slots, .ref o_tastes, .ref o_ways, .ref o_fraction, .long v_seedNow])), (o_text, .inr (5, [.ref o_text_bytes, .int v_text_length])), (o_text_bytes, .inl (cI, 48, .inl f_text_bytes)), (o_now, .inr (2, [.ref o_now_cells, .ref o_now_standing, .int v_now_jars, .int v_now_weeks])), (o_now_cells, .inl (cI, 48, .inl f_now_cells)), (o_acts, .inr (0, [.ref o_acts_before, .int v_acts_count, .int v_acts_next])), (o_slots, .inr (3, [.ref o_slots_rows, .ref o_slots_filled])), (o_slots_filled, .inl (cZ, 2, .inl f_slots_filled))]
set_option maxHeartbeats 4000000 in
set_option maxRecDepth 100000 in
theorem c_X7_sale (l : Launch) (dC : Nat → ClassId) (dI : Nat → Nat → Nat) (cI cZ cG : ClassId) {N : Nat} (o : Nat) (o_text : Nat) (o_now : Nat) (o_trial : Nat) (o_acts : Nat) (o_slots : Nat) (o_tastes : Nat) (o_ways : Nat) (o_fraction : Nat) (o_text_bytes : Nat) (o_now_cells : Nat) (o_now_standing : Nat) (o_acts_before : Nat) (o_slots_rows : Nat) (o_slots_filled : Nat) (sz : Nat) (v_seedNow : Int64) (v_text_length : Int32) (f_text_bytes : Nat → Int32) (v_now_jars : Int32) (v_now_weeks : Int32) (f_now_cells : Nat → Int32) (v_acts_count : Int32) (v_acts_next : Int32) (f_slots_filled : Nat → Int32) {r0 : Int32} {n_now_jars : Int32} {n_now_weeks : Int32} {n_now_cells : Nat → Int32} {n_acts_count : Int32} {n_slots_filled : Nat → Int32} (hf : x7_sale N v_text_length f_text_bytes v_now_jars v_now_weeks f_now_cells v_acts_count f_slots_filled = some (r0, n_now_jars, n_now_weeks, n_now_cells, n_acts_count, n_slots_filled)) : Met l yX7_sale wsX7_sale rm_X7_sale (va_Pc [.ref o] (gW (dC, dI) vwCl (gT cI cZ cG) (w_X7_sale cI cZ cG o o_text o_now o_trial o_acts o_slots o_tastes o_ways o_fraction o_text_bytes o_now_cells o_now_standing o_acts_before o_slots_rows o_slots_filled v_seedNow v_text_length f_text_bytes v_now_jars v_now_weeks f_now_cells v_acts_count v_acts_next f_slots_filled) sz)) (va_Qi (fun r _ => r = r0) (gE (dC, dI) vwCl (gT cI cZ cG) (w_X7_sale cI cZ cG o o_text o_now o_trial o_acts o_slots o_tastes o_ways o_fraction o_text_bytes o_now_cells o_now_standing o_acts_before o_slots_rows o_slots_filled v_seedNow v_text_length f_text_bytes n_now_jars n_now_weeks n_now_cells n_acts_count v_acts_next n_slots_filled) (va_A (w_X7_sale cI cZ cG o o_text o_now o_trial o_acts o_slots o_tastes o_ways o_fraction o_text_bytes o_now_cells o_now_standing o_acts_before o_slots_rows o_slots_filled v_seedNow v_text_length f_text_bytes v_now_jars v_now_weeks f_now_cells v_acts_count v_acts_next f_slots_filled) sz)) (va_A (w_X7_sale cI cZ cG o o_text o_now o_trial o_acts o_slots o_tastes o_ways o_fraction o_text_bytes o_now_cells o_now_standing o_acts_before o_slots_rows o_slots_filled v_seedNow v_text_length f_text_bytes v_now_jars v_now_weeks f_now_cells v_acts_count v_acts_next f_slots_filled) sz)) 0 0 (va_A (w_X7_sale cI cZ cG o o_text o_now o_trial o_acts o_slots o_tastes o_ways o_fraction o_text_bytes o_now_cells o_now_standing o_acts_before o_slots_rows o_slots_filled v_seedNow v_text_length f_text_bytes v_now_jars v_now_weeks f_now_cells v_acts_count v_acts_next f_slots_filled) sz) := by
  refine Met.ofW (cc := cX7_sale) (maxL := 1) (ret := (some .int)) (by decide) rfl ?_
  intro p e s m args below meth c s₁ B hml hv
  obtain ⟨rfl, hv⟩ := hv
  obtain ⟨hsz, hP, hK, hN, hD0⟩ := hv
  have hx := B.exec
  have hb := B.bytes
  have hr := B.returns
  have hts := atoms_spec (ws := wsX7_sale) B.pre
  have hown : s.vm.findClass RX7 = some m.cls := findClass_of_methodNamed B.named
  have hlocks := B.notSynchronized
  have hiX0 : ∀ w ∈ u_ws RX0 TX0 3, w ∈ wsX7_sale := fun w h => List.mem_cons_of_mem _ (List.mem_append_left _ (List.mem_append_right _ h))
  have hiX2 : ∀ w ∈ u_ws RX2 TX2 4, w ∈ wsX7_sale := fun w h => List.mem_cons_of_mem _ (List.mem_append_left _ (List.mem_append_left _ (List.mem_append_right _ h)))
  have hiX3 : ∀ w ∈ u_ws RX3 TX3 2, w ∈ wsX7_sale := fun w h => List.mem_cons_of_mem _ (List.mem_append_right _ h)
  have hiX5 : ∀ w ∈ u_ws RX5 TX5 2, w ∈ wsX7_sale := fun w h => List.mem_cons_of_mem _ (List.mem_append_left _ (List.mem_append_left _ (List.mem_append_left _ (List.mem_append_right _ h))))
  have hiX7 : ∀ w ∈ u_ws RX7 TX7 9, w ∈ wsX7_sale := fun w h => List.mem_cons_of_mem _ (List.mem_append_left _ (List.mem_append_left _ (List.mem_append_left _ (List.mem_append_left _ (List.mem_append_right _ h)))))
  subst hsz
  have hD := hD0.self (sz := s.heap.size)
  generalize hAe : va_A (w_X7_sale cI cZ cG o o_text o_now o_trial o_acts o_slots o_tastes o_ways o_fraction o_text_bytes o_now_cells o_now_standing o_acts_before o_slots_rows o_slots_filled v_seedNow v_text_length f_text_bytes v_now_jars v_now_weeks f_now_cells v_acts_count v_acts_next f_slots_filled) s.heap.size = A at hD ⊢
  have hA : ∀ q : Nat, s.heap.size ≤ q → A q := fun q h => by rw [← hAe]; exact Or.inr h
  clear hD0
  have hS : va_S A s.heap s.heap [] := va_S.rf
  have hP : va_P (dC, dI) vwCl (w_X7_sale cI cZ cG o o_text o_now o_trial o_acts o_slots o_tastes o_ways o_fraction o_text_bytes o_now_cells o_now_standing o_acts_before o_slots_rows o_slots_filled v_seedNow v_text_length f_text_bytes v_now_jars v_now_weeks f_now_cells v_acts_count v_acts_next f_slots_filled) s.heap := hP
  obtain ⟨Q, hQ⟩ : ∃ Q : State → Prop, Q = MQ below (va_Qi (fun r _ => r = r0) (gE (dC, dI) vwCl (gT cI cZ cG) (w_X7_sale cI cZ cG o o_text o_now o_trial o_acts o_slots o_tastes o_ways o_fraction o_text_bytes o_now_cells o_now_standing o_acts_before o_slots_rows o_slots_filled v_seedNow v_text_length f_text_bytes n_now_jars n_now_weeks n_now_cells n_acts_count v_acts_next n_slots_filled) A) A) (([Value.ref o] : List Value).toArray) s 0 0 A := ⟨_, rfl⟩
  have hl := lv_entry ([.ref o]) (n := 1) (Nat.le_of_ble_eq_true rfl)
  rw [← hQ, lg_entry_eq]
  generalize (lg_sl ([.ref o]) ++ List.replicate (1 - (lg_sl ([.ref o])).length) Slot.unset).toArray = ls at hl ⊢
  have hl : lv_has ls 1 [(0, .ref o)] := hl
  generalize hH : s.heap = H at hP hS ⊢
  have hS : va_S A s.heap H [] := by rw [hH]; exact hS
  generalize hlc : ([] : List Loc) = locs at hS ⊢
  show W p l e rm_X7_sale s m (([Value.ref o] : List Value).toArray) below meth c H locs 0 0 Q (F0 m 0 ls [])
  unfold x7_sale at hf
  refine lv_aload_n hx hb dX7_sale_0 rfl (lv_at hl 0 rfl) ?_
  refine va_get (D := (dC, dI)) (ci := 7) (v := .ref o_text) (C := RX7) (T := TX7) (N := 9) hx hb hts hiX7 hown hK hP 0 rfl rfl 0 (by decide) (hts (.fieldLink RX7 10 "GreenJars" "text" "LGreenJars$Text;") (by decide +kernel)) (fun _ h9 => h9) rfl dX7_sale_1 ?_
  obtain ⟨r1, hc2, hf⟩ := g_b1 hf
  refine g_rV (As := []) (rest := []) ⟨hx, hb, hml, hown, hts⟩ (c_X5_firstFault l dC dI cI cZ cG o_text o_text_bytes  v_text_length f_text_bytes hc2) (cwV 0 hts gX7_sale_X5_firstFault rfl rfl rfl (by decide +kernel) ⟨Nat.le_of_ble_eq_true rfl, Nat.le_of_ble_eq_true rfl⟩) hK hN (hP.sub [1, 2] rfl) (va_recv hK hP (ci := 5) (q0 := 1) rfl rfl) rfl hl.1 rfl (Nat.le_of_ble_eq_true rfl) dX7_sale_4 ⟨Nat.zero_le _, Nat.zero_le _⟩ ?_
  refine lv_bipush (v := (-9 : Int32)) hx hb dX7_sale_7 (by decide +kernel) ?_
  refine lv_icmp_eq (tgt := 15) hx hb dX7_sale_9 (by decide) (fun c3 => ?_) (fun c3 => ?_)
  · have hf := g_pos c3 hf
    refine lv_aload_n hx hb dX7_sale_15 rfl (lv_at hl 0 rfl) ?_
    refine va_get (D := (dC, dI)) (ci := 7) (v := .ref o_text) (C := RX7) (T := TX7) (N := 9) hx hb hts hiX7 hown hK hP 0 rfl rfl 0 (by decide) (hts (.fieldLink RX7 10 "GreenJars" "text" "LGreenJars$Text;") (by decide +kernel)) (fun _ h9 => h9) rfl dX7_sale_16 ?_
    refine lv_aload_n hx hb dX7_sale_19 rfl (lv_at hl 0 rfl) ?_
    refine va_get (D := (dC, dI)) (ci := 7) (v := .ref o_now) (C := RX7) (T := TX7) (N := 9) hx hb hts hiX7 hown hK hP 0 rfl rfl 1 (by decide) (hts (.fieldLink RX7 19 "GreenJars" "now" "LGreenJars$Shelf;") (by decide +kernel)) (fun _ h9 => h9) rfl dX7_sale_20 ?_
    obtain ⟨y4, y5, y6, hc7, hf⟩ := g_b3 hf
    refine g_wVv (As := [.ref o_now]) (rest := []) (wr := [(o, .inr (7, [.ref o_text, .ref o_now, .ref o_trial, .ref o_acts, .ref o_slots, .ref o_tastes, .ref o_ways, .ref o_fraction, .long v_seedNow])), (o_acts, .inr (0, [.ref o_acts_before, .int v_acts_count, .int v_acts_next])), (o_slots, .inr (3, [.ref o_slots_rows, .ref o_slots_filled])), (o_slots_filled, .inl (cZ, 2, .inl f_slots_filled))]) (wn := (w_X7_sale cI cZ cG o o_text o_now o_trial o_acts o_slots o_tastes o_ways o_fraction o_text_bytes o_now_cells o_now_standing o_acts_before o_slots_rows o_slots_filled v_seedNow v_text_length f_text_bytes y4 y5 y6 v_acts_count v_acts_next f_slots_filled)) ⟨hx, hb, hml, hown, hts⟩ (c_X5_fillShelf l dC dI cI cZ cG o_text o_text_bytes o_now o_now_cells o_now_standing H.size  v_text_length f_text_bytes v_now_jars v_now_weeks f_now_cells hc7) (cwV 1 hts gX7_sale_X5_fillShelf rfl rfl rfl (by decide +kernel) ⟨Nat.le_of_ble_eq_true rfl, Nat.le_of_ble_eq_true rfl⟩) hK hN hP hD hS hA [1, 2, 3, 4] [0, 5, 6, 7] [0, 4, 5, 6, 7, 1, 2, 3] rfl rfl (by decide) rfl (by decide) (by decide) rfl (by decide) (va_recv hK hP (ci := 5) (q0 := 1) rfl rfl) rfl hl.1 rfl (Nat.le_of_ble_eq_true rfl) dX7_sale_23 ⟨Nat.zero_le _, Nat.zero_le _⟩ (fun H locs hP hD hS => ?_)
    refine lv_aload_n hx hb dX7_sale_26 rfl (lv_at hl 0 rfl) ?_
    refine va_get (D := (dC, dI)) (ci := 7) (v := .ref o_acts) (C := RX7) (T := TX7) (N := 9) hx hb hts hiX7 hown hK hP 0 rfl rfl 3 (by decide) (hts (.fieldLink RX7 29 "GreenJars" "acts" "LGreenJars$Acts;") (by decide +kernel)) (fun _ h9 => h9) rfl dX7_sale_27 ?_
    obtain ⟨y8, hc9, hf⟩ := g_b1 hf
    refine g_wVv (As := []) (rest := []) (wr := [(o, .inr (7, [.ref o_text, .ref o_now, .ref o_trial, .ref o_acts, .ref o_slots, .ref o_tastes, .ref o_ways, .ref o_fraction, .long v_seedNow])), (o_text, .inr (5, [.ref o_text_bytes, .int v_text_length])), (o_text_bytes, .inl (cI, 48, .inl f_text_bytes)), (o_now, .inr (2, [.ref o_now_cells, .ref o_now_standing, .int y4, .int y5])), (o_now_cells, .inl (cI, 48, .inl y6)), (o_slots, .inr (3, [.ref o_slots_rows, .ref o_slots_filled])), (o_slots_filled, .inl (cZ, 2, .inl f_slots_filled))]) (wn := (w_X7_sale cI cZ cG o o_text o_now o_trial o_acts o_slots o_tastes o_ways o_fraction o_text_bytes o_now_cells o_now_standing o_acts_before o_slots_rows o_slots_filled v_seedNow v_text_length f_text_bytes y4 y5 y6 y8 v_acts_next f_slots_filled)) ⟨hx, hb, hml, hown, hts⟩ (c_X0_forget l dC dI cI cZ cG o_acts o_acts_before H.size  v_acts_count v_acts_next hc9) (cwV 0 hts gX7_sale_X0_forget rfl rfl rfl (by decide +kernel) ⟨Nat.le_of_ble_eq_true rfl, Nat.le_of_ble_eq_true rfl⟩) hK hN hP hD hS hA [5] [0, 1, 2, 3, 4, 6, 7] [0, 1, 2, 3, 4, 7, 5, 6] rfl rfl (by decide) rfl (by decide) (by decide) rfl (by decide) (va_recv hK hP (ci := 0) (q0 := 5) rfl rfl) rfl hl.1 rfl (Nat.le_of_ble_eq_true rfl) dX7_sale_30 ⟨Nat.zero_le _, Nat.zero_le _⟩ (fun H locs hP hD hS => ?_)
    refine lv_aload_n hx hb dX7_sale_33 rfl (lv_at hl 0 rfl) ?_
    refine va_get (D := (dC, dI)) (ci := 7) (v := .ref o_slots) (C := RX7) (T := TX7) (N := 9) hx hb hts hiX7 hown hK hP 0 rfl rfl 4 (by decide) (hts (.fieldLink RX7 36 "GreenJars" "slots" "LGreenJars$Slots;") (by decide +kernel)) (fun _ h9 => h9) rfl dX7_sale_34 ?_
    obtain ⟨y10, hc11, hf⟩ := g_b1 hf
    refine g_wVv (As := []) (rest := []) (wr := [(o, .inr (7, [.ref o_text, .ref o_now, .ref o_trial, .ref o_acts, .ref o_slots, .ref o_tastes, .ref o_ways, .ref o_fraction, .long v_seedNow])), (o_text, .inr (5, [.ref o_text_bytes, .int v_text_length])), (o_text_bytes, .inl (cI, 48, .inl f_text_bytes)), (o_now, .inr (2, [.ref o_now_cells, .ref o_now_standing, .int y4, .int y5])), (o_now_cells, .inl (cI, 48, .inl y6)), (o_acts, .inr (0, [.ref o_acts_before, .int y8, .int v_acts_next]))]) (wn := (w_X7_sale cI cZ cG o o_text o_now o_trial o_acts o_slots o_tastes o_ways o_fraction o_text_bytes o_now_cells o_now_standing o_acts_before o_slots_rows o_slots_filled v_seedNow v_text_length f_text_bytes y4 y5 y6 y8 v_acts_next y10)) ⟨hx, hb, hml, hown, hts⟩ (c_X3_forget l dC dI cI cZ cG o_slots o_slots_rows o_slots_filled H.size  f_slots_filled hc11) (cwV 0 hts gX7_sale_X3_forget rfl rfl rfl (by decide +kernel) ⟨Nat.le_of_ble_eq_true rfl, Nat.le_of_ble_eq_true rfl⟩) hK hN hP hD hS hA [6, 7] [0, 1, 2, 3, 4, 5] [0, 1, 2, 3, 4, 5, 6, 7] rfl rfl (by decide) rfl (by decide) (by decide) rfl (by decide) (va_recv hK hP (ci := 3) (q0 := 6) rfl rfl) rfl hl.1 rfl (Nat.le_of_ble_eq_true rfl) dX7_sale_37 ⟨Nat.zero_le _, Nat.zero_le _⟩ (fun H locs hP hD hS => ?_)
    refine lv_aload_n hx hb dX7_sale_40 rfl (lv_at hl 0 rfl) ?_
    refine va_get (D := (dC, dI)) (ci := 7) (v := .ref o_now) (C := RX7) (T := TX7) (N := 9) hx hb hts hiX7 hown hK hP 0 rfl rfl 1 (by decide) (hts (.fieldLink RX7 19 "GreenJars" "now" "LGreenJars$Shelf;") (by decide +kernel)) (fun _ h9 => h9) rfl dX7_sale_41 ?_
    obtain ⟨r12, hc13, hf⟩ := g_b1 hf
    refine g_rV (As := []) (rest := []) ⟨hx, hb, hml, hown, hts⟩ (c_X2_jars l dC dI cI cZ cG o_now o_now_cells o_now_standing  y4 y5 hc13) (cwV 0 hts gX7_sale_X2_jars rfl rfl rfl (by decide +kernel) ⟨Nat.le_of_ble_eq_true rfl, Nat.le_of_ble_eq_true rfl⟩) hK hN (hP.sub [3] rfl) (va_recv hK hP (ci := 2) (q0 := 3) rfl rfl) rfl hl.1 rfl (Nat.le_of_ble_eq_true rfl) dX7_sale_44 ⟨Nat.zero_le _, Nat.zero_le _⟩ ?_
    rw [hQ]
    cases hf
    exact W.iret hx hb hr (fun t ht hW => ⟨⟨_, (), rfl, rfl, by rw [ht]; exact hP, va_K.moved hW.alike hK, hD⟩, hS.F ht⟩) hS.2.2 dX7_sale_47
  · have hf := g_neg c3 hf
    refine lv_bipush (v := (-3 : Int32)) hx hb dX7_sale_12 (by decide +kernel) ?_
    rw [hQ]
    cases hf
    exact W.iret hx hb hr (fun t ht hW => ⟨⟨_, (), rfl, rfl, by rw [ht]; exact hP, va_K.moved hW.alike hK, hD⟩, hS.F ht⟩) hS.2.2 dX7_sale_14
abbrev rm_X7_about : Room := { frames := 4, cells := 0, slots := 0, locals := 92 }
abbrev w_X7_about (cI cZ cG : ClassId) (o : Nat) (o_text : Nat) (o_now : Nat) (o_trial : Nat) (o_acts : Nat) (o_slots : Nat) (o_tastes : Nat) (o_ways : Nat) (o_fraction : Nat) (o_text_bytes : Nat) (o_now_cells : Nat) (o_now_standing : Nat) (o_acts_before : Nat) (o_tastes_went : Nat) (o_tastes_came : Nat) (v_seedNow : Int64) (v_text_length : Int32) (v_now_jars : Int32) (v_now_weeks : Int32) (f_now_cells : Nat → Int32) (f_now_standing : Nat → Int32) (v_acts_count : Int32) (v_acts_next : Int32) (v_tastes_count : Int32) : va_W := [(o, .inr (7, [.ref o_text, .ref o_now, .ref o_trial, .ref o_acts, .ref o_slots, .ref o_tastes, .ref o_ways, .ref o_fraction, .long v_seedNow])), (o_text, .inr (5, [.ref o_text_bytes, .int v_text_length])), (o_now, .inr (2, [.ref o_now_cells, .ref o_now_standing, .int v_now_jars, .int v_now_weeks])), (o_now_cells, .inl (cI, 48, .inl f_now_cells)), (o_now_standing, .inl (cI, 8, .inl f_now_standing)), (o_acts, .inr (0, [.ref o_acts_before, .int v_acts_count, .int v_acts_next])), (o_tastes, .inr (4, [.ref o_tastes_went, .ref o_tastes_came, .int v_tastes_count]))]
set_option maxHeartbeats 4000000 in
set_option maxRecDepth 100000 in
theorem c_X7_about (l : Launch) (dC : Nat → ClassId) (dI : Nat → Nat → Nat) (cI cZ cG : ClassId) {N : Nat} (o : Nat) (o_text : Nat) (o_now : Nat) (o_trial : Nat) (o_acts : Nat) (o_slots : Nat) (o_tastes : Nat) (o_ways : Nat) (o_fraction : Nat) (o_text_bytes : Nat) (o_now_cells : Nat) (o_now_standing : Nat) (o_acts_before : Nat) (o_tastes_went : Nat) (o_tastes_came : Nat) (sz : Nat) (v_seedNow : Int64) (v_text_length : Int32) (v_now_jars : Int32) (v_now_weeks : Int32) (f_now_cells : Nat → Int32) (f_now_standing : Nat → Int32) (v_acts_count : Int32) (v_acts_next : Int32) (v_tastes_count : Int32) (a1 : Int32) {r0 : Int32} {n_now_standing : Nat → Int32} (hf : x7_about N v_text_length v_now_jars v_now_weeks f_now_cells f_now_standing v_acts_count v_tastes_count a1 = some (r0, n_now_standing)) : Met l yX7_about wsX7_about rm_X7_about (va_Pc [.ref o, .int a1] (gW (dC, dI) vwCl (gT cI cZ cG) (w_X7_about cI cZ cG o o_text o_now o_trial o_acts o_slots o_tastes o_ways o_fraction o_text_bytes o_now_cells o_now_standing o_acts_before o_tastes_went o_tastes_came v_seedNow v_text_length v_now_jars v_now_weeks f_now_cells f_now_standing v_acts_count v_acts_next v_tastes_count) sz)) (va_Qi (fun r _ => r = r0) (gE (dC, dI) vwCl (gT cI cZ cG) (w_X7_about cI cZ cG o o_text o_now o_trial o_acts o_slots o_tastes o_ways o_fraction o_text_bytes o_now_cells o_now_standing o_acts_before o_tastes_went o_tastes_came v_seedNow v_text_length v_now_jars v_now_weeks f_now_cells n_now_standing v_acts_count v_acts_next v_tastes_count) (va_A (w_X7_about cI cZ cG o o_text o_now o_trial o_acts o_slots o_tastes o_ways o_fraction o_text_bytes o_now_cells o_now_standing o_acts_before o_tastes_went o_tastes_came v_seedNow v_text_length v_now_jars v_now_weeks f_now_cells f_now_standing v_acts_count v_acts_next v_tastes_count) sz)) (va_A (w_X7_about cI cZ cG o o_text o_now o_trial o_acts o_slots o_tastes o_ways o_fraction o_text_bytes o_now_cells o_now_standing o_acts_before o_tastes_went o_tastes_came v_seedNow v_text_length v_now_jars v_now_weeks f_now_cells f_now_standing v_acts_count v_acts_next v_tastes_count) sz)) 0 0 (va_A (w_X7_about cI cZ cG o o_text o_now o_trial o_acts o_slots o_tastes o_ways o_fraction o_text_bytes o_now_cells o_now_standing o_acts_before o_tastes_went o_tastes_came v_seedNow v_text_length v_now_jars v_now_weeks f_now_cells f_now_standing v_acts_count v_acts_next v_tastes_count) sz) := by
  refine Met.ofW (cc := cX7_about) (maxL := 2) (ret := (some .int)) (by decide) rfl ?_
  intro p e s m args below meth c s₁ B hml hv
  obtain ⟨rfl, hv⟩ := hv
  obtain ⟨hsz, hP, hK, hN, hD0⟩ := hv
  have hx := B.exec
  have hb := B.bytes
  have hr := B.returns
  have hts := atoms_spec (ws := wsX7_about) B.pre
  have hown : s.vm.findClass RX7 = some m.cls := findClass_of_methodNamed B.named
  have hlocks := B.notSynchronized
  have hiX0 : ∀ w ∈ u_ws RX0 TX0 3, w ∈ wsX7_about := fun w h => List.mem_cons_of_mem _ (List.mem_append_left _ (List.mem_append_left _ (List.mem_append_right _ h)))
  have hiX2 : ∀ w ∈ u_ws RX2 TX2 4, w ∈ wsX7_about := fun w h => List.mem_cons_of_mem _ (List.mem_append_left _ (List.mem_append_left _ (List.mem_append_left _ (List.mem_append_right _ h))))
  have hiX4 : ∀ w ∈ u_ws RX4 TX4 3, w ∈ wsX7_about := fun w h => List.mem_cons_of_mem _ (List.mem_append_left _ (List.mem_append_right _ h))
  have hiX5 : ∀ w ∈ u_ws RX5 TX5 2, w ∈ wsX7_about := fun w h => List.mem_cons_of_mem _ (List.mem_append_right _ h)
  have hiX7 : ∀ w ∈ u_ws RX7 TX7 9, w ∈ wsX7_about := fun w h => List.mem_cons_of_mem _ (List.mem_append_left _ (List.mem_append_left _ (List.mem_append_left _ (List.mem_append_left _ (List.mem_append_right _ h)))))
  subst hsz
  have hD := hD0.self (sz := s.heap.size)
  generalize hAe : va_A (w_X7_about cI cZ cG o o_text o_now o_trial o_acts o_slots o_tastes o_ways o_fraction o_text_bytes o_now_cells o_now_standing o_acts_before o_tastes_went o_tastes_came v_seedNow v_text_length v_now_jars v_now_weeks f_now_cells f_now_standing v_acts_count v_acts_next v_tastes_count) s.heap.size = A at hD ⊢
  have hA : ∀ q : Nat, s.heap.size ≤ q → A q := fun q h => by rw [← hAe]; exact Or.inr h
  clear hD0
  have hS : va_S A s.heap s.heap [] := va_S.rf
  have hP : va_P (dC, dI) vwCl (w_X7_about cI cZ cG o o_text o_now o_trial o_acts o_slots o_tastes o_ways o_fraction o_text_bytes o_now_cells o_now_standing o_acts_before o_tastes_went o_tastes_came v_seedNow v_text_length v_now_jars v_now_weeks f_now_cells f_now_standing v_acts_count v_acts_next v_tastes_count) s.heap := hP
  obtain ⟨Q, hQ⟩ : ∃ Q : State → Prop, Q = MQ below (va_Qi (fun r _ => r = r0) (gE (dC, dI) vwCl (gT cI cZ cG) (w_X7_about cI cZ cG o o_text o_now o_trial o_acts o_slots o_tastes o_ways o_fraction o_text_bytes o_now_cells o_now_standing o_acts_before o_tastes_went o_tastes_came v_seedNow v_text_length v_now_jars v_now_weeks f_now_cells n_now_standing v_acts_count v_acts_next v_tastes_count) A) A) (([Value.ref o, Value.int a1] : List Value).toArray) s 0 0 A := ⟨_, rfl⟩
  have hl := lv_entry ([.ref o, .int a1]) (n := 2) (Nat.le_of_ble_eq_true rfl)
  rw [← hQ, lg_entry_eq]
  generalize (lg_sl ([.ref o, .int a1]) ++ List.replicate (2 - (lg_sl ([.ref o, .int a1])).length) Slot.unset).toArray = ls at hl ⊢
  have hl : lv_has ls 2 [(0, .ref o), (1, .int a1)] := hl
  generalize hH : s.heap = H at hP hS ⊢
  have hS : va_S A s.heap H [] := by rw [hH]; exact hS
  generalize hlc : ([] : List Loc) = locs at hS ⊢
  show W p l e rm_X7_about s m (([Value.ref o, Value.int a1] : List Value).toArray) below meth c H locs 0 0 Q (F0 m 0 ls [])
  unfold x7_about at hf
  refine lv_iload_n hx hb dX7_about_0 rfl (lv_at hl 1 rfl) ?_
  by_cases c1 : a1 = (0 : Int32)
  · have hf := g_pos c1 hf
    refine lv_tableIn (tgt := 56) hx hb dX7_about_1 (by rw [c1]; decide) (by rw [c1]; decide) (by rw [c1]; rfl) (by decide) ?_
    refine lv_aload_n hx hb dX7_about_56 rfl (lv_at hl 0 rfl) ?_
    refine va_get (D := (dC, dI)) (ci := 7) (v := .ref o_now) (C := RX7) (T := TX7) (N := 9) hx hb hts hiX7 hown hK hP 0 rfl rfl 1 (by decide) (hts (.fieldLink RX7 19 "GreenJars" "now" "LGreenJars$Shelf;") (by decide +kernel)) (fun _ h9 => h9) rfl dX7_about_57 ?_
    obtain ⟨r2, hc3, hf⟩ := g_b1 hf
    refine g_rV (As := []) (rest := []) ⟨hx, hb, hml, hown, hts⟩ (c_X2_jars l dC dI cI cZ cG o_now o_now_cells o_now_standing  v_now_jars v_now_weeks hc3) (cwV 0 hts gX7_about_X2_jars rfl rfl rfl (by decide +kernel) ⟨Nat.le_of_ble_eq_true rfl, Nat.le_of_ble_eq_true rfl⟩) hK hN (hP.sub [2] rfl) (va_recv hK hP (ci := 2) (q0 := 2) rfl rfl) rfl hl.1 rfl (Nat.le_of_ble_eq_true rfl) dX7_about_60 ⟨Nat.zero_le _, Nat.zero_le _⟩ ?_
    rw [hQ]
    cases hf
    exact W.iret hx hb hr (fun t ht hW => ⟨⟨_, (), rfl, rfl, by rw [ht]; exact hP, va_K.moved hW.alike hK, hD⟩, hS.F ht⟩) hS.2.2 dX7_about_63
  have hf := g_neg c1 hf
  by_cases c4 : a1 = (1 : Int32)
  · have hf := g_pos c4 hf
    refine lv_tableIn (tgt := 64) hx hb dX7_about_1 (by rw [c4]; decide) (by rw [c4]; decide) (by rw [c4]; rfl) (by decide) ?_
    refine lv_aload_n hx hb dX7_about_64 rfl (lv_at hl 0 rfl) ?_
    refine va_get (D := (dC, dI)) (ci := 7) (v := .ref o_now) (C := RX7) (T := TX7) (N := 9) hx hb hts hiX7 hown hK hP 0 rfl rfl 1 (by decide) (hts (.fieldLink RX7 19 "GreenJars" "now" "LGreenJars$Shelf;") (by decide +kernel)) (fun _ h9 => h9) rfl dX7_about_65 ?_
    obtain ⟨r5, hc6, hf⟩ := g_b1 hf
    refine g_rV (As := []) (rest := []) ⟨hx, hb, hml, hown, hts⟩ (c_X2_weeks l dC dI cI cZ cG o_now o_now_cells o_now_standing  v_now_jars v_now_weeks hc6) (cwV 0 hts gX7_about_X2_weeks rfl rfl rfl (by decide +kernel) ⟨Nat.le_of_ble_eq_true rfl, Nat.le_of_ble_eq_true rfl⟩) hK hN (hP.sub [2] rfl) (va_recv hK hP (ci := 2) (q0 := 2) rfl rfl) rfl hl.1 rfl (Nat.le_of_ble_eq_true rfl) dX7_about_68 ⟨Nat.zero_le _, Nat.zero_le _⟩ ?_
    rw [hQ]
    cases hf
    exact W.iret hx hb hr (fun t ht hW => ⟨⟨_, (), rfl, rfl, by rw [ht]; exact hP, va_K.moved hW.alike hK, hD⟩, hS.F ht⟩) hS.2.2 dX7_about_71
  have hf := g_neg c4 hf
  by_cases c7 : a1 = (2 : Int32)
  · have hf := g_pos c7 hf
    refine lv_tableIn (tgt := 72) hx hb dX7_about_1 (by rw [c7]; decide) (by rw [c7]; decide) (by rw [c7]; rfl) (by decide) ?_
    refine lv_aload_n hx hb dX7_about_72 rfl (lv_at hl 0 rfl) ?_
    refine va_get (D := (dC, dI)) (ci := 7) (v := .ref o_now) (C := RX7) (T := TX7) (N := 9) hx hb hts hiX7 hown hK hP 0 rfl rfl 1 (by decide) (hts (.fieldLink RX7 19 "GreenJars" "now" "LGreenJars$Shelf;") (by decide +kernel)) (fun _ h9 => h9) rfl dX7_about_73 ?_
    refine lv_iconst (v := (0 : Int32)) hx hb dX7_about_76 (by decide) ?_
    obtain ⟨r8, hc9, hf⟩ := g_b1 hf
    refine g_rV (As := [.int (0 : Int32)]) (rest := []) ⟨hx, hb, hml, hown, hts⟩ (c_X2_bitsOf l dC dI cI cZ cG o_now o_now_cells o_now_standing  v_now_jars v_now_weeks f_now_cells (0 : Int32) hc9) (cwV 1 hts gX7_about_X2_bitsOf rfl rfl rfl (by decide +kernel) ⟨Nat.le_of_ble_eq_true rfl, Nat.le_of_ble_eq_true rfl⟩) hK hN (hP.sub [2, 3] rfl) (va_recv hK hP (ci := 2) (q0 := 2) rfl rfl) rfl hl.1 rfl (Nat.le_of_ble_eq_true rfl) dX7_about_77 ⟨Nat.zero_le _, Nat.zero_le _⟩ ?_
    rw [hQ]
    cases hf
    exact W.iret hx hb hr (fun t ht hW => ⟨⟨_, (), rfl, rfl, by rw [ht]; exact hP, va_K.moved hW.alike hK, hD⟩, hS.F ht⟩) hS.2.2 dX7_about_80
  have hf := g_neg c7 hf
  by_cases c10 : a1 = (3 : Int32)
  · have hf := g_pos c10 hf
    refine lv_tableIn (tgt := 81) hx hb dX7_about_1 (by rw [c10]; decide) (by rw [c10]; decide) (by rw [c10]; rfl) (by decide) ?_
    refine lv_aload_n hx hb dX7_about_81 rfl (lv_at hl 0 rfl) ?_
    refine va_get (D := (dC, dI)) (ci := 7) (v := .ref o_now) (C := RX7) (T := TX7) (N := 9) hx hb hts hiX7 hown hK hP 0 rfl rfl 1 (by decide) (hts (.fieldLink RX7 19 "GreenJars" "now" "LGreenJars$Shelf;") (by decide +kernel)) (fun _ h9 => h9) rfl dX7_about_82 ?_
    refine lv_iconst (v := (1 : Int32)) hx hb dX7_about_85 (by decide) ?_
    obtain ⟨r11, hc12, hf⟩ := g_b1 hf
    refine g_rV (As := [.int (1 : Int32)]) (rest := []) ⟨hx, hb, hml, hown, hts⟩ (c_X2_bitsOf l dC dI cI cZ cG o_now o_now_cells o_now_standing  v_now_jars v_now_weeks f_now_cells (1 : Int32) hc12) (cwV 1 hts gX7_about_X2_bitsOf rfl rfl rfl (by decide +kernel) ⟨Nat.le_of_ble_eq_true rfl, Nat.le_of_ble_eq_true rfl⟩) hK hN (hP.sub [2, 3] rfl) (va_recv hK hP (ci := 2) (q0 := 2) rfl rfl) rfl hl.1 rfl (Nat.le_of_ble_eq_true rfl) dX7_about_86 ⟨Nat.zero_le _, Nat.zero_le _⟩ ?_
    rw [hQ]
    cases hf
    exact W.iret hx hb hr (fun t ht hW => ⟨⟨_, (), rfl, rfl, by rw [ht]; exact hP, va_K.moved hW.alike hK, hD⟩, hS.F ht⟩) hS.2.2 dX7_about_89
  have hf := g_neg c10 hf
  by_cases c13 : a1 = (4 : Int32)
  · have hf := g_pos c13 hf
    refine lv_tableIn (tgt := 90) hx hb dX7_about_1 (by rw [c13]; decide) (by rw [c13]; decide) (by rw [c13]; rfl) (by decide) ?_
    refine lv_aload_n hx hb dX7_about_90 rfl (lv_at hl 0 rfl) ?_
    refine va_get (D := (dC, dI)) (ci := 7) (v := .ref o_now) (C := RX7) (T := TX7) (N := 9) hx hb hts hiX7 hown hK hP 0 rfl rfl 1 (by decide) (hts (.fieldLink RX7 19 "GreenJars" "now" "LGreenJars$Shelf;") (by decide +kernel)) (fun _ h9 => h9) rfl dX7_about_91 ?_
    refine lv_iconst (v := (2 : Int32)) hx hb dX7_about_94 (by decide) ?_
    obtain ⟨r14, hc15, hf⟩ := g_b1 hf
    refine g_rV (As := [.int (2 : Int32)]) (rest := []) ⟨hx, hb, hml, hown, hts⟩ (c_X2_bitsOf l dC dI cI cZ cG o_now o_now_cells o_now_standing  v_now_jars v_now_weeks f_now_cells (2 : Int32) hc15) (cwV 1 hts gX7_about_X2_bitsOf rfl rfl rfl (by decide +kernel) ⟨Nat.le_of_ble_eq_true rfl, Nat.le_of_ble_eq_true rfl⟩) hK hN (hP.sub [2, 3] rfl) (va_recv hK hP (ci := 2) (q0 := 2) rfl rfl) rfl hl.1 rfl (Nat.le_of_ble_eq_true rfl) dX7_about_95 ⟨Nat.zero_le _, Nat.zero_le _⟩ ?_
    rw [hQ]
    cases hf
    exact W.iret hx hb hr (fun t ht hW => ⟨⟨_, (), rfl, rfl, by rw [ht]; exact hP, va_K.moved hW.alike hK, hD⟩, hS.F ht⟩) hS.2.2 dX7_about_98
  have hf := g_neg c13 hf
  by_cases c16 : a1 = (5 : Int32)
  · have hf := g_pos c16 hf
    refine lv_tableIn (tgt := 99) hx hb dX7_about_1 (by rw [c16]; decide) (by rw [c16]; decide) (by rw [c16]; rfl) (by decide) ?_
    refine lv_aload_n hx hb dX7_about_99 rfl (lv_at hl 0 rfl) ?_
    refine va_get (D := (dC, dI)) (ci := 7) (v := .ref o_now) (C := RX7) (T := TX7) (N := 9) hx hb hts hiX7 hown hK hP 0 rfl rfl 1 (by decide) (hts (.fieldLink RX7 19 "GreenJars" "now" "LGreenJars$Shelf;") (by decide +kernel)) (fun _ h9 => h9) rfl dX7_about_100 ?_
    obtain ⟨r17, hc18, hf⟩ := g_b1 hf
    refine g_rV (As := []) (rest := []) ⟨hx, hb, hml, hown, hts⟩ (c_X2_placesTaken l dC dI cI cZ cG o_now o_now_cells o_now_standing  v_now_jars v_now_weeks f_now_cells hc18) (cwV 0 hts gX7_about_X2_placesTaken rfl rfl rfl (by decide +kernel) ⟨Nat.le_of_ble_eq_true rfl, Nat.le_of_ble_eq_true rfl⟩) hK hN (hP.sub [2, 3] rfl) (va_recv hK hP (ci := 2) (q0 := 2) rfl rfl) rfl hl.1 rfl (Nat.le_of_ble_eq_true rfl) dX7_about_103 ⟨Nat.zero_le _, Nat.zero_le _⟩ ?_
    rw [hQ]
    cases hf
    exact W.iret hx hb hr (fun t ht hW => ⟨⟨_, (), rfl, rfl, by rw [ht]; exact hP, va_K.moved hW.alike hK, hD⟩, hS.F ht⟩) hS.2.2 dX7_about_106
  have hf := g_neg c16 hf
  by_cases c19 : a1 = (6 : Int32)
  · have hf := g_pos c19 hf
    refine lv_tableIn (tgt := 107) hx hb dX7_about_1 (by rw [c19]; decide) (by rw [c19]; decide) (by rw [c19]; rfl) (by decide) ?_
    refine lv_aload_n hx hb dX7_about_107 rfl (lv_at hl 0 rfl) ?_
    refine va_get (D := (dC, dI)) (ci := 7) (v := .ref o_now) (C := RX7) (T := TX7) (N := 9) hx hb hts hiX7 hown hK hP 0 rfl rfl 1 (by decide) (hts (.fieldLink RX7 19 "GreenJars" "now" "LGreenJars$Shelf;") (by decide +kernel)) (fun _ h9 => h9) rfl dX7_about_108 ?_
    obtain ⟨r20, y21, hc22, hf⟩ := g_b2 hf
    refine g_wV (As := []) (rest := []) (wr := [(o, .inr (7, [.ref o_text, .ref o_now, .ref o_trial, .ref o_acts, .ref o_slots, .ref o_tastes, .ref o_ways, .ref o_fraction, .long v_seedNow])), (o_text, .inr (5, [.ref o_text_bytes, .int v_text_length])), (o_acts, .inr (0, [.ref o_acts_before, .int v_acts_count, .int v_acts_next])), (o_tastes, .inr (4, [.ref o_tastes_went, .ref o_tastes_came, .int v_tastes_count]))]) (wn := (w_X7_about cI cZ cG o o_text o_now o_trial o_acts o_slots o_tastes o_ways o_fraction o_text_bytes o_now_cells o_now_standing o_acts_before o_tastes_went o_tastes_came v_seedNow v_text_length v_now_jars v_now_weeks f_now_cells y21 v_acts_count v_acts_next v_tastes_count)) ⟨hx, hb, hml, hown, hts⟩ (c_X2_pairs l dC dI cI cZ cG o_now o_now_cells o_now_standing H.size  v_now_jars v_now_weeks f_now_cells f_now_standing hc22) (cwV 0 hts gX7_about_X2_pairs rfl rfl rfl (by decide +kernel) ⟨Nat.le_of_ble_eq_true rfl, Nat.le_of_ble_eq_true rfl⟩) hK hN hP hD hS hA [2, 3, 4] [0, 1, 5, 6] [0, 1, 4, 5, 6, 2, 3] rfl rfl (by decide) rfl (by decide) (by decide) rfl (by decide) (va_recv hK hP (ci := 2) (q0 := 2) rfl rfl) rfl hl.1 rfl (Nat.le_of_ble_eq_true rfl) dX7_about_111 ⟨Nat.zero_le _, Nat.zero_le _⟩ (fun H locs hP hD hS => ?_)
    rw [hQ]
    cases hf
    exact W.iret hx hb hr (fun t ht hW => ⟨⟨_, (), rfl, rfl, by rw [ht]; exact hP, va_K.moved hW.alike hK, hD⟩, hS.F ht⟩) hS.2.2 dX7_about_114
  have hf := g_neg c19 hf
  by_cases c23 : a1 = (7 : Int32)
  · have hf := g_pos c23 hf
    refine lv_tableIn (tgt := 115) hx hb dX7_about_1 (by rw [c23]; decide) (by rw [c23]; decide) (by rw [c23]; rfl) (by decide) ?_
    refine lv_aload_n hx hb dX7_about_115 rfl (lv_at hl 0 rfl) ?_
    refine va_get (D := (dC, dI)) (ci := 7) (v := .ref o_acts) (C := RX7) (T := TX7) (N := 9) hx hb hts hiX7 hown hK hP 0 rfl rfl 3 (by decide) (hts (.fieldLink RX7 29 "GreenJars" "acts" "LGreenJars$Acts;") (by decide +kernel)) (fun _ h9 => h9) rfl dX7_about_116 ?_
    obtain ⟨r24, hc25, hf⟩ := g_b1 hf
    refine g_rV (As := []) (rest := []) ⟨hx, hb, hml, hown, hts⟩ (c_X0_count l dC dI cI cZ cG o_acts o_acts_before  v_acts_count v_acts_next hc25) (cwV 0 hts gX7_about_X0_count rfl rfl rfl (by decide +kernel) ⟨Nat.le_of_ble_eq_true rfl, Nat.le_of_ble_eq_true rfl⟩) hK hN (hP.sub [5] rfl) (va_recv hK hP (ci := 0) (q0 := 5) rfl rfl) rfl hl.1 rfl (Nat.le_of_ble_eq_true rfl) dX7_about_119 ⟨Nat.zero_le _, Nat.zero_le _⟩ ?_
    rw [hQ]
    cases hf
    exact W.iret hx hb hr (fun t ht hW => ⟨⟨_, (), rfl, rfl, by rw [ht]; exact hP, va_K.moved hW.alike hK, hD⟩, hS.F ht⟩) hS.2.2 dX7_about_122
  have hf := g_neg c23 hf
  by_cases c26 : a1 = (8 : Int32)
  · have hf := g_pos c26 hf
    refine lv_tableIn (tgt := 123) hx hb dX7_about_1 (by rw [c26]; decide) (by rw [c26]; decide) (by rw [c26]; rfl) (by decide) ?_
    refine lv_aload_n hx hb dX7_about_123 rfl (lv_at hl 0 rfl) ?_
    refine va_get (D := (dC, dI)) (ci := 7) (v := .ref o_tastes) (C := RX7) (T := TX7) (N := 9) hx hb hts hiX7 hown hK hP 0 rfl rfl 5 (by decide) (hts (.fieldLink RX7 43 "GreenJars" "tastes" "LGreenJars$Tastes;") (by decide +kernel)) (fun _ h9 => h9) rfl dX7_about_124 ?_
    obtain ⟨r27, hc28, hf⟩ := g_b1 hf
    refine g_rV (As := []) (rest := []) ⟨hx, hb, hml, hown, hts⟩ (c_X4_count l dC dI cI cZ cG o_tastes o_tastes_went o_tastes_came  v_tastes_count hc28) (cwV 0 hts gX7_about_X4_count rfl rfl rfl (by decide +kernel) ⟨Nat.le_of_ble_eq_true rfl, Nat.le_of_ble_eq_true rfl⟩) hK hN (hP.sub [6] rfl) (va_recv hK hP (ci := 4) (q0 := 6) rfl rfl) rfl hl.1 rfl (Nat.le_of_ble_eq_true rfl) dX7_about_127 ⟨Nat.zero_le _, Nat.zero_le _⟩ ?_
    rw [hQ]
    cases hf
    exact W.iret hx hb hr (fun t ht hW => ⟨⟨_, (), rfl, rfl, by rw [ht]; exact hP, va_K.moved hW.alike hK, hD⟩, hS.F ht⟩) hS.2.2 dX7_about_130
  have hf := g_neg c26 hf
  by_cases c29 : a1 = (9 : Int32)
  · have hf := g_pos c29 hf
    refine lv_tableIn (tgt := 131) hx hb dX7_about_1 (by rw [c29]; decide) (by rw [c29]; decide) (by rw [c29]; rfl) (by decide) ?_
    refine lv_aload_n hx hb dX7_about_131 rfl (lv_at hl 0 rfl) ?_
    refine va_get (D := (dC, dI)) (ci := 7) (v := .ref o_text) (C := RX7) (T := TX7) (N := 9) hx hb hts hiX7 hown hK hP 0 rfl rfl 0 (by decide) (hts (.fieldLink RX7 10 "GreenJars" "text" "LGreenJars$Text;") (by decide +kernel)) (fun _ h9 => h9) rfl dX7_about_132 ?_
    obtain ⟨r30, hc31, hf⟩ := g_b1 hf
    refine g_rV (As := []) (rest := []) ⟨hx, hb, hml, hown, hts⟩ (c_X5_length l dC dI cI cZ cG o_text o_text_bytes  v_text_length hc31) (cwV 0 hts gX7_about_X5_length rfl rfl rfl (by decide +kernel) ⟨Nat.le_of_ble_eq_true rfl, Nat.le_of_ble_eq_true rfl⟩) hK hN (hP.sub [1] rfl) (va_recv hK hP (ci := 5) (q0 := 1) rfl rfl) rfl hl.1 rfl (Nat.le_of_ble_eq_true rfl) dX7_about_135 ⟨Nat.zero_le _, Nat.zero_le _⟩ ?_
    rw [hQ]
    cases hf
    exact W.iret hx hb hr (fun t ht hW => ⟨⟨_, (), rfl, rfl, by rw [ht]; exact hP, va_K.moved hW.alike hK, hD⟩, hS.F ht⟩) hS.2.2 dX7_about_138
  have hf := g_neg c29 hf
  have h32 := lv_neT (a := 0) c1 (by decide)
  have h33 := lv_neT (a := 1) c4 (by decide)
  have h34 := lv_neT (a := 2) c7 (by decide)
  have h35 := lv_neT (a := 3) c10 (by decide)
  have h36 := lv_neT (a := 4) c13 (by decide)
  have h37 := lv_neT (a := 5) c16 (by decide)
  have h38 := lv_neT (a := 6) c19 (by decide)
  have h39 := lv_neT (a := 7) c23 (by decide)
  have h40 := lv_neT (a := 8) c26 (by decide)
  have h41 := lv_neT (a := 9) c29 (by decide)
  refine lv_tableOut (tgt := 139) hx hb dX7_about_1 (by omega) (by decide) ?_
  refine lv_bipush (v := (-2 : Int32)) hx hb dX7_about_139 (by decide +kernel) ?_
  rw [hQ]
  cases hf
  exact W.iret hx hb hr (fun t ht hW => ⟨⟨_, (), rfl, rfl, by rw [ht]; exact hP, va_K.moved hW.alike hK, hD⟩, hS.F ht⟩) hS.2.2 dX7_about_141
abbrev rm_X7_jar : Room := { frames := 3, cells := 0, slots := 0, locals := 71 }
abbrev w_X7_jar (cI cZ cG : ClassId) (o : Nat) (o_text : Nat) (o_now : Nat) (o_trial : Nat) (o_acts : Nat) (o_slots : Nat) (o_tastes : Nat) (o_ways : Nat) (o_fraction : Nat) (o_now_cells : Nat) (o_now_standing : Nat) (v_seedNow : Int64) (v_now_jars : Int32) (v_now_weeks : Int32) (f_now_cells : Nat → Int32) : va_W := [(o, .inr (7, [.ref o_text, .ref o_now, .ref o_trial, .ref o_acts, .ref o_slots, .ref o_tastes, .ref o_ways, .ref o_fraction, .long v_seedNow])), (o_now, .inr (2, [.ref o_now_cells, .ref o_now_standing, .int v_now_jars, .int v_now_weeks])), (o_now_cells, .inl (cI, 48, .inl f_now_cells))]
set_option maxHeartbeats 4000000 in
set_option maxRecDepth 100000 in
theorem c_X7_jar (l : Launch) (dC : Nat → ClassId) (dI : Nat → Nat → Nat) (cI cZ cG : ClassId) {N : Nat} (o : Nat) (o_text : Nat) (o_now : Nat) (o_trial : Nat) (o_acts : Nat) (o_slots : Nat) (o_tastes : Nat) (o_ways : Nat) (o_fraction : Nat) (o_now_cells : Nat) (o_now_standing : Nat) (v_seedNow : Int64) (v_now_jars : Int32) (v_now_weeks : Int32) (f_now_cells : Nat → Int32) (a1 : Int32) (a2 : Int32) {r0 : Int32} (hf : x7_jar N v_now_jars f_now_cells a1 a2 = some r0) : Met l yX7_jar wsX7_jar rm_X7_jar (va_Pc [.ref o, .int a1, .int a2] (gR (dC, dI) vwCl (gT cI cZ cG) (w_X7_jar cI cZ cG o o_text o_now o_trial o_acts o_slots o_tastes o_ways o_fraction o_now_cells o_now_standing v_seedNow v_now_jars v_now_weeks f_now_cells))) (vp_Si (fun r => r = r0)) 0 0 (fun _ => False) := by
  refine Met.ofW (cc := cX7_jar) (maxL := 3) (ret := (some .int)) (by decide) rfl ?_
  intro p e s m args below meth c s₁ B hml hv
  obtain ⟨rfl, hv⟩ := hv
  obtain ⟨hP, hK, hN⟩ := hv
  have hx := B.exec
  have hb := B.bytes
  have hr := B.returns
  have hts := atoms_spec (ws := wsX7_jar) B.pre
  have hown : s.vm.findClass RX7 = some m.cls := findClass_of_methodNamed B.named
  have hlocks := B.notSynchronized
  have hiX2 : ∀ w ∈ u_ws RX2 TX2 4, w ∈ wsX7_jar := fun w h => List.mem_cons_of_mem _ (List.mem_append_right _ h)
  have hiX7 : ∀ w ∈ u_ws RX7 TX7 9, w ∈ wsX7_jar := fun w h => List.mem_cons_of_mem _ (List.mem_append_left _ (List.mem_append_right _ h))
  obtain ⟨Q, hQ⟩ : ∃ Q : State → Prop, Q = MQ below (vp_Si (fun r => r = r0)) (([Value.ref o, Value.int a1, Value.int a2] : List Value).toArray) s 0 0 (fun _ => False) := ⟨_, rfl⟩
  have hl := lv_entry ([.ref o, .int a1, .int a2]) (n := 3) (Nat.le_of_ble_eq_true rfl)
  rw [← hQ, lg_entry_eq]
  generalize (lg_sl ([.ref o, .int a1, .int a2]) ++ List.replicate (3 - (lg_sl ([.ref o, .int a1, .int a2])).length) Slot.unset).toArray = ls at hl ⊢
  have hl : lv_has ls 3 [(0, .ref o), (1, .int a1), (2, .int a2)] := hl
  show W p l e rm_X7_jar s m (([Value.ref o, Value.int a1, Value.int a2] : List Value).toArray) below meth c s.heap [] 0 0 Q (F0 m 0 ls [])
  unfold x7_jar at hf
  refine lv_aload_n hx hb dX7_jar_0 rfl (lv_at hl 0 rfl) ?_
  refine va_get (D := (dC, dI)) (ci := 7) (v := .ref o_now) (C := RX7) (T := TX7) (N := 9) hx hb hts hiX7 hown hK hP 0 rfl rfl 1 (by decide) (hts (.fieldLink RX7 19 "GreenJars" "now" "LGreenJars$Shelf;") (by decide +kernel)) (fun _ h9 => h9) rfl dX7_jar_1 ?_
  refine lv_iload_n hx hb dX7_jar_4 rfl (lv_at hl 1 rfl) ?_
  obtain ⟨r1, hc2, hf⟩ := g_b1 hf
  refine g_rV (As := [.int a1]) (rest := []) ⟨hx, hb, hml, hown, hts⟩ (c_X2_has l dC dI cI cZ cG o_now o_now_cells o_now_standing  v_now_jars v_now_weeks a1 hc2) (cwV 1 hts gX7_jar_X2_has rfl rfl rfl (by decide +kernel) ⟨Nat.le_of_ble_eq_true rfl, Nat.le_of_ble_eq_true rfl⟩) hK hN (hP.sub [1] rfl) (va_recv hK hP (ci := 2) (q0 := 1) rfl rfl) rfl hl.1 rfl (Nat.le_of_ble_eq_true rfl) dX7_jar_5 ⟨Nat.zero_le _, Nat.zero_le _⟩ ?_
  refine lv_if_ne (tgt := 13) hx hb dX7_jar_8 (by decide) (fun c3 => ?_) (fun c3 => ?_)
  · have hf := g_neg c3 hf
    refine lv_iload_n hx hb dX7_jar_13 rfl (lv_at hl 2 rfl) ?_
    refine lv_if_lt (tgt := 23) hx hb dX7_jar_14 (by decide) (fun c4 => ?_) (fun c4 => ?_)
    · have hf := g_pos c4 hf
      refine lv_bipush (v := (-2 : Int32)) hx hb dX7_jar_23 (by decide +kernel) ?_
      rw [hQ]
      exact W.iret (v := (-2 : Int32)) hx hb hr (fun t ht hW => ⟨_, rfl, Option.some.inj hf, ht⟩) (fun q h => by cases h) dX7_jar_25
    · have hf := g_neg c4 hf
      refine lv_iload_n hx hb dX7_jar_17 rfl (lv_at hl 2 rfl) ?_
      refine lv_bipush (v := (8 : Int32)) hx hb dX7_jar_18 (by decide +kernel) ?_
      refine lv_icmp_le (tgt := 26) hx hb dX7_jar_20 (by decide) (fun c5 => ?_) (fun c5 => ?_)
      · have hf := g_pos c5 hf
        refine lv_iload_n hx hb dX7_jar_26 rfl (lv_at hl 2 rfl) ?_
        refine lv_bipush (v := (8 : Int32)) hx hb dX7_jar_27 (by decide +kernel) ?_
        refine lv_icmp_ne (tgt := 43) hx hb dX7_jar_29 (by decide) (fun c6 => ?_) (fun c6 => ?_)
        · have hf := g_neg c6 hf
          refine lv_aload_n hx hb dX7_jar_43 rfl (lv_at hl 0 rfl) ?_
          refine va_get (D := (dC, dI)) (ci := 7) (v := .ref o_now) (C := RX7) (T := TX7) (N := 9) hx hb hts hiX7 hown hK hP 0 rfl rfl 1 (by decide) (hts (.fieldLink RX7 19 "GreenJars" "now" "LGreenJars$Shelf;") (by decide +kernel)) (fun _ h9 => h9) rfl dX7_jar_44 ?_
          refine lv_iload_n hx hb dX7_jar_47 rfl (lv_at hl 1 rfl) ?_
          refine lv_iload_n hx hb dX7_jar_48 rfl (lv_at hl 2 rfl) ?_
          obtain ⟨r7, hc8, hf⟩ := g_b1 hf
          refine g_rV (As := [.int a1, .int a2]) (rest := []) ⟨hx, hb, hml, hown, hts⟩ (c_X2_part l dC dI cI cZ cG o_now o_now_cells o_now_standing  v_now_jars v_now_weeks f_now_cells a1 a2 hc8) (cwV 2 hts gX7_jar_X2_part rfl rfl rfl (by decide +kernel) ⟨Nat.le_of_ble_eq_true rfl, Nat.le_of_ble_eq_true rfl⟩) hK hN (hP.sub [1, 2] rfl) (va_recv hK hP (ci := 2) (q0 := 1) rfl rfl) rfl hl.1 rfl (Nat.le_of_ble_eq_true rfl) dX7_jar_49 ⟨Nat.zero_le _, Nat.zero_le _⟩ ?_
          rw [hQ]
          exact W.iret (v := r7) hx hb hr (fun t ht hW => ⟨_, rfl, Option.some.inj hf, ht⟩) (fun q h => by cases h) dX7_jar_52
        · have hf := g_pos c6 hf
          refine lv_aload_n hx hb dX7_jar_32 rfl (lv_at hl 0 rfl) ?_
          refine va_get (D := (dC, dI)) (ci := 7) (v := .ref o_now) (C := RX7) (T := TX7) (N := 9) hx hb hts hiX7 hown hK hP 0 rfl rfl 1 (by decide) (hts (.fieldLink RX7 19 "GreenJars" "now" "LGreenJars$Shelf;") (by decide +kernel)) (fun _ h9 => h9) rfl dX7_jar_33 ?_
          refine lv_iload_n hx hb dX7_jar_36 rfl (lv_at hl 1 rfl) ?_
          obtain ⟨r9, hc10, hf⟩ := g_b1 hf
          refine g_rV (As := [.int a1]) (rest := []) ⟨hx, hb, hml, hown, hts⟩ (c_X2_seenBy l dC dI cI cZ cG o_now o_now_cells o_now_standing  v_now_jars v_now_weeks f_now_cells a1 hc10) (cwV 1 hts gX7_jar_X2_seenBy rfl rfl rfl (by decide +kernel) ⟨Nat.le_of_ble_eq_true rfl, Nat.le_of_ble_eq_true rfl⟩) hK hN (hP.sub [1, 2] rfl) (va_recv hK hP (ci := 2) (q0 := 1) rfl rfl) rfl hl.1 rfl (Nat.le_of_ble_eq_true rfl) dX7_jar_37 ⟨Nat.zero_le _, Nat.zero_le _⟩ ?_
          refine lv_goto (tgt := 52) hx hb dX7_jar_40 (by decide) ?_
          rw [hQ]
          exact W.iret (v := r9) hx hb hr (fun t ht hW => ⟨_, rfl, Option.some.inj hf, ht⟩) (fun q h => by cases h) dX7_jar_52
      · have hf := g_neg c5 hf
        refine lv_bipush (v := (-2 : Int32)) hx hb dX7_jar_23 (by decide +kernel) ?_
        rw [hQ]
        exact W.iret (v := (-2 : Int32)) hx hb hr (fun t ht hW => ⟨_, rfl, Option.some.inj hf, ht⟩) (fun q h => by cases h) dX7_jar_25
  · have hf := g_pos c3 hf
    refine lv_iconst (v := (-1 : Int32)) hx hb dX7_jar_11 (by decide) ?_
    rw [hQ]
    exact W.iret (v := (-1 : Int32)) hx hb hr (fun t ht hW => ⟨_, rfl, Option.some.inj hf, ht⟩) (fun q h => by cases h) dX7_jar_12
abbrev rm_X7_at : Room := { frames := 2, cells := 0, slots := 0, locals := 44 }
abbrev w_X7_at (cI cZ cG : ClassId) (o : Nat) (o_text : Nat) (o_now : Nat) (o_trial : Nat) (o_acts : Nat) (o_slots : Nat) (o_tastes : Nat) (o_ways : Nat) (o_fraction : Nat) (o_now_cells : Nat) (o_now_standing : Nat) (v_seedNow : Int64) (v_now_jars : Int32) (v_now_weeks : Int32) (f_now_cells : Nat → Int32) : va_W := [(o, .inr (7, [.ref o_text, .ref o_now, .ref o_trial, .ref o_acts, .ref o_slots, .ref o_tastes, .ref o_ways, .ref o_fraction, .long v_seedNow])), (o_now, .inr (2, [.ref o_now_cells, .ref o_now_standing, .int v_now_jars, .int v_now_weeks])), (o_now_cells, .inl (cI, 48, .inl f_now_cells))]
set_option maxHeartbeats 4000000 in
set_option maxRecDepth 100000 in
theorem c_X7_at (l : Launch) (dC : Nat → ClassId) (dI : Nat → Nat → Nat) (cI cZ cG : ClassId) {N : Nat} (o : Nat) (o_text : Nat) (o_now : Nat) (o_trial : Nat) (o_acts : Nat) (o_slots : Nat) (o_tastes : Nat) (o_ways : Nat) (o_fraction : Nat) (o_now_cells : Nat) (o_now_standing : Nat) (v_seedNow : Int64) (v_now_jars : Int32) (v_now_weeks : Int32) (f_now_cells : Nat → Int32) (a1 : Int32) {r0 : Int32} (hf : x7_at N v_now_jars f_now_cells a1 = some r0) : Met l yX7_at wsX7_at rm_X7_at (va_Pc [.ref o, .int a1] (gR (dC, dI) vwCl (gT cI cZ cG) (w_X7_at cI cZ cG o o_text o_now o_trial o_acts o_slots o_tastes o_ways o_fraction o_now_cells o_now_standing v_seedNow v_now_jars v_now_weeks f_now_cells))) (vp_Si (fun r => r = r0)) 0 0 (fun _ => False) := by
  refine Met.ofW (cc := cX7_at) (maxL := 2) (ret := (some .int)) (by decide) rfl ?_
  intro p e s m args below meth c s₁ B hml hv
  obtain ⟨rfl, hv⟩ := hv
  obtain ⟨hP, hK, hN⟩ := hv
  have hx := B.exec
  have hb := B.bytes
  have hr := B.returns
  have hts := atoms_spec (ws := wsX7_at) B.pre
  have hown : s.vm.findClass RX7 = some m.cls := findClass_of_methodNamed B.named
  have hlocks := B.notSynchronized
  have hiX2 : ∀ w ∈ u_ws RX2 TX2 4, w ∈ wsX7_at := fun w h => List.mem_cons_of_mem _ (List.mem_append_right _ h)
  have hiX7 : ∀ w ∈ u_ws RX7 TX7 9, w ∈ wsX7_at := fun w h => List.mem_cons_of_mem _ (List.mem_append_left _ (List.mem_append_right _ h))
  obtain ⟨Q, hQ⟩ : ∃ Q : State → Prop, Q = MQ below (vp_Si (fun r => r = r0)) (([Value.ref o, Value.int a1] : List Value).toArray) s 0 0 (fun _ => False) := ⟨_, rfl⟩
  have hl := lv_entry ([.ref o, .int a1]) (n := 2) (Nat.le_of_ble_eq_true rfl)
  rw [← hQ, lg_entry_eq]
  generalize (lg_sl ([.ref o, .int a1]) ++ List.replicate (2 - (lg_sl ([.ref o, .int a1])).length) Slot.unset).toArray = ls at hl ⊢
  have hl : lv_has ls 2 [(0, .ref o), (1, .int a1)] := hl
  show W p l e rm_X7_at s m (([Value.ref o, Value.int a1] : List Value).toArray) below meth c s.heap [] 0 0 Q (F0 m 0 ls [])
  unfold x7_at at hf
  refine lv_iload_n hx hb dX7_at_0 rfl (lv_at hl 1 rfl) ?_
  obtain ⟨r1, hc2, hf⟩ := g_b1 hf
  refine g_rS (As := [.int a1]) (rest := []) ⟨hx, hb, hml, hown, hts⟩ (c_X7_isPlace l dC dI cI cZ cG    a1 hc2) (va_cwS 1 hts gX7_at_X7_isPlace rfl rfl rfl (by decide +kernel) ⟨Nat.le_of_ble_eq_true rfl, Nat.le_of_ble_eq_true rfl⟩) hK hN (hP.sub [] rfl) rfl hl.1 rfl (Nat.le_of_ble_eq_true rfl) dX7_at_1 ⟨Nat.zero_le _, Nat.zero_le _⟩ ?_
  refine lv_if_eq (tgt := 18) hx hb dX7_at_4 (by decide) (fun c3 => ?_) (fun c3 => ?_)
  · have hf := g_pos c3 hf
    refine lv_iconst (v := (-1 : Int32)) hx hb dX7_at_18 (by decide) ?_
    rw [hQ]
    exact W.iret (v := (-1 : Int32)) hx hb hr (fun t ht hW => ⟨_, rfl, Option.some.inj hf, ht⟩) (fun q h => by cases h) dX7_at_19
  · have hf := g_neg c3 hf
    refine lv_aload_n hx hb dX7_at_7 rfl (lv_at hl 0 rfl) ?_
    refine va_get (D := (dC, dI)) (ci := 7) (v := .ref o_now) (C := RX7) (T := TX7) (N := 9) hx hb hts hiX7 hown hK hP 0 rfl rfl 1 (by decide) (hts (.fieldLink RX7 19 "GreenJars" "now" "LGreenJars$Shelf;") (by decide +kernel)) (fun _ h9 => h9) rfl dX7_at_8 ?_
    refine lv_iload_n hx hb dX7_at_11 rfl (lv_at hl 1 rfl) ?_
    obtain ⟨r4, hc5, hf⟩ := g_b1 hf
    refine g_rV (As := [.int a1]) (rest := []) ⟨hx, hb, hml, hown, hts⟩ (c_X2_jarOn l dC dI cI cZ cG o_now o_now_cells o_now_standing  v_now_jars v_now_weeks f_now_cells a1 hc5) (cwV 1 hts gX7_at_X2_jarOn rfl rfl rfl (by decide +kernel) ⟨Nat.le_of_ble_eq_true rfl, Nat.le_of_ble_eq_true rfl⟩) hK hN (hP.sub [1, 2] rfl) (va_recv hK hP (ci := 2) (q0 := 1) rfl rfl) rfl hl.1 rfl (Nat.le_of_ble_eq_true rfl) dX7_at_12 ⟨Nat.zero_le _, Nat.zero_le _⟩ ?_
    refine lv_goto (tgt := 19) hx hb dX7_at_15 (by decide) ?_
    rw [hQ]
    exact W.iret (v := r4) hx hb hr (fun t ht hW => ⟨_, rfl, Option.some.inj hf, ht⟩) (fun q h => by cases h) dX7_at_19
abbrev rm_X7_week : Room := { frames := 4, cells := 0, slots := 0, locals := 89 }
abbrev w_X7_week (cI cZ cG : ClassId) (o : Nat) (o_text : Nat) (o_now : Nat) (o_trial : Nat) (o_acts : Nat) (o_slots : Nat) (o_tastes : Nat) (o_ways : Nat) (o_fraction : Nat) (o_now_cells : Nat) (o_now_standing : Nat) (o_acts_before : Nat) (o_acts_before_r : Nat → Nat) (v_seedNow : Int64) (v_now_jars : Int32) (v_now_weeks : Int32) (f_now_cells : Nat → Int32) (v_acts_count : Int32) (v_acts_next : Int32) (m_acts_before : Nat → Nat → Int32) : va_W := [(o, .inr (7, [.ref o_text, .ref o_now, .ref o_trial, .ref o_acts, .ref o_slots, .ref o_tastes, .ref o_ways, .ref o_fraction, .long v_seedNow])), (o_now, .inr (2, [.ref o_now_cells, .ref o_now_standing, .int v_now_jars, .int v_now_weeks])), (o_now_cells, .inl (cI, 48, .inl f_now_cells)), (o_acts, .inr (0, [.ref o_acts_before, .int v_acts_count, .int v_acts_next])), (o_acts_before, .inl (cG, 14, .inr (.inr (.inr (.inr (gRf 14 o_acts_before_r)))))), ((o_acts_before_r 0), .inl (cI, 49, .inl (m_acts_before 0))), ((o_acts_before_r 1), .inl (cI, 49, .inl (m_acts_before 1))), ((o_acts_before_r 2), .inl (cI, 49, .inl (m_acts_before 2))), ((o_acts_before_r 3), .inl (cI, 49, .inl (m_acts_before 3))), ((o_acts_before_r 4), .inl (cI, 49, .inl (m_acts_before 4))), ((o_acts_before_r 5), .inl (cI, 49, .inl (m_acts_before 5))), ((o_acts_before_r 6), .inl (cI, 49, .inl (m_acts_before 6))), ((o_acts_before_r 7), .inl (cI, 49, .inl (m_acts_before 7))), ((o_acts_before_r 8), .inl (cI, 49, .inl (m_acts_before 8))), ((o_acts_before_r 9), .inl (cI, 49, .inl (m_acts_before 9))), ((o_acts_before_r 10), .inl (cI, 49, .inl (m_acts_before 10))), ((o_acts_before_r 11), .inl (cI, 49, .inl (m_acts_before 11))), ((o_acts_before_r 12), .inl (cI, 49, .inl (m_acts_before 12))), ((o_acts_before_r 13), .inl (cI, 49, .inl (m_acts_before 13)))]
set_option maxHeartbeats 4000000 in
set_option maxRecDepth 100000 in
theorem c_X7_week (l : Launch) (dC : Nat → ClassId) (dI : Nat → Nat → Nat) (cI cZ cG : ClassId) {N : Nat} (o : Nat) (o_text : Nat) (o_now : Nat) (o_trial : Nat) (o_acts : Nat) (o_slots : Nat) (o_tastes : Nat) (o_ways : Nat) (o_fraction : Nat) (o_now_cells : Nat) (o_now_standing : Nat) (o_acts_before : Nat) (o_acts_before_r : Nat → Nat) (sz : Nat) (v_seedNow : Int64) (v_now_jars : Int32) (v_now_weeks : Int32) (f_now_cells : Nat → Int32) (v_acts_count : Int32) (v_acts_next : Int32) (m_acts_before : Nat → Nat → Int32) {r0 : Int32} {n_now_weeks : Int32} {n_now_cells : Nat → Int32} {n_acts_count : Int32} {n_acts_next : Int32} {n_acts_before : Nat → Nat → Int32} (hf : x7_week N v_now_jars v_now_weeks f_now_cells v_acts_count v_acts_next m_acts_before = some (r0, n_now_weeks, n_now_cells, n_acts_count, n_acts_next, n_acts_before)) : Met l yX7_week wsX7_week rm_X7_week (va_Pc [.ref o] (gW (dC, dI) vwCl (gT cI cZ cG) (w_X7_week cI cZ cG o o_text o_now o_trial o_acts o_slots o_tastes o_ways o_fraction o_now_cells o_now_standing o_acts_before o_acts_before_r v_seedNow v_now_jars v_now_weeks f_now_cells v_acts_count v_acts_next m_acts_before) sz)) (va_Qi (fun r _ => r = r0) (gE (dC, dI) vwCl (gT cI cZ cG) (w_X7_week cI cZ cG o o_text o_now o_trial o_acts o_slots o_tastes o_ways o_fraction o_now_cells o_now_standing o_acts_before o_acts_before_r v_seedNow v_now_jars n_now_weeks n_now_cells n_acts_count n_acts_next n_acts_before) (va_A (w_X7_week cI cZ cG o o_text o_now o_trial o_acts o_slots o_tastes o_ways o_fraction o_now_cells o_now_standing o_acts_before o_acts_before_r v_seedNow v_now_jars v_now_weeks f_now_cells v_acts_count v_acts_next m_acts_before) sz)) (va_A (w_X7_week cI cZ cG o o_text o_now o_trial o_acts o_slots o_tastes o_ways o_fraction o_now_cells o_now_standing o_acts_before o_acts_before_r v_seedNow v_now_jars v_now_weeks f_now_cells v_acts_count v_acts_next m_acts_before) sz)) 0 0 (va_A (w_X7_week cI cZ cG o o_text o_now o_trial o_acts o_slots o_tastes o_ways o_fraction o_now_cells o_now_standing o_acts_before o_acts_before_r v_seedNow v_now_jars v_now_weeks f_now_cells v_acts_count v_acts_next m_acts_before) sz) := by
  refine Met.ofW (cc := cX7_week) (maxL := 1) (ret := (some .int)) (by decide) rfl ?_
  intro p e s m args below meth c s₁ B hml hv
  obtain ⟨rfl, hv⟩ := hv
  obtain ⟨hsz, hP, hK, hN, hD0⟩ := hv
  have hx := B.exec
  have hb := B.bytes
  have hr := B.returns
  have hts := atoms_spec (ws := wsX7_week) B.pre
  have hown : s.vm.findClass RX7 = some m.cls := findClass_of_methodNamed B.named
  have hlocks := B.notSynchronized
  have hiX0 : ∀ w ∈ u_ws RX0 TX0 3, w ∈ wsX7_week := fun w h => List.mem_cons_of_mem _ (List.mem_append_left _ (List.mem_append_right _ h))
  have hiX2 : ∀ w ∈ u_ws RX2 TX2 4, w ∈ wsX7_week := fun w h => List.mem_cons_of_mem _ (List.mem_append_right _ h)
  have hiX7 : ∀ w ∈ u_ws RX7 TX7 9, w ∈ wsX7_week := fun w h => List.mem_cons_of_mem _ (List.mem_append_left _ (List.mem_append_left _ (List.mem_append_right _ h)))
  subst hsz
  have hD := hD0.self (sz := s.heap.size)
  generalize hAe : va_A (w_X7_week cI cZ cG o o_text o_now o_trial o_acts o_slots o_tastes o_ways o_fraction o_now_cells o_now_standing o_acts_before o_acts_before_r v_seedNow v_now_jars v_now_weeks f_now_cells v_acts_count v_acts_next m_acts_before) s.heap.size = A at hD ⊢
  have hA : ∀ q : Nat, s.heap.size ≤ q → A q := fun q h => by rw [← hAe]; exact Or.inr h
  clear hD0
  have hS : va_S A s.heap s.heap [] := va_S.rf
  have hP : va_P (dC, dI) vwCl (w_X7_week cI cZ cG o o_text o_now o_trial o_acts o_slots o_tastes o_ways o_fraction o_now_cells o_now_standing o_acts_before o_acts_before_r v_seedNow v_now_jars v_now_weeks f_now_cells v_acts_count v_acts_next m_acts_before) s.heap := hP
  obtain ⟨Q, hQ⟩ : ∃ Q : State → Prop, Q = MQ below (va_Qi (fun r _ => r = r0) (gE (dC, dI) vwCl (gT cI cZ cG) (w_X7_week cI cZ cG o o_text o_now o_trial o_acts o_slots o_tastes o_ways o_fraction o_now_cells o_now_standing o_acts_before o_acts_before_r v_seedNow v_now_jars n_now_weeks n_now_cells n_acts_count n_acts_next n_acts_before) A) A) (([Value.ref o] : List Value).toArray) s 0 0 A := ⟨_, rfl⟩
  have hl := lv_entry ([.ref o]) (n := 1) (Nat.le_of_ble_eq_true rfl)
  rw [← hQ, lg_entry_eq]
  generalize (lg_sl ([.ref o]) ++ List.replicate (1 - (lg_sl ([.ref o])).length) Slot.unset).toArray = ls at hl ⊢
  have hl : lv_has ls 1 [(0, .ref o)] := hl
  generalize hH : s.heap = H at hP hS ⊢
  have hS : va_S A s.heap H [] := by rw [hH]; exact hS
  generalize hlc : ([] : List Loc) = locs at hS ⊢
  show W p l e rm_X7_week s m (([Value.ref o] : List Value).toArray) below meth c H locs 0 0 Q (F0 m 0 ls [])
  unfold x7_week at hf
  refine lv_aload_n hx hb dX7_week_0 rfl (lv_at hl 0 rfl) ?_
  refine va_get (D := (dC, dI)) (ci := 7) (v := .ref o_acts) (C := RX7) (T := TX7) (N := 9) hx hb hts hiX7 hown hK hP 0 rfl rfl 3 (by decide) (hts (.fieldLink RX7 29 "GreenJars" "acts" "LGreenJars$Acts;") (by decide +kernel)) (fun _ h9 => h9) rfl dX7_week_1 ?_
  refine lv_aload_n hx hb dX7_week_4 rfl (lv_at hl 0 rfl) ?_
  refine va_get (D := (dC, dI)) (ci := 7) (v := .ref o_now) (C := RX7) (T := TX7) (N := 9) hx hb hts hiX7 hown hK hP 0 rfl rfl 1 (by decide) (hts (.fieldLink RX7 19 "GreenJars" "now" "LGreenJars$Shelf;") (by decide +kernel)) (fun _ h9 => h9) rfl dX7_week_5 ?_
  obtain ⟨y1, y2, y3, hc4, hf⟩ := g_b3 hf
  refine g_wVv (As := [.ref o_now]) (rest := []) (wr := [(o, .inr (7, [.ref o_text, .ref o_now, .ref o_trial, .ref o_acts, .ref o_slots, .ref o_tastes, .ref o_ways, .ref o_fraction, .long v_seedNow]))]) (wn := (w_X7_week cI cZ cG o o_text o_now o_trial o_acts o_slots o_tastes o_ways o_fraction o_now_cells o_now_standing o_acts_before o_acts_before_r v_seedNow v_now_jars v_now_weeks f_now_cells y1 y2 y3)) ⟨hx, hb, hml, hown, hts⟩ (c_X0_remember l dC dI cI cZ cG o_acts o_acts_before o_acts_before_r o_now o_now_cells o_now_standing H.size  v_acts_count v_acts_next m_acts_before v_now_jars v_now_weeks f_now_cells hc4) (cwV 1 hts gX7_week_X0_remember rfl rfl rfl (by decide +kernel) ⟨Nat.le_of_ble_eq_true rfl, Nat.le_of_ble_eq_true rfl⟩) hK hN hP hD hS hA [3, 4, 5, 6, 7, 8, 9, 10, 11, 12, 13, 14, 15, 16, 17, 18, 1, 2] [0] [0, 17, 18, 1, 2, 3, 4, 5, 6, 7, 8, 9, 10, 11, 12, 13, 14, 15, 16] rfl rfl (by decide) rfl (by decide) (by decide) rfl (by decide) (va_recv hK hP (ci := 0) (q0 := 3) rfl rfl) rfl hl.1 rfl (Nat.le_of_ble_eq_true rfl) dX7_week_8 ⟨Nat.zero_le _, Nat.zero_le _⟩ (fun H locs hP hD hS => ?_)
  refine lv_aload_n hx hb dX7_week_11 rfl (lv_at hl 0 rfl) ?_
  refine va_get (D := (dC, dI)) (ci := 7) (v := .ref o_now) (C := RX7) (T := TX7) (N := 9) hx hb hts hiX7 hown hK hP 0 rfl rfl 1 (by decide) (hts (.fieldLink RX7 19 "GreenJars" "now" "LGreenJars$Shelf;") (by decide +kernel)) (fun _ h9 => h9) rfl dX7_week_12 ?_
  obtain ⟨y5, y6, hc7, hf⟩ := g_b2 hf
  refine g_wVv (As := []) (rest := []) (wr := [(o, .inr (7, [.ref o_text, .ref o_now, .ref o_trial, .ref o_acts, .ref o_slots, .ref o_tastes, .ref o_ways, .ref o_fraction, .long v_seedNow])), (o_acts, .inr (0, [.ref o_acts_before, .int y1, .int y2])), (o_acts_before, .inl (cG, 14, .inr (.inr (.inr (.inr (gRf 14 o_acts_before_r)))))), ((o_acts_before_r 0), .inl (cI, 49, .inl (y3 0))), ((o_acts_before_r 1), .inl (cI, 49, .inl (y3 1))), ((o_acts_before_r 2), .inl (cI, 49, .inl (y3 2))), ((o_acts_before_r 3), .inl (cI, 49, .inl (y3 3))), ((o_acts_before_r 4), .inl (cI, 49, .inl (y3 4))), ((o_acts_before_r 5), .inl (cI, 49, .inl (y3 5))), ((o_acts_before_r 6), .inl (cI, 49, .inl (y3 6))), ((o_acts_before_r 7), .inl (cI, 49, .inl (y3 7))), ((o_acts_before_r 8), .inl (cI, 49, .inl (y3 8))), ((o_acts_before_r 9), .inl (cI, 49, .inl (y3 9))), ((o_acts_before_r 10), .inl (cI, 49, .inl (y3 10))), ((o_acts_before_r 11), .inl (cI, 49, .inl (y3 11))), ((o_acts_before_r 12), .inl (cI, 49, .inl (y3 12))), ((o_acts_before_r 13), .inl (cI, 49, .inl (y3 13)))]) (wn := (w_X7_week cI cZ cG o o_text o_now o_trial o_acts o_slots o_tastes o_ways o_fraction o_now_cells o_now_standing o_acts_before o_acts_before_r v_seedNow v_now_jars y5 y6 y1 y2 y3)) ⟨hx, hb, hml, hown, hts⟩ (c_X2_passWeek l dC dI cI cZ cG o_now o_now_cells o_now_standing H.size  v_now_jars v_now_weeks f_now_cells hc7) (cwV 0 hts gX7_week_X2_passWeek rfl rfl rfl (by decide +kernel) ⟨Nat.le_of_ble_eq_true rfl, Nat.le_of_ble_eq_true rfl⟩) hK hN hP hD hS hA [1, 2] [0, 3, 4, 5, 6, 7, 8, 9, 10, 11, 12, 13, 14, 15, 16, 17, 18] [0, 17, 18, 1, 2, 3, 4, 5, 6, 7, 8, 9, 10, 11, 12, 13, 14, 15, 16] rfl rfl (by decide) rfl (by decide) (by decide) rfl (by decide) (va_recv hK hP (ci := 2) (q0 := 1) rfl rfl) rfl hl.1 rfl (Nat.le_of_ble_eq_true rfl) dX7_week_15 ⟨Nat.zero_le _, Nat.zero_le _⟩ (fun H locs hP hD hS => ?_)
  refine lv_aload_n hx hb dX7_week_18 rfl (lv_at hl 0 rfl) ?_
  refine va_get (D := (dC, dI)) (ci := 7) (v := .ref o_now) (C := RX7) (T := TX7) (N := 9) hx hb hts hiX7 hown hK hP 0 rfl rfl 1 (by decide) (hts (.fieldLink RX7 19 "GreenJars" "now" "LGreenJars$Shelf;") (by decide +kernel)) (fun _ h9 => h9) rfl dX7_week_19 ?_
  obtain ⟨r8, hc9, hf⟩ := g_b1 hf
  refine g_rV (As := []) (rest := []) ⟨hx, hb, hml, hown, hts⟩ (c_X2_flavours l dC dI cI cZ cG o_now o_now_cells o_now_standing  v_now_jars y5 y6 hc9) (cwV 0 hts gX7_week_X2_flavours rfl rfl rfl (by decide +kernel) ⟨Nat.le_of_ble_eq_true rfl, Nat.le_of_ble_eq_true rfl⟩) hK hN (hP.sub [1, 2] rfl) (va_recv hK hP (ci := 2) (q0 := 1) rfl rfl) rfl hl.1 rfl (Nat.le_of_ble_eq_true rfl) dX7_week_22 ⟨Nat.zero_le _, Nat.zero_le _⟩ ?_
  rw [hQ]
  cases hf
  exact W.iret hx hb hr (fun t ht hW => ⟨⟨_, (), rfl, rfl, by rw [ht]; exact hP, va_K.moved hW.alike hK, hD⟩, hS.F ht⟩) hS.2.2 dX7_week_25
abbrev rm_X7_shake : Room := { frames := 4, cells := 0, slots := 0, locals := 86 }
abbrev w_X7_shake (cI cZ cG : ClassId) (o : Nat) (o_text : Nat) (o_now : Nat) (o_trial : Nat) (o_acts : Nat) (o_slots : Nat) (o_tastes : Nat) (o_ways : Nat) (o_fraction : Nat) (o_now_cells : Nat) (o_now_standing : Nat) (o_acts_before : Nat) (o_acts_before_r : Nat → Nat) (v_seedNow : Int64) (v_now_jars : Int32) (v_now_weeks : Int32) (f_now_cells : Nat → Int32) (v_acts_count : Int32) (v_acts_next : Int32) (m_acts_before : Nat → Nat → Int32) : va_W := [(o, .inr (7, [.ref o_text, .ref o_now, .ref o_trial, .ref o_acts, .ref o_slots, .ref o_tastes, .ref o_ways, .ref o_fraction, .long v_seedNow])), (o_now, .inr (2, [.ref o_now_cells, .ref o_now_standing, .int v_now_jars, .int v_now_weeks])), (o_now_cells, .inl (cI, 48, .inl f_now_cells)), (o_acts, .inr (0, [.ref o_acts_before, .int v_acts_count, .int v_acts_next])), (o_acts_before, .inl (cG, 14, .inr (.inr (.inr (.inr (gRf 14 o_acts_before_r)))))), ((o_acts_before_r 0), .inl (cI, 49, .inl (m_acts_before 0))), ((o_acts_before_r 1), .inl (cI, 49, .inl (m_acts_before 1))), ((o_acts_before_r 2), .inl (cI, 49, .inl (m_acts_before 2))), ((o_acts_before_r 3), .inl (cI, 49, .inl (m_acts_before 3))), ((o_acts_before_r 4), .inl (cI, 49, .inl (m_acts_before 4))), ((o_acts_before_r 5), .inl (cI, 49, .inl (m_acts_before 5))), ((o_acts_before_r 6), .inl (cI, 49, .inl (m_acts_before 6))), ((o_acts_before_r 7), .inl (cI, 49, .inl (m_acts_before 7))), ((o_acts_before_r 8), .inl (cI, 49, .inl (m_acts_before 8))), ((o_acts_before_r 9), .inl (cI, 49, .inl (m_acts_before 9))), ((o_acts_before_r 10), .inl (cI, 49, .inl (m_acts_before 10))), ((o_acts_before_r 11), .inl (cI, 49, .inl (m_acts_before 11))), ((o_acts_before_r 12), .inl (cI, 49, .inl (m_acts_before 12))), ((o_acts_before_r 13), .inl (cI, 49, .inl (m_acts_before 13)))]
set_option maxHeartbeats 4000000 in
set_option maxRecDepth 100000 in
theorem c_X7_shake (l : Launch) (dC : Nat → ClassId) (dI : Nat → Nat → Nat) (cI cZ cG : ClassId) {N : Nat} (o : Nat) (o_text : Nat) (o_now : Nat) (o_trial : Nat) (o_acts : Nat) (o_slots : Nat) (o_tastes : Nat) (o_ways : Nat) (o_fraction : Nat) (o_now_cells : Nat) (o_now_standing : Nat) (o_acts_before : Nat) (o_acts_before_r : Nat → Nat) (sz : Nat) (v_seedNow : Int64) (v_now_jars : Int32) (v_now_weeks : Int32) (f_now_cells : Nat → Int32) (v_acts_count : Int32) (v_acts_next : Int32) (m_acts_before : Nat → Nat → Int32) {r0 : Int32} {n_now_cells : Nat → Int32} {n_acts_count : Int32} {n_acts_next : Int32} {n_acts_before : Nat → Nat → Int32} (hf : x7_shake N v_now_jars v_now_weeks f_now_cells v_acts_count v_acts_next m_acts_before = some (r0, n_now_cells, n_acts_count, n_acts_next, n_acts_before)) : Met l yX7_shake wsX7_shake rm_X7_shake (va_Pc [.ref o] (gW (dC, dI) vwCl (gT cI cZ cG) (w_X7_shake cI cZ cG o o_text o_now o_trial o_acts o_slots o_tastes o_ways o_fraction o_now_cells o_now_standing o_acts_before o_acts_before_r v_seedNow v_now_jars v_now_weeks f_now_cells v_acts_count v_acts_next m_acts_before) sz)) (va_Qi (fun r _ => r = r0) (gE (dC, dI) vwCl (gT cI cZ cG) (w_X7_shake cI cZ cG o o_text o_now o_trial o_acts o_slots o_tastes o_ways o_fraction o_now_cells o_now_standing o_acts_before o_acts_before_r v_seedNow v_now_jars v_now_weeks n_now_cells n_acts_count n_acts_next n_acts_before) (va_A (w_X7_shake cI cZ cG o o_text o_now o_trial o_acts o_slots o_tastes o_ways o_fraction o_now_cells o_now_standing o_acts_before o_acts_before_r v_seedNow v_now_jars v_now_weeks f_now_cells v_acts_count v_acts_next m_acts_before) sz)) (va_A (w_X7_shake cI cZ cG o o_text o_now o_trial o_acts o_slots o_tastes o_ways o_fraction o_now_cells o_now_standing o_acts_before o_acts_before_r v_seedNow v_now_jars v_now_weeks f_now_cells v_acts_count v_acts_next m_acts_before) sz)) 0 0 (va_A (w_X7_shake cI cZ cG o o_text o_now o_trial o_acts o_slots o_tastes o_ways o_fraction o_now_cells o_now_standing o_acts_before o_acts_before_r v_seedNow v_now_jars v_now_weeks f_now_cells v_acts_count v_acts_next m_acts_before) sz) := by
  refine Met.ofW (cc := cX7_shake) (maxL := 1) (ret := (some .int)) (by decide) rfl ?_
  intro p e s m args below meth c s₁ B hml hv
  obtain ⟨rfl, hv⟩ := hv
  obtain ⟨hsz, hP, hK, hN, hD0⟩ := hv
  have hx := B.exec
  have hb := B.bytes
  have hr := B.returns
  have hts := atoms_spec (ws := wsX7_shake) B.pre
  have hown : s.vm.findClass RX7 = some m.cls := findClass_of_methodNamed B.named
  have hlocks := B.notSynchronized
  have hiX0 : ∀ w ∈ u_ws RX0 TX0 3, w ∈ wsX7_shake := fun w h => List.mem_cons_of_mem _ (List.mem_append_left _ (List.mem_append_right _ h))
  have hiX2 : ∀ w ∈ u_ws RX2 TX2 4, w ∈ wsX7_shake := fun w h => List.mem_cons_of_mem _ (List.mem_append_right _ h)
  have hiX7 : ∀ w ∈ u_ws RX7 TX7 9, w ∈ wsX7_shake := fun w h => List.mem_cons_of_mem _ (List.mem_append_left _ (List.mem_append_left _ (List.mem_append_right _ h)))
  subst hsz
  have hD := hD0.self (sz := s.heap.size)
  generalize hAe : va_A (w_X7_shake cI cZ cG o o_text o_now o_trial o_acts o_slots o_tastes o_ways o_fraction o_now_cells o_now_standing o_acts_before o_acts_before_r v_seedNow v_now_jars v_now_weeks f_now_cells v_acts_count v_acts_next m_acts_before) s.heap.size = A at hD ⊢
  have hA : ∀ q : Nat, s.heap.size ≤ q → A q := fun q h => by rw [← hAe]; exact Or.inr h
  clear hD0
  have hS : va_S A s.heap s.heap [] := va_S.rf
  have hP : va_P (dC, dI) vwCl (w_X7_shake cI cZ cG o o_text o_now o_trial o_acts o_slots o_tastes o_ways o_fraction o_now_cells o_now_standing o_acts_before o_acts_before_r v_seedNow v_now_jars v_now_weeks f_now_cells v_acts_count v_acts_next m_acts_before) s.heap := hP
  obtain ⟨Q, hQ⟩ : ∃ Q : State → Prop, Q = MQ below (va_Qi (fun r _ => r = r0) (gE (dC, dI) vwCl (gT cI cZ cG) (w_X7_shake cI cZ cG o o_text o_now o_trial o_acts o_slots o_tastes o_ways o_fraction o_now_cells o_now_standing o_acts_before o_acts_before_r v_seedNow v_now_jars v_now_weeks n_now_cells n_acts_count n_acts_next n_acts_before) A) A) (([Value.ref o] : List Value).toArray) s 0 0 A := ⟨_, rfl⟩
  have hl := lv_entry ([.ref o]) (n := 1) (Nat.le_of_ble_eq_true rfl)
  rw [← hQ, lg_entry_eq]
  generalize (lg_sl ([.ref o]) ++ List.replicate (1 - (lg_sl ([.ref o])).length) Slot.unset).toArray = ls at hl ⊢
  have hl : lv_has ls 1 [(0, .ref o)] := hl
  generalize hH : s.heap = H at hP hS ⊢
  have hS : va_S A s.heap H [] := by rw [hH]; exact hS
  generalize hlc : ([] : List Loc) = locs at hS ⊢
  show W p l e rm_X7_shake s m (([Value.ref o] : List Value).toArray) below meth c H locs 0 0 Q (F0 m 0 ls [])
  unfold x7_shake at hf
  refine lv_aload_n hx hb dX7_shake_0 rfl (lv_at hl 0 rfl) ?_
  refine va_get (D := (dC, dI)) (ci := 7) (v := .ref o_acts) (C := RX7) (T := TX7) (N := 9) hx hb hts hiX7 hown hK hP 0 rfl rfl 3 (by decide) (hts (.fieldLink RX7 29 "GreenJars" "acts" "LGreenJars$Acts;") (by decide +kernel)) (fun _ h9 => h9) rfl dX7_shake_1 ?_
  refine lv_aload_n hx hb dX7_shake_4 rfl (lv_at hl 0 rfl) ?_
  refine va_get (D := (dC, dI)) (ci := 7) (v := .ref o_now) (C := RX7) (T := TX7) (N := 9) hx hb hts hiX7 hown hK hP 0 rfl rfl 1 (by decide) (hts (.fieldLink RX7 19 "GreenJars" "now" "LGreenJars$Shelf;") (by decide +kernel)) (fun _ h9 => h9) rfl dX7_shake_5 ?_
  obtain ⟨y1, y2, y3, hc4, hf⟩ := g_b3 hf
  refine g_wVv (As := [.ref o_now]) (rest := []) (wr := [(o, .inr (7, [.ref o_text, .ref o_now, .ref o_trial, .ref o_acts, .ref o_slots, .ref o_tastes, .ref o_ways, .ref o_fraction, .long v_seedNow]))]) (wn := (w_X7_shake cI cZ cG o o_text o_now o_trial o_acts o_slots o_tastes o_ways o_fraction o_now_cells o_now_standing o_acts_before o_acts_before_r v_seedNow v_now_jars v_now_weeks f_now_cells y1 y2 y3)) ⟨hx, hb, hml, hown, hts⟩ (c_X0_remember l dC dI cI cZ cG o_acts o_acts_before o_acts_before_r o_now o_now_cells o_now_standing H.size  v_acts_count v_acts_next m_acts_before v_now_jars v_now_weeks f_now_cells hc4) (cwV 1 hts gX7_shake_X0_remember rfl rfl rfl (by decide +kernel) ⟨Nat.le_of_ble_eq_true rfl, Nat.le_of_ble_eq_true rfl⟩) hK hN hP hD hS hA [3, 4, 5, 6, 7, 8, 9, 10, 11, 12, 13, 14, 15, 16, 17, 18, 1, 2] [0] [0, 17, 18, 1, 2, 3, 4, 5, 6, 7, 8, 9, 10, 11, 12, 13, 14, 15, 16] rfl rfl (by decide) rfl (by decide) (by decide) rfl (by decide) (va_recv hK hP (ci := 0) (q0 := 3) rfl rfl) rfl hl.1 rfl (Nat.le_of_ble_eq_true rfl) dX7_shake_8 ⟨Nat.zero_le _, Nat.zero_le _⟩ (fun H locs hP hD hS => ?_)
  refine lv_aload_n hx hb dX7_shake_11 rfl (lv_at hl 0 rfl) ?_
  refine va_get (D := (dC, dI)) (ci := 7) (v := .ref o_now) (C := RX7) (T := TX7) (N := 9) hx hb hts hiX7 hown hK hP 0 rfl rfl 1 (by decide) (hts (.fieldLink RX7 19 "GreenJars" "now" "LGreenJars$Shelf;") (by decide +kernel)) (fun _ h9 => h9) rfl dX7_shake_12 ?_
  obtain ⟨r5, y6, hc7, hf⟩ := g_b2 hf
  refine g_wV (As := []) (rest := []) (wr := [(o, .inr (7, [.ref o_text, .ref o_now, .ref o_trial, .ref o_acts, .ref o_slots, .ref o_tastes, .ref o_ways, .ref o_fraction, .long v_seedNow])), (o_acts, .inr (0, [.ref o_acts_before, .int y1, .int y2])), (o_acts_before, .inl (cG, 14, .inr (.inr (.inr (.inr (gRf 14 o_acts_before_r)))))), ((o_acts_before_r 0), .inl (cI, 49, .inl (y3 0))), ((o_acts_before_r 1), .inl (cI, 49, .inl (y3 1))), ((o_acts_before_r 2), .inl (cI, 49, .inl (y3 2))), ((o_acts_before_r 3), .inl (cI, 49, .inl (y3 3))), ((o_acts_before_r 4), .inl (cI, 49, .inl (y3 4))), ((o_acts_before_r 5), .inl (cI, 49, .inl (y3 5))), ((o_acts_before_r 6), .inl (cI, 49, .inl (y3 6))), ((o_acts_before_r 7), .inl (cI, 49, .inl (y3 7))), ((o_acts_before_r 8), .inl (cI, 49, .inl (y3 8))), ((o_acts_before_r 9), .inl (cI, 49, .inl (y3 9))), ((o_acts_before_r 10), .inl (cI, 49, .inl (y3 10))), ((o_acts_before_r 11), .inl (cI, 49, .inl (y3 11))), ((o_acts_before_r 12), .inl (cI, 49, .inl (y3 12))), ((o_acts_before_r 13), .inl (cI, 49, .inl (y3 13)))]) (wn := (w_X7_shake cI cZ cG o o_text o_now o_trial o_acts o_slots o_tastes o_ways o_fraction o_now_cells o_now_standing o_acts_before o_acts_before_r v_seedNow v_now_jars v_now_weeks y6 y1 y2 y3)) ⟨hx, hb, hml, hown, hts⟩ (c_X2_rattle l dC dI cI cZ cG o_now o_now_cells o_now_standing H.size  v_now_jars v_now_weeks f_now_cells hc7) (cwV 0 hts gX7_shake_X2_rattle rfl rfl rfl (by decide +kernel) ⟨Nat.le_of_ble_eq_true rfl, Nat.le_of_ble_eq_true rfl⟩) hK hN hP hD hS hA [1, 2] [0, 3, 4, 5, 6, 7, 8, 9, 10, 11, 12, 13, 14, 15, 16, 17, 18] [0, 17, 18, 1, 2, 3, 4, 5, 6, 7, 8, 9, 10, 11, 12, 13, 14, 15, 16] rfl rfl (by decide) rfl (by decide) (by decide) rfl (by decide) (va_recv hK hP (ci := 2) (q0 := 1) rfl rfl) rfl hl.1 rfl (Nat.le_of_ble_eq_true rfl) dX7_shake_15 ⟨Nat.zero_le _, Nat.zero_le _⟩ (fun H locs hP hD hS => ?_)
  rw [hQ]
  cases hf
  exact W.iret hx hb hr (fun t ht hW => ⟨⟨_, (), rfl, rfl, by rw [ht]; exact hP, va_K.moved hW.alike hK, hD⟩, hS.F ht⟩) hS.2.2 dX7_shake_18
abbrev rm_X7_set : Room := { frames := 3, cells := 0, slots := 0, locals := 68 }
abbrev w_X7_set (cI cZ cG : ClassId) (o : Nat) (o_text : Nat) (o_now : Nat) (o_trial : Nat) (o_acts : Nat) (o_slots : Nat) (o_tastes : Nat) (o_ways : Nat) (o_fraction : Nat) (o_now_cells : Nat) (o_now_standing : Nat) (o_acts_before : Nat) (o_acts_before_r : Nat → Nat) (v_seedNow : Int64) (v_now_jars : Int32) (v_now_weeks : Int32) (f_now_cells : Nat → Int32) (v_acts_count : Int32) (v_acts_next : Int32) (m_acts_before : Nat → Nat → Int32) : va_W := [(o, .inr (7, [.ref o_text, .ref o_now, .ref o_trial, .ref o_acts, .ref o_slots, .ref o_tastes, .ref o_ways, .ref o_fraction, .long v_seedNow])), (o_now, .inr (2, [.ref o_now_cells, .ref o_now_standing, .int v_now_jars, .int v_now_weeks])), (o_now_cells, .inl (cI, 48, .inl f_now_cells)), (o_acts, .inr (0, [.ref o_acts_before, .int v_acts_count, .int v_acts_next])), (o_acts_before, .inl (cG, 14, .inr (.inr (.inr (.inr (gRf 14 o_acts_before_r)))))), ((o_acts_before_r 0), .inl (cI, 49, .inl (m_acts_before 0))), ((o_acts_before_r 1), .inl (cI, 49, .inl (m_acts_before 1))), ((o_acts_before_r 2), .inl (cI, 49, .inl (m_acts_before 2))), ((o_acts_before_r 3), .inl (cI, 49, .inl (m_acts_before 3))), ((o_acts_before_r 4), .inl (cI, 49, .inl (m_acts_before 4))), ((o_acts_before_r 5), .inl (cI, 49, .inl (m_acts_before 5))), ((o_acts_before_r 6), .inl (cI, 49, .inl (m_acts_before 6))), ((o_acts_before_r 7), .inl (cI, 49, .inl (m_acts_before 7))), ((o_acts_before_r 8), .inl (cI, 49, .inl (m_acts_before 8))), ((o_acts_before_r 9), .inl (cI, 49, .inl (m_acts_before 9))), ((o_acts_before_r 10), .inl (cI, 49, .inl (m_acts_before 10))), ((o_acts_before_r 11), .inl (cI, 49, .inl (m_acts_before 11))), ((o_acts_before_r 12), .inl (cI, 49, .inl (m_acts_before 12))), ((o_acts_before_r 13), .inl (cI, 49, .inl (m_acts_before 13)))]
set_option maxHeartbeats 4000000 in
set_option maxRecDepth 100000 in
theorem c_X7_set (l : Launch) (dC : Nat → ClassId) (dI : Nat → Nat → Nat) (cI cZ cG : ClassId) {N : Nat} (o : Nat) (o_text : Nat) (o_now : Nat) (o_trial : Nat) (o_acts : Nat) (o_slots : Nat) (o_tastes : Nat) (o_ways : Nat) (o_fraction : Nat) (o_now_cells : Nat) (o_now_standing : Nat) (o_acts_before : Nat) (o_acts_before_r : Nat → Nat) (sz : Nat) (v_seedNow : Int64) (v_now_jars : Int32) (v_now_weeks : Int32) (f_now_cells : Nat → Int32) (v_acts_count : Int32) (v_acts_next : Int32) (m_acts_before : Nat → Nat → Int32) (a1 : Int32) (a2 : Int32) {r0 : Int32} {n_now_cells : Nat → Int32} {n_acts_count : Int32} {n_acts_next : Int32} {n_acts_before : Nat → Nat → Int32} (hf : x7_set N v_now_jars v_now_weeks f_now_cells v_acts_count v_acts_next m_acts_before a1 a2 = some (r0, n_now_cells, n_acts_count, n_acts_next, n_acts_before)) : Met l yX7_set wsX7_set rm_X7_set (va_Pc [.ref o, .int a1, .int a2] (gW (dC, dI) vwCl (gT cI cZ cG) (w_X7_set cI cZ cG o o_text o_now o_trial o_acts o_slots o_tastes o_ways o_fraction o_now_cells o_now_standing o_acts_before o_acts_before_r v_seedNow v_now_jars v_now_weeks f_now_cells v_acts_count v_acts_next m_acts_before) sz)) (va_Qi (fun r _ => r = r0) (gE (dC, dI) vwCl (gT cI cZ cG) (w_X7_set cI cZ cG o o_text o_now o_trial o_acts o_slots o_tastes o_ways o_fraction o_now_cells o_now_standing o_acts_before o_acts_before_r v_seedNow v_now_jars v_now_weeks n_now_cells n_acts_count n_acts_next n_acts_before) (va_A (w_X7_set cI cZ cG o o_text o_now o_trial o_acts o_slots o_tastes o_ways o_fraction o_now_cells o_now_standing o_acts_before o_acts_before_r v_seedNow v_now_jars v_now_weeks f_now_cells v_acts_count v_acts_next m_acts_before) sz)) (va_A (w_X7_set cI cZ cG o o_text o_now o_trial o_acts o_slots o_tastes o_ways o_fraction o_now_cells o_now_standing o_acts_before o_acts_before_r v_seedNow v_now_jars v_now_weeks f_now_cells v_acts_count v_acts_next m_acts_before) sz)) 0 0 (va_A (w_X7_set cI cZ cG o o_text o_now o_trial o_acts o_slots o_tastes o_ways o_fraction o_now_cells o_now_standing o_acts_before o_acts_before_r v_seedNow v_now_jars v_now_weeks f_now_cells v_acts_count v_acts_next m_acts_before) sz) := by
  refine Met.ofW (cc := cX7_set) (maxL := 4) (ret := (some .int)) (by decide) rfl ?_
  intro p e s m args below meth c s₁ B hml hv
  obtain ⟨rfl, hv⟩ := hv
  obtain ⟨hsz, hP, hK, hN, hD0⟩ := hv
  have hx := B.exec
  have hb := B.bytes
  have hr := B.returns
  have hts := atoms_spec (ws := wsX7_set) B.pre
  have hown : s.vm.findClass RX7 = some m.cls := findClass_of_methodNamed B.named
  have hlocks := B.notSynchronized
  have hiX0 : ∀ w ∈ u_ws RX0 TX0 3, w ∈ wsX7_set := fun w h => List.mem_cons_of_mem _ (List.mem_append_right _ h)
  have hiX2 : ∀ w ∈ u_ws RX2 TX2 4, w ∈ wsX7_set := fun w h => List.mem_cons_of_mem _ (List.mem_append_left _ (List.mem_append_right _ h))
  have hiX7 : ∀ w ∈ u_ws RX7 TX7 9, w ∈ wsX7_set := fun w h => List.mem_cons_of_mem _ (List.mem_append_left _ (List.mem_append_left _ (List.mem_append_right _ h)))
  subst hsz
  have hD := hD0.self (sz := s.heap.size)
  generalize hAe : va_A (w_X7_set cI cZ cG o o_text o_now o_trial o_acts o_slots o_tastes o_ways o_fraction o_now_cells o_now_standing o_acts_before o_acts_before_r v_seedNow v_now_jars v_now_weeks f_now_cells v_acts_count v_acts_next m_acts_before) s.heap.size = A at hD ⊢
  have hA : ∀ q : Nat, s.heap.size ≤ q → A q := fun q h => by rw [← hAe]; exact Or.inr h
  clear hD0
  have hS : va_S A s.heap s.heap [] := va_S.rf
  have hP : va_P (dC, dI) vwCl (w_X7_set cI cZ cG o o_text o_now o_trial o_acts o_slots o_tastes o_ways o_fraction o_now_cells o_now_standing o_acts_before o_acts_before_r v_seedNow v_now_jars v_now_weeks f_now_cells v_acts_count v_acts_next m_acts_before) s.heap := hP
  obtain ⟨Q, hQ⟩ : ∃ Q : State → Prop, Q = MQ below (va_Qi (fun r _ => r = r0) (gE (dC, dI) vwCl (gT cI cZ cG) (w_X7_set cI cZ cG o o_text o_now o_trial o_acts o_slots o_tastes o_ways o_fraction o_now_cells o_now_standing o_acts_before o_acts_before_r v_seedNow v_now_jars v_now_weeks n_now_cells n_acts_count n_acts_next n_acts_before) A) A) (([Value.ref o, Value.int a1, Value.int a2] : List Value).toArray) s 0 0 A := ⟨_, rfl⟩
  have hl := lv_entry ([.ref o, .int a1, .int a2]) (n := 4) (Nat.le_of_ble_eq_true rfl)
  rw [← hQ, lg_entry_eq]
  generalize (lg_sl ([.ref o, .int a1, .int a2]) ++ List.replicate (4 - (lg_sl ([.ref o, .int a1, .int a2])).length) Slot.unset).toArray = ls at hl ⊢
  have hl : lv_has ls 4 [(0, .ref o), (1, .int a1), (2, .int a2)] := hl
  generalize hH : s.heap = H at hP hS ⊢
  have hS : va_S A s.heap H [] := by rw [hH]; exact hS
  generalize hlc : ([] : List Loc) = locs at hS ⊢
  show W p l e rm_X7_set s m (([Value.ref o, Value.int a1, Value.int a2] : List Value).toArray) below meth c H locs 0 0 Q (F0 m 0 ls [])
  unfold x7_set at hf
  refine lv_aload_n hx hb dX7_set_0 rfl (lv_at hl 0 rfl) ?_
  refine va_get (D := (dC, dI)) (ci := 7) (v := .ref o_now) (C := RX7) (T := TX7) (N := 9) hx hb hts hiX7 hown hK hP 0 rfl rfl 1 (by decide) (hts (.fieldLink RX7 19 "GreenJars" "now" "LGreenJars$Shelf;") (by decide +kernel)) (fun _ h9 => h9) rfl dX7_set_1 ?_
  refine lv_iload_n hx hb dX7_set_4 rfl (lv_at hl 1 rfl) ?_
  obtain ⟨r1, hc2, hf⟩ := g_b1 hf
  refine g_rV (As := [.int a1]) (rest := []) ⟨hx, hb, hml, hown, hts⟩ (c_X2_has l dC dI cI cZ cG o_now o_now_cells o_now_standing  v_now_jars v_now_weeks a1 hc2) (cwV 1 hts gX7_set_X2_has rfl rfl rfl (by decide +kernel) ⟨Nat.le_of_ble_eq_true rfl, Nat.le_of_ble_eq_true rfl⟩) hK hN (hP.sub [1] rfl) (va_recv hK hP (ci := 2) (q0 := 1) rfl rfl) rfl hl.1 rfl (Nat.le_of_ble_eq_true rfl) dX7_set_5 ⟨Nat.zero_le _, Nat.zero_le _⟩ ?_
  refine lv_if_eq (tgt := 18) hx hb dX7_set_8 (by decide) (fun c3 => ?_) (fun c3 => ?_)
  · have hf := g_pos c3 hf
    refine lv_iconst (v := (-1 : Int32)) hx hb dX7_set_18 (by decide) ?_
    rw [hQ]
    cases hf
    exact W.iret hx hb hr (fun t ht hW => ⟨⟨_, (), rfl, rfl, by rw [ht]; exact hP, va_K.moved hW.alike hK, hD⟩, hS.F ht⟩) hS.2.2 dX7_set_19
  · have hf := g_neg c3 hf
    refine lv_iload_n hx hb dX7_set_11 rfl (lv_at hl 2 rfl) ?_
    obtain ⟨r4, hc5, hf⟩ := g_b1 hf
    refine g_rS (As := [.int a2]) (rest := []) ⟨hx, hb, hml, hown, hts⟩ (c_X7_isPlace l dC dI cI cZ cG    a2 hc5) (va_cwS 1 hts gX7_set_X7_isPlace rfl rfl rfl (by decide +kernel) ⟨Nat.le_of_ble_eq_true rfl, Nat.le_of_ble_eq_true rfl⟩) hK hN (hP.sub [] rfl) rfl hl.1 rfl (Nat.le_of_ble_eq_true rfl) dX7_set_12 ⟨Nat.zero_le _, Nat.zero_le _⟩ ?_
    refine lv_if_ne (tgt := 20) hx hb dX7_set_15 (by decide) (fun c6 => ?_) (fun c6 => ?_)
    · have hf := g_neg c6 hf
      refine lv_aload_n hx hb dX7_set_20 rfl (lv_at hl 0 rfl) ?_
      refine va_get (D := (dC, dI)) (ci := 7) (v := .ref o_now) (C := RX7) (T := TX7) (N := 9) hx hb hts hiX7 hown hK hP 0 rfl rfl 1 (by decide) (hts (.fieldLink RX7 19 "GreenJars" "now" "LGreenJars$Shelf;") (by decide +kernel)) (fun _ h9 => h9) rfl dX7_set_21 ?_
      refine lv_iload_n hx hb dX7_set_24 rfl (lv_at hl 1 rfl) ?_
      refine lv_iload_n hx hb dX7_set_25 rfl (lv_at hl 2 rfl) ?_
      obtain ⟨r7, hc8, hf⟩ := g_b1 hf
      refine g_rV (As := [.int a1, .int a2]) (rest := []) ⟨hx, hb, hml, hown, hts⟩ (c_X2_canStand l dC dI cI cZ cG o_now o_now_cells o_now_standing  v_now_jars v_now_weeks f_now_cells a1 a2 hc8) (cwV 2 hts gX7_set_X2_canStand rfl rfl rfl (by decide +kernel) ⟨Nat.le_of_ble_eq_true rfl, Nat.le_of_ble_eq_true rfl⟩) hK hN (hP.sub [1, 2] rfl) (va_recv hK hP (ci := 2) (q0 := 1) rfl rfl) rfl hl.1 rfl (Nat.le_of_ble_eq_true rfl) dX7_set_26 ⟨Nat.zero_le _, Nat.zero_le _⟩ ?_
      refine lv_if_ne (tgt := 35) hx hb dX7_set_29 (by decide) (fun c9 => ?_) (fun c9 => ?_)
      · have hf := g_neg c9 hf
        refine lv_aload_n hx hb dX7_set_35 rfl (lv_at hl 0 rfl) ?_
        refine va_get (D := (dC, dI)) (ci := 7) (v := .ref o_acts) (C := RX7) (T := TX7) (N := 9) hx hb hts hiX7 hown hK hP 0 rfl rfl 3 (by decide) (hts (.fieldLink RX7 29 "GreenJars" "acts" "LGreenJars$Acts;") (by decide +kernel)) (fun _ h9 => h9) rfl dX7_set_36 ?_
        refine lv_aload_n hx hb dX7_set_39 rfl (lv_at hl 0 rfl) ?_
        refine va_get (D := (dC, dI)) (ci := 7) (v := .ref o_now) (C := RX7) (T := TX7) (N := 9) hx hb hts hiX7 hown hK hP 0 rfl rfl 1 (by decide) (hts (.fieldLink RX7 19 "GreenJars" "now" "LGreenJars$Shelf;") (by decide +kernel)) (fun _ h9 => h9) rfl dX7_set_40 ?_
        obtain ⟨y10, y11, y12, hc13, hf⟩ := g_b3 hf
        refine g_wVv (As := [.ref o_now]) (rest := []) (wr := [(o, .inr (7, [.ref o_text, .ref o_now, .ref o_trial, .ref o_acts, .ref o_slots, .ref o_tastes, .ref o_ways, .ref o_fraction, .long v_seedNow]))]) (wn := (w_X7_set cI cZ cG o o_text o_now o_trial o_acts o_slots o_tastes o_ways o_fraction o_now_cells o_now_standing o_acts_before o_acts_before_r v_seedNow v_now_jars v_now_weeks f_now_cells y10 y11 y12)) ⟨hx, hb, hml, hown, hts⟩ (c_X0_remember l dC dI cI cZ cG o_acts o_acts_before o_acts_before_r o_now o_now_cells o_now_standing H.size  v_acts_count v_acts_next m_acts_before v_now_jars v_now_weeks f_now_cells hc13) (cwV 1 hts gX7_set_X0_remember rfl rfl rfl (by decide +kernel) ⟨Nat.le_of_ble_eq_true rfl, Nat.le_of_ble_eq_true rfl⟩) hK hN hP hD hS hA [3, 4, 5, 6, 7, 8, 9, 10, 11, 12, 13, 14, 15, 16, 17, 18, 1, 2] [0] [0, 17, 18, 1, 2, 3, 4, 5, 6, 7, 8, 9, 10, 11, 12, 13, 14, 15, 16] rfl rfl (by decide) rfl (by decide) (by decide) rfl (by decide) (va_recv hK hP (ci := 0) (q0 := 3) rfl rfl) rfl hl.1 rfl (Nat.le_of_ble_eq_true rfl) dX7_set_43 ⟨Nat.zero_le _, Nat.zero_le _⟩ (fun H locs hP hD hS => ?_)
        refine lv_aload_n hx hb dX7_set_46 rfl (lv_at hl 0 rfl) ?_
        refine va_get (D := (dC, dI)) (ci := 7) (v := .ref o_now) (C := RX7) (T := TX7) (N := 9) hx hb hts hiX7 hown hK hP 0 rfl rfl 1 (by decide) (hts (.fieldLink RX7 19 "GreenJars" "now" "LGreenJars$Shelf;") (by decide +kernel)) (fun _ h9 => h9) rfl dX7_set_47 ?_
        refine lv_iload_n hx hb dX7_set_50 rfl (lv_at hl 1 rfl) ?_
        refine lv_iconst (v := (0 : Int32)) hx hb dX7_set_51 (by decide) ?_
        obtain ⟨r14, hc15, hf⟩ := g_b1 hf
        refine g_rV (As := [.int a1, .int (0 : Int32)]) (rest := []) ⟨hx, hb, hml, hown, hts⟩ (c_X2_part l dC dI cI cZ cG o_now o_now_cells o_now_standing  v_now_jars v_now_weeks f_now_cells a1 (0 : Int32) hc15) (cwV 2 hts gX7_set_X2_part rfl rfl rfl (by decide +kernel) ⟨Nat.le_of_ble_eq_true rfl, Nat.le_of_ble_eq_true rfl⟩) hK hN (hP.sub [1, 2] rfl) (va_recv hK hP (ci := 2) (q0 := 1) rfl rfl) rfl hl.1 rfl (Nat.le_of_ble_eq_true rfl) dX7_set_52 ⟨Nat.zero_le _, Nat.zero_le _⟩ ?_
        refine lv_istore_n (lv' := [(3, .int r14), (0, .ref o), (1, .int a1), (2, .int a2)]) hx hb dX7_set_55 rfl hl (by decide) rfl (fun ls hl => ?_)
        refine lv_aload_n hx hb dX7_set_56 rfl (lv_at hl 1 rfl) ?_
        refine va_get (D := (dC, dI)) (ci := 7) (v := .ref o_now) (C := RX7) (T := TX7) (N := 9) hx hb hts hiX7 hown hK hP 0 rfl rfl 1 (by decide) (hts (.fieldLink RX7 19 "GreenJars" "now" "LGreenJars$Shelf;") (by decide +kernel)) (fun _ h9 => h9) rfl dX7_set_57 ?_
        refine lv_iload_n hx hb dX7_set_60 rfl (lv_at hl 2 rfl) ?_
        refine lv_iload_n hx hb dX7_set_61 rfl (lv_at hl 3 rfl) ?_
        obtain ⟨y16, hc17, hf⟩ := g_b1 hf
        refine g_wVv (As := [.int a1, .int a2]) (rest := []) (wr := [(o, .inr (7, [.ref o_text, .ref o_now, .ref o_trial, .ref o_acts, .ref o_slots, .ref o_tastes, .ref o_ways, .ref o_fraction, .long v_seedNow])), (o_acts, .inr (0, [.ref o_acts_before, .int y10, .int y11])), (o_acts_before, .inl (cG, 14, .inr (.inr (.inr (.inr (gRf 14 o_acts_before_r)))))), ((o_acts_before_r 0), .inl (cI, 49, .inl (y12 0))), ((o_acts_before_r 1), .inl (cI, 49, .inl (y12 1))), ((o_acts_before_r 2), .inl (cI, 49, .inl (y12 2))), ((o_acts_before_r 3), .inl (cI, 49, .inl (y12 3))), ((o_acts_before_r 4), .inl (cI, 49, .inl (y12 4))), ((o_acts_before_r 5), .inl (cI, 49, .inl (y12 5))), ((o_acts_before_r 6), .inl (cI, 49, .inl (y12 6))), ((o_acts_before_r 7), .inl (cI, 49, .inl (y12 7))), ((o_acts_before_r 8), .inl (cI, 49, .inl (y12 8))), ((o_acts_before_r 9), .inl (cI, 49, .inl (y12 9))), ((o_acts_before_r 10), .inl (cI, 49, .inl (y12 10))), ((o_acts_before_r 11), .inl (cI, 49, .inl (y12 11))), ((o_acts_before_r 12), .inl (cI, 49, .inl (y12 12))), ((o_acts_before_r 13), .inl (cI, 49, .inl (y12 13)))]) (wn := (w_X7_set cI cZ cG o o_text o_now o_trial o_acts o_slots o_tastes o_ways o_fraction o_now_cells o_now_standing o_acts_before o_acts_before_r v_seedNow v_now_jars v_now_weeks y16 y10 y11 y12)) ⟨hx, hb, hml, hown, hts⟩ (c_X2_stand l dC dI cI cZ cG o_now o_now_cells o_now_standing H.size  v_now_jars v_now_weeks f_now_cells a1 a2 hc17) (cwV 2 hts gX7_set_X2_stand rfl rfl rfl (by decide +kernel) ⟨Nat.le_of_ble_eq_true rfl, Nat.le_of_ble_eq_true rfl⟩) hK hN hP hD hS hA [1, 2] [0, 3, 4, 5, 6, 7, 8, 9, 10, 11, 12, 13, 14, 15, 16, 17, 18] [0, 17, 18, 1, 2, 3, 4, 5, 6, 7, 8, 9, 10, 11, 12, 13, 14, 15, 16] rfl rfl (by decide) rfl (by decide) (by decide) rfl (by decide) (va_recv hK hP (ci := 2) (q0 := 1) rfl rfl) rfl hl.1 rfl (Nat.le_of_ble_eq_true rfl) dX7_set_62 ⟨Nat.zero_le _, Nat.zero_le _⟩ (fun H locs hP hD hS => ?_)
        refine lv_iload_n hx hb dX7_set_65 rfl (lv_at hl 0 rfl) ?_
        rw [hQ]
        cases hf
        exact W.iret hx hb hr (fun t ht hW => ⟨⟨_, (), rfl, rfl, by rw [ht]; exact hP, va_K.moved hW.alike hK, hD⟩, hS.F ht⟩) hS.2.2 dX7_set_66
      · have hf := g_pos c9 hf
        refine lv_bipush (v := (-3 : Int32)) hx hb dX7_set_32 (by decide +kernel) ?_
        rw [hQ]
        cases hf
        exact W.iret hx hb hr (fun t ht hW => ⟨⟨_, (), rfl, rfl, by rw [ht]; exact hP, va_K.moved hW.alike hK, hD⟩, hS.F ht⟩) hS.2.2 dX7_set_34
    · have hf := g_pos c6 hf
      refine lv_iconst (v := (-1 : Int32)) hx hb dX7_set_18 (by decide) ?_
      rw [hQ]
      cases hf
      exact W.iret hx hb hr (fun t ht hW => ⟨⟨_, (), rfl, rfl, by rw [ht]; exact hP, va_K.moved hW.alike hK, hD⟩, hS.F ht⟩) hS.2.2 dX7_set_19
abbrev rm_X7_pour : Room := { frames := 3, cells := 0, slots := 0, locals := 68 }
abbrev w_X7_pour (cI cZ cG : ClassId) (o : Nat) (o_text : Nat) (o_now : Nat) (o_trial : Nat) (o_acts : Nat) (o_slots : Nat) (o_tastes : Nat) (o_ways : Nat) (o_fraction : Nat) (o_now_cells : Nat) (o_now_standing : Nat) (o_acts_before : Nat) (o_acts_before_r : Nat → Nat) (v_seedNow : Int64) (v_now_jars : Int32) (v_now_weeks : Int32) (f_now_cells : Nat → Int32) (v_acts_count : Int32) (v_acts_next : Int32) (m_acts_before : Nat → Nat → Int32) : va_W := [(o, .inr (7, [.ref o_text, .ref o_now, .ref o_trial, .ref o_acts, .ref o_slots, .ref o_tastes, .ref o_ways, .ref o_fraction, .long v_seedNow])), (o_now, .inr (2, [.ref o_now_cells, .ref o_now_standing, .int v_now_jars, .int v_now_weeks])), (o_now_cells, .inl (cI, 48, .inl f_now_cells)), (o_acts, .inr (0, [.ref o_acts_before, .int v_acts_count, .int v_acts_next])), (o_acts_before, .inl (cG, 14, .inr (.inr (.inr (.inr (gRf 14 o_acts_before_r)))))), ((o_acts_before_r 0), .inl (cI, 49, .inl (m_acts_before 0))), ((o_acts_before_r 1), .inl (cI, 49, .inl (m_acts_before 1))), ((o_acts_before_r 2), .inl (cI, 49, .inl (m_acts_before 2))), ((o_acts_before_r 3), .inl (cI, 49, .inl (m_acts_before 3))), ((o_acts_before_r 4), .inl (cI, 49, .inl (m_acts_before 4))), ((o_acts_before_r 5), .inl (cI, 49, .inl (m_acts_before 5))), ((o_acts_before_r 6), .inl (cI, 49, .inl (m_acts_before 6))), ((o_acts_before_r 7), .inl (cI, 49, .inl (m_acts_before 7))), ((o_acts_before_r 8), .inl (cI, 49, .inl (m_acts_before 8))), ((o_acts_before_r 9), .inl (cI, 49, .inl (m_acts_before 9))), ((o_acts_before_r 10), .inl (cI, 49, .inl (m_acts_before 10))), ((o_acts_before_r 11), .inl (cI, 49, .inl (m_acts_before 11))), ((o_acts_before_r 12), .inl (cI, 49, .inl (m_acts_before 12))), ((o_acts_before_r 13), .inl (cI, 49, .inl (m_acts_before 13)))]
set_option maxHeartbeats 4000000 in
set_option maxRecDepth 100000 in
theorem c_X7_pour (l : Launch) (dC : Nat → ClassId) (dI : Nat → Nat → Nat) (cI cZ cG : ClassId) (o : Nat) (o_text : Nat) (o_now : Nat) (o_trial : Nat) (o_acts : Nat) (o_slots : Nat) (o_tastes : Nat) (o_ways : Nat) (o_fraction : Nat) (o_now_cells : Nat) (o_now_standing : Nat) (o_acts_before : Nat) (o_acts_before_r : Nat → Nat) (sz : Nat) (v_seedNow : Int64) (v_now_jars : Int32) (v_now_weeks : Int32) (f_now_cells : Nat → Int32) (v_acts_count : Int32) (v_acts_next : Int32) (m_acts_before : Nat → Nat → Int32) (a1 : Int32) (a2 : Int32) {r0 : Int32} {n_now_cells : Nat → Int32} {n_acts_count : Int32} {n_acts_next : Int32} {n_acts_before : Nat → Nat → Int32} (hf : x7_pour v_now_jars v_now_weeks f_now_cells v_acts_count v_acts_next m_acts_before a1 a2 = some (r0, n_now_cells, n_acts_count, n_acts_next, n_acts_before)) : Met l yX7_pour wsX7_pour rm_X7_pour (va_Pc [.ref o, .int a1, .int a2] (gW (dC, dI) vwCl (gT cI cZ cG) (w_X7_pour cI cZ cG o o_text o_now o_trial o_acts o_slots o_tastes o_ways o_fraction o_now_cells o_now_standing o_acts_before o_acts_before_r v_seedNow v_now_jars v_now_weeks f_now_cells v_acts_count v_acts_next m_acts_before) sz)) (va_Qi (fun r _ => r = r0) (gE (dC, dI) vwCl (gT cI cZ cG) (w_X7_pour cI cZ cG o o_text o_now o_trial o_acts o_slots o_tastes o_ways o_fraction o_now_cells o_now_standing o_acts_before o_acts_before_r v_seedNow v_now_jars v_now_weeks n_now_cells n_acts_count n_acts_next n_acts_before) (va_A (w_X7_pour cI cZ cG o o_text o_now o_trial o_acts o_slots o_tastes o_ways o_fraction o_now_cells o_now_standing o_acts_before o_acts_before_r v_seedNow v_now_jars v_now_weeks f_now_cells v_acts_count v_acts_next m_acts_before) sz)) (va_A (w_X7_pour cI cZ cG o o_text o_now o_trial o_acts o_slots o_tastes o_ways o_fraction o_now_cells o_now_standing o_acts_before o_acts_before_r v_seedNow v_now_jars v_now_weeks f_now_cells v_acts_count v_acts_next m_acts_before) sz)) 0 0 (va_A (w_X7_pour cI cZ cG o o_text o_now o_trial o_acts o_slots o_tastes o_ways o_fraction o_now_cells o_now_standing o_acts_before o_acts_before_r v_seedNow v_now_jars v_now_weeks f_now_cells v_acts_count v_acts_next m_acts_before) sz) := by
  refine Met.ofW (cc := cX7_pour) (maxL := 4) (ret := (some .int)) (by decide) rfl ?_
  intro p e s m args below meth c s₁ B hml hv
  obtain ⟨rfl, hv⟩ := hv
  obtain ⟨hsz, hP, hK, hN, hD0⟩ := hv
  have hx := B.exec
  have hb := B.bytes
  have hr := B.returns
  have hts := atoms_spec (ws := wsX7_pour) B.pre
  have hown : s.vm.findClass RX7 = some m.cls := findClass_of_methodNamed B.named
  have hlocks := B.notSynchronized
  have hiX0 : ∀ w ∈ u_ws RX0 TX0 3, w ∈ wsX7_pour := fun w h => List.mem_cons_of_mem _ (List.mem_append_right _ h)
  have hiX2 : ∀ w ∈ u_ws RX2 TX2 4, w ∈ wsX7_pour := fun w h => List.mem_cons_of_mem _ (List.mem_append_left _ (List.mem_append_right _ h))
  have hiX7 : ∀ w ∈ u_ws RX7 TX7 9, w ∈ wsX7_pour := fun w h => List.mem_cons_of_mem _ (List.mem_append_left _ (List.mem_append_left _ (List.mem_append_right _ h)))
  subst hsz
  have hD := hD0.self (sz := s.heap.size)
  generalize hAe : va_A (w_X7_pour cI cZ cG o o_text o_now o_trial o_acts o_slots o_tastes o_ways o_fraction o_now_cells o_now_standing o_acts_before o_acts_before_r v_seedNow v_now_jars v_now_weeks f_now_cells v_acts_count v_acts_next m_acts_before) s.heap.size = A at hD ⊢
  have hA : ∀ q : Nat, s.heap.size ≤ q → A q := fun q h => by rw [← hAe]; exact Or.inr h
  clear hD0
  have hS : va_S A s.heap s.heap [] := va_S.rf
  have hP : va_P (dC, dI) vwCl (w_X7_pour cI cZ cG o o_text o_now o_trial o_acts o_slots o_tastes o_ways o_fraction o_now_cells o_now_standing o_acts_before o_acts_before_r v_seedNow v_now_jars v_now_weeks f_now_cells v_acts_count v_acts_next m_acts_before) s.heap := hP
  obtain ⟨Q, hQ⟩ : ∃ Q : State → Prop, Q = MQ below (va_Qi (fun r _ => r = r0) (gE (dC, dI) vwCl (gT cI cZ cG) (w_X7_pour cI cZ cG o o_text o_now o_trial o_acts o_slots o_tastes o_ways o_fraction o_now_cells o_now_standing o_acts_before o_acts_before_r v_seedNow v_now_jars v_now_weeks n_now_cells n_acts_count n_acts_next n_acts_before) A) A) (([Value.ref o, Value.int a1, Value.int a2] : List Value).toArray) s 0 0 A := ⟨_, rfl⟩
  have hl := lv_entry ([.ref o, .int a1, .int a2]) (n := 4) (Nat.le_of_ble_eq_true rfl)
  rw [← hQ, lg_entry_eq]
  generalize (lg_sl ([.ref o, .int a1, .int a2]) ++ List.replicate (4 - (lg_sl ([.ref o, .int a1, .int a2])).length) Slot.unset).toArray = ls at hl ⊢
  have hl : lv_has ls 4 [(0, .ref o), (1, .int a1), (2, .int a2)] := hl
  generalize hH : s.heap = H at hP hS ⊢
  have hS : va_S A s.heap H [] := by rw [hH]; exact hS
  generalize hlc : ([] : List Loc) = locs at hS ⊢
  show W p l e rm_X7_pour s m (([Value.ref o, Value.int a1, Value.int a2] : List Value).toArray) below meth c H locs 0 0 Q (F0 m 0 ls [])
  unfold x7_pour at hf
  refine lv_aload_n hx hb dX7_pour_0 rfl (lv_at hl 0 rfl) ?_
  refine va_get (D := (dC, dI)) (ci := 7) (v := .ref o_now) (C := RX7) (T := TX7) (N := 9) hx hb hts hiX7 hown hK hP 0 rfl rfl 1 (by decide) (hts (.fieldLink RX7 19 "GreenJars" "now" "LGreenJars$Shelf;") (by decide +kernel)) (fun _ h9 => h9) rfl dX7_pour_1 ?_
  refine lv_iload_n hx hb dX7_pour_4 rfl (lv_at hl 1 rfl) ?_
  obtain ⟨r1, hc2, hf⟩ := g_b1 hf
  refine g_rV (As := [.int a1]) (rest := []) ⟨hx, hb, hml, hown, hts⟩ (c_X2_has l dC dI cI cZ cG o_now o_now_cells o_now_standing  v_now_jars v_now_weeks a1 hc2) (cwV 1 hts gX7_pour_X2_has rfl rfl rfl (by decide +kernel) ⟨Nat.le_of_ble_eq_true rfl, Nat.le_of_ble_eq_true rfl⟩) hK hN (hP.sub [1] rfl) (va_recv hK hP (ci := 2) (q0 := 1) rfl rfl) rfl hl.1 rfl (Nat.le_of_ble_eq_true rfl) dX7_pour_5 ⟨Nat.zero_le _, Nat.zero_le _⟩ ?_
  refine lv_if_eq (tgt := 18) hx hb dX7_pour_8 (by decide) (fun c3 => ?_) (fun c3 => ?_)
  · have hf := g_pos c3 hf
    refine lv_iconst (v := (-1 : Int32)) hx hb dX7_pour_18 (by decide) ?_
    rw [hQ]
    cases hf
    exact W.iret hx hb hr (fun t ht hW => ⟨⟨_, (), rfl, rfl, by rw [ht]; exact hP, va_K.moved hW.alike hK, hD⟩, hS.F ht⟩) hS.2.2 dX7_pour_19
  · have hf := g_neg c3 hf
    refine lv_iload_n hx hb dX7_pour_11 rfl (lv_at hl 2 rfl) ?_
    obtain ⟨r4, hc5, hf⟩ := g_b1 hf
    refine g_rS (As := [.int a2]) (rest := []) ⟨hx, hb, hml, hown, hts⟩ (c_X7_isStuff l dC dI cI cZ cG    a2 hc5) (va_cwS 1 hts gX7_pour_X7_isStuff rfl rfl rfl (by decide +kernel) ⟨Nat.le_of_ble_eq_true rfl, Nat.le_of_ble_eq_true rfl⟩) hK hN (hP.sub [] rfl) rfl hl.1 rfl (Nat.le_of_ble_eq_true rfl) dX7_pour_12 ⟨Nat.zero_le _, Nat.zero_le _⟩ ?_
    refine lv_if_ne (tgt := 20) hx hb dX7_pour_15 (by decide) (fun c6 => ?_) (fun c6 => ?_)
    · have hf := g_neg c6 hf
      refine lv_aload_n hx hb dX7_pour_20 rfl (lv_at hl 0 rfl) ?_
      refine va_get (D := (dC, dI)) (ci := 7) (v := .ref o_now) (C := RX7) (T := TX7) (N := 9) hx hb hts hiX7 hown hK hP 0 rfl rfl 1 (by decide) (hts (.fieldLink RX7 19 "GreenJars" "now" "LGreenJars$Shelf;") (by decide +kernel)) (fun _ h9 => h9) rfl dX7_pour_21 ?_
      refine lv_iload_n hx hb dX7_pour_24 rfl (lv_at hl 1 rfl) ?_
      refine lv_iload_n hx hb dX7_pour_25 rfl (lv_at hl 2 rfl) ?_
      obtain ⟨r7, hc8, hf⟩ := g_b1 hf
      refine g_rV (As := [.int a1, .int a2]) (rest := []) ⟨hx, hb, hml, hown, hts⟩ (c_X2_canFill l dC dI cI cZ cG o_now o_now_cells o_now_standing  v_now_jars v_now_weeks f_now_cells a1 a2 hc8) (cwV 2 hts gX7_pour_X2_canFill rfl rfl rfl (by decide +kernel) ⟨Nat.le_of_ble_eq_true rfl, Nat.le_of_ble_eq_true rfl⟩) hK hN (hP.sub [1, 2] rfl) (va_recv hK hP (ci := 2) (q0 := 1) rfl rfl) rfl hl.1 rfl (Nat.le_of_ble_eq_true rfl) dX7_pour_26 ⟨Nat.zero_le _, Nat.zero_le _⟩ ?_
      refine lv_if_ne (tgt := 35) hx hb dX7_pour_29 (by decide) (fun c9 => ?_) (fun c9 => ?_)
      · have hf := g_neg c9 hf
        refine lv_aload_n hx hb dX7_pour_35 rfl (lv_at hl 0 rfl) ?_
        refine va_get (D := (dC, dI)) (ci := 7) (v := .ref o_acts) (C := RX7) (T := TX7) (N := 9) hx hb hts hiX7 hown hK hP 0 rfl rfl 3 (by decide) (hts (.fieldLink RX7 29 "GreenJars" "acts" "LGreenJars$Acts;") (by decide +kernel)) (fun _ h9 => h9) rfl dX7_pour_36 ?_
        refine lv_aload_n hx hb dX7_pour_39 rfl (lv_at hl 0 rfl) ?_
        refine va_get (D := (dC, dI)) (ci := 7) (v := .ref o_now) (C := RX7) (T := TX7) (N := 9) hx hb hts hiX7 hown hK hP 0 rfl rfl 1 (by decide) (hts (.fieldLink RX7 19 "GreenJars" "now" "LGreenJars$Shelf;") (by decide +kernel)) (fun _ h9 => h9) rfl dX7_pour_40 ?_
        obtain ⟨y10, y11, y12, hc13, hf⟩ := g_b3 hf
        refine g_wVv (As := [.ref o_now]) (rest := []) (wr := [(o, .inr (7, [.ref o_text, .ref o_now, .ref o_trial, .ref o_acts, .ref o_slots, .ref o_tastes, .ref o_ways, .ref o_fraction, .long v_seedNow]))]) (wn := (w_X7_pour cI cZ cG o o_text o_now o_trial o_acts o_slots o_tastes o_ways o_fraction o_now_cells o_now_standing o_acts_before o_acts_before_r v_seedNow v_now_jars v_now_weeks f_now_cells y10 y11 y12)) ⟨hx, hb, hml, hown, hts⟩ (c_X0_remember l dC dI cI cZ cG o_acts o_acts_before o_acts_before_r o_now o_now_cells o_now_standing H.size  v_acts_count v_acts_next m_acts_before v_now_jars v_now_weeks f_now_cells hc13) (cwV 1 hts gX7_pour_X0_remember rfl rfl rfl (by decide +kernel) ⟨Nat.le_of_ble_eq_true rfl, Nat.le_of_ble_eq_true rfl⟩) hK hN hP hD hS hA [3, 4, 5, 6, 7, 8, 9, 10, 11, 12, 13, 14, 15, 16, 17, 18, 1, 2] [0] [0, 17, 18, 1, 2, 3, 4, 5, 6, 7, 8, 9, 10, 11, 12, 13, 14, 15, 16] rfl rfl (by decide) rfl (by decide) (by decide) rfl (by decide) (va_recv hK hP (ci := 0) (q0 := 3) rfl rfl) rfl hl.1 rfl (Nat.le_of_ble_eq_true rfl) dX7_pour_43 ⟨Nat.zero_le _, Nat.zero_le _⟩ (fun H locs hP hD hS => ?_)
        refine lv_aload_n hx hb dX7_pour_46 rfl (lv_at hl 0 rfl) ?_
        refine va_get (D := (dC, dI)) (ci := 7) (v := .ref o_now) (C := RX7) (T := TX7) (N := 9) hx hb hts hiX7 hown hK hP 0 rfl rfl 1 (by decide) (hts (.fieldLink RX7 19 "GreenJars" "now" "LGreenJars$Shelf;") (by decide +kernel)) (fun _ h9 => h9) rfl dX7_pour_47 ?_
        refine lv_iload_n hx hb dX7_pour_50 rfl (lv_at hl 1 rfl) ?_
        refine lv_iconst (v := (2 : Int32)) hx hb dX7_pour_51 (by decide) ?_
        obtain ⟨r14, hc15, hf⟩ := g_b1 hf
        refine g_rV (As := [.int a1, .int (2 : Int32)]) (rest := []) ⟨hx, hb, hml, hown, hts⟩ (c_X2_part l dC dI cI cZ cG o_now o_now_cells o_now_standing  v_now_jars v_now_weeks f_now_cells a1 (2 : Int32) hc15) (cwV 2 hts gX7_pour_X2_part rfl rfl rfl (by decide +kernel) ⟨Nat.le_of_ble_eq_true rfl, Nat.le_of_ble_eq_true rfl⟩) hK hN (hP.sub [1, 2] rfl) (va_recv hK hP (ci := 2) (q0 := 1) rfl rfl) rfl hl.1 rfl (Nat.le_of_ble_eq_true rfl) dX7_pour_52 ⟨Nat.zero_le _, Nat.zero_le _⟩ ?_
        refine lv_istore_n (lv' := [(3, .int r14), (0, .ref o), (1, .int a1), (2, .int a2)]) hx hb dX7_pour_55 rfl hl (by decide) rfl (fun ls hl => ?_)
        refine lv_aload_n hx hb dX7_pour_56 rfl (lv_at hl 1 rfl) ?_
        refine va_get (D := (dC, dI)) (ci := 7) (v := .ref o_now) (C := RX7) (T := TX7) (N := 9) hx hb hts hiX7 hown hK hP 0 rfl rfl 1 (by decide) (hts (.fieldLink RX7 19 "GreenJars" "now" "LGreenJars$Shelf;") (by decide +kernel)) (fun _ h9 => h9) rfl dX7_pour_57 ?_
        refine lv_iload_n hx hb dX7_pour_60 rfl (lv_at hl 2 rfl) ?_
        refine lv_iload_n hx hb dX7_pour_61 rfl (lv_at hl 3 rfl) ?_
        obtain ⟨y16, hc17, hf⟩ := g_b1 hf
        refine g_wVv (As := [.int a1, .int a2]) (rest := []) (wr := [(o, .inr (7, [.ref o_text, .ref o_now, .ref o_trial, .ref o_acts, .ref o_slots, .ref o_tastes, .ref o_ways, .ref o_fraction, .long v_seedNow])), (o_acts, .inr (0, [.ref o_acts_before, .int y10, .int y11])), (o_acts_before, .inl (cG, 14, .inr (.inr (.inr (.inr (gRf 14 o_acts_before_r)))))), ((o_acts_before_r 0), .inl (cI, 49, .inl (y12 0))), ((o_acts_before_r 1), .inl (cI, 49, .inl (y12 1))), ((o_acts_before_r 2), .inl (cI, 49, .inl (y12 2))), ((o_acts_before_r 3), .inl (cI, 49, .inl (y12 3))), ((o_acts_before_r 4), .inl (cI, 49, .inl (y12 4))), ((o_acts_before_r 5), .inl (cI, 49, .inl (y12 5))), ((o_acts_before_r 6), .inl (cI, 49, .inl (y12 6))), ((o_acts_before_r 7), .inl (cI, 49, .inl (y12 7))), ((o_acts_before_r 8), .inl (cI, 49, .inl (y12 8))), ((o_acts_before_r 9), .inl (cI, 49, .inl (y12 9))), ((o_acts_before_r 10), .inl (cI, 49, .inl (y12 10))), ((o_acts_before_r 11), .inl (cI, 49, .inl (y12 11))), ((o_acts_before_r 12), .inl (cI, 49, .inl (y12 12))), ((o_acts_before_r 13), .inl (cI, 49, .inl (y12 13)))]) (wn := (w_X7_pour cI cZ cG o o_text o_now o_trial o_acts o_slots o_tastes o_ways o_fraction o_now_cells o_now_standing o_acts_before o_acts_before_r v_seedNow v_now_jars v_now_weeks y16 y10 y11 y12)) ⟨hx, hb, hml, hown, hts⟩ (c_X2_fill l dC dI cI cZ cG o_now o_now_cells o_now_standing H.size  v_now_jars v_now_weeks f_now_cells a1 a2 hc17) (cwV 2 hts gX7_pour_X2_fill rfl rfl rfl (by decide +kernel) ⟨Nat.le_of_ble_eq_true rfl, Nat.le_of_ble_eq_true rfl⟩) hK hN hP hD hS hA [1, 2] [0, 3, 4, 5, 6, 7, 8, 9, 10, 11, 12, 13, 14, 15, 16, 17, 18] [0, 17, 18, 1, 2, 3, 4, 5, 6, 7, 8, 9, 10, 11, 12, 13, 14, 15, 16] rfl rfl (by decide) rfl (by decide) (by decide) rfl (by decide) (va_recv hK hP (ci := 2) (q0 := 1) rfl rfl) rfl hl.1 rfl (Nat.le_of_ble_eq_true rfl) dX7_pour_62 ⟨Nat.zero_le _, Nat.zero_le _⟩ (fun H locs hP hD hS => ?_)
        refine lv_iload_n hx hb dX7_pour_65 rfl (lv_at hl 0 rfl) ?_
        rw [hQ]
        cases hf
        exact W.iret hx hb hr (fun t ht hW => ⟨⟨_, (), rfl, rfl, by rw [ht]; exact hP, va_K.moved hW.alike hK, hD⟩, hS.F ht⟩) hS.2.2 dX7_pour_66
      · have hf := g_pos c9 hf
        refine lv_bipush (v := (-3 : Int32)) hx hb dX7_pour_32 (by decide +kernel) ?_
        rw [hQ]
        cases hf
        exact W.iret hx hb hr (fun t ht hW => ⟨⟨_, (), rfl, rfl, by rw [ht]; exact hP, va_K.moved hW.alike hK, hD⟩, hS.F ht⟩) hS.2.2 dX7_pour_34
    · have hf := g_pos c6 hf
      refine lv_iconst (v := (-1 : Int32)) hx hb dX7_pour_18 (by decide) ?_
      rw [hQ]
      cases hf
      exact W.iret hx hb hr (fun t ht hW => ⟨⟨_, (), rfl, rfl, by rw [ht]; exact hP, va_K.moved hW.alike hK, hD⟩, hS.F ht⟩) hS.2.2 dX7_pour_19
abbrev rm_X7_open : Room := { frames := 3, cells := 0, slots := 0, locals := 68 }
abbrev w_X7_open (cI cZ cG : ClassId) (o : Nat) (o_text : Nat) (o_now : Nat) (o_trial : Nat) (o_acts : Nat) (o_slots : Nat) (o_tastes : Nat) (o_ways : Nat) (o_fraction : Nat) (o_now_cells : Nat) (o_now_standing : Nat) (o_acts_before : Nat) (o_acts_before_r : Nat → Nat) (v_seedNow : Int64) (v_now_jars : Int32) (v_now_weeks : Int32) (f_now_cells : Nat → Int32) (v_acts_count : Int32) (v_acts_next : Int32) (m_acts_before : Nat → Nat → Int32) : va_W := [(o, .inr (7, [.ref o_text, .ref o_now, .ref o_trial, .ref o_acts, .ref o_slots, .ref o_tastes, .ref o_ways, .ref o_fraction, .long v_seedNow])), (o_now, .inr (2, [.ref o_now_cells, .ref o_now_standing, .int v_now_jars, .int v_now_weeks])), (o_now_cells, .inl (cI, 48, .inl f_now_cells)), (o_acts, .inr (0, [.ref o_acts_before, .int v_acts_count, .int v_acts_next])), (o_acts_before, .inl (cG, 14, .inr (.inr (.inr (.inr (gRf 14 o_acts_before_r)))))), ((o_acts_before_r 0), .inl (cI, 49, .inl (m_acts_before 0))), ((o_acts_before_r 1), .inl (cI, 49, .inl (m_acts_before 1))), ((o_acts_before_r 2), .inl (cI, 49, .inl (m_acts_before 2))), ((o_acts_before_r 3), .inl (cI, 49, .inl (m_acts_before 3))), ((o_acts_before_r 4), .inl (cI, 49, .inl (m_acts_before 4))), ((o_acts_before_r 5), .inl (cI, 49, .inl (m_acts_before 5))), ((o_acts_before_r 6), .inl (cI, 49, .inl (m_acts_before 6))), ((o_acts_before_r 7), .inl (cI, 49, .inl (m_acts_before 7))), ((o_acts_before_r 8), .inl (cI, 49, .inl (m_acts_before 8))), ((o_acts_before_r 9), .inl (cI, 49, .inl (m_acts_before 9))), ((o_acts_before_r 10), .inl (cI, 49, .inl (m_acts_before 10))), ((o_acts_before_r 11), .inl (cI, 49, .inl (m_acts_before 11))), ((o_acts_before_r 12), .inl (cI, 49, .inl (m_acts_before 12))), ((o_acts_before_r 13), .inl (cI, 49, .inl (m_acts_before 13)))]
set_option maxHeartbeats 4000000 in
set_option maxRecDepth 100000 in
theorem c_X7_open (l : Launch) (dC : Nat → ClassId) (dI : Nat → Nat → Nat) (cI cZ cG : ClassId) (o : Nat) (o_text : Nat) (o_now : Nat) (o_trial : Nat) (o_acts : Nat) (o_slots : Nat) (o_tastes : Nat) (o_ways : Nat) (o_fraction : Nat) (o_now_cells : Nat) (o_now_standing : Nat) (o_acts_before : Nat) (o_acts_before_r : Nat → Nat) (sz : Nat) (v_seedNow : Int64) (v_now_jars : Int32) (v_now_weeks : Int32) (f_now_cells : Nat → Int32) (v_acts_count : Int32) (v_acts_next : Int32) (m_acts_before : Nat → Nat → Int32) (a1 : Int32) {r0 : Int32} {n_now_cells : Nat → Int32} {n_acts_count : Int32} {n_acts_next : Int32} {n_acts_before : Nat → Nat → Int32} (hf : x7_open v_now_jars v_now_weeks f_now_cells v_acts_count v_acts_next m_acts_before a1 = some (r0, n_now_cells, n_acts_count, n_acts_next, n_acts_before)) : Met l yX7_open wsX7_open rm_X7_open (va_Pc [.ref o, .int a1] (gW (dC, dI) vwCl (gT cI cZ cG) (w_X7_open cI cZ cG o o_text o_now o_trial o_acts o_slots o_tastes o_ways o_fraction o_now_cells o_now_standing o_acts_before o_acts_before_r v_seedNow v_now_jars v_now_weeks f_now_cells v_acts_count v_acts_next m_acts_before) sz)) (va_Qi (fun r _ => r = r0) (gE (dC, dI) vwCl (gT cI cZ cG) (w_X7_open cI cZ cG o o_text o_now o_trial o_acts o_slots o_tastes o_ways o_fraction o_now_cells o_now_standing o_acts_before o_acts_before_r v_seedNow v_now_jars v_now_weeks n_now_cells n_acts_count n_acts_next n_acts_before) (va_A (w_X7_open cI cZ cG o o_text o_now o_trial o_acts o_slots o_tastes o_ways o_fraction o_now_cells o_now_standing o_acts_before o_acts_before_r v_seedNow v_now_jars v_now_weeks f_now_cells v_acts_count v_acts_next m_acts_before) sz)) (va_A (w_X7_open cI cZ cG o o_text o_now o_trial o_acts o_slots o_tastes o_ways o_fraction o_now_cells o_now_standing o_acts_before o_acts_before_r v_seedNow v_now_jars v_now_weeks f_now_cells v_acts_count v_acts_next m_acts_before) sz)) 0 0 (va_A (w_X7_open cI cZ cG o o_text o_now o_trial o_acts o_slots o_tastes o_ways o_fraction o_now_cells o_now_standing o_acts_before o_acts_before_r v_seedNow v_now_jars v_now_weeks f_now_cells v_acts_count v_acts_next m_acts_before) sz) := by
  refine Met.ofW (cc := cX7_open) (maxL := 2) (ret := (some .int)) (by decide) rfl ?_
  intro p e s m args below meth c s₁ B hml hv
  obtain ⟨rfl, hv⟩ := hv
  obtain ⟨hsz, hP, hK, hN, hD0⟩ := hv
  have hx := B.exec
  have hb := B.bytes
  have hr := B.returns
  have hts := atoms_spec (ws := wsX7_open) B.pre
  have hown : s.vm.findClass RX7 = some m.cls := findClass_of_methodNamed B.named
  have hlocks := B.notSynchronized
  have hiX0 : ∀ w ∈ u_ws RX0 TX0 3, w ∈ wsX7_open := fun w h => List.mem_cons_of_mem _ (List.mem_append_right _ h)
  have hiX2 : ∀ w ∈ u_ws RX2 TX2 4, w ∈ wsX7_open := fun w h => List.mem_cons_of_mem _ (List.mem_append_left _ (List.mem_append_right _ h))
  have hiX7 : ∀ w ∈ u_ws RX7 TX7 9, w ∈ wsX7_open := fun w h => List.mem_cons_of_mem _ (List.mem_append_left _ (List.mem_append_left _ (List.mem_append_right _ h)))
  subst hsz
  have hD := hD0.self (sz := s.heap.size)
  generalize hAe : va_A (w_X7_open cI cZ cG o o_text o_now o_trial o_acts o_slots o_tastes o_ways o_fraction o_now_cells o_now_standing o_acts_before o_acts_before_r v_seedNow v_now_jars v_now_weeks f_now_cells v_acts_count v_acts_next m_acts_before) s.heap.size = A at hD ⊢
  have hA : ∀ q : Nat, s.heap.size ≤ q → A q := fun q h => by rw [← hAe]; exact Or.inr h
  clear hD0
  have hS : va_S A s.heap s.heap [] := va_S.rf
  have hP : va_P (dC, dI) vwCl (w_X7_open cI cZ cG o o_text o_now o_trial o_acts o_slots o_tastes o_ways o_fraction o_now_cells o_now_standing o_acts_before o_acts_before_r v_seedNow v_now_jars v_now_weeks f_now_cells v_acts_count v_acts_next m_acts_before) s.heap := hP
  obtain ⟨Q, hQ⟩ : ∃ Q : State → Prop, Q = MQ below (va_Qi (fun r _ => r = r0) (gE (dC, dI) vwCl (gT cI cZ cG) (w_X7_open cI cZ cG o o_text o_now o_trial o_acts o_slots o_tastes o_ways o_fraction o_now_cells o_now_standing o_acts_before o_acts_before_r v_seedNow v_now_jars v_now_weeks n_now_cells n_acts_count n_acts_next n_acts_before) A) A) (([Value.ref o, Value.int a1] : List Value).toArray) s 0 0 A := ⟨_, rfl⟩
  have hl := lv_entry ([.ref o, .int a1]) (n := 2) (Nat.le_of_ble_eq_true rfl)
  rw [← hQ, lg_entry_eq]
  generalize (lg_sl ([.ref o, .int a1]) ++ List.replicate (2 - (lg_sl ([.ref o, .int a1])).length) Slot.unset).toArray = ls at hl ⊢
  have hl : lv_has ls 2 [(0, .ref o), (1, .int a1)] := hl
  generalize hH : s.heap = H at hP hS ⊢
  have hS : va_S A s.heap H [] := by rw [hH]; exact hS
  generalize hlc : ([] : List Loc) = locs at hS ⊢
  show W p l e rm_X7_open s m (([Value.ref o, Value.int a1] : List Value).toArray) below meth c H locs 0 0 Q (F0 m 0 ls [])
  unfold x7_open at hf
  refine lv_aload_n hx hb dX7_open_0 rfl (lv_at hl 0 rfl) ?_
  refine va_get (D := (dC, dI)) (ci := 7) (v := .ref o_now) (C := RX7) (T := TX7) (N := 9) hx hb hts hiX7 hown hK hP 0 rfl rfl 1 (by decide) (hts (.fieldLink RX7 19 "GreenJars" "now" "LGreenJars$Shelf;") (by decide +kernel)) (fun _ h9 => h9) rfl dX7_open_1 ?_
  refine lv_iload_n hx hb dX7_open_4 rfl (lv_at hl 1 rfl) ?_
  obtain ⟨r1, hc2, hf⟩ := g_b1 hf
  refine g_rV (As := [.int a1]) (rest := []) ⟨hx, hb, hml, hown, hts⟩ (c_X2_has l dC dI cI cZ cG o_now o_now_cells o_now_standing  v_now_jars v_now_weeks a1 hc2) (cwV 1 hts gX7_open_X2_has rfl rfl rfl (by decide +kernel) ⟨Nat.le_of_ble_eq_true rfl, Nat.le_of_ble_eq_true rfl⟩) hK hN (hP.sub [1] rfl) (va_recv hK hP (ci := 2) (q0 := 1) rfl rfl) rfl hl.1 rfl (Nat.le_of_ble_eq_true rfl) dX7_open_5 ⟨Nat.zero_le _, Nat.zero_le _⟩ ?_
  refine lv_if_ne (tgt := 13) hx hb dX7_open_8 (by decide) (fun c3 => ?_) (fun c3 => ?_)
  · have hf := g_neg c3 hf
    refine lv_aload_n hx hb dX7_open_13 rfl (lv_at hl 0 rfl) ?_
    refine va_get (D := (dC, dI)) (ci := 7) (v := .ref o_now) (C := RX7) (T := TX7) (N := 9) hx hb hts hiX7 hown hK hP 0 rfl rfl 1 (by decide) (hts (.fieldLink RX7 19 "GreenJars" "now" "LGreenJars$Shelf;") (by decide +kernel)) (fun _ h9 => h9) rfl dX7_open_14 ?_
    refine lv_iload_n hx hb dX7_open_17 rfl (lv_at hl 1 rfl) ?_
    obtain ⟨r4, hc5, hf⟩ := g_b1 hf
    refine g_rV (As := [.int a1]) (rest := []) ⟨hx, hb, hml, hown, hts⟩ (c_X2_isWhole l dC dI cI cZ cG o_now o_now_cells o_now_standing  v_now_jars v_now_weeks f_now_cells a1 hc5) (cwV 1 hts gX7_open_X2_isWhole rfl rfl rfl (by decide +kernel) ⟨Nat.le_of_ble_eq_true rfl, Nat.le_of_ble_eq_true rfl⟩) hK hN (hP.sub [1, 2] rfl) (va_recv hK hP (ci := 2) (q0 := 1) rfl rfl) rfl hl.1 rfl (Nat.le_of_ble_eq_true rfl) dX7_open_18 ⟨Nat.zero_le _, Nat.zero_le _⟩ ?_
    refine lv_if_ne (tgt := 27) hx hb dX7_open_21 (by decide) (fun c6 => ?_) (fun c6 => ?_)
    · have hf := g_neg c6 hf
      refine lv_aload_n hx hb dX7_open_27 rfl (lv_at hl 0 rfl) ?_
      refine va_get (D := (dC, dI)) (ci := 7) (v := .ref o_acts) (C := RX7) (T := TX7) (N := 9) hx hb hts hiX7 hown hK hP 0 rfl rfl 3 (by decide) (hts (.fieldLink RX7 29 "GreenJars" "acts" "LGreenJars$Acts;") (by decide +kernel)) (fun _ h9 => h9) rfl dX7_open_28 ?_
      refine lv_aload_n hx hb dX7_open_31 rfl (lv_at hl 0 rfl) ?_
      refine va_get (D := (dC, dI)) (ci := 7) (v := .ref o_now) (C := RX7) (T := TX7) (N := 9) hx hb hts hiX7 hown hK hP 0 rfl rfl 1 (by decide) (hts (.fieldLink RX7 19 "GreenJars" "now" "LGreenJars$Shelf;") (by decide +kernel)) (fun _ h9 => h9) rfl dX7_open_32 ?_
      obtain ⟨y7, y8, y9, hc10, hf⟩ := g_b3 hf
      refine g_wVv (As := [.ref o_now]) (rest := []) (wr := [(o, .inr (7, [.ref o_text, .ref o_now, .ref o_trial, .ref o_acts, .ref o_slots, .ref o_tastes, .ref o_ways, .ref o_fraction, .long v_seedNow]))]) (wn := (w_X7_open cI cZ cG o o_text o_now o_trial o_acts o_slots o_tastes o_ways o_fraction o_now_cells o_now_standing o_acts_before o_acts_before_r v_seedNow v_now_jars v_now_weeks f_now_cells y7 y8 y9)) ⟨hx, hb, hml, hown, hts⟩ (c_X0_remember l dC dI cI cZ cG o_acts o_acts_before o_acts_before_r o_now o_now_cells o_now_standing H.size  v_acts_count v_acts_next m_acts_before v_now_jars v_now_weeks f_now_cells hc10) (cwV 1 hts gX7_open_X0_remember rfl rfl rfl (by decide +kernel) ⟨Nat.le_of_ble_eq_true rfl, Nat.le_of_ble_eq_true rfl⟩) hK hN hP hD hS hA [3, 4, 5, 6, 7, 8, 9, 10, 11, 12, 13, 14, 15, 16, 17, 18, 1, 2] [0] [0, 17, 18, 1, 2, 3, 4, 5, 6, 7, 8, 9, 10, 11, 12, 13, 14, 15, 16] rfl rfl (by decide) rfl (by decide) (by decide) rfl (by decide) (va_recv hK hP (ci := 0) (q0 := 3) rfl rfl) rfl hl.1 rfl (Nat.le_of_ble_eq_true rfl) dX7_open_35 ⟨Nat.zero_le _, Nat.zero_le _⟩ (fun H locs hP hD hS => ?_)
      refine lv_aload_n hx hb dX7_open_38 rfl (lv_at hl 0 rfl) ?_
      refine va_get (D := (dC, dI)) (ci := 7) (v := .ref o_now) (C := RX7) (T := TX7) (N := 9) hx hb hts hiX7 hown hK hP 0 rfl rfl 1 (by decide) (hts (.fieldLink RX7 19 "GreenJars" "now" "LGreenJars$Shelf;") (by decide +kernel)) (fun _ h9 => h9) rfl dX7_open_39 ?_
      refine lv_iload_n hx hb dX7_open_42 rfl (lv_at hl 1 rfl) ?_
      obtain ⟨y11, hc12, hf⟩ := g_b1 hf
      refine g_wVv (As := [.int a1]) (rest := []) (wr := [(o, .inr (7, [.ref o_text, .ref o_now, .ref o_trial, .ref o_acts, .ref o_slots, .ref o_tastes, .ref o_ways, .ref o_fraction, .long v_seedNow])), (o_acts, .inr (0, [.ref o_acts_before, .int y7, .int y8])), (o_acts_before, .inl (cG, 14, .inr (.inr (.inr (.inr (gRf 14 o_acts_before_r)))))), ((o_acts_before_r 0), .inl (cI, 49, .inl (y9 0))), ((o_acts_before_r 1), .inl (cI, 49, .inl (y9 1))), ((o_acts_before_r 2), .inl (cI, 49, .inl (y9 2))), ((o_acts_before_r 3), .inl (cI, 49, .inl (y9 3))), ((o_acts_before_r 4), .inl (cI, 49, .inl (y9 4))), ((o_acts_before_r 5), .inl (cI, 49, .inl (y9 5))), ((o_acts_before_r 6), .inl (cI, 49, .inl (y9 6))), ((o_acts_before_r 7), .inl (cI, 49, .inl (y9 7))), ((o_acts_before_r 8), .inl (cI, 49, .inl (y9 8))), ((o_acts_before_r 9), .inl (cI, 49, .inl (y9 9))), ((o_acts_before_r 10), .inl (cI, 49, .inl (y9 10))), ((o_acts_before_r 11), .inl (cI, 49, .inl (y9 11))), ((o_acts_before_r 12), .inl (cI, 49, .inl (y9 12))), ((o_acts_before_r 13), .inl (cI, 49, .inl (y9 13)))]) (wn := (w_X7_open cI cZ cG o o_text o_now o_trial o_acts o_slots o_tastes o_ways o_fraction o_now_cells o_now_standing o_acts_before o_acts_before_r v_seedNow v_now_jars v_now_weeks y11 y7 y8 y9)) ⟨hx, hb, hml, hown, hts⟩ (c_X2_letOut l dC dI cI cZ cG o_now o_now_cells o_now_standing H.size  v_now_jars v_now_weeks f_now_cells a1 hc12) (cwV 1 hts gX7_open_X2_letOut rfl rfl rfl (by decide +kernel) ⟨Nat.le_of_ble_eq_true rfl, Nat.le_of_ble_eq_true rfl⟩) hK hN hP hD hS hA [1, 2] [0, 3, 4, 5, 6, 7, 8, 9, 10, 11, 12, 13, 14, 15, 16, 17, 18] [0, 17, 18, 1, 2, 3, 4, 5, 6, 7, 8, 9, 10, 11, 12, 13, 14, 15, 16] rfl rfl (by decide) rfl (by decide) (by decide) rfl (by decide) (va_recv hK hP (ci := 2) (q0 := 1) rfl rfl) rfl hl.1 rfl (Nat.le_of_ble_eq_true rfl) dX7_open_43 ⟨Nat.zero_le _, Nat.zero_le _⟩ (fun H locs hP hD hS => ?_)
      refine lv_aload_n hx hb dX7_open_46 rfl (lv_at hl 0 rfl) ?_
      refine va_get (D := (dC, dI)) (ci := 7) (v := .ref o_now) (C := RX7) (T := TX7) (N := 9) hx hb hts hiX7 hown hK hP 0 rfl rfl 1 (by decide) (hts (.fieldLink RX7 19 "GreenJars" "now" "LGreenJars$Shelf;") (by decide +kernel)) (fun _ h9 => h9) rfl dX7_open_47 ?_
      refine lv_iload_n hx hb dX7_open_50 rfl (lv_at hl 1 rfl) ?_
      refine lv_iconst (v := (1 : Int32)) hx hb dX7_open_51 (by decide) ?_
      obtain ⟨r13, hc14, hf⟩ := g_b1 hf
      refine g_rV (As := [.int a1, .int (1 : Int32)]) (rest := []) ⟨hx, hb, hml, hown, hts⟩ (c_X2_part l dC dI cI cZ cG o_now o_now_cells o_now_standing  v_now_jars v_now_weeks y11 a1 (1 : Int32) hc14) (cwV 2 hts gX7_open_X2_part rfl rfl rfl (by decide +kernel) ⟨Nat.le_of_ble_eq_true rfl, Nat.le_of_ble_eq_true rfl⟩) hK hN (hP.sub [1, 2] rfl) (va_recv hK hP (ci := 2) (q0 := 1) rfl rfl) rfl hl.1 rfl (Nat.le_of_ble_eq_true rfl) dX7_open_52 ⟨Nat.zero_le _, Nat.zero_le _⟩ ?_
      rw [hQ]
      cases hf
      exact W.iret hx hb hr (fun t ht hW => ⟨⟨_, (), rfl, rfl, by rw [ht]; exact hP, va_K.moved hW.alike hK, hD⟩, hS.F ht⟩) hS.2.2 dX7_open_55
    · have hf := g_pos c6 hf
      refine lv_bipush (v := (-3 : Int32)) hx hb dX7_open_24 (by decide +kernel) ?_
      rw [hQ]
      cases hf
      exact W.iret hx hb hr (fun t ht hW => ⟨⟨_, (), rfl, rfl, by rw [ht]; exact hP, va_K.moved hW.alike hK, hD⟩, hS.F ht⟩) hS.2.2 dX7_open_26
  · have hf := g_pos c3 hf
    refine lv_iconst (v := (-1 : Int32)) hx hb dX7_open_11 (by decide) ?_
    rw [hQ]
    cases hf
    exact W.iret hx hb hr (fun t ht hW => ⟨⟨_, (), rfl, rfl, by rw [ht]; exact hP, va_K.moved hW.alike hK, hD⟩, hS.F ht⟩) hS.2.2 dX7_open_12
abbrev rm_X7_undo : Room := { frames := 3, cells := 0, slots := 0, locals := 68 }
abbrev w_X7_undo (cI cZ cG : ClassId) (o : Nat) (o_text : Nat) (o_now : Nat) (o_trial : Nat) (o_acts : Nat) (o_slots : Nat) (o_tastes : Nat) (o_ways : Nat) (o_fraction : Nat) (o_now_cells : Nat) (o_now_standing : Nat) (o_acts_before : Nat) (o_acts_before_r : Nat → Nat) (v_seedNow : Int64) (v_now_jars : Int32) (v_now_weeks : Int32) (f_now_cells : Nat → Int32) (v_acts_count : Int32) (v_acts_next : Int32) (m_acts_before : Nat → Nat → Int32) : va_W := [(o, .inr (7, [.ref o_text, .ref o_now, .ref o_trial, .ref o_acts, .ref o_slots, .ref o_tastes, .ref o_ways, .ref o_fraction, .long v_seedNow])), (o_now, .inr (2, [.ref o_now_cells, .ref o_now_standing, .int v_now_jars, .int v_now_weeks])), (o_now_cells, .inl (cI, 48, .inl f_now_cells)), (o_acts, .inr (0, [.ref o_acts_before, .int v_acts_count, .int v_acts_next])), (o_acts_before, .inl (cG, 14, .inr (.inr (.inr (.inr (gRf 14 o_acts_before_r)))))), ((o_acts_before_r 0), .inl (cI, 49, .inl (m_acts_before 0))), ((o_acts_before_r 1), .inl (cI, 49, .inl (m_acts_before 1))), ((o_acts_before_r 2), .inl (cI, 49, .inl (m_acts_before 2))), ((o_acts_before_r 3), .inl (cI, 49, .inl (m_acts_before 3))), ((o_acts_before_r 4), .inl (cI, 49, .inl (m_acts_before 4))), ((o_acts_before_r 5), .inl (cI, 49, .inl (m_acts_before 5))), ((o_acts_before_r 6), .inl (cI, 49, .inl (m_acts_before 6))), ((o_acts_before_r 7), .inl (cI, 49, .inl (m_acts_before 7))), ((o_acts_before_r 8), .inl (cI, 49, .inl (m_acts_before 8))), ((o_acts_before_r 9), .inl (cI, 49, .inl (m_acts_before 9))), ((o_acts_before_r 10), .inl (cI, 49, .inl (m_acts_before 10))), ((o_acts_before_r 11), .inl (cI, 49, .inl (m_acts_before 11))), ((o_acts_before_r 12), .inl (cI, 49, .inl (m_acts_before 12))), ((o_acts_before_r 13), .inl (cI, 49, .inl (m_acts_before 13)))]
set_option maxHeartbeats 4000000 in
set_option maxRecDepth 100000 in
theorem c_X7_undo (l : Launch) (dC : Nat → ClassId) (dI : Nat → Nat → Nat) (cI cZ cG : ClassId) (o : Nat) (o_text : Nat) (o_now : Nat) (o_trial : Nat) (o_acts : Nat) (o_slots : Nat) (o_tastes : Nat) (o_ways : Nat) (o_fraction : Nat) (o_now_cells : Nat) (o_now_standing : Nat) (o_acts_before : Nat) (o_acts_before_r : Nat → Nat) (sz : Nat) (v_seedNow : Int64) (v_now_jars : Int32) (v_now_weeks : Int32) (f_now_cells : Nat → Int32) (v_acts_count : Int32) (v_acts_next : Int32) (m_acts_before : Nat → Nat → Int32) {r0 : Int32} {n_now_weeks : Int32} {n_now_cells : Nat → Int32} {n_acts_count : Int32} {n_acts_next : Int32} (hf : x7_undo v_now_weeks f_now_cells v_acts_count v_acts_next m_acts_before = some (r0, n_now_weeks, n_now_cells, n_acts_count, n_acts_next)) : Met l yX7_undo wsX7_undo rm_X7_undo (va_Pc [.ref o] (gW (dC, dI) vwCl (gT cI cZ cG) (w_X7_undo cI cZ cG o o_text o_now o_trial o_acts o_slots o_tastes o_ways o_fraction o_now_cells o_now_standing o_acts_before o_acts_before_r v_seedNow v_now_jars v_now_weeks f_now_cells v_acts_count v_acts_next m_acts_before) sz)) (va_Qi (fun r _ => r = r0) (gE (dC, dI) vwCl (gT cI cZ cG) (w_X7_undo cI cZ cG o o_text o_now o_trial o_acts o_slots o_tastes o_ways o_fraction o_now_cells o_now_standing o_acts_before o_acts_before_r v_seedNow v_now_jars n_now_weeks n_now_cells n_acts_count n_acts_next m_acts_before) (va_A (w_X7_undo cI cZ cG o o_text o_now o_trial o_acts o_slots o_tastes o_ways o_fraction o_now_cells o_now_standing o_acts_before o_acts_before_r v_seedNow v_now_jars v_now_weeks f_now_cells v_acts_count v_acts_next m_acts_before) sz)) (va_A (w_X7_undo cI cZ cG o o_text o_now o_trial o_acts o_slots o_tastes o_ways o_fraction o_now_cells o_now_standing o_acts_before o_acts_before_r v_seedNow v_now_jars v_now_weeks f_now_cells v_acts_count v_acts_next m_acts_before) sz)) 0 0 (va_A (w_X7_undo cI cZ cG o o_text o_now o_trial o_acts o_slots o_tastes o_ways o_fraction o_now_cells o_now_standing o_acts_before o_acts_before_r v_seedNow v_now_jars v_now_weeks f_now_cells v_acts_count v_acts_next m_acts_before) sz) := by
  refine Met.ofW (cc := cX7_undo) (maxL := 1) (ret := (some .int)) (by decide) rfl ?_
  intro p e s m args below meth c s₁ B hml hv
  obtain ⟨rfl, hv⟩ := hv
  obtain ⟨hsz, hP, hK, hN, hD0⟩ := hv
  have hx := B.exec
  have hb := B.bytes
  have hr := B.returns
  have hts := atoms_spec (ws := wsX7_undo) B.pre
  have hown : s.vm.findClass RX7 = some m.cls := findClass_of_methodNamed B.named
  have hlocks := B.notSynchronized
  have hiX0 : ∀ w ∈ u_ws RX0 TX0 3, w ∈ wsX7_undo := fun w h => List.mem_cons_of_mem _ (List.mem_append_left _ (List.mem_append_right _ h))
  have hiX2 : ∀ w ∈ u_ws RX2 TX2 4, w ∈ wsX7_undo := fun w h => List.mem_cons_of_mem _ (List.mem_append_right _ h)
  have hiX7 : ∀ w ∈ u_ws RX7 TX7 9, w ∈ wsX7_undo := fun w h => List.mem_cons_of_mem _ (List.mem_append_left _ (List.mem_append_left _ (List.mem_append_right _ h)))
  subst hsz
  have hD := hD0.self (sz := s.heap.size)
  generalize hAe : va_A (w_X7_undo cI cZ cG o o_text o_now o_trial o_acts o_slots o_tastes o_ways o_fraction o_now_cells o_now_standing o_acts_before o_acts_before_r v_seedNow v_now_jars v_now_weeks f_now_cells v_acts_count v_acts_next m_acts_before) s.heap.size = A at hD ⊢
  have hA : ∀ q : Nat, s.heap.size ≤ q → A q := fun q h => by rw [← hAe]; exact Or.inr h
  clear hD0
  have hS : va_S A s.heap s.heap [] := va_S.rf
  have hP : va_P (dC, dI) vwCl (w_X7_undo cI cZ cG o o_text o_now o_trial o_acts o_slots o_tastes o_ways o_fraction o_now_cells o_now_standing o_acts_before o_acts_before_r v_seedNow v_now_jars v_now_weeks f_now_cells v_acts_count v_acts_next m_acts_before) s.heap := hP
  obtain ⟨Q, hQ⟩ : ∃ Q : State → Prop, Q = MQ below (va_Qi (fun r _ => r = r0) (gE (dC, dI) vwCl (gT cI cZ cG) (w_X7_undo cI cZ cG o o_text o_now o_trial o_acts o_slots o_tastes o_ways o_fraction o_now_cells o_now_standing o_acts_before o_acts_before_r v_seedNow v_now_jars n_now_weeks n_now_cells n_acts_count n_acts_next m_acts_before) A) A) (([Value.ref o] : List Value).toArray) s 0 0 A := ⟨_, rfl⟩
  have hl := lv_entry ([.ref o]) (n := 1) (Nat.le_of_ble_eq_true rfl)
  rw [← hQ, lg_entry_eq]
  generalize (lg_sl ([.ref o]) ++ List.replicate (1 - (lg_sl ([.ref o])).length) Slot.unset).toArray = ls at hl ⊢
  have hl : lv_has ls 1 [(0, .ref o)] := hl
  generalize hH : s.heap = H at hP hS ⊢
  have hS : va_S A s.heap H [] := by rw [hH]; exact hS
  generalize hlc : ([] : List Loc) = locs at hS ⊢
  show W p l e rm_X7_undo s m (([Value.ref o] : List Value).toArray) below meth c H locs 0 0 Q (F0 m 0 ls [])
  unfold x7_undo at hf
  refine lv_aload_n hx hb dX7_undo_0 rfl (lv_at hl 0 rfl) ?_
  refine va_get (D := (dC, dI)) (ci := 7) (v := .ref o_acts) (C := RX7) (T := TX7) (N := 9) hx hb hts hiX7 hown hK hP 0 rfl rfl 3 (by decide) (hts (.fieldLink RX7 29 "GreenJars" "acts" "LGreenJars$Acts;") (by decide +kernel)) (fun _ h9 => h9) rfl dX7_undo_1 ?_
  refine lv_aload_n hx hb dX7_undo_4 rfl (lv_at hl 0 rfl) ?_
  refine va_get (D := (dC, dI)) (ci := 7) (v := .ref o_now) (C := RX7) (T := TX7) (N := 9) hx hb hts hiX7 hown hK hP 0 rfl rfl 1 (by decide) (hts (.fieldLink RX7 19 "GreenJars" "now" "LGreenJars$Shelf;") (by decide +kernel)) (fun _ h9 => h9) rfl dX7_undo_5 ?_
  obtain ⟨r1, y2, y3, y4, y5, hc6, hf⟩ := g_b5 hf
  refine g_wV (As := [.ref o_now]) (rest := []) (wr := [(o, .inr (7, [.ref o_text, .ref o_now, .ref o_trial, .ref o_acts, .ref o_slots, .ref o_tastes, .ref o_ways, .ref o_fraction, .long v_seedNow]))]) (wn := (w_X7_undo cI cZ cG o o_text o_now o_trial o_acts o_slots o_tastes o_ways o_fraction o_now_cells o_now_standing o_acts_before o_acts_before_r v_seedNow v_now_jars y4 y5 y2 y3 m_acts_before)) ⟨hx, hb, hml, hown, hts⟩ (c_X0_takeBack l dC dI cI cZ cG o_acts o_acts_before o_acts_before_r o_now o_now_cells o_now_standing H.size  v_acts_count v_acts_next m_acts_before v_now_jars v_now_weeks f_now_cells hc6) (cwV 1 hts gX7_undo_X0_takeBack rfl rfl rfl (by decide +kernel) ⟨Nat.le_of_ble_eq_true rfl, Nat.le_of_ble_eq_true rfl⟩) hK hN hP hD hS hA [3, 4, 5, 6, 7, 8, 9, 10, 11, 12, 13, 14, 15, 16, 17, 18, 1, 2] [0] [0, 17, 18, 1, 2, 3, 4, 5, 6, 7, 8, 9, 10, 11, 12, 13, 14, 15, 16] rfl rfl (by decide) rfl (by decide) (by decide) rfl (by decide) (va_recv hK hP (ci := 0) (q0 := 3) rfl rfl) rfl hl.1 rfl (Nat.le_of_ble_eq_true rfl) dX7_undo_8 ⟨Nat.zero_le _, Nat.zero_le _⟩ (fun H locs hP hD hS => ?_)
  refine lv_if_eq (tgt := 24) hx hb dX7_undo_11 (by decide) (fun c7 => ?_) (fun c7 => ?_)
  · have hf := g_pos c7 hf
    refine lv_bipush (v := (-3 : Int32)) hx hb dX7_undo_24 (by decide +kernel) ?_
    rw [hQ]
    cases hf
    exact W.iret hx hb hr (fun t ht hW => ⟨⟨_, (), rfl, rfl, by rw [ht]; exact hP, va_K.moved hW.alike hK, hD⟩, hS.F ht⟩) hS.2.2 dX7_undo_26
  · have hf := g_neg c7 hf
    refine lv_aload_n hx hb dX7_undo_14 rfl (lv_at hl 0 rfl) ?_
    refine va_get (D := (dC, dI)) (ci := 7) (v := .ref o_acts) (C := RX7) (T := TX7) (N := 9) hx hb hts hiX7 hown hK hP 0 rfl rfl 3 (by decide) (hts (.fieldLink RX7 29 "GreenJars" "acts" "LGreenJars$Acts;") (by decide +kernel)) (fun _ h9 => h9) rfl dX7_undo_15 ?_
    obtain ⟨r8, hc9, hf⟩ := g_b1 hf
    refine g_rV (As := []) (rest := []) ⟨hx, hb, hml, hown, hts⟩ (c_X0_count l dC dI cI cZ cG o_acts o_acts_before  y2 y3 hc9) (cwV 0 hts gX7_undo_X0_count rfl rfl rfl (by decide +kernel) ⟨Nat.le_of_ble_eq_true rfl, Nat.le_of_ble_eq_true rfl⟩) hK hN (hP.sub [3] rfl) (va_recv hK hP (ci := 0) (q0 := 3) rfl rfl) rfl hl.1 rfl (Nat.le_of_ble_eq_true rfl) dX7_undo_18 ⟨Nat.zero_le _, Nat.zero_le _⟩ ?_
    refine lv_goto (tgt := 26) hx hb dX7_undo_21 (by decide) ?_
    rw [hQ]
    cases hf
    exact W.iret hx hb hr (fun t ht hW => ⟨⟨_, (), rfl, rfl, by rw [ht]; exact hP, va_K.moved hW.alike hK, hD⟩, hS.F ht⟩) hS.2.2 dX7_undo_26
abbrev rm_X7_later : Room := { frames := 5, cells := 0, slots := 0, locals := 111 }
abbrev w_X7_later (cI cZ cG : ClassId) (o : Nat) (o_text : Nat) (o_now : Nat) (o_trial : Nat) (o_acts : Nat) (o_slots : Nat) (o_tastes : Nat) (o_ways : Nat) (o_fraction : Nat) (o_now_cells : Nat) (o_now_standing : Nat) (o_trial_cells : Nat) (o_trial_standing : Nat) (v_seedNow : Int64) (v_now_jars : Int32) (v_now_weeks : Int32) (f_now_cells : Nat → Int32) (v_trial_jars : Int32) (v_trial_weeks : Int32) (f_trial_cells : Nat → Int32) : va_W := [(o, .inr (7, [.ref o_text, .ref o_now, .ref o_trial, .ref o_acts, .ref o_slots, .ref o_tastes, .ref o_ways, .ref o_fraction, .long v_seedNow])), (o_now, .inr (2, [.ref o_now_cells, .ref o_now_standing, .int v_now_jars, .int v_now_weeks])), (o_now_cells, .inl (cI, 48, .inl f_now_cells)), (o_trial, .inr (2, [.ref o_trial_cells, .ref o_trial_standing, .int v_trial_jars, .int v_trial_weeks])), (o_trial_cells, .inl (cI, 48, .inl f_trial_cells))]
set_option maxHeartbeats 4000000 in
set_option maxRecDepth 100000 in
theorem c_X7_later (l : Launch) (dC : Nat → ClassId) (dI : Nat → Nat → Nat) (cI cZ cG : ClassId) {N : Nat} (o : Nat) (o_text : Nat) (o_now : Nat) (o_trial : Nat) (o_acts : Nat) (o_slots : Nat) (o_tastes : Nat) (o_ways : Nat) (o_fraction : Nat) (o_now_cells : Nat) (o_now_standing : Nat) (o_trial_cells : Nat) (o_trial_standing : Nat) (sz : Nat) (v_seedNow : Int64) (v_now_jars : Int32) (v_now_weeks : Int32) (f_now_cells : Nat → Int32) (v_trial_jars : Int32) (v_trial_weeks : Int32) (f_trial_cells : Nat → Int32) (a1 : Int32) (a2 : Int32) (a3 : Int32) {r0 : Int32} {n_trial_jars : Int32} {n_trial_weeks : Int32} {n_trial_cells : Nat → Int32} (hf : x7_later N v_now_jars v_now_weeks f_now_cells v_trial_jars v_trial_weeks f_trial_cells a1 a2 a3 = some (r0, n_trial_jars, n_trial_weeks, n_trial_cells)) : Met l yX7_later wsX7_later rm_X7_later (va_Pc [.ref o, .int a1, .int a2, .int a3] (gW (dC, dI) vwCl (gT cI cZ cG) (w_X7_later cI cZ cG o o_text o_now o_trial o_acts o_slots o_tastes o_ways o_fraction o_now_cells o_now_standing o_trial_cells o_trial_standing v_seedNow v_now_jars v_now_weeks f_now_cells v_trial_jars v_trial_weeks f_trial_cells) sz)) (va_Qi (fun r _ => r = r0) (gE (dC, dI) vwCl (gT cI cZ cG) (w_X7_later cI cZ cG o o_text o_now o_trial o_acts o_slots o_tastes o_ways o_fraction o_now_cells o_now_standing o_trial_cells o_trial_standing v_seedNow v_now_jars v_now_weeks f_now_cells n_trial_jars n_trial_weeks n_trial_cells) (va_A (w_X7_later cI cZ cG o o_text o_now o_trial o_acts o_slots o_tastes o_ways o_fraction o_now_cells o_now_standing o_trial_cells o_trial_standing v_seedNow v_now_jars v_now_weeks f_now_cells v_trial_jars v_trial_weeks f_trial_cells) sz)) (va_A (w_X7_later cI cZ cG o o_text o_now o_trial o_acts o_slots o_tastes o_ways o_fraction o_now_cells o_now_standing o_trial_cells o_trial_standing v_seedNow v_now_jars v_now_weeks f_now_cells v_trial_jars v_trial_weeks f_trial_cells) sz)) 0 0 (va_A (w_X7_later cI cZ cG o o_text o_now o_trial o_acts o_slots o_tastes o_ways o_fraction o_now_cells o_now_standing o_trial_cells o_trial_standing v_seedNow v_now_jars v_now_weeks f_now_cells v_trial_jars v_trial_weeks f_trial_cells) sz) := by
  refine Met.ofW (cc := cX7_later) (maxL := 4) (ret := (some .int)) (by decide) rfl ?_
  intro p e s m args below meth c s₁ B hml hv
  obtain ⟨rfl, hv⟩ := hv
  obtain ⟨hsz, hP, hK, hN, hD0⟩ := hv
  have hx := B.exec
  have hb := B.bytes
  have hr := B.returns
  have hts := atoms_spec (ws := wsX7_later) B.pre
  have hown : s.vm.findClass RX7 = some m.cls := findClass_of_methodNamed B.named
  have hlocks := B.notSynchronized
  have hiX2 : ∀ w ∈ u_ws RX2 TX2 4, w ∈ wsX7_later := fun w h => List.mem_cons_of_mem _ (List.mem_append_right _ h)
  have hiX7 : ∀ w ∈ u_ws RX7 TX7 9, w ∈ wsX7_later := fun w h => List.mem_cons_of_mem _ (List.mem_append_left _ (List.mem_append_right _ h))
  subst hsz
  have hD := hD0.self (sz := s.heap.size)
  generalize hAe : va_A (w_X7_later cI cZ cG o o_text o_now o_trial o_acts o_slots o_tastes o_ways o_fraction o_now_cells o_now_standing o_trial_cells o_trial_standing v_seedNow v_now_jars v_now_weeks f_now_cells v_trial_jars v_trial_weeks f_trial_cells) s.heap.size = A at hD ⊢
  have hA : ∀ q : Nat, s.heap.size ≤ q → A q := fun q h => by rw [← hAe]; exact Or.inr h
  clear hD0
  have hS : va_S A s.heap s.heap [] := va_S.rf
  have hP : va_P (dC, dI) vwCl (w_X7_later cI cZ cG o o_text o_now o_trial o_acts o_slots o_tastes o_ways o_fraction o_now_cells o_now_standing o_trial_cells o_trial_standing v_seedNow v_now_jars v_now_weeks f_now_cells v_trial_jars v_trial_weeks f_trial_cells) s.heap := hP
  obtain ⟨Q, hQ⟩ : ∃ Q : State → Prop, Q = MQ below (va_Qi (fun r _ => r = r0) (gE (dC, dI) vwCl (gT cI cZ cG) (w_X7_later cI cZ cG o o_text o_now o_trial o_acts o_slots o_tastes o_ways o_fraction o_now_cells o_now_standing o_trial_cells o_trial_standing v_seedNow v_now_jars v_now_weeks f_now_cells n_trial_jars n_trial_weeks n_trial_cells) A) A) (([Value.ref o, Value.int a1, Value.int a2, Value.int a3] : List Value).toArray) s 0 0 A := ⟨_, rfl⟩
  have hl := lv_entry ([.ref o, .int a1, .int a2, .int a3]) (n := 4) (Nat.le_of_ble_eq_true rfl)
  rw [← hQ, lg_entry_eq]
  generalize (lg_sl ([.ref o, .int a1, .int a2, .int a3]) ++ List.replicate (4 - (lg_sl ([.ref o, .int a1, .int a2, .int a3])).length) Slot.unset).toArray = ls at hl ⊢
  have hl : lv_has ls 4 [(0, .ref o), (1, .int a1), (2, .int a2), (3, .int a3)] := hl
  generalize hH : s.heap = H at hP hS ⊢
  have hS : va_S A s.heap H [] := by rw [hH]; exact hS
  generalize hlc : ([] : List Loc) = locs at hS ⊢
  show W p l e rm_X7_later s m (([Value.ref o, Value.int a1, Value.int a2, Value.int a3] : List Value).toArray) below meth c H locs 0 0 Q (F0 m 0 ls [])
  unfold x7_later at hf
  refine lv_aload_n hx hb dX7_later_0 rfl (lv_at hl 0 rfl) ?_
  refine va_get (D := (dC, dI)) (ci := 7) (v := .ref o_now) (C := RX7) (T := TX7) (N := 9) hx hb hts hiX7 hown hK hP 0 rfl rfl 1 (by decide) (hts (.fieldLink RX7 19 "GreenJars" "now" "LGreenJars$Shelf;") (by decide +kernel)) (fun _ h9 => h9) rfl dX7_later_1 ?_
  refine lv_iload_n hx hb dX7_later_4 rfl (lv_at hl 1 rfl) ?_
  obtain ⟨r1, hc2, hf⟩ := g_b1 hf
  refine g_rV (As := [.int a1]) (rest := []) ⟨hx, hb, hml, hown, hts⟩ (c_X2_has l dC dI cI cZ cG o_now o_now_cells o_now_standing  v_now_jars v_now_weeks a1 hc2) (cwV 1 hts gX7_later_X2_has rfl rfl rfl (by decide +kernel) ⟨Nat.le_of_ble_eq_true rfl, Nat.le_of_ble_eq_true rfl⟩) hK hN (hP.sub [1] rfl) (va_recv hK hP (ci := 2) (q0 := 1) rfl rfl) rfl hl.1 rfl (Nat.le_of_ble_eq_true rfl) dX7_later_5 ⟨Nat.zero_le _, Nat.zero_le _⟩ ?_
  refine lv_if_ne (tgt := 13) hx hb dX7_later_8 (by decide) (fun c3 => ?_) (fun c3 => ?_)
  · have hf := g_neg c3 hf
    refine lv_iload_n hx hb dX7_later_13 rfl (lv_at hl 2 rfl) ?_
    refine lv_if_lt (tgt := 32) hx hb dX7_later_14 (by decide) (fun c4 => ?_) (fun c4 => ?_)
    · have hf := g_pos c4 hf
      refine lv_bipush (v := (-2 : Int32)) hx hb dX7_later_32 (by decide +kernel) ?_
      rw [hQ]
      cases hf
      exact W.iret hx hb hr (fun t ht hW => ⟨⟨_, (), rfl, rfl, by rw [ht]; exact hP, va_K.moved hW.alike hK, hD⟩, hS.F ht⟩) hS.2.2 dX7_later_34
    · have hf := g_neg c4 hf
      refine lv_iload_n hx hb dX7_later_17 rfl (lv_at hl 2 rfl) ?_
      refine lv_bipush (v := (20 : Int32)) hx hb dX7_later_18 (by decide +kernel) ?_
      refine lv_icmp_gt (tgt := 32) hx hb dX7_later_20 (by decide) (fun c5 => ?_) (fun c5 => ?_)
      · have hf := g_pos c5 hf
        refine lv_bipush (v := (-2 : Int32)) hx hb dX7_later_32 (by decide +kernel) ?_
        rw [hQ]
        cases hf
        exact W.iret hx hb hr (fun t ht hW => ⟨⟨_, (), rfl, rfl, by rw [ht]; exact hP, va_K.moved hW.alike hK, hD⟩, hS.F ht⟩) hS.2.2 dX7_later_34
      · have hf := g_neg c5 hf
        refine lv_iload_n hx hb dX7_later_23 rfl (lv_at hl 3 rfl) ?_
        refine lv_if_lt (tgt := 32) hx hb dX7_later_24 (by decide) (fun c6 => ?_) (fun c6 => ?_)
        · have hf := g_pos c6 hf
          refine lv_bipush (v := (-2 : Int32)) hx hb dX7_later_32 (by decide +kernel) ?_
          rw [hQ]
          cases hf
          exact W.iret hx hb hr (fun t ht hW => ⟨⟨_, (), rfl, rfl, by rw [ht]; exact hP, va_K.moved hW.alike hK, hD⟩, hS.F ht⟩) hS.2.2 dX7_later_34
        · have hf := g_neg c6 hf
          refine lv_iload_n hx hb dX7_later_27 rfl (lv_at hl 3 rfl) ?_
          refine lv_iconst (v := (1 : Int32)) hx hb dX7_later_28 (by decide) ?_
          refine lv_icmp_le (tgt := 35) hx hb dX7_later_29 (by decide) (fun c7 => ?_) (fun c7 => ?_)
          · have hf := g_pos c7 hf
            refine lv_aload_n hx hb dX7_later_35 rfl (lv_at hl 0 rfl) ?_
            refine va_get (D := (dC, dI)) (ci := 7) (v := .ref o_trial) (C := RX7) (T := TX7) (N := 9) hx hb hts hiX7 hown hK hP 0 rfl rfl 2 (by decide) (hts (.fieldLink RX7 23 "GreenJars" "trial" "LGreenJars$Shelf;") (by decide +kernel)) (fun _ h9 => h9) rfl dX7_later_36 ?_
            refine lv_aload_n hx hb dX7_later_39 rfl (lv_at hl 0 rfl) ?_
            refine va_get (D := (dC, dI)) (ci := 7) (v := .ref o_now) (C := RX7) (T := TX7) (N := 9) hx hb hts hiX7 hown hK hP 0 rfl rfl 1 (by decide) (hts (.fieldLink RX7 19 "GreenJars" "now" "LGreenJars$Shelf;") (by decide +kernel)) (fun _ h9 => h9) rfl dX7_later_40 ?_
            obtain ⟨y8, y9, y10, hc11, hf⟩ := g_b3 hf
            refine g_wVv (As := [.ref o_now]) (rest := []) (wr := [(o, .inr (7, [.ref o_text, .ref o_now, .ref o_trial, .ref o_acts, .ref o_slots, .ref o_tastes, .ref o_ways, .ref o_fraction, .long v_seedNow]))]) (wn := (w_X7_later cI cZ cG o o_text o_now o_trial o_acts o_slots o_tastes o_ways o_fraction o_now_cells o_now_standing o_trial_cells o_trial_standing v_seedNow v_now_jars v_now_weeks f_now_cells y8 y9 y10)) ⟨hx, hb, hml, hown, hts⟩ (c_X2_copy l dC dI cI cZ cG o_trial o_trial_cells o_trial_standing o_now o_now_cells o_now_standing H.size  v_trial_jars v_trial_weeks f_trial_cells v_now_jars v_now_weeks f_now_cells hc11) (cwV 1 hts gX7_later_X2_copy rfl rfl rfl (by decide +kernel) ⟨Nat.le_of_ble_eq_true rfl, Nat.le_of_ble_eq_true rfl⟩) hK hN hP hD hS hA [3, 4, 1, 2] [0] [0, 3, 4, 1, 2] rfl rfl (by decide) rfl (by decide) (by decide) rfl (by decide) (va_recv hK hP (ci := 2) (q0 := 3) rfl rfl) rfl hl.1 rfl (Nat.le_of_ble_eq_true rfl) dX7_later_43 ⟨Nat.zero_le _, Nat.zero_le _⟩ (fun H locs hP hD hS => ?_)
            refine lv_aload_n hx hb dX7_later_46 rfl (lv_at hl 0 rfl) ?_
            refine va_get (D := (dC, dI)) (ci := 7) (v := .ref o_trial) (C := RX7) (T := TX7) (N := 9) hx hb hts hiX7 hown hK hP 0 rfl rfl 2 (by decide) (hts (.fieldLink RX7 23 "GreenJars" "trial" "LGreenJars$Shelf;") (by decide +kernel)) (fun _ h9 => h9) rfl dX7_later_47 ?_
            refine lv_iload_n hx hb dX7_later_50 rfl (lv_at hl 2 rfl) ?_
            obtain ⟨y12, y13, hc14, hf⟩ := g_b2 hf
            refine g_wVv (As := [.int a2]) (rest := []) (wr := [(o, .inr (7, [.ref o_text, .ref o_now, .ref o_trial, .ref o_acts, .ref o_slots, .ref o_tastes, .ref o_ways, .ref o_fraction, .long v_seedNow])), (o_now, .inr (2, [.ref o_now_cells, .ref o_now_standing, .int v_now_jars, .int v_now_weeks])), (o_now_cells, .inl (cI, 48, .inl f_now_cells))]) (wn := (w_X7_later cI cZ cG o o_text o_now o_trial o_acts o_slots o_tastes o_ways o_fraction o_now_cells o_now_standing o_trial_cells o_trial_standing v_seedNow v_now_jars v_now_weeks f_now_cells y8 y12 y13)) ⟨hx, hb, hml, hown, hts⟩ (c_X2_passWeeks l dC dI cI cZ cG o_trial o_trial_cells o_trial_standing H.size  y8 y9 y10 a2 hc14) (cwV 1 hts gX7_later_X2_passWeeks rfl rfl rfl (by decide +kernel) ⟨Nat.le_of_ble_eq_true rfl, Nat.le_of_ble_eq_true rfl⟩) hK hN hP hD hS hA [3, 4] [0, 1, 2] [0, 1, 2, 3, 4] rfl rfl (by decide) rfl (by decide) (by decide) rfl (by decide) (va_recv hK hP (ci := 2) (q0 := 3) rfl rfl) rfl hl.1 rfl (Nat.le_of_ble_eq_true rfl) dX7_later_51 ⟨Nat.zero_le _, Nat.zero_le _⟩ (fun H locs hP hD hS => ?_)
            refine lv_iload_n hx hb dX7_later_54 rfl (lv_at hl 3 rfl) ?_
            refine lv_if_ne (tgt := 70) hx hb dX7_later_55 (by decide) (fun c15 => ?_) (fun c15 => ?_)
            · have hf := g_neg c15 hf
              refine lv_aload_n hx hb dX7_later_70 rfl (lv_at hl 0 rfl) ?_
              refine va_get (D := (dC, dI)) (ci := 7) (v := .ref o_trial) (C := RX7) (T := TX7) (N := 9) hx hb hts hiX7 hown hK hP 0 rfl rfl 2 (by decide) (hts (.fieldLink RX7 23 "GreenJars" "trial" "LGreenJars$Shelf;") (by decide +kernel)) (fun _ h9 => h9) rfl dX7_later_71 ?_
              refine lv_iload_n hx hb dX7_later_74 rfl (lv_at hl 1 rfl) ?_
              obtain ⟨r16, hc17, hf⟩ := g_b1 hf
              refine g_rV (As := [.int a1]) (rest := []) ⟨hx, hb, hml, hown, hts⟩ (c_X2_seenBy l dC dI cI cZ cG o_trial o_trial_cells o_trial_standing  y8 y12 y13 a1 hc17) (cwV 1 hts gX7_later_X2_seenBy rfl rfl rfl (by decide +kernel) ⟨Nat.le_of_ble_eq_true rfl, Nat.le_of_ble_eq_true rfl⟩) hK hN (hP.sub [3, 4] rfl) (va_recv hK hP (ci := 2) (q0 := 3) rfl rfl) rfl hl.1 rfl (Nat.le_of_ble_eq_true rfl) dX7_later_75 ⟨Nat.zero_le _, Nat.zero_le _⟩ ?_
              rw [hQ]
              cases hf
              exact W.iret hx hb hr (fun t ht hW => ⟨⟨_, (), rfl, rfl, by rw [ht]; exact hP, va_K.moved hW.alike hK, hD⟩, hS.F ht⟩) hS.2.2 dX7_later_78
            · have hf := g_pos c15 hf
              refine lv_aload_n hx hb dX7_later_58 rfl (lv_at hl 0 rfl) ?_
              refine va_get (D := (dC, dI)) (ci := 7) (v := .ref o_trial) (C := RX7) (T := TX7) (N := 9) hx hb hts hiX7 hown hK hP 0 rfl rfl 2 (by decide) (hts (.fieldLink RX7 23 "GreenJars" "trial" "LGreenJars$Shelf;") (by decide +kernel)) (fun _ h9 => h9) rfl dX7_later_59 ?_
              refine lv_iload_n hx hb dX7_later_62 rfl (lv_at hl 1 rfl) ?_
              refine lv_iconst (v := (1 : Int32)) hx hb dX7_later_63 (by decide) ?_
              obtain ⟨r18, hc19, hf⟩ := g_b1 hf
              refine g_rV (As := [.int a1, .int (1 : Int32)]) (rest := []) ⟨hx, hb, hml, hown, hts⟩ (c_X2_part l dC dI cI cZ cG o_trial o_trial_cells o_trial_standing  y8 y12 y13 a1 (1 : Int32) hc19) (cwV 2 hts gX7_later_X2_part rfl rfl rfl (by decide +kernel) ⟨Nat.le_of_ble_eq_true rfl, Nat.le_of_ble_eq_true rfl⟩) hK hN (hP.sub [3, 4] rfl) (va_recv hK hP (ci := 2) (q0 := 3) rfl rfl) rfl hl.1 rfl (Nat.le_of_ble_eq_true rfl) dX7_later_64 ⟨Nat.zero_le _, Nat.zero_le _⟩ ?_
              refine lv_goto (tgt := 78) hx hb dX7_later_67 (by decide) ?_
              rw [hQ]
              cases hf
              exact W.iret hx hb hr (fun t ht hW => ⟨⟨_, (), rfl, rfl, by rw [ht]; exact hP, va_K.moved hW.alike hK, hD⟩, hS.F ht⟩) hS.2.2 dX7_later_78
          · have hf := g_neg c7 hf
            refine lv_bipush (v := (-2 : Int32)) hx hb dX7_later_32 (by decide +kernel) ?_
            rw [hQ]
            cases hf
            exact W.iret hx hb hr (fun t ht hW => ⟨⟨_, (), rfl, rfl, by rw [ht]; exact hP, va_K.moved hW.alike hK, hD⟩, hS.F ht⟩) hS.2.2 dX7_later_34
  · have hf := g_pos c3 hf
    refine lv_iconst (v := (-1 : Int32)) hx hb dX7_later_11 (by decide) ?_
    rw [hQ]
    cases hf
    exact W.iret hx hb hr (fun t ht hW => ⟨⟨_, (), rfl, rfl, by rw [ht]; exact hP, va_K.moved hW.alike hK, hD⟩, hS.F ht⟩) hS.2.2 dX7_later_12
abbrev rm_X7_becomes : Room := { frames := 4, cells := 0, slots := 0, locals := 89 }
abbrev w_X7_becomes (cI cZ cG : ClassId) (o : Nat) (o_text : Nat) (o_now : Nat) (o_trial : Nat) (o_acts : Nat) (o_slots : Nat) (o_tastes : Nat) (o_ways : Nat) (o_fraction : Nat) (o_now_cells : Nat) (o_now_standing : Nat) (o_trial_cells : Nat) (o_trial_standing : Nat) (v_seedNow : Int64) (v_now_jars : Int32) (v_now_weeks : Int32) (f_now_cells : Nat → Int32) (v_trial_jars : Int32) (v_trial_weeks : Int32) (f_trial_cells : Nat → Int32) : va_W := [(o, .inr (7, [.ref o_text, .ref o_now, .ref o_trial, .ref o_acts, .ref o_slots, .ref o_tastes, .ref o_ways, .ref o_fraction, .long v_seedNow])), (o_now, .inr (2, [.ref o_now_cells, .ref o_now_standing, .int v_now_jars, .int v_now_weeks])), (o_now_cells, .inl (cI, 48, .inl f_now_cells)), (o_trial, .inr (2, [.ref o_trial_cells, .ref o_trial_standing, .int v_trial_jars, .int v_trial_weeks])), (o_trial_cells, .inl (cI, 48, .inl f_trial_cells))]
set_option maxHeartbeats 4000000 in
set_option maxRecDepth 100000 in
theorem c_X7_becomes (l : Launch) (dC : Nat → ClassId) (dI : Nat → Nat → Nat) (cI cZ cG : ClassId) {N : Nat} (o : Nat) (o_text : Nat) (o_now : Nat) (o_trial : Nat) (o_acts : Nat) (o_slots : Nat) (o_tastes : Nat) (o_ways : Nat) (o_fraction : Nat) (o_now_cells : Nat) (o_now_standing : Nat) (o_trial_cells : Nat) (o_trial_standing : Nat) (sz : Nat) (v_seedNow : Int64) (v_now_jars : Int32) (v_now_weeks : Int32) (f_now_cells : Nat → Int32) (v_trial_jars : Int32) (v_trial_weeks : Int32) (f_trial_cells : Nat → Int32) (a1 : Int32) (a2 : Int32) {r0 : Int32} {n_trial_jars : Int32} {n_trial_weeks : Int32} {n_trial_cells : Nat → Int32} (hf : x7_becomes N v_now_jars v_now_weeks f_now_cells v_trial_jars v_trial_weeks f_trial_cells a1 a2 = some (r0, n_trial_jars, n_trial_weeks, n_trial_cells)) : Met l yX7_becomes wsX7_becomes rm_X7_becomes (va_Pc [.ref o, .int a1, .int a2] (gW (dC, dI) vwCl (gT cI cZ cG) (w_X7_becomes cI cZ cG o o_text o_now o_trial o_acts o_slots o_tastes o_ways o_fraction o_now_cells o_now_standing o_trial_cells o_trial_standing v_seedNow v_now_jars v_now_weeks f_now_cells v_trial_jars v_trial_weeks f_trial_cells) sz)) (va_Qi (fun r _ => r = r0) (gE (dC, dI) vwCl (gT cI cZ cG) (w_X7_becomes cI cZ cG o o_text o_now o_trial o_acts o_slots o_tastes o_ways o_fraction o_now_cells o_now_standing o_trial_cells o_trial_standing v_seedNow v_now_jars v_now_weeks f_now_cells n_trial_jars n_trial_weeks n_trial_cells) (va_A (w_X7_becomes cI cZ cG o o_text o_now o_trial o_acts o_slots o_tastes o_ways o_fraction o_now_cells o_now_standing o_trial_cells o_trial_standing v_seedNow v_now_jars v_now_weeks f_now_cells v_trial_jars v_trial_weeks f_trial_cells) sz)) (va_A (w_X7_becomes cI cZ cG o o_text o_now o_trial o_acts o_slots o_tastes o_ways o_fraction o_now_cells o_now_standing o_trial_cells o_trial_standing v_seedNow v_now_jars v_now_weeks f_now_cells v_trial_jars v_trial_weeks f_trial_cells) sz)) 0 0 (va_A (w_X7_becomes cI cZ cG o o_text o_now o_trial o_acts o_slots o_tastes o_ways o_fraction o_now_cells o_now_standing o_trial_cells o_trial_standing v_seedNow v_now_jars v_now_weeks f_now_cells v_trial_jars v_trial_weeks f_trial_cells) sz) := by
  refine Met.ofW (cc := cX7_becomes) (maxL := 4) (ret := (some .int)) (by decide) rfl ?_
  intro p e s m args below meth c s₁ B hml hv
  obtain ⟨rfl, hv⟩ := hv
  obtain ⟨hsz, hP, hK, hN, hD0⟩ := hv
  have hx := B.exec
  have hb := B.bytes
  have hr := B.returns
  have hts := atoms_spec (ws := wsX7_becomes) B.pre
  have hown : s.vm.findClass RX7 = some m.cls := findClass_of_methodNamed B.named
  have hlocks := B.notSynchronized
  have hiX2 : ∀ w ∈ u_ws RX2 TX2 4, w ∈ wsX7_becomes := fun w h => List.mem_cons_of_mem _ (List.mem_append_right _ h)
  have hiX7 : ∀ w ∈ u_ws RX7 TX7 9, w ∈ wsX7_becomes := fun w h => List.mem_cons_of_mem _ (List.mem_append_left _ (List.mem_append_right _ h))
  subst hsz
  have hD := hD0.self (sz := s.heap.size)
  generalize hAe : va_A (w_X7_becomes cI cZ cG o o_text o_now o_trial o_acts o_slots o_tastes o_ways o_fraction o_now_cells o_now_standing o_trial_cells o_trial_standing v_seedNow v_now_jars v_now_weeks f_now_cells v_trial_jars v_trial_weeks f_trial_cells) s.heap.size = A at hD ⊢
  have hA : ∀ q : Nat, s.heap.size ≤ q → A q := fun q h => by rw [← hAe]; exact Or.inr h
  clear hD0
  have hS : va_S A s.heap s.heap [] := va_S.rf
  have hP : va_P (dC, dI) vwCl (w_X7_becomes cI cZ cG o o_text o_now o_trial o_acts o_slots o_tastes o_ways o_fraction o_now_cells o_now_standing o_trial_cells o_trial_standing v_seedNow v_now_jars v_now_weeks f_now_cells v_trial_jars v_trial_weeks f_trial_cells) s.heap := hP
  obtain ⟨Q, hQ⟩ : ∃ Q : State → Prop, Q = MQ below (va_Qi (fun r _ => r = r0) (gE (dC, dI) vwCl (gT cI cZ cG) (w_X7_becomes cI cZ cG o o_text o_now o_trial o_acts o_slots o_tastes o_ways o_fraction o_now_cells o_now_standing o_trial_cells o_trial_standing v_seedNow v_now_jars v_now_weeks f_now_cells n_trial_jars n_trial_weeks n_trial_cells) A) A) (([Value.ref o, Value.int a1, Value.int a2] : List Value).toArray) s 0 0 A := ⟨_, rfl⟩
  have hl := lv_entry ([.ref o, .int a1, .int a2]) (n := 4) (Nat.le_of_ble_eq_true rfl)
  rw [← hQ, lg_entry_eq]
  generalize (lg_sl ([.ref o, .int a1, .int a2]) ++ List.replicate (4 - (lg_sl ([.ref o, .int a1, .int a2])).length) Slot.unset).toArray = ls at hl ⊢
  have hl : lv_has ls 4 [(0, .ref o), (1, .int a1), (2, .int a2)] := hl
  generalize hH : s.heap = H at hP hS ⊢
  have hS : va_S A s.heap H [] := by rw [hH]; exact hS
  generalize hlc : ([] : List Loc) = locs at hS ⊢
  show W p l e rm_X7_becomes s m (([Value.ref o, Value.int a1, Value.int a2] : List Value).toArray) below meth c H locs 0 0 Q (F0 m 0 ls [])
  have L50 : ∀ (n50 : Nat), ∀ (x3 : Int32) (y_trial_jars : Int32) (y_trial_weeks : Int32) (y_trial_cells : Nat → Int32) (H : Heap) (locs : List Loc) (ls : Array Slot), x7_becomes_b50 N v_now_jars v_now_weeks f_now_cells a1 a2 n50 x3 y_trial_jars y_trial_weeks y_trial_cells = some (r0, n_trial_jars, n_trial_weeks, n_trial_cells) → lv_has ls 4 [(0, .ref o), (1, .int a1), (2, .int a2), (3, .int x3)] → va_P (dC, dI) vwCl (w_X7_becomes cI cZ cG o o_text o_now o_trial o_acts o_slots o_tastes o_ways o_fraction o_now_cells o_now_standing o_trial_cells o_trial_standing v_seedNow v_now_jars v_now_weeks f_now_cells y_trial_jars y_trial_weeks y_trial_cells) H → va_D A (w_X7_becomes cI cZ cG o o_text o_now o_trial o_acts o_slots o_tastes o_ways o_fraction o_now_cells o_now_standing o_trial_cells o_trial_standing v_seedNow v_now_jars v_now_weeks f_now_cells y_trial_jars y_trial_weeks y_trial_cells) → va_S A s.heap H locs → W p l e rm_X7_becomes s m (([Value.ref o, Value.int a1, Value.int a2] : List Value).toArray) below meth c H locs 0 0 Q (F0 m 50 ls []) := by
    intro n50
    induction n50 with
    | zero =>
      intro x3 y_trial_jars y_trial_weeks y_trial_cells H locs ls hf hl hP hD hS
      exact g_no hf
    | succ n50 ih50 =>
      intro x3 y_trial_jars y_trial_weeks y_trial_cells H locs ls hf hl hP hD hS
      unfold x7_becomes_b50 at hf
      refine lv_iload_n hx hb dX7_becomes_50 rfl (lv_at hl 3 rfl) ?_
      refine lv_bipush (v := (20 : Int32)) hx hb dX7_becomes_51 (by decide +kernel) ?_
      refine lv_icmp_gt (tgt := 84) hx hb dX7_becomes_53 (by decide) (fun c1 => ?_) (fun c1 => ?_)
      · have hf := g_pos c1 hf
        refine lv_bipush (v := (-9 : Int32)) hx hb dX7_becomes_84 (by decide +kernel) ?_
        rw [hQ]
        cases hf
        exact W.iret hx hb hr (fun t ht hW => ⟨⟨_, (), rfl, rfl, by rw [ht]; exact hP, va_K.moved hW.alike hK, hD⟩, hS.F ht⟩) hS.2.2 dX7_becomes_86
      · have hf := g_neg c1 hf
        refine lv_aload_n hx hb dX7_becomes_56 rfl (lv_at hl 0 rfl) ?_
        refine va_get (D := (dC, dI)) (ci := 7) (v := .ref o_trial) (C := RX7) (T := TX7) (N := 9) hx hb hts hiX7 hown hK hP 0 rfl rfl 2 (by decide) (hts (.fieldLink RX7 23 "GreenJars" "trial" "LGreenJars$Shelf;") (by decide +kernel)) (fun _ h9 => h9) rfl dX7_becomes_57 ?_
        refine lv_iload_n hx hb dX7_becomes_60 rfl (lv_at hl 1 rfl) ?_
        refine lv_iconst (v := (1 : Int32)) hx hb dX7_becomes_61 (by decide) ?_
        obtain ⟨r2, hc3, hf⟩ := g_b1 hf
        refine g_rV (As := [.int a1, .int (1 : Int32)]) (rest := []) ⟨hx, hb, hml, hown, hts⟩ (c_X2_part l dC dI cI cZ cG o_trial o_trial_cells o_trial_standing  y_trial_jars y_trial_weeks y_trial_cells a1 (1 : Int32) hc3) (cwV 2 hts gX7_becomes_X2_part rfl rfl rfl (by decide +kernel) ⟨Nat.le_of_ble_eq_true rfl, Nat.le_of_ble_eq_true rfl⟩) hK hN (hP.sub [3, 4] rfl) (va_recv hK hP (ci := 2) (q0 := 3) rfl rfl) rfl hl.1 rfl (Nat.le_of_ble_eq_true rfl) dX7_becomes_62 ⟨Nat.zero_le _, Nat.zero_le _⟩ ?_
        refine lv_iload_n hx hb dX7_becomes_65 rfl (lv_at hl 2 rfl) ?_
        refine lv_icmp_ne (tgt := 71) hx hb dX7_becomes_66 (by decide) (fun c4 => ?_) (fun c4 => ?_)
        · have hf := g_neg c4 hf
          refine lv_aload_n hx hb dX7_becomes_71 rfl (lv_at hl 0 rfl) ?_
          refine va_get (D := (dC, dI)) (ci := 7) (v := .ref o_trial) (C := RX7) (T := TX7) (N := 9) hx hb hts hiX7 hown hK hP 0 rfl rfl 2 (by decide) (hts (.fieldLink RX7 23 "GreenJars" "trial" "LGreenJars$Shelf;") (by decide +kernel)) (fun _ h9 => h9) rfl dX7_becomes_72 ?_
          obtain ⟨y5, y6, hc7, hf⟩ := g_b2 hf
          refine g_wVv (As := []) (rest := []) (wr := [(o, .inr (7, [.ref o_text, .ref o_now, .ref o_trial, .ref o_acts, .ref o_slots, .ref o_tastes, .ref o_ways, .ref o_fraction, .long v_seedNow])), (o_now, .inr (2, [.ref o_now_cells, .ref o_now_standing, .int v_now_jars, .int v_now_weeks])), (o_now_cells, .inl (cI, 48, .inl f_now_cells))]) (wn := (w_X7_becomes cI cZ cG o o_text o_now o_trial o_acts o_slots o_tastes o_ways o_fraction o_now_cells o_now_standing o_trial_cells o_trial_standing v_seedNow v_now_jars v_now_weeks f_now_cells y_trial_jars y5 y6)) ⟨hx, hb, hml, hown, hts⟩ (c_X2_passWeek l dC dI cI cZ cG o_trial o_trial_cells o_trial_standing H.size  y_trial_jars y_trial_weeks y_trial_cells hc7) (cwV 0 hts gX7_becomes_X2_passWeek rfl rfl rfl (by decide +kernel) ⟨Nat.le_of_ble_eq_true rfl, Nat.le_of_ble_eq_true rfl⟩) hK hN hP hD hS hA [3, 4] [0, 1, 2] [0, 1, 2, 3, 4] rfl rfl (by decide) rfl (by decide) (by decide) rfl (by decide) (va_recv hK hP (ci := 2) (q0 := 3) rfl rfl) rfl hl.1 rfl (Nat.le_of_ble_eq_true rfl) dX7_becomes_75 ⟨Nat.zero_le _, Nat.zero_le _⟩ (fun H locs hP hD hS => ?_)
          refine lv_iinc (v := (x3 + (1 : Int32))) (lv' := [(3, .int (x3 + (1 : Int32))), (0, .ref o), (1, .int a1), (2, .int a2)]) hx hb dX7_becomes_78 hl (k := 3) rfl rfl (by decide) rfl (fun ls hl => ?_)
          refine lv_goto (tgt := 50) hx hb dX7_becomes_81 (by decide) ?_
          exact ih50 (x3 + (1 : Int32)) y_trial_jars y5 y6 H locs ls hf (lv_sub hl [1, 2, 3, 0] rfl) hP hD hS
        · have hf := g_pos c4 hf
          refine lv_iload_n hx hb dX7_becomes_69 rfl (lv_at hl 3 rfl) ?_
          rw [hQ]
          cases hf
          exact W.iret hx hb hr (fun t ht hW => ⟨⟨_, (), rfl, rfl, by rw [ht]; exact hP, va_K.moved hW.alike hK, hD⟩, hS.F ht⟩) hS.2.2 dX7_becomes_70
  unfold x7_becomes at hf
  refine lv_aload_n hx hb dX7_becomes_0 rfl (lv_at hl 0 rfl) ?_
  refine va_get (D := (dC, dI)) (ci := 7) (v := .ref o_now) (C := RX7) (T := TX7) (N := 9) hx hb hts hiX7 hown hK hP 0 rfl rfl 1 (by decide) (hts (.fieldLink RX7 19 "GreenJars" "now" "LGreenJars$Shelf;") (by decide +kernel)) (fun _ h9 => h9) rfl dX7_becomes_1 ?_
  refine lv_iload_n hx hb dX7_becomes_4 rfl (lv_at hl 1 rfl) ?_
  obtain ⟨r8, hc9, hf⟩ := g_b1 hf
  refine g_rV (As := [.int a1]) (rest := []) ⟨hx, hb, hml, hown, hts⟩ (c_X2_has l dC dI cI cZ cG o_now o_now_cells o_now_standing  v_now_jars v_now_weeks a1 hc9) (cwV 1 hts gX7_becomes_X2_has rfl rfl rfl (by decide +kernel) ⟨Nat.le_of_ble_eq_true rfl, Nat.le_of_ble_eq_true rfl⟩) hK hN (hP.sub [1] rfl) (va_recv hK hP (ci := 2) (q0 := 1) rfl rfl) rfl hl.1 rfl (Nat.le_of_ble_eq_true rfl) dX7_becomes_5 ⟨Nat.zero_le _, Nat.zero_le _⟩ ?_
  refine lv_if_ne (tgt := 13) hx hb dX7_becomes_8 (by decide) (fun c10 => ?_) (fun c10 => ?_)
  · have hf := g_neg c10 hf
    refine lv_iload_n hx hb dX7_becomes_13 rfl (lv_at hl 2 rfl) ?_
    obtain ⟨r11, hc12, hf⟩ := g_b1 hf
    refine g_rS (As := [.int a2]) (rest := []) ⟨hx, hb, hml, hown, hts⟩ (c_X7_isFigure l dC dI cI cZ cG    a2 hc12) (va_cwS 1 hts gX7_becomes_X7_isFigure rfl rfl rfl (by decide +kernel) ⟨Nat.le_of_ble_eq_true rfl, Nat.le_of_ble_eq_true rfl⟩) hK hN (hP.sub [] rfl) rfl hl.1 rfl (Nat.le_of_ble_eq_true rfl) dX7_becomes_14 ⟨Nat.zero_le _, Nat.zero_le _⟩ ?_
    refine lv_if_ne (tgt := 23) hx hb dX7_becomes_17 (by decide) (fun c13 => ?_) (fun c13 => ?_)
    · have hf := g_neg c13 hf
      refine lv_aload_n hx hb dX7_becomes_23 rfl (lv_at hl 0 rfl) ?_
      refine va_get (D := (dC, dI)) (ci := 7) (v := .ref o_now) (C := RX7) (T := TX7) (N := 9) hx hb hts hiX7 hown hK hP 0 rfl rfl 1 (by decide) (hts (.fieldLink RX7 19 "GreenJars" "now" "LGreenJars$Shelf;") (by decide +kernel)) (fun _ h9 => h9) rfl dX7_becomes_24 ?_
      refine lv_iload_n hx hb dX7_becomes_27 rfl (lv_at hl 1 rfl) ?_
      obtain ⟨r14, hc15, hf⟩ := g_b1 hf
      refine g_rV (As := [.int a1]) (rest := []) ⟨hx, hb, hml, hown, hts⟩ (c_X2_isWhole l dC dI cI cZ cG o_now o_now_cells o_now_standing  v_now_jars v_now_weeks f_now_cells a1 hc15) (cwV 1 hts gX7_becomes_X2_isWhole rfl rfl rfl (by decide +kernel) ⟨Nat.le_of_ble_eq_true rfl, Nat.le_of_ble_eq_true rfl⟩) hK hN (hP.sub [1, 2] rfl) (va_recv hK hP (ci := 2) (q0 := 1) rfl rfl) rfl hl.1 rfl (Nat.le_of_ble_eq_true rfl) dX7_becomes_28 ⟨Nat.zero_le _, Nat.zero_le _⟩ ?_
      refine lv_if_ne (tgt := 37) hx hb dX7_becomes_31 (by decide) (fun c16 => ?_) (fun c16 => ?_)
      · have hf := g_neg c16 hf
        refine lv_aload_n hx hb dX7_becomes_37 rfl (lv_at hl 0 rfl) ?_
        refine va_get (D := (dC, dI)) (ci := 7) (v := .ref o_trial) (C := RX7) (T := TX7) (N := 9) hx hb hts hiX7 hown hK hP 0 rfl rfl 2 (by decide) (hts (.fieldLink RX7 23 "GreenJars" "trial" "LGreenJars$Shelf;") (by decide +kernel)) (fun _ h9 => h9) rfl dX7_becomes_38 ?_
        refine lv_aload_n hx hb dX7_becomes_41 rfl (lv_at hl 0 rfl) ?_
        refine va_get (D := (dC, dI)) (ci := 7) (v := .ref o_now) (C := RX7) (T := TX7) (N := 9) hx hb hts hiX7 hown hK hP 0 rfl rfl 1 (by decide) (hts (.fieldLink RX7 19 "GreenJars" "now" "LGreenJars$Shelf;") (by decide +kernel)) (fun _ h9 => h9) rfl dX7_becomes_42 ?_
        obtain ⟨y17, y18, y19, hc20, hf⟩ := g_b3 hf
        refine g_wVv (As := [.ref o_now]) (rest := []) (wr := [(o, .inr (7, [.ref o_text, .ref o_now, .ref o_trial, .ref o_acts, .ref o_slots, .ref o_tastes, .ref o_ways, .ref o_fraction, .long v_seedNow]))]) (wn := (w_X7_becomes cI cZ cG o o_text o_now o_trial o_acts o_slots o_tastes o_ways o_fraction o_now_cells o_now_standing o_trial_cells o_trial_standing v_seedNow v_now_jars v_now_weeks f_now_cells y17 y18 y19)) ⟨hx, hb, hml, hown, hts⟩ (c_X2_copy l dC dI cI cZ cG o_trial o_trial_cells o_trial_standing o_now o_now_cells o_now_standing H.size  v_trial_jars v_trial_weeks f_trial_cells v_now_jars v_now_weeks f_now_cells hc20) (cwV 1 hts gX7_becomes_X2_copy rfl rfl rfl (by decide +kernel) ⟨Nat.le_of_ble_eq_true rfl, Nat.le_of_ble_eq_true rfl⟩) hK hN hP hD hS hA [3, 4, 1, 2] [0] [0, 3, 4, 1, 2] rfl rfl (by decide) rfl (by decide) (by decide) rfl (by decide) (va_recv hK hP (ci := 2) (q0 := 3) rfl rfl) rfl hl.1 rfl (Nat.le_of_ble_eq_true rfl) dX7_becomes_45 ⟨Nat.zero_le _, Nat.zero_le _⟩ (fun H locs hP hD hS => ?_)
        refine lv_iconst (v := (0 : Int32)) hx hb dX7_becomes_48 (by decide) ?_
        refine lv_istore_n (lv' := [(3, .int (0 : Int32)), (0, .ref o), (1, .int a1), (2, .int a2)]) hx hb dX7_becomes_49 rfl hl (by decide) rfl (fun ls hl => ?_)
        exact L50 N (0 : Int32) y17 y18 y19 H locs ls hf (lv_sub hl [1, 2, 3, 0] rfl) hP hD hS
      · have hf := g_pos c16 hf
        refine lv_bipush (v := (-3 : Int32)) hx hb dX7_becomes_34 (by decide +kernel) ?_
        rw [hQ]
        cases hf
        exact W.iret hx hb hr (fun t ht hW => ⟨⟨_, (), rfl, rfl, by rw [ht]; exact hP, va_K.moved hW.alike hK, hD⟩, hS.F ht⟩) hS.2.2 dX7_becomes_36
    · have hf := g_pos c13 hf
      refine lv_bipush (v := (-2 : Int32)) hx hb dX7_becomes_20 (by decide +kernel) ?_
      rw [hQ]
      cases hf
      exact W.iret hx hb hr (fun t ht hW => ⟨⟨_, (), rfl, rfl, by rw [ht]; exact hP, va_K.moved hW.alike hK, hD⟩, hS.F ht⟩) hS.2.2 dX7_becomes_22
  · have hf := g_pos c10 hf
    refine lv_iconst (v := (-1 : Int32)) hx hb dX7_becomes_11 (by decide) ?_
    rw [hQ]
    cases hf
    exact W.iret hx hb hr (fun t ht hW => ⟨⟨_, (), rfl, rfl, by rw [ht]; exact hP, va_K.moved hW.alike hK, hD⟩, hS.F ht⟩) hS.2.2 dX7_becomes_12
abbrev rm_X7_fails : Room := { frames := 4, cells := 0, slots := 0, locals := 89 }
abbrev w_X7_fails (cI cZ cG : ClassId) (o : Nat) (o_text : Nat) (o_now : Nat) (o_trial : Nat) (o_acts : Nat) (o_slots : Nat) (o_tastes : Nat) (o_ways : Nat) (o_fraction : Nat) (o_now_cells : Nat) (o_now_standing : Nat) (o_trial_cells : Nat) (o_trial_standing : Nat) (v_seedNow : Int64) (v_now_jars : Int32) (v_now_weeks : Int32) (f_now_cells : Nat → Int32) (v_trial_jars : Int32) (v_trial_weeks : Int32) (f_trial_cells : Nat → Int32) : va_W := [(o, .inr (7, [.ref o_text, .ref o_now, .ref o_trial, .ref o_acts, .ref o_slots, .ref o_tastes, .ref o_ways, .ref o_fraction, .long v_seedNow])), (o_now, .inr (2, [.ref o_now_cells, .ref o_now_standing, .int v_now_jars, .int v_now_weeks])), (o_now_cells, .inl (cI, 48, .inl f_now_cells)), (o_trial, .inr (2, [.ref o_trial_cells, .ref o_trial_standing, .int v_trial_jars, .int v_trial_weeks])), (o_trial_cells, .inl (cI, 48, .inl f_trial_cells))]
set_option maxHeartbeats 4000000 in
set_option maxRecDepth 100000 in
theorem c_X7_fails (l : Launch) (dC : Nat → ClassId) (dI : Nat → Nat → Nat) (cI cZ cG : ClassId) {N : Nat} (o : Nat) (o_text : Nat) (o_now : Nat) (o_trial : Nat) (o_acts : Nat) (o_slots : Nat) (o_tastes : Nat) (o_ways : Nat) (o_fraction : Nat) (o_now_cells : Nat) (o_now_standing : Nat) (o_trial_cells : Nat) (o_trial_standing : Nat) (sz : Nat) (v_seedNow : Int64) (v_now_jars : Int32) (v_now_weeks : Int32) (f_now_cells : Nat → Int32) (v_trial_jars : Int32) (v_trial_weeks : Int32) (f_trial_cells : Nat → Int32) (a1 : Int32) {r0 : Int32} {n_trial_jars : Int32} {n_trial_weeks : Int32} {n_trial_cells : Nat → Int32} (hf : x7_fails N v_now_jars v_now_weeks f_now_cells v_trial_jars v_trial_weeks f_trial_cells a1 = some (r0, n_trial_jars, n_trial_weeks, n_trial_cells)) : Met l yX7_fails wsX7_fails rm_X7_fails (va_Pc [.ref o, .int a1] (gW (dC, dI) vwCl (gT cI cZ cG) (w_X7_fails cI cZ cG o o_text o_now o_trial o_acts o_slots o_tastes o_ways o_fraction o_now_cells o_now_standing o_trial_cells o_trial_standing v_seedNow v_now_jars v_now_weeks f_now_cells v_trial_jars v_trial_weeks f_trial_cells) sz)) (va_Qi (fun r _ => r = r0) (gE (dC, dI) vwCl (gT cI cZ cG) (w_X7_fails cI cZ cG o o_text o_now o_trial o_acts o_slots o_tastes o_ways o_fraction o_now_cells o_now_standing o_trial_cells o_trial_standing v_seedNow v_now_jars v_now_weeks f_now_cells n_trial_jars n_trial_weeks n_trial_cells) (va_A (w_X7_fails cI cZ cG o o_text o_now o_trial o_acts o_slots o_tastes o_ways o_fraction o_now_cells o_now_standing o_trial_cells o_trial_standing v_seedNow v_now_jars v_now_weeks f_now_cells v_trial_jars v_trial_weeks f_trial_cells) sz)) (va_A (w_X7_fails cI cZ cG o o_text o_now o_trial o_acts o_slots o_tastes o_ways o_fraction o_now_cells o_now_standing o_trial_cells o_trial_standing v_seedNow v_now_jars v_now_weeks f_now_cells v_trial_jars v_trial_weeks f_trial_cells) sz)) 0 0 (va_A (w_X7_fails cI cZ cG o o_text o_now o_trial o_acts o_slots o_tastes o_ways o_fraction o_now_cells o_now_standing o_trial_cells o_trial_standing v_seedNow v_now_jars v_now_weeks f_now_cells v_trial_jars v_trial_weeks f_trial_cells) sz) := by
  refine Met.ofW (cc := cX7_fails) (maxL := 3) (ret := (some .int)) (by decide) rfl ?_
  intro p e s m args below meth c s₁ B hml hv
  obtain ⟨rfl, hv⟩ := hv
  obtain ⟨hsz, hP, hK, hN, hD0⟩ := hv
  have hx := B.exec
  have hb := B.bytes
  have hr := B.returns
  have hts := atoms_spec (ws := wsX7_fails) B.pre
  have hown : s.vm.findClass RX7 = some m.cls := findClass_of_methodNamed B.named
  have hlocks := B.notSynchronized
  have hiX2 : ∀ w ∈ u_ws RX2 TX2 4, w ∈ wsX7_fails := fun w h => List.mem_cons_of_mem _ (List.mem_append_right _ h)
  have hiX7 : ∀ w ∈ u_ws RX7 TX7 9, w ∈ wsX7_fails := fun w h => List.mem_cons_of_mem _ (List.mem_append_left _ (List.mem_append_right _ h))
  subst hsz
  have hD := hD0.self (sz := s.heap.size)
  generalize hAe : va_A (w_X7_fails cI cZ cG o o_text o_now o_trial o_acts o_slots o_tastes o_ways o_fraction o_now_cells o_now_standing o_trial_cells o_trial_standing v_seedNow v_now_jars v_now_weeks f_now_cells v_trial_jars v_trial_weeks f_trial_cells) s.heap.size = A at hD ⊢
  have hA : ∀ q : Nat, s.heap.size ≤ q → A q := fun q h => by rw [← hAe]; exact Or.inr h
  clear hD0
  have hS : va_S A s.heap s.heap [] := va_S.rf
  have hP : va_P (dC, dI) vwCl (w_X7_fails cI cZ cG o o_text o_now o_trial o_acts o_slots o_tastes o_ways o_fraction o_now_cells o_now_standing o_trial_cells o_trial_standing v_seedNow v_now_jars v_now_weeks f_now_cells v_trial_jars v_trial_weeks f_trial_cells) s.heap := hP
  obtain ⟨Q, hQ⟩ : ∃ Q : State → Prop, Q = MQ below (va_Qi (fun r _ => r = r0) (gE (dC, dI) vwCl (gT cI cZ cG) (w_X7_fails cI cZ cG o o_text o_now o_trial o_acts o_slots o_tastes o_ways o_fraction o_now_cells o_now_standing o_trial_cells o_trial_standing v_seedNow v_now_jars v_now_weeks f_now_cells n_trial_jars n_trial_weeks n_trial_cells) A) A) (([Value.ref o, Value.int a1] : List Value).toArray) s 0 0 A := ⟨_, rfl⟩
  have hl := lv_entry ([.ref o, .int a1]) (n := 3) (Nat.le_of_ble_eq_true rfl)
  rw [← hQ, lg_entry_eq]
  generalize (lg_sl ([.ref o, .int a1]) ++ List.replicate (3 - (lg_sl ([.ref o, .int a1])).length) Slot.unset).toArray = ls at hl ⊢
  have hl : lv_has ls 3 [(0, .ref o), (1, .int a1)] := hl
  generalize hH : s.heap = H at hP hS ⊢
  have hS : va_S A s.heap H [] := by rw [hH]; exact hS
  generalize hlc : ([] : List Loc) = locs at hS ⊢
  show W p l e rm_X7_fails s m (([Value.ref o, Value.int a1] : List Value).toArray) below meth c H locs 0 0 Q (F0 m 0 ls [])
  have L40 : ∀ (n40 : Nat), ∀ (x2 : Int32) (y_trial_jars : Int32) (y_trial_weeks : Int32) (y_trial_cells : Nat → Int32) (H : Heap) (locs : List Loc) (ls : Array Slot), x7_fails_b40 N v_now_jars v_now_weeks f_now_cells a1 n40 x2 y_trial_jars y_trial_weeks y_trial_cells = some (r0, n_trial_jars, n_trial_weeks, n_trial_cells) → lv_has ls 3 [(0, .ref o), (1, .int a1), (2, .int x2)] → va_P (dC, dI) vwCl (w_X7_fails cI cZ cG o o_text o_now o_trial o_acts o_slots o_tastes o_ways o_fraction o_now_cells o_now_standing o_trial_cells o_trial_standing v_seedNow v_now_jars v_now_weeks f_now_cells y_trial_jars y_trial_weeks y_trial_cells) H → va_D A (w_X7_fails cI cZ cG o o_text o_now o_trial o_acts o_slots o_tastes o_ways o_fraction o_now_cells o_now_standing o_trial_cells o_trial_standing v_seedNow v_now_jars v_now_weeks f_now_cells y_trial_jars y_trial_weeks y_trial_cells) → va_S A s.heap H locs → W p l e rm_X7_fails s m (([Value.ref o, Value.int a1] : List Value).toArray) below meth c H locs 0 0 Q (F0 m 40 ls []) := by
    intro n40
    induction n40 with
    | zero =>
      intro x2 y_trial_jars y_trial_weeks y_trial_cells H locs ls hf hl hP hD hS
      exact g_no hf
    | succ n40 ih40 =>
      intro x2 y_trial_jars y_trial_weeks y_trial_cells H locs ls hf hl hP hD hS
      unfold x7_fails_b40 at hf
      refine lv_iload_n hx hb dX7_fails_40 rfl (lv_at hl 2 rfl) ?_
      refine lv_bipush (v := (20 : Int32)) hx hb dX7_fails_41 (by decide +kernel) ?_
      refine lv_icmp_gt (tgt := 72) hx hb dX7_fails_43 (by decide) (fun c1 => ?_) (fun c1 => ?_)
      · have hf := g_pos c1 hf
        refine lv_bipush (v := (-9 : Int32)) hx hb dX7_fails_72 (by decide +kernel) ?_
        rw [hQ]
        cases hf
        exact W.iret hx hb hr (fun t ht hW => ⟨⟨_, (), rfl, rfl, by rw [ht]; exact hP, va_K.moved hW.alike hK, hD⟩, hS.F ht⟩) hS.2.2 dX7_fails_74
      · have hf := g_neg c1 hf
        refine lv_aload_n hx hb dX7_fails_46 rfl (lv_at hl 0 rfl) ?_
        refine va_get (D := (dC, dI)) (ci := 7) (v := .ref o_trial) (C := RX7) (T := TX7) (N := 9) hx hb hts hiX7 hown hK hP 0 rfl rfl 2 (by decide) (hts (.fieldLink RX7 23 "GreenJars" "trial" "LGreenJars$Shelf;") (by decide +kernel)) (fun _ h9 => h9) rfl dX7_fails_47 ?_
        refine lv_iload_n hx hb dX7_fails_50 rfl (lv_at hl 1 rfl) ?_
        obtain ⟨r2, hc3, hf⟩ := g_b1 hf
        refine g_rV (As := [.int a1]) (rest := []) ⟨hx, hb, hml, hown, hts⟩ (c_X2_wouldCrack l dC dI cI cZ cG o_trial o_trial_cells o_trial_standing  y_trial_jars y_trial_weeks y_trial_cells a1 hc3) (cwV 1 hts gX7_fails_X2_wouldCrack rfl rfl rfl (by decide +kernel) ⟨Nat.le_of_ble_eq_true rfl, Nat.le_of_ble_eq_true rfl⟩) hK hN (hP.sub [3, 4] rfl) (va_recv hK hP (ci := 2) (q0 := 3) rfl rfl) rfl hl.1 rfl (Nat.le_of_ble_eq_true rfl) dX7_fails_51 ⟨Nat.zero_le _, Nat.zero_le _⟩ ?_
        refine lv_if_eq (tgt := 59) hx hb dX7_fails_54 (by decide) (fun c4 => ?_) (fun c4 => ?_)
        · have hf := g_pos c4 hf
          refine lv_aload_n hx hb dX7_fails_59 rfl (lv_at hl 0 rfl) ?_
          refine va_get (D := (dC, dI)) (ci := 7) (v := .ref o_trial) (C := RX7) (T := TX7) (N := 9) hx hb hts hiX7 hown hK hP 0 rfl rfl 2 (by decide) (hts (.fieldLink RX7 23 "GreenJars" "trial" "LGreenJars$Shelf;") (by decide +kernel)) (fun _ h9 => h9) rfl dX7_fails_60 ?_
          obtain ⟨y5, y6, hc7, hf⟩ := g_b2 hf
          refine g_wVv (As := []) (rest := []) (wr := [(o, .inr (7, [.ref o_text, .ref o_now, .ref o_trial, .ref o_acts, .ref o_slots, .ref o_tastes, .ref o_ways, .ref o_fraction, .long v_seedNow])), (o_now, .inr (2, [.ref o_now_cells, .ref o_now_standing, .int v_now_jars, .int v_now_weeks])), (o_now_cells, .inl (cI, 48, .inl f_now_cells))]) (wn := (w_X7_fails cI cZ cG o o_text o_now o_trial o_acts o_slots o_tastes o_ways o_fraction o_now_cells o_now_standing o_trial_cells o_trial_standing v_seedNow v_now_jars v_now_weeks f_now_cells y_trial_jars y5 y6)) ⟨hx, hb, hml, hown, hts⟩ (c_X2_passWeek l dC dI cI cZ cG o_trial o_trial_cells o_trial_standing H.size  y_trial_jars y_trial_weeks y_trial_cells hc7) (cwV 0 hts gX7_fails_X2_passWeek rfl rfl rfl (by decide +kernel) ⟨Nat.le_of_ble_eq_true rfl, Nat.le_of_ble_eq_true rfl⟩) hK hN hP hD hS hA [3, 4] [0, 1, 2] [0, 1, 2, 3, 4] rfl rfl (by decide) rfl (by decide) (by decide) rfl (by decide) (va_recv hK hP (ci := 2) (q0 := 3) rfl rfl) rfl hl.1 rfl (Nat.le_of_ble_eq_true rfl) dX7_fails_63 ⟨Nat.zero_le _, Nat.zero_le _⟩ (fun H locs hP hD hS => ?_)
          refine lv_iinc (v := (x2 + (1 : Int32))) (lv' := [(2, .int (x2 + (1 : Int32))), (0, .ref o), (1, .int a1)]) hx hb dX7_fails_66 hl (k := 2) rfl rfl (by decide) rfl (fun ls hl => ?_)
          refine lv_goto (tgt := 40) hx hb dX7_fails_69 (by decide) ?_
          exact ih40 (x2 + (1 : Int32)) y_trial_jars y5 y6 H locs ls hf (lv_sub hl [1, 2, 0] rfl) hP hD hS
        · have hf := g_neg c4 hf
          refine lv_iload_n hx hb dX7_fails_57 rfl (lv_at hl 2 rfl) ?_
          rw [hQ]
          cases hf
          exact W.iret hx hb hr (fun t ht hW => ⟨⟨_, (), rfl, rfl, by rw [ht]; exact hP, va_K.moved hW.alike hK, hD⟩, hS.F ht⟩) hS.2.2 dX7_fails_58
  unfold x7_fails at hf
  refine lv_aload_n hx hb dX7_fails_0 rfl (lv_at hl 0 rfl) ?_
  refine va_get (D := (dC, dI)) (ci := 7) (v := .ref o_now) (C := RX7) (T := TX7) (N := 9) hx hb hts hiX7 hown hK hP 0 rfl rfl 1 (by decide) (hts (.fieldLink RX7 19 "GreenJars" "now" "LGreenJars$Shelf;") (by decide +kernel)) (fun _ h9 => h9) rfl dX7_fails_1 ?_
  refine lv_iload_n hx hb dX7_fails_4 rfl (lv_at hl 1 rfl) ?_
  obtain ⟨r8, hc9, hf⟩ := g_b1 hf
  refine g_rV (As := [.int a1]) (rest := []) ⟨hx, hb, hml, hown, hts⟩ (c_X2_has l dC dI cI cZ cG o_now o_now_cells o_now_standing  v_now_jars v_now_weeks a1 hc9) (cwV 1 hts gX7_fails_X2_has rfl rfl rfl (by decide +kernel) ⟨Nat.le_of_ble_eq_true rfl, Nat.le_of_ble_eq_true rfl⟩) hK hN (hP.sub [1] rfl) (va_recv hK hP (ci := 2) (q0 := 1) rfl rfl) rfl hl.1 rfl (Nat.le_of_ble_eq_true rfl) dX7_fails_5 ⟨Nat.zero_le _, Nat.zero_le _⟩ ?_
  refine lv_if_ne (tgt := 13) hx hb dX7_fails_8 (by decide) (fun c10 => ?_) (fun c10 => ?_)
  · have hf := g_neg c10 hf
    refine lv_aload_n hx hb dX7_fails_13 rfl (lv_at hl 0 rfl) ?_
    refine va_get (D := (dC, dI)) (ci := 7) (v := .ref o_now) (C := RX7) (T := TX7) (N := 9) hx hb hts hiX7 hown hK hP 0 rfl rfl 1 (by decide) (hts (.fieldLink RX7 19 "GreenJars" "now" "LGreenJars$Shelf;") (by decide +kernel)) (fun _ h9 => h9) rfl dX7_fails_14 ?_
    refine lv_iload_n hx hb dX7_fails_17 rfl (lv_at hl 1 rfl) ?_
    obtain ⟨r11, hc12, hf⟩ := g_b1 hf
    refine g_rV (As := [.int a1]) (rest := []) ⟨hx, hb, hml, hown, hts⟩ (c_X2_isWhole l dC dI cI cZ cG o_now o_now_cells o_now_standing  v_now_jars v_now_weeks f_now_cells a1 hc12) (cwV 1 hts gX7_fails_X2_isWhole rfl rfl rfl (by decide +kernel) ⟨Nat.le_of_ble_eq_true rfl, Nat.le_of_ble_eq_true rfl⟩) hK hN (hP.sub [1, 2] rfl) (va_recv hK hP (ci := 2) (q0 := 1) rfl rfl) rfl hl.1 rfl (Nat.le_of_ble_eq_true rfl) dX7_fails_18 ⟨Nat.zero_le _, Nat.zero_le _⟩ ?_
    refine lv_if_ne (tgt := 27) hx hb dX7_fails_21 (by decide) (fun c13 => ?_) (fun c13 => ?_)
    · have hf := g_neg c13 hf
      refine lv_aload_n hx hb dX7_fails_27 rfl (lv_at hl 0 rfl) ?_
      refine va_get (D := (dC, dI)) (ci := 7) (v := .ref o_trial) (C := RX7) (T := TX7) (N := 9) hx hb hts hiX7 hown hK hP 0 rfl rfl 2 (by decide) (hts (.fieldLink RX7 23 "GreenJars" "trial" "LGreenJars$Shelf;") (by decide +kernel)) (fun _ h9 => h9) rfl dX7_fails_28 ?_
      refine lv_aload_n hx hb dX7_fails_31 rfl (lv_at hl 0 rfl) ?_
      refine va_get (D := (dC, dI)) (ci := 7) (v := .ref o_now) (C := RX7) (T := TX7) (N := 9) hx hb hts hiX7 hown hK hP 0 rfl rfl 1 (by decide) (hts (.fieldLink RX7 19 "GreenJars" "now" "LGreenJars$Shelf;") (by decide +kernel)) (fun _ h9 => h9) rfl dX7_fails_32 ?_
      obtain ⟨y14, y15, y16, hc17, hf⟩ := g_b3 hf
      refine g_wVv (As := [.ref o_now]) (rest := []) (wr := [(o, .inr (7, [.ref o_text, .ref o_now, .ref o_trial, .ref o_acts, .ref o_slots, .ref o_tastes, .ref o_ways, .ref o_fraction, .long v_seedNow]))]) (wn := (w_X7_fails cI cZ cG o o_text o_now o_trial o_acts o_slots o_tastes o_ways o_fraction o_now_cells o_now_standing o_trial_cells o_trial_standing v_seedNow v_now_jars v_now_weeks f_now_cells y14 y15 y16)) ⟨hx, hb, hml, hown, hts⟩ (c_X2_copy l dC dI cI cZ cG o_trial o_trial_cells o_trial_standing o_now o_now_cells o_now_standing H.size  v_trial_jars v_trial_weeks f_trial_cells v_now_jars v_now_weeks f_now_cells hc17) (cwV 1 hts gX7_fails_X2_copy rfl rfl rfl (by decide +kernel) ⟨Nat.le_of_ble_eq_true rfl, Nat.le_of_ble_eq_true rfl⟩) hK hN hP hD hS hA [3, 4, 1, 2] [0] [0, 3, 4, 1, 2] rfl rfl (by decide) rfl (by decide) (by decide) rfl (by decide) (va_recv hK hP (ci := 2) (q0 := 3) rfl rfl) rfl hl.1 rfl (Nat.le_of_ble_eq_true rfl) dX7_fails_35 ⟨Nat.zero_le _, Nat.zero_le _⟩ (fun H locs hP hD hS => ?_)
      refine lv_iconst (v := (0 : Int32)) hx hb dX7_fails_38 (by decide) ?_
      refine lv_istore_n (lv' := [(2, .int (0 : Int32)), (0, .ref o), (1, .int a1)]) hx hb dX7_fails_39 rfl hl (by decide) rfl (fun ls hl => ?_)
      exact L40 N (0 : Int32) y14 y15 y16 H locs ls hf (lv_sub hl [1, 2, 0] rfl) hP hD hS
    · have hf := g_pos c13 hf
      refine lv_bipush (v := (-3 : Int32)) hx hb dX7_fails_24 (by decide +kernel) ?_
      rw [hQ]
      cases hf
      exact W.iret hx hb hr (fun t ht hW => ⟨⟨_, (), rfl, rfl, by rw [ht]; exact hP, va_K.moved hW.alike hK, hD⟩, hS.F ht⟩) hS.2.2 dX7_fails_26
  · have hf := g_pos c10 hf
    refine lv_iconst (v := (-1 : Int32)) hx hb dX7_fails_11 (by decide) ?_
    rw [hQ]
    cases hf
    exact W.iret hx hb hr (fun t ht hW => ⟨⟨_, (), rfl, rfl, by rw [ht]; exact hP, va_K.moved hW.alike hK, hD⟩, hS.F ht⟩) hS.2.2 dX7_fails_12
abbrev rm_X7_distanceIn : Room := { frames := 5, cells := 0, slots := 0, locals := 111 }
abbrev w_X7_distanceIn (cI cZ cG : ClassId) (o : Nat) (o_text : Nat) (o_now : Nat) (o_trial : Nat) (o_acts : Nat) (o_slots : Nat) (o_tastes : Nat) (o_ways : Nat) (o_fraction : Nat) (o_now_cells : Nat) (o_now_standing : Nat) (o_trial_cells : Nat) (o_trial_standing : Nat) (v_seedNow : Int64) (v_now_jars : Int32) (v_now_weeks : Int32) (f_now_cells : Nat → Int32) (v_trial_jars : Int32) (v_trial_weeks : Int32) (f_trial_cells : Nat → Int32) : va_W := [(o, .inr (7, [.ref o_text, .ref o_now, .ref o_trial, .ref o_acts, .ref o_slots, .ref o_tastes, .ref o_ways, .ref o_fraction, .long v_seedNow])), (o_now, .inr (2, [.ref o_now_cells, .ref o_now_standing, .int v_now_jars, .int v_now_weeks])), (o_now_cells, .inl (cI, 48, .inl f_now_cells)), (o_trial, .inr (2, [.ref o_trial_cells, .ref o_trial_standing, .int v_trial_jars, .int v_trial_weeks])), (o_trial_cells, .inl (cI, 48, .inl f_trial_cells))]
set_option maxHeartbeats 4000000 in
set_option maxRecDepth 100000 in
theorem c_X7_distanceIn (l : Launch) (dC : Nat → ClassId) (dI : Nat → Nat → Nat) (cI cZ cG : ClassId) {N : Nat} (o : Nat) (o_text : Nat) (o_now : Nat) (o_trial : Nat) (o_acts : Nat) (o_slots : Nat) (o_tastes : Nat) (o_ways : Nat) (o_fraction : Nat) (o_now_cells : Nat) (o_now_standing : Nat) (o_trial_cells : Nat) (o_trial_standing : Nat) (sz : Nat) (v_seedNow : Int64) (v_now_jars : Int32) (v_now_weeks : Int32) (f_now_cells : Nat → Int32) (v_trial_jars : Int32) (v_trial_weeks : Int32) (f_trial_cells : Nat → Int32) (a1 : Int32) (a2 : Int32) (a3 : Int32) (a4 : Int32) {r0 : Int32} {n_trial_jars : Int32} {n_trial_weeks : Int32} {n_trial_cells : Nat → Int32} (hf : x7_distanceIn N v_now_jars v_now_weeks f_now_cells v_trial_jars v_trial_weeks f_trial_cells a1 a2 a3 a4 = some (r0, n_trial_jars, n_trial_weeks, n_trial_cells)) : Met l yX7_distanceIn wsX7_distanceIn rm_X7_distanceIn (va_Pc [.ref o, .int a1, .int a2, .int a3, .int a4] (gW (dC, dI) vwCl (gT cI cZ cG) (w_X7_distanceIn cI cZ cG o o_text o_now o_trial o_acts o_slots o_tastes o_ways o_fraction o_now_cells o_now_standing o_trial_cells o_trial_standing v_seedNow v_now_jars v_now_weeks f_now_cells v_trial_jars v_trial_weeks f_trial_cells) sz)) (va_Qi (fun r _ => r = r0) (gE (dC, dI) vwCl (gT cI cZ cG) (w_X7_distanceIn cI cZ cG o o_text o_now o_trial o_acts o_slots o_tastes o_ways o_fraction o_now_cells o_now_standing o_trial_cells o_trial_standing v_seedNow v_now_jars v_now_weeks f_now_cells n_trial_jars n_trial_weeks n_trial_cells) (va_A (w_X7_distanceIn cI cZ cG o o_text o_now o_trial o_acts o_slots o_tastes o_ways o_fraction o_now_cells o_now_standing o_trial_cells o_trial_standing v_seedNow v_now_jars v_now_weeks f_now_cells v_trial_jars v_trial_weeks f_trial_cells) sz)) (va_A (w_X7_distanceIn cI cZ cG o o_text o_now o_trial o_acts o_slots o_tastes o_ways o_fraction o_now_cells o_now_standing o_trial_cells o_trial_standing v_seedNow v_now_jars v_now_weeks f_now_cells v_trial_jars v_trial_weeks f_trial_cells) sz)) 0 0 (va_A (w_X7_distanceIn cI cZ cG o o_text o_now o_trial o_acts o_slots o_tastes o_ways o_fraction o_now_cells o_now_standing o_trial_cells o_trial_standing v_seedNow v_now_jars v_now_weeks f_now_cells v_trial_jars v_trial_weeks f_trial_cells) sz) := by
  refine Met.ofW (cc := cX7_distanceIn) (maxL := 5) (ret := (some .int)) (by decide) rfl ?_
  intro p e s m args below meth c s₁ B hml hv
  obtain ⟨rfl, hv⟩ := hv
  obtain ⟨hsz, hP, hK, hN, hD0⟩ := hv
  have hx := B.exec
  have hb := B.bytes
  have hr := B.returns
  have hts := atoms_spec (ws := wsX7_distanceIn) B.pre
  have hown : s.vm.findClass RX7 = some m.cls := findClass_of_methodNamed B.named
  have hlocks := B.notSynchronized
  have hiX2 : ∀ w ∈ u_ws RX2 TX2 4, w ∈ wsX7_distanceIn := fun w h => List.mem_cons_of_mem _ (List.mem_append_right _ h)
  have hiX7 : ∀ w ∈ u_ws RX7 TX7 9, w ∈ wsX7_distanceIn := fun w h => List.mem_cons_of_mem _ (List.mem_append_left _ (List.mem_append_right _ h))
  subst hsz
  have hD := hD0.self (sz := s.heap.size)
  generalize hAe : va_A (w_X7_distanceIn cI cZ cG o o_text o_now o_trial o_acts o_slots o_tastes o_ways o_fraction o_now_cells o_now_standing o_trial_cells o_trial_standing v_seedNow v_now_jars v_now_weeks f_now_cells v_trial_jars v_trial_weeks f_trial_cells) s.heap.size = A at hD ⊢
  have hA : ∀ q : Nat, s.heap.size ≤ q → A q := fun q h => by rw [← hAe]; exact Or.inr h
  clear hD0
  have hS : va_S A s.heap s.heap [] := va_S.rf
  have hP : va_P (dC, dI) vwCl (w_X7_distanceIn cI cZ cG o o_text o_now o_trial o_acts o_slots o_tastes o_ways o_fraction o_now_cells o_now_standing o_trial_cells o_trial_standing v_seedNow v_now_jars v_now_weeks f_now_cells v_trial_jars v_trial_weeks f_trial_cells) s.heap := hP
  obtain ⟨Q, hQ⟩ : ∃ Q : State → Prop, Q = MQ below (va_Qi (fun r _ => r = r0) (gE (dC, dI) vwCl (gT cI cZ cG) (w_X7_distanceIn cI cZ cG o o_text o_now o_trial o_acts o_slots o_tastes o_ways o_fraction o_now_cells o_now_standing o_trial_cells o_trial_standing v_seedNow v_now_jars v_now_weeks f_now_cells n_trial_jars n_trial_weeks n_trial_cells) A) A) (([Value.ref o, Value.int a1, Value.int a2, Value.int a3, Value.int a4] : List Value).toArray) s 0 0 A := ⟨_, rfl⟩
  have hl := lv_entry ([.ref o, .int a1, .int a2, .int a3, .int a4]) (n := 5) (Nat.le_of_ble_eq_true rfl)
  rw [← hQ, lg_entry_eq]
  generalize (lg_sl ([.ref o, .int a1, .int a2, .int a3, .int a4]) ++ List.replicate (5 - (lg_sl ([.ref o, .int a1, .int a2, .int a3, .int a4])).length) Slot.unset).toArray = ls at hl ⊢
  have hl : lv_has ls 5 [(0, .ref o), (1, .int a1), (2, .int a2), (3, .int a3), (4, .int a4)] := hl
  generalize hH : s.heap = H at hP hS ⊢
  have hS : va_S A s.heap H [] := by rw [hH]; exact hS
  generalize hlc : ([] : List Loc) = locs at hS ⊢
  show W p l e rm_X7_distanceIn s m (([Value.ref o, Value.int a1, Value.int a2, Value.int a3, Value.int a4] : List Value).toArray) below meth c H locs 0 0 Q (F0 m 0 ls [])
  unfold x7_distanceIn at hf
  refine lv_aload_n hx hb dX7_distanceIn_0 rfl (lv_at hl 0 rfl) ?_
  refine va_get (D := (dC, dI)) (ci := 7) (v := .ref o_trial) (C := RX7) (T := TX7) (N := 9) hx hb hts hiX7 hown hK hP 0 rfl rfl 2 (by decide) (hts (.fieldLink RX7 23 "GreenJars" "trial" "LGreenJars$Shelf;") (by decide +kernel)) (fun _ h9 => h9) rfl dX7_distanceIn_1 ?_
  refine lv_aload_n hx hb dX7_distanceIn_4 rfl (lv_at hl 0 rfl) ?_
  refine va_get (D := (dC, dI)) (ci := 7) (v := .ref o_now) (C := RX7) (T := TX7) (N := 9) hx hb hts hiX7 hown hK hP 0 rfl rfl 1 (by decide) (hts (.fieldLink RX7 19 "GreenJars" "now" "LGreenJars$Shelf;") (by decide +kernel)) (fun _ h9 => h9) rfl dX7_distanceIn_5 ?_
  obtain ⟨y1, y2, y3, hc4, hf⟩ := g_b3 hf
  refine g_wVv (As := [.ref o_now]) (rest := []) (wr := [(o, .inr (7, [.ref o_text, .ref o_now, .ref o_trial, .ref o_acts, .ref o_slots, .ref o_tastes, .ref o_ways, .ref o_fraction, .long v_seedNow]))]) (wn := (w_X7_distanceIn cI cZ cG o o_text o_now o_trial o_acts o_slots o_tastes o_ways o_fraction o_now_cells o_now_standing o_trial_cells o_trial_standing v_seedNow v_now_jars v_now_weeks f_now_cells y1 y2 y3)) ⟨hx, hb, hml, hown, hts⟩ (c_X2_copy l dC dI cI cZ cG o_trial o_trial_cells o_trial_standing o_now o_now_cells o_now_standing H.size  v_trial_jars v_trial_weeks f_trial_cells v_now_jars v_now_weeks f_now_cells hc4) (cwV 1 hts gX7_distanceIn_X2_copy rfl rfl rfl (by decide +kernel) ⟨Nat.le_of_ble_eq_true rfl, Nat.le_of_ble_eq_true rfl⟩) hK hN hP hD hS hA [3, 4, 1, 2] [0] [0, 3, 4, 1, 2] rfl rfl (by decide) rfl (by decide) (by decide) rfl (by decide) (va_recv hK hP (ci := 2) (q0 := 3) rfl rfl) rfl hl.1 rfl (Nat.le_of_ble_eq_true rfl) dX7_distanceIn_8 ⟨Nat.zero_le _, Nat.zero_le _⟩ (fun H locs hP hD hS => ?_)
  refine lv_aload_n hx hb dX7_distanceIn_11 rfl (lv_at hl 0 rfl) ?_
  refine va_get (D := (dC, dI)) (ci := 7) (v := .ref o_trial) (C := RX7) (T := TX7) (N := 9) hx hb hts hiX7 hown hK hP 0 rfl rfl 2 (by decide) (hts (.fieldLink RX7 23 "GreenJars" "trial" "LGreenJars$Shelf;") (by decide +kernel)) (fun _ h9 => h9) rfl dX7_distanceIn_12 ?_
  refine lv_iload_n hx hb dX7_distanceIn_15 rfl (lv_at hl 1 rfl) ?_
  refine lv_iload_n hx hb dX7_distanceIn_16 rfl (lv_at hl 2 rfl) ?_
  obtain ⟨y5, hc6, hf⟩ := g_b1 hf
  refine g_wVv (As := [.int a1, .int a2]) (rest := []) (wr := [(o, .inr (7, [.ref o_text, .ref o_now, .ref o_trial, .ref o_acts, .ref o_slots, .ref o_tastes, .ref o_ways, .ref o_fraction, .long v_seedNow])), (o_now, .inr (2, [.ref o_now_cells, .ref o_now_standing, .int v_now_jars, .int v_now_weeks])), (o_now_cells, .inl (cI, 48, .inl f_now_cells))]) (wn := (w_X7_distanceIn cI cZ cG o o_text o_now o_trial o_acts o_slots o_tastes o_ways o_fraction o_now_cells o_now_standing o_trial_cells o_trial_standing v_seedNow v_now_jars v_now_weeks f_now_cells y1 y2 y5)) ⟨hx, hb, hml, hown, hts⟩ (c_X2_fill l dC dI cI cZ cG o_trial o_trial_cells o_trial_standing H.size  y1 y2 y3 a1 a2 hc6) (cwV 2 hts gX7_distanceIn_X2_fill rfl rfl rfl (by decide +kernel) ⟨Nat.le_of_ble_eq_true rfl, Nat.le_of_ble_eq_true rfl⟩) hK hN hP hD hS hA [3, 4] [0, 1, 2] [0, 1, 2, 3, 4] rfl rfl (by decide) rfl (by decide) (by decide) rfl (by decide) (va_recv hK hP (ci := 2) (q0 := 3) rfl rfl) rfl hl.1 rfl (Nat.le_of_ble_eq_true rfl) dX7_distanceIn_17 ⟨Nat.zero_le _, Nat.zero_le _⟩ (fun H locs hP hD hS => ?_)
  refine lv_aload_n hx hb dX7_distanceIn_20 rfl (lv_at hl 0 rfl) ?_
  refine va_get (D := (dC, dI)) (ci := 7) (v := .ref o_trial) (C := RX7) (T := TX7) (N := 9) hx hb hts hiX7 hown hK hP 0 rfl rfl 2 (by decide) (hts (.fieldLink RX7 23 "GreenJars" "trial" "LGreenJars$Shelf;") (by decide +kernel)) (fun _ h9 => h9) rfl dX7_distanceIn_21 ?_
  refine lv_iload_n hx hb dX7_distanceIn_24 rfl (lv_at hl 3 rfl) ?_
  obtain ⟨y7, y8, hc9, hf⟩ := g_b2 hf
  refine g_wVv (As := [.int a3]) (rest := []) (wr := [(o, .inr (7, [.ref o_text, .ref o_now, .ref o_trial, .ref o_acts, .ref o_slots, .ref o_tastes, .ref o_ways, .ref o_fraction, .long v_seedNow])), (o_now, .inr (2, [.ref o_now_cells, .ref o_now_standing, .int v_now_jars, .int v_now_weeks])), (o_now_cells, .inl (cI, 48, .inl f_now_cells))]) (wn := (w_X7_distanceIn cI cZ cG o o_text o_now o_trial o_acts o_slots o_tastes o_ways o_fraction o_now_cells o_now_standing o_trial_cells o_trial_standing v_seedNow v_now_jars v_now_weeks f_now_cells y1 y7 y8)) ⟨hx, hb, hml, hown, hts⟩ (c_X2_passWeeks l dC dI cI cZ cG o_trial o_trial_cells o_trial_standing H.size  y1 y2 y5 a3 hc9) (cwV 1 hts gX7_distanceIn_X2_passWeeks rfl rfl rfl (by decide +kernel) ⟨Nat.le_of_ble_eq_true rfl, Nat.le_of_ble_eq_true rfl⟩) hK hN hP hD hS hA [3, 4] [0, 1, 2] [0, 1, 2, 3, 4] rfl rfl (by decide) rfl (by decide) (by decide) rfl (by decide) (va_recv hK hP (ci := 2) (q0 := 3) rfl rfl) rfl hl.1 rfl (Nat.le_of_ble_eq_true rfl) dX7_distanceIn_25 ⟨Nat.zero_le _, Nat.zero_le _⟩ (fun H locs hP hD hS => ?_)
  refine lv_aload_n hx hb dX7_distanceIn_28 rfl (lv_at hl 0 rfl) ?_
  refine va_get (D := (dC, dI)) (ci := 7) (v := .ref o_trial) (C := RX7) (T := TX7) (N := 9) hx hb hts hiX7 hown hK hP 0 rfl rfl 2 (by decide) (hts (.fieldLink RX7 23 "GreenJars" "trial" "LGreenJars$Shelf;") (by decide +kernel)) (fun _ h9 => h9) rfl dX7_distanceIn_29 ?_
  refine lv_iload_n hx hb dX7_distanceIn_32 rfl (lv_at hl 1 rfl) ?_
  refine lv_iconst (v := (1 : Int32)) hx hb dX7_distanceIn_33 (by decide) ?_
  obtain ⟨r10, hc11, hf⟩ := g_b1 hf
  refine g_rV (As := [.int a1, .int (1 : Int32)]) (rest := []) ⟨hx, hb, hml, hown, hts⟩ (c_X2_part l dC dI cI cZ cG o_trial o_trial_cells o_trial_standing  y1 y7 y8 a1 (1 : Int32) hc11) (cwV 2 hts gX7_distanceIn_X2_part rfl rfl rfl (by decide +kernel) ⟨Nat.le_of_ble_eq_true rfl, Nat.le_of_ble_eq_true rfl⟩) hK hN (hP.sub [3, 4] rfl) (va_recv hK hP (ci := 2) (q0 := 3) rfl rfl) rfl hl.1 rfl (Nat.le_of_ble_eq_true rfl) dX7_distanceIn_34 ⟨Nat.zero_le _, Nat.zero_le _⟩ ?_
  refine lv_iload hx hb dX7_distanceIn_37 (lv_at hl 4 rfl) ?_
  refine lv_isub hx hb dX7_distanceIn_39 ?_
  refine va_mabs hx hb (hml.trans hl.1.symm) hown (hts (.methodLink RX7 179 Lib.Math.abs.name) (by decide +kernel)) (hts (.static Lib.Math.abs.name) (by decide +kernel)) (hts (.initialized "java/lang/Math") (by decide +kernel)) (hts (.code Lib.Math.abs.name Lib.Math.abs.code 1 (some .int)) (by decide +kernel)) (Nat.le_of_ble_eq_true rfl) (Nat.le_of_ble_eq_true rfl) (Nat.zero_le _) (Nat.zero_le _) dX7_distanceIn_40 ?_
  rw [hQ]
  cases hf
  exact W.iret hx hb hr (fun t ht hW => ⟨⟨_, (), rfl, rfl, by rw [ht]; exact hP, va_K.moved hW.alike hK, hD⟩, hS.F ht⟩) hS.2.2 dX7_distanceIn_43
abbrev rm_X7_stuff : Room := { frames := 6, cells := 0, slots := 0, locals := 135 }
abbrev w_X7_stuff (cI cZ cG : ClassId) (o : Nat) (o_text : Nat) (o_now : Nat) (o_trial : Nat) (o_acts : Nat) (o_slots : Nat) (o_tastes : Nat) (o_ways : Nat) (o_fraction : Nat) (o_now_cells : Nat) (o_now_standing : Nat) (o_trial_cells : Nat) (o_trial_standing : Nat) (v_seedNow : Int64) (v_now_jars : Int32) (v_now_weeks : Int32) (f_now_cells : Nat → Int32) (v_trial_jars : Int32) (v_trial_weeks : Int32) (f_trial_cells : Nat → Int32) : va_W := [(o, .inr (7, [.ref o_text, .ref o_now, .ref o_trial, .ref o_acts, .ref o_slots, .ref o_tastes, .ref o_ways, .ref o_fraction, .long v_seedNow])), (o_now, .inr (2, [.ref o_now_cells, .ref o_now_standing, .int v_now_jars, .int v_now_weeks])), (o_now_cells, .inl (cI, 48, .inl f_now_cells)), (o_trial, .inr (2, [.ref o_trial_cells, .ref o_trial_standing, .int v_trial_jars, .int v_trial_weeks])), (o_trial_cells, .inl (cI, 48, .inl f_trial_cells))]
set_option maxHeartbeats 4000000 in
set_option maxRecDepth 100000 in
theorem c_X7_stuff (l : Launch) (dC : Nat → ClassId) (dI : Nat → Nat → Nat) (cI cZ cG : ClassId) {N : Nat} (o : Nat) (o_text : Nat) (o_now : Nat) (o_trial : Nat) (o_acts : Nat) (o_slots : Nat) (o_tastes : Nat) (o_ways : Nat) (o_fraction : Nat) (o_now_cells : Nat) (o_now_standing : Nat) (o_trial_cells : Nat) (o_trial_standing : Nat) (sz : Nat) (v_seedNow : Int64) (v_now_jars : Int32) (v_now_weeks : Int32) (f_now_cells : Nat → Int32) (v_trial_jars : Int32) (v_trial_weeks : Int32) (f_trial_cells : Nat → Int32) (a1 : Int32) (a2 : Int32) (a3 : Int32) (a4 : Int32) {r0 : Int32} {n_trial_jars : Int32} {n_trial_weeks : Int32} {n_trial_cells : Nat → Int32} (hf : x7_stuff N v_now_jars v_now_weeks f_now_cells v_trial_jars v_trial_weeks f_trial_cells a1 a2 a3 a4 = some (r0, n_trial_jars, n_trial_weeks, n_trial_cells)) : Met l yX7_stuff wsX7_stuff rm_X7_stuff (va_Pc [.ref o, .int a1, .int a2, .int a3, .int a4] (gW (dC, dI) vwCl (gT cI cZ cG) (w_X7_stuff cI cZ cG o o_text o_now o_trial o_acts o_slots o_tastes o_ways o_fraction o_now_cells o_now_standing o_trial_cells o_trial_standing v_seedNow v_now_jars v_now_weeks f_now_cells v_trial_jars v_trial_weeks f_trial_cells) sz)) (va_Qi (fun r _ => r = r0) (gE (dC, dI) vwCl (gT cI cZ cG) (w_X7_stuff cI cZ cG o o_text o_now o_trial o_acts o_slots o_tastes o_ways o_fraction o_now_cells o_now_standing o_trial_cells o_trial_standing v_seedNow v_now_jars v_now_weeks f_now_cells n_trial_jars n_trial_weeks n_trial_cells) (va_A (w_X7_stuff cI cZ cG o o_text o_now o_trial o_acts o_slots o_tastes o_ways o_fraction o_now_cells o_now_standing o_trial_cells o_trial_standing v_seedNow v_now_jars v_now_weeks f_now_cells v_trial_jars v_trial_weeks f_trial_cells) sz)) (va_A (w_X7_stuff cI cZ cG o o_text o_now o_trial o_acts o_slots o_tastes o_ways o_fraction o_now_cells o_now_standing o_trial_cells o_trial_standing v_seedNow v_now_jars v_now_weeks f_now_cells v_trial_jars v_trial_weeks f_trial_cells) sz)) 0 0 (va_A (w_X7_stuff cI cZ cG o o_text o_now o_trial o_acts o_slots o_tastes o_ways o_fraction o_now_cells o_now_standing o_trial_cells o_trial_standing v_seedNow v_now_jars v_now_weeks f_now_cells v_trial_jars v_trial_weeks f_trial_cells) sz) := by
  refine Met.ofW (cc := cX7_stuff) (maxL := 9) (ret := (some .int)) (by decide) rfl ?_
  intro p e s m args below meth c s₁ B hml hv
  obtain ⟨rfl, hv⟩ := hv
  obtain ⟨hsz, hP, hK, hN, hD0⟩ := hv
  have hx := B.exec
  have hb := B.bytes
  have hr := B.returns
  have hts := atoms_spec (ws := wsX7_stuff) B.pre
  have hown : s.vm.findClass RX7 = some m.cls := findClass_of_methodNamed B.named
  have hlocks := B.notSynchronized
  have hiX2 : ∀ w ∈ u_ws RX2 TX2 4, w ∈ wsX7_stuff := fun w h => List.mem_cons_of_mem _ (List.mem_append_right _ h)
  have hiX7 : ∀ w ∈ u_ws RX7 TX7 9, w ∈ wsX7_stuff := fun w h => List.mem_cons_of_mem _ (List.mem_append_left _ (List.mem_append_right _ h))
  subst hsz
  have hD := hD0.self (sz := s.heap.size)
  generalize hAe : va_A (w_X7_stuff cI cZ cG o o_text o_now o_trial o_acts o_slots o_tastes o_ways o_fraction o_now_cells o_now_standing o_trial_cells o_trial_standing v_seedNow v_now_jars v_now_weeks f_now_cells v_trial_jars v_trial_weeks f_trial_cells) s.heap.size = A at hD ⊢
  have hA : ∀ q : Nat, s.heap.size ≤ q → A q := fun q h => by rw [← hAe]; exact Or.inr h
  clear hD0
  have hS : va_S A s.heap s.heap [] := va_S.rf
  have hP : va_P (dC, dI) vwCl (w_X7_stuff cI cZ cG o o_text o_now o_trial o_acts o_slots o_tastes o_ways o_fraction o_now_cells o_now_standing o_trial_cells o_trial_standing v_seedNow v_now_jars v_now_weeks f_now_cells v_trial_jars v_trial_weeks f_trial_cells) s.heap := hP
  obtain ⟨Q, hQ⟩ : ∃ Q : State → Prop, Q = MQ below (va_Qi (fun r _ => r = r0) (gE (dC, dI) vwCl (gT cI cZ cG) (w_X7_stuff cI cZ cG o o_text o_now o_trial o_acts o_slots o_tastes o_ways o_fraction o_now_cells o_now_standing o_trial_cells o_trial_standing v_seedNow v_now_jars v_now_weeks f_now_cells n_trial_jars n_trial_weeks n_trial_cells) A) A) (([Value.ref o, Value.int a1, Value.int a2, Value.int a3, Value.int a4] : List Value).toArray) s 0 0 A := ⟨_, rfl⟩
  have hl := lv_entry ([.ref o, .int a1, .int a2, .int a3, .int a4]) (n := 9) (Nat.le_of_ble_eq_true rfl)
  rw [← hQ, lg_entry_eq]
  generalize (lg_sl ([.ref o, .int a1, .int a2, .int a3, .int a4]) ++ List.replicate (9 - (lg_sl ([.ref o, .int a1, .int a2, .int a3, .int a4])).length) Slot.unset).toArray = ls at hl ⊢
  have hl : lv_has ls 9 [(0, .ref o), (1, .int a1), (2, .int a2), (3, .int a3), (4, .int a4)] := hl
  generalize hH : s.heap = H at hP hS ⊢
  have hS : va_S A s.heap H [] := by rw [hH]; exact hS
  generalize hlc : ([] : List Loc) = locs at hS ⊢
  show W p l e rm_X7_stuff s m (([Value.ref o, Value.int a1, Value.int a2, Value.int a3, Value.int a4] : List Value).toArray) below meth c H locs 0 0 Q (F0 m 0 ls [])
  have L75 : ∀ (n75 : Nat), ∀ (x5 : Int32) (x6 : Int32) (x7 : Int32) (y_trial_jars : Int32) (y_trial_weeks : Int32) (y_trial_cells : Nat → Int32) (H : Heap) (locs : List Loc) (ls : Array Slot), x7_stuff_b75 N v_now_jars v_now_weeks f_now_cells a1 a2 a3 a4 n75 x5 x6 x7 y_trial_jars y_trial_weeks y_trial_cells = some (r0, n_trial_jars, n_trial_weeks, n_trial_cells) → lv_has ls 9 [(0, .ref o), (1, .int a1), (2, .int a2), (3, .int a3), (4, .int a4), (5, .int x5), (6, .int x6), (7, .int x7)] → va_P (dC, dI) vwCl (w_X7_stuff cI cZ cG o o_text o_now o_trial o_acts o_slots o_tastes o_ways o_fraction o_now_cells o_now_standing o_trial_cells o_trial_standing v_seedNow v_now_jars v_now_weeks f_now_cells y_trial_jars y_trial_weeks y_trial_cells) H → va_D A (w_X7_stuff cI cZ cG o o_text o_now o_trial o_acts o_slots o_tastes o_ways o_fraction o_now_cells o_now_standing o_trial_cells o_trial_standing v_seedNow v_now_jars v_now_weeks f_now_cells y_trial_jars y_trial_weeks y_trial_cells) → va_S A s.heap H locs → W p l e rm_X7_stuff s m (([Value.ref o, Value.int a1, Value.int a2, Value.int a3, Value.int a4] : List Value).toArray) below meth c H locs 0 0 Q (F0 m 75 ls []) := by
    intro n75
    induction n75 with
    | zero =>
      intro x5 x6 x7 y_trial_jars y_trial_weeks y_trial_cells H locs ls hf hl hP hD hS
      exact g_no hf
    | succ n75 ih75 =>
      intro x5 x6 x7 y_trial_jars y_trial_weeks y_trial_cells H locs ls hf hl hP hD hS
      unfold x7_stuff_b75 at hf
      refine lv_iload hx hb dX7_stuff_75 (lv_at hl 7 rfl) ?_
      refine lv_iconst (v := (4 : Int32)) hx hb dX7_stuff_77 (by decide) ?_
      refine lv_icmp_ge (tgt := 113) hx hb dX7_stuff_78 (by decide) (fun c1 => ?_) (fun c1 => ?_)
      · have hf := g_pos c1 hf
        refine lv_iload hx hb dX7_stuff_113 (lv_at hl 4 rfl) ?_
        refine lv_if_ne (tgt := 123) hx hb dX7_stuff_115 (by decide) (fun c2 => ?_) (fun c2 => ?_)
        · have hf := g_neg c2 hf
          refine lv_iload hx hb dX7_stuff_123 (lv_at hl 6 rfl) ?_
          rw [hQ]
          cases hf
          exact W.iret hx hb hr (fun t ht hW => ⟨⟨_, (), rfl, rfl, by rw [ht]; exact hP, va_K.moved hW.alike hK, hD⟩, hS.F ht⟩) hS.2.2 dX7_stuff_125
        · have hf := g_pos c2 hf
          refine lv_iload hx hb dX7_stuff_118 (lv_at hl 5 rfl) ?_
          refine lv_goto (tgt := 125) hx hb dX7_stuff_120 (by decide) ?_
          rw [hQ]
          cases hf
          exact W.iret hx hb hr (fun t ht hW => ⟨⟨_, (), rfl, rfl, by rw [ht]; exact hP, va_K.moved hW.alike hK, hD⟩, hS.F ht⟩) hS.2.2 dX7_stuff_125
      · have hf := g_neg c1 hf
        refine lv_aload_n hx hb dX7_stuff_81 rfl (lv_at hl 0 rfl) ?_
        refine lv_iload_n hx hb dX7_stuff_82 rfl (lv_at hl 1 rfl) ?_
        refine lv_iload hx hb dX7_stuff_83 (lv_at hl 7 rfl) ?_
        refine lv_iload_n hx hb dX7_stuff_85 rfl (lv_at hl 2 rfl) ?_
        refine lv_iload_n hx hb dX7_stuff_86 rfl (lv_at hl 3 rfl) ?_
        obtain ⟨r3, y4, y5, y6, hc7, hf⟩ := g_b4 hf
        refine g_wV (As := [.int a1, .int x7, .int a2, .int a3]) (rest := []) (wr := []) (wn := (w_X7_stuff cI cZ cG o o_text o_now o_trial o_acts o_slots o_tastes o_ways o_fraction o_now_cells o_now_standing o_trial_cells o_trial_standing v_seedNow v_now_jars v_now_weeks f_now_cells y4 y5 y6)) ⟨hx, hb, hml, hown, hts⟩ (c_X7_distanceIn l dC dI cI cZ cG o o_text o_now o_trial o_acts o_slots o_tastes o_ways o_fraction o_now_cells o_now_standing o_trial_cells o_trial_standing H.size  v_seedNow v_now_jars v_now_weeks f_now_cells y_trial_jars y_trial_weeks y_trial_cells a1 x7 a2 a3 hc7) (cwV 4 hts gX7_stuff_X7_distanceIn rfl rfl rfl (by decide +kernel) ⟨Nat.le_of_ble_eq_true rfl, Nat.le_of_ble_eq_true rfl⟩) hK hN hP hD hS hA [0, 1, 2, 3, 4] [] [0, 1, 2, 3, 4] rfl rfl (by decide) rfl (by decide) (by decide) rfl (by decide) (va_recv hK hP (ci := 7) (q0 := 0) rfl rfl) rfl hl.1 rfl (Nat.le_of_ble_eq_true rfl) dX7_stuff_87 ⟨Nat.zero_le _, Nat.zero_le _⟩ (fun H locs hP hD hS => ?_)
        refine lv_istore (lv' := [(8, .int r3), (0, .ref o), (1, .int a1), (2, .int a2), (3, .int a3), (4, .int a4), (5, .int x5), (6, .int x6), (7, .int x7)]) hx hb dX7_stuff_90 hl (by decide) rfl (fun ls hl => ?_)
        refine lv_iload hx hb dX7_stuff_92 (lv_at hl 0 rfl) ?_
        refine lv_iload hx hb dX7_stuff_94 (lv_at hl 7 rfl) ?_
        refine lv_icmp_ge (tgt := 107) hx hb dX7_stuff_96 (by decide) (fun c8 => ?_) (fun c8 => ?_)
        · have hf := g_pos c8 hf
          refine lv_iinc (v := (x7 + (1 : Int32))) (lv' := [(7, .int (x7 + (1 : Int32))), (8, .int r3), (0, .ref o), (1, .int a1), (2, .int a2), (3, .int a3), (4, .int a4), (5, .int x5), (6, .int x6)]) hx hb dX7_stuff_107 hl (k := 8) rfl rfl (by decide) rfl (fun ls hl => ?_)
          refine lv_goto (tgt := 75) hx hb dX7_stuff_110 (by decide) ?_
          exact ih75 x5 x6 (x7 + (1 : Int32)) y4 y5 y6 H locs ls hf (lv_sub hl [2, 3, 4, 5, 6, 7, 8, 0] rfl) hP hD hS
        · have hf := g_neg c8 hf
          refine lv_iload hx hb dX7_stuff_99 (lv_at hl 8 rfl) ?_
          refine lv_istore (lv' := [(5, .int x7), (8, .int r3), (0, .ref o), (1, .int a1), (2, .int a2), (3, .int a3), (4, .int a4), (6, .int x6), (7, .int x7)]) hx hb dX7_stuff_101 hl (by decide) rfl (fun ls hl => ?_)
          refine lv_iload hx hb dX7_stuff_103 (lv_at hl 1 rfl) ?_
          refine lv_istore (lv' := [(6, .int r3), (5, .int x7), (8, .int r3), (0, .ref o), (1, .int a1), (2, .int a2), (3, .int a3), (4, .int a4), (7, .int x7)]) hx hb dX7_stuff_105 hl (by decide) rfl (fun ls hl => ?_)
          refine lv_iinc (v := (x7 + (1 : Int32))) (lv' := [(7, .int (x7 + (1 : Int32))), (6, .int r3), (5, .int x7), (8, .int r3), (0, .ref o), (1, .int a1), (2, .int a2), (3, .int a3), (4, .int a4)]) hx hb dX7_stuff_107 hl (k := 8) rfl rfl (by decide) rfl (fun ls hl => ?_)
          refine lv_goto (tgt := 75) hx hb dX7_stuff_110 (by decide) ?_
          exact ih75 x7 r3 (x7 + (1 : Int32)) y4 y5 y6 H locs ls hf (lv_sub hl [4, 5, 6, 7, 8, 2, 1, 0] rfl) hP hD hS
  unfold x7_stuff at hf
  refine lv_aload_n hx hb dX7_stuff_0 rfl (lv_at hl 0 rfl) ?_
  refine va_get (D := (dC, dI)) (ci := 7) (v := .ref o_now) (C := RX7) (T := TX7) (N := 9) hx hb hts hiX7 hown hK hP 0 rfl rfl 1 (by decide) (hts (.fieldLink RX7 19 "GreenJars" "now" "LGreenJars$Shelf;") (by decide +kernel)) (fun _ h9 => h9) rfl dX7_stuff_1 ?_
  refine lv_iload_n hx hb dX7_stuff_4 rfl (lv_at hl 1 rfl) ?_
  obtain ⟨r9, hc10, hf⟩ := g_b1 hf
  refine g_rV (As := [.int a1]) (rest := []) ⟨hx, hb, hml, hown, hts⟩ (c_X2_has l dC dI cI cZ cG o_now o_now_cells o_now_standing  v_now_jars v_now_weeks a1 hc10) (cwV 1 hts gX7_stuff_X2_has rfl rfl rfl (by decide +kernel) ⟨Nat.le_of_ble_eq_true rfl, Nat.le_of_ble_eq_true rfl⟩) hK hN (hP.sub [1] rfl) (va_recv hK hP (ci := 2) (q0 := 1) rfl rfl) rfl hl.1 rfl (Nat.le_of_ble_eq_true rfl) dX7_stuff_5 ⟨Nat.zero_le _, Nat.zero_le _⟩ ?_
  refine lv_if_ne (tgt := 13) hx hb dX7_stuff_8 (by decide) (fun c11 => ?_) (fun c11 => ?_)
  · have hf := g_neg c11 hf
    refine lv_iload_n hx hb dX7_stuff_13 rfl (lv_at hl 2 rfl) ?_
    refine lv_iconst (v := (1 : Int32)) hx hb dX7_stuff_14 (by decide) ?_
    refine lv_icmp_lt (tgt := 42) hx hb dX7_stuff_15 (by decide) (fun c12 => ?_) (fun c12 => ?_)
    · have hf := g_pos c12 hf
      refine lv_bipush (v := (-2 : Int32)) hx hb dX7_stuff_42 (by decide +kernel) ?_
      rw [hQ]
      cases hf
      exact W.iret hx hb hr (fun t ht hW => ⟨⟨_, (), rfl, rfl, by rw [ht]; exact hP, va_K.moved hW.alike hK, hD⟩, hS.F ht⟩) hS.2.2 dX7_stuff_44
    · have hf := g_neg c12 hf
      refine lv_iload_n hx hb dX7_stuff_18 rfl (lv_at hl 2 rfl) ?_
      refine lv_bipush (v := (12 : Int32)) hx hb dX7_stuff_19 (by decide +kernel) ?_
      refine lv_icmp_gt (tgt := 42) hx hb dX7_stuff_21 (by decide) (fun c13 => ?_) (fun c13 => ?_)
      · have hf := g_pos c13 hf
        refine lv_bipush (v := (-2 : Int32)) hx hb dX7_stuff_42 (by decide +kernel) ?_
        rw [hQ]
        cases hf
        exact W.iret hx hb hr (fun t ht hW => ⟨⟨_, (), rfl, rfl, by rw [ht]; exact hP, va_K.moved hW.alike hK, hD⟩, hS.F ht⟩) hS.2.2 dX7_stuff_44
      · have hf := g_neg c13 hf
        refine lv_iload_n hx hb dX7_stuff_24 rfl (lv_at hl 3 rfl) ?_
        obtain ⟨r14, hc15, hf⟩ := g_b1 hf
        refine g_rS (As := [.int a3]) (rest := []) ⟨hx, hb, hml, hown, hts⟩ (c_X7_isFigure l dC dI cI cZ cG    a3 hc15) (va_cwS 1 hts gX7_stuff_X7_isFigure rfl rfl rfl (by decide +kernel) ⟨Nat.le_of_ble_eq_true rfl, Nat.le_of_ble_eq_true rfl⟩) hK hN (hP.sub [] rfl) rfl hl.1 rfl (Nat.le_of_ble_eq_true rfl) dX7_stuff_25 ⟨Nat.zero_le _, Nat.zero_le _⟩ ?_
        refine lv_if_eq (tgt := 42) hx hb dX7_stuff_28 (by decide) (fun c16 => ?_) (fun c16 => ?_)
        · have hf := g_pos c16 hf
          refine lv_bipush (v := (-2 : Int32)) hx hb dX7_stuff_42 (by decide +kernel) ?_
          rw [hQ]
          cases hf
          exact W.iret hx hb hr (fun t ht hW => ⟨⟨_, (), rfl, rfl, by rw [ht]; exact hP, va_K.moved hW.alike hK, hD⟩, hS.F ht⟩) hS.2.2 dX7_stuff_44
        · have hf := g_neg c16 hf
          refine lv_iload hx hb dX7_stuff_31 (lv_at hl 4 rfl) ?_
          refine lv_if_lt (tgt := 42) hx hb dX7_stuff_33 (by decide) (fun c17 => ?_) (fun c17 => ?_)
          · have hf := g_pos c17 hf
            refine lv_bipush (v := (-2 : Int32)) hx hb dX7_stuff_42 (by decide +kernel) ?_
            rw [hQ]
            cases hf
            exact W.iret hx hb hr (fun t ht hW => ⟨⟨_, (), rfl, rfl, by rw [ht]; exact hP, va_K.moved hW.alike hK, hD⟩, hS.F ht⟩) hS.2.2 dX7_stuff_44
          · have hf := g_neg c17 hf
            refine lv_iload hx hb dX7_stuff_36 (lv_at hl 4 rfl) ?_
            refine lv_iconst (v := (1 : Int32)) hx hb dX7_stuff_38 (by decide) ?_
            refine lv_icmp_le (tgt := 45) hx hb dX7_stuff_39 (by decide) (fun c18 => ?_) (fun c18 => ?_)
            · have hf := g_pos c18 hf
              refine lv_aload_n hx hb dX7_stuff_45 rfl (lv_at hl 0 rfl) ?_
              refine va_get (D := (dC, dI)) (ci := 7) (v := .ref o_now) (C := RX7) (T := TX7) (N := 9) hx hb hts hiX7 hown hK hP 0 rfl rfl 1 (by decide) (hts (.fieldLink RX7 19 "GreenJars" "now" "LGreenJars$Shelf;") (by decide +kernel)) (fun _ h9 => h9) rfl dX7_stuff_46 ?_
              refine lv_iload_n hx hb dX7_stuff_49 rfl (lv_at hl 1 rfl) ?_
              obtain ⟨r19, hc20, hf⟩ := g_b1 hf
              refine g_rV (As := [.int a1]) (rest := []) ⟨hx, hb, hml, hown, hts⟩ (c_X2_isWhole l dC dI cI cZ cG o_now o_now_cells o_now_standing  v_now_jars v_now_weeks f_now_cells a1 hc20) (cwV 1 hts gX7_stuff_X2_isWhole rfl rfl rfl (by decide +kernel) ⟨Nat.le_of_ble_eq_true rfl, Nat.le_of_ble_eq_true rfl⟩) hK hN (hP.sub [1, 2] rfl) (va_recv hK hP (ci := 2) (q0 := 1) rfl rfl) rfl hl.1 rfl (Nat.le_of_ble_eq_true rfl) dX7_stuff_50 ⟨Nat.zero_le _, Nat.zero_le _⟩ ?_
              refine lv_if_ne (tgt := 59) hx hb dX7_stuff_53 (by decide) (fun c21 => ?_) (fun c21 => ?_)
              · have hf := g_neg c21 hf
                refine lv_iconst (v := (0 : Int32)) hx hb dX7_stuff_59 (by decide) ?_
                refine lv_istore (lv' := [(5, .int (0 : Int32)), (0, .ref o), (1, .int a1), (2, .int a2), (3, .int a3), (4, .int a4)]) hx hb dX7_stuff_60 hl (by decide) rfl (fun ls hl => ?_)
                refine lv_aload_n hx hb dX7_stuff_62 rfl (lv_at hl 1 rfl) ?_
                refine lv_iload_n hx hb dX7_stuff_63 rfl (lv_at hl 2 rfl) ?_
                refine lv_iconst (v := (0 : Int32)) hx hb dX7_stuff_64 (by decide) ?_
                refine lv_iload_n hx hb dX7_stuff_65 rfl (lv_at hl 3 rfl) ?_
                refine lv_iload_n hx hb dX7_stuff_66 rfl (lv_at hl 4 rfl) ?_
                obtain ⟨r22, y23, y24, y25, hc26, hf⟩ := g_b4 hf
                refine g_wV (As := [.int a1, .int (0 : Int32), .int a2, .int a3]) (rest := []) (wr := []) (wn := (w_X7_stuff cI cZ cG o o_text o_now o_trial o_acts o_slots o_tastes o_ways o_fraction o_now_cells o_now_standing o_trial_cells o_trial_standing v_seedNow v_now_jars v_now_weeks f_now_cells y23 y24 y25)) ⟨hx, hb, hml, hown, hts⟩ (c_X7_distanceIn l dC dI cI cZ cG o o_text o_now o_trial o_acts o_slots o_tastes o_ways o_fraction o_now_cells o_now_standing o_trial_cells o_trial_standing H.size  v_seedNow v_now_jars v_now_weeks f_now_cells v_trial_jars v_trial_weeks f_trial_cells a1 (0 : Int32) a2 a3 hc26) (cwV 4 hts gX7_stuff_X7_distanceIn rfl rfl rfl (by decide +kernel) ⟨Nat.le_of_ble_eq_true rfl, Nat.le_of_ble_eq_true rfl⟩) hK hN hP hD hS hA [0, 1, 2, 3, 4] [] [0, 1, 2, 3, 4] rfl rfl (by decide) rfl (by decide) (by decide) rfl (by decide) (va_recv hK hP (ci := 7) (q0 := 0) rfl rfl) rfl hl.1 rfl (Nat.le_of_ble_eq_true rfl) dX7_stuff_67 ⟨Nat.zero_le _, Nat.zero_le _⟩ (fun H locs hP hD hS => ?_)
                refine lv_istore (lv' := [(6, .int r22), (5, .int (0 : Int32)), (0, .ref o), (1, .int a1), (2, .int a2), (3, .int a3), (4, .int a4)]) hx hb dX7_stuff_70 hl (by decide) rfl (fun ls hl => ?_)
                refine lv_iconst (v := (1 : Int32)) hx hb dX7_stuff_72 (by decide) ?_
                refine lv_istore (lv' := [(7, .int (1 : Int32)), (6, .int r22), (5, .int (0 : Int32)), (0, .ref o), (1, .int a1), (2, .int a2), (3, .int a3), (4, .int a4)]) hx hb dX7_stuff_73 hl (by decide) rfl (fun ls hl => ?_)
                exact L75 N (0 : Int32) r22 (1 : Int32) y23 y24 y25 H locs ls hf (lv_sub hl [3, 4, 5, 6, 7, 2, 1, 0] rfl) hP hD hS
              · have hf := g_pos c21 hf
                refine lv_bipush (v := (-3 : Int32)) hx hb dX7_stuff_56 (by decide +kernel) ?_
                rw [hQ]
                cases hf
                exact W.iret hx hb hr (fun t ht hW => ⟨⟨_, (), rfl, rfl, by rw [ht]; exact hP, va_K.moved hW.alike hK, hD⟩, hS.F ht⟩) hS.2.2 dX7_stuff_58
            · have hf := g_neg c18 hf
              refine lv_bipush (v := (-2 : Int32)) hx hb dX7_stuff_42 (by decide +kernel) ?_
              rw [hQ]
              cases hf
              exact W.iret hx hb hr (fun t ht hW => ⟨⟨_, (), rfl, rfl, by rw [ht]; exact hP, va_K.moved hW.alike hK, hD⟩, hS.F ht⟩) hS.2.2 dX7_stuff_44
  · have hf := g_pos c11 hf
    refine lv_iconst (v := (-1 : Int32)) hx hb dX7_stuff_11 (by decide) ?_
    rw [hQ]
    cases hf
    exact W.iret hx hb hr (fun t ht hW => ⟨⟨_, (), rfl, rfl, by rw [ht]; exact hP, va_K.moved hW.alike hK, hD⟩, hS.F ht⟩) hS.2.2 dX7_stuff_12
abbrev rm_X7_row : Room := { frames := 6, cells := 0, slots := 0, locals := 139 }
abbrev w_X7_row (cI cZ cG : ClassId) (o : Nat) (o_text : Nat) (o_now : Nat) (o_trial : Nat) (o_acts : Nat) (o_slots : Nat) (o_tastes : Nat) (o_ways : Nat) (o_fraction : Nat) (o_now_cells : Nat) (o_now_standing : Nat) (o_trial_cells : Nat) (o_trial_standing : Nat) (o_ways_movers : Nat) (o_ways_spots : Nat) (v_seedNow : Int64) (v_now_jars : Int32) (v_now_weeks : Int32) (f_now_cells : Nat → Int32) (v_trial_jars : Int32) (v_trial_weeks : Int32) (f_trial_cells : Nat → Int32) (f_trial_standing : Nat → Int32) (v_ways_count : Int32) (v_ways_most : Int32) (v_ways_figures : Int32) (f_ways_movers : Nat → Int32) (f_ways_spots : Nat → Int32) : va_W := [(o, .inr (7, [.ref o_text, .ref o_now, .ref o_trial, .ref o_acts, .ref o_slots, .ref o_tastes, .ref o_ways, .ref o_fraction, .long v_seedNow])), (o_now, .inr (2, [.ref o_now_cells, .ref o_now_standing, .int v_now_jars, .int v_now_weeks])), (o_now_cells, .inl (cI, 48, .inl f_now_cells)), (o_trial, .inr (2, [.ref o_trial_cells, .ref o_trial_standing, .int v_trial_jars, .int v_trial_weeks])), (o_trial_cells, .inl (cI, 48, .inl f_trial_cells)), (o_trial_standing, .inl (cI, 8, .inl f_trial_standing)), (o_ways, .inr (6, [.ref o_ways_movers, .ref o_ways_spots, .int v_ways_count, .int v_ways_most, .int v_ways_figures])), (o_ways_movers, .inl (cI, 6, .inl f_ways_movers)), (o_ways_spots, .inl (cI, 6, .inl f_ways_spots))]
set_option maxHeartbeats 4000000 in
set_option maxRecDepth 100000 in
theorem c_X7_row (l : Launch) (dC : Nat → ClassId) (dI : Nat → Nat → Nat) (cI cZ cG : ClassId) {N : Nat} (o : Nat) (o_text : Nat) (o_now : Nat) (o_trial : Nat) (o_acts : Nat) (o_slots : Nat) (o_tastes : Nat) (o_ways : Nat) (o_fraction : Nat) (o_now_cells : Nat) (o_now_standing : Nat) (o_trial_cells : Nat) (o_trial_standing : Nat) (o_ways_movers : Nat) (o_ways_spots : Nat) (sz : Nat) (v_seedNow : Int64) (v_now_jars : Int32) (v_now_weeks : Int32) (f_now_cells : Nat → Int32) (v_trial_jars : Int32) (v_trial_weeks : Int32) (f_trial_cells : Nat → Int32) (f_trial_standing : Nat → Int32) (v_ways_count : Int32) (v_ways_most : Int32) (v_ways_figures : Int32) (f_ways_movers : Nat → Int32) (f_ways_spots : Nat → Int32) (a1 : Int32) {r0 : Int32} {n_trial_jars : Int32} {n_trial_weeks : Int32} {n_trial_cells : Nat → Int32} {n_trial_standing : Nat → Int32} {n_ways_count : Int32} {n_ways_most : Int32} {n_ways_figures : Int32} {n_ways_movers : Nat → Int32} {n_ways_spots : Nat → Int32} (hf : x7_row N v_now_jars v_now_weeks f_now_cells v_trial_jars v_trial_weeks f_trial_cells f_trial_standing v_ways_count v_ways_most v_ways_figures f_ways_movers f_ways_spots a1 = some (r0, n_trial_jars, n_trial_weeks, n_trial_cells, n_trial_standing, n_ways_count, n_ways_most, n_ways_figures, n_ways_movers, n_ways_spots)) : Met l yX7_row wsX7_row rm_X7_row (va_Pc [.ref o, .int a1] (gW (dC, dI) vwCl (gT cI cZ cG) (w_X7_row cI cZ cG o o_text o_now o_trial o_acts o_slots o_tastes o_ways o_fraction o_now_cells o_now_standing o_trial_cells o_trial_standing o_ways_movers o_ways_spots v_seedNow v_now_jars v_now_weeks f_now_cells v_trial_jars v_trial_weeks f_trial_cells f_trial_standing v_ways_count v_ways_most v_ways_figures f_ways_movers f_ways_spots) sz)) (va_Qi (fun r _ => r = r0) (gE (dC, dI) vwCl (gT cI cZ cG) (w_X7_row cI cZ cG o o_text o_now o_trial o_acts o_slots o_tastes o_ways o_fraction o_now_cells o_now_standing o_trial_cells o_trial_standing o_ways_movers o_ways_spots v_seedNow v_now_jars v_now_weeks f_now_cells n_trial_jars n_trial_weeks n_trial_cells n_trial_standing n_ways_count n_ways_most n_ways_figures n_ways_movers n_ways_spots) (va_A (w_X7_row cI cZ cG o o_text o_now o_trial o_acts o_slots o_tastes o_ways o_fraction o_now_cells o_now_standing o_trial_cells o_trial_standing o_ways_movers o_ways_spots v_seedNow v_now_jars v_now_weeks f_now_cells v_trial_jars v_trial_weeks f_trial_cells f_trial_standing v_ways_count v_ways_most v_ways_figures f_ways_movers f_ways_spots) sz)) (va_A (w_X7_row cI cZ cG o o_text o_now o_trial o_acts o_slots o_tastes o_ways o_fraction o_now_cells o_now_standing o_trial_cells o_trial_standing o_ways_movers o_ways_spots v_seedNow v_now_jars v_now_weeks f_now_cells v_trial_jars v_trial_weeks f_trial_cells f_trial_standing v_ways_count v_ways_most v_ways_figures f_ways_movers f_ways_spots) sz)) 0 0 (va_A (w_X7_row cI cZ cG o o_text o_now o_trial o_acts o_slots o_tastes o_ways o_fraction o_now_cells o_now_standing o_trial_cells o_trial_standing o_ways_movers o_ways_spots v_seedNow v_now_jars v_now_weeks f_now_cells v_trial_jars v_trial_weeks f_trial_cells f_trial_standing v_ways_count v_ways_most v_ways_figures f_ways_movers f_ways_spots) sz) := by
  refine Met.ofW (cc := cX7_row) (maxL := 2) (ret := (some .int)) (by decide) rfl ?_
  intro p e s m args below meth c s₁ B hml hv
  obtain ⟨rfl, hv⟩ := hv
  obtain ⟨hsz, hP, hK, hN, hD0⟩ := hv
  have hx := B.exec
  have hb := B.bytes
  have hr := B.returns
  have hts := atoms_spec (ws := wsX7_row) B.pre
  have hown : s.vm.findClass RX7 = some m.cls := findClass_of_methodNamed B.named
  have hlocks := B.notSynchronized
  have hiX2 : ∀ w ∈ u_ws RX2 TX2 4, w ∈ wsX7_row := fun w h => List.mem_cons_of_mem _ (List.mem_append_left _ (List.mem_append_right _ h))
  have hiX6 : ∀ w ∈ u_ws RX6 TX6 5, w ∈ wsX7_row := fun w h => List.mem_cons_of_mem _ (List.mem_append_right _ h)
  have hiX7 : ∀ w ∈ u_ws RX7 TX7 9, w ∈ wsX7_row := fun w h => List.mem_cons_of_mem _ (List.mem_append_left _ (List.mem_append_left _ (List.mem_append_right _ h)))
  subst hsz
  have hD := hD0.self (sz := s.heap.size)
  generalize hAe : va_A (w_X7_row cI cZ cG o o_text o_now o_trial o_acts o_slots o_tastes o_ways o_fraction o_now_cells o_now_standing o_trial_cells o_trial_standing o_ways_movers o_ways_spots v_seedNow v_now_jars v_now_weeks f_now_cells v_trial_jars v_trial_weeks f_trial_cells f_trial_standing v_ways_count v_ways_most v_ways_figures f_ways_movers f_ways_spots) s.heap.size = A at hD ⊢
  have hA : ∀ q : Nat, s.heap.size ≤ q → A q := fun q h => by rw [← hAe]; exact Or.inr h
  clear hD0
  have hS : va_S A s.heap s.heap [] := va_S.rf
  have hP : va_P (dC, dI) vwCl (w_X7_row cI cZ cG o o_text o_now o_trial o_acts o_slots o_tastes o_ways o_fraction o_now_cells o_now_standing o_trial_cells o_trial_standing o_ways_movers o_ways_spots v_seedNow v_now_jars v_now_weeks f_now_cells v_trial_jars v_trial_weeks f_trial_cells f_trial_standing v_ways_count v_ways_most v_ways_figures f_ways_movers f_ways_spots) s.heap := hP
  obtain ⟨Q, hQ⟩ : ∃ Q : State → Prop, Q = MQ below (va_Qi (fun r _ => r = r0) (gE (dC, dI) vwCl (gT cI cZ cG) (w_X7_row cI cZ cG o o_text o_now o_trial o_acts o_slots o_tastes o_ways o_fraction o_now_cells o_now_standing o_trial_cells o_trial_standing o_ways_movers o_ways_spots v_seedNow v_now_jars v_now_weeks f_now_cells n_trial_jars n_trial_weeks n_trial_cells n_trial_standing n_ways_count n_ways_most n_ways_figures n_ways_movers n_ways_spots) A) A) (([Value.ref o, Value.int a1] : List Value).toArray) s 0 0 A := ⟨_, rfl⟩
  have hl := lv_entry ([.ref o, .int a1]) (n := 2) (Nat.le_of_ble_eq_true rfl)
  rw [← hQ, lg_entry_eq]
  generalize (lg_sl ([.ref o, .int a1]) ++ List.replicate (2 - (lg_sl ([.ref o, .int a1])).length) Slot.unset).toArray = ls at hl ⊢
  have hl : lv_has ls 2 [(0, .ref o), (1, .int a1)] := hl
  generalize hH : s.heap = H at hP hS ⊢
  have hS : va_S A s.heap H [] := by rw [hH]; exact hS
  generalize hlc : ([] : List Loc) = locs at hS ⊢
  show W p l e rm_X7_row s m (([Value.ref o, Value.int a1] : List Value).toArray) below meth c H locs 0 0 Q (F0 m 0 ls [])
  unfold x7_row at hf
  refine lv_aload_n hx hb dX7_row_0 rfl (lv_at hl 0 rfl) ?_
  refine va_get (D := (dC, dI)) (ci := 7) (v := .ref o_trial) (C := RX7) (T := TX7) (N := 9) hx hb hts hiX7 hown hK hP 0 rfl rfl 2 (by decide) (hts (.fieldLink RX7 23 "GreenJars" "trial" "LGreenJars$Shelf;") (by decide +kernel)) (fun _ h9 => h9) rfl dX7_row_1 ?_
  refine lv_aload_n hx hb dX7_row_4 rfl (lv_at hl 0 rfl) ?_
  refine va_get (D := (dC, dI)) (ci := 7) (v := .ref o_now) (C := RX7) (T := TX7) (N := 9) hx hb hts hiX7 hown hK hP 0 rfl rfl 1 (by decide) (hts (.fieldLink RX7 19 "GreenJars" "now" "LGreenJars$Shelf;") (by decide +kernel)) (fun _ h9 => h9) rfl dX7_row_5 ?_
  obtain ⟨y1, y2, y3, hc4, hf⟩ := g_b3 hf
  refine g_wVv (As := [.ref o_now]) (rest := []) (wr := [(o, .inr (7, [.ref o_text, .ref o_now, .ref o_trial, .ref o_acts, .ref o_slots, .ref o_tastes, .ref o_ways, .ref o_fraction, .long v_seedNow])), (o_trial_standing, .inl (cI, 8, .inl f_trial_standing)), (o_ways, .inr (6, [.ref o_ways_movers, .ref o_ways_spots, .int v_ways_count, .int v_ways_most, .int v_ways_figures])), (o_ways_movers, .inl (cI, 6, .inl f_ways_movers)), (o_ways_spots, .inl (cI, 6, .inl f_ways_spots))]) (wn := (w_X7_row cI cZ cG o o_text o_now o_trial o_acts o_slots o_tastes o_ways o_fraction o_now_cells o_now_standing o_trial_cells o_trial_standing o_ways_movers o_ways_spots v_seedNow v_now_jars v_now_weeks f_now_cells y1 y2 y3 f_trial_standing v_ways_count v_ways_most v_ways_figures f_ways_movers f_ways_spots)) ⟨hx, hb, hml, hown, hts⟩ (c_X2_copy l dC dI cI cZ cG o_trial o_trial_cells o_trial_standing o_now o_now_cells o_now_standing H.size  v_trial_jars v_trial_weeks f_trial_cells v_now_jars v_now_weeks f_now_cells hc4) (cwV 1 hts gX7_row_X2_copy rfl rfl rfl (by decide +kernel) ⟨Nat.le_of_ble_eq_true rfl, Nat.le_of_ble_eq_true rfl⟩) hK hN hP hD hS hA [3, 4, 1, 2] [0, 5, 6, 7, 8] [0, 7, 8, 5, 6, 1, 2, 3, 4] rfl rfl (by decide) rfl (by decide) (by decide) rfl (by decide) (va_recv hK hP (ci := 2) (q0 := 3) rfl rfl) rfl hl.1 rfl (Nat.le_of_ble_eq_true rfl) dX7_row_8 ⟨Nat.zero_le _, Nat.zero_le _⟩ (fun H locs hP hD hS => ?_)
  refine lv_aload_n hx hb dX7_row_11 rfl (lv_at hl 0 rfl) ?_
  refine va_get (D := (dC, dI)) (ci := 7) (v := .ref o_ways) (C := RX7) (T := TX7) (N := 9) hx hb hts hiX7 hown hK hP 0 rfl rfl 6 (by decide) (hts (.fieldLink RX7 50 "GreenJars" "ways" "LGreenJars$Ways;") (by decide +kernel)) (fun _ h9 => h9) rfl dX7_row_12 ?_
  refine lv_aload_n hx hb dX7_row_15 rfl (lv_at hl 0 rfl) ?_
  refine va_get (D := (dC, dI)) (ci := 7) (v := .ref o_trial) (C := RX7) (T := TX7) (N := 9) hx hb hts hiX7 hown hK hP 0 rfl rfl 2 (by decide) (hts (.fieldLink RX7 23 "GreenJars" "trial" "LGreenJars$Shelf;") (by decide +kernel)) (fun _ h9 => h9) rfl dX7_row_16 ?_
  obtain ⟨y5, y6, y7, y8, y9, y10, y11, hc12, hf⟩ := g_b7 hf
  refine g_wVv (As := [.ref o_trial]) (rest := []) (wr := [(o, .inr (7, [.ref o_text, .ref o_now, .ref o_trial, .ref o_acts, .ref o_slots, .ref o_tastes, .ref o_ways, .ref o_fraction, .long v_seedNow])), (o_now, .inr (2, [.ref o_now_cells, .ref o_now_standing, .int v_now_jars, .int v_now_weeks])), (o_now_cells, .inl (cI, 48, .inl f_now_cells))]) (wn := (w_X7_row cI cZ cG o o_text o_now o_trial o_acts o_slots o_tastes o_ways o_fraction o_now_cells o_now_standing o_trial_cells o_trial_standing o_ways_movers o_ways_spots v_seedNow v_now_jars v_now_weeks f_now_cells y1 y2 y10 y11 y5 y6 y7 y8 y9)) ⟨hx, hb, hml, hown, hts⟩ (c_X6_search l dC dI cI cZ cG o_ways o_ways_movers o_ways_spots o_trial o_trial_cells o_trial_standing H.size  v_ways_count v_ways_most v_ways_figures f_ways_movers f_ways_spots y1 y2 y3 f_trial_standing hc12) (cwV 1 hts gX7_row_X6_search rfl rfl rfl (by decide +kernel) ⟨Nat.le_of_ble_eq_true rfl, Nat.le_of_ble_eq_true rfl⟩) hK hN hP hD hS hA [6, 7, 8, 3, 4, 5] [0, 1, 2] [0, 1, 2, 6, 7, 8, 3, 4, 5] rfl rfl (by decide) rfl (by decide) (by decide) rfl (by decide) (va_recv hK hP (ci := 6) (q0 := 6) rfl rfl) rfl hl.1 rfl (Nat.le_of_ble_eq_true rfl) dX7_row_19 ⟨Nat.zero_le _, Nat.zero_le _⟩ (fun H locs hP hD hS => ?_)
  refine lv_iload_n hx hb dX7_row_22 rfl (lv_at hl 1 rfl) ?_
  refine lv_if_eq (tgt := 36) hx hb dX7_row_23 (by decide) (fun c13 => ?_) (fun c13 => ?_)
  · have hf := g_pos c13 hf
    refine lv_aload_n hx hb dX7_row_36 rfl (lv_at hl 0 rfl) ?_
    refine va_get (D := (dC, dI)) (ci := 7) (v := .ref o_ways) (C := RX7) (T := TX7) (N := 9) hx hb hts hiX7 hown hK hP 0 rfl rfl 6 (by decide) (hts (.fieldLink RX7 50 "GreenJars" "ways" "LGreenJars$Ways;") (by decide +kernel)) (fun _ h9 => h9) rfl dX7_row_37 ?_
    obtain ⟨r14, hc15, hf⟩ := g_b1 hf
    refine g_rV (As := []) (rest := []) ⟨hx, hb, hml, hown, hts⟩ (c_X6_most l dC dI cI cZ cG o_ways o_ways_movers o_ways_spots  y5 y6 y7 hc15) (cwV 0 hts gX7_row_X6_most rfl rfl rfl (by decide +kernel) ⟨Nat.le_of_ble_eq_true rfl, Nat.le_of_ble_eq_true rfl⟩) hK hN (hP.sub [6] rfl) (va_recv hK hP (ci := 6) (q0 := 6) rfl rfl) rfl hl.1 rfl (Nat.le_of_ble_eq_true rfl) dX7_row_40 ⟨Nat.zero_le _, Nat.zero_le _⟩ ?_
    rw [hQ]
    cases hf
    exact W.iret hx hb hr (fun t ht hW => ⟨⟨_, (), rfl, rfl, by rw [ht]; exact hP, va_K.moved hW.alike hK, hD⟩, hS.F ht⟩) hS.2.2 dX7_row_43
  · have hf := g_neg c13 hf
    refine lv_aload_n hx hb dX7_row_26 rfl (lv_at hl 0 rfl) ?_
    refine va_get (D := (dC, dI)) (ci := 7) (v := .ref o_ways) (C := RX7) (T := TX7) (N := 9) hx hb hts hiX7 hown hK hP 0 rfl rfl 6 (by decide) (hts (.fieldLink RX7 50 "GreenJars" "ways" "LGreenJars$Ways;") (by decide +kernel)) (fun _ h9 => h9) rfl dX7_row_27 ?_
    obtain ⟨r16, hc17, hf⟩ := g_b1 hf
    refine g_rV (As := []) (rest := []) ⟨hx, hb, hml, hown, hts⟩ (c_X6_figures l dC dI cI cZ cG o_ways o_ways_movers o_ways_spots  y5 y6 y7 hc17) (cwV 0 hts gX7_row_X6_figures rfl rfl rfl (by decide +kernel) ⟨Nat.le_of_ble_eq_true rfl, Nat.le_of_ble_eq_true rfl⟩) hK hN (hP.sub [6] rfl) (va_recv hK hP (ci := 6) (q0 := 6) rfl rfl) rfl hl.1 rfl (Nat.le_of_ble_eq_true rfl) dX7_row_30 ⟨Nat.zero_le _, Nat.zero_le _⟩ ?_
    refine lv_goto (tgt := 43) hx hb dX7_row_33 (by decide) ?_
    rw [hQ]
    cases hf
    exact W.iret hx hb hr (fun t ht hW => ⟨⟨_, (), rfl, rfl, by rw [ht]; exact hP, va_K.moved hW.alike hK, hD⟩, hS.F ht⟩) hS.2.2 dX7_row_43
abbrev rm_X7_trialDoes : Room := { frames := 5, cells := 0, slots := 0, locals := 109 }
abbrev w_X7_trialDoes (cI cZ cG : ClassId) (o : Nat) (o_text : Nat) (o_now : Nat) (o_trial : Nat) (o_acts : Nat) (o_slots : Nat) (o_tastes : Nat) (o_ways : Nat) (o_fraction : Nat) (o_trial_cells : Nat) (o_trial_standing : Nat) (v_seedNow : Int64) (v_trial_jars : Int32) (v_trial_weeks : Int32) (f_trial_cells : Nat → Int32) : va_W := [(o, .inr (7, [.ref o_text, .ref o_now, .ref o_trial, .ref o_acts, .ref o_slots, .ref o_tastes, .ref o_ways, .ref o_fraction, .long v_seedNow])), (o_trial, .inr (2, [.ref o_trial_cells, .ref o_trial_standing, .int v_trial_jars, .int v_trial_weeks])), (o_trial_cells, .inl (cI, 48, .inl f_trial_cells))]
set_option maxHeartbeats 4000000 in
set_option maxRecDepth 100000 in
theorem c_X7_trialDoes (l : Launch) (dC : Nat → ClassId) (dI : Nat → Nat → Nat) (cI cZ cG : ClassId) {N : Nat} (o : Nat) (o_text : Nat) (o_now : Nat) (o_trial : Nat) (o_acts : Nat) (o_slots : Nat) (o_tastes : Nat) (o_ways : Nat) (o_fraction : Nat) (o_trial_cells : Nat) (o_trial_standing : Nat) (sz : Nat) (v_seedNow : Int64) (v_trial_jars : Int32) (v_trial_weeks : Int32) (f_trial_cells : Nat → Int32) (a1 : Int32) (a2 : Int32) (a3 : Int32) {r0 : Int32} {n_trial_weeks : Int32} {n_trial_cells : Nat → Int32} (hf : x7_trialDoes N v_trial_jars v_trial_weeks f_trial_cells a1 a2 a3 = some (r0, n_trial_weeks, n_trial_cells)) : Met l yX7_trialDoes wsX7_trialDoes rm_X7_trialDoes (va_Pc [.ref o, .int a1, .int a2, .int a3] (gW (dC, dI) vwCl (gT cI cZ cG) (w_X7_trialDoes cI cZ cG o o_text o_now o_trial o_acts o_slots o_tastes o_ways o_fraction o_trial_cells o_trial_standing v_seedNow v_trial_jars v_trial_weeks f_trial_cells) sz)) (va_Qi (fun r _ => r = r0) (gE (dC, dI) vwCl (gT cI cZ cG) (w_X7_trialDoes cI cZ cG o o_text o_now o_trial o_acts o_slots o_tastes o_ways o_fraction o_trial_cells o_trial_standing v_seedNow v_trial_jars n_trial_weeks n_trial_cells) (va_A (w_X7_trialDoes cI cZ cG o o_text o_now o_trial o_acts o_slots o_tastes o_ways o_fraction o_trial_cells o_trial_standing v_seedNow v_trial_jars v_trial_weeks f_trial_cells) sz)) (va_A (w_X7_trialDoes cI cZ cG o o_text o_now o_trial o_acts o_slots o_tastes o_ways o_fraction o_trial_cells o_trial_standing v_seedNow v_trial_jars v_trial_weeks f_trial_cells) sz)) 0 0 (va_A (w_X7_trialDoes cI cZ cG o o_text o_now o_trial o_acts o_slots o_tastes o_ways o_fraction o_trial_cells o_trial_standing v_seedNow v_trial_jars v_trial_weeks f_trial_cells) sz) := by
  refine Met.ofW (cc := cX7_trialDoes) (maxL := 4) (ret := (some .boolean)) (by decide) rfl ?_
  intro p e s m args below meth c s₁ B hml hv
  obtain ⟨rfl, hv⟩ := hv
  obtain ⟨hsz, hP, hK, hN, hD0⟩ := hv
  have hx := B.exec
  have hb := B.bytes
  have hr := B.returns
  have hts := atoms_spec (ws := wsX7_trialDoes) B.pre
  have hown : s.vm.findClass RX7 = some m.cls := findClass_of_methodNamed B.named
  have hlocks := B.notSynchronized
  have hiX2 : ∀ w ∈ u_ws RX2 TX2 4, w ∈ wsX7_trialDoes := fun w h => List.mem_cons_of_mem _ (List.mem_append_right _ h)
  have hiX7 : ∀ w ∈ u_ws RX7 TX7 9, w ∈ wsX7_trialDoes := fun w h => List.mem_cons_of_mem _ (List.mem_append_left _ (List.mem_append_right _ h))
  subst hsz
  have hD := hD0.self (sz := s.heap.size)
  generalize hAe : va_A (w_X7_trialDoes cI cZ cG o o_text o_now o_trial o_acts o_slots o_tastes o_ways o_fraction o_trial_cells o_trial_standing v_seedNow v_trial_jars v_trial_weeks f_trial_cells) s.heap.size = A at hD ⊢
  have hA : ∀ q : Nat, s.heap.size ≤ q → A q := fun q h => by rw [← hAe]; exact Or.inr h
  clear hD0
  have hS : va_S A s.heap s.heap [] := va_S.rf
  have hP : va_P (dC, dI) vwCl (w_X7_trialDoes cI cZ cG o o_text o_now o_trial o_acts o_slots o_tastes o_ways o_fraction o_trial_cells o_trial_standing v_seedNow v_trial_jars v_trial_weeks f_trial_cells) s.heap := hP
  obtain ⟨Q, hQ⟩ : ∃ Q : State → Prop, Q = MQ below (va_Qi (fun r _ => r = r0) (gE (dC, dI) vwCl (gT cI cZ cG) (w_X7_trialDoes cI cZ cG o o_text o_now o_trial o_acts o_slots o_tastes o_ways o_fraction o_trial_cells o_trial_standing v_seedNow v_trial_jars n_trial_weeks n_trial_cells) A) A) (([Value.ref o, Value.int a1, Value.int a2, Value.int a3] : List Value).toArray) s 0 0 A := ⟨_, rfl⟩
  have hl := lv_entry ([.ref o, .int a1, .int a2, .int a3]) (n := 4) (Nat.le_of_ble_eq_true rfl)
  rw [← hQ, lg_entry_eq]
  generalize (lg_sl ([.ref o, .int a1, .int a2, .int a3]) ++ List.replicate (4 - (lg_sl ([.ref o, .int a1, .int a2, .int a3])).length) Slot.unset).toArray = ls at hl ⊢
  have hl : lv_has ls 4 [(0, .ref o), (1, .int a1), (2, .int a2), (3, .int a3)] := hl
  generalize hH : s.heap = H at hP hS ⊢
  have hS : va_S A s.heap H [] := by rw [hH]; exact hS
  generalize hlc : ([] : List Loc) = locs at hS ⊢
  show W p l e rm_X7_trialDoes s m (([Value.ref o, Value.int a1, Value.int a2, Value.int a3] : List Value).toArray) below meth c H locs 0 0 Q (F0 m 0 ls [])
  unfold x7_trialDoes at hf
  refine lv_iload_n hx hb dX7_trialDoes_0 rfl (lv_at hl 1 rfl) ?_
  by_cases c1 : a1 = (0 : Int32)
  · have hf := g_pos c1 hf
    refine lv_tableIn (tgt := 44) hx hb dX7_trialDoes_1 (by rw [c1]; decide) (by rw [c1]; decide) (by rw [c1]; rfl) (by decide) ?_
    refine lv_iload_n hx hb dX7_trialDoes_44 rfl (lv_at hl 2 rfl) ?_
    refine lv_if_ne (tgt := 66) hx hb dX7_trialDoes_45 (by decide) (fun c2 => ?_) (fun c2 => ?_)
    · have hf := g_neg c2 hf
      refine lv_iconst (v := (0 : Int32)) hx hb dX7_trialDoes_66 (by decide) ?_
      rw [hQ]
      cases hf
      exact W.zret hx hb hr (by decide +kernel) (fun t ht hW => ⟨⟨_, (), rfl, rfl, by rw [ht]; exact hP, va_K.moved hW.alike hK, hD⟩, hS.F ht⟩) hS.2.2 dX7_trialDoes_67
    · have hf := g_pos c2 hf
      refine lv_iload_n hx hb dX7_trialDoes_48 rfl (lv_at hl 3 rfl) ?_
      refine lv_if_ne (tgt := 66) hx hb dX7_trialDoes_49 (by decide) (fun c3 => ?_) (fun c3 => ?_)
      · have hf := g_neg c3 hf
        refine lv_iconst (v := (0 : Int32)) hx hb dX7_trialDoes_66 (by decide) ?_
        rw [hQ]
        cases hf
        exact W.zret hx hb hr (by decide +kernel) (fun t ht hW => ⟨⟨_, (), rfl, rfl, by rw [ht]; exact hP, va_K.moved hW.alike hK, hD⟩, hS.F ht⟩) hS.2.2 dX7_trialDoes_67
      · have hf := g_pos c3 hf
        refine lv_aload_n hx hb dX7_trialDoes_52 rfl (lv_at hl 0 rfl) ?_
        refine va_get (D := (dC, dI)) (ci := 7) (v := .ref o_trial) (C := RX7) (T := TX7) (N := 9) hx hb hts hiX7 hown hK hP 0 rfl rfl 2 (by decide) (hts (.fieldLink RX7 23 "GreenJars" "trial" "LGreenJars$Shelf;") (by decide +kernel)) (fun _ h9 => h9) rfl dX7_trialDoes_53 ?_
        obtain ⟨r4, y5, y6, hc7, hf⟩ := g_b3 hf
        refine g_wV (As := []) (rest := []) (wr := [(o, .inr (7, [.ref o_text, .ref o_now, .ref o_trial, .ref o_acts, .ref o_slots, .ref o_tastes, .ref o_ways, .ref o_fraction, .long v_seedNow]))]) (wn := (w_X7_trialDoes cI cZ cG o o_text o_now o_trial o_acts o_slots o_tastes o_ways o_fraction o_trial_cells o_trial_standing v_seedNow v_trial_jars y5 y6)) ⟨hx, hb, hml, hown, hts⟩ (c_X2_tryWeek l dC dI cI cZ cG o_trial o_trial_cells o_trial_standing H.size  v_trial_jars v_trial_weeks f_trial_cells hc7) (cwV 0 hts gX7_trialDoes_X2_tryWeek rfl rfl rfl (by decide +kernel) ⟨Nat.le_of_ble_eq_true rfl, Nat.le_of_ble_eq_true rfl⟩) hK hN hP hD hS hA [1, 2] [0] [0, 1, 2] rfl rfl (by decide) rfl (by decide) (by decide) rfl (by decide) (va_recv hK hP (ci := 2) (q0 := 1) rfl rfl) rfl hl.1 rfl (Nat.le_of_ble_eq_true rfl) dX7_trialDoes_56 ⟨Nat.zero_le _, Nat.zero_le _⟩ (fun H locs hP hD hS => ?_)
        refine lv_if_eq (tgt := 66) hx hb dX7_trialDoes_59 (by decide) (fun c8 => ?_) (fun c8 => ?_)
        · have hf := g_pos c8 hf
          refine lv_iconst (v := (0 : Int32)) hx hb dX7_trialDoes_66 (by decide) ?_
          rw [hQ]
          cases hf
          exact W.zret hx hb hr (by decide +kernel) (fun t ht hW => ⟨⟨_, (), rfl, rfl, by rw [ht]; exact hP, va_K.moved hW.alike hK, hD⟩, hS.F ht⟩) hS.2.2 dX7_trialDoes_67
        · have hf := g_neg c8 hf
          refine lv_iconst (v := (1 : Int32)) hx hb dX7_trialDoes_62 (by decide) ?_
          refine lv_goto (tgt := 67) hx hb dX7_trialDoes_63 (by decide) ?_
          rw [hQ]
          cases hf
          exact W.zret hx hb hr (by decide +kernel) (fun t ht hW => ⟨⟨_, (), rfl, rfl, by rw [ht]; exact hP, va_K.moved hW.alike hK, hD⟩, hS.F ht⟩) hS.2.2 dX7_trialDoes_67
  have hf := g_neg c1 hf
  by_cases c9 : a1 = (1 : Int32)
  · have hf := g_pos c9 hf
    refine lv_tableIn (tgt := 68) hx hb dX7_trialDoes_1 (by rw [c9]; decide) (by rw [c9]; decide) (by rw [c9]; rfl) (by decide) ?_
    refine lv_iload_n hx hb dX7_trialDoes_68 rfl (lv_at hl 2 rfl) ?_
    refine lv_if_ne (tgt := 90) hx hb dX7_trialDoes_69 (by decide) (fun c10 => ?_) (fun c10 => ?_)
    · have hf := g_neg c10 hf
      refine lv_iconst (v := (0 : Int32)) hx hb dX7_trialDoes_90 (by decide) ?_
      rw [hQ]
      cases hf
      exact W.zret hx hb hr (by decide +kernel) (fun t ht hW => ⟨⟨_, (), rfl, rfl, by rw [ht]; exact hP, va_K.moved hW.alike hK, hD⟩, hS.F ht⟩) hS.2.2 dX7_trialDoes_91
    · have hf := g_pos c10 hf
      refine lv_iload_n hx hb dX7_trialDoes_72 rfl (lv_at hl 3 rfl) ?_
      refine lv_if_ne (tgt := 90) hx hb dX7_trialDoes_73 (by decide) (fun c11 => ?_) (fun c11 => ?_)
      · have hf := g_neg c11 hf
        refine lv_iconst (v := (0 : Int32)) hx hb dX7_trialDoes_90 (by decide) ?_
        rw [hQ]
        cases hf
        exact W.zret hx hb hr (by decide +kernel) (fun t ht hW => ⟨⟨_, (), rfl, rfl, by rw [ht]; exact hP, va_K.moved hW.alike hK, hD⟩, hS.F ht⟩) hS.2.2 dX7_trialDoes_91
      · have hf := g_pos c11 hf
        refine lv_aload_n hx hb dX7_trialDoes_76 rfl (lv_at hl 0 rfl) ?_
        refine va_get (D := (dC, dI)) (ci := 7) (v := .ref o_trial) (C := RX7) (T := TX7) (N := 9) hx hb hts hiX7 hown hK hP 0 rfl rfl 2 (by decide) (hts (.fieldLink RX7 23 "GreenJars" "trial" "LGreenJars$Shelf;") (by decide +kernel)) (fun _ h9 => h9) rfl dX7_trialDoes_77 ?_
        obtain ⟨r12, y13, hc14, hf⟩ := g_b2 hf
        refine g_wV (As := []) (rest := []) (wr := [(o, .inr (7, [.ref o_text, .ref o_now, .ref o_trial, .ref o_acts, .ref o_slots, .ref o_tastes, .ref o_ways, .ref o_fraction, .long v_seedNow]))]) (wn := (w_X7_trialDoes cI cZ cG o o_text o_now o_trial o_acts o_slots o_tastes o_ways o_fraction o_trial_cells o_trial_standing v_seedNow v_trial_jars v_trial_weeks y13)) ⟨hx, hb, hml, hown, hts⟩ (c_X2_tryShake l dC dI cI cZ cG o_trial o_trial_cells o_trial_standing H.size  v_trial_jars v_trial_weeks f_trial_cells hc14) (cwV 0 hts gX7_trialDoes_X2_tryShake rfl rfl rfl (by decide +kernel) ⟨Nat.le_of_ble_eq_true rfl, Nat.le_of_ble_eq_true rfl⟩) hK hN hP hD hS hA [1, 2] [0] [0, 1, 2] rfl rfl (by decide) rfl (by decide) (by decide) rfl (by decide) (va_recv hK hP (ci := 2) (q0 := 1) rfl rfl) rfl hl.1 rfl (Nat.le_of_ble_eq_true rfl) dX7_trialDoes_80 ⟨Nat.zero_le _, Nat.zero_le _⟩ (fun H locs hP hD hS => ?_)
        refine lv_if_eq (tgt := 90) hx hb dX7_trialDoes_83 (by decide) (fun c15 => ?_) (fun c15 => ?_)
        · have hf := g_pos c15 hf
          refine lv_iconst (v := (0 : Int32)) hx hb dX7_trialDoes_90 (by decide) ?_
          rw [hQ]
          cases hf
          exact W.zret hx hb hr (by decide +kernel) (fun t ht hW => ⟨⟨_, (), rfl, rfl, by rw [ht]; exact hP, va_K.moved hW.alike hK, hD⟩, hS.F ht⟩) hS.2.2 dX7_trialDoes_91
        · have hf := g_neg c15 hf
          refine lv_iconst (v := (1 : Int32)) hx hb dX7_trialDoes_86 (by decide) ?_
          refine lv_goto (tgt := 91) hx hb dX7_trialDoes_87 (by decide) ?_
          rw [hQ]
          cases hf
          exact W.zret hx hb hr (by decide +kernel) (fun t ht hW => ⟨⟨_, (), rfl, rfl, by rw [ht]; exact hP, va_K.moved hW.alike hK, hD⟩, hS.F ht⟩) hS.2.2 dX7_trialDoes_91
  have hf := g_neg c9 hf
  by_cases c16 : a1 = (2 : Int32)
  · have hf := g_pos c16 hf
    refine lv_tableIn (tgt := 92) hx hb dX7_trialDoes_1 (by rw [c16]; decide) (by rw [c16]; decide) (by rw [c16]; rfl) (by decide) ?_
    refine lv_aload_n hx hb dX7_trialDoes_92 rfl (lv_at hl 0 rfl) ?_
    refine va_get (D := (dC, dI)) (ci := 7) (v := .ref o_trial) (C := RX7) (T := TX7) (N := 9) hx hb hts hiX7 hown hK hP 0 rfl rfl 2 (by decide) (hts (.fieldLink RX7 23 "GreenJars" "trial" "LGreenJars$Shelf;") (by decide +kernel)) (fun _ h9 => h9) rfl dX7_trialDoes_93 ?_
    refine lv_iload_n hx hb dX7_trialDoes_96 rfl (lv_at hl 2 rfl) ?_
    refine lv_iload_n hx hb dX7_trialDoes_97 rfl (lv_at hl 3 rfl) ?_
    obtain ⟨r17, y18, hc19, hf⟩ := g_b2 hf
    refine g_wV (As := [.int a2, .int a3]) (rest := []) (wr := [(o, .inr (7, [.ref o_text, .ref o_now, .ref o_trial, .ref o_acts, .ref o_slots, .ref o_tastes, .ref o_ways, .ref o_fraction, .long v_seedNow]))]) (wn := (w_X7_trialDoes cI cZ cG o o_text o_now o_trial o_acts o_slots o_tastes o_ways o_fraction o_trial_cells o_trial_standing v_seedNow v_trial_jars v_trial_weeks y18)) ⟨hx, hb, hml, hown, hts⟩ (c_X2_tryStand l dC dI cI cZ cG o_trial o_trial_cells o_trial_standing H.size  v_trial_jars v_trial_weeks f_trial_cells a2 a3 hc19) (cwV 2 hts gX7_trialDoes_X2_tryStand rfl rfl rfl (by decide +kernel) ⟨Nat.le_of_ble_eq_true rfl, Nat.le_of_ble_eq_true rfl⟩) hK hN hP hD hS hA [1, 2] [0] [0, 1, 2] rfl rfl (by decide) rfl (by decide) (by decide) rfl (by decide) (va_recv hK hP (ci := 2) (q0 := 1) rfl rfl) rfl hl.1 rfl (Nat.le_of_ble_eq_true rfl) dX7_trialDoes_98 ⟨Nat.zero_le _, Nat.zero_le _⟩ (fun H locs hP hD hS => ?_)
    obtain ⟨h20, hf⟩ := g_chk hf
    rw [hQ]
    cases hf
    exact W.zret hx hb hr (gBl_or h20) (fun t ht hW => ⟨⟨_, (), rfl, rfl, by rw [ht]; exact hP, va_K.moved hW.alike hK, hD⟩, hS.F ht⟩) hS.2.2 dX7_trialDoes_101
  have hf := g_neg c16 hf
  by_cases c21 : a1 = (3 : Int32)
  · have hf := g_pos c21 hf
    refine lv_tableIn (tgt := 102) hx hb dX7_trialDoes_1 (by rw [c21]; decide) (by rw [c21]; decide) (by rw [c21]; rfl) (by decide) ?_
    refine lv_aload_n hx hb dX7_trialDoes_102 rfl (lv_at hl 0 rfl) ?_
    refine va_get (D := (dC, dI)) (ci := 7) (v := .ref o_trial) (C := RX7) (T := TX7) (N := 9) hx hb hts hiX7 hown hK hP 0 rfl rfl 2 (by decide) (hts (.fieldLink RX7 23 "GreenJars" "trial" "LGreenJars$Shelf;") (by decide +kernel)) (fun _ h9 => h9) rfl dX7_trialDoes_103 ?_
    refine lv_iload_n hx hb dX7_trialDoes_106 rfl (lv_at hl 2 rfl) ?_
    refine lv_iload_n hx hb dX7_trialDoes_107 rfl (lv_at hl 3 rfl) ?_
    obtain ⟨r22, y23, hc24, hf⟩ := g_b2 hf
    refine g_wV (As := [.int a2, .int a3]) (rest := []) (wr := [(o, .inr (7, [.ref o_text, .ref o_now, .ref o_trial, .ref o_acts, .ref o_slots, .ref o_tastes, .ref o_ways, .ref o_fraction, .long v_seedNow]))]) (wn := (w_X7_trialDoes cI cZ cG o o_text o_now o_trial o_acts o_slots o_tastes o_ways o_fraction o_trial_cells o_trial_standing v_seedNow v_trial_jars v_trial_weeks y23)) ⟨hx, hb, hml, hown, hts⟩ (c_X2_tryFill l dC dI cI cZ cG o_trial o_trial_cells o_trial_standing H.size  v_trial_jars v_trial_weeks f_trial_cells a2 a3 hc24) (cwV 2 hts gX7_trialDoes_X2_tryFill rfl rfl rfl (by decide +kernel) ⟨Nat.le_of_ble_eq_true rfl, Nat.le_of_ble_eq_true rfl⟩) hK hN hP hD hS hA [1, 2] [0] [0, 1, 2] rfl rfl (by decide) rfl (by decide) (by decide) rfl (by decide) (va_recv hK hP (ci := 2) (q0 := 1) rfl rfl) rfl hl.1 rfl (Nat.le_of_ble_eq_true rfl) dX7_trialDoes_108 ⟨Nat.zero_le _, Nat.zero_le _⟩ (fun H locs hP hD hS => ?_)
    obtain ⟨h25, hf⟩ := g_chk hf
    rw [hQ]
    cases hf
    exact W.zret hx hb hr (gBl_or h25) (fun t ht hW => ⟨⟨_, (), rfl, rfl, by rw [ht]; exact hP, va_K.moved hW.alike hK, hD⟩, hS.F ht⟩) hS.2.2 dX7_trialDoes_111
  have hf := g_neg c21 hf
  by_cases c26 : a1 = (4 : Int32)
  · have hf := g_pos c26 hf
    refine lv_tableIn (tgt := 112) hx hb dX7_trialDoes_1 (by rw [c26]; decide) (by rw [c26]; decide) (by rw [c26]; rfl) (by decide) ?_
    refine lv_iload_n hx hb dX7_trialDoes_112 rfl (lv_at hl 2 rfl) ?_
    refine lv_if_ne (tgt := 131) hx hb dX7_trialDoes_113 (by decide) (fun c27 => ?_) (fun c27 => ?_)
    · have hf := g_neg c27 hf
      refine lv_iconst (v := (0 : Int32)) hx hb dX7_trialDoes_131 (by decide) ?_
      rw [hQ]
      cases hf
      exact W.zret hx hb hr (by decide +kernel) (fun t ht hW => ⟨⟨_, (), rfl, rfl, by rw [ht]; exact hP, va_K.moved hW.alike hK, hD⟩, hS.F ht⟩) hS.2.2 dX7_trialDoes_132
    · have hf := g_pos c27 hf
      refine lv_aload_n hx hb dX7_trialDoes_116 rfl (lv_at hl 0 rfl) ?_
      refine va_get (D := (dC, dI)) (ci := 7) (v := .ref o_trial) (C := RX7) (T := TX7) (N := 9) hx hb hts hiX7 hown hK hP 0 rfl rfl 2 (by decide) (hts (.fieldLink RX7 23 "GreenJars" "trial" "LGreenJars$Shelf;") (by decide +kernel)) (fun _ h9 => h9) rfl dX7_trialDoes_117 ?_
      refine lv_iload_n hx hb dX7_trialDoes_120 rfl (lv_at hl 3 rfl) ?_
      obtain ⟨r28, y29, hc30, hf⟩ := g_b2 hf
      refine g_wV (As := [.int a3]) (rest := []) (wr := [(o, .inr (7, [.ref o_text, .ref o_now, .ref o_trial, .ref o_acts, .ref o_slots, .ref o_tastes, .ref o_ways, .ref o_fraction, .long v_seedNow]))]) (wn := (w_X7_trialDoes cI cZ cG o o_text o_now o_trial o_acts o_slots o_tastes o_ways o_fraction o_trial_cells o_trial_standing v_seedNow v_trial_jars v_trial_weeks y29)) ⟨hx, hb, hml, hown, hts⟩ (c_X2_tryLetOut l dC dI cI cZ cG o_trial o_trial_cells o_trial_standing H.size  v_trial_jars v_trial_weeks f_trial_cells a3 hc30) (cwV 1 hts gX7_trialDoes_X2_tryLetOut rfl rfl rfl (by decide +kernel) ⟨Nat.le_of_ble_eq_true rfl, Nat.le_of_ble_eq_true rfl⟩) hK hN hP hD hS hA [1, 2] [0] [0, 1, 2] rfl rfl (by decide) rfl (by decide) (by decide) rfl (by decide) (va_recv hK hP (ci := 2) (q0 := 1) rfl rfl) rfl hl.1 rfl (Nat.le_of_ble_eq_true rfl) dX7_trialDoes_121 ⟨Nat.zero_le _, Nat.zero_le _⟩ (fun H locs hP hD hS => ?_)
      refine lv_if_eq (tgt := 131) hx hb dX7_trialDoes_124 (by decide) (fun c31 => ?_) (fun c31 => ?_)
      · have hf := g_pos c31 hf
        refine lv_iconst (v := (0 : Int32)) hx hb dX7_trialDoes_131 (by decide) ?_
        rw [hQ]
        cases hf
        exact W.zret hx hb hr (by decide +kernel) (fun t ht hW => ⟨⟨_, (), rfl, rfl, by rw [ht]; exact hP, va_K.moved hW.alike hK, hD⟩, hS.F ht⟩) hS.2.2 dX7_trialDoes_132
      · have hf := g_neg c31 hf
        refine lv_iconst (v := (1 : Int32)) hx hb dX7_trialDoes_127 (by decide) ?_
        refine lv_goto (tgt := 132) hx hb dX7_trialDoes_128 (by decide) ?_
        rw [hQ]
        cases hf
        exact W.zret hx hb hr (by decide +kernel) (fun t ht hW => ⟨⟨_, (), rfl, rfl, by rw [ht]; exact hP, va_K.moved hW.alike hK, hD⟩, hS.F ht⟩) hS.2.2 dX7_trialDoes_132
  have hf := g_neg c26 hf
  by_cases c32 : a1 = (5 : Int32)
  · have hf := g_pos c32 hf
    refine lv_tableIn (tgt := 133) hx hb dX7_trialDoes_1 (by rw [c32]; decide) (by rw [c32]; decide) (by rw [c32]; rfl) (by decide) ?_
    refine lv_aload_n hx hb dX7_trialDoes_133 rfl (lv_at hl 0 rfl) ?_
    refine va_get (D := (dC, dI)) (ci := 7) (v := .ref o_trial) (C := RX7) (T := TX7) (N := 9) hx hb hts hiX7 hown hK hP 0 rfl rfl 2 (by decide) (hts (.fieldLink RX7 23 "GreenJars" "trial" "LGreenJars$Shelf;") (by decide +kernel)) (fun _ h9 => h9) rfl dX7_trialDoes_134 ?_
    refine lv_iload_n hx hb dX7_trialDoes_137 rfl (lv_at hl 3 rfl) ?_
    obtain ⟨r33, hc34, hf⟩ := g_b1 hf
    refine g_rV (As := [.int a3]) (rest := []) ⟨hx, hb, hml, hown, hts⟩ (c_X2_has l dC dI cI cZ cG o_trial o_trial_cells o_trial_standing  v_trial_jars v_trial_weeks a3 hc34) (cwV 1 hts gX7_trialDoes_X2_has rfl rfl rfl (by decide +kernel) ⟨Nat.le_of_ble_eq_true rfl, Nat.le_of_ble_eq_true rfl⟩) hK hN (hP.sub [1] rfl) (va_recv hK hP (ci := 2) (q0 := 1) rfl rfl) rfl hl.1 rfl (Nat.le_of_ble_eq_true rfl) dX7_trialDoes_138 ⟨Nat.zero_le _, Nat.zero_le _⟩ ?_
    refine lv_if_eq (tgt := 160) hx hb dX7_trialDoes_141 (by decide) (fun c35 => ?_) (fun c35 => ?_)
    · have hf := g_pos c35 hf
      refine lv_iconst (v := (0 : Int32)) hx hb dX7_trialDoes_160 (by decide) ?_
      rw [hQ]
      cases hf
      exact W.zret hx hb hr (by decide +kernel) (fun t ht hW => ⟨⟨_, (), rfl, rfl, by rw [ht]; exact hP, va_K.moved hW.alike hK, hD⟩, hS.F ht⟩) hS.2.2 dX7_trialDoes_161
    · have hf := g_neg c35 hf
      refine lv_aload_n hx hb dX7_trialDoes_144 rfl (lv_at hl 0 rfl) ?_
      refine va_get (D := (dC, dI)) (ci := 7) (v := .ref o_trial) (C := RX7) (T := TX7) (N := 9) hx hb hts hiX7 hown hK hP 0 rfl rfl 2 (by decide) (hts (.fieldLink RX7 23 "GreenJars" "trial" "LGreenJars$Shelf;") (by decide +kernel)) (fun _ h9 => h9) rfl dX7_trialDoes_145 ?_
      refine lv_iload_n hx hb dX7_trialDoes_148 rfl (lv_at hl 2 rfl) ?_
      obtain ⟨r36, hc37, hf⟩ := g_b1 hf
      refine g_rV (As := [.int a2]) (rest := []) ⟨hx, hb, hml, hown, hts⟩ (c_X2_seenBy l dC dI cI cZ cG o_trial o_trial_cells o_trial_standing  v_trial_jars v_trial_weeks f_trial_cells a2 hc37) (cwV 1 hts gX7_trialDoes_X2_seenBy rfl rfl rfl (by decide +kernel) ⟨Nat.le_of_ble_eq_true rfl, Nat.le_of_ble_eq_true rfl⟩) hK hN (hP.sub [1, 2] rfl) (va_recv hK hP (ci := 2) (q0 := 1) rfl rfl) rfl hl.1 rfl (Nat.le_of_ble_eq_true rfl) dX7_trialDoes_149 ⟨Nat.zero_le _, Nat.zero_le _⟩ ?_
      refine lv_iload_n hx hb dX7_trialDoes_152 rfl (lv_at hl 3 rfl) ?_
      refine lv_icmp_ne (tgt := 160) hx hb dX7_trialDoes_153 (by decide) (fun c38 => ?_) (fun c38 => ?_)
      · have hf := g_neg c38 hf
        refine lv_iconst (v := (0 : Int32)) hx hb dX7_trialDoes_160 (by decide) ?_
        rw [hQ]
        cases hf
        exact W.zret hx hb hr (by decide +kernel) (fun t ht hW => ⟨⟨_, (), rfl, rfl, by rw [ht]; exact hP, va_K.moved hW.alike hK, hD⟩, hS.F ht⟩) hS.2.2 dX7_trialDoes_161
      · have hf := g_pos c38 hf
        refine lv_iconst (v := (1 : Int32)) hx hb dX7_trialDoes_156 (by decide) ?_
        refine lv_goto (tgt := 161) hx hb dX7_trialDoes_157 (by decide) ?_
        rw [hQ]
        cases hf
        exact W.zret hx hb hr (by decide +kernel) (fun t ht hW => ⟨⟨_, (), rfl, rfl, by rw [ht]; exact hP, va_K.moved hW.alike hK, hD⟩, hS.F ht⟩) hS.2.2 dX7_trialDoes_161
  have hf := g_neg c32 hf
  by_cases c39 : a1 = (6 : Int32)
  · have hf := g_pos c39 hf
    refine lv_tableIn (tgt := 162) hx hb dX7_trialDoes_1 (by rw [c39]; decide) (by rw [c39]; decide) (by rw [c39]; rfl) (by decide) ?_
    refine lv_aload_n hx hb dX7_trialDoes_162 rfl (lv_at hl 0 rfl) ?_
    refine va_get (D := (dC, dI)) (ci := 7) (v := .ref o_trial) (C := RX7) (T := TX7) (N := 9) hx hb hts hiX7 hown hK hP 0 rfl rfl 2 (by decide) (hts (.fieldLink RX7 23 "GreenJars" "trial" "LGreenJars$Shelf;") (by decide +kernel)) (fun _ h9 => h9) rfl dX7_trialDoes_163 ?_
    refine lv_iload_n hx hb dX7_trialDoes_166 rfl (lv_at hl 2 rfl) ?_
    obtain ⟨r40, hc41, hf⟩ := g_b1 hf
    refine g_rV (As := [.int a2]) (rest := []) ⟨hx, hb, hml, hown, hts⟩ (c_X2_isWhole l dC dI cI cZ cG o_trial o_trial_cells o_trial_standing  v_trial_jars v_trial_weeks f_trial_cells a2 hc41) (cwV 1 hts gX7_trialDoes_X2_isWhole rfl rfl rfl (by decide +kernel) ⟨Nat.le_of_ble_eq_true rfl, Nat.le_of_ble_eq_true rfl⟩) hK hN (hP.sub [1, 2] rfl) (va_recv hK hP (ci := 2) (q0 := 1) rfl rfl) rfl hl.1 rfl (Nat.le_of_ble_eq_true rfl) dX7_trialDoes_167 ⟨Nat.zero_le _, Nat.zero_le _⟩ ?_
    refine lv_if_eq (tgt := 190) hx hb dX7_trialDoes_170 (by decide) (fun c42 => ?_) (fun c42 => ?_)
    · have hf := g_pos c42 hf
      refine lv_iconst (v := (0 : Int32)) hx hb dX7_trialDoes_190 (by decide) ?_
      rw [hQ]
      cases hf
      exact W.zret hx hb hr (by decide +kernel) (fun t ht hW => ⟨⟨_, (), rfl, rfl, by rw [ht]; exact hP, va_K.moved hW.alike hK, hD⟩, hS.F ht⟩) hS.2.2 dX7_trialDoes_191
    · have hf := g_neg c42 hf
      refine lv_aload_n hx hb dX7_trialDoes_173 rfl (lv_at hl 0 rfl) ?_
      refine va_get (D := (dC, dI)) (ci := 7) (v := .ref o_trial) (C := RX7) (T := TX7) (N := 9) hx hb hts hiX7 hown hK hP 0 rfl rfl 2 (by decide) (hts (.fieldLink RX7 23 "GreenJars" "trial" "LGreenJars$Shelf;") (by decide +kernel)) (fun _ h9 => h9) rfl dX7_trialDoes_174 ?_
      refine lv_iload_n hx hb dX7_trialDoes_177 rfl (lv_at hl 2 rfl) ?_
      refine lv_iconst (v := (1 : Int32)) hx hb dX7_trialDoes_178 (by decide) ?_
      obtain ⟨r43, hc44, hf⟩ := g_b1 hf
      refine g_rV (As := [.int a2, .int (1 : Int32)]) (rest := []) ⟨hx, hb, hml, hown, hts⟩ (c_X2_part l dC dI cI cZ cG o_trial o_trial_cells o_trial_standing  v_trial_jars v_trial_weeks f_trial_cells a2 (1 : Int32) hc44) (cwV 2 hts gX7_trialDoes_X2_part rfl rfl rfl (by decide +kernel) ⟨Nat.le_of_ble_eq_true rfl, Nat.le_of_ble_eq_true rfl⟩) hK hN (hP.sub [1, 2] rfl) (va_recv hK hP (ci := 2) (q0 := 1) rfl rfl) rfl hl.1 rfl (Nat.le_of_ble_eq_true rfl) dX7_trialDoes_179 ⟨Nat.zero_le _, Nat.zero_le _⟩ ?_
      refine lv_iload_n hx hb dX7_trialDoes_182 rfl (lv_at hl 3 rfl) ?_
      refine lv_icmp_ne (tgt := 190) hx hb dX7_trialDoes_183 (by decide) (fun c45 => ?_) (fun c45 => ?_)
      · have hf := g_neg c45 hf
        refine lv_iconst (v := (0 : Int32)) hx hb dX7_trialDoes_190 (by decide) ?_
        rw [hQ]
        cases hf
        exact W.zret hx hb hr (by decide +kernel) (fun t ht hW => ⟨⟨_, (), rfl, rfl, by rw [ht]; exact hP, va_K.moved hW.alike hK, hD⟩, hS.F ht⟩) hS.2.2 dX7_trialDoes_191
      · have hf := g_pos c45 hf
        refine lv_iconst (v := (1 : Int32)) hx hb dX7_trialDoes_186 (by decide) ?_
        refine lv_goto (tgt := 191) hx hb dX7_trialDoes_187 (by decide) ?_
        rw [hQ]
        cases hf
        exact W.zret hx hb hr (by decide +kernel) (fun t ht hW => ⟨⟨_, (), rfl, rfl, by rw [ht]; exact hP, va_K.moved hW.alike hK, hD⟩, hS.F ht⟩) hS.2.2 dX7_trialDoes_191
  have hf := g_neg c39 hf
  have h46 := lv_neT (a := 0) c1 (by decide)
  have h47 := lv_neT (a := 1) c9 (by decide)
  have h48 := lv_neT (a := 2) c16 (by decide)
  have h49 := lv_neT (a := 3) c21 (by decide)
  have h50 := lv_neT (a := 4) c26 (by decide)
  have h51 := lv_neT (a := 5) c32 (by decide)
  have h52 := lv_neT (a := 6) c39 (by decide)
  refine lv_tableOut (tgt := 192) hx hb dX7_trialDoes_1 (by omega) (by decide) ?_
  refine lv_iconst (v := (0 : Int32)) hx hb dX7_trialDoes_192 (by decide) ?_
  rw [hQ]
  cases hf
  exact W.zret hx hb hr (by decide +kernel) (fun t ht hW => ⟨⟨_, (), rfl, rfl, by rw [ht]; exact hP, va_K.moved hW.alike hK, hD⟩, hS.F ht⟩) hS.2.2 dX7_trialDoes_193
