abbrev rm_X5_length : Room := { frames := 0, cells := 0, slots := 0, locals := 0 }
abbrev w_X5_length (cI cZ cG : ClassId) (o : Nat) (o_bytes : Nat) (v_length : Int32) : va_W := [(o, .inr (5, [.ref o_bytes, .int v_length]))]
set_option maxHeartbeats 4000000 in
set_option maxRecDepth 100000 in
theorem c_X5_length (l : Launch) (dC : Nat → ClassId) (dI : Nat → Nat → Nat) (cI cZ cG : ClassId) (o : Nat) (o_bytes : Nat) (v_length : Int32) {r0 : Int32} (hf : x5_length v_length = some r0) : Met l yX5_length wsX5_length rm_X5_length (va_Pc [.ref o] (gR (dC, dI) vwCl (gT cI cZ cG) (w_X5_length cI cZ cG o o_bytes v_length))) (vp_Si (fun r => r = r0)) 0 0 (fun _ => False) := by
  refine Met.ofW (cc := cX5_length) (maxL := 1) (ret := (some .int)) (by decide) rfl ?_
  intro p e s m args below meth c s₁ B hml hv
  obtain ⟨rfl, hv⟩ := hv
  obtain ⟨hP, hK, hN⟩ := hv
  have hx := B.exec
  have hb := B.bytes
  have hr := B.returns
  have hts := atoms_spec (ws := wsX5_length) B.pre
  have hown : s.vm.findClass RX5 = some m.cls := findClass_of_methodNamed B.named
  have hlocks := B.notSynchronized
  have hiX5 : ∀ w ∈ u_ws RX5 TX5 2, w ∈ wsX5_length := fun w h => List.mem_cons_of_mem _ (List.mem_append_right _ h)
  obtain ⟨Q, hQ⟩ : ∃ Q : State → Prop, Q = MQ below (vp_Si (fun r => r = r0)) (([Value.ref o] : List Value).toArray) s 0 0 (fun _ => False) := ⟨_, rfl⟩
  have hl := lv_entry ([.ref o]) (n := 1) (Nat.le_of_ble_eq_true rfl)
  rw [← hQ, lg_entry_eq]
  generalize (lg_sl ([.ref o]) ++ List.replicate (1 - (lg_sl ([.ref o])).length) Slot.unset).toArray = ls at hl ⊢
  have hl : lv_has ls 1 [(0, .ref o)] := hl
  show W p l e rm_X5_length s m (([Value.ref o] : List Value).toArray) below meth c s.heap [] 0 0 Q (F0 m 0 ls [])
  unfold x5_length at hf
  refine lv_aload_n hx hb dX5_length_0 rfl (lv_at hl 0 rfl) ?_
  refine va_get (D := (dC, dI)) (ci := 5) (v := .int v_length) (C := RX5) (T := TX5) (N := 2) hx hb hts hiX5 hown hK hP 0 rfl rfl 1 (by decide) (hts (.fieldLink RX5 15 "GreenJars$Text" "length" "I") (by decide +kernel)) (fun _ h9 => h9) rfl dX5_length_1 ?_
  rw [hQ]
  exact W.iret (v := v_length) hx hb hr (fun t ht hW => ⟨_, rfl, Option.some.inj hf, ht⟩) (fun q h => by cases h) dX5_length_4
abbrev rm_X5_clear : Room := { frames := 0, cells := 0, slots := 0, locals := 0 }
abbrev w_X5_clear (cI cZ cG : ClassId) (o : Nat) (o_bytes : Nat) (v_length : Int32) : va_W := [(o, .inr (5, [.ref o_bytes, .int v_length]))]
set_option maxHeartbeats 4000000 in
set_option maxRecDepth 100000 in
theorem c_X5_clear (l : Launch) (dC : Nat → ClassId) (dI : Nat → Nat → Nat) (cI cZ cG : ClassId) (o : Nat) (o_bytes : Nat) (sz : Nat) (v_length : Int32) {n_length : Int32} (hf : x5_clear v_length = some n_length) : Met l yX5_clear wsX5_clear rm_X5_clear (va_Pc [.ref o] (gW (dC, dI) vwCl (gT cI cZ cG) (w_X5_clear cI cZ cG o o_bytes v_length) sz)) (va_Qv (fun _ => True) (gE (dC, dI) vwCl (gT cI cZ cG) (w_X5_clear cI cZ cG o o_bytes n_length) (va_A (w_X5_clear cI cZ cG o o_bytes v_length) sz)) (va_A (w_X5_clear cI cZ cG o o_bytes v_length) sz)) 0 0 (va_A (w_X5_clear cI cZ cG o o_bytes v_length) sz) := by
  refine Met.ofW (cc := cX5_clear) (maxL := 1) (ret := none) (by decide) rfl ?_
  intro p e s m args below meth c s₁ B hml hv
  obtain ⟨rfl, hv⟩ := hv
  obtain ⟨hsz, hP, hK, hN, hD0⟩ := hv
  have hx := B.exec
  have hb := B.bytes
  have hr := B.returns
  have hts := atoms_spec (ws := wsX5_clear) B.pre
  have hown : s.vm.findClass RX5 = some m.cls := findClass_of_methodNamed B.named
  have hlocks := B.notSynchronized
  have hiX5 : ∀ w ∈ u_ws RX5 TX5 2, w ∈ wsX5_clear := fun w h => List.mem_cons_of_mem _ (List.mem_append_right _ h)
  subst hsz
  have hD := hD0.self (sz := s.heap.size)
  generalize hAe : va_A (w_X5_clear cI cZ cG o o_bytes v_length) s.heap.size = A at hD ⊢
  have hA : ∀ q : Nat, s.heap.size ≤ q → A q := fun q h => by rw [← hAe]; exact Or.inr h
  clear hD0
  have hS : va_S A s.heap s.heap [] := va_S.rf
  have hP : va_P (dC, dI) vwCl (w_X5_clear cI cZ cG o o_bytes v_length) s.heap := hP
  obtain ⟨Q, hQ⟩ : ∃ Q : State → Prop, Q = MQ below (va_Qv (fun _ => True) (gE (dC, dI) vwCl (gT cI cZ cG) (w_X5_clear cI cZ cG o o_bytes n_length) A) A) (([Value.ref o] : List Value).toArray) s 0 0 A := ⟨_, rfl⟩
  have hl := lv_entry ([.ref o]) (n := 1) (Nat.le_of_ble_eq_true rfl)
  rw [← hQ, lg_entry_eq]
  generalize (lg_sl ([.ref o]) ++ List.replicate (1 - (lg_sl ([.ref o])).length) Slot.unset).toArray = ls at hl ⊢
  have hl : lv_has ls 1 [(0, .ref o)] := hl
  generalize hH : s.heap = H at hP hS ⊢
  have hS : va_S A s.heap H [] := by rw [hH]; exact hS
  generalize hlc : ([] : List Loc) = locs at hS ⊢
  show W p l e rm_X5_clear s m (([Value.ref o] : List Value).toArray) below meth c H locs 0 0 Q (F0 m 0 ls [])
  unfold x5_clear at hf
  refine lv_aload_n hx hb dX5_clear_0 rfl (lv_at hl 0 rfl) ?_
  refine lv_iconst (v := (0 : Int32)) hx hb dX5_clear_1 (by decide) ?_
  refine va_put (D := (dC, dI)) (ci := 5) (v := .int (0 : Int32)) (ty := .int) (C := RX5) (T := TX5) (N := 2) hx hb hts hiX5 tyX5 tyX5_ok nmX5 hown hK hP hD hS 0 rfl rfl 1 (by decide) (hts (.fieldLink RX5 15 "GreenJars$Text" "length" "I") (by decide +kernel)) (fun _ h9 => h9) rfl (by decide +kernel) rfl rfl (Nat.le_of_ble_eq_true rfl) dX5_clear_2 (fun H locs hP hD hS => ?_)
  have hP : va_P (dC, dI) vwCl (w_X5_clear cI cZ cG o o_bytes (0 : Int32)) H := hP
  have hD : va_D A (w_X5_clear cI cZ cG o o_bytes (0 : Int32)) := hD
  rw [hQ]
  cases hf
  exact W.vret hx hb hr (fun t ht hW => ⟨⟨(), rfl, trivial, by rw [ht]; exact hP, va_K.moved hW.alike hK, hD⟩, hS.F ht⟩) hS.2.2 dX5_clear_5
abbrev rm_X5_add : Room := { frames := 0, cells := 0, slots := 0, locals := 0 }
abbrev w_X5_add (cI cZ cG : ClassId) (o : Nat) (o_bytes : Nat) (v_length : Int32) (f_bytes : Nat → Int32) : va_W := [(o, .inr (5, [.ref o_bytes, .int v_length])), (o_bytes, .inl (cI, 48, .inl f_bytes))]
set_option maxHeartbeats 4000000 in
set_option maxRecDepth 100000 in
theorem c_X5_add (l : Launch) (dC : Nat → ClassId) (dI : Nat → Nat → Nat) (cI cZ cG : ClassId) (o : Nat) (o_bytes : Nat) (sz : Nat) (v_length : Int32) (f_bytes : Nat → Int32) (a1 : Int32) {r0 : Int32} {n_length : Int32} {n_bytes : Nat → Int32} (hf : x5_add v_length f_bytes a1 = some (r0, n_length, n_bytes)) : Met l yX5_add wsX5_add rm_X5_add (va_Pc [.ref o, .int a1] (gW (dC, dI) vwCl (gT cI cZ cG) (w_X5_add cI cZ cG o o_bytes v_length f_bytes) sz)) (va_Qi (fun r _ => r = r0) (gE (dC, dI) vwCl (gT cI cZ cG) (w_X5_add cI cZ cG o o_bytes n_length n_bytes) (va_A (w_X5_add cI cZ cG o o_bytes v_length f_bytes) sz)) (va_A (w_X5_add cI cZ cG o o_bytes v_length f_bytes) sz)) 0 0 (va_A (w_X5_add cI cZ cG o o_bytes v_length f_bytes) sz) := by
  refine Met.ofW (cc := cX5_add) (maxL := 2) (ret := (some .boolean)) (by decide) rfl ?_
  intro p e s m args below meth c s₁ B hml hv
  obtain ⟨rfl, hv⟩ := hv
  obtain ⟨hsz, hP, hK, hN, hD0⟩ := hv
  have hx := B.exec
  have hb := B.bytes
  have hr := B.returns
  have hts := atoms_spec (ws := wsX5_add) B.pre
  have hown : s.vm.findClass RX5 = some m.cls := findClass_of_methodNamed B.named
  have hlocks := B.notSynchronized
  have hiX5 : ∀ w ∈ u_ws RX5 TX5 2, w ∈ wsX5_add := fun w h => List.mem_cons_of_mem _ (List.mem_append_right _ h)
  subst hsz
  have hD := hD0.self (sz := s.heap.size)
  generalize hAe : va_A (w_X5_add cI cZ cG o o_bytes v_length f_bytes) s.heap.size = A at hD ⊢
  have hA : ∀ q : Nat, s.heap.size ≤ q → A q := fun q h => by rw [← hAe]; exact Or.inr h
  clear hD0
  have hS : va_S A s.heap s.heap [] := va_S.rf
  have hP : va_P (dC, dI) vwCl (w_X5_add cI cZ cG o o_bytes v_length f_bytes) s.heap := hP
  obtain ⟨Q, hQ⟩ : ∃ Q : State → Prop, Q = MQ below (va_Qi (fun r _ => r = r0) (gE (dC, dI) vwCl (gT cI cZ cG) (w_X5_add cI cZ cG o o_bytes n_length n_bytes) A) A) (([Value.ref o, Value.int a1] : List Value).toArray) s 0 0 A := ⟨_, rfl⟩
  have hl := lv_entry ([.ref o, .int a1]) (n := 2) (Nat.le_of_ble_eq_true rfl)
  rw [← hQ, lg_entry_eq]
  generalize (lg_sl ([.ref o, .int a1]) ++ List.replicate (2 - (lg_sl ([.ref o, .int a1])).length) Slot.unset).toArray = ls at hl ⊢
  have hl : lv_has ls 2 [(0, .ref o), (1, .int a1)] := hl
  generalize hH : s.heap = H at hP hS ⊢
  have hS : va_S A s.heap H [] := by rw [hH]; exact hS
  generalize hlc : ([] : List Loc) = locs at hS ⊢
  show W p l e rm_X5_add s m (([Value.ref o, Value.int a1] : List Value).toArray) below meth c H locs 0 0 Q (F0 m 0 ls [])
  unfold x5_add at hf
  refine lv_aload_n hx hb dX5_add_0 rfl (lv_at hl 0 rfl) ?_
  refine va_get (D := (dC, dI)) (ci := 5) (v := .int v_length) (C := RX5) (T := TX5) (N := 2) hx hb hts hiX5 hown hK hP 0 rfl rfl 1 (by decide) (hts (.fieldLink RX5 15 "GreenJars$Text" "length" "I") (by decide +kernel)) (fun _ h9 => h9) rfl dX5_add_1 ?_
  refine lv_bipush (v := (48 : Int32)) hx hb dX5_add_4 (by decide +kernel) ?_
  refine lv_icmp_lt (tgt := 11) hx hb dX5_add_6 (by decide) (fun c1 => ?_) (fun c1 => ?_)
  · have hf := g_pos c1 hf
    refine lv_aload_n hx hb dX5_add_11 rfl (lv_at hl 0 rfl) ?_
    refine va_get (D := (dC, dI)) (ci := 5) (v := .ref o_bytes) (C := RX5) (T := TX5) (N := 2) hx hb hts hiX5 hown hK hP 0 rfl rfl 0 (by decide) (hts (.fieldLink RX5 9 "GreenJars$Text" "bytes" "[I") (by decide +kernel)) (fun _ h9 => h9) rfl dX5_add_12 ?_
    refine lv_aload_n hx hb dX5_add_15 rfl (lv_at hl 0 rfl) ?_
    refine va_get (D := (dC, dI)) (ci := 5) (v := .int v_length) (C := RX5) (T := TX5) (N := 2) hx hb hts hiX5 hown hK hP 0 rfl rfl 1 (by decide) (hts (.fieldLink RX5 15 "GreenJars$Text" "length" "I") (by decide +kernel)) (fun _ h9 => h9) rfl dX5_add_16 ?_
    refine lv_iload_n hx hb dX5_add_19 rfl (lv_at hl 1 rfl) ?_
    obtain ⟨h2, hf⟩ := g_chk hf
    refine va_iast hx hb hK hP hD hS 1 0 rfl rfl (gIn_vp h2) dX5_add_20 (fun H locs hP hD hS => ?_)
    have hP : va_P (dC, dI) vwCl (w_X5_add cI cZ cG o o_bytes v_length (upd f_bytes v_length.toNatClampNeg a1)) H := hP
    have hD : va_D A (w_X5_add cI cZ cG o o_bytes v_length (upd f_bytes v_length.toNatClampNeg a1)) := hD
    refine lv_aload_n hx hb dX5_add_21 rfl (lv_at hl 0 rfl) ?_
    refine lv_dup hx hb dX5_add_22 rfl ?_
    refine va_get (D := (dC, dI)) (ci := 5) (v := .int v_length) (C := RX5) (T := TX5) (N := 2) hx hb hts hiX5 hown hK hP 0 rfl rfl 1 (by decide) (hts (.fieldLink RX5 15 "GreenJars$Text" "length" "I") (by decide +kernel)) (fun _ h9 => h9) rfl dX5_add_23 ?_
    refine lv_iconst (v := (1 : Int32)) hx hb dX5_add_26 (by decide) ?_
    refine lv_iadd hx hb dX5_add_27 ?_
    refine va_put (D := (dC, dI)) (ci := 5) (v := .int (v_length + (1 : Int32))) (ty := .int) (C := RX5) (T := TX5) (N := 2) hx hb hts hiX5 tyX5 tyX5_ok nmX5 hown hK hP hD hS 0 rfl rfl 1 (by decide) (hts (.fieldLink RX5 15 "GreenJars$Text" "length" "I") (by decide +kernel)) (fun _ h9 => h9) rfl (by decide +kernel) rfl rfl (Nat.le_of_ble_eq_true rfl) dX5_add_28 (fun H locs hP hD hS => ?_)
    have hP : va_P (dC, dI) vwCl (w_X5_add cI cZ cG o o_bytes (v_length + (1 : Int32)) (upd f_bytes v_length.toNatClampNeg a1)) H := hP
    have hD : va_D A (w_X5_add cI cZ cG o o_bytes (v_length + (1 : Int32)) (upd f_bytes v_length.toNatClampNeg a1)) := hD
    refine lv_iconst (v := (1 : Int32)) hx hb dX5_add_31 (by decide) ?_
    rw [hQ]
    cases hf
    exact W.zret hx hb hr (by decide +kernel) (fun t ht hW => ⟨⟨_, (), rfl, rfl, by rw [ht]; exact hP, va_K.moved hW.alike hK, hD⟩, hS.F ht⟩) hS.2.2 dX5_add_32
  · have hf := g_neg c1 hf
    refine lv_iconst (v := (0 : Int32)) hx hb dX5_add_9 (by decide) ?_
    rw [hQ]
    cases hf
    exact W.zret hx hb hr (by decide +kernel) (fun t ht hW => ⟨⟨_, (), rfl, rfl, by rw [ht]; exact hP, va_K.moved hW.alike hK, hD⟩, hS.F ht⟩) hS.2.2 dX5_add_10
abbrev rm_X5_letter : Room := { frames := 0, cells := 0, slots := 0, locals := 0 }
abbrev w_X5_letter (cI cZ cG : ClassId) (o : Nat) (o_bytes : Nat) (v_length : Int32) (f_bytes : Nat → Int32) : va_W := [(o, .inr (5, [.ref o_bytes, .int v_length])), (o_bytes, .inl (cI, 48, .inl f_bytes))]
set_option maxHeartbeats 4000000 in
set_option maxRecDepth 100000 in
theorem c_X5_letter (l : Launch) (dC : Nat → ClassId) (dI : Nat → Nat → Nat) (cI cZ cG : ClassId) (o : Nat) (o_bytes : Nat) (v_length : Int32) (f_bytes : Nat → Int32) (a1 : Int32) {r0 : Int32} (hf : x5_letter v_length f_bytes a1 = some r0) : Met l yX5_letter wsX5_letter rm_X5_letter (va_Pc [.ref o, .int a1] (gR (dC, dI) vwCl (gT cI cZ cG) (w_X5_letter cI cZ cG o o_bytes v_length f_bytes))) (vp_Si (fun r => r = r0)) 0 0 (fun _ => False) := by
  refine Met.ofW (cc := cX5_letter) (maxL := 2) (ret := (some .int)) (by decide) rfl ?_
  intro p e s m args below meth c s₁ B hml hv
  obtain ⟨rfl, hv⟩ := hv
  obtain ⟨hP, hK, hN⟩ := hv
  have hx := B.exec
  have hb := B.bytes
  have hr := B.returns
  have hts := atoms_spec (ws := wsX5_letter) B.pre
  have hown : s.vm.findClass RX5 = some m.cls := findClass_of_methodNamed B.named
  have hlocks := B.notSynchronized
  have hiX5 : ∀ w ∈ u_ws RX5 TX5 2, w ∈ wsX5_letter := fun w h => List.mem_cons_of_mem _ (List.mem_append_right _ h)
  obtain ⟨Q, hQ⟩ : ∃ Q : State → Prop, Q = MQ below (vp_Si (fun r => r = r0)) (([Value.ref o, Value.int a1] : List Value).toArray) s 0 0 (fun _ => False) := ⟨_, rfl⟩
  have hl := lv_entry ([.ref o, .int a1]) (n := 2) (Nat.le_of_ble_eq_true rfl)
  rw [← hQ, lg_entry_eq]
  generalize (lg_sl ([.ref o, .int a1]) ++ List.replicate (2 - (lg_sl ([.ref o, .int a1])).length) Slot.unset).toArray = ls at hl ⊢
  have hl : lv_has ls 2 [(0, .ref o), (1, .int a1)] := hl
  show W p l e rm_X5_letter s m (([Value.ref o, Value.int a1] : List Value).toArray) below meth c s.heap [] 0 0 Q (F0 m 0 ls [])
  unfold x5_letter at hf
  refine lv_iload_n hx hb dX5_letter_0 rfl (lv_at hl 1 rfl) ?_
  refine lv_if_lt (tgt := 27) hx hb dX5_letter_1 (by decide) (fun c1 => ?_) (fun c1 => ?_)
  · have hf := g_pos c1 hf
    refine lv_bipush (v := (-9 : Int32)) hx hb dX5_letter_27 (by decide +kernel) ?_
    rw [hQ]
    exact W.iret (v := (-9 : Int32)) hx hb hr (fun t ht hW => ⟨_, rfl, Option.some.inj hf, ht⟩) (fun q h => by cases h) dX5_letter_29
  · have hf := g_neg c1 hf
    refine lv_iload_n hx hb dX5_letter_4 rfl (lv_at hl 1 rfl) ?_
    refine lv_aload_n hx hb dX5_letter_5 rfl (lv_at hl 0 rfl) ?_
    refine va_get (D := (dC, dI)) (ci := 5) (v := .int v_length) (C := RX5) (T := TX5) (N := 2) hx hb hts hiX5 hown hK hP 0 rfl rfl 1 (by decide) (hts (.fieldLink RX5 15 "GreenJars$Text" "length" "I") (by decide +kernel)) (fun _ h9 => h9) rfl dX5_letter_6 ?_
    refine lv_icmp_ge (tgt := 27) hx hb dX5_letter_9 (by decide) (fun c2 => ?_) (fun c2 => ?_)
    · have hf := g_pos c2 hf
      refine lv_bipush (v := (-9 : Int32)) hx hb dX5_letter_27 (by decide +kernel) ?_
      rw [hQ]
      exact W.iret (v := (-9 : Int32)) hx hb hr (fun t ht hW => ⟨_, rfl, Option.some.inj hf, ht⟩) (fun q h => by cases h) dX5_letter_29
    · have hf := g_neg c2 hf
      refine lv_iload_n hx hb dX5_letter_12 rfl (lv_at hl 1 rfl) ?_
      refine lv_bipush (v := (48 : Int32)) hx hb dX5_letter_13 (by decide +kernel) ?_
      refine lv_icmp_ge (tgt := 27) hx hb dX5_letter_15 (by decide) (fun c3 => ?_) (fun c3 => ?_)
      · have hf := g_pos c3 hf
        refine lv_bipush (v := (-9 : Int32)) hx hb dX5_letter_27 (by decide +kernel) ?_
        rw [hQ]
        exact W.iret (v := (-9 : Int32)) hx hb hr (fun t ht hW => ⟨_, rfl, Option.some.inj hf, ht⟩) (fun q h => by cases h) dX5_letter_29
      · have hf := g_neg c3 hf
        refine lv_aload_n hx hb dX5_letter_18 rfl (lv_at hl 0 rfl) ?_
        refine va_get (D := (dC, dI)) (ci := 5) (v := .ref o_bytes) (C := RX5) (T := TX5) (N := 2) hx hb hts hiX5 hown hK hP 0 rfl rfl 0 (by decide) (hts (.fieldLink RX5 9 "GreenJars$Text" "bytes" "[I") (by decide +kernel)) (fun _ h9 => h9) rfl dX5_letter_19 ?_
        refine lv_iload_n hx hb dX5_letter_22 rfl (lv_at hl 1 rfl) ?_
        obtain ⟨h4, hf⟩ := g_chk hf
        refine va_iald hx hb hK hP 1 0 rfl rfl (gIn_vp h4) dX5_letter_23 ?_
        refine lv_goto (tgt := 29) hx hb dX5_letter_24 (by decide) ?_
        rw [hQ]
        exact W.iret (v := (f_bytes a1.toNatClampNeg)) hx hb hr (fun t ht hW => ⟨_, rfl, Option.some.inj hf, ht⟩) (fun q h => by cases h) dX5_letter_29
abbrev rm_X5_figure : Room := { frames := 1, cells := 0, slots := 0, locals := 21 }
abbrev w_X5_figure (cI cZ cG : ClassId) (o : Nat) (o_bytes : Nat) (v_length : Int32) (f_bytes : Nat → Int32) : va_W := [(o, .inr (5, [.ref o_bytes, .int v_length])), (o_bytes, .inl (cI, 48, .inl f_bytes))]
set_option maxHeartbeats 4000000 in
set_option maxRecDepth 100000 in
theorem c_X5_figure (l : Launch) (dC : Nat → ClassId) (dI : Nat → Nat → Nat) (cI cZ cG : ClassId) (o : Nat) (o_bytes : Nat) (v_length : Int32) (f_bytes : Nat → Int32) (a1 : Int32) {r0 : Int32} (hf : x5_figure v_length f_bytes a1 = some r0) : Met l yX5_figure wsX5_figure rm_X5_figure (va_Pc [.ref o, .int a1] (gR (dC, dI) vwCl (gT cI cZ cG) (w_X5_figure cI cZ cG o o_bytes v_length f_bytes))) (vp_Si (fun r => r = r0)) 0 0 (fun _ => False) := by
  refine Met.ofW (cc := cX5_figure) (maxL := 2) (ret := (some .int)) (by decide) rfl ?_
  intro p e s m args below meth c s₁ B hml hv
  obtain ⟨rfl, hv⟩ := hv
  obtain ⟨hP, hK, hN⟩ := hv
  have hx := B.exec
  have hb := B.bytes
  have hr := B.returns
  have hts := atoms_spec (ws := wsX5_figure) B.pre
  have hown : s.vm.findClass RX5 = some m.cls := findClass_of_methodNamed B.named
  have hlocks := B.notSynchronized
  have hiX5 : ∀ w ∈ u_ws RX5 TX5 2, w ∈ wsX5_figure := fun w h => List.mem_cons_of_mem _ (List.mem_append_right _ h)
  obtain ⟨Q, hQ⟩ : ∃ Q : State → Prop, Q = MQ below (vp_Si (fun r => r = r0)) (([Value.ref o, Value.int a1] : List Value).toArray) s 0 0 (fun _ => False) := ⟨_, rfl⟩
  have hl := lv_entry ([.ref o, .int a1]) (n := 2) (Nat.le_of_ble_eq_true rfl)
  rw [← hQ, lg_entry_eq]
  generalize (lg_sl ([.ref o, .int a1]) ++ List.replicate (2 - (lg_sl ([.ref o, .int a1])).length) Slot.unset).toArray = ls at hl ⊢
  have hl : lv_has ls 2 [(0, .ref o), (1, .int a1)] := hl
  show W p l e rm_X5_figure s m (([Value.ref o, Value.int a1] : List Value).toArray) below meth c s.heap [] 0 0 Q (F0 m 0 ls [])
  unfold x5_figure at hf
  refine lv_aload_n hx hb dX5_figure_0 rfl (lv_at hl 0 rfl) ?_
  refine lv_iload_n hx hb dX5_figure_1 rfl (lv_at hl 1 rfl) ?_
  obtain ⟨r1, hc2, hf⟩ := g_b1 hf
  refine g_rV (As := [.int a1]) (rest := []) ⟨hx, hb, hml, hown, hts⟩ (c_X5_letter l dC dI cI cZ cG o o_bytes  v_length f_bytes a1 hc2) (cwV 1 hts gX5_figure_X5_letter rfl rfl rfl (by decide +kernel) ⟨Nat.le_of_ble_eq_true rfl, Nat.le_of_ble_eq_true rfl⟩) hK hN (hP.sub [0, 1] rfl) (va_recv hK hP (ci := 5) (q0 := 0) rfl rfl) rfl hl.1 rfl (Nat.le_of_ble_eq_true rfl) dX5_figure_2 ⟨Nat.zero_le _, Nat.zero_le _⟩ ?_
  refine lv_bipush (v := (48 : Int32)) hx hb dX5_figure_5 (by decide +kernel) ?_
  refine lv_isub hx hb dX5_figure_7 ?_
  rw [hQ]
  exact W.iret (v := (r1 - (48 : Int32))) hx hb hr (fun t ht hW => ⟨_, rfl, Option.some.inj hf, ht⟩) (fun q h => by cases h) dX5_figure_8
abbrev rm_X5_columnOf : Room := { frames := 0, cells := 0, slots := 0, locals := 0 }
abbrev w_X5_columnOf (cI cZ cG : ClassId) : va_W := []
set_option maxHeartbeats 4000000 in
set_option maxRecDepth 100000 in
theorem c_X5_columnOf (l : Launch) (dC : Nat → ClassId) (dI : Nat → Nat → Nat) (cI cZ cG : ClassId) (a0 : Int32) {r0 : Int32} (hf : x5_columnOf a0 = some r0) : Met l yX5_columnOf wsX5_columnOf rm_X5_columnOf (va_Pc [.int a0] (gR (dC, dI) vwCl (gT cI cZ cG) (w_X5_columnOf cI cZ cG))) (vp_Si (fun r => r = r0)) 0 0 (fun _ => False) := by
  refine Met.ofW (cc := cX5_columnOf) (maxL := 1) (ret := (some .int)) (by decide) rfl ?_
  intro p e s m args below meth c s₁ B hml hv
  obtain ⟨rfl, hv⟩ := hv
  obtain ⟨hP, hK, hN⟩ := hv
  have hx := B.exec
  have hb := B.bytes
  have hr := B.returns
  have hts := atoms_spec (ws := wsX5_columnOf) B.pre
  have hown : s.vm.findClass RX5 = some m.cls := findClass_of_methodNamed B.named
  have hlocks := B.notSynchronized
  obtain ⟨Q, hQ⟩ : ∃ Q : State → Prop, Q = MQ below (vp_Si (fun r => r = r0)) (([Value.int a0] : List Value).toArray) s 0 0 (fun _ => False) := ⟨_, rfl⟩
  have hl := lv_entry ([.int a0]) (n := 1) (Nat.le_of_ble_eq_true rfl)
  rw [← hQ, lg_entry_eq]
  generalize (lg_sl ([.int a0]) ++ List.replicate (1 - (lg_sl ([.int a0])).length) Slot.unset).toArray = ls at hl ⊢
  have hl : lv_has ls 1 [(0, .int a0)] := hl
  show W p l e rm_X5_columnOf s m (([Value.int a0] : List Value).toArray) below meth c s.heap [] 0 0 Q (F0 m 0 ls [])
  unfold x5_columnOf at hf
  refine lv_iload_n hx hb dX5_columnOf_0 rfl (lv_at hl 0 rfl) ?_
  refine lv_iconst (v := (1 : Int32)) hx hb dX5_columnOf_1 (by decide) ?_
  refine lv_icmp_ge (tgt := 10) hx hb dX5_columnOf_2 (by decide) (fun c1 => ?_) (fun c1 => ?_)
  · have hf := g_pos c1 hf
    refine lv_iload_n hx hb dX5_columnOf_10 rfl (lv_at hl 0 rfl) ?_
    refine lv_iconst (v := (1 : Int32)) hx hb dX5_columnOf_11 (by decide) ?_
    refine lv_isub hx hb dX5_columnOf_12 ?_
    refine lv_bipush (v := (6 : Int32)) hx hb dX5_columnOf_13 (by decide +kernel) ?_
    refine lv_irem hx hb dX5_columnOf_15 (by decide) ?_
    rw [hQ]
    exact W.iret (v := ((a0 - (1 : Int32)) - (a0 - (1 : Int32)) / (6 : Int32) * (6 : Int32))) hx hb hr (fun t ht hW => ⟨_, rfl, Option.some.inj hf, ht⟩) (fun q h => by cases h) dX5_columnOf_16
  · have hf := g_neg c1 hf
    refine lv_bipush (v := (-9 : Int32)) hx hb dX5_columnOf_5 (by decide +kernel) ?_
    refine lv_goto (tgt := 16) hx hb dX5_columnOf_7 (by decide) ?_
    rw [hQ]
    exact W.iret (v := (-9 : Int32)) hx hb hr (fun t ht hW => ⟨_, rfl, Option.some.inj hf, ht⟩) (fun q h => by cases h) dX5_columnOf_16
abbrev rm_X5_canBe : Room := { frames := 2, cells := 0, slots := 0, locals := 42 }
abbrev w_X5_canBe (cI cZ cG : ClassId) (o : Nat) (o_bytes : Nat) (v_length : Int32) (f_bytes : Nat → Int32) : va_W := [(o, .inr (5, [.ref o_bytes, .int v_length])), (o_bytes, .inl (cI, 48, .inl f_bytes))]
set_option maxHeartbeats 4000000 in
set_option maxRecDepth 100000 in
theorem c_X5_canBe (l : Launch) (dC : Nat → ClassId) (dI : Nat → Nat → Nat) (cI cZ cG : ClassId) (o : Nat) (o_bytes : Nat) (v_length : Int32) (f_bytes : Nat → Int32) (a1 : Int32) (a2 : Int32) {r0 : Int32} (hf : x5_canBe v_length f_bytes a1 a2 = some r0) : Met l yX5_canBe wsX5_canBe rm_X5_canBe (va_Pc [.ref o, .int a1, .int a2] (gR (dC, dI) vwCl (gT cI cZ cG) (w_X5_canBe cI cZ cG o o_bytes v_length f_bytes))) (vp_Si (fun r => r = r0)) 0 0 (fun _ => False) := by
  refine Met.ofW (cc := cX5_canBe) (maxL := 4) (ret := (some .boolean)) (by decide) rfl ?_
  intro p e s m args below meth c s₁ B hml hv
  obtain ⟨rfl, hv⟩ := hv
  obtain ⟨hP, hK, hN⟩ := hv
  have hx := B.exec
  have hb := B.bytes
  have hr := B.returns
  have hts := atoms_spec (ws := wsX5_canBe) B.pre
  have hown : s.vm.findClass RX5 = some m.cls := findClass_of_methodNamed B.named
  have hlocks := B.notSynchronized
  have hiX5 : ∀ w ∈ u_ws RX5 TX5 2, w ∈ wsX5_canBe := fun w h => List.mem_cons_of_mem _ (List.mem_append_right _ h)
  obtain ⟨Q, hQ⟩ : ∃ Q : State → Prop, Q = MQ below (vp_Si (fun r => r = r0)) (([Value.ref o, Value.int a1, Value.int a2] : List Value).toArray) s 0 0 (fun _ => False) := ⟨_, rfl⟩
  have hl := lv_entry ([.ref o, .int a1, .int a2]) (n := 4) (Nat.le_of_ble_eq_true rfl)
  rw [← hQ, lg_entry_eq]
  generalize (lg_sl ([.ref o, .int a1, .int a2]) ++ List.replicate (4 - (lg_sl ([.ref o, .int a1, .int a2])).length) Slot.unset).toArray = ls at hl ⊢
  have hl : lv_has ls 4 [(0, .ref o), (1, .int a1), (2, .int a2)] := hl
  show W p l e rm_X5_canBe s m (([Value.ref o, Value.int a1, Value.int a2] : List Value).toArray) below meth c s.heap [] 0 0 Q (F0 m 0 ls [])
  unfold x5_canBe at hf
  refine lv_iload_n hx hb dX5_canBe_0 rfl (lv_at hl 1 rfl) ?_
  refine lv_bipush (v := (36 : Int32)) hx hb dX5_canBe_1 (by decide +kernel) ?_
  refine lv_icmp_le (tgt := 8) hx hb dX5_canBe_3 (by decide) (fun c1 => ?_) (fun c1 => ?_)
  · have hf := g_pos c1 hf
    refine lv_aload_n hx hb dX5_canBe_8 rfl (lv_at hl 0 rfl) ?_
    refine lv_iload_n hx hb dX5_canBe_9 rfl (lv_at hl 1 rfl) ?_
    obtain ⟨r2, hc3, hf⟩ := g_b1 hf
    refine g_rV (As := [.int a1]) (rest := []) ⟨hx, hb, hml, hown, hts⟩ (c_X5_figure l dC dI cI cZ cG o o_bytes  v_length f_bytes a1 hc3) (cwV 1 hts gX5_canBe_X5_figure rfl rfl rfl (by decide +kernel) ⟨Nat.le_of_ble_eq_true rfl, Nat.le_of_ble_eq_true rfl⟩) hK hN (hP.sub [0, 1] rfl) (va_recv hK hP (ci := 5) (q0 := 0) rfl rfl) rfl hl.1 rfl (Nat.le_of_ble_eq_true rfl) dX5_canBe_10 ⟨Nat.zero_le _, Nat.zero_le _⟩ ?_
    refine lv_istore_n (lv' := [(3, .int r2), (0, .ref o), (1, .int a1), (2, .int a2)]) hx hb dX5_canBe_13 rfl hl (by decide) rfl (fun ls hl => ?_)
    refine lv_iload_n hx hb dX5_canBe_14 rfl (lv_at hl 2 rfl) ?_
    obtain ⟨r4, hc5, hf⟩ := g_b1 hf
    refine g_rS (As := [.int a1]) (rest := []) ⟨hx, hb, hml, hown, hts⟩ (c_X5_columnOf l dC dI cI cZ cG    a1 hc5) (va_cwS 1 hts gX5_canBe_X5_columnOf rfl rfl rfl (by decide +kernel) ⟨Nat.le_of_ble_eq_true rfl, Nat.le_of_ble_eq_true rfl⟩) hK hN (hP.sub [] rfl) rfl hl.1 rfl (Nat.le_of_ble_eq_true rfl) dX5_canBe_15 ⟨Nat.zero_le _, Nat.zero_le _⟩ ?_
    by_cases c6 : r4 = (-9 : Int32)
    · have hf := g_pos c6 hf
      refine lv_tableIn (tgt := 88) hx hb dX5_canBe_18 (by rw [c6]; decide) (by rw [c6]; decide) (by rw [c6]; rfl) (by decide) ?_
      refine lv_aload_n hx hb dX5_canBe_88 rfl (lv_at hl 1 rfl) ?_
      refine lv_iload_n hx hb dX5_canBe_89 rfl (lv_at hl 2 rfl) ?_
      obtain ⟨r7, hc8, hf⟩ := g_b1 hf
      refine g_rV (As := [.int a1]) (rest := []) ⟨hx, hb, hml, hown, hts⟩ (c_X5_letter l dC dI cI cZ cG o o_bytes  v_length f_bytes a1 hc8) (cwV 1 hts gX5_canBe_X5_letter rfl rfl rfl (by decide +kernel) ⟨Nat.le_of_ble_eq_true rfl, Nat.le_of_ble_eq_true rfl⟩) hK hN (hP.sub [0, 1] rfl) (va_recv hK hP (ci := 5) (q0 := 0) rfl rfl) rfl hl.1 rfl (Nat.le_of_ble_eq_true rfl) dX5_canBe_90 ⟨Nat.zero_le _, Nat.zero_le _⟩ ?_
      refine lv_bipush (v := (83 : Int32)) hx hb dX5_canBe_93 (by decide +kernel) ?_
      refine lv_icmp_ne (tgt := 102) hx hb dX5_canBe_95 (by decide) (fun c9 => ?_) (fun c9 => ?_)
      · have hf := g_neg c9 hf
        refine lv_iconst (v := (0 : Int32)) hx hb dX5_canBe_102 (by decide) ?_
        rw [hQ]
        exact W.zret (v := (0 : Int32)) hx hb hr (by decide +kernel) (fun t ht hW => ⟨_, rfl, Option.some.inj hf, ht⟩) (fun q h => by cases h) dX5_canBe_103
      · have hf := g_pos c9 hf
        refine lv_iconst (v := (1 : Int32)) hx hb dX5_canBe_98 (by decide) ?_
        refine lv_goto (tgt := 103) hx hb dX5_canBe_99 (by decide) ?_
        rw [hQ]
        exact W.zret (v := (1 : Int32)) hx hb hr (by decide +kernel) (fun t ht hW => ⟨_, rfl, Option.some.inj hf, ht⟩) (fun q h => by cases h) dX5_canBe_103
    have hf := g_neg c6 hf
    by_cases c10 : r4 = (0 : Int32)
    · have hf := g_pos c10 hf
      refine lv_tableIn (tgt := 104) hx hb dX5_canBe_18 (by rw [c10]; decide) (by rw [c10]; decide) (by rw [c10]; rfl) (by decide) ?_
      refine lv_aload_n hx hb dX5_canBe_104 rfl (lv_at hl 1 rfl) ?_
      refine lv_iload_n hx hb dX5_canBe_105 rfl (lv_at hl 2 rfl) ?_
      obtain ⟨r11, hc12, hf⟩ := g_b1 hf
      refine g_rV (As := [.int a1]) (rest := []) ⟨hx, hb, hml, hown, hts⟩ (c_X5_letter l dC dI cI cZ cG o o_bytes  v_length f_bytes a1 hc12) (cwV 1 hts gX5_canBe_X5_letter rfl rfl rfl (by decide +kernel) ⟨Nat.le_of_ble_eq_true rfl, Nat.le_of_ble_eq_true rfl⟩) hK hN (hP.sub [0, 1] rfl) (va_recv hK hP (ci := 5) (q0 := 0) rfl rfl) rfl hl.1 rfl (Nat.le_of_ble_eq_true rfl) dX5_canBe_106 ⟨Nat.zero_le _, Nat.zero_le _⟩ ?_
      refine lv_bipush (v := (74 : Int32)) hx hb dX5_canBe_109 (by decide +kernel) ?_
      refine lv_icmp_ne (tgt := 118) hx hb dX5_canBe_111 (by decide) (fun c13 => ?_) (fun c13 => ?_)
      · have hf := g_neg c13 hf
        refine lv_iconst (v := (0 : Int32)) hx hb dX5_canBe_118 (by decide) ?_
        rw [hQ]
        exact W.zret (v := (0 : Int32)) hx hb hr (by decide +kernel) (fun t ht hW => ⟨_, rfl, Option.some.inj hf, ht⟩) (fun q h => by cases h) dX5_canBe_119
      · have hf := g_pos c13 hf
        refine lv_iconst (v := (1 : Int32)) hx hb dX5_canBe_114 (by decide) ?_
        refine lv_goto (tgt := 119) hx hb dX5_canBe_115 (by decide) ?_
        rw [hQ]
        exact W.zret (v := (1 : Int32)) hx hb hr (by decide +kernel) (fun t ht hW => ⟨_, rfl, Option.some.inj hf, ht⟩) (fun q h => by cases h) dX5_canBe_119
    have hf := g_neg c10 hf
    by_cases c14 : r4 = (1 : Int32)
    · have hf := g_pos c14 hf
      refine lv_tableIn (tgt := 120) hx hb dX5_canBe_18 (by rw [c14]; decide) (by rw [c14]; decide) (by rw [c14]; rfl) (by decide) ?_
      refine lv_iload_n hx hb dX5_canBe_120 rfl (lv_at hl 0 rfl) ?_
      obtain ⟨r15, hc16, hf⟩ := g_b1 hf
      refine g_rSN (As := [.int r2]) (rest := []) ⟨hx, hb, hml, hown, hts⟩ (c_X7_isPlace l dC dI cI cZ cG    r2 hc16) ⟨va_cnB (host := "GreenJars") 1 hts gX5_canBe_X7_isPlace_n33 rfl rfl rfl (hN _ (List.mem_of_getElem? (i := 7) rfl)) (hts (.initialized RX7) (by decide +kernel)) (by decide +kernel) ⟨Nat.le_of_ble_eq_true rfl, Nat.le_of_ble_eq_true rfl⟩, hts (.static yX7_isPlace) (by decide +kernel), trivial⟩ hK hN (hP.sub [] rfl) rfl hl.1 rfl (Nat.le_of_ble_eq_true rfl) dX5_canBe_121 ⟨Nat.zero_le _, Nat.zero_le _⟩ ?_
      refine lv_if_eq (tgt := 139) hx hb dX5_canBe_124 (by decide) (fun c17 => ?_) (fun c17 => ?_)
      · have hf := g_pos c17 hf
        refine lv_iconst (v := (0 : Int32)) hx hb dX5_canBe_139 (by decide) ?_
        rw [hQ]
        exact W.zret (v := (0 : Int32)) hx hb hr (by decide +kernel) (fun t ht hW => ⟨_, rfl, Option.some.inj hf, ht⟩) (fun q h => by cases h) dX5_canBe_140
      · have hf := g_neg c17 hf
        refine lv_iload_n hx hb dX5_canBe_127 rfl (lv_at hl 3 rfl) ?_
        refine lv_iload_n hx hb dX5_canBe_128 rfl (lv_at hl 0 rfl) ?_
        obtain ⟨r18, hc19, hf⟩ := g_b1 hf
        refine g_rSN (As := [.int a2, .int r2]) (rest := []) ⟨hx, hb, hml, hown, hts⟩ (c_X7_isIn l dC dI cI cZ cG    a2 r2 hc19) ⟨va_cnB (host := "GreenJars") 2 hts gX5_canBe_X7_isIn_n37 rfl rfl rfl (hN _ (List.mem_of_getElem? (i := 8) rfl)) (hts (.initialized RX7) (by decide +kernel)) (by decide +kernel) ⟨Nat.le_of_ble_eq_true rfl, Nat.le_of_ble_eq_true rfl⟩, hts (.static yX7_isIn) (by decide +kernel), trivial⟩ hK hN (hP.sub [] rfl) rfl hl.1 rfl (Nat.le_of_ble_eq_true rfl) dX5_canBe_129 ⟨Nat.zero_le _, Nat.zero_le _⟩ ?_
        refine lv_if_ne (tgt := 139) hx hb dX5_canBe_132 (by decide) (fun c20 => ?_) (fun c20 => ?_)
        · have hf := g_neg c20 hf
          refine lv_iconst (v := (0 : Int32)) hx hb dX5_canBe_139 (by decide) ?_
          rw [hQ]
          exact W.zret (v := (0 : Int32)) hx hb hr (by decide +kernel) (fun t ht hW => ⟨_, rfl, Option.some.inj hf, ht⟩) (fun q h => by cases h) dX5_canBe_140
        · have hf := g_pos c20 hf
          refine lv_iconst (v := (1 : Int32)) hx hb dX5_canBe_135 (by decide) ?_
          refine lv_goto (tgt := 140) hx hb dX5_canBe_136 (by decide) ?_
          rw [hQ]
          exact W.zret (v := (1 : Int32)) hx hb hr (by decide +kernel) (fun t ht hW => ⟨_, rfl, Option.some.inj hf, ht⟩) (fun q h => by cases h) dX5_canBe_140
    have hf := g_neg c14 hf
    by_cases c21 : r4 = (2 : Int32)
    · have hf := g_pos c21 hf
      refine lv_tableIn (tgt := 141) hx hb dX5_canBe_18 (by rw [c21]; decide) (by rw [c21]; decide) (by rw [c21]; rfl) (by decide) ?_
      refine lv_iload_n hx hb dX5_canBe_141 rfl (lv_at hl 0 rfl) ?_
      obtain ⟨r22, hc23, hf⟩ := g_b1 hf
      refine g_rSN (As := [.int r2]) (rest := []) ⟨hx, hb, hml, hown, hts⟩ (c_X7_isFigure l dC dI cI cZ cG    r2 hc23) ⟨va_cnB (host := "GreenJars") 1 hts gX5_canBe_X7_isFigure_n40 rfl rfl rfl (hN _ (List.mem_of_getElem? (i := 9) rfl)) (hts (.initialized RX7) (by decide +kernel)) (by decide +kernel) ⟨Nat.le_of_ble_eq_true rfl, Nat.le_of_ble_eq_true rfl⟩, hts (.static yX7_isFigure) (by decide +kernel), trivial⟩ hK hN (hP.sub [] rfl) rfl hl.1 rfl (Nat.le_of_ble_eq_true rfl) dX5_canBe_142 ⟨Nat.zero_le _, Nat.zero_le _⟩ ?_
      obtain ⟨h24, hf⟩ := g_chk hf
      rw [hQ]
      exact W.zret (v := r22) hx hb hr (gBl_or h24) (fun t ht hW => ⟨_, rfl, Option.some.inj hf, ht⟩) (fun q h => by cases h) dX5_canBe_145
    have hf := g_neg c21 hf
    by_cases c25 : r4 = (3 : Int32)
    · have hf := g_pos c25 hf
      refine lv_tableIn (tgt := 146) hx hb dX5_canBe_18 (by rw [c25]; decide) (by rw [c25]; decide) (by rw [c25]; rfl) (by decide) ?_
      refine lv_iload_n hx hb dX5_canBe_146 rfl (lv_at hl 0 rfl) ?_
      obtain ⟨r26, hc27, hf⟩ := g_b1 hf
      refine g_rSN (As := [.int r2]) (rest := []) ⟨hx, hb, hml, hown, hts⟩ (c_X7_isStuff l dC dI cI cZ cG    r2 hc27) ⟨va_cnB (host := "GreenJars") 1 hts gX5_canBe_X7_isStuff_n43 rfl rfl rfl (hN _ (List.mem_of_getElem? (i := 10) rfl)) (hts (.initialized RX7) (by decide +kernel)) (by decide +kernel) ⟨Nat.le_of_ble_eq_true rfl, Nat.le_of_ble_eq_true rfl⟩, hts (.static yX7_isStuff) (by decide +kernel), trivial⟩ hK hN (hP.sub [] rfl) rfl hl.1 rfl (Nat.le_of_ble_eq_true rfl) dX5_canBe_147 ⟨Nat.zero_le _, Nat.zero_le _⟩ ?_
      obtain ⟨h28, hf⟩ := g_chk hf
      rw [hQ]
      exact W.zret (v := r26) hx hb hr (gBl_or h28) (fun t ht hW => ⟨_, rfl, Option.some.inj hf, ht⟩) (fun q h => by cases h) dX5_canBe_150
    have hf := g_neg c25 hf
    by_cases c29 : r4 = (4 : Int32)
    · have hf := g_pos c29 hf
      refine lv_tableIn (tgt := 151) hx hb dX5_canBe_18 (by rw [c29]; decide) (by rw [c29]; decide) (by rw [c29]; rfl) (by decide) ?_
      refine lv_iload_n hx hb dX5_canBe_151 rfl (lv_at hl 0 rfl) ?_
      refine lv_if_lt (tgt := 164) hx hb dX5_canBe_152 (by decide) (fun c30 => ?_) (fun c30 => ?_)
      · have hf := g_pos c30 hf
        refine lv_iconst (v := (0 : Int32)) hx hb dX5_canBe_164 (by decide) ?_
        rw [hQ]
        exact W.zret (v := (0 : Int32)) hx hb hr (by decide +kernel) (fun t ht hW => ⟨_, rfl, Option.some.inj hf, ht⟩) (fun q h => by cases h) dX5_canBe_165
      · have hf := g_neg c30 hf
        refine lv_iload_n hx hb dX5_canBe_155 rfl (lv_at hl 0 rfl) ?_
        refine lv_iconst (v := (3 : Int32)) hx hb dX5_canBe_156 (by decide) ?_
        refine lv_icmp_gt (tgt := 164) hx hb dX5_canBe_157 (by decide) (fun c31 => ?_) (fun c31 => ?_)
        · have hf := g_pos c31 hf
          refine lv_iconst (v := (0 : Int32)) hx hb dX5_canBe_164 (by decide) ?_
          rw [hQ]
          exact W.zret (v := (0 : Int32)) hx hb hr (by decide +kernel) (fun t ht hW => ⟨_, rfl, Option.some.inj hf, ht⟩) (fun q h => by cases h) dX5_canBe_165
        · have hf := g_neg c31 hf
          refine lv_iconst (v := (1 : Int32)) hx hb dX5_canBe_160 (by decide) ?_
          refine lv_goto (tgt := 165) hx hb dX5_canBe_161 (by decide) ?_
          rw [hQ]
          exact W.zret (v := (1 : Int32)) hx hb hr (by decide +kernel) (fun t ht hW => ⟨_, rfl, Option.some.inj hf, ht⟩) (fun q h => by cases h) dX5_canBe_165
    have hf := g_neg c29 hf
    by_cases c32 : r4 = (-8 : Int32)
    · refine lv_tableIn (tgt := 166) hx hb dX5_canBe_18 (by rw [c32]; decide) (by rw [c32]; decide) (by rw [c32]; rfl) (by decide) ?_
      refine lv_iload_n hx hb dX5_canBe_166 rfl (lv_at hl 0 rfl) ?_
      refine lv_iconst (v := (1 : Int32)) hx hb dX5_canBe_167 (by decide) ?_
      refine lv_icmp_lt (tgt := 181) hx hb dX5_canBe_168 (by decide) (fun c33 => ?_) (fun c33 => ?_)
      · have hf := g_pos c33 hf
        refine lv_iconst (v := (0 : Int32)) hx hb dX5_canBe_181 (by decide) ?_
        rw [hQ]
        exact W.zret (v := (0 : Int32)) hx hb hr (by decide +kernel) (fun t ht hW => ⟨_, rfl, Option.some.inj hf, ht⟩) (fun q h => by cases h) dX5_canBe_182
      · have hf := g_neg c33 hf
        refine lv_iload_n hx hb dX5_canBe_171 rfl (lv_at hl 0 rfl) ?_
        refine lv_bipush (v := (9 : Int32)) hx hb dX5_canBe_172 (by decide +kernel) ?_
        refine lv_icmp_gt (tgt := 181) hx hb dX5_canBe_174 (by decide) (fun c34 => ?_) (fun c34 => ?_)
        · have hf := g_pos c34 hf
          refine lv_iconst (v := (0 : Int32)) hx hb dX5_canBe_181 (by decide) ?_
          rw [hQ]
          exact W.zret (v := (0 : Int32)) hx hb hr (by decide +kernel) (fun t ht hW => ⟨_, rfl, Option.some.inj hf, ht⟩) (fun q h => by cases h) dX5_canBe_182
        · have hf := g_neg c34 hf
          refine lv_iconst (v := (1 : Int32)) hx hb dX5_canBe_177 (by decide) ?_
          refine lv_goto (tgt := 182) hx hb dX5_canBe_178 (by decide) ?_
          rw [hQ]
          exact W.zret (v := (1 : Int32)) hx hb hr (by decide +kernel) (fun t ht hW => ⟨_, rfl, Option.some.inj hf, ht⟩) (fun q h => by cases h) dX5_canBe_182
    by_cases c35 : r4 = (-7 : Int32)
    · refine lv_tableIn (tgt := 166) hx hb dX5_canBe_18 (by rw [c35]; decide) (by rw [c35]; decide) (by rw [c35]; rfl) (by decide) ?_
      refine lv_iload_n hx hb dX5_canBe_166 rfl (lv_at hl 0 rfl) ?_
      refine lv_iconst (v := (1 : Int32)) hx hb dX5_canBe_167 (by decide) ?_
      refine lv_icmp_lt (tgt := 181) hx hb dX5_canBe_168 (by decide) (fun c36 => ?_) (fun c36 => ?_)
      · have hf := g_pos c36 hf
        refine lv_iconst (v := (0 : Int32)) hx hb dX5_canBe_181 (by decide) ?_
        rw [hQ]
        exact W.zret (v := (0 : Int32)) hx hb hr (by decide +kernel) (fun t ht hW => ⟨_, rfl, Option.some.inj hf, ht⟩) (fun q h => by cases h) dX5_canBe_182
      · have hf := g_neg c36 hf
        refine lv_iload_n hx hb dX5_canBe_171 rfl (lv_at hl 0 rfl) ?_
        refine lv_bipush (v := (9 : Int32)) hx hb dX5_canBe_172 (by decide +kernel) ?_
        refine lv_icmp_gt (tgt := 181) hx hb dX5_canBe_174 (by decide) (fun c37 => ?_) (fun c37 => ?_)
        · have hf := g_pos c37 hf
          refine lv_iconst (v := (0 : Int32)) hx hb dX5_canBe_181 (by decide) ?_
          rw [hQ]
          exact W.zret (v := (0 : Int32)) hx hb hr (by decide +kernel) (fun t ht hW => ⟨_, rfl, Option.some.inj hf, ht⟩) (fun q h => by cases h) dX5_canBe_182
        · have hf := g_neg c37 hf
          refine lv_iconst (v := (1 : Int32)) hx hb dX5_canBe_177 (by decide) ?_
          refine lv_goto (tgt := 182) hx hb dX5_canBe_178 (by decide) ?_
          rw [hQ]
          exact W.zret (v := (1 : Int32)) hx hb hr (by decide +kernel) (fun t ht hW => ⟨_, rfl, Option.some.inj hf, ht⟩) (fun q h => by cases h) dX5_canBe_182
    by_cases c38 : r4 = (-6 : Int32)
    · refine lv_tableIn (tgt := 166) hx hb dX5_canBe_18 (by rw [c38]; decide) (by rw [c38]; decide) (by rw [c38]; rfl) (by decide) ?_
      refine lv_iload_n hx hb dX5_canBe_166 rfl (lv_at hl 0 rfl) ?_
      refine lv_iconst (v := (1 : Int32)) hx hb dX5_canBe_167 (by decide) ?_
      refine lv_icmp_lt (tgt := 181) hx hb dX5_canBe_168 (by decide) (fun c39 => ?_) (fun c39 => ?_)
      · have hf := g_pos c39 hf
        refine lv_iconst (v := (0 : Int32)) hx hb dX5_canBe_181 (by decide) ?_
        rw [hQ]
        exact W.zret (v := (0 : Int32)) hx hb hr (by decide +kernel) (fun t ht hW => ⟨_, rfl, Option.some.inj hf, ht⟩) (fun q h => by cases h) dX5_canBe_182
      · have hf := g_neg c39 hf
        refine lv_iload_n hx hb dX5_canBe_171 rfl (lv_at hl 0 rfl) ?_
        refine lv_bipush (v := (9 : Int32)) hx hb dX5_canBe_172 (by decide +kernel) ?_
        refine lv_icmp_gt (tgt := 181) hx hb dX5_canBe_174 (by decide) (fun c40 => ?_) (fun c40 => ?_)
        · have hf := g_pos c40 hf
          refine lv_iconst (v := (0 : Int32)) hx hb dX5_canBe_181 (by decide) ?_
          rw [hQ]
          exact W.zret (v := (0 : Int32)) hx hb hr (by decide +kernel) (fun t ht hW => ⟨_, rfl, Option.some.inj hf, ht⟩) (fun q h => by cases h) dX5_canBe_182
        · have hf := g_neg c40 hf
          refine lv_iconst (v := (1 : Int32)) hx hb dX5_canBe_177 (by decide) ?_
          refine lv_goto (tgt := 182) hx hb dX5_canBe_178 (by decide) ?_
          rw [hQ]
          exact W.zret (v := (1 : Int32)) hx hb hr (by decide +kernel) (fun t ht hW => ⟨_, rfl, Option.some.inj hf, ht⟩) (fun q h => by cases h) dX5_canBe_182
    by_cases c41 : r4 = (-5 : Int32)
    · refine lv_tableIn (tgt := 166) hx hb dX5_canBe_18 (by rw [c41]; decide) (by rw [c41]; decide) (by rw [c41]; rfl) (by decide) ?_
      refine lv_iload_n hx hb dX5_canBe_166 rfl (lv_at hl 0 rfl) ?_
      refine lv_iconst (v := (1 : Int32)) hx hb dX5_canBe_167 (by decide) ?_
      refine lv_icmp_lt (tgt := 181) hx hb dX5_canBe_168 (by decide) (fun c42 => ?_) (fun c42 => ?_)
      · have hf := g_pos c42 hf
        refine lv_iconst (v := (0 : Int32)) hx hb dX5_canBe_181 (by decide) ?_
        rw [hQ]
        exact W.zret (v := (0 : Int32)) hx hb hr (by decide +kernel) (fun t ht hW => ⟨_, rfl, Option.some.inj hf, ht⟩) (fun q h => by cases h) dX5_canBe_182
      · have hf := g_neg c42 hf
        refine lv_iload_n hx hb dX5_canBe_171 rfl (lv_at hl 0 rfl) ?_
        refine lv_bipush (v := (9 : Int32)) hx hb dX5_canBe_172 (by decide +kernel) ?_
        refine lv_icmp_gt (tgt := 181) hx hb dX5_canBe_174 (by decide) (fun c43 => ?_) (fun c43 => ?_)
        · have hf := g_pos c43 hf
          refine lv_iconst (v := (0 : Int32)) hx hb dX5_canBe_181 (by decide) ?_
          rw [hQ]
          exact W.zret (v := (0 : Int32)) hx hb hr (by decide +kernel) (fun t ht hW => ⟨_, rfl, Option.some.inj hf, ht⟩) (fun q h => by cases h) dX5_canBe_182
        · have hf := g_neg c43 hf
          refine lv_iconst (v := (1 : Int32)) hx hb dX5_canBe_177 (by decide) ?_
          refine lv_goto (tgt := 182) hx hb dX5_canBe_178 (by decide) ?_
          rw [hQ]
          exact W.zret (v := (1 : Int32)) hx hb hr (by decide +kernel) (fun t ht hW => ⟨_, rfl, Option.some.inj hf, ht⟩) (fun q h => by cases h) dX5_canBe_182
    by_cases c44 : r4 = (-4 : Int32)
    · refine lv_tableIn (tgt := 166) hx hb dX5_canBe_18 (by rw [c44]; decide) (by rw [c44]; decide) (by rw [c44]; rfl) (by decide) ?_
      refine lv_iload_n hx hb dX5_canBe_166 rfl (lv_at hl 0 rfl) ?_
      refine lv_iconst (v := (1 : Int32)) hx hb dX5_canBe_167 (by decide) ?_
      refine lv_icmp_lt (tgt := 181) hx hb dX5_canBe_168 (by decide) (fun c45 => ?_) (fun c45 => ?_)
      · have hf := g_pos c45 hf
        refine lv_iconst (v := (0 : Int32)) hx hb dX5_canBe_181 (by decide) ?_
        rw [hQ]
        exact W.zret (v := (0 : Int32)) hx hb hr (by decide +kernel) (fun t ht hW => ⟨_, rfl, Option.some.inj hf, ht⟩) (fun q h => by cases h) dX5_canBe_182
      · have hf := g_neg c45 hf
        refine lv_iload_n hx hb dX5_canBe_171 rfl (lv_at hl 0 rfl) ?_
        refine lv_bipush (v := (9 : Int32)) hx hb dX5_canBe_172 (by decide +kernel) ?_
        refine lv_icmp_gt (tgt := 181) hx hb dX5_canBe_174 (by decide) (fun c46 => ?_) (fun c46 => ?_)
        · have hf := g_pos c46 hf
          refine lv_iconst (v := (0 : Int32)) hx hb dX5_canBe_181 (by decide) ?_
          rw [hQ]
          exact W.zret (v := (0 : Int32)) hx hb hr (by decide +kernel) (fun t ht hW => ⟨_, rfl, Option.some.inj hf, ht⟩) (fun q h => by cases h) dX5_canBe_182
        · have hf := g_neg c46 hf
          refine lv_iconst (v := (1 : Int32)) hx hb dX5_canBe_177 (by decide) ?_
          refine lv_goto (tgt := 182) hx hb dX5_canBe_178 (by decide) ?_
          rw [hQ]
          exact W.zret (v := (1 : Int32)) hx hb hr (by decide +kernel) (fun t ht hW => ⟨_, rfl, Option.some.inj hf, ht⟩) (fun q h => by cases h) dX5_canBe_182
    by_cases c47 : r4 = (-3 : Int32)
    · refine lv_tableIn (tgt := 166) hx hb dX5_canBe_18 (by rw [c47]; decide) (by rw [c47]; decide) (by rw [c47]; rfl) (by decide) ?_
      refine lv_iload_n hx hb dX5_canBe_166 rfl (lv_at hl 0 rfl) ?_
      refine lv_iconst (v := (1 : Int32)) hx hb dX5_canBe_167 (by decide) ?_
      refine lv_icmp_lt (tgt := 181) hx hb dX5_canBe_168 (by decide) (fun c48 => ?_) (fun c48 => ?_)
      · have hf := g_pos c48 hf
        refine lv_iconst (v := (0 : Int32)) hx hb dX5_canBe_181 (by decide) ?_
        rw [hQ]
        exact W.zret (v := (0 : Int32)) hx hb hr (by decide +kernel) (fun t ht hW => ⟨_, rfl, Option.some.inj hf, ht⟩) (fun q h => by cases h) dX5_canBe_182
      · have hf := g_neg c48 hf
        refine lv_iload_n hx hb dX5_canBe_171 rfl (lv_at hl 0 rfl) ?_
        refine lv_bipush (v := (9 : Int32)) hx hb dX5_canBe_172 (by decide +kernel) ?_
        refine lv_icmp_gt (tgt := 181) hx hb dX5_canBe_174 (by decide) (fun c49 => ?_) (fun c49 => ?_)
        · have hf := g_pos c49 hf
          refine lv_iconst (v := (0 : Int32)) hx hb dX5_canBe_181 (by decide) ?_
          rw [hQ]
          exact W.zret (v := (0 : Int32)) hx hb hr (by decide +kernel) (fun t ht hW => ⟨_, rfl, Option.some.inj hf, ht⟩) (fun q h => by cases h) dX5_canBe_182
        · have hf := g_neg c49 hf
          refine lv_iconst (v := (1 : Int32)) hx hb dX5_canBe_177 (by decide) ?_
          refine lv_goto (tgt := 182) hx hb dX5_canBe_178 (by decide) ?_
          rw [hQ]
          exact W.zret (v := (1 : Int32)) hx hb hr (by decide +kernel) (fun t ht hW => ⟨_, rfl, Option.some.inj hf, ht⟩) (fun q h => by cases h) dX5_canBe_182
    by_cases c50 : r4 = (-2 : Int32)
    · refine lv_tableIn (tgt := 166) hx hb dX5_canBe_18 (by rw [c50]; decide) (by rw [c50]; decide) (by rw [c50]; rfl) (by decide) ?_
      refine lv_iload_n hx hb dX5_canBe_166 rfl (lv_at hl 0 rfl) ?_
      refine lv_iconst (v := (1 : Int32)) hx hb dX5_canBe_167 (by decide) ?_
      refine lv_icmp_lt (tgt := 181) hx hb dX5_canBe_168 (by decide) (fun c51 => ?_) (fun c51 => ?_)
      · have hf := g_pos c51 hf
        refine lv_iconst (v := (0 : Int32)) hx hb dX5_canBe_181 (by decide) ?_
        rw [hQ]
        exact W.zret (v := (0 : Int32)) hx hb hr (by decide +kernel) (fun t ht hW => ⟨_, rfl, Option.some.inj hf, ht⟩) (fun q h => by cases h) dX5_canBe_182
      · have hf := g_neg c51 hf
        refine lv_iload_n hx hb dX5_canBe_171 rfl (lv_at hl 0 rfl) ?_
        refine lv_bipush (v := (9 : Int32)) hx hb dX5_canBe_172 (by decide +kernel) ?_
        refine lv_icmp_gt (tgt := 181) hx hb dX5_canBe_174 (by decide) (fun c52 => ?_) (fun c52 => ?_)
        · have hf := g_pos c52 hf
          refine lv_iconst (v := (0 : Int32)) hx hb dX5_canBe_181 (by decide) ?_
          rw [hQ]
          exact W.zret (v := (0 : Int32)) hx hb hr (by decide +kernel) (fun t ht hW => ⟨_, rfl, Option.some.inj hf, ht⟩) (fun q h => by cases h) dX5_canBe_182
        · have hf := g_neg c52 hf
          refine lv_iconst (v := (1 : Int32)) hx hb dX5_canBe_177 (by decide) ?_
          refine lv_goto (tgt := 182) hx hb dX5_canBe_178 (by decide) ?_
          rw [hQ]
          exact W.zret (v := (1 : Int32)) hx hb hr (by decide +kernel) (fun t ht hW => ⟨_, rfl, Option.some.inj hf, ht⟩) (fun q h => by cases h) dX5_canBe_182
    by_cases c53 : r4 = (-1 : Int32)
    · refine lv_tableIn (tgt := 166) hx hb dX5_canBe_18 (by rw [c53]; decide) (by rw [c53]; decide) (by rw [c53]; rfl) (by decide) ?_
      refine lv_iload_n hx hb dX5_canBe_166 rfl (lv_at hl 0 rfl) ?_
      refine lv_iconst (v := (1 : Int32)) hx hb dX5_canBe_167 (by decide) ?_
      refine lv_icmp_lt (tgt := 181) hx hb dX5_canBe_168 (by decide) (fun c54 => ?_) (fun c54 => ?_)
      · have hf := g_pos c54 hf
        refine lv_iconst (v := (0 : Int32)) hx hb dX5_canBe_181 (by decide) ?_
        rw [hQ]
        exact W.zret (v := (0 : Int32)) hx hb hr (by decide +kernel) (fun t ht hW => ⟨_, rfl, Option.some.inj hf, ht⟩) (fun q h => by cases h) dX5_canBe_182
      · have hf := g_neg c54 hf
        refine lv_iload_n hx hb dX5_canBe_171 rfl (lv_at hl 0 rfl) ?_
        refine lv_bipush (v := (9 : Int32)) hx hb dX5_canBe_172 (by decide +kernel) ?_
        refine lv_icmp_gt (tgt := 181) hx hb dX5_canBe_174 (by decide) (fun c55 => ?_) (fun c55 => ?_)
        · have hf := g_pos c55 hf
          refine lv_iconst (v := (0 : Int32)) hx hb dX5_canBe_181 (by decide) ?_
          rw [hQ]
          exact W.zret (v := (0 : Int32)) hx hb hr (by decide +kernel) (fun t ht hW => ⟨_, rfl, Option.some.inj hf, ht⟩) (fun q h => by cases h) dX5_canBe_182
        · have hf := g_neg c55 hf
          refine lv_iconst (v := (1 : Int32)) hx hb dX5_canBe_177 (by decide) ?_
          refine lv_goto (tgt := 182) hx hb dX5_canBe_178 (by decide) ?_
          rw [hQ]
          exact W.zret (v := (1 : Int32)) hx hb hr (by decide +kernel) (fun t ht hW => ⟨_, rfl, Option.some.inj hf, ht⟩) (fun q h => by cases h) dX5_canBe_182
    have h58 := lv_neT (a := -9) c6 (by decide)
    have h59 := lv_neT (a := 0) c10 (by decide)
    have h60 := lv_neT (a := 1) c14 (by decide)
    have h61 := lv_neT (a := 2) c21 (by decide)
    have h62 := lv_neT (a := 3) c25 (by decide)
    have h63 := lv_neT (a := 4) c29 (by decide)
    have h64 := lv_neT (a := -8) c32 (by decide)
    have h65 := lv_neT (a := -7) c35 (by decide)
    have h66 := lv_neT (a := -6) c38 (by decide)
    have h67 := lv_neT (a := -5) c41 (by decide)
    have h68 := lv_neT (a := -4) c44 (by decide)
    have h69 := lv_neT (a := -3) c47 (by decide)
    have h70 := lv_neT (a := -2) c50 (by decide)
    have h71 := lv_neT (a := -1) c53 (by decide)
    refine lv_tableOut (tgt := 166) hx hb dX5_canBe_18 (by omega) (by decide) ?_
    refine lv_iload_n hx hb dX5_canBe_166 rfl (lv_at hl 0 rfl) ?_
    refine lv_iconst (v := (1 : Int32)) hx hb dX5_canBe_167 (by decide) ?_
    refine lv_icmp_lt (tgt := 181) hx hb dX5_canBe_168 (by decide) (fun c56 => ?_) (fun c56 => ?_)
    · have hf := g_pos c56 hf
      refine lv_iconst (v := (0 : Int32)) hx hb dX5_canBe_181 (by decide) ?_
      rw [hQ]
      exact W.zret (v := (0 : Int32)) hx hb hr (by decide +kernel) (fun t ht hW => ⟨_, rfl, Option.some.inj hf, ht⟩) (fun q h => by cases h) dX5_canBe_182
    · have hf := g_neg c56 hf
      refine lv_iload_n hx hb dX5_canBe_171 rfl (lv_at hl 0 rfl) ?_
      refine lv_bipush (v := (9 : Int32)) hx hb dX5_canBe_172 (by decide +kernel) ?_
      refine lv_icmp_gt (tgt := 181) hx hb dX5_canBe_174 (by decide) (fun c57 => ?_) (fun c57 => ?_)
      · have hf := g_pos c57 hf
        refine lv_iconst (v := (0 : Int32)) hx hb dX5_canBe_181 (by decide) ?_
        rw [hQ]
        exact W.zret (v := (0 : Int32)) hx hb hr (by decide +kernel) (fun t ht hW => ⟨_, rfl, Option.some.inj hf, ht⟩) (fun q h => by cases h) dX5_canBe_182
      · have hf := g_neg c57 hf
        refine lv_iconst (v := (1 : Int32)) hx hb dX5_canBe_177 (by decide) ?_
        refine lv_goto (tgt := 182) hx hb dX5_canBe_178 (by decide) ?_
        rw [hQ]
        exact W.zret (v := (1 : Int32)) hx hb hr (by decide +kernel) (fun t ht hW => ⟨_, rfl, Option.some.inj hf, ht⟩) (fun q h => by cases h) dX5_canBe_182
  · have hf := g_neg c1 hf
    refine lv_iconst (v := (0 : Int32)) hx hb dX5_canBe_6 (by decide) ?_
    rw [hQ]
    exact W.zret (v := (0 : Int32)) hx hb hr (by decide +kernel) (fun t ht hW => ⟨_, rfl, Option.some.inj hf, ht⟩) (fun q h => by cases h) dX5_canBe_7
abbrev rm_X5_firstFault : Room := { frames := 3, cells := 0, slots := 0, locals := 65 }
abbrev w_X5_firstFault (cI cZ cG : ClassId) (o : Nat) (o_bytes : Nat) (v_length : Int32) (f_bytes : Nat → Int32) : va_W := [(o, .inr (5, [.ref o_bytes, .int v_length])), (o_bytes, .inl (cI, 48, .inl f_bytes))]
set_option maxHeartbeats 4000000 in
set_option maxRecDepth 100000 in
theorem c_X5_firstFault (l : Launch) (dC : Nat → ClassId) (dI : Nat → Nat → Nat) (cI cZ cG : ClassId) {N : Nat} (o : Nat) (o_bytes : Nat) (v_length : Int32) (f_bytes : Nat → Int32) {r0 : Int32} (hf : x5_firstFault N v_length f_bytes = some r0) : Met l yX5_firstFault wsX5_firstFault rm_X5_firstFault (va_Pc [.ref o] (gR (dC, dI) vwCl (gT cI cZ cG) (w_X5_firstFault cI cZ cG o o_bytes v_length f_bytes))) (vp_Si (fun r => r = r0)) 0 0 (fun _ => False) := by
  refine Met.ofW (cc := cX5_firstFault) (maxL := 3) (ret := (some .int)) (by decide) rfl ?_
  intro p e s m args below meth c s₁ B hml hv
  obtain ⟨rfl, hv⟩ := hv
  obtain ⟨hP, hK, hN⟩ := hv
  have hx := B.exec
  have hb := B.bytes
  have hr := B.returns
  have hts := atoms_spec (ws := wsX5_firstFault) B.pre
  have hown : s.vm.findClass RX5 = some m.cls := findClass_of_methodNamed B.named
  have hlocks := B.notSynchronized
  have hiX5 : ∀ w ∈ u_ws RX5 TX5 2, w ∈ wsX5_firstFault := fun w h => List.mem_cons_of_mem _ (List.mem_append_right _ h)
  obtain ⟨Q, hQ⟩ : ∃ Q : State → Prop, Q = MQ below (vp_Si (fun r => r = r0)) (([Value.ref o] : List Value).toArray) s 0 0 (fun _ => False) := ⟨_, rfl⟩
  have hl := lv_entry ([.ref o]) (n := 3) (Nat.le_of_ble_eq_true rfl)
  rw [← hQ, lg_entry_eq]
  generalize (lg_sl ([.ref o]) ++ List.replicate (3 - (lg_sl ([.ref o])).length) Slot.unset).toArray = ls at hl ⊢
  have hl : lv_has ls 3 [(0, .ref o)] := hl
  show W p l e rm_X5_firstFault s m (([Value.ref o] : List Value).toArray) below meth c s.heap [] 0 0 Q (F0 m 0 ls [])
  have L4 : ∀ (n4 : Nat), ∀ (x1 : Int32) (x2 : Int32) (ls : Array Slot), x5_firstFault_b4 N v_length f_bytes n4 x1 x2 = some r0 → lv_has ls 3 [(0, .ref o), (1, .int x1), (2, .int x2)] → W p l e rm_X5_firstFault s m (([Value.ref o] : List Value).toArray) below meth c s.heap [] 0 0 Q (F0 m 4 ls []) := by
    intro n4
    induction n4 with
    | zero =>
      intro x1 x2 ls hf hl
      exact g_no hf
    | succ n4 ih4 =>
      intro x1 x2 ls hf hl
      unfold x5_firstFault_b4 at hf
      refine lv_iload_n hx hb dX5_firstFault_4 rfl (lv_at hl 2 rfl) ?_
      refine lv_aload_n hx hb dX5_firstFault_5 rfl (lv_at hl 0 rfl) ?_
      refine va_get (D := (dC, dI)) (ci := 5) (v := .int v_length) (C := RX5) (T := TX5) (N := 2) hx hb hts hiX5 hown hK hP 0 rfl rfl 1 (by decide) (hts (.fieldLink RX5 15 "GreenJars$Text" "length" "I") (by decide +kernel)) (fun _ h9 => h9) rfl dX5_firstFault_6 ?_
      refine lv_icmp_ge (tgt := 47) hx hb dX5_firstFault_9 (by decide) (fun c1 => ?_) (fun c1 => ?_)
      · have hf := g_pos c1 hf
        refine lv_aload_n hx hb dX5_firstFault_47 rfl (lv_at hl 0 rfl) ?_
        refine va_get (D := (dC, dI)) (ci := 5) (v := .int v_length) (C := RX5) (T := TX5) (N := 2) hx hb hts hiX5 hown hK hP 0 rfl rfl 1 (by decide) (hts (.fieldLink RX5 15 "GreenJars$Text" "length" "I") (by decide +kernel)) (fun _ h9 => h9) rfl dX5_firstFault_48 ?_
        refine lv_bipush (v := (6 : Int32)) hx hb dX5_firstFault_51 (by decide +kernel) ?_
        refine lv_irem hx hb dX5_firstFault_53 (by decide) ?_
        refine lv_iconst (v := (1 : Int32)) hx hb dX5_firstFault_54 (by decide) ?_
        refine lv_icmp_ne (tgt := 63) hx hb dX5_firstFault_55 (by decide) (fun c2 => ?_) (fun c2 => ?_)
        · have hf := g_neg c2 hf
          refine lv_aload_n hx hb dX5_firstFault_63 rfl (lv_at hl 0 rfl) ?_
          refine va_get (D := (dC, dI)) (ci := 5) (v := .int v_length) (C := RX5) (T := TX5) (N := 2) hx hb hts hiX5 hown hK hP 0 rfl rfl 1 (by decide) (hts (.fieldLink RX5 15 "GreenJars$Text" "length" "I") (by decide +kernel)) (fun _ h9 => h9) rfl dX5_firstFault_64 ?_
          rw [hQ]
          exact W.iret (v := v_length) hx hb hr (fun t ht hW => ⟨_, rfl, Option.some.inj hf, ht⟩) (fun q h => by cases h) dX5_firstFault_67
        · have hf := g_pos c2 hf
          refine lv_bipush (v := (-9 : Int32)) hx hb dX5_firstFault_58 (by decide +kernel) ?_
          refine lv_goto (tgt := 67) hx hb dX5_firstFault_60 (by decide) ?_
          rw [hQ]
          exact W.iret (v := (-9 : Int32)) hx hb hr (fun t ht hW => ⟨_, rfl, Option.some.inj hf, ht⟩) (fun q h => by cases h) dX5_firstFault_67
      · have hf := g_neg c1 hf
        refine lv_aload_n hx hb dX5_firstFault_12 rfl (lv_at hl 0 rfl) ?_
        refine lv_iload_n hx hb dX5_firstFault_13 rfl (lv_at hl 2 rfl) ?_
        refine lv_iload_n hx hb dX5_firstFault_14 rfl (lv_at hl 1 rfl) ?_
        obtain ⟨r3, hc4, hf⟩ := g_b1 hf
        refine g_rV (As := [.int x2, .int x1]) (rest := []) ⟨hx, hb, hml, hown, hts⟩ (c_X5_canBe l dC dI cI cZ cG o o_bytes  v_length f_bytes x2 x1 hc4) (cwV 2 hts gX5_firstFault_X5_canBe rfl rfl rfl (by decide +kernel) ⟨Nat.le_of_ble_eq_true rfl, Nat.le_of_ble_eq_true rfl⟩) hK hN (hP.sub [0, 1] rfl) (va_recv hK hP (ci := 5) (q0 := 0) rfl rfl) rfl hl.1 rfl (Nat.le_of_ble_eq_true rfl) dX5_firstFault_15 ⟨Nat.zero_le _, Nat.zero_le _⟩ ?_
        refine lv_if_ne (tgt := 23) hx hb dX5_firstFault_18 (by decide) (fun c5 => ?_) (fun c5 => ?_)
        · have hf := g_neg c5 hf
          refine lv_iload_n hx hb dX5_firstFault_23 rfl (lv_at hl 2 rfl) ?_
          obtain ⟨r6, hc7, hf⟩ := g_b1 hf
          refine g_rS (As := [.int x2]) (rest := []) ⟨hx, hb, hml, hown, hts⟩ (c_X5_columnOf l dC dI cI cZ cG    x2 hc7) (va_cwS 1 hts gX5_firstFault_X5_columnOf rfl rfl rfl (by decide +kernel) ⟨Nat.le_of_ble_eq_true rfl, Nat.le_of_ble_eq_true rfl⟩) hK hN (hP.sub [] rfl) rfl hl.1 rfl (Nat.le_of_ble_eq_true rfl) dX5_firstFault_24 ⟨Nat.zero_le _, Nat.zero_le _⟩ ?_
          refine lv_iconst (v := (1 : Int32)) hx hb dX5_firstFault_27 (by decide) ?_
          refine lv_icmp_ne (tgt := 41) hx hb dX5_firstFault_28 (by decide) (fun c8 => ?_) (fun c8 => ?_)
          · have hf := g_neg c8 hf
            refine lv_iinc (v := (x2 + (1 : Int32))) (lv' := [(2, .int (x2 + (1 : Int32))), (0, .ref o), (1, .int x1)]) hx hb dX5_firstFault_41 hl (k := 2) rfl rfl (by decide) rfl (fun ls hl => ?_)
            refine lv_goto (tgt := 4) hx hb dX5_firstFault_44 (by decide) ?_
            exact ih4 x1 (x2 + (1 : Int32)) ls hf (lv_sub hl [1, 2, 0] rfl)
          · have hf := g_pos c8 hf
            refine lv_iload_n hx hb dX5_firstFault_31 rfl (lv_at hl 1 rfl) ?_
            refine lv_iconst (v := (1 : Int32)) hx hb dX5_firstFault_32 (by decide) ?_
            refine lv_aload_n hx hb dX5_firstFault_33 rfl (lv_at hl 0 rfl) ?_
            refine lv_iload_n hx hb dX5_firstFault_34 rfl (lv_at hl 2 rfl) ?_
            obtain ⟨r9, hc10, hf⟩ := g_b1 hf
            refine g_rV (As := [.int x2]) (rest := [.int (1 : Int32), .int x1]) ⟨hx, hb, hml, hown, hts⟩ (c_X5_figure l dC dI cI cZ cG o o_bytes  v_length f_bytes x2 hc10) (cwV 1 hts gX5_firstFault_X5_figure rfl rfl rfl (by decide +kernel) ⟨Nat.le_of_ble_eq_true rfl, Nat.le_of_ble_eq_true rfl⟩) hK hN (hP.sub [0, 1] rfl) (va_recv hK hP (ci := 5) (q0 := 0) rfl rfl) rfl hl.1 rfl (Nat.le_of_ble_eq_true rfl) dX5_firstFault_35 ⟨Nat.zero_le _, Nat.zero_le _⟩ ?_
            refine lv_ishl hx hb dX5_firstFault_38 ?_
            refine lv_ior hx hb dX5_firstFault_39 ?_
            refine lv_istore_n (lv' := [(1, .int (x1 ||| ((1 : Int32) <<< (r9 &&& 31)))), (0, .ref o), (2, .int x2)]) hx hb dX5_firstFault_40 rfl hl (by decide) rfl (fun ls hl => ?_)
            refine lv_iinc (v := (x2 + (1 : Int32))) (lv' := [(2, .int (x2 + (1 : Int32))), (1, .int (x1 ||| ((1 : Int32) <<< (r9 &&& 31)))), (0, .ref o)]) hx hb dX5_firstFault_41 hl (k := 2) rfl rfl (by decide) rfl (fun ls hl => ?_)
            refine lv_goto (tgt := 4) hx hb dX5_firstFault_44 (by decide) ?_
            exact ih4 (x1 ||| ((1 : Int32) <<< (r9 &&& 31))) (x2 + (1 : Int32)) ls hf (lv_sub hl [2, 1, 0] rfl)
        · have hf := g_pos c5 hf
          refine lv_iload_n hx hb dX5_firstFault_21 rfl (lv_at hl 2 rfl) ?_
          rw [hQ]
          exact W.iret (v := x2) hx hb hr (fun t ht hW => ⟨_, rfl, Option.some.inj hf, ht⟩) (fun q h => by cases h) dX5_firstFault_22
  unfold x5_firstFault at hf
  refine lv_iconst (v := (0 : Int32)) hx hb dX5_firstFault_0 (by decide) ?_
  refine lv_istore_n (lv' := [(1, .int (0 : Int32)), (0, .ref o)]) hx hb dX5_firstFault_1 rfl hl (by decide) rfl (fun ls hl => ?_)
  refine lv_iconst (v := (0 : Int32)) hx hb dX5_firstFault_2 (by decide) ?_
  refine lv_istore_n (lv' := [(2, .int (0 : Int32)), (1, .int (0 : Int32)), (0, .ref o)]) hx hb dX5_firstFault_3 rfl hl (by decide) rfl (fun ls hl => ?_)
  exact L4 N (0 : Int32) (0 : Int32) ls hf (lv_sub hl [2, 1, 0] rfl)
abbrev rm_X5_fillShelf : Room := { frames := 2, cells := 0, slots := 0, locals := 48 }
abbrev w_X5_fillShelf (cI cZ cG : ClassId) (o : Nat) (o_bytes : Nat) (q1 : Nat) (q1_cells : Nat) (q1_standing : Nat) (v_length : Int32) (f_bytes : Nat → Int32) (v_q1_jars : Int32) (v_q1_weeks : Int32) (f_q1_cells : Nat → Int32) : va_W := [(o, .inr (5, [.ref o_bytes, .int v_length])), (o_bytes, .inl (cI, 48, .inl f_bytes)), (q1, .inr (2, [.ref q1_cells, .ref q1_standing, .int v_q1_jars, .int v_q1_weeks])), (q1_cells, .inl (cI, 48, .inl f_q1_cells))]
set_option maxHeartbeats 4000000 in
set_option maxRecDepth 100000 in
theorem c_X5_fillShelf (l : Launch) (dC : Nat → ClassId) (dI : Nat → Nat → Nat) (cI cZ cG : ClassId) {N : Nat} (o : Nat) (o_bytes : Nat) (q1 : Nat) (q1_cells : Nat) (q1_standing : Nat) (sz : Nat) (v_length : Int32) (f_bytes : Nat → Int32) (v_q1_jars : Int32) (v_q1_weeks : Int32) (f_q1_cells : Nat → Int32) {n_q1_jars : Int32} {n_q1_weeks : Int32} {n_q1_cells : Nat → Int32} (hf : x5_fillShelf N v_length f_bytes v_q1_jars v_q1_weeks f_q1_cells = some (n_q1_jars, n_q1_weeks, n_q1_cells)) : Met l yX5_fillShelf wsX5_fillShelf rm_X5_fillShelf (va_Pc [.ref o, .ref q1] (gW (dC, dI) vwCl (gT cI cZ cG) (w_X5_fillShelf cI cZ cG o o_bytes q1 q1_cells q1_standing v_length f_bytes v_q1_jars v_q1_weeks f_q1_cells) sz)) (va_Qv (fun _ => True) (gE (dC, dI) vwCl (gT cI cZ cG) (w_X5_fillShelf cI cZ cG o o_bytes q1 q1_cells q1_standing v_length f_bytes n_q1_jars n_q1_weeks n_q1_cells) (va_A (w_X5_fillShelf cI cZ cG o o_bytes q1 q1_cells q1_standing v_length f_bytes v_q1_jars v_q1_weeks f_q1_cells) sz)) (va_A (w_X5_fillShelf cI cZ cG o o_bytes q1 q1_cells q1_standing v_length f_bytes v_q1_jars v_q1_weeks f_q1_cells) sz)) 0 0 (va_A (w_X5_fillShelf cI cZ cG o o_bytes q1 q1_cells q1_standing v_length f_bytes v_q1_jars v_q1_weeks f_q1_cells) sz) := by
  refine Met.ofW (cc := cX5_fillShelf) (maxL := 3) (ret := none) (by decide) rfl ?_
  intro p e s m args below meth c s₁ B hml hv
  obtain ⟨rfl, hv⟩ := hv
  obtain ⟨hsz, hP, hK, hN, hD0⟩ := hv
  have hx := B.exec
  have hb := B.bytes
  have hr := B.returns
  have hts := atoms_spec (ws := wsX5_fillShelf) B.pre
  have hown : s.vm.findClass RX5 = some m.cls := findClass_of_methodNamed B.named
  have hlocks := B.notSynchronized
  have hiX2 : ∀ w ∈ u_ws RX2 TX2 4, w ∈ wsX5_fillShelf := fun w h => List.mem_cons_of_mem _ (List.mem_append_right _ h)
  have hiX5 : ∀ w ∈ u_ws RX5 TX5 2, w ∈ wsX5_fillShelf := fun w h => List.mem_cons_of_mem _ (List.mem_append_left _ (List.mem_append_right _ h))
  subst hsz
  have hD := hD0.self (sz := s.heap.size)
  generalize hAe : va_A (w_X5_fillShelf cI cZ cG o o_bytes q1 q1_cells q1_standing v_length f_bytes v_q1_jars v_q1_weeks f_q1_cells) s.heap.size = A at hD ⊢
  have hA : ∀ q : Nat, s.heap.size ≤ q → A q := fun q h => by rw [← hAe]; exact Or.inr h
  clear hD0
  have hS : va_S A s.heap s.heap [] := va_S.rf
  have hP : va_P (dC, dI) vwCl (w_X5_fillShelf cI cZ cG o o_bytes q1 q1_cells q1_standing v_length f_bytes v_q1_jars v_q1_weeks f_q1_cells) s.heap := hP
  obtain ⟨Q, hQ⟩ : ∃ Q : State → Prop, Q = MQ below (va_Qv (fun _ => True) (gE (dC, dI) vwCl (gT cI cZ cG) (w_X5_fillShelf cI cZ cG o o_bytes q1 q1_cells q1_standing v_length f_bytes n_q1_jars n_q1_weeks n_q1_cells) A) A) (([Value.ref o, Value.ref q1] : List Value).toArray) s 0 0 A := ⟨_, rfl⟩
  have hl := lv_entry ([.ref o, .ref q1]) (n := 3) (Nat.le_of_ble_eq_true rfl)
  rw [← hQ, lg_entry_eq]
  generalize (lg_sl ([.ref o, .ref q1]) ++ List.replicate (3 - (lg_sl ([.ref o, .ref q1])).length) Slot.unset).toArray = ls at hl ⊢
  have hl : lv_has ls 3 [(0, .ref o), (1, .ref q1)] := hl
  generalize hH : s.heap = H at hP hS ⊢
  have hS : va_S A s.heap H [] := by rw [hH]; exact hS
  generalize hlc : ([] : List Loc) = locs at hS ⊢
  show W p l e rm_X5_fillShelf s m (([Value.ref o, Value.ref q1] : List Value).toArray) below meth c H locs 0 0 Q (F0 m 0 ls [])
  have L6 : ∀ (n6 : Nat), ∀ (x2 : Int32) (y_q1_jars : Int32) (y_q1_weeks : Int32) (y_q1_cells : Nat → Int32) (H : Heap) (locs : List Loc) (ls : Array Slot), x5_fillShelf_b6 N v_length f_bytes n6 x2 y_q1_jars y_q1_weeks y_q1_cells = some (n_q1_jars, n_q1_weeks, n_q1_cells) → lv_has ls 3 [(0, .ref o), (1, .ref q1), (2, .int x2)] → va_P (dC, dI) vwCl (w_X5_fillShelf cI cZ cG o o_bytes q1 q1_cells q1_standing v_length f_bytes y_q1_jars y_q1_weeks y_q1_cells) H → va_D A (w_X5_fillShelf cI cZ cG o o_bytes q1 q1_cells q1_standing v_length f_bytes y_q1_jars y_q1_weeks y_q1_cells) → va_S A s.heap H locs → W p l e rm_X5_fillShelf s m (([Value.ref o, Value.ref q1] : List Value).toArray) below meth c H locs 0 0 Q (F0 m 6 ls []) := by
    intro n6
    induction n6 with
    | zero =>
      intro x2 y_q1_jars y_q1_weeks y_q1_cells H locs ls hf hl hP hD hS
      exact g_no hf
    | succ n6 ih6 =>
      intro x2 y_q1_jars y_q1_weeks y_q1_cells H locs ls hf hl hP hD hS
      unfold x5_fillShelf_b6 at hf
      refine lv_iload_n hx hb dX5_fillShelf_6 rfl (lv_at hl 2 rfl) ?_
      refine lv_bipush (v := (6 : Int32)) hx hb dX5_fillShelf_7 (by decide +kernel) ?_
      refine lv_iadd hx hb dX5_fillShelf_9 ?_
      refine lv_aload_n hx hb dX5_fillShelf_10 rfl (lv_at hl 0 rfl) ?_
      refine va_get (D := (dC, dI)) (ci := 5) (v := .int v_length) (C := RX5) (T := TX5) (N := 2) hx hb hts hiX5 hown hK hP 0 rfl rfl 1 (by decide) (hts (.fieldLink RX5 15 "GreenJars$Text" "length" "I") (by decide +kernel)) (fun _ h9 => h9) rfl dX5_fillShelf_11 ?_
      refine lv_icmp_gt (tgt := 62) hx hb dX5_fillShelf_14 (by decide) (fun c1 => ?_) (fun c1 => ?_)
      · have hf := g_pos c1 hf
        rw [hQ]
        cases hf
        exact W.vret hx hb hr (fun t ht hW => ⟨⟨(), rfl, trivial, by rw [ht]; exact hP, va_K.moved hW.alike hK, hD⟩, hS.F ht⟩) hS.2.2 dX5_fillShelf_62
      · have hf := g_neg c1 hf
        refine lv_aload_n hx hb dX5_fillShelf_17 rfl (lv_at hl 1 rfl) ?_
        refine lv_aload_n hx hb dX5_fillShelf_18 rfl (lv_at hl 0 rfl) ?_
        refine lv_iload_n hx hb dX5_fillShelf_19 rfl (lv_at hl 2 rfl) ?_
        refine lv_iconst (v := (1 : Int32)) hx hb dX5_fillShelf_20 (by decide) ?_
        refine lv_iadd hx hb dX5_fillShelf_21 ?_
        obtain ⟨r2, hc3, hf⟩ := g_b1 hf
        refine g_rV (As := [.int (x2 + (1 : Int32))]) (rest := [.ref q1]) ⟨hx, hb, hml, hown, hts⟩ (c_X5_figure l dC dI cI cZ cG o o_bytes  v_length f_bytes (x2 + (1 : Int32)) hc3) (cwV 1 hts gX5_fillShelf_X5_figure rfl rfl rfl (by decide +kernel) ⟨Nat.le_of_ble_eq_true rfl, Nat.le_of_ble_eq_true rfl⟩) hK hN (hP.sub [0, 1] rfl) (va_recv hK hP (ci := 5) (q0 := 0) rfl rfl) rfl hl.1 rfl (Nat.le_of_ble_eq_true rfl) dX5_fillShelf_22 ⟨Nat.zero_le _, Nat.zero_le _⟩ ?_
        refine lv_aload_n hx hb dX5_fillShelf_25 rfl (lv_at hl 0 rfl) ?_
        refine lv_iload_n hx hb dX5_fillShelf_26 rfl (lv_at hl 2 rfl) ?_
        refine lv_iconst (v := (2 : Int32)) hx hb dX5_fillShelf_27 (by decide) ?_
        refine lv_iadd hx hb dX5_fillShelf_28 ?_
        obtain ⟨r4, hc5, hf⟩ := g_b1 hf
        refine g_rV (As := [.int (x2 + (2 : Int32))]) (rest := [.int r2, .ref q1]) ⟨hx, hb, hml, hown, hts⟩ (c_X5_figure l dC dI cI cZ cG o o_bytes  v_length f_bytes (x2 + (2 : Int32)) hc5) (cwV 1 hts gX5_fillShelf_X5_figure rfl rfl rfl (by decide +kernel) ⟨Nat.le_of_ble_eq_true rfl, Nat.le_of_ble_eq_true rfl⟩) hK hN (hP.sub [0, 1] rfl) (va_recv hK hP (ci := 5) (q0 := 0) rfl rfl) rfl hl.1 rfl (Nat.le_of_ble_eq_true rfl) dX5_fillShelf_29 ⟨Nat.zero_le _, Nat.zero_le _⟩ ?_
        refine lv_aload_n hx hb dX5_fillShelf_32 rfl (lv_at hl 0 rfl) ?_
        refine lv_iload_n hx hb dX5_fillShelf_33 rfl (lv_at hl 2 rfl) ?_
        refine lv_iconst (v := (3 : Int32)) hx hb dX5_fillShelf_34 (by decide) ?_
        refine lv_iadd hx hb dX5_fillShelf_35 ?_
        obtain ⟨r6, hc7, hf⟩ := g_b1 hf
        refine g_rV (As := [.int (x2 + (3 : Int32))]) (rest := [.int r4, .int r2, .ref q1]) ⟨hx, hb, hml, hown, hts⟩ (c_X5_figure l dC dI cI cZ cG o o_bytes  v_length f_bytes (x2 + (3 : Int32)) hc7) (cwV 1 hts gX5_fillShelf_X5_figure rfl rfl rfl (by decide +kernel) ⟨Nat.le_of_ble_eq_true rfl, Nat.le_of_ble_eq_true rfl⟩) hK hN (hP.sub [0, 1] rfl) (va_recv hK hP (ci := 5) (q0 := 0) rfl rfl) rfl hl.1 rfl (Nat.le_of_ble_eq_true rfl) dX5_fillShelf_36 ⟨Nat.zero_le _, Nat.zero_le _⟩ ?_
        refine lv_aload_n hx hb dX5_fillShelf_39 rfl (lv_at hl 0 rfl) ?_
        refine lv_iload_n hx hb dX5_fillShelf_40 rfl (lv_at hl 2 rfl) ?_
        refine lv_iconst (v := (4 : Int32)) hx hb dX5_fillShelf_41 (by decide) ?_
        refine lv_iadd hx hb dX5_fillShelf_42 ?_
        obtain ⟨r8, hc9, hf⟩ := g_b1 hf
        refine g_rV (As := [.int (x2 + (4 : Int32))]) (rest := [.int r6, .int r4, .int r2, .ref q1]) ⟨hx, hb, hml, hown, hts⟩ (c_X5_figure l dC dI cI cZ cG o o_bytes  v_length f_bytes (x2 + (4 : Int32)) hc9) (cwV 1 hts gX5_fillShelf_X5_figure rfl rfl rfl (by decide +kernel) ⟨Nat.le_of_ble_eq_true rfl, Nat.le_of_ble_eq_true rfl⟩) hK hN (hP.sub [0, 1] rfl) (va_recv hK hP (ci := 5) (q0 := 0) rfl rfl) rfl hl.1 rfl (Nat.le_of_ble_eq_true rfl) dX5_fillShelf_43 ⟨Nat.zero_le _, Nat.zero_le _⟩ ?_
        refine lv_aload_n hx hb dX5_fillShelf_46 rfl (lv_at hl 0 rfl) ?_
        refine lv_iload_n hx hb dX5_fillShelf_47 rfl (lv_at hl 2 rfl) ?_
        refine lv_iconst (v := (5 : Int32)) hx hb dX5_fillShelf_48 (by decide) ?_
        refine lv_iadd hx hb dX5_fillShelf_49 ?_
        obtain ⟨r10, hc11, hf⟩ := g_b1 hf
        refine g_rV (As := [.int (x2 + (5 : Int32))]) (rest := [.int r8, .int r6, .int r4, .int r2, .ref q1]) ⟨hx, hb, hml, hown, hts⟩ (c_X5_figure l dC dI cI cZ cG o o_bytes  v_length f_bytes (x2 + (5 : Int32)) hc11) (cwV 1 hts gX5_fillShelf_X5_figure rfl rfl rfl (by decide +kernel) ⟨Nat.le_of_ble_eq_true rfl, Nat.le_of_ble_eq_true rfl⟩) hK hN (hP.sub [0, 1] rfl) (va_recv hK hP (ci := 5) (q0 := 0) rfl rfl) rfl hl.1 rfl (Nat.le_of_ble_eq_true rfl) dX5_fillShelf_50 ⟨Nat.zero_le _, Nat.zero_le _⟩ ?_
        obtain ⟨y12, y13, hc14, hf⟩ := g_b2 hf
        refine g_wVv (As := [.int r2, .int r4, .int r6, .int r8, .int r10]) (rest := []) (wr := [(o, .inr (5, [.ref o_bytes, .int v_length])), (o_bytes, .inl (cI, 48, .inl f_bytes))]) (wn := (w_X5_fillShelf cI cZ cG o o_bytes q1 q1_cells q1_standing v_length f_bytes y12 y_q1_weeks y13)) ⟨hx, hb, hml, hown, hts⟩ (c_X2_add l dC dI cI cZ cG q1 q1_cells q1_standing H.size  y_q1_jars y_q1_weeks y_q1_cells r2 r4 r6 r8 r10 hc14) (cwV 5 hts gX5_fillShelf_X2_add rfl rfl rfl (by decide +kernel) ⟨Nat.le_of_ble_eq_true rfl, Nat.le_of_ble_eq_true rfl⟩) hK hN hP hD hS hA [2, 3] [0, 1] [0, 1, 2, 3] rfl rfl (by decide) rfl (by decide) (by decide) rfl (by decide) (va_recv hK hP (ci := 2) (q0 := 2) rfl rfl) rfl hl.1 rfl (Nat.le_of_ble_eq_true rfl) dX5_fillShelf_53 ⟨Nat.zero_le _, Nat.zero_le _⟩ (fun H locs hP hD hS => ?_)
        refine lv_iinc (v := (x2 + (6 : Int32))) (lv' := [(2, .int (x2 + (6 : Int32))), (0, .ref o), (1, .ref q1)]) hx hb dX5_fillShelf_56 hl (k := 2) rfl rfl (by decide) rfl (fun ls hl => ?_)
        refine lv_goto (tgt := 6) hx hb dX5_fillShelf_59 (by decide) ?_
        exact ih6 (x2 + (6 : Int32)) y12 y_q1_weeks y13 H locs ls hf (lv_sub hl [1, 2, 0] rfl) hP hD hS
  unfold x5_fillShelf at hf
  refine lv_aload_n hx hb dX5_fillShelf_0 rfl (lv_at hl 1 rfl) ?_
  obtain ⟨y15, y16, hc17, hf⟩ := g_b2 hf
  refine g_wVv (As := []) (rest := []) (wr := [(o, .inr (5, [.ref o_bytes, .int v_length])), (o_bytes, .inl (cI, 48, .inl f_bytes)), (q1_cells, .inl (cI, 48, .inl f_q1_cells))]) (wn := (w_X5_fillShelf cI cZ cG o o_bytes q1 q1_cells q1_standing v_length f_bytes y15 y16 f_q1_cells)) ⟨hx, hb, hml, hown, hts⟩ (c_X2_clear l dC dI cI cZ cG q1 q1_cells q1_standing H.size  v_q1_jars v_q1_weeks hc17) (cwV 0 hts gX5_fillShelf_X2_clear rfl rfl rfl (by decide +kernel) ⟨Nat.le_of_ble_eq_true rfl, Nat.le_of_ble_eq_true rfl⟩) hK hN hP hD hS hA [2] [0, 1, 3] [0, 1, 3, 2] rfl rfl (by decide) rfl (by decide) (by decide) rfl (by decide) (va_recv hK hP (ci := 2) (q0 := 2) rfl rfl) rfl hl.1 rfl (Nat.le_of_ble_eq_true rfl) dX5_fillShelf_1 ⟨Nat.zero_le _, Nat.zero_le _⟩ (fun H locs hP hD hS => ?_)
  refine lv_iconst (v := (1 : Int32)) hx hb dX5_fillShelf_4 (by decide) ?_
  refine lv_istore_n (lv' := [(2, .int (1 : Int32)), (0, .ref o), (1, .ref q1)]) hx hb dX5_fillShelf_5 rfl hl (by decide) rfl (fun ls hl => ?_)
  exact L6 N (1 : Int32) y15 y16 f_q1_cells H locs ls hf (lv_sub hl [1, 2, 0] rfl) hP hD hS
