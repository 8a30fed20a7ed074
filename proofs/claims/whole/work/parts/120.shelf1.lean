abbrev rm_X2_pairs : Room := { frames := 3, cells := 0, slots := 0, locals := 68 }
abbrev w_X2_pairs (cI cZ cG : ClassId) (o : Nat) (o_cells : Nat) (o_standing : Nat) (v_jars : Int32) (v_weeks : Int32) (f_cells : Nat → Int32) (f_standing : Nat → Int32) : va_W := [(o, .inr (2, [.ref o_cells, .ref o_standing, .int v_jars, .int v_weeks])), (o_cells, .inl (cI, 48, .inl f_cells)), (o_standing, .inl (cI, 8, .inl f_standing))]
set_option maxHeartbeats 4000000 in
set_option maxRecDepth 100000 in
theorem c_X2_pairs (l : Launch) (dC : Nat → ClassId) (dI : Nat → Nat → Nat) (cI cZ cG : ClassId) {N : Nat} (o : Nat) (o_cells : Nat) (o_standing : Nat) (sz : Nat) (v_jars : Int32) (v_weeks : Int32) (f_cells : Nat → Int32) (f_standing : Nat → Int32) {r0 : Int32} {n_standing : Nat → Int32} (hf : x2_pairs N v_jars f_cells f_standing = some (r0, n_standing)) : Met l yX2_pairs wsX2_pairs rm_X2_pairs (va_Pc [.ref o] (gW (dC, dI) vwCl (gT cI cZ cG) (w_X2_pairs cI cZ cG o o_cells o_standing v_jars v_weeks f_cells f_standing) sz)) (va_Qi (fun r _ => r = r0) (gE (dC, dI) vwCl (gT cI cZ cG) (w_X2_pairs cI cZ cG o o_cells o_standing v_jars v_weeks f_cells n_standing) (va_A (w_X2_pairs cI cZ cG o o_cells o_standing v_jars v_weeks f_cells f_standing) sz)) (va_A (w_X2_pairs cI cZ cG o o_cells o_standing v_jars v_weeks f_cells f_standing) sz)) 0 0 (va_A (w_X2_pairs cI cZ cG o o_cells o_standing v_jars v_weeks f_cells f_standing) sz) := by
  refine Met.ofW (cc := cX2_pairs) (maxL := 5) (ret := (some .int)) (by decide) rfl ?_
  intro p e s m args below meth c s₁ B hml hv
  obtain ⟨rfl, hv⟩ := hv
  obtain ⟨hsz, hP, hK, hN, hD0⟩ := hv
  have hx := B.exec
  have hb := B.bytes
  have hr := B.returns
  have hts := atoms_spec (ws := wsX2_pairs) B.pre
  have hown : s.vm.findClass RX2 = some m.cls := findClass_of_methodNamed B.named
  have hlocks := B.notSynchronized
  have hiX2 : ∀ w ∈ u_ws RX2 TX2 4, w ∈ wsX2_pairs := fun w h => List.mem_cons_of_mem _ (List.mem_append_right _ h)
  subst hsz
  have hD := hD0.self (sz := s.heap.size)
  generalize hAe : va_A (w_X2_pairs cI cZ cG o o_cells o_standing v_jars v_weeks f_cells f_standing) s.heap.size = A at hD ⊢
  have hA : ∀ q : Nat, s.heap.size ≤ q → A q := fun q h => by rw [← hAe]; exact Or.inr h
  clear hD0
  have hS : va_S A s.heap s.heap [] := va_S.rf
  have hP : va_P (dC, dI) vwCl (w_X2_pairs cI cZ cG o o_cells o_standing v_jars v_weeks f_cells f_standing) s.heap := hP
  obtain ⟨Q, hQ⟩ : ∃ Q : State → Prop, Q = MQ below (va_Qi (fun r _ => r = r0) (gE (dC, dI) vwCl (gT cI cZ cG) (w_X2_pairs cI cZ cG o o_cells o_standing v_jars v_weeks f_cells n_standing) A) A) (([Value.ref o] : List Value).toArray) s 0 0 A := ⟨_, rfl⟩
  have hl := lv_entry ([.ref o]) (n := 5) (Nat.le_of_ble_eq_true rfl)
  rw [← hQ, lg_entry_eq]
  generalize (lg_sl ([.ref o]) ++ List.replicate (5 - (lg_sl ([.ref o])).length) Slot.unset).toArray = ls at hl ⊢
  have hl : lv_has ls 5 [(0, .ref o)] := hl
  generalize hH : s.heap = H at hP hS ⊢
  have hS : va_S A s.heap H [] := by rw [hH]; exact hS
  generalize hlc : ([] : List Loc) = locs at hS ⊢
  show W p l e rm_X2_pairs s m (([Value.ref o] : List Value).toArray) below meth c H locs 0 0 Q (F0 m 0 ls [])
  have L11 : ∀ (n11 : Nat), ∀ (x1 : Int32) (x2 : Int32) (x3 : Int32) (y_standing : Nat → Int32) (H : Heap) (locs : List Loc) (ls : Array Slot), x2_pairs_b11 N v_jars f_cells n11 x1 x2 x3 y_standing = some (r0, n_standing) → lv_has ls 5 [(0, .ref o), (1, .int x1), (2, .int x2), (3, .int x3)] → va_P (dC, dI) vwCl (w_X2_pairs cI cZ cG o o_cells o_standing v_jars v_weeks f_cells y_standing) H → va_D A (w_X2_pairs cI cZ cG o o_cells o_standing v_jars v_weeks f_cells y_standing) → va_S A s.heap H locs → W p l e rm_X2_pairs s m (([Value.ref o] : List Value).toArray) below meth c H locs 0 0 Q (F0 m 11 ls []) := by
    intro n11
    induction n11 with
    | zero =>
      intro x1 x2 x3 y_standing H locs ls hf hl hP hD hS
      exact g_no hf
    | succ n11 ih11 =>
      have J54 : ∀ (x3 : Int32) (x4 : Int32) (t0 : Int32) (t1 : Int32) (y_standing : Nat → Int32) (H : Heap) (locs : List Loc) (ls : Array Slot), x2_pairs_b54 N v_jars f_cells (x2_pairs_b11 N v_jars f_cells n11) x3 x4 t0 t1 y_standing = some (r0, n_standing) → lv_has ls 5 [(0, .ref o), (3, .int x3), (4, .int x4)] → va_P (dC, dI) vwCl (w_X2_pairs cI cZ cG o o_cells o_standing v_jars v_weeks f_cells y_standing) H → va_D A (w_X2_pairs cI cZ cG o o_cells o_standing v_jars v_weeks f_cells y_standing) → va_S A s.heap H locs → W p l e rm_X2_pairs s m (([Value.ref o] : List Value).toArray) below meth c H locs 0 0 Q (F0 m 54 ls [.int t1, .int t0]) := by
        intro x3 x4 t0 t1 y_standing H locs ls hf hl hP hD hS
        unfold x2_pairs_b54 at hf
        refine lv_iadd hx hb dX2_pairs_54 ?_
        refine lv_istore_n (lv' := [(1, .int (t0 + t1)), (0, .ref o), (3, .int x3), (4, .int x4)]) hx hb dX2_pairs_55 rfl hl (by decide) rfl (fun ls hl => ?_)
        refine lv_iload hx hb dX2_pairs_56 (lv_at hl 3 rfl) ?_
        refine lv_istore_n (lv' := [(2, .int x4), (1, .int (t0 + t1)), (0, .ref o), (3, .int x3), (4, .int x4)]) hx hb dX2_pairs_58 rfl hl (by decide) rfl (fun ls hl => ?_)
        refine lv_iinc (v := (x3 + (1 : Int32))) (lv' := [(3, .int (x3 + (1 : Int32))), (2, .int x4), (1, .int (t0 + t1)), (0, .ref o), (4, .int x4)]) hx hb dX2_pairs_59 hl (k := 3) rfl rfl (by decide) rfl (fun ls hl => ?_)
        refine lv_goto (tgt := 11) hx hb dX2_pairs_62 (by decide) ?_
        exact ih11 (t0 + t1) x4 (x3 + (1 : Int32)) y_standing H locs ls hf (lv_sub hl [3, 2, 1, 0] rfl) hP hD hS
      have J53 : ∀ (x3 : Int32) (x4 : Int32) (t0 : Int32) (y_standing : Nat → Int32) (H : Heap) (locs : List Loc) (ls : Array Slot), x2_pairs_b53 N v_jars f_cells (x2_pairs_b11 N v_jars f_cells n11) x3 x4 t0 y_standing = some (r0, n_standing) → lv_has ls 5 [(0, .ref o), (3, .int x3), (4, .int x4)] → va_P (dC, dI) vwCl (w_X2_pairs cI cZ cG o o_cells o_standing v_jars v_weeks f_cells y_standing) H → va_D A (w_X2_pairs cI cZ cG o o_cells o_standing v_jars v_weeks f_cells y_standing) → va_S A s.heap H locs → W p l e rm_X2_pairs s m (([Value.ref o] : List Value).toArray) below meth c H locs 0 0 Q (F0 m 53 ls [.int t0]) := by
        intro x3 x4 t0 y_standing H locs ls hf hl hP hD hS
        unfold x2_pairs_b53 at hf
        refine lv_iconst (v := (0 : Int32)) hx hb dX2_pairs_53 (by decide) ?_
        exact J54 x3 x4 t0 (0 : Int32) y_standing H locs ls hf (lv_sub hl [0, 1, 2] rfl) hP hD hS
      intro x1 x2 x3 y_standing H locs ls hf hl hP hD hS
      unfold x2_pairs_b11 at hf
      refine lv_iload_n hx hb dX2_pairs_11 rfl (lv_at hl 3 rfl) ?_
      refine lv_bipush (v := (8 : Int32)) hx hb dX2_pairs_12 (by decide +kernel) ?_
      refine lv_icmp_ge (tgt := 65) hx hb dX2_pairs_14 (by decide) (fun c1 => ?_) (fun c1 => ?_)
      · have hf := g_pos c1 hf
        refine lv_iload_n hx hb dX2_pairs_65 rfl (lv_at hl 1 rfl) ?_
        rw [hQ]
        cases hf
        exact W.iret hx hb hr (fun t ht hW => ⟨⟨_, (), rfl, rfl, by rw [ht]; exact hP, va_K.moved hW.alike hK, hD⟩, hS.F ht⟩) hS.2.2 dX2_pairs_66
      · have hf := g_neg c1 hf
        refine lv_aload_n hx hb dX2_pairs_17 rfl (lv_at hl 0 rfl) ?_
        refine va_get (D := (dC, dI)) (ci := 2) (v := .ref o_standing) (C := RX2) (T := TX2) (N := 4) hx hb hts hiX2 hown hK hP 0 rfl rfl 1 (by decide) (hts (.fieldLink RX2 15 "GreenJars$Shelf" "standing" "[I") (by decide +kernel)) (fun _ h9 => h9) rfl dX2_pairs_18 ?_
        refine lv_iload_n hx hb dX2_pairs_21 rfl (lv_at hl 3 rfl) ?_
        obtain ⟨h2, hf⟩ := g_chk hf
        refine va_iald hx hb hK hP 2 0 rfl rfl (gIn_vp h2) dX2_pairs_22 ?_
        refine lv_istore (lv' := [(4, .int (y_standing x3.toNatClampNeg)), (0, .ref o), (1, .int x1), (2, .int x2), (3, .int x3)]) hx hb dX2_pairs_23 hl (by decide) rfl (fun ls hl => ?_)
        refine lv_iload hx hb dX2_pairs_25 (lv_at hl 0 rfl) ?_
        refine lv_bipush (v := (-9 : Int32)) hx hb dX2_pairs_27 (by decide +kernel) ?_
        refine lv_icmp_eq (tgt := 59) hx hb dX2_pairs_29 (by decide) (fun c3 => ?_) (fun c3 => ?_)
        · have hf := g_pos c3 hf
          refine lv_iinc (v := (x3 + (1 : Int32))) (lv' := [(3, .int (x3 + (1 : Int32))), (4, .int (y_standing x3.toNatClampNeg)), (0, .ref o), (1, .int x1), (2, .int x2)]) hx hb dX2_pairs_59 hl (k := 4) rfl rfl (by decide) rfl (fun ls hl => ?_)
          refine lv_goto (tgt := 11) hx hb dX2_pairs_62 (by decide) ?_
          exact ih11 x1 x2 (x3 + (1 : Int32)) y_standing H locs ls hf (lv_sub hl [2, 3, 4, 0] rfl) hP hD hS
        · have hf := g_neg c3 hf
          refine lv_iload_n hx hb dX2_pairs_32 rfl (lv_at hl 2 rfl) ?_
          refine lv_iload_n hx hb dX2_pairs_33 rfl (lv_at hl 3 rfl) ?_
          refine lv_bipush (v := (-9 : Int32)) hx hb dX2_pairs_34 (by decide +kernel) ?_
          refine lv_icmp_eq (tgt := 53) hx hb dX2_pairs_36 (by decide) (fun c4 => ?_) (fun c4 => ?_)
          · have hf := g_pos c4 hf
            exact J53 x3 (y_standing x3.toNatClampNeg) x1 y_standing H locs ls hf (lv_sub hl [1, 4, 0] rfl) hP hD hS
          · have hf := g_neg c4 hf
            refine lv_aload_n hx hb dX2_pairs_39 rfl (lv_at hl 1 rfl) ?_
            refine lv_iload_n hx hb dX2_pairs_40 rfl (lv_at hl 3 rfl) ?_
            refine lv_iload hx hb dX2_pairs_41 (lv_at hl 0 rfl) ?_
            obtain ⟨r5, hc6, hf⟩ := g_b1 hf
            refine g_rV (As := [.int x2, .int (y_standing x3.toNatClampNeg)]) (rest := [.int x1]) ⟨hx, hb, hml, hown, hts⟩ (c_X2_areFacing l dC dI cI cZ cG o o_cells o_standing  v_jars v_weeks f_cells x2 (y_standing x3.toNatClampNeg) hc6) (cwV 2 hts gX2_pairs_X2_areFacing rfl rfl rfl (by decide +kernel) ⟨Nat.le_of_ble_eq_true rfl, Nat.le_of_ble_eq_true rfl⟩) hK hN (hP.sub [0, 1] rfl) (va_recv hK hP (ci := 2) (q0 := 0) rfl rfl) rfl hl.1 rfl (Nat.le_of_ble_eq_true rfl) dX2_pairs_43 ⟨Nat.zero_le _, Nat.zero_le _⟩ ?_
            refine lv_if_eq (tgt := 53) hx hb dX2_pairs_46 (by decide) (fun c7 => ?_) (fun c7 => ?_)
            · have hf := g_pos c7 hf
              exact J53 x3 (y_standing x3.toNatClampNeg) x1 y_standing H locs ls hf (lv_sub hl [1, 4, 0] rfl) hP hD hS
            · have hf := g_neg c7 hf
              refine lv_iconst (v := (1 : Int32)) hx hb dX2_pairs_49 (by decide) ?_
              refine lv_goto (tgt := 54) hx hb dX2_pairs_50 (by decide) ?_
              exact J54 x3 (y_standing x3.toNatClampNeg) x1 (1 : Int32) y_standing H locs ls hf (lv_sub hl [1, 4, 0] rfl) hP hD hS
  unfold x2_pairs at hf
  refine lv_aload_n hx hb dX2_pairs_0 rfl (lv_at hl 0 rfl) ?_
  obtain ⟨y8, hc9, hf⟩ := g_b1 hf
  refine g_wVv (As := []) (rest := []) (wr := []) (wn := (w_X2_pairs cI cZ cG o o_cells o_standing v_jars v_weeks f_cells y8)) ⟨hx, hb, hml, hown, hts⟩ (c_X2_fillStanding l dC dI cI cZ cG o o_cells o_standing H.size  v_jars v_weeks f_cells f_standing hc9) (cwV 0 hts gX2_pairs_X2_fillStanding rfl rfl rfl (by decide +kernel) ⟨Nat.le_of_ble_eq_true rfl, Nat.le_of_ble_eq_true rfl⟩) hK hN hP hD hS hA [0, 1, 2] [] [0, 1, 2] rfl rfl (by decide) rfl (by decide) (by decide) rfl (by decide) (va_recv hK hP (ci := 2) (q0 := 0) rfl rfl) rfl hl.1 rfl (Nat.le_of_ble_eq_true rfl) dX2_pairs_1 ⟨Nat.zero_le _, Nat.zero_le _⟩ (fun H locs hP hD hS => ?_)
  refine lv_iconst (v := (0 : Int32)) hx hb dX2_pairs_4 (by decide) ?_
  refine lv_istore_n (lv' := [(1, .int (0 : Int32)), (0, .ref o)]) hx hb dX2_pairs_5 rfl hl (by decide) rfl (fun ls hl => ?_)
  refine lv_bipush (v := (-9 : Int32)) hx hb dX2_pairs_6 (by decide +kernel) ?_
  refine lv_istore_n (lv' := [(2, .int (-9 : Int32)), (1, .int (0 : Int32)), (0, .ref o)]) hx hb dX2_pairs_8 rfl hl (by decide) rfl (fun ls hl => ?_)
  refine lv_iconst (v := (0 : Int32)) hx hb dX2_pairs_9 (by decide) ?_
  refine lv_istore_n (lv' := [(3, .int (0 : Int32)), (2, .int (-9 : Int32)), (1, .int (0 : Int32)), (0, .ref o)]) hx hb dX2_pairs_10 rfl hl (by decide) rfl (fun ls hl => ?_)
  exact L11 N (0 : Int32) (-9 : Int32) (0 : Int32) y8 H locs ls hf (lv_sub hl [3, 2, 1, 0] rfl) hP hD hS
abbrev rm_X2_countLooking : Room := { frames := 2, cells := 0, slots := 0, locals := 43 }
abbrev w_X2_countLooking (cI cZ cG : ClassId) (o : Nat) (o_cells : Nat) (o_standing : Nat) (v_jars : Int32) (v_weeks : Int32) (f_cells : Nat → Int32) : va_W := [(o, .inr (2, [.ref o_cells, .ref o_standing, .int v_jars, .int v_weeks])), (o_cells, .inl (cI, 48, .inl f_cells))]
set_option maxHeartbeats 4000000 in
set_option maxRecDepth 100000 in
theorem c_X2_countLooking (l : Launch) (dC : Nat → ClassId) (dI : Nat → Nat → Nat) (cI cZ cG : ClassId) {N : Nat} (o : Nat) (o_cells : Nat) (o_standing : Nat) (v_jars : Int32) (v_weeks : Int32) (f_cells : Nat → Int32) (a1 : Int32) {r0 : Int32} (hf : x2_countLooking N v_jars f_cells a1 = some r0) : Met l yX2_countLooking wsX2_countLooking rm_X2_countLooking (va_Pc [.ref o, .int a1] (gR (dC, dI) vwCl (gT cI cZ cG) (w_X2_countLooking cI cZ cG o o_cells o_standing v_jars v_weeks f_cells))) (vp_Si (fun r => r = r0)) 0 0 (fun _ => False) := by
  refine Met.ofW (cc := cX2_countLooking) (maxL := 4) (ret := (some .int)) (by decide) rfl ?_
  intro p e s m args below meth c s₁ B hml hv
  obtain ⟨rfl, hv⟩ := hv
  obtain ⟨hP, hK, hN⟩ := hv
  have hx := B.exec
  have hb := B.bytes
  have hr := B.returns
  have hts := atoms_spec (ws := wsX2_countLooking) B.pre
  have hown : s.vm.findClass RX2 = some m.cls := findClass_of_methodNamed B.named
  have hlocks := B.notSynchronized
  have hiX2 : ∀ w ∈ u_ws RX2 TX2 4, w ∈ wsX2_countLooking := fun w h => List.mem_cons_of_mem _ (List.mem_append_right _ h)
  obtain ⟨Q, hQ⟩ : ∃ Q : State → Prop, Q = MQ below (vp_Si (fun r => r = r0)) (([Value.ref o, Value.int a1] : List Value).toArray) s 0 0 (fun _ => False) := ⟨_, rfl⟩
  have hl := lv_entry ([.ref o, .int a1]) (n := 4) (Nat.le_of_ble_eq_true rfl)
  rw [← hQ, lg_entry_eq]
  generalize (lg_sl ([.ref o, .int a1]) ++ List.replicate (4 - (lg_sl ([.ref o, .int a1])).length) Slot.unset).toArray = ls at hl ⊢
  have hl : lv_has ls 4 [(0, .ref o), (1, .int a1)] := hl
  show W p l e rm_X2_countLooking s m (([Value.ref o, Value.int a1] : List Value).toArray) below meth c s.heap [] 0 0 Q (F0 m 0 ls [])
  have L4 : ∀ (n4 : Nat), ∀ (x2 : Int32) (x3 : Int32) (ls : Array Slot), x2_countLooking_b4 N v_jars f_cells a1 n4 x2 x3 = some r0 → lv_has ls 4 [(0, .ref o), (1, .int a1), (2, .int x2), (3, .int x3)] → W p l e rm_X2_countLooking s m (([Value.ref o, Value.int a1] : List Value).toArray) below meth c s.heap [] 0 0 Q (F0 m 4 ls []) := by
    intro n4
    induction n4 with
    | zero =>
      intro x2 x3 ls hf hl
      exact g_no hf
    | succ n4 ih4 =>
      have J37 : ∀ (x3 : Int32) (t0 : Int32) (t1 : Int32) (ls : Array Slot), x2_countLooking_b37 N v_jars f_cells a1 (x2_countLooking_b4 N v_jars f_cells a1 n4) x3 t0 t1 = some r0 → lv_has ls 4 [(0, .ref o), (1, .int a1), (3, .int x3)] → W p l e rm_X2_countLooking s m (([Value.ref o, Value.int a1] : List Value).toArray) below meth c s.heap [] 0 0 Q (F0 m 37 ls [.int t1, .int t0]) := by
        intro x3 t0 t1 ls hf hl
        unfold x2_countLooking_b37 at hf
        refine lv_iadd hx hb dX2_countLooking_37 ?_
        refine lv_istore_n (lv' := [(2, .int (t0 + t1)), (0, .ref o), (1, .int a1), (3, .int x3)]) hx hb dX2_countLooking_38 rfl hl (by decide) rfl (fun ls hl => ?_)
        refine lv_iinc (v := (x3 + (1 : Int32))) (lv' := [(3, .int (x3 + (1 : Int32))), (2, .int (t0 + t1)), (0, .ref o), (1, .int a1)]) hx hb dX2_countLooking_39 hl (k := 3) rfl rfl (by decide) rfl (fun ls hl => ?_)
        refine lv_goto (tgt := 4) hx hb dX2_countLooking_42 (by decide) ?_
        exact ih4 (t0 + t1) (x3 + (1 : Int32)) ls hf (lv_sub hl [2, 3, 1, 0] rfl)
      have J36 : ∀ (x3 : Int32) (t0 : Int32) (ls : Array Slot), x2_countLooking_b36 N v_jars f_cells a1 (x2_countLooking_b4 N v_jars f_cells a1 n4) x3 t0 = some r0 → lv_has ls 4 [(0, .ref o), (1, .int a1), (3, .int x3)] → W p l e rm_X2_countLooking s m (([Value.ref o, Value.int a1] : List Value).toArray) below meth c s.heap [] 0 0 Q (F0 m 36 ls [.int t0]) := by
        intro x3 t0 ls hf hl
        unfold x2_countLooking_b36 at hf
        refine lv_iconst (v := (0 : Int32)) hx hb dX2_countLooking_36 (by decide) ?_
        exact J37 x3 t0 (0 : Int32) ls hf (lv_sub hl [0, 1, 2] rfl)
      intro x2 x3 ls hf hl
      unfold x2_countLooking_b4 at hf
      refine lv_iload_n hx hb dX2_countLooking_4 rfl (lv_at hl 3 rfl) ?_
      refine lv_aload_n hx hb dX2_countLooking_5 rfl (lv_at hl 0 rfl) ?_
      refine va_get (D := (dC, dI)) (ci := 2) (v := .int v_jars) (C := RX2) (T := TX2) (N := 4) hx hb hts hiX2 hown hK hP 0 rfl rfl 2 (by decide) (hts (.fieldLink RX2 18 "GreenJars$Shelf" "jars" "I") (by decide +kernel)) (fun _ h9 => h9) rfl dX2_countLooking_6 ?_
      refine lv_icmp_ge (tgt := 45) hx hb dX2_countLooking_9 (by decide) (fun c1 => ?_) (fun c1 => ?_)
      · have hf := g_pos c1 hf
        refine lv_iload_n hx hb dX2_countLooking_45 rfl (lv_at hl 2 rfl) ?_
        rw [hQ]
        exact W.iret (v := x2) hx hb hr (fun t ht hW => ⟨_, rfl, Option.some.inj hf, ht⟩) (fun q h => by cases h) dX2_countLooking_46
      · have hf := g_neg c1 hf
        refine lv_iload_n hx hb dX2_countLooking_12 rfl (lv_at hl 2 rfl) ?_
        refine lv_aload_n hx hb dX2_countLooking_13 rfl (lv_at hl 0 rfl) ?_
        refine lv_iload_n hx hb dX2_countLooking_14 rfl (lv_at hl 3 rfl) ?_
        obtain ⟨r2, hc3, hf⟩ := g_b1 hf
        refine g_rV (As := [.int x3]) (rest := [.int x2]) ⟨hx, hb, hml, hown, hts⟩ (c_X2_isWhole l dC dI cI cZ cG o o_cells o_standing  v_jars v_weeks f_cells x3 hc3) (cwV 1 hts gX2_countLooking_X2_isWhole rfl rfl rfl (by decide +kernel) ⟨Nat.le_of_ble_eq_true rfl, Nat.le_of_ble_eq_true rfl⟩) hK hN (hP.sub [0, 1] rfl) (va_recv hK hP (ci := 2) (q0 := 0) rfl rfl) rfl hl.1 rfl (Nat.le_of_ble_eq_true rfl) dX2_countLooking_15 ⟨Nat.zero_le _, Nat.zero_le _⟩ ?_
        refine lv_if_eq (tgt := 36) hx hb dX2_countLooking_18 (by decide) (fun c4 => ?_) (fun c4 => ?_)
        · have hf := g_pos c4 hf
          exact J36 x3 x2 ls hf (lv_sub hl [0, 1, 3] rfl)
        · have hf := g_neg c4 hf
          refine lv_aload_n hx hb dX2_countLooking_21 rfl (lv_at hl 0 rfl) ?_
          refine lv_iload_n hx hb dX2_countLooking_22 rfl (lv_at hl 3 rfl) ?_
          refine lv_bipush (v := (6 : Int32)) hx hb dX2_countLooking_23 (by decide +kernel) ?_
          obtain ⟨r5, hc6, hf⟩ := g_b1 hf
          refine g_rV (As := [.int x3, .int (6 : Int32)]) (rest := [.int x2]) ⟨hx, hb, hml, hown, hts⟩ (c_X2_part l dC dI cI cZ cG o o_cells o_standing  v_jars v_weeks f_cells x3 (6 : Int32) hc6) (cwV 2 hts gX2_countLooking_X2_part rfl rfl rfl (by decide +kernel) ⟨Nat.le_of_ble_eq_true rfl, Nat.le_of_ble_eq_true rfl⟩) hK hN (hP.sub [0, 1] rfl) (va_recv hK hP (ci := 2) (q0 := 0) rfl rfl) rfl hl.1 rfl (Nat.le_of_ble_eq_true rfl) dX2_countLooking_25 ⟨Nat.zero_le _, Nat.zero_le _⟩ ?_
          refine lv_iload_n hx hb dX2_countLooking_28 rfl (lv_at hl 1 rfl) ?_
          refine lv_icmp_ne (tgt := 36) hx hb dX2_countLooking_29 (by decide) (fun c7 => ?_) (fun c7 => ?_)
          · have hf := g_neg c7 hf
            exact J36 x3 x2 ls hf (lv_sub hl [0, 1, 3] rfl)
          · have hf := g_pos c7 hf
            refine lv_iconst (v := (1 : Int32)) hx hb dX2_countLooking_32 (by decide) ?_
            refine lv_goto (tgt := 37) hx hb dX2_countLooking_33 (by decide) ?_
            exact J37 x3 x2 (1 : Int32) ls hf (lv_sub hl [0, 1, 3] rfl)
  unfold x2_countLooking at hf
  refine lv_iconst (v := (0 : Int32)) hx hb dX2_countLooking_0 (by decide) ?_
  refine lv_istore_n (lv' := [(2, .int (0 : Int32)), (0, .ref o), (1, .int a1)]) hx hb dX2_countLooking_1 rfl hl (by decide) rfl (fun ls hl => ?_)
  refine lv_iconst (v := (0 : Int32)) hx hb dX2_countLooking_2 (by decide) ?_
  refine lv_istore_n (lv' := [(3, .int (0 : Int32)), (2, .int (0 : Int32)), (0, .ref o), (1, .int a1)]) hx hb dX2_countLooking_3 rfl hl (by decide) rfl (fun ls hl => ?_)
  exact L4 N (0 : Int32) (0 : Int32) ls hf (lv_sub hl [2, 3, 1, 0] rfl)
abbrev rm_X2_countSeen : Room := { frames := 3, cells := 0, slots := 0, locals := 71 }
abbrev w_X2_countSeen (cI cZ cG : ClassId) (o : Nat) (o_cells : Nat) (o_standing : Nat) (v_jars : Int32) (v_weeks : Int32) (f_cells : Nat → Int32) : va_W := [(o, .inr (2, [.ref o_cells, .ref o_standing, .int v_jars, .int v_weeks])), (o_cells, .inl (cI, 48, .inl f_cells))]
set_option maxHeartbeats 4000000 in
set_option maxRecDepth 100000 in
theorem c_X2_countSeen (l : Launch) (dC : Nat → ClassId) (dI : Nat → Nat → Nat) (cI cZ cG : ClassId) {N : Nat} (o : Nat) (o_cells : Nat) (o_standing : Nat) (v_jars : Int32) (v_weeks : Int32) (f_cells : Nat → Int32) {r0 : Int32} (hf : x2_countSeen N v_jars f_cells = some r0) : Met l yX2_countSeen wsX2_countSeen rm_X2_countSeen (va_Pc [.ref o] (gR (dC, dI) vwCl (gT cI cZ cG) (w_X2_countSeen cI cZ cG o o_cells o_standing v_jars v_weeks f_cells))) (vp_Si (fun r => r = r0)) 0 0 (fun _ => False) := by
  refine Met.ofW (cc := cX2_countSeen) (maxL := 4) (ret := (some .int)) (by decide) rfl ?_
  intro p e s m args below meth c s₁ B hml hv
  obtain ⟨rfl, hv⟩ := hv
  obtain ⟨hP, hK, hN⟩ := hv
  have hx := B.exec
  have hb := B.bytes
  have hr := B.returns
  have hts := atoms_spec (ws := wsX2_countSeen) B.pre
  have hown : s.vm.findClass RX2 = some m.cls := findClass_of_methodNamed B.named
  have hlocks := B.notSynchronized
  have hiX2 : ∀ w ∈ u_ws RX2 TX2 4, w ∈ wsX2_countSeen := fun w h => List.mem_cons_of_mem _ (List.mem_append_right _ h)
  obtain ⟨Q, hQ⟩ : ∃ Q : State → Prop, Q = MQ below (vp_Si (fun r => r = r0)) (([Value.ref o] : List Value).toArray) s 0 0 (fun _ => False) := ⟨_, rfl⟩
  have hl := lv_entry ([.ref o]) (n := 4) (Nat.le_of_ble_eq_true rfl)
  rw [← hQ, lg_entry_eq]
  generalize (lg_sl ([.ref o]) ++ List.replicate (4 - (lg_sl ([.ref o])).length) Slot.unset).toArray = ls at hl ⊢
  have hl : lv_has ls 4 [(0, .ref o)] := hl
  show W p l e rm_X2_countSeen s m (([Value.ref o] : List Value).toArray) below meth c s.heap [] 0 0 Q (F0 m 0 ls [])
  have L4 : ∀ (n4 : Nat), ∀ (x1 : Int32) (x2 : Int32) (ls : Array Slot), x2_countSeen_b4 N v_jars f_cells n4 x1 x2 = some r0 → lv_has ls 4 [(0, .ref o), (1, .int x1), (2, .int x2)] → W p l e rm_X2_countSeen s m (([Value.ref o] : List Value).toArray) below meth c s.heap [] 0 0 Q (F0 m 4 ls []) := by
    intro n4
    induction n4 with
    | zero =>
      intro x1 x2 ls hf hl
      exact g_no hf
    | succ n4 ih4 =>
      have J32 : ∀ (x2 : Int32) (t0 : Int32) (t1 : Int32) (ls : Array Slot), x2_countSeen_b32 N v_jars f_cells (x2_countSeen_b4 N v_jars f_cells n4) x2 t0 t1 = some r0 → lv_has ls 4 [(0, .ref o), (2, .int x2)] → W p l e rm_X2_countSeen s m (([Value.ref o] : List Value).toArray) below meth c s.heap [] 0 0 Q (F0 m 32 ls [.int t1, .int t0]) := by
        intro x2 t0 t1 ls hf hl
        unfold x2_countSeen_b32 at hf
        refine lv_ior hx hb dX2_countSeen_32 ?_
        refine lv_istore_n (lv' := [(1, .int (t0 ||| t1)), (0, .ref o), (2, .int x2)]) hx hb dX2_countSeen_33 rfl hl (by decide) rfl (fun ls hl => ?_)
        refine lv_iinc (v := (x2 + (1 : Int32))) (lv' := [(2, .int (x2 + (1 : Int32))), (1, .int (t0 ||| t1)), (0, .ref o)]) hx hb dX2_countSeen_34 hl (k := 2) rfl rfl (by decide) rfl (fun ls hl => ?_)
        refine lv_goto (tgt := 4) hx hb dX2_countSeen_37 (by decide) ?_
        exact ih4 (t0 ||| t1) (x2 + (1 : Int32)) ls hf (lv_sub hl [2, 1, 0] rfl)
      intro x1 x2 ls hf hl
      unfold x2_countSeen_b4 at hf
      refine lv_iload_n hx hb dX2_countSeen_4 rfl (lv_at hl 2 rfl) ?_
      refine lv_aload_n hx hb dX2_countSeen_5 rfl (lv_at hl 0 rfl) ?_
      refine va_get (D := (dC, dI)) (ci := 2) (v := .int v_jars) (C := RX2) (T := TX2) (N := 4) hx hb hts hiX2 hown hK hP 0 rfl rfl 2 (by decide) (hts (.fieldLink RX2 18 "GreenJars$Shelf" "jars" "I") (by decide +kernel)) (fun _ h9 => h9) rfl dX2_countSeen_6 ?_
      refine lv_icmp_ge (tgt := 40) hx hb dX2_countSeen_9 (by decide) (fun c1 => ?_) (fun c1 => ?_)
      · have hf := g_pos c1 hf
        refine lv_iload_n hx hb dX2_countSeen_40 rfl (lv_at hl 1 rfl) ?_
        obtain ⟨r2, hc3, hf⟩ := g_b1 hf
        refine g_rS (As := [.int x1]) (rest := []) ⟨hx, hb, hml, hown, hts⟩ (c_J6_bitCount_0f7a4 l dC dI cI cZ cG    x1 hc3) (va_cwS 1 hts gX2_countSeen_J6_bitCount_0f7a4 rfl rfl rfl (by decide +kernel) ⟨Nat.le_of_ble_eq_true rfl, Nat.le_of_ble_eq_true rfl⟩) hK hN (hP.sub [] rfl) rfl hl.1 rfl (Nat.le_of_ble_eq_true rfl) dX2_countSeen_41 ⟨Nat.zero_le _, Nat.zero_le _⟩ ?_
        rw [hQ]
        exact W.iret (v := r2) hx hb hr (fun t ht hW => ⟨_, rfl, Option.some.inj hf, ht⟩) (fun q h => by cases h) dX2_countSeen_44
      · have hf := g_neg c1 hf
        refine lv_aload_n hx hb dX2_countSeen_12 rfl (lv_at hl 0 rfl) ?_
        refine lv_iload_n hx hb dX2_countSeen_13 rfl (lv_at hl 2 rfl) ?_
        obtain ⟨r4, hc5, hf⟩ := g_b1 hf
        refine g_rV (As := [.int x2]) (rest := []) ⟨hx, hb, hml, hown, hts⟩ (c_X2_seenBy l dC dI cI cZ cG o o_cells o_standing  v_jars v_weeks f_cells x2 hc5) (cwV 1 hts gX2_countSeen_X2_seenBy rfl rfl rfl (by decide +kernel) ⟨Nat.le_of_ble_eq_true rfl, Nat.le_of_ble_eq_true rfl⟩) hK hN (hP.sub [0, 1] rfl) (va_recv hK hP (ci := 2) (q0 := 0) rfl rfl) rfl hl.1 rfl (Nat.le_of_ble_eq_true rfl) dX2_countSeen_14 ⟨Nat.zero_le _, Nat.zero_le _⟩ ?_
        refine lv_istore_n (lv' := [(3, .int r4), (0, .ref o), (1, .int x1), (2, .int x2)]) hx hb dX2_countSeen_17 rfl hl (by decide) rfl (fun ls hl => ?_)
        refine lv_iload_n hx hb dX2_countSeen_18 rfl (lv_at hl 2 rfl) ?_
        refine lv_iload_n hx hb dX2_countSeen_19 rfl (lv_at hl 0 rfl) ?_
        refine lv_bipush (v := (-9 : Int32)) hx hb dX2_countSeen_20 (by decide +kernel) ?_
        refine lv_icmp_ne (tgt := 29) hx hb dX2_countSeen_22 (by decide) (fun c6 => ?_) (fun c6 => ?_)
        · have hf := g_neg c6 hf
          refine lv_iconst (v := (1 : Int32)) hx hb dX2_countSeen_29 (by decide) ?_
          refine lv_iload_n hx hb dX2_countSeen_30 rfl (lv_at hl 0 rfl) ?_
          refine lv_ishl hx hb dX2_countSeen_31 ?_
          exact J32 x2 x1 ((1 : Int32) <<< (r4 &&& 31)) ls hf (lv_sub hl [1, 3] rfl)
        · have hf := g_pos c6 hf
          refine lv_iconst (v := (0 : Int32)) hx hb dX2_countSeen_25 (by decide) ?_
          refine lv_goto (tgt := 32) hx hb dX2_countSeen_26 (by decide) ?_
          exact J32 x2 x1 (0 : Int32) ls hf (lv_sub hl [1, 3] rfl)
  unfold x2_countSeen at hf
  refine lv_iconst (v := (0 : Int32)) hx hb dX2_countSeen_0 (by decide) ?_
  refine lv_istore_n (lv' := [(1, .int (0 : Int32)), (0, .ref o)]) hx hb dX2_countSeen_1 rfl hl (by decide) rfl (fun ls hl => ?_)
  refine lv_iconst (v := (0 : Int32)) hx hb dX2_countSeen_2 (by decide) ?_
  refine lv_istore_n (lv' := [(2, .int (0 : Int32)), (1, .int (0 : Int32)), (0, .ref o)]) hx hb dX2_countSeen_3 rfl hl (by decide) rfl (fun ls hl => ?_)
  exact L4 N (0 : Int32) (0 : Int32) ls hf (lv_sub hl [2, 1, 0] rfl)
