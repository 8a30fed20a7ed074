abbrev rm_X7_judge : Room := { frames := 6, cells := 0, slots := 0, locals := 132 }
abbrev w_X7_judge (cI cZ cG : ClassId) (o : Nat) (o_text : Nat) (o_now : Nat) (o_trial : Nat) (o_acts : Nat) (o_slots : Nat) (o_tastes : Nat) (o_ways : Nat) (o_fraction : Nat) (o_now_cells : Nat) (o_now_standing : Nat) (o_trial_cells : Nat) (o_trial_standing : Nat) (v_seedNow : Int64) (v_now_jars : Int32) (v_now_weeks : Int32) (f_now_cells : Nat → Int32) (v_trial_jars : Int32) (v_trial_weeks : Int32) (f_trial_cells : Nat → Int32) : va_W := [(o, .inr (7, [.ref o_text, .ref o_now, .ref o_trial, .ref o_acts, .ref o_slots, .ref o_tastes, .ref o_ways, .ref o_fraction, .long v_seedNow])), (o_now, .inr (2, [.ref o_now_cells, .ref o_now_standing, .int v_now_jars, .int v_now_weeks])), (o_now_cells, .inl (cI, 48, .inl f_now_cells)), (o_trial, .inr (2, [.ref o_trial_cells, .ref o_trial_standing, .int v_trial_jars, .int v_trial_weeks])), (o_trial_cells, .inl (cI, 48, .inl f_trial_cells))]
set_option maxHeartbeats 4000000 in
set_option maxRecDepth 100000 in
theorem c_X7_judge (l : Launch) (dC : Nat → ClassId) (dI : Nat → Nat → Nat) (cI cZ cG : ClassId) {N : Nat} (o : Nat) (o_text : Nat) (o_now : Nat) (o_trial : Nat) (o_acts : Nat) (o_slots : Nat) (o_tastes : Nat) (o_ways : Nat) (o_fraction : Nat) (o_now_cells : Nat) (o_now_standing : Nat) (o_trial_cells : Nat) (o_trial_standing : Nat) (sz : Nat) (v_seedNow : Int64) (v_now_jars : Int32) (v_now_weeks : Int32) (f_now_cells : Nat → Int32) (v_trial_jars : Int32) (v_trial_weeks : Int32) (f_trial_cells : Nat → Int32) (a1 : Int32) (a2 : Int64) {r0 : Int32} {n_trial_jars : Int32} {n_trial_weeks : Int32} {n_trial_cells : Nat → Int32} (hf : x7_judge N v_now_jars v_now_weeks f_now_cells v_trial_jars v_trial_weeks f_trial_cells a1 a2 = some (r0, n_trial_jars, n_trial_weeks, n_trial_cells)) : Met l yX7_judge wsX7_judge rm_X7_judge (va_Pc [.ref o, .int a1, .long a2] (gW (dC, dI) vwCl (gT cI cZ cG) (w_X7_judge cI cZ cG o o_text o_now o_trial o_acts o_slots o_tastes o_ways o_fraction o_now_cells o_now_standing o_trial_cells o_trial_standing v_seedNow v_now_jars v_now_weeks f_now_cells v_trial_jars v_trial_weeks f_trial_cells) sz)) (va_Qi (fun r _ => r = r0) (gE (dC, dI) vwCl (gT cI cZ cG) (w_X7_judge cI cZ cG o o_text o_now o_trial o_acts o_slots o_tastes o_ways o_fraction o_now_cells o_now_standing o_trial_cells o_trial_standing v_seedNow v_now_jars v_now_weeks f_now_cells n_trial_jars n_trial_weeks n_trial_cells) (va_A (w_X7_judge cI cZ cG o o_text o_now o_trial o_acts o_slots o_tastes o_ways o_fraction o_now_cells o_now_standing o_trial_cells o_trial_standing v_seedNow v_now_jars v_now_weeks f_now_cells v_trial_jars v_trial_weeks f_trial_cells) sz)) (va_A (w_X7_judge cI cZ cG o o_text o_now o_trial o_acts o_slots o_tastes o_ways o_fraction o_now_cells o_now_standing o_trial_cells o_trial_standing v_seedNow v_now_jars v_now_weeks f_now_cells v_trial_jars v_trial_weeks f_trial_cells) sz)) 0 0 (va_A (w_X7_judge cI cZ cG o o_text o_now o_trial o_acts o_slots o_tastes o_ways o_fraction o_now_cells o_now_standing o_trial_cells o_trial_standing v_seedNow v_now_jars v_now_weeks f_now_cells v_trial_jars v_trial_weeks f_trial_cells) sz) := by
  refine Met.ofW (cc := cX7_judge) (maxL := 6) (ret := (some .int)) (by decide) rfl ?_
  intro p e s m args below meth c s₁ B hml hv
  obtain ⟨rfl, hv⟩ := hv
  obtain ⟨hsz, hP, hK, hN, hD0⟩ := hv
  have hx := B.exec
  have hb := B.bytes
  have hr := B.returns
  have hts := atoms_spec (ws := wsX7_judge) B.pre
  have hown : s.vm.findClass RX7 = some m.cls := findClass_of_methodNamed B.named
  have hlocks := B.notSynchronized
  have hiX2 : ∀ w ∈ u_ws RX2 TX2 4, w ∈ wsX7_judge := fun w h => List.mem_cons_of_mem _ (List.mem_append_right _ h)
  have hiX7 : ∀ w ∈ u_ws RX7 TX7 9, w ∈ wsX7_judge := fun w h => List.mem_cons_of_mem _ (List.mem_append_left _ (List.mem_append_right _ h))
  subst hsz
  have hD := hD0.self (sz := s.heap.size)
  generalize hAe : va_A (w_X7_judge cI cZ cG o o_text o_now o_trial o_acts o_slots o_tastes o_ways o_fraction o_now_cells o_now_standing o_trial_cells o_trial_standing v_seedNow v_now_jars v_now_weeks f_now_cells v_trial_jars v_trial_weeks f_trial_cells) s.heap.size = A at hD ⊢
  have hA : ∀ q : Nat, s.heap.size ≤ q → A q := fun q h => by rw [← hAe]; exact Or.inr h
  clear hD0
  have hS : va_S A s.heap s.heap [] := va_S.rf
  have hP : va_P (dC, dI) vwCl (w_X7_judge cI cZ cG o o_text o_now o_trial o_acts o_slots o_tastes o_ways o_fraction o_now_cells o_now_standing o_trial_cells o_trial_standing v_seedNow v_now_jars v_now_weeks f_now_cells v_trial_jars v_trial_weeks f_trial_cells) s.heap := hP
  obtain ⟨Q, hQ⟩ : ∃ Q : State → Prop, Q = MQ below (va_Qi (fun r _ => r = r0) (gE (dC, dI) vwCl (gT cI cZ cG) (w_X7_judge cI cZ cG o o_text o_now o_trial o_acts o_slots o_tastes o_ways o_fraction o_now_cells o_now_standing o_trial_cells o_trial_standing v_seedNow v_now_jars v_now_weeks f_now_cells n_trial_jars n_trial_weeks n_trial_cells) A) A) (([Value.ref o, Value.int a1, Value.long a2] : List Value).toArray) s 0 0 A := ⟨_, rfl⟩
  have hl := lv_entry ([.ref o, .int a1, .long a2]) (n := 6) (Nat.le_of_ble_eq_true rfl)
  rw [← hQ, lg_entry_eq]
  generalize (lg_sl ([.ref o, .int a1, .long a2]) ++ List.replicate (6 - (lg_sl ([.ref o, .int a1, .long a2])).length) Slot.unset).toArray = ls at hl ⊢
  have hl : lv_has ls 6 [(0, .ref o), (1, .int a1), (2, .long a2)] := hl
  generalize hH : s.heap = H at hP hS ⊢
  have hS : va_S A s.heap H [] := by rw [hH]; exact hS
  generalize hlc : ([] : List Loc) = locs at hS ⊢
  show W p l e rm_X7_judge s m (([Value.ref o, Value.int a1, Value.long a2] : List Value).toArray) below meth c H locs 0 0 Q (F0 m 0 ls [])
  have L43 : ∀ (n43 : Nat), ∀ (x4 : Int32) (y_trial_jars : Int32) (y_trial_weeks : Int32) (y_trial_cells : Nat → Int32) (H : Heap) (locs : List Loc) (ls : Array Slot), x7_judge_b43 N v_now_jars v_now_weeks f_now_cells a1 a2 n43 x4 y_trial_jars y_trial_weeks y_trial_cells = some (r0, n_trial_jars, n_trial_weeks, n_trial_cells) → lv_has ls 6 [(0, .ref o), (1, .int a1), (2, .long a2), (4, .int x4)] → va_P (dC, dI) vwCl (w_X7_judge cI cZ cG o o_text o_now o_trial o_acts o_slots o_tastes o_ways o_fraction o_now_cells o_now_standing o_trial_cells o_trial_standing v_seedNow v_now_jars v_now_weeks f_now_cells y_trial_jars y_trial_weeks y_trial_cells) H → va_D A (w_X7_judge cI cZ cG o o_text o_now o_trial o_acts o_slots o_tastes o_ways o_fraction o_now_cells o_now_standing o_trial_cells o_trial_standing v_seedNow v_now_jars v_now_weeks f_now_cells y_trial_jars y_trial_weeks y_trial_cells) → va_S A s.heap H locs → W p l e rm_X7_judge s m (([Value.ref o, Value.int a1, Value.long a2] : List Value).toArray) below meth c H locs 0 0 Q (F0 m 43 ls []) := by
    intro n43
    induction n43 with
    | zero =>
      intro x4 y_trial_jars y_trial_weeks y_trial_cells H locs ls hf hl hP hD hS
      exact g_no hf
    | succ n43 ih43 =>
      intro x4 y_trial_jars y_trial_weeks y_trial_cells H locs ls hf hl hP hD hS
      unfold x7_judge_b43 at hf
      refine lv_iload hx hb dX7_judge_43 (lv_at hl 3 rfl) ?_
      refine lv_iload_n hx hb dX7_judge_45 rfl (lv_at hl 1 rfl) ?_
      refine lv_icmp_ge (tgt := 100) hx hb dX7_judge_46 (by decide) (fun c1 => ?_) (fun c1 => ?_)
      · have hf := g_pos c1 hf
        refine lv_bipush (v := (-9 : Int32)) hx hb dX7_judge_100 (by decide +kernel) ?_
        rw [hQ]
        cases hf
        exact W.iret hx hb hr (fun t ht hW => ⟨⟨_, (), rfl, rfl, by rw [ht]; exact hP, va_K.moved hW.alike hK, hD⟩, hS.F ht⟩) hS.2.2 dX7_judge_102
      · have hf := g_neg c1 hf
        refine lv_lload_n hx hb dX7_judge_49 rfl (lv_at hl 2 rfl) ?_
        refine lv_iload_n hx hb dX7_judge_50 rfl (lv_at hl 1 rfl) ?_
        refine lv_iconst (v := (1 : Int32)) hx hb dX7_judge_51 (by decide) ?_
        refine lv_isub hx hb dX7_judge_52 ?_
        refine lv_iload hx hb dX7_judge_53 (lv_at hl 3 rfl) ?_
        refine lv_isub hx hb dX7_judge_55 ?_
        obtain ⟨r2, hc3, hf⟩ := g_b1 hf
        refine g_rSl (As := [.long a2, .int ((a1 - (1 : Int32)) - x4)]) (rest := []) ⟨hx, hb, hml, hown, hts⟩ (c_X7_without l dC dI cI cZ cG    a2 ((a1 - (1 : Int32)) - x4) hc3) (va_cwS 2 hts gX7_judge_X7_without rfl rfl rfl (by decide +kernel) ⟨Nat.le_of_ble_eq_true rfl, Nat.le_of_ble_eq_true rfl⟩) hK hN (hP.sub [] rfl) rfl hl.1 rfl (Nat.le_of_ble_eq_true rfl) dX7_judge_56 ⟨Nat.zero_le _, Nat.zero_le _⟩ ?_
        refine lv_ldc2 (v := (1000 : Int64)) hx hb hown (hts (.constantLong RX7 197 (1000 : Int64)) (by decide +kernel)) dX7_judge_59 ?_
        refine lv_lrem hx hb dX7_judge_62 (by decide) ?_
        refine lv_l2i hx hb dX7_judge_63 rfl ?_
        refine lv_istore (lv' := [(5, .int ((r2 - r2 / (1000 : Int64) * (1000 : Int64)).toInt32)), (0, .ref o), (1, .int a1), (2, .long a2), (4, .int x4)]) hx hb dX7_judge_64 hl (by decide) rfl (fun ls hl => ?_)
        refine lv_aload_n hx hb dX7_judge_66 rfl (lv_at hl 1 rfl) ?_
        refine lv_iload hx hb dX7_judge_67 (lv_at hl 0 rfl) ?_
        refine lv_bipush (v := (100 : Int32)) hx hb dX7_judge_69 (by decide +kernel) ?_
        refine lv_idiv hx hb dX7_judge_71 (by decide) ?_
        refine lv_iload hx hb dX7_judge_72 (lv_at hl 0 rfl) ?_
        refine lv_bipush (v := (10 : Int32)) hx hb dX7_judge_74 (by decide +kernel) ?_
        refine lv_idiv hx hb dX7_judge_76 (by decide) ?_
        refine lv_bipush (v := (10 : Int32)) hx hb dX7_judge_77 (by decide +kernel) ?_
        refine lv_irem hx hb dX7_judge_79 (by decide) ?_
        refine lv_iload hx hb dX7_judge_80 (lv_at hl 0 rfl) ?_
        refine lv_bipush (v := (10 : Int32)) hx hb dX7_judge_82 (by decide +kernel) ?_
        refine lv_irem hx hb dX7_judge_84 (by decide) ?_
        obtain ⟨r4, y5, y6, hc7, hf⟩ := g_b3 hf
        refine g_wV (As := [.int ((r2 - r2 / (1000 : Int64) * (1000 : Int64)).toInt32 / (100 : Int32)), .int (((r2 - r2 / (1000 : Int64) * (1000 : Int64)).toInt32 / (10 : Int32)) - ((r2 - r2 / (1000 : Int64) * (1000 : Int64)).toInt32 / (10 : Int32)) / (10 : Int32) * (10 : Int32)), .int ((r2 - r2 / (1000 : Int64) * (1000 : Int64)).toInt32 - (r2 - r2 / (1000 : Int64) * (1000 : Int64)).toInt32 / (10 : Int32) * (10 : Int32))]) (rest := []) (wr := [(o_now, .inr (2, [.ref o_now_cells, .ref o_now_standing, .int v_now_jars, .int v_now_weeks])), (o_now_cells, .inl (cI, 48, .inl f_now_cells))]) (wn := (w_X7_judge cI cZ cG o o_text o_now o_trial o_acts o_slots o_tastes o_ways o_fraction o_now_cells o_now_standing o_trial_cells o_trial_standing v_seedNow v_now_jars v_now_weeks f_now_cells y_trial_jars y5 y6)) ⟨hx, hb, hml, hown, hts⟩ (c_X7_trialDoes l dC dI cI cZ cG o o_text o_now o_trial o_acts o_slots o_tastes o_ways o_fraction o_trial_cells o_trial_standing H.size  v_seedNow y_trial_jars y_trial_weeks y_trial_cells ((r2 - r2 / (1000 : Int64) * (1000 : Int64)).toInt32 / (100 : Int32)) (((r2 - r2 / (1000 : Int64) * (1000 : Int64)).toInt32 / (10 : Int32)) - ((r2 - r2 / (1000 : Int64) * (1000 : Int64)).toInt32 / (10 : Int32)) / (10 : Int32) * (10 : Int32)) ((r2 - r2 / (1000 : Int64) * (1000 : Int64)).toInt32 - (r2 - r2 / (1000 : Int64) * (1000 : Int64)).toInt32 / (10 : Int32) * (10 : Int32)) hc7) (cwV 3 hts gX7_judge_X7_trialDoes rfl rfl rfl (by decide +kernel) ⟨Nat.le_of_ble_eq_true rfl, Nat.le_of_ble_eq_true rfl⟩) hK hN hP hD hS hA [0, 3, 4] [1, 2] [2, 0, 1, 3, 4] rfl rfl (by decide) rfl (by decide) (by decide) rfl (by decide) (va_recv hK hP (ci := 7) (q0 := 0) rfl rfl) rfl hl.1 rfl (Nat.le_of_ble_eq_true rfl) dX7_judge_85 ⟨Nat.zero_le _, Nat.zero_le _⟩ (fun H locs hP hD hS => ?_)
        refine lv_if_ne (tgt := 94) hx hb dX7_judge_88 (by decide) (fun c8 => ?_) (fun c8 => ?_)
        · have hf := g_neg c8 hf
          refine lv_iinc (v := (x4 + (1 : Int32))) (lv' := [(4, .int (x4 + (1 : Int32))), (5, .int ((r2 - r2 / (1000 : Int64) * (1000 : Int64)).toInt32)), (0, .ref o), (1, .int a1), (2, .long a2)]) hx hb dX7_judge_94 hl (k := 4) rfl rfl (by decide) rfl (fun ls hl => ?_)
          refine lv_goto (tgt := 43) hx hb dX7_judge_97 (by decide) ?_
          exact ih43 (x4 + (1 : Int32)) y_trial_jars y5 y6 H locs ls hf (lv_sub hl [2, 3, 4, 0] rfl) hP hD hS
        · have hf := g_pos c8 hf
          refine lv_iload hx hb dX7_judge_91 (lv_at hl 4 rfl) ?_
          rw [hQ]
          cases hf
          exact W.iret hx hb hr (fun t ht hW => ⟨⟨_, (), rfl, rfl, by rw [ht]; exact hP, va_K.moved hW.alike hK, hD⟩, hS.F ht⟩) hS.2.2 dX7_judge_93
  unfold x7_judge at hf
  refine lv_iload_n hx hb dX7_judge_0 rfl (lv_at hl 1 rfl) ?_
  refine lv_iconst (v := (1 : Int32)) hx hb dX7_judge_1 (by decide) ?_
  refine lv_icmp_lt (tgt := 26) hx hb dX7_judge_2 (by decide) (fun c9 => ?_) (fun c9 => ?_)
  · have hf := g_pos c9 hf
    refine lv_bipush (v := (-2 : Int32)) hx hb dX7_judge_26 (by decide +kernel) ?_
    rw [hQ]
    cases hf
    exact W.iret hx hb hr (fun t ht hW => ⟨⟨_, (), rfl, rfl, by rw [ht]; exact hP, va_K.moved hW.alike hK, hD⟩, hS.F ht⟩) hS.2.2 dX7_judge_28
  · have hf := g_neg c9 hf
    refine lv_iload_n hx hb dX7_judge_5 rfl (lv_at hl 1 rfl) ?_
    refine lv_iconst (v := (4 : Int32)) hx hb dX7_judge_6 (by decide) ?_
    refine lv_icmp_gt (tgt := 26) hx hb dX7_judge_7 (by decide) (fun c10 => ?_) (fun c10 => ?_)
    · have hf := g_pos c10 hf
      refine lv_bipush (v := (-2 : Int32)) hx hb dX7_judge_26 (by decide +kernel) ?_
      rw [hQ]
      cases hf
      exact W.iret hx hb hr (fun t ht hW => ⟨⟨_, (), rfl, rfl, by rw [ht]; exact hP, va_K.moved hW.alike hK, hD⟩, hS.F ht⟩) hS.2.2 dX7_judge_28
    · have hf := g_neg c10 hf
      refine lv_lload_n hx hb dX7_judge_10 rfl (lv_at hl 2 rfl) ?_
      refine lv_lconst (v := (0 : Int64)) hx hb dX7_judge_11 (by decide) ?_
      refine W.lcmp hx hb dX7_judge_12 ?_
      refine lv_if_lt (tgt := 26) hx hb dX7_judge_13 (by decide) (fun c11 => ?_) (fun c11 => ?_)
      · have hf := g_pos c11 hf
        refine lv_bipush (v := (-2 : Int32)) hx hb dX7_judge_26 (by decide +kernel) ?_
        rw [hQ]
        cases hf
        exact W.iret hx hb hr (fun t ht hW => ⟨⟨_, (), rfl, rfl, by rw [ht]; exact hP, va_K.moved hW.alike hK, hD⟩, hS.F ht⟩) hS.2.2 dX7_judge_28
      · have hf := g_neg c11 hf
        refine lv_lload_n hx hb dX7_judge_16 rfl (lv_at hl 2 rfl) ?_
        refine lv_iload_n hx hb dX7_judge_17 rfl (lv_at hl 1 rfl) ?_
        obtain ⟨r12, hc13, hf⟩ := g_b1 hf
        refine g_rSl (As := [.long a2, .int a1]) (rest := []) ⟨hx, hb, hml, hown, hts⟩ (c_X7_without l dC dI cI cZ cG    a2 a1 hc13) (va_cwS 2 hts gX7_judge_X7_without rfl rfl rfl (by decide +kernel) ⟨Nat.le_of_ble_eq_true rfl, Nat.le_of_ble_eq_true rfl⟩) hK hN (hP.sub [] rfl) rfl hl.1 rfl (Nat.le_of_ble_eq_true rfl) dX7_judge_18 ⟨Nat.zero_le _, Nat.zero_le _⟩ ?_
        refine lv_lconst (v := (0 : Int64)) hx hb dX7_judge_21 (by decide) ?_
        refine W.lcmp hx hb dX7_judge_22 ?_
        refine lv_if_eq (tgt := 29) hx hb dX7_judge_23 (by decide) (fun c14 => ?_) (fun c14 => ?_)
        · have hf := g_pos c14 hf
          refine lv_aload_n hx hb dX7_judge_29 rfl (lv_at hl 0 rfl) ?_
          refine va_get (D := (dC, dI)) (ci := 7) (v := .ref o_trial) (C := RX7) (T := TX7) (N := 9) hx hb hts hiX7 hown hK hP 0 rfl rfl 2 (by decide) (hts (.fieldLink RX7 23 "GreenJars" "trial" "LGreenJars$Shelf;") (by decide +kernel)) (fun _ h9 => h9) rfl dX7_judge_30 ?_
          refine lv_aload_n hx hb dX7_judge_33 rfl (lv_at hl 0 rfl) ?_
          refine va_get (D := (dC, dI)) (ci := 7) (v := .ref o_now) (C := RX7) (T := TX7) (N := 9) hx hb hts hiX7 hown hK hP 0 rfl rfl 1 (by decide) (hts (.fieldLink RX7 19 "GreenJars" "now" "LGreenJars$Shelf;") (by decide +kernel)) (fun _ h9 => h9) rfl dX7_judge_34 ?_
          obtain ⟨y15, y16, y17, hc18, hf⟩ := g_b3 hf
          refine g_wVv (As := [.ref o_now]) (rest := []) (wr := [(o, .inr (7, [.ref o_text, .ref o_now, .ref o_trial, .ref o_acts, .ref o_slots, .ref o_tastes, .ref o_ways, .ref o_fraction, .long v_seedNow]))]) (wn := (w_X7_judge cI cZ cG o o_text o_now o_trial o_acts o_slots o_tastes o_ways o_fraction o_now_cells o_now_standing o_trial_cells o_trial_standing v_seedNow v_now_jars v_now_weeks f_now_cells y15 y16 y17)) ⟨hx, hb, hml, hown, hts⟩ (c_X2_copy l dC dI cI cZ cG o_trial o_trial_cells o_trial_standing o_now o_now_cells o_now_standing H.size  v_trial_jars v_trial_weeks f_trial_cells v_now_jars v_now_weeks f_now_cells hc18) (cwV 1 hts gX7_judge_X2_copy rfl rfl rfl (by decide +kernel) ⟨Nat.le_of_ble_eq_true rfl, Nat.le_of_ble_eq_true rfl⟩) hK hN hP hD hS hA [3, 4, 1, 2] [0] [0, 3, 4, 1, 2] rfl rfl (by decide) rfl (by decide) (by decide) rfl (by decide) (va_recv hK hP (ci := 2) (q0 := 3) rfl rfl) rfl hl.1 rfl (Nat.le_of_ble_eq_true rfl) dX7_judge_37 ⟨Nat.zero_le _, Nat.zero_le _⟩ (fun H locs hP hD hS => ?_)
          refine lv_iconst (v := (0 : Int32)) hx hb dX7_judge_40 (by decide) ?_
          refine lv_istore (lv' := [(4, .int (0 : Int32)), (0, .ref o), (1, .int a1), (2, .long a2)]) hx hb dX7_judge_41 hl (by decide) rfl (fun ls hl => ?_)
          exact L43 N (0 : Int32) y15 y16 y17 H locs ls hf (lv_sub hl [1, 2, 3, 0] rfl) hP hD hS
        · have hf := g_neg c14 hf
          refine lv_bipush (v := (-2 : Int32)) hx hb dX7_judge_26 (by decide +kernel) ?_
          rw [hQ]
          cases hf
          exact W.iret hx hb hr (fun t ht hW => ⟨⟨_, (), rfl, rfl, by rw [ht]; exact hP, va_K.moved hW.alike hK, hD⟩, hS.F ht⟩) hS.2.2 dX7_judge_28
abbrev rm_X7_seenAmong : Room := { frames := 4, cells := 0, slots := 0, locals := 94 }
abbrev w_X7_seenAmong (cI cZ cG : ClassId) (o : Nat) (o_text : Nat) (o_now : Nat) (o_trial : Nat) (o_acts : Nat) (o_slots : Nat) (o_tastes : Nat) (o_ways : Nat) (o_fraction : Nat) (o_now_cells : Nat) (o_now_standing : Nat) (o_trial_cells : Nat) (o_trial_standing : Nat) (v_seedNow : Int64) (v_now_jars : Int32) (v_now_weeks : Int32) (f_now_cells : Nat → Int32) (v_trial_jars : Int32) (v_trial_weeks : Int32) (f_trial_cells : Nat → Int32) : va_W := [(o, .inr (7, [.ref o_text, .ref o_now, .ref o_trial, .ref o_acts, .ref o_slots, .ref o_tastes, .ref o_ways, .ref o_fraction, .long v_seedNow])), (o_now, .inr (2, [.ref o_now_cells, .ref o_now_standing, .int v_now_jars, .int v_now_weeks])), (o_now_cells, .inl (cI, 48, .inl f_now_cells)), (o_trial, .inr (2, [.ref o_trial_cells, .ref o_trial_standing, .int v_trial_jars, .int v_trial_weeks])), (o_trial_cells, .inl (cI, 48, .inl f_trial_cells))]
set_option maxHeartbeats 4000000 in
set_option maxRecDepth 100000 in
theorem c_X7_seenAmong (l : Launch) (dC : Nat → ClassId) (dI : Nat → Nat → Nat) (cI cZ cG : ClassId) {N : Nat} (o : Nat) (o_text : Nat) (o_now : Nat) (o_trial : Nat) (o_acts : Nat) (o_slots : Nat) (o_tastes : Nat) (o_ways : Nat) (o_fraction : Nat) (o_now_cells : Nat) (o_now_standing : Nat) (o_trial_cells : Nat) (o_trial_standing : Nat) (sz : Nat) (v_seedNow : Int64) (v_now_jars : Int32) (v_now_weeks : Int32) (f_now_cells : Nat → Int32) (v_trial_jars : Int32) (v_trial_weeks : Int32) (f_trial_cells : Nat → Int32) (a1 : Int32) {r0 : Int32} {n_trial_jars : Int32} {n_trial_weeks : Int32} {n_trial_cells : Nat → Int32} (hf : x7_seenAmong N v_now_jars v_now_weeks f_now_cells v_trial_jars v_trial_weeks f_trial_cells a1 = some (r0, n_trial_jars, n_trial_weeks, n_trial_cells)) : Met l yX7_seenAmong wsX7_seenAmong rm_X7_seenAmong (va_Pc [.ref o, .int a1] (gW (dC, dI) vwCl (gT cI cZ cG) (w_X7_seenAmong cI cZ cG o o_text o_now o_trial o_acts o_slots o_tastes o_ways o_fraction o_now_cells o_now_standing o_trial_cells o_trial_standing v_seedNow v_now_jars v_now_weeks f_now_cells v_trial_jars v_trial_weeks f_trial_cells) sz)) (va_Qi (fun r _ => r = r0) (gE (dC, dI) vwCl (gT cI cZ cG) (w_X7_seenAmong cI cZ cG o o_text o_now o_trial o_acts o_slots o_tastes o_ways o_fraction o_now_cells o_now_standing o_trial_cells o_trial_standing v_seedNow v_now_jars v_now_weeks f_now_cells n_trial_jars n_trial_weeks n_trial_cells) (va_A (w_X7_seenAmong cI cZ cG o o_text o_now o_trial o_acts o_slots o_tastes o_ways o_fraction o_now_cells o_now_standing o_trial_cells o_trial_standing v_seedNow v_now_jars v_now_weeks f_now_cells v_trial_jars v_trial_weeks f_trial_cells) sz)) (va_A (w_X7_seenAmong cI cZ cG o o_text o_now o_trial o_acts o_slots o_tastes o_ways o_fraction o_now_cells o_now_standing o_trial_cells o_trial_standing v_seedNow v_now_jars v_now_weeks f_now_cells v_trial_jars v_trial_weeks f_trial_cells) sz)) 0 0 (va_A (w_X7_seenAmong cI cZ cG o o_text o_now o_trial o_acts o_slots o_tastes o_ways o_fraction o_now_cells o_now_standing o_trial_cells o_trial_standing v_seedNow v_now_jars v_now_weeks f_now_cells v_trial_jars v_trial_weeks f_trial_cells) sz) := by
  refine Met.ofW (cc := cX7_seenAmong) (maxL := 2) (ret := (some .int)) (by decide) rfl ?_
  intro p e s m args below meth c s₁ B hml hv
  obtain ⟨rfl, hv⟩ := hv
  obtain ⟨hsz, hP, hK, hN, hD0⟩ := hv
  have hx := B.exec
  have hb := B.bytes
  have hr := B.returns
  have hts := atoms_spec (ws := wsX7_seenAmong) B.pre
  have hown : s.vm.findClass RX7 = some m.cls := findClass_of_methodNamed B.named
  have hlocks := B.notSynchronized
  have hiX2 : ∀ w ∈ u_ws RX2 TX2 4, w ∈ wsX7_seenAmong := fun w h => List.mem_cons_of_mem _ (List.mem_append_right _ h)
  have hiX7 : ∀ w ∈ u_ws RX7 TX7 9, w ∈ wsX7_seenAmong := fun w h => List.mem_cons_of_mem _ (List.mem_append_left _ (List.mem_append_right _ h))
  subst hsz
  have hD := hD0.self (sz := s.heap.size)
  generalize hAe : va_A (w_X7_seenAmong cI cZ cG o o_text o_now o_trial o_acts o_slots o_tastes o_ways o_fraction o_now_cells o_now_standing o_trial_cells o_trial_standing v_seedNow v_now_jars v_now_weeks f_now_cells v_trial_jars v_trial_weeks f_trial_cells) s.heap.size = A at hD ⊢
  have hA : ∀ q : Nat, s.heap.size ≤ q → A q := fun q h => by rw [← hAe]; exact Or.inr h
  clear hD0
  have hS : va_S A s.heap s.heap [] := va_S.rf
  have hP : va_P (dC, dI) vwCl (w_X7_seenAmong cI cZ cG o o_text o_now o_trial o_acts o_slots o_tastes o_ways o_fraction o_now_cells o_now_standing o_trial_cells o_trial_standing v_seedNow v_now_jars v_now_weeks f_now_cells v_trial_jars v_trial_weeks f_trial_cells) s.heap := hP
  obtain ⟨Q, hQ⟩ : ∃ Q : State → Prop, Q = MQ below (va_Qi (fun r _ => r = r0) (gE (dC, dI) vwCl (gT cI cZ cG) (w_X7_seenAmong cI cZ cG o o_text o_now o_trial o_acts o_slots o_tastes o_ways o_fraction o_now_cells o_now_standing o_trial_cells o_trial_standing v_seedNow v_now_jars v_now_weeks f_now_cells n_trial_jars n_trial_weeks n_trial_cells) A) A) (([Value.ref o, Value.int a1] : List Value).toArray) s 0 0 A := ⟨_, rfl⟩
  have hl := lv_entry ([.ref o, .int a1]) (n := 2) (Nat.le_of_ble_eq_true rfl)
  rw [← hQ, lg_entry_eq]
  generalize (lg_sl ([.ref o, .int a1]) ++ List.replicate (2 - (lg_sl ([.ref o, .int a1])).length) Slot.unset).toArray = ls at hl ⊢
  have hl : lv_has ls 2 [(0, .ref o), (1, .int a1)] := hl
  generalize hH : s.heap = H at hP hS ⊢
  have hS : va_S A s.heap H [] := by rw [hH]; exact hS
  generalize hlc : ([] : List Loc) = locs at hS ⊢
  show W p l e rm_X7_seenAmong s m (([Value.ref o, Value.int a1] : List Value).toArray) below meth c H locs 0 0 Q (F0 m 0 ls [])
  unfold x7_seenAmong at hf
  refine lv_aload_n hx hb dX7_seenAmong_0 rfl (lv_at hl 0 rfl) ?_
  refine va_get (D := (dC, dI)) (ci := 7) (v := .ref o_trial) (C := RX7) (T := TX7) (N := 9) hx hb hts hiX7 hown hK hP 0 rfl rfl 2 (by decide) (hts (.fieldLink RX7 23 "GreenJars" "trial" "LGreenJars$Shelf;") (by decide +kernel)) (fun _ h9 => h9) rfl dX7_seenAmong_1 ?_
  refine lv_aload_n hx hb dX7_seenAmong_4 rfl (lv_at hl 0 rfl) ?_
  refine va_get (D := (dC, dI)) (ci := 7) (v := .ref o_now) (C := RX7) (T := TX7) (N := 9) hx hb hts hiX7 hown hK hP 0 rfl rfl 1 (by decide) (hts (.fieldLink RX7 19 "GreenJars" "now" "LGreenJars$Shelf;") (by decide +kernel)) (fun _ h9 => h9) rfl dX7_seenAmong_5 ?_
  refine lv_iload_n hx hb dX7_seenAmong_8 rfl (lv_at hl 1 rfl) ?_
  refine lv_iconst (v := (-1 : Int32)) hx hb dX7_seenAmong_9 (by decide) ?_
  refine lv_ixor hx hb dX7_seenAmong_10 ?_
  obtain ⟨y1, y2, y3, hc4, hf⟩ := g_b3 hf
  refine g_wVv (As := [.ref o_now, .int (a1 ^^^ (-1 : Int32))]) (rest := []) (wr := [(o, .inr (7, [.ref o_text, .ref o_now, .ref o_trial, .ref o_acts, .ref o_slots, .ref o_tastes, .ref o_ways, .ref o_fraction, .long v_seedNow]))]) (wn := (w_X7_seenAmong cI cZ cG o o_text o_now o_trial o_acts o_slots o_tastes o_ways o_fraction o_now_cells o_now_standing o_trial_cells o_trial_standing v_seedNow v_now_jars v_now_weeks f_now_cells y1 y2 y3)) ⟨hx, hb, hml, hown, hts⟩ (c_X2_copyWithout l dC dI cI cZ cG o_trial o_trial_cells o_trial_standing o_now o_now_cells o_now_standing H.size  v_trial_jars v_trial_weeks f_trial_cells v_now_jars v_now_weeks f_now_cells (a1 ^^^ (-1 : Int32)) hc4) (cwV 2 hts gX7_seenAmong_X2_copyWithout rfl rfl rfl (by decide +kernel) ⟨Nat.le_of_ble_eq_true rfl, Nat.le_of_ble_eq_true rfl⟩) hK hN hP hD hS hA [3, 4, 1, 2] [0] [0, 3, 4, 1, 2] rfl rfl (by decide) rfl (by decide) (by decide) rfl (by decide) (va_recv hK hP (ci := 2) (q0 := 3) rfl rfl) rfl hl.1 rfl (Nat.le_of_ble_eq_true rfl) dX7_seenAmong_11 ⟨Nat.zero_le _, Nat.zero_le _⟩ (fun H locs hP hD hS => ?_)
  refine lv_aload_n hx hb dX7_seenAmong_14 rfl (lv_at hl 0 rfl) ?_
  refine va_get (D := (dC, dI)) (ci := 7) (v := .ref o_trial) (C := RX7) (T := TX7) (N := 9) hx hb hts hiX7 hown hK hP 0 rfl rfl 2 (by decide) (hts (.fieldLink RX7 23 "GreenJars" "trial" "LGreenJars$Shelf;") (by decide +kernel)) (fun _ h9 => h9) rfl dX7_seenAmong_15 ?_
  obtain ⟨r5, hc6, hf⟩ := g_b1 hf
  refine g_rV (As := []) (rest := []) ⟨hx, hb, hml, hown, hts⟩ (c_X2_countSeen l dC dI cI cZ cG o_trial o_trial_cells o_trial_standing  y1 y2 y3 hc6) (cwV 0 hts gX7_seenAmong_X2_countSeen rfl rfl rfl (by decide +kernel) ⟨Nat.le_of_ble_eq_true rfl, Nat.le_of_ble_eq_true rfl⟩) hK hN (hP.sub [3, 4] rfl) (va_recv hK hP (ci := 2) (q0 := 3) rfl rfl) rfl hl.1 rfl (Nat.le_of_ble_eq_true rfl) dX7_seenAmong_18 ⟨Nat.zero_le _, Nat.zero_le _⟩ ?_
  rw [hQ]
  cases hf
  exact W.iret hx hb hr (fun t ht hW => ⟨⟨_, (), rfl, rfl, by rw [ht]; exact hP, va_K.moved hW.alike hK, hD⟩, hS.F ht⟩) hS.2.2 dX7_seenAmong_21
abbrev rm_X7_share : Room := { frames := 5, cells := 0, slots := 0, locals := 115 }
abbrev w_X7_share (cI cZ cG : ClassId) (o : Nat) (o_text : Nat) (o_now : Nat) (o_trial : Nat) (o_acts : Nat) (o_slots : Nat) (o_tastes : Nat) (o_ways : Nat) (o_fraction : Nat) (o_now_cells : Nat) (o_now_standing : Nat) (o_trial_cells : Nat) (o_trial_standing : Nat) (v_seedNow : Int64) (v_now_jars : Int32) (v_now_weeks : Int32) (f_now_cells : Nat → Int32) (v_trial_jars : Int32) (v_trial_weeks : Int32) (f_trial_cells : Nat → Int32) (v_fraction_above : Int32) (v_fraction_below : Int32) : va_W := [(o, .inr (7, [.ref o_text, .ref o_now, .ref o_trial, .ref o_acts, .ref o_slots, .ref o_tastes, .ref o_ways, .ref o_fraction, .long v_seedNow])), (o_now, .inr (2, [.ref o_now_cells, .ref o_now_standing, .int v_now_jars, .int v_now_weeks])), (o_now_cells, .inl (cI, 48, .inl f_now_cells)), (o_trial, .inr (2, [.ref o_trial_cells, .ref o_trial_standing, .int v_trial_jars, .int v_trial_weeks])), (o_trial_cells, .inl (cI, 48, .inl f_trial_cells)), (o_fraction, .inr (1, [.int v_fraction_above, .int v_fraction_below]))]
set_option maxHeartbeats 4000000 in
set_option maxRecDepth 100000 in
theorem c_X7_share (l : Launch) (dC : Nat → ClassId) (dI : Nat → Nat → Nat) (cI cZ cG : ClassId) (tO : Nat) {N : Nat} (o : Nat) (o_text : Nat) (o_now : Nat) (o_trial : Nat) (o_acts : Nat) (o_slots : Nat) (o_tastes : Nat) (o_ways : Nat) (o_fraction : Nat) (o_now_cells : Nat) (o_now_standing : Nat) (o_trial_cells : Nat) (o_trial_standing : Nat) (sz : Nat) (v_seedNow : Int64) (v_now_jars : Int32) (v_now_weeks : Int32) (f_now_cells : Nat → Int32) (v_trial_jars : Int32) (v_trial_weeks : Int32) (f_trial_cells : Nat → Int32) (v_fraction_above : Int32) (v_fraction_below : Int32) (a1 : Int32) (a2 : Int32) {r0 : Int32} {n_trial_jars : Int32} {n_trial_weeks : Int32} {n_trial_cells : Nat → Int32} {n_fraction_above : Int32} {n_fraction_below : Int32} (hf : x7_share N v_now_jars v_now_weeks f_now_cells v_trial_jars v_trial_weeks f_trial_cells v_fraction_above v_fraction_below a1 a2 = some (r0, n_trial_jars, n_trial_weeks, n_trial_cells, n_fraction_above, n_fraction_below)) : Met l yX7_share wsX7_share rm_X7_share (va_Pc [.ref o, .int a1, .int a2] (fun U => gW (dC, dI) vwCl (gT cI cZ cG) (w_X7_share cI cZ cG o o_text o_now o_trial o_acts o_slots o_tastes o_ways o_fraction o_now_cells o_now_standing o_trial_cells o_trial_standing v_seedNow v_now_jars v_now_weeks f_now_cells v_trial_jars v_trial_weeks f_trial_cells v_fraction_above v_fraction_below) sz U ∧ gO tO (va_A (w_X7_share cI cZ cG o o_text o_now o_trial o_acts o_slots o_tastes o_ways o_fraction o_now_cells o_now_standing o_trial_cells o_trial_standing v_seedNow v_now_jars v_now_weeks f_now_cells v_trial_jars v_trial_weeks f_trial_cells v_fraction_above v_fraction_below) sz) U)) (va_Qi (fun r _ => r = r0) (gE (dC, dI) vwCl (gT cI cZ cG) (w_X7_share cI cZ cG o o_text o_now o_trial o_acts o_slots o_tastes o_ways o_fraction o_now_cells o_now_standing o_trial_cells o_trial_standing v_seedNow v_now_jars v_now_weeks f_now_cells n_trial_jars n_trial_weeks n_trial_cells n_fraction_above n_fraction_below) (va_A (w_X7_share cI cZ cG o o_text o_now o_trial o_acts o_slots o_tastes o_ways o_fraction o_now_cells o_now_standing o_trial_cells o_trial_standing v_seedNow v_now_jars v_now_weeks f_now_cells v_trial_jars v_trial_weeks f_trial_cells v_fraction_above v_fraction_below) sz)) (va_A (w_X7_share cI cZ cG o o_text o_now o_trial o_acts o_slots o_tastes o_ways o_fraction o_now_cells o_now_standing o_trial_cells o_trial_standing v_seedNow v_now_jars v_now_weeks f_now_cells v_trial_jars v_trial_weeks f_trial_cells v_fraction_above v_fraction_below) sz)) 0 0 (va_A (w_X7_share cI cZ cG o o_text o_now o_trial o_acts o_slots o_tastes o_ways o_fraction o_now_cells o_now_standing o_trial_cells o_trial_standing v_seedNow v_now_jars v_now_weeks f_now_cells v_trial_jars v_trial_weeks f_trial_cells v_fraction_above v_fraction_below) sz) := by
  refine Met.ofW (cc := cX7_share) (maxL := 10) (ret := (some .int)) (by decide) rfl ?_
  intro p e s m args below meth c s₁ B hml hv
  obtain ⟨rfl, hv⟩ := hv
  obtain ⟨hv, hO⟩ := hv
  obtain ⟨hsz, hP, hK, hN, hD0⟩ := hv
  have hx := B.exec
  have hb := B.bytes
  have hr := B.returns
  have hts := atoms_spec (ws := wsX7_share) B.pre
  have hown : s.vm.findClass RX7 = some m.cls := findClass_of_methodNamed B.named
  have hlocks := B.notSynchronized
  have hiX1 : ∀ w ∈ u_ws RX1 TX1 2, w ∈ wsX7_share := fun w h => List.mem_cons_of_mem _ (List.mem_append_right _ h)
  have hiX2 : ∀ w ∈ u_ws RX2 TX2 4, w ∈ wsX7_share := fun w h => List.mem_cons_of_mem _ (List.mem_append_left _ (List.mem_append_right _ h))
  have hiX7 : ∀ w ∈ u_ws RX7 TX7 9, w ∈ wsX7_share := fun w h => List.mem_cons_of_mem _ (List.mem_append_left _ (List.mem_append_left _ (List.mem_append_right _ h)))
  subst hsz
  have hD := hD0.self (sz := s.heap.size)
  generalize hAe : va_A (w_X7_share cI cZ cG o o_text o_now o_trial o_acts o_slots o_tastes o_ways o_fraction o_now_cells o_now_standing o_trial_cells o_trial_standing v_seedNow v_now_jars v_now_weeks f_now_cells v_trial_jars v_trial_weeks f_trial_cells v_fraction_above v_fraction_below) s.heap.size = A at hD hO ⊢
  have hA : ∀ q : Nat, s.heap.size ≤ q → A q := fun q h => by rw [← hAe]; exact Or.inr h
  clear hD0
  have hS : va_S A s.heap s.heap [] := va_S.rf
  have hP : va_P (dC, dI) vwCl (w_X7_share cI cZ cG o o_text o_now o_trial o_acts o_slots o_tastes o_ways o_fraction o_now_cells o_now_standing o_trial_cells o_trial_standing v_seedNow v_now_jars v_now_weeks f_now_cells v_trial_jars v_trial_weeks f_trial_cells v_fraction_above v_fraction_below) s.heap := hP
  obtain ⟨Q, hQ⟩ : ∃ Q : State → Prop, Q = MQ below (va_Qi (fun r _ => r = r0) (gE (dC, dI) vwCl (gT cI cZ cG) (w_X7_share cI cZ cG o o_text o_now o_trial o_acts o_slots o_tastes o_ways o_fraction o_now_cells o_now_standing o_trial_cells o_trial_standing v_seedNow v_now_jars v_now_weeks f_now_cells n_trial_jars n_trial_weeks n_trial_cells n_fraction_above n_fraction_below) A) A) (([Value.ref o, Value.int a1, Value.int a2] : List Value).toArray) s 0 0 A := ⟨_, rfl⟩
  have hl := lv_entry ([.ref o, .int a1, .int a2]) (n := 10) (Nat.le_of_ble_eq_true rfl)
  rw [← hQ, lg_entry_eq]
  generalize (lg_sl ([.ref o, .int a1, .int a2]) ++ List.replicate (10 - (lg_sl ([.ref o, .int a1, .int a2])).length) Slot.unset).toArray = ls at hl ⊢
  have hl : lv_has ls 10 [(0, .ref o), (1, .int a1), (2, .int a2)] := hl
  generalize hH : s.heap = H at hP hS ⊢
  have hS : va_S A s.heap H [] := by rw [hH]; exact hS
  generalize hlc : ([] : List Loc) = locs at hS ⊢
  show W p l e rm_X7_share s m (([Value.ref o, Value.int a1, Value.int a2] : List Value).toArray) below meth c H locs 0 0 Q (F0 m 0 ls [])
  have L39 : ∀ (n39 : Nat), ∀ (x3 : Int32) (x4 : Int32) (x5 : Int32) (x6 : Int32) (x7 : Int32) (y_trial_jars : Int32) (y_trial_weeks : Int32) (y_trial_cells : Nat → Int32) (y_fraction_above : Int32) (y_fraction_below : Int32) (H : Heap) (locs : List Loc) (ls : Array Slot), x7_share_b39 N v_now_jars v_now_weeks f_now_cells a1 a2 n39 x3 x4 x5 x6 x7 y_trial_jars y_trial_weeks y_trial_cells y_fraction_above y_fraction_below = some (r0, n_trial_jars, n_trial_weeks, n_trial_cells, n_fraction_above, n_fraction_below) → lv_has ls 10 [(0, .ref o), (2, .int a2), (3, .int x3), (4, .int x4), (5, .int x5), (6, .int x6), (7, .int x7)] → va_P (dC, dI) vwCl (w_X7_share cI cZ cG o o_text o_now o_trial o_acts o_slots o_tastes o_ways o_fraction o_now_cells o_now_standing o_trial_cells o_trial_standing v_seedNow v_now_jars v_now_weeks f_now_cells y_trial_jars y_trial_weeks y_trial_cells y_fraction_above y_fraction_below) H → va_D A (w_X7_share cI cZ cG o o_text o_now o_trial o_acts o_slots o_tastes o_ways o_fraction o_now_cells o_now_standing o_trial_cells o_trial_standing v_seedNow v_now_jars v_now_weeks f_now_cells y_trial_jars y_trial_weeks y_trial_cells y_fraction_above y_fraction_below) → va_S A s.heap H locs → W p l e rm_X7_share s m (([Value.ref o, Value.int a1, Value.int a2] : List Value).toArray) below meth c H locs 0 0 Q (F0 m 39 ls []) := by
    intro n39
    induction n39 with
    | zero =>
      intro x3 x4 x5 x6 x7 y_trial_jars y_trial_weeks y_trial_cells y_fraction_above y_fraction_below H locs ls hf hl hP hD hS
      exact g_no hf
    | succ n39 ih39 =>
      intro x3 x4 x5 x6 x7 y_trial_jars y_trial_weeks y_trial_cells y_fraction_above y_fraction_below H locs ls hf hl hP hD hS
      unfold x7_share_b39 at hf
      refine lv_iload hx hb dX7_share_39 (lv_at hl 6 rfl) ?_
      refine lv_iload hx hb dX7_share_41 (lv_at hl 3 rfl) ?_
      refine lv_icmp_gt (tgt := 108) hx hb dX7_share_43 (by decide) (fun c1 => ?_) (fun c1 => ?_)
      · have hf := g_pos c1 hf
        refine lv_aload_n hx hb dX7_share_108 rfl (lv_at hl 0 rfl) ?_
        refine va_get (D := (dC, dI)) (ci := 7) (v := .ref o_fraction) (C := RX7) (T := TX7) (N := 9) hx hb hts hiX7 hown hK hP 0 rfl rfl 7 (by decide) (hts (.fieldLink RX7 57 "GreenJars" "fraction" "LGreenJars$Fraction;") (by decide +kernel)) (fun _ h9 => h9) rfl dX7_share_109 ?_
        refine lv_iload hx hb dX7_share_112 (lv_at hl 5 rfl) ?_
        refine lv_iload_n hx hb dX7_share_114 rfl (lv_at hl 2 rfl) ?_
        obtain ⟨r2, hc3, hf⟩ := g_b1 hf
        refine g_rSo (As := [.int x3]) (rest := [.int x6, .ref o_fraction]) ⟨hx, hb, hml, hown, hts⟩ (c_X7_ordersOf l dC dI cI cZ cG tO    x3 hc3) (va_cwS 1 hts gX7_share_X7_ordersOf rfl rfl rfl (by decide +kernel) ⟨Nat.le_of_ble_eq_true rfl, Nat.le_of_ble_eq_true rfl⟩) hK hN (hP.sub [] rfl) hO hS rfl hl.1 rfl (Nat.le_of_ble_eq_true rfl) dX7_share_115 ⟨Nat.zero_le _, Nat.zero_le _⟩ ?_
        obtain ⟨y4, y5, hc6, hf⟩ := g_b2 hf
        refine g_wVv (As := [.int x6, .int r2]) (rest := []) (wr := [(o, .inr (7, [.ref o_text, .ref o_now, .ref o_trial, .ref o_acts, .ref o_slots, .ref o_tastes, .ref o_ways, .ref o_fraction, .long v_seedNow])), (o_now, .inr (2, [.ref o_now_cells, .ref o_now_standing, .int v_now_jars, .int v_now_weeks])), (o_now_cells, .inl (cI, 48, .inl f_now_cells)), (o_trial, .inr (2, [.ref o_trial_cells, .ref o_trial_standing, .int y_trial_jars, .int y_trial_weeks])), (o_trial_cells, .inl (cI, 48, .inl y_trial_cells))]) (wn := (w_X7_share cI cZ cG o o_text o_now o_trial o_acts o_slots o_tastes o_ways o_fraction o_now_cells o_now_standing o_trial_cells o_trial_standing v_seedNow v_now_jars v_now_weeks f_now_cells y_trial_jars y_trial_weeks y_trial_cells y4 y5)) ⟨hx, hb, hml, hown, hts⟩ (c_X1_make l dC dI cI cZ cG o_fraction H.size  y_fraction_above y_fraction_below x6 r2 hc6) (cwV 2 hts gX7_share_X1_make rfl rfl rfl (by decide +kernel) ⟨Nat.le_of_ble_eq_true rfl, Nat.le_of_ble_eq_true rfl⟩) hK hN hP hD hS hA [5] [0, 1, 2, 3, 4] [0, 1, 2, 3, 4, 5] rfl rfl (by decide) rfl (by decide) (by decide) rfl (by decide) (va_recv hK hP (ci := 1) (q0 := 5) rfl rfl) rfl hl.1 rfl (Nat.le_of_ble_eq_true rfl) dX7_share_118 ⟨Nat.zero_le _, Nat.zero_le _⟩ (fun H locs hP hD hS => ?_)
        refine lv_aload_n hx hb dX7_share_121 rfl (lv_at hl 0 rfl) ?_
        refine va_get (D := (dC, dI)) (ci := 7) (v := .ref o_fraction) (C := RX7) (T := TX7) (N := 9) hx hb hts hiX7 hown hK hP 0 rfl rfl 7 (by decide) (hts (.fieldLink RX7 57 "GreenJars" "fraction" "LGreenJars$Fraction;") (by decide +kernel)) (fun _ h9 => h9) rfl dX7_share_122 ?_
        refine lv_iload_n hx hb dX7_share_125 rfl (lv_at hl 1 rfl) ?_
        obtain ⟨r7, hc8, hf⟩ := g_b1 hf
        refine g_rV (As := [.int a2]) (rest := []) ⟨hx, hb, hml, hown, hts⟩ (c_X1_told l dC dI cI cZ cG o_fraction  y4 y5 a2 hc8) (cwV 1 hts gX7_share_X1_told rfl rfl rfl (by decide +kernel) ⟨Nat.le_of_ble_eq_true rfl, Nat.le_of_ble_eq_true rfl⟩) hK hN (hP.sub [5] rfl) (va_recv hK hP (ci := 1) (q0 := 5) rfl rfl) rfl hl.1 rfl (Nat.le_of_ble_eq_true rfl) dX7_share_126 ⟨Nat.zero_le _, Nat.zero_le _⟩ ?_
        rw [hQ]
        cases hf
        exact W.iret hx hb hr (fun t ht hW => ⟨⟨_, (), rfl, rfl, by rw [ht]; exact hP, va_K.moved hW.alike hK, hD⟩, hS.F ht⟩) hS.2.2 dX7_share_129
      · have hf := g_neg c1 hf
        refine lv_iload hx hb dX7_share_46 (lv_at hl 6 rfl) ?_
        refine lv_iload hx hb dX7_share_48 (lv_at hl 4 rfl) ?_
        refine lv_iand hx hb dX7_share_50 ?_
        refine lv_if_ne (tgt := 102) hx hb dX7_share_51 (by decide) (fun c9 => ?_) (fun c9 => ?_)
        · have hf := g_neg c9 hf
          refine lv_iinc (v := (x7 + (1 : Int32))) (lv' := [(7, .int (x7 + (1 : Int32))), (0, .ref o), (2, .int a2), (3, .int x3), (4, .int x4), (5, .int x5), (6, .int x6)]) hx hb dX7_share_102 hl (k := 6) rfl rfl (by decide) rfl (fun ls hl => ?_)
          refine lv_goto (tgt := 39) hx hb dX7_share_105 (by decide) ?_
          exact ih39 x3 x4 x5 x6 (x7 + (1 : Int32)) y_trial_jars y_trial_weeks y_trial_cells y_fraction_above y_fraction_below H locs ls hf (lv_sub hl [1, 2, 3, 4, 5, 6, 0] rfl) hP hD hS
        · have hf := g_pos c9 hf
          refine lv_iload hx hb dX7_share_54 (lv_at hl 6 rfl) ?_
          obtain ⟨r10, hc11, hf⟩ := g_b1 hf
          refine g_rS (As := [.int x7]) (rest := []) ⟨hx, hb, hml, hown, hts⟩ (c_J6_bitCount_0f7a4 l dC dI cI cZ cG    x7 hc11) (va_cwS 1 hts gX7_share_J6_bitCount_0f7a4 rfl rfl rfl (by decide +kernel) ⟨Nat.le_of_ble_eq_true rfl, Nat.le_of_ble_eq_true rfl⟩) hK hN (hP.sub [] rfl) rfl hl.1 rfl (Nat.le_of_ble_eq_true rfl) dX7_share_56 ⟨Nat.zero_le _, Nat.zero_le _⟩ ?_
          refine lv_istore (lv' := [(8, .int r10), (0, .ref o), (2, .int a2), (3, .int x3), (4, .int x4), (5, .int x5), (6, .int x6), (7, .int x7)]) hx hb dX7_share_59 hl (by decide) rfl (fun ls hl => ?_)
          refine lv_aload_n hx hb dX7_share_61 rfl (lv_at hl 1 rfl) ?_
          refine lv_iload hx hb dX7_share_62 (lv_at hl 7 rfl) ?_
          refine lv_iload hx hb dX7_share_64 (lv_at hl 5 rfl) ?_
          refine lv_ior hx hb dX7_share_66 ?_
          obtain ⟨r12, y13, y14, y15, hc16, hf⟩ := g_b4 hf
          refine g_wV (As := [.int (x7 ||| x5)]) (rest := []) (wr := [(o_fraction, .inr (1, [.int y_fraction_above, .int y_fraction_below]))]) (wn := (w_X7_share cI cZ cG o o_text o_now o_trial o_acts o_slots o_tastes o_ways o_fraction o_now_cells o_now_standing o_trial_cells o_trial_standing v_seedNow v_now_jars v_now_weeks f_now_cells y13 y14 y15 y_fraction_above y_fraction_below)) ⟨hx, hb, hml, hown, hts⟩ (c_X7_seenAmong l dC dI cI cZ cG o o_text o_now o_trial o_acts o_slots o_tastes o_ways o_fraction o_now_cells o_now_standing o_trial_cells o_trial_standing H.size  v_seedNow v_now_jars v_now_weeks f_now_cells y_trial_jars y_trial_weeks y_trial_cells (x7 ||| x5) hc16) (cwV 1 hts gX7_share_X7_seenAmong rfl rfl rfl (by decide +kernel) ⟨Nat.le_of_ble_eq_true rfl, Nat.le_of_ble_eq_true rfl⟩) hK hN hP hD hS hA [0, 1, 2, 3, 4] [5] [1, 2, 3, 4, 5, 0] rfl rfl (by decide) rfl (by decide) (by decide) rfl (by decide) (va_recv hK hP (ci := 7) (q0 := 0) rfl rfl) rfl hl.1 rfl (Nat.le_of_ble_eq_true rfl) dX7_share_67 ⟨Nat.zero_le _, Nat.zero_le _⟩ (fun H locs hP hD hS => ?_)
          refine lv_aload_n hx hb dX7_share_70 rfl (lv_at hl 1 rfl) ?_
          refine lv_iload hx hb dX7_share_71 (lv_at hl 7 rfl) ?_
          obtain ⟨r17, y18, y19, y20, hc21, hf⟩ := g_b4 hf
          refine g_wV (As := [.int x7]) (rest := [.int r12]) (wr := [(o_fraction, .inr (1, [.int y_fraction_above, .int y_fraction_below]))]) (wn := (w_X7_share cI cZ cG o o_text o_now o_trial o_acts o_slots o_tastes o_ways o_fraction o_now_cells o_now_standing o_trial_cells o_trial_standing v_seedNow v_now_jars v_now_weeks f_now_cells y18 y19 y20 y_fraction_above y_fraction_below)) ⟨hx, hb, hml, hown, hts⟩ (c_X7_seenAmong l dC dI cI cZ cG o o_text o_now o_trial o_acts o_slots o_tastes o_ways o_fraction o_now_cells o_now_standing o_trial_cells o_trial_standing H.size  v_seedNow v_now_jars v_now_weeks f_now_cells y13 y14 y15 x7 hc21) (cwV 1 hts gX7_share_X7_seenAmong rfl rfl rfl (by decide +kernel) ⟨Nat.le_of_ble_eq_true rfl, Nat.le_of_ble_eq_true rfl⟩) hK hN hP hD hS hA [0, 1, 2, 3, 4] [5] [1, 2, 3, 4, 5, 0] rfl rfl (by decide) rfl (by decide) (by decide) rfl (by decide) (va_recv hK hP (ci := 7) (q0 := 0) rfl rfl) rfl hl.1 rfl (Nat.le_of_ble_eq_true rfl) dX7_share_73 ⟨Nat.zero_le _, Nat.zero_le _⟩ (fun H locs hP hD hS => ?_)
          refine lv_isub hx hb dX7_share_76 ?_
          refine lv_istore (lv' := [(9, .int (r12 - r17)), (8, .int r10), (0, .ref o), (2, .int a2), (3, .int x3), (4, .int x4), (5, .int x5), (6, .int x6), (7, .int x7)]) hx hb dX7_share_77 hl (by decide) rfl (fun ls hl => ?_)
          refine lv_iload hx hb dX7_share_79 (lv_at hl 7 rfl) ?_
          refine lv_iload hx hb dX7_share_81 (lv_at hl 0 rfl) ?_
          refine lv_iload hx hb dX7_share_83 (lv_at hl 1 rfl) ?_
          obtain ⟨r22, hc23, hf⟩ := g_b1 hf
          refine g_rSo (As := [.int r10]) (rest := [.int (r12 - r17), .int x6]) ⟨hx, hb, hml, hown, hts⟩ (c_X7_ordersOf l dC dI cI cZ cG tO    r10 hc23) (va_cwS 1 hts gX7_share_X7_ordersOf rfl rfl rfl (by decide +kernel) ⟨Nat.le_of_ble_eq_true rfl, Nat.le_of_ble_eq_true rfl⟩) hK hN (hP.sub [] rfl) hO hS rfl hl.1 rfl (Nat.le_of_ble_eq_true rfl) dX7_share_85 ⟨Nat.zero_le _, Nat.zero_le _⟩ ?_
          refine lv_imul hx hb dX7_share_88 ?_
          refine lv_iload_n hx hb dX7_share_89 rfl (lv_at hl 4 rfl) ?_
          refine lv_iconst (v := (1 : Int32)) hx hb dX7_share_90 (by decide) ?_
          refine lv_isub hx hb dX7_share_91 ?_
          refine lv_iload hx hb dX7_share_92 (lv_at hl 1 rfl) ?_
          refine lv_isub hx hb dX7_share_94 ?_
          obtain ⟨r24, hc25, hf⟩ := g_b1 hf
          refine g_rSo (As := [.int ((x3 - (1 : Int32)) - r10)]) (rest := [.int ((r12 - r17) * r22), .int x6]) ⟨hx, hb, hml, hown, hts⟩ (c_X7_ordersOf l dC dI cI cZ cG tO    ((x3 - (1 : Int32)) - r10) hc25) (va_cwS 1 hts gX7_share_X7_ordersOf rfl rfl rfl (by decide +kernel) ⟨Nat.le_of_ble_eq_true rfl, Nat.le_of_ble_eq_true rfl⟩) hK hN (hP.sub [] rfl) hO hS rfl hl.1 rfl (Nat.le_of_ble_eq_true rfl) dX7_share_95 ⟨Nat.zero_le _, Nat.zero_le _⟩ ?_
          refine lv_imul hx hb dX7_share_98 ?_
          refine lv_iadd hx hb dX7_share_99 ?_
          refine lv_istore (lv' := [(6, .int (x6 + (((r12 - r17) * r22) * r24))), (9, .int (r12 - r17)), (8, .int r10), (0, .ref o), (2, .int a2), (3, .int x3), (4, .int x4), (5, .int x5), (7, .int x7)]) hx hb dX7_share_100 hl (by decide) rfl (fun ls hl => ?_)
          refine lv_iinc (v := (x7 + (1 : Int32))) (lv' := [(7, .int (x7 + (1 : Int32))), (6, .int (x6 + (((r12 - r17) * r22) * r24))), (9, .int (r12 - r17)), (8, .int r10), (0, .ref o), (2, .int a2), (3, .int x3), (4, .int x4), (5, .int x5)]) hx hb dX7_share_102 hl (k := 8) rfl rfl (by decide) rfl (fun ls hl => ?_)
          refine lv_goto (tgt := 39) hx hb dX7_share_105 (by decide) ?_
          exact ih39 x3 x4 x5 (x6 + (((r12 - r17) * r22) * r24)) (x7 + (1 : Int32)) y18 y19 y20 y_fraction_above y_fraction_below H locs ls hf (lv_sub hl [4, 5, 6, 7, 8, 1, 0] rfl) hP hD hS
  unfold x7_share at hf
  refine lv_aload_n hx hb dX7_share_0 rfl (lv_at hl 0 rfl) ?_
  refine va_get (D := (dC, dI)) (ci := 7) (v := .ref o_now) (C := RX7) (T := TX7) (N := 9) hx hb hts hiX7 hown hK hP 0 rfl rfl 1 (by decide) (hts (.fieldLink RX7 19 "GreenJars" "now" "LGreenJars$Shelf;") (by decide +kernel)) (fun _ h9 => h9) rfl dX7_share_1 ?_
  refine lv_iload_n hx hb dX7_share_4 rfl (lv_at hl 1 rfl) ?_
  obtain ⟨r26, hc27, hf⟩ := g_b1 hf
  refine g_rV (As := [.int a1]) (rest := []) ⟨hx, hb, hml, hown, hts⟩ (c_X2_has l dC dI cI cZ cG o_now o_now_cells o_now_standing  v_now_jars v_now_weeks a1 hc27) (cwV 1 hts gX7_share_X2_has rfl rfl rfl (by decide +kernel) ⟨Nat.le_of_ble_eq_true rfl, Nat.le_of_ble_eq_true rfl⟩) hK hN (hP.sub [1] rfl) (va_recv hK hP (ci := 2) (q0 := 1) rfl rfl) rfl hl.1 rfl (Nat.le_of_ble_eq_true rfl) dX7_share_5 ⟨Nat.zero_le _, Nat.zero_le _⟩ ?_
  refine lv_if_ne (tgt := 13) hx hb dX7_share_8 (by decide) (fun c28 => ?_) (fun c28 => ?_)
  · have hf := g_neg c28 hf
    refine lv_aload_n hx hb dX7_share_13 rfl (lv_at hl 0 rfl) ?_
    refine va_get (D := (dC, dI)) (ci := 7) (v := .ref o_now) (C := RX7) (T := TX7) (N := 9) hx hb hts hiX7 hown hK hP 0 rfl rfl 1 (by decide) (hts (.fieldLink RX7 19 "GreenJars" "now" "LGreenJars$Shelf;") (by decide +kernel)) (fun _ h9 => h9) rfl dX7_share_14 ?_
    obtain ⟨r29, hc30, hf⟩ := g_b1 hf
    refine g_rV (As := []) (rest := []) ⟨hx, hb, hml, hown, hts⟩ (c_X2_jars l dC dI cI cZ cG o_now o_now_cells o_now_standing  v_now_jars v_now_weeks hc30) (cwV 0 hts gX7_share_X2_jars rfl rfl rfl (by decide +kernel) ⟨Nat.le_of_ble_eq_true rfl, Nat.le_of_ble_eq_true rfl⟩) hK hN (hP.sub [1] rfl) (va_recv hK hP (ci := 2) (q0 := 1) rfl rfl) rfl hl.1 rfl (Nat.le_of_ble_eq_true rfl) dX7_share_17 ⟨Nat.zero_le _, Nat.zero_le _⟩ ?_
    refine lv_istore_n (lv' := [(3, .int r29), (0, .ref o), (1, .int a1), (2, .int a2)]) hx hb dX7_share_20 rfl hl (by decide) rfl (fun ls hl => ?_)
    refine lv_iconst (v := (1 : Int32)) hx hb dX7_share_21 (by decide) ?_
    refine lv_iload_n hx hb dX7_share_22 rfl (lv_at hl 0 rfl) ?_
    refine lv_ishl hx hb dX7_share_23 ?_
    refine lv_iconst (v := (1 : Int32)) hx hb dX7_share_24 (by decide) ?_
    refine lv_isub hx hb dX7_share_25 ?_
    refine lv_istore (lv' := [(4, .int (((1 : Int32) <<< (r29 &&& 31)) - (1 : Int32))), (3, .int r29), (0, .ref o), (1, .int a1), (2, .int a2)]) hx hb dX7_share_26 hl (by decide) rfl (fun ls hl => ?_)
    refine lv_iconst (v := (1 : Int32)) hx hb dX7_share_28 (by decide) ?_
    refine lv_iload_n hx hb dX7_share_29 rfl (lv_at hl 3 rfl) ?_
    refine lv_ishl hx hb dX7_share_30 ?_
    refine lv_istore (lv' := [(5, .int ((1 : Int32) <<< (a1 &&& 31))), (4, .int (((1 : Int32) <<< (r29 &&& 31)) - (1 : Int32))), (3, .int r29), (0, .ref o), (1, .int a1), (2, .int a2)]) hx hb dX7_share_31 hl (by decide) rfl (fun ls hl => ?_)
    refine lv_iconst (v := (0 : Int32)) hx hb dX7_share_33 (by decide) ?_
    refine lv_istore (lv' := [(6, .int (0 : Int32)), (5, .int ((1 : Int32) <<< (a1 &&& 31))), (4, .int (((1 : Int32) <<< (r29 &&& 31)) - (1 : Int32))), (3, .int r29), (0, .ref o), (1, .int a1), (2, .int a2)]) hx hb dX7_share_34 hl (by decide) rfl (fun ls hl => ?_)
    refine lv_iconst (v := (0 : Int32)) hx hb dX7_share_36 (by decide) ?_
    refine lv_istore (lv' := [(7, .int (0 : Int32)), (6, .int (0 : Int32)), (5, .int ((1 : Int32) <<< (a1 &&& 31))), (4, .int (((1 : Int32) <<< (r29 &&& 31)) - (1 : Int32))), (3, .int r29), (0, .ref o), (1, .int a1), (2, .int a2)]) hx hb dX7_share_37 hl (by decide) rfl (fun ls hl => ?_)
    exact L39 N r29 (((1 : Int32) <<< (r29 &&& 31)) - (1 : Int32)) ((1 : Int32) <<< (a1 &&& 31)) (0 : Int32) (0 : Int32) v_trial_jars v_trial_weeks f_trial_cells v_fraction_above v_fraction_below H locs ls hf (lv_sub hl [5, 7, 4, 3, 2, 1, 0] rfl) hP hD hS
  · have hf := g_pos c28 hf
    refine lv_iconst (v := (-1 : Int32)) hx hb dX7_share_11 (by decide) ?_
    rw [hQ]
    cases hf
    exact W.iret hx hb hr (fun t ht hW => ⟨⟨_, (), rfl, rfl, by rw [ht]; exact hP, va_K.moved hW.alike hK, hD⟩, hS.F ht⟩) hS.2.2 dX7_share_12
abbrev rm_X7_taste : Room := { frames := 1, cells := 0, slots := 0, locals := 22 }
abbrev w_X7_taste (cI cZ cG : ClassId) (o : Nat) (o_text : Nat) (o_now : Nat) (o_trial : Nat) (o_acts : Nat) (o_slots : Nat) (o_tastes : Nat) (o_ways : Nat) (o_fraction : Nat) (o_tastes_went : Nat) (o_tastes_came : Nat) (v_seedNow : Int64) (v_tastes_count : Int32) (f_tastes_went : Nat → Int32) (f_tastes_came : Nat → Int32) : va_W := [(o, .inr (7, [.ref o_text, .ref o_now, .ref o_trial, .ref o_acts, .ref o_slots, .ref o_tastes, .ref o_ways, .ref o_fraction, .long v_seedNow])), (o_tastes, .inr (4, [.ref o_tastes_went, .ref o_tastes_came, .int v_tastes_count])), (o_tastes_went, .inl (cI, 6, .inl f_tastes_went)), (o_tastes_came, .inl (cI, 6, .inl f_tastes_came))]
set_option maxHeartbeats 4000000 in
set_option maxRecDepth 100000 in
theorem c_X7_taste (l : Launch) (dC : Nat → ClassId) (dI : Nat → Nat → Nat) (cI cZ cG : ClassId) (o : Nat) (o_text : Nat) (o_now : Nat) (o_trial : Nat) (o_acts : Nat) (o_slots : Nat) (o_tastes : Nat) (o_ways : Nat) (o_fraction : Nat) (o_tastes_went : Nat) (o_tastes_came : Nat) (sz : Nat) (v_seedNow : Int64) (v_tastes_count : Int32) (f_tastes_went : Nat → Int32) (f_tastes_came : Nat → Int32) (a1 : Int32) (a2 : Int32) {r0 : Int32} {n_tastes_count : Int32} {n_tastes_went : Nat → Int32} {n_tastes_came : Nat → Int32} (hf : x7_taste v_tastes_count f_tastes_went f_tastes_came a1 a2 = some (r0, n_tastes_count, n_tastes_went, n_tastes_came)) : Met l yX7_taste wsX7_taste rm_X7_taste (va_Pc [.ref o, .int a1, .int a2] (gW (dC, dI) vwCl (gT cI cZ cG) (w_X7_taste cI cZ cG o o_text o_now o_trial o_acts o_slots o_tastes o_ways o_fraction o_tastes_went o_tastes_came v_seedNow v_tastes_count f_tastes_went f_tastes_came) sz)) (va_Qi (fun r _ => r = r0) (gE (dC, dI) vwCl (gT cI cZ cG) (w_X7_taste cI cZ cG o o_text o_now o_trial o_acts o_slots o_tastes o_ways o_fraction o_tastes_went o_tastes_came v_seedNow n_tastes_count n_tastes_went n_tastes_came) (va_A (w_X7_taste cI cZ cG o o_text o_now o_trial o_acts o_slots o_tastes o_ways o_fraction o_tastes_went o_tastes_came v_seedNow v_tastes_count f_tastes_went f_tastes_came) sz)) (va_A (w_X7_taste cI cZ cG o o_text o_now o_trial o_acts o_slots o_tastes o_ways o_fraction o_tastes_went o_tastes_came v_seedNow v_tastes_count f_tastes_went f_tastes_came) sz)) 0 0 (va_A (w_X7_taste cI cZ cG o o_text o_now o_trial o_acts o_slots o_tastes o_ways o_fraction o_tastes_went o_tastes_came v_seedNow v_tastes_count f_tastes_went f_tastes_came) sz) := by
  refine Met.ofW (cc := cX7_taste) (maxL := 3) (ret := (some .int)) (by decide) rfl ?_
  intro p e s m args below meth c s₁ B hml hv
  obtain ⟨rfl, hv⟩ := hv
  obtain ⟨hsz, hP, hK, hN, hD0⟩ := hv
  have hx := B.exec
  have hb := B.bytes
  have hr := B.returns
  have hts := atoms_spec (ws := wsX7_taste) B.pre
  have hown : s.vm.findClass RX7 = some m.cls := findClass_of_methodNamed B.named
  have hlocks := B.notSynchronized
  have hiX4 : ∀ w ∈ u_ws RX4 TX4 3, w ∈ wsX7_taste := fun w h => List.mem_cons_of_mem _ (List.mem_append_right _ h)
  have hiX7 : ∀ w ∈ u_ws RX7 TX7 9, w ∈ wsX7_taste := fun w h => List.mem_cons_of_mem _ (List.mem_append_left _ (List.mem_append_right _ h))
  subst hsz
  have hD := hD0.self (sz := s.heap.size)
  generalize hAe : va_A (w_X7_taste cI cZ cG o o_text o_now o_trial o_acts o_slots o_tastes o_ways o_fraction o_tastes_went o_tastes_came v_seedNow v_tastes_count f_tastes_went f_tastes_came) s.heap.size = A at hD ⊢
  have hA : ∀ q : Nat, s.heap.size ≤ q → A q := fun q h => by rw [← hAe]; exact Or.inr h
  clear hD0
  have hS : va_S A s.heap s.heap [] := va_S.rf
  have hP : va_P (dC, dI) vwCl (w_X7_taste cI cZ cG o o_text o_now o_trial o_acts o_slots o_tastes o_ways o_fraction o_tastes_went o_tastes_came v_seedNow v_tastes_count f_tastes_went f_tastes_came) s.heap := hP
  obtain ⟨Q, hQ⟩ : ∃ Q : State → Prop, Q = MQ below (va_Qi (fun r _ => r = r0) (gE (dC, dI) vwCl (gT cI cZ cG) (w_X7_taste cI cZ cG o o_text o_now o_trial o_acts o_slots o_tastes o_ways o_fraction o_tastes_went o_tastes_came v_seedNow n_tastes_count n_tastes_went n_tastes_came) A) A) (([Value.ref o, Value.int a1, Value.int a2] : List Value).toArray) s 0 0 A := ⟨_, rfl⟩
  have hl := lv_entry ([.ref o, .int a1, .int a2]) (n := 3) (Nat.le_of_ble_eq_true rfl)
  rw [← hQ, lg_entry_eq]
  generalize (lg_sl ([.ref o, .int a1, .int a2]) ++ List.replicate (3 - (lg_sl ([.ref o, .int a1, .int a2])).length) Slot.unset).toArray = ls at hl ⊢
  have hl : lv_has ls 3 [(0, .ref o), (1, .int a1), (2, .int a2)] := hl
  generalize hH : s.heap = H at hP hS ⊢
  have hS : va_S A s.heap H [] := by rw [hH]; exact hS
  generalize hlc : ([] : List Loc) = locs at hS ⊢
  show W p l e rm_X7_taste s m (([Value.ref o, Value.int a1, Value.int a2] : List Value).toArray) below meth c H locs 0 0 Q (F0 m 0 ls [])
  unfold x7_taste at hf
  refine lv_iload_n hx hb dX7_taste_0 rfl (lv_at hl 1 rfl) ?_
  obtain ⟨r1, hc2, hf⟩ := g_b1 hf
  refine g_rS (As := [.int a1]) (rest := []) ⟨hx, hb, hml, hown, hts⟩ (c_X7_isFigure l dC dI cI cZ cG    a1 hc2) (va_cwS 1 hts gX7_taste_X7_isFigure rfl rfl rfl (by decide +kernel) ⟨Nat.le_of_ble_eq_true rfl, Nat.le_of_ble_eq_true rfl⟩) hK hN (hP.sub [] rfl) rfl hl.1 rfl (Nat.le_of_ble_eq_true rfl) dX7_taste_1 ⟨Nat.zero_le _, Nat.zero_le _⟩ ?_
  refine lv_if_eq (tgt := 14) hx hb dX7_taste_4 (by decide) (fun c3 => ?_) (fun c3 => ?_)
  · have hf := g_pos c3 hf
    refine lv_bipush (v := (-2 : Int32)) hx hb dX7_taste_14 (by decide +kernel) ?_
    rw [hQ]
    cases hf
    exact W.iret hx hb hr (fun t ht hW => ⟨⟨_, (), rfl, rfl, by rw [ht]; exact hP, va_K.moved hW.alike hK, hD⟩, hS.F ht⟩) hS.2.2 dX7_taste_16
  · have hf := g_neg c3 hf
    refine lv_iload_n hx hb dX7_taste_7 rfl (lv_at hl 2 rfl) ?_
    obtain ⟨r4, hc5, hf⟩ := g_b1 hf
    refine g_rS (As := [.int a2]) (rest := []) ⟨hx, hb, hml, hown, hts⟩ (c_X7_isFigure l dC dI cI cZ cG    a2 hc5) (va_cwS 1 hts gX7_taste_X7_isFigure rfl rfl rfl (by decide +kernel) ⟨Nat.le_of_ble_eq_true rfl, Nat.le_of_ble_eq_true rfl⟩) hK hN (hP.sub [] rfl) rfl hl.1 rfl (Nat.le_of_ble_eq_true rfl) dX7_taste_8 ⟨Nat.zero_le _, Nat.zero_le _⟩ ?_
    refine lv_if_ne (tgt := 17) hx hb dX7_taste_11 (by decide) (fun c6 => ?_) (fun c6 => ?_)
    · have hf := g_neg c6 hf
      refine lv_aload_n hx hb dX7_taste_17 rfl (lv_at hl 0 rfl) ?_
      refine va_get (D := (dC, dI)) (ci := 7) (v := .ref o_tastes) (C := RX7) (T := TX7) (N := 9) hx hb hts hiX7 hown hK hP 0 rfl rfl 5 (by decide) (hts (.fieldLink RX7 43 "GreenJars" "tastes" "LGreenJars$Tastes;") (by decide +kernel)) (fun _ h9 => h9) rfl dX7_taste_18 ?_
      refine lv_iload_n hx hb dX7_taste_21 rfl (lv_at hl 1 rfl) ?_
      refine lv_iload_n hx hb dX7_taste_22 rfl (lv_at hl 2 rfl) ?_
      obtain ⟨r7, y8, y9, y10, hc11, hf⟩ := g_b4 hf
      refine g_wV (As := [.int a1, .int a2]) (rest := []) (wr := [(o, .inr (7, [.ref o_text, .ref o_now, .ref o_trial, .ref o_acts, .ref o_slots, .ref o_tastes, .ref o_ways, .ref o_fraction, .long v_seedNow]))]) (wn := (w_X7_taste cI cZ cG o o_text o_now o_trial o_acts o_slots o_tastes o_ways o_fraction o_tastes_went o_tastes_came v_seedNow y8 y9 y10)) ⟨hx, hb, hml, hown, hts⟩ (c_X4_add l dC dI cI cZ cG o_tastes o_tastes_went o_tastes_came H.size  v_tastes_count f_tastes_went f_tastes_came a1 a2 hc11) (cwV 2 hts gX7_taste_X4_add rfl rfl rfl (by decide +kernel) ⟨Nat.le_of_ble_eq_true rfl, Nat.le_of_ble_eq_true rfl⟩) hK hN hP hD hS hA [1, 2, 3] [0] [0, 1, 2, 3] rfl rfl (by decide) rfl (by decide) (by decide) rfl (by decide) (va_recv hK hP (ci := 4) (q0 := 1) rfl rfl) rfl hl.1 rfl (Nat.le_of_ble_eq_true rfl) dX7_taste_23 ⟨Nat.zero_le _, Nat.zero_le _⟩ (fun H locs hP hD hS => ?_)
      refine lv_if_eq (tgt := 39) hx hb dX7_taste_26 (by decide) (fun c12 => ?_) (fun c12 => ?_)
      · have hf := g_pos c12 hf
        refine lv_bipush (v := (-4 : Int32)) hx hb dX7_taste_39 (by decide +kernel) ?_
        rw [hQ]
        cases hf
        exact W.iret hx hb hr (fun t ht hW => ⟨⟨_, (), rfl, rfl, by rw [ht]; exact hP, va_K.moved hW.alike hK, hD⟩, hS.F ht⟩) hS.2.2 dX7_taste_41
      · have hf := g_neg c12 hf
        refine lv_aload_n hx hb dX7_taste_29 rfl (lv_at hl 0 rfl) ?_
        refine va_get (D := (dC, dI)) (ci := 7) (v := .ref o_tastes) (C := RX7) (T := TX7) (N := 9) hx hb hts hiX7 hown hK hP 0 rfl rfl 5 (by decide) (hts (.fieldLink RX7 43 "GreenJars" "tastes" "LGreenJars$Tastes;") (by decide +kernel)) (fun _ h9 => h9) rfl dX7_taste_30 ?_
        obtain ⟨r13, hc14, hf⟩ := g_b1 hf
        refine g_rV (As := []) (rest := []) ⟨hx, hb, hml, hown, hts⟩ (c_X4_count l dC dI cI cZ cG o_tastes o_tastes_went o_tastes_came  y8 hc14) (cwV 0 hts gX7_taste_X4_count rfl rfl rfl (by decide +kernel) ⟨Nat.le_of_ble_eq_true rfl, Nat.le_of_ble_eq_true rfl⟩) hK hN (hP.sub [1] rfl) (va_recv hK hP (ci := 4) (q0 := 1) rfl rfl) rfl hl.1 rfl (Nat.le_of_ble_eq_true rfl) dX7_taste_33 ⟨Nat.zero_le _, Nat.zero_le _⟩ ?_
        refine lv_goto (tgt := 41) hx hb dX7_taste_36 (by decide) ?_
        rw [hQ]
        cases hf
        exact W.iret hx hb hr (fun t ht hW => ⟨⟨_, (), rfl, rfl, by rw [ht]; exact hP, va_K.moved hW.alike hK, hD⟩, hS.F ht⟩) hS.2.2 dX7_taste_41
    · have hf := g_pos c6 hf
      refine lv_bipush (v := (-2 : Int32)) hx hb dX7_taste_14 (by decide +kernel) ?_
      rw [hQ]
      cases hf
      exact W.iret hx hb hr (fun t ht hW => ⟨⟨_, (), rfl, rfl, by rw [ht]; exact hP, va_K.moved hW.alike hK, hD⟩, hS.F ht⟩) hS.2.2 dX7_taste_16
abbrev rm_X7_untaste : Room := { frames := 1, cells := 0, slots := 0, locals := 20 }
abbrev w_X7_untaste (cI cZ cG : ClassId) (o : Nat) (o_text : Nat) (o_now : Nat) (o_trial : Nat) (o_acts : Nat) (o_slots : Nat) (o_tastes : Nat) (o_ways : Nat) (o_fraction : Nat) (o_tastes_went : Nat) (o_tastes_came : Nat) (v_seedNow : Int64) (v_tastes_count : Int32) : va_W := [(o, .inr (7, [.ref o_text, .ref o_now, .ref o_trial, .ref o_acts, .ref o_slots, .ref o_tastes, .ref o_ways, .ref o_fraction, .long v_seedNow])), (o_tastes, .inr (4, [.ref o_tastes_went, .ref o_tastes_came, .int v_tastes_count]))]
set_option maxHeartbeats 4000000 in
set_option maxRecDepth 100000 in
theorem c_X7_untaste (l : Launch) (dC : Nat → ClassId) (dI : Nat → Nat → Nat) (cI cZ cG : ClassId) (o : Nat) (o_text : Nat) (o_now : Nat) (o_trial : Nat) (o_acts : Nat) (o_slots : Nat) (o_tastes : Nat) (o_ways : Nat) (o_fraction : Nat) (o_tastes_went : Nat) (o_tastes_came : Nat) (sz : Nat) (v_seedNow : Int64) (v_tastes_count : Int32) {r0 : Int32} {n_tastes_count : Int32} (hf : x7_untaste v_tastes_count = some (r0, n_tastes_count)) : Met l yX7_untaste wsX7_untaste rm_X7_untaste (va_Pc [.ref o] (gW (dC, dI) vwCl (gT cI cZ cG) (w_X7_untaste cI cZ cG o o_text o_now o_trial o_acts o_slots o_tastes o_ways o_fraction o_tastes_went o_tastes_came v_seedNow v_tastes_count) sz)) (va_Qi (fun r _ => r = r0) (gE (dC, dI) vwCl (gT cI cZ cG) (w_X7_untaste cI cZ cG o o_text o_now o_trial o_acts o_slots o_tastes o_ways o_fraction o_tastes_went o_tastes_came v_seedNow n_tastes_count) (va_A (w_X7_untaste cI cZ cG o o_text o_now o_trial o_acts o_slots o_tastes o_ways o_fraction o_tastes_went o_tastes_came v_seedNow v_tastes_count) sz)) (va_A (w_X7_untaste cI cZ cG o o_text o_now o_trial o_acts o_slots o_tastes o_ways o_fraction o_tastes_went o_tastes_came v_seedNow v_tastes_count) sz)) 0 0 (va_A (w_X7_untaste cI cZ cG o o_text o_now o_trial o_acts o_slots o_tastes o_ways o_fraction o_tastes_went o_tastes_came v_seedNow v_tastes_count) sz) := by
  refine Met.ofW (cc := cX7_untaste) (maxL := 2) (ret := (some .int)) (by decide) rfl ?_
  intro p e s m args below meth c s₁ B hml hv
  obtain ⟨rfl, hv⟩ := hv
  obtain ⟨hsz, hP, hK, hN, hD0⟩ := hv
  have hx := B.exec
  have hb := B.bytes
  have hr := B.returns
  have hts := atoms_spec (ws := wsX7_untaste) B.pre
  have hown : s.vm.findClass RX7 = some m.cls := findClass_of_methodNamed B.named
  have hlocks := B.notSynchronized
  have hiX4 : ∀ w ∈ u_ws RX4 TX4 3, w ∈ wsX7_untaste := fun w h => List.mem_cons_of_mem _ (List.mem_append_right _ h)
  have hiX7 : ∀ w ∈ u_ws RX7 TX7 9, w ∈ wsX7_untaste := fun w h => List.mem_cons_of_mem _ (List.mem_append_left _ (List.mem_append_right _ h))
  subst hsz
  have hD := hD0.self (sz := s.heap.size)
  generalize hAe : va_A (w_X7_untaste cI cZ cG o o_text o_now o_trial o_acts o_slots o_tastes o_ways o_fraction o_tastes_went o_tastes_came v_seedNow v_tastes_count) s.heap.size = A at hD ⊢
  have hA : ∀ q : Nat, s.heap.size ≤ q → A q := fun q h => by rw [← hAe]; exact Or.inr h
  clear hD0
  have hS : va_S A s.heap s.heap [] := va_S.rf
  have hP : va_P (dC, dI) vwCl (w_X7_untaste cI cZ cG o o_text o_now o_trial o_acts o_slots o_tastes o_ways o_fraction o_tastes_went o_tastes_came v_seedNow v_tastes_count) s.heap := hP
  obtain ⟨Q, hQ⟩ : ∃ Q : State → Prop, Q = MQ below (va_Qi (fun r _ => r = r0) (gE (dC, dI) vwCl (gT cI cZ cG) (w_X7_untaste cI cZ cG o o_text o_now o_trial o_acts o_slots o_tastes o_ways o_fraction o_tastes_went o_tastes_came v_seedNow n_tastes_count) A) A) (([Value.ref o] : List Value).toArray) s 0 0 A := ⟨_, rfl⟩
  have hl := lv_entry ([.ref o]) (n := 2) (Nat.le_of_ble_eq_true rfl)
  rw [← hQ, lg_entry_eq]
  generalize (lg_sl ([.ref o]) ++ List.replicate (2 - (lg_sl ([.ref o])).length) Slot.unset).toArray = ls at hl ⊢
  have hl : lv_has ls 2 [(0, .ref o)] := hl
  generalize hH : s.heap = H at hP hS ⊢
  have hS : va_S A s.heap H [] := by rw [hH]; exact hS
  generalize hlc : ([] : List Loc) = locs at hS ⊢
  show W p l e rm_X7_untaste s m (([Value.ref o] : List Value).toArray) below meth c H locs 0 0 Q (F0 m 0 ls [])
  unfold x7_untaste at hf
  refine lv_aload_n hx hb dX7_untaste_0 rfl (lv_at hl 0 rfl) ?_
  refine va_get (D := (dC, dI)) (ci := 7) (v := .ref o_tastes) (C := RX7) (T := TX7) (N := 9) hx hb hts hiX7 hown hK hP 0 rfl rfl 5 (by decide) (hts (.fieldLink RX7 43 "GreenJars" "tastes" "LGreenJars$Tastes;") (by decide +kernel)) (fun _ h9 => h9) rfl dX7_untaste_1 ?_
  obtain ⟨r1, hc2, hf⟩ := g_b1 hf
  refine g_rV (As := []) (rest := []) ⟨hx, hb, hml, hown, hts⟩ (c_X4_count l dC dI cI cZ cG o_tastes o_tastes_went o_tastes_came  v_tastes_count hc2) (cwV 0 hts gX7_untaste_X4_count rfl rfl rfl (by decide +kernel) ⟨Nat.le_of_ble_eq_true rfl, Nat.le_of_ble_eq_true rfl⟩) hK hN (hP.sub [1] rfl) (va_recv hK hP (ci := 4) (q0 := 1) rfl rfl) rfl hl.1 rfl (Nat.le_of_ble_eq_true rfl) dX7_untaste_4 ⟨Nat.zero_le _, Nat.zero_le _⟩ ?_
  refine lv_istore_n (lv' := [(1, .int r1), (0, .ref o)]) hx hb dX7_untaste_7 rfl hl (by decide) rfl (fun ls hl => ?_)
  refine lv_aload_n hx hb dX7_untaste_8 rfl (lv_at hl 1 rfl) ?_
  refine va_get (D := (dC, dI)) (ci := 7) (v := .ref o_tastes) (C := RX7) (T := TX7) (N := 9) hx hb hts hiX7 hown hK hP 0 rfl rfl 5 (by decide) (hts (.fieldLink RX7 43 "GreenJars" "tastes" "LGreenJars$Tastes;") (by decide +kernel)) (fun _ h9 => h9) rfl dX7_untaste_9 ?_
  obtain ⟨y3, hc4, hf⟩ := g_b1 hf
  refine g_wVv (As := []) (rest := []) (wr := [(o, .inr (7, [.ref o_text, .ref o_now, .ref o_trial, .ref o_acts, .ref o_slots, .ref o_tastes, .ref o_ways, .ref o_fraction, .long v_seedNow]))]) (wn := (w_X7_untaste cI cZ cG o o_text o_now o_trial o_acts o_slots o_tastes o_ways o_fraction o_tastes_went o_tastes_came v_seedNow y3)) ⟨hx, hb, hml, hown, hts⟩ (c_X4_clear l dC dI cI cZ cG o_tastes o_tastes_went o_tastes_came H.size  v_tastes_count hc4) (cwV 0 hts gX7_untaste_X4_clear rfl rfl rfl (by decide +kernel) ⟨Nat.le_of_ble_eq_true rfl, Nat.le_of_ble_eq_true rfl⟩) hK hN hP hD hS hA [1] [0] [0, 1] rfl rfl (by decide) rfl (by decide) (by decide) rfl (by decide) (va_recv hK hP (ci := 4) (q0 := 1) rfl rfl) rfl hl.1 rfl (Nat.le_of_ble_eq_true rfl) dX7_untaste_12 ⟨Nat.zero_le _, Nat.zero_le _⟩ (fun H locs hP hD hS => ?_)
  refine lv_iload_n hx hb dX7_untaste_15 rfl (lv_at hl 0 rfl) ?_
  rw [hQ]
  cases hf
  exact W.iret hx hb hr (fun t ht hW => ⟨⟨_, (), rfl, rfl, by rw [ht]; exact hP, va_K.moved hW.alike hK, hD⟩, hS.F ht⟩) hS.2.2 dX7_untaste_16
abbrev rm_X7_kept : Room := { frames := 5, cells := 0, slots := 0, locals := 110 }
abbrev w_X7_kept (cI cZ cG : ClassId) (o : Nat) (o_text : Nat) (o_now : Nat) (o_trial : Nat) (o_acts : Nat) (o_slots : Nat) (o_tastes : Nat) (o_ways : Nat) (o_fraction : Nat) (o_tastes_went : Nat) (o_tastes_came : Nat) (v_seedNow : Int64) (v_tastes_count : Int32) (f_tastes_went : Nat → Int32) (f_tastes_came : Nat → Int32) : va_W := [(o, .inr (7, [.ref o_text, .ref o_now, .ref o_trial, .ref o_acts, .ref o_slots, .ref o_tastes, .ref o_ways, .ref o_fraction, .long v_seedNow])), (o_tastes, .inr (4, [.ref o_tastes_went, .ref o_tastes_came, .int v_tastes_count])), (o_tastes_went, .inl (cI, 6, .inl f_tastes_went)), (o_tastes_came, .inl (cI, 6, .inl f_tastes_came))]
set_option maxHeartbeats 4000000 in
set_option maxRecDepth 100000 in
theorem c_X7_kept (l : Launch) (dC : Nat → ClassId) (dI : Nat → Nat → Nat) (cI cZ cG : ClassId) {N : Nat} (o : Nat) (o_text : Nat) (o_now : Nat) (o_trial : Nat) (o_acts : Nat) (o_slots : Nat) (o_tastes : Nat) (o_ways : Nat) (o_fraction : Nat) (o_tastes_went : Nat) (o_tastes_came : Nat) (v_seedNow : Int64) (v_tastes_count : Int32) (f_tastes_went : Nat → Int32) (f_tastes_came : Nat → Int32) (a1 : Int32) {r0 : Int32} (hf : x7_kept N v_tastes_count f_tastes_went f_tastes_came a1 = some r0) : Met l yX7_kept wsX7_kept rm_X7_kept (va_Pc [.ref o, .int a1] (gR (dC, dI) vwCl (gT cI cZ cG) (w_X7_kept cI cZ cG o o_text o_now o_trial o_acts o_slots o_tastes o_ways o_fraction o_tastes_went o_tastes_came v_seedNow v_tastes_count f_tastes_went f_tastes_came))) (vp_Si (fun r => r = r0)) 0 0 (fun _ => False) := by
  refine Met.ofW (cc := cX7_kept) (maxL := 2) (ret := (some .int)) (by decide) rfl ?_
  intro p e s m args below meth c s₁ B hml hv
  obtain ⟨rfl, hv⟩ := hv
  obtain ⟨hP, hK, hN⟩ := hv
  have hx := B.exec
  have hb := B.bytes
  have hr := B.returns
  have hts := atoms_spec (ws := wsX7_kept) B.pre
  have hown : s.vm.findClass RX7 = some m.cls := findClass_of_methodNamed B.named
  have hlocks := B.notSynchronized
  have hiX4 : ∀ w ∈ u_ws RX4 TX4 3, w ∈ wsX7_kept := fun w h => List.mem_cons_of_mem _ (List.mem_append_right _ h)
  have hiX7 : ∀ w ∈ u_ws RX7 TX7 9, w ∈ wsX7_kept := fun w h => List.mem_cons_of_mem _ (List.mem_append_left _ (List.mem_append_right _ h))
  obtain ⟨Q, hQ⟩ : ∃ Q : State → Prop, Q = MQ below (vp_Si (fun r => r = r0)) (([Value.ref o, Value.int a1] : List Value).toArray) s 0 0 (fun _ => False) := ⟨_, rfl⟩
  have hl := lv_entry ([.ref o, .int a1]) (n := 2) (Nat.le_of_ble_eq_true rfl)
  rw [← hQ, lg_entry_eq]
  generalize (lg_sl ([.ref o, .int a1]) ++ List.replicate (2 - (lg_sl ([.ref o, .int a1])).length) Slot.unset).toArray = ls at hl ⊢
  have hl : lv_has ls 2 [(0, .ref o), (1, .int a1)] := hl
  show W p l e rm_X7_kept s m (([Value.ref o, Value.int a1] : List Value).toArray) below meth c s.heap [] 0 0 Q (F0 m 0 ls [])
  unfold x7_kept at hf
  refine lv_iload_n hx hb dX7_kept_0 rfl (lv_at hl 1 rfl) ?_
  refine lv_if_lt (tgt := 9) hx hb dX7_kept_1 (by decide) (fun c1 => ?_) (fun c1 => ?_)
  · have hf := g_pos c1 hf
    refine lv_bipush (v := (-2 : Int32)) hx hb dX7_kept_9 (by decide +kernel) ?_
    rw [hQ]
    exact W.iret (v := (-2 : Int32)) hx hb hr (fun t ht hW => ⟨_, rfl, Option.some.inj hf, ht⟩) (fun q h => by cases h) dX7_kept_11
  · have hf := g_neg c1 hf
    refine lv_iload_n hx hb dX7_kept_4 rfl (lv_at hl 1 rfl) ?_
    refine lv_iconst (v := (1 : Int32)) hx hb dX7_kept_5 (by decide) ?_
    refine lv_icmp_le (tgt := 12) hx hb dX7_kept_6 (by decide) (fun c2 => ?_) (fun c2 => ?_)
    · have hf := g_pos c2 hf
      refine lv_iload_n hx hb dX7_kept_12 rfl (lv_at hl 1 rfl) ?_
      refine lv_if_ne (tgt := 26) hx hb dX7_kept_13 (by decide) (fun c3 => ?_) (fun c3 => ?_)
      · have hf := g_neg c3 hf
        refine lv_aload_n hx hb dX7_kept_26 rfl (lv_at hl 0 rfl) ?_
        refine va_get (D := (dC, dI)) (ci := 7) (v := .ref o_tastes) (C := RX7) (T := TX7) (N := 9) hx hb hts hiX7 hown hK hP 0 rfl rfl 5 (by decide) (hts (.fieldLink RX7 43 "GreenJars" "tastes" "LGreenJars$Tastes;") (by decide +kernel)) (fun _ h9 => h9) rfl dX7_kept_27 ?_
        obtain ⟨r4, hc5, hf⟩ := g_b1 hf
        refine g_rV (As := []) (rest := []) ⟨hx, hb, hml, hown, hts⟩ (c_X4_firstFit l dC dI cI cZ cG o_tastes o_tastes_went o_tastes_came  v_tastes_count f_tastes_went f_tastes_came hc5) (cwV 0 hts gX7_kept_X4_firstFit rfl rfl rfl (by decide +kernel) ⟨Nat.le_of_ble_eq_true rfl, Nat.le_of_ble_eq_true rfl⟩) hK hN (hP.sub [1, 2, 3] rfl) (va_recv hK hP (ci := 4) (q0 := 1) rfl rfl) rfl hl.1 rfl (Nat.le_of_ble_eq_true rfl) dX7_kept_30 ⟨Nat.zero_le _, Nat.zero_le _⟩ ?_
        rw [hQ]
        exact W.iret (v := r4) hx hb hr (fun t ht hW => ⟨_, rfl, Option.some.inj hf, ht⟩) (fun q h => by cases h) dX7_kept_33
      · have hf := g_pos c3 hf
        refine lv_aload_n hx hb dX7_kept_16 rfl (lv_at hl 0 rfl) ?_
        refine va_get (D := (dC, dI)) (ci := 7) (v := .ref o_tastes) (C := RX7) (T := TX7) (N := 9) hx hb hts hiX7 hown hK hP 0 rfl rfl 5 (by decide) (hts (.fieldLink RX7 43 "GreenJars" "tastes" "LGreenJars$Tastes;") (by decide +kernel)) (fun _ h9 => h9) rfl dX7_kept_17 ?_
        obtain ⟨r6, hc7, hf⟩ := g_b1 hf
        refine g_rV (As := []) (rest := []) ⟨hx, hb, hml, hown, hts⟩ (c_X4_countFits l dC dI cI cZ cG o_tastes o_tastes_went o_tastes_came  v_tastes_count f_tastes_went f_tastes_came hc7) (cwV 0 hts gX7_kept_X4_countFits rfl rfl rfl (by decide +kernel) ⟨Nat.le_of_ble_eq_true rfl, Nat.le_of_ble_eq_true rfl⟩) hK hN (hP.sub [1, 2, 3] rfl) (va_recv hK hP (ci := 4) (q0 := 1) rfl rfl) rfl hl.1 rfl (Nat.le_of_ble_eq_true rfl) dX7_kept_20 ⟨Nat.zero_le _, Nat.zero_le _⟩ ?_
        refine lv_goto (tgt := 33) hx hb dX7_kept_23 (by decide) ?_
        rw [hQ]
        exact W.iret (v := r6) hx hb hr (fun t ht hW => ⟨_, rfl, Option.some.inj hf, ht⟩) (fun q h => by cases h) dX7_kept_33
    · have hf := g_neg c2 hf
      refine lv_bipush (v := (-2 : Int32)) hx hb dX7_kept_9 (by decide +kernel) ?_
      rw [hQ]
      exact W.iret (v := (-2 : Int32)) hx hb hr (fun t ht hW => ⟨_, rfl, Option.some.inj hf, ht⟩) (fun q h => by cases h) dX7_kept_11
abbrev rm_X7_looksThatSee : Room := { frames := 3, cells := 0, slots := 0, locals := 71 }
abbrev w_X7_looksThatSee (cI cZ cG : ClassId) (o : Nat) (o_text : Nat) (o_now : Nat) (o_trial : Nat) (o_acts : Nat) (o_slots : Nat) (o_tastes : Nat) (o_ways : Nat) (o_fraction : Nat) (o_now_cells : Nat) (o_now_standing : Nat) (o_trial_cells : Nat) (o_trial_standing : Nat) (v_seedNow : Int64) (v_now_jars : Int32) (v_now_weeks : Int32) (f_now_cells : Nat → Int32) (v_trial_jars : Int32) (v_trial_weeks : Int32) (f_trial_cells : Nat → Int32) : va_W := [(o, .inr (7, [.ref o_text, .ref o_now, .ref o_trial, .ref o_acts, .ref o_slots, .ref o_tastes, .ref o_ways, .ref o_fraction, .long v_seedNow])), (o_now, .inr (2, [.ref o_now_cells, .ref o_now_standing, .int v_now_jars, .int v_now_weeks])), (o_now_cells, .inl (cI, 48, .inl f_now_cells)), (o_trial, .inr (2, [.ref o_trial_cells, .ref o_trial_standing, .int v_trial_jars, .int v_trial_weeks])), (o_trial_cells, .inl (cI, 48, .inl f_trial_cells))]
set_option maxHeartbeats 4000000 in
set_option maxRecDepth 100000 in
theorem c_X7_looksThatSee (l : Launch) (dC : Nat → ClassId) (dI : Nat → Nat → Nat) (cI cZ cG : ClassId) {N : Nat} (o : Nat) (o_text : Nat) (o_now : Nat) (o_trial : Nat) (o_acts : Nat) (o_slots : Nat) (o_tastes : Nat) (o_ways : Nat) (o_fraction : Nat) (o_now_cells : Nat) (o_now_standing : Nat) (o_trial_cells : Nat) (o_trial_standing : Nat) (sz : Nat) (v_seedNow : Int64) (v_now_jars : Int32) (v_now_weeks : Int32) (f_now_cells : Nat → Int32) (v_trial_jars : Int32) (v_trial_weeks : Int32) (f_trial_cells : Nat → Int32) (a1 : Int32) (a2 : Int32) {r0 : Int32} {n_trial_jars : Int32} {n_trial_weeks : Int32} {n_trial_cells : Nat → Int32} (hf : x7_looksThatSee N v_now_jars v_now_weeks f_now_cells v_trial_jars v_trial_weeks f_trial_cells a1 a2 = some (r0, n_trial_jars, n_trial_weeks, n_trial_cells)) : Met l yX7_looksThatSee wsX7_looksThatSee rm_X7_looksThatSee (va_Pc [.ref o, .int a1, .int a2] (gW (dC, dI) vwCl (gT cI cZ cG) (w_X7_looksThatSee cI cZ cG o o_text o_now o_trial o_acts o_slots o_tastes o_ways o_fraction o_now_cells o_now_standing o_trial_cells o_trial_standing v_seedNow v_now_jars v_now_weeks f_now_cells v_trial_jars v_trial_weeks f_trial_cells) sz)) (va_Qi (fun r _ => r = r0) (gE (dC, dI) vwCl (gT cI cZ cG) (w_X7_looksThatSee cI cZ cG o o_text o_now o_trial o_acts o_slots o_tastes o_ways o_fraction o_now_cells o_now_standing o_trial_cells o_trial_standing v_seedNow v_now_jars v_now_weeks f_now_cells n_trial_jars n_trial_weeks n_trial_cells) (va_A (w_X7_looksThatSee cI cZ cG o o_text o_now o_trial o_acts o_slots o_tastes o_ways o_fraction o_now_cells o_now_standing o_trial_cells o_trial_standing v_seedNow v_now_jars v_now_weeks f_now_cells v_trial_jars v_trial_weeks f_trial_cells) sz)) (va_A (w_X7_looksThatSee cI cZ cG o o_text o_now o_trial o_acts o_slots o_tastes o_ways o_fraction o_now_cells o_now_standing o_trial_cells o_trial_standing v_seedNow v_now_jars v_now_weeks f_now_cells v_trial_jars v_trial_weeks f_trial_cells) sz)) 0 0 (va_A (w_X7_looksThatSee cI cZ cG o o_text o_now o_trial o_acts o_slots o_tastes o_ways o_fraction o_now_cells o_now_standing o_trial_cells o_trial_standing v_seedNow v_now_jars v_now_weeks f_now_cells v_trial_jars v_trial_weeks f_trial_cells) sz) := by
  refine Met.ofW (cc := cX7_looksThatSee) (maxL := 5) (ret := (some .int)) (by decide) rfl ?_
  intro p e s m args below meth c s₁ B hml hv
  obtain ⟨rfl, hv⟩ := hv
  obtain ⟨hsz, hP, hK, hN, hD0⟩ := hv
  have hx := B.exec
  have hb := B.bytes
  have hr := B.returns
  have hts := atoms_spec (ws := wsX7_looksThatSee) B.pre
  have hown : s.vm.findClass RX7 = some m.cls := findClass_of_methodNamed B.named
  have hlocks := B.notSynchronized
  have hiX2 : ∀ w ∈ u_ws RX2 TX2 4, w ∈ wsX7_looksThatSee := fun w h => List.mem_cons_of_mem _ (List.mem_append_right _ h)
  have hiX7 : ∀ w ∈ u_ws RX7 TX7 9, w ∈ wsX7_looksThatSee := fun w h => List.mem_cons_of_mem _ (List.mem_append_left _ (List.mem_append_right _ h))
  subst hsz
  have hD := hD0.self (sz := s.heap.size)
  generalize hAe : va_A (w_X7_looksThatSee cI cZ cG o o_text o_now o_trial o_acts o_slots o_tastes o_ways o_fraction o_now_cells o_now_standing o_trial_cells o_trial_standing v_seedNow v_now_jars v_now_weeks f_now_cells v_trial_jars v_trial_weeks f_trial_cells) s.heap.size = A at hD ⊢
  have hA : ∀ q : Nat, s.heap.size ≤ q → A q := fun q h => by rw [← hAe]; exact Or.inr h
  clear hD0
  have hS : va_S A s.heap s.heap [] := va_S.rf
  have hP : va_P (dC, dI) vwCl (w_X7_looksThatSee cI cZ cG o o_text o_now o_trial o_acts o_slots o_tastes o_ways o_fraction o_now_cells o_now_standing o_trial_cells o_trial_standing v_seedNow v_now_jars v_now_weeks f_now_cells v_trial_jars v_trial_weeks f_trial_cells) s.heap := hP
  obtain ⟨Q, hQ⟩ : ∃ Q : State → Prop, Q = MQ below (va_Qi (fun r _ => r = r0) (gE (dC, dI) vwCl (gT cI cZ cG) (w_X7_looksThatSee cI cZ cG o o_text o_now o_trial o_acts o_slots o_tastes o_ways o_fraction o_now_cells o_now_standing o_trial_cells o_trial_standing v_seedNow v_now_jars v_now_weeks f_now_cells n_trial_jars n_trial_weeks n_trial_cells) A) A) (([Value.ref o, Value.int a1, Value.int a2] : List Value).toArray) s 0 0 A := ⟨_, rfl⟩
  have hl := lv_entry ([.ref o, .int a1, .int a2]) (n := 5) (Nat.le_of_ble_eq_true rfl)
  rw [← hQ, lg_entry_eq]
  generalize (lg_sl ([.ref o, .int a1, .int a2]) ++ List.replicate (5 - (lg_sl ([.ref o, .int a1, .int a2])).length) Slot.unset).toArray = ls at hl ⊢
  have hl : lv_has ls 5 [(0, .ref o), (1, .int a1), (2, .int a2)] := hl
  generalize hH : s.heap = H at hP hS ⊢
  have hS : va_S A s.heap H [] := by rw [hH]; exact hS
  generalize hlc : ([] : List Loc) = locs at hS ⊢
  show W p l e rm_X7_looksThatSee s m (([Value.ref o, Value.int a1, Value.int a2] : List Value).toArray) below meth c H locs 0 0 Q (F0 m 0 ls [])
  have L16 : ∀ (n16 : Nat), ∀ (x3 : Int32) (x4 : Int32) (y_trial_jars : Int32) (y_trial_weeks : Int32) (y_trial_cells : Nat → Int32) (H : Heap) (locs : List Loc) (ls : Array Slot), x7_looksThatSee_b16 N v_now_jars v_now_weeks f_now_cells a1 a2 n16 x3 x4 y_trial_jars y_trial_weeks y_trial_cells = some (r0, n_trial_jars, n_trial_weeks, n_trial_cells) → lv_has ls 5 [(0, .ref o), (1, .int a1), (2, .int a2), (3, .int x3), (4, .int x4)] → va_P (dC, dI) vwCl (w_X7_looksThatSee cI cZ cG o o_text o_now o_trial o_acts o_slots o_tastes o_ways o_fraction o_now_cells o_now_standing o_trial_cells o_trial_standing v_seedNow v_now_jars v_now_weeks f_now_cells y_trial_jars y_trial_weeks y_trial_cells) H → va_D A (w_X7_looksThatSee cI cZ cG o o_text o_now o_trial o_acts o_slots o_tastes o_ways o_fraction o_now_cells o_now_standing o_trial_cells o_trial_standing v_seedNow v_now_jars v_now_weeks f_now_cells y_trial_jars y_trial_weeks y_trial_cells) → va_S A s.heap H locs → W p l e rm_X7_looksThatSee s m (([Value.ref o, Value.int a1, Value.int a2] : List Value).toArray) below meth c H locs 0 0 Q (F0 m 16 ls []) := by
    intro n16
    induction n16 with
    | zero =>
      intro x3 x4 y_trial_jars y_trial_weeks y_trial_cells H locs ls hf hl hP hD hS
      exact g_no hf
    | succ n16 ih16 =>
      intro x3 x4 y_trial_jars y_trial_weeks y_trial_cells H locs ls hf hl hP hD hS
      unfold x7_looksThatSee_b16 at hf
      refine lv_iload hx hb dX7_looksThatSee_16 (lv_at hl 4 rfl) ?_
      refine lv_iconst (v := (4 : Int32)) hx hb dX7_looksThatSee_18 (by decide) ?_
      refine lv_icmp_ge (tgt := 57) hx hb dX7_looksThatSee_19 (by decide) (fun c1 => ?_) (fun c1 => ?_)
      · have hf := g_pos c1 hf
        refine lv_iload_n hx hb dX7_looksThatSee_57 rfl (lv_at hl 3 rfl) ?_
        rw [hQ]
        cases hf
        exact W.iret hx hb hr (fun t ht hW => ⟨⟨_, (), rfl, rfl, by rw [ht]; exact hP, va_K.moved hW.alike hK, hD⟩, hS.F ht⟩) hS.2.2 dX7_looksThatSee_58
      · have hf := g_neg c1 hf
        refine lv_aload_n hx hb dX7_looksThatSee_22 rfl (lv_at hl 0 rfl) ?_
        refine va_get (D := (dC, dI)) (ci := 7) (v := .ref o_trial) (C := RX7) (T := TX7) (N := 9) hx hb hts hiX7 hown hK hP 0 rfl rfl 2 (by decide) (hts (.fieldLink RX7 23 "GreenJars" "trial" "LGreenJars$Shelf;") (by decide +kernel)) (fun _ h9 => h9) rfl dX7_looksThatSee_23 ?_
        refine lv_iload_n hx hb dX7_looksThatSee_26 rfl (lv_at hl 1 rfl) ?_
        refine lv_iload hx hb dX7_looksThatSee_27 (lv_at hl 4 rfl) ?_
        obtain ⟨y2, hc3, hf⟩ := g_b1 hf
        refine g_wVv (As := [.int a1, .int x4]) (rest := []) (wr := [(o, .inr (7, [.ref o_text, .ref o_now, .ref o_trial, .ref o_acts, .ref o_slots, .ref o_tastes, .ref o_ways, .ref o_fraction, .long v_seedNow])), (o_now, .inr (2, [.ref o_now_cells, .ref o_now_standing, .int v_now_jars, .int v_now_weeks])), (o_now_cells, .inl (cI, 48, .inl f_now_cells))]) (wn := (w_X7_looksThatSee cI cZ cG o o_text o_now o_trial o_acts o_slots o_tastes o_ways o_fraction o_now_cells o_now_standing o_trial_cells o_trial_standing v_seedNow v_now_jars v_now_weeks f_now_cells y_trial_jars y_trial_weeks y2)) ⟨hx, hb, hml, hown, hts⟩ (c_X2_turn l dC dI cI cZ cG o_trial o_trial_cells o_trial_standing H.size  y_trial_jars y_trial_weeks y_trial_cells a1 x4 hc3) (cwV 2 hts gX7_looksThatSee_X2_turn rfl rfl rfl (by decide +kernel) ⟨Nat.le_of_ble_eq_true rfl, Nat.le_of_ble_eq_true rfl⟩) hK hN hP hD hS hA [3, 4] [0, 1, 2] [0, 1, 2, 3, 4] rfl rfl (by decide) rfl (by decide) (by decide) rfl (by decide) (va_recv hK hP (ci := 2) (q0 := 3) rfl rfl) rfl hl.1 rfl (Nat.le_of_ble_eq_true rfl) dX7_looksThatSee_29 ⟨Nat.zero_le _, Nat.zero_le _⟩ (fun H locs hP hD hS => ?_)
        refine lv_aload_n hx hb dX7_looksThatSee_32 rfl (lv_at hl 0 rfl) ?_
        refine va_get (D := (dC, dI)) (ci := 7) (v := .ref o_trial) (C := RX7) (T := TX7) (N := 9) hx hb hts hiX7 hown hK hP 0 rfl rfl 2 (by decide) (hts (.fieldLink RX7 23 "GreenJars" "trial" "LGreenJars$Shelf;") (by decide +kernel)) (fun _ h9 => h9) rfl dX7_looksThatSee_33 ?_
        refine lv_iload_n hx hb dX7_looksThatSee_36 rfl (lv_at hl 1 rfl) ?_
        obtain ⟨r4, hc5, hf⟩ := g_b1 hf
        refine g_rV (As := [.int a1]) (rest := []) ⟨hx, hb, hml, hown, hts⟩ (c_X2_seenBy l dC dI cI cZ cG o_trial o_trial_cells o_trial_standing  y_trial_jars y_trial_weeks y2 a1 hc5) (cwV 1 hts gX7_looksThatSee_X2_seenBy rfl rfl rfl (by decide +kernel) ⟨Nat.le_of_ble_eq_true rfl, Nat.le_of_ble_eq_true rfl⟩) hK hN (hP.sub [3, 4] rfl) (va_recv hK hP (ci := 2) (q0 := 3) rfl rfl) rfl hl.1 rfl (Nat.le_of_ble_eq_true rfl) dX7_looksThatSee_37 ⟨Nat.zero_le _, Nat.zero_le _⟩ ?_
        refine lv_iload_n hx hb dX7_looksThatSee_40 rfl (lv_at hl 2 rfl) ?_
        refine lv_icmp_ne (tgt := 51) hx hb dX7_looksThatSee_41 (by decide) (fun c6 => ?_) (fun c6 => ?_)
        · have hf := g_neg c6 hf
          refine lv_iinc (v := (x4 + (1 : Int32))) (lv' := [(4, .int (x4 + (1 : Int32))), (0, .ref o), (1, .int a1), (2, .int a2), (3, .int x3)]) hx hb dX7_looksThatSee_51 hl (k := 4) rfl rfl (by decide) rfl (fun ls hl => ?_)
          refine lv_goto (tgt := 16) hx hb dX7_looksThatSee_54 (by decide) ?_
          exact ih16 x3 (x4 + (1 : Int32)) y_trial_jars y_trial_weeks y2 H locs ls hf (lv_sub hl [1, 2, 3, 4, 0] rfl) hP hD hS
        · have hf := g_pos c6 hf
          refine lv_iload_n hx hb dX7_looksThatSee_44 rfl (lv_at hl 3 rfl) ?_
          refine lv_iconst (v := (1 : Int32)) hx hb dX7_looksThatSee_45 (by decide) ?_
          refine lv_iload hx hb dX7_looksThatSee_46 (lv_at hl 4 rfl) ?_
          refine lv_ishl hx hb dX7_looksThatSee_48 ?_
          refine lv_ior hx hb dX7_looksThatSee_49 ?_
          refine lv_istore_n (lv' := [(3, .int (x3 ||| ((1 : Int32) <<< (x4 &&& 31)))), (0, .ref o), (1, .int a1), (2, .int a2), (4, .int x4)]) hx hb dX7_looksThatSee_50 rfl hl (by decide) rfl (fun ls hl => ?_)
          refine lv_iinc (v := (x4 + (1 : Int32))) (lv' := [(4, .int (x4 + (1 : Int32))), (3, .int (x3 ||| ((1 : Int32) <<< (x4 &&& 31)))), (0, .ref o), (1, .int a1), (2, .int a2)]) hx hb dX7_looksThatSee_51 hl (k := 4) rfl rfl (by decide) rfl (fun ls hl => ?_)
          refine lv_goto (tgt := 16) hx hb dX7_looksThatSee_54 (by decide) ?_
          exact ih16 (x3 ||| ((1 : Int32) <<< (x4 &&& 31))) (x4 + (1 : Int32)) y_trial_jars y_trial_weeks y2 H locs ls hf (lv_sub hl [2, 3, 4, 1, 0] rfl) hP hD hS
  unfold x7_looksThatSee at hf
  refine lv_iconst (v := (0 : Int32)) hx hb dX7_looksThatSee_0 (by decide) ?_
  refine lv_istore_n (lv' := [(3, .int (0 : Int32)), (0, .ref o), (1, .int a1), (2, .int a2)]) hx hb dX7_looksThatSee_1 rfl hl (by decide) rfl (fun ls hl => ?_)
  refine lv_aload_n hx hb dX7_looksThatSee_2 rfl (lv_at hl 1 rfl) ?_
  refine va_get (D := (dC, dI)) (ci := 7) (v := .ref o_trial) (C := RX7) (T := TX7) (N := 9) hx hb hts hiX7 hown hK hP 0 rfl rfl 2 (by decide) (hts (.fieldLink RX7 23 "GreenJars" "trial" "LGreenJars$Shelf;") (by decide +kernel)) (fun _ h9 => h9) rfl dX7_looksThatSee_3 ?_
  refine lv_aload_n hx hb dX7_looksThatSee_6 rfl (lv_at hl 1 rfl) ?_
  refine va_get (D := (dC, dI)) (ci := 7) (v := .ref o_now) (C := RX7) (T := TX7) (N := 9) hx hb hts hiX7 hown hK hP 0 rfl rfl 1 (by decide) (hts (.fieldLink RX7 19 "GreenJars" "now" "LGreenJars$Shelf;") (by decide +kernel)) (fun _ h9 => h9) rfl dX7_looksThatSee_7 ?_
  obtain ⟨y7, y8, y9, hc10, hf⟩ := g_b3 hf
  refine g_wVv (As := [.ref o_now]) (rest := []) (wr := [(o, .inr (7, [.ref o_text, .ref o_now, .ref o_trial, .ref o_acts, .ref o_slots, .ref o_tastes, .ref o_ways, .ref o_fraction, .long v_seedNow]))]) (wn := (w_X7_looksThatSee cI cZ cG o o_text o_now o_trial o_acts o_slots o_tastes o_ways o_fraction o_now_cells o_now_standing o_trial_cells o_trial_standing v_seedNow v_now_jars v_now_weeks f_now_cells y7 y8 y9)) ⟨hx, hb, hml, hown, hts⟩ (c_X2_copy l dC dI cI cZ cG o_trial o_trial_cells o_trial_standing o_now o_now_cells o_now_standing H.size  v_trial_jars v_trial_weeks f_trial_cells v_now_jars v_now_weeks f_now_cells hc10) (cwV 1 hts gX7_looksThatSee_X2_copy rfl rfl rfl (by decide +kernel) ⟨Nat.le_of_ble_eq_true rfl, Nat.le_of_ble_eq_true rfl⟩) hK hN hP hD hS hA [3, 4, 1, 2] [0] [0, 3, 4, 1, 2] rfl rfl (by decide) rfl (by decide) (by decide) rfl (by decide) (va_recv hK hP (ci := 2) (q0 := 3) rfl rfl) rfl hl.1 rfl (Nat.le_of_ble_eq_true rfl) dX7_looksThatSee_10 ⟨Nat.zero_le _, Nat.zero_le _⟩ (fun H locs hP hD hS => ?_)
  refine lv_iconst (v := (0 : Int32)) hx hb dX7_looksThatSee_13 (by decide) ?_
  refine lv_istore (lv' := [(4, .int (0 : Int32)), (3, .int (0 : Int32)), (0, .ref o), (1, .int a1), (2, .int a2)]) hx hb dX7_looksThatSee_14 hl (by decide) rfl (fun ls hl => ?_)
  exact L16 N (0 : Int32) (0 : Int32) y7 y8 y9 H locs ls hf (lv_sub hl [2, 3, 4, 1, 0] rfl) hP hD hS
abbrev rm_X7_rests : Room := { frames := 4, cells := 0, slots := 0, locals := 95 }
abbrev w_X7_rests (cI cZ cG : ClassId) (o : Nat) (o_text : Nat) (o_now : Nat) (o_trial : Nat) (o_acts : Nat) (o_slots : Nat) (o_tastes : Nat) (o_ways : Nat) (o_fraction : Nat) (o_now_cells : Nat) (o_now_standing : Nat) (o_trial_cells : Nat) (o_trial_standing : Nat) (v_seedNow : Int64) (v_now_jars : Int32) (v_now_weeks : Int32) (f_now_cells : Nat → Int32) (v_trial_jars : Int32) (v_trial_weeks : Int32) (f_trial_cells : Nat → Int32) : va_W := [(o, .inr (7, [.ref o_text, .ref o_now, .ref o_trial, .ref o_acts, .ref o_slots, .ref o_tastes, .ref o_ways, .ref o_fraction, .long v_seedNow])), (o_now, .inr (2, [.ref o_now_cells, .ref o_now_standing, .int v_now_jars, .int v_now_weeks])), (o_now_cells, .inl (cI, 48, .inl f_now_cells)), (o_trial, .inr (2, [.ref o_trial_cells, .ref o_trial_standing, .int v_trial_jars, .int v_trial_weeks])), (o_trial_cells, .inl (cI, 48, .inl f_trial_cells))]
set_option maxHeartbeats 4000000 in
set_option maxRecDepth 100000 in
theorem c_X7_rests (l : Launch) (dC : Nat → ClassId) (dI : Nat → Nat → Nat) (cI cZ cG : ClassId) {N : Nat} (o : Nat) (o_text : Nat) (o_now : Nat) (o_trial : Nat) (o_acts : Nat) (o_slots : Nat) (o_tastes : Nat) (o_ways : Nat) (o_fraction : Nat) (o_now_cells : Nat) (o_now_standing : Nat) (o_trial_cells : Nat) (o_trial_standing : Nat) (sz : Nat) (v_seedNow : Int64) (v_now_jars : Int32) (v_now_weeks : Int32) (f_now_cells : Nat → Int32) (v_trial_jars : Int32) (v_trial_weeks : Int32) (f_trial_cells : Nat → Int32) (a1 : Int32) (a2 : Int32) (a3 : Int32) {r0 : Int32} {n_trial_jars : Int32} {n_trial_weeks : Int32} {n_trial_cells : Nat → Int32} (hf : x7_rests N v_now_jars v_now_weeks f_now_cells v_trial_jars v_trial_weeks f_trial_cells a1 a2 a3 = some (r0, n_trial_jars, n_trial_weeks, n_trial_cells)) : Met l yX7_rests wsX7_rests rm_X7_rests (va_Pc [.ref o, .int a1, .int a2, .int a3] (gW (dC, dI) vwCl (gT cI cZ cG) (w_X7_rests cI cZ cG o o_text o_now o_trial o_acts o_slots o_tastes o_ways o_fraction o_now_cells o_now_standing o_trial_cells o_trial_standing v_seedNow v_now_jars v_now_weeks f_now_cells v_trial_jars v_trial_weeks f_trial_cells) sz)) (va_Qi (fun r _ => r = r0) (gE (dC, dI) vwCl (gT cI cZ cG) (w_X7_rests cI cZ cG o o_text o_now o_trial o_acts o_slots o_tastes o_ways o_fraction o_now_cells o_now_standing o_trial_cells o_trial_standing v_seedNow v_now_jars v_now_weeks f_now_cells n_trial_jars n_trial_weeks n_trial_cells) (va_A (w_X7_rests cI cZ cG o o_text o_now o_trial o_acts o_slots o_tastes o_ways o_fraction o_now_cells o_now_standing o_trial_cells o_trial_standing v_seedNow v_now_jars v_now_weeks f_now_cells v_trial_jars v_trial_weeks f_trial_cells) sz)) (va_A (w_X7_rests cI cZ cG o o_text o_now o_trial o_acts o_slots o_tastes o_ways o_fraction o_now_cells o_now_standing o_trial_cells o_trial_standing v_seedNow v_now_jars v_now_weeks f_now_cells v_trial_jars v_trial_weeks f_trial_cells) sz)) 0 0 (va_A (w_X7_rests cI cZ cG o o_text o_now o_trial o_acts o_slots o_tastes o_ways o_fraction o_now_cells o_now_standing o_trial_cells o_trial_standing v_seedNow v_now_jars v_now_weeks f_now_cells v_trial_jars v_trial_weeks f_trial_cells) sz) := by
  refine Met.ofW (cc := cX7_rests) (maxL := 11) (ret := (some .int)) (by decide) rfl ?_
  intro p e s m args below meth c s₁ B hml hv
  obtain ⟨rfl, hv⟩ := hv
  obtain ⟨hsz, hP, hK, hN, hD0⟩ := hv
  have hx := B.exec
  have hb := B.bytes
  have hr := B.returns
  have hts := atoms_spec (ws := wsX7_rests) B.pre
  have hown : s.vm.findClass RX7 = some m.cls := findClass_of_methodNamed B.named
  have hlocks := B.notSynchronized
  have hiX2 : ∀ w ∈ u_ws RX2 TX2 4, w ∈ wsX7_rests := fun w h => List.mem_cons_of_mem _ (List.mem_append_right _ h)
  have hiX7 : ∀ w ∈ u_ws RX7 TX7 9, w ∈ wsX7_rests := fun w h => List.mem_cons_of_mem _ (List.mem_append_left _ (List.mem_append_right _ h))
  subst hsz
  have hD := hD0.self (sz := s.heap.size)
  generalize hAe : va_A (w_X7_rests cI cZ cG o o_text o_now o_trial o_acts o_slots o_tastes o_ways o_fraction o_now_cells o_now_standing o_trial_cells o_trial_standing v_seedNow v_now_jars v_now_weeks f_now_cells v_trial_jars v_trial_weeks f_trial_cells) s.heap.size = A at hD ⊢
  have hA : ∀ q : Nat, s.heap.size ≤ q → A q := fun q h => by rw [← hAe]; exact Or.inr h
  clear hD0
  have hS : va_S A s.heap s.heap [] := va_S.rf
  have hP : va_P (dC, dI) vwCl (w_X7_rests cI cZ cG o o_text o_now o_trial o_acts o_slots o_tastes o_ways o_fraction o_now_cells o_now_standing o_trial_cells o_trial_standing v_seedNow v_now_jars v_now_weeks f_now_cells v_trial_jars v_trial_weeks f_trial_cells) s.heap := hP
  obtain ⟨Q, hQ⟩ : ∃ Q : State → Prop, Q = MQ below (va_Qi (fun r _ => r = r0) (gE (dC, dI) vwCl (gT cI cZ cG) (w_X7_rests cI cZ cG o o_text o_now o_trial o_acts o_slots o_tastes o_ways o_fraction o_now_cells o_now_standing o_trial_cells o_trial_standing v_seedNow v_now_jars v_now_weeks f_now_cells n_trial_jars n_trial_weeks n_trial_cells) A) A) (([Value.ref o, Value.int a1, Value.int a2, Value.int a3] : List Value).toArray) s 0 0 A := ⟨_, rfl⟩
  have hl := lv_entry ([.ref o, .int a1, .int a2, .int a3]) (n := 11) (Nat.le_of_ble_eq_true rfl)
  rw [← hQ, lg_entry_eq]
  generalize (lg_sl ([.ref o, .int a1, .int a2, .int a3]) ++ List.replicate (11 - (lg_sl ([.ref o, .int a1, .int a2, .int a3])).length) Slot.unset).toArray = ls at hl ⊢
  have hl : lv_has ls 11 [(0, .ref o), (1, .int a1), (2, .int a2), (3, .int a3)] := hl
  generalize hH : s.heap = H at hP hS ⊢
  have hS : va_S A s.heap H [] := by rw [hH]; exact hS
  generalize hlc : ([] : List Loc) = locs at hS ⊢
  show W p l e rm_X7_rests s m (([Value.ref o, Value.int a1, Value.int a2, Value.int a3] : List Value).toArray) below meth c H locs 0 0 Q (F0 m 0 ls [])
  have L92 : ∀ (n92 : Nat), ∀ (x4 : Int32) (x5 : Int32) (x6 : Int32) (x7 : Int32) (x8 : Int32) (y_trial_jars : Int32) (y_trial_weeks : Int32) (y_trial_cells : Nat → Int32) (H : Heap) (locs : List Loc) (ls : Array Slot), x7_rests_b92 N v_now_jars v_now_weeks f_now_cells a1 a2 a3 n92 x4 x5 x6 x7 x8 y_trial_jars y_trial_weeks y_trial_cells = some (r0, n_trial_jars, n_trial_weeks, n_trial_cells) → lv_has ls 11 [(3, .int a3), (4, .int x4), (5, .int x5), (6, .int x6), (7, .int x7), (8, .int x8)] → va_P (dC, dI) vwCl (w_X7_rests cI cZ cG o o_text o_now o_trial o_acts o_slots o_tastes o_ways o_fraction o_now_cells o_now_standing o_trial_cells o_trial_standing v_seedNow v_now_jars v_now_weeks f_now_cells y_trial_jars y_trial_weeks y_trial_cells) H → va_D A (w_X7_rests cI cZ cG o o_text o_now o_trial o_acts o_slots o_tastes o_ways o_fraction o_now_cells o_now_standing o_trial_cells o_trial_standing v_seedNow v_now_jars v_now_weeks f_now_cells y_trial_jars y_trial_weeks y_trial_cells) → va_S A s.heap H locs → W p l e rm_X7_rests s m (([Value.ref o, Value.int a1, Value.int a2, Value.int a3] : List Value).toArray) below meth c H locs 0 0 Q (F0 m 92 ls []) := by
    intro n92
    induction n92 with
    | zero =>
      intro x4 x5 x6 x7 x8 y_trial_jars y_trial_weeks y_trial_cells H locs ls hf hl hP hD hS
      exact g_no hf
    | succ n92 ih92 =>
      have J163 : ∀ (x4 : Int32) (x5 : Int32) (x6 : Int32) (x8 : Int32) (t0 : Int32) (y_trial_jars : Int32) (y_trial_weeks : Int32) (y_trial_cells : Nat → Int32) (H : Heap) (locs : List Loc) (ls : Array Slot), x7_rests_b163 N v_now_jars v_now_weeks f_now_cells a1 a2 a3 (x7_rests_b92 N v_now_jars v_now_weeks f_now_cells a1 a2 a3 n92) x4 x5 x6 x8 t0 y_trial_jars y_trial_weeks y_trial_cells = some (r0, n_trial_jars, n_trial_weeks, n_trial_cells) → lv_has ls 11 [(3, .int a3), (4, .int x4), (5, .int x5), (6, .int x6), (8, .int x8)] → va_P (dC, dI) vwCl (w_X7_rests cI cZ cG o o_text o_now o_trial o_acts o_slots o_tastes o_ways o_fraction o_now_cells o_now_standing o_trial_cells o_trial_standing v_seedNow v_now_jars v_now_weeks f_now_cells y_trial_jars y_trial_weeks y_trial_cells) H → va_D A (w_X7_rests cI cZ cG o o_text o_now o_trial o_acts o_slots o_tastes o_ways o_fraction o_now_cells o_now_standing o_trial_cells o_trial_standing v_seedNow v_now_jars v_now_weeks f_now_cells y_trial_jars y_trial_weeks y_trial_cells) → va_S A s.heap H locs → W p l e rm_X7_rests s m (([Value.ref o, Value.int a1, Value.int a2, Value.int a3] : List Value).toArray) below meth c H locs 0 0 Q (F0 m 163 ls [.int t0]) := by
        intro x4 x5 x6 x8 t0 y_trial_jars y_trial_weeks y_trial_cells H locs ls hf hl hP hD hS
        unfold x7_rests_b163 at hf
        refine lv_istore (lv' := [(7, .int t0), (3, .int a3), (4, .int x4), (5, .int x5), (6, .int x6), (8, .int x8)]) hx hb dX7_rests_163 hl (by decide) rfl (fun ls hl => ?_)
        refine lv_iinc (v := (x6 + (1 : Int32))) (lv' := [(6, .int (x6 + (1 : Int32))), (7, .int t0), (3, .int a3), (4, .int x4), (5, .int x5), (8, .int x8)]) hx hb dX7_rests_165 hl (k := 4) rfl rfl (by decide) rfl (fun ls hl => ?_)
        refine lv_iinc (v := (x8 + (1 : Int32))) (lv' := [(8, .int (x8 + (1 : Int32))), (6, .int (x6 + (1 : Int32))), (7, .int t0), (3, .int a3), (4, .int x4), (5, .int x5)]) hx hb dX7_rests_168 hl (k := 5) rfl rfl (by decide) rfl (fun ls hl => ?_)
        refine lv_goto (tgt := 92) hx hb dX7_rests_171 (by decide) ?_
        exact ih92 x4 x5 (x6 + (1 : Int32)) t0 (x8 + (1 : Int32)) y_trial_jars y_trial_weeks y_trial_cells H locs ls hf (lv_sub hl [3, 4, 5, 1, 2, 0] rfl) hP hD hS
      intro x4 x5 x6 x7 x8 y_trial_jars y_trial_weeks y_trial_cells H locs ls hf hl hP hD hS
      unfold x7_rests_b92 at hf
      refine lv_iload hx hb dX7_rests_92 (lv_at hl 5 rfl) ?_
      refine lv_bipush (v := (16 : Int32)) hx hb dX7_rests_94 (by decide +kernel) ?_
      refine lv_icmp_ge (tgt := 174) hx hb dX7_rests_96 (by decide) (fun c1 => ?_) (fun c1 => ?_)
      · have hf := g_pos c1 hf
        refine lv_iload_n hx hb dX7_rests_174 rfl (lv_at hl 0 rfl) ?_
        refine lv_if_ne (tgt := 183) hx hb dX7_rests_175 (by decide) (fun c2 => ?_) (fun c2 => ?_)
        · have hf := g_neg c2 hf
          refine lv_iload hx hb dX7_rests_183 (lv_at hl 4 rfl) ?_
          rw [hQ]
          cases hf
          exact W.iret hx hb hr (fun t ht hW => ⟨⟨_, (), rfl, rfl, by rw [ht]; exact hP, va_K.moved hW.alike hK, hD⟩, hS.F ht⟩) hS.2.2 dX7_rests_185
        · have hf := g_pos c2 hf
          refine lv_iload hx hb dX7_rests_178 (lv_at hl 3 rfl) ?_
          refine lv_goto (tgt := 185) hx hb dX7_rests_180 (by decide) ?_
          rw [hQ]
          cases hf
          exact W.iret hx hb hr (fun t ht hW => ⟨⟨_, (), rfl, rfl, by rw [ht]; exact hP, va_K.moved hW.alike hK, hD⟩, hS.F ht⟩) hS.2.2 dX7_rests_185
      · have hf := g_neg c1 hf
        refine lv_iload hx hb dX7_rests_99 (lv_at hl 5 rfl) ?_
        refine lv_iconst (v := (4 : Int32)) hx hb dX7_rests_101 (by decide) ?_
        refine lv_idiv hx hb dX7_rests_102 (by decide) ?_
        refine lv_istore (lv' := [(9, .int (x8 / (4 : Int32))), (3, .int a3), (4, .int x4), (5, .int x5), (6, .int x6), (7, .int x7), (8, .int x8)]) hx hb dX7_rests_103 hl (by decide) rfl (fun ls hl => ?_)
        refine lv_iload hx hb dX7_rests_105 (lv_at hl 6 rfl) ?_
        refine lv_iconst (v := (4 : Int32)) hx hb dX7_rests_107 (by decide) ?_
        refine lv_irem hx hb dX7_rests_108 (by decide) ?_
        refine lv_istore (lv' := [(10, .int (x8 - x8 / (4 : Int32) * (4 : Int32))), (9, .int (x8 / (4 : Int32))), (3, .int a3), (4, .int x4), (5, .int x5), (6, .int x6), (7, .int x7), (8, .int x8)]) hx hb dX7_rests_109 hl (by decide) rfl (fun ls hl => ?_)
        refine lv_iload hx hb dX7_rests_111 (lv_at hl 3 rfl) ?_
        refine lv_iload hx hb dX7_rests_113 (lv_at hl 1 rfl) ?_
        refine lv_iload hx hb dX7_rests_115 (lv_at hl 4 rfl) ?_
        refine lv_iload hx hb dX7_rests_117 (lv_at hl 0 rfl) ?_
        obtain ⟨r3, hc4, hf⟩ := g_b1 hf
        refine g_rS (As := [.int x5, .int (x8 - x8 / (4 : Int32) * (4 : Int32))]) (rest := [.int (x8 / (4 : Int32)), .int x4]) ⟨hx, hb, hml, hown, hts⟩ (c_X7_isIn l dC dI cI cZ cG    x5 (x8 - x8 / (4 : Int32) * (4 : Int32)) hc4) (va_cwS 2 hts gX7_rests_X7_isIn rfl rfl rfl (by decide +kernel) ⟨Nat.le_of_ble_eq_true rfl, Nat.le_of_ble_eq_true rfl⟩) hK hN (hP.sub [] rfl) rfl hl.1 rfl (Nat.le_of_ble_eq_true rfl) dX7_rests_119 ⟨Nat.zero_le _, Nat.zero_le _⟩ ?_
        obtain ⟨r5, hc6, hf⟩ := g_b1 hf
        refine g_rS (As := [.int x4, .int (x8 / (4 : Int32)), .int r3]) (rest := []) ⟨hx, hb, hml, hown, hts⟩ (c_X7_isBest l dC dI cI cZ cG    x4 (x8 / (4 : Int32)) r3 hc6) (va_cwS 3 hts gX7_rests_X7_isBest rfl rfl rfl (by decide +kernel) ⟨Nat.le_of_ble_eq_true rfl, Nat.le_of_ble_eq_true rfl⟩) hK hN (hP.sub [] rfl) rfl hl.1 rfl (Nat.le_of_ble_eq_true rfl) dX7_rests_122 ⟨Nat.zero_le _, Nat.zero_le _⟩ ?_
        refine lv_if_eq (tgt := 168) hx hb dX7_rests_125 (by decide) (fun c7 => ?_) (fun c7 => ?_)
        · have hf := g_pos c7 hf
          refine lv_iinc (v := (x8 + (1 : Int32))) (lv' := [(8, .int (x8 + (1 : Int32))), (10, .int (x8 - x8 / (4 : Int32) * (4 : Int32))), (9, .int (x8 / (4 : Int32))), (3, .int a3), (4, .int x4), (5, .int x5), (6, .int x6), (7, .int x7)]) hx hb dX7_rests_168 hl (k := 7) rfl rfl (by decide) rfl (fun ls hl => ?_)
          refine lv_goto (tgt := 92) hx hb dX7_rests_171 (by decide) ?_
          exact ih92 x4 x5 x6 x7 (x8 + (1 : Int32)) y_trial_jars y_trial_weeks y_trial_cells H locs ls hf (lv_sub hl [3, 4, 5, 6, 7, 0] rfl) hP hD hS
        · have hf := g_neg c7 hf
          refine lv_iload hx hb dX7_rests_128 (lv_at hl 4 rfl) ?_
          refine lv_iload hx hb dX7_rests_130 (lv_at hl 0 rfl) ?_
          refine lv_iload hx hb dX7_rests_132 (lv_at hl 3 rfl) ?_
          refine lv_iload hx hb dX7_rests_134 (lv_at hl 1 rfl) ?_
          obtain ⟨r8, hc9, hf⟩ := g_b1 hf
          refine g_rS (As := [.int x4, .int (x8 / (4 : Int32))]) (rest := [.int (x8 - x8 / (4 : Int32) * (4 : Int32)), .int x5]) ⟨hx, hb, hml, hown, hts⟩ (c_X7_isIn l dC dI cI cZ cG    x4 (x8 / (4 : Int32)) hc9) (va_cwS 2 hts gX7_rests_X7_isIn rfl rfl rfl (by decide +kernel) ⟨Nat.le_of_ble_eq_true rfl, Nat.le_of_ble_eq_true rfl⟩) hK hN (hP.sub [] rfl) rfl hl.1 rfl (Nat.le_of_ble_eq_true rfl) dX7_rests_136 ⟨Nat.zero_le _, Nat.zero_le _⟩ ?_
          obtain ⟨r10, hc11, hf⟩ := g_b1 hf
          refine g_rS (As := [.int x5, .int (x8 - x8 / (4 : Int32) * (4 : Int32)), .int r8]) (rest := []) ⟨hx, hb, hml, hown, hts⟩ (c_X7_isBest l dC dI cI cZ cG    x5 (x8 - x8 / (4 : Int32) * (4 : Int32)) r8 hc11) (va_cwS 3 hts gX7_rests_X7_isBest rfl rfl rfl (by decide +kernel) ⟨Nat.le_of_ble_eq_true rfl, Nat.le_of_ble_eq_true rfl⟩) hK hN (hP.sub [] rfl) rfl hl.1 rfl (Nat.le_of_ble_eq_true rfl) dX7_rests_139 ⟨Nat.zero_le _, Nat.zero_le _⟩ ?_
          refine lv_if_eq (tgt := 168) hx hb dX7_rests_142 (by decide) (fun c12 => ?_) (fun c12 => ?_)
          · have hf := g_pos c12 hf
            refine lv_iinc (v := (x8 + (1 : Int32))) (lv' := [(8, .int (x8 + (1 : Int32))), (10, .int (x8 - x8 / (4 : Int32) * (4 : Int32))), (9, .int (x8 / (4 : Int32))), (3, .int a3), (4, .int x4), (5, .int x5), (6, .int x6), (7, .int x7)]) hx hb dX7_rests_168 hl (k := 7) rfl rfl (by decide) rfl (fun ls hl => ?_)
            refine lv_goto (tgt := 92) hx hb dX7_rests_171 (by decide) ?_
            exact ih92 x4 x5 x6 x7 (x8 + (1 : Int32)) y_trial_jars y_trial_weeks y_trial_cells H locs ls hf (lv_sub hl [3, 4, 5, 6, 7, 0] rfl) hP hD hS
          · have hf := g_neg c12 hf
            refine lv_iload hx hb dX7_rests_145 (lv_at hl 5 rfl) ?_
            refine lv_if_ne (tgt := 161) hx hb dX7_rests_147 (by decide) (fun c13 => ?_) (fun c13 => ?_)
            · have hf := g_neg c13 hf
              refine lv_iload hx hb dX7_rests_161 (lv_at hl 6 rfl) ?_
              exact J163 x4 x5 x6 x8 x7 y_trial_jars y_trial_weeks y_trial_cells H locs ls hf (lv_sub hl [2, 3, 4, 5, 7] rfl) hP hD hS
            · have hf := g_pos c13 hf
              refine lv_bipush (v := (10 : Int32)) hx hb dX7_rests_150 (by decide +kernel) ?_
              refine lv_iload hx hb dX7_rests_152 (lv_at hl 1 rfl) ?_
              refine lv_imul hx hb dX7_rests_154 ?_
              refine lv_iload hx hb dX7_rests_155 (lv_at hl 0 rfl) ?_
              refine lv_iadd hx hb dX7_rests_157 ?_
              refine lv_goto (tgt := 163) hx hb dX7_rests_158 (by decide) ?_
              exact J163 x4 x5 x6 x8 (((10 : Int32) * (x8 / (4 : Int32))) + (x8 - x8 / (4 : Int32) * (4 : Int32))) y_trial_jars y_trial_weeks y_trial_cells H locs ls hf (lv_sub hl [2, 3, 4, 5, 7] rfl) hP hD hS
  unfold x7_rests at hf
  refine lv_aload_n hx hb dX7_rests_0 rfl (lv_at hl 0 rfl) ?_
  refine va_get (D := (dC, dI)) (ci := 7) (v := .ref o_now) (C := RX7) (T := TX7) (N := 9) hx hb hts hiX7 hown hK hP 0 rfl rfl 1 (by decide) (hts (.fieldLink RX7 19 "GreenJars" "now" "LGreenJars$Shelf;") (by decide +kernel)) (fun _ h9 => h9) rfl dX7_rests_1 ?_
  refine lv_iload_n hx hb dX7_rests_4 rfl (lv_at hl 1 rfl) ?_
  obtain ⟨r14, hc15, hf⟩ := g_b1 hf
  refine g_rV (As := [.int a1]) (rest := []) ⟨hx, hb, hml, hown, hts⟩ (c_X2_has l dC dI cI cZ cG o_now o_now_cells o_now_standing  v_now_jars v_now_weeks a1 hc15) (cwV 1 hts gX7_rests_X2_has rfl rfl rfl (by decide +kernel) ⟨Nat.le_of_ble_eq_true rfl, Nat.le_of_ble_eq_true rfl⟩) hK hN (hP.sub [1] rfl) (va_recv hK hP (ci := 2) (q0 := 1) rfl rfl) rfl hl.1 rfl (Nat.le_of_ble_eq_true rfl) dX7_rests_5 ⟨Nat.zero_le _, Nat.zero_le _⟩ ?_
  refine lv_if_eq (tgt := 22) hx hb dX7_rests_8 (by decide) (fun c16 => ?_) (fun c16 => ?_)
  · have hf := g_pos c16 hf
    refine lv_iconst (v := (-1 : Int32)) hx hb dX7_rests_22 (by decide) ?_
    rw [hQ]
    cases hf
    exact W.iret hx hb hr (fun t ht hW => ⟨⟨_, (), rfl, rfl, by rw [ht]; exact hP, va_K.moved hW.alike hK, hD⟩, hS.F ht⟩) hS.2.2 dX7_rests_23
  · have hf := g_neg c16 hf
    refine lv_aload_n hx hb dX7_rests_11 rfl (lv_at hl 0 rfl) ?_
    refine va_get (D := (dC, dI)) (ci := 7) (v := .ref o_now) (C := RX7) (T := TX7) (N := 9) hx hb hts hiX7 hown hK hP 0 rfl rfl 1 (by decide) (hts (.fieldLink RX7 19 "GreenJars" "now" "LGreenJars$Shelf;") (by decide +kernel)) (fun _ h9 => h9) rfl dX7_rests_12 ?_
    refine lv_iload_n hx hb dX7_rests_15 rfl (lv_at hl 2 rfl) ?_
    obtain ⟨r17, hc18, hf⟩ := g_b1 hf
    refine g_rV (As := [.int a2]) (rest := []) ⟨hx, hb, hml, hown, hts⟩ (c_X2_has l dC dI cI cZ cG o_now o_now_cells o_now_standing  v_now_jars v_now_weeks a2 hc18) (cwV 1 hts gX7_rests_X2_has rfl rfl rfl (by decide +kernel) ⟨Nat.le_of_ble_eq_true rfl, Nat.le_of_ble_eq_true rfl⟩) hK hN (hP.sub [1] rfl) (va_recv hK hP (ci := 2) (q0 := 1) rfl rfl) rfl hl.1 rfl (Nat.le_of_ble_eq_true rfl) dX7_rests_16 ⟨Nat.zero_le _, Nat.zero_le _⟩ ?_
    refine lv_if_ne (tgt := 24) hx hb dX7_rests_19 (by decide) (fun c19 => ?_) (fun c19 => ?_)
    · have hf := g_neg c19 hf
      refine lv_iload_n hx hb dX7_rests_24 rfl (lv_at hl 1 rfl) ?_
      refine lv_iload_n hx hb dX7_rests_25 rfl (lv_at hl 2 rfl) ?_
      refine lv_icmp_eq (tgt := 38) hx hb dX7_rests_26 (by decide) (fun c20 => ?_) (fun c20 => ?_)
      · have hf := g_pos c20 hf
        refine lv_bipush (v := (-2 : Int32)) hx hb dX7_rests_38 (by decide +kernel) ?_
        rw [hQ]
        cases hf
        exact W.iret hx hb hr (fun t ht hW => ⟨⟨_, (), rfl, rfl, by rw [ht]; exact hP, va_K.moved hW.alike hK, hD⟩, hS.F ht⟩) hS.2.2 dX7_rests_40
      · have hf := g_neg c20 hf
        refine lv_iload_n hx hb dX7_rests_29 rfl (lv_at hl 3 rfl) ?_
        refine lv_if_lt (tgt := 38) hx hb dX7_rests_30 (by decide) (fun c21 => ?_) (fun c21 => ?_)
        · have hf := g_pos c21 hf
          refine lv_bipush (v := (-2 : Int32)) hx hb dX7_rests_38 (by decide +kernel) ?_
          rw [hQ]
          cases hf
          exact W.iret hx hb hr (fun t ht hW => ⟨⟨_, (), rfl, rfl, by rw [ht]; exact hP, va_K.moved hW.alike hK, hD⟩, hS.F ht⟩) hS.2.2 dX7_rests_40
        · have hf := g_neg c21 hf
          refine lv_iload_n hx hb dX7_rests_33 rfl (lv_at hl 3 rfl) ?_
          refine lv_iconst (v := (1 : Int32)) hx hb dX7_rests_34 (by decide) ?_
          refine lv_icmp_le (tgt := 41) hx hb dX7_rests_35 (by decide) (fun c22 => ?_) (fun c22 => ?_)
          · have hf := g_pos c22 hf
            refine lv_aload_n hx hb dX7_rests_41 rfl (lv_at hl 0 rfl) ?_
            refine va_get (D := (dC, dI)) (ci := 7) (v := .ref o_now) (C := RX7) (T := TX7) (N := 9) hx hb hts hiX7 hown hK hP 0 rfl rfl 1 (by decide) (hts (.fieldLink RX7 19 "GreenJars" "now" "LGreenJars$Shelf;") (by decide +kernel)) (fun _ h9 => h9) rfl dX7_rests_42 ?_
            refine lv_iload_n hx hb dX7_rests_45 rfl (lv_at hl 1 rfl) ?_
            obtain ⟨r23, hc24, hf⟩ := g_b1 hf
            refine g_rV (As := [.int a1]) (rest := []) ⟨hx, hb, hml, hown, hts⟩ (c_X2_isWhole l dC dI cI cZ cG o_now o_now_cells o_now_standing  v_now_jars v_now_weeks f_now_cells a1 hc24) (cwV 1 hts gX7_rests_X2_isWhole rfl rfl rfl (by decide +kernel) ⟨Nat.le_of_ble_eq_true rfl, Nat.le_of_ble_eq_true rfl⟩) hK hN (hP.sub [1, 2] rfl) (va_recv hK hP (ci := 2) (q0 := 1) rfl rfl) rfl hl.1 rfl (Nat.le_of_ble_eq_true rfl) dX7_rests_46 ⟨Nat.zero_le _, Nat.zero_le _⟩ ?_
            refine lv_if_eq (tgt := 63) hx hb dX7_rests_49 (by decide) (fun c25 => ?_) (fun c25 => ?_)
            · have hf := g_pos c25 hf
              refine lv_bipush (v := (-3 : Int32)) hx hb dX7_rests_63 (by decide +kernel) ?_
              rw [hQ]
              cases hf
              exact W.iret hx hb hr (fun t ht hW => ⟨⟨_, (), rfl, rfl, by rw [ht]; exact hP, va_K.moved hW.alike hK, hD⟩, hS.F ht⟩) hS.2.2 dX7_rests_65
            · have hf := g_neg c25 hf
              refine lv_aload_n hx hb dX7_rests_52 rfl (lv_at hl 0 rfl) ?_
              refine va_get (D := (dC, dI)) (ci := 7) (v := .ref o_now) (C := RX7) (T := TX7) (N := 9) hx hb hts hiX7 hown hK hP 0 rfl rfl 1 (by decide) (hts (.fieldLink RX7 19 "GreenJars" "now" "LGreenJars$Shelf;") (by decide +kernel)) (fun _ h9 => h9) rfl dX7_rests_53 ?_
              refine lv_iload_n hx hb dX7_rests_56 rfl (lv_at hl 2 rfl) ?_
              obtain ⟨r26, hc27, hf⟩ := g_b1 hf
              refine g_rV (As := [.int a2]) (rest := []) ⟨hx, hb, hml, hown, hts⟩ (c_X2_isWhole l dC dI cI cZ cG o_now o_now_cells o_now_standing  v_now_jars v_now_weeks f_now_cells a2 hc27) (cwV 1 hts gX7_rests_X2_isWhole rfl rfl rfl (by decide +kernel) ⟨Nat.le_of_ble_eq_true rfl, Nat.le_of_ble_eq_true rfl⟩) hK hN (hP.sub [1, 2] rfl) (va_recv hK hP (ci := 2) (q0 := 1) rfl rfl) rfl hl.1 rfl (Nat.le_of_ble_eq_true rfl) dX7_rests_57 ⟨Nat.zero_le _, Nat.zero_le _⟩ ?_
              refine lv_if_ne (tgt := 66) hx hb dX7_rests_60 (by decide) (fun c28 => ?_) (fun c28 => ?_)
              · have hf := g_neg c28 hf
                refine lv_aload_n hx hb dX7_rests_66 rfl (lv_at hl 0 rfl) ?_
                refine lv_iload_n hx hb dX7_rests_67 rfl (lv_at hl 1 rfl) ?_
                refine lv_iload_n hx hb dX7_rests_68 rfl (lv_at hl 2 rfl) ?_
                obtain ⟨r29, y30, y31, y32, hc33, hf⟩ := g_b4 hf
                refine g_wV (As := [.int a1, .int a2]) (rest := []) (wr := []) (wn := (w_X7_rests cI cZ cG o o_text o_now o_trial o_acts o_slots o_tastes o_ways o_fraction o_now_cells o_now_standing o_trial_cells o_trial_standing v_seedNow v_now_jars v_now_weeks f_now_cells y30 y31 y32)) ⟨hx, hb, hml, hown, hts⟩ (c_X7_looksThatSee l dC dI cI cZ cG o o_text o_now o_trial o_acts o_slots o_tastes o_ways o_fraction o_now_cells o_now_standing o_trial_cells o_trial_standing H.size  v_seedNow v_now_jars v_now_weeks f_now_cells v_trial_jars v_trial_weeks f_trial_cells a1 a2 hc33) (cwV 2 hts gX7_rests_X7_looksThatSee rfl rfl rfl (by decide +kernel) ⟨Nat.le_of_ble_eq_true rfl, Nat.le_of_ble_eq_true rfl⟩) hK hN hP hD hS hA [0, 1, 2, 3, 4] [] [0, 1, 2, 3, 4] rfl rfl (by decide) rfl (by decide) (by decide) rfl (by decide) (va_recv hK hP (ci := 7) (q0 := 0) rfl rfl) rfl hl.1 rfl (Nat.le_of_ble_eq_true rfl) dX7_rests_69 ⟨Nat.zero_le _, Nat.zero_le _⟩ (fun H locs hP hD hS => ?_)
                refine lv_istore (lv' := [(4, .int r29), (0, .ref o), (1, .int a1), (2, .int a2), (3, .int a3)]) hx hb dX7_rests_72 hl (by decide) rfl (fun ls hl => ?_)
                refine lv_aload_n hx hb dX7_rests_74 rfl (lv_at hl 1 rfl) ?_
                refine lv_iload_n hx hb dX7_rests_75 rfl (lv_at hl 3 rfl) ?_
                refine lv_iload_n hx hb dX7_rests_76 rfl (lv_at hl 2 rfl) ?_
                obtain ⟨r34, y35, y36, y37, hc38, hf⟩ := g_b4 hf
                refine g_wV (As := [.int a2, .int a1]) (rest := []) (wr := []) (wn := (w_X7_rests cI cZ cG o o_text o_now o_trial o_acts o_slots o_tastes o_ways o_fraction o_now_cells o_now_standing o_trial_cells o_trial_standing v_seedNow v_now_jars v_now_weeks f_now_cells y35 y36 y37)) ⟨hx, hb, hml, hown, hts⟩ (c_X7_looksThatSee l dC dI cI cZ cG o o_text o_now o_trial o_acts o_slots o_tastes o_ways o_fraction o_now_cells o_now_standing o_trial_cells o_trial_standing H.size  v_seedNow v_now_jars v_now_weeks f_now_cells y30 y31 y32 a2 a1 hc38) (cwV 2 hts gX7_rests_X7_looksThatSee rfl rfl rfl (by decide +kernel) ⟨Nat.le_of_ble_eq_true rfl, Nat.le_of_ble_eq_true rfl⟩) hK hN hP hD hS hA [0, 1, 2, 3, 4] [] [0, 1, 2, 3, 4] rfl rfl (by decide) rfl (by decide) (by decide) rfl (by decide) (va_recv hK hP (ci := 7) (q0 := 0) rfl rfl) rfl hl.1 rfl (Nat.le_of_ble_eq_true rfl) dX7_rests_77 ⟨Nat.zero_le _, Nat.zero_le _⟩ (fun H locs hP hD hS => ?_)
                refine lv_istore (lv' := [(5, .int r34), (4, .int r29), (0, .ref o), (1, .int a1), (2, .int a2), (3, .int a3)]) hx hb dX7_rests_80 hl (by decide) rfl (fun ls hl => ?_)
                refine lv_iconst (v := (0 : Int32)) hx hb dX7_rests_82 (by decide) ?_
                refine lv_istore (lv' := [(6, .int (0 : Int32)), (5, .int r34), (4, .int r29), (0, .ref o), (1, .int a1), (2, .int a2), (3, .int a3)]) hx hb dX7_rests_83 hl (by decide) rfl (fun ls hl => ?_)
                refine lv_bipush (v := (-9 : Int32)) hx hb dX7_rests_85 (by decide +kernel) ?_
                refine lv_istore (lv' := [(7, .int (-9 : Int32)), (6, .int (0 : Int32)), (5, .int r34), (4, .int r29), (0, .ref o), (1, .int a1), (2, .int a2), (3, .int a3)]) hx hb dX7_rests_87 hl (by decide) rfl (fun ls hl => ?_)
                refine lv_iconst (v := (0 : Int32)) hx hb dX7_rests_89 (by decide) ?_
                refine lv_istore (lv' := [(8, .int (0 : Int32)), (7, .int (-9 : Int32)), (6, .int (0 : Int32)), (5, .int r34), (4, .int r29), (0, .ref o), (1, .int a1), (2, .int a2), (3, .int a3)]) hx hb dX7_rests_90 hl (by decide) rfl (fun ls hl => ?_)
                exact L92 N r29 r34 (0 : Int32) (-9 : Int32) (0 : Int32) y35 y36 y37 H locs ls hf (lv_sub hl [8, 4, 3, 2, 1, 0] rfl) hP hD hS
              · have hf := g_pos c28 hf
                refine lv_bipush (v := (-3 : Int32)) hx hb dX7_rests_63 (by decide +kernel) ?_
                rw [hQ]
                cases hf
                exact W.iret hx hb hr (fun t ht hW => ⟨⟨_, (), rfl, rfl, by rw [ht]; exact hP, va_K.moved hW.alike hK, hD⟩, hS.F ht⟩) hS.2.2 dX7_rests_65
          · have hf := g_neg c22 hf
            refine lv_bipush (v := (-2 : Int32)) hx hb dX7_rests_38 (by decide +kernel) ?_
            rw [hQ]
            cases hf
            exact W.iret hx hb hr (fun t ht hW => ⟨⟨_, (), rfl, rfl, by rw [ht]; exact hP, va_K.moved hW.alike hK, hD⟩, hS.F ht⟩) hS.2.2 dX7_rests_40
    · have hf := g_pos c19 hf
      refine lv_iconst (v := (-1 : Int32)) hx hb dX7_rests_22 (by decide) ?_
      rw [hQ]
      cases hf
      exact W.iret hx hb hr (fun t ht hW => ⟨⟨_, (), rfl, rfl, by rw [ht]; exact hP, va_K.moved hW.alike hK, hD⟩, hS.F ht⟩) hS.2.2 dX7_rests_23
abbrev rm_X7_pairsWithout : Room := { frames := 4, cells := 0, slots := 0, locals := 92 }
abbrev w_X7_pairsWithout (cI cZ cG : ClassId) (o : Nat) (o_text : Nat) (o_now : Nat) (o_trial : Nat) (o_acts : Nat) (o_slots : Nat) (o_tastes : Nat) (o_ways : Nat) (o_fraction : Nat) (o_now_cells : Nat) (o_now_standing : Nat) (o_trial_cells : Nat) (o_trial_standing : Nat) (v_seedNow : Int64) (v_now_jars : Int32) (v_now_weeks : Int32) (f_now_cells : Nat → Int32) (v_trial_jars : Int32) (v_trial_weeks : Int32) (f_trial_cells : Nat → Int32) (f_trial_standing : Nat → Int32) : va_W := [(o, .inr (7, [.ref o_text, .ref o_now, .ref o_trial, .ref o_acts, .ref o_slots, .ref o_tastes, .ref o_ways, .ref o_fraction, .long v_seedNow])), (o_now, .inr (2, [.ref o_now_cells, .ref o_now_standing, .int v_now_jars, .int v_now_weeks])), (o_now_cells, .inl (cI, 48, .inl f_now_cells)), (o_trial, .inr (2, [.ref o_trial_cells, .ref o_trial_standing, .int v_trial_jars, .int v_trial_weeks])), (o_trial_cells, .inl (cI, 48, .inl f_trial_cells)), (o_trial_standing, .inl (cI, 8, .inl f_trial_standing))]
set_option maxHeartbeats 4000000 in
set_option maxRecDepth 100000 in
theorem c_X7_pairsWithout (l : Launch) (dC : Nat → ClassId) (dI : Nat → Nat → Nat) (cI cZ cG : ClassId) {N : Nat} (o : Nat) (o_text : Nat) (o_now : Nat) (o_trial : Nat) (o_acts : Nat) (o_slots : Nat) (o_tastes : Nat) (o_ways : Nat) (o_fraction : Nat) (o_now_cells : Nat) (o_now_standing : Nat) (o_trial_cells : Nat) (o_trial_standing : Nat) (sz : Nat) (v_seedNow : Int64) (v_now_jars : Int32) (v_now_weeks : Int32) (f_now_cells : Nat → Int32) (v_trial_jars : Int32) (v_trial_weeks : Int32) (f_trial_cells : Nat → Int32) (f_trial_standing : Nat → Int32) (a1 : Int32) {r0 : Int32} {n_trial_jars : Int32} {n_trial_weeks : Int32} {n_trial_cells : Nat → Int32} {n_trial_standing : Nat → Int32} (hf : x7_pairsWithout N v_now_jars v_now_weeks f_now_cells v_trial_jars v_trial_weeks f_trial_cells f_trial_standing a1 = some (r0, n_trial_jars, n_trial_weeks, n_trial_cells, n_trial_standing)) : Met l yX7_pairsWithout wsX7_pairsWithout rm_X7_pairsWithout (va_Pc [.ref o, .int a1] (gW (dC, dI) vwCl (gT cI cZ cG) (w_X7_pairsWithout cI cZ cG o o_text o_now o_trial o_acts o_slots o_tastes o_ways o_fraction o_now_cells o_now_standing o_trial_cells o_trial_standing v_seedNow v_now_jars v_now_weeks f_now_cells v_trial_jars v_trial_weeks f_trial_cells f_trial_standing) sz)) (va_Qi (fun r _ => r = r0) (gE (dC, dI) vwCl (gT cI cZ cG) (w_X7_pairsWithout cI cZ cG o o_text o_now o_trial o_acts o_slots o_tastes o_ways o_fraction o_now_cells o_now_standing o_trial_cells o_trial_standing v_seedNow v_now_jars v_now_weeks f_now_cells n_trial_jars n_trial_weeks n_trial_cells n_trial_standing) (va_A (w_X7_pairsWithout cI cZ cG o o_text o_now o_trial o_acts o_slots o_tastes o_ways o_fraction o_now_cells o_now_standing o_trial_cells o_trial_standing v_seedNow v_now_jars v_now_weeks f_now_cells v_trial_jars v_trial_weeks f_trial_cells f_trial_standing) sz)) (va_A (w_X7_pairsWithout cI cZ cG o o_text o_now o_trial o_acts o_slots o_tastes o_ways o_fraction o_now_cells o_now_standing o_trial_cells o_trial_standing v_seedNow v_now_jars v_now_weeks f_now_cells v_trial_jars v_trial_weeks f_trial_cells f_trial_standing) sz)) 0 0 (va_A (w_X7_pairsWithout cI cZ cG o o_text o_now o_trial o_acts o_slots o_tastes o_ways o_fraction o_now_cells o_now_standing o_trial_cells o_trial_standing v_seedNow v_now_jars v_now_weeks f_now_cells v_trial_jars v_trial_weeks f_trial_cells f_trial_standing) sz) := by
  refine Met.ofW (cc := cX7_pairsWithout) (maxL := 2) (ret := (some .int)) (by decide) rfl ?_
  intro p e s m args below meth c s₁ B hml hv
  obtain ⟨rfl, hv⟩ := hv
  obtain ⟨hsz, hP, hK, hN, hD0⟩ := hv
  have hx := B.exec
  have hb := B.bytes
  have hr := B.returns
  have hts := atoms_spec (ws := wsX7_pairsWithout) B.pre
  have hown : s.vm.findClass RX7 = some m.cls := findClass_of_methodNamed B.named
  have hlocks := B.notSynchronized
  have hiX2 : ∀ w ∈ u_ws RX2 TX2 4, w ∈ wsX7_pairsWithout := fun w h => List.mem_cons_of_mem _ (List.mem_append_right _ h)
  have hiX7 : ∀ w ∈ u_ws RX7 TX7 9, w ∈ wsX7_pairsWithout := fun w h => List.mem_cons_of_mem _ (List.mem_append_left _ (List.mem_append_right _ h))
  subst hsz
  have hD := hD0.self (sz := s.heap.size)
  generalize hAe : va_A (w_X7_pairsWithout cI cZ cG o o_text o_now o_trial o_acts o_slots o_tastes o_ways o_fraction o_now_cells o_now_standing o_trial_cells o_trial_standing v_seedNow v_now_jars v_now_weeks f_now_cells v_trial_jars v_trial_weeks f_trial_cells f_trial_standing) s.heap.size = A at hD ⊢
  have hA : ∀ q : Nat, s.heap.size ≤ q → A q := fun q h => by rw [← hAe]; exact Or.inr h
  clear hD0
  have hS : va_S A s.heap s.heap [] := va_S.rf
  have hP : va_P (dC, dI) vwCl (w_X7_pairsWithout cI cZ cG o o_text o_now o_trial o_acts o_slots o_tastes o_ways o_fraction o_now_cells o_now_standing o_trial_cells o_trial_standing v_seedNow v_now_jars v_now_weeks f_now_cells v_trial_jars v_trial_weeks f_trial_cells f_trial_standing) s.heap := hP
  obtain ⟨Q, hQ⟩ : ∃ Q : State → Prop, Q = MQ below (va_Qi (fun r _ => r = r0) (gE (dC, dI) vwCl (gT cI cZ cG) (w_X7_pairsWithout cI cZ cG o o_text o_now o_trial o_acts o_slots o_tastes o_ways o_fraction o_now_cells o_now_standing o_trial_cells o_trial_standing v_seedNow v_now_jars v_now_weeks f_now_cells n_trial_jars n_trial_weeks n_trial_cells n_trial_standing) A) A) (([Value.ref o, Value.int a1] : List Value).toArray) s 0 0 A := ⟨_, rfl⟩
  have hl := lv_entry ([.ref o, .int a1]) (n := 2) (Nat.le_of_ble_eq_true rfl)
  rw [← hQ, lg_entry_eq]
  generalize (lg_sl ([.ref o, .int a1]) ++ List.replicate (2 - (lg_sl ([.ref o, .int a1])).length) Slot.unset).toArray = ls at hl ⊢
  have hl : lv_has ls 2 [(0, .ref o), (1, .int a1)] := hl
  generalize hH : s.heap = H at hP hS ⊢
  have hS : va_S A s.heap H [] := by rw [hH]; exact hS
  generalize hlc : ([] : List Loc) = locs at hS ⊢
  show W p l e rm_X7_pairsWithout s m (([Value.ref o, Value.int a1] : List Value).toArray) below meth c H locs 0 0 Q (F0 m 0 ls [])
  unfold x7_pairsWithout at hf
  refine lv_aload_n hx hb dX7_pairsWithout_0 rfl (lv_at hl 0 rfl) ?_
  refine va_get (D := (dC, dI)) (ci := 7) (v := .ref o_trial) (C := RX7) (T := TX7) (N := 9) hx hb hts hiX7 hown hK hP 0 rfl rfl 2 (by decide) (hts (.fieldLink RX7 23 "GreenJars" "trial" "LGreenJars$Shelf;") (by decide +kernel)) (fun _ h9 => h9) rfl dX7_pairsWithout_1 ?_
  refine lv_aload_n hx hb dX7_pairsWithout_4 rfl (lv_at hl 0 rfl) ?_
  refine va_get (D := (dC, dI)) (ci := 7) (v := .ref o_now) (C := RX7) (T := TX7) (N := 9) hx hb hts hiX7 hown hK hP 0 rfl rfl 1 (by decide) (hts (.fieldLink RX7 19 "GreenJars" "now" "LGreenJars$Shelf;") (by decide +kernel)) (fun _ h9 => h9) rfl dX7_pairsWithout_5 ?_
  refine lv_iload_n hx hb dX7_pairsWithout_8 rfl (lv_at hl 1 rfl) ?_
  obtain ⟨y1, y2, y3, hc4, hf⟩ := g_b3 hf
  refine g_wVv (As := [.ref o_now, .int a1]) (rest := []) (wr := [(o, .inr (7, [.ref o_text, .ref o_now, .ref o_trial, .ref o_acts, .ref o_slots, .ref o_tastes, .ref o_ways, .ref o_fraction, .long v_seedNow])), (o_trial_standing, .inl (cI, 8, .inl f_trial_standing))]) (wn := (w_X7_pairsWithout cI cZ cG o o_text o_now o_trial o_acts o_slots o_tastes o_ways o_fraction o_now_cells o_now_standing o_trial_cells o_trial_standing v_seedNow v_now_jars v_now_weeks f_now_cells y1 y2 y3 f_trial_standing)) ⟨hx, hb, hml, hown, hts⟩ (c_X2_copyWithout l dC dI cI cZ cG o_trial o_trial_cells o_trial_standing o_now o_now_cells o_now_standing H.size  v_trial_jars v_trial_weeks f_trial_cells v_now_jars v_now_weeks f_now_cells a1 hc4) (cwV 2 hts gX7_pairsWithout_X2_copyWithout rfl rfl rfl (by decide +kernel) ⟨Nat.le_of_ble_eq_true rfl, Nat.le_of_ble_eq_true rfl⟩) hK hN hP hD hS hA [3, 4, 1, 2] [0, 5] [0, 4, 5, 2, 3, 1] rfl rfl (by decide) rfl (by decide) (by decide) rfl (by decide) (va_recv hK hP (ci := 2) (q0 := 3) rfl rfl) rfl hl.1 rfl (Nat.le_of_ble_eq_true rfl) dX7_pairsWithout_9 ⟨Nat.zero_le _, Nat.zero_le _⟩ (fun H locs hP hD hS => ?_)
  refine lv_aload_n hx hb dX7_pairsWithout_12 rfl (lv_at hl 0 rfl) ?_
  refine va_get (D := (dC, dI)) (ci := 7) (v := .ref o_trial) (C := RX7) (T := TX7) (N := 9) hx hb hts hiX7 hown hK hP 0 rfl rfl 2 (by decide) (hts (.fieldLink RX7 23 "GreenJars" "trial" "LGreenJars$Shelf;") (by decide +kernel)) (fun _ h9 => h9) rfl dX7_pairsWithout_13 ?_
  obtain ⟨r5, y6, hc7, hf⟩ := g_b2 hf
  refine g_wV (As := []) (rest := []) (wr := [(o, .inr (7, [.ref o_text, .ref o_now, .ref o_trial, .ref o_acts, .ref o_slots, .ref o_tastes, .ref o_ways, .ref o_fraction, .long v_seedNow])), (o_now, .inr (2, [.ref o_now_cells, .ref o_now_standing, .int v_now_jars, .int v_now_weeks])), (o_now_cells, .inl (cI, 48, .inl f_now_cells))]) (wn := (w_X7_pairsWithout cI cZ cG o o_text o_now o_trial o_acts o_slots o_tastes o_ways o_fraction o_now_cells o_now_standing o_trial_cells o_trial_standing v_seedNow v_now_jars v_now_weeks f_now_cells y1 y2 y3 y6)) ⟨hx, hb, hml, hown, hts⟩ (c_X2_pairs l dC dI cI cZ cG o_trial o_trial_cells o_trial_standing H.size  y1 y2 y3 f_trial_standing hc7) (cwV 0 hts gX7_pairsWithout_X2_pairs rfl rfl rfl (by decide +kernel) ⟨Nat.le_of_ble_eq_true rfl, Nat.le_of_ble_eq_true rfl⟩) hK hN hP hD hS hA [3, 4, 5] [0, 1, 2] [0, 1, 2, 3, 4, 5] rfl rfl (by decide) rfl (by decide) (by decide) rfl (by decide) (va_recv hK hP (ci := 2) (q0 := 3) rfl rfl) rfl hl.1 rfl (Nat.le_of_ble_eq_true rfl) dX7_pairsWithout_16 ⟨Nat.zero_le _, Nat.zero_le _⟩ (fun H locs hP hD hS => ?_)
  rw [hQ]
  cases hf
  exact W.iret hx hb hr (fun t ht hW => ⟨⟨_, (), rfl, rfl, by rw [ht]; exact hP, va_K.moved hW.alike hK, hD⟩, hS.F ht⟩) hS.2.2 dX7_pairsWithout_19
abbrev rm_X7_papers : Room := { frames := 5, cells := 0, slots := 0, locals := 113 }
abbrev w_X7_papers (cI cZ cG : ClassId) (o : Nat) (o_text : Nat) (o_now : Nat) (o_trial : Nat) (o_acts : Nat) (o_slots : Nat) (o_tastes : Nat) (o_ways : Nat) (o_fraction : Nat) (o_now_cells : Nat) (o_now_standing : Nat) (o_trial_cells : Nat) (o_trial_standing : Nat) (v_seedNow : Int64) (v_now_jars : Int32) (v_now_weeks : Int32) (f_now_cells : Nat → Int32) (v_trial_jars : Int32) (v_trial_weeks : Int32) (f_trial_cells : Nat → Int32) (f_trial_standing : Nat → Int32) (v_fraction_above : Int32) (v_fraction_below : Int32) : va_W := [(o, .inr (7, [.ref o_text, .ref o_now, .ref o_trial, .ref o_acts, .ref o_slots, .ref o_tastes, .ref o_ways, .ref o_fraction, .long v_seedNow])), (o_now, .inr (2, [.ref o_now_cells, .ref o_now_standing, .int v_now_jars, .int v_now_weeks])), (o_now_cells, .inl (cI, 48, .inl f_now_cells)), (o_trial, .inr (2, [.ref o_trial_cells, .ref o_trial_standing, .int v_trial_jars, .int v_trial_weeks])), (o_trial_cells, .inl (cI, 48, .inl f_trial_cells)), (o_trial_standing, .inl (cI, 8, .inl f_trial_standing)), (o_fraction, .inr (1, [.int v_fraction_above, .int v_fraction_below]))]
set_option maxHeartbeats 4000000 in
set_option maxRecDepth 100000 in
theorem c_X7_papers (l : Launch) (dC : Nat → ClassId) (dI : Nat → Nat → Nat) (cI cZ cG : ClassId) {N : Nat} (o : Nat) (o_text : Nat) (o_now : Nat) (o_trial : Nat) (o_acts : Nat) (o_slots : Nat) (o_tastes : Nat) (o_ways : Nat) (o_fraction : Nat) (o_now_cells : Nat) (o_now_standing : Nat) (o_trial_cells : Nat) (o_trial_standing : Nat) (sz : Nat) (v_seedNow : Int64) (v_now_jars : Int32) (v_now_weeks : Int32) (f_now_cells : Nat → Int32) (v_trial_jars : Int32) (v_trial_weeks : Int32) (f_trial_cells : Nat → Int32) (f_trial_standing : Nat → Int32) (v_fraction_above : Int32) (v_fraction_below : Int32) (a1 : Int32) (a2 : Int32) (a3 : Int32) {r0 : Int32} {n_trial_jars : Int32} {n_trial_weeks : Int32} {n_trial_cells : Nat → Int32} {n_trial_standing : Nat → Int32} {n_fraction_above : Int32} {n_fraction_below : Int32} (hf : x7_papers N v_now_jars v_now_weeks f_now_cells v_trial_jars v_trial_weeks f_trial_cells f_trial_standing v_fraction_above v_fraction_below a1 a2 a3 = some (r0, n_trial_jars, n_trial_weeks, n_trial_cells, n_trial_standing, n_fraction_above, n_fraction_below)) : Met l yX7_papers wsX7_papers rm_X7_papers (va_Pc [.ref o, .int a1, .int a2, .int a3] (gW (dC, dI) vwCl (gT cI cZ cG) (w_X7_papers cI cZ cG o o_text o_now o_trial o_acts o_slots o_tastes o_ways o_fraction o_now_cells o_now_standing o_trial_cells o_trial_standing v_seedNow v_now_jars v_now_weeks f_now_cells v_trial_jars v_trial_weeks f_trial_cells f_trial_standing v_fraction_above v_fraction_below) sz)) (va_Qi (fun r _ => r = r0) (gE (dC, dI) vwCl (gT cI cZ cG) (w_X7_papers cI cZ cG o o_text o_now o_trial o_acts o_slots o_tastes o_ways o_fraction o_now_cells o_now_standing o_trial_cells o_trial_standing v_seedNow v_now_jars v_now_weeks f_now_cells n_trial_jars n_trial_weeks n_trial_cells n_trial_standing n_fraction_above n_fraction_below) (va_A (w_X7_papers cI cZ cG o o_text o_now o_trial o_acts o_slots o_tastes o_ways o_fraction o_now_cells o_now_standing o_trial_cells o_trial_standing v_seedNow v_now_jars v_now_weeks f_now_cells v_trial_jars v_trial_weeks f_trial_cells f_trial_standing v_fraction_above v_fraction_below) sz)) (va_A (w_X7_papers cI cZ cG o o_text o_now o_trial o_acts o_slots o_tastes o_ways o_fraction o_now_cells o_now_standing o_trial_cells o_trial_standing v_seedNow v_now_jars v_now_weeks f_now_cells v_trial_jars v_trial_weeks f_trial_cells f_trial_standing v_fraction_above v_fraction_below) sz)) 0 0 (va_A (w_X7_papers cI cZ cG o o_text o_now o_trial o_acts o_slots o_tastes o_ways o_fraction o_now_cells o_now_standing o_trial_cells o_trial_standing v_seedNow v_now_jars v_now_weeks f_now_cells v_trial_jars v_trial_weeks f_trial_cells f_trial_standing v_fraction_above v_fraction_below) sz) := by
  refine Met.ofW (cc := cX7_papers) (maxL := 9) (ret := (some .int)) (by decide) rfl ?_
  intro p e s m args below meth c s₁ B hml hv
  obtain ⟨rfl, hv⟩ := hv
  obtain ⟨hsz, hP, hK, hN, hD0⟩ := hv
  have hx := B.exec
  have hb := B.bytes
  have hr := B.returns
  have hts := atoms_spec (ws := wsX7_papers) B.pre
  have hown : s.vm.findClass RX7 = some m.cls := findClass_of_methodNamed B.named
  have hlocks := B.notSynchronized
  have hiX1 : ∀ w ∈ u_ws RX1 TX1 2, w ∈ wsX7_papers := fun w h => List.mem_cons_of_mem _ (List.mem_append_right _ h)
  have hiX2 : ∀ w ∈ u_ws RX2 TX2 4, w ∈ wsX7_papers := fun w h => List.mem_cons_of_mem _ (List.mem_append_left _ (List.mem_append_right _ h))
  have hiX7 : ∀ w ∈ u_ws RX7 TX7 9, w ∈ wsX7_papers := fun w h => List.mem_cons_of_mem _ (List.mem_append_left _ (List.mem_append_left _ (List.mem_append_right _ h)))
  subst hsz
  have hD := hD0.self (sz := s.heap.size)
  generalize hAe : va_A (w_X7_papers cI cZ cG o o_text o_now o_trial o_acts o_slots o_tastes o_ways o_fraction o_now_cells o_now_standing o_trial_cells o_trial_standing v_seedNow v_now_jars v_now_weeks f_now_cells v_trial_jars v_trial_weeks f_trial_cells f_trial_standing v_fraction_above v_fraction_below) s.heap.size = A at hD ⊢
  have hA : ∀ q : Nat, s.heap.size ≤ q → A q := fun q h => by rw [← hAe]; exact Or.inr h
  clear hD0
  have hS : va_S A s.heap s.heap [] := va_S.rf
  have hP : va_P (dC, dI) vwCl (w_X7_papers cI cZ cG o o_text o_now o_trial o_acts o_slots o_tastes o_ways o_fraction o_now_cells o_now_standing o_trial_cells o_trial_standing v_seedNow v_now_jars v_now_weeks f_now_cells v_trial_jars v_trial_weeks f_trial_cells f_trial_standing v_fraction_above v_fraction_below) s.heap := hP
  obtain ⟨Q, hQ⟩ : ∃ Q : State → Prop, Q = MQ below (va_Qi (fun r _ => r = r0) (gE (dC, dI) vwCl (gT cI cZ cG) (w_X7_papers cI cZ cG o o_text o_now o_trial o_acts o_slots o_tastes o_ways o_fraction o_now_cells o_now_standing o_trial_cells o_trial_standing v_seedNow v_now_jars v_now_weeks f_now_cells n_trial_jars n_trial_weeks n_trial_cells n_trial_standing n_fraction_above n_fraction_below) A) A) (([Value.ref o, Value.int a1, Value.int a2, Value.int a3] : List Value).toArray) s 0 0 A := ⟨_, rfl⟩
  have hl := lv_entry ([.ref o, .int a1, .int a2, .int a3]) (n := 9) (Nat.le_of_ble_eq_true rfl)
  rw [← hQ, lg_entry_eq]
  generalize (lg_sl ([.ref o, .int a1, .int a2, .int a3]) ++ List.replicate (9 - (lg_sl ([.ref o, .int a1, .int a2, .int a3])).length) Slot.unset).toArray = ls at hl ⊢
  have hl : lv_has ls 9 [(0, .ref o), (1, .int a1), (2, .int a2), (3, .int a3)] := hl
  generalize hH : s.heap = H at hP hS ⊢
  have hS : va_S A s.heap H [] := by rw [hH]; exact hS
  generalize hlc : ([] : List Loc) = locs at hS ⊢
  show W p l e rm_X7_papers s m (([Value.ref o, Value.int a1, Value.int a2, Value.int a3] : List Value).toArray) below meth c H locs 0 0 Q (F0 m 0 ls [])
  have L45 : ∀ (n45 : Nat), ∀ (x4 : Int32) (x5 : Int32) (x6 : Int32) (x7 : Int32) (y_trial_jars : Int32) (y_trial_weeks : Int32) (y_trial_cells : Nat → Int32) (y_trial_standing : Nat → Int32) (y_fraction_above : Int32) (y_fraction_below : Int32) (H : Heap) (locs : List Loc) (ls : Array Slot), x7_papers_b45 N v_now_jars v_now_weeks f_now_cells a1 a2 a3 n45 x4 x5 x6 x7 y_trial_jars y_trial_weeks y_trial_cells y_trial_standing y_fraction_above y_fraction_below = some (r0, n_trial_jars, n_trial_weeks, n_trial_cells, n_trial_standing, n_fraction_above, n_fraction_below) → lv_has ls 9 [(0, .ref o), (1, .int a1), (2, .int a2), (3, .int a3), (4, .int x4), (5, .int x5), (6, .int x6), (7, .int x7)] → va_P (dC, dI) vwCl (w_X7_papers cI cZ cG o o_text o_now o_trial o_acts o_slots o_tastes o_ways o_fraction o_now_cells o_now_standing o_trial_cells o_trial_standing v_seedNow v_now_jars v_now_weeks f_now_cells y_trial_jars y_trial_weeks y_trial_cells y_trial_standing y_fraction_above y_fraction_below) H → va_D A (w_X7_papers cI cZ cG o o_text o_now o_trial o_acts o_slots o_tastes o_ways o_fraction o_now_cells o_now_standing o_trial_cells o_trial_standing v_seedNow v_now_jars v_now_weeks f_now_cells y_trial_jars y_trial_weeks y_trial_cells y_trial_standing y_fraction_above y_fraction_below) → va_S A s.heap H locs → W p l e rm_X7_papers s m (([Value.ref o, Value.int a1, Value.int a2, Value.int a3] : List Value).toArray) below meth c H locs 0 0 Q (F0 m 45 ls []) := by
    intro n45
    induction n45 with
    | zero =>
      intro x4 x5 x6 x7 y_trial_jars y_trial_weeks y_trial_cells y_trial_standing y_fraction_above y_fraction_below H locs ls hf hl hP hD hS
      exact g_no hf
    | succ n45 ih45 =>
      intro x4 x5 x6 x7 y_trial_jars y_trial_weeks y_trial_cells y_trial_standing y_fraction_above y_fraction_below H locs ls hf hl hP hD hS
      unfold x7_papers_b45 at hf
      refine lv_iload hx hb dX7_papers_45 (lv_at hl 7 rfl) ?_
      refine lv_iload hx hb dX7_papers_47 (lv_at hl 4 rfl) ?_
      refine lv_icmp_gt (tgt := 109) hx hb dX7_papers_49 (by decide) (fun c1 => ?_) (fun c1 => ?_)
      · have hf := g_pos c1 hf
        refine lv_aload_n hx hb dX7_papers_109 rfl (lv_at hl 0 rfl) ?_
        refine va_get (D := (dC, dI)) (ci := 7) (v := .ref o_fraction) (C := RX7) (T := TX7) (N := 9) hx hb hts hiX7 hown hK hP 0 rfl rfl 7 (by decide) (hts (.fieldLink RX7 57 "GreenJars" "fraction" "LGreenJars$Fraction;") (by decide +kernel)) (fun _ h9 => h9) rfl dX7_papers_110 ?_
        refine lv_iload hx hb dX7_papers_113 (lv_at hl 6 rfl) ?_
        refine lv_bipush (v := (10 : Int32)) hx hb dX7_papers_115 (by decide +kernel) ?_
        refine lv_iload hx hb dX7_papers_117 (lv_at hl 5 rfl) ?_
        obtain ⟨r2, hc3, hf⟩ := g_b1 hf
        refine g_rS (As := [.int (10 : Int32), .int x5]) (rest := [.int x6, .ref o_fraction]) ⟨hx, hb, hml, hown, hts⟩ (c_X7_power l dC dI cI cZ cG    (10 : Int32) x5 hc3) (va_cwS 2 hts gX7_papers_X7_power rfl rfl rfl (by decide +kernel) ⟨Nat.le_of_ble_eq_true rfl, Nat.le_of_ble_eq_true rfl⟩) hK hN (hP.sub [] rfl) rfl hl.1 rfl (Nat.le_of_ble_eq_true rfl) dX7_papers_119 ⟨Nat.zero_le _, Nat.zero_le _⟩ ?_
        obtain ⟨y4, y5, hc6, hf⟩ := g_b2 hf
        refine g_wVv (As := [.int x6, .int r2]) (rest := []) (wr := [(o, .inr (7, [.ref o_text, .ref o_now, .ref o_trial, .ref o_acts, .ref o_slots, .ref o_tastes, .ref o_ways, .ref o_fraction, .long v_seedNow])), (o_now, .inr (2, [.ref o_now_cells, .ref o_now_standing, .int v_now_jars, .int v_now_weeks])), (o_now_cells, .inl (cI, 48, .inl f_now_cells)), (o_trial, .inr (2, [.ref o_trial_cells, .ref o_trial_standing, .int y_trial_jars, .int y_trial_weeks])), (o_trial_cells, .inl (cI, 48, .inl y_trial_cells)), (o_trial_standing, .inl (cI, 8, .inl y_trial_standing))]) (wn := (w_X7_papers cI cZ cG o o_text o_now o_trial o_acts o_slots o_tastes o_ways o_fraction o_now_cells o_now_standing o_trial_cells o_trial_standing v_seedNow v_now_jars v_now_weeks f_now_cells y_trial_jars y_trial_weeks y_trial_cells y_trial_standing y4 y5)) ⟨hx, hb, hml, hown, hts⟩ (c_X1_make l dC dI cI cZ cG o_fraction H.size  y_fraction_above y_fraction_below x6 r2 hc6) (cwV 2 hts gX7_papers_X1_make rfl rfl rfl (by decide +kernel) ⟨Nat.le_of_ble_eq_true rfl, Nat.le_of_ble_eq_true rfl⟩) hK hN hP hD hS hA [6] [0, 1, 2, 3, 4, 5] [0, 1, 2, 3, 4, 5, 6] rfl rfl (by decide) rfl (by decide) (by decide) rfl (by decide) (va_recv hK hP (ci := 1) (q0 := 6) rfl rfl) rfl hl.1 rfl (Nat.le_of_ble_eq_true rfl) dX7_papers_122 ⟨Nat.zero_le _, Nat.zero_le _⟩ (fun H locs hP hD hS => ?_)
        refine lv_aload_n hx hb dX7_papers_125 rfl (lv_at hl 0 rfl) ?_
        refine va_get (D := (dC, dI)) (ci := 7) (v := .ref o_fraction) (C := RX7) (T := TX7) (N := 9) hx hb hts hiX7 hown hK hP 0 rfl rfl 7 (by decide) (hts (.fieldLink RX7 57 "GreenJars" "fraction" "LGreenJars$Fraction;") (by decide +kernel)) (fun _ h9 => h9) rfl dX7_papers_126 ?_
        refine lv_iload_n hx hb dX7_papers_129 rfl (lv_at hl 3 rfl) ?_
        obtain ⟨r7, hc8, hf⟩ := g_b1 hf
        refine g_rV (As := [.int a3]) (rest := []) ⟨hx, hb, hml, hown, hts⟩ (c_X1_told l dC dI cI cZ cG o_fraction  y4 y5 a3 hc8) (cwV 1 hts gX7_papers_X1_told rfl rfl rfl (by decide +kernel) ⟨Nat.le_of_ble_eq_true rfl, Nat.le_of_ble_eq_true rfl⟩) hK hN (hP.sub [6] rfl) (va_recv hK hP (ci := 1) (q0 := 6) rfl rfl) rfl hl.1 rfl (Nat.le_of_ble_eq_true rfl) dX7_papers_130 ⟨Nat.zero_le _, Nat.zero_le _⟩ ?_
        rw [hQ]
        cases hf
        exact W.iret hx hb hr (fun t ht hW => ⟨⟨_, (), rfl, rfl, by rw [ht]; exact hP, va_K.moved hW.alike hK, hD⟩, hS.F ht⟩) hS.2.2 dX7_papers_133
      · have hf := g_neg c1 hf
        refine lv_iload hx hb dX7_papers_52 (lv_at hl 7 rfl) ?_
        refine lv_iload hx hb dX7_papers_54 (lv_at hl 4 rfl) ?_
        refine lv_iconst (v := (-1 : Int32)) hx hb dX7_papers_56 (by decide) ?_
        refine lv_ixor hx hb dX7_papers_57 ?_
        refine lv_iand hx hb dX7_papers_58 ?_
        refine lv_if_ne (tgt := 103) hx hb dX7_papers_59 (by decide) (fun c9 => ?_) (fun c9 => ?_)
        · have hf := g_neg c9 hf
          refine lv_iinc (v := (x7 + (1 : Int32))) (lv' := [(7, .int (x7 + (1 : Int32))), (0, .ref o), (1, .int a1), (2, .int a2), (3, .int a3), (4, .int x4), (5, .int x5), (6, .int x6)]) hx hb dX7_papers_103 hl (k := 7) rfl rfl (by decide) rfl (fun ls hl => ?_)
          refine lv_goto (tgt := 45) hx hb dX7_papers_106 (by decide) ?_
          exact ih45 x4 x5 x6 (x7 + (1 : Int32)) y_trial_jars y_trial_weeks y_trial_cells y_trial_standing y_fraction_above y_fraction_below H locs ls hf (lv_sub hl [1, 2, 3, 4, 5, 6, 7, 0] rfl) hP hD hS
        · have hf := g_pos c9 hf
          refine lv_aload_n hx hb dX7_papers_62 rfl (lv_at hl 0 rfl) ?_
          refine lv_iload hx hb dX7_papers_63 (lv_at hl 7 rfl) ?_
          obtain ⟨r10, y11, y12, y13, y14, hc15, hf⟩ := g_b5 hf
          refine g_wV (As := [.int x7]) (rest := []) (wr := [(o_fraction, .inr (1, [.int y_fraction_above, .int y_fraction_below]))]) (wn := (w_X7_papers cI cZ cG o o_text o_now o_trial o_acts o_slots o_tastes o_ways o_fraction o_now_cells o_now_standing o_trial_cells o_trial_standing v_seedNow v_now_jars v_now_weeks f_now_cells y11 y12 y13 y14 y_fraction_above y_fraction_below)) ⟨hx, hb, hml, hown, hts⟩ (c_X7_pairsWithout l dC dI cI cZ cG o o_text o_now o_trial o_acts o_slots o_tastes o_ways o_fraction o_now_cells o_now_standing o_trial_cells o_trial_standing H.size  v_seedNow v_now_jars v_now_weeks f_now_cells y_trial_jars y_trial_weeks y_trial_cells y_trial_standing x7 hc15) (cwV 1 hts gX7_papers_X7_pairsWithout rfl rfl rfl (by decide +kernel) ⟨Nat.le_of_ble_eq_true rfl, Nat.le_of_ble_eq_true rfl⟩) hK hN hP hD hS hA [0, 1, 2, 3, 4, 5] [6] [1, 2, 3, 4, 5, 6, 0] rfl rfl (by decide) rfl (by decide) (by decide) rfl (by decide) (va_recv hK hP (ci := 7) (q0 := 0) rfl rfl) rfl hl.1 rfl (Nat.le_of_ble_eq_true rfl) dX7_papers_65 ⟨Nat.zero_le _, Nat.zero_le _⟩ (fun H locs hP hD hS => ?_)
          refine lv_iload_n hx hb dX7_papers_68 rfl (lv_at hl 1 rfl) ?_
          refine lv_icmp_lt (tgt := 103) hx hb dX7_papers_69 (by decide) (fun c16 => ?_) (fun c16 => ?_)
          · have hf := g_pos c16 hf
            refine lv_iinc (v := (x7 + (1 : Int32))) (lv' := [(7, .int (x7 + (1 : Int32))), (0, .ref o), (1, .int a1), (2, .int a2), (3, .int a3), (4, .int x4), (5, .int x5), (6, .int x6)]) hx hb dX7_papers_103 hl (k := 7) rfl rfl (by decide) rfl (fun ls hl => ?_)
            refine lv_goto (tgt := 45) hx hb dX7_papers_106 (by decide) ?_
            exact ih45 x4 x5 x6 (x7 + (1 : Int32)) y11 y12 y13 y14 y_fraction_above y_fraction_below H locs ls hf (lv_sub hl [1, 2, 3, 4, 5, 6, 7, 0] rfl) hP hD hS
          · have hf := g_neg c16 hf
            refine lv_iload hx hb dX7_papers_72 (lv_at hl 7 rfl) ?_
            obtain ⟨r17, hc18, hf⟩ := g_b1 hf
            refine g_rS (As := [.int x7]) (rest := []) ⟨hx, hb, hml, hown, hts⟩ (c_J6_bitCount_0f7a4 l dC dI cI cZ cG    x7 hc18) (va_cwS 1 hts gX7_papers_J6_bitCount_0f7a4 rfl rfl rfl (by decide +kernel) ⟨Nat.le_of_ble_eq_true rfl, Nat.le_of_ble_eq_true rfl⟩) hK hN (hP.sub [] rfl) rfl hl.1 rfl (Nat.le_of_ble_eq_true rfl) dX7_papers_74 ⟨Nat.zero_le _, Nat.zero_le _⟩ ?_
            refine lv_istore (lv' := [(8, .int r17), (0, .ref o), (1, .int a1), (2, .int a2), (3, .int a3), (4, .int x4), (5, .int x5), (6, .int x6), (7, .int x7)]) hx hb dX7_papers_77 hl (by decide) rfl (fun ls hl => ?_)
            refine lv_iload hx hb dX7_papers_79 (lv_at hl 7 rfl) ?_
            refine lv_iload_n hx hb dX7_papers_81 rfl (lv_at hl 3 rfl) ?_
            refine lv_iload hx hb dX7_papers_82 (lv_at hl 0 rfl) ?_
            obtain ⟨r19, hc20, hf⟩ := g_b1 hf
            refine g_rS (As := [.int a2, .int r17]) (rest := [.int x6]) ⟨hx, hb, hml, hown, hts⟩ (c_X7_power l dC dI cI cZ cG    a2 r17 hc20) (va_cwS 2 hts gX7_papers_X7_power rfl rfl rfl (by decide +kernel) ⟨Nat.le_of_ble_eq_true rfl, Nat.le_of_ble_eq_true rfl⟩) hK hN (hP.sub [] rfl) rfl hl.1 rfl (Nat.le_of_ble_eq_true rfl) dX7_papers_84 ⟨Nat.zero_le _, Nat.zero_le _⟩ ?_
            refine lv_bipush (v := (10 : Int32)) hx hb dX7_papers_87 (by decide +kernel) ?_
            refine lv_iload_n hx hb dX7_papers_89 rfl (lv_at hl 3 rfl) ?_
            refine lv_isub hx hb dX7_papers_90 ?_
            refine lv_iload hx hb dX7_papers_91 (lv_at hl 6 rfl) ?_
            refine lv_iload hx hb dX7_papers_93 (lv_at hl 0 rfl) ?_
            refine lv_isub hx hb dX7_papers_95 ?_
            obtain ⟨r21, hc22, hf⟩ := g_b1 hf
            refine g_rS (As := [.int ((10 : Int32) - a2), .int (x5 - r17)]) (rest := [.int r19, .int x6]) ⟨hx, hb, hml, hown, hts⟩ (c_X7_power l dC dI cI cZ cG    ((10 : Int32) - a2) (x5 - r17) hc22) (va_cwS 2 hts gX7_papers_X7_power rfl rfl rfl (by decide +kernel) ⟨Nat.le_of_ble_eq_true rfl, Nat.le_of_ble_eq_true rfl⟩) hK hN (hP.sub [] rfl) rfl hl.1 rfl (Nat.le_of_ble_eq_true rfl) dX7_papers_96 ⟨Nat.zero_le _, Nat.zero_le _⟩ ?_
            refine lv_imul hx hb dX7_papers_99 ?_
            refine lv_iadd hx hb dX7_papers_100 ?_
            refine lv_istore (lv' := [(6, .int (x6 + (r19 * r21))), (8, .int r17), (0, .ref o), (1, .int a1), (2, .int a2), (3, .int a3), (4, .int x4), (5, .int x5), (7, .int x7)]) hx hb dX7_papers_101 hl (by decide) rfl (fun ls hl => ?_)
            refine lv_iinc (v := (x7 + (1 : Int32))) (lv' := [(7, .int (x7 + (1 : Int32))), (6, .int (x6 + (r19 * r21))), (8, .int r17), (0, .ref o), (1, .int a1), (2, .int a2), (3, .int a3), (4, .int x4), (5, .int x5)]) hx hb dX7_papers_103 hl (k := 8) rfl rfl (by decide) rfl (fun ls hl => ?_)
            refine lv_goto (tgt := 45) hx hb dX7_papers_106 (by decide) ?_
            exact ih45 x4 x5 (x6 + (r19 * r21)) (x7 + (1 : Int32)) y11 y12 y13 y14 y_fraction_above y_fraction_below H locs ls hf (lv_sub hl [3, 4, 5, 6, 7, 8, 1, 0] rfl) hP hD hS
  unfold x7_papers at hf
  refine lv_iload_n hx hb dX7_papers_0 rfl (lv_at hl 1 rfl) ?_
  refine lv_if_lt (tgt := 19) hx hb dX7_papers_1 (by decide) (fun c23 => ?_) (fun c23 => ?_)
  · have hf := g_pos c23 hf
    refine lv_bipush (v := (-2 : Int32)) hx hb dX7_papers_19 (by decide +kernel) ?_
    rw [hQ]
    cases hf
    exact W.iret hx hb hr (fun t ht hW => ⟨⟨_, (), rfl, rfl, by rw [ht]; exact hP, va_K.moved hW.alike hK, hD⟩, hS.F ht⟩) hS.2.2 dX7_papers_21
  · have hf := g_neg c23 hf
    refine lv_iload_n hx hb dX7_papers_4 rfl (lv_at hl 1 rfl) ?_
    refine lv_iconst (v := (3 : Int32)) hx hb dX7_papers_5 (by decide) ?_
    refine lv_icmp_gt (tgt := 19) hx hb dX7_papers_6 (by decide) (fun c24 => ?_) (fun c24 => ?_)
    · have hf := g_pos c24 hf
      refine lv_bipush (v := (-2 : Int32)) hx hb dX7_papers_19 (by decide +kernel) ?_
      rw [hQ]
      cases hf
      exact W.iret hx hb hr (fun t ht hW => ⟨⟨_, (), rfl, rfl, by rw [ht]; exact hP, va_K.moved hW.alike hK, hD⟩, hS.F ht⟩) hS.2.2 dX7_papers_21
    · have hf := g_neg c24 hf
      refine lv_iload_n hx hb dX7_papers_9 rfl (lv_at hl 2 rfl) ?_
      refine lv_if_lt (tgt := 19) hx hb dX7_papers_10 (by decide) (fun c25 => ?_) (fun c25 => ?_)
      · have hf := g_pos c25 hf
        refine lv_bipush (v := (-2 : Int32)) hx hb dX7_papers_19 (by decide +kernel) ?_
        rw [hQ]
        cases hf
        exact W.iret hx hb hr (fun t ht hW => ⟨⟨_, (), rfl, rfl, by rw [ht]; exact hP, va_K.moved hW.alike hK, hD⟩, hS.F ht⟩) hS.2.2 dX7_papers_21
      · have hf := g_neg c25 hf
        refine lv_iload_n hx hb dX7_papers_13 rfl (lv_at hl 2 rfl) ?_
        refine lv_bipush (v := (10 : Int32)) hx hb dX7_papers_14 (by decide +kernel) ?_
        refine lv_icmp_le (tgt := 22) hx hb dX7_papers_16 (by decide) (fun c26 => ?_) (fun c26 => ?_)
        · have hf := g_pos c26 hf
          refine lv_aload_n hx hb dX7_papers_22 rfl (lv_at hl 0 rfl) ?_
          refine va_get (D := (dC, dI)) (ci := 7) (v := .ref o_now) (C := RX7) (T := TX7) (N := 9) hx hb hts hiX7 hown hK hP 0 rfl rfl 1 (by decide) (hts (.fieldLink RX7 19 "GreenJars" "now" "LGreenJars$Shelf;") (by decide +kernel)) (fun _ h9 => h9) rfl dX7_papers_23 ?_
          refine lv_iconst (v := (0 : Int32)) hx hb dX7_papers_26 (by decide) ?_
          obtain ⟨r27, hc28, hf⟩ := g_b1 hf
          refine g_rV (As := [.int (0 : Int32)]) (rest := []) ⟨hx, hb, hml, hown, hts⟩ (c_X2_bitsOf l dC dI cI cZ cG o_now o_now_cells o_now_standing  v_now_jars v_now_weeks f_now_cells (0 : Int32) hc28) (cwV 1 hts gX7_papers_X2_bitsOf rfl rfl rfl (by decide +kernel) ⟨Nat.le_of_ble_eq_true rfl, Nat.le_of_ble_eq_true rfl⟩) hK hN (hP.sub [1, 2] rfl) (va_recv hK hP (ci := 2) (q0 := 1) rfl rfl) rfl hl.1 rfl (Nat.le_of_ble_eq_true rfl) dX7_papers_27 ⟨Nat.zero_le _, Nat.zero_le _⟩ ?_
          refine lv_istore (lv' := [(4, .int r27), (0, .ref o), (1, .int a1), (2, .int a2), (3, .int a3)]) hx hb dX7_papers_30 hl (by decide) rfl (fun ls hl => ?_)
          refine lv_iload hx hb dX7_papers_32 (lv_at hl 0 rfl) ?_
          obtain ⟨r29, hc30, hf⟩ := g_b1 hf
          refine g_rS (As := [.int r27]) (rest := []) ⟨hx, hb, hml, hown, hts⟩ (c_J6_bitCount_0f7a4 l dC dI cI cZ cG    r27 hc30) (va_cwS 1 hts gX7_papers_J6_bitCount_0f7a4 rfl rfl rfl (by decide +kernel) ⟨Nat.le_of_ble_eq_true rfl, Nat.le_of_ble_eq_true rfl⟩) hK hN (hP.sub [] rfl) rfl hl.1 rfl (Nat.le_of_ble_eq_true rfl) dX7_papers_34 ⟨Nat.zero_le _, Nat.zero_le _⟩ ?_
          refine lv_istore (lv' := [(5, .int r29), (4, .int r27), (0, .ref o), (1, .int a1), (2, .int a2), (3, .int a3)]) hx hb dX7_papers_37 hl (by decide) rfl (fun ls hl => ?_)
          refine lv_iconst (v := (0 : Int32)) hx hb dX7_papers_39 (by decide) ?_
          refine lv_istore (lv' := [(6, .int (0 : Int32)), (5, .int r29), (4, .int r27), (0, .ref o), (1, .int a1), (2, .int a2), (3, .int a3)]) hx hb dX7_papers_40 hl (by decide) rfl (fun ls hl => ?_)
          refine lv_iconst (v := (0 : Int32)) hx hb dX7_papers_42 (by decide) ?_
          refine lv_istore (lv' := [(7, .int (0 : Int32)), (6, .int (0 : Int32)), (5, .int r29), (4, .int r27), (0, .ref o), (1, .int a1), (2, .int a2), (3, .int a3)]) hx hb dX7_papers_43 hl (by decide) rfl (fun ls hl => ?_)
          exact L45 N r27 r29 (0 : Int32) (0 : Int32) v_trial_jars v_trial_weeks f_trial_cells f_trial_standing v_fraction_above v_fraction_below H locs ls hf (lv_sub hl [4, 5, 6, 7, 3, 2, 1, 0] rfl) hP hD hS
        · have hf := g_neg c26 hf
          refine lv_bipush (v := (-2 : Int32)) hx hb dX7_papers_19 (by decide +kernel) ?_
          rw [hQ]
          cases hf
          exact W.iret hx hb hr (fun t ht hW => ⟨⟨_, (), rfl, rfl, by rw [ht]; exact hP, va_K.moved hW.alike hK, hD⟩, hS.F ht⟩) hS.2.2 dX7_papers_21
abbrev rm_X7_seed : Room := { frames := 0, cells := 0, slots := 0, locals := 0 }
abbrev w_X7_seed (cI cZ cG : ClassId) (o : Nat) (o_text : Nat) (o_now : Nat) (o_trial : Nat) (o_acts : Nat) (o_slots : Nat) (o_tastes : Nat) (o_ways : Nat) (o_fraction : Nat) (v_seedNow : Int64) : va_W := [(o, .inr (7, [.ref o_text, .ref o_now, .ref o_trial, .ref o_acts, .ref o_slots, .ref o_tastes, .ref o_ways, .ref o_fraction, .long v_seedNow]))]
set_option maxHeartbeats 4000000 in
set_option maxRecDepth 100000 in
theorem c_X7_seed (l : Launch) (dC : Nat → ClassId) (dI : Nat → Nat → Nat) (cI cZ cG : ClassId) (o : Nat) (o_text : Nat) (o_now : Nat) (o_trial : Nat) (o_acts : Nat) (o_slots : Nat) (o_tastes : Nat) (o_ways : Nat) (o_fraction : Nat) (sz : Nat) (v_seedNow : Int64) (a1 : Int64) {r0 : Int64} {n_seedNow : Int64} (hf : x7_seed v_seedNow a1 = some (r0, n_seedNow)) : Met l yX7_seed wsX7_seed rm_X7_seed (va_Pc [.ref o, .long a1] (gW (dC, dI) vwCl (gT cI cZ cG) (w_X7_seed cI cZ cG o o_text o_now o_trial o_acts o_slots o_tastes o_ways o_fraction v_seedNow) sz)) (va_Ql (fun r _ => r = r0) (gE (dC, dI) vwCl (gT cI cZ cG) (w_X7_seed cI cZ cG o o_text o_now o_trial o_acts o_slots o_tastes o_ways o_fraction n_seedNow) (va_A (w_X7_seed cI cZ cG o o_text o_now o_trial o_acts o_slots o_tastes o_ways o_fraction v_seedNow) sz)) (va_A (w_X7_seed cI cZ cG o o_text o_now o_trial o_acts o_slots o_tastes o_ways o_fraction v_seedNow) sz)) 0 0 (va_A (w_X7_seed cI cZ cG o o_text o_now o_trial o_acts o_slots o_tastes o_ways o_fraction v_seedNow) sz) := by
  refine Met.ofW (cc := cX7_seed) (maxL := 5) (ret := (some .long)) (by decide) rfl ?_
  intro p e s m args below meth c s₁ B hml hv
  obtain ⟨rfl, hv⟩ := hv
  obtain ⟨hsz, hP, hK, hN, hD0⟩ := hv
  have hx := B.exec
  have hb := B.bytes
  have hr := B.returns
  have hts := atoms_spec (ws := wsX7_seed) B.pre
  have hown : s.vm.findClass RX7 = some m.cls := findClass_of_methodNamed B.named
  have hlocks := B.notSynchronized
  have hiX7 : ∀ w ∈ u_ws RX7 TX7 9, w ∈ wsX7_seed := fun w h => List.mem_cons_of_mem _ (List.mem_append_right _ h)
  subst hsz
  have hD := hD0.self (sz := s.heap.size)
  generalize hAe : va_A (w_X7_seed cI cZ cG o o_text o_now o_trial o_acts o_slots o_tastes o_ways o_fraction v_seedNow) s.heap.size = A at hD ⊢
  have hA : ∀ q : Nat, s.heap.size ≤ q → A q := fun q h => by rw [← hAe]; exact Or.inr h
  clear hD0
  have hS : va_S A s.heap s.heap [] := va_S.rf
  have hP : va_P (dC, dI) vwCl (w_X7_seed cI cZ cG o o_text o_now o_trial o_acts o_slots o_tastes o_ways o_fraction v_seedNow) s.heap := hP
  obtain ⟨Q, hQ⟩ : ∃ Q : State → Prop, Q = MQ below (va_Ql (fun r _ => r = r0) (gE (dC, dI) vwCl (gT cI cZ cG) (w_X7_seed cI cZ cG o o_text o_now o_trial o_acts o_slots o_tastes o_ways o_fraction n_seedNow) A) A) (([Value.ref o, Value.long a1] : List Value).toArray) s 0 0 A := ⟨_, rfl⟩
  have hl := lv_entry ([.ref o, .long a1]) (n := 5) (Nat.le_of_ble_eq_true rfl)
  rw [← hQ, lg_entry_eq]
  generalize (lg_sl ([.ref o, .long a1]) ++ List.replicate (5 - (lg_sl ([.ref o, .long a1])).length) Slot.unset).toArray = ls at hl ⊢
  have hl : lv_has ls 5 [(0, .ref o), (1, .long a1)] := hl
  generalize hH : s.heap = H at hP hS ⊢
  have hS : va_S A s.heap H [] := by rw [hH]; exact hS
  generalize hlc : ([] : List Loc) = locs at hS ⊢
  show W p l e rm_X7_seed s m (([Value.ref o, Value.long a1] : List Value).toArray) below meth c H locs 0 0 Q (F0 m 0 ls [])
  unfold x7_seed at hf
  refine lv_aload_n hx hb dX7_seed_0 rfl (lv_at hl 0 rfl) ?_
  refine va_get (D := (dC, dI)) (ci := 7) (v := .long v_seedNow) (C := RX7) (T := TX7) (N := 9) hx hb hts hiX7 hown hK hP 0 rfl rfl 8 (by decide) (hts (.fieldLink RX7 61 "GreenJars" "seedNow" "J") (by decide +kernel)) (fun _ h9 => h9) rfl dX7_seed_1 ?_
  refine lv_lstore_n (lv' := [(3, .long v_seedNow), (0, .ref o), (1, .long a1)]) hx hb dX7_seed_4 rfl hl (by decide) rfl (fun ls hl => ?_)
  refine lv_aload_n hx hb dX7_seed_5 rfl (lv_at hl 1 rfl) ?_
  refine lv_lload_n hx hb dX7_seed_6 rfl (lv_at hl 2 rfl) ?_
  refine va_put (D := (dC, dI)) (ci := 7) (v := .long a1) (ty := .long) (C := RX7) (T := TX7) (N := 9) hx hb hts hiX7 tyX7 tyX7_ok nmX7 hown hK hP hD hS 0 rfl rfl 8 (by decide) (hts (.fieldLink RX7 61 "GreenJars" "seedNow" "J") (by decide +kernel)) (fun _ h9 => h9) rfl (by decide +kernel) rfl rfl (Nat.le_of_ble_eq_true rfl) dX7_seed_7 (fun H locs hP hD hS => ?_)
  have hP : va_P (dC, dI) vwCl (w_X7_seed cI cZ cG o o_text o_now o_trial o_acts o_slots o_tastes o_ways o_fraction a1) H := hP
  have hD : va_D A (w_X7_seed cI cZ cG o o_text o_now o_trial o_acts o_slots o_tastes o_ways o_fraction a1) := hD
  refine lv_lload_n hx hb dX7_seed_10 rfl (lv_at hl 0 rfl) ?_
  rw [hQ]
  cases hf
  exact W.lret hx hb hr (fun t ht hW => ⟨⟨_, (), rfl, rfl, by rw [ht]; exact hP, va_K.moved hW.alike hK, hD⟩, hS.F ht⟩) hS.2.2 dX7_seed_11
abbrev rm_X7_trialByChance : Room := { frames := 4, cells := 0, slots := 0, locals := 89 }
abbrev w_X7_trialByChance (cI cZ cG : ClassId) (o : Nat) (o_text : Nat) (o_now : Nat) (o_trial : Nat) (o_acts : Nat) (o_slots : Nat) (o_tastes : Nat) (o_ways : Nat) (o_fraction : Nat) (o_trial_cells : Nat) (o_trial_standing : Nat) (v_seedNow : Int64) (v_trial_jars : Int32) (v_trial_weeks : Int32) (f_trial_cells : Nat → Int32) : va_W := [(o, .inr (7, [.ref o_text, .ref o_now, .ref o_trial, .ref o_acts, .ref o_slots, .ref o_tastes, .ref o_ways, .ref o_fraction, .long v_seedNow])), (o_trial, .inr (2, [.ref o_trial_cells, .ref o_trial_standing, .int v_trial_jars, .int v_trial_weeks])), (o_trial_cells, .inl (cI, 48, .inl f_trial_cells))]
set_option maxHeartbeats 4000000 in
set_option maxRecDepth 100000 in
theorem c_X7_trialByChance (l : Launch) (dC : Nat → ClassId) (dI : Nat → Nat → Nat) (cI cZ cG : ClassId) {N : Nat} (o : Nat) (o_text : Nat) (o_now : Nat) (o_trial : Nat) (o_acts : Nat) (o_slots : Nat) (o_tastes : Nat) (o_ways : Nat) (o_fraction : Nat) (o_trial_cells : Nat) (o_trial_standing : Nat) (sz : Nat) (v_seedNow : Int64) (v_trial_jars : Int32) (v_trial_weeks : Int32) (f_trial_cells : Nat → Int32) (a1 : Int32) {n_trial_weeks : Int32} {n_trial_cells : Nat → Int32} (hf : x7_trialByChance N v_trial_jars v_trial_weeks f_trial_cells a1 = some (n_trial_weeks, n_trial_cells)) : Met l yX7_trialByChance wsX7_trialByChance rm_X7_trialByChance (va_Pc [.ref o, .int a1] (gW (dC, dI) vwCl (gT cI cZ cG) (w_X7_trialByChance cI cZ cG o o_text o_now o_trial o_acts o_slots o_tastes o_ways o_fraction o_trial_cells o_trial_standing v_seedNow v_trial_jars v_trial_weeks f_trial_cells) sz)) (va_Qv (fun _ => True) (gE (dC, dI) vwCl (gT cI cZ cG) (w_X7_trialByChance cI cZ cG o o_text o_now o_trial o_acts o_slots o_tastes o_ways o_fraction o_trial_cells o_trial_standing v_seedNow v_trial_jars n_trial_weeks n_trial_cells) (va_A (w_X7_trialByChance cI cZ cG o o_text o_now o_trial o_acts o_slots o_tastes o_ways o_fraction o_trial_cells o_trial_standing v_seedNow v_trial_jars v_trial_weeks f_trial_cells) sz)) (va_A (w_X7_trialByChance cI cZ cG o o_text o_now o_trial o_acts o_slots o_tastes o_ways o_fraction o_trial_cells o_trial_standing v_seedNow v_trial_jars v_trial_weeks f_trial_cells) sz)) 0 0 (va_A (w_X7_trialByChance cI cZ cG o o_text o_now o_trial o_acts o_slots o_tastes o_ways o_fraction o_trial_cells o_trial_standing v_seedNow v_trial_jars v_trial_weeks f_trial_cells) sz) := by
  refine Met.ofW (cc := cX7_trialByChance) (maxL := 2) (ret := none) (by decide) rfl ?_
  intro p e s m args below meth c s₁ B hml hv
  obtain ⟨rfl, hv⟩ := hv
  obtain ⟨hsz, hP, hK, hN, hD0⟩ := hv
  have hx := B.exec
  have hb := B.bytes
  have hr := B.returns
  have hts := atoms_spec (ws := wsX7_trialByChance) B.pre
  have hown : s.vm.findClass RX7 = some m.cls := findClass_of_methodNamed B.named
  have hlocks := B.notSynchronized
  have hiX2 : ∀ w ∈ u_ws RX2 TX2 4, w ∈ wsX7_trialByChance := fun w h => List.mem_cons_of_mem _ (List.mem_append_right _ h)
  have hiX7 : ∀ w ∈ u_ws RX7 TX7 9, w ∈ wsX7_trialByChance := fun w h => List.mem_cons_of_mem _ (List.mem_append_left _ (List.mem_append_right _ h))
  subst hsz
  have hD := hD0.self (sz := s.heap.size)
  generalize hAe : va_A (w_X7_trialByChance cI cZ cG o o_text o_now o_trial o_acts o_slots o_tastes o_ways o_fraction o_trial_cells o_trial_standing v_seedNow v_trial_jars v_trial_weeks f_trial_cells) s.heap.size = A at hD ⊢
  have hA : ∀ q : Nat, s.heap.size ≤ q → A q := fun q h => by rw [← hAe]; exact Or.inr h
  clear hD0
  have hS : va_S A s.heap s.heap [] := va_S.rf
  have hP : va_P (dC, dI) vwCl (w_X7_trialByChance cI cZ cG o o_text o_now o_trial o_acts o_slots o_tastes o_ways o_fraction o_trial_cells o_trial_standing v_seedNow v_trial_jars v_trial_weeks f_trial_cells) s.heap := hP
  obtain ⟨Q, hQ⟩ : ∃ Q : State → Prop, Q = MQ below (va_Qv (fun _ => True) (gE (dC, dI) vwCl (gT cI cZ cG) (w_X7_trialByChance cI cZ cG o o_text o_now o_trial o_acts o_slots o_tastes o_ways o_fraction o_trial_cells o_trial_standing v_seedNow v_trial_jars n_trial_weeks n_trial_cells) A) A) (([Value.ref o, Value.int a1] : List Value).toArray) s 0 0 A := ⟨_, rfl⟩
  have hl := lv_entry ([.ref o, .int a1]) (n := 2) (Nat.le_of_ble_eq_true rfl)
  rw [← hQ, lg_entry_eq]
  generalize (lg_sl ([.ref o, .int a1]) ++ List.replicate (2 - (lg_sl ([.ref o, .int a1])).length) Slot.unset).toArray = ls at hl ⊢
  have hl : lv_has ls 2 [(0, .ref o), (1, .int a1)] := hl
  generalize hH : s.heap = H at hP hS ⊢
  have hS : va_S A s.heap H [] := by rw [hH]; exact hS
  generalize hlc : ([] : List Loc) = locs at hS ⊢
  show W p l e rm_X7_trialByChance s m (([Value.ref o, Value.int a1] : List Value).toArray) below meth c H locs 0 0 Q (F0 m 0 ls [])
  unfold x7_trialByChance at hf
  refine lv_iload_n hx hb dX7_trialByChance_0 rfl (lv_at hl 1 rfl) ?_
  refine lv_bipush (v := (24 : Int32)) hx hb dX7_trialByChance_1 (by decide +kernel) ?_
  refine lv_icmp_ge (tgt := 23) hx hb dX7_trialByChance_3 (by decide) (fun c1 => ?_) (fun c1 => ?_)
  · have hf := g_pos c1 hf
    refine lv_iload_n hx hb dX7_trialByChance_23 rfl (lv_at hl 1 rfl) ?_
    refine lv_bipush (v := (24 : Int32)) hx hb dX7_trialByChance_24 (by decide +kernel) ?_
    refine lv_icmp_ne (tgt := 40) hx hb dX7_trialByChance_26 (by decide) (fun c2 => ?_) (fun c2 => ?_)
    · have hf := g_neg c2 hf
      refine lv_aload_n hx hb dX7_trialByChance_40 rfl (lv_at hl 0 rfl) ?_
      refine va_get (D := (dC, dI)) (ci := 7) (v := .ref o_trial) (C := RX7) (T := TX7) (N := 9) hx hb hts hiX7 hown hK hP 0 rfl rfl 2 (by decide) (hts (.fieldLink RX7 23 "GreenJars" "trial" "LGreenJars$Shelf;") (by decide +kernel)) (fun _ h9 => h9) rfl dX7_trialByChance_41 ?_
      obtain ⟨y3, y4, hc5, hf⟩ := g_b2 hf
      refine g_wVv (As := []) (rest := []) (wr := [(o, .inr (7, [.ref o_text, .ref o_now, .ref o_trial, .ref o_acts, .ref o_slots, .ref o_tastes, .ref o_ways, .ref o_fraction, .long v_seedNow]))]) (wn := (w_X7_trialByChance cI cZ cG o o_text o_now o_trial o_acts o_slots o_tastes o_ways o_fraction o_trial_cells o_trial_standing v_seedNow v_trial_jars y3 y4)) ⟨hx, hb, hml, hown, hts⟩ (c_X2_passWeek l dC dI cI cZ cG o_trial o_trial_cells o_trial_standing H.size  v_trial_jars v_trial_weeks f_trial_cells hc5) (cwV 0 hts gX7_trialByChance_X2_passWeek rfl rfl rfl (by decide +kernel) ⟨Nat.le_of_ble_eq_true rfl, Nat.le_of_ble_eq_true rfl⟩) hK hN hP hD hS hA [1, 2] [0] [0, 1, 2] rfl rfl (by decide) rfl (by decide) (by decide) rfl (by decide) (va_recv hK hP (ci := 2) (q0 := 1) rfl rfl) rfl hl.1 rfl (Nat.le_of_ble_eq_true rfl) dX7_trialByChance_44 ⟨Nat.zero_le _, Nat.zero_le _⟩ (fun H locs hP hD hS => ?_)
      rw [hQ]
      cases hf
      exact W.vret hx hb hr (fun t ht hW => ⟨⟨(), rfl, trivial, by rw [ht]; exact hP, va_K.moved hW.alike hK, hD⟩, hS.F ht⟩) hS.2.2 dX7_trialByChance_47
    · have hf := g_pos c2 hf
      refine lv_aload_n hx hb dX7_trialByChance_29 rfl (lv_at hl 0 rfl) ?_
      refine va_get (D := (dC, dI)) (ci := 7) (v := .ref o_trial) (C := RX7) (T := TX7) (N := 9) hx hb hts hiX7 hown hK hP 0 rfl rfl 2 (by decide) (hts (.fieldLink RX7 23 "GreenJars" "trial" "LGreenJars$Shelf;") (by decide +kernel)) (fun _ h9 => h9) rfl dX7_trialByChance_30 ?_
      obtain ⟨r6, y7, hc8, hf⟩ := g_b2 hf
      refine g_wV (As := []) (rest := []) (wr := [(o, .inr (7, [.ref o_text, .ref o_now, .ref o_trial, .ref o_acts, .ref o_slots, .ref o_tastes, .ref o_ways, .ref o_fraction, .long v_seedNow]))]) (wn := (w_X7_trialByChance cI cZ cG o o_text o_now o_trial o_acts o_slots o_tastes o_ways o_fraction o_trial_cells o_trial_standing v_seedNow v_trial_jars v_trial_weeks y7)) ⟨hx, hb, hml, hown, hts⟩ (c_X2_rattle l dC dI cI cZ cG o_trial o_trial_cells o_trial_standing H.size  v_trial_jars v_trial_weeks f_trial_cells hc8) (cwV 0 hts gX7_trialByChance_X2_rattle rfl rfl rfl (by decide +kernel) ⟨Nat.le_of_ble_eq_true rfl, Nat.le_of_ble_eq_true rfl⟩) hK hN hP hD hS hA [1, 2] [0] [0, 1, 2] rfl rfl (by decide) rfl (by decide) (by decide) rfl (by decide) (va_recv hK hP (ci := 2) (q0 := 1) rfl rfl) rfl hl.1 rfl (Nat.le_of_ble_eq_true rfl) dX7_trialByChance_33 ⟨Nat.zero_le _, Nat.zero_le _⟩ (fun H locs hP hD hS => ?_)
      refine lv_pop hx hb dX7_trialByChance_36 rfl ?_
      refine lv_goto (tgt := 47) hx hb dX7_trialByChance_37 (by decide) ?_
      rw [hQ]
      cases hf
      exact W.vret hx hb hr (fun t ht hW => ⟨⟨(), rfl, trivial, by rw [ht]; exact hP, va_K.moved hW.alike hK, hD⟩, hS.F ht⟩) hS.2.2 dX7_trialByChance_47
  · have hf := g_neg c1 hf
    refine lv_aload_n hx hb dX7_trialByChance_6 rfl (lv_at hl 0 rfl) ?_
    refine va_get (D := (dC, dI)) (ci := 7) (v := .ref o_trial) (C := RX7) (T := TX7) (N := 9) hx hb hts hiX7 hown hK hP 0 rfl rfl 2 (by decide) (hts (.fieldLink RX7 23 "GreenJars" "trial" "LGreenJars$Shelf;") (by decide +kernel)) (fun _ h9 => h9) rfl dX7_trialByChance_7 ?_
    refine lv_iload_n hx hb dX7_trialByChance_10 rfl (lv_at hl 1 rfl) ?_
    refine lv_iconst (v := (4 : Int32)) hx hb dX7_trialByChance_11 (by decide) ?_
    refine lv_idiv hx hb dX7_trialByChance_12 (by decide) ?_
    refine lv_iload_n hx hb dX7_trialByChance_13 rfl (lv_at hl 1 rfl) ?_
    refine lv_iconst (v := (4 : Int32)) hx hb dX7_trialByChance_14 (by decide) ?_
    refine lv_irem hx hb dX7_trialByChance_15 (by decide) ?_
    obtain ⟨r9, y10, hc11, hf⟩ := g_b2 hf
    refine g_wV (As := [.int (a1 / (4 : Int32)), .int (a1 - a1 / (4 : Int32) * (4 : Int32))]) (rest := []) (wr := [(o, .inr (7, [.ref o_text, .ref o_now, .ref o_trial, .ref o_acts, .ref o_slots, .ref o_tastes, .ref o_ways, .ref o_fraction, .long v_seedNow]))]) (wn := (w_X7_trialByChance cI cZ cG o o_text o_now o_trial o_acts o_slots o_tastes o_ways o_fraction o_trial_cells o_trial_standing v_seedNow v_trial_jars v_trial_weeks y10)) ⟨hx, hb, hml, hown, hts⟩ (c_X2_tryFill l dC dI cI cZ cG o_trial o_trial_cells o_trial_standing H.size  v_trial_jars v_trial_weeks f_trial_cells (a1 / (4 : Int32)) (a1 - a1 / (4 : Int32) * (4 : Int32)) hc11) (cwV 2 hts gX7_trialByChance_X2_tryFill rfl rfl rfl (by decide +kernel) ⟨Nat.le_of_ble_eq_true rfl, Nat.le_of_ble_eq_true rfl⟩) hK hN hP hD hS hA [1, 2] [0] [0, 1, 2] rfl rfl (by decide) rfl (by decide) (by decide) rfl (by decide) (va_recv hK hP (ci := 2) (q0 := 1) rfl rfl) rfl hl.1 rfl (Nat.le_of_ble_eq_true rfl) dX7_trialByChance_16 ⟨Nat.zero_le _, Nat.zero_le _⟩ (fun H locs hP hD hS => ?_)
    refine lv_pop hx hb dX7_trialByChance_19 rfl ?_
    refine lv_goto (tgt := 47) hx hb dX7_trialByChance_20 (by decide) ?_
    rw [hQ]
    cases hf
    exact W.vret hx hb hr (fun t ht hW => ⟨⟨(), rfl, trivial, by rw [ht]; exact hP, va_K.moved hW.alike hK, hD⟩, hS.F ht⟩) hS.2.2 dX7_trialByChance_47
abbrev rm_X7_years : Room := { frames := 5, cells := 0, slots := 0, locals := 110 }
abbrev w_X7_years (cI cZ cG : ClassId) (o : Nat) (o_text : Nat) (o_now : Nat) (o_trial : Nat) (o_acts : Nat) (o_slots : Nat) (o_tastes : Nat) (o_ways : Nat) (o_fraction : Nat) (o_now_cells : Nat) (o_now_standing : Nat) (o_trial_cells : Nat) (o_trial_standing : Nat) (v_seedNow : Int64) (v_now_jars : Int32) (v_now_weeks : Int32) (f_now_cells : Nat → Int32) (v_trial_jars : Int32) (v_trial_weeks : Int32) (f_trial_cells : Nat → Int32) : va_W := [(o, .inr (7, [.ref o_text, .ref o_now, .ref o_trial, .ref o_acts, .ref o_slots, .ref o_tastes, .ref o_ways, .ref o_fraction, .long v_seedNow])), (o_now, .inr (2, [.ref o_now_cells, .ref o_now_standing, .int v_now_jars, .int v_now_weeks])), (o_now_cells, .inl (cI, 48, .inl f_now_cells)), (o_trial, .inr (2, [.ref o_trial_cells, .ref o_trial_standing, .int v_trial_jars, .int v_trial_weeks])), (o_trial_cells, .inl (cI, 48, .inl f_trial_cells))]
set_option maxHeartbeats 4000000 in
set_option maxRecDepth 100000 in
theorem c_X7_years (l : Launch) (dC : Nat → ClassId) (dI : Nat → Nat → Nat) (cI cZ cG : ClassId) {N : Nat} (o : Nat) (o_text : Nat) (o_now : Nat) (o_trial : Nat) (o_acts : Nat) (o_slots : Nat) (o_tastes : Nat) (o_ways : Nat) (o_fraction : Nat) (o_now_cells : Nat) (o_now_standing : Nat) (o_trial_cells : Nat) (o_trial_standing : Nat) (sz : Nat) (v_seedNow : Int64) (v_now_jars : Int32) (v_now_weeks : Int32) (f_now_cells : Nat → Int32) (v_trial_jars : Int32) (v_trial_weeks : Int32) (f_trial_cells : Nat → Int32) (a1 : Int32) {r0 : Int32} {n_seedNow : Int64} {n_trial_jars : Int32} {n_trial_weeks : Int32} {n_trial_cells : Nat → Int32} (hf : x7_years N v_seedNow v_now_jars v_now_weeks f_now_cells v_trial_jars v_trial_weeks f_trial_cells a1 = some (r0, n_seedNow, n_trial_jars, n_trial_weeks, n_trial_cells)) : Met l yX7_years wsX7_years rm_X7_years (va_Pc [.ref o, .int a1] (gW (dC, dI) vwCl (gT cI cZ cG) (w_X7_years cI cZ cG o o_text o_now o_trial o_acts o_slots o_tastes o_ways o_fraction o_now_cells o_now_standing o_trial_cells o_trial_standing v_seedNow v_now_jars v_now_weeks f_now_cells v_trial_jars v_trial_weeks f_trial_cells) sz)) (va_Qi (fun r _ => r = r0) (gE (dC, dI) vwCl (gT cI cZ cG) (w_X7_years cI cZ cG o o_text o_now o_trial o_acts o_slots o_tastes o_ways o_fraction o_now_cells o_now_standing o_trial_cells o_trial_standing n_seedNow v_now_jars v_now_weeks f_now_cells n_trial_jars n_trial_weeks n_trial_cells) (va_A (w_X7_years cI cZ cG o o_text o_now o_trial o_acts o_slots o_tastes o_ways o_fraction o_now_cells o_now_standing o_trial_cells o_trial_standing v_seedNow v_now_jars v_now_weeks f_now_cells v_trial_jars v_trial_weeks f_trial_cells) sz)) (va_A (w_X7_years cI cZ cG o o_text o_now o_trial o_acts o_slots o_tastes o_ways o_fraction o_now_cells o_now_standing o_trial_cells o_trial_standing v_seedNow v_now_jars v_now_weeks f_now_cells v_trial_jars v_trial_weeks f_trial_cells) sz)) 0 0 (va_A (w_X7_years cI cZ cG o o_text o_now o_trial o_acts o_slots o_tastes o_ways o_fraction o_now_cells o_now_standing o_trial_cells o_trial_standing v_seedNow v_now_jars v_now_weeks f_now_cells v_trial_jars v_trial_weeks f_trial_cells) sz) := by
  refine Met.ofW (cc := cX7_years) (maxL := 4) (ret := (some .int)) (by decide) rfl ?_
  intro p e s m args below meth c s₁ B hml hv
  obtain ⟨rfl, hv⟩ := hv
  obtain ⟨hsz, hP, hK, hN, hD0⟩ := hv
  have hx := B.exec
  have hb := B.bytes
  have hr := B.returns
  have hts := atoms_spec (ws := wsX7_years) B.pre
  have hown : s.vm.findClass RX7 = some m.cls := findClass_of_methodNamed B.named
  have hlocks := B.notSynchronized
  have hiX2 : ∀ w ∈ u_ws RX2 TX2 4, w ∈ wsX7_years := fun w h => List.mem_cons_of_mem _ (List.mem_append_right _ h)
  have hiX7 : ∀ w ∈ u_ws RX7 TX7 9, w ∈ wsX7_years := fun w h => List.mem_cons_of_mem _ (List.mem_append_left _ (List.mem_append_right _ h))
  subst hsz
  have hD := hD0.self (sz := s.heap.size)
  generalize hAe : va_A (w_X7_years cI cZ cG o o_text o_now o_trial o_acts o_slots o_tastes o_ways o_fraction o_now_cells o_now_standing o_trial_cells o_trial_standing v_seedNow v_now_jars v_now_weeks f_now_cells v_trial_jars v_trial_weeks f_trial_cells) s.heap.size = A at hD ⊢
  have hA : ∀ q : Nat, s.heap.size ≤ q → A q := fun q h => by rw [← hAe]; exact Or.inr h
  clear hD0
  have hS : va_S A s.heap s.heap [] := va_S.rf
  have hP : va_P (dC, dI) vwCl (w_X7_years cI cZ cG o o_text o_now o_trial o_acts o_slots o_tastes o_ways o_fraction o_now_cells o_now_standing o_trial_cells o_trial_standing v_seedNow v_now_jars v_now_weeks f_now_cells v_trial_jars v_trial_weeks f_trial_cells) s.heap := hP
  obtain ⟨Q, hQ⟩ : ∃ Q : State → Prop, Q = MQ below (va_Qi (fun r _ => r = r0) (gE (dC, dI) vwCl (gT cI cZ cG) (w_X7_years cI cZ cG o o_text o_now o_trial o_acts o_slots o_tastes o_ways o_fraction o_now_cells o_now_standing o_trial_cells o_trial_standing n_seedNow v_now_jars v_now_weeks f_now_cells n_trial_jars n_trial_weeks n_trial_cells) A) A) (([Value.ref o, Value.int a1] : List Value).toArray) s 0 0 A := ⟨_, rfl⟩
  have hl := lv_entry ([.ref o, .int a1]) (n := 4) (Nat.le_of_ble_eq_true rfl)
  rw [← hQ, lg_entry_eq]
  generalize (lg_sl ([.ref o, .int a1]) ++ List.replicate (4 - (lg_sl ([.ref o, .int a1])).length) Slot.unset).toArray = ls at hl ⊢
  have hl : lv_has ls 4 [(0, .ref o), (1, .int a1)] := hl
  generalize hH : s.heap = H at hP hS ⊢
  have hS : va_S A s.heap H [] := by rw [hH]; exact hS
  generalize hlc : ([] : List Loc) = locs at hS ⊢
  show W p l e rm_X7_years s m (([Value.ref o, Value.int a1] : List Value).toArray) below meth c H locs 0 0 Q (F0 m 0 ls [])
  have L29 : ∀ (n29 : Nat), ∀ (x2 : Int32) (x3 : Int32) (y_seedNow : Int64) (y_trial_jars : Int32) (y_trial_weeks : Int32) (y_trial_cells : Nat → Int32) (H : Heap) (locs : List Loc) (ls : Array Slot), x7_years_b29 N v_now_jars v_now_weeks f_now_cells a1 n29 x2 x3 y_seedNow y_trial_jars y_trial_weeks y_trial_cells = some (r0, n_seedNow, n_trial_jars, n_trial_weeks, n_trial_cells) → lv_has ls 4 [(0, .ref o), (1, .int a1), (2, .int x2), (3, .int x3)] → va_P (dC, dI) vwCl (w_X7_years cI cZ cG o o_text o_now o_trial o_acts o_slots o_tastes o_ways o_fraction o_now_cells o_now_standing o_trial_cells o_trial_standing y_seedNow v_now_jars v_now_weeks f_now_cells y_trial_jars y_trial_weeks y_trial_cells) H → va_D A (w_X7_years cI cZ cG o o_text o_now o_trial o_acts o_slots o_tastes o_ways o_fraction o_now_cells o_now_standing o_trial_cells o_trial_standing y_seedNow v_now_jars v_now_weeks f_now_cells y_trial_jars y_trial_weeks y_trial_cells) → va_S A s.heap H locs → W p l e rm_X7_years s m (([Value.ref o, Value.int a1] : List Value).toArray) below meth c H locs 0 0 Q (F0 m 29 ls []) := by
    intro n29
    induction n29 with
    | zero =>
      intro x2 x3 y_seedNow y_trial_jars y_trial_weeks y_trial_cells H locs ls hf hl hP hD hS
      exact g_no hf
    | succ n29 ih29 =>
      intro x2 x3 y_seedNow y_trial_jars y_trial_weeks y_trial_cells H locs ls hf hl hP hD hS
      unfold x7_years_b29 at hf
      refine lv_iload_n hx hb dX7_years_29 rfl (lv_at hl 3 rfl) ?_
      refine lv_iload_n hx hb dX7_years_30 rfl (lv_at hl 1 rfl) ?_
      refine lv_icmp_ge (tgt := 82) hx hb dX7_years_31 (by decide) (fun c1 => ?_) (fun c1 => ?_)
      · have hf := g_pos c1 hf
        refine lv_iload_n hx hb dX7_years_82 rfl (lv_at hl 2 rfl) ?_
        rw [hQ]
        cases hf
        exact W.iret hx hb hr (fun t ht hW => ⟨⟨_, (), rfl, rfl, by rw [ht]; exact hP, va_K.moved hW.alike hK, hD⟩, hS.F ht⟩) hS.2.2 dX7_years_83
      · have hf := g_neg c1 hf
        refine lv_aload_n hx hb dX7_years_34 rfl (lv_at hl 0 rfl) ?_
        refine lv_aload_n hx hb dX7_years_35 rfl (lv_at hl 0 rfl) ?_
        refine va_get (D := (dC, dI)) (ci := 7) (v := .long y_seedNow) (C := RX7) (T := TX7) (N := 9) hx hb hts hiX7 hown hK hP 0 rfl rfl 8 (by decide) (hts (.fieldLink RX7 61 "GreenJars" "seedNow" "J") (by decide +kernel)) (fun _ h9 => h9) rfl dX7_years_36 ?_
        refine lv_ldc2 (v := (6364136223846793005 : Int64)) hx hb hown (hts (.constantLong RX7 276 (6364136223846793005 : Int64)) (by decide +kernel)) dX7_years_39 ?_
        refine lv_lmul hx hb dX7_years_42 ?_
        refine lv_ldc2 (v := (1442695040888963407 : Int64)) hx hb hown (hts (.constantLong RX7 278 (1442695040888963407 : Int64)) (by decide +kernel)) dX7_years_43 ?_
        refine lv_ladd hx hb dX7_years_46 ?_
        refine va_put (D := (dC, dI)) (ci := 7) (v := .long ((y_seedNow * (6364136223846793005 : Int64)) + (1442695040888963407 : Int64))) (ty := .long) (C := RX7) (T := TX7) (N := 9) hx hb hts hiX7 tyX7 tyX7_ok nmX7 hown hK hP hD hS 0 rfl rfl 8 (by decide) (hts (.fieldLink RX7 61 "GreenJars" "seedNow" "J") (by decide +kernel)) (fun _ h9 => h9) rfl (by decide +kernel) rfl rfl (Nat.le_of_ble_eq_true rfl) dX7_years_47 (fun H locs hP hD hS => ?_)
        have hP : va_P (dC, dI) vwCl (w_X7_years cI cZ cG o o_text o_now o_trial o_acts o_slots o_tastes o_ways o_fraction o_now_cells o_now_standing o_trial_cells o_trial_standing ((y_seedNow * (6364136223846793005 : Int64)) + (1442695040888963407 : Int64)) v_now_jars v_now_weeks f_now_cells y_trial_jars y_trial_weeks y_trial_cells) H := hP
        have hD : va_D A (w_X7_years cI cZ cG o o_text o_now o_trial o_acts o_slots o_tastes o_ways o_fraction o_now_cells o_now_standing o_trial_cells o_trial_standing ((y_seedNow * (6364136223846793005 : Int64)) + (1442695040888963407 : Int64)) v_now_jars v_now_weeks f_now_cells y_trial_jars y_trial_weeks y_trial_cells) := hD
        refine lv_aload_n hx hb dX7_years_50 rfl (lv_at hl 0 rfl) ?_
        refine lv_aload_n hx hb dX7_years_51 rfl (lv_at hl 0 rfl) ?_
        refine va_get (D := (dC, dI)) (ci := 7) (v := .long ((y_seedNow * (6364136223846793005 : Int64)) + (1442695040888963407 : Int64))) (C := RX7) (T := TX7) (N := 9) hx hb hts hiX7 hown hK hP 0 rfl rfl 8 (by decide) (hts (.fieldLink RX7 61 "GreenJars" "seedNow" "J") (by decide +kernel)) (fun _ h9 => h9) rfl dX7_years_52 ?_
        refine lv_bipush (v := (33 : Int32)) hx hb dX7_years_55 (by decide +kernel) ?_
        refine lv_lushr hx hb dX7_years_57 rfl ?_
        refine lv_ldc2 (v := (32 : Int64)) hx hb hown (hts (.constantLong RX7 280 (32 : Int64)) (by decide +kernel)) dX7_years_58 ?_
        refine lv_lrem hx hb dX7_years_61 (by decide) ?_
        refine lv_l2i hx hb dX7_years_62 rfl ?_
        obtain ⟨y2, y3, hc4, hf⟩ := g_b2 hf
        refine g_wVv (As := [.int (((((y_seedNow * (6364136223846793005 : Int64)) + (1442695040888963407 : Int64)).toUInt64 >>> ((33 : Int32).toInt64.toUInt64 &&& Int64.toUInt64 63)).toInt64 - (((y_seedNow * (6364136223846793005 : Int64)) + (1442695040888963407 : Int64)).toUInt64 >>> ((33 : Int32).toInt64.toUInt64 &&& Int64.toUInt64 63)).toInt64 / (32 : Int64) * (32 : Int64)).toInt32)]) (rest := []) (wr := [(o_now, .inr (2, [.ref o_now_cells, .ref o_now_standing, .int v_now_jars, .int v_now_weeks])), (o_now_cells, .inl (cI, 48, .inl f_now_cells))]) (wn := (w_X7_years cI cZ cG o o_text o_now o_trial o_acts o_slots o_tastes o_ways o_fraction o_now_cells o_now_standing o_trial_cells o_trial_standing ((y_seedNow * (6364136223846793005 : Int64)) + (1442695040888963407 : Int64)) v_now_jars v_now_weeks f_now_cells y_trial_jars y2 y3)) ⟨hx, hb, hml, hown, hts⟩ (c_X7_trialByChance l dC dI cI cZ cG o o_text o_now o_trial o_acts o_slots o_tastes o_ways o_fraction o_trial_cells o_trial_standing H.size  ((y_seedNow * (6364136223846793005 : Int64)) + (1442695040888963407 : Int64)) y_trial_jars y_trial_weeks y_trial_cells (((((y_seedNow * (6364136223846793005 : Int64)) + (1442695040888963407 : Int64)).toUInt64 >>> ((33 : Int32).toInt64.toUInt64 &&& Int64.toUInt64 63)).toInt64 - (((y_seedNow * (6364136223846793005 : Int64)) + (1442695040888963407 : Int64)).toUInt64 >>> ((33 : Int32).toInt64.toUInt64 &&& Int64.toUInt64 63)).toInt64 / (32 : Int64) * (32 : Int64)).toInt32) hc4) (cwV 1 hts gX7_years_X7_trialByChance rfl rfl rfl (by decide +kernel) ⟨Nat.le_of_ble_eq_true rfl, Nat.le_of_ble_eq_true rfl⟩) hK hN hP hD hS hA [0, 3, 4] [1, 2] [2, 0, 1, 3, 4] rfl rfl (by decide) rfl (by decide) (by decide) rfl (by decide) (va_recv hK hP (ci := 7) (q0 := 0) rfl rfl) rfl hl.1 rfl (Nat.le_of_ble_eq_true rfl) dX7_years_63 ⟨Nat.zero_le _, Nat.zero_le _⟩ (fun H locs hP hD hS => ?_)
        refine lv_iload_n hx hb dX7_years_66 rfl (lv_at hl 2 rfl) ?_
        refine lv_aload_n hx hb dX7_years_67 rfl (lv_at hl 0 rfl) ?_
        refine va_get (D := (dC, dI)) (ci := 7) (v := .ref o_trial) (C := RX7) (T := TX7) (N := 9) hx hb hts hiX7 hown hK hP 0 rfl rfl 2 (by decide) (hts (.fieldLink RX7 23 "GreenJars" "trial" "LGreenJars$Shelf;") (by decide +kernel)) (fun _ h9 => h9) rfl dX7_years_68 ?_
        obtain ⟨r5, hc6, hf⟩ := g_b1 hf
        refine g_rV (As := []) (rest := [.int x2]) ⟨hx, hb, hml, hown, hts⟩ (c_X2_flavours l dC dI cI cZ cG o_trial o_trial_cells o_trial_standing  y_trial_jars y2 y3 hc6) (cwV 0 hts gX7_years_X2_flavours rfl rfl rfl (by decide +kernel) ⟨Nat.le_of_ble_eq_true rfl, Nat.le_of_ble_eq_true rfl⟩) hK hN (hP.sub [3, 4] rfl) (va_recv hK hP (ci := 2) (q0 := 3) rfl rfl) rfl hl.1 rfl (Nat.le_of_ble_eq_true rfl) dX7_years_71 ⟨Nat.zero_le _, Nat.zero_le _⟩ ?_
        refine lv_iadd hx hb dX7_years_74 ?_
        refine lv_istore_n (lv' := [(2, .int (x2 + r5)), (0, .ref o), (1, .int a1), (3, .int x3)]) hx hb dX7_years_75 rfl hl (by decide) rfl (fun ls hl => ?_)
        refine lv_iinc (v := (x3 + (1 : Int32))) (lv' := [(3, .int (x3 + (1 : Int32))), (2, .int (x2 + r5)), (0, .ref o), (1, .int a1)]) hx hb dX7_years_76 hl (k := 3) rfl rfl (by decide) rfl (fun ls hl => ?_)
        refine lv_goto (tgt := 29) hx hb dX7_years_79 (by decide) ?_
        exact ih29 (x2 + r5) (x3 + (1 : Int32)) ((y_seedNow * (6364136223846793005 : Int64)) + (1442695040888963407 : Int64)) y_trial_jars y2 y3 H locs ls hf (lv_sub hl [2, 3, 1, 0] rfl) hP hD hS
  unfold x7_years at hf
  refine lv_iload_n hx hb dX7_years_0 rfl (lv_at hl 1 rfl) ?_
  refine lv_iconst (v := (1 : Int32)) hx hb dX7_years_1 (by decide) ?_
  refine lv_icmp_lt (tgt := 11) hx hb dX7_years_2 (by decide) (fun c7 => ?_) (fun c7 => ?_)
  · have hf := g_pos c7 hf
    refine lv_bipush (v := (-2 : Int32)) hx hb dX7_years_11 (by decide +kernel) ?_
    rw [hQ]
    cases hf
    exact W.iret hx hb hr (fun t ht hW => ⟨⟨_, (), rfl, rfl, by rw [ht]; exact hP, va_K.moved hW.alike hK, hD⟩, hS.F ht⟩) hS.2.2 dX7_years_13
  · have hf := g_neg c7 hf
    refine lv_iload_n hx hb dX7_years_5 rfl (lv_at hl 1 rfl) ?_
    refine lv_bipush (v := (30 : Int32)) hx hb dX7_years_6 (by decide +kernel) ?_
    refine lv_icmp_le (tgt := 14) hx hb dX7_years_8 (by decide) (fun c8 => ?_) (fun c8 => ?_)
    · have hf := g_pos c8 hf
      refine lv_aload_n hx hb dX7_years_14 rfl (lv_at hl 0 rfl) ?_
      refine va_get (D := (dC, dI)) (ci := 7) (v := .ref o_trial) (C := RX7) (T := TX7) (N := 9) hx hb hts hiX7 hown hK hP 0 rfl rfl 2 (by decide) (hts (.fieldLink RX7 23 "GreenJars" "trial" "LGreenJars$Shelf;") (by decide +kernel)) (fun _ h9 => h9) rfl dX7_years_15 ?_
      refine lv_aload_n hx hb dX7_years_18 rfl (lv_at hl 0 rfl) ?_
      refine va_get (D := (dC, dI)) (ci := 7) (v := .ref o_now) (C := RX7) (T := TX7) (N := 9) hx hb hts hiX7 hown hK hP 0 rfl rfl 1 (by decide) (hts (.fieldLink RX7 19 "GreenJars" "now" "LGreenJars$Shelf;") (by decide +kernel)) (fun _ h9 => h9) rfl dX7_years_19 ?_
      obtain ⟨y9, y10, y11, hc12, hf⟩ := g_b3 hf
      refine g_wVv (As := [.ref o_now]) (rest := []) (wr := [(o, .inr (7, [.ref o_text, .ref o_now, .ref o_trial, .ref o_acts, .ref o_slots, .ref o_tastes, .ref o_ways, .ref o_fraction, .long v_seedNow]))]) (wn := (w_X7_years cI cZ cG o o_text o_now o_trial o_acts o_slots o_tastes o_ways o_fraction o_now_cells o_now_standing o_trial_cells o_trial_standing v_seedNow v_now_jars v_now_weeks f_now_cells y9 y10 y11)) ⟨hx, hb, hml, hown, hts⟩ (c_X2_copy l dC dI cI cZ cG o_trial o_trial_cells o_trial_standing o_now o_now_cells o_now_standing H.size  v_trial_jars v_trial_weeks f_trial_cells v_now_jars v_now_weeks f_now_cells hc12) (cwV 1 hts gX7_years_X2_copy rfl rfl rfl (by decide +kernel) ⟨Nat.le_of_ble_eq_true rfl, Nat.le_of_ble_eq_true rfl⟩) hK hN hP hD hS hA [3, 4, 1, 2] [0] [0, 3, 4, 1, 2] rfl rfl (by decide) rfl (by decide) (by decide) rfl (by decide) (va_recv hK hP (ci := 2) (q0 := 3) rfl rfl) rfl hl.1 rfl (Nat.le_of_ble_eq_true rfl) dX7_years_22 ⟨Nat.zero_le _, Nat.zero_le _⟩ (fun H locs hP hD hS => ?_)
      refine lv_iconst (v := (0 : Int32)) hx hb dX7_years_25 (by decide) ?_
      refine lv_istore_n (lv' := [(2, .int (0 : Int32)), (0, .ref o), (1, .int a1)]) hx hb dX7_years_26 rfl hl (by decide) rfl (fun ls hl => ?_)
      refine lv_iconst (v := (0 : Int32)) hx hb dX7_years_27 (by decide) ?_
      refine lv_istore_n (lv' := [(3, .int (0 : Int32)), (2, .int (0 : Int32)), (0, .ref o), (1, .int a1)]) hx hb dX7_years_28 rfl hl (by decide) rfl (fun ls hl => ?_)
      exact L29 N (0 : Int32) (0 : Int32) v_seedNow y9 y10 y11 H locs ls hf (lv_sub hl [2, 3, 1, 0] rfl) hP hD hS
    · have hf := g_neg c8 hf
      refine lv_bipush (v := (-2 : Int32)) hx hb dX7_years_11 (by decide +kernel) ?_
      rw [hQ]
      cases hf
      exact W.iret hx hb hr (fun t ht hW => ⟨⟨_, (), rfl, rfl, by rw [ht]; exact hP, va_K.moved hW.alike hK, hD⟩, hS.F ht⟩) hS.2.2 dX7_years_13
abbrev rm_X7_keep : Room := { frames := 3, cells := 0, slots := 0, locals := 69 }
abbrev w_X7_keep (cI cZ cG : ClassId) (o : Nat) (o_text : Nat) (o_now : Nat) (o_trial : Nat) (o_acts : Nat) (o_slots : Nat) (o_tastes : Nat) (o_ways : Nat) (o_fraction : Nat) (o_now_cells : Nat) (o_now_standing : Nat) (o_slots_rows : Nat) (o_slots_filled : Nat) (o_slots_rows_r : Nat → Nat) (v_seedNow : Int64) (v_now_jars : Int32) (v_now_weeks : Int32) (f_now_cells : Nat → Int32) (m_slots_rows : Nat → Nat → Int32) (f_slots_filled : Nat → Int32) : va_W := [(o, .inr (7, [.ref o_text, .ref o_now, .ref o_trial, .ref o_acts, .ref o_slots, .ref o_tastes, .ref o_ways, .ref o_fraction, .long v_seedNow])), (o_now, .inr (2, [.ref o_now_cells, .ref o_now_standing, .int v_now_jars, .int v_now_weeks])), (o_now_cells, .inl (cI, 48, .inl f_now_cells)), (o_slots, .inr (3, [.ref o_slots_rows, .ref o_slots_filled])), (o_slots_rows, .inl (cG, 2, .inr (.inr (.inr (.inr (gRf 2 o_slots_rows_r)))))), ((o_slots_rows_r 0), .inl (cI, 49, .inl (m_slots_rows 0))), ((o_slots_rows_r 1), .inl (cI, 49, .inl (m_slots_rows 1))), (o_slots_filled, .inl (cZ, 2, .inl f_slots_filled))]
set_option maxHeartbeats 4000000 in
set_option maxRecDepth 100000 in
theorem c_X7_keep (l : Launch) (dC : Nat → ClassId) (dI : Nat → Nat → Nat) (cI cZ cG : ClassId) (o : Nat) (o_text : Nat) (o_now : Nat) (o_trial : Nat) (o_acts : Nat) (o_slots : Nat) (o_tastes : Nat) (o_ways : Nat) (o_fraction : Nat) (o_now_cells : Nat) (o_now_standing : Nat) (o_slots_rows : Nat) (o_slots_filled : Nat) (o_slots_rows_r : Nat → Nat) (sz : Nat) (v_seedNow : Int64) (v_now_jars : Int32) (v_now_weeks : Int32) (f_now_cells : Nat → Int32) (m_slots_rows : Nat → Nat → Int32) (f_slots_filled : Nat → Int32) (a1 : Int32) {r0 : Int32} {n_slots_rows : Nat → Nat → Int32} {n_slots_filled : Nat → Int32} (hf : x7_keep v_now_weeks f_now_cells m_slots_rows f_slots_filled a1 = some (r0, n_slots_rows, n_slots_filled)) : Met l yX7_keep wsX7_keep rm_X7_keep (va_Pc [.ref o, .int a1] (gW (dC, dI) vwCl (gT cI cZ cG) (w_X7_keep cI cZ cG o o_text o_now o_trial o_acts o_slots o_tastes o_ways o_fraction o_now_cells o_now_standing o_slots_rows o_slots_filled o_slots_rows_r v_seedNow v_now_jars v_now_weeks f_now_cells m_slots_rows f_slots_filled) sz)) (va_Qi (fun r _ => r = r0) (gE (dC, dI) vwCl (gT cI cZ cG) (w_X7_keep cI cZ cG o o_text o_now o_trial o_acts o_slots o_tastes o_ways o_fraction o_now_cells o_now_standing o_slots_rows o_slots_filled o_slots_rows_r v_seedNow v_now_jars v_now_weeks f_now_cells n_slots_rows n_slots_filled) (va_A (w_X7_keep cI cZ cG o o_text o_now o_trial o_acts o_slots o_tastes o_ways o_fraction o_now_cells o_now_standing o_slots_rows o_slots_filled o_slots_rows_r v_seedNow v_now_jars v_now_weeks f_now_cells m_slots_rows f_slots_filled) sz)) (va_A (w_X7_keep cI cZ cG o o_text o_now o_trial o_acts o_slots o_tastes o_ways o_fraction o_now_cells o_now_standing o_slots_rows o_slots_filled o_slots_rows_r v_seedNow v_now_jars v_now_weeks f_now_cells m_slots_rows f_slots_filled) sz)) 0 0 (va_A (w_X7_keep cI cZ cG o o_text o_now o_trial o_acts o_slots o_tastes o_ways o_fraction o_now_cells o_now_standing o_slots_rows o_slots_filled o_slots_rows_r v_seedNow v_now_jars v_now_weeks f_now_cells m_slots_rows f_slots_filled) sz) := by
  refine Met.ofW (cc := cX7_keep) (maxL := 2) (ret := (some .int)) (by decide) rfl ?_
  intro p e s m args below meth c s₁ B hml hv
  obtain ⟨rfl, hv⟩ := hv
  obtain ⟨hsz, hP, hK, hN, hD0⟩ := hv
  have hx := B.exec
  have hb := B.bytes
  have hr := B.returns
  have hts := atoms_spec (ws := wsX7_keep) B.pre
  have hown : s.vm.findClass RX7 = some m.cls := findClass_of_methodNamed B.named
  have hlocks := B.notSynchronized
  have hiX2 : ∀ w ∈ u_ws RX2 TX2 4, w ∈ wsX7_keep := fun w h => List.mem_cons_of_mem _ (List.mem_append_right _ h)
  have hiX3 : ∀ w ∈ u_ws RX3 TX3 2, w ∈ wsX7_keep := fun w h => List.mem_cons_of_mem _ (List.mem_append_left _ (List.mem_append_right _ h))
  have hiX7 : ∀ w ∈ u_ws RX7 TX7 9, w ∈ wsX7_keep := fun w h => List.mem_cons_of_mem _ (List.mem_append_left _ (List.mem_append_left _ (List.mem_append_right _ h)))
  subst hsz
  have hD := hD0.self (sz := s.heap.size)
  generalize hAe : va_A (w_X7_keep cI cZ cG o o_text o_now o_trial o_acts o_slots o_tastes o_ways o_fraction o_now_cells o_now_standing o_slots_rows o_slots_filled o_slots_rows_r v_seedNow v_now_jars v_now_weeks f_now_cells m_slots_rows f_slots_filled) s.heap.size = A at hD ⊢
  have hA : ∀ q : Nat, s.heap.size ≤ q → A q := fun q h => by rw [← hAe]; exact Or.inr h
  clear hD0
  have hS : va_S A s.heap s.heap [] := va_S.rf
  have hP : va_P (dC, dI) vwCl (w_X7_keep cI cZ cG o o_text o_now o_trial o_acts o_slots o_tastes o_ways o_fraction o_now_cells o_now_standing o_slots_rows o_slots_filled o_slots_rows_r v_seedNow v_now_jars v_now_weeks f_now_cells m_slots_rows f_slots_filled) s.heap := hP
  obtain ⟨Q, hQ⟩ : ∃ Q : State → Prop, Q = MQ below (va_Qi (fun r _ => r = r0) (gE (dC, dI) vwCl (gT cI cZ cG) (w_X7_keep cI cZ cG o o_text o_now o_trial o_acts o_slots o_tastes o_ways o_fraction o_now_cells o_now_standing o_slots_rows o_slots_filled o_slots_rows_r v_seedNow v_now_jars v_now_weeks f_now_cells n_slots_rows n_slots_filled) A) A) (([Value.ref o, Value.int a1] : List Value).toArray) s 0 0 A := ⟨_, rfl⟩
  have hl := lv_entry ([.ref o, .int a1]) (n := 2) (Nat.le_of_ble_eq_true rfl)
  rw [← hQ, lg_entry_eq]
  generalize (lg_sl ([.ref o, .int a1]) ++ List.replicate (2 - (lg_sl ([.ref o, .int a1])).length) Slot.unset).toArray = ls at hl ⊢
  have hl : lv_has ls 2 [(0, .ref o), (1, .int a1)] := hl
  generalize hH : s.heap = H at hP hS ⊢
  have hS : va_S A s.heap H [] := by rw [hH]; exact hS
  generalize hlc : ([] : List Loc) = locs at hS ⊢
  show W p l e rm_X7_keep s m (([Value.ref o, Value.int a1] : List Value).toArray) below meth c H locs 0 0 Q (F0 m 0 ls [])
  unfold x7_keep at hf
  refine lv_iload_n hx hb dX7_keep_0 rfl (lv_at hl 1 rfl) ?_
  refine lv_if_lt (tgt := 9) hx hb dX7_keep_1 (by decide) (fun c1 => ?_) (fun c1 => ?_)
  · have hf := g_pos c1 hf
    refine lv_iconst (v := (-1 : Int32)) hx hb dX7_keep_9 (by decide) ?_
    rw [hQ]
    cases hf
    exact W.iret hx hb hr (fun t ht hW => ⟨⟨_, (), rfl, rfl, by rw [ht]; exact hP, va_K.moved hW.alike hK, hD⟩, hS.F ht⟩) hS.2.2 dX7_keep_10
  · have hf := g_neg c1 hf
    refine lv_iload_n hx hb dX7_keep_4 rfl (lv_at hl 1 rfl) ?_
    refine lv_iconst (v := (2 : Int32)) hx hb dX7_keep_5 (by decide) ?_
    refine lv_icmp_lt (tgt := 11) hx hb dX7_keep_6 (by decide) (fun c2 => ?_) (fun c2 => ?_)
    · have hf := g_pos c2 hf
      refine lv_aload_n hx hb dX7_keep_11 rfl (lv_at hl 0 rfl) ?_
      refine va_get (D := (dC, dI)) (ci := 7) (v := .ref o_slots) (C := RX7) (T := TX7) (N := 9) hx hb hts hiX7 hown hK hP 0 rfl rfl 4 (by decide) (hts (.fieldLink RX7 36 "GreenJars" "slots" "LGreenJars$Slots;") (by decide +kernel)) (fun _ h9 => h9) rfl dX7_keep_12 ?_
      refine lv_iload_n hx hb dX7_keep_15 rfl (lv_at hl 1 rfl) ?_
      refine lv_aload_n hx hb dX7_keep_16 rfl (lv_at hl 0 rfl) ?_
      refine va_get (D := (dC, dI)) (ci := 7) (v := .ref o_now) (C := RX7) (T := TX7) (N := 9) hx hb hts hiX7 hown hK hP 0 rfl rfl 1 (by decide) (hts (.fieldLink RX7 19 "GreenJars" "now" "LGreenJars$Shelf;") (by decide +kernel)) (fun _ h9 => h9) rfl dX7_keep_17 ?_
      obtain ⟨y3, y4, hc5, hf⟩ := g_b2 hf
      refine g_wVv (As := [.int a1, .ref o_now]) (rest := []) (wr := [(o, .inr (7, [.ref o_text, .ref o_now, .ref o_trial, .ref o_acts, .ref o_slots, .ref o_tastes, .ref o_ways, .ref o_fraction, .long v_seedNow]))]) (wn := (w_X7_keep cI cZ cG o o_text o_now o_trial o_acts o_slots o_tastes o_ways o_fraction o_now_cells o_now_standing o_slots_rows o_slots_filled o_slots_rows_r v_seedNow v_now_jars v_now_weeks f_now_cells y3 y4)) ⟨hx, hb, hml, hown, hts⟩ (c_X3_store l dC dI cI cZ cG o_slots o_slots_rows o_slots_filled o_slots_rows_r o_now o_now_cells o_now_standing H.size  m_slots_rows f_slots_filled v_now_jars v_now_weeks f_now_cells a1 hc5) (cwV 2 hts gX7_keep_X3_store rfl rfl rfl (by decide +kernel) ⟨Nat.le_of_ble_eq_true rfl, Nat.le_of_ble_eq_true rfl⟩) hK hN hP hD hS hA [3, 4, 5, 6, 7, 1, 2] [0] [0, 6, 7, 1, 2, 3, 4, 5] rfl rfl (by decide) rfl (by decide) (by decide) rfl (by decide) (va_recv hK hP (ci := 3) (q0 := 3) rfl rfl) rfl hl.1 rfl (Nat.le_of_ble_eq_true rfl) dX7_keep_20 ⟨Nat.zero_le _, Nat.zero_le _⟩ (fun H locs hP hD hS => ?_)
      refine lv_aload_n hx hb dX7_keep_23 rfl (lv_at hl 0 rfl) ?_
      refine va_get (D := (dC, dI)) (ci := 7) (v := .ref o_now) (C := RX7) (T := TX7) (N := 9) hx hb hts hiX7 hown hK hP 0 rfl rfl 1 (by decide) (hts (.fieldLink RX7 19 "GreenJars" "now" "LGreenJars$Shelf;") (by decide +kernel)) (fun _ h9 => h9) rfl dX7_keep_24 ?_
      obtain ⟨r6, hc7, hf⟩ := g_b1 hf
      refine g_rV (As := []) (rest := []) ⟨hx, hb, hml, hown, hts⟩ (c_X2_weeks l dC dI cI cZ cG o_now o_now_cells o_now_standing  v_now_jars v_now_weeks hc7) (cwV 0 hts gX7_keep_X2_weeks rfl rfl rfl (by decide +kernel) ⟨Nat.le_of_ble_eq_true rfl, Nat.le_of_ble_eq_true rfl⟩) hK hN (hP.sub [1] rfl) (va_recv hK hP (ci := 2) (q0 := 1) rfl rfl) rfl hl.1 rfl (Nat.le_of_ble_eq_true rfl) dX7_keep_27 ⟨Nat.zero_le _, Nat.zero_le _⟩ ?_
      rw [hQ]
      cases hf
      exact W.iret hx hb hr (fun t ht hW => ⟨⟨_, (), rfl, rfl, by rw [ht]; exact hP, va_K.moved hW.alike hK, hD⟩, hS.F ht⟩) hS.2.2 dX7_keep_30
    · have hf := g_neg c2 hf
      refine lv_iconst (v := (-1 : Int32)) hx hb dX7_keep_9 (by decide) ?_
      rw [hQ]
      cases hf
      exact W.iret hx hb hr (fun t ht hW => ⟨⟨_, (), rfl, rfl, by rw [ht]; exact hP, va_K.moved hW.alike hK, hD⟩, hS.F ht⟩) hS.2.2 dX7_keep_10
abbrev rm_X7_again : Room := { frames := 3, cells := 0, slots := 0, locals := 69 }
abbrev w_X7_again (cI cZ cG : ClassId) (o : Nat) (o_text : Nat) (o_now : Nat) (o_trial : Nat) (o_acts : Nat) (o_slots : Nat) (o_tastes : Nat) (o_ways : Nat) (o_fraction : Nat) (o_now_cells : Nat) (o_now_standing : Nat) (o_acts_before : Nat) (o_slots_rows : Nat) (o_slots_filled : Nat) (o_slots_rows_r : Nat → Nat) (v_seedNow : Int64) (v_now_jars : Int32) (v_now_weeks : Int32) (f_now_cells : Nat → Int32) (v_acts_count : Int32) (v_acts_next : Int32) (m_slots_rows : Nat → Nat → Int32) (f_slots_filled : Nat → Int32) : va_W := [(o, .inr (7, [.ref o_text, .ref o_now, .ref o_trial, .ref o_acts, .ref o_slots, .ref o_tastes, .ref o_ways, .ref o_fraction, .long v_seedNow])), (o_now, .inr (2, [.ref o_now_cells, .ref o_now_standing, .int v_now_jars, .int v_now_weeks])), (o_now_cells, .inl (cI, 48, .inl f_now_cells)), (o_acts, .inr (0, [.ref o_acts_before, .int v_acts_count, .int v_acts_next])), (o_slots, .inr (3, [.ref o_slots_rows, .ref o_slots_filled])), (o_slots_rows, .inl (cG, 2, .inr (.inr (.inr (.inr (gRf 2 o_slots_rows_r)))))), ((o_slots_rows_r 0), .inl (cI, 49, .inl (m_slots_rows 0))), ((o_slots_rows_r 1), .inl (cI, 49, .inl (m_slots_rows 1))), (o_slots_filled, .inl (cZ, 2, .inl f_slots_filled))]
set_option maxHeartbeats 4000000 in
set_option maxRecDepth 100000 in
theorem c_X7_again (l : Launch) (dC : Nat → ClassId) (dI : Nat → Nat → Nat) (cI cZ cG : ClassId) (o : Nat) (o_text : Nat) (o_now : Nat) (o_trial : Nat) (o_acts : Nat) (o_slots : Nat) (o_tastes : Nat) (o_ways : Nat) (o_fraction : Nat) (o_now_cells : Nat) (o_now_standing : Nat) (o_acts_before : Nat) (o_slots_rows : Nat) (o_slots_filled : Nat) (o_slots_rows_r : Nat → Nat) (sz : Nat) (v_seedNow : Int64) (v_now_jars : Int32) (v_now_weeks : Int32) (f_now_cells : Nat → Int32) (v_acts_count : Int32) (v_acts_next : Int32) (m_slots_rows : Nat → Nat → Int32) (f_slots_filled : Nat → Int32) (a1 : Int32) {r0 : Int32} {n_now_weeks : Int32} {n_now_cells : Nat → Int32} {n_acts_count : Int32} (hf : x7_again v_now_weeks f_now_cells v_acts_count m_slots_rows f_slots_filled a1 = some (r0, n_now_weeks, n_now_cells, n_acts_count)) : Met l yX7_again wsX7_again rm_X7_again (va_Pc [.ref o, .int a1] (gW (dC, dI) vwCl (gT cI cZ cG) (w_X7_again cI cZ cG o o_text o_now o_trial o_acts o_slots o_tastes o_ways o_fraction o_now_cells o_now_standing o_acts_before o_slots_rows o_slots_filled o_slots_rows_r v_seedNow v_now_jars v_now_weeks f_now_cells v_acts_count v_acts_next m_slots_rows f_slots_filled) sz)) (va_Qi (fun r _ => r = r0) (gE (dC, dI) vwCl (gT cI cZ cG) (w_X7_again cI cZ cG o o_text o_now o_trial o_acts o_slots o_tastes o_ways o_fraction o_now_cells o_now_standing o_acts_before o_slots_rows o_slots_filled o_slots_rows_r v_seedNow v_now_jars n_now_weeks n_now_cells n_acts_count v_acts_next m_slots_rows f_slots_filled) (va_A (w_X7_again cI cZ cG o o_text o_now o_trial o_acts o_slots o_tastes o_ways o_fraction o_now_cells o_now_standing o_acts_before o_slots_rows o_slots_filled o_slots_rows_r v_seedNow v_now_jars v_now_weeks f_now_cells v_acts_count v_acts_next m_slots_rows f_slots_filled) sz)) (va_A (w_X7_again cI cZ cG o o_text o_now o_trial o_acts o_slots o_tastes o_ways o_fraction o_now_cells o_now_standing o_acts_before o_slots_rows o_slots_filled o_slots_rows_r v_seedNow v_now_jars v_now_weeks f_now_cells v_acts_count v_acts_next m_slots_rows f_slots_filled) sz)) 0 0 (va_A (w_X7_again cI cZ cG o o_text o_now o_trial o_acts o_slots o_tastes o_ways o_fraction o_now_cells o_now_standing o_acts_before o_slots_rows o_slots_filled o_slots_rows_r v_seedNow v_now_jars v_now_weeks f_now_cells v_acts_count v_acts_next m_slots_rows f_slots_filled) sz) := by
  refine Met.ofW (cc := cX7_again) (maxL := 2) (ret := (some .int)) (by decide) rfl ?_
  intro p e s m args below meth c s₁ B hml hv
  obtain ⟨rfl, hv⟩ := hv
  obtain ⟨hsz, hP, hK, hN, hD0⟩ := hv
  have hx := B.exec
  have hb := B.bytes
  have hr := B.returns
  have hts := atoms_spec (ws := wsX7_again) B.pre
  have hown : s.vm.findClass RX7 = some m.cls := findClass_of_methodNamed B.named
  have hlocks := B.notSynchronized
  have hiX0 : ∀ w ∈ u_ws RX0 TX0 3, w ∈ wsX7_again := fun w h => List.mem_cons_of_mem _ (List.mem_append_right _ h)
  have hiX2 : ∀ w ∈ u_ws RX2 TX2 4, w ∈ wsX7_again := fun w h => List.mem_cons_of_mem _ (List.mem_append_left _ (List.mem_append_right _ h))
  have hiX3 : ∀ w ∈ u_ws RX3 TX3 2, w ∈ wsX7_again := fun w h => List.mem_cons_of_mem _ (List.mem_append_left _ (List.mem_append_left _ (List.mem_append_right _ h)))
  have hiX7 : ∀ w ∈ u_ws RX7 TX7 9, w ∈ wsX7_again := fun w h => List.mem_cons_of_mem _ (List.mem_append_left _ (List.mem_append_left _ (List.mem_append_left _ (List.mem_append_right _ h))))
  subst hsz
  have hD := hD0.self (sz := s.heap.size)
  generalize hAe : va_A (w_X7_again cI cZ cG o o_text o_now o_trial o_acts o_slots o_tastes o_ways o_fraction o_now_cells o_now_standing o_acts_before o_slots_rows o_slots_filled o_slots_rows_r v_seedNow v_now_jars v_now_weeks f_now_cells v_acts_count v_acts_next m_slots_rows f_slots_filled) s.heap.size = A at hD ⊢
  have hA : ∀ q : Nat, s.heap.size ≤ q → A q := fun q h => by rw [← hAe]; exact Or.inr h
  clear hD0
  have hS : va_S A s.heap s.heap [] := va_S.rf
  have hP : va_P (dC, dI) vwCl (w_X7_again cI cZ cG o o_text o_now o_trial o_acts o_slots o_tastes o_ways o_fraction o_now_cells o_now_standing o_acts_before o_slots_rows o_slots_filled o_slots_rows_r v_seedNow v_now_jars v_now_weeks f_now_cells v_acts_count v_acts_next m_slots_rows f_slots_filled) s.heap := hP
  obtain ⟨Q, hQ⟩ : ∃ Q : State → Prop, Q = MQ below (va_Qi (fun r _ => r = r0) (gE (dC, dI) vwCl (gT cI cZ cG) (w_X7_again cI cZ cG o o_text o_now o_trial o_acts o_slots o_tastes o_ways o_fraction o_now_cells o_now_standing o_acts_before o_slots_rows o_slots_filled o_slots_rows_r v_seedNow v_now_jars n_now_weeks n_now_cells n_acts_count v_acts_next m_slots_rows f_slots_filled) A) A) (([Value.ref o, Value.int a1] : List Value).toArray) s 0 0 A := ⟨_, rfl⟩
  have hl := lv_entry ([.ref o, .int a1]) (n := 2) (Nat.le_of_ble_eq_true rfl)
  rw [← hQ, lg_entry_eq]
  generalize (lg_sl ([.ref o, .int a1]) ++ List.replicate (2 - (lg_sl ([.ref o, .int a1])).length) Slot.unset).toArray = ls at hl ⊢
  have hl : lv_has ls 2 [(0, .ref o), (1, .int a1)] := hl
  generalize hH : s.heap = H at hP hS ⊢
  have hS : va_S A s.heap H [] := by rw [hH]; exact hS
  generalize hlc : ([] : List Loc) = locs at hS ⊢
  show W p l e rm_X7_again s m (([Value.ref o, Value.int a1] : List Value).toArray) below meth c H locs 0 0 Q (F0 m 0 ls [])
  unfold x7_again at hf
  refine lv_iload_n hx hb dX7_again_0 rfl (lv_at hl 1 rfl) ?_
  refine lv_if_lt (tgt := 9) hx hb dX7_again_1 (by decide) (fun c1 => ?_) (fun c1 => ?_)
  · have hf := g_pos c1 hf
    refine lv_iconst (v := (-1 : Int32)) hx hb dX7_again_9 (by decide) ?_
    rw [hQ]
    cases hf
    exact W.iret hx hb hr (fun t ht hW => ⟨⟨_, (), rfl, rfl, by rw [ht]; exact hP, va_K.moved hW.alike hK, hD⟩, hS.F ht⟩) hS.2.2 dX7_again_10
  · have hf := g_neg c1 hf
    refine lv_iload_n hx hb dX7_again_4 rfl (lv_at hl 1 rfl) ?_
    refine lv_iconst (v := (2 : Int32)) hx hb dX7_again_5 (by decide) ?_
    refine lv_icmp_lt (tgt := 11) hx hb dX7_again_6 (by decide) (fun c2 => ?_) (fun c2 => ?_)
    · have hf := g_pos c2 hf
      refine lv_aload_n hx hb dX7_again_11 rfl (lv_at hl 0 rfl) ?_
      refine va_get (D := (dC, dI)) (ci := 7) (v := .ref o_slots) (C := RX7) (T := TX7) (N := 9) hx hb hts hiX7 hown hK hP 0 rfl rfl 4 (by decide) (hts (.fieldLink RX7 36 "GreenJars" "slots" "LGreenJars$Slots;") (by decide +kernel)) (fun _ h9 => h9) rfl dX7_again_12 ?_
      refine lv_iload_n hx hb dX7_again_15 rfl (lv_at hl 1 rfl) ?_
      refine lv_aload_n hx hb dX7_again_16 rfl (lv_at hl 0 rfl) ?_
      refine va_get (D := (dC, dI)) (ci := 7) (v := .ref o_now) (C := RX7) (T := TX7) (N := 9) hx hb hts hiX7 hown hK hP 0 rfl rfl 1 (by decide) (hts (.fieldLink RX7 19 "GreenJars" "now" "LGreenJars$Shelf;") (by decide +kernel)) (fun _ h9 => h9) rfl dX7_again_17 ?_
      obtain ⟨r3, y4, y5, hc6, hf⟩ := g_b3 hf
      refine g_wV (As := [.int a1, .ref o_now]) (rest := []) (wr := [(o, .inr (7, [.ref o_text, .ref o_now, .ref o_trial, .ref o_acts, .ref o_slots, .ref o_tastes, .ref o_ways, .ref o_fraction, .long v_seedNow])), (o_acts, .inr (0, [.ref o_acts_before, .int v_acts_count, .int v_acts_next]))]) (wn := (w_X7_again cI cZ cG o o_text o_now o_trial o_acts o_slots o_tastes o_ways o_fraction o_now_cells o_now_standing o_acts_before o_slots_rows o_slots_filled o_slots_rows_r v_seedNow v_now_jars y4 y5 v_acts_count v_acts_next m_slots_rows f_slots_filled)) ⟨hx, hb, hml, hown, hts⟩ (c_X3_fetch l dC dI cI cZ cG o_slots o_slots_rows o_slots_filled o_slots_rows_r o_now o_now_cells o_now_standing H.size  m_slots_rows f_slots_filled v_now_jars v_now_weeks f_now_cells a1 hc6) (cwV 2 hts gX7_again_X3_fetch rfl rfl rfl (by decide +kernel) ⟨Nat.le_of_ble_eq_true rfl, Nat.le_of_ble_eq_true rfl⟩) hK hN hP hD hS hA [4, 5, 6, 7, 8, 1, 2] [0, 3] [0, 7, 8, 1, 2, 3, 4, 5, 6] rfl rfl (by decide) rfl (by decide) (by decide) rfl (by decide) (va_recv hK hP (ci := 3) (q0 := 4) rfl rfl) rfl hl.1 rfl (Nat.le_of_ble_eq_true rfl) dX7_again_20 ⟨Nat.zero_le _, Nat.zero_le _⟩ (fun H locs hP hD hS => ?_)
      refine lv_if_ne (tgt := 29) hx hb dX7_again_23 (by decide) (fun c7 => ?_) (fun c7 => ?_)
      · have hf := g_neg c7 hf
        refine lv_aload_n hx hb dX7_again_29 rfl (lv_at hl 0 rfl) ?_
        refine va_get (D := (dC, dI)) (ci := 7) (v := .ref o_acts) (C := RX7) (T := TX7) (N := 9) hx hb hts hiX7 hown hK hP 0 rfl rfl 3 (by decide) (hts (.fieldLink RX7 29 "GreenJars" "acts" "LGreenJars$Acts;") (by decide +kernel)) (fun _ h9 => h9) rfl dX7_again_30 ?_
        obtain ⟨y8, hc9, hf⟩ := g_b1 hf
        refine g_wVv (As := []) (rest := []) (wr := [(o, .inr (7, [.ref o_text, .ref o_now, .ref o_trial, .ref o_acts, .ref o_slots, .ref o_tastes, .ref o_ways, .ref o_fraction, .long v_seedNow])), (o_now, .inr (2, [.ref o_now_cells, .ref o_now_standing, .int v_now_jars, .int y4])), (o_now_cells, .inl (cI, 48, .inl y5)), (o_slots, .inr (3, [.ref o_slots_rows, .ref o_slots_filled])), (o_slots_rows, .inl (cG, 2, .inr (.inr (.inr (.inr (gRf 2 o_slots_rows_r)))))), ((o_slots_rows_r 0), .inl (cI, 49, .inl (m_slots_rows 0))), ((o_slots_rows_r 1), .inl (cI, 49, .inl (m_slots_rows 1))), (o_slots_filled, .inl (cZ, 2, .inl f_slots_filled))]) (wn := (w_X7_again cI cZ cG o o_text o_now o_trial o_acts o_slots o_tastes o_ways o_fraction o_now_cells o_now_standing o_acts_before o_slots_rows o_slots_filled o_slots_rows_r v_seedNow v_now_jars y4 y5 y8 v_acts_next m_slots_rows f_slots_filled)) ⟨hx, hb, hml, hown, hts⟩ (c_X0_forget l dC dI cI cZ cG o_acts o_acts_before H.size  v_acts_count v_acts_next hc9) (cwV 0 hts gX7_again_X0_forget rfl rfl rfl (by decide +kernel) ⟨Nat.le_of_ble_eq_true rfl, Nat.le_of_ble_eq_true rfl⟩) hK hN hP hD hS hA [3] [0, 1, 2, 4, 5, 6, 7, 8] [0, 1, 2, 8, 3, 4, 5, 6, 7] rfl rfl (by decide) rfl (by decide) (by decide) rfl (by decide) (va_recv hK hP (ci := 0) (q0 := 3) rfl rfl) rfl hl.1 rfl (Nat.le_of_ble_eq_true rfl) dX7_again_33 ⟨Nat.zero_le _, Nat.zero_le _⟩ (fun H locs hP hD hS => ?_)
        refine lv_aload_n hx hb dX7_again_36 rfl (lv_at hl 0 rfl) ?_
        refine va_get (D := (dC, dI)) (ci := 7) (v := .ref o_now) (C := RX7) (T := TX7) (N := 9) hx hb hts hiX7 hown hK hP 0 rfl rfl 1 (by decide) (hts (.fieldLink RX7 19 "GreenJars" "now" "LGreenJars$Shelf;") (by decide +kernel)) (fun _ h9 => h9) rfl dX7_again_37 ?_
        obtain ⟨r10, hc11, hf⟩ := g_b1 hf
        refine g_rV (As := []) (rest := []) ⟨hx, hb, hml, hown, hts⟩ (c_X2_weeks l dC dI cI cZ cG o_now o_now_cells o_now_standing  v_now_jars y4 hc11) (cwV 0 hts gX7_again_X2_weeks rfl rfl rfl (by decide +kernel) ⟨Nat.le_of_ble_eq_true rfl, Nat.le_of_ble_eq_true rfl⟩) hK hN (hP.sub [1] rfl) (va_recv hK hP (ci := 2) (q0 := 1) rfl rfl) rfl hl.1 rfl (Nat.le_of_ble_eq_true rfl) dX7_again_40 ⟨Nat.zero_le _, Nat.zero_le _⟩ ?_
        rw [hQ]
        cases hf
        exact W.iret hx hb hr (fun t ht hW => ⟨⟨_, (), rfl, rfl, by rw [ht]; exact hP, va_K.moved hW.alike hK, hD⟩, hS.F ht⟩) hS.2.2 dX7_again_43
      · have hf := g_pos c7 hf
        refine lv_bipush (v := (-3 : Int32)) hx hb dX7_again_26 (by decide +kernel) ?_
        rw [hQ]
        cases hf
        exact W.iret hx hb hr (fun t ht hW => ⟨⟨_, (), rfl, rfl, by rw [ht]; exact hP, va_K.moved hW.alike hK, hD⟩, hS.F ht⟩) hS.2.2 dX7_again_28
    · have hf := g_neg c2 hf
      refine lv_iconst (v := (-1 : Int32)) hx hb dX7_again_9 (by decide) ?_
      rw [hQ]
      cases hf
      exact W.iret hx hb hr (fun t ht hW => ⟨⟨_, (), rfl, rfl, by rw [ht]; exact hP, va_K.moved hW.alike hK, hD⟩, hS.F ht⟩) hS.2.2 dX7_again_10
