/-! PURE: the law: every call answers alike, so it answers 1 -/
theorem gChk_in {α : Type} {b : Bool} (h : b = true) (k : Option α) : gChk b k = k := by rw [h]; rfl
theorem gB1_of {α1 β : Type} {a1 : α1} {o : Option (α1)} (h : o = some a1) (k : α1 → Option β) : gB1 o k = k a1 := by rw [h]; rfl
theorem gB2_of {α1 α2 β : Type} {a1 : α1} {a2 : α2} {o : Option (α1 × α2)} (h : o = some (a1, a2)) (k : α1 → α2 → Option β) : gB2 o k = k a1 a2 := by rw [h]; rfl
theorem gB3_of {α1 α2 α3 β : Type} {a1 : α1} {a2 : α2} {a3 : α3} {o : Option (α1 × α2 × α3)} (h : o = some (a1, a2, a3)) (k : α1 → α2 → α3 → Option β) : gB3 o k = k a1 a2 a3 := by rw [h]; rfl
theorem gB4_of {α1 α2 α3 α4 β : Type} {a1 : α1} {a2 : α2} {a3 : α3} {a4 : α4} {o : Option (α1 × α2 × α3 × α4)} (h : o = some (a1, a2, a3, a4)) (k : α1 → α2 → α3 → α4 → Option β) : gB4 o k = k a1 a2 a3 a4 := by rw [h]; rfl
theorem gB5_of {α1 α2 α3 α4 α5 β : Type} {a1 : α1} {a2 : α2} {a3 : α3} {a4 : α4} {a5 : α5} {o : Option (α1 × α2 × α3 × α4 × α5)} (h : o = some (a1, a2, a3, a4, a5)) (k : α1 → α2 → α3 → α4 → α5 → Option β) : gB5 o k = k a1 a2 a3 a4 a5 := by rw [h]; rfl
theorem gB6_of {α1 α2 α3 α4 α5 α6 β : Type} {a1 : α1} {a2 : α2} {a3 : α3} {a4 : α4} {a5 : α5} {a6 : α6} {o : Option (α1 × α2 × α3 × α4 × α5 × α6)} (h : o = some (a1, a2, a3, a4, a5, a6)) (k : α1 → α2 → α3 → α4 → α5 → α6 → Option β) : gB6 o k = k a1 a2 a3 a4 a5 a6 := by rw [h]; rfl
theorem gB7_of {α1 α2 α3 α4 α5 α6 α7 β : Type} {a1 : α1} {a2 : α2} {a3 : α3} {a4 : α4} {a5 : α5} {a6 : α6} {a7 : α7} {o : Option (α1 × α2 × α3 × α4 × α5 × α6 × α7)} (h : o = some (a1, a2, a3, a4, a5, a6, a7)) (k : α1 → α2 → α3 → α4 → α5 → α6 → α7 → Option β) : gB7 o k = k a1 a2 a3 a4 a5 a6 a7 := by rw [h]; rfl
theorem gB8_of {α1 α2 α3 α4 α5 α6 α7 α8 β : Type} {a1 : α1} {a2 : α2} {a3 : α3} {a4 : α4} {a5 : α5} {a6 : α6} {a7 : α7} {a8 : α8} {o : Option (α1 × α2 × α3 × α4 × α5 × α6 × α7 × α8)} (h : o = some (a1, a2, a3, a4, a5, a6, a7, a8)) (k : α1 → α2 → α3 → α4 → α5 → α6 → α7 → α8 → Option β) : gB8 o k = k a1 a2 a3 a4 a5 a6 a7 a8 := by rw [h]; rfl
theorem gB9_of {α1 α2 α3 α4 α5 α6 α7 α8 α9 β : Type} {a1 : α1} {a2 : α2} {a3 : α3} {a4 : α4} {a5 : α5} {a6 : α6} {a7 : α7} {a8 : α8} {a9 : α9} {o : Option (α1 × α2 × α3 × α4 × α5 × α6 × α7 × α8 × α9)} (h : o = some (a1, a2, a3, a4, a5, a6, a7, a8, a9)) (k : α1 → α2 → α3 → α4 → α5 → α6 → α7 → α8 → α9 → Option β) : gB9 o k = k a1 a2 a3 a4 a5 a6 a7 a8 a9 := by rw [h]; rfl
theorem gB10_of {α1 α2 α3 α4 α5 α6 α7 α8 α9 α10 β : Type} {a1 : α1} {a2 : α2} {a3 : α3} {a4 : α4} {a5 : α5} {a6 : α6} {a7 : α7} {a8 : α8} {a9 : α9} {a10 : α10} {o : Option (α1 × α2 × α3 × α4 × α5 × α6 × α7 × α8 × α9 × α10)} (h : o = some (a1, a2, a3, a4, a5, a6, a7, a8, a9, a10)) (k : α1 → α2 → α3 → α4 → α5 → α6 → α7 → α8 → α9 → α10 → Option β) : gB10 o k = k a1 a2 a3 a4 a5 a6 a7 a8 a9 a10 := by rw [h]; rfl
theorem gB11_of {α1 α2 α3 α4 α5 α6 α7 α8 α9 α10 α11 β : Type} {a1 : α1} {a2 : α2} {a3 : α3} {a4 : α4} {a5 : α5} {a6 : α6} {a7 : α7} {a8 : α8} {a9 : α9} {a10 : α10} {a11 : α11} {o : Option (α1 × α2 × α3 × α4 × α5 × α6 × α7 × α8 × α9 × α10 × α11)} (h : o = some (a1, a2, a3, a4, a5, a6, a7, a8, a9, a10, a11)) (k : α1 → α2 → α3 → α4 → α5 → α6 → α7 → α8 → α9 → α10 → α11 → Option β) : gB11 o k = k a1 a2 a3 a4 a5 a6 a7 a8 a9 a10 a11 := by rw [h]; rfl
theorem gB12_of {α1 α2 α3 α4 α5 α6 α7 α8 α9 α10 α11 α12 β : Type} {a1 : α1} {a2 : α2} {a3 : α3} {a4 : α4} {a5 : α5} {a6 : α6} {a7 : α7} {a8 : α8} {a9 : α9} {a10 : α10} {a11 : α11} {a12 : α12} {o : Option (α1 × α2 × α3 × α4 × α5 × α6 × α7 × α8 × α9 × α10 × α11 × α12)} (h : o = some (a1, a2, a3, a4, a5, a6, a7, a8, a9, a10, a11, a12)) (k : α1 → α2 → α3 → α4 → α5 → α6 → α7 → α8 → α9 → α10 → α11 → α12 → Option β) : gB12 o k = k a1 a2 a3 a4 a5 a6 a7 a8 a9 a10 a11 a12 := by rw [h]; rfl
def lwI (y_gx_seedNow : Int64) (y_gx_text_length : Int32) (y_gx_text_bytes : Nat → Int32) (y_gx_now_jars : Int32) (y_gx_now_weeks : Int32) (y_gx_now_cells : Nat → Int32) (y_gx_acts_count : Int32) (y_gx_acts_next : Int32) (y_gx_acts_before : Nat → Nat → Int32) (y_gx_slots_rows : Nat → Nat → Int32) (y_gx_slots_filled : Nat → Int32) (y_gx_tastes_count : Int32) (y_gx_tastes_went : Nat → Int32) (y_gx_tastes_came : Nat → Int32) (y_gm_textSize : Int32) (y_gm_text : Nat → Int32) (y_gm_jars : Int32) (y_gm_kind : Nat → Int32) (y_gm_size : Nat → Int32) (y_gm_page : Nat → Int32) (y_gm_acts : Int32) (y_gm_book : Nat → Int32) (y_gm_kept : Nat → Int32) (y_gm_isKept : Nat → Int32) (y_gm_tasted : Int32) (y_gm_tastedFrom : Nat → Int32) (y_gm_tastedTo : Nat → Int32) (y_gm_seed : Int64) : Prop := ∃ (n : Nat) (c : Nat → Nat → Nat) (w : Int32), SH n c w y_gx_now_jars y_gx_now_weeks y_gx_now_cells y_gm_jars y_gm_kind y_gm_size y_gm_page ∧ ACT n y_gm_kind y_gm_size y_gx_acts_count y_gx_acts_next y_gx_acts_before y_gm_acts y_gm_book ∧ SLT n y_gm_kind y_gm_size y_gx_slots_rows y_gx_slots_filled y_gm_kept y_gm_isKept ∧ TXT y_gx_text_length y_gx_text_bytes y_gm_textSize y_gm_text ∧ TST y_gx_tastes_count y_gx_tastes_went y_gx_tastes_came y_gm_tasted y_gm_tastedFrom y_gm_tastedTo ∧ y_gx_seedNow = y_gm_seed
theorem endC {L i : Nat} (hL : L ≤ 320) (hi : i ≤ 400) : ((Int32.ofNat L - (5 : Int32)) < nI i) ↔ L < i + 5 := by
  rw [fa_lt, show (Int32.ofNat L - (5 : Int32)).toInt = (L : Int) - (5 : Nat) from pk_sub_toInt (a := L) (b := 5) (by omega) (by omega), nI_toInt (by omega)]
  omega
theorem TXT.len {a b : Int32} {f g : Nat → Int32} (h : TXT a f b g) : a = b := by
  obtain ⟨k, -, e1, e2, -⟩ := h
  rw [e1, e2]
theorem TST.cnt {a b : Int32} {f g x y : Nat → Int32} (h : TST a f g b x y) : a = b := by
  obtain ⟨k, -, e1, e2, -⟩ := h
  rw [e1, e2]
theorem ACT.cnt {n : Nat} {kd sz bk : Nat → Int32} {a b x : Int32} {M : Nat → Nat → Int32} (h : ACT n kd sz a x M b bk) : a = b := by
  obtain ⟨k, _, -, -, e1, e2, -⟩ := h
  rw [e1, e2]
set_option maxHeartbeats 8000000 in
set_option maxRecDepth 100000 in
theorem law_pure {N : Nat} (hN : 2000 ≤ N) {xs : Nat → Int32} {L : Nat} (hLn : L ≤ 320) : ∀ (d i : Nat) (x3 : Int32), x3 = nI i → i ≤ 330 → L ≤ i + d → ∀ (fl : Nat), d < fl → ∀ (y_gx_seedNow : Int64) (y_gx_text_length : Int32) (y_gx_text_bytes : Nat → Int32) (y_gx_now_jars : Int32) (y_gx_now_weeks : Int32) (y_gx_now_cells : Nat → Int32) (y_gx_now_standing : Nat → Int32) (y_gx_trial_jars : Int32) (y_gx_trial_weeks : Int32) (y_gx_trial_cells : Nat → Int32) (y_gx_trial_standing : Nat → Int32) (y_gx_acts_count : Int32) (y_gx_acts_next : Int32) (y_gx_acts_before : Nat → Nat → Int32) (y_gx_slots_rows : Nat → Nat → Int32) (y_gx_slots_filled : Nat → Int32) (y_gx_tastes_count : Int32) (y_gx_tastes_went : Nat → Int32) (y_gx_tastes_came : Nat → Int32) (y_gx_ways_count : Int32) (y_gx_ways_most : Int32) (y_gx_ways_figures : Int32) (y_gx_ways_movers : Nat → Int32) (y_gx_ways_spots : Nat → Int32) (y_gx_fraction_above : Int32) (y_gx_fraction_below : Int32) (y_gm_thrown : Int32) (y_gm_textSize : Int32) (y_gm_place : Int32) (y_gm_jars : Int32) (y_gm_readPlaces : Int32) (y_gm_readJars : Int32) (y_gm_acts : Int32) (y_gm_tasted : Int32) (y_gm_seed : Int64) (y_gm_some : Int32) (y_gm_rowMany : Int32) (y_gm_rowWay : Int32) (y_gm_stuffWhich : Int32) (y_gm_stuffNear : Int32) (y_gm_keptMany : Int32) (y_gm_keptFirst : Int32) (y_gm_restMany : Int32) (y_gm_restFirst : Int32) (y_gm_text : Nat → Int32) (y_gm_kind : Nat → Int32) (y_gm_size : Nat → Int32) (y_gm_readJar : Nat → Int32) (y_gm_page : Nat → Int32) (y_gm_trial : Nat → Int32) (y_gm_book : Nat → Int32) (y_gm_kept : Nat → Int32) (y_gm_isKept : Nat → Int32) (y_gm_tastedFrom : Nat → Int32) (y_gm_tastedTo : Nat → Int32) (y_gm_order : Nat → Int32) (y_gm_spots : Nat → Int32) (y_gm_gains : Nat → Int32) (y_gm_value : Nat → Int32), lwI y_gx_seedNow y_gx_text_length y_gx_text_bytes y_gx_now_jars y_gx_now_weeks y_gx_now_cells y_gx_acts_count y_gx_acts_next y_gx_acts_before y_gx_slots_rows y_gx_slots_filled y_gx_tastes_count y_gx_tastes_went y_gx_tastes_came y_gm_textSize y_gm_text y_gm_jars y_gm_kind y_gm_size y_gm_page y_gm_acts y_gm_book y_gm_kept y_gm_isKept y_gm_tasted y_gm_tastedFrom y_gm_tastedTo y_gm_seed → lw_b18 N xs L fl x3 y_gx_seedNow y_gx_text_length y_gx_text_bytes y_gx_now_jars y_gx_now_weeks y_gx_now_cells y_gx_now_standing y_gx_trial_jars y_gx_trial_weeks y_gx_trial_cells y_gx_trial_standing y_gx_acts_count y_gx_acts_next y_gx_acts_before y_gx_slots_rows y_gx_slots_filled y_gx_tastes_count y_gx_tastes_went y_gx_tastes_came y_gx_ways_count y_gx_ways_most y_gx_ways_figures y_gx_ways_movers y_gx_ways_spots y_gx_fraction_above y_gx_fraction_below y_gm_thrown y_gm_textSize y_gm_place y_gm_jars y_gm_readPlaces y_gm_readJars y_gm_acts y_gm_tasted y_gm_seed y_gm_some y_gm_rowMany y_gm_rowWay y_gm_stuffWhich y_gm_stuffNear y_gm_keptMany y_gm_keptFirst y_gm_restMany y_gm_restFirst y_gm_text y_gm_kind y_gm_size y_gm_readJar y_gm_page y_gm_trial y_gm_book y_gm_kept y_gm_isKept y_gm_tastedFrom y_gm_tastedTo y_gm_order y_gm_spots y_gm_gains y_gm_value = some (1 : Int32) := by
  intro d
  induction d with
  | zero =>
    intro i x3 hx hi hd fl hfl y_gx_seedNow y_gx_text_length y_gx_text_bytes y_gx_now_jars y_gx_now_weeks y_gx_now_cells y_gx_now_standing y_gx_trial_jars y_gx_trial_weeks y_gx_trial_cells y_gx_trial_standing y_gx_acts_count y_gx_acts_next y_gx_acts_before y_gx_slots_rows y_gx_slots_filled y_gx_tastes_count y_gx_tastes_went y_gx_tastes_came y_gx_ways_count y_gx_ways_most y_gx_ways_figures y_gx_ways_movers y_gx_ways_spots y_gx_fraction_above y_gx_fraction_below y_gm_thrown y_gm_textSize y_gm_place y_gm_jars y_gm_readPlaces y_gm_readJars y_gm_acts y_gm_tasted y_gm_seed y_gm_some y_gm_rowMany y_gm_rowWay y_gm_stuffWhich y_gm_stuffNear y_gm_keptMany y_gm_keptFirst y_gm_restMany y_gm_restFirst y_gm_text y_gm_kind y_gm_size y_gm_readJar y_gm_page y_gm_trial y_gm_book y_gm_kept y_gm_isKept y_gm_tastedFrom y_gm_tastedTo y_gm_order y_gm_spots y_gm_gains y_gm_value hI
    obtain ⟨fl, rfl⟩ : ∃ m, fl = m + 1 := ⟨fl - 1, by omega⟩
    rw [lw_b18]
    subst hx
    exact (if_pos ((endC hLn (by omega)).mpr (by omega))).trans rfl
  | succ d ih =>
    intro i x3 hx hi hd fl hfl y_gx_seedNow y_gx_text_length y_gx_text_bytes y_gx_now_jars y_gx_now_weeks y_gx_now_cells y_gx_now_standing y_gx_trial_jars y_gx_trial_weeks y_gx_trial_cells y_gx_trial_standing y_gx_acts_count y_gx_acts_next y_gx_acts_before y_gx_slots_rows y_gx_slots_filled y_gx_tastes_count y_gx_tastes_went y_gx_tastes_came y_gx_ways_count y_gx_ways_most y_gx_ways_figures y_gx_ways_movers y_gx_ways_spots y_gx_fraction_above y_gx_fraction_below y_gm_thrown y_gm_textSize y_gm_place y_gm_jars y_gm_readPlaces y_gm_readJars y_gm_acts y_gm_tasted y_gm_seed y_gm_some y_gm_rowMany y_gm_rowWay y_gm_stuffWhich y_gm_stuffNear y_gm_keptMany y_gm_keptFirst y_gm_restMany y_gm_restFirst y_gm_text y_gm_kind y_gm_size y_gm_readJar y_gm_page y_gm_trial y_gm_book y_gm_kept y_gm_isKept y_gm_tastedFrom y_gm_tastedTo y_gm_order y_gm_spots y_gm_gains y_gm_value hI
    obtain ⟨fl, rfl⟩ : ∃ m, fl = m + 1 := ⟨fl - 1, by omega⟩
    rw [lw_b18]
    by_cases hend : L < i + 5
    · subst hx
      exact (if_pos ((endC hLn (by omega)).mpr hend)).trans rfl
    refine (if_neg (fun z => hend ((endC hLn (by omega)).mp (hx ▸ z)))).trans ?_
    have c0 : gIn x3 L = true := by rw [hx]; exact gIn_t (by omega) (by omega)
    have c1 : gIn (x3 + (1 : Int32)) L = true := by rw [hx, show nI i + (1 : Int32) = nI (i + 1) from nI_add i 1]; exact gIn_t (by omega) (by omega)
    have c2 : gIn (x3 + (2 : Int32)) L = true := by rw [hx, show nI i + (2 : Int32) = nI (i + 2) from nI_add i 2]; exact gIn_t (by omega) (by omega)
    have c3 : gIn (x3 + (3 : Int32)) L = true := by rw [hx, show nI i + (3 : Int32) = nI (i + 3) from nI_add i 3]; exact gIn_t (by omega) (by omega)
    have c4 : gIn (x3 + (4 : Int32)) L = true := by rw [hx, show nI i + (4 : Int32) = nI (i + 4) from nI_add i 4]; exact gIn_t (by omega) (by omega)
    have hx5 : x3 + (5 : Int32) = nI (i + 5) := by rw [hx]; exact nI_add i 5
    refine (gChk_in c0 _).trans ?_
    obtain ⟨n, c, w, hS, hA, hL, hT, hE, rfl⟩ := hI
    by_cases h : ((xs x3.toNatClampNeg) &&& (31 : Int32)) = (0 : Int32)
    · refine (if_pos h).trans ?_
      refine (gChk_in c1 _).trans ?_
      obtain ⟨r, l', b', s', t', e1, e2, e3⟩ := st_write (th := y_gm_thrown) hT (xs (x3 + (1 : Int32)).toNatClampNeg)
      refine (gB3_of e1 _).trans ?_
      refine (gChk_in c1 _).trans ?_
      refine (gB4_of e2 _).trans ?_
      refine (if_pos rfl).trans ?_
      exact ih (i + 5) _ hx5 (by omega) (by omega) fl (by omega) _ _ _ _ _ _ _ _ _ _ _ _ _ _ _ _ _ _ _ _ _ _ _ _ _ _ _ _ _ _ _ _ _ _ _ _ _ _ _ _ _ _ _ _ _ _ _ _ _ _ _ _ _ _ _ _ _ _ _ ⟨n, c, w, hS, hA, hL, e3, hE, rfl⟩
    refine (if_neg h).trans ?_
    clear h
    by_cases h : ((xs x3.toNatClampNeg) &&& (31 : Int32)) = (1 : Int32)
    · refine (if_pos h).trans ?_
      obtain ⟨r, l', s', e1, e2, e3⟩ := st_wipe (th := y_gm_thrown) hT
      refine (gB2_of e1 _).trans ?_
      refine (gB3_of e2 _).trans ?_
      refine (if_pos rfl).trans ?_
      exact ih (i + 5) _ hx5 (by omega) (by omega) fl (by omega) _ _ _ _ _ _ _ _ _ _ _ _ _ _ _ _ _ _ _ _ _ _ _ _ _ _ _ _ _ _ _ _ _ _ _ _ _ _ _ _ _ _ _ _ _ _ _ _ _ _ _ _ _ _ _ _ _ _ _ ⟨n, c, w, hS, hA, hL, e3, hE, rfl⟩
    refine (if_neg h).trans ?_
    clear h
    by_cases h : ((xs x3.toNatClampNeg) &&& (31 : Int32)) = (2 : Int32)
    · refine (if_pos h).trans ?_
      obtain ⟨r, pl, P', q, rj', e1, e2⟩ := st_fault (N := N) (th := y_gm_thrown) (p0 := y_gm_place) (p1 := y_gm_readPlaces) (p2 := y_gm_readJars) (rj := y_gm_readJar) hT (by omega)
      refine (gB1_of e1 _).trans ?_
      refine (gB6_of e2 _).trans ?_
      refine (if_pos rfl).trans ?_
      exact ih (i + 5) _ hx5 (by omega) (by omega) fl (by omega) _ _ _ _ _ _ _ _ _ _ _ _ _ _ _ _ _ _ _ _ _ _ _ _ _ _ _ _ _ _ _ _ _ _ _ _ _ _ _ _ _ _ _ _ _ _ _ _ _ _ _ _ _ _ _ _ _ _ _ ⟨n, c, w, hS, hA, hL, hT, hE, rfl⟩
    refine (if_neg h).trans ?_
    clear h
    by_cases h : ((xs x3.toNatClampNeg) &&& (31 : Int32)) = (3 : Int32)
    · refine (if_pos h).trans ?_
      obtain ⟨r, J', W', f', cnt', fil', pl', Jm', P', q', acts', kd', sz', rj', pg', isK', n', c', w', e1, e2, s1, s2, s3⟩ := st_sale (N := N) (th := y_gm_thrown) (p0 := y_gm_place) (p1 := y_gm_readPlaces) (p2 := y_gm_readJars) (rj := y_gm_readJar) hS hA hL hT hN
      refine (gB6_of e1 _).trans ?_
      refine (gB12_of e2 _).trans ?_
      refine (if_pos rfl).trans ?_
      exact ih (i + 5) _ hx5 (by omega) (by omega) fl (by omega) _ _ _ _ _ _ _ _ _ _ _ _ _ _ _ _ _ _ _ _ _ _ _ _ _ _ _ _ _ _ _ _ _ _ _ _ _ _ _ _ _ _ _ _ _ _ _ _ _ _ _ _ _ _ _ _ _ _ _ ⟨n', c', w', s1, s2, s3, hT, hE, rfl⟩
    refine (if_neg h).trans ?_
    clear h
    by_cases h : ((xs x3.toNatClampNeg) &&& (31 : Int32)) = (4 : Int32)
    · refine (if_pos h).trans ?_
      refine (gChk_in c1 _).trans ?_
      obtain ⟨r, y, s', e1, e2⟩ := st_about (N := N) (th := y_gm_thrown) (sm := y_gm_some) hS hN hT.len hA.cnt hE.cnt y_gx_now_standing (xs (x3 + (1 : Int32)).toNatClampNeg)
      refine (gB2_of e1 _).trans ?_
      refine (gChk_in c1 _).trans ?_
      refine (gB3_of e2 _).trans ?_
      refine (if_pos rfl).trans ?_
      exact ih (i + 5) _ hx5 (by omega) (by omega) fl (by omega) _ _ _ _ _ _ _ _ _ _ _ _ _ _ _ _ _ _ _ _ _ _ _ _ _ _ _ _ _ _ _ _ _ _ _ _ _ _ _ _ _ _ _ _ _ _ _ _ _ _ _ _ _ _ _ _ _ _ _ ⟨n, c, w, hS, hA, hL, hT, hE, rfl⟩
    refine (if_neg h).trans ?_
    clear h
    by_cases h : ((xs x3.toNatClampNeg) &&& (31 : Int32)) = (5 : Int32)
    · refine (if_pos h).trans ?_
      refine (gChk_in c1 _).trans ?_
      refine (gChk_in c2 _).trans ?_
      obtain ⟨r, s', e1, e2⟩ := st_jar (N := N) (th := y_gm_thrown) (sm := y_gm_some) hS hN (xs (x3 + (1 : Int32)).toNatClampNeg) (xs (x3 + (2 : Int32)).toNatClampNeg)
      refine (gB1_of e1 _).trans ?_
      refine (gChk_in c1 _).trans ?_
      refine (gChk_in c2 _).trans ?_
      refine (gB3_of e2 _).trans ?_
      refine (if_pos rfl).trans ?_
      exact ih (i + 5) _ hx5 (by omega) (by omega) fl (by omega) _ _ _ _ _ _ _ _ _ _ _ _ _ _ _ _ _ _ _ _ _ _ _ _ _ _ _ _ _ _ _ _ _ _ _ _ _ _ _ _ _ _ _ _ _ _ _ _ _ _ _ _ _ _ _ _ _ _ _ ⟨n, c, w, hS, hA, hL, hT, hE, rfl⟩
    refine (if_neg h).trans ?_
    clear h
    by_cases h : ((xs x3.toNatClampNeg) &&& (31 : Int32)) = (6 : Int32)
    · refine (if_pos h).trans ?_
      refine (gChk_in c1 _).trans ?_
      obtain ⟨r, s', e1, e2⟩ := st_at (N := N) (th := y_gm_thrown) (sm := y_gm_some) hS (by omega) (xs (x3 + (1 : Int32)).toNatClampNeg)
      refine (gB1_of e1 _).trans ?_
      refine (gChk_in c1 _).trans ?_
      refine (gB3_of e2 _).trans ?_
      refine (if_pos rfl).trans ?_
      exact ih (i + 5) _ hx5 (by omega) (by omega) fl (by omega) _ _ _ _ _ _ _ _ _ _ _ _ _ _ _ _ _ _ _ _ _ _ _ _ _ _ _ _ _ _ _ _ _ _ _ _ _ _ _ _ _ _ _ _ _ _ _ _ _ _ _ _ _ _ _ _ _ _ _ ⟨n, c, w, hS, hA, hL, hT, hE, rfl⟩
    refine (if_neg h).trans ?_
    clear h
    by_cases h : ((xs x3.toNatClampNeg) &&& (31 : Int32)) = (7 : Int32)
    · refine (if_pos h).trans ?_
      obtain ⟨r, W', f', cnt', nxt', M', acts', pg', book', c', w', e1, e2, s1, s2⟩ := st_week (N := N) (th := y_gm_thrown) hS hA hN
      refine (gB6_of e1 _).trans ?_
      refine (gB5_of e2 _).trans ?_
      refine (if_pos rfl).trans ?_
      exact ih (i + 5) _ hx5 (by omega) (by omega) fl (by omega) _ _ _ _ _ _ _ _ _ _ _ _ _ _ _ _ _ _ _ _ _ _ _ _ _ _ _ _ _ _ _ _ _ _ _ _ _ _ _ _ _ _ _ _ _ _ _ _ _ _ _ _ _ _ _ _ _ _ _ ⟨n, c', w', s1, s2, hL, hT, hE, rfl⟩
    refine (if_neg h).trans ?_
    clear h
    by_cases h : ((xs x3.toNatClampNeg) &&& (31 : Int32)) = (8 : Int32)
    · refine (if_pos h).trans ?_
      obtain ⟨r, f', cnt', nxt', M', acts', pg', book', c', w', e1, e2, s1, s2⟩ := st_shake (N := N) (th := y_gm_thrown) hS hA hN
      refine (gB5_of e1 _).trans ?_
      refine (gB5_of e2 _).trans ?_
      refine (if_pos rfl).trans ?_
      exact ih (i + 5) _ hx5 (by omega) (by omega) fl (by omega) _ _ _ _ _ _ _ _ _ _ _ _ _ _ _ _ _ _ _ _ _ _ _ _ _ _ _ _ _ _ _ _ _ _ _ _ _ _ _ _ _ _ _ _ _ _ _ _ _ _ _ _ _ _ _ _ _ _ _ ⟨n, c', w', s1, s2, hL, hT, hE, rfl⟩
    refine (if_neg h).trans ?_
    clear h
    by_cases h : ((xs x3.toNatClampNeg) &&& (31 : Int32)) = (9 : Int32)
    · refine (if_pos h).trans ?_
      refine (gChk_in c1 _).trans ?_
      refine (gChk_in c2 _).trans ?_
      obtain ⟨r, f', cnt', nxt', M', acts', s', pg', book', c', e1, e2, s1, s2⟩ := st_set (N := N) (th := y_gm_thrown) (sm := y_gm_some) hS hA hN (xs (x3 + (1 : Int32)).toNatClampNeg) (xs (x3 + (2 : Int32)).toNatClampNeg)
      refine (gB5_of e1 _).trans ?_
      refine (gChk_in c1 _).trans ?_
      refine (gChk_in c2 _).trans ?_
      refine (gB6_of e2 _).trans ?_
      refine (if_pos rfl).trans ?_
      exact ih (i + 5) _ hx5 (by omega) (by omega) fl (by omega) _ _ _ _ _ _ _ _ _ _ _ _ _ _ _ _ _ _ _ _ _ _ _ _ _ _ _ _ _ _ _ _ _ _ _ _ _ _ _ _ _ _ _ _ _ _ _ _ _ _ _ _ _ _ _ _ _ _ _ ⟨n, c', w, s1, s2, hL, hT, hE, rfl⟩
    refine (if_neg h).trans ?_
    clear h
    by_cases h : ((xs x3.toNatClampNeg) &&& (31 : Int32)) = (10 : Int32)
    · refine (if_pos h).trans ?_
      refine (gChk_in c1 _).trans ?_
      refine (gChk_in c2 _).trans ?_
      obtain ⟨r, f', cnt', nxt', M', acts', pg', book', c', e1, e2, s1, s2⟩ := st_pour (N := N) (th := y_gm_thrown) hS hA hN (xs (x3 + (1 : Int32)).toNatClampNeg) (xs (x3 + (2 : Int32)).toNatClampNeg)
      refine (gB5_of e1 _).trans ?_
      refine (gChk_in c1 _).trans ?_
      refine (gChk_in c2 _).trans ?_
      refine (gB5_of e2 _).trans ?_
      refine (if_pos rfl).trans ?_
      exact ih (i + 5) _ hx5 (by omega) (by omega) fl (by omega) _ _ _ _ _ _ _ _ _ _ _ _ _ _ _ _ _ _ _ _ _ _ _ _ _ _ _ _ _ _ _ _ _ _ _ _ _ _ _ _ _ _ _ _ _ _ _ _ _ _ _ _ _ _ _ _ _ _ _ ⟨n, c', w, s1, s2, hL, hT, hE, rfl⟩
    refine (if_neg h).trans ?_
    clear h
    by_cases h : ((xs x3.toNatClampNeg) &&& (31 : Int32)) = (11 : Int32)
    · refine (if_pos h).trans ?_
      refine (gChk_in c1 _).trans ?_
      obtain ⟨r, f', cnt', nxt', M', acts', pg', book', c', e1, e2, s1, s2⟩ := st_open (N := N) (th := y_gm_thrown) hS hA hN (xs (x3 + (1 : Int32)).toNatClampNeg)
      refine (gB5_of e1 _).trans ?_
      refine (gChk_in c1 _).trans ?_
      refine (gB5_of e2 _).trans ?_
      refine (if_pos rfl).trans ?_
      exact ih (i + 5) _ hx5 (by omega) (by omega) fl (by omega) _ _ _ _ _ _ _ _ _ _ _ _ _ _ _ _ _ _ _ _ _ _ _ _ _ _ _ _ _ _ _ _ _ _ _ _ _ _ _ _ _ _ _ _ _ _ _ _ _ _ _ _ _ _ _ _ _ _ _ ⟨n, c', w, s1, s2, hL, hT, hE, rfl⟩
    refine (if_neg h).trans ?_
    clear h
    by_cases h : ((xs x3.toNatClampNeg) &&& (31 : Int32)) = (12 : Int32)
    · refine (if_pos h).trans ?_
      obtain ⟨r, W', f', cnt', nxt', acts', pg', c', w', e1, e2, s1, s2⟩ := st_undo (N := N) (th := y_gm_thrown) hS hA hN
      refine (gB5_of e1 _).trans ?_
      refine (gB4_of e2 _).trans ?_
      refine (if_pos rfl).trans ?_
      exact ih (i + 5) _ hx5 (by omega) (by omega) fl (by omega) _ _ _ _ _ _ _ _ _ _ _ _ _ _ _ _ _ _ _ _ _ _ _ _ _ _ _ _ _ _ _ _ _ _ _ _ _ _ _ _ _ _ _ _ _ _ _ _ _ _ _ _ _ _ _ _ _ _ _ ⟨n, c', w', s1, s2, hL, hT, hE, rfl⟩
    refine (if_neg h).trans ?_
    clear h
    by_cases h : ((xs x3.toNatClampNeg) &&& (31 : Int32)) = (13 : Int32)
    · refine (if_pos h).trans ?_
      refine (gChk_in c1 _).trans ?_
      refine (gChk_in c2 _).trans ?_
      refine (gChk_in c3 _).trans ?_
      obtain ⟨r, tJ', tW', tf', s', tr', e1, e2⟩ := st_later (N := N) (th := y_gm_thrown) (sm := y_gm_some) (tJ := y_gx_trial_jars) (tW := y_gx_trial_weeks) (tf := y_gx_trial_cells) (tr := y_gm_trial) hS hN (xs (x3 + (1 : Int32)).toNatClampNeg) (xs (x3 + (2 : Int32)).toNatClampNeg) (xs (x3 + (3 : Int32)).toNatClampNeg)
      refine (gB4_of e1 _).trans ?_
      refine (gChk_in c1 _).trans ?_
      refine (gChk_in c2 _).trans ?_
      refine (gChk_in c3 _).trans ?_
      refine (gB4_of e2 _).trans ?_
      refine (if_pos rfl).trans ?_
      exact ih (i + 5) _ hx5 (by omega) (by omega) fl (by omega) _ _ _ _ _ _ _ _ _ _ _ _ _ _ _ _ _ _ _ _ _ _ _ _ _ _ _ _ _ _ _ _ _ _ _ _ _ _ _ _ _ _ _ _ _ _ _ _ _ _ _ _ _ _ _ _ _ _ _ ⟨n, c, w, hS, hA, hL, hT, hE, rfl⟩
    refine (if_neg h).trans ?_
    clear h
    by_cases h : ((xs x3.toNatClampNeg) &&& (31 : Int32)) = (14 : Int32)
    · refine (if_pos h).trans ?_
      refine (gChk_in c1 _).trans ?_
      refine (gChk_in c2 _).trans ?_
      obtain ⟨r, tJ', tW', tf', s', tr', e1, e2⟩ := st_becomes (N := N) (th := y_gm_thrown) (sm := y_gm_some) (tJ := y_gx_trial_jars) (tW := y_gx_trial_weeks) (tf := y_gx_trial_cells) (tr := y_gm_trial) hS hN (xs (x3 + (1 : Int32)).toNatClampNeg) (xs (x3 + (2 : Int32)).toNatClampNeg)
      refine (gB4_of e1 _).trans ?_
      refine (gChk_in c1 _).trans ?_
      refine (gChk_in c2 _).trans ?_
      refine (gB4_of e2 _).trans ?_
      refine (if_pos rfl).trans ?_
      exact ih (i + 5) _ hx5 (by omega) (by omega) fl (by omega) _ _ _ _ _ _ _ _ _ _ _ _ _ _ _ _ _ _ _ _ _ _ _ _ _ _ _ _ _ _ _ _ _ _ _ _ _ _ _ _ _ _ _ _ _ _ _ _ _ _ _ _ _ _ _ _ _ _ _ ⟨n, c, w, hS, hA, hL, hT, hE, rfl⟩
    refine (if_neg h).trans ?_
    clear h
    by_cases h : ((xs x3.toNatClampNeg) &&& (31 : Int32)) = (15 : Int32)
    · refine (if_pos h).trans ?_
      refine (gChk_in c1 _).trans ?_
      obtain ⟨r, tJ', tW', tf', s', tr', e1, e2⟩ := st_fails (N := N) (th := y_gm_thrown) (sm := y_gm_some) (tJ := y_gx_trial_jars) (tW := y_gx_trial_weeks) (tf := y_gx_trial_cells) (tr := y_gm_trial) hS hN (xs (x3 + (1 : Int32)).toNatClampNeg)
      refine (gB4_of e1 _).trans ?_
      refine (gChk_in c1 _).trans ?_
      refine (gB4_of e2 _).trans ?_
      refine (if_pos rfl).trans ?_
      exact ih (i + 5) _ hx5 (by omega) (by omega) fl (by omega) _ _ _ _ _ _ _ _ _ _ _ _ _ _ _ _ _ _ _ _ _ _ _ _ _ _ _ _ _ _ _ _ _ _ _ _ _ _ _ _ _ _ _ _ _ _ _ _ _ _ _ _ _ _ _ _ _ _ _ ⟨n, c, w, hS, hA, hL, hT, hE, rfl⟩
    refine (if_neg h).trans ?_
    clear h
    by_cases h : ((xs x3.toNatClampNeg) &&& (31 : Int32)) = (16 : Int32)
    · refine (if_pos h).trans ?_
      refine (gChk_in c1 _).trans ?_
      refine (gChk_in c2 _).trans ?_
      refine (gChk_in c3 _).trans ?_
      refine (gChk_in c4 _).trans ?_
      obtain ⟨r, tJ', tW', tf', s', sw', sn', tr', e1, e2⟩ := st_stuff (N := N) (th := y_gm_thrown) (sm := y_gm_some) (tJ := y_gx_trial_jars) (tW := y_gx_trial_weeks) (tf := y_gx_trial_cells) (tr := y_gm_trial) (sw := y_gm_stuffWhich) (sn := y_gm_stuffNear) hS hN (xs (x3 + (1 : Int32)).toNatClampNeg) (xs (x3 + (2 : Int32)).toNatClampNeg) (xs (x3 + (3 : Int32)).toNatClampNeg) (xs (x3 + (4 : Int32)).toNatClampNeg)
      refine (gB4_of e1 _).trans ?_
      refine (gChk_in c1 _).trans ?_
      refine (gChk_in c2 _).trans ?_
      refine (gChk_in c3 _).trans ?_
      refine (gChk_in c4 _).trans ?_
      refine (gB6_of e2 _).trans ?_
      refine (if_pos rfl).trans ?_
      exact ih (i + 5) _ hx5 (by omega) (by omega) fl (by omega) _ _ _ _ _ _ _ _ _ _ _ _ _ _ _ _ _ _ _ _ _ _ _ _ _ _ _ _ _ _ _ _ _ _ _ _ _ _ _ _ _ _ _ _ _ _ _ _ _ _ _ _ _ _ _ _ _ _ _ ⟨n, c, w, hS, hA, hL, hT, hE, rfl⟩
    refine (if_neg h).trans ?_
    clear h
    by_cases h : ((xs x3.toNatClampNeg) &&& (31 : Int32)) = (17 : Int32)
    · refine (if_pos h).trans ?_
      refine (gChk_in c1 _).trans ?_
      by_cases z : (xs (x3 + (1 : Int32)).toNatClampNeg) = (0 : Int32)
      · refine (if_pos z).trans ?_
        unfold lw_b599
        obtain ⟨r, tJ', tW', tf', ts', wc', wm', wf', wmv', wsp', s', rm', rw2, tr', od', sp', e1, e2⟩ := st_row (N := N) (th := y_gm_thrown) (sm := y_gm_some) (tJ := y_gx_trial_jars) (tW := y_gx_trial_weeks) (tf := y_gx_trial_cells) (tr := y_gm_trial) (ts := y_gx_trial_standing) (wc := y_gx_ways_count) (wm := y_gx_ways_most) (wf := y_gx_ways_figures) (wmv := y_gx_ways_movers) (wsp := y_gx_ways_spots) (rm := y_gm_rowMany) (rw' := y_gm_rowWay) (od := y_gm_order) (spM := y_gm_spots) hS hN (0 : Int32)
        refine (gB10_of e1 _).trans ?_
        refine (gChk_in c1 _).trans ?_
        refine (if_pos z).trans ?_
        unfold lw_b616
        refine (gB8_of e2 _).trans ?_
        refine (if_pos rfl).trans ?_
        exact ih (i + 5) _ hx5 (by omega) (by omega) fl (by omega) _ _ _ _ _ _ _ _ _ _ _ _ _ _ _ _ _ _ _ _ _ _ _ _ _ _ _ _ _ _ _ _ _ _ _ _ _ _ _ _ _ _ _ _ _ _ _ _ _ _ _ _ _ _ _ _ _ _ _ ⟨n, c, w, hS, hA, hL, hT, hE, rfl⟩
      · refine (if_neg z).trans ?_
        unfold lw_b599
        obtain ⟨r, tJ', tW', tf', ts', wc', wm', wf', wmv', wsp', s', rm', rw2, tr', od', sp', e1, e2⟩ := st_row (N := N) (th := y_gm_thrown) (sm := y_gm_some) (tJ := y_gx_trial_jars) (tW := y_gx_trial_weeks) (tf := y_gx_trial_cells) (tr := y_gm_trial) (ts := y_gx_trial_standing) (wc := y_gx_ways_count) (wm := y_gx_ways_most) (wf := y_gx_ways_figures) (wmv := y_gx_ways_movers) (wsp := y_gx_ways_spots) (rm := y_gm_rowMany) (rw' := y_gm_rowWay) (od := y_gm_order) (spM := y_gm_spots) hS hN (1 : Int32)
        refine (gB10_of e1 _).trans ?_
        refine (gChk_in c1 _).trans ?_
        refine (if_neg z).trans ?_
        unfold lw_b616
        refine (gB8_of e2 _).trans ?_
        refine (if_pos rfl).trans ?_
        exact ih (i + 5) _ hx5 (by omega) (by omega) fl (by omega) _ _ _ _ _ _ _ _ _ _ _ _ _ _ _ _ _ _ _ _ _ _ _ _ _ _ _ _ _ _ _ _ _ _ _ _ _ _ _ _ _ _ _ _ _ _ _ _ _ _ _ _ _ _ _ _ _ _ _ ⟨n, c, w, hS, hA, hL, hT, hE, rfl⟩
    refine (if_neg h).trans ?_
    clear h
    by_cases h : ((xs x3.toNatClampNeg) &&& (31 : Int32)) = (18 : Int32)
    · refine (if_pos h).trans ?_
      refine (gChk_in c1 _).trans ?_
      refine (gChk_in c2 _).trans ?_
      refine (gChk_in c3 _).trans ?_
      obtain ⟨r, tJ', tW', tf', s', tr', e1, e2⟩ := st_judge (N := N) (th := y_gm_thrown) (sm := y_gm_some) (tJ := y_gx_trial_jars) (tW := y_gx_trial_weeks) (tf := y_gx_trial_cells) (tr := y_gm_trial) hS hN (xs (x3 + (1 : Int32)).toNatClampNeg) (((xs (x3 + (2 : Int32)).toNatClampNeg).toInt64 <<< ((32 : Int32).toInt64 &&& 63)) ||| ((xs (x3 + (3 : Int32)).toNatClampNeg).toInt64 &&& (4294967295 : Int64)))
      refine (gB4_of e1 _).trans ?_
      refine (gChk_in c1 _).trans ?_
      refine (gChk_in c2 _).trans ?_
      refine (gChk_in c3 _).trans ?_
      refine (gB4_of e2 _).trans ?_
      refine (if_pos rfl).trans ?_
      exact ih (i + 5) _ hx5 (by omega) (by omega) fl (by omega) _ _ _ _ _ _ _ _ _ _ _ _ _ _ _ _ _ _ _ _ _ _ _ _ _ _ _ _ _ _ _ _ _ _ _ _ _ _ _ _ _ _ _ _ _ _ _ _ _ _ _ _ _ _ _ _ _ _ _ ⟨n, c, w, hS, hA, hL, hT, hE, rfl⟩
    refine (if_neg h).trans ?_
    clear h
    by_cases h : ((xs x3.toNatClampNeg) &&& (31 : Int32)) = (19 : Int32)
    · refine (if_pos h).trans ?_
      refine (gChk_in c1 _).trans ?_
      refine (gChk_in c2 _).trans ?_
      by_cases z : (xs (x3 + (2 : Int32)).toNatClampNeg) = (0 : Int32)
      · refine (if_pos z).trans ?_
        unfold lw_b706
        obtain ⟨r, tJ', tW', tf', fx', fy', s', v', e1, e2⟩ := st_share (N := N) (th := y_gm_thrown) (sm := y_gm_some) (tJ := y_gx_trial_jars) (tW := y_gx_trial_weeks) (tf := y_gx_trial_cells) (fx := y_gx_fraction_above) (fy := y_gx_fraction_below) (v := y_gm_value) hS hN (xs (x3 + (1 : Int32)).toNatClampNeg) (0 : Int32)
        refine (gB6_of e1 _).trans ?_
        refine (gChk_in c1 _).trans ?_
        refine (gChk_in c2 _).trans ?_
        refine (if_pos z).trans ?_
        unfold lw_b728
        refine (gB4_of e2 _).trans ?_
        refine (if_pos rfl).trans ?_
        exact ih (i + 5) _ hx5 (by omega) (by omega) fl (by omega) _ _ _ _ _ _ _ _ _ _ _ _ _ _ _ _ _ _ _ _ _ _ _ _ _ _ _ _ _ _ _ _ _ _ _ _ _ _ _ _ _ _ _ _ _ _ _ _ _ _ _ _ _ _ _ _ _ _ _ ⟨n, c, w, hS, hA, hL, hT, hE, rfl⟩
      · refine (if_neg z).trans ?_
        unfold lw_b706
        obtain ⟨r, tJ', tW', tf', fx', fy', s', v', e1, e2⟩ := st_share (N := N) (th := y_gm_thrown) (sm := y_gm_some) (tJ := y_gx_trial_jars) (tW := y_gx_trial_weeks) (tf := y_gx_trial_cells) (fx := y_gx_fraction_above) (fy := y_gx_fraction_below) (v := y_gm_value) hS hN (xs (x3 + (1 : Int32)).toNatClampNeg) (1 : Int32)
        refine (gB6_of e1 _).trans ?_
        refine (gChk_in c1 _).trans ?_
        refine (gChk_in c2 _).trans ?_
        refine (if_neg z).trans ?_
        unfold lw_b728
        refine (gB4_of e2 _).trans ?_
        refine (if_pos rfl).trans ?_
        exact ih (i + 5) _ hx5 (by omega) (by omega) fl (by omega) _ _ _ _ _ _ _ _ _ _ _ _ _ _ _ _ _ _ _ _ _ _ _ _ _ _ _ _ _ _ _ _ _ _ _ _ _ _ _ _ _ _ _ _ _ _ _ _ _ _ _ _ _ _ _ _ _ _ _ ⟨n, c, w, hS, hA, hL, hT, hE, rfl⟩
    refine (if_neg h).trans ?_
    clear h
    by_cases h : ((xs x3.toNatClampNeg) &&& (31 : Int32)) = (20 : Int32)
    · refine (if_pos h).trans ?_
      refine (gChk_in c1 _).trans ?_
      refine (gChk_in c2 _).trans ?_
      obtain ⟨r, l', b', d', s', t', u', e1, e2, e3⟩ := st_taste (th := y_gm_thrown) hE (xs (x3 + (1 : Int32)).toNatClampNeg) (xs (x3 + (2 : Int32)).toNatClampNeg)
      refine (gB4_of e1 _).trans ?_
      refine (gChk_in c1 _).trans ?_
      refine (gChk_in c2 _).trans ?_
      refine (gB5_of e2 _).trans ?_
      refine (if_pos rfl).trans ?_
      exact ih (i + 5) _ hx5 (by omega) (by omega) fl (by omega) _ _ _ _ _ _ _ _ _ _ _ _ _ _ _ _ _ _ _ _ _ _ _ _ _ _ _ _ _ _ _ _ _ _ _ _ _ _ _ _ _ _ _ _ _ _ _ _ _ _ _ _ _ _ _ _ _ _ _ ⟨n, c, w, hS, hA, hL, hT, e3, rfl⟩
    refine (if_neg h).trans ?_
    clear h
    by_cases h : ((xs x3.toNatClampNeg) &&& (31 : Int32)) = (21 : Int32)
    · refine (if_pos h).trans ?_
      obtain ⟨r, l', s', e1, e2, e3⟩ := st_untaste (th := y_gm_thrown) hE
      refine (gB2_of e1 _).trans ?_
      refine (gB3_of e2 _).trans ?_
      refine (if_pos rfl).trans ?_
      exact ih (i + 5) _ hx5 (by omega) (by omega) fl (by omega) _ _ _ _ _ _ _ _ _ _ _ _ _ _ _ _ _ _ _ _ _ _ _ _ _ _ _ _ _ _ _ _ _ _ _ _ _ _ _ _ _ _ _ _ _ _ _ _ _ _ _ _ _ _ _ _ _ _ _ ⟨n, c, w, hS, hA, hL, hT, e3, rfl⟩
    refine (if_neg h).trans ?_
    clear h
    by_cases h : ((xs x3.toNatClampNeg) &&& (31 : Int32)) = (22 : Int32)
    · refine (if_pos h).trans ?_
      refine (gChk_in c1 _).trans ?_
      obtain ⟨r, km', kf', e1, e2⟩ := st_kept (N := N) (th := y_gm_thrown) (km := y_gm_keptMany) (kf := y_gm_keptFirst) hE hN (xs (x3 + (1 : Int32)).toNatClampNeg)
      refine (gB1_of e1 _).trans ?_
      refine (gChk_in c1 _).trans ?_
      refine (gB4_of e2 _).trans ?_
      refine (if_pos rfl).trans ?_
      exact ih (i + 5) _ hx5 (by omega) (by omega) fl (by omega) _ _ _ _ _ _ _ _ _ _ _ _ _ _ _ _ _ _ _ _ _ _ _ _ _ _ _ _ _ _ _ _ _ _ _ _ _ _ _ _ _ _ _ _ _ _ _ _ _ _ _ _ _ _ _ _ _ _ _ ⟨n, c, w, hS, hA, hL, hT, hE, rfl⟩
    refine (if_neg h).trans ?_
    clear h
    by_cases h : ((xs x3.toNatClampNeg) &&& (31 : Int32)) = (23 : Int32)
    · refine (if_pos h).trans ?_
      refine (gChk_in c1 _).trans ?_
      refine (gChk_in c2 _).trans ?_
      refine (gChk_in c3 _).trans ?_
      obtain ⟨r, tJ', tW', tf', s', rm', rf', tr', g', e1, e2⟩ := st_rests (N := N) (th := y_gm_thrown) (sm := y_gm_some) (tJ := y_gx_trial_jars) (tW := y_gx_trial_weeks) (tf := y_gx_trial_cells) (tr := y_gm_trial) (rm := y_gm_restMany) (rf := y_gm_restFirst) (g := y_gm_gains) hS hN (xs (x3 + (1 : Int32)).toNatClampNeg) (xs (x3 + (2 : Int32)).toNatClampNeg) (xs (x3 + (3 : Int32)).toNatClampNeg)
      refine (gB4_of e1 _).trans ?_
      refine (gChk_in c1 _).trans ?_
      refine (gChk_in c2 _).trans ?_
      refine (gChk_in c3 _).trans ?_
      refine (gB7_of e2 _).trans ?_
      refine (if_pos rfl).trans ?_
      exact ih (i + 5) _ hx5 (by omega) (by omega) fl (by omega) _ _ _ _ _ _ _ _ _ _ _ _ _ _ _ _ _ _ _ _ _ _ _ _ _ _ _ _ _ _ _ _ _ _ _ _ _ _ _ _ _ _ _ _ _ _ _ _ _ _ _ _ _ _ _ _ _ _ _ ⟨n, c, w, hS, hA, hL, hT, hE, rfl⟩
    refine (if_neg h).trans ?_
    clear h
    by_cases h : ((xs x3.toNatClampNeg) &&& (31 : Int32)) = (24 : Int32)
    · refine (if_pos h).trans ?_
      refine (gChk_in c1 _).trans ?_
      refine (gChk_in c2 _).trans ?_
      refine (gChk_in c3 _).trans ?_
      by_cases z : (xs (x3 + (3 : Int32)).toNatClampNeg) = (0 : Int32)
      · refine (if_pos z).trans ?_
        unfold lw_b872
        obtain ⟨r, tJ', tW', tf', ts', fa', fb', s', tr', e1, e2⟩ := st_papers (N := N) (th := y_gm_thrown) (sm := y_gm_some) (tJ := y_gx_trial_jars) (tW := y_gx_trial_weeks) (tf := y_gx_trial_cells) (tr := y_gm_trial) (ts := y_gx_trial_standing) (fa := y_gx_fraction_above) (fb := y_gx_fraction_below) hS hN (xs (x3 + (1 : Int32)).toNatClampNeg) (xs (x3 + (2 : Int32)).toNatClampNeg) (0 : Int32)
        refine (gB7_of e1 _).trans ?_
        refine (gChk_in c1 _).trans ?_
        refine (gChk_in c2 _).trans ?_
        refine (gChk_in c3 _).trans ?_
        refine (if_pos z).trans ?_
        unfold lw_b899
        refine (gB4_of e2 _).trans ?_
        refine (if_pos rfl).trans ?_
        exact ih (i + 5) _ hx5 (by omega) (by omega) fl (by omega) _ _ _ _ _ _ _ _ _ _ _ _ _ _ _ _ _ _ _ _ _ _ _ _ _ _ _ _ _ _ _ _ _ _ _ _ _ _ _ _ _ _ _ _ _ _ _ _ _ _ _ _ _ _ _ _ _ _ _ ⟨n, c, w, hS, hA, hL, hT, hE, rfl⟩
      · refine (if_neg z).trans ?_
        unfold lw_b872
        obtain ⟨r, tJ', tW', tf', ts', fa', fb', s', tr', e1, e2⟩ := st_papers (N := N) (th := y_gm_thrown) (sm := y_gm_some) (tJ := y_gx_trial_jars) (tW := y_gx_trial_weeks) (tf := y_gx_trial_cells) (tr := y_gm_trial) (ts := y_gx_trial_standing) (fa := y_gx_fraction_above) (fb := y_gx_fraction_below) hS hN (xs (x3 + (1 : Int32)).toNatClampNeg) (xs (x3 + (2 : Int32)).toNatClampNeg) (1 : Int32)
        refine (gB7_of e1 _).trans ?_
        refine (gChk_in c1 _).trans ?_
        refine (gChk_in c2 _).trans ?_
        refine (gChk_in c3 _).trans ?_
        refine (if_neg z).trans ?_
        unfold lw_b899
        refine (gB4_of e2 _).trans ?_
        refine (if_pos rfl).trans ?_
        exact ih (i + 5) _ hx5 (by omega) (by omega) fl (by omega) _ _ _ _ _ _ _ _ _ _ _ _ _ _ _ _ _ _ _ _ _ _ _ _ _ _ _ _ _ _ _ _ _ _ _ _ _ _ _ _ _ _ _ _ _ _ _ _ _ _ _ _ _ _ _ _ _ _ _ ⟨n, c, w, hS, hA, hL, hT, hE, rfl⟩
    refine (if_neg h).trans ?_
    clear h
    by_cases h : ((xs x3.toNatClampNeg) &&& (31 : Int32)) = (25 : Int32)
    · refine (if_pos h).trans ?_
      refine (gChk_in c1 _).trans ?_
      refine (gChk_in c2 _).trans ?_
      obtain ⟨r, s', e1, e2⟩ := st_seed y_gx_seedNow (((xs (x3 + (1 : Int32)).toNatClampNeg).toInt64 <<< ((32 : Int32).toInt64 &&& 63)) ||| ((xs (x3 + (2 : Int32)).toNatClampNeg).toInt64 &&& (4294967295 : Int64))) y_gm_thrown
      refine (gB2_of e1 _).trans ?_
      refine (gChk_in c1 _).trans ?_
      refine (gChk_in c2 _).trans ?_
      refine (gB3_of e2 _).trans ?_
      refine (if_pos ((lg_cmp_eq _ _).mpr rfl)).trans ?_
      exact ih (i + 5) _ hx5 (by omega) (by omega) fl (by omega) _ _ _ _ _ _ _ _ _ _ _ _ _ _ _ _ _ _ _ _ _ _ _ _ _ _ _ _ _ _ _ _ _ _ _ _ _ _ _ _ _ _ _ _ _ _ _ _ _ _ _ _ _ _ _ _ _ _ _ ⟨n, c, w, hS, hA, hL, hT, hE, rfl⟩
    refine (if_neg h).trans ?_
    clear h
    by_cases h : ((xs x3.toNatClampNeg) &&& (31 : Int32)) = (26 : Int32)
    · refine (if_pos h).trans ?_
      refine (gChk_in c1 _).trans ?_
      obtain ⟨r, S', tJ', tW', tf', s', tr', e1, e2⟩ := st_years (N := N) (th := y_gm_thrown) (sm := y_gm_some) (tJ := y_gx_trial_jars) (tW := y_gx_trial_weeks) (tf := y_gx_trial_cells) (tr := y_gm_trial) hS hN y_gx_seedNow (xs (x3 + (1 : Int32)).toNatClampNeg)
      refine (gB5_of e1 _).trans ?_
      refine (gChk_in c1 _).trans ?_
      refine (gB5_of e2 _).trans ?_
      refine (if_pos rfl).trans ?_
      exact ih (i + 5) _ hx5 (by omega) (by omega) fl (by omega) _ _ _ _ _ _ _ _ _ _ _ _ _ _ _ _ _ _ _ _ _ _ _ _ _ _ _ _ _ _ _ _ _ _ _ _ _ _ _ _ _ _ _ _ _ _ _ _ _ _ _ _ _ _ _ _ _ _ _ ⟨n, c, w, hS, hA, hL, hT, hE, rfl⟩
    refine (if_neg h).trans ?_
    clear h
    by_cases h : ((xs x3.toNatClampNeg) &&& (31 : Int32)) = (27 : Int32)
    · refine (if_pos h).trans ?_
      refine (gChk_in c1 _).trans ?_
      obtain ⟨r, rows', fil', kept', isK', e1, e2, s1⟩ := st_keep (N := N) (th := y_gm_thrown) hS hL hN (xs (x3 + (1 : Int32)).toNatClampNeg)
      refine (gB3_of e1 _).trans ?_
      refine (gChk_in c1 _).trans ?_
      refine (gB4_of e2 _).trans ?_
      refine (if_pos rfl).trans ?_
      exact ih (i + 5) _ hx5 (by omega) (by omega) fl (by omega) _ _ _ _ _ _ _ _ _ _ _ _ _ _ _ _ _ _ _ _ _ _ _ _ _ _ _ _ _ _ _ _ _ _ _ _ _ _ _ _ _ _ _ _ _ _ _ _ _ _ _ _ _ _ _ _ _ _ _ ⟨n, c, w, hS, hA, s1, hT, hE, rfl⟩
    refine (if_neg h).trans ?_
    clear h
    by_cases h : ((xs x3.toNatClampNeg) &&& (31 : Int32)) = (28 : Int32)
    · refine (if_pos h).trans ?_
      refine (gChk_in c1 _).trans ?_
      obtain ⟨r, W', f', cnt', acts', pg', c', w', e1, e2, s1, s2⟩ := st_again (N := N) (th := y_gm_thrown) hS hA hL hN (xs (x3 + (1 : Int32)).toNatClampNeg)
      refine (gB4_of e1 _).trans ?_
      refine (gChk_in c1 _).trans ?_
      refine (gB4_of e2 _).trans ?_
      refine (if_pos rfl).trans ?_
      exact ih (i + 5) _ hx5 (by omega) (by omega) fl (by omega) _ _ _ _ _ _ _ _ _ _ _ _ _ _ _ _ _ _ _ _ _ _ _ _ _ _ _ _ _ _ _ _ _ _ _ _ _ _ _ _ _ _ _ _ _ _ _ _ _ _ _ _ _ _ _ _ _ _ _ ⟨n, c', w', s1, s2, hL, hT, hE, rfl⟩
    refine (if_neg h).trans ?_
    clear h
    exact ih (i + 5) _ hx5 (by omega) (by omega) fl (by omega) _ _ _ _ _ _ _ _ _ _ _ _ _ _ _ _ _ _ _ _ _ _ _ _ _ _ _ _ _ _ _ _ _ _ _ _ _ _ _ _ _ _ _ _ _ _ _ _ _ _ _ _ _ _ _ _ _ _ _ ⟨n, c, w, hS, hA, hL, hT, hE, rfl⟩
