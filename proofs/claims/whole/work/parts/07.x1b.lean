set_option maxHeartbeats 4000000 in
set_option maxRecDepth 100000 in
theorem k1_read (l : Launch) (dC : Nat → ClassId) (dI : Nat → Nat → Nat) (h0 qa qb : Nat) (cI cZ : ClassId) (w : Nat → Int32) (h : Nat → Bool) (p1 : Int32) (p2 : Int32)  : Met l yX1_read wsX1_read ({ frames := 1, cells := 0, slots := 0, locals := 21 }) (va_Pc [.ref h0, .int (p1), .int (p2)] (fun U => va_P (dC, dI) vwCl (W1 h0 qa qb cI cZ w h) U.heap ∧ va_K (dC, dI) vwCl (TY cI cZ) U)) (vp_Si (fun r => r = s_read w p1 p2)) 0 0 (fun _ => False) := by
  refine Met.ofW (cc := cX1_read) (maxL := 3) (ret := (some .int)) (by decide) rfl ?_
  intro p e s m args below meth c s₁ B hml hv
  obtain ⟨rfl, hP, hK⟩ := hv
  have hx := B.exec
  have hb := B.bytes
  have hr := B.returns
  have hlocks := B.notSynchronized
  have hts := atoms_spec (ws := wsX1_read) B.pre
  have hown : s.vm.findClass RX1 = some m.cls := findClass_of_methodNamed B.named
  have hin0 : ∀ w ∈ wsX10, w ∈ wsX1_read := by decide +kernel
  have hf7 := hts (.fieldLink RX1 7 "PageMergerModel" "words" "[I") (by decide +kernel)
  have hl := lv_entry ([.ref h0, .int (p1), .int (p2)]) (n := 3) (Nat.le_of_ble_eq_true rfl)
  rw [lg_entry_eq]
  generalize (lg_sl ([.ref h0, .int (p1), .int (p2)]) ++ List.replicate (3 - (lg_sl ([.ref h0, .int (p1), .int (p2)])).length) Slot.unset).toArray = ls at hl ⊢
  have hl : lv_has ls 3 [(0, .ref h0), (1, .int (p1)), (2, .int (p2))] := hl
  refine lv_aload_n hx hb dX1_read_0 rfl (lv_at hl 0 rfl) ?_
  refine lv_iload_n hx hb dX1_read_1 rfl (lv_at hl 1 rfl) ?_
  refine vp_callSi (va_Run.run (va_runV (As := [.int (p1)]) (rest := []) ⟨hx, hb, hml, hown, hts⟩ (k1_isPage l h0 p1) (cwV 1 hts gX1_read_X1_isPage rfl rfl rfl (by decide +kernel) ⟨Nat.le_of_ble_eq_true rfl, Nat.le_of_ble_eq_true rfl⟩) ⟨bl_T, va_recv hK hP (ci := 1) (q0 := 0) rfl rfl, fun U hU hW => ⟨rfl, trivial⟩⟩ rfl rfl hl.1 rfl (lv_room (Nat.le_of_ble_eq_true rfl)) dX1_read_2 ⟨Nat.zero_le _, Nat.zero_le _⟩)) (fun r_2 hr_2 => ?_)
  obtain rfl : r_2 = (bI (okP 24 p1)) := hr_2
  refine lv_if_ne (tgt := 10) hx hb dX1_read_5 (by decide) (fun c_5 => ?_) (fun c_5 => ?_)
  · have hb_5 : (okP 24 p1) = true := bI_t c_5
    obtain ⟨j1, hj1, rfl⟩ := okP_of hb_5 (by decide)
    have hg_j1 : pg (nI j1) = j1 := pg_nI (by omega)
    refine lv_iload_n hx hb dX1_read_10 rfl (lv_at hl 2 rfl) ?_
    refine lv_if_lt (tgt := 19) hx hb dX1_read_11 (by decide) (fun c_11 => ?_) (fun c_11 => ?_)
    · have ho2 : okP 4 p2 = false := okP_neg c_11
      refine lv_bipush (v := (-2)) hx hb dX1_read_19 (by decide +kernel) ?_
      refine lv_goto (tgt := 34) hx hb dX1_read_21 (by decide) ?_
      have eR : (-2) = s_read w (nI j1) p2 := by simp [s_read, hb_5, hg_j1, ho2]
      exact W.iret (v := (-2)) hx hb hr (fun t ht hW => ⟨_, rfl, eR, ht⟩) (fun q h9 => absurd h9 List.not_mem_nil) dX1_read_34
    · refine lv_iload_n hx hb dX1_read_14 rfl (lv_at hl 2 rfl) ?_
      refine lv_iconst (v := (nI 3)) hx hb dX1_read_15 (by decide +kernel) ?_
      refine lv_icmp_le (tgt := 24) hx hb dX1_read_16 (by decide) (fun c_16 => ?_) (fun c_16 => ?_)
      · have ho2 : okP 4 p2 = true := okP_le (n := 3) (by decide) c_11 c_16
        obtain ⟨j2, hj2, rfl⟩ := okP_of ho2 (by decide)
        have hg_j2 : pg (nI j2) = j2 := pg_nI (by omega)
        refine lv_aload_n hx hb dX1_read_24 rfl (lv_at hl 0 rfl) ?_
        refine va_get (D := (dC, dI)) (ci := 1) (v := .ref qa) (C := RX1) (T := TX1) (N := 2) hx hb hts hin0 hown hK hP 0 rfl rfl 0 (by decide) hf7 (fun _ h9 => h9) rfl dX1_read_25 ?_
        refine lv_iload_n hx hb dX1_read_28 rfl (lv_at hl 1 rfl) ?_
        refine lv_iconst (v := (nI 4)) hx hb dX1_read_29 (by decide +kernel) ?_
        refine my_mul hx hb dX1_read_30 ?_
        refine lv_iload_n hx hb dX1_read_31 rfl (lv_at hl 2 rfl) ?_
        refine my_add hx hb dX1_read_32 ?_
        refine my_iald hx hb hK hP 1 0 rfl rfl (by omega) (by decide) dX1_read_33 ?_
        have eR : (w (j1 * 4 + j2)) = s_read w (nI j1) (nI j2) := by simp [s_read, hb_5, hg_j1, ho2, hg_j2]
        exact W.iret (v := (w (j1 * 4 + j2))) hx hb hr (fun t ht hW => ⟨_, rfl, eR, ht⟩) (fun q h9 => absurd h9 List.not_mem_nil) dX1_read_34
      · have ho2 : okP 4 p2 = false := okP_nle (n := 3) (by decide) c_16
        refine lv_bipush (v := (-2)) hx hb dX1_read_19 (by decide +kernel) ?_
        refine lv_goto (tgt := 34) hx hb dX1_read_21 (by decide) ?_
        have eR : (-2) = s_read w (nI j1) p2 := by simp [s_read, hb_5, hg_j1, ho2]
        exact W.iret (v := (-2)) hx hb hr (fun t ht hW => ⟨_, rfl, eR, ht⟩) (fun q h9 => absurd h9 List.not_mem_nil) dX1_read_34
  · have hb_5 : (okP 24 p1) = false := bI_f c_5
    refine lv_iconst (v := (-1)) hx hb dX1_read_8 (by decide +kernel) ?_
    have eR : (-1) = s_read w p1 p2 := by simp [s_read, hb_5]
    exact W.iret (v := (-1)) hx hb hr (fun t ht hW => ⟨_, rfl, eR, ht⟩) (fun q h9 => absurd h9 List.not_mem_nil) dX1_read_9
set_option maxHeartbeats 4000000 in
set_option maxRecDepth 100000 in
theorem k1_held (l : Launch) (dC : Nat → ClassId) (dI : Nat → Nat → Nat) (h0 qa qb : Nat) (cI cZ : ClassId) (w : Nat → Int32) (h : Nat → Bool) (p1 : Int32)  : Met l yX1_held wsX1_held ({ frames := 1, cells := 0, slots := 0, locals := 21 }) (va_Pc [.ref h0, .int (p1)] (fun U => va_P (dC, dI) vwCl (W1 h0 qa qb cI cZ w h) U.heap ∧ va_K (dC, dI) vwCl (TY cI cZ) U)) (vp_Si (fun r => r = bI (b_held h p1))) 0 0 (fun _ => False) := by
  refine Met.ofW (cc := cX1_held) (maxL := 2) (ret := (some .boolean)) (by decide) rfl ?_
  intro p e s m args below meth c s₁ B hml hv
  obtain ⟨rfl, hP, hK⟩ := hv
  have hx := B.exec
  have hb := B.bytes
  have hr := B.returns
  have hlocks := B.notSynchronized
  have hts := atoms_spec (ws := wsX1_held) B.pre
  have hown : s.vm.findClass RX1 = some m.cls := findClass_of_methodNamed B.named
  have hin0 : ∀ w ∈ wsX10, w ∈ wsX1_held := by decide +kernel
  have hf13 := hts (.fieldLink RX1 13 "PageMergerModel" "released" "[Z") (by decide +kernel)
  have hl := lv_entry ([.ref h0, .int (p1)]) (n := 2) (Nat.le_of_ble_eq_true rfl)
  rw [lg_entry_eq]
  generalize (lg_sl ([.ref h0, .int (p1)]) ++ List.replicate (2 - (lg_sl ([.ref h0, .int (p1)])).length) Slot.unset).toArray = ls at hl ⊢
  have hl : lv_has ls 2 [(0, .ref h0), (1, .int (p1))] := hl
  refine lv_aload_n hx hb dX1_held_0 rfl (lv_at hl 0 rfl) ?_
  refine lv_iload_n hx hb dX1_held_1 rfl (lv_at hl 1 rfl) ?_
  refine vp_callSi (va_Run.run (va_runV (As := [.int (p1)]) (rest := []) ⟨hx, hb, hml, hown, hts⟩ (k1_isPage l h0 p1) (cwV 1 hts gX1_held_X1_isPage rfl rfl rfl (by decide +kernel) ⟨Nat.le_of_ble_eq_true rfl, Nat.le_of_ble_eq_true rfl⟩) ⟨bl_T, va_recv hK hP (ci := 1) (q0 := 0) rfl rfl, fun U hU hW => ⟨rfl, trivial⟩⟩ rfl rfl hl.1 rfl (lv_room (Nat.le_of_ble_eq_true rfl)) dX1_held_2 ⟨Nat.zero_le _, Nat.zero_le _⟩)) (fun r_2 hr_2 => ?_)
  obtain rfl : r_2 = (bI (okP 24 p1)) := hr_2
  refine lv_if_eq (tgt := 21) hx hb dX1_held_5 (by decide) (fun c_5 => ?_) (fun c_5 => ?_)
  · have hb_5 : (okP 24 p1) = false := bI_f c_5
    refine lv_iconst (v := (nI 0)) hx hb dX1_held_21 (by decide +kernel) ?_
    have eR : (nI 0) = bI (b_held h p1) := by simp [b_held, hb_5, bI_1, bI_0]
    exact W.zret (v := (nI 0)) hx hb hr (by decide +kernel) (fun t ht hW => ⟨_, rfl, eR, ht⟩) (fun q h9 => absurd h9 List.not_mem_nil) dX1_held_22
  · have hb_5 : (okP 24 p1) = true := bI_t c_5
    obtain ⟨j1, hj1, rfl⟩ := okP_of hb_5 (by decide)
    have hg_j1 : pg (nI j1) = j1 := pg_nI (by omega)
    refine lv_aload_n hx hb dX1_held_8 rfl (lv_at hl 0 rfl) ?_
    refine va_get (D := (dC, dI)) (ci := 1) (v := .ref qb) (C := RX1) (T := TX1) (N := 2) hx hb hts hin0 hown hK hP 0 rfl rfl 1 (by decide) hf13 (fun _ h9 => h9) rfl dX1_held_9 ?_
    refine lv_iload_n hx hb dX1_held_12 rfl (lv_at hl 1 rfl) ?_
    refine my_zaldN hx hb hK hP 2 1 rfl rfl (by omega) (by decide) dX1_held_13 ?_
    refine lv_if_ne (tgt := 21) hx hb dX1_held_14 (by decide) (fun c_14 => ?_) (fun c_14 => ?_)
    · have hb_14 : (h j1) = false := bN_t c_14
      refine lv_iconst (v := (nI 0)) hx hb dX1_held_21 (by decide +kernel) ?_
      have eR : (nI 0) = bI (b_held h (nI j1)) := by simp [b_held, hb_5, hg_j1, hb_14, bI_1, bI_0]
      exact W.zret (v := (nI 0)) hx hb hr (by decide +kernel) (fun t ht hW => ⟨_, rfl, eR, ht⟩) (fun q h9 => absurd h9 List.not_mem_nil) dX1_held_22
    · have hb_14 : (h j1) = true := bN_f c_14
      refine lv_iconst (v := (nI 1)) hx hb dX1_held_17 (by decide +kernel) ?_
      refine lv_goto (tgt := 22) hx hb dX1_held_18 (by decide) ?_
      have eR : (nI 1) = bI (b_held h (nI j1)) := by simp [b_held, hb_5, hg_j1, hb_14, bI_1, bI_0]
      exact W.zret (v := (nI 1)) hx hb hr (by decide +kernel) (fun t ht hW => ⟨_, rfl, eR, ht⟩) (fun q h9 => absurd h9 List.not_mem_nil) dX1_held_22
set_option maxHeartbeats 4000000 in
set_option maxRecDepth 100000 in
theorem k1_same (l : Launch) (dC : Nat → ClassId) (dI : Nat → Nat → Nat) (h0 qa qb : Nat) (cI cZ : ClassId) (w : Nat → Int32) (h : Nat → Bool) (p1 : Int32) (p2 : Int32)  : Met l yX1_same wsX1_same ({ frames := 1, cells := 0, slots := 0, locals := 21 }) (va_Pc [.ref h0, .int (p1), .int (p2)] (fun U => va_P (dC, dI) vwCl (W1 h0 qa qb cI cZ w h) U.heap ∧ va_K (dC, dI) vwCl (TY cI cZ) U)) (vp_Si (fun r => r = bI (b_same w p1 p2))) 0 0 (fun _ => False) := by
  refine Met.ofW (cc := cX1_same) (maxL := 4) (ret := (some .boolean)) (by decide) rfl ?_
  intro p e s m args below meth c s₁ B hml hv
  obtain ⟨rfl, hP, hK⟩ := hv
  have hx := B.exec
  have hb := B.bytes
  have hr := B.returns
  have hlocks := B.notSynchronized
  have hts := atoms_spec (ws := wsX1_same) B.pre
  have hown : s.vm.findClass RX1 = some m.cls := findClass_of_methodNamed B.named
  have hin0 : ∀ w ∈ wsX10, w ∈ wsX1_same := by decide +kernel
  have hf7 := hts (.fieldLink RX1 7 "PageMergerModel" "words" "[I") (by decide +kernel)
  have hl := lv_entry ([.ref h0, .int (p1), .int (p2)]) (n := 4) (Nat.le_of_ble_eq_true rfl)
  rw [lg_entry_eq]
  generalize (lg_sl ([.ref h0, .int (p1), .int (p2)]) ++ List.replicate (4 - (lg_sl ([.ref h0, .int (p1), .int (p2)])).length) Slot.unset).toArray = ls at hl ⊢
  have hl : lv_has ls 4 [(0, .ref h0), (1, .int (p1)), (2, .int (p2))] := hl
  refine lv_aload_n hx hb dX1_same_0 rfl (lv_at hl 0 rfl) ?_
  refine lv_iload_n hx hb dX1_same_1 rfl (lv_at hl 1 rfl) ?_
  refine vp_callSi (va_Run.run (va_runV (As := [.int (p1)]) (rest := []) ⟨hx, hb, hml, hown, hts⟩ (k1_isPage l h0 p1) (cwV 1 hts gX1_same_X1_isPage rfl rfl rfl (by decide +kernel) ⟨Nat.le_of_ble_eq_true rfl, Nat.le_of_ble_eq_true rfl⟩) ⟨bl_T, va_recv hK hP (ci := 1) (q0 := 0) rfl rfl, fun U hU hW => ⟨rfl, trivial⟩⟩ rfl rfl hl.1 rfl (lv_room (Nat.le_of_ble_eq_true rfl)) dX1_same_2 ⟨Nat.zero_le _, Nat.zero_le _⟩)) (fun r_2 hr_2 => ?_)
  obtain rfl : r_2 = (bI (okP 24 p1)) := hr_2
  refine lv_if_eq (tgt := 16) hx hb dX1_same_5 (by decide) (fun c_5 => ?_) (fun c_5 => ?_)
  · have hb_5 : (okP 24 p1) = false := bI_f c_5
    refine lv_iconst (v := (nI 0)) hx hb dX1_same_16 (by decide +kernel) ?_
    have eR : (nI 0) = bI (b_same w p1 p2) := by simp [b_same, hb_5, bI_1, bI_0]
    exact W.zret (v := (nI 0)) hx hb hr (by decide +kernel) (fun t ht hW => ⟨_, rfl, eR, ht⟩) (fun q h9 => absurd h9 List.not_mem_nil) dX1_same_17
  · have hb_5 : (okP 24 p1) = true := bI_t c_5
    obtain ⟨j1, hj1, rfl⟩ := okP_of hb_5 (by decide)
    have hg_j1 : pg (nI j1) = j1 := pg_nI (by omega)
    refine lv_aload_n hx hb dX1_same_8 rfl (lv_at hl 0 rfl) ?_
    refine lv_iload_n hx hb dX1_same_9 rfl (lv_at hl 2 rfl) ?_
    refine vp_callSi (va_Run.run (va_runV (As := [.int (p2)]) (rest := []) ⟨hx, hb, hml, hown, hts⟩ (k1_isPage l h0 p2) (cwV 1 hts gX1_same_X1_isPage rfl rfl rfl (by decide +kernel) ⟨Nat.le_of_ble_eq_true rfl, Nat.le_of_ble_eq_true rfl⟩) ⟨bl_T, va_recv hK hP (ci := 1) (q0 := 0) rfl rfl, fun U hU hW => ⟨rfl, trivial⟩⟩ rfl rfl hl.1 rfl (lv_room (Nat.le_of_ble_eq_true rfl)) dX1_same_10 ⟨Nat.zero_le _, Nat.zero_le _⟩)) (fun r_10 hr_10 => ?_)
    obtain rfl : r_10 = (bI (okP 24 p2)) := hr_10
    refine lv_if_ne (tgt := 18) hx hb dX1_same_13 (by decide) (fun c_13 => ?_) (fun c_13 => ?_)
    · have hb_13 : (okP 24 p2) = true := bI_t c_13
      obtain ⟨j2, hj2, rfl⟩ := okP_of hb_13 (by decide)
      have hg_j2 : pg (nI j2) = j2 := pg_nI (by omega)
      refine lv_iconst (v := (nI 0)) hx hb dX1_same_18 (by decide +kernel) ?_
      refine lv_istore_n (lv' := [(3, .int (nI 0)), (0, .ref h0), (1, .int (nI j1)), (2, .int (nI j2))]) hx hb dX1_same_19 rfl hl (by decide) rfl (fun ls hl => ?_)
      refine lp_P 20 4 (fun i20 ls => lv_has ls 4 [(3, .int (nI i20)), (0, .ref h0), (1, .int (nI j1)), (2, .int (nI j2))] ∧ ∀ k, k < i20 → w (j1 * 4 + k) = w (j2 * 4 + k)) (fun i20 ls hi_20 hI hnx_20 => ?_) 0 (by omega) ls ⟨lv_sub hl [0, 1, 2, 3] rfl, (fun k hk => absurd hk (Nat.not_lt_zero k))⟩
      obtain ⟨hl, hinv_20⟩ := hI
      refine lv_iload_n hx hb dX1_same_20 rfl (lv_at hl 0 rfl) ?_
      refine lv_iconst (v := (nI 4)) hx hb dX1_same_21 (by decide +kernel) ?_
      refine lv_icmp_ge (tgt := 56) hx hb dX1_same_22 (by decide) (fun c_22 => ?_) (fun c_22 => ?_)
      · have hq_22 : 4 ≤ i20 := (nI_leI (by omega) (by omega)).mp c_22
        have hE_22 : i20 = 4 := by omega
        subst hE_22
        refine lv_iconst (v := (nI 1)) hx hb dX1_same_56 (by decide +kernel) ?_
        have eR : (nI 1) = bI (b_same w (nI j1) (nI j2)) := by simp [b_same, hb_5, hb_13, hg_j1, hg_j2, sm_t hinv_20, bI_1]
        exact W.zret (v := (nI 1)) hx hb hr (by decide +kernel) (fun t ht hW => ⟨_, rfl, eR, ht⟩) (fun q h9 => absurd h9 List.not_mem_nil) dX1_same_57
      · have hlt_20 : i20 < 4 := Nat.lt_of_not_le (fun q => c_22 ((nI_leI (by omega) (by omega)).mpr q))
        refine lv_aload_n hx hb dX1_same_25 rfl (lv_at hl 1 rfl) ?_
        refine va_get (D := (dC, dI)) (ci := 1) (v := .ref qa) (C := RX1) (T := TX1) (N := 2) hx hb hts hin0 hown hK hP 0 rfl rfl 0 (by decide) hf7 (fun _ h9 => h9) rfl dX1_same_26 ?_
        refine lv_iload_n hx hb dX1_same_29 rfl (lv_at hl 2 rfl) ?_
        refine lv_iconst (v := (nI 4)) hx hb dX1_same_30 (by decide +kernel) ?_
        refine my_mul hx hb dX1_same_31 ?_
        refine lv_iload_n hx hb dX1_same_32 rfl (lv_at hl 0 rfl) ?_
        refine my_add hx hb dX1_same_33 ?_
        refine my_iald hx hb hK hP 1 0 rfl rfl (by omega) (by decide) dX1_same_34 ?_
        refine lv_aload_n hx hb dX1_same_35 rfl (lv_at hl 1 rfl) ?_
        refine va_get (D := (dC, dI)) (ci := 1) (v := .ref qa) (C := RX1) (T := TX1) (N := 2) hx hb hts hin0 hown hK hP 0 rfl rfl 0 (by decide) hf7 (fun _ h9 => h9) rfl dX1_same_36 ?_
        refine lv_iload_n hx hb dX1_same_39 rfl (lv_at hl 3 rfl) ?_
        refine lv_iconst (v := (nI 4)) hx hb dX1_same_40 (by decide +kernel) ?_
        refine my_mul hx hb dX1_same_41 ?_
        refine lv_iload_n hx hb dX1_same_42 rfl (lv_at hl 0 rfl) ?_
        refine my_add hx hb dX1_same_43 ?_
        refine my_iald hx hb hK hP 1 0 rfl rfl (by omega) (by decide) dX1_same_44 ?_
        refine lv_icmp_eq (tgt := 50) hx hb dX1_same_45 (by decide) (fun c_45 => ?_) (fun c_45 => ?_)
        · refine lv_iinc (v := (nI (i20 + 1))) (lv' := [(3, .int (nI (i20 + 1))), (0, .ref h0), (1, .int (nI j1)), (2, .int (nI j2))]) hx hb dX1_same_50 hl (k := 0) rfl (nI_1 _) (by decide) rfl (fun ls hl => ?_)
          refine lv_goto (tgt := 20) hx hb dX1_same_53 (by decide) ?_
          exact hnx_20 hlt_20 ls ⟨lv_sub hl [0, 1, 2, 3] rfl, (fun k hk => if q : k < i20 then hinv_20 k q else by (have e : k = i20 := by omega); subst e; exact c_45)⟩
        · refine lv_iconst (v := (nI 0)) hx hb dX1_same_48 (by decide +kernel) ?_
          have eR : (nI 0) = bI (b_same w (nI j1) (nI j2)) := by simp [b_same, hb_5, hb_13, hg_j1, hg_j2, sm_f hlt_20 c_45, bI_0]
          exact W.zret (v := (nI 0)) hx hb hr (by decide +kernel) (fun t ht hW => ⟨_, rfl, eR, ht⟩) (fun q h9 => absurd h9 List.not_mem_nil) dX1_same_49
    · have hb_13 : (okP 24 p2) = false := bI_f c_13
      refine lv_iconst (v := (nI 0)) hx hb dX1_same_16 (by decide +kernel) ?_
      have eR : (nI 0) = bI (b_same w (nI j1) p2) := by simp [b_same, hb_5, hg_j1, hb_13, bI_1, bI_0]
      exact W.zret (v := (nI 0)) hx hb hr (by decide +kernel) (fun t ht hW => ⟨_, rfl, eR, ht⟩) (fun q h9 => absurd h9 List.not_mem_nil) dX1_same_17
set_option maxHeartbeats 4000000 in
set_option maxRecDepth 100000 in
theorem k1_again (l : Launch) (dC : Nat → ClassId) (dI : Nat → Nat → Nat) (h0 qa qb : Nat) (cI cZ : ClassId) (w : Nat → Int32) (h : Nat → Bool) (a : Nat) (ha : a < 24) : Met l yX1_again wsX1_again ({ frames := 2, cells := 0, slots := 0, locals := 44 }) (va_Pc [.ref h0, .int (nI a)] (fun U => va_P (dC, dI) vwCl (W1 h0 qa qb cI cZ w h) U.heap ∧ va_K (dC, dI) vwCl (TY cI cZ) U)) (vp_Si (fun r => r = bI (rep w h a))) 0 0 (fun _ => False) := by
  refine Met.ofW (cc := cX1_again) (maxL := 3) (ret := (some .boolean)) (by decide) rfl ?_
  intro p e s m args below meth c s₁ B hml hv
  obtain ⟨rfl, hP, hK⟩ := hv
  have hx := B.exec
  have hb := B.bytes
  have hr := B.returns
  have hlocks := B.notSynchronized
  have hts := atoms_spec (ws := wsX1_again) B.pre
  have hown : s.vm.findClass RX1 = some m.cls := findClass_of_methodNamed B.named
  have hl := lv_entry ([.ref h0, .int (nI a)]) (n := 3) (Nat.le_of_ble_eq_true rfl)
  rw [lg_entry_eq]
  generalize (lg_sl ([.ref h0, .int (nI a)]) ++ List.replicate (3 - (lg_sl ([.ref h0, .int (nI a)])).length) Slot.unset).toArray = ls at hl ⊢
  have hl : lv_has ls 3 [(0, .ref h0), (1, .int (nI a))] := hl
  refine lv_iconst (v := (nI 0)) hx hb dX1_again_0 (by decide +kernel) ?_
  refine lv_istore_n (lv' := [(2, .int (nI 0)), (0, .ref h0), (1, .int (nI a))]) hx hb dX1_again_1 rfl hl (by decide) rfl (fun ls hl => ?_)
  refine lp_P 2 a (fun i2 ls => lv_has ls 3 [(2, .int (nI i2)), (0, .ref h0), (1, .int (nI a))] ∧ ∀ k, k < i2 → (h k && sm w k a) = false) (fun i2 ls hi_2 hI hnx_2 => ?_) 0 (by omega) ls ⟨lv_sub hl [0, 1, 2] rfl, (fun k hk => absurd hk (Nat.not_lt_zero k))⟩
  obtain ⟨hl, hinv_2⟩ := hI
  refine lv_iload_n hx hb dX1_again_2 rfl (lv_at hl 0 rfl) ?_
  refine lv_iload_n hx hb dX1_again_3 rfl (lv_at hl 2 rfl) ?_
  refine lv_icmp_ge (tgt := 32) hx hb dX1_again_4 (by decide) (fun c_4 => ?_) (fun c_4 => ?_)
  · have hq_4 : a ≤ i2 := (nI_leI (by omega) (by omega)).mp c_4
    have hE_4 : i2 = a := by omega
    refine lv_iconst (v := (nI 0)) hx hb dX1_again_32 (by decide +kernel) ?_
    have eR : (nI 0) = bI (rep w h a) := by rw [rep_f (fun k hk => hinv_2 k (by omega))]; exact bI_0
    exact W.zret (v := (nI 0)) hx hb hr (by decide +kernel) (fun t ht hW => ⟨_, rfl, eR, ht⟩) (fun q h9 => absurd h9 List.not_mem_nil) dX1_again_33
  · have hlt_2 : i2 < a := Nat.lt_of_not_le (fun q => c_4 ((nI_leI (by omega) (by omega)).mpr q))
    refine lv_aload_n hx hb dX1_again_7 rfl (lv_at hl 1 rfl) ?_
    refine lv_iload_n hx hb dX1_again_8 rfl (lv_at hl 0 rfl) ?_
    refine vp_callSi (va_Run.run (va_runV (As := [.int (nI i2)]) (rest := []) ⟨hx, hb, hml, hown, hts⟩ (k1_held l dC dI h0 qa qb cI cZ w h (nI i2)) (cwV 1 hts gX1_again_X1_held rfl rfl rfl (by decide +kernel) ⟨Nat.le_of_ble_eq_true rfl, Nat.le_of_ble_eq_true rfl⟩) ⟨bl_P, va_recv hK hP (ci := 1) (q0 := 0) rfl rfl, fun U hU hW => ⟨rfl, by rw [hU]; exact hP, va_K.moved hW.alike hK⟩⟩ rfl rfl hl.1 rfl (lv_room (Nat.le_of_ble_eq_true rfl)) dX1_again_9 ⟨Nat.zero_le _, Nat.zero_le _⟩)) (fun r_9 hr_9 => ?_)
    obtain rfl : r_9 = (bI (h i2)) := hr_9.trans (by simp [b_held, okP_nI (show i2 < 24 by omega) (by decide), pg_nI (show i2 < 2 ^ 31 by omega)])
    refine lv_if_eq (tgt := 26) hx hb dX1_again_12 (by decide) (fun c_12 => ?_) (fun c_12 => ?_)
    · have hb_12 : (h i2) = false := bI_f c_12
      refine lv_iinc (v := (nI (i2 + 1))) (lv' := [(2, .int (nI (i2 + 1))), (0, .ref h0), (1, .int (nI a))]) hx hb dX1_again_26 hl (k := 0) rfl (nI_1 _) (by decide) rfl (fun ls hl => ?_)
      refine lv_goto (tgt := 2) hx hb dX1_again_29 (by decide) ?_
      exact hnx_2 hlt_2 ls ⟨lv_sub hl [0, 1, 2] rfl, (fun k hk => if q : k < i2 then hinv_2 k q else by (have e : k = i2 := by omega); subst e; simp [hb_12])⟩
    · have hb_12 : (h i2) = true := bI_t c_12
      refine lv_aload_n hx hb dX1_again_15 rfl (lv_at hl 1 rfl) ?_
      refine lv_iload_n hx hb dX1_again_16 rfl (lv_at hl 0 rfl) ?_
      refine lv_iload_n hx hb dX1_again_17 rfl (lv_at hl 2 rfl) ?_
      refine vp_callSi (va_Run.run (va_runV (As := [.int (nI i2), .int (nI a)]) (rest := []) ⟨hx, hb, hml, hown, hts⟩ (k1_same l dC dI h0 qa qb cI cZ w h (nI i2) (nI a)) (cwV 2 hts gX1_again_X1_same rfl rfl rfl (by decide +kernel) ⟨Nat.le_of_ble_eq_true rfl, Nat.le_of_ble_eq_true rfl⟩) ⟨bl_P, va_recv hK hP (ci := 1) (q0 := 0) rfl rfl, fun U hU hW => ⟨rfl, by rw [hU]; exact hP, va_K.moved hW.alike hK⟩⟩ rfl rfl hl.1 rfl (lv_room (Nat.le_of_ble_eq_true rfl)) dX1_again_18 ⟨Nat.zero_le _, Nat.zero_le _⟩)) (fun r_18 hr_18 => ?_)
      obtain rfl : r_18 = (bI (sm w i2 a)) := hr_18.trans (by simp [b_same, okP_nI (show i2 < 24 by omega) (by decide), pg_nI (show i2 < 2 ^ 31 by omega), okP_nI ha (by decide), pg_nI (show a < 2 ^ 31 by omega)])
      refine lv_if_eq (tgt := 26) hx hb dX1_again_21 (by decide) (fun c_21 => ?_) (fun c_21 => ?_)
      · have hb_21 : (sm w i2 a) = false := bI_f c_21
        refine lv_iinc (v := (nI (i2 + 1))) (lv' := [(2, .int (nI (i2 + 1))), (0, .ref h0), (1, .int (nI a))]) hx hb dX1_again_26 hl (k := 0) rfl (nI_1 _) (by decide) rfl (fun ls hl => ?_)
        refine lv_goto (tgt := 2) hx hb dX1_again_29 (by decide) ?_
        exact hnx_2 hlt_2 ls ⟨lv_sub hl [0, 1, 2] rfl, (fun k hk => if q : k < i2 then hinv_2 k q else by (have e : k = i2 := by omega); subst e; simp [hb_12, hb_21])⟩
      · have hb_21 : (sm w i2 a) = true := bI_t c_21
        refine lv_iconst (v := (nI 1)) hx hb dX1_again_24 (by decide +kernel) ?_
        have eR : (nI 1) = bI (rep w h a) := by rw [rep_t hlt_2 hb_12 hb_21]; exact bI_1
        exact W.zret (v := (nI 1)) hx hb hr (by decide +kernel) (fun t ht hW => ⟨_, rfl, eR, ht⟩) (fun q h9 => absurd h9 List.not_mem_nil) dX1_again_25
set_option maxHeartbeats 4000000 in
set_option maxRecDepth 100000 in
theorem k1_contents (l : Launch) (dC : Nat → ClassId) (dI : Nat → Nat → Nat) (h0 qa qb : Nat) (cI cZ : ClassId) (w : Nat → Int32) (h : Nat → Bool)   : Met l yX1_contents wsX1_contents ({ frames := 3, cells := 0, slots := 0, locals := 66 }) (va_Pc [.ref h0] (fun U => va_P (dC, dI) vwCl (W1 h0 qa qb cI cZ w h) U.heap ∧ va_K (dC, dI) vwCl (TY cI cZ) U)) (vp_Si (fun r => r = cnt (f_con w h) 24)) 0 0 (fun _ => False) := by
  refine Met.ofW (cc := cX1_contents) (maxL := 3) (ret := (some .int)) (by decide) rfl ?_
  intro p e s m args below meth c s₁ B hml hv
  obtain ⟨rfl, hP, hK⟩ := hv
  have hx := B.exec
  have hb := B.bytes
  have hr := B.returns
  have hlocks := B.notSynchronized
  have hts := atoms_spec (ws := wsX1_contents) B.pre
  have hown : s.vm.findClass RX1 = some m.cls := findClass_of_methodNamed B.named
  have hl := lv_entry ([.ref h0]) (n := 3) (Nat.le_of_ble_eq_true rfl)
  rw [lg_entry_eq]
  generalize (lg_sl ([.ref h0]) ++ List.replicate (3 - (lg_sl ([.ref h0])).length) Slot.unset).toArray = ls at hl ⊢
  have hl : lv_has ls 3 [(0, .ref h0)] := hl
  refine lv_iconst (v := (nI 0)) hx hb dX1_contents_0 (by decide +kernel) ?_
  refine lv_istore_n (lv' := [(1, .int (nI 0)), (0, .ref h0)]) hx hb dX1_contents_1 rfl hl (by decide) rfl (fun ls hl => ?_)
  refine lv_iconst (v := (nI 0)) hx hb dX1_contents_2 (by decide +kernel) ?_
  refine lv_istore_n (lv' := [(2, .int (nI 0)), (1, .int (nI 0)), (0, .ref h0)]) hx hb dX1_contents_3 rfl hl (by decide) rfl (fun ls hl => ?_)
  refine lp_P 4 24 (fun i4 ls => lv_has ls 3 [(2, .int (nI i4)), (1, .int (cnt (f_con w h) i4)), (0, .ref h0)]) (fun i4 ls hi_4 hI hnx_4 => ?_) 0 (by omega) ls (lv_sub hl [0, 1, 2] rfl)
  have hl := hI
  refine lv_iload_n hx hb dX1_contents_4 rfl (lv_at hl 0 rfl) ?_
  refine lv_bipush (v := (nI 24)) hx hb dX1_contents_5 (by decide +kernel) ?_
  refine lv_icmp_ge (tgt := 35) hx hb dX1_contents_7 (by decide) (fun c_7 => ?_) (fun c_7 => ?_)
  · have hq_7 : 24 ≤ i4 := (nI_leI (by omega) (by omega)).mp c_7
    have hE_7 : i4 = 24 := by omega
    subst hE_7
    refine lv_iload_n hx hb dX1_contents_35 rfl (lv_at hl 1 rfl) ?_
    have eR : (cnt (f_con w h) 24) = cnt (f_con w h) 24 := by simp []
    exact W.iret (v := (cnt (f_con w h) 24)) hx hb hr (fun t ht hW => ⟨_, rfl, eR, ht⟩) (fun q h9 => absurd h9 List.not_mem_nil) dX1_contents_36
  · have hlt_4 : i4 < 24 := Nat.lt_of_not_le (fun q => c_7 ((nI_leI (by omega) (by omega)).mpr q))
    refine lv_aload_n hx hb dX1_contents_10 rfl (lv_at hl 2 rfl) ?_
    refine lv_iload_n hx hb dX1_contents_11 rfl (lv_at hl 0 rfl) ?_
    refine vp_callSi (va_Run.run (va_runV (As := [.int (nI i4)]) (rest := []) ⟨hx, hb, hml, hown, hts⟩ (k1_held l dC dI h0 qa qb cI cZ w h (nI i4)) (cwV 1 hts gX1_contents_X1_held rfl rfl rfl (by decide +kernel) ⟨Nat.le_of_ble_eq_true rfl, Nat.le_of_ble_eq_true rfl⟩) ⟨bl_P, va_recv hK hP (ci := 1) (q0 := 0) rfl rfl, fun U hU hW => ⟨rfl, by rw [hU]; exact hP, va_K.moved hW.alike hK⟩⟩ rfl rfl hl.1 rfl (lv_room (Nat.le_of_ble_eq_true rfl)) dX1_contents_12 ⟨Nat.zero_le _, Nat.zero_le _⟩)) (fun r_12 hr_12 => ?_)
    obtain rfl : r_12 = (bI (h i4)) := hr_12.trans (by simp [b_held, okP_nI (show i4 < 24 by omega) (by decide), pg_nI (show i4 < 2 ^ 31 by omega)])
    refine lv_if_eq (tgt := 29) hx hb dX1_contents_15 (by decide) (fun c_15 => ?_) (fun c_15 => ?_)
    · have hb_15 : (h i4) = false := bI_f c_15
      refine lv_iinc (v := (nI (i4 + 1))) (lv' := [(2, .int (nI (i4 + 1))), (1, .int (cnt (f_con w h) i4)), (0, .ref h0)]) hx hb dX1_contents_29 hl (k := 0) rfl (nI_1 _) (by decide) rfl (fun ls hl => ?_)
      refine lv_goto (tgt := 4) hx hb dX1_contents_32 (by decide) ?_
      exact hnx_4 hlt_4 ls (by rw [show (cnt (f_con w h) (i4 + 1)) = (cnt (f_con w h) i4) from cnt_n (by simp [f_con, hb_15])]; exact lv_sub hl [0, 1, 2] rfl)
    · have hb_15 : (h i4) = true := bI_t c_15
      refine lv_aload_n hx hb dX1_contents_18 rfl (lv_at hl 2 rfl) ?_
      refine lv_iload_n hx hb dX1_contents_19 rfl (lv_at hl 0 rfl) ?_
      refine vp_callSi (va_Run.run (va_runV (As := [.int (nI i4)]) (rest := []) ⟨hx, hb, hml, hown, hts⟩ (k1_again l dC dI h0 qa qb cI cZ w h i4 (by omega)) (cwV 1 hts gX1_contents_X1_again rfl rfl rfl (by decide +kernel) ⟨Nat.le_of_ble_eq_true rfl, Nat.le_of_ble_eq_true rfl⟩) ⟨bl_P, va_recv hK hP (ci := 1) (q0 := 0) rfl rfl, fun U hU hW => ⟨rfl, by rw [hU]; exact hP, va_K.moved hW.alike hK⟩⟩ rfl rfl hl.1 rfl (lv_room (Nat.le_of_ble_eq_true rfl)) dX1_contents_20 ⟨Nat.zero_le _, Nat.zero_le _⟩)) (fun r_20 hr_20 => ?_)
      obtain rfl : r_20 = (bI (rep w h i4)) := hr_20
      refine lv_if_ne (tgt := 29) hx hb dX1_contents_23 (by decide) (fun c_23 => ?_) (fun c_23 => ?_)
      · have hb_23 : (rep w h i4) = true := bI_t c_23
        refine lv_iinc (v := (nI (i4 + 1))) (lv' := [(2, .int (nI (i4 + 1))), (1, .int (cnt (f_con w h) i4)), (0, .ref h0)]) hx hb dX1_contents_29 hl (k := 0) rfl (nI_1 _) (by decide) rfl (fun ls hl => ?_)
        refine lv_goto (tgt := 4) hx hb dX1_contents_32 (by decide) ?_
        exact hnx_4 hlt_4 ls (by rw [show (cnt (f_con w h) (i4 + 1)) = (cnt (f_con w h) i4) from cnt_n (by simp [f_con, hb_15, hb_23])]; exact lv_sub hl [0, 1, 2] rfl)
      · have hb_23 : (rep w h i4) = false := bI_f c_23
        refine lv_iinc (v := (cnt (f_con w h) i4 + 1)) (lv' := [(1, .int (cnt (f_con w h) i4 + 1)), (2, .int (nI i4)), (0, .ref h0)]) hx hb dX1_contents_26 hl (k := 1) rfl rfl (by decide) rfl (fun ls hl => ?_)
        refine lv_iinc (v := (nI (i4 + 1))) (lv' := [(2, .int (nI (i4 + 1))), (1, .int (cnt (f_con w h) i4 + 1)), (0, .ref h0)]) hx hb dX1_contents_29 hl (k := 1) rfl (nI_1 _) (by decide) rfl (fun ls hl => ?_)
        refine lv_goto (tgt := 4) hx hb dX1_contents_32 (by decide) ?_
        exact hnx_4 hlt_4 ls (by rw [show (cnt (f_con w h) (i4 + 1)) = (cnt (f_con w h) i4 + 1) from cnt_y (by simp [f_con, hb_15, hb_23])]; exact lv_sub hl [0, 1, 2] rfl)
set_option maxHeartbeats 4000000 in
set_option maxRecDepth 100000 in
theorem k1_duplicates (l : Launch) (dC : Nat → ClassId) (dI : Nat → Nat → Nat) (h0 qa qb : Nat) (cI cZ : ClassId) (w : Nat → Int32) (h : Nat → Bool)   : Met l yX1_duplicates wsX1_duplicates ({ frames := 3, cells := 0, slots := 0, locals := 66 }) (va_Pc [.ref h0] (fun U => va_P (dC, dI) vwCl (W1 h0 qa qb cI cZ w h) U.heap ∧ va_K (dC, dI) vwCl (TY cI cZ) U)) (vp_Si (fun r => r = cnt (f_dup w h) 24)) 0 0 (fun _ => False) := by
  refine Met.ofW (cc := cX1_duplicates) (maxL := 3) (ret := (some .int)) (by decide) rfl ?_
  intro p e s m args below meth c s₁ B hml hv
  obtain ⟨rfl, hP, hK⟩ := hv
  have hx := B.exec
  have hb := B.bytes
  have hr := B.returns
  have hlocks := B.notSynchronized
  have hts := atoms_spec (ws := wsX1_duplicates) B.pre
  have hown : s.vm.findClass RX1 = some m.cls := findClass_of_methodNamed B.named
  have hl := lv_entry ([.ref h0]) (n := 3) (Nat.le_of_ble_eq_true rfl)
  rw [lg_entry_eq]
  generalize (lg_sl ([.ref h0]) ++ List.replicate (3 - (lg_sl ([.ref h0])).length) Slot.unset).toArray = ls at hl ⊢
  have hl : lv_has ls 3 [(0, .ref h0)] := hl
  refine lv_iconst (v := (nI 0)) hx hb dX1_duplicates_0 (by decide +kernel) ?_
  refine lv_istore_n (lv' := [(1, .int (nI 0)), (0, .ref h0)]) hx hb dX1_duplicates_1 rfl hl (by decide) rfl (fun ls hl => ?_)
  refine lv_iconst (v := (nI 0)) hx hb dX1_duplicates_2 (by decide +kernel) ?_
  refine lv_istore_n (lv' := [(2, .int (nI 0)), (1, .int (nI 0)), (0, .ref h0)]) hx hb dX1_duplicates_3 rfl hl (by decide) rfl (fun ls hl => ?_)
  refine lp_P 4 24 (fun i4 ls => lv_has ls 3 [(2, .int (nI i4)), (1, .int (cnt (f_dup w h) i4)), (0, .ref h0)]) (fun i4 ls hi_4 hI hnx_4 => ?_) 0 (by omega) ls (lv_sub hl [0, 1, 2] rfl)
  have hl := hI
  refine lv_iload_n hx hb dX1_duplicates_4 rfl (lv_at hl 0 rfl) ?_
  refine lv_bipush (v := (nI 24)) hx hb dX1_duplicates_5 (by decide +kernel) ?_
  refine lv_icmp_ge (tgt := 35) hx hb dX1_duplicates_7 (by decide) (fun c_7 => ?_) (fun c_7 => ?_)
  · have hq_7 : 24 ≤ i4 := (nI_leI (by omega) (by omega)).mp c_7
    have hE_7 : i4 = 24 := by omega
    subst hE_7
    refine lv_iload_n hx hb dX1_duplicates_35 rfl (lv_at hl 1 rfl) ?_
    have eR : (cnt (f_dup w h) 24) = cnt (f_dup w h) 24 := by simp []
    exact W.iret (v := (cnt (f_dup w h) 24)) hx hb hr (fun t ht hW => ⟨_, rfl, eR, ht⟩) (fun q h9 => absurd h9 List.not_mem_nil) dX1_duplicates_36
  · have hlt_4 : i4 < 24 := Nat.lt_of_not_le (fun q => c_7 ((nI_leI (by omega) (by omega)).mpr q))
    refine lv_aload_n hx hb dX1_duplicates_10 rfl (lv_at hl 2 rfl) ?_
    refine lv_iload_n hx hb dX1_duplicates_11 rfl (lv_at hl 0 rfl) ?_
    refine vp_callSi (va_Run.run (va_runV (As := [.int (nI i4)]) (rest := []) ⟨hx, hb, hml, hown, hts⟩ (k1_held l dC dI h0 qa qb cI cZ w h (nI i4)) (cwV 1 hts gX1_duplicates_X1_held rfl rfl rfl (by decide +kernel) ⟨Nat.le_of_ble_eq_true rfl, Nat.le_of_ble_eq_true rfl⟩) ⟨bl_P, va_recv hK hP (ci := 1) (q0 := 0) rfl rfl, fun U hU hW => ⟨rfl, by rw [hU]; exact hP, va_K.moved hW.alike hK⟩⟩ rfl rfl hl.1 rfl (lv_room (Nat.le_of_ble_eq_true rfl)) dX1_duplicates_12 ⟨Nat.zero_le _, Nat.zero_le _⟩)) (fun r_12 hr_12 => ?_)
    obtain rfl : r_12 = (bI (h i4)) := hr_12.trans (by simp [b_held, okP_nI (show i4 < 24 by omega) (by decide), pg_nI (show i4 < 2 ^ 31 by omega)])
    refine lv_if_eq (tgt := 29) hx hb dX1_duplicates_15 (by decide) (fun c_15 => ?_) (fun c_15 => ?_)
    · have hb_15 : (h i4) = false := bI_f c_15
      refine lv_iinc (v := (nI (i4 + 1))) (lv' := [(2, .int (nI (i4 + 1))), (1, .int (cnt (f_dup w h) i4)), (0, .ref h0)]) hx hb dX1_duplicates_29 hl (k := 0) rfl (nI_1 _) (by decide) rfl (fun ls hl => ?_)
      refine lv_goto (tgt := 4) hx hb dX1_duplicates_32 (by decide) ?_
      exact hnx_4 hlt_4 ls (by rw [show (cnt (f_dup w h) (i4 + 1)) = (cnt (f_dup w h) i4) from cnt_n (by simp [f_dup, hb_15])]; exact lv_sub hl [0, 1, 2] rfl)
    · have hb_15 : (h i4) = true := bI_t c_15
      refine lv_aload_n hx hb dX1_duplicates_18 rfl (lv_at hl 2 rfl) ?_
      refine lv_iload_n hx hb dX1_duplicates_19 rfl (lv_at hl 0 rfl) ?_
      refine vp_callSi (va_Run.run (va_runV (As := [.int (nI i4)]) (rest := []) ⟨hx, hb, hml, hown, hts⟩ (k1_again l dC dI h0 qa qb cI cZ w h i4 (by omega)) (cwV 1 hts gX1_duplicates_X1_again rfl rfl rfl (by decide +kernel) ⟨Nat.le_of_ble_eq_true rfl, Nat.le_of_ble_eq_true rfl⟩) ⟨bl_P, va_recv hK hP (ci := 1) (q0 := 0) rfl rfl, fun U hU hW => ⟨rfl, by rw [hU]; exact hP, va_K.moved hW.alike hK⟩⟩ rfl rfl hl.1 rfl (lv_room (Nat.le_of_ble_eq_true rfl)) dX1_duplicates_20 ⟨Nat.zero_le _, Nat.zero_le _⟩)) (fun r_20 hr_20 => ?_)
      obtain rfl : r_20 = (bI (rep w h i4)) := hr_20
      refine lv_if_eq (tgt := 29) hx hb dX1_duplicates_23 (by decide) (fun c_23 => ?_) (fun c_23 => ?_)
      · have hb_23 : (rep w h i4) = false := bI_f c_23
        refine lv_iinc (v := (nI (i4 + 1))) (lv' := [(2, .int (nI (i4 + 1))), (1, .int (cnt (f_dup w h) i4)), (0, .ref h0)]) hx hb dX1_duplicates_29 hl (k := 0) rfl (nI_1 _) (by decide) rfl (fun ls hl => ?_)
        refine lv_goto (tgt := 4) hx hb dX1_duplicates_32 (by decide) ?_
        exact hnx_4 hlt_4 ls (by rw [show (cnt (f_dup w h) (i4 + 1)) = (cnt (f_dup w h) i4) from cnt_n (by simp [f_dup, hb_15, hb_23])]; exact lv_sub hl [0, 1, 2] rfl)
      · have hb_23 : (rep w h i4) = true := bI_t c_23
        refine lv_iinc (v := (cnt (f_dup w h) i4 + 1)) (lv' := [(1, .int (cnt (f_dup w h) i4 + 1)), (2, .int (nI i4)), (0, .ref h0)]) hx hb dX1_duplicates_26 hl (k := 1) rfl rfl (by decide) rfl (fun ls hl => ?_)
        refine lv_iinc (v := (nI (i4 + 1))) (lv' := [(2, .int (nI (i4 + 1))), (1, .int (cnt (f_dup w h) i4 + 1)), (0, .ref h0)]) hx hb dX1_duplicates_29 hl (k := 1) rfl (nI_1 _) (by decide) rfl (fun ls hl => ?_)
        refine lv_goto (tgt := 4) hx hb dX1_duplicates_32 (by decide) ?_
        exact hnx_4 hlt_4 ls (by rw [show (cnt (f_dup w h) (i4 + 1)) = (cnt (f_dup w h) i4 + 1) from cnt_y (by simp [f_dup, hb_15, hb_23])]; exact lv_sub hl [0, 1, 2] rfl)
set_option maxHeartbeats 4000000 in
set_option maxRecDepth 100000 in
theorem k1_sum (l : Launch) (dC : Nat → ClassId) (dI : Nat → Nat → Nat) (h0 qa qb : Nat) (cI cZ : ClassId) (w : Nat → Int32) (h : Nat → Bool) (p1 : Int32)  : Met l yX1_sum wsX1_sum ({ frames := 0, cells := 0, slots := 0, locals := 0 }) (va_Pc [.ref h0, .int (p1)] (fun U => va_P (dC, dI) vwCl (W1 h0 qa qb cI cZ w h) U.heap ∧ va_K (dC, dI) vwCl (TY cI cZ) U)) (vp_Si (fun r => r = s_sum w p1)) 0 0 (fun _ => False) := by
  refine Met.ofW (cc := cX1_sum) (maxL := 4) (ret := (some .int)) (by decide) rfl ?_
  intro p e s m args below meth c s₁ B hml hv
  obtain ⟨rfl, hP, hK⟩ := hv
  have hx := B.exec
  have hb := B.bytes
  have hr := B.returns
  have hlocks := B.notSynchronized
  have hts := atoms_spec (ws := wsX1_sum) B.pre
  have hown : s.vm.findClass RX1 = some m.cls := findClass_of_methodNamed B.named
  have hin0 : ∀ w ∈ wsX10, w ∈ wsX1_sum := by decide +kernel
  have hf7 := hts (.fieldLink RX1 7 "PageMergerModel" "words" "[I") (by decide +kernel)
  have hl := lv_entry ([.ref h0, .int (p1)]) (n := 4) (Nat.le_of_ble_eq_true rfl)
  rw [lg_entry_eq]
  generalize (lg_sl ([.ref h0, .int (p1)]) ++ List.replicate (4 - (lg_sl ([.ref h0, .int (p1)])).length) Slot.unset).toArray = ls at hl ⊢
  have hl : lv_has ls 4 [(0, .ref h0), (1, .int (p1))] := hl
  refine lv_iconst (v := (nI 0)) hx hb dX1_sum_0 (by decide +kernel) ?_
  refine lv_istore_n (lv' := [(2, .int (nI 0)), (0, .ref h0), (1, .int (p1))]) hx hb dX1_sum_1 rfl hl (by decide) rfl (fun ls hl => ?_)
  refine lv_iconst (v := (nI 0)) hx hb dX1_sum_2 (by decide +kernel) ?_
  refine lv_istore_n (lv' := [(3, .int (nI 0)), (2, .int (nI 0)), (0, .ref h0), (1, .int (p1))]) hx hb dX1_sum_3 rfl hl (by decide) rfl (fun ls hl => ?_)
  refine lp_P 4 96 (fun i4 ls => lv_has ls 4 [(3, .int (nI i4)), (2, .int (totN w p1 i4)), (0, .ref h0), (1, .int (p1))]) (fun i4 ls hi_4 hI hnx_4 => ?_) 0 (by omega) ls (lv_sub hl [0, 1, 2, 3] rfl)
  have hl := hI
  refine lv_iload_n hx hb dX1_sum_4 rfl (lv_at hl 0 rfl) ?_
  refine lv_bipush (v := (nI 96)) hx hb dX1_sum_5 (by decide +kernel) ?_
  refine lv_icmp_ge (tgt := 33) hx hb dX1_sum_7 (by decide) (fun c_7 => ?_) (fun c_7 => ?_)
  · have hq_7 : 96 ≤ i4 := (nI_leI (by omega) (by omega)).mp c_7
    have hE_7 : i4 = 96 := by omega
    subst hE_7
    refine lv_iload_n hx hb dX1_sum_33 rfl (lv_at hl 1 rfl) ?_
    have eR : (totN w p1 96) = s_sum w p1 := tot_sum w p1
    exact W.iret (v := (totN w p1 96)) hx hb hr (fun t ht hW => ⟨_, rfl, eR, ht⟩) (fun q h9 => absurd h9 List.not_mem_nil) dX1_sum_34
  · have hlt_4 : i4 < 96 := Nat.lt_of_not_le (fun q => c_7 ((nI_leI (by omega) (by omega)).mpr q))
    refine lv_iload_n hx hb dX1_sum_10 rfl (lv_at hl 0 rfl) ?_
    refine lv_bipush (v := (nI 32)) hx hb dX1_sum_11 (by decide +kernel) ?_
    refine my_div hx hb (by omega) (by decide) (by decide) dX1_sum_13 ?_
    refine lv_iload_n hx hb dX1_sum_14 rfl (lv_at hl 3 rfl) ?_
    refine lv_icmp_ne (tgt := 27) hx hb dX1_sum_15 (by decide) (fun c_15 => ?_) (fun c_15 => ?_)
    · refine lv_iinc (v := (nI (i4 + 1))) (lv' := [(3, .int (nI (i4 + 1))), (2, .int (totN w p1 i4)), (0, .ref h0), (1, .int (p1))]) hx hb dX1_sum_27 hl (k := 0) rfl (nI_1 _) (by decide) rfl (fun ls hl => ?_)
      refine lv_goto (tgt := 4) hx hb dX1_sum_30 (by decide) ?_
      exact hnx_4 hlt_4 ls (by rw [show (totN w p1 (i4 + 1)) = (totN w p1 i4) from tot_n c_15]; exact lv_sub hl [0, 1, 2, 3] rfl)
    · refine lv_iload_n hx hb dX1_sum_18 rfl (lv_at hl 1 rfl) ?_
      refine lv_aload_n hx hb dX1_sum_19 rfl (lv_at hl 2 rfl) ?_
      refine va_get (D := (dC, dI)) (ci := 1) (v := .ref qa) (C := RX1) (T := TX1) (N := 2) hx hb hts hin0 hown hK hP 0 rfl rfl 0 (by decide) hf7 (fun _ h9 => h9) rfl dX1_sum_20 ?_
      refine lv_iload_n hx hb dX1_sum_23 rfl (lv_at hl 0 rfl) ?_
      refine my_iald hx hb hK hP 1 0 rfl rfl (by omega) (by decide) dX1_sum_24 ?_
      refine lv_iadd hx hb dX1_sum_25 ?_
      refine lv_istore_n (lv' := [(2, .int ((totN w p1 i4) + (w (i4)))), (3, .int (nI i4)), (0, .ref h0), (1, .int (p1))]) hx hb dX1_sum_26 rfl hl (by decide) rfl (fun ls hl => ?_)
      refine lv_iinc (v := (nI (i4 + 1))) (lv' := [(3, .int (nI (i4 + 1))), (2, .int ((totN w p1 i4) + (w (i4)))), (0, .ref h0), (1, .int (p1))]) hx hb dX1_sum_27 hl (k := 1) rfl (nI_1 _) (by decide) rfl (fun ls hl => ?_)
      refine lv_goto (tgt := 4) hx hb dX1_sum_30 (by decide) ?_
      exact hnx_4 hlt_4 ls (by rw [show (totN w p1 (i4 + 1)) = ((totN w p1 i4) + (w (i4))) from tot_y c_15]; exact lv_sub hl [0, 1, 2, 3] rfl)
set_option maxHeartbeats 4000000 in
set_option maxRecDepth 100000 in
theorem k1_plain (l : Launch) (dC : Nat → ClassId) (dI : Nat → Nat → Nat) (h0 qa qb : Nat) (cI cZ : ClassId) (w : Nat → Int32) (h : Nat → Bool)   : Met l yX1_plain wsX1_plain ({ frames := 2, cells := 0, slots := 0, locals := 42 }) (va_Pc [.ref h0] (fun U => va_P (dC, dI) vwCl (W1 h0 qa qb cI cZ w h) U.heap ∧ va_K (dC, dI) vwCl (TY cI cZ) U)) (vp_Si (fun r => r = cnt (f_pla w h) 24)) 0 0 (fun _ => False) := by
  refine Met.ofW (cc := cX1_plain) (maxL := 5) (ret := (some .int)) (by decide) rfl ?_
  intro p e s m args below meth c s₁ B hml hv
  obtain ⟨rfl, hP, hK⟩ := hv
  have hx := B.exec
  have hb := B.bytes
  have hr := B.returns
  have hlocks := B.notSynchronized
  have hts := atoms_spec (ws := wsX1_plain) B.pre
  have hown : s.vm.findClass RX1 = some m.cls := findClass_of_methodNamed B.named
  have hin0 : ∀ w ∈ wsX10, w ∈ wsX1_plain := by decide +kernel
  have hf7 := hts (.fieldLink RX1 7 "PageMergerModel" "words" "[I") (by decide +kernel)
  have hl := lv_entry ([.ref h0]) (n := 5) (Nat.le_of_ble_eq_true rfl)
  rw [lg_entry_eq]
  generalize (lg_sl ([.ref h0]) ++ List.replicate (5 - (lg_sl ([.ref h0])).length) Slot.unset).toArray = ls at hl ⊢
  have hl : lv_has ls 5 [(0, .ref h0)] := hl
  refine lv_iconst (v := (nI 0)) hx hb dX1_plain_0 (by decide +kernel) ?_
  refine lv_istore_n (lv' := [(1, .int (nI 0)), (0, .ref h0)]) hx hb dX1_plain_1 rfl hl (by decide) rfl (fun ls hl => ?_)
  refine lv_iconst (v := (nI 0)) hx hb dX1_plain_2 (by decide +kernel) ?_
  refine lv_istore_n (lv' := [(2, .int (nI 0)), (1, .int (nI 0)), (0, .ref h0)]) hx hb dX1_plain_3 rfl hl (by decide) rfl (fun ls hl => ?_)
  refine lp_P 4 24 (fun i4 ls => lv_has ls 5 [(2, .int (nI i4)), (1, .int (cnt (f_pla w h) i4)), (0, .ref h0)]) (fun i4 ls hi_4 hI hnx_4 => ?_) 0 (by omega) ls (lv_sub hl [0, 1, 2] rfl)
  have hl := hI
  refine lv_iload_n hx hb dX1_plain_4 rfl (lv_at hl 0 rfl) ?_
  refine lv_bipush (v := (nI 24)) hx hb dX1_plain_5 (by decide +kernel) ?_
  refine lv_icmp_ge (tgt := 80) hx hb dX1_plain_7 (by decide) (fun c_7 => ?_) (fun c_7 => ?_)
  · have hq_7 : 24 ≤ i4 := (nI_leI (by omega) (by omega)).mp c_7
    have hE_7 : i4 = 24 := by omega
    subst hE_7
    refine lv_iload_n hx hb dX1_plain_80 rfl (lv_at hl 1 rfl) ?_
    have eR : (cnt (f_pla w h) 24) = cnt (f_pla w h) 24 := by simp []
    exact W.iret (v := (cnt (f_pla w h) 24)) hx hb hr (fun t ht hW => ⟨_, rfl, eR, ht⟩) (fun q h9 => absurd h9 List.not_mem_nil) dX1_plain_81
  · have hlt_4 : i4 < 24 := Nat.lt_of_not_le (fun q => c_7 ((nI_leI (by omega) (by omega)).mpr q))
    refine lv_iconst (v := (bI (one w i4 1))) hx hb dX1_plain_10 (by rw [one_1]; decide +kernel) ?_
    refine lv_istore_n (lv' := [(3, .int (bI (one w i4 1))), (2, .int (nI i4)), (1, .int (cnt (f_pla w h) i4)), (0, .ref h0)]) hx hb dX1_plain_11 rfl hl (by decide) rfl (fun ls hl => ?_)
    refine lv_iconst (v := (nI 1)) hx hb dX1_plain_12 (by decide +kernel) ?_
    refine lv_istore (lv' := [(4, .int (nI 1)), (3, .int (bI (one w i4 1))), (2, .int (nI i4)), (1, .int (cnt (f_pla w h) i4)), (0, .ref h0)]) hx hb dX1_plain_13 hl (by decide) rfl (fun ls hl => ?_)
    refine lp_P 15 4 (fun i15 ls => lv_has ls 5 [(4, .int (nI i15)), (3, .int (bI (one w i4 i15))), (2, .int (nI i4)), (1, .int (cnt (f_pla w h) i4)), (0, .ref h0)]) (fun i15 ls hi_15 hI hnx_15 => ?_) 1 (by omega) ls (lv_sub hl [0, 1, 2, 3, 4] rfl)
    have hl := hI
    refine lv_iload hx hb dX1_plain_15 (lv_at hl 0 rfl) ?_
    refine lv_iconst (v := (nI 4)) hx hb dX1_plain_17 (by decide +kernel) ?_
    refine lv_icmp_ge (tgt := 59) hx hb dX1_plain_18 (by decide) (fun c_18 => ?_) (fun c_18 => ?_)
    · have hq_18 : 4 ≤ i15 := (nI_leI (by omega) (by omega)).mp c_18
      have hE_18 : i15 = 4 := by omega
      subst hE_18
      refine lv_iload_n hx hb dX1_plain_59 rfl (lv_at hl 1 rfl) ?_
      refine lv_if_eq (tgt := 74) hx hb dX1_plain_60 (by decide) (fun c_60 => ?_) (fun c_60 => ?_)
      · have hb_60 : (one w i4 4) = false := bI_f c_60
        refine lv_iinc (v := (nI (i4 + 1))) (lv' := [(2, .int (nI (i4 + 1))), (4, .int (nI 4)), (3, .int (bI (one w i4 4))), (1, .int (cnt (f_pla w h) i4)), (0, .ref h0)]) hx hb dX1_plain_74 hl (k := 2) rfl (nI_1 _) (by decide) rfl (fun ls hl => ?_)
        refine lv_goto (tgt := 4) hx hb dX1_plain_77 (by decide) ?_
        exact hnx_4 hlt_4 ls (by rw [show (cnt (f_pla w h) (i4 + 1)) = (cnt (f_pla w h) i4) from cnt_n (by simp [f_pla, hb_60])]; exact lv_sub hl [0, 3, 4] rfl)
      · have hb_60 : (one w i4 4) = true := bI_t c_60
        refine lv_aload_n hx hb dX1_plain_63 rfl (lv_at hl 4 rfl) ?_
        refine lv_iload_n hx hb dX1_plain_64 rfl (lv_at hl 2 rfl) ?_
        refine vp_callSi (va_Run.run (va_runV (As := [.int (nI i4)]) (rest := []) ⟨hx, hb, hml, hown, hts⟩ (k1_held l dC dI h0 qa qb cI cZ w h (nI i4)) (cwV 1 hts gX1_plain_X1_held rfl rfl rfl (by decide +kernel) ⟨Nat.le_of_ble_eq_true rfl, Nat.le_of_ble_eq_true rfl⟩) ⟨bl_P, va_recv hK hP (ci := 1) (q0 := 0) rfl rfl, fun U hU hW => ⟨rfl, by rw [hU]; exact hP, va_K.moved hW.alike hK⟩⟩ rfl rfl hl.1 rfl (lv_room (Nat.le_of_ble_eq_true rfl)) dX1_plain_65 ⟨Nat.zero_le _, Nat.zero_le _⟩)) (fun r_65 hr_65 => ?_)
        obtain rfl : r_65 = (bI (h i4)) := hr_65.trans (by simp [b_held, okP_nI (show i4 < 24 by omega) (by decide), pg_nI (show i4 < 2 ^ 31 by omega)])
        refine lv_if_eq (tgt := 74) hx hb dX1_plain_68 (by decide) (fun c_68 => ?_) (fun c_68 => ?_)
        · have hb_68 : (h i4) = false := bI_f c_68
          refine lv_iinc (v := (nI (i4 + 1))) (lv' := [(2, .int (nI (i4 + 1))), (4, .int (nI 4)), (3, .int (bI (one w i4 4))), (1, .int (cnt (f_pla w h) i4)), (0, .ref h0)]) hx hb dX1_plain_74 hl (k := 2) rfl (nI_1 _) (by decide) rfl (fun ls hl => ?_)
          refine lv_goto (tgt := 4) hx hb dX1_plain_77 (by decide) ?_
          exact hnx_4 hlt_4 ls (by rw [show (cnt (f_pla w h) (i4 + 1)) = (cnt (f_pla w h) i4) from cnt_n (by simp [f_pla, hb_60, hb_68])]; exact lv_sub hl [0, 3, 4] rfl)
        · have hb_68 : (h i4) = true := bI_t c_68
          refine lv_iinc (v := (cnt (f_pla w h) i4 + 1)) (lv' := [(1, .int (cnt (f_pla w h) i4 + 1)), (4, .int (nI 4)), (3, .int (bI (one w i4 4))), (2, .int (nI i4)), (0, .ref h0)]) hx hb dX1_plain_71 hl (k := 3) rfl rfl (by decide) rfl (fun ls hl => ?_)
          refine lv_iinc (v := (nI (i4 + 1))) (lv' := [(2, .int (nI (i4 + 1))), (1, .int (cnt (f_pla w h) i4 + 1)), (4, .int (nI 4)), (3, .int (bI (one w i4 4))), (0, .ref h0)]) hx hb dX1_plain_74 hl (k := 3) rfl (nI_1 _) (by decide) rfl (fun ls hl => ?_)
          refine lv_goto (tgt := 4) hx hb dX1_plain_77 (by decide) ?_
          exact hnx_4 hlt_4 ls (by rw [show (cnt (f_pla w h) (i4 + 1)) = (cnt (f_pla w h) i4 + 1) from cnt_y (by simp [f_pla, hb_60, hb_68])]; exact lv_sub hl [0, 1, 4] rfl)
    · have hlt_15 : i15 < 4 := Nat.lt_of_not_le (fun q => c_18 ((nI_leI (by omega) (by omega)).mpr q))
      refine lv_iload_n hx hb dX1_plain_21 rfl (lv_at hl 1 rfl) ?_
      refine lv_if_eq (tgt := 51) hx hb dX1_plain_22 (by decide) (fun c_22 => ?_) (fun c_22 => ?_)
      · have hb_22 : (one w i4 i15) = false := bI_f c_22
        refine lv_iconst (v := (nI 0)) hx hb dX1_plain_51 (by decide +kernel) ?_
        refine lv_istore_n (lv' := [(3, .int (nI 0)), (4, .int (nI i15)), (2, .int (nI i4)), (1, .int (cnt (f_pla w h) i4)), (0, .ref h0)]) hx hb dX1_plain_52 rfl hl (by decide) rfl (fun ls hl => ?_)
        refine lv_iinc (v := (nI (i15 + 1))) (lv' := [(4, .int (nI (i15 + 1))), (3, .int (nI 0)), (2, .int (nI i4)), (1, .int (cnt (f_pla w h) i4)), (0, .ref h0)]) hx hb dX1_plain_53 hl (k := 1) rfl (nI_1 _) (by decide) rfl (fun ls hl => ?_)
        refine lv_goto (tgt := 15) hx hb dX1_plain_56 (by decide) ?_
        exact hnx_15 hlt_15 ls (by rw [show (bI (one w i4 (i15 + 1))) = (nI 0) from by simp [one_s, bI_1, bI_0, hb_22]]; exact lv_sub hl [0, 1, 2, 3, 4] rfl)
      · have hb_22 : (one w i4 i15) = true := bI_t c_22
        refine lv_aload_n hx hb dX1_plain_25 rfl (lv_at hl 4 rfl) ?_
        refine va_get (D := (dC, dI)) (ci := 1) (v := .ref qa) (C := RX1) (T := TX1) (N := 2) hx hb hts hin0 hown hK hP 0 rfl rfl 0 (by decide) hf7 (fun _ h9 => h9) rfl dX1_plain_26 ?_
        refine lv_iload_n hx hb dX1_plain_29 rfl (lv_at hl 2 rfl) ?_
        refine lv_iconst (v := (nI 4)) hx hb dX1_plain_30 (by decide +kernel) ?_
        refine my_mul hx hb dX1_plain_31 ?_
        refine lv_iload hx hb dX1_plain_32 (lv_at hl 0 rfl) ?_
        refine my_add hx hb dX1_plain_34 ?_
        refine my_iald hx hb hK hP 1 0 rfl rfl (by omega) (by decide) dX1_plain_35 ?_
        refine lv_aload_n hx hb dX1_plain_36 rfl (lv_at hl 4 rfl) ?_
        refine va_get (D := (dC, dI)) (ci := 1) (v := .ref qa) (C := RX1) (T := TX1) (N := 2) hx hb hts hin0 hown hK hP 0 rfl rfl 0 (by decide) hf7 (fun _ h9 => h9) rfl dX1_plain_37 ?_
        refine lv_iload_n hx hb dX1_plain_40 rfl (lv_at hl 2 rfl) ?_
        refine lv_iconst (v := (nI 4)) hx hb dX1_plain_41 (by decide +kernel) ?_
        refine my_mul hx hb dX1_plain_42 ?_
        refine my_iald hx hb hK hP 1 0 rfl rfl (by omega) (by decide) dX1_plain_43 ?_
        refine lv_icmp_ne (tgt := 51) hx hb dX1_plain_44 (by decide) (fun c_44 => ?_) (fun c_44 => ?_)
        · have hq_44 : (w (i4 * 4 + i15) == w (i4 * 4)) = false := beq_eq_false_iff_ne.mpr c_44
          refine lv_iconst (v := (nI 0)) hx hb dX1_plain_51 (by decide +kernel) ?_
          refine lv_istore_n (lv' := [(3, .int (nI 0)), (4, .int (nI i15)), (2, .int (nI i4)), (1, .int (cnt (f_pla w h) i4)), (0, .ref h0)]) hx hb dX1_plain_52 rfl hl (by decide) rfl (fun ls hl => ?_)
          refine lv_iinc (v := (nI (i15 + 1))) (lv' := [(4, .int (nI (i15 + 1))), (3, .int (nI 0)), (2, .int (nI i4)), (1, .int (cnt (f_pla w h) i4)), (0, .ref h0)]) hx hb dX1_plain_53 hl (k := 1) rfl (nI_1 _) (by decide) rfl (fun ls hl => ?_)
          refine lv_goto (tgt := 15) hx hb dX1_plain_56 (by decide) ?_
          exact hnx_15 hlt_15 ls (by rw [show (bI (one w i4 (i15 + 1))) = (nI 0) from by simp [one_s, bI_1, bI_0, hb_22, hq_44]]; exact lv_sub hl [0, 1, 2, 3, 4] rfl)
        · have hq_44 : (w (i4 * 4 + i15) == w (i4 * 4)) = true := beq_iff_eq.mpr c_44
          refine lv_iconst (v := (nI 1)) hx hb dX1_plain_47 (by decide +kernel) ?_
          refine lv_goto (tgt := 52) hx hb dX1_plain_48 (by decide) ?_
          refine lv_istore_n (lv' := [(3, .int (nI 1)), (4, .int (nI i15)), (2, .int (nI i4)), (1, .int (cnt (f_pla w h) i4)), (0, .ref h0)]) hx hb dX1_plain_52 rfl hl (by decide) rfl (fun ls hl => ?_)
          refine lv_iinc (v := (nI (i15 + 1))) (lv' := [(4, .int (nI (i15 + 1))), (3, .int (nI 1)), (2, .int (nI i4)), (1, .int (cnt (f_pla w h) i4)), (0, .ref h0)]) hx hb dX1_plain_53 hl (k := 1) rfl (nI_1 _) (by decide) rfl (fun ls hl => ?_)
          refine lv_goto (tgt := 15) hx hb dX1_plain_56 (by decide) ?_
          exact hnx_15 hlt_15 ls (by rw [show (bI (one w i4 (i15 + 1))) = (nI 1) from by simp [one_s, bI_1, bI_0, hb_22, hq_44]]; exact lv_sub hl [0, 1, 2, 3, 4] rfl)
set_option maxHeartbeats 4000000 in
set_option maxRecDepth 100000 in
theorem k1_scan (l : Launch) (h0 : Nat) (p1 : Int32) : Met l yX1_scan wsX1_scan ({ frames := 0, cells := 0, slots := 0, locals := 0 }) (va_Pc [.ref h0, .int p1] (fun _ => True)) (va_Sv (fun _ => True)) 0 0 (fun _ => False) := by
  refine Met.ofW (cc := cX1_scan) (maxL := 2) (ret := none) (by decide) rfl ?_
  intro p e s m args below meth c s₁ B hml hv
  obtain ⟨rfl, -⟩ := hv
  have hx := B.exec
  have hb := B.bytes
  have hr := B.returns
  have hlocks := B.notSynchronized
  rw [lg_entry_eq]
  exact W.vret hx hb hr (fun t ht hW => ⟨rfl, trivial, ht⟩) (fun q h9 => absurd h9 List.not_mem_nil) dX1_scan_0
