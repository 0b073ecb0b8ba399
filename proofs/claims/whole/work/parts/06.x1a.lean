set_option maxHeartbeats 4000000 in
set_option maxRecDepth 100000 in
theorem k1_isPage (l : Launch) (h0 : Nat) (p1 : Int32)  : Met l yX1_isPage wsX1_isPage ({ frames := 0, cells := 0, slots := 0, locals := 0 }) (va_Pc [.ref h0, .int (p1)] (fun _ => True)) (vp_Si (fun r => r = bI (okP 24 p1))) 0 0 (fun _ => False) := by
  refine Met.ofW (cc := cX1_isPage) (maxL := 2) (ret := (some .boolean)) (by decide) rfl ?_
  intro p e s m args below meth c s₁ B hml hv
  obtain ⟨rfl, -⟩ := hv
  have hx := B.exec
  have hb := B.bytes
  have hr := B.returns
  have hlocks := B.notSynchronized
  have hl := lv_entry ([.ref h0, .int (p1)]) (n := 2) (Nat.le_of_ble_eq_true rfl)
  rw [lg_entry_eq]
  generalize (lg_sl ([.ref h0, .int (p1)]) ++ List.replicate (2 - (lg_sl ([.ref h0, .int (p1)])).length) Slot.unset).toArray = ls at hl ⊢
  have hl : lv_has ls 2 [(0, .ref h0), (1, .int (p1))] := hl
  refine lv_iload_n hx hb dX1_isPage_0 rfl (lv_at hl 1 rfl) ?_
  refine lv_if_lt (tgt := 14) hx hb dX1_isPage_1 (by decide) (fun c_1 => ?_) (fun c_1 => ?_)
  · have ho : okP 24 p1 = false := okP_neg c_1
    refine lv_iconst (v := (nI 0)) hx hb dX1_isPage_14 (by decide +kernel) ?_
    have eR : (nI 0) = bI (okP 24 p1) := by simp [ho, bI_1, bI_0]
    exact W.zret (v := (nI 0)) hx hb hr (by decide +kernel) (fun t ht hW => ⟨_, rfl, eR, ht⟩) (fun q h9 => absurd h9 List.not_mem_nil) dX1_isPage_15
  · refine lv_iload_n hx hb dX1_isPage_4 rfl (lv_at hl 1 rfl) ?_
    refine lv_bipush (v := (nI 24)) hx hb dX1_isPage_5 (by decide +kernel) ?_
    refine lv_icmp_ge (tgt := 14) hx hb dX1_isPage_7 (by decide) (fun c_7 => ?_) (fun c_7 => ?_)
    · have ho : okP 24 p1 = false := okP_big (by decide) c_7
      refine lv_iconst (v := (nI 0)) hx hb dX1_isPage_14 (by decide +kernel) ?_
      have eR : (nI 0) = bI (okP 24 p1) := by simp [ho, bI_1, bI_0]
      exact W.zret (v := (nI 0)) hx hb hr (by decide +kernel) (fun t ht hW => ⟨_, rfl, eR, ht⟩) (fun q h9 => absurd h9 List.not_mem_nil) dX1_isPage_15
    · have ho : okP 24 p1 = true := okP_in (by decide) c_1 c_7
      refine lv_iconst (v := (nI 1)) hx hb dX1_isPage_10 (by decide +kernel) ?_
      refine lv_goto (tgt := 15) hx hb dX1_isPage_11 (by decide) ?_
      have eR : (nI 1) = bI (okP 24 p1) := by simp [ho, bI_1, bI_0]
      exact W.zret (v := (nI 1)) hx hb hr (by decide +kernel) (fun t ht hW => ⟨_, rfl, eR, ht⟩) (fun q h9 => absurd h9 List.not_mem_nil) dX1_isPage_15
set_option maxHeartbeats 4000000 in
set_option maxRecDepth 100000 in
theorem k1_write (l : Launch) (dC : Nat → ClassId) (dI : Nat → Nat → Nat) (h0 qa qb : Nat) (cI cZ : ClassId) (sz : Nat) (w : Nat → Int32) (h : Nat → Bool) (p1 : Int32) (p2 : Int32) (p3 : Int32)  : Met l yX1_write wsX1_write ({ frames := 1, cells := 0, slots := 0, locals := 21 }) (va_Pc [.ref h0, .int (p1), .int (p2), .int (p3)] (fun U => U.heap.size = sz ∧ va_P (dC, dI) vwCl (W1 h0 qa qb cI cZ w h) U.heap ∧ va_K (dC, dI) vwCl (TY cI cZ) U ∧ va_D (fun _ => True) (W1 h0 qa qb cI cZ w h))) (va_Qi (fun r (_ : Unit) => r = s_read w p1 p2) (fun _ t => va_P (dC, dI) vwCl (W1 h0 qa qb cI cZ (w_write w p1 p2 p3) (h_write h p1 p2)) t.heap ∧ va_K (dC, dI) vwCl (TY cI cZ) t ∧ va_D (va_A (W1 h0 qa qb cI cZ w h) sz) (W1 h0 qa qb cI cZ (w_write w p1 p2 p3) (h_write h p1 p2))) (va_A (W1 h0 qa qb cI cZ w h) sz)) 0 0 (va_A (W1 h0 qa qb cI cZ w h) sz) := by
  refine Met.ofW (cc := cX1_write) (maxL := 5) (ret := (some .int)) (by decide) rfl ?_
  intro p e s m args below meth c s₁ B hml hv
  obtain ⟨rfl, hsz, hP, hK, hD0⟩ := hv
  have hx := B.exec
  have hb := B.bytes
  have hr := B.returns
  have hlocks := B.notSynchronized
  have hts := atoms_spec (ws := wsX1_write) B.pre
  have hown : s.vm.findClass RX1 = some m.cls := findClass_of_methodNamed B.named
  have hin0 : ∀ w ∈ wsX10, w ∈ wsX1_write := by decide +kernel
  have hf7 := hts (.fieldLink RX1 7 "PageMergerModel" "words" "[I") (by decide +kernel)
  have hf13 := hts (.fieldLink RX1 13 "PageMergerModel" "released" "[Z") (by decide +kernel)
  subst hsz
  have hD := hD0.self (sz := s.heap.size)
  generalize hAe : va_A (W1 h0 qa qb cI cZ w h) s.heap.size = A at hD ⊢
  have hA : ∀ q : Nat, s.heap.size ≤ q → A q := fun q h => by rw [← hAe]; exact Or.inr h
  have hS : va_S A s.heap s.heap [] := va_S.rf
  have hl := lv_entry ([.ref h0, .int (p1), .int (p2), .int (p3)]) (n := 5) (Nat.le_of_ble_eq_true rfl)
  rw [lg_entry_eq]
  generalize (lg_sl ([.ref h0, .int (p1), .int (p2), .int (p3)]) ++ List.replicate (5 - (lg_sl ([.ref h0, .int (p1), .int (p2), .int (p3)])).length) Slot.unset).toArray = ls at hl ⊢
  have hl : lv_has ls 5 [(0, .ref h0), (1, .int (p1)), (2, .int (p2)), (3, .int (p3))] := hl
  refine lv_aload_n hx hb dX1_write_0 rfl (lv_at hl 0 rfl) ?_
  refine lv_iload_n hx hb dX1_write_1 rfl (lv_at hl 1 rfl) ?_
  refine vp_callSi (va_Run.run (va_runV (As := [.int (p1)]) (rest := []) ⟨hx, hb, hml, hown, hts⟩ (k1_isPage l h0 p1) (cwV 1 hts gX1_write_X1_isPage rfl rfl rfl (by decide +kernel) ⟨Nat.le_of_ble_eq_true rfl, Nat.le_of_ble_eq_true rfl⟩) ⟨bl_T, va_recv hK hP (ci := 1) (q0 := 0) rfl rfl, fun U hU hW => ⟨rfl, trivial⟩⟩ rfl rfl hl.1 rfl (lv_room (Nat.le_of_ble_eq_true rfl)) dX1_write_2 ⟨Nat.zero_le _, Nat.zero_le _⟩)) (fun r_2 hr_2 => ?_)
  obtain rfl : r_2 = (bI (okP 24 p1)) := hr_2
  refine lv_if_ne (tgt := 10) hx hb dX1_write_5 (by decide) (fun c_5 => ?_) (fun c_5 => ?_)
  · have hb_5 : (okP 24 p1) = true := bI_t c_5
    obtain ⟨j1, hj1, rfl⟩ := okP_of hb_5 (by decide)
    have hg_j1 : pg (nI j1) = j1 := pg_nI (by omega)
    refine lv_iload_n hx hb dX1_write_10 rfl (lv_at hl 2 rfl) ?_
    refine lv_if_lt (tgt := 19) hx hb dX1_write_11 (by decide) (fun c_11 => ?_) (fun c_11 => ?_)
    · have ho2 : okP 4 p2 = false := okP_neg c_11
      refine lv_bipush (v := (-2)) hx hb dX1_write_19 (by decide +kernel) ?_
      have eW : w_write w (nI j1) p2 p3 = w := by simp [s_read, w_write, h_write, hb_5, hg_j1, ho2]
      have eH : h_write h (nI j1) p2 = h := by simp [s_read, w_write, h_write, hb_5, hg_j1, ho2]
      have eR : (-2) = s_read w (nI j1) p2 := by simp [s_read, w_write, h_write, hb_5, hg_j1, ho2]
      exact W.iret (v := (-2)) hx hb hr (fun t ht hW => ⟨⟨_, (), rfl, eR, by rw [eW, eH, ht]; exact hP, va_K.moved hW.alike hK, by rw [eW, eH]; exact hD⟩, hS.F ht⟩) hS.2.2 dX1_write_21
    · refine lv_iload_n hx hb dX1_write_14 rfl (lv_at hl 2 rfl) ?_
      refine lv_iconst (v := (nI 3)) hx hb dX1_write_15 (by decide +kernel) ?_
      refine lv_icmp_le (tgt := 22) hx hb dX1_write_16 (by decide) (fun c_16 => ?_) (fun c_16 => ?_)
      · have ho2 : okP 4 p2 = true := okP_le (n := 3) (by decide) c_11 c_16
        obtain ⟨j2, hj2, rfl⟩ := okP_of ho2 (by decide)
        have hg_j2 : pg (nI j2) = j2 := pg_nI (by omega)
        refine lv_aload_n hx hb dX1_write_22 rfl (lv_at hl 0 rfl) ?_
        refine va_get (D := (dC, dI)) (ci := 1) (v := .ref qa) (C := RX1) (T := TX1) (N := 2) hx hb hts hin0 hown hK hP 0 rfl rfl 0 (by decide) hf7 (fun _ h9 => h9) rfl dX1_write_23 ?_
        refine lv_iload_n hx hb dX1_write_26 rfl (lv_at hl 1 rfl) ?_
        refine lv_iconst (v := (nI 4)) hx hb dX1_write_27 (by decide +kernel) ?_
        refine my_mul hx hb dX1_write_28 ?_
        refine lv_iload_n hx hb dX1_write_29 rfl (lv_at hl 2 rfl) ?_
        refine my_add hx hb dX1_write_30 ?_
        refine my_iald hx hb hK hP 1 0 rfl rfl (by omega) (by decide) dX1_write_31 ?_
        refine lv_istore (lv' := [(4, .int (w (j1 * 4 + j2))), (0, .ref h0), (1, .int (nI j1)), (2, .int (nI j2)), (3, .int (p3))]) hx hb dX1_write_32 hl (by decide) rfl (fun ls hl => ?_)
        refine lv_aload_n hx hb dX1_write_34 rfl (lv_at hl 1 rfl) ?_
        refine va_get (D := (dC, dI)) (ci := 1) (v := .ref qa) (C := RX1) (T := TX1) (N := 2) hx hb hts hin0 hown hK hP 0 rfl rfl 0 (by decide) hf7 (fun _ h9 => h9) rfl dX1_write_35 ?_
        refine lv_iload_n hx hb dX1_write_38 rfl (lv_at hl 2 rfl) ?_
        refine lv_iconst (v := (nI 4)) hx hb dX1_write_39 (by decide +kernel) ?_
        refine my_mul hx hb dX1_write_40 ?_
        refine lv_iload_n hx hb dX1_write_41 rfl (lv_at hl 3 rfl) ?_
        refine my_add hx hb dX1_write_42 ?_
        refine lv_iload_n hx hb dX1_write_43 rfl (lv_at hl 4 rfl) ?_
        refine my_iast hx hb hK hP hD hS 1 0 rfl rfl (by omega) (by decide) dX1_write_44 (fun H locs hP hD hS => ?_)
        have hP : va_P (dC, dI) vwCl (W1 h0 qa qb cI cZ (upd w (j1 * 4 + j2) p3) h) H := hP
        have hD : va_D A (W1 h0 qa qb cI cZ (upd w (j1 * 4 + j2) p3) h) := hD
        refine lv_aload_n hx hb dX1_write_45 rfl (lv_at hl 1 rfl) ?_
        refine va_get (D := (dC, dI)) (ci := 1) (v := .ref qb) (C := RX1) (T := TX1) (N := 2) hx hb hts hin0 hown hK hP 0 rfl rfl 1 (by decide) hf13 (fun _ h9 => h9) rfl dX1_write_46 ?_
        refine lv_iload_n hx hb dX1_write_49 rfl (lv_at hl 2 rfl) ?_
        refine lv_iconst (v := (nI 0)) hx hb dX1_write_50 (by decide +kernel) ?_
        refine my_zastN hx hb hK hP hD hS 2 1 rfl rfl true bI_0 (by omega) (by decide) dX1_write_51 (fun H locs hP hD hS => ?_)
        have hP : va_P (dC, dI) vwCl (W1 h0 qa qb cI cZ (upd w (j1 * 4 + j2) p3) (updB h j1 true)) H := hP
        have hD : va_D A (W1 h0 qa qb cI cZ (upd w (j1 * 4 + j2) p3) (updB h j1 true)) := hD
        refine lv_iload hx hb dX1_write_52 (lv_at hl 0 rfl) ?_
        have eW : w_write w (nI j1) (nI j2) p3 = upd w (j1 * 4 + j2) p3 := by simp [s_read, w_write, h_write, hb_5, hg_j1, ho2, hg_j2]
        have eH : h_write h (nI j1) (nI j2) = updB h j1 true := by simp [s_read, w_write, h_write, hb_5, hg_j1, ho2, hg_j2]
        have eR : (w (j1 * 4 + j2)) = s_read w (nI j1) (nI j2) := by simp [s_read, w_write, h_write, hb_5, hg_j1, ho2, hg_j2]
        exact W.iret (v := (w (j1 * 4 + j2))) hx hb hr (fun t ht hW => ⟨⟨_, (), rfl, eR, by rw [eW, eH, ht]; exact hP, va_K.moved hW.alike hK, by rw [eW, eH]; exact hD⟩, hS.F ht⟩) hS.2.2 dX1_write_54
      · have ho2 : okP 4 p2 = false := okP_nle (n := 3) (by decide) c_16
        refine lv_bipush (v := (-2)) hx hb dX1_write_19 (by decide +kernel) ?_
        have eW : w_write w (nI j1) p2 p3 = w := by simp [s_read, w_write, h_write, hb_5, hg_j1, ho2]
        have eH : h_write h (nI j1) p2 = h := by simp [s_read, w_write, h_write, hb_5, hg_j1, ho2]
        have eR : (-2) = s_read w (nI j1) p2 := by simp [s_read, w_write, h_write, hb_5, hg_j1, ho2]
        exact W.iret (v := (-2)) hx hb hr (fun t ht hW => ⟨⟨_, (), rfl, eR, by rw [eW, eH, ht]; exact hP, va_K.moved hW.alike hK, by rw [eW, eH]; exact hD⟩, hS.F ht⟩) hS.2.2 dX1_write_21
  · have hb_5 : (okP 24 p1) = false := bI_f c_5
    refine lv_iconst (v := (-1)) hx hb dX1_write_8 (by decide +kernel) ?_
    have eW : w_write w p1 p2 p3 = w := by simp [s_read, w_write, h_write, hb_5]
    have eH : h_write h p1 p2 = h := by simp [s_read, w_write, h_write, hb_5]
    have eR : (-1) = s_read w p1 p2 := by simp [s_read, w_write, h_write, hb_5]
    exact W.iret (v := (-1)) hx hb hr (fun t ht hW => ⟨⟨_, (), rfl, eR, by rw [eW, eH, ht]; exact hP, va_K.moved hW.alike hK, by rw [eW, eH]; exact hD⟩, hS.F ht⟩) hS.2.2 dX1_write_9
set_option maxHeartbeats 4000000 in
set_option maxRecDepth 100000 in
theorem k1_fill (l : Launch) (dC : Nat → ClassId) (dI : Nat → Nat → Nat) (h0 qa qb : Nat) (cI cZ : ClassId) (sz : Nat) (w : Nat → Int32) (h : Nat → Bool) (p1 : Int32) (p2 : Int32)  : Met l yX1_fill wsX1_fill ({ frames := 1, cells := 0, slots := 0, locals := 21 }) (va_Pc [.ref h0, .int (p1), .int (p2)] (fun U => U.heap.size = sz ∧ va_P (dC, dI) vwCl (W1 h0 qa qb cI cZ w h) U.heap ∧ va_K (dC, dI) vwCl (TY cI cZ) U ∧ va_D (fun _ => True) (W1 h0 qa qb cI cZ w h))) (va_Qi (fun r (_ : Unit) => r = s_page p1) (fun _ t => va_P (dC, dI) vwCl (W1 h0 qa qb cI cZ (w_fill w p1 p2) (h_fill h p1)) t.heap ∧ va_K (dC, dI) vwCl (TY cI cZ) t ∧ va_D (va_A (W1 h0 qa qb cI cZ w h) sz) (W1 h0 qa qb cI cZ (w_fill w p1 p2) (h_fill h p1))) (va_A (W1 h0 qa qb cI cZ w h) sz)) 0 0 (va_A (W1 h0 qa qb cI cZ w h) sz) := by
  refine Met.ofW (cc := cX1_fill) (maxL := 4) (ret := (some .int)) (by decide) rfl ?_
  intro p e s m args below meth c s₁ B hml hv
  obtain ⟨rfl, hsz, hP, hK, hD0⟩ := hv
  have hx := B.exec
  have hb := B.bytes
  have hr := B.returns
  have hlocks := B.notSynchronized
  have hts := atoms_spec (ws := wsX1_fill) B.pre
  have hown : s.vm.findClass RX1 = some m.cls := findClass_of_methodNamed B.named
  have hin0 : ∀ w ∈ wsX10, w ∈ wsX1_fill := by decide +kernel
  have hf7 := hts (.fieldLink RX1 7 "PageMergerModel" "words" "[I") (by decide +kernel)
  have hf13 := hts (.fieldLink RX1 13 "PageMergerModel" "released" "[Z") (by decide +kernel)
  subst hsz
  have hD := hD0.self (sz := s.heap.size)
  generalize hAe : va_A (W1 h0 qa qb cI cZ w h) s.heap.size = A at hD ⊢
  have hA : ∀ q : Nat, s.heap.size ≤ q → A q := fun q h => by rw [← hAe]; exact Or.inr h
  have hS : va_S A s.heap s.heap [] := va_S.rf
  have hl := lv_entry ([.ref h0, .int (p1), .int (p2)]) (n := 4) (Nat.le_of_ble_eq_true rfl)
  rw [lg_entry_eq]
  generalize (lg_sl ([.ref h0, .int (p1), .int (p2)]) ++ List.replicate (4 - (lg_sl ([.ref h0, .int (p1), .int (p2)])).length) Slot.unset).toArray = ls at hl ⊢
  have hl : lv_has ls 4 [(0, .ref h0), (1, .int (p1)), (2, .int (p2))] := hl
  refine lv_aload_n hx hb dX1_fill_0 rfl (lv_at hl 0 rfl) ?_
  refine lv_iload_n hx hb dX1_fill_1 rfl (lv_at hl 1 rfl) ?_
  refine vp_callSi (va_Run.run (va_runV (As := [.int (p1)]) (rest := []) ⟨hx, hb, hml, hown, hts⟩ (k1_isPage l h0 p1) (cwV 1 hts gX1_fill_X1_isPage rfl rfl rfl (by decide +kernel) ⟨Nat.le_of_ble_eq_true rfl, Nat.le_of_ble_eq_true rfl⟩) ⟨bl_T, va_recv hK hP (ci := 1) (q0 := 0) rfl rfl, fun U hU hW => ⟨rfl, trivial⟩⟩ rfl rfl hl.1 rfl (lv_room (Nat.le_of_ble_eq_true rfl)) dX1_fill_2 ⟨Nat.zero_le _, Nat.zero_le _⟩)) (fun r_2 hr_2 => ?_)
  obtain rfl : r_2 = (bI (okP 24 p1)) := hr_2
  refine lv_if_ne (tgt := 10) hx hb dX1_fill_5 (by decide) (fun c_5 => ?_) (fun c_5 => ?_)
  · have hb_5 : (okP 24 p1) = true := bI_t c_5
    obtain ⟨j1, hj1, rfl⟩ := okP_of hb_5 (by decide)
    have hg_j1 : pg (nI j1) = j1 := pg_nI (by omega)
    refine lv_iconst (v := (nI 0)) hx hb dX1_fill_10 (by decide +kernel) ?_
    refine lv_istore_n (lv' := [(3, .int (nI 0)), (0, .ref h0), (1, .int (nI j1)), (2, .int (p2))]) hx hb dX1_fill_11 rfl hl (by decide) rfl (fun ls hl => ?_)
    refine lp_Q 12 4 (fun i12 H locs ls => lv_has ls 4 [(3, .int (nI i12)), (0, .ref h0), (1, .int (nI j1)), (2, .int (p2))] ∧ va_P (dC, dI) vwCl (W1 h0 qa qb cI cZ (fillN w j1 p2 i12) h) H ∧ va_D A (W1 h0 qa qb cI cZ (fillN w j1 p2 i12) h) ∧ va_S A s.heap H locs) (fun i12 H locs ls hi_12 hI hnx_12 => ?_) 0 (by omega) _ _ ls ⟨lv_sub hl [0, 1, 2, 3] rfl, hP, hD, hS⟩
    obtain ⟨hl, hP, hD, hS⟩ := hI
    refine lv_iload_n hx hb dX1_fill_12 rfl (lv_at hl 0 rfl) ?_
    refine lv_iconst (v := (nI 4)) hx hb dX1_fill_13 (by decide +kernel) ?_
    refine lv_icmp_ge (tgt := 34) hx hb dX1_fill_14 (by decide) (fun c_14 => ?_) (fun c_14 => ?_)
    · have hq_14 : 4 ≤ i12 := (nI_leI (by omega) (by omega)).mp c_14
      have hE_14 : i12 = 4 := by omega
      subst hE_14
      refine lv_aload_n hx hb dX1_fill_34 rfl (lv_at hl 1 rfl) ?_
      refine va_get (D := (dC, dI)) (ci := 1) (v := .ref qb) (C := RX1) (T := TX1) (N := 2) hx hb hts hin0 hown hK hP 0 rfl rfl 1 (by decide) hf13 (fun _ h9 => h9) rfl dX1_fill_35 ?_
      refine lv_iload_n hx hb dX1_fill_38 rfl (lv_at hl 2 rfl) ?_
      refine lv_iconst (v := (nI 0)) hx hb dX1_fill_39 (by decide +kernel) ?_
      refine my_zastN hx hb hK hP hD hS 2 1 rfl rfl true bI_0 (by omega) (by decide) dX1_fill_40 (fun H locs hP hD hS => ?_)
      have hP : va_P (dC, dI) vwCl (W1 h0 qa qb cI cZ (fillN w j1 p2 4) (updB h j1 true)) H := hP
      have hD : va_D A (W1 h0 qa qb cI cZ (fillN w j1 p2 4) (updB h j1 true)) := hD
      refine lv_iconst (v := (nI 0)) hx hb dX1_fill_41 (by decide +kernel) ?_
      have eW : w_fill w (nI j1) p2 = fillN w j1 p2 4 := by simp [s_page, w_fill, h_fill, hb_5, hg_j1]
      have eH : h_fill h (nI j1) = updB h j1 true := by simp [s_page, w_fill, h_fill, hb_5, hg_j1]
      have eR : (nI 0) = s_page (nI j1) := by simp [s_page, w_fill, h_fill, hb_5, hg_j1, nI_0]
      exact W.iret (v := (nI 0)) hx hb hr (fun t ht hW => ⟨⟨_, (), rfl, eR, by rw [eW, eH, ht]; exact hP, va_K.moved hW.alike hK, by rw [eW, eH]; exact hD⟩, hS.F ht⟩) hS.2.2 dX1_fill_42
    · have hlt_12 : i12 < 4 := Nat.lt_of_not_le (fun q => c_14 ((nI_leI (by omega) (by omega)).mpr q))
      refine lv_aload_n hx hb dX1_fill_17 rfl (lv_at hl 1 rfl) ?_
      refine va_get (D := (dC, dI)) (ci := 1) (v := .ref qa) (C := RX1) (T := TX1) (N := 2) hx hb hts hin0 hown hK hP 0 rfl rfl 0 (by decide) hf7 (fun _ h9 => h9) rfl dX1_fill_18 ?_
      refine lv_iload_n hx hb dX1_fill_21 rfl (lv_at hl 2 rfl) ?_
      refine lv_iconst (v := (nI 4)) hx hb dX1_fill_22 (by decide +kernel) ?_
      refine my_mul hx hb dX1_fill_23 ?_
      refine lv_iload_n hx hb dX1_fill_24 rfl (lv_at hl 0 rfl) ?_
      refine my_add hx hb dX1_fill_25 ?_
      refine lv_iload_n hx hb dX1_fill_26 rfl (lv_at hl 3 rfl) ?_
      refine my_iast hx hb hK hP hD hS 1 0 rfl rfl (by omega) (by decide) dX1_fill_27 (fun H locs hP hD hS => ?_)
      have hP : va_P (dC, dI) vwCl (W1 h0 qa qb cI cZ (upd (fillN w j1 p2 i12) (j1 * 4 + i12) p2) h) H := hP
      have hD : va_D A (W1 h0 qa qb cI cZ (upd (fillN w j1 p2 i12) (j1 * 4 + i12) p2) h) := hD
      refine lv_iinc (v := (nI (i12 + 1))) (lv' := [(3, .int (nI (i12 + 1))), (0, .ref h0), (1, .int (nI j1)), (2, .int (p2))]) hx hb dX1_fill_28 hl (k := 0) rfl (nI_1 _) (by decide) rfl (fun ls hl => ?_)
      refine lv_goto (tgt := 12) hx hb dX1_fill_31 (by decide) ?_
      exact hnx_12 hlt_12 _ _ ls ⟨lv_sub hl [0, 1, 2, 3] rfl, hP, hD, hS⟩
  · have hb_5 : (okP 24 p1) = false := bI_f c_5
    refine lv_iconst (v := (-1)) hx hb dX1_fill_8 (by decide +kernel) ?_
    have eW : w_fill w p1 p2 = w := by simp [s_page, w_fill, h_fill, hb_5]
    have eH : h_fill h p1 = h := by simp [s_page, w_fill, h_fill, hb_5]
    have eR : (-1) = s_page p1 := by simp [s_page, w_fill, h_fill, hb_5, nI_0]
    exact W.iret (v := (-1)) hx hb hr (fun t ht hW => ⟨⟨_, (), rfl, eR, by rw [eW, eH, ht]; exact hP, va_K.moved hW.alike hK, by rw [eW, eH]; exact hD⟩, hS.F ht⟩) hS.2.2 dX1_fill_9
set_option maxHeartbeats 4000000 in
set_option maxRecDepth 100000 in
theorem k1_copy (l : Launch) (dC : Nat → ClassId) (dI : Nat → Nat → Nat) (h0 qa qb : Nat) (cI cZ : ClassId) (sz : Nat) (w : Nat → Int32) (h : Nat → Bool) (p1 : Int32) (p2 : Int32)  : Met l yX1_copy wsX1_copy ({ frames := 1, cells := 0, slots := 0, locals := 21 }) (va_Pc [.ref h0, .int (p1), .int (p2)] (fun U => U.heap.size = sz ∧ va_P (dC, dI) vwCl (W1 h0 qa qb cI cZ w h) U.heap ∧ va_K (dC, dI) vwCl (TY cI cZ) U ∧ va_D (fun _ => True) (W1 h0 qa qb cI cZ w h))) (va_Qi (fun r (_ : Unit) => r = s_two p1 p2) (fun _ t => va_P (dC, dI) vwCl (W1 h0 qa qb cI cZ (w_copy w p1 p2) (h_copy h p1 p2)) t.heap ∧ va_K (dC, dI) vwCl (TY cI cZ) t ∧ va_D (va_A (W1 h0 qa qb cI cZ w h) sz) (W1 h0 qa qb cI cZ (w_copy w p1 p2) (h_copy h p1 p2))) (va_A (W1 h0 qa qb cI cZ w h) sz)) 0 0 (va_A (W1 h0 qa qb cI cZ w h) sz) := by
  refine Met.ofW (cc := cX1_copy) (maxL := 4) (ret := (some .int)) (by decide) rfl ?_
  intro p e s m args below meth c s₁ B hml hv
  obtain ⟨rfl, hsz, hP, hK, hD0⟩ := hv
  have hx := B.exec
  have hb := B.bytes
  have hr := B.returns
  have hlocks := B.notSynchronized
  have hts := atoms_spec (ws := wsX1_copy) B.pre
  have hown : s.vm.findClass RX1 = some m.cls := findClass_of_methodNamed B.named
  have hin0 : ∀ w ∈ wsX10, w ∈ wsX1_copy := by decide +kernel
  have hf7 := hts (.fieldLink RX1 7 "PageMergerModel" "words" "[I") (by decide +kernel)
  have hf13 := hts (.fieldLink RX1 13 "PageMergerModel" "released" "[Z") (by decide +kernel)
  subst hsz
  have hD := hD0.self (sz := s.heap.size)
  generalize hAe : va_A (W1 h0 qa qb cI cZ w h) s.heap.size = A at hD ⊢
  have hA : ∀ q : Nat, s.heap.size ≤ q → A q := fun q h => by rw [← hAe]; exact Or.inr h
  have hS : va_S A s.heap s.heap [] := va_S.rf
  have hl := lv_entry ([.ref h0, .int (p1), .int (p2)]) (n := 4) (Nat.le_of_ble_eq_true rfl)
  rw [lg_entry_eq]
  generalize (lg_sl ([.ref h0, .int (p1), .int (p2)]) ++ List.replicate (4 - (lg_sl ([.ref h0, .int (p1), .int (p2)])).length) Slot.unset).toArray = ls at hl ⊢
  have hl : lv_has ls 4 [(0, .ref h0), (1, .int (p1)), (2, .int (p2))] := hl
  refine lv_aload_n hx hb dX1_copy_0 rfl (lv_at hl 0 rfl) ?_
  refine lv_iload_n hx hb dX1_copy_1 rfl (lv_at hl 1 rfl) ?_
  refine vp_callSi (va_Run.run (va_runV (As := [.int (p1)]) (rest := []) ⟨hx, hb, hml, hown, hts⟩ (k1_isPage l h0 p1) (cwV 1 hts gX1_copy_X1_isPage rfl rfl rfl (by decide +kernel) ⟨Nat.le_of_ble_eq_true rfl, Nat.le_of_ble_eq_true rfl⟩) ⟨bl_T, va_recv hK hP (ci := 1) (q0 := 0) rfl rfl, fun U hU hW => ⟨rfl, trivial⟩⟩ rfl rfl hl.1 rfl (lv_room (Nat.le_of_ble_eq_true rfl)) dX1_copy_2 ⟨Nat.zero_le _, Nat.zero_le _⟩)) (fun r_2 hr_2 => ?_)
  obtain rfl : r_2 = (bI (okP 24 p1)) := hr_2
  refine lv_if_eq (tgt := 16) hx hb dX1_copy_5 (by decide) (fun c_5 => ?_) (fun c_5 => ?_)
  · have hb_5 : (okP 24 p1) = false := bI_f c_5
    refine lv_iconst (v := (-1)) hx hb dX1_copy_16 (by decide +kernel) ?_
    have eW : w_copy w p1 p2 = w := by simp [s_two, w_copy, h_copy, hb_5]
    have eH : h_copy h p1 p2 = h := by simp [s_two, w_copy, h_copy, hb_5]
    have eR : (-1) = s_two p1 p2 := by simp [s_two, w_copy, h_copy, hb_5, nI_0]
    exact W.iret (v := (-1)) hx hb hr (fun t ht hW => ⟨⟨_, (), rfl, eR, by rw [eW, eH, ht]; exact hP, va_K.moved hW.alike hK, by rw [eW, eH]; exact hD⟩, hS.F ht⟩) hS.2.2 dX1_copy_17
  · have hb_5 : (okP 24 p1) = true := bI_t c_5
    obtain ⟨j1, hj1, rfl⟩ := okP_of hb_5 (by decide)
    have hg_j1 : pg (nI j1) = j1 := pg_nI (by omega)
    refine lv_aload_n hx hb dX1_copy_8 rfl (lv_at hl 0 rfl) ?_
    refine lv_iload_n hx hb dX1_copy_9 rfl (lv_at hl 2 rfl) ?_
    refine vp_callSi (va_Run.run (va_runV (As := [.int (p2)]) (rest := []) ⟨hx, hb, hml, hown, hts⟩ (k1_isPage l h0 p2) (cwV 1 hts gX1_copy_X1_isPage rfl rfl rfl (by decide +kernel) ⟨Nat.le_of_ble_eq_true rfl, Nat.le_of_ble_eq_true rfl⟩) ⟨bl_T, va_recv hK hP (ci := 1) (q0 := 0) rfl rfl, fun U hU hW => ⟨rfl, trivial⟩⟩ rfl rfl hl.1 rfl (lv_room (Nat.le_of_ble_eq_true rfl)) dX1_copy_10 ⟨Nat.zero_le _, Nat.zero_le _⟩)) (fun r_10 hr_10 => ?_)
    obtain rfl : r_10 = (bI (okP 24 p2)) := hr_10
    refine lv_if_ne (tgt := 18) hx hb dX1_copy_13 (by decide) (fun c_13 => ?_) (fun c_13 => ?_)
    · have hb_13 : (okP 24 p2) = true := bI_t c_13
      obtain ⟨j2, hj2, rfl⟩ := okP_of hb_13 (by decide)
      have hg_j2 : pg (nI j2) = j2 := pg_nI (by omega)
      refine lv_iconst (v := (nI 0)) hx hb dX1_copy_18 (by decide +kernel) ?_
      refine lv_istore_n (lv' := [(3, .int (nI 0)), (0, .ref h0), (1, .int (nI j1)), (2, .int (nI j2))]) hx hb dX1_copy_19 rfl hl (by decide) rfl (fun ls hl => ?_)
      refine lp_Q 20 4 (fun i20 H locs ls => lv_has ls 4 [(3, .int (nI i20)), (0, .ref h0), (1, .int (nI j1)), (2, .int (nI j2))] ∧ va_P (dC, dI) vwCl (W1 h0 qa qb cI cZ (copyN w j1 j2 i20) h) H ∧ va_D A (W1 h0 qa qb cI cZ (copyN w j1 j2 i20) h) ∧ va_S A s.heap H locs) (fun i20 H locs ls hi_20 hI hnx_20 => ?_) 0 (by omega) _ _ ls ⟨lv_sub hl [0, 1, 2, 3] rfl, hP, hD, hS⟩
      obtain ⟨hl, hP, hD, hS⟩ := hI
      refine lv_iload_n hx hb dX1_copy_20 rfl (lv_at hl 0 rfl) ?_
      refine lv_iconst (v := (nI 4)) hx hb dX1_copy_21 (by decide +kernel) ?_
      refine lv_icmp_ge (tgt := 51) hx hb dX1_copy_22 (by decide) (fun c_22 => ?_) (fun c_22 => ?_)
      · have hq_22 : 4 ≤ i20 := (nI_leI (by omega) (by omega)).mp c_22
        have hE_22 : i20 = 4 := by omega
        subst hE_22
        refine lv_aload_n hx hb dX1_copy_51 rfl (lv_at hl 1 rfl) ?_
        refine va_get (D := (dC, dI)) (ci := 1) (v := .ref qb) (C := RX1) (T := TX1) (N := 2) hx hb hts hin0 hown hK hP 0 rfl rfl 1 (by decide) hf13 (fun _ h9 => h9) rfl dX1_copy_52 ?_
        refine lv_iload_n hx hb dX1_copy_55 rfl (lv_at hl 3 rfl) ?_
        refine lv_aload_n hx hb dX1_copy_56 rfl (lv_at hl 1 rfl) ?_
        refine va_get (D := (dC, dI)) (ci := 1) (v := .ref qb) (C := RX1) (T := TX1) (N := 2) hx hb hts hin0 hown hK hP 0 rfl rfl 1 (by decide) hf13 (fun _ h9 => h9) rfl dX1_copy_57 ?_
        refine lv_iload_n hx hb dX1_copy_60 rfl (lv_at hl 2 rfl) ?_
        refine my_zaldN hx hb hK hP 2 1 rfl rfl (by omega) (by decide) dX1_copy_61 ?_
        refine my_zastN hx hb hK hP hD hS 2 1 rfl rfl (h j1) rfl (by omega) (by decide) dX1_copy_62 (fun H locs hP hD hS => ?_)
        have hP : va_P (dC, dI) vwCl (W1 h0 qa qb cI cZ (copyN w j1 j2 4) (updB h j2 (h j1))) H := hP
        have hD : va_D A (W1 h0 qa qb cI cZ (copyN w j1 j2 4) (updB h j2 (h j1))) := hD
        refine lv_iconst (v := (nI 0)) hx hb dX1_copy_63 (by decide +kernel) ?_
        have eW : w_copy w (nI j1) (nI j2) = copyN w j1 j2 4 := by simp [s_two, w_copy, h_copy, hb_5, hg_j1, hb_13, hg_j2]
        have eH : h_copy h (nI j1) (nI j2) = updB h j2 (h j1) := by simp [s_two, w_copy, h_copy, hb_5, hg_j1, hb_13, hg_j2]
        have eR : (nI 0) = s_two (nI j1) (nI j2) := by simp [s_two, w_copy, h_copy, hb_5, hg_j1, hb_13, hg_j2, nI_0]
        exact W.iret (v := (nI 0)) hx hb hr (fun t ht hW => ⟨⟨_, (), rfl, eR, by rw [eW, eH, ht]; exact hP, va_K.moved hW.alike hK, by rw [eW, eH]; exact hD⟩, hS.F ht⟩) hS.2.2 dX1_copy_64
      · have hlt_20 : i20 < 4 := Nat.lt_of_not_le (fun q => c_22 ((nI_leI (by omega) (by omega)).mpr q))
        refine lv_aload_n hx hb dX1_copy_25 rfl (lv_at hl 1 rfl) ?_
        refine va_get (D := (dC, dI)) (ci := 1) (v := .ref qa) (C := RX1) (T := TX1) (N := 2) hx hb hts hin0 hown hK hP 0 rfl rfl 0 (by decide) hf7 (fun _ h9 => h9) rfl dX1_copy_26 ?_
        refine lv_iload_n hx hb dX1_copy_29 rfl (lv_at hl 3 rfl) ?_
        refine lv_iconst (v := (nI 4)) hx hb dX1_copy_30 (by decide +kernel) ?_
        refine my_mul hx hb dX1_copy_31 ?_
        refine lv_iload_n hx hb dX1_copy_32 rfl (lv_at hl 0 rfl) ?_
        refine my_add hx hb dX1_copy_33 ?_
        refine lv_aload_n hx hb dX1_copy_34 rfl (lv_at hl 1 rfl) ?_
        refine va_get (D := (dC, dI)) (ci := 1) (v := .ref qa) (C := RX1) (T := TX1) (N := 2) hx hb hts hin0 hown hK hP 0 rfl rfl 0 (by decide) hf7 (fun _ h9 => h9) rfl dX1_copy_35 ?_
        refine lv_iload_n hx hb dX1_copy_38 rfl (lv_at hl 2 rfl) ?_
        refine lv_iconst (v := (nI 4)) hx hb dX1_copy_39 (by decide +kernel) ?_
        refine my_mul hx hb dX1_copy_40 ?_
        refine lv_iload_n hx hb dX1_copy_41 rfl (lv_at hl 0 rfl) ?_
        refine my_add hx hb dX1_copy_42 ?_
        refine my_iald hx hb hK hP 1 0 rfl rfl (by omega) (by decide) dX1_copy_43 ?_
        refine my_iast hx hb hK hP hD hS 1 0 rfl rfl (by omega) (by decide) dX1_copy_44 (fun H locs hP hD hS => ?_)
        have hP : va_P (dC, dI) vwCl (W1 h0 qa qb cI cZ (upd (copyN w j1 j2 i20) (j2 * 4 + i20) ((copyN w j1 j2 i20) (j1 * 4 + i20))) h) H := hP
        have hD : va_D A (W1 h0 qa qb cI cZ (upd (copyN w j1 j2 i20) (j2 * 4 + i20) ((copyN w j1 j2 i20) (j1 * 4 + i20))) h) := hD
        refine lv_iinc (v := (nI (i20 + 1))) (lv' := [(3, .int (nI (i20 + 1))), (0, .ref h0), (1, .int (nI j1)), (2, .int (nI j2))]) hx hb dX1_copy_45 hl (k := 0) rfl (nI_1 _) (by decide) rfl (fun ls hl => ?_)
        refine lv_goto (tgt := 20) hx hb dX1_copy_48 (by decide) ?_
        exact hnx_20 hlt_20 _ _ ls ⟨lv_sub hl [0, 1, 2, 3] rfl, hP, hD, hS⟩
    · have hb_13 : (okP 24 p2) = false := bI_f c_13
      refine lv_iconst (v := (-1)) hx hb dX1_copy_16 (by decide +kernel) ?_
      have eW : w_copy w (nI j1) p2 = w := by simp [s_two, w_copy, h_copy, hb_5, hg_j1, hb_13]
      have eH : h_copy h (nI j1) p2 = h := by simp [s_two, w_copy, h_copy, hb_5, hg_j1, hb_13]
      have eR : (-1) = s_two (nI j1) p2 := by simp [s_two, w_copy, h_copy, hb_5, hg_j1, hb_13, nI_0]
      exact W.iret (v := (-1)) hx hb hr (fun t ht hW => ⟨⟨_, (), rfl, eR, by rw [eW, eH, ht]; exact hP, va_K.moved hW.alike hK, by rw [eW, eH]; exact hD⟩, hS.F ht⟩) hS.2.2 dX1_copy_17
set_option maxHeartbeats 4000000 in
set_option maxRecDepth 100000 in
theorem k1_swap (l : Launch) (dC : Nat → ClassId) (dI : Nat → Nat → Nat) (h0 qa qb : Nat) (cI cZ : ClassId) (sz : Nat) (w : Nat → Int32) (h : Nat → Bool) (p1 : Int32) (p2 : Int32)  : Met l yX1_swap wsX1_swap ({ frames := 1, cells := 0, slots := 0, locals := 21 }) (va_Pc [.ref h0, .int (p1), .int (p2)] (fun U => U.heap.size = sz ∧ va_P (dC, dI) vwCl (W1 h0 qa qb cI cZ w h) U.heap ∧ va_K (dC, dI) vwCl (TY cI cZ) U ∧ va_D (fun _ => True) (W1 h0 qa qb cI cZ w h))) (va_Qi (fun r (_ : Unit) => r = s_two p1 p2) (fun _ t => va_P (dC, dI) vwCl (W1 h0 qa qb cI cZ (w_swap w p1 p2) (h_swap h p1 p2)) t.heap ∧ va_K (dC, dI) vwCl (TY cI cZ) t ∧ va_D (va_A (W1 h0 qa qb cI cZ w h) sz) (W1 h0 qa qb cI cZ (w_swap w p1 p2) (h_swap h p1 p2))) (va_A (W1 h0 qa qb cI cZ w h) sz)) 0 0 (va_A (W1 h0 qa qb cI cZ w h) sz) := by
  refine Met.ofW (cc := cX1_swap) (maxL := 5) (ret := (some .int)) (by decide) rfl ?_
  intro p e s m args below meth c s₁ B hml hv
  obtain ⟨rfl, hsz, hP, hK, hD0⟩ := hv
  have hx := B.exec
  have hb := B.bytes
  have hr := B.returns
  have hlocks := B.notSynchronized
  have hts := atoms_spec (ws := wsX1_swap) B.pre
  have hown : s.vm.findClass RX1 = some m.cls := findClass_of_methodNamed B.named
  have hin0 : ∀ w ∈ wsX10, w ∈ wsX1_swap := by decide +kernel
  have hf7 := hts (.fieldLink RX1 7 "PageMergerModel" "words" "[I") (by decide +kernel)
  have hf13 := hts (.fieldLink RX1 13 "PageMergerModel" "released" "[Z") (by decide +kernel)
  subst hsz
  have hD := hD0.self (sz := s.heap.size)
  generalize hAe : va_A (W1 h0 qa qb cI cZ w h) s.heap.size = A at hD ⊢
  have hA : ∀ q : Nat, s.heap.size ≤ q → A q := fun q h => by rw [← hAe]; exact Or.inr h
  have hS : va_S A s.heap s.heap [] := va_S.rf
  have hl := lv_entry ([.ref h0, .int (p1), .int (p2)]) (n := 5) (Nat.le_of_ble_eq_true rfl)
  rw [lg_entry_eq]
  generalize (lg_sl ([.ref h0, .int (p1), .int (p2)]) ++ List.replicate (5 - (lg_sl ([.ref h0, .int (p1), .int (p2)])).length) Slot.unset).toArray = ls at hl ⊢
  have hl : lv_has ls 5 [(0, .ref h0), (1, .int (p1)), (2, .int (p2))] := hl
  refine lv_aload_n hx hb dX1_swap_0 rfl (lv_at hl 0 rfl) ?_
  refine lv_iload_n hx hb dX1_swap_1 rfl (lv_at hl 1 rfl) ?_
  refine vp_callSi (va_Run.run (va_runV (As := [.int (p1)]) (rest := []) ⟨hx, hb, hml, hown, hts⟩ (k1_isPage l h0 p1) (cwV 1 hts gX1_swap_X1_isPage rfl rfl rfl (by decide +kernel) ⟨Nat.le_of_ble_eq_true rfl, Nat.le_of_ble_eq_true rfl⟩) ⟨bl_T, va_recv hK hP (ci := 1) (q0 := 0) rfl rfl, fun U hU hW => ⟨rfl, trivial⟩⟩ rfl rfl hl.1 rfl (lv_room (Nat.le_of_ble_eq_true rfl)) dX1_swap_2 ⟨Nat.zero_le _, Nat.zero_le _⟩)) (fun r_2 hr_2 => ?_)
  obtain rfl : r_2 = (bI (okP 24 p1)) := hr_2
  refine lv_if_eq (tgt := 16) hx hb dX1_swap_5 (by decide) (fun c_5 => ?_) (fun c_5 => ?_)
  · have hb_5 : (okP 24 p1) = false := bI_f c_5
    refine lv_iconst (v := (-1)) hx hb dX1_swap_16 (by decide +kernel) ?_
    have eW : w_swap w p1 p2 = w := by simp [s_two, w_swap, h_swap, hb_5]
    have eH : h_swap h p1 p2 = h := by simp [s_two, w_swap, h_swap, hb_5]
    have eR : (-1) = s_two p1 p2 := by simp [s_two, w_swap, h_swap, hb_5, nI_0]
    exact W.iret (v := (-1)) hx hb hr (fun t ht hW => ⟨⟨_, (), rfl, eR, by rw [eW, eH, ht]; exact hP, va_K.moved hW.alike hK, by rw [eW, eH]; exact hD⟩, hS.F ht⟩) hS.2.2 dX1_swap_17
  · have hb_5 : (okP 24 p1) = true := bI_t c_5
    obtain ⟨j1, hj1, rfl⟩ := okP_of hb_5 (by decide)
    have hg_j1 : pg (nI j1) = j1 := pg_nI (by omega)
    refine lv_aload_n hx hb dX1_swap_8 rfl (lv_at hl 0 rfl) ?_
    refine lv_iload_n hx hb dX1_swap_9 rfl (lv_at hl 2 rfl) ?_
    refine vp_callSi (va_Run.run (va_runV (As := [.int (p2)]) (rest := []) ⟨hx, hb, hml, hown, hts⟩ (k1_isPage l h0 p2) (cwV 1 hts gX1_swap_X1_isPage rfl rfl rfl (by decide +kernel) ⟨Nat.le_of_ble_eq_true rfl, Nat.le_of_ble_eq_true rfl⟩) ⟨bl_T, va_recv hK hP (ci := 1) (q0 := 0) rfl rfl, fun U hU hW => ⟨rfl, trivial⟩⟩ rfl rfl hl.1 rfl (lv_room (Nat.le_of_ble_eq_true rfl)) dX1_swap_10 ⟨Nat.zero_le _, Nat.zero_le _⟩)) (fun r_10 hr_10 => ?_)
    obtain rfl : r_10 = (bI (okP 24 p2)) := hr_10
    refine lv_if_ne (tgt := 18) hx hb dX1_swap_13 (by decide) (fun c_13 => ?_) (fun c_13 => ?_)
    · have hb_13 : (okP 24 p2) = true := bI_t c_13
      obtain ⟨j2, hj2, rfl⟩ := okP_of hb_13 (by decide)
      have hg_j2 : pg (nI j2) = j2 := pg_nI (by omega)
      refine lv_iconst (v := (nI 0)) hx hb dX1_swap_18 (by decide +kernel) ?_
      refine lv_istore_n (lv' := [(3, .int (nI 0)), (0, .ref h0), (1, .int (nI j1)), (2, .int (nI j2))]) hx hb dX1_swap_19 rfl hl (by decide) rfl (fun ls hl => ?_)
      refine lp_Q 20 4 (fun i20 H locs ls => lv_has ls 5 [(3, .int (nI i20)), (0, .ref h0), (1, .int (nI j1)), (2, .int (nI j2))] ∧ va_P (dC, dI) vwCl (W1 h0 qa qb cI cZ (swapN w j1 j2 i20) h) H ∧ va_D A (W1 h0 qa qb cI cZ (swapN w j1 j2 i20) h) ∧ va_S A s.heap H locs) (fun i20 H locs ls hi_20 hI hnx_20 => ?_) 0 (by omega) _ _ ls ⟨lv_sub hl [0, 1, 2, 3] rfl, hP, hD, hS⟩
      obtain ⟨hl, hP, hD, hS⟩ := hI
      refine lv_iload_n hx hb dX1_swap_20 rfl (lv_at hl 0 rfl) ?_
      refine lv_iconst (v := (nI 4)) hx hb dX1_swap_21 (by decide +kernel) ?_
      refine lv_icmp_ge (tgt := 75) hx hb dX1_swap_22 (by decide) (fun c_22 => ?_) (fun c_22 => ?_)
      · have hq_22 : 4 ≤ i20 := (nI_leI (by omega) (by omega)).mp c_22
        have hE_22 : i20 = 4 := by omega
        subst hE_22
        refine lv_aload_n hx hb dX1_swap_75 rfl (lv_at hl 1 rfl) ?_
        refine va_get (D := (dC, dI)) (ci := 1) (v := .ref qb) (C := RX1) (T := TX1) (N := 2) hx hb hts hin0 hown hK hP 0 rfl rfl 1 (by decide) hf13 (fun _ h9 => h9) rfl dX1_swap_76 ?_
        refine lv_iload_n hx hb dX1_swap_79 rfl (lv_at hl 2 rfl) ?_
        refine my_zaldN hx hb hK hP 2 1 rfl rfl (by omega) (by decide) dX1_swap_80 ?_
        refine lv_istore_n (lv' := [(3, .int (bI (!h j1))), (0, .ref h0), (1, .int (nI j1)), (2, .int (nI j2))]) hx hb dX1_swap_81 rfl hl (by decide) rfl (fun ls hl => ?_)
        refine lv_aload_n hx hb dX1_swap_82 rfl (lv_at hl 1 rfl) ?_
        refine va_get (D := (dC, dI)) (ci := 1) (v := .ref qb) (C := RX1) (T := TX1) (N := 2) hx hb hts hin0 hown hK hP 0 rfl rfl 1 (by decide) hf13 (fun _ h9 => h9) rfl dX1_swap_83 ?_
        refine lv_iload_n hx hb dX1_swap_86 rfl (lv_at hl 2 rfl) ?_
        refine lv_aload_n hx hb dX1_swap_87 rfl (lv_at hl 1 rfl) ?_
        refine va_get (D := (dC, dI)) (ci := 1) (v := .ref qb) (C := RX1) (T := TX1) (N := 2) hx hb hts hin0 hown hK hP 0 rfl rfl 1 (by decide) hf13 (fun _ h9 => h9) rfl dX1_swap_88 ?_
        refine lv_iload_n hx hb dX1_swap_91 rfl (lv_at hl 3 rfl) ?_
        refine my_zaldN hx hb hK hP 2 1 rfl rfl (by omega) (by decide) dX1_swap_92 ?_
        refine my_zastN hx hb hK hP hD hS 2 1 rfl rfl (h j2) rfl (by omega) (by decide) dX1_swap_93 (fun H locs hP hD hS => ?_)
        have hP : va_P (dC, dI) vwCl (W1 h0 qa qb cI cZ (swapN w j1 j2 4) (updB h j1 (h j2))) H := hP
        have hD : va_D A (W1 h0 qa qb cI cZ (swapN w j1 j2 4) (updB h j1 (h j2))) := hD
        refine lv_aload_n hx hb dX1_swap_94 rfl (lv_at hl 1 rfl) ?_
        refine va_get (D := (dC, dI)) (ci := 1) (v := .ref qb) (C := RX1) (T := TX1) (N := 2) hx hb hts hin0 hown hK hP 0 rfl rfl 1 (by decide) hf13 (fun _ h9 => h9) rfl dX1_swap_95 ?_
        refine lv_iload_n hx hb dX1_swap_98 rfl (lv_at hl 3 rfl) ?_
        refine lv_iload_n hx hb dX1_swap_99 rfl (lv_at hl 0 rfl) ?_
        refine my_zastN hx hb hK hP hD hS 2 1 rfl rfl (h j1) rfl (by omega) (by decide) dX1_swap_100 (fun H locs hP hD hS => ?_)
        have hP : va_P (dC, dI) vwCl (W1 h0 qa qb cI cZ (swapN w j1 j2 4) (updB (updB h j1 (h j2)) j2 (h j1))) H := hP
        have hD : va_D A (W1 h0 qa qb cI cZ (swapN w j1 j2 4) (updB (updB h j1 (h j2)) j2 (h j1))) := hD
        refine lv_iconst (v := (nI 0)) hx hb dX1_swap_101 (by decide +kernel) ?_
        have eW : w_swap w (nI j1) (nI j2) = swapN w j1 j2 4 := by simp [s_two, w_swap, h_swap, hb_5, hg_j1, hb_13, hg_j2]
        have eH : h_swap h (nI j1) (nI j2) = updB (updB h j1 (h j2)) j2 (h j1) := by simp [s_two, w_swap, h_swap, hb_5, hg_j1, hb_13, hg_j2]
        have eR : (nI 0) = s_two (nI j1) (nI j2) := by simp [s_two, w_swap, h_swap, hb_5, hg_j1, hb_13, hg_j2, nI_0]
        exact W.iret (v := (nI 0)) hx hb hr (fun t ht hW => ⟨⟨_, (), rfl, eR, by rw [eW, eH, ht]; exact hP, va_K.moved hW.alike hK, by rw [eW, eH]; exact hD⟩, hS.F ht⟩) hS.2.2 dX1_swap_102
      · have hlt_20 : i20 < 4 := Nat.lt_of_not_le (fun q => c_22 ((nI_leI (by omega) (by omega)).mpr q))
        refine lv_aload_n hx hb dX1_swap_25 rfl (lv_at hl 1 rfl) ?_
        refine va_get (D := (dC, dI)) (ci := 1) (v := .ref qa) (C := RX1) (T := TX1) (N := 2) hx hb hts hin0 hown hK hP 0 rfl rfl 0 (by decide) hf7 (fun _ h9 => h9) rfl dX1_swap_26 ?_
        refine lv_iload_n hx hb dX1_swap_29 rfl (lv_at hl 2 rfl) ?_
        refine lv_iconst (v := (nI 4)) hx hb dX1_swap_30 (by decide +kernel) ?_
        refine my_mul hx hb dX1_swap_31 ?_
        refine lv_iload_n hx hb dX1_swap_32 rfl (lv_at hl 0 rfl) ?_
        refine my_add hx hb dX1_swap_33 ?_
        refine my_iald hx hb hK hP 1 0 rfl rfl (by omega) (by decide) dX1_swap_34 ?_
        refine lv_istore (lv' := [(4, .int ((swapN w j1 j2 i20) (j1 * 4 + i20))), (3, .int (nI i20)), (0, .ref h0), (1, .int (nI j1)), (2, .int (nI j2))]) hx hb dX1_swap_35 hl (by decide) rfl (fun ls hl => ?_)
        refine lv_aload_n hx hb dX1_swap_37 rfl (lv_at hl 2 rfl) ?_
        refine va_get (D := (dC, dI)) (ci := 1) (v := .ref qa) (C := RX1) (T := TX1) (N := 2) hx hb hts hin0 hown hK hP 0 rfl rfl 0 (by decide) hf7 (fun _ h9 => h9) rfl dX1_swap_38 ?_
        refine lv_iload_n hx hb dX1_swap_41 rfl (lv_at hl 3 rfl) ?_
        refine lv_iconst (v := (nI 4)) hx hb dX1_swap_42 (by decide +kernel) ?_
        refine my_mul hx hb dX1_swap_43 ?_
        refine lv_iload_n hx hb dX1_swap_44 rfl (lv_at hl 1 rfl) ?_
        refine my_add hx hb dX1_swap_45 ?_
        refine lv_aload_n hx hb dX1_swap_46 rfl (lv_at hl 2 rfl) ?_
        refine va_get (D := (dC, dI)) (ci := 1) (v := .ref qa) (C := RX1) (T := TX1) (N := 2) hx hb hts hin0 hown hK hP 0 rfl rfl 0 (by decide) hf7 (fun _ h9 => h9) rfl dX1_swap_47 ?_
        refine lv_iload_n hx hb dX1_swap_50 rfl (lv_at hl 4 rfl) ?_
        refine lv_iconst (v := (nI 4)) hx hb dX1_swap_51 (by decide +kernel) ?_
        refine my_mul hx hb dX1_swap_52 ?_
        refine lv_iload_n hx hb dX1_swap_53 rfl (lv_at hl 1 rfl) ?_
        refine my_add hx hb dX1_swap_54 ?_
        refine my_iald hx hb hK hP 1 0 rfl rfl (by omega) (by decide) dX1_swap_55 ?_
        refine my_iast hx hb hK hP hD hS 1 0 rfl rfl (by omega) (by decide) dX1_swap_56 (fun H locs hP hD hS => ?_)
        have hP : va_P (dC, dI) vwCl (W1 h0 qa qb cI cZ (upd (swapN w j1 j2 i20) (j1 * 4 + i20) ((swapN w j1 j2 i20) (j2 * 4 + i20))) h) H := hP
        have hD : va_D A (W1 h0 qa qb cI cZ (upd (swapN w j1 j2 i20) (j1 * 4 + i20) ((swapN w j1 j2 i20) (j2 * 4 + i20))) h) := hD
        refine lv_aload_n hx hb dX1_swap_57 rfl (lv_at hl 2 rfl) ?_
        refine va_get (D := (dC, dI)) (ci := 1) (v := .ref qa) (C := RX1) (T := TX1) (N := 2) hx hb hts hin0 hown hK hP 0 rfl rfl 0 (by decide) hf7 (fun _ h9 => h9) rfl dX1_swap_58 ?_
        refine lv_iload_n hx hb dX1_swap_61 rfl (lv_at hl 4 rfl) ?_
        refine lv_iconst (v := (nI 4)) hx hb dX1_swap_62 (by decide +kernel) ?_
        refine my_mul hx hb dX1_swap_63 ?_
        refine lv_iload_n hx hb dX1_swap_64 rfl (lv_at hl 1 rfl) ?_
        refine my_add hx hb dX1_swap_65 ?_
        refine lv_iload hx hb dX1_swap_66 (lv_at hl 0 rfl) ?_
        refine my_iast hx hb hK hP hD hS 1 0 rfl rfl (by omega) (by decide) dX1_swap_68 (fun H locs hP hD hS => ?_)
        have hP : va_P (dC, dI) vwCl (W1 h0 qa qb cI cZ (upd (upd (swapN w j1 j2 i20) (j1 * 4 + i20) ((swapN w j1 j2 i20) (j2 * 4 + i20))) (j2 * 4 + i20) ((swapN w j1 j2 i20) (j1 * 4 + i20))) h) H := hP
        have hD : va_D A (W1 h0 qa qb cI cZ (upd (upd (swapN w j1 j2 i20) (j1 * 4 + i20) ((swapN w j1 j2 i20) (j2 * 4 + i20))) (j2 * 4 + i20) ((swapN w j1 j2 i20) (j1 * 4 + i20))) h) := hD
        refine lv_iinc (v := (nI (i20 + 1))) (lv' := [(3, .int (nI (i20 + 1))), (4, .int ((swapN w j1 j2 i20) (j1 * 4 + i20))), (0, .ref h0), (1, .int (nI j1)), (2, .int (nI j2))]) hx hb dX1_swap_69 hl (k := 1) rfl (nI_1 _) (by decide) rfl (fun ls hl => ?_)
        refine lv_goto (tgt := 20) hx hb dX1_swap_72 (by decide) ?_
        exact hnx_20 hlt_20 _ _ ls ⟨lv_sub hl [0, 2, 3, 4] rfl, hP, hD, hS⟩
    · have hb_13 : (okP 24 p2) = false := bI_f c_13
      refine lv_iconst (v := (-1)) hx hb dX1_swap_16 (by decide +kernel) ?_
      have eW : w_swap w (nI j1) p2 = w := by simp [s_two, w_swap, h_swap, hb_5, hg_j1, hb_13]
      have eH : h_swap h (nI j1) p2 = h := by simp [s_two, w_swap, h_swap, hb_5, hg_j1, hb_13]
      have eR : (-1) = s_two (nI j1) p2 := by simp [s_two, w_swap, h_swap, hb_5, hg_j1, hb_13, nI_0]
      exact W.iret (v := (-1)) hx hb hr (fun t ht hW => ⟨⟨_, (), rfl, eR, by rw [eW, eH, ht]; exact hP, va_K.moved hW.alike hK, by rw [eW, eH]; exact hD⟩, hS.F ht⟩) hS.2.2 dX1_swap_17
set_option maxHeartbeats 4000000 in
set_option maxRecDepth 100000 in
theorem k1_release (l : Launch) (dC : Nat → ClassId) (dI : Nat → Nat → Nat) (h0 qa qb : Nat) (cI cZ : ClassId) (sz : Nat) (w : Nat → Int32) (h : Nat → Bool) (p1 : Int32)  : Met l yX1_release wsX1_release ({ frames := 2, cells := 0, slots := 0, locals := 44 }) (va_Pc [.ref h0, .int (p1)] (fun U => U.heap.size = sz ∧ va_P (dC, dI) vwCl (W1 h0 qa qb cI cZ w h) U.heap ∧ va_K (dC, dI) vwCl (TY cI cZ) U ∧ va_D (fun _ => True) (W1 h0 qa qb cI cZ w h))) (va_Qi (fun r (_ : Unit) => r = s_rel h p1) (fun _ t => va_P (dC, dI) vwCl (W1 h0 qa qb cI cZ (w_rel w h p1) (h_rel h p1)) t.heap ∧ va_K (dC, dI) vwCl (TY cI cZ) t ∧ va_D (va_A (W1 h0 qa qb cI cZ w h) sz) (W1 h0 qa qb cI cZ (w_rel w h p1) (h_rel h p1))) (va_A (W1 h0 qa qb cI cZ w h) sz)) 0 0 (va_A (W1 h0 qa qb cI cZ w h) sz) := by
  refine Met.ofW (cc := cX1_release) (maxL := 2) (ret := (some .int)) (by decide) rfl ?_
  intro p e s m args below meth c s₁ B hml hv
  obtain ⟨rfl, hsz, hP, hK, hD0⟩ := hv
  have hx := B.exec
  have hb := B.bytes
  have hr := B.returns
  have hlocks := B.notSynchronized
  have hts := atoms_spec (ws := wsX1_release) B.pre
  have hown : s.vm.findClass RX1 = some m.cls := findClass_of_methodNamed B.named
  have hin0 : ∀ w ∈ wsX10, w ∈ wsX1_release := by decide +kernel
  have hf13 := hts (.fieldLink RX1 13 "PageMergerModel" "released" "[Z") (by decide +kernel)
  subst hsz
  have hD := hD0.self (sz := s.heap.size)
  generalize hAe : va_A (W1 h0 qa qb cI cZ w h) s.heap.size = A at hD ⊢
  have hA : ∀ q : Nat, s.heap.size ≤ q → A q := fun q h => by rw [← hAe]; exact Or.inr h
  have hS : va_S A s.heap s.heap [] := va_S.rf
  have hl := lv_entry ([.ref h0, .int (p1)]) (n := 2) (Nat.le_of_ble_eq_true rfl)
  rw [lg_entry_eq]
  generalize (lg_sl ([.ref h0, .int (p1)]) ++ List.replicate (2 - (lg_sl ([.ref h0, .int (p1)])).length) Slot.unset).toArray = ls at hl ⊢
  have hl : lv_has ls 2 [(0, .ref h0), (1, .int (p1))] := hl
  refine lv_aload_n hx hb dX1_release_0 rfl (lv_at hl 0 rfl) ?_
  refine lv_iload_n hx hb dX1_release_1 rfl (lv_at hl 1 rfl) ?_
  refine vp_callSi (va_Run.run (va_runV (As := [.int (p1)]) (rest := []) ⟨hx, hb, hml, hown, hts⟩ (k1_isPage l h0 p1) (cwV 1 hts gX1_release_X1_isPage rfl rfl rfl (by decide +kernel) ⟨Nat.le_of_ble_eq_true rfl, Nat.le_of_ble_eq_true rfl⟩) ⟨bl_T, va_recv hK hP (ci := 1) (q0 := 0) rfl rfl, fun U hU hW => ⟨rfl, trivial⟩⟩ rfl rfl hl.1 rfl (lv_room (Nat.le_of_ble_eq_true rfl)) dX1_release_2 ⟨Nat.zero_le _, Nat.zero_le _⟩)) (fun r_2 hr_2 => ?_)
  obtain rfl : r_2 = (bI (okP 24 p1)) := hr_2
  refine lv_if_ne (tgt := 10) hx hb dX1_release_5 (by decide) (fun c_5 => ?_) (fun c_5 => ?_)
  · have hb_5 : (okP 24 p1) = true := bI_t c_5
    obtain ⟨j1, hj1, rfl⟩ := okP_of hb_5 (by decide)
    have hg_j1 : pg (nI j1) = j1 := pg_nI (by omega)
    refine lv_aload_n hx hb dX1_release_10 rfl (lv_at hl 0 rfl) ?_
    refine va_get (D := (dC, dI)) (ci := 1) (v := .ref qb) (C := RX1) (T := TX1) (N := 2) hx hb hts hin0 hown hK hP 0 rfl rfl 1 (by decide) hf13 (fun _ h9 => h9) rfl dX1_release_11 ?_
    refine lv_iload_n hx hb dX1_release_14 rfl (lv_at hl 1 rfl) ?_
    refine my_zaldN hx hb hK hP 2 1 rfl rfl (by omega) (by decide) dX1_release_15 ?_
    refine lv_if_eq (tgt := 22) hx hb dX1_release_16 (by decide) (fun c_16 => ?_) (fun c_16 => ?_)
    · have hb_16 : (h j1) = true := bN_f c_16
      refine lv_aload_n hx hb dX1_release_22 rfl (lv_at hl 0 rfl) ?_
      refine lv_iload_n hx hb dX1_release_23 rfl (lv_at hl 1 rfl) ?_
      refine lv_iconst (v := (nI 0)) hx hb dX1_release_24 (by decide +kernel) ?_
      have hFc := va_free (wc := W1 h0 qa qb cI cZ w h) hD hS hA [0, 1, 2] rfl
      refine va_calli (va_runV (As := [.int (nI j1), .int (nI 0)]) (rest := []) ⟨hx, hb, hml, hown, hts⟩ (k1_fill l dC dI h0 qa qb cI cZ s.heap.size w h (nI j1) (nI 0)) (cwV 2 hts gX1_release_X1_fill rfl rfl rfl (by decide +kernel) ⟨Nat.le_of_ble_eq_true rfl, Nat.le_of_ble_eq_true rfl⟩) ⟨bl_Q, va_recv hK hP (ci := 1) (q0 := 0) rfl rfl, fun U hU hW => ⟨rfl, by rw [hU], by rw [hU]; exact hP, va_K.moved hW.alike hK, hD.weaken (fun _ _ _ _ => trivial)⟩⟩ rfl rfl hl.1 rfl (lv_room (Nat.le_of_ble_eq_true rfl)) dX1_release_25 ⟨Nat.zero_le _, Nat.zero_le _⟩) hS (fun q _ h9 => hFc q h9) hFc (fun r_25 u t H1 locs ht hvm hw hB hz1 hk1 hS => ?_)
      obtain ⟨hP1, hK1, hD1⟩ := hB
      rw [ht] at hP1
      rw [show w_fill w (nI j1) (nI 0) = fillN w j1 (nI 0) 4 by simp [w_fill, hb_5, hg_j1], show h_fill h (nI j1) = updB h j1 true by simp [h_fill, hb_5, hg_j1]] at hP1 hD1
      obtain ⟨hP, hD⟩ := va_join (wr := []) (w1 := W1 h0 qa qb cI cZ (fillN w j1 (nI 0) 4) (updB h j1 true)) hP hD [0, 1, 2] [] rfl rfl (by decide) (by decide) hk1 hFc hP1 hD1
      generalize H1 = H at hP hS ⊢
      have hP : va_P (dC, dI) vwCl (W1 h0 qa qb cI cZ (fillN w j1 (nI 0) 4) (updB h j1 true)) H := hP
      have hD : va_D A (W1 h0 qa qb cI cZ (fillN w j1 (nI 0) 4) (updB h j1 true)) := hD
      refine lv_pop hx hb dX1_release_28 rfl ?_
      refine lv_aload_n hx hb dX1_release_29 rfl (lv_at hl 0 rfl) ?_
      refine va_get (D := (dC, dI)) (ci := 1) (v := .ref qb) (C := RX1) (T := TX1) (N := 2) hx hb hts hin0 hown hK hP 0 rfl rfl 1 (by decide) hf13 (fun _ h9 => h9) rfl dX1_release_30 ?_
      refine lv_iload_n hx hb dX1_release_33 rfl (lv_at hl 1 rfl) ?_
      refine lv_iconst (v := (nI 1)) hx hb dX1_release_34 (by decide +kernel) ?_
      refine my_zastN hx hb hK hP hD hS 2 1 rfl rfl false bI_1 (by omega) (by decide) dX1_release_35 (fun H locs hP hD hS => ?_)
      have hP : va_P (dC, dI) vwCl (W1 h0 qa qb cI cZ (fillN w j1 (nI 0) 4) (updB (updB h j1 true) j1 false)) H := hP
      have hD : va_D A (W1 h0 qa qb cI cZ (fillN w j1 (nI 0) 4) (updB (updB h j1 true) j1 false)) := hD
      refine lv_iconst (v := (nI 0)) hx hb dX1_release_36 (by decide +kernel) ?_
      have eW : w_rel w h (nI j1) = fillN w j1 (nI 0) 4 := by simp [s_rel, w_rel, h_rel, updB_twice, hb_5, hg_j1, hb_16]
      have eH : h_rel h (nI j1) = updB (updB h j1 true) j1 false := by simp [s_rel, w_rel, h_rel, updB_twice, hb_5, hg_j1, hb_16]
      have eR : (nI 0) = s_rel h (nI j1) := by simp [s_rel, w_rel, h_rel, updB_twice, hb_5, hg_j1, hb_16, nI_0]
      exact W.iret (v := (nI 0)) hx hb hr (fun t ht hW => ⟨⟨_, (), rfl, eR, by rw [eW, eH, ht]; exact hP, va_K.moved hW.alike hK, by rw [eW, eH]; exact hD⟩, hS.F ht⟩) hS.2.2 dX1_release_37
    · have hb_16 : (h j1) = false := bN_t c_16
      refine lv_bipush (v := (-3)) hx hb dX1_release_19 (by decide +kernel) ?_
      have eW : w_rel w h (nI j1) = w := by simp [s_rel, w_rel, h_rel, updB_twice, hb_5, hg_j1, hb_16]
      have eH : h_rel h (nI j1) = h := by simp [s_rel, w_rel, h_rel, updB_twice, hb_5, hg_j1, hb_16]
      have eR : (-3) = s_rel h (nI j1) := by simp [s_rel, w_rel, h_rel, updB_twice, hb_5, hg_j1, hb_16, nI_0]
      exact W.iret (v := (-3)) hx hb hr (fun t ht hW => ⟨⟨_, (), rfl, eR, by rw [eW, eH, ht]; exact hP, va_K.moved hW.alike hK, by rw [eW, eH]; exact hD⟩, hS.F ht⟩) hS.2.2 dX1_release_21
  · have hb_5 : (okP 24 p1) = false := bI_f c_5
    refine lv_iconst (v := (-1)) hx hb dX1_release_8 (by decide +kernel) ?_
    have eW : w_rel w h p1 = w := by simp [s_rel, w_rel, h_rel, updB_twice, hb_5]
    have eH : h_rel h p1 = h := by simp [s_rel, w_rel, h_rel, updB_twice, hb_5]
    have eR : (-1) = s_rel h p1 := by simp [s_rel, w_rel, h_rel, updB_twice, hb_5, nI_0]
    exact W.iret (v := (-1)) hx hb hr (fun t ht hW => ⟨⟨_, (), rfl, eR, by rw [eW, eH, ht]; exact hP, va_K.moved hW.alike hK, by rw [eW, eH]; exact hD⟩, hS.F ht⟩) hS.2.2 dX1_release_9
