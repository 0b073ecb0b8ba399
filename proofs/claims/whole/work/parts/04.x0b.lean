set_option maxHeartbeats 4000000 in
set_option maxRecDepth 100000 in
theorem k0_write (l : Launch) (dC : Nat → ClassId) (dI : Nat → Nat → Nat) (h0 qa qb : Nat) (cI cZ : ClassId) (sz : Nat) (w : Nat → Int32) (h : Nat → Bool) (p1 : Int32) (p2 : Int32) (p3 : Int32)  : Met l yX0_write wsX0_write ({ frames := 1, cells := 0, slots := 0, locals := 20 }) (va_Pc [.ref h0, .int (p1), .int (p2), .int (p3)] (fun U => U.heap.size = sz ∧ va_P (dC, dI) vwCl (W0 h0 qa qb cI cZ w h) U.heap ∧ va_K (dC, dI) vwCl (TY cI cZ) U ∧ va_D (fun _ => True) (W0 h0 qa qb cI cZ w h))) (va_Qi (fun r (_ : Unit) => r = s_read w p1 p2) (fun _ t => va_P (dC, dI) vwCl (W0 h0 qa qb cI cZ (w_write w p1 p2 p3) (h_write h p1 p2)) t.heap ∧ va_K (dC, dI) vwCl (TY cI cZ) t ∧ va_D (va_A (W0 h0 qa qb cI cZ w h) sz) (W0 h0 qa qb cI cZ (w_write w p1 p2 p3) (h_write h p1 p2))) (va_A (W0 h0 qa qb cI cZ w h) sz)) 0 0 (va_A (W0 h0 qa qb cI cZ w h) sz) := by
  refine Met.ofW (cc := cX0_write) (maxL := 5) (ret := (some .int)) (by decide) rfl ?_
  intro p e s m args below meth c s₁ B hml hv
  obtain ⟨rfl, hsz, hP, hK, hD0⟩ := hv
  have hx := B.exec
  have hb := B.bytes
  have hr := B.returns
  have hlocks := B.notSynchronized
  have hts := atoms_spec (ws := wsX0_write) B.pre
  have hown : s.vm.findClass RX0 = some m.cls := findClass_of_methodNamed B.named
  have hin0 : ∀ w ∈ wsX00, w ∈ wsX0_write := by decide +kernel
  have hf9 := hts (.fieldLink RX0 9 "PageMerger" "words" "[I") (by decide +kernel)
  have hf13 := hts (.fieldLink RX0 13 "PageMerger" "heldPages" "[Z") (by decide +kernel)
  subst hsz
  have hD := hD0.self (sz := s.heap.size)
  generalize hAe : va_A (W0 h0 qa qb cI cZ w h) s.heap.size = A at hD ⊢
  have hA : ∀ q : Nat, s.heap.size ≤ q → A q := fun q h => by rw [← hAe]; exact Or.inr h
  have hS : va_S A s.heap s.heap [] := va_S.rf
  have hl := lv_entry ([.ref h0, .int (p1), .int (p2), .int (p3)]) (n := 5) (Nat.le_of_ble_eq_true rfl)
  rw [lg_entry_eq]
  generalize (lg_sl ([.ref h0, .int (p1), .int (p2), .int (p3)]) ++ List.replicate (5 - (lg_sl ([.ref h0, .int (p1), .int (p2), .int (p3)])).length) Slot.unset).toArray = ls at hl ⊢
  have hl : lv_has ls 5 [(0, .ref h0), (1, .int (p1)), (2, .int (p2)), (3, .int (p3))] := hl
  refine lv_iload_n hx hb dX0_write_0 rfl (lv_at hl 1 rfl) ?_
  refine vp_callSi (va_Run.run (va_runS (As := [.int (p1)]) (rest := []) ⟨hx, hb, hml, hown, hts⟩ (k0_isPage l p1) (va_cwS 1 hts gX0_write_X0_isPage rfl rfl rfl (by decide +kernel) ⟨Nat.le_of_ble_eq_true rfl, Nat.le_of_ble_eq_true rfl⟩) ⟨bl_T, fun U hU hW => ⟨rfl, trivial⟩⟩ rfl rfl hl.1 rfl (lv_room (Nat.le_of_ble_eq_true rfl)) dX0_write_1 ⟨Nat.zero_le _, Nat.zero_le _⟩)) (fun r_1 hr_1 => ?_)
  obtain rfl : r_1 = (bI (okP 24 p1)) := hr_1
  refine lv_if_ne (tgt := 9) hx hb dX0_write_4 (by decide) (fun c_4 => ?_) (fun c_4 => ?_)
  · have hb_4 : (okP 24 p1) = true := bI_t c_4
    obtain ⟨j1, hj1, rfl⟩ := okP_of hb_4 (by decide)
    have hg_j1 : pg (nI j1) = j1 := pg_nI (by omega)
    refine lv_iload_n hx hb dX0_write_9 rfl (lv_at hl 2 rfl) ?_
    refine vp_callSi (va_Run.run (va_runS (As := [.int (p2)]) (rest := []) ⟨hx, hb, hml, hown, hts⟩ (k0_isWord l p2) (va_cwS 1 hts gX0_write_X0_isWord rfl rfl rfl (by decide +kernel) ⟨Nat.le_of_ble_eq_true rfl, Nat.le_of_ble_eq_true rfl⟩) ⟨bl_T, fun U hU hW => ⟨rfl, trivial⟩⟩ rfl rfl hl.1 rfl (lv_room (Nat.le_of_ble_eq_true rfl)) dX0_write_10 ⟨Nat.zero_le _, Nat.zero_le _⟩)) (fun r_10 hr_10 => ?_)
    obtain rfl : r_10 = (bI (okP 4 p2)) := hr_10
    refine lv_if_ne (tgt := 19) hx hb dX0_write_13 (by decide) (fun c_13 => ?_) (fun c_13 => ?_)
    · have hb_13 : (okP 4 p2) = true := bI_t c_13
      obtain ⟨j2, hj2, rfl⟩ := okP_of hb_13 (by decide)
      have hg_j2 : pg (nI j2) = j2 := pg_nI (by omega)
      refine lv_aload_n hx hb dX0_write_19 rfl (lv_at hl 0 rfl) ?_
      refine va_get (D := (dC, dI)) (ci := 0) (v := .ref qa) (C := RX0) (T := TX0) (N := 2) hx hb hts hin0 hown hK hP 0 rfl rfl 0 (by decide) hf9 (fun _ h9 => h9) rfl dX0_write_20 ?_
      refine lv_iload_n hx hb dX0_write_23 rfl (lv_at hl 1 rfl) ?_
      refine lv_iconst (v := (nI 4)) hx hb dX0_write_24 (by decide +kernel) ?_
      refine my_mul hx hb dX0_write_25 ?_
      refine lv_iload_n hx hb dX0_write_26 rfl (lv_at hl 2 rfl) ?_
      refine my_add hx hb dX0_write_27 ?_
      refine my_iald hx hb hK hP 1 0 rfl rfl (by omega) (by decide) dX0_write_28 ?_
      refine lv_istore (lv' := [(4, .int (w (j1 * 4 + j2))), (0, .ref h0), (1, .int (nI j1)), (2, .int (nI j2)), (3, .int (p3))]) hx hb dX0_write_29 hl (by decide) rfl (fun ls hl => ?_)
      refine lv_aload_n hx hb dX0_write_31 rfl (lv_at hl 1 rfl) ?_
      refine va_get (D := (dC, dI)) (ci := 0) (v := .ref qa) (C := RX0) (T := TX0) (N := 2) hx hb hts hin0 hown hK hP 0 rfl rfl 0 (by decide) hf9 (fun _ h9 => h9) rfl dX0_write_32 ?_
      refine lv_iload_n hx hb dX0_write_35 rfl (lv_at hl 2 rfl) ?_
      refine lv_iconst (v := (nI 4)) hx hb dX0_write_36 (by decide +kernel) ?_
      refine my_mul hx hb dX0_write_37 ?_
      refine lv_iload_n hx hb dX0_write_38 rfl (lv_at hl 3 rfl) ?_
      refine my_add hx hb dX0_write_39 ?_
      refine lv_iload_n hx hb dX0_write_40 rfl (lv_at hl 4 rfl) ?_
      refine my_iast hx hb hK hP hD hS 1 0 rfl rfl (by omega) (by decide) dX0_write_41 (fun H locs hP hD hS => ?_)
      have hP : va_P (dC, dI) vwCl (W0 h0 qa qb cI cZ (upd w (j1 * 4 + j2) p3) h) H := hP
      have hD : va_D A (W0 h0 qa qb cI cZ (upd w (j1 * 4 + j2) p3) h) := hD
      refine lv_aload_n hx hb dX0_write_42 rfl (lv_at hl 1 rfl) ?_
      refine va_get (D := (dC, dI)) (ci := 0) (v := .ref qb) (C := RX0) (T := TX0) (N := 2) hx hb hts hin0 hown hK hP 0 rfl rfl 1 (by decide) hf13 (fun _ h9 => h9) rfl dX0_write_43 ?_
      refine lv_iload_n hx hb dX0_write_46 rfl (lv_at hl 2 rfl) ?_
      refine lv_iconst (v := (nI 1)) hx hb dX0_write_47 (by decide +kernel) ?_
      refine my_zastP hx hb hK hP hD hS 2 1 rfl rfl true bI_1 (by omega) (by decide) dX0_write_48 (fun H locs hP hD hS => ?_)
      have hP : va_P (dC, dI) vwCl (W0 h0 qa qb cI cZ (upd w (j1 * 4 + j2) p3) (updB h j1 true)) H := hP
      have hD : va_D A (W0 h0 qa qb cI cZ (upd w (j1 * 4 + j2) p3) (updB h j1 true)) := hD
      refine lv_iload hx hb dX0_write_49 (lv_at hl 0 rfl) ?_
      have eW : w_write w (nI j1) (nI j2) p3 = upd w (j1 * 4 + j2) p3 := by simp [s_read, w_write, h_write, hb_4, hg_j1, hb_13, hg_j2]
      have eH : h_write h (nI j1) (nI j2) = updB h j1 true := by simp [s_read, w_write, h_write, hb_4, hg_j1, hb_13, hg_j2]
      have eR : (w (j1 * 4 + j2)) = s_read w (nI j1) (nI j2) := by simp [s_read, w_write, h_write, hb_4, hg_j1, hb_13, hg_j2]
      exact W.iret (v := (w (j1 * 4 + j2))) hx hb hr (fun t ht hW => ⟨⟨_, (), rfl, eR, by rw [eW, eH, ht]; exact hP, va_K.moved hW.alike hK, by rw [eW, eH]; exact hD⟩, hS.F ht⟩) hS.2.2 dX0_write_51
    · have hb_13 : (okP 4 p2) = false := bI_f c_13
      refine lv_bipush (v := (-2)) hx hb dX0_write_16 (by decide +kernel) ?_
      have eW : w_write w (nI j1) p2 p3 = w := by simp [s_read, w_write, h_write, hb_4, hg_j1, hb_13]
      have eH : h_write h (nI j1) p2 = h := by simp [s_read, w_write, h_write, hb_4, hg_j1, hb_13]
      have eR : (-2) = s_read w (nI j1) p2 := by simp [s_read, w_write, h_write, hb_4, hg_j1, hb_13]
      exact W.iret (v := (-2)) hx hb hr (fun t ht hW => ⟨⟨_, (), rfl, eR, by rw [eW, eH, ht]; exact hP, va_K.moved hW.alike hK, by rw [eW, eH]; exact hD⟩, hS.F ht⟩) hS.2.2 dX0_write_18
  · have hb_4 : (okP 24 p1) = false := bI_f c_4
    refine lv_iconst (v := (-1)) hx hb dX0_write_7 (by decide +kernel) ?_
    have eW : w_write w p1 p2 p3 = w := by simp [s_read, w_write, h_write, hb_4]
    have eH : h_write h p1 p2 = h := by simp [s_read, w_write, h_write, hb_4]
    have eR : (-1) = s_read w p1 p2 := by simp [s_read, w_write, h_write, hb_4]
    exact W.iret (v := (-1)) hx hb hr (fun t ht hW => ⟨⟨_, (), rfl, eR, by rw [eW, eH, ht]; exact hP, va_K.moved hW.alike hK, by rw [eW, eH]; exact hD⟩, hS.F ht⟩) hS.2.2 dX0_write_8
set_option maxHeartbeats 4000000 in
set_option maxRecDepth 100000 in
theorem k0_fill (l : Launch) (dC : Nat → ClassId) (dI : Nat → Nat → Nat) (h0 qa qb : Nat) (cI cZ : ClassId) (sz : Nat) (w : Nat → Int32) (h : Nat → Bool) (p1 : Int32) (p2 : Int32)  : Met l yX0_fill wsX0_fill ({ frames := 1, cells := 0, slots := 0, locals := 23 }) (va_Pc [.ref h0, .int (p1), .int (p2)] (fun U => U.heap.size = sz ∧ va_P (dC, dI) vwCl (W0 h0 qa qb cI cZ w h) U.heap ∧ va_K (dC, dI) vwCl (TY cI cZ) U ∧ va_D (fun _ => True) (W0 h0 qa qb cI cZ w h))) (va_Qi (fun r (_ : Unit) => r = s_page p1) (fun _ t => va_P (dC, dI) vwCl (W0 h0 qa qb cI cZ (w_fill w p1 p2) (h_fill h p1)) t.heap ∧ va_K (dC, dI) vwCl (TY cI cZ) t ∧ va_D (va_A (W0 h0 qa qb cI cZ w h) sz) (W0 h0 qa qb cI cZ (w_fill w p1 p2) (h_fill h p1))) (va_A (W0 h0 qa qb cI cZ w h) sz)) 0 0 (va_A (W0 h0 qa qb cI cZ w h) sz) := by
  refine Met.ofW (cc := cX0_fill) (maxL := 3) (ret := (some .int)) (by decide) rfl ?_
  intro p e s m args below meth c s₁ B hml hv
  obtain ⟨rfl, hsz, hP, hK, hD0⟩ := hv
  have hx := B.exec
  have hb := B.bytes
  have hr := B.returns
  have hlocks := B.notSynchronized
  have hts := atoms_spec (ws := wsX0_fill) B.pre
  have hown : s.vm.findClass RX0 = some m.cls := findClass_of_methodNamed B.named
  have hin0 : ∀ w ∈ wsX00, w ∈ wsX0_fill := by decide +kernel
  have hf13 := hts (.fieldLink RX0 13 "PageMerger" "heldPages" "[Z") (by decide +kernel)
  subst hsz
  have hD := hD0.self (sz := s.heap.size)
  generalize hAe : va_A (W0 h0 qa qb cI cZ w h) s.heap.size = A at hD ⊢
  have hA : ∀ q : Nat, s.heap.size ≤ q → A q := fun q h => by rw [← hAe]; exact Or.inr h
  have hS : va_S A s.heap s.heap [] := va_S.rf
  have hl := lv_entry ([.ref h0, .int (p1), .int (p2)]) (n := 3) (Nat.le_of_ble_eq_true rfl)
  rw [lg_entry_eq]
  generalize (lg_sl ([.ref h0, .int (p1), .int (p2)]) ++ List.replicate (3 - (lg_sl ([.ref h0, .int (p1), .int (p2)])).length) Slot.unset).toArray = ls at hl ⊢
  have hl : lv_has ls 3 [(0, .ref h0), (1, .int (p1)), (2, .int (p2))] := hl
  refine lv_iload_n hx hb dX0_fill_0 rfl (lv_at hl 1 rfl) ?_
  refine vp_callSi (va_Run.run (va_runS (As := [.int (p1)]) (rest := []) ⟨hx, hb, hml, hown, hts⟩ (k0_isPage l p1) (va_cwS 1 hts gX0_fill_X0_isPage rfl rfl rfl (by decide +kernel) ⟨Nat.le_of_ble_eq_true rfl, Nat.le_of_ble_eq_true rfl⟩) ⟨bl_T, fun U hU hW => ⟨rfl, trivial⟩⟩ rfl rfl hl.1 rfl (lv_room (Nat.le_of_ble_eq_true rfl)) dX0_fill_1 ⟨Nat.zero_le _, Nat.zero_le _⟩)) (fun r_1 hr_1 => ?_)
  obtain rfl : r_1 = (bI (okP 24 p1)) := hr_1
  refine lv_if_ne (tgt := 9) hx hb dX0_fill_4 (by decide) (fun c_4 => ?_) (fun c_4 => ?_)
  · have hb_4 : (okP 24 p1) = true := bI_t c_4
    obtain ⟨j1, hj1, rfl⟩ := okP_of hb_4 (by decide)
    have hg_j1 : pg (nI j1) = j1 := pg_nI (by omega)
    refine lv_aload_n hx hb dX0_fill_9 rfl (lv_at hl 0 rfl) ?_
    refine lv_iload_n hx hb dX0_fill_10 rfl (lv_at hl 1 rfl) ?_
    refine lv_iload_n hx hb dX0_fill_11 rfl (lv_at hl 2 rfl) ?_
    have hFc := va_free (wc := W0 h0 qa qb cI cZ w h) hD hS hA [0, 1, 2] rfl
    refine va_callv (va_runV (As := [.int (nI j1), .int (p2)]) (rest := []) ⟨hx, hb, hml, hown, hts⟩ (k0_setAllWords l dC dI h0 qa qb cI cZ s.heap.size w h j1 p2 (by omega)) (cwV 2 hts gX0_fill_X0_setAllWords rfl rfl rfl (by decide +kernel) ⟨Nat.le_of_ble_eq_true rfl, Nat.le_of_ble_eq_true rfl⟩) ⟨bl_Q, va_recv hK hP (ci := 0) (q0 := 0) rfl rfl, fun U hU hW => ⟨rfl, by rw [hU], by rw [hU]; exact hP, va_K.moved hW.alike hK, hD.weaken (fun _ _ _ _ => trivial)⟩⟩ rfl rfl hl.1 rfl (lv_room (Nat.le_of_ble_eq_true rfl)) dX0_fill_12 ⟨Nat.zero_le _, Nat.zero_le _⟩) hS (fun q _ h9 => hFc q h9) hFc (fun u t H1 locs ht hvm hw hB hz1 hk1 hS => ?_)
    obtain ⟨hP1, hK1, hD1⟩ := hB
    rw [ht] at hP1
    obtain ⟨hP, hD⟩ := va_join (wr := []) (w1 := W0 h0 qa qb cI cZ (fillN w j1 p2 4) h) hP hD [0, 1, 2] [] rfl rfl (by decide) (by decide) hk1 hFc hP1 hD1
    generalize H1 = H at hP hS ⊢
    have hP : va_P (dC, dI) vwCl (W0 h0 qa qb cI cZ (fillN w j1 p2 4) h) H := hP
    have hD : va_D A (W0 h0 qa qb cI cZ (fillN w j1 p2 4) h) := hD
    refine lv_aload_n hx hb dX0_fill_15 rfl (lv_at hl 0 rfl) ?_
    refine va_get (D := (dC, dI)) (ci := 0) (v := .ref qb) (C := RX0) (T := TX0) (N := 2) hx hb hts hin0 hown hK hP 0 rfl rfl 1 (by decide) hf13 (fun _ h9 => h9) rfl dX0_fill_16 ?_
    refine lv_iload_n hx hb dX0_fill_19 rfl (lv_at hl 1 rfl) ?_
    refine lv_iconst (v := (nI 1)) hx hb dX0_fill_20 (by decide +kernel) ?_
    refine my_zastP hx hb hK hP hD hS 2 1 rfl rfl true bI_1 (by omega) (by decide) dX0_fill_21 (fun H locs hP hD hS => ?_)
    have hP : va_P (dC, dI) vwCl (W0 h0 qa qb cI cZ (fillN w j1 p2 4) (updB h j1 true)) H := hP
    have hD : va_D A (W0 h0 qa qb cI cZ (fillN w j1 p2 4) (updB h j1 true)) := hD
    refine lv_iconst (v := (nI 0)) hx hb dX0_fill_22 (by decide +kernel) ?_
    have eW : w_fill w (nI j1) p2 = fillN w j1 p2 4 := by simp [s_page, w_fill, h_fill, hb_4, hg_j1]
    have eH : h_fill h (nI j1) = updB h j1 true := by simp [s_page, w_fill, h_fill, hb_4, hg_j1]
    have eR : (nI 0) = s_page (nI j1) := by simp [s_page, w_fill, h_fill, hb_4, hg_j1, nI_0]
    exact W.iret (v := (nI 0)) hx hb hr (fun t ht hW => ⟨⟨_, (), rfl, eR, by rw [eW, eH, ht]; exact hP, va_K.moved hW.alike hK, by rw [eW, eH]; exact hD⟩, hS.F ht⟩) hS.2.2 dX0_fill_23
  · have hb_4 : (okP 24 p1) = false := bI_f c_4
    refine lv_iconst (v := (-1)) hx hb dX0_fill_7 (by decide +kernel) ?_
    have eW : w_fill w p1 p2 = w := by simp [s_page, w_fill, h_fill, hb_4]
    have eH : h_fill h p1 = h := by simp [s_page, w_fill, h_fill, hb_4]
    have eR : (-1) = s_page p1 := by simp [s_page, w_fill, h_fill, hb_4, nI_0]
    exact W.iret (v := (-1)) hx hb hr (fun t ht hW => ⟨⟨_, (), rfl, eR, by rw [eW, eH, ht]; exact hP, va_K.moved hW.alike hK, by rw [eW, eH]; exact hD⟩, hS.F ht⟩) hS.2.2 dX0_fill_8
set_option maxHeartbeats 4000000 in
set_option maxRecDepth 100000 in
theorem k0_copy (l : Launch) (dC : Nat → ClassId) (dI : Nat → Nat → Nat) (h0 qa qb : Nat) (cI cZ : ClassId) (sz : Nat) (w : Nat → Int32) (h : Nat → Bool) (p1 : Int32) (p2 : Int32)  : Met l yX0_copy wsX0_copy ({ frames := 1, cells := 0, slots := 0, locals := 20 }) (va_Pc [.ref h0, .int (p1), .int (p2)] (fun U => U.heap.size = sz ∧ va_P (dC, dI) vwCl (W0 h0 qa qb cI cZ w h) U.heap ∧ va_K (dC, dI) vwCl (TY cI cZ) U ∧ va_D (fun _ => True) (W0 h0 qa qb cI cZ w h))) (va_Qi (fun r (_ : Unit) => r = s_two p1 p2) (fun _ t => va_P (dC, dI) vwCl (W0 h0 qa qb cI cZ (w_copy w p1 p2) (h_copy h p1 p2)) t.heap ∧ va_K (dC, dI) vwCl (TY cI cZ) t ∧ va_D (va_A (W0 h0 qa qb cI cZ w h) sz) (W0 h0 qa qb cI cZ (w_copy w p1 p2) (h_copy h p1 p2))) (va_A (W0 h0 qa qb cI cZ w h) sz)) 0 0 (va_A (W0 h0 qa qb cI cZ w h) sz) := by
  refine Met.ofW (cc := cX0_copy) (maxL := 4) (ret := (some .int)) (by decide) rfl ?_
  intro p e s m args below meth c s₁ B hml hv
  obtain ⟨rfl, hsz, hP, hK, hD0⟩ := hv
  have hx := B.exec
  have hb := B.bytes
  have hr := B.returns
  have hlocks := B.notSynchronized
  have hts := atoms_spec (ws := wsX0_copy) B.pre
  have hown : s.vm.findClass RX0 = some m.cls := findClass_of_methodNamed B.named
  have hin0 : ∀ w ∈ wsX00, w ∈ wsX0_copy := by decide +kernel
  have hf9 := hts (.fieldLink RX0 9 "PageMerger" "words" "[I") (by decide +kernel)
  have hf13 := hts (.fieldLink RX0 13 "PageMerger" "heldPages" "[Z") (by decide +kernel)
  subst hsz
  have hD := hD0.self (sz := s.heap.size)
  generalize hAe : va_A (W0 h0 qa qb cI cZ w h) s.heap.size = A at hD ⊢
  have hA : ∀ q : Nat, s.heap.size ≤ q → A q := fun q h => by rw [← hAe]; exact Or.inr h
  have hS : va_S A s.heap s.heap [] := va_S.rf
  have hl := lv_entry ([.ref h0, .int (p1), .int (p2)]) (n := 4) (Nat.le_of_ble_eq_true rfl)
  rw [lg_entry_eq]
  generalize (lg_sl ([.ref h0, .int (p1), .int (p2)]) ++ List.replicate (4 - (lg_sl ([.ref h0, .int (p1), .int (p2)])).length) Slot.unset).toArray = ls at hl ⊢
  have hl : lv_has ls 4 [(0, .ref h0), (1, .int (p1)), (2, .int (p2))] := hl
  refine lv_iload_n hx hb dX0_copy_0 rfl (lv_at hl 1 rfl) ?_
  refine vp_callSi (va_Run.run (va_runS (As := [.int (p1)]) (rest := []) ⟨hx, hb, hml, hown, hts⟩ (k0_isPage l p1) (va_cwS 1 hts gX0_copy_X0_isPage rfl rfl rfl (by decide +kernel) ⟨Nat.le_of_ble_eq_true rfl, Nat.le_of_ble_eq_true rfl⟩) ⟨bl_T, fun U hU hW => ⟨rfl, trivial⟩⟩ rfl rfl hl.1 rfl (lv_room (Nat.le_of_ble_eq_true rfl)) dX0_copy_1 ⟨Nat.zero_le _, Nat.zero_le _⟩)) (fun r_1 hr_1 => ?_)
  obtain rfl : r_1 = (bI (okP 24 p1)) := hr_1
  refine lv_if_eq (tgt := 14) hx hb dX0_copy_4 (by decide) (fun c_4 => ?_) (fun c_4 => ?_)
  · have hb_4 : (okP 24 p1) = false := bI_f c_4
    refine lv_iconst (v := (-1)) hx hb dX0_copy_14 (by decide +kernel) ?_
    have eW : w_copy w p1 p2 = w := by simp [s_two, w_copy, h_copy, hb_4]
    have eH : h_copy h p1 p2 = h := by simp [s_two, w_copy, h_copy, hb_4]
    have eR : (-1) = s_two p1 p2 := by simp [s_two, w_copy, h_copy, hb_4, nI_0]
    exact W.iret (v := (-1)) hx hb hr (fun t ht hW => ⟨⟨_, (), rfl, eR, by rw [eW, eH, ht]; exact hP, va_K.moved hW.alike hK, by rw [eW, eH]; exact hD⟩, hS.F ht⟩) hS.2.2 dX0_copy_15
  · have hb_4 : (okP 24 p1) = true := bI_t c_4
    obtain ⟨j1, hj1, rfl⟩ := okP_of hb_4 (by decide)
    have hg_j1 : pg (nI j1) = j1 := pg_nI (by omega)
    refine lv_iload_n hx hb dX0_copy_7 rfl (lv_at hl 2 rfl) ?_
    refine vp_callSi (va_Run.run (va_runS (As := [.int (p2)]) (rest := []) ⟨hx, hb, hml, hown, hts⟩ (k0_isPage l p2) (va_cwS 1 hts gX0_copy_X0_isPage rfl rfl rfl (by decide +kernel) ⟨Nat.le_of_ble_eq_true rfl, Nat.le_of_ble_eq_true rfl⟩) ⟨bl_T, fun U hU hW => ⟨rfl, trivial⟩⟩ rfl rfl hl.1 rfl (lv_room (Nat.le_of_ble_eq_true rfl)) dX0_copy_8 ⟨Nat.zero_le _, Nat.zero_le _⟩)) (fun r_8 hr_8 => ?_)
    obtain rfl : r_8 = (bI (okP 24 p2)) := hr_8
    refine lv_if_ne (tgt := 16) hx hb dX0_copy_11 (by decide) (fun c_11 => ?_) (fun c_11 => ?_)
    · have hb_11 : (okP 24 p2) = true := bI_t c_11
      obtain ⟨j2, hj2, rfl⟩ := okP_of hb_11 (by decide)
      have hg_j2 : pg (nI j2) = j2 := pg_nI (by omega)
      refine lv_iconst (v := (nI 0)) hx hb dX0_copy_16 (by decide +kernel) ?_
      refine lv_istore_n (lv' := [(3, .int (nI 0)), (0, .ref h0), (1, .int (nI j1)), (2, .int (nI j2))]) hx hb dX0_copy_17 rfl hl (by decide) rfl (fun ls hl => ?_)
      refine lp_Q 18 4 (fun i18 H locs ls => lv_has ls 4 [(3, .int (nI i18)), (0, .ref h0), (1, .int (nI j1)), (2, .int (nI j2))] ∧ va_P (dC, dI) vwCl (W0 h0 qa qb cI cZ (copyN w j1 j2 i18) h) H ∧ va_D A (W0 h0 qa qb cI cZ (copyN w j1 j2 i18) h) ∧ va_S A s.heap H locs) (fun i18 H locs ls hi_18 hI hnx_18 => ?_) 0 (by omega) _ _ ls ⟨lv_sub hl [0, 1, 2, 3] rfl, hP, hD, hS⟩
      obtain ⟨hl, hP, hD, hS⟩ := hI
      refine lv_iload_n hx hb dX0_copy_18 rfl (lv_at hl 0 rfl) ?_
      refine lv_iconst (v := (nI 4)) hx hb dX0_copy_19 (by decide +kernel) ?_
      refine lv_icmp_ge (tgt := 49) hx hb dX0_copy_20 (by decide) (fun c_20 => ?_) (fun c_20 => ?_)
      · have hq_20 : 4 ≤ i18 := (nI_leI (by omega) (by omega)).mp c_20
        have hE_20 : i18 = 4 := by omega
        subst hE_20
        refine lv_aload_n hx hb dX0_copy_49 rfl (lv_at hl 1 rfl) ?_
        refine va_get (D := (dC, dI)) (ci := 0) (v := .ref qb) (C := RX0) (T := TX0) (N := 2) hx hb hts hin0 hown hK hP 0 rfl rfl 1 (by decide) hf13 (fun _ h9 => h9) rfl dX0_copy_50 ?_
        refine lv_iload_n hx hb dX0_copy_53 rfl (lv_at hl 3 rfl) ?_
        refine lv_aload_n hx hb dX0_copy_54 rfl (lv_at hl 1 rfl) ?_
        refine va_get (D := (dC, dI)) (ci := 0) (v := .ref qb) (C := RX0) (T := TX0) (N := 2) hx hb hts hin0 hown hK hP 0 rfl rfl 1 (by decide) hf13 (fun _ h9 => h9) rfl dX0_copy_55 ?_
        refine lv_iload_n hx hb dX0_copy_58 rfl (lv_at hl 2 rfl) ?_
        refine my_zaldP hx hb hK hP 2 1 rfl rfl (by omega) (by decide) dX0_copy_59 ?_
        refine my_zastP hx hb hK hP hD hS 2 1 rfl rfl (h j1) rfl (by omega) (by decide) dX0_copy_60 (fun H locs hP hD hS => ?_)
        have hP : va_P (dC, dI) vwCl (W0 h0 qa qb cI cZ (copyN w j1 j2 4) (updB h j2 (h j1))) H := hP
        have hD : va_D A (W0 h0 qa qb cI cZ (copyN w j1 j2 4) (updB h j2 (h j1))) := hD
        refine lv_iconst (v := (nI 0)) hx hb dX0_copy_61 (by decide +kernel) ?_
        have eW : w_copy w (nI j1) (nI j2) = copyN w j1 j2 4 := by simp [s_two, w_copy, h_copy, hb_4, hg_j1, hb_11, hg_j2]
        have eH : h_copy h (nI j1) (nI j2) = updB h j2 (h j1) := by simp [s_two, w_copy, h_copy, hb_4, hg_j1, hb_11, hg_j2]
        have eR : (nI 0) = s_two (nI j1) (nI j2) := by simp [s_two, w_copy, h_copy, hb_4, hg_j1, hb_11, hg_j2, nI_0]
        exact W.iret (v := (nI 0)) hx hb hr (fun t ht hW => ⟨⟨_, (), rfl, eR, by rw [eW, eH, ht]; exact hP, va_K.moved hW.alike hK, by rw [eW, eH]; exact hD⟩, hS.F ht⟩) hS.2.2 dX0_copy_62
      · have hlt_18 : i18 < 4 := Nat.lt_of_not_le (fun q => c_20 ((nI_leI (by omega) (by omega)).mpr q))
        refine lv_aload_n hx hb dX0_copy_23 rfl (lv_at hl 1 rfl) ?_
        refine va_get (D := (dC, dI)) (ci := 0) (v := .ref qa) (C := RX0) (T := TX0) (N := 2) hx hb hts hin0 hown hK hP 0 rfl rfl 0 (by decide) hf9 (fun _ h9 => h9) rfl dX0_copy_24 ?_
        refine lv_iload_n hx hb dX0_copy_27 rfl (lv_at hl 3 rfl) ?_
        refine lv_iconst (v := (nI 4)) hx hb dX0_copy_28 (by decide +kernel) ?_
        refine my_mul hx hb dX0_copy_29 ?_
        refine lv_iload_n hx hb dX0_copy_30 rfl (lv_at hl 0 rfl) ?_
        refine my_add hx hb dX0_copy_31 ?_
        refine lv_aload_n hx hb dX0_copy_32 rfl (lv_at hl 1 rfl) ?_
        refine va_get (D := (dC, dI)) (ci := 0) (v := .ref qa) (C := RX0) (T := TX0) (N := 2) hx hb hts hin0 hown hK hP 0 rfl rfl 0 (by decide) hf9 (fun _ h9 => h9) rfl dX0_copy_33 ?_
        refine lv_iload_n hx hb dX0_copy_36 rfl (lv_at hl 2 rfl) ?_
        refine lv_iconst (v := (nI 4)) hx hb dX0_copy_37 (by decide +kernel) ?_
        refine my_mul hx hb dX0_copy_38 ?_
        refine lv_iload_n hx hb dX0_copy_39 rfl (lv_at hl 0 rfl) ?_
        refine my_add hx hb dX0_copy_40 ?_
        refine my_iald hx hb hK hP 1 0 rfl rfl (by omega) (by decide) dX0_copy_41 ?_
        refine my_iast hx hb hK hP hD hS 1 0 rfl rfl (by omega) (by decide) dX0_copy_42 (fun H locs hP hD hS => ?_)
        have hP : va_P (dC, dI) vwCl (W0 h0 qa qb cI cZ (upd (copyN w j1 j2 i18) (j2 * 4 + i18) ((copyN w j1 j2 i18) (j1 * 4 + i18))) h) H := hP
        have hD : va_D A (W0 h0 qa qb cI cZ (upd (copyN w j1 j2 i18) (j2 * 4 + i18) ((copyN w j1 j2 i18) (j1 * 4 + i18))) h) := hD
        refine lv_iinc (v := (nI (i18 + 1))) (lv' := [(3, .int (nI (i18 + 1))), (0, .ref h0), (1, .int (nI j1)), (2, .int (nI j2))]) hx hb dX0_copy_43 hl (k := 0) rfl (nI_1 _) (by decide) rfl (fun ls hl => ?_)
        refine lv_goto (tgt := 18) hx hb dX0_copy_46 (by decide) ?_
        exact hnx_18 hlt_18 _ _ ls ⟨lv_sub hl [0, 1, 2, 3] rfl, hP, hD, hS⟩
    · have hb_11 : (okP 24 p2) = false := bI_f c_11
      refine lv_iconst (v := (-1)) hx hb dX0_copy_14 (by decide +kernel) ?_
      have eW : w_copy w (nI j1) p2 = w := by simp [s_two, w_copy, h_copy, hb_4, hg_j1, hb_11]
      have eH : h_copy h (nI j1) p2 = h := by simp [s_two, w_copy, h_copy, hb_4, hg_j1, hb_11]
      have eR : (-1) = s_two (nI j1) p2 := by simp [s_two, w_copy, h_copy, hb_4, hg_j1, hb_11, nI_0]
      exact W.iret (v := (-1)) hx hb hr (fun t ht hW => ⟨⟨_, (), rfl, eR, by rw [eW, eH, ht]; exact hP, va_K.moved hW.alike hK, by rw [eW, eH]; exact hD⟩, hS.F ht⟩) hS.2.2 dX0_copy_15
set_option maxHeartbeats 4000000 in
set_option maxRecDepth 100000 in
theorem k0_swap (l : Launch) (dC : Nat → ClassId) (dI : Nat → Nat → Nat) (h0 qa qb : Nat) (cI cZ : ClassId) (sz : Nat) (w : Nat → Int32) (h : Nat → Bool) (p1 : Int32) (p2 : Int32)  : Met l yX0_swap wsX0_swap ({ frames := 1, cells := 0, slots := 0, locals := 20 }) (va_Pc [.ref h0, .int (p1), .int (p2)] (fun U => U.heap.size = sz ∧ va_P (dC, dI) vwCl (W0 h0 qa qb cI cZ w h) U.heap ∧ va_K (dC, dI) vwCl (TY cI cZ) U ∧ va_D (fun _ => True) (W0 h0 qa qb cI cZ w h))) (va_Qi (fun r (_ : Unit) => r = s_two p1 p2) (fun _ t => va_P (dC, dI) vwCl (W0 h0 qa qb cI cZ (w_swap w p1 p2) (h_swap h p1 p2)) t.heap ∧ va_K (dC, dI) vwCl (TY cI cZ) t ∧ va_D (va_A (W0 h0 qa qb cI cZ w h) sz) (W0 h0 qa qb cI cZ (w_swap w p1 p2) (h_swap h p1 p2))) (va_A (W0 h0 qa qb cI cZ w h) sz)) 0 0 (va_A (W0 h0 qa qb cI cZ w h) sz) := by
  refine Met.ofW (cc := cX0_swap) (maxL := 5) (ret := (some .int)) (by decide) rfl ?_
  intro p e s m args below meth c s₁ B hml hv
  obtain ⟨rfl, hsz, hP, hK, hD0⟩ := hv
  have hx := B.exec
  have hb := B.bytes
  have hr := B.returns
  have hlocks := B.notSynchronized
  have hts := atoms_spec (ws := wsX0_swap) B.pre
  have hown : s.vm.findClass RX0 = some m.cls := findClass_of_methodNamed B.named
  have hin0 : ∀ w ∈ wsX00, w ∈ wsX0_swap := by decide +kernel
  have hf9 := hts (.fieldLink RX0 9 "PageMerger" "words" "[I") (by decide +kernel)
  have hf13 := hts (.fieldLink RX0 13 "PageMerger" "heldPages" "[Z") (by decide +kernel)
  subst hsz
  have hD := hD0.self (sz := s.heap.size)
  generalize hAe : va_A (W0 h0 qa qb cI cZ w h) s.heap.size = A at hD ⊢
  have hA : ∀ q : Nat, s.heap.size ≤ q → A q := fun q h => by rw [← hAe]; exact Or.inr h
  have hS : va_S A s.heap s.heap [] := va_S.rf
  have hl := lv_entry ([.ref h0, .int (p1), .int (p2)]) (n := 5) (Nat.le_of_ble_eq_true rfl)
  rw [lg_entry_eq]
  generalize (lg_sl ([.ref h0, .int (p1), .int (p2)]) ++ List.replicate (5 - (lg_sl ([.ref h0, .int (p1), .int (p2)])).length) Slot.unset).toArray = ls at hl ⊢
  have hl : lv_has ls 5 [(0, .ref h0), (1, .int (p1)), (2, .int (p2))] := hl
  refine lv_iload_n hx hb dX0_swap_0 rfl (lv_at hl 1 rfl) ?_
  refine vp_callSi (va_Run.run (va_runS (As := [.int (p1)]) (rest := []) ⟨hx, hb, hml, hown, hts⟩ (k0_isPage l p1) (va_cwS 1 hts gX0_swap_X0_isPage rfl rfl rfl (by decide +kernel) ⟨Nat.le_of_ble_eq_true rfl, Nat.le_of_ble_eq_true rfl⟩) ⟨bl_T, fun U hU hW => ⟨rfl, trivial⟩⟩ rfl rfl hl.1 rfl (lv_room (Nat.le_of_ble_eq_true rfl)) dX0_swap_1 ⟨Nat.zero_le _, Nat.zero_le _⟩)) (fun r_1 hr_1 => ?_)
  obtain rfl : r_1 = (bI (okP 24 p1)) := hr_1
  refine lv_if_eq (tgt := 14) hx hb dX0_swap_4 (by decide) (fun c_4 => ?_) (fun c_4 => ?_)
  · have hb_4 : (okP 24 p1) = false := bI_f c_4
    refine lv_iconst (v := (-1)) hx hb dX0_swap_14 (by decide +kernel) ?_
    have eW : w_swap w p1 p2 = w := by simp [s_two, w_swap, h_swap, hb_4]
    have eH : h_swap h p1 p2 = h := by simp [s_two, w_swap, h_swap, hb_4]
    have eR : (-1) = s_two p1 p2 := by simp [s_two, w_swap, h_swap, hb_4, nI_0]
    exact W.iret (v := (-1)) hx hb hr (fun t ht hW => ⟨⟨_, (), rfl, eR, by rw [eW, eH, ht]; exact hP, va_K.moved hW.alike hK, by rw [eW, eH]; exact hD⟩, hS.F ht⟩) hS.2.2 dX0_swap_15
  · have hb_4 : (okP 24 p1) = true := bI_t c_4
    obtain ⟨j1, hj1, rfl⟩ := okP_of hb_4 (by decide)
    have hg_j1 : pg (nI j1) = j1 := pg_nI (by omega)
    refine lv_iload_n hx hb dX0_swap_7 rfl (lv_at hl 2 rfl) ?_
    refine vp_callSi (va_Run.run (va_runS (As := [.int (p2)]) (rest := []) ⟨hx, hb, hml, hown, hts⟩ (k0_isPage l p2) (va_cwS 1 hts gX0_swap_X0_isPage rfl rfl rfl (by decide +kernel) ⟨Nat.le_of_ble_eq_true rfl, Nat.le_of_ble_eq_true rfl⟩) ⟨bl_T, fun U hU hW => ⟨rfl, trivial⟩⟩ rfl rfl hl.1 rfl (lv_room (Nat.le_of_ble_eq_true rfl)) dX0_swap_8 ⟨Nat.zero_le _, Nat.zero_le _⟩)) (fun r_8 hr_8 => ?_)
    obtain rfl : r_8 = (bI (okP 24 p2)) := hr_8
    refine lv_if_ne (tgt := 16) hx hb dX0_swap_11 (by decide) (fun c_11 => ?_) (fun c_11 => ?_)
    · have hb_11 : (okP 24 p2) = true := bI_t c_11
      obtain ⟨j2, hj2, rfl⟩ := okP_of hb_11 (by decide)
      have hg_j2 : pg (nI j2) = j2 := pg_nI (by omega)
      refine lv_iconst (v := (nI 0)) hx hb dX0_swap_16 (by decide +kernel) ?_
      refine lv_istore_n (lv' := [(3, .int (nI 0)), (0, .ref h0), (1, .int (nI j1)), (2, .int (nI j2))]) hx hb dX0_swap_17 rfl hl (by decide) rfl (fun ls hl => ?_)
      refine lp_Q 18 4 (fun i18 H locs ls => lv_has ls 5 [(3, .int (nI i18)), (0, .ref h0), (1, .int (nI j1)), (2, .int (nI j2))] ∧ va_P (dC, dI) vwCl (W0 h0 qa qb cI cZ (swapN w j1 j2 i18) h) H ∧ va_D A (W0 h0 qa qb cI cZ (swapN w j1 j2 i18) h) ∧ va_S A s.heap H locs) (fun i18 H locs ls hi_18 hI hnx_18 => ?_) 0 (by omega) _ _ ls ⟨lv_sub hl [0, 1, 2, 3] rfl, hP, hD, hS⟩
      obtain ⟨hl, hP, hD, hS⟩ := hI
      refine lv_iload_n hx hb dX0_swap_18 rfl (lv_at hl 0 rfl) ?_
      refine lv_iconst (v := (nI 4)) hx hb dX0_swap_19 (by decide +kernel) ?_
      refine lv_icmp_ge (tgt := 73) hx hb dX0_swap_20 (by decide) (fun c_20 => ?_) (fun c_20 => ?_)
      · have hq_20 : 4 ≤ i18 := (nI_leI (by omega) (by omega)).mp c_20
        have hE_20 : i18 = 4 := by omega
        subst hE_20
        refine lv_aload_n hx hb dX0_swap_73 rfl (lv_at hl 1 rfl) ?_
        refine va_get (D := (dC, dI)) (ci := 0) (v := .ref qb) (C := RX0) (T := TX0) (N := 2) hx hb hts hin0 hown hK hP 0 rfl rfl 1 (by decide) hf13 (fun _ h9 => h9) rfl dX0_swap_74 ?_
        refine lv_iload_n hx hb dX0_swap_77 rfl (lv_at hl 2 rfl) ?_
        refine my_zaldP hx hb hK hP 2 1 rfl rfl (by omega) (by decide) dX0_swap_78 ?_
        refine lv_istore_n (lv' := [(3, .int (bI (h j1))), (0, .ref h0), (1, .int (nI j1)), (2, .int (nI j2))]) hx hb dX0_swap_79 rfl hl (by decide) rfl (fun ls hl => ?_)
        refine lv_aload_n hx hb dX0_swap_80 rfl (lv_at hl 1 rfl) ?_
        refine va_get (D := (dC, dI)) (ci := 0) (v := .ref qb) (C := RX0) (T := TX0) (N := 2) hx hb hts hin0 hown hK hP 0 rfl rfl 1 (by decide) hf13 (fun _ h9 => h9) rfl dX0_swap_81 ?_
        refine lv_iload_n hx hb dX0_swap_84 rfl (lv_at hl 2 rfl) ?_
        refine lv_aload_n hx hb dX0_swap_85 rfl (lv_at hl 1 rfl) ?_
        refine va_get (D := (dC, dI)) (ci := 0) (v := .ref qb) (C := RX0) (T := TX0) (N := 2) hx hb hts hin0 hown hK hP 0 rfl rfl 1 (by decide) hf13 (fun _ h9 => h9) rfl dX0_swap_86 ?_
        refine lv_iload_n hx hb dX0_swap_89 rfl (lv_at hl 3 rfl) ?_
        refine my_zaldP hx hb hK hP 2 1 rfl rfl (by omega) (by decide) dX0_swap_90 ?_
        refine my_zastP hx hb hK hP hD hS 2 1 rfl rfl (h j2) rfl (by omega) (by decide) dX0_swap_91 (fun H locs hP hD hS => ?_)
        have hP : va_P (dC, dI) vwCl (W0 h0 qa qb cI cZ (swapN w j1 j2 4) (updB h j1 (h j2))) H := hP
        have hD : va_D A (W0 h0 qa qb cI cZ (swapN w j1 j2 4) (updB h j1 (h j2))) := hD
        refine lv_aload_n hx hb dX0_swap_92 rfl (lv_at hl 1 rfl) ?_
        refine va_get (D := (dC, dI)) (ci := 0) (v := .ref qb) (C := RX0) (T := TX0) (N := 2) hx hb hts hin0 hown hK hP 0 rfl rfl 1 (by decide) hf13 (fun _ h9 => h9) rfl dX0_swap_93 ?_
        refine lv_iload_n hx hb dX0_swap_96 rfl (lv_at hl 3 rfl) ?_
        refine lv_iload_n hx hb dX0_swap_97 rfl (lv_at hl 0 rfl) ?_
        refine my_zastP hx hb hK hP hD hS 2 1 rfl rfl (h j1) rfl (by omega) (by decide) dX0_swap_98 (fun H locs hP hD hS => ?_)
        have hP : va_P (dC, dI) vwCl (W0 h0 qa qb cI cZ (swapN w j1 j2 4) (updB (updB h j1 (h j2)) j2 (h j1))) H := hP
        have hD : va_D A (W0 h0 qa qb cI cZ (swapN w j1 j2 4) (updB (updB h j1 (h j2)) j2 (h j1))) := hD
        refine lv_iconst (v := (nI 0)) hx hb dX0_swap_99 (by decide +kernel) ?_
        have eW : w_swap w (nI j1) (nI j2) = swapN w j1 j2 4 := by simp [s_two, w_swap, h_swap, hb_4, hg_j1, hb_11, hg_j2]
        have eH : h_swap h (nI j1) (nI j2) = updB (updB h j1 (h j2)) j2 (h j1) := by simp [s_two, w_swap, h_swap, hb_4, hg_j1, hb_11, hg_j2]
        have eR : (nI 0) = s_two (nI j1) (nI j2) := by simp [s_two, w_swap, h_swap, hb_4, hg_j1, hb_11, hg_j2, nI_0]
        exact W.iret (v := (nI 0)) hx hb hr (fun t ht hW => ⟨⟨_, (), rfl, eR, by rw [eW, eH, ht]; exact hP, va_K.moved hW.alike hK, by rw [eW, eH]; exact hD⟩, hS.F ht⟩) hS.2.2 dX0_swap_100
      · have hlt_18 : i18 < 4 := Nat.lt_of_not_le (fun q => c_20 ((nI_leI (by omega) (by omega)).mpr q))
        refine lv_aload_n hx hb dX0_swap_23 rfl (lv_at hl 1 rfl) ?_
        refine va_get (D := (dC, dI)) (ci := 0) (v := .ref qa) (C := RX0) (T := TX0) (N := 2) hx hb hts hin0 hown hK hP 0 rfl rfl 0 (by decide) hf9 (fun _ h9 => h9) rfl dX0_swap_24 ?_
        refine lv_iload_n hx hb dX0_swap_27 rfl (lv_at hl 2 rfl) ?_
        refine lv_iconst (v := (nI 4)) hx hb dX0_swap_28 (by decide +kernel) ?_
        refine my_mul hx hb dX0_swap_29 ?_
        refine lv_iload_n hx hb dX0_swap_30 rfl (lv_at hl 0 rfl) ?_
        refine my_add hx hb dX0_swap_31 ?_
        refine my_iald hx hb hK hP 1 0 rfl rfl (by omega) (by decide) dX0_swap_32 ?_
        refine lv_istore (lv' := [(4, .int ((swapN w j1 j2 i18) (j1 * 4 + i18))), (3, .int (nI i18)), (0, .ref h0), (1, .int (nI j1)), (2, .int (nI j2))]) hx hb dX0_swap_33 hl (by decide) rfl (fun ls hl => ?_)
        refine lv_aload_n hx hb dX0_swap_35 rfl (lv_at hl 2 rfl) ?_
        refine va_get (D := (dC, dI)) (ci := 0) (v := .ref qa) (C := RX0) (T := TX0) (N := 2) hx hb hts hin0 hown hK hP 0 rfl rfl 0 (by decide) hf9 (fun _ h9 => h9) rfl dX0_swap_36 ?_
        refine lv_iload_n hx hb dX0_swap_39 rfl (lv_at hl 3 rfl) ?_
        refine lv_iconst (v := (nI 4)) hx hb dX0_swap_40 (by decide +kernel) ?_
        refine my_mul hx hb dX0_swap_41 ?_
        refine lv_iload_n hx hb dX0_swap_42 rfl (lv_at hl 1 rfl) ?_
        refine my_add hx hb dX0_swap_43 ?_
        refine lv_aload_n hx hb dX0_swap_44 rfl (lv_at hl 2 rfl) ?_
        refine va_get (D := (dC, dI)) (ci := 0) (v := .ref qa) (C := RX0) (T := TX0) (N := 2) hx hb hts hin0 hown hK hP 0 rfl rfl 0 (by decide) hf9 (fun _ h9 => h9) rfl dX0_swap_45 ?_
        refine lv_iload_n hx hb dX0_swap_48 rfl (lv_at hl 4 rfl) ?_
        refine lv_iconst (v := (nI 4)) hx hb dX0_swap_49 (by decide +kernel) ?_
        refine my_mul hx hb dX0_swap_50 ?_
        refine lv_iload_n hx hb dX0_swap_51 rfl (lv_at hl 1 rfl) ?_
        refine my_add hx hb dX0_swap_52 ?_
        refine my_iald hx hb hK hP 1 0 rfl rfl (by omega) (by decide) dX0_swap_53 ?_
        refine my_iast hx hb hK hP hD hS 1 0 rfl rfl (by omega) (by decide) dX0_swap_54 (fun H locs hP hD hS => ?_)
        have hP : va_P (dC, dI) vwCl (W0 h0 qa qb cI cZ (upd (swapN w j1 j2 i18) (j1 * 4 + i18) ((swapN w j1 j2 i18) (j2 * 4 + i18))) h) H := hP
        have hD : va_D A (W0 h0 qa qb cI cZ (upd (swapN w j1 j2 i18) (j1 * 4 + i18) ((swapN w j1 j2 i18) (j2 * 4 + i18))) h) := hD
        refine lv_aload_n hx hb dX0_swap_55 rfl (lv_at hl 2 rfl) ?_
        refine va_get (D := (dC, dI)) (ci := 0) (v := .ref qa) (C := RX0) (T := TX0) (N := 2) hx hb hts hin0 hown hK hP 0 rfl rfl 0 (by decide) hf9 (fun _ h9 => h9) rfl dX0_swap_56 ?_
        refine lv_iload_n hx hb dX0_swap_59 rfl (lv_at hl 4 rfl) ?_
        refine lv_iconst (v := (nI 4)) hx hb dX0_swap_60 (by decide +kernel) ?_
        refine my_mul hx hb dX0_swap_61 ?_
        refine lv_iload_n hx hb dX0_swap_62 rfl (lv_at hl 1 rfl) ?_
        refine my_add hx hb dX0_swap_63 ?_
        refine lv_iload hx hb dX0_swap_64 (lv_at hl 0 rfl) ?_
        refine my_iast hx hb hK hP hD hS 1 0 rfl rfl (by omega) (by decide) dX0_swap_66 (fun H locs hP hD hS => ?_)
        have hP : va_P (dC, dI) vwCl (W0 h0 qa qb cI cZ (upd (upd (swapN w j1 j2 i18) (j1 * 4 + i18) ((swapN w j1 j2 i18) (j2 * 4 + i18))) (j2 * 4 + i18) ((swapN w j1 j2 i18) (j1 * 4 + i18))) h) H := hP
        have hD : va_D A (W0 h0 qa qb cI cZ (upd (upd (swapN w j1 j2 i18) (j1 * 4 + i18) ((swapN w j1 j2 i18) (j2 * 4 + i18))) (j2 * 4 + i18) ((swapN w j1 j2 i18) (j1 * 4 + i18))) h) := hD
        refine lv_iinc (v := (nI (i18 + 1))) (lv' := [(3, .int (nI (i18 + 1))), (4, .int ((swapN w j1 j2 i18) (j1 * 4 + i18))), (0, .ref h0), (1, .int (nI j1)), (2, .int (nI j2))]) hx hb dX0_swap_67 hl (k := 1) rfl (nI_1 _) (by decide) rfl (fun ls hl => ?_)
        refine lv_goto (tgt := 18) hx hb dX0_swap_70 (by decide) ?_
        exact hnx_18 hlt_18 _ _ ls ⟨lv_sub hl [0, 2, 3, 4] rfl, hP, hD, hS⟩
    · have hb_11 : (okP 24 p2) = false := bI_f c_11
      refine lv_iconst (v := (-1)) hx hb dX0_swap_14 (by decide +kernel) ?_
      have eW : w_swap w (nI j1) p2 = w := by simp [s_two, w_swap, h_swap, hb_4, hg_j1, hb_11]
      have eH : h_swap h (nI j1) p2 = h := by simp [s_two, w_swap, h_swap, hb_4, hg_j1, hb_11]
      have eR : (-1) = s_two (nI j1) p2 := by simp [s_two, w_swap, h_swap, hb_4, hg_j1, hb_11, nI_0]
      exact W.iret (v := (-1)) hx hb hr (fun t ht hW => ⟨⟨_, (), rfl, eR, by rw [eW, eH, ht]; exact hP, va_K.moved hW.alike hK, by rw [eW, eH]; exact hD⟩, hS.F ht⟩) hS.2.2 dX0_swap_15
set_option maxHeartbeats 4000000 in
set_option maxRecDepth 100000 in
theorem k0_release (l : Launch) (dC : Nat → ClassId) (dI : Nat → Nat → Nat) (h0 qa qb : Nat) (cI cZ : ClassId) (sz : Nat) (w : Nat → Int32) (h : Nat → Bool) (p1 : Int32)  : Met l yX0_release wsX0_release ({ frames := 1, cells := 0, slots := 0, locals := 23 }) (va_Pc [.ref h0, .int (p1)] (fun U => U.heap.size = sz ∧ va_P (dC, dI) vwCl (W0 h0 qa qb cI cZ w h) U.heap ∧ va_K (dC, dI) vwCl (TY cI cZ) U ∧ va_D (fun _ => True) (W0 h0 qa qb cI cZ w h))) (va_Qi (fun r (_ : Unit) => r = s_rel h p1) (fun _ t => va_P (dC, dI) vwCl (W0 h0 qa qb cI cZ (w_rel w h p1) (h_rel h p1)) t.heap ∧ va_K (dC, dI) vwCl (TY cI cZ) t ∧ va_D (va_A (W0 h0 qa qb cI cZ w h) sz) (W0 h0 qa qb cI cZ (w_rel w h p1) (h_rel h p1))) (va_A (W0 h0 qa qb cI cZ w h) sz)) 0 0 (va_A (W0 h0 qa qb cI cZ w h) sz) := by
  refine Met.ofW (cc := cX0_release) (maxL := 2) (ret := (some .int)) (by decide) rfl ?_
  intro p e s m args below meth c s₁ B hml hv
  obtain ⟨rfl, hsz, hP, hK, hD0⟩ := hv
  have hx := B.exec
  have hb := B.bytes
  have hr := B.returns
  have hlocks := B.notSynchronized
  have hts := atoms_spec (ws := wsX0_release) B.pre
  have hown : s.vm.findClass RX0 = some m.cls := findClass_of_methodNamed B.named
  have hin0 : ∀ w ∈ wsX00, w ∈ wsX0_release := by decide +kernel
  have hf13 := hts (.fieldLink RX0 13 "PageMerger" "heldPages" "[Z") (by decide +kernel)
  subst hsz
  have hD := hD0.self (sz := s.heap.size)
  generalize hAe : va_A (W0 h0 qa qb cI cZ w h) s.heap.size = A at hD ⊢
  have hA : ∀ q : Nat, s.heap.size ≤ q → A q := fun q h => by rw [← hAe]; exact Or.inr h
  have hS : va_S A s.heap s.heap [] := va_S.rf
  have hl := lv_entry ([.ref h0, .int (p1)]) (n := 2) (Nat.le_of_ble_eq_true rfl)
  rw [lg_entry_eq]
  generalize (lg_sl ([.ref h0, .int (p1)]) ++ List.replicate (2 - (lg_sl ([.ref h0, .int (p1)])).length) Slot.unset).toArray = ls at hl ⊢
  have hl : lv_has ls 2 [(0, .ref h0), (1, .int (p1))] := hl
  refine lv_iload_n hx hb dX0_release_0 rfl (lv_at hl 1 rfl) ?_
  refine vp_callSi (va_Run.run (va_runS (As := [.int (p1)]) (rest := []) ⟨hx, hb, hml, hown, hts⟩ (k0_isPage l p1) (va_cwS 1 hts gX0_release_X0_isPage rfl rfl rfl (by decide +kernel) ⟨Nat.le_of_ble_eq_true rfl, Nat.le_of_ble_eq_true rfl⟩) ⟨bl_T, fun U hU hW => ⟨rfl, trivial⟩⟩ rfl rfl hl.1 rfl (lv_room (Nat.le_of_ble_eq_true rfl)) dX0_release_1 ⟨Nat.zero_le _, Nat.zero_le _⟩)) (fun r_1 hr_1 => ?_)
  obtain rfl : r_1 = (bI (okP 24 p1)) := hr_1
  refine lv_if_ne (tgt := 9) hx hb dX0_release_4 (by decide) (fun c_4 => ?_) (fun c_4 => ?_)
  · have hb_4 : (okP 24 p1) = true := bI_t c_4
    obtain ⟨j1, hj1, rfl⟩ := okP_of hb_4 (by decide)
    have hg_j1 : pg (nI j1) = j1 := pg_nI (by omega)
    refine lv_aload_n hx hb dX0_release_9 rfl (lv_at hl 0 rfl) ?_
    refine va_get (D := (dC, dI)) (ci := 0) (v := .ref qb) (C := RX0) (T := TX0) (N := 2) hx hb hts hin0 hown hK hP 0 rfl rfl 1 (by decide) hf13 (fun _ h9 => h9) rfl dX0_release_10 ?_
    refine lv_iload_n hx hb dX0_release_13 rfl (lv_at hl 1 rfl) ?_
    refine my_zaldP hx hb hK hP 2 1 rfl rfl (by omega) (by decide) dX0_release_14 ?_
    refine lv_if_ne (tgt := 21) hx hb dX0_release_15 (by decide) (fun c_15 => ?_) (fun c_15 => ?_)
    · have hb_15 : (h j1) = true := bI_t c_15
      refine lv_aload_n hx hb dX0_release_21 rfl (lv_at hl 0 rfl) ?_
      refine lv_iload_n hx hb dX0_release_22 rfl (lv_at hl 1 rfl) ?_
      refine lv_iconst (v := (nI 0)) hx hb dX0_release_23 (by decide +kernel) ?_
      have hFc := va_free (wc := W0 h0 qa qb cI cZ w h) hD hS hA [0, 1, 2] rfl
      refine va_callv (va_runV (As := [.int (nI j1), .int (nI 0)]) (rest := []) ⟨hx, hb, hml, hown, hts⟩ (k0_setAllWords l dC dI h0 qa qb cI cZ s.heap.size w h j1 (nI 0) (by omega)) (cwV 2 hts gX0_release_X0_setAllWords rfl rfl rfl (by decide +kernel) ⟨Nat.le_of_ble_eq_true rfl, Nat.le_of_ble_eq_true rfl⟩) ⟨bl_Q, va_recv hK hP (ci := 0) (q0 := 0) rfl rfl, fun U hU hW => ⟨rfl, by rw [hU], by rw [hU]; exact hP, va_K.moved hW.alike hK, hD.weaken (fun _ _ _ _ => trivial)⟩⟩ rfl rfl hl.1 rfl (lv_room (Nat.le_of_ble_eq_true rfl)) dX0_release_24 ⟨Nat.zero_le _, Nat.zero_le _⟩) hS (fun q _ h9 => hFc q h9) hFc (fun u t H1 locs ht hvm hw hB hz1 hk1 hS => ?_)
      obtain ⟨hP1, hK1, hD1⟩ := hB
      rw [ht] at hP1
      obtain ⟨hP, hD⟩ := va_join (wr := []) (w1 := W0 h0 qa qb cI cZ (fillN w j1 (nI 0) 4) h) hP hD [0, 1, 2] [] rfl rfl (by decide) (by decide) hk1 hFc hP1 hD1
      generalize H1 = H at hP hS ⊢
      have hP : va_P (dC, dI) vwCl (W0 h0 qa qb cI cZ (fillN w j1 (nI 0) 4) h) H := hP
      have hD : va_D A (W0 h0 qa qb cI cZ (fillN w j1 (nI 0) 4) h) := hD
      refine lv_aload_n hx hb dX0_release_27 rfl (lv_at hl 0 rfl) ?_
      refine va_get (D := (dC, dI)) (ci := 0) (v := .ref qb) (C := RX0) (T := TX0) (N := 2) hx hb hts hin0 hown hK hP 0 rfl rfl 1 (by decide) hf13 (fun _ h9 => h9) rfl dX0_release_28 ?_
      refine lv_iload_n hx hb dX0_release_31 rfl (lv_at hl 1 rfl) ?_
      refine lv_iconst (v := (nI 0)) hx hb dX0_release_32 (by decide +kernel) ?_
      refine my_zastP hx hb hK hP hD hS 2 1 rfl rfl false bI_0 (by omega) (by decide) dX0_release_33 (fun H locs hP hD hS => ?_)
      have hP : va_P (dC, dI) vwCl (W0 h0 qa qb cI cZ (fillN w j1 (nI 0) 4) (updB h j1 false)) H := hP
      have hD : va_D A (W0 h0 qa qb cI cZ (fillN w j1 (nI 0) 4) (updB h j1 false)) := hD
      refine lv_iconst (v := (nI 0)) hx hb dX0_release_34 (by decide +kernel) ?_
      have eW : w_rel w h (nI j1) = fillN w j1 (nI 0) 4 := by simp [s_rel, w_rel, h_rel, hb_4, hg_j1, hb_15]
      have eH : h_rel h (nI j1) = updB h j1 false := by simp [s_rel, w_rel, h_rel, hb_4, hg_j1, hb_15]
      have eR : (nI 0) = s_rel h (nI j1) := by simp [s_rel, w_rel, h_rel, hb_4, hg_j1, hb_15, nI_0]
      exact W.iret (v := (nI 0)) hx hb hr (fun t ht hW => ⟨⟨_, (), rfl, eR, by rw [eW, eH, ht]; exact hP, va_K.moved hW.alike hK, by rw [eW, eH]; exact hD⟩, hS.F ht⟩) hS.2.2 dX0_release_35
    · have hb_15 : (h j1) = false := bI_f c_15
      refine lv_bipush (v := (-3)) hx hb dX0_release_18 (by decide +kernel) ?_
      have eW : w_rel w h (nI j1) = w := by simp [s_rel, w_rel, h_rel, hb_4, hg_j1, hb_15]
      have eH : h_rel h (nI j1) = h := by simp [s_rel, w_rel, h_rel, hb_4, hg_j1, hb_15]
      have eR : (-3) = s_rel h (nI j1) := by simp [s_rel, w_rel, h_rel, hb_4, hg_j1, hb_15, nI_0]
      exact W.iret (v := (-3)) hx hb hr (fun t ht hW => ⟨⟨_, (), rfl, eR, by rw [eW, eH, ht]; exact hP, va_K.moved hW.alike hK, by rw [eW, eH]; exact hD⟩, hS.F ht⟩) hS.2.2 dX0_release_20
  · have hb_4 : (okP 24 p1) = false := bI_f c_4
    refine lv_iconst (v := (-1)) hx hb dX0_release_7 (by decide +kernel) ?_
    have eW : w_rel w h p1 = w := by simp [s_rel, w_rel, h_rel, hb_4]
    have eH : h_rel h p1 = h := by simp [s_rel, w_rel, h_rel, hb_4]
    have eR : (-1) = s_rel h p1 := by simp [s_rel, w_rel, h_rel, hb_4, nI_0]
    exact W.iret (v := (-1)) hx hb hr (fun t ht hW => ⟨⟨_, (), rfl, eR, by rw [eW, eH, ht]; exact hP, va_K.moved hW.alike hK, by rw [eW, eH]; exact hD⟩, hS.F ht⟩) hS.2.2 dX0_release_8
set_option maxHeartbeats 4000000 in
set_option maxRecDepth 100000 in
theorem k0_read (l : Launch) (dC : Nat → ClassId) (dI : Nat → Nat → Nat) (h0 qa qb : Nat) (cI cZ : ClassId) (w : Nat → Int32) (h : Nat → Bool) (p1 : Int32) (p2 : Int32)  : Met l yX0_read wsX0_read ({ frames := 1, cells := 0, slots := 0, locals := 20 }) (va_Pc [.ref h0, .int (p1), .int (p2)] (fun U => va_P (dC, dI) vwCl (W0 h0 qa qb cI cZ w h) U.heap ∧ va_K (dC, dI) vwCl (TY cI cZ) U)) (vp_Si (fun r => r = s_read w p1 p2)) 0 0 (fun _ => False) := by
  refine Met.ofW (cc := cX0_read) (maxL := 3) (ret := (some .int)) (by decide) rfl ?_
  intro p e s m args below meth c s₁ B hml hv
  obtain ⟨rfl, hP, hK⟩ := hv
  have hx := B.exec
  have hb := B.bytes
  have hr := B.returns
  have hlocks := B.notSynchronized
  have hts := atoms_spec (ws := wsX0_read) B.pre
  have hown : s.vm.findClass RX0 = some m.cls := findClass_of_methodNamed B.named
  have hin0 : ∀ w ∈ wsX00, w ∈ wsX0_read := by decide +kernel
  have hf9 := hts (.fieldLink RX0 9 "PageMerger" "words" "[I") (by decide +kernel)
  have hl := lv_entry ([.ref h0, .int (p1), .int (p2)]) (n := 3) (Nat.le_of_ble_eq_true rfl)
  rw [lg_entry_eq]
  generalize (lg_sl ([.ref h0, .int (p1), .int (p2)]) ++ List.replicate (3 - (lg_sl ([.ref h0, .int (p1), .int (p2)])).length) Slot.unset).toArray = ls at hl ⊢
  have hl : lv_has ls 3 [(0, .ref h0), (1, .int (p1)), (2, .int (p2))] := hl
  refine lv_iload_n hx hb dX0_read_0 rfl (lv_at hl 1 rfl) ?_
  refine vp_callSi (va_Run.run (va_runS (As := [.int (p1)]) (rest := []) ⟨hx, hb, hml, hown, hts⟩ (k0_isPage l p1) (va_cwS 1 hts gX0_read_X0_isPage rfl rfl rfl (by decide +kernel) ⟨Nat.le_of_ble_eq_true rfl, Nat.le_of_ble_eq_true rfl⟩) ⟨bl_T, fun U hU hW => ⟨rfl, trivial⟩⟩ rfl rfl hl.1 rfl (lv_room (Nat.le_of_ble_eq_true rfl)) dX0_read_1 ⟨Nat.zero_le _, Nat.zero_le _⟩)) (fun r_1 hr_1 => ?_)
  obtain rfl : r_1 = (bI (okP 24 p1)) := hr_1
  refine lv_if_ne (tgt := 9) hx hb dX0_read_4 (by decide) (fun c_4 => ?_) (fun c_4 => ?_)
  · have hb_4 : (okP 24 p1) = true := bI_t c_4
    obtain ⟨j1, hj1, rfl⟩ := okP_of hb_4 (by decide)
    have hg_j1 : pg (nI j1) = j1 := pg_nI (by omega)
    refine lv_iload_n hx hb dX0_read_9 rfl (lv_at hl 2 rfl) ?_
    refine vp_callSi (va_Run.run (va_runS (As := [.int (p2)]) (rest := []) ⟨hx, hb, hml, hown, hts⟩ (k0_isWord l p2) (va_cwS 1 hts gX0_read_X0_isWord rfl rfl rfl (by decide +kernel) ⟨Nat.le_of_ble_eq_true rfl, Nat.le_of_ble_eq_true rfl⟩) ⟨bl_T, fun U hU hW => ⟨rfl, trivial⟩⟩ rfl rfl hl.1 rfl (lv_room (Nat.le_of_ble_eq_true rfl)) dX0_read_10 ⟨Nat.zero_le _, Nat.zero_le _⟩)) (fun r_10 hr_10 => ?_)
    obtain rfl : r_10 = (bI (okP 4 p2)) := hr_10
    refine lv_if_ne (tgt := 19) hx hb dX0_read_13 (by decide) (fun c_13 => ?_) (fun c_13 => ?_)
    · have hb_13 : (okP 4 p2) = true := bI_t c_13
      obtain ⟨j2, hj2, rfl⟩ := okP_of hb_13 (by decide)
      have hg_j2 : pg (nI j2) = j2 := pg_nI (by omega)
      refine lv_aload_n hx hb dX0_read_19 rfl (lv_at hl 0 rfl) ?_
      refine va_get (D := (dC, dI)) (ci := 0) (v := .ref qa) (C := RX0) (T := TX0) (N := 2) hx hb hts hin0 hown hK hP 0 rfl rfl 0 (by decide) hf9 (fun _ h9 => h9) rfl dX0_read_20 ?_
      refine lv_iload_n hx hb dX0_read_23 rfl (lv_at hl 1 rfl) ?_
      refine lv_iconst (v := (nI 4)) hx hb dX0_read_24 (by decide +kernel) ?_
      refine my_mul hx hb dX0_read_25 ?_
      refine lv_iload_n hx hb dX0_read_26 rfl (lv_at hl 2 rfl) ?_
      refine my_add hx hb dX0_read_27 ?_
      refine my_iald hx hb hK hP 1 0 rfl rfl (by omega) (by decide) dX0_read_28 ?_
      have eR : (w (j1 * 4 + j2)) = s_read w (nI j1) (nI j2) := by simp [s_read, hb_4, hg_j1, hb_13, hg_j2]
      exact W.iret (v := (w (j1 * 4 + j2))) hx hb hr (fun t ht hW => ⟨_, rfl, eR, ht⟩) (fun q h9 => absurd h9 List.not_mem_nil) dX0_read_29
    · have hb_13 : (okP 4 p2) = false := bI_f c_13
      refine lv_bipush (v := (-2)) hx hb dX0_read_16 (by decide +kernel) ?_
      have eR : (-2) = s_read w (nI j1) p2 := by simp [s_read, hb_4, hg_j1, hb_13]
      exact W.iret (v := (-2)) hx hb hr (fun t ht hW => ⟨_, rfl, eR, ht⟩) (fun q h9 => absurd h9 List.not_mem_nil) dX0_read_18
  · have hb_4 : (okP 24 p1) = false := bI_f c_4
    refine lv_iconst (v := (-1)) hx hb dX0_read_7 (by decide +kernel) ?_
    have eR : (-1) = s_read w p1 p2 := by simp [s_read, hb_4]
    exact W.iret (v := (-1)) hx hb hr (fun t ht hW => ⟨_, rfl, eR, ht⟩) (fun q h9 => absurd h9 List.not_mem_nil) dX0_read_8
set_option maxHeartbeats 4000000 in
set_option maxRecDepth 100000 in
theorem k0_held (l : Launch) (dC : Nat → ClassId) (dI : Nat → Nat → Nat) (h0 qa qb : Nat) (cI cZ : ClassId) (w : Nat → Int32) (h : Nat → Bool) (p1 : Int32)  : Met l yX0_held wsX0_held ({ frames := 1, cells := 0, slots := 0, locals := 20 }) (va_Pc [.ref h0, .int (p1)] (fun U => va_P (dC, dI) vwCl (W0 h0 qa qb cI cZ w h) U.heap ∧ va_K (dC, dI) vwCl (TY cI cZ) U)) (vp_Si (fun r => r = bI (b_held h p1))) 0 0 (fun _ => False) := by
  refine Met.ofW (cc := cX0_held) (maxL := 2) (ret := (some .boolean)) (by decide) rfl ?_
  intro p e s m args below meth c s₁ B hml hv
  obtain ⟨rfl, hP, hK⟩ := hv
  have hx := B.exec
  have hb := B.bytes
  have hr := B.returns
  have hlocks := B.notSynchronized
  have hts := atoms_spec (ws := wsX0_held) B.pre
  have hown : s.vm.findClass RX0 = some m.cls := findClass_of_methodNamed B.named
  have hin0 : ∀ w ∈ wsX00, w ∈ wsX0_held := by decide +kernel
  have hf13 := hts (.fieldLink RX0 13 "PageMerger" "heldPages" "[Z") (by decide +kernel)
  have hl := lv_entry ([.ref h0, .int (p1)]) (n := 2) (Nat.le_of_ble_eq_true rfl)
  rw [lg_entry_eq]
  generalize (lg_sl ([.ref h0, .int (p1)]) ++ List.replicate (2 - (lg_sl ([.ref h0, .int (p1)])).length) Slot.unset).toArray = ls at hl ⊢
  have hl : lv_has ls 2 [(0, .ref h0), (1, .int (p1))] := hl
  refine lv_iload_n hx hb dX0_held_0 rfl (lv_at hl 1 rfl) ?_
  refine vp_callSi (va_Run.run (va_runS (As := [.int (p1)]) (rest := []) ⟨hx, hb, hml, hown, hts⟩ (k0_isPage l p1) (va_cwS 1 hts gX0_held_X0_isPage rfl rfl rfl (by decide +kernel) ⟨Nat.le_of_ble_eq_true rfl, Nat.le_of_ble_eq_true rfl⟩) ⟨bl_T, fun U hU hW => ⟨rfl, trivial⟩⟩ rfl rfl hl.1 rfl (lv_room (Nat.le_of_ble_eq_true rfl)) dX0_held_1 ⟨Nat.zero_le _, Nat.zero_le _⟩)) (fun r_1 hr_1 => ?_)
  obtain rfl : r_1 = (bI (okP 24 p1)) := hr_1
  refine lv_if_eq (tgt := 20) hx hb dX0_held_4 (by decide) (fun c_4 => ?_) (fun c_4 => ?_)
  · have hb_4 : (okP 24 p1) = false := bI_f c_4
    refine lv_iconst (v := (nI 0)) hx hb dX0_held_20 (by decide +kernel) ?_
    have eR : (nI 0) = bI (b_held h p1) := by simp [b_held, hb_4, bI_1, bI_0]
    exact W.zret (v := (nI 0)) hx hb hr (by decide +kernel) (fun t ht hW => ⟨_, rfl, eR, ht⟩) (fun q h9 => absurd h9 List.not_mem_nil) dX0_held_21
  · have hb_4 : (okP 24 p1) = true := bI_t c_4
    obtain ⟨j1, hj1, rfl⟩ := okP_of hb_4 (by decide)
    have hg_j1 : pg (nI j1) = j1 := pg_nI (by omega)
    refine lv_aload_n hx hb dX0_held_7 rfl (lv_at hl 0 rfl) ?_
    refine va_get (D := (dC, dI)) (ci := 0) (v := .ref qb) (C := RX0) (T := TX0) (N := 2) hx hb hts hin0 hown hK hP 0 rfl rfl 1 (by decide) hf13 (fun _ h9 => h9) rfl dX0_held_8 ?_
    refine lv_iload_n hx hb dX0_held_11 rfl (lv_at hl 1 rfl) ?_
    refine my_zaldP hx hb hK hP 2 1 rfl rfl (by omega) (by decide) dX0_held_12 ?_
    refine lv_if_eq (tgt := 20) hx hb dX0_held_13 (by decide) (fun c_13 => ?_) (fun c_13 => ?_)
    · have hb_13 : (h j1) = false := bI_f c_13
      refine lv_iconst (v := (nI 0)) hx hb dX0_held_20 (by decide +kernel) ?_
      have eR : (nI 0) = bI (b_held h (nI j1)) := by simp [b_held, hb_4, hg_j1, hb_13, bI_1, bI_0]
      exact W.zret (v := (nI 0)) hx hb hr (by decide +kernel) (fun t ht hW => ⟨_, rfl, eR, ht⟩) (fun q h9 => absurd h9 List.not_mem_nil) dX0_held_21
    · have hb_13 : (h j1) = true := bI_t c_13
      refine lv_iconst (v := (nI 1)) hx hb dX0_held_16 (by decide +kernel) ?_
      refine lv_goto (tgt := 21) hx hb dX0_held_17 (by decide) ?_
      have eR : (nI 1) = bI (b_held h (nI j1)) := by simp [b_held, hb_4, hg_j1, hb_13, bI_1, bI_0]
      exact W.zret (v := (nI 1)) hx hb hr (by decide +kernel) (fun t ht hW => ⟨_, rfl, eR, ht⟩) (fun q h9 => absurd h9 List.not_mem_nil) dX0_held_21
set_option maxHeartbeats 4000000 in
set_option maxRecDepth 100000 in
theorem k0_same (l : Launch) (dC : Nat → ClassId) (dI : Nat → Nat → Nat) (h0 qa qb : Nat) (cI cZ : ClassId) (w : Nat → Int32) (h : Nat → Bool) (p1 : Int32) (p2 : Int32)  : Met l yX0_same wsX0_same ({ frames := 1, cells := 0, slots := 0, locals := 23 }) (va_Pc [.ref h0, .int (p1), .int (p2)] (fun U => va_P (dC, dI) vwCl (W0 h0 qa qb cI cZ w h) U.heap ∧ va_K (dC, dI) vwCl (TY cI cZ) U)) (vp_Si (fun r => r = bI (b_same w p1 p2))) 0 0 (fun _ => False) := by
  refine Met.ofW (cc := cX0_same) (maxL := 3) (ret := (some .boolean)) (by decide) rfl ?_
  intro p e s m args below meth c s₁ B hml hv
  obtain ⟨rfl, hP, hK⟩ := hv
  have hx := B.exec
  have hb := B.bytes
  have hr := B.returns
  have hlocks := B.notSynchronized
  have hts := atoms_spec (ws := wsX0_same) B.pre
  have hown : s.vm.findClass RX0 = some m.cls := findClass_of_methodNamed B.named
  have hl := lv_entry ([.ref h0, .int (p1), .int (p2)]) (n := 3) (Nat.le_of_ble_eq_true rfl)
  rw [lg_entry_eq]
  generalize (lg_sl ([.ref h0, .int (p1), .int (p2)]) ++ List.replicate (3 - (lg_sl ([.ref h0, .int (p1), .int (p2)])).length) Slot.unset).toArray = ls at hl ⊢
  have hl : lv_has ls 3 [(0, .ref h0), (1, .int (p1)), (2, .int (p2))] := hl
  refine lv_iload_n hx hb dX0_same_0 rfl (lv_at hl 1 rfl) ?_
  refine vp_callSi (va_Run.run (va_runS (As := [.int (p1)]) (rest := []) ⟨hx, hb, hml, hown, hts⟩ (k0_isPage l p1) (va_cwS 1 hts gX0_same_X0_isPage rfl rfl rfl (by decide +kernel) ⟨Nat.le_of_ble_eq_true rfl, Nat.le_of_ble_eq_true rfl⟩) ⟨bl_T, fun U hU hW => ⟨rfl, trivial⟩⟩ rfl rfl hl.1 rfl (lv_room (Nat.le_of_ble_eq_true rfl)) dX0_same_1 ⟨Nat.zero_le _, Nat.zero_le _⟩)) (fun r_1 hr_1 => ?_)
  obtain rfl : r_1 = (bI (okP 24 p1)) := hr_1
  refine lv_if_eq (tgt := 27) hx hb dX0_same_4 (by decide) (fun c_4 => ?_) (fun c_4 => ?_)
  · have hb_4 : (okP 24 p1) = false := bI_f c_4
    refine lv_iconst (v := (nI 0)) hx hb dX0_same_27 (by decide +kernel) ?_
    have eR : (nI 0) = bI (b_same w p1 p2) := by simp [b_same, hb_4, bI_1, bI_0]
    exact W.zret (v := (nI 0)) hx hb hr (by decide +kernel) (fun t ht hW => ⟨_, rfl, eR, ht⟩) (fun q h9 => absurd h9 List.not_mem_nil) dX0_same_28
  · have hb_4 : (okP 24 p1) = true := bI_t c_4
    obtain ⟨j1, hj1, rfl⟩ := okP_of hb_4 (by decide)
    have hg_j1 : pg (nI j1) = j1 := pg_nI (by omega)
    refine lv_iload_n hx hb dX0_same_7 rfl (lv_at hl 2 rfl) ?_
    refine vp_callSi (va_Run.run (va_runS (As := [.int (p2)]) (rest := []) ⟨hx, hb, hml, hown, hts⟩ (k0_isPage l p2) (va_cwS 1 hts gX0_same_X0_isPage rfl rfl rfl (by decide +kernel) ⟨Nat.le_of_ble_eq_true rfl, Nat.le_of_ble_eq_true rfl⟩) ⟨bl_T, fun U hU hW => ⟨rfl, trivial⟩⟩ rfl rfl hl.1 rfl (lv_room (Nat.le_of_ble_eq_true rfl)) dX0_same_8 ⟨Nat.zero_le _, Nat.zero_le _⟩)) (fun r_8 hr_8 => ?_)
    obtain rfl : r_8 = (bI (okP 24 p2)) := hr_8
    refine lv_if_eq (tgt := 27) hx hb dX0_same_11 (by decide) (fun c_11 => ?_) (fun c_11 => ?_)
    · have hb_11 : (okP 24 p2) = false := bI_f c_11
      refine lv_iconst (v := (nI 0)) hx hb dX0_same_27 (by decide +kernel) ?_
      have eR : (nI 0) = bI (b_same w (nI j1) p2) := by simp [b_same, hb_4, hg_j1, hb_11, bI_1, bI_0]
      exact W.zret (v := (nI 0)) hx hb hr (by decide +kernel) (fun t ht hW => ⟨_, rfl, eR, ht⟩) (fun q h9 => absurd h9 List.not_mem_nil) dX0_same_28
    · have hb_11 : (okP 24 p2) = true := bI_t c_11
      obtain ⟨j2, hj2, rfl⟩ := okP_of hb_11 (by decide)
      have hg_j2 : pg (nI j2) = j2 := pg_nI (by omega)
      refine lv_aload_n hx hb dX0_same_14 rfl (lv_at hl 0 rfl) ?_
      refine lv_iload_n hx hb dX0_same_15 rfl (lv_at hl 1 rfl) ?_
      refine lv_iload_n hx hb dX0_same_16 rfl (lv_at hl 2 rfl) ?_
      refine vp_callSi (va_Run.run (va_runV (As := [.int (nI j1), .int (nI j2)]) (rest := []) ⟨hx, hb, hml, hown, hts⟩ (k0_haveSameWords l dC dI h0 qa qb cI cZ w h j1 j2 (by omega) (by omega)) (cwV 2 hts gX0_same_X0_haveSameWords rfl rfl rfl (by decide +kernel) ⟨Nat.le_of_ble_eq_true rfl, Nat.le_of_ble_eq_true rfl⟩) ⟨bl_P, va_recv hK hP (ci := 0) (q0 := 0) rfl rfl, fun U hU hW => ⟨rfl, by rw [hU]; exact hP, va_K.moved hW.alike hK⟩⟩ rfl rfl hl.1 rfl (lv_room (Nat.le_of_ble_eq_true rfl)) dX0_same_17 ⟨Nat.zero_le _, Nat.zero_le _⟩)) (fun r_17 hr_17 => ?_)
      obtain rfl : r_17 = (bI (sm w j1 j2)) := hr_17
      refine lv_if_eq (tgt := 27) hx hb dX0_same_20 (by decide) (fun c_20 => ?_) (fun c_20 => ?_)
      · have hb_20 : (sm w j1 j2) = false := bI_f c_20
        refine lv_iconst (v := (nI 0)) hx hb dX0_same_27 (by decide +kernel) ?_
        have eR : (nI 0) = bI (b_same w (nI j1) (nI j2)) := by simp [b_same, hb_4, hg_j1, hb_11, hg_j2, hb_20, bI_1, bI_0]
        exact W.zret (v := (nI 0)) hx hb hr (by decide +kernel) (fun t ht hW => ⟨_, rfl, eR, ht⟩) (fun q h9 => absurd h9 List.not_mem_nil) dX0_same_28
      · have hb_20 : (sm w j1 j2) = true := bI_t c_20
        refine lv_iconst (v := (nI 1)) hx hb dX0_same_23 (by decide +kernel) ?_
        refine lv_goto (tgt := 28) hx hb dX0_same_24 (by decide) ?_
        have eR : (nI 1) = bI (b_same w (nI j1) (nI j2)) := by simp [b_same, hb_4, hg_j1, hb_11, hg_j2, hb_20, bI_1, bI_0]
        exact W.zret (v := (nI 1)) hx hb hr (by decide +kernel) (fun t ht hW => ⟨_, rfl, eR, ht⟩) (fun q h9 => absurd h9 List.not_mem_nil) dX0_same_28
set_option maxHeartbeats 4000000 in
set_option maxRecDepth 100000 in
theorem k0_scan (l : Launch) (h0 : Nat) (p1 : Int32) : Met l yX0_scan wsX0_scan ({ frames := 0, cells := 0, slots := 0, locals := 0 }) (va_Pc [.ref h0, .int p1] (fun _ => True)) (va_Sv (fun _ => True)) 0 0 (fun _ => False) := by
  refine Met.ofW (cc := cX0_scan) (maxL := 2) (ret := none) (by decide) rfl ?_
  intro p e s m args below meth c s₁ B hml hv
  obtain ⟨rfl, -⟩ := hv
  have hx := B.exec
  have hb := B.bytes
  have hr := B.returns
  have hlocks := B.notSynchronized
  rw [lg_entry_eq]
  exact W.vret hx hb hr (fun t ht hW => ⟨rfl, trivial, ht⟩) (fun q h9 => absurd h9 List.not_mem_nil) dX0_scan_0
