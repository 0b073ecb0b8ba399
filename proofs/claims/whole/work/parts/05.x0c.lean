set_option maxHeartbeats 4000000 in
set_option maxRecDepth 100000 in
theorem k0_contents (l : Launch) (dC : Nat → ClassId) (dI : Nat → Nat → Nat) (h0 qa qb : Nat) (cI cZ : ClassId) (w : Nat → Int32) (h : Nat → Bool)   : Met l yX0_contents wsX0_contents ({ frames := 2, cells := 0, slots := 0, locals := 45 }) (va_Pc [.ref h0] (fun U => va_P (dC, dI) vwCl (W0 h0 qa qb cI cZ w h) U.heap ∧ va_K (dC, dI) vwCl (TY cI cZ) U)) (vp_Si (fun r => r = cnt (f_con w h) 24)) 0 0 (fun _ => False) := by
  refine Met.ofW (cc := cX0_contents) (maxL := 3) (ret := (some .int)) (by decide) rfl ?_
  intro p e s m args below meth c s₁ B hml hv
  obtain ⟨rfl, hP, hK⟩ := hv
  have hx := B.exec
  have hb := B.bytes
  have hr := B.returns
  have hlocks := B.notSynchronized
  have hts := atoms_spec (ws := wsX0_contents) B.pre
  have hown : s.vm.findClass RX0 = some m.cls := findClass_of_methodNamed B.named
  have hin0 : ∀ w ∈ wsX00, w ∈ wsX0_contents := by decide +kernel
  have hf13 := hts (.fieldLink RX0 13 "PageMerger" "heldPages" "[Z") (by decide +kernel)
  have hl := lv_entry ([.ref h0]) (n := 3) (Nat.le_of_ble_eq_true rfl)
  rw [lg_entry_eq]
  generalize (lg_sl ([.ref h0]) ++ List.replicate (3 - (lg_sl ([.ref h0])).length) Slot.unset).toArray = ls at hl ⊢
  have hl : lv_has ls 3 [(0, .ref h0)] := hl
  refine lv_iconst (v := (nI 0)) hx hb dX0_contents_0 (by decide +kernel) ?_
  refine lv_istore_n (lv' := [(1, .int (nI 0)), (0, .ref h0)]) hx hb dX0_contents_1 rfl hl (by decide) rfl (fun ls hl => ?_)
  refine lv_iconst (v := (nI 0)) hx hb dX0_contents_2 (by decide +kernel) ?_
  refine lv_istore_n (lv' := [(2, .int (nI 0)), (1, .int (nI 0)), (0, .ref h0)]) hx hb dX0_contents_3 rfl hl (by decide) rfl (fun ls hl => ?_)
  refine lp_P 4 24 (fun i4 ls => lv_has ls 3 [(2, .int (nI i4)), (1, .int (cnt (f_con w h) i4)), (0, .ref h0)]) (fun i4 ls hi_4 hI hnx_4 => ?_) 0 (by omega) ls (lv_sub hl [0, 1, 2] rfl)
  have hl := hI
  refine lv_iload_n hx hb dX0_contents_4 rfl (lv_at hl 0 rfl) ?_
  refine lv_bipush (v := (nI 24)) hx hb dX0_contents_5 (by decide +kernel) ?_
  refine lv_icmp_ge (tgt := 36) hx hb dX0_contents_7 (by decide) (fun c_7 => ?_) (fun c_7 => ?_)
  · have hq_7 : 24 ≤ i4 := (nI_leI (by omega) (by omega)).mp c_7
    have hE_7 : i4 = 24 := by omega
    subst hE_7
    refine lv_iload_n hx hb dX0_contents_36 rfl (lv_at hl 1 rfl) ?_
    have eR : (cnt (f_con w h) 24) = cnt (f_con w h) 24 := by simp []
    exact W.iret (v := (cnt (f_con w h) 24)) hx hb hr (fun t ht hW => ⟨_, rfl, eR, ht⟩) (fun q h9 => absurd h9 List.not_mem_nil) dX0_contents_37
  · have hlt_4 : i4 < 24 := Nat.lt_of_not_le (fun q => c_7 ((nI_leI (by omega) (by omega)).mpr q))
    refine lv_aload_n hx hb dX0_contents_10 rfl (lv_at hl 2 rfl) ?_
    refine va_get (D := (dC, dI)) (ci := 0) (v := .ref qb) (C := RX0) (T := TX0) (N := 2) hx hb hts hin0 hown hK hP 0 rfl rfl 1 (by decide) hf13 (fun _ h9 => h9) rfl dX0_contents_11 ?_
    refine lv_iload_n hx hb dX0_contents_14 rfl (lv_at hl 0 rfl) ?_
    refine my_zaldP hx hb hK hP 2 1 rfl rfl (by omega) (by decide) dX0_contents_15 ?_
    refine lv_if_eq (tgt := 30) hx hb dX0_contents_16 (by decide) (fun c_16 => ?_) (fun c_16 => ?_)
    · have hb_16 : (h i4) = false := bI_f c_16
      refine lv_iinc (v := (nI (i4 + 1))) (lv' := [(2, .int (nI (i4 + 1))), (1, .int (cnt (f_con w h) i4)), (0, .ref h0)]) hx hb dX0_contents_30 hl (k := 0) rfl (nI_1 _) (by decide) rfl (fun ls hl => ?_)
      refine lv_goto (tgt := 4) hx hb dX0_contents_33 (by decide) ?_
      exact hnx_4 hlt_4 ls (by rw [show (cnt (f_con w h) (i4 + 1)) = (cnt (f_con w h) i4) from cnt_n (by simp [f_con, hb_16])]; exact lv_sub hl [0, 1, 2] rfl)
    · have hb_16 : (h i4) = true := bI_t c_16
      refine lv_aload_n hx hb dX0_contents_19 rfl (lv_at hl 2 rfl) ?_
      refine lv_iload_n hx hb dX0_contents_20 rfl (lv_at hl 0 rfl) ?_
      refine vp_callSi (va_Run.run (va_runV (As := [.int (nI i4)]) (rest := []) ⟨hx, hb, hml, hown, hts⟩ (k0_repeatsAnEarlierPage l dC dI h0 qa qb cI cZ w h i4 (by omega)) (cwV 1 hts gX0_contents_X0_repeatsAnEarlierPage rfl rfl rfl (by decide +kernel) ⟨Nat.le_of_ble_eq_true rfl, Nat.le_of_ble_eq_true rfl⟩) ⟨bl_P, va_recv hK hP (ci := 0) (q0 := 0) rfl rfl, fun U hU hW => ⟨rfl, by rw [hU]; exact hP, va_K.moved hW.alike hK⟩⟩ rfl rfl hl.1 rfl (lv_room (Nat.le_of_ble_eq_true rfl)) dX0_contents_21 ⟨Nat.zero_le _, Nat.zero_le _⟩)) (fun r_21 hr_21 => ?_)
      obtain rfl : r_21 = (bI (rep w h i4)) := hr_21
      refine lv_if_ne (tgt := 30) hx hb dX0_contents_24 (by decide) (fun c_24 => ?_) (fun c_24 => ?_)
      · have hb_24 : (rep w h i4) = true := bI_t c_24
        refine lv_iinc (v := (nI (i4 + 1))) (lv' := [(2, .int (nI (i4 + 1))), (1, .int (cnt (f_con w h) i4)), (0, .ref h0)]) hx hb dX0_contents_30 hl (k := 0) rfl (nI_1 _) (by decide) rfl (fun ls hl => ?_)
        refine lv_goto (tgt := 4) hx hb dX0_contents_33 (by decide) ?_
        exact hnx_4 hlt_4 ls (by rw [show (cnt (f_con w h) (i4 + 1)) = (cnt (f_con w h) i4) from cnt_n (by simp [f_con, hb_16, hb_24])]; exact lv_sub hl [0, 1, 2] rfl)
      · have hb_24 : (rep w h i4) = false := bI_f c_24
        refine lv_iinc (v := (cnt (f_con w h) i4 + 1)) (lv' := [(1, .int (cnt (f_con w h) i4 + 1)), (2, .int (nI i4)), (0, .ref h0)]) hx hb dX0_contents_27 hl (k := 1) rfl rfl (by decide) rfl (fun ls hl => ?_)
        refine lv_iinc (v := (nI (i4 + 1))) (lv' := [(2, .int (nI (i4 + 1))), (1, .int (cnt (f_con w h) i4 + 1)), (0, .ref h0)]) hx hb dX0_contents_30 hl (k := 1) rfl (nI_1 _) (by decide) rfl (fun ls hl => ?_)
        refine lv_goto (tgt := 4) hx hb dX0_contents_33 (by decide) ?_
        exact hnx_4 hlt_4 ls (by rw [show (cnt (f_con w h) (i4 + 1)) = (cnt (f_con w h) i4 + 1) from cnt_y (by simp [f_con, hb_16, hb_24])]; exact lv_sub hl [0, 1, 2] rfl)
set_option maxHeartbeats 4000000 in
set_option maxRecDepth 100000 in
theorem k0_duplicates (l : Launch) (dC : Nat → ClassId) (dI : Nat → Nat → Nat) (h0 qa qb : Nat) (cI cZ : ClassId) (w : Nat → Int32) (h : Nat → Bool)   : Met l yX0_duplicates wsX0_duplicates ({ frames := 2, cells := 0, slots := 0, locals := 45 }) (va_Pc [.ref h0] (fun U => va_P (dC, dI) vwCl (W0 h0 qa qb cI cZ w h) U.heap ∧ va_K (dC, dI) vwCl (TY cI cZ) U)) (vp_Si (fun r => r = cnt (f_dup w h) 24)) 0 0 (fun _ => False) := by
  refine Met.ofW (cc := cX0_duplicates) (maxL := 3) (ret := (some .int)) (by decide) rfl ?_
  intro p e s m args below meth c s₁ B hml hv
  obtain ⟨rfl, hP, hK⟩ := hv
  have hx := B.exec
  have hb := B.bytes
  have hr := B.returns
  have hlocks := B.notSynchronized
  have hts := atoms_spec (ws := wsX0_duplicates) B.pre
  have hown : s.vm.findClass RX0 = some m.cls := findClass_of_methodNamed B.named
  have hin0 : ∀ w ∈ wsX00, w ∈ wsX0_duplicates := by decide +kernel
  have hf13 := hts (.fieldLink RX0 13 "PageMerger" "heldPages" "[Z") (by decide +kernel)
  have hl := lv_entry ([.ref h0]) (n := 3) (Nat.le_of_ble_eq_true rfl)
  rw [lg_entry_eq]
  generalize (lg_sl ([.ref h0]) ++ List.replicate (3 - (lg_sl ([.ref h0])).length) Slot.unset).toArray = ls at hl ⊢
  have hl : lv_has ls 3 [(0, .ref h0)] := hl
  refine lv_iconst (v := (nI 0)) hx hb dX0_duplicates_0 (by decide +kernel) ?_
  refine lv_istore_n (lv' := [(1, .int (nI 0)), (0, .ref h0)]) hx hb dX0_duplicates_1 rfl hl (by decide) rfl (fun ls hl => ?_)
  refine lv_iconst (v := (nI 0)) hx hb dX0_duplicates_2 (by decide +kernel) ?_
  refine lv_istore_n (lv' := [(2, .int (nI 0)), (1, .int (nI 0)), (0, .ref h0)]) hx hb dX0_duplicates_3 rfl hl (by decide) rfl (fun ls hl => ?_)
  refine lp_P 4 24 (fun i4 ls => lv_has ls 3 [(2, .int (nI i4)), (1, .int (cnt (f_dup w h) i4)), (0, .ref h0)]) (fun i4 ls hi_4 hI hnx_4 => ?_) 0 (by omega) ls (lv_sub hl [0, 1, 2] rfl)
  have hl := hI
  refine lv_iload_n hx hb dX0_duplicates_4 rfl (lv_at hl 0 rfl) ?_
  refine lv_bipush (v := (nI 24)) hx hb dX0_duplicates_5 (by decide +kernel) ?_
  refine lv_icmp_ge (tgt := 36) hx hb dX0_duplicates_7 (by decide) (fun c_7 => ?_) (fun c_7 => ?_)
  · have hq_7 : 24 ≤ i4 := (nI_leI (by omega) (by omega)).mp c_7
    have hE_7 : i4 = 24 := by omega
    subst hE_7
    refine lv_iload_n hx hb dX0_duplicates_36 rfl (lv_at hl 1 rfl) ?_
    have eR : (cnt (f_dup w h) 24) = cnt (f_dup w h) 24 := by simp []
    exact W.iret (v := (cnt (f_dup w h) 24)) hx hb hr (fun t ht hW => ⟨_, rfl, eR, ht⟩) (fun q h9 => absurd h9 List.not_mem_nil) dX0_duplicates_37
  · have hlt_4 : i4 < 24 := Nat.lt_of_not_le (fun q => c_7 ((nI_leI (by omega) (by omega)).mpr q))
    refine lv_aload_n hx hb dX0_duplicates_10 rfl (lv_at hl 2 rfl) ?_
    refine va_get (D := (dC, dI)) (ci := 0) (v := .ref qb) (C := RX0) (T := TX0) (N := 2) hx hb hts hin0 hown hK hP 0 rfl rfl 1 (by decide) hf13 (fun _ h9 => h9) rfl dX0_duplicates_11 ?_
    refine lv_iload_n hx hb dX0_duplicates_14 rfl (lv_at hl 0 rfl) ?_
    refine my_zaldP hx hb hK hP 2 1 rfl rfl (by omega) (by decide) dX0_duplicates_15 ?_
    refine lv_if_eq (tgt := 30) hx hb dX0_duplicates_16 (by decide) (fun c_16 => ?_) (fun c_16 => ?_)
    · have hb_16 : (h i4) = false := bI_f c_16
      refine lv_iinc (v := (nI (i4 + 1))) (lv' := [(2, .int (nI (i4 + 1))), (1, .int (cnt (f_dup w h) i4)), (0, .ref h0)]) hx hb dX0_duplicates_30 hl (k := 0) rfl (nI_1 _) (by decide) rfl (fun ls hl => ?_)
      refine lv_goto (tgt := 4) hx hb dX0_duplicates_33 (by decide) ?_
      exact hnx_4 hlt_4 ls (by rw [show (cnt (f_dup w h) (i4 + 1)) = (cnt (f_dup w h) i4) from cnt_n (by simp [f_dup, hb_16])]; exact lv_sub hl [0, 1, 2] rfl)
    · have hb_16 : (h i4) = true := bI_t c_16
      refine lv_aload_n hx hb dX0_duplicates_19 rfl (lv_at hl 2 rfl) ?_
      refine lv_iload_n hx hb dX0_duplicates_20 rfl (lv_at hl 0 rfl) ?_
      refine vp_callSi (va_Run.run (va_runV (As := [.int (nI i4)]) (rest := []) ⟨hx, hb, hml, hown, hts⟩ (k0_repeatsAnEarlierPage l dC dI h0 qa qb cI cZ w h i4 (by omega)) (cwV 1 hts gX0_duplicates_X0_repeatsAnEarlierPage rfl rfl rfl (by decide +kernel) ⟨Nat.le_of_ble_eq_true rfl, Nat.le_of_ble_eq_true rfl⟩) ⟨bl_P, va_recv hK hP (ci := 0) (q0 := 0) rfl rfl, fun U hU hW => ⟨rfl, by rw [hU]; exact hP, va_K.moved hW.alike hK⟩⟩ rfl rfl hl.1 rfl (lv_room (Nat.le_of_ble_eq_true rfl)) dX0_duplicates_21 ⟨Nat.zero_le _, Nat.zero_le _⟩)) (fun r_21 hr_21 => ?_)
      obtain rfl : r_21 = (bI (rep w h i4)) := hr_21
      refine lv_if_eq (tgt := 30) hx hb dX0_duplicates_24 (by decide) (fun c_24 => ?_) (fun c_24 => ?_)
      · have hb_24 : (rep w h i4) = false := bI_f c_24
        refine lv_iinc (v := (nI (i4 + 1))) (lv' := [(2, .int (nI (i4 + 1))), (1, .int (cnt (f_dup w h) i4)), (0, .ref h0)]) hx hb dX0_duplicates_30 hl (k := 0) rfl (nI_1 _) (by decide) rfl (fun ls hl => ?_)
        refine lv_goto (tgt := 4) hx hb dX0_duplicates_33 (by decide) ?_
        exact hnx_4 hlt_4 ls (by rw [show (cnt (f_dup w h) (i4 + 1)) = (cnt (f_dup w h) i4) from cnt_n (by simp [f_dup, hb_16, hb_24])]; exact lv_sub hl [0, 1, 2] rfl)
      · have hb_24 : (rep w h i4) = true := bI_t c_24
        refine lv_iinc (v := (cnt (f_dup w h) i4 + 1)) (lv' := [(1, .int (cnt (f_dup w h) i4 + 1)), (2, .int (nI i4)), (0, .ref h0)]) hx hb dX0_duplicates_27 hl (k := 1) rfl rfl (by decide) rfl (fun ls hl => ?_)
        refine lv_iinc (v := (nI (i4 + 1))) (lv' := [(2, .int (nI (i4 + 1))), (1, .int (cnt (f_dup w h) i4 + 1)), (0, .ref h0)]) hx hb dX0_duplicates_30 hl (k := 1) rfl (nI_1 _) (by decide) rfl (fun ls hl => ?_)
        refine lv_goto (tgt := 4) hx hb dX0_duplicates_33 (by decide) ?_
        exact hnx_4 hlt_4 ls (by rw [show (cnt (f_dup w h) (i4 + 1)) = (cnt (f_dup w h) i4 + 1) from cnt_y (by simp [f_dup, hb_16, hb_24])]; exact lv_sub hl [0, 1, 2] rfl)
set_option maxHeartbeats 4000000 in
set_option maxRecDepth 100000 in
theorem k0_sum (l : Launch) (dC : Nat → ClassId) (dI : Nat → Nat → Nat) (h0 qa qb : Nat) (cI cZ : ClassId) (w : Nat → Int32) (h : Nat → Bool) (p1 : Int32)  : Met l yX0_sum wsX0_sum ({ frames := 0, cells := 0, slots := 0, locals := 0 }) (va_Pc [.ref h0, .int (p1)] (fun U => va_P (dC, dI) vwCl (W0 h0 qa qb cI cZ w h) U.heap ∧ va_K (dC, dI) vwCl (TY cI cZ) U)) (vp_Si (fun r => r = s_sum w p1)) 0 0 (fun _ => False) := by
  refine Met.ofW (cc := cX0_sum) (maxL := 6) (ret := (some .int)) (by decide) rfl ?_
  intro p e s m args below meth c s₁ B hml hv
  obtain ⟨rfl, hP, hK⟩ := hv
  have hx := B.exec
  have hb := B.bytes
  have hr := B.returns
  have hlocks := B.notSynchronized
  have hts := atoms_spec (ws := wsX0_sum) B.pre
  have hown : s.vm.findClass RX0 = some m.cls := findClass_of_methodNamed B.named
  have hin0 : ∀ w ∈ wsX00, w ∈ wsX0_sum := by decide +kernel
  have hf9 := hts (.fieldLink RX0 9 "PageMerger" "words" "[I") (by decide +kernel)
  have hl := lv_entry ([.ref h0, .int (p1)]) (n := 6) (Nat.le_of_ble_eq_true rfl)
  rw [lg_entry_eq]
  generalize (lg_sl ([.ref h0, .int (p1)]) ++ List.replicate (6 - (lg_sl ([.ref h0, .int (p1)])).length) Slot.unset).toArray = ls at hl ⊢
  have hl : lv_has ls 6 [(0, .ref h0), (1, .int (p1))] := hl
  refine lv_iload_n hx hb dX0_sum_0 rfl (lv_at hl 1 rfl) ?_
  refine lv_if_lt (tgt := 9) hx hb dX0_sum_1 (by decide) (fun c_1 => ?_) (fun c_1 => ?_)
  · have ho : okP 3 p1 = false := okP_neg c_1
    refine lv_iconst (v := (nI 0)) hx hb dX0_sum_9 (by decide +kernel) ?_
    have eR : (nI 0) = s_sum w p1 := by simp [s_sum, ho]
    exact W.iret (v := (nI 0)) hx hb hr (fun t ht hW => ⟨_, rfl, eR, ht⟩) (fun q h9 => absurd h9 List.not_mem_nil) dX0_sum_10
  · refine lv_iload_n hx hb dX0_sum_4 rfl (lv_at hl 1 rfl) ?_
    refine lv_iconst (v := (nI 3)) hx hb dX0_sum_5 (by decide +kernel) ?_
    refine lv_icmp_lt (tgt := 11) hx hb dX0_sum_6 (by decide) (fun c_6 => ?_) (fun c_6 => ?_)
    · have ho : okP 3 p1 = true := okP_lt (by decide) c_1 c_6
      obtain ⟨j1, hj1, rfl⟩ := okP_of ho (by decide)
      have hg_j1 : pg (nI j1) = j1 := pg_nI (by omega)
      refine lv_bipush (v := (nI 32)) hx hb dX0_sum_11 (by decide +kernel) ?_
      refine lv_istore_n (lv' := [(2, .int (nI 32)), (0, .ref h0), (1, .int (nI j1))]) hx hb dX0_sum_13 rfl hl (by decide) rfl (fun ls hl => ?_)
      refine lv_iload_n hx hb dX0_sum_14 rfl (lv_at hl 2 rfl) ?_
      refine lv_iload_n hx hb dX0_sum_15 rfl (lv_at hl 0 rfl) ?_
      refine my_mul hx hb dX0_sum_16 ?_
      refine lv_istore_n (lv' := [(3, .int (nI (j1 * 32))), (2, .int (nI 32)), (0, .ref h0), (1, .int (nI j1))]) hx hb dX0_sum_17 rfl hl (by decide) rfl (fun ls hl => ?_)
      refine lv_iconst (v := (nI 0)) hx hb dX0_sum_18 (by decide +kernel) ?_
      refine lv_istore (lv' := [(4, .int (nI 0)), (3, .int (nI (j1 * 32))), (2, .int (nI 32)), (0, .ref h0), (1, .int (nI j1))]) hx hb dX0_sum_19 hl (by decide) rfl (fun ls hl => ?_)
      refine lv_iconst (v := (nI 0)) hx hb dX0_sum_21 (by decide +kernel) ?_
      refine lv_istore (lv' := [(5, .int (nI 0)), (4, .int (nI 0)), (3, .int (nI (j1 * 32))), (2, .int (nI 32)), (0, .ref h0), (1, .int (nI j1))]) hx hb dX0_sum_22 hl (by decide) rfl (fun ls hl => ?_)
      refine lp_P 24 32 (fun i24 ls => lv_has ls 6 [(5, .int (nI i24)), (4, .int (sumN (fun i => w (j1 * 32 + i)) i24)), (3, .int (nI (j1 * 32))), (2, .int (nI 32)), (0, .ref h0), (1, .int (nI j1))]) (fun i24 ls hi_24 hI hnx_24 => ?_) 0 (by omega) ls (lv_sub hl [0, 1, 2, 3, 4, 5] rfl)
      have hl := hI
      refine lv_iload hx hb dX0_sum_24 (lv_at hl 0 rfl) ?_
      refine lv_iload_n hx hb dX0_sum_26 rfl (lv_at hl 3 rfl) ?_
      refine lv_icmp_ge (tgt := 50) hx hb dX0_sum_27 (by decide) (fun c_27 => ?_) (fun c_27 => ?_)
      · have hq_27 : 32 ≤ i24 := (nI_leI (by omega) (by omega)).mp c_27
        have hE_27 : i24 = 32 := by omega
        subst hE_27
        refine lv_iload hx hb dX0_sum_50 (lv_at hl 1 rfl) ?_
        have eR : (sumN (fun i => w (j1 * 32 + i)) 32) = s_sum w (nI j1) := by simp [s_sum, ho, hg_j1]
        exact W.iret (v := (sumN (fun i => w (j1 * 32 + i)) 32)) hx hb hr (fun t ht hW => ⟨_, rfl, eR, ht⟩) (fun q h9 => absurd h9 List.not_mem_nil) dX0_sum_52
      · have hlt_24 : i24 < 32 := Nat.lt_of_not_le (fun q => c_27 ((nI_leI (by omega) (by omega)).mpr q))
        refine lv_iload hx hb dX0_sum_30 (lv_at hl 1 rfl) ?_
        refine lv_aload_n hx hb dX0_sum_32 rfl (lv_at hl 4 rfl) ?_
        refine va_get (D := (dC, dI)) (ci := 0) (v := .ref qa) (C := RX0) (T := TX0) (N := 2) hx hb hts hin0 hown hK hP 0 rfl rfl 0 (by decide) hf9 (fun _ h9 => h9) rfl dX0_sum_33 ?_
        refine lv_iload_n hx hb dX0_sum_36 rfl (lv_at hl 2 rfl) ?_
        refine lv_iload hx hb dX0_sum_37 (lv_at hl 0 rfl) ?_
        refine my_add hx hb dX0_sum_39 ?_
        refine my_iald hx hb hK hP 1 0 rfl rfl (by omega) (by decide) dX0_sum_40 ?_
        refine lv_iadd hx hb dX0_sum_41 ?_
        refine lv_istore (lv' := [(4, .int ((sumN (fun i => w (j1 * 32 + i)) i24) + (w (j1 * 32 + i24)))), (5, .int (nI i24)), (3, .int (nI (j1 * 32))), (2, .int (nI 32)), (0, .ref h0), (1, .int (nI j1))]) hx hb dX0_sum_42 hl (by decide) rfl (fun ls hl => ?_)
        refine lv_iinc (v := (nI (i24 + 1))) (lv' := [(5, .int (nI (i24 + 1))), (4, .int ((sumN (fun i => w (j1 * 32 + i)) i24) + (w (j1 * 32 + i24)))), (3, .int (nI (j1 * 32))), (2, .int (nI 32)), (0, .ref h0), (1, .int (nI j1))]) hx hb dX0_sum_44 hl (k := 1) rfl (nI_1 _) (by decide) rfl (fun ls hl => ?_)
        refine lv_goto (tgt := 24) hx hb dX0_sum_47 (by decide) ?_
        exact hnx_24 hlt_24 ls (by rw [show (sumN (fun i => w (j1 * 32 + i)) (i24 + 1)) = ((sumN (fun i => w (j1 * 32 + i)) i24) + (w (j1 * 32 + i24))) from rfl]; exact lv_sub hl [0, 1, 2, 3, 4, 5] rfl)
    · have ho : okP 3 p1 = false := okP_nlt (by decide) c_6
      refine lv_iconst (v := (nI 0)) hx hb dX0_sum_9 (by decide +kernel) ?_
      have eR : (nI 0) = s_sum w p1 := by simp [s_sum, ho]
      exact W.iret (v := (nI 0)) hx hb hr (fun t ht hW => ⟨_, rfl, eR, ht⟩) (fun q h9 => absurd h9 List.not_mem_nil) dX0_sum_10
set_option maxHeartbeats 4000000 in
set_option maxRecDepth 100000 in
theorem k0_plain (l : Launch) (dC : Nat → ClassId) (dI : Nat → Nat → Nat) (h0 qa qb : Nat) (cI cZ : ClassId) (w : Nat → Int32) (h : Nat → Bool)   : Met l yX0_plain wsX0_plain ({ frames := 1, cells := 0, slots := 0, locals := 22 }) (va_Pc [.ref h0] (fun U => va_P (dC, dI) vwCl (W0 h0 qa qb cI cZ w h) U.heap ∧ va_K (dC, dI) vwCl (TY cI cZ) U)) (vp_Si (fun r => r = cnt (f_pla w h) 24)) 0 0 (fun _ => False) := by
  refine Met.ofW (cc := cX0_plain) (maxL := 3) (ret := (some .int)) (by decide) rfl ?_
  intro p e s m args below meth c s₁ B hml hv
  obtain ⟨rfl, hP, hK⟩ := hv
  have hx := B.exec
  have hb := B.bytes
  have hr := B.returns
  have hlocks := B.notSynchronized
  have hts := atoms_spec (ws := wsX0_plain) B.pre
  have hown : s.vm.findClass RX0 = some m.cls := findClass_of_methodNamed B.named
  have hin0 : ∀ w ∈ wsX00, w ∈ wsX0_plain := by decide +kernel
  have hf13 := hts (.fieldLink RX0 13 "PageMerger" "heldPages" "[Z") (by decide +kernel)
  have hl := lv_entry ([.ref h0]) (n := 3) (Nat.le_of_ble_eq_true rfl)
  rw [lg_entry_eq]
  generalize (lg_sl ([.ref h0]) ++ List.replicate (3 - (lg_sl ([.ref h0])).length) Slot.unset).toArray = ls at hl ⊢
  have hl : lv_has ls 3 [(0, .ref h0)] := hl
  refine lv_iconst (v := (nI 0)) hx hb dX0_plain_0 (by decide +kernel) ?_
  refine lv_istore_n (lv' := [(1, .int (nI 0)), (0, .ref h0)]) hx hb dX0_plain_1 rfl hl (by decide) rfl (fun ls hl => ?_)
  refine lv_iconst (v := (nI 0)) hx hb dX0_plain_2 (by decide +kernel) ?_
  refine lv_istore_n (lv' := [(2, .int (nI 0)), (1, .int (nI 0)), (0, .ref h0)]) hx hb dX0_plain_3 rfl hl (by decide) rfl (fun ls hl => ?_)
  refine lp_P 4 24 (fun i4 ls => lv_has ls 3 [(2, .int (nI i4)), (1, .int (cnt (f_pla w h) i4)), (0, .ref h0)]) (fun i4 ls hi_4 hI hnx_4 => ?_) 0 (by omega) ls (lv_sub hl [0, 1, 2] rfl)
  have hl := hI
  refine lv_iload_n hx hb dX0_plain_4 rfl (lv_at hl 0 rfl) ?_
  refine lv_bipush (v := (nI 24)) hx hb dX0_plain_5 (by decide +kernel) ?_
  refine lv_icmp_ge (tgt := 36) hx hb dX0_plain_7 (by decide) (fun c_7 => ?_) (fun c_7 => ?_)
  · have hq_7 : 24 ≤ i4 := (nI_leI (by omega) (by omega)).mp c_7
    have hE_7 : i4 = 24 := by omega
    subst hE_7
    refine lv_iload_n hx hb dX0_plain_36 rfl (lv_at hl 1 rfl) ?_
    have eR : (cnt (f_pla w h) 24) = cnt (f_pla w h) 24 := by simp []
    exact W.iret (v := (cnt (f_pla w h) 24)) hx hb hr (fun t ht hW => ⟨_, rfl, eR, ht⟩) (fun q h9 => absurd h9 List.not_mem_nil) dX0_plain_37
  · have hlt_4 : i4 < 24 := Nat.lt_of_not_le (fun q => c_7 ((nI_leI (by omega) (by omega)).mpr q))
    refine lv_aload_n hx hb dX0_plain_10 rfl (lv_at hl 2 rfl) ?_
    refine va_get (D := (dC, dI)) (ci := 0) (v := .ref qb) (C := RX0) (T := TX0) (N := 2) hx hb hts hin0 hown hK hP 0 rfl rfl 1 (by decide) hf13 (fun _ h9 => h9) rfl dX0_plain_11 ?_
    refine lv_iload_n hx hb dX0_plain_14 rfl (lv_at hl 0 rfl) ?_
    refine my_zaldP hx hb hK hP 2 1 rfl rfl (by omega) (by decide) dX0_plain_15 ?_
    refine lv_if_eq (tgt := 30) hx hb dX0_plain_16 (by decide) (fun c_16 => ?_) (fun c_16 => ?_)
    · have hb_16 : (h i4) = false := bI_f c_16
      refine lv_iinc (v := (nI (i4 + 1))) (lv' := [(2, .int (nI (i4 + 1))), (1, .int (cnt (f_pla w h) i4)), (0, .ref h0)]) hx hb dX0_plain_30 hl (k := 0) rfl (nI_1 _) (by decide) rfl (fun ls hl => ?_)
      refine lv_goto (tgt := 4) hx hb dX0_plain_33 (by decide) ?_
      exact hnx_4 hlt_4 ls (by rw [show (cnt (f_pla w h) (i4 + 1)) = (cnt (f_pla w h) i4) from cnt_n (by simp [f_pla, hb_16])]; exact lv_sub hl [0, 1, 2] rfl)
    · have hb_16 : (h i4) = true := bI_t c_16
      refine lv_aload_n hx hb dX0_plain_19 rfl (lv_at hl 2 rfl) ?_
      refine lv_iload_n hx hb dX0_plain_20 rfl (lv_at hl 0 rfl) ?_
      refine vp_callSi (va_Run.run (va_runV (As := [.int (nI i4)]) (rest := []) ⟨hx, hb, hml, hown, hts⟩ (k0_hasOneValue l dC dI h0 qa qb cI cZ w h i4 (by omega)) (cwV 1 hts gX0_plain_X0_hasOneValue rfl rfl rfl (by decide +kernel) ⟨Nat.le_of_ble_eq_true rfl, Nat.le_of_ble_eq_true rfl⟩) ⟨bl_P, va_recv hK hP (ci := 0) (q0 := 0) rfl rfl, fun U hU hW => ⟨rfl, by rw [hU]; exact hP, va_K.moved hW.alike hK⟩⟩ rfl rfl hl.1 rfl (lv_room (Nat.le_of_ble_eq_true rfl)) dX0_plain_21 ⟨Nat.zero_le _, Nat.zero_le _⟩)) (fun r_21 hr_21 => ?_)
      obtain rfl : r_21 = (bI (one w i4 4)) := hr_21
      refine lv_if_eq (tgt := 30) hx hb dX0_plain_24 (by decide) (fun c_24 => ?_) (fun c_24 => ?_)
      · have hb_24 : (one w i4 4) = false := bI_f c_24
        refine lv_iinc (v := (nI (i4 + 1))) (lv' := [(2, .int (nI (i4 + 1))), (1, .int (cnt (f_pla w h) i4)), (0, .ref h0)]) hx hb dX0_plain_30 hl (k := 0) rfl (nI_1 _) (by decide) rfl (fun ls hl => ?_)
        refine lv_goto (tgt := 4) hx hb dX0_plain_33 (by decide) ?_
        exact hnx_4 hlt_4 ls (by rw [show (cnt (f_pla w h) (i4 + 1)) = (cnt (f_pla w h) i4) from cnt_n (by simp [f_pla, hb_16, hb_24])]; exact lv_sub hl [0, 1, 2] rfl)
      · have hb_24 : (one w i4 4) = true := bI_t c_24
        refine lv_iinc (v := (cnt (f_pla w h) i4 + 1)) (lv' := [(1, .int (cnt (f_pla w h) i4 + 1)), (2, .int (nI i4)), (0, .ref h0)]) hx hb dX0_plain_27 hl (k := 1) rfl rfl (by decide) rfl (fun ls hl => ?_)
        refine lv_iinc (v := (nI (i4 + 1))) (lv' := [(2, .int (nI (i4 + 1))), (1, .int (cnt (f_pla w h) i4 + 1)), (0, .ref h0)]) hx hb dX0_plain_30 hl (k := 1) rfl (nI_1 _) (by decide) rfl (fun ls hl => ?_)
        refine lv_goto (tgt := 4) hx hb dX0_plain_33 (by decide) ?_
        exact hnx_4 hlt_4 ls (by rw [show (cnt (f_pla w h) (i4 + 1)) = (cnt (f_pla w h) i4 + 1) from cnt_y (by simp [f_pla, hb_16, hb_24])]; exact lv_sub hl [0, 1, 2] rfl)
