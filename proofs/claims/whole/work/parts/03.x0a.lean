set_option maxHeartbeats 4000000 in
set_option maxRecDepth 100000 in
theorem k0_isPage (l : Launch) (p0 : Int32)  : Met l yX0_isPage wsX0_isPage ({ frames := 0, cells := 0, slots := 0, locals := 0 }) (va_Pc [.int (p0)] (fun _ => True)) (vp_Si (fun r => r = bI (okP 24 p0))) 0 0 (fun _ => False) := by
  refine Met.ofW (cc := cX0_isPage) (maxL := 1) (ret := (some .boolean)) (by decide) rfl ?_
  intro p e s m args below meth c s₁ B hml hv
  obtain ⟨rfl, -⟩ := hv
  have hx := B.exec
  have hb := B.bytes
  have hr := B.returns
  have hlocks := B.notSynchronized
  have hl := lv_entry ([.int (p0)]) (n := 1) (Nat.le_of_ble_eq_true rfl)
  rw [lg_entry_eq]
  generalize (lg_sl ([.int (p0)]) ++ List.replicate (1 - (lg_sl ([.int (p0)])).length) Slot.unset).toArray = ls at hl ⊢
  have hl : lv_has ls 1 [(0, .int (p0))] := hl
  refine lv_iload_n hx hb dX0_isPage_0 rfl (lv_at hl 0 rfl) ?_
  refine lv_if_lt (tgt := 14) hx hb dX0_isPage_1 (by decide) (fun c_1 => ?_) (fun c_1 => ?_)
  · have ho : okP 24 p0 = false := okP_neg c_1
    refine lv_iconst (v := (nI 0)) hx hb dX0_isPage_14 (by decide +kernel) ?_
    have eR : (nI 0) = bI (okP 24 p0) := by simp [ho, bI_1, bI_0]
    exact W.zret (v := (nI 0)) hx hb hr (by decide +kernel) (fun t ht hW => ⟨_, rfl, eR, ht⟩) (fun q h9 => absurd h9 List.not_mem_nil) dX0_isPage_15
  · refine lv_iload_n hx hb dX0_isPage_4 rfl (lv_at hl 0 rfl) ?_
    refine lv_bipush (v := (nI 24)) hx hb dX0_isPage_5 (by decide +kernel) ?_
    refine lv_icmp_ge (tgt := 14) hx hb dX0_isPage_7 (by decide) (fun c_7 => ?_) (fun c_7 => ?_)
    · have ho : okP 24 p0 = false := okP_big (by decide) c_7
      refine lv_iconst (v := (nI 0)) hx hb dX0_isPage_14 (by decide +kernel) ?_
      have eR : (nI 0) = bI (okP 24 p0) := by simp [ho, bI_1, bI_0]
      exact W.zret (v := (nI 0)) hx hb hr (by decide +kernel) (fun t ht hW => ⟨_, rfl, eR, ht⟩) (fun q h9 => absurd h9 List.not_mem_nil) dX0_isPage_15
    · have ho : okP 24 p0 = true := okP_in (by decide) c_1 c_7
      refine lv_iconst (v := (nI 1)) hx hb dX0_isPage_10 (by decide +kernel) ?_
      refine lv_goto (tgt := 15) hx hb dX0_isPage_11 (by decide) ?_
      have eR : (nI 1) = bI (okP 24 p0) := by simp [ho, bI_1, bI_0]
      exact W.zret (v := (nI 1)) hx hb hr (by decide +kernel) (fun t ht hW => ⟨_, rfl, eR, ht⟩) (fun q h9 => absurd h9 List.not_mem_nil) dX0_isPage_15
set_option maxHeartbeats 4000000 in
set_option maxRecDepth 100000 in
theorem k0_isWord (l : Launch) (p0 : Int32)  : Met l yX0_isWord wsX0_isWord ({ frames := 0, cells := 0, slots := 0, locals := 0 }) (va_Pc [.int (p0)] (fun _ => True)) (vp_Si (fun r => r = bI (okP 4 p0))) 0 0 (fun _ => False) := by
  refine Met.ofW (cc := cX0_isWord) (maxL := 1) (ret := (some .boolean)) (by decide) rfl ?_
  intro p e s m args below meth c s₁ B hml hv
  obtain ⟨rfl, -⟩ := hv
  have hx := B.exec
  have hb := B.bytes
  have hr := B.returns
  have hlocks := B.notSynchronized
  have hl := lv_entry ([.int (p0)]) (n := 1) (Nat.le_of_ble_eq_true rfl)
  rw [lg_entry_eq]
  generalize (lg_sl ([.int (p0)]) ++ List.replicate (1 - (lg_sl ([.int (p0)])).length) Slot.unset).toArray = ls at hl ⊢
  have hl : lv_has ls 1 [(0, .int (p0))] := hl
  refine lv_iload_n hx hb dX0_isWord_0 rfl (lv_at hl 0 rfl) ?_
  refine lv_if_lt (tgt := 13) hx hb dX0_isWord_1 (by decide) (fun c_1 => ?_) (fun c_1 => ?_)
  · have ho : okP 4 p0 = false := okP_neg c_1
    refine lv_iconst (v := (nI 0)) hx hb dX0_isWord_13 (by decide +kernel) ?_
    have eR : (nI 0) = bI (okP 4 p0) := by simp [ho, bI_1, bI_0]
    exact W.zret (v := (nI 0)) hx hb hr (by decide +kernel) (fun t ht hW => ⟨_, rfl, eR, ht⟩) (fun q h9 => absurd h9 List.not_mem_nil) dX0_isWord_14
  · refine lv_iload_n hx hb dX0_isWord_4 rfl (lv_at hl 0 rfl) ?_
    refine lv_iconst (v := (nI 4)) hx hb dX0_isWord_5 (by decide +kernel) ?_
    refine lv_icmp_ge (tgt := 13) hx hb dX0_isWord_6 (by decide) (fun c_6 => ?_) (fun c_6 => ?_)
    · have ho : okP 4 p0 = false := okP_big (by decide) c_6
      refine lv_iconst (v := (nI 0)) hx hb dX0_isWord_13 (by decide +kernel) ?_
      have eR : (nI 0) = bI (okP 4 p0) := by simp [ho, bI_1, bI_0]
      exact W.zret (v := (nI 0)) hx hb hr (by decide +kernel) (fun t ht hW => ⟨_, rfl, eR, ht⟩) (fun q h9 => absurd h9 List.not_mem_nil) dX0_isWord_14
    · have ho : okP 4 p0 = true := okP_in (by decide) c_1 c_6
      refine lv_iconst (v := (nI 1)) hx hb dX0_isWord_9 (by decide +kernel) ?_
      refine lv_goto (tgt := 14) hx hb dX0_isWord_10 (by decide) ?_
      have eR : (nI 1) = bI (okP 4 p0) := by simp [ho, bI_1, bI_0]
      exact W.zret (v := (nI 1)) hx hb hr (by decide +kernel) (fun t ht hW => ⟨_, rfl, eR, ht⟩) (fun q h9 => absurd h9 List.not_mem_nil) dX0_isWord_14
set_option maxHeartbeats 4000000 in
set_option maxRecDepth 100000 in
theorem k0_setAllWords (l : Launch) (dC : Nat → ClassId) (dI : Nat → Nat → Nat) (h0 qa qb : Nat) (cI cZ : ClassId) (sz : Nat) (w : Nat → Int32) (h : Nat → Bool) (a : Nat) (v : Int32) (ha : a < 24) : Met l yX0_setAllWords wsX0_setAllWords ({ frames := 0, cells := 0, slots := 0, locals := 0 }) (va_Pc [.ref h0, .int (nI a), .int (v)] (fun U => U.heap.size = sz ∧ va_P (dC, dI) vwCl (W0 h0 qa qb cI cZ w h) U.heap ∧ va_K (dC, dI) vwCl (TY cI cZ) U ∧ va_D (fun _ => True) (W0 h0 qa qb cI cZ w h))) (va_Qv (fun _ : Unit => True) (fun _ t => va_P (dC, dI) vwCl (W0 h0 qa qb cI cZ (fillN w a v 4) (h)) t.heap ∧ va_K (dC, dI) vwCl (TY cI cZ) t ∧ va_D (va_A (W0 h0 qa qb cI cZ w h) sz) (W0 h0 qa qb cI cZ (fillN w a v 4) (h))) (va_A (W0 h0 qa qb cI cZ w h) sz)) 0 0 (va_A (W0 h0 qa qb cI cZ w h) sz) := by
  refine Met.ofW (cc := cX0_setAllWords) (maxL := 4) (ret := none) (by decide) rfl ?_
  intro p e s m args below meth c s₁ B hml hv
  obtain ⟨rfl, hsz, hP, hK, hD0⟩ := hv
  have hx := B.exec
  have hb := B.bytes
  have hr := B.returns
  have hlocks := B.notSynchronized
  have hts := atoms_spec (ws := wsX0_setAllWords) B.pre
  have hown : s.vm.findClass RX0 = some m.cls := findClass_of_methodNamed B.named
  have hin0 : ∀ w ∈ wsX00, w ∈ wsX0_setAllWords := by decide +kernel
  have hf9 := hts (.fieldLink RX0 9 "PageMerger" "words" "[I") (by decide +kernel)
  subst hsz
  have hD := hD0.self (sz := s.heap.size)
  generalize hAe : va_A (W0 h0 qa qb cI cZ w h) s.heap.size = A at hD ⊢
  have hA : ∀ q : Nat, s.heap.size ≤ q → A q := fun q h => by rw [← hAe]; exact Or.inr h
  have hS : va_S A s.heap s.heap [] := va_S.rf
  have hl := lv_entry ([.ref h0, .int (nI a), .int (v)]) (n := 4) (Nat.le_of_ble_eq_true rfl)
  rw [lg_entry_eq]
  generalize (lg_sl ([.ref h0, .int (nI a), .int (v)]) ++ List.replicate (4 - (lg_sl ([.ref h0, .int (nI a), .int (v)])).length) Slot.unset).toArray = ls at hl ⊢
  have hl : lv_has ls 4 [(0, .ref h0), (1, .int (nI a)), (2, .int (v))] := hl
  refine lv_iconst (v := (nI 0)) hx hb dX0_setAllWords_0 (by decide +kernel) ?_
  refine lv_istore_n (lv' := [(3, .int (nI 0)), (0, .ref h0), (1, .int (nI a)), (2, .int (v))]) hx hb dX0_setAllWords_1 rfl hl (by decide) rfl (fun ls hl => ?_)
  refine lp_Q 2 4 (fun i2 H locs ls => lv_has ls 4 [(3, .int (nI i2)), (0, .ref h0), (1, .int (nI a)), (2, .int (v))] ∧ va_P (dC, dI) vwCl (W0 h0 qa qb cI cZ (fillN w a v i2) h) H ∧ va_D A (W0 h0 qa qb cI cZ (fillN w a v i2) h) ∧ va_S A s.heap H locs) (fun i2 H locs ls hi_2 hI hnx_2 => ?_) 0 (by omega) _ _ ls ⟨lv_sub hl [0, 1, 2, 3] rfl, hP, hD, hS⟩
  obtain ⟨hl, hP, hD, hS⟩ := hI
  refine lv_iload_n hx hb dX0_setAllWords_2 rfl (lv_at hl 0 rfl) ?_
  refine lv_iconst (v := (nI 4)) hx hb dX0_setAllWords_3 (by decide +kernel) ?_
  refine lv_icmp_ge (tgt := 24) hx hb dX0_setAllWords_4 (by decide) (fun c_4 => ?_) (fun c_4 => ?_)
  · have hq_4 : 4 ≤ i2 := (nI_leI (by omega) (by omega)).mp c_4
    have hE_4 : i2 = 4 := by omega
    subst hE_4
    have eW : fillN w a v 4 = fillN w a v 4 := by simp []
    have eH : h = h := by simp []
    exact W.vret hx hb hr (fun t ht hW => ⟨⟨(), rfl, trivial, by rw [ht]; exact hP, va_K.moved hW.alike hK, by exact hD⟩, hS.F ht⟩) hS.2.2 dX0_setAllWords_24
  · have hlt_2 : i2 < 4 := Nat.lt_of_not_le (fun q => c_4 ((nI_leI (by omega) (by omega)).mpr q))
    refine lv_aload_n hx hb dX0_setAllWords_7 rfl (lv_at hl 1 rfl) ?_
    refine va_get (D := (dC, dI)) (ci := 0) (v := .ref qa) (C := RX0) (T := TX0) (N := 2) hx hb hts hin0 hown hK hP 0 rfl rfl 0 (by decide) hf9 (fun _ h9 => h9) rfl dX0_setAllWords_8 ?_
    refine lv_iload_n hx hb dX0_setAllWords_11 rfl (lv_at hl 2 rfl) ?_
    refine lv_iconst (v := (nI 4)) hx hb dX0_setAllWords_12 (by decide +kernel) ?_
    refine my_mul hx hb dX0_setAllWords_13 ?_
    refine lv_iload_n hx hb dX0_setAllWords_14 rfl (lv_at hl 0 rfl) ?_
    refine my_add hx hb dX0_setAllWords_15 ?_
    refine lv_iload_n hx hb dX0_setAllWords_16 rfl (lv_at hl 3 rfl) ?_
    refine my_iast hx hb hK hP hD hS 1 0 rfl rfl (by omega) (by decide) dX0_setAllWords_17 (fun H locs hP hD hS => ?_)
    have hP : va_P (dC, dI) vwCl (W0 h0 qa qb cI cZ (upd (fillN w a v i2) (a * 4 + i2) v) h) H := hP
    have hD : va_D A (W0 h0 qa qb cI cZ (upd (fillN w a v i2) (a * 4 + i2) v) h) := hD
    refine lv_iinc (v := (nI (i2 + 1))) (lv' := [(3, .int (nI (i2 + 1))), (0, .ref h0), (1, .int (nI a)), (2, .int (v))]) hx hb dX0_setAllWords_18 hl (k := 0) rfl (nI_1 _) (by decide) rfl (fun ls hl => ?_)
    refine lv_goto (tgt := 2) hx hb dX0_setAllWords_21 (by decide) ?_
    exact hnx_2 hlt_2 _ _ ls ⟨lv_sub hl [0, 1, 2, 3] rfl, hP, hD, hS⟩
set_option maxHeartbeats 4000000 in
set_option maxRecDepth 100000 in
theorem k0_haveSameWords (l : Launch) (dC : Nat → ClassId) (dI : Nat → Nat → Nat) (h0 qa qb : Nat) (cI cZ : ClassId) (w : Nat → Int32) (h : Nat → Bool) (a : Nat) (b : Nat) (ha : a < 24) (hb0 : b < 24) : Met l yX0_haveSameWords wsX0_haveSameWords ({ frames := 0, cells := 0, slots := 0, locals := 0 }) (va_Pc [.ref h0, .int (nI a), .int (nI b)] (fun U => va_P (dC, dI) vwCl (W0 h0 qa qb cI cZ w h) U.heap ∧ va_K (dC, dI) vwCl (TY cI cZ) U)) (vp_Si (fun r => r = bI (sm w a b))) 0 0 (fun _ => False) := by
  refine Met.ofW (cc := cX0_haveSameWords) (maxL := 4) (ret := (some .boolean)) (by decide) rfl ?_
  intro p e s m args below meth c s₁ B hml hv
  obtain ⟨rfl, hP, hK⟩ := hv
  have hx := B.exec
  have hb := B.bytes
  have hr := B.returns
  have hlocks := B.notSynchronized
  have hts := atoms_spec (ws := wsX0_haveSameWords) B.pre
  have hown : s.vm.findClass RX0 = some m.cls := findClass_of_methodNamed B.named
  have hin0 : ∀ w ∈ wsX00, w ∈ wsX0_haveSameWords := by decide +kernel
  have hf9 := hts (.fieldLink RX0 9 "PageMerger" "words" "[I") (by decide +kernel)
  have hl := lv_entry ([.ref h0, .int (nI a), .int (nI b)]) (n := 4) (Nat.le_of_ble_eq_true rfl)
  rw [lg_entry_eq]
  generalize (lg_sl ([.ref h0, .int (nI a), .int (nI b)]) ++ List.replicate (4 - (lg_sl ([.ref h0, .int (nI a), .int (nI b)])).length) Slot.unset).toArray = ls at hl ⊢
  have hl : lv_has ls 4 [(0, .ref h0), (1, .int (nI a)), (2, .int (nI b))] := hl
  refine lv_iconst (v := (nI 0)) hx hb dX0_haveSameWords_0 (by decide +kernel) ?_
  refine lv_istore_n (lv' := [(3, .int (nI 0)), (0, .ref h0), (1, .int (nI a)), (2, .int (nI b))]) hx hb dX0_haveSameWords_1 rfl hl (by decide) rfl (fun ls hl => ?_)
  refine lp_P 2 4 (fun i2 ls => lv_has ls 4 [(3, .int (nI i2)), (0, .ref h0), (1, .int (nI a)), (2, .int (nI b))] ∧ ∀ k, k < i2 → w (a * 4 + k) = w (b * 4 + k)) (fun i2 ls hi_2 hI hnx_2 => ?_) 0 (by omega) ls ⟨lv_sub hl [0, 1, 2, 3] rfl, (fun k hk => absurd hk (Nat.not_lt_zero k))⟩
  obtain ⟨hl, hinv_2⟩ := hI
  refine lv_iload_n hx hb dX0_haveSameWords_2 rfl (lv_at hl 0 rfl) ?_
  refine lv_iconst (v := (nI 4)) hx hb dX0_haveSameWords_3 (by decide +kernel) ?_
  refine lv_icmp_ge (tgt := 38) hx hb dX0_haveSameWords_4 (by decide) (fun c_4 => ?_) (fun c_4 => ?_)
  · have hq_4 : 4 ≤ i2 := (nI_leI (by omega) (by omega)).mp c_4
    have hE_4 : i2 = 4 := by omega
    subst hE_4
    refine lv_iconst (v := (nI 1)) hx hb dX0_haveSameWords_38 (by decide +kernel) ?_
    have eR : (nI 1) = bI (sm w a b) := by rw [sm_t hinv_2]; exact bI_1
    exact W.zret (v := (nI 1)) hx hb hr (by decide +kernel) (fun t ht hW => ⟨_, rfl, eR, ht⟩) (fun q h9 => absurd h9 List.not_mem_nil) dX0_haveSameWords_39
  · have hlt_2 : i2 < 4 := Nat.lt_of_not_le (fun q => c_4 ((nI_leI (by omega) (by omega)).mpr q))
    refine lv_aload_n hx hb dX0_haveSameWords_7 rfl (lv_at hl 1 rfl) ?_
    refine va_get (D := (dC, dI)) (ci := 0) (v := .ref qa) (C := RX0) (T := TX0) (N := 2) hx hb hts hin0 hown hK hP 0 rfl rfl 0 (by decide) hf9 (fun _ h9 => h9) rfl dX0_haveSameWords_8 ?_
    refine lv_iload_n hx hb dX0_haveSameWords_11 rfl (lv_at hl 2 rfl) ?_
    refine lv_iconst (v := (nI 4)) hx hb dX0_haveSameWords_12 (by decide +kernel) ?_
    refine my_mul hx hb dX0_haveSameWords_13 ?_
    refine lv_iload_n hx hb dX0_haveSameWords_14 rfl (lv_at hl 0 rfl) ?_
    refine my_add hx hb dX0_haveSameWords_15 ?_
    refine my_iald hx hb hK hP 1 0 rfl rfl (by omega) (by decide) dX0_haveSameWords_16 ?_
    refine lv_aload_n hx hb dX0_haveSameWords_17 rfl (lv_at hl 1 rfl) ?_
    refine va_get (D := (dC, dI)) (ci := 0) (v := .ref qa) (C := RX0) (T := TX0) (N := 2) hx hb hts hin0 hown hK hP 0 rfl rfl 0 (by decide) hf9 (fun _ h9 => h9) rfl dX0_haveSameWords_18 ?_
    refine lv_iload_n hx hb dX0_haveSameWords_21 rfl (lv_at hl 3 rfl) ?_
    refine lv_iconst (v := (nI 4)) hx hb dX0_haveSameWords_22 (by decide +kernel) ?_
    refine my_mul hx hb dX0_haveSameWords_23 ?_
    refine lv_iload_n hx hb dX0_haveSameWords_24 rfl (lv_at hl 0 rfl) ?_
    refine my_add hx hb dX0_haveSameWords_25 ?_
    refine my_iald hx hb hK hP 1 0 rfl rfl (by omega) (by decide) dX0_haveSameWords_26 ?_
    refine lv_icmp_eq (tgt := 32) hx hb dX0_haveSameWords_27 (by decide) (fun c_27 => ?_) (fun c_27 => ?_)
    · refine lv_iinc (v := (nI (i2 + 1))) (lv' := [(3, .int (nI (i2 + 1))), (0, .ref h0), (1, .int (nI a)), (2, .int (nI b))]) hx hb dX0_haveSameWords_32 hl (k := 0) rfl (nI_1 _) (by decide) rfl (fun ls hl => ?_)
      refine lv_goto (tgt := 2) hx hb dX0_haveSameWords_35 (by decide) ?_
      exact hnx_2 hlt_2 ls ⟨lv_sub hl [0, 1, 2, 3] rfl, (fun k hk => if q : k < i2 then hinv_2 k q else by (have e : k = i2 := by omega); subst e; exact c_27)⟩
    · refine lv_iconst (v := (nI 0)) hx hb dX0_haveSameWords_30 (by decide +kernel) ?_
      have eR : (nI 0) = bI (sm w a b) := by rw [sm_f hlt_2 c_27]; exact bI_0
      exact W.zret (v := (nI 0)) hx hb hr (by decide +kernel) (fun t ht hW => ⟨_, rfl, eR, ht⟩) (fun q h9 => absurd h9 List.not_mem_nil) dX0_haveSameWords_31
set_option maxHeartbeats 4000000 in
set_option maxRecDepth 100000 in
theorem k0_repeatsAnEarlierPage (l : Launch) (dC : Nat → ClassId) (dI : Nat → Nat → Nat) (h0 qa qb : Nat) (cI cZ : ClassId) (w : Nat → Int32) (h : Nat → Bool) (a : Nat) (ha : a < 24) : Met l yX0_repeatsAnEarlierPage wsX0_repeatsAnEarlierPage ({ frames := 1, cells := 0, slots := 0, locals := 23 }) (va_Pc [.ref h0, .int (nI a)] (fun U => va_P (dC, dI) vwCl (W0 h0 qa qb cI cZ w h) U.heap ∧ va_K (dC, dI) vwCl (TY cI cZ) U)) (vp_Si (fun r => r = bI (rep w h a))) 0 0 (fun _ => False) := by
  refine Met.ofW (cc := cX0_repeatsAnEarlierPage) (maxL := 3) (ret := (some .boolean)) (by decide) rfl ?_
  intro p e s m args below meth c s₁ B hml hv
  obtain ⟨rfl, hP, hK⟩ := hv
  have hx := B.exec
  have hb := B.bytes
  have hr := B.returns
  have hlocks := B.notSynchronized
  have hts := atoms_spec (ws := wsX0_repeatsAnEarlierPage) B.pre
  have hown : s.vm.findClass RX0 = some m.cls := findClass_of_methodNamed B.named
  have hin0 : ∀ w ∈ wsX00, w ∈ wsX0_repeatsAnEarlierPage := by decide +kernel
  have hf13 := hts (.fieldLink RX0 13 "PageMerger" "heldPages" "[Z") (by decide +kernel)
  have hl := lv_entry ([.ref h0, .int (nI a)]) (n := 3) (Nat.le_of_ble_eq_true rfl)
  rw [lg_entry_eq]
  generalize (lg_sl ([.ref h0, .int (nI a)]) ++ List.replicate (3 - (lg_sl ([.ref h0, .int (nI a)])).length) Slot.unset).toArray = ls at hl ⊢
  have hl : lv_has ls 3 [(0, .ref h0), (1, .int (nI a))] := hl
  refine lv_iconst (v := (nI 0)) hx hb dX0_repeatsAnEarlierPage_0 (by decide +kernel) ?_
  refine lv_istore_n (lv' := [(2, .int (nI 0)), (0, .ref h0), (1, .int (nI a))]) hx hb dX0_repeatsAnEarlierPage_1 rfl hl (by decide) rfl (fun ls hl => ?_)
  refine lp_P 2 a (fun i2 ls => lv_has ls 3 [(2, .int (nI i2)), (0, .ref h0), (1, .int (nI a))] ∧ ∀ k, k < i2 → (h k && sm w k a) = false) (fun i2 ls hi_2 hI hnx_2 => ?_) 0 (by omega) ls ⟨lv_sub hl [0, 1, 2] rfl, (fun k hk => absurd hk (Nat.not_lt_zero k))⟩
  obtain ⟨hl, hinv_2⟩ := hI
  refine lv_iload_n hx hb dX0_repeatsAnEarlierPage_2 rfl (lv_at hl 0 rfl) ?_
  refine lv_iload_n hx hb dX0_repeatsAnEarlierPage_3 rfl (lv_at hl 2 rfl) ?_
  refine lv_icmp_ge (tgt := 33) hx hb dX0_repeatsAnEarlierPage_4 (by decide) (fun c_4 => ?_) (fun c_4 => ?_)
  · have hq_4 : a ≤ i2 := (nI_leI (by omega) (by omega)).mp c_4
    have hE_4 : i2 = a := by omega
    refine lv_iconst (v := (nI 0)) hx hb dX0_repeatsAnEarlierPage_33 (by decide +kernel) ?_
    have eR : (nI 0) = bI (rep w h a) := by rw [rep_f (fun k hk => hinv_2 k (by omega))]; exact bI_0
    exact W.zret (v := (nI 0)) hx hb hr (by decide +kernel) (fun t ht hW => ⟨_, rfl, eR, ht⟩) (fun q h9 => absurd h9 List.not_mem_nil) dX0_repeatsAnEarlierPage_34
  · have hlt_2 : i2 < a := Nat.lt_of_not_le (fun q => c_4 ((nI_leI (by omega) (by omega)).mpr q))
    refine lv_aload_n hx hb dX0_repeatsAnEarlierPage_7 rfl (lv_at hl 1 rfl) ?_
    refine va_get (D := (dC, dI)) (ci := 0) (v := .ref qb) (C := RX0) (T := TX0) (N := 2) hx hb hts hin0 hown hK hP 0 rfl rfl 1 (by decide) hf13 (fun _ h9 => h9) rfl dX0_repeatsAnEarlierPage_8 ?_
    refine lv_iload_n hx hb dX0_repeatsAnEarlierPage_11 rfl (lv_at hl 0 rfl) ?_
    refine my_zaldP hx hb hK hP 2 1 rfl rfl (by omega) (by decide) dX0_repeatsAnEarlierPage_12 ?_
    refine lv_if_eq (tgt := 27) hx hb dX0_repeatsAnEarlierPage_13 (by decide) (fun c_13 => ?_) (fun c_13 => ?_)
    · have hb_13 : (h i2) = false := bI_f c_13
      refine lv_iinc (v := (nI (i2 + 1))) (lv' := [(2, .int (nI (i2 + 1))), (0, .ref h0), (1, .int (nI a))]) hx hb dX0_repeatsAnEarlierPage_27 hl (k := 0) rfl (nI_1 _) (by decide) rfl (fun ls hl => ?_)
      refine lv_goto (tgt := 2) hx hb dX0_repeatsAnEarlierPage_30 (by decide) ?_
      exact hnx_2 hlt_2 ls ⟨lv_sub hl [0, 1, 2] rfl, (fun k hk => if q : k < i2 then hinv_2 k q else by (have e : k = i2 := by omega); subst e; simp [hb_13])⟩
    · have hb_13 : (h i2) = true := bI_t c_13
      refine lv_aload_n hx hb dX0_repeatsAnEarlierPage_16 rfl (lv_at hl 1 rfl) ?_
      refine lv_iload_n hx hb dX0_repeatsAnEarlierPage_17 rfl (lv_at hl 0 rfl) ?_
      refine lv_iload_n hx hb dX0_repeatsAnEarlierPage_18 rfl (lv_at hl 2 rfl) ?_
      refine vp_callSi (va_Run.run (va_runV (As := [.int (nI i2), .int (nI a)]) (rest := []) ⟨hx, hb, hml, hown, hts⟩ (k0_haveSameWords l dC dI h0 qa qb cI cZ w h i2 a (by omega) (by omega)) (cwV 2 hts gX0_repeatsAnEarlierPage_X0_haveSameWords rfl rfl rfl (by decide +kernel) ⟨Nat.le_of_ble_eq_true rfl, Nat.le_of_ble_eq_true rfl⟩) ⟨bl_P, va_recv hK hP (ci := 0) (q0 := 0) rfl rfl, fun U hU hW => ⟨rfl, by rw [hU]; exact hP, va_K.moved hW.alike hK⟩⟩ rfl rfl hl.1 rfl (lv_room (Nat.le_of_ble_eq_true rfl)) dX0_repeatsAnEarlierPage_19 ⟨Nat.zero_le _, Nat.zero_le _⟩)) (fun r_19 hr_19 => ?_)
      obtain rfl : r_19 = (bI (sm w i2 a)) := hr_19
      refine lv_if_eq (tgt := 27) hx hb dX0_repeatsAnEarlierPage_22 (by decide) (fun c_22 => ?_) (fun c_22 => ?_)
      · have hb_22 : (sm w i2 a) = false := bI_f c_22
        refine lv_iinc (v := (nI (i2 + 1))) (lv' := [(2, .int (nI (i2 + 1))), (0, .ref h0), (1, .int (nI a))]) hx hb dX0_repeatsAnEarlierPage_27 hl (k := 0) rfl (nI_1 _) (by decide) rfl (fun ls hl => ?_)
        refine lv_goto (tgt := 2) hx hb dX0_repeatsAnEarlierPage_30 (by decide) ?_
        exact hnx_2 hlt_2 ls ⟨lv_sub hl [0, 1, 2] rfl, (fun k hk => if q : k < i2 then hinv_2 k q else by (have e : k = i2 := by omega); subst e; simp [hb_13, hb_22])⟩
      · have hb_22 : (sm w i2 a) = true := bI_t c_22
        refine lv_iconst (v := (nI 1)) hx hb dX0_repeatsAnEarlierPage_25 (by decide +kernel) ?_
        have eR : (nI 1) = bI (rep w h a) := by rw [rep_t hlt_2 hb_13 hb_22]; exact bI_1
        exact W.zret (v := (nI 1)) hx hb hr (by decide +kernel) (fun t ht hW => ⟨_, rfl, eR, ht⟩) (fun q h9 => absurd h9 List.not_mem_nil) dX0_repeatsAnEarlierPage_26
set_option maxHeartbeats 4000000 in
set_option maxRecDepth 100000 in
theorem k0_hasOneValue (l : Launch) (dC : Nat → ClassId) (dI : Nat → Nat → Nat) (h0 qa qb : Nat) (cI cZ : ClassId) (w : Nat → Int32) (h : Nat → Bool) (a : Nat) (ha : a < 24) : Met l yX0_hasOneValue wsX0_hasOneValue ({ frames := 0, cells := 0, slots := 0, locals := 0 }) (va_Pc [.ref h0, .int (nI a)] (fun U => va_P (dC, dI) vwCl (W0 h0 qa qb cI cZ w h) U.heap ∧ va_K (dC, dI) vwCl (TY cI cZ) U)) (vp_Si (fun r => r = bI (one w a 4))) 0 0 (fun _ => False) := by
  refine Met.ofW (cc := cX0_hasOneValue) (maxL := 3) (ret := (some .boolean)) (by decide) rfl ?_
  intro p e s m args below meth c s₁ B hml hv
  obtain ⟨rfl, hP, hK⟩ := hv
  have hx := B.exec
  have hb := B.bytes
  have hr := B.returns
  have hlocks := B.notSynchronized
  have hts := atoms_spec (ws := wsX0_hasOneValue) B.pre
  have hown : s.vm.findClass RX0 = some m.cls := findClass_of_methodNamed B.named
  have hin0 : ∀ w ∈ wsX00, w ∈ wsX0_hasOneValue := by decide +kernel
  have hf9 := hts (.fieldLink RX0 9 "PageMerger" "words" "[I") (by decide +kernel)
  have hl := lv_entry ([.ref h0, .int (nI a)]) (n := 3) (Nat.le_of_ble_eq_true rfl)
  rw [lg_entry_eq]
  generalize (lg_sl ([.ref h0, .int (nI a)]) ++ List.replicate (3 - (lg_sl ([.ref h0, .int (nI a)])).length) Slot.unset).toArray = ls at hl ⊢
  have hl : lv_has ls 3 [(0, .ref h0), (1, .int (nI a))] := hl
  refine lv_iconst (v := (nI 1)) hx hb dX0_hasOneValue_0 (by decide +kernel) ?_
  refine lv_istore_n (lv' := [(2, .int (nI 1)), (0, .ref h0), (1, .int (nI a))]) hx hb dX0_hasOneValue_1 rfl hl (by decide) rfl (fun ls hl => ?_)
  refine lp_P 2 4 (fun i2 ls => lv_has ls 3 [(2, .int (nI i2)), (0, .ref h0), (1, .int (nI a))] ∧ ∀ k, k < i2 → w (a * 4 + k) = w (a * 4)) (fun i2 ls hi_2 hI hnx_2 => ?_) 1 (by omega) ls ⟨lv_sub hl [0, 1, 2] rfl, (fun k hk => by (have e : k = 0 := by omega); subst e; rfl)⟩
  obtain ⟨hl, hinv_2⟩ := hI
  refine lv_iload_n hx hb dX0_hasOneValue_2 rfl (lv_at hl 0 rfl) ?_
  refine lv_iconst (v := (nI 4)) hx hb dX0_hasOneValue_3 (by decide +kernel) ?_
  refine lv_icmp_ge (tgt := 36) hx hb dX0_hasOneValue_4 (by decide) (fun c_4 => ?_) (fun c_4 => ?_)
  · have hq_4 : 4 ≤ i2 := (nI_leI (by omega) (by omega)).mp c_4
    have hE_4 : i2 = 4 := by omega
    subst hE_4
    refine lv_iconst (v := (nI 1)) hx hb dX0_hasOneValue_36 (by decide +kernel) ?_
    have eR : (nI 1) = bI (one w a 4) := by rw [one_t hinv_2]; exact bI_1
    exact W.zret (v := (nI 1)) hx hb hr (by decide +kernel) (fun t ht hW => ⟨_, rfl, eR, ht⟩) (fun q h9 => absurd h9 List.not_mem_nil) dX0_hasOneValue_37
  · have hlt_2 : i2 < 4 := Nat.lt_of_not_le (fun q => c_4 ((nI_leI (by omega) (by omega)).mpr q))
    refine lv_aload_n hx hb dX0_hasOneValue_7 rfl (lv_at hl 1 rfl) ?_
    refine va_get (D := (dC, dI)) (ci := 0) (v := .ref qa) (C := RX0) (T := TX0) (N := 2) hx hb hts hin0 hown hK hP 0 rfl rfl 0 (by decide) hf9 (fun _ h9 => h9) rfl dX0_hasOneValue_8 ?_
    refine lv_iload_n hx hb dX0_hasOneValue_11 rfl (lv_at hl 2 rfl) ?_
    refine lv_iconst (v := (nI 4)) hx hb dX0_hasOneValue_12 (by decide +kernel) ?_
    refine my_mul hx hb dX0_hasOneValue_13 ?_
    refine lv_iload_n hx hb dX0_hasOneValue_14 rfl (lv_at hl 0 rfl) ?_
    refine my_add hx hb dX0_hasOneValue_15 ?_
    refine my_iald hx hb hK hP 1 0 rfl rfl (by omega) (by decide) dX0_hasOneValue_16 ?_
    refine lv_aload_n hx hb dX0_hasOneValue_17 rfl (lv_at hl 1 rfl) ?_
    refine va_get (D := (dC, dI)) (ci := 0) (v := .ref qa) (C := RX0) (T := TX0) (N := 2) hx hb hts hin0 hown hK hP 0 rfl rfl 0 (by decide) hf9 (fun _ h9 => h9) rfl dX0_hasOneValue_18 ?_
    refine lv_iload_n hx hb dX0_hasOneValue_21 rfl (lv_at hl 2 rfl) ?_
    refine lv_iconst (v := (nI 4)) hx hb dX0_hasOneValue_22 (by decide +kernel) ?_
    refine my_mul hx hb dX0_hasOneValue_23 ?_
    refine my_iald hx hb hK hP 1 0 rfl rfl (by omega) (by decide) dX0_hasOneValue_24 ?_
    refine lv_icmp_eq (tgt := 30) hx hb dX0_hasOneValue_25 (by decide) (fun c_25 => ?_) (fun c_25 => ?_)
    · refine lv_iinc (v := (nI (i2 + 1))) (lv' := [(2, .int (nI (i2 + 1))), (0, .ref h0), (1, .int (nI a))]) hx hb dX0_hasOneValue_30 hl (k := 0) rfl (nI_1 _) (by decide) rfl (fun ls hl => ?_)
      refine lv_goto (tgt := 2) hx hb dX0_hasOneValue_33 (by decide) ?_
      exact hnx_2 hlt_2 ls ⟨lv_sub hl [0, 1, 2] rfl, (fun k hk => if q : k < i2 then hinv_2 k q else by (have e : k = i2 := by omega); subst e; exact c_25)⟩
    · refine lv_iconst (v := (nI 0)) hx hb dX0_hasOneValue_28 (by decide +kernel) ?_
      have eR : (nI 0) = bI (one w a 4) := by rw [one_f hlt_2 c_25]; exact bI_0
      exact W.zret (v := (nI 0)) hx hb hr (by decide +kernel) (fun t ht hW => ⟨_, rfl, eR, ht⟩) (fun q h9 => absurd h9 List.not_mem_nil) dX0_hasOneValue_29
