def onN : Nat → Nat → Bool
  | 0 => fun _ => false
  | n + 1 => updB (onN n) n true
theorem onN_t {n j : Nat} (h : j < n) : onN n j = true := by
  induction n with
  | zero => omega
  | succ n ih =>
    show (if j = n then true else onN n j) = true
    by_cases e : j = n
    · rw [if_pos e]
    · rw [if_neg e]
      exact ih (by omega)
set_option maxHeartbeats 4000000 in
set_option maxRecDepth 100000 in
theorem k0_init (l : Launch) (dC : Nat → ClassId) (dI : Nat → Nat → Nat) (h0 sz : Nat) (p1 : Int32) : Met l yX0_init wsX0_init ({ frames := 1, cells := 2, slots := 120, locals := 12 }) (va_Pc [.ref h0, .int p1] (fun U => U.heap.size = sz ∧ va_P (dC, dI) vwCl [(h0, .inr (0, [.null, .null]))] U.heap ∧ va_K (dC, dI) vwCl [] U ∧ va_D (fun _ => True) [(h0, .inr (0, [.null, .null]))])) (va_Qv (fun _ : Unit => True) (fun _ t => ∃ (qa qb : Nat) (cI cZ : ClassId), va_P (dC, dI) vwCl (W0 h0 qa qb cI cZ (fun _ => 0) (fun _ => true)) t.heap ∧ va_K (dC, dI) vwCl (TY cI cZ) t ∧ va_D (va_A [(h0, .inr (0, [.null, .null]))] sz) (W0 h0 qa qb cI cZ (fun _ => 0) (fun _ => true))) (va_A [(h0, .inr (0, [.null, .null]))] sz)) 2 120 (va_A [(h0, .inr (0, [.null, .null]))] sz) := by
  refine Met.ofW (cc := cX0_init) (maxL := 3) (ret := none) (by decide) rfl ?_
  intro p e s m args below meth c s₁ B hml hv
  obtain ⟨rfl, hsz, hP, hK, hD0⟩ := hv
  have hx := B.exec
  have hb := B.bytes
  have hr := B.returns
  have hlocks := B.notSynchronized
  have hts := atoms_spec (ws := wsX0_init) B.pre
  have hown : s.vm.findClass RX0 = some m.cls := findClass_of_methodNamed B.named
  have hin : meth.name = "<init>" := (name_of_methodNamed B.named B.method).1
  have hin0 : ∀ w ∈ wsX00, w ∈ wsX0_init := by decide +kernel
  have hf9 := hts (.fieldLink RX0 9 "PageMerger" "words" "[I") (by decide +kernel)
  have hf13 := hts (.fieldLink RX0 13 "PageMerger" "heldPages" "[Z") (by decide +kernel)
  subst hsz
  have hD := hD0.self (sz := s.heap.size)
  generalize hAe : va_A [(h0, .inr (0, [.null, .null]))] s.heap.size = A at hD ⊢
  have hA : ∀ q : Nat, s.heap.size ≤ q → A q := fun q h => by rw [← hAe]; exact Or.inr h
  have hS : va_S A s.heap s.heap [] := va_S.rf
  have hl := lv_entry ([.ref h0, .int p1]) (n := 3) (Nat.le_of_ble_eq_true rfl)
  rw [lg_entry_eq]
  generalize (lg_sl ([.ref h0, .int p1]) ++ List.replicate (3 - (lg_sl ([.ref h0, .int p1])).length) Slot.unset).toArray = ls at hl ⊢
  have hl : lv_has ls 3 [(0, .ref h0), (1, .int p1)] := hl
  refine lv_aload_n hx hb dX0_init_0 rfl (lv_at hl 0 rfl) ?_
  refine W.objInit hx hb hown (hts (.methodLink RX0 3 objectInit) (by decide +kernel)) (hts (.instanceMethod objectInit) (by decide +kernel)) (hts _ (List.mem_cons_of_mem _ (List.mem_append_left _ (List.mem_of_getElem? (i := 2) rfl)))) rfl (by rw [hml]; exact hl.1) rfl dX0_init_1 (Nat.le_of_ble_eq_true rfl) (Nat.le_of_ble_eq_true rfl) ?_
  refine W.eq (g2 := F0 m 4 ls []) rfl ?_
  refine lv_aload_n hx hb dX0_init_4 rfl (lv_at hl 0 rfl) ?_
  refine lv_bipush (v := nI 96) hx hb dX0_init_5 (by decide +kernel) ?_
  refine va_newa (atype := .int) (ty := .int) (a0 := (96, .inl (fun _ => 0))) (N' := 96) hx hb (hts (.arrayClass .int) (by decide +kernel)) rfl hK hP hD hS hA (fun _ => rfl) (by decide +kernel) (by decide +kernel) (Nat.le_of_ble_eq_true rfl) (Nat.le_of_ble_eq_true rfl) (Nat.le_of_ble_eq_true rfl) dX0_init_7 (fun qa cI H hK hP hD hS => ?_)
  have hP : va_P (dC, dI) vwCl [(h0, .inr (0, [.null, .null])), (qa, .inl (cI, 96, .inl (fun _ => 0)))] H := hP
  have hD : va_D A [(h0, .inr (0, [.null, .null])), (qa, .inl (cI, 96, .inl (fun _ => 0)))] := hD
  have hK : va_K (dC, dI) vwCl [(cI, .int)] s := hK
  refine va_putF (D := (dC, dI)) (ci := 0) (v := .ref qa) (ty := .array .int) (C := RX0) (T := TX0) (N := 2) hx hb hts hin0 tyX0 tyX0_ok nmX0 hown hK hP hD hS 0 rfl rfl 0 (by decide) hf9 (fun _ h9 => h9) rfl hin rfl (by decide +kernel) rfl rfl (Nat.le_of_ble_eq_true rfl) dX0_init_9 (fun H locs hP hD hS => ?_)
  have hP : va_P (dC, dI) vwCl [(h0, .inr (0, [.ref qa, .null])), (qa, .inl (cI, 96, .inl (fun _ => 0)))] H := hP
  have hD : va_D A [(h0, .inr (0, [.ref qa, .null])), (qa, .inl (cI, 96, .inl (fun _ => 0)))] := hD
  refine lv_aload_n hx hb dX0_init_12 rfl (lv_at hl 0 rfl) ?_
  refine lv_bipush (v := nI 24) hx hb dX0_init_13 (by decide +kernel) ?_
  refine va_newa (atype := .boolean) (ty := .boolean) (a0 := (24, .inl (zp (onN 0)))) (N' := 24) hx hb (hts (.arrayClass .boolean) (by decide +kernel)) rfl hK hP hD hS hA (fun _ => rfl) (by decide +kernel) (by decide +kernel) (Nat.le_of_ble_eq_true rfl) (Nat.le_of_ble_eq_true rfl) (Nat.le_of_ble_eq_true rfl) dX0_init_15 (fun qb cZ H hK hP hD hS => ?_)
  have hP : va_P (dC, dI) vwCl [(h0, .inr (0, [.ref qa, .null])), (qa, .inl (cI, 96, .inl (fun _ => 0))), (qb, .inl (cZ, 24, .inl (zp (onN 0))))] H := hP
  have hD : va_D A [(h0, .inr (0, [.ref qa, .null])), (qa, .inl (cI, 96, .inl (fun _ => 0))), (qb, .inl (cZ, 24, .inl (zp (onN 0))))] := hD
  have hK : va_K (dC, dI) vwCl (TY cI cZ) s := hK
  refine va_putF (D := (dC, dI)) (ci := 0) (v := .ref qb) (ty := .array .boolean) (C := RX0) (T := TX0) (N := 2) hx hb hts hin0 tyX0 tyX0_ok nmX0 hown hK hP hD hS 0 rfl rfl 1 (by decide) hf13 (fun _ h9 => h9) rfl hin rfl (by decide +kernel) rfl rfl (Nat.le_of_ble_eq_true rfl) dX0_init_17 (fun H locs hP hD hS => ?_)
  have hP : va_P (dC, dI) vwCl (W0 h0 qa qb cI cZ (fun _ => 0) (onN 0)) H := hP
  have hD : va_D A (W0 h0 qa qb cI cZ (fun _ => 0) (onN 0)) := hD
  refine W.widen (k := 2) (n := 120) (Nat.le_of_ble_eq_true rfl) (Nat.le_of_ble_eq_true rfl) ?_
  refine lv_iconst (v := (nI 0)) hx hb dX0_init_20 (by decide +kernel) ?_
  refine lv_istore_n (lv' := [(2, .int (nI 0)), (0, .ref h0), (1, .int (p1))]) hx hb dX0_init_21 rfl hl (by decide) rfl (fun ls hl => ?_)
  refine lp_Q 22 24 (fun i22 H locs ls => lv_has ls 3 [(2, .int (nI i22)), (0, .ref h0), (1, .int (p1))] ∧ va_P (dC, dI) vwCl (W0 h0 qa qb cI cZ (fun _ => 0) (onN i22)) H ∧ va_D A (W0 h0 qa qb cI cZ (fun _ => 0) (onN i22)) ∧ va_S A s.heap H locs) (fun i22 H locs ls hi_22 hI hnx_22 => ?_) 0 (by omega) _ _ ls ⟨lv_sub hl [0, 1, 2] rfl, hP, hD, hS⟩
  obtain ⟨hl, hP, hD, hS⟩ := hI
  refine lv_iload_n hx hb dX0_init_22 rfl (lv_at hl 0 rfl) ?_
  refine lv_bipush (v := (nI 24)) hx hb dX0_init_23 (by decide +kernel) ?_
  refine lv_icmp_ge (tgt := 41) hx hb dX0_init_25 (by decide) (fun c_25 => ?_) (fun c_25 => ?_)
  · have hq_25 : 24 ≤ i22 := (nI_leI (by omega) (by omega)).mp c_25
    have hE_25 : i22 = 24 := by omega
    subst hE_25
    have hP := W0_cong (h' := fun _ => true) hP (fun j hj => onN_t hj)
    have hD := W0_apart (w' := fun _ => 0) (h' := fun _ => true) hD
    exact W.vret hx hb hr (fun t ht hW => ⟨⟨(), rfl, trivial, qa, qb, cI, cZ, by rw [ht]; exact hP, va_K.moved hW.alike hK, hD⟩, hS.F ht⟩) hS.2.2 dX0_init_41
  · have hlt_22 : i22 < 24 := Nat.lt_of_not_le (fun q => c_25 ((nI_leI (by omega) (by omega)).mpr q))
    refine lv_aload_n hx hb dX0_init_28 rfl (lv_at hl 1 rfl) ?_
    refine va_get (D := (dC, dI)) (ci := 0) (v := .ref qb) (C := RX0) (T := TX0) (N := 2) hx hb hts hin0 hown hK hP 0 rfl rfl 1 (by decide) hf13 (fun _ h9 => h9) rfl dX0_init_29 ?_
    refine lv_iload_n hx hb dX0_init_32 rfl (lv_at hl 0 rfl) ?_
    refine lv_iconst (v := (nI 1)) hx hb dX0_init_33 (by decide +kernel) ?_
    refine my_zastP hx hb hK hP hD hS 2 1 rfl rfl true bI_1 (by omega) (by decide) dX0_init_34 (fun H locs hP hD hS => ?_)
    have hP : va_P (dC, dI) vwCl (W0 h0 qa qb cI cZ (fun _ => 0) (updB (onN i22) i22 true)) H := hP
    have hD : va_D A (W0 h0 qa qb cI cZ (fun _ => 0) (updB (onN i22) i22 true)) := hD
    refine lv_iinc (v := (nI (i22 + 1))) (lv' := [(2, .int (nI (i22 + 1))), (0, .ref h0), (1, .int (p1))]) hx hb dX0_init_35 hl (k := 0) rfl (nI_1 _) (by decide) rfl (fun ls hl => ?_)
    refine lv_goto (tgt := 22) hx hb dX0_init_38 (by decide) ?_
    exact hnx_22 hlt_22 _ _ ls ⟨lv_sub hl [0, 1, 2] rfl, hP, hD, hS⟩
set_option maxHeartbeats 4000000 in
set_option maxRecDepth 100000 in
theorem k1_init (l : Launch) (dC : Nat → ClassId) (dI : Nat → Nat → Nat) (h0 sz : Nat) (p1 : Int32) : Met l yX1_init wsX1_init ({ frames := 1, cells := 2, slots := 120, locals := 12 }) (va_Pc [.ref h0, .int p1] (fun U => U.heap.size = sz ∧ va_P (dC, dI) vwCl [(h0, .inr (1, [.null, .null]))] U.heap ∧ va_K (dC, dI) vwCl [] U ∧ va_D (fun _ => True) [(h0, .inr (1, [.null, .null]))])) (va_Qv (fun _ : Unit => True) (fun _ t => ∃ (qa qb : Nat) (cI cZ : ClassId), va_P (dC, dI) vwCl (W1 h0 qa qb cI cZ (fun _ => 0) (fun _ => true)) t.heap ∧ va_K (dC, dI) vwCl (TY cI cZ) t ∧ va_D (va_A [(h0, .inr (1, [.null, .null]))] sz) (W1 h0 qa qb cI cZ (fun _ => 0) (fun _ => true))) (va_A [(h0, .inr (1, [.null, .null]))] sz)) 2 120 (va_A [(h0, .inr (1, [.null, .null]))] sz) := by
  refine Met.ofW (cc := cX1_init) (maxL := 2) (ret := none) (by decide) rfl ?_
  intro p e s m args below meth c s₁ B hml hv
  obtain ⟨rfl, hsz, hP, hK, hD0⟩ := hv
  have hx := B.exec
  have hb := B.bytes
  have hr := B.returns
  have hlocks := B.notSynchronized
  have hts := atoms_spec (ws := wsX1_init) B.pre
  have hown : s.vm.findClass RX1 = some m.cls := findClass_of_methodNamed B.named
  have hin : meth.name = "<init>" := (name_of_methodNamed B.named B.method).1
  have hin0 : ∀ w ∈ wsX10, w ∈ wsX1_init := by decide +kernel
  have hf7 := hts (.fieldLink RX1 7 "PageMergerModel" "words" "[I") (by decide +kernel)
  have hf13 := hts (.fieldLink RX1 13 "PageMergerModel" "released" "[Z") (by decide +kernel)
  subst hsz
  have hD := hD0.self (sz := s.heap.size)
  generalize hAe : va_A [(h0, .inr (1, [.null, .null]))] s.heap.size = A at hD ⊢
  have hA : ∀ q : Nat, s.heap.size ≤ q → A q := fun q h => by rw [← hAe]; exact Or.inr h
  have hS : va_S A s.heap s.heap [] := va_S.rf
  have hl := lv_entry ([.ref h0, .int p1]) (n := 2) (Nat.le_of_ble_eq_true rfl)
  rw [lg_entry_eq]
  generalize (lg_sl ([.ref h0, .int p1]) ++ List.replicate (2 - (lg_sl ([.ref h0, .int p1])).length) Slot.unset).toArray = ls at hl ⊢
  have hl : lv_has ls 2 [(0, .ref h0), (1, .int p1)] := hl
  refine lv_aload_n hx hb dX1_init_0 rfl (lv_at hl 0 rfl) ?_
  refine W.objInit hx hb hown (hts (.methodLink RX1 1 objectInit) (by decide +kernel)) (hts (.instanceMethod objectInit) (by decide +kernel)) (hts _ (List.mem_cons_of_mem _ (List.mem_append_left _ (List.mem_of_getElem? (i := 2) rfl)))) rfl (by rw [hml]; exact hl.1) rfl dX1_init_1 (Nat.le_of_ble_eq_true rfl) (Nat.le_of_ble_eq_true rfl) ?_
  refine W.eq (g2 := F0 m 4 ls []) rfl ?_
  refine lv_aload_n hx hb dX1_init_4 rfl (lv_at hl 0 rfl) ?_
  refine lv_bipush (v := nI 96) hx hb dX1_init_5 (by decide +kernel) ?_
  refine va_newa (atype := .int) (ty := .int) (a0 := (96, .inl (fun _ => 0))) (N' := 96) hx hb (hts (.arrayClass .int) (by decide +kernel)) rfl hK hP hD hS hA (fun _ => rfl) (by decide +kernel) (by decide +kernel) (Nat.le_of_ble_eq_true rfl) (Nat.le_of_ble_eq_true rfl) (Nat.le_of_ble_eq_true rfl) dX1_init_7 (fun qa cI H hK hP hD hS => ?_)
  have hP : va_P (dC, dI) vwCl [(h0, .inr (1, [.null, .null])), (qa, .inl (cI, 96, .inl (fun _ => 0)))] H := hP
  have hD : va_D A [(h0, .inr (1, [.null, .null])), (qa, .inl (cI, 96, .inl (fun _ => 0)))] := hD
  have hK : va_K (dC, dI) vwCl [(cI, .int)] s := hK
  refine va_putF (D := (dC, dI)) (ci := 1) (v := .ref qa) (ty := .array .int) (C := RX1) (T := TX1) (N := 2) hx hb hts hin0 tyX1 tyX1_ok nmX1 hown hK hP hD hS 0 rfl rfl 0 (by decide) hf7 (fun _ h9 => h9) rfl hin rfl (by decide +kernel) rfl rfl (Nat.le_of_ble_eq_true rfl) dX1_init_9 (fun H locs hP hD hS => ?_)
  have hP : va_P (dC, dI) vwCl [(h0, .inr (1, [.ref qa, .null])), (qa, .inl (cI, 96, .inl (fun _ => 0)))] H := hP
  have hD : va_D A [(h0, .inr (1, [.ref qa, .null])), (qa, .inl (cI, 96, .inl (fun _ => 0)))] := hD
  refine lv_aload_n hx hb dX1_init_12 rfl (lv_at hl 0 rfl) ?_
  refine lv_bipush (v := nI 24) hx hb dX1_init_13 (by decide +kernel) ?_
  refine va_newa (atype := .boolean) (ty := .boolean) (a0 := (24, .inl (zn ((fun _ => true))))) (N' := 24) hx hb (hts (.arrayClass .boolean) (by decide +kernel)) rfl hK hP hD hS hA (fun _ => rfl) (by decide +kernel) (by decide +kernel) (Nat.le_of_ble_eq_true rfl) (Nat.le_of_ble_eq_true rfl) (Nat.le_of_ble_eq_true rfl) dX1_init_15 (fun qb cZ H hK hP hD hS => ?_)
  have hP : va_P (dC, dI) vwCl [(h0, .inr (1, [.ref qa, .null])), (qa, .inl (cI, 96, .inl (fun _ => 0))), (qb, .inl (cZ, 24, .inl (zn ((fun _ => true)))))] H := hP
  have hD : va_D A [(h0, .inr (1, [.ref qa, .null])), (qa, .inl (cI, 96, .inl (fun _ => 0))), (qb, .inl (cZ, 24, .inl (zn ((fun _ => true)))))] := hD
  have hK : va_K (dC, dI) vwCl (TY cI cZ) s := hK
  refine va_putF (D := (dC, dI)) (ci := 1) (v := .ref qb) (ty := .array .boolean) (C := RX1) (T := TX1) (N := 2) hx hb hts hin0 tyX1 tyX1_ok nmX1 hown hK hP hD hS 0 rfl rfl 1 (by decide) hf13 (fun _ h9 => h9) rfl hin rfl (by decide +kernel) rfl rfl (Nat.le_of_ble_eq_true rfl) dX1_init_17 (fun H locs hP hD hS => ?_)
  have hP : va_P (dC, dI) vwCl (W1 h0 qa qb cI cZ (fun _ => 0) ((fun _ => true))) H := hP
  have hD : va_D A (W1 h0 qa qb cI cZ (fun _ => 0) ((fun _ => true))) := hD
  refine W.widen (k := 2) (n := 120) (Nat.le_of_ble_eq_true rfl) (Nat.le_of_ble_eq_true rfl) ?_
  exact W.vret hx hb hr (fun t ht hW => ⟨⟨(), rfl, trivial, qa, qb, cI, cZ, by rw [ht]; exact hP, va_K.moved hW.alike hK, hD⟩, hS.F ht⟩) hS.2.2 dX1_init_20
section MYROWS2
variable {p : Program} {l : Launch} {e : Env} {R : Room} {s : State} {m : MethodId} {args : Array Value} {below : List Frame} {meth : Method} {c : Code} {H : Heap} {locs : List Loc} {cells slots : Nat} {Q : State → Prop} {cc : ByteArray} {pc : Nat} {ls : Array Slot} {rest : List Value} {A : Nat → Prop} {H0 : Heap}
theorem my_sld (hexec : p.tables.exec = Jvm.exec) (hb : c.code = cc) {b L : Nat} {xs : Nat → Int32} (hX : va_X b L xs s H0) (hbl : b < H0.size) (hbA : ¬ A b) (hS : va_S A H0 H locs) {j : Nat} (hj : j < L) (hL : L < 2 ^ 31) (hdg : decode cc pc = .ok (.iaload, 1))
    (kk : W p l e R s m args below meth c H locs cells slots Q (F0 m (pc + 1) ls (.int (xs j) :: rest))) : W p l e R s m args below meth c H locs cells slots Q (F0 m pc ls (.int (nI j) :: .ref b :: rest)) :=
  va_sld hexec hb hX hbl hbA hS (vp_in_nI hj hL) hdg (by rw [nI_clamp (Nat.lt_trans hj hL)]; exact kk)
theorem my_slen (hexec : p.tables.exec = Jvm.exec) (hb : c.code = cc) {b L : Nat} {xs : Nat → Int32} (hX : va_X b L xs s H0) (hbl : b < H0.size) (hbA : ¬ A b) (hS : va_S A H0 H locs) (hdg : decode cc pc = .ok (.arraylength, 1))
    (kk : W p l e R s m args below meth c H locs cells slots Q (F0 m (pc + 1) ls (.int (nI L) :: rest))) : W p l e R s m args below meth c H locs cells slots Q (F0 m pc ls (.ref b :: rest)) :=
  va_slen hexec hb hX hbl hbA hS hdg kk
end MYROWS2
set_option maxHeartbeats 4000000 in
set_option maxRecDepth 100000 in
/-- the law's cell(script, 0): some int -/
theorem kL_cell (l : Launch) (b L : Nat) (xs : Nat → Int32) (hL : L < 2 ^ 31) : Met l yL_cell wsL_cell ({ frames := 0, cells := 0, slots := 0, locals := 0 }) (va_Pc [.ref b, .int (nI 0)] (fun U => va_X b L xs U U.heap)) (vp_Si (fun _ => True)) 0 0 (fun _ => False) := by
  refine Met.ofW (cc := cL_cell) (maxL := 2) (ret := (some .int)) (by decide) rfl ?_
  intro p e s m args below meth c s₁ B hml hv
  obtain ⟨rfl, hX⟩ := hv
  have hx := B.exec
  have hb := B.bytes
  have hr := B.returns
  have hlocks := B.notSynchronized
  have hbl : b < s.heap.size := by
    obtain ⟨scr, h1, -⟩ := hX
    exact (Array.getElem?_eq_some_iff.mp h1).1
  have hS : va_S (fun _ => False) s.heap s.heap [] := va_S.rf
  have hl := lv_entry ([.ref b, .int (nI 0)]) (n := 2) (Nat.le_of_ble_eq_true rfl)
  rw [lg_entry_eq]
  generalize (lg_sl ([.ref b, .int (nI 0)]) ++ List.replicate (2 - (lg_sl ([.ref b, .int (nI 0)])).length) Slot.unset).toArray = ls at hl ⊢
  have hl : lv_has ls 2 [(0, .ref b), (1, .int (nI 0))] := hl
  refine lv_iload_n hx hb dL_cell_0 rfl (lv_at hl 1 rfl) ?_
  refine lv_aload_n hx hb dL_cell_1 rfl (lv_at hl 0 rfl) ?_
  refine my_slen hx hb hX hbl (fun h => h) hS dL_cell_2 ?_
  refine lv_icmp_ge (tgt := 12) hx hb dL_cell_3 (by decide) (fun c_3 => ?_) (fun c_3 => ?_)
  · refine lv_iconst (v := nI 0) hx hb dL_cell_12 (by decide +kernel) ?_
    exact W.iret (v := nI 0) hx hb hr (fun t ht hW => ⟨_, rfl, trivial, ht⟩) (fun q h9 => absurd h9 List.not_mem_nil) dL_cell_13
  · have h0 : 0 < L := Nat.lt_of_not_le (fun q => c_3 ((nI_leI hL (by decide)).mpr q))
    refine lv_aload_n hx hb dL_cell_6 rfl (lv_at hl 0 rfl) ?_
    refine lv_iload_n hx hb dL_cell_7 rfl (lv_at hl 1 rfl) ?_
    refine my_sld hx hb hX hbl (fun h => h) hS h0 hL dL_cell_8 ?_
    refine lv_goto (tgt := 13) hx hb dL_cell_9 (by decide) ?_
    exact W.iret (v := xs 0) hx hb hr (fun t ht hW => ⟨_, rfl, trivial, ht⟩) (fun q h9 => absurd h9 List.not_mem_nil) dL_cell_13
