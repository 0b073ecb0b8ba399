/-! THE CLAIM OUT OF ONE WALK OF THE LAW'S BODY. Your part is whole_start (and what it stands on); all else here is the same for every law, but numbers. -/
def R_law : String := "PageMergerLaw"
def lw_P (b : Addr) (xs : List Int32) (args : Array Value) (s : State) : Prop := args = #[.ref b] ∧ s.IntsAt b xs ∧ xs.length ≤ 257 ∧ (Jvm.Cond.and given_1 narrow_1).before args s = true
def lw_Q (_ : Array Value) (s : State) (o : Outcome) (t : State) : Prop := o = .returned (some (.int 1)) ∧ Framed s o t [] 6 244
def lw_Z (below : List Frame) (a : Array Value) (s : State) : State → Prop := fun t => ∃ o, t.status = .running ∧ Ended t below o ∧ lw_Q a s o t
/-- the law's own end, with 1 on the stack, nothing written that was there before, its room as the claim has it -/
theorem lw_ret {p : Program} {l : Launch} {e : Env} {s : State} {m : MethodId} {below : List Frame} {meth : Method} {c : Code} {b : Nat} (hx : p.tables.exec = Jvm.exec) (hb : c.code = code) (hr : meth.sig.returnType = ret) (hlocks : meth.locks = false) {pc : Nat} {H : Heap} {ls : Array Slot} (hdg : decode code pc = .ok (.ireturn, 1)) : W p l e room_1 s m #[Value.ref b] below meth c H [] 6 244 (lw_Z below #[Value.ref b] s) (F0 m pc ls [.int 1]) := by
  intro T hT X
  obtain ⟨fs, hret, hrun, hended, hW, hframe⟩ := X.leave (v := some (.int 1)) (hlocks := hlocks) (fun h => by rw [hr] at h; cases h)
  have hmeth' : T.vm.method? m = some meth := X.method'
  refine ⟨T.setFrames fs, ?_, .returned (some (.int 1)), hrun, hended, rfl, ⟨_, rfl⟩, hW, hframe⟩
  jvm_step X.here [X.here.top, hx, hb, hdg, hmeth', hr, ret, narrow_b1]
  (try refine ⟨rfl, ?_⟩); (try refine ⟨rfl, ?_⟩)
  first | (intro acts; rw [hret _ acts rfl rfl rfl]) | rw [hret _ _ rfl rfl rfl]
  exact Steps.refl _
/-- what holds at the law's entry: the machine, the code, the tables' words (any of lw_tbl by 'hts w (by decide +kernel)'), the script of L ints xs at the cell b, what the Statement gives of the start (any of its parts by flat_of_before) -/
def lw_At (p : Program) (s : State) (m : MethodId) (meth : Method) (c : Code) (b L : Nat) (xs : Nat → Int32) : Prop :=
  p.tables.exec = Jvm.exec ∧ c.code = code ∧ meth.sig.returnType = ret ∧ c.maxLocals = 4 ∧ s.vm.findClass R_law = some m.cls ∧ (∀ w ∈ lw_tbl, w.before #[Value.ref b] s = true) ∧ va_X b L xs s s.heap ∧ b < s.heap.size ∧ meth.locks = false ∧ (Jvm.Cond.and given_1 narrow_1).before #[Value.ref b] s = true
abbrev W2 (x xa xb y ya yb : Nat) (cI cZ eI eZ : ClassId) (w : Nat → Int32) (h : Nat → Bool) (w2 : Nat → Int32) (h2 : Nat → Bool) : va_W := [(x, .inr (0, [.ref xa, .ref xb])), (xa, .inl (cI, 96, .inl w)), (xb, .inl (cZ, 24, .inl (zp h))), (y, .inr (1, [.ref ya, .ref yb])), (ya, .inl (eI, 96, .inl w2)), (yb, .inl (eZ, 24, .inl (zn h2)))]
abbrev T4 (cI cZ eI eZ : ClassId) : List (ClassId × FieldType) := [(cI, .int), (cZ, .boolean), (eI, .int), (eZ, .boolean)]
abbrev LA (s : State) : Nat → Prop := fun q : Nat => s.heap.size ≤ q
/-- where a call of the script is through: the law's cells hold one w and one h -/
def LN (p : Program) (l : Launch) (e : Env) (s : State) (m : MethodId) (below : List Frame) (meth : Method) (c : Code) (dC : Nat → ClassId) (dI : Nat → Nat → Nat) (b x xa xb y ya yb : Nat) (cI cZ eI eZ : ClassId) (k : Nat) : Prop :=
  ∀ (w : Nat → Int32) (h : Nat → Bool) (H : Heap) (locs : List Loc) (ls : Array Slot), va_P (dC, dI) vwCl (W2 x xa xb y ya yb cI cZ eI eZ w h w h) H → va_D (LA s) (W2 x xa xb y ya yb cI cZ eI eZ w h w h) → va_S (LA s) s.heap H locs → lv_has ls 4 [(0, .ref b), (1, .ref x), (2, .ref y), (3, .int (nI k))] → W p l e room_1 s m #[Value.ref b] below meth c H locs 6 244 (lw_Z below #[Value.ref b] s) (F0 m 445 ls [])
set_option maxHeartbeats 4000000 in
set_option maxRecDepth 100000 in
theorem law_case0 {p : Program} {l : Launch} {e : Env} {s : State} {m : MethodId} {below : List Frame} {meth : Method} {c : Code} {dC : Nat → ClassId} {dI : Nat → Nat → Nat} {b L : Nat} {xs : Nat → Int32} (hL : L ≤ 257) (C0 : lw_At p s m meth c b L xs) {k x xa xb y ya yb : Nat} {cI cZ eI eZ : ClassId} (hk : k + 4 ≤ L) (hK : va_K (dC, dI) vwCl (T4 cI cZ eI eZ) s) (nx : LN p l e s m below meth c dC dI b x xa xb y ya yb cI cZ eI eZ k) (w : Nat → Int32) (h : Nat → Bool) (H : Heap) (locs : List Loc) (ls : Array Slot) (hP : va_P (dC, dI) vwCl (W2 x xa xb y ya yb cI cZ eI eZ w h w h) H) (hD : va_D (LA s) (W2 x xa xb y ya yb cI cZ eI eZ w h w h)) (hS : va_S (LA s) s.heap H locs) (hl : lv_has ls 4 [(0, .ref b), (1, .ref x), (2, .ref y), (3, .int (nI k))]) : W p l e room_1 s m #[Value.ref b] below meth c H locs 6 244 (lw_Z below #[Value.ref b] s) (F0 m 108 ls []) := by
  obtain ⟨hx, hb, hr, hml, hown, hts0, hX, hbl, hlocks, hgv⟩ := C0
  have hb : c.code = cL_law := hb
  have hown : s.vm.findClass RL = some m.cls := hown
  have hts : ∀ w ∈ wsL_law, w.before #[Value.ref b] s = true := fun w h => hts0 w (wsL_law_in w h)
  have hA : ∀ q : Nat, s.heap.size ≤ q → LA s q := fun _ h => h
  have hbA : ¬ LA s b := Nat.not_le.mpr hbl
  refine lv_aload_n hx hb dL_law_108 rfl (lv_at hl 1 rfl) ?_
  refine lv_aload_n hx hb dL_law_109 rfl (lv_at hl 0 rfl) ?_
  refine lv_iload_n hx hb dL_law_110 rfl (lv_at hl 3 rfl) ?_
  refine lv_iconst (v := (nI 1)) hx hb dL_law_111 (by decide +kernel) ?_
  refine my_add hx hb dL_law_112 ?_
  refine my_sld hx hb hX hbl hbA hS (show k + 1 < L by omega) (by omega) dL_law_113 ?_
  refine lv_aload_n hx hb dL_law_114 rfl (lv_at hl 0 rfl) ?_
  refine lv_iload_n hx hb dL_law_115 rfl (lv_at hl 3 rfl) ?_
  refine lv_iconst (v := (nI 2)) hx hb dL_law_116 (by decide +kernel) ?_
  refine my_add hx hb dL_law_117 ?_
  refine my_sld hx hb hX hbl hbA hS (show k + 2 < L by omega) (by omega) dL_law_118 ?_
  refine lv_aload_n hx hb dL_law_119 rfl (lv_at hl 0 rfl) ?_
  refine lv_iload_n hx hb dL_law_120 rfl (lv_at hl 3 rfl) ?_
  refine lv_iconst (v := (nI 3)) hx hb dL_law_121 (by decide +kernel) ?_
  refine my_add hx hb dL_law_122 ?_
  refine my_sld hx hb hX hbl hbA hS (show k + 3 < L by omega) (by omega) dL_law_123 ?_
  have hPc := hP.sub (ws' := W0 x xa xb cI cZ w h) [0, 1, 2] rfl
  have hKc := hK.sub (tys' := TY cI cZ) [0, 1] rfl
  have hDc := hD.sub (ws' := W0 x xa xb cI cZ w h) [0, 1, 2] (by decide) rfl
  have hFc := va_free (wc := W0 x xa xb cI cZ w h) hD hS hA [0, 1, 2] rfl
  refine va_calli (va_runV (As := [.int (xs (k + 1)), .int (xs (k + 2)), .int (xs (k + 3))]) (rest := []) ⟨hx, hb, hml, hown, hts⟩ (k0_write l dC dI x xa xb cI cZ H.size w h (xs (k + 1)) (xs (k + 2)) (xs (k + 3))) (cwV 3 hts gL_law_X0_write rfl rfl rfl (by decide +kernel) ⟨Nat.le_of_ble_eq_true rfl, Nat.le_of_ble_eq_true rfl⟩) ⟨bl_Q, va_recv hKc hPc (ci := 0) (q0 := 0) rfl rfl, fun U hU hW => ⟨rfl, by rw [hU], by rw [hU]; exact hPc, va_K.moved hW.alike hKc, hDc.weaken (fun _ _ _ _ => trivial)⟩⟩ rfl rfl hl.1 rfl (lv_room (Nat.le_of_ble_eq_true rfl)) dL_law_124 ⟨Nat.le_of_ble_eq_true rfl, Nat.le_of_ble_eq_true rfl⟩) hS (fun q _ h9 => hFc q h9) hFc (fun r_124 u t H1 locs ht hvm hw hB hz1 hk1 hS => ?_)
  obtain rfl : r_124 = (s_read w (xs (k + 1)) (xs (k + 2))) := hw
  obtain ⟨hP1, hK1, hD1⟩ := hB
  rw [ht] at hP1
  obtain ⟨hP, hD⟩ := va_join (wr := W1 y ya yb eI eZ w h) (w1 := W0 x xa xb cI cZ (w_write w (xs (k + 1)) (xs (k + 2)) (xs (k + 3))) (h_write h (xs (k + 1)) (xs (k + 2)))) hP hD [0, 1, 2] [3, 4, 5] rfl rfl (by decide) (by decide) hk1 hFc hP1 hD1
  have hP := hP.sub (ws' := W2 x xa xb y ya yb cI cZ eI eZ (w_write w (xs (k + 1)) (xs (k + 2)) (xs (k + 3))) (h_write h (xs (k + 1)) (xs (k + 2))) w h) [3, 4, 5, 0, 1, 2] rfl
  have hD := hD.sub (ws' := W2 x xa xb y ya yb cI cZ eI eZ (w_write w (xs (k + 1)) (xs (k + 2)) (xs (k + 3))) (h_write h (xs (k + 1)) (xs (k + 2))) w h) [3, 4, 5, 0, 1, 2] (by decide) rfl
  generalize H1 = H at hP hS ⊢
  refine lv_aload_n hx hb dL_law_127 rfl (lv_at hl 2 rfl) ?_
  refine lv_aload_n hx hb dL_law_128 rfl (lv_at hl 0 rfl) ?_
  refine lv_iload_n hx hb dL_law_129 rfl (lv_at hl 3 rfl) ?_
  refine lv_iconst (v := (nI 1)) hx hb dL_law_130 (by decide +kernel) ?_
  refine my_add hx hb dL_law_131 ?_
  refine my_sld hx hb hX hbl hbA hS (show k + 1 < L by omega) (by omega) dL_law_132 ?_
  refine lv_aload_n hx hb dL_law_133 rfl (lv_at hl 0 rfl) ?_
  refine lv_iload_n hx hb dL_law_134 rfl (lv_at hl 3 rfl) ?_
  refine lv_iconst (v := (nI 2)) hx hb dL_law_135 (by decide +kernel) ?_
  refine my_add hx hb dL_law_136 ?_
  refine my_sld hx hb hX hbl hbA hS (show k + 2 < L by omega) (by omega) dL_law_137 ?_
  refine lv_aload_n hx hb dL_law_138 rfl (lv_at hl 0 rfl) ?_
  refine lv_iload_n hx hb dL_law_139 rfl (lv_at hl 3 rfl) ?_
  refine lv_iconst (v := (nI 3)) hx hb dL_law_140 (by decide +kernel) ?_
  refine my_add hx hb dL_law_141 ?_
  refine my_sld hx hb hX hbl hbA hS (show k + 3 < L by omega) (by omega) dL_law_142 ?_
  have hPc := hP.sub (ws' := W1 y ya yb eI eZ w h) [3, 4, 5] rfl
  have hKc := hK.sub (tys' := TY eI eZ) [2, 3] rfl
  have hDc := hD.sub (ws' := W1 y ya yb eI eZ w h) [3, 4, 5] (by decide) rfl
  have hFc := va_free (wc := W1 y ya yb eI eZ w h) hD hS hA [3, 4, 5] rfl
  refine va_calli (va_runV (As := [.int (xs (k + 1)), .int (xs (k + 2)), .int (xs (k + 3))]) (rest := [.int (s_read w (xs (k + 1)) (xs (k + 2)))]) ⟨hx, hb, hml, hown, hts⟩ (k1_write l dC dI y ya yb eI eZ H.size w h (xs (k + 1)) (xs (k + 2)) (xs (k + 3))) (cwV 3 hts gL_law_X1_write rfl rfl rfl (by decide +kernel) ⟨Nat.le_of_ble_eq_true rfl, Nat.le_of_ble_eq_true rfl⟩) ⟨bl_Q, va_recv hKc hPc (ci := 1) (q0 := 0) rfl rfl, fun U hU hW => ⟨rfl, by rw [hU], by rw [hU]; exact hPc, va_K.moved hW.alike hKc, hDc.weaken (fun _ _ _ _ => trivial)⟩⟩ rfl rfl hl.1 rfl (lv_room (Nat.le_of_ble_eq_true rfl)) dL_law_143 ⟨Nat.le_of_ble_eq_true rfl, Nat.le_of_ble_eq_true rfl⟩) hS (fun q _ h9 => hFc q h9) hFc (fun r_143 u t H1 locs ht hvm hw hB hz1 hk1 hS => ?_)
  obtain rfl : r_143 = (s_read w (xs (k + 1)) (xs (k + 2))) := hw
  obtain ⟨hP1, hK1, hD1⟩ := hB
  rw [ht] at hP1
  obtain ⟨hP, hD⟩ := va_join (wr := W0 x xa xb cI cZ (w_write w (xs (k + 1)) (xs (k + 2)) (xs (k + 3))) (h_write h (xs (k + 1)) (xs (k + 2)))) (w1 := W1 y ya yb eI eZ (w_write w (xs (k + 1)) (xs (k + 2)) (xs (k + 3))) (h_write h (xs (k + 1)) (xs (k + 2)))) hP hD [3, 4, 5] [0, 1, 2] rfl rfl (by decide) (by decide) hk1 hFc hP1 hD1
  have hP := hP.sub (ws' := W2 x xa xb y ya yb cI cZ eI eZ (w_write w (xs (k + 1)) (xs (k + 2)) (xs (k + 3))) (h_write h (xs (k + 1)) (xs (k + 2))) (w_write w (xs (k + 1)) (xs (k + 2)) (xs (k + 3))) (h_write h (xs (k + 1)) (xs (k + 2)))) [0, 1, 2, 3, 4, 5] rfl
  have hD := hD.sub (ws' := W2 x xa xb y ya yb cI cZ eI eZ (w_write w (xs (k + 1)) (xs (k + 2)) (xs (k + 3))) (h_write h (xs (k + 1)) (xs (k + 2))) (w_write w (xs (k + 1)) (xs (k + 2)) (xs (k + 3))) (h_write h (xs (k + 1)) (xs (k + 2)))) [0, 1, 2, 3, 4, 5] (by decide) rfl
  generalize H1 = H at hP hS ⊢
  refine lv_icmp_eq (tgt := 445) hx hb dL_law_146 (by decide) (fun _ => ?_) (fun c_146 => absurd rfl c_146)
  exact nx _ _ _ _ ls hP hD hS hl
set_option maxHeartbeats 4000000 in
set_option maxRecDepth 100000 in
theorem law_case1 {p : Program} {l : Launch} {e : Env} {s : State} {m : MethodId} {below : List Frame} {meth : Method} {c : Code} {dC : Nat → ClassId} {dI : Nat → Nat → Nat} {b L : Nat} {xs : Nat → Int32} (hL : L ≤ 257) (C0 : lw_At p s m meth c b L xs) {k x xa xb y ya yb : Nat} {cI cZ eI eZ : ClassId} (hk : k + 4 ≤ L) (hK : va_K (dC, dI) vwCl (T4 cI cZ eI eZ) s) (nx : LN p l e s m below meth c dC dI b x xa xb y ya yb cI cZ eI eZ k) (w : Nat → Int32) (h : Nat → Bool) (H : Heap) (locs : List Loc) (ls : Array Slot) (hP : va_P (dC, dI) vwCl (W2 x xa xb y ya yb cI cZ eI eZ w h w h) H) (hD : va_D (LA s) (W2 x xa xb y ya yb cI cZ eI eZ w h w h)) (hS : va_S (LA s) s.heap H locs) (hl : lv_has ls 4 [(0, .ref b), (1, .ref x), (2, .ref y), (3, .int (nI k))]) : W p l e room_1 s m #[Value.ref b] below meth c H locs 6 244 (lw_Z below #[Value.ref b] s) (F0 m 151 ls []) := by
  obtain ⟨hx, hb, hr, hml, hown, hts0, hX, hbl, hlocks, hgv⟩ := C0
  have hb : c.code = cL_law := hb
  have hown : s.vm.findClass RL = some m.cls := hown
  have hts : ∀ w ∈ wsL_law, w.before #[Value.ref b] s = true := fun w h => hts0 w (wsL_law_in w h)
  have hA : ∀ q : Nat, s.heap.size ≤ q → LA s q := fun _ h => h
  have hbA : ¬ LA s b := Nat.not_le.mpr hbl
  refine lv_aload_n hx hb dL_law_151 rfl (lv_at hl 1 rfl) ?_
  refine lv_aload_n hx hb dL_law_152 rfl (lv_at hl 0 rfl) ?_
  refine lv_iload_n hx hb dL_law_153 rfl (lv_at hl 3 rfl) ?_
  refine lv_iconst (v := (nI 1)) hx hb dL_law_154 (by decide +kernel) ?_
  refine my_add hx hb dL_law_155 ?_
  refine my_sld hx hb hX hbl hbA hS (show k + 1 < L by omega) (by omega) dL_law_156 ?_
  refine lv_aload_n hx hb dL_law_157 rfl (lv_at hl 0 rfl) ?_
  refine lv_iload_n hx hb dL_law_158 rfl (lv_at hl 3 rfl) ?_
  refine lv_iconst (v := (nI 2)) hx hb dL_law_159 (by decide +kernel) ?_
  refine my_add hx hb dL_law_160 ?_
  refine my_sld hx hb hX hbl hbA hS (show k + 2 < L by omega) (by omega) dL_law_161 ?_
  have hPc := hP.sub (ws' := W0 x xa xb cI cZ w h) [0, 1, 2] rfl
  have hKc := hK.sub (tys' := TY cI cZ) [0, 1] rfl
  have hDc := hD.sub (ws' := W0 x xa xb cI cZ w h) [0, 1, 2] (by decide) rfl
  have hFc := va_free (wc := W0 x xa xb cI cZ w h) hD hS hA [0, 1, 2] rfl
  refine va_calli (va_runV (As := [.int (xs (k + 1)), .int (xs (k + 2))]) (rest := []) ⟨hx, hb, hml, hown, hts⟩ (k0_fill l dC dI x xa xb cI cZ H.size w h (xs (k + 1)) (xs (k + 2))) (cwV 2 hts gL_law_X0_fill rfl rfl rfl (by decide +kernel) ⟨Nat.le_of_ble_eq_true rfl, Nat.le_of_ble_eq_true rfl⟩) ⟨bl_Q, va_recv hKc hPc (ci := 0) (q0 := 0) rfl rfl, fun U hU hW => ⟨rfl, by rw [hU], by rw [hU]; exact hPc, va_K.moved hW.alike hKc, hDc.weaken (fun _ _ _ _ => trivial)⟩⟩ rfl rfl hl.1 rfl (lv_room (Nat.le_of_ble_eq_true rfl)) dL_law_162 ⟨Nat.le_of_ble_eq_true rfl, Nat.le_of_ble_eq_true rfl⟩) hS (fun q _ h9 => hFc q h9) hFc (fun r_162 u t H1 locs ht hvm hw hB hz1 hk1 hS => ?_)
  obtain rfl : r_162 = (s_page (xs (k + 1))) := hw
  obtain ⟨hP1, hK1, hD1⟩ := hB
  rw [ht] at hP1
  obtain ⟨hP, hD⟩ := va_join (wr := W1 y ya yb eI eZ w h) (w1 := W0 x xa xb cI cZ (w_fill w (xs (k + 1)) (xs (k + 2))) (h_fill h (xs (k + 1)))) hP hD [0, 1, 2] [3, 4, 5] rfl rfl (by decide) (by decide) hk1 hFc hP1 hD1
  have hP := hP.sub (ws' := W2 x xa xb y ya yb cI cZ eI eZ (w_fill w (xs (k + 1)) (xs (k + 2))) (h_fill h (xs (k + 1))) w h) [3, 4, 5, 0, 1, 2] rfl
  have hD := hD.sub (ws' := W2 x xa xb y ya yb cI cZ eI eZ (w_fill w (xs (k + 1)) (xs (k + 2))) (h_fill h (xs (k + 1))) w h) [3, 4, 5, 0, 1, 2] (by decide) rfl
  generalize H1 = H at hP hS ⊢
  refine lv_aload_n hx hb dL_law_165 rfl (lv_at hl 2 rfl) ?_
  refine lv_aload_n hx hb dL_law_166 rfl (lv_at hl 0 rfl) ?_
  refine lv_iload_n hx hb dL_law_167 rfl (lv_at hl 3 rfl) ?_
  refine lv_iconst (v := (nI 1)) hx hb dL_law_168 (by decide +kernel) ?_
  refine my_add hx hb dL_law_169 ?_
  refine my_sld hx hb hX hbl hbA hS (show k + 1 < L by omega) (by omega) dL_law_170 ?_
  refine lv_aload_n hx hb dL_law_171 rfl (lv_at hl 0 rfl) ?_
  refine lv_iload_n hx hb dL_law_172 rfl (lv_at hl 3 rfl) ?_
  refine lv_iconst (v := (nI 2)) hx hb dL_law_173 (by decide +kernel) ?_
  refine my_add hx hb dL_law_174 ?_
  refine my_sld hx hb hX hbl hbA hS (show k + 2 < L by omega) (by omega) dL_law_175 ?_
  have hPc := hP.sub (ws' := W1 y ya yb eI eZ w h) [3, 4, 5] rfl
  have hKc := hK.sub (tys' := TY eI eZ) [2, 3] rfl
  have hDc := hD.sub (ws' := W1 y ya yb eI eZ w h) [3, 4, 5] (by decide) rfl
  have hFc := va_free (wc := W1 y ya yb eI eZ w h) hD hS hA [3, 4, 5] rfl
  refine va_calli (va_runV (As := [.int (xs (k + 1)), .int (xs (k + 2))]) (rest := [.int (s_page (xs (k + 1)))]) ⟨hx, hb, hml, hown, hts⟩ (k1_fill l dC dI y ya yb eI eZ H.size w h (xs (k + 1)) (xs (k + 2))) (cwV 2 hts gL_law_X1_fill rfl rfl rfl (by decide +kernel) ⟨Nat.le_of_ble_eq_true rfl, Nat.le_of_ble_eq_true rfl⟩) ⟨bl_Q, va_recv hKc hPc (ci := 1) (q0 := 0) rfl rfl, fun U hU hW => ⟨rfl, by rw [hU], by rw [hU]; exact hPc, va_K.moved hW.alike hKc, hDc.weaken (fun _ _ _ _ => trivial)⟩⟩ rfl rfl hl.1 rfl (lv_room (Nat.le_of_ble_eq_true rfl)) dL_law_176 ⟨Nat.le_of_ble_eq_true rfl, Nat.le_of_ble_eq_true rfl⟩) hS (fun q _ h9 => hFc q h9) hFc (fun r_176 u t H1 locs ht hvm hw hB hz1 hk1 hS => ?_)
  obtain rfl : r_176 = (s_page (xs (k + 1))) := hw
  obtain ⟨hP1, hK1, hD1⟩ := hB
  rw [ht] at hP1
  obtain ⟨hP, hD⟩ := va_join (wr := W0 x xa xb cI cZ (w_fill w (xs (k + 1)) (xs (k + 2))) (h_fill h (xs (k + 1)))) (w1 := W1 y ya yb eI eZ (w_fill w (xs (k + 1)) (xs (k + 2))) (h_fill h (xs (k + 1)))) hP hD [3, 4, 5] [0, 1, 2] rfl rfl (by decide) (by decide) hk1 hFc hP1 hD1
  have hP := hP.sub (ws' := W2 x xa xb y ya yb cI cZ eI eZ (w_fill w (xs (k + 1)) (xs (k + 2))) (h_fill h (xs (k + 1))) (w_fill w (xs (k + 1)) (xs (k + 2))) (h_fill h (xs (k + 1)))) [0, 1, 2, 3, 4, 5] rfl
  have hD := hD.sub (ws' := W2 x xa xb y ya yb cI cZ eI eZ (w_fill w (xs (k + 1)) (xs (k + 2))) (h_fill h (xs (k + 1))) (w_fill w (xs (k + 1)) (xs (k + 2))) (h_fill h (xs (k + 1)))) [0, 1, 2, 3, 4, 5] (by decide) rfl
  generalize H1 = H at hP hS ⊢
  refine lv_icmp_eq (tgt := 445) hx hb dL_law_179 (by decide) (fun _ => ?_) (fun c_179 => absurd rfl c_179)
  exact nx _ _ _ _ ls hP hD hS hl
set_option maxHeartbeats 4000000 in
set_option maxRecDepth 100000 in
theorem law_case2 {p : Program} {l : Launch} {e : Env} {s : State} {m : MethodId} {below : List Frame} {meth : Method} {c : Code} {dC : Nat → ClassId} {dI : Nat → Nat → Nat} {b L : Nat} {xs : Nat → Int32} (hL : L ≤ 257) (C0 : lw_At p s m meth c b L xs) {k x xa xb y ya yb : Nat} {cI cZ eI eZ : ClassId} (hk : k + 4 ≤ L) (hK : va_K (dC, dI) vwCl (T4 cI cZ eI eZ) s) (nx : LN p l e s m below meth c dC dI b x xa xb y ya yb cI cZ eI eZ k) (w : Nat → Int32) (h : Nat → Bool) (H : Heap) (locs : List Loc) (ls : Array Slot) (hP : va_P (dC, dI) vwCl (W2 x xa xb y ya yb cI cZ eI eZ w h w h) H) (hD : va_D (LA s) (W2 x xa xb y ya yb cI cZ eI eZ w h w h)) (hS : va_S (LA s) s.heap H locs) (hl : lv_has ls 4 [(0, .ref b), (1, .ref x), (2, .ref y), (3, .int (nI k))]) : W p l e room_1 s m #[Value.ref b] below meth c H locs 6 244 (lw_Z below #[Value.ref b] s) (F0 m 184 ls []) := by
  obtain ⟨hx, hb, hr, hml, hown, hts0, hX, hbl, hlocks, hgv⟩ := C0
  have hb : c.code = cL_law := hb
  have hown : s.vm.findClass RL = some m.cls := hown
  have hts : ∀ w ∈ wsL_law, w.before #[Value.ref b] s = true := fun w h => hts0 w (wsL_law_in w h)
  have hA : ∀ q : Nat, s.heap.size ≤ q → LA s q := fun _ h => h
  have hbA : ¬ LA s b := Nat.not_le.mpr hbl
  refine lv_aload_n hx hb dL_law_184 rfl (lv_at hl 1 rfl) ?_
  refine lv_aload_n hx hb dL_law_185 rfl (lv_at hl 0 rfl) ?_
  refine lv_iload_n hx hb dL_law_186 rfl (lv_at hl 3 rfl) ?_
  refine lv_iconst (v := (nI 1)) hx hb dL_law_187 (by decide +kernel) ?_
  refine my_add hx hb dL_law_188 ?_
  refine my_sld hx hb hX hbl hbA hS (show k + 1 < L by omega) (by omega) dL_law_189 ?_
  refine lv_aload_n hx hb dL_law_190 rfl (lv_at hl 0 rfl) ?_
  refine lv_iload_n hx hb dL_law_191 rfl (lv_at hl 3 rfl) ?_
  refine lv_iconst (v := (nI 2)) hx hb dL_law_192 (by decide +kernel) ?_
  refine my_add hx hb dL_law_193 ?_
  refine my_sld hx hb hX hbl hbA hS (show k + 2 < L by omega) (by omega) dL_law_194 ?_
  have hPc := hP.sub (ws' := W0 x xa xb cI cZ w h) [0, 1, 2] rfl
  have hKc := hK.sub (tys' := TY cI cZ) [0, 1] rfl
  have hDc := hD.sub (ws' := W0 x xa xb cI cZ w h) [0, 1, 2] (by decide) rfl
  have hFc := va_free (wc := W0 x xa xb cI cZ w h) hD hS hA [0, 1, 2] rfl
  refine va_calli (va_runV (As := [.int (xs (k + 1)), .int (xs (k + 2))]) (rest := []) ⟨hx, hb, hml, hown, hts⟩ (k0_copy l dC dI x xa xb cI cZ H.size w h (xs (k + 1)) (xs (k + 2))) (cwV 2 hts gL_law_X0_copy rfl rfl rfl (by decide +kernel) ⟨Nat.le_of_ble_eq_true rfl, Nat.le_of_ble_eq_true rfl⟩) ⟨bl_Q, va_recv hKc hPc (ci := 0) (q0 := 0) rfl rfl, fun U hU hW => ⟨rfl, by rw [hU], by rw [hU]; exact hPc, va_K.moved hW.alike hKc, hDc.weaken (fun _ _ _ _ => trivial)⟩⟩ rfl rfl hl.1 rfl (lv_room (Nat.le_of_ble_eq_true rfl)) dL_law_195 ⟨Nat.le_of_ble_eq_true rfl, Nat.le_of_ble_eq_true rfl⟩) hS (fun q _ h9 => hFc q h9) hFc (fun r_195 u t H1 locs ht hvm hw hB hz1 hk1 hS => ?_)
  obtain rfl : r_195 = (s_two (xs (k + 1)) (xs (k + 2))) := hw
  obtain ⟨hP1, hK1, hD1⟩ := hB
  rw [ht] at hP1
  obtain ⟨hP, hD⟩ := va_join (wr := W1 y ya yb eI eZ w h) (w1 := W0 x xa xb cI cZ (w_copy w (xs (k + 1)) (xs (k + 2))) (h_copy h (xs (k + 1)) (xs (k + 2)))) hP hD [0, 1, 2] [3, 4, 5] rfl rfl (by decide) (by decide) hk1 hFc hP1 hD1
  have hP := hP.sub (ws' := W2 x xa xb y ya yb cI cZ eI eZ (w_copy w (xs (k + 1)) (xs (k + 2))) (h_copy h (xs (k + 1)) (xs (k + 2))) w h) [3, 4, 5, 0, 1, 2] rfl
  have hD := hD.sub (ws' := W2 x xa xb y ya yb cI cZ eI eZ (w_copy w (xs (k + 1)) (xs (k + 2))) (h_copy h (xs (k + 1)) (xs (k + 2))) w h) [3, 4, 5, 0, 1, 2] (by decide) rfl
  generalize H1 = H at hP hS ⊢
  refine lv_aload_n hx hb dL_law_198 rfl (lv_at hl 2 rfl) ?_
  refine lv_aload_n hx hb dL_law_199 rfl (lv_at hl 0 rfl) ?_
  refine lv_iload_n hx hb dL_law_200 rfl (lv_at hl 3 rfl) ?_
  refine lv_iconst (v := (nI 1)) hx hb dL_law_201 (by decide +kernel) ?_
  refine my_add hx hb dL_law_202 ?_
  refine my_sld hx hb hX hbl hbA hS (show k + 1 < L by omega) (by omega) dL_law_203 ?_
  refine lv_aload_n hx hb dL_law_204 rfl (lv_at hl 0 rfl) ?_
  refine lv_iload_n hx hb dL_law_205 rfl (lv_at hl 3 rfl) ?_
  refine lv_iconst (v := (nI 2)) hx hb dL_law_206 (by decide +kernel) ?_
  refine my_add hx hb dL_law_207 ?_
  refine my_sld hx hb hX hbl hbA hS (show k + 2 < L by omega) (by omega) dL_law_208 ?_
  have hPc := hP.sub (ws' := W1 y ya yb eI eZ w h) [3, 4, 5] rfl
  have hKc := hK.sub (tys' := TY eI eZ) [2, 3] rfl
  have hDc := hD.sub (ws' := W1 y ya yb eI eZ w h) [3, 4, 5] (by decide) rfl
  have hFc := va_free (wc := W1 y ya yb eI eZ w h) hD hS hA [3, 4, 5] rfl
  refine va_calli (va_runV (As := [.int (xs (k + 1)), .int (xs (k + 2))]) (rest := [.int (s_two (xs (k + 1)) (xs (k + 2)))]) ⟨hx, hb, hml, hown, hts⟩ (k1_copy l dC dI y ya yb eI eZ H.size w h (xs (k + 1)) (xs (k + 2))) (cwV 2 hts gL_law_X1_copy rfl rfl rfl (by decide +kernel) ⟨Nat.le_of_ble_eq_true rfl, Nat.le_of_ble_eq_true rfl⟩) ⟨bl_Q, va_recv hKc hPc (ci := 1) (q0 := 0) rfl rfl, fun U hU hW => ⟨rfl, by rw [hU], by rw [hU]; exact hPc, va_K.moved hW.alike hKc, hDc.weaken (fun _ _ _ _ => trivial)⟩⟩ rfl rfl hl.1 rfl (lv_room (Nat.le_of_ble_eq_true rfl)) dL_law_209 ⟨Nat.le_of_ble_eq_true rfl, Nat.le_of_ble_eq_true rfl⟩) hS (fun q _ h9 => hFc q h9) hFc (fun r_209 u t H1 locs ht hvm hw hB hz1 hk1 hS => ?_)
  obtain rfl : r_209 = (s_two (xs (k + 1)) (xs (k + 2))) := hw
  obtain ⟨hP1, hK1, hD1⟩ := hB
  rw [ht] at hP1
  obtain ⟨hP, hD⟩ := va_join (wr := W0 x xa xb cI cZ (w_copy w (xs (k + 1)) (xs (k + 2))) (h_copy h (xs (k + 1)) (xs (k + 2)))) (w1 := W1 y ya yb eI eZ (w_copy w (xs (k + 1)) (xs (k + 2))) (h_copy h (xs (k + 1)) (xs (k + 2)))) hP hD [3, 4, 5] [0, 1, 2] rfl rfl (by decide) (by decide) hk1 hFc hP1 hD1
  have hP := hP.sub (ws' := W2 x xa xb y ya yb cI cZ eI eZ (w_copy w (xs (k + 1)) (xs (k + 2))) (h_copy h (xs (k + 1)) (xs (k + 2))) (w_copy w (xs (k + 1)) (xs (k + 2))) (h_copy h (xs (k + 1)) (xs (k + 2)))) [0, 1, 2, 3, 4, 5] rfl
  have hD := hD.sub (ws' := W2 x xa xb y ya yb cI cZ eI eZ (w_copy w (xs (k + 1)) (xs (k + 2))) (h_copy h (xs (k + 1)) (xs (k + 2))) (w_copy w (xs (k + 1)) (xs (k + 2))) (h_copy h (xs (k + 1)) (xs (k + 2)))) [0, 1, 2, 3, 4, 5] (by decide) rfl
  generalize H1 = H at hP hS ⊢
  refine lv_icmp_eq (tgt := 445) hx hb dL_law_212 (by decide) (fun _ => ?_) (fun c_212 => absurd rfl c_212)
  exact nx _ _ _ _ ls hP hD hS hl
set_option maxHeartbeats 4000000 in
set_option maxRecDepth 100000 in
theorem law_case3 {p : Program} {l : Launch} {e : Env} {s : State} {m : MethodId} {below : List Frame} {meth : Method} {c : Code} {dC : Nat → ClassId} {dI : Nat → Nat → Nat} {b L : Nat} {xs : Nat → Int32} (hL : L ≤ 257) (C0 : lw_At p s m meth c b L xs) {k x xa xb y ya yb : Nat} {cI cZ eI eZ : ClassId} (hk : k + 4 ≤ L) (hK : va_K (dC, dI) vwCl (T4 cI cZ eI eZ) s) (nx : LN p l e s m below meth c dC dI b x xa xb y ya yb cI cZ eI eZ k) (w : Nat → Int32) (h : Nat → Bool) (H : Heap) (locs : List Loc) (ls : Array Slot) (hP : va_P (dC, dI) vwCl (W2 x xa xb y ya yb cI cZ eI eZ w h w h) H) (hD : va_D (LA s) (W2 x xa xb y ya yb cI cZ eI eZ w h w h)) (hS : va_S (LA s) s.heap H locs) (hl : lv_has ls 4 [(0, .ref b), (1, .ref x), (2, .ref y), (3, .int (nI k))]) : W p l e room_1 s m #[Value.ref b] below meth c H locs 6 244 (lw_Z below #[Value.ref b] s) (F0 m 217 ls []) := by
  obtain ⟨hx, hb, hr, hml, hown, hts0, hX, hbl, hlocks, hgv⟩ := C0
  have hb : c.code = cL_law := hb
  have hown : s.vm.findClass RL = some m.cls := hown
  have hts : ∀ w ∈ wsL_law, w.before #[Value.ref b] s = true := fun w h => hts0 w (wsL_law_in w h)
  have hA : ∀ q : Nat, s.heap.size ≤ q → LA s q := fun _ h => h
  have hbA : ¬ LA s b := Nat.not_le.mpr hbl
  refine lv_aload_n hx hb dL_law_217 rfl (lv_at hl 1 rfl) ?_
  refine lv_aload_n hx hb dL_law_218 rfl (lv_at hl 0 rfl) ?_
  refine lv_iload_n hx hb dL_law_219 rfl (lv_at hl 3 rfl) ?_
  refine lv_iconst (v := (nI 1)) hx hb dL_law_220 (by decide +kernel) ?_
  refine my_add hx hb dL_law_221 ?_
  refine my_sld hx hb hX hbl hbA hS (show k + 1 < L by omega) (by omega) dL_law_222 ?_
  refine lv_aload_n hx hb dL_law_223 rfl (lv_at hl 0 rfl) ?_
  refine lv_iload_n hx hb dL_law_224 rfl (lv_at hl 3 rfl) ?_
  refine lv_iconst (v := (nI 2)) hx hb dL_law_225 (by decide +kernel) ?_
  refine my_add hx hb dL_law_226 ?_
  refine my_sld hx hb hX hbl hbA hS (show k + 2 < L by omega) (by omega) dL_law_227 ?_
  have hPc := hP.sub (ws' := W0 x xa xb cI cZ w h) [0, 1, 2] rfl
  have hKc := hK.sub (tys' := TY cI cZ) [0, 1] rfl
  have hDc := hD.sub (ws' := W0 x xa xb cI cZ w h) [0, 1, 2] (by decide) rfl
  have hFc := va_free (wc := W0 x xa xb cI cZ w h) hD hS hA [0, 1, 2] rfl
  refine va_calli (va_runV (As := [.int (xs (k + 1)), .int (xs (k + 2))]) (rest := []) ⟨hx, hb, hml, hown, hts⟩ (k0_swap l dC dI x xa xb cI cZ H.size w h (xs (k + 1)) (xs (k + 2))) (cwV 2 hts gL_law_X0_swap rfl rfl rfl (by decide +kernel) ⟨Nat.le_of_ble_eq_true rfl, Nat.le_of_ble_eq_true rfl⟩) ⟨bl_Q, va_recv hKc hPc (ci := 0) (q0 := 0) rfl rfl, fun U hU hW => ⟨rfl, by rw [hU], by rw [hU]; exact hPc, va_K.moved hW.alike hKc, hDc.weaken (fun _ _ _ _ => trivial)⟩⟩ rfl rfl hl.1 rfl (lv_room (Nat.le_of_ble_eq_true rfl)) dL_law_228 ⟨Nat.le_of_ble_eq_true rfl, Nat.le_of_ble_eq_true rfl⟩) hS (fun q _ h9 => hFc q h9) hFc (fun r_228 u t H1 locs ht hvm hw hB hz1 hk1 hS => ?_)
  obtain rfl : r_228 = (s_two (xs (k + 1)) (xs (k + 2))) := hw
  obtain ⟨hP1, hK1, hD1⟩ := hB
  rw [ht] at hP1
  obtain ⟨hP, hD⟩ := va_join (wr := W1 y ya yb eI eZ w h) (w1 := W0 x xa xb cI cZ (w_swap w (xs (k + 1)) (xs (k + 2))) (h_swap h (xs (k + 1)) (xs (k + 2)))) hP hD [0, 1, 2] [3, 4, 5] rfl rfl (by decide) (by decide) hk1 hFc hP1 hD1
  have hP := hP.sub (ws' := W2 x xa xb y ya yb cI cZ eI eZ (w_swap w (xs (k + 1)) (xs (k + 2))) (h_swap h (xs (k + 1)) (xs (k + 2))) w h) [3, 4, 5, 0, 1, 2] rfl
  have hD := hD.sub (ws' := W2 x xa xb y ya yb cI cZ eI eZ (w_swap w (xs (k + 1)) (xs (k + 2))) (h_swap h (xs (k + 1)) (xs (k + 2))) w h) [3, 4, 5, 0, 1, 2] (by decide) rfl
  generalize H1 = H at hP hS ⊢
  refine lv_aload_n hx hb dL_law_231 rfl (lv_at hl 2 rfl) ?_
  refine lv_aload_n hx hb dL_law_232 rfl (lv_at hl 0 rfl) ?_
  refine lv_iload_n hx hb dL_law_233 rfl (lv_at hl 3 rfl) ?_
  refine lv_iconst (v := (nI 1)) hx hb dL_law_234 (by decide +kernel) ?_
  refine my_add hx hb dL_law_235 ?_
  refine my_sld hx hb hX hbl hbA hS (show k + 1 < L by omega) (by omega) dL_law_236 ?_
  refine lv_aload_n hx hb dL_law_237 rfl (lv_at hl 0 rfl) ?_
  refine lv_iload_n hx hb dL_law_238 rfl (lv_at hl 3 rfl) ?_
  refine lv_iconst (v := (nI 2)) hx hb dL_law_239 (by decide +kernel) ?_
  refine my_add hx hb dL_law_240 ?_
  refine my_sld hx hb hX hbl hbA hS (show k + 2 < L by omega) (by omega) dL_law_241 ?_
  have hPc := hP.sub (ws' := W1 y ya yb eI eZ w h) [3, 4, 5] rfl
  have hKc := hK.sub (tys' := TY eI eZ) [2, 3] rfl
  have hDc := hD.sub (ws' := W1 y ya yb eI eZ w h) [3, 4, 5] (by decide) rfl
  have hFc := va_free (wc := W1 y ya yb eI eZ w h) hD hS hA [3, 4, 5] rfl
  refine va_calli (va_runV (As := [.int (xs (k + 1)), .int (xs (k + 2))]) (rest := [.int (s_two (xs (k + 1)) (xs (k + 2)))]) ⟨hx, hb, hml, hown, hts⟩ (k1_swap l dC dI y ya yb eI eZ H.size w h (xs (k + 1)) (xs (k + 2))) (cwV 2 hts gL_law_X1_swap rfl rfl rfl (by decide +kernel) ⟨Nat.le_of_ble_eq_true rfl, Nat.le_of_ble_eq_true rfl⟩) ⟨bl_Q, va_recv hKc hPc (ci := 1) (q0 := 0) rfl rfl, fun U hU hW => ⟨rfl, by rw [hU], by rw [hU]; exact hPc, va_K.moved hW.alike hKc, hDc.weaken (fun _ _ _ _ => trivial)⟩⟩ rfl rfl hl.1 rfl (lv_room (Nat.le_of_ble_eq_true rfl)) dL_law_242 ⟨Nat.le_of_ble_eq_true rfl, Nat.le_of_ble_eq_true rfl⟩) hS (fun q _ h9 => hFc q h9) hFc (fun r_242 u t H1 locs ht hvm hw hB hz1 hk1 hS => ?_)
  obtain rfl : r_242 = (s_two (xs (k + 1)) (xs (k + 2))) := hw
  obtain ⟨hP1, hK1, hD1⟩ := hB
  rw [ht] at hP1
  obtain ⟨hP, hD⟩ := va_join (wr := W0 x xa xb cI cZ (w_swap w (xs (k + 1)) (xs (k + 2))) (h_swap h (xs (k + 1)) (xs (k + 2)))) (w1 := W1 y ya yb eI eZ (w_swap w (xs (k + 1)) (xs (k + 2))) (h_swap h (xs (k + 1)) (xs (k + 2)))) hP hD [3, 4, 5] [0, 1, 2] rfl rfl (by decide) (by decide) hk1 hFc hP1 hD1
  have hP := hP.sub (ws' := W2 x xa xb y ya yb cI cZ eI eZ (w_swap w (xs (k + 1)) (xs (k + 2))) (h_swap h (xs (k + 1)) (xs (k + 2))) (w_swap w (xs (k + 1)) (xs (k + 2))) (h_swap h (xs (k + 1)) (xs (k + 2)))) [0, 1, 2, 3, 4, 5] rfl
  have hD := hD.sub (ws' := W2 x xa xb y ya yb cI cZ eI eZ (w_swap w (xs (k + 1)) (xs (k + 2))) (h_swap h (xs (k + 1)) (xs (k + 2))) (w_swap w (xs (k + 1)) (xs (k + 2))) (h_swap h (xs (k + 1)) (xs (k + 2)))) [0, 1, 2, 3, 4, 5] (by decide) rfl
  generalize H1 = H at hP hS ⊢
  refine lv_icmp_eq (tgt := 445) hx hb dL_law_245 (by decide) (fun _ => ?_) (fun c_245 => absurd rfl c_245)
  exact nx _ _ _ _ ls hP hD hS hl
set_option maxHeartbeats 4000000 in
set_option maxRecDepth 100000 in
theorem law_case4 {p : Program} {l : Launch} {e : Env} {s : State} {m : MethodId} {below : List Frame} {meth : Method} {c : Code} {dC : Nat → ClassId} {dI : Nat → Nat → Nat} {b L : Nat} {xs : Nat → Int32} (hL : L ≤ 257) (C0 : lw_At p s m meth c b L xs) {k x xa xb y ya yb : Nat} {cI cZ eI eZ : ClassId} (hk : k + 4 ≤ L) (hK : va_K (dC, dI) vwCl (T4 cI cZ eI eZ) s) (nx : LN p l e s m below meth c dC dI b x xa xb y ya yb cI cZ eI eZ k) (w : Nat → Int32) (h : Nat → Bool) (H : Heap) (locs : List Loc) (ls : Array Slot) (hP : va_P (dC, dI) vwCl (W2 x xa xb y ya yb cI cZ eI eZ w h w h) H) (hD : va_D (LA s) (W2 x xa xb y ya yb cI cZ eI eZ w h w h)) (hS : va_S (LA s) s.heap H locs) (hl : lv_has ls 4 [(0, .ref b), (1, .ref x), (2, .ref y), (3, .int (nI k))]) : W p l e room_1 s m #[Value.ref b] below meth c H locs 6 244 (lw_Z below #[Value.ref b] s) (F0 m 250 ls []) := by
  obtain ⟨hx, hb, hr, hml, hown, hts0, hX, hbl, hlocks, hgv⟩ := C0
  have hb : c.code = cL_law := hb
  have hown : s.vm.findClass RL = some m.cls := hown
  have hts : ∀ w ∈ wsL_law, w.before #[Value.ref b] s = true := fun w h => hts0 w (wsL_law_in w h)
  have hA : ∀ q : Nat, s.heap.size ≤ q → LA s q := fun _ h => h
  have hbA : ¬ LA s b := Nat.not_le.mpr hbl
  refine lv_aload_n hx hb dL_law_250 rfl (lv_at hl 1 rfl) ?_
  refine lv_aload_n hx hb dL_law_251 rfl (lv_at hl 0 rfl) ?_
  refine lv_iload_n hx hb dL_law_252 rfl (lv_at hl 3 rfl) ?_
  refine lv_iconst (v := (nI 1)) hx hb dL_law_253 (by decide +kernel) ?_
  refine my_add hx hb dL_law_254 ?_
  refine my_sld hx hb hX hbl hbA hS (show k + 1 < L by omega) (by omega) dL_law_255 ?_
  have hPc := hP.sub (ws' := W0 x xa xb cI cZ w h) [0, 1, 2] rfl
  have hKc := hK.sub (tys' := TY cI cZ) [0, 1] rfl
  have hDc := hD.sub (ws' := W0 x xa xb cI cZ w h) [0, 1, 2] (by decide) rfl
  have hFc := va_free (wc := W0 x xa xb cI cZ w h) hD hS hA [0, 1, 2] rfl
  refine va_calli (va_runV (As := [.int (xs (k + 1))]) (rest := []) ⟨hx, hb, hml, hown, hts⟩ (k0_release l dC dI x xa xb cI cZ H.size w h (xs (k + 1))) (cwV 1 hts gL_law_X0_release rfl rfl rfl (by decide +kernel) ⟨Nat.le_of_ble_eq_true rfl, Nat.le_of_ble_eq_true rfl⟩) ⟨bl_Q, va_recv hKc hPc (ci := 0) (q0 := 0) rfl rfl, fun U hU hW => ⟨rfl, by rw [hU], by rw [hU]; exact hPc, va_K.moved hW.alike hKc, hDc.weaken (fun _ _ _ _ => trivial)⟩⟩ rfl rfl hl.1 rfl (lv_room (Nat.le_of_ble_eq_true rfl)) dL_law_256 ⟨Nat.le_of_ble_eq_true rfl, Nat.le_of_ble_eq_true rfl⟩) hS (fun q _ h9 => hFc q h9) hFc (fun r_256 u t H1 locs ht hvm hw hB hz1 hk1 hS => ?_)
  obtain rfl : r_256 = (s_rel h (xs (k + 1))) := hw
  obtain ⟨hP1, hK1, hD1⟩ := hB
  rw [ht] at hP1
  obtain ⟨hP, hD⟩ := va_join (wr := W1 y ya yb eI eZ w h) (w1 := W0 x xa xb cI cZ (w_rel w h (xs (k + 1))) (h_rel h (xs (k + 1)))) hP hD [0, 1, 2] [3, 4, 5] rfl rfl (by decide) (by decide) hk1 hFc hP1 hD1
  have hP := hP.sub (ws' := W2 x xa xb y ya yb cI cZ eI eZ (w_rel w h (xs (k + 1))) (h_rel h (xs (k + 1))) w h) [3, 4, 5, 0, 1, 2] rfl
  have hD := hD.sub (ws' := W2 x xa xb y ya yb cI cZ eI eZ (w_rel w h (xs (k + 1))) (h_rel h (xs (k + 1))) w h) [3, 4, 5, 0, 1, 2] (by decide) rfl
  generalize H1 = H at hP hS ⊢
  refine lv_aload_n hx hb dL_law_259 rfl (lv_at hl 2 rfl) ?_
  refine lv_aload_n hx hb dL_law_260 rfl (lv_at hl 0 rfl) ?_
  refine lv_iload_n hx hb dL_law_261 rfl (lv_at hl 3 rfl) ?_
  refine lv_iconst (v := (nI 1)) hx hb dL_law_262 (by decide +kernel) ?_
  refine my_add hx hb dL_law_263 ?_
  refine my_sld hx hb hX hbl hbA hS (show k + 1 < L by omega) (by omega) dL_law_264 ?_
  have hPc := hP.sub (ws' := W1 y ya yb eI eZ w h) [3, 4, 5] rfl
  have hKc := hK.sub (tys' := TY eI eZ) [2, 3] rfl
  have hDc := hD.sub (ws' := W1 y ya yb eI eZ w h) [3, 4, 5] (by decide) rfl
  have hFc := va_free (wc := W1 y ya yb eI eZ w h) hD hS hA [3, 4, 5] rfl
  refine va_calli (va_runV (As := [.int (xs (k + 1))]) (rest := [.int (s_rel h (xs (k + 1)))]) ⟨hx, hb, hml, hown, hts⟩ (k1_release l dC dI y ya yb eI eZ H.size w h (xs (k + 1))) (cwV 1 hts gL_law_X1_release rfl rfl rfl (by decide +kernel) ⟨Nat.le_of_ble_eq_true rfl, Nat.le_of_ble_eq_true rfl⟩) ⟨bl_Q, va_recv hKc hPc (ci := 1) (q0 := 0) rfl rfl, fun U hU hW => ⟨rfl, by rw [hU], by rw [hU]; exact hPc, va_K.moved hW.alike hKc, hDc.weaken (fun _ _ _ _ => trivial)⟩⟩ rfl rfl hl.1 rfl (lv_room (Nat.le_of_ble_eq_true rfl)) dL_law_265 ⟨Nat.le_of_ble_eq_true rfl, Nat.le_of_ble_eq_true rfl⟩) hS (fun q _ h9 => hFc q h9) hFc (fun r_265 u t H1 locs ht hvm hw hB hz1 hk1 hS => ?_)
  obtain rfl : r_265 = (s_rel h (xs (k + 1))) := hw
  obtain ⟨hP1, hK1, hD1⟩ := hB
  rw [ht] at hP1
  obtain ⟨hP, hD⟩ := va_join (wr := W0 x xa xb cI cZ (w_rel w h (xs (k + 1))) (h_rel h (xs (k + 1)))) (w1 := W1 y ya yb eI eZ (w_rel w h (xs (k + 1))) (h_rel h (xs (k + 1)))) hP hD [3, 4, 5] [0, 1, 2] rfl rfl (by decide) (by decide) hk1 hFc hP1 hD1
  have hP := hP.sub (ws' := W2 x xa xb y ya yb cI cZ eI eZ (w_rel w h (xs (k + 1))) (h_rel h (xs (k + 1))) (w_rel w h (xs (k + 1))) (h_rel h (xs (k + 1)))) [0, 1, 2, 3, 4, 5] rfl
  have hD := hD.sub (ws' := W2 x xa xb y ya yb cI cZ eI eZ (w_rel w h (xs (k + 1))) (h_rel h (xs (k + 1))) (w_rel w h (xs (k + 1))) (h_rel h (xs (k + 1)))) [0, 1, 2, 3, 4, 5] (by decide) rfl
  generalize H1 = H at hP hS ⊢
  refine lv_icmp_eq (tgt := 445) hx hb dL_law_268 (by decide) (fun _ => ?_) (fun c_268 => absurd rfl c_268)
  exact nx _ _ _ _ ls hP hD hS hl
set_option maxHeartbeats 4000000 in
set_option maxRecDepth 100000 in
theorem law_case5 {p : Program} {l : Launch} {e : Env} {s : State} {m : MethodId} {below : List Frame} {meth : Method} {c : Code} {dC : Nat → ClassId} {dI : Nat → Nat → Nat} {b L : Nat} {xs : Nat → Int32} (hL : L ≤ 257) (C0 : lw_At p s m meth c b L xs) {k x xa xb y ya yb : Nat} {cI cZ eI eZ : ClassId} (hk : k + 4 ≤ L) (hK : va_K (dC, dI) vwCl (T4 cI cZ eI eZ) s) (nx : LN p l e s m below meth c dC dI b x xa xb y ya yb cI cZ eI eZ k) (w : Nat → Int32) (h : Nat → Bool) (H : Heap) (locs : List Loc) (ls : Array Slot) (hP : va_P (dC, dI) vwCl (W2 x xa xb y ya yb cI cZ eI eZ w h w h) H) (hD : va_D (LA s) (W2 x xa xb y ya yb cI cZ eI eZ w h w h)) (hS : va_S (LA s) s.heap H locs) (hl : lv_has ls 4 [(0, .ref b), (1, .ref x), (2, .ref y), (3, .int (nI k))]) : W p l e room_1 s m #[Value.ref b] below meth c H locs 6 244 (lw_Z below #[Value.ref b] s) (F0 m 273 ls []) := by
  obtain ⟨hx, hb, hr, hml, hown, hts0, hX, hbl, hlocks, hgv⟩ := C0
  have hb : c.code = cL_law := hb
  have hown : s.vm.findClass RL = some m.cls := hown
  have hts : ∀ w ∈ wsL_law, w.before #[Value.ref b] s = true := fun w h => hts0 w (wsL_law_in w h)
  have hA : ∀ q : Nat, s.heap.size ≤ q → LA s q := fun _ h => h
  have hbA : ¬ LA s b := Nat.not_le.mpr hbl
  refine lv_aload_n hx hb dL_law_273 rfl (lv_at hl 1 rfl) ?_
  refine lv_aload_n hx hb dL_law_274 rfl (lv_at hl 0 rfl) ?_
  refine lv_iload_n hx hb dL_law_275 rfl (lv_at hl 3 rfl) ?_
  refine lv_iconst (v := (nI 1)) hx hb dL_law_276 (by decide +kernel) ?_
  refine my_add hx hb dL_law_277 ?_
  refine my_sld hx hb hX hbl hbA hS (show k + 1 < L by omega) (by omega) dL_law_278 ?_
  have hPc := hP.sub (ws' := W0 x xa xb cI cZ w h) [0, 1, 2] rfl
  have hKc := hK.sub (tys' := TY cI cZ) [0, 1] rfl
  refine va_csv (va_Run.run (va_runV (As := [.int (xs (k + 1))]) (rest := []) ⟨hx, hb, hml, hown, hts⟩ (k0_scan l x (xs (k + 1))) (cwV 1 hts gL_law_X0_scan rfl rfl rfl (by decide +kernel) ⟨Nat.le_of_ble_eq_true rfl, Nat.le_of_ble_eq_true rfl⟩) ⟨bl_T, va_recv hKc hPc (ci := 0) (q0 := 0) rfl rfl, fun U hU hW => ⟨rfl, trivial⟩⟩ rfl rfl hl.1 rfl (lv_room (Nat.le_of_ble_eq_true rfl)) dL_law_279 ⟨Nat.le_of_ble_eq_true rfl, Nat.le_of_ble_eq_true rfl⟩)) (fun _ => ?_)
  refine lv_aload_n hx hb dL_law_282 rfl (lv_at hl 2 rfl) ?_
  refine lv_aload_n hx hb dL_law_283 rfl (lv_at hl 0 rfl) ?_
  refine lv_iload_n hx hb dL_law_284 rfl (lv_at hl 3 rfl) ?_
  refine lv_iconst (v := (nI 1)) hx hb dL_law_285 (by decide +kernel) ?_
  refine my_add hx hb dL_law_286 ?_
  refine my_sld hx hb hX hbl hbA hS (show k + 1 < L by omega) (by omega) dL_law_287 ?_
  have hPc := hP.sub (ws' := W1 y ya yb eI eZ w h) [3, 4, 5] rfl
  have hKc := hK.sub (tys' := TY eI eZ) [2, 3] rfl
  refine va_csv (va_Run.run (va_runV (As := [.int (xs (k + 1))]) (rest := []) ⟨hx, hb, hml, hown, hts⟩ (k1_scan l y (xs (k + 1))) (cwV 1 hts gL_law_X1_scan rfl rfl rfl (by decide +kernel) ⟨Nat.le_of_ble_eq_true rfl, Nat.le_of_ble_eq_true rfl⟩) ⟨bl_T, va_recv hKc hPc (ci := 1) (q0 := 0) rfl rfl, fun U hU hW => ⟨rfl, trivial⟩⟩ rfl rfl hl.1 rfl (lv_room (Nat.le_of_ble_eq_true rfl)) dL_law_288 ⟨Nat.le_of_ble_eq_true rfl, Nat.le_of_ble_eq_true rfl⟩)) (fun _ => ?_)
  refine lv_goto (tgt := 445) hx hb dL_law_291 (by decide) ?_
  exact nx _ _ _ _ ls hP hD hS hl
set_option maxHeartbeats 4000000 in
set_option maxRecDepth 100000 in
theorem law_case6 {p : Program} {l : Launch} {e : Env} {s : State} {m : MethodId} {below : List Frame} {meth : Method} {c : Code} {dC : Nat → ClassId} {dI : Nat → Nat → Nat} {b L : Nat} {xs : Nat → Int32} (hL : L ≤ 257) (C0 : lw_At p s m meth c b L xs) {k x xa xb y ya yb : Nat} {cI cZ eI eZ : ClassId} (hk : k + 4 ≤ L) (hK : va_K (dC, dI) vwCl (T4 cI cZ eI eZ) s) (nx : LN p l e s m below meth c dC dI b x xa xb y ya yb cI cZ eI eZ k) (w : Nat → Int32) (h : Nat → Bool) (H : Heap) (locs : List Loc) (ls : Array Slot) (hP : va_P (dC, dI) vwCl (W2 x xa xb y ya yb cI cZ eI eZ w h w h) H) (hD : va_D (LA s) (W2 x xa xb y ya yb cI cZ eI eZ w h w h)) (hS : va_S (LA s) s.heap H locs) (hl : lv_has ls 4 [(0, .ref b), (1, .ref x), (2, .ref y), (3, .int (nI k))]) : W p l e room_1 s m #[Value.ref b] below meth c H locs 6 244 (lw_Z below #[Value.ref b] s) (F0 m 294 ls []) := by
  obtain ⟨hx, hb, hr, hml, hown, hts0, hX, hbl, hlocks, hgv⟩ := C0
  have hb : c.code = cL_law := hb
  have hown : s.vm.findClass RL = some m.cls := hown
  have hts : ∀ w ∈ wsL_law, w.before #[Value.ref b] s = true := fun w h => hts0 w (wsL_law_in w h)
  have hA : ∀ q : Nat, s.heap.size ≤ q → LA s q := fun _ h => h
  have hbA : ¬ LA s b := Nat.not_le.mpr hbl
  refine lv_aload_n hx hb dL_law_294 rfl (lv_at hl 1 rfl) ?_
  refine lv_aload_n hx hb dL_law_295 rfl (lv_at hl 0 rfl) ?_
  refine lv_iload_n hx hb dL_law_296 rfl (lv_at hl 3 rfl) ?_
  refine lv_iconst (v := (nI 1)) hx hb dL_law_297 (by decide +kernel) ?_
  refine my_add hx hb dL_law_298 ?_
  refine my_sld hx hb hX hbl hbA hS (show k + 1 < L by omega) (by omega) dL_law_299 ?_
  refine lv_aload_n hx hb dL_law_300 rfl (lv_at hl 0 rfl) ?_
  refine lv_iload_n hx hb dL_law_301 rfl (lv_at hl 3 rfl) ?_
  refine lv_iconst (v := (nI 2)) hx hb dL_law_302 (by decide +kernel) ?_
  refine my_add hx hb dL_law_303 ?_
  refine my_sld hx hb hX hbl hbA hS (show k + 2 < L by omega) (by omega) dL_law_304 ?_
  have hPc := hP.sub (ws' := W0 x xa xb cI cZ w h) [0, 1, 2] rfl
  have hKc := hK.sub (tys' := TY cI cZ) [0, 1] rfl
  refine vp_callSi (va_Run.run (va_runV (As := [.int (xs (k + 1)), .int (xs (k + 2))]) (rest := []) ⟨hx, hb, hml, hown, hts⟩ (k0_read l dC dI x xa xb cI cZ w h (xs (k + 1)) (xs (k + 2))) (cwV 2 hts gL_law_X0_read rfl rfl rfl (by decide +kernel) ⟨Nat.le_of_ble_eq_true rfl, Nat.le_of_ble_eq_true rfl⟩) ⟨bl_P, va_recv hKc hPc (ci := 0) (q0 := 0) rfl rfl, fun U hU hW => ⟨rfl, by rw [hU]; exact hPc, va_K.moved hW.alike hKc⟩⟩ rfl rfl hl.1 rfl (lv_room (Nat.le_of_ble_eq_true rfl)) dL_law_305 ⟨Nat.le_of_ble_eq_true rfl, Nat.le_of_ble_eq_true rfl⟩)) (fun r_305 hr_305 => ?_)
  obtain rfl : r_305 = (s_read w (xs (k + 1)) (xs (k + 2))) := hr_305
  refine lv_aload_n hx hb dL_law_308 rfl (lv_at hl 2 rfl) ?_
  refine lv_aload_n hx hb dL_law_309 rfl (lv_at hl 0 rfl) ?_
  refine lv_iload_n hx hb dL_law_310 rfl (lv_at hl 3 rfl) ?_
  refine lv_iconst (v := (nI 1)) hx hb dL_law_311 (by decide +kernel) ?_
  refine my_add hx hb dL_law_312 ?_
  refine my_sld hx hb hX hbl hbA hS (show k + 1 < L by omega) (by omega) dL_law_313 ?_
  refine lv_aload_n hx hb dL_law_314 rfl (lv_at hl 0 rfl) ?_
  refine lv_iload_n hx hb dL_law_315 rfl (lv_at hl 3 rfl) ?_
  refine lv_iconst (v := (nI 2)) hx hb dL_law_316 (by decide +kernel) ?_
  refine my_add hx hb dL_law_317 ?_
  refine my_sld hx hb hX hbl hbA hS (show k + 2 < L by omega) (by omega) dL_law_318 ?_
  have hPc := hP.sub (ws' := W1 y ya yb eI eZ w h) [3, 4, 5] rfl
  have hKc := hK.sub (tys' := TY eI eZ) [2, 3] rfl
  refine vp_callSi (va_Run.run (va_runV (As := [.int (xs (k + 1)), .int (xs (k + 2))]) (rest := [.int (s_read w (xs (k + 1)) (xs (k + 2)))]) ⟨hx, hb, hml, hown, hts⟩ (k1_read l dC dI y ya yb eI eZ w h (xs (k + 1)) (xs (k + 2))) (cwV 2 hts gL_law_X1_read rfl rfl rfl (by decide +kernel) ⟨Nat.le_of_ble_eq_true rfl, Nat.le_of_ble_eq_true rfl⟩) ⟨bl_P, va_recv hKc hPc (ci := 1) (q0 := 0) rfl rfl, fun U hU hW => ⟨rfl, by rw [hU]; exact hPc, va_K.moved hW.alike hKc⟩⟩ rfl rfl hl.1 rfl (lv_room (Nat.le_of_ble_eq_true rfl)) dL_law_319 ⟨Nat.le_of_ble_eq_true rfl, Nat.le_of_ble_eq_true rfl⟩)) (fun r_319 hr_319 => ?_)
  obtain rfl : r_319 = (s_read w (xs (k + 1)) (xs (k + 2))) := hr_319
  refine lv_icmp_eq (tgt := 445) hx hb dL_law_322 (by decide) (fun _ => ?_) (fun c_322 => absurd rfl c_322)
  exact nx _ _ _ _ ls hP hD hS hl
set_option maxHeartbeats 4000000 in
set_option maxRecDepth 100000 in
theorem law_case7 {p : Program} {l : Launch} {e : Env} {s : State} {m : MethodId} {below : List Frame} {meth : Method} {c : Code} {dC : Nat → ClassId} {dI : Nat → Nat → Nat} {b L : Nat} {xs : Nat → Int32} (hL : L ≤ 257) (C0 : lw_At p s m meth c b L xs) {k x xa xb y ya yb : Nat} {cI cZ eI eZ : ClassId} (hk : k + 4 ≤ L) (hK : va_K (dC, dI) vwCl (T4 cI cZ eI eZ) s) (nx : LN p l e s m below meth c dC dI b x xa xb y ya yb cI cZ eI eZ k) (w : Nat → Int32) (h : Nat → Bool) (H : Heap) (locs : List Loc) (ls : Array Slot) (hP : va_P (dC, dI) vwCl (W2 x xa xb y ya yb cI cZ eI eZ w h w h) H) (hD : va_D (LA s) (W2 x xa xb y ya yb cI cZ eI eZ w h w h)) (hS : va_S (LA s) s.heap H locs) (hl : lv_has ls 4 [(0, .ref b), (1, .ref x), (2, .ref y), (3, .int (nI k))]) : W p l e room_1 s m #[Value.ref b] below meth c H locs 6 244 (lw_Z below #[Value.ref b] s) (F0 m 327 ls []) := by
  obtain ⟨hx, hb, hr, hml, hown, hts0, hX, hbl, hlocks, hgv⟩ := C0
  have hb : c.code = cL_law := hb
  have hown : s.vm.findClass RL = some m.cls := hown
  have hts : ∀ w ∈ wsL_law, w.before #[Value.ref b] s = true := fun w h => hts0 w (wsL_law_in w h)
  have hA : ∀ q : Nat, s.heap.size ≤ q → LA s q := fun _ h => h
  have hbA : ¬ LA s b := Nat.not_le.mpr hbl
  refine lv_aload_n hx hb dL_law_327 rfl (lv_at hl 1 rfl) ?_
  refine lv_aload_n hx hb dL_law_328 rfl (lv_at hl 0 rfl) ?_
  refine lv_iload_n hx hb dL_law_329 rfl (lv_at hl 3 rfl) ?_
  refine lv_iconst (v := (nI 1)) hx hb dL_law_330 (by decide +kernel) ?_
  refine my_add hx hb dL_law_331 ?_
  refine my_sld hx hb hX hbl hbA hS (show k + 1 < L by omega) (by omega) dL_law_332 ?_
  have hPc := hP.sub (ws' := W0 x xa xb cI cZ w h) [0, 1, 2] rfl
  have hKc := hK.sub (tys' := TY cI cZ) [0, 1] rfl
  refine vp_callSi (va_Run.run (va_runV (As := [.int (xs (k + 1))]) (rest := []) ⟨hx, hb, hml, hown, hts⟩ (k0_held l dC dI x xa xb cI cZ w h (xs (k + 1))) (cwV 1 hts gL_law_X0_held rfl rfl rfl (by decide +kernel) ⟨Nat.le_of_ble_eq_true rfl, Nat.le_of_ble_eq_true rfl⟩) ⟨bl_P, va_recv hKc hPc (ci := 0) (q0 := 0) rfl rfl, fun U hU hW => ⟨rfl, by rw [hU]; exact hPc, va_K.moved hW.alike hKc⟩⟩ rfl rfl hl.1 rfl (lv_room (Nat.le_of_ble_eq_true rfl)) dL_law_333 ⟨Nat.le_of_ble_eq_true rfl, Nat.le_of_ble_eq_true rfl⟩)) (fun r_333 hr_333 => ?_)
  obtain rfl : r_333 = (bI (b_held h (xs (k + 1)))) := hr_333
  refine lv_aload_n hx hb dL_law_336 rfl (lv_at hl 2 rfl) ?_
  refine lv_aload_n hx hb dL_law_337 rfl (lv_at hl 0 rfl) ?_
  refine lv_iload_n hx hb dL_law_338 rfl (lv_at hl 3 rfl) ?_
  refine lv_iconst (v := (nI 1)) hx hb dL_law_339 (by decide +kernel) ?_
  refine my_add hx hb dL_law_340 ?_
  refine my_sld hx hb hX hbl hbA hS (show k + 1 < L by omega) (by omega) dL_law_341 ?_
  have hPc := hP.sub (ws' := W1 y ya yb eI eZ w h) [3, 4, 5] rfl
  have hKc := hK.sub (tys' := TY eI eZ) [2, 3] rfl
  refine vp_callSi (va_Run.run (va_runV (As := [.int (xs (k + 1))]) (rest := [.int (bI (b_held h (xs (k + 1))))]) ⟨hx, hb, hml, hown, hts⟩ (k1_held l dC dI y ya yb eI eZ w h (xs (k + 1))) (cwV 1 hts gL_law_X1_held rfl rfl rfl (by decide +kernel) ⟨Nat.le_of_ble_eq_true rfl, Nat.le_of_ble_eq_true rfl⟩) ⟨bl_P, va_recv hKc hPc (ci := 1) (q0 := 0) rfl rfl, fun U hU hW => ⟨rfl, by rw [hU]; exact hPc, va_K.moved hW.alike hKc⟩⟩ rfl rfl hl.1 rfl (lv_room (Nat.le_of_ble_eq_true rfl)) dL_law_342 ⟨Nat.le_of_ble_eq_true rfl, Nat.le_of_ble_eq_true rfl⟩)) (fun r_342 hr_342 => ?_)
  obtain rfl : r_342 = (bI (b_held h (xs (k + 1)))) := hr_342
  refine lv_icmp_eq (tgt := 445) hx hb dL_law_345 (by decide) (fun _ => ?_) (fun c_345 => absurd rfl c_345)
  exact nx _ _ _ _ ls hP hD hS hl
set_option maxHeartbeats 4000000 in
set_option maxRecDepth 100000 in
theorem law_case8 {p : Program} {l : Launch} {e : Env} {s : State} {m : MethodId} {below : List Frame} {meth : Method} {c : Code} {dC : Nat → ClassId} {dI : Nat → Nat → Nat} {b L : Nat} {xs : Nat → Int32} (hL : L ≤ 257) (C0 : lw_At p s m meth c b L xs) {k x xa xb y ya yb : Nat} {cI cZ eI eZ : ClassId} (hk : k + 4 ≤ L) (hK : va_K (dC, dI) vwCl (T4 cI cZ eI eZ) s) (nx : LN p l e s m below meth c dC dI b x xa xb y ya yb cI cZ eI eZ k) (w : Nat → Int32) (h : Nat → Bool) (H : Heap) (locs : List Loc) (ls : Array Slot) (hP : va_P (dC, dI) vwCl (W2 x xa xb y ya yb cI cZ eI eZ w h w h) H) (hD : va_D (LA s) (W2 x xa xb y ya yb cI cZ eI eZ w h w h)) (hS : va_S (LA s) s.heap H locs) (hl : lv_has ls 4 [(0, .ref b), (1, .ref x), (2, .ref y), (3, .int (nI k))]) : W p l e room_1 s m #[Value.ref b] below meth c H locs 6 244 (lw_Z below #[Value.ref b] s) (F0 m 350 ls []) := by
  obtain ⟨hx, hb, hr, hml, hown, hts0, hX, hbl, hlocks, hgv⟩ := C0
  have hb : c.code = cL_law := hb
  have hown : s.vm.findClass RL = some m.cls := hown
  have hts : ∀ w ∈ wsL_law, w.before #[Value.ref b] s = true := fun w h => hts0 w (wsL_law_in w h)
  have hA : ∀ q : Nat, s.heap.size ≤ q → LA s q := fun _ h => h
  have hbA : ¬ LA s b := Nat.not_le.mpr hbl
  refine lv_aload_n hx hb dL_law_350 rfl (lv_at hl 1 rfl) ?_
  refine lv_aload_n hx hb dL_law_351 rfl (lv_at hl 0 rfl) ?_
  refine lv_iload_n hx hb dL_law_352 rfl (lv_at hl 3 rfl) ?_
  refine lv_iconst (v := (nI 1)) hx hb dL_law_353 (by decide +kernel) ?_
  refine my_add hx hb dL_law_354 ?_
  refine my_sld hx hb hX hbl hbA hS (show k + 1 < L by omega) (by omega) dL_law_355 ?_
  refine lv_aload_n hx hb dL_law_356 rfl (lv_at hl 0 rfl) ?_
  refine lv_iload_n hx hb dL_law_357 rfl (lv_at hl 3 rfl) ?_
  refine lv_iconst (v := (nI 2)) hx hb dL_law_358 (by decide +kernel) ?_
  refine my_add hx hb dL_law_359 ?_
  refine my_sld hx hb hX hbl hbA hS (show k + 2 < L by omega) (by omega) dL_law_360 ?_
  have hPc := hP.sub (ws' := W0 x xa xb cI cZ w h) [0, 1, 2] rfl
  have hKc := hK.sub (tys' := TY cI cZ) [0, 1] rfl
  refine vp_callSi (va_Run.run (va_runV (As := [.int (xs (k + 1)), .int (xs (k + 2))]) (rest := []) ⟨hx, hb, hml, hown, hts⟩ (k0_same l dC dI x xa xb cI cZ w h (xs (k + 1)) (xs (k + 2))) (cwV 2 hts gL_law_X0_same rfl rfl rfl (by decide +kernel) ⟨Nat.le_of_ble_eq_true rfl, Nat.le_of_ble_eq_true rfl⟩) ⟨bl_P, va_recv hKc hPc (ci := 0) (q0 := 0) rfl rfl, fun U hU hW => ⟨rfl, by rw [hU]; exact hPc, va_K.moved hW.alike hKc⟩⟩ rfl rfl hl.1 rfl (lv_room (Nat.le_of_ble_eq_true rfl)) dL_law_361 ⟨Nat.le_of_ble_eq_true rfl, Nat.le_of_ble_eq_true rfl⟩)) (fun r_361 hr_361 => ?_)
  obtain rfl : r_361 = (bI (b_same w (xs (k + 1)) (xs (k + 2)))) := hr_361
  refine lv_aload_n hx hb dL_law_364 rfl (lv_at hl 2 rfl) ?_
  refine lv_aload_n hx hb dL_law_365 rfl (lv_at hl 0 rfl) ?_
  refine lv_iload_n hx hb dL_law_366 rfl (lv_at hl 3 rfl) ?_
  refine lv_iconst (v := (nI 1)) hx hb dL_law_367 (by decide +kernel) ?_
  refine my_add hx hb dL_law_368 ?_
  refine my_sld hx hb hX hbl hbA hS (show k + 1 < L by omega) (by omega) dL_law_369 ?_
  refine lv_aload_n hx hb dL_law_370 rfl (lv_at hl 0 rfl) ?_
  refine lv_iload_n hx hb dL_law_371 rfl (lv_at hl 3 rfl) ?_
  refine lv_iconst (v := (nI 2)) hx hb dL_law_372 (by decide +kernel) ?_
  refine my_add hx hb dL_law_373 ?_
  refine my_sld hx hb hX hbl hbA hS (show k + 2 < L by omega) (by omega) dL_law_374 ?_
  have hPc := hP.sub (ws' := W1 y ya yb eI eZ w h) [3, 4, 5] rfl
  have hKc := hK.sub (tys' := TY eI eZ) [2, 3] rfl
  refine vp_callSi (va_Run.run (va_runV (As := [.int (xs (k + 1)), .int (xs (k + 2))]) (rest := [.int (bI (b_same w (xs (k + 1)) (xs (k + 2))))]) ⟨hx, hb, hml, hown, hts⟩ (k1_same l dC dI y ya yb eI eZ w h (xs (k + 1)) (xs (k + 2))) (cwV 2 hts gL_law_X1_same rfl rfl rfl (by decide +kernel) ⟨Nat.le_of_ble_eq_true rfl, Nat.le_of_ble_eq_true rfl⟩) ⟨bl_P, va_recv hKc hPc (ci := 1) (q0 := 0) rfl rfl, fun U hU hW => ⟨rfl, by rw [hU]; exact hPc, va_K.moved hW.alike hKc⟩⟩ rfl rfl hl.1 rfl (lv_room (Nat.le_of_ble_eq_true rfl)) dL_law_375 ⟨Nat.le_of_ble_eq_true rfl, Nat.le_of_ble_eq_true rfl⟩)) (fun r_375 hr_375 => ?_)
  obtain rfl : r_375 = (bI (b_same w (xs (k + 1)) (xs (k + 2)))) := hr_375
  refine lv_icmp_eq (tgt := 445) hx hb dL_law_378 (by decide) (fun _ => ?_) (fun c_378 => absurd rfl c_378)
  exact nx _ _ _ _ ls hP hD hS hl
set_option maxHeartbeats 4000000 in
set_option maxRecDepth 100000 in
theorem law_case9 {p : Program} {l : Launch} {e : Env} {s : State} {m : MethodId} {below : List Frame} {meth : Method} {c : Code} {dC : Nat → ClassId} {dI : Nat → Nat → Nat} {b L : Nat} {xs : Nat → Int32} (hL : L ≤ 257) (C0 : lw_At p s m meth c b L xs) {k x xa xb y ya yb : Nat} {cI cZ eI eZ : ClassId} (hk : k + 4 ≤ L) (hK : va_K (dC, dI) vwCl (T4 cI cZ eI eZ) s) (nx : LN p l e s m below meth c dC dI b x xa xb y ya yb cI cZ eI eZ k) (w : Nat → Int32) (h : Nat → Bool) (H : Heap) (locs : List Loc) (ls : Array Slot) (hP : va_P (dC, dI) vwCl (W2 x xa xb y ya yb cI cZ eI eZ w h w h) H) (hD : va_D (LA s) (W2 x xa xb y ya yb cI cZ eI eZ w h w h)) (hS : va_S (LA s) s.heap H locs) (hl : lv_has ls 4 [(0, .ref b), (1, .ref x), (2, .ref y), (3, .int (nI k))]) : W p l e room_1 s m #[Value.ref b] below meth c H locs 6 244 (lw_Z below #[Value.ref b] s) (F0 m 383 ls []) := by
  obtain ⟨hx, hb, hr, hml, hown, hts0, hX, hbl, hlocks, hgv⟩ := C0
  have hb : c.code = cL_law := hb
  have hown : s.vm.findClass RL = some m.cls := hown
  have hts : ∀ w ∈ wsL_law, w.before #[Value.ref b] s = true := fun w h => hts0 w (wsL_law_in w h)
  have hA : ∀ q : Nat, s.heap.size ≤ q → LA s q := fun _ h => h
  have hbA : ¬ LA s b := Nat.not_le.mpr hbl
  refine lv_aload_n hx hb dL_law_383 rfl (lv_at hl 1 rfl) ?_
  have hPc := hP.sub (ws' := W0 x xa xb cI cZ w h) [0, 1, 2] rfl
  have hKc := hK.sub (tys' := TY cI cZ) [0, 1] rfl
  refine vp_callSi (va_Run.run (va_runV (As := []) (rest := []) ⟨hx, hb, hml, hown, hts⟩ (k0_contents l dC dI x xa xb cI cZ w h) (cwV 0 hts gL_law_X0_contents rfl rfl rfl (by decide +kernel) ⟨Nat.le_of_ble_eq_true rfl, Nat.le_of_ble_eq_true rfl⟩) ⟨bl_P, va_recv hKc hPc (ci := 0) (q0 := 0) rfl rfl, fun U hU hW => ⟨rfl, by rw [hU]; exact hPc, va_K.moved hW.alike hKc⟩⟩ rfl rfl hl.1 rfl (lv_room (Nat.le_of_ble_eq_true rfl)) dL_law_384 ⟨Nat.le_of_ble_eq_true rfl, Nat.le_of_ble_eq_true rfl⟩)) (fun r_384 hr_384 => ?_)
  obtain rfl : r_384 = (cnt (f_con w h) 24) := hr_384
  refine lv_aload_n hx hb dL_law_387 rfl (lv_at hl 2 rfl) ?_
  have hPc := hP.sub (ws' := W1 y ya yb eI eZ w h) [3, 4, 5] rfl
  have hKc := hK.sub (tys' := TY eI eZ) [2, 3] rfl
  refine vp_callSi (va_Run.run (va_runV (As := []) (rest := [.int (cnt (f_con w h) 24)]) ⟨hx, hb, hml, hown, hts⟩ (k1_contents l dC dI y ya yb eI eZ w h) (cwV 0 hts gL_law_X1_contents rfl rfl rfl (by decide +kernel) ⟨Nat.le_of_ble_eq_true rfl, Nat.le_of_ble_eq_true rfl⟩) ⟨bl_P, va_recv hKc hPc (ci := 1) (q0 := 0) rfl rfl, fun U hU hW => ⟨rfl, by rw [hU]; exact hPc, va_K.moved hW.alike hKc⟩⟩ rfl rfl hl.1 rfl (lv_room (Nat.le_of_ble_eq_true rfl)) dL_law_388 ⟨Nat.le_of_ble_eq_true rfl, Nat.le_of_ble_eq_true rfl⟩)) (fun r_388 hr_388 => ?_)
  obtain rfl : r_388 = (cnt (f_con w h) 24) := hr_388
  refine lv_icmp_eq (tgt := 445) hx hb dL_law_391 (by decide) (fun _ => ?_) (fun c_391 => absurd rfl c_391)
  exact nx _ _ _ _ ls hP hD hS hl
set_option maxHeartbeats 4000000 in
set_option maxRecDepth 100000 in
theorem law_case10 {p : Program} {l : Launch} {e : Env} {s : State} {m : MethodId} {below : List Frame} {meth : Method} {c : Code} {dC : Nat → ClassId} {dI : Nat → Nat → Nat} {b L : Nat} {xs : Nat → Int32} (hL : L ≤ 257) (C0 : lw_At p s m meth c b L xs) {k x xa xb y ya yb : Nat} {cI cZ eI eZ : ClassId} (hk : k + 4 ≤ L) (hK : va_K (dC, dI) vwCl (T4 cI cZ eI eZ) s) (nx : LN p l e s m below meth c dC dI b x xa xb y ya yb cI cZ eI eZ k) (w : Nat → Int32) (h : Nat → Bool) (H : Heap) (locs : List Loc) (ls : Array Slot) (hP : va_P (dC, dI) vwCl (W2 x xa xb y ya yb cI cZ eI eZ w h w h) H) (hD : va_D (LA s) (W2 x xa xb y ya yb cI cZ eI eZ w h w h)) (hS : va_S (LA s) s.heap H locs) (hl : lv_has ls 4 [(0, .ref b), (1, .ref x), (2, .ref y), (3, .int (nI k))]) : W p l e room_1 s m #[Value.ref b] below meth c H locs 6 244 (lw_Z below #[Value.ref b] s) (F0 m 396 ls []) := by
  obtain ⟨hx, hb, hr, hml, hown, hts0, hX, hbl, hlocks, hgv⟩ := C0
  have hb : c.code = cL_law := hb
  have hown : s.vm.findClass RL = some m.cls := hown
  have hts : ∀ w ∈ wsL_law, w.before #[Value.ref b] s = true := fun w h => hts0 w (wsL_law_in w h)
  have hA : ∀ q : Nat, s.heap.size ≤ q → LA s q := fun _ h => h
  have hbA : ¬ LA s b := Nat.not_le.mpr hbl
  refine lv_aload_n hx hb dL_law_396 rfl (lv_at hl 1 rfl) ?_
  have hPc := hP.sub (ws' := W0 x xa xb cI cZ w h) [0, 1, 2] rfl
  have hKc := hK.sub (tys' := TY cI cZ) [0, 1] rfl
  refine vp_callSi (va_Run.run (va_runV (As := []) (rest := []) ⟨hx, hb, hml, hown, hts⟩ (k0_duplicates l dC dI x xa xb cI cZ w h) (cwV 0 hts gL_law_X0_duplicates rfl rfl rfl (by decide +kernel) ⟨Nat.le_of_ble_eq_true rfl, Nat.le_of_ble_eq_true rfl⟩) ⟨bl_P, va_recv hKc hPc (ci := 0) (q0 := 0) rfl rfl, fun U hU hW => ⟨rfl, by rw [hU]; exact hPc, va_K.moved hW.alike hKc⟩⟩ rfl rfl hl.1 rfl (lv_room (Nat.le_of_ble_eq_true rfl)) dL_law_397 ⟨Nat.le_of_ble_eq_true rfl, Nat.le_of_ble_eq_true rfl⟩)) (fun r_397 hr_397 => ?_)
  obtain rfl : r_397 = (cnt (f_dup w h) 24) := hr_397
  refine lv_aload_n hx hb dL_law_400 rfl (lv_at hl 2 rfl) ?_
  have hPc := hP.sub (ws' := W1 y ya yb eI eZ w h) [3, 4, 5] rfl
  have hKc := hK.sub (tys' := TY eI eZ) [2, 3] rfl
  refine vp_callSi (va_Run.run (va_runV (As := []) (rest := [.int (cnt (f_dup w h) 24)]) ⟨hx, hb, hml, hown, hts⟩ (k1_duplicates l dC dI y ya yb eI eZ w h) (cwV 0 hts gL_law_X1_duplicates rfl rfl rfl (by decide +kernel) ⟨Nat.le_of_ble_eq_true rfl, Nat.le_of_ble_eq_true rfl⟩) ⟨bl_P, va_recv hKc hPc (ci := 1) (q0 := 0) rfl rfl, fun U hU hW => ⟨rfl, by rw [hU]; exact hPc, va_K.moved hW.alike hKc⟩⟩ rfl rfl hl.1 rfl (lv_room (Nat.le_of_ble_eq_true rfl)) dL_law_401 ⟨Nat.le_of_ble_eq_true rfl, Nat.le_of_ble_eq_true rfl⟩)) (fun r_401 hr_401 => ?_)
  obtain rfl : r_401 = (cnt (f_dup w h) 24) := hr_401
  refine lv_icmp_eq (tgt := 445) hx hb dL_law_404 (by decide) (fun _ => ?_) (fun c_404 => absurd rfl c_404)
  exact nx _ _ _ _ ls hP hD hS hl
set_option maxHeartbeats 4000000 in
set_option maxRecDepth 100000 in
theorem law_case11 {p : Program} {l : Launch} {e : Env} {s : State} {m : MethodId} {below : List Frame} {meth : Method} {c : Code} {dC : Nat → ClassId} {dI : Nat → Nat → Nat} {b L : Nat} {xs : Nat → Int32} (hL : L ≤ 257) (C0 : lw_At p s m meth c b L xs) {k x xa xb y ya yb : Nat} {cI cZ eI eZ : ClassId} (hk : k + 4 ≤ L) (hK : va_K (dC, dI) vwCl (T4 cI cZ eI eZ) s) (nx : LN p l e s m below meth c dC dI b x xa xb y ya yb cI cZ eI eZ k) (w : Nat → Int32) (h : Nat → Bool) (H : Heap) (locs : List Loc) (ls : Array Slot) (hP : va_P (dC, dI) vwCl (W2 x xa xb y ya yb cI cZ eI eZ w h w h) H) (hD : va_D (LA s) (W2 x xa xb y ya yb cI cZ eI eZ w h w h)) (hS : va_S (LA s) s.heap H locs) (hl : lv_has ls 4 [(0, .ref b), (1, .ref x), (2, .ref y), (3, .int (nI k))]) : W p l e room_1 s m #[Value.ref b] below meth c H locs 6 244 (lw_Z below #[Value.ref b] s) (F0 m 409 ls []) := by
  obtain ⟨hx, hb, hr, hml, hown, hts0, hX, hbl, hlocks, hgv⟩ := C0
  have hb : c.code = cL_law := hb
  have hown : s.vm.findClass RL = some m.cls := hown
  have hts : ∀ w ∈ wsL_law, w.before #[Value.ref b] s = true := fun w h => hts0 w (wsL_law_in w h)
  have hA : ∀ q : Nat, s.heap.size ≤ q → LA s q := fun _ h => h
  have hbA : ¬ LA s b := Nat.not_le.mpr hbl
  refine lv_aload_n hx hb dL_law_409 rfl (lv_at hl 1 rfl) ?_
  refine lv_aload_n hx hb dL_law_410 rfl (lv_at hl 0 rfl) ?_
  refine lv_iload_n hx hb dL_law_411 rfl (lv_at hl 3 rfl) ?_
  refine lv_iconst (v := (nI 1)) hx hb dL_law_412 (by decide +kernel) ?_
  refine my_add hx hb dL_law_413 ?_
  refine my_sld hx hb hX hbl hbA hS (show k + 1 < L by omega) (by omega) dL_law_414 ?_
  have hPc := hP.sub (ws' := W0 x xa xb cI cZ w h) [0, 1, 2] rfl
  have hKc := hK.sub (tys' := TY cI cZ) [0, 1] rfl
  refine vp_callSi (va_Run.run (va_runV (As := [.int (xs (k + 1))]) (rest := []) ⟨hx, hb, hml, hown, hts⟩ (k0_sum l dC dI x xa xb cI cZ w h (xs (k + 1))) (cwV 1 hts gL_law_X0_sum rfl rfl rfl (by decide +kernel) ⟨Nat.le_of_ble_eq_true rfl, Nat.le_of_ble_eq_true rfl⟩) ⟨bl_P, va_recv hKc hPc (ci := 0) (q0 := 0) rfl rfl, fun U hU hW => ⟨rfl, by rw [hU]; exact hPc, va_K.moved hW.alike hKc⟩⟩ rfl rfl hl.1 rfl (lv_room (Nat.le_of_ble_eq_true rfl)) dL_law_415 ⟨Nat.le_of_ble_eq_true rfl, Nat.le_of_ble_eq_true rfl⟩)) (fun r_415 hr_415 => ?_)
  obtain rfl : r_415 = (s_sum w (xs (k + 1))) := hr_415
  refine lv_aload_n hx hb dL_law_418 rfl (lv_at hl 2 rfl) ?_
  refine lv_aload_n hx hb dL_law_419 rfl (lv_at hl 0 rfl) ?_
  refine lv_iload_n hx hb dL_law_420 rfl (lv_at hl 3 rfl) ?_
  refine lv_iconst (v := (nI 1)) hx hb dL_law_421 (by decide +kernel) ?_
  refine my_add hx hb dL_law_422 ?_
  refine my_sld hx hb hX hbl hbA hS (show k + 1 < L by omega) (by omega) dL_law_423 ?_
  have hPc := hP.sub (ws' := W1 y ya yb eI eZ w h) [3, 4, 5] rfl
  have hKc := hK.sub (tys' := TY eI eZ) [2, 3] rfl
  refine vp_callSi (va_Run.run (va_runV (As := [.int (xs (k + 1))]) (rest := [.int (s_sum w (xs (k + 1)))]) ⟨hx, hb, hml, hown, hts⟩ (k1_sum l dC dI y ya yb eI eZ w h (xs (k + 1))) (cwV 1 hts gL_law_X1_sum rfl rfl rfl (by decide +kernel) ⟨Nat.le_of_ble_eq_true rfl, Nat.le_of_ble_eq_true rfl⟩) ⟨bl_P, va_recv hKc hPc (ci := 1) (q0 := 0) rfl rfl, fun U hU hW => ⟨rfl, by rw [hU]; exact hPc, va_K.moved hW.alike hKc⟩⟩ rfl rfl hl.1 rfl (lv_room (Nat.le_of_ble_eq_true rfl)) dL_law_424 ⟨Nat.le_of_ble_eq_true rfl, Nat.le_of_ble_eq_true rfl⟩)) (fun r_424 hr_424 => ?_)
  obtain rfl : r_424 = (s_sum w (xs (k + 1))) := hr_424
  refine lv_icmp_eq (tgt := 445) hx hb dL_law_427 (by decide) (fun _ => ?_) (fun c_427 => absurd rfl c_427)
  exact nx _ _ _ _ ls hP hD hS hl
set_option maxHeartbeats 4000000 in
set_option maxRecDepth 100000 in
theorem law_case12 {p : Program} {l : Launch} {e : Env} {s : State} {m : MethodId} {below : List Frame} {meth : Method} {c : Code} {dC : Nat → ClassId} {dI : Nat → Nat → Nat} {b L : Nat} {xs : Nat → Int32} (hL : L ≤ 257) (C0 : lw_At p s m meth c b L xs) {k x xa xb y ya yb : Nat} {cI cZ eI eZ : ClassId} (hk : k + 4 ≤ L) (hK : va_K (dC, dI) vwCl (T4 cI cZ eI eZ) s) (nx : LN p l e s m below meth c dC dI b x xa xb y ya yb cI cZ eI eZ k) (w : Nat → Int32) (h : Nat → Bool) (H : Heap) (locs : List Loc) (ls : Array Slot) (hP : va_P (dC, dI) vwCl (W2 x xa xb y ya yb cI cZ eI eZ w h w h) H) (hD : va_D (LA s) (W2 x xa xb y ya yb cI cZ eI eZ w h w h)) (hS : va_S (LA s) s.heap H locs) (hl : lv_has ls 4 [(0, .ref b), (1, .ref x), (2, .ref y), (3, .int (nI k))]) : W p l e room_1 s m #[Value.ref b] below meth c H locs 6 244 (lw_Z below #[Value.ref b] s) (F0 m 432 ls []) := by
  obtain ⟨hx, hb, hr, hml, hown, hts0, hX, hbl, hlocks, hgv⟩ := C0
  have hb : c.code = cL_law := hb
  have hown : s.vm.findClass RL = some m.cls := hown
  have hts : ∀ w ∈ wsL_law, w.before #[Value.ref b] s = true := fun w h => hts0 w (wsL_law_in w h)
  have hA : ∀ q : Nat, s.heap.size ≤ q → LA s q := fun _ h => h
  have hbA : ¬ LA s b := Nat.not_le.mpr hbl
  refine lv_aload_n hx hb dL_law_432 rfl (lv_at hl 1 rfl) ?_
  have hPc := hP.sub (ws' := W0 x xa xb cI cZ w h) [0, 1, 2] rfl
  have hKc := hK.sub (tys' := TY cI cZ) [0, 1] rfl
  refine vp_callSi (va_Run.run (va_runV (As := []) (rest := []) ⟨hx, hb, hml, hown, hts⟩ (k0_plain l dC dI x xa xb cI cZ w h) (cwV 0 hts gL_law_X0_plain rfl rfl rfl (by decide +kernel) ⟨Nat.le_of_ble_eq_true rfl, Nat.le_of_ble_eq_true rfl⟩) ⟨bl_P, va_recv hKc hPc (ci := 0) (q0 := 0) rfl rfl, fun U hU hW => ⟨rfl, by rw [hU]; exact hPc, va_K.moved hW.alike hKc⟩⟩ rfl rfl hl.1 rfl (lv_room (Nat.le_of_ble_eq_true rfl)) dL_law_433 ⟨Nat.le_of_ble_eq_true rfl, Nat.le_of_ble_eq_true rfl⟩)) (fun r_433 hr_433 => ?_)
  obtain rfl : r_433 = (cnt (f_pla w h) 24) := hr_433
  refine lv_aload_n hx hb dL_law_436 rfl (lv_at hl 2 rfl) ?_
  have hPc := hP.sub (ws' := W1 y ya yb eI eZ w h) [3, 4, 5] rfl
  have hKc := hK.sub (tys' := TY eI eZ) [2, 3] rfl
  refine vp_callSi (va_Run.run (va_runV (As := []) (rest := [.int (cnt (f_pla w h) 24)]) ⟨hx, hb, hml, hown, hts⟩ (k1_plain l dC dI y ya yb eI eZ w h) (cwV 0 hts gL_law_X1_plain rfl rfl rfl (by decide +kernel) ⟨Nat.le_of_ble_eq_true rfl, Nat.le_of_ble_eq_true rfl⟩) ⟨bl_P, va_recv hKc hPc (ci := 1) (q0 := 0) rfl rfl, fun U hU hW => ⟨rfl, by rw [hU]; exact hPc, va_K.moved hW.alike hKc⟩⟩ rfl rfl hl.1 rfl (lv_room (Nat.le_of_ble_eq_true rfl)) dL_law_437 ⟨Nat.le_of_ble_eq_true rfl, Nat.le_of_ble_eq_true rfl⟩)) (fun r_437 hr_437 => ?_)
  obtain rfl : r_437 = (cnt (f_pla w h) 24) := hr_437
  refine lv_icmp_eq (tgt := 445) hx hb dL_law_440 (by decide) (fun _ => ?_) (fun c_440 => absurd rfl c_440)
  exact nx _ _ _ _ ls hP hD hS hl
