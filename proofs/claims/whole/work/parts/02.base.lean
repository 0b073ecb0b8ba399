/-! flags, page numbers, and the mathematical state: words w, held h -/
def bI (b : Bool) : Int32 := if b then 1 else 0
theorem bI_f {b : Bool} (h : bI b = 0) : b = false := by
  cases b with
  | false => rfl
  | true => exact absurd h (by decide +kernel)
theorem bI_t {b : Bool} (h : ¬ bI b = 0) : b = true := by
  cases b with
  | false => exact absurd (by decide +kernel) h
  | true => rfl
theorem bN_f {b : Bool} (h : bI (!b) = 0) : b = true := by
  cases b with
  | false => exact absurd h (by decide +kernel)
  | true => rfl
theorem bN_t {b : Bool} (h : ¬ bI (!b) = 0) : b = false := by
  cases b with
  | false => rfl
  | true => exact absurd (by decide +kernel) h
theorem bI_nar (b : Bool) : vp_nar .boolean (bI b) = bI b := by cases b <;> decide +kernel
theorem bI_narrow (b : Bool) : narrow .boolean (.int (bI b)) = .int (bI b) := by cases b <;> rfl
theorem bI_1 : nI 1 = bI true := by decide +kernel
theorem bI_0 : nI 0 = bI false := by decide +kernel
def updB (f : Nat → Bool) (k : Nat) (x : Bool) : Nat → Bool := fun j => if j = k then x else f j
theorem updB_twice (f : Nat → Bool) (k : Nat) (x y : Bool) : updB (updB f k x) k y = updB f k y := by
  funext j
  simp only [updB]
  split <;> rfl
def zp (h : Nat → Bool) : Nat → Int32 := fun j => bI (h j)
def zn (h : Nat → Bool) : Nat → Int32 := fun j => bI (!h j)
theorem zp_upd (h : Nat → Bool) (k : Nat) (b : Bool) : upd (zp h) k (vp_nar .boolean (bI b)) = zp (updB h k b) := by
  funext j
  simp only [upd, zp, updB, bI_nar]
  split <;> rfl
theorem zn_upd (h : Nat → Bool) (k : Nat) (b : Bool) : upd (zn h) k (vp_nar .boolean (bI (!b))) = zn (updB h k b) := by
  funext j
  simp only [upd, zn, updB, bI_nar]
  split <;> rfl
def okP (n : Nat) (x : Int32) : Bool := decide (0 ≤ x.toInt ∧ x.toInt < n)
def pg (x : Int32) : Nat := x.toNatClampNeg
theorem pg_nI {j : Nat} (h : j < 2 ^ 31) : pg (nI j) = j := nI_clamp h
theorem okP_of {n : Nat} {x : Int32} (h : okP n x = true) (hn : n < 2 ^ 31) : ∃ j : Nat, j < n ∧ x = nI j := vp_in_of (vp_in_iff.mpr (of_decide_eq_true h)) hn
theorem okP_nI {n j : Nat} (h : j < n) (hn : n < 2 ^ 31) : okP n (nI j) = true := decide_eq_true (vp_in_iff.mp (vp_in_nI h hn))
theorem okP_neg {n : Nat} {x : Int32} (h : x < 0) : okP n x = false := by
  rw [Int32.lt_iff_toInt_lt, Int32.toInt_zero] at h
  exact decide_eq_false (fun q => by omega)
theorem okP_big {n : Nat} {x : Int32} (hn : n < 2 ^ 31) (h : nI n ≤ x) : okP n x = false := by
  rw [Int32.le_iff_toInt_le, nI_toInt hn] at h
  exact decide_eq_false (fun q => by omega)
theorem okP_in {n : Nat} {x : Int32} (hn : n < 2 ^ 31) (h0 : ¬ x < 0) (h : ¬ nI n ≤ x) : okP n x = true := by
  rw [Int32.lt_iff_toInt_lt, Int32.toInt_zero] at h0
  rw [Int32.le_iff_toInt_le, nI_toInt hn] at h
  exact decide_eq_true ⟨by omega, by omega⟩
theorem okP_le {n : Nat} {x : Int32} (hn : n < 2 ^ 31) (h0 : ¬ x < 0) (h : x ≤ nI n) : okP (n + 1) x = true := by
  rw [Int32.lt_iff_toInt_lt, Int32.toInt_zero] at h0
  rw [Int32.le_iff_toInt_le, nI_toInt hn] at h
  exact decide_eq_true ⟨by omega, by omega⟩
theorem okP_nle {n : Nat} {x : Int32} (hn : n < 2 ^ 31) (h : ¬ x ≤ nI n) : okP (n + 1) x = false := by
  rw [Int32.le_iff_toInt_le, nI_toInt hn] at h
  exact decide_eq_false (fun q => by omega)
theorem okP_lt {n : Nat} {x : Int32} (hn : n < 2 ^ 31) (h0 : ¬ x < 0) (h : x < nI n) : okP n x = true := by
  rw [Int32.lt_iff_toInt_lt, Int32.toInt_zero] at h0
  rw [Int32.lt_iff_toInt_lt, nI_toInt hn] at h
  exact decide_eq_true ⟨by omega, by omega⟩
theorem okP_nlt {n : Nat} {x : Int32} (hn : n < 2 ^ 31) (h : ¬ x < nI n) : okP n x = false := by
  rw [Int32.lt_iff_toInt_lt, nI_toInt hn] at h
  exact decide_eq_false (fun q => by omega)
/-! what each call answers and does, over w and h -/
def s_read (w : Nat → Int32) (p k : Int32) : Int32 := if okP 24 p = true then (if okP 4 k = true then w (pg p * 4 + pg k) else -2) else -1
def w_write (w : Nat → Int32) (p k v : Int32) : Nat → Int32 := if okP 24 p = true then (if okP 4 k = true then upd w (pg p * 4 + pg k) v else w) else w
def h_write (h : Nat → Bool) (p k : Int32) : Nat → Bool := if okP 24 p = true then (if okP 4 k = true then updB h (pg p) true else h) else h
def s_page (p : Int32) : Int32 := if okP 24 p = true then 0 else -1
def fillN (w : Nat → Int32) (j : Nat) (v : Int32) : Nat → Nat → Int32
  | 0 => w
  | n + 1 => upd (fillN w j v n) (j * 4 + n) v
def w_fill (w : Nat → Int32) (p v : Int32) : Nat → Int32 := if okP 24 p = true then fillN w (pg p) v 4 else w
def h_fill (h : Nat → Bool) (p : Int32) : Nat → Bool := if okP 24 p = true then updB h (pg p) true else h
def s_two (p q : Int32) : Int32 := if okP 24 p = true then (if okP 24 q = true then 0 else -1) else -1
def copyN (w : Nat → Int32) (a b : Nat) : Nat → Nat → Int32
  | 0 => w
  | n + 1 => upd (copyN w a b n) (b * 4 + n) (copyN w a b n (a * 4 + n))
def w_copy (w : Nat → Int32) (p q : Int32) : Nat → Int32 := if okP 24 p = true then (if okP 24 q = true then copyN w (pg p) (pg q) 4 else w) else w
def h_copy (h : Nat → Bool) (p q : Int32) : Nat → Bool := if okP 24 p = true then (if okP 24 q = true then updB h (pg q) (h (pg p)) else h) else h
def swapN (w : Nat → Int32) (a b : Nat) : Nat → Nat → Int32
  | 0 => w
  | n + 1 => upd (upd (swapN w a b n) (a * 4 + n) (swapN w a b n (b * 4 + n))) (b * 4 + n) (swapN w a b n (a * 4 + n))
def w_swap (w : Nat → Int32) (p q : Int32) : Nat → Int32 := if okP 24 p = true then (if okP 24 q = true then swapN w (pg p) (pg q) 4 else w) else w
def h_swap (h : Nat → Bool) (p q : Int32) : Nat → Bool := if okP 24 p = true then (if okP 24 q = true then updB (updB h (pg p) (h (pg q))) (pg q) (h (pg p)) else h) else h
def s_rel (h : Nat → Bool) (p : Int32) : Int32 := if okP 24 p = true then (if h (pg p) = true then 0 else -3) else -1
def w_rel (w : Nat → Int32) (h : Nat → Bool) (p : Int32) : Nat → Int32 := if okP 24 p = true then (if h (pg p) = true then fillN w (pg p) (nI 0) 4 else w) else w
def h_rel (h : Nat → Bool) (p : Int32) : Nat → Bool := if okP 24 p = true then (if h (pg p) = true then updB h (pg p) false else h) else h
def b_held (h : Nat → Bool) (p : Int32) : Bool := okP 24 p && h (pg p)
def sm (w : Nat → Int32) (a b : Nat) : Bool := (List.range 4).all (fun k => w (a * 4 + k) == w (b * 4 + k))
def b_same (w : Nat → Int32) (p q : Int32) : Bool := okP 24 p && (okP 24 q && sm w (pg p) (pg q))
def rep (w : Nat → Int32) (h : Nat → Bool) (p : Nat) : Bool := (List.range p).any (fun e => h e && sm w e p)
def one (w : Nat → Int32) (p n : Nat) : Bool := (List.range n).all (fun k => w (p * 4 + k) == w (p * 4))
def cnt (f : Nat → Bool) : Nat → Int32
  | 0 => nI 0
  | n + 1 => if f n = true then cnt f n + 1 else cnt f n
def f_con (w : Nat → Int32) (h : Nat → Bool) (p : Nat) : Bool := h p && !rep w h p
def f_dup (w : Nat → Int32) (h : Nat → Bool) (p : Nat) : Bool := h p && rep w h p
def f_pla (w : Nat → Int32) (h : Nat → Bool) (p : Nat) : Bool := h p && one w p 4
def sumN (f : Nat → Int32) : Nat → Int32
  | 0 => nI 0
  | n + 1 => sumN f n + f n
def s_sum (w : Nat → Int32) (g : Int32) : Int32 := if okP 3 g = true then sumN (fun i => w (pg g * 32 + i)) 32 else nI 0
def totN (w : Nat → Int32) (g : Int32) : Nat → Int32
  | 0 => nI 0
  | n + 1 => if nI (n / 32) = g then totN w g n + w n else totN w g n
theorem cnt_y {f : Nat → Bool} {n : Nat} (h : f n = true) : cnt f (n + 1) = cnt f n + 1 := by show (if f n = true then _ else _) = _; rw [if_pos h]
theorem cnt_n {f : Nat → Bool} {n : Nat} (h : f n = false) : cnt f (n + 1) = cnt f n := by show (if f n = true then _ else _) = _; rw [if_neg (by rw [h]; decide)]
theorem tot_y {w : Nat → Int32} {g : Int32} {n : Nat} (h : nI (n / 32) = g) : totN w g (n + 1) = totN w g n + w n := by show (if nI (n / 32) = g then _ else _) = _; rw [if_pos h]
theorem tot_n {w : Nat → Int32} {g : Int32} {n : Nat} (h : ¬ nI (n / 32) = g) : totN w g (n + 1) = totN w g n := by show (if nI (n / 32) = g then _ else _) = _; rw [if_neg h]
theorem sm_t {w : Nat → Int32} {a b : Nat} (h : ∀ k, k < 4 → w (a * 4 + k) = w (b * 4 + k)) : sm w a b = true := by
  rw [sm, List.all_eq_true]
  intro k hk
  rw [List.mem_range] at hk
  exact beq_iff_eq.mpr (h k hk)
theorem sm_f {w : Nat → Int32} {a b k : Nat} (hk : k < 4) (h : ¬ w (a * 4 + k) = w (b * 4 + k)) : sm w a b = false := by
  cases hs : sm w a b with
  | false => rfl
  | true =>
    rw [sm, List.all_eq_true] at hs
    exact absurd (beq_iff_eq.mp (hs k (List.mem_range.mpr hk))) h
theorem one_t {w : Nat → Int32} {p n : Nat} (h : ∀ k, k < n → w (p * 4 + k) = w (p * 4)) : one w p n = true := by
  rw [one, List.all_eq_true]
  intro k hk
  rw [List.mem_range] at hk
  exact beq_iff_eq.mpr (h k hk)
theorem one_f {w : Nat → Int32} {p n k : Nat} (hk : k < n) (h : ¬ w (p * 4 + k) = w (p * 4)) : one w p n = false := by
  cases hs : one w p n with
  | false => rfl
  | true =>
    rw [one, List.all_eq_true] at hs
    exact absurd (beq_iff_eq.mp (hs k (List.mem_range.mpr hk))) h
theorem one_s (w : Nat → Int32) (p n : Nat) : one w p (n + 1) = (one w p n && (w (p * 4 + n) == w (p * 4))) := by
  simp [one, List.range_succ]
theorem one_1 (w : Nat → Int32) (p : Nat) : one w p 1 = true := one_t (fun k hk => by
  have e : k = 0 := by omega
  subst e
  rfl)
theorem rep_t {w : Nat → Int32} {h : Nat → Bool} {p e : Nat} (he : e < p) (h1 : h e = true) (h2 : sm w e p = true) : rep w h p = true := by
  rw [rep, List.any_eq_true]
  exact ⟨e, List.mem_range.mpr he, by rw [h1, h2]; rfl⟩
theorem rep_f {w : Nat → Int32} {h : Nat → Bool} {p : Nat} (H : ∀ e, e < p → (h e && sm w e p) = false) : rep w h p = false := by
  cases hs : rep w h p with
  | false => rfl
  | true =>
    rw [rep, List.any_eq_true] at hs
    obtain ⟨e, he, h1⟩ := hs
    rw [H e (List.mem_range.mp he)] at h1
    cases h1
theorem tot_out {w : Nat → Int32} {g : Int32} (hg : okP 3 g = false) : ∀ n, n ≤ 96 → totN w g n = nI 0 := by
  intro n
  induction n with
  | zero => intro _; rfl
  | succ n ih =>
    intro hn
    show (if nI (n / 32) = g then _ else _) = _
    rw [if_neg (fun e => by rw [← e, okP_nI (by omega) (by decide)] at hg; cases hg)]
    exact ih (by omega)
theorem tot_in {w : Nat → Int32} {j : Nat} (hj : j < 3) : ∀ n, n ≤ 96 → totN w (nI j) n = sumN (fun i => w (j * 32 + i)) (min (n - j * 32) 32) := by
  intro n
  induction n with
  | zero =>
    intro _
    rw [show min (0 - j * 32) 32 = 0 by omega]
    rfl
  | succ n ih =>
    intro hn
    show (if nI (n / 32) = nI j then totN w (nI j) n + w n else totN w (nI j) n) = _
    rw [ih (by omega)]
    by_cases e : n / 32 = j
    · rw [if_pos (by rw [e]), show min (n + 1 - j * 32) 32 = (n - j * 32) + 1 by omega, show min (n - j * 32) 32 = n - j * 32 by omega]
      show _ = sumN _ (n - j * 32) + w (j * 32 + (n - j * 32))
      rw [show j * 32 + (n - j * 32) = n by omega]
    · rw [if_neg (fun q => e ((nI_eq (by omega) (by omega)).mp q)), show min (n + 1 - j * 32) 32 = min (n - j * 32) 32 by omega]
theorem tot_sum (w : Nat → Int32) (g : Int32) : totN w g 96 = s_sum w g := by
  rw [s_sum]
  by_cases hg : okP 3 g = true
  · rw [if_pos hg]
    obtain ⟨j, hj, rfl⟩ := okP_of hg (by decide)
    rw [tot_in hj 96 (by omega), pg_nI (by omega), show min (96 - j * 32) 32 = 32 by omega]
  · rw [if_neg hg]
    exact tot_out (by cases h : okP 3 g with | false => rfl | true => exact absurd h hg) 96 (by omega)
/-! the cells -/
abbrev W0 (h0 qa qb : Nat) (cI cZ : ClassId) (w : Nat → Int32) (h : Nat → Bool) : va_W := [(h0, .inr (0, [.ref qa, .ref qb])), (qa, .inl (cI, 96, .inl w)), (qb, .inl (cZ, 24, .inl (zp h)))]
abbrev W1 (h0 qa qb : Nat) (cI cZ : ClassId) (w : Nat → Int32) (h : Nat → Bool) : va_W := [(h0, .inr (1, [.ref qa, .ref qb])), (qa, .inl (cI, 96, .inl w)), (qb, .inl (cZ, 24, .inl (zn h)))]
abbrev TY (cI cZ : ClassId) : List (ClassId × FieldType) := [(cI, .int), (cZ, .boolean)]
theorem zcell {cA : ClassId} {n : Nat} {f g : Nat → Int32} (h : ∀ j, j < n → f j = g j) : vp_cell cA (n, .inl f) = vp_cell cA (n, .inl g) := by
  rw [vp_cell_i, vp_cell_i, arrV, arrV]
  congr 2
  funext j
  rw [h j.val j.isLt]
theorem W0_cong {D : va_G} {cl : List vw_C} {h0 qa qb : Nat} {cI cZ : ClassId} {w : Nat → Int32} {h h' : Nat → Bool} {H : Heap} (hP : va_P D cl (W0 h0 qa qb cI cZ w h) H) (e : ∀ j, j < 24 → h j = h' j) : va_P D cl (W0 h0 qa qb cI cZ w h') H := by
  intro k q hk
  match k, hk with
  | 0, hk => exact hP 0 q hk
  | 1, hk => exact hP 1 q hk
  | 2, hk =>
    cases hk
    have h2 : H[qb]? = some (vp_cell cZ (24, .inl (zp h))) := hP 2 _ rfl
    show H[qb]? = some (vp_cell cZ (24, .inl (zp h')))
    have h3 : vp_cell cZ (24, .inl (zp h)) = vp_cell cZ (24, .inl (zp h')) := zcell (fun j hj => show bI (h j) = bI (h' j) by rw [e j hj])
    rw [h2, h3]
  | k + 3, hk => cases hk
theorem W0_apart {A : Nat → Prop} {h0 qa qb : Nat} {cI cZ : ClassId} {w w' : Nat → Int32} {h h' : Nat → Bool} (hD : va_D A (W0 h0 qa qb cI cZ w h)) : va_D A (W0 h0 qa qb cI cZ w' h') := by
  have h1 := hD.set (p := 1) (a := qa) (e := .inl (cI, 96, .inl w')) rfl
  have h2 := h1.set (p := 2) (a := qb) (e := .inl (cZ, 24, .inl (zp h'))) rfl
  exact h2
theorem bl_P {D : va_G} {cl : List vw_C} {ws : va_W} {tys : List (ClassId × FieldType)} {av : List Value} : FrameBlind (va_Pc av (fun U => va_P D cl ws U.heap ∧ va_K D cl tys U)) := fun a U g mk q => by
  obtain ⟨q0, qP, qK⟩ := q
  exact ⟨q0, qP, va_K.moved (u := U) (U := U.calling g mk a) (Vm.Alike.refl U.vm) qK⟩
theorem bl_Q {D : va_G} {cl : List vw_C} {ws : va_W} {tys : List (ClassId × FieldType)} {av : List Value} {sz : Nat} {A : Nat → Prop} : FrameBlind (va_Pc av (fun U => U.heap.size = sz ∧ va_P D cl ws U.heap ∧ va_K D cl tys U ∧ va_D A ws)) := fun a U g mk q => by
  obtain ⟨q0, q1, qP, qK, qD⟩ := q
  exact ⟨q0, q1, qP, va_K.moved (u := U) (U := U.calling g mk a) (Vm.Alike.refl U.vm) qK, qD⟩
theorem bl_T {av : List Value} : FrameBlind (va_Pc av (fun _ => True)) := fun a U g mk q => q
theorem bl_X {av : List Value} {b L : Nat} {xs : Nat → Int32} : FrameBlind (va_Pc av (fun U => va_X b L xs U U.heap)) := fun a U g mk q => ⟨q.1, va_X.moved (u := U) (U := U.calling g mk a) (Vm.Alike.refl U.vm) q.2⟩
section MYROWS
variable {p : Program} {l : Launch} {e : Env} {R : Room} {s : State} {m : MethodId} {args : Array Value} {below : List Frame} {meth : Method} {c : Code} {H : Heap} {locs : List Loc} {cells slots : Nat} {Q : State → Prop} {D : va_G} {cl : List vw_C} {ws : va_W} {tys : List (ClassId × FieldType)} {cc : ByteArray} {pc : Nat} {ls : Array Slot} {rest : List Value} {a : Nat} {A : Nat → Prop} {H0 : Heap}
theorem my_mul (hexec : p.tables.exec = Jvm.exec) (hb : c.code = cc) {x y : Nat} (hdg : decode cc pc = .ok (.imul, 1)) (k : W p l e R s m args below meth c H locs cells slots Q (F0 m (pc + 1) ls (.int (nI (x * y)) :: rest))) : W p l e R s m args below meth c H locs cells slots Q (F0 m pc ls (.int (nI y) :: .int (nI x) :: rest)) :=
  lv_imul hexec hb hdg (by rw [pk_mul]; exact k)
theorem my_add (hexec : p.tables.exec = Jvm.exec) (hb : c.code = cc) {x y : Nat} (hdg : decode cc pc = .ok (.iadd, 1)) (k : W p l e R s m args below meth c H locs cells slots Q (F0 m (pc + 1) ls (.int (nI (x + y)) :: rest))) : W p l e R s m args below meth c H locs cells slots Q (F0 m pc ls (.int (nI y) :: .int (nI x) :: rest)) :=
  lv_iadd hexec hb hdg (by rw [nI_add]; exact k)
theorem my_div (hexec : p.tables.exec = Jvm.exec) (hb : c.code = cc) {x y : Nat} (hx : x < 2 ^ 31) (h0 : 0 < y) (hy : y < 2 ^ 31) (hdg : decode cc pc = .ok (.idiv, 1)) (k : W p l e R s m args below meth c H locs cells slots Q (F0 m (pc + 1) ls (.int (nI (x / y)) :: rest))) : W p l e R s m args below meth c H locs cells slots Q (F0 m pc ls (.int (nI y) :: .int (nI x) :: rest)) :=
  lv_idiv hexec hb hdg (nI_ne0 h0 hy) (by rw [pk_div hx h0 hy]; exact k)
theorem my_iald (hexec : p.tables.exec = Jvm.exec) (hb : c.code = cc) (hK : va_K D cl tys s) (hP : va_P D cl ws H) (q0 t0 : Nat) {cA : ClassId} {n : Nat} {f : Nat → Int32} (ha : ws[q0]? = some (a, .inl (cA, n, .inl f))) (ht : tys[t0]? = some (cA, .int)) {j : Nat} (hj : j < n) (hn : n < 2 ^ 31) (hdg : decode cc pc = .ok (.iaload, 1))
    (kk : W p l e R s m args below meth c H locs cells slots Q (F0 m (pc + 1) ls (.int (f j) :: rest))) : W p l e R s m args below meth c H locs cells slots Q (F0 m pc ls (.int (nI j) :: .ref a :: rest)) :=
  va_iald hexec hb hK hP q0 t0 ha ht (vp_in_nI hj hn) hdg (by rw [nI_clamp (Nat.lt_trans hj hn)]; exact kk)
theorem my_iast (hexec : p.tables.exec = Jvm.exec) (hb : c.code = cc) (hK : va_K D cl tys s) (hP : va_P D cl ws H) (hD : va_D A ws) (hS : va_S A H0 H locs) (q0 t0 : Nat) {cA : ClassId} {n : Nat} {f : Nat → Int32} (ha : ws[q0]? = some (a, .inl (cA, n, .inl f))) (ht : tys[t0]? = some (cA, .int)) {j : Nat} {x : Int32} (hj : j < n) (hn : n < 2 ^ 31) (hdg : decode cc pc = .ok (.iastore, 1))
    (kk : ∀ (H1 : Heap) (locs1 : List Loc), va_P D cl (ws.set q0 (a, .inl (cA, n, .inl (upd f j x)))) H1 → va_D A (ws.set q0 (a, .inl (cA, n, .inl (upd f j x)))) → va_S A H0 H1 locs1 → W p l e R s m args below meth c H1 locs1 cells slots Q (F0 m (pc + 1) ls rest)) : W p l e R s m args below meth c H locs cells slots Q (F0 m pc ls (.int x :: .int (nI j) :: .ref a :: rest)) :=
  va_iast hexec hb hK hP hD hS q0 t0 ha ht (vp_in_nI hj hn) hdg (fun H1 locs1 h1 h2 h3 => by
    rw [nI_clamp (Nat.lt_trans hj hn)] at h1 h2
    exact kk H1 locs1 h1 h2 h3)
theorem my_zaldP (hexec : p.tables.exec = Jvm.exec) (hb : c.code = cc) (hK : va_K D cl tys s) (hP : va_P D cl ws H) (q0 t0 : Nat) {cA : ClassId} {n : Nat} {h : Nat → Bool} (ha : ws[q0]? = some (a, .inl (cA, n, .inl (zp h)))) (ht : tys[t0]? = some (cA, .boolean)) {j : Nat} (hj : j < n) (hn : n < 2 ^ 31) (hdg : decode cc pc = .ok (.baload, 1))
    (kk : W p l e R s m args below meth c H locs cells slots Q (F0 m (pc + 1) ls (.int (bI (h j)) :: rest))) : W p l e R s m args below meth c H locs cells slots Q (F0 m pc ls (.int (nI j) :: .ref a :: rest)) :=
  va_zald hexec hb hK hP q0 t0 ha ht (vp_in_nI hj hn) hdg (by rw [nI_clamp (Nat.lt_trans hj hn)]; exact kk)
theorem my_zaldN (hexec : p.tables.exec = Jvm.exec) (hb : c.code = cc) (hK : va_K D cl tys s) (hP : va_P D cl ws H) (q0 t0 : Nat) {cA : ClassId} {n : Nat} {h : Nat → Bool} (ha : ws[q0]? = some (a, .inl (cA, n, .inl (zn h)))) (ht : tys[t0]? = some (cA, .boolean)) {j : Nat} (hj : j < n) (hn : n < 2 ^ 31) (hdg : decode cc pc = .ok (.baload, 1))
    (kk : W p l e R s m args below meth c H locs cells slots Q (F0 m (pc + 1) ls (.int (bI (!h j)) :: rest))) : W p l e R s m args below meth c H locs cells slots Q (F0 m pc ls (.int (nI j) :: .ref a :: rest)) :=
  va_zald hexec hb hK hP q0 t0 ha ht (vp_in_nI hj hn) hdg (by rw [nI_clamp (Nat.lt_trans hj hn)]; exact kk)
theorem my_zastP (hexec : p.tables.exec = Jvm.exec) (hb : c.code = cc) (hK : va_K D cl tys s) (hP : va_P D cl ws H) (hD : va_D A ws) (hS : va_S A H0 H locs) (q0 t0 : Nat) {cA : ClassId} {n : Nat} {h : Nat → Bool} (ha : ws[q0]? = some (a, .inl (cA, n, .inl (zp h)))) (ht : tys[t0]? = some (cA, .boolean)) {j : Nat} {x : Int32} (y : Bool) (hy : x = bI y) (hj : j < n) (hn : n < 2 ^ 31) (hdg : decode cc pc = .ok (.bastore, 1))
    (kk : ∀ (H1 : Heap) (locs1 : List Loc), va_P D cl (ws.set q0 (a, .inl (cA, n, .inl (zp (updB h j y))))) H1 → va_D A (ws.set q0 (a, .inl (cA, n, .inl (zp (updB h j y))))) → va_S A H0 H1 locs1 → W p l e R s m args below meth c H1 locs1 cells slots Q (F0 m (pc + 1) ls rest)) : W p l e R s m args below meth c H locs cells slots Q (F0 m pc ls (.int x :: .int (nI j) :: .ref a :: rest)) :=
  va_zast hexec hb hK hP hD hS q0 t0 ha ht (vp_in_nI hj hn) hdg (fun H1 locs1 h1 h2 h3 => by
    rw [nI_clamp (Nat.lt_trans hj hn), hy, zp_upd] at h1 h2
    exact kk H1 locs1 h1 h2 h3)
theorem my_zastN (hexec : p.tables.exec = Jvm.exec) (hb : c.code = cc) (hK : va_K D cl tys s) (hP : va_P D cl ws H) (hD : va_D A ws) (hS : va_S A H0 H locs) (q0 t0 : Nat) {cA : ClassId} {n : Nat} {h : Nat → Bool} (ha : ws[q0]? = some (a, .inl (cA, n, .inl (zn h)))) (ht : tys[t0]? = some (cA, .boolean)) {j : Nat} {x : Int32} (y : Bool) (hy : x = bI (!y)) (hj : j < n) (hn : n < 2 ^ 31) (hdg : decode cc pc = .ok (.bastore, 1))
    (kk : ∀ (H1 : Heap) (locs1 : List Loc), va_P D cl (ws.set q0 (a, .inl (cA, n, .inl (zn (updB h j y))))) H1 → va_D A (ws.set q0 (a, .inl (cA, n, .inl (zn (updB h j y))))) → va_S A H0 H1 locs1 → W p l e R s m args below meth c H1 locs1 cells slots Q (F0 m (pc + 1) ls rest)) : W p l e R s m args below meth c H locs cells slots Q (F0 m pc ls (.int x :: .int (nI j) :: .ref a :: rest)) :=
  va_zast hexec hb hK hP hD hS q0 t0 ha ht (vp_in_nI hj hn) hdg (fun H1 locs1 h1 h2 h3 => by
    rw [nI_clamp (Nat.lt_trans hj hn), hy, zn_upd] at h1 h2
    exact kk H1 locs1 h1 h2 h3)
/-- a loop whose cells stay -/
theorem lp_P (pc N : Nat) (I : Nat → Array Slot → Prop) (body : ∀ (i : Nat) (ls : Array Slot), i ≤ N → I i ls → (i < N → ∀ ls' : Array Slot, I (i + 1) ls' → W p l e R s m args below meth c H locs cells slots Q (F0 m pc ls' [])) → W p l e R s m args below meth c H locs cells slots Q (F0 m pc ls [])) (i0 : Nat) (h0 : i0 ≤ N) (ls : Array Slot) (hI : I i0 ls) : W p l e R s m args below meth c H locs cells slots Q (F0 m pc ls []) := by
  have key : ∀ (n i : Nat), i + n = N → ∀ ls : Array Slot, I i ls → W p l e R s m args below meth c H locs cells slots Q (F0 m pc ls []) := by
    intro n
    induction n with
    | zero =>
      intro i hi ls hI
      exact body i ls (by omega) hI (fun h => absurd h (by omega))
    | succ n ih =>
      intro i hi ls hI
      exact body i ls (by omega) hI (fun _ ls' h => ih (i + 1) (by omega) ls' h)
  exact key (N - i0) i0 (by omega) ls hI
/-- a loop that writes -/
theorem lp_Q (pc N : Nat) (I : Nat → Heap → List Loc → Array Slot → Prop) (body : ∀ (i : Nat) (H : Heap) (locs : List Loc) (ls : Array Slot), i ≤ N → I i H locs ls → (i < N → ∀ (H' : Heap) (locs' : List Loc) (ls' : Array Slot), I (i + 1) H' locs' ls' → W p l e R s m args below meth c H' locs' cells slots Q (F0 m pc ls' [])) → W p l e R s m args below meth c H locs cells slots Q (F0 m pc ls [])) (i0 : Nat) (h0 : i0 ≤ N) (H : Heap) (locs : List Loc) (ls : Array Slot) (hI : I i0 H locs ls) : W p l e R s m args below meth c H locs cells slots Q (F0 m pc ls []) := by
  have key : ∀ (n i : Nat), i + n = N → ∀ (H : Heap) (locs : List Loc) (ls : Array Slot), I i H locs ls → W p l e R s m args below meth c H locs cells slots Q (F0 m pc ls []) := by
    intro n
    induction n with
    | zero =>
      intro i hi H locs ls hI
      exact body i H locs ls (by omega) hI (fun h => absurd h (by omega))
    | succ n ih =>
      intro i hi H locs ls hI
      exact body i H locs ls (by omega) hI (fun _ H' locs' ls' h => ih (i + 1) (by omega) H' locs' ls' h)
  exact key (N - i0) i0 (by omega) H locs ls hI
end MYROWS
