/-! SOUND: fields and rows of numbers -/
theorem jcl_ok : ∀ (ci : Nat) (q : vw_C), vwCl[ci]? = some q → (∀ w ∈ u_ws q.1 q.2.1 q.2.2, w ∈ jt) ∧ ∃ ty0 : Nat → FieldType, (∀ k, k < q.2.2 → parseFieldDescriptor (q.2.1 k).2.2.1 = some (ty0 k)) ∧ (∀ a, a < q.2.2 → ∀ b, b < q.2.2 → a ≠ b → (q.2.1 a).2.1 ≠ (q.2.1 b).2.1) := by
  intro ci q h
  match ci, h with
  | 0, h => cases h; exact ⟨inX0, tyX0, tyX0_ok, nmX0⟩
  | 1, h => cases h; exact ⟨inX1, tyX1, tyX1_ok, nmX1⟩
  | 2, h => cases h; exact ⟨inX2, tyX2, tyX2_ok, nmX2⟩
  | 3, h => cases h; exact ⟨inX3, tyX3, tyX3_ok, nmX3⟩
  | 4, h => cases h; exact ⟨inX4, tyX4, tyX4_ok, nmX4⟩
  | 5, h => cases h; exact ⟨inX5, tyX5, tyX5_ok, nmX5⟩
  | 6, h => cases h; exact ⟨inX6, tyX6, tyX6_ok, nmX6⟩
  | 7, h => cases h; exact ⟨inX7, tyX7, tyX7_ok, nmX7⟩
  | k + 8, h => simp [vwCl] at h
theorem vwCl_lt {ci : Nat} {q : vw_C} (h : vwCl[ci]? = some q) : ci < 8 := by
  have := (List.getElem?_eq_some_iff.mp h).1
  simpa [vwCl] using this
theorem job_spec {N : Nat} {K : Nat → jSh} {o a b : Nat} (h : job N K o a b = true) : o < N ∧ (K o).1 = a ∧ b < (K o).2.1 := by
  simpa [job] using h
theorem jar_spec {N : Nat} {K : Nat → jSh} {o a : Nat} (h : jar N K o a = true) : o < N ∧ (K o).1 = a := by
  simpa [jar] using h
theorem jB_spec {b : Bool} {P : Prop} (h : jB b P) : b = true ∧ P := by
  cases b with
  | true => exact ⟨rfl, h⟩
  | false => exact h.elim
theorem jset_fs {ad : Nat → Nat} {cy : Nat → ClassId} {h : jSh} {f : Nat → Int32} {b : Nat} {v : Int32} (ht : h.1 < 8) (hk : h.2.2 b = 0) :
    (Sum.inr (h.1, ((List.range h.2.1).map (fun k => jfv ad (h.2.2 k) (f k))).set b (.int v)) : va_E) = jce ad cy h (upd f b v) := by
  rw [jce_obj ht]
  congr 2
  apply List.ext_getElem?
  intro k
  rw [List.getElem?_set]
  by_cases hb : b = k
  · subst hb
    by_cases hl : b < h.2.1
    · simp [hl, hk, jfv, upd]
    · simp [hl]
  · rw [if_neg hb]
    by_cases hl : k < h.2.1
    · simp [hl, upd, Ne.symm hb]
    · simp [hl]
theorem jcs_spec {ad : Nat → Nat} {st : List Value} (h : jcs st = true) : ((st.map (jv ad)).map fun v => v.category).sum ≤ 8 := by
  have : (st.map (jv ad)).map (fun v => v.category) = st.map (fun v => v.category) := by
    rw [List.map_map]
    exact List.map_congr_left (fun v _ => jv_cat ad v)
  rw [this]
  simpa [jcs] using h
theorem mw_ini : Cond.initialized "java/lang/Math" ∈ jt := by decide +kernel
theorem mw_min : Cond.static Lib.Math.min.name ∈ jt ∧ Cond.code Lib.Math.min.name Lib.Math.min.code 2 (some .int) ∈ jt := by decide +kernel
theorem mw_max : Cond.static Lib.Math.max.name ∈ jt ∧ Cond.code Lib.Math.max.name Lib.Math.max.code 2 (some .int) ∈ jt := by decide +kernel
theorem mw_abs : Cond.static Lib.Math.abs.name ∈ jt ∧ Cond.code Lib.Math.abs.name Lib.Math.abs.code 1 (some .int) ∈ jt := by decide +kernel
theorem mw_copy : Cond.native arraycopyName ∈ jt ∧ Cond.static arraycopyName ∈ jt ∧ Cond.initialized "java/lang/System" ∈ jt := by decide +kernel
section JS2
variable {p : Program} {l : Launch} {e : Env} {R : Room} {s : State} {m : MethodId} {args : Array Value} {below : List Frame} {meth : Method} {c : Code} {cells slots : Nat} {Q : State → Prop}
variable {cc : ByteArray} {D : va_G} {cy : Nat → ClassId} {ad : Nat → Nat} {N nL : Nat} {K : Nat → jSh} {A : Nat → Prop} {own : String} {Ts : List Cond}
variable {pc : Nat} {L : List (Option Value)} {st : List Value} {x : jM}
theorem js_get {n o a b : Nat} {v : Value} {q : vw_C} (E : jE p R s m args c cells slots cc D cy nL A own Ts) (hq : vwCl[a]? = some q) (hb : b < q.2.2) (hw : Cond.fieldLink own n (q.2.1 b).1 (q.2.1 b).2.1 (q.2.1 b).2.2.1 ∈ jt) (hj : job N K o a b = true) (hd : decode cc pc = .ok (.getfield n, 3)) (hv : jfv ad ((K o).2.2 b) (x o b) = jv ad v) (k : jT p l e R s m args below meth c cells slots Q D cy ad N nL K A (pc + 3) L (v :: st) x) : jT p l e R s m args below meth c cells slots Q D cy ad N nL K A pc L (.ref o :: st) x := by
  intro H locs ls h1 h2 h3 h4
  obtain ⟨hcw, ty0, hty, hnm⟩ := jcl_ok a q hq
  obtain ⟨ho, ht, hl⟩ := job_spec hj
  have he := jW_at (ad := ad) (cy := cy) (K := K) (x := x) ho
  rw [jce_obj (by rw [ht]; exact vwCl_lt hq), ht] at he
  exact va_get (D := D) (ci := a) (v := jv ad v) (C := q.1) (T := q.2.1) (N := q.2.2) E.1 E.2.1 E.2.2.2.2.1 (fun w h => E.2.2.2.2.2.2.2.1 w (hcw w h)) E.2.2.2.1 E.2.2.2.2.2.1 h1 o he hq b hb (E.2.2.2.2.1 _ (E.2.2.2.2.2.2.2.1 _ hw)) (fun _ h9 => h9) (by simp [hl, hv]) hd (k H locs ls h1 h2 h3 h4)
theorem js_put {n o a b : Nat} {v : Int32} {q : vw_C} {ty : FieldType} (E : jE p R s m args c cells slots cc D cy nL A own Ts) (hq : vwCl[a]? = some q) (hb : b < q.2.2) (hw : Cond.fieldLink own n (q.2.1 b).1 (q.2.1 b).2.1 (q.2.1 b).2.2.1 ∈ jt) (hfin : (q.2.1 b).2.2.2 = false) (hpd : parseFieldDescriptor (q.2.1 b).2.2.1 = some ty) (hn : narrow ty (.int v) = .int v) (hfit : fits ty (.int v) = true) (hj : job N K o a b = true) (hk : (K o).2.2 b = 0) (hd : decode cc pc = .ok (.putfield n, 3)) (k : jT p l e R s m args below meth c cells slots Q D cy ad N nL K A (pc + 3) L st (ju x o b v)) : jT p l e R s m args below meth c cells slots Q D cy ad N nL K A pc L (.int v :: .ref o :: st) x := by
  intro H locs ls h1 h2 h3 h4
  obtain ⟨hcw, ty0, hty, hnm⟩ := jcl_ok a q hq
  obtain ⟨ho, ht, hl⟩ := job_spec hj
  have he := jW_at (ad := ad) (cy := cy) (K := K) (x := x) ho
  have h8 : (K o).1 < 8 := by rw [ht]; exact vwCl_lt hq
  rw [jce_obj h8] at he
  refine va_put (D := D) (ci := (K o).1) (v := .int v) (ty := ty) (C := q.1) (T := q.2.1) (N := q.2.2) E.1 E.2.1 E.2.2.2.2.1 (fun w h => E.2.2.2.2.2.2.2.1 w (hcw w h)) ty0 hty hnm E.2.2.2.1 E.2.2.2.2.2.1 h1 h2 h3 o he (by rw [ht]; exact hq) b hb (E.2.2.2.2.1 _ (E.2.2.2.2.2.2.2.1 _ hw)) (fun _ h9 => h9) hfin hpd hn hfit (by simp [hl]) hd (fun H1 locs1 hP hD hS => ?_)
  rw [jset_fs (cy := cy) h8 hk, jW_set] at hP hD
  exact k H1 locs1 ls hP hD hS h4
theorem js_iald {o : Nat} {i : Int32} (E : jE p R s m args c cells slots cc D cy nL A own Ts) (hj : jar N K o 8 = true) (hin : vp_in i (K o).2.1) (hd : decode cc pc = .ok (.iaload, 1)) (k : jT p l e R s m args below meth c cells slots Q D cy ad N nL K A (pc + 1) L (.int (x o i.toNatClampNeg) :: st) x) : jT p l e R s m args below meth c cells slots Q D cy ad N nL K A pc L (.int i :: .ref o :: st) x := by
  intro H locs ls h1 h2 h3 h4
  obtain ⟨ho, ht⟩ := jar_spec hj
  have he := jW_at (ad := ad) (cy := cy) (K := K) (x := x) ho
  rw [jce_int (by omega) (by omega), ht] at he
  exact va_iald E.1 E.2.1 E.2.2.2.2.2.1 h1 o 0 he rfl hin hd (k H locs ls h1 h2 h3 h4)
theorem js_bald {o : Nat} {i : Int32} (E : jE p R s m args c cells slots cc D cy nL A own Ts) (hj : jar N K o 9 = true) (hin : vp_in i (K o).2.1) (hd : decode cc pc = .ok (.baload, 1)) (k : jT p l e R s m args below meth c cells slots Q D cy ad N nL K A (pc + 1) L (.int (x o i.toNatClampNeg) :: st) x) : jT p l e R s m args below meth c cells slots Q D cy ad N nL K A pc L (.int i :: .ref o :: st) x := by
  intro H locs ls h1 h2 h3 h4
  obtain ⟨ho, ht⟩ := jar_spec hj
  have he := jW_at (ad := ad) (cy := cy) (K := K) (x := x) ho
  rw [jce_int (by omega) (by omega), ht] at he
  exact va_zald E.1 E.2.1 E.2.2.2.2.2.1 h1 o 1 he rfl hin hd (k H locs ls h1 h2 h3 h4)
theorem js_iast {o : Nat} {i v : Int32} (E : jE p R s m args c cells slots cc D cy nL A own Ts) (hj : jar N K o 8 = true) (hin : vp_in i (K o).2.1) (hd : decode cc pc = .ok (.iastore, 1)) (k : jT p l e R s m args below meth c cells slots Q D cy ad N nL K A (pc + 1) L st (ju x o i.toNatClampNeg v)) : jT p l e R s m args below meth c cells slots Q D cy ad N nL K A pc L (.int v :: .int i :: .ref o :: st) x := by
  intro H locs ls h1 h2 h3 h4
  obtain ⟨ho, ht⟩ := jar_spec hj
  have he := jW_at (ad := ad) (cy := cy) (K := K) (x := x) ho
  rw [jce_int (by omega) (by omega)] at he
  refine va_iast E.1 E.2.1 E.2.2.2.2.2.1 h1 h2 h3 o 0 he (by rw [ht]; rfl) hin hd (fun H1 locs1 hP hD hS => ?_)
  rw [← jce_int (ad := ad) (cy := cy) (by omega) (by omega), jW_set] at hP hD
  exact k H1 locs1 ls hP hD hS h4
theorem js_bast {o : Nat} {i v : Int32} (E : jE p R s m args c cells slots cc D cy nL A own Ts) (hj : jar N K o 9 = true) (hin : vp_in i (K o).2.1) (hv : v = 0 ∨ v = 1) (hd : decode cc pc = .ok (.bastore, 1)) (k : jT p l e R s m args below meth c cells slots Q D cy ad N nL K A (pc + 1) L st (ju x o i.toNatClampNeg v)) : jT p l e R s m args below meth c cells slots Q D cy ad N nL K A pc L (.int v :: .int i :: .ref o :: st) x := by
  intro H locs ls h1 h2 h3 h4
  obtain ⟨ho, ht⟩ := jar_spec hj
  have he := jW_at (ad := ad) (cy := cy) (K := K) (x := x) ho
  rw [jce_int (by omega) (by omega)] at he
  have hz : vp_nar .boolean v = v := by rcases hv with rfl | rfl <;> rfl
  refine va_zast E.1 E.2.1 E.2.2.2.2.2.1 h1 h2 h3 o 1 he (by rw [ht]; rfl) hin hd (fun H1 locs1 hP hD hS => ?_)
  rw [hz, ← jce_int (ad := ad) (cy := cy) (by omega) (by omega), jW_set] at hP hD
  exact k H1 locs1 ls hP hD hS h4
theorem js_aald {o a j : Nat} {i : Int32} (E : jE p R s m args c cells slots cc D cy nL A own Ts) (hj : jar N K o a = true) (ha : 10 ≤ a ∧ a < 12) (hin : vp_in i (K o).2.1) (hr : (K o).2.2 i.toNatClampNeg = j + 2) (hd : decode cc pc = .ok (.aaload, 1)) (k : jT p l e R s m args below meth c cells slots Q D cy ad N nL K A (pc + 1) L (.ref j :: st) x) : jT p l e R s m args below meth c cells slots Q D cy ad N nL K A pc L (.int i :: .ref o :: st) x := by
  intro H locs ls h1 h2 h3 h4
  obtain ⟨ho, ht⟩ := jar_spec hj
  have he := jW_at (ad := ad) (cy := cy) (K := K) (x := x) ho
  rw [jce_ref (by omega), ht] at he
  have hk := k H locs ls h1 h2 h3 h4
  have hlt : i.toNatClampNeg < (K o).2.1 := Nat.not_le.mp fun q => hin (Or.inr q)
  rcases (show a = 10 ∨ a = 11 by omega) with rfl | rfl
  · refine va_aldq (C := RX2) E.1 E.2.1 E.2.2.2.2.2.1 h1 o 2 he rfl hin hd ?_
    rw [if_pos hlt, hr]
    exact hk
  · refine va_aldq (C := RX5) E.1 E.2.1 E.2.2.2.2.2.1 h1 o 3 he rfl hin hd ?_
    rw [if_pos hlt, hr]
    exact hk
theorem js_mmin {n : Nat} {v y : Int32} (E : jE p R s m args c cells slots cc D cy nL A own Ts) (hR : 1 ≤ R.frames ∧ 21 ≤ R.locals) (hw : Cond.methodLink own n Lib.Math.min.name ∈ jt) (hc : jcs st = true) (hd : decode cc pc = .ok (.invokestatic n, 3)) (k : jT p l e R s m args below meth c cells slots Q D cy ad N nL K A (pc + 3) L (.int (if y < v then y else v) :: st) x) : jT p l e R s m args below meth c cells slots Q D cy ad N nL K A pc L (.int y :: .int v :: st) x := by
  intro H locs ls h1 h2 h3 h4
  have T : ∀ w ∈ jt, w.before args s = true := fun w h => E.2.2.2.2.1 w (E.2.2.2.2.2.2.2.1 w h)
  exact va_mmin E.1 E.2.1 (by rw [E.2.2.1, h4.1]) E.2.2.2.1 (T _ hw) (T _ mw_min.1) (T _ mw_ini) (T _ mw_min.2) hR.1 (by have := jcs_spec (ad := ad) hc; omega) E.2.2.2.2.2.2.2.2.1 E.2.2.2.2.2.2.2.2.2 hd (k H locs ls h1 h2 h3 h4)
theorem js_mmax {n : Nat} {v y : Int32} (E : jE p R s m args c cells slots cc D cy nL A own Ts) (hR : 1 ≤ R.frames ∧ 21 ≤ R.locals) (hw : Cond.methodLink own n Lib.Math.max.name ∈ jt) (hc : jcs st = true) (hd : decode cc pc = .ok (.invokestatic n, 3)) (k : jT p l e R s m args below meth c cells slots Q D cy ad N nL K A (pc + 3) L (.int (if v < y then y else v) :: st) x) : jT p l e R s m args below meth c cells slots Q D cy ad N nL K A pc L (.int y :: .int v :: st) x := by
  intro H locs ls h1 h2 h3 h4
  have T : ∀ w ∈ jt, w.before args s = true := fun w h => E.2.2.2.2.1 w (E.2.2.2.2.2.2.2.1 w h)
  exact va_mmax E.1 E.2.1 (by rw [E.2.2.1, h4.1]) E.2.2.2.1 (T _ hw) (T _ mw_max.1) (T _ mw_ini) (T _ mw_max.2) hR.1 (by have := jcs_spec (ad := ad) hc; omega) E.2.2.2.2.2.2.2.2.1 E.2.2.2.2.2.2.2.2.2 hd (k H locs ls h1 h2 h3 h4)
theorem js_mabs {n : Nat} {v : Int32} (E : jE p R s m args c cells slots cc D cy nL A own Ts) (hR : 1 ≤ R.frames ∧ 21 ≤ R.locals) (hw : Cond.methodLink own n Lib.Math.abs.name ∈ jt) (hc : jcs st = true) (hd : decode cc pc = .ok (.invokestatic n, 3)) (k : jT p l e R s m args below meth c cells slots Q D cy ad N nL K A (pc + 3) L (.int (if 0 ≤ v then v else 0 - v) :: st) x) : jT p l e R s m args below meth c cells slots Q D cy ad N nL K A pc L (.int v :: st) x := by
  intro H locs ls h1 h2 h3 h4
  have T : ∀ w ∈ jt, w.before args s = true := fun w h => E.2.2.2.2.1 w (E.2.2.2.2.2.2.2.1 w h)
  exact va_mabs E.1 E.2.1 (by rw [E.2.2.1, h4.1]) E.2.2.2.1 (T _ hw) (T _ mw_abs.1) (T _ mw_ini) (T _ mw_abs.2) hR.1 (by have := jcs_spec (ad := ad) hc; omega) E.2.2.2.2.2.2.2.2.1 E.2.2.2.2.2.2.2.2.2 hd (k H locs ls h1 h2 h3 h4)
theorem js_copy {ix o d : Nat} {sp dp n : Int32} (E : jE p R s m args c cells slots cc D cy nL A own Ts) (hR : 1 ≤ R.frames ∧ 8 + (nativeFrameWords "java/lang/System" "arraycopy" 5 + 11) ≤ R.locals) (hw : Cond.methodLink own ix arraycopyName ∈ jt) (hc : jcs st = true) (hjo : jar N K o 8 = true) (hjd : jar N K d 8 = true) (g1 : ¬ sp < 0) (g2 : ¬ dp < 0) (g3 : ¬ n < 0) (g4 : sp.toNatClampNeg + n.toNatClampNeg ≤ (K o).2.1) (g5 : dp.toNatClampNeg + n.toNatClampNeg ≤ (K d).2.1) (hd : decode cc pc = .ok (.invokestatic ix, 3)) (k : jT p l e R s m args below meth c cells slots Q D cy ad N nL K A (pc + 3) L st (jua x d (va_cpy (x o) (x d) sp.toNatClampNeg dp.toNatClampNeg n.toNatClampNeg))) : jT p l e R s m args below meth c cells slots Q D cy ad N nL K A pc L (.int n :: .int dp :: .ref d :: .int sp :: .ref o :: st) x := by
  intro H locs ls h1 h2 h3 h4
  have T : ∀ w ∈ jt, w.before args s = true := fun w h => E.2.2.2.2.1 w (E.2.2.2.2.2.2.2.1 w h)
  obtain ⟨ho, hto⟩ := jar_spec hjo
  obtain ⟨hdd, htd⟩ := jar_spec hjd
  have heo := jW_at (ad := ad) (cy := cy) (K := K) (x := x) ho
  rw [jce_int (by omega) (by omega)] at heo
  have hed := jW_at (ad := ad) (cy := cy) (K := K) (x := x) hdd
  rw [jce_int (by omega) (by omega)] at hed
  refine va_copyi E.1 E.2.1 (by rw [E.2.2.1, h4.1]) E.2.2.2.1 (T _ hw) (T _ mw_copy.1) (T _ mw_copy.2.1) (T _ mw_copy.2.2) E.2.2.2.2.2.1 h1 h2 h3 o d 0 0 (ty := .int) heo hed (by rw [hto]; rfl) (by rw [htd]; rfl) rfl g1 g2 g3 g4 g5 (fun _ _ => rfl) hR.1 (by have := jcs_spec (ad := ad) hc; omega) hd (fun H1 locs1 hP hD hS => ?_)
  rw [← jce_int (ad := ad) (cy := cy) (by omega) (by omega), jW_set] at hP hD
  exact k H1 locs1 ls hP hD hS h4
end JS2
