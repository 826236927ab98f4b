/-! CONTRACTS over the picture, and calls -/
def jPre (D : va_G) (cy : Nat → ClassId) (ad : Nat → Nat) (N : Nat) (K : Nat → jSh) (x : jM) (sz : Nat) : State → Prop := fun U => U.heap.size = sz ∧ va_P D vwCl (jW ad cy N K x) U.heap ∧ va_K D vwCl (jty cy) U ∧ va_D (fun _ => True) (jW ad cy N K x)
def jPost (D : va_G) (cy : Nat → ClassId) (ad : Nat → Nat) (N : Nat) (K : Nat → jSh) (A : Nat → Prop) (Qr : Option Value → jM → Prop) : Array Value → State → Outcome → State → Prop := fun _ st oc t => (∃ (r : Option Value) (x' : jM), oc = .returned (r.map (jv ad)) ∧ Qr r x' ∧ va_P D vwCl (jW ad cy N K x') t.heap ∧ va_K D vwCl (jty cy) t ∧ va_D A (jW ad cy N K x')) ∧ va_F A st t
/-- the method y does what T says, over every memory of the shape K -/
def jMet (l : Launch) (y : MethodName) (ws : List Cond) (rm : Room) (N : Nat) (K : Nat → jSh) (T : List Value → jM → (Option Value → jM → Prop) → Prop) : Prop := ∀ (D : va_G) (cy : Nat → ClassId) (ad : Nat → Nat) (as : List Value) (x : jM) (Qr : Option Value → jM → Prop) (sz : Nat), T as x Qr → Met l y ws rm (va_Pc (as.map (jv ad)) (jPre D cy ad N K x sz)) (jPost D cy ad N K (va_A (jW ad cy N K x) sz) Qr) 0 0 (va_A (jW ad cy N K x) sz)
theorem lw_good : ∀ w ∈ jt, goodWord w = true := fun _ h => (List.mem_filter.mp h).2
theorem jgood {Ts : List Cond} {w : Cond} (hT : ∀ w ∈ jt, w ∈ Ts) (h : w ∈ jt) : w ∈ Ts ∧ ((w.onTables && w.keeps) = true ∨ ∃ ty, w = .arrayClass ty) := ⟨hT w h, good_of_word (lw_good w h)⟩
theorem jgoodIn {Ts : List Cond} {w0 : Cond} (hT : ∀ w ∈ jt, w ∈ Ts) (h0 : w0 ∈ jt) : GoodIn Ts (w0 :: jt) := fun w hw => (List.mem_cons.mp hw).elim (fun e => e ▸ jgood hT h0) (fun h => jgood hT h)
section JC
variable {p : Program} {l : Launch} {e : Env} {R : Room} {s : State} {m : MethodId} {args : Array Value} {below : List Frame} {meth : Method} {c : Code} {cells slots : Nat} {Q : State → Prop}
variable {cc : ByteArray} {D : va_G} {cy : Nat → ClassId} {ad : Nat → Nat} {N nL : Nat} {K : Nat → jSh} {A : Nat → Prop} {own : String} {Ts : List Cond}
variable {pc : Nat} {L : List (Option Value)} {st : List Value} {x : jM}
theorem jblind {as : List Value} {sz : Nat} : FrameBlind (va_Pc as (jPre D cy ad N K x sz)) := fun a U g mk q => by
  obtain ⟨q0, q1, qP, qK, qD⟩ := q
  exact ⟨q0, q1, qP, va_K.moved (u := U) (U := U.calling g mk a) (Vm.Alike.refl U.vm) qK, qD⟩
theorem js_call {H : Heap} {locs : List Loc} {ls : Array Slot} {st0 rest : List Value} {a : Array Value} {Qr : Option Value → jM → Prop} (hr : va_Run p l e R s m args below meth c H locs cells slots 0 0 (F0 m pc ls st0) rest (jPost D cy ad N K (va_A (jW ad cy N K x) H.size) Qr a) (va_A (jW ad cy N K x) H.size)) (hS : va_S A s.heap H locs) (hF : ∀ q, va_A (jW ad cy N K x) H.size q → A q)
    (kk : ∀ (r : Option Value) (x' : jM) (H1 : Heap) (locs1 : List Loc), Qr r x' → va_P D vwCl (jW ad cy N K x') H1 → va_D A (jW ad cy N K x') → va_S A s.heap H1 locs1 → W p l e R s m args below meth c H1 locs1 cells slots Q (F0 m (pc + 3) ls ((r.map (jv ad)).toList ++ rest))) : W p l e R s m args below meth c H locs cells slots Q (F0 m pc ls st0) := by
  intro T hT X
  obtain ⟨v, st₀, t, T', L, h0, X', hL, e1, e2, ⟨⟨r, x', hv, hp, hP, hK, hD⟩, hz, hk⟩, st⟩ := hr T hT X
  cases hv
  rw [h0] at hz hk
  obtain ⟨t2, a1, b1⟩ := kk r x' T'.heap (locs ++ L) hp (by rw [e1]; exact hP) ⟨hD.1, fun k q hq => hF _ (hD.2 k q hq)⟩
    ⟨Nat.le_trans hS.1 (by rw [e1]; exact hz), fun q h1 h2 => by rw [e1, hk q (Nat.lt_of_lt_of_le h1 hS.1) (fun z => h2 (hF q z))]; exact hS.2.1 q h1 h2, fun q hq => by
      rcases List.mem_append.mp hq with h | h
      · exact hS.2.2 q h
      · exact hF _ (hL q h)⟩ T' rfl X'
  exact ⟨t2, st t2 a1, b1⟩
theorem js_hF {H : Heap} {locs : List Loc} (hA : ∀ q : Nat, s.heap.size ≤ q → A q) (hD : va_D A (jW ad cy N K x)) (hS : va_S A s.heap H locs) : ∀ q, va_A (jW ad cy N K x) H.size q → A q := by
  intro q h
  rcases h with ⟨k, e, h⟩ | h
  · exact hD.2 k _ h
  · exact hA q (Nat.le_trans hS.1 h)
theorem js_callV {y : MethodName} {bytes : ByteArray} {maxL ix n o tg : Nat} {ret : Option FieldType} {rm : Room} {T : List Value → jM → (Option Value → jM → Prop) → Prop} {Qr : Option Value → jM → Prop} {As r : List Value} {q : vw_C} (E : jE p R s m args c cells slots cc D cy nL A own Ts)
    (hO : jMet l y (.code y bytes maxL ret :: jt) rm N K T) (hrc : rm.cells = 0) (hrs : rm.slots = 0) (w1 : Cond.methodLink own ix y ∈ jt) (w2 : Cond.instanceMethod y ∈ jt) (w3 : Cond.selects y.cls y y ∈ jt) (w4 : Cond.initialized y.cls ∈ jt) (w5 : Cond.code y bytes maxL ret ∈ jt)
    (hd0 : y.cls ≠ "java/lang/invoke/MethodHandle" ∧ y.cls ≠ "java/lang/invoke/VarHandle" ∧ (parseMethodDescriptor y.desc).map (fun d => d.parameters.length) = some n) (hR : rm.frames + 1 ≤ R.frames ∧ 8 + (maxL + 11) + rm.locals ≤ R.locals)
    (hj : jar N K o tg = true) (hq : vwCl[tg]? = some q) (hqc : q.1 = y.cls) (hn : As.length = n) (hc : jcs r = true) (hd : decode cc pc = .ok (.invokevirtual ix, 3)) (hx : T (.ref o :: As) x Qr) (k : ∀ (rv : Option Value) (x' : jM), Qr rv x' → jT p l e R s m args below meth c cells slots Q D cy ad N nL K A (pc + 3) L (rv.toList ++ r) x') : jT p l e R s m args below meth c cells slots Q D cy ad N nL K A pc L (As.reverse ++ .ref o :: r) x := by
  intro H locs ls h1 h2 h3 h4
  obtain ⟨ho, ht⟩ := jar_spec hj
  have he := jW_at (ad := ad) (cy := cy) (K := K) (x := x) ho
  rw [jce_obj (by rw [ht]; exact vwCl_lt hq), ht] at he
  have hT := E.2.2.2.2.2.2.2.1
  have hK := E.2.2.2.2.2.1
  have cw := cwV (R := R) (s := s) (args := args) (own := own) (index := ix) (C := y.cls) (y := y) (bytes := bytes) (maxL := maxL) (ret := ret) (rm := rm) (mc := 0) (ms := 0) n E.2.2.2.2.1 (ws := .code y bytes maxL ret :: jt) (fun w hw => by
    rcases List.mem_append.mp hw with h | h
    · simp only [List.mem_cons, List.not_mem_nil, or_false] at h
      rcases h with rfl | rfl | rfl | rfl
      · exact jgood hT w1
      · exact jgood hT w2
      · exact jgood hT w3
      · exact jgood hT w4
    · exact jgoodIn hT w5 w h) rfl hrc hrs ⟨rfl, hd0⟩ hR
  have run := va_runV (p := p) (l := l) (e := e) (below := below) (meth := meth) (cells := cells) (slots := slots) (locs := locs) (H := H) (As := As.map (jv ad)) (b := ad o) (rest := r.map (jv ad)) (g := F0 m pc ls ((As.reverse ++ .ref o :: r).map (jv ad))) ⟨E.1, E.2.1, E.2.2.1, E.2.2.2.1, E.2.2.2.2.1⟩ (hO D cy ad (.ref o :: As) x Qr H.size hx) cw
    ⟨jblind, by obtain ⟨cell, c1, c2, c3⟩ := va_recv hK h1 hq he; exact ⟨cell, c1, c2, by rw [← hqc]; exact c3⟩, fun U hU hW => ⟨rfl, by rw [hU], by rw [hU]; exact h1, va_K.moved hW.alike hK, h2.1, fun _ _ _ => trivial⟩⟩ rfl (by rw [List.length_map]; exact hn) h4.1 (by simp [jv]) (lv_room (jcs_spec hc)) hd ⟨E.2.2.2.2.2.2.2.2.1, E.2.2.2.2.2.2.2.2.2⟩
  refine js_call run h3 (js_hF E.2.2.2.2.2.2.1 h2 h3) (fun rv x' H1 locs1 hq' hP hD hS => ?_)
  have := k rv x' hq' H1 locs1 ls hP hD hS h4
  cases rv with
  | none => simpa using this
  | some v => simpa using this
theorem js_callS {y : MethodName} {bytes : ByteArray} {maxL ix n : Nat} {ret : Option FieldType} {rm : Room} {T : List Value → jM → (Option Value → jM → Prop) → Prop} {Qr : Option Value → jM → Prop} {As r : List Value} (E : jE p R s m args c cells slots cc D cy nL A own Ts)
    (hO : jMet l y (.code y bytes maxL ret :: jt) rm N K T) (hrc : rm.cells = 0) (hrs : rm.slots = 0) (w1 : Cond.methodLink own ix y ∈ jt) (w2 : Cond.static y ∈ jt) (w4 : Cond.initialized y.cls ∈ jt) (w5 : Cond.code y bytes maxL ret ∈ jt)
    (hd0 : y.cls ≠ "java/lang/invoke/MethodHandle" ∧ y.cls ≠ "java/lang/invoke/VarHandle" ∧ (parseMethodDescriptor y.desc).map (fun d => d.parameters.length) = some n) (hR : rm.frames + 1 ≤ R.frames ∧ 8 + (maxL + 11) + rm.locals ≤ R.locals)
    (hn : As.length = n) (hc : jcs r = true) (hd : decode cc pc = .ok (.invokestatic ix, 3)) (hx : T As x Qr) (k : ∀ (rv : Option Value) (x' : jM), Qr rv x' → jT p l e R s m args below meth c cells slots Q D cy ad N nL K A (pc + 3) L (rv.toList ++ r) x') : jT p l e R s m args below meth c cells slots Q D cy ad N nL K A pc L (As.reverse ++ r) x := by
  intro H locs ls h1 h2 h3 h4
  have hT := E.2.2.2.2.2.2.2.1
  have hK := E.2.2.2.2.2.1
  have tw : ∀ w ∈ jt, w.before args s = true := fun w h => E.2.2.2.2.1 w (hT w h)
  have cw := callB_of (R := R) (s := s) (args := args) (own := own) (index := ix) (y := y) (bytes := bytes) (maxL := maxL) (ret := ret) (rm := rm) (mc := 0) (ms := 0) n E.2.2.2.2.1 (ws := .code y bytes maxL ret :: jt) (jgoodIn hT w5) rfl hrc hrs (tw _ w4) (tw _ w1) hd0 hR
  have run := va_runS (p := p) (l := l) (e := e) (below := below) (meth := meth) (cells := cells) (slots := slots) (locs := locs) (H := H) (As := As.map (jv ad)) (rest := r.map (jv ad)) (g := F0 m pc ls ((As.reverse ++ r).map (jv ad))) ⟨E.1, E.2.1, E.2.2.1, E.2.2.2.1, E.2.2.2.2.1⟩ (hO D cy ad As x Qr H.size hx) ⟨cw, tw _ w2⟩
    ⟨jblind, fun U hU hW => ⟨rfl, by rw [hU], by rw [hU]; exact h1, va_K.moved hW.alike hK, h2.1, fun _ _ _ => trivial⟩⟩ rfl (by rw [List.length_map]; exact hn) h4.1 (by simp) (lv_room (jcs_spec hc)) hd ⟨E.2.2.2.2.2.2.2.2.1, E.2.2.2.2.2.2.2.2.2⟩
  refine js_call run h3 (js_hF E.2.2.2.2.2.2.1 h2 h3) (fun rv x' H1 locs1 hq' hP hD hS => ?_)
  have := k rv x' hq' H1 locs1 ls hP hD hS h4
  cases rv with
  | none => simpa using this
  | some v => simpa using this
end JC
