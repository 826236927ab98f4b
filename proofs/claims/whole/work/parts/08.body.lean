/-! A METHOD'S BODY -/
def jent : List Value → List (Option Value)
  | [] => []
  | v :: vs => if v.category = 2 then some v :: none :: jent vs else some v :: jent vs
def jenL (n : Nat) (as : List Value) : List (Option Value) := jent as ++ List.replicate (n - (jent as).length) none
theorem jent_len (ad : Nat → Nat) : ∀ as : List Value, (lg_sl (as.map (jv ad))).length = (jent as).length
  | [] => rfl
  | v :: vs => by
    have ih := jent_len ad vs
    simp only [lg_sl, List.map_cons, List.flatMap_cons, List.length_append, jent, jv_cat] at ih ⊢
    rw [ih]
    split <;> simp <;> omega
theorem jent_at (ad : Nat → Nat) : ∀ (as : List Value) (k i : Nat) (v : Value), (jent as)[i]? = some (some v) → (k + i, jv ad v) ∈ lv_args k (as.map (jv ad))
  | [], k, i, v, h => by simp [jent] at h
  | w :: ws, k, i, v, h => by
    simp only [List.map_cons, lv_args, jv_cat]
    by_cases hc : w.category = 2
    · simp only [jent, hc, if_true] at h ⊢
      match i, h with
      | 0, h => simp at h; subst h; exact List.mem_cons_self
      | 1, h => simp at h
      | j + 2, h =>
        have := jent_at ad ws (k + 2) j v (by simpa using h)
        rw [show k + (j + 2) = k + 2 + j by omega]
        exact List.mem_cons_of_mem _ this
    · simp only [jent, hc, if_false] at h ⊢
      match i, h with
      | 0, h => simp at h; subst h; exact List.mem_cons_self
      | j + 1, h =>
        have := jent_at ad ws (k + 1) j v (by simpa using h)
        rw [show k + (j + 1) = k + 1 + j by omega]
        exact List.mem_cons_of_mem _ this
theorem jL_entry {ad : Nat → Nat} {as : List Value} {n : Nat} (h : (jent as).length ≤ n) : jL ad ((lg_sl (as.map (jv ad)) ++ List.replicate (n - (lg_sl (as.map (jv ad))).length) Slot.unset).toArray) n (jenL n as) := by
  have hl := lv_entry (as.map (jv ad)) (n := n) (by rw [jent_len]; exact h)
  refine ⟨hl.1, hl.2.1, by simp [jenL]; omega, fun i v hi => ?_⟩
  unfold jenL at hi
  by_cases hlt : i < (jent as).length
  · rw [List.getElem?_append_left hlt] at hi
    have := hl.2.2 _ (jent_at ad as 0 i v hi)
    simpa using this
  · rw [List.getElem?_append_right (by omega), List.getElem?_replicate] at hi
    split at hi <;> simp at hi
def jchk (oi : Nat) (cc : ByteArray) (ret : Option FieldType) (Rf Rl : Nat) (code : List jI) : Bool := jnx code 0 0 && (List.range code.length).all (fun k => match code[k]? with
  | some q => jok oi cc ret Rf Rl code k q
  | none => true)
theorem jchk_at {oi : Nat} {cc : ByteArray} {ret : Option FieldType} {Rf Rl : Nat} {code : List jI} (h : jchk oi cc ret Rf Rl code = true) {k : Nat} {q : jI} (hq : code[k]? = some q) : jok oi cc ret Rf Rl code k q = true := by
  simp only [jchk, Bool.and_eq_true] at h
  have := List.all_eq_true.mp h.2 k (List.mem_range.mpr (List.getElem?_eq_some_iff.mp hq).1)
  rw [hq] at this
  exact this
section JB
variable {p : Program} {l : Launch} {e : Env} {R : Room} {s : State} {m : MethodId} {args : Array Value} {below : List Frame} {meth : Method} {c : Code} {cells slots : Nat} {Q : State → Prop}
variable {cc : ByteArray} {D : va_G} {cy : Nat → ClassId} {ad : Nat → Nat} {N nL : Nat} {K : Nat → jSh} {A : Nat → Prop} {Ts : List Cond}
theorem jrun {O : jO} {code : List jI} {Qr : Option Value → jM → Prop} {oi : Nat} {ret : Option FieldType} (E : jE p R s m args c cells slots cc D cy nL A (jcn oi) Ts)
    (hO : ∀ (a : Nat) (r : jR), jMt[a]? = some r → jMet l r.1 (.code r.1 r.2.1 r.2.2.1 r.2.2.2.1 :: jt) (jrm r) N K (O a))
    (hc : ∀ (k : Nat) (q : jI), code[k]? = some q → jok oi cc ret R.frames R.locals code k q = true)
    (hI : ∀ (v : Int32) (pc' : Nat) (L' : List (Option Value)) (x' : jM), decode cc pc' = .ok (.ireturn, 1) → (ret = some .int ∨ (ret = some .boolean ∧ (v = 0 ∨ v = 1))) → Qr (some (.int v)) x' → jT p l e R s m args below meth c cells slots Q D cy ad N nL K A pc' L' [.int v] x')
    (hV : ∀ (pc' : Nat) (L' : List (Option Value)) (x' : jM), decode cc pc' = .ok (.return_, 1) → ret = none → Qr none x' → jT p l e R s m args below meth c cells slots Q D cy ad N nL K A pc' L' [] x') :
    ∀ (n k pc : Nat) (L : List (Option Value)) (st : List Value) (x : jM), jnx code k pc = true → jwp O N K code Qr n k L st x → jT p l e R s m args below meth c cells slots Q D cy ad N nL K A pc L st x := by
  intro n
  induction n with
  | zero => intro k pc L st x _ h; exact False.elim h
  | succ n ih =>
    intro k pc L st x hn h
    unfold jnx at hn
    split at hn
    · next q hq =>
      simp only [beq_iff_eq] at hn
      unfold jwp at h
      rw [hq] at h
      rw [← hn]
      exact jx_ok E hO (hc k q hq) (fun k' pc' L' st' x' h1 h2 => ih k' pc' L' st' x' h1 h2) hI hV h
    · cases hn
end JB
theorem jbody {l : Launch} {N : Nat} {K : Nat → jSh} {O : jO} {code : List jI} {r : jR} {oi : Nat} (hp : plainName r.1.cls = true) (how : r.1.cls = jcn oi)
    (hO : ∀ (a : Nat) (r : jR), jMt[a]? = some r → jMet l r.1 (.code r.1 r.2.1 r.2.2.1 r.2.2.2.1 :: jt) (jrm r) N K (O a)) (hc : jchk oi r.2.1 r.2.2.2.1 r.2.2.2.2.2.2.1 r.2.2.2.2.2.2.2 code = true) :
    jMet l r.1 (.code r.1 r.2.1 r.2.2.1 r.2.2.2.1 :: jt) (jrm r) N K (fun as x Qr => (jent as).length ≤ r.2.2.1 ∧ ∃ n, jwp O N K code Qr n 0 (jenL r.2.2.1 as) [] x) := by
  intro D cy ad as x Qr sz hT
  obtain ⟨hfit, n, hw⟩ := hT
  refine Met.ofW (cc := r.2.1) (maxL := r.2.2.1) (ret := r.2.2.2.1) hp rfl ?_
  intro p e s m args below meth c s₁ B hml hv
  obtain ⟨rfl, hsz, hP, hK, hD0⟩ := hv
  have hr := B.returns
  have hts := atoms_spec (ws := .code r.1 r.2.1 r.2.2.1 r.2.2.2.1 :: jt) B.pre
  have hown : s.vm.findClass (jcn oi) = some m.cls := by rw [← how]; exact findClass_of_methodNamed B.named
  have hlocks := B.notSynchronized
  subst hsz
  have hD := hD0.self (sz := s.heap.size)
  generalize hAe : va_A (jW ad cy N K x) s.heap.size = A at hD ⊢
  have hA : ∀ q : Nat, s.heap.size ≤ q → A q := fun q h => by rw [← hAe]; exact Or.inr h
  rw [lg_entry_eq]
  have E : jE p (headSpec (.code r.1 r.2.1 r.2.2.1 r.2.2.2.1 :: jt) (jrm r)).room s m (as.map (jv ad)).toArray c 0 0 r.2.1 D cy r.2.2.1 A (jcn oi) (.code r.1 r.2.1 r.2.2.1 r.2.2.2.1 :: jt) :=
    ⟨B.exec, B.bytes, hml, hown, hts, hK, hA, fun w h => List.mem_cons_of_mem _ h, Nat.zero_le _, Nat.zero_le _⟩
  refine jrun (l := l) (Qr := Qr) E hO (fun k q hq => jchk_at hc hq) ?_ ?_ n 0 0 (jenL r.2.2.1 as) [] x ?_ hw s.heap [] _ hP hD va_S.rf (jL_entry hfit)
  · intro v pc' L' x' hd hrt hq H locs ls hP hD hS hL
    rcases hrt with hrt | ⟨hrt, hv⟩
    · rw [hrt] at hr
      exact W.iret (v := v) B.exec B.bytes hr (fun t ht hW => ⟨⟨some (.int v), x', rfl, hq, by rw [ht]; exact hP, va_K.moved hW.alike hK, hD⟩, hS.F ht⟩) hS.2.2 hd
    · rw [hrt] at hr
      exact W.zret (v := v) B.exec B.bytes hr (by rcases hv with rfl | rfl <;> rfl) (fun t ht hW => ⟨⟨some (.int v), x', rfl, hq, by rw [ht]; exact hP, va_K.moved hW.alike hK, hD⟩, hS.F ht⟩) hS.2.2 hd
  · intro pc' L' x' hd hrt hq H locs ls hP hD hS hL
    rw [hrt] at hr
    exact W.vret B.exec B.bytes hr (fun t ht hW => ⟨⟨none, x', rfl, hq, by rw [ht]; exact hP, va_K.moved hW.alike hK, hD⟩, hS.F ht⟩) hS.2.2 hd
  · simp only [jchk, Bool.and_eq_true] at hc
    exact hc.1
