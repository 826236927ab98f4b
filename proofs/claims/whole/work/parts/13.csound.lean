/-! CONSTRUCTORS: the machine does what jq says -/
def jNs : List Cond := jNt.map (fun q => Cond.methodLinkNest (jcn q.1) q.2.1 ⟨jcn q.2.2, "<init>", "()V"⟩ RX6)
def jNw (U : State) : Prop := (∀ q ∈ jNt, va_Nw (Cond.methodLinkNest (jcn q.1) q.2.1 ⟨jcn q.2.2, "<init>", "()V"⟩ RX6) U) ∧ va_AO RX2 U ∧ va_AO RX5 U
theorem jNw.warm {s U : State} (hW : s.WarmedH U.vm) (h : jNw s) : jNw U := ⟨fun q hq => (h.1 q hq).warmM hW, h.2.1.moved hW.alike, h.2.2.moved hW.alike⟩
theorem jNw.same {u U : State} (hv : u.vm = U.vm) (h : jNw u) : jNw U := ⟨fun q hq => (h.1 q hq).same rfl hv, h.2.1.moved (by rw [hv]; exact Vm.Alike.refl _), h.2.2.moved (by rw [hv]; exact Vm.Alike.refl _)⟩
def jPre2 (D : va_G) (cy : Nat → ClassId) (ad : Nat → Nat) (M : jM2) (sz : Nat) : State → Prop := fun U => jPre D cy ad M.1 M.2.1 M.2.2 sz U ∧ jNw U
def jPost2 (D : va_G) (cy : Nat → ClassId) (ad0 : Nat → Nat) (N0 : Nat) (A : Nat → Prop) (M : jM2) : Array Value → State → Outcome → State → Prop := fun _ st oc t => (oc = .returned none ∧ ∃ ad : Nat → Nat, (∀ i, (i < N0 ∨ i = 200) → ad i = ad0 i) ∧ jwf M.1 M.2.1 ∧ N0 ≤ M.1 ∧ va_P D vwCl (jW ad cy M.1 M.2.1 M.2.2) t.heap ∧ va_K D vwCl (jty cy) t ∧ va_D A (jW ad cy M.1 M.2.1 M.2.2)) ∧ va_F A st t
def jrc (r : jC) : Room := { frames := r.2.2.2.1, cells := r.2.2.2.2.2.1, slots := r.2.2.2.2.2.2, locals := r.2.2.2.2.1 }
def jMet2 (l : Launch) (r : jC) (T : Nat → jM2 → jM2 → Prop) : Prop := ∀ (D : va_G) (cy : Nat → ClassId) (ad : Nat → Nat) (o : Nat) (M M' : jM2) (sz : Nat), jwf M.1 M.2.1 → o < M.1 → T o M M' → Met l r.1 (.code r.1 r.2.1 r.2.2.1 none :: jt) (jrc r) (va_Pc [.ref (ad o)] (jPre2 D cy ad M sz)) (jPost2 D cy ad M.1 (va_A (jW ad cy M.1 M.2.1 M.2.2) sz) M') r.2.2.2.2.2.1 r.2.2.2.2.2.2 (va_A (jW ad cy M.1 M.2.1 M.2.2) sz)
section CS
variable {p : Program} {l : Launch} {e : Env} {R : Room} {s : State} {m : MethodId} {args : Array Value} {below : List Frame} {meth : Method} {c : Code} {Q : State → Prop}
variable {cc : ByteArray} {D : va_G} {cy : Nat → ClassId} {nL : Nat} {A : Nat → Prop} {Ts : List Cond} {own : String}
variable {pc N0 N u w : Nat} {ad0 : Nat → Nat} {L : List (Option Value)} {st : List Value} {K : Nat → jSh} {x : jM}
def jT2 (p : Program) (l : Launch) (e : Env) (R : Room) (s : State) (m : MethodId) (args : Array Value) (below : List Frame) (meth : Method) (c : Code) (Q : State → Prop) (D : va_G) (cy : Nat → ClassId) (nL : Nat) (A : Nat → Prop) (N0 : Nat) (ad0 : Nat → Nat) (pc : Nat) (L : List (Option Value)) (st : List Value) (M : jM2) (u w : Nat) : Prop :=
  ∀ ad : Nat → Nat, (∀ i, (i < N0 ∨ i = 200) → ad i = ad0 i) → N0 ≤ M.1 → jwf M.1 M.2.1 → jwL M.1 L → jwS M.1 st → jT p l e R s m args below meth c u w Q D cy ad M.1 nL M.2.1 A pc L st M.2.2
def jE2 (p : Program) (R : Room) (s : State) (m : MethodId) (args : Array Value) (c : Code) (cc : ByteArray) (D : va_G) (cy : Nat → ClassId) (nL : Nat) (A : Nat → Prop) (own : String) (Ts : List Cond) : Prop := (∀ u w : Nat, u ≤ R.cells → w ≤ R.slots → jE p R s m args c u w cc D cy nL A own Ts) ∧ jNw s
theorem jE2.T (E : jE2 p R s m args c cc D cy nL A own Ts) : ∀ w ∈ jt, w.before args s = true := fun w h => (E.1 0 0 (Nat.zero_le _) (Nat.zero_le _)).2.2.2.2.1 w ((E.1 0 0 (Nat.zero_le _) (Nat.zero_le _)).2.2.2.2.2.2.2.1 w h)
theorem jc_new {ix a : Nat} {q : vw_C} (E : jE2 p R s m args c cc D cy nL A own Ts) (hq : vwCl[a]? = some q) (hqn : q.2.2 = jfc a) (w1 : Cond.classLink own ix q.1 ∈ jt) (w2 : Cond.instantiable q.1 (jfc a) ∈ jt) (w3 : Cond.initialized q.1 ∈ jt) (h200 : N < 200) (hu : u + 1 ≤ R.cells) (hw : w + jfc a ≤ R.slots) (hd : decode cc pc = .ok (.new ix, 3))
    (k : jT2 p l e R s m args below meth c Q D cy nL A N0 ad0 (pc + 3) L (.ref N :: st) (N + 1, jKp K N (a, jfc a, jdf a), jua x N (fun _ => 0)) (u + 1) (w + jfc a)) : jT2 p l e R s m args below meth c Q D cy nL A N0 ad0 pc L st (N, K, x) u w := by
  intro ad hag hN hwf hL hS H locs ls h1 h2 h3 h4
  have E0 := E.1 0 0 (Nat.zero_le _) (Nat.zero_le _)
  obtain ⟨hcw, ty0, hty, hnm⟩ := jcl_ok a q hq
  have ha : a < 8 := vwCl_lt hq
  have hno : ∀ k j, ¬ jdf a k = j + 2 := by
    intro k j h
    by_cases hk : k < q.2.2
    · have := (jdf_ok a ha q hq k hk).2
      omega
    · unfold jdf at h
      rw [hqn] at hk
      unfold jfc at hk
      rw [List.getD_eq_getElem?_getD, List.getElem?_eq_none (by omega)] at h
      simp at h
  refine va_new (D := D) (ci := a) (fs := (List.range (jfc a)).map (fun k => jfv ad (jdf a k) 0)) (C := q.1) (T := q.2.1) (N := q.2.2) E0.1 E0.2.1 E0.2.2.2.2.1 (fun w h => E0.2.2.2.2.2.2.2.1 w (hcw w h)) ty0 hty E0.2.2.2.1 (E.T _ w1) (by rw [hqn]; exact E.T _ w2) (E.T _ w3) E0.2.2.2.2.2.1 h1 h2 h3 E0.2.2.2.2.2.2.1 hq ?_ hu (by rw [hqn]; exact hw) hd (fun qn H1 hP hD hS' => ?_)
  · intro j hj
    have h5 := (jdf_ok a ha q hq j hj).1
    rw [hty j hj] at h5
    simp only [Option.map_some, Option.some.injEq] at h5
    rw [h5, vp_V]
    have hj2 : j < jfc a := by omega
    simp only [List.getD_eq_getElem?_getD, List.getElem?_map, List.getElem?_range hj2, Option.map_some, Option.getD_some]
    have := (jdf_ok a ha q hq j hj).2
    rcases (show jdf a j = 0 ∨ jdf a j = 1 by omega) with e | e <;> simp [e, jfv]
  · have heq := jW_push (ad := ad) (cy := cy) (q := qn) (x := x) (h := (a, jfc a, jdf a)) (f := fun _ => 0) hwf hno
    rw [jce_obj (h := (a, jfc a, jdf a)) ha] at heq
    rw [heq] at hP hD
    rw [hqn]
    have := k (jadp ad N qn) (fun i hi => by rw [jadp_le h200 (hi.imp (fun h => Nat.lt_of_lt_of_le h hN) id)]; exact hag i hi) (Nat.le_succ_of_le hN) (jwf_p hwf hno) (jwL_up hL) (jwS_up hS) H1 locs ls hP hD hS' (jL_p h200 h4 hL)
    rw [List.map_cons, jmap_p h200 hS] at this
    simpa [jv, jadp] using this
theorem jc_newa {at_ : ArrayType} {a : Nat} {n : Int32} (E : jE2 p R s m args c cc D cy nL A own Ts) (ha : (a = 8 ∧ at_ = .int) ∨ (a = 9 ∧ at_ = .boolean)) (hn : 0 ≤ n) (hn2 : n.toNatClampNeg ≤ 1000) (h200 : N < 200) (hu : u + 1 ≤ R.cells) (hw : w + n.toNatClampNeg ≤ R.slots) (hd : decode cc pc = .ok (.newarray at_, 2))
    (k : jT2 p l e R s m args below meth c Q D cy nL A N0 ad0 (pc + 2) L (.ref N :: st) (N + 1, jKp K N (a, n.toNatClampNeg, fun _ => 0), jua x N (fun _ => 0)) (u + 1) (w + n.toNatClampNeg)) : jT2 p l e R s m args below meth c Q D cy nL A N0 ad0 pc L (.int n :: st) (N, K, x) u w := by
  intro ad hag hN hwf hL hS H locs ls h1 h2 h3 h4
  have hS := jwS_t hS
  have E0 := E.1 0 0 (Nat.zero_le _) (Nat.zero_le _)
  have hno : ∀ k j, ¬ ((a, n.toNatClampNeg, fun _ => 0) : jSh).2.2 k = j + 2 := fun k j h => by simp at h
  have fin : ∀ (qn : Nat) (cA : ClassId) (H1 : Heap), cA = cy a → va_P D vwCl (jW ad cy N K x ++ [(qn, .inl (cA, n.toNatClampNeg, .inl (fun _ => 0)))]) H1 → va_D A (jW ad cy N K x ++ [(qn, .inl (cA, n.toNatClampNeg, .inl (fun _ => 0)))]) → va_S A s.heap H1 locs → W p l e R s m args below meth c H1 locs (u + 1) (w + n.toNatClampNeg) Q (F0 m (pc + 2) ls (.ref qn :: st.map (jv ad))) := by
    intro qn cA H1 hcA hP hD hS'
    have heq := jW_push (ad := ad) (cy := cy) (q := qn) (x := x) (h := (a, n.toNatClampNeg, fun _ => 0)) (f := fun _ => 0) hwf hno
    rw [jce_int (h := (a, n.toNatClampNeg, fun _ => 0)) (by show ¬ a < 8; omega) (by show a < 10; omega)] at heq
    rw [hcA, heq] at hP hD
    have := k (jadp ad N qn) (fun i hi => by rw [jadp_le h200 (hi.imp (fun h => Nat.lt_of_lt_of_le h hN) id)]; exact hag i hi) (Nat.le_succ_of_le hN) (jwf_p hwf hno) (jwL_up hL) (jwS_up hS) H1 locs ls hP hD hS' (jL_p h200 h4 hL)
    rw [List.map_cons, jmap_p h200 hS] at this
    simpa [jv, jadp] using this
  have hneg : ¬ n < 0 := by
    intro h
    exact absurd hn (by simpa using h)
  rcases ha with ⟨rfl, rfl⟩ | ⟨rfl, rfl⟩
  · refine va_newa (atype := .int) (ty := .int) (a0 := (n.toNatClampNeg, .inl (fun _ => 0))) E0.1 E0.2.1 (E.T _ jarc.1) rfl E0.2.2.2.2.2.1 h1 h2 h3 E0.2.2.2.2.2.2.1 (fun cA => rfl) hneg rfl (by simp [componentBytes]; omega) hu hw hd (fun qn cA H1 hK' hP hD hS' => fin qn cA H1 ?_ hP hD hS')
    have e1 : s.vm.findClass ("[" ++ FieldType.int.toString) = some cA := (hK'.2 4 (cA, .int) rfl).2
    have e2 : s.vm.findClass ("[" ++ FieldType.int.toString) = some (cy 8) := (E0.2.2.2.2.2.1.2 0 (cy 8, .int) rfl).2
    exact Option.some.inj (e1.symm.trans e2)
  · refine va_newa (atype := .boolean) (ty := .boolean) (a0 := (n.toNatClampNeg, .inl (fun _ => 0))) E0.1 E0.2.1 (E.T _ jarc.2) rfl E0.2.2.2.2.2.1 h1 h2 h3 E0.2.2.2.2.2.2.1 (fun cA => rfl) hneg rfl (by simp [componentBytes]; omega) hu hw hd (fun qn cA H1 hK' hP hD hS' => fin qn cA H1 ?_ hP hD hS')
    have e1 : s.vm.findClass ("[" ++ FieldType.boolean.toString) = some cA := (hK'.2 4 (cA, .boolean) rfl).2
    have e2 : s.vm.findClass ("[" ++ FieldType.boolean.toString) = some (cy 9) := (E0.2.2.2.2.2.1.2 1 (cy 9, .boolean) rfl).2
    exact Option.some.inj (e1.symm.trans e2)
theorem jc_newq {ix a : Nat} {n : Int32} {C : String} (E : jE2 p R s m args c cc D cy nL A own Ts) (ha : (a = 10 ∧ C = RX2) ∨ (a = 11 ∧ C = RX5)) (w1 : Cond.classLink own ix C ∈ jt) (hn : 0 ≤ n) (hn2 : n.toNatClampNeg ≤ 1000) (h200 : N < 200) (hu : u + 1 ≤ R.cells) (hw : w + n.toNatClampNeg ≤ R.slots) (hd : decode cc pc = .ok (.anewarray ix, 3))
    (k : jT2 p l e R s m args below meth c Q D cy nL A N0 ad0 (pc + 3) L (.ref N :: st) (N + 1, jKp K N (a, n.toNatClampNeg, fun _ => 1), jua x N (fun _ => 0)) (u + 1) (w + n.toNatClampNeg)) : jT2 p l e R s m args below meth c Q D cy nL A N0 ad0 pc L (.int n :: st) (N, K, x) u w := by
  intro ad hag hN hwf hL hS H locs ls h1 h2 h3 h4
  have hS := jwS_t hS
  have E0 := E.1 0 0 (Nat.zero_le _) (Nat.zero_le _)
  have hno : ∀ k j, ¬ ((a, n.toNatClampNeg, fun _ => 1) : jSh).2.2 k = j + 2 := fun k j h => by simp at h
  have fin : ∀ (qn : Nat) (cA : ClassId) (H1 : Heap), cA = cy a → va_P D vwCl (jW ad cy N K x ++ [(qn, .inl (cA, n.toNatClampNeg, .inr (.inr (.inr (.inr (fun _ => none))))))]) H1 → va_D A (jW ad cy N K x ++ [(qn, .inl (cA, n.toNatClampNeg, .inr (.inr (.inr (.inr (fun _ => none))))))]) → va_S A s.heap H1 locs → W p l e R s m args below meth c H1 locs (u + 1) (w + n.toNatClampNeg) Q (F0 m (pc + 3) ls (.ref qn :: st.map (jv ad))) := by
    intro qn cA H1 hcA hP hD hS'
    have heq := jW_push (ad := ad) (cy := cy) (q := qn) (x := x) (h := (a, n.toNatClampNeg, fun _ => 1)) (f := fun _ => 0) hwf hno
    rw [jce_ref (h := (a, n.toNatClampNeg, fun _ => 1)) (by show ¬ a < 10; omega)] at heq
    have e0 : (fun k : Nat => if k < ((a, n.toNatClampNeg, fun _ => 1) : jSh).2.1 then jrf ad (((a, n.toNatClampNeg, fun _ => 1) : jSh).2.2 k) else none) = (fun _ => none) := by
      funext k
      simp [jrf]
    rw [e0] at heq
    rw [hcA, heq] at hP hD
    have := k (jadp ad N qn) (fun i hi => by rw [jadp_le h200 (hi.imp (fun h => Nat.lt_of_lt_of_le h hN) id)]; exact hag i hi) (Nat.le_succ_of_le hN) (jwf_p hwf hno) (jwL_up hL) (jwS_up hS) H1 locs ls hP hD hS' (jL_p h200 h4 hL)
    rw [List.map_cons, jmap_p h200 hS] at this
    simpa [jv, jadp] using this
  have hneg : ¬ n < 0 := by
    intro h
    exact absurd hn (by simpa using h)
  rcases ha with ⟨rfl, rfl⟩ | ⟨rfl, rfl⟩
  · refine va_newq E0.1 E0.2.1 E0.2.2.2.1 (E.T _ w1) E.2.2.1 E0.2.2.2.2.2.1 h1 h2 h3 E0.2.2.2.2.2.2.1 hneg rfl (by omega) hu hw hd (fun qn cA H1 hK' hP hD hS' => fin qn cA H1 ?_ hP hD hS')
    obtain ⟨_, _, _, _, _, e1⟩ := (hK'.2 4 (cA, .object RX2) rfl).2
    obtain ⟨_, _, _, _, _, e2⟩ := (E0.2.2.2.2.2.1.2 2 (cy 10, .object RX2) rfl).2
    exact Option.some.inj (e1.symm.trans e2)
  · refine va_newq E0.1 E0.2.1 E0.2.2.2.1 (E.T _ w1) E.2.2.2 E0.2.2.2.2.2.1 h1 h2 h3 E0.2.2.2.2.2.2.1 hneg rfl (by omega) hu hw hd (fun qn cA H1 hK' hP hD hS' => fin qn cA H1 ?_ hP hD hS')
    obtain ⟨_, _, _, _, _, e1⟩ := (hK'.2 4 (cA, .object RX5) rfl).2
    obtain ⟨_, _, _, _, _, e2⟩ := (E0.2.2.2.2.2.1.2 3 (cy 11, .object RX5) rfl).2
    exact Option.some.inj (e1.symm.trans e2)
theorem jc_putr {n o a b j : Nat} {q : vw_C} {ty : FieldType} (E : jE2 p R s m args c cc D cy nL A own Ts) (hu : u ≤ R.cells) (hw0 : w ≤ R.slots) (hin : meth.name = "<init>") (hq : vwCl[a]? = some q) (hb : b < q.2.2) (hw : Cond.fieldLink own n (q.2.1 b).1 (q.2.1 b).2.1 (q.2.1 b).2.2.1 ∈ jt) (hfin : (q.2.1 b).2.2.2 = true) (hdecl : (q.2.1 b).1 = own) (hpd : parseFieldDescriptor (q.2.1 b).2.2.1 = some ty) (hn : ∀ z, narrow ty (.ref z) = .ref z) (hfit : ∀ z, fits ty (.ref z) = true) (hj : job N K o a b = true) (hd : decode cc pc = .ok (.putfield n, 3))
    (k : jT2 p l e R s m args below meth c Q D cy nL A N0 ad0 (pc + 3) L st (N, jKs K o b (j + 2), x) u w) : jT2 p l e R s m args below meth c Q D cy nL A N0 ad0 pc L (.ref j :: .ref o :: st) (N, K, x) u w := by
  intro ad hag hN hwf hL hS H locs ls h1 h2 h3 h4
  have E0 := E.1 u w hu hw0
  obtain ⟨hcw, ty0, hty, hnm⟩ := jcl_ok a q hq
  obtain ⟨ho, ht, hl⟩ := job_spec hj
  have he := jW_at (ad := ad) (cy := cy) (K := K) (x := x) ho
  have h8 : (K o).1 < 8 := by rw [ht]; exact vwCl_lt hq
  rw [jce_obj h8] at he
  refine va_putF (D := D) (ci := (K o).1) (v := .ref (ad j)) (ty := ty) (C := q.1) (T := q.2.1) (N := q.2.2) E0.1 E0.2.1 E0.2.2.2.2.1 (fun w h => E0.2.2.2.2.2.2.2.1 w (hcw w h)) ty0 hty hnm E0.2.2.2.1 E0.2.2.2.2.2.1 h1 h2 h3 o he (by rw [ht]; exact hq) b hb (E.T _ hw) (fun _ h9 => h9) hfin hin hdecl hpd (hn _) (hfit _) (by simp [hl]) hd (fun H1 locs1 hP hD hS' => ?_)
  rw [jset_fr (cy := cy) h8, jW_setK] at hP hD
  exact k ad hag hN (jwf_s hwf (hS j List.mem_cons_self)) hL (jwS_t (jwS_t hS)) H1 locs1 ls hP hD hS' h4
theorem jc_aast {o a j : Nat} {i : Int32} (E : jE2 p R s m args c cc D cy nL A own Ts) (hu : u ≤ R.cells) (hw0 : w ≤ R.slots) (hj : jar N K o a = true) (hi : 0 ≤ i) (hi2 : i.toNatClampNeg < (K o).2.1) (ha : (a = 10 ∧ (K j).1 = 2) ∨ (a = 11 ∧ (K j).1 = 5)) (hd : decode cc pc = .ok (.aastore, 1))
    (k : jT2 p l e R s m args below meth c Q D cy nL A N0 ad0 (pc + 1) L st (N, jKs K o i.toNatClampNeg (j + 2), x) u w) : jT2 p l e R s m args below meth c Q D cy nL A N0 ad0 pc L (.ref j :: .int i :: .ref o :: st) (N, K, x) u w := by
  intro ad hag hN hwf hL hS H locs ls h1 h2 h3 h4
  have E0 := E.1 u w hu hw0
  obtain ⟨ho, ht⟩ := jar_spec hj
  have hjN : j < N := hS j List.mem_cons_self
  have he := jW_at (ad := ad) (cy := cy) (K := K) (x := x) ho
  rw [jce_ref (by omega)] at he
  have hv := jW_at (ad := ad) (cy := cy) (K := K) (x := x) hjN
  rw [jce_obj (by omega)] at hv
  have hin : vp_in i (K o).2.1 := fun h => h.elim (fun h => absurd hi (by simpa using h)) (fun h => absurd hi2 (Nat.not_lt.mpr h))
  have fin : ∀ (H1 : Heap) (locs1 : List Loc), va_P D vwCl ((jW ad cy N K x).set o (ad o, .inl (cy (K o).1, (K o).2.1, .inr (.inr (.inr (.inr (va_up (fun k => if k < (K o).2.1 then jrf ad ((K o).2.2 k) else none) i.toNatClampNeg (some (ad j))))))))) H1 → va_D A ((jW ad cy N K x).set o (ad o, .inl (cy (K o).1, (K o).2.1, .inr (.inr (.inr (.inr (va_up (fun k => if k < (K o).2.1 then jrf ad ((K o).2.2 k) else none) i.toNatClampNeg (some (ad j))))))))) → va_S A s.heap H1 locs1 → W p l e R s m args below meth c H1 locs1 u w Q (F0 m (pc + 1) ls (st.map (jv ad))) := by
    intro H1 locs1 hP hD hS'
    rw [jset_ar (f := x o) (by omega) hi2, jW_setK] at hP hD
    exact k ad hag hN (jwf_s hwf hjN) hL (jwS_t (jwS_t (jwS_t hS))) H1 locs1 ls hP hD hS' h4
  rcases ha with ⟨rfl, hk⟩ | ⟨rfl, hk⟩
  · rw [hk] at hv
    exact va_astq (r := (RX2, TX2, 3)) E0.1 E0.2.1 E0.2.2.2.2.2.1 h1 h2 h3 o 2 j 2 he (by rw [ht]; rfl) hv rfl hin hd fin
  · rw [hk] at hv
    exact va_astq (r := (RX5, TX5, 5)) E0.1 E0.2.1 E0.2.2.2.2.2.1 h1 h2 h3 o 3 j 5 he (by rw [ht]; rfl) hv rfl hin hd fin
theorem jc_obj {ix o : Nat} (E : jE2 p R s m args c cc D cy nL A own Ts) (hu : u ≤ R.cells) (hw0 : w ≤ R.slots) (hR : 1 ≤ R.frames ∧ 20 ≤ R.locals) (w1 : Cond.methodLink own ix objectInit ∈ jt) (hc : jcs st = true) (hd : decode cc pc = .ok (.invokespecial ix, 3))
    (k : jT2 p l e R s m args below meth c Q D cy nL A N0 ad0 (pc + 3) L st (N, K, x) u w) : jT2 p l e R s m args below meth c Q D cy nL A N0 ad0 pc L (.ref o :: st) (N, K, x) u w := by
  intro ad hag hN hwf hL hS H locs ls h1 h2 h3 h4
  have E0 := E.1 u w hu hw0
  refine W.objInit (g := F0 m pc ls (.ref (ad o) :: st.map (jv ad))) E0.1 E0.2.1 E0.2.2.2.1 (E.T _ w1) (E.T _ jobi.1) (E.T _ jobi.2) rfl (by rw [E0.2.2.1]; exact h4.1) rfl hd hR.1 (by have := jcs_spec (ad := ad) hc; show 2 * 0 + _ + 12 ≤ _; omega) ?_
  exact k ad hag hN hwf hL (jwS_t hS) H locs ls h1 h2 h3 h4
theorem jc_astore {n : Fin 4} {a j : Nat} (E : jE2 p R s m args c cc D cy nL A own Ts) (hu : u ≤ R.cells) (hw0 : w ≤ R.slots) (hd : decode cc pc = .ok (.astore_n n, 1)) (ha : (n : Nat) = a) (hs : jsv L a = true) (k : jT2 p l e R s m args below meth c Q D cy nL A N0 ad0 (pc + 1) (L.set a (some (.ref j))) st (N, K, x) u w) : jT2 p l e R s m args below meth c Q D cy nL A N0 ad0 pc L (.ref j :: st) (N, K, x) u w := by
  intro ad hag hN hwf hL hS H locs ls h1 h2 h3 h4
  have E0 := E.1 u w hu hw0
  refine lv_astore_n E0.1 E0.2.1 hd ha h4.has (Nat.lt_of_lt_of_le (jsv_lt hs) h4.2.2.1) rfl (fun ls' h' => ?_)
  refine k ad hag hN hwf (fun i j' hj => ?_) (jwS_t hS) H locs ls' h1 h2 h3 (jL.st1 (v := .ref j) h4 hs h')
  rw [List.getElem?_set] at hj
  split at hj
  · split at hj
    · cases hj
      exact Or.inl (hS j List.mem_cons_self)
    · cases hj
  · exact hL i j' hj
theorem jblind2 {ad : Nat → Nat} {M : jM2} {as : List Value} {sz : Nat} : FrameBlind (va_Pc as (jPre2 D cy ad M sz)) := fun a U g mk q => by
  obtain ⟨q0, ⟨q1, qP, qK, qD⟩, qN⟩ := q
  exact ⟨q0, ⟨q1, qP, va_K.moved (u := U) (U := U.calling g mk a) (Vm.Alike.refl U.vm) qK, qD⟩, qN.same rfl⟩
theorem jc_call {ix o : Nat} {r : jC} {M' : jM2} {F : Nat → jM2 → jM2 → Prop} (E : jE2 p R s m args c cc D cy nL A own Ts) (hF : jMet2 l r F) (w5 : Cond.code r.1 r.2.1 r.2.2.1 none ∈ jt) (w4 : Cond.initialized r.1.cls ∈ jt) (w2 : Cond.instanceMethod r.1 ∈ jt) (hnm : r.1.name = "<init>")
    (hd0 : r.1.cls ≠ "java/lang/invoke/MethodHandle" ∧ r.1.cls ≠ "java/lang/invoke/VarHandle" ∧ (parseMethodDescriptor r.1.desc).map (fun d => d.parameters.length) = some 0) (hR : r.2.2.2.1 + 1 ≤ R.frames ∧ 8 + (r.2.2.1 + 11) + r.2.2.2.2.1 ≤ R.locals)
    (w1 : Cond.methodLink own ix r.1 ∈ jt ∨ ∃ host, va_Nw (.methodLinkNest own ix r.1 host) s) (hc : jcs st = true) (hu : u + r.2.2.2.2.2.1 ≤ R.cells) (hw : w + r.2.2.2.2.2.2 ≤ R.slots) (hd : decode cc pc = .ok (.invokespecial ix, 3)) (hx : F o (N, K, x) M')
    (k : jT2 p l e R s m args below meth c Q D cy nL A N0 ad0 (pc + 3) L st M' (u + r.2.2.2.2.2.1) (w + r.2.2.2.2.2.2)) : jT2 p l e R s m args below meth c Q D cy nL A N0 ad0 pc L (.ref o :: st) (N, K, x) u w := by
  intro ad hag hN hwf hL hS H locs ls h1 h2 h3 h4
  have E0 := E.1 0 0 (Nat.zero_le _) (Nat.zero_le _)
  have hT := E0.2.2.2.2.2.2.2.1
  have hK := E0.2.2.2.2.2.1
  have hoN : o < N := hS o List.mem_cons_self
  have hM := hF D cy ad o (N, K, x) M' H.size hwf hoN hx
  have pre : PreS s H (va_Pc [.ref (ad o)] (jPre2 D cy ad (N, K, x) H.size)) (.ref (ad o) :: []) := ⟨jblind2, fun U hU hW => ⟨rfl, ⟨by rw [hU], by rw [hU]; exact h1, va_K.moved hW.alike hK, h2.1, fun _ _ _ => trivial⟩, E.2.warm hW⟩⟩
  have run : va_Run p l e R s m args below meth c H locs u w r.2.2.2.2.2.1 r.2.2.2.2.2.2 (F0 m pc ls ((.ref o :: st).map (jv ad))) (st.map (jv ad)) (jPost2 D cy ad N (va_A (jW ad cy N K x) H.size) M' (Value.ref (ad o) :: []).toArray) (va_A (jW ad cy N K x) H.size) := by
    rcases w1 with w1 | ⟨host, w1⟩
    · exact va_runI (As := []) (b := ad o) ⟨E0.1, E0.2.1, E0.2.2.1, E0.2.2.2.1, E0.2.2.2.2.1⟩ hM (cwI 0 E0.2.2.2.2.1 (jgoodIn hT w5) rfl rfl rfl (E.T _ w4) (E.T _ w1) (E.T _ w2) hnm hd0 hR) pre rfl rfl h4.1 rfl (lv_room (jcs_spec hc)) hd ⟨hu, hw⟩
    · exact va_runIN (As := []) (b := ad o) ⟨E0.1, E0.2.1, E0.2.2.1, E0.2.2.2.1, E0.2.2.2.2.1⟩ hM ⟨va_cnB 0 E0.2.2.2.2.1 (jgoodIn hT w5) rfl rfl rfl w1 (E.T _ w4) hd0 hR, hnm, E.T _ w2⟩ pre rfl rfl h4.1 rfl (lv_room (jcs_spec hc)) hd ⟨hu, hw⟩
  have hF' : ∀ q, va_A (jW ad cy N K x) H.size q → A q := js_hF E0.2.2.2.2.2.2.1 h2 h3
  intro T hT' X
  obtain ⟨v, st₀, t, T', L', g0, X', hL', e1, e2, ⟨⟨hv, ad', ha, hwf', hN', hP, hK', hD⟩, hz, hk⟩, stp⟩ := run T hT' X
  cases hv
  rw [g0] at hz hk
  have kk := k ad' (fun i hi => (ha i (hi.imp (fun h => Nat.lt_of_lt_of_le h hN) id)).trans (hag i hi)) (Nat.le_trans hN hN') hwf' (fun i j h => (hL i j h).imp (fun h => Nat.lt_of_lt_of_le h hN') id) (fun j h => Nat.lt_of_lt_of_le (jwS_t hS j h) hN') T'.heap (locs ++ L') ls (by rw [e1]; exact hP) ⟨hD.1, fun k q hq => hF' _ (hD.2 k q hq)⟩
    ⟨Nat.le_trans h3.1 (by rw [e1]; exact hz), fun q g1 g2 => by rw [e1, hk q (Nat.lt_of_lt_of_le g1 h3.1) (fun z => g2 (hF' q z))]; exact h3.2.1 q g1 g2, fun q hq => by
      rcases List.mem_append.mp hq with h | h
      · exact h3.2.2 q h
      · exact hF' _ (hL' q h)⟩ ⟨h4.1, h4.2.1, h4.2.2.1, fun i v hi => by
        have : jv ad' v = jv ad v := by
          cases v with
          | ref j => simp only [jv]; rw [ha j (hL i j hi)]
          | _ => rfl
        rw [this]
        exact h4.2.2.2 i v hi⟩
  have hm : st.map (jv ad') = st.map (jv ad) := List.map_congr_left (fun v hv => by
    cases v with
    | ref j => simp only [jv]; rw [ha j (Or.inl (jwS_t hS j hv))]
    | _ => rfl)
  rw [hm] at kk
  obtain ⟨t2, a1, b1⟩ := kk T' rfl X'
  exact ⟨t2, stp t2 a1, b1⟩
end CS
