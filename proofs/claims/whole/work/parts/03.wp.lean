/-! THE MEMORY AS A PICTURE: a fixed shape K of N cells (tag, length, slots: 0 an int, 1 null, j+2 the cell j), and int contents x -/
abbrev jM : Type := Nat → Nat → Int32
abbrev jSh : Type := Nat × Nat × (Nat → Nat)
def jv (ad : Nat → Nat) : Value → Value
  | .ref a => .ref (ad a)
  | v => v
def jfv (ad : Nat → Nat) (k : Nat) (v : Int32) : Value := match k with
  | 0 => .int v
  | 1 => .null
  | j + 2 => .ref (ad j)
def jrf (ad : Nat → Nat) (k : Nat) : Option Nat := match k with
  | 0 => none
  | 1 => none
  | j + 2 => some (ad j)
def jce (ad : Nat → Nat) (cy : Nat → ClassId) (h : jSh) (f : Nat → Int32) : va_E :=
  if h.1 < 8 then .inr (h.1, (List.range h.2.1).map (fun k => jfv ad (h.2.2 k) (f k)))
  else if h.1 < 10 then .inl (cy h.1, h.2.1, .inl f)
  else .inl (cy h.1, h.2.1, .inr (.inr (.inr (.inr (fun k => if k < h.2.1 then jrf ad (h.2.2 k) else none)))))
def jW (ad : Nat → Nat) (cy : Nat → ClassId) (N : Nat) (K : Nat → jSh) (x : jM) : va_W := (List.range N).map (fun i => (ad i, jce ad cy (K i) (x i)))
def jua (x : jM) (o : Nat) (f : Nat → Int32) : jM := fun i => if i = o then f else x i
def ju (x : jM) (o k : Nat) (v : Int32) : jM := jua x o (upd (x o) k v)
def jty (cy : Nat → ClassId) : List (ClassId × FieldType) := [(cy 8, .int), (cy 9, .boolean), (cy 10, .object RX2), (cy 11, .object RX5)]
theorem jv_cat (ad : Nat → Nat) (v : Value) : (jv ad v).category = v.category := by cases v <;> rfl
theorem jW_at {ad : Nat → Nat} {cy : Nat → ClassId} {N : Nat} {K : Nat → jSh} {x : jM} {o : Nat} (h : o < N) : (jW ad cy N K x)[o]? = some (ad o, jce ad cy (K o) (x o)) := by
  simp [jW, h]
theorem jW_set {ad : Nat → Nat} {cy : Nat → ClassId} {N : Nat} {K : Nat → jSh} {x : jM} {o : Nat} {f : Nat → Int32} : (jW ad cy N K x).set o (ad o, jce ad cy (K o) f) = jW ad cy N K (jua x o f) := by
  apply List.ext_getElem?
  intro k
  by_cases hk : k = o
  · subst hk
    by_cases hN : k < N
    · rw [jW_at hN, List.getElem?_set]
      simp [jW, hN, jua]
    · simp [jW, hN]
  · rw [List.getElem?_set]
    simp only [jW, jua]
    rw [if_neg (fun h => hk h.symm)]
    by_cases hN : k < N
    · simp [hN, hk]
    · simp [hN]
theorem jce_obj {ad : Nat → Nat} {cy : Nat → ClassId} {h : jSh} {f : Nat → Int32} (ht : h.1 < 8) : jce ad cy h f = .inr (h.1, (List.range h.2.1).map (fun k => jfv ad (h.2.2 k) (f k))) := by
  simp [jce, ht]
theorem jce_int {ad : Nat → Nat} {cy : Nat → ClassId} {h : jSh} {f : Nat → Int32} (h1 : ¬ h.1 < 8) (h2 : h.1 < 10) : jce ad cy h f = .inl (cy h.1, h.2.1, .inl f) := by
  simp [jce, h1, h2]
theorem jce_ref {ad : Nat → Nat} {cy : Nat → ClassId} {h : jSh} {f : Nat → Int32} (h2 : ¬ h.1 < 10) : jce ad cy h f = .inl (cy h.1, h.2.1, .inr (.inr (.inr (.inr (fun k => if k < h.2.1 then jrf ad (h.2.2 k) else none))))) := by
  have h1 : ¬ h.1 < 8 := by omega
  simp [jce, h1, h2]
/-! THE LOCALS: by their places; none where nothing is known -/
def jL (ad : Nat → Nat) (ls : Array Slot) (n : Nat) (L : List (Option Value)) : Prop := ls.size = n ∧ lv_wf ls ∧ L.length ≤ n ∧ ∀ (i : Nat) (v : Value), L[i]? = some (some v) → ls[i]? = some (.val (jv ad v))
def jll (ad : Nat → Nat) (L : List (Option Value)) : List (Nat × Value) := (List.range L.length).filterMap (fun i => match L[i]? with
  | some (some v) => some (i, jv ad v)
  | _ => none)
theorem jll_mem {ad : Nat → Nat} {L : List (Option Value)} {q : Nat × Value} : q ∈ jll ad L ↔ ∃ v, L[q.1]? = some (some v) ∧ q.2 = jv ad v := by
  obtain ⟨i, w⟩ := q
  simp only [jll, List.mem_filterMap, List.mem_range]
  constructor
  · rintro ⟨j, hj, h⟩
    split at h
    · next v hv => cases h; exact ⟨v, hv, rfl⟩
    · cases h
  · rintro ⟨v, hv, rfl⟩
    refine ⟨i, (List.getElem?_eq_some_iff.mp hv).1, ?_⟩
    simp [hv]
theorem jL.has {ad : Nat → Nat} {ls : Array Slot} {n : Nat} {L : List (Option Value)} (h : jL ad ls n L) : lv_has ls n (jll ad L) := by
  refine ⟨h.1, h.2.1, fun q hq => ?_⟩
  obtain ⟨v, hv, he⟩ := jll_mem.mp hq
  rw [he]
  exact h.2.2.2 _ _ hv
/-- a place may be written: it lies within, and no long begins just ahead of it -/
def jsv (L : List (Option Value)) (i : Nat) : Bool := decide (i < L.length) && match i with
  | 0 => true
  | j + 1 => match L[j]? with
    | some (some w) => w.category == 1
    | _ => true
theorem jsv_lt {L : List (Option Value)} {i : Nat} (h : jsv L i = true) : i < L.length := by
  simp only [jsv, Bool.and_eq_true, decide_eq_true_eq] at h
  exact h.1
theorem jsv_cat {L : List (Option Value)} {i j : Nat} {w : Value} (h : jsv L i = true) (hj : j + 1 = i) (hw : L[j]? = some (some w)) : w.category = 1 := by
  subst hj
  simp only [jsv, Bool.and_eq_true, decide_eq_true_eq] at h
  simpa [hw] using h.2
theorem jL.st1 {ad : Nat → Nat} {ls ls' : Array Slot} {n : Nat} {L : List (Option Value)} {i : Nat} {v : Value} (h : jL ad ls n L) (hs : jsv L i = true)
    (h' : lv_has ls' n ((i, jv ad v) :: (jll ad L).filter (fun q => !(q.1 == i) && !(q.1 + 1 == i && q.2.category == 2)))) : jL ad ls' n (L.set i (some v)) := by
  refine ⟨h'.1, h'.2.1, by simpa using h.2.2.1, fun j w hj => ?_⟩
  rw [List.getElem?_set] at hj
  by_cases hji : i = j
  · subst hji
    have hlt := jsv_lt hs
    simp [hlt] at hj
    subst hj
    exact h'.2.2 _ List.mem_cons_self
  · rw [if_neg hji] at hj
    refine h'.2.2 (j, jv ad w) (List.mem_cons_of_mem _ (List.mem_filter.mpr ⟨jll_mem.mpr ⟨w, hj, rfl⟩, ?_⟩))
    have h1 : (j == i) = false := by simp; omega
    by_cases h2 : j + 1 = i
    · have := jsv_cat hs h2 hj
      simp [h1, jv_cat, this]
    · have h3 : (j + 1 == i) = false := by simp [h2]
      simp [h1, h3]
theorem jL.st2 {ad : Nat → Nat} {ls ls' : Array Slot} {n : Nat} {L : List (Option Value)} {i : Nat} {v : Value} (h : jL ad ls n L) (hs : jsv L i = true)
    (h' : lv_has ls' n ((i, jv ad v) :: (jll ad L).filter (fun q => !(q.1 == i) && (!(q.1 == i + 1) && !(q.1 + 1 == i && q.2.category == 2))))) : jL ad ls' n ((L.set i (some v)).set (i + 1) none) := by
  refine ⟨h'.1, h'.2.1, by simpa using h.2.2.1, fun j w hj => ?_⟩
  rw [List.getElem?_set] at hj
  by_cases hj1 : i + 1 = j
  · subst hj1
    rw [if_pos rfl] at hj
    split at hj <;> simp at hj
  rw [if_neg hj1, List.getElem?_set] at hj
  by_cases hji : i = j
  · subst hji
    have hlt := jsv_lt hs
    simp [hlt] at hj
    subst hj
    exact h'.2.2 _ List.mem_cons_self
  · rw [if_neg hji] at hj
    refine h'.2.2 (j, jv ad w) (List.mem_cons_of_mem _ (List.mem_filter.mpr ⟨jll_mem.mpr ⟨w, hj, rfl⟩, ?_⟩))
    have h1 : (j == i) = false := by simp; omega
    have h4 : (j == i + 1) = false := by simp; omega
    by_cases h2 : j + 1 = i
    · have := jsv_cat hs h2 hj
      simp [h1, h4, jv_cat, this]
    · have h3 : (j + 1 == i) = false := by simp [h2]
      simp [h1, h3, h4]
/-! ONE INSTRUCTION, as what must hold ahead of it -/
abbrev jO : Type := Nat → List Value → jM → (Option Value → jM → Prop) → Prop
abbrev jG : Type := Nat → List (Option Value) → List Value → jM → Prop
abbrev jI : Type := Nat × Instr × Nat × Nat × Nat × Int × List Nat
def jgI (L : List (Option Value)) (j : Nat) (g : Int32 → Prop) : Prop := match L[j]? with
  | some (some (.int v)) => g v
  | _ => False
def jgL (L : List (Option Value)) (j : Nat) (g : Int64 → Prop) : Prop := match L[j]? with
  | some (some (.long v)) => g v
  | _ => False
def jgA (L : List (Option Value)) (j : Nat) (g : Nat → Prop) : Prop := match L[j]? with
  | some (some (.ref v)) => g v
  | _ => False
def jB (b : Bool) (P : Prop) : Prop := match b with
  | true => P
  | false => False
def jpI (st : List Value) (g : Int32 → List Value → Prop) : Prop := match st with
  | .int v :: r => g v r
  | _ => False
def jpL (st : List Value) (g : Int64 → List Value → Prop) : Prop := match st with
  | .long v :: r => g v r
  | _ => False
def jpA (st : List Value) (g : Nat → List Value → Prop) : Prop := match st with
  | .ref v :: r => g v r
  | _ => False
def jp2 (st : List Value) (g : Int32 → Int32 → List Value → Prop) : Prop := jpI st (fun y r => jpI r (fun x r => g x y r))
def jp2L (st : List Value) (g : Int64 → Int64 → List Value → Prop) : Prop := jpL st (fun y r => jpL r (fun x r => g x y r))
def jif (cd : ClassFile.Cond) (v : Int32) : Prop := match cd with
  | .eq => v = 0
  | .ne => ¬ v = 0
  | .lt => v < 0
  | .ge => 0 ≤ v
  | .gt => 0 < v
  | .le => v ≤ 0
def jic (cd : ClassFile.Cond) (v y : Int32) : Prop := match cd with
  | .eq => v = y
  | .ne => ¬ v = y
  | .lt => v < y
  | .ge => y ≤ v
  | .gt => y < v
  | .le => v ≤ y
def jnf (cd : ClassFile.Cond) (v : Int32) : Prop := match cd with
  | .eq => ¬ v = 0
  | .ne => v = 0
  | .lt => ¬ v < 0
  | .ge => ¬ 0 ≤ v
  | .gt => ¬ 0 < v
  | .le => ¬ v ≤ 0
def jnc (cd : ClassFile.Cond) (v y : Int32) : Prop := match cd with
  | .eq => ¬ v = y
  | .ne => v = y
  | .lt => ¬ v < y
  | .ge => ¬ y ≤ v
  | .gt => ¬ y < v
  | .le => ¬ v ≤ y
/-- the cell o is an object of the kind a, with a field b -/
def job (N : Nat) (K : Nat → jSh) (o a b : Nat) : Bool := decide (o < N) && (decide ((K o).1 = a) && decide (b < (K o).2.1))
def jar (N : Nat) (K : Nat → jSh) (o a : Nat) : Bool := decide (o < N) && decide ((K o).1 = a)
def jrk (k : Nat) (g0 : Prop) (g : Nat → Prop) : Prop := match k with
  | 0 => g0
  | 1 => False
  | j + 2 => g j
/-- a switch, key by key; d else -/
def jsw (v : Int) (G : Nat → Prop) (d : Nat) : List (Int × Nat) → Prop
  | [] => G d
  | q :: r => (v = q.1 → G q.2) ∧ (¬ v = q.1 → jsw v G d r)
def jcs (st : List Value) : Bool := decide ((st.map fun v => v.category).sum ≤ 8)
def jx (O : jO) (N : Nat) (K : Nat → jSh) (G : jG) (Qr : Option Value → jM → Prop) (q : jI) (k : Nat) (L : List (Option Value)) (st : List Value) (x : jM) : Prop :=
  match q with
  | (_, i, _, a, b, c, ts) => match i with
    | .iconst _ => G (k + 1) L (.int (jc c) :: st) x
    | .bipush _ => G (k + 1) L (.int (jc c) :: st) x
    | .sipush _ => G (k + 1) L (.int (jc c) :: st) x
    | .ldc _ => G (k + 1) L (.int (jc c) :: st) x
    | .ldc_w _ => G (k + 1) L (.int (jc c) :: st) x
    | .lconst _ => G (k + 1) L (.long (jcl c) :: st) x
    | .ldc2_w _ => G (k + 1) L (.long (jcl c) :: st) x
    | .iload_n _ => jgI L a (fun v => G (k + 1) L (.int v :: st) x)
    | .iload _ => jgI L a (fun v => G (k + 1) L (.int v :: st) x)
    | .lload_n _ => jgL L a (fun v => G (k + 1) L (.long v :: st) x)
    | .lload _ => jgL L a (fun v => G (k + 1) L (.long v :: st) x)
    | .aload_n _ => jgA L a (fun v => G (k + 1) L (.ref v :: st) x)
    | .istore_n _ => jpI st (fun v r => jB (jsv L a) (G (k + 1) (L.set a (some (.int v))) r x))
    | .istore _ => jpI st (fun v r => jB (jsv L a) (G (k + 1) (L.set a (some (.int v))) r x))
    | .lstore_n _ => jpL st (fun v r => jB (jsv L a && decide (a + 1 < L.length)) (G (k + 1) ((L.set a (some (.long v))).set (a + 1) none) r x))
    | .lstore _ => jpL st (fun v r => jB (jsv L a && decide (a + 1 < L.length)) (G (k + 1) ((L.set a (some (.long v))).set (a + 1) none) r x))
    | .iinc _ _ => jgI L a (fun v => jB (jsv L a) (G (k + 1) (L.set a (some (.int (v + jc c)))) st x))
    | .iadd => jp2 st (fun v y r => G (k + 1) L (.int (v + y) :: r) x)
    | .isub => jp2 st (fun v y r => G (k + 1) L (.int (v - y) :: r) x)
    | .imul => jp2 st (fun v y r => G (k + 1) L (.int (v * y) :: r) x)
    | .iand => jp2 st (fun v y r => G (k + 1) L (.int (v &&& y) :: r) x)
    | .ior => jp2 st (fun v y r => G (k + 1) L (.int (v ||| y) :: r) x)
    | .ixor => jp2 st (fun v y r => G (k + 1) L (.int (v ^^^ y) :: r) x)
    | .ishl => jp2 st (fun v y r => G (k + 1) L (.int (v <<< (y &&& 31)) :: r) x)
    | .ishr => jp2 st (fun v y r => G (k + 1) L (.int (v >>> (y &&& 31)) :: r) x)
    | .iushr => jp2 st (fun v y r => G (k + 1) L (.int (v.toUInt32 >>> (y.toUInt32 &&& Int32.toUInt32 31)).toInt32 :: r) x)
    | .idiv => jp2 st (fun v y r => ¬ y = 0 ∧ G (k + 1) L (.int (v / y) :: r) x)
    | .irem => jp2 st (fun v y r => ¬ y = 0 ∧ G (k + 1) L (.int (v - v / y * y) :: r) x)
    | .ineg => jpI st (fun v r => G (k + 1) L (.int (-v) :: r) x)
    | .i2l => jpI st (fun v r => G (k + 1) L (.long v.toInt64 :: r) x)
    | .l2i => jpL st (fun v r => G (k + 1) L (.int v.toInt32 :: r) x)
    | .ladd => jp2L st (fun v y r => G (k + 1) L (.long (v + y) :: r) x)
    | .lmul => jp2L st (fun v y r => G (k + 1) L (.long (v * y) :: r) x)
    | .ldiv => jp2L st (fun v y r => ¬ y = 0 ∧ G (k + 1) L (.long (v / y) :: r) x)
    | .lrem => jp2L st (fun v y r => ¬ y = 0 ∧ G (k + 1) L (.long (v - v / y * y) :: r) x)
    | .lcmp => jp2L st (fun v y r => G (k + 1) L (.int (lg_cmp v y) :: r) x)
    | .dup => match st with
      | v :: r => jB (v.category == 1) (G (k + 1) L (v :: v :: r) x)
      | _ => False
    | .dup2 => match st with
      | v :: w :: r => jB (v.category == 1 && w.category == 1) (G (k + 1) L (v :: w :: v :: w :: r) x)
      | _ => False
    | .getfield _ => jpA st (fun o r => jB (job N K o a b) (jrk ((K o).2.2 b) (G (k + 1) L (.int (x o b) :: r) x) (fun j => G (k + 1) L (.ref j :: r) x)))
    | .putfield _ => jpI st (fun v r => jpA r (fun o r => jB (job N K o a b && decide ((K o).2.2 b = 0)) ((c = 1 → v = 0 ∨ v = 1) ∧ G (k + 1) L r (ju x o b v))))
    | .iaload => jpI st (fun i r => jpA r (fun o r => jB (jar N K o 8) (vp_in i (K o).2.1 ∧ G (k + 1) L (.int (x o i.toNatClampNeg) :: r) x)))
    | .iastore => jpI st (fun v r => jpI r (fun i r => jpA r (fun o r => jB (jar N K o 8) (vp_in i (K o).2.1 ∧ G (k + 1) L r (ju x o i.toNatClampNeg v)))))
    | .baload => jpI st (fun i r => jpA r (fun o r => jB (jar N K o 9) (vp_in i (K o).2.1 ∧ G (k + 1) L (.int (x o i.toNatClampNeg) :: r) x)))
    | .bastore => jpI st (fun v r => jpI r (fun i r => jpA r (fun o r => jB (jar N K o 9) (vp_in i (K o).2.1 ∧ (v = 0 ∨ v = 1) ∧ G (k + 1) L r (ju x o i.toNatClampNeg v)))))
    | .aaload => jpI st (fun i r => jpA r (fun o r => jB (jar N K o a && decide (10 ≤ a ∧ a < 12)) (vp_in i (K o).2.1 ∧ jrk ((K o).2.2 i.toNatClampNeg) False (fun j => G (k + 1) L (.ref j :: r) x))))
    | .goto _ => G (ts.getD 0 0) L st x
    | .ifCond cd _ => jpI st (fun v r => (jif cd v → G (ts.getD 0 0) L r x) ∧ (jnf cd v → G (k + 1) L r x))
    | .if_icmp cd _ => jp2 st (fun v y r => (jic cd v y → G (ts.getD 0 0) L r x) ∧ (jnc cd v y → G (k + 1) L r x))
    | .tableswitch _ lo _ _ => jpI st (fun v r => jsw v.toInt (fun t => G t L r x) (ts.getD 0 0) ((List.range (ts.length - 1)).map (fun j : Nat => (lo + (j : Int), ts.getD (j + 1) 0))))
    | .lookupswitch _ ps => jpI st (fun v r => jsw v.toInt (fun t => G t L r x) (ts.getD 0 0) ((List.range (ts.length - 1)).map (fun j : Nat => ((ps.toList.getD j (0, 0)).1, ts.getD (j + 1) 0))))
    | .invokevirtual _ => jpA (st.drop b) (fun o r => jB (jar N K o c.toNat && jcs r && decide (b ≤ st.length)) (O a (.ref o :: (st.take b).reverse) x (fun rv x' => G (k + 1) L (rv.toList ++ r) x')))
    | .invokestatic _ => match c with
      | 0 => jB (jcs (st.drop b) && decide (b ≤ st.length)) (O a (st.take b).reverse x (fun rv x' => G (k + 1) L (rv.toList ++ st.drop b) x'))
      | 1 => jp2 st (fun v y r => jB (jcs r) (G (k + 1) L (.int (if y < v then y else v) :: r) x))
      | 2 => jp2 st (fun v y r => jB (jcs r) (G (k + 1) L (.int (if v < y then y else v) :: r) x))
      | 3 => jpI st (fun v r => jB (jcs r) (G (k + 1) L (.int (if 0 ≤ v then v else 0 - v) :: r) x))
      | 4 => jpI st (fun n r => jpI r (fun dp r => jpA r (fun d r => jpI r (fun sp r => jpA r (fun o r => jB (jcs r && jar N K o 8 && jar N K d 8) (¬ sp < 0 ∧ ¬ dp < 0 ∧ ¬ n < 0 ∧ sp.toNatClampNeg + n.toNatClampNeg ≤ (K o).2.1 ∧ dp.toNatClampNeg + n.toNatClampNeg ≤ (K d).2.1 ∧ G (k + 1) L r (jua x d (va_cpy (x o) (x d) sp.toNatClampNeg dp.toNatClampNeg n.toNatClampNeg))))))))
      | _ => False
    | .ireturn => match st with
      | [.int v] => (c = 1 → v = 0 ∨ v = 1) ∧ Qr (some (.int v)) x
      | _ => False
    | .return_ => match st with
      | [] => Qr none x
      | _ => False
    | _ => False
/-- THE METHOD'S BODY, n steps at most: what must hold at its place k -/
def jwp (O : jO) (N : Nat) (K : Nat → jSh) (code : List jI) (Qr : Option Value → jM → Prop) : Nat → Nat → List (Option Value) → List Value → jM → Prop
  | 0, _, _, _, _ => False
  | n + 1, k, L, st, x => match code[k]? with
    | none => False
    | some q => jx O N K (fun k L st x => jwp O N K code Qr n k L st x) Qr q k L st x
