/-! CONSTRUCTORS: memory that grows; a run of them is a function -/
abbrev jM2 : Type := Nat × (Nat → jSh) × jM
abbrev jS2 : Type := Nat × List (Option Value) × List Value × jM2 × Nat × Nat
def jKp (K : Nat → jSh) (o : Nat) (h : jSh) : Nat → jSh := fun i => if i = o then h else K i
def jKs (K : Nat → jSh) (o k j : Nat) : Nat → jSh := jKp K o ((K o).1, (K o).2.1, fun i => if i = k then j else (K o).2.2 i)
def jadp (ad : Nat → Nat) (N q : Nat) : Nat → Nat := fun i => if i = N then q else ad i
def jwf (N : Nat) (K : Nat → jSh) : Prop := ∀ i k j, i < N → k < (K i).2.1 → (K i).2.2 k = j + 2 → j < N
def jwL (N : Nat) (L : List (Option Value)) : Prop := ∀ (i j : Nat), L[i]? = some (some (.ref j)) → j < N ∨ j = 200
def jwS (N : Nat) (st : List Value) : Prop := ∀ j : Nat, Value.ref j ∈ st → j < N
def jicB (cd : ClassFile.Cond) (v y : Int32) : Bool := match cd with
  | .eq => decide (v = y)
  | .ne => decide (¬ v = y)
  | .lt => decide (v < y)
  | .ge => decide (y ≤ v)
  | .gt => decide (y < v)
  | .le => decide (v ≤ y)
def jq1 (F : Nat → Nat → jM2 → Option jM2) (mc ms : Nat) (q : jI) (S : jS2) : Option jS2 := match q, S with
  | (_, i, _, a, b, c, ts), (k, L, st, (N, K, x), u, w) => match i with
    | .iconst _ => some (k + 1, L, .int (jc c) :: st, (N, K, x), u, w)
    | .bipush _ => some (k + 1, L, .int (jc c) :: st, (N, K, x), u, w)
    | .sipush _ => some (k + 1, L, .int (jc c) :: st, (N, K, x), u, w)
    | .aload_n _ => match L[a]? with
      | some (some (.ref v)) => if v < N then some (k + 1, L, .ref v :: st, (N, K, x), u, w) else none
      | _ => none
    | .iload_n _ => match L[a]? with
      | some (some (.int v)) => some (k + 1, L, .int v :: st, (N, K, x), u, w)
      | _ => none
    | .istore_n _ => match st with
      | .int v :: r => if jsv L a = true then some (k + 1, L.set a (some (.int v)), r, (N, K, x), u, w) else none
      | _ => none
    | .iinc _ _ => match L[a]? with
      | some (some (.int v)) => if jsv L a = true then some (k + 1, L.set a (some (.int (v + jc c))), st, (N, K, x), u, w) else none
      | _ => none
    | .dup => match st with
      | v :: r => if v.category = 1 then some (k + 1, L, v :: v :: r, (N, K, x), u, w) else none
      | _ => none
    | .if_icmp cd _ => match st with
      | .int y :: .int v :: r => some (if jicB cd v y = true then ts.getD 0 0 else k + 1, L, r, (N, K, x), u, w)
      | _ => none
    | .goto _ => some (ts.getD 0 0, L, st, (N, K, x), u, w)
    | .getfield _ => match st with
      | .ref o :: r => if job N K o a b = true then match (K o).2.2 b with
          | j + 2 => some (k + 1, L, .ref j :: r, (N, K, x), u, w)
          | _ => none
        else none
      | _ => none
    | .putfield _ => match st with
      | .int v :: .ref o :: r => if job N K o a b = true ∧ (K o).2.2 b = 0 ∧ (c = 1 → v = 0 ∨ v = 1) ∧ ¬ c = 2 then some (k + 1, L, r, (N, K, ju x o b v), u, w) else none
      | .ref j :: .ref o :: r => if job N K o a b = true ∧ c = 2 then some (k + 1, L, r, (N, jKs K o b (j + 2), x), u, w) else none
      | _ => none
    | .aastore => match st with
      | .ref j :: .int i :: .ref o :: r => if jar N K o a = true ∧ 0 ≤ i ∧ i.toNatClampNeg < (K o).2.1 ∧ ((a = 10 ∧ (K j).1 = 2) ∨ (a = 11 ∧ (K j).1 = 5)) then some (k + 1, L, r, (N, jKs K o i.toNatClampNeg (j + 2), x), u, w) else none
      | _ => none
    | .new _ => if N < 200 ∧ u + 1 ≤ mc ∧ w + jfc a ≤ ms then some (k + 1, L, .ref N :: st, (N + 1, jKp K N (a, jfc a, jdf a), jua x N (fun _ => 0)), u + 1, w + jfc a) else none
    | .newarray _ => match st with
      | .int n :: r => if N < 200 ∧ 0 ≤ n ∧ n.toNatClampNeg ≤ 1000 ∧ u + 1 ≤ mc ∧ w + n.toNatClampNeg ≤ ms then some (k + 1, L, .ref N :: r, (N + 1, jKp K N (a, n.toNatClampNeg, fun _ => 0), jua x N (fun _ => 0)), u + 1, w + n.toNatClampNeg) else none
      | _ => none
    | .anewarray _ => match st with
      | .int n :: r => if N < 200 ∧ 0 ≤ n ∧ n.toNatClampNeg ≤ 1000 ∧ u + 1 ≤ mc ∧ w + n.toNatClampNeg ≤ ms then some (k + 1, L, .ref N :: r, (N + 1, jKp K N (a, n.toNatClampNeg, fun _ => 1), jua x N (fun _ => 0)), u + 1, w + n.toNatClampNeg) else none
      | _ => none
    | .invokespecial _ => match st with
      | .ref o :: r => if c = 0 then (if jcs r = true then some (k + 1, L, r, (N, K, x), u, w) else none) else match jCt[a]? with
          | some q => if jcs r = true ∧ u + q.2.2.2.2.2.1 ≤ mc ∧ w + q.2.2.2.2.2.2 ≤ ms then match F a o (N, K, x) with
              | some M => some (k + 1, L, r, M, u + q.2.2.2.2.2.1, w + q.2.2.2.2.2.2)
              | none => none
            else none
          | none => none
      | _ => none
    | _ => none
def jq (F : Nat → Nat → jM2 → Option jM2) (mc ms : Nat) (code : List jI) : Nat → jS2 → Option jM2
  | 0, _ => none
  | n + 1, S => match code[S.1]? with
    | none => none
    | some q => match q.2.1 with
      | .return_ => if S.2.2.1 = [] then some S.2.2.2.1 else none
      | _ => match jq1 F mc ms q S with
        | some S' => jq F mc ms code n S'
        | none => none
/-- constructor a upon the object o, calls at most d deep -/
def jF : Nat → Nat → Nat → jM2 → Option jM2
  | 0, _, _, _ => none
  | d + 1, a, o, M => match jCt[a]?, jCc[a]? with
    | some r, some code => jq (jF d) r.2.2.2.2.2.1 r.2.2.2.2.2.2 code 400 (0, jenL r.2.2.1 [.ref o], [], M, 0, 0)
    | _, _ => none
/-! the world grows -/
theorem jce_ext {ad ad' : Nat → Nat} {cy : Nat → ClassId} {h : jSh} {f : Nat → Int32} (hh : ∀ k j, k < h.2.1 → h.2.2 k = j + 2 → ad' j = ad j) : jce ad' cy h f = jce ad cy h f := by
  have e1 : ∀ k, k < h.2.1 → jfv ad' (h.2.2 k) (f k) = jfv ad (h.2.2 k) (f k) := by
    intro k hk
    match hs : h.2.2 k with
    | 0 => rfl
    | 1 => rfl
    | j + 2 => simp only [jfv]; rw [hh k j hk hs]
  have e2 : ∀ k, k < h.2.1 → jrf ad' (h.2.2 k) = jrf ad (h.2.2 k) := by
    intro k hk
    match hs : h.2.2 k with
    | 0 => rfl
    | 1 => rfl
    | j + 2 => simp only [jrf]; rw [hh k j hk hs]
  by_cases h1 : h.1 < 8
  · rw [jce_obj h1, jce_obj h1]
    congr 2
    exact List.map_congr_left (fun k hk => e1 k (List.mem_range.mp hk))
  · by_cases h2 : h.1 < 10
    · rw [jce_int h1 h2, jce_int h1 h2]
    · rw [jce_ref h2, jce_ref h2]
      congr 7
      funext k
      by_cases hk : k < h.2.1
      · rw [if_pos hk, if_pos hk, e2 k hk]
      · rw [if_neg hk, if_neg hk]
theorem jadp_lt {ad : Nat → Nat} {N q i : Nat} (h : i < N) : jadp ad N q i = ad i := by simp [jadp, Nat.ne_of_lt h]
theorem jW_push {ad : Nat → Nat} {cy : Nat → ClassId} {N q : Nat} {K : Nat → jSh} {x : jM} {h : jSh} {f : Nat → Int32} (hwf : jwf N K) (hh : ∀ k j, ¬ h.2.2 k = j + 2) : jW ad cy N K x ++ [(q, jce ad cy h f)] = jW (jadp ad N q) cy (N + 1) (jKp K N h) (jua x N f) := by
  unfold jW
  rw [List.range_succ, List.map_append]
  congr 1
  · apply List.map_congr_left
    intro i hi
    have hi := List.mem_range.mp hi
    have e : jKp K N h i = K i := by simp [jKp, Nat.ne_of_lt hi]
    have e2 : jua x N f i = x i := by simp [jua, Nat.ne_of_lt hi]
    rw [jadp_lt hi, e, e2]
    congr 1
    exact (jce_ext (fun k j hk hs => jadp_lt (hwf i k j hi hk hs))).symm
  · simp only [List.map_cons, List.map_nil]
    have e : jKp K N h N = h := by simp [jKp]
    have e2 : jua x N f N = f := by simp [jua]
    rw [e, e2]
    congr 2
    · simp [jadp]
    · exact (jce_ext (fun k j _ hs => absurd hs (hh k j))).symm
theorem jadp_le {ad : Nat → Nat} {N q i : Nat} (hN : N < 200) (h : i < N ∨ i = 200) : jadp ad N q i = ad i := by
  have : ¬ i = N := by omega
  simp [jadp, this]
theorem jvp {ad : Nat → Nat} {N q : Nat} {v : Value} (hN : N < 200) (h : ∀ j, v = .ref j → j < N ∨ j = 200) : jv (jadp ad N q) v = jv ad v := by
  cases v with
  | ref j => simp only [jv]; rw [jadp_le hN (h j rfl)]
  | _ => rfl
theorem jmap_p {ad : Nat → Nat} {N q : Nat} {st : List Value} (hN : N < 200) (h : jwS N st) : st.map (jv (jadp ad N q)) = st.map (jv ad) := List.map_congr_left (fun v hv => jvp hN (fun j e => Or.inl (h j (e ▸ hv))))
theorem jL_p {ad : Nat → Nat} {N q n : Nat} {ls : Array Slot} {L : List (Option Value)} (hN : N < 200) (h : jL ad ls n L) (hw : jwL N L) : jL (jadp ad N q) ls n L := ⟨h.1, h.2.1, h.2.2.1, fun i v hi => by rw [jvp hN (fun j e => hw i j (e ▸ hi))]; exact h.2.2.2 i v hi⟩
theorem jset_fr {ad : Nat → Nat} {cy : Nat → ClassId} {h : jSh} {f : Nat → Int32} {b j : Nat} (ht : h.1 < 8) :
    (Sum.inr (h.1, ((List.range h.2.1).map (fun k => jfv ad (h.2.2 k) (f k))).set b (.ref (ad j))) : va_E) = jce ad cy (h.1, h.2.1, fun i => if i = b then j + 2 else h.2.2 i) f := by
  rw [jce_obj (h := (h.1, h.2.1, fun i => if i = b then j + 2 else h.2.2 i)) ht]
  congr 2
  apply List.ext_getElem?
  intro k
  rw [List.getElem?_set]
  by_cases hb : b = k
  · subst hb
    by_cases hl : b < h.2.1
    · simp [hl, jfv]
    · simp [hl]
  · rw [if_neg hb]
    by_cases hl : k < h.2.1
    · simp [hl, Ne.symm hb]
    · simp [hl]
theorem jset_ar {ad : Nat → Nat} {cy : Nat → ClassId} {h : jSh} {f : Nat → Int32} {b j : Nat} (ht : ¬ h.1 < 10) (hb : b < h.2.1) :
    (Sum.inl (cy h.1, h.2.1, .inr (.inr (.inr (.inr (va_up (fun k => if k < h.2.1 then jrf ad (h.2.2 k) else none) b (some (ad j))))))) : va_E) = jce ad cy (h.1, h.2.1, fun i => if i = b then j + 2 else h.2.2 i) f := by
  rw [jce_ref (h := (h.1, h.2.1, fun i => if i = b then j + 2 else h.2.2 i)) ht]
  congr 7
  funext k
  by_cases hk : k = b
  · subst hk
    rw [va_up_self]
    simp [hb, jrf]
  · rw [va_up_ne _ _ hk]
    simp [hk]
theorem jW_setK {ad : Nat → Nat} {cy : Nat → ClassId} {N : Nat} {K : Nat → jSh} {x : jM} {o : Nat} {h : jSh} : (jW ad cy N K x).set o (ad o, jce ad cy h (x o)) = jW ad cy N (jKp K o h) x := by
  apply List.ext_getElem?
  intro k
  by_cases hk : k = o
  · subst hk
    by_cases hN : k < N
    · rw [jW_at hN, List.getElem?_set]
      simp [jW, hN, jKp]
    · simp [jW, hN]
  · rw [List.getElem?_set]
    simp only [jW, jKp]
    rw [if_neg (fun h => hk h.symm)]
    by_cases hN : k < N
    · simp [hN, hk]
    · simp [hN]
theorem jwf_s {N : Nat} {K : Nat → jSh} {o b j : Nat} (h : jwf N K) (hj : j < N) : jwf N (jKs K o b (j + 2)) := by
  intro i k j' hi hk hs
  unfold jKs jKp at hk hs
  by_cases hio : i = o
  · subst hio
    simp only [if_true] at hk hs
    by_cases hkb : k = b
    · simp only [hkb, if_true] at hs
      omega
    · simp only [hkb, if_false] at hs
      exact h i k j' hi hk hs
  · simp only [hio, if_false] at hk hs
    exact h i k j' hi hk hs
theorem jwf_p {N : Nat} {K : Nat → jSh} {s : jSh} (h : jwf N K) (hh : ∀ k j, ¬ s.2.2 k = j + 2) : jwf (N + 1) (jKp K N s) := by
  intro i k j' hi hk hs
  unfold jKp at hk hs
  by_cases hio : i = N
  · subst hio
    simp only [if_true] at hs
    exact absurd hs (hh k j')
  · simp only [hio, if_false] at hk hs
    exact Nat.lt_succ_of_lt (h i k j' (by omega) hk hs)
theorem jwL_up {N : Nat} {L : List (Option Value)} (h : jwL N L) : jwL (N + 1) L := fun i j hj => (h i j hj).imp Nat.lt_succ_of_lt id
theorem jwS_up {N : Nat} {st : List Value} (h : jwS N st) : jwS (N + 1) (.ref N :: st) := fun j hj => by
  rcases List.mem_cons.mp hj with e | e
  · cases e; exact Nat.lt_succ_self _
  · exact Nat.lt_succ_of_lt (h j e)
theorem jwS_i {N : Nat} {st : List Value} {v : Int32} (h : jwS N st) : jwS N (.int v :: st) := fun j hj => by
  rcases List.mem_cons.mp hj with e | e
  · cases e
  · exact h j e
theorem jwS_r {N j0 : Nat} {st : List Value} (h : jwS N st) (h0 : j0 < N) : jwS N (.ref j0 :: st) := fun j hj => by
  rcases List.mem_cons.mp hj with e | e
  · cases e; exact h0
  · exact h j e
theorem jwS_t {N : Nat} {st : List Value} {v : Value} (h : jwS N (v :: st)) : jwS N st := fun j hj => h j (List.mem_cons_of_mem _ hj)
theorem jwL_set {N a : Nat} {L : List (Option Value)} {v : Int32} (h : jwL N L) : jwL N (L.set a (some (.int v))) := fun i j hj => by
  rw [List.getElem?_set] at hj
  split at hj
  · split at hj <;> simp at hj
  · exact h i j hj
