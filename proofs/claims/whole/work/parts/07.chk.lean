/-! THE CHECK of a method's code against its bytes, and that it is enough -/
theorem jpI_spec {st : List Value} {g : Int32 → List Value → Prop} (h : jpI st g) : ∃ v r, st = .int v :: r ∧ g v r := by
  unfold jpI at h
  split at h
  · exact ⟨_, _, rfl, h⟩
  · exact h.elim
theorem jpL_spec {st : List Value} {g : Int64 → List Value → Prop} (h : jpL st g) : ∃ v r, st = .long v :: r ∧ g v r := by
  unfold jpL at h
  split at h
  · exact ⟨_, _, rfl, h⟩
  · exact h.elim
theorem jpA_spec {st : List Value} {g : Nat → List Value → Prop} (h : jpA st g) : ∃ v r, st = .ref v :: r ∧ g v r := by
  unfold jpA at h
  split at h
  · exact ⟨_, _, rfl, h⟩
  · exact h.elim
theorem jp2_spec {st : List Value} {g : Int32 → Int32 → List Value → Prop} (h : jp2 st g) : ∃ v y r, st = .int y :: .int v :: r ∧ g v y r := by
  obtain ⟨y, r1, rfl, h1⟩ := jpI_spec h
  obtain ⟨v, r, rfl, h2⟩ := jpI_spec h1
  exact ⟨v, y, r, rfl, h2⟩
theorem jp2L_spec {st : List Value} {g : Int64 → Int64 → List Value → Prop} (h : jp2L st g) : ∃ v y r, st = .long y :: .long v :: r ∧ g v y r := by
  obtain ⟨y, r1, rfl, h1⟩ := jpL_spec h
  obtain ⟨v, r, rfl, h2⟩ := jpL_spec h1
  exact ⟨v, y, r, rfl, h2⟩
theorem jgI_spec {L : List (Option Value)} {j : Nat} {g : Int32 → Prop} (h : jgI L j g) : ∃ v, L[j]? = some (some (.int v)) ∧ g v := by
  unfold jgI at h
  split at h
  · exact ⟨_, by assumption, h⟩
  · exact h.elim
theorem jgL_spec {L : List (Option Value)} {j : Nat} {g : Int64 → Prop} (h : jgL L j g) : ∃ v, L[j]? = some (some (.long v)) ∧ g v := by
  unfold jgL at h
  split at h
  · exact ⟨_, by assumption, h⟩
  · exact h.elim
theorem jgA_spec {L : List (Option Value)} {j : Nat} {g : Nat → Prop} (h : jgA L j g) : ∃ v, L[j]? = some (some (.ref v)) ∧ g v := by
  unfold jgA at h
  split at h
  · exact ⟨_, by assumption, h⟩
  · exact h.elim
theorem jrk_spec {k : Nat} {g0 : Prop} {g : Nat → Prop} (h : jrk k g0 g) : (k = 0 ∧ g0) ∨ ∃ j, k = j + 2 ∧ g j := by
  match k, h with
  | 0, h => exact Or.inl ⟨rfl, h⟩
  | 1, h => exact h.elim
  | j + 2, h => exact Or.inr ⟨j, rfl, h⟩
theorem jsw_spec {v : Int} {G : Nat → Prop} {d : Nat} : ∀ {l : List (Int × Nat)}, jsw v G d l → (∃ q, q ∈ l ∧ v = q.1 ∧ G q.2) ∨ ((∀ q ∈ l, ¬ v = q.1) ∧ G d)
  | [], h => Or.inr ⟨fun _ h => absurd h List.not_mem_nil, h⟩
  | q :: r, h => by
    by_cases hv : v = q.1
    · exact Or.inl ⟨q, List.mem_cons_self, hv, h.1 hv⟩
    · rcases jsw_spec (h.2 hv) with ⟨q', h1, h2⟩ | ⟨h1, h2⟩
      · exact Or.inl ⟨q', List.mem_cons_of_mem _ h1, h2⟩
      · exact Or.inr ⟨fun q' hq => (List.mem_cons.mp hq).elim (fun e => e ▸ hv) (h1 q'), h2⟩
theorem jlook {G : Nat → Prop} {d : Nat} : ∀ (l : List (Int × Int)) (tf : Nat → Nat) (dd k : Int), jsw k G d ((List.range l.length).map (fun j : Nat => ((l.getD j (0, 0)).1, tf j))) → (∃ j : Nat, j < l.length ∧ Op.lookupswitch.offset l dd k = (l.getD j (0, 0)).2 ∧ G (tf j)) ∨ (Op.lookupswitch.offset l dd k = dd ∧ G d)
  | [], tf, dd, k, h => Or.inr ⟨rfl, h⟩
  | (a, o) :: r, tf, dd, k, h => by
    rw [Op.lookupswitch.offset_cons]
    rw [List.length_cons, List.range_succ_eq_map, List.map_cons, List.map_map] at h
    by_cases hk : k = a
    · exact Or.inl ⟨0, Nat.zero_lt_succ _, by rw [if_pos hk.symm]; rfl, h.1 hk⟩
    · rw [if_neg (fun e => hk e.symm)]
      rcases jlook r (fun j => tf (j + 1)) dd k (h.2 hk) with ⟨j, h1, h2, h3⟩ | h1
      · exact Or.inl ⟨j + 1, Nat.succ_lt_succ h1, h2, h3⟩
      · exact Or.inr h1
def jrm (r : jR) : Room := { frames := r.2.2.2.2.2.2.1, cells := 0, slots := 0, locals := r.2.2.2.2.2.2.2 }
def jnx (code : List jI) (k pc : Nat) : Bool := match code[k]? with
  | some q => q.1 == pc
  | none => false
def jnI (code : List jI) (k : Nat) (pc : Int) : Bool := match code[k]? with
  | some q => decide (pc = (q.1 : Int))
  | none => false
theorem jnI_spec {code : List jI} {k : Nat} {pc : Int} (h : jnI code k pc = true) : ∃ t : Nat, pc = (t : Int) ∧ jnx code k t = true := by
  unfold jnI at h
  split at h
  · next q hq => exact ⟨q.1, by simpa using h, by simp [jnx, hq]⟩
  · cases h
def jlk (own ix : Nat) (a : Int) (q : Nat × Nat × Int × Nat) : Bool := q.1 == own && (q.2.1 == ix && q.2.2.1 == a)
def jlf (own ix a b : Nat) (q : Nat × Nat × Nat × Nat × Nat) : Bool := q.1 == own && (q.2.1 == ix && (q.2.2.1 == a && q.2.2.2.1 == b))
def jlm (own ix a : Nat) (q : Nat × Nat × Nat × Nat) : Bool := q.1 == own && (q.2.1 == ix && q.2.2.1 == a)
theorem jKi_in {own ix : Nat} {v : Int} (h : jKi.any (jlk own ix v) = true) : Cond.constant (jcn own) ix (jc v) ∈ jt := by
  obtain ⟨q, hq, h⟩ := List.any_eq_true.mp h
  have h0 := jat_in (List.all_eq_true.mp jKi_ok q hq)
  simp only [jlk, Bool.and_eq_true, beq_iff_eq] at h
  rw [h.1, h.2.1, h.2.2] at h0
  exact h0
theorem jKj_in {own ix : Nat} {v : Int} (h : jKj.any (jlk own ix v) = true) : Cond.constantLong (jcn own) ix (jcl v) ∈ jt := by
  obtain ⟨q, hq, h⟩ := List.any_eq_true.mp h
  have h0 := jat_in (List.all_eq_true.mp jKj_ok q hq)
  simp only [jlk, Bool.and_eq_true, beq_iff_eq] at h
  rw [h.1, h.2.1, h.2.2] at h0
  exact h0
theorem jFl_in {own ix a b : Nat} (h : jFl.any (jlf own ix a b) = true) : ∃ r : vw_C, vwCl[a]? = some r ∧ b < r.2.2 ∧ Cond.fieldLink (jcn own) ix (r.2.1 b).1 (r.2.1 b).2.1 (r.2.1 b).2.2.1 ∈ jt := by
  obtain ⟨q, hq, h⟩ := List.any_eq_true.mp h
  have h0 := List.all_eq_true.mp jFl_ok q hq
  simp only [jlf, Bool.and_eq_true, beq_iff_eq] at h
  obtain ⟨e1, e2, e3, e4⟩ := h
  unfold jFok at h0
  rw [e3, e4, e1, e2] at h0
  split at h0
  · next r hr =>
    simp only [Bool.and_eq_true, decide_eq_true_eq] at h0
    exact ⟨r, hr, h0.1, jat_in h0.2⟩
  · cases h0
theorem jMl_in {own ix a : Nat} {r : jR} (h : jMl.any (jlm own ix a) = true) (hr : jMt[a]? = some r) : Cond.methodLink (jcn own) ix r.1 ∈ jt := by
  obtain ⟨q, hq, h⟩ := List.any_eq_true.mp h
  have h0 := List.all_eq_true.mp jMl_ok q hq
  simp only [jlm, Bool.and_eq_true, beq_iff_eq] at h
  obtain ⟨e1, e2, e3⟩ := h
  unfold jMok at h0
  rw [e3, e1, e2, hr] at h0
  exact jat_in h0
theorem jBl_in {own ix a : Nat} (h : jBl.any (jlm own ix a) = true) : Cond.methodLink (jcn own) ix (jbn a) ∈ jt := by
  obtain ⟨q, hq, h⟩ := List.any_eq_true.mp h
  have h0 := jat_in (List.all_eq_true.mp jBl_ok q hq)
  simp only [jlm, Bool.and_eq_true, beq_iff_eq] at h
  rw [h.1, h.2.1, h.2.2] at h0
  exact h0
theorem jMt_at {a : Nat} {r : jR} (h : jMt[a]? = some r) : ∃ z, jRok r z = true := by
  have key : ∀ (d : Nat), d ≤ a → a < d + 20 → (((jMt.drop d).take 20).zip ((jMp.drop d).take 20)).all (fun q => jRok q.1 q.2) = true → ∃ z, jRok r z = true := by
    intro d h1 h2 hall
    have hl : a < jMt.length := (List.getElem?_eq_some_iff.mp h).1
    have hlen : jMt.length = jMp.length := by decide +kernel
    have hz : ∃ z, jMp[a]? = some z := ⟨_, List.getElem?_eq_getElem (by omega)⟩
    obtain ⟨z, hz⟩ := hz
    refine ⟨z, List.all_eq_true.mp hall (r, z) (List.mem_of_getElem? (i := a - d) ?_)⟩
    rw [List.getElem?_zip_eq_some]
    rw [List.getElem?_take, List.getElem?_take, List.getElem?_drop, List.getElem?_drop, if_pos (by omega), if_pos (by omega), show d + (a - d) = a by omega]
    exact ⟨h, hz⟩
  have hl : a < jMt.length := (List.getElem?_eq_some_iff.mp h).1
  have hn : jMt.length = 156 := by decide +kernel
  rcases (show (0 ≤ a ∧ a < 20) ∨ (20 ≤ a ∧ a < 40) ∨ (40 ≤ a ∧ a < 60) ∨ (60 ≤ a ∧ a < 80) ∨ (80 ≤ a ∧ a < 100) ∨ (100 ≤ a ∧ a < 120) ∨ (120 ≤ a ∧ a < 140) ∨ (140 ≤ a ∧ a < 160) by omega) with h1 | h1 | h1 | h1 | h1 | h1 | h1 | h1
  · exact key 0 (by omega) (by omega) jMt_ok_0
  · exact key 20 (by omega) (by omega) jMt_ok_1
  · exact key 40 (by omega) (by omega) jMt_ok_2
  · exact key 60 (by omega) (by omega) jMt_ok_3
  · exact key 80 (by omega) (by omega) jMt_ok_4
  · exact key 100 (by omega) (by omega) jMt_ok_5
  · exact key 120 (by omega) (by omega) jMt_ok_6
  · exact key 140 (by omega) (by omega) jMt_ok_7
/-- what the tables say of a method -/
theorem jMt_words {a : Nat} {r : jR} (h : jMt[a]? = some r) : Cond.code r.1 r.2.1 r.2.2.1 r.2.2.2.1 ∈ jt ∧ Cond.initialized r.1.cls ∈ jt ∧ (r.1.cls ≠ "java/lang/invoke/MethodHandle" ∧ r.1.cls ≠ "java/lang/invoke/VarHandle" ∧ (parseMethodDescriptor r.1.desc).map (fun d => d.parameters.length) = some r.2.2.2.2.1) ∧ plainName r.1.cls = true ∧ ((∃ q, vwCl[r.2.2.2.2.2.1]? = some q ∧ q.1 = r.1.cls ∧ Cond.instanceMethod r.1 ∈ jt ∧ Cond.selects r.1.cls r.1 r.1 ∈ jt) ∨ (vwCl[r.2.2.2.2.2.1]? = none ∧ Cond.static r.1 ∈ jt)) := by
  obtain ⟨z, hz⟩ := jMt_at h
  simp only [jRok, Bool.and_eq_true, decide_eq_true_eq] at hz
  obtain ⟨h1, h2, h3, h4, h5, h6⟩ := hz
  refine ⟨jat_in h1, jat_in h2, ⟨h3.1, h3.2, h4⟩, h5, ?_⟩
  split at h6
  · next q hq =>
    simp only [Bool.and_eq_true, decide_eq_true_eq] at h6
    exact Or.inl ⟨q, hq, h6.1, jat_in h6.2.1, jat_in h6.2.2⟩
  · next hq => exact Or.inr ⟨hq, jat_in h6⟩

def jok2 (oi : Nat) (ret : Option FieldType) (Rf Rl : Nat) (code : List jI) (k : Nat) (q : jI) : Bool :=
  match q with
  | (pc, i, len, a, b, cv, ts) => match i with
    | .iconst n => len == 1 && (jnx code (k + 1) (pc + 1) && decide (Int32.ofInt n = jc cv))
    | .bipush n => len == 2 && (jnx code (k + 1) (pc + 2) && decide ((Int8.ofInt n).toInt32 = jc cv))
    | .sipush n => len == 3 && (jnx code (k + 1) (pc + 3) && decide ((Int16.ofInt n).toInt32 = jc cv))
    | .ldc n => len == 2 && (jnx code (k + 1) (pc + 2) && jKi.any (jlk oi n cv))
    | .ldc_w n => len == 3 && (jnx code (k + 1) (pc + 3) && jKi.any (jlk oi n cv))
    | .ldc2_w n => len == 3 && (jnx code (k + 1) (pc + 3) && jKj.any (jlk oi n cv))
    | .lconst n => len == 1 && (jnx code (k + 1) (pc + 1) && decide (Int64.ofNat (n : Nat) = jcl cv))
    | .iload_n n => len == 1 && (jnx code (k + 1) (pc + 1) && (n : Nat) == a)
    | .iload n => len == 2 && (jnx code (k + 1) (pc + 2) && n == a)
    | .lload_n n => len == 1 && (jnx code (k + 1) (pc + 1) && (n : Nat) == a)
    | .lload n => len == 2 && (jnx code (k + 1) (pc + 2) && n == a)
    | .aload_n n => len == 1 && (jnx code (k + 1) (pc + 1) && (n : Nat) == a)
    | .istore_n n => len == 1 && (jnx code (k + 1) (pc + 1) && (n : Nat) == a)
    | .istore n => len == 2 && (jnx code (k + 1) (pc + 2) && n == a)
    | .lstore_n n => len == 1 && (jnx code (k + 1) (pc + 1) && (n : Nat) == a)
    | .lstore n => len == 2 && (jnx code (k + 1) (pc + 2) && n == a)
    | .iinc n w => len == 3 && (jnx code (k + 1) (pc + 3) && (n == a && decide (Int32.ofInt w = jc cv)))
    | .iadd => len == 1 && jnx code (k + 1) (pc + 1)
    | .isub => len == 1 && jnx code (k + 1) (pc + 1)
    | .imul => len == 1 && jnx code (k + 1) (pc + 1)
    | .iand => len == 1 && jnx code (k + 1) (pc + 1)
    | .ior => len == 1 && jnx code (k + 1) (pc + 1)
    | .ixor => len == 1 && jnx code (k + 1) (pc + 1)
    | .ishl => len == 1 && jnx code (k + 1) (pc + 1)
    | .ishr => len == 1 && jnx code (k + 1) (pc + 1)
    | .iushr => len == 1 && jnx code (k + 1) (pc + 1)
    | .idiv => len == 1 && jnx code (k + 1) (pc + 1)
    | .irem => len == 1 && jnx code (k + 1) (pc + 1)
    | .ladd => len == 1 && jnx code (k + 1) (pc + 1)
    | .lmul => len == 1 && jnx code (k + 1) (pc + 1)
    | .lcmp => len == 1 && jnx code (k + 1) (pc + 1)
    | .ldiv => len == 1 && jnx code (k + 1) (pc + 1)
    | .lrem => len == 1 && jnx code (k + 1) (pc + 1)
    | .ineg => len == 1 && jnx code (k + 1) (pc + 1)
    | .i2l => len == 1 && jnx code (k + 1) (pc + 1)
    | .l2i => len == 1 && jnx code (k + 1) (pc + 1)
    | .dup => len == 1 && jnx code (k + 1) (pc + 1)
    | .dup2 => len == 1 && jnx code (k + 1) (pc + 1)
    | .getfield n => len == 3 && (jnx code (k + 1) (pc + 3) && jFl.any (jlf oi n a b))
    | .putfield n => len == 3 && (jnx code (k + 1) (pc + 3) && (jFl.any (jlf oi n a b) && (match vwCl[a]? with
      | some r => !(r.2.1 b).2.2.2 && decide (parseFieldDescriptor (r.2.1 b).2.2.1 = some (if cv = 1 then .boolean else .int))
      | none => false)))
    | .iaload => len == 1 && jnx code (k + 1) (pc + 1)
    | .baload => len == 1 && jnx code (k + 1) (pc + 1)
    | .iastore => len == 1 && jnx code (k + 1) (pc + 1)
    | .bastore => len == 1 && jnx code (k + 1) (pc + 1)
    | .aaload => len == 1 && jnx code (k + 1) (pc + 1)
    | .goto off => len == 3 && jnI code (ts.getD 0 0) ((pc : Int) + off)
    | .ifCond cd off => len == 3 && (jnx code (k + 1) (pc + 3) && jnI code (ts.getD 0 0) ((pc : Int) + off))
    | .if_icmp cd off => len == 3 && (jnx code (k + 1) (pc + 3) && jnI code (ts.getD 0 0) ((pc : Int) + off))
    | .tableswitch dflt lo hi offs => jnI code (ts.getD 0 0) ((pc : Int) + dflt) && (decide (ts.length = offs.size + 1) && (decide ((offs.size : Int) = hi - lo + 1) && (List.range offs.size).all (fun j => jnI code (ts.getD (j + 1) 0) ((pc : Int) + offs.getD j 0))))
    | .lookupswitch dflt ps => jnI code (ts.getD 0 0) ((pc : Int) + dflt) && (decide (ts.length = ps.toList.length + 1) && ((ps.toList.zip (ps.toList.drop 1)).all (fun (a, next) => a.1 < next.1) && (List.range ps.toList.length).all (fun j => jnI code (ts.getD (j + 1) 0) ((pc : Int) + (ps.toList.getD j (0, 0)).2))))
    | .invokevirtual n => len == 3 && (jnx code (k + 1) (pc + 3) && (jMl.any (jlm oi n a) && (match jMt[a]? with
      | some r => r.2.2.2.2.1 == b && (r.2.2.2.2.2.1 == cv.toNat && (decide (r.2.2.2.2.2.1 < 8) && (decide (r.2.2.2.2.2.2.1 + 1 ≤ Rf) && decide (8 + (r.2.2.1 + 11) + r.2.2.2.2.2.2.2 ≤ Rl))))
      | none => false)))
    | .invokestatic n => len == 3 && (jnx code (k + 1) (pc + 3) && (match cv with
      | 0 => jMl.any (jlm oi n a) && (match jMt[a]? with
        | some r => r.2.2.2.2.1 == b && (r.2.2.2.2.2.1 == 99 && (decide (r.2.2.2.2.2.2.1 + 1 ≤ Rf) && decide (8 + (r.2.2.1 + 11) + r.2.2.2.2.2.2.2 ≤ Rl)))
        | none => false)
      | 1 => jBl.any (jlm oi n 1) && (decide (1 ≤ Rf) && decide (21 ≤ Rl))
      | 2 => jBl.any (jlm oi n 2) && (decide (1 ≤ Rf) && decide (21 ≤ Rl))
      | 3 => jBl.any (jlm oi n 3) && (decide (1 ≤ Rf) && decide (21 ≤ Rl))
      | 4 => jBl.any (jlm oi n 4) && (decide (1 ≤ Rf) && decide (26 ≤ Rl))
      | _ => false))
    | .ireturn => len == 1 && (decide (ret = some .int) || (decide (ret = some .boolean) && decide (cv = 1)))
    | .return_ => len == 1 && decide (ret = none)
    | _ => false
def jok (oi : Nat) (cc : ByteArray) (ret : Option FieldType) (Rf Rl : Nat) (code : List jI) (k : Nat) (q : jI) : Bool := decide (decode cc q.1 = .ok (q.2.1, q.2.2.1)) && jok2 oi ret Rf Rl code k q
section JX
variable {p : Program} {l : Launch} {e : Env} {R : Room} {s : State} {m : MethodId} {args : Array Value} {below : List Frame} {meth : Method} {c : Code} {cells slots : Nat} {Q : State → Prop}
variable {cc : ByteArray} {D : va_G} {cy : Nat → ClassId} {ad : Nat → Nat} {N nL : Nat} {K : Nat → jSh} {A : Nat → Prop} {Ts : List Cond}
set_option maxHeartbeats 4000000 in
theorem jx_ok {L : List (Option Value)} {st : List Value} {x : jM} {O : jO} {code : List jI} {G : jG} {Qr : Option Value → jM → Prop} {oi k : Nat} {ret : Option FieldType} {q : jI} (E : jE p R s m args c cells slots cc D cy nL A (jcn oi) Ts)
    (hO : ∀ (a : Nat) (r : jR), jMt[a]? = some r → jMet l r.1 (.code r.1 r.2.1 r.2.2.1 r.2.2.2.1 :: jt) (jrm r) N K (O a))
    (hok : jok oi cc ret R.frames R.locals code k q = true)
    (hG : ∀ (k' pc' : Nat) (L' : List (Option Value)) (st' : List Value) (x' : jM), jnx code k' pc' = true → G k' L' st' x' → jT p l e R s m args below meth c cells slots Q D cy ad N nL K A pc' L' st' x')
    (hI : ∀ (v : Int32) (pc' : Nat) (L' : List (Option Value)) (x' : jM), decode cc pc' = .ok (.ireturn, 1) → (ret = some .int ∨ (ret = some .boolean ∧ (v = 0 ∨ v = 1))) → Qr (some (.int v)) x' → jT p l e R s m args below meth c cells slots Q D cy ad N nL K A pc' L' [.int v] x')
    (hV : ∀ (pc' : Nat) (L' : List (Option Value)) (x' : jM), decode cc pc' = .ok (.return_, 1) → ret = none → Qr none x' → jT p l e R s m args below meth c cells slots Q D cy ad N nL K A pc' L' [] x')
    (hx : jx O N K G Qr q k L st x) : jT p l e R s m args below meth c cells slots Q D cy ad N nL K A q.1 L st x := by
  obtain ⟨pc, i, len, a, b, cv, ts⟩ := q
  simp only [jok, Bool.and_eq_true, decide_eq_true_eq] at hok
  obtain ⟨hd, hok⟩ := hok
  show jT p l e R s m args below meth c cells slots Q D cy ad N nL K A pc L st x
  cases i with
  | iconst n =>
    simp only [jok2, Bool.and_eq_true, beq_iff_eq, decide_eq_true_eq] at hok
    obtain ⟨rfl, h1, h2⟩ := hok
    exact js_iconst E hd h2 (hG _ _ _ _ _ h1 hx)
  | bipush n =>
    simp only [jok2, Bool.and_eq_true, beq_iff_eq, decide_eq_true_eq] at hok
    obtain ⟨rfl, h1, h2⟩ := hok
    exact js_bipush E hd h2 (hG _ _ _ _ _ h1 hx)
  | sipush n =>
    simp only [jok2, Bool.and_eq_true, beq_iff_eq, decide_eq_true_eq] at hok
    obtain ⟨rfl, h1, h2⟩ := hok
    exact js_sipush E hd h2 (hG _ _ _ _ _ h1 hx)
  | ldc n =>
    simp only [jok2, Bool.and_eq_true, beq_iff_eq, decide_eq_true_eq] at hok
    obtain ⟨rfl, h1, h2⟩ := hok
    exact js_ldc E (jKi_in h2) hd (hG _ _ _ _ _ h1 hx)
  | ldc_w n =>
    simp only [jok2, Bool.and_eq_true, beq_iff_eq, decide_eq_true_eq] at hok
    obtain ⟨rfl, h1, h2⟩ := hok
    exact js_ldcw E (jKi_in h2) hd (hG _ _ _ _ _ h1 hx)
  | ldc2_w n =>
    simp only [jok2, Bool.and_eq_true, beq_iff_eq, decide_eq_true_eq] at hok
    obtain ⟨rfl, h1, h2⟩ := hok
    exact js_ldc2 E (jKj_in h2) hd (hG _ _ _ _ _ h1 hx)
  | lconst n =>
    simp only [jok2, Bool.and_eq_true, beq_iff_eq, decide_eq_true_eq] at hok
    obtain ⟨rfl, h1, h2⟩ := hok
    exact js_lconst E hd h2 (hG _ _ _ _ _ h1 hx)
  | iload_n n =>
    simp only [jok2, Bool.and_eq_true, beq_iff_eq, decide_eq_true_eq] at hok
    obtain ⟨rfl, h1, h2⟩ := hok
    obtain ⟨v, hl, hx⟩ := jgI_spec hx
    exact js_iload_n E hd h2 hl (hG _ _ _ _ _ h1 hx)
  | iload n =>
    simp only [jok2, Bool.and_eq_true, beq_iff_eq, decide_eq_true_eq] at hok
    obtain ⟨rfl, h1, rfl⟩ := hok
    obtain ⟨v, hl, hx⟩ := jgI_spec hx
    exact js_iload E hd hl (hG _ _ _ _ _ h1 hx)
  | lload_n n =>
    simp only [jok2, Bool.and_eq_true, beq_iff_eq, decide_eq_true_eq] at hok
    obtain ⟨rfl, h1, h2⟩ := hok
    obtain ⟨v, hl, hx⟩ := jgL_spec hx
    exact js_lload_n E hd h2 hl (hG _ _ _ _ _ h1 hx)
  | lload n =>
    simp only [jok2, Bool.and_eq_true, beq_iff_eq, decide_eq_true_eq] at hok
    obtain ⟨rfl, h1, rfl⟩ := hok
    obtain ⟨v, hl, hx⟩ := jgL_spec hx
    exact js_lload E hd hl (hG _ _ _ _ _ h1 hx)
  | aload_n n =>
    simp only [jok2, Bool.and_eq_true, beq_iff_eq, decide_eq_true_eq] at hok
    obtain ⟨rfl, h1, h2⟩ := hok
    obtain ⟨v, hl, hx⟩ := jgA_spec hx
    exact js_aload_n E hd h2 hl (hG _ _ _ _ _ h1 hx)
  | istore_n n =>
    simp only [jok2, Bool.and_eq_true, beq_iff_eq, decide_eq_true_eq] at hok
    obtain ⟨rfl, h1, h2⟩ := hok
    obtain ⟨v, r, rfl, hx⟩ := jpI_spec hx
    obtain ⟨hs, hx⟩ := jB_spec hx
    exact js_istore_n E hd h2 hs (hG _ _ _ _ _ h1 hx)
  | istore n =>
    simp only [jok2, Bool.and_eq_true, beq_iff_eq, decide_eq_true_eq] at hok
    obtain ⟨rfl, h1, rfl⟩ := hok
    obtain ⟨v, r, rfl, hx⟩ := jpI_spec hx
    obtain ⟨hs, hx⟩ := jB_spec hx
    exact js_istore E hd hs (hG _ _ _ _ _ h1 hx)
  | lstore_n n =>
    simp only [jok2, Bool.and_eq_true, beq_iff_eq, decide_eq_true_eq] at hok
    obtain ⟨rfl, h1, h2⟩ := hok
    obtain ⟨v, r, rfl, hx⟩ := jpL_spec hx
    obtain ⟨hs, hx⟩ := jB_spec hx
    simp only [Bool.and_eq_true, decide_eq_true_eq] at hs
    exact js_lstore_n E hd h2 hs.1 hs.2 (hG _ _ _ _ _ h1 hx)
  | lstore n =>
    simp only [jok2, Bool.and_eq_true, beq_iff_eq, decide_eq_true_eq] at hok
    obtain ⟨rfl, h1, rfl⟩ := hok
    obtain ⟨v, r, rfl, hx⟩ := jpL_spec hx
    obtain ⟨hs, hx⟩ := jB_spec hx
    simp only [Bool.and_eq_true, decide_eq_true_eq] at hs
    exact js_lstore E hd hs.1 hs.2 (hG _ _ _ _ _ h1 hx)
  | iinc n w =>
    simp only [jok2, Bool.and_eq_true, beq_iff_eq, decide_eq_true_eq] at hok
    obtain ⟨rfl, h1, rfl, h2⟩ := hok
    obtain ⟨v, hl, hx⟩ := jgI_spec hx
    obtain ⟨hs, hx⟩ := jB_spec hx
    exact js_iinc E hd hl (by rw [h2]) hs (hG _ _ _ _ _ h1 hx)
  | iadd =>
    simp only [jok2, Bool.and_eq_true, beq_iff_eq, decide_eq_true_eq] at hok
    obtain ⟨rfl, h1⟩ := hok
    obtain ⟨v, y, r, rfl, hx⟩ := jp2_spec hx
    exact js_iadd E hd (hG _ _ _ _ _ h1 hx)
  | isub =>
    simp only [jok2, Bool.and_eq_true, beq_iff_eq, decide_eq_true_eq] at hok
    obtain ⟨rfl, h1⟩ := hok
    obtain ⟨v, y, r, rfl, hx⟩ := jp2_spec hx
    exact js_isub E hd (hG _ _ _ _ _ h1 hx)
  | imul =>
    simp only [jok2, Bool.and_eq_true, beq_iff_eq, decide_eq_true_eq] at hok
    obtain ⟨rfl, h1⟩ := hok
    obtain ⟨v, y, r, rfl, hx⟩ := jp2_spec hx
    exact js_imul E hd (hG _ _ _ _ _ h1 hx)
  | iand =>
    simp only [jok2, Bool.and_eq_true, beq_iff_eq, decide_eq_true_eq] at hok
    obtain ⟨rfl, h1⟩ := hok
    obtain ⟨v, y, r, rfl, hx⟩ := jp2_spec hx
    exact js_iand E hd (hG _ _ _ _ _ h1 hx)
  | ior =>
    simp only [jok2, Bool.and_eq_true, beq_iff_eq, decide_eq_true_eq] at hok
    obtain ⟨rfl, h1⟩ := hok
    obtain ⟨v, y, r, rfl, hx⟩ := jp2_spec hx
    exact js_ior E hd (hG _ _ _ _ _ h1 hx)
  | ixor =>
    simp only [jok2, Bool.and_eq_true, beq_iff_eq, decide_eq_true_eq] at hok
    obtain ⟨rfl, h1⟩ := hok
    obtain ⟨v, y, r, rfl, hx⟩ := jp2_spec hx
    exact js_ixor E hd (hG _ _ _ _ _ h1 hx)
  | ishl =>
    simp only [jok2, Bool.and_eq_true, beq_iff_eq, decide_eq_true_eq] at hok
    obtain ⟨rfl, h1⟩ := hok
    obtain ⟨v, y, r, rfl, hx⟩ := jp2_spec hx
    exact js_ishl E hd (hG _ _ _ _ _ h1 hx)
  | ishr =>
    simp only [jok2, Bool.and_eq_true, beq_iff_eq, decide_eq_true_eq] at hok
    obtain ⟨rfl, h1⟩ := hok
    obtain ⟨v, y, r, rfl, hx⟩ := jp2_spec hx
    exact js_ishr E hd (hG _ _ _ _ _ h1 hx)
  | iushr =>
    simp only [jok2, Bool.and_eq_true, beq_iff_eq, decide_eq_true_eq] at hok
    obtain ⟨rfl, h1⟩ := hok
    obtain ⟨v, y, r, rfl, hx⟩ := jp2_spec hx
    exact js_iushr E hd rfl (hG _ _ _ _ _ h1 hx)
  | idiv =>
    simp only [jok2, Bool.and_eq_true, beq_iff_eq, decide_eq_true_eq] at hok
    obtain ⟨rfl, h1⟩ := hok
    obtain ⟨v, y, r, rfl, hn, hx⟩ := jp2_spec hx
    exact js_idiv E hd hn (hG _ _ _ _ _ h1 hx)
  | irem =>
    simp only [jok2, Bool.and_eq_true, beq_iff_eq, decide_eq_true_eq] at hok
    obtain ⟨rfl, h1⟩ := hok
    obtain ⟨v, y, r, rfl, hn, hx⟩ := jp2_spec hx
    exact js_irem E hd hn (hG _ _ _ _ _ h1 hx)
  | ladd =>
    simp only [jok2, Bool.and_eq_true, beq_iff_eq, decide_eq_true_eq] at hok
    obtain ⟨rfl, h1⟩ := hok
    obtain ⟨v, y, r, rfl, hx⟩ := jp2L_spec hx
    exact js_ladd E hd (hG _ _ _ _ _ h1 hx)
  | lmul =>
    simp only [jok2, Bool.and_eq_true, beq_iff_eq, decide_eq_true_eq] at hok
    obtain ⟨rfl, h1⟩ := hok
    obtain ⟨v, y, r, rfl, hx⟩ := jp2L_spec hx
    exact js_lmul E hd (hG _ _ _ _ _ h1 hx)
  | lcmp =>
    simp only [jok2, Bool.and_eq_true, beq_iff_eq, decide_eq_true_eq] at hok
    obtain ⟨rfl, h1⟩ := hok
    obtain ⟨v, y, r, rfl, hx⟩ := jp2L_spec hx
    exact js_lcmp E hd (hG _ _ _ _ _ h1 hx)
  | ldiv =>
    simp only [jok2, Bool.and_eq_true, beq_iff_eq, decide_eq_true_eq] at hok
    obtain ⟨rfl, h1⟩ := hok
    obtain ⟨v, y, r, rfl, hn, hx⟩ := jp2L_spec hx
    exact js_ldiv E hd hn (hG _ _ _ _ _ h1 hx)
  | lrem =>
    simp only [jok2, Bool.and_eq_true, beq_iff_eq, decide_eq_true_eq] at hok
    obtain ⟨rfl, h1⟩ := hok
    obtain ⟨v, y, r, rfl, hn, hx⟩ := jp2L_spec hx
    exact js_lrem E hd hn (hG _ _ _ _ _ h1 hx)
  | ineg =>
    simp only [jok2, Bool.and_eq_true, beq_iff_eq, decide_eq_true_eq] at hok
    obtain ⟨rfl, h1⟩ := hok
    obtain ⟨v, r, rfl, hx⟩ := jpI_spec hx
    exact js_ineg E hd (hG _ _ _ _ _ h1 hx)
  | i2l =>
    simp only [jok2, Bool.and_eq_true, beq_iff_eq, decide_eq_true_eq] at hok
    obtain ⟨rfl, h1⟩ := hok
    obtain ⟨v, r, rfl, hx⟩ := jpI_spec hx
    exact js_i2l E hd (hG _ _ _ _ _ h1 hx)
  | l2i =>
    simp only [jok2, Bool.and_eq_true, beq_iff_eq, decide_eq_true_eq] at hok
    obtain ⟨rfl, h1⟩ := hok
    obtain ⟨v, r, rfl, hx⟩ := jpL_spec hx
    exact js_l2i E hd (hG _ _ _ _ _ h1 hx)
  | dup =>
    simp only [jok2, Bool.and_eq_true, beq_iff_eq, decide_eq_true_eq] at hok
    obtain ⟨rfl, h1⟩ := hok
    cases st with
    | nil => exact False.elim hx
    | cons v r =>
      obtain ⟨hs, hx⟩ := jB_spec hx
      exact js_dup E hd (by simpa using hs) (hG _ _ _ _ _ h1 hx)
  | dup2 =>
    simp only [jok2, Bool.and_eq_true, beq_iff_eq, decide_eq_true_eq] at hok
    obtain ⟨rfl, h1⟩ := hok
    match st, hx with
    | [], hx => exact False.elim hx
    | [_], hx => exact False.elim hx
    | v :: w :: r, hx =>
      obtain ⟨hs, hx⟩ := jB_spec hx
      simp only [Bool.and_eq_true, beq_iff_eq] at hs
      exact js_dup2 E hd hs.1 hs.2 (hG _ _ _ _ _ h1 hx)
  | getfield n =>
    simp only [jok2, Bool.and_eq_true, beq_iff_eq, decide_eq_true_eq] at hok
    obtain ⟨rfl, h1, h2⟩ := hok
    obtain ⟨q, hq, hb, hw⟩ := jFl_in h2
    obtain ⟨o, r, rfl, hx⟩ := jpA_spec hx
    obtain ⟨hj, hx⟩ := jB_spec hx
    rcases jrk_spec hx with ⟨hk, hx⟩ | ⟨j, hk, hx⟩
    · exact js_get (v := .int (x o b)) E hq hb hw hj hd (by rw [hk]; rfl) (hG _ _ _ _ _ h1 hx)
    · exact js_get (v := .ref j) E hq hb hw hj hd (by rw [hk]; rfl) (hG _ _ _ _ _ h1 hx)
  | putfield n =>
    simp only [jok2, Bool.and_eq_true, beq_iff_eq, decide_eq_true_eq] at hok
    obtain ⟨rfl, h1, h2, h3⟩ := hok
    obtain ⟨q, hq, hb, hw⟩ := jFl_in h2
    rw [hq] at h3
    simp only [Bool.and_eq_true, decide_eq_true_eq, Bool.not_eq_true'] at h3
    obtain ⟨v, r, rfl, hx⟩ := jpI_spec hx
    obtain ⟨o, r, rfl, hx⟩ := jpA_spec hx
    obtain ⟨hj, hc, hx⟩ := jB_spec hx
    simp only [Bool.and_eq_true, decide_eq_true_eq] at hj
    by_cases h4 : cv = 1
    · rw [if_pos h4] at h3
      refine js_put E hq hb hw h3.1 h3.2 ?_ ?_ hj.1 hj.2 hd (hG _ _ _ _ _ h1 hx)
      · rcases hc h4 with rfl | rfl <;> rfl
      · rcases hc h4 with rfl | rfl <;> rfl
    · rw [if_neg h4] at h3
      exact js_put E hq hb hw h3.1 h3.2 rfl rfl hj.1 hj.2 hd (hG _ _ _ _ _ h1 hx)
  | iaload =>
    simp only [jok2, Bool.and_eq_true, beq_iff_eq, decide_eq_true_eq] at hok
    obtain ⟨rfl, h1⟩ := hok
    obtain ⟨i, r, rfl, hx⟩ := jpI_spec hx
    obtain ⟨o, r, rfl, hx⟩ := jpA_spec hx
    obtain ⟨hj, hi, hx⟩ := jB_spec hx
    exact js_iald E hj hi hd (hG _ _ _ _ _ h1 hx)
  | baload =>
    simp only [jok2, Bool.and_eq_true, beq_iff_eq, decide_eq_true_eq] at hok
    obtain ⟨rfl, h1⟩ := hok
    obtain ⟨i, r, rfl, hx⟩ := jpI_spec hx
    obtain ⟨o, r, rfl, hx⟩ := jpA_spec hx
    obtain ⟨hj, hi, hx⟩ := jB_spec hx
    exact js_bald E hj hi hd (hG _ _ _ _ _ h1 hx)
  | iastore =>
    simp only [jok2, Bool.and_eq_true, beq_iff_eq, decide_eq_true_eq] at hok
    obtain ⟨rfl, h1⟩ := hok
    obtain ⟨v, r, rfl, hx⟩ := jpI_spec hx
    obtain ⟨i, r, rfl, hx⟩ := jpI_spec hx
    obtain ⟨o, r, rfl, hx⟩ := jpA_spec hx
    obtain ⟨hj, hi, hx⟩ := jB_spec hx
    exact js_iast E hj hi hd (hG _ _ _ _ _ h1 hx)
  | bastore =>
    simp only [jok2, Bool.and_eq_true, beq_iff_eq, decide_eq_true_eq] at hok
    obtain ⟨rfl, h1⟩ := hok
    obtain ⟨v, r, rfl, hx⟩ := jpI_spec hx
    obtain ⟨i, r, rfl, hx⟩ := jpI_spec hx
    obtain ⟨o, r, rfl, hx⟩ := jpA_spec hx
    obtain ⟨hj, hi, hv, hx⟩ := jB_spec hx
    exact js_bast E hj hi hv hd (hG _ _ _ _ _ h1 hx)
  | aaload =>
    simp only [jok2, Bool.and_eq_true, beq_iff_eq, decide_eq_true_eq] at hok
    obtain ⟨rfl, h1⟩ := hok
    obtain ⟨i, r, rfl, hx⟩ := jpI_spec hx
    obtain ⟨o, r, rfl, hx⟩ := jpA_spec hx
    obtain ⟨hj, hi, hx⟩ := jB_spec hx
    simp only [Bool.and_eq_true, decide_eq_true_eq] at hj
    rcases jrk_spec hx with ⟨hk, hx⟩ | ⟨j, hk, hx⟩
    · exact hx.elim
    · exact js_aald E hj.1 hj.2 hi hk hd (hG _ _ _ _ _ h1 hx)
  | goto off =>
    simp only [jok2, Bool.and_eq_true, beq_iff_eq, decide_eq_true_eq] at hok
    obtain ⟨rfl, h1⟩ := hok
    obtain ⟨t, ht, h1⟩ := jnI_spec h1
    exact js_goto E hd ht (hG _ _ _ _ _ h1 hx)
  | ifCond cd off =>
    simp only [jok2, Bool.and_eq_true, beq_iff_eq, decide_eq_true_eq] at hok
    obtain ⟨rfl, h0, h1⟩ := hok
    obtain ⟨t, ht, h1⟩ := jnI_spec h1
    obtain ⟨v, r, rfl, hx⟩ := jpI_spec hx
    exact js_if E hd ht (fun h => hG _ _ _ _ _ h1 (hx.1 h)) (fun h => hG _ _ _ _ _ h0 (hx.2 h))
  | if_icmp cd off =>
    simp only [jok2, Bool.and_eq_true, beq_iff_eq, decide_eq_true_eq] at hok
    obtain ⟨rfl, h0, h1⟩ := hok
    obtain ⟨t, ht, h1⟩ := jnI_spec h1
    obtain ⟨v, y, r, rfl, hx⟩ := jp2_spec hx
    exact js_icmp E hd ht (fun h => hG _ _ _ _ _ h1 (hx.1 h)) (fun h => hG _ _ _ _ _ h0 (hx.2 h))
  | tableswitch dflt lo hi offs =>
    simp only [jok2, Bool.and_eq_true, beq_iff_eq, decide_eq_true_eq] at hok
    obtain ⟨h0, h1, h2, h3⟩ := hok
    obtain ⟨v, r, rfl, hx⟩ := jpI_spec hx
    rcases jsw_spec hx with ⟨q, hq, hv, hx⟩ | ⟨hne, hx⟩
    · obtain ⟨j, hj, rfl⟩ := List.mem_map.mp hq
      have hj := List.mem_range.mp hj
      have hj2 : j < offs.size := by omega
      have hv : v.toInt = lo + (j : Int) := hv
      obtain ⟨t, ht, h4⟩ := jnI_spec (List.all_eq_true.mp h3 j (List.mem_range.mpr hj2))
      refine js_tabIn E hd (by omega) (by omega) (off := offs.getD j 0) ?_ ht (hG _ _ _ _ _ h4 hx)
      rw [show (v.toInt - lo).toNat = j by omega, Array.getElem?_eq_getElem hj2]
      simp [Array.getD, hj2]
    · obtain ⟨t, ht, h0⟩ := jnI_spec h0
      refine js_tabOut E hd ?_ ht (hG _ _ _ _ _ h0 hx)
      by_cases ho : v.toInt < lo ∨ hi < v.toInt
      · exact ho
      · exact absurd (show v.toInt = lo + (((v.toInt - lo).toNat : Nat) : Int) by omega) (hne _ (List.mem_map.mpr ⟨(v.toInt - lo).toNat, List.mem_range.mpr (by omega), rfl⟩))
  | lookupswitch dflt ps =>
    simp only [jok2, Bool.and_eq_true, beq_iff_eq, decide_eq_true_eq] at hok
    obtain ⟨h0, h1, h2, h3⟩ := hok
    obtain ⟨v, r, rfl, hy⟩ := jpI_spec hx
    rw [show ts.length - 1 = ps.toList.length by omega] at hy
    rcases jlook ps.toList (fun j => ts.getD (j + 1) 0) dflt v.toInt hy with ⟨j, g1, g3, hx⟩ | ⟨g2, hx⟩
    · obtain ⟨t, ht, h4⟩ := jnI_spec (List.all_eq_true.mp h3 _ (List.mem_range.mpr g1))
      exact js_look E hd h2 g3 ht (hG _ _ _ _ _ h4 hx)
    · obtain ⟨t, ht, h0⟩ := jnI_spec h0
      exact js_look E hd h2 g2 ht (hG _ _ _ _ _ h0 hx)
  | invokevirtual n =>
    simp only [jok2, Bool.and_eq_true, beq_iff_eq, decide_eq_true_eq] at hok
    obtain ⟨rfl, h1, h2, h3⟩ := hok
    split at h3
    · next r hr =>
      simp only [Bool.and_eq_true, beq_iff_eq, decide_eq_true_eq] at h3
      obtain ⟨e1, e2, e3, e4, e5⟩ := h3
      obtain ⟨w5, w4, hd0, -, hq⟩ := jMt_words hr
      obtain ⟨o, rs, hst, hx⟩ := jpA_spec hx
      obtain ⟨hj, hx⟩ := jB_spec hx
      simp only [Bool.and_eq_true, decide_eq_true_eq] at hj
      rcases hq with ⟨q, hq, hqc, w2, w3⟩ | ⟨hq, -⟩
      · have hsp : st = ((st.take b).reverse).reverse ++ .ref o :: rs := by rw [List.reverse_reverse, ← hst, List.take_append_drop]
        rw [hsp]
        exact js_callV E (hO a r hr) rfl rfl (jMl_in h2 hr) w2 w3 w4 w5 hd0 ⟨e4, e5⟩ hj.1.1 (by rw [← e2]; exact hq) hqc (by rw [List.length_reverse, List.length_take, e1]; omega) hj.1.2 hd hx (fun rv x' h => hG _ _ _ _ _ h1 h)
      · rw [List.getElem?_eq_none_iff] at hq
        simp [vwCl] at hq
        omega
    · cases h3
  | invokestatic n =>
    simp only [jok2, Bool.and_eq_true, beq_iff_eq, decide_eq_true_eq] at hok
    obtain ⟨rfl, h1, h2⟩ := hok
    match cv, h2, hx with
    | 0, h2, hx =>
      simp only [Bool.and_eq_true] at h2
      obtain ⟨h2, h3⟩ := h2
      split at h3
      · next r hr =>
        simp only [Bool.and_eq_true, beq_iff_eq, decide_eq_true_eq] at h3
        obtain ⟨e1, e2, e4, e5⟩ := h3
        obtain ⟨w5, w4, hd0, -, hq⟩ := jMt_words hr
        obtain ⟨hj, hx⟩ := jB_spec hx
        simp only [Bool.and_eq_true, decide_eq_true_eq] at hj
        rcases hq with ⟨q, hq, -⟩ | ⟨-, w2⟩
        · have := vwCl_lt hq
          omega
        · have hsp : st = ((st.take b).reverse).reverse ++ st.drop b := by rw [List.reverse_reverse, List.take_append_drop]
          rw [hsp]
          exact js_callS E (hO a r hr) rfl rfl (jMl_in h2 hr) w2 w4 w5 hd0 ⟨e4, e5⟩ (by rw [List.length_reverse, List.length_take, e1]; omega) hj.1 hd hx (fun rv x' h => hG _ _ _ _ _ h1 h)
      · cases h3
    | 1, h2, hx =>
      simp only [Bool.and_eq_true, decide_eq_true_eq] at h2
      obtain ⟨v, y, r, rfl, hx⟩ := jp2_spec hx
      obtain ⟨hj, hx⟩ := jB_spec hx
      exact js_mmin E h2.2 (jBl_in h2.1) hj hd (hG _ _ _ _ _ h1 hx)
    | 2, h2, hx =>
      simp only [Bool.and_eq_true, decide_eq_true_eq] at h2
      obtain ⟨v, y, r, rfl, hx⟩ := jp2_spec hx
      obtain ⟨hj, hx⟩ := jB_spec hx
      exact js_mmax E h2.2 (jBl_in h2.1) hj hd (hG _ _ _ _ _ h1 hx)
    | 3, h2, hx =>
      simp only [Bool.and_eq_true, decide_eq_true_eq] at h2
      obtain ⟨v, r, rfl, hx⟩ := jpI_spec hx
      obtain ⟨hj, hx⟩ := jB_spec hx
      exact js_mabs E h2.2 (jBl_in h2.1) hj hd (hG _ _ _ _ _ h1 hx)
    | 4, h2, hx =>
      simp only [Bool.and_eq_true, decide_eq_true_eq] at h2
      obtain ⟨n1, r, rfl, hx⟩ := jpI_spec hx
      obtain ⟨dp, r, rfl, hx⟩ := jpI_spec hx
      obtain ⟨d1, r, rfl, hx⟩ := jpA_spec hx
      obtain ⟨sp, r, rfl, hx⟩ := jpI_spec hx
      obtain ⟨o, r, rfl, hx⟩ := jpA_spec hx
      obtain ⟨hj, g1, g2, g3, g4, g5, hx⟩ := jB_spec hx
      simp only [Bool.and_eq_true] at hj
      exact js_copy E ⟨h2.2.1, h2.2.2⟩ (jBl_in h2.1) hj.1.1 hj.1.2 hj.2 g1 g2 g3 g4 g5 hd (hG _ _ _ _ _ h1 hx)
    | (z + 5 : Nat), h2, hx => exact False.elim hx
    | .negSucc z, h2, hx => exact False.elim hx
  | ireturn =>
    simp only [jok2, Bool.and_eq_true, beq_iff_eq, decide_eq_true_eq] at hok
    obtain ⟨rfl, h1⟩ := hok
    match st, hx with
    | [], hx => exact False.elim hx
    | [.int v], hx =>
      simp only [Bool.or_eq_true, Bool.and_eq_true, decide_eq_true_eq] at h1
      exact hI _ _ _ _ hd (h1.elim Or.inl (fun h => Or.inr ⟨h.1, hx.1 h.2⟩)) hx.2
    | .long _ :: _, hx => exact False.elim hx
    | .ref _ :: _, hx => exact False.elim hx
    | .null :: _, hx => exact False.elim hx
    | .float _ :: _, hx => exact False.elim hx
    | .double _ :: _, hx => exact False.elim hx
    | .int _ :: _ :: _, hx => exact False.elim hx
  | return_ =>
    simp only [jok2, Bool.and_eq_true, beq_iff_eq, decide_eq_true_eq] at hok
    obtain ⟨rfl, h1⟩ := hok
    cases st with
    | nil => exact hV _ _ _ hd h1 hx
    | cons v r => exact False.elim hx
  | _ => exact False.elim hx
end JX
