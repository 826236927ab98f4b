/-! CONSTRUCTORS: the check, a step, a run, all of them -/
theorem jQl_in {own ix a : Nat} (h : jQl.any (jlm own ix a) = true) : Cond.classLink (jcn own) ix (jcn a) ∈ jt := by
  obtain ⟨q, hq, h⟩ := List.any_eq_true.mp h
  have h0 := jat_in (List.all_eq_true.mp jQl_ok q hq)
  simp only [jlm, Bool.and_eq_true, beq_iff_eq] at h
  rw [h.1, h.2.1, h.2.2] at h0
  exact h0
theorem jIl_in {own ix a : Nat} {r : jC} (h : jIl.any (jlm own ix a) = true) (hr : jCt[a]? = some r) : Cond.methodLink (jcn own) ix r.1 ∈ jt := by
  obtain ⟨q, hq, h⟩ := List.any_eq_true.mp h
  have h0 := List.all_eq_true.mp jIl_ok q hq
  simp only [jlm, Bool.and_eq_true, beq_iff_eq] at h
  obtain ⟨e1, e2, e3⟩ := h
  rw [e3, e1, e2, hr] at h0
  exact jat_in h0
def jlz (own ix : Nat) (q : Nat × Nat × Nat) : Bool := q.1 == own && q.2.1 == ix
theorem jZl_in {own ix : Nat} (h : jZl.any (jlz own ix) = true) : Cond.methodLink (jcn own) ix objectInit ∈ jt := by
  obtain ⟨q, hq, h⟩ := List.any_eq_true.mp h
  have h0 := jat_in (List.all_eq_true.mp jZl_ok q hq)
  simp only [jlz, Bool.and_eq_true, beq_iff_eq] at h
  rw [h.1, h.2] at h0
  exact h0
theorem jCt_words {a : Nat} {r : jC} (h : jCt[a]? = some r) : a < 8 ∧ Cond.code r.1 r.2.1 r.2.2.1 none ∈ jt ∧ Cond.initialized r.1.cls ∈ jt ∧ (r.1.cls ≠ "java/lang/invoke/MethodHandle" ∧ r.1.cls ≠ "java/lang/invoke/VarHandle" ∧ (parseMethodDescriptor r.1.desc).map (fun d => d.parameters.length) = some 0) ∧ plainName r.1.cls = true ∧ Cond.instanceMethod r.1 ∈ jt ∧ r.1.name = "<init>" ∧ r.1.cls = jcn a ∧ Cond.instantiable (jcn a) (jfc a) ∈ jt ∧ ∃ q, vwCl[a]? = some q ∧ q.1 = jcn a ∧ q.2.2 = jfc a := by
  have ha : a < 8 := by
    have := (List.getElem?_eq_some_iff.mp h).1
    have hn : jCt.length = 8 := by decide +kernel
    omega
  obtain ⟨r', z, hr, hz⟩ := jCt_ok a ha
  rw [h] at hr
  cases hr
  simp only [jCok, Bool.and_eq_true, decide_eq_true_eq] at hz
  obtain ⟨h1, h2, h3, h4, h5, h6, h7, h8, h9, h10⟩ := hz
  refine ⟨ha, jat_in h1, jat_in h2, ⟨h3.1, h3.2, h4⟩, h5, jat_in h6, h7, h8, jat_in h9, ?_⟩
  split at h10
  · next q hq =>
    simp only [Bool.and_eq_true, decide_eq_true_eq] at h10
    exact ⟨q, hq, h10.1, h10.2⟩
  · cases h10
def jokc (oi Rf Rl : Nat) (code : List jI) (k : Nat) (q : jI) : Bool :=
  match q with
  | (pc, i, len, a, b, cv, ts) => match i with
    | .putfield n => if cv = 2 then len == 3 && (jnx code (k + 1) (pc + 3) && (jFl.any (jlf oi n a b) && (match vwCl[a]? with
      | some r => (r.2.1 b).2.2.2 && (decide ((r.2.1 b).1 = jcn oi) && (match parseFieldDescriptor (r.2.1 b).2.2.1 with
        | some (.array _) => true
        | some (.object _) => true
        | _ => false))
      | none => false))) else jok2 oi none Rf Rl code k (pc, .putfield n, len, a, b, cv, ts)
    | .new n => len == 3 && (jnx code (k + 1) (pc + 3) && jQl.any (jlm oi n a) && decide (a < 8))
    | .newarray t => len == 2 && (jnx code (k + 1) (pc + 2) && decide ((a = 8 ∧ t = .int) ∨ (a = 9 ∧ t = .boolean)))
    | .anewarray n => len == 3 && (jnx code (k + 1) (pc + 3) && ((a == 10 && jQl.any (jlm oi n 2)) || (a == 11 && jQl.any (jlm oi n 5))))
    | .aastore => len == 1 && jnx code (k + 1) (pc + 1)
    | .invokespecial n => len == 3 && (jnx code (k + 1) (pc + 3) && (if cv = 0 then jZl.any (jlz oi n) && (decide (1 ≤ Rf) && decide (20 ≤ Rl)) else match jCt[a]? with
      | some r => decide (r.2.2.2.1 + 1 ≤ Rf) && (decide (8 + (r.2.2.1 + 11) + r.2.2.2.2.1 ≤ Rl) && ((decide (cv = 1) && jIl.any (jlm oi n a)) || jNt.contains (oi, n, a)))
      | none => false))
    | .iconst n => jok2 oi none Rf Rl code k (pc, .iconst n, len, a, b, cv, ts)
    | .bipush n => jok2 oi none Rf Rl code k (pc, .bipush n, len, a, b, cv, ts)
    | .sipush n => jok2 oi none Rf Rl code k (pc, .sipush n, len, a, b, cv, ts)
    | .aload_n n => jok2 oi none Rf Rl code k (pc, .aload_n n, len, a, b, cv, ts)
    | .iload_n n => jok2 oi none Rf Rl code k (pc, .iload_n n, len, a, b, cv, ts)
    | .istore_n n => jok2 oi none Rf Rl code k (pc, .istore_n n, len, a, b, cv, ts)
    | .iinc n w => jok2 oi none Rf Rl code k (pc, .iinc n w, len, a, b, cv, ts)
    | .dup => jok2 oi none Rf Rl code k (pc, .dup, len, a, b, cv, ts)
    | .if_icmp cd n => jok2 oi none Rf Rl code k (pc, .if_icmp cd n, len, a, b, cv, ts)
    | .goto n => jok2 oi none Rf Rl code k (pc, .goto n, len, a, b, cv, ts)
    | .getfield n => jok2 oi none Rf Rl code k (pc, .getfield n, len, a, b, cv, ts)
    | .return_ => jok2 oi none Rf Rl code k (pc, .return_, len, a, b, cv, ts)
    | _ => false
section CQ
variable {p : Program} {l : Launch} {e : Env} {R : Room} {s : State} {m : MethodId} {args : Array Value} {below : List Frame} {meth : Method} {c : Code} {Q : State → Prop}
variable {cc : ByteArray} {D : va_G} {cy : Nat → ClassId} {nL : Nat} {A : Nat → Prop} {Ts : List Cond}
variable {N0 N u w : Nat} {ad0 : Nat → Nat} {L : List (Option Value)} {st : List Value} {K : Nat → jSh} {x : jM}
set_option maxHeartbeats 4000000 in
theorem jq1_ok {F : Nat → Nat → jM2 → Option jM2} {code : List jI} {oi k : Nat} {q : jI} {S : jS2} (E : jE2 p R s m args c cc D cy nL A (jcn oi) Ts) (hF : ∀ (a : Nat) (r : jC), jCt[a]? = some r → jMet2 l r (fun o M M' => F a o M = some M')) (hin : meth.name = "<init>") (hd : decode cc q.1 = .ok (q.2.1, q.2.2.1)) (hok : jokc oi R.frames R.locals code k q = true) (hu : u ≤ R.cells) (hw : w ≤ R.slots)
    (hx : jq1 F R.cells R.slots q (k, L, st, (N, K, x), u, w) = some S) (hG : ∀ pc' : Nat, jnx code S.1 pc' = true → S.2.2.2.2.1 ≤ R.cells → S.2.2.2.2.2 ≤ R.slots → jT2 p l e R s m args below meth c Q D cy nL A N0 ad0 pc' S.2.1 S.2.2.1 S.2.2.2.1 S.2.2.2.2.1 S.2.2.2.2.2) : jT2 p l e R s m args below meth c Q D cy nL A N0 ad0 q.1 L st (N, K, x) u w := by
  obtain ⟨pc, i, len, a, b, cv, ts⟩ := q
  have hd : decode cc pc = .ok (i, len) := hd
  show jT2 p l e R s m args below meth c Q D cy nL A N0 ad0 pc L st (N, K, x) u w
  cases i with
  | iconst n =>
    simp only [jokc, jok2, Bool.and_eq_true, beq_iff_eq, decide_eq_true_eq] at hok
    obtain ⟨rfl, h1, h2⟩ := hok
    cases hx
    intro ad hag hN hwf hL hS
    exact js_iconst (E.1 u w hu hw) hd h2 (hG _ h1 hu hw ad hag hN hwf hL (jwS_i hS))
  | bipush n =>
    simp only [jokc, jok2, Bool.and_eq_true, beq_iff_eq, decide_eq_true_eq] at hok
    obtain ⟨rfl, h1, h2⟩ := hok
    cases hx
    intro ad hag hN hwf hL hS
    exact js_bipush (E.1 u w hu hw) hd h2 (hG _ h1 hu hw ad hag hN hwf hL (jwS_i hS))
  | sipush n =>
    simp only [jokc, jok2, Bool.and_eq_true, beq_iff_eq, decide_eq_true_eq] at hok
    obtain ⟨rfl, h1, h2⟩ := hok
    cases hx
    intro ad hag hN hwf hL hS
    exact js_sipush (E.1 u w hu hw) hd h2 (hG _ h1 hu hw ad hag hN hwf hL (jwS_i hS))
  | aload_n n =>
    simp only [jokc, jok2, Bool.and_eq_true, beq_iff_eq, decide_eq_true_eq] at hok
    obtain ⟨rfl, h1, h2⟩ := hok
    dsimp only [jq1] at hx
    split at hx
    · next v hv =>
      split at hx
      · next hlt =>
        cases hx
        intro ad hag hN hwf hL hS
        exact js_aload_n (E.1 u w hu hw) hd h2 hv (hG _ h1 hu hw ad hag hN hwf hL (jwS_r hS hlt))
      · cases hx
    · cases hx
  | iload_n n =>
    simp only [jokc, jok2, Bool.and_eq_true, beq_iff_eq, decide_eq_true_eq] at hok
    obtain ⟨rfl, h1, h2⟩ := hok
    dsimp only [jq1] at hx
    split at hx
    · next v hv =>
      cases hx
      intro ad hag hN hwf hL hS
      exact js_iload_n (E.1 u w hu hw) hd h2 hv (hG _ h1 hu hw ad hag hN hwf hL (jwS_i hS))
    · cases hx
  | istore_n n =>
    simp only [jokc, jok2, Bool.and_eq_true, beq_iff_eq, decide_eq_true_eq] at hok
    obtain ⟨rfl, h1, h2⟩ := hok
    dsimp only [jq1] at hx
    split at hx
    · split at hx
      · next hs =>
        cases hx
        intro ad hag hN hwf hL hS
        exact js_istore_n (E.1 u w hu hw) hd h2 hs (hG _ h1 hu hw ad hag hN hwf (jwL_set hL) (jwS_t hS))
      · cases hx
    · cases hx
  | iinc n z =>
    simp only [jokc, jok2, Bool.and_eq_true, beq_iff_eq, decide_eq_true_eq] at hok
    obtain ⟨rfl, h1, rfl, h2⟩ := hok
    dsimp only [jq1] at hx
    split at hx
    · next v hv =>
      split at hx
      · next hs =>
        cases hx
        intro ad hag hN hwf hL hS
        exact js_iinc (E.1 u w hu hw) hd hv (by rw [h2]) hs (hG _ h1 hu hw ad hag hN hwf (jwL_set hL) hS)
      · cases hx
    · cases hx
  | dup =>
    simp only [jokc, jok2, Bool.and_eq_true, beq_iff_eq, decide_eq_true_eq] at hok
    obtain ⟨rfl, h1⟩ := hok
    dsimp only [jq1] at hx
    split at hx
    · split at hx
      · next v r hs =>
        cases hx
        intro ad hag hN hwf hL hS
        exact js_dup (E.1 u w hu hw) hd hs (hG _ h1 hu hw ad hag hN hwf hL (fun j hj => hS j (by
          rcases List.mem_cons.mp hj with h | h
          · exact h ▸ List.mem_cons_self
          · exact h)))
      · cases hx
    · cases hx
  | if_icmp cd off =>
    simp only [jokc, jok2, Bool.and_eq_true, beq_iff_eq, decide_eq_true_eq] at hok
    obtain ⟨rfl, h0, h1⟩ := hok
    obtain ⟨t, ht, h1⟩ := jnI_spec h1
    dsimp only [jq1] at hx
    split at hx
    · next y v r =>
      cases hx
      intro ad hag hN hwf hL hS
      have hS := jwS_t (jwS_t hS)
      have e1 : jic cd v y → jicB cd v y = true := by cases cd <;> simp [jic, jicB]
      have e2 : jnc cd v y → ¬ jicB cd v y = true := by cases cd <;> simp [jnc, jicB]
      refine js_icmp (E.1 u w hu hw) hd ht (fun h => ?_) (fun h => ?_)
      · exact hG t (by rw [if_pos (e1 h)]; exact h1) hu hw ad hag hN hwf hL hS
      · exact hG _ (by rw [if_neg (e2 h)]; exact h0) hu hw ad hag hN hwf hL hS
    · cases hx
  | goto off =>
    simp only [jokc, jok2, Bool.and_eq_true, beq_iff_eq, decide_eq_true_eq] at hok
    obtain ⟨rfl, h1⟩ := hok
    obtain ⟨t, ht, h1⟩ := jnI_spec h1
    cases hx
    intro ad hag hN hwf hL hS
    exact js_goto (E.1 u w hu hw) hd ht (hG t h1 hu hw ad hag hN hwf hL hS)
  | getfield n =>
    simp only [jokc, jok2, Bool.and_eq_true, beq_iff_eq, decide_eq_true_eq] at hok
    obtain ⟨rfl, h1, h2⟩ := hok
    obtain ⟨q, hq, hb, hw1⟩ := jFl_in h2
    dsimp only [jq1] at hx
    split at hx
    · next o r =>
      split at hx
      · next hj =>
        split at hx
        · next j hk =>
          cases hx
          intro ad hag hN hwf hL hS
          have hjN : j < N := hwf o b j (job_spec hj).1 (job_spec hj).2.2 hk
          exact js_get (v := .ref j) (E.1 u w hu hw) hq hb hw1 hj hd (by show jfv ad ((K o).2.2 b) _ = _; rw [hk]; rfl) (hG _ h1 hu hw ad hag hN hwf hL (jwS_r (jwS_t hS) hjN))
        · cases hx
      · cases hx
    · cases hx
  | putfield n =>
    dsimp only [jq1] at hx
    split at hx
    · next v o r =>
      split at hx
      · next hj =>
        cases hx
        simp only [jokc, if_neg hj.2.2.2] at hok
        simp only [jok2, Bool.and_eq_true, beq_iff_eq, decide_eq_true_eq] at hok
        obtain ⟨rfl, h1, h2, h3⟩ := hok
        obtain ⟨q, hq, hb, hw1⟩ := jFl_in h2
        rw [hq] at h3
        simp only [Bool.and_eq_true, decide_eq_true_eq, Bool.not_eq_true'] at h3
        intro ad hag hN hwf hL hS
        have k2 := hG _ h1 hu hw ad hag hN hwf hL (jwS_t (jwS_t hS))
        by_cases h4 : cv = 1
        · rw [if_pos h4] at h3
          refine js_put (E.1 u w hu hw) hq hb hw1 h3.1 h3.2 ?_ ?_ hj.1 hj.2.1 hd k2
          · rcases hj.2.2.1 h4 with rfl | rfl <;> rfl
          · rcases hj.2.2.1 h4 with rfl | rfl <;> rfl
        · rw [if_neg h4] at h3
          exact js_put (E.1 u w hu hw) hq hb hw1 h3.1 h3.2 rfl rfl hj.1 hj.2.1 hd k2
      · cases hx
    · next j o r =>
      split at hx
      · next hj =>
        cases hx
        simp only [jokc, if_pos hj.2, Bool.and_eq_true, beq_iff_eq] at hok
        obtain ⟨rfl, h1, h2, h3⟩ := hok
        obtain ⟨q, hq, hb, hw1⟩ := jFl_in h2
        rw [hq] at h3
        simp only [Bool.and_eq_true, decide_eq_true_eq] at h3
        obtain ⟨g1, g2, g3⟩ := h3
        split at g3
        · next t ht => exact jc_putr E hu hw hin hq hb hw1 g1 g2 ht (fun z => rfl) (fun z => rfl) hj.1 hd (hG _ h1 hu hw)
        · next t ht => exact jc_putr E hu hw hin hq hb hw1 g1 g2 ht (fun z => rfl) (fun z => rfl) hj.1 hd (hG _ h1 hu hw)
        · cases g3
      · cases hx
    · cases hx
  | aastore =>
    simp only [jokc, Bool.and_eq_true, beq_iff_eq] at hok
    obtain ⟨rfl, h1⟩ := hok
    dsimp only [jq1] at hx
    split at hx
    · split at hx
      · next hj =>
        cases hx
        exact jc_aast E hu hw hj.1 hj.2.1 hj.2.2.1 hj.2.2.2 hd (hG _ h1 hu hw)
      · cases hx
    · cases hx
  | new n =>
    simp only [jokc, Bool.and_eq_true, beq_iff_eq, decide_eq_true_eq] at hok
    obtain ⟨rfl, ⟨h1, h2⟩, h3⟩ := hok
    dsimp only [jq1] at hx
    split at hx
    · next hj =>
      cases hx
      obtain ⟨r, z, hr, -⟩ := jCt_ok a h3
      obtain ⟨-, -, w4, -, -, -, -, hcl, w2, q, hq, hq1, hq2⟩ := jCt_words hr
      exact jc_new E hq hq2 (by rw [hq1]; exact jQl_in h2) (by rw [hq1]; exact w2) (by rw [hq1, ← hcl]; exact w4) hj.1 hj.2.1 hj.2.2 hd (hG _ h1 hj.2.1 hj.2.2)
    · cases hx
  | newarray t =>
    simp only [jokc, Bool.and_eq_true, beq_iff_eq, decide_eq_true_eq] at hok
    obtain ⟨rfl, h1, h2⟩ := hok
    dsimp only [jq1] at hx
    split at hx
    · split at hx
      · next hj =>
        cases hx
        exact jc_newa E h2 hj.2.1 hj.2.2.1 hj.1 hj.2.2.2.1 hj.2.2.2.2 hd (hG _ h1 hj.2.2.2.1 hj.2.2.2.2)
      · cases hx
    · cases hx
  | anewarray n =>
    simp only [jokc, Bool.and_eq_true, Bool.or_eq_true, beq_iff_eq] at hok
    obtain ⟨rfl, h1, h2⟩ := hok
    dsimp only [jq1] at hx
    split at hx
    · split at hx
      · next hj =>
        cases hx
        rcases h2 with ⟨rfl, h2⟩ | ⟨rfl, h2⟩
        · exact jc_newq (C := RX2) E (Or.inl ⟨rfl, rfl⟩) (jQl_in h2) hj.2.1 hj.2.2.1 hj.1 hj.2.2.2.1 hj.2.2.2.2 hd (hG _ h1 hj.2.2.2.1 hj.2.2.2.2)
        · exact jc_newq (C := RX5) E (Or.inr ⟨rfl, rfl⟩) (jQl_in h2) hj.2.1 hj.2.2.1 hj.1 hj.2.2.2.1 hj.2.2.2.2 hd (hG _ h1 hj.2.2.2.1 hj.2.2.2.2)
      · cases hx
    · cases hx
  | invokespecial n =>
    simp only [jokc, Bool.and_eq_true, beq_iff_eq] at hok
    obtain ⟨rfl, h1, h2⟩ := hok
    dsimp only [jq1] at hx
    split at hx
    · next o r =>
      split at hx
      · next h0 =>
        split at hx
        · next hc =>
          cases hx
          rw [if_pos h0] at h2
          simp only [Bool.and_eq_true, decide_eq_true_eq] at h2
          exact jc_obj E hu hw h2.2 (jZl_in h2.1) hc hd (hG _ h1 hu hw)
        · cases hx
      · next h0 =>
        rw [if_neg h0] at h2
        split at hx
        · next r0 hr =>
          rw [hr] at h2
          simp only [Bool.and_eq_true, Bool.or_eq_true, decide_eq_true_eq] at h2
          split at hx
          · next hj =>
            split at hx
            · next M hM =>
              cases hx
              obtain ⟨ha, w5, w4, hd0, -, w2, hnm, hcl, -⟩ := jCt_words hr
              refine jc_call E (hF a r0 hr) w5 w4 w2 hnm hd0 ⟨h2.1, h2.2.1⟩ ?_ hj.1 hj.2.1 hj.2.2 hd hM (hG _ h1 hj.2.1 hj.2.2)
              rcases h2.2.2 with h3 | h3
              · exact Or.inl (jIl_in h3.2 hr)
              · refine Or.inr ⟨RX6, ?_⟩
                have h5 := E.2.1 (oi, n, a) (by simpa using h3)
                have hy : r0.1 = ⟨jcn a, "<init>", "()V"⟩ := by
                  have hall : (List.range 8).all (fun a => match jCt[a]? with
                    | some r => decide (r.1 = ⟨jcn a, "<init>", "()V"⟩)
                    | none => true) = true := by decide +kernel
                  have := List.all_eq_true.mp hall a (List.mem_range.mpr ha)
                  rw [hr] at this
                  simpa using this
                rw [hy]
                exact h5
            · cases hx
          · cases hx
        · cases hx
    · cases hx
  | _ => cases hx
theorem jq_ok {F : Nat → Nat → jM2 → Option jM2} {code : List jI} {oi : Nat} {Mf : jM2} (E : jE2 p R s m args c cc D cy nL A (jcn oi) Ts) (hF : ∀ (a : Nat) (r : jC), jCt[a]? = some r → jMet2 l r (fun o M M' => F a o M = some M')) (hin : meth.name = "<init>") (hok : ∀ (k : Nat) (q : jI), code[k]? = some q → decode cc q.1 = .ok (q.2.1, q.2.2.1) ∧ jokc oi R.frames R.locals code k q = true)
    (hR : ∀ (pc' : Nat) (L' : List (Option Value)) (u' w' : Nat), decode cc pc' = .ok (.return_, 1) → u' ≤ R.cells → w' ≤ R.slots → jT2 p l e R s m args below meth c Q D cy nL A N0 ad0 pc' L' [] Mf u' w') :
    ∀ (n pc : Nat) (S : jS2), S.2.2.2.2.1 ≤ R.cells → S.2.2.2.2.2 ≤ R.slots → jnx code S.1 pc = true → jq F R.cells R.slots code n S = some Mf → jT2 p l e R s m args below meth c Q D cy nL A N0 ad0 pc S.2.1 S.2.2.1 S.2.2.2.1 S.2.2.2.2.1 S.2.2.2.2.2 := by
  intro n
  induction n with
  | zero => intro pc S _ _ _ h; cases h
  | succ n ih =>
    intro pc S hu hw hn h
    obtain ⟨k, L, st, ⟨N, K, x⟩, u, w⟩ := S
    unfold jnx at hn
    unfold jq at h
    split at hn
    · next q hq =>
      rw [hq] at h
      simp only [beq_iff_eq] at hn
      obtain ⟨hd, hk⟩ := hok k q hq
      obtain ⟨pc0, i, len, a, b, cv, ts⟩ := q
      have hn : pc0 = pc := hn
      subst hn
      have stp : ∀ S', jq1 F R.cells R.slots (pc0, i, len, a, b, cv, ts) (k, L, st, (N, K, x), u, w) = some S' → jq F R.cells R.slots code n S' = some Mf → jT2 p l e R s m args below meth c Q D cy nL A N0 ad0 pc0 L st (N, K, x) u w := fun S' h1 h2 => jq1_ok E hF hin hd hk hu hw h1 (fun pc' hp hu' hw' => ih pc' S' hu' hw' hp h2)
      dsimp only at h
      split at h
      · split at h
        · next hst =>
          cases h
          have hst : st = [] := hst
          subst hst
          simp only [jokc, jok2, Bool.and_eq_true, beq_iff_eq] at hk
          have hd : decode cc pc0 = .ok (.return_, len) := hd
          rw [hk.1] at hd
          exact hR pc0 L u w hd hu hw
        · cases h
      · split at h
        · next S' h1 => exact stp S' h1 h
        · cases h
    · cases hn
end CQ
def jckc (a : Nat) : Bool := match jCt[a]?, jCc[a]? with
  | some r, some code => jnx code 0 0 && (List.range code.length).all (fun k => match code[k]? with
    | some q => decide (decode r.2.1 q.1 = .ok (q.2.1, q.2.2.1)) && jokc a r.2.2.2.1 r.2.2.2.2.1 code k q
    | none => true)
  | _, _ => false
theorem jckc_0 : jckc 0 = true := by decide +kernel
theorem jckc_1 : jckc 1 = true := by decide +kernel
theorem jckc_2 : jckc 2 = true := by decide +kernel
theorem jckc_3 : jckc 3 = true := by decide +kernel
theorem jckc_4 : jckc 4 = true := by decide +kernel
theorem jckc_5 : jckc 5 = true := by decide +kernel
theorem jckc_6 : jckc 6 = true := by decide +kernel
theorem jckc_7 : jckc 7 = true := by decide +kernel
theorem jckc_ok {a : Nat} (h : a < 8) : jckc a = true := by
  match a, h with
  | 0, _ => exact jckc_0
  | 1, _ => exact jckc_1
  | 2, _ => exact jckc_2
  | 3, _ => exact jckc_3
  | 4, _ => exact jckc_4
  | 5, _ => exact jckc_5
  | 6, _ => exact jckc_6
  | 7, _ => exact jckc_7
theorem jctor (l : Launch) : ∀ (d a : Nat) (r : jC), jCt[a]? = some r → jMet2 l r (fun o M M' => jF d a o M = some M') := by
  intro d
  induction d with
  | zero => intro a r _ D cy ad o M M' sz _ _ h; cases h
  | succ d ih =>
    intro a r hr D cy ad o M M' sz hwf ho h
    obtain ⟨ha, w5, w4, hd0, hp, w2, hnm, hcl, -⟩ := jCt_words hr
    have hck := jckc_ok ha
    unfold jF at h
    unfold jckc at hck
    rw [hr] at h hck
    split at h
    · next r' code h1 h2 =>
      cases h1
      rw [h2] at hck
      simp only [Bool.and_eq_true] at hck
      refine Met.ofW (cc := r.2.1) (maxL := r.2.2.1) (ret := none) hp rfl ?_
      intro p e s m args below meth c s₁ B hml hv
      obtain ⟨rfl, ⟨hsz, hP, hK, hD0⟩, hNw⟩ := hv
      have hrt := B.returns
      have hts := atoms_spec (ws := .code r.1 r.2.1 r.2.2.1 none :: jt) B.pre
      have hown : s.vm.findClass (jcn a) = some m.cls := by rw [← hcl]; exact findClass_of_methodNamed B.named
      have hlocks := B.notSynchronized
      have hin : meth.name = "<init>" := by rw [(name_of_methodNamed B.named B.method).1]; exact hnm
      subst hsz
      have hD := hD0.self (sz := s.heap.size)
      generalize hAe : va_A (jW ad cy M.1 M.2.1 M.2.2) s.heap.size = A at hD ⊢
      have hA : ∀ q : Nat, s.heap.size ≤ q → A q := fun q h => by rw [← hAe]; exact Or.inr h
      have e0 : ([Value.ref (ad o)] : List Value) = [Value.ref o].map (jv ad) := rfl
      rw [e0, lg_entry_eq]
      have E : jE2 p (headSpec (.code r.1 r.2.1 r.2.2.1 none :: jt) (jrc r)).room s m ([Value.ref o].map (jv ad)).toArray c r.2.1 D cy r.2.2.1 A (jcn a) (.code r.1 r.2.1 r.2.2.1 none :: jt) :=
        ⟨fun u w hu hw => ⟨B.exec, B.bytes, hml, hown, hts, hK, hA, fun w h => List.mem_cons_of_mem _ h, hu, hw⟩, hNw⟩
      have hfit : (jent [Value.ref o]).length ≤ r.2.2.1 := by
        have hall : (List.range 8).all (fun a => match jCt[a]? with
          | some r => decide (1 ≤ r.2.2.1)
          | none => true) = true := by decide +kernel
        have := List.all_eq_true.mp hall a (List.mem_range.mpr ha)
        rw [hr] at this
        have h9 : 1 ≤ r.2.2.1 := by simpa using this
        exact h9
      refine jq_ok (l := l) (Q := MQ below (jPost2 D cy ad M.1 A M') ([Value.ref o].map (jv ad)).toArray s r.2.2.2.2.2.1 r.2.2.2.2.2.2 A) (N0 := M.1) (ad0 := ad) E ih hin (fun k q hq => ?_) ?_ 400 0 (0, jenL r.2.2.1 [.ref o], [], M, 0, 0) (Nat.zero_le _) (Nat.zero_le _) hck.1 h ad (fun _ _ => rfl) (Nat.le_refl _) hwf ?_ (fun j hj => absurd hj List.not_mem_nil) s.heap [] _ hP hD va_S.rf (jL_entry hfit)
      · have := List.all_eq_true.mp hck.2 k (List.mem_range.mpr (List.getElem?_eq_some_iff.mp hq).1)
        rw [hq] at this
        simp only [Bool.and_eq_true, decide_eq_true_eq] at this
        exact this
      · intro pc' L' u' w' hd hu hw ad' hag hN hwf' hL hS H locs ls hP hD hS' hL'
        refine W.widen (k := r.2.2.2.2.2.1) (n := r.2.2.2.2.2.2) hu hw ?_
        exact W.vret B.exec B.bytes hrt (fun t ht hW => ⟨⟨rfl, ad', hag, hwf', hN, by rw [ht]; exact hP, va_K.moved hW.alike hK, hD⟩, hS'.F ht⟩) hS'.2.2 hd
      · intro i j hj
        unfold jenL at hj
        match i, hj with
        | 0, hj =>
          have hj : some (some (Value.ref o)) = some (some (Value.ref j)) := hj
          cases hj
          exact Or.inl ho
        | i + 1, hj =>
          simp [jent, Value.category, List.getElem?_replicate] at hj
    · cases h
