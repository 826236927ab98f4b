/-! PLACES WITHOUT COUNTING STEPS: jw, and how a place is unfolded -/
theorem jgI_i {L : List (Option Value)} {j : Nat} {v : Int32} {g : Int32 → Prop} (h : L[j]? = some (some (.int v))) (hg : g v) : jgI L j g := by unfold jgI; rw [h]; exact hg
theorem jgL_i {L : List (Option Value)} {j : Nat} {v : Int64} {g : Int64 → Prop} (h : L[j]? = some (some (.long v))) (hg : g v) : jgL L j g := by unfold jgL; rw [h]; exact hg
theorem jgA_i {L : List (Option Value)} {j v : Nat} {g : Nat → Prop} (h : L[j]? = some (some (.ref v))) (hg : g v) : jgA L j g := by unfold jgA; rw [h]; exact hg
theorem jB_i {b : Bool} {P : Prop} (h : b = true) (hp : P) : jB b P := by rw [h]; exact hp
theorem jrk_0 {k : Nat} {g0 : Prop} {g : Nat → Prop} (h : k = 0) (hg : g0) : jrk k g0 g := by rw [h]; exact hg
theorem jrk_r {k j : Nat} {g0 : Prop} {g : Nat → Prop} (h : k = j + 2) (hg : g j) : jrk k g0 g := by rw [h]; exact hg
theorem jif_not {cd : ClassFile.Cond} {v : Int32} (h : jif cd v) : ¬ jnf cd v := by cases cd <;> simp_all [jif, jnf]
theorem jif_or {cd : ClassFile.Cond} {v : Int32} (h : ¬ jif cd v) : jnf cd v := by cases cd <;> simp_all [jif, jnf]
theorem jic_not {cd : ClassFile.Cond} {v y : Int32} (h : jic cd v y) : ¬ jnc cd v y := by cases cd <;> simp_all [jic, jnc]
theorem jic_or {cd : ClassFile.Cond} {v y : Int32} (h : ¬ jic cd v y) : jnc cd v y := by cases cd <;> simp_all [jic, jnc]
theorem jsw_cn {v : Int} {G : Nat → Prop} {G' : Nat → Nat → Prop} {d : Nat} (hG : ∀ t, G t → ∃ m, G' m t) : ∀ {l : List (Int × Nat)}, jsw v G d l → ∃ m, jsw v (G' m) d l
  | [], h => hG d h
  | q :: r, h => by
    by_cases hv : v = q.1
    · obtain ⟨m, hm⟩ := hG _ (h.1 hv)
      exact ⟨m, fun _ => hm, fun h => absurd hv h⟩
    · obtain ⟨m, hm⟩ := jsw_cn hG (h.2 hv)
      exact ⟨m, fun h => absurd h hv, fun _ => hm⟩
/-- a transformer that reaches one end alone -/
def jCn (T : (Option Value → jM → Prop) → Prop) : Prop := ∀ (P : Option Value → jM → Prop) (P' : Nat → Option Value → jM → Prop), (∀ r x, P r x → ∃ m, P' m r x) → T P → ∃ m, T (P' m)
set_option maxHeartbeats 4000000 in
theorem jx_cn {O : jO} {N : Nat} {K : Nat → jSh} {G : jG} {G' : Nat → jG} {Q : Option Value → jM → Prop} {Q' : Nat → Option Value → jM → Prop} {q : jI} {k : Nat} {L : List (Option Value)} {st : List Value} {x : jM} (hO : ∀ a as x, jCn (O a as x))
    (hG : ∀ k L st x, G k L st x → ∃ m, G' m k L st x) (hQ : ∀ r x, Q r x → ∃ m, Q' m r x) (hx : jx O N K G Q q k L st x) : ∃ m, jx O N K (G' m) (Q' m) q k L st x := by
  obtain ⟨pc, i, len, a, b, cv, ts⟩ := q
  cases i with
  | iconst _ =>
    exact hG _ _ _ _ hx
  | bipush _ =>
    exact hG _ _ _ _ hx
  | sipush _ =>
    exact hG _ _ _ _ hx
  | ldc _ =>
    exact hG _ _ _ _ hx
  | ldc_w _ =>
    exact hG _ _ _ _ hx
  | lconst _ =>
    exact hG _ _ _ _ hx
  | ldc2_w _ =>
    exact hG _ _ _ _ hx
  | iload_n _ =>
    obtain ⟨v, hl, hx⟩ := jgI_spec hx
    obtain ⟨m, h⟩ := hG _ _ _ _ hx
    exact ⟨m, jgI_i hl h⟩
  | iload _ =>
    obtain ⟨v, hl, hx⟩ := jgI_spec hx
    obtain ⟨m, h⟩ := hG _ _ _ _ hx
    exact ⟨m, jgI_i hl h⟩
  | lload_n _ =>
    obtain ⟨v, hl, hx⟩ := jgL_spec hx
    obtain ⟨m, h⟩ := hG _ _ _ _ hx
    exact ⟨m, jgL_i hl h⟩
  | lload _ =>
    obtain ⟨v, hl, hx⟩ := jgL_spec hx
    obtain ⟨m, h⟩ := hG _ _ _ _ hx
    exact ⟨m, jgL_i hl h⟩
  | aload_n _ =>
    obtain ⟨v, hl, hx⟩ := jgA_spec hx
    obtain ⟨m, h⟩ := hG _ _ _ _ hx
    exact ⟨m, jgA_i hl h⟩
  | istore_n _ =>
    obtain ⟨v, r, rfl, hx⟩ := jpI_spec hx
    obtain ⟨hs, hx⟩ := jB_spec hx
    obtain ⟨m, h⟩ := hG _ _ _ _ hx
    exact ⟨m, jB_i hs h⟩
  | istore _ =>
    obtain ⟨v, r, rfl, hx⟩ := jpI_spec hx
    obtain ⟨hs, hx⟩ := jB_spec hx
    obtain ⟨m, h⟩ := hG _ _ _ _ hx
    exact ⟨m, jB_i hs h⟩
  | lstore_n _ =>
    obtain ⟨v, r, rfl, hx⟩ := jpL_spec hx
    obtain ⟨hs, hx⟩ := jB_spec hx
    obtain ⟨m, h⟩ := hG _ _ _ _ hx
    exact ⟨m, jB_i hs h⟩
  | lstore _ =>
    obtain ⟨v, r, rfl, hx⟩ := jpL_spec hx
    obtain ⟨hs, hx⟩ := jB_spec hx
    obtain ⟨m, h⟩ := hG _ _ _ _ hx
    exact ⟨m, jB_i hs h⟩
  | iinc _ _ =>
    obtain ⟨v, hl, hx⟩ := jgI_spec hx
    obtain ⟨hs, hx⟩ := jB_spec hx
    obtain ⟨m, h⟩ := hG _ _ _ _ hx
    exact ⟨m, jgI_i hl (jB_i hs h)⟩
  | iadd =>
    obtain ⟨v, y, r, rfl, hx⟩ := jp2_spec hx
    exact hG _ _ _ _ hx
  | isub =>
    obtain ⟨v, y, r, rfl, hx⟩ := jp2_spec hx
    exact hG _ _ _ _ hx
  | imul =>
    obtain ⟨v, y, r, rfl, hx⟩ := jp2_spec hx
    exact hG _ _ _ _ hx
  | iand =>
    obtain ⟨v, y, r, rfl, hx⟩ := jp2_spec hx
    exact hG _ _ _ _ hx
  | ior =>
    obtain ⟨v, y, r, rfl, hx⟩ := jp2_spec hx
    exact hG _ _ _ _ hx
  | ixor =>
    obtain ⟨v, y, r, rfl, hx⟩ := jp2_spec hx
    exact hG _ _ _ _ hx
  | ishl =>
    obtain ⟨v, y, r, rfl, hx⟩ := jp2_spec hx
    exact hG _ _ _ _ hx
  | ishr =>
    obtain ⟨v, y, r, rfl, hx⟩ := jp2_spec hx
    exact hG _ _ _ _ hx
  | iushr =>
    obtain ⟨v, y, r, rfl, hx⟩ := jp2_spec hx
    exact hG _ _ _ _ hx
  | idiv =>
    obtain ⟨v, y, r, rfl, hn, hx⟩ := jp2_spec hx
    obtain ⟨m, h⟩ := hG _ _ _ _ hx
    exact ⟨m, hn, h⟩
  | irem =>
    obtain ⟨v, y, r, rfl, hn, hx⟩ := jp2_spec hx
    obtain ⟨m, h⟩ := hG _ _ _ _ hx
    exact ⟨m, hn, h⟩
  | ladd =>
    obtain ⟨v, y, r, rfl, hx⟩ := jp2L_spec hx
    exact hG _ _ _ _ hx
  | lmul =>
    obtain ⟨v, y, r, rfl, hx⟩ := jp2L_spec hx
    exact hG _ _ _ _ hx
  | lcmp =>
    obtain ⟨v, y, r, rfl, hx⟩ := jp2L_spec hx
    exact hG _ _ _ _ hx
  | ldiv =>
    obtain ⟨v, y, r, rfl, hn, hx⟩ := jp2L_spec hx
    obtain ⟨m, h⟩ := hG _ _ _ _ hx
    exact ⟨m, hn, h⟩
  | lrem =>
    obtain ⟨v, y, r, rfl, hn, hx⟩ := jp2L_spec hx
    obtain ⟨m, h⟩ := hG _ _ _ _ hx
    exact ⟨m, hn, h⟩
  | ineg =>
    obtain ⟨v, r, rfl, hx⟩ := jpI_spec hx
    exact hG _ _ _ _ hx
  | i2l =>
    obtain ⟨v, r, rfl, hx⟩ := jpI_spec hx
    exact hG _ _ _ _ hx
  | l2i =>
    obtain ⟨v, r, rfl, hx⟩ := jpL_spec hx
    exact hG _ _ _ _ hx
  | dup =>
    cases st with
    | nil => exact False.elim hx
    | cons v r =>
      obtain ⟨hs, hx⟩ := jB_spec hx
      obtain ⟨m, h⟩ := hG _ _ _ _ hx
      exact ⟨m, jB_i hs h⟩
  | dup2 =>
    match st, hx with
    | [], hx => exact False.elim hx
    | [_], hx => exact False.elim hx
    | v :: w :: r, hx =>
      obtain ⟨hs, hx⟩ := jB_spec hx
      obtain ⟨m, h⟩ := hG _ _ _ _ hx
      exact ⟨m, jB_i hs h⟩
  | getfield _ =>
    obtain ⟨ob, r, rfl, hx⟩ := jpA_spec hx
    obtain ⟨hj, hx⟩ := jB_spec hx
    rcases jrk_spec hx with ⟨hk, hx⟩ | ⟨j, hk, hx⟩
    · obtain ⟨m, h⟩ := hG _ _ _ _ hx
      exact ⟨m, jB_i hj (jrk_0 hk h)⟩
    · obtain ⟨m, h⟩ := hG _ _ _ _ hx
      exact ⟨m, jB_i hj (jrk_r hk h)⟩
  | putfield _ =>
    obtain ⟨v, r0, rfl, hx⟩ := jpI_spec hx
    obtain ⟨ob, r, rfl, hx⟩ := jpA_spec hx
    obtain ⟨hj, hc, hx⟩ := jB_spec hx
    obtain ⟨m, h⟩ := hG _ _ _ _ hx
    exact ⟨m, jB_i hj ⟨hc, h⟩⟩
  | iaload =>
    obtain ⟨i, r0, rfl, hx⟩ := jpI_spec hx
    obtain ⟨ob, r, rfl, hx⟩ := jpA_spec hx
    obtain ⟨hj, hi, hx⟩ := jB_spec hx
    obtain ⟨m, h⟩ := hG _ _ _ _ hx
    exact ⟨m, jB_i hj ⟨hi, h⟩⟩
  | baload =>
    obtain ⟨i, r0, rfl, hx⟩ := jpI_spec hx
    obtain ⟨ob, r, rfl, hx⟩ := jpA_spec hx
    obtain ⟨hj, hi, hx⟩ := jB_spec hx
    obtain ⟨m, h⟩ := hG _ _ _ _ hx
    exact ⟨m, jB_i hj ⟨hi, h⟩⟩
  | iastore =>
    obtain ⟨v, r1, rfl, hx⟩ := jpI_spec hx
    obtain ⟨i, r0, rfl, hx⟩ := jpI_spec hx
    obtain ⟨ob, r, rfl, hx⟩ := jpA_spec hx
    obtain ⟨hj, hi, hx⟩ := jB_spec hx
    obtain ⟨m, h⟩ := hG _ _ _ _ hx
    exact ⟨m, jB_i hj ⟨hi, h⟩⟩
  | bastore =>
    obtain ⟨v, r1, rfl, hx⟩ := jpI_spec hx
    obtain ⟨i, r0, rfl, hx⟩ := jpI_spec hx
    obtain ⟨ob, r, rfl, hx⟩ := jpA_spec hx
    obtain ⟨hj, hi, hv, hx⟩ := jB_spec hx
    obtain ⟨m, h⟩ := hG _ _ _ _ hx
    exact ⟨m, jB_i hj ⟨hi, hv, h⟩⟩
  | aaload =>
    obtain ⟨i, r0, rfl, hx⟩ := jpI_spec hx
    obtain ⟨ob, r, rfl, hx⟩ := jpA_spec hx
    obtain ⟨hj, hi, hx⟩ := jB_spec hx
    rcases jrk_spec hx with ⟨hk, hx⟩ | ⟨j, hk, hx⟩
    · exact hx.elim
    · obtain ⟨m, h⟩ := hG _ _ _ _ hx
      exact ⟨m, jB_i hj ⟨hi, jrk_r hk h⟩⟩
  | goto _ =>
    exact hG _ _ _ _ hx
  | ifCond cd _ =>
    obtain ⟨v, r, rfl, hx⟩ := jpI_spec hx
    by_cases hc : jif cd v
    · obtain ⟨m, h⟩ := hG _ _ _ _ (hx.1 hc)
      exact ⟨m, fun _ => h, fun h2 => absurd h2 (jif_not hc)⟩
    · obtain ⟨m, h⟩ := hG _ _ _ _ (hx.2 (jif_or hc))
      exact ⟨m, fun h2 => absurd h2 hc, fun _ => h⟩
  | if_icmp cd _ =>
    obtain ⟨v, y, r, rfl, hx⟩ := jp2_spec hx
    by_cases hc : jic cd v y
    · obtain ⟨m, h⟩ := hG _ _ _ _ (hx.1 hc)
      exact ⟨m, fun _ => h, fun h2 => absurd h2 (jic_not hc)⟩
    · obtain ⟨m, h⟩ := hG _ _ _ _ (hx.2 (jic_or hc))
      exact ⟨m, fun h2 => absurd h2 hc, fun _ => h⟩
  | tableswitch dflt lo hi offs =>
    obtain ⟨v, r, rfl, hx⟩ := jpI_spec hx
    exact jsw_cn (fun t h => hG _ _ _ _ h) hx
  | lookupswitch dflt ps =>
    obtain ⟨v, r, rfl, hx⟩ := jpI_spec hx
    exact jsw_cn (fun t h => hG _ _ _ _ h) hx
  | invokevirtual n =>
    obtain ⟨ob, r, hst, hx⟩ := jpA_spec hx
    obtain ⟨hj, hx⟩ := jB_spec hx
    obtain ⟨m, h⟩ := hO _ _ _ _ (fun m rv x' => G' m (k + 1) L (rv.toList ++ r) x') (fun rv x' h => hG _ _ _ _ h) hx
    refine ⟨m, ?_⟩
    show jpA (st.drop b) _
    rw [hst]
    exact jB_i hj h
  | invokestatic n =>
    match cv, hx with
    | 0, hx =>
      obtain ⟨hj, hx⟩ := jB_spec hx
      obtain ⟨m, h⟩ := hO _ _ _ _ (fun m rv x' => G' m (k + 1) L (rv.toList ++ st.drop b) x') (fun rv x' h => hG _ _ _ _ h) hx
      exact ⟨m, jB_i hj h⟩
    | 1, hx =>
      obtain ⟨v, y, r, rfl, hx⟩ := jp2_spec hx
      obtain ⟨hj, hx⟩ := jB_spec hx
      obtain ⟨m, h⟩ := hG _ _ _ _ hx
      exact ⟨m, jB_i hj h⟩
    | 2, hx =>
      obtain ⟨v, y, r, rfl, hx⟩ := jp2_spec hx
      obtain ⟨hj, hx⟩ := jB_spec hx
      obtain ⟨m, h⟩ := hG _ _ _ _ hx
      exact ⟨m, jB_i hj h⟩
    | 3, hx =>
      obtain ⟨v, r, rfl, hx⟩ := jpI_spec hx
      obtain ⟨hj, hx⟩ := jB_spec hx
      obtain ⟨m, h⟩ := hG _ _ _ _ hx
      exact ⟨m, jB_i hj h⟩
    | 4, hx =>
      obtain ⟨n1, r0, rfl, hx⟩ := jpI_spec hx
      obtain ⟨dp, r1, rfl, hx⟩ := jpI_spec hx
      obtain ⟨d1, r2, rfl, hx⟩ := jpA_spec hx
      obtain ⟨sp, r3, rfl, hx⟩ := jpI_spec hx
      obtain ⟨ob, r, rfl, hx⟩ := jpA_spec hx
      obtain ⟨hj, g1, g2, g3, g4, g5, hx⟩ := jB_spec hx
      obtain ⟨m, h⟩ := hG _ _ _ _ hx
      exact ⟨m, jB_i hj ⟨g1, g2, g3, g4, g5, h⟩⟩
    | (z + 5 : Nat), hx => exact False.elim hx
    | .negSucc z, hx => exact False.elim hx
  | ireturn =>
    match st, hx with
    | [], hx => exact False.elim hx
    | [.int v], hx =>
      obtain ⟨m, h⟩ := hQ _ _ hx.2
      exact ⟨m, hx.1, h⟩
    | .long _ :: _, hx => exact False.elim hx
    | .ref _ :: _, hx => exact False.elim hx
    | .null :: _, hx => exact False.elim hx
    | .float _ :: _, hx => exact False.elim hx
    | .double _ :: _, hx => exact False.elim hx
    | .int _ :: _ :: _, hx => exact False.elim hx
  | return_ =>
    cases st with
    | nil => exact hQ _ _ hx
    | cons v r => exact False.elim hx
  | _ => exact False.elim hx
theorem jwp_cn {O : jO} {N : Nat} {K : Nat → jSh} {code : List jI} {Q : Option Value → jM → Prop} {Q' : Nat → Option Value → jM → Prop} (hO : ∀ a as x, jCn (O a as x)) (hQ : ∀ r x, Q r x → ∃ m, Q' m r x) :
    ∀ (n k : Nat) (L : List (Option Value)) (st : List Value) (x : jM), jwp O N K code Q n k L st x → ∃ m, jwp O N K code (Q' m) n k L st x := by
  intro n
  induction n with
  | zero => intro k L st x h; exact False.elim h
  | succ n ih =>
    intro k L st x h
    unfold jwp at h
    split at h
    · exact False.elim h
    · next q hq =>
      obtain ⟨m, hm⟩ := jx_cn (G' := fun m k L st x => jwp O N K code (Q' m) n k L st x) hO ih hQ h
      refine ⟨m, ?_⟩
      unfold jwp
      rw [hq]
      exact hm
theorem jOl_cn (N : Nat) (K : Nat → jSh) : ∀ (d a : Nat) (as : List Value) (x : jM), jCn (jOl N K d a as x) := by
  intro d
  induction d with
  | zero => intro a as x P P' _ h; exact False.elim h
  | succ d ih =>
    intro a as x P P' hP h
    unfold jOl at h ⊢
    split at h
    · next r z h1 h2 =>
      obtain ⟨hl, n, hn⟩ := h
      obtain ⟨m, hm⟩ := jwp_cn ih hP n _ _ _ _ hn
      exact ⟨m, hl, n, hm⟩
    · exact False.elim h
/-- the place k of a method, calls at most d deep -/
def jw (d : Nat) (code : List jI) (Qr : Option Value → jM → Prop) (k : Nat) (L : List (Option Value)) (st : List Value) (x : jM) : Prop := ∃ n, jwp (jOl 136 jK d) 136 jK code Qr n k L st x
theorem jw_u {d : Nat} {code : List jI} {Qr : Option Value → jM → Prop} {k : Nat} {L : List (Option Value)} {st : List Value} {x : jM} {q : jI} (hq : code[k]? = some q) (h : jx (jOl 136 jK d) 136 jK (fun k L st x => jw d code Qr k L st x) Qr q k L st x) : jw d code Qr k L st x := by
  obtain ⟨n, hn⟩ := jx_cn (G' := fun n k L st x => jwp (jOl 136 jK d) 136 jK code Qr n k L st x) (Q' := fun _ => Qr) (jOl_cn 136 jK d) (fun k L st x h => h) (fun r x h => ⟨0, h⟩) h
  refine ⟨n + 1, ?_⟩
  unfold jwp
  rw [hq]
  exact hn
/-- a call of method a -/
abbrev jo (d a : Nat) (as : List Value) (x : jM) (Q : Option Value → jM → Prop) : Prop := jOl 136 jK d a as x Q
theorem jo_i {d a : Nat} {as : List Value} {x : jM} {Q : Option Value → jM → Prop} {r : jR} {z : Nat × List jI} (hr : jMt[a]? = some r) (hz : jCs[a]? = some z) (hl : (jent as).length ≤ r.2.2.1) (h : jw d z.2 Q 0 (jenL r.2.2.1 as) [] x) : jo (d + 1) a as x Q := by
  show jOl 136 jK (d + 1) a as x Q
  unfold jOl
  rw [hr, hz]
  exact ⟨hl, h⟩
theorem jo_mono {d a : Nat} {as : List Value} {x : jM} {Q Q' : Option Value → jM → Prop} (hQ : ∀ r x, Q r x → Q' r x) (h : jo d a as x Q) : jo d a as x Q' := by
  obtain ⟨m, hm⟩ := jOl_cn 136 jK d a as x Q (fun _ => Q') (fun r x h => ⟨0, hQ r x h⟩) h
  exact hm
/-- the law's place -/
def jwl (d Ls : Nat) (xs : Nat → Int32) (k : Nat) (L : List (Option Value)) (st : List Value) (x : jM) : Prop := ∃ n, jwpL (jOl 136 jK d) 136 jK Ls xs kL (fun r _ => r = some (.int 1)) n k L st x
theorem jwl_u {d Ls : Nat} {xs : Nat → Int32} {k : Nat} {L : List (Option Value)} {st : List Value} {x : jM} {q : jI} (hq : kL[k]? = some q) (h : jxL (jOl 136 jK d) 136 jK Ls xs (fun k L st x => jwl d Ls xs k L st x) (fun r _ => r = some (.int 1)) q k L st x) : jwl d Ls xs k L st x := by
  have key : ∃ n, jxL (jOl 136 jK d) 136 jK Ls xs (fun k L st x => jwpL (jOl 136 jK d) 136 jK Ls xs kL (fun r _ => r = some (.int 1)) n k L st x) (fun r _ => r = some (.int 1)) q k L st x := by
    have gen : jx (jOl 136 jK d) 136 jK (fun k L st x => jwl d Ls xs k L st x) (fun r _ => r = some (.int 1)) q k L st x → ∃ n, jx (jOl 136 jK d) 136 jK (fun k L st x => jwpL (jOl 136 jK d) 136 jK Ls xs kL (fun r _ => r = some (.int 1)) n k L st x) (fun r _ => r = some (.int 1)) q k L st x := fun h => jx_cn (G := fun k L st x => jwl d Ls xs k L st x) (G' := fun n k L st x => jwpL (jOl 136 jK d) 136 jK Ls xs kL (fun r _ => r = some (.int 1)) n k L st x) (Q := fun r _ => r = some (.int 1)) (Q' := fun _ => (fun r _ => r = some (.int 1))) (jOl_cn 136 jK d) (fun k L st x h => h) (fun r x h => ⟨0, h⟩) h
    obtain ⟨pc, i, len, a, b, cv, ts⟩ := q
    cases i with
    | iaload =>
      obtain ⟨i, r0, rfl, h1⟩ := jpI_spec h
      obtain ⟨ob, r, rfl, ho, hi, h2⟩ := jpA_spec h1
      obtain ⟨n, hn⟩ := h2
      exact ⟨n, ho, hi, hn⟩
    | arraylength =>
      obtain ⟨ob, r, rfl, ho, h2⟩ := jpA_spec h
      obtain ⟨n, hn⟩ := h2
      exact ⟨n, ho, hn⟩
    | _ => exact gen h
  obtain ⟨n, hn⟩ := key
  refine ⟨n + 1, ?_⟩
  unfold jwpL
  rw [hq]
  exact hn
