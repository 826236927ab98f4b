section LW
variable {p : Program} {l : Launch} {e : Env} {s : State} {m : MethodId} {below : List Frame} {meth : Method} {c : Code} {cells slots : Nat} {Q : State → Prop}
variable {D : va_G} {cy : Nat → ClassId} {ad : Nat → Nat} {N : Nat} {K : Nat → jSh} {A : Nat → Prop} {Ts : List Cond} {b Ls : Nat} {xs : Nat → Int32}
theorem jrunL {O : jO} {Qr : Option Value → jM → Prop} (E : jE p room_1 s m #[Value.ref b] c cells slots code D cy 4 A (jcn 9) Ts)
    (hO : ∀ (a : Nat) (r : jR), jMt[a]? = some r → jMet l r.1 (.code r.1 r.2.1 r.2.2.1 r.2.2.2.1 :: jt) (jrm r) N K (O a))
    (hX : va_X b Ls xs s s.heap) (hbl : b < s.heap.size) (hbA : ¬ A b) (hab : ad 200 = b)
    (hI : ∀ (v : Int32) (pc' : Nat) (L' : List (Option Value)) (x' : jM), decode code pc' = .ok (.ireturn, 1) → Qr (some (.int v)) x' → jT p l e room_1 s m #[Value.ref b] below meth c cells slots Q D cy ad N 4 K A pc' L' [.int v] x') :
    ∀ (n k pc : Nat) (L : List (Option Value)) (st : List Value) (x : jM), jnx kL k pc = true → jwpL O N K Ls xs kL Qr n k L st x → jT p l e room_1 s m #[Value.ref b] below meth c cells slots Q D cy ad N 4 K A pc L st x := by
  intro n
  induction n with
  | zero => intro k pc L st x _ h; exact False.elim h
  | succ n ih =>
    intro k pc L st x hn h
    unfold jnx at hn
    split at hn
    · next q hq =>
      simp only [beq_iff_eq] at hn
      unfold jwpL at h
      rw [hq] at h
      rw [← hn]
      obtain ⟨hd, hok⟩ := jchL_at hq
      have gen : jok2 9 (some .boolean) 9 302 kL k q = true → jx O N K (fun k L st x => jwpL O N K Ls xs kL Qr n k L st x) Qr q k L st x → jT p l e room_1 s m #[Value.ref b] below meth c cells slots Q D cy ad N 4 K A q.1 L st x := by
        intro hk hx
        refine jx_ok (ret := some .boolean) E hO (by simp only [jok, Bool.and_eq_true, decide_eq_true_eq]; exact ⟨hd, hk⟩) (fun k' pc' L' st' x' h1 h2 => ih k' pc' L' st' x' h1 h2) (fun v pc' L' x' h1 _ h2 => hI v pc' L' x' h1 h2) (fun pc' L' x' _ h2 _ => by cases h2) hx
      obtain ⟨pc0, i, len, a, b', cv, ts⟩ := q
      cases i with
      | iaload =>
        simp only [jokL, Bool.and_eq_true, beq_iff_eq] at hok
        obtain ⟨rfl, h1⟩ := hok
        obtain ⟨i, r0, rfl, h5⟩ := jpI_spec h
        obtain ⟨o, r, rfl, ho, hin, h6⟩ := jpA_spec h5
        subst ho
        intro H locs ls g1 g2 g3 g4
        show W p l e room_1 s m #[Value.ref b] below meth c H locs cells slots Q (F0 m pc0 ls (.int i :: .ref (ad 200) :: r.map (jv ad)))
        rw [hab]
        exact va_sld E.1 E.2.1 hX hbl hbA g3 hin hd (ih _ _ _ _ _ h1 h6 H locs ls g1 g2 g3 g4)
      | arraylength =>
        simp only [jokL, Bool.and_eq_true, beq_iff_eq] at hok
        obtain ⟨rfl, h1⟩ := hok
        obtain ⟨o, r, rfl, ho, h6⟩ := jpA_spec h
        subst ho
        intro H locs ls g1 g2 g3 g4
        show W p l e room_1 s m #[Value.ref b] below meth c H locs cells slots Q (F0 m pc0 ls (.ref (ad 200) :: r.map (jv ad)))
        rw [hab]
        exact va_slen E.1 E.2.1 hX hbl hbA g3 hd (ih _ _ _ _ _ h1 h6 H locs ls g1 g2 g3 g4)
      | _ => exact gen hok h
    · cases hn
theorem jc_dup {own : String} {R : Room} {args : Array Value} {cc : ByteArray} {nL pc N0 u w : Nat} {ad0 : Nat → Nat} {L : List (Option Value)} {st : List Value} {M : jM2} {v : Value} (E : jE2 p R s m args c cc D cy nL A own Ts) (hu : u ≤ R.cells) (hw : w ≤ R.slots) (hd : decode cc pc = .ok (.dup, 1)) (hv : v.category = 1)
    (k : jT2 p l e R s m args below meth c Q D cy nL A N0 ad0 (pc + 1) L (v :: v :: st) M u w) : jT2 p l e R s m args below meth c Q D cy nL A N0 ad0 pc L (v :: st) M u w := fun ad hag hN hwf hL hS => js_dup (E.1 u w hu hw) hd hv (k ad hag hN hwf hL (fun j hj => hS j (by
    rcases List.mem_cons.mp hj with h | h
    · exact h ▸ List.mem_cons_self
    · exact h)))
end LW
theorem jNs_in : ∀ q ∈ jNt, Cond.methodLinkNest (jcn q.1) q.2.1 ⟨jcn q.2.2, "<init>", "()V"⟩ RX6 ∈ lw_tbl := by decide +kernel
theorem jao_in : Cond.arrayOver (.object RX2) ∈ lw_tbl ∧ Cond.arrayOver (.object RX5) ∈ lw_tbl := by decide +kernel
theorem jins_in : ∀ a, a < 8 → Cond.instantiable (jcn a) (jfc a) ∈ lw_tbl := by
  intro a ha
  obtain ⟨r, z, hr, -⟩ := jCt_ok a ha
  exact (List.mem_filter.mp (jCt_words hr).2.2.2.2.2.2.2.2.1).1
/-- THE LAW, out of what its loop needs of the step predicates -/
theorem law_start {p : Program} {e : Env} {s : State} {m : MethodId} {below : List Frame} {meth : Method} {c : Code} (l : Launch) {b L : Nat} {xs : Nat → Int32} (C0 : lw_At p s m meth c b L xs) (d : Nat)
    (hp : ∃ n, jwpL (jOl 136 jK d) 136 jK L xs kL (fun r _ => r = some (.int 1)) n 0 [some (.ref 200), some (.ref 0), some (.ref 121), none] [] jx0) : W p l e room_1 s m #[Value.ref b] below meth c s.heap [] 0 0 (lw_Z below #[Value.ref b] s) (entryFrame m ([Value.ref b] : List Value).toArray 4) := by
  obtain ⟨hx, hb, hr, hml, hown, hts, hX, hbl, hlocks, hgv⟩ := id C0
  obtain ⟨n, hp⟩ := hp
  have hA : ∀ q : Nat, s.heap.size ≤ q → (fun q : Nat => s.heap.size ≤ q) q := fun _ h => h
  have hbA : ¬ (fun q : Nat => s.heap.size ≤ q) b := Nat.not_le.mpr hbl
  have hkn : ∀ (k : Nat) (q : vw_C), vwCl[k]? = some q → ∃ (cC : ClassId) (iS : Nat → Nat), u_Kn s q.1 q.2.1 q.2.2 cC iS := by
    intro k q hq
    have hk := vwCl_lt hq
    obtain ⟨r, z, hr, -⟩ := jCt_ok k hk
    obtain ⟨-, -, -, -, -, -, -, -, w2, q', hq', e1, e2⟩ := jCt_words hr
    rw [hq] at hq'
    cases hq'
    exact u_known hts (fun w h => (List.mem_filter.mp ((jcl_ok k q hq).1 w h)).1) (n := jfc k) (by rw [e1]; exact hts _ (jins_in k hk))
  obtain ⟨dC, dI, hKc⟩ : ∃ (dC : Nat → ClassId) (dI : Nat → Nat → Nat), ∀ (k : Nat) (q : vw_C), vwCl[k]? = some q → u_Kn s q.1 q.2.1 q.2.2 (dC k) (dI k) := by
    have h2 : ∀ k : Nat, ∃ (cC : ClassId) (iS : Nat → Nat), ∀ q, vwCl[k]? = some q → u_Kn s q.1 q.2.1 q.2.2 cC iS := by
      intro k
      cases hq : vwCl[k]? with
      | none => exact ⟨0, fun _ => 0, fun q h => by cases h⟩
      | some q =>
        obtain ⟨cC, iS, h⟩ := hkn k q hq
        exact ⟨cC, iS, fun q' h' => by cases h'; exact h⟩
    exact ⟨fun k => (h2 k).choose, fun k => (h2 k).choose_spec.choose, fun k q hq => (h2 k).choose_spec.choose_spec q hq⟩
  obtain ⟨c8, k8, m8, f8, g8, i8⟩ := Cond.arrayClass_spec (hts (.arrayClass .int) (List.mem_filter.mp jarc.1).1)
  obtain ⟨c9, k9, m9, f9, g9, i9⟩ := Cond.arrayClass_spec (hts (.arrayClass .boolean) (List.mem_filter.mp jarc.2).1)
  obtain ⟨m10, c10, k10, a10, b10, g10, i10, f10⟩ := Cond.arrayOver_spec (hts (.arrayOver (.object RX2)) jao_in.1)
  obtain ⟨m11, c11, k11, a11, b11, g11, i11, f11⟩ := Cond.arrayOver_spec (hts (.arrayOver (.object RX5)) jao_in.2)
  obtain ⟨cy, hcy⟩ : ∃ cy : Nat → ClassId, cy 8 = c8 ∧ cy 9 = c9 ∧ cy 10 = c10 ∧ cy 11 = c11 := ⟨fun k => if k = 8 then c8 else if k = 9 then c9 else if k = 10 then c10 else c11, by simp⟩
  obtain ⟨rfl, rfl, rfl, rfl⟩ := hcy
  have hK : va_K (dC, dI) vwCl (jty cy) s := by
    refine ⟨hKc, fun k q h => ?_⟩
    match k, h with
    | 0, h => cases h; exact ⟨fun n z => ⟨fun k h => (by cases h), k8, g8, m8, i8⟩, f8⟩
    | 1, h => cases h; exact ⟨fun n z => ⟨fun k h => (by cases h), k9, g9, m9, i9⟩, f9⟩
    | 2, h => cases h; exact ⟨fun n z => ⟨fun k h => (by cases h), k10, g10, m10, i10⟩, k10, m10, g10, i10, a10, f10⟩
    | 3, h => cases h; exact ⟨fun n z => ⟨fun k h => (by cases h), k11, g11, m11, i11⟩, k11, m11, g11, i11, a11, f11⟩
    | k + 4, h => simp [jty] at h
  have hNw : jNw s := ⟨fun q hq => va_Nw.of rfl (hts _ (jNs_in q hq)), va_AO.of (hts _ jao_in.1), va_AO.of (hts _ jao_in.2)⟩
  have E : jE2 p room_1 s m #[Value.ref b] c code (dC, dI) cy 4 (fun q : Nat => s.heap.size ≤ q) (jcn 9) lw_tbl := ⟨fun u w hu hw => ⟨hx, hb, hml, hown, hts, hK, hA, fun w h => (List.mem_filter.mp h).1, hu, hw⟩, hNw⟩
  obtain ⟨⟨N2, K2, x2⟩, M4, hM2, e2, hM4, e4, hsame⟩ := jin
  have e2 : N2 = 121 := e2
  subst e2
  have main : jT2 p l e room_1 s m #[Value.ref b] below meth c (lw_Z below #[Value.ref b] s) (dC, dI) cy 4 (fun q : Nat => s.heap.size ≤ q) 0 (fun _ => b) 0 [some (.ref 200), none, none, none] [] (0, (fun _ => (0, 0, fun _ => 0)), fun _ _ => 0) 0 0 := by
    obtain ⟨r6, z6, hr6, -⟩ := jCt_ok 6 (by decide)
    obtain ⟨-, w5, w4, hd0, -, w2, hnm, hcl, w6, q6, hq6, hq61, hq62⟩ := jCt_words hr6
    obtain ⟨r7, z7, hr7, -⟩ := jCt_ok 7 (by decide)
    obtain ⟨-, v5, v4, vd0, -, v2, vnm, vcl, v6, q7, hq7, hq71, hq72⟩ := jCt_words hr7
    refine jc_new (a := 6) E hq6 hq62 (by rw [hq61]; exact jQl_in (by decide +kernel)) (by rw [hq61]; exact w6) (by rw [hq61, ← hcl]; exact w4) (by decide) (by decide +kernel) (by decide +kernel) dL_0 ?_
    refine jc_dup E (by decide +kernel) (by decide +kernel) dL_3 rfl ?_
    cases hr6
    refine jc_call E (jctor l 9 6 _ rfl) w5 w4 w2 hnm hd0 (by decide +kernel) (Or.inl (jIl_in (a := 6) (own := 9) (by decide +kernel) rfl)) (by decide +kernel) (by decide +kernel) (by decide +kernel) dL_4 hM2 ?_
    refine jc_astore (a := 1) E (by decide +kernel) (by decide +kernel) dL_7 rfl (by decide +kernel) ?_
    refine jc_new (a := 7) E hq7 hq72 (by rw [hq71]; exact jQl_in (by decide +kernel)) (by rw [hq71]; exact v6) (by rw [hq71, ← vcl]; exact v4) (by decide) (by decide +kernel) (by decide +kernel) dL_8 ?_
    refine jc_dup E (by decide +kernel) (by decide +kernel) dL_11 rfl ?_
    cases hr7
    refine jc_call E (jctor l 9 7 _ rfl) v5 v4 v2 vnm vd0 (by decide +kernel) (Or.inl (jIl_in (a := 7) (own := 9) (by decide +kernel) rfl)) (by decide +kernel) (by decide +kernel) (by decide +kernel) dL_12 hM4 ?_
    obtain ⟨N4, K4, x4⟩ := M4
    have e4 : N4 = 136 := e4
    subst e4
    refine jc_astore (a := 2) E (by decide +kernel) (by decide +kernel) dL_15 rfl (by decide +kernel) ?_
    intro ad hag hN hwf hL hS H locs ls h1 h2 h3 h4
    refine jrunL (E.1 _ _ (by decide +kernel) (by decide +kernel)) (jall l 136 jK d) hX hbl hbA (hag 200 (Or.inr rfl)) ?_ n 0 16 _ _ jx0 (by decide +kernel) hp H locs ls (jW_same hsame h1) (jD_same h2) h3 h4
    intro v pc' L' x' hd hv H locs ls g1 g2 g3 g4
    cases hv
    refine va_forget (fun q hq => g3.2.2 q hq) ?_
    refine W.widen (k := 600000) (n := 7302250) (by decide +kernel) (by decide +kernel) ?_
    exact lw_ret hx hb hr hlocks hd
  have e0 : ([Value.ref b] : List Value) = [Value.ref 200].map (jv (fun _ => b)) := rfl
  rw [e0, lg_entry_eq]
  exact main (fun _ => b) (fun _ _ => rfl) (Nat.le_refl _) (fun i k j h => absurd h (Nat.not_lt_zero i)) (fun i j hj => by
    match i, hj with
    | 0, hj => cases hj; exact Or.inr rfl
    | 1, hj => cases hj
    | 2, hj => cases hj
    | 3, hj => cases hj
    | i + 4, hj => simp at hj) (fun j hj => absurd hj List.not_mem_nil) s.heap [] _ (fun k q h => by simp [jW] at h) ⟨fun i j p q h => by simp [jW] at h, fun k q h => by simp [jW] at h⟩ va_S.rf (jL_entry (as := [.ref 200]) (n := 4) (by decide))
