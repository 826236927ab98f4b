/-! THE CLASS: the reader, its small steps -/
theorem ju_ju (x : jM) (o k : Nat) (a b : Int32) : ju (ju x o k a) o k b = ju x o k b := by
  funext i j
  by_cases e : i = o
  · subst e
    by_cases e2 : j = k
    · subst e2; rw [ju_s, ju_s]
    · rw [ju_k e2, ju_k e2, ju_k e2]
  · rw [ju_o e, ju_o e, ju_o e]
def le (u : aN) (k : Nat) : Int32 := if k < u.1 then nI (u.2 k) else -1
def bT (u : aN) : Prop := u.1 ≤ 240 ∧ ∀ k, k < u.1 → u.2 k ≤ 255
theorem xT_f {x x' : jM} {u : aN} (h1 : x' 1 1 = x 1 1) (h2 : x' 2 = x 2) (h : xT x u) : xT x' u := ⟨h1.trans h.1, fun k hk => by rw [h2]; exact h.2 k hk⟩
def rQ (x : jM) (u : aN) : aR → Prop
  | .inl q => x 1 5 = nI q.1 ∧ x 1 6 = nI q.2 ∧ 1 ≤ q.1 ∧ q.1 ≤ 3
  | .inr k => x 1 5 = nI 0 ∧ x 1 4 = nI k ∧ k ≤ u.1
theorem rQ_f {x x' : jM} {u : aN} {s : aR} (h : x' 1 = x 1) (hq : rQ x u s) : rQ x' u s := by
  cases s with
  | inl q => exact ⟨by rw [h]; exact hq.1, by rw [h]; exact hq.2.1, hq.2.2⟩
  | inr k => exact ⟨by rw [h]; exact hq.1, by rw [h]; exact hq.2.1, hq.2.2⟩
def fR (x x' : jM) : Prop := (∀ i, i ≠ 1 → x' i = x i) ∧ x' 1 1 = x 1 1
theorem fR_t {x y w : jM} (h1 : fR x y) (h2 : fR y w) : fR x w := ⟨fun i hi => (h2.1 i hi).trans (h1.1 i hi), h2.2.trans h1.2⟩
section CJ
variable {d : Nat} {x : jM} {Q : Option Value → jM → Prop} {u : aN}
theorem c_letterHere {k : Nat} (hu : bT u) (ht : xT x u) (e : x 1 4 = nI k) (hk : k ≤ u.1) (h : Q (some (.int (le u k))) x) : jo (d + 1) 19 [.ref 1] x Q := by
  have b1 := hu.1
  refine jo_i rfl rfl (Nat.le_of_ble_eq_true rfl) ?_
  iterate 2 refine jw_u rfl ?_
  refine jtop e ?_
  refine jw_u rfl ⟨fun c => absurd c (nI_pos (by omega)), fun _ => ?_⟩
  iterate 4 refine jw_u rfl ?_
  unfold le at h
  refine jw_u rfl ⟨fun (c : x 1 1 ≤ x 1 4) => ?_, fun (c : ¬ x 1 1 ≤ x 1 4) => ?_⟩
  · rw [e, ht.1, nI_leI (by omega) (by omega)] at c
    rw [if_neg (by omega)] at h
    iterate 2 refine jw_u rfl ?_
    exact ⟨fun h => (by cases h), jret jm1 h⟩
  · rw [e, ht.1, nI_leI (by omega) (by omega)] at c
    rw [if_pos (by omega)] at h
    iterate 3 refine jw_u rfl ?_
    refine jw_u rfl ⟨fun (c2 : nI 240 ≤ x 1 4) => absurd c2 (by rw [e]; exact nI_ge (by omega) (by decide)), fun _ => ?_⟩
    iterate 4 refine jw_u rfl ?_
    refine jtop e ?_
    refine jw_u rfl (jaN (show k < 240 by omega) (by decide) (ht.2 k (by omega)) ?_)
    iterate 2 refine jw_u rfl ?_
    exact ⟨fun h => (by cases h), h⟩
theorem c_skipBlanks {k : Nat} (hu : bT u) (ht : xT x u) (e : x 1 4 = nI k) (hk : k ≤ u.1) (h : Q none (ju x 1 4 (nI (sk u k)))) : jo (d + 2) 18 [.ref 1] x Q := by
  have b1 := hu.1
  have loop : ∀ k, k ≤ u.1 → ∀ x, xT x u → x 1 4 = nI k → Q none (ju x 1 4 (nI (sk u k))) → jw (d + 1) kX4_skipBlanks Q 0 [some (.ref 1)] [] x := by
    refine dn _ u.1 (fun x ht e h => ?_) (fun k hk ih x ht e h => ?_)
    · rw [sk_e (by omega), ju_id e] at h
      iterate 4 refine jw_u rfl ?_
      refine jw_u rfl ⟨fun _ => ?_, fun (c : ¬ x 1 1 ≤ x 1 4) => absurd (by rw [e, ht.1]; exact Int32.le_refl _) c⟩
      refine jw_u rfl ?_
      exact h
    · have b2 := hu.2 k hk
      iterate 4 refine jw_u rfl ?_
      refine jw_u rfl ⟨fun (c : x 1 1 ≤ x 1 4) => absurd c (by rw [e, ht.1]; exact nI_ge hk (by omega)), fun _ => ?_⟩
      iterate 2 refine jw_u rfl ?_
      refine c_letterHere hu ht e (Nat.le_of_lt hk) ?_
      refine jtop (v' := nI (u.2 k)) (by unfold le; rw [if_pos hk]) ?_
      refine jw_u rfl ?_
      refine jw_u rfl ⟨fun (c : ¬ nI (u.2 k) = nI 32) => ?_, fun (c : nI (u.2 k) = nI 32) => ?_⟩
      · rw [nI_eq (by omega) (by decide)] at c
        rw [sk_e (fun hc => c hc.2), ju_id e] at h
        refine jw_u rfl ?_
        exact h
      · rw [nI_eq (by omega) (by decide)] at c
        rw [sk_s hk c] at h
        iterate 3 refine jw_u rfl ?_
        refine jtop e ?_
        iterate 2 refine jw_u rfl ?_
        refine jtop (nI_add k 1) ?_
        refine jw_u rfl ⟨fun h => (by cases h), ?_⟩
        refine jw_u rfl ?_
        exact ih (ju x 1 4 (nI (k + 1))) (xT_f (ju_k (by decide)) (ju_oo (by decide)) ht) (ju_s _ _ _ _) (by rw [ju_ju]; exact h)
  refine jo_i rfl rfl (Nat.le_of_ble_eq_true rfl) ?_
  exact loop k hk x ht e h
theorem c_isFigure {c : Nat} (hc : c ≤ 255) (h1 : 48 ≤ c ∧ c ≤ 57 → Q (some (.int (nI 1))) x) (h2 : ¬ (48 ≤ c ∧ c ≤ 57) → Q (some (.int (nI 0))) x) : jo (d + 1) 20 [.int (nI c)] x Q := by
  refine jo_i rfl rfl (Nat.le_of_ble_eq_true rfl) ?_
  iterate 2 refine jw_u rfl ?_
  refine jw_u rfl ⟨fun (c1 : nI c < nI 48) => ?_, fun (c1 : ¬ nI c < nI 48) => ?_⟩
  · rw [nI_ltI (by omega) (by decide)] at c1
    iterate 2 refine jw_u rfl ?_
    exact ⟨fun _ => Or.inl rfl, h2 (by omega)⟩
  · rw [nI_ltI (by omega) (by decide)] at c1
    iterate 2 refine jw_u rfl ?_
    refine jw_u rfl ⟨fun (c2 : nI 57 < nI c) => ?_, fun (c2 : ¬ nI 57 < nI c) => ?_⟩
    · rw [nI_ltI (by decide) (by omega)] at c2
      iterate 2 refine jw_u rfl ?_
      exact ⟨fun _ => Or.inl rfl, h2 (by omega)⟩
    · rw [nI_ltI (by decide) (by omega)] at c2
      iterate 3 refine jw_u rfl ?_
      exact ⟨fun _ => Or.inr rfl, h1 (by omega)⟩
theorem c_fail {a b : Int32} (h : Q none (ju (ju x 1 5 a) 1 6 b)) : jo (d + 1) 17 [.ref 1, .int a, .int b] x Q := by
  refine jo_i rfl rfl (Nat.le_of_ble_eq_true rfl) ?_
  iterate 2 refine jw_u rfl ?_
  refine jw_u rfl ⟨fun h => (by cases h), ?_⟩
  iterate 2 refine jw_u rfl ?_
  refine jw_u rfl ⟨fun h => (by cases h), ?_⟩
  refine jw_u rfl ?_
  exact h
theorem fR_f {a b c : Int32} : fR x (ju (ju (ju x 1 4 c) 1 5 a) 1 6 b) := ⟨fun i hi => by rw [ju_oo hi, ju_oo hi, ju_oo hi], by rw [ju_k (by decide), ju_k (by decide), ju_k (by decide)]⟩
theorem fR_4 {c : Int32} : fR x (ju x 1 4 c) := ⟨fun i hi => ju_oo hi, ju_k (by decide)⟩
theorem fR_T {x' : jM} (h : fR x x') (ht : xT x u) : xT x' u := xT_f h.2 (h.1 2 (by decide)) ht
theorem rQ_f5 {a b : Nat} {c : Int32} (h1 : 1 ≤ a) (h2 : a ≤ 3) : rQ (ju (ju (ju x 1 4 c) 1 5 (nI a)) 1 6 (nI b)) u (.inl (a, b)) := ⟨by rw [ju_k (by decide), ju_s], ju_s _ _ _ _, h1, h2⟩
set_option maxHeartbeats 1000000 in
theorem c_readNumber {hi : Int} {g : Int32} {s : aR} (hu : bT u) (hg : g.toInt = hi) (ht : xT x u) (hs : rQ x u s) (h : ∀ x', fR x x' → xT x' u → rQ x' u (nmS u hi s).1 → Q (some (.int (nI (nmS u hi s).2))) x') : jo (d + 3) 15 [.ref 1, .int g] x Q := by
  have b1 := hu.1
  refine jo_i rfl rfl (Nat.le_of_ble_eq_true rfl) ?_
  iterate 2 refine jw_u rfl ?_
  cases s with
  | inl q =>
    obtain ⟨s1, s2, s3, s4⟩ := id hs
    refine jtop s1 ?_
    refine jw_u rfl ⟨fun (c : nI q.1 = 0) => absurd c (nI_ne0 (by omega) (by omega)), fun _ => ?_⟩
    iterate 2 refine jw_u rfl ?_
    exact ⟨fun h => (by cases h), h x ⟨fun _ _ => rfl, rfl⟩ ht hs⟩
  | inr k =>
    obtain ⟨s1, s2, s3⟩ := id hs
    refine jtop s1 ?_
    refine jw_u rfl ⟨fun _ => ?_, fun c => absurd n00 c⟩
    iterate 2 refine jw_u rfl ?_
    refine c_skipBlanks hu ht s2 s3 ?_
    obtain ⟨l1, l2⟩ := sk_le (u := u) s3
    unfold nmS at h
    dsimp only at h
    generalize sk u k = s at h l1 l2 ⊢
    obtain ⟨m1, m2⟩ := fe_le l2
    have et : ∀ i : Nat, xT (ju x 1 4 (nI i)) u := fun i => fR_T fR_4 ht
    have ev := vl_k u s (fe u s - s)
    have bad2 : (3 < fe u s - s ∨ hi < (vl u s (fe u s - s) : Int)) → ¬ fe u s = s → jw (d + 2) kX4_readNumber Q 63 [some (.ref 1), some (.int g), some (.int (nI s)), some (.int (nI (vl u s (fe u s - s))))] [] (ju x 1 4 (nI (fe u s))) := by
      intro h2 h1
      rw [if_neg h1, if_pos h2] at h
      iterate 4 refine jw_u rfl ?_
      refine c_fail ?_
      iterate 2 refine jw_u rfl ?_
      exact ⟨fun h => (by cases h), h _ fR_f (fR_T fR_f ht) (rQ_f5 (a := 2) (b := s) (by decide) (by decide))⟩
    have fin : jw (d + 2) kX4_readNumber Q 43 [some (.ref 1), some (.int g), some (.int (nI s)), some (.int (nI (vl u s (fe u s - s))))] [] (ju x 1 4 (nI (fe u s))) := by
      iterate 2 refine jw_u rfl ?_
      refine jtop (ju_s _ _ _ _) ?_
      refine jw_u rfl ?_
      refine jw_u rfl ⟨fun (c : ¬ nI (fe u s) = nI s) => ?_, fun (c : nI (fe u s) = nI s) => ?_⟩
      · rw [nI_eq (by omega) (by omega)] at c
        iterate 2 refine jw_u rfl ?_
        refine jtop (ju_s _ _ _ _) ?_
        iterate 2 refine jw_u rfl ?_
        refine jtop (pk_sub m1) ?_
        refine jw_u rfl ?_
        refine jw_u rfl ⟨fun (c2 : nI 3 < nI (fe u s - s)) => ?_, fun (c2 : ¬ nI 3 < nI (fe u s - s)) => ?_⟩
        · rw [nI_ltI (by decide) (by omega)] at c2
          exact bad2 (Or.inl c2) c
        · rw [nI_ltI (by decide) (by omega)] at c2
          iterate 2 refine jw_u rfl ?_
          have eg : nI (vl u s (fe u s - s)) ≤ g ↔ (vl u s (fe u s - s) : Int) ≤ hi := by
            rw [Int32.le_iff_toInt_le, nI_toInt (by omega), hg]
          refine jw_u rfl ⟨fun (c3 : nI (vl u s (fe u s - s)) ≤ g) => ?_, fun (c3 : ¬ nI (vl u s (fe u s - s)) ≤ g) => ?_⟩
          · rw [eg] at c3
            rw [if_neg c, if_neg (by omega)] at h
            iterate 2 refine jw_u rfl ?_
            exact ⟨fun h => (by cases h), h _ fR_4 (et _) ⟨by rw [ju_k (by decide)]; exact s1, ju_s _ _ _ _, m2⟩⟩
          · rw [eg] at c3
            exact bad2 (Or.inr (by omega)) c
      · rw [nI_eq (by omega) (by omega)] at c
        rw [if_pos c] at h
        iterate 4 refine jw_u rfl ?_
        refine jtop (ju_s _ _ _ _) ?_
        refine jw_u rfl ?_
        refine c_fail ?_
        rw [c]
        iterate 2 refine jw_u rfl ?_
        exact ⟨fun h => (by cases h), h _ fR_f (fR_T fR_f ht) (rQ_f5 (a := 1) (b := s) (by decide) (by decide))⟩
    have loop : ∀ i, i ≤ u.1 → s ≤ i → fe u i = fe u s → jw (d + 2) kX4_readNumber Q 12 [some (.ref 1), some (.int g), some (.int (nI s)), some (.int (nI (vl u s (i - s))))] [] (ju x 1 4 (nI i)) := by
      refine dn _ u.1 (fun hi1 hi2 => ?_) (fun i hi ih hi1 hi2 => ?_)
      · rw [fe_e (by omega)] at hi2
        rw [← hi2] at fin
        have e1 := (et u.1).1
        iterate 4 refine jw_u rfl ?_
        refine jw_u rfl ⟨fun _ => fin, fun (c : ¬ ju x 1 4 (nI u.1) 1 1 ≤ ju x 1 4 (nI u.1) 1 4) => absurd (by rw [e1, ju_s]; exact Int32.le_refl _) c⟩
      · have e1 := (et i).1
        have b2 := hu.2 i hi
        have le_i : le u i = nI (u.2 i) := by unfold le; rw [if_pos hi]
        iterate 4 refine jw_u rfl ?_
        refine jw_u rfl ⟨fun (c : ju x 1 4 (nI i) 1 1 ≤ ju x 1 4 (nI i) 1 4) => absurd c (by rw [e1, ju_s]; exact nI_ge hi (by omega)), fun _ => ?_⟩
        iterate 2 refine jw_u rfl ?_
        refine c_letterHere hu (et i) (ju_s _ _ _ _) (Nat.le_of_lt hi) ?_
        refine jtop le_i ?_
        refine jw_u rfl ?_
        refine c_isFigure b2 (fun hf => ?_) (fun hf => ?_)
        · refine jw_u rfl ⟨fun c => absurd c n10, fun _ => ?_⟩
          have ih := ih (by omega) ((fe_s hi hf).symm.trans hi2)
          have next : jw (d + 2) kX4_readNumber Q 36 [some (.ref 1), some (.int g), some (.int (nI s)), some (.int (nI (vl u s (i + 1 - s))))] [] (ju x 1 4 (nI i)) := by
            iterate 3 refine jw_u rfl ?_
            refine jtop (ju_s _ _ _ _) ?_
            iterate 2 refine jw_u rfl ?_
            refine jtop (nI_add i 1) ?_
            refine jw_u rfl ⟨fun h => (by cases h), ?_⟩
            refine jw_u rfl ?_
            rw [ju_ju]
            exact ih
          iterate 2 refine jw_u rfl ?_
          refine jtop (ju_s _ _ _ _) ?_
          iterate 2 refine jw_u rfl ?_
          refine jtop (pk_sub hi1) ?_
          refine jw_u rfl ?_
          have ei : i + 1 - s = (i - s) + 1 := by omega
          refine jw_u rfl ⟨fun (c : nI 3 ≤ nI (i - s)) => ?_, fun (c : ¬ nI 3 ≤ nI (i - s)) => ?_⟩
          · rw [nI_leI (by decide) (by omega)] at c
            rw [ei, vl, if_neg (by omega)] at next
            exact next
          · rw [nI_leI (by decide) (by omega)] at c
            rw [ei, vl, if_pos (by omega), show s + (i - s) = i by omega] at next
            iterate 3 refine jw_u rfl ?_
            refine jtop (pk_mul 10 _) ?_
            iterate 2 refine jw_u rfl ?_
            refine c_letterHere hu (et i) (ju_s _ _ _ _) (Nat.le_of_lt hi) ?_
            refine jtop le_i ?_
            refine jw_u rfl ?_
            refine jtop (nI_add _ _) ?_
            iterate 2 refine jw_u rfl ?_
            refine jtop (v' := nI (10 * vl u s (i - s) + (u.2 i - 48) % 10)) (by rw [show jc 48 = nI 48 from rfl, pk_sub (by omega), show 10 * vl u s (i - s) + u.2 i - 48 = 10 * vl u s (i - s) + (u.2 i - 48) % 10 by omega]) ?_
            refine jw_u rfl ?_
            exact next
        · refine jw_u rfl ⟨fun _ => ?_, fun c => absurd n00 c⟩
          rw [fe_e (fun hc => hf hc.2)] at hi2
          rw [← hi2] at fin
          exact fin
    iterate 2 refine jw_u rfl ?_
    refine jtop (ju_s _ _ _ _) ?_
    iterate 3 refine jw_u rfl ?_
    have := loop s l2 (Nat.le_refl _) rfl
    rw [Nat.sub_self] at this
    exact this
theorem c_readEnd {s : aR} (hu : bT u) (ht : xT x u) (hs : rQ x u s) (h : ∀ x', fR x x' → xT x' u → rQ x' u (enS u s) → Q none x') : jo (d + 3) 16 [.ref 1] x Q := by
  have b1 := hu.1
  refine jo_i rfl rfl (Nat.le_of_ble_eq_true rfl) ?_
  iterate 2 refine jw_u rfl ?_
  cases s with
  | inl q =>
    obtain ⟨s1, s2, s3, s4⟩ := id hs
    refine jtop s1 ?_
    refine jw_u rfl ⟨fun (c : nI q.1 = 0) => absurd c (nI_ne0 (by omega) (by omega)), fun _ => ?_⟩
    refine jw_u rfl ?_
    exact h x ⟨fun _ _ => rfl, rfl⟩ ht hs
  | inr k =>
    obtain ⟨s1, s2, s3⟩ := id hs
    refine jtop s1 ?_
    refine jw_u rfl ⟨fun _ => ?_, fun c => absurd n00 c⟩
    iterate 2 refine jw_u rfl ?_
    refine c_skipBlanks hu ht s2 s3 ?_
    obtain ⟨l1, l2⟩ := sk_le (u := u) s3
    unfold enS at h
    dsimp only at h
    generalize sk u k = s at h l1 l2 ⊢
    have et : xT (ju x 1 4 (nI s)) u := fR_T fR_4 ht
    iterate 2 refine jw_u rfl ?_
    refine c_letterHere hu et (ju_s _ _ _ _) l2 ?_
    refine jw_u rfl ?_
    have el : le u s = nI 59 ↔ (s < u.1 ∧ u.2 s = 59) := by
      unfold le
      by_cases hs : s < u.1
      · have b2 := hu.2 s hs
        rw [if_pos hs, nI_eq (by omega) (by decide)]
        exact ⟨fun e => ⟨hs, e⟩, fun e => e.2⟩
      · rw [if_neg hs]
        exact ⟨fun e => absurd e (by decide), fun e => absurd e.1 hs⟩
    refine jw_u rfl ⟨fun (c : le u s = nI 59) => ?_, fun (c : ¬ le u s = nI 59) => ?_⟩
    · rw [el] at c
      rw [if_pos c] at h
      iterate 3 refine jw_u rfl ?_
      refine jtop (ju_s _ _ _ _) ?_
      iterate 2 refine jw_u rfl ?_
      refine jtop (nI_add s 1) ?_
      refine jw_u rfl ⟨fun h => (by cases h), ?_⟩
      refine jw_u rfl ?_
      rw [ju_ju]
      exact h _ fR_4 (fR_T fR_4 ht) ⟨by rw [ju_k (by decide)]; exact s1, ju_s _ _ _ _, c.1⟩
    · rw [el] at c
      rw [if_neg c] at h
      iterate 4 refine jw_u rfl ?_
      refine jtop (ju_s _ _ _ _) ?_
      refine jw_u rfl ?_
      refine c_fail ?_
      refine jw_u rfl ?_
      exact h _ fR_f (fR_T fR_f ht) (rQ_f5 (a := 1) (b := s) (by decide) (by decide))
end CJ
