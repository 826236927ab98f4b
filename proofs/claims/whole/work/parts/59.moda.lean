/-! THE REFERENCE: drift -/
section MO
variable {d : Nat} {x : jM} {Q : Option Value → jM → Prop} {z : aX}
theorem m_draw {s n : Nat} (hs : x 122 26 = nI s) (bs : s < 2147483648) (hn : 0 < n) (hn2 : n < 1000) (h : Q (some (.int (nI (ns s / 65536 % n)))) (ju x 122 26 (nI (ns s)))) : jo (d + 1) 121 [.ref 121, .int (nI n)] x Q := by
  have b := ns_lt s
  refine jo_i rfl rfl (Nat.le_of_ble_eq_true rfl) ?_
  iterate 6 refine jw_u rfl ?_
  refine jw_u rfl (jaN (o := 122) (j := 26) (show 26 < 648 by decide) (by decide) hs ?_)
  iterate 6 refine jw_u rfl ?_
  refine jw_u rfl ⟨by decide, ?_⟩
  refine jw_u rfl ?_
  refine jtop (ns_e bs) ?_
  refine jw_u rfl (jsN (o := 122) (j := 26) (show 26 < 648 by decide) (by decide) ?_)
  iterate 3 refine jw_u rfl ?_
  refine jw_u rfl (jaN (o := 122) (j := 26) (v := nI (ns s)) (show 26 < 648 by decide) (by decide) (ju_s _ _ _ _) ?_)
  refine jw_u rfl ?_
  refine jw_u rfl ⟨by decide, ?_⟩
  refine jtop (pk_div (a := ns s) (d := 65536) (by omega) (by decide) (by decide)) ?_
  refine jw_u rfl ?_
  refine jw_u rfl ⟨nI_ne0 hn (by omega), ?_⟩
  refine jtop (pk_rem (by omega) hn (by omega)) ?_
  refine jw_u rfl ?_
  exact ⟨fun h => (by cases h), h⟩
theorem m_shaken {a w c : Nat} (ha : a < 1000) (hw : w < 3) (hc : c < 2) (h : Q (some (.int (nI (sh a w c)))) x) : jo (d + 2) 122 [.int (nI a), .int (nI w), .int (nI c)] x Q := by
  have bd := dg_lt (k := w) ha
  refine jo_i rfl rfl (Nat.le_of_ble_eq_true rfl) ?_
  iterate 3 refine jw_u rfl ?_
  refine m_partOf ha hw ?_
  have last : jw (d + 1) kX7_shaken Q 14 [some (.int (nI a)), some (.int (nI w)), some (.int (nI c)), some (.int (nI (dg a w))), none] [.int (nI (wo w))] x := by
    unfold sh at h
    iterate 2 refine jw_u rfl ?_
    refine jw_u rfl ⟨fun (c1 : nI c = 0) => ?_, fun (c1 : ¬ nI c = 0) => ?_⟩
    · have e : c = 0 := (nI_eq (by omega) (by decide)).mp (c1.trans n00.symm)
      subst e
      rw [if_neg (by decide)] at h
      refine jw_u rfl ?_
      refine jw_u rfl ⟨fun (c2 : nI (dg a w) ≤ 0) => ?_, fun (c2 : ¬ nI (dg a w) ≤ 0) => ?_⟩
      · rw [← n00, nI_leI (by omega) (by decide)] at c2
        rw [if_neg (by omega)] at h
        iterate 2 refine jw_u rfl ?_
        exact ⟨fun h => (by cases h), h⟩
      · rw [← n00, nI_leI (by omega) (by decide)] at c2
        rw [if_pos (by omega)] at h
        iterate 3 refine jw_u rfl ?_
        refine jtop (pk_sub (wo_le ha hw (by omega))) ?_
        iterate 2 refine jw_u rfl ?_
        exact ⟨fun h => (by cases h), h⟩
    · have e : c = 1 := by
        rcases (show c = 0 ∨ c = 1 by omega) with e | e
        · rw [e] at c1
          exact absurd n00 c1
        · exact e
      subst e
      rw [if_pos rfl] at h
      iterate 2 refine jw_u rfl ?_
      refine jw_u rfl ⟨fun (c2 : nI 9 ≤ nI (dg a w)) => ?_, fun (c2 : ¬ nI 9 ≤ nI (dg a w)) => ?_⟩
      · rw [nI_leI (by decide) (by omega)] at c2
        rw [if_neg (by omega)] at h
        iterate 3 refine jw_u rfl ?_
        exact ⟨fun h => (by cases h), h⟩
      · rw [nI_leI (by decide) (by omega)] at c2
        rw [if_pos (by omega)] at h
        iterate 3 refine jw_u rfl ?_
        refine jtop (nI_add _ _) ?_
        iterate 2 refine jw_u rfl ?_
        exact ⟨fun h => (by cases h), h⟩
  iterate 2 refine jw_u rfl ?_
  refine jw_u rfl ⟨fun (c1 : ¬ nI w = 0) => ?_, fun (c1 : nI w = 0) => ?_⟩
  · have w0 : ¬ w = 0 := fun e => c1 (by rw [e]; decide)
    iterate 2 refine jw_u rfl ?_
    refine jw_u rfl ⟨fun (c2 : ¬ nI w = nI 1) => ?_, fun (c2 : nI w = nI 1) => ?_⟩
    · have w1 : ¬ w = 1 := fun e => c2 (by rw [e])
      refine jw_u rfl ?_
      rw [show wo w = 1 by unfold wo; rw [if_neg w0, if_neg w1]] at last
      exact last
    · rw [nI_eq (by omega) (by decide)] at c2
      iterate 2 refine jw_u rfl ?_
      rw [show wo w = 10 by unfold wo; rw [if_neg w0, if_pos c2]] at last
      exact last
  · have w0 : w = 0 := (nI_eq (by omega) (by decide)).mp (c1.trans n00.symm)
    iterate 2 refine jw_u rfl ?_
    rw [show wo w = 100 by unfold wo; rw [if_pos w0]] at last
    exact last
set_option maxHeartbeats 1000000 in
theorem M_drift {m : Int32} (hx : RM z x) (hw : wX z) (h : ∀ x', RM (fDrift z m).2 x' → (∀ i, i < 121 → x' i = x i) → Q (some (.int (fDrift z m).1)) x') : jo (d + 3) 123 [.ref 121, .int m] x Q := by
  obtain ⟨r1, r2, r3, r4, r5, r6, r7, r8⟩ := id hx
  obtain ⟨w1, w2, w3, w4, -, -, w7, -⟩ := id hw
  have b3 := w1.2.2.1
  refine jo_i rfl rfl (Nat.le_of_ble_eq_true rfl) ?_
  iterate 5 refine jw_u rfl ?_
  refine m_in (a := 1) (b := 60) (by decide) (by decide) (fun hi => ?_) (fun hi => ?_)
  rotate_left
  · rw [show fDrift z m = (kO, z) by unfold fDrift; rw [if_neg (fun hc => hi (yr_iff.mp hc))]] at h
    refine jw_u rfl ⟨fun c => absurd n00 c, fun _ => ?_⟩
    iterate 2 refine jw_u rfl ?_
    exact ⟨fun h => (by cases h), h x hx (fun _ _ => rfl)⟩
  have hm := yr_iff.mpr hi
  obtain ⟨j, hj, rfl⟩ := nI_of2 (n := 60) (M := nI 60) (by decide) (fun hc => by
    rw [Int32.lt_iff_toInt_lt] at hc
    have : (0 : Int32).toInt = 0 := by decide
    omega) hm.2
  have hj1 : 1 ≤ j := by
    rw [nI_toInt (by omega)] at hi
    omega
  refine jw_u rfl ⟨fun _ => ?_, fun c => absurd c n10⟩
  iterate 2 refine jw_u rfl ?_
  refine jtop r1.1 ?_
  refine jw_u rfl ⟨fun (c1 : ¬ nI (cT (gC z)) = 0) => ?_, fun (c1 : nI (cT (gC z)) = 0) => ?_⟩
  rotate_left
  · rw [show fDrift z (nI j) = (kX, z) by unfold fDrift; rw [if_pos hm, if_neg (fun e => by rw [e] at c1; exact n10 c1)]] at h
    iterate 2 refine jw_u rfl ?_
    exact ⟨fun h => (by cases h), h x hx (fun _ _ => rfl)⟩
  have hT : cT (gC z) = 1 := by
    have := w1.1
    rcases (show cT (gC z) = 0 ∨ cT (gC z) = 1 by omega) with e | e
    · rw [e] at c1
      exact absurd n00 c1
    · exact e
  rw [show fDrift z (nI j) = (nI (cA (fun p => (drR z j).2 p != sH (gS z) p) (cN (gC z))), drZ z (drR z j)) by unfold fDrift; rw [if_pos hm, if_pos hT, nI_clamp (by omega)]] at h
  iterate 2 refine jw_u rfl ?_
  refine m_push hx hw (fun x1 hx1 f1 f2 f3 => ?_)
  have hw1 := wX_push hw
  obtain ⟨q1, q2, q3, q4, q5, q6, q7, q8⟩ := id hx1
  have q2h : ∀ k, k < cN (gC z) → x1 122 (0 + 2 + k) = nI (sH (gS z) k) := q2.1
  have q6 : x1 122 26 = nI (gD z) := q6
  iterate 4 refine jw_u rfl ?_
  refine m_copy (a := 0) (b := 27) (by decide) (by decide) (Or.inl (by decide)) (fun x2 g1 g2 g3 => ?_)
  have hT29 : ∀ k, k < cN (gC z) → x2 122 (29 + k) = nI (sH (gS z) k) := fun k hk => by
    rw [show 29 + k = 27 + (2 + k) by omega, g2 (2 + k) (by omega), ← Nat.add_assoc]
    exact q2h k hk
  have e5 : x2 121 5 = nI (cN (gC z)) := by rw [g1 121 (by decide)]; exact q1.2.2.1
  have tail : ∀ x3 v2 v3 v4, (∀ i, i ≠ 122 → x3 i = x2 i) → (∀ m, m ≠ 26 → m < 2 ∨ 10 ≤ m → x3 122 m = x2 122 m) → x3 122 26 = nI (drR z j).1 → (∀ k, k < cN (gC z) → x3 122 (2 + k) = nI ((drR z j).2 k)) → (∀ k, k < cN (gC z) → (drR z j).2 k < 1000) → jw (d + 2) kX7_drift Q 60 [some (.ref 121), some (.int (nI j)), v2, v3, v4] [] x3 := by
    intro x3 v2 v3 v4 t1 t2 t3 t4 t5
    have e6 : x3 121 5 = nI (cN (gC z)) := by rw [t1 121 (by decide)]; exact e5
    have loop : ∀ p, p ≤ cN (gC z) → jw (d + 2) kX7_drift Q 64 [some (.ref 121), some (.int (nI j)), some (.int (nI (cA (fun p => (drR z j).2 p != sH (gS z) p) p))), some (.int (nI p)), v4] [] x3 := by
      refine dn _ (cN (gC z)) ?_ (fun p hp ih => ?_)
      · iterate 3 refine jw_u rfl ?_
        refine jw_u rfl ⟨fun _ => ?_, fun (c' : ¬ x3 121 5 ≤ nI (cN (gC z))) => absurd (by rw [e6]; exact Int32.le_refl _) c'⟩
        iterate 2 refine jw_u rfl ?_
        have fo : ∀ i, i ≠ 122 → x3 i = x1 i := fun i hi => (t1 i hi).trans (g1 i hi)
        have fw : ∀ k, k ≠ 26 → k < 2 ∨ (10 ≤ k ∧ k < 27) ∨ 54 ≤ k → x3 122 k = x1 122 k := fun k h1 h2 => (t2 k h1 (by omega)).trans (g3 k (by omega))
        have e := fo 121 (by decide)
        refine ⟨fun h => (by cases h), h x3 ⟨mC_f (fun k hk => by rw [e]) (fun i a b => fo i (by omega)) q1, ⟨?_, ?_, fun k hk => ?_, fun k hk => ?_, ?_⟩, mH_f b3 hw1.2.2.1.2 (by rw [e]) (fun k a => fw k (by omega) (by omega)) q3, mI_f b3 w4 (fo 123 (by decide)) (fun k a b => fw k (by omega) (by omega)) q4, mN_f (fun k hk => by rw [e]) (fun i a b => fo i (by omega)) q5, t3, by rw [e]; exact q7, mT_f (by rw [e]) (fo 127 (by decide)) q8⟩ (fun i hi => by rw [fo i (by omega), f1 i (by omega) (by omega)])⟩
        · intro k hk
          show x3 122 (0 + 2 + k) = _
          rw [show 0 + 2 + k = 2 + k by omega]
          exact t4 k hk
        · rw [fw (0 + 1) (by omega) (by omega)]; exact q2.2.1
        · have hk : k < sP (gS z) := hk
          have := w2.2.1
          rw [fw (0 + 10 + k) (by omega) (by omega)]; exact q2.2.2.1 k hk
        · have hk : k < sP (gS z) := hk
          have := w2.2.1
          rw [fw (0 + 18 + k) (by omega) (by omega)]; exact q2.2.2.2.1 k hk
        · rw [fw 0 (by omega) (by omega)]; exact q2.2.2.2.2
      · have b4 := t5 p hp
        have b5 := w2.1 p hp
        have e29 : x3 122 (29 + p) = nI (sH (gS z) p) := by rw [t2 (29 + p) (by omega) (by omega)]; exact hT29 p hp
        iterate 3 refine jw_u rfl ?_
        refine jw_u rfl ⟨fun (c' : x3 121 5 ≤ nI p) => absurd c' (by rw [e6]; exact nI_ge hp (by omega)), fun _ => ?_⟩
        iterate 6 refine jw_u rfl ?_
        refine jtop (nI_add 2 p) ?_
        refine jw_u rfl (jaN (o := 122) (show 2 + p < 648 by omega) (by decide) (t4 p hp) ?_)
        iterate 5 refine jw_u rfl ?_
        refine jtop (nI_add 29 p) ?_
        refine jw_u rfl (jaN (o := 122) (show 29 + p < 648 by omega) (by decide) e29 ?_)
        rw [nI_s p, cA] at ih
        refine jw_u rfl ⟨fun (c' : ¬ nI ((drR z j).2 p) = nI (sH (gS z) p)) => ?_, fun (c' : nI ((drR z j).2 p) = nI (sH (gS z) p)) => ?_⟩
        · rw [nI_eq (by omega) (by omega)] at c'
          rw [if_pos (by simp [c'])] at ih
          iterate 2 refine jw_u rfl ?_
          refine jtop (nI_add _ 1) ?_
          iterate 3 refine jw_u rfl ?_
          exact ih
        · rw [nI_eq (by omega) (by omega)] at c'
          rw [if_neg (by simp [c'])] at ih
          iterate 3 refine jw_u rfl ?_
          refine jtop (nI_add _ 0) ?_
          iterate 3 refine jw_u rfl ?_
          exact ih
    iterate 4 refine jw_u rfl ?_
    exact loop 0 (Nat.zero_le _)
  by_cases hN : cN (gC z) = 0
  · have er : drR z j = (gD z, sH (gS z)) := by unfold drR; rw [if_neg (by omega)]
    iterate 2 refine jw_u rfl ?_
    iterate 2 refine jw_u rfl ?_
    refine jw_u rfl ⟨fun (c' : nI j ≤ nI 0) => absurd c' (nI_ge (by omega) (by omega)), fun _ => ?_⟩
    iterate 2 refine jw_u rfl ?_
    refine jtop (v' := nI 0) (by rw [e5, hN]) ?_
    refine jw_u rfl ⟨fun _ => ?_, fun (c' : ¬ nI 0 ≤ 0) => absurd (by decide) c'⟩
    exact tail x2 _ _ _ (fun _ _ => rfl) (fun _ _ _ => rfl) (by rw [er, g3 26 (by omega)]; exact q6) (fun k hk => by omega) (fun k hk => by omega)
  · have h0 : 0 < cN (gC z) := by omega
    have er : drR z j = skN (cN (gC z)) j (gD z, sH (gS z)) := by unfold drR; rw [if_pos h0]
    have bj := skN_lt h0 j (gD z, sH (gS z)) w7 w2.1
    rw [← er] at bj
    have loop : ∀ i, i ≤ j → ∀ x3 s f v3 v4, (∀ i, i ≠ 122 → x3 i = x2 i) → (∀ m, m ≠ 26 → m < 2 ∨ 10 ≤ m → x3 122 m = x2 122 m) → x3 122 26 = nI s → (∀ k, k < cN (gC z) → x3 122 (2 + k) = nI (f k)) → s < 2147483648 → (∀ k, k < cN (gC z) → f k < 1000) → skN (cN (gC z)) (j - i) (s, f) = drR z j → jw (d + 2) kX7_drift Q 21 [some (.ref 121), some (.int (nI j)), some (.int (nI i)), v3, v4] [] x3 := by
      refine dn _ j (fun x3 s f v3 v4 t1 t2 t3 t4 t5 t6 t7 => ?_) (fun i hi ih x3 s f v3 v4 t1 t2 t3 t4 t5 t6 t7 => ?_)
      · rw [Nat.sub_self, skN_0] at t7
        iterate 2 refine jw_u rfl ?_
        refine jw_u rfl ⟨fun _ => ?_, fun (c' : ¬ nI j ≤ nI j) => absurd (Int32.le_refl _) c'⟩
        exact tail x3 _ _ _ t1 t2 (by rw [← t7]; exact t3) (fun k hk => by rw [← t7]; exact t4 k hk) bj.2
      · have e6 : x3 121 5 = nI (cN (gC z)) := by rw [t1 121 (by decide)]; exact e5
        have p1 := ns_lt s
        have p2' := ns_lt (ns s)
        have p3 := ns_lt (ns (ns s))
        have bs1 := s1k_lt (s := s) h0 t6
        rw [show j - i = (j - (i + 1)) + 1 by omega, skN_s] at t7
        have t7 : skN (cN (gC z)) (j - (i + 1)) (s1k s (cN (gC z)) f) = drR z j := t7
        have es : s1k s (cN (gC z)) f = (ns (ns (ns s)), upN f (ns s / 65536 % cN (gC z)) (sh (f (ns s / 65536 % cN (gC z))) (ns (ns s) / 65536 % 3) (ns (ns (ns s)) / 65536 % 2))) := rfl
        rw [es] at t7 bs1
        have bp : ns s / 65536 % cN (gC z) < cN (gC z) := Nat.mod_lt _ h0
        have bw : ns (ns s) / 65536 % 3 < 3 := Nat.mod_lt _ (by decide)
        have bc : ns (ns (ns s)) / 65536 % 2 < 2 := Nat.mod_lt _ (by decide)
        iterate 2 refine jw_u rfl ?_
        refine jw_u rfl ⟨fun (c' : nI j ≤ nI i) => absurd c' (nI_ge hi (by omega)), fun _ => ?_⟩
        iterate 2 refine jw_u rfl ?_
        refine jtop e6 ?_
        refine jw_u rfl ⟨fun (c' : nI (cN (gC z)) ≤ 0) => absurd c' (by rw [← n00]; exact nI_ge h0 (by omega)), fun _ => ?_⟩
        iterate 3 refine jw_u rfl ?_
        refine jtop e6 ?_
        refine jw_u rfl ?_
        refine m_draw t3 t5 h0 (by omega) ?_
        generalize ns s / 65536 % cN (gC z) = p at bp t7 bs1 ⊢
        iterate 4 refine jw_u rfl ?_
        refine m_draw (n := 3) (ju_s x3 122 26 _) p1 (by decide) (by decide) ?_
        generalize ns (ns s) / 65536 % 3 = w at bw t7 bs1 ⊢
        iterate 6 refine jw_u rfl ?_
        refine jtop (nI_add 2 p) ?_
        iterate 5 refine jw_u rfl ?_
        refine jtop (nI_add 2 p) ?_
        refine jw_u rfl (jaN (o := 122) (j := 2 + p) (v := nI (f p)) (show 2 + p < 648 by omega) (by decide) (by rw [ju_k (by omega), ju_k (by omega)]; exact t4 p bp) ?_)
        iterate 4 refine jw_u rfl ?_
        refine m_draw (n := 2) (ju_s _ 122 26 _) p2' (by decide) (by decide) ?_
        generalize ns (ns (ns s)) / 65536 % 2 = c at bc t7 bs1 ⊢
        have bfp := t6 p bp
        have fin : ∀ v, v = nI (sh (f p) w c) → jw (d + 2) kX7_drift Q 57 [some (.ref 121), some (.int (nI j)), some (.int (nI i)), some (.int (nI p)), some (.int (nI w))] [.int v, .int (nI (2 + p)), .ref 122] (ju (ju (ju x3 122 26 (nI (ns s))) 122 26 (nI (ns (ns s)))) 122 26 (nI (ns (ns (ns s))))) := by
          intro v hv
          refine jw_u rfl (jsN (o := 122) (j := 2 + p) (show 2 + p < 648 by omega) (by decide) ?_)
          iterate 2 refine jw_u rfl ?_
          have := ih (ju (ju (ju (ju x3 122 26 (nI (ns s))) 122 26 (nI (ns (ns s)))) 122 26 (nI (ns (ns (ns s))))) 122 (2 + p) v) (ns (ns (ns s))) (upN f p (sh (f p) w c)) (some (.int (nI p))) (some (.int (nI w))) (fun i hi => by rw [ju_oo hi, ju_oo hi, ju_oo hi, ju_oo hi]; exact t1 i hi) (fun m h1 h2 => by rw [ju_k (by omega), ju_k h1, ju_k h1, ju_k h1]; exact t2 m h1 h2) (by rw [ju_k (by omega), ju_s]) (fun k hk => by
            by_cases e : k = p
            · subst e
              rw [ju_s, upN_s]
              exact hv
            · rw [ju_k (by omega), ju_k (by omega), ju_k (by omega), ju_k (by omega), upN_o e]
              exact t4 k hk) bs1.1 bs1.2 t7
          rw [nI_s i] at this
          exact this
        refine jw_u rfl ?_
        refine jw_u rfl ⟨fun (c1 : ¬ nI c = nI 1) => ?_, fun (c1 : nI c = nI 1) => ?_⟩
        · rw [nI_eq (by omega) (by decide)] at c1
          have e : c = 0 := by omega
          subst e
          iterate 2 refine jw_u rfl ?_
          refine m_shaken (a := f p) (w := w) (c := 0) bfp bw (by decide) ?_
          exact fin _ rfl
        · rw [nI_eq (by omega) (by decide)] at c1
          subst c1
          iterate 3 refine jw_u rfl ?_
          refine m_shaken (a := f p) (w := w) (c := 1) bfp bw (by decide) ?_
          exact fin _ rfl
    iterate 2 refine jw_u rfl ?_
    exact loop 0 (Nat.zero_le _) x2 (gD z) (sH (gS z)) _ _ (fun _ _ => rfl) (fun _ _ _ => rfl) (by rw [g3 26 (by omega)]; exact q6) (fun k hk => by rw [g3 (2 + k) (by omega)]; have := q2h k hk; rw [show 0 + 2 + k = 2 + k by omega] at this; exact this) w7 w2.1 er.symm
end MO
