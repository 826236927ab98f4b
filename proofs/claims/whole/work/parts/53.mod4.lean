/-! THE REFERENCE: sham, love, odds, what is seen, the book -/
theorem bts1 : ∀ i, i < 8 → ∀ s, s < 2 ^ i → ∀ q, q < i → bt (s + 2 ^ i) q = bt s q := by decide +kernel
theorem bts2 : ∀ i, i < 8 → ∀ s, s < 2 ^ i → bt (s + 2 ^ i) i = 1 ∧ bt s i = 0 := by decide +kernel
theorem sn_bt (P : Nat → Bool) : ∀ i, i ≤ 8 → ∀ q, q < i → bt (sn P i) q = if P q = true then 1 else 0
  | 0, _, q, h => absurd h (Nat.not_lt_zero _)
  | i + 1, hi, q, h => by
    have b := sn_lt P i
    rw [sn]
    by_cases e : q = i
    · subst e
      have := bts2 q (by omega) (sn P q) b
      split
      · exact this.1
      · exact this.2
    · have ih := sn_bt P i (by omega) q (by omega)
      split
      · rw [bts1 i (by omega) (sn P i) b q (by omega)]
        exact ih
      · exact ih
theorem s1_le {a b : Nat} (ha : a < 2 ^ 30) (hb : b < 2 ^ 30) : nI a - nI 1 ≤ nI b - nI 1 ↔ a ≤ b := by
  rw [Int32.le_iff_toInt_le, pk_sub_toInt (by omega) (by decide), pk_sub_toInt (by omega) (by decide)]
  omega
section MF
variable {d : Nat} {x : jM} {Q : Option Value → jM → Prop} {C : aC} {S : aS}
theorem m_sham {p : Int32} (hC : mC x C) (hS : mS x 0 (cN C) S) (wc : wC C) (ws : wS (cN C) S) (h : Q (some (.int (fSham C S p))) x) : jo (d + 3) 139 [.ref 121, .int p] x Q := by
  have b3 := wc.2.2.1
  have b2 := wc.2.1
  have c3 := hC.2.2.1
  have c2 := hC.2.1
  have s1 := hS.1
  have w1 := ws.1
  refine jo_i rfl rfl (Nat.le_of_ble_eq_true rfl) ?_
  iterate 3 refine jw_u rfl ?_
  unfold fSham at h
  refine m_isPerson c3 b3 (fun hp => ?_) (fun hp => ?_)
  rotate_left
  · refine jw_u rfl ⟨fun c => absurd n00 c, fun _ => ?_⟩
    rw [if_neg hp] at h
    iterate 2 refine jw_u rfl ?_
    exact ⟨fun h => (by cases h), h⟩
  refine jw_u rfl ⟨fun _ => ?_, fun c => absurd c n10⟩
  rw [if_pos hp] at h
  obtain ⟨j, hj, rfl⟩ := ilt (by omega) hp
  rw [nI_clamp (by omega)] at h
  have bf : ∀ k, k < cN C → ap (sH S k) (cG C) ≤ 27 := fun k hk => ap_lt (w1 k hk) b2
  have bo := bf j hj
  have loop : ∀ i, i ≤ cN C → ∀ g, jw (d + 2) kX7_sham Q 10 [some (.ref 121), some (.int (nI j)), some (.int (nI (al (fun k => ap (sH S k) (cG C)) j 1000001 i) - nI 1)), some (.int (nI i)), g] [] x := by
    refine dn _ (cN C) (fun g => ?_) (fun i hi ih g => ?_)
    · have q1 := al_le (f := fun k => ap (sH S k) (cG C)) (j := j) (z := 1000001) (cN C)
      generalize al (fun k => ap (sH S k) (cG C)) j 1000001 (cN C) = v at q1 h ⊢
      iterate 3 refine jw_u rfl ?_
      refine jw_u rfl ⟨fun _ => ?_, fun (c' : ¬ x 121 5 ≤ nI (cN C)) => absurd (by rw [c3]; exact Int32.le_refl _) c'⟩
      iterate 5 refine jw_u rfl ?_
      refine jtop (nI_add 2 j) ?_
      refine jw_u rfl (jaN (o := 122) (show 2 + j < 648 by omega) (by decide) (s1 j hj) ?_)
      iterate 2 refine jw_u rfl ?_
      refine jtop c2 ?_
      refine jw_u rfl ?_
      refine m_apart (w1 j hj) b2 ?_
      iterate 2 refine jw_u rfl ?_
      have e2 : (nI v - nI 1).toInt = (v : Int) - 1 := pk_sub_toInt (by omega) (by decide)
      unfold shR at h
      refine jw_u rfl ⟨fun (c' : 0 ≤ nI v - nI 1) => ?_, fun (c' : ¬ 0 ≤ nI v - nI 1) => ?_⟩
      · have hv : 1 ≤ v := by
          rw [Int32.le_iff_toInt_le, e2] at c'
          have : (0 : Int32).toInt = 0 := by decide
          omega
        rw [if_neg (by omega)] at h
        obtain ⟨u, rfl⟩ : ∃ u, v = u + 1 := ⟨v - 1, by omega⟩
        rw [s1a]
        iterate 2 refine jw_u rfl ?_
        refine jw_u rfl ⟨fun (c4 : nI (ap (sH S j) (cG C)) ≤ nI u) => ?_, fun (c4 : ¬ nI (ap (sH S j) (cG C)) ≤ nI u) => ?_⟩
        · rw [nI_leI (by omega) (by omega)] at c4
          rw [show ap (sH S j) (cG C) - (u + 1 - 1) = 0 by omega] at h
          iterate 2 refine jw_u rfl ?_
          exact ⟨fun h => (by cases h), h⟩
        · rw [nI_leI (by omega) (by omega)] at c4
          rw [show ap (sH S j) (cG C) - (u + 1 - 1) = ap (sH S j) (cG C) - u by omega] at h
          iterate 3 refine jw_u rfl ?_
          refine jtop (pk_sub (by omega)) ?_
          iterate 2 refine jw_u rfl ?_
          exact ⟨fun h => (by cases h), h⟩
      · have hv : v = 0 := by
          rw [Int32.le_iff_toInt_le, e2] at c'
          have : (0 : Int32).toInt = 0 := by decide
          omega
        rw [if_pos (by omega)] at h
        iterate 3 refine jw_u rfl ?_
        exact ⟨fun h => (by cases h), jret jm1 h⟩
    · have q1 := al_le (f := fun k => ap (sH S k) (cG C)) (j := j) (z := 1000001) i
      have q3 := bf i hi
      have its : ∀ w, w = (if i < j then ap (sH S i) (cG C) else ap (sH S i) (cG C) + 1) → jw (d + 2) kX7_sham Q 30 [some (.ref 121), some (.int (nI j)), some (.int (nI (al (fun k => ap (sH S k) (cG C)) j 1000001 i) - nI 1)), some (.int (nI i)), g] [.int (nI w - nI 1)] x := by
        intro w hw
        have ih := ih (some (.int (nI w - nI 1)))
        rw [nI_s i, al, ← hw] at ih
        have hw28 : w ≤ 28 := by rw [hw]; split <;> omega
        generalize al (fun k => ap (sH S k) (cG C)) j 1000001 i = A at q1 ih ⊢
        iterate 3 refine jw_u rfl ?_
        refine jw_u rfl ⟨fun (c' : nI i = nI j) => ?_, fun (c' : ¬ nI i = nI j) => ?_⟩
        · rw [nI_eq (by omega) (by omega)] at c'
          rw [if_pos c'] at ih
          iterate 4 refine jw_u rfl ?_
          exact ih
        · rw [nI_eq (by omega) (by omega)] at c'
          rw [if_neg c'] at ih
          iterate 2 refine jw_u rfl ?_
          refine jw_u rfl ⟨fun (c4 : nI A - nI 1 ≤ nI w - nI 1) => ?_, fun (c4 : ¬ nI A - nI 1 ≤ nI w - nI 1) => ?_⟩
          · rw [s1_le (by omega) (by omega)] at c4
            rw [Nat.min_eq_left c4] at ih
            iterate 4 refine jw_u rfl ?_
            exact ih
          · rw [s1_le (by omega) (by omega)] at c4
            rw [Nat.min_eq_right (by omega)] at ih
            iterate 5 refine jw_u rfl ?_
            exact ih
      iterate 3 refine jw_u rfl ?_
      refine jw_u rfl ⟨fun (c' : x 121 5 ≤ nI i) => absurd c' (by rw [c3]; exact nI_ge hi (by omega)), fun _ => ?_⟩
      iterate 5 refine jw_u rfl ?_
      refine jtop (nI_add 2 i) ?_
      refine jw_u rfl (jaN (o := 122) (show 2 + i < 648 by omega) (by decide) (s1 i hi) ?_)
      iterate 2 refine jw_u rfl ?_
      refine jtop c2 ?_
      refine jw_u rfl ?_
      refine m_apart (w1 i hi) b2 ?_
      iterate 2 refine jw_u rfl ?_
      refine jw_u rfl ⟨fun (c4 : nI j ≤ nI i) => ?_, fun (c4 : ¬ nI j ≤ nI i) => ?_⟩
      · rw [nI_leI (by omega) (by omega)] at c4
        iterate 2 refine jw_u rfl ?_
        refine jtop (v' := nI (ap (sH S i) (cG C) + 1) - nI 1) (by rw [s1a]; exact pk_sub (b := 0) (Nat.zero_le _)) ?_
        exact its _ (by rw [if_neg (by omega)])
      · rw [nI_leI (by omega) (by omega)] at c4
        iterate 3 refine jw_u rfl ?_
        exact its _ (by rw [if_pos (by omega)])
  iterate 4 refine jw_u rfl ?_
  have := loop 0 (Nat.zero_le _) none
  rw [show nI (al (fun k => ap (sH S k) (cG C)) j 1000001 0) - nI 1 = nI 1000000 from (by decide : nI 1000001 - nI 1 = nI 1000000)] at this
  exact this
theorem m_love {i : Int32} (hC : mC x C) (hS : mS x 0 (cN C) S) (wc : wC C) (ws : wS (cN C) S) (h : Q (some (.int (fLove C S i))) x) : jo (d + 5) 140 [.ref 121, .int i] x Q := by
  have b3 := wc.2.2.1
  have c3 := hC.2.2.1
  have loop : ∀ p, p ≤ cN C → ∀ c g, c ≤ p → Q (some (.int (rsI i c (lvl (cN C) (sH S) p)))) x → jw (d + 4) kX7_love Q 4 [some (.ref 121), some (.int i), some (.int (nI c)), some (.int (nI p)), g] [] x := by
    refine dn _ (cN C) (fun c g hc hq => ?_) (fun p hp ih c g hc hq => ?_)
    · rw [lvl_n (Nat.le_refl _), rsI] at hq
      iterate 3 refine jw_u rfl ?_
      refine jw_u rfl ⟨fun _ => ?_, fun (c' : ¬ x 121 5 ≤ nI (cN C)) => absurd (by rw [c3]; exact Int32.le_refl _) c'⟩
      iterate 2 refine jw_u rfl ?_
      refine jw_u rfl ⟨fun (c' : ¬ i = jc (-1)) => ?_, fun (c' : i = jc (-1)) => ?_⟩
      · rw [jm1] at c'
        rw [if_neg c'] at hq
        iterate 2 refine jw_u rfl ?_
        exact ⟨fun h => (by cases h), jret jm1 hq⟩
      · rw [jm1] at c'
        rw [if_pos c'] at hq
        iterate 3 refine jw_u rfl ?_
        exact ⟨fun h => (by cases h), hq⟩
    · iterate 3 refine jw_u rfl ?_
      refine jw_u rfl ⟨fun (c' : x 121 5 ≤ nI p) => absurd c' (by rw [c3]; exact nI_ge hp (by omega)), fun _ => ?_⟩
      iterate 3 refine jw_u rfl ?_
      refine m_kinOf c3 b3 hS.1 ws.1 hp ?_
      rw [lvl_c hp] at hq
      have skip : lv (cN C) (sH S) p = none → ∀ g, jw (d + 4) kX7_love Q 30 [some (.ref 121), some (.int i), some (.int (nI c)), some (.int (nI p)), g] [] x := by
        intro e g
        rw [e] at hq
        have := ih c g (by omega) hq
        rw [nI_s p] at this
        iterate 2 refine jw_u rfl ?_
        exact this
      cases hk : kn (cN C) (sH S) p with
      | none =>
        refine jtop (v' := -1) (by show oI (kn (cN C) (sH S) p) = _; rw [hk]; rfl) ?_
        iterate 3 refine jw_u rfl ?_
        refine jw_u rfl ⟨fun _ => ?_, fun (c' : ¬ (-1 : Int32) ≤ nI p) => ?_⟩
        · exact skip (by rw [lv, hk]) _
        · exact absurd (Int32.le_trans (by decide : (-1 : Int32) ≤ 0) (nI_pos' (by omega))) c'
      | some q =>
        have hq2 := am_lt hk
        refine jtop (v' := nI q) (by show oI (kn (cN C) (sH S) p) = _; rw [hk]; rfl) ?_
        iterate 3 refine jw_u rfl ?_
        refine jw_u rfl ⟨fun (c' : nI q ≤ nI p) => ?_, fun (c' : ¬ nI q ≤ nI p) => ?_⟩
        · rw [nI_leI (by omega) (by omega)] at c'
          exact skip (by rw [lv, hk]; dsimp only; rw [if_neg (by omega)]) _
        · rw [nI_leI (by omega) (by omega)] at c'
          iterate 3 refine jw_u rfl ?_
          refine m_kinOf c3 b3 hS.1 ws.1 hq2 ?_
          refine jw_u rfl ?_
          have eqo : oI (kn (cN C) (sH S) q) = nI p ↔ kn (cN C) (sH S) q = some p := oI_eq (by omega) (fun b hb => by have := am_lt hb; omega)
          refine jw_u rfl ⟨fun (c2 : ¬ oI (kn (cN C) (sH S) q) = nI p) => ?_, fun (c2 : oI (kn (cN C) (sH S) q) = nI p) => ?_⟩
          · rw [eqo] at c2
            exact skip (by rw [lv, hk]; dsimp only; rw [if_neg (fun hc => c2 hc.2)]) _
          · rw [eqo] at c2
            have e : lv (cN C) (sH S) p = some (p, q) := by rw [lv, hk]; dsimp only; rw [if_pos ⟨by omega, c2⟩]
            rw [e] at hq
            dsimp only at hq
            rw [rsI] at hq
            iterate 2 refine jw_u rfl ?_
            refine jw_u rfl ⟨fun (c4 : ¬ nI c = i) => ?_, fun (c4 : nI c = i) => ?_⟩
            · rw [if_neg c4] at hq
              have := ih (c + 1) (some (.int (nI q))) (by omega) hq
              rw [nI_s p, nI_s c] at this
              iterate 3 refine jw_u rfl ?_
              exact this
            · rw [if_pos c4] at hq
              iterate 3 refine jw_u rfl ?_
              refine jtop (pk_mul 10 p) ?_
              iterate 2 refine jw_u rfl ?_
              refine jtop (nI_add _ _) ?_
              refine jw_u rfl ?_
              exact ⟨fun h => (by cases h), hq⟩
  refine jo_i rfl rfl (Nat.le_of_ble_eq_true rfl) ?_
  iterate 4 refine jw_u rfl ?_
  exact loop 0 (Nat.zero_le _) 0 none (Nat.le_refl _) h
theorem m_odds {p m : Int32} (hC : mC x C) (hS : mS x 0 (cN C) S) (wc : wC C) (ws : wS (cN C) S) (h : Q (some (.int (fOdds C S p m))) x) : jo (d + 5) 127 [.ref 121, .int p, .int m] x Q := by
  obtain ⟨-, -, c3, -, c5, -⟩ := hC
  obtain ⟨s1, s2, s3, s4, -⟩ := hS
  obtain ⟨-, -, b3, -, b5, -⟩ := wc
  obtain ⟨w1, w2, w3, w4, -⟩ := ws
  refine jo_i rfl rfl (Nat.le_of_ble_eq_true rfl) ?_
  iterate 3 refine jw_u rfl ?_
  unfold fOdds at h
  refine m_isPerson c3 b3 (fun hp => ?_) (fun hp => ?_)
  rotate_left
  · refine jw_u rfl ⟨fun c => absurd n00 c, fun _ => ?_⟩
    rw [if_neg hp] at h
    iterate 2 refine jw_u rfl ?_
    exact ⟨fun h => (by cases h), h⟩
  refine jw_u rfl ⟨fun _ => ?_, fun c => absurd c n10⟩
  rw [if_pos hp] at h
  iterate 2 refine jw_u rfl ?_
  refine m_isMark (fun hm => ?_) (fun hm => ?_)
  rotate_left
  · refine jw_u rfl ⟨fun c => absurd n00 c, fun _ => ?_⟩
    rw [if_neg hm] at h
    iterate 2 refine jw_u rfl ?_
    exact ⟨fun h => (by cases h), h⟩
  refine jw_u rfl ⟨fun _ => ?_, fun c => absurd c n10⟩
  rw [if_pos hm] at h
  obtain ⟨j, hj, rfl⟩ := ilt (by omega) hp
  obtain ⟨a, ha, rfl⟩ := ilt (by decide) hm
  rw [nI_clamp (by omega), nI_clamp (by omega)] at h
  iterate 3 refine jw_u rfl ?_
  refine m_whoseIs c3 b3 s1 c5 w1 b5 ha ?_
  have esb : sb (fun j => nr a (sH S j) (cSl C j)) (cN C) = nI (sn (pS C S a) (cN C)) := sb_sn _ _ b3
  refine jtop esb ?_
  have bsn := sn_lt (pS C S a) (cN C)
  have bp2 := p2 b3
  have ebt := sn_bt (pS C S a) (cN C) b3
  generalize sn (pS C S a) (cN C) = s at bsn ebt ⊢
  have g2 := wt_ge C S j
  have g3 := wt_le C S j
  have g4 := oA_le (P := pS C S a) (wt_le C S) (cN C)
  have dv : ∀ k, (¬ lN (pcn (sH S k) (cSl C k) 3) = 0) ∧ lN 1000000 / lN (pcn (sH S k) (cSl C k) 3) = lN (wt C S k) := by
    intro k
    have h1 := pcn_1 (sH S k) (cSl C k) 3
    have h2 := pcn_3 (a := sH S k) (s := cSl C k) (Nat.le_refl 3)
    refine ⟨fun e => ?_, pk_lDiv (by decide) (by omega) (by omega)⟩
    have := (pk_lEQ (a := pcn (sH S k) (cSl C k) 3) (b := 0) (by omega) (by decide)).mp e
    omega
  have np : ∀ k, (nI (pcn (sH S k) (cSl C k) 3)).toInt64 = lN (pcn (sH S k) (cSl C k) 3) := by
    intro k
    have h2 := pcn_3 (a := sH S k) (s := cSl C k) (Nat.le_refl 3)
    exact nI_l (by omega)
  have loop : ∀ i, i ≤ cN C → jw (d + 4) kX7_odds Q 19 [some (.ref 121), some (.int (nI j)), some (.int (nI a)), some (.int (nI s)), some (.long (lN (oA (pS C S a) (wt C S) i))), none, some (.int (nI i))] [] x := by
    refine dn _ (cN C) ?_ (fun i hi ih => ?_)
    · iterate 3 refine jw_u rfl ?_
      refine jw_u rfl ⟨fun _ => ?_, fun (c' : ¬ x 121 5 ≤ nI (cN C)) => absurd (by rw [c3]; exact Int32.le_refl _) c'⟩
      iterate 3 refine jw_u rfl ?_
      refine m_has (by omega) (by omega) (fun hb => ?_) (fun hb => ?_)
      · rw [ebt j hj] at hb
        have hw : pS C S a j = true := by
          by_cases e : pS C S a j = true
          · exact e
          · rw [if_neg e] at hb; cases hb
        have g1 := oA_ge (P := pS C S a) (w := wt C S) hj hw
        rw [if_pos hw] at h
        refine jw_u rfl ⟨fun c => absurd c n10, fun _ => ?_⟩
        iterate 4 refine jw_u rfl ?_
        refine m_marksOf b3 s1 c5 w1 b5 hj ?_
        refine jw_u rfl ?_
        refine jtopL (np j) ?_
        refine jw_u rfl ⟨(dv j).1, ?_⟩
        refine jtopL (dv j).2 ?_
        iterate 3 refine jw_u rfl ?_
        refine jw_u rfl ⟨?_, ?_⟩
        · intro e
          have := (pk_lEQ (a := oA (pS C S a) (wt C S) (cN C)) (b := 0) (by omega) (by decide)).mp e
          omega
        refine jtopL (v' := lN (wt C S j * 1000000 / oA (pS C S a) (wt C S) (cN C))) ?_ ?_
        · show lN _ * lN 1000000 / lN _ = _
          rw [lN_mul, pk_lDiv (a := wt C S j * 1000000) (by omega) (by omega) (by omega)]
        refine jw_u rfl ?_
        refine jtop (lN_i _) ?_
        iterate 2 refine jw_u rfl ?_
        exact ⟨fun h => (by cases h), h⟩
      · rw [ebt j hj] at hb
        rw [if_neg (fun e => by rw [if_pos e] at hb; cases hb)] at h
        refine jw_u rfl ⟨fun _ => ?_, fun c => absurd n00 c⟩
        iterate 2 refine jw_u rfl ?_
        exact ⟨fun h => (by cases h), h⟩
    · rw [nI_s i, oA] at ih
      iterate 3 refine jw_u rfl ?_
      refine jw_u rfl ⟨fun (c' : x 121 5 ≤ nI i) => absurd c' (by rw [c3]; exact nI_ge hi (by omega)), fun _ => ?_⟩
      iterate 4 refine jw_u rfl ?_
      refine m_has (by omega) (by omega) (fun hb => ?_) (fun hb => ?_)
      · rw [ebt i hi] at hb
        have hw : pS C S a i = true := by
          by_cases e : pS C S a i = true
          · exact e
          · rw [if_neg e] at hb; cases hb
        rw [if_pos hw] at ih
        refine jw_u rfl ⟨fun c => absurd c n10, fun _ => ?_⟩
        iterate 4 refine jw_u rfl ?_
        refine m_marksOf b3 s1 c5 w1 b5 hi ?_
        refine jw_u rfl ?_
        refine jtopL (np i) ?_
        refine jw_u rfl ⟨(dv i).1, ?_⟩
        refine jtopL (dv i).2 ?_
        iterate 2 refine jw_u rfl ?_
        refine jtopL (lN_add _ _) ?_
        iterate 3 refine jw_u rfl ?_
        exact ih
      · rw [ebt i hi] at hb
        rw [if_neg (fun e => by rw [if_pos e] at hb; cases hb)] at ih
        refine jw_u rfl ⟨fun _ => ?_, fun c => absurd n00 c⟩
        iterate 2 refine jw_u rfl ?_
        refine jtopL (lN_add _ 0) ?_
        iterate 3 refine jw_u rfl ?_
        exact ih
  iterate 5 refine jw_u rfl ?_
  exact loop 0 (Nat.zero_le _)
theorem m_makersOfSeen {sc : Nat} {sf : Nat → Nat} (hC : mC x C) (hS : mS x 0 (cN C) S) (wc : wC C) (ws : wS (cN C) S) (h7 : x 121 27 = nI sc) (b7 : sc ≤ 8) (hf : ∀ k, k < sc → x 133 k = nI (sf k)) (bf : ∀ k, k < sc → sf k < 1000) (h : Q (some (.int (nI (mb C S sf sc)))) x) : jo (d + 5) 146 [.ref 121] x Q := by
  obtain ⟨-, -, c3, -, c5, -⟩ := hC
  obtain ⟨s1, -⟩ := hS
  obtain ⟨-, -, b3, -, b5, -⟩ := wc
  obtain ⟨w1, -⟩ := ws
  have g2 := p2 b3
  have b9 : 1 ≤ 2 ^ cN C := Nat.one_le_two_pow
  have loop : ∀ i, i ≤ sc → jw (d + 4) kX7_makersOfSeen Q 9 [some (.ref 121), some (.int (nI (mb C S sf i))), some (.int (nI i))] [] x := by
    refine dn _ sc ?_ (fun i hi ih => ?_)
    · iterate 3 refine jw_u rfl ?_
      refine jw_u rfl ⟨fun _ => ?_, fun (c' : ¬ x 121 27 ≤ nI sc) => absurd (by rw [h7]; exact Int32.le_refl _) c'⟩
      iterate 2 refine jw_u rfl ?_
      exact ⟨fun h => (by cases h), h⟩
    · rw [nI_s i] at ih
      iterate 3 refine jw_u rfl ?_
      refine jw_u rfl ⟨fun (c' : x 121 27 ≤ nI i) => absurd c' (by rw [h7]; exact nI_ge hi (by omega)), fun _ => ?_⟩
      iterate 5 refine jw_u rfl ?_
      refine jw_u rfl (jaN (o := 133) (show i < 8 by omega) (by decide) (hf i hi) ?_)
      refine jw_u rfl ?_
      refine m_whoseIs c3 b3 s1 c5 w1 b5 (bf i hi) ?_
      have e : sb (fun j => nr (sf i) (sH S j) (cSl C j)) (cN C) = nI (sn (pS C S (sf i)) (cN C)) := sb_sn _ _ b3
      have g3 := sn_lt (pS C S (sf i)) (cN C)
      refine jtop e ?_
      refine jw_u rfl ?_
      refine jtop (nI_and _ _ (mb_lt b3 i) (by omega)) ?_
      iterate 3 refine jw_u rfl ?_
      exact ih
  refine jo_i rfl rfl (Nat.le_of_ble_eq_true rfl) ?_
  iterate 3 refine jw_u rfl ?_
  refine jtop c3 ?_
  refine jw_u rfl ?_
  refine jtop (shl1 _ (by omega)) ?_
  iterate 2 refine jw_u rfl ?_
  refine jtop (pk_sub (b := 1) b9) ?_
  iterate 3 refine jw_u rfl ?_
  exact loop 0 (Nat.zero_le _)
theorem m_madeBy {sc : Nat} {sf : Nat → Nat} (hC : mC x C) (hS : mS x 0 (cN C) S) (wc : wC C) (ws : wS (cN C) S) (h7 : x 121 27 = nI sc) (b7 : sc ≤ 8) (hf : ∀ k, k < sc → x 133 k = nI (sf k)) (bf : ∀ k, k < sc → sf k < 1000) (h : Q (some (.int (nI (mb C S sf sc)))) x) : jo (d + 6) 147 [.ref 121] x Q := by
  refine jo_i rfl rfl (Nat.le_of_ble_eq_true rfl) ?_
  iterate 2 refine jw_u rfl ?_
  refine m_makersOfSeen hC hS wc ws h7 b7 hf bf ?_
  refine jw_u rfl ?_
  exact ⟨fun h => (by cases h), h⟩
set_option maxHeartbeats 1000000 in
theorem m_lookAt {sc : Nat} {sf : Nat → Nat} (hC : mC x C) (hS : mS x 0 (cN C) S) (wc : wC C) (ws : wS (cN C) S) (h7 : x 121 27 = nI sc) (b7 : sc ≤ 8) (hf : ∀ k, k < sc → x 133 k = nI (sf k)) (bf : ∀ k, k < sc → sf k < 1000) (h : Q (some (.int (fLook C S sc sf))) x) : jo (d + 6) 148 [.ref 121] x Q := by
  have b3 := wc.2.2.1
  have c3 := hC.2.2.1
  have g1 := mb_lt (S := S) (sf := sf) b3 sc
  have g2 := pp_le (mb C S sf sc)
  unfold fLook at h
  refine jo_i rfl rfl (Nat.le_of_ble_eq_true rfl) ?_
  iterate 2 refine jw_u rfl ?_
  refine m_makersOfSeen hC hS wc ws h7 b7 hf bf ?_
  generalize mb C S sf sc = s at g1 g2 h ⊢
  have g3 : ∀ w, lkF C S s w ≤ 8 := fun w => mA_le (fun k => Nat.le_trans (cA_le _ _) b3) 10
  have loop : ∀ i, i ≤ 3 → ∀ g5 g6 g7 g8, jw (d + 5) kX7_lookAt Q 10 [some (.ref 121), some (.int (nI s)), some (.int (oI (lB (lkF C S s) (pp s) i).1)), some (.int (nI (lB (lkF C S s) (pp s) i).2)), some (.int (nI i)), g5, g6, g7, g8] [] x := by
    refine dn _ 3 (fun g5 g6 g7 g8 => ?_) (fun i hi ih g5 g6 g7 g8 => ?_)
    · iterate 2 refine jw_u rfl ?_
      refine jw_u rfl ⟨fun _ => ?_, fun (c' : ¬ nI 3 ≤ nI 3) => absurd (Int32.le_refl _) c'⟩
      iterate 2 refine jw_u rfl ?_
      exact ⟨fun h => (by cases h), h⟩
    · have g4 := lB_le (F := lkF C S s) (z := pp s) i
      have g5' := g3 i
      have lv : ∀ v, v ≤ 10 → ∀ g7 g8, jw (d + 5) kX7_lookAt Q 17 [some (.ref 121), some (.int (nI s)), some (.int (oI (lB (lkF C S s) (pp s) i).1)), some (.int (nI (lB (lkF C S s) (pp s) i).2)), some (.int (nI i)), some (.int (nI (mA (fun f => cA (fun p => bt s p == 1 && dg (sH S p) i == f) (cN C)) v))), some (.int (nI v)), g7, g8] [] x := by
        refine dn _ 10 (fun g7 g8 => ?_) (fun v hv ihv g7 g8 => ?_)
        · iterate 2 refine jw_u rfl ?_
          refine jw_u rfl ⟨fun _ => ?_, fun (c' : ¬ nI 10 ≤ nI 10) => absurd (Int32.le_refl _) c'⟩
          have ih := ih (some (.int (nI (lkF C S s i)))) (some (.int (nI 10))) g7 g8
          rw [nI_s i, lB] at ih
          show jw _ _ _ _ [some (.ref 121), some (.int (nI s)), some (.int (oI (lB (lkF C S s) (pp s) i).1)), some (.int (nI (lB (lkF C S s) (pp s) i).2)), some (.int (nI i)), some (.int (nI (lkF C S s i))), some (.int (nI 10)), g7, g8] _ _
          generalize lkF C S s i = G at g5' ih ⊢
          generalize lB (lkF C S s) (pp s) i = B at g4 ih ⊢
          iterate 2 refine jw_u rfl ?_
          refine jw_u rfl ⟨fun (c' : nI B.2 ≤ nI G) => ?_, fun (c' : ¬ nI B.2 ≤ nI G) => ?_⟩
          · rw [nI_leI (by omega) (by omega)] at c'
            rw [if_neg (by omega)] at ih
            iterate 4 refine jw_u rfl ?_
            refine jw_u rfl ⟨fun _ => ?_, fun (c2 : ¬ nI B.2 ≤ nI G) => absurd (nI_le c' (by omega)) c2⟩
            iterate 4 refine jw_u rfl ?_
            exact ih
          · rw [nI_leI (by omega) (by omega)] at c'
            rw [if_pos (by omega)] at ih
            iterate 5 refine jw_u rfl ?_
            refine jw_u rfl ⟨fun (c2 : nI B.2 ≤ nI G) => absurd c2 (nI_ge (by omega) (by omega)), fun _ => ?_⟩
            iterate 5 refine jw_u rfl ?_
            exact ih
        · have bm : mA (fun f => cA (fun p => bt s p == 1 && dg (sH S p) i == f) (cN C)) v ≤ 8 := mA_le (fun k => Nat.le_trans (cA_le _ _) b3) v
          have bv := Nat.le_trans (cA_le (fun p => bt s p == 1 && dg (sH S p) i == v) (cN C)) b3
          have lp : ∀ p, p ≤ cN C → jw (d + 5) kX7_lookAt Q 24 [some (.ref 121), some (.int (nI s)), some (.int (oI (lB (lkF C S s) (pp s) i).1)), some (.int (nI (lB (lkF C S s) (pp s) i).2)), some (.int (nI i)), some (.int (nI (mA (fun f => cA (fun p => bt s p == 1 && dg (sH S p) i == f) (cN C)) v))), some (.int (nI v)), some (.int (nI (cA (fun p => bt s p == 1 && dg (sH S p) i == v) p))), some (.int (nI p))] [] x := by
            refine dn _ (cN C) ?_ (fun p hp ihp => ?_)
            · iterate 3 refine jw_u rfl ?_
              refine jw_u rfl ⟨fun _ => ?_, fun (c' : ¬ x 121 5 ≤ nI (cN C)) => absurd (by rw [c3]; exact Int32.le_refl _) c'⟩
              have ihv := ihv (some (.int (nI (cA (fun p => bt s p == 1 && dg (sH S p) i == v) (cN C))))) (some (.int (nI (cN C))))
              rw [nI_s v, mA] at ihv
              iterate 2 refine jw_u rfl ?_
              refine jw_u rfl ⟨fun (c' : nI (cA (fun p => bt s p == 1 && dg (sH S p) i == v) (cN C)) ≤ nI (mA (fun f => cA (fun p => bt s p == 1 && dg (sH S p) i == f) (cN C)) v)) => ?_, fun (c' : ¬ nI (cA (fun p => bt s p == 1 && dg (sH S p) i == v) (cN C)) ≤ nI (mA (fun f => cA (fun p => bt s p == 1 && dg (sH S p) i == f) (cN C)) v)) => ?_⟩
              · rw [nI_leI (by omega) (by omega)] at c'
                rw [Nat.max_eq_left c'] at ihv
                iterate 4 refine jw_u rfl ?_
                exact ihv
              · rw [nI_leI (by omega) (by omega)] at c'
                rw [Nat.max_eq_right (by omega)] at ihv
                iterate 5 refine jw_u rfl ?_
                exact ihv
            · have bd : dg (sH S p) i < 10 := dg_lt (ws.1 p hp)
              rw [nI_s p, cA] at ihp
              iterate 3 refine jw_u rfl ?_
              refine jw_u rfl ⟨fun (c' : x 121 5 ≤ nI p) => absurd c' (by rw [c3]; exact nI_ge hp (by omega)), fun _ => ?_⟩
              have no : ¬ (bt s p == 1 && dg (sH S p) i == v) = true → jw (d + 5) kX7_lookAt Q 45 [some (.ref 121), some (.int (nI s)), some (.int (oI (lB (lkF C S s) (pp s) i).1)), some (.int (nI (lB (lkF C S s) (pp s) i).2)), some (.int (nI i)), some (.int (nI (mA (fun f => cA (fun p => bt s p == 1 && dg (sH S p) i == f) (cN C)) v))), some (.int (nI v)), some (.int (nI (cA (fun p => bt s p == 1 && dg (sH S p) i == v) p))), some (.int (nI p))] [.int (nI (cA (fun p => bt s p == 1 && dg (sH S p) i == v) p))] x := by
                intro hn
                rw [if_neg hn] at ihp
                iterate 2 refine jw_u rfl ?_
                refine jtop (nI_add _ 0) ?_
                iterate 3 refine jw_u rfl ?_
                exact ihp
              iterate 4 refine jw_u rfl ?_
              refine m_has g1 (by omega) (fun hb => ?_) (fun hb => ?_)
              · refine jw_u rfl ⟨fun c => absurd c n10, fun _ => ?_⟩
                iterate 5 refine jw_u rfl ?_
                refine jtop (nI_add 2 p) ?_
                refine jw_u rfl (jaN (o := 122) (show 2 + p < 648 by omega) (by decide) (hS.1 p hp) ?_)
                iterate 2 refine jw_u rfl ?_
                refine m_partOf (ws.1 p hp) hi ?_
                refine jw_u rfl ?_
                refine jw_u rfl ⟨fun (c2 : ¬ nI (dg (sH S p) i) = nI v) => ?_, fun (c2 : nI (dg (sH S p) i) = nI v) => ?_⟩
                · rw [nI_eq (by omega) (by omega)] at c2
                  exact no (by simp [c2])
                · rw [nI_eq (by omega) (by omega)] at c2
                  rw [if_pos (by simp [hb, c2])] at ihp
                  iterate 3 refine jw_u rfl ?_
                  refine jtop (nI_add _ 1) ?_
                  iterate 3 refine jw_u rfl ?_
                  exact ihp
              · refine jw_u rfl ⟨fun _ => no (by simp [hb]), fun c => absurd n00 c⟩
          iterate 2 refine jw_u rfl ?_
          refine jw_u rfl ⟨fun (c' : nI 10 ≤ nI v) => absurd c' (nI_ge hv (by decide)), fun _ => ?_⟩
          iterate 4 refine jw_u rfl ?_
          exact lp 0 (Nat.zero_le _)
      iterate 2 refine jw_u rfl ?_
      refine jw_u rfl ⟨fun (c' : nI 3 ≤ nI i) => absurd c' (nI_ge hi (by decide)), fun _ => ?_⟩
      iterate 4 refine jw_u rfl ?_
      exact lv 0 (Nat.zero_le _) g7 g8
  iterate 5 refine jw_u rfl ?_
  refine m_ones g1 ?_
  iterate 3 refine jw_u rfl ?_
  exact loop 0 (Nat.zero_le _) none none none none
theorem m_judge {ec : Nat} {ep em : Nat → Nat} (hC : mC x C) (hS : mS x 0 (cN C) S) (wc : wC C) (ws : wS (cN C) S) (h8 : x 121 29 = nI ec) (b8 : ec ≤ 15) (hp : ∀ k, k < ec → x 134 k = nI (ep k)) (bp : ∀ k, k < ec → ep k < cN C) (hm : ∀ k, k < ec → x 135 k = nI (em k)) (bm : ∀ k, k < ec → em k < 1000) (h : Q (some (.int (fJudge S ec ep em))) x) : jo (d + 1) 151 [.ref 121] x Q := by
  have b3 := wc.2.2.1
  have loop : ∀ i, i ≤ ec → Q (some (.int (on1 (fun k => sH S (ep k) != em k) (ec - i) i))) x → jw d kX7_judge Q 2 [some (.ref 121), some (.int (nI i))] [] x := by
    refine dn _ ec (fun hq => ?_) (fun i hi ih hq => ?_)
    · rw [Nat.sub_self] at hq
      iterate 3 refine jw_u rfl ?_
      refine jw_u rfl ⟨fun _ => ?_, fun (c' : ¬ x 121 29 ≤ nI ec) => absurd (by rw [h8]; exact Int32.le_refl _) c'⟩
      iterate 2 refine jw_u rfl ?_
      exact ⟨fun h => (by cases h), jret jm1 hq⟩
    · have e1 := bp i hi
      have e2 := bm i hi
      have e3 := ws.1 _ e1
      rw [show ec - i = (ec - (i + 1)) + 1 by omega, on1] at hq
      iterate 3 refine jw_u rfl ?_
      refine jw_u rfl ⟨fun (c' : x 121 29 ≤ nI i) => absurd c' (by rw [h8]; exact nI_ge hi (by omega)), fun _ => ?_⟩
      iterate 6 refine jw_u rfl ?_
      refine jw_u rfl (jaN (o := 134) (show i < 15 by omega) (by decide) (hp i hi) ?_)
      refine jw_u rfl ?_
      refine jtop (nI_add 2 _) ?_
      refine jw_u rfl (jaN (o := 122) (show 2 + ep i < 648 by omega) (by decide) (hS.1 _ e1) ?_)
      iterate 3 refine jw_u rfl ?_
      refine jw_u rfl (jaN (o := 135) (show i < 15 by omega) (by decide) (hm i hi) ?_)
      refine jw_u rfl ⟨fun (c' : nI (sH S (ep i)) = nI (em i)) => ?_, fun (c' : ¬ nI (sH S (ep i)) = nI (em i)) => ?_⟩
      · rw [nI_eq (by omega) (by omega)] at c'
        rw [if_neg (by simp [c'])] at hq
        have := ih hq
        rw [nI_s i] at this
        iterate 2 refine jw_u rfl ?_
        exact this
      · rw [nI_eq (by omega) (by omega)] at c'
        rw [if_pos (by simp [c'])] at hq
        iterate 2 refine jw_u rfl ?_
        exact ⟨fun h => (by cases h), hq⟩
  refine jo_i rfl rfl (Nat.le_of_ble_eq_true rfl) ?_
  iterate 2 refine jw_u rfl ?_
  exact loop 0 (Nat.zero_le _) h
end MF
