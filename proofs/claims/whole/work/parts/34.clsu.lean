/-! THE CLASS: tree, heir, sham, turned, one -/
theorem tA_le {hd : Nat → Nat} {n : Nat} (bh : ∀ k, k < n → hd k < 1000) : ∀ t, tA hd n t ≤ t * 27
  | 0 => Nat.zero_le _
  | t + 1 => by
    have h1 := tA_le bh t
    rw [tA]
    cases hx : nx (tG hd n t) hd n with
    | none =>
      show tA hd n t + 0 ≤ _
      omega
    | some a =>
      obtain ⟨g1, g2, -⟩ := nx_some hx
      have := ap_lt (bh a.1 (by omega)) (bh a.2 g2)
      show tA hd n t + ap (hd a.1) (hd a.2) ≤ _
      omega
theorem sub1_le {n t : Nat} (hn : n ≤ 8) (ht : t ≤ 8) : nI n - nI 1 ≤ nI t ↔ n ≤ t + 1 := by
  rw [Int32.le_iff_toInt_le, nI_toInt (by omega)]
  have : (nI n - nI 1).toInt = (n : Int) - 1 := pk_sub_toInt (by omega) (by decide)
  rw [this]
  omega
section CX
variable {d : Nat} {x : jM} {Q : Option Value → jM → Prop} {C : aC} {S : aS}
set_option maxHeartbeats 1000000 in
theorem c_tree {i : Int32} (hC : xC x 11 C) (hS : xS x 15 (cN C) S) (wc : wC C) (ws : wS (cN C) S) (h : ∀ x', (∀ k, k ≠ 120 → x' k = x k) → Q (some (.int (fTree C S i))) x') : jo (d + 3) 40 [.ref 0, .int i] x Q := by
  have b3 := wc.2.2.1
  have c3 := hC.2.2.1
  have s1 := hS.1
  have w1 := ws.1
  have main : ∀ t, t ≤ cN C - 1 → ∀ x1 g, (∀ k, k ≠ 120 → x1 k = x k) → (∀ k, k < cN C → x1 120 k = nI (tG (sH S) (cN C) t k)) → (∀ t', t' < t → ¬ nI t' = i) → jw (d + 2) kX6_tree Q 18 [some (.ref 0), some (.int i), some (.int (nI (tA (sH S) (cN C) t))), some (.int (nI t)), g] [] x1 := by
    refine dn _ (cN C - 1) (fun x1 g e1 e2 hne => ?_) (fun t ht ih x1 g e1 e2 hne => ?_)
    · have e3 : x1 11 2 = nI (cN C) := by rw [e1 11 (by decide)]; exact c3
      iterate 4 refine jw_u rfl ?_
      refine jtop e3 ?_
      iterate 2 refine jw_u rfl ?_
      refine jw_u rfl ⟨fun _ => ?_, fun (c' : ¬ nI (cN C) - nI 1 ≤ nI (cN C - 1)) => absurd ((sub1_le b3 (by omega)).mpr (by omega)) c'⟩
      iterate 2 refine jw_u rfl ?_
      have h := h x1 e1
      unfold fTree at h
      refine jw_u rfl ⟨fun (c' : ¬ i = jc (-1)) => ?_, fun (c' : i = jc (-1)) => ?_⟩
      · rw [jm1] at c'
        rw [if_neg c', if_neg (fun hc => by
          obtain ⟨j, hj, rfl⟩ := ilt (by omega) hc
          exact hne j hj rfl)] at h
        iterate 2 refine jw_u rfl ?_
        exact ⟨fun h => (by cases h), jret jm1 h⟩
      · rw [jm1] at c'
        rw [if_pos c'] at h
        iterate 3 refine jw_u rfl ?_
        exact ⟨fun h => (by cases h), h⟩
    · have e3 : x1 11 2 = nI (cN C) := by rw [e1 11 (by decide)]; exact c3
      have e4 : ∀ k, k < cN C → x1 16 k = nI (sH S k) := fun k hk => by rw [e1 16 (by decide)]; exact s1 k hk
      obtain ⟨a, ha⟩ := tG_next (sH S) (n := cN C) (t := t) (by omega)
      obtain ⟨g1, g2, g3⟩ := nx_some ha
      have g4 := tA_le w1 t
      have g5 := ap_lt (w1 a.1 (by omega)) (w1 a.2 g2)
      iterate 4 refine jw_u rfl ?_
      refine jtop e3 ?_
      iterate 2 refine jw_u rfl ?_
      refine jw_u rfl ⟨fun (c' : nI (cN C) - nI 1 ≤ nI t) => absurd ((sub1_le b3 (by omega)).mp c') (by omega), fun _ => ?_⟩
      iterate 2 refine jw_u rfl ?_
      refine c_nextOfTree (G := tG (sH S) (cN C) t) e3 b3 e4 w1 e2 (fun k hk => tG_lt (sH S) (by omega) hk) ?_
      refine jtop (v' := nI (10 * a.1 + a.2)) (by rw [ha]; rfl) ?_
      iterate 3 refine jw_u rfl ?_
      refine jw_u rfl ⟨fun _ => ?_, fun (c' : nI (10 * a.1 + a.2) = jc (-1)) => ?_⟩
      rotate_left
      · rw [jm1] at c'
        have : nI (10 * a.1 + a.2) < 0 := by rw [c']; decide
        exact absurd this (nI_pos (by omega))
      iterate 2 refine jw_u rfl ?_
      refine jw_u rfl ⟨fun (c' : ¬ nI t = i) => ?_, fun (c' : nI t = i) => ?_⟩
      · iterate 6 refine jw_u rfl ?_
        refine jw_u rfl ⟨by decide, ?_⟩
        refine jtop (v' := nI a.1) (by show nI (10 * a.1 + a.2) / nI 10 = _; rw [pk_div (by omega) (by decide) (by decide)]; congr 1; omega) ?_
        refine jw_u rfl (jaN (show a.1 < 8 by omega) (by decide) (e4 a.1 (by omega)) ?_)
        iterate 5 refine jw_u rfl ?_
        refine jw_u rfl ⟨by decide, ?_⟩
        refine jtop (v' := nI a.2) (by show nI (10 * a.1 + a.2) - nI (10 * a.1 + a.2) / nI 10 * nI 10 = _; rw [pk_rem (by omega) (by decide) (by decide)]; congr 1; omega) ?_
        refine jw_u rfl (jaN (show a.2 < 8 by omega) (by decide) (e4 a.2 g2) ?_)
        refine jw_u rfl ?_
        refine c_apart (w1 a.1 (by omega)) (w1 a.2 g2) ?_
        refine jw_u rfl ?_
        refine jtop (nI_add _ _) ?_
        iterate 4 refine jw_u rfl ?_
        refine jw_u rfl ⟨by decide, ?_⟩
        refine jtop (v' := nI a.1) (by show nI (10 * a.1 + a.2) / nI 10 = _; rw [pk_div (by omega) (by decide) (by decide)]; congr 1; omega) ?_
        iterate 2 refine jw_u rfl ?_
        refine jw_u rfl ⟨by decide, ?_⟩
        refine jtop (v' := nI a.2) (by show nI (10 * a.1 + a.2) - nI (10 * a.1 + a.2) / nI 10 * nI 10 = _; rw [pk_rem (by omega) (by decide) (by decide)]; congr 1; omega) ?_
        refine jw_u rfl ?_
        refine c_joinGroups (G := tG (sH S) (cN C) t) e3 b3 e2 (fun k hk => tG_lt (sH S) (by omega) hk) (by omega) g2 (fun x2 f1 f2 => ?_)
        iterate 2 refine jw_u rfl ?_
        have := ih x2 (some (.int (nI (10 * a.1 + a.2)))) (fun k hk => (f1 k hk).trans (e1 k hk)) (fun k hk => by rw [f2 k hk, tG, ha]) (fun t' ht' => by
          by_cases e : t' = t
          · rw [e]; exact c'
          · exact hne t' (by omega))
        rw [nI_s t, tA, ha] at this
        exact this
      · have h := h x1 e1
        unfold fTree at h
        rw [if_neg (fun e => by
          rw [e] at c'
          have : nI t < 0 := by rw [c']; decide
          exact absurd this (nI_pos (by omega))), if_pos (by rw [← c']; exact ilt2 (by omega) ht), ← c', nI_clamp (by omega), ha] at h
        iterate 2 refine jw_u rfl ?_
        exact ⟨fun h => (by cases h), h⟩
  have first : ∀ p, p ≤ cN C → ∀ x1 g3 g4, (∀ k, k ≠ 120 → x1 k = x k) → (∀ k, k < p → x1 120 k = nI k) → jw (d + 2) kX6_tree Q 2 [some (.ref 0), some (.int i), some (.int (nI p)), g3, g4] [] x1 := by
    refine dn _ (cN C) (fun x1 g3 g4 e1 e2 => ?_) (fun p hp ih x1 g3 g4 e1 e2 => ?_)
    · have e3 : x1 11 2 = nI (cN C) := by rw [e1 11 (by decide)]; exact c3
      iterate 4 refine jw_u rfl ?_
      refine jw_u rfl ⟨fun _ => ?_, fun (c' : ¬ x1 11 2 ≤ nI (cN C)) => absurd (by rw [e3]; exact Int32.le_refl _) c'⟩
      iterate 4 refine jw_u rfl ?_
      exact main 0 (Nat.zero_le _) x1 g4 e1 e2 (fun t' ht' => absurd ht' (Nat.not_lt_zero _))
    · have e3 : x1 11 2 = nI (cN C) := by rw [e1 11 (by decide)]; exact c3
      iterate 4 refine jw_u rfl ?_
      refine jw_u rfl ⟨fun (c' : x1 11 2 ≤ nI p) => absurd c' (by rw [e3]; exact nI_ge hp (by omega)), fun _ => ?_⟩
      iterate 4 refine jw_u rfl ?_
      refine jw_u rfl (jsN (show p < 8 by omega) (by decide) ?_)
      iterate 2 refine jw_u rfl ?_
      have := ih (ju x1 120 p (nI p)) g3 g4 (fun k hk => by rw [ju_oo hk]; exact e1 k hk) (fun k hk => by
        by_cases e : k = p
        · subst e; exact ju_s _ _ _ _
        · rw [ju_k e]; exact e2 k (by omega))
      rw [nI_s p] at this
      exact this
  refine jo_i rfl rfl (Nat.le_of_ble_eq_true rfl) ?_
  iterate 2 refine jw_u rfl ?_
  exact first 0 (Nat.zero_le _) x none none (fun _ _ => rfl) (fun k hk => absurd hk (Nat.not_lt_zero _))
theorem c_heir {m : Int32} (hC : xC x 11 C) (hS : xS x 15 (cN C) S) (wc : wC C) (ws : wS (cN C) S) (h : ∀ x', (∀ k, k < 19 ∨ 22 < k → x' k = x k) → Q (some (.int (fHeir C S m))) x') : jo (d + 4) 46 [.ref 0, .int m] x Q := by
  obtain ⟨-, c2, c3, -, c5, c6, -⟩ := hC
  obtain ⟨-, b2, b3, -, b5, b6, -⟩ := wc
  obtain ⟨w1, w2, w3, w4, w5⟩ := ws
  refine jo_i rfl rfl (Nat.le_of_ble_eq_true rfl) ?_
  refine jw_u rfl ?_
  have out : ¬ (0 ≤ m ∧ m < nI 61) → jw (d + 3) kX6_heir Q 5 [some (.ref 0), some (.int m), none, none, none, none] [] x := by
    intro hm
    have h := h x (fun _ _ => rfl)
    unfold fHeir at h
    rw [if_neg hm] at h
    iterate 2 refine jw_u rfl ?_
    exact ⟨fun h => (by cases h), h⟩
  refine jw_u rfl ⟨fun (c : m < 0) => out (fun hc => absurd hc.1 (by simpa using c)), fun (c : ¬ m < 0) => ?_⟩
  iterate 2 refine jw_u rfl ?_
  refine jw_u rfl ⟨fun (c' : m ≤ nI 60) => ?_, fun (c' : ¬ m ≤ nI 60) => out (fun hc => ?_)⟩
  rotate_left
  · obtain ⟨j, hj, rfl⟩ := ilt (by decide) hc
    exact c' (nI_le (by omega) (by decide))
  obtain ⟨j, hj, rfl⟩ := nI_of2 (n := 60) (by decide) c c'
  have hm : 0 ≤ nI j ∧ nI j < nI 61 := ilt2 (by decide) (by omega)
  iterate 5 refine jw_u rfl ?_
  refine c_takeS stI_19 stI_15 ?_
  have hX := xS_cp (x := x) (o := 19) (s := 15) (n := cN C) (Or.inr (by decide)) b3 w2 hS
  have fr : ∀ k, k < 19 ∨ 22 < k → cpS x 19 15 k = x k := fun k hk => cpS_f (by omega)
  generalize cpS x 19 15 = x1 at hX fr ⊢
  have f11 := fr 11 (by omega)
  iterate 5 refine jw_u rfl ?_
  refine c_passYears (o := 19) (hd := sH S) (dr := cDr C) (Or.inr rfl) (by omega) (Nat.le_trans w5 (by decide)) (by rw [f11]; exact c3) b3 (by rw [f11]; exact c2) b2 (fun k hk => by rw [fr 13 (by omega)]; exact c6 k hk) b6 hX.1 w1 hX.2.2.2.2 (fun x2 y1 y2 y3 y4 => ?_)
  have fr2 : ∀ k, k < 19 ∨ 22 < k → x2 k = x k := fun k hk => by rw [y1 k (by omega) (by omega)]; exact fr k hk
  have h := h x2 fr2
  unfold fHeir at h
  rw [if_pos hm, nI_clamp (by omega)] at h
  have e3 : x2 11 2 = nI (cN C) := by rw [fr2 11 (by omega)]; exact c3
  have e2 : x2 11 1 = nI (cG C) := by rw [fr2 11 (by omega)]; exact c2
  have b1 : ∀ k, k < cN C → ya (cDr C k) (cG C) (sY S) (sH S k) j < 1000 := fun k hk => ya_lt (w1 k hk) b2 j
  have bf : ∀ k, k < cN C → ap (ya (cDr C k) (cG C) (sY S) (sH S k) j) (cG C) ≤ 27 := fun k hk => ap_lt (b1 k hk) b2
  generalize hf : (fun p => ap (ya (cDr C p) (cG C) (sY S) (sH S p) j) (cG C)) = f at h
  have hfv : ∀ k, ap (ya (cDr C k) (cG C) (sY S) (sH S k) j) (cG C) = f k := fun k => by rw [← hf]
  have loop : ∀ i, i ≤ cN C → ∀ g, jw (d + 3) kX6_heir Q 23 [some (.ref 0), some (.int (nI j)), some (.int (oI (am f (fun _ => true) i))), some (.int (nI (oF f 100 (am f (fun _ => true) i)))), some (.int (nI i)), g] [] x2 := by
    have bf' : ∀ k, k < cN C → f k ≤ 27 := fun k hk => by rw [← hfv]; exact bf k hk
    refine dn _ (cN C) (fun g => ?_) (fun i hi ih g => ?_)
    · iterate 4 refine jw_u rfl ?_
      refine jw_u rfl ⟨fun _ => ?_, fun (c' : ¬ x2 11 2 ≤ nI (cN C)) => absurd (by rw [e3]; exact Int32.le_refl _) c'⟩
      iterate 2 refine jw_u rfl ?_
      exact ⟨fun h => (by cases h), h⟩
    · have q1 := oF_lt (f := f) (ok := fun _ => true) (Nat.le_of_lt hi) bf'
      have q2 := bf' i hi
      have ih := ih (some (.int (nI (f i))))
      rw [nI_s i] at ih
      iterate 4 refine jw_u rfl ?_
      refine jw_u rfl ⟨fun (c' : x2 11 2 ≤ nI i) => absurd c' (by rw [e3]; exact nI_ge hi (by omega)), fun _ => ?_⟩
      iterate 4 refine jw_u rfl ?_
      refine jw_u rfl (jaN (show i < 8 by omega) (by decide) (y4 i hi) ?_)
      iterate 3 refine jw_u rfl ?_
      refine jtop e2 ?_
      refine jw_u rfl ?_
      refine c_apart (b1 i hi) b2 ?_
      refine jtop (v' := nI (f i)) (by rw [hfv]) ?_
      iterate 3 refine jw_u rfl ?_
      refine jw_u rfl ⟨fun (c' : nI (oF f 100 _) ≤ nI (f i)) => ?_, fun (c' : ¬ nI (oF f 100 _) ≤ nI (f i)) => ?_⟩
      · rw [nI_leI (by omega) (by omega)] at c'
        have e := am_no (f := f) (ok := fun _ => true) (i := i) (Or.inr (oF_le (by omega) c'))
        rw [e] at ih
        iterate 2 refine jw_u rfl ?_
        exact ih
      · rw [nI_leI (by omega) (by omega)] at c'
        have e := am_yes (f := f) (ok := fun _ => true) (i := i) rfl (oF_gt (Nat.not_le.mp c'))
        rw [e] at ih
        iterate 6 refine jw_u rfl ?_
        exact ih
  iterate 6 refine jw_u rfl ?_
  exact loop 0 (Nat.zero_le _) none
end CX
