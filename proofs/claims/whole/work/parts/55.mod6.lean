/-! THE REFERENCE: the tree -/
def oA1 (o : Option (Nat × Nat)) : Int32 := match o with
  | none => jc (-1)
  | some a => nI a.1
def oA2 (o : Option (Nat × Nat)) : Int32 := match o with
  | none => jc (-1)
  | some a => nI a.2
theorem lI_lz {hd : Nat → Nat} {n : Nat} {o : Option (Nat × Nat)} (bh : ∀ k, k < n → hd k < 1000) (hv : ∀ a, o = some a → a.1 < n ∧ a.2 < n) : lI hd 1000000 o ≤ 1000000 := by
  cases o with
  | none => exact Nat.le_refl _
  | some a =>
    obtain ⟨h1, h2⟩ := hv a rfl
    have := ap_lt (bh _ h1) (bh _ h2)
    show ap _ _ ≤ 1000000
    omega
section MI
variable {d : Nat} {x : jM} {Q : Option Value → jM → Prop} {C : aC} {S : aS}
set_option maxHeartbeats 2000000 in
theorem m_treeS {n : Nat} {hd G : Nat → Nat} {i : Int32} {A t : Nat} (hn : x 121 5 = nI n) (h8 : n ≤ 8) (hh : ∀ k, k < n → x 122 (2 + k) = nI (hd k)) (bh : ∀ k, k < n → hd k < 1000) (hG : ∀ k, k < n → x 132 k = nI (G k)) (bG : ∀ k, k < n → G k < n)
    (h : ∀ g8 g9, jw (d + 3) kX7_tree Q 87 [some (.ref 121), some (.int i), some (.int (nI A)), some (.int (nI t)), some (.int (oA1 (nx G hd n))), some (.int (oA2 (nx G hd n))), some (.int (nI (lI hd 1000000 (nx G hd n)))), some (.int (nI n)), g8, g9] [] x) :
    ∀ g8 g9, jw (d + 3) kX7_tree Q 31 [some (.ref 121), some (.int i), some (.int (nI A)), some (.int (nI t)), some (.int (jc (-1))), some (.int (jc (-1))), some (.int (nI 1000000)), some (.int (nI 0)), g8, g9] [] x := by
  have loop : ∀ p, p ≤ n → ∀ o g8 g9, (∀ a, o = some a → a.1 < n ∧ a.2 < n) → (rsp n p).foldl (ts G hd) o = nx G hd n → jw (d + 3) kX7_tree Q 31 [some (.ref 121), some (.int i), some (.int (nI A)), some (.int (nI t)), some (.int (oA1 o)), some (.int (oA2 o)), some (.int (nI (lI hd 1000000 o))), some (.int (nI p)), g8, g9] [] x := by
    refine dn _ n (fun o g8 g9 hv hq => ?_) (fun p hp ih o g8 g9 hv hq => ?_)
    · rw [rsp_n (Nat.le_refl _)] at hq
      have hq : o = nx G hd n := hq
      subst hq
      iterate 3 refine jw_u rfl ?_
      refine jw_u rfl ⟨fun _ => h g8 g9, fun (c' : ¬ x 121 5 ≤ nI n) => absurd (by rw [hn]; exact Int32.le_refl _) c'⟩
    · have inner : ∀ q, q ≤ n → p < q → ∀ o g9, (∀ a, o = some a → a.1 < n ∧ a.2 < n) → (rwp n p q ++ rsp n (p + 1)).foldl (ts G hd) o = nx G hd n → jw (d + 3) kX7_tree Q 39 [some (.ref 121), some (.int i), some (.int (nI A)), some (.int (nI t)), some (.int (oA1 o)), some (.int (oA2 o)), some (.int (nI (lI hd 1000000 o))), some (.int (nI p)), some (.int (nI q)), g9] [] x := by
        refine dn _ n (fun _ o g9 hv hq => ?_) (fun q hq' ihq hpq o g9 hv hq => ?_)
        · rw [rwp_n (Nat.le_refl _), List.nil_append] at hq
          iterate 3 refine jw_u rfl ?_
          refine jw_u rfl ⟨fun _ => ?_, fun (c' : ¬ x 121 5 ≤ nI n) => absurd (by rw [hn]; exact Int32.le_refl _) c'⟩
          iterate 2 refine jw_u rfl ?_
          have := ih o (some (.int (nI n))) g9 hv hq
          rw [nI_s p] at this
          exact this
        · rw [rwp_c hq', List.cons_append, List.foldl_cons] at hq
          have b1 := ap_lt (bh p hp) (bh q hq')
          have b2 := lI_lz bh hv
          have b3 := bG p hp
          have b4 := bG q hq'
          have ihq := fun g9 => ihq (by omega) (ts G hd o (p, q)) g9 (ts_vl hv ⟨hp, hq'⟩) hq
          rw [nI_s q] at ihq
          iterate 3 refine jw_u rfl ?_
          refine jw_u rfl ⟨fun (c' : x 121 5 ≤ nI q) => absurd c' (by rw [hn]; exact nI_ge hq' (by omega)), fun _ => ?_⟩
          have no : ts G hd o (p, q) = o → jw (d + 3) kX7_tree Q 60 [some (.ref 121), some (.int i), some (.int (nI A)), some (.int (nI t)), some (.int (oA1 o)), some (.int (oA2 o)), some (.int (nI (lI hd 1000000 o))), some (.int (nI p)), some (.int (nI q)), g9] [] x := by
            intro e
            have ihq := ihq (some (.int (nI 0)))
            rw [e] at ihq
            iterate 3 refine jw_u rfl ?_
            refine jw_u rfl ⟨fun _ => ?_, fun c => absurd n00 c⟩
            iterate 3 refine jw_u rfl ?_
            refine jw_u rfl ⟨fun _ => ?_, fun c => absurd n00 c⟩
            iterate 3 refine jw_u rfl ?_
            refine jw_u rfl ⟨fun _ => ?_, fun c => absurd n00 c⟩
            iterate 4 refine jw_u rfl ?_
            exact ihq
          iterate 3 refine jw_u rfl ?_
          refine jw_u rfl (jaN (o := 132) (show p < 8 by omega) (by decide) (hG p hp) ?_)
          iterate 3 refine jw_u rfl ?_
          refine jw_u rfl (jaN (o := 132) (show q < 8 by omega) (by decide) (hG q hq') ?_)
          refine jw_u rfl ⟨fun (c' : nI (G p) = nI (G q)) => ?_, fun (c' : ¬ nI (G p) = nI (G q)) => ?_⟩
          · rw [nI_eq (by omega) (by omega)] at c'
            refine no ?_
            unfold ts
            cases o <;> simp [c']
          rw [nI_eq (by omega) (by omega)] at c'
          iterate 4 refine jw_u rfl ?_
          refine m_between h8 hh bh hp hq' ?_
          refine jw_u rfl ?_
          refine jw_u rfl ⟨fun (c2 : nI (lI hd 1000000 o) ≤ nI (ap (hd p) (hd q))) => ?_, fun (c2 : ¬ nI (lI hd 1000000 o) ≤ nI (ap (hd p) (hd q))) => ?_⟩
          · rw [nI_leI (by omega) (by omega)] at c2
            refine no ?_
            unfold ts
            cases o with
            | none => exact absurd (show 1000000 ≤ _ from c2) (by omega)
            | some a =>
              have c2 : ap (hd a.1) (hd a.2) ≤ ap (hd p) (hd q) := c2
              simp [c', Nat.not_lt.mpr c2]
          · rw [nI_leI (by omega) (by omega)] at c2
            have e : ts G hd o (p, q) = some (p, q) := by
              unfold ts
              cases o with
              | none => simp [c']
              | some a =>
                have c2 : ap (hd p) (hd q) < ap (hd a.1) (hd a.2) := Nat.not_le.mp c2
                simp [c', c2]
            have ihq := ihq (some (.int (nI 1)))
            rw [e] at ihq
            iterate 4 refine jw_u rfl ?_
            refine jw_u rfl ⟨fun c => absurd c n10, fun _ => ?_⟩
            iterate 4 refine jw_u rfl ?_
            refine jw_u rfl ⟨fun c => absurd c n10, fun _ => ?_⟩
            iterate 4 refine jw_u rfl ?_
            refine jw_u rfl ⟨fun c => absurd c n10, fun _ => ?_⟩
            iterate 4 refine jw_u rfl ?_
            refine m_between h8 hh bh hp hq' ?_
            iterate 4 refine jw_u rfl ?_
            exact ihq
      rw [rsp_c hp] at hq
      iterate 3 refine jw_u rfl ?_
      refine jw_u rfl ⟨fun (c' : x 121 5 ≤ nI p) => absurd c' (by rw [hn]; exact nI_ge hp (by omega)), fun _ => ?_⟩
      iterate 3 refine jw_u rfl ?_
      refine jtop (nI_add p 1) ?_
      refine jw_u rfl ?_
      exact inner (p + 1) hp (Nat.lt_succ_self _) o g9 hv hq
  intro g8 g9
  exact loop 0 (Nat.zero_le _) none g8 g9 (fun a h => by cases h) rfl
set_option maxHeartbeats 2000000 in
theorem m_tree {i : Int32} (hC : mC x C) (hS : mS x 0 (cN C) S) (wc : wC C) (ws : wS (cN C) S) (h : ∀ x', (∀ k, k ≠ 131 → k ≠ 132 → x' k = x k) → Q (some (.int (fTree C S i))) x') : jo (d + 4) 130 [.ref 121, .int i] x Q := by
  have b3 := wc.2.2.1
  have c3 := hC.2.2.1
  have s1 := hS.1
  have w1 := ws.1
  have main : ∀ t, t ≤ cN C - 1 → ∀ x1 g4 g5 g6 g7 g8 g9, (∀ k, k ≠ 131 → k ≠ 132 → x1 k = x k) → (∀ k, k < cN C → x1 132 k = nI (tG (sH S) (cN C) t k)) → (∀ k, k < t → x1 131 k = cI (nx (tG (sH S) (cN C) k) (sH S) (cN C))) → jw (d + 3) kX7_tree Q 17 [some (.ref 121), some (.int i), some (.int (nI (tA (sH S) (cN C) t))), some (.int (nI t)), g4, g5, g6, g7, g8, g9] [] x1 := by
    refine dn _ (cN C - 1) (fun x1 g4 g5 g6 g7 g8 g9 e1 e2 e3 => ?_) (fun t ht ih x1 g4 g5 g6 g7 g8 g9 e1 e2 e3 => ?_)
    · have e5 : x1 121 5 = nI (cN C) := by rw [e1 121 (by decide) (by decide)]; exact c3
      iterate 3 refine jw_u rfl ?_
      refine jtop e5 ?_
      iterate 2 refine jw_u rfl ?_
      refine jw_u rfl ⟨fun _ => ?_, fun (c' : ¬ nI (cN C) - nI 1 ≤ nI (cN C - 1)) => absurd ((sub1_le b3 (by omega)).mpr (by omega)) c'⟩
      iterate 2 refine jw_u rfl ?_
      have h := h x1 e1
      unfold fTree at h
      refine jw_u rfl ⟨fun (c' : ¬ i = jc (-1)) => ?_, fun (c' : i = jc (-1)) => ?_⟩
      · rw [jm1] at c'
        rw [if_neg c'] at h
        iterate 8 refine jw_u rfl ?_
        refine m_in (a := 0) (b := ((cN C - 1 : Nat) : Int) - 1) (by decide) (by rw [Int32.toInt_toInt64]; exact pk_sub_toInt (by omega) (by decide)) (fun hi => ?_) (fun hi => ?_)
        · have hi2 := (ri (p := i) (n := cN C - 1) (by omega)).mpr hi
          rw [if_pos hi2] at h
          obtain ⟨j, hj, rfl⟩ := ilt (by omega) hi2
          rw [nI_clamp (by omega)] at h
          refine jw_u rfl ⟨fun c => absurd c n10, fun _ => ?_⟩
          iterate 3 refine jw_u rfl ?_
          refine jw_u rfl (jaN (o := 131) (show j < 8 by omega) (by decide) (e3 j hj) ?_)
          iterate 2 refine jw_u rfl ?_
          exact ⟨fun h => (by cases h), h⟩
        · rw [if_neg (fun hc => hi ((ri (p := i) (n := cN C - 1) (by omega)).mp hc))] at h
          refine jw_u rfl ⟨fun _ => ?_, fun c => absurd n00 c⟩
          iterate 2 refine jw_u rfl ?_
          exact ⟨fun h => (by cases h), jret jm1 h⟩
      · rw [jm1] at c'
        rw [if_pos c'] at h
        iterate 3 refine jw_u rfl ?_
        exact ⟨fun h => (by cases h), h⟩
    · have e5 : x1 121 5 = nI (cN C) := by rw [e1 121 (by decide) (by decide)]; exact c3
      have e4 : ∀ k, k < cN C → x1 122 (2 + k) = nI (sH S k) := fun k hk => by rw [e1 122 (by decide) (by decide)]; exact s1 k hk
      obtain ⟨a, ha⟩ := tG_next (sH S) (n := cN C) (t := t) (by omega)
      obtain ⟨q1, q2, q3⟩ := nx_some ha
      have q4 := tA_le w1 t
      have q5 := ap_lt (w1 a.1 (by omega)) (w1 a.2 q2)
      have bG : ∀ k, k < cN C → tG (sH S) (cN C) t k < cN C := fun k hk => tG_lt (sH S) (by omega) hk
      have etG : tG (sH S) (cN C) (t + 1) = jnG (tG (sH S) (cN C) t) a := by rw [tG, ha]
      have etA : tA (sH S) (cN C) (t + 1) = tA (sH S) (cN C) t + ap (sH S a.1) (sH S a.2) := by rw [tA, ha]; rfl
      rw [etG, etA, nI_s t] at ih
      iterate 3 refine jw_u rfl ?_
      refine jtop e5 ?_
      iterate 2 refine jw_u rfl ?_
      refine jw_u rfl ⟨fun (c' : nI (cN C) - nI 1 ≤ nI t) => absurd ((sub1_le b3 (by omega)).mp c') (by omega), fun _ => ?_⟩
      iterate 8 refine jw_u rfl ?_
      refine m_treeS (n := cN C) (hd := sH S) (G := tG (sH S) (cN C) t) e5 b3 e4 w1 e2 bG (fun g8 g9 => ?_) g8 g9
      rw [ha]
      generalize tG (sH S) (cN C) t = G at e2 bG q3 ih ⊢
      generalize tA (sH S) (cN C) t = A at q4 ih ⊢
      have hb1 := bG _ (show a.1 < cN C by omega)
      have hb2 := bG _ q2
      iterate 3 refine jw_u rfl ?_
      refine jw_u rfl (jaN (o := 132) (j := a.2) (show a.2 < 8 by omega) (by decide) (e2 a.2 q2) ?_)
      iterate 3 refine jw_u rfl ?_
      have join : ∀ p, p ≤ cN C → ∀ x2, (∀ k, k ≠ 132 → x2 k = x1 k) → (∀ k, k < cN C → x2 132 k = nI (if k < p then jnG G a k else G k)) → jw (d + 3) kX7_tree Q 94 [some (.ref 121), some (.int i), some (.int (nI A)), some (.int (nI t)), some (.int (nI a.1)), some (.int (nI a.2)), some (.int (nI (ap (sH S a.1) (sH S a.2)))), some (.int (nI (G a.2))), some (.int (nI p)), g9] [] x2 := by
        refine dn _ (cN C) (fun x2 f1 f2 => ?_) (fun p hp ihp x2 f1 f2 => ?_)
        · have e6 : x2 121 5 = nI (cN C) := by rw [f1 121 (by decide)]; exact e5
          iterate 3 refine jw_u rfl ?_
          refine jw_u rfl ⟨fun _ => ?_, fun (c' : ¬ x2 121 5 ≤ nI (cN C)) => absurd (by rw [e6]; exact Int32.le_refl _) c'⟩
          iterate 5 refine jw_u rfl ?_
          refine jw_u rfl ?_
          refine jtop (pk_mul 10 a.1) ?_
          iterate 2 refine jw_u rfl ?_
          refine jtop (nI_add _ _) ?_
          refine jw_u rfl (jsN (o := 131) (show t < 8 by omega) (by decide) ?_)
          iterate 3 refine jw_u rfl ?_
          refine jtop (nI_add _ _) ?_
          iterate 3 refine jw_u rfl ?_
          exact ih _ _ _ _ _ _ _ (fun k h1 h2 => by rw [ju_oo h1, f1 k h2]; exact e1 k h1 h2) (fun k hk => by rw [ju_o (by decide), f2 k hk, if_pos hk]) (fun k hk => by
            by_cases e : k = t
            · subst e
              rw [ju_s, ha]
              rfl
            · rw [ju_k e, f1 131 (by decide)]
              exact e3 k (by omega))
        · have e6 : x2 121 5 = nI (cN C) := by rw [f1 121 (by decide)]; exact e5
          have ep : x2 132 p = nI (G p) := by rw [f2 p hp, if_neg (Nat.lt_irrefl _)]
          have ea : x2 132 a.1 = nI (G a.1) := by
            rw [f2 a.1 (by omega)]
            split
            · unfold jnG
              rw [if_neg q3]
            · rfl
          have b4 := bG p hp
          have next : ∀ v, v = nI (jnG G a p) → jw (d + 3) kX7_tree Q 116 [some (.ref 121), some (.int i), some (.int (nI A)), some (.int (nI t)), some (.int (nI a.1)), some (.int (nI a.2)), some (.int (nI (ap (sH S a.1) (sH S a.2)))), some (.int (nI (G a.2))), some (.int (nI p)), g9] [.int v, .int (nI p), .ref 132] x2 := by
            intro v hv
            refine jw_u rfl (jsN (o := 132) (show p < 8 by omega) (by decide) ?_)
            iterate 2 refine jw_u rfl ?_
            have := ihp (ju x2 132 p v) (fun k hk => by rw [ju_oo hk]; exact f1 k hk) (fun k hk => by
              by_cases e : k = p
              · subst e
                rw [ju_s, if_pos (Nat.lt_succ_self _)]
                exact hv
              · rw [ju_k e, f2 k hk]
                by_cases h9 : k < p
                · rw [if_pos h9, if_pos (by omega)]
                · rw [if_neg h9, if_neg (by omega)])
            rw [nI_s p] at this
            exact this
          iterate 3 refine jw_u rfl ?_
          refine jw_u rfl ⟨fun (c' : x2 121 5 ≤ nI p) => absurd c' (by rw [e6]; exact nI_ge hp (by omega)), fun _ => ?_⟩
          iterate 6 refine jw_u rfl ?_
          refine jw_u rfl (jaN (o := 132) (show p < 8 by omega) (by decide) ep ?_)
          refine jw_u rfl ?_
          refine jw_u rfl ⟨fun (c' : ¬ nI (G p) = nI (G a.2)) => ?_, fun (c' : nI (G p) = nI (G a.2)) => ?_⟩
          · rw [nI_eq (by omega) (by omega)] at c'
            iterate 3 refine jw_u rfl ?_
            refine jw_u rfl (jaN (o := 132) (show p < 8 by omega) (by decide) ep ?_)
            exact next _ (by unfold jnG; rw [if_neg c'])
          · rw [nI_eq (by omega) (by omega)] at c'
            iterate 3 refine jw_u rfl ?_
            refine jw_u rfl (jaN (o := 132) (show a.1 < 8 by omega) (by decide) ea ?_)
            refine jw_u rfl ?_
            exact next _ (by unfold jnG; rw [if_pos c'])
      exact join 0 (Nat.zero_le _) x1 (fun _ _ => rfl) (fun k hk => by rw [if_neg (Nat.not_lt_zero _)]; exact e2 k hk)
  have first : ∀ p, p ≤ cN C → ∀ x1, (∀ k, k ≠ 131 → k ≠ 132 → x1 k = x k) → (∀ k, k < p → x1 132 k = nI k) → jw (d + 3) kX7_tree Q 6 [some (.ref 121), some (.int i), some (.int (nI 0)), some (.int (nI 0)), some (.int (nI p)), none, none, none, none, none] [] x1 := by
    refine dn _ (cN C) (fun x1 e1 e2 => ?_) (fun p hp ih x1 e1 e2 => ?_)
    · have e5 : x1 121 5 = nI (cN C) := by rw [e1 121 (by decide) (by decide)]; exact c3
      iterate 3 refine jw_u rfl ?_
      refine jw_u rfl ⟨fun _ => ?_, fun (c' : ¬ x1 121 5 ≤ nI (cN C)) => absurd (by rw [e5]; exact Int32.le_refl _) c'⟩
      exact main 0 (Nat.zero_le _) x1 _ _ _ _ _ _ e1 e2 (fun k hk => absurd hk (Nat.not_lt_zero _))
    · have e5 : x1 121 5 = nI (cN C) := by rw [e1 121 (by decide) (by decide)]; exact c3
      iterate 3 refine jw_u rfl ?_
      refine jw_u rfl ⟨fun (c' : x1 121 5 ≤ nI p) => absurd c' (by rw [e5]; exact nI_ge hp (by omega)), fun _ => ?_⟩
      iterate 4 refine jw_u rfl ?_
      refine jw_u rfl (jsN (o := 132) (show p < 8 by omega) (by decide) ?_)
      iterate 2 refine jw_u rfl ?_
      have := ih (ju x1 132 p (nI p)) (fun k h1 h2 => by rw [ju_oo h2]; exact e1 k h1 h2) (fun k hk => by
        by_cases e : k = p
        · subst e; exact ju_s _ _ _ _
        · rw [ju_k e]; exact e2 k (by omega))
      rw [nI_s p] at this
      exact this
  refine jo_i rfl rfl (Nat.le_of_ble_eq_true rfl) ?_
  iterate 6 refine jw_u rfl ?_
  exact first 0 (Nat.zero_le _) x (fun _ _ _ => rfl) (fun k hk => absurd hk (Nat.not_lt_zero _))
end MI
