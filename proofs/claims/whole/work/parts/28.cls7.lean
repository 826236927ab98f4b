/-! THE CLASS: the next of a tree, joins, trees, first clash -/
theorem lI_le {hd : Nat → Nat} {n : Nat} {o : Option (Nat × Nat)} (bh : ∀ k, k < n → hd k < 1000) (hv : ∀ a, o = some a → a.1 < n ∧ a.2 < n) : lI hd 100 o ≤ 100 := by
  cases o with
  | none => exact Nat.le_refl _
  | some a =>
    obtain ⟨h1, h2⟩ := hv a rfl
    have := ap_lt (bh _ h1) (bh _ h2)
    show ap _ _ ≤ 100
    omega
theorem ts_vl {G hd : Nat → Nat} {n : Nat} {o : Option (Nat × Nat)} {q : Nat × Nat} (hv : ∀ a, o = some a → a.1 < n ∧ a.2 < n) (hq : q.1 < n ∧ q.2 < n) : ∀ a, ts G hd o q = some a → a.1 < n ∧ a.2 < n := by
  intro a h
  rcases ts_some (l := [q]) (o := o) h with h1 | ⟨h1, -⟩
  · exact hv a h1
  · have := List.mem_singleton.mp h1
    exact this ▸ hq
section CQ7
variable {d n : Nat} {x : jM} {Q : Option Value → jM → Prop} {hd sl : Nat → Nat} {G : Nat → Nat}
set_option maxHeartbeats 1000000 in
theorem c_nextOfTree (hn : x 11 2 = nI n) (h8 : n ≤ 8) (hh : ∀ k, k < n → x 16 k = nI (hd k)) (bh : ∀ k, k < n → hd k < 1000) (hG : ∀ k, k < n → x 120 k = nI (G k)) (bG : ∀ k, k < n → G k < n) (h : Q (some (.int (cI (nx G hd n)))) x) : jo (d + 2) 76 [.ref 0] x Q := by
  have loop : ∀ p, p ≤ n → ∀ o g4 g5, (∀ a, o = some a → a.1 < n ∧ a.2 < n) → Q (some (.int (cI ((rsp n p).foldl (ts G hd) o)))) x → jw (d + 1) kX6_nextOfTree Q 6 [some (.ref 0), some (.int (cI o)), some (.int (nI (lI hd 100 o))), some (.int (nI p)), g4, g5] [] x := by
    refine dn _ n (fun o g4 g5 hv hq => ?_) (fun p hp ih o g4 g5 hv hq => ?_)
    · rw [rsp_n (Nat.le_refl _)] at hq
      iterate 4 refine jw_u rfl ?_
      refine jw_u rfl ⟨fun _ => ?_, fun (c' : ¬ x 11 2 ≤ nI n) => absurd (by rw [hn]; exact Int32.le_refl _) c'⟩
      iterate 2 refine jw_u rfl ?_
      exact ⟨fun h => (by cases h), hq⟩
    · have inner : ∀ q, q ≤ n → p < q → ∀ o g5, (∀ a, o = some a → a.1 < n ∧ a.2 < n) → Q (some (.int (cI ((rwp n p q ++ rsp n (p + 1)).foldl (ts G hd) o)))) x → jw (d + 1) kX6_nextOfTree Q 15 [some (.ref 0), some (.int (cI o)), some (.int (nI (lI hd 100 o))), some (.int (nI p)), some (.int (nI q)), g5] [] x := by
        refine dn _ n (fun _ o g5 hv hq => ?_) (fun q hq' ihq hpq o g5 hv hq => ?_)
        · rw [rwp_n (Nat.le_refl _), List.nil_append] at hq
          iterate 4 refine jw_u rfl ?_
          refine jw_u rfl ⟨fun _ => ?_, fun (c' : ¬ x 11 2 ≤ nI n) => absurd (by rw [hn]; exact Int32.le_refl _) c'⟩
          iterate 2 refine jw_u rfl ?_
          have := ih o (some (.int (nI n))) g5 hv hq
          rw [nI_s p] at this
          exact this
        · rw [rwp_c hq', List.cons_append, List.foldl_cons] at hq
          have b1 := ap_lt (bh p hp) (bh q hq')
          have b2 := lI_le bh hv
          have b3 := bG p hp
          have b4 := bG q hq'
          have ihq := ihq (by omega) (ts G hd o (p, q)) (some (.int (nI (ap (hd p) (hd q))))) (ts_vl hv ⟨hp, hq'⟩) hq
          rw [nI_s q] at ihq
          iterate 4 refine jw_u rfl ?_
          refine jw_u rfl ⟨fun (c' : x 11 2 ≤ nI q) => absurd c' (by rw [hn]; exact nI_ge hq' (by omega)), fun _ => ?_⟩
          iterate 4 refine jw_u rfl ?_
          refine jw_u rfl (jaN (show p < 8 by omega) (by decide) (hh p hp) ?_)
          iterate 4 refine jw_u rfl ?_
          refine jw_u rfl (jaN (show q < 8 by omega) (by decide) (hh q hq') ?_)
          refine jw_u rfl ?_
          refine c_apart (bh p hp) (bh q hq') ?_
          iterate 4 refine jw_u rfl ?_
          refine jw_u rfl (jaN (show p < 8 by omega) (by decide) (hG p hp) ?_)
          iterate 3 refine jw_u rfl ?_
          refine jw_u rfl (jaN (show q < 8 by omega) (by decide) (hG q hq') ?_)
          refine jw_u rfl ⟨fun (c' : nI (G p) = nI (G q)) => ?_, fun (c' : ¬ nI (G p) = nI (G q)) => ?_⟩
          · rw [nI_eq (by omega) (by omega)] at c'
            iterate 2 refine jw_u rfl ?_
            have e : ts G hd o (p, q) = o := by
              unfold ts
              cases o <;> simp [c']
            rw [e] at ihq
            exact ihq
          rw [nI_eq (by omega) (by omega)] at c'
          iterate 2 refine jw_u rfl ?_
          refine jw_u rfl ⟨fun (c2 : nI (lI hd 100 o) ≤ nI (ap (hd p) (hd q))) => ?_, fun (c2 : ¬ nI (lI hd 100 o) ≤ nI (ap (hd p) (hd q))) => ?_⟩
          · rw [nI_leI (by omega) (by omega)] at c2
            iterate 2 refine jw_u rfl ?_
            have e : ts G hd o (p, q) = o := by
              unfold ts
              cases o with
              | none => exact absurd (show 100 ≤ _ from c2) (by omega)
              | some a =>
                have c2 : ap (hd a.1) (hd a.2) ≤ ap (hd p) (hd q) := c2
                simp [c', Nat.not_lt.mpr c2]
            rw [e] at ihq
            exact ihq
          · rw [nI_leI (by omega) (by omega)] at c2
            have e : ts G hd o (p, q) = some (p, q) := by
              unfold ts
              cases o with
              | none => simp [c']
              | some a =>
                have c2 : ap (hd p) (hd q) < ap (hd a.1) (hd a.2) := Nat.not_le.mp c2
                simp [c', c2]
            rw [e] at ihq
            iterate 5 refine jw_u rfl ?_
            refine jtop (pk_mul 10 p) ?_
            iterate 2 refine jw_u rfl ?_
            refine jtop (nI_add _ _) ?_
            iterate 3 refine jw_u rfl ?_
            exact ihq
      rw [rsp_c hp] at hq
      iterate 4 refine jw_u rfl ?_
      refine jw_u rfl ⟨fun (c' : x 11 2 ≤ nI p) => absurd c' (by rw [hn]; exact nI_ge hp (by omega)), fun _ => ?_⟩
      iterate 3 refine jw_u rfl ?_
      refine jtop (nI_add _ _) ?_
      refine jw_u rfl ?_
      exact inner (p + 1) hp (Nat.lt_succ_self _) o g5 hv hq
  refine jo_i rfl rfl (Nat.le_of_ble_eq_true rfl) ?_
  iterate 6 refine jw_u rfl ?_
  exact loop 0 (Nat.zero_le _) none none none (fun a h => by cases h) h
theorem c_joinGroups {a : Nat × Nat} (hn : x 11 2 = nI n) (h8 : n ≤ 8) (hG : ∀ k, k < n → x 120 k = nI (G k)) (bG : ∀ k, k < n → G k < n) (h1 : a.1 < n) (h2 : a.2 < n)
    (h : ∀ x', (∀ i, i ≠ 120 → x' i = x i) → (∀ k, k < n → x' 120 k = nI (jnG G a k)) → Q none x') : jo (d + 1) 77 [.ref 0, .int (nI a.1), .int (nI a.2)] x Q := by
  have loop : ∀ i, i ≤ n → ∀ x1, (∀ i, i ≠ 120 → x1 i = x i) → (∀ k, k < n → x1 120 k = nI (if k < i then jnG G a k else G k)) → jw d kX6_joinGroups Q 12 [some (.ref 0), some (.int (nI a.1)), some (.int (nI a.2)), some (.int (nI (G a.2))), some (.int (nI (G a.1))), some (.int (nI i))] [] x1 := by
    refine dn _ n (fun x1 e1 e2 => ?_) (fun i hi ih x1 e1 e2 => ?_)
    · have e11 : x1 11 2 = nI n := by rw [e1 11 (by decide)]; exact hn
      iterate 4 refine jw_u rfl ?_
      refine jw_u rfl ⟨fun _ => ?_, fun (c' : ¬ x1 11 2 ≤ nI n) => absurd (by rw [e11]; exact Int32.le_refl _) c'⟩
      refine jw_u rfl ?_
      exact h x1 e1 (fun k hk => by rw [e2 k hk, if_pos hk])
    · have e11 : x1 11 2 = nI n := by rw [e1 11 (by decide)]; exact hn
      have ei : x1 120 i = nI (G i) := by rw [e2 i hi, if_neg (Nat.lt_irrefl _)]
      have b1 := bG i hi
      have b2 := bG _ h2
      iterate 4 refine jw_u rfl ?_
      refine jw_u rfl ⟨fun (c' : x1 11 2 ≤ nI i) => absurd c' (by rw [e11]; exact nI_ge hi (by omega)), fun _ => ?_⟩
      iterate 3 refine jw_u rfl ?_
      refine jw_u rfl (jaN (show i < 8 by omega) (by decide) ei ?_)
      refine jw_u rfl ?_
      refine jw_u rfl ⟨fun (c' : ¬ nI (G i) = nI (G a.2)) => ?_, fun (c' : nI (G i) = nI (G a.2)) => ?_⟩
      · rw [nI_eq (by omega) (by omega)] at c'
        iterate 2 refine jw_u rfl ?_
        rw [← show nI (i + 1) = nI i + jc 1 from nI_s i]
        refine ih x1 e1 (fun k hk => ?_)
        rw [e2 k hk]
        by_cases e : k = i
        · subst e
          rw [if_neg (Nat.lt_irrefl _), if_pos (Nat.lt_succ_self _)]
          simp [jnG, c']
        · by_cases h9 : k < i
          · rw [if_pos h9, if_pos (by omega)]
          · rw [if_neg h9, if_neg (by omega)]
      · rw [nI_eq (by omega) (by omega)] at c'
        iterate 4 refine jw_u rfl ?_
        refine jw_u rfl (jsN (show i < 8 by omega) (by decide) ?_)
        iterate 2 refine jw_u rfl ?_
        rw [← show nI (i + 1) = nI i + jc 1 from nI_s i]
        refine ih _ (fun k hk => ?_) (fun k hk => ?_)
        · rw [ju_oo hk]
          exact e1 k hk
        · by_cases e : k = i
          · subst e
            rw [ju_s, if_pos (Nat.lt_succ_self _)]
            simp [jnG, c']
          · rw [ju_k e, e2 k hk]
            by_cases h9 : k < i
            · rw [if_pos h9, if_pos (by omega)]
            · rw [if_neg h9, if_neg (by omega)]
  refine jo_i rfl rfl (Nat.le_of_ble_eq_true rfl) ?_
  iterate 3 refine jw_u rfl ?_
  refine jw_u rfl (jaN (show a.2 < 8 by omega) (by decide) (hG _ h2) ?_)
  iterate 4 refine jw_u rfl ?_
  refine jw_u rfl (jaN (show a.1 < 8 by omega) (by decide) (hG _ h1) ?_)
  iterate 3 refine jw_u rfl ?_
  exact loop 0 (Nat.zero_le _) x (fun _ _ => rfl) (fun k hk => by rw [if_neg (Nat.not_lt_zero _)]; exact hG k hk)
end CQ7
