/-! THE REFERENCE: a text is taken -/
section MS
variable {d : Nat} {w : jM} {Q : Option Value → jM → Prop} {C : aC} {S : aS} {D : Nat} {tf nf : Nat → Nat} {bf : (Nat → Nat) × (Nat → Nat)}
/-- the last steps: what is seen, the book, what is undone, the images -/
theorem m_clanE {v2 v3 : Int32} {y : jM} (hf : y 121 16 = -1) (hC : mC y C) (hS : mS y 0 (cN C) S) (h11 : y 121 11 = nI 0) (h26 : y 122 26 = nI D) (h : ∀ x', RM (C, S, [], fun _ => none, (0, nf), (0, bf), D, -1, (0, tf)) x' → (∀ i, i < 121 → x' i = y i) → Q (some (.int (nI (cN C)))) x') : jw (d + 5) kX7_clan Q 184 [some (.ref 121), some (.int (nI 1)), some (.int v2), some (.int v3)] [] y := by
  iterate 2 refine jw_u rfl ?_
  refine jw_u rfl ⟨fun h => (by cases h), ?_⟩
  iterate 2 refine jw_u rfl ?_
  refine jw_u rfl ⟨fun h => (by cases h), ?_⟩
  iterate 2 refine jw_u rfl ?_
  refine jw_u rfl ⟨fun h => (by cases h), ?_⟩
  iterate 4 refine jw_u rfl ?_
  refine jw_u rfl (jsB (o := 123) (j := 0) (n := 2) (by decide) (by decide) (Or.inl rfl) ?_)
  iterate 4 refine jw_u rfl ?_
  refine jw_u rfl (jsB (o := 123) (j := 1) (n := 2) (by decide) (by decide) (Or.inl rfl) ?_)
  have fo : ∀ i, i ≠ 121 → i ≠ 123 → ju (ju (ju (ju (ju y 121 27 (nI 0)) 121 29 (nI 0)) 121 2 (nI 0)) 123 0 (nI 0)) 123 1 (nI 0) i = y i := fun i h1 h2 => by rw [ju_oo h2, ju_oo h2, ju_oo h1, ju_oo h1, ju_oo h1]
  have fk : ∀ k, k ≠ 27 → k ≠ 29 → k ≠ 2 → ju (ju (ju (ju (ju y 121 27 (nI 0)) 121 29 (nI 0)) 121 2 (nI 0)) 123 0 (nI 0)) 123 1 (nI 0) 121 k = y 121 k := fun k h1 h2 h3 => by rw [ju_o (by decide), ju_o (by decide), ju_k h3, ju_k h2, ju_k h1]
  have k27 : ju (ju (ju (ju (ju y 121 27 (nI 0)) 121 29 (nI 0)) 121 2 (nI 0)) 123 0 (nI 0)) 123 1 (nI 0) 121 27 = nI 0 := by rw [ju_o (by decide), ju_o (by decide), ju_k (by decide), ju_k (by decide), ju_s]
  have k29 : ju (ju (ju (ju (ju y 121 27 (nI 0)) 121 29 (nI 0)) 121 2 (nI 0)) 123 0 (nI 0)) 123 1 (nI 0) 121 29 = nI 0 := by rw [ju_o (by decide), ju_o (by decide), ju_k (by decide), ju_s]
  have k2 : ju (ju (ju (ju (ju y 121 27 (nI 0)) 121 29 (nI 0)) 121 2 (nI 0)) 123 0 (nI 0)) 123 1 (nI 0) 121 2 = nI 0 := by rw [ju_o (by decide), ju_o (by decide), ju_s]
  have i0 : ju (ju (ju (ju (ju y 121 27 (nI 0)) 121 29 (nI 0)) 121 2 (nI 0)) 123 0 (nI 0)) 123 1 (nI 0) 123 0 = nI 0 := by rw [ju_k (by decide), ju_s]
  have i1 : ju (ju (ju (ju (ju y 121 27 (nI 0)) 121 29 (nI 0)) 121 2 (nI 0)) 123 0 (nI 0)) 123 1 (nI 0) 123 1 = nI 0 := ju_s _ _ _ _
  show jw _ _ _ _ _ _ (ju (ju (ju (ju (ju y 121 27 (nI 0)) 121 29 (nI 0)) 121 2 (nI 0)) 123 0 (nI 0)) 123 1 (nI 0))
  generalize ju (ju (ju (ju (ju y 121 27 (nI 0)) 121 29 (nI 0)) 121 2 (nI 0)) 123 0 (nI 0)) 123 1 (nI 0) = w at fo fk k27 k29 k2 i0 i1 ⊢
  have hC' : mC w C := mC_f (fun k hk => fk k (by omega) (by omega) (by omega)) (fun i h1 h2 => fo i (by omega) (by omega)) hC
  have hS' : mS w 0 (cN C) S := by
    obtain ⟨g1, g2, g3, g4, g5⟩ := hS
    have e := fo 122 (by decide) (by decide)
    exact ⟨fun k hk => by rw [e]; exact g1 k hk, by rw [e]; exact g2, fun k hk => by rw [e]; exact g3 k hk, fun k hk => by rw [e]; exact g4 k hk, by rw [e]; exact g5⟩
  iterate 2 refine jw_u rfl ?_
  refine jtop hC'.2.2.1 ?_
  refine jw_u rfl ?_
  refine ⟨fun h => (by cases h), h w ⟨hC', hS', ⟨k2, Nat.zero_le _, fun k S hk => by cases hk⟩, fun i hi => ⟨fun _ => ?_, fun S s hc => by cases hc⟩, ⟨k27, fun k hk => absurd hk (Nat.not_lt_zero _), k29, fun k hk => absurd hk (Nat.not_lt_zero _), fun k hk => absurd hk (Nat.not_lt_zero _)⟩, ?_, ?_, ?_, fun k hk => absurd hk (Nat.not_lt_zero _)⟩ (fun i hi => fo i (by omega) (by omega))⟩
  · rcases (show i = 0 ∨ i = 1 by omega) with rfl | rfl
    · exact i0
    · exact i1
  · rw [fo 122 (by decide) (by decide)]; exact h26
  · rw [fk 16 (by decide) (by decide) (by decide)]; exact hf
  · rw [fk 11 (by decide) (by decide) (by decide)]; exact h11
set_option maxHeartbeats 2000000 in
/-- the rows are taken over -/
theorem m_clanR {v2 : Int32} {y : jM} (hf : y 121 16 = -1) (h11 : y 121 11 = nI 0) (h26 : y 122 26 = nI D) (h0 : y 122 0 = nI 0) (h1 : y 122 1 = nI (sP S)) (h3 : y 121 3 = nI (cT C)) (h4 : y 121 4 = nI (cG C)) (h5 : y 121 5 = nI (cN C)) (h8 : y 121 8 = nI (cC C)) (h21 : y 121 21 = nI (sP S))
    (p6 : ∀ k, k < cN C → y 128 (3 * k) = nI (sH S k) ∧ y 128 (3 * k + 1) = nI (cSl C k) ∧ y 128 (3 * k + 2) = nI (cDr C k)) (p7 : ∀ k, k < sP S → y 129 (2 * k) = nI (sN S k) ∧ y 129 (2 * k + 1) = nI (sM S k)) (p8 : ∀ k, k < cC C → y 130 k = nI (cSq C k)) (p9 : sY S = 0) (bN : cN C ≤ 8) (bP : sP S ≤ 8) (bC : cC C ≤ 4)
    (h : ∀ x', RM (C, S, [], fun _ => none, (0, nf), (0, bf), D, -1, (0, tf)) x' → (∀ i, i < 121 → x' i = y i) → Q (some (.int (nI (cN C)))) x') : jw (d + 5) kX7_clan Q 92 [some (.ref 121), some (.int (nI 1)), some (.int v2), some (.int (nI 0))] [] y := by
  have loopD : ∀ c, c ≤ cC C → ∀ w, (∀ i, i ≠ 122 → i < 124 ∨ 126 < i → w i = y i) → (∀ k, k < cN C → w 122 (2 + k) = nI (sH S k) ∧ w 124 k = nI (cSl C k) ∧ w 125 k = nI (cDr C k)) → (∀ k, k < sP S → w 122 (18 + k) = nI (sN S k) ∧ w 122 (10 + k) = nI (sM S k)) → (∀ j, j < 2 ∨ 26 ≤ j → w 122 j = y 122 j) → (∀ k, k < c → w 126 k = nI (cSq C k)) → jw (d + 5) kX7_clan Q 170 [some (.ref 121), some (.int (nI 1)), some (.int v2), some (.int (nI c))] [] w := by
    refine dn _ (cC C) (fun w f1 f2 f3 f4 f5 => ?_) (fun c hc ih w f1 f2 f3 f4 f5 => ?_)
    · have e := f1 121 (by decide) (by decide)
      have e8 : w 121 8 = nI (cC C) := by rw [e]; exact h8
      iterate 3 refine jw_u rfl ?_
      refine jw_u rfl ⟨fun _ => ?_, fun (c' : ¬ w 121 8 ≤ nI (cC C)) => absurd (by rw [e8]; exact Int32.le_refl _) c'⟩
      refine m_clanE (by rw [e]; exact hf) ⟨by rw [e]; exact h3, by rw [e]; exact h4, by rw [e]; exact h5, e8, fun k hk => (f2 k hk).2.1, fun k hk => (f2 k hk).2.2, f5⟩ ⟨fun k hk => ?_, ?_, fun k hk => ?_, fun k hk => ?_, ?_⟩ (by rw [e]; exact h11) (by rw [f4 26 (by omega)]; exact h26) (fun x' hx' hh => h x' hx' (fun i hi => (hh i hi).trans (f1 i (by omega) (by omega))))
      · rw [show 0 + 2 + k = 2 + k by omega]; exact (f2 k hk).1
      · rw [f4 (0 + 1) (by omega)]; exact h1
      · rw [show 0 + 10 + k = 10 + k by omega]; exact (f3 k hk).2
      · rw [show 0 + 18 + k = 18 + k by omega]; exact (f3 k hk).1
      · rw [f4 0 (by omega), p9]; exact h0
    · have e8 : w 121 8 = nI (cC C) := by rw [f1 121 (by decide) (by decide)]; exact h8
      iterate 3 refine jw_u rfl ?_
      refine jw_u rfl ⟨fun (c' : w 121 8 ≤ nI c) => absurd c' (by rw [e8]; exact nI_ge hc (by omega)), fun _ => ?_⟩
      iterate 6 refine jw_u rfl ?_
      refine jw_u rfl (jaN (o := 130) (show c < 4 by omega) (by decide) (show w 130 c = nI (cSq C c) by rw [f1 130 (by decide) (by decide)]; exact p8 c hc) ?_)
      refine jw_u rfl (jsN (o := 126) (show c < 4 by omega) (by decide) ?_)
      iterate 2 refine jw_u rfl ?_
      have := ih (ju w 126 c (nI (cSq C c))) (fun i g1 g2 => by rw [ju_oo (by omega)]; exact f1 i g1 g2) (fun k hk => by rw [ju_o (by decide), ju_o (by decide), ju_o (by decide)]; exact f2 k hk) (fun k hk => by rw [ju_o (by decide), ju_o (by decide)]; exact f3 k hk) (fun j hj => by rw [ju_o (by decide)]; exact f4 j hj) (fun k hk => by
        by_cases e : k = c
        · subst e
          exact ju_s _ _ _ _
        · rw [ju_k e]
          exact f5 k (by omega))
      rw [nI_s c] at this
      exact this
  have loopC : ∀ s, s ≤ sP S → ∀ w, (∀ i, i ≠ 122 → i < 124 ∨ 125 < i → w i = y i) → (∀ k, k < cN C → w 122 (2 + k) = nI (sH S k) ∧ w 124 k = nI (cSl C k) ∧ w 125 k = nI (cDr C k)) → (∀ k, k < s → w 122 (18 + k) = nI (sN S k) ∧ w 122 (10 + k) = nI (sM S k)) → (∀ j, j < 2 ∨ 26 ≤ j → w 122 j = y 122 j) → jw (d + 5) kX7_clan Q 136 [some (.ref 121), some (.int (nI 1)), some (.int v2), some (.int (nI s))] [] w := by
    refine dn _ (sP S) (fun w f1 f2 f3 f4 => ?_) (fun s hs ih w f1 f2 f3 f4 => ?_)
    · have e21 : w 121 21 = nI (sP S) := by rw [f1 121 (by decide) (by decide)]; exact h21
      iterate 3 refine jw_u rfl ?_
      refine jw_u rfl ⟨fun _ => ?_, fun (c' : ¬ w 121 21 ≤ nI (sP S)) => absurd (by rw [e21]; exact Int32.le_refl _) c'⟩
      iterate 2 refine jw_u rfl ?_
      exact loopD 0 (Nat.zero_le _) w (fun i g1 g2 => f1 i g1 (by omega)) f2 f3 f4 (fun k hk => absurd hk (Nat.not_lt_zero _))
    · have e21 : w 121 21 = nI (sP S) := by rw [f1 121 (by decide) (by decide)]; exact h21
      have e129 : w 129 = y 129 := f1 129 (by decide) (by decide)
      iterate 3 refine jw_u rfl ?_
      refine jw_u rfl ⟨fun (c' : w 121 21 ≤ nI s) => absurd c' (by rw [e21]; exact nI_ge hs (by omega)), fun _ => ?_⟩
      iterate 5 refine jw_u rfl ?_
      refine jtop (nI_add 18 s) ?_
      iterate 5 refine jw_u rfl ?_
      refine jtop (pk_mul 2 s) ?_
      refine jw_u rfl (jaN (o := 129) (show 2 * s < 16 by omega) (by decide) (show w 129 (2 * s) = nI (sN S s) by rw [e129]; exact (p7 s hs).1) ?_)
      refine jw_u rfl (jsN (o := 122) (show 18 + s < 648 by omega) (by decide) ?_)
      iterate 5 refine jw_u rfl ?_
      refine jtop (nI_add 10 s) ?_
      iterate 5 refine jw_u rfl ?_
      refine jtop (pk_mul 2 s) ?_
      iterate 2 refine jw_u rfl ?_
      refine jtop (nI_add (2 * s) 1) ?_
      refine jw_u rfl (jaN (o := 129) (v := nI (sM S s)) (show 2 * s + 1 < 16 by omega) (by decide) (by rw [ju_o (by decide), e129]; exact (p7 s hs).2) ?_)
      refine jw_u rfl (jsN (o := 122) (show 10 + s < 648 by omega) (by decide) ?_)
      iterate 2 refine jw_u rfl ?_
      have := ih (ju (ju w 122 (18 + s) (nI (sN S s))) 122 (10 + s) (nI (sM S s))) (fun i g1 g2 => by rw [ju_oo g1, ju_oo g1]; exact f1 i g1 g2) (fun k hk => by rw [ju_k (by omega), ju_k (by omega), ju_o (by decide), ju_o (by decide), ju_o (by decide), ju_o (by decide)]; exact f2 k hk) (fun k hk => by
        by_cases e : k = s
        · subst e
          exact ⟨by rw [ju_k (by omega), ju_s], ju_s _ _ _ _⟩
        · rw [ju_k (by omega), ju_k (by omega), ju_k (by omega), ju_k (by omega)]
          exact f3 k (by omega)) (fun j hj => by rw [ju_k (by omega), ju_k (by omega)]; exact f4 j hj)
      rw [nI_s s] at this
      exact this
  have loopB : ∀ p, p ≤ cN C → ∀ w, (∀ i, i ≠ 122 → i < 124 ∨ 125 < i → w i = y i) → (∀ k, k < p → w 122 (2 + k) = nI (sH S k) ∧ w 124 k = nI (cSl C k) ∧ w 125 k = nI (cDr C k)) → (∀ j, j < 2 ∨ 10 ≤ j → w 122 j = y 122 j) → jw (d + 5) kX7_clan Q 92 [some (.ref 121), some (.int (nI 1)), some (.int v2), some (.int (nI p))] [] w := by
    refine dn _ (cN C) (fun w f1 f2 f3 => ?_) (fun p hp ih w f1 f2 f3 => ?_)
    · have e5 : w 121 5 = nI (cN C) := by rw [f1 121 (by decide) (by decide)]; exact h5
      iterate 3 refine jw_u rfl ?_
      refine jw_u rfl ⟨fun _ => ?_, fun (c' : ¬ w 121 5 ≤ nI (cN C)) => absurd (by rw [e5]; exact Int32.le_refl _) c'⟩
      iterate 2 refine jw_u rfl ?_
      exact loopC 0 (Nat.zero_le _) w f1 f2 (fun k hk => absurd hk (Nat.not_lt_zero _)) (fun j hj => f3 j (by omega))
    · have e5 : w 121 5 = nI (cN C) := by rw [f1 121 (by decide) (by decide)]; exact h5
      have e128 : w 128 = y 128 := f1 128 (by decide) (by decide)
      iterate 3 refine jw_u rfl ?_
      refine jw_u rfl ⟨fun (c' : w 121 5 ≤ nI p) => absurd c' (by rw [e5]; exact nI_ge hp (by omega)), fun _ => ?_⟩
      iterate 5 refine jw_u rfl ?_
      refine jtop (nI_add 2 p) ?_
      iterate 5 refine jw_u rfl ?_
      refine jtop (pk_mul 3 p) ?_
      refine jw_u rfl (jaN (o := 128) (show 3 * p < 24 by omega) (by decide) (show w 128 (3 * p) = nI (sH S p) by rw [e128]; exact (p6 p hp).1) ?_)
      refine jw_u rfl (jsN (o := 122) (show 2 + p < 648 by omega) (by decide) ?_)
      iterate 8 refine jw_u rfl ?_
      refine jtop (pk_mul 3 p) ?_
      iterate 2 refine jw_u rfl ?_
      refine jtop (nI_add (3 * p) 1) ?_
      refine jw_u rfl (jaN (o := 128) (v := nI (cSl C p)) (show 3 * p + 1 < 24 by omega) (by decide) (by rw [ju_o (by decide), e128]; exact (p6 p hp).2.1) ?_)
      refine jw_u rfl (jsN (o := 124) (show p < 8 by omega) (by decide) ?_)
      iterate 8 refine jw_u rfl ?_
      refine jtop (pk_mul 3 p) ?_
      iterate 2 refine jw_u rfl ?_
      refine jtop (nI_add (3 * p) 2) ?_
      refine jw_u rfl (jaN (o := 128) (v := nI (cDr C p)) (show 3 * p + 2 < 24 by omega) (by decide) (by rw [ju_o (by decide), ju_o (by decide), e128]; exact (p6 p hp).2.2) ?_)
      refine jw_u rfl (jsN (o := 125) (show p < 8 by omega) (by decide) ?_)
      iterate 2 refine jw_u rfl ?_
      have := ih (ju (ju (ju w 122 (2 + p) (nI (sH S p))) 124 p (nI (cSl C p))) 125 p (nI (cDr C p))) (fun i g1 g2 => by rw [ju_oo (by omega), ju_oo (by omega), ju_oo g1]; exact f1 i g1 g2) (fun k hk => by
        by_cases e : k = p
        · subst e
          exact ⟨by rw [ju_o (by decide), ju_o (by decide), ju_s], by rw [ju_o (by decide), ju_s], ju_s _ _ _ _⟩
        · refine ⟨?_, ?_, ?_⟩
          · rw [ju_o (by decide), ju_o (by decide), ju_k (by omega)]; exact (f2 k (by omega)).1
          · rw [ju_o (by decide), ju_k e, ju_o (by decide)]; exact (f2 k (by omega)).2.1
          · rw [ju_k e, ju_o (by decide), ju_o (by decide)]; exact (f2 k (by omega)).2.2) (fun j hj => by rw [ju_o (by decide), ju_o (by decide), ju_k (by omega)]; exact f3 j hj)
      rw [nI_s p] at this
      exact this
  exact loopB 0 (Nat.zero_le _) y (fun _ _ _ => rfl) (fun k hk => absurd hk (Nat.not_lt_zero _)) (fun _ _ => rfl)
theorem m_clanG (hf : w 121 16 = -1) (h26 : w 122 26 = nI D) (hd : dC w C S) (wc : wC C) (ws : sP S ≤ 8)
    (h : ∀ x', RM (C, S, [], fun _ => none, (0, nf), (0, bf), D, -1, (0, tf)) x' → (∀ i, i < 121 → x' i = w i) → Q (some (.int (nI (cN C)))) x') : jw (d + 5) kX7_clan Q 36 [some (.ref 121), some (.int (nI 1)), none, none] [] w := by
  obtain ⟨c1, c2, c3, c4, c5, c6, c7, c8, c9⟩ := hd
  have bT1 := wc.1
  iterate 2 refine jw_u rfl ?_
  refine jw_u rfl ⟨fun h => (by cases h), ?_⟩
  refine jw_u rfl ?_
  refine jw_u rfl ⟨fun _ => ?_, fun c => absurd c n10⟩
  iterate 3 refine jw_u rfl ?_
  refine jw_u rfl (jaN (o := 122) (j := 26) (v := nI D) (show 26 < 648 by decide) (by decide) (by rw [ju_o (by decide)]; exact h26) ?_)
  iterate 3 refine jw_u rfl ?_
  have g0 : ∀ i, i ≠ 121 → ju w 121 11 (nI 0) i = w i := fun i hi => ju_oo hi
  have g1 : ∀ k, k ≠ 11 → ju w 121 11 (nI 0) 121 k = w 121 k := fun k hk => ju_k hk
  have g2 : ju w 121 11 (nI 0) 121 11 = nI 0 := ju_s _ _ _ _
  show jw _ _ _ _ _ _ (ju w 121 11 (nI 0))
  generalize ju w 121 11 (nI 0) = y1 at g0 g1 g2 ⊢
  have cont : ∀ y (v3 : Int32), (∀ j, j ≠ 122 → y j = y1 j) → (∀ k, k < 27 → y 122 k = nI 0) → jw (d + 5) kX7_clan Q 63 [some (.ref 121), some (.int (nI 1)), some (.int (nI D)), some (.int v3)] [] y := by
    intro y v3 q0 q1
    have e := q0 121 (by decide)
    iterate 4 refine jw_u rfl ?_
    refine jw_u rfl (jsN (o := 122) (j := 26) (show 26 < 648 by decide) (by decide) ?_)
    have s0 : ∀ j, j ≠ 122 → ju y 122 26 (nI D) j = y1 j := fun j hj => by rw [ju_oo hj]; exact q0 j hj
    have s1 : ju y 122 26 (nI D) 122 26 = nI D := ju_s _ _ _ _
    have s2 : ju y 122 26 (nI D) 122 0 = nI 0 := by rw [ju_k (by decide)]; exact q1 0 (by decide)
    generalize ju y 122 26 (nI D) = y' at s0 s1 s2 ⊢
    have e' := s0 121 (by decide)
    have k0 : ∀ k, k ≠ 11 → y' 121 k = w 121 k := fun k hk => by rw [e', g1 k hk]
    iterate 3 refine jw_u rfl ?_
    refine jtop (v' := nI (cT C)) (by rw [k0 17 (by decide)]; exact c1) ?_
    refine jw_u rfl ⟨fun _ => ?_, ?_⟩
    · rcases (show cT C = 0 ∨ cT C = 1 by omega) with e | e
      · rw [e]; exact Or.inl rfl
      · rw [e]; exact Or.inr rfl
    iterate 3 refine jw_u rfl ?_
    refine jtop (v' := nI (cG C)) (by rw [ju_k (by decide), k0 18 (by decide)]; exact c2) ?_
    refine jw_u rfl ⟨fun h => (by cases h), ?_⟩
    iterate 3 refine jw_u rfl ?_
    refine jtop (v' := nI (cN C)) (by rw [ju_k (by decide), ju_k (by decide), k0 19 (by decide)]; exact c3) ?_
    refine jw_u rfl ⟨fun h => (by cases h), ?_⟩
    iterate 3 refine jw_u rfl ?_
    refine jtop (v' := nI (cC C)) (by rw [ju_k (by decide), ju_k (by decide), ju_k (by decide), k0 23 (by decide)]; exact c4) ?_
    refine jw_u rfl ⟨fun h => (by cases h), ?_⟩
    iterate 5 refine jw_u rfl ?_
    refine jtop (v' := nI (sP S)) (by rw [ju_k (by decide), ju_k (by decide), ju_k (by decide), ju_k (by decide), k0 21 (by decide)]; exact c5) ?_
    refine jw_u rfl (jsN (o := 122) (j := 1) (show 1 < 648 by decide) (by decide) ?_)
    iterate 2 refine jw_u rfl ?_
    have t0 : ∀ i, i ≠ 121 → i ≠ 122 → ju (ju (ju (ju (ju y' 121 3 (nI (cT C))) 121 4 (nI (cG C))) 121 5 (nI (cN C))) 121 8 (nI (cC C))) 122 1 (nI (sP S)) i = w i := fun i h1 h2 => by rw [ju_oo h2, ju_oo h1, ju_oo h1, ju_oo h1, ju_oo h1, s0 i h2, g0 i h1]
    have t1 : ∀ k, k ≠ 3 → k ≠ 4 → k ≠ 5 → k ≠ 8 → ju (ju (ju (ju (ju y' 121 3 (nI (cT C))) 121 4 (nI (cG C))) 121 5 (nI (cN C))) 121 8 (nI (cC C))) 122 1 (nI (sP S)) 121 k = y1 121 k := fun k h1 h2 h3 h4 => by rw [ju_o (by decide), ju_k h4, ju_k h3, ju_k h2, ju_k h1, e']
    have t2 : ∀ k, k ≠ 1 → ju (ju (ju (ju (ju y' 121 3 (nI (cT C))) 121 4 (nI (cG C))) 121 5 (nI (cN C))) 121 8 (nI (cC C))) 122 1 (nI (sP S)) 122 k = y' 122 k := fun k h1 => by rw [ju_k h1, ju_o (by decide), ju_o (by decide), ju_o (by decide), ju_o (by decide)]
    refine m_clanR (by rw [t1 16 (by decide) (by decide) (by decide) (by decide), g1 16 (by decide)]; exact hf) (by rw [t1 11 (by decide) (by decide) (by decide) (by decide)]; exact g2) (by rw [t2 26 (by decide)]; exact s1) (by rw [t2 0 (by decide)]; exact s2) (ju_s _ _ _ _) (by rw [ju_o (by decide), ju_k (by decide), ju_k (by decide), ju_k (by decide), ju_s]) (by rw [ju_o (by decide), ju_k (by decide), ju_k (by decide), ju_s]) (by rw [ju_o (by decide), ju_k (by decide), ju_s]) (by rw [ju_o (by decide), ju_s]) (by rw [t1 21 (by decide) (by decide) (by decide) (by decide), g1 21 (by decide)]; exact c5) (fun k hk => by rw [t0 128 (by decide) (by decide)]; exact c6 k hk) (fun k hk => by rw [t0 129 (by decide) (by decide)]; exact c7 k hk) (fun k hk => by rw [t0 130 (by decide) (by decide)]; exact c8 k hk) c9 wc.2.2.1 ws wc.2.2.2.1 (fun x' hx' hh => h x' hx' (fun i hi => (hh i hi).trans (t0 i (by omega) (by omega))))
  have loop : ∀ i, i ≤ 27 → ∀ y, (∀ j, j ≠ 122 → y j = y1 j) → (∀ k, k < i → y 122 k = nI 0) → jw (d + 5) kX7_clan Q 53 [some (.ref 121), some (.int (nI 1)), some (.int (nI D)), some (.int (nI i))] [] y := by
    refine dn _ 27 (fun y q0 q1 => ?_) (fun i hi ih y q0 q1 => ?_)
    · iterate 2 refine jw_u rfl ?_
      refine jw_u rfl ⟨fun _ => cont y _ q0 q1, fun (c' : ¬ nI 27 ≤ nI 27) => absurd (Int32.le_refl _) c'⟩
    · iterate 2 refine jw_u rfl ?_
      refine jw_u rfl ⟨fun (c' : nI 27 ≤ nI i) => absurd c' (nI_ge hi (by decide)), fun _ => ?_⟩
      iterate 4 refine jw_u rfl ?_
      refine jw_u rfl (jsN (o := 122) (show i < 648 by omega) (by decide) ?_)
      iterate 2 refine jw_u rfl ?_
      have := ih (ju y 122 i (nI 0)) (fun j hj => by rw [ju_oo hj]; exact q0 j hj) (fun k hk => by
        by_cases e : k = i
        · rw [e]
          exact ju_s _ _ _ _
        · rw [ju_k e]
          exact q1 k (by omega))
      rw [nI_s i] at this
      exact this
  exact loop 0 (Nat.zero_le _) y1 (fun _ _ => rfl) (fun k hk => absurd hk (Nat.not_lt_zero _))
end MS
section MU
variable {d : Nat} {x : jM} {Q : Option Value → jM → Prop} {z : aX}
theorem pa_l (u : aN) (f : Nat) (q : Nat × Nat) (C : aC) (S : aS) : pa u f (.inl q, C, S) = (.inl q, C, S) := by cases f <;> rfl
set_option maxHeartbeats 2000000 in
theorem M_clan (hx : RM z x) (hw : wX z) (h : ∀ x', RM (fClan z).2 x' → (∀ i, i < 121 → x' i = x i) → Q (some (.int (fClan z).1)) x') : jo (d + 6) 103 [.ref 121] x Q := by
  obtain ⟨r1, r2, r3, r4, r5, r6, r7, r8⟩ := id hx
  obtain ⟨w1, w2, w3, w4, w5, w6, w7, w8⟩ := id hw
  have hu : bT (gT z) := w8
  have b1 := hu.1
  have b3 := w1.2.2.1
  have good : ∀ k C S w, pa (gT z) 240 (.inr 0, C0, S0) = (.inr k, C, S) → fQ x w → w 121 16 = -1 → dC w C S → wC C → sP S ≤ 8 → jw (d + 5) kX7_clan Q 36 [some (.ref 121), some (.int (nI 1)), none, none] [] w := by
    intro k C S w hR fw hf hd wc ws
    rw [show fClan z = (nI (cN C), (C, S, [], fun _ => none, (0, (gN z).2), (0, (gB z).2), gD z, -1, (0, (gT z).2))) by unfold fClan; rw [hR]] at h
    refine m_clanG hf (by rw [fw.1 122 (by omega) (by omega)]; exact r6) hd wc ws (fun x' hx' hh => h x' hx' (fun i hi => (hh i hi).trans (fw.1 i (by omega) (by omega))))
  have bad : ∀ q C S w, pa (gT z) 240 (.inr 0, C0, S0) = (.inl q, C, S) → fQ x w → rM w (gT z) (.inl q) → jw (d + 5) kX7_clan Q 36 [some (.ref 121), some (.int (nI 0)), none, none] [] w := by
    intro q C S w hR fw hq
    rw [show fClan z = (jc (-10) - nI q.1, (gC z, gS z, gH z, gI z, gN z, gB z, gD z, nI q.2, (0, (gT z).2))) by unfold fClan; rw [hR]] at h
    obtain ⟨s1, s2, s3, s4⟩ := hq
    iterate 2 refine jw_u rfl ?_
    refine jw_u rfl ⟨fun h => (by cases h), ?_⟩
    refine jw_u rfl ?_
    refine jw_u rfl ⟨fun c => absurd n00 c, fun _ => ?_⟩
    iterate 3 refine jw_u rfl ?_
    refine jtop (v' := nI q.1) (by rw [ju_k (by decide)]; exact s1) ?_
    iterate 2 refine jw_u rfl ?_
    have g0 : ∀ i, i ≠ 121 → i < 128 ∨ 130 < i → ju w 121 11 (nI 0) i = x i := fun i h1 h2 => by rw [ju_oo h1, fw.1 i (by omega) h2]
    have g1 : ∀ k, k ≠ 11 → k < 12 ∨ 24 < k → ju w 121 11 (nI 0) 121 k = x 121 k := fun k h1 h2 => by rw [ju_k h1, fw.2 k h2]
    refine ⟨fun h => (by cases h), h (ju w 121 11 (nI 0)) ⟨mC_f (fun k hk => g1 k (by omega) (by omega)) (fun i h1 h2 => g0 i (by omega) (by omega)) r1, mS_f b3 w2.2.1 (fun j h1 h2 => by rw [g0 122 (by decide) (by decide)]) r2, mH_f b3 w3.2 (g1 2 (by decide) (by decide)) (fun j h1 => by rw [g0 122 (by decide) (by decide)]) r3, mI_f b3 w4 (g0 123 (by decide) (by decide)) (fun j h1 h2 => by rw [g0 122 (by decide) (by decide)]) r4, mN_f (fun k hk => g1 k (by omega) (by omega)) (fun i h1 h2 => g0 i (by omega) (by omega)) r5, ?_, ?_, ju_s _ _ _ _, fun k hk => absurd hk (Nat.not_lt_zero _)⟩ (fun i hi => g0 i (by omega) (by omega))⟩
    · rw [g0 122 (by decide) (by decide)]; exact r6
    · rw [ju_k (by decide)]; exact s2
  have loop : ∀ f k C S w, (gT z).1 - k ≤ f → fQ x w → rM w (gT z) (.inr k) → dC w C S → wC C → wS (cN C) S → pa (gT z) f (.inr k, C, S) = pa (gT z) 240 (.inr 0, C0, S0) → jw (d + 5) kX7_clan Q 26 [some (.ref 121), some (.int (nI 1)), none, none] [] w := by
    intro f
    induction f with
    | zero =>
      intro k C S w hk fw hq hd wc ws hR
      obtain ⟨q1, q2, q3⟩ := id hq
      have e : k = (gT z).1 := by omega
      refine jw_u rfl ?_
      refine jw_u rfl ⟨fun c => absurd c n10, fun _ => ?_⟩
      iterate 2 refine jw_u rfl ?_
      refine m_here hu (fQ_T fw r8) q1 q3 ?_
      rw [sk_e (fun hc => absurd hc.1 (by omega))]
      refine jtop (v' := -1) (by unfold le; rw [if_neg (by omega)]) ?_
      refine jw_u rfl ?_
      refine jw_u rfl ⟨fun _ => ?_, fun (c : ¬ (-1 : Int32) = jc (-1)) => absurd jm1.symm c⟩
      have f1 : fP w (ju (ju w 121 12 (nI k)) 121 13 (nI k)) := fP_t (fP_u (by decide)) (fP_u (by decide))
      exact good k C S _ hR.symm (fQ_t fw (fQ_p f1)) (by rw [ju_k (by decide), ju_k (by decide)]; exact q2) (dC_p f1 hd) wc ws.2.1
    | succ f ih =>
      intro k C S w hk fw hq hd wc ws hR
      obtain ⟨q1, q2, q3⟩ := id hq
      obtain ⟨l1, l2⟩ := sk_le (u := gT z) q3
      have ne := sk_ne k q3
      rw [pa] at hR
      dsimp only at hR
      refine jw_u rfl ?_
      refine jw_u rfl ⟨fun c => absurd c n10, fun _ => ?_⟩
      iterate 2 refine jw_u rfl ?_
      refine m_here hu (fQ_T fw r8) q1 q3 ?_
      generalize sk (gT z) k = s at l1 l2 ne hR ⊢
      have f1 : fP w (ju (ju w 121 12 (nI s)) 121 13 (nI s)) := fP_t (fP_u (by decide)) (fP_u (by decide))
      have a1 : ju (ju w 121 12 (nI s)) 121 13 (nI s) 121 12 = nI s := by rw [ju_k (by decide), ju_s]
      have a3 : ju (ju w 121 12 (nI s)) 121 13 (nI s) 121 16 = -1 := by rw [ju_k (by decide), ju_k (by decide)]; exact q2
      generalize ju (ju w 121 12 (nI s)) 121 13 (nI s) = y at f1 a1 a3 ⊢
      have fy := fQ_t fw (fQ_p f1)
      have dy := dC_p f1 hd
      refine jw_u rfl ?_
      by_cases hs : s < (gT z).1
      · have b2 := hu.2 s hs
        rw [if_pos hs] at hR
        have el : le (gT z) s = nI ((gT z).2 s) := by unfold le; rw [if_pos hs]
        refine jw_u rfl ⟨fun (c : le (gT z) s = jc (-1)) => absurd c (by rw [el]; exact nm1 (by omega)), fun _ => ?_⟩
        iterate 2 refine jw_u rfl ?_
        have hD := cl_w hs wc ws
        have hr := fun k' => cl_r (k' := k') (C := C) (S := S) hs
        refine m_takesClause hu (fQ_T fy r8) ⟨a1, a3, l2⟩ dy hs (ne hs) wc ws.2.1 (fun w2 f2 q2 d2 => ?_)
        generalize cl (gT z) s C S = r at hR hD hr q2 d2 ⊢
        obtain ⟨st, C', S'⟩ := r
        iterate 2 refine jw_u rfl ?_
        cases st with
        | inl q =>
          rw [pa_l] at hR
          refine jw_u rfl ?_
          refine jw_u rfl ⟨fun _ => ?_, fun c => absurd n00 c⟩
          exact bad q C' S' w2 hR.symm (fQ_t fy f2) q2
        | inr k' =>
          have := hr k' rfl
          obtain ⟨wc', ws'⟩ := hD.2 k' rfl
          exact ih k' C' S' w2 (by omega) (fQ_t fy f2) q2 (d2 k' rfl) wc' ws' hR
      · rw [if_neg hs] at hR
        refine jw_u rfl ⟨fun _ => ?_, fun (c : ¬ le (gT z) s = jc (-1)) => absurd (by unfold le; rw [if_neg hs]; exact jm1.symm) c⟩
        exact good s C S y hR.symm fy a3 dy wc ws.2.1
  refine jo_i rfl rfl (Nat.le_of_ble_eq_true rfl) ?_
  iterate 2 refine jw_u rfl ?_
  refine jw_u rfl ⟨fun h => (by cases h), ?_⟩
  iterate 2 refine jw_u rfl ?_
  refine jw_u rfl ⟨fun h => (by cases h), ?_⟩
  iterate 2 refine jw_u rfl ?_
  refine jw_u rfl ⟨fun h => (by cases h), ?_⟩
  iterate 2 refine jw_u rfl ?_
  refine jw_u rfl ⟨fun _ => Or.inl rfl, ?_⟩
  iterate 2 refine jw_u rfl ?_
  refine jw_u rfl ⟨fun h => (by cases h), ?_⟩
  iterate 2 refine jw_u rfl ?_
  refine jw_u rfl ⟨fun h => (by cases h), ?_⟩
  iterate 2 refine jw_u rfl ?_
  refine jw_u rfl ⟨fun h => (by cases h), ?_⟩
  iterate 2 refine jw_u rfl ?_
  refine jw_u rfl ⟨fun h => (by cases h), ?_⟩
  iterate 2 refine jw_u rfl ?_
  have w0 := wD_0 (gT z)
  obtain ⟨wc, ws⟩ := w0.2 0 rfl
  refine loop 240 0 C0 S0 _ (by omega) (fQ_t (fQ_u (by decide)) (fQ_t (fQ_u (by decide)) (fQ_t (fQ_u (by decide)) (fQ_t (fQ_u (by decide)) (fQ_t (fQ_u (by decide)) (fQ_t (fQ_u (by decide)) (fQ_t (fQ_u (by decide)) (fQ_u (by decide))))))))) ⟨?_, ?_, Nat.zero_le _⟩ ⟨?_, ?_, ?_, ?_, ?_, fun k hk => absurd hk (Nat.not_lt_zero _), fun k hk => absurd hk (Nat.not_lt_zero _), fun k hk => absurd hk (Nat.not_lt_zero _), rfl⟩ wc ws rfl
  · rw [ju_k (by decide), ju_k (by decide), ju_k (by decide), ju_k (by decide), ju_k (by decide), ju_k (by decide), ju_k (by decide), ju_s]; rfl
  · rw [ju_k (by decide), ju_k (by decide), ju_k (by decide), ju_k (by decide), ju_k (by decide), ju_s]; exact jm1
  · rw [ju_k (by decide), ju_k (by decide), ju_k (by decide), ju_k (by decide), ju_s]; rfl
  · rw [ju_k (by decide), ju_k (by decide), ju_k (by decide), ju_s]; rfl
  · rw [ju_k (by decide), ju_k (by decide), ju_s]; rfl
  · rw [ju_s]; rfl
  · rw [ju_k (by decide), ju_s]; rfl
end MU
