/-! THE REFERENCE: the reader's clauses -/
/-- what is read so far -/
def dC (x : jM) (C : aC) (S : aS) : Prop := x 121 17 = nI (cT C) ∧ x 121 18 = nI (cG C) ∧ x 121 19 = nI (cN C) ∧ x 121 23 = nI (cC C) ∧ x 121 21 = nI (sP S) ∧ (∀ k, k < cN C → x 128 (3 * k) = nI (sH S k) ∧ x 128 (3 * k + 1) = nI (cSl C k) ∧ x 128 (3 * k + 2) = nI (cDr C k)) ∧ (∀ k, k < sP S → x 129 (2 * k) = nI (sN S k) ∧ x 129 (2 * k + 1) = nI (sM S k)) ∧ (∀ k, k < cC C → x 130 k = nI (cSq C k)) ∧ sY S = 0
theorem dC_f {x x' : jM} {C : aC} {S : aS} (h1 : ∀ k, 16 < k → k < 24 → x' 121 k = x 121 k) (h2 : ∀ i, 128 ≤ i → i ≤ 130 → x' i = x i) (h : dC x C S) : dC x' C S := by
  obtain ⟨c1, c2, c3, c4, c5, c6, c7, c8, c9⟩ := h
  refine ⟨by rw [h1 17 (by decide) (by decide)]; exact c1, by rw [h1 18 (by decide) (by decide)]; exact c2, by rw [h1 19 (by decide) (by decide)]; exact c3, by rw [h1 23 (by decide) (by decide)]; exact c4, by rw [h1 21 (by decide) (by decide)]; exact c5, fun k hk => ?_, fun k hk => ?_, fun k hk => ?_, c9⟩
  · rw [h2 128 (by decide) (by decide)]; exact c6 k hk
  · rw [h2 129 (by decide) (by decide)]; exact c7 k hk
  · rw [h2 130 (by decide) (by decide)]; exact c8 k hk
theorem dC_p {x x' : jM} {C : aC} {S : aS} (h : fP x x') (hd : dC x C S) : dC x' C S := dC_f (fun k h1 _ => h.2 k (by omega)) (fun i h1 _ => h.1 i (by omega)) hd
def fQ (x x' : jM) : Prop := (∀ i, i < 121 ∨ 121 < i → i < 128 ∨ 130 < i → x' i = x i) ∧ (∀ k, k < 12 ∨ 24 < k → x' 121 k = x 121 k)
theorem fQ_p {x x' : jM} (h : fP x x') : fQ x x' := ⟨fun i h1 _ => h.1 i (by omega), fun k hk => h.2 k (by omega)⟩
theorem fQ_t {x y w : jM} (h1 : fQ x y) (h2 : fQ y w) : fQ x w := ⟨fun i hi hj => (h2.1 i hi hj).trans (h1.1 i hi hj), fun k hk => (h2.2 k hk).trans (h1.2 k hk)⟩
theorem fQ_u {x : jM} {k : Nat} {v : Int32} (h : 12 ≤ k ∧ k ≤ 24) : fQ x (ju x 121 k v) := ⟨fun i h1 _ => ju_oo (by omega), fun j hj => ju_k (by omega)⟩
theorem fQ_c {x : jM} {o k : Nat} {v : Int32} (h : 128 ≤ o ∧ o ≤ 130) : fQ x (ju x o k v) := ⟨fun i _ h2 => ju_oo (by omega), fun j _ => ju_o (by omega)⟩
theorem fQ_T {x x' : jM} {u : aN} (h : fQ x x') (ht : mT x u) : mT x' u := mT_f (h.2 11 (by omega)) (h.1 127 (by omega) (by omega)) ht
theorem rM_q {x x' : jM} {u : aN} {s : aR} (h : ∀ k, 12 ≤ k → k ≤ 16 → x' 121 k = x 121 k) (hq : rM x u s) : rM x' u s := by
  cases s with
  | inl q => exact ⟨by rw [h 15 (by decide) (by decide)]; exact hq.1, by rw [h 16 (by decide) (by decide)]; exact hq.2.1, hq.2.2⟩
  | inr k => exact ⟨by rw [h 12 (by decide) (by decide)]; exact hq.1, by rw [h 16 (by decide) (by decide)]; exact hq.2.1, hq.2.2⟩
section MQ
variable {d k : Nat} {x : jM} {Q : Option Value → jM → Prop} {u : aN} {C : aC} {S : aS}
theorem m_takesGrand (hu : bT u) (ht : mT x u) (hq : rM x u (.inr k)) (hd : dC x C S) (h : ∀ x', fQ x x' → rM x' u (nmS u 999 (.inr k)).1 → (∀ k', (nmS u 999 (.inr k)).1 = .inr k' → dC x' (1, (nmS u 999 (.inr k)).2, cN C, cC C, cSl C, cDr C, cSq C) S) → Q (some (.int (nI (gd (nmS u 999 (.inr k)).1)))) x') : jo (d + 4) 98 [.ref 121] x Q := by
  refine jo_i rfl rfl (Nat.le_of_ble_eq_true rfl) ?_
  iterate 2 refine jw_u rfl ?_
  refine jw_u rfl ⟨fun _ => Or.inr rfl, ?_⟩
  iterate 3 refine jw_u rfl ?_
  have f0 : fQ x (ju x 121 17 (nI 1)) := fQ_u (by decide)
  refine m_takesNumber (x := ju x 121 17 (nI 1)) (hi := 999) (g := nI 999) hu (by decide) (fQ_T f0 ht) (rM_q (fun k h1 h2 => ju_k (by omega)) hq) (fun x1 f1 r1 n1 => ?_)
  generalize nmS u 999 (.inr k) = r at h r1 n1 ⊢
  obtain ⟨s, v⟩ := r
  cases s with
  | inl q =>
    refine jw_u rfl ⟨fun c => absurd n00 c, fun _ => ?_⟩
    iterate 2 refine jw_u rfl ?_
    exact ⟨fun _ => Or.inl rfl, h x1 (fQ_t f0 (fQ_p f1)) r1 (fun k' e => by cases e)⟩
  | inr k2 =>
    refine jw_u rfl ⟨fun _ => ?_, fun c => absurd c n10⟩
    iterate 3 refine jw_u rfl ?_
    refine jtop (n1 k2 rfl) ?_
    refine jw_u rfl ⟨fun h => (by cases h), ?_⟩
    iterate 2 refine jw_u rfl ?_
    obtain ⟨c1, c2, c3, c4, c5, c6, c7, c8, c9⟩ := hd
    have e1 : ∀ k, k ≠ 18 → k ≠ 17 → 16 < k → ju x1 121 18 (nI v) 121 k = x 121 k := fun k g1 g2 g3 => by rw [ju_k g1, f1.2 k (by omega), ju_k g2]
    have e2 : ∀ i, i ≠ 121 → ju x1 121 18 (nI v) i = x i := fun i hi => by rw [ju_oo hi, f1.1 i hi, ju_oo hi]
    refine ⟨fun _ => Or.inr rfl, h _ (fQ_t f0 (fQ_t (fQ_p f1) (fQ_u (by decide)))) (rM_q (fun k h1 h2 => ju_k (by omega)) r1) (fun k' _ => ⟨?_, ju_s _ _ _ _, ?_, ?_, ?_, fun j hj => ?_, fun j hj => ?_, fun j hj => ?_, c9⟩)⟩
    · rw [ju_k (by decide), f1.2 17 (by omega), ju_s]
    · rw [e1 19 (by decide) (by decide) (by decide)]; exact c3
    · rw [e1 23 (by decide) (by decide) (by decide)]; exact c4
    · rw [e1 21 (by decide) (by decide) (by decide)]; exact c5
    · rw [e2 128 (by decide)]; exact c6 j hj
    · rw [e2 129 (by decide)]; exact c7 j hj
    · rw [e2 130 (by decide)]; exact c8 j hj
theorem m_takesCand (hu : bT u) (ht : mT x u) (hq : rM x u (.inr k)) (hd : dC x C S) (bC : cC C < 4) (h : ∀ x', fQ x x' → rM x' u (nmS u 999 (.inr k)).1 → (∀ k', (nmS u 999 (.inr k)).1 = .inr k' → dC x' (cT C, cG C, cN C, cC C + 1, cSl C, cDr C, upN (cSq C) (cC C) (nmS u 999 (.inr k)).2) S) → Q (some (.int (nI (gd (nmS u 999 (.inr k)).1)))) x') : jo (d + 4) 101 [.ref 121] x Q := by
  refine jo_i rfl rfl (Nat.le_of_ble_eq_true rfl) ?_
  iterate 3 refine jw_u rfl ?_
  refine m_takesNumber (hi := 999) (g := nI 999) hu (by decide) ht hq (fun x1 f1 r1 n1 => ?_)
  generalize nmS u 999 (.inr k) = r at h r1 n1 ⊢
  obtain ⟨s, v⟩ := r
  cases s with
  | inl q =>
    refine jw_u rfl ⟨fun c => absurd n00 c, fun _ => ?_⟩
    iterate 2 refine jw_u rfl ?_
    exact ⟨fun _ => Or.inl rfl, h x1 (fQ_p f1) r1 (fun k' e => by cases e)⟩
  | inr k2 =>
    obtain ⟨c1, c2, c3, c4, c5, c6, c7, c8, c9⟩ := dC_p f1 hd
    refine jw_u rfl ⟨fun _ => ?_, fun c => absurd c n10⟩
    iterate 4 refine jw_u rfl ?_
    refine jtop c4 ?_
    iterate 2 refine jw_u rfl ?_
    refine jtop (n1 k2 rfl) ?_
    refine jw_u rfl (jsN (o := 130) (show cC C < 4 by omega) (by decide) ?_)
    iterate 3 refine jw_u rfl ?_
    refine jtop (v' := nI (cC C)) (by rw [ju_o (by decide)]; exact c4) ?_
    iterate 2 refine jw_u rfl ?_
    refine jtop (nI_add _ 1) ?_
    refine jw_u rfl ⟨fun h => (by cases h), ?_⟩
    iterate 2 refine jw_u rfl ?_
    have e1 : ∀ k, k ≠ 23 → ju (ju x1 130 (cC C) (nI v)) 121 23 (nI (cC C + 1)) 121 k = x1 121 k := fun k g1 => by rw [ju_k g1, ju_o (by decide)]
    refine ⟨fun _ => Or.inr rfl, h _ (fQ_t (fQ_p f1) (fQ_t (fQ_c (by decide)) (fQ_u (by decide)))) (rM_q (fun k h1 h2 => e1 k (by omega)) r1) (fun k' _ => ⟨?_, ?_, ?_, ju_s _ _ _ _, ?_, fun j hj => ?_, fun j hj => ?_, ?_, c9⟩)⟩
    · rw [e1 17 (by decide)]; exact c1
    · rw [e1 18 (by decide)]; exact c2
    · rw [e1 19 (by decide)]; exact c3
    · rw [e1 21 (by decide)]; exact c5
    · rw [ju_oo (by decide), ju_oo (by decide)]; exact c6 j hj
    · rw [ju_oo (by decide), ju_oo (by decide)]; exact c7 j hj
    · exact up_row (x := x1) (o := 130) c8 (by rw [ju_o (by decide), ju_s]) (fun j hj => by rw [ju_o (by decide), ju_k hj])
set_option maxHeartbeats 1000000 in
theorem m_takesPaper (hu : bT u) (ht : mT x u) (hq : rM x u (.inr k)) (hd : dC x C S) (bN : cN C ≤ 8) (bP : sP S < 8) (h : ∀ x', fQ x x' → rM x' u (nmS u 999 (nmS u ((cN C : Int) - 1) (.inr k)).1).1 → (∀ k', (nmS u 999 (nmS u ((cN C : Int) - 1) (.inr k)).1).1 = .inr k' → dC x' C (sH S, sP S + 1, upN (sM S) (sP S) (nmS u 999 (nmS u ((cN C : Int) - 1) (.inr k)).1).2, upN (sN S) (sP S) (nmS u ((cN C : Int) - 1) (.inr k)).2, sY S)) → Q (some (.int (nI (gd (nmS u 999 (nmS u ((cN C : Int) - 1) (.inr k)).1).1)))) x') : jo (d + 4) 100 [.ref 121] x Q := by
  have tail : ∀ j, j < 2 → ∀ y v, y 121 21 = nI (sP S) → y 121 14 = nI v → jw (d + 3) kX7_takesPaper Q 2 [some (.ref 121), some (.int (nI (j + 1)))] [] (ju y 129 (2 * sP S + j) (nI v)) → jw (d + 3) kX7_takesPaper Q 18 [some (.ref 121), some (.int (nI j))] [] y := by
    intro j hj y v a1 a2 hh
    iterate 5 refine jw_u rfl ?_
    refine jtop a1 ?_
    refine jw_u rfl ?_
    refine jtop (pk_mul 2 _) ?_
    iterate 2 refine jw_u rfl ?_
    refine jtop (nI_add _ j) ?_
    iterate 2 refine jw_u rfl ?_
    refine jtop a2 ?_
    refine jw_u rfl (jsN (o := 129) (show 2 * sP S + j < 16 by omega) (by decide) ?_)
    iterate 2 refine jw_u rfl ?_
    rw [nI_s j] at hh
    exact hh
  refine jo_i rfl rfl (Nat.le_of_ble_eq_true rfl) ?_
  iterate 4 refine jw_u rfl ?_
  refine jw_u rfl ⟨fun (c : nI 2 ≤ nI 0) => absurd c (by decide), fun _ => ?_⟩
  iterate 2 refine jw_u rfl ?_
  refine jw_u rfl ⟨fun c => absurd n00 c, fun _ => ?_⟩
  iterate 2 refine jw_u rfl ?_
  refine jtop hd.2.2.1 ?_
  iterate 4 refine jw_u rfl ?_
  refine m_takesNumber (hi := (cN C : Int) - 1) (g := nI (cN C) - nI 1) hu (pk_sub_toInt (by omega) (by decide)) ht hq (fun x1 f1 r1 n1 => ?_)
  generalize nmS u ((cN C : Int) - 1) (.inr k) = r at h r1 n1 ⊢
  obtain ⟨s, v1⟩ := r
  cases s with
  | inl q =>
    refine jw_u rfl ⟨fun c => absurd n00 c, fun _ => ?_⟩
    iterate 2 refine jw_u rfl ?_
    exact ⟨fun _ => Or.inl rfl, h x1 (fQ_p f1) r1 (fun k' (e : (.inl q : aR) = .inr k') => by cases e)⟩
  | inr k2 =>
    have d1 := dC_p f1 hd
    refine jw_u rfl ⟨fun _ => ?_, fun c => absurd c n10⟩
    refine tail 0 (by decide) x1 v1 d1.2.2.2.2.1 (n1 k2 rfl) ?_
    iterate 2 refine jw_u rfl ?_
    refine jw_u rfl ⟨fun (c : nI 2 ≤ nI 1) => absurd c (by decide), fun _ => ?_⟩
    iterate 2 refine jw_u rfl ?_
    refine jw_u rfl ⟨fun _ => ?_, fun c => absurd c n10⟩
    iterate 2 refine jw_u rfl ?_
    have f2 : fQ x (ju x1 129 (2 * sP S + 0) (nI v1)) := fQ_t (fQ_p f1) (fQ_c (by decide))
    refine m_takesNumber (x := ju x1 129 (2 * sP S + 0) (nI v1)) (hi := 999) (g := nI 999) hu (by decide) (fQ_T f2 ht) (rM_q (fun k h1 h2 => ju_o (by decide)) r1) (fun x2 f3 r2 n2 => ?_)
    show jw (d + 3) kX7_takesPaper Q 15 _ [.int (nI (gd (nmS u 999 (.inr k2)).1))] x2
    have h : ∀ x', fQ x x' → rM x' u (nmS u 999 (.inr k2)).1 → (∀ k', (nmS u 999 (.inr k2)).1 = .inr k' → dC x' C (sH S, sP S + 1, upN (sM S) (sP S) (nmS u 999 (.inr k2)).2, upN (sN S) (sP S) v1, sY S)) → Q (some (.int (nI (gd (nmS u 999 (.inr k2)).1)))) x' := h
    generalize nmS u 999 (.inr k2) = r at h r2 n2 ⊢
    obtain ⟨s, v2⟩ := r
    cases s with
    | inl q =>
      refine jw_u rfl ⟨fun c => absurd n00 c, fun _ => ?_⟩
      iterate 2 refine jw_u rfl ?_
      exact ⟨fun _ => Or.inl rfl, h x2 (fQ_t f2 (fQ_p f3)) r2 (fun k' e => by cases e)⟩
    | inr k3 =>
      obtain ⟨c1, c2, c3, c4, c5, c6, c7, c8, c9⟩ := d1
      have g1 : ∀ k, 16 < k → x2 121 k = x1 121 k := fun k hk => by rw [f3.2 k (by omega), ju_o (by decide)]
      have g2 : ∀ i, i ≠ 121 → x2 i = ju x1 129 (2 * sP S + 0) (nI v1) i := fun i hi => f3.1 i hi
      refine jw_u rfl ⟨fun _ => ?_, fun c => absurd c n10⟩
      refine tail 1 (by decide) x2 v2 ((g1 21 (by decide)).trans c5) (n2 k3 rfl) ?_
      iterate 2 refine jw_u rfl ?_
      refine jw_u rfl ⟨fun _ => ?_, fun (c : ¬ nI 2 ≤ nI 2) => absurd (Int32.le_refl _) c⟩
      iterate 3 refine jw_u rfl ?_
      refine jtop (v' := nI (sP S)) (by rw [ju_o (by decide), g1 21 (by decide)]; exact c5) ?_
      iterate 2 refine jw_u rfl ?_
      refine jtop (nI_add _ 1) ?_
      refine jw_u rfl ⟨fun h => (by cases h), ?_⟩
      iterate 2 refine jw_u rfl ?_
      have e1 : ∀ k, k ≠ 21 → 16 < k → ju (ju x2 129 (2 * sP S + 1) (nI v2)) 121 21 (nI (sP S + 1)) 121 k = x1 121 k := fun k h1 h2 => by rw [ju_k h1, ju_o (by decide), g1 k h2]
      have e2 : ∀ i, i ≠ 121 → i ≠ 129 → ju (ju x2 129 (2 * sP S + 1) (nI v2)) 121 21 (nI (sP S + 1)) i = x1 i := fun i h1 h2 => by rw [ju_oo h1, ju_oo h2, g2 i h1, ju_oo h2]
      have e3 : ∀ j, ju (ju x2 129 (2 * sP S + 1) (nI v2)) 121 21 (nI (sP S + 1)) 129 j = if j = 2 * sP S + 1 then nI v2 else if j = 2 * sP S then nI v1 else x1 129 j := by
        intro j
        rw [ju_o (by decide)]
        by_cases h1 : j = 2 * sP S + 1
        · rw [if_pos h1, h1, ju_s]
        · rw [if_neg h1, ju_k h1, g2 129 (by decide)]
          by_cases h2 : j = 2 * sP S
          · rw [if_pos h2, h2, Nat.add_zero, ju_s]
          · rw [if_neg h2, Nat.add_zero, ju_k h2]
      refine ⟨fun _ => Or.inr rfl, h _ (fQ_t f2 (fQ_t (fQ_p f3) (fQ_t (fQ_c (by decide)) (fQ_u (by decide))))) (rM_q (fun k h1 h2 => by rw [ju_k (by omega), ju_o (by decide)]) r2) (fun k' _ => ⟨?_, ?_, ?_, ?_, ju_s _ _ _ _, fun j hj => ?_, fun j hj => ?_, fun j hj => ?_, c9⟩)⟩
      · rw [e1 17 (by decide) (by decide)]; exact c1
      · rw [e1 18 (by decide) (by decide)]; exact c2
      · rw [e1 19 (by decide) (by decide)]; exact c3
      · rw [e1 23 (by decide) (by decide)]; exact c4
      · rw [e2 128 (by decide) (by decide)]; exact c6 j hj
      · have hj : j < sP S + 1 := hj
        rw [e3, e3]
        show _ = nI (upN (sN S) (sP S) v1 j) ∧ _ = nI (upN (sM S) (sP S) v2 j)
        by_cases e : j = sP S
        · subst e
          rw [if_neg (by omega), if_pos rfl, if_pos rfl, upN_s, upN_s]
          exact ⟨rfl, rfl⟩
        · rw [if_neg (by omega), if_neg (by omega), if_neg (by omega), if_neg (by omega), upN_o e, upN_o e]
          exact c7 j (by omega)
      · rw [e2 130 (by decide) (by decide)]; exact c8 j hj
set_option maxHeartbeats 1000000 in
theorem m_takesPerson (hu : bT u) (ht : mT x u) (hq : rM x u (.inr k)) (hd : dC x C S) (bN : cN C < 8) (h : ∀ x', fQ x x' → rM x' u (nmS u 2 (nmS u 3 (nmS u 999 (.inr k)).1).1).1 → (∀ k', (nmS u 2 (nmS u 3 (nmS u 999 (.inr k)).1).1).1 = .inr k' → dC x' (cT C, cG C, cN C + 1, cC C, upN (cSl C) (cN C) (nmS u 3 (nmS u 999 (.inr k)).1).2, upN (cDr C) (cN C) (nmS u 2 (nmS u 3 (nmS u 999 (.inr k)).1).1).2, cSq C) (upN (sH S) (cN C) (nmS u 999 (.inr k)).2, sP S, sM S, sN S, sY S)) → Q (some (.int (nI (gd (nmS u 2 (nmS u 3 (nmS u 999 (.inr k)).1).1).1)))) x') : jo (d + 4) 99 [.ref 121] x Q := by
  have tail : ∀ j, j < 3 → ∀ y v, y 121 19 = nI (cN C) → y 121 14 = nI v → jw (d + 3) kX7_takesPerson Q 2 [some (.ref 121), some (.int (nI (j + 1)))] [] (ju y 128 (3 * cN C + j) (nI v)) → jw (d + 3) kX7_takesPerson Q 20 [some (.ref 121), some (.int (nI j))] [] y := by
    intro j hj y v a1 a2 hh
    iterate 5 refine jw_u rfl ?_
    refine jtop a1 ?_
    refine jw_u rfl ?_
    refine jtop (pk_mul 3 _) ?_
    iterate 2 refine jw_u rfl ?_
    refine jtop (nI_add _ j) ?_
    iterate 2 refine jw_u rfl ?_
    refine jtop a2 ?_
    refine jw_u rfl (jsN (o := 128) (show 3 * cN C + j < 24 by omega) (by decide) ?_)
    iterate 2 refine jw_u rfl ?_
    rw [nI_s j] at hh
    exact hh
  refine jo_i rfl rfl (Nat.le_of_ble_eq_true rfl) ?_
  iterate 4 refine jw_u rfl ?_
  refine jw_u rfl ⟨fun (c : nI 3 ≤ nI 0) => absurd c (by decide), fun _ => ?_⟩
  iterate 2 refine jw_u rfl ?_
  refine jw_u rfl ⟨fun c => absurd n00 c, fun _ => ?_⟩
  iterate 3 refine jw_u rfl ?_
  refine m_takesNumber (hi := 999) (g := nI 999) hu (by decide) ht hq (fun x1 f1 r1 n1 => ?_)
  generalize nmS u 999 (.inr k) = r at h r1 n1 ⊢
  obtain ⟨s, v1⟩ := r
  cases s with
  | inl q =>
    refine jw_u rfl ⟨fun c => absurd n00 c, fun _ => ?_⟩
    iterate 2 refine jw_u rfl ?_
    exact ⟨fun _ => Or.inl rfl, h x1 (fQ_p f1) r1 (fun k' (e : (.inl q : aR) = .inr k') => by cases e)⟩
  | inr k2 =>
    have d1 := dC_p f1 hd
    refine jw_u rfl ⟨fun _ => ?_, fun c => absurd c n10⟩
    refine tail 0 (by decide) x1 v1 d1.2.2.1 (n1 k2 rfl) ?_
    iterate 2 refine jw_u rfl ?_
    refine jw_u rfl ⟨fun (c : nI 3 ≤ nI 1) => absurd c (by decide), fun _ => ?_⟩
    iterate 2 refine jw_u rfl ?_
    refine jw_u rfl ⟨fun _ => ?_, fun c => absurd c n10⟩
    iterate 2 refine jw_u rfl ?_
    refine jw_u rfl ⟨fun (c : ¬ nI 1 = nI 1) => absurd rfl c, fun _ => ?_⟩
    iterate 3 refine jw_u rfl ?_
    have f2 : fQ x (ju x1 128 (3 * cN C + 0) (nI v1)) := fQ_t (fQ_p f1) (fQ_c (by decide))
    refine m_takesNumber (x := ju x1 128 (3 * cN C + 0) (nI v1)) (hi := 3) (g := nI 3) hu (by decide) (fQ_T f2 ht) (rM_q (fun k h1 h2 => ju_o (by decide)) r1) (fun x2 f3 r2 n2 => ?_)
    show jw (d + 3) kX7_takesPerson Q 17 _ [.int (nI (gd (nmS u 3 (.inr k2)).1))] x2
    have h : ∀ x', fQ x x' → rM x' u (nmS u 2 (nmS u 3 (.inr k2)).1).1 → (∀ k', (nmS u 2 (nmS u 3 (.inr k2)).1).1 = .inr k' → dC x' (cT C, cG C, cN C + 1, cC C, upN (cSl C) (cN C) (nmS u 3 (.inr k2)).2, upN (cDr C) (cN C) (nmS u 2 (nmS u 3 (.inr k2)).1).2, cSq C) (upN (sH S) (cN C) v1, sP S, sM S, sN S, sY S)) → Q (some (.int (nI (gd (nmS u 2 (nmS u 3 (.inr k2)).1).1)))) x' := h
    generalize nmS u 3 (.inr k2) = r at h r2 n2 ⊢
    obtain ⟨s, v2⟩ := r
    cases s with
    | inl q =>
      refine jw_u rfl ⟨fun c => absurd n00 c, fun _ => ?_⟩
      iterate 2 refine jw_u rfl ?_
      exact ⟨fun _ => Or.inl rfl, h x2 (fQ_t f2 (fQ_p f3)) r2 (fun k' (e : (.inl q : aR) = .inr k') => by cases e)⟩
    | inr k3 =>
      obtain ⟨c1, c2, c3, c4, c5, c6, c7, c8, c9⟩ := d1
      have g1 : ∀ k, 16 < k → x2 121 k = x1 121 k := fun k hk => by rw [f3.2 k (by omega), ju_o (by decide)]
      have g2 : ∀ i, i ≠ 121 → x2 i = ju x1 128 (3 * cN C + 0) (nI v1) i := fun i hi => f3.1 i hi
      refine jw_u rfl ⟨fun _ => ?_, fun c => absurd c n10⟩
      refine tail 1 (by decide) x2 v2 ((g1 19 (by decide)).trans c3) (n2 k3 rfl) ?_
      iterate 2 refine jw_u rfl ?_
      refine jw_u rfl ⟨fun (c : nI 3 ≤ nI 2) => absurd c (by decide), fun _ => ?_⟩
      iterate 2 refine jw_u rfl ?_
      refine jw_u rfl ⟨fun _ => ?_, fun (c : nI 2 = 0) => absurd c (by decide)⟩
      iterate 2 refine jw_u rfl ?_
      refine jw_u rfl ⟨fun _ => ?_, fun (c : nI 2 = nI 1) => absurd c (by decide)⟩
      iterate 2 refine jw_u rfl ?_
      have f4 : fQ x (ju x2 128 (3 * cN C + 1) (nI v2)) := fQ_t f2 (fQ_t (fQ_p f3) (fQ_c (by decide)))
      refine m_takesNumber (x := ju x2 128 (3 * cN C + 1) (nI v2)) (hi := 2) (g := nI 2) hu (by decide) (fQ_T f4 ht) (rM_q (fun k h1 h2 => ju_o (by decide)) r2) (fun x3 f5 r3 n3 => ?_)
      show jw (d + 3) kX7_takesPerson Q 17 _ [.int (nI (gd (nmS u 2 (.inr k3)).1))] x3
      have h : ∀ x', fQ x x' → rM x' u (nmS u 2 (.inr k3)).1 → (∀ k', (nmS u 2 (.inr k3)).1 = .inr k' → dC x' (cT C, cG C, cN C + 1, cC C, upN (cSl C) (cN C) v2, upN (cDr C) (cN C) (nmS u 2 (.inr k3)).2, cSq C) (upN (sH S) (cN C) v1, sP S, sM S, sN S, sY S)) → Q (some (.int (nI (gd (nmS u 2 (.inr k3)).1)))) x' := h
      generalize nmS u 2 (.inr k3) = r at h r3 n3 ⊢
      obtain ⟨s, v3⟩ := r
      cases s with
      | inl q =>
        refine jw_u rfl ⟨fun c => absurd n00 c, fun _ => ?_⟩
        iterate 2 refine jw_u rfl ?_
        exact ⟨fun _ => Or.inl rfl, h x3 (fQ_t f4 (fQ_p f5)) r3 (fun k' e => by cases e)⟩
      | inr k4 =>
        have g3 : ∀ k, 16 < k → x3 121 k = x1 121 k := fun k hk => by rw [f5.2 k (by omega), ju_o (by decide), g1 k hk]
        have g4 : ∀ i, i ≠ 121 → x3 i = ju x2 128 (3 * cN C + 1) (nI v2) i := fun i hi => f5.1 i hi
        refine jw_u rfl ⟨fun _ => ?_, fun c => absurd c n10⟩
        refine tail 2 (by decide) x3 v3 ((g3 19 (by decide)).trans c3) (n3 k4 rfl) ?_
        iterate 2 refine jw_u rfl ?_
        refine jw_u rfl ⟨fun _ => ?_, fun (c : ¬ nI 3 ≤ nI 3) => absurd (Int32.le_refl _) c⟩
        iterate 3 refine jw_u rfl ?_
        refine jtop (v' := nI (cN C)) (by rw [ju_o (by decide), g3 19 (by decide)]; exact c3) ?_
        iterate 2 refine jw_u rfl ?_
        refine jtop (nI_add _ 1) ?_
        refine jw_u rfl ⟨fun h => (by cases h), ?_⟩
        iterate 2 refine jw_u rfl ?_
        have e1 : ∀ k, k ≠ 19 → 16 < k → ju (ju x3 128 (3 * cN C + 2) (nI v3)) 121 19 (nI (cN C + 1)) 121 k = x1 121 k := fun k h1 h2 => by rw [ju_k h1, ju_o (by decide), g3 k h2]
        have e2 : ∀ i, i ≠ 121 → i ≠ 128 → ju (ju x3 128 (3 * cN C + 2) (nI v3)) 121 19 (nI (cN C + 1)) i = x1 i := fun i h1 h2 => by rw [ju_oo h1, ju_oo h2, g4 i h1, ju_oo h2, g2 i h1, ju_oo h2]
        have e3 : ∀ j, ju (ju x3 128 (3 * cN C + 2) (nI v3)) 121 19 (nI (cN C + 1)) 128 j = if j = 3 * cN C + 2 then nI v3 else if j = 3 * cN C + 1 then nI v2 else if j = 3 * cN C then nI v1 else x1 128 j := by
          intro j
          rw [ju_o (by decide)]
          by_cases h1 : j = 3 * cN C + 2
          · rw [if_pos h1, h1, ju_s]
          · rw [if_neg h1, ju_k h1, g4 128 (by decide)]
            by_cases h2 : j = 3 * cN C + 1
            · rw [if_pos h2, h2, ju_s]
            · rw [if_neg h2, ju_k h2, g2 128 (by decide)]
              by_cases h3 : j = 3 * cN C
              · rw [if_pos h3, h3, Nat.add_zero, ju_s]
              · rw [if_neg h3, Nat.add_zero, ju_k h3]
        refine ⟨fun _ => Or.inr rfl, h _ (fQ_t f4 (fQ_t (fQ_p f5) (fQ_t (fQ_c (by decide)) (fQ_u (by decide))))) (rM_q (fun k h1 h2 => by rw [ju_k (by omega), ju_o (by decide)]) r3) (fun k' _ => ⟨?_, ?_, ju_s _ _ _ _, ?_, ?_, fun j hj => ?_, fun j hj => ?_, fun j hj => ?_, c9⟩)⟩
        · rw [e1 17 (by decide) (by decide)]; exact c1
        · rw [e1 18 (by decide) (by decide)]; exact c2
        · rw [e1 23 (by decide) (by decide)]; exact c4
        · rw [e1 21 (by decide) (by decide)]; exact c5
        · have hj : j < cN C + 1 := hj
          rw [e3, e3, e3]
          show _ = nI (upN (sH S) (cN C) v1 j) ∧ _ = nI (upN (cSl C) (cN C) v2 j) ∧ _ = nI (upN (cDr C) (cN C) v3 j)
          by_cases e : j = cN C
          · subst e
            rw [if_neg (by omega), if_neg (by omega), if_pos rfl, if_neg (by omega), if_pos rfl, if_pos rfl, upN_s, upN_s, upN_s]
            exact ⟨rfl, rfl, rfl⟩
          · rw [if_neg (by omega), if_neg (by omega), if_neg (by omega), if_neg (by omega), if_neg (by omega), if_neg (by omega), if_neg (by omega), if_neg (by omega), if_neg (by omega), upN_o e, upN_o e, upN_o e]
            exact c6 j (by omega)
        · rw [e2 129 (by decide) (by decide)]; exact c7 j hj
        · rw [e2 130 (by decide) (by decide)]; exact c8 j hj
end MQ
