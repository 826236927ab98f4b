/-! THE CLASS: the reader's clauses -/
def fD (x x' : jM) : Prop := (∀ i, i = 0 ∨ i = 2 ∨ 10 < i → x' i = x i) ∧ x' 1 1 = x 1 1
theorem fD_r {x x' : jM} (h : fR x x') : fD x x' := ⟨fun i hi => h.1 i (by omega), h.2⟩
theorem fD_t {x y w : jM} (h1 : fD x y) (h2 : fD y w) : fD x w := ⟨fun i hi => (h2.1 i hi).trans (h1.1 i hi), h2.2.trans h1.2⟩
theorem fD_u {x : jM} {o k : Nat} {v : Int32} (h : 3 ≤ o ∧ o ≤ 10) : fD x (ju x o k v) := ⟨fun i hi => ju_oo (by omega), ju_o (by omega)⟩
def dX (x : jM) (u : aN) (r : aR × aC × aS) : Prop := xC x 3 r.2.1 ∧ xS x 7 (cN r.2.1) r.2.2 ∧ xT x u ∧ rQ x u r.1
theorem fR_5 {x : jM} {a b : Int32} : fR x (ju (ju x 1 5 a) 1 6 b) := ⟨fun i hi => by rw [ju_oo hi, ju_oo hi], by rw [ju_k (by decide), ju_k (by decide)]⟩
theorem dX_bad {x : jM} {u : aN} {a b : Nat} {C : aC} {S : aS} (h1 : 1 ≤ a) (h2 : a ≤ 3) (hC : xC x 3 C) (hS : xS x 7 (cN C) S) (ht : xT x u) : dX (ju (ju x 1 5 (nI a)) 1 6 (nI b)) u (.inl (a, b), C, S) := by
  have f : fR x (ju (ju x 1 5 (nI a)) 1 6 (nI b)) := fR_5
  exact ⟨xC_f (fun i g1 g2 => f.1 i (by omega)) hC, xS_f (fun i g1 g2 => f.1 i (by omega)) hS, fR_T f ht, ⟨by rw [ju_k (by decide), ju_s], ju_s _ _ _ _, h1, h2⟩⟩
theorem rQ_u {x : jM} {u : aN} {s : aR} {o k : Nat} {v : Int32} (h : 3 ≤ o) (hq : rQ x u s) : rQ (ju x o k v) u s := rQ_f (ju_oo (by omega)) hq
theorem xT_u {x : jM} {u : aN} {o k : Nat} {v : Int32} (h : 3 ≤ o) (hq : xT x u) : xT (ju x o k v) u := xT_f (ju_o (by omega)) (ju_oo (by omega)) hq
/-- a store at the end of a row -/
theorem up_row {x y : jM} {o n : Nat} {f : Nat → Nat} {v : Nat} (h : ∀ k, k < n → x o k = nI (f k)) (e1 : y o n = nI v) (e2 : ∀ k, k ≠ n → y o k = x o k) : ∀ k, k < n + 1 → y o k = nI (upN f n v k) := by
  intro k hk
  by_cases e : k = n
  · rw [e, upN_s]; exact e1
  · rw [upN_o e, e2 k e]; exact h k (by omega)
section CK
variable {d k : Nat} {x : jM} {Q : Option Value → jM → Prop} {u : aN} {C : aC} {S : aS}
theorem c_readGrand (hu : bT u) (hC : xC x 3 C) (hS : xS x 7 (cN C) S) (ht : xT x u) (hq : rQ x u (.inr (k + 1))) (bC : cT C ≤ 1) (h : ∀ x', fD x x' → dX x' u (clX u k C S) → Q none x') : jo (d + 4) 11 [.ref 1, .int (nI k)] x Q := by
  refine jo_i rfl rfl (Nat.le_of_ble_eq_true rfl) ?_
  iterate 3 refine jw_u rfl ?_
  refine jtop hC.1 ?_
  unfold clX at h
  refine jw_u rfl ⟨fun (c : nI (cT C) = 0) => ?_, fun (c : ¬ nI (cT C) = 0) => ?_⟩
  · rw [if_neg (fun e => by rw [e] at c; exact n10 c)] at h
    iterate 3 refine jw_u rfl ?_
    refine c_readNumber (g := nI 999) (hi := 999) hu (by decide) ht hq (fun x1 f1 t1 q1 => ?_)
    iterate 3 refine jw_u rfl ?_
    refine c_readEnd hu t1 q1 (fun x2 f2 t2 q2 => ?_)
    have f := fR_t f1 f2
    generalize nmS u 999 (.inr (k + 1)) = r1 at h q1 q2 ⊢
    have fin : dX (ju (ju x2 3 1 (nI r1.2)) 3 0 (nI 1)) u (enS u r1.1, (1, r1.2, cN C, cC C, cSl C, cDr C, cSq C), S) := by
      have e3 := f.1 3 (by decide)
      refine ⟨⟨ju_s _ _ _ _, ?_, ?_, ?_, fun j hj => ?_, fun j hj => ?_, fun j hj => ?_⟩, ?_, xT_u (by decide) (xT_u (by decide) t2), rQ_u (by decide) (rQ_u (by decide) q2)⟩
      · rw [ju_k (by decide), ju_s]
      · rw [ju_k (by decide), ju_k (by decide), e3]; exact hC.2.2.1
      · rw [ju_k (by decide), ju_k (by decide), e3]; exact hC.2.2.2.1
      · rw [ju_o (by decide), ju_o (by decide), f.1 4 (by decide)]; exact hC.2.2.2.2.1 j hj
      · rw [ju_o (by decide), ju_o (by decide), f.1 5 (by decide)]; exact hC.2.2.2.2.2.1 j hj
      · rw [ju_o (by decide), ju_o (by decide), f.1 6 (by decide)]; exact hC.2.2.2.2.2.2 j hj
      · exact xS_f (fun i g1 g2 => by rw [ju_oo (by omega), ju_oo (by omega), f.1 i (by omega)]) hS
    iterate 3 refine jw_u rfl ?_
    refine jw_u rfl ⟨fun h => (by cases h), ?_⟩
    iterate 3 refine jw_u rfl ?_
    refine jw_u rfl ⟨fun _ => Or.inr rfl, ?_⟩
    refine jw_u rfl ?_
    exact h _ (fD_t (fD_r f) (fD_t (fD_u (by decide)) (fD_u (by decide)))) fin
  · rw [if_pos (by
      rcases (show cT C = 0 ∨ cT C = 1 by omega) with e | e
      · rw [e] at c
        exact absurd n00 c
      · exact e)] at h
    iterate 4 refine jw_u rfl ?_
    refine c_fail ?_
    refine jw_u rfl ?_
    exact h _ (fD_r fR_5) (dX_bad (a := 3) (b := k) (by decide) (by decide) hC hS ht)
theorem c_readPerson (hu : bT u) (hC : xC x 3 C) (hS : xS x 7 (cN C) S) (ht : xT x u) (hq : rQ x u (.inr (k + 1))) (bC : cN C ≤ 8) (h : ∀ x', fD x x' → dX x' u (clP u k C S) → Q none x') : jo (d + 4) 12 [.ref 1, .int (nI k)] x Q := by
  refine jo_i rfl rfl (Nat.le_of_ble_eq_true rfl) ?_
  iterate 3 refine jw_u rfl ?_
  refine jtop hC.2.2.1 ?_
  iterate 3 refine jw_u rfl ?_
  unfold clP at h
  refine jw_u rfl ⟨fun (c : nI (cN C) < nI 8) => ?_, fun (c : ¬ nI (cN C) < nI 8) => ?_⟩
  · rw [nI_ltI (by omega) (by decide)] at c
    rw [if_pos c] at h
    iterate 7 refine jw_u rfl ?_
    refine c_readNumber (g := nI 999) (hi := 999) hu (by decide) ht hq (fun x1 f1 t1 q1 => ?_)
    generalize nmS u 999 (.inr (k + 1)) = r1 at h q1 ⊢
    refine jw_u rfl (jsN (show cN C < 8 by omega) (by decide) ?_)
    iterate 7 refine jw_u rfl ?_
    refine c_readNumber (x := ju x1 8 (cN C) (nI r1.2)) (g := nI 3) (hi := 3) hu (by decide) (xT_u (by decide) t1) (rQ_u (by decide) q1) (fun x2 f2 t2 q2 => ?_)
    generalize nmS u 3 r1.1 = r2 at h q2 ⊢
    refine jw_u rfl (jsN (show cN C < 8 by omega) (by decide) ?_)
    iterate 7 refine jw_u rfl ?_
    refine c_readNumber (x := ju x2 4 (cN C) (nI r2.2)) (g := nI 2) (hi := 2) hu (by decide) (xT_u (by decide) t2) (rQ_u (by decide) q2) (fun x3 f3 t3 q3 => ?_)
    generalize nmS u 2 r2.1 = r3 at h q3 ⊢
    refine jw_u rfl (jsN (show cN C < 8 by omega) (by decide) ?_)
    iterate 2 refine jw_u rfl ?_
    refine c_readEnd (x := ju x3 5 (cN C) (nI r3.2)) hu (xT_u (by decide) t3) (rQ_u (by decide) q3) (fun x4 f4 t4 q4 => ?_)
    have fz : fD x x4 := fD_t (fD_r f1) (fD_t (fD_u (by decide)) (fD_t (fD_r f2) (fD_t (fD_u (by decide)) (fD_t (fD_r f3) (fD_t (fD_u (by decide)) (fD_r f4))))))
    have fo : ∀ i, i ≠ 1 → i ≠ 8 → i ≠ 4 → i ≠ 5 → x4 i = x i := fun i g1 g2 g3 g4 => by rw [f4.1 i g1, ju_oo g4, f3.1 i g1, ju_oo g3, f2.1 i g1, ju_oo g2, f1.1 i g1]
    have e8 : x4 8 = (ju x1 8 (cN C) (nI r1.2)) 8 := by rw [f4.1 8 (by decide), ju_oo (by decide), f3.1 8 (by decide), ju_oo (by decide), f2.1 8 (by decide)]
    have e4 : x4 4 = (ju x2 4 (cN C) (nI r2.2)) 4 := by rw [f4.1 4 (by decide), ju_oo (by decide), f3.1 4 (by decide)]
    have e5 : x4 5 = (ju x3 5 (cN C) (nI r3.2)) 5 := by rw [f4.1 5 (by decide)]
    have fin : dX (ju x4 3 2 (nI (cN C + 1))) u (enS u r3.1, (cT C, cG C, cN C + 1, cC C, upN (cSl C) (cN C) r2.2, upN (cDr C) (cN C) r3.2, cSq C), (upN (sH S) (cN C) r1.2, sP S, sM S, sN S, sY S)) := by
      have e3 := fo 3 (by decide) (by decide) (by decide) (by decide)
      have e7 := fo 7 (by decide) (by decide) (by decide) (by decide)
      refine ⟨⟨?_, ?_, ju_s _ _ _ _, ?_, ?_, ?_, fun j hj => ?_⟩, ⟨?_, ?_, fun j hj => ?_, fun j hj => ?_, ?_⟩, xT_u (by decide) t4, rQ_u (by decide) q4⟩
      · rw [ju_k (by decide), e3]; exact hC.1
      · rw [ju_k (by decide), e3]; exact hC.2.1
      · rw [ju_k (by decide), e3]; exact hC.2.2.2.1
      · refine up_row (x := x) (o := 4) hC.2.2.2.2.1 (by rw [ju_o (by decide), e4, ju_s]) (fun j hj => by rw [ju_o (by decide), e4, ju_k hj, f2.1 4 (by decide), ju_o (by decide), f1.1 4 (by decide)])
      · refine up_row (x := x) (o := 5) hC.2.2.2.2.2.1 (by rw [ju_o (by decide), e5, ju_s]) (fun j hj => by rw [ju_o (by decide), e5, ju_k hj, f3.1 5 (by decide), ju_o (by decide), f2.1 5 (by decide), ju_o (by decide), f1.1 5 (by decide)])
      · rw [ju_o (by decide), fo 6 (by decide) (by decide) (by decide) (by decide)]; exact hC.2.2.2.2.2.2 j hj
      · refine up_row (x := x) (o := 8) hS.1 (by rw [ju_o (by decide), e8, ju_s]) (fun j hj => by rw [ju_o (by decide), e8, ju_k hj, f1.1 8 (by decide)])
      · rw [ju_o (by decide), e7]; exact hS.2.1
      · rw [ju_o (by decide), fo 9 (by decide) (by decide) (by decide) (by decide)]; exact hS.2.2.1 j hj
      · rw [ju_o (by decide), fo 10 (by decide) (by decide) (by decide) (by decide)]; exact hS.2.2.2.1 j hj
      · rw [ju_o (by decide), e7]; exact hS.2.2.2.2
    iterate 4 refine jw_u rfl ?_
    refine jtop (v' := nI (cN C)) (by rw [fo 3 (by decide) (by decide) (by decide) (by decide)]; exact hC.2.2.1) ?_
    iterate 2 refine jw_u rfl ?_
    refine jtop (nI_add (cN C) 1) ?_
    refine jw_u rfl ⟨fun h => (by cases h), ?_⟩
    refine jw_u rfl ?_
    exact h _ (fD_t fz (fD_u (by decide))) fin
  · rw [nI_ltI (by omega) (by decide)] at c
    rw [if_neg c] at h
    iterate 4 refine jw_u rfl ?_
    refine c_fail ?_
    refine jw_u rfl ?_
    exact h _ (fD_r fR_5) (dX_bad (a := 3) (b := k) (by decide) (by decide) hC hS ht)
theorem c_readPaper (hu : bT u) (hC : xC x 3 C) (hS : xS x 7 (cN C) S) (ht : xT x u) (hq : rQ x u (.inr (k + 1))) (bC : cN C ≤ 8) (bP : sP S ≤ 8) (h : ∀ x', fD x x' → dX x' u (clS u k C S) → Q none x') : jo (d + 4) 13 [.ref 1, .int (nI k)] x Q := by
  refine jo_i rfl rfl (Nat.le_of_ble_eq_true rfl) ?_
  iterate 3 refine jw_u rfl ?_
  refine jtop hS.2.1 ?_
  refine jw_u rfl ?_
  unfold clS at h
  refine jw_u rfl ⟨fun (c : nI (sP S) < nI 8) => ?_, fun (c : ¬ nI (sP S) < nI 8) => ?_⟩
  · rw [nI_ltI (by omega) (by decide)] at c
    rw [if_pos c] at h
    iterate 4 refine jw_u rfl ?_
    refine jtop hC.2.2.1 ?_
    iterate 3 refine jw_u rfl ?_
    refine c_readNumber (g := nI (cN C) - nI 1) (hi := (cN C : Int) - 1) hu (pk_sub_toInt (by omega) (by decide)) ht hq (fun x1 f1 t1 q1 => ?_)
    generalize nmS u ((cN C : Int) - 1) (.inr (k + 1)) = r1 at h q1 ⊢
    iterate 4 refine jw_u rfl ?_
    refine c_readNumber (g := nI 999) (hi := 999) hu (by decide) t1 q1 (fun x2 f2 t2 q2 => ?_)
    generalize nmS u 999 r1.1 = r2 at h q2 ⊢
    iterate 3 refine jw_u rfl ?_
    refine c_readEnd hu t2 q2 (fun x3 f3 t3 q3 => ?_)
    have f := fR_t f1 (fR_t f2 f3)
    have e7 := f.1 7 (by decide)
    iterate 5 refine jw_u rfl ?_
    refine c_addPaper (o := 7) (k := sP S) (Or.inr rfl) (by rw [e7]; exact hS.2.1) c ?_
    have fin : dX (ju (ju (ju x3 10 (sP S) (nI r1.2)) 9 (sP S) (nI r2.2)) 7 1 (nI (sP S + 1))) u (enS u r2.1, C, (sH S, sP S + 1, upN (sM S) (sP S) r2.2, upN (sN S) (sP S) r1.2, sY S)) := by
      refine ⟨xC_f (fun i g1 g2 => by rw [ju_oo (by omega), ju_oo (by omega), ju_oo (by omega), f.1 i (by omega)]) hC, ⟨fun j hj => ?_, ju_s _ _ _ _, ?_, ?_, ?_⟩, xT_u (by decide) (xT_u (by decide) (xT_u (by decide) t3)), rQ_u (by decide) (rQ_u (by decide) (rQ_u (by decide) q3))⟩
      · rw [ju_o (by decide), ju_o (by decide), ju_o (by decide), f.1 8 (by decide)]; exact hS.1 j hj
      · refine up_row (x := x) (o := 9) hS.2.2.1 (by rw [ju_o (by decide), ju_s]) (fun j hj => by rw [ju_o (by decide), ju_k hj, ju_o (by decide), f.1 9 (by decide)])
      · refine up_row (x := x) (o := 10) hS.2.2.2.1 (by rw [ju_o (by decide), ju_o (by decide), ju_s]) (fun j hj => by rw [ju_o (by decide), ju_o (by decide), ju_k hj, f.1 10 (by decide)])
      · rw [ju_k (by decide), ju_o (by decide), ju_o (by decide), e7]; exact hS.2.2.2.2
    refine jw_u rfl ?_
    exact h _ (fD_t (fD_r f) (fD_t (fD_u (by decide)) (fD_t (fD_u (by decide)) (fD_u (by decide))))) fin
  · rw [nI_ltI (by omega) (by decide)] at c
    rw [if_neg c] at h
    iterate 4 refine jw_u rfl ?_
    refine c_fail ?_
    refine jw_u rfl ?_
    exact h _ (fD_r fR_5) (dX_bad (a := 3) (b := k) (by decide) (by decide) hC hS ht)
theorem c_readCand (hu : bT u) (hC : xC x 3 C) (hS : xS x 7 (cN C) S) (ht : xT x u) (hq : rQ x u (.inr (k + 1))) (bC : cC C ≤ 4) (h : ∀ x', fD x x' → dX x' u (clC u k C S) → Q none x') : jo (d + 4) 14 [.ref 1, .int (nI k)] x Q := by
  refine jo_i rfl rfl (Nat.le_of_ble_eq_true rfl) ?_
  iterate 3 refine jw_u rfl ?_
  refine jtop hC.2.2.2.1 ?_
  iterate 3 refine jw_u rfl ?_
  unfold clC at h
  refine jw_u rfl ⟨fun (c : nI (cC C) < nI 4) => ?_, fun (c : ¬ nI (cC C) < nI 4) => ?_⟩
  · rw [nI_ltI (by omega) (by decide)] at c
    rw [if_pos c] at h
    iterate 7 refine jw_u rfl ?_
    refine c_readNumber (g := nI 999) (hi := 999) hu (by decide) ht hq (fun x1 f1 t1 q1 => ?_)
    generalize nmS u 999 (.inr (k + 1)) = r1 at h q1 ⊢
    refine jw_u rfl (jsN (show cC C < 4 by omega) (by decide) ?_)
    iterate 2 refine jw_u rfl ?_
    refine c_readEnd (x := ju x1 6 (cC C) (nI r1.2)) hu (xT_u (by decide) t1) (rQ_u (by decide) q1) (fun x4 f4 t4 q4 => ?_)
    have fz : fD x x4 := fD_t (fD_r f1) (fD_t (fD_u (by decide)) (fD_r f4))
    have fo : ∀ i, i ≠ 1 → i ≠ 6 → x4 i = x i := fun i g1 g2 => by rw [f4.1 i g1, ju_oo g2, f1.1 i g1]
    have e3 := fo 3 (by decide) (by decide)
    have fin : dX (ju x4 3 5 (nI (cC C + 1))) u (enS u r1.1, (cT C, cG C, cN C, cC C + 1, cSl C, cDr C, upN (cSq C) (cC C) r1.2), S) := by
      refine ⟨⟨?_, ?_, ?_, ju_s _ _ _ _, fun j hj => ?_, fun j hj => ?_, ?_⟩, ?_, xT_u (by decide) t4, rQ_u (by decide) q4⟩
      · rw [ju_k (by decide), e3]; exact hC.1
      · rw [ju_k (by decide), e3]; exact hC.2.1
      · rw [ju_k (by decide), e3]; exact hC.2.2.1
      · rw [ju_o (by decide), fo 4 (by decide) (by decide)]; exact hC.2.2.2.2.1 j hj
      · rw [ju_o (by decide), fo 5 (by decide) (by decide)]; exact hC.2.2.2.2.2.1 j hj
      · refine up_row (x := x) (o := 6) hC.2.2.2.2.2.2 (by rw [ju_o (by decide), f4.1 6 (by decide), ju_s]) (fun j hj => by rw [ju_o (by decide), f4.1 6 (by decide), ju_k hj, f1.1 6 (by decide)])
      · exact xS_f (fun i g1 g2 => by rw [ju_oo (by omega), fo i (by omega) (by omega)]) hS
    iterate 4 refine jw_u rfl ?_
    refine jtop (v' := nI (cC C)) (by rw [e3]; exact hC.2.2.2.1) ?_
    iterate 2 refine jw_u rfl ?_
    refine jtop (nI_add (cC C) 1) ?_
    refine jw_u rfl ⟨fun h => (by cases h), ?_⟩
    refine jw_u rfl ?_
    exact h _ (fD_t fz (fD_u (by decide))) fin
  · rw [nI_ltI (by omega) (by decide)] at c
    rw [if_neg c] at h
    iterate 4 refine jw_u rfl ?_
    refine c_fail ?_
    refine jw_u rfl ?_
    exact h _ (fD_r fR_5) (dX_bad (a := 3) (b := k) (by decide) (by decide) hC hS ht)
theorem c_readClause (hu : bT u) (hC : xC x 3 C) (hS : xS x 7 (cN C) S) (ht : xT x u) (hq : rQ x u (.inr k)) (hk : k < u.1) (bC : wC C) (bP : sP S ≤ 8) (h : ∀ x', fD x x' → dX x' u (cl u k C S) → Q none x') : jo (d + 5) 10 [.ref 1] x Q := by
  have b2 := hu.2 k hk
  have b1 := hu.1
  obtain ⟨q1, q2, q3⟩ := hq
  refine jo_i rfl rfl (Nat.le_of_ble_eq_true rfl) ?_
  iterate 2 refine jw_u rfl ?_
  refine jtop q2 ?_
  iterate 3 refine jw_u rfl ?_
  refine c_letterHere hu ht q2 q3 ?_
  refine jtop (v' := nI (u.2 k)) (by unfold le; rw [if_pos hk]) ?_
  iterate 4 refine jw_u rfl ?_
  refine jtop q2 ?_
  iterate 2 refine jw_u rfl ?_
  refine jtop (nI_add k 1) ?_
  refine jw_u rfl ⟨fun h => (by cases h), ?_⟩
  have fy : fR x (ju x 1 4 (nI (k + 1))) := fR_4
  have hC' : xC (ju x 1 4 (nI (k + 1))) 3 C := xC_f (fun i g1 g2 => fy.1 i (by omega)) hC
  have hS' : xS (ju x 1 4 (nI (k + 1))) 7 (cN C) S := xS_f (fun i g1 g2 => fy.1 i (by omega)) hS
  have ht' := fR_T fy ht
  have hq' : rQ (ju x 1 4 (nI (k + 1))) u (.inr (k + 1)) := ⟨by rw [ju_k (by decide)]; exact q1, ju_s _ _ _ _, hk⟩
  have h : ∀ x', fD (ju x 1 4 (nI (k + 1))) x' → dX x' u (cl u k C S) → Q none x' := fun x' hf hd => h x' (fD_t (fD_r fy) hf) hd
  generalize ju x 1 4 (nI (k + 1)) = y at hC' hS' ht' hq' h ⊢
  have sw : ¬ (cT C = 0 ∧ u.2 k ≠ 120) → jw (d + 4) kX4_readClause Q 24 [some (.ref 1), some (.int (nI k)), some (.int (nI (u.2 k)))] [] y := by
    intro hn
    unfold cl at h
    rw [if_neg hn] at h
    have hi : (nI (u.2 k)).toInt = (u.2 k : Int) := nI_toInt (by omega)
    refine jw_u rfl ?_
    refine jw_u rfl ⟨fun (e : (nI (u.2 k)).toInt = 99) => ?_, fun (e1 : ¬ (nI (u.2 k)).toInt = 99) => ⟨fun (e : (nI (u.2 k)).toInt = 112) => ?_, fun (e2 : ¬ (nI (u.2 k)).toInt = 112) => ⟨fun (e : (nI (u.2 k)).toInt = 115) => ?_, fun (e3 : ¬ (nI (u.2 k)).toInt = 115) => ⟨fun (e : (nI (u.2 k)).toInt = 120) => ?_, fun (e4 : ¬ (nI (u.2 k)).toInt = 120) => ?_⟩⟩⟩⟩
    · rw [hi] at e
      rw [if_neg (by omega), if_neg (by omega), if_neg (by omega), if_pos (by omega)] at h
      iterate 3 refine jw_u rfl ?_
      refine c_readCand hu hC' hS' ht' hq' bC.2.2.2.1 (fun x' hf hd => ?_)
      iterate 2 refine jw_u rfl ?_
      exact h x' hf hd
    · rw [hi] at e
      rw [if_neg (by omega), if_pos (by omega)] at h
      iterate 3 refine jw_u rfl ?_
      refine c_readPerson hu hC' hS' ht' hq' bC.2.2.1 (fun x' hf hd => ?_)
      iterate 2 refine jw_u rfl ?_
      exact h x' hf hd
    · rw [hi] at e
      rw [if_neg (by omega), if_neg (by omega), if_pos (by omega)] at h
      iterate 3 refine jw_u rfl ?_
      refine c_readPaper hu hC' hS' ht' hq' bC.2.2.1 bP (fun x' hf hd => ?_)
      iterate 2 refine jw_u rfl ?_
      exact h x' hf hd
    · rw [hi] at e
      rw [if_pos (by omega)] at h
      iterate 3 refine jw_u rfl ?_
      refine c_readGrand hu hC' hS' ht' hq' bC.1 (fun x' hf hd => ?_)
      iterate 2 refine jw_u rfl ?_
      exact h x' hf hd
    · rw [hi] at e1 e2 e3 e4
      rw [if_neg (by omega), if_neg (by omega), if_neg (by omega), if_neg (by omega)] at h
      iterate 4 refine jw_u rfl ?_
      refine c_fail ?_
      refine jw_u rfl ?_
      exact h _ (fD_r fR_5) (dX_bad (a := 1) (b := k) (by decide) (by decide) hC' hS' ht')
  iterate 3 refine jw_u rfl ?_
  refine jtop hC'.1 ?_
  refine jw_u rfl ⟨fun (c : ¬ nI (cT C) = 0) => sw (fun hc => c (by rw [hc.1]; decide)), fun (c : nI (cT C) = 0) => ?_⟩
  iterate 2 refine jw_u rfl ?_
  refine jw_u rfl ⟨fun (c2 : nI (u.2 k) = nI 120) => sw (fun hc => hc.2 ((nI_eq (by omega) (by decide)).mp c2)), fun (c2 : ¬ nI (u.2 k) = nI 120) => ?_⟩
  have e0 : cT C = 0 := (nI_eq (by have := bC.1; omega) (by decide)).mp (c.trans n00.symm)
  unfold cl at h
  rw [if_pos ⟨e0, fun e => c2 (by rw [e])⟩] at h
  iterate 4 refine jw_u rfl ?_
  refine c_fail ?_
  refine jw_u rfl ?_
  exact h _ (fD_r fR_5) (dX_bad (a := 1) (b := k) (by decide) (by decide) hC' hS' ht')
end CK
