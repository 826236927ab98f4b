/-! THE REFERENCE: what is done -/
theorem wX_push {z : aX} (hw : wX z) : wX (zPush z) := by
  obtain ⟨w1, w2, w3, w4, w5, w6, w7, w8⟩ := hw
  refine ⟨w1, w2, ⟨?_, fun S hS => ?_⟩, w4, w5, w6, w7, w8⟩
  · show ((gS z :: gH z).take 20).length ≤ 20
    rw [List.length_take]
    omega
  · have hS : S ∈ (gS z :: gH z).take 20 := hS
    rcases List.mem_cons.mp (List.mem_of_mem_take hS) with e | e
    · rw [e]; exact w2
    · exact w3.2 S e
theorem wX_now {z : aX} {S : aS} (hw : wX z) (hS : wS (cN (gC z)) S) : wX (zNow z S) := by
  obtain ⟨w1, w2, w3, w4, w5, w6, w7, w8⟩ := hw
  exact ⟨w1, hS, w3, w4, w5, w6, w7, w8⟩
theorem yr_iff {m : Int32} : (nI 1 ≤ m ∧ m ≤ nI 60) ↔ (1 ≤ m.toInt ∧ m.toInt ≤ 60) := by
  rw [Int32.le_iff_toInt_le, Int32.le_iff_toInt_le, nI_toInt (by decide), nI_toInt (by decide)]
  omega
section ML
variable {d : Nat} {x : jM} {Q : Option Value → jM → Prop} {z : aX}
/-- a store of a truth -/
theorem jsB {k : Nat} {code : List jI} {L : List (Option Value)} {r : List Value} {o j n : Nat} {v : Int32} (hj : j < n) (hs : n < 2 ^ 31) (hv : v = 0 ∨ v = 1) (h : jw d code Q k L r (ju x o j v)) : vp_in (nI j) n ∧ (v = 0 ∨ v = 1) ∧ jw d code Q k L r (ju x o (nI j).toNatClampNeg v) := by
  refine ⟨vp_in_nI hj hs, hv, ?_⟩
  rw [nI_clamp (by omega)]
  exact h
theorem m_push (hx : RM z x) (hw : wX z) (h : ∀ x', RM (zPush z) x' → (∀ i, i ≠ 121 → i ≠ 122 → x' i = x i) → (∀ k, k ≠ 2 → x' 121 k = x 121 k) → (∀ j, j < 108 → x' 122 j = x 122 j) → Q none x') : jo (d + 2) 114 [.ref 121] x Q := by
  obtain ⟨w1, w2, w3, -⟩ := id hw
  refine m_minds w1.2.2.1 hx.2.2.1 w3.2 hx.2.1 w2 (fun x' h1 h2 h3 h4 => h x' (RM_h hw h1 h2 h3 h4 hx) h1 h2 h3)
theorem M_year {m : Int32} (hx : RM z x) (hw : wX z) (h : ∀ x', RM (fYear z m).2 x' → (∀ i, i < 121 → x' i = x i) → Q (some (.int (fYear z m).1)) x') : jo (d + 3) 117 [.ref 121, .int m] x Q := by
  obtain ⟨r1, r2, r3, r4, r5, r6, r7, r8⟩ := id hx
  obtain ⟨w1, w2, -⟩ := id hw
  have b3 := w1.2.2.1
  have by_ := w2.2.2.2.2
  refine jo_i rfl rfl (Nat.le_of_ble_eq_true rfl) ?_
  iterate 5 refine jw_u rfl ?_
  refine m_in (a := 1) (b := 60) (by decide) (by decide) (fun hi => ?_) (fun hi => ?_)
  rotate_left
  · rw [show fYear z m = (kO, z) by unfold fYear; rw [if_neg (fun hc => hi (yr_iff.mp hc))]] at h
    refine jw_u rfl ⟨fun c => absurd n00 c, fun _ => ?_⟩
    iterate 2 refine jw_u rfl ?_
    exact ⟨fun h => (by cases h), h x hx (fun _ _ => rfl)⟩
  have hm := yr_iff.mpr hi
  obtain ⟨j, hj, rfl⟩ := nI_of2 (n := 60) (M := nI 60) (by decide) (fun hc => by
    rw [Int32.lt_iff_toInt_lt] at hc
    have : (0 : Int32).toInt = 0 := by decide
    omega) hm.2
  refine jw_u rfl ⟨fun _ => ?_, fun c => absurd c n10⟩
  iterate 2 refine jw_u rfl ?_
  refine jtop r1.1 ?_
  refine jw_u rfl ⟨fun (c1 : ¬ nI (cT (gC z)) = 0) => ?_, fun (c1 : nI (cT (gC z)) = 0) => ?_⟩
  rotate_left
  · rw [show fYear z (nI j) = (kX, z) by unfold fYear; rw [if_pos hm, if_neg (fun e => by rw [e] at c1; exact n10 c1)]] at h
    iterate 2 refine jw_u rfl ?_
    exact ⟨fun h => (by cases h), h x hx (fun _ _ => rfl)⟩
  have hT : cT (gC z) = 1 := by
    have := w1.1
    rcases (show cT (gC z) = 0 ∨ cT (gC z) = 1 by omega) with e | e
    · rw [e] at c1
      exact absurd n00 c1
    · exact e
  iterate 3 refine jw_u rfl ?_
  refine jw_u rfl (jaN (o := 122) (show 0 < 648 by decide) (by decide) r2.2.2.2.2 ?_)
  refine jw_u rfl ?_
  refine jw_u rfl ⟨fun (c2 : nI (sY (gS z)) ≤ nI 9000) => ?_, fun (c2 : ¬ nI (sY (gS z)) ≤ nI 9000) => ?_⟩
  rotate_left
  · rw [nI_leI (by omega) (by decide)] at c2
    rw [show fYear z (nI j) = (kF, z) by unfold fYear; rw [if_pos hm, if_pos hT, if_neg c2]] at h
    iterate 2 refine jw_u rfl ?_
    exact ⟨fun h => (by cases h), h x hx (fun _ _ => rfl)⟩
  rw [nI_leI (by omega) (by decide)] at c2
  rw [show fYear z (nI j) = (nI (sY (gS z) + j), zNow (zPush z) (sAge (gC z) (gS z) j)) by unfold fYear; rw [if_pos hm, if_pos hT, if_pos c2, nI_clamp (by omega)]] at h
  iterate 2 refine jw_u rfl ?_
  refine m_push hx hw (fun x1 hx1 f1 f2 f3 => ?_)
  obtain ⟨q1, q2, -⟩ := id hx1
  have loop : ∀ i, i ≤ j → ∀ x2, (∀ i, i ≠ 122 → x2 i = x1 i) → (∀ k, k < cN (gC z) → x2 122 (0 + 2 + k) = nI (ya (cDr (gC z) k) (cG (gC z)) (sY (gS z)) (sH (gS z) k) i)) → x2 122 0 = nI (sY (gS z) + i) → (∀ j, j = 1 ∨ 10 ≤ j → x2 122 j = x1 122 j) → jw (d + 2) kX7_year Q 25 [some (.ref 121), some (.int (nI j)), some (.int (nI i))] [] x2 := by
    refine dn _ j (fun x2 g1 g2 g3 g4 => ?_) (fun i hi ih x2 g1 g2 g3 g4 => ?_)
    · iterate 2 refine jw_u rfl ?_
      refine jw_u rfl ⟨fun _ => ?_, fun (c' : ¬ nI j ≤ nI j) => absurd (Int32.le_refl _) c'⟩
      iterate 3 refine jw_u rfl ?_
      refine jw_u rfl (jaN (o := 122) (show 0 < 648 by decide) (by decide) g3 ?_)
      refine jw_u rfl ?_
      refine ⟨fun h => (by cases h), h x2 ?_ (fun i hi => by rw [g1 i (by omega), f1 i (by omega) (by omega)])⟩
      refine RM_n (wX_push hw) g1 (fun j hj => g4 j (by omega)) ⟨g2, ?_, fun k hk => ?_, fun k hk => ?_, g3⟩ hx1
      · rw [g4 (0 + 1) (by omega)]; exact q2.2.1
      · rw [g4 (0 + 10 + k) (by omega)]; exact q2.2.2.1 k hk
      · rw [g4 (0 + 18 + k) (by omega)]; exact q2.2.2.2.1 k hk
    · iterate 2 refine jw_u rfl ?_
      refine jw_u rfl ⟨fun (c' : nI j ≤ nI i) => absurd c' (nI_ge hi (by omega)), fun _ => ?_⟩
      iterate 3 refine jw_u rfl ?_
      refine m_passesYear (r := 0) (y := sY (gS z) + i) (n := cN (gC z)) (g := cG (gC z)) (dr := cDr (gC z)) (hd := fun k => ya (cDr (gC z) k) (cG (gC z)) (sY (gS z)) (sH (gS z) k) i) (by decide) (by omega) (by rw [g1 121 (by decide)]; exact q1.2.2.1) b3 (by rw [g1 121 (by decide)]; exact q1.2.1) w1.2.1 (fun k hk => by rw [g1 125 (by decide)]; exact q1.2.2.2.2.2.1 k hk) w1.2.2.2.2.2.1 g2 (fun k hk => ya_lt (w2.1 k hk) w1.2.1 i) g3 (fun x3 y1 y2 y3 y4 => ?_)
      iterate 2 refine jw_u rfl ?_
      have := ih x3 (fun i hi => (y1 i hi).trans (g1 i hi)) (fun k hk => y2 k hk) y3 (fun j hj => by rw [y4 j (by omega)]; exact g4 j hj)
      rw [nI_s i] at this
      exact this
  iterate 2 refine jw_u rfl ?_
  exact loop 0 (Nat.zero_le _) x1 (fun _ _ => rfl) q2.1 q2.2.2.2.2 (fun _ _ => rfl)
theorem M_teach {p m : Int32} (hx : RM z x) (hw : wX z) (h : ∀ x', RM (fTeach z p m).2 x' → (∀ i, i < 121 → x' i = x i) → Q (some (.int (fTeach z p m).1)) x') : jo (d + 3) 118 [.ref 121, .int p, .int m] x Q := by
  obtain ⟨r1, r2, r3, r4, r5, r6, r7, r8⟩ := id hx
  obtain ⟨w1, w2, -⟩ := id hw
  have b3 := w1.2.2.1
  refine jo_i rfl rfl (Nat.le_of_ble_eq_true rfl) ?_
  iterate 3 refine jw_u rfl ?_
  refine m_isPerson r1.2.2.1 b3 (fun hp => ?_) (fun hp => ?_)
  rotate_left
  · refine jw_u rfl ⟨fun c => absurd n00 c, fun _ => ?_⟩
    rw [show fTeach z p m = (kU, z) by unfold fTeach; rw [if_neg hp]] at h
    iterate 2 refine jw_u rfl ?_
    exact ⟨fun h => (by cases h), h x hx (fun _ _ => rfl)⟩
  refine jw_u rfl ⟨fun _ => ?_, fun c => absurd c n10⟩
  iterate 2 refine jw_u rfl ?_
  refine m_isMark (fun hm => ?_) (fun hm => ?_)
  rotate_left
  · refine jw_u rfl ⟨fun c => absurd n00 c, fun _ => ?_⟩
    rw [show fTeach z p m = (kO, z) by unfold fTeach; rw [if_pos hp, if_neg hm]] at h
    iterate 2 refine jw_u rfl ?_
    exact ⟨fun h => (by cases h), h x hx (fun _ _ => rfl)⟩
  refine jw_u rfl ⟨fun _ => ?_, fun c => absurd c n10⟩
  have hpm := And.intro hp hm
  obtain ⟨j, hj, rfl⟩ := ilt (by omega) hp
  obtain ⟨a, ha, rfl⟩ := ilt (by decide) hm
  rw [show fTeach z (nI j) (nI a) = (nI (ap (sH (gS z) j) a), zNow (zPush z) (upN (sH (gS z)) j a, sP (gS z), sM (gS z), sN (gS z), sY (gS z))) by unfold fTeach; rw [if_pos hpm.1, if_pos hpm.2, nI_clamp (by omega), nI_clamp (by omega)]] at h
  iterate 2 refine jw_u rfl ?_
  refine m_push hx hw (fun x1 hx1 f1 f2 f3 => ?_)
  obtain ⟨-, q2, -⟩ := id hx1
  iterate 5 refine jw_u rfl ?_
  refine jtop (nI_add 2 j) ?_
  refine jw_u rfl (jaN (o := 122) (show 2 + j < 648 by omega) (by decide) (q2.1 j hj) ?_)
  iterate 6 refine jw_u rfl ?_
  refine jtop (nI_add 2 j) ?_
  refine jw_u rfl ?_
  refine jw_u rfl (jsN (o := 122) (show 2 + j < 648 by omega) (by decide) ?_)
  iterate 3 refine jw_u rfl ?_
  refine m_apart (w2.1 j hj) ha ?_
  refine jw_u rfl ?_
  refine ⟨fun h => (by cases h), h (ju x1 122 (2 + j) (nI a)) ?_ (fun i hi => by rw [ju_oo (by omega), f1 i (by omega) (by omega)])⟩
  refine RM_n (wX_push hw) (fun i hi => ju_oo hi) (fun k hk => ju_k (by omega)) ⟨fun k hk => ?_, ?_, fun k hk => ?_, fun k hk => ?_, ?_⟩ hx1
  · by_cases e : k = j
    · subst e
      show ju x1 122 (2 + k) (nI a) 122 (0 + 2 + k) = nI (upN (sH (gS z)) k a k)
      rw [upN_s]
      exact ju_s _ _ _ _
    · show ju x1 122 (2 + j) (nI a) 122 (0 + 2 + k) = nI (upN (sH (gS z)) j a k)
      rw [ju_k (by omega), upN_o e]
      exact q2.1 k hk
  · rw [ju_k (by omega)]; exact q2.2.1
  · rw [ju_k (by omega)]; exact q2.2.2.1 k hk
  · rw [ju_k (by omega)]; exact q2.2.2.2.1 k hk
  · rw [ju_k (by omega)]; exact q2.2.2.2.2
theorem M_sign {p m : Int32} (hx : RM z x) (hw : wX z) (h : ∀ x', RM (fSign z p m).2 x' → (∀ i, i < 121 → x' i = x i) → Q (some (.int (fSign z p m).1)) x') : jo (d + 3) 119 [.ref 121, .int p, .int m] x Q := by
  obtain ⟨r1, r2, r3, r4, r5, r6, r7, r8⟩ := id hx
  obtain ⟨w1, w2, -⟩ := id hw
  have b3 := w1.2.2.1
  have bp := w2.2.1
  refine jo_i rfl rfl (Nat.le_of_ble_eq_true rfl) ?_
  iterate 3 refine jw_u rfl ?_
  refine m_isPerson r1.2.2.1 b3 (fun hp => ?_) (fun hp => ?_)
  rotate_left
  · refine jw_u rfl ⟨fun c => absurd n00 c, fun _ => ?_⟩
    rw [show fSign z p m = (kU, z) by unfold fSign; rw [if_neg hp]] at h
    iterate 2 refine jw_u rfl ?_
    exact ⟨fun h => (by cases h), h x hx (fun _ _ => rfl)⟩
  refine jw_u rfl ⟨fun _ => ?_, fun c => absurd c n10⟩
  iterate 2 refine jw_u rfl ?_
  refine m_isMark (fun hm => ?_) (fun hm => ?_)
  rotate_left
  · refine jw_u rfl ⟨fun c => absurd n00 c, fun _ => ?_⟩
    rw [show fSign z p m = (kO, z) by unfold fSign; rw [if_pos hp, if_neg hm]] at h
    iterate 2 refine jw_u rfl ?_
    exact ⟨fun h => (by cases h), h x hx (fun _ _ => rfl)⟩
  refine jw_u rfl ⟨fun _ => ?_, fun c => absurd c n10⟩
  have hpm := And.intro hp hm
  obtain ⟨j, hj, rfl⟩ := ilt (by omega) hp
  obtain ⟨a, ha, rfl⟩ := ilt (by decide) hm
  iterate 3 refine jw_u rfl ?_
  refine jw_u rfl (jaN (o := 122) (show 1 < 648 by decide) (by decide) r2.2.1 ?_)
  refine jw_u rfl ?_
  refine jw_u rfl ⟨fun (c2 : ¬ nI (sP (gS z)) = nI 8) => ?_, fun (c2 : nI (sP (gS z)) = nI 8) => ?_⟩
  rotate_left
  · rw [nI_eq (by omega) (by decide)] at c2
    rw [show fSign z (nI j) (nI a) = (kF, z) by unfold fSign; rw [if_pos hpm.1, if_pos hpm.2, if_neg (by omega)]] at h
    iterate 2 refine jw_u rfl ?_
    exact ⟨fun h => (by cases h), h x hx (fun _ _ => rfl)⟩
  rw [nI_eq (by omega) (by decide)] at c2
  rw [show fSign z (nI j) (nI a) = (nI (sP (gS z) + 1), zNow (zPush z) (sH (gS z), sP (gS z) + 1, upN (sM (gS z)) (sP (gS z)) a, upN (sN (gS z)) (sP (gS z)) j, sY (gS z))) by unfold fSign; rw [if_pos hpm.1, if_pos hpm.2, if_pos (by omega), nI_clamp (by omega), nI_clamp (by omega)]] at h
  iterate 2 refine jw_u rfl ?_
  refine m_push hx hw (fun x1 hx1 f1 f2 f3 => ?_)
  obtain ⟨-, q2, -⟩ := id hx1
  obtain ⟨t1, t2, t3, t4, t5⟩ := id q2
  have t1 : ∀ k, k < cN (gC z) → x1 122 (0 + 2 + k) = nI (sH (gS z) k) := t1
  have t2 : x1 122 1 = nI (sP (gS z)) := t2
  have t3 : ∀ k, k < sP (gS z) → x1 122 (0 + 10 + k) = nI (sM (gS z) k) := t3
  have t4 : ∀ k, k < sP (gS z) → x1 122 (0 + 18 + k) = nI (sN (gS z) k) := t4
  generalize hP : sP (gS z) = P at t2 t3 t4 h bp c2 ⊢
  iterate 6 refine jw_u rfl ?_
  refine jw_u rfl (jaN (o := 122) (show 1 < 648 by decide) (by decide) t2 ?_)
  refine jw_u rfl ?_
  refine jtop (nI_add 10 P) ?_
  refine jw_u rfl ?_
  refine jw_u rfl (jsN (o := 122) (show 10 + P < 648 by omega) (by decide) ?_)
  iterate 6 refine jw_u rfl ?_
  refine jw_u rfl (jaN (o := 122) (j := 1) (v := nI P) (show 1 < 648 by decide) (by decide) (by rw [ju_k (by omega)]; exact t2) ?_)
  refine jw_u rfl ?_
  refine jtop (nI_add 18 P) ?_
  refine jw_u rfl ?_
  refine jw_u rfl (jsN (o := 122) (show 18 + P < 648 by omega) (by decide) ?_)
  iterate 4 refine jw_u rfl ?_
  refine jw_u rfl (jaN (o := 122) (j := 1) (v := nI P) (show 1 < 648 by decide) (by decide) (by rw [ju_k (by omega), ju_k (by omega)]; exact t2) ?_)
  iterate 2 refine jw_u rfl ?_
  refine jtop (nI_add P 1) ?_
  refine jw_u rfl (jsN (o := 122) (j := 1) (show 1 < 648 by decide) (by decide) ?_)
  iterate 3 refine jw_u rfl ?_
  refine jw_u rfl (jaN (o := 122) (v := nI (P + 1)) (show 1 < 648 by decide) (by decide) (ju_s _ _ _ _) ?_)
  refine jw_u rfl ?_
  refine ⟨fun h => (by cases h), h (ju (ju (ju x1 122 (10 + P) (nI a)) 122 (18 + P) (nI j)) 122 1 (nI (P + 1))) ?_ (fun i hi => by rw [ju_oo (by omega), ju_oo (by omega), ju_oo (by omega), f1 i (by omega) (by omega)])⟩
  refine RM_n (wX_push hw) (fun i hi => by rw [ju_oo hi, ju_oo hi, ju_oo hi]) (fun k hk => by rw [ju_k (by omega), ju_k (by omega), ju_k (by omega)]) ⟨fun k hk => ?_, ju_s _ _ _ _, fun k hk => ?_, fun k hk => ?_, ?_⟩ hx1
  · have hk : k < cN (gC z) := hk
    rw [ju_k (by omega), ju_k (by omega), ju_k (by omega)]; exact t1 k hk
  · have hk : k < P + 1 := hk
    by_cases e : k = P
    · subst e
      show ju _ 122 1 _ 122 (0 + 10 + k) = nI (upN (sM (gS z)) k a k)
      rw [upN_s, ju_k (by omega), ju_k (by omega), Nat.zero_add, ju_s]
    · show ju _ 122 1 _ 122 (0 + 10 + k) = nI (upN (sM (gS z)) P a k)
      rw [upN_o e, ju_k (by omega), ju_k (by omega), ju_k (by omega)]
      exact t3 k (by omega)
  · have hk : k < P + 1 := hk
    by_cases e : k = P
    · subst e
      show ju _ 122 1 _ 122 (0 + 18 + k) = nI (upN (sN (gS z)) k j k)
      rw [upN_s, ju_k (by omega), Nat.zero_add, ju_s]
    · show ju _ 122 1 _ 122 (0 + 18 + k) = nI (upN (sN (gS z)) P j k)
      rw [upN_o e, ju_k (by omega), ju_k (by omega), ju_k (by omega)]
      exact t4 k (by omega)
  · rw [ju_k (by omega), ju_k (by omega), ju_k (by omega)]; exact t5
theorem M_tearPaper (hx : RM z x) (hw : wX z) (h : ∀ x', RM (fTearP z).2 x' → (∀ i, i < 121 → x' i = x i) → Q (some (.int (fTearP z).1)) x') : jo (d + 3) 120 [.ref 121] x Q := by
  obtain ⟨r1, r2, r3, r4, r5, r6, r7, r8⟩ := id hx
  obtain ⟨w1, w2, -⟩ := id hw
  have b3 := w1.2.2.1
  have bp := w2.2.1
  unfold fTearP at h
  refine jo_i rfl rfl (Nat.le_of_ble_eq_true rfl) ?_
  iterate 3 refine jw_u rfl ?_
  refine jw_u rfl (jaN (o := 122) (show 1 < 648 by decide) (by decide) r2.2.1 ?_)
  refine jw_u rfl ⟨fun (c2 : ¬ nI (sP (gS z)) = 0) => ?_, fun (c2 : nI (sP (gS z)) = 0) => ?_⟩
  rotate_left
  · have e : sP (gS z) = 0 := (nI_eq (by omega) (by decide)).mp (c2.trans n00.symm)
    rw [if_pos e] at h
    iterate 2 refine jw_u rfl ?_
    exact ⟨fun h => (by cases h), h x hx (fun _ _ => rfl)⟩
  have e0 : ¬ sP (gS z) = 0 := fun e => c2 (by rw [e]; decide)
  rw [if_neg e0] at h
  iterate 2 refine jw_u rfl ?_
  refine m_push hx hw (fun x1 hx1 f1 f2 f3 => ?_)
  obtain ⟨-, q2, -⟩ := id hx1
  obtain ⟨t1, t2, t3, t4, t5⟩ := id q2
  have t1 : ∀ k, k < cN (gC z) → x1 122 (0 + 2 + k) = nI (sH (gS z) k) := t1
  have t2 : x1 122 1 = nI (sP (gS z)) := t2
  have t3 : ∀ k, k < sP (gS z) → x1 122 (0 + 10 + k) = nI (sM (gS z) k) := t3
  have t4 : ∀ k, k < sP (gS z) → x1 122 (0 + 18 + k) = nI (sN (gS z) k) := t4
  generalize hP : sP (gS z) = P at t2 t3 t4 h bp e0 ⊢
  obtain ⟨P, rfl⟩ : ∃ u, P = u + 1 := ⟨P - 1, by omega⟩
  iterate 4 refine jw_u rfl ?_
  refine jw_u rfl (jaN (o := 122) (show 1 < 648 by decide) (by decide) t2 ?_)
  iterate 2 refine jw_u rfl ?_
  refine jtop (s1a P) ?_
  refine jw_u rfl (jsN (o := 122) (j := 1) (show 1 < 648 by decide) (by decide) ?_)
  iterate 6 refine jw_u rfl ?_
  refine jw_u rfl (jaN (o := 122) (v := nI P) (show 1 < 648 by decide) (by decide) (ju_s _ _ _ _) ?_)
  refine jw_u rfl ?_
  refine jtop (nI_add 10 P) ?_
  refine jw_u rfl (jaN (o := 122) (v := nI (sM (gS z) P)) (show 10 + P < 648 by omega) (by decide) (by rw [ju_k (by omega)]; have := t3 P (by omega); rw [Nat.zero_add] at this; exact this) ?_)
  refine jw_u rfl ?_
  refine ⟨fun h => (by cases h), h (ju x1 122 1 (nI P)) ?_ (fun i hi => by rw [ju_oo (by omega), f1 i (by omega) (by omega)])⟩
  refine RM_n (wX_push hw) (fun i hi => ju_oo hi) (fun k hk => ju_k (by omega)) ⟨fun k hk => ?_, ju_s _ _ _ _, fun k hk => ?_, fun k hk => ?_, ?_⟩ hx1
  · have hk : k < cN (gC z) := hk
    rw [ju_k (by omega)]; exact t1 k hk
  · have hk : k < P := hk
    rw [ju_k (by omega)]; exact t3 k (by omega)
  · have hk : k < P := hk
    rw [ju_k (by omega)]; exact t4 k (by omega)
  · rw [ju_k (by omega)]; exact t5
theorem M_undo (hx : RM z x) (hw : wX z) (h : ∀ x', RM (fUndo z).2 x' → (∀ i, i < 121 → x' i = x i) → Q (some (.int (fUndo z).1)) x') : jo (d + 2) 115 [.ref 121] x Q := by
  obtain ⟨r1, r2, r3, r4, r5, r6, r7, r8⟩ := id hx
  obtain ⟨w1, w2, w3, w4, -⟩ := id hw
  have b3 := w1.2.2.1
  unfold fUndo at h
  refine jo_i rfl rfl (Nat.le_of_ble_eq_true rfl) ?_
  iterate 2 refine jw_u rfl ?_
  obtain ⟨g1, g2, g3⟩ := r3
  cases hH : gH z with
  | nil =>
    rw [hH] at h g1
    refine jtop g1 ?_
    refine jw_u rfl ⟨fun c => absurd n00 c, fun _ => ?_⟩
    iterate 2 refine jw_u rfl ?_
    exact ⟨fun h => (by cases h), h x hx (fun _ _ => rfl)⟩
  | cons S hs =>
    have wS' := w3.2 S (by rw [hH]; exact List.mem_cons_self)
    have whs : ∀ S ∈ hs, wS (cN (gC z)) S := fun S' h' => w3.2 S' (by rw [hH]; exact List.mem_cons_of_mem _ h')
    rw [hH] at h g1 g2 g3
    rw [List.length_cons] at g1 g2
    have h : ∀ x', RM (gC z, S, hs, gI z, gN z, gB z, gD z, gF z, gT z) x' → (∀ i, i < 121 → x' i = x i) → Q (some (.int (nI hs.length))) x' := h
    refine jtop g1 ?_
    refine jw_u rfl ⟨fun _ => ?_, fun (c : nI (hs.length + 1) = 0) => absurd c (nI_ne0 (by omega) (by omega))⟩
    iterate 3 refine jw_u rfl ?_
    refine jw_u rfl (jaN (o := 122) (show 26 < 648 by decide) (by decide) r6 ?_)
    iterate 4 refine jw_u rfl ?_
    refine jtop g1 ?_
    iterate 2 refine jw_u rfl ?_
    refine jtop (s1a _) ?_
    refine jw_u rfl ⟨fun h => (by cases h), ?_⟩
    iterate 5 refine jw_u rfl ?_
    refine jtop (ju_s _ _ _ _) ?_
    refine jw_u rfl ?_
    refine jtop (pk_mul 27 hs.length) ?_
    refine jw_u rfl ?_
    refine jtop (nI_add 108 _) ?_
    iterate 2 refine jw_u rfl ?_
    refine m_copy (x := ju x 121 2 (nI hs.length)) (a := 108 + 27 * hs.length) (b := 0) (by omega) (by decide) (Or.inr (by omega)) (fun x2 f1 f2 f3 => ?_)
    have fw : ∀ j, ju x 121 2 (nI hs.length) 122 j = x 122 j := fun j => ju_o (by decide)
    iterate 4 refine jw_u rfl ?_
    refine jw_u rfl (jsN (o := 122) (j := 26) (show 26 < 648 by decide) (by decide) ?_)
    iterate 2 refine jw_u rfl ?_
    refine jtop (v' := nI hs.length) (by rw [ju_o (by decide), f1 121 (by decide), ju_s]) ?_
    refine jw_u rfl ?_
    have fi : ∀ i, i ≠ 121 → i ≠ 122 → ju x2 122 26 (nI (gD z)) i = x i := fun i h1 h2 => by rw [ju_oo h2, f1 i h2, ju_oo h1]
    have fk : ∀ k, k ≠ 2 → ju x2 122 26 (nI (gD z)) 121 k = x 121 k := fun k hk => by rw [ju_o (by decide), f1 121 (by decide), ju_k hk]
    have fj : ∀ j, 27 ≤ j → ju x2 122 26 (nI (gD z)) 122 j = x 122 j := fun j hj => by rw [ju_k (by omega), f3 j (by omega), fw]
    refine ⟨fun h => (by cases h), h (ju x2 122 26 (nI (gD z))) ⟨mC_f (fun k hk => fk k (by omega)) (fun i q1 q2 => fi i (by omega) (by omega)) r1, ?_, ⟨?_, by show hs.length ≤ 20; omega, fun k S' hk => ?_⟩, mI_f b3 w4 (fi 123 (by decide) (by decide)) (fun j q1 q2 => fj j (by omega)) r4, mN_f (fun k hk => fk k (by omega)) (fun i q1 q2 => fi i (by omega) (by omega)) r5, ju_s _ _ _ _, ?_, mT_f (fk 11 (by decide)) (fi 127 (by decide) (by decide)) r8⟩ (fun i hi => fi i (by omega) (by omega))⟩
    · have := g3 0 S rfl
      rw [List.length_cons, show hs.length + 1 - 1 - 0 = hs.length by omega] at this
      refine mS_cp (x := x) (a := 108 + 27 * hs.length) b3 wS'.2.1 (fun k hk => ?_) this
      rw [ju_k (by omega), f2 k (by omega), fw]
    · rw [ju_o (by decide), f1 121 (by decide), ju_s]
    · have hkl := (List.getElem?_eq_some_iff.mp hk).1
      have := g3 (k + 1) S' (by simpa using hk)
      rw [List.length_cons, show hs.length + 1 - 1 - (k + 1) = hs.length - 1 - k by omega] at this
      exact mS_f b3 (whs S' (List.mem_of_getElem? hk)).2.1 (fun j q1 q2 => fj j (by omega)) this
    · rw [fk 16 (by decide)]; exact r7
end ML
