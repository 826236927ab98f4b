/-! THE REFERENCE: what is seen, seeds, images, letters, drift -/
section MM
variable {d : Nat} {x : jM} {Q : Option Value → jM → Prop} {z : aX}
theorem M_seed {v : Int32} (hx : RM z x) (hw : wX z) (h : ∀ x', RM (fSeed z v).2 x' → (∀ i, i < 121 → x' i = x i) → Q (some (.int (fSeed z v).1)) x') : jo (d + 1) 152 [.ref 121, .int v] x Q := by
  obtain ⟨r1, r2, r3, r4, r5, r6, r7, r8⟩ := id hx
  obtain ⟨w1, w2, w3, w4, -⟩ := id hw
  have b3 := w1.2.2.1
  unfold fSeed at h
  refine jo_i rfl rfl (Nat.le_of_ble_eq_true rfl) ?_
  refine jw_u rfl ?_
  refine jw_u rfl ⟨fun (c : 0 ≤ v) => ?_, fun (c : ¬ 0 ≤ v) => ?_⟩
  · rw [if_pos c] at h
    obtain ⟨j, hj, rfl⟩ := ge0 c
    rw [nI_clamp hj] at h
    iterate 3 refine jw_u rfl ?_
    refine jw_u rfl (jaN (o := 122) (show 26 < 648 by decide) (by decide) r6 ?_)
    iterate 5 refine jw_u rfl ?_
    refine jw_u rfl (jsN (o := 122) (j := 26) (show 26 < 648 by decide) (by decide) ?_)
    iterate 2 refine jw_u rfl ?_
    have fi : ∀ i, i ≠ 122 → ju x 122 26 (nI j) i = x i := fun i hi => ju_oo hi
    have fj : ∀ k, k ≠ 26 → ju x 122 26 (nI j) 122 k = x 122 k := fun k hk => ju_k hk
    have e := fi 121 (by decide)
    refine ⟨fun h => (by cases h), h (ju x 122 26 (nI j)) ⟨mC_f (fun k hk => by rw [e]) (fun i q1 q2 => fi i (by omega)) r1, mS_f b3 w2.2.1 (fun j q1 q2 => fj j (by omega)) r2, mH_f b3 w3.2 (by rw [e]) (fun j q1 => fj j (by omega)) r3, mI_f b3 w4 (fi 123 (by decide)) (fun j q1 q2 => fj j (by omega)) r4, mN_f (fun k hk => by rw [e]) (fun i q1 q2 => fi i (by omega)) r5, ju_s _ _ _ _, by rw [e]; exact r7, mT_f (by rw [e]) (fi 127 (by decide)) r8⟩ (fun i hi => fi i (by omega))⟩
  · rw [if_neg c] at h
    iterate 2 refine jw_u rfl ?_
    exact ⟨fun h => (by cases h), h x hx (fun _ _ => rfl)⟩
/-- slots of the object, and rows besides w, may change by themselves -/
theorem RM_o {x' : jM} {z' : aX} (hw : wX z) (hx : RM z x) (h1 : x' 122 = x 122) (h2 : x' 123 = x 123) (h3 : ∀ i, 124 ≤ i → i ≤ 126 → x' i = x i) (h4 : ∀ k, k = 3 ∨ k = 4 ∨ k = 5 ∨ k = 8 → x' 121 k = x 121 k) (e1 : gC z' = gC z) (e2 : gS z' = gS z) (e4 : gI z' = gI z) (e6 : gD z' = gD z) (hH : mH x' (cN (gC z)) (gH z')) (hN : mN x' (gN z') (gB z')) (hF : x' 121 16 = gF z') (hT : mT x' (gT z')) : RM z' x' := by
  obtain ⟨r1, r2, r3, r4, r5, r6, r7, r8⟩ := hx
  obtain ⟨w1, w2, w3, w4, -⟩ := hw
  have b3 := w1.2.2.1
  refine ⟨?_, ?_, ?_, ?_, hN, ?_, hF, hT⟩
  · rw [e1]; exact mC_f h4 h3 r1
  · rw [e1, e2]; exact mS_f b3 w2.2.1 (fun j _ _ => by rw [h1]) r2
  · rw [e1]; exact hH
  · rw [e1, e4]; exact mI_f b3 w4 h2 (fun j _ _ => by rw [h1]) r4
  · rw [e6, h1]; exact r6
theorem M_see {m : Int32} (hx : RM z x) (hw : wX z) (h : ∀ x', RM (fSee z m).2 x' → (∀ i, i < 121 → x' i = x i) → Q (some (.int (fSee z m).1)) x') : jo (d + 3) 145 [.ref 121, .int m] x Q := by
  obtain ⟨r1, r2, r3, r4, r5, r6, r7, r8⟩ := id hx
  obtain ⟨w1, w2, w3, w4, w5, -⟩ := id hw
  have b3 := w1.2.2.1
  have b5 := w5.1
  unfold fSee at h
  refine jo_i rfl rfl (Nat.le_of_ble_eq_true rfl) ?_
  iterate 2 refine jw_u rfl ?_
  refine m_isMark (fun hm => ?_) (fun hm => ?_)
  rotate_left
  · refine jw_u rfl ⟨fun c => absurd n00 c, fun _ => ?_⟩
    rw [if_neg hm] at h
    iterate 2 refine jw_u rfl ?_
    exact ⟨fun h => (by cases h), h x hx (fun _ _ => rfl)⟩
  refine jw_u rfl ⟨fun _ => ?_, fun c => absurd c n10⟩
  rw [if_pos hm] at h
  obtain ⟨a, ha, rfl⟩ := ilt (by decide) hm
  rw [nI_clamp (by omega)] at h
  iterate 2 refine jw_u rfl ?_
  refine jtop r5.1 ?_
  refine jw_u rfl ?_
  refine jw_u rfl ⟨fun (c2 : ¬ nI (gN z).1 = nI 8) => ?_, fun (c2 : nI (gN z).1 = nI 8) => ?_⟩
  rotate_left
  · rw [nI_eq (by omega) (by decide)] at c2
    rw [if_neg (by omega)] at h
    iterate 2 refine jw_u rfl ?_
    exact ⟨fun h => (by cases h), h x hx (fun _ _ => rfl)⟩
  rw [nI_eq (by omega) (by decide)] at c2
  rw [if_pos (by omega)] at h
  iterate 4 refine jw_u rfl ?_
  refine jtop r5.1 ?_
  refine jw_u rfl ?_
  refine jw_u rfl (jsN (o := 133) (show (gN z).1 < 8 by omega) (by decide) ?_)
  iterate 3 refine jw_u rfl ?_
  refine jtop (v' := nI (gN z).1) (by rw [ju_o (by decide)]; exact r5.1) ?_
  iterate 2 refine jw_u rfl ?_
  refine jtop (nI_add (gN z).1 1) ?_
  refine jw_u rfl ⟨fun h => (by cases h), ?_⟩
  iterate 2 refine jw_u rfl ?_
  refine jtop (ju_s _ _ _ _) ?_
  refine jw_u rfl ?_
  have fo : ∀ i, i ≠ 121 → i ≠ 133 → ju (ju x 133 (gN z).1 (nI a)) 121 27 (nI ((gN z).1 + 1)) i = x i := fun i h1 h2 => by rw [ju_oo h1, ju_oo h2]
  have fk : ∀ k, k ≠ 27 → ju (ju x 133 (gN z).1 (nI a)) 121 27 (nI ((gN z).1 + 1)) 121 k = x 121 k := fun k hk => by rw [ju_k hk, ju_o (by decide)]
  refine ⟨fun h => (by cases h), h (ju (ju x 133 (gN z).1 (nI a)) 121 27 (nI ((gN z).1 + 1))) (RM_o hw hx (fo 122 (by decide) (by decide)) (fo 123 (by decide) (by decide)) (fun i q1 q2 => fo i (by omega) (by omega)) (fun k hk => fk k (by omega)) rfl rfl rfl rfl (mH_f b3 w3.2 (fk 2 (by decide)) (fun j _ => by rw [fo 122 (by decide) (by decide)]) r3) ⟨ju_s _ _ _ _, ?_, ?_, fun k hk => ?_, fun k hk => ?_⟩ (by rw [fk 16 (by decide)]; exact r7) (mT_f (fk 11 (by decide)) (fo 127 (by decide) (by decide)) r8)) (fun i hi => fo i (by omega) (by omega))⟩
  · refine up_row (x := x) (o := 133) r5.2.1 (by rw [ju_o (by decide), ju_s]) (fun k hk => by rw [ju_o (by decide), ju_k hk])
  · rw [fk 29 (by decide)]; exact r5.2.2.1
  · rw [fo 134 (by decide) (by decide)]; exact r5.2.2.2.1 k hk
  · rw [fo 135 (by decide) (by decide)]; exact r5.2.2.2.2 k hk
theorem M_write {p m : Int32} (hx : RM z x) (hw : wX z) (h : ∀ x', RM (fWrite z p m).2 x' → (∀ i, i < 121 → x' i = x i) → Q (some (.int (fWrite z p m).1)) x') : jo (d + 3) 149 [.ref 121, .int p, .int m] x Q := by
  obtain ⟨r1, r2, r3, r4, r5, r6, r7, r8⟩ := id hx
  obtain ⟨w1, w2, w3, w4, w5, w6, -⟩ := id hw
  have b3 := w1.2.2.1
  have b6 := w6.1
  unfold fWrite at h
  refine jo_i rfl rfl (Nat.le_of_ble_eq_true rfl) ?_
  iterate 3 refine jw_u rfl ?_
  refine m_isPerson r1.2.2.1 b3 (fun hp => ?_) (fun hp => ?_)
  rotate_left
  · refine jw_u rfl ⟨fun c => absurd n00 c, fun _ => ?_⟩
    rw [if_neg hp] at h
    iterate 2 refine jw_u rfl ?_
    exact ⟨fun h => (by cases h), h x hx (fun _ _ => rfl)⟩
  refine jw_u rfl ⟨fun _ => ?_, fun c => absurd c n10⟩
  rw [if_pos hp] at h
  iterate 2 refine jw_u rfl ?_
  refine m_isMark (fun hm => ?_) (fun hm => ?_)
  rotate_left
  · refine jw_u rfl ⟨fun c => absurd n00 c, fun _ => ?_⟩
    rw [if_neg hm] at h
    iterate 2 refine jw_u rfl ?_
    exact ⟨fun h => (by cases h), h x hx (fun _ _ => rfl)⟩
  refine jw_u rfl ⟨fun _ => ?_, fun c => absurd c n10⟩
  rw [if_pos hm] at h
  obtain ⟨j, hj, rfl⟩ := ilt (by omega) hp
  obtain ⟨a, ha, rfl⟩ := ilt (by decide) hm
  rw [nI_clamp (by omega), nI_clamp (by omega)] at h
  iterate 2 refine jw_u rfl ?_
  refine jtop r5.2.2.1 ?_
  refine jw_u rfl ?_
  refine jw_u rfl ⟨fun (c2 : ¬ nI (gB z).1 = nI 15) => ?_, fun (c2 : nI (gB z).1 = nI 15) => ?_⟩
  rotate_left
  · rw [nI_eq (by omega) (by decide)] at c2
    rw [if_neg (by omega)] at h
    iterate 2 refine jw_u rfl ?_
    exact ⟨fun h => (by cases h), h x hx (fun _ _ => rfl)⟩
  rw [nI_eq (by omega) (by decide)] at c2
  rw [if_pos (by omega)] at h
  iterate 4 refine jw_u rfl ?_
  refine jtop r5.2.2.1 ?_
  refine jw_u rfl ?_
  refine jw_u rfl (jsN (o := 134) (show (gB z).1 < 15 by omega) (by decide) ?_)
  iterate 4 refine jw_u rfl ?_
  refine jtop (v' := nI (gB z).1) (by rw [ju_o (by decide)]; exact r5.2.2.1) ?_
  refine jw_u rfl ?_
  refine jw_u rfl (jsN (o := 135) (show (gB z).1 < 15 by omega) (by decide) ?_)
  iterate 3 refine jw_u rfl ?_
  refine jtop (v' := nI (gB z).1) (by rw [ju_o (by decide), ju_o (by decide)]; exact r5.2.2.1) ?_
  iterate 2 refine jw_u rfl ?_
  refine jtop (nI_add (gB z).1 1) ?_
  refine jw_u rfl ⟨fun h => (by cases h), ?_⟩
  iterate 2 refine jw_u rfl ?_
  refine jtop (ju_s _ _ _ _) ?_
  refine jw_u rfl ?_
  have fo : ∀ i, i ≠ 121 → i ≠ 134 → i ≠ 135 → ju (ju (ju x 134 (gB z).1 (nI j)) 135 (gB z).1 (nI a)) 121 29 (nI ((gB z).1 + 1)) i = x i := fun i h1 h2 h3 => by rw [ju_oo h1, ju_oo h3, ju_oo h2]
  have fk : ∀ k, k ≠ 29 → ju (ju (ju x 134 (gB z).1 (nI j)) 135 (gB z).1 (nI a)) 121 29 (nI ((gB z).1 + 1)) 121 k = x 121 k := fun k hk => by rw [ju_k hk, ju_o (by decide), ju_o (by decide)]
  refine ⟨fun h => (by cases h), h (ju (ju (ju x 134 (gB z).1 (nI j)) 135 (gB z).1 (nI a)) 121 29 (nI ((gB z).1 + 1))) (RM_o hw hx (fo 122 (by decide) (by decide) (by decide)) (fo 123 (by decide) (by decide) (by decide)) (fun i q1 q2 => fo i (by omega) (by omega) (by omega)) (fun k hk => fk k (by omega)) rfl rfl rfl rfl (mH_f b3 w3.2 (fk 2 (by decide)) (fun j _ => by rw [fo 122 (by decide) (by decide) (by decide)]) r3) ⟨?_, fun k hk => ?_, ju_s _ _ _ _, ?_, ?_⟩ (by rw [fk 16 (by decide)]; exact r7) (mT_f (fk 11 (by decide)) (fo 127 (by decide) (by decide) (by decide)) r8)) (fun i hi => fo i (by omega) (by omega) (by omega))⟩
  · rw [fk 27 (by decide)]; exact r5.1
  · rw [fo 133 (by decide) (by decide) (by decide)]; exact r5.2.1 k hk
  · refine up_row (x := x) (o := 134) r5.2.2.2.1 (by rw [ju_o (by decide), ju_o (by decide), ju_s]) (fun k hk => by rw [ju_o (by decide), ju_o (by decide), ju_k hk])
  · refine up_row (x := x) (o := 135) r5.2.2.2.2 (by rw [ju_o (by decide), ju_s]) (fun k hk => by rw [ju_o (by decide), ju_k hk, ju_o (by decide)])
theorem M_tear (hx : RM z x) (hw : wX z) (h : ∀ x', RM (fTear z).2 x' → (∀ i, i < 121 → x' i = x i) → Q (some (.int (fTear z).1)) x') : jo (d + 1) 150 [.ref 121] x Q := by
  obtain ⟨r1, r2, r3, r4, r5, r6, r7, r8⟩ := id hx
  obtain ⟨w1, w2, w3, w4, w5, w6, -⟩ := id hw
  have b3 := w1.2.2.1
  unfold fTear at h
  refine jo_i rfl rfl (Nat.le_of_ble_eq_true rfl) ?_
  iterate 2 refine jw_u rfl ?_
  refine jtop r5.1 ?_
  iterate 2 refine jw_u rfl ?_
  refine jtop r5.2.2.1 ?_
  refine jw_u rfl ?_
  refine jtop (nI_add _ _) ?_
  iterate 3 refine jw_u rfl ?_
  refine jw_u rfl ⟨fun h => (by cases h), ?_⟩
  iterate 2 refine jw_u rfl ?_
  refine jw_u rfl ⟨fun h => (by cases h), ?_⟩
  iterate 2 refine jw_u rfl ?_
  have fo : ∀ i, i ≠ 121 → ju (ju x 121 27 (nI 0)) 121 29 (nI 0) i = x i := fun i h1 => by rw [ju_oo h1, ju_oo h1]
  have fk : ∀ k, k ≠ 27 → k ≠ 29 → ju (ju x 121 27 (nI 0)) 121 29 (nI 0) 121 k = x 121 k := fun k h1 h2 => by rw [ju_k h2, ju_k h1]
  refine ⟨fun h => (by cases h), h (ju (ju x 121 27 (nI 0)) 121 29 (nI 0)) (RM_o hw hx (fo 122 (by decide)) (fo 123 (by decide)) (fun i q1 q2 => fo i (by omega)) (fun k hk => fk k (by omega) (by omega)) rfl rfl rfl rfl (mH_f b3 w3.2 (fk 2 (by decide) (by decide)) (fun j _ => by rw [fo 122 (by decide)]) r3) ⟨?_, fun k hk => absurd hk (Nat.not_lt_zero _), ju_s _ _ _ _, fun k hk => absurd hk (Nat.not_lt_zero _), fun k hk => absurd hk (Nat.not_lt_zero _)⟩ (by rw [fk 16 (by decide) (by decide)]; exact r7) (mT_f (fk 11 (by decide) (by decide)) (fo 127 (by decide)) r8)) (fun i hi => fo i (by omega))⟩
  rw [ju_k (by decide), ju_s]
theorem M_feed {v : Int32} (hx : RM z x) (hw : wX z) (h : ∀ x', RM (fFeed z v).2 x' → (∀ i, i < 121 → x' i = x i) → Q (some (.int (fFeed z v).1)) x') : jo (d + 2) 92 [.ref 121, .int v] x Q := by
  obtain ⟨r1, r2, r3, r4, r5, r6, r7, r8⟩ := id hx
  obtain ⟨w1, w2, w3, w4, w5, w6, w7, w8⟩ := id hw
  have b3 := w1.2.2.1
  have b8 := w8.1
  unfold fFeed at h
  refine jo_i rfl rfl (Nat.le_of_ble_eq_true rfl) ?_
  iterate 5 refine jw_u rfl ?_
  refine m_in (a := 0) (b := 255) (by decide) (by decide) (fun hi => ?_) (fun hi => ?_)
  rotate_left
  · rw [if_neg (fun hc => hi (by have := (ri (n := 256) (by decide)).mp hc; omega))] at h
    refine jw_u rfl ⟨fun c => absurd n00 c, fun _ => ?_⟩
    iterate 2 refine jw_u rfl ?_
    exact ⟨fun h => (by cases h), h x hx (fun _ _ => rfl)⟩
  have hm : 0 ≤ v ∧ v < nI 256 := (ri (n := 256) (by decide)).mpr (by omega)
  rw [if_pos hm] at h
  obtain ⟨a, ha, rfl⟩ := ilt (by decide) hm
  rw [nI_clamp (by omega)] at h
  refine jw_u rfl ⟨fun _ => ?_, fun c => absurd c n10⟩
  iterate 2 refine jw_u rfl ?_
  refine jtop r8.1 ?_
  refine jw_u rfl ?_
  refine jw_u rfl ⟨fun (c2 : ¬ nI (gT z).1 = nI 240) => ?_, fun (c2 : nI (gT z).1 = nI 240) => ?_⟩
  rotate_left
  · rw [nI_eq (by omega) (by decide)] at c2
    rw [if_neg (by omega)] at h
    iterate 2 refine jw_u rfl ?_
    exact ⟨fun h => (by cases h), h x hx (fun _ _ => rfl)⟩
  rw [nI_eq (by omega) (by decide)] at c2
  rw [if_pos (by omega)] at h
  iterate 4 refine jw_u rfl ?_
  refine jtop r8.1 ?_
  refine jw_u rfl ?_
  refine jw_u rfl (jsN (o := 127) (show (gT z).1 < 240 by omega) (by decide) ?_)
  iterate 3 refine jw_u rfl ?_
  refine jtop (v' := nI (gT z).1) (by rw [ju_o (by decide)]; exact r8.1) ?_
  iterate 2 refine jw_u rfl ?_
  refine jtop (nI_add (gT z).1 1) ?_
  refine jw_u rfl ⟨fun h => (by cases h), ?_⟩
  iterate 2 refine jw_u rfl ?_
  refine jtop (ju_s _ _ _ _) ?_
  refine jw_u rfl ?_
  have fo : ∀ i, i ≠ 121 → i ≠ 127 → ju (ju x 127 (gT z).1 (nI a)) 121 11 (nI ((gT z).1 + 1)) i = x i := fun i h1 h2 => by rw [ju_oo h1, ju_oo h2]
  have fk : ∀ k, k ≠ 11 → ju (ju x 127 (gT z).1 (nI a)) 121 11 (nI ((gT z).1 + 1)) 121 k = x 121 k := fun k hk => by rw [ju_k hk, ju_o (by decide)]
  refine ⟨fun h => (by cases h), h (ju (ju x 127 (gT z).1 (nI a)) 121 11 (nI ((gT z).1 + 1))) (RM_o hw hx (fo 122 (by decide) (by decide)) (fo 123 (by decide) (by decide)) (fun i q1 q2 => fo i (by omega) (by omega)) (fun k hk => fk k (by omega)) rfl rfl rfl rfl (mH_f b3 w3.2 (fk 2 (by decide)) (fun j _ => by rw [fo 122 (by decide) (by decide)]) r3) (mN_f (fun k hk => fk k (by omega)) (fun i q1 q2 => fo i (by omega) (by omega)) r5) (by rw [fk 16 (by decide)]; exact r7) ⟨ju_s _ _ _ _, ?_⟩) (fun i hi => fo i (by omega) (by omega))⟩
  refine up_row (x := x) (o := 127) r8.2 (by rw [ju_o (by decide), ju_s]) (fun k hk => by rw [ju_o (by decide), ju_k hk])
theorem M_keep {i : Int32} (hx : RM z x) (hw : wX z) (h : ∀ x', RM (fKeep z i).2 x' → (∀ k, k < 121 → x' k = x k) → Q (some (.int (fKeep z i).1)) x') : jo (d + 2) 153 [.ref 121, .int i] x Q := by
  obtain ⟨r1, r2, r3, r4, r5, r6, r7, r8⟩ := id hx
  obtain ⟨w1, w2, w3, w4, w5, w6, w7, w8⟩ := id hw
  have b3 := w1.2.2.1
  unfold fKeep at h
  refine jo_i rfl rfl (Nat.le_of_ble_eq_true rfl) ?_
  iterate 5 refine jw_u rfl ?_
  refine m_in (a := 0) (b := 1) (by decide) (by decide) (fun hi => ?_) (fun hi => ?_)
  rotate_left
  · rw [if_neg (fun hc => hi (by have := (ri (n := 2) (by decide)).mp hc; omega))] at h
    refine jw_u rfl ⟨fun c => absurd n00 c, fun _ => ?_⟩
    iterate 2 refine jw_u rfl ?_
    exact ⟨fun h => (by cases h), h x hx (fun _ _ => rfl)⟩
  have hm : 0 ≤ i ∧ i < nI 2 := (ri (n := 2) (by decide)).mpr (by omega)
  rw [if_pos hm] at h
  obtain ⟨j, hj, rfl⟩ := ilt (by decide) hm
  rw [nI_clamp (by omega)] at h
  refine jw_u rfl ⟨fun _ => ?_, fun c => absurd c n10⟩
  iterate 5 refine jw_u rfl ?_
  refine jw_u rfl ?_
  refine jtop (pk_mul 27 j) ?_
  refine jw_u rfl ?_
  refine jtop (nI_add 54 _) ?_
  refine jw_u rfl ?_
  refine m_copy (a := 0) (b := 54 + 27 * j) (by decide) (by omega) (Or.inl (by omega)) (fun x2 f1 f2 f3 => ?_)
  iterate 4 refine jw_u rfl ?_
  refine jw_u rfl (jsB (o := 123) (j := j) (n := 2) hj (by decide) (Or.inr rfl) ?_)
  iterate 2 refine jw_u rfl ?_
  refine jw_u rfl ⟨fun h => (by cases h), ?_⟩
  iterate 2 refine jw_u rfl ?_
  have fo : ∀ i, i ≠ 121 → i ≠ 122 → i ≠ 123 → ju (ju x2 123 j (nI 1)) 121 2 (nI 0) i = x i := fun i h1 h2 h3 => by rw [ju_oo h1, ju_oo h3, f1 i h2]
  have fk : ∀ k, k ≠ 2 → ju (ju x2 123 j (nI 1)) 121 2 (nI 0) 121 k = x 121 k := fun k hk => by rw [ju_k hk, ju_o (by decide), f1 121 (by decide)]
  have fw : ∀ k, ju (ju x2 123 j (nI 1)) 121 2 (nI 0) 122 k = x2 122 k := fun k => by rw [ju_o (by decide), ju_o (by decide)]
  have fe : ∀ k, ju (ju x2 123 j (nI 1)) 121 2 (nI 0) 123 k = ju x2 123 j (nI 1) 123 k := fun k => by rw [ju_o (by decide)]
  refine ⟨fun h => (by cases h), h (ju (ju x2 123 j (nI 1)) 121 2 (nI 0)) ⟨mC_f (fun k hk => fk k (by omega)) (fun i q1 q2 => fo i (by omega) (by omega) (by omega)) r1, mS_f b3 w2.2.1 (fun k q1 q2 => by rw [fw, f3 k (by omega)]) r2, ⟨ju_s _ _ _ _, Nat.zero_le _, fun k S hk => by cases hk⟩, fun k hk => ?_, mN_f (fun k hk => fk k (by omega)) (fun i q1 q2 => fo i (by omega) (by omega) (by omega)) r5, ?_, ?_, mT_f (fk 11 (by decide)) (fo 127 (by decide) (by decide) (by decide)) r8⟩ (fun i hi => fo i (by omega) (by omega) (by omega))⟩
  · by_cases ej : k = j
    · subst ej
      refine ⟨fun hc => ?_, fun S s hc => ?_⟩
      · have hc : (if k = k then some (gS z, gD z) else gI z k) = none := hc
        rw [if_pos rfl] at hc
        cases hc
      · have hc : (if k = k then some (gS z, gD z) else gI z k) = some (S, s) := hc
        rw [if_pos rfl] at hc
        cases hc
        refine ⟨by rw [fe, ju_s], mS_cp (x := x) (a := 0) b3 w2.2.1 (fun m hm => by rw [fw, f2 m (by omega)]) r2, ?_⟩
        rw [fw, f2 26 (by decide)]
        exact r6
    · obtain ⟨g1, g2⟩ := r4 k hk
      have e1 : ju (ju x2 123 j (nI 1)) 121 2 (nI 0) 123 k = x 123 k := by rw [fe, ju_k ej, f1 123 (by decide)]
      refine ⟨fun hc => ?_, fun S s hc => ?_⟩
      · have hc : (if k = j then some (gS z, gD z) else gI z k) = none := hc
        rw [if_neg ej] at hc
        rw [e1]
        exact g1 hc
      · have hc : (if k = j then some (gS z, gD z) else gI z k) = some (S, s) := hc
        rw [if_neg ej] at hc
        obtain ⟨q1, q2, q3⟩ := g2 S s hc
        refine ⟨by rw [e1]; exact q1, mS_f b3 (w4 k S s hc).1.2.1 (fun m a b => by rw [fw, f3 m (by omega)]) q2, ?_⟩
        rw [fw, f3 _ (by omega)]
        exact q3
  · rw [fw, f3 26 (by omega)]; exact r6
  · rw [fk 16 (by decide)]; exact r7
theorem M_goBack {i : Int32} (hx : RM z x) (hw : wX z) (h : ∀ x', RM (fBack z i).2 x' → (∀ k, k < 121 → x' k = x k) → Q (some (.int (fBack z i).1)) x') : jo (d + 2) 154 [.ref 121, .int i] x Q := by
  obtain ⟨r1, r2, r3, r4, r5, r6, r7, r8⟩ := id hx
  obtain ⟨w1, w2, w3, w4, w5, w6, w7, w8⟩ := id hw
  have b3 := w1.2.2.1
  unfold fBack at h
  refine jo_i rfl rfl (Nat.le_of_ble_eq_true rfl) ?_
  iterate 5 refine jw_u rfl ?_
  refine m_in (a := 0) (b := 1) (by decide) (by decide) (fun hi => ?_) (fun hi => ?_)
  rotate_left
  · rw [if_neg (fun hc => hi (by have := (ri (n := 2) (by decide)).mp hc; omega))] at h
    refine jw_u rfl ⟨fun c => absurd n00 c, fun _ => ?_⟩
    iterate 2 refine jw_u rfl ?_
    exact ⟨fun h => (by cases h), h x hx (fun _ _ => rfl)⟩
  have hm : 0 ≤ i ∧ i < nI 2 := (ri (n := 2) (by decide)).mpr (by omega)
  rw [if_pos hm] at h
  obtain ⟨j, hj, rfl⟩ := ilt (by decide) hm
  rw [nI_clamp (by omega)] at h
  refine jw_u rfl ⟨fun _ => ?_, fun c => absurd c n10⟩
  iterate 3 refine jw_u rfl ?_
  obtain ⟨g1, g2⟩ := r4 j hj
  cases hg : gI z j with
  | none =>
    rw [hg] at h
    refine jw_u rfl (jaN (o := 123) (show j < 2 by omega) (by decide) (g1 hg) ?_)
    refine jw_u rfl ⟨fun c => absurd n00 c, fun _ => ?_⟩
    iterate 2 refine jw_u rfl ?_
    exact ⟨fun h => (by cases h), h x hx (fun _ _ => rfl)⟩
  | some Ss =>
    obtain ⟨S, s⟩ := Ss
    rw [hg] at h
    have h : ∀ x', RM (gC z, S, [], gI z, gN z, gB z, s, gF z, gT z) x' → (∀ k, k < 121 → x' k = x k) → Q (some (.int (nI 1))) x' := h
    obtain ⟨q1, q2, q3⟩ := g2 S s hg
    refine jw_u rfl (jaN (o := 123) (show j < 2 by omega) (by decide) q1 ?_)
    refine jw_u rfl ⟨fun _ => ?_, fun c => absurd c n10⟩
    iterate 4 refine jw_u rfl ?_
    refine jw_u rfl ?_
    refine jtop (pk_mul 27 j) ?_
    refine jw_u rfl ?_
    refine jtop (nI_add 54 _) ?_
    iterate 2 refine jw_u rfl ?_
    refine m_copy (a := 54 + 27 * j) (b := 0) (by omega) (by decide) (Or.inr (by omega)) (fun x2 f1 f2 f3 => ?_)
    iterate 2 refine jw_u rfl ?_
    refine jw_u rfl ⟨fun h => (by cases h), ?_⟩
    iterate 2 refine jw_u rfl ?_
    have fo : ∀ i, i ≠ 121 → i ≠ 122 → ju x2 121 2 (nI 0) i = x i := fun i h1 h2 => by rw [ju_oo h1, f1 i h2]
    have fk : ∀ k, k ≠ 2 → ju x2 121 2 (nI 0) 121 k = x 121 k := fun k hk => by rw [ju_k hk, f1 121 (by decide)]
    have fw : ∀ k, ju x2 121 2 (nI 0) 122 k = x2 122 k := fun k => by rw [ju_o (by decide)]
    refine ⟨fun h => (by cases h), h (ju x2 121 2 (nI 0)) ⟨mC_f (fun k hk => fk k (by omega)) (fun i q1 q2 => fo i (by omega) (by omega)) r1, mS_cp (x := x) (a := 54 + 27 * j) b3 (w4 j S s hg).1.2.1 (fun k hk => by rw [fw, f2 k (by omega)]) q2, ⟨ju_s _ _ _ _, Nat.zero_le _, fun k S hk => by cases hk⟩, mI_f b3 w4 (fo 123 (by decide) (by decide)) (fun k a b => by rw [fw, f3 k (by omega)]) r4, mN_f (fun k hk => fk k (by omega)) (fun i q1 q2 => fo i (by omega) (by omega)) r5, ?_, ?_, mT_f (fk 11 (by decide)) (fo 127 (by decide) (by decide)) r8⟩ (fun i hi => fo i (by omega) (by omega))⟩
    · rw [fw]
      have := f2 26 (by decide)
      exact this.trans q3
    · rw [fk 16 (by decide)]; exact r7
end MM
