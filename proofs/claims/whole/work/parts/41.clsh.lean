/-! THE CLASS: drift -/
section CI
variable {d : Nat} {x : jM} {Q : Option Value → jM → Prop} {z : aX}
theorem C_drift {m : Int32} (hx : RX z x) (hw : wX z) (h : ∀ x', RX (fDrift z m).2 x' → (∀ i, 121 ≤ i → x' i = x i) → Q (some (.int (fDrift z m).1)) x') : jo (d + 4) 35 [.ref 0, .int m] x Q := by
  obtain ⟨r1, r2, ⟨nx, r3⟩, r4, r5, r6, r7, r8⟩ := id hx
  obtain ⟨w1, w2, -, -, -, -, w7, -⟩ := id hw
  have b3 := w1.2.2.1
  refine jo_i rfl rfl (Nat.le_of_ble_eq_true rfl) ?_
  iterate 2 refine jw_u rfl ?_
  have out : ¬ (nI 1 ≤ m ∧ m ≤ nI 60) → jw (d + 3) kX6_drift Q 6 [some (.ref 0), some (.int m), none, none] [] x := by
    intro hm
    rw [show fDrift z m = (kO, z) by unfold fDrift; rw [if_neg hm]] at h
    iterate 2 refine jw_u rfl ?_
    exact ⟨fun h => (by cases h), h x hx (fun _ _ => rfl)⟩
  refine jw_u rfl ⟨fun (c : m < nI 1) => out (fun hc => absurd hc.1 (by simpa using c)), fun (c : ¬ m < nI 1) => ?_⟩
  iterate 2 refine jw_u rfl ?_
  refine jw_u rfl ⟨fun (c' : m ≤ nI 60) => ?_, fun (c' : ¬ m ≤ nI 60) => out (fun hc => c' hc.2)⟩
  have hm : nI 1 ≤ m ∧ m ≤ nI 60 := ⟨by simpa using c, c'⟩
  obtain ⟨j, hj, rfl⟩ := nI_of2 (n := 60) (M := nI 60) (by decide) (fun hc => c (Int32.lt_trans hc (by decide))) c'
  iterate 3 refine jw_u rfl ?_
  refine jtop r1.1 ?_
  refine jw_u rfl ⟨fun (c1 : ¬ nI (cT (gC z)) = 0) => ?_, fun (c1 : nI (cT (gC z)) = 0) => ?_⟩
  rotate_left
  · rw [show fDrift z (nI j) = (kX, z) by unfold fDrift; rw [if_pos hm, if_neg (fun e => by rw [e] at c1; exact n10 c1)]] at h
    iterate 2 refine jw_u rfl ?_
    exact ⟨fun h => (by cases h), h x hx (fun _ _ => rfl)⟩
  have hT : cT (gC z) = 1 := by
    have := w1.1
    rcases (show cT (gC z) = 0 ∨ cT (gC z) = 1 by omega) with e | e
    · rw [e] at c1
      exact absurd n00 c1
    · exact e
  rw [show fDrift z (nI j) = (nI (cA (fun p => (drR z j).2 p != sH (gS z) p) (cN (gC z))), drZ z (drR z j)) by unfold fDrift; rw [if_pos hm, if_pos hT, nI_clamp (by omega)]] at h
  iterate 5 refine jw_u rfl ?_
  refine c_push b3 r3 r2 w2 (fun x1 f1 f2 => ?_)
  have hx1 : RX (zPush z) x1 := RX_h f1 f2 hx
  have q1 := hx1.1
  have q2 := hx1.2.1
  have q6 : x1 0 8 = nI (gD z) := hx1.2.2.2.2.2.1
  iterate 5 refine jw_u rfl ?_
  refine c_takeS stI_19 stI_15 ?_
  have hX := xS_cp (x := x1) (o := 19) (s := 15) (n := cN (gC z)) (S := gS z) (Or.inr (by decide)) b3 w2.2.1 q2
  have fr : ∀ k, k < 19 ∨ 22 < k → cpS x1 19 15 k = x1 k := fun k hk => cpS_f (by omega)
  generalize cpS x1 19 15 = x2 at hX fr ⊢
  have hT20 : ∀ k, k < cN (gC z) → x2 20 k = nI (sH (gS z) k) := hX.1
  have tail : ∀ x3 g, (∀ i, i ≠ 0 → i ≠ 16 → x3 i = x2 i) → (∀ k, k ≠ 8 → x3 0 k = x2 0 k) → x3 0 8 = nI (drR z j).1 → (∀ k, k < cN (gC z) → x3 16 k = nI ((drR z j).2 k)) → (∀ k, k < cN (gC z) → (drR z j).2 k < 1000) → jw (d + 3) kX6_drift Q 37 [some (.ref 0), some (.int (nI j)), g, none] [] x3 := by
    intro x3 g t1 t2 t3 t4 t5
    have e3 : x3 11 2 = nI (cN (gC z)) := by rw [t1 11 (by decide) (by decide), fr 11 (by omega)]; exact q1.2.2.1
    have loop : ∀ p, p ≤ cN (gC z) → jw (d + 3) kX6_drift Q 41 [some (.ref 0), some (.int (nI j)), some (.int (nI (cA (fun p => (drR z j).2 p != sH (gS z) p) p))), some (.int (nI p))] [] x3 := by
      refine dn _ (cN (gC z)) ?_ (fun p hp ih => ?_)
      · iterate 4 refine jw_u rfl ?_
        refine jw_u rfl ⟨fun _ => ?_, fun (c' : ¬ x3 11 2 ≤ nI (cN (gC z))) => absurd (by rw [e3]; exact Int32.le_refl _) c'⟩
        iterate 2 refine jw_u rfl ?_
        have fq : ∀ i, i ≠ 0 → (i < 16 ∨ i = 17 ∨ i = 18 ∨ 22 < i) → x3 i = x1 i := fun i g1 g2 => by rw [t1 i g1 (by omega), fr i (by omega)]
        obtain ⟨a1, a2, ⟨ny, a3⟩, a4, a5, a6, a7, a8⟩ := hx1
        refine ⟨fun h => (by cases h), h x3 ⟨xC_f (fun i g1 g2 => fq i (by omega) (by omega)) a1, ⟨t4, ?_, fun k hk => ?_, fun k hk => ?_, ?_⟩, ⟨ny, xH_f (fun i g1 g2 => fq i (by omega) (by omega)) a3⟩, xI_f (fun i g1 g2 => fq i (by omega) (by omega)) a4, xN_f (fun i g1 g2 => fq i (by omega) (by omega)) a5, t3, ?_, ?_⟩ (fun i hi => by rw [fq i (by omega) (by omega), f1 i (by omega)])⟩
        · rw [fq 15 (by decide) (by omega)]; exact a2.2.1
        · rw [fq 17 (by decide) (by omega)]; exact a2.2.2.1 k hk
        · rw [fq 18 (by decide) (by omega)]; exact a2.2.2.2.1 k hk
        · rw [fq 15 (by decide) (by omega)]; exact a2.2.2.2.2
        · rw [t2 9 (by decide), fr 0 (by omega)]; exact a7
        · exact ⟨by rw [fq 1 (by decide) (by omega)]; exact a8.1, fun k hk => by rw [fq 2 (by decide) (by omega)]; exact a8.2 k hk⟩
      · have b4 := t5 p hp
        have b5 := w2.1 p hp
        have e20 : x3 20 p = nI (sH (gS z) p) := by rw [t1 20 (by decide) (by decide)]; exact hT20 p hp
        iterate 4 refine jw_u rfl ?_
        refine jw_u rfl ⟨fun (c' : x3 11 2 ≤ nI p) => absurd c' (by rw [e3]; exact nI_ge hp (by omega)), fun _ => ?_⟩
        iterate 4 refine jw_u rfl ?_
        refine jw_u rfl (jaN (show p < 8 by omega) (by decide) (t4 p hp) ?_)
        iterate 4 refine jw_u rfl ?_
        refine jw_u rfl (jaN (show p < 8 by omega) (by decide) e20 ?_)
        refine jw_u rfl ⟨fun (c' : nI ((drR z j).2 p) = nI (sH (gS z) p)) => ?_, fun (c' : ¬ nI ((drR z j).2 p) = nI (sH (gS z) p)) => ?_⟩
        · rw [nI_eq (by omega) (by omega)] at c'
          iterate 2 refine jw_u rfl ?_
          rw [nI_s p, cA, if_neg (by simp [c'])] at ih
          exact ih
        · rw [nI_eq (by omega) (by omega)] at c'
          iterate 3 refine jw_u rfl ?_
          rw [nI_s p, cA, if_pos (by simp [c']), nI_s] at ih
          exact ih
    iterate 4 refine jw_u rfl ?_
    exact loop 0 (Nat.zero_le _)
  iterate 3 refine jw_u rfl ?_
  refine jtop (v' := nI (cN (gC z))) (by rw [fr 11 (by omega)]; exact q1.2.2.1) ?_
  refine jw_u rfl ⟨fun (c2 : nI (cN (gC z)) ≤ 0) => ?_, fun (c2 : ¬ nI (cN (gC z)) ≤ 0) => ?_⟩
  · have e0 : cN (gC z) = 0 := by
      rw [← n00, nI_leI (by omega) (by decide)] at c2
      omega
    have er : drR z j = (gD z, sH (gS z)) := by unfold drR; rw [if_neg (by omega)]
    refine tail x2 none (fun _ _ _ => rfl) (fun _ _ => rfl) (by rw [er, fr 0 (by omega)]; exact q6) (fun k hk => ?_) (fun k hk => ?_)
    · rw [e0] at hk; exact absurd hk (Nat.not_lt_zero _)
    · rw [e0] at hk; exact absurd hk (Nat.not_lt_zero _)
  · have h0 : 0 < cN (gC z) := by
      rw [← n00, nI_leI (by omega) (by decide)] at c2
      omega
    have er : drR z j = skN (cN (gC z)) j (gD z, sH (gS z)) := by unfold drR; rw [if_pos h0]
    have bj := skN_lt h0 j (gD z, sH (gS z)) w7 w2.1
    rw [← er] at bj
    have loop : ∀ i, i ≤ j → ∀ x3 s f, (∀ i, i ≠ 0 → i ≠ 16 → x3 i = x2 i) → (∀ k, k ≠ 8 → x3 0 k = x2 0 k) → x3 0 8 = nI s → (∀ k, k < cN (gC z) → x3 16 k = nI (f k)) → s < 2147483648 → (∀ k, k < cN (gC z) → f k < 1000) → skN (cN (gC z)) (j - i) (s, f) = drR z j → jw (d + 3) kX6_drift Q 30 [some (.ref 0), some (.int (nI j)), some (.int (nI i)), none] [] x3 := by
      refine dn _ j (fun x3 s f t1 t2 t3 t4 t5 t6 t7 => ?_) (fun i hi ih x3 s f t1 t2 t3 t4 t5 t6 t7 => ?_)
      · iterate 2 refine jw_u rfl ?_
        refine jw_u rfl ⟨fun _ => ?_, fun (c' : ¬ nI j ≤ nI j) => absurd (Int32.le_refl _) c'⟩
        rw [Nat.sub_self, skN_0] at t7
        refine tail x3 _ t1 t2 (by rw [← t7]; exact t3) (fun k hk => by rw [← t7]; exact t4 k hk) bj.2
      · have e3 : x3 11 2 = nI (cN (gC z)) := by rw [t1 11 (by decide) (by decide), fr 11 (by omega)]; exact q1.2.2.1
        iterate 2 refine jw_u rfl ?_
        refine jw_u rfl ⟨fun (c' : nI j ≤ nI i) => absurd c' (nI_ge hi (by omega)), fun _ => ?_⟩
        iterate 2 refine jw_u rfl ?_
        refine c_shakeOnce e3 b3 h0 t3 t5 t4 t6 (fun x4 v1 v2 v3 v4 => ?_)
        iterate 2 refine jw_u rfl ?_
        have bs := s1k_lt (s := s) h0 t6
        have := ih x4 (s1k s (cN (gC z)) f).1 (s1k s (cN (gC z)) f).2 (fun i g1 g2 => (v1 i g1 g2).trans (t1 i g1 g2)) (fun k hk => (v2 k hk).trans (t2 k hk)) v3 v4 bs.1 bs.2 (by rw [← t7, show j - i = (j - (i + 1)) + 1 by omega, skN_s])
        rw [nI_s i] at this
        exact this
    iterate 2 refine jw_u rfl ?_
    refine loop 0 (Nat.zero_le _) x2 (gD z) (sH (gS z)) (fun _ _ _ => rfl) (fun _ _ => rfl) (by rw [fr 0 (by omega)]; exact q6) (fun k hk => by rw [fr 16 (by omega)]; exact q2.1 k hk) w7 w2.1 er.symm
end CI
