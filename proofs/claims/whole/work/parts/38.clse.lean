/-! THE CLASS: what is seen, the book, images, letters -/
section CE
variable {d : Nat} {x : jM} {Q : Option Value → jM → Prop} {z : aX}
theorem C_see {m : Int32} (hx : RX z x) (hw : wX z) (h : ∀ x', RX (fSee z m).2 x' → (∀ i, 121 ≤ i → x' i = x i) → Q (some (.int (fSee z m).1)) x') : jo (d + 2) 52 [.ref 0, .int m] x Q := by
  obtain ⟨r1, r2, ⟨nx, r3⟩, r4, r5, r6, r7, r8⟩ := id hx
  obtain ⟨w1, w2, w3, w4, w5, -⟩ := id hw
  have bp := w5.1
  refine jo_i rfl rfl (Nat.le_of_ble_eq_true rfl) ?_
  iterate 2 refine jw_u rfl ?_
  refine c_isMark (fun hm => ?_) (fun hm => ?_)
  rotate_left
  · refine jw_u rfl ⟨fun c => absurd n00 c, fun _ => ?_⟩
    rw [show fSee z m = (kO, z) by unfold fSee; rw [if_neg hm]] at h
    iterate 2 refine jw_u rfl ?_
    exact ⟨fun h => (by cases h), h x hx (fun _ _ => rfl)⟩
  refine jw_u rfl ⟨fun _ => ?_, fun c => absurd c n10⟩
  have hm2 := hm
  obtain ⟨a, ha, rfl⟩ := ilt (by decide) hm
  iterate 3 refine jw_u rfl ?_
  refine jtop r5.1 ?_
  refine jw_u rfl ?_
  refine jw_u rfl ⟨fun (c2 : nI (gN z).1 < nI 8) => ?_, fun (c2 : ¬ nI (gN z).1 < nI 8) => ?_⟩
  rotate_left
  · rw [nI_ltI (by omega) (by decide)] at c2
    rw [show fSee z (nI a) = (kF, z) by unfold fSee; rw [if_pos hm2, if_neg c2]] at h
    iterate 2 refine jw_u rfl ?_
    exact ⟨fun h => (by cases h), h x hx (fun _ _ => rfl)⟩
  rw [nI_ltI (by omega) (by decide)] at c2
  rw [show fSee z (nI a) = (nI ((gN z).1 + 1), (gC z, gS z, gH z, gI z, ((gN z).1 + 1, upN (gN z).2 (gN z).1 a), gB z, gD z, gF z, gT z)) by unfold fSee; rw [if_pos hm2, if_pos c2, nI_clamp (by omega)]] at h
  have call : jo (d + 1) 5 [.ref 116, .int (nI a)] x (fun rv x' => rv = none ∧ x' = ju (ju x 117 (gN z).1 (nI a)) 116 0 (nI ((gN z).1 + 1))) := by
    refine jo_i rfl rfl (Nat.le_of_ble_eq_true rfl) ?_
    iterate 2 refine jw_u rfl ?_
    refine jtop r5.1 ?_
    refine jw_u rfl ?_
    refine jw_u rfl ⟨fun (c3 : nI 8 ≤ nI (gN z).1) => absurd c3 (nI_ge c2 (by decide)), fun _ => ?_⟩
    iterate 4 refine jw_u rfl ?_
    refine jtop r5.1 ?_
    refine jw_u rfl ?_
    refine jw_u rfl (jsN (show (gN z).1 < 8 by omega) (by decide) ?_)
    iterate 3 refine jw_u rfl ?_
    refine jtop (v' := nI (gN z).1) (by rw [ju_o (by decide)]; exact r5.1) ?_
    iterate 2 refine jw_u rfl ?_
    refine jtop (nI_add (gN z).1 1) ?_
    refine jw_u rfl ⟨fun h => (by cases h), ?_⟩
    refine jw_u rfl ?_
    exact ⟨rfl, rfl⟩
  iterate 4 refine jw_u rfl ?_
  refine jo_mono (fun rv x' hr => ?_) call
  obtain ⟨rfl, rfl⟩ := hr
  iterate 3 refine jw_u rfl ?_
  refine jtop (ju_s _ _ _ _) ?_
  refine jw_u rfl ?_
  have fr : ∀ i, i ≠ 116 → i ≠ 117 → ju (ju x 117 (gN z).1 (nI a)) 116 0 (nI ((gN z).1 + 1)) i = x i := fun i h1 h2 => by rw [ju_oo h1, ju_oo h2]
  refine ⟨fun h => (by cases h), h _ ⟨xC_f (fun i g1 g2 => fr i (by omega) (by omega)) r1, xS_f (fun i g1 g2 => fr i (by omega) (by omega)) r2, ⟨nx, xH_f (fun i g1 g2 => fr i (by omega) (by omega)) r3⟩, xI_f (fun i g1 g2 => fr i (by omega) (by omega)) r4, ⟨ju_s _ _ _ _, fun k hk => ?_, ?_, fun k hk => ?_, fun k hk => ?_⟩, ?_, ?_, ?_⟩ (fun i hi => fr i (by omega) (by omega))⟩
  · rw [ju_o (by decide)]
    by_cases e : k = (gN z).1
    · subst e
      show ju x 117 (gN z).1 (nI a) 117 (gN z).1 = nI (upN (gN z).2 (gN z).1 a (gN z).1)
      rw [ju_s, upN_s]
    · show ju x 117 (gN z).1 (nI a) 117 k = nI (upN (gN z).2 (gN z).1 a k)
      rw [ju_k e, upN_o e]
      exact r5.2.1 k (by have hk : k < (gN z).1 + 1 := hk; omega)
  · rw [ju_k (by decide), ju_o (by decide)]; exact r5.2.2.1
  · rw [fr 118 (by decide) (by decide)]; exact r5.2.2.2.1 k hk
  · rw [fr 119 (by decide) (by decide)]; exact r5.2.2.2.2 k hk
  · rw [fr 0 (by decide) (by decide)]; exact r6
  · rw [fr 0 (by decide) (by decide)]; exact r7
  · exact ⟨by rw [fr 1 (by decide) (by decide)]; exact r8.1, fun k hk => by rw [fr 2 (by decide) (by decide)]; exact r8.2 k hk⟩
theorem C_write {p m : Int32} (hx : RX z x) (hw : wX z) (h : ∀ x', RX (fWrite z p m).2 x' → (∀ i, 121 ≤ i → x' i = x i) → Q (some (.int (fWrite z p m).1)) x') : jo (d + 2) 55 [.ref 0, .int p, .int m] x Q := by
  obtain ⟨r1, r2, ⟨nx, r3⟩, r4, r5, r6, r7, r8⟩ := id hx
  obtain ⟨w1, w2, w3, w4, w5, w6, -⟩ := id hw
  have b3 := w1.2.2.1
  have bp := w6.1
  refine jo_i rfl rfl (Nat.le_of_ble_eq_true rfl) ?_
  iterate 3 refine jw_u rfl ?_
  refine c_isPerson r1.2.2.1 (fun hp => ?_) (fun hp => ?_)
  rotate_left
  · refine jw_u rfl ⟨fun c => absurd n00 c, fun _ => ?_⟩
    rw [show fWrite z p m = (kU, z) by unfold fWrite; rw [if_neg hp]] at h
    iterate 2 refine jw_u rfl ?_
    exact ⟨fun h => (by cases h), h x hx (fun _ _ => rfl)⟩
  refine jw_u rfl ⟨fun _ => ?_, fun c => absurd c n10⟩
  iterate 2 refine jw_u rfl ?_
  refine c_isMark (fun hm => ?_) (fun hm => ?_)
  rotate_left
  · refine jw_u rfl ⟨fun c => absurd n00 c, fun _ => ?_⟩
    rw [show fWrite z p m = (kO, z) by unfold fWrite; rw [if_pos hp, if_neg hm]] at h
    iterate 2 refine jw_u rfl ?_
    exact ⟨fun h => (by cases h), h x hx (fun _ _ => rfl)⟩
  refine jw_u rfl ⟨fun _ => ?_, fun c => absurd c n10⟩
  have hpm := And.intro hp hm
  obtain ⟨j, hj, rfl⟩ := ilt (by omega) hp
  obtain ⟨a, ha, rfl⟩ := ilt (by decide) hm
  have r53 := r5.2.2.1
  iterate 3 refine jw_u rfl ?_
  refine jtop r53 ?_
  refine jw_u rfl ?_
  refine jw_u rfl ⟨fun (c2 : nI (gB z).1 < nI 15) => ?_, fun (c2 : ¬ nI (gB z).1 < nI 15) => ?_⟩
  rotate_left
  · rw [nI_ltI (by omega) (by decide)] at c2
    rw [show fWrite z (nI j) (nI a) = (kF, z) by unfold fWrite; rw [if_pos hpm.1, if_pos hpm.2, if_neg c2]] at h
    iterate 2 refine jw_u rfl ?_
    exact ⟨fun h => (by cases h), h x hx (fun _ _ => rfl)⟩
  rw [nI_ltI (by omega) (by decide)] at c2
  rw [show fWrite z (nI j) (nI a) = (nI ((gB z).1 + 1), (gC z, gS z, gH z, gI z, gN z, ((gB z).1 + 1, upN (gB z).2.1 (gB z).1 j, upN (gB z).2.2 (gB z).1 a), gD z, gF z, gT z)) by unfold fWrite; rw [if_pos hpm.1, if_pos hpm.2, if_pos c2, nI_clamp (by omega), nI_clamp (by omega)]] at h
  have call : jo (d + 1) 6 [.ref 116, .int (nI j), .int (nI a)] x (fun rv x' => rv = none ∧ x' = ju (ju (ju x 118 (gB z).1 (nI j)) 119 (gB z).1 (nI a)) 116 2 (nI ((gB z).1 + 1))) := by
    refine jo_i rfl rfl (Nat.le_of_ble_eq_true rfl) ?_
    iterate 2 refine jw_u rfl ?_
    refine jtop r53 ?_
    refine jw_u rfl ?_
    refine jw_u rfl ⟨fun (c3 : nI 15 ≤ nI (gB z).1) => absurd c3 (nI_ge c2 (by decide)), fun _ => ?_⟩
    iterate 4 refine jw_u rfl ?_
    refine jtop r53 ?_
    refine jw_u rfl ?_
    refine jw_u rfl (jsN (show (gB z).1 < 15 by omega) (by decide) ?_)
    iterate 4 refine jw_u rfl ?_
    refine jtop (v' := nI (gB z).1) (by rw [ju_o (by decide)]; exact r53) ?_
    refine jw_u rfl ?_
    refine jw_u rfl (jsN (show (gB z).1 < 15 by omega) (by decide) ?_)
    iterate 3 refine jw_u rfl ?_
    refine jtop (v' := nI (gB z).1) (by rw [ju_o (by decide), ju_o (by decide)]; exact r53) ?_
    iterate 2 refine jw_u rfl ?_
    refine jtop (nI_add (gB z).1 1) ?_
    refine jw_u rfl ⟨fun h => (by cases h), ?_⟩
    refine jw_u rfl ?_
    exact ⟨rfl, rfl⟩
  iterate 5 refine jw_u rfl ?_
  refine jo_mono (fun rv x' hr => ?_) call
  obtain ⟨rfl, rfl⟩ := hr
  iterate 3 refine jw_u rfl ?_
  refine jtop (ju_s _ _ _ _) ?_
  refine jw_u rfl ?_
  have fr : ∀ i, i ≠ 116 → i ≠ 118 → i ≠ 119 → ju (ju (ju x 118 (gB z).1 (nI j)) 119 (gB z).1 (nI a)) 116 2 (nI ((gB z).1 + 1)) i = x i := fun i h1 h2 h3 => by rw [ju_oo h1, ju_oo h3, ju_oo h2]
  refine ⟨fun h => (by cases h), h _ ⟨xC_f (fun i g1 g2 => fr i (by omega) (by omega) (by omega)) r1, xS_f (fun i g1 g2 => fr i (by omega) (by omega) (by omega)) r2, ⟨nx, xH_f (fun i g1 g2 => fr i (by omega) (by omega) (by omega)) r3⟩, xI_f (fun i g1 g2 => fr i (by omega) (by omega) (by omega)) r4, ⟨?_, fun k hk => ?_, ju_s _ _ _ _, fun k hk => ?_, fun k hk => ?_⟩, ?_, ?_, ?_⟩ (fun i hi => fr i (by omega) (by omega) (by omega))⟩
  · rw [ju_k (by decide), ju_o (by decide), ju_o (by decide)]; exact r5.1
  · rw [fr 117 (by decide) (by decide) (by decide)]; exact r5.2.1 k hk
  · rw [ju_o (by decide), ju_o (by decide)]
    by_cases e : k = (gB z).1
    · subst e
      show ju x 118 (gB z).1 (nI j) 118 (gB z).1 = nI (upN (gB z).2.1 (gB z).1 j (gB z).1)
      rw [ju_s, upN_s]
    · show ju x 118 (gB z).1 (nI j) 118 k = nI (upN (gB z).2.1 (gB z).1 j k)
      rw [ju_k e, upN_o e]
      exact r5.2.2.2.1 k (by have hk : k < (gB z).1 + 1 := hk; omega)
  · rw [ju_o (by decide)]
    by_cases e : k = (gB z).1
    · subst e
      show ju (ju x 118 (gB z).1 (nI j)) 119 (gB z).1 (nI a) 119 (gB z).1 = nI (upN (gB z).2.2 (gB z).1 a (gB z).1)
      rw [ju_s, upN_s]
    · show ju (ju x 118 (gB z).1 (nI j)) 119 (gB z).1 (nI a) 119 k = nI (upN (gB z).2.2 (gB z).1 a k)
      rw [ju_k e, ju_o (by decide), upN_o e]
      exact r5.2.2.2.2 k (by have hk : k < (gB z).1 + 1 := hk; omega)
  · rw [fr 0 (by decide) (by decide) (by decide)]; exact r6
  · rw [fr 0 (by decide) (by decide) (by decide)]; exact r7
  · exact ⟨by rw [fr 1 (by decide) (by decide) (by decide)]; exact r8.1, fun k hk => by rw [fr 2 (by decide) (by decide) (by decide)]; exact r8.2 k hk⟩
theorem C_tear (hx : RX z x) (h : ∀ x', RX (fTear z).2 x' → (∀ i, 121 ≤ i → x' i = x i) → Q (some (.int (fTear z).1)) x') : jo (d + 2) 56 [.ref 0] x Q := by
  obtain ⟨r1, r2, ⟨nx, r3⟩, r4, r5, r6, r7, r8⟩ := id hx
  refine jo_i rfl rfl (Nat.le_of_ble_eq_true rfl) ?_
  iterate 3 refine jw_u rfl ?_
  refine jtop r5.1 ?_
  iterate 3 refine jw_u rfl ?_
  refine jtop r5.2.2.1 ?_
  refine jw_u rfl ?_
  refine jtop (nI_add _ _) ?_
  iterate 4 refine jw_u rfl ?_
  refine c_clearAll ?_
  iterate 2 refine jw_u rfl ?_
  have fr : ∀ i, i ≠ 116 → ju (ju x 116 0 (nI 0)) 116 2 (nI 0) i = x i := fun i h1 => by rw [ju_oo h1, ju_oo h1]
  refine ⟨fun h => (by cases h), h _ ⟨xC_f (fun i g1 g2 => fr i (by omega)) r1, xS_f (fun i g1 g2 => fr i (by omega)) r2, ⟨nx, xH_f (fun i g1 g2 => fr i (by omega)) r3⟩, xI_f (fun i g1 g2 => fr i (by omega)) r4, ⟨?_, fun k hk => absurd hk (Nat.not_lt_zero _), ju_s _ _ _ _, fun k hk => absurd hk (Nat.not_lt_zero _), fun k hk => absurd hk (Nat.not_lt_zero _)⟩, ?_, ?_, ?_⟩ (fun i hi => fr i (by omega))⟩
  · rw [ju_k (by decide)]; exact ju_s _ _ _ _
  · rw [fr 0 (by decide)]; exact r6
  · rw [fr 0 (by decide)]; exact r7
  · exact ⟨by rw [fr 1 (by decide)]; exact r8.1, fun k hk => by rw [fr 2 (by decide)]; exact r8.2 k hk⟩
theorem C_feed {v : Int32} (hx : RX z x) (hw : wX z) (h : ∀ x', RX (fFeed z v).2 x' → (∀ i, 121 ≤ i → x' i = x i) → Q (some (.int (fFeed z v).1)) x') : jo (d + 2) 24 [.ref 0, .int v] x Q := by
  obtain ⟨r1, r2, ⟨nx, r3⟩, r4, r5, r6, r7, r8⟩ := id hx
  have bt_ := hw.2.2.2.2.2.2.2.1
  refine jo_i rfl rfl (Nat.le_of_ble_eq_true rfl) ?_
  refine jw_u rfl ?_
  have out : ¬ (0 ≤ v ∧ v < nI 256) → jw (d + 1) kX6_feed Q 5 [some (.ref 0), some (.int v)] [] x := by
    intro hm
    rw [show fFeed z v = (kO, z) by unfold fFeed; rw [if_neg hm]] at h
    iterate 2 refine jw_u rfl ?_
    exact ⟨fun h => (by cases h), h x hx (fun _ _ => rfl)⟩
  refine jw_u rfl ⟨fun (c : v < 0) => out (fun hc => absurd hc.1 (by simpa using c)), fun (c : ¬ v < 0) => ?_⟩
  iterate 2 refine jw_u rfl ?_
  refine jw_u rfl ⟨fun (c' : v ≤ nI 255) => ?_, fun (c' : ¬ v ≤ nI 255) => out (fun hc => ?_)⟩
  rotate_left
  · obtain ⟨j, hj, rfl⟩ := ilt (by decide) hc
    exact c' (nI_le (by omega) (by decide))
  obtain ⟨j, hj, rfl⟩ := nI_of2 (n := 255) (by decide) c c'
  have hm : 0 ≤ nI j ∧ nI j < nI 256 := ilt2 (by decide) (by omega)
  iterate 3 refine jw_u rfl ?_
  refine jtop r8.1 ?_
  refine jw_u rfl ?_
  refine jw_u rfl ⟨fun (c2 : nI (gT z).1 < nI 240) => ?_, fun (c2 : ¬ nI (gT z).1 < nI 240) => ?_⟩
  rotate_left
  · rw [nI_ltI (by omega) (by decide)] at c2
    rw [show fFeed z (nI j) = (kF, z) by unfold fFeed; rw [if_pos hm, if_neg c2]] at h
    iterate 2 refine jw_u rfl ?_
    exact ⟨fun h => (by cases h), h x hx (fun _ _ => rfl)⟩
  rw [nI_ltI (by omega) (by decide)] at c2
  rw [show fFeed z (nI j) = (nI ((gT z).1 + 1), (gC z, gS z, gH z, gI z, gN z, gB z, gD z, gF z, ((gT z).1 + 1, upN (gT z).2 (gT z).1 j))) by unfold fFeed; rw [if_pos hm, if_pos c2, nI_clamp (by omega)]] at h
  have call : jo (d + 1) 8 [.ref 1, .int (nI j)] x (fun rv x' => rv = none ∧ x' = ju (ju x 2 (gT z).1 (nI j)) 1 1 (nI ((gT z).1 + 1))) := by
    refine jo_i rfl rfl (Nat.le_of_ble_eq_true rfl) ?_
    iterate 2 refine jw_u rfl ?_
    refine jtop r8.1 ?_
    refine jw_u rfl ?_
    refine jw_u rfl ⟨fun (c3 : nI 240 ≤ nI (gT z).1) => absurd c3 (nI_ge c2 (by decide)), fun _ => ?_⟩
    iterate 4 refine jw_u rfl ?_
    refine jtop r8.1 ?_
    refine jw_u rfl ?_
    refine jw_u rfl (jsN (show (gT z).1 < 240 by omega) (by decide) ?_)
    iterate 3 refine jw_u rfl ?_
    refine jtop (v' := nI (gT z).1) (by rw [ju_o (by decide)]; exact r8.1) ?_
    iterate 2 refine jw_u rfl ?_
    refine jtop (nI_add (gT z).1 1) ?_
    refine jw_u rfl ⟨fun h => (by cases h), ?_⟩
    refine jw_u rfl ?_
    exact ⟨rfl, rfl⟩
  iterate 4 refine jw_u rfl ?_
  refine jo_mono (fun rv x' hr => ?_) call
  obtain ⟨rfl, rfl⟩ := hr
  iterate 3 refine jw_u rfl ?_
  refine jtop (ju_s _ _ _ _) ?_
  refine jw_u rfl ?_
  have fr : ∀ i, i ≠ 1 → i ≠ 2 → ju (ju x 2 (gT z).1 (nI j)) 1 1 (nI ((gT z).1 + 1)) i = x i := fun i h1 h2 => by rw [ju_oo h1, ju_oo h2]
  refine ⟨fun h => (by cases h), h _ ⟨xC_f (fun i g1 g2 => fr i (by omega) (by omega)) r1, xS_f (fun i g1 g2 => fr i (by omega) (by omega)) r2, ⟨nx, xH_f (fun i g1 g2 => fr i (by omega) (by omega)) r3⟩, xI_f (fun i g1 g2 => fr i (by omega) (by omega)) r4, xN_f (fun i g1 g2 => fr i (by omega) (by omega)) r5, ?_, ?_, ju_s _ _ _ _, fun k hk => ?_⟩ (fun i hi => fr i (by omega) (by omega))⟩
  · rw [fr 0 (by decide) (by decide)]; exact r6
  · rw [fr 0 (by decide) (by decide)]; exact r7
  · rw [ju_o (by decide)]
    by_cases e : k = (gT z).1
    · subst e
      show ju x 2 (gT z).1 (nI j) 2 (gT z).1 = nI (upN (gT z).2 (gT z).1 j (gT z).1)
      rw [ju_s, upN_s]
    · show ju x 2 (gT z).1 (nI j) 2 k = nI (upN (gT z).2 (gT z).1 j k)
      rw [ju_k e, upN_o e]
      exact r8.2 k (by have hk : k < (gT z).1 + 1 := hk; omega)
end CE
