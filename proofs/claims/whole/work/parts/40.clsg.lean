/-! THE CLASS: images, drift -/
def drR (z : aX) (j : Nat) : Nat × (Nat → Nat) := if 0 < cN (gC z) then skN (cN (gC z)) j (gD z, sH (gS z)) else (gD z, sH (gS z))
def drZ (z : aX) (r : Nat × (Nat → Nat)) : aX := (gC z, (r.2, sP (gS z), sM (gS z), sN (gS z), sY (gS z)), (gS z :: gH z).take 20, gI z, gN z, gB z, r.1, gF z, gT z)
def fDrift (z : aX) (m : Int32) : Int32 × aX :=
  if nI 1 ≤ m ∧ m ≤ nI 60 then (if cT (gC z) = 1 then (nI (cA (fun p => (drR z m.toNatClampNeg).2 p != sH (gS z) p) (cN (gC z))), drZ z (drR z m.toNatClampNeg)) else (kX, z)) else (kO, z)
theorem s1k_lt {s n : Nat} {f : Nat → Nat} (h0 : 0 < n) (hf : ∀ k, k < n → f k < 1000) : (s1k s n f).1 < 2147483648 ∧ ∀ k, k < n → (s1k s n f).2 k < 1000 := by
  refine ⟨ns_lt _, fun k hk => ?_⟩
  unfold s1k
  show upN f _ _ k < 1000
  by_cases e : k = ns s / 65536 % n
  · rw [e, upN_s]
    exact sh_lt (hf _ (Nat.mod_lt _ h0)) (Nat.mod_lt _ (by decide))
  · rw [upN_o e]
    exact hf k hk
theorem skN_lt {n : Nat} (h0 : 0 < n) (k : Nat) : ∀ (p : Nat × (Nat → Nat)), p.1 < 2147483648 → (∀ k, k < n → p.2 k < 1000) → (skN n k p).1 < 2147483648 ∧ ∀ j, j < n → (skN n k p).2 j < 1000 := by
  induction k with
  | zero => intro p h1 h2; rw [skN_0]; exact ⟨h1, h2⟩
  | succ k ih =>
    intro p h1 h2
    rw [skN_s]
    have := s1k_lt (s := p.1) h0 h2
    exact ih _ this.1 this.2
section CG
variable {d : Nat} {x : jM} {Q : Option Value → jM → Prop} {z : aX}
theorem C_keep {i : Int32} (hx : RX z x) (hw : wX z) (h : ∀ x', RX (fKeep z i).2 x' → (∀ k, 121 ≤ k → x' k = x k) → Q (some (.int (fKeep z i).1)) x') : jo (d + 2) 59 [.ref 0, .int i] x Q := by
  obtain ⟨r1, r2, ⟨nx, r3⟩, r4, r5, r6, r7, r8⟩ := id hx
  obtain ⟨w1, w2, -⟩ := id hw
  have b3 := w1.2.2.1
  refine jo_i rfl rfl (Nat.le_of_ble_eq_true rfl) ?_
  iterate 2 refine jw_u rfl ?_
  refine c_isImage (fun hm => ?_) (fun hm => ?_)
  rotate_left
  · refine jw_u rfl ⟨fun c => absurd n00 c, fun _ => ?_⟩
    rw [show fKeep z i = (kU, z) by unfold fKeep; rw [if_neg hm]] at h
    iterate 2 refine jw_u rfl ?_
    exact ⟨fun h => (by cases h), h x hx (fun _ _ => rfl)⟩
  refine jw_u rfl ⟨fun _ => ?_, fun c => absurd c n10⟩
  have hm2 := hm
  obtain ⟨j, hj, rfl⟩ := ilt (by decide) hm
  rw [show fKeep z (nI j) = (nI 1, (gC z, gS z, [], (fun k => if k = j then some (gS z, gD z) else gI z k), gN z, gB z, gD z, gF z, gT z)) by unfold fKeep; rw [if_pos hm2, nI_clamp (by omega)]] at h
  have hst : stI (107 + 5 * j) := by
    rcases (show j = 0 ∨ j = 1 by omega) with rfl | rfl
    · exact stI_107
    · exact stI_112
  have fin : ∀ x2, x2 = ju (ju (cpS (ju x (106 + 5 * j) 0 (nI 1)) (107 + 5 * j) 15) (106 + 5 * j) 2 (nI (gD z))) 23 1 (nI 0) → Q (some (.int (nI 1))) x2 := by
    intro x2 e
    generalize hy1 : ju x (106 + 5 * j) 0 (nI 1) = y1 at e
    have f1 : ∀ k, k ≠ 106 + 5 * j → y1 k = x k := fun k hk => by rw [← hy1, ju_oo hk]
    have hX := xS_cp (x := y1) (o := 107 + 5 * j) (s := 15) (n := cN (gC z)) (Or.inr (by omega)) b3 w2.2.1 (xS_f (fun k g1 g2 => f1 k (by omega)) r2)
    have f2 : ∀ k, k < 107 + 5 * j ∨ 107 + 5 * j + 3 < k → cpS y1 (107 + 5 * j) 15 k = y1 k := fun k hk => cpS_f (by omega)
    generalize hy2 : cpS y1 (107 + 5 * j) 15 = y2 at e hX f2
    have f3 : ∀ k, k ≠ 23 → k ≠ 106 + 5 * j → x2 k = y2 k := fun k h1 h2 => by rw [e, ju_oo h1, ju_oo h2]
    have fr : ∀ k, k ≠ 23 → (k < 106 + 5 * j ∨ 107 + 5 * j + 3 < k) → x2 k = x k := fun k h1 h2 => by rw [f3 k h1 (by omega), f2 k (by omega), f1 k (by omega)]
    have g0 : x2 (106 + 5 * j) 0 = nI 1 := by rw [e, ju_o (by omega), ju_k (by decide), f2 _ (by omega), ← hy1, ju_s]
    have g2 : x2 (106 + 5 * j) 2 = nI (gD z) := by rw [e, ju_o (by omega), ju_s]
    refine h x2 ⟨xC_f (fun k g1 g2 => fr k (by omega) (by omega)) r1, xS_f (fun k g1 g2 => fr k (by omega) (by omega)) r2, ⟨nx, ?_, ?_, r3.2.2.1, by show 0 ≤ 20; omega, fun k S hk => by cases hk⟩, fun k hk => ?_, xN_f (fun k g1 g2 => fr k (by omega) (by omega)) r5, ?_, ?_, ?_⟩ (fun k hk => fr k (by omega) (by omega))
    · rw [e, ju_s]
      rfl
    · rw [e, ju_k (by decide), ju_o (by omega), f2 23 (by omega), f1 23 (by omega)]
      exact r3.2.1
    · by_cases ej : k = j
      · subst ej
        refine ⟨fun hc => ?_, fun S s hc => ?_⟩
        · have hc : (if k = k then some (gS z, gD z) else gI z k) = none := hc
          rw [if_pos rfl] at hc
          cases hc
        · have hc : (if k = k then some (gS z, gD z) else gI z k) = some (S, s) := hc
          rw [if_pos rfl] at hc
          cases hc
          exact ⟨g0, xS_f (fun i g1 g2 => f3 i (by omega) (by omega)) hX, g2⟩
      · have := r4 k hk
        have e1 : x2 (106 + 5 * k) = x (106 + 5 * k) := fr _ (by omega) (by omega)
        refine ⟨fun hc => ?_, fun S s hc => ?_⟩
        · have hc : (if k = j then some (gS z, gD z) else gI z k) = none := hc
          rw [if_neg ej] at hc
          rw [e1]
          exact this.1 hc
        · have hc : (if k = j then some (gS z, gD z) else gI z k) = some (S, s) := hc
          rw [if_neg ej] at hc
          obtain ⟨q1, q2, q3⟩ := this.2 S s hc
          exact ⟨by rw [e1]; exact q1, xS_f (fun i g1 g2 => fr i (by omega) (by omega)) q2, by rw [e1]; exact q3⟩
    · rw [fr 0 (by decide) (by omega)]; exact r6
    · rw [fr 0 (by decide) (by omega)]; exact r7
    · exact ⟨by rw [fr 1 (by decide) (by omega)]; exact r8.1, fun k hk => by rw [fr 2 (by decide) (by omega)]; exact r8.2 k hk⟩
  rcases (show j = 0 ∨ j = 1 by omega) with rfl | rfl
  · iterate 3 refine jw_u rfl ?_
    refine jw_u rfl ⟨vp_in_nI (show 0 < 2 by decide) (by decide), jrk_r (j := 106) rfl ?_⟩
    refine jw_u rfl ?_
    refine jw_u rfl ⟨fun _ => Or.inr rfl, ?_⟩
    iterate 3 refine jw_u rfl ?_
    refine jw_u rfl ⟨vp_in_nI (show 0 < 2 by decide) (by decide), jrk_r (j := 106) rfl ?_⟩
    iterate 4 refine jw_u rfl ?_
    refine c_takeS stI_107 stI_15 ?_
    iterate 3 refine jw_u rfl ?_
    refine jw_u rfl ⟨vp_in_nI (show 0 < 2 by decide) (by decide), jrk_r (j := 106) rfl ?_⟩
    iterate 2 refine jw_u rfl ?_
    refine jtop (v' := nI (gD z)) (show cpS (ju x 106 0 (nI 1)) 107 15 0 8 = nI (gD z) by rw [cpS_f (by omega), ju_o (by decide)]; exact r6) ?_
    refine jw_u rfl ⟨fun h => (by cases h), ?_⟩
    iterate 3 refine jw_u rfl ?_
    refine c_forget ?_
    iterate 2 refine jw_u rfl ?_
    exact ⟨fun h => (by cases h), fin _ rfl⟩
  · iterate 3 refine jw_u rfl ?_
    refine jw_u rfl ⟨vp_in_nI (show 1 < 2 by decide) (by decide), jrk_r (j := 111) rfl ?_⟩
    refine jw_u rfl ?_
    refine jw_u rfl ⟨fun _ => Or.inr rfl, ?_⟩
    iterate 3 refine jw_u rfl ?_
    refine jw_u rfl ⟨vp_in_nI (show 1 < 2 by decide) (by decide), jrk_r (j := 111) rfl ?_⟩
    iterate 4 refine jw_u rfl ?_
    refine c_takeS stI_112 stI_15 ?_
    iterate 3 refine jw_u rfl ?_
    refine jw_u rfl ⟨vp_in_nI (show 1 < 2 by decide) (by decide), jrk_r (j := 111) rfl ?_⟩
    iterate 2 refine jw_u rfl ?_
    refine jtop (v' := nI (gD z)) (show cpS (ju x 111 0 (nI 1)) 112 15 0 8 = nI (gD z) by rw [cpS_f (by omega), ju_o (by decide)]; exact r6) ?_
    refine jw_u rfl ⟨fun h => (by cases h), ?_⟩
    iterate 3 refine jw_u rfl ?_
    refine c_forget ?_
    iterate 2 refine jw_u rfl ?_
    exact ⟨fun h => (by cases h), fin _ rfl⟩
theorem C_goBack {i : Int32} (hx : RX z x) (hw : wX z) (h : ∀ x', RX (fBack z i).2 x' → (∀ k, 121 ≤ k → x' k = x k) → Q (some (.int (fBack z i).1)) x') : jo (d + 2) 60 [.ref 0, .int i] x Q := by
  obtain ⟨r1, r2, ⟨nx, r3⟩, r4, r5, r6, r7, r8⟩ := id hx
  obtain ⟨w1, w2, w3, w4, -⟩ := id hw
  have b3 := w1.2.2.1
  refine jo_i rfl rfl (Nat.le_of_ble_eq_true rfl) ?_
  iterate 2 refine jw_u rfl ?_
  refine c_isImage (fun hm => ?_) (fun hm => ?_)
  rotate_left
  · refine jw_u rfl ⟨fun c => absurd n00 c, fun _ => ?_⟩
    rw [show fBack z i = (kU, z) by unfold fBack; rw [if_neg hm]] at h
    iterate 2 refine jw_u rfl ?_
    exact ⟨fun h => (by cases h), h x hx (fun _ _ => rfl)⟩
  refine jw_u rfl ⟨fun _ => ?_, fun c => absurd c n10⟩
  have hm2 := hm
  obtain ⟨j, hj, rfl⟩ := ilt (by decide) hm
  have r4j := r4 j hj
  have none_ : gI z j = none → fBack z (nI j) = (kX, z) := fun e => by unfold fBack; rw [if_pos hm2, nI_clamp (by omega), e]
  have some_ : ∀ S s, gI z j = some (S, s) → fBack z (nI j) = (nI 1, (gC z, S, [], gI z, gN z, gB z, s, gF z, gT z)) := fun S s e => by unfold fBack; rw [if_pos hm2, nI_clamp (by omega), e]
  have fin : ∀ S s, gI z j = some (S, s) → Q (some (.int (nI 1))) (ju (ju (cpS x 15 (107 + 5 * j)) 0 8 (nI s)) 23 1 (nI 0)) := by
    intro S s e
    rw [some_ S s e] at h
    obtain ⟨q1, q2, q3⟩ := r4j.2 S s e
    have hX := xS_cp (x := x) (o := 15) (s := 107 + 5 * j) (n := cN (gC z)) (Or.inl (by omega)) b3 (w4 j S s e).1.2.1 q2
    have f2 : ∀ k, k < 15 ∨ 18 < k → cpS x 15 (107 + 5 * j) k = x k := fun k hk => cpS_f (by omega)
    generalize cpS x 15 (107 + 5 * j) = y at hX f2
    have f3 : ∀ k, k ≠ 0 → k ≠ 23 → ju (ju y 0 8 (nI s)) 23 1 (nI 0) k = y k := fun k h1 h2 => by rw [ju_oo h2, ju_oo h1]
    have fr : ∀ k, k ≠ 0 → k ≠ 23 → (k < 15 ∨ 18 < k) → ju (ju y 0 8 (nI s)) 23 1 (nI 0) k = x k := fun k h1 h2 h3 => by rw [f3 k h1 h2, f2 k h3]
    refine h _ ⟨xC_f (fun k g1 g2 => fr k (by omega) (by omega) (by omega)) r1, xS_f (fun k g1 g2 => f3 k (by omega) (by omega)) hX, ⟨nx, ju_s _ _ _ _, ?_, r3.2.2.1, by show 0 ≤ 20; omega, fun k S hk => by cases hk⟩, xI_f (fun k g1 g2 => fr k (by omega) (by omega) (by omega)) r4, xN_f (fun k g1 g2 => fr k (by omega) (by omega) (by omega)) r5, ?_, ?_, ?_⟩ (fun k hk => fr k (by omega) (by omega) (by omega))
    · rw [ju_k (by decide), ju_o (by decide), f2 23 (by omega)]; exact r3.2.1
    · rw [ju_o (by decide), ju_s]
    · rw [ju_o (by decide), ju_k (by decide), f2 0 (by omega)]; exact r7
    · exact ⟨by rw [fr 1 (by decide) (by decide) (by omega)]; exact r8.1, fun k hk => by rw [fr 2 (by decide) (by decide) (by omega)]; exact r8.2 k hk⟩
  cases hg : gI z j with
  | none =>
    rw [none_ hg] at h
    have e0 := r4j.1 hg
    rcases (show j = 0 ∨ j = 1 by omega) with rfl | rfl
    · iterate 3 refine jw_u rfl ?_
      refine jw_u rfl ⟨vp_in_nI (show 0 < 2 by decide) (by decide), jrk_r (j := 106) rfl ?_⟩
      refine jw_u rfl ?_
      refine jtop e0 ?_
      refine jw_u rfl ⟨fun c => absurd n00 c, fun _ => ?_⟩
      iterate 2 refine jw_u rfl ?_
      exact ⟨fun h => (by cases h), h x hx (fun _ _ => rfl)⟩
    · iterate 3 refine jw_u rfl ?_
      refine jw_u rfl ⟨vp_in_nI (show 1 < 2 by decide) (by decide), jrk_r (j := 111) rfl ?_⟩
      refine jw_u rfl ?_
      refine jtop e0 ?_
      refine jw_u rfl ⟨fun c => absurd n00 c, fun _ => ?_⟩
      iterate 2 refine jw_u rfl ?_
      exact ⟨fun h => (by cases h), h x hx (fun _ _ => rfl)⟩
  | some Ss =>
    obtain ⟨S, s⟩ := Ss
    have fin := fin S s hg
    obtain ⟨q1, q2, q3⟩ := r4j.2 S s hg
    rcases (show j = 0 ∨ j = 1 by omega) with rfl | rfl
    · iterate 3 refine jw_u rfl ?_
      refine jw_u rfl ⟨vp_in_nI (show 0 < 2 by decide) (by decide), jrk_r (j := 106) rfl ?_⟩
      refine jw_u rfl ?_
      refine jtop q1 ?_
      refine jw_u rfl ⟨fun _ => ?_, fun c => absurd c n10⟩
      iterate 5 refine jw_u rfl ?_
      refine jw_u rfl ⟨vp_in_nI (show 0 < 2 by decide) (by decide), jrk_r (j := 106) rfl ?_⟩
      iterate 2 refine jw_u rfl ?_
      refine c_takeS stI_15 stI_107 ?_
      iterate 4 refine jw_u rfl ?_
      refine jw_u rfl ⟨vp_in_nI (show 0 < 2 by decide) (by decide), jrk_r (j := 106) rfl ?_⟩
      refine jw_u rfl ?_
      refine jtop (v' := nI s) (show cpS x 15 107 106 2 = nI s by rw [cpS_f (by omega)]; exact q3) ?_
      refine jw_u rfl ⟨fun h => (by cases h), ?_⟩
      iterate 3 refine jw_u rfl ?_
      refine c_forget ?_
      iterate 2 refine jw_u rfl ?_
      exact ⟨fun h => (by cases h), fin⟩
    · iterate 3 refine jw_u rfl ?_
      refine jw_u rfl ⟨vp_in_nI (show 1 < 2 by decide) (by decide), jrk_r (j := 111) rfl ?_⟩
      refine jw_u rfl ?_
      refine jtop q1 ?_
      refine jw_u rfl ⟨fun _ => ?_, fun c => absurd c n10⟩
      iterate 5 refine jw_u rfl ?_
      refine jw_u rfl ⟨vp_in_nI (show 1 < 2 by decide) (by decide), jrk_r (j := 111) rfl ?_⟩
      iterate 2 refine jw_u rfl ?_
      refine c_takeS stI_15 stI_112 ?_
      iterate 4 refine jw_u rfl ?_
      refine jw_u rfl ⟨vp_in_nI (show 1 < 2 by decide) (by decide), jrk_r (j := 111) rfl ?_⟩
      refine jw_u rfl ?_
      refine jtop (v' := nI s) (show cpS x 15 112 111 2 = nI s by rw [cpS_f (by omega)]; exact q3) ?_
      refine jw_u rfl ⟨fun h => (by cases h), ?_⟩
      iterate 3 refine jw_u rfl ?_
      refine c_forget ?_
      iterate 2 refine jw_u rfl ?_
      exact ⟨fun h => (by cases h), fin⟩
end CG
