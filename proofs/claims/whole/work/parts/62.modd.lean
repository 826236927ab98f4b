/-! THE REFERENCE: a clause -/
section MR
variable {d k : Nat} {x : jM} {Q : Option Value → jM → Prop} {u : aN} {C : aC} {S : aS}
set_option maxHeartbeats 2000000 in
theorem m_takesClause (hu : bT u) (ht : mT x u) (hq : rM x u (.inr k)) (hd : dC x C S) (hk : k < u.1) (hb : ¬ u.2 k = 32) (bC : wC C) (bP : sP S ≤ 8) (h : ∀ x', fQ x x' → rM x' u (cl u k C S).1 → (∀ k', (cl u k C S).1 = .inr k' → dC x' (cl u k C S).2.1 (cl u k C S).2.2) → Q (some (.int (nI (gd (cl u k C S).1)))) x') : jo (d + 5) 102 [.ref 121] x Q := by
  have b1 := hu.1
  have b2 := hu.2 k hk
  obtain ⟨t1, t2, t3, t4, t5⟩ := id bC
  obtain ⟨q1, q2, q3⟩ := id hq
  refine jo_i rfl rfl (Nat.le_of_ble_eq_true rfl) ?_
  iterate 2 refine jw_u rfl ?_
  refine m_here hu ht q1 q3 ?_
  rw [sk_e (fun hc => hb hc.2)]
  have f1 : fP x (ju (ju x 121 12 (nI k)) 121 13 (nI k)) := fP_t (fP_u (by decide)) (fP_u (by decide))
  have a1 : ju (ju x 121 12 (nI k)) 121 13 (nI k) 121 12 = nI k := by rw [ju_k (by decide), ju_s]
  have a2 : ju (ju x 121 12 (nI k)) 121 13 (nI k) 121 13 = nI k := ju_s _ _ _ _
  have a3 : ju (ju x 121 12 (nI k)) 121 13 (nI k) 121 16 = -1 := by rw [ju_k (by decide), ju_k (by decide)]; exact q2
  generalize ju (ju x 121 12 (nI k)) 121 13 (nI k) = y at f1 a1 a2 a3 ⊢
  have dy := dC_p f1 hd
  obtain ⟨c1, c2, c3, c4, c5, c6, c7, c8, c9⟩ := id dy
  have ty := fP_T f1 ht
  refine jtop (v' := nI (u.2 k)) (by unfold le; rw [if_pos hk]) ?_
  refine jw_u rfl ?_
  show jw (d + 4) kX7_takesClause Q 3 [some (.ref 121), some (.int (nI (u.2 k))), none, none, none] [] y
  have bad : cl u k C S = (.inl (1, k), C, S) → jw (d + 4) kX7_takesClause Q 20 [some (.ref 121), some (.int (nI (u.2 k))), none, none, none] [] y := by
    intro e
    rw [e] at h
    iterate 3 refine jw_u rfl ?_
    refine jw_u rfl ⟨fun c => absurd n00 c, fun _ => ?_⟩
    iterate 4 refine jw_u rfl ?_
    refine jtop a2 ?_
    refine jw_u rfl ?_
    refine m_fails ?_
    refine jw_u rfl ?_
    exact ⟨fun _ => Or.inl rfl, h _ (fQ_p (fP_t f1 fP_f)) (rM_f (a := 1) (b := k) (by decide) (by decide)) (fun k' e => by cases e)⟩
  have full : cl u k C S = (.inl (3, k), C, S) → jw (d + 4) kX7_takesClause Q 65 [some (.ref 121), some (.int (nI (u.2 k))), some (.int (nI 1)), none, none] [.int (nI 1)] y := by
    intro e
    rw [e] at h
    iterate 2 refine jw_u rfl ?_
    refine jw_u rfl ⟨fun c => absurd c n10, fun _ => ?_⟩
    iterate 4 refine jw_u rfl ?_
    refine jtop a2 ?_
    refine jw_u rfl ?_
    refine m_fails ?_
    refine jw_u rfl ?_
    exact ⟨fun _ => Or.inl rfl, h _ (fQ_p (fP_t f1 fP_f)) (rM_f (a := 3) (b := k) (by decide) (by decide)) (fun k' e => by cases e)⟩
  have last : ∀ w s C' S', fQ x w → rM w u s → (∀ k', s = .inr k' → dC w C' S') → cl u k C S = (enS u s, C', S') → jw (d + 4) kX7_takesClause Q 100 [some (.ref 121), some (.int (nI (u.2 k))), some (.int (nI 1)), some (.int (nI 0)), none] [.int (nI (gd s))] w := by
    intro w s C' S' fw rw' dw e
    rw [e] at h
    iterate 2 refine jw_u rfl ?_
    cases s with
    | inl q =>
      refine jw_u rfl ⟨fun _ => ?_, fun c => absurd n00 c⟩
      iterate 2 refine jw_u rfl ?_
      exact ⟨fun _ => Or.inl rfl, h w fw rw' (fun k' (e : (.inl q : aR) = .inr k') => by cases e)⟩
    | inr k2 =>
      refine jw_u rfl ⟨fun c => absurd c n10, fun _ => ?_⟩
      iterate 3 refine jw_u rfl ?_
      refine m_takes hu (fQ_T fw ht) rw' (fun w2 f2 r2 => ?_)
      have d2 := dC_p f2 (dw k2 rfl)
      generalize enS u (.inr k2) = s2 at h r2 ⊢
      cases s2 with
      | inl q =>
        refine jw_u rfl ⟨fun _ => ?_, fun c => absurd n00 c⟩
        iterate 2 refine jw_u rfl ?_
        exact ⟨fun _ => Or.inl rfl, h w2 (fQ_t fw (fQ_p f2)) r2 (fun k' e => by cases e)⟩
      | inr k3 =>
        refine jw_u rfl ⟨fun c => absurd c n10, fun _ => ?_⟩
        iterate 3 refine jw_u rfl ?_
        exact ⟨fun _ => Or.inr rfl, h w2 (fQ_t fw (fQ_p f2)) r2 (fun k' _ => d2)⟩
  have f2 : fP x (ju y 121 12 (nI (k + 1))) := fP_t f1 (fP_u (by decide))
  have ty2 := fP_T f2 ht
  have dy2 := dC_p f2 hd
  have ry2 : rM (ju y 121 12 (nI (k + 1))) u (.inr (k + 1)) := ⟨ju_s _ _ _ _, by rw [ju_k (by decide)]; exact a3, hk⟩
  have step : jw (d + 4) kX7_takesClause Q 80 [some (.ref 121), some (.int (nI (u.2 k))), some (.int (nI 1)), some (.int (nI 0)), none] [] (ju y 121 12 (nI (k + 1))) → jw (d + 4) kX7_takesClause Q 65 [some (.ref 121), some (.int (nI (u.2 k))), some (.int (nI 1)), none, none] [.int (nI 0)] y := by
    intro hh
    iterate 2 refine jw_u rfl ?_
    refine jw_u rfl ⟨fun _ => ?_, fun c => absurd n00 c⟩
    iterate 3 refine jw_u rfl ?_
    refine jtop a1 ?_
    iterate 2 refine jw_u rfl ?_
    refine jtop (nI_add k 1) ?_
    refine jw_u rfl ⟨fun h => (by cases h), ?_⟩
    exact hh
  have word : jw (d + 4) kX7_takesClause Q 30 [some (.ref 121), some (.int (nI (u.2 k))), some (.int (nI 1)), none, none] [] y → jw (d + 4) kX7_takesClause Q 18 [some (.ref 121), some (.int (nI (u.2 k))), none, none, none] [] y := by
    intro hh
    iterate 4 refine jw_u rfl ?_
    refine jw_u rfl ⟨fun _ => ?_, fun c => absurd c n10⟩
    exact hh
  iterate 2 refine jw_u rfl ?_
  refine jw_u rfl ⟨fun (e : nI (u.2 k) = nI 120) => ?_, fun (n1 : ¬ nI (u.2 k) = nI 120) => ?_⟩
  · have e' := (nI_eq (by omega) (by decide)).mp e
    refine word ?_
    iterate 2 refine jw_u rfl ?_
    refine jw_u rfl ⟨fun (c : ¬ nI (u.2 k) = nI 120) => absurd e c, fun _ => ?_⟩
    iterate 2 refine jw_u rfl ?_
    refine jtop c1 ?_
    refine jw_u rfl ?_
    by_cases hT : cT C = 1
    · rw [hT]
      refine full ?_
      unfold cl clX
      rw [if_neg (show ¬ (cT C = 0 ∧ u.2 k ≠ 120) from fun hc => hc.2 e'), if_pos e', if_pos hT]
    · rw [show cT C = 0 by omega]
      refine step ?_
      iterate 2 refine jw_u rfl ?_
      refine jw_u rfl ⟨fun (c : ¬ nI (u.2 k) = nI 120) => absurd e c, fun _ => ?_⟩
      iterate 2 refine jw_u rfl ?_
      refine m_takesGrand hu ty2 ry2 dy2 (fun w fw rw' dw => ?_)
      refine jw_u rfl ?_
      refine last w _ _ _ (fQ_t (fQ_p f2) fw) rw' dw ?_
      unfold cl clX
      rw [if_neg (show ¬ (cT C = 0 ∧ u.2 k ≠ 120) from fun hc => hc.2 e'), if_pos e', if_neg hT]
  · have n1' : ¬ u.2 k = 120 := fun hc => n1 (by rw [hc])
    iterate 2 refine jw_u rfl ?_
    refine jtop c1 ?_
    refine jw_u rfl ⟨fun (c : nI (cT C) = 0) => ?_, fun (c : ¬ nI (cT C) = 0) => ?_⟩
    · refine bad ?_
      have hT : cT C = 0 := (nI_eq (by omega) (by decide)).mp (c.trans n00.symm)
      unfold cl
      rw [if_pos ⟨hT, n1'⟩]
    · have hT : ¬ cT C = 0 := fun hc => c (by rw [hc]; exact n00)
      iterate 2 refine jw_u rfl ?_
      refine jw_u rfl ⟨fun (e : nI (u.2 k) = nI 112) => ?_, fun (n2 : ¬ nI (u.2 k) = nI 112) => ?_⟩
      · have e' := (nI_eq (by omega) (by decide)).mp e
        refine word ?_
        iterate 2 refine jw_u rfl ?_
        refine jw_u rfl ⟨fun _ => ?_, fun (c : nI (u.2 k) = nI 120) => absurd c n1⟩
        iterate 2 refine jw_u rfl ?_
        refine jw_u rfl ⟨fun (c : ¬ nI (u.2 k) = nI 112) => absurd e c, fun _ => ?_⟩
        iterate 2 refine jw_u rfl ?_
        refine jtop c3 ?_
        refine jw_u rfl ?_
        refine jw_u rfl ⟨fun (c : ¬ nI (cN C) = nI 8) => ?_, fun (c : nI (cN C) = nI 8) => ?_⟩
        · rw [nI_eq (by omega) (by decide)] at c
          iterate 2 refine jw_u rfl ?_
          refine step ?_
          iterate 2 refine jw_u rfl ?_
          refine jw_u rfl ⟨fun _ => ?_, fun (c : nI (u.2 k) = nI 120) => absurd c n1⟩
          iterate 2 refine jw_u rfl ?_
          refine jw_u rfl ⟨fun (c : ¬ nI (u.2 k) = nI 112) => absurd e c, fun _ => ?_⟩
          iterate 2 refine jw_u rfl ?_
          refine m_takesPerson hu ty2 ry2 dy2 (by omega) (fun w fw rw' dw => ?_)
          refine jw_u rfl ?_
          refine last w _ _ _ (fQ_t (fQ_p f2) fw) rw' dw ?_
          unfold cl clP
          rw [if_neg (show ¬ (cT C = 0 ∧ u.2 k ≠ 120) from fun hc => hT hc.1), if_neg n1', if_pos e', if_pos (by omega)]
        · rw [nI_eq (by omega) (by decide)] at c
          iterate 2 refine jw_u rfl ?_
          refine full ?_
          unfold cl clP
          rw [if_neg (show ¬ (cT C = 0 ∧ u.2 k ≠ 120) from fun hc => hT hc.1), if_neg n1', if_pos e', if_neg (by omega)]
      · have n2' : ¬ u.2 k = 112 := fun hc => n2 (by rw [hc])
        iterate 2 refine jw_u rfl ?_
        refine jw_u rfl ⟨fun (e : nI (u.2 k) = nI 115) => ?_, fun (n3 : ¬ nI (u.2 k) = nI 115) => ?_⟩
        · have e' := (nI_eq (by omega) (by decide)).mp e
          refine word ?_
          iterate 2 refine jw_u rfl ?_
          refine jw_u rfl ⟨fun _ => ?_, fun (c : nI (u.2 k) = nI 120) => absurd c n1⟩
          iterate 2 refine jw_u rfl ?_
          refine jw_u rfl ⟨fun _ => ?_, fun (c : nI (u.2 k) = nI 112) => absurd c n2⟩
          iterate 2 refine jw_u rfl ?_
          refine jw_u rfl ⟨fun (c : ¬ nI (u.2 k) = nI 115) => absurd e c, fun _ => ?_⟩
          iterate 2 refine jw_u rfl ?_
          refine jtop c5 ?_
          refine jw_u rfl ?_
          refine jw_u rfl ⟨fun (c : ¬ nI (sP S) = nI 8) => ?_, fun (c : nI (sP S) = nI 8) => ?_⟩
          · rw [nI_eq (by omega) (by decide)] at c
            iterate 2 refine jw_u rfl ?_
            refine step ?_
            iterate 2 refine jw_u rfl ?_
            refine jw_u rfl ⟨fun _ => ?_, fun (c : nI (u.2 k) = nI 120) => absurd c n1⟩
            iterate 2 refine jw_u rfl ?_
            refine jw_u rfl ⟨fun _ => ?_, fun (c : nI (u.2 k) = nI 112) => absurd c n2⟩
            iterate 2 refine jw_u rfl ?_
            refine jw_u rfl ⟨fun (c : ¬ nI (u.2 k) = nI 115) => absurd e c, fun _ => ?_⟩
            iterate 2 refine jw_u rfl ?_
            refine m_takesPaper hu ty2 ry2 dy2 t3 (by omega) (fun w fw rw' dw => ?_)
            refine jw_u rfl ?_
            refine last w _ _ _ (fQ_t (fQ_p f2) fw) rw' dw ?_
            unfold cl clS
            rw [if_neg (show ¬ (cT C = 0 ∧ u.2 k ≠ 120) from fun hc => hT hc.1), if_neg n1', if_neg n2', if_pos e', if_pos (by omega)]
          · rw [nI_eq (by omega) (by decide)] at c
            iterate 2 refine jw_u rfl ?_
            refine full ?_
            unfold cl clS
            rw [if_neg (show ¬ (cT C = 0 ∧ u.2 k ≠ 120) from fun hc => hT hc.1), if_neg n1', if_neg n2', if_pos e', if_neg (by omega)]
        · have n3' : ¬ u.2 k = 115 := fun hc => n3 (by rw [hc])
          iterate 2 refine jw_u rfl ?_
          refine jw_u rfl ⟨fun (n4 : ¬ nI (u.2 k) = nI 99) => ?_, fun (e : nI (u.2 k) = nI 99) => ?_⟩
          · have n4' : ¬ u.2 k = 99 := fun hc => n4 (by rw [hc])
            refine bad ?_
            unfold cl
            rw [if_neg (show ¬ (cT C = 0 ∧ u.2 k ≠ 120) from fun hc => hT hc.1), if_neg n1', if_neg n2', if_neg n3', if_neg n4']
          · have e' := (nI_eq (by omega) (by decide)).mp e
            refine word ?_
            iterate 2 refine jw_u rfl ?_
            refine jw_u rfl ⟨fun _ => ?_, fun (c : nI (u.2 k) = nI 120) => absurd c n1⟩
            iterate 2 refine jw_u rfl ?_
            refine jw_u rfl ⟨fun _ => ?_, fun (c : nI (u.2 k) = nI 112) => absurd c n2⟩
            iterate 2 refine jw_u rfl ?_
            refine jw_u rfl ⟨fun _ => ?_, fun (c : nI (u.2 k) = nI 115) => absurd c n3⟩
            iterate 2 refine jw_u rfl ?_
            refine jtop c4 ?_
            refine jw_u rfl ?_
            refine jw_u rfl ⟨fun (c : ¬ nI (cC C) = nI 4) => ?_, fun (c : nI (cC C) = nI 4) => ?_⟩
            · rw [nI_eq (by omega) (by decide)] at c
              refine jw_u rfl ?_
              refine step ?_
              iterate 2 refine jw_u rfl ?_
              refine jw_u rfl ⟨fun _ => ?_, fun (c : nI (u.2 k) = nI 120) => absurd c n1⟩
              iterate 2 refine jw_u rfl ?_
              refine jw_u rfl ⟨fun _ => ?_, fun (c : nI (u.2 k) = nI 112) => absurd c n2⟩
              iterate 2 refine jw_u rfl ?_
              refine jw_u rfl ⟨fun _ => ?_, fun (c : nI (u.2 k) = nI 115) => absurd c n3⟩
              iterate 2 refine jw_u rfl ?_
              refine m_takesCand hu ty2 ry2 dy2 (by omega) (fun w fw rw' dw => ?_)
              refine last w _ _ _ (fQ_t (fQ_p f2) fw) rw' dw ?_
              unfold cl clC
              rw [if_neg (show ¬ (cT C = 0 ∧ u.2 k ≠ 120) from fun hc => hT hc.1), if_neg n1', if_neg n2', if_neg n3', if_pos e', if_pos (by omega)]
            · rw [nI_eq (by omega) (by decide)] at c
              iterate 2 refine jw_u rfl ?_
              refine full ?_
              unfold cl clC
              rw [if_neg (show ¬ (cT C = 0 ∧ u.2 k ≠ 120) from fun hc => hT hc.1), if_neg n1', if_neg n2', if_neg n3', if_pos e', if_neg (by omega)]
end MR
