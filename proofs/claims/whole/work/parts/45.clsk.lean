/-! THE CLASS: the whole text, the clan -/
def fk : aR → Nat
  | .inl q => q.1
  | .inr _ => 0
def cA4 (x : jM) (o s n : Nat) : jM := jua x o (va_cpy (x s) (x o) 0 0 n)
theorem cA4_o {x : jM} {o s n i : Nat} (h : i ≠ o) : cA4 x o s n i = x i := jua_o h
theorem cA4_s {x : jM} {o s n k : Nat} (hk : k < n) : cA4 x o s n o k = x s k := by
  unfold cA4
  rw [jua_s]
  simp [va_cpy, hk]
theorem b01 {t : Nat} (h : t ≤ 1) : nI t = 0 ∨ nI t = 1 := by
  rcases (show t = 0 ∨ t = 1 by omega) with e | e
  · rw [e]; exact Or.inl rfl
  · rw [e]; exact Or.inr rfl
section CL
variable {d : Nat} {x : jM} {Q : Option Value → jM → Prop} {u : aN} {C : aC} {S : aS} {z : aX}
theorem c_emptyC (h : Q none (ju (ju (ju (ju x 3 0 (nI 0)) 3 1 (nI 0)) 3 2 (nI 0)) 3 5 (nI 0))) : jo (d + 1) 0 [.ref 3] x Q := by
  refine jo_i rfl rfl (Nat.le_of_ble_eq_true rfl) ?_
  iterate 2 refine jw_u rfl ?_
  refine jw_u rfl ⟨fun _ => Or.inl rfl, ?_⟩
  iterate 2 refine jw_u rfl ?_
  refine jw_u rfl ⟨fun h => (by cases h), ?_⟩
  iterate 2 refine jw_u rfl ?_
  refine jw_u rfl ⟨fun h => (by cases h), ?_⟩
  iterate 2 refine jw_u rfl ?_
  refine jw_u rfl ⟨fun h => (by cases h), ?_⟩
  refine jw_u rfl ?_
  exact h
theorem c_emptyS (h : Q none (ju (ju x 7 1 (nI 0)) 7 4 (nI 0))) : jo (d + 1) 21 [.ref 7] x Q := by
  refine jo_i rfl rfl (Nat.le_of_ble_eq_true rfl) ?_
  iterate 2 refine jw_u rfl ?_
  refine jw_u rfl ⟨fun h => (by cases h), ?_⟩
  iterate 2 refine jw_u rfl ?_
  refine jw_u rfl ⟨fun h => (by cases h), ?_⟩
  refine jw_u rfl ?_
  exact h
theorem c_takeC (hC : xC x 3 C) (wc : wC C) (h : ∀ x', (∀ i, i < 11 ∨ 14 < i → x' i = x i) → xC x' 11 C → Q none x') : jo (d + 2) 1 [.ref 11, .ref 3] x Q := by
  obtain ⟨c1, c2, c3, c4, c5, c6, c7⟩ := hC
  obtain ⟨w1, w2, w3, w4, -⟩ := wc
  refine jo_i rfl rfl (Nat.le_of_ble_eq_true rfl) ?_
  iterate 3 refine jw_u rfl ?_
  refine jtop c1 ?_
  refine jw_u rfl ⟨fun _ => b01 w1, ?_⟩
  iterate 3 refine jw_u rfl ?_
  refine jtop (v' := nI (cG C)) (by rw [ju_o (by decide)]; exact c2) ?_
  refine jw_u rfl ⟨fun h => (by cases h), ?_⟩
  iterate 3 refine jw_u rfl ?_
  refine jtop (v' := nI (cN C)) (by rw [ju_o (by decide), ju_o (by decide)]; exact c3) ?_
  refine jw_u rfl ⟨fun h => (by cases h), ?_⟩
  iterate 3 refine jw_u rfl ?_
  refine jtop (v' := nI (cC C)) (by rw [ju_o (by decide), ju_o (by decide), ju_o (by decide)]; exact c4) ?_
  refine jw_u rfl ⟨fun h => (by cases h), ?_⟩
  have fin : ∀ y, y = ju (ju (ju (ju x 11 0 (nI (cT C))) 11 1 (nI (cG C))) 11 2 (nI (cN C))) 11 5 (nI (cC C)) → Q none (cA4 (cA4 (cA4 y 12 4 8) 13 5 8) 14 6 4) := by
    intro y hy
    have fy : ∀ i, i ≠ 11 → y i = x i := fun i hi => by rw [hy, ju_oo hi, ju_oo hi, ju_oo hi, ju_oo hi]
    refine h _ (fun i hi => by rw [cA4_o (by omega), cA4_o (by omega), cA4_o (by omega), fy i (by omega)]) ⟨?_, ?_, ?_, ?_, fun k hk => ?_, fun k hk => ?_, fun k hk => ?_⟩
    · rw [cA4_o (by decide), cA4_o (by decide), cA4_o (by decide), hy, ju_k (by decide), ju_k (by decide), ju_k (by decide), ju_s]
    · rw [cA4_o (by decide), cA4_o (by decide), cA4_o (by decide), hy, ju_k (by decide), ju_k (by decide), ju_s]
    · rw [cA4_o (by decide), cA4_o (by decide), cA4_o (by decide), hy, ju_k (by decide), ju_s]
    · rw [cA4_o (by decide), cA4_o (by decide), cA4_o (by decide), hy, ju_s]
    · rw [cA4_o (by decide), cA4_o (by decide), cA4_s (by omega), fy 4 (by decide)]; exact c5 k hk
    · rw [cA4_o (by decide), cA4_s (by omega), cA4_o (by decide), fy 5 (by decide)]; exact c6 k hk
    · rw [cA4_s (by omega), cA4_o (by decide), cA4_o (by decide), fy 6 (by decide)]; exact c7 k hk
  have fin := fin _ rfl
  generalize ju (ju (ju (ju x 11 0 (nI (cT C))) 11 1 (nI (cG C))) 11 2 (nI (cN C))) 11 5 (nI (cC C)) = y at fin ⊢
  iterate 7 refine jw_u rfl ?_
  refine jw_u rfl ⟨by decide, by decide, by decide, (by decide : 0 + 8 ≤ 8), (by decide : 0 + 8 ≤ 8), ?_⟩
  iterate 7 refine jw_u rfl ?_
  refine jw_u rfl ⟨by decide, by decide, by decide, (by decide : 0 + 8 ≤ 8), (by decide : 0 + 8 ≤ 8), ?_⟩
  iterate 7 refine jw_u rfl ?_
  refine jw_u rfl ⟨by decide, by decide, by decide, (by decide : 0 + 4 ≤ 4), (by decide : 0 + 4 ≤ 4), ?_⟩
  refine jw_u rfl ?_
  exact fin
theorem wD_0 (u : aN) : wD u (.inr 0, C0, S0) := ⟨Nat.zero_le _, fun _ _ => ⟨⟨Nat.zero_le _, (by decide : 0 < 1000), Nat.zero_le _, Nat.zero_le _, fun k _ => Nat.zero_le _, fun k _ => Nat.zero_le _, fun k _ => (by decide : 0 < 1000)⟩, ⟨fun k _ => (by decide : 0 < 1000), Nat.zero_le _, fun k _ => (by decide : 0 < 1000), fun k hk => absurd hk (Nat.not_lt_zero _), Nat.zero_le _⟩⟩⟩
theorem c_readAll (hu : bT u) (ht : xT x u) (h : ∀ x', fD x x' → dX x' u (pa u 240 (.inr 0, C0, S0)) → Q (some (.int (nI (fk (pa u 240 (.inr 0, C0, S0)).1)))) x') : jo (d + 6) 9 [.ref 1] x Q := by
  have b1 := hu.1
  generalize hR : pa u 240 (.inr 0, C0, S0) = R at h
  have fk5 : ∀ x' r, dX x' u r → x' 1 5 = nI (fk r.1) := by
    intro x' r hd
    obtain ⟨s, C, S⟩ := r
    cases s with
    | inl q => exact hd.2.2.2.1
    | inr k => exact hd.2.2.2.1
  have ret : ∀ x' i, fD x x' → dX x' u R → jw (d + 5) kX4_readAll Q 32 [some (.ref 1), some (.int i)] [] x' := by
    intro x' i hf hd
    iterate 2 refine jw_u rfl ?_
    refine jtop (fk5 x' R hd) ?_
    refine jw_u rfl ?_
    exact ⟨fun h => (by cases h), h x' hf hd⟩
  have loop : ∀ i, i ≤ 240 → ∀ x' r, fD x x' → dX x' u r → wD u r → pa u (240 - i) r = R → jw (d + 5) kX4_readAll Q 14 [some (.ref 1), some (.int (nI i))] [] x' := by
    refine dn _ 240 (fun x' r hf hd hw hr => ?_) (fun i hi ih x' r hf hd hw hr => ?_)
    · rw [Nat.sub_self, pa] at hr
      subst hr
      iterate 2 refine jw_u rfl ?_
      refine jw_u rfl ⟨fun _ => ret x' _ hf hd, fun (c : ¬ nI 240 ≤ nI 240) => absurd (Int32.le_refl _) c⟩
    · iterate 2 refine jw_u rfl ?_
      refine jw_u rfl ⟨fun (c : nI 240 ≤ nI i) => absurd c (nI_ge hi (by decide)), fun _ => ?_⟩
      iterate 2 refine jw_u rfl ?_
      refine jtop (fk5 x' r hd) ?_
      rw [show 240 - i = (240 - (i + 1)) + 1 by omega] at hr
      obtain ⟨s, C, S⟩ := r
      rw [pa] at hr
      cases s with
      | inl q =>
        dsimp only at hr
        subst hr
        obtain ⟨-, -, -, -, -, s3, s4⟩ := id hd
        refine jw_u rfl ⟨fun _ => ret x' _ hf hd, fun (c : nI q.1 = 0) => absurd c (nI_ne0 (by omega) (by omega))⟩
      | inr k =>
        dsimp only at hr
        obtain ⟨hC, hS, hT, q1, q2, q3⟩ := id hd
        obtain ⟨wc, ws⟩ := hw.2 k rfl
        obtain ⟨l1, l2⟩ := sk_le (u := u) q3
        refine jw_u rfl ⟨fun c => absurd n00 c, fun _ => ?_⟩
        iterate 2 refine jw_u rfl ?_
        refine c_skipBlanks hu hT q2 q3 ?_
        generalize sk u k = s at l1 l2 hr ⊢
        have fy : fR x' (ju x' 1 4 (nI s)) := fR_4
        have hd' : dX (ju x' 1 4 (nI s)) u (.inr s, C, S) := ⟨xC_f (fun i g1 g2 => fy.1 i (by omega)) hC, xS_f (fun i g1 g2 => fy.1 i (by omega)) hS, fR_T fy hT, ⟨by rw [ju_k (by decide)]; exact q1, ju_s _ _ _ _, l2⟩⟩
        have hf' := fD_t hf (fD_r fy)
        generalize ju x' 1 4 (nI s) = y at hd' hf' ⊢
        obtain ⟨gC, gS, gT, g1, g2, g3⟩ := id hd'
        iterate 4 refine jw_u rfl ?_
        refine jw_u rfl ⟨fun (c : y 1 4 < y 1 1) => ?_, fun (c : ¬ y 1 4 < y 1 1) => ?_⟩
        · rw [g2, gT.1, nI_ltI (by omega) (by omega)] at c
          rw [if_pos c] at hr
          iterate 2 refine jw_u rfl ?_
          refine c_readClause hu gC gS gT ⟨g1, g2, g3⟩ c wc ws.2.1 (fun x2 hf2 hd2 => ?_)
          iterate 2 refine jw_u rfl ?_
          have := ih x2 _ (fD_t hf' hf2) hd2 (cl_w c wc ws) hr
          rw [nI_s i] at this
          exact this
        · rw [g2, gT.1, nI_ltI (by omega) (by omega)] at c
          rw [if_neg c] at hr
          rw [← hr] at ret
          refine jw_u rfl ?_
          exact ret y _ hf' hd'
  refine jo_i rfl rfl (Nat.le_of_ble_eq_true rfl) ?_
  iterate 2 refine jw_u rfl ?_
  refine jw_u rfl ⟨fun h => (by cases h), ?_⟩
  iterate 2 refine jw_u rfl ?_
  refine jw_u rfl ⟨fun h => (by cases h), ?_⟩
  iterate 3 refine jw_u rfl ?_
  refine c_emptyC ?_
  iterate 3 refine jw_u rfl ?_
  refine c_emptyS ?_
  iterate 2 refine jw_u rfl ?_
  have f0 : fR x (ju (ju x 1 4 (nI 0)) 1 5 (nI 0)) := ⟨fun i hi => by rw [ju_oo hi, ju_oo hi], by rw [ju_k (by decide), ju_k (by decide)]⟩
  have t0 := fR_T f0 ht
  have r0 : rQ (ju (ju x 1 4 (nI 0)) 1 5 (nI 0)) u (.inr 0) := ⟨ju_s _ _ _ _, by rw [ju_k (by decide), ju_s], Nat.zero_le _⟩
  have key : ∀ y, fR x y → xT y u → rQ y u (.inr 0) → fD x (ju (ju (ju (ju (ju (ju y 3 0 (nI 0)) 3 1 (nI 0)) 3 2 (nI 0)) 3 5 (nI 0)) 7 1 (nI 0)) 7 4 (nI 0)) ∧ dX (ju (ju (ju (ju (ju (ju y 3 0 (nI 0)) 3 1 (nI 0)) 3 2 (nI 0)) 3 5 (nI 0)) 7 1 (nI 0)) 7 4 (nI 0)) u (.inr 0, C0, S0) := by
    intro y hf hT hq
    refine ⟨fD_t (fD_r hf) (fD_t (fD_u (by decide)) (fD_t (fD_u (by decide)) (fD_t (fD_u (by decide)) (fD_t (fD_u (by decide)) (fD_t (fD_u (by decide)) (fD_u (by decide))))))), ⟨?_, ?_, ?_, ?_, fun k hk => absurd hk (Nat.not_lt_zero _), fun k hk => absurd hk (Nat.not_lt_zero _), fun k hk => absurd hk (Nat.not_lt_zero _)⟩, ⟨fun k hk => absurd hk (Nat.not_lt_zero _), ?_, fun k hk => absurd hk (Nat.not_lt_zero _), fun k hk => absurd hk (Nat.not_lt_zero _), ?_⟩, xT_u (by decide) (xT_u (by decide) (xT_u (by decide) (xT_u (by decide) (xT_u (by decide) (xT_u (by decide) hT))))), rQ_u (by decide) (rQ_u (by decide) (rQ_u (by decide) (rQ_u (by decide) (rQ_u (by decide) (rQ_u (by decide) hq)))))⟩
    · rw [ju_o (by decide), ju_o (by decide), ju_k (by decide), ju_k (by decide), ju_k (by decide), ju_s]; rfl
    · rw [ju_o (by decide), ju_o (by decide), ju_k (by decide), ju_k (by decide), ju_s]; rfl
    · rw [ju_o (by decide), ju_o (by decide), ju_k (by decide), ju_s]; rfl
    · rw [ju_o (by decide), ju_o (by decide), ju_s]; rfl
    · rw [ju_k (by decide), ju_s]; rfl
    · rw [ju_s]; rfl
  have k1 := key _ f0 t0 r0
  exact loop 0 (Nat.zero_le _) _ _ k1.1 k1.2 (wD_0 u) hR
set_option maxHeartbeats 1000000 in
theorem C_clan (hx : RX z x) (hw : wX z) (h : ∀ x', RX (fClan z).2 x' → (∀ i, 121 ≤ i → x' i = x i) → Q (some (.int (fClan z).1)) x') : jo (d + 7) 25 [.ref 0] x Q := by
  obtain ⟨r1, r2, ⟨nx, r3⟩, r4, r5, r6, r7, r8⟩ := id hx
  have hu : bT (gT z) := hw.2.2.2.2.2.2.2
  refine jo_i rfl rfl (Nat.le_of_ble_eq_true rfl) ?_
  iterate 3 refine jw_u rfl ?_
  refine c_readAll hu r8 (fun x1 hf hd => ?_)
  have hD := pa_w 240 _ (wD_0 (gT z))
  generalize hR : pa (gT z) 240 (.inr 0, C0, S0) = R at hd hD ⊢
  iterate 4 refine jw_u rfl ?_
  refine jw_u rfl ⟨fun h => (by cases h), ?_⟩
  refine jw_u rfl ?_
  obtain ⟨s, C, S⟩ := R
  cases s with
  | inl q =>
    rw [show fClan z = (jc (-10) - nI q.1, (gC z, gS z, gH z, gI z, gN z, gB z, gD z, nI q.2, (0, (gT z).2))) by unfold fClan; rw [hR]] at h
    obtain ⟨-, -, -, s1, s2, s3, s4⟩ := hd
    refine jw_u rfl ⟨fun (c : nI q.1 = 0) => absurd c (nI_ne0 (by omega) (by omega)), fun _ => ?_⟩
    have fin : Q (some (.int (jc (-10) - nI q.1))) (ju (ju x1 1 1 (nI 0)) 0 9 (nI q.2)) := by
      have f : ∀ i, 10 < i → ju (ju x1 1 1 (nI 0)) 0 9 (nI q.2) i = x i := fun i hi => by rw [ju_oo (by omega), ju_oo (by omega), hf.1 i (by omega)]
      refine h _ ⟨xC_f (fun i g1 g2 => f i (by omega)) r1, xS_f (fun i g1 g2 => f i (by omega)) r2, ⟨nx, xH_f (fun i g1 g2 => f i (by omega)) r3⟩, xI_f (fun i g1 g2 => f i (by omega)) r4, xN_f (fun i g1 g2 => f i (by omega)) r5, ?_, ju_s _ _ _ _, ?_, fun k hk => absurd hk (Nat.not_lt_zero _)⟩ (fun i hi => f i (by omega))
      · rw [ju_k (by decide), ju_o (by decide), hf.1 0 (by omega)]; exact r6
      · rw [ju_o (by decide), ju_s]
    iterate 4 refine jw_u rfl ?_
    refine jtop (v' := nI q.2) (by rw [ju_k (by decide)]; exact s2) ?_
    refine jw_u rfl ⟨fun h => (by cases h), ?_⟩
    iterate 4 refine jw_u rfl ?_
    exact ⟨fun h => (by cases h), fin⟩
  | inr k =>
    rw [show fClan z = (nI (cN C), (C, S, [], fun _ => none, (0, (gN z).2), (0, (gB z).2), gD z, -1, (0, (gT z).2))) by unfold fClan; rw [hR]] at h
    obtain ⟨dC, dS, -, -⟩ := hd
    obtain ⟨wc, ws⟩ := hD.2 k rfl
    refine jw_u rfl ⟨fun _ => ?_, fun c => absurd n00 c⟩
    iterate 2 refine jw_u rfl ?_
    refine jw_u rfl ⟨fun h => (by cases h), ?_⟩
    have f1 : ∀ i, i ≠ 0 → i ≠ 1 → ju (ju x1 1 1 (nI 0)) 0 9 (jc (-1)) i = x1 i := fun i g1 g2 => by rw [ju_oo g1, ju_oo g2]
    have a1 : ju (ju x1 1 1 (nI 0)) 0 9 (jc (-1)) 1 1 = nI 0 := by rw [ju_o (by decide), ju_s]
    have a2 : ju (ju x1 1 1 (nI 0)) 0 9 (jc (-1)) 0 8 = nI (gD z) := by rw [ju_k (by decide), ju_o (by decide), hf.1 0 (by omega)]; exact r6
    have a3 : ju (ju x1 1 1 (nI 0)) 0 9 (jc (-1)) 0 9 = -1 := by rw [ju_s]; exact jm1
    show jw _ _ _ _ _ _ (ju (ju x1 1 1 (nI 0)) 0 9 (jc (-1)))
    generalize ju (ju x1 1 1 (nI 0)) 0 9 (jc (-1)) = y1 at f1 a1 a2 a3 ⊢
    iterate 6 refine jw_u rfl ?_
    refine c_takeC (C := C) (xC_f (fun i g1 g2 => f1 i (by omega) (by omega)) dC) wc (fun y2 f2 hC2 => ?_)
    iterate 6 refine jw_u rfl ?_
    refine c_takeS stI_15 stI_7 ?_
    have f3 : ∀ i, i < 15 ∨ 18 < i → cpS y2 15 7 i = y2 i := fun i hi => cpS_f (by omega)
    have hS3 := xS_cp (x := y2) (o := 15) (s := 7) (n := cN C) (Or.inr (by decide)) wc.2.2.1 ws.2.1 (xS_f (fun i g1 g2 => (f2 i (by omega)).trans (f1 i (by omega) (by omega))) dS)
    generalize cpS y2 15 7 = y3 at f3 hS3 ⊢
    iterate 3 refine jw_u rfl ?_
    refine c_clearAll ?_
    iterate 3 refine jw_u rfl ?_
    refine c_forget ?_
    have g0 : ∀ i, i ≠ 116 → i ≠ 23 → ju (ju (ju y3 116 0 (nI 0)) 116 2 (nI 0)) 23 1 (nI 0) i = y3 i := fun i h1 h2 => by rw [ju_oo h2, ju_oo h1, ju_oo h1]
    have n0 : ju (ju (ju y3 116 0 (nI 0)) 116 2 (nI 0)) 23 1 (nI 0) 116 0 = nI 0 := by rw [ju_o (by decide), ju_k (by decide), ju_s]
    have n2 : ju (ju (ju y3 116 0 (nI 0)) 116 2 (nI 0)) 23 1 (nI 0) 116 2 = nI 0 := by rw [ju_o (by decide), ju_s]
    have h1' : ju (ju (ju y3 116 0 (nI 0)) 116 2 (nI 0)) 23 1 (nI 0) 23 1 = nI 0 := ju_s _ _ _ _
    have h2' : ju (ju (ju y3 116 0 (nI 0)) 116 2 (nI 0)) 23 1 (nI 0) 23 2 = nI nx := by rw [ju_k (by decide), ju_o (by decide), ju_o (by decide), f3 23 (by omega), f2 23 (by omega), f1 23 (by decide) (by decide), hf.1 23 (by omega)]; exact r3.2.1
    show jw _ _ _ _ _ _ (ju (ju (ju y3 116 0 (nI 0)) 116 2 (nI 0)) 23 1 (nI 0))
    generalize ju (ju (ju y3 116 0 (nI 0)) 116 2 (nI 0)) 23 1 (nI 0) = y4 at g0 n0 n2 h1' h2' ⊢
    have fin : jw (d + 6) kX6_clan Q 42 [some (.ref 0), some (.int (nI (fk (.inr k : aR)))), some (.int (nI 2))] [] (ju (ju y4 106 0 (nI 0)) 111 0 (nI 0)) := by
      have q : ∀ i, i ≠ 106 → i ≠ 111 → ju (ju y4 106 0 (nI 0)) 111 0 (nI 0) i = y4 i := fun i h1 h2 => by rw [ju_oo h2, ju_oo h1]
      have i0 : ju (ju y4 106 0 (nI 0)) 111 0 (nI 0) 106 0 = nI 0 := by rw [ju_o (by decide), ju_s]
      have i1 : ju (ju y4 106 0 (nI 0)) 111 0 (nI 0) 111 0 = nI 0 := ju_s _ _ _ _
      generalize ju (ju y4 106 0 (nI 0)) 111 0 (nI 0) = y5 at q i0 i1 ⊢
      have hC5 : xC y5 11 C := xC_f (fun i g1 g2 => by rw [q i (by omega) (by omega), g0 i (by omega) (by omega), f3 i (by omega)]) hC2
      iterate 2 refine jw_u rfl ?_
      refine jw_u rfl ⟨fun _ => ?_, fun (c : ¬ nI 2 ≤ nI 2) => absurd (Int32.le_refl _) c⟩
      iterate 3 refine jw_u rfl ?_
      refine jtop hC5.2.2.1 ?_
      refine jw_u rfl ?_
      refine ⟨fun h => (by cases h), h y5 ⟨hC5, xS_f (fun i g1 g2 => by rw [q i (by omega) (by omega), g0 i (by omega) (by omega)]) hS3, ⟨nx, ?_, ?_, r3.2.2.1, Nat.zero_le _, fun k S hk => by cases hk⟩, fun i hi => ⟨fun _ => ?_, fun S s hc => by cases hc⟩, ⟨?_, fun k hk => absurd hk (Nat.not_lt_zero _), ?_, fun k hk => absurd hk (Nat.not_lt_zero _), fun k hk => absurd hk (Nat.not_lt_zero _)⟩, ?_, ?_, ?_, fun k hk => absurd hk (Nat.not_lt_zero _)⟩ (fun i hi => by rw [q i (by omega) (by omega), g0 i (by omega) (by omega), f3 i (by omega), f2 i (by omega), f1 i (by omega) (by omega), hf.1 i (by omega)])⟩
      · rw [q 23 (by decide) (by decide)]; exact h1'
      · rw [q 23 (by decide) (by decide)]; exact h2'
      · rcases (show i = 0 ∨ i = 1 by omega) with rfl | rfl
        · exact i0
        · exact i1
      · rw [q 116 (by decide) (by decide)]; exact n0
      · rw [q 116 (by decide) (by decide)]; exact n2
      · rw [q 0 (by decide) (by decide), g0 0 (by decide) (by decide), f3 0 (by omega), f2 0 (by omega)]; exact a2
      · rw [q 0 (by decide) (by decide), g0 0 (by decide) (by decide), f3 0 (by omega), f2 0 (by omega)]; exact a3
      · rw [q 1 (by decide) (by decide), g0 1 (by decide) (by decide), f3 1 (by omega), f2 1 (by omega)]; exact a1
    have s1 : jw (d + 6) kX6_clan Q 42 [some (.ref 0), some (.int (nI (fk (.inr k : aR)))), some (.int (nI 1))] [] (ju y4 106 0 (nI 0)) := by
      iterate 2 refine jw_u rfl ?_
      refine jw_u rfl ⟨fun (c : nI 2 ≤ nI 1) => absurd c (by decide), fun _ => ?_⟩
      iterate 3 refine jw_u rfl ?_
      refine jw_u rfl ⟨vp_in_nI (show 1 < 2 by decide) (by decide), jrk_r (j := 111) rfl ?_⟩
      refine jw_u rfl ?_
      refine jw_u rfl ⟨fun _ => Or.inl rfl, ?_⟩
      iterate 2 refine jw_u rfl ?_
      rw [show nI 2 = nI 1 + nI 1 from nI_s 1] at fin
      exact fin
    iterate 2 refine jw_u rfl ?_
    iterate 2 refine jw_u rfl ?_
    refine jw_u rfl ⟨fun (c : nI 2 ≤ nI 0) => absurd c (by decide), fun _ => ?_⟩
    iterate 3 refine jw_u rfl ?_
    refine jw_u rfl ⟨vp_in_nI (show 0 < 2 by decide) (by decide), jrk_r (j := 106) rfl ?_⟩
    refine jw_u rfl ?_
    refine jw_u rfl ⟨fun _ => Or.inl rfl, ?_⟩
    iterate 2 refine jw_u rfl ?_
    rw [show nI 1 = nI 0 + nI 1 from nI_s 0] at s1
    exact s1
end CL
