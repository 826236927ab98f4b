/-! TEXTS: how they are read, as numbers -/
def rnF (P : Nat → Bool) : Nat → Nat → Nat
  | 0, k => k
  | f + 1, k => if P k = true then rnF P f (k + 1) else k
/-- the first place from k on, before n, where P is not -/
def rn (P : Nat → Bool) (n k : Nat) : Nat := rnF P (n - k) k
theorem rn_s {P : Nat → Bool} {n k : Nat} (h : k < n) (hp : P k = true) : rn P n k = rn P n (k + 1) := by
  unfold rn
  rw [show n - k = (n - (k + 1)) + 1 by omega, rnF, if_pos hp]
theorem rn_e {P : Nat → Bool} {n k : Nat} (h : ¬ (k < n ∧ P k = true)) : rn P n k = k := by
  unfold rn
  by_cases hk : k < n
  · rw [show n - k = (n - (k + 1)) + 1 by omega, rnF, if_neg (fun hp => h ⟨hk, hp⟩)]
  · rw [show n - k = 0 by omega, rnF]
theorem rn_le {P : Nat → Bool} {n k : Nat} (h : k ≤ n) : k ≤ rn P n k ∧ rn P n k ≤ n := by
  have key : ∀ f k, k ≤ rnF P f k ∧ rnF P f k ≤ k + f := by
    intro f
    induction f with
    | zero => intro k; exact ⟨Nat.le_refl _, Nat.le_refl _⟩
    | succ f ih =>
      intro k
      have := ih (k + 1)
      rw [rnF]
      split <;> omega
  have := key (n - k) k
  unfold rn
  omega
abbrev tBl (u : aN) : Nat → Bool := fun k => u.2 k == 32
abbrev tFg (u : aN) : Nat → Bool := fun k => decide (48 ≤ u.2 k) && decide (u.2 k ≤ 57)
/-- past the blanks; past the figures; the worth of the first three figures -/
def sk (u : aN) (k : Nat) : Nat := rn (tBl u) u.1 k
def fe (u : aN) (k : Nat) : Nat := rn (tFg u) u.1 k
def vl (u : aN) (s : Nat) : Nat → Nat
  | 0 => 0
  | i + 1 => if i < 3 then 10 * vl u s i + (u.2 (s + i) - 48) % 10 else vl u s i
theorem vl_lt (u : aN) (s : Nat) : ∀ i, vl u s i < 10 ^ (min i 3)
  | 0 => (by decide : 0 < 1)
  | i + 1 => by
    have h := vl_lt u s i
    rw [vl]
    split
    · next hi =>
      rw [Nat.min_eq_left (by omega)] at h
      rw [Nat.min_eq_left (by omega), Nat.pow_succ]
      generalize 10 ^ i = t at *
      omega
    · next hi =>
      rw [Nat.min_eq_right (by omega)] at h
      rw [Nat.min_eq_right (by omega)]
      exact h
theorem vl_k (u : aN) (s i : Nat) : vl u s i < 1000 := Nat.lt_of_lt_of_le (vl_lt u s i) (Nat.le_trans (Nat.pow_le_pow_right (by decide) (Nat.min_le_right i 3)) (by decide))
theorem sk_s {u : aN} {k : Nat} (h : k < u.1) (e : u.2 k = 32) : sk u k = sk u (k + 1) := rn_s h (by simp [tBl, e])
theorem sk_e {u : aN} {k : Nat} (h : ¬ (k < u.1 ∧ u.2 k = 32)) : sk u k = k := rn_e (fun hc => h ⟨hc.1, by simpa [tBl] using hc.2⟩)
theorem sk_le {u : aN} {k : Nat} (h : k ≤ u.1) : k ≤ sk u k ∧ sk u k ≤ u.1 := rn_le h
theorem fe_s {u : aN} {k : Nat} (h : k < u.1) (e : 48 ≤ u.2 k ∧ u.2 k ≤ 57) : fe u k = fe u (k + 1) := rn_s h (by simp [tFg, e.1, e.2])
theorem fe_e {u : aN} {k : Nat} (h : ¬ (k < u.1 ∧ 48 ≤ u.2 k ∧ u.2 k ≤ 57)) : fe u k = k := rn_e (fun hc => h ⟨hc.1, by simpa [tFg] using hc.2⟩)
theorem fe_le {u : aN} {k : Nat} (h : k ≤ u.1) : k ≤ fe u k ∧ fe u k ≤ u.1 := rn_le h
/-- how reading stands: a fault and its place, or where one is -/
abbrev aR : Type := (Nat × Nat) ⊕ Nat
def nmS (u : aN) (hi : Int) : aR → aR × Nat
  | .inl q => (.inl q, 0)
  | .inr k => if fe u (sk u k) = sk u k then (.inl (1, sk u k), 0) else if 3 < fe u (sk u k) - sk u k ∨ hi < (vl u (sk u k) (fe u (sk u k) - sk u k) : Int) then (.inl (2, sk u k), 0) else (.inr (fe u (sk u k)), vl u (sk u k) (fe u (sk u k) - sk u k))
def enS (u : aN) : aR → aR
  | .inl q => .inl q
  | .inr k => if sk u k < u.1 ∧ u.2 (sk u k) = 59 then .inr (sk u k + 1) else .inl (1, sk u k)
def clX (u : aN) (k : Nat) (C : aC) (S : aS) : aR × aC × aS :=
  if cT C = 1 then (.inl (3, k), C, S) else (enS u (nmS u 999 (.inr (k + 1))).1, (1, (nmS u 999 (.inr (k + 1))).2, cN C, cC C, cSl C, cDr C, cSq C), S)
def clP (u : aN) (k : Nat) (C : aC) (S : aS) : aR × aC × aS :=
  if cN C < 8 then (enS u (nmS u 2 (nmS u 3 (nmS u 999 (.inr (k + 1))).1).1).1,
    (cT C, cG C, cN C + 1, cC C, upN (cSl C) (cN C) (nmS u 3 (nmS u 999 (.inr (k + 1))).1).2, upN (cDr C) (cN C) (nmS u 2 (nmS u 3 (nmS u 999 (.inr (k + 1))).1).1).2, cSq C),
    (upN (sH S) (cN C) (nmS u 999 (.inr (k + 1))).2, sP S, sM S, sN S, sY S)) else (.inl (3, k), C, S)
def clS (u : aN) (k : Nat) (C : aC) (S : aS) : aR × aC × aS :=
  if sP S < 8 then (enS u (nmS u 999 (nmS u ((cN C : Int) - 1) (.inr (k + 1))).1).1, C,
    (sH S, sP S + 1, upN (sM S) (sP S) (nmS u 999 (nmS u ((cN C : Int) - 1) (.inr (k + 1))).1).2, upN (sN S) (sP S) (nmS u ((cN C : Int) - 1) (.inr (k + 1))).2, sY S)) else (.inl (3, k), C, S)
def clC (u : aN) (k : Nat) (C : aC) (S : aS) : aR × aC × aS :=
  if cC C < 4 then (enS u (nmS u 999 (.inr (k + 1))).1, (cT C, cG C, cN C, cC C + 1, cSl C, cDr C, upN (cSq C) (cC C) (nmS u 999 (.inr (k + 1))).2), S) else (.inl (3, k), C, S)
/-- the clause whose word stands at k -/
def cl (u : aN) (k : Nat) (C : aC) (S : aS) : aR × aC × aS :=
  if cT C = 0 ∧ u.2 k ≠ 120 then (.inl (1, k), C, S) else if u.2 k = 120 then clX u k C S else if u.2 k = 112 then clP u k C S else if u.2 k = 115 then clS u k C S else if u.2 k = 99 then clC u k C S else (.inl (1, k), C, S)
def pa (u : aN) : Nat → aR × aC × aS → aR × aC × aS
  | 0, r => r
  | f + 1, r => match r.1 with
    | .inl _ => r
    | .inr k => if sk u k < u.1 then pa u f (cl u (sk u k) r.2.1 r.2.2) else (.inr (sk u k), r.2)
def C0 : aC := (0, 0, 0, 0, fun _ => 0, fun _ => 0, fun _ => 0)
def S0 : aS := (fun _ => 0, 0, fun _ => 0, fun _ => 0, 0)
def fClan (z : aX) : Int32 × aX := match pa (gT z) 240 (.inr 0, C0, S0) with
  | (.inl q, _, _) => (jc (-10) - nI q.1, (gC z, gS z, gH z, gI z, gN z, gB z, gD z, nI q.2, (0, (gT z).2)))
  | (.inr _, C, S) => (nI (cN C), (C, S, [], fun _ => none, (0, (gN z).2), (0, (gB z).2), gD z, -1, (0, (gT z).2)))
/-- a status within the text -/
def wR (u : aN) : aR → Prop
  | .inl q => 1 ≤ q.1 ∧ q.1 ≤ 3 ∧ q.2 ≤ u.1
  | .inr k => k ≤ u.1
theorem nm_w {u : aN} {hi : Int} {s : aR} (h : wR u s) : wR u (nmS u hi s).1 ∧ (nmS u hi s).2 < 1000 := by
  cases s with
  | inl q => exact ⟨h, Nat.zero_lt_succ _⟩
  | inr k =>
    have h1 := sk_le (u := u) (k := k) h
    have h2 := fe_le h1.2
    unfold nmS
    dsimp only
    split
    · exact ⟨⟨Nat.le_refl 1, (by decide : 1 ≤ 3), h1.2⟩, Nat.zero_lt_succ _⟩
    · split
      · exact ⟨⟨(by decide : 1 ≤ 2), (by decide : 2 ≤ 3), h1.2⟩, Nat.zero_lt_succ _⟩
      · exact ⟨h2.2, vl_k _ _ _⟩
theorem en_w {u : aN} {s : aR} (h : wR u s) : wR u (enS u s) := by
  cases s with
  | inl q => exact h
  | inr k =>
    have h1 := sk_le (u := u) (k := k) h
    unfold enS
    dsimp only
    split
    · next hc => exact hc.1
    · exact ⟨Nat.le_refl 1, (by decide : 1 ≤ 3), h1.2⟩
theorem nm_rr {u : aN} {hi : Int} {s : aR} {k : Nat} (h : (nmS u hi s).1 = .inr k) : ∃ k0, s = .inr k0 ∧ (k0 ≤ u.1 → k0 ≤ k) ∧ ((nmS u hi s).2 : Int) ≤ hi := by
  cases s with
  | inl q => cases h
  | inr k0 =>
    refine ⟨k0, rfl, ?_⟩
    unfold nmS at h ⊢
    dsimp only at h ⊢
    split at h
    · cases h
    · next h1 =>
      split at h
      · cases h
      · next h2 =>
        rw [if_neg h1, if_neg h2]
        have e : fe u (sk u k0) = k := by injection h
        refine ⟨fun hk => ?_, ?_⟩
        · have g1 := sk_le (u := u) hk
          have g2 := fe_le g1.2
          omega
        · show (vl u (sk u k0) (fe u (sk u k0) - sk u k0) : Int) ≤ hi
          omega
theorem en_rr {u : aN} {s : aR} {k : Nat} (h : enS u s = .inr k) : ∃ k0, s = .inr k0 ∧ (k0 ≤ u.1 → k0 < k) := by
  cases s with
  | inl q => cases h
  | inr k0 =>
    refine ⟨k0, rfl, fun hk => ?_⟩
    have g1 := sk_le (u := u) hk
    unfold enS at h
    dsimp only at h
    split at h
    · have e : sk u k0 + 1 = k := by injection h
      omega
    · cases h
/-- what a clause leaves -/
def wD (u : aN) (r : aR × aC × aS) : Prop := wR u r.1 ∧ (∀ k, r.1 = .inr k → wC r.2.1 ∧ wS (cN r.2.1) r.2.2)
theorem cl_w {u : aN} {k : Nat} {C : aC} {S : aS} (hk : k < u.1) (hC : wC C) (hS : wS (cN C) S) : wD u (cl u k C S) := by
  have f1 : wD u (.inl (1, k), C, S) := ⟨⟨Nat.le_refl 1, (by decide : 1 ≤ 3), Nat.le_of_lt hk⟩, fun _ e => by cases e⟩
  have f3 : wD u (.inl (3, k), C, S) := ⟨⟨(by decide : 1 ≤ 3), (by decide : 3 ≤ 3), Nat.le_of_lt hk⟩, fun _ e => by cases e⟩
  have g0 : wR u (.inr (k + 1)) := hk
  obtain ⟨c1, c2, c3, c4, c5, c6, c7⟩ := id hC
  obtain ⟨s1, s2, s3, s4, s5⟩ := id hS
  unfold cl
  split
  · exact f1
  split
  · unfold clX
    split
    · exact f3
    · have g1 := nm_w (hi := 999) g0
      exact ⟨en_w g1.1, fun k' e => ⟨⟨Nat.le_refl 1, g1.2, c3, c4, c5, c6, c7⟩, hS⟩⟩
  split
  · unfold clP
    split
    · next hn =>
      have g1 := nm_w (hi := 999) g0
      have g2 := nm_w (hi := 3) g1.1
      have g3 := nm_w (hi := 2) g2.1
      refine ⟨en_w g3.1, fun k' e => ?_⟩
      obtain ⟨k3, e3, -⟩ := en_rr e
      obtain ⟨k2, e2, -, v3⟩ := nm_rr e3
      obtain ⟨k1, e1, -, v2⟩ := nm_rr e2
      refine ⟨⟨c1, c2, hn, c4, fun j hj => ?_, fun j hj => ?_, c7⟩, ⟨fun j hj => ?_, s2, s3, fun j hj => ?_, s5⟩⟩
      · have hj : j < cN C + 1 := hj
        by_cases e : j = cN C
        · show upN (cSl C) (cN C) _ j ≤ 3
          rw [e, upN_s]
          omega
        · show upN (cSl C) (cN C) _ j ≤ 3
          rw [upN_o e]
          exact c5 j (by omega)
      · have hj : j < cN C + 1 := hj
        by_cases e : j = cN C
        · show upN (cDr C) (cN C) _ j ≤ 2
          rw [e, upN_s]
          omega
        · show upN (cDr C) (cN C) _ j ≤ 2
          rw [upN_o e]
          exact c6 j (by omega)
      · have hj : j < cN C + 1 := hj
        by_cases e : j = cN C
        · show upN (sH S) (cN C) _ j < 1000
          rw [e, upN_s]
          exact g1.2
        · show upN (sH S) (cN C) _ j < 1000
          rw [upN_o e]
          exact s1 j (by omega)
      · exact Nat.lt_succ_of_lt (s4 j hj)
    · exact f3
  split
  · unfold clS
    split
    · next hn =>
      have g1 := nm_w (hi := (cN C : Int) - 1) g0
      have g2 := nm_w (hi := 999) g1.1
      refine ⟨en_w g2.1, fun k' e => ?_⟩
      obtain ⟨k3, e3, -⟩ := en_rr e
      obtain ⟨k2, e2, -, v3⟩ := nm_rr e3
      obtain ⟨k1, e1, -, v2⟩ := nm_rr e2
      refine ⟨hC, ⟨s1, hn, fun j hj => ?_, fun j hj => ?_, s5⟩⟩
      · have hj : j < sP S + 1 := hj
        by_cases e : j = sP S
        · show upN (sM S) (sP S) _ j < 1000
          rw [e, upN_s]
          exact g2.2
        · show upN (sM S) (sP S) _ j < 1000
          rw [upN_o e]
          exact s3 j (by show j < sP S; omega)
      · have hj : j < sP S + 1 := hj
        by_cases e : j = sP S
        · show upN (sN S) (sP S) _ j < cN C
          rw [e, upN_s]
          omega
        · show upN (sN S) (sP S) _ j < cN C
          rw [upN_o e]
          exact s4 j (by show j < sP S; omega)
    · exact f3
  split
  · unfold clC
    split
    · next hn =>
      have g1 := nm_w (hi := 999) g0
      refine ⟨en_w g1.1, fun k' e => ⟨⟨c1, c2, c3, hn, c5, c6, fun j hj => ?_⟩, hS⟩⟩
      have hj : j < cC C + 1 := hj
      by_cases e : j = cC C
      · show upN (cSq C) (cC C) _ j < 1000
        rw [e, upN_s]
        exact g1.2
      · show upN (cSq C) (cC C) _ j < 1000
        rw [upN_o e]
        exact c7 j (by omega)
    · exact f3
  · exact f1
theorem cl_r {u : aN} {k k' : Nat} {C : aC} {S : aS} (hk : k < u.1) (h : (cl u k C S).1 = .inr k') : k < k' := by
  have g0 : wR u (.inr (k + 1)) := hk
  have g9 : ∀ s : aR, wR u s → (∀ k0, s = .inr k0 → k + 1 ≤ k0) → ∀ hi, wR u (nmS u hi s).1 ∧ (∀ k0, (nmS u hi s).1 = .inr k0 → k + 1 ≤ k0) := by
    intro s hs hp hi
    refine ⟨(nm_w hs).1, fun k0 e => ?_⟩
    obtain ⟨k1, e1, h1, -⟩ := nm_rr e
    subst e1
    have := hp k1 rfl
    have := h1 hs
    omega
  have g8 : ∀ s : aR, wR u s → (∀ k0, s = .inr k0 → k + 1 ≤ k0) → ∀ k0, enS u s = .inr k0 → k < k0 := by
    intro s hs hp k0 e
    obtain ⟨k1, e1, h1⟩ := en_rr e
    subst e1
    have := hp k1 rfl
    have := h1 hs
    omega
  have p0 : ∀ k0, (.inr (k + 1) : aR) = .inr k0 → k + 1 ≤ k0 := fun k0 e => by injection e with e; omega
  unfold cl at h
  split at h
  · cases h
  split at h
  · unfold clX at h
    split at h
    · cases h
    · have g1 := g9 _ g0 p0 999
      exact g8 _ g1.1 g1.2 _ h
  split at h
  · unfold clP at h
    split at h
    · have g1 := g9 _ g0 p0 999
      have g2 := g9 _ g1.1 g1.2 3
      have g3 := g9 _ g2.1 g2.2 2
      exact g8 _ g3.1 g3.2 _ h
    · cases h
  split at h
  · unfold clS at h
    split at h
    · have g1 := g9 _ g0 p0 ((cN C : Int) - 1)
      have g2 := g9 _ g1.1 g1.2 999
      exact g8 _ g2.1 g2.2 _ h
    · cases h
  split at h
  · unfold clC at h
    split at h
    · have g1 := g9 _ g0 p0 999
      exact g8 _ g1.1 g1.2 _ h
    · cases h
  · cases h
theorem pa_w {u : aN} : ∀ (f : Nat) (r : aR × aC × aS), wD u r → wD u (pa u f r)
  | 0, r, h => h
  | f + 1, r, h => by
    obtain ⟨s, C, S⟩ := r
    rw [pa]
    cases s with
    | inl q => exact h
    | inr k =>
      dsimp only
      have hw := h.2 k rfl
      have hk : k ≤ u.1 := h.1
      split
      · next hs => exact pa_w f _ (cl_w hs hw.1 hw.2)
      · exact ⟨(sk_le hk).2, fun _ _ => hw⟩
