/-! PAIRS, in the order of the loops; the next of a tree; how groups are joined -/
def rwp (n p q : Nat) : List (Nat × Nat) := (List.range' q (n - q)).map (fun j => (p, j))
def rsp (n p : Nat) : List (Nat × Nat) := (List.range' p (n - p)).flatMap (fun i => rwp n i (i + 1))
theorem rwp_c {n p q : Nat} (h : q < n) : rwp n p q = (p, q) :: rwp n p (q + 1) := by
  unfold rwp
  rw [show n - q = (n - (q + 1)) + 1 by omega, List.range'_succ, List.map_cons]
theorem rwp_n {n p q : Nat} (h : n ≤ q) : rwp n p q = [] := by
  unfold rwp
  rw [show n - q = 0 by omega]
  rfl
theorem rsp_c {n p : Nat} (h : p < n) : rsp n p = rwp n p (p + 1) ++ rsp n (p + 1) := by
  unfold rsp
  rw [show n - p = (n - (p + 1)) + 1 by omega, List.range'_succ, List.flatMap_cons]
theorem rsp_n {n p : Nat} (h : n ≤ p) : rsp n p = [] := by
  unfold rsp
  rw [show n - p = 0 by omega]
  rfl
theorem rwp_mem {n p q a b : Nat} : (a, b) ∈ rwp n p q ↔ a = p ∧ q ≤ b ∧ b < n := by
  simp only [rwp, List.mem_map, List.mem_range'_1, Prod.mk.injEq]
  constructor
  · rintro ⟨j, ⟨h1, h2⟩, h3, h4⟩
    omega
  · rintro ⟨h1, h2, h3⟩
    exact ⟨b, ⟨by omega, by omega⟩, h1.symm, rfl⟩
theorem rsp_mem {n p a b : Nat} : (a, b) ∈ rsp n p ↔ p ≤ a ∧ a < b ∧ b < n := by
  simp only [rsp, List.mem_flatMap, List.mem_range'_1, rwp_mem]
  constructor
  · rintro ⟨i, ⟨h1, h2⟩, h3, h4, h5⟩
    omega
  · rintro ⟨h1, h2, h3⟩
    exact ⟨a, ⟨by omega, by omega⟩, rfl, by omega, h3⟩
/-- the pair nearest so far -/
def ts (G hd : Nat → Nat) (o : Option (Nat × Nat)) (q : Nat × Nat) : Option (Nat × Nat) := match o with
  | none => if G q.1 = G q.2 then none else some q
  | some a => if G q.1 = G q.2 then some a else if ap (hd q.1) (hd q.2) < ap (hd a.1) (hd a.2) then some q else some a
def nx (G hd : Nat → Nat) (n : Nat) : Option (Nat × Nat) := (rsp n 0).foldl (ts G hd) none
def cI (o : Option (Nat × Nat)) : Int32 := match o with
  | none => -1
  | some a => nI (10 * a.1 + a.2)
def lI (hd : Nat → Nat) (z : Nat) (o : Option (Nat × Nat)) : Nat := match o with
  | none => z
  | some a => ap (hd a.1) (hd a.2)
theorem ts_some {G hd : Nat → Nat} : ∀ {l : List (Nat × Nat)} {o : Option (Nat × Nat)} {a : Nat × Nat}, l.foldl (ts G hd) o = some a → o = some a ∨ (a ∈ l ∧ G a.1 ≠ G a.2)
  | [], o, a, h => Or.inl h
  | q :: l, o, a, h => by
    rcases ts_some (l := l) h with h1 | h1
    · unfold ts at h1
      split at h1
      · split at h1
        · cases h1
        · next hg => cases h1; exact Or.inr ⟨List.mem_cons_self, hg⟩
      · split at h1
        · exact Or.inl h1
        · next hg =>
          split at h1
          · cases h1; exact Or.inr ⟨List.mem_cons_self, hg⟩
          · exact Or.inl h1
    · exact Or.inr ⟨List.mem_cons_of_mem _ h1.1, h1.2⟩
theorem ts_none {G hd : Nat → Nat} : ∀ {l : List (Nat × Nat)} {o : Option (Nat × Nat)}, l.foldl (ts G hd) o = none → o = none ∧ ∀ q ∈ l, G q.1 = G q.2
  | [], o, h => ⟨h, fun q hq => absurd hq List.not_mem_nil⟩
  | q :: l, o, h => by
    obtain ⟨h1, h2⟩ := ts_none (l := l) h
    unfold ts at h1
    split at h1
    · split at h1
      · next hg => exact ⟨rfl, fun q' hq => (List.mem_cons.mp hq).elim (fun e => e ▸ hg) (h2 q')⟩
      · cases h1
    · split at h1
      · cases h1
      · split at h1 <;> cases h1
theorem nx_some {G hd : Nat → Nat} {n : Nat} {a : Nat × Nat} (h : nx G hd n = some a) : a.1 < a.2 ∧ a.2 < n ∧ G a.1 ≠ G a.2 := by
  rcases ts_some h with h1 | ⟨h1, h2⟩
  · cases h1
  · have := rsp_mem.mp (show (a.1, a.2) ∈ rsp n 0 from h1)
    exact ⟨this.2.1, this.2.2, h2⟩
def jnG (G : Nat → Nat) (a : Nat × Nat) : Nat → Nat := fun k => if G k = G a.2 then G a.1 else G k
/-- groups, and the sum, after t joins -/
def tG (hd : Nat → Nat) (n : Nat) : Nat → (Nat → Nat)
  | 0 => fun k => k
  | t + 1 => match nx (tG hd n t) hd n with
    | none => tG hd n t
    | some a => jnG (tG hd n t) a
def tA (hd : Nat → Nat) (n : Nat) : Nat → Nat
  | 0 => 0
  | t + 1 => tA hd n t + lI hd 0 (nx (tG hd n t) hd n)
theorem cA_ext {P P' : Nat → Bool} : ∀ {n : Nat}, (∀ k, k < n → P k = P' k) → cA P n = cA P' n
  | 0, _ => rfl
  | n + 1, h => by rw [cA, cA, h n (Nat.lt_succ_self _), cA_ext (fun k hk => h k (Nat.lt_succ_of_lt hk))]
theorem cA_rm {P P' : Nat → Bool} {z : Nat} : ∀ {n : Nat}, z < n → P z = true → (∀ k, k < n → P' k = (P k && k != z)) → cA P' n + 1 = cA P n
  | 0, hz, _, _ => absurd hz (Nat.not_lt_zero _)
  | n + 1, hz, hp, h => by
    rw [cA, cA]
    by_cases e : z = n
    · subst e
      have h1 := h z (Nat.lt_succ_self _)
      rw [hp] at h1
      have h2 : P' z = false := by simpa using h1
      rw [h2, hp, if_pos rfl, if_neg (by decide)]
      rw [cA_ext (P := P') (P' := P) (fun k hk => by rw [h k (Nat.lt_succ_of_lt hk)]; have : (k != z) = true := by simp; omega
                                                     simp [this])]
    · have h1 := h n (Nat.lt_succ_self _)
      have h3 : (n != z) = true := by simp; omega
      rw [h3, Bool.and_true] at h1
      rw [h1]
      have ih := cA_rm (P := P) (P' := P') (n := n) (by omega) hp (fun k hk => h k (Nat.lt_succ_of_lt hk))
      split <;> omega
theorem cA_two {P : Nat → Bool} : ∀ {n : Nat}, 2 ≤ cA P n → ∃ a b, a < b ∧ b < n ∧ P a = true ∧ P b = true
  | 0, h => absurd (show 2 ≤ 0 from h) (by decide)
  | n + 1, h => by
    rw [cA] at h
    by_cases hp : P n = true
    · rw [if_pos hp] at h
      have h1 : 1 ≤ cA P n := by omega
      obtain ⟨a, ha, hpa⟩ : ∃ a, a < n ∧ P a = true := by
        clear h hp
        induction n with
        | zero => exact absurd (show 1 ≤ 0 from h1) (by decide)
        | succ n ih =>
          rw [cA] at h1
          by_cases hp : P n = true
          · exact ⟨n, Nat.lt_succ_self _, hp⟩
          · rw [if_neg hp] at h1
            obtain ⟨a, ha, hpa⟩ := ih h1
            exact ⟨a, Nat.lt_succ_of_lt ha, hpa⟩
      exact ⟨a, n, ha, Nat.lt_succ_self _, hpa, hp⟩
    · rw [if_neg hp] at h
      obtain ⟨a, b, h1, h2, h3⟩ := cA_two h
      exact ⟨a, b, h1, Nat.lt_succ_of_lt h2, h3⟩
theorem cA_all {P : Nat → Bool} : ∀ {n : Nat}, (∀ k, k < n → P k = true) → cA P n = n
  | 0, _ => rfl
  | n + 1, h => by rw [cA, if_pos (h n (Nat.lt_succ_self _)), cA_all (fun k hk => h k (Nat.lt_succ_of_lt hk))]
/-- as long as fewer than n - 1 are joined there is a next pair -/
theorem tG_inv (hd : Nat → Nat) (n : Nat) : ∀ t, t < n ∨ t = 0 → (∀ k, k < n → tG hd n t k < n ∧ tG hd n t (tG hd n t k) = tG hd n t k) ∧ cA (fun k => tG hd n t k == k) n + t = n
  | 0, _ => ⟨fun k hk => ⟨hk, rfl⟩, by rw [cA_all (fun k _ => by simp [tG])]; rfl⟩
  | t + 1, h => by
    have h : t + 1 < n := by omega
    obtain ⟨h1, h2⟩ := tG_inv hd n t (by omega)
    obtain ⟨p, q, hpq, hq, hp1, hq1⟩ := cA_two (P := fun k => tG hd n t k == k) (n := n) (by omega)
    have hp2 : tG hd n t p = p := by simpa using hp1
    have hq2 : tG hd n t q = q := by simpa using hq1
    cases hx : nx (tG hd n t) hd n with
    | none =>
      have := (ts_none hx).2 (p, q) (rsp_mem.mpr ⟨Nat.zero_le _, hpq, hq⟩)
      have e : tG hd n t p = tG hd n t q := this
      omega
    | some a =>
      obtain ⟨g1, g2, g3⟩ := nx_some hx
      have e : tG hd n (t + 1) = jnG (tG hd n t) a := by rw [tG, hx]
      rw [e]
      generalize tG hd n t = G at *
      have i1 := h1 a.1 (by omega)
      have i2 := h1 a.2 g2
      refine ⟨fun k hk => ?_, ?_⟩
      · have ik := h1 k hk
        unfold jnG
        by_cases c : G k = G a.2
        · simp only [c, if_true]
          refine ⟨i1.1, ?_⟩
          rw [i1.2]
          simp [g3]
        · simp only [c, if_false]
          refine ⟨ik.1, ?_⟩
          rw [ik.2]
          simp [c]
      · have hr := cA_rm (P := fun k => G k == k) (P' := fun k => jnG G a k == k) (z := G a.2) (n := n) i2.1 (by simp [i2.2]) (fun k hk => by
          have ik := h1 k hk
          unfold jnG
          by_cases c : G k = G a.2
          · simp only [c, if_true]
            have : ¬ G a.1 = k := by
              intro e
              rw [← e, i1.2] at c
              exact g3 c
            have c2 : (G a.1 == k) = false := by simp [this]
            rw [c2]
            by_cases e : G a.2 = k
            · simp [e]
            · have : (G a.2 == k) = false := by simp [e]
              rw [this]
              rfl
          · simp only [c, if_false]
            by_cases e : G k = k
            · have e2 : (k != G a.2) = true := by
                simp
                intro e3
                rw [e3] at e
                rw [e3] at c
                exact c i2.2
              rw [e2, Bool.and_true]
            · have : (G k == k) = false := by simp [e]
              rw [this]
              rfl)
        omega
theorem tG_next (hd : Nat → Nat) {n t : Nat} (h : t + 1 < n) : ∃ a, nx (tG hd n t) hd n = some a := by
  obtain ⟨h1, h2⟩ := tG_inv hd n t (by omega)
  obtain ⟨p, q, hpq, hq, hp1, hq1⟩ := cA_two (P := fun k => tG hd n t k == k) (n := n) (by omega)
  cases hx : nx (tG hd n t) hd n with
  | none =>
    have := (ts_none hx).2 (p, q) (rsp_mem.mpr ⟨Nat.zero_le _, hpq, hq⟩)
    have e : tG hd n t p = tG hd n t q := this
    have hp2 : tG hd n t p = p := by simpa using hp1
    have hq2 : tG hd n t q = q := by simpa using hq1
    omega
  | some a => exact ⟨a, rfl⟩
theorem tG_lt (hd : Nat → Nat) {n t k : Nat} (h : t < n) (hk : k < n) : tG hd n t k < n := ((tG_inv hd n t (Or.inl h)).1 k hk).1
