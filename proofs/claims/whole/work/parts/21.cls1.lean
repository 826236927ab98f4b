/-! THE CLASS: marks and persons -/
theorem c_apart {d a b : Nat} {x : jM} {Q : Option Value → jM → Prop} (ha : a < 1000) (hb : b < 1000) (h : Q (some (.int (nI (ap a b)))) x) : jo (d + 1) 67 [.int (nI a), .int (nI b)] x Q := by
  refine jo_i rfl rfl (Nat.le_of_ble_eq_true rfl) ?_
  repeat refine jw_u rfl ?_
  refine ⟨by decide, ?_⟩
  repeat refine jw_u rfl ?_
  refine ⟨by decide, ?_⟩
  iterate 2 refine jw_u rfl ?_
  refine jtop (e1 ha hb) ?_
  repeat refine jw_u rfl ?_
  refine ⟨by decide, ?_⟩
  repeat refine jw_u rfl ?_
  refine ⟨by decide, ?_⟩
  repeat refine jw_u rfl ?_
  refine ⟨by decide, ?_⟩
  repeat refine jw_u rfl ?_
  refine ⟨by decide, ?_⟩
  iterate 2 refine jw_u rfl ?_
  refine jtop (e2 ha hb) ?_
  iterate 1 refine jw_u rfl ?_
  repeat refine jw_u rfl ?_
  refine ⟨by decide, ?_⟩
  repeat refine jw_u rfl ?_
  refine ⟨by decide, ?_⟩
  iterate 2 refine jw_u rfl ?_
  refine jtop (e3 ha hb) ?_
  repeat refine jw_u rfl ?_
  exact ⟨fun h => (by cases h), jret (by rw [nI_add, nI_add]; rfl) h⟩
theorem c_isPerson {d n : Nat} {p : Int32} {x : jM} {Q : Option Value → jM → Prop} (hn : x 11 2 = nI n) (h1 : 0 ≤ p ∧ p < nI n → Q (some (.int (nI 1))) x) (h2 : ¬ (0 ≤ p ∧ p < nI n) → Q (some (.int (nI 0))) x) : jo (d + 1) 61 [.ref 0, .int p] x Q := by
  refine jo_i rfl rfl (Nat.le_of_ble_eq_true rfl) ?_
  iterate 2 refine jw_u rfl ?_
  refine ⟨fun (c : p < 0) => ?_, fun (c : ¬ p < 0) => ?_⟩
  · iterate 2 refine jw_u rfl ?_
    exact ⟨fun _ => Or.inl rfl, h2 (fun hc => absurd hc.1 (by simpa using c))⟩
  · iterate 5 refine jw_u rfl ?_
    refine ⟨fun (c2 : x 11 2 ≤ p) => ?_, fun (c2 : ¬ x 11 2 ≤ p) => ?_⟩
    · rw [hn] at c2
      iterate 2 refine jw_u rfl ?_
      exact ⟨fun _ => Or.inl rfl, h2 (fun hc => absurd hc.2 (by simpa using c2))⟩
    · rw [hn] at c2
      iterate 3 refine jw_u rfl ?_
      exact ⟨fun _ => Or.inr rfl, h1 ⟨by simpa using c, by simpa using c2⟩⟩
theorem c_isPaper {d n : Nat} {p : Int32} {x : jM} {Q : Option Value → jM → Prop} (hn : x 15 1 = nI n) (h1 : 0 ≤ p ∧ p < nI n → Q (some (.int (nI 1))) x) (h2 : ¬ (0 ≤ p ∧ p < nI n) → Q (some (.int (nI 0))) x) : jo (d + 1) 62 [.ref 0, .int p] x Q := by
  refine jo_i rfl rfl (Nat.le_of_ble_eq_true rfl) ?_
  iterate 2 refine jw_u rfl ?_
  refine ⟨fun (c : p < 0) => ?_, fun (c : ¬ p < 0) => ?_⟩
  · iterate 2 refine jw_u rfl ?_
    exact ⟨fun _ => Or.inl rfl, h2 (fun hc => absurd hc.1 (by simpa using c))⟩
  · iterate 5 refine jw_u rfl ?_
    refine ⟨fun (c2 : x 15 1 ≤ p) => ?_, fun (c2 : ¬ x 15 1 ≤ p) => ?_⟩
    · rw [hn] at c2
      iterate 2 refine jw_u rfl ?_
      exact ⟨fun _ => Or.inl rfl, h2 (fun hc => absurd hc.2 (by simpa using c2))⟩
    · rw [hn] at c2
      iterate 3 refine jw_u rfl ?_
      exact ⟨fun _ => Or.inr rfl, h1 ⟨by simpa using c, by simpa using c2⟩⟩
theorem c_isCandidate {d n : Nat} {p : Int32} {x : jM} {Q : Option Value → jM → Prop} (hn : x 11 5 = nI n) (h1 : 0 ≤ p ∧ p < nI n → Q (some (.int (nI 1))) x) (h2 : ¬ (0 ≤ p ∧ p < nI n) → Q (some (.int (nI 0))) x) : jo (d + 1) 63 [.ref 0, .int p] x Q := by
  refine jo_i rfl rfl (Nat.le_of_ble_eq_true rfl) ?_
  iterate 2 refine jw_u rfl ?_
  refine ⟨fun (c : p < 0) => ?_, fun (c : ¬ p < 0) => ?_⟩
  · iterate 2 refine jw_u rfl ?_
    exact ⟨fun _ => Or.inl rfl, h2 (fun hc => absurd hc.1 (by simpa using c))⟩
  · iterate 5 refine jw_u rfl ?_
    refine ⟨fun (c2 : x 11 5 ≤ p) => ?_, fun (c2 : ¬ x 11 5 ≤ p) => ?_⟩
    · rw [hn] at c2
      iterate 2 refine jw_u rfl ?_
      exact ⟨fun _ => Or.inl rfl, h2 (fun hc => absurd hc.2 (by simpa using c2))⟩
    · rw [hn] at c2
      iterate 3 refine jw_u rfl ?_
      exact ⟨fun _ => Or.inr rfl, h1 ⟨by simpa using c, by simpa using c2⟩⟩
theorem c_isImage {d : Nat} {p : Int32} {x : jM} {Q : Option Value → jM → Prop} (h1 : 0 ≤ p ∧ p < nI 2 → Q (some (.int (nI 1))) x) (h2 : ¬ (0 ≤ p ∧ p < nI 2) → Q (some (.int (nI 0))) x) : jo (d + 1) 64 [.int p] x Q := by
  refine jo_i rfl rfl (Nat.le_of_ble_eq_true rfl) ?_
  iterate 2 refine jw_u rfl ?_
  refine ⟨fun (c : p < 0) => ?_, fun (c : ¬ p < 0) => ?_⟩
  · iterate 2 refine jw_u rfl ?_
    exact ⟨fun _ => Or.inl rfl, h2 (fun hc => absurd hc.1 (by simpa using c))⟩
  · iterate 3 refine jw_u rfl ?_
    refine ⟨fun (c2 : nI 2 ≤ p) => ?_, fun (c2 : ¬ nI 2 ≤ p) => ?_⟩
    · iterate 2 refine jw_u rfl ?_
      exact ⟨fun _ => Or.inl rfl, h2 (fun hc => absurd hc.2 (by simpa using c2))⟩
    · iterate 3 refine jw_u rfl ?_
      exact ⟨fun _ => Or.inr rfl, h1 ⟨by simpa using c, by simpa using c2⟩⟩
theorem c_isMark {d : Nat} {p : Int32} {x : jM} {Q : Option Value → jM → Prop} (h1 : 0 ≤ p ∧ p < nI 1000 → Q (some (.int (nI 1))) x) (h2 : ¬ (0 ≤ p ∧ p < nI 1000) → Q (some (.int (nI 0))) x) : jo (d + 1) 65 [.int p] x Q := by
  refine jo_i rfl rfl (Nat.le_of_ble_eq_true rfl) ?_
  iterate 2 refine jw_u rfl ?_
  refine ⟨fun (c : p < 0) => ?_, fun (c : ¬ p < 0) => ?_⟩
  · iterate 2 refine jw_u rfl ?_
    exact ⟨fun _ => Or.inl rfl, h2 (fun hc => absurd hc.1 (by simpa using c))⟩
  · iterate 3 refine jw_u rfl ?_
    refine ⟨fun (c2 : nI 1000 ≤ p) => ?_, fun (c2 : ¬ nI 1000 ≤ p) => ?_⟩
    · iterate 2 refine jw_u rfl ?_
      exact ⟨fun _ => Or.inl rfl, h2 (fun hc => absurd hc.2 (by simpa using c2))⟩
    · iterate 3 refine jw_u rfl ?_
      exact ⟨fun _ => Or.inr rfl, h1 ⟨by simpa using c, by simpa using c2⟩⟩
theorem c_part {d a k : Nat} {x : jM} {Q : Option Value → jM → Prop} (ha : a < 1000) (hk : k < 3) (h : Q (some (.int (nI (dg a k)))) x) : jo (d + 1) 66 [.int (nI a), .int (nI k)] x Q := by
  refine jo_i rfl rfl (Nat.le_of_ble_eq_true rfl) ?_
  iterate 2 refine jw_u rfl ?_
  have hi : (nI k).toInt = (k : Int) := nI_toInt (by omega)
  refine ⟨fun (c : (nI k).toInt = 0) => ?_, fun (c : ¬ (nI k).toInt = 0) => ⟨fun (c2 : (nI k).toInt = 1) => ?_, fun (c2 : ¬ (nI k).toInt = 1) => ?_⟩⟩
  · rw [hi] at c
    have e : k = 0 := by omega
    subst e
    iterate 3 refine jw_u rfl ?_
    refine ⟨by decide, ?_⟩
    refine jw_u rfl ?_
    exact ⟨fun h => (by cases h), jret (d1 ha) h⟩
  · rw [hi] at c2
    have e : k = 1 := by omega
    subst e
    iterate 3 refine jw_u rfl ?_
    refine ⟨by decide, ?_⟩
    iterate 2 refine jw_u rfl ?_
    refine ⟨by decide, ?_⟩
    refine jw_u rfl ?_
    exact ⟨fun h => (by cases h), jret (d2 ha) h⟩
  · rw [hi] at c c2
    have e : k = 2 := by omega
    subst e
    iterate 3 refine jw_u rfl ?_
    refine ⟨by decide, ?_⟩
    refine jw_u rfl ?_
    exact ⟨fun h => (by cases h), jret (d3 ha) h⟩
theorem c_within {d a b t : Nat} {x : jM} {Q : Option Value → jM → Prop} (ha : a < 1000) (hb : b < 1000) (ht : t < 100) (h1 : nr a b t = true → Q (some (.int (nI 1))) x) (h2 : nr a b t = false → Q (some (.int (nI 0))) x) : jo (d + 1) 68 [.int (nI a), .int (nI b), .int (nI t)] x Q := by
  have b1 : ds (a / 100) (b / 100) < 2 ^ 31 := by unfold ds; split <;> omega
  have b2 : ds (a / 10 % 10) (b / 10 % 10) < 2 ^ 31 := by unfold ds; split <;> omega
  have b3 : ds (a % 10) (b % 10) < 2 ^ 31 := by unfold ds; split <;> omega
  refine jo_i rfl rfl (Nat.le_of_ble_eq_true rfl) ?_
  iterate 3 refine jw_u rfl ?_
  refine ⟨by decide, ?_⟩
  iterate 3 refine jw_u rfl ?_
  refine ⟨by decide, ?_⟩
  iterate 2 refine jw_u rfl ?_
  refine jtop (e1 ha hb) ?_
  iterate 2 refine jw_u rfl ?_
  refine ⟨fun (c : nI t < nI (ds (a / 100) (b / 100))) => ?_, fun (c : ¬ nI t < nI (ds (a / 100) (b / 100))) => ?_⟩
  · rw [nI_ltI (by omega) b1] at c
    iterate 2 refine jw_u rfl ?_
    exact ⟨fun _ => Or.inl rfl, h2 (by simp [nr, Nat.not_le.mpr c])⟩
  rw [nI_ltI (by omega) b1] at c
  iterate 3 refine jw_u rfl ?_
  refine ⟨by decide, ?_⟩
  iterate 2 refine jw_u rfl ?_
  refine ⟨by decide, ?_⟩
  iterate 3 refine jw_u rfl ?_
  refine ⟨by decide, ?_⟩
  iterate 2 refine jw_u rfl ?_
  refine ⟨by decide, ?_⟩
  iterate 2 refine jw_u rfl ?_
  refine jtop (e2 ha hb) ?_
  iterate 2 refine jw_u rfl ?_
  refine ⟨fun (c2 : nI t < nI (ds (a / 10 % 10) (b / 10 % 10))) => ?_, fun (c2 : ¬ nI t < nI (ds (a / 10 % 10) (b / 10 % 10))) => ?_⟩
  · rw [nI_ltI (by omega) b2] at c2
    iterate 2 refine jw_u rfl ?_
    exact ⟨fun _ => Or.inl rfl, h2 (by simp [nr, Nat.not_le.mpr c2])⟩
  rw [nI_ltI (by omega) b2] at c2
  iterate 3 refine jw_u rfl ?_
  refine ⟨by decide, ?_⟩
  iterate 3 refine jw_u rfl ?_
  refine ⟨by decide, ?_⟩
  iterate 2 refine jw_u rfl ?_
  refine jtop (e3 ha hb) ?_
  iterate 2 refine jw_u rfl ?_
  refine ⟨fun (c3 : nI t < nI (ds (a % 10) (b % 10))) => ?_, fun (c3 : ¬ nI t < nI (ds (a % 10) (b % 10))) => ?_⟩
  · rw [nI_ltI (by omega) b3] at c3
    iterate 2 refine jw_u rfl ?_
    exact ⟨fun _ => Or.inl rfl, h2 (by simp [nr, Nat.not_le.mpr c3])⟩
  rw [nI_ltI (by omega) b3] at c3
  iterate 3 refine jw_u rfl ?_
  exact ⟨fun _ => Or.inr rfl, h1 (by simp [nr, Nat.not_lt.mp c, Nat.not_lt.mp c2, Nat.not_lt.mp c3])⟩
section CQ1
variable {d n : Nat} {x : jM} {Q : Option Value → jM → Prop} {hd sl : Nat → Nat}
theorem c_passes {a j : Nat} (hn : x 11 2 = nI n) (h8 : n ≤ 8) (hh : ∀ k, k < n → x 16 k = nI (hd k)) (hs : ∀ k, k < n → x 12 k = nI (sl k)) (bh : ∀ k, k < n → hd k < 1000) (bs : ∀ k, k < n → sl k ≤ 3) (ha : a < 1000) (hj : j < n) (h1 : nr a (hd j) (sl j) = true → Q (some (.int (nI 1))) x) (h2 : nr a (hd j) (sl j) = false → Q (some (.int (nI 0))) x) : jo (d + 2) 69 [.ref 0, .int (nI a), .int (nI j)] x Q := by
  refine jo_i rfl rfl (Nat.le_of_ble_eq_true rfl) ?_
  iterate 3 refine jw_u rfl ?_
  refine c_isPerson hn (fun _ => ?_) (fun h => absurd (ilt2 (by omega) hj) h)
  refine jw_u rfl ⟨fun c => absurd c n10, fun _ => ?_⟩
  iterate 5 refine jw_u rfl ?_
  refine jw_u rfl (jaN (show j < 8 by omega) (by decide) (hh j hj) ?_)
  iterate 4 refine jw_u rfl ?_
  refine jw_u rfl (jaN (show j < 8 by omega) (by decide) (hs j hj) ?_)
  refine jw_u rfl ?_
  have := bs j hj
  refine c_within ha (bh j hj) (by omega) (fun hw => ?_) (fun hw => ?_)
  · refine jw_u rfl ⟨fun c => absurd c n10, fun _ => ?_⟩
    iterate 3 refine jw_u rfl ?_
    exact ⟨fun _ => Or.inr rfl, h1 hw⟩
  · refine jw_u rfl ⟨fun _ => ?_, fun c => absurd rfl c⟩
    iterate 2 refine jw_u rfl ?_
    exact ⟨fun _ => Or.inl rfl, h2 hw⟩
theorem c_passSet {a : Nat} (hn : x 11 2 = nI n) (h8 : n ≤ 8) (hh : ∀ k, k < n → x 16 k = nI (hd k)) (hs : ∀ k, k < n → x 12 k = nI (sl k)) (bh : ∀ k, k < n → hd k < 1000) (bs : ∀ k, k < n → sl k ≤ 3) (ha : a < 1000) (h : Q (some (.int (sb (fun j => nr a (hd j) (sl j)) n))) x) : jo (d + 3) 70 [.ref 0, .int (nI a)] x Q := by
  have loop : ∀ i, i ≤ n → jw (d + 2) kX6_passSet Q 4 [some (.ref 0), some (.int (nI a)), some (.int (sb (fun j => nr a (hd j) (sl j)) i)), some (.int (nI i))] [] x := by
    refine dn _ n ?_ (fun i hi ih => ?_)
    · iterate 4 refine jw_u rfl ?_
      refine jw_u rfl ⟨fun _ => ?_, fun (c : ¬ x 11 2 ≤ nI n) => absurd (by rw [hn]; exact Int32.le_refl _) c⟩
      iterate 2 refine jw_u rfl ?_
      exact ⟨fun h => (by cases h), h⟩
    · iterate 4 refine jw_u rfl ?_
      refine jw_u rfl ⟨fun (c : x 11 2 ≤ nI i) => absurd c (by rw [hn]; exact nI_ge hi (by omega)), fun _ => ?_⟩
      iterate 4 refine jw_u rfl ?_
      refine c_passes hn h8 hh hs bh bs ha hi (fun hw => ?_) (fun hw => ?_)
      · refine jw_u rfl ⟨fun c => absurd c n10, fun _ => ?_⟩
        iterate 8 refine jw_u rfl ?_
        rw [sb, if_pos hw, nI_s i] at ih
        exact ih
      · refine jw_u rfl ⟨fun _ => ?_, fun c => absurd rfl c⟩
        iterate 2 refine jw_u rfl ?_
        rw [sb, if_neg (by rw [hw]; decide), nI_s i] at ih
        exact ih
  refine jo_i rfl rfl (Nat.le_of_ble_eq_true rfl) ?_
  iterate 4 refine jw_u rfl ?_
  exact loop 0 (Nat.zero_le _)
end CQ1
