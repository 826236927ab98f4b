/-! THE REFERENCE: its small steps -/
theorem in_iff {m : Int32} {lo hi : Int64} {a b : Int} (h1 : lo.toInt = a) (h2 : hi.toInt = b) : (lo ≤ m.toInt64 ∧ m.toInt64 ≤ hi) ↔ (a ≤ m.toInt ∧ m.toInt ≤ b) := by
  rw [Int64.le_iff_toInt_le, Int64.le_iff_toInt_le, Int32.toInt_toInt64, h1, h2]
theorem ri {p : Int32} {n : Nat} (hn : n < 2 ^ 31) : (0 ≤ p ∧ p < nI n) ↔ (0 ≤ p.toInt ∧ p.toInt ≤ (n : Int) - 1) := by
  rw [Int32.le_iff_toInt_le, Int32.lt_iff_toInt_lt, nI_toInt hn]
  have : (0 : Int32).toInt = 0 := by decide
  omega
section MA
variable {d n : Nat} {x : jM} {Q : Option Value → jM → Prop} {hd sl : Nat → Nat}
theorem m_in0 {v lo hi : Int64} (h1 : lo ≤ v ∧ v ≤ hi → Q (some (.int (nI 1))) x) (h2 : ¬ (lo ≤ v ∧ v ≤ hi) → Q (some (.int (nI 0))) x) : jo (d + 1) 84 [.long v, .long lo, .long hi] x Q := by
  refine jo_i rfl rfl (Nat.le_of_ble_eq_true rfl) ?_
  iterate 3 refine jw_u rfl ?_
  refine jw_u rfl ⟨fun (c : lg_cmp v lo < 0) => ?_, fun (c : ¬ lg_cmp v lo < 0) => ?_⟩
  · rw [lg_cmp_lt] at c
    iterate 2 refine jw_u rfl ?_
    exact ⟨fun _ => Or.inl rfl, h2 (fun hc => lg_lt_not_le c hc.1)⟩
  · rw [lg_cmp_lt] at c
    iterate 3 refine jw_u rfl ?_
    refine jw_u rfl ⟨fun (c2 : 0 < lg_cmp v hi) => ?_, fun (c2 : ¬ 0 < lg_cmp v hi) => ?_⟩
    · rw [lg_cmp_gt] at c2
      iterate 2 refine jw_u rfl ?_
      exact ⟨fun _ => Or.inl rfl, h2 (fun hc => lg_lt_not_le c2 hc.2)⟩
    · rw [lg_cmp_gt] at c2
      iterate 3 refine jw_u rfl ?_
      exact ⟨fun _ => Or.inr rfl, h1 ⟨by simpa using c, by simpa using c2⟩⟩
theorem m_in {m : Int32} {lo hi : Int64} {a b : Int} (e1 : lo.toInt = a) (e2 : hi.toInt = b) (h1 : a ≤ m.toInt ∧ m.toInt ≤ b → Q (some (.int (nI 1))) x) (h2 : ¬ (a ≤ m.toInt ∧ m.toInt ≤ b) → Q (some (.int (nI 0))) x) : jo (d + 1) 84 [.long m.toInt64, .long lo, .long hi] x Q :=
  m_in0 (fun h => h1 ((in_iff e1 e2).mp h)) (fun h => h2 (fun h3 => h ((in_iff e1 e2).mpr h3)))
theorem m_isMark {p : Int32} (h1 : 0 ≤ p ∧ p < nI 1000 → Q (some (.int (nI 1))) x) (h2 : ¬ (0 ≤ p ∧ p < nI 1000) → Q (some (.int (nI 0))) x) : jo (d + 2) 88 [.int p] x Q := by
  rw [ri (by decide)] at h1 h2
  refine jo_i rfl rfl (Nat.le_of_ble_eq_true rfl) ?_
  iterate 5 refine jw_u rfl ?_
  refine m_in (a := 0) (b := 999) (by decide) (by decide) (fun h => ?_) (fun h => ?_)
  · refine jw_u rfl ?_
    exact ⟨fun _ => Or.inr rfl, h1 (by omega)⟩
  · refine jw_u rfl ?_
    exact ⟨fun _ => Or.inl rfl, h2 (by omega)⟩
theorem m_isPerson {p : Int32} (hn : x 121 5 = nI n) (h8 : n ≤ 8) (h1 : 0 ≤ p ∧ p < nI n → Q (some (.int (nI 1))) x) (h2 : ¬ (0 ≤ p ∧ p < nI n) → Q (some (.int (nI 0))) x) : jo (d + 2) 89 [.ref 121, .int p] x Q := by
  rw [ri (by omega)] at h1 h2
  refine jo_i rfl rfl (Nat.le_of_ble_eq_true rfl) ?_
  iterate 5 refine jw_u rfl ?_
  refine jtop hn ?_
  iterate 4 refine jw_u rfl ?_
  refine m_in (a := 0) (b := (n : Int) - 1) (by decide) (by rw [Int32.toInt_toInt64]; exact pk_sub_toInt (by omega) (by decide)) (fun h => ?_) (fun h => ?_)
  · refine jw_u rfl ?_
    exact ⟨fun _ => Or.inr rfl, h1 h⟩
  · refine jw_u rfl ?_
    exact ⟨fun _ => Or.inl rfl, h2 h⟩
theorem m_isPaper {p : Int32} (hn : x 122 1 = nI n) (h8 : n ≤ 8) (h1 : 0 ≤ p ∧ p < nI n → Q (some (.int (nI 1))) x) (h2 : ¬ (0 ≤ p ∧ p < nI n) → Q (some (.int (nI 0))) x) : jo (d + 2) 90 [.ref 121, .int p] x Q := by
  rw [ri (by omega)] at h1 h2
  refine jo_i rfl rfl (Nat.le_of_ble_eq_true rfl) ?_
  iterate 6 refine jw_u rfl ?_
  refine jw_u rfl (jaN (show 1 < 648 by decide) (by decide) hn ?_)
  iterate 4 refine jw_u rfl ?_
  refine m_in (a := 0) (b := (n : Int) - 1) (by decide) (by rw [Int32.toInt_toInt64]; exact pk_sub_toInt (by omega) (by decide)) (fun h => ?_) (fun h => ?_)
  · refine jw_u rfl ?_
    exact ⟨fun _ => Or.inr rfl, h1 h⟩
  · refine jw_u rfl ?_
    exact ⟨fun _ => Or.inl rfl, h2 h⟩
theorem m_isCandidate {p : Int32} (hn : x 121 8 = nI n) (h8 : n ≤ 4) (h1 : 0 ≤ p ∧ p < nI n → Q (some (.int (nI 1))) x) (h2 : ¬ (0 ≤ p ∧ p < nI n) → Q (some (.int (nI 0))) x) : jo (d + 2) 91 [.ref 121, .int p] x Q := by
  rw [ri (by omega)] at h1 h2
  refine jo_i rfl rfl (Nat.le_of_ble_eq_true rfl) ?_
  iterate 5 refine jw_u rfl ?_
  refine jtop hn ?_
  iterate 4 refine jw_u rfl ?_
  refine m_in (a := 0) (b := (n : Int) - 1) (by decide) (by rw [Int32.toInt_toInt64]; exact pk_sub_toInt (by omega) (by decide)) (fun h => ?_) (fun h => ?_)
  · refine jw_u rfl ?_
    exact ⟨fun _ => Or.inr rfl, h1 h⟩
  · refine jw_u rfl ?_
    exact ⟨fun _ => Or.inl rfl, h2 h⟩
theorem m_has {s p : Nat} (hs : s < 256) (hp : p < 8) (h1 : bt s p = 1 → Q (some (.int (nI 1))) x) (h2 : bt s p = 0 → Q (some (.int (nI 0))) x) : jo (d + 1) 85 [.int (nI s), .int (nI p)] x Q := by
  have b := bt_le s p
  refine jo_i rfl rfl (Nat.le_of_ble_eq_true rfl) ?_
  iterate 5 refine jw_u rfl ?_
  refine jtop (bit1 s hs p hp) ?_
  refine jw_u rfl ?_
  refine jw_u rfl ⟨fun (c : ¬ nI (bt s p) = nI 1) => ?_, fun (c : nI (bt s p) = nI 1) => ?_⟩
  · rw [nI_eq (by omega) (by decide)] at c
    iterate 2 refine jw_u rfl ?_
    exact ⟨fun _ => Or.inl rfl, h2 (by omega)⟩
  · rw [nI_eq (by omega) (by decide)] at c
    iterate 3 refine jw_u rfl ?_
    exact ⟨fun _ => Or.inr rfl, h1 c⟩
theorem m_ones {s : Nat} (hs : s < 256) (h : Q (some (.int (nI (pp s)))) x) : jo (d + 1) 86 [.int (nI s)] x Q := by
  have loop : ∀ i, i ≤ 8 → jw d kX7_ones Q 4 [some (.int (nI s)), some (.int (nI (cA (fun p => bt s p == 1) i))), some (.int (nI i))] [] x := by
    refine dn _ 8 ?_ (fun i hi ih => ?_)
    · iterate 2 refine jw_u rfl ?_
      refine jw_u rfl ⟨fun _ => ?_, fun (c' : ¬ nI 8 ≤ nI 8) => absurd (Int32.le_refl _) c'⟩
      iterate 2 refine jw_u rfl ?_
      exact ⟨fun h => (by cases h), h⟩
    · iterate 2 refine jw_u rfl ?_
      refine jw_u rfl ⟨fun (c' : nI 8 ≤ nI i) => absurd c' (nI_ge hi (by decide)), fun _ => ?_⟩
      iterate 6 refine jw_u rfl ?_
      refine jtop (bit1 s hs i hi) ?_
      refine jw_u rfl ?_
      refine jtop (v' := nI (cA (fun p => bt s p == 1) (i + 1))) ?_ ?_
      · rw [nI_add, cA]
        have b := bt_le s i
        rcases (show bt s i = 0 ∨ bt s i = 1 by omega) with e | e
        · simp [e]
        · simp [e]
      iterate 3 refine jw_u rfl ?_
      rw [nI_s i] at ih
      exact ih
  refine jo_i rfl rfl (Nat.le_of_ble_eq_true rfl) ?_
  iterate 4 refine jw_u rfl ?_
  exact loop 0 (Nat.zero_le _)
theorem m_copy {a b : Nat} (ha : a + 27 ≤ 648) (hb : b + 27 ≤ 648) (hd : a + 27 ≤ b ∨ b + 27 ≤ a) (h : ∀ x', (∀ i, i ≠ 122 → x' i = x i) → (∀ k, k < 27 → x' 122 (b + k) = x 122 (a + k)) → (∀ j, j < b ∨ b + 27 ≤ j → x' 122 j = x 122 j) → Q none x') : jo (d + 1) 87 [.ref 121, .int (nI a), .int (nI b)] x Q := by
  have loop : ∀ i, i ≤ 27 → ∀ y, (∀ i, i ≠ 122 → y i = x i) → (∀ k, k < i → y 122 (b + k) = x 122 (a + k)) → (∀ j, j < b ∨ b + i ≤ j → y 122 j = x 122 j) → jw d kX7_copy Q 2 [some (.ref 121), some (.int (nI a)), some (.int (nI b)), some (.int (nI i))] [] y := by
    refine dn _ 27 (fun y y1 y2 y3 => ?_) (fun i hi ih y y1 y2 y3 => ?_)
    · iterate 2 refine jw_u rfl ?_
      refine jw_u rfl ⟨fun _ => ?_, fun (c' : ¬ nI 27 ≤ nI 27) => absurd (Int32.le_refl _) c'⟩
      refine jw_u rfl ?_
      exact h y y1 y2 y3
    · iterate 2 refine jw_u rfl ?_
      refine jw_u rfl ⟨fun (c' : nI 27 ≤ nI i) => absurd c' (nI_ge hi (by decide)), fun _ => ?_⟩
      iterate 5 refine jw_u rfl ?_
      refine jtop (nI_add b i) ?_
      iterate 5 refine jw_u rfl ?_
      refine jtop (nI_add a i) ?_
      refine jw_u rfl (jaN (o := 122) (show a + i < 648 by omega) (by decide) (y3 (a + i) (by omega)) ?_)
      refine jw_u rfl (jsN (o := 122) (show b + i < 648 by omega) (by decide) ?_)
      iterate 2 refine jw_u rfl ?_
      have := ih (ju y 122 (b + i) (x 122 (a + i))) (fun k hk => by rw [ju_oo hk]; exact y1 k hk) (fun k hk => by
        by_cases e : k = i
        · subst e; exact ju_s _ _ _ _
        · rw [ju_k (by omega)]; exact y2 k (by omega)) (fun j hj => by rw [ju_k (by omega)]; exact y3 j (by omega))
      rw [nI_s i] at this
      exact this
  refine jo_i rfl rfl (Nat.le_of_ble_eq_true rfl) ?_
  iterate 2 refine jw_u rfl ?_
  exact loop 0 (Nat.zero_le _) x (fun _ _ => rfl) (fun k hk => absurd hk (Nat.not_lt_zero _)) (fun _ _ => rfl)
theorem m_partOf {a k : Nat} (ha : a < 1000) (hk : k < 3) (h : Q (some (.int (nI (dg a k)))) x) : jo (d + 1) 106 [.int (nI a), .int (nI k)] x Q := by
  refine jo_i rfl rfl (Nat.le_of_ble_eq_true rfl) ?_
  refine jw_u rfl ?_
  refine jw_u rfl ⟨fun (c : ¬ nI k = 0) => ?_, fun (c : nI k = 0) => ?_⟩
  · have k0 : ¬ k = 0 := fun e => c (by rw [e]; decide)
    iterate 2 refine jw_u rfl ?_
    refine jw_u rfl ⟨fun (c2 : ¬ nI k = nI 1) => ?_, fun (c2 : nI k = nI 1) => ?_⟩
    · have e : k = 2 := by
        have : ¬ k = 1 := fun e => c2 (by rw [e])
        omega
      subst e
      iterate 2 refine jw_u rfl ?_
      refine jw_u rfl ⟨by decide, ?_⟩
      refine jw_u rfl ?_
      exact ⟨fun h => (by cases h), jret (d3 ha) h⟩
    · have e : k = 1 := (nI_eq (by omega) (by decide)).mp c2
      subst e
      iterate 2 refine jw_u rfl ?_
      refine jw_u rfl ⟨by decide, ?_⟩
      refine jw_u rfl ?_
      refine jw_u rfl ⟨by decide, ?_⟩
      iterate 2 refine jw_u rfl ?_
      exact ⟨fun h => (by cases h), jret (d2 ha) h⟩
  · have e : k = 0 := (nI_eq (by omega) (by decide)).mp (c.trans n00.symm)
    subst e
    iterate 2 refine jw_u rfl ?_
    refine jw_u rfl ⟨by decide, ?_⟩
    iterate 2 refine jw_u rfl ?_
    exact ⟨fun h => (by cases h), jret (d1 ha) h⟩
theorem m_off {a b : Nat} (ha : a < 2 ^ 31) (hb : b < 2 ^ 31) (h : Q (some (.int (nI (ds a b)))) x) : jo (d + 1) 107 [.int (nI a), .int (nI b)] x Q := by
  unfold ds at h
  refine jo_i rfl rfl (Nat.le_of_ble_eq_true rfl) ?_
  iterate 2 refine jw_u rfl ?_
  refine jw_u rfl ⟨fun (c : nI b ≤ nI a) => ?_, fun (c : ¬ nI b ≤ nI a) => ?_⟩
  · rw [nI_leI hb ha] at c
    rw [if_neg (by omega)] at h
    iterate 4 refine jw_u rfl ?_
    exact ⟨fun h => (by cases h), jret (pk_sub c) h⟩
  · rw [nI_leI hb ha] at c
    rw [if_pos (by omega)] at h
    iterate 5 refine jw_u rfl ?_
    exact ⟨fun h => (by cases h), jret (pk_sub (by omega)) h⟩
def aps (a b : Nat) : Nat → Nat
  | 0 => 0
  | i + 1 => aps a b i + ds (dg a i) (dg b i)
theorem aps_3 (a b : Nat) : aps a b 3 = ap a b := by simp [aps, ap, dg]
theorem m_apart {a b : Nat} (ha : a < 1000) (hb : b < 1000) (h : Q (some (.int (nI (ap a b)))) x) : jo (d + 2) 108 [.int (nI a), .int (nI b)] x Q := by
  have loop : ∀ i, i ≤ 3 → jw (d + 1) kX7_apart Q 4 [some (.int (nI a)), some (.int (nI b)), some (.int (nI (aps a b i))), some (.int (nI i))] [] x := by
    refine dn _ 3 ?_ (fun i hi ih => ?_)
    · iterate 2 refine jw_u rfl ?_
      refine jw_u rfl ⟨fun _ => ?_, fun (c' : ¬ nI 3 ≤ nI 3) => absurd (Int32.le_refl _) c'⟩
      iterate 2 refine jw_u rfl ?_
      exact ⟨fun h => (by cases h), jret (by rw [aps_3]) h⟩
    · have g1 := dg_lt (k := i) ha
      have g2 := dg_lt (k := i) hb
      iterate 2 refine jw_u rfl ?_
      refine jw_u rfl ⟨fun (c' : nI 3 ≤ nI i) => absurd c' (nI_ge hi (by decide)), fun _ => ?_⟩
      iterate 4 refine jw_u rfl ?_
      refine m_partOf ha hi ?_
      iterate 3 refine jw_u rfl ?_
      refine m_partOf hb hi ?_
      refine jw_u rfl ?_
      refine m_off (by omega) (by omega) ?_
      refine jw_u rfl ?_
      refine jtop (nI_add _ _) ?_
      iterate 3 refine jw_u rfl ?_
      rw [nI_s i] at ih
      exact ih
  refine jo_i rfl rfl (Nat.le_of_ble_eq_true rfl) ?_
  iterate 4 refine jw_u rfl ?_
  exact loop 0 (Nat.zero_le _)
def nrs (a b t : Nat) : Nat → Bool
  | 0 => true
  | i + 1 => nrs a b t i && decide (ds (dg a i) (dg b i) ≤ t)
theorem nrs_3 (a b t : Nat) : nrs a b t 3 = nr a b t := by simp [nrs, nr, dg, Bool.and_assoc]
def nB (b : Bool) : Int32 := if b = true then nI 1 else nI 0
theorem m_isNear {a b t : Nat} (ha : a < 1000) (hb : b < 1000) (ht : t < 100) (h1 : nr a b t = true → Q (some (.int (nI 1))) x) (h2 : nr a b t = false → Q (some (.int (nI 0))) x) : jo (d + 2) 109 [.int (nI a), .int (nI b), .int (nI t)] x Q := by
  have loop : ∀ i, i ≤ 3 → jw (d + 1) kX7_isNear Q 4 [some (.int (nI a)), some (.int (nI b)), some (.int (nI t)), some (.int (nB (nrs a b t i))), some (.int (nI i))] [] x := by
    refine dn _ 3 ?_ (fun i hi ih => ?_)
    · iterate 2 refine jw_u rfl ?_
      refine jw_u rfl ⟨fun _ => ?_, fun (c' : ¬ nI 3 ≤ nI 3) => absurd (Int32.le_refl _) c'⟩
      iterate 2 refine jw_u rfl ?_
      rw [nrs_3]
      cases hn : nr a b t with
      | true => exact ⟨fun _ => Or.inr rfl, h1 hn⟩
      | false => exact ⟨fun _ => Or.inl rfl, h2 hn⟩
    · have g1 := dg_lt (k := i) ha
      have g2 := dg_lt (k := i) hb
      have g3 : ds (dg a i) (dg b i) < 100 := by unfold ds; split <;> omega
      rw [nI_s i, nrs] at ih
      iterate 2 refine jw_u rfl ?_
      refine jw_u rfl ⟨fun (c' : nI 3 ≤ nI i) => absurd c' (nI_ge hi (by decide)), fun _ => ?_⟩
      refine jw_u rfl ?_
      cases hn : nrs a b t i with
      | false =>
        rw [hn] at ih
        refine jw_u rfl ⟨fun _ => ?_, fun c => absurd n00 c⟩
        iterate 4 refine jw_u rfl ?_
        exact ih
      | true =>
        rw [hn, Bool.true_and] at ih
        refine jw_u rfl ⟨fun c => absurd c n10, fun _ => ?_⟩
        iterate 3 refine jw_u rfl ?_
        refine m_partOf ha hi ?_
        iterate 3 refine jw_u rfl ?_
        refine m_partOf hb hi ?_
        refine jw_u rfl ?_
        refine m_off (by omega) (by omega) ?_
        refine jw_u rfl ?_
        refine jw_u rfl ⟨fun (c : nI t < nI (ds (dg a i) (dg b i))) => ?_, fun (c : ¬ nI t < nI (ds (dg a i) (dg b i))) => ?_⟩
        · rw [nI_ltI (by omega) (by omega)] at c
          rw [decide_eq_false (by omega)] at ih
          iterate 4 refine jw_u rfl ?_
          exact ih
        · rw [nI_ltI (by omega) (by omega)] at c
          rw [decide_eq_true (by omega)] at ih
          iterate 5 refine jw_u rfl ?_
          exact ih
  refine jo_i rfl rfl (Nat.le_of_ble_eq_true rfl) ?_
  iterate 4 refine jw_u rfl ?_
  exact loop 0 (Nat.zero_le _)
theorem m_passesFor {a j : Nat} (h8 : n ≤ 8) (hh : ∀ k, k < n → x 122 (2 + k) = nI (hd k)) (hs : ∀ k, k < n → x 124 k = nI (sl k)) (bh : ∀ k, k < n → hd k < 1000) (bs : ∀ k, k < n → sl k ≤ 3) (ha : a < 1000) (hj : j < n) (h1 : nr a (hd j) (sl j) = true → Q (some (.int (nI 1))) x) (h2 : nr a (hd j) (sl j) = false → Q (some (.int (nI 0))) x) : jo (d + 3) 110 [.ref 121, .int (nI a), .int (nI j)] x Q := by
  have b1 := bs j hj
  refine jo_i rfl rfl (Nat.le_of_ble_eq_true rfl) ?_
  iterate 6 refine jw_u rfl ?_
  refine jtop (nI_add 2 j) ?_
  refine jw_u rfl (jaN (o := 122) (show 2 + j < 648 by omega) (by decide) (hh j hj) ?_)
  iterate 3 refine jw_u rfl ?_
  refine jw_u rfl (jaN (o := 124) (show j < 8 by omega) (by decide) (hs j hj) ?_)
  refine jw_u rfl ?_
  refine m_isNear ha (bh j hj) (by omega) (fun hw => ?_) (fun hw => ?_)
  · refine jw_u rfl ?_
    exact ⟨fun _ => Or.inr rfl, h1 hw⟩
  · refine jw_u rfl ?_
    exact ⟨fun _ => Or.inl rfl, h2 hw⟩
end MA
