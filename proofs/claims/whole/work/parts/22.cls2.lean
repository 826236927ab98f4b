/-! THE CLASS: choices, who is nearest, told apart, counts, years -/
theorem am_no {f : Nat → Nat} {ok : Nat → Bool} {i : Nat} (h : ok i = false ∨ ∃ b, am f ok i = some b ∧ f b ≤ f i) : am f ok (i + 1) = am f ok i := by
  rw [am]
  rcases h with h | ⟨b, h1, h2⟩
  · split
    · next hn => rw [if_neg (by rw [h]; decide), hn]
    · next b hb => rw [if_neg (fun hc => by rw [h] at hc; exact absurd hc.1 (by decide)), hb]
  · rw [h1]
    dsimp only
    rw [if_neg (fun hc => absurd hc.2 (Nat.not_lt.mpr h2))]
theorem am_yes {f : Nat → Nat} {ok : Nat → Bool} {i : Nat} (h1 : ok i = true) (h : am f ok i = none ∨ ∃ b, am f ok i = some b ∧ f i < f b) : am f ok (i + 1) = some i := by
  rw [am]
  rcases h with h | ⟨b, h2, h3⟩
  · rw [h]
    dsimp only
    rw [if_pos h1]
  · rw [h2]
    dsimp only
    rw [if_pos ⟨h1, h3⟩]
theorem oF_le {f : Nat → Nat} {z y : Nat} {o : Option Nat} (hz : y < z) (h : oF f z o ≤ y) : ∃ b, o = some b ∧ f b ≤ y := by
  cases o with
  | none => exact absurd h (Nat.not_le.mpr hz)
  | some b => exact ⟨b, rfl, h⟩
theorem oF_gt {f : Nat → Nat} {z y : Nat} {o : Option Nat} (h : y < oF f z o) : o = none ∨ ∃ b, o = some b ∧ y < f b := by
  cases o with
  | none => exact Or.inl rfl
  | some b => exact Or.inr ⟨b, rfl, h⟩
theorem oF_lt {f : Nat → Nat} {ok : Nat → Bool} {i n : Nat} (hi : i ≤ n) (hf : ∀ k, k < n → f k ≤ 27) : oF f 100 (am f ok i) ≤ 100 := by
  cases h : am f ok i with
  | none => exact Nat.le_refl _
  | some b =>
    have := hf b (Nat.lt_of_lt_of_le (am_lt h) hi)
    show f b ≤ 100
    omega
section CQ2
variable {d n : Nat} {x : jM} {Q : Option Value → jM → Prop} {hd sl sq : Nat → Nat}
theorem c_choice {a c : Nat} (hc : x 11 5 = nI c) (h4 : c ≤ 4) (hq : ∀ k, k < c → x 14 k = nI (sq k)) (bq : ∀ k, k < c → sq k < 1000) (ha : a < 1000) (h : Q (some (.int (oI (am (fun k => ap a (sq k)) (fun _ => true) c)))) x) : jo (d + 2) 78 [.ref 0, .int (nI a)] x Q := by
  have bf : ∀ k, k < c → ap a (sq k) ≤ 27 := fun k hk => ap_lt ha (bq k hk)
  have loop : ∀ i, i ≤ c → ∀ g, jw (d + 1) kX6_choice Q 6 [some (.ref 0), some (.int (nI a)), some (.int (oI (am (fun k => ap a (sq k)) (fun _ => true) i))), some (.int (nI (oF (fun k => ap a (sq k)) 100 (am (fun k => ap a (sq k)) (fun _ => true) i)))), some (.int (nI i)), g] [] x := by
    refine dn _ c (fun g => ?_) (fun i hi ih g => ?_)
    · iterate 4 refine jw_u rfl ?_
      refine jw_u rfl ⟨fun _ => ?_, fun (c' : ¬ x 11 5 ≤ nI c) => absurd (by rw [hc]; exact Int32.le_refl _) c'⟩
      iterate 2 refine jw_u rfl ?_
      exact ⟨fun h => (by cases h), h⟩
    · have b1 := oF_lt (f := fun k => ap a (sq k)) (ok := fun _ => true) (Nat.le_of_lt hi) bf
      have b2 := bf i hi
      iterate 4 refine jw_u rfl ?_
      refine jw_u rfl ⟨fun (c' : x 11 5 ≤ nI i) => absurd c' (by rw [hc]; exact nI_ge hi (by omega)), fun _ => ?_⟩
      iterate 5 refine jw_u rfl ?_
      refine jw_u rfl (jaN (show i < 4 by omega) (by decide) (hq i hi) ?_)
      refine jw_u rfl ?_
      refine c_apart ha (bq i hi) ?_
      iterate 3 refine jw_u rfl ?_
      refine jw_u rfl ⟨fun (c' : nI (oF _ 100 _) ≤ nI (ap a (sq i))) => ?_, fun (c' : ¬ nI (oF _ 100 _) ≤ nI (ap a (sq i))) => ?_⟩
      · rw [nI_leI (by omega) (by omega)] at c'
        have e := am_no (f := fun k => ap a (sq k)) (ok := fun _ => true) (i := i) (Or.inr (oF_le (by omega) c'))
        have ih := ih (some (.int (nI (ap a (sq i)))))
        rw [e, nI_s i] at ih
        iterate 2 refine jw_u rfl ?_
        exact ih
      · rw [nI_leI (by omega) (by omega)] at c'
        have e := am_yes (f := fun k => ap a (sq k)) (ok := fun _ => true) (i := i) rfl (oF_gt (Nat.not_le.mp c'))
        have ih := ih (some (.int (nI (ap a (sq i)))))
        rw [e, nI_s i] at ih
        iterate 6 refine jw_u rfl ?_
        exact ih
  refine jo_i rfl rfl (Nat.le_of_ble_eq_true rfl) ?_
  iterate 6 refine jw_u rfl ?_
  exact loop 0 (Nat.zero_le _) none
theorem c_nearestTo {p : Nat} (hn : x 11 2 = nI n) (h8 : n ≤ 8) (hh : ∀ k, k < n → x 16 k = nI (hd k)) (bh : ∀ k, k < n → hd k < 1000) (hp : p < n) (h : Q (some (.int (oI (am (fun k => ap (hd p) (hd k)) (fun k => k != p) n)))) x) : jo (d + 2) 75 [.ref 0, .int (nI p)] x Q := by
  have bf : ∀ k, k < n → ap (hd p) (hd k) ≤ 27 := fun k hk => ap_lt (bh p hp) (bh k hk)
  have loop : ∀ i, i ≤ n → ∀ g, jw (d + 1) kX6_nearestTo Q 6 [some (.ref 0), some (.int (nI p)), some (.int (oI (am (fun k => ap (hd p) (hd k)) (fun k => k != p) i))), some (.int (nI (oF (fun k => ap (hd p) (hd k)) 100 (am (fun k => ap (hd p) (hd k)) (fun k => k != p) i)))), some (.int (nI i)), g] [] x := by
    refine dn _ n (fun g => ?_) (fun i hi ih g => ?_)
    · iterate 4 refine jw_u rfl ?_
      refine jw_u rfl ⟨fun _ => ?_, fun (c' : ¬ x 11 2 ≤ nI n) => absurd (by rw [hn]; exact Int32.le_refl _) c'⟩
      iterate 2 refine jw_u rfl ?_
      exact ⟨fun h => (by cases h), h⟩
    · have b1 := oF_lt (f := fun k => ap (hd p) (hd k)) (ok := fun k => k != p) (Nat.le_of_lt hi) bf
      have b2 := bf i hi
      have ih := ih (some (.int (nI (ap (hd p) (hd i)))))
      iterate 4 refine jw_u rfl ?_
      refine jw_u rfl ⟨fun (c' : x 11 2 ≤ nI i) => absurd c' (by rw [hn]; exact nI_ge hi (by omega)), fun _ => ?_⟩
      iterate 4 refine jw_u rfl ?_
      refine jw_u rfl (jaN (show p < 8 by omega) (by decide) (hh p hp) ?_)
      iterate 4 refine jw_u rfl ?_
      refine jw_u rfl (jaN (show i < 8 by omega) (by decide) (hh i hi) ?_)
      refine jw_u rfl ?_
      refine c_apart (bh p hp) (bh i hi) ?_
      iterate 3 refine jw_u rfl ?_
      refine jw_u rfl ⟨fun (c' : nI i = nI p) => ?_, fun (c' : ¬ nI i = nI p) => ?_⟩
      · rw [nI_eq (by omega) (by omega)] at c'
        have e := am_no (f := fun k => ap (hd p) (hd k)) (ok := fun k => k != p) (i := i) (Or.inl (by simp [c']))
        rw [e, nI_s i] at ih
        iterate 2 refine jw_u rfl ?_
        exact ih
      rw [nI_eq (by omega) (by omega)] at c'
      iterate 2 refine jw_u rfl ?_
      refine jw_u rfl ⟨fun (c2 : nI (oF _ 100 _) ≤ nI (ap (hd p) (hd i))) => ?_, fun (c2 : ¬ nI (oF _ 100 _) ≤ nI (ap (hd p) (hd i))) => ?_⟩
      · rw [nI_leI (by omega) (by omega)] at c2
        have e := am_no (f := fun k => ap (hd p) (hd k)) (ok := fun k => k != p) (i := i) (Or.inr (oF_le (by omega) c2))
        rw [e, nI_s i] at ih
        iterate 2 refine jw_u rfl ?_
        exact ih
      · rw [nI_leI (by omega) (by omega)] at c2
        have e := am_yes (f := fun k => ap (hd p) (hd k)) (ok := fun k => k != p) (i := i) (by simp [c']) (oF_gt (Nat.not_le.mp c2))
        rw [e, nI_s i] at ih
        iterate 6 refine jw_u rfl ?_
        exact ih
  refine jo_i rfl rfl (Nat.le_of_ble_eq_true rfl) ?_
  iterate 6 refine jw_u rfl ?_
  exact loop 0 (Nat.zero_le _) none
theorem c_toldApart {o p q : Nat} (ho : o = 15 ∨ o = 19) (h8 : n ≤ 8) (hh : ∀ k, k < n → x (o + 1) k = nI (hd k)) (hs : ∀ k, k < n → x 12 k = nI (sl k)) (bh : ∀ k, k < n → hd k < 1000) (bs : ∀ k, k < n → sl k ≤ 3) (hp : p < n) (hq : q < n) (h1 : nr (hd p) (hd q) (sl p + sl q) = false → Q (some (.int (nI 1))) x) (h2 : nr (hd p) (hd q) (sl p + sl q) = true → Q (some (.int (nI 0))) x) : jo (d + 2) 73 [.ref 0, .ref o, .int (nI p), .int (nI q)] x Q := by
  have b1 := bs p hp
  have b2 := bs q hq
  refine jo_i rfl rfl (Nat.le_of_ble_eq_true rfl) ?_
  rcases ho with rfl | rfl <;>
  · iterate 3 refine jw_u rfl ?_
    refine jw_u rfl (jaN (show p < 8 by omega) (by decide) (hh p hp) ?_)
    iterate 3 refine jw_u rfl ?_
    refine jw_u rfl (jaN (show q < 8 by omega) (by decide) (hh q hq) ?_)
    iterate 4 refine jw_u rfl ?_
    refine jw_u rfl (jaN (show p < 8 by omega) (by decide) (hs p hp) ?_)
    iterate 4 refine jw_u rfl ?_
    refine jw_u rfl (jaN (show q < 8 by omega) (by decide) (hs q hq) ?_)
    refine jw_u rfl ?_
    refine jtop (nI_add _ _) ?_
    refine jw_u rfl ?_
    refine c_within (bh p hp) (bh q hq) (by omega) (fun hw => ?_) (fun hw => ?_)
    · refine jw_u rfl ⟨fun _ => ?_, fun c => absurd c n10⟩
      iterate 2 refine jw_u rfl ?_
      exact ⟨fun _ => Or.inl rfl, h2 hw⟩
    · refine jw_u rfl ⟨fun c => absurd n00 c, fun _ => ?_⟩
      iterate 3 refine jw_u rfl ?_
      exact ⟨fun _ => Or.inr rfl, h1 hw⟩
end CQ2
