/-! THE CLASS: how many marks pass, weights, years, draws -/
theorem mn_nI {a b : Nat} (ha : a < 2 ^ 31) (hb : b < 2 ^ 31) : (if nI b < nI a then nI b else nI a) = nI (min a b) := by
  by_cases h : b < a
  · rw [if_pos (nI_lt h ha), Nat.min_eq_right (Nat.le_of_lt h)]
  · rw [if_neg (nI_nlt (by omega) hb), Nat.min_eq_left (by omega)]
theorem mx_nI {a b : Nat} (ha : a < 2 ^ 31) (hb : b < 2 ^ 31) : (if nI a < nI b then nI b else nI a) = nI (max a b) := by
  by_cases h : a < b
  · rw [if_pos (nI_lt h hb), Nat.max_eq_right (Nat.le_of_lt h)]
  · rw [if_neg (nI_nlt (by omega) ha), Nat.max_eq_left (by omega)]
theorem mx_sub {a b c : Nat} (ha : a < 2 ^ 30) (hb : b < 2 ^ 30) (hc : c < 2 ^ 30) : (if nI a - nI b < nI c then nI c else nI a - nI b) = nI (max (a - b) c) := by
  by_cases h : a < b
  · have h1 := pk_sneg hb h
    have h2 : nI a - nI b < nI c := by
      rw [Int32.lt_iff_toInt_lt] at h1 ⊢
      rw [nI_toInt (by omega)]
      have : (0 : Int32).toInt = 0 := by decide
      omega
    rw [if_pos h2, show a - b = 0 by omega, Nat.max_eq_right (Nat.zero_le _)]
  · rw [pk_sub (by omega), mx_nI (by omega) (by omega)]
/-- how many marks pass, part by part -/
def pcn (a s : Nat) : Nat → Nat
  | 0 => 1
  | k + 1 => pcn a s k * (min (dg a k + s) 9 - max (dg a k - s) 0 + 1)
theorem pcn_1 (a s : Nat) : ∀ k, 1 ≤ pcn a s k
  | 0 => Nat.le_refl _
  | k + 1 => Nat.mul_pos (pcn_1 a s k) (Nat.succ_pos _)
theorem pcn_le {a s : Nat} : ∀ k, pcn a s k ≤ 10 ^ k
  | 0 => Nat.le_refl _
  | k + 1 => by
    rw [pcn, Nat.pow_succ]
    exact Nat.mul_le_mul (pcn_le k) (by omega)
theorem pcn_3 {a s k : Nat} (hk : k ≤ 3) : pcn a s k ≤ 1000 := Nat.le_trans (pcn_le k) (Nat.le_trans (Nat.pow_le_pow_right (by decide) hk) (by decide))
/-- a year's mark -/
def ag (a r g od : Nat) : Nat := 100 * (if a / 100 < g / 100 then min (a / 100 + r) (g / 100) else max (a / 100 - r) (g / 100)) + 10 * (a / 10 % 10) + (if od = 1 then a % 10 - 1 else a % 10)
theorem ag_lt {a r g od : Nat} (ha : a < 1000) (hg : g < 1000) : ag a r g od < 1000 := by
  unfold ag
  have h1 : a / 100 ≤ 9 := by omega
  have h2 : g / 100 ≤ 9 := by omega
  have h3 : a / 10 % 10 ≤ 9 := by omega
  have h4 : a % 10 ≤ 9 := by omega
  generalize a / 100 = u1 at *
  generalize g / 100 = u2 at *
  generalize a / 10 % 10 = u3 at *
  generalize a % 10 = u4 at *
  split <;> split <;> omega
section CQ3
variable {d n : Nat} {x : jM} {Q : Option Value → jM → Prop} {hd sl dr : Nat → Nat}
theorem c_passCount {p : Nat} (h8 : n ≤ 8) (hh : ∀ k, k < n → x 16 k = nI (hd k)) (hs : ∀ k, k < n → x 12 k = nI (sl k)) (bh : ∀ k, k < n → hd k < 1000) (bs : ∀ k, k < n → sl k ≤ 3) (hp : p < n) (h : Q (some (.int (nI (pcn (hd p) (sl p) 3)))) x) : jo (d + 2) 71 [.ref 0, .int (nI p)] x Q := by
  have b1 := bs p hp
  have loop : ∀ i, i ≤ 3 → ∀ g, jw (d + 1) kX6_passCount Q 10 [some (.ref 0), some (.int (nI p)), some (.int (nI (sl p))), some (.int (nI (pcn (hd p) (sl p) i))), some (.int (nI i)), g] [] x := by
    refine dn _ 3 (fun g => ?_) (fun i hi ih g => ?_)
    · iterate 2 refine jw_u rfl ?_
      refine jw_u rfl ⟨fun _ => ?_, fun (c' : ¬ nI 3 ≤ nI 3) => absurd (Int32.le_refl _) c'⟩
      iterate 2 refine jw_u rfl ?_
      exact ⟨fun h => (by cases h), h⟩
    · have b2 : dg (hd p) i < 10 := dg_lt (bh p hp)
      have ih := ih (some (.int (nI (dg (hd p) i))))
      iterate 2 refine jw_u rfl ?_
      refine jw_u rfl ⟨fun (c' : nI 3 ≤ nI i) => absurd c' (nI_ge hi (by omega)), fun _ => ?_⟩
      iterate 4 refine jw_u rfl ?_
      refine jw_u rfl (jaN (show p < 8 by omega) (by decide) (hh p hp) ?_)
      iterate 2 refine jw_u rfl ?_
      refine c_part (bh p hp) hi ?_
      iterate 5 refine jw_u rfl ?_
      refine jtop (nI_add _ _) ?_
      iterate 2 refine jw_u rfl ?_
      refine jtop (mn_nI (b := 9) (by omega) (by omega)) ?_
      iterate 5 refine jw_u rfl ?_
      refine jtop (mx_sub (c := 0) (by omega) (by omega) (by omega)) ?_
      iterate 4 refine jw_u rfl ?_
      refine jtop (v' := nI (pcn (hd p) (sl p) (i + 1))) ?_ ?_
      · show nI _ * (nI _ - nI _ + nI 1) = _
        rw [pk_sub (by omega), nI_add, pk_mul]
        rfl
      rw [nI_s i] at ih
      iterate 3 refine jw_u rfl ?_
      exact ih
  refine jo_i rfl rfl (Nat.le_of_ble_eq_true rfl) ?_
  iterate 4 refine jw_u rfl ?_
  refine jw_u rfl (jaN (show p < 8 by omega) (by decide) (hs p hp) ?_)
  iterate 5 refine jw_u rfl ?_
  exact loop 0 (Nat.zero_le _) none
theorem c_weight {p : Nat} (h8 : n ≤ 8) (hh : ∀ k, k < n → x 16 k = nI (hd k)) (hs : ∀ k, k < n → x 12 k = nI (sl k)) (bh : ∀ k, k < n → hd k < 1000) (bs : ∀ k, k < n → sl k ≤ 3) (hp : p < n) (h : Q (some (.int (nI (1000000 / pcn (hd p) (sl p) 3)))) x) : jo (d + 3) 72 [.ref 0, .int (nI p)] x Q := by
  have b1 := pcn_1 (hd p) (sl p) 3
  have b2 := pcn_3 (a := hd p) (s := sl p) (Nat.le_refl 3)
  refine jo_i rfl rfl (Nat.le_of_ble_eq_true rfl) ?_
  iterate 3 refine jw_u rfl ?_
  refine c_passCount h8 hh hs bh bs hp ?_
  iterate 2 refine jw_u rfl ?_
  refine jw_u rfl ⟨fun _ => ?_, fun (c' : ¬ (0 : Int32) < nI _) => absurd (nI_lt (a := 0) (by omega) (by omega)) c'⟩
  iterate 2 refine jw_u rfl ?_
  refine jw_u rfl ⟨nI_ne0 (by omega) (by omega), ?_⟩
  refine jw_u rfl ?_
  exact ⟨fun h => (by cases h), jret (pk_div (a := 1000000) (by decide) (by omega) (by omega)) h⟩
theorem c_aged {a r g od : Nat} (hg : x 11 1 = nI g) (bg : g < 1000) (ha : a < 1000) (hr : r ≤ 2) (ho : od ≤ 1) (h : Q (some (.int (nI (ag a r g od)))) x) : jo (d + 2) 81 [.ref 0, .int (nI a), .int (nI r), .int (nI od)] x Q := by
  refine jo_i rfl rfl (Nat.le_of_ble_eq_true rfl) ?_
  iterate 3 refine jw_u rfl ?_
  refine c_part ha (by decide) ?_
  iterate 4 refine jw_u rfl ?_
  refine jtop hg ?_
  iterate 2 refine jw_u rfl ?_
  refine c_part bg (by decide) ?_
  iterate 3 refine jw_u rfl ?_
  have e0 : dg a 0 = a / 100 := rfl
  have e1' : dg g 0 = g / 100 := rfl
  have e2' : dg a 2 = a % 10 := rfl
  have e3' : dg a 1 = a / 10 % 10 := rfl
  rw [e0, e1']
  have b1 : a / 100 < 10 := by omega
  have b2 : g / 100 < 10 := by omega
  have fin : ∀ le : Nat, le < 100 → (le = if a / 100 < g / 100 then min (a / 100 + r) (g / 100) else max (a / 100 - r) (g / 100)) → jw (d + 1) kX6_aged Q 24 [some (.ref 0), some (.int (nI a)), some (.int (nI r)), some (.int (nI od)), some (.int (nI (a / 100))), some (.int (nI (g / 100))), none] [.int (nI le)] x := by
    intro le bl hle
    have fin2 : ∀ pr : Nat, (pr = if od = 1 then a % 10 - 1 else a % 10) → jw (d + 1) kX6_aged Q 37 [some (.ref 0), some (.int (nI a)), some (.int (nI r)), some (.int (nI od)), some (.int (nI le)), some (.int (nI (g / 100))), some (.int (nI pr))] [] x := by
      intro pr hpr
      iterate 6 refine jw_u rfl ?_
      refine jw_u rfl ?_
      refine c_part ha (by decide) ?_
      iterate 5 refine jw_u rfl ?_
      refine ⟨fun h => (by cases h), jret ?_ h⟩
      show nI 100 * nI le + nI 10 * nI (dg a 1) + nI pr = _
      rw [pk_mul, pk_mul, nI_add, nI_add, e3', hle, hpr]
      rfl
    iterate 3 refine jw_u rfl ?_
    refine jw_u rfl ?_
    refine c_part ha (by decide) ?_
    rw [e2']
    iterate 2 refine jw_u rfl ?_
    refine jw_u rfl ⟨fun (c : nI od = 0) => ?_, fun (c : ¬ nI od = 0) => ?_⟩
    · refine fin2 (a % 10) ?_
      have : ¬ od = 1 := by
        intro e
        rw [e] at c
        exact n10 c
      rw [if_neg this]
    · have e : od = 1 := by
        rcases (show od = 0 ∨ od = 1 by omega) with e | e
        · rw [e] at c
          exact absurd n00 c
        · exact e
      iterate 5 refine jw_u rfl ?_
      refine jtop (mx_sub (a := a % 10) (b := 1) (c := 0) (by omega) (by decide) (by decide)) ?_
      refine jw_u rfl ?_
      refine fin2 (max (a % 10 - 1) 0) ?_
      rw [if_pos e, Nat.max_eq_left (Nat.zero_le _)]
  refine jw_u rfl ⟨fun (c : nI (g / 100) ≤ nI (a / 100)) => ?_, fun (c : ¬ nI (g / 100) ≤ nI (a / 100)) => ?_⟩
  · rw [nI_leI (by omega) (by omega)] at c
    iterate 5 refine jw_u rfl ?_
    refine jtop (mx_sub (by omega) (by omega) (by omega)) ?_
    exact fin _ (by omega) (by rw [if_neg (by omega)])
  · rw [nI_leI (by omega) (by omega)] at c
    iterate 3 refine jw_u rfl ?_
    refine jtop (nI_add _ _) ?_
    iterate 2 refine jw_u rfl ?_
    refine jtop (mn_nI (by omega) (by omega)) ?_
    refine jw_u rfl ?_
    exact fin _ (by omega) (by rw [if_pos (by omega)])
end CQ3
