/-! PURE: numbers, loops, loads -/
theorem dn (P : Nat → Prop) (n : Nat) (h0 : P n) (hs : ∀ i, i < n → P (i + 1) → P i) : ∀ i, i ≤ n → P i := by
  intro i hi
  obtain ⟨k, rfl⟩ : ∃ k, n = i + k := ⟨n - i, by omega⟩
  clear hi
  induction k generalizing i with
  | zero => exact h0
  | succ k ih => exact hs i (by omega) (ih (i + 1) (by rw [show i + 1 + k = i + (k + 1) by omega]; exact h0) (fun j hj => hs j (by omega)))
section LD
variable {d k : Nat} {code : List jI} {Q : Option Value → jM → Prop} {L : List (Option Value)} {r : List Value} {x : jM}
/-- a load from a row of numbers at a known place -/
theorem jaN {o j n : Nat} {v : Int32} (hj : j < n) (hs : n < 2 ^ 31) (e : x o j = v) (h : jw d code Q k L (.int v :: r) x) : vp_in (nI j) n ∧ jw d code Q k L (.int (x o (nI j).toNatClampNeg) :: r) x := by
  refine ⟨vp_in_nI hj hs, ?_⟩
  rw [nI_clamp (by omega), e]
  exact h
/-- a store into a row of numbers at a known place -/
theorem jsN {o j n : Nat} {v : Int32} (hj : j < n) (hs : n < 2 ^ 31) (h : jw d code Q k L r (ju x o j v)) : vp_in (nI j) n ∧ jw d code Q k L r (ju x o (nI j).toNatClampNeg v) := by
  refine ⟨vp_in_nI hj hs, ?_⟩
  rw [nI_clamp (by omega)]
  exact h
/-- another form of the number on top -/
theorem jtop {v v' : Int32} (e : v = v') (h : jw d code Q k L (.int v' :: r) x) : jw d code Q k L (.int v :: r) x := e ▸ h
theorem jtopL {v v' : Int64} (e : v = v') (h : jw d code Q k L (.long v' :: r) x) : jw d code Q k L (.long v :: r) x := e ▸ h
end LD
theorem jret {Q : Option Value → jM → Prop} {x : jM} {v v' : Int32} (e : v = v') (h : Q (some (.int v')) x) : Q (some (.int v)) x := e ▸ h
theorem ju_s (x : jM) (o k : Nat) (v : Int32) : ju x o k v o k = v := by simp [ju, jua, upd]
theorem ju_k {x : jM} {o k k' : Nat} {v : Int32} (h : k' ≠ k) : ju x o k v o k' = x o k' := by simp [ju, jua, upd, h]
theorem ju_o {x : jM} {o o' k k' : Nat} {v : Int32} (h : o' ≠ o) : ju x o k v o' k' = x o' k' := by simp [ju, jua, h]
theorem jua_s (x : jM) (o : Nat) (f : Nat → Int32) : jua x o f o = f := by simp [jua]
theorem jua_o {x : jM} {o o' : Nat} {f : Nat → Int32} (h : o' ≠ o) : jua x o f o' = x o' := by simp [jua, h]
/-- how far apart two numbers are -/
def ds (a b : Nat) : Nat := if a < b then b - a else a - b
theorem ab_nI {u v : Nat} (hu : u < 2 ^ 30) (hv : v < 2 ^ 30) : (if 0 ≤ nI u - nI v then nI u - nI v else 0 - (nI u - nI v)) = nI (ds u v) := by
  unfold ds
  by_cases h : u < v
  · have h1 := pk_sneg hv h
    rw [if_neg (by rw [Int32.not_le]; exact h1), if_pos h, Int32.zero_sub, Int32.neg_sub, pk_sub (by omega)]
  · rw [if_neg h, pk_sub (by omega), if_pos (nI_pos' (by omega))]
def ap (a b : Nat) : Nat := ds (a / 100) (b / 100) + ds (a / 10 % 10) (b / 10 % 10) + ds (a % 10) (b % 10)
theorem ap_lt {a b : Nat} (ha : a < 1000) (hb : b < 1000) : ap a b ≤ 27 := by
  unfold ap ds
  have h1 : a / 100 < 10 := by omega
  have h2 : b / 100 < 10 := by omega
  have h3 : a / 10 % 10 < 10 := by omega
  have h4 : b / 10 % 10 < 10 := by omega
  have h5 : a % 10 < 10 := by omega
  have h6 : b % 10 < 10 := by omega
  generalize a / 100 = u1 at *
  generalize b / 100 = u2 at *
  generalize a / 10 % 10 = u3 at *
  generalize b / 10 % 10 = u4 at *
  generalize a % 10 = u5 at *
  generalize b % 10 = u6 at *
  split <;> split <;> split <;> omega
/-- no part further than t -/
def nr (a b t : Nat) : Bool := decide (ds (a / 100) (b / 100) ≤ t) && (decide (ds (a / 10 % 10) (b / 10 % 10) ≤ t) && decide (ds (a % 10) (b % 10) ≤ t))
/-- the part k of a mark -/
def dg (a k : Nat) : Nat := if k = 0 then a / 100 else if k = 1 then a / 10 % 10 else a % 10
theorem dg_lt {a k : Nat} (ha : a < 1000) : dg a k < 10 := by
  unfold dg
  split
  · omega
  · split <;> omega
/-- a set out of a test, the first i of it -/
def sb (P : Nat → Bool) : Nat → Int32
  | 0 => nI 0
  | i + 1 => if P i = true then sb P i ||| (nI 1 <<< (nI i &&& 31)) else sb P i
/-- the least by f of those that are ok, the first of like ones -/
def am (f : Nat → Nat) (ok : Nat → Bool) : Nat → Option Nat
  | 0 => none
  | i + 1 => match am f ok i with
    | none => if ok i = true then some i else none
    | some b => if ok i = true ∧ f i < f b then some i else some b
def oI (o : Option Nat) : Int32 := match o with
  | none => -1
  | some b => nI b
def oF (f : Nat → Nat) (z : Nat) (o : Option Nat) : Nat := match o with
  | none => z
  | some b => f b
theorem am_lt {f : Nat → Nat} {ok : Nat → Bool} : ∀ {n b : Nat}, am f ok n = some b → b < n
  | 0, b, h => by cases h
  | n + 1, b, h => by
    unfold am at h
    split at h
    · split at h
      · cases h; exact Nat.lt_succ_self _
      · cases h
    · next c hc =>
      split at h
      · cases h; exact Nat.lt_succ_self _
      · cases h; exact Nat.lt_succ_of_lt (am_lt hc)
theorem d1 {a : Nat} (ha : a < 1000) : nI a / nI 100 = nI (a / 100) := pk_div (by omega) (by decide) (by decide)
theorem d2 {a : Nat} (ha : a < 1000) : nI a / nI 10 - nI a / nI 10 / nI 10 * nI 10 = nI (a / 10 % 10) := by
  rw [pk_div (by omega) (by decide) (by decide), pk_rem (by omega) (by decide) (by decide)]
theorem d3 {a : Nat} (ha : a < 1000) : nI a - nI a / nI 10 * nI 10 = nI (a % 10) := pk_rem (by omega) (by decide) (by decide)
theorem e1 {a b : Nat} (ha : a < 1000) (hb : b < 1000) : (if 0 ≤ nI a / nI 100 - nI b / nI 100 then nI a / nI 100 - nI b / nI 100 else 0 - (nI a / nI 100 - nI b / nI 100)) = nI (ds (a / 100) (b / 100)) := by
  rw [d1 ha, d1 hb, ab_nI (by omega) (by omega)]
theorem e2 {a b : Nat} (ha : a < 1000) (hb : b < 1000) : (if 0 ≤ (nI a / nI 10 - nI a / nI 10 / nI 10 * nI 10) - (nI b / nI 10 - nI b / nI 10 / nI 10 * nI 10) then (nI a / nI 10 - nI a / nI 10 / nI 10 * nI 10) - (nI b / nI 10 - nI b / nI 10 / nI 10 * nI 10) else 0 - ((nI a / nI 10 - nI a / nI 10 / nI 10 * nI 10) - (nI b / nI 10 - nI b / nI 10 / nI 10 * nI 10))) = nI (ds (a / 10 % 10) (b / 10 % 10)) := by
  rw [d2 ha, d2 hb, ab_nI (by omega) (by omega)]
theorem e3 {a b : Nat} (ha : a < 1000) (hb : b < 1000) : (if 0 ≤ (nI a - nI a / nI 10 * nI 10) - (nI b - nI b / nI 10 * nI 10) then (nI a - nI a / nI 10 * nI 10) - (nI b - nI b / nI 10 * nI 10) else 0 - ((nI a - nI a / nI 10 * nI 10) - (nI b - nI b / nI 10 * nI 10))) = nI (ds (a % 10) (b % 10)) := by
  rw [d3 ha, d3 hb, ab_nI (by omega) (by omega)]
theorem ilt {p : Int32} {n : Nat} (hn : n < 2 ^ 31) (h : 0 ≤ p ∧ p < nI n) : ∃ j : Nat, j < n ∧ p = nI j := by
  rcases pk_ix p hn with h1 | h1 | h1
  · exact absurd h.1 (by simpa using h1)
  · exact absurd h.2 (by simpa using h1)
  · exact h1
theorem ilt2 {j n : Nat} (hn : n < 2 ^ 31) (h : j < n) : 0 ≤ nI j ∧ nI j < nI n := ⟨nI_pos' (by omega), nI_lt h hn⟩
theorem icn {c : Prop} (h : ¬ c) {P : Prop} : c → P := fun h2 => absurd h2 h
theorem n10 : ¬ nI 1 = (0 : Int32) := by decide
theorem n00 : nI 0 = (0 : Int32) := by decide
theorem nI_s (i : Nat) : nI (i + 1) = nI i + nI 1 := (nI_add i 1).symm
