/-! WHAT THE STATE IS: the clan, a state, as numbers; what the class's cells say of them -/
abbrev aC : Type := Nat × Nat × Nat × Nat × (Nat → Nat) × (Nat → Nat) × (Nat → Nat)
abbrev cT (C : aC) : Nat := C.1
abbrev cG (C : aC) : Nat := C.2.1
abbrev cN (C : aC) : Nat := C.2.2.1
abbrev cC (C : aC) : Nat := C.2.2.2.1
abbrev cSl (C : aC) : Nat → Nat := C.2.2.2.2.1
abbrev cDr (C : aC) : Nat → Nat := C.2.2.2.2.2.1
abbrev cSq (C : aC) : Nat → Nat := C.2.2.2.2.2.2
abbrev aS : Type := (Nat → Nat) × Nat × (Nat → Nat) × (Nat → Nat) × Nat
abbrev sH (S : aS) : Nat → Nat := S.1
abbrev sP (S : aS) : Nat := S.2.1
abbrev sM (S : aS) : Nat → Nat := S.2.2.1
abbrev sN (S : aS) : Nat → Nat := S.2.2.2.1
abbrev sY (S : aS) : Nat := S.2.2.2.2
def wC (C : aC) : Prop := cT C ≤ 1 ∧ cG C < 1000 ∧ cN C ≤ 8 ∧ cC C ≤ 4 ∧ (∀ k, k < cN C → cSl C k ≤ 3) ∧ (∀ k, k < cN C → cDr C k ≤ 2) ∧ (∀ k, k < cC C → cSq C k < 1000)
def wS (n : Nat) (S : aS) : Prop := (∀ k, k < n → sH S k < 1000) ∧ sP S ≤ 8 ∧ (∀ k, k < sP S → sM S k < 1000) ∧ (∀ k, k < sP S → sN S k < n) ∧ sY S ≤ 9060
/-- the class's clan at the cell o -/
def xC (x : jM) (o : Nat) (C : aC) : Prop := x o 0 = nI (cT C) ∧ x o 1 = nI (cG C) ∧ x o 2 = nI (cN C) ∧ x o 5 = nI (cC C) ∧ (∀ k, k < cN C → x (o + 1) k = nI (cSl C k)) ∧ (∀ k, k < cN C → x (o + 2) k = nI (cDr C k)) ∧ (∀ k, k < cC C → x (o + 3) k = nI (cSq C k))
/-- the class's state at the cell o -/
def xS (x : jM) (o n : Nat) (S : aS) : Prop := (∀ k, k < n → x (o + 1) k = nI (sH S k)) ∧ x o 1 = nI (sP S) ∧ (∀ k, k < sP S → x (o + 2) k = nI (sM S k)) ∧ (∀ k, k < sP S → x (o + 3) k = nI (sN S k)) ∧ x o 4 = nI (sY S)
theorem xC_f {x x' : jM} {o : Nat} {C : aC} (h : ∀ i, o ≤ i → i ≤ o + 3 → x' i = x i) (hC : xC x o C) : xC x' o C := by
  obtain ⟨h1, h2, h3, h4, h5, h6, h7⟩ := hC
  refine ⟨?_, ?_, ?_, ?_, fun k hk => ?_, fun k hk => ?_, fun k hk => ?_⟩
  · rw [h o (by omega) (by omega)]; exact h1
  · rw [h o (by omega) (by omega)]; exact h2
  · rw [h o (by omega) (by omega)]; exact h3
  · rw [h o (by omega) (by omega)]; exact h4
  · rw [h (o + 1) (by omega) (by omega)]; exact h5 k hk
  · rw [h (o + 2) (by omega) (by omega)]; exact h6 k hk
  · rw [h (o + 3) (by omega) (by omega)]; exact h7 k hk
theorem xS_f {x x' : jM} {o n : Nat} {S : aS} (h : ∀ i, o ≤ i → i ≤ o + 3 → x' i = x i) (hS : xS x o n S) : xS x' o n S := by
  obtain ⟨h1, h2, h3, h4, h5⟩ := hS
  refine ⟨fun k hk => ?_, ?_, fun k hk => ?_, fun k hk => ?_, ?_⟩
  · rw [h (o + 1) (by omega) (by omega)]; exact h1 k hk
  · rw [h o (by omega) (by omega)]; exact h2
  · rw [h (o + 2) (by omega) (by omega)]; exact h3 k hk
  · rw [h (o + 3) (by omega) (by omega)]; exact h4 k hk
  · rw [h o (by omega) (by omega)]; exact h5
theorem xS_cp {x : jM} {o s n : Nat} {S : aS} (hd : o + 3 < s ∨ s + 3 < o) (hn : n ≤ 8) (hp : sP S ≤ 8) (hS : xS x s n S) : xS (cpS x o s) o n S := by
  obtain ⟨h1, h2, h3, h4, h5⟩ := hS
  refine ⟨fun k hk => ?_, ?_, fun k hk => ?_, fun k hk => ?_, ?_⟩
  · rw [cpS_r hd (Or.inl rfl) (by omega)]; exact h1 k hk
  · rw [cpS_1]; exact h2
  · rw [cpS_r hd (Or.inr (Or.inl rfl)) (by omega)]; exact h3 k hk
  · rw [cpS_r hd (Or.inr (Or.inr rfl)) (by omega)]; exact h4 k hk
  · rw [cpS_4 (by omega)]; exact h5
/-! what the calls answer -/
def kU : Int32 := jc (-1000000001)
def kO : Int32 := jc (-1000000002)
def kX : Int32 := jc (-1000000003)
def kF : Int32 := jc (-1000000004)
theorem jm1 : jc (-1) = (-1 : Int32) := by decide
/-- a set as a number -/
def sn (P : Nat → Bool) : Nat → Nat
  | 0 => 0
  | i + 1 => if P i = true then sn P i + 2 ^ i else sn P i
theorem sn_lt (P : Nat → Bool) : ∀ i, sn P i < 2 ^ i
  | 0 => Nat.lt_succ_self 0
  | i + 1 => by
    have := sn_lt P i
    rw [sn, Nat.pow_succ]
    split <;> omega
theorem or1 : ∀ i, i < 8 → ∀ s, s < 2 ^ i → nI s ||| (nI 1 <<< (nI i &&& 31)) = nI (s + 2 ^ i) := by decide +kernel
theorem sb_sn (P : Nat → Bool) : ∀ i, i ≤ 8 → sb P i = nI (sn P i)
  | 0, _ => rfl
  | i + 1, h => by
    rw [sb, sn, sb_sn P i (by omega)]
    split
    · exact or1 i (by omega) _ (sn_lt P i)
    · rfl
theorem nI_and (a b : Nat) (ha : a < 256) (hb : b < 256) : nI a &&& nI b = nI (a &&& b) := by
  apply Int32.toBitVec_inj.mp
  simp only [nI, Int32.toBitVec_and, Int32.toBitVec_ofNat', ← BitVec.ofNat_and]
def pp (s : Nat) : Nat := cA (fun p => bt s p == 1) 8
/-- the first t from t on, f of them, with P; none: -1 -/
def on1 (P : Nat → Bool) : Nat → Nat → Int32
  | 0, _ => -1
  | f + 1, t => if P t = true then nI t else on1 P f (t + 1)
/-- the i-th of a list of pairs, by its number; -1: how many -/
def rsI (i : Int32) : Nat → List (Nat × Nat) → Int32
  | c, [] => if i = -1 then nI c else -1
  | c, a :: l => if nI c = i then nI (10 * a.1 + a.2) else rsI i (c + 1) l
