/-! THE WHOLE STATE, and what the class's cells say of it -/
abbrev aN : Type := Nat × (Nat → Nat)
abbrev aB : Type := Nat × (Nat → Nat) × (Nat → Nat)
abbrev aX : Type := aC × aS × List aS × (Nat → Option (aS × Nat)) × aN × aB × Nat × Int32 × aN
abbrev gC (z : aX) : aC := z.1
abbrev gS (z : aX) : aS := z.2.1
abbrev gH (z : aX) : List aS := z.2.2.1
abbrev gI (z : aX) : Nat → Option (aS × Nat) := z.2.2.2.1
abbrev gN (z : aX) : aN := z.2.2.2.2.1
abbrev gB (z : aX) : aB := z.2.2.2.2.2.1
abbrev gD (z : aX) : Nat := z.2.2.2.2.2.2.1
abbrev gF (z : aX) : Int32 := z.2.2.2.2.2.2.2.1
abbrev gT (z : aX) : aN := z.2.2.2.2.2.2.2.2
def wX (z : aX) : Prop := wC (gC z) ∧ wS (cN (gC z)) (gS z) ∧ ((gH z).length ≤ 20 ∧ ∀ S ∈ gH z, wS (cN (gC z)) S) ∧ (∀ i S s, gI z i = some (S, s) → wS (cN (gC z)) S ∧ s < 2147483648) ∧ ((gN z).1 ≤ 8 ∧ ∀ k, k < (gN z).1 → (gN z).2 k < 1000) ∧ ((gB z).1 ≤ 15 ∧ ∀ k, k < (gB z).1 → (gB z).2.1 k < cN (gC z) ∧ (gB z).2.2 k < 1000) ∧ gD z < 2147483648 ∧ ((gT z).1 ≤ 240 ∧ ∀ k, k < (gT z).1 → (gT z).2 k ≤ 255)
def xH (x : jM) (n : Nat) (hs : List aS) (nx : Nat) : Prop := x 23 1 = nI hs.length ∧ x 23 2 = nI nx ∧ nx < 20 ∧ hs.length ≤ 20 ∧ ∀ k S, hs[k]? = some S → xS x (25 + 4 * ((nx + 19 - k) % 20)) n S
def xI (x : jM) (n : Nat) (im : Nat → Option (aS × Nat)) : Prop := ∀ i, i < 2 → (im i = none → x (106 + 5 * i) 0 = nI 0) ∧ (∀ S s, im i = some (S, s) → x (106 + 5 * i) 0 = nI 1 ∧ xS x (107 + 5 * i) n S ∧ x (106 + 5 * i) 2 = nI s)
def xN (x : jM) (u : aN) (v : aB) : Prop := x 116 0 = nI u.1 ∧ (∀ k, k < u.1 → x 117 k = nI (u.2 k)) ∧ x 116 2 = nI v.1 ∧ (∀ k, k < v.1 → x 118 k = nI (v.2.1 k)) ∧ (∀ k, k < v.1 → x 119 k = nI (v.2.2 k))
def xT (x : jM) (u : aN) : Prop := x 1 1 = nI u.1 ∧ (∀ k, k < u.1 → x 2 k = nI (u.2 k))
def RX (z : aX) (x : jM) : Prop := xC x 11 (gC z) ∧ xS x 15 (cN (gC z)) (gS z) ∧ (∃ nx, xH x (cN (gC z)) (gH z) nx) ∧ xI x (cN (gC z)) (gI z) ∧ xN x (gN z) (gB z) ∧ x 0 8 = nI (gD z) ∧ x 0 9 = gF z ∧ xT x (gT z)
theorem xH_f {x x' : jM} {n nx : Nat} {hs : List aS} (h : ∀ i, 23 ≤ i → i ≤ 104 → x' i = x i) (hh : xH x n hs nx) : xH x' n hs nx := by
  obtain ⟨h1, h2, h3, h4, h5⟩ := hh
  refine ⟨by rw [h 23 (by omega) (by omega)]; exact h1, by rw [h 23 (by omega) (by omega)]; exact h2, h3, h4, fun k S hk => ?_⟩
  exact xS_f (fun i g1 g2 => h i (by omega) (by omega)) (h5 k S hk)
theorem xI_f {x x' : jM} {n : Nat} {im : Nat → Option (aS × Nat)} (h : ∀ i, 105 ≤ i → i ≤ 115 → x' i = x i) (hh : xI x n im) : xI x' n im := by
  intro i hi
  obtain ⟨h1, h2⟩ := hh i hi
  have e := h (106 + 5 * i) (by omega) (by omega)
  refine ⟨fun g => by rw [e]; exact h1 g, fun S s g => ?_⟩
  obtain ⟨g1, g2, g3⟩ := h2 S s g
  exact ⟨by rw [e]; exact g1, xS_f (fun i g1 g2 => h i (by omega) (by omega)) g2, by rw [e]; exact g3⟩
theorem xN_f {x x' : jM} {u : aN} {v : aB} (h : ∀ i, 116 ≤ i → i ≤ 119 → x' i = x i) (hh : xN x u v) : xN x' u v := by
  obtain ⟨h1, h2, h3, h4, h5⟩ := hh
  have e1 := h 116 (by omega) (by omega)
  have e2 := h 117 (by omega) (by omega)
  have e3 := h 118 (by omega) (by omega)
  have e4 := h 119 (by omega) (by omega)
  exact ⟨by rw [e1]; exact h1, fun k hk => by rw [e2]; exact h2 k hk, by rw [e1]; exact h3, fun k hk => by rw [e3]; exact h4 k hk, fun k hk => by rw [e4]; exact h5 k hk⟩
/-- what isn't part of the state may change: the reader's own cells, the tried state, the groups -/
theorem RX_f {x x' : jM} {z : aX} (h : ∀ i, i < 121 → (i < 1 ∨ i = 2 ∨ (10 < i ∧ i < 19) ∨ (22 < i ∧ i < 120)) → x' i = x i) (h1 : x' 1 1 = x 1 1) (hh : RX z x) : RX z x' := by
  obtain ⟨r1, r2, ⟨nx, r3⟩, r4, r5, r6, r7, r8⟩ := hh
  refine ⟨xC_f (fun i g1 g2 => h i (by omega) (by omega)) r1, xS_f (fun i g1 g2 => h i (by omega) (by omega)) r2, ⟨nx, xH_f (fun i g1 g2 => h i (by omega) (by omega)) r3⟩, xI_f (fun i g1 g2 => h i (by omega) (by omega)) r4, xN_f (fun i g1 g2 => h i (by omega) (by omega)) r5, ?_, ?_, ?_⟩
  · rw [h 0 (by omega) (by omega)]; exact r6
  · rw [h 0 (by omega) (by omega)]; exact r7
  · exact ⟨by rw [h1]; exact r8.1, fun k hk => by rw [h 2 (by omega) (by omega)]; exact r8.2 k hk⟩
/-! what is done -/
def zPush (z : aX) : aX := (gC z, gS z, (gS z :: gH z).take 20, gI z, gN z, gB z, gD z, gF z, gT z)
def zNow (z : aX) (S : aS) : aX := (gC z, S, gH z, gI z, gN z, gB z, gD z, gF z, gT z)
def sAge (C : aC) (S : aS) (m : Nat) : aS := (fun k => ya (cDr C k) (cG C) (sY S) (sH S k) m, sP S, sM S, sN S, sY S + m)
def upN (f : Nat → Nat) (k v : Nat) : Nat → Nat := fun j => if j = k then v else f j
section CH
variable {d n : Nat} {x : jM} {Q : Option Value → jM → Prop} {S : aS} {hs : List aS}
theorem jar_st {o : Nat} (h : stI o) {r : List Value} (hc : jcs r = true) {b : Bool} (hb : b = true) : (jar 136 jK o (5 : Int).toNat && jcs r && b) = true := by
  have : o < 136 := by have := h.1; omega
  rw [hc, hb]
  simp [jar, h.2.1, this]
theorem c_push {nx : Nat} (hn : n ≤ 8) (hH : xH x n hs nx) (hS : xS x 15 n S) (ws : wS n S) (h : ∀ x', (∀ i, i < 23 ∨ 104 < i → x' i = x i) → (∃ nx', xH x' n ((S :: hs).take 20) nx') → Q none x') : jo (d + 2) 2 [.ref 23, .ref 15] x Q := by
  obtain ⟨h1, h2, h3, h4, h5⟩ := hH
  have hst := stI_h h3
  have hX := xS_cp (x := x) (o := 25 + 4 * nx) (s := 15) (n := n) (Or.inr (by omega)) hn ws.2.1 hS
  have fr : ∀ k, k < 25 + 4 * nx ∨ 25 + 4 * nx + 3 < k → cpS x (25 + 4 * nx) 15 k = x k := fun k hk => cpS_f hk
  refine jo_i rfl rfl (Nat.le_of_ble_eq_true rfl) ?_
  iterate 4 refine jw_u rfl ?_
  refine jtop h2 ?_
  refine jw_u rfl ⟨vp_in_nI h3 (by decide), jrk_r (j := 25 + 4 * nx) (by show 27 + 4 * (nI nx).toNatClampNeg = _; rw [nI_clamp (by omega)]; omega) ?_⟩
  refine jw_u rfl ?_
  refine jw_u rfl (jB_i (jar_st hst rfl rfl) ?_)
  refine c_takeS hst stI_15 ?_
  generalize cpS x (25 + 4 * nx) 15 = x1 at hX fr ⊢
  have e1 : x1 23 2 = nI nx := by rw [fr 23 (by omega)]; exact h2
  have e2 : x1 23 1 = nI hs.length := by rw [fr 23 (by omega)]; exact h1
  iterate 3 refine jw_u rfl ?_
  refine jtop e1 ?_
  iterate 2 refine jw_u rfl ?_
  refine jtop (nI_add _ _) ?_
  refine jw_u rfl ?_
  refine jw_u rfl ⟨by decide, ?_⟩
  refine jtop (pk_rem (a := nx + 1) (d := 20) (by omega) (by decide) (by decide)) ?_
  refine jw_u rfl ⟨fun h => (by cases h), ?_⟩
  iterate 3 refine jw_u rfl ?_
  refine jtop (v' := nI hs.length) (by rw [ju_k (by decide)]; exact e2) ?_
  iterate 2 refine jw_u rfl ?_
  refine jtop (nI_add hs.length 1) ?_
  iterate 2 refine jw_u rfl ?_
  refine jtop (mn_nI (b := 20) (by omega) (by decide)) ?_
  refine jw_u rfl ⟨fun h => (by cases h), ?_⟩
  refine jw_u rfl ?_
  refine h _ (fun i hi => ?_) ⟨(nx + 1) % 20, ?_, ?_, by omega, ?_, fun k S' hk => ?_⟩
  · rw [ju_oo (by omega), ju_oo (by omega)]
    exact fr i (by omega)
  · rw [ju_s, List.length_take, List.length_cons, Nat.min_comm]
  · rw [ju_k (by decide), ju_s]
  · rw [List.length_take]
    omega
  · have hk20 : k < 20 := by
      have := (List.getElem?_eq_some_iff.mp hk).1
      rw [List.length_take] at this
      omega
    rw [List.getElem?_take, if_pos hk20] at hk
    have fz : ∀ i, 25 ≤ i → ju (ju x1 23 2 (nI ((nx + 1) % 20))) 23 1 (nI (min (hs.length + 1) 20)) i = x1 i := fun i hi => by rw [ju_oo (by omega), ju_oo (by omega)]
    refine xS_f (x := x1) (fun i g1 g2 => fz i (by omega)) ?_
    match k, hk with
    | 0, hk =>
      cases hk
      rw [show ((nx + 1) % 20 + 19 - 0) % 20 = nx by omega]
      exact hX
    | k + 1, hk =>
      have hk : hs[k]? = some S' := by simpa using hk
      rw [show ((nx + 1) % 20 + 19 - (k + 1)) % 20 = (nx + 19 - k) % 20 by omega]
      exact xS_f (fun i g1 g2 => fr i (by omega)) (h5 k S' hk)
theorem c_popInto {nx : Nat} (hn : n ≤ 8) (hH : xH x n (S :: hs) nx) (ws : wS n S) (h : ∀ x', (∀ i, i < 15 ∨ (18 < i ∧ i ≠ 23) → x' i = x i) → xS x' 15 n S → (∃ nx', xH x' n hs nx') → Q none x') : jo (d + 2) 3 [.ref 23, .ref 15] x Q := by
  obtain ⟨h1, h2, h3, h4, h5⟩ := hH
  rw [List.length_cons] at h1 h4
  have e0 := h5 0 S rfl
  refine jo_i rfl rfl (Nat.le_of_ble_eq_true rfl) ?_
  iterate 2 refine jw_u rfl ?_
  refine jtop h1 ?_
  refine jw_u rfl ⟨fun _ => ?_, fun (c' : ¬ (0 : Int32) < nI (hs.length + 1)) => absurd (nI_lt (a := 0) (by omega) (by omega)) c'⟩
  iterate 3 refine jw_u rfl ?_
  refine jtop h2 ?_
  iterate 2 refine jw_u rfl ?_
  refine jtop (nI_add nx 20) ?_
  iterate 2 refine jw_u rfl ?_
  refine jtop (pk_sub (a := nx + 20) (b := 1) (by omega)) ?_
  refine jw_u rfl ?_
  refine jw_u rfl ⟨by decide, ?_⟩
  refine jtop (v' := nI ((nx + 19) % 20)) (by show nI (nx + 20 - 1) - nI (nx + 20 - 1) / nI 20 * nI 20 = _; rw [pk_rem (by omega) (by decide) (by decide)]; rfl) ?_
  refine jw_u rfl ⟨fun h => (by cases h), ?_⟩
  iterate 3 refine jw_u rfl ?_
  refine jtop (v' := nI (hs.length + 1)) (by rw [ju_k (by decide)]; exact h1) ?_
  iterate 2 refine jw_u rfl ?_
  refine jtop (s1a _) ?_
  refine jw_u rfl ⟨fun h => (by cases h), ?_⟩
  iterate 5 refine jw_u rfl ?_
  refine jtop (v' := nI ((nx + 19) % 20)) (by rw [ju_k (by decide), ju_s]) ?_
  have hm : (nx + 19) % 20 < 20 := by omega
  refine jw_u rfl ⟨vp_in_nI hm (by decide), jrk_r (j := 25 + 4 * ((nx + 19) % 20)) (by show 27 + 4 * (nI ((nx + 19) % 20)).toNatClampNeg = _; rw [nI_clamp (by omega)]; omega) ?_⟩
  refine jw_u rfl ?_
  generalize hx1 : ju (ju x 23 2 (nI ((nx + 19) % 20))) 23 1 (nI hs.length) = x1
  have fr : ∀ i, i ≠ 23 → x1 i = x i := fun i hi => by rw [← hx1, ju_oo hi, ju_oo hi]
  refine c_takeS stI_15 (stI_h hm) ?_
  have e1 : xS x1 (25 + 4 * ((nx + 19) % 20)) n S := xS_f (fun i g1 g2 => fr i (by omega)) e0
  have hX := xS_cp (x := x1) (o := 15) (s := 25 + 4 * ((nx + 19) % 20)) (n := n) (Or.inl (by omega)) hn ws.2.1 e1
  have fr2 : ∀ i, i < 15 ∨ 18 < i → cpS x1 15 (25 + 4 * ((nx + 19) % 20)) i = x1 i := fun i hi => cpS_f (by omega)
  refine jw_u rfl ?_
  refine h _ (fun i hi => (fr2 i (by omega)).trans (fr i (by omega))) hX ⟨(nx + 19) % 20, ?_, ?_, hm, by omega, fun k S' hk => ?_⟩
  · rw [fr2 23 (by omega), ← hx1, ju_s]
  · rw [fr2 23 (by omega), ← hx1, ju_k (by decide), ju_s]
  · have hl := (List.getElem?_eq_some_iff.mp hk).1
    have := h5 (k + 1) S' (by simpa using hk)
    rw [show ((nx + 19) % 20 + 19 - k) % 20 = (nx + 19 - (k + 1)) % 20 by omega]
    exact xS_f (fun i g1 g2 => (fr2 i (by omega)).trans (fr i (by omega))) this
theorem c_forget (h : Q none (ju x 23 1 (nI 0))) : jo (d + 1) 4 [.ref 23] x Q := by
  refine jo_i rfl rfl (Nat.le_of_ble_eq_true rfl) ?_
  iterate 2 refine jw_u rfl ?_
  refine jw_u rfl ⟨fun h => (by cases h), ?_⟩
  refine jw_u rfl ?_
  exact h
theorem c_clearAll (h : Q none (ju (ju x 116 0 (nI 0)) 116 2 (nI 0))) : jo (d + 1) 7 [.ref 116] x Q := by
  refine jo_i rfl rfl (Nat.le_of_ble_eq_true rfl) ?_
  iterate 2 refine jw_u rfl ?_
  refine jw_u rfl ⟨fun h => (by cases h), ?_⟩
  iterate 2 refine jw_u rfl ?_
  refine jw_u rfl ⟨fun h => (by cases h), ?_⟩
  refine jw_u rfl ?_
  exact h
end CH
