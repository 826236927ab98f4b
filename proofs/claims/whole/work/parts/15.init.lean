/-! THE MEMORY AT THE BEGINNING: 136 cells; 0 the class's object, 121 the reference's -/
def jsl (l : List Nat) (k : Nat) : Nat := l.getD k 1
def jKa : List jSh := [(6, 10, jsl [3, 13, 17, 21, 25, 107, 118, 122, 0, 0]),
  (4, 7, jsl [4, 0, 5, 9, 0, 0, 0]),
  (8, 240, fun _ => 0),
  (0, 7, jsl [0, 0, 0, 6, 7, 0, 8]),
  (8, 8, fun _ => 0),
  (8, 8, fun _ => 0),
  (8, 4, fun _ => 0),
  (5, 5, jsl [10, 0, 11, 12, 0]),
  (8, 8, fun _ => 0),
  (8, 8, fun _ => 0),
  (8, 8, fun _ => 0),
  (0, 7, jsl [0, 0, 0, 14, 15, 0, 16]),
  (8, 8, fun _ => 0),
  (8, 8, fun _ => 0),
  (8, 4, fun _ => 0),
  (5, 5, jsl [18, 0, 19, 20, 0]),
  (8, 8, fun _ => 0),
  (8, 8, fun _ => 0),
  (8, 8, fun _ => 0),
  (5, 5, jsl [22, 0, 23, 24, 0]),
  (8, 8, fun _ => 0),
  (8, 8, fun _ => 0),
  (8, 8, fun _ => 0),
  (1, 3, jsl [26, 0, 0]),
  (11, 20, fun k => 27 + 4 * k)]
def jKb : List jSh := [(10, 2, fun k => 108 + 5 * k),
  (2, 3, jsl [0, 109, 0]),
  (5, 5, jsl [110, 0, 111, 112, 0]),
  (8, 8, fun _ => 0),
  (8, 8, fun _ => 0),
  (8, 8, fun _ => 0),
  (2, 3, jsl [0, 114, 0]),
  (5, 5, jsl [115, 0, 116, 117, 0]),
  (8, 8, fun _ => 0),
  (8, 8, fun _ => 0),
  (8, 8, fun _ => 0),
  (3, 5, jsl [0, 119, 0, 120, 121]),
  (8, 8, fun _ => 0),
  (8, 15, fun _ => 0),
  (8, 15, fun _ => 0),
  (8, 8, fun _ => 0),
  (7, 32, jsl [124, 125, 0, 0, 0, 0, 126, 127, 0, 128, 129, 0, 0, 0, 0, 0, 0, 0, 0, 0, 130, 0, 131, 0, 132, 133, 134, 0, 135, 0, 136, 137]),
  (8, 648, fun _ => 0),
  (9, 2, fun _ => 0),
  (8, 8, fun _ => 0),
  (8, 8, fun _ => 0),
  (8, 4, fun _ => 0),
  (8, 240, fun _ => 0),
  (8, 24, fun _ => 0),
  (8, 16, fun _ => 0),
  (8, 4, fun _ => 0),
  (8, 8, fun _ => 0),
  (8, 8, fun _ => 0),
  (8, 8, fun _ => 0),
  (8, 15, fun _ => 0),
  (8, 15, fun _ => 0)]
def jKst (b r : Nat) : jSh := if r = 0 then (5, 5, jsl [b + 3, 0, b + 4, b + 5, 0]) else (8, 8, fun _ => 0)
def jK (i : Nat) : jSh := if i < 25 then jKa.getD i (0, 0, fun _ => 0) else if i < 105 then jKst (25 + 4 * ((i - 25) / 4)) ((i - 25) % 4) else jKb.getD (i - 105) (0, 0, fun _ => 0)
def jx0 : jM := fun i k => if i = 0 ∧ k = 9 then -1 else if i = 121 ∧ k = 16 then -1 else 0
def jM1 : jM2 := (1, jKp (fun _ => (0, 0, fun _ => 0)) 0 (6, jfc 6, jdf 6), jua (fun _ _ => 0) 0 (fun _ => 0))
def jMn (M : jM2) : jM2 := (M.1 + 1, jKp M.2.1 M.1 (7, jfc 7, jdf 7), jua M.2.2 M.1 (fun _ => 0))
def jinB : Bool := match jF 9 6 0 jM1 with
  | none => false
  | some M2 => M2.1 == 121 && (match jF 9 7 121 (jMn M2) with
    | none => false
    | some M4 => M4.1 == 136 && (List.range 136).all (fun i => (M4.2.1 i).1 == (jK i).1 && ((M4.2.1 i).2.1 == (jK i).2.1 && (List.range (jK i).2.1).all (fun k => (decide (8 ≤ (jK i).1 ∧ (jK i).1 < 10) || (M4.2.1 i).2.2 k == (jK i).2.2 k) && decide (M4.2.2 i k = jx0 i k)))))
set_option maxRecDepth 100000 in
theorem jinB_ok : jinB = true := by decide +kernel
theorem jin : ∃ M2 M4 : jM2, jF 9 6 0 jM1 = some M2 ∧ M2.1 = 121 ∧ jF 9 7 121 (jMn M2) = some M4 ∧ M4.1 = 136 ∧ ∀ i, i < 136 → (M4.2.1 i).1 = (jK i).1 ∧ (M4.2.1 i).2.1 = (jK i).2.1 ∧ ∀ k, k < (jK i).2.1 → (((8 ≤ (jK i).1 ∧ (jK i).1 < 10) ∨ (M4.2.1 i).2.2 k = (jK i).2.2 k) ∧ M4.2.2 i k = jx0 i k) := by
  have h := jinB_ok
  unfold jinB at h
  split at h
  · cases h
  · next M2 h2 =>
    simp only [Bool.and_eq_true, beq_iff_eq] at h
    obtain ⟨e2, h⟩ := h
    split at h
    · cases h
    · next M4 h4 =>
      simp only [Bool.and_eq_true, beq_iff_eq] at h
      refine ⟨M2, M4, h2, e2, h4, h.1, fun i hi => ?_⟩
      have g := List.all_eq_true.mp h.2 i (List.mem_range.mpr hi)
      simp only [Bool.and_eq_true, beq_iff_eq] at g
      refine ⟨g.1, g.2.1, fun k hk => ?_⟩
      have g2 := List.all_eq_true.mp g.2.2 k (List.mem_range.mpr hk)
      simpa using g2
/-- worlds of the same cells -/
theorem jce_same {D : va_G} {ad : Nat → Nat} {cy : Nat → ClassId} {h h' : jSh} {f f' : Nat → Int32} {a : Nat} {H : Heap} (e1 : h.1 = h'.1) (e2 : h.2.1 = h'.2.1) (e3 : ∀ k, k < h'.2.1 → ((8 ≤ h'.1 ∧ h'.1 < 10) ∨ h.2.2 k = h'.2.2 k) ∧ f k = f' k) (hh : va_at D vwCl (a, jce ad cy h f) H) : va_at D vwCl (a, jce ad cy h' f') H := by
  by_cases h1 : h'.1 < 8
  · rw [jce_obj (by omega)] at hh
    rw [jce_obj h1]
    have : (List.range h.2.1).map (fun k => jfv ad (h.2.2 k) (f k)) = (List.range h'.2.1).map (fun k => jfv ad (h'.2.2 k) (f' k)) := by
      rw [e2]
      refine List.map_congr_left (fun k hk => ?_)
      obtain ⟨g1, g2⟩ := e3 k (List.mem_range.mp hk)
      rcases g1 with g1 | g1
      · omega
      · rw [g1, g2]
    rw [this, e1] at hh
    exact hh
  · by_cases h2 : h'.1 < 10
    · rw [jce_int (by omega) (by omega)] at hh
      rw [jce_int h1 h2]
      rw [e1, e2] at hh
      have : arrV (cy h'.1) h'.2.1 (fun j => Value.int (f j)) = arrV (cy h'.1) h'.2.1 (fun j => Value.int (f' j)) := by
        unfold arrV
        congr 2
        funext j
        show Value.int (f j) = Value.int (f' j)
        rw [(e3 j.1 j.2).2]
      have hh : H[a]? = some (arrV (cy h'.1) h'.2.1 (fun j => Value.int (f j))) := hh
      rw [this] at hh
      exact hh
    · rw [jce_ref (by omega)] at hh
      rw [jce_ref h2]
      rw [e1, e2] at hh
      have : (fun k : Nat => if k < h'.2.1 then jrf ad (h.2.2 k) else none) = (fun k : Nat => if k < h'.2.1 then jrf ad (h'.2.2 k) else none) := by
        funext k
        by_cases hk : k < h'.2.1
        · rw [if_pos hk, if_pos hk]
          rcases (e3 k hk).1 with g1 | g1
          · omega
          · rw [g1]
        · rw [if_neg hk, if_neg hk]
      rw [this] at hh
      exact hh
theorem jW_same {D : va_G} {ad : Nat → Nat} {cy : Nat → ClassId} {N : Nat} {K K' : Nat → jSh} {x x' : jM} {H : Heap} (h : ∀ i, i < N → (K i).1 = (K' i).1 ∧ (K i).2.1 = (K' i).2.1 ∧ ∀ k, k < (K' i).2.1 → (((8 ≤ (K' i).1 ∧ (K' i).1 < 10) ∨ (K i).2.2 k = (K' i).2.2 k) ∧ x i k = x' i k)) (hP : va_P D vwCl (jW ad cy N K x) H) : va_P D vwCl (jW ad cy N K' x') H := by
  intro k q hq
  have hk : k < N := by
    have := (List.getElem?_eq_some_iff.mp hq).1
    simpa [jW] using this
  rw [jW_at hk] at hq
  cases hq
  obtain ⟨g1, g2, g3⟩ := h k hk
  exact jce_same g1 g2 g3 (hP k _ (jW_at hk))
theorem jD_same {A : Nat → Prop} {ad : Nat → Nat} {cy : Nat → ClassId} {N : Nat} {K K' : Nat → jSh} {x x' : jM} (hD : va_D A (jW ad cy N K x)) : va_D A (jW ad cy N K' x') := by
  have key : ∀ (k : Nat) (q : Nat × va_E), (jW ad cy N K' x')[k]? = some q → ∃ q', (jW ad cy N K x)[k]? = some q' ∧ q'.1 = q.1 := by
    intro k q hq
    have hk : k < N := by
      have := (List.getElem?_eq_some_iff.mp hq).1
      simpa [jW] using this
    rw [jW_at hk] at hq
    cases hq
    exact ⟨_, jW_at hk, rfl⟩
  refine ⟨fun i j p q hp hq e => ?_, fun k q hq => ?_⟩
  · obtain ⟨p', h1, e1⟩ := key i p hp
    obtain ⟨q', h2, e2⟩ := key j q hq
    exact hD.1 i j p' q' h1 h2 (by rw [e1, e2, e])
  · obtain ⟨q', h1, e1⟩ := key k q hq
    rw [← e1]
    exact hD.2 k q' h1
