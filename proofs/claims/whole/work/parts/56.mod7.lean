/-! THE REFERENCE: the whole relation; what is minded -/
def mH (x : jM) (n : Nat) (hs : List aS) : Prop := x 121 2 = nI hs.length ∧ hs.length ≤ 20 ∧ ∀ k S, hs[k]? = some S → mS x (108 + 27 * (hs.length - 1 - k)) n S
def mI (x : jM) (n : Nat) (im : Nat → Option (aS × Nat)) : Prop := ∀ i, i < 2 → (im i = none → x 123 i = nI 0) ∧ (∀ S s, im i = some (S, s) → x 123 i = nI 1 ∧ mS x (54 + 27 * i) n S ∧ x 122 (54 + 27 * i + 26) = nI s)
def mN (x : jM) (u : aN) (v : aB) : Prop := x 121 27 = nI u.1 ∧ (∀ k, k < u.1 → x 133 k = nI (u.2 k)) ∧ x 121 29 = nI v.1 ∧ (∀ k, k < v.1 → x 134 k = nI (v.2.1 k)) ∧ (∀ k, k < v.1 → x 135 k = nI (v.2.2 k))
def mT (x : jM) (u : aN) : Prop := x 121 11 = nI u.1 ∧ (∀ k, k < u.1 → x 127 k = nI (u.2 k))
def RM (z : aX) (x : jM) : Prop := mC x (gC z) ∧ mS x 0 (cN (gC z)) (gS z) ∧ mH x (cN (gC z)) (gH z) ∧ mI x (cN (gC z)) (gI z) ∧ mN x (gN z) (gB z) ∧ x 122 26 = nI (gD z) ∧ x 121 16 = gF z ∧ mT x (gT z)
theorem mC_f {x x' : jM} {C : aC} (h : ∀ k, k = 3 ∨ k = 4 ∨ k = 5 ∨ k = 8 → x' 121 k = x 121 k) (h2 : ∀ i, 124 ≤ i → i ≤ 126 → x' i = x i) (hC : mC x C) : mC x' C := by
  obtain ⟨h1, h2', h3, h4, h5, h6, h7⟩ := hC
  refine ⟨by rw [h 3 (by omega)]; exact h1, by rw [h 4 (by omega)]; exact h2', by rw [h 5 (by omega)]; exact h3, by rw [h 8 (by omega)]; exact h4, fun k hk => ?_, fun k hk => ?_, fun k hk => ?_⟩
  · rw [h2 124 (by omega) (by omega)]; exact h5 k hk
  · rw [h2 125 (by omega) (by omega)]; exact h6 k hk
  · rw [h2 126 (by omega) (by omega)]; exact h7 k hk
theorem mS_f {x x' : jM} {r n : Nat} {S : aS} (hn : n ≤ 8) (hp : sP S ≤ 8) (h : ∀ j, r ≤ j → j < r + 26 → x' 122 j = x 122 j) (hS : mS x r n S) : mS x' r n S := by
  obtain ⟨h1, h2, h3, h4, h5⟩ := hS
  refine ⟨fun k hk => ?_, ?_, fun k hk => ?_, fun k hk => ?_, ?_⟩
  · rw [h _ (by omega) (by omega)]; exact h1 k hk
  · rw [h _ (by omega) (by omega)]; exact h2
  · rw [h _ (by omega) (by omega)]; exact h3 k hk
  · rw [h _ (by omega) (by omega)]; exact h4 k hk
  · rw [h _ (by omega) (by omega)]; exact h5
theorem mS_cp {x x' : jM} {a b n : Nat} {S : aS} (hn : n ≤ 8) (hp : sP S ≤ 8) (h : ∀ k, k < 26 → x' 122 (b + k) = x 122 (a + k)) (hS : mS x a n S) : mS x' b n S := by
  obtain ⟨h1, h2, h3, h4, h5⟩ := hS
  refine ⟨fun k hk => ?_, ?_, fun k hk => ?_, fun k hk => ?_, ?_⟩
  · rw [Nat.add_assoc, h _ (by omega), ← Nat.add_assoc]; exact h1 k hk
  · rw [h _ (by omega)]; exact h2
  · rw [Nat.add_assoc, h _ (by omega), ← Nat.add_assoc]; exact h3 k hk
  · rw [Nat.add_assoc, h _ (by omega), ← Nat.add_assoc]; exact h4 k hk
  · have := h 0 (by decide)
    exact this.trans h5
theorem mH_f {x x' : jM} {n : Nat} {hs : List aS} (hn : n ≤ 8) (hw : ∀ S ∈ hs, wS n S) (h1 : x' 121 2 = x 121 2) (h : ∀ j, 108 ≤ j → x' 122 j = x 122 j) (hh : mH x n hs) : mH x' n hs := by
  obtain ⟨g1, g2, g3⟩ := hh
  exact ⟨by rw [h1]; exact g1, g2, fun k S hk => mS_f hn (hw S (List.mem_of_getElem? hk)).2.1 (fun j q1 q2 => h j (by omega)) (g3 k S hk)⟩
theorem mI_f {x x' : jM} {n : Nat} {im : Nat → Option (aS × Nat)} (hn : n ≤ 8) (hw : ∀ i S s, im i = some (S, s) → wS n S ∧ s < 2147483648) (h1 : x' 123 = x 123) (h : ∀ j, 54 ≤ j → j < 108 → x' 122 j = x 122 j) (hh : mI x n im) : mI x' n im := by
  intro i hi
  obtain ⟨g1, g2⟩ := hh i hi
  refine ⟨fun e => by rw [h1]; exact g1 e, fun S s e => ?_⟩
  obtain ⟨q1, q2, q3⟩ := g2 S s e
  exact ⟨by rw [h1]; exact q1, mS_f hn (hw i S s e).1.2.1 (fun j a b => h j (by omega) (by omega)) q2, by rw [h _ (by omega) (by omega)]; exact q3⟩
theorem mN_f {x x' : jM} {u : aN} {v : aB} (h : ∀ k, k = 27 ∨ k = 29 → x' 121 k = x 121 k) (h2 : ∀ i, 133 ≤ i → i ≤ 135 → x' i = x i) (hh : mN x u v) : mN x' u v := by
  obtain ⟨h1, h2', h3, h4, h5⟩ := hh
  refine ⟨by rw [h 27 (by omega)]; exact h1, fun k hk => ?_, by rw [h 29 (by omega)]; exact h3, fun k hk => ?_, fun k hk => ?_⟩
  · rw [h2 133 (by omega) (by omega)]; exact h2' k hk
  · rw [h2 134 (by omega) (by omega)]; exact h4 k hk
  · rw [h2 135 (by omega) (by omega)]; exact h5 k hk
theorem mT_f {x x' : jM} {u : aN} (h : x' 121 11 = x 121 11) (h2 : x' 127 = x 127) (hh : mT x u) : mT x' u := ⟨by rw [h]; exact hh.1, fun k hk => by rw [h2]; exact hh.2 k hk⟩
/-- what the state doesn't hang on may change -/
theorem RM_f {x x' : jM} {z : aX} (hw : wX z) (h : ∀ k, k < 12 ∨ k = 16 ∨ 26 < k → x' 121 k = x 121 k) (h1 : ∀ j, j < 27 ∨ 53 < j → x' 122 j = x 122 j) (h2 : ∀ i, 123 ≤ i → i < 128 ∨ 132 < i → x' i = x i) (hh : RM z x) : RM z x' := by
  obtain ⟨r1, r2, r3, r4, r5, r6, r7, r8⟩ := hh
  obtain ⟨w1, w2, w3, w4, -⟩ := hw
  have b3 := w1.2.2.1
  refine ⟨mC_f (fun k hk => h k (by omega)) (fun i g1 g2 => h2 i (by omega) (by omega)) r1, mS_f b3 w2.2.1 (fun j g1 g2 => h1 j (by omega)) r2, mH_f b3 w3.2 (h 2 (by omega)) (fun j g1 => h1 j (by omega)) r3, mI_f b3 w4 (h2 123 (by omega) (by omega)) (fun j g1 g2 => h1 j (by omega)) r4, mN_f (fun k hk => h k (by omega)) (fun i g1 g2 => h2 i (by omega) (by omega)) r5, ?_, ?_, mT_f (h 11 (by omega)) (h2 127 (by omega) (by omega)) r8⟩
  · rw [h1 26 (by omega)]; exact r6
  · rw [h 16 (by omega)]; exact r7
theorem RM_n {x x' : jM} {z : aX} {S : aS} (hw : wX z) (h : ∀ i, i ≠ 122 → x' i = x i) (h1 : ∀ j, 26 ≤ j → x' 122 j = x 122 j) (hS : mS x' 0 (cN (gC z)) S) (hh : RM z x) : RM (zNow z S) x' := by
  obtain ⟨r1, -, r3, r4, r5, r6, r7, r8⟩ := hh
  obtain ⟨w1, w2, w3, w4, -⟩ := hw
  have b3 := w1.2.2.1
  have e := h 121 (by decide)
  refine ⟨mC_f (fun k hk => by rw [e]) (fun i g1 g2 => h i (by omega)) r1, hS, mH_f b3 w3.2 (by rw [e]) (fun j g1 => h1 j (by omega)) r3, mI_f b3 w4 (h 123 (by decide)) (fun j g1 g2 => h1 j (by omega)) r4, mN_f (fun k hk => by rw [e]) (fun i g1 g2 => h i (by omega)) r5, ?_, ?_, mT_f (by rw [e]) (h 127 (by decide)) r8⟩
  · rw [h1 26 (by omega)]; exact r6
  · rw [e]; exact r7
theorem RM_h {x x' : jM} {z : aX} {hs : List aS} (hw : wX z) (h : ∀ i, i ≠ 121 → i ≠ 122 → x' i = x i) (h0 : ∀ k, k ≠ 2 → x' 121 k = x 121 k) (h1 : ∀ j, j < 108 → x' 122 j = x 122 j) (hH : mH x' (cN (gC z)) hs) (hh : RM z x) : RM (gC z, gS z, hs, gI z, gN z, gB z, gD z, gF z, gT z) x' := by
  obtain ⟨r1, r2, -, r4, r5, r6, r7, r8⟩ := hh
  obtain ⟨w1, w2, w3, w4, -⟩ := hw
  have b3 := w1.2.2.1
  refine ⟨mC_f (fun k hk => h0 k (by omega)) (fun i g1 g2 => h i (by omega) (by omega)) r1, mS_f b3 w2.2.1 (fun j g1 g2 => h1 j (by omega)) r2, hH, mI_f b3 w4 (h 123 (by decide) (by decide)) (fun j g1 g2 => h1 j (by omega)) r4, mN_f (fun k hk => h0 k (by omega)) (fun i g1 g2 => h i (by omega) (by omega)) r5, ?_, ?_, mT_f (h0 11 (by decide)) (h 127 (by decide) (by decide)) r8⟩
  · rw [h1 26 (by omega)]; exact r6
  · rw [h0 16 (by decide)]; exact r7
section MJ
variable {d n : Nat} {x : jM} {Q : Option Value → jM → Prop} {S : aS} {hs : List aS} {z : aX}
theorem m_mindsT (hn : n ≤ 8) (hl : hs.length < 20) (hH : mH x n hs) (hw : ∀ S ∈ hs, wS n S) (hS : mS x 0 n S) (ws : wS n S) (g : Option Value) (h : ∀ x', (∀ i, i ≠ 121 → i ≠ 122 → x' i = x i) → (∀ k, k ≠ 2 → x' 121 k = x 121 k) → (∀ j, j < 108 → x' 122 j = x 122 j) → mH x' n (S :: hs) → Q none x') : jw (d + 1) kX7_minds Q 31 [some (.ref 121), g] [] x := by
  obtain ⟨g1, g2, g3⟩ := hH
  iterate 6 refine jw_u rfl ?_
  refine jtop g1 ?_
  refine jw_u rfl ?_
  refine jtop (pk_mul 27 hs.length) ?_
  refine jw_u rfl ?_
  refine jtop (nI_add 108 _) ?_
  refine jw_u rfl ?_
  refine m_copy (a := 0) (b := 108 + 27 * hs.length) (by decide) (by omega) (Or.inl (by omega)) (fun x1 f1 f2 f3 => ?_)
  have e2 : x1 121 2 = nI hs.length := by rw [f1 121 (by decide)]; exact g1
  iterate 3 refine jw_u rfl ?_
  refine jtop e2 ?_
  iterate 2 refine jw_u rfl ?_
  refine jtop (nI_add hs.length 1) ?_
  refine jw_u rfl ⟨fun h => (by cases h), ?_⟩
  refine jw_u rfl ?_
  have fw : ∀ j, ju x1 121 2 (nI (hs.length + 1)) 122 j = x1 122 j := fun j => ju_o (by decide)
  refine h _ (fun i h1 h2 => by rw [ju_oo h1, f1 i h2]) (fun k hk => by rw [ju_k hk, f1 121 (by decide)]) (fun j hj => by rw [fw, f3 j (by omega)]) ⟨ju_s _ _ _ _, by rw [List.length_cons]; omega, fun k S' hk => ?_⟩
  rw [List.length_cons]
  match k, hk with
  | 0, hk =>
    cases hk
    rw [show hs.length + 1 - 1 - 0 = hs.length by omega]
    refine mS_cp (x := x) (a := 0) hn ws.2.1 (fun k hk => ?_) hS
    rw [fw, f2 k (by omega)]
  | k + 1, hk =>
    have hk : hs[k]? = some S' := by simpa using hk
    have hkl := (List.getElem?_eq_some_iff.mp hk).1
    rw [show hs.length + 1 - 1 - (k + 1) = hs.length - 1 - k by omega]
    refine mS_f hn (hw S' (List.mem_of_getElem? hk)).2.1 (fun j q1 q2 => ?_) (g3 k S' hk)
    rw [fw, f3 j (by omega)]
theorem m_minds (hn : n ≤ 8) (hH : mH x n hs) (hw : ∀ S ∈ hs, wS n S) (hS : mS x 0 n S) (ws : wS n S) (h : ∀ x', (∀ i, i ≠ 121 → i ≠ 122 → x' i = x i) → (∀ k, k ≠ 2 → x' 121 k = x 121 k) → (∀ j, j < 108 → x' 122 j = x 122 j) → mH x' n ((S :: hs).take 20) → Q none x') : jo (d + 2) 114 [.ref 121] x Q := by
  obtain ⟨g1, g2, g3⟩ := id hH
  refine jo_i rfl rfl (Nat.le_of_ble_eq_true rfl) ?_
  iterate 2 refine jw_u rfl ?_
  refine jtop g1 ?_
  refine jw_u rfl ?_
  refine jw_u rfl ⟨fun (c : ¬ nI hs.length = nI 20) => ?_, fun (c : nI hs.length = nI 20) => ?_⟩
  · rw [nI_eq (by omega) (by decide)] at c
    refine m_mindsT hn (by omega) hH hw hS ws none (fun x' h1 h2 h3 h4 => h x' h1 h2 h3 ?_)
    rw [List.take_of_length_le (by rw [List.length_cons]; omega)]
    exact h4
  · rw [nI_eq (by omega) (by decide)] at c
    have loop : ∀ i, i ≤ 513 → ∀ y, (∀ i, i ≠ 122 → y i = x i) → (∀ k, k < i → y 122 (108 + k) = x 122 (135 + k)) → (∀ j, j < 108 ∨ 108 + i ≤ j → y 122 j = x 122 j) → jw (d + 1) kX7_minds Q 6 [some (.ref 121), some (.int (nI i))] [] y := by
      refine dn _ 513 (fun y y1 y2 y3 => ?_) (fun i hi ih y y1 y2 y3 => ?_)
      · iterate 2 refine jw_u rfl ?_
        refine jw_u rfl ⟨fun _ => ?_, fun (c' : ¬ nI 513 ≤ nI 513) => absurd (Int32.le_refl _) c'⟩
        iterate 3 refine jw_u rfl ?_
        refine jtop (v' := nI 20) (by rw [y1 121 (by decide), g1, c]) ?_
        iterate 2 refine jw_u rfl ?_
        refine jtop (v' := nI 19) (by decide) ?_
        refine jw_u rfl ⟨fun h => (by cases h), ?_⟩
        have lt : (hs.take 19).length = 19 := by rw [List.length_take]; omega
        have fw : ∀ j, ju y 121 2 (nI 19) 122 j = y 122 j := fun j => ju_o (by decide)
        refine m_mindsT (hs := hs.take 19) (S := S) hn (by omega) ⟨by rw [lt]; exact ju_s _ _ _ _, by omega, fun k S' hk => ?_⟩ (fun S' hS' => hw S' (List.mem_of_mem_take hS')) (mS_f hn ws.2.1 (fun j q1 q2 => by rw [fw, y3 j (by omega)]) hS) ws _ (fun x' h1 h2 h3 h4 => h x' (fun i q1 q2 => by rw [h1 i q1 q2, ju_oo q1, y1 i q2]) (fun k hk => by rw [h2 k hk, ju_k hk, y1 121 (by decide)]) (fun j hj => by rw [h3 j hj, fw, y3 j (by omega)]) ?_)
        · have hk19 : k < 19 := by
            have := (List.getElem?_eq_some_iff.mp hk).1
            omega
          rw [List.getElem?_take, if_pos hk19] at hk
          have := g3 k S' hk
          rw [c] at this
          rw [lt]
          refine mS_cp (x := x) (a := 108 + 27 * (20 - 1 - k)) hn (hw S' (List.mem_of_getElem? hk)).2.1 (fun m hm => ?_) this
          rw [fw, show 108 + 27 * (19 - 1 - k) + m = 108 + (27 * (19 - 1 - k) + m) by omega, y2 _ (by omega)]
          congr 1
          omega
        · rw [List.take_succ_cons]
          exact h4
      · iterate 2 refine jw_u rfl ?_
        refine jw_u rfl ⟨fun (c' : nI 513 ≤ nI i) => absurd c' (nI_ge hi (by decide)), fun _ => ?_⟩
        iterate 5 refine jw_u rfl ?_
        refine jtop (nI_add 108 i) ?_
        iterate 5 refine jw_u rfl ?_
        refine jtop (nI_add 108 i) ?_
        iterate 2 refine jw_u rfl ?_
        refine jtop (nI_add (108 + i) 27) ?_
        refine jw_u rfl (jaN (o := 122) (show 108 + i + 27 < 648 by omega) (by decide) (y3 (108 + i + 27) (by omega)) ?_)
        refine jw_u rfl (jsN (o := 122) (show 108 + i < 648 by omega) (by decide) ?_)
        iterate 2 refine jw_u rfl ?_
        have := ih (ju y 122 (108 + i) (x 122 (108 + i + 27))) (fun k hk => by rw [ju_oo hk]; exact y1 k hk) (fun k hk => by
          by_cases e : k = i
          · subst e
            rw [ju_s]
            congr 1
            omega
          · rw [ju_k (by omega)]; exact y2 k (by omega)) (fun j hj => by rw [ju_k (by omega)]; exact y3 j (by omega))
        rw [nI_s i] at this
        exact this
    iterate 2 refine jw_u rfl ?_
    exact loop 0 (Nat.zero_le _) x (fun _ _ => rfl) (fun k hk => absurd hk (Nat.not_lt_zero _)) (fun _ _ => rfl)
end MJ
