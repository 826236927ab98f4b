/-! THE CLASS: states copied -/
/-- o is a State's cell -/
def stI (o : Nat) : Prop := o + 3 < 136 ∧ jK o = (5, 5, jsl [o + 3, 0, o + 4, o + 5, 0]) ∧ jK (o + 1) = (8, 8, fun _ => 0) ∧ jK (o + 2) = (8, 8, fun _ => 0) ∧ jK (o + 3) = (8, 8, fun _ => 0)
theorem stI_7 : stI 7 := ⟨by decide, rfl, rfl, rfl, rfl⟩
theorem stI_15 : stI 15 := ⟨by decide, rfl, rfl, rfl, rfl⟩
theorem stI_19 : stI 19 := ⟨by decide, rfl, rfl, rfl, rfl⟩
theorem stI_107 : stI 107 := ⟨by decide, rfl, rfl, rfl, rfl⟩
theorem stI_112 : stI 112 := ⟨by decide, rfl, rfl, rfl, rfl⟩
theorem stI_h {k : Nat} (hk : k < 20) : stI (25 + 4 * k) := by
  have key : ∀ r, r < 4 → jK (25 + 4 * k + r) = jKst (25 + 4 * k) r := by
    intro r hr
    unfold jK
    rw [if_neg (by omega), if_pos (by omega)]
    rw [show (25 + 4 * k + r - 25) / 4 = k by omega, show (25 + 4 * k + r - 25) % 4 = r by omega]
  refine ⟨by omega, ?_, ?_, ?_, ?_⟩
  · exact (key 0 (by decide)).trans rfl
  · exact (key 1 (by decide)).trans rfl
  · exact (key 2 (by decide)).trans rfl
  · exact (key 3 (by decide)).trans rfl
theorem stI_job {o b : Nat} (h : stI o) (hb : b < 5) : job 136 jK o 5 b = true := by
  have : o < 136 := by have := h.1; omega
  simp [job, h.2.1, hb, this]
theorem stI_jar {o r : Nat} (h : stI o) (hr : r = 1 ∨ r = 2 ∨ r = 3) : jar 136 jK (o + r) 8 = true := by
  have h0 := h.1
  rcases hr with rfl | rfl | rfl
  · have : o + 1 < 136 := by omega
    simp [jar, h.2.2.1, this]
  · have : o + 2 < 136 := by omega
    simp [jar, h.2.2.2.1, this]
  · have : o + 3 < 136 := by omega
    simp [jar, h.2.2.2.2, this]
theorem stI_len {o r : Nat} (h : stI o) (hr : r = 1 ∨ r = 2 ∨ r = 3) : (jK (o + r)).2.1 = 8 := by
  rcases hr with rfl | rfl | rfl
  · rw [h.2.2.1]
  · rw [h.2.2.2.1]
  · rw [h.2.2.2.2]
theorem stI_slot {o b : Nat} (h : stI o) : (jK o).2.2 b = jsl [o + 3, 0, o + 4, o + 5, 0] b := by rw [h.2.1]
/-- the state s copied into the state o -/
def cpA (x : jM) (o s r : Nat) : jM := jua x (o + r) (va_cpy (x (s + r)) (x (o + r)) 0 0 8)
def cpS (x : jM) (o s : Nat) : jM :=
  let x1 := ju x o 1 (x s 1)
  let x2 := ju x1 o 4 (x1 s 4)
  let x3 := cpA x2 o s 1
  let x4 := cpA x3 o s 2
  cpA x4 o s 3
theorem cpA_o {x : jM} {o s r i : Nat} (h : i ≠ o + r) : cpA x o s r i = x i := jua_o h
theorem cpA_s {x : jM} {o s r k : Nat} (hk : k < 8) : cpA x o s r (o + r) k = x (s + r) k := by
  unfold cpA
  rw [jua_s]
  simp [va_cpy, hk]
theorem ju_oo {x : jM} {o o' k : Nat} {v : Int32} (h : o' ≠ o) : ju x o k v o' = x o' := by funext z; exact ju_o h
theorem cpS_f {x : jM} {o s i : Nat} (h : i < o ∨ o + 3 < i) : cpS x o s i = x i := by
  unfold cpS
  rw [cpA_o (by omega), cpA_o (by omega), cpA_o (by omega), ju_oo (by omega), ju_oo (by omega)]
theorem cpS_1 {x : jM} {o s : Nat} : cpS x o s o 1 = x s 1 := by
  unfold cpS
  rw [cpA_o (by omega), cpA_o (by omega), cpA_o (by omega), ju_k (by decide), ju_s]
theorem cpS_4 {x : jM} {o s : Nat} (h : s ≠ o) : cpS x o s o 4 = x s 4 := by
  unfold cpS
  rw [cpA_o (by omega), cpA_o (by omega), cpA_o (by omega), ju_s, ju_o h]
theorem cpS_r {x : jM} {o s r k : Nat} (hd : o + 3 < s ∨ s + 3 < o) (hr : r = 1 ∨ r = 2 ∨ r = 3) (hk : k < 8) : cpS x o s (o + r) k = x (s + r) k := by
  unfold cpS
  rcases hr with rfl | rfl | rfl
  · rw [cpA_o (by omega), cpA_o (by omega), cpA_s hk, ju_oo (by omega), ju_oo (by omega)]
  · rw [cpA_o (by omega), cpA_s hk, cpA_o (by omega), ju_oo (by omega), ju_oo (by omega)]
  · rw [cpA_s hk, cpA_o (by omega), cpA_o (by omega), ju_oo (by omega), ju_oo (by omega)]
section CQ5
variable {d : Nat} {x : jM} {Q : Option Value → jM → Prop}
theorem c_takeS {o s : Nat} (ho : stI o) (hs : stI s) (h : Q none (cpS x o s)) : jo (d + 1) 23 [.ref o, .ref s] x Q := by
  have cp : ∀ (r : Nat), (r = 1 ∨ r = 2 ∨ r = 3) → (nI 0).toNatClampNeg + (nI 8).toNatClampNeg ≤ (jK (s + r)).2.1 ∧ (nI 0).toNatClampNeg + (nI 8).toNatClampNeg ≤ (jK (o + r)).2.1 := by
    intro r hr
    rw [stI_len hs hr, stI_len ho hr]
    decide
  have go1 : (jK o).2.2 1 = 0 := by rw [stI_slot ho]; rfl
  have go4 : (jK o).2.2 4 = 0 := by rw [stI_slot ho]; rfl
  have so1 : (jK s).2.2 1 = 0 := by rw [stI_slot hs]; rfl
  have so4 : (jK s).2.2 4 = 0 := by rw [stI_slot hs]; rfl
  have g0 : ∀ z, stI z → (jK z).2.2 0 = z + 1 + 2 := fun z hz => by rw [stI_slot hz]; rfl
  have g2 : ∀ z, stI z → (jK z).2.2 2 = z + 2 + 2 := fun z hz => by rw [stI_slot hz]; rfl
  have g3 : ∀ z, stI z → (jK z).2.2 3 = z + 3 + 2 := fun z hz => by rw [stI_slot hz]; rfl
  have jo0 := stI_job ho (b := 0) (by decide)
  have jo1 := stI_job ho (b := 1) (by decide)
  have jo2 := stI_job ho (b := 2) (by decide)
  have jo3 := stI_job ho (b := 3) (by decide)
  have jo4 := stI_job ho (b := 4) (by decide)
  have js0 := stI_job hs (b := 0) (by decide)
  have js1 := stI_job hs (b := 1) (by decide)
  have js2 := stI_job hs (b := 2) (by decide)
  have js3 := stI_job hs (b := 3) (by decide)
  have js4 := stI_job hs (b := 4) (by decide)
  have arr : ∀ r, (r = 1 ∨ r = 2 ∨ r = 3) → (jcs [] && jar 136 jK (s + r) 8 && jar 136 jK (o + r) 8) = true := fun r hr => by rw [stI_jar hs hr, stI_jar ho hr]; rfl
  refine jo_i rfl rfl (Nat.le_of_ble_eq_true rfl) ?_
  iterate 2 refine jw_u rfl ?_
  refine jw_u rfl (jB_i js1 (jrk_0 so1 ?_))
  refine jw_u rfl (jB_i (by rw [jo1, go1]; rfl) ⟨fun h => (by cases h), ?_⟩)
  iterate 2 refine jw_u rfl ?_
  refine jw_u rfl (jB_i js4 (jrk_0 so4 ?_))
  refine jw_u rfl (jB_i (by rw [jo4, go4]; rfl) ⟨fun h => (by cases h), ?_⟩)
  refine jw_u rfl ?_
  refine jw_u rfl (jB_i js0 (jrk_r (g0 s hs) ?_))
  iterate 2 refine jw_u rfl ?_
  refine jw_u rfl (jB_i jo0 (jrk_r (g0 o ho) ?_))
  iterate 2 refine jw_u rfl ?_
  refine jw_u rfl (jB_i (arr 1 (by simp)) ⟨by decide, by decide, by decide, (cp 1 (by simp)).1, (cp 1 (by simp)).2, ?_⟩)
  refine jw_u rfl ?_
  refine jw_u rfl (jB_i js2 (jrk_r (g2 s hs) ?_))
  iterate 2 refine jw_u rfl ?_
  refine jw_u rfl (jB_i jo2 (jrk_r (g2 o ho) ?_))
  iterate 2 refine jw_u rfl ?_
  refine jw_u rfl (jB_i (arr 2 (by simp)) ⟨by decide, by decide, by decide, (cp 2 (by simp)).1, (cp 2 (by simp)).2, ?_⟩)
  refine jw_u rfl ?_
  refine jw_u rfl (jB_i js3 (jrk_r (g3 s hs) ?_))
  iterate 2 refine jw_u rfl ?_
  refine jw_u rfl (jB_i jo3 (jrk_r (g3 o ho) ?_))
  iterate 2 refine jw_u rfl ?_
  refine jw_u rfl (jB_i (arr 3 (by simp)) ⟨by decide, by decide, by decide, (cp 3 (by simp)).1, (cp 3 (by simp)).2, ?_⟩)
  refine jw_u rfl ?_
  exact h
end CQ5
