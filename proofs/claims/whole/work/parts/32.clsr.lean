/-! THE CLASS: sets, sums, the tree, the first clash -/
theorem bitc : ∀ s, s < 256 → (fun v : Int32 =>
    let v1 := v - ((v.toUInt32 >>> ((nI 1).toUInt32 &&& Int32.toUInt32 31)).toInt32 &&& nI 1431655765)
    let v2 := (v1 &&& nI 858993459) + ((v1.toUInt32 >>> ((nI 2).toUInt32 &&& Int32.toUInt32 31)).toInt32 &&& nI 858993459)
    let v3 := (v2 + (v2.toUInt32 >>> ((nI 4).toUInt32 &&& Int32.toUInt32 31)).toInt32) &&& nI 252645135
    let v4 := v3 + (v3.toUInt32 >>> ((nI 8).toUInt32 &&& Int32.toUInt32 31)).toInt32
    let v5 := v4 + (v4.toUInt32 >>> ((nI 16).toUInt32 &&& Int32.toUInt32 31)).toInt32
    v5 &&& nI 63) (nI s) = nI (pp s) := by decide +kernel
theorem pp_le (s : Nat) : pp s ≤ 8 := cA_le _ 8
theorem c_bitCount {d s : Nat} {x : jM} {Q : Option Value → jM → Prop} (hs : s < 256) (h : Q (some (.int (nI (pp s)))) x) : jo (d + 1) 155 [.int (nI s)] x Q := by
  refine jo_i rfl rfl (Nat.le_of_ble_eq_true rfl) ?_
  iterate 42 refine jw_u rfl ?_
  exact ⟨fun h => (by cases h), jret (bitc s hs) h⟩
/-- the most of whom any two are told apart -/
def atB (n : Nat) (hd sl : Nat → Nat) (s : Nat) : Bool := (rsp n 0).all (fun q => !(bt s q.1 == 1 && bt s q.2 == 1) || !nr (hd q.1) (hd q.2) (sl q.1 + sl q.2))
theorem atB_iff {n : Nat} {hd sl : Nat → Nat} {s : Nat} : atB n hd sl s = true ↔ (∀ p q, p < q → q < n → bt s p = 1 → bt s q = 1 → nr (hd p) (hd q) (sl p + sl q) = false) := by
  unfold atB
  rw [List.all_eq_true]
  constructor
  · intro h p q h1 h2 h3 h4
    have := h (p, q) (rsp_mem.mpr ⟨Nat.zero_le _, h1, h2⟩)
    simpa [h3, h4] using this
  · intro h ⟨p, q⟩ hq
    obtain ⟨-, h1, h2⟩ := rsp_mem.mp hq
    by_cases h3 : bt s p = 1
    · by_cases h4 : bt s q = 1
      · simp [h p q h1 h2 h3 h4]
      · simp [h4]
    · simp [h3]
def mo (n : Nat) (hd sl : Nat → Nat) : Nat → Nat
  | 0 => 0
  | i + 1 => if pp (mo n hd sl i) < pp i ∧ atB n hd sl i = true then i else mo n hd sl i
theorem mo_le (n : Nat) (hd sl : Nat → Nat) : ∀ i, mo n hd sl i ≤ i
  | 0 => Nat.le_refl _
  | i + 1 => by
    have := mo_le n hd sl i
    rw [mo]
    split <;> omega
def fMost (C : aC) (S : aS) : Int32 := nI (mo (cN C) (sH S) (cSl C) (2 ^ cN C))
theorem shl1 : ∀ n, n < 9 → nI 1 <<< (nI n &&& 31) = nI (2 ^ n) := by decide +kernel
theorem p2 {n : Nat} (h : n ≤ 8) : 2 ^ n ≤ 256 := Nat.le_trans (Nat.pow_le_pow_right (by decide) h) (by decide)
def fClash (C : aC) (S : aS) : Int32 := cI ((rsp (cN C) 0).find? (fun q => nr (sH S q.1) (sH S q.2) (cSl C q.1 + cSl C q.2)))
def fForged (C : aC) (S : aS) : Int32 := sb (fun s => !nr (sM S s) (sH S (sN S s)) (cSl C (sN S s))) (sP S)
def fMakers (C : aC) (S : aS) (p : Int32) : Int32 := if 0 ≤ p ∧ p < nI (sP S) then sb (pS C S (sM S p.toNatClampNeg)) (cN C) &&& (nI 1 <<< (nI (sN S p.toNatClampNeg) &&& 31) ^^^ jc (-1)) else kU
/-- the weights of all that pass -/
def oA (P : Nat → Bool) (w : Nat → Nat) : Nat → Nat
  | 0 => 0
  | q + 1 => if P q = true then oA P w q + w q else oA P w q
theorem oA_le0 {P : Nat → Bool} {w : Nat → Nat} {z : Nat} (hw : ∀ k, w k ≤ z) : ∀ q, oA P w q ≤ q * z
  | 0 => Nat.zero_le _
  | q + 1 => by
    have h1 := oA_le0 (P := P) hw q
    have h2 := hw q
    rw [oA, Nat.succ_mul]
    generalize q * z = y at *
    split <;> omega
theorem oA_le {P : Nat → Bool} {w : Nat → Nat} (hw : ∀ k, w k ≤ 1000000) (q : Nat) : oA P w q ≤ q * 1000000 := oA_le0 hw q
theorem oA_ge {P : Nat → Bool} {w : Nat → Nat} : ∀ {n p : Nat}, p < n → P p = true → w p ≤ oA P w n
  | 0, p, h, _ => absurd h (Nat.not_lt_zero _)
  | n + 1, p, h, hp => by
    rw [oA]
    by_cases e : p = n
    · subst e
      rw [if_pos hp]
      omega
    · have := oA_ge (P := P) (w := w) (n := n) (p := p) (by omega) hp
      split <;> omega
abbrev wt (C : aC) (S : aS) (p : Nat) : Nat := 1000000 / pcn (sH S p) (cSl C p) 3
theorem wt_le (C : aC) (S : aS) (p : Nat) : wt C S p ≤ 1000000 := Nat.div_le_self _ _
theorem wt_ge (C : aC) (S : aS) (p : Nat) : 1000 ≤ wt C S p := by
  have h1 := pcn_1 (sH S p) (cSl C p) 3
  have h2 := pcn_3 (a := sH S p) (s := cSl C p) (Nat.le_refl 3)
  show 1000 ≤ 1000000 / _
  rw [Nat.le_div_iff_mul_le (by omega)]
  omega
def fOdds (C : aC) (S : aS) (p m : Int32) : Int32 :=
  if 0 ≤ p ∧ p < nI (cN C) then (if 0 ≤ m ∧ m < nI 1000 then (if pS C S m.toNatClampNeg p.toNatClampNeg = true then nI (wt C S p.toNatClampNeg * 1000000 / oA (pS C S m.toNatClampNeg) (wt C S) (cN C)) else nI 0) else kO) else kU
theorem lg_pos {a : Nat} (h : 0 < a) (ha : a < 2 ^ 63) : lg_cmp (lN a) (lN 0) = 1 := by
  have : lN 0 < lN a := (pk_lLT (by decide) ha).mpr h
  simp [lg_cmp, this]
section CV
variable {d : Nat} {x : jM} {Q : Option Value → jM → Prop} {C : aC} {S : aS}
theorem c_most (hC : xC x 11 C) (hS : xS x 15 (cN C) S) (wc : wC C) (ws : wS (cN C) S) (h : Q (some (.int (fMost C S))) x) : jo (d + 4) 42 [.ref 0] x Q := by
  obtain ⟨-, -, c3, -, c5, -⟩ := hC
  obtain ⟨s1, -⟩ := hS
  obtain ⟨-, -, b3, -, b5, -⟩ := wc
  obtain ⟨w1, -⟩ := ws
  have b2 := p2 b3
  have b9 : 1 ≤ 2 ^ cN C := Nat.one_le_two_pow
  have loop : ∀ i, i ≤ 2 ^ cN C → 1 ≤ i → ∀ g, jw (d + 3) kX6_most Q 12 [some (.ref 0), some (.int (nI (mo (cN C) (sH S) (cSl C) i))), some (.int (nI (pp (mo (cN C) (sH S) (cSl C) i)))), some (.int (nI (2 ^ cN C))), some (.int (nI i)), g] [] x := by
    refine dn _ (2 ^ cN C) (fun _ g => ?_) (fun i hi ih hi1 g => ?_)
    · iterate 2 refine jw_u rfl ?_
      refine jw_u rfl ⟨fun _ => ?_, fun (c' : ¬ nI (2 ^ cN C) ≤ nI (2 ^ cN C)) => absurd (Int32.le_refl _) c'⟩
      iterate 2 refine jw_u rfl ?_
      exact ⟨fun h => (by cases h), h⟩
    · have ih := ih (by omega) (some (.int (nI (pp i))))
      have q1 := pp_le i
      have q2 := pp_le (mo (cN C) (sH S) (cSl C) i)
      rw [nI_s i] at ih
      iterate 2 refine jw_u rfl ?_
      refine jw_u rfl ⟨fun (c' : nI (2 ^ cN C) ≤ nI i) => absurd c' (nI_ge hi (by omega)), fun _ => ?_⟩
      iterate 2 refine jw_u rfl ?_
      refine c_bitCount (by omega) ?_
      iterate 3 refine jw_u rfl ?_
      refine jw_u rfl ⟨fun (c' : nI (pp i) ≤ nI (pp (mo (cN C) (sH S) (cSl C) i))) => ?_, fun (c' : ¬ nI (pp i) ≤ nI (pp (mo (cN C) (sH S) (cSl C) i))) => ?_⟩
      · rw [nI_leI (by omega) (by omega)] at c'
        iterate 2 refine jw_u rfl ?_
        rw [mo, if_neg (fun hc => absurd hc.1 (Nat.not_lt.mpr c'))] at ih
        exact ih
      · rw [nI_leI (by omega) (by omega)] at c'
        iterate 3 refine jw_u rfl ?_
        refine c_allTold c3 b3 s1 c5 w1 b5 (by omega) (fun ha => ?_) (fun ha => ?_)
        · refine jw_u rfl ⟨fun c => absurd c n10, fun _ => ?_⟩
          iterate 6 refine jw_u rfl ?_
          rw [mo, if_pos ⟨Nat.not_le.mp c', atB_iff.mpr ha⟩] at ih
          exact ih
        · refine jw_u rfl ⟨fun _ => ?_, fun c => absurd n00 c⟩
          iterate 2 refine jw_u rfl ?_
          rw [mo, if_neg (fun hc => ha (atB_iff.mp hc.2))] at ih
          exact ih
  refine jo_i rfl rfl (Nat.le_of_ble_eq_true rfl) ?_
  iterate 7 refine jw_u rfl ?_
  refine jw_u rfl ?_
  refine jtop c3 ?_
  refine jw_u rfl ?_
  refine jtop (shl1 _ (by omega)) ?_
  iterate 3 refine jw_u rfl ?_
  have e1 : mo (cN C) (sH S) (cSl C) 1 = 0 := by
    rw [mo]
    split <;> rfl
  have := loop 1 b9 (Nat.le_refl _) none
  rw [e1] at this
  exact this
theorem c_clash (hC : xC x 11 C) (hS : xS x 15 (cN C) S) (wc : wC C) (ws : wS (cN C) S) (h : Q (some (.int (fClash C S))) x) : jo (d + 3) 43 [.ref 0] x Q := by
  obtain ⟨-, -, c3, -, c5, -⟩ := hC
  obtain ⟨s1, -⟩ := hS
  obtain ⟨-, -, b3, -, b5, -⟩ := wc
  obtain ⟨w1, -⟩ := ws
  have loop : ∀ p, p ≤ cN C → ∀ g, Q (some (.int (cI ((rsp (cN C) p).find? (fun q => nr (sH S q.1) (sH S q.2) (cSl C q.1 + cSl C q.2)))))) x → jw (d + 2) kX6_clash Q 2 [some (.ref 0), some (.int (nI p)), g] [] x := by
    refine dn _ (cN C) (fun g hq => ?_) (fun p hp ih g hq => ?_)
    · rw [rsp_n (Nat.le_refl _)] at hq
      iterate 4 refine jw_u rfl ?_
      refine jw_u rfl ⟨fun _ => ?_, fun (c' : ¬ x 11 2 ≤ nI (cN C)) => absurd (by rw [c3]; exact Int32.le_refl _) c'⟩
      iterate 2 refine jw_u rfl ?_
      exact ⟨fun h => (by cases h), jret jm1 hq⟩
    · have inner : ∀ q, q ≤ cN C → p < q → Q (some (.int (cI ((rwp (cN C) p q ++ rsp (cN C) (p + 1)).find? (fun q => nr (sH S q.1) (sH S q.2) (cSl C q.1 + cSl C q.2)))))) x → jw (d + 2) kX6_clash Q 11 [some (.ref 0), some (.int (nI p)), some (.int (nI q))] [] x := by
        refine dn _ (cN C) (fun _ hq => ?_) (fun q hq' ihq hpq hq => ?_)
        · rw [rwp_n (Nat.le_refl _), List.nil_append] at hq
          iterate 4 refine jw_u rfl ?_
          refine jw_u rfl ⟨fun _ => ?_, fun (c' : ¬ x 11 2 ≤ nI (cN C)) => absurd (by rw [c3]; exact Int32.le_refl _) c'⟩
          iterate 2 refine jw_u rfl ?_
          have := ih (some (.int (nI (cN C)))) hq
          rw [nI_s p] at this
          exact this
        · rw [rwp_c hq', List.cons_append, List.find?_cons] at hq
          iterate 4 refine jw_u rfl ?_
          refine jw_u rfl ⟨fun (c' : x 11 2 ≤ nI q) => absurd c' (by rw [c3]; exact nI_ge hq' (by omega)), fun _ => ?_⟩
          iterate 6 refine jw_u rfl ?_
          refine c_toldApart (Or.inl rfl) b3 s1 c5 w1 b5 hp hq' (fun hw => ?_) (fun hw => ?_)
          · refine jw_u rfl ⟨fun _ => ?_, fun c => absurd c n10⟩
            iterate 2 refine jw_u rfl ?_
            simp only [hw] at hq
            have := ihq (by omega) hq
            rw [nI_s q] at this
            exact this
          · refine jw_u rfl ⟨fun c => absurd n00 c, fun _ => ?_⟩
            simp only [hw] at hq
            iterate 3 refine jw_u rfl ?_
            refine jtop (pk_mul 10 p) ?_
            iterate 2 refine jw_u rfl ?_
            refine jtop (nI_add _ _) ?_
            refine jw_u rfl ?_
            exact ⟨fun h => (by cases h), hq⟩
      rw [rsp_c hp] at hq
      iterate 4 refine jw_u rfl ?_
      refine jw_u rfl ⟨fun (c' : x 11 2 ≤ nI p) => absurd c' (by rw [c3]; exact nI_ge hp (by omega)), fun _ => ?_⟩
      iterate 3 refine jw_u rfl ?_
      refine jtop (nI_add _ _) ?_
      refine jw_u rfl ?_
      exact inner (p + 1) hp (Nat.lt_succ_self _) hq
  refine jo_i rfl rfl (Nat.le_of_ble_eq_true rfl) ?_
  iterate 2 refine jw_u rfl ?_
  exact loop 0 (Nat.zero_le _) none h
theorem c_forged (hC : xC x 11 C) (hS : xS x 15 (cN C) S) (wc : wC C) (ws : wS (cN C) S) (h : Q (some (.int (fForged C S))) x) : jo (d + 3) 44 [.ref 0] x Q := by
  obtain ⟨-, -, c3, -, c5, -⟩ := hC
  obtain ⟨s1, s2, s3, s4, -⟩ := hS
  obtain ⟨-, -, b3, -, b5, -⟩ := wc
  obtain ⟨w1, w2, w3, w4, -⟩ := ws
  have loop : ∀ i, i ≤ sP S → jw (d + 2) kX6_forged Q 4 [some (.ref 0), some (.int (sb (fun s => !nr (sM S s) (sH S (sN S s)) (cSl C (sN S s))) i)), some (.int (nI i))] [] x := by
    refine dn _ (sP S) ?_ (fun i hi ih => ?_)
    · iterate 4 refine jw_u rfl ?_
      refine jw_u rfl ⟨fun _ => ?_, fun (c' : ¬ x 15 1 ≤ nI (sP S)) => absurd (by rw [s2]; exact Int32.le_refl _) c'⟩
      iterate 2 refine jw_u rfl ?_
      exact ⟨fun h => (by cases h), h⟩
    · rw [nI_s i] at ih
      iterate 4 refine jw_u rfl ?_
      refine jw_u rfl ⟨fun (c' : x 15 1 ≤ nI i) => absurd c' (by rw [s2]; exact nI_ge hi (by omega)), fun _ => ?_⟩
      iterate 5 refine jw_u rfl ?_
      refine jw_u rfl (jaN (show i < 8 by omega) (by decide) (s3 i hi) ?_)
      iterate 4 refine jw_u rfl ?_
      refine jw_u rfl (jaN (show i < 8 by omega) (by decide) (s4 i hi) ?_)
      refine jw_u rfl ?_
      refine c_passes c3 b3 s1 c5 w1 b5 (w3 i hi) (w4 i hi) (fun hw => ?_) (fun hw => ?_)
      · refine jw_u rfl ⟨fun _ => ?_, fun c => absurd c n10⟩
        iterate 2 refine jw_u rfl ?_
        rw [sb, if_neg (by simp [hw])] at ih
        exact ih
      · refine jw_u rfl ⟨fun c => absurd n00 c, fun _ => ?_⟩
        iterate 8 refine jw_u rfl ?_
        rw [sb, if_pos (by simp [hw])] at ih
        exact ih
  refine jo_i rfl rfl (Nat.le_of_ble_eq_true rfl) ?_
  iterate 4 refine jw_u rfl ?_
  exact loop 0 (Nat.zero_le _)
theorem c_makers {p : Int32} (hC : xC x 11 C) (hS : xS x 15 (cN C) S) (wc : wC C) (ws : wS (cN C) S) (h : Q (some (.int (fMakers C S p))) x) : jo (d + 4) 45 [.ref 0, .int p] x Q := by
  obtain ⟨-, -, c3, -, c5, -⟩ := hC
  obtain ⟨s1, s2, s3, s4, -⟩ := hS
  obtain ⟨-, -, b3, -, b5, -⟩ := wc
  obtain ⟨w1, w2, w3, w4, -⟩ := ws
  refine jo_i rfl rfl (Nat.le_of_ble_eq_true rfl) ?_
  iterate 3 refine jw_u rfl ?_
  unfold fMakers at h
  refine c_isPaper s2 (fun hp => ?_) (fun hp => ?_)
  · refine jw_u rfl ⟨fun _ => ?_, fun c => absurd c n10⟩
    rw [if_pos hp] at h
    obtain ⟨j, hj, rfl⟩ := ilt (by omega) hp
    rw [nI_clamp (by omega)] at h
    iterate 5 refine jw_u rfl ?_
    refine jw_u rfl (jaN (show j < 8 by omega) (by decide) (s3 j hj) ?_)
    refine jw_u rfl ?_
    refine c_passSet c3 b3 s1 c5 w1 b5 (w3 j hj) ?_
    iterate 5 refine jw_u rfl ?_
    refine jw_u rfl (jaN (show j < 8 by omega) (by decide) (s4 j hj) ?_)
    iterate 5 refine jw_u rfl ?_
    exact ⟨fun h => (by cases h), h⟩
  · refine jw_u rfl ⟨fun c => absurd n00 c, fun _ => ?_⟩
    rw [if_neg hp] at h
    iterate 2 refine jw_u rfl ?_
    exact ⟨fun h => (by cases h), h⟩
theorem c_odds {p m : Int32} (hC : xC x 11 C) (hS : xS x 15 (cN C) S) (wc : wC C) (ws : wS (cN C) S) (h : Q (some (.int (fOdds C S p m))) x) : jo (d + 4) 38 [.ref 0, .int p, .int m] x Q := by
  obtain ⟨-, -, c3, -, c5, -⟩ := hC
  obtain ⟨s1, s2, s3, s4, -⟩ := hS
  obtain ⟨-, -, b3, -, b5, -⟩ := wc
  obtain ⟨w1, w2, w3, w4, -⟩ := ws
  refine jo_i rfl rfl (Nat.le_of_ble_eq_true rfl) ?_
  iterate 3 refine jw_u rfl ?_
  unfold fOdds at h
  refine c_isPerson c3 (fun hp => ?_) (fun hp => ?_)
  rotate_left
  · refine jw_u rfl ⟨fun c => absurd n00 c, fun _ => ?_⟩
    rw [if_neg hp] at h
    iterate 2 refine jw_u rfl ?_
    exact ⟨fun h => (by cases h), h⟩
  refine jw_u rfl ⟨fun _ => ?_, fun c => absurd c n10⟩
  rw [if_pos hp] at h
  iterate 2 refine jw_u rfl ?_
  refine c_isMark (fun hm => ?_) (fun hm => ?_)
  rotate_left
  · refine jw_u rfl ⟨fun c => absurd n00 c, fun _ => ?_⟩
    rw [if_neg hm] at h
    iterate 2 refine jw_u rfl ?_
    exact ⟨fun h => (by cases h), h⟩
  refine jw_u rfl ⟨fun _ => ?_, fun c => absurd c n10⟩
  rw [if_pos hm] at h
  obtain ⟨j, hj, rfl⟩ := ilt (by omega) hp
  obtain ⟨a, ha, rfl⟩ := ilt (by decide) hm
  rw [nI_clamp (by omega), nI_clamp (by omega)] at h
  iterate 4 refine jw_u rfl ?_
  refine c_passes c3 b3 s1 c5 w1 b5 ha hj (fun hw => ?_) (fun hw => ?_)
  rotate_left
  · refine jw_u rfl ⟨fun c => absurd n00 c, fun _ => ?_⟩
    have hw : pS C S a j = false := hw
    rw [if_neg (by rw [hw]; decide)] at h
    iterate 2 refine jw_u rfl ?_
    exact ⟨fun h => (by cases h), h⟩
  refine jw_u rfl ⟨fun _ => ?_, fun c => absurd c n10⟩
  rw [if_pos hw] at h
  have g1 := oA_ge (P := pS C S a) (w := wt C S) hj hw
  have g2 := wt_ge C S j
  have g3 := wt_le C S j
  have g4 := oA_le (P := pS C S a) (wt_le C S) (cN C)
  have loop : ∀ i, i ≤ cN C → jw (d + 3) kX6_odds Q 22 [some (.ref 0), some (.int (nI j)), some (.int (nI a)), some (.long (lN (oA (pS C S a) (wt C S) i))), none, some (.int (nI i))] [] x := by
    refine dn _ (cN C) ?_ (fun i hi ih => ?_)
    · iterate 4 refine jw_u rfl ?_
      refine jw_u rfl ⟨fun _ => ?_, fun (c' : ¬ x 11 2 ≤ nI (cN C)) => absurd (by rw [c3]; exact Int32.le_refl _) c'⟩
      iterate 3 refine jw_u rfl ?_
      refine jtop (lg_pos (by omega) (by omega)) ?_
      refine jw_u rfl ⟨fun _ => ?_, fun (c' : ¬ (0 : Int32) < 1) => absurd (by decide) c'⟩
      iterate 3 refine jw_u rfl ?_
      refine c_weight b3 s1 c5 w1 b5 hj ?_
      refine jw_u rfl ?_
      refine jtopL (nI_l (n := wt C S j) (by omega)) ?_
      iterate 3 refine jw_u rfl ?_
      refine jw_u rfl ⟨?_, ?_⟩
      · intro e
        have := (pk_lEQ (a := oA (pS C S a) (wt C S) (cN C)) (b := 0) (by omega) (by decide)).mp e
        omega
      refine jtopL (v' := lN (wt C S j * 1000000 / oA (pS C S a) (wt C S) (cN C))) ?_ ?_
      · show lN _ * lN 1000000 / lN _ = _
        rw [lN_mul, pk_lDiv (a := wt C S j * 1000000) (by omega) (by omega) (by omega)]
      iterate 2 refine jw_u rfl ?_
      exact ⟨fun h => (by cases h), jret (lN_i _) h⟩
    · rw [nI_s i] at ih
      have g5 := oA_le (P := pS C S a) (wt_le C S) i
      iterate 4 refine jw_u rfl ?_
      refine jw_u rfl ⟨fun (c' : x 11 2 ≤ nI i) => absurd c' (by rw [c3]; exact nI_ge hi (by omega)), fun _ => ?_⟩
      iterate 4 refine jw_u rfl ?_
      refine c_passes c3 b3 s1 c5 w1 b5 ha hi (fun hw2 => ?_) (fun hw2 => ?_)
      · refine jw_u rfl ⟨fun c => absurd c n10, fun _ => ?_⟩
        iterate 4 refine jw_u rfl ?_
        refine c_weight b3 s1 c5 w1 b5 hi ?_
        have g6 := wt_le C S i
        refine jw_u rfl ?_
        refine jtopL (nI_l (n := wt C S i) (by omega)) ?_
        refine jw_u rfl ?_
        refine jtopL (lN_add _ _) ?_
        iterate 3 refine jw_u rfl ?_
        rw [oA, if_pos hw2] at ih
        exact ih
      · refine jw_u rfl ⟨fun _ => ?_, fun c => absurd n00 c⟩
        iterate 2 refine jw_u rfl ?_
        have hw2 : pS C S a i = false := hw2
        rw [oA, if_neg (by rw [hw2]; decide)] at ih
        exact ih
  iterate 4 refine jw_u rfl ?_
  exact loop 0 (Nat.zero_le _)
end CV
