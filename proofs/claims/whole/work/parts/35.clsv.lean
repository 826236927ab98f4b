/-! THE CLASS: sham, turned, one -/
theorem mn_s1 {v w : Nat} (hv : v < 1000) (hw : w < 1000) : (if nI w - nI 1 < nI v - nI 1 then nI w - nI 1 else nI v - nI 1) = nI (min v w) - nI 1 := by
  have e1 : (nI w - nI 1).toInt = (w : Int) - 1 := pk_sub_toInt (by omega) (by decide)
  have e2 : (nI v - nI 1).toInt = (v : Int) - 1 := pk_sub_toInt (by omega) (by decide)
  by_cases h : w < v
  · rw [if_pos (by rw [Int32.lt_iff_toInt_lt, e1, e2]; omega), Nat.min_eq_right (by omega)]
  · rw [if_neg (by rw [Int32.lt_iff_toInt_lt, e1, e2]; omega), Nat.min_eq_left (by omega)]
theorem s1a (v : Nat) : nI (v + 1) - nI 1 = nI v := pk_sub (a := v + 1) (b := 1) (by omega)
section CY
variable {d : Nat} {x : jM} {Q : Option Value → jM → Prop} {C : aC} {S : aS}
theorem c_sham {p : Int32} (hC : xC x 11 C) (hS : xS x 15 (cN C) S) (wc : wC C) (ws : wS (cN C) S) (h : Q (some (.int (fSham C S p))) x) : jo (d + 2) 47 [.ref 0, .int p] x Q := by
  have b3 := wc.2.2.1
  have b2 := wc.2.1
  have c3 := hC.2.2.1
  have c2 := hC.2.1
  have s1 := hS.1
  have w1 := ws.1
  refine jo_i rfl rfl (Nat.le_of_ble_eq_true rfl) ?_
  iterate 3 refine jw_u rfl ?_
  unfold fSham at h
  refine c_isPerson c3 (fun hp => ?_) (fun hp => ?_)
  rotate_left
  · refine jw_u rfl ⟨fun c => absurd n00 c, fun _ => ?_⟩
    rw [if_neg hp] at h
    iterate 2 refine jw_u rfl ?_
    exact ⟨fun h => (by cases h), h⟩
  refine jw_u rfl ⟨fun _ => ?_, fun c => absurd c n10⟩
  rw [if_pos hp] at h
  obtain ⟨j, hj, rfl⟩ := ilt (by omega) hp
  rw [nI_clamp (by omega)] at h
  have bf : ∀ k, k < cN C → ap (sH S k) (cG C) ≤ 27 := fun k hk => ap_lt (w1 k hk) b2
  have bo := bf j hj
  have loop : ∀ i, i ≤ cN C → ∀ g, jw (d + 1) kX6_sham Q 10 [some (.ref 0), some (.int (nI j)), some (.int (nI (al (fun k => ap (sH S k) (cG C)) j 101 i) - nI 1)), some (.int (nI i)), g] [] x := by
    refine dn _ (cN C) (fun g => ?_) (fun i hi ih g => ?_)
    · have q1 := al_le (f := fun k => ap (sH S k) (cG C)) (j := j) (z := 101) (cN C)
      have q2 := al_min (f := fun k => ap (sH S k) (cG C)) (j := j) (z := 101) (w := 1000001) (by decide) (cN C)
      generalize al (fun k => ap (sH S k) (cG C)) j 101 (cN C) = v at q1 q2 ⊢
      generalize al (fun k => ap (sH S k) (cG C)) j 1000001 (cN C) = w at q2 h
      have e2 : (nI v - nI 1).toInt = (v : Int) - 1 := pk_sub_toInt (by omega) (by decide)
      iterate 4 refine jw_u rfl ?_
      refine jw_u rfl ⟨fun _ => ?_, fun (c' : ¬ x 11 2 ≤ nI (cN C)) => absurd (by rw [c3]; exact Int32.le_refl _) c'⟩
      refine jw_u rfl ?_
      refine jw_u rfl ⟨fun (c' : 0 ≤ nI v - nI 1) => ?_, fun (c' : ¬ 0 ≤ nI v - nI 1) => ?_⟩
      · have hv : 1 ≤ v := by
          rw [Int32.le_iff_toInt_le, e2] at c'
          have : (0 : Int32).toInt = 0 := by decide
          omega
        iterate 5 refine jw_u rfl ?_
        refine jw_u rfl (jaN (show j < 8 by omega) (by decide) (s1 j hj) ?_)
        iterate 3 refine jw_u rfl ?_
        refine jtop c2 ?_
        refine jw_u rfl ?_
        refine c_apart (w1 j hj) b2 ?_
        iterate 3 refine jw_u rfl ?_
        refine jw_u rfl ?_
        refine ⟨fun h => (by cases h), ?_⟩
        unfold shR at h
        rw [if_neg (by omega)] at h
        refine jret ?_ h
        show (if nI 0 < nI (ap (sH S j) (cG C)) - (nI v - nI 1) then nI (ap (sH S j) (cG C)) - (nI v - nI 1) else nI 0) = _
        obtain ⟨u, rfl⟩ : ∃ u, v = u + 1 := ⟨v - 1, by omega⟩
        rw [s1a]
        have e3 : ap (sH S j) (cG C) - (w - 1) = ap (sH S j) (cG C) - u := by omega
        rw [e3]
        by_cases hlt : u < ap (sH S j) (cG C)
        · rw [pk_sub (by omega), if_pos (nI_lt (by omega) (by omega))]
        · have : ¬ nI 0 < nI (ap (sH S j) (cG C)) - nI u := by
            rw [Int32.lt_iff_toInt_lt, pk_sub_toInt (by omega) (by omega), nI_toInt (by decide)]
            omega
          rw [if_neg this, show ap (sH S j) (cG C) - u = 0 by omega]
      · have hv : v = 0 := by
          rw [Int32.le_iff_toInt_le, e2] at c'
          have : (0 : Int32).toInt = 0 := by decide
          omega
        unfold shR at h
        rw [if_pos (by omega)] at h
        iterate 2 refine jw_u rfl ?_
        exact ⟨fun h => (by cases h), jret jm1 h⟩
    · have q1 := al_le (f := fun k => ap (sH S k) (cG C)) (j := j) (z := 101) i
      have q3 := bf i hi
      rw [nI_s i] at ih
      iterate 4 refine jw_u rfl ?_
      refine jw_u rfl ⟨fun (c' : x 11 2 ≤ nI i) => absurd c' (by rw [c3]; exact nI_ge hi (by omega)), fun _ => ?_⟩
      iterate 2 refine jw_u rfl ?_
      refine jw_u rfl ⟨fun (c' : nI i = nI j) => ?_, fun (c' : ¬ nI i = nI j) => ?_⟩
      · rw [nI_eq (by omega) (by omega)] at c'
        have ih := ih g
        rw [al, if_pos c'] at ih
        iterate 2 refine jw_u rfl ?_
        exact ih
      rw [nI_eq (by omega) (by omega)] at c'
      have ih := ih (some (.int (nI (ap (sH S i) (cG C)))))
      rw [al, if_neg c'] at ih
      iterate 4 refine jw_u rfl ?_
      refine jw_u rfl (jaN (show i < 8 by omega) (by decide) (s1 i hi) ?_)
      iterate 3 refine jw_u rfl ?_
      refine jtop c2 ?_
      refine jw_u rfl ?_
      refine c_apart (w1 i hi) b2 ?_
      iterate 4 refine jw_u rfl ?_
      refine jw_u rfl ⟨fun (c2 : nI j ≤ nI i) => ?_, fun (c2 : ¬ nI j ≤ nI i) => ?_⟩
      · rw [nI_leI (by omega) (by omega)] at c2
        rw [if_neg (by omega)] at ih
        iterate 1 refine jw_u rfl ?_
        refine jtop (s1a _).symm ?_
        refine jw_u rfl ?_
        refine jtop (mn_s1 (by omega) (by omega)) ?_
        iterate 3 refine jw_u rfl ?_
        exact ih
      · rw [nI_leI (by omega) (by omega)] at c2
        rw [if_pos (by omega)] at ih
        iterate 5 refine jw_u rfl ?_
        refine jtop (mn_s1 (by omega) (by omega)) ?_
        iterate 3 refine jw_u rfl ?_
        exact ih
  iterate 4 refine jw_u rfl ?_
  have := loop 0 (Nat.zero_le _) none
  rw [show nI (al (fun k => ap (sH S k) (cG C)) j 101 0) - nI 1 = nI 100 from (by decide : nI 101 - nI 1 = nI 100)] at this
  exact this
theorem oI_eq {o : Option Nat} {c : Nat} (hc : c < 1000) (ho : ∀ b, o = some b → b < 1000) : oI o = nI c ↔ o = some c := by
  cases o with
  | none =>
    constructor
    · intro e
      have e : (-1 : Int32) = nI c := e
      have : nI c < 0 := by rw [← e]; decide
      exact absurd this (nI_pos (by omega))
    · intro e; cases e
  | some r =>
    have hr := ho r rfl
    constructor
    · intro e
      have e : nI r = nI c := e
      rw [nI_eq (by omega) (by omega)] at e
      rw [e]
    · intro e; cases e; rfl
theorem c_turned {m c : Int32} (hC : xC x 11 C) (wc : wC C) (h : Q (some (.int (fTurned C m c))) x) : jo (d + 3) 50 [.ref 0, .int m, .int c] x Q := by
  obtain ⟨-, -, -, c4, -, -, c7⟩ := hC
  obtain ⟨-, -, -, b4, -, -, b7⟩ := wc
  refine jo_i rfl rfl (Nat.le_of_ble_eq_true rfl) ?_
  iterate 3 refine jw_u rfl ?_
  unfold fTurned at h
  refine c_isCandidate c4 (fun hp => ?_) (fun hp => ?_)
  rotate_left
  · refine jw_u rfl ⟨fun c => absurd n00 c, fun _ => ?_⟩
    rw [if_neg hp] at h
    iterate 2 refine jw_u rfl ?_
    exact ⟨fun h => (by cases h), h⟩
  refine jw_u rfl ⟨fun _ => ?_, fun c => absurd c n10⟩
  rw [if_pos hp] at h
  iterate 2 refine jw_u rfl ?_
  refine c_isMark (fun hm => ?_) (fun hm => ?_)
  rotate_left
  · refine jw_u rfl ⟨fun c => absurd n00 c, fun _ => ?_⟩
    rw [if_neg hm] at h
    iterate 2 refine jw_u rfl ?_
    exact ⟨fun h => (by cases h), h⟩
  refine jw_u rfl ⟨fun _ => ?_, fun c => absurd c n10⟩
  rw [if_pos hm] at h
  obtain ⟨j, hj, rfl⟩ := ilt (by omega) hp
  obtain ⟨a, ha, rfl⟩ := ilt (by decide) hm
  rw [nI_clamp (by omega), nI_clamp (by omega)] at h
  have loop : ∀ i, i ≤ 1000 → ∀ g, jw (d + 2) kX6_turned Q 15 [some (.ref 0), some (.int (nI a)), some (.int (nI j)), some (.int (nI (tn C a j 100 i))), some (.int (nI i)), g] [] x := by
    refine dn _ 1000 (fun g => ?_) (fun i hi ih g => ?_)
    · have q1 := tn_le (C := C) (a := a) (c := j) (z := 100) 1000
      iterate 2 refine jw_u rfl ?_
      refine jw_u rfl ⟨fun _ => ?_, fun (c' : ¬ nI 1000 ≤ nI 1000) => absurd (Int32.le_refl _) c'⟩
      iterate 2 refine jw_u rfl ?_
      refine jw_u rfl ⟨fun (c' : ¬ nI (tn C a j 100 1000) = nI 100) => ?_, fun (c' : nI (tn C a j 100 1000) = nI 100) => ?_⟩
      · rw [nI_eq (by omega) (by decide)] at c'
        rw [if_neg c'] at h
        iterate 2 refine jw_u rfl ?_
        exact ⟨fun h => (by cases h), h⟩
      · rw [nI_eq (by omega) (by decide)] at c'
        rw [if_pos c'] at h
        iterate 3 refine jw_u rfl ?_
        exact ⟨fun h => (by cases h), jret jm1 h⟩
    · have q1 := tn_le (C := C) (a := a) (c := j) (z := 100) i
      have q2 := ap_lt ha hi
      have ih := ih (some (.int (nI (ap a i))))
      rw [nI_s i] at ih
      iterate 2 refine jw_u rfl ?_
      refine jw_u rfl ⟨fun (c' : nI 1000 ≤ nI i) => absurd c' (nI_ge hi (by decide)), fun _ => ?_⟩
      iterate 3 refine jw_u rfl ?_
      refine c_apart ha hi ?_
      iterate 3 refine jw_u rfl ?_
      refine jw_u rfl ⟨fun (c' : nI (tn C a j 100 i) ≤ nI (ap a i)) => ?_, fun (c' : ¬ nI (tn C a j 100 i) ≤ nI (ap a i)) => ?_⟩
      · rw [nI_leI (by omega) (by omega)] at c'
        rw [tn, if_neg (fun hc => absurd hc.1 (by omega))] at ih
        iterate 2 refine jw_u rfl ?_
        exact ih
      · rw [nI_leI (by omega) (by omega)] at c'
        iterate 3 refine jw_u rfl ?_
        refine c_choice c4 b4 c7 b7 hi ?_
        refine jw_u rfl ?_
        have eo : oI (ch C i) = nI j ↔ ch C i = some j := oI_eq (by omega) (fun b hb => by have := am_lt hb; omega)
        refine jw_u rfl ⟨fun (c2 : ¬ oI (ch C i) = nI j) => ?_, fun (c2 : oI (ch C i) = nI j) => ?_⟩
        · rw [eo] at c2
          rw [tn, if_neg (fun hc => c2 hc.2)] at ih
          iterate 2 refine jw_u rfl ?_
          exact ih
        · rw [eo] at c2
          rw [tn, if_pos ⟨by omega, c2⟩] at ih
          iterate 4 refine jw_u rfl ?_
          exact ih
  iterate 4 refine jw_u rfl ?_
  exact loop 0 (Nat.zero_le _) none
theorem c_one {p q : Int32} (hC : xC x 11 C) (hS : xS x 15 (cN C) S) (wc : wC C) (ws : wS (cN C) S) (h : ∀ x', (∀ k, k < 19 ∨ 22 < k → x' k = x k) → Q (some (.int (fOne C S p q))) x') : jo (d + 4) 51 [.ref 0, .int p, .int q] x Q := by
  obtain ⟨-, c2, c3, -, c5, c6, -⟩ := hC
  obtain ⟨-, b2, b3, -, b5, b6, -⟩ := wc
  obtain ⟨w1, w2, w3, w4, w5⟩ := ws
  have out : ¬ ((0 ≤ p ∧ p < nI (cN C)) ∧ (0 ≤ q ∧ q < nI (cN C)) ∧ ¬ p = q) → jw (d + 3) kX6_one Q 11 [some (.ref 0), some (.int p), some (.int q), none] [] x := by
    intro hm
    have h := h x (fun _ _ => rfl)
    unfold fOne at h
    rw [if_neg hm] at h
    iterate 2 refine jw_u rfl ?_
    exact ⟨fun h => (by cases h), h⟩
  refine jo_i rfl rfl (Nat.le_of_ble_eq_true rfl) ?_
  iterate 3 refine jw_u rfl ?_
  refine c_isPerson c3 (fun hp => ?_) (fun hp => ?_)
  rotate_left
  · refine jw_u rfl ⟨fun _ => out (fun hc => hp hc.1), fun c => absurd n00 c⟩
  refine jw_u rfl ⟨fun c => absurd c n10, fun _ => ?_⟩
  iterate 3 refine jw_u rfl ?_
  refine c_isPerson c3 (fun hq => ?_) (fun hq => ?_)
  rotate_left
  · refine jw_u rfl ⟨fun _ => out (fun hc => hq hc.2.1), fun c => absurd n00 c⟩
  refine jw_u rfl ⟨fun c => absurd c n10, fun _ => ?_⟩
  iterate 2 refine jw_u rfl ?_
  refine jw_u rfl ⟨fun (c' : ¬ p = q) => ?_, fun (c' : p = q) => out (fun hc => hc.2.2 c')⟩
  have hm : (0 ≤ p ∧ p < nI (cN C)) ∧ (0 ≤ q ∧ q < nI (cN C)) ∧ ¬ p = q := ⟨hp, hq, c'⟩
  obtain ⟨j, hj, rfl⟩ := ilt (by omega) hp
  obtain ⟨k, hk, rfl⟩ := ilt (by omega) hq
  unfold fOne at h
  rw [if_pos hm, nI_clamp (by omega), nI_clamp (by omega)] at h
  iterate 5 refine jw_u rfl ?_
  refine c_takeS stI_19 stI_15 ?_
  have hX := xS_cp (x := x) (o := 19) (s := 15) (n := cN C) (Or.inr (by decide)) b3 w2 hS
  have fr : ∀ k, k < 19 ∨ 22 < k → cpS x 19 15 k = x k := fun k hk => cpS_f (by omega)
  generalize cpS x 19 15 = x1 at hX fr ⊢
  have loop : ∀ t, t ≤ 61 → ∀ x2, (∀ k, k < 19 ∨ 22 < k → x2 k = x k) → (∀ k, k < cN C → x2 20 k = nI (ya (cDr C k) (cG C) (sY S) (sH S k) t)) → x2 19 4 = nI (sY S + t) → (∀ x', (∀ k, k < 19 ∨ 22 < k → x' k = x k) → Q (some (.int (on1 (oneP C S j k) (61 - t) t))) x') → jw (d + 3) kX6_one Q 20 [some (.ref 0), some (.int (nI j)), some (.int (nI k)), some (.int (nI t))] [] x2 := by
    refine dn _ 61 (fun x2 f1 f2 f3 hq => ?_) (fun t ht ih x2 f1 f2 f3 hq => ?_)
    · iterate 2 refine jw_u rfl ?_
      refine jw_u rfl ⟨fun _ => ?_, fun (c' : ¬ nI 60 < nI 61) => absurd (by decide) c'⟩
      iterate 2 refine jw_u rfl ?_
      exact ⟨fun h => (by cases h), jret jm1 (hq x2 f1)⟩
    · have e3 : x2 11 2 = nI (cN C) := by rw [f1 11 (by omega)]; exact c3
      have e2 : x2 11 1 = nI (cG C) := by rw [f1 11 (by omega)]; exact c2
      have b1 : ∀ k, k < cN C → ya (cDr C k) (cG C) (sY S) (sH S k) t < 1000 := fun k hk => ya_lt (w1 k hk) b2 t
      rw [show 61 - t = (61 - (t + 1)) + 1 by omega, on1] at hq
      iterate 2 refine jw_u rfl ?_
      refine jw_u rfl ⟨fun (c' : nI 60 < nI t) => absurd c' (nI_nlt (by omega) (by decide)), fun _ => ?_⟩
      iterate 6 refine jw_u rfl ?_
      refine c_toldApart (o := 19) (hd := fun k => ya (cDr C k) (cG C) (sY S) (sH S k) t) (Or.inr rfl) b3 f2 (fun k hk => by rw [f1 12 (by omega)]; exact c5 k hk) b1 b5 hj hk (fun hw => ?_) (fun hw => ?_)
      · have hw : oneP C S j k t = false := hw
        refine jw_u rfl ⟨fun _ => ?_, fun c => absurd c n10⟩
        iterate 5 refine jw_u rfl ?_
        refine c_passYears (o := 19) (m := 1) (y := sY S + t) (hd := fun k => ya (cDr C k) (cG C) (sY S) (sH S k) t) (dr := cDr C) (Or.inr rfl) (by decide) (by omega) e3 b3 e2 b2 (fun k hk => by rw [f1 13 (by omega)]; exact c6 k hk) b6 f2 b1 f3 (fun x3 y1 y2 y3 y4 => ?_)
        iterate 2 refine jw_u rfl ?_
        have := ih x3 (fun k hk => by rw [y1 k (by omega) (by omega)]; exact f1 k hk) (fun k hk => by rw [y4 k hk]; rfl) y3 (fun x' hx' => by
          have := hq x' hx'
          rw [if_neg (by rw [hw]; decide)] at this
          exact this)
        rw [nI_s t] at this
        exact this
      · have hw : oneP C S j k t = true := hw
        refine jw_u rfl ⟨fun c => absurd n00 c, fun _ => ?_⟩
        have := hq x2 f1
        rw [if_pos hw] at this
        iterate 2 refine jw_u rfl ?_
        exact ⟨fun h => (by cases h), this⟩
  iterate 2 refine jw_u rfl ?_
  exact loop 0 (Nat.zero_le _) x1 fr hX.1 hX.2.2.2.2 h
end CY
