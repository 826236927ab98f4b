/-! THE REFERENCE: what its cells say; small questions -/
def mC (x : jM) (C : aC) : Prop := x 121 3 = nI (cT C) ∧ x 121 4 = nI (cG C) ∧ x 121 5 = nI (cN C) ∧ x 121 8 = nI (cC C) ∧ (∀ k, k < cN C → x 124 k = nI (cSl C k)) ∧ (∀ k, k < cN C → x 125 k = nI (cDr C k)) ∧ (∀ k, k < cC C → x 126 k = nI (cSq C k))
/-- the state in the block r -/
def mS (x : jM) (r n : Nat) (S : aS) : Prop := (∀ k, k < n → x 122 (r + 2 + k) = nI (sH S k)) ∧ x 122 (r + 1) = nI (sP S) ∧ (∀ k, k < sP S → x 122 (r + 10 + k) = nI (sM S k)) ∧ (∀ k, k < sP S → x 122 (r + 18 + k) = nI (sN S k)) ∧ x 122 r = nI (sY S)
theorem or0 (v : Int32) : v ||| nI 0 = v := by rw [n00]; simp
theorem tI0 {w : Int32} : w = 0 ↔ w.toInt = 0 := ⟨fun e => by rw [e]; decide, fun e => Int32.toInt_inj.mp (e.trans (by decide))⟩
theorem tI1 {w : Int32} : w = nI 1 ↔ w.toInt = 1 := ⟨fun e => by rw [e]; decide, fun e => Int32.toInt_inj.mp (e.trans (by decide))⟩
theorem nm1 {b : Nat} (hb : b < 2 ^ 31) : ¬ nI b = jc (-1) := by
  intro e
  rw [jm1] at e
  have : nI b < 0 := by rw [e]; decide
  exact nI_pos hb this
section MB
variable {d : Nat} {x : jM} {Q : Option Value → jM → Prop} {C : aC} {S : aS}
theorem m_fault (h : Q (some (.int (x 121 16))) x) : jo (d + 1) 104 [.ref 121] x Q := by
  refine jo_i rfl rfl (Nat.le_of_ble_eq_true rfl) ?_
  iterate 3 refine jw_u rfl ?_
  exact ⟨fun h => (by cases h), h⟩
theorem m_told {w : Int32} {tl sc ec hl : Nat} (hC : mC x C) (hS : mS x 0 (cN C) S) (bT : cT C ≤ 1) (h5 : x 121 11 = nI tl) (h7 : x 121 27 = nI sc) (h8 : x 121 29 = nI ec) (h9 : x 121 2 = nI hl) (h : Q (some (.int (fTold C S tl sc ec hl w.toInt))) x) : jo (d + 1) 105 [.ref 121, .int w] x Q := by
  obtain ⟨c1, c2, c3, c4, -⟩ := hC
  obtain ⟨-, s2, -, -, s5⟩ := hS
  refine jo_i rfl rfl (Nat.le_of_ble_eq_true rfl) ?_
  iterate 2 refine jw_u rfl ?_
  unfold fTold at h
  refine ⟨fun (e : w.toInt = 0) => ?_, fun (e0 : ¬ w.toInt = 0) => ⟨fun (e : w.toInt = 1) => ?_, fun (e1 : ¬ w.toInt = 1) => ⟨fun (e : w.toInt = 2) => ?_, fun (e2 : ¬ w.toInt = 2) => ⟨fun (e : w.toInt = 3) => ?_, fun (e3 : ¬ w.toInt = 3) => ⟨fun (e : w.toInt = 4) => ?_, fun (e4 : ¬ w.toInt = 4) => ⟨fun (e : w.toInt = 5) => ?_, fun (e5 : ¬ w.toInt = 5) => ⟨fun (e : w.toInt = 6) => ?_, fun (e6 : ¬ w.toInt = 6) => ⟨fun (e : w.toInt = 7) => ?_, fun (e7 : ¬ w.toInt = 7) => ⟨fun (e : w.toInt = 8) => ?_, fun (e8 : ¬ w.toInt = 8) => ⟨fun (e : w.toInt = 9) => ?_, fun (e9 : ¬ w.toInt = 9) => ?_⟩⟩⟩⟩⟩⟩⟩⟩⟩⟩
  · rw [if_pos e] at h
    iterate 2 refine jw_u rfl ?_
    refine jtop c1 ?_
    refine jw_u rfl ⟨fun (c : nI (cT C) = 0) => ?_, fun (c : ¬ nI (cT C) = 0) => ?_⟩
    · iterate 2 refine jw_u rfl ?_
      exact ⟨fun h => (by cases h), jret (c.trans n00.symm).symm h⟩
    · have e : cT C = 1 := by
        rcases (show cT C = 0 ∨ cT C = 1 by omega) with e | e
        · rw [e] at c
          exact absurd n00 c
        · exact e
      rw [e] at h
      iterate 3 refine jw_u rfl ?_
      exact ⟨fun h => (by cases h), h⟩
  · rw [if_neg e0, if_pos e] at h
    iterate 3 refine jw_u rfl ?_
    exact ⟨fun h => (by cases h), jret c2 h⟩
  · rw [if_neg e0, if_neg e1, if_pos e] at h
    iterate 3 refine jw_u rfl ?_
    exact ⟨fun h => (by cases h), jret c3 h⟩
  · rw [if_neg e0, if_neg e1, if_neg e2, if_pos e] at h
    iterate 3 refine jw_u rfl ?_
    refine jw_u rfl (jaN (o := 122) (show 1 < 648 by decide) (by decide) s2 ?_)
    refine jw_u rfl ?_
    exact ⟨fun h => (by cases h), h⟩
  · rw [if_neg e0, if_neg e1, if_neg e2, if_neg e3, if_pos e] at h
    iterate 3 refine jw_u rfl ?_
    exact ⟨fun h => (by cases h), jret c4 h⟩
  · rw [if_neg e0, if_neg e1, if_neg e2, if_neg e3, if_neg e4, if_pos e] at h
    iterate 3 refine jw_u rfl ?_
    exact ⟨fun h => (by cases h), jret h5 h⟩
  · rw [if_neg e0, if_neg e1, if_neg e2, if_neg e3, if_neg e4, if_neg e5, if_pos e] at h
    iterate 3 refine jw_u rfl ?_
    refine jw_u rfl (jaN (o := 122) (show 0 < 648 by decide) (by decide) s5 ?_)
    refine jw_u rfl ?_
    exact ⟨fun h => (by cases h), h⟩
  · rw [if_neg e0, if_neg e1, if_neg e2, if_neg e3, if_neg e4, if_neg e5, if_neg e6, if_pos e] at h
    iterate 3 refine jw_u rfl ?_
    exact ⟨fun h => (by cases h), jret h7 h⟩
  · rw [if_neg e0, if_neg e1, if_neg e2, if_neg e3, if_neg e4, if_neg e5, if_neg e6, if_neg e7, if_pos e] at h
    iterate 3 refine jw_u rfl ?_
    exact ⟨fun h => (by cases h), jret h8 h⟩
  · rw [if_neg e0, if_neg e1, if_neg e2, if_neg e3, if_neg e4, if_neg e5, if_neg e6, if_neg e7, if_neg e8, if_pos e] at h
    iterate 3 refine jw_u rfl ?_
    exact ⟨fun h => (by cases h), jret h9 h⟩
  · rw [if_neg e0, if_neg e1, if_neg e2, if_neg e3, if_neg e4, if_neg e5, if_neg e6, if_neg e7, if_neg e8, if_neg e9] at h
    iterate 2 refine jw_u rfl ?_
    exact ⟨fun h => (by cases h), h⟩
theorem m_person {p w : Int32} (hC : mC x C) (hS : mS x 0 (cN C) S) (wc : wC C) (ws : wS (cN C) S) (h : Q (some (.int (fPerson C S p w))) x) : jo (d + 3) 111 [.ref 121, .int p, .int w] x Q := by
  obtain ⟨c1, c2, c3, c4, c5, c6, -⟩ := hC
  obtain ⟨s1, -⟩ := hS
  obtain ⟨-, b2, b3, -⟩ := wc
  obtain ⟨w1, -⟩ := ws
  refine jo_i rfl rfl (Nat.le_of_ble_eq_true rfl) ?_
  iterate 3 refine jw_u rfl ?_
  unfold fPerson at h
  refine m_isPerson c3 b3 (fun hp => ?_) (fun hp => ?_)
  · refine jw_u rfl ⟨fun _ => ?_, fun c => absurd c n10⟩
    rw [if_pos hp] at h
    obtain ⟨j, hj, rfl⟩ := ilt (by omega) hp
    rw [nI_clamp (by omega)] at h
    iterate 2 refine jw_u rfl ?_
    refine ⟨fun (e : w.toInt = 0) => ?_, fun (e0 : ¬ w.toInt = 0) => ⟨fun (e : w.toInt = 1) => ?_, fun (e1 : ¬ w.toInt = 1) => ⟨fun (e : w.toInt = 2) => ?_, fun (e2 : ¬ w.toInt = 2) => ⟨fun (e : w.toInt = 3) => ?_, fun (e3 : ¬ w.toInt = 3) => ?_⟩⟩⟩⟩
    · rw [if_pos e] at h
      iterate 5 refine jw_u rfl ?_
      refine jtop (nI_add 2 j) ?_
      refine jw_u rfl (jaN (o := 122) (show 2 + j < 648 by omega) (by decide) (s1 j hj) ?_)
      refine jw_u rfl ?_
      exact ⟨fun h => (by cases h), h⟩
    · rw [if_neg e0, if_pos e] at h
      iterate 3 refine jw_u rfl ?_
      refine jw_u rfl (jaN (o := 124) (show j < 8 by omega) (by decide) (c5 j hj) ?_)
      refine jw_u rfl ?_
      exact ⟨fun h => (by cases h), h⟩
    · rw [if_neg e0, if_neg e1, if_pos e] at h
      iterate 3 refine jw_u rfl ?_
      refine jw_u rfl (jaN (o := 125) (show j < 8 by omega) (by decide) (c6 j hj) ?_)
      refine jw_u rfl ?_
      exact ⟨fun h => (by cases h), h⟩
    · rw [if_neg e0, if_neg e1, if_neg e2, if_pos e] at h
      iterate 5 refine jw_u rfl ?_
      refine jtop (nI_add 2 j) ?_
      refine jw_u rfl (jaN (o := 122) (show 2 + j < 648 by omega) (by decide) (s1 j hj) ?_)
      iterate 2 refine jw_u rfl ?_
      refine jtop c2 ?_
      refine jw_u rfl ?_
      refine m_apart (w1 j hj) b2 ?_
      refine jw_u rfl ?_
      exact ⟨fun h => (by cases h), h⟩
    · rw [if_neg e0, if_neg e1, if_neg e2, if_neg e3] at h
      iterate 2 refine jw_u rfl ?_
      exact ⟨fun h => (by cases h), h⟩
  · refine jw_u rfl ⟨fun c => absurd n00 c, fun _ => ?_⟩
    rw [if_neg hp] at h
    iterate 2 refine jw_u rfl ?_
    exact ⟨fun h => (by cases h), h⟩
theorem m_paper {p w : Int32} {n : Nat} (hS : mS x 0 n S) (ws : wS n S) (h : Q (some (.int (fPaper S p w))) x) : jo (d + 3) 112 [.ref 121, .int p, .int w] x Q := by
  obtain ⟨-, s2, s3, s4, -⟩ := hS
  obtain ⟨-, w2, -⟩ := ws
  refine jo_i rfl rfl (Nat.le_of_ble_eq_true rfl) ?_
  iterate 3 refine jw_u rfl ?_
  unfold fPaper at h
  refine m_isPaper s2 w2 (fun hp => ?_) (fun hp => ?_)
  · refine jw_u rfl ⟨fun _ => ?_, fun c => absurd c n10⟩
    rw [if_pos hp] at h
    obtain ⟨j, hj, rfl⟩ := ilt (by omega) hp
    rw [nI_clamp (by omega)] at h
    refine jw_u rfl ?_
    refine jw_u rfl ⟨fun (c : ¬ w = 0) => ?_, fun (c : w = 0) => ?_⟩
    · rw [tI0] at c
      rw [if_neg c] at h
      iterate 2 refine jw_u rfl ?_
      refine jw_u rfl ⟨fun (c2 : ¬ w = nI 1) => ?_, fun (c2 : w = nI 1) => ?_⟩
      · rw [tI1] at c2
        rw [if_neg c2] at h
        iterate 2 refine jw_u rfl ?_
        exact ⟨fun h => (by cases h), h⟩
      · rw [tI1] at c2
        rw [if_pos c2] at h
        iterate 5 refine jw_u rfl ?_
        refine jtop (nI_add 18 j) ?_
        refine jw_u rfl (jaN (o := 122) (show 18 + j < 648 by omega) (by decide) (s4 j hj) ?_)
        iterate 2 refine jw_u rfl ?_
        exact ⟨fun h => (by cases h), h⟩
    · rw [tI0] at c
      rw [if_pos c] at h
      iterate 5 refine jw_u rfl ?_
      refine jtop (nI_add 10 j) ?_
      refine jw_u rfl (jaN (o := 122) (show 10 + j < 648 by omega) (by decide) (s3 j hj) ?_)
      iterate 2 refine jw_u rfl ?_
      exact ⟨fun h => (by cases h), h⟩
  · refine jw_u rfl ⟨fun c => absurd n00 c, fun _ => ?_⟩
    rw [if_neg hp] at h
    iterate 2 refine jw_u rfl ?_
    exact ⟨fun h => (by cases h), h⟩
theorem m_candidate {p : Int32} (hC : mC x C) (wc : wC C) (h : Q (some (.int (fCand C p))) x) : jo (d + 3) 113 [.ref 121, .int p] x Q := by
  obtain ⟨-, -, -, c4, -, -, c7⟩ := hC
  obtain ⟨-, -, -, b4, -⟩ := wc
  refine jo_i rfl rfl (Nat.le_of_ble_eq_true rfl) ?_
  iterate 3 refine jw_u rfl ?_
  unfold fCand at h
  refine m_isCandidate c4 b4 (fun hp => ?_) (fun hp => ?_)
  · refine jw_u rfl ⟨fun c => absurd c n10, fun _ => ?_⟩
    rw [if_pos hp] at h
    obtain ⟨j, hj, rfl⟩ := ilt (by omega) hp
    rw [nI_clamp (by omega)] at h
    iterate 3 refine jw_u rfl ?_
    refine jw_u rfl (jaN (o := 126) (show j < 4 by omega) (by decide) (c7 j hj) ?_)
    iterate 2 refine jw_u rfl ?_
    exact ⟨fun h => (by cases h), h⟩
  · refine jw_u rfl ⟨fun _ => ?_, fun c => absurd n00 c⟩
    rw [if_neg hp] at h
    iterate 2 refine jw_u rfl ?_
    exact ⟨fun h => (by cases h), h⟩
end MB
section MC
variable {d n : Nat} {x : jM} {Q : Option Value → jM → Prop} {hd sl sq : Nat → Nat}
theorem m_whoseIs {a : Nat} (hn : x 121 5 = nI n) (h8 : n ≤ 8) (hh : ∀ k, k < n → x 122 (2 + k) = nI (hd k)) (hs : ∀ k, k < n → x 124 k = nI (sl k)) (bh : ∀ k, k < n → hd k < 1000) (bs : ∀ k, k < n → sl k ≤ 3) (ha : a < 1000) (h : Q (some (.int (sb (fun j => nr a (hd j) (sl j)) n))) x) : jo (d + 4) 124 [.ref 121, .int (nI a)] x Q := by
  have loop : ∀ i, i ≤ n → jw (d + 3) kX7_whoseIs Q 4 [some (.ref 121), some (.int (nI a)), some (.int (sb (fun j => nr a (hd j) (sl j)) i)), some (.int (nI i))] [] x := by
    refine dn _ n ?_ (fun i hi ih => ?_)
    · iterate 3 refine jw_u rfl ?_
      refine jw_u rfl ⟨fun _ => ?_, fun (c : ¬ x 121 5 ≤ nI n) => absurd (by rw [hn]; exact Int32.le_refl _) c⟩
      iterate 2 refine jw_u rfl ?_
      exact ⟨fun h => (by cases h), h⟩
    · iterate 3 refine jw_u rfl ?_
      refine jw_u rfl ⟨fun (c : x 121 5 ≤ nI i) => absurd c (by rw [hn]; exact nI_ge hi (by omega)), fun _ => ?_⟩
      iterate 5 refine jw_u rfl ?_
      refine m_passesFor h8 hh hs bh bs ha hi (fun hw => ?_) (fun hw => ?_)
      · refine jw_u rfl ⟨fun c => absurd c n10, fun _ => ?_⟩
        iterate 8 refine jw_u rfl ?_
        rw [sb, if_pos hw, nI_s i] at ih
        exact ih
      · refine jw_u rfl ⟨fun _ => ?_, fun c => absurd rfl c⟩
        iterate 2 refine jw_u rfl ?_
        refine jtop (or0 _) ?_
        iterate 3 refine jw_u rfl ?_
        rw [sb, if_neg (by rw [hw]; decide), nI_s i] at ih
        exact ih
  refine jo_i rfl rfl (Nat.le_of_ble_eq_true rfl) ?_
  iterate 4 refine jw_u rfl ?_
  exact loop 0 (Nat.zero_le _)
theorem m_marksOf {p : Nat} (h8 : n ≤ 8) (hh : ∀ k, k < n → x 122 (2 + k) = nI (hd k)) (hs : ∀ k, k < n → x 124 k = nI (sl k)) (bh : ∀ k, k < n → hd k < 1000) (bs : ∀ k, k < n → sl k ≤ 3) (hp : p < n) (h : Q (some (.int (nI (pcn (hd p) (sl p) 3)))) x) : jo (d + 2) 126 [.ref 121, .int (nI p)] x Q := by
  have b1 := bs p hp
  have loop : ∀ i, i ≤ 3 → ∀ g4 g5 g6, jw (d + 1) kX7_marksOf Q 4 [some (.ref 121), some (.int (nI p)), some (.int (nI (pcn (hd p) (sl p) i))), some (.int (nI i)), some (.int g4), some (.int g5), some (.int g6)] [] x ∧ jw (d + 1) kX7_marksOf Q 4 [some (.ref 121), some (.int (nI p)), some (.int (nI (pcn (hd p) (sl p) i))), some (.int (nI i)), none, none, none] [] x := by
    have key : ∀ i, i ≤ 3 → ∀ g4 g5 g6 : Option Value, (∀ v, jsv [some (.ref 121), some (.int (nI p)), some (.int v), some (.int (nI i)), g4, g5, g6] 4 = true ∧ jsv [some (.ref 121), some (.int (nI p)), some (.int v), some (.int (nI i)), some (.int v), g5, g6] 5 = true ∧ jsv [some (.ref 121), some (.int (nI p)), some (.int v), some (.int (nI i)), some (.int v), some (.int v), g6] 6 = true) → True := fun _ _ _ _ _ _ => trivial
    refine dn _ 3 (fun g4 g5 g6 => ?_) (fun i hi ih g4 g5 g6 => ?_)
    · constructor
      · iterate 2 refine jw_u rfl ?_
        refine jw_u rfl ⟨fun _ => ?_, fun (c' : ¬ nI 3 ≤ nI 3) => absurd (Int32.le_refl _) c'⟩
        iterate 2 refine jw_u rfl ?_
        exact ⟨fun h => (by cases h), h⟩
      · iterate 2 refine jw_u rfl ?_
        refine jw_u rfl ⟨fun _ => ?_, fun (c' : ¬ nI 3 ≤ nI 3) => absurd (Int32.le_refl _) c'⟩
        iterate 2 refine jw_u rfl ?_
        exact ⟨fun h => (by cases h), h⟩
    · have b2 : dg (hd p) i < 10 := dg_lt (bh p hp)
      generalize hv : dg (hd p) i = v at b2
      have fin : ∀ lo hi g6, lo = max (v - sl p) 0 → hi = min (v + sl p) 9 → jw (d + 1) kX7_marksOf Q 47 [some (.ref 121), some (.int (nI p)), some (.int (nI (pcn (hd p) (sl p) i))), some (.int (nI i)), some (.int (nI v)), some (.int (nI lo)), g6] [.int (nI hi)] x := by
        intro lo hi g6 elo ehi
        have ih := (ih (nI v) (nI lo) (nI hi)).1
        rw [pcn, hv, ← elo, ← ehi, nI_s i] at ih
        have e1 : lo ≤ hi := by omega
        iterate 4 refine jw_u rfl ?_
        refine jw_u rfl ?_
        refine jtop (pk_sub e1) ?_
        iterate 2 refine jw_u rfl ?_
        refine jtop (nI_add _ 1) ?_
        refine jw_u rfl ?_
        refine jtop (pk_mul _ _) ?_
        iterate 3 refine jw_u rfl ?_
        exact ih
      have mid : ∀ lo g5 g6, lo = max (v - sl p) 0 → jw (d + 1) kX7_marksOf Q 30 [some (.ref 121), some (.int (nI p)), some (.int (nI (pcn (hd p) (sl p) i))), some (.int (nI i)), some (.int (nI v)), g5, g6] [.int (nI lo)] x := by
        intro lo g5 g6 elo
        iterate 5 refine jw_u rfl ?_
        refine jw_u rfl (jaN (o := 124) (show p < 8 by omega) (by decide) (hs p hp) ?_)
        refine jw_u rfl ?_
        refine jtop (nI_add _ _) ?_
        refine jw_u rfl ?_
        refine jw_u rfl ⟨fun (c : nI (v + sl p) ≤ nI 9) => ?_, fun (c : ¬ nI (v + sl p) ≤ nI 9) => ?_⟩
        · rw [nI_leI (by omega) (by decide)] at c
          iterate 4 refine jw_u rfl ?_
          refine jw_u rfl (jaN (o := 124) (show p < 8 by omega) (by decide) (hs p hp) ?_)
          refine jw_u rfl ?_
          refine jtop (nI_add _ _) ?_
          exact fin lo (v + sl p) g6 elo (by omega)
        · rw [nI_leI (by omega) (by decide)] at c
          iterate 2 refine jw_u rfl ?_
          exact fin lo 9 g6 elo (by omega)
      constructor
      · iterate 2 refine jw_u rfl ?_
        refine jw_u rfl ⟨fun (c' : nI 3 ≤ nI i) => absurd c' (nI_ge hi (by omega)), fun _ => ?_⟩
        iterate 5 refine jw_u rfl ?_
        refine jtop (nI_add 2 p) ?_
        refine jw_u rfl (jaN (o := 122) (show 2 + p < 648 by omega) (by decide) (hh p hp) ?_)
        iterate 2 refine jw_u rfl ?_
        refine m_partOf (bh p hp) hi ?_
        rw [hv]
        iterate 5 refine jw_u rfl ?_
        refine jw_u rfl (jaN (o := 124) (show p < 8 by omega) (by decide) (hs p hp) ?_)
        refine jw_u rfl ⟨fun (c : nI (sl p) ≤ nI v) => ?_, fun (c : ¬ nI (sl p) ≤ nI v) => ?_⟩
        · rw [nI_leI (by omega) (by omega)] at c
          iterate 4 refine jw_u rfl ?_
          refine jw_u rfl (jaN (o := 124) (show p < 8 by omega) (by decide) (hs p hp) ?_)
          refine jw_u rfl ?_
          refine jtop (pk_sub c) ?_
          exact mid (v - sl p) _ _ (by omega)
        · rw [nI_leI (by omega) (by omega)] at c
          iterate 2 refine jw_u rfl ?_
          exact mid 0 _ _ (by omega)
      · iterate 2 refine jw_u rfl ?_
        refine jw_u rfl ⟨fun (c' : nI 3 ≤ nI i) => absurd c' (nI_ge hi (by omega)), fun _ => ?_⟩
        iterate 5 refine jw_u rfl ?_
        refine jtop (nI_add 2 p) ?_
        refine jw_u rfl (jaN (o := 122) (show 2 + p < 648 by omega) (by decide) (hh p hp) ?_)
        iterate 2 refine jw_u rfl ?_
        refine m_partOf (bh p hp) hi ?_
        rw [hv]
        iterate 5 refine jw_u rfl ?_
        refine jw_u rfl (jaN (o := 124) (show p < 8 by omega) (by decide) (hs p hp) ?_)
        refine jw_u rfl ⟨fun (c : nI (sl p) ≤ nI v) => ?_, fun (c : ¬ nI (sl p) ≤ nI v) => ?_⟩
        · rw [nI_leI (by omega) (by omega)] at c
          iterate 4 refine jw_u rfl ?_
          refine jw_u rfl (jaN (o := 124) (show p < 8 by omega) (by decide) (hs p hp) ?_)
          refine jw_u rfl ?_
          refine jtop (pk_sub c) ?_
          exact mid (v - sl p) _ _ (by omega)
        · rw [nI_leI (by omega) (by omega)] at c
          iterate 2 refine jw_u rfl ?_
          exact mid 0 _ _ (by omega)
  refine jo_i rfl rfl (Nat.le_of_ble_eq_true rfl) ?_
  iterate 4 refine jw_u rfl ?_
  exact (loop 0 (Nat.zero_le _) 0 0 0).2
end MC
