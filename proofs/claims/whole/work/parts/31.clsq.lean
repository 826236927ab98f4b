/-! THE CLASS: what is asked of it, the small ones -/
/-- what a call on a person, or a paper, or a candidate, or a mark begins with -/
def fTold (C : aC) (S : aS) (tl sc ec hl : Nat) (w : Int) : Int32 :=
  if w = 0 then nI (cT C) else if w = 1 then nI (cG C) else if w = 2 then nI (cN C) else if w = 3 then nI (sP S) else if w = 4 then nI (cC C) else if w = 5 then nI tl else if w = 6 then nI (sY S) else if w = 7 then nI sc else if w = 8 then nI ec else if w = 9 then nI hl else kO
def fPerson (C : aC) (S : aS) (p w : Int32) : Int32 :=
  if 0 ≤ p ∧ p < nI (cN C) then (if w.toInt = 0 then nI (sH S p.toNatClampNeg) else if w.toInt = 1 then nI (cSl C p.toNatClampNeg) else if w.toInt = 2 then nI (cDr C p.toNatClampNeg) else if w.toInt = 3 then nI (ap (sH S p.toNatClampNeg) (cG C)) else kO) else kU
def fPaper (S : aS) (p w : Int32) : Int32 :=
  if 0 ≤ p ∧ p < nI (sP S) then (if w.toInt = 0 then nI (sM S p.toNatClampNeg) else if w.toInt = 1 then nI (sN S p.toNatClampNeg) else kO) else kU
def fCand (C : aC) (p : Int32) : Int32 := if 0 ≤ p ∧ p < nI (cC C) then nI (cSq C p.toNatClampNeg) else kU
abbrev pS (C : aC) (S : aS) (a : Nat) : Nat → Bool := fun j => nr a (sH S j) (cSl C j)
def fWhose (C : aC) (S : aS) (m : Int32) : Int32 := if 0 ≤ m ∧ m < nI 1000 then nI (sn (pS C S m.toNatClampNeg) (cN C)) else kO
def fMarks (C : aC) (S : aS) (p : Int32) : Int32 := if 0 ≤ p ∧ p < nI (cN C) then nI (pcn (sH S p.toNatClampNeg) (cSl C p.toNatClampNeg) 3) else kU
abbrev kn (n : Nat) (hd : Nat → Nat) (p : Nat) : Option Nat := am (fun k => ap (hd p) (hd k)) (fun k => k != p) n
def fKin (C : aC) (S : aS) (p : Int32) : Int32 := if 0 ≤ p ∧ p < nI (cN C) then oI (kn (cN C) (sH S) p.toNatClampNeg) else kU
abbrev ch (C : aC) (a : Nat) : Option Nat := am (fun k => ap a (cSq C k)) (fun _ => true) (cC C)
def fVote (C : aC) (m : Int32) : Int32 := if 0 ≤ m ∧ m < nI 1000 then oI (ch C m.toNatClampNeg) else kO
section CU
variable {d : Nat} {x : jM} {Q : Option Value → jM → Prop} {C : aC} {S : aS}
theorem c_fault (h : Q (some (.int (x 0 9))) x) : jo (d + 1) 26 [.ref 0] x Q := by
  refine jo_i rfl rfl (Nat.le_of_ble_eq_true rfl) ?_
  iterate 3 refine jw_u rfl ?_
  exact ⟨fun h => (by cases h), h⟩
theorem c_told {w : Int32} {tl sc ec hl : Nat} (hC : xC x 11 C) (hS : xS x 15 (cN C) S) (bT : cT C ≤ 1) (h5 : x 1 1 = nI tl) (h7 : x 116 0 = nI sc) (h8 : x 116 2 = nI ec) (h9 : x 23 1 = nI hl) (h : Q (some (.int (fTold C S tl sc ec hl w.toInt))) x) : jo (d + 1) 27 [.ref 0, .int w] x Q := by
  obtain ⟨c1, c2, c3, c4, -⟩ := hC
  obtain ⟨-, s2, -, -, s5⟩ := hS
  refine jo_i rfl rfl (Nat.le_of_ble_eq_true rfl) ?_
  iterate 2 refine jw_u rfl ?_
  unfold fTold at h
  refine ⟨fun (e : w.toInt = 0) => ?_, fun (e0 : ¬ w.toInt = 0) => ⟨fun (e : w.toInt = 1) => ?_, fun (e1 : ¬ w.toInt = 1) => ⟨fun (e : w.toInt = 2) => ?_, fun (e2 : ¬ w.toInt = 2) => ⟨fun (e : w.toInt = 3) => ?_, fun (e3 : ¬ w.toInt = 3) => ⟨fun (e : w.toInt = 4) => ?_, fun (e4 : ¬ w.toInt = 4) => ⟨fun (e : w.toInt = 5) => ?_, fun (e5 : ¬ w.toInt = 5) => ⟨fun (e : w.toInt = 6) => ?_, fun (e6 : ¬ w.toInt = 6) => ⟨fun (e : w.toInt = 7) => ?_, fun (e7 : ¬ w.toInt = 7) => ⟨fun (e : w.toInt = 8) => ?_, fun (e8 : ¬ w.toInt = 8) => ⟨fun (e : w.toInt = 9) => ?_, fun (e9 : ¬ w.toInt = 9) => ?_⟩⟩⟩⟩⟩⟩⟩⟩⟩⟩
  · rw [if_pos e] at h
    iterate 3 refine jw_u rfl ?_
    refine jtop c1 ?_
    refine jw_u rfl ⟨fun (c : nI (cT C) = 0) => ?_, fun (c : ¬ nI (cT C) = 0) => ?_⟩
    · iterate 2 refine jw_u rfl ?_
      exact ⟨fun h => (by cases h), jret (c.trans n00.symm).symm h⟩
    · have e : cT C = 1 := by
        rcases (show cT C = 0 ∨ cT C = 1 by omega) with e | e
        · rw [e] at c
          exact absurd n00 c
        · exact e
      rw [e] at h
      iterate 3 refine jw_u rfl ?_
      exact ⟨fun h => (by cases h), h⟩
  · rw [if_neg e0, if_pos e] at h
    iterate 4 refine jw_u rfl ?_
    exact ⟨fun h => (by cases h), jret c2 h⟩
  · rw [if_neg e0, if_neg e1, if_pos e] at h
    iterate 4 refine jw_u rfl ?_
    exact ⟨fun h => (by cases h), jret c3 h⟩
  · rw [if_neg e0, if_neg e1, if_neg e2, if_pos e] at h
    iterate 4 refine jw_u rfl ?_
    exact ⟨fun h => (by cases h), jret s2 h⟩
  · rw [if_neg e0, if_neg e1, if_neg e2, if_neg e3, if_pos e] at h
    iterate 4 refine jw_u rfl ?_
    exact ⟨fun h => (by cases h), jret c4 h⟩
  · rw [if_neg e0, if_neg e1, if_neg e2, if_neg e3, if_neg e4, if_pos e] at h
    iterate 4 refine jw_u rfl ?_
    exact ⟨fun h => (by cases h), jret h5 h⟩
  · rw [if_neg e0, if_neg e1, if_neg e2, if_neg e3, if_neg e4, if_neg e5, if_pos e] at h
    iterate 4 refine jw_u rfl ?_
    exact ⟨fun h => (by cases h), jret s5 h⟩
  · rw [if_neg e0, if_neg e1, if_neg e2, if_neg e3, if_neg e4, if_neg e5, if_neg e6, if_pos e] at h
    iterate 4 refine jw_u rfl ?_
    exact ⟨fun h => (by cases h), jret h7 h⟩
  · rw [if_neg e0, if_neg e1, if_neg e2, if_neg e3, if_neg e4, if_neg e5, if_neg e6, if_neg e7, if_pos e] at h
    iterate 4 refine jw_u rfl ?_
    exact ⟨fun h => (by cases h), jret h8 h⟩
  · rw [if_neg e0, if_neg e1, if_neg e2, if_neg e3, if_neg e4, if_neg e5, if_neg e6, if_neg e7, if_neg e8, if_pos e] at h
    iterate 4 refine jw_u rfl ?_
    exact ⟨fun h => (by cases h), jret h9 h⟩
  · rw [if_neg e0, if_neg e1, if_neg e2, if_neg e3, if_neg e4, if_neg e5, if_neg e6, if_neg e7, if_neg e8, if_neg e9] at h
    iterate 2 refine jw_u rfl ?_
    exact ⟨fun h => (by cases h), h⟩
theorem c_person {p w : Int32} (hC : xC x 11 C) (hS : xS x 15 (cN C) S) (wc : wC C) (ws : wS (cN C) S) (h : Q (some (.int (fPerson C S p w))) x) : jo (d + 2) 28 [.ref 0, .int p, .int w] x Q := by
  obtain ⟨c1, c2, c3, c4, c5, c6, -⟩ := hC
  obtain ⟨s1, -⟩ := hS
  obtain ⟨-, b2, b3, -⟩ := wc
  obtain ⟨w1, -⟩ := ws
  refine jo_i rfl rfl (Nat.le_of_ble_eq_true rfl) ?_
  iterate 3 refine jw_u rfl ?_
  unfold fPerson at h
  refine c_isPerson c3 (fun hp => ?_) (fun hp => ?_)
  · refine jw_u rfl ⟨fun _ => ?_, fun c => absurd c n10⟩
    rw [if_pos hp] at h
    obtain ⟨j, hj, rfl⟩ := ilt (by omega) hp
    rw [nI_clamp (by omega)] at h
    iterate 2 refine jw_u rfl ?_
    refine ⟨fun (e : w.toInt = 0) => ?_, fun (e0 : ¬ w.toInt = 0) => ⟨fun (e : w.toInt = 1) => ?_, fun (e1 : ¬ w.toInt = 1) => ⟨fun (e : w.toInt = 2) => ?_, fun (e2 : ¬ w.toInt = 2) => ⟨fun (e : w.toInt = 3) => ?_, fun (e3 : ¬ w.toInt = 3) => ?_⟩⟩⟩⟩
    · rw [if_pos e] at h
      iterate 4 refine jw_u rfl ?_
      refine jw_u rfl (jaN (show j < 8 by omega) (by decide) (s1 j hj) ?_)
      refine jw_u rfl ?_
      exact ⟨fun h => (by cases h), h⟩
    · rw [if_neg e0, if_pos e] at h
      iterate 4 refine jw_u rfl ?_
      refine jw_u rfl (jaN (show j < 8 by omega) (by decide) (c5 j hj) ?_)
      refine jw_u rfl ?_
      exact ⟨fun h => (by cases h), h⟩
    · rw [if_neg e0, if_neg e1, if_pos e] at h
      iterate 4 refine jw_u rfl ?_
      refine jw_u rfl (jaN (show j < 8 by omega) (by decide) (c6 j hj) ?_)
      refine jw_u rfl ?_
      exact ⟨fun h => (by cases h), h⟩
    · rw [if_neg e0, if_neg e1, if_neg e2, if_pos e] at h
      iterate 4 refine jw_u rfl ?_
      refine jw_u rfl (jaN (show j < 8 by omega) (by decide) (s1 j hj) ?_)
      iterate 3 refine jw_u rfl ?_
      refine jtop c2 ?_
      refine jw_u rfl ?_
      refine c_apart (w1 j hj) b2 ?_
      refine jw_u rfl ?_
      exact ⟨fun h => (by cases h), h⟩
    · rw [if_neg e0, if_neg e1, if_neg e2, if_neg e3] at h
      iterate 2 refine jw_u rfl ?_
      exact ⟨fun h => (by cases h), h⟩
  · refine jw_u rfl ⟨fun c => absurd n00 c, fun _ => ?_⟩
    rw [if_neg hp] at h
    iterate 2 refine jw_u rfl ?_
    exact ⟨fun h => (by cases h), h⟩
theorem c_paper {p w : Int32} {n : Nat} (hS : xS x 15 n S) (ws : wS n S) (h : Q (some (.int (fPaper S p w))) x) : jo (d + 2) 29 [.ref 0, .int p, .int w] x Q := by
  obtain ⟨-, s2, s3, s4, -⟩ := hS
  obtain ⟨-, w2, -⟩ := ws
  refine jo_i rfl rfl (Nat.le_of_ble_eq_true rfl) ?_
  iterate 3 refine jw_u rfl ?_
  unfold fPaper at h
  refine c_isPaper s2 (fun hp => ?_) (fun hp => ?_)
  · refine jw_u rfl ⟨fun _ => ?_, fun c => absurd c n10⟩
    rw [if_pos hp] at h
    obtain ⟨j, hj, rfl⟩ := ilt (by omega) hp
    rw [nI_clamp (by omega)] at h
    iterate 2 refine jw_u rfl ?_
    refine ⟨fun (e : w.toInt = 0) => ?_, fun (e0 : ¬ w.toInt = 0) => ⟨fun (e : w.toInt = 1) => ?_, fun (e1 : ¬ w.toInt = 1) => ?_⟩⟩
    · rw [if_pos e] at h
      iterate 4 refine jw_u rfl ?_
      refine jw_u rfl (jaN (show j < 8 by omega) (by decide) (s3 j hj) ?_)
      refine jw_u rfl ?_
      exact ⟨fun h => (by cases h), h⟩
    · rw [if_neg e0, if_pos e] at h
      iterate 4 refine jw_u rfl ?_
      refine jw_u rfl (jaN (show j < 8 by omega) (by decide) (s4 j hj) ?_)
      refine jw_u rfl ?_
      exact ⟨fun h => (by cases h), h⟩
    · rw [if_neg e0, if_neg e1] at h
      iterate 2 refine jw_u rfl ?_
      exact ⟨fun h => (by cases h), h⟩
  · refine jw_u rfl ⟨fun c => absurd n00 c, fun _ => ?_⟩
    rw [if_neg hp] at h
    iterate 2 refine jw_u rfl ?_
    exact ⟨fun h => (by cases h), h⟩
theorem c_candidate {p : Int32} (hC : xC x 11 C) (wc : wC C) (h : Q (some (.int (fCand C p))) x) : jo (d + 2) 30 [.ref 0, .int p] x Q := by
  obtain ⟨-, -, -, c4, -, -, c7⟩ := hC
  obtain ⟨-, -, -, b4, -⟩ := wc
  refine jo_i rfl rfl (Nat.le_of_ble_eq_true rfl) ?_
  iterate 3 refine jw_u rfl ?_
  unfold fCand at h
  refine c_isCandidate c4 (fun hp => ?_) (fun hp => ?_)
  · refine jw_u rfl ⟨fun c => absurd c n10, fun _ => ?_⟩
    rw [if_pos hp] at h
    obtain ⟨j, hj, rfl⟩ := ilt (by omega) hp
    rw [nI_clamp (by omega)] at h
    iterate 4 refine jw_u rfl ?_
    refine jw_u rfl (jaN (show j < 4 by omega) (by decide) (c7 j hj) ?_)
    iterate 2 refine jw_u rfl ?_
    exact ⟨fun h => (by cases h), h⟩
  · refine jw_u rfl ⟨fun _ => ?_, fun c => absurd n00 c⟩
    rw [if_neg hp] at h
    iterate 2 refine jw_u rfl ?_
    exact ⟨fun h => (by cases h), h⟩
theorem c_whose {m : Int32} (hC : xC x 11 C) (hS : xS x 15 (cN C) S) (wc : wC C) (ws : wS (cN C) S) (h : Q (some (.int (fWhose C S m))) x) : jo (d + 4) 37 [.ref 0, .int m] x Q := by
  obtain ⟨-, -, c3, -, c5, -⟩ := hC
  obtain ⟨s1, -⟩ := hS
  obtain ⟨-, -, b3, -, b5, -⟩ := wc
  obtain ⟨w1, -⟩ := ws
  refine jo_i rfl rfl (Nat.le_of_ble_eq_true rfl) ?_
  iterate 2 refine jw_u rfl ?_
  unfold fWhose at h
  refine c_isMark (fun hp => ?_) (fun hp => ?_)
  · refine jw_u rfl ⟨fun c => absurd c n10, fun _ => ?_⟩
    rw [if_pos hp] at h
    obtain ⟨j, hj, rfl⟩ := ilt (by decide) hp
    rw [nI_clamp (by omega)] at h
    iterate 3 refine jw_u rfl ?_
    refine c_passSet c3 b3 s1 c5 w1 b5 hj ?_
    iterate 2 refine jw_u rfl ?_
    exact ⟨fun h => (by cases h), jret (sb_sn _ _ b3) h⟩
  · refine jw_u rfl ⟨fun _ => ?_, fun c => absurd n00 c⟩
    rw [if_neg hp] at h
    iterate 2 refine jw_u rfl ?_
    exact ⟨fun h => (by cases h), h⟩
theorem c_marks {p : Int32} (hC : xC x 11 C) (hS : xS x 15 (cN C) S) (wc : wC C) (ws : wS (cN C) S) (h : Q (some (.int (fMarks C S p))) x) : jo (d + 3) 39 [.ref 0, .int p] x Q := by
  obtain ⟨-, -, c3, -, c5, -⟩ := hC
  obtain ⟨s1, -⟩ := hS
  obtain ⟨-, -, b3, -, b5, -⟩ := wc
  obtain ⟨w1, -⟩ := ws
  refine jo_i rfl rfl (Nat.le_of_ble_eq_true rfl) ?_
  iterate 3 refine jw_u rfl ?_
  unfold fMarks at h
  refine c_isPerson c3 (fun hp => ?_) (fun hp => ?_)
  · refine jw_u rfl ⟨fun c => absurd c n10, fun _ => ?_⟩
    rw [if_pos hp] at h
    obtain ⟨j, hj, rfl⟩ := ilt (by omega) hp
    rw [nI_clamp (by omega)] at h
    iterate 3 refine jw_u rfl ?_
    refine c_passCount b3 s1 c5 w1 b5 hj ?_
    iterate 2 refine jw_u rfl ?_
    exact ⟨fun h => (by cases h), h⟩
  · refine jw_u rfl ⟨fun _ => ?_, fun c => absurd n00 c⟩
    rw [if_neg hp] at h
    iterate 2 refine jw_u rfl ?_
    exact ⟨fun h => (by cases h), h⟩
theorem c_kin {p : Int32} (hC : xC x 11 C) (hS : xS x 15 (cN C) S) (wc : wC C) (ws : wS (cN C) S) (h : Q (some (.int (fKin C S p))) x) : jo (d + 3) 41 [.ref 0, .int p] x Q := by
  obtain ⟨-, -, c3, -⟩ := hC
  obtain ⟨s1, -⟩ := hS
  obtain ⟨-, -, b3, -⟩ := wc
  obtain ⟨w1, -⟩ := ws
  refine jo_i rfl rfl (Nat.le_of_ble_eq_true rfl) ?_
  iterate 3 refine jw_u rfl ?_
  unfold fKin at h
  refine c_isPerson c3 (fun hp => ?_) (fun hp => ?_)
  · refine jw_u rfl ⟨fun c => absurd c n10, fun _ => ?_⟩
    rw [if_pos hp] at h
    obtain ⟨j, hj, rfl⟩ := ilt (by omega) hp
    rw [nI_clamp (by omega)] at h
    iterate 3 refine jw_u rfl ?_
    refine c_nearestTo c3 b3 s1 w1 hj ?_
    iterate 2 refine jw_u rfl ?_
    exact ⟨fun h => (by cases h), h⟩
  · refine jw_u rfl ⟨fun _ => ?_, fun c => absurd n00 c⟩
    rw [if_neg hp] at h
    iterate 2 refine jw_u rfl ?_
    exact ⟨fun h => (by cases h), h⟩
theorem c_vote {m : Int32} (hC : xC x 11 C) (wc : wC C) (h : Q (some (.int (fVote C m))) x) : jo (d + 3) 49 [.ref 0, .int m] x Q := by
  obtain ⟨-, -, -, c4, -, -, c7⟩ := hC
  obtain ⟨-, -, -, b4, -, -, b7⟩ := wc
  refine jo_i rfl rfl (Nat.le_of_ble_eq_true rfl) ?_
  iterate 2 refine jw_u rfl ?_
  unfold fVote at h
  refine c_isMark (fun hp => ?_) (fun hp => ?_)
  · refine jw_u rfl ⟨fun c => absurd c n10, fun _ => ?_⟩
    rw [if_pos hp] at h
    obtain ⟨j, hj, rfl⟩ := ilt (by decide) hp
    rw [nI_clamp (by omega)] at h
    iterate 3 refine jw_u rfl ?_
    refine c_choice c4 b4 c7 b7 hj ?_
    iterate 2 refine jw_u rfl ?_
    exact ⟨fun h => (by cases h), h⟩
  · refine jw_u rfl ⟨fun _ => ?_, fun c => absurd n00 c⟩
    rw [if_neg hp] at h
    iterate 2 refine jw_u rfl ?_
    exact ⟨fun h => (by cases h), h⟩
end CU
