/-! THE CLASS: what is done -/
theorem RX_h {x x' : jM} {z : aX} {hs : List aS} (h : ∀ i, i < 23 ∨ 104 < i → x' i = x i) (hh : ∃ nx, xH x' (cN (gC z)) hs nx) (hx : RX z x) : RX (gC z, gS z, hs, gI z, gN z, gB z, gD z, gF z, gT z) x' := by
  obtain ⟨r1, r2, -, r4, r5, r6, r7, r8⟩ := hx
  refine ⟨xC_f (fun i g1 g2 => h i (by omega)) r1, xS_f (fun i g1 g2 => h i (by omega)) r2, hh, xI_f (fun i g1 g2 => h i (by omega)) r4, xN_f (fun i g1 g2 => h i (by omega)) r5, ?_, ?_, ?_⟩
  · rw [h 0 (by omega)]; exact r6
  · rw [h 0 (by omega)]; exact r7
  · exact ⟨by rw [h 1 (by omega)]; exact r8.1, fun k hk => by rw [h 2 (by omega)]; exact r8.2 k hk⟩
theorem RX_n {x x' : jM} {z : aX} {S : aS} (h : ∀ i, i < 15 ∨ 18 < i → x' i = x i) (hS : xS x' 15 (cN (gC z)) S) (hx : RX z x) : RX (zNow z S) x' := by
  obtain ⟨r1, -, ⟨nx, r3⟩, r4, r5, r6, r7, r8⟩ := hx
  refine ⟨xC_f (fun i g1 g2 => h i (by omega)) r1, hS, ⟨nx, xH_f (fun i g1 g2 => h i (by omega)) r3⟩, xI_f (fun i g1 g2 => h i (by omega)) r4, xN_f (fun i g1 g2 => h i (by omega)) r5, ?_, ?_, ?_⟩
  · rw [h 0 (by omega)]; exact r6
  · rw [h 0 (by omega)]; exact r7
  · exact ⟨by rw [h 1 (by omega)]; exact r8.1, fun k hk => by rw [h 2 (by omega)]; exact r8.2 k hk⟩
def fYear (z : aX) (m : Int32) : Int32 × aX :=
  if nI 1 ≤ m ∧ m ≤ nI 60 then (if cT (gC z) = 1 then (if sY (gS z) ≤ 9000 then (nI (sY (gS z) + m.toNatClampNeg), zNow (zPush z) (sAge (gC z) (gS z) m.toNatClampNeg)) else (kF, z)) else (kX, z)) else (kO, z)
def fTeach (z : aX) (p m : Int32) : Int32 × aX :=
  if 0 ≤ p ∧ p < nI (cN (gC z)) then (if 0 ≤ m ∧ m < nI 1000 then (nI (ap (sH (gS z) p.toNatClampNeg) m.toNatClampNeg), zNow (zPush z) (upN (sH (gS z)) p.toNatClampNeg m.toNatClampNeg, sP (gS z), sM (gS z), sN (gS z), sY (gS z))) else (kO, z)) else (kU, z)
def fSign (z : aX) (p m : Int32) : Int32 × aX :=
  if 0 ≤ p ∧ p < nI (cN (gC z)) then (if 0 ≤ m ∧ m < nI 1000 then (if sP (gS z) < 8 then (nI (sP (gS z) + 1), zNow (zPush z) (sH (gS z), sP (gS z) + 1, upN (sM (gS z)) (sP (gS z)) m.toNatClampNeg, upN (sN (gS z)) (sP (gS z)) p.toNatClampNeg, sY (gS z))) else (kF, z)) else (kO, z)) else (kU, z)
def fTearP (z : aX) : Int32 × aX :=
  if sP (gS z) = 0 then (kX, z) else (nI (sM (gS z) (sP (gS z) - 1)), zNow (zPush z) (sH (gS z), sP (gS z) - 1, sM (gS z), sN (gS z), sY (gS z)))
def fUndo (z : aX) : Int32 × aX := match gH z with
  | [] => (kX, z)
  | S :: hs => (nI hs.length, (gC z, S, hs, gI z, gN z, gB z, gD z, gF z, gT z))
def fSee (z : aX) (m : Int32) : Int32 × aX :=
  if 0 ≤ m ∧ m < nI 1000 then (if (gN z).1 < 8 then (nI ((gN z).1 + 1), (gC z, gS z, gH z, gI z, ((gN z).1 + 1, upN (gN z).2 (gN z).1 m.toNatClampNeg), gB z, gD z, gF z, gT z)) else (kF, z)) else (kO, z)
def fWrite (z : aX) (p m : Int32) : Int32 × aX :=
  if 0 ≤ p ∧ p < nI (cN (gC z)) then (if 0 ≤ m ∧ m < nI 1000 then (if (gB z).1 < 15 then (nI ((gB z).1 + 1), (gC z, gS z, gH z, gI z, gN z, ((gB z).1 + 1, upN (gB z).2.1 (gB z).1 p.toNatClampNeg, upN (gB z).2.2 (gB z).1 m.toNatClampNeg), gD z, gF z, gT z)) else (kF, z)) else (kO, z)) else (kU, z)
def fTear (z : aX) : Int32 × aX := (nI ((gN z).1 + (gB z).1), (gC z, gS z, gH z, gI z, (0, (gN z).2), (0, (gB z).2), gD z, gF z, gT z))
def fSeed (z : aX) (v : Int32) : Int32 × aX := if 0 ≤ v then (nI (gD z), (gC z, gS z, gH z, gI z, gN z, gB z, v.toNatClampNeg, gF z, gT z)) else (kO, z)
def fKeep (z : aX) (i : Int32) : Int32 × aX := if 0 ≤ i ∧ i < nI 2 then (nI 1, (gC z, gS z, [], (fun k => if k = i.toNatClampNeg then some (gS z, gD z) else gI z k), gN z, gB z, gD z, gF z, gT z)) else (kU, z)
def fBack (z : aX) (i : Int32) : Int32 × aX := if 0 ≤ i ∧ i < nI 2 then (match gI z i.toNatClampNeg with
    | none => (kX, z)
    | some (S, s) => (nI 1, (gC z, S, [], gI z, gN z, gB z, s, gF z, gT z))) else (kU, z)
def fFeed (z : aX) (v : Int32) : Int32 × aX := if 0 ≤ v ∧ v < nI 256 then (if (gT z).1 < 240 then (nI ((gT z).1 + 1), (gC z, gS z, gH z, gI z, gN z, gB z, gD z, gF z, ((gT z).1 + 1, upN (gT z).2 (gT z).1 v.toNatClampNeg))) else (kF, z)) else (kO, z)
theorem upN_s (f : Nat → Nat) (k v : Nat) : upN f k v k = v := by simp [upN]
theorem upN_o {f : Nat → Nat} {k v j : Nat} (h : j ≠ k) : upN f k v j = f j := by simp [upN, h]
theorem ge0 {v : Int32} (h : 0 ≤ v) : ∃ j : Nat, j < 2 ^ 31 ∧ v = nI j := nI_of (by simpa using h)
theorem c_addPaper {d o k : Nat} {x : jM} {Q : Option Value → jM → Prop} {p m : Int32} (ho : o = 15 ∨ o = 7) (e : x o 1 = nI k) (hk : k < 8) (h : Q none (ju (ju (ju x (o + 3) k p) (o + 2) k m) o 1 (nI (k + 1)))) : jo (d + 1) 22 [.ref o, .int p, .int m] x Q := by
  rcases ho with rfl | rfl <;>
  · refine jo_i rfl rfl (Nat.le_of_ble_eq_true rfl) ?_
    iterate 2 refine jw_u rfl ?_
    refine jtop e ?_
    refine jw_u rfl ?_
    refine jw_u rfl ⟨fun _ => ?_, fun (c3 : ¬ nI k < nI 8) => absurd (nI_lt hk (by decide)) c3⟩
    iterate 4 refine jw_u rfl ?_
    refine jtop e ?_
    refine jw_u rfl ?_
    refine jw_u rfl (jsN (show k < 8 by omega) (by decide) ?_)
    iterate 4 refine jw_u rfl ?_
    refine jtop (v' := nI k) (by rw [ju_o (by decide)]; exact e) ?_
    refine jw_u rfl ?_
    refine jw_u rfl (jsN (show k < 8 by omega) (by decide) ?_)
    iterate 3 refine jw_u rfl ?_
    refine jtop (v' := nI k) (by rw [ju_o (by decide), ju_o (by decide)]; exact e) ?_
    iterate 2 refine jw_u rfl ?_
    refine jtop (nI_add k 1) ?_
    refine jw_u rfl ⟨fun h => (by cases h), ?_⟩
    refine jw_u rfl ?_
    exact h
section CD
variable {d : Nat} {x : jM} {Q : Option Value → jM → Prop} {z : aX}
theorem C_year {m : Int32} (hx : RX z x) (hw : wX z) (h : ∀ x', RX (fYear z m).2 x' → (∀ i, 121 ≤ i → x' i = x i) → Q (some (.int (fYear z m).1)) x') : jo (d + 4) 31 [.ref 0, .int m] x Q := by
  obtain ⟨r1, r2, ⟨nx, r3⟩, r4, r5, r6, r7, r8⟩ := id hx
  obtain ⟨w1, w2, -⟩ := id hw
  have b3 := w1.2.2.1
  refine jo_i rfl rfl (Nat.le_of_ble_eq_true rfl) ?_
  iterate 2 refine jw_u rfl ?_
  have out : ¬ (nI 1 ≤ m ∧ m ≤ nI 60) → jw (d + 3) kX6_year Q 6 [some (.ref 0), some (.int m)] [] x := by
    intro hm
    rw [show fYear z m = (kO, z) by unfold fYear; rw [if_neg hm]] at h
    iterate 2 refine jw_u rfl ?_
    exact ⟨fun h => (by cases h), h x hx (fun _ _ => rfl)⟩
  refine jw_u rfl ⟨fun (c : m < nI 1) => out (fun hc => absurd hc.1 (by simpa using c)), fun (c : ¬ m < nI 1) => ?_⟩
  iterate 2 refine jw_u rfl ?_
  refine jw_u rfl ⟨fun (c' : m ≤ nI 60) => ?_, fun (c' : ¬ m ≤ nI 60) => out (fun hc => c' hc.2)⟩
  have hm : nI 1 ≤ m ∧ m ≤ nI 60 := ⟨by simpa using c, c'⟩
  obtain ⟨j, hj, rfl⟩ := nI_of2 (n := 60) (M := nI 60) (by decide) (fun hc => c (Int32.lt_trans hc (by decide))) c'
  iterate 2 refine jw_u rfl ?_
  refine jw_u rfl ?_
  refine jtop r1.1 ?_
  refine jw_u rfl ⟨fun (c1 : ¬ nI (cT (gC z)) = 0) => ?_, fun (c1 : nI (cT (gC z)) = 0) => ?_⟩
  rotate_left
  · rw [show fYear z (nI j) = (kX, z) by unfold fYear; rw [if_pos hm, if_neg (fun e => by rw [e] at c1; exact n10 c1)]] at h
    iterate 2 refine jw_u rfl ?_
    exact ⟨fun h => (by cases h), h x hx (fun _ _ => rfl)⟩
  have hT : cT (gC z) = 1 := by
    have := w1.1
    rcases (show cT (gC z) = 0 ∨ cT (gC z) = 1 by omega) with e | e
    · rw [e] at c1
      exact absurd n00 c1
    · exact e
  have by_ := w2.2.2.2.2
  iterate 3 refine jw_u rfl ?_
  refine jtop r2.2.2.2.2 ?_
  refine jw_u rfl ?_
  refine jw_u rfl ⟨fun (c2 : nI (sY (gS z)) ≤ nI 9000) => ?_, fun (c2 : ¬ nI (sY (gS z)) ≤ nI 9000) => ?_⟩
  rotate_left
  · rw [nI_leI (by omega) (by decide)] at c2
    rw [show fYear z (nI j) = (kF, z) by unfold fYear; rw [if_pos hm, if_pos hT, if_neg c2]] at h
    iterate 2 refine jw_u rfl ?_
    exact ⟨fun h => (by cases h), h x hx (fun _ _ => rfl)⟩
  rw [nI_leI (by omega) (by decide)] at c2
  rw [show fYear z (nI j) = (nI (sY (gS z) + j), zNow (zPush z) (sAge (gC z) (gS z) j)) by unfold fYear; rw [if_pos hm, if_pos hT, if_pos c2, nI_clamp (by omega)]] at h
  iterate 5 refine jw_u rfl ?_
  refine c_push b3 r3 r2 w2 (fun x1 f1 f2 => ?_)
  have hx1 : RX (zPush z) x1 := RX_h f1 f2 hx
  have q1 := hx1.1
  have q2 := hx1.2.1
  iterate 5 refine jw_u rfl ?_
  refine c_passYears (o := 15) (y := sY (gS z)) (hd := sH (gS z)) (dr := cDr (gC z)) (Or.inl rfl) (by omega) (by omega) q1.2.2.1 b3 q1.2.1 w1.2.1 q1.2.2.2.2.2.1 w1.2.2.2.2.2.1 q2.1 w2.1 q2.2.2.2.2 (fun x2 y1 y2 y3 y4 => ?_)
  iterate 3 refine jw_u rfl ?_
  refine jtop y3 ?_
  refine jw_u rfl ?_
  refine ⟨fun h => (by cases h), h x2 ?_ (fun i hi => by rw [y1 i (by omega) (by omega), f1 i (by omega)])⟩
  refine RX_n (z := zPush z) (fun i hi => y1 i (by omega) (by omega)) ⟨y4, ?_, fun k hk => ?_, fun k hk => ?_, y3⟩ hx1
  · rw [y2 1 (by decide)]; exact q2.2.1
  · rw [y1 17 (by decide) (by decide)]; exact q2.2.2.1 k hk
  · rw [y1 18 (by decide) (by decide)]; exact q2.2.2.2.1 k hk
theorem C_teach {p m : Int32} (hx : RX z x) (hw : wX z) (h : ∀ x', RX (fTeach z p m).2 x' → (∀ i, 121 ≤ i → x' i = x i) → Q (some (.int (fTeach z p m).1)) x') : jo (d + 3) 32 [.ref 0, .int p, .int m] x Q := by
  obtain ⟨r1, r2, ⟨nx, r3⟩, r4, r5, r6, r7, r8⟩ := id hx
  obtain ⟨w1, w2, -⟩ := id hw
  have b3 := w1.2.2.1
  refine jo_i rfl rfl (Nat.le_of_ble_eq_true rfl) ?_
  iterate 3 refine jw_u rfl ?_
  refine c_isPerson r1.2.2.1 (fun hp => ?_) (fun hp => ?_)
  rotate_left
  · refine jw_u rfl ⟨fun c => absurd n00 c, fun _ => ?_⟩
    rw [show fTeach z p m = (kU, z) by unfold fTeach; rw [if_neg hp]] at h
    iterate 2 refine jw_u rfl ?_
    exact ⟨fun h => (by cases h), h x hx (fun _ _ => rfl)⟩
  refine jw_u rfl ⟨fun _ => ?_, fun c => absurd c n10⟩
  iterate 2 refine jw_u rfl ?_
  refine c_isMark (fun hm => ?_) (fun hm => ?_)
  rotate_left
  · refine jw_u rfl ⟨fun c => absurd n00 c, fun _ => ?_⟩
    rw [show fTeach z p m = (kO, z) by unfold fTeach; rw [if_pos hp, if_neg hm]] at h
    iterate 2 refine jw_u rfl ?_
    exact ⟨fun h => (by cases h), h x hx (fun _ _ => rfl)⟩
  refine jw_u rfl ⟨fun _ => ?_, fun c => absurd c n10⟩
  have hpm := And.intro hp hm
  obtain ⟨j, hj, rfl⟩ := ilt (by omega) hp
  obtain ⟨a, ha, rfl⟩ := ilt (by decide) hm
  rw [show fTeach z (nI j) (nI a) = (nI (ap (sH (gS z) j) a), zNow (zPush z) (upN (sH (gS z)) j a, sP (gS z), sM (gS z), sN (gS z), sY (gS z))) by unfold fTeach; rw [if_pos hpm.1, if_pos hpm.2, nI_clamp (by omega), nI_clamp (by omega)]] at h
  iterate 5 refine jw_u rfl ?_
  refine c_push b3 r3 r2 w2 (fun x1 f1 f2 => ?_)
  have hx1 : RX (zPush z) x1 := RX_h f1 f2 hx
  have q2 := hx1.2.1
  iterate 4 refine jw_u rfl ?_
  refine jw_u rfl (jaN (show j < 8 by omega) (by decide) (q2.1 j hj) ?_)
  iterate 2 refine jw_u rfl ?_
  refine c_apart (w2.1 j hj) ha ?_
  iterate 6 refine jw_u rfl ?_
  refine jw_u rfl (jsN (show j < 8 by omega) (by decide) ?_)
  iterate 2 refine jw_u rfl ?_
  refine ⟨fun h => (by cases h), h (ju x1 16 j (nI a)) ?_ (fun i hi => by rw [ju_oo (by omega), f1 i (by omega)])⟩
  refine RX_n (z := zPush z) (fun i hi => ju_oo (by omega)) ⟨fun k hk => ?_, ?_, fun k hk => ?_, fun k hk => ?_, ?_⟩ hx1
  · by_cases e : k = j
    · subst e
      show ju x1 16 k (nI a) 16 k = nI (upN (sH (gS z)) k a k)
      rw [ju_s, upN_s]
    · show ju x1 16 j (nI a) 16 k = nI (upN (sH (gS z)) j a k)
      rw [ju_k e, upN_o e]
      exact q2.1 k hk
  · rw [ju_o (by decide)]; exact q2.2.1
  · rw [ju_o (by decide)]; exact q2.2.2.1 k hk
  · rw [ju_o (by decide)]; exact q2.2.2.2.1 k hk
  · rw [ju_o (by decide)]; exact q2.2.2.2.2
theorem C_sign {p m : Int32} (hx : RX z x) (hw : wX z) (h : ∀ x', RX (fSign z p m).2 x' → (∀ i, 121 ≤ i → x' i = x i) → Q (some (.int (fSign z p m).1)) x') : jo (d + 3) 33 [.ref 0, .int p, .int m] x Q := by
  obtain ⟨r1, r2, ⟨nx, r3⟩, r4, r5, r6, r7, r8⟩ := id hx
  obtain ⟨w1, w2, -⟩ := id hw
  have b3 := w1.2.2.1
  refine jo_i rfl rfl (Nat.le_of_ble_eq_true rfl) ?_
  iterate 3 refine jw_u rfl ?_
  refine c_isPerson r1.2.2.1 (fun hp => ?_) (fun hp => ?_)
  rotate_left
  · refine jw_u rfl ⟨fun c => absurd n00 c, fun _ => ?_⟩
    rw [show fSign z p m = (kU, z) by unfold fSign; rw [if_neg hp]] at h
    iterate 2 refine jw_u rfl ?_
    exact ⟨fun h => (by cases h), h x hx (fun _ _ => rfl)⟩
  refine jw_u rfl ⟨fun _ => ?_, fun c => absurd c n10⟩
  iterate 2 refine jw_u rfl ?_
  refine c_isMark (fun hm => ?_) (fun hm => ?_)
  rotate_left
  · refine jw_u rfl ⟨fun c => absurd n00 c, fun _ => ?_⟩
    rw [show fSign z p m = (kO, z) by unfold fSign; rw [if_pos hp, if_neg hm]] at h
    iterate 2 refine jw_u rfl ?_
    exact ⟨fun h => (by cases h), h x hx (fun _ _ => rfl)⟩
  refine jw_u rfl ⟨fun _ => ?_, fun c => absurd c n10⟩
  have hpm := And.intro hp hm
  obtain ⟨j, hj, rfl⟩ := ilt (by omega) hp
  obtain ⟨a, ha, rfl⟩ := ilt (by decide) hm
  have bp := w2.2.1
  iterate 3 refine jw_u rfl ?_
  refine jtop r2.2.1 ?_
  refine jw_u rfl ?_
  refine jw_u rfl ⟨fun (c2 : nI (sP (gS z)) < nI 8) => ?_, fun (c2 : ¬ nI (sP (gS z)) < nI 8) => ?_⟩
  rotate_left
  · rw [nI_ltI (by omega) (by decide)] at c2
    rw [show fSign z (nI j) (nI a) = (kF, z) by unfold fSign; rw [if_pos hpm.1, if_pos hpm.2, if_neg c2]] at h
    iterate 2 refine jw_u rfl ?_
    exact ⟨fun h => (by cases h), h x hx (fun _ _ => rfl)⟩
  rw [nI_ltI (by omega) (by decide)] at c2
  rw [show fSign z (nI j) (nI a) = (nI (sP (gS z) + 1), zNow (zPush z) (sH (gS z), sP (gS z) + 1, upN (sM (gS z)) (sP (gS z)) a, upN (sN (gS z)) (sP (gS z)) j, sY (gS z))) by unfold fSign; rw [if_pos hpm.1, if_pos hpm.2, if_pos c2, nI_clamp (by omega), nI_clamp (by omega)]] at h
  iterate 5 refine jw_u rfl ?_
  refine c_push b3 r3 r2 w2 (fun x1 f1 f2 => ?_)
  have hx1 : RX (zPush z) x1 := RX_h f1 f2 hx
  have q2 := hx1.2.1
  have q21 : x1 15 1 = nI (sP (gS z)) := q2.2.1
  iterate 5 refine jw_u rfl ?_
  refine c_addPaper (o := 15) (Or.inl rfl) q21 c2 ?_
  iterate 3 refine jw_u rfl ?_
  refine jtop (ju_s _ _ _ _) ?_
  refine jw_u rfl ?_
  refine ⟨fun h => (by cases h), h (ju (ju (ju x1 18 (sP (gS z)) (nI j)) 17 (sP (gS z)) (nI a)) 15 1 (nI (sP (gS z) + 1))) ?_ (fun i hi => by rw [ju_oo (by omega), ju_oo (by omega), ju_oo (by omega), f1 i (by omega)])⟩
  refine RX_n (z := zPush z) (fun i hi => by rw [ju_oo (by omega), ju_oo (by omega), ju_oo (by omega)]) ⟨fun k hk => ?_, ?_, fun k hk => ?_, fun k hk => ?_, ?_⟩ hx1
  · rw [ju_o (by decide), ju_o (by decide), ju_o (by decide)]; exact q2.1 k hk
  · exact ju_s _ _ _ _
  · rw [ju_o (by decide)]
    by_cases e : k = sP (gS z)
    · subst e
      show ju (ju x1 18 (sP (gS z)) (nI j)) 17 (sP (gS z)) (nI a) 17 (sP (gS z)) = nI (upN (sM (gS z)) (sP (gS z)) a (sP (gS z)))
      rw [ju_s, upN_s]
    · show ju (ju x1 18 (sP (gS z)) (nI j)) 17 (sP (gS z)) (nI a) 17 k = nI (upN (sM (gS z)) (sP (gS z)) a k)
      rw [ju_k e, ju_o (by decide), upN_o e]
      exact q2.2.2.1 k (by have hk : k < sP (gS z) + 1 := hk; show k < sP (gS z); omega)
  · rw [ju_o (by decide), ju_o (by decide)]
    by_cases e : k = sP (gS z)
    · subst e
      show ju x1 18 (sP (gS z)) (nI j) 18 (sP (gS z)) = nI (upN (sN (gS z)) (sP (gS z)) j (sP (gS z)))
      rw [ju_s, upN_s]
    · show ju x1 18 (sP (gS z)) (nI j) 18 k = nI (upN (sN (gS z)) (sP (gS z)) j k)
      rw [ju_k e, upN_o e]
      exact q2.2.2.2.1 k (by have hk : k < sP (gS z) + 1 := hk; show k < sP (gS z); omega)
  · rw [ju_k (by decide), ju_o (by decide), ju_o (by decide)]; exact q2.2.2.2.2
theorem C_tearPaper (hx : RX z x) (hw : wX z) (h : ∀ x', RX (fTearP z).2 x' → (∀ i, 121 ≤ i → x' i = x i) → Q (some (.int (fTearP z).1)) x') : jo (d + 3) 34 [.ref 0] x Q := by
  obtain ⟨r1, r2, ⟨nx, r3⟩, r4, r5, r6, r7, r8⟩ := id hx
  obtain ⟨w1, w2, -⟩ := id hw
  have b3 := w1.2.2.1
  have bp := w2.2.1
  refine jo_i rfl rfl (Nat.le_of_ble_eq_true rfl) ?_
  iterate 3 refine jw_u rfl ?_
  refine jtop r2.2.1 ?_
  iterate 6 refine jw_u rfl ?_
  refine c_isPaper r2.2.1 (fun hp => ?_) (fun hp => ?_)
  rotate_left
  · have e0 : sP (gS z) = 0 := by
      rcases Nat.eq_zero_or_pos (sP (gS z)) with e | e
      · exact e
      · have hp : ¬ (0 ≤ nI (sP (gS z)) - nI 1 ∧ nI (sP (gS z)) - nI 1 < nI (sP (gS z))) := hp
        rw [pk_sub (by omega)] at hp
        exact absurd (ilt2 (by omega) (by omega)) hp
    refine jw_u rfl ⟨fun c => absurd n00 c, fun _ => ?_⟩
    rw [show fTearP z = (kX, z) by unfold fTearP; rw [if_pos e0]] at h
    iterate 2 refine jw_u rfl ?_
    exact ⟨fun h => (by cases h), h x hx (fun _ _ => rfl)⟩
  have hp : 0 ≤ nI (sP (gS z)) - nI 1 ∧ nI (sP (gS z)) - nI 1 < nI (sP (gS z)) := hp
  have e0 : 1 ≤ sP (gS z) := by
    rcases Nat.eq_zero_or_pos (sP (gS z)) with e | e
    · rw [e] at hp
      exact absurd hp.1 (by decide)
    · exact e
  rw [show fTearP z = (nI (sM (gS z) (sP (gS z) - 1)), zNow (zPush z) (sH (gS z), sP (gS z) - 1, sM (gS z), sN (gS z), sY (gS z))) by unfold fTearP; rw [if_neg (by omega)]] at h
  refine jw_u rfl ⟨fun _ => ?_, fun c => absurd c n10⟩
  iterate 5 refine jw_u rfl ?_
  refine c_push b3 r3 r2 w2 (fun x1 f1 f2 => ?_)
  have hx1 : RX (zPush z) x1 := RX_h f1 f2 hx
  have q2 := hx1.2.1
  iterate 3 refine jw_u rfl ?_
  refine jtop (pk_sub (b := 1) e0) ?_
  refine jw_u rfl ⟨fun h => (by cases h), ?_⟩
  iterate 4 refine jw_u rfl ?_
  refine jtop (pk_sub (b := 1) e0) ?_
  refine jw_u rfl (jaN (v := nI (sM (gS z) (sP (gS z) - 1))) (show sP (gS z) - 1 < 8 by omega) (by decide) (by rw [ju_o (by decide)]; exact q2.2.2.1 _ (show sP (gS z) - 1 < sP (gS z) by omega)) ?_)
  refine jw_u rfl ?_
  refine ⟨fun h => (by cases h), h (ju x1 15 1 (nI (sP (gS z) - 1))) ?_ (fun i hi => by rw [ju_oo (by omega), f1 i (by omega)])⟩
  refine RX_n (z := zPush z) (fun i hi => ju_oo (by omega)) ⟨fun k hk => ?_, ju_s _ _ _ _, fun k hk => ?_, fun k hk => ?_, ?_⟩ hx1
  · rw [ju_o (by decide)]; exact q2.1 k hk
  · rw [ju_o (by decide)]; exact q2.2.2.1 k (by have hk : k < sP (gS z) - 1 := hk; show k < sP (gS z); omega)
  · rw [ju_o (by decide)]; exact q2.2.2.2.1 k (by have hk : k < sP (gS z) - 1 := hk; show k < sP (gS z); omega)
  · rw [ju_k (by decide)]; exact q2.2.2.2.2
theorem C_undo (hx : RX z x) (hw : wX z) (h : ∀ x', RX (fUndo z).2 x' → (∀ i, 121 ≤ i → x' i = x i) → Q (some (.int (fUndo z).1)) x') : jo (d + 3) 36 [.ref 0] x Q := by
  obtain ⟨r1, r2, ⟨nx, r3⟩, r4, r5, r6, r7, r8⟩ := id hx
  obtain ⟨w1, w2, w3, -⟩ := id hw
  have b3 := w1.2.2.1
  refine jo_i rfl rfl (Nat.le_of_ble_eq_true rfl) ?_
  iterate 3 refine jw_u rfl ?_
  cases hh : gH z with
  | nil =>
    rw [hh] at r3
    refine jtop r3.1 ?_
    rw [show fUndo z = (kX, z) by unfold fUndo; rw [hh]] at h
    refine jw_u rfl ⟨fun (c : (0 : Int32) < nI 0) => absurd c (by decide), fun _ => ?_⟩
    iterate 2 refine jw_u rfl ?_
    exact ⟨fun h => (by cases h), h x hx (fun _ _ => rfl)⟩
  | cons S hs =>
    rw [hh] at r3
    have r31 := r3.1
    have r34 := r3.2.2.2.1
    rw [List.length_cons] at r31 r34
    rw [hh] at w3
    refine jtop r31 ?_
    rw [show fUndo z = (nI hs.length, (gC z, S, hs, gI z, gN z, gB z, gD z, gF z, gT z)) by unfold fUndo; rw [hh]] at h
    refine jw_u rfl ⟨fun _ => ?_, fun (c : ¬ (0 : Int32) < nI (hs.length + 1)) => absurd (nI_lt (a := 0) (by omega) (by omega)) c⟩
    iterate 5 refine jw_u rfl ?_
    refine c_popInto b3 r3 (w3.2 S List.mem_cons_self) (fun x1 f1 f2 f3 => ?_)
    obtain ⟨nx', f3⟩ := f3
    iterate 3 refine jw_u rfl ?_
    refine jtop f3.1 ?_
    refine jw_u rfl ?_
    refine ⟨fun h => (by cases h), h x1 ?_ (fun i hi => f1 i (by omega))⟩
    refine ⟨xC_f (fun i g1 g2 => f1 i (by omega)) r1, f2, ⟨nx', f3⟩, xI_f (fun i g1 g2 => f1 i (by omega)) r4, xN_f (fun i g1 g2 => f1 i (by omega)) r5, ?_, ?_, ?_⟩
    · rw [f1 0 (by omega)]; exact r6
    · rw [f1 0 (by omega)]; exact r7
    · exact ⟨by rw [f1 1 (by omega)]; exact r8.1, fun k hk => by rw [f1 2 (by omega)]; exact r8.2 k hk⟩
theorem C_seed {v : Int32} (hx : RX z x) (h : ∀ x', RX (fSeed z v).2 x' → (∀ i, 121 ≤ i → x' i = x i) → Q (some (.int (fSeed z v).1)) x') : jo (d + 1) 58 [.ref 0, .int v] x Q := by
  obtain ⟨r1, r2, ⟨nx, r3⟩, r4, r5, r6, r7, r8⟩ := id hx
  refine jo_i rfl rfl (Nat.le_of_ble_eq_true rfl) ?_
  refine jw_u rfl ?_
  refine jw_u rfl ⟨fun (c : 0 ≤ v) => ?_, fun (c : ¬ 0 ≤ v) => ?_⟩
  · obtain ⟨j, hj, rfl⟩ := ge0 c
    rw [show fSeed z (nI j) = (nI (gD z), (gC z, gS z, gH z, gI z, gN z, gB z, j, gF z, gT z)) by unfold fSeed; rw [if_pos c, nI_clamp hj]] at h
    iterate 2 refine jw_u rfl ?_
    refine jtop r6 ?_
    iterate 3 refine jw_u rfl ?_
    refine jw_u rfl ⟨fun h => (by cases h), ?_⟩
    iterate 2 refine jw_u rfl ?_
    refine ⟨fun h => (by cases h), h (ju x 0 8 (nI j)) ?_ (fun i hi => ju_oo (by omega))⟩
    have fr : ∀ i, i ≠ 0 → ju x 0 8 (nI j) i = x i := fun i hi => ju_oo hi
    refine ⟨xC_f (fun i g1 g2 => fr i (by omega)) r1, xS_f (fun i g1 g2 => fr i (by omega)) r2, ⟨nx, xH_f (fun i g1 g2 => fr i (by omega)) r3⟩, xI_f (fun i g1 g2 => fr i (by omega)) r4, xN_f (fun i g1 g2 => fr i (by omega)) r5, ju_s _ _ _ _, ?_, ?_⟩
    · rw [ju_k (by decide)]; exact r7
    · exact ⟨by rw [fr 1 (by omega)]; exact r8.1, fun k hk => by rw [fr 2 (by omega)]; exact r8.2 k hk⟩
  · rw [show fSeed z v = (kO, z) by unfold fSeed; rw [if_neg c]] at h
    iterate 2 refine jw_u rfl ?_
    exact ⟨fun h => (by cases h), h x hx (fun _ _ => rfl)⟩
end CD
