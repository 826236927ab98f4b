/-! THE CLASS: the tree, the heir, the sham, love, turned, one, what is seen -/
def fTree (C : aC) (S : aS) (i : Int32) : Int32 := if i = -1 then nI (tA (sH S) (cN C) (cN C - 1)) else if 0 ≤ i ∧ i < nI (cN C - 1) then cI (nx (tG (sH S) (cN C) i.toNatClampNeg) (sH S) (cN C)) else -1
def fHeir (C : aC) (S : aS) (m : Int32) : Int32 := if 0 ≤ m ∧ m < nI 61 then oI (am (fun p => ap (ya (cDr C p) (cG C) (sY S) (sH S p) m.toNatClampNeg) (cG C)) (fun _ => true) (cN C)) else kO
/-- what others allow, and one more; j itself left out -/
def al (f : Nat → Nat) (j z : Nat) : Nat → Nat
  | 0 => z
  | q + 1 => if q = j then al f j z q else min (al f j z q) (if q < j then f q else f q + 1)
theorem al_min {f : Nat → Nat} {j z w : Nat} (h : z ≤ w) : ∀ q, al f j z q = min z (al f j w q)
  | 0 => by rw [al, al, Nat.min_eq_left h]
  | q + 1 => by
    rw [al, al]
    split
    · exact al_min h q
    · rw [al_min h q, Nat.min_assoc]
theorem al_le {f : Nat → Nat} {j z : Nat} : ∀ q, al f j z q ≤ z
  | 0 => Nat.le_refl _
  | q + 1 => by
    rw [al]
    split
    · exact al_le q
    · exact Nat.le_trans (Nat.min_le_left _ _) (al_le q)
def shR (own a : Nat) : Int32 := if a = 0 then -1 else nI (own - (a - 1))
def fSham (C : aC) (S : aS) (p : Int32) : Int32 := if 0 ≤ p ∧ p < nI (cN C) then shR (ap (sH S p.toNatClampNeg) (cG C)) (al (fun k => ap (sH S k) (cG C)) p.toNatClampNeg 1000001 (cN C)) else kU
/-- who loves whom: p and its nearest, if it is the other's nearest too -/
def lv (n : Nat) (hd : Nat → Nat) (p : Nat) : Option (Nat × Nat) := match kn n hd p with
  | none => none
  | some q => if p < q ∧ kn n hd q = some p then some (p, q) else none
def lvl (n : Nat) (hd : Nat → Nat) (p : Nat) : List (Nat × Nat) := (List.range' p (n - p)).filterMap (lv n hd)
theorem lvl_c {n p : Nat} {hd : Nat → Nat} (h : p < n) : lvl n hd p = (match lv n hd p with
    | none => lvl n hd (p + 1)
    | some a => a :: lvl n hd (p + 1)) := by
  unfold lvl
  rw [show n - p = (n - (p + 1)) + 1 by omega, List.range'_succ, List.filterMap_cons]
  cases lv n hd p <;> rfl
theorem lvl_n {n p : Nat} {hd : Nat → Nat} (h : n ≤ p) : lvl n hd p = [] := by
  unfold lvl
  rw [show n - p = 0 by omega]
  rfl
def fLove (C : aC) (S : aS) (i : Int32) : Int32 := rsI i 0 (lvl (cN C) (sH S) 0)
/-- how few must change, for the candidate c -/
def tn (C : aC) (a c z : Nat) : Nat → Nat
  | 0 => z
  | o + 1 => if ap a o < tn C a c z o ∧ ch C o = some c then ap a o else tn C a c z o
theorem tn_le {C : aC} {a c z : Nat} : ∀ o, tn C a c z o ≤ z
  | 0 => Nat.le_refl _
  | o + 1 => by
    have := tn_le (C := C) (a := a) (c := c) (z := z) o
    rw [tn]
    split <;> omega
theorem tn_z {C : aC} {a c z w : Nat} (ha : a < 1000) (hz : 27 < z) (hw : 27 < w) : ∀ o, o ≤ 1000 → (tn C a c z o = z ∧ tn C a c w o = w) ∨ (tn C a c z o = tn C a c w o ∧ tn C a c z o ≤ 27)
  | 0, _ => Or.inl ⟨rfl, rfl⟩
  | o + 1, h => by
    have b := ap_lt (a := a) (b := o) ha (by omega)
    rw [tn, tn]
    rcases tn_z (C := C) (c := c) ha hz hw o (by omega) with ⟨h1, h2⟩ | ⟨h1, h2⟩
    · rw [h1, h2]
      by_cases e : ch C o = some c
      · rw [if_pos ⟨by omega, e⟩, if_pos ⟨by omega, e⟩]
        exact Or.inr ⟨rfl, b⟩
      · rw [if_neg (fun hc => e hc.2), if_neg (fun hc => e hc.2)]
        exact Or.inl ⟨rfl, rfl⟩
    · rw [← h1]
      refine Or.inr ⟨rfl, ?_⟩
      split <;> omega
def fTurned (C : aC) (m c : Int32) : Int32 := if 0 ≤ c ∧ c < nI (cC C) then (if 0 ≤ m ∧ m < nI 1000 then (if tn C m.toNatClampNeg c.toNatClampNeg 100 1000 = 100 then -1 else nI (tn C m.toNatClampNeg c.toNatClampNeg 100 1000)) else kO) else kU
abbrev oneP (C : aC) (S : aS) (p q : Nat) : Nat → Bool := fun t => nr (ya (cDr C p) (cG C) (sY S) (sH S p) t) (ya (cDr C q) (cG C) (sY S) (sH S q) t) (cSl C p + cSl C q)
def fOne (C : aC) (S : aS) (p q : Int32) : Int32 := if (0 ≤ p ∧ p < nI (cN C)) ∧ (0 ≤ q ∧ q < nI (cN C)) ∧ ¬ p = q then on1 (oneP C S p.toNatClampNeg q.toNatClampNeg) 61 0 else kU
/-- all that fits what is seen -/
def mb (C : aC) (S : aS) (sf : Nat → Nat) : Nat → Nat
  | 0 => 2 ^ cN C - 1
  | k + 1 => mb C S sf k &&& sn (pS C S (sf k)) (cN C)
theorem mb_lt {C : aC} {S : aS} {sf : Nat → Nat} (h : cN C ≤ 8) : ∀ k, mb C S sf k < 256
  | 0 => by
    have := p2 h
    rw [mb]
    omega
  | k + 1 => Nat.lt_of_le_of_lt Nat.and_le_left (mb_lt h k)
def lB (F : Nat → Nat) (z : Nat) : Nat → Option Nat × Nat
  | 0 => (none, z)
  | k + 1 => if F k < (lB F z k).2 then (some k, F k) else lB F z k
theorem lB_le {F : Nat → Nat} {z : Nat} : ∀ k, (lB F z k).2 ≤ z
  | 0 => Nat.le_refl _
  | k + 1 => by
    have := lB_le (F := F) (z := z) k
    rw [lB]
    split
    · show F k ≤ z
      omega
    · exact this
abbrev lkF (C : aC) (S : aS) (s : Nat) : Nat → Nat := fun w => mA (fun f => cA (fun p => bt s p == 1 && dg (sH S p) w == f) (cN C)) 10
def fLook (C : aC) (S : aS) (sc : Nat) (sf : Nat → Nat) : Int32 := oI (lB (lkF C S (mb C S sf sc)) (pp (mb C S sf sc)) 3).1
def fJudge (S : aS) (ec : Nat) (ep em : Nat → Nat) : Int32 := on1 (fun k => sH S (ep k) != em k) ec 0
section CW
variable {d : Nat} {x : jM} {Q : Option Value → jM → Prop} {C : aC} {S : aS}
theorem c_madeBy {sc : Nat} {sf : Nat → Nat} (hC : xC x 11 C) (hS : xS x 15 (cN C) S) (wc : wC C) (ws : wS (cN C) S) (h7 : x 116 0 = nI sc) (b7 : sc ≤ 8) (hf : ∀ k, k < sc → x 117 k = nI (sf k)) (bf : ∀ k, k < sc → sf k < 1000) (h : Q (some (.int (nI (mb C S sf sc)))) x) : jo (d + 4) 53 [.ref 0] x Q := by
  obtain ⟨-, -, c3, -, c5, -⟩ := hC
  obtain ⟨s1, -⟩ := hS
  obtain ⟨-, -, b3, -, b5, -⟩ := wc
  obtain ⟨w1, -⟩ := ws
  have g2 := p2 b3
  have b9 : 1 ≤ 2 ^ cN C := Nat.one_le_two_pow
  have loop : ∀ i, i ≤ sc → jw (d + 3) kX6_madeBy Q 10 [some (.ref 0), some (.int (nI (mb C S sf i))), some (.int (nI i))] [] x := by
    refine dn _ sc ?_ (fun i hi ih => ?_)
    · iterate 4 refine jw_u rfl ?_
      refine jw_u rfl ⟨fun _ => ?_, fun (c' : ¬ x 116 0 ≤ nI sc) => absurd (by rw [h7]; exact Int32.le_refl _) c'⟩
      iterate 2 refine jw_u rfl ?_
      exact ⟨fun h => (by cases h), h⟩
    · rw [nI_s i] at ih
      iterate 4 refine jw_u rfl ?_
      refine jw_u rfl ⟨fun (c' : x 116 0 ≤ nI i) => absurd c' (by rw [h7]; exact nI_ge hi (by omega)), fun _ => ?_⟩
      iterate 6 refine jw_u rfl ?_
      refine jw_u rfl (jaN (show i < 8 by omega) (by decide) (hf i hi) ?_)
      refine jw_u rfl ?_
      refine c_passSet c3 b3 s1 c5 w1 b5 (bf i hi) ?_
      have e : sb (fun j => nr (sf i) (sH S j) (cSl C j)) (cN C) = nI (sn (pS C S (sf i)) (cN C)) := sb_sn _ _ b3
      have g3 := sn_lt (pS C S (sf i)) (cN C)
      refine jtop e ?_
      refine jw_u rfl ?_
      refine jtop (nI_and _ _ (mb_lt b3 i) (by omega)) ?_
      iterate 3 refine jw_u rfl ?_
      exact ih
  refine jo_i rfl rfl (Nat.le_of_ble_eq_true rfl) ?_
  iterate 4 refine jw_u rfl ?_
  refine jtop c3 ?_
  refine jw_u rfl ?_
  refine jtop (shl1 _ (by omega)) ?_
  iterate 2 refine jw_u rfl ?_
  refine jtop (pk_sub (b := 1) b9) ?_
  iterate 3 refine jw_u rfl ?_
  exact loop 0 (Nat.zero_le _)
theorem c_lookAt {sc : Nat} {sf : Nat → Nat} (hC : xC x 11 C) (hS : xS x 15 (cN C) S) (wc : wC C) (ws : wS (cN C) S) (h7 : x 116 0 = nI sc) (b7 : sc ≤ 8) (hf : ∀ k, k < sc → x 117 k = nI (sf k)) (bf : ∀ k, k < sc → sf k < 1000) (h : Q (some (.int (fLook C S sc sf))) x) : jo (d + 5) 54 [.ref 0] x Q := by
  have b3 := wc.2.2.1
  have g1 := mb_lt (S := S) (sf := sf) b3 sc
  have g2 := pp_le (mb C S sf sc)
  have g3 : ∀ w, lkF C S (mb C S sf sc) w ≤ 8 := fun w => mA_le (fun k => Nat.le_trans (cA_le _ _) b3) 10
  have loop : ∀ i, i ≤ 3 → ∀ g, jw (d + 4) kX6_lookAt Q 10 [some (.ref 0), some (.int (nI (mb C S sf sc))), some (.int (oI (lB (lkF C S (mb C S sf sc)) (pp (mb C S sf sc)) i).1)), some (.int (nI (lB (lkF C S (mb C S sf sc)) (pp (mb C S sf sc)) i).2)), some (.int (nI i)), g] [] x := by
    refine dn _ 3 (fun g => ?_) (fun i hi ih g => ?_)
    · iterate 2 refine jw_u rfl ?_
      refine jw_u rfl ⟨fun _ => ?_, fun (c' : ¬ nI 3 ≤ nI 3) => absurd (Int32.le_refl _) c'⟩
      iterate 2 refine jw_u rfl ?_
      exact ⟨fun h => (by cases h), h⟩
    · have ih := ih (some (.int (nI (lkF C S (mb C S sf sc) i))))
      have g4 := lB_le (F := lkF C S (mb C S sf sc)) (z := pp (mb C S sf sc)) i
      have g5 := g3 i
      rw [nI_s i] at ih
      iterate 2 refine jw_u rfl ?_
      refine jw_u rfl ⟨fun (c' : nI 3 ≤ nI i) => absurd c' (nI_ge hi (by omega)), fun _ => ?_⟩
      iterate 4 refine jw_u rfl ?_
      refine c_alike hC.2.2.1 b3 hS.1 ws.1 g1 hi ?_
      iterate 3 refine jw_u rfl ?_
      refine jw_u rfl ⟨fun (c' : nI (lB (lkF C S (mb C S sf sc)) (pp (mb C S sf sc)) i).2 ≤ nI (lkF C S (mb C S sf sc) i)) => ?_, fun (c' : ¬ nI (lB (lkF C S (mb C S sf sc)) (pp (mb C S sf sc)) i).2 ≤ nI (lkF C S (mb C S sf sc) i)) => ?_⟩
      · rw [nI_leI (by omega) (by omega)] at c'
        iterate 2 refine jw_u rfl ?_
        rw [lB, if_neg (by omega)] at ih
        exact ih
      · rw [nI_leI (by omega) (by omega)] at c'
        iterate 6 refine jw_u rfl ?_
        rw [lB, if_pos (by omega)] at ih
        exact ih
  refine jo_i rfl rfl (Nat.le_of_ble_eq_true rfl) ?_
  iterate 2 refine jw_u rfl ?_
  refine c_madeBy hC hS wc ws h7 b7 hf bf ?_
  iterate 5 refine jw_u rfl ?_
  refine c_bitCount g1 ?_
  iterate 3 refine jw_u rfl ?_
  exact loop 0 (Nat.zero_le _) none
theorem c_judge {ec : Nat} {ep em : Nat → Nat} (hC : xC x 11 C) (hS : xS x 15 (cN C) S) (wc : wC C) (ws : wS (cN C) S) (h8 : x 116 2 = nI ec) (b8 : ec ≤ 15) (hp : ∀ k, k < ec → x 118 k = nI (ep k)) (bp : ∀ k, k < ec → ep k < cN C) (hm : ∀ k, k < ec → x 119 k = nI (em k)) (bm : ∀ k, k < ec → em k < 1000) (h : Q (some (.int (fJudge S ec ep em))) x) : jo (d + 2) 57 [.ref 0] x Q := by
  have b3 := wc.2.2.1
  have loop : ∀ i, i ≤ ec → ∀ g, Q (some (.int (on1 (fun k => sH S (ep k) != em k) (ec - i) i))) x → jw (d + 1) kX6_judge Q 2 [some (.ref 0), some (.int (nI i)), g] [] x := by
    refine dn _ ec (fun g hq => ?_) (fun i hi ih g hq => ?_)
    · rw [Nat.sub_self] at hq
      iterate 4 refine jw_u rfl ?_
      refine jw_u rfl ⟨fun _ => ?_, fun (c' : ¬ x 116 2 ≤ nI ec) => absurd (by rw [h8]; exact Int32.le_refl _) c'⟩
      iterate 2 refine jw_u rfl ?_
      exact ⟨fun h => (by cases h), jret jm1 hq⟩
    · have e1 := bp i hi
      have e2 := bm i hi
      have e3 := ws.1 _ e1
      rw [show ec - i = (ec - (i + 1)) + 1 by omega, on1] at hq
      iterate 4 refine jw_u rfl ?_
      refine jw_u rfl ⟨fun (c' : x 116 2 ≤ nI i) => absurd c' (by rw [h8]; exact nI_ge hi (by omega)), fun _ => ?_⟩
      iterate 4 refine jw_u rfl ?_
      refine jw_u rfl (jaN (show i < 15 by omega) (by decide) (hp i hi) ?_)
      iterate 4 refine jw_u rfl ?_
      refine c_isPerson hC.2.2.1 (fun _ => ?_) (fun hc => absurd (ilt2 (by omega) e1) hc)
      refine jw_u rfl ⟨fun c => absurd c n10, fun _ => ?_⟩
      iterate 4 refine jw_u rfl ?_
      refine jw_u rfl (jaN (show ep i < 8 by omega) (by decide) (hS.1 _ e1) ?_)
      iterate 4 refine jw_u rfl ?_
      refine jw_u rfl (jaN (show i < 15 by omega) (by decide) (hm i hi) ?_)
      refine jw_u rfl ⟨fun (c' : nI (sH S (ep i)) = nI (em i)) => ?_, fun (c' : ¬ nI (sH S (ep i)) = nI (em i)) => ?_⟩
      · rw [nI_eq (by omega) (by omega)] at c'
        rw [if_neg (by simp [c'])] at hq
        have := ih (some (.int (nI (ep i)))) hq
        rw [nI_s i] at this
        iterate 2 refine jw_u rfl ?_
        exact this
      · rw [nI_eq (by omega) (by omega)] at c'
        rw [if_pos (by simp [c'])] at hq
        iterate 2 refine jw_u rfl ?_
        exact ⟨fun h => (by cases h), hq⟩
  refine jo_i rfl rfl (Nat.le_of_ble_eq_true rfl) ?_
  iterate 2 refine jw_u rfl ?_
  exact loop 0 (Nat.zero_le _) none h
theorem c_love {i : Int32} (hC : xC x 11 C) (hS : xS x 15 (cN C) S) (wc : wC C) (ws : wS (cN C) S) (h : Q (some (.int (fLove C S i))) x) : jo (d + 3) 48 [.ref 0, .int i] x Q := by
  have b3 := wc.2.2.1
  have c3 := hC.2.2.1
  have loop : ∀ p, p ≤ cN C → ∀ c g, c ≤ p → Q (some (.int (rsI i c (lvl (cN C) (sH S) p)))) x → jw (d + 2) kX6_love Q 4 [some (.ref 0), some (.int i), some (.int (nI c)), some (.int (nI p)), g] [] x := by
    refine dn _ (cN C) (fun c g hc hq => ?_) (fun p hp ih c g hc hq => ?_)
    · rw [lvl_n (Nat.le_refl _), rsI] at hq
      iterate 4 refine jw_u rfl ?_
      refine jw_u rfl ⟨fun _ => ?_, fun (c' : ¬ x 11 2 ≤ nI (cN C)) => absurd (by rw [c3]; exact Int32.le_refl _) c'⟩
      iterate 2 refine jw_u rfl ?_
      refine jw_u rfl ⟨fun (c' : ¬ i = jc (-1)) => ?_, fun (c' : i = jc (-1)) => ?_⟩
      · rw [jm1] at c'
        rw [if_neg c'] at hq
        iterate 2 refine jw_u rfl ?_
        exact ⟨fun h => (by cases h), jret jm1 hq⟩
      · rw [jm1] at c'
        rw [if_pos c'] at hq
        iterate 3 refine jw_u rfl ?_
        exact ⟨fun h => (by cases h), hq⟩
    · iterate 4 refine jw_u rfl ?_
      refine jw_u rfl ⟨fun (c' : x 11 2 ≤ nI p) => absurd c' (by rw [c3]; exact nI_ge hp (by omega)), fun _ => ?_⟩
      iterate 3 refine jw_u rfl ?_
      refine c_nearestTo c3 b3 hS.1 ws.1 hp ?_
      rw [lvl_c hp] at hq
      have skip : lv (cN C) (sH S) p = none → ∀ g, jw (d + 2) kX6_love Q 31 [some (.ref 0), some (.int i), some (.int (nI c)), some (.int (nI p)), g] [] x := by
        intro e g
        rw [e] at hq
        have := ih c g (by omega) hq
        rw [nI_s p] at this
        iterate 2 refine jw_u rfl ?_
        exact this
      cases hk : kn (cN C) (sH S) p with
      | none =>
        refine jtop (v' := -1) (by show oI (kn (cN C) (sH S) p) = _; rw [hk]; rfl) ?_
        iterate 3 refine jw_u rfl ?_
        refine jw_u rfl ⟨fun _ => ?_, fun (c' : ¬ (-1 : Int32) ≤ nI p) => ?_⟩
        · exact skip (by rw [lv, hk]) _
        · exact absurd (Int32.le_trans (by decide : (-1 : Int32) ≤ 0) (nI_pos' (by omega))) c'
      | some q =>
        have hq2 := am_lt hk
        refine jtop (v' := nI q) (by show oI (kn (cN C) (sH S) p) = _; rw [hk]; rfl) ?_
        iterate 3 refine jw_u rfl ?_
        refine jw_u rfl ⟨fun (c' : nI q ≤ nI p) => ?_, fun (c' : ¬ nI q ≤ nI p) => ?_⟩
        · rw [nI_leI (by omega) (by omega)] at c'
          exact skip (by rw [lv, hk]; dsimp only; rw [if_neg (by omega)]) _
        · rw [nI_leI (by omega) (by omega)] at c'
          iterate 3 refine jw_u rfl ?_
          refine c_nearestTo c3 b3 hS.1 ws.1 hq2 ?_
          refine jw_u rfl ?_
          have eqo : oI (kn (cN C) (sH S) q) = nI p ↔ kn (cN C) (sH S) q = some p := by
            cases hk2 : kn (cN C) (sH S) q with
            | none =>
              constructor
              · intro e
                have e : (-1 : Int32) = nI p := e
                have : nI p < 0 := by rw [← e]; decide
                exact absurd this (nI_pos (by omega))
              · intro e; cases e
            | some r =>
              have hr := am_lt hk2
              constructor
              · intro e
                have e : nI r = nI p := e
                rw [nI_eq (by omega) (by omega)] at e
                rw [e]
              · intro e; cases e; rfl
          refine jw_u rfl ⟨fun (c2 : ¬ oI (kn (cN C) (sH S) q) = nI p) => ?_, fun (c2 : oI (kn (cN C) (sH S) q) = nI p) => ?_⟩
          · rw [eqo] at c2
            exact skip (by rw [lv, hk]; dsimp only; rw [if_neg (fun hc => c2 hc.2)]) _
          · rw [eqo] at c2
            have e : lv (cN C) (sH S) p = some (p, q) := by rw [lv, hk]; dsimp only; rw [if_pos ⟨by omega, c2⟩]
            rw [e] at hq
            dsimp only at hq
            rw [rsI] at hq
            iterate 2 refine jw_u rfl ?_
            refine jw_u rfl ⟨fun (c4 : ¬ nI c = i) => ?_, fun (c4 : nI c = i) => ?_⟩
            · rw [if_neg c4] at hq
              have := ih (c + 1) (some (.int (nI q))) (by omega) hq
              rw [nI_s p, nI_s c] at this
              iterate 3 refine jw_u rfl ?_
              exact this
            · rw [if_pos c4] at hq
              iterate 3 refine jw_u rfl ?_
              refine jtop (pk_mul 10 p) ?_
              iterate 2 refine jw_u rfl ?_
              refine jtop (nI_add _ _) ?_
              refine jw_u rfl ?_
              exact ⟨fun h => (by cases h), hq⟩
  refine jo_i rfl rfl (Nat.le_of_ble_eq_true rfl) ?_
  iterate 4 refine jw_u rfl ?_
  exact loop 0 (Nat.zero_le _) 0 none (Nat.le_refl _) h
end CW
