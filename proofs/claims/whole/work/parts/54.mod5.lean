/-! THE REFERENCE: years, the heir, one, the most -/
section MG
variable {d n : Nat} {x : jM} {Q : Option Value → jM → Prop} {hd sl dr : Nat → Nat}
set_option maxHeartbeats 1000000 in
theorem m_passesYear {r y g : Nat} (hr : r ≤ 600) (hy : y ≤ 100000) (hn : x 121 5 = nI n) (h8 : n ≤ 8) (hg : x 121 4 = nI g) (bg : g < 1000) (hdr : ∀ k, k < n → x 125 k = nI (dr k)) (br : ∀ k, k < n → dr k ≤ 2) (hh : ∀ k, k < n → x 122 (r + 2 + k) = nI (hd k)) (bh : ∀ k, k < n → hd k < 1000) (hyr : x 122 r = nI y)
    (h : ∀ x', (∀ i, i ≠ 122 → x' i = x i) → (∀ k, k < n → x' 122 (r + 2 + k) = nI (ag (hd k) (dr k) g (y % 2))) → x' 122 r = nI (y + 1) → (∀ j, j < r ∨ j = r + 1 ∨ r + 2 + n ≤ j → x' 122 j = x 122 j) → Q none x') : jo (d + 2) 116 [.ref 121, .int (nI r)] x Q := by
  have loop : ∀ p, p ≤ n → ∀ x1 g3 g4 g5 g6 g7, (∀ i, i ≠ 122 → x1 i = x i) → (∀ k, k < n → x1 122 (r + 2 + k) = nI (if k < p then ag (hd k) (dr k) g (y % 2) else hd k)) → (∀ j, j < r + 2 ∨ r + 2 + n ≤ j → x1 122 j = x 122 j) → jw (d + 1) kX7_passesYear Q 2 [some (.ref 121), some (.int (nI r)), some (.int (nI p)), g3, g4, g5, g6, g7] [] x1 := by
    refine dn _ n (fun x1 g3 g4 g5 g6 g7 f1 f2 f3 => ?_) (fun p hp ih x1 g3 g4 g5 g6 g7 f1 f2 f3 => ?_)
    · have e5 : x1 121 5 = nI n := by rw [f1 121 (by decide)]; exact hn
      have ey : x1 122 (r + 0) = nI y := by rw [Nat.add_zero, f3 r (by omega)]; exact hyr
      iterate 3 refine jw_u rfl ?_
      refine jw_u rfl ⟨fun _ => ?_, fun (c' : ¬ x1 121 5 ≤ nI n) => absurd (by rw [e5]; exact Int32.le_refl _) c'⟩
      iterate 5 refine jw_u rfl ?_
      refine jtop (nI_add r 0) ?_
      refine jw_u rfl ?_
      refine jw_u rfl (jaN (o := 122) (show r + 0 < 648 by omega) (by decide) ey ?_)
      iterate 2 refine jw_u rfl ?_
      refine jtop (nI_add y 1) ?_
      refine jw_u rfl (jsN (o := 122) (j := r + 0) (show r + 0 < 648 by omega) (by decide) ?_)
      refine jw_u rfl ?_
      refine h _ (fun i hi => by rw [ju_oo hi]; exact f1 i hi) (fun k hk => by rw [ju_k (by omega), f2 k hk, if_pos hk]) (ju_s _ _ _ _) (fun j hj => by rw [ju_k (by omega)]; exact f3 j (by omega))
    · have e5 : x1 121 5 = nI n := by rw [f1 121 (by decide)]; exact hn
      have eg : x1 121 4 = nI g := by rw [f1 121 (by decide)]; exact hg
      have ed : x1 125 p = nI (dr p) := by rw [f1 125 (by decide)]; exact hdr p hp
      have eh : x1 122 (r + 2 + p) = nI (hd p) := by rw [f2 p hp, if_neg (Nat.lt_irrefl _)]
      have ey : x1 122 (r + 0) = nI y := by rw [Nat.add_zero, f3 r (by omega)]; exact hyr
      have ba := bh p hp
      have bd := br p hp
      iterate 3 refine jw_u rfl ?_
      refine jw_u rfl ⟨fun (c' : x1 121 5 ≤ nI p) => absurd c' (by rw [e5]; exact nI_ge hp (by omega)), fun _ => ?_⟩
      iterate 5 refine jw_u rfl ?_
      refine jtop (nI_add r 2) ?_
      iterate 2 refine jw_u rfl ?_
      refine jtop (nI_add (r + 2) p) ?_
      refine jw_u rfl (jaN (o := 122) (show r + 2 + p < 648 by omega) (by decide) eh ?_)
      iterate 3 refine jw_u rfl ?_
      refine jw_u rfl ⟨by decide, ?_⟩
      refine jtop (d1 ba) ?_
      iterate 3 refine jw_u rfl ?_
      refine jtop eg ?_
      refine jw_u rfl ?_
      refine jw_u rfl ⟨by decide, ?_⟩
      refine jtop (d1 bg) ?_
      have next : ∀ v g4 g5 g6 g7, v = nI (ag (hd p) (dr p) g (y % 2)) → jw (d + 1) kX7_passesYear Q 93 [some (.ref 121), some (.int (nI r)), some (.int (nI p)), some (.int (nI (hd p))), g4, g5, g6, g7] [.int v, .int (nI (r + 2 + p)), .ref 122] x1 := by
        intro v g4 g5 g6 g7 hv
        refine jw_u rfl (jsN (o := 122) (show r + 2 + p < 648 by omega) (by decide) ?_)
        iterate 2 refine jw_u rfl ?_
        have := ih (ju x1 122 (r + 2 + p) v) (some (.int (nI (hd p)))) g4 g5 g6 g7 (fun i hi => by rw [ju_oo hi]; exact f1 i hi) (fun k hk => by
          by_cases e : k = p
          · subst e
            rw [ju_s, if_pos (Nat.lt_succ_self _)]
            exact hv
          · rw [ju_k (by omega), f2 k hk]
            by_cases h9 : k < p
            · rw [if_pos h9, if_pos (by omega)]
            · rw [if_neg h9, if_neg (by omega)]) (fun j hj => by rw [ju_k (by omega)]; exact f3 j hj)
        rw [nI_s p] at this
        exact this
      have hag : ag (hd p) (dr p) g (y % 2) = 100 * (if hd p / 100 < g / 100 then min (hd p / 100 + dr p) (g / 100) else max (hd p / 100 - dr p) (g / 100)) + 10 * (hd p / 10 % 10) + (if y % 2 = 1 then hd p % 10 - 1 else hd p % 10) := rfl
      have d2a := d2 ba
      have d3a := d3 ba
      have bu : hd p / 100 < 10 := by omega
      have bv : g / 100 < 10 := by omega
      have bm : hd p % 10 < 10 := by omega
      generalize hd p / 100 = u at hag bu ⊢
      generalize g / 100 = v at hag bv ⊢
      generalize hd p / 10 % 10 = m1 at hag d2a ⊢
      generalize hd p % 10 = m at hag d3a bm ⊢
      have press : ∀ le pv, le = (if u < v then min (u + dr p) v else max (u - dr p) v) → ((pv < 0 ∧ (if y % 2 = 1 then m - 1 else m) = 0) ∨ pv = nI (if y % 2 = 1 then m - 1 else m)) → ∀ g5 g6 g7, jw (d + 1) kX7_passesYear Q 68 [some (.ref 121), some (.int (nI r)), some (.int (nI p)), some (.int (nI (hd p))), some (.int (nI le)), g5, some (.int g6), g7] [.int pv] x1 := by
        intro le pv hle hpv g5 g6 g7
        rw [← hle] at hag
        iterate 6 refine jw_u rfl ?_
        refine jtop (nI_add r 2) ?_
        iterate 2 refine jw_u rfl ?_
        refine jtop (nI_add (r + 2) p) ?_
        iterate 3 refine jw_u rfl ?_
        refine jtop (pk_mul 100 le) ?_
        iterate 3 refine jw_u rfl ?_
        refine jw_u rfl ⟨by decide, ?_⟩
        refine jw_u rfl ?_
        refine jw_u rfl ⟨by decide, ?_⟩
        refine jtop d2a ?_
        refine jw_u rfl ?_
        refine jtop (pk_mul 10 m1) ?_
        refine jw_u rfl ?_
        refine jtop (nI_add _ _) ?_
        refine jw_u rfl ?_
        rcases hpv with ⟨hneg, hz⟩ | hpv
        · refine jw_u rfl ⟨fun (c : 0 ≤ pv) => absurd hneg (by simpa using c), fun _ => ?_⟩
          iterate 3 refine jw_u rfl ?_
          refine next _ _ _ _ _ ?_
          show nI _ + nI 0 = _
          rw [nI_add, hag, hz]
        · have bz : (if y % 2 = 1 then m - 1 else m) < 10 := by split <;> omega
          refine jw_u rfl ⟨fun _ => ?_, fun (c : ¬ 0 ≤ pv) => absurd (by rw [hpv]; exact nI_pos' (by omega)) c⟩
          iterate 2 refine jw_u rfl ?_
          refine next _ _ _ _ _ ?_
          rw [hpv, nI_add, hag]
      have lean : ∀ le g5 g6 g7, le = (if u < v then min (u + dr p) v else max (u - dr p) v) → jw (d + 1) kX7_passesYear Q 50 [some (.ref 121), some (.int (nI r)), some (.int (nI p)), some (.int (nI (hd p))), some (.int (nI u)), g5, some (.int g6), g7] [.int (nI le)] x1 := by
        intro le g5 g6 g7 hle
        iterate 3 refine jw_u rfl ?_
        refine jw_u rfl ⟨by decide, ?_⟩
        refine jtop d3a ?_
        iterate 5 refine jw_u rfl ?_
        refine jtop (nI_add r 0) ?_
        refine jw_u rfl (jaN (o := 122) (show r + 0 < 648 by omega) (by decide) ey ?_)
        refine jw_u rfl ?_
        refine jw_u rfl ⟨by decide, ?_⟩
        refine jtop (pk_rem (a := y) (d := 2) (by omega) (by decide) (by decide)) ?_
        refine jw_u rfl ?_
        refine jw_u rfl ⟨fun (c' : ¬ nI (y % 2) = nI 1) => ?_, fun (c' : nI (y % 2) = nI 1) => ?_⟩
        · rw [nI_eq (by omega) (by decide)] at c'
          iterate 2 refine jw_u rfl ?_
          refine press le _ hle (Or.inr ?_) g5 g6 g7
          rw [if_neg c']
          exact pk_sub (b := 0) (Nat.zero_le _)
        · rw [nI_eq (by omega) (by decide)] at c'
          iterate 3 refine jw_u rfl ?_
          by_cases hm : m = 0
          · refine press le _ hle (Or.inl ⟨?_, by rw [if_pos c', hm]⟩) g5 g6 g7
            rw [hm]
            decide
          · refine press le _ hle (Or.inr ?_) g5 g6 g7
            rw [if_pos c']
            exact pk_sub (b := 1) (by omega)
      have stp : ∀ st g6 g7, st = min (ds u v) (dr p) → jw (d + 1) kX7_passesYear Q 40 [some (.ref 121), some (.int (nI r)), some (.int (nI p)), some (.int (nI (hd p))), some (.int (nI u)), some (.int (nI v)), g6, g7] [.int (nI st)] x1 := by
        intro st g6 g7 hst
        iterate 4 refine jw_u rfl ?_
        refine jw_u rfl ⟨fun (c' : nI v ≤ nI u) => ?_, fun (c' : ¬ nI v ≤ nI u) => ?_⟩
        · rw [nI_leI (by omega) (by omega)] at c'
          rw [ds, if_neg (by omega)] at hst
          iterate 3 refine jw_u rfl ?_
          refine jtop (v' := nI (u - st)) ((Int32.sub_eq_add_neg _ _).symm.trans (pk_sub (by omega))) ?_
          exact lean (u - st) _ _ _ (by rw [if_neg (by omega)]; omega)
        · rw [nI_leI (by omega) (by omega)] at c'
          rw [ds, if_pos (by omega)] at hst
          iterate 3 refine jw_u rfl ?_
          refine jtop (nI_add u st) ?_
          exact lean (u + st) _ _ _ (by rw [if_pos (by omega)]; omega)
      have bds : ds u v < 10 := by unfold ds; split <;> omega
      iterate 4 refine jw_u rfl ?_
      refine m_off (by omega) (by omega) ?_
      iterate 3 refine jw_u rfl ?_
      refine jw_u rfl (jaN (o := 125) (show p < 8 by omega) (by decide) ed ?_)
      refine jw_u rfl ⟨fun (c' : nI (dr p) ≤ nI (ds u v)) => ?_, fun (c' : ¬ nI (dr p) ≤ nI (ds u v)) => ?_⟩
      · rw [nI_leI (by omega) (by omega)] at c'
        iterate 3 refine jw_u rfl ?_
        refine jw_u rfl (jaN (o := 125) (show p < 8 by omega) (by decide) ed ?_)
        exact stp (dr p) _ _ (by rw [Nat.min_eq_right c'])
      · rw [nI_leI (by omega) (by omega)] at c'
        iterate 3 refine jw_u rfl ?_
        refine m_off (by omega) (by omega) ?_
        refine jw_u rfl ?_
        exact stp (ds u v) _ _ (by rw [Nat.min_eq_left (by omega)])
  refine jo_i rfl rfl (Nat.le_of_ble_eq_true rfl) ?_
  iterate 2 refine jw_u rfl ?_
  exact loop 0 (Nat.zero_le _) x none none none none none (fun _ _ => rfl) (fun k hk => by rw [if_neg (Nat.not_lt_zero _)]; exact hh k hk) (fun _ _ => rfl)
end MG
section MH
variable {d : Nat} {x : jM} {Q : Option Value → jM → Prop} {C : aC} {S : aS}
theorem m_heir {m : Int32} (hC : mC x C) (hS : mS x 0 (cN C) S) (wc : wC C) (ws : wS (cN C) S) (h : ∀ x', (∀ i, i ≠ 122 → x' i = x i) → (∀ j, j < 27 ∨ 53 < j → x' 122 j = x 122 j) → Q (some (.int (fHeir C S m))) x') : jo (d + 3) 138 [.ref 121, .int m] x Q := by
  obtain ⟨-, c2, c3, -, c5, c6, -⟩ := hC
  obtain ⟨-, b2, b3, -, b5, b6, -⟩ := wc
  obtain ⟨w1, w2, w3, w4, w5⟩ := ws
  refine jo_i rfl rfl (Nat.le_of_ble_eq_true rfl) ?_
  iterate 5 refine jw_u rfl ?_
  unfold fHeir at h
  refine m_in (a := 0) (b := 60) (by decide) (by decide) (fun hi => ?_) (fun hi => ?_)
  rotate_left
  · rw [if_neg (fun hc => hi (by have := (ri (by decide)).mp hc; omega))] at h
    refine jw_u rfl ⟨fun c => absurd n00 c, fun _ => ?_⟩
    iterate 2 refine jw_u rfl ?_
    exact ⟨fun h => (by cases h), h x (fun _ _ => rfl) (fun _ _ => rfl)⟩
  have hm : 0 ≤ m ∧ m < nI 61 := (ri (by decide)).mpr (by omega)
  rw [if_pos hm] at h
  obtain ⟨j, hj, rfl⟩ := ilt (by decide) hm
  rw [nI_clamp (by omega)] at h
  refine jw_u rfl ⟨fun _ => ?_, fun c => absurd c n10⟩
  iterate 4 refine jw_u rfl ?_
  refine m_copy (a := 0) (b := 27) (by decide) (by decide) (Or.inl (by decide)) (fun x1 f1 f2 f3 => ?_)
  have e1 : ∀ k, k < cN C → x1 122 (27 + 2 + k) = nI (sH S k) := fun k hk => by
    rw [Nat.add_assoc, f2 (2 + k) (by omega), ← Nat.add_assoc]
    exact hS.1 k hk
  have e2 : x1 122 27 = nI (sY S) := by
    have := f2 0 (by decide)
    exact this.trans hS.2.2.2.2
  have b1 : ∀ i k, k < cN C → ya (cDr C k) (cG C) (sY S) (sH S k) i < 1000 := fun i k hk => ya_lt (w1 k hk) b2 i
  have last : ∀ x2, (∀ i, i ≠ 122 → x2 i = x i) → (∀ k, k < cN C → x2 122 (29 + k) = nI (ya (cDr C k) (cG C) (sY S) (sH S k) j)) → (∀ j, j < 27 ∨ 53 < j → x2 122 j = x 122 j) → jw (d + 2) kX7_heir Q 22 [some (.ref 121), some (.int (nI j)), some (.int (nI j)), none] [] x2 := by
    intro x2 g1 g2 g3
    have h := h x2 g1 g3
    have e5 : x2 121 5 = nI (cN C) := by rw [g1 121 (by decide)]; exact c3
    have e4 : x2 121 4 = nI (cG C) := by rw [g1 121 (by decide)]; exact c2
    have bf : ∀ k, k < cN C → ap (ya (cDr C k) (cG C) (sY S) (sH S k) j) (cG C) ≤ 27 := fun k hk => ap_lt (b1 j k hk) b2
    have loop : ∀ i, i ≤ cN C → jw (d + 2) kX7_heir Q 26 [some (.ref 121), some (.int (nI j)), some (.int (oI (am (fun p => ap (ya (cDr C p) (cG C) (sY S) (sH S p) j) (cG C)) (fun _ => true) i))), some (.int (nI i))] [] x2 := by
      refine dn _ (cN C) ?_ (fun i hi ih => ?_)
      · iterate 3 refine jw_u rfl ?_
        refine jw_u rfl ⟨fun _ => ?_, fun (c' : ¬ x2 121 5 ≤ nI (cN C)) => absurd (by rw [e5]; exact Int32.le_refl _) c'⟩
        iterate 2 refine jw_u rfl ?_
        exact ⟨fun h => (by cases h), h⟩
      · have q2 := bf i hi
        rw [nI_s i] at ih
        iterate 3 refine jw_u rfl ?_
        refine jw_u rfl ⟨fun (c' : x2 121 5 ≤ nI i) => absurd c' (by rw [e5]; exact nI_ge hi (by omega)), fun _ => ?_⟩
        cases hb : am (fun p => ap (ya (cDr C p) (cG C) (sY S) (sH S p) j) (cG C)) (fun _ => true) i with
        | none =>
          rw [am_yes (f := fun p => ap (ya (cDr C p) (cG C) (sY S) (sH S p) j) (cG C)) (ok := fun _ => true) rfl (Or.inl hb)] at ih
          iterate 2 refine jw_u rfl ?_
          refine jw_u rfl ⟨fun _ => ?_, fun c2 => absurd rfl c2⟩
          iterate 5 refine jw_u rfl ?_
          exact ih
        | some b =>
          have hbn := am_lt hb
          have q3 := bf b (by omega)
          iterate 2 refine jw_u rfl ?_
          refine jw_u rfl ⟨fun (c2 : nI b = jc (-1)) => absurd c2 (nm1 (by omega)), fun _ => ?_⟩
          iterate 5 refine jw_u rfl ?_
          refine jtop (nI_add 29 i) ?_
          refine jw_u rfl (jaN (o := 122) (show 29 + i < 648 by omega) (by decide) (g2 i hi) ?_)
          iterate 2 refine jw_u rfl ?_
          refine jtop e4 ?_
          refine jw_u rfl ?_
          refine m_apart (b1 j i hi) b2 ?_
          iterate 5 refine jw_u rfl ?_
          refine jtop (nI_add 29 b) ?_
          refine jw_u rfl (jaN (o := 122) (show 29 + b < 648 by omega) (by decide) (g2 b (by omega)) ?_)
          iterate 2 refine jw_u rfl ?_
          refine jtop e4 ?_
          refine jw_u rfl ?_
          refine m_apart (b1 j b (by omega)) b2 ?_
          refine jw_u rfl ⟨fun (c2 : nI (ap (ya (cDr C b) (cG C) (sY S) (sH S b) j) (cG C)) ≤ nI (ap (ya (cDr C i) (cG C) (sY S) (sH S i) j) (cG C))) => ?_, fun (c2 : ¬ nI (ap (ya (cDr C b) (cG C) (sY S) (sH S b) j) (cG C)) ≤ nI (ap (ya (cDr C i) (cG C) (sY S) (sH S i) j) (cG C))) => ?_⟩
          · rw [nI_leI (by omega) (by omega)] at c2
            rw [am_no (f := fun p => ap (ya (cDr C p) (cG C) (sY S) (sH S p) j) (cG C)) (ok := fun _ => true) (Or.inr ⟨b, hb, c2⟩), hb] at ih
            iterate 4 refine jw_u rfl ?_
            exact ih
          · rw [nI_leI (by omega) (by omega)] at c2
            rw [am_yes (f := fun p => ap (ya (cDr C p) (cG C) (sY S) (sH S p) j) (cG C)) (ok := fun _ => true) rfl (Or.inr ⟨b, hb, Nat.not_le.mp c2⟩)] at ih
            iterate 5 refine jw_u rfl ?_
            exact ih
    iterate 4 refine jw_u rfl ?_
    exact loop 0 (Nat.zero_le _)
  have years : ∀ i, i ≤ j → ∀ x2, (∀ i, i ≠ 122 → x2 i = x i) → (∀ k, k < cN C → x2 122 (27 + 2 + k) = nI (ya (cDr C k) (cG C) (sY S) (sH S k) i)) → x2 122 27 = nI (sY S + i) → (∀ j, j < 27 ∨ 53 < j → x2 122 j = x 122 j) → jw (d + 2) kX7_heir Q 14 [some (.ref 121), some (.int (nI j)), some (.int (nI i)), none] [] x2 := by
    refine dn _ j (fun x2 g1 g2 g3 g4 => ?_) (fun i hi ih x2 g1 g2 g3 g4 => ?_)
    · iterate 2 refine jw_u rfl ?_
      refine jw_u rfl ⟨fun _ => last x2 g1 g2 g4, fun (c' : ¬ nI j ≤ nI j) => absurd (Int32.le_refl _) c'⟩
    · iterate 2 refine jw_u rfl ?_
      refine jw_u rfl ⟨fun (c' : nI j ≤ nI i) => absurd c' (nI_ge hi (by omega)), fun _ => ?_⟩
      iterate 3 refine jw_u rfl ?_
      refine m_passesYear (r := 27) (y := sY S + i) (n := cN C) (g := cG C) (dr := cDr C) (hd := fun k => ya (cDr C k) (cG C) (sY S) (sH S k) i) (by decide) (by omega) (by rw [g1 121 (by decide)]; exact c3) b3 (by rw [g1 121 (by decide)]; exact c2) b2 (fun k hk => by rw [g1 125 (by decide)]; exact c6 k hk) b6 g2 (fun k hk => b1 i k hk) g3 (fun x3 y1 y2 y3 y4 => ?_)
      iterate 2 refine jw_u rfl ?_
      have := ih x3 (fun i hi => (y1 i hi).trans (g1 i hi)) (fun k hk => y2 k hk) y3 (fun j hj => by rw [y4 j (by omega)]; exact g4 j hj)
      rw [nI_s i] at this
      exact this
  iterate 2 refine jw_u rfl ?_
  exact years 0 (Nat.zero_le _) x1 f1 e1 e2 (fun j hj => f3 j (by omega))
theorem m_one {p q : Int32} (hC : mC x C) (hS : mS x 0 (cN C) S) (wc : wC C) (ws : wS (cN C) S) (h : ∀ x', (∀ i, i ≠ 122 → x' i = x i) → (∀ j, j < 27 ∨ 53 < j → x' 122 j = x 122 j) → Q (some (.int (fOne C S p q))) x') : jo (d + 4) 144 [.ref 121, .int p, .int q] x Q := by
  obtain ⟨-, c2, c3, -, c5, c6, -⟩ := hC
  obtain ⟨-, b2, b3, -, b5, b6, -⟩ := wc
  obtain ⟨w1, w2, w3, w4, w5⟩ := ws
  have out : ¬ ((0 ≤ p ∧ p < nI (cN C)) ∧ (0 ≤ q ∧ q < nI (cN C)) ∧ ¬ p = q) → jw (d + 3) kX7_one Q 11 [some (.ref 121), some (.int p), some (.int q), none] [] x := by
    intro hm
    have h := h x (fun _ _ => rfl) (fun _ _ => rfl)
    unfold fOne at h
    rw [if_neg hm] at h
    iterate 2 refine jw_u rfl ?_
    exact ⟨fun h => (by cases h), h⟩
  refine jo_i rfl rfl (Nat.le_of_ble_eq_true rfl) ?_
  iterate 3 refine jw_u rfl ?_
  refine m_isPerson c3 b3 (fun hp => ?_) (fun hp => ?_)
  rotate_left
  · refine jw_u rfl ⟨fun _ => out (fun hc => hp hc.1), fun c => absurd n00 c⟩
  refine jw_u rfl ⟨fun c => absurd c n10, fun _ => ?_⟩
  iterate 3 refine jw_u rfl ?_
  refine m_isPerson c3 b3 (fun hq => ?_) (fun hq => ?_)
  rotate_left
  · refine jw_u rfl ⟨fun _ => out (fun hc => hq hc.2.1), fun c => absurd n00 c⟩
  refine jw_u rfl ⟨fun c => absurd c n10, fun _ => ?_⟩
  iterate 2 refine jw_u rfl ?_
  refine jw_u rfl ⟨fun (c' : ¬ p = q) => ?_, fun (c' : p = q) => out (fun hc => hc.2.2 c')⟩
  have hm : (0 ≤ p ∧ p < nI (cN C)) ∧ (0 ≤ q ∧ q < nI (cN C)) ∧ ¬ p = q := ⟨hp, hq, c'⟩
  obtain ⟨j, hj, rfl⟩ := ilt (by omega) hp
  obtain ⟨k, hk, rfl⟩ := ilt (by omega) hq
  unfold fOne at h
  rw [if_pos hm, nI_clamp (by omega), nI_clamp (by omega)] at h
  iterate 4 refine jw_u rfl ?_
  refine m_copy (a := 0) (b := 27) (by decide) (by decide) (Or.inl (by decide)) (fun x1 f1 f2 f3 => ?_)
  have e1 : ∀ k, k < cN C → x1 122 (27 + 2 + k) = nI (sH S k) := fun k hk => by
    rw [Nat.add_assoc, f2 (2 + k) (by omega), ← Nat.add_assoc]
    exact hS.1 k hk
  have e2 : x1 122 27 = nI (sY S) := by
    have := f2 0 (by decide)
    exact this.trans hS.2.2.2.2
  have loop : ∀ t, t ≤ 61 → ∀ x2, (∀ i, i ≠ 122 → x2 i = x i) → (∀ k, k < cN C → x2 122 (27 + 2 + k) = nI (ya (cDr C k) (cG C) (sY S) (sH S k) t)) → x2 122 27 = nI (sY S + t) → (∀ j, j < 27 ∨ 53 < j → x2 122 j = x 122 j) → (∀ x', (∀ i, i ≠ 122 → x' i = x i) → (∀ j, j < 27 ∨ 53 < j → x' 122 j = x 122 j) → Q (some (.int (on1 (oneP C S j k) (61 - t) t))) x') → jw (d + 3) kX7_one Q 19 [some (.ref 121), some (.int (nI j)), some (.int (nI k)), some (.int (nI t))] [] x2 := by
    refine dn _ 61 (fun x2 g1 g2 g3 g4 hq => ?_) (fun t ht ih x2 g1 g2 g3 g4 hq => ?_)
    · iterate 2 refine jw_u rfl ?_
      refine jw_u rfl ⟨fun _ => ?_, fun (c' : ¬ nI 60 < nI 61) => absurd (by decide) c'⟩
      iterate 2 refine jw_u rfl ?_
      exact ⟨fun h => (by cases h), jret jm1 (hq x2 g1 g4)⟩
    · have b1 : ∀ k, k < cN C → ya (cDr C k) (cG C) (sY S) (sH S k) t < 1000 := fun k hk => ya_lt (w1 k hk) b2 t
      rw [show 61 - t = (61 - (t + 1)) + 1 by omega, on1] at hq
      iterate 2 refine jw_u rfl ?_
      refine jw_u rfl ⟨fun (c' : nI 60 < nI t) => absurd c' (nI_nlt (by omega) (by decide)), fun _ => ?_⟩
      iterate 5 refine jw_u rfl ?_
      refine m_told2 (r := 27) (hd := fun k => ya (cDr C k) (cG C) (sY S) (sH S k) t) (by decide) b3 g2 (fun k hk => by rw [g1 124 (by decide)]; exact c5 k hk) b1 b5 hj hk (fun hw => ?_) (fun hw => ?_)
      · have hw : oneP C S j k t = false := hw
        refine jw_u rfl ⟨fun _ => ?_, fun c => absurd c n10⟩
        iterate 3 refine jw_u rfl ?_
        refine m_passesYear (r := 27) (y := sY S + t) (n := cN C) (g := cG C) (dr := cDr C) (hd := fun k => ya (cDr C k) (cG C) (sY S) (sH S k) t) (by decide) (by omega) (by rw [g1 121 (by decide)]; exact c3) b3 (by rw [g1 121 (by decide)]; exact c2) b2 (fun k hk => by rw [g1 125 (by decide)]; exact c6 k hk) b6 g2 b1 g3 (fun x3 y1 y2 y3 y4 => ?_)
        iterate 2 refine jw_u rfl ?_
        have := ih x3 (fun i hi => (y1 i hi).trans (g1 i hi)) (fun k hk => y2 k hk) y3 (fun j hj => by rw [y4 j (by omega)]; exact g4 j hj) (fun x' h1 h2 => by
          have := hq x' h1 h2
          rw [if_neg (by rw [hw]; decide)] at this
          exact this)
        rw [nI_s t] at this
        exact this
      · have hw : oneP C S j k t = true := hw
        refine jw_u rfl ⟨fun c => absurd n00 c, fun _ => ?_⟩
        have := hq x2 g1 g4
        rw [if_pos hw] at this
        iterate 2 refine jw_u rfl ?_
        exact ⟨fun h => (by cases h), this⟩
  iterate 2 refine jw_u rfl ?_
  exact loop 0 (Nat.zero_le _) x1 f1 e1 e2 (fun j hj => f3 j (by omega)) h
def atP (n : Nat) (hd sl : Nat → Nat) (s p q : Nat) : Prop := ∀ p' q', (p' < p ∨ (p' = p ∧ q' < q)) → p' < q' → q' < n → bt s p' = 1 → bt s q' = 1 → nr (hd p') (hd q') (sl p' + sl q') = false
set_option maxHeartbeats 1000000 in
theorem m_most (hC : mC x C) (hS : mS x 0 (cN C) S) (wc : wC C) (ws : wS (cN C) S) (h : Q (some (.int (fMost C S))) x) : jo (d + 4) 134 [.ref 121] x Q := by
  obtain ⟨-, -, c3, -, c5, -⟩ := hC
  obtain ⟨s1, -⟩ := hS
  obtain ⟨-, -, b3, -, b5, -⟩ := wc
  obtain ⟨w1, -⟩ := ws
  have b2 := p2 b3
  have loop : ∀ i, i ≤ 2 ^ cN C → ∀ g3 g4 g5, jw (d + 3) kX7_most Q 4 [some (.ref 121), some (.int (nI (mo (cN C) (sH S) (cSl C) i))), some (.int (nI i)), g3, g4, g5] [] x := by
    refine dn _ (2 ^ cN C) (fun g3 g4 g5 => ?_) (fun i hi ih g3 g4 g5 => ?_)
    · iterate 4 refine jw_u rfl ?_
      refine jtop c3 ?_
      refine jw_u rfl ?_
      refine jtop (shl1 _ (by omega)) ?_
      refine jw_u rfl ⟨fun _ => ?_, fun (c' : ¬ nI (2 ^ cN C) ≤ nI (2 ^ cN C)) => absurd (Int32.le_refl _) c'⟩
      iterate 2 refine jw_u rfl ?_
      exact ⟨fun h => (by cases h), h⟩
    · have q0 := mo_le (cN C) (sH S) (cSl C) i
      have q1 := pp_le i
      have q2 := pp_le (mo (cN C) (sH S) (cSl C) i)
      have ih' := ih
      rw [nI_s i, mo] at ih'
      generalize mo (cN C) (sH S) (cSl C) i = B at q0 q2 ih' ⊢
      have fin : ∀ (b : Bool) g4 g5, (b = true ↔ (pp B < pp i ∧ atB (cN C) (sH S) (cSl C) i = true)) → jw (d + 3) kX7_most Q 59 [some (.ref 121), some (.int (nI B)), some (.int (nI i)), some (.int (nB b)), g4, g5] [] x := by
        intro b g4 g5 hb
        refine jw_u rfl ?_
        cases b with
        | false =>
          have ih' := ih' (some (.int (nB false))) g4 g5
          rw [if_neg (fun hc => by cases hb.mpr hc)] at ih'
          refine jw_u rfl ⟨fun _ => ?_, fun c => absurd n00 c⟩
          iterate 4 refine jw_u rfl ?_
          exact ih'
        | true =>
          have ih' := ih' (some (.int (nB true))) g4 g5
          rw [if_pos (hb.mp rfl)] at ih'
          refine jw_u rfl ⟨fun c => absurd c n10, fun _ => ?_⟩
          iterate 5 refine jw_u rfl ?_
          exact ih'
      iterate 4 refine jw_u rfl ?_
      refine jtop c3 ?_
      refine jw_u rfl ?_
      refine jtop (shl1 _ (by omega)) ?_
      refine jw_u rfl ⟨fun (c' : nI (2 ^ cN C) ≤ nI i) => absurd c' (nI_ge hi (by omega)), fun _ => ?_⟩
      iterate 2 refine jw_u rfl ?_
      refine m_ones (by omega) ?_
      iterate 2 refine jw_u rfl ?_
      refine m_ones (by omega) ?_
      refine jw_u rfl ⟨fun (c' : nI (pp i) ≤ nI (pp B)) => ?_, fun (c' : ¬ nI (pp i) ≤ nI (pp B)) => ?_⟩
      · rw [nI_leI (by omega) (by omega)] at c'
        have no : ∀ g5, jw (d + 3) kX7_most Q 59 [some (.ref 121), some (.int (nI B)), some (.int (nI i)), some (.int (nB false)), some (.int (nI 0)), g5] [] x := fun g5 => fin false _ g5 ⟨fun hc => (by cases hc), fun hc => absurd hc.1 (by omega)⟩
        iterate 4 refine jw_u rfl ?_
        iterate 3 refine jw_u rfl ?_
        refine jw_u rfl ⟨fun _ => no g5, fun _ => ?_⟩
        refine jw_u rfl ?_
        refine jw_u rfl ⟨fun _ => no g5, fun c => absurd n00 c⟩
      · rw [nI_leI (by omega) (by omega)] at c'
        have lp : ∀ p, p ≤ cN C → ∀ (b : Bool) g5, (b = true ↔ atP (cN C) (sH S) (cSl C) i p 0) → jw (d + 3) kX7_most Q 21 [some (.ref 121), some (.int (nI B)), some (.int (nI i)), some (.int (nB b)), some (.int (nI p)), g5] [] x := by
          refine dn _ (cN C) (fun b g5 hb => ?_) (fun p hp ihp b g5 hb => ?_)
          · iterate 3 refine jw_u rfl ?_
            refine jw_u rfl ⟨fun _ => ?_, fun (c' : ¬ x 121 5 ≤ nI (cN C)) => absurd (by rw [c3]; exact Int32.le_refl _) c'⟩
            refine fin b _ g5 ⟨fun hc => ⟨by omega, atB_iff.mpr (fun p q h1 h2 => hb.mp hc p q (by omega) h1 h2)⟩, fun hc => hb.mpr (fun p q _ h1 h2 => atB_iff.mp hc.2 p q h1 h2)⟩
          · have lq : ∀ q, q ≤ cN C → p < q → ∀ (b : Bool), (b = true ↔ atP (cN C) (sH S) (cSl C) i p q) → jw (d + 3) kX7_most Q 31 [some (.ref 121), some (.int (nI B)), some (.int (nI i)), some (.int (nB b)), some (.int (nI p)), some (.int (nI q))] [] x := by
              refine dn _ (cN C) (fun hpq b hb => ?_) (fun q hq ihq hpq b hb => ?_)
              · iterate 3 refine jw_u rfl ?_
                refine jw_u rfl ⟨fun _ => ?_, fun (c' : ¬ x 121 5 ≤ nI (cN C)) => absurd (by rw [c3]; exact Int32.le_refl _) c'⟩
                iterate 2 refine jw_u rfl ?_
                have := ihp b (some (.int (nI (cN C)))) ⟨fun hc p' q' h1 h2 h3 => hb.mp hc p' q' (by omega) h2 h3, fun hc => hb.mpr (fun p' q' h1 h2 h3 => hc p' q' (by omega) h2 h3)⟩
                rw [nI_s p] at this
                exact this
              · have stay : ∀ b', (b' = true ↔ atP (cN C) (sH S) (cSl C) i p (q + 1)) → jw (d + 3) kX7_most Q 31 [some (.ref 121), some (.int (nI B)), some (.int (nI i)), some (.int (nB b')), some (.int (nI p)), some (.int (nI q + nI 1))] [] x := by
                  intro b' hb'
                  have := ihq (by omega) b' hb'
                  rw [nI_s q] at this
                  exact this
                have yes : (b = true) → ((bt i p = 1 ∧ bt i q = 1) → nr (sH S p) (sH S q) (cSl C p + cSl C q) = false) → jw (d + 3) kX7_most Q 51 [some (.ref 121), some (.int (nI B)), some (.int (nI i)), some (.int (nB b)), some (.int (nI p)), some (.int (nI q))] [] x := by
                  intro h1 h2
                  iterate 5 refine jw_u rfl ?_
                  refine stay true ⟨fun _ p' q' g1 g2 g3 g4 g5 => ?_, fun _ => rfl⟩
                  by_cases e : p' = p ∧ q' = q
                  · obtain ⟨rfl, rfl⟩ := e
                    exact h2 ⟨g4, g5⟩
                  · exact hb.mp h1 p' q' (by omega) g2 g3 g4 g5
                have no : (¬ atP (cN C) (sH S) (cSl C) i p (q + 1)) → jw (d + 3) kX7_most Q 53 [some (.ref 121), some (.int (nI B)), some (.int (nI i)), some (.int (nB b)), some (.int (nI p)), some (.int (nI q))] [] x := by
                  intro h1
                  iterate 4 refine jw_u rfl ?_
                  exact stay false ⟨fun hc => (by cases hc), fun hc => absurd hc h1⟩
                iterate 3 refine jw_u rfl ?_
                refine jw_u rfl ⟨fun (c' : x 121 5 ≤ nI q) => absurd c' (by rw [c3]; exact nI_ge hq (by omega)), fun _ => ?_⟩
                refine jw_u rfl ?_
                cases hbb : b with
                | false =>
                  rw [hbb] at no hb
                  refine jw_u rfl ⟨fun _ => no (fun hc => by
                    cases hb.mpr (fun p' q' g1 g2 g3 => hc p' q' (by omega) g2 g3)), fun c => absurd n00 c⟩
                | true =>
                  rw [hbb] at no yes
                  have yes := yes rfl
                  refine jw_u rfl ⟨fun c => absurd c n10, fun _ => ?_⟩
                  iterate 3 refine jw_u rfl ?_
                  refine m_has (by omega) (by omega) (fun h1 => ?_) (fun h1 => ?_)
                  rotate_left
                  · refine jw_u rfl ⟨fun _ => yes (fun hc => by omega), fun c => absurd n00 c⟩
                  refine jw_u rfl ⟨fun c => absurd c n10, fun _ => ?_⟩
                  iterate 3 refine jw_u rfl ?_
                  refine m_has (by omega) (by omega) (fun h2 => ?_) (fun h2 => ?_)
                  rotate_left
                  · refine jw_u rfl ⟨fun _ => yes (fun hc => by omega), fun c => absurd n00 c⟩
                  refine jw_u rfl ⟨fun c => absurd c n10, fun _ => ?_⟩
                  iterate 5 refine jw_u rfl ?_
                  refine m_told2 (r := 0) (by decide) b3 s1 c5 w1 b5 hp hq (fun hw => ?_) (fun hw => ?_)
                  · refine jw_u rfl ⟨fun c => absurd c n10, fun _ => yes (fun _ => hw)⟩
                  · refine jw_u rfl ⟨fun _ => no (fun hc => ?_), fun c => absurd n00 c⟩
                    have := hc p q (by omega) hpq hq h1 h2
                    rw [hw] at this
                    cases this
            iterate 3 refine jw_u rfl ?_
            refine jw_u rfl ⟨fun (c' : x 121 5 ≤ nI p) => absurd c' (by rw [c3]; exact nI_ge hp (by omega)), fun _ => ?_⟩
            refine jw_u rfl ?_
            cases hbb : b with
            | false =>
              rw [hbb] at hb
              refine jw_u rfl ⟨fun _ => ?_, fun c => absurd n00 c⟩
              refine fin false _ g5 ⟨fun hc => (by cases hc), fun hc => hb.mpr (fun p' q' _ h1 h2 => atB_iff.mp hc.2 p' q' h1 h2)⟩
            | true =>
              rw [hbb] at hb
              refine jw_u rfl ⟨fun c => absurd c n10, fun _ => ?_⟩
              iterate 3 refine jw_u rfl ?_
              refine jtop (nI_add p 1) ?_
              refine jw_u rfl ?_
              refine lq (p + 1) hp (Nat.lt_succ_self _) true ⟨fun _ p' q' g1 g2 g3 => hb.mp rfl p' q' (by omega) g2 g3, fun _ => rfl⟩
        iterate 5 refine jw_u rfl ?_
        exact lp 0 (Nat.zero_le _) true g5 ⟨fun _ p' q' g1 => absurd g1 (by omega), fun _ => rfl⟩
  refine jo_i rfl rfl (Nat.le_of_ble_eq_true rfl) ?_
  iterate 4 refine jw_u rfl ?_
  exact loop 0 (Nat.zero_le _) none none none
end MH
