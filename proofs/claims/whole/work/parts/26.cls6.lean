/-! THE CLASS: sets, alike, trees, shakes -/
def bt (s p : Nat) : Nat := s / 2 ^ p % 2
theorem bit1 : ∀ s, s < 256 → ∀ p, p < 8 → nI s >>> (nI p &&& 31) &&& nI 1 = nI (bt s p) := by decide +kernel
theorem bit2 : ∀ s, s < 256 → ∀ p, p < 8 → ∀ q, q < 8 → (nI s >>> (nI p &&& 31)) &&& (nI s >>> (nI q &&& 31)) &&& nI 1 = nI (bt s p * bt s q) := by decide +kernel
theorem bt_le (s p : Nat) : bt s p ≤ 1 := by unfold bt; omega
/-- how many of the first i -/
def cA (P : Nat → Bool) : Nat → Nat
  | 0 => 0
  | i + 1 => if P i = true then cA P i + 1 else cA P i
theorem cA_le (P : Nat → Bool) : ∀ i, cA P i ≤ i
  | 0 => Nat.le_refl _
  | i + 1 => by
    have := cA_le P i
    rw [cA]
    split <;> omega
/-- the greatest of the first i -/
def mA (F : Nat → Nat) : Nat → Nat
  | 0 => 0
  | i + 1 => max (mA F i) (F i)
theorem mA_le {F : Nat → Nat} {z : Nat} (h : ∀ k, F k ≤ z) : ∀ i, mA F i ≤ z
  | 0 => Nat.zero_le _
  | i + 1 => Nat.max_le.mpr ⟨mA_le h i, h i⟩
section CQ6
variable {d n : Nat} {x : jM} {Q : Option Value → jM → Prop} {hd sl dr : Nat → Nat}
theorem c_allTold {s : Nat} (hn : x 11 2 = nI n) (h8 : n ≤ 8) (hh : ∀ k, k < n → x 16 k = nI (hd k)) (hs : ∀ k, k < n → x 12 k = nI (sl k)) (bh : ∀ k, k < n → hd k < 1000) (bs : ∀ k, k < n → sl k ≤ 3) (hs2 : s < 256)
    (h1 : (∀ p q, p < q → q < n → bt s p = 1 → bt s q = 1 → nr (hd p) (hd q) (sl p + sl q) = false) → Q (some (.int (nI 1))) x) (h2 : ¬ (∀ p q, p < q → q < n → bt s p = 1 → bt s q = 1 → nr (hd p) (hd q) (sl p + sl q) = false) → Q (some (.int (nI 0))) x) : jo (d + 3) 74 [.ref 0, .int (nI s)] x Q := by
  have loop : ∀ p, p ≤ n → ∀ g3 g4, (∀ p' q', p' < p → p' < q' → q' < n → bt s p' = 1 → bt s q' = 1 → nr (hd p') (hd q') (sl p' + sl q') = false) → jw (d + 2) kX6_allToldApart Q 2 [some (.ref 0), some (.int (nI s)), some (.int (nI p)), g3, g4] [] x := by
    refine dn _ n (fun g3 g4 ha => ?_) (fun p hp ih g3 g4 ha => ?_)
    · iterate 4 refine jw_u rfl ?_
      refine jw_u rfl ⟨fun _ => ?_, fun (c' : ¬ x 11 2 ≤ nI n) => absurd (by rw [hn]; exact Int32.le_refl _) c'⟩
      iterate 2 refine jw_u rfl ?_
      exact ⟨fun _ => Or.inr rfl, h1 (fun p q hpq hq => ha p q (by omega) hpq hq)⟩
    · have inner : ∀ q, q ≤ n → ∀ g4, (∀ p' q', (p' < p ∨ (p' = p ∧ q' < q)) → p' < q' → q' < n → bt s p' = 1 → bt s q' = 1 → nr (hd p') (hd q') (sl p' + sl q') = false) → p < q → jw (d + 2) kX6_allToldApart Q 11 [some (.ref 0), some (.int (nI s)), some (.int (nI p)), some (.int (nI q)), g4] [] x := by
        refine dn _ n (fun g4 hb _ => ?_) (fun q hq ihq g4 hb hpq => ?_)
        · iterate 4 refine jw_u rfl ?_
          refine jw_u rfl ⟨fun _ => ?_, fun (c' : ¬ x 11 2 ≤ nI n) => absurd (by rw [hn]; exact Int32.le_refl _) c'⟩
          iterate 2 refine jw_u rfl ?_
          have := ih (some (.int (nI n))) g4 (fun p' q' h1 h2 h3 => hb p' q' (by omega) h2 h3)
          rw [nI_s p] at this
          exact this
        · iterate 4 refine jw_u rfl ?_
          refine jw_u rfl ⟨fun (c' : x 11 2 ≤ nI q) => absurd c' (by rw [hn]; exact nI_ge hq (by omega)), fun _ => ?_⟩
          iterate 9 refine jw_u rfl ?_
          refine jtop (bit2 s hs2 p (by omega) q (by omega)) ?_
          refine jw_u rfl ?_
          have b1 := bt_le s p
          have b2 := bt_le s q
          have e12 : bt s p * bt s q ≤ 1 := Nat.le_trans (Nat.mul_le_mul b1 b2) (by decide)
          refine jw_u rfl ⟨fun (c' : ¬ nI (bt s p * bt s q) = nI 1) => ?_, fun (c' : nI (bt s p * bt s q) = nI 1) => ?_⟩
          · rw [nI_eq (by omega) (by decide)] at c'
            iterate 3 refine jw_u rfl ?_
            refine jw_u rfl ⟨fun _ => ?_, fun c => absurd n00 c⟩
            iterate 2 refine jw_u rfl ?_
            have := ihq (some (.int (nI 0))) (fun p' q' h3 h4 h5 h6 h7 => by
              by_cases e : p' = p ∧ q' = q
              · obtain ⟨rfl, rfl⟩ := e
                exact absurd (by rw [h6, h7]) c'
              · exact hb p' q' (by omega) h4 h5 h6 h7) (by omega)
            rw [nI_s q] at this
            exact this
          · rw [nI_eq (by omega) (by decide)] at c'
            have f1 : bt s p = 1 := by
              rcases (show bt s p = 0 ∨ bt s p = 1 by omega) with e | e
              · rw [e, Nat.zero_mul] at c'
                omega
              · exact e
            have f2 : bt s q = 1 := by
              rw [f1, Nat.one_mul] at c'
              exact c'
            iterate 4 refine jw_u rfl ?_
            refine jw_u rfl ⟨fun c => absurd c n10, fun _ => ?_⟩
            iterate 6 refine jw_u rfl ?_
            refine c_toldApart (Or.inl rfl) h8 hh hs bh bs (by omega) hq (fun hw => ?_) (fun hw => ?_)
            · refine jw_u rfl ⟨fun _ => ?_, fun c => absurd c n10⟩
              iterate 2 refine jw_u rfl ?_
              have := ihq (some (.int (nI 1))) (fun p' q' h3 h4 h5 h6 h7 => by
                by_cases e : p' = p ∧ q' = q
                · obtain ⟨rfl, rfl⟩ := e
                  exact hw
                · exact hb p' q' (by omega) h4 h5 h6 h7) (by omega)
              rw [nI_s q] at this
              exact this
            · refine jw_u rfl ⟨fun c => absurd n00 c, fun _ => ?_⟩
              iterate 2 refine jw_u rfl ?_
              exact ⟨fun _ => Or.inl rfl, h2 (fun hc => absurd (hc p q hpq hq f1 f2) (by rw [hw]; decide))⟩
      iterate 4 refine jw_u rfl ?_
      refine jw_u rfl ⟨fun (c' : x 11 2 ≤ nI p) => absurd c' (by rw [hn]; exact nI_ge hp (by omega)), fun _ => ?_⟩
      iterate 3 refine jw_u rfl ?_
      refine jtop (nI_add _ _) ?_
      refine jw_u rfl ?_
      exact inner (p + 1) hp g4 (fun p' q' h3 h4 h5 h6 h7 => ha p' q' (by omega) h4 h5 h6 h7) (Nat.lt_succ_self _)
  refine jo_i rfl rfl (Nat.le_of_ble_eq_true rfl) ?_
  iterate 2 refine jw_u rfl ?_
  exact loop 0 (Nat.zero_le _) none none (fun p' q' h3 => absurd h3 (Nat.not_lt_zero _))
theorem c_alike {s w : Nat} (hn : x 11 2 = nI n) (h8 : n ≤ 8) (hh : ∀ k, k < n → x 16 k = nI (hd k)) (bh : ∀ k, k < n → hd k < 1000) (hs2 : s < 256) (hw : w < 3)
    (h : Q (some (.int (nI (mA (fun f => cA (fun p => bt s p == 1 && dg (hd p) w == f) n) 10)))) x) : jo (d + 2) 79 [.ref 0, .int (nI s), .int (nI w)] x Q := by
  have bm : ∀ i, mA (fun f => cA (fun p => bt s p == 1 && dg (hd p) w == f) n) i ≤ 8 := mA_le (fun k => Nat.le_trans (cA_le _ n) h8)
  have loop : ∀ f, f ≤ 10 → ∀ g5 g6, jw (d + 1) kX6_greatestAlike Q 4 [some (.ref 0), some (.int (nI s)), some (.int (nI w)), some (.int (nI (mA (fun f => cA (fun p => bt s p == 1 && dg (hd p) w == f) n) f))), some (.int (nI f)), g5, g6] [] x := by
    refine dn _ 10 (fun g5 g6 => ?_) (fun f hf ih g5 g6 => ?_)
    · iterate 2 refine jw_u rfl ?_
      refine jw_u rfl ⟨fun _ => ?_, fun (c' : ¬ nI 10 ≤ nI 10) => absurd (Int32.le_refl _) c'⟩
      iterate 2 refine jw_u rfl ?_
      exact ⟨fun h => (by cases h), h⟩
    · have b1 := bm f
      have inner : ∀ p, p ≤ n → jw (d + 1) kX6_greatestAlike Q 11 [some (.ref 0), some (.int (nI s)), some (.int (nI w)), some (.int (nI (mA (fun f => cA (fun p => bt s p == 1 && dg (hd p) w == f) n) f))), some (.int (nI f)), some (.int (nI (cA (fun p => bt s p == 1 && dg (hd p) w == f) p))), some (.int (nI p))] [] x := by
        refine dn _ n ?_ (fun p hp ihp => ?_)
        · have b2 := cA_le (fun p => bt s p == 1 && dg (hd p) w == f) n
          iterate 4 refine jw_u rfl ?_
          refine jw_u rfl ⟨fun _ => ?_, fun (c' : ¬ x 11 2 ≤ nI n) => absurd (by rw [hn]; exact Int32.le_refl _) c'⟩
          iterate 3 refine jw_u rfl ?_
          refine jtop (mx_nI (by omega) (by omega)) ?_
          iterate 3 refine jw_u rfl ?_
          have := ih (some (.int (nI (cA (fun p => bt s p == 1 && dg (hd p) w == f) n)))) (some (.int (nI n)))
          rw [nI_s f, mA] at this
          exact this
        · have b3 : dg (hd p) w < 10 := dg_lt (bh p hp)
          iterate 4 refine jw_u rfl ?_
          refine jw_u rfl ⟨fun (c' : x 11 2 ≤ nI p) => absurd c' (by rw [hn]; exact nI_ge hp (by omega)), fun _ => ?_⟩
          iterate 5 refine jw_u rfl ?_
          refine jtop (bit1 s hs2 p (by omega)) ?_
          refine jw_u rfl ?_
          have b2 := bt_le s p
          refine jw_u rfl ⟨fun (c' : ¬ nI (bt s p) = nI 1) => ?_, fun (c' : nI (bt s p) = nI 1) => ?_⟩
          · rw [nI_eq (by omega) (by decide)] at c'
            iterate 2 refine jw_u rfl ?_
            rw [nI_s p, cA, if_neg (by simp [c'])] at ihp
            exact ihp
          · rw [nI_eq (by omega) (by decide)] at c'
            iterate 4 refine jw_u rfl ?_
            refine jw_u rfl (jaN (show p < 8 by omega) (by decide) (hh p hp) ?_)
            iterate 2 refine jw_u rfl ?_
            refine c_part (bh p hp) hw ?_
            refine jw_u rfl ?_
            refine jw_u rfl ⟨fun (c2 : ¬ nI (dg (hd p) w) = nI f) => ?_, fun (c2 : nI (dg (hd p) w) = nI f) => ?_⟩
            · rw [nI_eq (by omega) (by omega)] at c2
              iterate 2 refine jw_u rfl ?_
              rw [nI_s p, cA, if_neg (by simp [c2])] at ihp
              exact ihp
            · rw [nI_eq (by omega) (by omega)] at c2
              iterate 3 refine jw_u rfl ?_
              rw [nI_s p, cA, if_pos (by simp [c', c2]), nI_s (cA _ p)] at ihp
              exact ihp
      iterate 2 refine jw_u rfl ?_
      refine jw_u rfl ⟨fun (c' : nI 10 ≤ nI f) => absurd c' (nI_ge hf (by omega)), fun _ => ?_⟩
      iterate 4 refine jw_u rfl ?_
      exact inner 0 (Nat.zero_le _)
  refine jo_i rfl rfl (Nat.le_of_ble_eq_true rfl) ?_
  iterate 4 refine jw_u rfl ?_
  exact loop 0 (Nat.zero_le _) none none
end CQ6
