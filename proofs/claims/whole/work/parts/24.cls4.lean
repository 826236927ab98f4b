/-! THE CLASS: years that pass, draws, states copied -/
/-- the mark after i years from the year y -/
def ya (r g y a : Nat) : Nat → Nat
  | 0 => a
  | i + 1 => ag (ya r g y a i) r g ((y + i) % 2)
theorem ya_lt {r g y a : Nat} (ha : a < 1000) (hg : g < 1000) : ∀ i, ya r g y a i < 1000
  | 0 => ha
  | i + 1 => ag_lt (ya_lt ha hg i) hg
def yP (x0 x : jM) (o n : Nat) (f f' : Nat → Nat) (p y : Nat) : Prop := (∀ i, i ≠ o → i ≠ o + 1 → x i = x0 i) ∧ (∀ k, k ≠ 4 → x o k = x0 o k) ∧ x o 4 = nI y ∧ (∀ k, k < n → x (o + 1) k = nI (if k < p then f' k else f k))
section CQ4
variable {d n : Nat} {x : jM} {Q : Option Value → jM → Prop} {hd sl dr : Nat → Nat}
set_option maxHeartbeats 1000000 in
theorem c_passYears {o m y g : Nat} (ho : o = 15 ∨ o = 19) (hm : m ≤ 100) (hy : y ≤ 100000) (hn : x 11 2 = nI n) (h8 : n ≤ 8) (hg : x 11 1 = nI g) (bg : g < 1000) (hr : ∀ k, k < n → x 13 k = nI (dr k)) (br : ∀ k, k < n → dr k ≤ 2) (hh : ∀ k, k < n → x (o + 1) k = nI (hd k)) (bh : ∀ k, k < n → hd k < 1000) (hyr : x o 4 = nI y)
    (h : ∀ x', (∀ i, i ≠ o → i ≠ o + 1 → x' i = x i) → (∀ k, k ≠ 4 → x' o k = x o k) → x' o 4 = nI (y + m) → (∀ k, k < n → x' (o + 1) k = nI (ya (dr k) g y (hd k) m)) → Q none x') : jo (d + 3) 80 [.ref 0, .ref o, .int (nI m)] x Q := by
  have o1 : o ≠ 11 ∧ o ≠ 13 ∧ o + 1 ≠ 11 ∧ o + 1 ≠ 13 := by omega
  have loop : ∀ i, i ≤ m → ∀ x1 g4 g5, yP x x1 o n (fun k => ya (dr k) g y (hd k) i) (fun k => ya (dr k) g y (hd k) i) 0 (y + i) → jw (d + 2) kX6_passYears Q 2 [some (.ref 0), some (.ref o), some (.int (nI m)), some (.int (nI i)), g4, g5] [] x1 := by
    refine dn _ m (fun x1 g4 g5 hx => ?_) (fun i hi ih x1 g4 g5 hx => ?_)
    · iterate 2 refine jw_u rfl ?_
      refine jw_u rfl ⟨fun _ => ?_, fun (c' : ¬ nI m ≤ nI m) => absurd (Int32.le_refl _) c'⟩
      refine jw_u rfl ?_
      exact h x1 hx.1 hx.2.1 hx.2.2.1 (fun k hk => by have := hx.2.2.2 k hk; simpa using this)
    · have inner : ∀ p, p ≤ n → ∀ x2, yP x x2 o n (fun k => ya (dr k) g y (hd k) i) (fun k => ya (dr k) g y (hd k) (i + 1)) p (y + i) → jw (d + 2) kX6_passYears Q 17 [some (.ref 0), some (.ref o), some (.int (nI m)), some (.int (nI i)), some (.int (nI ((y + i) % 2))), some (.int (nI p))] [] x2 := by
        refine dn _ n (fun x2 h2 => ?_) (fun p hp ihp x2 h2 => ?_)
        · have e11 : x2 11 2 = nI n := by rw [h2.1 11 (by omega) (by omega)]; exact hn
          iterate 4 refine jw_u rfl ?_
          refine jw_u rfl ⟨fun _ => ?_, fun (c' : ¬ x2 11 2 ≤ nI n) => absurd (by rw [e11]; exact Int32.le_refl _) c'⟩
          have fin : jw (d + 2) kX6_passYears Q 2 [some (.ref 0), some (.ref o), some (.int (nI m)), some (.int (nI i + nI 1)), some (.int (nI ((y + i) % 2))), some (.int (nI n))] [] (ju x2 o 4 (nI (y + i) + nI 1)) := by
            rw [← nI_s i]
            refine ih _ _ _ ⟨fun k h1 h3 => ?_, fun k hk => ?_, ?_, fun k hk => ?_⟩
            · rw [← h2.1 k h1 h3]
              funext z
              exact ju_o h1
            · rw [ju_k hk]
              exact h2.2.1 k hk
            · rw [ju_s, ← nI_s]
              rfl
            · rw [ju_o (by omega), h2.2.2.2 k hk, if_pos hk, if_neg (Nat.not_lt_zero _)]
          have ey := h2.2.2.1
          rcases ho with rfl | rfl <;>
          · iterate 3 refine jw_u rfl ?_
            refine jtop ey ?_
            iterate 3 refine jw_u rfl ?_
            refine ⟨fun h => (by cases h), ?_⟩
            iterate 2 refine jw_u rfl ?_
            exact fin
        · have e11 : x2 11 2 = nI n := by rw [h2.1 11 (by omega) (by omega)]; exact hn
          have eg : x2 11 1 = nI g := by rw [h2.1 11 (by omega) (by omega)]; exact hg
          have er : x2 13 p = nI (dr p) := by rw [h2.1 13 (by omega) (by omega)]; exact hr p hp
          have eh : x2 (o + 1) p = nI (ya (dr p) g y (hd p) i) := by rw [h2.2.2.2 p hp, if_neg (Nat.lt_irrefl _)]
          iterate 4 refine jw_u rfl ?_
          refine jw_u rfl ⟨fun (c' : x2 11 2 ≤ nI p) => absurd c' (by rw [e11]; exact nI_ge hp (by omega)), fun _ => ?_⟩
          have fin : jw (d + 2) kX6_passYears Q 17 [some (.ref 0), some (.ref o), some (.int (nI m)), some (.int (nI i)), some (.int (nI ((y + i) % 2))), some (.int (nI p + nI 1))] [] (ju x2 (o + 1) p (nI (ya (dr p) g y (hd p) (i + 1)))) := by
            rw [← nI_s p]
            refine ihp _ ⟨fun k h1 h3 => ?_, fun k hk => ?_, ?_, fun k hk => ?_⟩
            · rw [← h2.1 k h1 h3]
              funext z
              exact ju_o h3
            · rw [ju_o (by omega)]
              exact h2.2.1 k hk
            · rw [ju_o (by omega)]
              exact h2.2.2.1
            · by_cases e : k = p
              · subst e
                rw [ju_s, if_pos (Nat.lt_succ_self _)]
              · rw [ju_k e, h2.2.2.2 k hk]
                by_cases h9 : k < p
                · rw [if_pos h9, if_pos (by omega)]
                · rw [if_neg h9, if_neg (by omega)]
          have b1 := ya_lt (r := dr p) (y := y) (bh p hp) bg i
          rcases ho with rfl | rfl <;>
          · iterate 7 refine jw_u rfl ?_
            refine jw_u rfl (jaN (show p < 8 by omega) (by decide) eh ?_)
            iterate 4 refine jw_u rfl ?_
            refine jw_u rfl (jaN (show p < 8 by omega) (by decide) er ?_)
            iterate 2 refine jw_u rfl ?_
            refine c_aged eg bg b1 (br p hp) (by omega) ?_
            refine jw_u rfl (jsN (show p < 8 by omega) (by decide) ?_)
            iterate 2 refine jw_u rfl ?_
            exact fin
      have hx0 : yP x x1 o n (fun k => ya (dr k) g y (hd k) i) (fun k => ya (dr k) g y (hd k) (i + 1)) 0 (y + i) := ⟨hx.1, hx.2.1, hx.2.2.1, fun k hk => by rw [hx.2.2.2 k hk]; simp⟩
      have ey := hx.2.2.1
      iterate 2 refine jw_u rfl ?_
      refine jw_u rfl ⟨fun (c' : nI m ≤ nI i) => absurd c' (nI_ge hi (by omega)), fun _ => ?_⟩
      have go : jw (d + 2) kX6_passYears Q 14 [some (.ref 0), some (.ref o), some (.int (nI m)), some (.int (nI i)), g4, g5] [.int (nI ((y + i) % 2))] x1 := by
        iterate 3 refine jw_u rfl ?_
        exact inner 0 (Nat.zero_le _) x1 hx0
      rcases ho with rfl | rfl <;>
      · iterate 2 refine jw_u rfl ?_
        refine jtop ey ?_
        refine jw_u rfl ?_
        refine jw_u rfl ⟨by decide, ?_⟩
        refine jtop (pk_rem (a := y + i) (d := 2) (by omega) (by decide) (by decide)) ?_
        refine jw_u rfl ?_
        refine jw_u rfl ⟨fun (c' : ¬ nI ((y + i) % 2) = nI 1) => ?_, fun (c' : nI ((y + i) % 2) = nI 1) => ?_⟩
        · rw [nI_eq (by omega) (by decide)] at c'
          refine jw_u rfl ?_
          rw [show (y + i) % 2 = 0 by omega] at go
          exact go
        · rw [nI_eq (by omega) (by decide)] at c'
          iterate 2 refine jw_u rfl ?_
          rw [c'] at go
          exact go
  refine jo_i rfl rfl (Nat.le_of_ble_eq_true rfl) ?_
  iterate 2 refine jw_u rfl ?_
  exact loop 0 (Nat.zero_le _) x none none ⟨fun _ _ _ => rfl, fun _ _ => rfl, hyr, fun k hk => by rw [if_neg (Nat.not_lt_zero _)]; exact hh k hk⟩
/-- the next seed -/
def ns (s : Nat) : Nat := (s * 1103515245 + 12345) % 2147483648
theorem ns_lt (s : Nat) : ns s < 2147483648 := Nat.mod_lt _ (by decide)
theorem ns_e {s : Nat} (hs : s < 2147483648) : (((nI s).toInt64 * lN 1103515245 + lN 12345) - ((nI s).toInt64 * lN 1103515245 + lN 12345) / lN 2147483648 * lN 2147483648).toInt32 = nI (ns s) := by
  rw [nI_l hs, lN_mul, lN_add, pk_lRem (by omega) (by decide) (by decide), lN_i]
  rfl
theorem c_draw {s n : Nat} (hs : x 0 8 = nI s) (bs : s < 2147483648) (hn : 0 < n) (hn2 : n < 1000) (h : Q (some (.int (nI (ns s / 65536 % n)))) (ju x 0 8 (nI (ns s)))) : jo (d + 1) 83 [.ref 0, .int (nI n)] x Q := by
  have b := ns_lt s
  refine jo_i rfl rfl (Nat.le_of_ble_eq_true rfl) ?_
  iterate 3 refine jw_u rfl ?_
  refine jtop hs ?_
  iterate 6 refine jw_u rfl ?_
  refine jw_u rfl ⟨by decide, ?_⟩
  refine jw_u rfl ?_
  refine jtop (ns_e bs) ?_
  refine jw_u rfl ⟨fun h => (by cases h), ?_⟩
  refine jw_u rfl ?_
  refine jw_u rfl ⟨fun _ => ?_, fun (c' : ¬ (0 : Int32) < nI n) => absurd (nI_lt (a := 0) hn (by omega)) c'⟩
  iterate 2 refine jw_u rfl ?_
  refine jtop (ju_s x 0 8 _) ?_
  refine jw_u rfl ?_
  refine jw_u rfl ⟨by decide, ?_⟩
  refine jtop (pk_div (a := ns s) (d := 65536) (by omega) (by decide) (by decide)) ?_
  refine jw_u rfl ?_
  refine jw_u rfl ⟨nI_ne0 hn (by omega), ?_⟩
  refine jtop (pk_rem (by omega) hn (by omega)) ?_
  refine jw_u rfl ?_
  exact ⟨fun h => (by cases h), h⟩
end CQ4
