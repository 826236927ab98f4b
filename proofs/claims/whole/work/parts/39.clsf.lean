/-! THE CLASS: images, shakes -/
def wo (w : Nat) : Nat := if w = 0 then 100 else if w = 1 then 10 else 1
/-- a mark shaken in its part w, up if c = 1 -/
def sh (a w c : Nat) : Nat := if c = 1 then (if dg a w < 9 then a + wo w else a) else (if 0 < dg a w then a - wo w else a)
theorem sh_lt {a w c : Nat} (ha : a < 1000) (hw : w < 3) : sh a w c < 1000 := by
  unfold sh dg wo
  rcases (show w = 0 ∨ w = 1 ∨ w = 2 by omega) with rfl | rfl | rfl <;> simp <;> split <;> split <;> omega
theorem wo_le {a w : Nat} (ha : a < 1000) (hw : w < 3) (h : 0 < dg a w) : wo w ≤ a := by
  unfold dg at h
  unfold wo
  rcases (show w = 0 ∨ w = 1 ∨ w = 2 by omega) with rfl | rfl | rfl <;> simp at h ⊢ <;> omega
/-- seeds and hands after a shake -/
def s1k (s n : Nat) (f : Nat → Nat) : Nat × (Nat → Nat) :=
  (ns (ns (ns s)), upN f (ns s / 65536 % n) (sh (f (ns s / 65536 % n)) (ns (ns s) / 65536 % 3) (ns (ns (ns s)) / 65536 % 2)))
def itN (g : Nat × (Nat → Nat) → Nat × (Nat → Nat)) : Nat → Nat × (Nat → Nat) → Nat × (Nat → Nat)
  | 0, p => p
  | k + 1, p => itN g k (g p)
theorem itN_s (g : Nat × (Nat → Nat) → Nat × (Nat → Nat)) (k : Nat) (p : Nat × (Nat → Nat)) : itN g (k + 1) p = itN g k (g p) := rfl
theorem itN_0 (g : Nat × (Nat → Nat) → Nat × (Nat → Nat)) (p : Nat × (Nat → Nat)) : itN g 0 p = p := rfl
abbrev s1g (n : Nat) : Nat × (Nat → Nat) → Nat × (Nat → Nat) := fun p => s1k p.1 n p.2
def skN (n k : Nat) (p : Nat × (Nat → Nat)) : Nat × (Nat → Nat) := itN (s1g n) k p
theorem skN_s (n k : Nat) (p : Nat × (Nat → Nat)) : skN n (k + 1) p = skN n k (s1g n p) := itN_s _ _ _
theorem skN_0 (n : Nat) (p : Nat × (Nat → Nat)) : skN n 0 p = p := itN_0 _ _
theorem ju_id {x : jM} {o k : Nat} {v : Int32} (h : x o k = v) : ju x o k v = x := by
  funext i j
  by_cases e : i = o
  · subst e
    by_cases e2 : j = k
    · subst e2; rw [ju_s]; exact h.symm
    · rw [ju_k e2]
  · rw [ju_o e]
section CF
variable {d : Nat} {x : jM} {Q : Option Value → jM → Prop} {z : aX}
theorem c_shakeOnce {n s : Nat} {hd : Nat → Nat} (hn : x 11 2 = nI n) (h8 : n ≤ 8) (h0 : 0 < n) (hs : x 0 8 = nI s) (bs : s < 2147483648) (hh : ∀ k, k < n → x 16 k = nI (hd k)) (bh : ∀ k, k < n → hd k < 1000)
    (h : ∀ x', (∀ i, i ≠ 0 → i ≠ 16 → x' i = x i) → (∀ k, k ≠ 8 → x' 0 k = x 0 k) → x' 0 8 = nI (s1k s n hd).1 → (∀ k, k < n → x' 16 k = nI ((s1k s n hd).2 k)) → Q none x') : jo (d + 2) 82 [.ref 0] x Q := by
  have q1 := ns_lt s
  have q2 := ns_lt (ns s)
  have q3 := ns_lt (ns (ns s))
  generalize hp : ns s / 65536 % n = p at *
  generalize hw : ns (ns s) / 65536 % 3 = w at *
  generalize hc : ns (ns (ns s)) / 65536 % 2 = c at *
  have bp : p < n := by rw [← hp]; exact Nat.mod_lt _ h0
  have bw : w < 3 := by rw [← hw]; exact Nat.mod_lt _ (by decide)
  have bc : c < 2 := by rw [← hc]; exact Nat.mod_lt _ (by decide)
  have e1 : (s1k s n hd).1 = ns (ns (ns s)) := rfl
  have e2 : (s1k s n hd).2 = upN hd p (sh (hd p) w c) := by unfold s1k; rw [hp, hw, hc]
  rw [e1, e2] at h
  generalize hx1 : ju (ju (ju x 0 8 (nI (ns s))) 0 8 (nI (ns (ns s)))) 0 8 (nI (ns (ns (ns s)))) = x1
  have f1 : ∀ i, i ≠ 0 → x1 i = x i := fun i hi => by rw [← hx1, ju_oo hi, ju_oo hi, ju_oo hi]
  have f2 : ∀ k, k ≠ 8 → x1 0 k = x 0 k := fun k hk => by rw [← hx1, ju_k hk, ju_k hk, ju_k hk]
  have f3 : x1 0 8 = nI (ns (ns (ns s))) := by rw [← hx1, ju_s]
  have fin : ∀ v : Int32, v = nI (sh (hd p) w c) → Q none (ju x1 16 p v) := by
    intro v hv
    refine h _ (fun i g1 g2 => by rw [ju_oo g2]; exact f1 i g1) (fun k hk => by rw [ju_o (by decide)]; exact f2 k hk) (by rw [ju_o (by decide)]; exact f3) (fun k hk => ?_)
    by_cases e : k = p
    · subst e
      rw [ju_s, upN_s]
      exact hv
    · rw [ju_k e, upN_o e, f1 16 (by decide)]
      exact hh k hk
  have eh : x1 16 p = nI (hd p) := by rw [f1 16 (by decide)]; exact hh p bp
  have bd : dg (hd p) w < 10 := dg_lt (bh p bp)
  have bhp := bh p bp
  -- from the place 24 on, by the change
  have tail : ∀ ch : Int32, (ch = nI 1 ∧ c = 1) ∨ (ch = jc (-1) ∧ c = 0) → jw (d + 1) kX6_shakeOnce Q 18 [some (.ref 0), some (.int (nI p)), some (.int (nI w)), none, none, none, none] [.int ch] x1 := by
    intro ch hch
    iterate 4 refine jw_u rfl ?_
    refine c_isPerson (n := n) (by rw [f1 11 (by decide)]; exact hn) (fun _ => ?_) (fun hc2 => absurd (ilt2 (by omega) bp) hc2)
    refine jw_u rfl ⟨fun _ => ?_, fun c => absurd c n10⟩
    iterate 4 refine jw_u rfl ?_
    refine jw_u rfl (jaN (show p < 8 by omega) (by decide) eh ?_)
    iterate 2 refine jw_u rfl ?_
    refine c_part bhp bw ?_
    -- the new figure
    have key : ∃ sk : Nat, sk < 10 ∧ ((if nI 0 < (if nI (dg (hd p) w) + ch < nI 9 then nI (dg (hd p) w) + ch else nI 9) then (if nI (dg (hd p) w) + ch < nI 9 then nI (dg (hd p) w) + ch else nI 9) else nI 0) = nI sk) ∧ nI (hd p) + nI (wo w) * (nI sk - nI (dg (hd p) w)) = nI (sh (hd p) w c) := by
      rcases hch with ⟨rfl, rfl⟩ | ⟨rfl, rfl⟩
      · refine ⟨min (dg (hd p) w + 1) 9, by omega, ?_, ?_⟩
        · rw [nI_add, show (if nI (dg (hd p) w + 1) < nI 9 then nI (dg (hd p) w + 1) else nI 9) = nI (min (dg (hd p) w + 1) 9) from ?_, if_pos (nI_lt (by omega) (by omega))]
          have := mn_nI (a := 9) (b := dg (hd p) w + 1) (by decide) (by omega)
          rw [Nat.min_comm] at this
          exact this
        · rw [pk_sub (by omega), pk_mul, nI_add]
          refine congrArg nI ?_
          unfold sh
          rw [if_pos rfl]
          split
          · rw [show min (dg (hd p) w + 1) 9 - dg (hd p) w = 1 by omega, Nat.mul_one]
          · rw [show min (dg (hd p) w + 1) 9 - dg (hd p) w = 0 by omega, Nat.mul_zero, Nat.add_zero]
      · refine ⟨dg (hd p) w - 1, by omega, ?_, ?_⟩
        · rw [show nI (dg (hd p) w) + jc (-1) = nI (dg (hd p) w) - nI 1 from (Int32.sub_eq_add_neg _ _).symm]
          have h9 : nI (dg (hd p) w) - nI 1 < nI 9 := by
            rw [Int32.lt_iff_toInt_lt, pk_sub_toInt (by omega) (by decide), nI_toInt (by decide)]
            omega
          rw [if_pos h9]
          by_cases hz : dg (hd p) w = 0
          · rw [hz]
            decide
          · rw [pk_sub (by omega)]
            by_cases h1 : dg (hd p) w = 1
            · rw [h1]
              decide
            · rw [if_pos (nI_lt (by omega) (by omega))]
        · unfold sh
          rw [if_neg (by decide)]
          split
          · next hpos =>
            have hwo := wo_le bhp bw hpos
            have : nI (dg (hd p) w - 1) - nI (dg (hd p) w) = - nI 1 := by
              rw [← pk_sub (a := dg (hd p) w) (b := 1) (by omega)]
              rw [Int32.sub_eq_add_neg, Int32.sub_eq_add_neg, Int32.add_comm (nI (dg (hd p) w)) (-nI 1), Int32.add_assoc, Int32.add_right_neg, Int32.add_zero]
            rw [this, Int32.mul_neg, show nI 1 = (1 : Int32) from rfl, Int32.mul_one, ← Int32.sub_eq_add_neg, pk_sub hwo]
          · next hpos =>
            rw [show dg (hd p) w = 0 by omega]
            show nI (hd p) + nI (wo w) * (nI 0 - nI 0) = _
            rw [Int32.sub_self, Int32.mul_zero, Int32.add_zero]
    obtain ⟨sk, bsk, k1, k2⟩ := key
    iterate 6 refine jw_u rfl ?_
    iterate 2 refine jw_u rfl ?_
    refine jtop k1 ?_
    have last : jw (d + 1) kX6_shakeOnce Q 50 [some (.ref 0), some (.int (nI p)), some (.int (nI w)), some (.int ch), some (.int (nI (dg (hd p) w))), some (.int (nI sk)), none] [.int (nI (wo w))] x1 := by
      iterate 6 refine jw_u rfl ?_
      refine jw_u rfl (jaN (show p < 8 by omega) (by decide) eh ?_)
      iterate 6 refine jw_u rfl ?_
      refine jw_u rfl (jsN (show p < 8 by omega) (by decide) ?_)
      refine jw_u rfl ?_
      exact fin _ k2
    iterate 2 refine jw_u rfl ?_
    refine jw_u rfl ⟨fun (c1 : ¬ nI w = 0) => ?_, fun (c1 : nI w = 0) => ?_⟩
    · have w0 : ¬ w = 0 := fun e => c1 (by rw [e]; decide)
      iterate 2 refine jw_u rfl ?_
      refine jw_u rfl ⟨fun (c2 : ¬ nI w = nI 1) => ?_, fun (c2 : nI w = nI 1) => ?_⟩
      · have w1 : ¬ w = 1 := fun e => c2 (by rw [e])
        refine jw_u rfl ?_
        rw [show wo w = 1 by unfold wo; rw [if_neg w0, if_neg w1]] at last
        exact last
      · rw [nI_eq (by omega) (by decide)] at c2
        iterate 2 refine jw_u rfl ?_
        rw [show wo w = 10 by unfold wo; rw [if_neg w0, if_pos c2]] at last
        exact last
    · have w0 : w = 0 := (nI_eq (by omega) (by decide)).mp (c1.trans n00.symm)
      iterate 2 refine jw_u rfl ?_
      rw [show wo w = 100 by unfold wo; rw [if_pos w0]] at last
      exact last
  refine jo_i rfl rfl (Nat.le_of_ble_eq_true rfl) ?_
  iterate 4 refine jw_u rfl ?_
  refine jtop hn ?_
  refine jw_u rfl ?_
  refine c_draw hs bs h0 (by omega) ?_
  rw [hp]
  iterate 4 refine jw_u rfl ?_
  refine c_draw (n := 3) (ju_s x 0 8 _) q1 (by decide) (by decide) ?_
  rw [hw]
  iterate 4 refine jw_u rfl ?_
  refine c_draw (n := 2) (ju_s _ 0 8 _) q2 (by decide) (by decide) ?_
  rw [hc, hx1]
  refine jw_u rfl ?_
  refine jw_u rfl ⟨fun (c1 : ¬ nI c = nI 1) => ?_, fun (c1 : nI c = nI 1) => ?_⟩
  · rw [nI_eq (by omega) (by decide)] at c1
    refine jw_u rfl ?_
    exact tail _ (Or.inr ⟨rfl, by omega⟩)
  · rw [nI_eq (by omega) (by decide)] at c1
    iterate 2 refine jw_u rfl ?_
    exact tail _ (Or.inl ⟨rfl, c1⟩)
end CF
