/-! THE STATE STAYS WITHIN ITS BOUNDS -/
theorem upN_lt {f : Nat → Nat} {n k v b : Nat} (h : ∀ j, j < n → f j < b) (hv : v < b) : ∀ j, j < n → upN f k v j < b := by
  intro j hj
  by_cases e : j = k
  · rw [e, upN_s]; exact hv
  · rw [upN_o e]; exact h j hj
theorem upN_lt1 {f : Nat → Nat} {n v b : Nat} (h : ∀ j, j < n → f j < b) (hv : v < b) : ∀ j, j < n + 1 → upN f n v j < b := by
  intro j hj
  by_cases e : j = n
  · rw [e, upN_s]; exact hv
  · rw [upN_o e]; exact h j (by omega)
section WX
variable {z : aX}
theorem wX_year {m : Int32} (hw : wX z) : wX (fYear z m).2 := by
  obtain ⟨w1, w2, -⟩ := id hw
  unfold fYear
  split
  · next hm =>
    have hm := yr_iff.mp hm
    have e : m.toNatClampNeg = m.toInt.toNat := rfl
    split
    · split
      · next hy =>
        refine wX_now (wX_push hw) ⟨fun k hk => ya_lt (w2.1 k hk) w1.2.1 _, w2.2.1, w2.2.2.1, w2.2.2.2.1, ?_⟩
        show sY (gS z) + m.toNatClampNeg ≤ 9060
        omega
      · exact hw
    · exact hw
  · exact hw
theorem wX_teach {p m : Int32} (hw : wX z) : wX (fTeach z p m).2 := by
  obtain ⟨w1, w2, -⟩ := id hw
  unfold fTeach
  split
  · split
    · next hm =>
      obtain ⟨j, hj, rfl⟩ := ilt (by decide) hm
      rw [nI_clamp (by omega)]
      exact wX_now (wX_push hw) ⟨upN_lt w2.1 hj, w2.2⟩
    · exact hw
  · exact hw
theorem wX_sign {p m : Int32} (hw : wX z) : wX (fSign z p m).2 := by
  obtain ⟨w1, w2, -⟩ := id hw
  have b3 := w1.2.2.1
  unfold fSign
  split
  · next hp =>
    split
    · next hm =>
      split
      · next h8 =>
        obtain ⟨j, hj, rfl⟩ := ilt (by decide) hm
        obtain ⟨q, hq, rfl⟩ := ilt (by omega) hp
        rw [nI_clamp (by omega), nI_clamp (by omega)]
        exact wX_now (wX_push hw) ⟨w2.1, h8, upN_lt1 w2.2.2.1 hj, upN_lt1 w2.2.2.2.1 hq, w2.2.2.2.2⟩
      · exact hw
    · exact hw
  · exact hw
theorem wX_tearP (hw : wX z) : wX (fTearP z).2 := by
  obtain ⟨w1, w2, -⟩ := id hw
  unfold fTearP
  split
  · exact hw
  · refine wX_now (wX_push hw) ⟨w2.1, ?_, fun k hk => w2.2.2.1 k ?_, fun k hk => w2.2.2.2.1 k ?_, w2.2.2.2.2⟩
    · have := w2.2.1
      show sP (gS z) - 1 ≤ 8
      omega
    · have hk : k < sP (gS z) - 1 := hk
      omega
    · have hk : k < sP (gS z) - 1 := hk
      omega
theorem wX_undo (hw : wX z) : wX (fUndo z).2 := by
  obtain ⟨w1, w2, w3, w4, w5, w6, w7, w8⟩ := id hw
  unfold fUndo
  split
  · exact hw
  · next S hs e =>
    rw [e] at w3
    refine ⟨w1, w3.2 S List.mem_cons_self, ⟨?_, fun S' hS' => w3.2 S' (List.mem_cons_of_mem _ hS')⟩, w4, w5, w6, w7, w8⟩
    have := w3.1
    rw [List.length_cons] at this
    show hs.length ≤ 20
    omega
theorem wX_see {m : Int32} (hw : wX z) : wX (fSee z m).2 := by
  obtain ⟨w1, w2, w3, w4, w5, w6, w7, w8⟩ := id hw
  unfold fSee
  split
  · next hm =>
    split
    · next h8 =>
      obtain ⟨j, hj, rfl⟩ := ilt (by decide) hm
      rw [nI_clamp (by omega)]
      exact ⟨w1, w2, w3, w4, ⟨h8, upN_lt1 w5.2 hj⟩, w6, w7, w8⟩
    · exact hw
  · exact hw
theorem wX_write {p m : Int32} (hw : wX z) : wX (fWrite z p m).2 := by
  obtain ⟨w1, w2, w3, w4, w5, w6, w7, w8⟩ := id hw
  have b3 := w1.2.2.1
  unfold fWrite
  split
  · next hp =>
    split
    · next hm =>
      split
      · next h8 =>
        obtain ⟨j, hj, rfl⟩ := ilt (by decide) hm
        obtain ⟨q, hq, rfl⟩ := ilt (by omega) hp
        rw [nI_clamp (by omega), nI_clamp (by omega)]
        exact ⟨w1, w2, w3, w4, w5, ⟨h8, fun k hk => ⟨upN_lt1 (fun i hi => (w6.2 i hi).1) hq k hk, upN_lt1 (fun i hi => (w6.2 i hi).2) hj k hk⟩⟩, w7, w8⟩
      · exact hw
    · exact hw
  · exact hw
theorem wX_tear (hw : wX z) : wX (fTear z).2 := by
  obtain ⟨w1, w2, w3, w4, w5, w6, w7, w8⟩ := hw
  exact ⟨w1, w2, w3, w4, ⟨Nat.zero_le _, fun k hk => absurd hk (Nat.not_lt_zero _)⟩, ⟨Nat.zero_le _, fun k hk => absurd hk (Nat.not_lt_zero _)⟩, w7, w8⟩
theorem wX_seed {v : Int32} (hw : wX z) : wX (fSeed z v).2 := by
  obtain ⟨w1, w2, w3, w4, w5, w6, w7, w8⟩ := id hw
  unfold fSeed
  split
  · next hv =>
    obtain ⟨j, hj, rfl⟩ := ge0 hv
    rw [nI_clamp (by omega)]
    exact ⟨w1, w2, w3, w4, w5, w6, hj, w8⟩
  · exact hw
theorem wX_keep {i : Int32} (hw : wX z) : wX (fKeep z i).2 := by
  obtain ⟨w1, w2, w3, w4, w5, w6, w7, w8⟩ := id hw
  unfold fKeep
  split
  · refine ⟨w1, w2, ⟨Nat.zero_le _, fun S hS => by cases hS⟩, fun k S s h => ?_, w5, w6, w7, w8⟩
    have h : (if k = i.toNatClampNeg then some (gS z, gD z) else gI z k) = some (S, s) := h
    split at h
    · cases h
      exact ⟨w2, w7⟩
    · exact w4 k S s h
  · exact hw
theorem wX_back {i : Int32} (hw : wX z) : wX (fBack z i).2 := by
  obtain ⟨w1, w2, w3, w4, w5, w6, w7, w8⟩ := id hw
  unfold fBack
  split
  · split
    · exact hw
    · next S s e => exact ⟨w1, (w4 _ S s e).1, ⟨Nat.zero_le _, fun S hS => by cases hS⟩, w4, w5, w6, (w4 _ S s e).2, w8⟩
  · exact hw
theorem wX_feed {v : Int32} (hw : wX z) : wX (fFeed z v).2 := by
  obtain ⟨w1, w2, w3, w4, w5, w6, w7, w8⟩ := id hw
  unfold fFeed
  split
  · next hm =>
    split
    · next h8 =>
      obtain ⟨j, hj, rfl⟩ := ilt (by decide) hm
      rw [nI_clamp (by omega)]
      exact ⟨w1, w2, w3, w4, w5, w6, w7, ⟨h8, fun k hk => Nat.le_of_lt_succ (upN_lt1 (b := 256) (fun i hi => Nat.lt_succ_of_le (w8.2 i hi)) hj k hk)⟩⟩
    · exact hw
  · exact hw
theorem wX_drift {m : Int32} (hw : wX z) : wX (fDrift z m).2 := by
  obtain ⟨w1, w2, w3, w4, w5, w6, w7, w8⟩ := id hw
  unfold fDrift
  split
  · split
    · have hp := (wX_push hw).2.2.1
      have key : (drR z m.toNatClampNeg).1 < 2147483648 ∧ ∀ k, k < cN (gC z) → (drR z m.toNatClampNeg).2 k < 1000 := by
        unfold drR
        split
        · next h0 => exact skN_lt h0 _ _ w7 w2.1
        · exact ⟨w7, w2.1⟩
      exact ⟨w1, ⟨key.2, w2.2⟩, hp, w4, w5, w6, key.1, w8⟩
    · exact hw
  · exact hw
theorem wX_clan (hw : wX z) : wX (fClan z).2 := by
  obtain ⟨w1, w2, w3, w4, w5, w6, w7, w8⟩ := id hw
  have hD := pa_w 240 _ (wD_0 (gT z))
  have t0 : ∀ (f : Nat → Nat) (b : Nat), ∀ k, k < 0 → f k ≤ b := fun f b k hk => absurd hk (Nat.not_lt_zero _)
  cases hR : pa (gT z) 240 (.inr 0, C0, S0) with
  | mk s r =>
    obtain ⟨C, S⟩ := r
    cases s with
    | inl q =>
      rw [show fClan z = (jc (-10) - nI q.1, (gC z, gS z, gH z, gI z, gN z, gB z, gD z, nI q.2, (0, (gT z).2))) by unfold fClan; rw [hR]]
      exact ⟨w1, w2, w3, w4, w5, w6, w7, ⟨Nat.zero_le _, fun k hk => absurd hk (Nat.not_lt_zero _)⟩⟩
    | inr k =>
      rw [show fClan z = (nI (cN C), (C, S, [], fun _ => none, (0, (gN z).2), (0, (gB z).2), gD z, -1, (0, (gT z).2))) by unfold fClan; rw [hR]]
      rw [hR] at hD
      obtain ⟨wc, ws⟩ := hD.2 k rfl
      exact ⟨wc, ws, ⟨Nat.zero_le _, fun S hS => by cases hS⟩, fun i S s h => (by cases h), ⟨Nat.zero_le _, fun k hk => absurd hk (Nat.not_lt_zero _)⟩, ⟨Nat.zero_le _, fun k hk => absurd hk (Nat.not_lt_zero _)⟩, w7, ⟨Nat.zero_le _, fun k hk => absurd hk (Nat.not_lt_zero _)⟩⟩
theorem RX_g {x x' : jM} (h : ∀ i, i < 121 → x' i = x i) (hx : RX z x) : RX z x' := RX_f (fun i hi _ => h i hi) (by rw [h 1 (by decide)]) hx
theorem RM_g {x x' : jM} (hw : wX z) (h : ∀ i, 121 ≤ i → x' i = x i) (hx : RM z x) : RM z x' := RM_f hw (fun k _ => by rw [h 121 (by decide)]) (fun j _ => by rw [h 122 (by decide)]) (fun i h1 _ => h i (by omega)) hx
end WX
/-! A CALL OF BOTH -/
def jP (a b : Nat) (as : List Value) (z : aX) (v : Int32) (z' : aX) : Prop := wX z' ∧ (∀ (x : jM) (Q : Option Value → jM → Prop), RX z x → (∀ x1, RX z' x1 → (∀ i, 121 ≤ i → x1 i = x i) → Q (some (.int v)) x1) → jo 10 a (.ref 0 :: as) x Q) ∧ (∀ (x : jM) (Q : Option Value → jM → Prop), RM z x → (∀ x1, RM z' x1 → (∀ i, i < 121 → x1 i = x i) → Q (some (.int v)) x1) → jo 10 b (.ref 121 :: as) x Q)
