/-! THE REFERENCE: who is nearest, told apart, votes -/
section MD
variable {d n : Nat} {x : jM} {Q : Option Value → jM → Prop} {hd sl sq : Nat → Nat}
theorem m_between {p q : Nat} (h8 : n ≤ 8) (hh : ∀ k, k < n → x 122 (2 + k) = nI (hd k)) (bh : ∀ k, k < n → hd k < 1000) (hp : p < n) (hq : q < n) (h : Q (some (.int (nI (ap (hd p) (hd q))))) x) : jo (d + 3) 129 [.ref 121, .int (nI p), .int (nI q)] x Q := by
  refine jo_i rfl rfl (Nat.le_of_ble_eq_true rfl) ?_
  iterate 5 refine jw_u rfl ?_
  refine jtop (nI_add 2 p) ?_
  refine jw_u rfl (jaN (o := 122) (show 2 + p < 648 by omega) (by decide) (hh p hp) ?_)
  iterate 5 refine jw_u rfl ?_
  refine jtop (nI_add 2 q) ?_
  refine jw_u rfl (jaN (o := 122) (show 2 + q < 648 by omega) (by decide) (hh q hq) ?_)
  refine jw_u rfl ?_
  refine m_apart (bh p hp) (bh q hq) ?_
  refine jw_u rfl ?_
  exact ⟨fun h => (by cases h), h⟩
theorem m_kinOf {p : Nat} (hn : x 121 5 = nI n) (h8 : n ≤ 8) (hh : ∀ k, k < n → x 122 (2 + k) = nI (hd k)) (bh : ∀ k, k < n → hd k < 1000) (hp : p < n) (h : Q (some (.int (oI (am (fun k => ap (hd p) (hd k)) (fun k => k != p) n)))) x) : jo (d + 4) 131 [.ref 121, .int (nI p)] x Q := by
  have bf : ∀ k, k < n → ap (hd p) (hd k) ≤ 27 := fun k hk => ap_lt (bh p hp) (bh k hk)
  have loop : ∀ i, i ≤ n → jw (d + 3) kX7_kinOf Q 4 [some (.ref 121), some (.int (nI p)), some (.int (oI (am (fun k => ap (hd p) (hd k)) (fun k => k != p) i))), some (.int (nI i))] [] x := by
    refine dn _ n ?_ (fun i hi ih => ?_)
    · iterate 3 refine jw_u rfl ?_
      refine jw_u rfl ⟨fun _ => ?_, fun (c : ¬ x 121 5 ≤ nI n) => absurd (by rw [hn]; exact Int32.le_refl _) c⟩
      iterate 2 refine jw_u rfl ?_
      exact ⟨fun h => (by cases h), h⟩
    · have q2 := bf i hi
      rw [nI_s i] at ih
      iterate 3 refine jw_u rfl ?_
      refine jw_u rfl ⟨fun (c : x 121 5 ≤ nI i) => absurd c (by rw [hn]; exact nI_ge hi (by omega)), fun _ => ?_⟩
      iterate 2 refine jw_u rfl ?_
      refine jw_u rfl ⟨fun (c : nI i = nI p) => ?_, fun (c : ¬ nI i = nI p) => ?_⟩
      · rw [nI_eq (by omega) (by omega)] at c
        rw [am_no (f := fun k => ap (hd p) (hd k)) (ok := fun k => k != p) (Or.inl (by simp [c]))] at ih
        iterate 4 refine jw_u rfl ?_
        exact ih
      · rw [nI_eq (by omega) (by omega)] at c
        have ok : (fun k => k != p) i = true := by simp [c]
        cases hb : am (fun k => ap (hd p) (hd k)) (fun k => k != p) i with
        | none =>
          rw [am_yes (f := fun k => ap (hd p) (hd k)) (ok := fun k => k != p) ok (Or.inl hb)] at ih
          iterate 2 refine jw_u rfl ?_
          refine jw_u rfl ⟨fun _ => ?_, fun c2 => absurd rfl c2⟩
          iterate 5 refine jw_u rfl ?_
          exact ih
        | some b =>
          have hbn := am_lt hb
          have q3 := bf b (by omega)
          iterate 2 refine jw_u rfl ?_
          refine jw_u rfl ⟨fun (c2 : nI b = jc (-1)) => absurd c2 (nm1 (by omega)), fun _ => ?_⟩
          iterate 4 refine jw_u rfl ?_
          refine m_between h8 hh bh hp hi ?_
          iterate 4 refine jw_u rfl ?_
          refine m_between (q := b) h8 hh bh hp (by omega) ?_
          refine jw_u rfl ⟨fun (c2 : nI (ap (hd p) (hd b)) ≤ nI (ap (hd p) (hd i))) => ?_, fun (c2 : ¬ nI (ap (hd p) (hd b)) ≤ nI (ap (hd p) (hd i))) => ?_⟩
          · rw [nI_leI (by omega) (by omega)] at c2
            rw [am_no (f := fun k => ap (hd p) (hd k)) (ok := fun k => k != p) (Or.inr ⟨b, hb, c2⟩), hb] at ih
            iterate 4 refine jw_u rfl ?_
            exact ih
          · rw [nI_leI (by omega) (by omega)] at c2
            rw [am_yes (f := fun k => ap (hd p) (hd k)) (ok := fun k => k != p) ok (Or.inr ⟨b, hb, Nat.not_le.mp c2⟩)] at ih
            iterate 5 refine jw_u rfl ?_
            exact ih
  refine jo_i rfl rfl (Nat.le_of_ble_eq_true rfl) ?_
  iterate 4 refine jw_u rfl ?_
  exact loop 0 (Nat.zero_le _)
theorem m_told2 {r p q : Nat} (hr : r ≤ 600) (h8 : n ≤ 8) (hh : ∀ k, k < n → x 122 (r + 2 + k) = nI (hd k)) (hs : ∀ k, k < n → x 124 k = nI (sl k)) (bh : ∀ k, k < n → hd k < 1000) (bs : ∀ k, k < n → sl k ≤ 3) (hp : p < n) (hq : q < n) (h1 : nr (hd p) (hd q) (sl p + sl q) = false → Q (some (.int (nI 1))) x) (h2 : nr (hd p) (hd q) (sl p + sl q) = true → Q (some (.int (nI 0))) x) : jo (d + 3) 133 [.ref 121, .int (nI r), .int (nI p), .int (nI q)] x Q := by
  have b1 := bs p hp
  have b2 := bs q hq
  refine jo_i rfl rfl (Nat.le_of_ble_eq_true rfl) ?_
  iterate 5 refine jw_u rfl ?_
  refine jtop (nI_add r 2) ?_
  iterate 2 refine jw_u rfl ?_
  refine jtop (nI_add (r + 2) p) ?_
  refine jw_u rfl (jaN (o := 122) (show r + 2 + p < 648 by omega) (by decide) (hh p hp) ?_)
  iterate 5 refine jw_u rfl ?_
  refine jtop (nI_add r 2) ?_
  iterate 2 refine jw_u rfl ?_
  refine jtop (nI_add (r + 2) q) ?_
  refine jw_u rfl (jaN (o := 122) (show r + 2 + q < 648 by omega) (by decide) (hh q hq) ?_)
  iterate 3 refine jw_u rfl ?_
  refine jw_u rfl (jaN (o := 124) (show p < 8 by omega) (by decide) (hs p hp) ?_)
  iterate 3 refine jw_u rfl ?_
  refine jw_u rfl (jaN (o := 124) (show q < 8 by omega) (by decide) (hs q hq) ?_)
  refine jw_u rfl ?_
  refine jtop (nI_add _ _) ?_
  refine jw_u rfl ?_
  refine m_isNear (bh p hp) (bh q hq) (by omega) (fun hw => ?_) (fun hw => ?_)
  · refine jw_u rfl ⟨fun _ => ?_, fun c => absurd c n10⟩
    iterate 2 refine jw_u rfl ?_
    exact ⟨fun _ => Or.inl rfl, h2 hw⟩
  · refine jw_u rfl ⟨fun c => absurd n00 c, fun _ => ?_⟩
    iterate 3 refine jw_u rfl ?_
    exact ⟨fun _ => Or.inr rfl, h1 hw⟩
theorem m_voteOf {a c : Nat} (hc : x 121 8 = nI c) (h4 : c ≤ 4) (hq : ∀ k, k < c → x 126 k = nI (sq k)) (bq : ∀ k, k < c → sq k < 1000) (ha : a < 1000) (h : Q (some (.int (oI (am (fun k => ap a (sq k)) (fun _ => true) c)))) x) : jo (d + 3) 141 [.ref 121, .int (nI a)] x Q := by
  have bf : ∀ k, k < c → ap a (sq k) ≤ 27 := fun k hk => ap_lt ha (bq k hk)
  have loop : ∀ i, i ≤ c → jw (d + 2) kX7_voteOf Q 4 [some (.ref 121), some (.int (nI a)), some (.int (oI (am (fun k => ap a (sq k)) (fun _ => true) i))), some (.int (nI i))] [] x := by
    refine dn _ c ?_ (fun i hi ih => ?_)
    · iterate 3 refine jw_u rfl ?_
      refine jw_u rfl ⟨fun _ => ?_, fun (c' : ¬ x 121 8 ≤ nI c) => absurd (by rw [hc]; exact Int32.le_refl _) c'⟩
      iterate 2 refine jw_u rfl ?_
      exact ⟨fun h => (by cases h), h⟩
    · have q2 := bf i hi
      rw [nI_s i] at ih
      iterate 3 refine jw_u rfl ?_
      refine jw_u rfl ⟨fun (c' : x 121 8 ≤ nI i) => absurd c' (by rw [hc]; exact nI_ge hi (by omega)), fun _ => ?_⟩
      cases hb : am (fun k => ap a (sq k)) (fun _ => true) i with
      | none =>
        rw [am_yes (f := fun k => ap a (sq k)) (ok := fun _ => true) rfl (Or.inl hb)] at ih
        iterate 2 refine jw_u rfl ?_
        refine jw_u rfl ⟨fun _ => ?_, fun c2 => absurd rfl c2⟩
        iterate 5 refine jw_u rfl ?_
        exact ih
      | some b =>
        have hbn := am_lt hb
        have q3 := bf b (by omega)
        iterate 2 refine jw_u rfl ?_
        refine jw_u rfl ⟨fun (c2 : nI b = jc (-1)) => absurd c2 (nm1 (by omega)), fun _ => ?_⟩
        iterate 4 refine jw_u rfl ?_
        refine jw_u rfl (jaN (o := 126) (show i < 4 by omega) (by decide) (hq i hi) ?_)
        refine jw_u rfl ?_
        refine m_apart ha (bq i hi) ?_
        iterate 4 refine jw_u rfl ?_
        refine jw_u rfl (jaN (o := 126) (j := b) (show b < 4 by omega) (by decide) (hq b (by omega)) ?_)
        refine jw_u rfl ?_
        refine m_apart ha (bq b (by omega)) ?_
        refine jw_u rfl ⟨fun (c2 : nI (ap a (sq b)) ≤ nI (ap a (sq i))) => ?_, fun (c2 : ¬ nI (ap a (sq b)) ≤ nI (ap a (sq i))) => ?_⟩
        · rw [nI_leI (by omega) (by omega)] at c2
          rw [am_no (f := fun k => ap a (sq k)) (ok := fun _ => true) (Or.inr ⟨b, hb, c2⟩), hb] at ih
          iterate 4 refine jw_u rfl ?_
          exact ih
        · rw [nI_leI (by omega) (by omega)] at c2
          rw [am_yes (f := fun k => ap a (sq k)) (ok := fun _ => true) rfl (Or.inr ⟨b, hb, Nat.not_le.mp c2⟩)] at ih
          iterate 5 refine jw_u rfl ?_
          exact ih
  refine jo_i rfl rfl (Nat.le_of_ble_eq_true rfl) ?_
  iterate 4 refine jw_u rfl ?_
  exact loop 0 (Nat.zero_le _)
end MD
section ME
variable {d : Nat} {x : jM} {Q : Option Value → jM → Prop} {C : aC} {S : aS}
theorem m_whose {m : Int32} (hC : mC x C) (hS : mS x 0 (cN C) S) (wc : wC C) (ws : wS (cN C) S) (h : Q (some (.int (fWhose C S m))) x) : jo (d + 5) 125 [.ref 121, .int m] x Q := by
  obtain ⟨-, -, c3, -, c5, -⟩ := hC
  obtain ⟨s1, -⟩ := hS
  obtain ⟨-, -, b3, -, b5, -⟩ := wc
  obtain ⟨w1, -⟩ := ws
  refine jo_i rfl rfl (Nat.le_of_ble_eq_true rfl) ?_
  iterate 2 refine jw_u rfl ?_
  unfold fWhose at h
  refine m_isMark (fun hp => ?_) (fun hp => ?_)
  · refine jw_u rfl ⟨fun c => absurd c n10, fun _ => ?_⟩
    rw [if_pos hp] at h
    obtain ⟨j, hj, rfl⟩ := ilt (by decide) hp
    rw [nI_clamp (by omega)] at h
    iterate 3 refine jw_u rfl ?_
    refine m_whoseIs c3 b3 s1 c5 w1 b5 hj ?_
    iterate 2 refine jw_u rfl ?_
    exact ⟨fun h => (by cases h), jret (sb_sn _ _ b3) h⟩
  · refine jw_u rfl ⟨fun _ => ?_, fun c => absurd n00 c⟩
    rw [if_neg hp] at h
    iterate 2 refine jw_u rfl ?_
    exact ⟨fun h => (by cases h), h⟩
theorem m_marks {p : Int32} (hC : mC x C) (hS : mS x 0 (cN C) S) (wc : wC C) (ws : wS (cN C) S) (h : Q (some (.int (fMarks C S p))) x) : jo (d + 3) 128 [.ref 121, .int p] x Q := by
  obtain ⟨-, -, c3, -, c5, -⟩ := hC
  obtain ⟨s1, -⟩ := hS
  obtain ⟨-, -, b3, -, b5, -⟩ := wc
  obtain ⟨w1, -⟩ := ws
  refine jo_i rfl rfl (Nat.le_of_ble_eq_true rfl) ?_
  iterate 3 refine jw_u rfl ?_
  unfold fMarks at h
  refine m_isPerson c3 b3 (fun hp => ?_) (fun hp => ?_)
  · refine jw_u rfl ⟨fun c => absurd c n10, fun _ => ?_⟩
    rw [if_pos hp] at h
    obtain ⟨j, hj, rfl⟩ := ilt (by omega) hp
    rw [nI_clamp (by omega)] at h
    iterate 3 refine jw_u rfl ?_
    refine m_marksOf b3 s1 c5 w1 b5 hj ?_
    iterate 2 refine jw_u rfl ?_
    exact ⟨fun h => (by cases h), h⟩
  · refine jw_u rfl ⟨fun _ => ?_, fun c => absurd n00 c⟩
    rw [if_neg hp] at h
    iterate 2 refine jw_u rfl ?_
    exact ⟨fun h => (by cases h), h⟩
theorem m_kin {p : Int32} (hC : mC x C) (hS : mS x 0 (cN C) S) (wc : wC C) (ws : wS (cN C) S) (h : Q (some (.int (fKin C S p))) x) : jo (d + 5) 132 [.ref 121, .int p] x Q := by
  obtain ⟨-, -, c3, -⟩ := hC
  obtain ⟨s1, -⟩ := hS
  obtain ⟨-, -, b3, -⟩ := wc
  obtain ⟨w1, -⟩ := ws
  refine jo_i rfl rfl (Nat.le_of_ble_eq_true rfl) ?_
  iterate 3 refine jw_u rfl ?_
  unfold fKin at h
  refine m_isPerson c3 b3 (fun hp => ?_) (fun hp => ?_)
  · refine jw_u rfl ⟨fun c => absurd c n10, fun _ => ?_⟩
    rw [if_pos hp] at h
    obtain ⟨j, hj, rfl⟩ := ilt (by omega) hp
    rw [nI_clamp (by omega)] at h
    iterate 3 refine jw_u rfl ?_
    refine m_kinOf c3 b3 s1 w1 hj ?_
    iterate 2 refine jw_u rfl ?_
    exact ⟨fun h => (by cases h), h⟩
  · refine jw_u rfl ⟨fun _ => ?_, fun c => absurd n00 c⟩
    rw [if_neg hp] at h
    iterate 2 refine jw_u rfl ?_
    exact ⟨fun h => (by cases h), h⟩
theorem m_vote {m : Int32} (hC : mC x C) (wc : wC C) (h : Q (some (.int (fVote C m))) x) : jo (d + 4) 142 [.ref 121, .int m] x Q := by
  obtain ⟨-, -, -, c4, -, -, c7⟩ := hC
  obtain ⟨-, -, -, b4, -, -, b7⟩ := wc
  refine jo_i rfl rfl (Nat.le_of_ble_eq_true rfl) ?_
  iterate 2 refine jw_u rfl ?_
  unfold fVote at h
  refine m_isMark (fun hp => ?_) (fun hp => ?_)
  · refine jw_u rfl ⟨fun c => absurd c n10, fun _ => ?_⟩
    rw [if_pos hp] at h
    obtain ⟨j, hj, rfl⟩ := ilt (by decide) hp
    rw [nI_clamp (by omega)] at h
    iterate 3 refine jw_u rfl ?_
    refine m_voteOf c4 b4 c7 b7 hj ?_
    iterate 2 refine jw_u rfl ?_
    exact ⟨fun h => (by cases h), h⟩
  · refine jw_u rfl ⟨fun _ => ?_, fun c => absurd n00 c⟩
    rw [if_neg hp] at h
    iterate 2 refine jw_u rfl ?_
    exact ⟨fun h => (by cases h), h⟩
theorem m_clash (hC : mC x C) (hS : mS x 0 (cN C) S) (wc : wC C) (ws : wS (cN C) S) (h : Q (some (.int (fClash C S))) x) : jo (d + 4) 135 [.ref 121] x Q := by
  obtain ⟨-, -, c3, -, c5, -⟩ := hC
  obtain ⟨s1, -⟩ := hS
  obtain ⟨-, -, b3, -, b5, -⟩ := wc
  obtain ⟨w1, -⟩ := ws
  have loop : ∀ p, p ≤ cN C → ∀ g, Q (some (.int (cI ((rsp (cN C) p).find? (fun q => nr (sH S q.1) (sH S q.2) (cSl C q.1 + cSl C q.2)))))) x → jw (d + 3) kX7_clash Q 2 [some (.ref 121), some (.int (nI p)), g] [] x := by
    refine dn _ (cN C) (fun g hq => ?_) (fun p hp ih g hq => ?_)
    · rw [rsp_n (Nat.le_refl _)] at hq
      iterate 3 refine jw_u rfl ?_
      refine jw_u rfl ⟨fun _ => ?_, fun (c' : ¬ x 121 5 ≤ nI (cN C)) => absurd (by rw [c3]; exact Int32.le_refl _) c'⟩
      iterate 2 refine jw_u rfl ?_
      exact ⟨fun h => (by cases h), jret jm1 hq⟩
    · have inner : ∀ q, q ≤ cN C → p < q → Q (some (.int (cI ((rwp (cN C) p q ++ rsp (cN C) (p + 1)).find? (fun q => nr (sH S q.1) (sH S q.2) (cSl C q.1 + cSl C q.2)))))) x → jw (d + 3) kX7_clash Q 10 [some (.ref 121), some (.int (nI p)), some (.int (nI q))] [] x := by
        refine dn _ (cN C) (fun _ hq => ?_) (fun q hq' ihq hpq hq => ?_)
        · rw [rwp_n (Nat.le_refl _), List.nil_append] at hq
          iterate 3 refine jw_u rfl ?_
          refine jw_u rfl ⟨fun _ => ?_, fun (c' : ¬ x 121 5 ≤ nI (cN C)) => absurd (by rw [c3]; exact Int32.le_refl _) c'⟩
          iterate 2 refine jw_u rfl ?_
          have := ih (some (.int (nI (cN C)))) hq
          rw [nI_s p] at this
          exact this
        · rw [rwp_c hq', List.cons_append, List.find?_cons] at hq
          iterate 3 refine jw_u rfl ?_
          refine jw_u rfl ⟨fun (c' : x 121 5 ≤ nI q) => absurd c' (by rw [c3]; exact nI_ge hq' (by omega)), fun _ => ?_⟩
          iterate 5 refine jw_u rfl ?_
          refine m_told2 (r := 0) (by decide) b3 s1 c5 w1 b5 hp hq' (fun hw => ?_) (fun hw => ?_)
          · refine jw_u rfl ⟨fun _ => ?_, fun c => absurd c n10⟩
            iterate 2 refine jw_u rfl ?_
            simp only [hw] at hq
            have := ihq (by omega) hq
            rw [nI_s q] at this
            exact this
          · refine jw_u rfl ⟨fun c => absurd n00 c, fun _ => ?_⟩
            simp only [hw] at hq
            iterate 3 refine jw_u rfl ?_
            refine jtop (pk_mul 10 p) ?_
            iterate 2 refine jw_u rfl ?_
            refine jtop (nI_add _ _) ?_
            refine jw_u rfl ?_
            exact ⟨fun h => (by cases h), hq⟩
      rw [rsp_c hp] at hq
      iterate 3 refine jw_u rfl ?_
      refine jw_u rfl ⟨fun (c' : x 121 5 ≤ nI p) => absurd c' (by rw [c3]; exact nI_ge hp (by omega)), fun _ => ?_⟩
      iterate 3 refine jw_u rfl ?_
      refine jtop (nI_add _ _) ?_
      refine jw_u rfl ?_
      exact inner (p + 1) hp (Nat.lt_succ_self _) hq
  refine jo_i rfl rfl (Nat.le_of_ble_eq_true rfl) ?_
  iterate 2 refine jw_u rfl ?_
  exact loop 0 (Nat.zero_le _) none h
theorem m_forged (hC : mC x C) (hS : mS x 0 (cN C) S) (wc : wC C) (ws : wS (cN C) S) (h : Q (some (.int (fForged C S))) x) : jo (d + 4) 136 [.ref 121] x Q := by
  obtain ⟨-, -, c3, -, c5, -⟩ := hC
  obtain ⟨s1, s2, s3, s4, -⟩ := hS
  obtain ⟨-, -, b3, -, b5, -⟩ := wc
  obtain ⟨w1, w2, w3, w4, -⟩ := ws
  have loop : ∀ i, i ≤ sP S → jw (d + 3) kX7_forged Q 4 [some (.ref 121), some (.int (sb (fun s => !nr (sM S s) (sH S (sN S s)) (cSl C (sN S s))) i)), some (.int (nI i))] [] x := by
    refine dn _ (sP S) ?_ (fun i hi ih => ?_)
    · iterate 4 refine jw_u rfl ?_
      refine jw_u rfl (jaN (o := 122) (show 1 < 648 by decide) (by decide) s2 ?_)
      refine jw_u rfl ⟨fun _ => ?_, fun (c' : ¬ nI (sP S) ≤ nI (sP S)) => absurd (Int32.le_refl _) c'⟩
      iterate 2 refine jw_u rfl ?_
      exact ⟨fun h => (by cases h), h⟩
    · rw [nI_s i] at ih
      iterate 4 refine jw_u rfl ?_
      refine jw_u rfl (jaN (o := 122) (show 1 < 648 by decide) (by decide) s2 ?_)
      refine jw_u rfl ⟨fun (c' : nI (sP S) ≤ nI i) => absurd c' (nI_ge hi (by omega)), fun _ => ?_⟩
      iterate 7 refine jw_u rfl ?_
      refine jtop (nI_add 10 i) ?_
      refine jw_u rfl (jaN (o := 122) (show 10 + i < 648 by omega) (by decide) (s3 i hi) ?_)
      iterate 5 refine jw_u rfl ?_
      refine jtop (nI_add 18 i) ?_
      refine jw_u rfl (jaN (o := 122) (show 18 + i < 648 by omega) (by decide) (s4 i hi) ?_)
      refine jw_u rfl ?_
      refine m_passesFor b3 s1 c5 w1 b5 (w3 i hi) (w4 i hi) (fun hw => ?_) (fun hw => ?_)
      · refine jw_u rfl ⟨fun c => absurd c n10, fun _ => ?_⟩
        iterate 3 refine jw_u rfl ?_
        refine jtop (or0 _) ?_
        iterate 3 refine jw_u rfl ?_
        rw [sb, if_neg (by simp [hw])] at ih
        exact ih
      · refine jw_u rfl ⟨fun _ => ?_, fun c => absurd n00 c⟩
        iterate 7 refine jw_u rfl ?_
        rw [sb, if_pos (by simp [hw])] at ih
        exact ih
  refine jo_i rfl rfl (Nat.le_of_ble_eq_true rfl) ?_
  iterate 4 refine jw_u rfl ?_
  exact loop 0 (Nat.zero_le _)
theorem m_makers {p : Int32} (hC : mC x C) (hS : mS x 0 (cN C) S) (wc : wC C) (ws : wS (cN C) S) (h : Q (some (.int (fMakers C S p))) x) : jo (d + 5) 137 [.ref 121, .int p] x Q := by
  obtain ⟨-, -, c3, -, c5, -⟩ := hC
  obtain ⟨s1, s2, s3, s4, -⟩ := hS
  obtain ⟨-, -, b3, -, b5, -⟩ := wc
  obtain ⟨w1, w2, w3, w4, -⟩ := ws
  refine jo_i rfl rfl (Nat.le_of_ble_eq_true rfl) ?_
  iterate 3 refine jw_u rfl ?_
  unfold fMakers at h
  refine m_isPaper s2 w2 (fun hp => ?_) (fun hp => ?_)
  · refine jw_u rfl ⟨fun c => absurd c n10, fun _ => ?_⟩
    rw [if_pos hp] at h
    obtain ⟨j, hj, rfl⟩ := ilt (by omega) hp
    rw [nI_clamp (by omega)] at h
    iterate 6 refine jw_u rfl ?_
    refine jtop (nI_add 10 j) ?_
    refine jw_u rfl (jaN (o := 122) (show 10 + j < 648 by omega) (by decide) (s3 j hj) ?_)
    refine jw_u rfl ?_
    refine m_whoseIs c3 b3 s1 c5 w1 b5 (w3 j hj) ?_
    iterate 6 refine jw_u rfl ?_
    refine jtop (nI_add 18 j) ?_
    refine jw_u rfl (jaN (o := 122) (show 18 + j < 648 by omega) (by decide) (s4 j hj) ?_)
    iterate 6 refine jw_u rfl ?_
    exact ⟨fun h => (by cases h), h⟩
  · refine jw_u rfl ⟨fun _ => ?_, fun c => absurd n00 c⟩
    rw [if_neg hp] at h
    iterate 2 refine jw_u rfl ?_
    exact ⟨fun h => (by cases h), h⟩
theorem m_turned {m c : Int32} (hC : mC x C) (wc : wC C) (h : Q (some (.int (fTurned C m c))) x) : jo (d + 4) 143 [.ref 121, .int m, .int c] x Q := by
  obtain ⟨-, -, -, c4, -, -, c7⟩ := hC
  obtain ⟨-, -, -, b4, -, -, b7⟩ := wc
  refine jo_i rfl rfl (Nat.le_of_ble_eq_true rfl) ?_
  iterate 3 refine jw_u rfl ?_
  unfold fTurned at h
  refine m_isCandidate c4 b4 (fun hp => ?_) (fun hp => ?_)
  rotate_left
  · refine jw_u rfl ⟨fun c => absurd n00 c, fun _ => ?_⟩
    rw [if_neg hp] at h
    iterate 2 refine jw_u rfl ?_
    exact ⟨fun h => (by cases h), h⟩
  refine jw_u rfl ⟨fun _ => ?_, fun c => absurd c n10⟩
  rw [if_pos hp] at h
  iterate 2 refine jw_u rfl ?_
  refine m_isMark (fun hm => ?_) (fun hm => ?_)
  rotate_left
  · refine jw_u rfl ⟨fun c => absurd n00 c, fun _ => ?_⟩
    rw [if_neg hm] at h
    iterate 2 refine jw_u rfl ?_
    exact ⟨fun h => (by cases h), h⟩
  refine jw_u rfl ⟨fun _ => ?_, fun c => absurd c n10⟩
  rw [if_pos hm] at h
  obtain ⟨j, hj, rfl⟩ := ilt (by omega) hp
  obtain ⟨a, ha, rfl⟩ := ilt (by decide) hm
  rw [nI_clamp (by omega), nI_clamp (by omega)] at h
  have loop : ∀ i, i ≤ 1000 → ∀ g, jw (d + 3) kX7_turned Q 15 [some (.ref 121), some (.int (nI a)), some (.int (nI j)), some (.int (nI (tn C a j 1000000 i))), some (.int (nI i)), g] [] x := by
    refine dn _ 1000 (fun g => ?_) (fun i hi ih g => ?_)
    · have q1 := tn_le (C := C) (a := a) (c := j) (z := 1000000) 1000
      have q2 := tn_z (C := C) (a := a) (c := j) (z := 100) (w := 1000000) ha (by decide) (by decide) 1000 (Nat.le_refl _)
      generalize tn C a j 1000000 1000 = v at q1 q2 ⊢
      generalize tn C a j 100 1000 = v0 at q2 h
      iterate 2 refine jw_u rfl ?_
      refine jw_u rfl ⟨fun _ => ?_, fun (c' : ¬ nI 1000 ≤ nI 1000) => absurd (Int32.le_refl _) c'⟩
      iterate 2 refine jw_u rfl ?_
      refine jw_u rfl ⟨fun (c' : ¬ nI v = nI 1000000) => ?_, fun (c' : nI v = nI 1000000) => ?_⟩
      · rw [nI_eq (by omega) (by decide)] at c'
        rw [if_neg (by omega)] at h
        iterate 2 refine jw_u rfl ?_
        exact ⟨fun h => (by cases h), jret (by rw [show v = v0 by omega]) h⟩
      · rw [nI_eq (by omega) (by decide)] at c'
        rw [if_pos (by omega)] at h
        iterate 3 refine jw_u rfl ?_
        exact ⟨fun h => (by cases h), jret jm1 h⟩
    · have q1 := tn_le (C := C) (a := a) (c := j) (z := 1000000) i
      have q2 := ap_lt ha hi
      have ih := ih (some (.int (nI (ap a i))))
      rw [nI_s i] at ih
      iterate 2 refine jw_u rfl ?_
      refine jw_u rfl ⟨fun (c' : nI 1000 ≤ nI i) => absurd c' (nI_ge hi (by decide)), fun _ => ?_⟩
      iterate 3 refine jw_u rfl ?_
      refine m_apart ha hi ?_
      iterate 3 refine jw_u rfl ?_
      refine jw_u rfl ⟨fun (c' : nI (tn C a j 1000000 i) ≤ nI (ap a i)) => ?_, fun (c' : ¬ nI (tn C a j 1000000 i) ≤ nI (ap a i)) => ?_⟩
      · rw [nI_leI (by omega) (by omega)] at c'
        rw [tn, if_neg (fun hc => absurd hc.1 (by omega))] at ih
        iterate 4 refine jw_u rfl ?_
        exact ih
      · rw [nI_leI (by omega) (by omega)] at c'
        iterate 3 refine jw_u rfl ?_
        refine m_voteOf c4 b4 c7 b7 hi ?_
        refine jw_u rfl ?_
        have eo : oI (ch C i) = nI j ↔ ch C i = some j := oI_eq (by omega) (fun b hb => by have := am_lt hb; omega)
        refine jw_u rfl ⟨fun (c2 : ¬ oI (ch C i) = nI j) => ?_, fun (c2 : oI (ch C i) = nI j) => ?_⟩
        · rw [eo] at c2
          rw [tn, if_neg (fun hc => c2 hc.2)] at ih
          iterate 4 refine jw_u rfl ?_
          exact ih
        · rw [eo] at c2
          rw [tn, if_pos ⟨by omega, c2⟩] at ih
          iterate 5 refine jw_u rfl ?_
          exact ih
  iterate 4 refine jw_u rfl ?_
  exact loop 0 (Nat.zero_le _) none
end ME
