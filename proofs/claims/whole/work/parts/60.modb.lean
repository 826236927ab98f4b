/-! THE REFERENCE: the reader, its small steps -/
theorem sk_ne {u : aN} : ∀ k, k ≤ u.1 → sk u k < u.1 → ¬ u.2 (sk u k) = 32 := by
  refine dn _ u.1 (fun h => ?_) (fun k hk ih h => ?_)
  · rw [sk_e (fun hc => absurd hc.1 (Nat.lt_irrefl _))] at h
    exact absurd h (Nat.lt_irrefl _)
  · by_cases e : u.2 k = 32
    · rw [sk_s hk e] at h ⊢
      exact ih h
    · rw [sk_e (fun hc => e hc.2)]
      exact e
theorem le_eq {u : aN} {s c : Nat} (hu : bT u) (hc : c < 2 ^ 31) : le u s = nI c ↔ (s < u.1 ∧ u.2 s = c) := by
  unfold le
  by_cases hs : s < u.1
  · have b2 := hu.2 s hs
    rw [if_pos hs, nI_eq (by omega) hc]
    exact ⟨fun e => ⟨hs, e⟩, fun e => e.2⟩
  · rw [if_neg hs]
    exact ⟨fun e => absurd e.symm (fun e => nm1 hc (e.trans jm1.symm)), fun e => absurd e.1 hs⟩
theorem le_fg {u : aN} {s : Nat} (hu : bT u) : ((48 : Int) ≤ (le u s).toInt ∧ (le u s).toInt ≤ 57) ↔ (s < u.1 ∧ 48 ≤ u.2 s ∧ u.2 s ≤ 57) := by
  unfold le
  by_cases hs : s < u.1
  · have b2 := hu.2 s hs
    rw [if_pos hs, nI_toInt (by omega)]
    omega
  · rw [if_neg hs]
    have : (-1 : Int32).toInt = -1 := by decide
    omega
/-- a reading that goes on, or not -/
def gd : aR → Nat
  | .inl _ => 0
  | .inr _ => 1
/-- how the reference's reading stands -/
def rM (x : jM) (u : aN) : aR → Prop
  | .inl q => x 121 15 = nI q.1 ∧ x 121 16 = nI q.2 ∧ 1 ≤ q.1 ∧ q.1 ≤ 3
  | .inr k => x 121 12 = nI k ∧ x 121 16 = -1 ∧ k ≤ u.1
def fP (x x' : jM) : Prop := (∀ i, i ≠ 121 → x' i = x i) ∧ (∀ k, k < 12 ∨ 16 < k → x' 121 k = x 121 k)
theorem fP_r {x : jM} : fP x x := ⟨fun _ _ => rfl, fun _ _ => rfl⟩
theorem fP_t {x y w : jM} (h1 : fP x y) (h2 : fP y w) : fP x w := ⟨fun i hi => (h2.1 i hi).trans (h1.1 i hi), fun k hk => (h2.2 k hk).trans (h1.2 k hk)⟩
theorem fP_u {x : jM} {k : Nat} {v : Int32} (h : 12 ≤ k ∧ k ≤ 16) : fP x (ju x 121 k v) := ⟨fun i hi => ju_oo hi, fun j hj => ju_k (by omega)⟩
theorem fP_T {x x' : jM} {u : aN} (h : fP x x') (ht : mT x u) : mT x' u := mT_f (h.2 11 (by omega)) (h.1 127 (by decide)) ht
section MP
variable {d : Nat} {x : jM} {Q : Option Value → jM → Prop} {u : aN}
theorem m_letterAt {k : Nat} (hu : bT u) (ht : mT x u) (hk : k ≤ u.1) (h : Q (some (.int (le u k))) x) : jo (d + 1) 93 [.ref 121, .int (nI k)] x Q := by
  have b1 := hu.1
  refine jo_i rfl rfl (Nat.le_of_ble_eq_true rfl) ?_
  iterate 3 refine jw_u rfl ?_
  unfold le at h
  refine jw_u rfl ⟨fun (c : x 121 11 ≤ nI k) => ?_, fun (c : ¬ x 121 11 ≤ nI k) => ?_⟩
  · rw [ht.1, nI_leI (by omega) (by omega)] at c
    rw [if_neg (by omega)] at h
    iterate 2 refine jw_u rfl ?_
    exact ⟨fun h => (by cases h), jret jm1 h⟩
  · rw [ht.1, nI_leI (by omega) (by omega)] at c
    rw [if_pos (by omega)] at h
    iterate 3 refine jw_u rfl ?_
    refine jw_u rfl (jaN (o := 127) (show k < 240 by omega) (by decide) (ht.2 k (by omega)) ?_)
    iterate 2 refine jw_u rfl ?_
    exact ⟨fun h => (by cases h), h⟩
theorem m_here {k : Nat} (hu : bT u) (ht : mT x u) (e : x 121 12 = nI k) (hk : k ≤ u.1) (h : Q (some (.int (le u (sk u k)))) (ju (ju x 121 12 (nI (sk u k))) 121 13 (nI (sk u k)))) : jo (d + 2) 94 [.ref 121] x Q := by
  have b1 := hu.1
  have fin : ∀ k, k ≤ u.1 → ∀ x, mT x u → x 121 12 = nI k → Q (some (.int (le u k))) (ju x 121 13 (nI k)) → jw (d + 1) kX7_here Q 13 [some (.ref 121)] [] x := by
    intro k hk x ht e h
    iterate 3 refine jw_u rfl ?_
    refine jtop e ?_
    refine jw_u rfl ⟨fun h => (by cases h), ?_⟩
    iterate 3 refine jw_u rfl ?_
    refine jtop (v' := nI k) (by rw [ju_k (by decide)]; exact e) ?_
    refine jw_u rfl ?_
    refine m_letterAt hu (mT_f (ju_k (by decide)) (ju_oo (by decide)) ht) hk ?_
    refine jw_u rfl ?_
    exact ⟨fun h => (by cases h), h⟩
  have loop : ∀ k, k ≤ u.1 → ∀ x, mT x u → x 121 12 = nI k → Q (some (.int (le u (sk u k)))) (ju (ju x 121 12 (nI (sk u k))) 121 13 (nI (sk u k))) → jw (d + 1) kX7_here Q 0 [some (.ref 121)] [] x := by
    refine dn _ u.1 (fun x ht e h => ?_) (fun k hk ih x ht e h => ?_)
    · rw [sk_e (fun hc => absurd hc.1 (Nat.lt_irrefl _)), ju_id e] at h
      iterate 3 refine jw_u rfl ?_
      refine jtop e ?_
      refine jw_u rfl ?_
      refine m_letterAt hu ht (Nat.le_refl _) ?_
      refine jtop (v' := -1) (by unfold le; rw [if_neg (Nat.lt_irrefl _)]) ?_
      refine jw_u rfl ?_
      refine jw_u rfl ⟨fun _ => ?_, fun (c : (-1 : Int32) = nI 32) => absurd c (by decide)⟩
      exact fin _ (Nat.le_refl _) x ht e h
    · have b2 := hu.2 k hk
      iterate 3 refine jw_u rfl ?_
      refine jtop e ?_
      refine jw_u rfl ?_
      refine m_letterAt hu ht (Nat.le_of_lt hk) ?_
      refine jtop (v' := nI (u.2 k)) (by unfold le; rw [if_pos hk]) ?_
      refine jw_u rfl ?_
      refine jw_u rfl ⟨fun (c : ¬ nI (u.2 k) = nI 32) => ?_, fun (c : nI (u.2 k) = nI 32) => ?_⟩
      · rw [nI_eq (by omega) (by decide)] at c
        rw [sk_e (fun hc => c hc.2), ju_id e] at h
        exact fin k (Nat.le_of_lt hk) x ht e h
      · rw [nI_eq (by omega) (by decide)] at c
        rw [sk_s hk c] at h
        iterate 3 refine jw_u rfl ?_
        refine jtop e ?_
        iterate 2 refine jw_u rfl ?_
        refine jtop (nI_add k 1) ?_
        refine jw_u rfl ⟨fun h => (by cases h), ?_⟩
        refine jw_u rfl ?_
        exact ih (ju x 121 12 (nI (k + 1))) (mT_f (ju_k (by decide)) (ju_oo (by decide)) ht) (ju_s _ _ _ _) (by rw [ju_ju]; exact h)
  refine jo_i rfl rfl (Nat.le_of_ble_eq_true rfl) ?_
  exact loop k hk x ht e h
theorem m_fails {a b : Int32} (h : Q (some (.int (nI 0))) (ju (ju x 121 15 a) 121 16 b)) : jo (d + 1) 95 [.ref 121, .int a, .int b] x Q := by
  refine jo_i rfl rfl (Nat.le_of_ble_eq_true rfl) ?_
  iterate 2 refine jw_u rfl ?_
  refine jw_u rfl ⟨fun h => (by cases h), ?_⟩
  iterate 2 refine jw_u rfl ?_
  refine jw_u rfl ⟨fun h => (by cases h), ?_⟩
  iterate 2 refine jw_u rfl ?_
  exact ⟨fun _ => Or.inl rfl, h⟩
theorem fP_f {a b : Int32} : fP x (ju (ju x 121 15 a) 121 16 b) := fP_t (fP_u (by decide)) (fP_u (by decide))
theorem rM_f {a b : Nat} (h1 : 1 ≤ a) (h2 : a ≤ 3) : rM (ju (ju x 121 15 (nI a)) 121 16 (nI b)) u (.inl (a, b)) := ⟨by rw [ju_k (by decide), ju_s], ju_s _ _ _ _, h1, h2⟩
theorem m_takes {k : Nat} (hu : bT u) (ht : mT x u) (hq : rM x u (.inr k)) (h : ∀ x', fP x x' → rM x' u (enS u (.inr k)) → Q (some (.int (nI (gd (enS u (.inr k)))))) x') : jo (d + 3) 96 [.ref 121, .int (nI 59)] x Q := by
  have b1 := hu.1
  obtain ⟨q1, q2, q3⟩ := hq
  refine jo_i rfl rfl (Nat.le_of_ble_eq_true rfl) ?_
  iterate 2 refine jw_u rfl ?_
  refine m_here hu ht q1 q3 ?_
  obtain ⟨l1, l2⟩ := sk_le (u := u) q3
  unfold enS at h
  dsimp only at h
  generalize sk u k = s at h l1 l2 ⊢
  have f1 : fP x (ju (ju x 121 12 (nI s)) 121 13 (nI s)) := fP_t (fP_u (by decide)) (fP_u (by decide))
  have a1 : ju (ju x 121 12 (nI s)) 121 13 (nI s) 121 12 = nI s := by rw [ju_k (by decide), ju_s]
  have a2 : ju (ju x 121 12 (nI s)) 121 13 (nI s) 121 13 = nI s := ju_s _ _ _ _
  have a3 : ju (ju x 121 12 (nI s)) 121 13 (nI s) 121 16 = -1 := by rw [ju_k (by decide), ju_k (by decide)]; exact q2
  generalize ju (ju x 121 12 (nI s)) 121 13 (nI s) = y at f1 a1 a2 a3 ⊢
  refine jw_u rfl ?_
  have el : le u s = nI 59 ↔ (s < u.1 ∧ u.2 s = 59) := le_eq hu (by decide)
  refine jw_u rfl ⟨fun (c : le u s = nI 59) => ?_, fun (c : ¬ le u s = nI 59) => ?_⟩
  · rw [el] at c
    rw [if_pos c] at h
    iterate 3 refine jw_u rfl ?_
    refine jtop a1 ?_
    iterate 2 refine jw_u rfl ?_
    refine jtop (nI_add s 1) ?_
    refine jw_u rfl ⟨fun h => (by cases h), ?_⟩
    iterate 2 refine jw_u rfl ?_
    exact ⟨fun _ => Or.inr rfl, h _ (fP_t f1 (fP_u (by decide))) ⟨ju_s _ _ _ _, by rw [ju_k (by decide)]; exact a3, c.1⟩⟩
  · rw [el] at c
    rw [if_neg c] at h
    iterate 4 refine jw_u rfl ?_
    refine jtop a2 ?_
    refine jw_u rfl ?_
    refine m_fails ?_
    refine jw_u rfl ?_
    exact ⟨fun _ => Or.inl rfl, h _ (fP_t f1 fP_f) (rM_f (a := 1) (b := s) (by decide) (by decide))⟩
set_option maxHeartbeats 1000000 in
theorem m_takesNumber {hi : Int} {g : Int32} {k : Nat} (hu : bT u) (hg : g.toInt = hi) (ht : mT x u) (hq : rM x u (.inr k)) (h : ∀ x', fP x x' → rM x' u (nmS u hi (.inr k)).1 → (∀ k', (nmS u hi (.inr k)).1 = .inr k' → x' 121 14 = nI (nmS u hi (.inr k)).2) → Q (some (.int (nI (gd (nmS u hi (.inr k)).1)))) x') : jo (d + 3) 97 [.ref 121, .int g] x Q := by
  have b1 := hu.1
  obtain ⟨q1, q2, q3⟩ := hq
  refine jo_i rfl rfl (Nat.le_of_ble_eq_true rfl) ?_
  iterate 2 refine jw_u rfl ?_
  refine m_here hu ht q1 q3 ?_
  obtain ⟨l1, l2⟩ := sk_le (u := u) q3
  unfold nmS at h
  dsimp only at h
  generalize sk u k = s at h l1 l2 ⊢
  have f1 : fP x (ju (ju x 121 12 (nI s)) 121 13 (nI s)) := fP_t (fP_u (by decide)) (fP_u (by decide))
  have a1 : ju (ju x 121 12 (nI s)) 121 13 (nI s) 121 12 = nI s := by rw [ju_k (by decide), ju_s]
  have a2 : ju (ju x 121 12 (nI s)) 121 13 (nI s) 121 13 = nI s := ju_s _ _ _ _
  have a3 : ju (ju x 121 12 (nI s)) 121 13 (nI s) 121 16 = -1 := by rw [ju_k (by decide), ju_k (by decide)]; exact q2
  generalize ju (ju x 121 12 (nI s)) 121 13 (nI s) = y at f1 a1 a2 a3 ⊢
  obtain ⟨m1, m2⟩ := fe_le l2
  iterate 4 refine jw_u rfl ?_
  refine m_in (a := 48) (b := 57) (by decide) (by decide) (fun hf => ?_) (fun hf => ?_)
  rotate_left
  · rw [le_fg hu] at hf
    rw [if_pos (fe_e hf)] at h
    refine jw_u rfl ⟨fun c => absurd n00 c, fun _ => ?_⟩
    iterate 4 refine jw_u rfl ?_
    refine jtop a2 ?_
    refine jw_u rfl ?_
    refine m_fails ?_
    refine jw_u rfl ?_
    exact ⟨fun _ => Or.inl rfl, h _ (fP_t f1 fP_f) (rM_f (a := 1) (b := s) (by decide) (by decide)) (fun k' e => by cases e)⟩
  rw [le_fg hu] at hf
  have ne : ¬ fe u s = s := by
    rw [fe_s hf.1 hf.2]
    have := (fe_le (u := u) (k := s + 1) hf.1).1
    omega
  have ev := vl_k u s (fe u s - s)
  have bad : (3 < fe u s - s ∨ hi < (vl u s (fe u s - s) : Int)) → ∀ y, fP x y → y 121 13 = nI s → jw (d + 2) kX7_takesNumber Q 66 [some (.ref 121), some (.int g)] [] y := by
    intro h2 y f a2
    rw [if_neg ne, if_pos h2] at h
    iterate 4 refine jw_u rfl ?_
    refine jtop a2 ?_
    refine jw_u rfl ?_
    refine m_fails ?_
    refine jw_u rfl ⟨fun _ => ?_, fun c => absurd n00 c⟩
    iterate 2 refine jw_u rfl ?_
    exact ⟨fun _ => Or.inl rfl, h _ (fP_t f fP_f) (rM_f (a := 2) (b := s) (by decide) (by decide)) (fun k' e => by cases e)⟩
  have fin : ∀ y, fP x y → y 121 12 = nI (fe u s) → y 121 13 = nI s → y 121 14 = nI (vl u s (fe u s - s)) → y 121 16 = -1 → jw (d + 2) kX7_takesNumber Q 55 [some (.ref 121), some (.int g)] [] y := by
    intro y f a1 a2 a3 a4
    iterate 2 refine jw_u rfl ?_
    refine jtop a1 ?_
    iterate 2 refine jw_u rfl ?_
    refine jtop a2 ?_
    refine jw_u rfl ?_
    refine jtop (pk_sub m1) ?_
    refine jw_u rfl ?_
    refine jw_u rfl ⟨fun (c2 : nI 4 ≤ nI (fe u s - s)) => ?_, fun (c2 : ¬ nI 4 ≤ nI (fe u s - s)) => ?_⟩
    · rw [nI_leI (by decide) (by omega)] at c2
      exact bad (Or.inl (by omega)) y f a2
    · rw [nI_leI (by decide) (by omega)] at c2
      iterate 2 refine jw_u rfl ?_
      refine jtop a3 ?_
      refine jw_u rfl ?_
      have eg : nI (vl u s (fe u s - s)) ≤ g ↔ (vl u s (fe u s - s) : Int) ≤ hi := by
        rw [Int32.le_iff_toInt_le, nI_toInt (by omega), hg]
      refine jw_u rfl ⟨fun (c3 : nI (vl u s (fe u s - s)) ≤ g) => ?_, fun (c3 : ¬ nI (vl u s (fe u s - s)) ≤ g) => ?_⟩
      · rw [eg] at c3
        rw [if_neg ne, if_neg (by omega)] at h
        iterate 3 refine jw_u rfl ?_
        exact ⟨fun _ => Or.inr rfl, h y f ⟨a1, a4, m2⟩ (fun _ _ => a3)⟩
      · rw [eg] at c3
        exact bad (Or.inr (by omega)) y f a2
  have loop : ∀ i, i ≤ u.1 → s ≤ i → fe u i = fe u s → ∀ y, fP x y → y 121 12 = nI i → y 121 13 = nI s → y 121 14 = nI (vl u s (i - s)) → y 121 16 = -1 → jw (d + 2) kX7_takesNumber Q 16 [some (.ref 121), some (.int g)] [] y := by
    refine dn _ u.1 (fun i1 i2 y f a1 a2 a3 a4 => ?_) (fun i hi ih i1 i2 y f a1 a2 a3 a4 => ?_)
    · rw [fe_e (fun hc => absurd hc.1 (Nat.lt_irrefl _))] at i2
      rw [← i2] at fin
      iterate 3 refine jw_u rfl ?_
      refine jtop a1 ?_
      refine jw_u rfl ?_
      refine m_letterAt hu (fP_T f ht) (Nat.le_refl _) ?_
      iterate 4 refine jw_u rfl ?_
      refine m_in (a := 48) (b := 57) (by decide) (by decide) (fun hf => ?_) (fun _ => ?_)
      · rw [le_fg hu] at hf
        exact absurd hf.1 (Nat.lt_irrefl _)
      · refine jw_u rfl ⟨fun _ => ?_, fun c => absurd n00 c⟩
        exact fin y f a1 a2 a3 a4
    · have b2 := hu.2 i hi
      have le_i : le u i = nI (u.2 i) := by unfold le; rw [if_pos hi]
      iterate 3 refine jw_u rfl ?_
      refine jtop a1 ?_
      refine jw_u rfl ?_
      refine m_letterAt hu (fP_T f ht) (Nat.le_of_lt hi) ?_
      iterate 4 refine jw_u rfl ?_
      refine m_in (a := 48) (b := 57) (by decide) (by decide) (fun hf => ?_) (fun hf => ?_)
      rotate_left
      · rw [le_fg hu] at hf
        rw [fe_e hf] at i2
        rw [← i2] at fin
        refine jw_u rfl ⟨fun _ => ?_, fun c => absurd n00 c⟩
        exact fin y f a1 a2 a3 a4
      rw [le_fg hu] at hf
      have ih := ih (by omega) ((fe_s hi hf.2).symm.trans i2)
      refine jw_u rfl ⟨fun c => absurd c n10, fun _ => ?_⟩
      have next : ∀ v, v = nI (vl u s (i + 1 - s)) → jw (d + 2) kX7_takesNumber Q 47 [some (.ref 121), some (.int g)] [.int v, .ref 121] y := by
        intro v hv
        refine jw_u rfl ⟨fun h => (by cases h), ?_⟩
        iterate 3 refine jw_u rfl ?_
        refine jtop (v' := nI i) (by rw [ju_k (by decide)]; exact a1) ?_
        iterate 2 refine jw_u rfl ?_
        refine jtop (nI_add i 1) ?_
        refine jw_u rfl ⟨fun h => (by cases h), ?_⟩
        refine jw_u rfl ?_
        exact ih _ (fP_t f (fP_t (fP_u (by decide)) (fP_u (by decide)))) (ju_s _ _ _ _) (by rw [ju_k (by decide), ju_k (by decide)]; exact a2) (by rw [ju_k (by decide), ju_s]; exact hv) (by rw [ju_k (by decide), ju_k (by decide)]; exact a4)
      have ei : i + 1 - s = (i - s) + 1 := by omega
      iterate 3 refine jw_u rfl ?_
      refine jtop a1 ?_
      iterate 2 refine jw_u rfl ?_
      refine jtop a2 ?_
      refine jw_u rfl ?_
      refine jtop (pk_sub i1) ?_
      refine jw_u rfl ?_
      refine jw_u rfl ⟨fun (c : nI 3 ≤ nI (i - s)) => ?_, fun (c : ¬ nI 3 ≤ nI (i - s)) => ?_⟩
      · rw [nI_leI (by decide) (by omega)] at c
        rw [ei, vl, if_neg (by omega)] at next
        iterate 2 refine jw_u rfl ?_
        exact next _ a3
      · rw [nI_leI (by decide) (by omega)] at c
        rw [ei, vl, if_pos (by omega), show s + (i - s) = i by omega] at next
        iterate 3 refine jw_u rfl ?_
        refine jtop a3 ?_
        refine jw_u rfl ?_
        refine jtop (pk_mul 10 _) ?_
        iterate 3 refine jw_u rfl ?_
        refine jtop a1 ?_
        refine jw_u rfl ?_
        refine m_letterAt hu (fP_T f ht) (Nat.le_of_lt hi) ?_
        refine jtop le_i ?_
        refine jw_u rfl ?_
        refine jtop (nI_add _ _) ?_
        iterate 2 refine jw_u rfl ?_
        refine jtop (v' := nI (10 * vl u s (i - s) + (u.2 i - 48) % 10)) (by rw [show jc 48 = nI 48 from rfl, pk_sub (by omega), show 10 * vl u s (i - s) + u.2 i - 48 = 10 * vl u s (i - s) + (u.2 i - 48) % 10 by omega]) ?_
        refine jw_u rfl ?_
        exact next _ rfl
  refine jw_u rfl ⟨fun _ => ?_, fun c => absurd c n10⟩
  iterate 2 refine jw_u rfl ?_
  refine jw_u rfl ⟨fun h => (by cases h), ?_⟩
  exact loop s l2 (Nat.le_refl _) rfl _ (fP_t f1 (fP_u (by decide))) (by rw [ju_k (by decide)]; exact a1) (by rw [ju_k (by decide)]; exact a2) (by rw [Nat.sub_self, ju_s]; rfl) (by rw [ju_k (by decide)]; exact a3)
end MP
