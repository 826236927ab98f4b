/-! THE LAW: its cases, its loop -/
theorem jsw_all {v : Int} {G : Nat → Prop} {d : Nat} : ∀ {l : List (Int × Nat)}, G d → (∀ q ∈ l, G q.2) → jsw v G d l
  | [], hd, _ => hd
  | q :: r, hd, h => ⟨fun _ => h q List.mem_cons_self, fun _ => jsw_all hd (fun q hq => h q (List.mem_cons_of_mem _ hq))⟩
section LC
variable {L i : Nat} {xs : Nat → Int32} {z : aX} {x : jM}
theorem jtopl {k : Nat} {Lo : List (Option Value)} {r : List Value} {v v' : Int32} (e : v = v') (h : jwl 10 L xs k Lo (.int v' :: r) x) : jwl 10 L xs k Lo (.int v :: r) x := e ▸ h
def lwL (i : Nat) : List (Option Value) := [some (.ref 200), some (.ref 0), some (.ref 121), some (.int (nI i))]
/-- the way on, from any state that both are in -/
def lwN (L i : Nat) (xs : Nat → Int32) : Prop := ∀ z x, RX z x → RM z x → wX z → jwl 10 L xs 613 (lwL i) [] x
set_option maxRecDepth 20000 in
theorem law_feed (hz : RX z x) (hm : RM z x) (hw : wX z) (hi : i + 3 ≤ L) (hL : L ≤ 192) (nx : lwN L i xs) : jwl 10 L xs 14 (lwL i) [] x := by
  obtain ⟨hw2, hc, hr⟩ := jP_feed (a := xs (nI (i + 1)).toNatClampNeg) hw
  refine jwl_u rfl ?_
  iterate 4 refine jwl_u rfl ?_
  refine jtopl (nI_add i 1) ?_
  refine jwl_u rfl ⟨rfl, vp_in_nI (show i + 1 < L by omega) (by omega), ?_⟩
  refine jwl_u rfl ?_
  refine hc x _ hz (fun x1 hx1 f1 => ?_)
  refine jwl_u rfl ?_
  iterate 4 refine jwl_u rfl ?_
  refine jtopl (nI_add i 1) ?_
  refine jwl_u rfl ⟨rfl, vp_in_nI (show i + 1 < L by omega) (by omega), ?_⟩
  refine jwl_u rfl ?_
  refine hr x1 _ (RM_g hw f1 hm) (fun x2 hx2 f2 => ?_)
  refine jwl_u rfl ⟨fun _ => nx _ x2 (RX_g f2 hx1) hx2 hw2, fun c => absurd rfl c⟩
set_option maxRecDepth 20000 in
theorem law_clan (hz : RX z x) (hm : RM z x) (hw : wX z) (hi : i + 3 ≤ L) (hL : L ≤ 192) (nx : lwN L i xs) : jwl 10 L xs 31 (lwL i) [] x := by
  obtain ⟨hw2, hc, hr⟩ := jP_clan  hw
  refine jwl_u rfl ?_
  refine jwl_u rfl ?_
  refine hc x _ hz (fun x1 hx1 f1 => ?_)
  refine jwl_u rfl ?_
  refine jwl_u rfl ?_
  refine hr x1 _ (RM_g hw f1 hm) (fun x2 hx2 f2 => ?_)
  refine jwl_u rfl ⟨fun _ => nx _ x2 (RX_g f2 hx1) hx2 hw2, fun c => absurd rfl c⟩
set_option maxRecDepth 20000 in
theorem law_fault (hz : RX z x) (hm : RM z x) (hw : wX z) (hi : i + 3 ≤ L) (hL : L ≤ 192) (nx : lwN L i xs) : jwl 10 L xs 38 (lwL i) [] x := by
  obtain ⟨hw2, hc, hr⟩ := jP_fault  hw
  refine jwl_u rfl ?_
  refine jwl_u rfl ?_
  refine hc x _ hz (fun x1 hx1 f1 => ?_)
  refine jwl_u rfl ?_
  refine jwl_u rfl ?_
  refine hr x1 _ (RM_g hw f1 hm) (fun x2 hx2 f2 => ?_)
  refine jwl_u rfl ⟨fun _ => nx _ x2 (RX_g f2 hx1) hx2 hw2, fun c => absurd rfl c⟩
set_option maxRecDepth 20000 in
theorem law_told (hz : RX z x) (hm : RM z x) (hw : wX z) (hi : i + 3 ≤ L) (hL : L ≤ 192) (nx : lwN L i xs) : jwl 10 L xs 45 (lwL i) [] x := by
  obtain ⟨hw2, hc, hr⟩ := jP_told (a := xs (nI (i + 1)).toNatClampNeg) hw
  refine jwl_u rfl ?_
  iterate 4 refine jwl_u rfl ?_
  refine jtopl (nI_add i 1) ?_
  refine jwl_u rfl ⟨rfl, vp_in_nI (show i + 1 < L by omega) (by omega), ?_⟩
  refine jwl_u rfl ?_
  refine hc x _ hz (fun x1 hx1 f1 => ?_)
  refine jwl_u rfl ?_
  iterate 4 refine jwl_u rfl ?_
  refine jtopl (nI_add i 1) ?_
  refine jwl_u rfl ⟨rfl, vp_in_nI (show i + 1 < L by omega) (by omega), ?_⟩
  refine jwl_u rfl ?_
  refine hr x1 _ (RM_g hw f1 hm) (fun x2 hx2 f2 => ?_)
  refine jwl_u rfl ⟨fun _ => nx _ x2 (RX_g f2 hx1) hx2 hw2, fun c => absurd rfl c⟩
set_option maxRecDepth 20000 in
theorem law_person (hz : RX z x) (hm : RM z x) (hw : wX z) (hi : i + 3 ≤ L) (hL : L ≤ 192) (nx : lwN L i xs) : jwl 10 L xs 62 (lwL i) [] x := by
  obtain ⟨hw2, hc, hr⟩ := jP_person (a := xs (nI (i + 1)).toNatClampNeg) (b := xs (nI (i + 2)).toNatClampNeg) hw
  refine jwl_u rfl ?_
  iterate 4 refine jwl_u rfl ?_
  refine jtopl (nI_add i 1) ?_
  refine jwl_u rfl ⟨rfl, vp_in_nI (show i + 1 < L by omega) (by omega), ?_⟩
  iterate 4 refine jwl_u rfl ?_
  refine jtopl (nI_add i 2) ?_
  refine jwl_u rfl ⟨rfl, vp_in_nI (show i + 2 < L by omega) (by omega), ?_⟩
  refine jwl_u rfl ?_
  refine hc x _ hz (fun x1 hx1 f1 => ?_)
  refine jwl_u rfl ?_
  iterate 4 refine jwl_u rfl ?_
  refine jtopl (nI_add i 1) ?_
  refine jwl_u rfl ⟨rfl, vp_in_nI (show i + 1 < L by omega) (by omega), ?_⟩
  iterate 4 refine jwl_u rfl ?_
  refine jtopl (nI_add i 2) ?_
  refine jwl_u rfl ⟨rfl, vp_in_nI (show i + 2 < L by omega) (by omega), ?_⟩
  refine jwl_u rfl ?_
  refine hr x1 _ (RM_g hw f1 hm) (fun x2 hx2 f2 => ?_)
  refine jwl_u rfl ⟨fun _ => nx _ x2 (RX_g f2 hx1) hx2 hw2, fun c => absurd rfl c⟩
set_option maxRecDepth 20000 in
theorem law_paper (hz : RX z x) (hm : RM z x) (hw : wX z) (hi : i + 3 ≤ L) (hL : L ≤ 192) (nx : lwN L i xs) : jwl 10 L xs 89 (lwL i) [] x := by
  obtain ⟨hw2, hc, hr⟩ := jP_paper (a := xs (nI (i + 1)).toNatClampNeg) (b := xs (nI (i + 2)).toNatClampNeg) hw
  refine jwl_u rfl ?_
  iterate 4 refine jwl_u rfl ?_
  refine jtopl (nI_add i 1) ?_
  refine jwl_u rfl ⟨rfl, vp_in_nI (show i + 1 < L by omega) (by omega), ?_⟩
  iterate 4 refine jwl_u rfl ?_
  refine jtopl (nI_add i 2) ?_
  refine jwl_u rfl ⟨rfl, vp_in_nI (show i + 2 < L by omega) (by omega), ?_⟩
  refine jwl_u rfl ?_
  refine hc x _ hz (fun x1 hx1 f1 => ?_)
  refine jwl_u rfl ?_
  iterate 4 refine jwl_u rfl ?_
  refine jtopl (nI_add i 1) ?_
  refine jwl_u rfl ⟨rfl, vp_in_nI (show i + 1 < L by omega) (by omega), ?_⟩
  iterate 4 refine jwl_u rfl ?_
  refine jtopl (nI_add i 2) ?_
  refine jwl_u rfl ⟨rfl, vp_in_nI (show i + 2 < L by omega) (by omega), ?_⟩
  refine jwl_u rfl ?_
  refine hr x1 _ (RM_g hw f1 hm) (fun x2 hx2 f2 => ?_)
  refine jwl_u rfl ⟨fun _ => nx _ x2 (RX_g f2 hx1) hx2 hw2, fun c => absurd rfl c⟩
set_option maxRecDepth 20000 in
theorem law_candidate (hz : RX z x) (hm : RM z x) (hw : wX z) (hi : i + 3 ≤ L) (hL : L ≤ 192) (nx : lwN L i xs) : jwl 10 L xs 116 (lwL i) [] x := by
  obtain ⟨hw2, hc, hr⟩ := jP_candidate (a := xs (nI (i + 1)).toNatClampNeg) hw
  refine jwl_u rfl ?_
  iterate 4 refine jwl_u rfl ?_
  refine jtopl (nI_add i 1) ?_
  refine jwl_u rfl ⟨rfl, vp_in_nI (show i + 1 < L by omega) (by omega), ?_⟩
  refine jwl_u rfl ?_
  refine hc x _ hz (fun x1 hx1 f1 => ?_)
  refine jwl_u rfl ?_
  iterate 4 refine jwl_u rfl ?_
  refine jtopl (nI_add i 1) ?_
  refine jwl_u rfl ⟨rfl, vp_in_nI (show i + 1 < L by omega) (by omega), ?_⟩
  refine jwl_u rfl ?_
  refine hr x1 _ (RM_g hw f1 hm) (fun x2 hx2 f2 => ?_)
  refine jwl_u rfl ⟨fun _ => nx _ x2 (RX_g f2 hx1) hx2 hw2, fun c => absurd rfl c⟩
set_option maxRecDepth 20000 in
theorem law_year (hz : RX z x) (hm : RM z x) (hw : wX z) (hi : i + 3 ≤ L) (hL : L ≤ 192) (nx : lwN L i xs) : jwl 10 L xs 133 (lwL i) [] x := by
  obtain ⟨hw2, hc, hr⟩ := jP_year (a := xs (nI (i + 1)).toNatClampNeg) hw
  refine jwl_u rfl ?_
  iterate 4 refine jwl_u rfl ?_
  refine jtopl (nI_add i 1) ?_
  refine jwl_u rfl ⟨rfl, vp_in_nI (show i + 1 < L by omega) (by omega), ?_⟩
  refine jwl_u rfl ?_
  refine hc x _ hz (fun x1 hx1 f1 => ?_)
  refine jwl_u rfl ?_
  iterate 4 refine jwl_u rfl ?_
  refine jtopl (nI_add i 1) ?_
  refine jwl_u rfl ⟨rfl, vp_in_nI (show i + 1 < L by omega) (by omega), ?_⟩
  refine jwl_u rfl ?_
  refine hr x1 _ (RM_g hw f1 hm) (fun x2 hx2 f2 => ?_)
  refine jwl_u rfl ⟨fun _ => nx _ x2 (RX_g f2 hx1) hx2 hw2, fun c => absurd rfl c⟩
set_option maxRecDepth 20000 in
theorem law_teach (hz : RX z x) (hm : RM z x) (hw : wX z) (hi : i + 3 ≤ L) (hL : L ≤ 192) (nx : lwN L i xs) : jwl 10 L xs 150 (lwL i) [] x := by
  obtain ⟨hw2, hc, hr⟩ := jP_teach (a := xs (nI (i + 1)).toNatClampNeg) (b := xs (nI (i + 2)).toNatClampNeg) hw
  refine jwl_u rfl ?_
  iterate 4 refine jwl_u rfl ?_
  refine jtopl (nI_add i 1) ?_
  refine jwl_u rfl ⟨rfl, vp_in_nI (show i + 1 < L by omega) (by omega), ?_⟩
  iterate 4 refine jwl_u rfl ?_
  refine jtopl (nI_add i 2) ?_
  refine jwl_u rfl ⟨rfl, vp_in_nI (show i + 2 < L by omega) (by omega), ?_⟩
  refine jwl_u rfl ?_
  refine hc x _ hz (fun x1 hx1 f1 => ?_)
  refine jwl_u rfl ?_
  iterate 4 refine jwl_u rfl ?_
  refine jtopl (nI_add i 1) ?_
  refine jwl_u rfl ⟨rfl, vp_in_nI (show i + 1 < L by omega) (by omega), ?_⟩
  iterate 4 refine jwl_u rfl ?_
  refine jtopl (nI_add i 2) ?_
  refine jwl_u rfl ⟨rfl, vp_in_nI (show i + 2 < L by omega) (by omega), ?_⟩
  refine jwl_u rfl ?_
  refine hr x1 _ (RM_g hw f1 hm) (fun x2 hx2 f2 => ?_)
  refine jwl_u rfl ⟨fun _ => nx _ x2 (RX_g f2 hx1) hx2 hw2, fun c => absurd rfl c⟩
set_option maxRecDepth 20000 in
theorem law_sign (hz : RX z x) (hm : RM z x) (hw : wX z) (hi : i + 3 ≤ L) (hL : L ≤ 192) (nx : lwN L i xs) : jwl 10 L xs 177 (lwL i) [] x := by
  obtain ⟨hw2, hc, hr⟩ := jP_sign (a := xs (nI (i + 1)).toNatClampNeg) (b := xs (nI (i + 2)).toNatClampNeg) hw
  refine jwl_u rfl ?_
  iterate 4 refine jwl_u rfl ?_
  refine jtopl (nI_add i 1) ?_
  refine jwl_u rfl ⟨rfl, vp_in_nI (show i + 1 < L by omega) (by omega), ?_⟩
  iterate 4 refine jwl_u rfl ?_
  refine jtopl (nI_add i 2) ?_
  refine jwl_u rfl ⟨rfl, vp_in_nI (show i + 2 < L by omega) (by omega), ?_⟩
  refine jwl_u rfl ?_
  refine hc x _ hz (fun x1 hx1 f1 => ?_)
  refine jwl_u rfl ?_
  iterate 4 refine jwl_u rfl ?_
  refine jtopl (nI_add i 1) ?_
  refine jwl_u rfl ⟨rfl, vp_in_nI (show i + 1 < L by omega) (by omega), ?_⟩
  iterate 4 refine jwl_u rfl ?_
  refine jtopl (nI_add i 2) ?_
  refine jwl_u rfl ⟨rfl, vp_in_nI (show i + 2 < L by omega) (by omega), ?_⟩
  refine jwl_u rfl ?_
  refine hr x1 _ (RM_g hw f1 hm) (fun x2 hx2 f2 => ?_)
  refine jwl_u rfl ⟨fun _ => nx _ x2 (RX_g f2 hx1) hx2 hw2, fun c => absurd rfl c⟩
set_option maxRecDepth 20000 in
theorem law_tearPaper (hz : RX z x) (hm : RM z x) (hw : wX z) (hi : i + 3 ≤ L) (hL : L ≤ 192) (nx : lwN L i xs) : jwl 10 L xs 204 (lwL i) [] x := by
  obtain ⟨hw2, hc, hr⟩ := jP_tearPaper  hw
  refine jwl_u rfl ?_
  refine jwl_u rfl ?_
  refine hc x _ hz (fun x1 hx1 f1 => ?_)
  refine jwl_u rfl ?_
  refine jwl_u rfl ?_
  refine hr x1 _ (RM_g hw f1 hm) (fun x2 hx2 f2 => ?_)
  refine jwl_u rfl ⟨fun _ => nx _ x2 (RX_g f2 hx1) hx2 hw2, fun c => absurd rfl c⟩
set_option maxRecDepth 20000 in
theorem law_drift (hz : RX z x) (hm : RM z x) (hw : wX z) (hi : i + 3 ≤ L) (hL : L ≤ 192) (nx : lwN L i xs) : jwl 10 L xs 211 (lwL i) [] x := by
  obtain ⟨hw2, hc, hr⟩ := jP_drift (a := xs (nI (i + 1)).toNatClampNeg) hw
  refine jwl_u rfl ?_
  iterate 4 refine jwl_u rfl ?_
  refine jtopl (nI_add i 1) ?_
  refine jwl_u rfl ⟨rfl, vp_in_nI (show i + 1 < L by omega) (by omega), ?_⟩
  refine jwl_u rfl ?_
  refine hc x _ hz (fun x1 hx1 f1 => ?_)
  refine jwl_u rfl ?_
  iterate 4 refine jwl_u rfl ?_
  refine jtopl (nI_add i 1) ?_
  refine jwl_u rfl ⟨rfl, vp_in_nI (show i + 1 < L by omega) (by omega), ?_⟩
  refine jwl_u rfl ?_
  refine hr x1 _ (RM_g hw f1 hm) (fun x2 hx2 f2 => ?_)
  refine jwl_u rfl ⟨fun _ => nx _ x2 (RX_g f2 hx1) hx2 hw2, fun c => absurd rfl c⟩
set_option maxRecDepth 20000 in
theorem law_undo (hz : RX z x) (hm : RM z x) (hw : wX z) (hi : i + 3 ≤ L) (hL : L ≤ 192) (nx : lwN L i xs) : jwl 10 L xs 228 (lwL i) [] x := by
  obtain ⟨hw2, hc, hr⟩ := jP_undo  hw
  refine jwl_u rfl ?_
  refine jwl_u rfl ?_
  refine hc x _ hz (fun x1 hx1 f1 => ?_)
  refine jwl_u rfl ?_
  refine jwl_u rfl ?_
  refine hr x1 _ (RM_g hw f1 hm) (fun x2 hx2 f2 => ?_)
  refine jwl_u rfl ⟨fun _ => nx _ x2 (RX_g f2 hx1) hx2 hw2, fun c => absurd rfl c⟩
set_option maxRecDepth 20000 in
theorem law_whose (hz : RX z x) (hm : RM z x) (hw : wX z) (hi : i + 3 ≤ L) (hL : L ≤ 192) (nx : lwN L i xs) : jwl 10 L xs 235 (lwL i) [] x := by
  obtain ⟨hw2, hc, hr⟩ := jP_whose (a := xs (nI (i + 1)).toNatClampNeg) hw
  refine jwl_u rfl ?_
  iterate 4 refine jwl_u rfl ?_
  refine jtopl (nI_add i 1) ?_
  refine jwl_u rfl ⟨rfl, vp_in_nI (show i + 1 < L by omega) (by omega), ?_⟩
  refine jwl_u rfl ?_
  refine hc x _ hz (fun x1 hx1 f1 => ?_)
  refine jwl_u rfl ?_
  iterate 4 refine jwl_u rfl ?_
  refine jtopl (nI_add i 1) ?_
  refine jwl_u rfl ⟨rfl, vp_in_nI (show i + 1 < L by omega) (by omega), ?_⟩
  refine jwl_u rfl ?_
  refine hr x1 _ (RM_g hw f1 hm) (fun x2 hx2 f2 => ?_)
  refine jwl_u rfl ⟨fun _ => nx _ x2 (RX_g f2 hx1) hx2 hw2, fun c => absurd rfl c⟩
set_option maxRecDepth 20000 in
theorem law_odds (hz : RX z x) (hm : RM z x) (hw : wX z) (hi : i + 3 ≤ L) (hL : L ≤ 192) (nx : lwN L i xs) : jwl 10 L xs 252 (lwL i) [] x := by
  obtain ⟨hw2, hc, hr⟩ := jP_odds (a := xs (nI (i + 1)).toNatClampNeg) (b := xs (nI (i + 2)).toNatClampNeg) hw
  refine jwl_u rfl ?_
  iterate 4 refine jwl_u rfl ?_
  refine jtopl (nI_add i 1) ?_
  refine jwl_u rfl ⟨rfl, vp_in_nI (show i + 1 < L by omega) (by omega), ?_⟩
  iterate 4 refine jwl_u rfl ?_
  refine jtopl (nI_add i 2) ?_
  refine jwl_u rfl ⟨rfl, vp_in_nI (show i + 2 < L by omega) (by omega), ?_⟩
  refine jwl_u rfl ?_
  refine hc x _ hz (fun x1 hx1 f1 => ?_)
  refine jwl_u rfl ?_
  iterate 4 refine jwl_u rfl ?_
  refine jtopl (nI_add i 1) ?_
  refine jwl_u rfl ⟨rfl, vp_in_nI (show i + 1 < L by omega) (by omega), ?_⟩
  iterate 4 refine jwl_u rfl ?_
  refine jtopl (nI_add i 2) ?_
  refine jwl_u rfl ⟨rfl, vp_in_nI (show i + 2 < L by omega) (by omega), ?_⟩
  refine jwl_u rfl ?_
  refine hr x1 _ (RM_g hw f1 hm) (fun x2 hx2 f2 => ?_)
  refine jwl_u rfl ⟨fun _ => nx _ x2 (RX_g f2 hx1) hx2 hw2, fun c => absurd rfl c⟩
set_option maxRecDepth 20000 in
theorem law_marks (hz : RX z x) (hm : RM z x) (hw : wX z) (hi : i + 3 ≤ L) (hL : L ≤ 192) (nx : lwN L i xs) : jwl 10 L xs 279 (lwL i) [] x := by
  obtain ⟨hw2, hc, hr⟩ := jP_marks (a := xs (nI (i + 1)).toNatClampNeg) hw
  refine jwl_u rfl ?_
  iterate 4 refine jwl_u rfl ?_
  refine jtopl (nI_add i 1) ?_
  refine jwl_u rfl ⟨rfl, vp_in_nI (show i + 1 < L by omega) (by omega), ?_⟩
  refine jwl_u rfl ?_
  refine hc x _ hz (fun x1 hx1 f1 => ?_)
  refine jwl_u rfl ?_
  iterate 4 refine jwl_u rfl ?_
  refine jtopl (nI_add i 1) ?_
  refine jwl_u rfl ⟨rfl, vp_in_nI (show i + 1 < L by omega) (by omega), ?_⟩
  refine jwl_u rfl ?_
  refine hr x1 _ (RM_g hw f1 hm) (fun x2 hx2 f2 => ?_)
  refine jwl_u rfl ⟨fun _ => nx _ x2 (RX_g f2 hx1) hx2 hw2, fun c => absurd rfl c⟩
set_option maxRecDepth 20000 in
theorem law_tree (hz : RX z x) (hm : RM z x) (hw : wX z) (hi : i + 3 ≤ L) (hL : L ≤ 192) (nx : lwN L i xs) : jwl 10 L xs 296 (lwL i) [] x := by
  obtain ⟨hw2, hc, hr⟩ := jP_tree (a := xs (nI (i + 1)).toNatClampNeg) hw
  refine jwl_u rfl ?_
  iterate 4 refine jwl_u rfl ?_
  refine jtopl (nI_add i 1) ?_
  refine jwl_u rfl ⟨rfl, vp_in_nI (show i + 1 < L by omega) (by omega), ?_⟩
  refine jwl_u rfl ?_
  refine hc x _ hz (fun x1 hx1 f1 => ?_)
  refine jwl_u rfl ?_
  iterate 4 refine jwl_u rfl ?_
  refine jtopl (nI_add i 1) ?_
  refine jwl_u rfl ⟨rfl, vp_in_nI (show i + 1 < L by omega) (by omega), ?_⟩
  refine jwl_u rfl ?_
  refine hr x1 _ (RM_g hw f1 hm) (fun x2 hx2 f2 => ?_)
  refine jwl_u rfl ⟨fun _ => nx _ x2 (RX_g f2 hx1) hx2 hw2, fun c => absurd rfl c⟩
set_option maxRecDepth 20000 in
theorem law_kin (hz : RX z x) (hm : RM z x) (hw : wX z) (hi : i + 3 ≤ L) (hL : L ≤ 192) (nx : lwN L i xs) : jwl 10 L xs 313 (lwL i) [] x := by
  obtain ⟨hw2, hc, hr⟩ := jP_kin (a := xs (nI (i + 1)).toNatClampNeg) hw
  refine jwl_u rfl ?_
  iterate 4 refine jwl_u rfl ?_
  refine jtopl (nI_add i 1) ?_
  refine jwl_u rfl ⟨rfl, vp_in_nI (show i + 1 < L by omega) (by omega), ?_⟩
  refine jwl_u rfl ?_
  refine hc x _ hz (fun x1 hx1 f1 => ?_)
  refine jwl_u rfl ?_
  iterate 4 refine jwl_u rfl ?_
  refine jtopl (nI_add i 1) ?_
  refine jwl_u rfl ⟨rfl, vp_in_nI (show i + 1 < L by omega) (by omega), ?_⟩
  refine jwl_u rfl ?_
  refine hr x1 _ (RM_g hw f1 hm) (fun x2 hx2 f2 => ?_)
  refine jwl_u rfl ⟨fun _ => nx _ x2 (RX_g f2 hx1) hx2 hw2, fun c => absurd rfl c⟩
set_option maxRecDepth 20000 in
theorem law_most (hz : RX z x) (hm : RM z x) (hw : wX z) (hi : i + 3 ≤ L) (hL : L ≤ 192) (nx : lwN L i xs) : jwl 10 L xs 330 (lwL i) [] x := by
  obtain ⟨hw2, hc, hr⟩ := jP_most  hw
  refine jwl_u rfl ?_
  refine jwl_u rfl ?_
  refine hc x _ hz (fun x1 hx1 f1 => ?_)
  refine jwl_u rfl ?_
  refine jwl_u rfl ?_
  refine hr x1 _ (RM_g hw f1 hm) (fun x2 hx2 f2 => ?_)
  refine jwl_u rfl ⟨fun _ => nx _ x2 (RX_g f2 hx1) hx2 hw2, fun c => absurd rfl c⟩
set_option maxRecDepth 20000 in
theorem law_clash (hz : RX z x) (hm : RM z x) (hw : wX z) (hi : i + 3 ≤ L) (hL : L ≤ 192) (nx : lwN L i xs) : jwl 10 L xs 337 (lwL i) [] x := by
  obtain ⟨hw2, hc, hr⟩ := jP_clash  hw
  refine jwl_u rfl ?_
  refine jwl_u rfl ?_
  refine hc x _ hz (fun x1 hx1 f1 => ?_)
  refine jwl_u rfl ?_
  refine jwl_u rfl ?_
  refine hr x1 _ (RM_g hw f1 hm) (fun x2 hx2 f2 => ?_)
  refine jwl_u rfl ⟨fun _ => nx _ x2 (RX_g f2 hx1) hx2 hw2, fun c => absurd rfl c⟩
set_option maxRecDepth 20000 in
theorem law_forged (hz : RX z x) (hm : RM z x) (hw : wX z) (hi : i + 3 ≤ L) (hL : L ≤ 192) (nx : lwN L i xs) : jwl 10 L xs 344 (lwL i) [] x := by
  obtain ⟨hw2, hc, hr⟩ := jP_forged  hw
  refine jwl_u rfl ?_
  refine jwl_u rfl ?_
  refine hc x _ hz (fun x1 hx1 f1 => ?_)
  refine jwl_u rfl ?_
  refine jwl_u rfl ?_
  refine hr x1 _ (RM_g hw f1 hm) (fun x2 hx2 f2 => ?_)
  refine jwl_u rfl ⟨fun _ => nx _ x2 (RX_g f2 hx1) hx2 hw2, fun c => absurd rfl c⟩
set_option maxRecDepth 20000 in
theorem law_makers (hz : RX z x) (hm : RM z x) (hw : wX z) (hi : i + 3 ≤ L) (hL : L ≤ 192) (nx : lwN L i xs) : jwl 10 L xs 351 (lwL i) [] x := by
  obtain ⟨hw2, hc, hr⟩ := jP_makers (a := xs (nI (i + 1)).toNatClampNeg) hw
  refine jwl_u rfl ?_
  iterate 4 refine jwl_u rfl ?_
  refine jtopl (nI_add i 1) ?_
  refine jwl_u rfl ⟨rfl, vp_in_nI (show i + 1 < L by omega) (by omega), ?_⟩
  refine jwl_u rfl ?_
  refine hc x _ hz (fun x1 hx1 f1 => ?_)
  refine jwl_u rfl ?_
  iterate 4 refine jwl_u rfl ?_
  refine jtopl (nI_add i 1) ?_
  refine jwl_u rfl ⟨rfl, vp_in_nI (show i + 1 < L by omega) (by omega), ?_⟩
  refine jwl_u rfl ?_
  refine hr x1 _ (RM_g hw f1 hm) (fun x2 hx2 f2 => ?_)
  refine jwl_u rfl ⟨fun _ => nx _ x2 (RX_g f2 hx1) hx2 hw2, fun c => absurd rfl c⟩
set_option maxRecDepth 20000 in
theorem law_heir (hz : RX z x) (hm : RM z x) (hw : wX z) (hi : i + 3 ≤ L) (hL : L ≤ 192) (nx : lwN L i xs) : jwl 10 L xs 368 (lwL i) [] x := by
  obtain ⟨hw2, hc, hr⟩ := jP_heir (a := xs (nI (i + 1)).toNatClampNeg) hw
  refine jwl_u rfl ?_
  iterate 4 refine jwl_u rfl ?_
  refine jtopl (nI_add i 1) ?_
  refine jwl_u rfl ⟨rfl, vp_in_nI (show i + 1 < L by omega) (by omega), ?_⟩
  refine jwl_u rfl ?_
  refine hc x _ hz (fun x1 hx1 f1 => ?_)
  refine jwl_u rfl ?_
  iterate 4 refine jwl_u rfl ?_
  refine jtopl (nI_add i 1) ?_
  refine jwl_u rfl ⟨rfl, vp_in_nI (show i + 1 < L by omega) (by omega), ?_⟩
  refine jwl_u rfl ?_
  refine hr x1 _ (RM_g hw f1 hm) (fun x2 hx2 f2 => ?_)
  refine jwl_u rfl ⟨fun _ => nx _ x2 (RX_g f2 hx1) hx2 hw2, fun c => absurd rfl c⟩
set_option maxRecDepth 20000 in
theorem law_sham (hz : RX z x) (hm : RM z x) (hw : wX z) (hi : i + 3 ≤ L) (hL : L ≤ 192) (nx : lwN L i xs) : jwl 10 L xs 385 (lwL i) [] x := by
  obtain ⟨hw2, hc, hr⟩ := jP_sham (a := xs (nI (i + 1)).toNatClampNeg) hw
  refine jwl_u rfl ?_
  iterate 4 refine jwl_u rfl ?_
  refine jtopl (nI_add i 1) ?_
  refine jwl_u rfl ⟨rfl, vp_in_nI (show i + 1 < L by omega) (by omega), ?_⟩
  refine jwl_u rfl ?_
  refine hc x _ hz (fun x1 hx1 f1 => ?_)
  refine jwl_u rfl ?_
  iterate 4 refine jwl_u rfl ?_
  refine jtopl (nI_add i 1) ?_
  refine jwl_u rfl ⟨rfl, vp_in_nI (show i + 1 < L by omega) (by omega), ?_⟩
  refine jwl_u rfl ?_
  refine hr x1 _ (RM_g hw f1 hm) (fun x2 hx2 f2 => ?_)
  refine jwl_u rfl ⟨fun _ => nx _ x2 (RX_g f2 hx1) hx2 hw2, fun c => absurd rfl c⟩
set_option maxRecDepth 20000 in
theorem law_love (hz : RX z x) (hm : RM z x) (hw : wX z) (hi : i + 3 ≤ L) (hL : L ≤ 192) (nx : lwN L i xs) : jwl 10 L xs 402 (lwL i) [] x := by
  obtain ⟨hw2, hc, hr⟩ := jP_love (a := xs (nI (i + 1)).toNatClampNeg) hw
  refine jwl_u rfl ?_
  iterate 4 refine jwl_u rfl ?_
  refine jtopl (nI_add i 1) ?_
  refine jwl_u rfl ⟨rfl, vp_in_nI (show i + 1 < L by omega) (by omega), ?_⟩
  refine jwl_u rfl ?_
  refine hc x _ hz (fun x1 hx1 f1 => ?_)
  refine jwl_u rfl ?_
  iterate 4 refine jwl_u rfl ?_
  refine jtopl (nI_add i 1) ?_
  refine jwl_u rfl ⟨rfl, vp_in_nI (show i + 1 < L by omega) (by omega), ?_⟩
  refine jwl_u rfl ?_
  refine hr x1 _ (RM_g hw f1 hm) (fun x2 hx2 f2 => ?_)
  refine jwl_u rfl ⟨fun _ => nx _ x2 (RX_g f2 hx1) hx2 hw2, fun c => absurd rfl c⟩
set_option maxRecDepth 20000 in
theorem law_vote (hz : RX z x) (hm : RM z x) (hw : wX z) (hi : i + 3 ≤ L) (hL : L ≤ 192) (nx : lwN L i xs) : jwl 10 L xs 419 (lwL i) [] x := by
  obtain ⟨hw2, hc, hr⟩ := jP_vote (a := xs (nI (i + 1)).toNatClampNeg) hw
  refine jwl_u rfl ?_
  iterate 4 refine jwl_u rfl ?_
  refine jtopl (nI_add i 1) ?_
  refine jwl_u rfl ⟨rfl, vp_in_nI (show i + 1 < L by omega) (by omega), ?_⟩
  refine jwl_u rfl ?_
  refine hc x _ hz (fun x1 hx1 f1 => ?_)
  refine jwl_u rfl ?_
  iterate 4 refine jwl_u rfl ?_
  refine jtopl (nI_add i 1) ?_
  refine jwl_u rfl ⟨rfl, vp_in_nI (show i + 1 < L by omega) (by omega), ?_⟩
  refine jwl_u rfl ?_
  refine hr x1 _ (RM_g hw f1 hm) (fun x2 hx2 f2 => ?_)
  refine jwl_u rfl ⟨fun _ => nx _ x2 (RX_g f2 hx1) hx2 hw2, fun c => absurd rfl c⟩
set_option maxRecDepth 20000 in
theorem law_turned (hz : RX z x) (hm : RM z x) (hw : wX z) (hi : i + 3 ≤ L) (hL : L ≤ 192) (nx : lwN L i xs) : jwl 10 L xs 436 (lwL i) [] x := by
  obtain ⟨hw2, hc, hr⟩ := jP_turned (a := xs (nI (i + 1)).toNatClampNeg) (b := xs (nI (i + 2)).toNatClampNeg) hw
  refine jwl_u rfl ?_
  iterate 4 refine jwl_u rfl ?_
  refine jtopl (nI_add i 1) ?_
  refine jwl_u rfl ⟨rfl, vp_in_nI (show i + 1 < L by omega) (by omega), ?_⟩
  iterate 4 refine jwl_u rfl ?_
  refine jtopl (nI_add i 2) ?_
  refine jwl_u rfl ⟨rfl, vp_in_nI (show i + 2 < L by omega) (by omega), ?_⟩
  refine jwl_u rfl ?_
  refine hc x _ hz (fun x1 hx1 f1 => ?_)
  refine jwl_u rfl ?_
  iterate 4 refine jwl_u rfl ?_
  refine jtopl (nI_add i 1) ?_
  refine jwl_u rfl ⟨rfl, vp_in_nI (show i + 1 < L by omega) (by omega), ?_⟩
  iterate 4 refine jwl_u rfl ?_
  refine jtopl (nI_add i 2) ?_
  refine jwl_u rfl ⟨rfl, vp_in_nI (show i + 2 < L by omega) (by omega), ?_⟩
  refine jwl_u rfl ?_
  refine hr x1 _ (RM_g hw f1 hm) (fun x2 hx2 f2 => ?_)
  refine jwl_u rfl ⟨fun _ => nx _ x2 (RX_g f2 hx1) hx2 hw2, fun c => absurd rfl c⟩
set_option maxRecDepth 20000 in
theorem law_one (hz : RX z x) (hm : RM z x) (hw : wX z) (hi : i + 3 ≤ L) (hL : L ≤ 192) (nx : lwN L i xs) : jwl 10 L xs 463 (lwL i) [] x := by
  obtain ⟨hw2, hc, hr⟩ := jP_one (a := xs (nI (i + 1)).toNatClampNeg) (b := xs (nI (i + 2)).toNatClampNeg) hw
  refine jwl_u rfl ?_
  iterate 4 refine jwl_u rfl ?_
  refine jtopl (nI_add i 1) ?_
  refine jwl_u rfl ⟨rfl, vp_in_nI (show i + 1 < L by omega) (by omega), ?_⟩
  iterate 4 refine jwl_u rfl ?_
  refine jtopl (nI_add i 2) ?_
  refine jwl_u rfl ⟨rfl, vp_in_nI (show i + 2 < L by omega) (by omega), ?_⟩
  refine jwl_u rfl ?_
  refine hc x _ hz (fun x1 hx1 f1 => ?_)
  refine jwl_u rfl ?_
  iterate 4 refine jwl_u rfl ?_
  refine jtopl (nI_add i 1) ?_
  refine jwl_u rfl ⟨rfl, vp_in_nI (show i + 1 < L by omega) (by omega), ?_⟩
  iterate 4 refine jwl_u rfl ?_
  refine jtopl (nI_add i 2) ?_
  refine jwl_u rfl ⟨rfl, vp_in_nI (show i + 2 < L by omega) (by omega), ?_⟩
  refine jwl_u rfl ?_
  refine hr x1 _ (RM_g hw f1 hm) (fun x2 hx2 f2 => ?_)
  refine jwl_u rfl ⟨fun _ => nx _ x2 (RX_g f2 hx1) hx2 hw2, fun c => absurd rfl c⟩
set_option maxRecDepth 20000 in
theorem law_see (hz : RX z x) (hm : RM z x) (hw : wX z) (hi : i + 3 ≤ L) (hL : L ≤ 192) (nx : lwN L i xs) : jwl 10 L xs 490 (lwL i) [] x := by
  obtain ⟨hw2, hc, hr⟩ := jP_see (a := xs (nI (i + 1)).toNatClampNeg) hw
  refine jwl_u rfl ?_
  iterate 4 refine jwl_u rfl ?_
  refine jtopl (nI_add i 1) ?_
  refine jwl_u rfl ⟨rfl, vp_in_nI (show i + 1 < L by omega) (by omega), ?_⟩
  refine jwl_u rfl ?_
  refine hc x _ hz (fun x1 hx1 f1 => ?_)
  refine jwl_u rfl ?_
  iterate 4 refine jwl_u rfl ?_
  refine jtopl (nI_add i 1) ?_
  refine jwl_u rfl ⟨rfl, vp_in_nI (show i + 1 < L by omega) (by omega), ?_⟩
  refine jwl_u rfl ?_
  refine hr x1 _ (RM_g hw f1 hm) (fun x2 hx2 f2 => ?_)
  refine jwl_u rfl ⟨fun _ => nx _ x2 (RX_g f2 hx1) hx2 hw2, fun c => absurd rfl c⟩
set_option maxRecDepth 20000 in
theorem law_madeBy (hz : RX z x) (hm : RM z x) (hw : wX z) (hi : i + 3 ≤ L) (hL : L ≤ 192) (nx : lwN L i xs) : jwl 10 L xs 507 (lwL i) [] x := by
  obtain ⟨hw2, hc, hr⟩ := jP_madeBy  hw
  refine jwl_u rfl ?_
  refine jwl_u rfl ?_
  refine hc x _ hz (fun x1 hx1 f1 => ?_)
  refine jwl_u rfl ?_
  refine jwl_u rfl ?_
  refine hr x1 _ (RM_g hw f1 hm) (fun x2 hx2 f2 => ?_)
  refine jwl_u rfl ⟨fun _ => nx _ x2 (RX_g f2 hx1) hx2 hw2, fun c => absurd rfl c⟩
set_option maxRecDepth 20000 in
theorem law_lookAt (hz : RX z x) (hm : RM z x) (hw : wX z) (hi : i + 3 ≤ L) (hL : L ≤ 192) (nx : lwN L i xs) : jwl 10 L xs 514 (lwL i) [] x := by
  obtain ⟨hw2, hc, hr⟩ := jP_lookAt  hw
  refine jwl_u rfl ?_
  refine jwl_u rfl ?_
  refine hc x _ hz (fun x1 hx1 f1 => ?_)
  refine jwl_u rfl ?_
  refine jwl_u rfl ?_
  refine hr x1 _ (RM_g hw f1 hm) (fun x2 hx2 f2 => ?_)
  refine jwl_u rfl ⟨fun _ => nx _ x2 (RX_g f2 hx1) hx2 hw2, fun c => absurd rfl c⟩
set_option maxRecDepth 20000 in
theorem law_write (hz : RX z x) (hm : RM z x) (hw : wX z) (hi : i + 3 ≤ L) (hL : L ≤ 192) (nx : lwN L i xs) : jwl 10 L xs 521 (lwL i) [] x := by
  obtain ⟨hw2, hc, hr⟩ := jP_write (a := xs (nI (i + 1)).toNatClampNeg) (b := xs (nI (i + 2)).toNatClampNeg) hw
  refine jwl_u rfl ?_
  iterate 4 refine jwl_u rfl ?_
  refine jtopl (nI_add i 1) ?_
  refine jwl_u rfl ⟨rfl, vp_in_nI (show i + 1 < L by omega) (by omega), ?_⟩
  iterate 4 refine jwl_u rfl ?_
  refine jtopl (nI_add i 2) ?_
  refine jwl_u rfl ⟨rfl, vp_in_nI (show i + 2 < L by omega) (by omega), ?_⟩
  refine jwl_u rfl ?_
  refine hc x _ hz (fun x1 hx1 f1 => ?_)
  refine jwl_u rfl ?_
  iterate 4 refine jwl_u rfl ?_
  refine jtopl (nI_add i 1) ?_
  refine jwl_u rfl ⟨rfl, vp_in_nI (show i + 1 < L by omega) (by omega), ?_⟩
  iterate 4 refine jwl_u rfl ?_
  refine jtopl (nI_add i 2) ?_
  refine jwl_u rfl ⟨rfl, vp_in_nI (show i + 2 < L by omega) (by omega), ?_⟩
  refine jwl_u rfl ?_
  refine hr x1 _ (RM_g hw f1 hm) (fun x2 hx2 f2 => ?_)
  refine jwl_u rfl ⟨fun _ => nx _ x2 (RX_g f2 hx1) hx2 hw2, fun c => absurd rfl c⟩
set_option maxRecDepth 20000 in
theorem law_tear (hz : RX z x) (hm : RM z x) (hw : wX z) (hi : i + 3 ≤ L) (hL : L ≤ 192) (nx : lwN L i xs) : jwl 10 L xs 548 (lwL i) [] x := by
  obtain ⟨hw2, hc, hr⟩ := jP_tear  hw
  refine jwl_u rfl ?_
  refine jwl_u rfl ?_
  refine hc x _ hz (fun x1 hx1 f1 => ?_)
  refine jwl_u rfl ?_
  refine jwl_u rfl ?_
  refine hr x1 _ (RM_g hw f1 hm) (fun x2 hx2 f2 => ?_)
  refine jwl_u rfl ⟨fun _ => nx _ x2 (RX_g f2 hx1) hx2 hw2, fun c => absurd rfl c⟩
set_option maxRecDepth 20000 in
theorem law_judge (hz : RX z x) (hm : RM z x) (hw : wX z) (hi : i + 3 ≤ L) (hL : L ≤ 192) (nx : lwN L i xs) : jwl 10 L xs 555 (lwL i) [] x := by
  obtain ⟨hw2, hc, hr⟩ := jP_judge  hw
  refine jwl_u rfl ?_
  refine jwl_u rfl ?_
  refine hc x _ hz (fun x1 hx1 f1 => ?_)
  refine jwl_u rfl ?_
  refine jwl_u rfl ?_
  refine hr x1 _ (RM_g hw f1 hm) (fun x2 hx2 f2 => ?_)
  refine jwl_u rfl ⟨fun _ => nx _ x2 (RX_g f2 hx1) hx2 hw2, fun c => absurd rfl c⟩
set_option maxRecDepth 20000 in
theorem law_seed (hz : RX z x) (hm : RM z x) (hw : wX z) (hi : i + 3 ≤ L) (hL : L ≤ 192) (nx : lwN L i xs) : jwl 10 L xs 562 (lwL i) [] x := by
  obtain ⟨hw2, hc, hr⟩ := jP_seed (a := xs (nI (i + 1)).toNatClampNeg) hw
  refine jwl_u rfl ?_
  iterate 4 refine jwl_u rfl ?_
  refine jtopl (nI_add i 1) ?_
  refine jwl_u rfl ⟨rfl, vp_in_nI (show i + 1 < L by omega) (by omega), ?_⟩
  refine jwl_u rfl ?_
  refine hc x _ hz (fun x1 hx1 f1 => ?_)
  refine jwl_u rfl ?_
  iterate 4 refine jwl_u rfl ?_
  refine jtopl (nI_add i 1) ?_
  refine jwl_u rfl ⟨rfl, vp_in_nI (show i + 1 < L by omega) (by omega), ?_⟩
  refine jwl_u rfl ?_
  refine hr x1 _ (RM_g hw f1 hm) (fun x2 hx2 f2 => ?_)
  refine jwl_u rfl ⟨fun _ => nx _ x2 (RX_g f2 hx1) hx2 hw2, fun c => absurd rfl c⟩
set_option maxRecDepth 20000 in
theorem law_keep (hz : RX z x) (hm : RM z x) (hw : wX z) (hi : i + 3 ≤ L) (hL : L ≤ 192) (nx : lwN L i xs) : jwl 10 L xs 579 (lwL i) [] x := by
  obtain ⟨hw2, hc, hr⟩ := jP_keep (a := xs (nI (i + 1)).toNatClampNeg) hw
  refine jwl_u rfl ?_
  iterate 4 refine jwl_u rfl ?_
  refine jtopl (nI_add i 1) ?_
  refine jwl_u rfl ⟨rfl, vp_in_nI (show i + 1 < L by omega) (by omega), ?_⟩
  refine jwl_u rfl ?_
  refine hc x _ hz (fun x1 hx1 f1 => ?_)
  refine jwl_u rfl ?_
  iterate 4 refine jwl_u rfl ?_
  refine jtopl (nI_add i 1) ?_
  refine jwl_u rfl ⟨rfl, vp_in_nI (show i + 1 < L by omega) (by omega), ?_⟩
  refine jwl_u rfl ?_
  refine hr x1 _ (RM_g hw f1 hm) (fun x2 hx2 f2 => ?_)
  refine jwl_u rfl ⟨fun _ => nx _ x2 (RX_g f2 hx1) hx2 hw2, fun c => absurd rfl c⟩
set_option maxRecDepth 20000 in
theorem law_goBack (hz : RX z x) (hm : RM z x) (hw : wX z) (hi : i + 3 ≤ L) (hL : L ≤ 192) (nx : lwN L i xs) : jwl 10 L xs 596 (lwL i) [] x := by
  obtain ⟨hw2, hc, hr⟩ := jP_goBack (a := xs (nI (i + 1)).toNatClampNeg) hw
  refine jwl_u rfl ?_
  iterate 4 refine jwl_u rfl ?_
  refine jtopl (nI_add i 1) ?_
  refine jwl_u rfl ⟨rfl, vp_in_nI (show i + 1 < L by omega) (by omega), ?_⟩
  refine jwl_u rfl ?_
  refine hc x _ hz (fun x1 hx1 f1 => ?_)
  refine jwl_u rfl ?_
  iterate 4 refine jwl_u rfl ?_
  refine jtopl (nI_add i 1) ?_
  refine jwl_u rfl ⟨rfl, vp_in_nI (show i + 1 < L by omega) (by omega), ?_⟩
  refine jwl_u rfl ?_
  refine hr x1 _ (RM_g hw f1 hm) (fun x2 hx2 f2 => ?_)
  refine jwl_u rfl ⟨fun _ => nx _ x2 (RX_g f2 hx1) hx2 hw2, fun c => absurd rfl c⟩
set_option maxRecDepth 20000 in
theorem law_sw (hz : RX z x) (hm : RM z x) (hw : wX z) (hi : i + 3 ≤ L) (hL : L ≤ 192) (nx : lwN L i xs) : ∀ j, j < 37 → jwl 10 L xs ([613, 14, 31, 38, 45, 62, 89, 116, 133, 150, 177, 204, 211, 228, 235, 252, 279, 296, 313, 330, 337, 344, 351, 368, 385, 402, 419, 436, 463, 490, 507, 514, 521, 548, 555, 562, 579, 596].getD (j + 1) 0) (lwL i) [] x := by
  intro j hj
  match j, hj with
  | 0, _ => exact law_feed hz hm hw hi hL nx
  | 1, _ => exact law_clan hz hm hw hi hL nx
  | 2, _ => exact law_fault hz hm hw hi hL nx
  | 3, _ => exact law_told hz hm hw hi hL nx
  | 4, _ => exact law_person hz hm hw hi hL nx
  | 5, _ => exact law_paper hz hm hw hi hL nx
  | 6, _ => exact law_candidate hz hm hw hi hL nx
  | 7, _ => exact law_year hz hm hw hi hL nx
  | 8, _ => exact law_teach hz hm hw hi hL nx
  | 9, _ => exact law_sign hz hm hw hi hL nx
  | 10, _ => exact law_tearPaper hz hm hw hi hL nx
  | 11, _ => exact law_drift hz hm hw hi hL nx
  | 12, _ => exact law_undo hz hm hw hi hL nx
  | 13, _ => exact law_whose hz hm hw hi hL nx
  | 14, _ => exact law_odds hz hm hw hi hL nx
  | 15, _ => exact law_marks hz hm hw hi hL nx
  | 16, _ => exact law_tree hz hm hw hi hL nx
  | 17, _ => exact law_kin hz hm hw hi hL nx
  | 18, _ => exact law_most hz hm hw hi hL nx
  | 19, _ => exact law_clash hz hm hw hi hL nx
  | 20, _ => exact law_forged hz hm hw hi hL nx
  | 21, _ => exact law_makers hz hm hw hi hL nx
  | 22, _ => exact law_heir hz hm hw hi hL nx
  | 23, _ => exact law_sham hz hm hw hi hL nx
  | 24, _ => exact law_love hz hm hw hi hL nx
  | 25, _ => exact law_vote hz hm hw hi hL nx
  | 26, _ => exact law_turned hz hm hw hi hL nx
  | 27, _ => exact law_one hz hm hw hi hL nx
  | 28, _ => exact law_see hz hm hw hi hL nx
  | 29, _ => exact law_madeBy hz hm hw hi hL nx
  | 30, _ => exact law_lookAt hz hm hw hi hL nx
  | 31, _ => exact law_write hz hm hw hi hL nx
  | 32, _ => exact law_tear hz hm hw hi hL nx
  | 33, _ => exact law_judge hz hm hw hi hL nx
  | 34, _ => exact law_seed hz hm hw hi hL nx
  | 35, _ => exact law_keep hz hm hw hi hL nx
  | 36, _ => exact law_goBack hz hm hw hi hL nx
  | j + 37, hj => exact absurd hj (by omega)
set_option maxRecDepth 20000 in
theorem law_loop (hL : L ≤ 192) : ∀ n i z x, L ≤ i + n → i ≤ 195 → RX z x → RM z x → wX z → jwl 10 L xs 2 (lwL i) [] x := by
  have key : ∀ i : Nat, i ≤ 195 → (nI L - nI 3 < nI i ↔ L < i + 3) := by
    intro i hi
    rw [Int32.lt_iff_toInt_lt, pk_sub_toInt (by omega) (by decide), nI_toInt (by omega)]
    omega
  have fin : ∀ i x, jwl 10 L xs 615 (lwL i) [] x := by
    intro i x
    iterate 2 refine jwl_u rfl ?_
    exact ⟨fun _ => Or.inr rfl, rfl⟩
  intro n
  induction n with
  | zero =>
    intro i z x h1 h2 hz hm hw
    iterate 2 refine jwl_u rfl ?_
    refine jwl_u rfl ⟨rfl, ?_⟩
    iterate 2 refine jwl_u rfl ?_
    refine jwl_u rfl ⟨fun _ => fin i x, fun (c : ¬ nI L - nI 3 < nI i) => absurd ((key i h2).mpr (by omega)) c⟩
  | succ n ih =>
    intro i z x h1 h2 hz hm hw
    iterate 2 refine jwl_u rfl ?_
    refine jwl_u rfl ⟨rfl, ?_⟩
    iterate 2 refine jwl_u rfl ?_
    refine jwl_u rfl ⟨fun _ => fin i x, fun (c : ¬ nI L - nI 3 < nI i) => ?_⟩
    rw [key i h2] at c
    have nx : lwN L i xs := by
      intro z' x' hz' hm' hw'
      refine jwl_u rfl ?_
      have := ih (i + 3) z' x' (by omega) (by omega) hz' hm' hw'
      refine jwl_u rfl ?_
      unfold lwL at this
      rw [show nI (i + 3) = nI i + nI 3 from (nI_add i 3).symm] at this
      exact this
    iterate 2 refine jwl_u rfl ?_
    refine jwl_u rfl ⟨rfl, vp_in_nI (show i < L by omega) (by omega), ?_⟩
    iterate 2 refine jwl_u rfl ?_
    refine jwl_u rfl (jsw_all (nx z x hz hm hw) (fun q hq => ?_))
    obtain ⟨j, hj, rfl⟩ := List.mem_map.mp hq
    exact law_sw hz hm hw (by omega) hL nx j (List.mem_range.mp hj)
end LC
