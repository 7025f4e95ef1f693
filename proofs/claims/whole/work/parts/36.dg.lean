/-! the checksum -/
def dS (g : Nat → Int32) : Nat → Nat → Int64 → Int64
  | 0, _, y => y
  | d + 1, i, y => dS g d (i + 1) (y * 31 + (g i).toInt64)
def gF (g : Nat → Int64 → Int64) : Nat → Nat → Int64 → Int64
  | 0, _, y => y
  | d + 1, i, y => gF g d (i + 1) (g i y)
def dB (α : Mem) (nt b : Nat) (y : Int64) : Int64 := dS (fun s => if s = 0 then aLeft α b 5 6 else aLeft α b 7 8) 2 0 (dS (aBellT α nt b) 9 0 y)
def dR (α : Mem) (r : Nat) (y : Int64) : Int64 := dS (aTold α r) 5 0 y
def dO (α : Mem) (t : Nat) (y : Int64) : Int64 := dS (fun i => aHeard α t (10 * (i + 1))) 9 0 (dS (aAbout α t) 9 0 y)
def dAll (α : Mem) (nr nt : Nat) : Int64 := gF (dO α) nt 0 (gF (dR α) nr 0 (gF (dB α nt) 4 0 (dS (aCount α nr nt) 9 0 1249)))
theorem D_6 {R nt nr : Nat} {σ α : Mem} (hR : R ≤ 12) (hn : nt ≤ 21) (h : CE true 1 σ α R nt) (hW1 : α 24 0 = nI nr) (hW2 : α 25 0 = nI nt) (hnr : nr ≤ R) {K : Int64 → Int32 → Option Int64} : ∀ d i fuel y, i + d = 9 → d < fuel → lp_X5_digest_6 σ 0 K fuel y (nI i) = K (dS (aCount α nr nt) d i y) (nI 9)
  | 0, i, fuel + 1, y, hi, _ => by
    have e : i = 9 := by omega
    subst e
    unfold lp_X5_digest_6
    rw [if_pos (show (9 : Int32) ≤ nI 9 by decide)]
    rfl
  | d + 1, i, fuel + 1, y, hi, hf => by
    have hiN : i < 9 := by omega
    unfold lp_X5_digest_6
    rw [if_neg (show ¬ (9 : Int32) ≤ nI i from nI_ge (b := 9) hiN (by omega)), rf_00, b1_so, ck_T (Or.inl rfl : isT 1), gd_tr, C_count (Or.inl rfl : isT 1) hR hn h hW1 hnr hW2 hiN, b1_so, nm_so, nm_so, nI_1, D_6 hR hn h hW1 hW2 hnr d (i + 1) fuel _ (by omega) (by omega)]
    rfl
theorem D_wb6 {R nt nr : Nat} {σ α : Mem} (hR : R ≤ 12) (hn : nt ≤ 21) (h : CE true 1 σ α R nt) (hW1 : α 24 0 = nI nr) (hW2 : α 25 0 = nI nt) (hnr : nr ≤ R) {b : Nat} (hb : b < 4) {K : Int64 → Int32 → Option Int64} : ∀ d i fuel y, i + d = 9 → d < fuel → lp_X5_withBell_6 σ 0 (nI b) K fuel y (nI i) = K (dS (aBellT α nt b) d i y) (nI 9)
  | 0, i, fuel + 1, y, hi, _ => by
    have e : i = 9 := by omega
    subst e
    unfold lp_X5_withBell_6
    rw [if_pos (show (9 : Int32) ≤ nI 9 by decide)]
    rfl
  | d + 1, i, fuel + 1, y, hi, hf => by
    have hiN : i < 9 := by omega
    unfold lp_X5_withBell_6
    rw [if_neg (show ¬ (9 : Int32) ≤ nI i from nI_ge (b := 9) hiN (by omega)), rf_00, b1_so, ck_T (Or.inl rfl : isT 1), gd_tr, C_bellT (Or.inl rfl : isT 1) hn h hW2 hb hiN, b1_so, nm_so, nm_so, nI_1, D_wb6 hR hn h hW1 hW2 hnr hb d (i + 1) fuel _ (by omega) (by omega)]
    rfl
theorem C_leftS {T R nt b s : Nat} {σ α : Mem} (hT : isT T) (h : CE true T σ α R nt) (hb : b < 4) (hw : okW α b) (hs : s < 2) : fn_X0_strokesLeft σ (oB T b) (nI s) = some (if s = 0 then aLeft α b 5 6 else aLeft α b 7 8) := by
  rcases (show s = 0 ∨ s = 1 by omega) with rfl | rfl
  · exact C_left0 hT h hb hw
  · exact C_left1 hT h hb hw
theorem R_leftS {k : Bool} {S R nt b s : Nat} {σ α : Mem} (eS : S = 148) (h : RE k S σ α R nt) (hb : b < 4) (hW : WB α b) (hs : s < 2) : fn_X7_lastsOn σ 141 (nI b) (nI s) = some (if s = 0 then aLeft α b 5 6 else aLeft α b 7 8) := by
  rcases (show s = 0 ∨ s = 1 by omega) with rfl | rfl
  · exact R_left0 eS h hb hW.1 hW.2.2.1
  · exact R_left1 eS h hb hW.1 hW.2.2.2
theorem D_wb42 {R nt nr : Nat} {σ α : Mem} (hR : R ≤ 12) (hn : nt ≤ 21) (h : CE true 1 σ α R nt) (hW1 : α 24 0 = nI nr) (hW2 : α 25 0 = nI nt) (hnr : nr ≤ R) {b : Nat} (hb : b < 4) (hw : okW α b) {K : Int64 → Int32 → Option Int64} : ∀ d i fuel y, i + d = 2 → d < fuel → lp_X5_withBell_42 σ 0 (nI b) K fuel y (nI i) = K (dS (fun s => if s = 0 then aLeft α b 5 6 else aLeft α b 7 8) d i y) (nI 2)
  | 0, i, fuel + 1, y, hi, _ => by
    have e : i = 2 := by omega
    subst e
    unfold lp_X5_withBell_42
    rw [if_pos (show (2 : Int32) ≤ nI 2 by decide)]
    rfl
  | d + 1, i, fuel + 1, y, hi, hf => by
    have hiN : i < 2 := by omega
    unfold lp_X5_withBell_42
    rw [if_neg (show ¬ (2 : Int32) ≤ nI i from nI_ge (b := 2) hiN (by omega)), rf_00, b1_so, rf_T0 (Or.inl rfl : isT 1), b1_so, ea_B (Or.inl rfl : isT 1) hb, b1_so, ck_B (Or.inl rfl : isT 1) hb, gd_tr, C_leftS (Or.inl rfl : isT 1) h hb hw hiN, b1_so, nm_so, nm_so, nI_1, D_wb42 hR hn h hW1 hW2 hnr hb hw d (i + 1) fuel _ (by omega) (by omega)]
    rfl
theorem D_wb {R nt nr : Nat} {σ α : Mem} (hR : R ≤ 12) (hn : nt ≤ 21) (h : CE true 1 σ α R nt) (hW1 : α 24 0 = nI nr) (hW2 : α 25 0 = nI nt) (hnr : nr ≤ R) {b : Nat} (hb : b < 4) (hw : okW α b) (y : Int64) : fn_X5_withBell σ 0 y (nI b) = some (dB α nt b y) := by
  unfold fn_X5_withBell dB
  have e1 := D_wb6 hR hn h hW1 hW2 hnr hb (K := fun x5 x6 => (lp_X5_withBell_42 σ 0 (nI b) (fun x13 x14 => (some x13)) 30 x5 0)) 9 0 30 y (by omega) (by omega)
  have e2 := D_wb42 hR hn h hW1 hW2 hnr hb hw (K := fun x13 x14 => (some x13)) 2 0 30 (dS (aBellT α nt b) 9 0 y) (by omega) (by omega)
  exact e1.trans e2
theorem D_36 {R nt nr : Nat} {σ α : Mem} (hR : R ≤ 12) (hn : nt ≤ 21) (h : CE true 1 σ α R nt) (hW1 : α 24 0 = nI nr) (hW2 : α 25 0 = nI nt) (hnr : nr ≤ R) (hw : ∀ b, b < 4 → okW α b) {K : Int64 → Int32 → Option Int64} : ∀ d i fuel y, i + d = 4 → d < fuel → lp_X5_digest_36 σ 0 K fuel y (nI i) = K (gF (dB α nt) d i y) (nI 4)
  | 0, i, fuel + 1, y, hi, _ => by
    have e : i = 4 := by omega
    subst e
    unfold lp_X5_digest_36
    rw [if_pos (show (4 : Int32) ≤ nI 4 by decide)]
    rfl
  | d + 1, i, fuel + 1, y, hi, hf => by
    have hiN : i < 4 := by omega
    unfold lp_X5_digest_36
    rw [if_neg (show ¬ (4 : Int32) ≤ nI i from nI_ge (b := 4) hiN (by omega)), show ck 0 5 = true by decide, gd_tr, D_wb hR hn h hW1 hW2 hnr hiN (hw i hiN), b1_so, nm_so, nI_1, D_36 hR hn h hW1 hW2 hnr hw d (i + 1) fuel _ (by omega) (by omega)]
    rfl
theorem D_wr5 {R nt nr : Nat} {σ α : Mem} (hR : R ≤ 12) (hn : nt ≤ 21) (h : CE true 1 σ α R nt) (hW1 : α 24 0 = nI nr) (hW2 : α 25 0 = nI nt) (hnr : nr ≤ R) {r : Nat} (hr : r < R) {K : Int64 → Int32 → Option Int64} : ∀ d i fuel y, i + d = 5 → d < fuel → lp_X5_withRinger_5 σ (oR 1 r) K fuel y (nI i) = K (dS (aTold α r) d i y) (nI 5)
  | 0, i, fuel + 1, y, hi, _ => by
    have e : i = 5 := by omega
    subst e
    unfold lp_X5_withRinger_5
    rw [if_pos (show (5 : Int32) ≤ nI 5 by decide)]
    rfl
  | d + 1, i, fuel + 1, y, hi, hf => by
    have hiN : i < 5 := by omega
    unfold lp_X5_withRinger_5
    rw [if_neg (show ¬ (5 : Int32) ≤ nI i from nI_ge (b := 5) hiN (by omega)), ck_R (Or.inl rfl : isT 1) (Nat.lt_of_lt_of_le hr hR), gd_tr, C_told (Or.inl rfl : isT 1) hR h hr hiN, b1_so, nm_so, nm_so, nI_1, D_wr5 hR hn h hW1 hW2 hnr hr d (i + 1) fuel _ (by omega) (by omega)]
    rfl
theorem D_wr {R nt nr : Nat} {σ α : Mem} (hR : R ≤ 12) (hn : nt ≤ 21) (h : CE true 1 σ α R nt) (hW1 : α 24 0 = nI nr) (hW2 : α 25 0 = nI nt) (hnr : nr ≤ R) {r : Nat} (hr : r < R) (y : Int64) : fn_X5_withRinger σ y (oR 1 r) = some (dR α r y) := D_wr5 hR hn h hW1 hW2 hnr hr (K := fun x4 x5 => (some x4)) 5 0 30 y (by omega) (by omega)
theorem D_56 {R nt nr : Nat} {σ α : Mem} (hR : R ≤ 12) (hn : nt ≤ 21) (h : CE true 1 σ α R nt) (hW1 : α 24 0 = nI nr) (hW2 : α 25 0 = nI nt) (hnr : nr ≤ R) {K : Int64 → Int32 → Option Int64} : ∀ d i fuel y, i + d = nr → d < fuel → lp_X5_digest_56 σ 0 K fuel y (nI i) = K (gF (dR α) d i y) (nI nr)
  | 0, i, fuel + 1, y, hi, _ => by
    have e : i = nr := by omega
    rw [e]
    unfold lp_X5_digest_56
    rw [rf_00, b1_so, ck_T (Or.inl rfl : isT 1), gd_tr, CE_24 h, hW1, if_pos (nI_le (Nat.le_refl _) (by omega))]
    rfl
  | d + 1, i, fuel + 1, y, hi, hf => by
    have hiN : i < nr := by omega
    unfold lp_X5_digest_56
    rw [rf_00, b1_so, ck_T (Or.inl rfl : isT 1), gd_tr, CE_24 h, hW1, if_neg (nI_ge hiN (by omega)), b1_so, rf_T1 (Or.inl rfl : isT 1), b1_so, ea_R (Or.inl rfl : isT 1) (show i < 12 by omega), b1_so, D_wr hR hn h hW1 hW2 hnr (show i < R by omega), b1_so, nm_so, nI_1, D_56 hR hn h hW1 hW2 hnr d (i + 1) fuel _ (by omega) (by omega)]
    rfl
theorem D_wt5 {R nt nr : Nat} {σ α : Mem} (hR : R ≤ 12) (hn : nt ≤ 21) (h : CE true 1 σ α R nt) (hW1 : α 24 0 = nI nr) (hW2 : α 25 0 = nI nt) (hnr : nr ≤ R) {t : Nat} (ht : t < nt) {K : Int64 → Int32 → Option Int64} : ∀ d i fuel y, i + d = 9 → d < fuel → lp_X5_withToll_5 σ (oO 1 t) K fuel y (nI i) = K (dS (aAbout α t) d i y) (nI 9)
  | 0, i, fuel + 1, y, hi, _ => by
    have e : i = 9 := by omega
    subst e
    unfold lp_X5_withToll_5
    rw [if_pos (show (9 : Int32) ≤ nI 9 by decide)]
    rfl
  | d + 1, i, fuel + 1, y, hi, hf => by
    have hiN : i < 9 := by omega
    unfold lp_X5_withToll_5
    rw [if_neg (show ¬ (9 : Int32) ≤ nI i from nI_ge (b := 9) hiN (by omega)), ck_O (Or.inl rfl : isT 1) (Nat.lt_of_lt_of_le ht hn), gd_tr, C_about (Or.inl rfl : isT 1) hn h ht hiN, b1_so, nm_so, nm_so, nI_1, D_wt5 hR hn h hW1 hW2 hnr ht d (i + 1) fuel _ (by omega) (by omega)]
    rfl
theorem nI_10 (i : Nat) : nI (10 * (i + 1)) + 10 = nI (10 * (i + 1 + 1)) := by
  rw [show (10 : Int32) = nI 10 from rfl, nI_add, show 10 * (i + 1) + 10 = 10 * (i + 1 + 1) by omega]
theorem D_wt36 {R nt nr : Nat} {σ α : Mem} (hR : R ≤ 12) (hn : nt ≤ 21) (h : CE true 1 σ α R nt) (hW1 : α 24 0 = nI nr) (hW2 : α 25 0 = nI nt) (hnr : nr ≤ R) {t : Nat} (ht : t < nt) {K : Int64 → Int32 → Option Int64} : ∀ d i fuel y, i + d = 9 → d < fuel → lp_X5_withToll_36 σ (oO 1 t) K fuel y (nI (10 * (i + 1))) = K (dS (fun i => aHeard α t (10 * (i + 1))) d i y) (nI (10 * (9 + 1)))
  | 0, i, fuel + 1, y, hi, _ => by
    have e : i = 9 := by omega
    subst e
    unfold lp_X5_withToll_36
    rw [if_pos (show (90 : Int32) < nI (10 * (9 + 1)) by decide)]
    rfl
  | d + 1, i, fuel + 1, y, hi, hf => by
    have hiN : i < 9 := by omega
    unfold lp_X5_withToll_36
    rw [if_neg (show ¬ (90 : Int32) < nI (10 * (i + 1)) from nI_nlt (a := 90) (b := 10 * (i + 1)) (by omega) (by omega)), ck_O (Or.inl rfl : isT 1) (Nat.lt_of_lt_of_le ht hn), gd_tr, C_heard hn h (Nat.lt_of_lt_of_le ht hn) (show 10 * (i + 1) ≤ 90 by omega), b1_so, nm_so, nm_so, nI_10, D_wt36 hR hn h hW1 hW2 hnr ht d (i + 1) fuel _ (by omega) (by omega)]
    rfl
theorem D_wt {R nt nr : Nat} {σ α : Mem} (hR : R ≤ 12) (hn : nt ≤ 21) (h : CE true 1 σ α R nt) (hW1 : α 24 0 = nI nr) (hW2 : α 25 0 = nI nt) (hnr : nr ≤ R) {t : Nat} (ht : t < nt) (y : Int64) : fn_X5_withToll σ y (oO 1 t) = some (dO α t y) := by
  unfold fn_X5_withToll dO
  have e1 := D_wt5 hR hn h hW1 hW2 hnr ht (K := fun x4 x5 => (lp_X5_withToll_36 σ (oO 1 t) (fun x9 x10 => (some x9)) 30 x4 10)) 9 0 30 y (by omega) (by omega)
  have e2 := D_wt36 hR hn h hW1 hW2 hnr ht (K := fun x9 x10 => (some x9)) 9 0 30 (dS (aAbout α t) 9 0 y) (by omega) (by omega)
  exact e1.trans e2
theorem D_89 {R nt nr : Nat} {σ α : Mem} (hR : R ≤ 12) (hn : nt ≤ 21) (h : CE true 1 σ α R nt) (hW1 : α 24 0 = nI nr) (hW2 : α 25 0 = nI nt) (hnr : nr ≤ R) {K : Int64 → Int32 → Option Int64} : ∀ d i fuel y, i + d = nt → d < fuel → lp_X5_digest_89 σ 0 K fuel y (nI i) = K (gF (dO α) d i y) (nI nt)
  | 0, i, fuel + 1, y, hi, _ => by
    have e : i = nt := by omega
    rw [e]
    unfold lp_X5_digest_89
    rw [rf_00, b1_so, ck_T (Or.inl rfl : isT 1), gd_tr, CE_25 h, hW2, if_pos (nI_le (Nat.le_refl _) (by omega))]
    rfl
  | d + 1, i, fuel + 1, y, hi, hf => by
    have hiN : i < nt := by omega
    unfold lp_X5_digest_89
    rw [rf_00, b1_so, ck_T (Or.inl rfl : isT 1), gd_tr, CE_25 h, hW2, if_neg (nI_ge hiN (by omega)), b1_so, rf_T2 (Or.inl rfl : isT 1), b1_so, ea_O (Or.inl rfl : isT 1) (show i < 21 by omega), b1_so, D_wt hR hn h hW1 hW2 hnr hiN, b1_so, nm_so, nI_1, D_89 hR hn h hW1 hW2 hnr d (i + 1) fuel _ (by omega) (by omega)]
    rfl
theorem C_digest {R nt nr : Nat} {σ α : Mem} (hR : R ≤ 12) (hn : nt ≤ 21) (h : CE true 1 σ α R nt) (hW1 : α 24 0 = nI nr) (hW2 : α 25 0 = nI nt) (hnr : nr ≤ R) (hw : ∀ b, b < 4 → okW α b) : fn_X5_digest σ 0 = some (dAll α nr nt) := by
  unfold fn_X5_digest dAll
  have e1 := D_6 hR hn h hW1 hW2 hnr (K := fun x5 x6 => (lp_X5_digest_36 σ 0 (fun x9 x10 => (lp_X5_digest_56 σ 0 (fun x17 x18 => (lp_X5_digest_89 σ 0 (fun x25 x26 => (some x25)) 30 x17 0)) 30 x9 0)) 30 x5 0)) 9 0 30 1249 (by omega) (by omega)
  have e2 := D_36 hR hn h hW1 hW2 hnr hw (K := fun x9 x10 => (lp_X5_digest_56 σ 0 (fun x17 x18 => (lp_X5_digest_89 σ 0 (fun x25 x26 => (some x25)) 30 x17 0)) 30 x9 0)) 4 0 30 (dS (aCount α nr nt) 9 0 1249) (by omega) (by omega)
  have e3 := D_56 hR hn h hW1 hW2 hnr (K := fun x17 x18 => (lp_X5_digest_89 σ 0 (fun x25 x26 => (some x25)) 30 x17 0)) nr 0 30 (gF (dB α nt) 4 0 (dS (aCount α nr nt) 9 0 1249)) (by omega) (by omega)
  have e4 := D_89 hR hn h hW1 hW2 hnr (K := fun x25 x26 => (some x25)) nt 0 30 (gF (dR α) nr 0 (gF (dB α nt) 4 0 (dS (aCount α nr nt) 9 0 1249))) (by omega) (by omega)
  exact e1.trans (e2.trans (e3.trans e4))
theorem E_11 {S nt nr : Nat} {σ α : Mem} (eS : S = 148) (hn : nt ≤ 20) (h : RE true S σ α 12 nt) (hW1 : α 24 0 = nI nr) (hW2 : α 25 0 = nI nt) (hnr : nr ≤ 12) (h3 : σ 141 3 = nI nt) (hD : okD α nt) (hRo : aSum (fun b => if α 2 b = -1 then 0 else 1) 4 0 0 = aRopes α nr) {K : Int64 → Int32 → Option (Int64 × Mem)} : ∀ d i fuel y, i + d = 9 → d < fuel → lp_X7_digest_11 σ 141 K fuel y (nI i) = K (dS (aCount α nr nt) d i y) (nI 9)
  | 0, i, fuel + 1, y, hi, _ => by
    have e : i = 9 := by omega
    subst e
    unfold lp_X7_digest_11
    rw [if_pos (show (8 : Int32) < nI 9 by decide)]
    rfl
  | d + 1, i, fuel + 1, y, hi, hf => by
    have hiN : i < 9 := by omega
    unfold lp_X7_digest_11
    rw [if_neg (show ¬ (8 : Int32) < nI i from nI_nlt (a := 8) (b := i) (by omega) (by omega)), rm9 eS, b1_so, ck_S (Or.inl eS), gd_tr, R_count (Or.inl eS) (show nt ≤ 21 by omega) h hW2 hD hRo hiN, b1_so, nm_so, nm_so, nI_1, E_11 eS hn h hW1 hW2 hnr h3 hD hRo d (i + 1) fuel _ (by omega) (by omega)]
    rfl
theorem E_49 {S nt nr : Nat} {σ α : Mem} (eS : S = 148) (hn : nt ≤ 20) (h : RE true S σ α 12 nt) (hW1 : α 24 0 = nI nr) (hW2 : α 25 0 = nI nt) (hnr : nr ≤ 12) (h3 : σ 141 3 = nI nt) (hD : okD α nt) {b : Nat} (hb : b < 4) (hI : α 23 b = aFirst α nt (nI b)) {K : Int64 → Int32 → Option (Int64 × Mem)} : ∀ d i fuel y, i + d = 9 → d < fuel → lp_X7_digest_49 σ 141 (nI b) K fuel y (nI i) = K (dS (aBellT α nt b) d i y) (nI 9)
  | 0, i, fuel + 1, y, hi, _ => by
    have e : i = 9 := by omega
    subst e
    unfold lp_X7_digest_49
    rw [if_pos (show (8 : Int32) < nI 9 by decide)]
    rfl
  | d + 1, i, fuel + 1, y, hi, hf => by
    have hiN : i < 9 := by omega
    unfold lp_X7_digest_49
    rw [if_neg (show ¬ (8 : Int32) < nI i from nI_nlt (a := 8) (b := i) (by omega) (by omega)), ck_M, gd_tr, R_bellT eS (show nt ≤ 21 by omega) h hW2 h3 hD hI hb hiN, b1_so, nm_so, nm_so, nI_1, E_49 eS hn h hW1 hW2 hnr h3 hD hb hI d (i + 1) fuel _ (by omega) (by omega)]
    rfl
theorem E_80 {S nt nr : Nat} {σ α : Mem} (eS : S = 148) (hn : nt ≤ 20) (h : RE true S σ α 12 nt) (hW1 : α 24 0 = nI nr) (hW2 : α 25 0 = nI nt) (hnr : nr ≤ 12) (h3 : σ 141 3 = nI nt) (hD : okD α nt) {b : Nat} (hb : b < 4) (hB : WB α b) {K : Int64 → Int32 → Option (Int64 × Mem)} : ∀ d i fuel y, i + d = 2 → d < fuel → lp_X7_digest_80 σ 141 (nI b) K fuel y (nI i) = K (dS (fun s => if s = 0 then aLeft α b 5 6 else aLeft α b 7 8) d i y) (nI 2)
  | 0, i, fuel + 1, y, hi, _ => by
    have e : i = 2 := by omega
    subst e
    unfold lp_X7_digest_80
    rw [if_pos (show (2 : Int32) ≤ nI 2 by decide)]
    rfl
  | d + 1, i, fuel + 1, y, hi, hf => by
    have hiN : i < 2 := by omega
    unfold lp_X7_digest_80
    rw [if_neg (show ¬ (2 : Int32) ≤ nI i from nI_ge (b := 2) hiN (by omega)), ck_M, gd_tr, R_leftS eS h hb hB hiN, b1_so, nm_so, nm_so, nI_1, E_80 eS hn h hW1 hW2 hnr h3 hD hb hB d (i + 1) fuel _ (by omega) (by omega)]
    rfl
theorem E_41 {S nt nr : Nat} {σ α : Mem} (eS : S = 148) (hn : nt ≤ 20) (h : RE true S σ α 12 nt) (hW1 : α 24 0 = nI nr) (hW2 : α 25 0 = nI nt) (hnr : nr ≤ 12) (h3 : σ 141 3 = nI nt) (hD : okD α nt) (hB : ∀ b, b < 4 → WB α b) (hI : WI α nt) {K : Int64 → Int32 → Option (Int64 × Mem)} : ∀ d i fuel y, i + d = 4 → d < fuel → lp_X7_digest_41 σ 141 K fuel y (nI i) = K (gF (dB α nt) d i y) (nI 4)
  | 0, i, fuel + 1, y, hi, _ => by
    have e : i = 4 := by omega
    subst e
    unfold lp_X7_digest_41
    rw [if_pos (show (4 : Int32) ≤ nI 4 by decide)]
    rfl
  | d + 1, i, fuel + 1, y, hi, hf => by
    have hiN : i < 4 := by omega
    have e1 := E_49 eS hn h hW1 hW2 hnr h3 hD hiN (hI i hiN) (K := fun x11 x12 => (lp_X7_digest_80 σ 141 (nI i) (fun x16 x17 => nm ((nI i) + 1) (fun x18 => (lp_X7_digest_41 σ 141 K fuel x16 x18))) 3 x11 0)) 9 0 10 y (by omega) (by omega)
    have e2 := E_80 eS hn h hW1 hW2 hnr h3 hD hiN (hB i hiN) (K := fun x16 x17 => nm ((nI i) + 1) (fun x18 => (lp_X7_digest_41 σ 141 K fuel x16 x18))) 2 0 3 (dS (aBellT α nt i) 9 0 y) (by omega) (by omega)
    unfold lp_X7_digest_41
    rw [if_neg (show ¬ (4 : Int32) ≤ nI i from nI_ge (b := 4) hiN (by omega))]
    refine e1.trans (e2.trans ?_)
    rw [nm_so, nI_1]
    exact E_41 eS hn h hW1 hW2 hnr h3 hD hB hI d (i + 1) fuel _ (by omega) (by omega)
theorem E_126 {S nt nr : Nat} {σ α : Mem} (eS : S = 148) (hn : nt ≤ 20) (h : RE true S σ α 12 nt) (hW1 : α 24 0 = nI nr) (hW2 : α 25 0 = nI nt) (hnr : nr ≤ 12) (h3 : σ 141 3 = nI nt) (hD : okD α nt) {r : Nat} (hr : r < nr) (hBR : okBR α r) {K : Int64 → Int32 → Option (Int64 × Mem)} : ∀ d i fuel y, i + d = 5 → d < fuel → lp_X7_digest_126 σ 141 (nI r) K fuel y (nI i) = K (dS (aTold α r) d i y) (nI 5)
  | 0, i, fuel + 1, y, hi, _ => by
    have e : i = 5 := by omega
    subst e
    unfold lp_X7_digest_126
    rw [if_pos (show (4 : Int32) < nI 5 by decide)]
    rfl
  | d + 1, i, fuel + 1, y, hi, hf => by
    have hiN : i < 5 := by omega
    unfold lp_X7_digest_126
    rw [if_neg (show ¬ (4 : Int32) < nI i from nI_nlt (a := 4) (b := i) (by omega) (by omega)), ck_M, gd_tr, R_told eS (Nat.le_refl 12) h (show r < 12 by omega) hBR hiN, b1_so, nm_so, nm_so, nI_1, E_126 eS hn h hW1 hW2 hnr h3 hD hr hBR d (i + 1) fuel _ (by omega) (by omega)]
    rfl
theorem E_115 {S nt nr : Nat} {σ α : Mem} (eS : S = 148) (hn : nt ≤ 20) (h : RE true S σ α 12 nt) (hW1 : α 24 0 = nI nr) (hW2 : α 25 0 = nI nt) (hnr : nr ≤ 12) (h3 : σ 141 3 = nI nt) (hD : okD α nt) (hBR : ∀ r, r < nr → okBR α r) {K : Int64 → Int32 → Option (Int64 × Mem)} : ∀ d i fuel y, i + d = nr → d < fuel → lp_X7_digest_115 σ 141 K fuel y (nI i) = K (gF (dR α) d i y) (nI nr)
  | 0, i, fuel + 1, y, hi, _ => by
    have e : i = nr := by omega
    rw [e]
    unfold lp_X7_digest_115
    rw [ck_M, gd_tr, RE_24 h, hW1, if_pos (nI_le (Nat.le_refl _) (by omega))]
    rfl
  | d + 1, i, fuel + 1, y, hi, hf => by
    have hiN : i < nr := by omega
    have e1 := E_126 eS hn h hW1 hW2 hnr h3 hD hiN (hBR i hiN) (K := fun x24 x25 => nm ((nI i) + 1) (fun x26 => (lp_X7_digest_115 σ 141 K fuel x24 x26))) 5 0 6 y (by omega) (by omega)
    unfold lp_X7_digest_115
    rw [ck_M, gd_tr, RE_24 h, hW1, if_neg (nI_ge hiN (by omega))]
    refine e1.trans ?_
    rw [nm_so, nI_1]
    exact E_115 eS hn h hW1 hW2 hnr h3 hD hBR d (i + 1) fuel _ (by omega) (by omega)
theorem E_172 {S nt nr : Nat} {σ α : Mem} (eS : S = 148) (hn : nt ≤ 20) (h : RE true S σ α 12 nt) (hW1 : α 24 0 = nI nr) (hW2 : α 25 0 = nI nt) (hnr : nr ≤ 12) (h3 : σ 141 3 = nI nt) (hD : okD α nt) {t : Nat} (ht : t < nt) {K : Int64 → Int32 → Option (Int64 × Mem)} : ∀ d i fuel y, i + d = 9 → d < fuel → lp_X7_digest_172 σ 141 (nI t) K fuel y (nI i) = K (dS (aAbout α t) d i y) (nI 9)
  | 0, i, fuel + 1, y, hi, _ => by
    have e : i = 9 := by omega
    subst e
    unfold lp_X7_digest_172
    rw [if_pos (show (8 : Int32) < nI 9 by decide)]
    rfl
  | d + 1, i, fuel + 1, y, hi, hf => by
    have hiN : i < 9 := by omega
    unfold lp_X7_digest_172
    rw [if_neg (show ¬ (8 : Int32) < nI i from nI_nlt (a := 8) (b := i) (by omega) (by omega)), ck_M, gd_tr, R_about eS (show nt ≤ 21 by omega) h hD ht hiN, b1_so, nm_so, nm_so, nI_1, E_172 eS hn h hW1 hW2 hnr h3 hD ht d (i + 1) fuel _ (by omega) (by omega)]
    rfl
theorem E_204 {S nt nr : Nat} {σ α : Mem} (eS : S = 148) (hn : nt ≤ 20) (h : RE true S σ α 12 nt) (hW1 : α 24 0 = nI nr) (hW2 : α 25 0 = nI nt) (hnr : nr ≤ 12) (h3 : σ 141 3 = nI nt) (hD : okD α nt) {t : Nat} (ht : t < nt) {K : Int64 → Int32 → Option (Int64 × Mem)} : ∀ d i fuel y, i + d = 9 → d < fuel → lp_X7_digest_204 σ 141 (nI t) K fuel y (nI (10 * (i + 1))) = K (dS (fun i => aHeard α t (10 * (i + 1))) d i y) (nI (10 * (9 + 1)))
  | 0, i, fuel + 1, y, hi, _ => by
    have e : i = 9 := by omega
    subst e
    unfold lp_X7_digest_204
    rw [if_pos (show (90 : Int32) < nI (10 * (9 + 1)) by decide)]
    rfl
  | d + 1, i, fuel + 1, y, hi, hf => by
    have hiN : i < 9 := by omega
    unfold lp_X7_digest_204
    rw [if_neg (show ¬ (90 : Int32) < nI (10 * (i + 1)) from nI_nlt (a := 90) (b := 10 * (i + 1)) (by omega) (by omega)), ck_M, gd_tr, R_heard h (show t < 21 by omega) (show 10 * (i + 1) ≤ 90 by omega), b1_so, nm_so, nm_so, nI_10, E_204 eS hn h hW1 hW2 hnr h3 hD ht d (i + 1) fuel _ (by omega) (by omega)]
    rfl
theorem E_161 {S nt nr : Nat} {σ α : Mem} (eS : S = 148) (hn : nt ≤ 20) (h : RE true S σ α 12 nt) (hW1 : α 24 0 = nI nr) (hW2 : α 25 0 = nI nt) (hnr : nr ≤ 12) (h3 : σ 141 3 = nI nt) (hD : okD α nt) {K : Int64 → Int32 → Option (Int64 × Mem)} : ∀ d i fuel y, i + d = nt → d < fuel → lp_X7_digest_161 σ 141 K fuel y (nI i) = K (gF (dO α) d i y) (nI nt)
  | 0, i, fuel + 1, y, hi, _ => by
    have e : i = nt := by omega
    rw [e]
    unfold lp_X7_digest_161
    rw [ck_M, gd_tr, h3, if_pos (nI_le (Nat.le_refl _) (by omega))]
    rfl
  | d + 1, i, fuel + 1, y, hi, hf => by
    have hiN : i < nt := by omega
    have e1 := E_172 eS hn h hW1 hW2 hnr h3 hD hiN (K := fun x32 x33 => (lp_X7_digest_204 σ 141 (nI i) (fun x37 x38 => nm ((nI i) + 1) (fun x39 => (lp_X7_digest_161 σ 141 K fuel x37 x39))) 10 x32 10)) 9 0 10 y (by omega) (by omega)
    have e2 := E_204 eS hn h hW1 hW2 hnr h3 hD hiN (K := fun x37 x38 => nm ((nI i) + 1) (fun x39 => (lp_X7_digest_161 σ 141 K fuel x37 x39))) 9 0 10 (dS (aAbout α i) 9 0 y) (by omega) (by omega)
    unfold lp_X7_digest_161
    rw [ck_M, gd_tr, h3, if_neg (nI_ge hiN (by omega))]
    refine e1.trans (e2.trans ?_)
    rw [nm_so, nI_1]
    exact E_161 eS hn h hW1 hW2 hnr h3 hD d (i + 1) fuel _ (by omega) (by omega)
theorem P_digest (B : Nat) (hB : B ≤ 1000000) (σ : Mem) (hI : Inv B σ) : ∃ v, fn_X5_digest σ 0 = some v ∧ fn_X7_digest σ 141 = some (v, sI σ 141 0 0) ∧ Inv B (sI σ 141 0 0) := by
  have hI2 := Inv_t (x := 0) hI
  obtain ⟨α, nr, nt, μ, h1, h2, h3, h4, h5, h6, h7, h8⟩ := hI
  have hD := WT_D (show μ < 2 ^ 31 by omega) h3.2.2.2.2
  have f0 : RE true 148 (sI σ 141 0 0) α 12 nt := RE_t (Or.inl rfl) (Nat.le_refl 12) (by omega) (Or.inl rfl) h2
  have q3 : sI σ 141 0 0 141 3 = nI nt := (sI_n (Or.inr (by decide))).trans h7
  have hRo := ropes_eq h5 h3.2.2.1
  refine ⟨dAll α nr nt, C_digest (Nat.le_refl 12) (by omega) h1 h3.1.1 h3.1.2.1 h5 (fun b hb => (h3.2.1 b hb).1), ?_, hI2⟩
  unfold fn_X7_digest dAll
  rw [ck_M, gd_tr, nm_so]
  generalize sI σ 141 0 0 = σ1 at f0 q3 ⊢
  have e1 := E_11 rfl h6 f0 h3.1.1 h3.1.2.1 h5 q3 hD hRo (K := fun x6 x7 => (lp_X7_digest_41 σ1 141 (fun x19 x20 => (lp_X7_digest_115 σ1 141 (fun x27 x28 => (lp_X7_digest_161 σ1 141 (fun x40 x41 => (some (x40, σ1))) 21 x27 0)) 13 x19 0)) 5 x6 0)) 9 0 10 1249 (by omega) (by omega)
  have e2 := E_41 rfl h6 f0 h3.1.1 h3.1.2.1 h5 q3 hD h3.2.1 h3.2.2.2.1 (K := fun x19 x20 => (lp_X7_digest_115 σ1 141 (fun x27 x28 => (lp_X7_digest_161 σ1 141 (fun x40 x41 => (some (x40, σ1))) 21 x27 0)) 13 x19 0)) 4 0 5 (dS (aCount α nr nt) 9 0 1249) (by omega) (by omega)
  have e3 := E_115 rfl h6 f0 h3.1.1 h3.1.2.1 h5 q3 hD h3.2.2.1.2 (K := fun x27 x28 => (lp_X7_digest_161 σ1 141 (fun x40 x41 => (some (x40, σ1))) 21 x27 0)) nr 0 13 (gF (dB α nt) 4 0 (dS (aCount α nr nt) 9 0 1249)) (by omega) (by omega)
  have e4 := E_161 rfl h6 f0 h3.1.1 h3.1.2.1 h5 q3 hD (K := fun x40 x41 => (some (x40, σ1))) nt 0 21 (gF (dR α) nr 0 (gF (dB α nt) 4 0 (dS (aCount α nr nt) 9 0 1249))) (by omega) (by omega)
  exact e1.trans (e2.trans (e3.trans e4))
