/-! the game; T: how much is said from a place on (0: not won) -/
def bstp (T : Nat → Nat → Nat) (dr : Nat → Nat) (s d : Nat) : Nat → Option (Nat × Nat)
  | 0 => none
  | q + 1 => if ((dif (dr d) s).testBit q && decide (0 < T (s ||| 2 ^ q) q)) && (match bstp T dr s d q with | none => true | some b => decide (T (s ||| 2 ^ q) q < b.2)) then some (q, T (s ||| 2 ^ q) q) else bstp T dr s d q
def bst (T : Nat → Nat → Nat) (dr : Nat → Nat) (s d : Nat) : Option (Nat × Nat) := bstp T dr s d 8
def dbp (T : Nat → Nat → Nat) (dr : Nat → Nat) (s c : Nat) : Nat → Option Nat
  | 0 => some 0
  | d + 1 => match dbp T dr s c d with
    | none => none
    | some m => if (dr c).testBit d then (match bst T dr s d with | none => none | some b => some (if m < 1 + b.2 then 1 + b.2 else m)) else some m
def dB (T : Nat → Nat → Nat) (dr : Nat → Nat) (s c : Nat) : Nat := match dbp T dr s c 8 with
  | none => 0
  | some m => 1 + m
def dT (dr : Nat → Nat) : Nat → Nat → Nat → Nat
  | 0 => fun _ _ => 0
  | k + 1 => fun s c => if s = 255 - k then dB (dT dr k) dr s c else dT dr k s c
def gD (dr : Nat → Nat) : Nat → Nat → Nat := dT dr 256
theorem dT_s (dr : Nat → Nat) (k s c : Nat) : dT dr (k + 1) s c = if s = 255 - k then dB (dT dr k) dr s c else dT dr k s c := rfl
theorem bstp_in {T : Nat → Nat → Nat} {dr : Nat → Nat} {s d : Nat} : ∀ {n : Nat} {b : Nat × Nat}, bstp T dr s d n = some b → b.1 < n ∧ (dif (dr d) s).testBit b.1 = true ∧ b.2 = T (s ||| 2 ^ b.1) b.1 ∧ 0 < b.2
  | 0, _, e => by cases e
  | n + 1, b, e => by
    rw [bstp] at e
    by_cases q : (((dif (dr d) s).testBit n && decide (0 < T (s ||| 2 ^ n) n)) && (match bstp T dr s d n with | none => true | some b => decide (T (s ||| 2 ^ n) n < b.2))) = true
    · rw [if_pos q] at e
      rw [Bool.and_eq_true, Bool.and_eq_true] at q
      cases e
      exact ⟨Nat.lt_succ_self _, q.1.1, rfl, of_decide_eq_true q.1.2⟩
    · rw [if_neg q] at e
      have := bstp_in e
      exact ⟨by omega, this.2⟩
theorem bstp_cg {T T' : Nat → Nat → Nat} {dr : Nat → Nat} {s d : Nat} (hd8 : dr d < 256) (h : ∀ q, q < 8 → s.testBit q = false → T (s ||| 2 ^ q) q = T' (s ||| 2 ^ q) q) : ∀ n, n ≤ 8 → bstp T dr s d n = bstp T' dr s d n
  | 0, _ => rfl
  | n + 1, hn => by
    rw [bstp, bstp, bstp_cg hd8 h n (by omega)]
    cases q : (dif (dr d) s).testBit n
    · simp
    · rw [dif_tb hd8, Bool.and_eq_true] at q
      rw [h n (by omega) (by simpa using q.2)]
theorem dbp_cg {T T' : Nat → Nat → Nat} {dr : Nat → Nat} {s c : Nat} (hd8 : r8 dr) (h : ∀ q, q < 8 → s.testBit q = false → T (s ||| 2 ^ q) q = T' (s ||| 2 ^ q) q) : ∀ n, n ≤ 8 → dbp T dr s c n = dbp T' dr s c n
  | 0, _ => rfl
  | n + 1, hn => by
    rw [dbp, dbp, dbp_cg hd8 h n (by omega)]
    unfold bst
    rw [bstp_cg (hd8 n (by omega)) h 8 (Nat.le_refl _)]
theorem dB_cg {T T' : Nat → Nat → Nat} {dr : Nat → Nat} {s c : Nat} (hd8 : r8 dr) (h : ∀ q, q < 8 → s.testBit q = false → T (s ||| 2 ^ q) q = T' (s ||| 2 ^ q) q) : dB T dr s c = dB T' dr s c := by
  unfold dB
  rw [dbp_cg hd8 h 8 (Nat.le_refl _)]
theorem dT_keep (dr : Nat → Nat) {s c k : Nat} (hs : 256 - k ≤ s) (hs2 : s < 256) : ∀ j, k + j ≤ 256 → dT dr (k + j) s c = dT dr k s c
  | 0, _ => rfl
  | j + 1, hj => by
    show dT dr (k + j + 1) s c = _
    rw [dT_s, if_neg (show ¬ s = 255 - (k + j) by omega)]
    exact dT_keep dr hs hs2 j (by omega)
theorem or_gr {s q : Nat} (h : s.testBit q = false) : s < s ||| 2 ^ q := Nat.lt_of_le_of_ne Nat.left_le_or (fun z => by
  have := congrArg (fun k => k.testBit q) z
  simp only [Nat.testBit_or, Nat.testBit_two_pow_self, h] at this
  exact absurd this (by decide))
theorem gD_eq {dr : Nat → Nat} (hd8 : r8 dr) {s c : Nat} (hs : s < 256) : gD dr s c = dB (gD dr) dr s c := by
  unfold gD
  have e1 := dT_keep dr (s := s) (c := c) (k := 256 - s) (by omega) hs s (by omega)
  rw [show 256 - s + s = 256 by omega] at e1
  rw [e1, show 256 - s = (255 - s) + 1 by omega, dT_s, if_pos (by omega)]
  refine dB_cg hd8 (fun q hq hb => ?_)
  have gr := or_gr hb
  have lt := or_lt8 hs (pw_lt8 hq)
  have e2 := dT_keep dr (s := s ||| 2 ^ q) (c := q) (k := 255 - s) (by omega) lt (s + 1) (by omega)
  rw [show 255 - s + (s + 1) = 256 by omega] at e2
  exact e2.symm
theorem dbp_le {T : Nat → Nat → Nat} {dr : Nat → Nat} {s c M : Nat} (h : ∀ s c, T s c ≤ M) : ∀ n m, dbp T dr s c n = some m → m ≤ 1 + M
  | 0, m, e => by cases e; omega
  | n + 1, m, e => by
    rw [dbp] at e
    cases e1 : dbp T dr s c n with
    | none => rw [e1] at e; cases e
    | some m' =>
      have ih := dbp_le h n m' e1
      rw [e1] at e
      simp only at e
      split at e
      · cases e2 : bst T dr s n with
        | none => rw [e2] at e; cases e
        | some b =>
          rw [e2] at e
          have := (bstp_in e2).2.2.1
          have h2 := h (s ||| 2 ^ b.1) b.1
          simp only at e
          split at e <;> cases e <;> omega
      · cases e; exact ih
theorem dB_le {T : Nat → Nat → Nat} {dr : Nat → Nat} {s c M : Nat} (h : ∀ s c, T s c ≤ M) : dB T dr s c ≤ 2 + M := by
  unfold dB
  cases e : dbp T dr s c 8 with
  | none => exact Nat.zero_le _
  | some m => have := dbp_le h 8 m e; show 1 + m ≤ _; omega
theorem dT_le (dr : Nat → Nat) : ∀ k s c, dT dr k s c ≤ 2 * k
  | 0, _, _ => Nat.le_refl _
  | k + 1, s, c => by
    rw [dT_s]
    split
    · have := dB_le (dr := dr) (s := s) (c := c) (dT_le dr k); omega
    · have := dT_le dr k s c; omega
theorem gD_le (dr : Nat → Nat) (s c : Nat) : gD dr s c ≤ 512 := dT_le dr 256 s c
/-! in how many ways -/
def gP : Nat := 1000000007
def wsp (T : Nat → Nat → Nat) (dr : Nat → Nat) (s d : Nat) : Nat → Nat
  | 0 => 0
  | q + 1 => wsp T dr s d q + (if (dif (dr d) s).testBit q then T (s ||| 2 ^ q) q else 0)
def wbp (T : Nat → Nat → Nat) (dr : Nat → Nat) (s c : Nat) : Nat → Nat
  | 0 => 1
  | d + 1 => if (dr c).testBit d then wbp T dr s c d * (wsp T dr s d 8 % gP) % gP else wbp T dr s c d
def wT (dr : Nat → Nat) : Nat → Nat → Nat → Nat
  | 0 => fun _ _ => 0
  | k + 1 => fun s c => if s = 255 - k then wbp (wT dr k) dr s c 8 else wT dr k s c
def gW (dr : Nat → Nat) : Nat → Nat → Nat := wT dr 256
theorem wT_s (dr : Nat → Nat) (k s c : Nat) : wT dr (k + 1) s c = if s = 255 - k then wbp (wT dr k) dr s c 8 else wT dr k s c := rfl
theorem wsp_cg {T T' : Nat → Nat → Nat} {dr : Nat → Nat} {s d : Nat} (hd8 : dr d < 256) (h : ∀ q, q < 8 → s.testBit q = false → T (s ||| 2 ^ q) q = T' (s ||| 2 ^ q) q) : ∀ n, n ≤ 8 → wsp T dr s d n = wsp T' dr s d n
  | 0, _ => rfl
  | n + 1, hn => by
    rw [wsp, wsp, wsp_cg hd8 h n (by omega)]
    cases q : (dif (dr d) s).testBit n
    · rfl
    · rw [dif_tb hd8, Bool.and_eq_true] at q
      rw [h n (by omega) (by simpa using q.2)]
theorem wbp_cg {T T' : Nat → Nat → Nat} {dr : Nat → Nat} {s c : Nat} (hd8 : r8 dr) (h : ∀ q, q < 8 → s.testBit q = false → T (s ||| 2 ^ q) q = T' (s ||| 2 ^ q) q) : ∀ n, n ≤ 8 → wbp T dr s c n = wbp T' dr s c n
  | 0, _ => rfl
  | n + 1, hn => by rw [wbp, wbp, wbp_cg hd8 h n (by omega), wsp_cg (hd8 n (by omega)) h 8 (Nat.le_refl _)]
theorem wT_keep (dr : Nat → Nat) {s c k : Nat} (hs : 256 - k ≤ s) (hs2 : s < 256) : ∀ j, k + j ≤ 256 → wT dr (k + j) s c = wT dr k s c
  | 0, _ => rfl
  | j + 1, hj => by
    show wT dr (k + j + 1) s c = _
    rw [wT_s, if_neg (show ¬ s = 255 - (k + j) by omega)]
    exact wT_keep dr hs hs2 j (by omega)
theorem gW_eq {dr : Nat → Nat} (hd8 : r8 dr) {s c : Nat} (hs : s < 256) : gW dr s c = wbp (gW dr) dr s c 8 := by
  unfold gW
  have e1 := wT_keep dr (s := s) (c := c) (k := 256 - s) (by omega) hs s (by omega)
  rw [show 256 - s + s = 256 by omega] at e1
  rw [e1, show 256 - s = (255 - s) + 1 by omega, wT_s, if_pos (by omega)]
  refine wbp_cg hd8 (fun q hq hb => ?_) 8 (Nat.le_refl _)
  have gr := or_gr hb
  have lt := or_lt8 hs (pw_lt8 hq)
  have e2 := wT_keep dr (s := s ||| 2 ^ q) (c := q) (k := 255 - s) (by omega) lt (s + 1) (by omega)
  rw [show 255 - s + (s + 1) = 256 by omega] at e2
  exact e2.symm
theorem wbp_lt (T : Nat → Nat → Nat) (dr : Nat → Nat) (s c : Nat) : ∀ n, wbp T dr s c n < gP
  | 0 => show (1 : Nat) < 1000000007 by decide
  | n + 1 => by
    rw [wbp]
    split
    · exact Nat.mod_lt _ (show 0 < 1000000007 by decide)
    · exact wbp_lt T dr s c n
theorem wT_lt (dr : Nat → Nat) : ∀ k s c, wT dr k s c < gP
  | 0, _, _ => show (0 : Nat) < 1000000007 by decide
  | k + 1, s, c => by
    rw [wT_s]
    split
    · exact wbp_lt _ _ _ _ _
    · exact wT_lt dr k s c
theorem gW_lt (dr : Nat → Nat) (s c : Nat) : gW dr s c < gP := wT_lt dr 256 s c
theorem wsp_le {T : Nat → Nat → Nat} {dr : Nat → Nat} {s d : Nat} (h : ∀ s c, T s c < gP) : ∀ n, wsp T dr s d n ≤ n * gP
  | 0 => Nat.zero_le _
  | n + 1 => by
    have ih := wsp_le (dr := dr) (s := s) (d := d) h n
    rw [wsp]
    have e : (n + 1) * gP = n * gP + gP := Nat.succ_mul n gP
    split
    · have := h (s ||| 2 ^ n) n; omega
    · omega
/-! the class: what stands in the tables for sets from k on that hold -/
def tbl (P : Nat → Bool) (k : Nat) (g : Nat → Int32) (F : Nat → Nat → Nat) : Prop := ∀ s c, k ≤ s → s < 256 → P s = true → c < 8 → s.testBit c = true → g (8 * s + c) = nI (F s c)
theorem place_e {s c : Nat} (hs : s < 256) (hc : c < 8) : ((nI s &&& nI 255) * nI 8) + (nI c &&& nI 7) = nI (8 * s + c) := by
  rw [nx_and, nx_and, pk_mul, nI_add]
  congr 1
  have e1 : s &&& 255 = s := Nat.and_two_pow_sub_one_of_lt_two_pow (n := 8) hs
  have e2 : c &&& 7 = c := Nat.and_two_pow_sub_one_of_lt_two_pow (n := 3) hc
  rw [e1, e2, Nat.mul_comm]
theorem s_placeOf {s c : Nat} (hs : s < 256) (hc : c < 8) {post : Int32 → Prop} (hp : post (nI (8 * s + c))) : wp_X2_placeOf post (nI s) (nI c) := by
  unfold wp_X2_placeOf
  rw [place_e hs hc]
  exact hp
theorem s_depthAt {g : Nat → Int32} {s c v : Nat} (hs : s < 256) (hc : c < 8) (e : g (8 * s + c) = nI v) {post : Int32 → Prop} (hp : post (nI v)) : wp_X2_depthAt post g (nI s) (nI c) := by
  unfold wp_X2_depthAt
  refine s_placeOf hs hc ?_
  refine wf (nI_pos (by omega)) ?_
  refine wf (nI_ge (by omega) (by decide)) ⟨vp_in_nI (by omega) (by decide), ?_⟩
  rw [nI_clamp (by omega), e]
  exact hp
theorem s_waysAt {g : Nat → Int32} {s c v : Nat} (hs : s < 256) (hc : c < 8) (e : g (8 * s + c) = nI v) {post : Int32 → Prop} (hp : post (nI v)) : wp_X2_waysAt post g (nI s) (nI c) := by
  unfold wp_X2_waysAt
  refine s_placeOf hs hc ?_
  refine wf (nI_pos (by omega)) ?_
  refine wf (nI_ge (by omega) (by decide)) ⟨vp_in_nI (by omega) (by decide), ?_⟩
  rw [nI_clamp (by omega), e]
  exact hp
def enc2 : Option (Nat × Nat) → Int32
  | none => -1
  | some b => nI b.1
def lst2 : Option (Nat × Nat) → Int32
  | none => nI 0
  | some b => nI b.2
theorem nI_le0 {n : Nat} (h : n < 2 ^ 31) : nI n ≤ 0 ↔ n = 0 := by rw [show (0 : Int32) = nI 0 from nI_0.symm, nI_leI h (by decide)]; omega
section GAM
variable {dr : Nat → Nat} {P : Nat → Bool} {g : Nat → Int32}
/-- P holds of what is greater by one that defeats something -/
def upP (dr : Nat → Nat) (P : Nat → Bool) : Prop := ∀ s d q, s < 256 → P s = true → d < 8 → q < 8 → (dif (dr d) s).testBit q = true → P (s ||| 2 ^ q) = true
theorem s_best (hd8 : r8 dr) (hup : upP dr P) {s : Nat} (hs : s < 256) (hPs : P s = true) {k : Nat} (hk : k ≤ s + 1) (ht : tbl P k g (gD dr)) {d : Nat} (hd' : d < 8) {post : Int32 → Prop} (hp : post (enc2 (bst (gD dr) dr s d))) : wp_X2_bestAnswer post g (pL dr) (nI s) (nI d) := by
  unfold wp_X2_bestAnswer
  refine s_get hd8 hd' ?_
  have l0 := hd8 d hd'
  have l1 := dif_lt l0 s
  rw [nx_dif l0]
  refine lo2 (fun n q v w => wp_X2_bestAnswer_22 post g (pL dr) (nI s) (nI d) n v w (nI (dif (dr d) s)) (nI q)) (fun q v w => v = enc2 (bstp (gD dr) dr s d q) ∧ w = lst2 (bstp (gD dr) dr s d q)) 8 _ _ ⟨rfl, rfl⟩ ?_ ?_
  · rintro n v w ⟨rfl, rfl⟩
    show wp_X2_bestAnswer_22 _ _ _ _ _ _ _ _ _ _
    unfold wp_X2_bestAnswer_22
    exact wt (nI_le (Nat.le_refl _) (by decide)) hp
  · rintro n q v w hq ⟨rfl, rfl⟩ ih
    show wp_X2_bestAnswer_22 _ _ _ _ _ _ _ _ _ _
    unfold wp_X2_bestAnswer_22
    refine wf (nI_ge hq (by decide)) ?_
    rw [nS, shl_1 (by omega), nx_or]
    refine s_contains l1 hq ?_
    refine zc (fun z => ih _ _ ?_) (fun z => ?_)
    · rw [bstp, z]; simp
    · have hnq : s.testBit q = false := by rw [dif_tb l0, Bool.and_eq_true] at z; simpa using z.2
      have lt := or_lt8 hs (pw_lt8 hq)
      have gr := or_gr hnq
      have ev : g (8 * (s ||| 2 ^ q) + q) = nI (gD dr (s ||| 2 ^ q) q) := ht _ _ (by omega) lt (hup s d q hs hPs hd' hq z) hq (by rw [Nat.testBit_or, Nat.testBit_two_pow_self, Bool.or_true])
      have lD := gD_le dr (s ||| 2 ^ q) q
      refine s_depthAt lt hq ev ?_
      refine wc (nI_le0 (by omega)) (fun c => ih _ _ ?_) (fun c => ?_)
      · rw [bstp, z, decide_eq_false (show ¬ 0 < gD dr (s ||| 2 ^ q) q by omega)]; simp
      · have hpos : 0 < gD dr (s ||| 2 ^ q) q := by omega
        cases e : bstp (gD dr) dr s d q with
        | none =>
          refine wt (by decide +kernel) (ih _ _ ?_)
          rw [bstp, z, decide_eq_true hpos, e]; exact ⟨rfl, rfl⟩
        | some b =>
          obtain ⟨b1, -, b2, b3⟩ := bstp_in e
          have lD2 := gD_le dr (s ||| 2 ^ b.1) b.1
          refine wf (nI_pos (show b.1 < 2 ^ 31 by omega)) ?_
          show (nI b.2 ≤ _ → _) ∧ (¬ nI b.2 ≤ _ → _)
          refine wc (nI_leI (by omega) (by omega)) (fun c2 => ih _ _ ?_) (fun c2 => ih _ _ ?_)
          · rw [bstp, z, decide_eq_true hpos, e]
            simp [Nat.not_lt.mpr c2]
          · rw [bstp, z, decide_eq_true hpos, e]
            simp [Nat.not_le.mp c2, enc2, lst2]
theorem s_depthBehind (hd8 : r8 dr) (hup : upP dr P) {s : Nat} (hs : s < 256) (hPs : P s = true) {k : Nat} (hk : k ≤ s + 1) (ht : tbl P k g (gD dr)) {c : Nat} (hc : c < 8) {post : Int32 → Prop} (hp : post (nI (gD dr s c))) : wp_X2_depthBehind post g (pL dr) (nI s) (nI c) := by
  unfold wp_X2_depthBehind
  rw [gD_eq hd8 hs] at hp
  refine s_get hd8 hc ?_
  have l0 := hd8 c hc
  refine loop_0 (fun n d v => wp_X2_depthBehind_15 post g (pL dr) (nI s) (nI c) n v (nI (dr c)) (nI d)) (fun d v => ∃ m, dbp (gD dr) dr s c d = some m ∧ v = nI m) 8 _ ⟨0, rfl, rfl⟩ ?_ ?_
  · rintro n v ⟨m, e, rfl⟩
    show wp_X2_depthBehind_15 _ _ _ _ _ _ _ _ _
    unfold wp_X2_depthBehind_15
    refine wt (nI_le (Nat.le_refl _) (by decide)) ?_
    unfold dB at hp
    rw [e] at hp
    rw [nI_add]
    exact hp
  · rintro n d v hd' ⟨m, e, rfl⟩ ih
    show wp_X2_depthBehind_15 _ _ _ _ _ _ _ _ _
    unfold wp_X2_depthBehind_15
    refine wf (nI_ge hd' (by decide)) ?_
    rw [nS]
    have lm := dbp_le (gD_le dr) d m e
    refine s_contains l0 hd' ?_
    refine zc (fun z => ih _ ⟨m, ?_, rfl⟩) (fun z => ?_)
    · rw [dbp, e, z]; rfl
    · refine s_best hd8 hup hs hPs hk ht hd' ?_
      cases eb : bst (gD dr) dr s d with
      | none =>
        refine wf (by decide +kernel) ?_
        have en : ∀ j, dbp (gD dr) dr s c (d + 1 + j) = none := by
          intro j
          induction j with
          | zero => rw [Nat.add_zero, dbp, e, z, eb]; rfl
          | succ j ihj => show dbp (gD dr) dr s c (d + 1 + j + 1) = none; rw [dbp, ihj]
        have e8 := en (7 - d)
        rw [show d + 1 + (7 - d) = 8 by omega] at e8
        unfold dB at hp
        rw [e8] at hp
        exact hp
      | some b =>
        obtain ⟨b1, bz, b2, b3⟩ := bstp_in eb
        refine wt (nI_pos' (show b.1 < 2 ^ 31 by omega)) ?_
        show wp_X2_depthAt _ _ (nI s ||| nI 1 <<< (nI b.1 &&& 31)) (nI b.1)
        rw [shl_1 (by omega), nx_or]
        have hnq : s.testBit b.1 = false := by rw [dif_tb (hd8 d hd'), Bool.and_eq_true] at bz; simpa using bz.2
        have lt := or_lt8 hs (pw_lt8 b1)
        have gr := or_gr hnq
        have lD := gD_le dr (s ||| 2 ^ b.1) b.1
        refine s_depthAt lt b1 (ht _ _ (by omega) lt (hup s d b.1 hs hPs hd' b1 bz) b1 (by rw [Nat.testBit_or, Nat.testBit_two_pow_self, Bool.or_true])) ?_
        rw [nI_add]
        have ne : dbp (gD dr) dr s c (d + 1) = some (if m < 1 + b.2 then 1 + b.2 else m) := by rw [dbp, e, z, eb]; rfl
        by_cases q : m < 1 + gD dr (s ||| 2 ^ b.1) b.1
        · rw [if_pos (nI_lt q (by omega))]
          refine ih _ ⟨_, ne, ?_⟩
          rw [b2, if_pos q]
        · rw [if_neg (nI_nlt (by omega) (by omega))]
          refine ih _ ⟨_, ne, ?_⟩
          rw [b2, if_neg q]
theorem p_ne0 : ¬ (1000000007 : Int64) = 0 := by decide +kernel
theorem p_lN : (1000000007 : Int64) = lN gP := by decide +kernel
theorem s_waysTo (hd8 : r8 dr) (hup : upP dr P) {s : Nat} (hs : s < 256) (hPs : P s = true) {k : Nat} (hk : k ≤ s + 1) (ht : tbl P k g (gW dr)) {d : Nat} (hd' : d < 8) {post : Int64 → Prop} (hp : post (lN (wsp (gW dr) dr s d 8 % gP))) : wp_X2_waysToAnswer post g (pL dr) (nI s) (nI d) := by
  unfold wp_X2_waysToAnswer
  refine s_get hd8 hd' ?_
  have l0 := hd8 d hd'
  have l1 := dif_lt l0 s
  rw [nx_dif l0]
  refine loop_0 (fun n q v => wp_X2_waysToAnswer_19 post g (pL dr) (nI s) (nI d) n v (nI (dif (dr d) s)) (nI q)) (fun q v => v = lN (wsp (gW dr) dr s d q)) 8 _ rfl ?_ ?_
  · rintro n v rfl
    show wp_X2_waysToAnswer_19 _ _ _ _ _ _ _ _ _
    unfold wp_X2_waysToAnswer_19
    refine wt (nI_le (Nat.le_refl _) (by decide)) ⟨p_ne0, ?_⟩
    have := wsp_le (dr := dr) (s := s) (d := d) (gW_lt dr) 8
    have hgP : gP = 1000000007 := rfl
    rw [p_lN, pk_lRem (by omega) (by omega) (by omega)]
    exact hp
  · rintro n q v hq rfl ih
    show wp_X2_waysToAnswer_19 _ _ _ _ _ _ _ _ _
    unfold wp_X2_waysToAnswer_19
    refine wf (nI_ge hq (by decide)) ?_
    rw [nS, shl_1 (by omega), nx_or]
    refine s_contains l1 hq ?_
    refine zc (fun z => ih _ ?_) (fun z => ?_)
    · rw [wsp, z]; rfl
    · have hnq : s.testBit q = false := by rw [dif_tb l0, Bool.and_eq_true] at z; simpa using z.2
      have lt := or_lt8 hs (pw_lt8 hq)
      have gr := or_gr hnq
      have lW := gW_lt dr (s ||| 2 ^ q) q
      have hgP : gP = 1000000007 := rfl
      refine s_waysAt lt hq (ht _ _ (by omega) lt (hup s d q hs hPs hd' hq z) hq (by rw [Nat.testBit_or, Nat.testBit_two_pow_self, Bool.or_true])) ?_
      rw [nI_l (by omega), lN_add]
      refine ih _ ?_
      rw [wsp, z]; rfl
theorem s_waysBehind (hd8 : r8 dr) (hup : upP dr P) {s : Nat} (hs : s < 256) (hPs : P s = true) {k : Nat} (hk : k ≤ s + 1) (ht : tbl P k g (gW dr)) {c : Nat} (hc : c < 8) {post : Int32 → Prop} (hp : post (nI (gW dr s c))) : wp_X2_waysBehind post g (pL dr) (nI s) (nI c) := by
  unfold wp_X2_waysBehind
  rw [gW_eq hd8 hs] at hp
  refine s_get hd8 hc ?_
  have l0 := hd8 c hc
  have hgP : gP = 1000000007 := rfl
  refine loop_0 (fun n d v => wp_X2_waysBehind_15 post g (pL dr) (nI s) (nI c) n v (nI (dr c)) (nI d)) (fun d v => v = lN (wbp (gW dr) dr s c d)) 8 _ rfl ?_ ?_
  · rintro n v rfl
    show wp_X2_waysBehind_15 _ _ _ _ _ _ _ _ _
    unfold wp_X2_waysBehind_15
    refine wt (nI_le (Nat.le_refl _) (by decide)) ?_
    rw [lN_i]
    exact hp
  · rintro n d v hd' rfl ih
    show wp_X2_waysBehind_15 _ _ _ _ _ _ _ _ _
    unfold wp_X2_waysBehind_15
    refine wf (nI_ge hd' (by decide)) ?_
    rw [nS]
    refine s_contains l0 hd' ?_
    refine zc (fun z => ih _ ?_) (fun z => ?_)
    · rw [wbp, z]; rfl
    · refine s_waysTo hd8 hup hs hPs hk ht hd' ⟨p_ne0, ?_⟩
      intro y hy
      have h1 := wbp_lt (gW dr) dr s c d
      have h2 := Nat.mod_lt (wsp (gW dr) dr s d 8) (show 0 < gP by rw [hgP]; decide)
      have h3 : wbp (gW dr) dr s c d * (wsp (gW dr) dr s d 8 % gP) ≤ gP * gP := Nat.mul_le_mul (Nat.le_of_lt h1) (Nat.le_of_lt h2)
      have h4 : gP * gP < 2 ^ 63 := by rw [hgP]; decide
      rw [lN_mul, p_lN, pk_lRem (by omega) (by omega) (by omega)] at hy
      refine ih _ ?_
      rw [hy, wbp, z]; rfl
end GAM
