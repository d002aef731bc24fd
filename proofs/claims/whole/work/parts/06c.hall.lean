/-! the hall as one row of numbers (kinds 0.., figures 8.., speakers 16.., attacks 24.., supports 32.., heard 40, mode 41, how many 42) -/
def ag (n : Nat) (g : Nat → Int32) (f : Nat → Nat) : Prop := ∀ j, j < n → g j = nI (f j)
theorem ag.rd {n : Nat} {g : Nat → Int32} {f : Nat → Nat} (h : ag n g f) {i : Nat} (hi : i < n) (hn : n < 2 ^ 31) : g (nI i).toNatClampNeg = nI (f i) := by rw [nI_clamp (by omega)]; exact h i hi
theorem ag.up {n : Nat} {g : Nat → Int32} {f : Nat → Nat} (h : ag n g f) {k : Nat} (v : Nat) (hk : k < 2 ^ 31) : ag n (upd g (nI k).toNatClampNeg (nI v)) (upN f k v) := by
  intro j hj
  rw [nI_clamp hk]
  unfold upd upN
  by_cases h1 : j = k
  · simp [h1]
  · simp [h1, h j hj]
theorem ag.cg {n : Nat} {g : Nat → Int32} {f f' : Nat → Nat} (h : ag n g f) (e : ∀ j, j < n → f j = f' j) : ag n g f' := fun j hj => by rw [h j hj, e j hj]
def hd (h : Nat → Nat) (c : Nat) : Bool := (h 40).testBit c
/-- whether both kinds let it; lt: the hitter's figure is below the other's -/
def letb (k t : Nat) (lt : Bool) : Bool := !(decide (k = 5) || (decide (t = 3) && !decide (k = 3))) && !((decide (k = 1) || decide (k = 4)) && lt) && ((!decide (t = 2) && !decide (t = 3)) || !lt)
def lets (h : Nat → Nat) (a b : Nat) : Bool := letb (h a) (h b) (decide (h (8 + a) < h (8 + b)))
def hitB (h : Nat → Nat) (a b : Nat) : Bool := hd h a && (hd h b && (if a = b then decide (h a = 4) else (h (24 + a)).testBit b && lets h a b))
def hit (h : Nat → Nat) (a : Nat) : Nat := bs (hitB h a) 8
def lead0 (h : Nat → Nat) (a : Nat) : Nat := if hd h a then h (32 + a) &&& h 40 else 0
def lead (h : Nat → Nat) : Nat → Nat := clo (lead0 h) 8
def dft (h : Nat → Nat) (a : Nat) : Nat := hit h a ||| ((if h 41 % 2 = 1 then rch (hit h) (lead h a) 8 else 0) ||| (if 1 < h 41 then rch (lead h) (hit h a) 8 else 0))
def dfr (h : Nat → Nat) : Nat → Nat := trn (dft h)
/-- what holds of every hall -/
def hv (h : Nat → Nat) : Prop := h 42 ≤ 8 ∧ h 41 ≤ 3 ∧ h 40 < 2 ^ (h 42) ∧ ∀ c, c < 8 → (h c ≤ 5 ∧ h (8 + c) ≤ 9 ∧ h (16 + c) ≤ 9) ∧ (h (24 + c) < 2 ^ (h 42) ∧ h (32 + c) < 2 ^ (h 42)) ∧ (h (24 + c)).testBit c = false ∧ (h 42 ≤ c → (h c = 0 ∧ h (8 + c) = 0 ∧ h (16 + c) = 0) ∧ h (24 + c) = 0 ∧ h (32 + c) = 0)
theorem pw_le {n : Nat} (h : n ≤ 8) : 2 ^ n ≤ 256 := (show 2 ^ n ≤ 2 ^ 8 from Nat.pow_le_pow_right (by decide) h)
theorem hv.heard {h : Nat → Nat} (H : hv h) : h 40 < 256 := Nat.lt_of_lt_of_le H.2.2.1 (pw_le H.1)
theorem hv.many {h : Nat → Nat} (H : hv h) : h 42 ≤ 8 := H.1
theorem hv.hd_lt {h : Nat → Nat} (H : hv h) {c : Nat} (hc : hd h c = true) : c < h 42 := by
  rcases Nat.lt_or_ge c (h 42) with q | q
  · exact q
  · have := Nat.testBit_lt_two_pow (Nat.lt_of_lt_of_le H.2.2.1 (Nat.pow_le_pow_right (n := 2) (by decide) q))
    unfold hd at hc
    rw [this] at hc
    exact absurd hc (by decide)
theorem hv.kd {h : Nat → Nat} (H : hv h) {c : Nat} (hc : c < 8) : h c ≤ 5 := (H.2.2.2 c hc).1.1
theorem hv.fg {h : Nat → Nat} (H : hv h) {c : Nat} (hc : c < 8) : h (8 + c) ≤ 9 := (H.2.2.2 c hc).1.2.1
theorem hv.sp {h : Nat → Nat} (H : hv h) {c : Nat} (hc : c < 8) : h (16 + c) ≤ 9 := (H.2.2.2 c hc).1.2.2
theorem hv.at_ {h : Nat → Nat} (H : hv h) {c : Nat} (hc : c < 8) : h (24 + c) < 256 := Nat.lt_of_lt_of_le (H.2.2.2 c hc).2.1.1 (pw_le H.1)
theorem hv.su {h : Nat → Nat} (H : hv h) {c : Nat} (hc : c < 8) : h (32 + c) < 256 := Nat.lt_of_lt_of_le (H.2.2.2 c hc).2.1.2 (pw_le H.1)
theorem hv.self {h : Nat → Nat} (H : hv h) {c : Nat} (hc : c < 8) : (h (24 + c)).testBit c = false := (H.2.2.2 c hc).2.2.1
theorem hv.r_kd {h : Nat → Nat} (H : hv h) : r8 (fun c => h c) := fun c hc => by have := H.kd hc; show h c < 256; omega
theorem hv.r_fg {h : Nat → Nat} (H : hv h) : r8 (fun c => h (8 + c)) := fun c hc => by have := H.fg hc; show h (8 + c) < 256; omega
theorem hv.r_sp {h : Nat → Nat} (H : hv h) : r8 (fun c => h (16 + c)) := fun c hc => by have := H.sp hc; show h (16 + c) < 256; omega
theorem hv.r_at {h : Nat → Nat} (H : hv h) : r8 (fun c => h (24 + c)) := fun c hc => H.at_ hc
theorem hv.r_su {h : Nat → Nat} (H : hv h) : r8 (fun c => h (32 + c)) := fun c hc => H.su hc
theorem hit_tb (h : Nat → Nat) (a b : Nat) : (hit h a).testBit b = (decide (b < 8) && hitB h a b) := bs_tb _ _ _
theorem hit_r8 (h : Nat → Nat) : r8 (hit h) := fun a _ => bs_lt _ _
theorem lead0_r8 {h : Nat → Nat} (H : hv h) : r8 (lead0 h) := fun a ha => by
  unfold lead0
  split
  · exact and_lt8' _ H.heard
  · decide
theorem lead_r8 {h : Nat → Nat} (H : hv h) : r8 (lead h) := clo_r8 (lead0_r8 H) 8 (Nat.le_refl _)
theorem dft_r8 {h : Nat → Nat} (H : hv h) : r8 (dft h) := fun a ha => by
  unfold dft
  refine or_lt8 (hit_r8 h a ha) (or_lt8 ?_ ?_)
  · split
    · exact rch_lt (fun i hi => hit_r8 h i hi) _
    · decide
  · split
    · exact rch_lt (fun i hi => lead_r8 H i hi) _
    · decide
theorem dfr_r8 (h : Nat → Nat) : r8 (dfr h) := fun a _ => trn_lt _ _
/-- rows stay within a set -/
theorem cl1_in {f : Nat → Nat} {S : Nat} {b : Nat} (hb : b < 8) (hf : ∀ i, i < 8 → ∀ j, (f i).testBit j = true → S.testBit j = true) : ∀ a, a ≤ 8 → ∀ i, i < 8 → ∀ j, (cl1 f b a i).testBit j = true → S.testBit j = true
  | 0, _ => hf
  | a + 1, h => by
    have ih := cl1_in hb hf a (by omega)
    intro i hi j hj
    unfold cl1 at hj
    split at hj
    · unfold upN at hj
      split at hj
      · rw [Nat.testBit_or, Bool.or_eq_true] at hj
        rcases hj with q | q
        · exact ih a (by omega) j q
        · exact ih b hb j q
      · exact ih i hi j hj
    · exact ih i hi j hj
theorem clo_in {f : Nat → Nat} {S : Nat} (hf : ∀ i, i < 8 → ∀ j, (f i).testBit j = true → S.testBit j = true) : ∀ b, b ≤ 8 → ∀ i, i < 8 → ∀ j, (clo f b i).testBit j = true → S.testBit j = true
  | 0, _ => hf
  | b + 1, h => cl1_in (by omega) (clo_in hf b (by omega)) 8 (Nat.le_refl _)
theorem lead_in {h : Nat → Nat} {a : Nat} (ha : a < 8) {j : Nat} (hj : (lead h a).testBit j = true) : hd h j = true := by
  refine clo_in (f := lead0 h) (S := h 40) (fun i _ j hj => ?_) 8 (Nat.le_refl _) a ha j hj
  unfold lead0 at hj
  split at hj
  · rw [Nat.testBit_and, Bool.and_eq_true] at hj; exact hj.2
  · rw [Nat.zero_testBit] at hj; exact absurd hj (by decide)
theorem hit_in {h : Nat → Nat} {a j : Nat} (hj : (hit h a).testBit j = true) : hd h j = true := by
  rw [hit_tb, Bool.and_eq_true] at hj
  have := hj.2
  unfold hitB at this
  rw [Bool.and_eq_true, Bool.and_eq_true] at this
  exact this.2.1
theorem dft_in {h : Nat → Nat} {a : Nat} (ha : a < 8) {j : Nat} (hj : (dft h a).testBit j = true) : hd h j = true := by
  unfold dft at hj
  rw [Nat.testBit_or, Nat.testBit_or, Bool.or_eq_true, Bool.or_eq_true] at hj
  rcases hj with q | q | q
  · exact hit_in q
  · split at q
    · obtain ⟨i, -, -, q⟩ := (rch_tb _ _ _ _).mp q
      exact hit_in q
    · rw [Nat.zero_testBit] at q; exact absurd q (by decide)
  · split at q
    · obtain ⟨i, hi, -, q⟩ := (rch_tb _ _ _ _).mp q
      exact lead_in hi q
    · rw [Nat.zero_testBit] at q; exact absurd q (by decide)
/-! the class: Hall, Defeats -/
theorem s_figureOf {f : Nat → Nat} {c : Nat} (hf : r8 f) (hc : c < 8) {post : Int32 → Prop} (h : post (nI (f c))) : wp_X3_figureOf post (pL f) (nI c) := by unfold wp_X3_figureOf; exact s_get hf hc h
theorem s_kindOf {f : Nat → Nat} {c : Nat} (hf : r8 f) (hc : c < 8) {post : Int32 → Prop} (h : post (nI (f c))) : wp_X3_kindOf post (pL f) (nI c) := by unfold wp_X3_kindOf; exact s_get hf hc h
theorem s_speakerOf {f : Nat → Nat} {c : Nat} (hf : r8 f) (hc : c < 8) {post : Int32 → Prop} (h : post (nI (f c))) : wp_X3_speakerOf post (pL f) (nI c) := by unfold wp_X3_speakerOf; exact s_get hf hc h
theorem sub_lt0 {a b : Nat} (ha : a < 256) (hb : b < 256) : nI a - nI b < 0 ↔ a < b := by
  rw [Int32.lt_iff_toInt_lt, pk_sub_toInt (by omega) (by omega)]
  show (a : Int) - b < 0 ↔ a < b
  omega
theorem sub_ge0 {a b : Nat} (ha : a < 256) (hb : b < 256) : 0 ≤ nI a - nI b ↔ ¬ a < b := by
  rw [Int32.le_iff_toInt_le, pk_sub_toInt (by omega) (by omega)]
  show (0 : Int) ≤ (a : Int) - b ↔ ¬ a < b
  omega
theorem s_letHit {k t a b : Nat} (hk : k ≤ 5) (ht : t ≤ 5) (ha : a < 256) (hb : b < 256) {post : Int32 → Prop} (h : post (zI (letb k t (decide (a < b))))) : wp_X1_letHit post (nI k) (nI t) (nI a - nI b) := by
  have e : ∀ m : Nat, m ≤ 5 → ∀ n : Nat, n ≤ 5 → (nI m = nI n ↔ m = n) := fun m hm n hn => nI_eq (by omega) (by omega)
  have e43 : ∀ x0 x1 : Int32, ((a < b → post (nI 0)) ∧ (¬ a < b → post (nI 1))) → wp_X1_letHit_43 post x0 x1 (nI a - nI b) := fun x0 x1 q => by
    unfold wp_X1_letHit_43
    exact wc (sub_lt0 ha hb) q.1 q.2
  have e33 : (letb k t (decide (a < b)) = ((!decide (t = 2) && !decide (t = 3)) || !decide (a < b))) → wp_X1_letHit_33 post (nI k) (nI t) (nI a - nI b) := fun q => by
    rw [q] at h
    unfold wp_X1_letHit_33
    have fin : (t = 2 ∨ t = 3) → wp_X1_letHit_43 post (nI k) (nI t) (nI a - nI b) := fun q2 => by
      refine e43 _ _ ⟨fun c => ?_, fun c => ?_⟩
      · rcases q2 with q2 | q2 <;> simpa [q2, c, zI] using h
      · rcases q2 with q2 | q2 <;> simpa [q2, c, zI] using h
    refine wc (e t ht 2 (by decide)) (fun c => fin (Or.inl c)) (fun c => ?_)
    refine wc2 (e t ht 3 (by decide)) (fun c2 => fin (Or.inr c2)) (fun c2 => ?_)
    simpa [c, c2, zI] using h
  have e27 : (k = 1 ∨ k = 4) → ¬ (t = 3) → wp_X1_letHit_27 post (nI k) (nI t) (nI a - nI b) := fun q q2 => by
    unfold wp_X1_letHit_27
    refine wc (sub_ge0 ha hb) (fun c => e33 ?_) (fun c => ?_)
    · rcases q with q | q <;> simp [letb, q, c, q2]
    · have c : a < b := by omega
      rcases q with q | q <;> simpa [letb, q, c, q2, zI] using h
  have e17 : ¬ k = 5 → (¬ t = 3 ∨ k = 3) → wp_X1_letHit_17 post (nI k) (nI t) (nI a - nI b) := fun q q2 => by
    unfold wp_X1_letHit_17
    refine wc (e k hk 1 (by decide)) (fun c => e27 (Or.inl c) (by omega)) (fun c => ?_)
    refine wc2 (e k hk 4 (by decide)) (fun c2 => e27 (Or.inr c2) (by omega)) (fun c2 => e33 ?_)
    rcases q2 with q2 | q2 <;> simp [letb, q, q2, c, c2]
  unfold wp_X1_letHit
  refine wc (e k hk 5 (by decide)) (fun c => ?_) (fun c => ?_)
  · simpa [letb, c, zI] using h
  · refine wc2 (e t ht 3 (by decide)) (fun c2 => ?_) (fun c2 => e17 c (Or.inl c2))
    refine wc (e k hk 3 (by decide)) (fun c3 => e17 c (Or.inr c3)) (fun c3 => ?_)
    simpa [letb, c, c2, c3, zI] using h
/-- what is found when rows below a are through, and of row a what goes below b -/
def fnB (h : Nat → Nat) (a b x y : Nat) : Bool := (decide (y < h 42) && ((h (24 + x)).testBit y && lets h x y) && (decide (x < a) || (decide (x = a) && decide (y < b)))) || (decide (x < a) && (decide (x = y) && decide (h x = 4)))
def fnd (h : Nat → Nat) (a b x : Nat) : Nat := bs (fnB h a b x) 8
theorem fnd_tb (h : Nat → Nat) (a b x y : Nat) : (fnd h a b x).testBit y = (decide (y < 8) && fnB h a b x y) := bs_tb _ _ _
theorem fnd_lt (h : Nat → Nat) (a b x : Nat) : fnd h a b x < 256 := bs_lt _ _
theorem fnd_next {h : Nat → Nat} (H : hv h) {a b : Nat} (ha : a < h 42) (hb : b < h 42) {z : Bool} (hz : (lets h a b && (h (24 + a)).testBit b) = z) : ∀ x, x < 8 → upN (fnd h a b) a (fnd h a b a ||| (if z then 2 ^ b else 0)) x = fnd h a (b + 1) x := by
  intro x hx
  have h8 := H.1
  refine tb8_ext ?_ (fnd_lt _ _ _ _) (fun y hy => ?_)
  · unfold upN
    split
    · refine or_lt8 (fnd_lt _ _ _ _) ?_
      split
      · exact pw_lt8 (by omega)
      · decide
    · exact fnd_lt _ _ _ _
  · rw [fnd_tb]
    unfold upN
    by_cases hxa : x = a
    · subst hxa
      rw [if_pos rfl, Nat.testBit_or, fnd_tb]
      by_cases hyb : y = b
      · subst hyb
        have e1 : (if z = true then 2 ^ y else 0).testBit y = z := by cases z <;> simp [Nat.testBit_two_pow_self]
        rw [e1, ← hz]
        unfold fnB
        cases lets h x y <;> cases (h (24 + x)).testBit y <;> simp [hy, hb]
      · have e1 : (if z = true then 2 ^ b else 0).testBit y = false := by
          split
          · rw [tb_pw, decide_eq_false (Ne.symm hyb)]
          · exact Nat.zero_testBit _
        rw [e1]
        unfold fnB
        have e2 : decide (y < b + 1) = decide (y < b) := by
          by_cases q : y < b
          · rw [decide_eq_true q, decide_eq_true (by omega)]
          · rw [decide_eq_false q, decide_eq_false (by omega)]
        rw [e2]; simp
    · rw [if_neg hxa, fnd_tb]
      unfold fnB
      simp [hxa]
theorem s_hitsIn {h : Nat → Nat} (H : hv h) {post : Int64 → Prop} (hp : post (pL (hit h))) : wp_X1_hitsIn post (nI (h 42)) (nI (h 40)) (pL (fun c => h c)) (pL (fun c => h (8 + c))) (pL (fun c => h (24 + c))) := by
  have h8 := H.1
  unfold wp_X1_hitsIn
  rw [pL_z]
  refine loop_0 (fun n a v => wp_X1_hitsIn_4 post (nI (h 42)) (nI (h 40)) (pL (fun c => h c)) (pL (fun c => h (8 + c))) (pL (fun c => h (24 + c))) n v (nI a)) (fun a v => v = pL (fnd h a 0)) (h 42) _ ?_ ?_ ?_
  · exact pL_congr (fun i hi => tb8_ext (by decide) (fnd_lt _ _ _ _) (fun k hk => by rw [fnd_tb]; simp [fnB]))
  · intro n v hv_
    subst hv_
    show wp_X1_hitsIn_4 _ _ _ _ _ _ _ _ _
    unfold wp_X1_hitsIn_4
    refine wt (nI_le (Nat.le_refl _) (by omega)) ?_
    refine s_within (fun i _ => fnd_lt _ _ _ _) H.heard ?_
    rw [pL_congr (g := hit h) (fun a ha => ?_)]
    · exact hp
    · refine tb8_ext ?_ (hit_r8 h a ha) (fun b hb => ?_)
      · split
        · exact and_lt8 (fnd_lt _ _ _ _) _
        · decide
      · rw [hit_tb, decide_eq_true hb]
        unfold hitB
        cases q : (h 40).testBit a
        · have : hd h a = false := q
          rw [this]; simp
        · have q' : hd h a = true := q
          have ha2 := H.hd_lt q'
          rw [q', if_pos rfl, Nat.testBit_and, fnd_tb, decide_eq_true hb]
          cases q2 : (h 40).testBit b
          · have : hd h b = false := q2
            rw [this]; simp
          · have q2' : hd h b = true := q2
            have hb2 := H.hd_lt q2'
            rw [q2']
            unfold fnB
            by_cases hab : a = b
            · subst hab
              rw [H.self ha]; simp [ha2]
            · simp [hab, ha2, hb2]
  · intro n a v ha hv_ ih
    subst hv_
    show wp_X1_hitsIn_4 _ _ _ _ _ _ _ _ _
    unfold wp_X1_hitsIn_4
    refine wf (nI_ge ha (by omega)) ?_
    refine loop_0 (fun n2 b v => wp_X1_hitsIn_15 post (nI (h 42)) (nI (h 40)) (pL (fun c => h c)) (pL (fun c => h (8 + c))) (pL (fun c => h (24 + c))) (wp_X1_hitsIn_4 post (nI (h 42)) (nI (h 40)) (pL (fun c => h c)) (pL (fun c => h (8 + c))) (pL (fun c => h (24 + c))) n) n2 v (nI a) (nI b)) (fun b v => v = pL (fnd h a b)) (h 42) _ rfl ?_ ?_
    · intro n2 v hv_
      subst hv_
      show wp_X1_hitsIn_15 _ _ _ _ _ _ _ _ _ _ _
      unfold wp_X1_hitsIn_15
      refine wt (nI_le (Nat.le_refl _) (by omega)) ?_
      have key : ∀ x, x < 8 → fnd h (a + 1) 0 x = upN (fnd h a (h 42)) a (fnd h a (h 42) a ||| (if h a = 4 then 2 ^ a else 0)) x := by
        intro x hx
        refine tb8_ext (fnd_lt _ _ _ _) ?_ (fun y hy => ?_)
        · unfold upN
          split
          · refine or_lt8 (fnd_lt _ _ _ _) ?_
            split
            · exact pw_lt8 (by omega)
            · decide
          · exact fnd_lt _ _ _ _
        · rw [fnd_tb]
          unfold upN
          by_cases hxa : x = a
          · subst hxa
            rw [if_pos rfl, Nat.testBit_or, fnd_tb]
            have e1 : (if h x = 4 then 2 ^ x else 0).testBit y = (decide (x = y) && decide (h x = 4)) := by
              split
              · rename_i q; rw [tb_pw, decide_eq_true q]; simp
              · rename_i q; rw [Nat.zero_testBit, decide_eq_false q]; simp
            rw [e1]
            unfold fnB
            by_cases hyn : y < h 42
            · simp [hyn, hy]
            · simp [hyn, hy]
          · rw [if_neg hxa, fnd_tb]
            unfold fnB
            have e2 : decide (x < a + 1) = decide (x < a) := by
              by_cases q : x < a
              · rw [decide_eq_true q, decide_eq_true (by omega)]
              · rw [decide_eq_false q, decide_eq_false (by omega)]
            rw [e2]; simp [hxa]
      refine s_kindOf H.r_kd (by omega) ?_
      refine wc2 (nI_eq (by have := H.kd (show a < 8 by omega); omega) (by decide)) (fun c => ?_) (fun c => ?_)
      · refine s_pair (by omega) (by omega) ?_
        rw [nS]
        refine ih _ ?_
        rw [pL, lx_or, pk_orp (by omega) (by omega)]
        exact pL_congr (fun x hx => by rw [key x hx, if_pos c])
      · rw [nS]
        refine ih _ (pL_congr (fun x hx => ?_))
        rw [key x hx, if_neg c, Nat.or_zero]
        unfold upN
        split
        · rename_i q; rw [q]
        · rfl
    · intro n2 b v hb hv_ ih2
      subst hv_
      show wp_X1_hitsIn_15 _ _ _ _ _ _ _ _ _ _ _
      unfold wp_X1_hitsIn_15
      have ha8 : a < 8 := by omega
      have hb8 : b < 8 := by omega
      refine wf (nI_ge hb (by omega)) ?_
      refine s_figureOf H.r_fg ha8 ?_
      refine s_figureOf H.r_fg hb8 ?_
      refine s_kindOf H.r_kd ha8 ?_
      refine s_kindOf H.r_kd hb8 ?_
      refine s_letHit (H.kd ha8) (H.kd hb8) (H.r_fg a ha8) (H.r_fg b hb8) ?_
      refine zc (fun hz => ?_) (fun hz => ?_)
      · rw [nS]
        refine ih2 _ (pL_congr (fun x hx => ?_))
        have hz' : lets h a b = false := hz
        rw [← fnd_next H ha hb (z := false) (by rw [hz']; rfl) x hx]
        unfold upN
        split
        · rename_i q; rw [q]; simp
        · rfl
      · have hz' : lets h a b = true := hz
        refine s_has ha8 hb8 ?_
        refine zc (fun hy => ?_) (fun hy => ?_)
        · rw [nS]
          refine ih2 _ (pL_congr (fun x hx => ?_))
          rw [← fnd_next H ha hb (z := false) (by rw [hz', hy]; rfl) x hx]
          unfold upN
          split
          · rename_i q; rw [q]; simp
          · rfl
        · refine s_pair ha8 hb8 ?_
          rw [nS]
          refine ih2 _ ?_
          rw [pL, lx_or, pk_orp ha8 hb8]
          refine pL_congr (fun x hx => ?_)
          rw [← fnd_next H ha hb (z := true) (by rw [hz', hy]; rfl) x hx]
          simp
theorem lead0_fun (h : Nat → Nat) : (fun a => if (h 40).testBit a then (fun c => h (32 + c)) a &&& h 40 else 0) = lead0 h := rfl
theorem s_reckon {h : Nat → Nat} (H : hv h) {a1 a2 a3 a4 : Int64} {post : Int64 → Int64 → Int64 → Int64 → Prop} (hp : post (pL (hit h)) (pL (lead h)) (pL (dft h)) (pL (dfr h))) : wp_X1_reckon post a1 a2 a3 a4 (nI (h 42)) (nI (h 40)) (nI (h 41)) (pL (fun c => h c)) (pL (fun c => h (8 + c))) (pL (fun c => h (24 + c))) (pL (fun c => h (32 + c))) := by
  have hm := H.2.1
  have e : ∀ n : Nat, n ≤ 3 → (nI (h 41) = nI n ↔ h 41 = n) := fun n hn => nI_eq (by omega) (by omega)
  have j1 := rch_lt (f := hit h) (n := 8) (fun i hi => hit_r8 h i hi)
  unfold wp_X1_reckon
  refine s_hitsIn H ?_
  refine s_within H.r_su H.heard ?_
  rw [lead0_fun]
  refine s_closed (lead0_r8 H) ?_
  have fin : ∀ x : Nat → Nat, (∀ i, i < 8 → x i = dft h i) → wp_X0_turned (fun r111 => post (pL (hit h)) (pL (lead h)) (pL x) r111) (pL x) := by
    intro x hx
    rw [pL_congr hx]
    exact s_turned hp
  have e86 : ∀ x : Nat → Nat, (∀ i, i < 8 → (x i ||| rch (lead h) (hit h i) 8) = dft h i) → wp_X1_reckon_86 post (nI (h 42)) (nI (h 40)) (nI (h 41)) (pL (fun c => h c)) (pL (fun c => h (8 + c))) (pL (fun c => h (24 + c))) (pL (fun c => h (32 + c))) (pL (hit h)) (pL (lead h)) (pL x) a4 := by
    intro x hx
    unfold wp_X1_reckon_86
    refine s_joined (hit_r8 h) (lead_r8 H) ?_
    rw [show pL x ||| pL (fun a => rch (lead h) (hit h a) 8) = pL (fun i => x i ||| rch (lead h) (hit h i) 8) by unfold pL; rw [lx_or, pk_or]]
    exact fin _ hx
  have e70 : ∀ x : Nat → Nat, (∀ i, i < 8 → x i = (hit h i ||| (if h 41 % 2 = 1 then rch (hit h) (lead h i) 8 else 0))) → wp_X1_reckon_70 post (nI (h 42)) (nI (h 40)) (nI (h 41)) (pL (fun c => h c)) (pL (fun c => h (8 + c))) (pL (fun c => h (24 + c))) (pL (fun c => h (32 + c))) (pL (hit h)) (pL (lead h)) (pL x) a4 := by
    intro x hx
    unfold wp_X1_reckon_70
    refine wc (e 2 (by decide)) (fun c => e86 x (fun i hi => ?_)) (fun c => ?_)
    · rw [hx i hi]; unfold dft; rw [c]; simp
    · refine wc2 (e 3 (by decide)) (fun c2 => e86 x (fun i hi => ?_)) (fun c2 => fin x (fun i hi => ?_))
      · rw [hx i hi]; unfold dft; rw [c2]; simp [Nat.or_assoc]
      · rw [hx i hi]; unfold dft; rw [if_neg (show ¬ 1 < h 41 by omega)]; simp
  have e50 : h 41 % 2 = 1 → wp_X1_reckon_50 post (nI (h 42)) (nI (h 40)) (nI (h 41)) (pL (fun c => h c)) (pL (fun c => h (8 + c))) (pL (fun c => h (24 + c))) (pL (fun c => h (32 + c))) (pL (hit h)) (pL (lead h)) (pL (hit h)) a4 := by
    intro q
    unfold wp_X1_reckon_50
    refine s_joined (lead_r8 H) (hit_r8 h) ?_
    rw [show pL (hit h) ||| pL (fun a => rch (hit h) (lead h a) 8) = pL (fun i => hit h i ||| rch (hit h) (lead h i) 8) by unfold pL; rw [lx_or, pk_or]]
    exact e70 _ (fun i hi => by rw [if_pos q])
  refine wc (e 1 (by decide)) (fun c => e50 (by omega)) (fun c => ?_)
  refine wc2 (e 3 (by decide)) (fun c2 => e50 (by omega)) (fun c2 => e70 _ (fun i hi => by rw [if_neg (show ¬ h 41 % 2 = 1 by omega)]; simp))
