/-! missing -/
theorem dif_31 {x g : Nat} (hg : g < 32) : dif g (x &&& 31) = 0 ↔ dif g x = 0 := by
  have l : g < 256 := by omega
  rw [dif_0 l, dif_0 l]
  have t31 : ∀ i, (31 : Nat).testBit i = decide (i < 5) := fun i => Nat.testBit_two_pow_sub_one 5 i
  refine ⟨fun q i hi b => ?_, fun q i hi b => ?_⟩
  · have := q i hi b
    rw [Nat.testBit_and, Bool.and_eq_true] at this
    exact this.1
  · rw [Nat.testBit_and, Bool.and_eq_true]
    refine ⟨q i hi b, ?_⟩
    rw [t31]
    refine decide_eq_true ?_
    cases Nat.lt_or_ge i 5 with
    | inl k => exact k
    | inr k =>
      rw [Nat.testBit_lt_two_pow (Nat.lt_of_lt_of_le (show g < 2 ^ 5 from hg) (Nat.pow_le_pow_right (by decide) k))] at b
      cases b
theorem pc_ge {s n : Nat} : ∀ m, n ≤ m → (∀ i, n ≤ i → i < m → s.testBit i = false) → pc s m = pc s n
  | 0, hm, _ => by rw [show n = 0 by omega]
  | m + 1, hm, hz => by
    by_cases e : n = m + 1
    · rw [e]
    · rw [pc, hz m (by omega) (Nat.lt_succ_self _)]
      exact pc_ge m (by omega) (fun i h1 h2 => hz i h1 (by omega))
theorem pc_31 {x : Nat} (y : Nat) (h : ∀ i, i < 8 → y.testBit i = (x.testBit i && decide (i < 5))) : pc y 8 = pc x 5 := by
  rw [pc_ge (n := 5) 8 (by omega) (fun i h1 h2 => by rw [h i h2, decide_eq_false (by omega), Bool.and_false])]
  exact pc_congr (fun i hi => by rw [h i (by omega), decide_eq_true hi, Bool.and_true])
theorem tb_31 (i : Nat) : (31 : Nat).testBit i = decide (i < 5) := Nat.testBit_two_pow_sub_one 5 i
def od1 (h : Nat → Nat) (c t g : Nat) : Nat := if dif g (h 40) = 0 then (if (tI (wo h g)).testBit c then (t - 1) ^ pc (dif (h 40) g) 5 else 0) else 0
def odS (h : Nat → Nat) (c t : Nat) : Nat → Nat
  | 0 => 0
  | g + 1 => odS h c t g + od1 h c t g
theorem p20_le {t k : Nat} (ht : t ≤ 20) (hk : k ≤ 5) : t ^ k ≤ 3200000 := Nat.le_trans (Nat.pow_le_pow_left ht k) (Nat.le_trans (Nat.pow_le_pow_right (by decide) hk) (by decide))
theorem od1_le {h : Nat → Nat} {c t g : Nat} (ht : t ≤ 20) : od1 h c t g ≤ 3200000 := by
  unfold od1
  split
  · split
    · exact p20_le (by omega) (pc_le _ _)
    · omega
  · omega
theorem odS_le {h : Nat → Nat} {c t : Nat} (ht : t ≤ 20) : ∀ g, odS h c t g ≤ g * 3200000
  | 0 => Nat.zero_le _
  | g + 1 => by
    have := odS_le (h := h) (c := c) ht g
    have := od1_le (h := h) (c := c) (g := g) ht
    rw [odS]
    omega
section MIS
variable {h : Nat → Nat}
theorem s_power {b k : Nat} (hb : b < 2 ^ 31) (hk : k < 2 ^ 31) {post : Int64 → Prop} (hp : post (lN (b ^ k))) : wp_X8_power post (nI b) (nI k) := by
  unfold wp_X8_power
  refine loop_0 (fun n i v => wp_X8_power_5 post (nI b) (nI k) n v (nI i)) (fun i v => v = lN (b ^ i)) k _ rfl ?_ ?_
  · rintro n v rfl
    show wp_X8_power_5 _ _ _ _ _ _
    unfold wp_X8_power_5
    exact wt (nI_le (Nat.le_refl _) hk) hp
  · rintro n i v hi rfl ih
    show wp_X8_power_5 _ _ _ _ _ _
    unfold wp_X8_power_5
    refine wf (nI_ge hi hk) ?_
    rw [nS, nI_l hb, lN_mul]
    exact ih _ rfl
theorem h31 (H : hv h) : h 40 &&& 31 < 256 := and_lt8 H.heard 31
theorem s_allOdds (H : hv h) {t : Nat} (ht : t ≤ 20) {post : Int64 → Prop} (hp : post (lN (t ^ pc (h 40) 5))) : wp_X8_allOdds post (nI (h 40)) (nI t) := by
  unfold wp_X8_allOdds
  rw [nx_and]
  refine s_bitCount (h31 H) ?_
  rw [pc_31 (x := h 40) _ (fun i _ => by rw [Nat.testBit_and, tb_31])]
  refine s_power (by omega) (by have := pc_le (h 40) 5; omega) hp
theorem s_oddsOfIn (H : hv h) {sz hr md : Int32} {ca fi vo at_ su : Int64} (e : HC h sz hr md ca fi vo at_ su) {c t : Nat} (hc : c < 8) (ht : t ≤ 20) (ht1 : 1 ≤ t) {d1 d2 d3 : Int32} {d4 d5 d6 d7 d8 : Int64} {s1 s2 s3 s4 : Int64} {t1 t2 t3 : Int32} {t4 : Int64} {post : Int64 → Int32 → Int32 → Int32 → Int64 → Int64 → Int64 → Int64 → Int64 → Int64 → Int64 → Int64 → Int64 → Int32 → Int32 → Int32 → Int64 → Prop} (hp : ∀ d1 d2 d3 d4 d5 d6 d7 d8 s1 s2 s3 s4 t1 t2 t3 t4, post (lN (odS h c t 32)) d1 d2 d3 d4 d5 d6 d7 d8 s1 s2 s3 s4 t1 t2 t3 t4) : wp_X8_oddsOfIn post d1 d2 d3 d4 d5 d6 d7 d8 s1 s2 s3 s4 t1 t2 t3 t4 sz hr md ca fi vo at_ su (nI c) (nI t) := by
  have l4 := H.heard
  have l31 := h31 H
  have he := e
  obtain ⟨rfl, rfl, rfl, rfl, rfl, rfl, rfl, rfl⟩ := e
  unfold wp_X8_oddsOfIn
  rw [nx_and]
  refine lo17 (fun n g v d1 d2 d3 d4 d5 d6 d7 d8 s1 s2 s3 s4 t1 t2 t3 t4 => wp_X8_oddsOfIn_15 post (nI (h 42)) (nI (h 40)) (nI (h 41)) (pL (fun c => h c)) (pL (fun c => h (8 + c))) (pL (fun c => h (16 + c))) (pL (fun c => h (24 + c))) (pL (fun c => h (32 + c))) (nI c) (nI t) n (nI (h 40 &&& 31)) v (nI g) d1 d2 d3 d4 d5 d6 d7 d8 s1 s2 s3 s4 t1 t2 t3 t4) (fun g v d1 d2 d3 d4 d5 d6 d7 d8 s1 s2 s3 s4 t1 t2 t3 t4 => v = lN (odS h c t g)) 32 _ _ _ _ _ _ _ _ _ _ _ _ _ _ _ _ _ rfl ?_ ?_
  · rintro n v d1 d2 d3 d4 d5 d6 d7 d8 s1 s2 s3 s4 t1 t2 t3 t4 rfl
    show wp_X8_oddsOfIn_15 _ _ _ _ _ _ _ _ _ _ _ _ _ _ _ _ _ _ _ _ _ _ _ _ _ _ _ _ _ _ _
    unfold wp_X8_oddsOfIn_15
    exact wt (nI_lt (by decide) (by decide)) (hp _ _ _ _ _ _ _ _ _ _ _ _ _ _ _ _)
  · rintro n g v d1 d2 d3 d4 d5 d6 d7 d8 s1 s2 s3 s4 t1 t2 t3 t4 hg rfl ih
    show wp_X8_oddsOfIn_15 _ _ _ _ _ _ _ _ _ _ _ _ _ _ _ _ _ _ _ _ _ _ _ _ _ _ _ _ _ _ _
    unfold wp_X8_oddsOfIn_15
    refine wf (nI_nlt (by omega) (by omega)) ?_
    rw [nS g, nx_dif (show g < 256 by omega), nx_dif l31]
    have d31 := dif_31 (x := h 40) hg
    refine wc2 (nI_eq0 (by have := dif_lt (show g < 256 by omega) (h 40 &&& 31); omega)) (fun q => ?_) (fun q => ih _ _ _ _ _ _ _ _ _ _ _ _ _ _ _ _ _ ?_)
    · refine s_draftWithout H he (fun d1 d2 d3 d4 d5 d6 d7 d8 e2 => ?_)
      refine s_draftIn (wo_ok H g) e2 ?_
      intro _ _ _ _ _
      refine s_contains (tI_lt (wo_ok H g)) hc ?_
      refine zc (fun z => ih _ _ _ _ _ _ _ _ _ _ _ _ _ _ _ _ _ ?_) (fun z => ?_)
      · rw [odS, od1, if_pos (d31.mp q), z]; rfl
      · refine s_bitCount (dif_lt l31 g) ?_
        have ep : pc (dif (h 40 &&& 31) g) 8 = pc (dif (h 40) g) 5 := pc_31 _ (fun i _ => by
          rw [dif_tb l31, dif_tb l4, Nat.testBit_and, tb_31]
          cases (h 40).testBit i <;> cases g.testBit i <;> simp)
        rw [ep, pk_sub ht1]
        refine s_power (by omega) (by have := pc_le (dif (h 40) g) 5; omega) ?_
        rw [lN_add]
        refine ih _ _ _ _ _ _ _ _ _ _ _ _ _ _ _ _ _ ?_
        rw [odS, od1, if_pos (d31.mp q), z]; rfl
    · rw [odS, od1, if_neg (fun k => q (d31.mpr k))]; rfl
theorem md2 {a b : Nat} (hb : 0 < b) (h : b < a) : a % b * 2 < a := by
  have h1 := Nat.mod_lt a hb
  have h2 := Nat.div_add_mod a b
  have h3 : 1 ≤ a / b := (Nat.one_le_div_iff hb).mpr (by omega)
  have h4 : b * 1 ≤ b * (a / b) := Nat.mul_le_mul_left b h3
  omega
theorem lN_c0 {n : Nat} (hn : n < 2 ^ 63) : lg_cmp (lN n) (lN 0) = 0 ↔ n = 0 := by rw [lg_cmp0, lN_eq0 (by omega)]
theorem lN_z0 {n : Nat} (hn : n < 2 ^ 63) : lN n = 0 ↔ n = 0 := by rw [show (0 : Int64) = lN 0 by decide +kernel, lN_eq0 (by omega)]
theorem s_common2 {a b : Nat} (ha : a < 2 ^ 31) (hb : b < 2 ^ 31) {post : Int64 → Prop} (hp : post (lN (Nat.gcd a b))) : wp_X8_commonDivisor post (lN a) (lN b) := by
  unfold wp_X8_commonDivisor
  refine loop_0 (fun n i (s : Nat × Nat) => wp_X8_commonDivisor_9 post (lN a) (lN b) n (lN s.1) (lN s.2) (nI i)) (fun i s => (s.1 < 2 ^ 31 ∧ s.2 < 2 ^ 31) ∧ Nat.gcd s.2 s.1 = Nat.gcd a b ∧ s.1 * s.2 < 2 ^ (63 - i) ∧ (0 < i → s.2 < s.1)) 100 (b, a) ⟨⟨hb, ha⟩, rfl, ?_, fun q => by omega⟩ ?_ ?_
  · exact Nat.lt_of_le_of_lt (Nat.mul_le_mul (Nat.le_of_lt hb) (Nat.le_of_lt ha)) (show 2 ^ 31 * 2 ^ 31 < 2 ^ (63 - 0) by decide)
  · rintro n ⟨x, y⟩ ⟨⟨lx, ly⟩, eg, pr, lt⟩
    show wp_X8_commonDivisor_9 _ _ _ _ _ _ _
    unfold wp_X8_commonDivisor_9
    refine wt (nI_le (Nat.le_refl _) (by decide)) ?_
    have l2 : y < x := lt (by decide)
    have p1 : x * y < 1 := pr
    have y0 : y = 0 := by
      cases y with
      | zero => rfl
      | succ y => have : 1 * 1 ≤ x * (y + 1) := Nat.mul_le_mul (by omega) (by omega); omega
    have eg2 : Nat.gcd y x = Nat.gcd a b := eg
    rw [y0, Nat.gcd_zero_left] at eg2
    show post (lN x)
    rw [eg2]
    exact hp
  · rintro n i ⟨x, y⟩ hi ⟨⟨lx, ly⟩, eg, pr, lt⟩ ih
    show wp_X8_commonDivisor_9 _ _ _ _ _ _ _
    unfold wp_X8_commonDivisor_9
    refine wf (nI_ge hi (by decide)) ?_
    have lx' : x < 2 ^ 31 := lx
    have ly' : y < 2 ^ 31 := ly
    have eg2 : Nat.gcd y x = Nat.gcd a b := eg
    have pr2 : x * y < 2 ^ (63 - i) := pr
    refine wc (lN_c0 (n := y) (by omega)) (fun q => ?_) (fun q => ⟨fun c => q ((lN_z0 (n := y) (by omega)).mp c), ?_⟩)
    · rw [q, Nat.gcd_zero_left] at eg2
      show post (lN x)
      rw [eg2]
      exact hp
    · have y0 : 0 < y := Nat.pos_of_ne_zero q
      have e1 := pk_lRem (a := x) (b := y) (by omega) y0 (by omega)
      show wp_X8_commonDivisor_9 post (lN a) (lN b) n (lN y) (lN x - lN x / lN y * lN y) (nI i + nI 1)
      rw [e1, nS]
      have lm := Nat.mod_lt x y0
      refine ih (y, x % y) ⟨⟨ly, show x % y < 2 ^ 31 by omega⟩, ?_, ?_, fun _ => lm⟩
      · show Nat.gcd (x % y) y = _
        rw [← Nat.gcd_rec, eg2]
      · show y * (x % y) < 2 ^ (63 - (i + 1))
        cases i with
        | zero =>
          have : y * (x % y) ≤ 2 ^ 31 * 2 ^ 30 + 2 ^ 31 * 2 ^ 30 - 1 := by
            have k : y * (x % y) ≤ (2 ^ 31 - 1) * (2 ^ 31 - 1) := Nat.mul_le_mul (by omega) (by omega)
            omega
          exact Nat.lt_of_le_of_lt this (by decide)
        | succ j =>
          have l2 : y < x := lt (by omega)
          have m2 := md2 y0 l2
          have m3 : y * (x % y * 2) ≤ y * x := Nat.mul_le_mul_left y (by omega)
          have m4 : y * (x % y * 2) = y * (x % y) * 2 := (Nat.mul_assoc y (x % y) 2).symm
          have m5 : y * x = x * y := Nat.mul_comm y x
          by_cases big : j + 1 < 63
          · have : 2 ^ (63 - (j + 1)) = 2 ^ (63 - (j + 1 + 1)) * 2 := by
              rw [← Nat.pow_succ]
              congr 1
              omega
            omega
          · have z : 63 - (j + 1) = 0 := by omega
            rw [z] at pr2
            have : 1 * 1 ≤ x * y := Nat.mul_le_mul (by omega) y0
            omega
theorem m_part {a b : Nat} (ha : a < 2 ^ 31) (hb : b < 2 ^ 31) (b0 : 0 < b) {w : Bool} {post : Int64 → Prop} (hp : post (lN ((if w then b else a) / Nat.gcd a b))) : wp_X11_part post (lN a) (lN b) (zI w) := by
  unfold wp_X11_part
  refine loop_m (fun n (s : Nat × Nat) => wp_X11_part_6 post (lN a) (lN b) (zI w) n (lN s.1) (lN s.2)) (fun s => (s.1 < 2 ^ 31 ∧ s.2 < 2 ^ 31) ∧ Nat.gcd s.2 s.1 = Nat.gcd a b) (fun s => s.2) ?_ (a, b) ⟨⟨ha, hb⟩, Nat.gcd_comm b a⟩
  rintro n ⟨x, y⟩ ⟨⟨lx, ly⟩, eg⟩ ih
  show wp_X11_part_6 _ _ _ _ _ _ _
  unfold wp_X11_part_6
  have lx' : x < 2 ^ 31 := lx
  have ly' : y < 2 ^ 31 := ly
  have eg2 : Nat.gcd y x = Nat.gcd a b := eg
  refine wc (lN_c0 (n := y) (by omega)) (fun q => ?_) (fun q => ⟨fun c => q ((lN_z0 (n := y) (by omega)).mp c), ?_⟩)
  · rw [q, Nat.gcd_zero_left] at eg2
    have g0 : 0 < Nat.gcd a b := Nat.gcd_pos_of_pos_right a b0
    have x0 : ¬ lN x = 0 := fun c => by have := (lN_z0 (n := x) (by omega)).mp c; omega
    show ((¬ zI w = 0 → ¬ lN x = 0 ∧ post (lN b / lN x)) ∧ (zI w = 0 → ¬ lN x = 0 ∧ post (lN a / lN x)))
    refine zc2 (fun z => ⟨x0, ?_⟩) (fun z => ⟨x0, ?_⟩)
    · rw [pk_lDiv (by omega) (by omega) (by omega), eg2]
      rw [z] at hp
      exact hp
    · rw [pk_lDiv (by omega) (by omega) (by omega), eg2]
      rw [z] at hp
      exact hp
  · have y0 : 0 < y := Nat.pos_of_ne_zero q
    have e1 := pk_lRem (a := x) (b := y) (by omega) y0 (by omega)
    show wp_X11_part_6 post (lN a) (lN b) (zI w) n (lN y) (lN x - lN x / lN y * lN y)
    rw [e1]
    have lm := Nat.mod_lt x y0
    refine ih (y, x % y) ⟨⟨ly, show x % y < 2 ^ 31 by omega⟩, ?_⟩ lm
    show Nat.gcd (x % y) y = _
    rw [← Nat.gcd_rec, eg2]
end MIS
