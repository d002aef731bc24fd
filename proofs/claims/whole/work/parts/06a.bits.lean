/-! numbers: nI, lN and bits; rows wb_, nx_ began as rows of kit/laws/BITS.to-paste -/
theorem wb_tb (n : Nat) : (lN n).toBitVec = BitVec.ofNat 64 n := rfl
theorem wb_inj {a b : Int64} (h : a.toBitVec = b.toBitVec) : a = b := Int64.toBitVec_inj.mp h
theorem wb_tn {n : Nat} (h : n < 2 ^ 64) : (lN n).toBitVec.toNat = n := by rw [wb_tb, BitVec.toNat_ofNat, Nat.mod_eq_of_lt h]
theorem wb_c : ∀ k, k < 64 → ((nI k).toInt64 &&& 63) = lN k := by decide +kernel
theorem wb_cu : ∀ k, k < 64 → ((nI k).toInt64.toUInt64 &&& Int64.toUInt64 63) = UInt64.ofNat k := by decide +kernel
theorem wb_sm : ∀ k, k < 64 → (BitVec.ofNat 64 k).smod 64 = BitVec.ofNat 64 k := by decide +kernel
theorem wb_lt2 {a b : Nat} (h : a < b) : 2 ^ a < 2 ^ b := Nat.pow_lt_pow_right (by decide) h
theorem wb_mod (n : Nat) : lN n = lN (n % 2 ^ 64) := wb_inj (by rw [wb_tb, wb_tb]; apply BitVec.eq_of_toNat_eq; rw [BitVec.toNat_ofNat, BitVec.toNat_ofNat, Nat.mod_mod])
theorem wb_shr {n k : Nat} (hn : n < 2 ^ 64) (hk : k < 64) : hcLushr (lN n) (nI k) = lN (n / 2 ^ k) := by
  unfold hcLushr
  rw [wb_cu k hk]
  apply wb_inj
  apply BitVec.eq_of_toNat_eq
  show ((lN n).toUInt64 >>> UInt64.ofNat k).toNat = (BitVec.ofNat 64 _).toNat
  have h1 : (UInt64.ofNat k).toNat = k := by
    show (BitVec.ofNat 64 k).toNat = k
    rw [BitVec.toNat_ofNat, Nat.mod_eq_of_lt (by omega)]
  have h2 : (lN n).toUInt64.toNat = n := wb_tn hn
  rw [UInt64.toNat_shiftRight, h1, h2, Nat.mod_eq_of_lt hk, Nat.shiftRight_eq_div_pow, BitVec.toNat_ofNat, Nat.mod_eq_of_lt (Nat.lt_of_le_of_lt (Nat.div_le_self _ _) hn)]
theorem wb_shl (n : Nat) {k : Nat} (hk : k < 64) : hcLshl (lN n) (nI k) = lN (n * 2 ^ k) := by
  unfold hcLshl
  rw [wb_c k hk]
  apply wb_inj
  rw [Int64.toBitVec_shiftLeft, wb_tb, wb_tb, wb_tb, wb_sm k hk]
  apply BitVec.eq_of_toNat_eq
  rw [BitVec.shiftLeft_eq', BitVec.toNat_shiftLeft, BitVec.toNat_ofNat, BitVec.toNat_ofNat, BitVec.toNat_ofNat, Nat.mod_eq_of_lt (show k < 2 ^ 64 by omega), Nat.shiftLeft_eq, Nat.mul_mod, Nat.mod_mod, ← Nat.mul_mod]
theorem lx_and (a b : Nat) : lN a &&& lN b = lN (a &&& b) := by
  apply wb_inj
  show BitVec.ofNat 64 a &&& BitVec.ofNat 64 b = BitVec.ofNat 64 (a &&& b)
  apply BitVec.eq_of_getLsbD_eq
  intro i hi
  simp [hi]
theorem lx_or (a b : Nat) : lN a ||| lN b = lN (a ||| b) := by
  apply wb_inj
  show BitVec.ofNat 64 a ||| BitVec.ofNat 64 b = BitVec.ofNat 64 (a ||| b)
  apply BitVec.eq_of_getLsbD_eq
  intro i hi
  simp [hi]
theorem lx_xor (a b : Nat) : lN a ^^^ lN b = lN (a ^^^ b) := by
  apply wb_inj
  show BitVec.ofNat 64 a ^^^ BitVec.ofNat 64 b = BitVec.ofNat 64 (a ^^^ b)
  apply BitVec.eq_of_getLsbD_eq
  intro i hi
  simp [hi]
theorem nx_and (a b : Nat) : nI a &&& nI b = nI (a &&& b) := by
  apply Int32.toBitVec_inj.1
  show BitVec.ofNat 32 a &&& BitVec.ofNat 32 b = BitVec.ofNat 32 (a &&& b)
  apply BitVec.eq_of_getLsbD_eq
  intro i hi
  simp [hi]
theorem nx_or (a b : Nat) : nI a ||| nI b = nI (a ||| b) := by
  apply Int32.toBitVec_inj.1
  show BitVec.ofNat 32 a ||| BitVec.ofNat 32 b = BitVec.ofNat 32 (a ||| b)
  apply BitVec.eq_of_getLsbD_eq
  intro i hi
  simp [hi]
theorem nx_xor (a b : Nat) : nI a ^^^ nI b = nI (a ^^^ b) := by
  apply Int32.toBitVec_inj.1
  show BitVec.ofNat 32 a ^^^ BitVec.ofNat 32 b = BitVec.ofNat 32 (a ^^^ b)
  apply BitVec.eq_of_getLsbD_eq
  intro i hi
  simp [hi]
theorem n_m1 : (-1 : Int32) = nI 4294967295 := by decide +kernel
theorem l_m1 : (-1 : Int64) = lN 18446744073709551615 := by decide +kernel
theorem l_255 : (255 : Int64) = lN 255 := by decide +kernel
theorem n_mod (n : Nat) : nI n = nI (n % 2 ^ 32) := Int32.toBitVec_inj.1 (by show BitVec.ofNat 32 n = BitVec.ofNat 32 (n % 2 ^ 32); apply BitVec.eq_of_toNat_eq; rw [BitVec.toNat_ofNat, BitVec.toNat_ofNat, Nat.mod_mod])
/-! bits of a predicate -/
def bs (p : Nat → Bool) : Nat → Nat
  | 0 => 0
  | n + 1 => bs p n ||| (if p n then 2 ^ n else 0)
theorem bs_tb (p : Nat → Bool) (n i : Nat) : (bs p n).testBit i = (decide (i < n) && p i) := by
  induction n with
  | zero => simp [bs]
  | succ n ih =>
    unfold bs
    rw [Nat.testBit_or, ih]
    by_cases h : i = n
    · subst h
      cases hp : p i <;> simp [Nat.testBit_two_pow_self]
    · have h2 : (if p n then 2 ^ n else 0).testBit i = false := by
        cases hp : p n
        · simp
        · simp only [if_true]
          exact Nat.testBit_two_pow_of_ne (Ne.symm h)
      rw [h2]
      have h3 : decide (i < n + 1) = decide (i < n) := by
        by_cases h4 : i < n
        · simp [h4, Nat.lt_succ_of_lt h4]
        · have h5 : ¬ i < n + 1 := by omega
          simp [h4, h5]
      rw [h3]; simp
theorem bs_lt (p : Nat → Bool) (n : Nat) : bs p n < 2 ^ n := Nat.lt_pow_two_of_testBit _ (fun i hi => by rw [bs_tb]; simp [Nat.not_lt.mpr hi])
theorem bs_congr {p q : Nat → Bool} {n : Nat} (h : ∀ i, i < n → p i = q i) : bs p n = bs q n := Nat.eq_of_testBit_eq (fun i => by
  rw [bs_tb, bs_tb]
  by_cases hi : i < n
  · simp [hi, h i hi]
  · simp [hi])
theorem tb8_ext {a b : Nat} (ha : a < 256) (hb : b < 256) (h : ∀ i, i < 8 → a.testBit i = b.testBit i) : a = b := Nat.eq_of_testBit_eq (fun i => by
  by_cases hi : i < 8
  · exact h i hi
  · rw [Nat.testBit_lt_two_pow (Nat.lt_of_lt_of_le ha (Nat.pow_le_pow_right (n := 2) (by decide) (show 8 ≤ i by omega))), Nat.testBit_lt_two_pow (Nat.lt_of_lt_of_le hb (Nat.pow_le_pow_right (n := 2) (by decide) (show 8 ≤ i by omega)))])
theorem tb_hi {a i : Nat} (ha : a < 256) (hi : 8 ≤ i) : a.testBit i = false := Nat.testBit_lt_two_pow (Nat.lt_of_lt_of_le ha (Nat.pow_le_pow_right (n := 2) (by decide) hi))
/-- what is in a and not in b (sets of eight) -/
def dif (a b : Nat) : Nat := a &&& (255 ^^^ b)
theorem tb_255 (i : Nat) : (255 : Nat).testBit i = decide (i < 8) := Nat.testBit_two_pow_sub_one 8 i
theorem dif_tb {a : Nat} (ha : a < 256) (b i : Nat) : (dif a b).testBit i = (a.testBit i && !b.testBit i) := by
  unfold dif
  rw [Nat.testBit_and, Nat.testBit_xor, tb_255]
  by_cases hi : i < 8
  · simp [hi]
  · rw [tb_hi ha (by omega)]; simp
theorem dif_lt {a : Nat} (ha : a < 256) (b : Nat) : dif a b < 256 := Nat.lt_of_le_of_lt Nat.and_le_left ha
theorem nx_dif {a : Nat} (ha : a < 256) (b : Nat) : nI a &&& (nI b ^^^ (-1 : Int32)) = nI (dif a b) := by
  rw [n_m1, nx_xor, nx_and]
  congr 1
  apply Nat.eq_of_testBit_eq
  intro i
  rw [dif_tb ha, Nat.testBit_and, Nat.testBit_xor]
  by_cases hi : i < 8
  · rw [show (4294967295 : Nat) = 2 ^ 32 - 1 from rfl, Nat.testBit_two_pow_sub_one, decide_eq_true (show i < 32 by omega)]
    simp
  · rw [tb_hi ha (by omega)]; simp
theorem dif_0 {a b : Nat} (ha : a < 256) : dif a b = 0 ↔ ∀ i, i < 8 → a.testBit i = true → b.testBit i = true := by
  constructor
  · intro h i hi h1
    have h2 := dif_tb ha b i
    rw [h, h1] at h2
    simpa using h2
  · intro h
    refine tb8_ext (dif_lt ha b) (by decide) (fun i hi => ?_)
    rw [dif_tb ha, Nat.zero_testBit]
    cases h1 : a.testBit i
    · rfl
    · rw [h i hi h1]; rfl
theorem and_0 {a b : Nat} (ha : a < 256) : a &&& b = 0 ↔ ∀ i, i < 8 → a.testBit i = true → b.testBit i = false := by
  constructor
  · intro h i hi h1
    have h2 : (a &&& b).testBit i = false := by rw [h]; exact Nat.zero_testBit i
    rw [Nat.testBit_and, h1] at h2
    simpa using h2
  · intro h
    refine tb8_ext (Nat.lt_of_le_of_lt Nat.and_le_left ha) (by decide) (fun i hi => ?_)
    rw [Nat.testBit_and, Nat.zero_testBit]
    cases h1 : a.testBit i
    · rfl
    · rw [h i hi h1]; rfl
theorem or_lt8 {a b : Nat} (ha : a < 256) (hb : b < 256) : a ||| b < 256 := Nat.or_lt_two_pow (n := 8) ha hb
theorem and_lt8 {a : Nat} (ha : a < 256) (b : Nat) : a &&& b < 256 := Nat.lt_of_le_of_lt Nat.and_le_left ha
theorem and_lt8' {b : Nat} (a : Nat) (hb : b < 256) : a &&& b < 256 := Nat.lt_of_le_of_lt Nat.and_le_right hb
theorem xor_lt8 {a b : Nat} (ha : a < 256) (hb : b < 256) : a ^^^ b < 256 := Nat.xor_lt_two_pow (n := 8) ha hb
theorem pw_lt8 {a : Nat} (ha : a < 8) : 2 ^ a < 256 := (show 2 ^ a < 2 ^ 8 from Nat.pow_lt_pow_right (by decide) ha)
theorem tb_pw (a i : Nat) : (2 ^ a : Nat).testBit i = decide (a = i) := Nat.testBit_two_pow
/-! one bit of an int, both ways -/
def zI (b : Bool) : Int32 := if b then nI 1 else nI 0
theorem zI_t : zI true = nI 1 := rfl
theorem zI_f : zI false = nI 0 := rfl
theorem zI_0 (b : Bool) : zI b = 0 ↔ b = false := by cases b <;> decide +kernel
theorem zI_n0 (b : Bool) : ¬ zI b = 0 ↔ b = true := by cases b <;> decide +kernel
theorem zI_1 (b : Bool) : zI b = nI 1 ↔ b = true := by cases b <;> decide +kernel
theorem zI_n1 (b : Bool) : ¬ zI b = nI 1 ↔ b = false := by cases b <;> decide +kernel
theorem zI_Z (b : Bool) : hcZ (zI b) := by
  cases b
  · exact Or.inl rfl
  · exact Or.inr rfl
theorem zI_nar (b : Bool) : vp_nar .boolean (zI b) = zI b := by cases b <;> rfl
theorem zI_inj {a b : Bool} : zI a = zI b ↔ a = b := by cases a <;> cases b <;> decide +kernel
theorem nI_eq0 {n : Nat} (h : n < 2 ^ 31) : nI n = 0 ↔ n = 0 := by rw [show (0 : Int32) = nI 0 from nI_0.symm]; exact nI_eq h (by decide)
theorem s_lsm : ∀ n, n < 32 → ((nI n &&& 31).toBitVec.smod 32).toNat = n := by decide +kernel
theorem s_usm : ∀ n, n < 32 → (((nI n).toUInt32 &&& Int32.toUInt32 31).toBitVec % 32).toNat = n := by decide +kernel
theorem ush_nI {s c : Nat} (hs : s < 2 ^ 32) (hc : c < 32) : hcUshr (nI s) (nI c) = nI (s / 2 ^ c) := by
  unfold hcUshr
  exact pk_ushrN hs (nI c) c (s_usm c hc)
theorem shr_nI {s c : Nat} (hs : s < 2 ^ 31) (hc : c < 32) : nI s >>> (nI c &&& 31) = nI (s / 2 ^ c) := pk_shrN hs (nI c &&& 31) c (s_lsm c hc)
theorem shl_nI {s c : Nat} (hc : c < 32) (h : s * 2 ^ c < 2 ^ 32) : nI s <<< (nI c &&& 31) = nI (s * 2 ^ c) := pk_shlN (nI c &&& 31) c (s_lsm c hc) h
theorem shl_1 {c : Nat} (hc : c < 31) : nI 1 <<< (nI c &&& 31) = nI (2 ^ c) := by
  rw [shl_nI (by omega) (by rw [Nat.one_mul]; exact Nat.pow_lt_pow_right (by decide) (by omega)), Nat.one_mul]
theorem bit_nI {s : Nat} (c : Nat) : nI (s / 2 ^ c) &&& nI 1 = nI (s.testBit c).toNat := by
  rw [nx_and, show (1 : Nat) = 2 ^ 1 - 1 from rfl, Nat.and_two_pow_sub_one_eq_mod, Nat.toNat_testBit]
theorem bit_eq1 {s : Nat} (c : Nat) : nI (s / 2 ^ c) &&& nI 1 = nI 1 ↔ s.testBit c = true := by
  rw [bit_nI]
  cases s.testBit c <;> decide +kernel
/-! eight rows of eight bits in a long -/
def pk (f : Nat → Nat) : Nat := bs (fun j => (f (j / 8)).testBit (j % 8)) 64
theorem pk_tb (f : Nat → Nat) (j : Nat) : (pk f).testBit j = (decide (j < 64) && (f (j / 8)).testBit (j % 8)) := bs_tb _ _ _
theorem pq_lt (f : Nat → Nat) : pk f < 2 ^ 64 := bs_lt _ _
theorem pk_congr {f g : Nat → Nat} (h : ∀ i, i < 8 → f i = g i) : pk f = pk g := bs_congr (fun i hi => by rw [h (i / 8) (by omega)])
def pL (f : Nat → Nat) : Int64 := lN (pk f)
theorem pL_congr {f g : Nat → Nat} (h : ∀ i, i < 8 → f i = g i) : pL f = pL g := congrArg lN (pk_congr h)
def r8 (f : Nat → Nat) : Prop := ∀ i, i < 8 → f i < 256
def upN (f : Nat → Nat) (k v : Nat) : Nat → Nat := fun j => if j = k then v else f j
theorem upN_s (f : Nat → Nat) (k v : Nat) : upN f k v k = v := if_pos rfl
theorem upN_n (f : Nat → Nat) {k v j : Nat} (h : j ≠ k) : upN f k v j = f j := if_neg h
theorem r8.up {f : Nat → Nat} (h : r8 f) {k v : Nat} (hv : v < 256) : r8 (upN f k v) := fun i hi => by 
  unfold upN
  split
  · exact hv
  · exact h i hi
theorem pk_z : pk (fun _ => 0) = 0 := Nat.eq_of_testBit_eq (fun i => by rw [pk_tb]; simp)
theorem pL_z : lN 0 = pL (fun _ => 0) := by unfold pL; rw [pk_z]
theorem pk_get {f : Nat → Nat} (hf : r8 f) {c : Nat} (hc : c < 8) : pk f / 2 ^ (8 * c) &&& 255 = f c := by
  refine tb8_ext (and_lt8' _ (by decide)) (hf c hc) (fun i hi => ?_)
  rw [Nat.testBit_and, tb_255, Nat.testBit_div_two_pow, pk_tb, decide_eq_true hi, decide_eq_true (show i + 8 * c < 64 by omega), show (i + 8 * c) / 8 = c by omega, show (i + 8 * c) % 8 = i by omega]
  simp
theorem pk_with {f : Nat → Nat} {c : Nat} (hc : c < 8) {v : Nat} (hv : v < 256) : (pk f &&& (255 * 2 ^ (8 * c) ^^^ 18446744073709551615)) ||| (v &&& 255) * 2 ^ (8 * c) = pk (upN f c v) := by
  apply Nat.eq_of_testBit_eq
  intro j
  rw [Nat.testBit_or, Nat.testBit_and, Nat.testBit_xor, Nat.testBit_mul_two_pow, Nat.testBit_mul_two_pow, pk_tb, pk_tb, tb_255, Nat.testBit_and, tb_255, show (18446744073709551615 : Nat) = 2 ^ 64 - 1 from rfl, Nat.testBit_two_pow_sub_one]
  by_cases hj : j < 64
  · rw [decide_eq_true hj]
    by_cases hcj : j / 8 = c
    · rw [hcj, upN_s, decide_eq_true (show 8 * c ≤ j by omega), decide_eq_true (show j - 8 * c < 8 by omega), show j - 8 * c = j % 8 by omega]
      simp
    · rw [upN_n _ hcj]
      by_cases h1 : 8 * c ≤ j
      · rw [decide_eq_true h1, decide_eq_false (show ¬ j - 8 * c < 8 by omega)]
        simp
      · rw [decide_eq_false h1]
        simp
  · rw [decide_eq_false hj]
    by_cases h1 : 8 * c ≤ j
    · rw [decide_eq_false (show ¬ j - 8 * c < 8 by omega)]
      simp
    · omega
theorem pk_or (f g : Nat → Nat) : pk f ||| pk g = pk (fun i => f i ||| g i) := Nat.eq_of_testBit_eq (fun j => by
  rw [Nat.testBit_or, pk_tb, pk_tb, pk_tb, Nat.testBit_or]
  cases decide (j < 64) <;> simp)
theorem pk_bit {f : Nat → Nat} {a b : Nat} (ha : a < 8) (hb : b < 8) : (pk f).testBit (8 * a + b) = (f a).testBit b := by
  rw [pk_tb, decide_eq_true (show 8 * a + b < 64 by omega), show (8 * a + b) / 8 = a by omega, show (8 * a + b) % 8 = b by omega]
  simp
theorem pk_pair {a b : Nat} (ha : a < 8) (hb : b < 8) : 2 ^ (8 * a + b) = pk (upN (fun _ => 0) a (2 ^ b)) := Nat.eq_of_testBit_eq (fun j => by
  rw [tb_pw, pk_tb]
  by_cases hj : j / 8 = a
  · rw [hj, upN_s, tb_pw]
    by_cases h2 : 8 * a + b = j
    · rw [decide_eq_true h2, decide_eq_true (show j < 64 by omega), decide_eq_true (show b = j % 8 by omega)]; rfl
    · rw [decide_eq_false h2, decide_eq_false (show ¬ b = j % 8 by omega)]; simp
  · rw [upN_n _ hj, decide_eq_false (show ¬ 8 * a + b = j by omega)]; simp)
theorem pk_orp {f : Nat → Nat} {a b : Nat} (ha : a < 8) (hb : b < 8) : pk f ||| 2 ^ (8 * a + b) = pk (upN f a (f a ||| 2 ^ b)) := by
  rw [pk_pair ha hb, pk_or]
  apply pk_congr
  intro i hi
  unfold upN
  by_cases h : i = a
  · subst h; simp
  · simp [h]
theorem pk_xorp {f : Nat → Nat} {a b : Nat} (ha : a < 8) (hb : b < 8) : pk f ^^^ 2 ^ (8 * a + b) = pk (upN f a (f a ^^^ 2 ^ b)) := Nat.eq_of_testBit_eq (fun j => by
  rw [pk_pair ha hb, Nat.testBit_xor, pk_tb, pk_tb, pk_tb]
  by_cases h : j / 8 = a
  · rw [h, upN_s, upN_s, Nat.testBit_xor]; cases decide (j < 64) <;> simp
  · rw [upN_n _ h, upN_n _ h]; cases decide (j < 64) <;> simp)
theorem lN_eq0 {n : Nat} (h : n < 2 ^ 64) : lN n = lN 0 ↔ n = 0 := by
  constructor
  · intro e
    have e2 := congrArg (fun z : Int64 => z.toBitVec.toNat) e
    simpa only [wb_tn h, wb_tn (show 0 < 2 ^ 64 by decide)] using e2
  · intro e; rw [e]
theorem lg_cmp0 (x y : Int64) : lg_cmp x y = 0 ↔ x = y := by
  unfold lg_cmp
  by_cases h : x > y
  · rw [if_pos h]
    constructor
    · intro e; exact absurd e (by decide +kernel)
    · intro e; subst e; exact absurd h (by rw [gt_iff_lt, Int64.lt_iff_toInt_lt]; omega)
  · rw [if_neg h]
    by_cases h2 : x = y
    · rw [if_pos h2]; simp [h2]
    · rw [if_neg h2]
      constructor
      · intro e; exact absurd e (by decide +kernel)
      · intro e; exact absurd e h2
theorem and_pw (n k : Nat) : n &&& 2 ^ k = 0 ↔ n.testBit k = false := by
  constructor
  · intro h
    have h2 : (n &&& 2 ^ k).testBit k = false := by rw [h]; exact Nat.zero_testBit k
    rw [Nat.testBit_and, Nat.testBit_two_pow_self] at h2
    simpa using h2
  · intro h
    apply Nat.eq_of_testBit_eq
    intro i
    rw [Nat.testBit_and, tb_pw, Nat.zero_testBit]
    by_cases hk : k = i
    · subst hk; rw [h]; rfl
    · simp [hk]
theorem nS (a : Nat) : nI a + nI 1 = nI (a + 1) := nI_add a 1
