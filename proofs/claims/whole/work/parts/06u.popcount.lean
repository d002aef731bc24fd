/-! the ones of a long of eight bytes -/
def sm8 (f : Nat → Nat) : Nat → Nat
  | 0 => 0
  | n + 1 => 2 ^ (8 * n) * f n + sm8 f n
theorem sm8_lt {f : Nat → Nat} : ∀ n, (∀ c, c < n → f c < 256) → sm8 f n < 2 ^ (8 * n)
  | 0, _ => show (0 : Nat) < 2 ^ 0 by decide
  | n + 1, h => by
    have ih := sm8_lt n (fun c hc => h c (by omega))
    have h1 : 2 ^ (8 * n) * f n ≤ 2 ^ (8 * n) * 255 := Nat.mul_le_mul_left _ (by have := h n (Nat.lt_succ_self n); omega)
    have h2 : 2 ^ (8 * (n + 1)) = 2 ^ (8 * n) * 256 := by rw [Nat.mul_add, Nat.pow_add]
    rw [sm8, h2]
    omega
theorem sm8_tb {f : Nat → Nat} : ∀ n, (∀ c, c < n → f c < 256) → ∀ j, (sm8 f n).testBit j = (decide (j < 8 * n) && (f (j / 8)).testBit (j % 8))
  | 0, _, j => by rw [sm8, Nat.zero_testBit]; simp
  | n + 1, h, j => by
    have hl := sm8_lt n (fun c hc => h c (by omega))
    rw [sm8, Nat.testBit_two_pow_mul_add _ hl]
    by_cases q : j < 8 * n
    · rw [if_pos q, sm8_tb n (fun c hc => h c (by omega)), decide_eq_true q, decide_eq_true (show j < 8 * (n + 1) by omega)]
    · rw [if_neg q]
      by_cases q2 : j < 8 * (n + 1)
      · rw [decide_eq_true q2, show j / 8 = n by omega, show j % 8 = j - 8 * n by omega]; rfl
      · rw [decide_eq_false q2, tb_hi (h n (Nat.lt_succ_self n)) (by omega)]; rfl
theorem pk_sm8 {f : Nat → Nat} (hf : r8 f) : pk f = sm8 f 8 := Nat.eq_of_testBit_eq (fun j => by rw [pk_tb, sm8_tb 8 hf])
theorem sm8_add (f g : Nat → Nat) : ∀ n, sm8 f n + sm8 g n = sm8 (fun c => f c + g c) n
  | 0 => rfl
  | n + 1 => by
    have ih := sm8_add f g n
    rw [sm8, sm8, sm8, ← ih, Nat.mul_add]
    omega
theorem pk_add {f g : Nat → Nat} (h : ∀ c, c < 8 → f c + g c < 256) : pk f + pk g = pk (fun c => f c + g c) := by
  rw [pk_sm8 (fun c hc => by have := h c hc; omega), pk_sm8 (f := g) (fun c hc => by have := h c hc; omega), pk_sm8 (f := fun c => f c + g c) h, sm8_add]
theorem pk_sub8 {f g : Nat → Nat} (hf : r8 f) (h : ∀ c, c < 8 → g c ≤ f c) : pk f - pk g = pk (fun c => f c - g c) ∧ pk g ≤ pk f := by
  have e : pk g + pk (fun c => f c - g c) = pk f := by
    rw [pk_add (fun c hc => by have := h c hc; have := hf c hc; show g c + (f c - g c) < 256; omega)]
    exact pk_congr (fun c hc => by have := h c hc; show g c + (f c - g c) = f c; omega)
  omega
theorem pk_andP (f g : Nat → Nat) : pk f &&& pk g = pk (fun c => f c &&& g c) := Nat.eq_of_testBit_eq (fun j => by
  rw [Nat.testBit_and, pk_tb, pk_tb, pk_tb, Nat.testBit_and]
  cases decide (j < 64) <;> simp)
theorem pk_shm {f : Nat → Nat} (hf : r8 f) {k m : Nat} (hm : m < 256) (h : ∀ i, 8 ≤ i + k → i < 8 → m.testBit i = false) (hk : k < 8) : (pk f / 2 ^ k) &&& pk (fun _ => m) = pk (fun c => (f c / 2 ^ k) &&& m) := Nat.eq_of_testBit_eq (fun j => by
  rw [Nat.testBit_and, Nat.testBit_div_two_pow, pk_tb, pk_tb, pk_tb, Nat.testBit_and, Nat.testBit_div_two_pow]
  by_cases q : 8 ≤ j % 8 + k
  · rw [h (j % 8) q (by omega)]; simp
  · by_cases q2 : j < 64
    · rw [show (j + k) / 8 = j / 8 by omega, show (j + k) % 8 = j % 8 + k by omega, decide_eq_true q2, decide_eq_true (show j + k < 64 by omega)]; simp
    · rw [decide_eq_false q2]; simp)
theorem pk_sh4 {f : Nat → Nat} (hf : r8 f) : pk f / 2 ^ 4 = pk (fun c => 2 ^ 4 * (if c < 7 then f (c + 1) % 16 else 0) + f c / 2 ^ 4) := Nat.eq_of_testBit_eq (fun j => by
  rw [Nat.testBit_div_two_pow, pk_tb, pk_tb]
  by_cases q2 : j < 64
  · have hb : f (j / 8) / 2 ^ 4 < 2 ^ 4 := by have := hf (j / 8) (by omega); omega
    rw [Nat.testBit_two_pow_mul_add _ hb, decide_eq_true q2]
    by_cases q : j % 8 < 4
    · rw [if_pos q, Nat.testBit_div_two_pow, show (j + 4) / 8 = j / 8 by omega, show (j + 4) % 8 = j % 8 + 4 by omega, decide_eq_true (show j + 4 < 64 by omega)]
    · rw [if_neg q]
      by_cases q3 : j / 8 < 7
      · rw [if_pos q3, show (16 : Nat) = 2 ^ 4 from rfl, Nat.testBit_mod_two_pow, decide_eq_true (show j % 8 - 4 < 4 by omega), show (j + 4) / 8 = j / 8 + 1 by omega, show (j + 4) % 8 = j % 8 - 4 by omega, decide_eq_true (show j + 4 < 64 by omega)]; simp
      · rw [if_neg q3, decide_eq_false (show ¬ j + 4 < 64 by omega), Nat.zero_testBit]; simp
  · rw [decide_eq_false q2, decide_eq_false (show ¬ j + 4 < 64 by omega)]; simp)
theorem pk_sh8 (f : Nat → Nat) (k : Nat) : pk f / 2 ^ (8 * k) = pk (fun c => if c + k < 8 then f (c + k) else 0) := Nat.eq_of_testBit_eq (fun j => by
  rw [Nat.testBit_div_two_pow, pk_tb, pk_tb, show (j + 8 * k) / 8 = j / 8 + k by omega, show (j + 8 * k) % 8 = j % 8 by omega]
  by_cases q : j / 8 + k < 8
  · rw [if_pos q, decide_eq_true (show j + 8 * k < 64 by omega), decide_eq_true (show j < 64 by omega)]
  · rw [if_neg q, decide_eq_false (show ¬ j + 8 * k < 64 by omega), Nat.zero_testBit]; simp)
theorem pk_lo {f : Nat → Nat} (h : f 0 < 128) : pk f &&& 127 = f 0 := Nat.eq_of_testBit_eq (fun j => by
  rw [Nat.testBit_and, pk_tb, show (127 : Nat) = 2 ^ 7 - 1 from rfl, Nat.testBit_two_pow_sub_one]
  by_cases q : j < 7
  · rw [decide_eq_true q, decide_eq_true (show j < 64 by omega), show j / 8 = 0 by omega, show j % 8 = j by omega]; simp
  · rw [decide_eq_false q, Nat.testBit_lt_two_pow (Nat.lt_of_lt_of_le (show f 0 < 2 ^ 7 from h) (Nat.pow_le_pow_right (by decide) (by omega)))]; simp)
def bc1 (s : Nat) : Nat := s - ((s / 2 ^ 1) &&& 85)
def bc2 (s : Nat) : Nat := (bc1 s &&& 51) + ((bc1 s / 2 ^ 2) &&& 51)
theorem bc_byte : ∀ s : Fin 256, (((s.val / 2 ^ 1) &&& 85) ≤ s.val ∧ bc1 s.val < 256) ∧ (bc2 s.val % 16 ≤ 4 ∧ bc2 s.val / 16 ≤ 4) ∧ bc2 s.val % 16 + bc2 s.val / 16 = pc s.val 8 := by decide +kernel
def sum8 (f : Nat → Nat) : Nat → Nat
  | 0 => 0
  | n + 1 => sum8 f n + f n
def shA (k : Nat) (g : Nat → Nat) (c : Nat) : Nat := g c + (if c + k < 8 then g (c + k) else 0)
theorem c_55 : (6148914691236517205 : Int64) = lN (pk (fun _ => 85)) := by decide +kernel
theorem c_33 : (3689348814741910323 : Int64) = lN (pk (fun _ => 51)) := by decide +kernel
theorem c_0F : (1085102592571150095 : Int64) = lN (pk (fun _ => 15)) := by decide +kernel
theorem m85 : ∀ i, 8 ≤ i + 1 → i < 8 → (85 : Nat).testBit i = false := by
  intro i h1 h2
  have : i = 7 := by omega
  subst this
  decide
theorem m51 : ∀ i, 8 ≤ i + 2 → i < 8 → (51 : Nat).testBit i = false := by
  intro i h1 h2
  have : i = 6 ∨ i = 7 := by omega
  rcases this with rfl | rfl <;> decide
theorem s_longCount {f : Nat → Nat} (hf : r8 f) {post : Int32 → Prop} (hp : post (nI (sum8 (fun c => pc (f c) 8) 8))) : wp_J13_bitCount_95d88 post (pL f) := by
  unfold wp_J13_bitCount_95d88 pL
  have B : ∀ c, c < 8 → (((f c / 2 ^ 1) &&& 85) ≤ f c ∧ bc1 (f c) < 256) ∧ (bc2 (f c) % 16 ≤ 4 ∧ bc2 (f c) / 16 ≤ 4) ∧ bc2 (f c) % 16 + bc2 (f c) / 16 = pc (f c) 8 := fun c hc => bc_byte ⟨f c, hf c hc⟩
  rw [c_55, c_33, c_0F, wb_shr (pq_lt _) (by decide), lx_and, pk_shm hf (by decide) m85 (by decide)]
  have s1 := pk_sub8 hf (g := fun c => (f c / 2 ^ 1) &&& 85) (fun c hc => (B c hc).1.1)
  rw [lN_sub s1.2, s1.1]
  have e1 : pk (fun c => f c - ((f c / 2 ^ 1) &&& 85)) = pk (fun c => bc1 (f c)) := rfl
  rw [e1]
  have r1 : r8 (fun c => bc1 (f c)) := fun c hc => (B c hc).1.2
  rw [wb_shr (pq_lt _) (by decide), lx_and, lx_and, pk_andP, pk_shm r1 (by decide) m51 (by decide), lN_add]
  have r2 : ∀ c, c < 8 → bc2 (f c) % 16 ≤ 4 ∧ bc2 (f c) / 16 ≤ 4 := fun c hc => (B c hc).2.1
  have l2 : ∀ c, c < 8 → bc2 (f c) < 256 := fun c hc => by have := r2 c hc; omega
  rw [pk_add (f := fun c => bc1 (f c) &&& 51) (g := fun c => (bc1 (f c) / 2 ^ 2) &&& 51) (fun c hc => l2 c hc)]
  have e2 : pk (fun c => (bc1 (f c) &&& 51) + ((bc1 (f c) / 2 ^ 2) &&& 51)) = pk (fun c => bc2 (f c)) := rfl
  rw [e2]
  intro y hy
  subst hy
  rw [wb_shr (pq_lt _) (by decide), pk_sh4 (f := fun c => bc2 (f c)) (fun c hc => l2 c hc), lN_add, pk_add (fun c hc => by
    have a1 := r2 c hc
    show bc2 (f c) + (2 ^ 4 * (if c < 7 then bc2 (f (c + 1)) % 16 else 0) + bc2 (f c) / 2 ^ 4) < 256
    by_cases q : c < 7
    · rw [if_pos q]; have := r2 (c + 1) (by omega); omega
    · rw [if_neg q]; omega), lx_and, pk_andP]
  have e3 : pk (fun c => (bc2 (f c) + (2 ^ 4 * (if c < 7 then bc2 (f (c + 1)) % 16 else 0) + bc2 (f c) / 2 ^ 4)) &&& 15) = pk (fun c => pc (f c) 8) := pk_congr (fun c hc => by
    have a1 := r2 c hc
    have a2 := (B c hc).2.2
    show (bc2 (f c) + (2 ^ 4 * (if c < 7 then bc2 (f (c + 1)) % 16 else 0) + bc2 (f c) / 2 ^ 4)) &&& (2 ^ 4 - 1) = _
    rw [Nat.and_two_pow_sub_one_eq_mod]
    show _ = pc (f c) 8
    rw [← a2]
    show _ = bc2 (f c) % 16 + bc2 (f c) / 16
    generalize (if c < 7 then bc2 (f (c + 1)) % 16 else 0) = t
    omega)
  rw [e3]
  have P : ∀ c, pc (f c) 8 ≤ 8 := fun c => pc_le _ _
  have st : ∀ (g : Nat → Nat) (k M : Nat), (∀ c, g c ≤ M) → M ≤ 32 → 8 * k < 64 → lN (pk g) + hcLushr (lN (pk g)) (nI (8 * k)) = lN (pk (shA k g)) ∧ ∀ c, shA k g c ≤ 2 * M := fun g k M hg hM hk => by
    have q : ∀ c, shA k g c ≤ 2 * M := fun c => by
      have := hg c
      have := hg (c + k)
      unfold shA
      split <;> omega
    refine ⟨?_, q⟩
    rw [wb_shr (pq_lt _) hk, pk_sh8, lN_add, pk_add (g := fun c => if c + k < 8 then g (c + k) else 0) (fun c _ => by have := q c; unfold shA at this; omega)]
    rfl
  have t1 := st (fun c => pc (f c) 8) 1 8 P (by omega) (by omega)
  rw [show nI 8 = nI (8 * 1) from rfl, t1.1]
  intro y hy
  subst hy
  have t2 := st _ 2 16 t1.2 (by omega) (by omega)
  have t3 := st _ 4 32 t2.2 (by omega) (by omega)
  rw [show nI 16 = nI (8 * 2) from rfl, t2.1, show nI 32 = nI (8 * 4) from rfl, t3.1]
  intro y hy
  subst hy
  rw [lN_i, nx_and]
  rw [pk_lo (by have := t3.2 0; omega)]
  have : sum8 (fun c => pc (f c) 8) 8 = shA 4 (shA 2 (shA 1 (fun c => pc (f c) 8))) 0 := by
    show 0 + pc (f 0) 8 + pc (f 1) 8 + pc (f 2) 8 + pc (f 3) 8 + pc (f 4) 8 + pc (f 5) 8 + pc (f 6) 8 + pc (f 7) 8 = ((pc (f 0) 8 + pc (f 1) 8) + (pc (f 2) 8 + pc (f 3) 8)) + ((pc (f 4) 8 + pc (f 5) 8) + (pc (f 6) 8 + pc (f 7) 8))
    omega
  rw [this] at hp
  exact hp
