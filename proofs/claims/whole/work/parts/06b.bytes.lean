/-! two ways out, by a truth value -/
theorem zs1 {P : Prop} {b : Bool} {post : Int32 → Prop} (hP : P ↔ b = true) (h : post (zI b)) : (P → post (nI 1)) ∧ (¬ P → post (nI 0)) := by
  cases b
  · exact ⟨fun c => absurd (hP.mp c) (by decide), fun _ => h⟩
  · exact ⟨fun _ => h, fun c => absurd (hP.mpr rfl) c⟩
theorem zs2 {P : Prop} {b : Bool} {post : Int32 → Prop} (hP : P ↔ b = true) (h : post (zI b)) : (¬ P → post (nI 0)) ∧ (P → post (nI 1)) := ⟨(zs1 hP h).2, (zs1 hP h).1⟩
theorem zs3 {P : Prop} {b : Bool} {post : Int32 → Prop} (hP : P ↔ b = false) (h : post (zI b)) : (P → post (nI 0)) ∧ (¬ P → post (nI 1)) := by
  cases b
  · exact ⟨fun _ => h, fun c => absurd (hP.mpr rfl) c⟩
  · exact ⟨fun c => absurd (hP.mp c) (by decide), fun _ => h⟩
theorem zs4 {P : Prop} {b : Bool} {post : Int32 → Prop} (hP : P ↔ b = false) (h : post (zI b)) : (¬ P → post (nI 1)) ∧ (P → post (nI 0)) := ⟨(zs3 hP h).2, (zs3 hP h).1⟩
theorem zc {b : Bool} {A B : Prop} (hf : b = false → A) (ht : b = true → B) : (zI b = 0 → A) ∧ (¬ zI b = 0 → B) := ⟨fun c => hf ((zI_0 b).mp c), fun c => ht ((zI_n0 b).mp c)⟩
theorem zc2 {b : Bool} {A B : Prop} (hf : b = false → A) (ht : b = true → B) : (¬ zI b = 0 → B) ∧ (zI b = 0 → A) := ⟨fun c => ht ((zI_n0 b).mp c), fun c => hf ((zI_0 b).mp c)⟩
theorem wc {P Q A B : Prop} (hP : P ↔ Q) (ht : Q → A) (hf : ¬ Q → B) : (P → A) ∧ (¬ P → B) := ⟨fun c => ht (hP.mp c), fun c => hf (fun q => c (hP.mpr q))⟩
theorem wc2 {P Q A B : Prop} (hP : P ↔ Q) (ht : Q → A) (hf : ¬ Q → B) : (¬ P → B) ∧ (P → A) := ⟨fun c => hf (fun q => c (hP.mpr q)), fun c => ht (hP.mp c)⟩
theorem wt {P A B : Prop} (hP : P) (h : A) : (P → A) ∧ (¬ P → B) := ⟨fun _ => h, fun c => absurd hP c⟩
theorem wf {P A B : Prop} (hP : ¬ P) (h : B) : (P → A) ∧ (¬ P → B) := ⟨fun c => absurd c hP, fun _ => h⟩
theorem wt2 {P A B : Prop} (hP : P) (h : A) : (¬ P → B) ∧ (P → A) := ⟨fun c => absurd hP c, fun _ => h⟩
theorem wf2 {P A B : Prop} (hP : ¬ P) (h : B) : (¬ P → B) ∧ (P → A) := ⟨fun _ => h, fun c => absurd c hP⟩
/-! Bytes -/
theorem s_get {f : Nat → Nat} {c : Nat} (hf : r8 f) (hc : c < 8) {post : Int32 → Prop} (h : post (nI (f c))) : wp_X0_get post (pL f) (nI c) := by
  unfold wp_X0_get
  rw [pk_mul, pL, wb_shr (pq_lt f) (by omega), lN_i, nx_and, pk_get hf hc]
  exact h
theorem s_with {f : Nat → Nat} {c v : Nat} (hc : c < 8) (hv : v < 256) {post : Int64 → Prop} (h : post (pL (upN f c v))) : wp_X0_with post (pL f) (nI c) (nI v) := by
  unfold wp_X0_with
  rw [pk_mul, l_255, l_m1, wb_shl _ (by omega), lx_xor, pL, lx_and, nI_l (by omega), lx_and, wb_shl _ (by omega), lx_or, pk_with hc hv]
  exact h
theorem s_pair {a b : Nat} (ha : a < 8) (hb : b < 8) {post : Int64 → Prop} (h : post (lN (2 ^ (8 * a + b)))) : wp_X0_pair post (nI a) (nI b) := by
  unfold wp_X0_pair
  rw [pk_mul, nI_add, wb_shl _ (by omega), Nat.one_mul]
  exact h
theorem s_has {f : Nat → Nat} {a b : Nat} (ha : a < 8) (hb : b < 8) {post : Int32 → Prop} (h : post (zI ((f a).testBit b))) : wp_X0_has post (pL f) (nI a) (nI b) := by
  unfold wp_X0_has
  refine s_pair ha hb ?_
  refine zs3 ?_ h
  rw [lg_cmp0, pL, lx_and, lN_eq0 (Nat.lt_of_le_of_lt Nat.and_le_left (pq_lt f)), and_pw, pk_bit ha hb]
theorem s_contains {s c : Nat} (hs : s < 256) (hc : c < 8) {post : Int32 → Prop} (h : post (zI (s.testBit c))) : wp_X0_contains post (nI s) (nI c) := by
  unfold wp_X0_contains
  rw [ush_nI (by omega) (by omega)]
  exact zs2 (bit_eq1 c) h
/-- what the rows of a set's places have together -/
def rch (f : Nat → Nat) (s : Nat) : Nat → Nat
  | 0 => 0
  | i + 1 => rch f s i ||| (if s.testBit i then f i else 0)
theorem rch_s (f : Nat → Nat) (s i : Nat) : rch f s (i + 1) = rch f s i ||| (if s.testBit i then f i else 0) := rfl
theorem rch_tb (f : Nat → Nat) (s n j : Nat) : (rch f s n).testBit j = true ↔ ∃ i, i < n ∧ s.testBit i = true ∧ (f i).testBit j = true := by
  induction n with
  | zero => simp [rch]
  | succ n ih =>
    unfold rch
    rw [Nat.testBit_or, Bool.or_eq_true, ih]
    constructor
    · rintro (⟨i, h1, h2, h3⟩ | h)
      · exact ⟨i, by omega, h2, h3⟩
      · cases hs : s.testBit n
        · rw [hs] at h; simp at h
        · rw [hs, if_pos rfl] at h
          exact ⟨n, by omega, hs, h⟩
    · rintro ⟨i, h1, h2, h3⟩
      by_cases hi : i = n
      · subst hi; right; rw [h2, if_pos rfl]; exact h3
      · exact Or.inl ⟨i, by omega, h2, h3⟩
theorem rch_lt {f : Nat → Nat} {n : Nat} (hf : ∀ i, i < n → f i < 256) (s : Nat) : rch f s n < 256 := by
  induction n with
  | zero => show (0 : Nat) < 256; decide
  | succ n ih =>
    rw [rch_s]
    refine or_lt8 (ih (fun i hi => hf i (by omega))) ?_
    split
    · exact hf n (by omega)
    · decide
theorem rch_congr {f g : Nat → Nat} {n : Nat} (h : ∀ i, i < n → f i = g i) (s : Nat) : rch f s n = rch g s n := by
  induction n with
  | zero => rfl
  | succ n ih => unfold rch; rw [ih (fun i hi => h i (by omega)), h n (by omega)]
theorem s_reach {f : Nat → Nat} {s : Nat} (hf : r8 f) (hs : s < 256) {post : Int32 → Prop} (h : post (nI (rch f s 8))) : wp_X0_reach post (pL f) (nI s) := by
  unfold wp_X0_reach
  refine loop_0 (fun n i v => wp_X0_reach_5 post (pL f) (nI s) n v (nI i)) (fun i v => v = nI (rch f s i)) 8 _ rfl ?_ ?_
  · intro n v hv
    subst hv
    show wp_X0_reach_5 _ _ _ _ _ _
    unfold wp_X0_reach_5
    exact wt (nI_le (Nat.le_refl _) (by decide)) h
  · intro n i v hi hv ih
    subst hv
    show wp_X0_reach_5 _ _ _ _ _ _
    unfold wp_X0_reach_5
    refine wf (nI_ge hi (by decide)) ?_
    refine s_contains hs hi ?_
    refine zc (fun hb => ?_) (fun hb => ?_)
    · rw [nS]
      refine ih _ ?_
      rw [rch_s, hb]; simp
    · refine s_get hf hi ?_
      rw [nS, nx_or]
      refine ih _ ?_
      rw [rch_s, hb]; simp
theorem s_joined {f g : Nat → Nat} (hf : r8 f) (hg : r8 g) {post : Int64 → Prop} (h : post (pL (fun a => rch g (f a) 8))) : wp_X0_joined post (pL f) (pL g) := by
  unfold wp_X0_joined
  rw [pL_z]
  refine loop_0 (fun n i v => wp_X0_joined_6 post (pL f) (pL g) n v (nI i)) (fun i v => v = pL (fun a => if a < i then rch g (f a) 8 else 0)) 8 _ ?_ ?_ ?_
  · exact pL_congr (fun i hi => by simp)
  · intro n v hv
    subst hv
    show wp_X0_joined_6 _ _ _ _ _ _
    unfold wp_X0_joined_6
    refine wt (nI_le (Nat.le_refl _) (by decide)) ?_
    rw [pL_congr (g := fun a => rch g (f a) 8) (fun i hi => by simp [hi])]
    exact h
  · intro n i v hi hv ih
    subst hv
    show wp_X0_joined_6 _ _ _ _ _ _
    unfold wp_X0_joined_6
    refine wf (nI_ge hi (by decide)) ?_
    refine s_get hf hi ?_
    refine s_reach hg (hf i hi) ?_
    refine s_with hi (rch_lt hg _) ?_
    rw [nS]
    refine ih _ (pL_congr (fun k hk => ?_))
    unfold upN
    by_cases hk2 : k = i
    · subst hk2; simp
    · rw [if_neg hk2]
      by_cases h3 : k < i
      · simp [h3, Nat.lt_succ_of_lt h3]
      · have h4 : ¬ k < i + 1 := by omega
        simp [h3, h4]
/-- the relation the other way round -/
def trn (f : Nat → Nat) (c : Nat) : Nat := bs (fun a => (f a).testBit c) 8
theorem trn_tb (f : Nat → Nat) (c a : Nat) : (trn f c).testBit a = (decide (a < 8) && (f a).testBit c) := bs_tb _ _ _
theorem trn_lt (f : Nat → Nat) (c : Nat) : trn f c < 256 := bs_lt _ _
/-- a part of the relation the other way round: rows below a, and of row a what goes below b -/
def trp (f : Nat → Nat) (a b c : Nat) : Nat := bs (fun x => (f x).testBit c && (decide (x < a) || (decide (x = a) && decide (c < b)))) 8
theorem trp_tb (f : Nat → Nat) (a b c x : Nat) : (trp f a b c).testBit x = (decide (x < 8) && ((f x).testBit c && (decide (x < a) || (decide (x = a) && decide (c < b))))) := bs_tb _ _ _
theorem trp_lt (f : Nat → Nat) (a b c : Nat) : trp f a b c < 256 := bs_lt _ _
theorem trp_z (f : Nat → Nat) (c : Nat) : trp f 0 0 c = 0 := tb8_ext (trp_lt _ _ _ _) (by decide) (fun k hk => by rw [trp_tb]; simp)
theorem trp_e (f : Nat → Nat) (c : Nat) : trp f 8 0 c = trn f c := tb8_ext (trp_lt _ _ _ _) (trn_lt _ _) (fun k hk => by rw [trp_tb, trn_tb]; simp [hk])
theorem trp_row (f : Nat → Nat) (a : Nat) {c : Nat} (hc : c < 8) : trp f a 8 c = trp f (a + 1) 0 c := tb8_ext (trp_lt _ _ _ _) (trp_lt _ _ _ _) (fun k hk => by
  rw [trp_tb, trp_tb]
  by_cases h1 : k < a
  · simp [h1, Nat.lt_succ_of_lt h1]
  · by_cases h2 : k = a
    · subst h2; simp [hc]
    · have h3 : ¬ k < a + 1 := by omega
      simp [h1, h2, h3])
theorem trp_next {f : Nat → Nat} {a b : Nat} (ha : a < 8) {z : Bool} (hz : (f a).testBit b = z) (i : Nat) : (if i = b ∧ z = true then trp f a b i ||| 2 ^ a else trp f a b i) = trp f a (b + 1) i := by
  refine tb8_ext ?_ (trp_lt _ _ _ _) (fun k hk => ?_)
  · split
    · exact or_lt8 (trp_lt _ _ _ _) (pw_lt8 ha)
    · exact trp_lt _ _ _ _
  · rw [trp_tb]
    by_cases hk1 : k = a
    · subst hk1
      by_cases hib : i = b
      · subst hib
        cases z
        · rw [if_neg (by simp), trp_tb, hz]; simp
        · rw [if_pos (by simp), Nat.testBit_or, trp_tb, tb_pw, hz]; simp [hk]
      · rw [if_neg (by simp [hib]), trp_tb]
        by_cases h5 : i < b
        · simp [h5, Nat.lt_succ_of_lt h5]
        · have h6 : ¬ i < b + 1 := by omega
          simp [h5, h6]
    · have h7 : (if i = b ∧ z = true then trp f a b i ||| 2 ^ a else trp f a b i).testBit k = (trp f a b i).testBit k := by
        split
        · rw [Nat.testBit_or, tb_pw]; simp [Ne.symm hk1]
        · rfl
      rw [h7, trp_tb]; simp [hk1]
theorem s_turned {f : Nat → Nat} {post : Int64 → Prop} (h : post (pL (trn f))) : wp_X0_turned post (pL f) := by
  unfold wp_X0_turned
  rw [pL_z]
  refine loop_0 (fun n a v => wp_X0_turned_5 post (pL f) n v (nI a)) (fun a v => v = pL (trp f a 0)) 8 _ ?_ ?_ ?_
  · exact pL_congr (fun i hi => (trp_z f i).symm)
  · intro n v hv
    subst hv
    show wp_X0_turned_5 _ _ _ _ _
    unfold wp_X0_turned_5
    refine wt (nI_le (Nat.le_refl _) (by decide)) ?_
    rw [pL_congr (f := trp f 8 0) (g := trn f) (fun i hi => trp_e f i)]
    exact h
  · intro n a v ha hv ih
    subst hv
    show wp_X0_turned_5 _ _ _ _ _
    unfold wp_X0_turned_5
    refine wf (nI_ge ha (by decide)) ?_
    refine loop_0 (fun n2 b v => wp_X0_turned_15 post (pL f) (wp_X0_turned_5 post (pL f) n) n2 v (nI a) (nI b)) (fun b v => v = pL (trp f a b)) 8 _ rfl ?_ ?_
    · intro n2 v hv
      subst hv
      show wp_X0_turned_15 _ _ _ _ _ _ _
      unfold wp_X0_turned_15
      refine wt (nI_le (Nat.le_refl _) (by decide)) ?_
      rw [nS]
      exact ih _ (pL_congr (fun i hi => trp_row f a hi))
    · intro n2 b v hb hv ih2
      subst hv
      show wp_X0_turned_15 _ _ _ _ _ _ _
      unfold wp_X0_turned_15
      refine wf (nI_ge hb (by decide)) ?_
      refine s_has ha hb ?_
      refine zc (fun hz => ?_) (fun hz => ?_)
      · rw [nS]
        exact ih2 _ (pL_congr (fun i hi => by rw [← trp_next ha hz i]; simp))
      · refine s_pair hb ha ?_
        rw [nS]
        refine ih2 _ ?_
        rw [pL, lx_or, pk_orp hb ha]
        refine pL_congr (fun i hi => ?_)
        rw [← trp_next ha hz i]
        unfold upN
        by_cases h9 : i = b
        · simp [h9]
        · simp [h9]
theorem s_within {f : Nat → Nat} {s : Nat} (hf : r8 f) (hs : s < 256) {post : Int64 → Prop} (h : post (pL (fun a => if s.testBit a then f a &&& s else 0))) : wp_X0_within post (pL f) (nI s) := by
  unfold wp_X0_within
  rw [pL_z]
  refine loop_0 (fun n i v => wp_X0_within_5 post (pL f) (nI s) n v (nI i)) (fun i v => v = pL (fun a => if a < i ∧ s.testBit a = true then f a &&& s else 0)) 8 _ ?_ ?_ ?_
  · exact pL_congr (fun i hi => by simp)
  · intro n v hv
    subst hv
    show wp_X0_within_5 _ _ _ _ _ _
    unfold wp_X0_within_5
    refine wt (nI_le (Nat.le_refl _) (by decide)) ?_
    rw [pL_congr (g := fun a => if s.testBit a then f a &&& s else 0) (fun i hi => by simp [hi])]
    exact h
  · intro n i v hi hv ih
    subst hv
    show wp_X0_within_5 _ _ _ _ _ _
    unfold wp_X0_within_5
    refine wf (nI_ge hi (by decide)) ?_
    refine s_contains hs hi ?_
    refine zc (fun hb => ?_) (fun hb => ?_)
    · rw [nS]
      refine ih _ (pL_congr (fun k hk => ?_))
      by_cases hk2 : k = i
      · subst hk2; simp [hb]
      · by_cases h3 : k < i
        · simp [h3, Nat.lt_succ_of_lt h3]
        · have h4 : ¬ k < i + 1 := by omega
          simp [h3, h4]
    · refine s_get hf hi ?_
      rw [nx_and]
      refine s_with hi (and_lt8 (hf i hi) _) ?_
      rw [nS]
      refine ih _ (pL_congr (fun k hk => ?_))
      unfold upN
      by_cases hk2 : k = i
      · subst hk2; simp [hb]
      · rw [if_neg hk2]
        by_cases h3 : k < i
        · simp [h3, Nat.lt_succ_of_lt h3]
        · have h4 : ¬ k < i + 1 := by omega
          simp [h3, h4]
/-- one step of the closure: what goes to by goes on by it; rows below a are through -/
def cl1 (f : Nat → Nat) (by_ : Nat) : Nat → (Nat → Nat)
  | 0 => f
  | a + 1 => if (cl1 f by_ a a).testBit by_ then upN (cl1 f by_ a) a (cl1 f by_ a a ||| cl1 f by_ a by_) else cl1 f by_ a
def clo (f : Nat → Nat) : Nat → (Nat → Nat)
  | 0 => f
  | b + 1 => cl1 (clo f b) b 8
theorem cl1_r8 {f : Nat → Nat} (hf : r8 f) {b : Nat} (hb : b < 8) : ∀ a, a ≤ 8 → r8 (cl1 f b a)
  | 0, _ => hf
  | a + 1, h => by
    have ih := cl1_r8 hf hb a (by omega)
    unfold cl1
    split
    · exact ih.up (or_lt8 (ih a (by omega)) (ih b hb))
    · exact ih
theorem clo_r8 {f : Nat → Nat} (hf : r8 f) : ∀ b, b ≤ 8 → r8 (clo f b)
  | 0, _ => hf
  | b + 1, h => cl1_r8 (clo_r8 hf b (by omega)) (by omega) 8 (Nat.le_refl _)
theorem s_closed {f : Nat → Nat} (hf : r8 f) {post : Int64 → Prop} (h : post (pL (clo f 8))) : wp_X0_closed post (pL f) := by
  unfold wp_X0_closed
  refine loop_0 (fun n b v => wp_X0_closed_5 post (pL f) n v (nI b)) (fun b v => v = pL (clo f b)) 8 _ rfl ?_ ?_
  · intro n v hv
    subst hv
    show wp_X0_closed_5 _ _ _ _ _
    unfold wp_X0_closed_5
    exact wt (nI_le (Nat.le_refl _) (by decide)) h
  · intro n b v hb hv ih
    subst hv
    show wp_X0_closed_5 _ _ _ _ _
    unfold wp_X0_closed_5
    refine wf (nI_ge hb (by decide)) ?_
    have hr := clo_r8 hf b (by omega)
    refine loop_0 (fun n2 a v => wp_X0_closed_15 post (pL f) (wp_X0_closed_5 post (pL f) n) n2 v (nI b) (nI a)) (fun a v => v = pL (cl1 (clo f b) b a)) 8 _ rfl ?_ ?_
    · intro n2 v hv
      subst hv
      show wp_X0_closed_15 _ _ _ _ _ _ _
      unfold wp_X0_closed_15
      refine wt (nI_le (Nat.le_refl _) (by decide)) ?_
      rw [nS]
      exact ih _ rfl
    · intro n2 a v ha hv ih2
      subst hv
      show wp_X0_closed_15 _ _ _ _ _ _ _
      unfold wp_X0_closed_15
      have h8 := cl1_r8 hr hb a (by omega)
      refine wf (nI_ge ha (by decide)) ?_
      refine s_has ha hb ?_
      refine zc (fun hz => ?_) (fun hz => ?_)
      · rw [nS]
        refine ih2 _ ?_
        rw [cl1, hz]; simp
      · refine s_get h8 ha ?_
        refine s_get h8 hb ?_
        rw [nx_or]
        refine s_with ha (or_lt8 (h8 a ha) (h8 b hb)) ?_
        rw [nS]
        refine ih2 _ ?_
        rw [cl1, hz]; simp
