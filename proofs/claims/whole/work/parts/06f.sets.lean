/-! counts of bits -/
def bcE (x0 : Int32) : Int32 := (x0 - ((hcUshr x0 (nI 1)) &&& (1431655765 : Int32)))
def bcF (a : Int32) : Int32 := (a &&& (858993459 : Int32)) + ((hcUshr a (nI 2)) &&& (858993459 : Int32))
def bcG (y : Int32) : Int32 := (y + hcUshr y (nI 4)) &&& (252645135 : Int32)
def bcH (a : Int32) : Int32 := a + hcUshr a (nI 8)
def bcI (a : Int32) : Int32 := (a + hcUshr a (nI 16)) &&& nI 63
theorem bc_all : ∀ s : Fin 256, bcI (bcH (bcG (bcF (bcE (nI s.val))))) = nI (pc s.val 8) := by decide +kernel
theorem s_bitCount {s : Nat} (hs : s < 256) {post : Int32 → Prop} (hp : post (nI (pc s 8))) : wp_J6_bitCount_0f7a4 post (nI s) := by
  unfold wp_J6_bitCount_0f7a4
  intro y1 h1 y2 h2
  have e := bc_all ⟨s, hs⟩
  have e1 : y1 = bcF (bcE (nI s)) := h1
  have e2 : y2 = bcH (bcG y1) := h2
  have e3 : (y2 + hcUshr y2 (nI 16)) &&& nI 63 = nI (pc s 8) := by
    rw [e2, e1]; exact e
  rw [e3]
  exact hp
theorem m_ones {s : Nat} (hs : s < 2 ^ 31) {post : Int32 → Prop} (hp : post (nI (pc s 8))) : wp_X11_ones post (nI s) := by
  unfold wp_X11_ones
  refine loop_0 (fun n i v => wp_X11_ones_4 post (nI s) n v (nI i)) (fun i v => v = nI (pc s i)) 8 _ rfl ?_ ?_
  · intro n v hv_
    subst hv_
    show wp_X11_ones_4 _ _ _ _ _
    unfold wp_X11_ones_4
    exact wt (nI_le (Nat.le_refl _) (by decide)) hp
  · intro n i v hi hv_ ih
    subst hv_
    show wp_X11_ones_4 _ _ _ _ _
    unfold wp_X11_ones_4
    refine wf (nI_ge hi (by decide)) ?_
    rw [shr_nI hs (by omega), bit_nI, nI_add, nS]
    exact ih _ rfl
/-! some place below n -/
def anB (p : Nat → Bool) : Nat → Bool
  | 0 => false
  | n + 1 => anB p n || p n
theorem anB_iff {p : Nat → Bool} {n : Nat} : anB p n = true ↔ ∃ i, i < n ∧ p i = true := by
  induction n with
  | zero => simp [anB]
  | succ n ih =>
    unfold anB
    rw [Bool.or_eq_true, ih]
    constructor
    · rintro (⟨i, h1, h2⟩ | h)
      · exact ⟨i, by omega, h2⟩
      · exact ⟨n, by omega, h⟩
    · rintro ⟨i, h1, h2⟩
      by_cases hi : i = n
      · subst hi; exact Or.inr h2
      · exact Or.inl ⟨i, by omega, h2⟩
theorem anB_f {p : Nat → Bool} {n : Nat} : anB p n = false ↔ ∀ i, i < n → p i = false := by
  constructor
  · intro h i hi
    cases q : p i
    · rfl
    · have := anB_iff.mpr ⟨i, hi, q⟩
      rw [h] at this; exact absurd this (by decide)
  · intro h
    cases q : anB p n
    · rfl
    · obtain ⟨i, hi, h2⟩ := anB_iff.mp q
      rw [h i hi] at h2; exact absurd h2 (by decide)
def cnt (p : Nat → Bool) : Nat → Nat
  | 0 => 0
  | n + 1 => cnt p n + (p n).toNat
theorem cnt_le (p : Nat → Bool) (n : Nat) : cnt p n ≤ n := by
  induction n with
  | zero => exact Nat.le_refl _
  | succ n ih => unfold cnt; have := Bool.toNat_le (p n); omega
theorem cnt_congr {p q : Nat → Bool} {n : Nat} (h : ∀ i, i < n → p i = q i) : cnt p n = cnt q n := by
  induction n with
  | zero => rfl
  | succ n ih => unfold cnt; rw [ih (fun i hi => h i (by omega)), h n (by omega)]
theorem cnt_0 {p : Nat → Bool} {n : Nat} : cnt p n = 0 ↔ ∀ i, i < n → p i = false := by
  induction n with
  | zero => simp [cnt]
  | succ n ih =>
    unfold cnt
    constructor
    · intro h i hi
      rcases Nat.lt_or_ge i n with q | q
      · exact (ih.mp (by omega)) i q
      · rw [show i = n by omega]
        cases z : p n
        · rfl
        · rw [z] at h; simp at h
    · intro h
      rw [ih.mpr (fun i hi => h i (by omega)), h n (by omega)]; rfl
/-- rows of truth values -/
def az (n : Nat) (g : Nat → Int32) (p : Nat → Bool) : Prop := ∀ j, j < n → g j = zI (p j)
theorem az.rd {n : Nat} {g : Nat → Int32} {p : Nat → Bool} (h : az n g p) {i : Nat} (hi : i < n) (hn : n < 2 ^ 31) : g (nI i).toNatClampNeg = zI (p i) := by rw [nI_clamp (by omega)]; exact h i hi
theorem az.keep {n : Nat} {g : Nat → Int32} {p : Nat → Bool} (h : az n g p) {k : Nat} (hk : n ≤ k) (v : Int32) : az n (upd g k v) p := fun j hj => by rw [pk_un (by omega)]; exact h j hj
theorem az.succ {n : Nat} {g : Nat → Int32} {p : Nat → Bool} (h : az n g p) (e : g n = zI (p n)) : az (n + 1) g p := fun j hj => by
  rcases Nat.lt_or_ge j n with q | q
  · exact h j q
  · rw [show j = n by omega]; exact e
theorem az.put {n : Nat} {g : Nat → Int32} {p : Nat → Bool} (h : az n g p) (hn : n < 2 ^ 31) {b : Bool} (hb : b = p n) : az (n + 1) (upd g (nI n).toNatClampNeg (vp_nar .boolean (zI b))) p := by
  rw [nI_clamp hn, zI_nar]
  exact (h.keep (Nat.le_refl _) _).succ (by rw [pk_us, hb])
theorem az0 {g : Nat → Int32} {p : Nat → Bool} : az 0 g p := fun j hj => absurd hj (Nat.not_lt_zero j)
theorem az.cg {n : Nat} {g : Nat → Int32} {p q : Nat → Bool} (h : az n g p) (e : ∀ j, j < n → p j = q j) : az n g q := fun j hj => by rw [h j hj, e j hj]
/-! sorts of sets -/
def btn (h : Nat → Nat) (s : Nat) : Nat := rch (dft h) s 8
theorem btn_lt {h : Nat → Nat} (H : hv h) (s : Nat) : btn h s < 256 := rch_lt (fun i hi => dft_r8 H i hi) s
theorem btn_in {h : Nat → Nat} {s j : Nat} (hj : (btn h s).testBit j = true) : hd h j = true := by
  obtain ⟨i, hi, -, q⟩ := (rch_tb _ _ _ _).mp hj
  exact dft_in hi q
theorem cl1_z {f : Nat → Nat} {b c : Nat} (hc : f c = 0) : ∀ a, cl1 f b a c = 0
  | 0 => hc
  | a + 1 => by
    have ih := cl1_z (b := b) hc a
    unfold cl1
    split
    · rename_i q
      unfold upN
      split
      · rename_i e
        subst e
        rw [ih, Nat.zero_testBit] at q
        exact absurd q (by decide)
      · exact ih
    · exact ih
theorem clo_z {f : Nat → Nat} {c : Nat} (hc : f c = 0) : ∀ b, clo f b c = 0
  | 0 => hc
  | b + 1 => cl1_z (clo_z hc b) 8
theorem rch_z (f : Nat → Nat) (n : Nat) : rch f 0 n = 0 := by
  induction n with
  | zero => rfl
  | succ n ih => rw [rch_s, ih, Nat.zero_testBit]; simp
theorem dft_un {h : Nat → Nat} {c : Nat} (hc : hd h c = false) : dft h c = 0 := by
  have e1 : hit h c = 0 := by
    refine tb8_ext (bs_lt _ _) (by decide) (fun i hi => ?_)
    rw [hit_tb, Nat.zero_testBit]
    unfold hitB
    rw [hc]; simp
  have e2 : lead h c = 0 := clo_z (by unfold lead0; rw [hc]; rfl) 8
  unfold dft
  rw [e1, e2, rch_z, rch_z]
  simp
theorem dfr_un {h : Nat → Nat} {c : Nat} (hc : hd h c = false) : dfr h c = 0 := by
  refine tb8_ext (trn_lt _ _) (by decide) (fun i hi => ?_)
  rw [Nat.zero_testBit]
  show (trn (dft h) c).testBit i = false
  rw [trn_tb]
  cases q : (dft h i).testBit c
  · simp
  · rw [dft_in hi q] at hc; exact absurd hc (by decide)
theorem hd_ge {h : Nat → Nat} (H : hv h) {c : Nat} (hc : h 42 ≤ c) : hd h c = false := by
  cases q : hd h c
  · rfl
  · have := H.hd_lt q; omega
theorem rch_ge {f : Nat → Nat} {s n : Nat} : ∀ m, n ≤ m → (∀ i, n ≤ i → i < m → f i = 0) → rch f s m = rch f s n
  | 0, hm, _ => by rw [show n = 0 by omega]
  | m + 1, hm, hz => by
    rcases Nat.lt_or_ge m n with q | q
    · rw [show n = m + 1 by omega]
    · rw [rch, rch_ge m q (fun i h1 h2 => hz i h1 (by omega)), hz m q (by omega)]
      simp
def freeB (h : Nat → Nat) (s : Nat) : Bool := decide (dif s (h 40) = 0) && decide (btn h s &&& s = 0)
def safeB (h : Nat → Nat) (s : Nat) : Bool := decide (dif (rch (dfr h) s 8) (btn h s) = 0)
def admB (h : Nat → Nat) (s : Nat) : Bool := freeB h s && safeB h s
def dfd (h : Nat → Nat) (s : Nat) : Nat := bs (fun c => decide (dif (dfr h c) (btn h s) = 0)) 8 &&& h 40
def comB (h : Nat → Nat) (s : Nat) : Bool := admB h s && decide (dif (dfd h s) s = 0)
def staB (h : Nat → Nat) (s : Nat) : Bool := decide (dif s (h 40) = 0) && decide (btn h s = dif (h 40) s)
def plB (h : Nat → Nat) (sort s : Nat) : Bool := if sort = 0 then freeB h s else if sort = 1 ∨ sort = 3 then admB h s else if sort = 4 then staB h s else comB h s
/-- what a set has to have all of -/
def ran (h : Nat → Nat) (w : Bool) (s : Nat) : Nat := if w then s ||| btn h s else s
theorem ran_lt {h : Nat → Nat} (H : hv h) (w : Bool) {s : Nat} (hs : s < 256) : ran h w s < 256 := by
  unfold ran
  split
  · exact or_lt8 hs (btn_lt H s)
  · exact hs
/-- whether some other one has all of it, and more -/
def behB (h : Nat → Nat) (p : Nat → Bool) (w : Bool) (x : Nat) : Bool := anB (fun t => p t && (decide (dif x (ran h w t) = 0) && !decide (x = ran h w t))) 256
def srt (h : Nat → Nat) (sort s : Nat) : Bool := plB h sort s && (if sort = 3 ∨ sort = 5 then !behB h (plB h sort) (decide (sort = 5)) (ran h (decide (sort = 5)) s) else true)
/-! the class -/
theorem s_isFree {h : Nat → Nat} (H : hv h) {s : Nat} (hs : s < 256) (hin : dif s (h 40) = 0) {post : Int32 → Prop} (hp : post (zI (freeB h s))) : wp_X7_isFree post (pL (dft h)) (nI s) := by
  unfold wp_X7_isFree
  refine s_reach (dft_r8 H) hs ?_
  rw [nx_and]
  refine zs2 ?_ hp
  have := and_lt8' (btn h s) hs
  show nI (btn h s &&& s) = 0 ↔ _
  rw [nI_eq0 (by omega)]
  unfold freeB
  simp [hin]
theorem s_isAdm {h : Nat → Nat} (H : hv h) {s : Nat} (hs : s < 256) (hin : dif s (h 40) = 0) {post : Int32 → Prop} (hp : post (zI (admB h s))) : wp_X7_isAdmissible post (pL (dft h)) (pL (dfr h)) (nI s) := by
  unfold wp_X7_isAdmissible
  refine s_reach (dft_r8 H) hs ?_
  have l1 := and_lt8' (btn h s) hs
  have l2 : rch (dfr h) s 8 < 256 := rch_lt (fun i hi => dfr_r8 h i hi) s
  have l3 := dif_lt l2 (btn h s)
  show (¬ nI (btn h s) &&& nI s = 0 → _) ∧ (nI (btn h s) &&& nI s = 0 → _)
  rw [nx_and]
  refine wc2 (nI_eq0 (by omega)) (fun c => ?_) (fun c => ?_)
  · refine s_reach (dfr_r8 h) hs ?_
    show (¬ nI (rch (dfr h) s 8) &&& (nI (btn h s) ^^^ -1) = 0 → _) ∧ (nI (rch (dfr h) s 8) &&& (nI (btn h s) ^^^ -1) = 0 → _)
    rw [nx_dif l2]
    refine zs2 ?_ hp
    rw [nI_eq0 (by omega)]
    unfold admB freeB safeB
    simp [hin, c]
  · unfold admB freeB at hp
    simpa [c, zI] using hp
theorem s_dfd {h : Nat → Nat} (H : hv h) {s : Nat} (hs : s < 256) {post : Int32 → Prop} (hp : post (nI (dfd h s))) : wp_X7_defendedBy post (nI (h 40)) (pL (dft h)) (pL (dfr h)) (nI s) := by
  unfold wp_X7_defendedBy
  refine s_reach (dft_r8 H) hs ?_
  refine loop_0 (fun n i v => wp_X7_defendedBy_14 post (nI (h 40)) (pL (dft h)) (pL (dfr h)) (nI s) n (nI (btn h s)) v (nI i)) (fun i v => v = nI (bs (fun c => decide (dif (dfr h c) (btn h s) = 0)) i)) 8 _ rfl ?_ ?_
  · intro n v hv_
    subst hv_
    show wp_X7_defendedBy_14 _ _ _ _ _ _ _ _ _
    unfold wp_X7_defendedBy_14
    refine wt (nI_le (Nat.le_refl _) (by decide)) ?_
    rw [nx_and]
    exact hp
  · intro n i v hi hv_ ih
    subst hv_
    show wp_X7_defendedBy_14 _ _ _ _ _ _ _ _ _
    unfold wp_X7_defendedBy_14
    refine wf (nI_ge hi (by decide)) ?_
    refine s_get (dfr_r8 h) hi ?_
    have l1 := dif_lt (dfr_r8 h i hi) (btn h s)
    rw [nx_dif (dfr_r8 h i hi), nS, shl_1 (by omega), nx_or]
    refine wc2 (nI_eq0 (by omega)) (fun c => ih _ ?_) (fun c => ih _ ?_)
    · rw [bs, decide_eq_true c]; rfl
    · rw [bs, decide_eq_false c]; simp
theorem s_isCom {h : Nat → Nat} (H : hv h) {s : Nat} (hs : s < 256) (hin : dif s (h 40) = 0) {post : Int32 → Prop} (hp : post (zI (comB h s))) : wp_X7_isComplete post (nI (h 40)) (pL (dft h)) (pL (dfr h)) (nI s) := by
  unfold wp_X7_isComplete
  refine s_isAdm H hs hin ?_
  refine zc (fun q => ?_) (fun q => ?_)
  · unfold comB at hp; rw [q] at hp; exact hp
  · refine s_dfd H hs ?_
    have l1 : dfd h s < 256 := and_lt8' _ H.heard
    have l2 := dif_lt l1 s
    rw [nx_dif l1]
    refine zs2 ?_ hp
    rw [nI_eq0 (by omega)]
    unfold comB
    rw [q]; simp
theorem s_isSta {h : Nat → Nat} (H : hv h) {s : Nat} (hs : s < 256) (hin : dif s (h 40) = 0) {post : Int32 → Prop} (hp : post (zI (staB h s))) : wp_X7_isStable post (nI s) (nI (h 40)) (pL (dft h)) := by
  unfold wp_X7_isStable
  refine s_reach (dft_r8 H) hs ?_
  rw [nx_dif H.heard]
  refine zs2 ?_ hp
  have l1 := btn_lt H s
  have l2 := dif_lt H.heard s
  show nI (btn h s) = nI (dif (h 40) s) ↔ _
  rw [nI_eq (by omega) (by omega)]
  unfold staB
  simp [hin]
theorem nI_sw {k n : Nat} (hk : k ≤ n) (hn : n < 1000) : ¬ ((nI k).toInt < 0 ∨ (n : Int) < (nI k).toInt) := by rw [nI_toInt (by omega)]; omega
theorem sw_lo {k n : Nat} (hk : k ≤ n) (hn : n < 1000) {P : Prop} : ((nI k).toInt < 0 ∨ (n : Int) < (nI k).toInt) → P := fun q => absurd q (nI_sw hk hn)
theorem sw_no {k j : Nat} (hk : k < 1000) (hj : j < 1000) (h : ¬ k = j) {P : Prop} : nI k = nI j → P := fun q => absurd ((nI_eq (by omega) (by omega)).mp q) h
theorem s_isOf {h : Nat → Nat} (H : hv h) {sort : Nat} (hst : sort ≤ 5) {s : Nat} (hs : s < 256) (hin : dif s (h 40) = 0) {post : Int32 → Prop} (hp : post (zI (plB h sort s))) : wp_X7_isOf post (nI (h 40)) (pL (dft h)) (pL (dfr h)) (nI sort) (nI s) := by
  unfold wp_X7_isOf
  refine ⟨sw_lo (n := 5) hst (by decide), ?_⟩
  have e : ∀ n : Nat, n ≤ 5 → nI sort = nI n → sort = n := fun n hn q => (nI_eq (by omega) (by omega)).mp q
  refine ⟨fun q => ?_, fun q => ?_, fun q => ?_, fun q => ?_, fun q => ?_, fun q => ?_⟩
  · rw [e 0 (by decide) q] at hp; exact s_isFree H hs hin ⟨zI_Z _, hp⟩
  · rw [e 1 (by decide) q] at hp; exact s_isAdm H hs hin ⟨zI_Z _, hp⟩
  · rw [e 2 (by decide) q] at hp; exact s_isCom H hs hin ⟨zI_Z _, hp⟩
  · rw [e 3 (by decide) q] at hp; exact s_isAdm H hs hin ⟨zI_Z _, hp⟩
  · rw [e 4 (by decide) q] at hp; exact s_isSta H hs hin ⟨zI_Z _, hp⟩
  · rw [e 5 (by decide) q] at hp; exact s_isCom H hs hin ⟨zI_Z _, hp⟩
theorem s_rangeOf {h : Nat → Nat} (H : hv h) {s : Nat} (hs : s < 256) {post : Int32 → Prop} (hp : post (nI (ran h true s))) : wp_X7_rangeOf post (pL (dft h)) (nI s) := by
  unfold wp_X7_rangeOf
  refine s_reach (dft_r8 H) hs ?_
  rw [nx_or]
  exact hp
theorem plB_in {h : Nat → Nat} {sort s : Nat} (q : plB h sort s = true) : dif s (h 40) = 0 := by
  unfold plB at q
  split at q
  · unfold freeB at q; simp at q; exact q.1
  · split at q
    · unfold admB freeB at q; simp at q; exact q.1.1
    · split at q
      · unfold staB at q; simp at q; exact q.1
      · unfold comB admB freeB at q; simp at q; exact q.1.1.1
/-! what a greater one has all of -/
/-- some marked one below 256 has all of x, and more -/
def surB (mk : Nat → Bool) (x : Nat) : Bool := anB (fun m => mk m && (decide (dif x m = 0) && !decide (x = m))) 256
theorem sub_iff {x m : Nat} (hx : x < 256) : dif x m = 0 ↔ ∀ i, i < 8 → x.testBit i = true → m.testBit i = true := dif_0 hx
theorem surB_step {mk : Nat → Bool} {x : Nat} (hx : x < 256) : surB mk x = anB (fun i => !decide (x ||| 2 ^ i = x) && (mk (x ||| 2 ^ i) || surB mk (x ||| 2 ^ i))) 8 := by
  cases e : anB (fun i => !decide (x ||| 2 ^ i = x) && (mk (x ||| 2 ^ i) || surB mk (x ||| 2 ^ i))) 8
  · have e' := anB_f.mp e
    refine anB_f.mpr (fun m hm => ?_)
    cases q : (mk m && (decide (dif x m = 0) && !decide (x = m)))
    · rfl
    · simp at q
      obtain ⟨q1, q2, q3⟩ := q
      have q2' := (sub_iff hx).mp q2
      -- a place of m that isn't of x
      have : ∃ i, i < 8 ∧ x.testBit i = false ∧ m.testBit i = true := by
        refine Classical.byContradiction (fun z => q3 (tb8_ext hx hm (fun i hi => ?_)))
        cases z1 : x.testBit i <;> cases z2 : m.testBit i
        · rfl
        · exact absurd ⟨i, hi, z1, z2⟩ z
        · rw [q2' i hi z1] at z2; exact absurd z2 (by decide)
        · rfl
      obtain ⟨i, hi, z1, z2⟩ := this
      have ei := e' i hi
      have ne : ¬ (x ||| 2 ^ i = x) := fun z => by
        have := congrArg (fun k => k.testBit i) z
        simp only [Nat.testBit_or, Nat.testBit_two_pow_self, z1] at this
        exact absurd this (by decide)
      simp [ne] at ei
      by_cases z3 : x ||| 2 ^ i = m
      · rw [z3, q1] at ei; exact absurd ei.1 (by decide)
      · have lx := or_lt8 hx (pw_lt8 hi)
        have := anB_f.mp ei.2 m hm
        simp [q1, z3] at this
        refine absurd ((sub_iff lx).mpr (fun j hj z4 => ?_)) this
        rw [Nat.testBit_or, tb_pw, Bool.or_eq_true] at z4
        rcases z4 with z4 | z4
        · exact q2' j hj z4
        · rw [← of_decide_eq_true z4]; exact z2
  · obtain ⟨i, hi, q⟩ := anB_iff.mp e
    simp at q
    obtain ⟨ne, q⟩ := q
    have lx := or_lt8 hx (pw_lt8 hi)
    have xin : ∀ j, x.testBit j = true → (x ||| 2 ^ i).testBit j = true := fun j z => by rw [Nat.testBit_or, z]; rfl
    rcases q with q | q
    · refine anB_iff.mpr ⟨x ||| 2 ^ i, lx, ?_⟩
      simp [q]
      exact ⟨(sub_iff hx).mpr (fun j _ z => xin j z), fun z => ne z.symm⟩
    · obtain ⟨m, hm, q2⟩ := anB_iff.mp q
      simp at q2
      obtain ⟨q3, q4, q5⟩ := q2
      have q4' := (sub_iff lx).mp q4
      refine anB_iff.mpr ⟨m, hm, ?_⟩
      simp [q3]
      refine ⟨(sub_iff hx).mpr (fun j hj z => q4' j hj (xin j z)), fun z => ne ?_⟩
      subst z
      refine tb8_ext lx hx (fun j hj => ?_)
      cases z1 : (x ||| 2 ^ i).testBit j
      · cases z2 : x.testBit j
        · rfl
        · rw [xin j z2] at z1; exact absurd z1 (by decide)
      · exact (q4' j hj z1).symm
theorem s_isMarked {g : Nat → Int32} {mk : Nat → Bool} (hg : az 256 g mk) {x : Nat} (hx : x < 256) {post : Int32 → Prop} (hp : post (zI (mk x))) : wp_X7_isMarked post g (nI x) := by
  unfold wp_X7_isMarked
  refine wf (nI_pos (by omega)) ?_
  refine wf (nI_ge hx (by decide)) ⟨vp_in_nI hx (by decide), ?_⟩
  rw [hg.rd hx (by decide)]
  exact zs3 (zI_0 _) hp
theorem s_isSurpassed {g : Nat → Int32} {x : Nat} (hx : x < 256) {b : Bool} (hg : g x = zI b) {post : Int32 → Prop} (hp : post (zI b)) : wp_X7_isSurpassed post g (nI x) := by
  unfold wp_X7_isSurpassed
  refine wf (nI_pos (by omega)) ?_
  refine wf (nI_ge hx (by decide)) ⟨vp_in_nI hx (by decide), ?_⟩
  rw [nI_clamp (by omega), hg]
  exact zs3 (zI_0 _) hp
theorem m1_nI (k : Nat) : nI (k + 1) + (-1 : Int32) = nI k := pk_m1 k
theorem s_findSurpassed {g : Nat → Int32} {mk : Nat → Bool} (hg : az 256 g mk) {gs : Nat → Int32} {post : (Nat → Int32) → Prop} (hp : ∀ gs, az 256 gs (surB mk) → post gs) : wp_X7_findSurpassed post g gs := by
  unfold wp_X7_findSurpassed
  rw [show nI 256 - nI 1 = nI 255 from pk_sub (by decide)]
  -- from set x down, all above being done
  have key : ∀ k, k ≤ 256 → ∀ gs, (∀ j, k ≤ j → j < 256 → gs j = zI (surB mk j)) → ∃ n, wp_X7_findSurpassed_8 post g n (if k = 0 then (-1 : Int32) else nI (k - 1)) gs := by
    intro k
    induction k with
    | zero =>
      intro _ gs hgs
      refine ⟨1, ?_⟩
      unfold wp_X7_findSurpassed_8
      rw [if_pos rfl]
      exact wt (by decide +kernel) (hp gs (fun j hj => hgs j (Nat.zero_le _) hj))
    | succ k ih =>
      intro hk gs hgs
      rw [if_neg (Nat.succ_ne_zero k), show k + 1 - 1 = k by omega]
      have hk8 : k < 256 := by omega
      -- fuel for the rest: by the rest's own, for whatever comes
      have rest : ∃ n, wp_X7_findSurpassed_8 post g n (if k = 0 then (-1 : Int32) else nI (k - 1)) (upd gs k (zI (surB mk k))) := ih (by omega) _ (fun j h1 h2 => by
        by_cases q : j = k
        · subst q; rw [pk_us]
        · rw [pk_un q]; exact hgs j (by omega) h2)
      obtain ⟨n, hn⟩ := rest
      refine ⟨n + 1, ?_⟩
      unfold wp_X7_findSurpassed_8
      refine wf (nI_pos (by omega)) ?_
      have em1 : nI k + (-1 : Int32) = (if k = 0 then (-1 : Int32) else nI (k - 1)) := by
        cases k with
        | zero => decide +kernel
        | succ z => rw [if_neg (Nat.succ_ne_zero z)]; exact pk_m1 z
      refine loop_0 (fun n2 i v => wp_X7_findSurpassed_16 post g (wp_X7_findSurpassed_8 post g n) n2 (nI k) v (nI i) gs) (fun i v => v = zI (anB (fun i => !decide (k ||| 2 ^ i = k) && (mk (k ||| 2 ^ i) || surB mk (k ||| 2 ^ i))) i)) 8 _ rfl ?_ ?_
      · intro n2 v hv_
        subst hv_
        show wp_X7_findSurpassed_16 _ _ _ _ _ _ _ _
        unfold wp_X7_findSurpassed_16
        refine wt (nI_le (Nat.le_refl _) (by decide)) ⟨vp_in_nI hk8 (by decide), ?_⟩
        rw [em1, nI_clamp (by omega), zI_nar, ← surB_step hk8]
        exact hn
      · intro n2 i v hi hv_ ih2
        subst hv_
        show wp_X7_findSurpassed_16 _ _ _ _ _ _ _ _
        unfold wp_X7_findSurpassed_16
        refine wf (nI_ge hi (by decide)) ?_
        have lx := or_lt8 hk8 (pw_lt8 hi)
        rw [shl_1 (by omega), nx_or, nS]
        refine wc (nI_eq (by omega) (by omega)) (fun c => ih2 _ ?_) (fun c => ?_)
        · rw [anB]; simp [c]
        · have gr : k < k ||| 2 ^ i := Nat.lt_of_le_of_ne Nat.left_le_or (fun z => c z.symm)
          refine s_isMarked hg lx ?_
          refine zc2 (fun q => ?_) (fun q => ih2 (nI 1) ?_)
          · refine s_isSurpassed lx (hgs _ (by omega) lx) ?_
            refine zc (fun q2 => ih2 _ ?_) (fun q2 => ih2 (nI 1) ?_)
            · rw [anB]; simp [c, q, q2]
            · rw [anB]; simp [c, q, q2, zI]
          · rw [anB]; simp [c, q, zI]
  obtain ⟨n, hn⟩ := key 256 (by omega) gs (fun j h1 h2 => by omega)
  exact ⟨n, hn⟩
/-- the ranges of the chosen ones below n -/
def mkB (h : Nat → Nat) (p : Nat → Bool) (w : Bool) (n x : Nat) : Bool := anB (fun t => p t && decide (ran h w t = x)) n
theorem behB_sur {h : Nat → Nat} (H : hv h) (p : Nat → Bool) (w : Bool) {x : Nat} (hx : x < 256) : surB (mkB h p w 256) x = behB h p w x := by
  cases e : behB h p w x
  · have e' := anB_f.mp e
    refine anB_f.mpr (fun m hm => ?_)
    cases q : (mkB h p w 256 m && (decide (dif x m = 0) && !decide (x = m)))
    · rfl
    · rw [Bool.and_eq_true] at q
      obtain ⟨t, ht, q2⟩ := anB_iff.mp q.1
      rw [Bool.and_eq_true] at q2
      have := e' t ht
      rw [of_decide_eq_true q2.2, q2.1, q.2] at this
      exact absurd this (by decide)
  · obtain ⟨t, ht, q⟩ := anB_iff.mp e
    rw [Bool.and_eq_true] at q
    refine anB_iff.mpr ⟨ran h w t, ran_lt H w ht, ?_⟩
    rw [Bool.and_eq_true]
    exact ⟨anB_iff.mpr ⟨t, ht, by simp [q.1]⟩, q.2⟩
theorem s_mark {g : Nat → Int32} {x : Nat} (hx : x < 256) {post : (Nat → Int32) → Prop} (hp : post (upd g x (zI true))) : wp_X7_mark post g (nI x) := by
  unfold wp_X7_mark
  refine wf (nI_pos (by omega)) ?_
  refine wf (nI_ge hx (by decide)) ⟨vp_in_nI hx (by decide), ?_⟩
  rw [nI_clamp (by omega), ← zI_t, zI_nar]
  exact hp
theorem s_drop {h : Nat → Nat} (H : hv h) {p : Nat → Bool} {g1 g2 g3 : Nat → Int32} (hc : az 256 g1 p) {w : Bool} {post : (Nat → Int32) → (Nat → Int32) → (Nat → Int32) → Prop} (hp : ∀ g1 g2 g3, az 256 g1 (fun s => p s && !behB h p w (ran h w s)) → post g1 g2 g3) : wp_X7_dropSurpassed post g1 g2 g3 (pL (dft h)) (zI w) := by
  unfold wp_X7_dropSurpassed
  refine loop_0 (fun n i v => wp_X7_dropSurpassed_2 post (pL (dft h)) (zI w) n (nI i) g1 v g3) (fun i v => az i v (fun _ => false)) 256 g2 az0 ?_ ?_
  · intro n v hv_
    show wp_X7_dropSurpassed_2 _ _ _ _ _ _ _ _
    unfold wp_X7_dropSurpassed_2
    refine wt (nI_le (Nat.le_refl _) (by decide)) ?_
    refine loop_0 (fun n i v => wp_X7_dropSurpassed_26 post (pL (dft h)) (zI w) n (nI i) g1 v g3) (fun i v => az 256 v (mkB h p w i)) 256 v hv_ ?_ ?_
    · intro n v hv_
      show wp_X7_dropSurpassed_26 _ _ _ _ _ _ _ _
      unfold wp_X7_dropSurpassed_26
      refine wt (nI_le (Nat.le_refl _) (by decide)) ?_
      refine s_findSurpassed hv_ (fun gs hgs => ?_)
      refine loop_0 (fun n i u => wp_X7_dropSurpassed_73 post (pL (dft h)) (zI w) n (nI i) u v gs) (fun i u => az i u (fun s => p s && !behB h p w (ran h w s)) ∧ ∀ j, i ≤ j → j < 256 → u j = zI (p j)) 256 g1 ⟨az0, fun j _ hj => hc j hj⟩ ?_ ?_
      · intro n u hu
        show wp_X7_dropSurpassed_73 _ _ _ _ _ _ _ _
        unfold wp_X7_dropSurpassed_73
        exact wt (nI_le (Nat.le_refl _) (by decide)) (hp _ _ _ hu.1)
      · intro n i u hi hu ih
        show wp_X7_dropSurpassed_73 _ _ _ _ _ _ _ _
        unfold wp_X7_dropSurpassed_73
        refine wf (nI_ge hi (by decide)) ⟨vp_in_nI hi (by decide), ?_⟩
        have ei := hu.2 i (Nat.le_refl _) hi
        rw [nI_clamp (by omega), ei, nS]
        have nxt : ∀ b : Bool, b = (p i && !behB h p w (ran h w i)) → wp_X7_dropSurpassed_73 post (pL (dft h)) (zI w) n (nI (i + 1)) (upd u i (vp_nar .boolean (zI b))) v gs := by
          intro b hb
          refine ih _ ⟨?_, fun j h1 h2 => ?_⟩
          · rw [zI_nar]
            exact (hu.1.keep (Nat.le_refl _) _).succ (by rw [pk_us, hb])
          · rw [pk_un (by omega)]; exact hu.2 j (by omega) h2
        refine zc (fun q => ⟨vp_in_nI hi (by decide), nxt false (by rw [q]; rfl)⟩) (fun q => ?_)
        have lx := ran_lt H w hi
        have e110 : wp_X7_dropSurpassed_110 post (pL (dft h)) (zI w) (wp_X7_dropSurpassed_73 post (pL (dft h)) (zI w) n) (nI i) u v gs (nI (ran h w i)) (nI i) := by
          unfold wp_X7_dropSurpassed_110
          rw [nI_clamp (show i < 2 ^ 31 by omega), nS]
          refine s_isSurpassed lx (hgs _ lx) ?_
          rw [behB_sur H p w lx]
          refine zc2 (fun q2 => ⟨vp_in_nI hi (by decide), nxt true (by rw [q, q2]; rfl)⟩) (fun q2 => ⟨vp_in_nI hi (by decide), nxt false (by rw [q, q2]; rfl)⟩)
        cases w
        · exact wt (by decide +kernel) e110
        · refine wf (by decide +kernel) (s_rangeOf H hi e110)
    · intro n i v hi hv_ ih
      show wp_X7_dropSurpassed_26 _ _ _ _ _ _ _ _
      unfold wp_X7_dropSurpassed_26
      refine wf (nI_ge hi (by decide)) ⟨vp_in_nI hi (by decide), ?_⟩
      rw [hc.rd hi (by decide), nS]
      refine zc (fun q => ih _ (hv_.cg (fun j hj => ?_))) (fun q => ?_)
      · unfold mkB; rw [anB, q]; simp
      · have lx := ran_lt H w hi
        have fin : az 256 (upd v (ran h w i) (zI true)) (mkB h p w (i + 1)) := by
          intro j hj
          unfold mkB
          rw [anB, q]
          by_cases z : j = ran h w i
          · subst z; rw [pk_us]; simp
          · rw [pk_un z, hv_ j hj]
            rw [decide_eq_false (fun y => z y.symm)]
            unfold mkB; simp
        cases w
        · exact wt (by decide +kernel) (s_mark hi (ih _ fin))
        · refine wf (by decide +kernel) (s_rangeOf H hi (s_mark lx (ih _ fin)))
  · intro n i v hi hv_ ih
    show wp_X7_dropSurpassed_2 _ _ _ _ _ _ _ _
    unfold wp_X7_dropSurpassed_2
    refine wf (nI_ge hi (by decide)) ⟨vp_in_nI hi (by decide), ?_⟩
    rw [nS]
    exact ih _ (hv_.put (b := false) (by omega) rfl)
theorem s_select {h : Nat → Nat} (H : hv h) {sort : Nat} (hst : sort ≤ 5) {g1 g2 g3 : Nat → Int32} {a1 : Int32} {a2 a3 : Int64} {post : (Nat → Int32) → (Nat → Int32) → (Nat → Int32) → Int32 → Int64 → Int64 → Prop} (hp : ∀ g1 g2 g3, az 256 g1 (srt h sort) → post g1 g2 g3 (nI (h 40)) (pL (dft h)) (pL (dfr h))) : wp_X7_select post g1 g2 g3 a1 a2 a3 (pL (dft h)) (pL (dfr h)) (nI sort) (nI (h 40)) := by
  unfold wp_X7_select
  have e : ∀ n : Nat, n ≤ 5 → (nI sort = nI n ↔ sort = n) := fun n hn => nI_eq (by omega) (by omega)
  refine loop_0 (fun n i v => wp_X7_select_24 post (pL (dft h)) (pL (dfr h)) (nI sort) (nI (h 40)) n (nI i) v g2 g3 (nI (h 40)) (pL (dft h)) (pL (dfr h))) (fun i v => az i v (plB h sort)) 256 g1 az0 ?_ ?_
  · intro n v hv_
    show wp_X7_select_24 _ _ _ _ _ _ _ _ _ _ _ _ _
    unfold wp_X7_select_24
    refine wt (nI_le (Nat.le_refl _) (by decide)) ?_
    have e84 : (sort = 3 ∨ sort = 5) → wp_X7_select_84 post (pL (dft h)) (pL (dfr h)) (nI sort) (nI (h 40)) v g2 g3 (nI (h 40)) (pL (dft h)) (pL (dfr h)) := by
      intro z
      unfold wp_X7_select_84
      refine wc2 (e 5 (by decide)) (fun c => ?_) (fun c => ?_)
      · refine s_drop H hv_ (w := true) (fun g1 g2 g3 hg => hp _ _ _ (hg.cg (fun j hj => ?_)))
        unfold srt; rw [if_pos z, decide_eq_true c]
      · refine s_drop H hv_ (w := false) (fun g1 g2 g3 hg => hp _ _ _ (hg.cg (fun j hj => ?_)))
        unfold srt; rw [if_pos z, decide_eq_false c]
    refine wc (e 3 (by decide)) (fun c => e84 (Or.inl c)) (fun c => ?_)
    refine wc2 (e 5 (by decide)) (fun c2 => e84 (Or.inr c2)) (fun c2 => ?_)
    refine hp _ _ _ (hv_.cg (fun j hj => ?_))
    unfold srt; rw [if_neg (fun z => z.elim c c2)]; simp
  · intro n i v hi hv_ ih
    show wp_X7_select_24 _ _ _ _ _ _ _ _ _ _ _ _ _
    unfold wp_X7_select_24
    refine wf (nI_ge hi (by decide)) ?_
    have l1 := dif_lt hi (h 40)
    rw [nx_dif hi, nS]
    refine wc2 (nI_eq0 (by omega)) (fun c => ?_) (fun c => ⟨vp_in_nI hi (by decide), ih _ (hv_.put (b := false) (by omega) ?_)⟩)
    · refine s_isOf H hst hi c ?_
      refine zc (fun q => ⟨vp_in_nI hi (by decide), ih _ (hv_.put (b := false) (by omega) q.symm)⟩) (fun q => ⟨vp_in_nI hi (by decide), ih _ (hv_.put (b := true) (by omega) q.symm)⟩)
    · cases q : plB h sort i
      · rfl
      · exact absurd (plB_in q) c
