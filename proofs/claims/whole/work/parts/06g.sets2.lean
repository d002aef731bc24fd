/-! the class: what is asked of the chosen ones -/
theorem s_stableSets {h : Nat → Nat} (H : hv h) {post : Int32 → Prop} (hp : post (nI (cnt (staB h) 256))) : wp_X7_stableSets post (nI (h 40)) (pL (dft h)) := by
  unfold wp_X7_stableSets
  refine loop_0 (fun n i v => wp_X7_stableSets_5 post (nI (h 40)) (pL (dft h)) n v (nI i)) (fun i v => v = nI (cnt (staB h) i)) 256 _ rfl ?_ ?_
  · intro n v hv_
    subst hv_
    show wp_X7_stableSets_5 _ _ _ _ _ _
    unfold wp_X7_stableSets_5
    exact wt (nI_le (Nat.le_refl _) (by decide)) hp
  · intro n i v hi hv_ ih
    subst hv_
    show wp_X7_stableSets_5 _ _ _ _ _ _
    unfold wp_X7_stableSets_5
    refine wf (nI_ge hi (by decide)) ?_
    have l1 := dif_lt hi (h 40)
    rw [nx_dif hi, nS, nS]
    refine wc2 (nI_eq0 (by omega)) (fun c => ?_) (fun c => ih _ ?_)
    · refine s_isSta H hi c ?_
      refine zc (fun q => ih _ ?_) (fun q => ih _ ?_)
      · rw [cnt, q]; rfl
      · rw [cnt, q]; rfl
    · have : staB h i = false := by unfold staB; rw [decide_eq_false c]; rfl
      rw [cnt, this]; rfl
section CHS
variable {g : Nat → Int32} {p : Nat → Bool} {post : Int32 → Prop}
theorem s_size (hg : az 256 g p) (hp : post (nI (cnt p 256))) : wp_X7_size post g := by
  unfold wp_X7_size
  refine loop_0 (fun n i v => wp_X7_size_4 post g n v (nI i)) (fun i v => v = nI (cnt p i)) 256 _ rfl ?_ ?_
  · intro n v hv_
    subst hv_
    show wp_X7_size_4 _ _ _ _ _
    unfold wp_X7_size_4
    exact wt (nI_le (Nat.le_refl _) (by decide)) hp
  · intro n i v hi hv_ ih
    subst hv_
    show wp_X7_size_4 _ _ _ _ _
    unfold wp_X7_size_4
    refine wf (nI_ge hi (by decide)) ⟨vp_in_nI hi (by decide), ?_⟩
    rw [hg.rd hi (by decide), nS, nS]
    refine zc (fun q => ih _ ?_) (fun q => ih _ ?_)
    · rw [cnt, q]; rfl
    · rw [cnt, q]; rfl
theorem s_sizeWith (hg : az 256 g p) {c : Nat} (hc : c < 8) (hp : post (nI (cnt (fun s => p s && s.testBit c) 256))) : wp_X7_sizeWith post g (nI c) := by
  unfold wp_X7_sizeWith
  refine loop_0 (fun n i v => wp_X7_sizeWith_4 post g (nI c) n v (nI i)) (fun i v => v = nI (cnt (fun s => p s && s.testBit c) i)) 256 _ rfl ?_ ?_
  · intro n v hv_
    subst hv_
    show wp_X7_sizeWith_4 _ _ _ _ _ _
    unfold wp_X7_sizeWith_4
    exact wt (nI_le (Nat.le_refl _) (by decide)) hp
  · intro n i v hi hv_ ih
    subst hv_
    show wp_X7_sizeWith_4 _ _ _ _ _ _
    unfold wp_X7_sizeWith_4
    refine wf (nI_ge hi (by decide)) ⟨vp_in_nI hi (by decide), ?_⟩
    rw [hg.rd hi (by decide), nS, nS]
    refine zc (fun q => ih _ ?_) (fun q => s_contains hi hc (zc (fun q2 => ih _ ?_) (fun q2 => ih _ ?_)))
    · rw [cnt, q]; rfl
    · rw [cnt, q, q2]; rfl
    · rw [cnt, q, q2]; rfl
/-- scanning sets below k for the x-th of m places, q of which are passed -/
def sc (p : Nat → Bool) (m : Nat) (x : Int32) (q : Nat) : Nat → Option Nat × Nat
  | 0 => (none, q)
  | k + 1 => match sc p m x q k with
    | (some s, r) => (some s, r)
    | (none, r) => if p k && decide (pc k 8 = m) then (if nI r = x then (some k, r) else (none, r + 1)) else (none, r)
/-- scanning by sizes, the greatest first -/
def so (p : Nat → Bool) (x : Int32) : Nat → Option Nat × Nat
  | 0 => (none, 0)
  | j + 1 => match so p x j with
    | (some s, r) => (some s, r)
    | (none, r) => sc p (8 - j) x r 256
def enc9 : Option Nat → Int32
  | none => -9
  | some s => nI s
def fAt (p : Nat → Bool) (x : Int32) : Int32 := enc9 (so p x 9).1
theorem sc_some {p : Nat → Bool} {m : Nat} {x : Int32} {q s r k : Nat} (e : sc p m x q k = (some s, r)) : ∀ j, sc p m x q (k + j) = (some s, r)
  | 0 => e
  | j + 1 => by
    show sc p m x q (k + j + 1) = _
    rw [sc, sc_some e j]
theorem so_some {p : Nat → Bool} {x : Int32} {s r k : Nat} (e : so p x k = (some s, r)) : ∀ j, so p x (k + j) = (some s, r)
  | 0 => e
  | j + 1 => by
    show so p x (k + j + 1) = _
    rw [so, so_some e j]
theorem sc_le {p : Nat → Bool} {m : Nat} {x : Int32} {q : Nat} : ∀ k, (sc p m x q k).2 ≤ q + k
  | 0 => Nat.le_refl _
  | k + 1 => by
    have ih := sc_le (p := p) (m := m) (x := x) (q := q) k
    rw [sc]
    cases e : sc p m x q k with
    | mk a r =>
      rw [e] at ih
      have ih : r ≤ q + k := ih
      cases a with
      | some s => show r ≤ q + (k + 1); omega
      | none =>
        show (if p k && decide (pc k 8 = m) then (if nI r = x then (some k, r) else (none, r + 1)) else (none, r) : Option Nat × Nat).2 ≤ _
        split
        · split
          · show r ≤ _; omega
          · show r + 1 ≤ _; omega
        · show r ≤ _; omega
theorem so_le {p : Nat → Bool} {x : Int32} : ∀ j, (so p x j).2 ≤ 256 * j
  | 0 => Nat.le_refl _
  | j + 1 => by
    have ih := so_le (p := p) (x := x) j
    rw [so]
    cases e : so p x j with
    | mk a r =>
      rw [e] at ih
      have ih : r ≤ 256 * j := ih
      cases a with
      | some s => show r ≤ _; omega
      | none =>
        have := sc_le (p := p) (m := 8 - j) (x := x) (q := r) 256
        show (sc p (8 - j) x r 256).2 ≤ _
        omega
/-- a place found stays found -/
theorem fAt_of {p : Nat → Bool} {x : Int32} {j r k s r2 : Nat} (hj : j < 9) (e : so p x j = (none, r)) (hk : k ≤ 256) (e2 : sc p (8 - j) x r k = (some s, r2)) : fAt p x = nI s := by
  have e3 := sc_some e2 (256 - k)
  rw [show k + (256 - k) = 256 by omega] at e3
  have e4 : so p x (j + 1) = (some s, r2) := by rw [so, e]; exact e3
  have e5 := so_some e4 (9 - (j + 1))
  rw [show j + 1 + (9 - (j + 1)) = 9 by omega] at e5
  unfold fAt
  rw [e5]
  rfl
theorem s_at (hg : az 256 g p) {x : Int32} (hp : post (fAt p x)) : wp_X7_at post g x := by
  unfold wp_X7_at
  have key : ∀ i, i ≤ 9 → ∀ r, so p x (9 - i) = (none, r) → ∃ n, wp_X7_at_5 post g x n (nI r) (if i = 0 then (-1 : Int32) else nI (i - 1)) := by
    intro i
    induction i with
    | zero =>
      intro _ r hr
      refine ⟨1, ?_⟩
      unfold wp_X7_at_5
      rw [if_pos rfl]
      refine wt (by decide +kernel) ?_
      unfold fAt at hp
      rw [show 9 - 0 = 9 from rfl] at hr
      rw [hr] at hp
      exact hp
    | succ i ih =>
      intro hi r hr
      rw [if_neg (Nat.succ_ne_zero i), show i + 1 - 1 = i by omega]
      have em1 : nI i + (-1 : Int32) = (if i = 0 then (-1 : Int32) else nI (i - 1)) := by
        cases i with
        | zero => decide +kernel
        | succ z => rw [if_neg (Nat.succ_ne_zero z)]; exact pk_m1 z
      have hj : 9 - (i + 1) = 8 - i := by omega
      have h8 : 8 - (8 - i) = i := by omega
      -- fuel for what comes behind this size
      have rest : ∃ n, ∀ r', sc p i x r 256 = (none, r') → wp_X7_at_5 post g x n (nI r') (if i = 0 then (-1 : Int32) else nI (i - 1)) := by
        cases e : sc p i x r 256 with
        | mk a r' =>
          cases a with
          | some s => exact ⟨0, fun r'' q => by cases q⟩
          | none =>
            have e9 : so p x (9 - i) = (none, r') := by
              rw [show 9 - i = (9 - (i + 1)) + 1 by omega, so, hr, hj, h8]
              exact e
            obtain ⟨n, hn⟩ := ih (by omega) r' e9
            exact ⟨n, fun r'' q => by cases q; exact hn⟩
      obtain ⟨n, hn⟩ := rest
      refine ⟨n + 1, ?_⟩
      unfold wp_X7_at_5
      refine wf (nI_pos (by omega)) ?_
      refine loop_0 (fun n2 k v => wp_X7_at_12 post g x (wp_X7_at_5 post g x n) n2 v (nI i) (nI k)) (fun k v => ∃ r', v = nI r' ∧ sc p i x r k = (none, r')) 256 _ ⟨r, rfl, rfl⟩ ?_ ?_
      · rintro n2 v ⟨r', rfl, e⟩
        show wp_X7_at_12 _ _ _ _ _ _ _ _
        unfold wp_X7_at_12
        refine wt (nI_le (Nat.le_refl _) (by decide)) ?_
        rw [em1]
        exact hn r' e
      · rintro n2 k v hk ⟨r', rfl, e⟩ ih2
        show wp_X7_at_12 _ _ _ _ _ _ _ _
        unfold wp_X7_at_12
        refine wf (nI_ge hk (by decide)) ⟨vp_in_nI hk (by decide), ?_⟩
        rw [hg.rd hk (by decide), nS, nS]
        refine zc (fun q => ih2 _ ⟨r', rfl, ?_⟩) (fun q => ?_)
        · rw [sc, e, q]; rfl
        · refine s_bitCount hk ?_
          have := pc_le k 8
          refine wc2 (nI_eq (by omega) (by omega)) (fun c => ?_) (fun c => ih2 _ ⟨r', rfl, ?_⟩)
          · refine wc2 Iff.rfl (fun c2 => ?_) (fun c2 => ih2 _ ⟨r' + 1, rfl, ?_⟩)
            · have e3 : sc p (8 - (9 - (i + 1))) x r (k + 1) = (some k, r') := by
                rw [hj, h8, sc, e, q, c]; simp [c2]
              rw [← fAt_of (by omega) hr (by omega) e3]
              exact hp
            · rw [sc, e, q, c]; simp [c2]
          · rw [sc, e, q]; simp [c]
  exact key 9 (Nat.le_refl _) 0 rfl
/-- what all chosen ones below n have, of x -/
def cmm (p : Nat → Bool) (x : Nat) : Nat → Nat
  | 0 => x
  | n + 1 => if p n then cmm p x n &&& n else cmm p x n
theorem cmm_le (p : Nat → Bool) (x : Nat) : ∀ n, cmm p x n ≤ x
  | 0 => Nat.le_refl _
  | n + 1 => by
    have := cmm_le p x n
    unfold cmm
    split
    · exact Nat.le_trans Nat.and_le_left this
    · exact this
theorem cmm_tb (p : Nat → Bool) (x i : Nat) : ∀ n, (cmm p x n).testBit i = true ↔ x.testBit i = true ∧ ∀ t, t < n → p t = true → t.testBit i = true
  | 0 => by simp [cmm]
  | n + 1 => by
    have ih := cmm_tb p x i n
    rw [cmm]
    cases q : p n
    · rw [if_neg (by decide), ih]
      constructor
      · rintro ⟨h1, h2⟩
        exact ⟨h1, fun t ht hp => by
          rcases Nat.lt_or_ge t n with z | z
          · exact h2 t z hp
          · rw [show t = n by omega, q] at hp; exact absurd hp (by decide)⟩
      · rintro ⟨h1, h2⟩
        exact ⟨h1, fun t ht hp => h2 t (by omega) hp⟩
    · rw [if_pos rfl, Nat.testBit_and, Bool.and_eq_true, ih]
      constructor
      · rintro ⟨⟨h1, h2⟩, h3⟩
        exact ⟨h1, fun t ht hp => by
          rcases Nat.lt_or_ge t n with z | z
          · exact h2 t z hp
          · rw [show t = n by omega]; exact h3⟩
      · rintro ⟨h1, h2⟩
        exact ⟨⟨h1, fun t ht hp => h2 t (by omega) hp⟩, h2 n (by omega) q⟩
theorem s_common (hg : az 256 g p) {x : Nat} (hp : post (nI (cmm p x 256))) : wp_X7_common post g (nI x) := by
  unfold wp_X7_common
  refine loop_0 (fun n i v => wp_X7_common_7 post g (nI x) n v (nI i)) (fun i v => v = nI (cmm p x i)) 256 _ rfl ?_ ?_
  · intro n v hv_
    subst hv_
    show wp_X7_common_7 _ _ _ _ _ _
    unfold wp_X7_common_7
    exact wt (nI_le (Nat.le_refl _) (by decide)) hp
  · intro n i v hi hv_ ih
    subst hv_
    show wp_X7_common_7 _ _ _ _ _ _
    unfold wp_X7_common_7
    refine wf (nI_ge hi (by decide)) ⟨vp_in_nI hi (by decide), ?_⟩
    rw [hg.rd hi (by decide), nS, nx_and]
    refine zc (fun q => ih _ ?_) (fun q => ih _ ?_)
    · rw [cmm, q]; rfl
    · rw [cmm, q]; rfl
/-- the greatest of those below n that hold -/
def grt (p : Nat → Bool) : Nat → Nat
  | 0 => 0
  | n + 1 => if p n && decide (pc (grt p n) 8 < pc n 8) then n else grt p n
theorem grt_lt (p : Nat → Bool) : ∀ n, grt p n ≤ n
  | 0 => Nat.le_refl _
  | n + 1 => by
    have := grt_lt p n
    unfold grt
    split
    · omega
    · omega
theorem grt_congr {p q : Nat → Bool} {n : Nat} (h : ∀ i, i < n → p i = q i) : grt p n = grt q n := by
  induction n with
  | zero => rfl
  | succ n ih => rw [grt, grt, ih (fun i hi => h i (by omega)), h n (by omega)]
theorem s_greatest (hg : az 256 g p) {x : Nat} (hx : x < 256) (hp : post (nI (grt (fun s => p s && decide (dif s x = 0)) 256))) : wp_X7_greatestWithin post g (nI x) := by
  unfold wp_X7_greatestWithin
  refine loop_0 (fun n i v => wp_X7_greatestWithin_4 post g (nI x) n v (nI i)) (fun i v => v = nI (grt (fun s => p s && decide (dif s x = 0)) i)) 256 _ rfl ?_ ?_
  · intro n v hv_
    subst hv_
    show wp_X7_greatestWithin_4 _ _ _ _ _ _
    unfold wp_X7_greatestWithin_4
    exact wt (nI_le (Nat.le_refl _) (by decide)) hp
  · intro n i v hi hv_ ih
    subst hv_
    show wp_X7_greatestWithin_4 _ _ _ _ _ _
    unfold wp_X7_greatestWithin_4
    refine wf (nI_ge hi (by decide)) ?_
    have lg := grt_lt (fun s => p s && decide (dif s x = 0)) i
    refine s_bitCount hi ?_
    refine s_bitCount (by omega) ?_
    have p1 := pc_le i 8
    have p2 := pc_le (grt (fun s => p s && decide (dif s x = 0)) i) 8
    have e29 : ∀ z : Bool, z = decide (pc (grt (fun s => p s && decide (dif s x = 0)) i) 8 < pc i 8) → wp_X7_greatestWithin_29 post g (nI x) (wp_X7_greatestWithin_4 post g (nI x) n) (nI (grt (fun s => p s && decide (dif s x = 0)) i)) (nI i) (zI z) := by
      intro z hz
      unfold wp_X7_greatestWithin_29
      refine ⟨vp_in_nI hi (by decide), ?_⟩
      have l1 := dif_lt hi x
      rw [hg.rd hi (by decide), nS, nx_dif hi]
      refine zc (fun q => ih _ ?_) (fun q => ?_)
      · rw [grt, q]; rfl
      · refine wc2 (nI_eq0 (by omega)) (fun c => ?_) (fun c => ih _ ?_)
        · refine zc (fun q2 => ih _ ?_) (fun q2 => ih _ ?_)
          · rw [grt, q, ← hz, q2]; simp
          · rw [grt, q, ← hz, q2, decide_eq_true c]; simp
        · rw [grt, q, decide_eq_false c]; simp
    refine wc (nI_leI (by omega) (by omega)) (fun c => e29 false ?_) (fun c => e29 true ?_)
    · rw [decide_eq_false (by omega)]
    · rw [decide_eq_true (by omega)]
end CHS
