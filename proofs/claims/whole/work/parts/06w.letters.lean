/-! letters: the automaton, and what goes through -/
def dgB (l : Nat) : Bool := decide (48 ≤ l ∧ l ≤ 57)
def nmB (l : Nat) : Bool := decide ((97 ≤ l ∧ l ≤ 122) ∧ ¬ l = 109)
def lkB (l : Nat) : Bool := decide (l = 62 ∨ l = 43)
def ax (s l : Nat) : Nat :=
  if s = 0 then (if l = 42 then 1 else if l = 109 then 3 else if nmB l then 5 else 8)
  else if s = 1 then (if dgB l then 2 else 8)
  else if s = 2 then (if dgB l then 3 else 8)
  else if s = 3 then (if dgB l then 4 else 8)
  else if s = 4 then (if l = 59 then 0 else 8)
  else if s = 5 then (if l = 58 then 2 else if l = 33 then 4 else if lkB l then 6 else 8)
  else if s = 6 then (if nmB l then 7 else 8)
  else if s = 7 then (if l = 59 then 0 else if lkB l then 6 else 8)
  else 8
def sa (L : Nat → Nat) : Nat → Nat
  | 0 => 0
  | i + 1 => ax (sa L i) (L i)
theorem sa_s (L : Nat → Nat) (i : Nat) : sa L (i + 1) = ax (sa L i) (L i) := rfl
theorem ax_le (s l : Nat) : ax s l ≤ 8 := by
  unfold ax
  repeat' split
  all_goals omega
theorem sa_le (L : Nat → Nat) : ∀ i, sa L i ≤ 8
  | 0 => Nat.zero_le _
  | i + 1 => ax_le _ _
def bdB (L : Nat → Nat) (i : Nat) : Bool := decide (sa L (i + 1) = 8)
def bdp (L : Nat → Nat) (n : Nat) : Option Nat := match frs (bdB L) n with
  | some i => some i
  | none => if sa L n = 0 ∧ 0 < n then none else some n
theorem frs_none {p : Nat → Bool} : ∀ n, (∀ i, i < n → p i = false) → frs p n = none
  | 0, _ => rfl
  | n + 1, h => frs_sn (frs_none n (fun i hi => h i (by omega))) (h n (Nat.lt_succ_self n))
theorem frs_nf {p : Nat → Bool} : ∀ n, frs p n = none → ∀ i, i < n → p i = false
  | 0, _, i, hi => absurd hi (Nat.not_lt_zero i)
  | n + 1, h, i, hi => by
    rw [frs] at h
    cases e : frs p n with
    | some x => rw [e] at h; cases h
    | none =>
      rw [e] at h
      by_cases q : i = n
      · subst q
        cases z : p i
        · rfl
        · rw [z] at h; cases h
      · exact frs_nf n e i (by omega)
theorem frs_lt {p : Nat → Bool} : ∀ n x, frs p n = some x → x < n
  | 0, x, h => by cases h
  | n + 1, x, h => by
    rw [frs] at h
    cases e : frs p n with
    | some y => rw [e] at h; have := frs_lt n y e; cases h; omega
    | none =>
      rw [e] at h
      simp only at h
      split at h
      · cases h; omega
      · cases h
section LET
variable {L : Nat → Nat} {n : Nat} {post : Int32 → Prop}
theorem s_isDigit {l : Nat} (hl : l < 256) (hp : post (zI (dgB l))) : wp_X5_isDigit post (nI l) := by
  unfold wp_X5_isDigit
  refine wc (nI_ltI (by omega) (by decide)) (fun q => ?_) (fun q => wc (nI_ltI (by decide) (by omega)) (fun q2 => ?_) (fun q2 => ?_))
  · rw [show dgB l = false from decide_eq_false (by omega)] at hp; exact hp
  · rw [show dgB l = false from decide_eq_false (by omega)] at hp; exact hp
  · rw [show dgB l = true from decide_eq_true (by omega)] at hp; exact hp
theorem s_isClaimL {l : Nat} (hl : l < 256) (hp : post (zI (nmB l))) : wp_X5_isClaim post (nI l) := by
  unfold wp_X5_isClaim
  refine wc (nI_ltI (by omega) (by decide)) (fun q => ?_) (fun q => wc (nI_ltI (by decide) (by omega)) (fun q2 => ?_) (fun q2 => wc (nI_eq (by omega) (by decide)) (fun q3 => ?_) (fun q3 => ?_)))
  · rw [show nmB l = false from decide_eq_false (by omega)] at hp; exact hp
  · rw [show nmB l = false from decide_eq_false (by omega)] at hp; exact hp
  · rw [show nmB l = false from decide_eq_false (by omega)] at hp; exact hp
  · rw [show nmB l = true from decide_eq_true (by omega)] at hp; exact hp
theorem s_isArrow {l : Nat} (hl : l < 256) (hp : post (zI (lkB l))) : wp_X5_isArrow post (nI l) := by
  unfold wp_X5_isArrow
  refine wc (nI_eq (by omega) (by decide)) (fun q => ?_) (fun q => wc2 (nI_eq (by omega) (by decide)) (fun q2 => ?_) (fun q2 => ?_))
  · rw [show lkB l = true from decide_eq_true (by omega)] at hp; exact hp
  · rw [show lkB l = true from decide_eq_true (by omega)] at hp; exact hp
  · rw [show lkB l = false from decide_eq_false (by omega)] at hp; exact hp
theorem s_startBy {l : Nat} (hl : l < 256) (hp : post (nI (ax 0 l))) : wp_X5_startBy post (nI l) := by
  unfold wp_X5_startBy
  have e : ax 0 l = if l = 42 then 1 else if l = 109 then 3 else if nmB l then 5 else 8 := rfl
  rw [e] at hp
  refine wc2 (nI_eq (by omega) (by decide)) (fun q => ?_) (fun q => wc2 (nI_eq (by omega) (by decide)) (fun q2 => ?_) (fun q2 => ?_))
  · rw [if_pos q] at hp; exact hp
  · rw [if_neg q, if_pos q2] at hp; exact hp
  · rw [if_neg q, if_neg q2] at hp
    refine s_isClaimL hl (zc (fun z => ?_) (fun z => ?_))
    · rw [z] at hp; exact hp
    · rw [z] at hp; exact hp
theorem s_behindClaim {l : Nat} (hl : l < 256) (hp : post (nI (ax 5 l))) : wp_X5_behindClaim post (nI l) := by
  unfold wp_X5_behindClaim
  have e : ax 5 l = if l = 58 then 2 else if l = 33 then 4 else if lkB l then 6 else 8 := rfl
  rw [e] at hp
  refine wc2 (nI_eq (by omega) (by decide)) (fun q => ?_) (fun q => wc2 (nI_eq (by omega) (by decide)) (fun q2 => ?_) (fun q2 => ?_))
  · rw [if_pos q] at hp; exact hp
  · rw [if_neg q, if_pos q2] at hp; exact hp
  · rw [if_neg q, if_neg q2] at hp
    refine s_isArrow hl (zc (fun z => ?_) (fun z => ?_))
    · rw [z] at hp; exact hp
    · rw [z] at hp; exact hp
theorem sw_ne {k j : Nat} (hk : k < 1000) (hj : j < 1000) (h : k ≠ j) {A : Prop} : nI k = nI j → A := fun q => absurd ((nI_eq (by omega) (by omega)).mp q) h
theorem s_stepBy {s l : Nat} (hs : s ≤ 7) (hl : l < 256) (hp : post (nI (ax s l))) : wp_X5_stepBy post (nI s) (nI l) := by
  unfold wp_X5_stepBy
  have dg : ∀ t, post (nI (if dgB l then t else 8)) → wp_X5_isDigit (fun r => ((r = 0 → post (nI 8)) ∧ (¬ r = 0 → post (nI t)))) (nI l) := fun t q => s_isDigit hl (zc (fun z => by rw [z] at q; exact q) (fun z => by rw [z] at q; exact q))
  refine ⟨sw_lo hs (by decide), fun q => ?_, fun q => ?_, fun q => ?_, fun q => ?_, fun q => ?_, fun q => ?_, fun q => ?_, fun q => ?_⟩
  all_goals
    have e := (nI_eq (by omega) (by decide)).mp q
    subst e
  · exact s_startBy hl hp
  · exact dg 2 hp
  · exact dg 3 hp
  · exact dg 4 hp
  · have e : ax 4 l = if l = 59 then 0 else 8 := rfl
    rw [e] at hp
    refine wc2 (nI_eq (by omega) (by decide)) (fun q => ?_) (fun q => ?_)
    · rw [if_pos q] at hp; exact hp
    · rw [if_neg q] at hp; exact hp
  · exact s_behindClaim hl hp
  · have e : ax 6 l = if nmB l then 7 else 8 := rfl
    rw [e] at hp
    refine s_isClaimL hl (zc (fun z => ?_) (fun z => ?_))
    · rw [z] at hp; exact hp
    · rw [z] at hp; exact hp
  · have e : ax 7 l = if l = 59 then 0 else if lkB l then 6 else 8 := rfl
    rw [e] at hp
    refine wc2 (nI_eq (by omega) (by decide)) (fun q => ?_) (fun q => ?_)
    · rw [if_pos q] at hp; exact hp
    · rw [if_neg q] at hp
      refine s_isArrow hl (zc (fun z => ?_) (fun z => ?_))
      · rw [z] at hp; exact hp
      · rw [z] at hp; exact hp
theorem s_letAt {N : Nat} {g : Nat → Int32} (hN : n ≤ N) (hN2 : N < 2 ^ 31) (hg : ag n g L) {k : Nat} (hk : k < 2 ^ 31) {x : Int32} (hp : post (if k < n then nI (L k) else x)) : wp_X6_at post N g (nI n) (nI k) x := by
  unfold wp_X6_at
  refine wf (nI_pos hk) ?_
  refine wc (nI_leI (by omega) hk) (fun q => ?_) (fun q => ?_)
  · rw [if_neg (by omega)] at hp; exact hp
  · refine wf (nI_ge (by omega) hN2) ⟨vp_in_nI (by omega) hN2, ?_⟩
    rw [if_pos (by omega)] at hp
    rw [nI_clamp hk, hg k (by omega)]
    exact hp
theorem s_badPlace {g : Nat → Int32} (hn : n ≤ 96) (hg : ag n g L) (hL : ∀ k, k < n → L k < 256) (hp : post (enc (bdp L n))) : wp_X5_badPlace post g (nI n) := by
  unfold wp_X5_badPlace
  refine loop_0 (fun m i v => wp_X5_badPlace_4 post g (nI n) m v (nI i)) (fun i v => v = nI (sa L i) ∧ frs (bdB L) i = none ∧ sa L i ≤ 7) n _ ⟨rfl, rfl, show (0 : Nat) ≤ 7 by decide⟩ ?_ ?_
  · rintro m v ⟨rfl, q, l7⟩
    show wp_X5_badPlace_4 _ _ _ _ _ _
    unfold wp_X5_badPlace_4
    refine wt (nI_le (Nat.le_refl _) (by omega)) ?_
    unfold bdp at hp
    rw [q] at hp
    simp only at hp
    refine wc2 (nI_eq0 (by omega)) (fun k => ?_) (fun k => ?_)
    · refine wc (nI_le0 (by omega)) (fun k2 => ?_) (fun k2 => ?_)
      · rw [if_neg (by omega)] at hp; exact hp
      · rw [if_pos (by omega)] at hp; exact hp
    · rw [if_neg (by omega)] at hp; exact hp
  · rintro m i v hi ⟨rfl, q, l7⟩ ih
    show wp_X5_badPlace_4 _ _ _ _ _ _
    unfold wp_X5_badPlace_4
    refine wf (nI_ge hi (by omega)) ?_
    rw [nS i]
    refine s_letAt hn (by decide) hg (by omega) ?_
    rw [if_pos hi]
    refine s_stepBy l7 (hL i hi) ?_
    have la := ax_le (sa L i) (L i)
    refine wc2 (nI_eq (by omega) (by decide)) (fun k => ?_) (fun k => ih _ ⟨rfl, ?_, ?_⟩)
    · have e : frs (bdB L) n = some i := frs_of q (decide_eq_true k) hi
      unfold bdp at hp
      rw [e] at hp
      exact hp
    · exact frs_sn q (decide_eq_false k)
    · rw [sa_s]; omega
/-! the reference's way through -/
def cn (L : Nat → Nat) (r : Nat) : Nat := cnt (fun i => decide (L i = 59)) r
def pt (L : Nat → Nat) (n m r s : Nat) : Prop := r ≤ n ∧ sa L r = s ∧ (∀ i, i < r → ¬ sa L (i + 1) = 8) ∧ cn L r = m
def RS (L : Nat → Nat) (n m r : Nat) (b : Bool) (s : Nat) : Prop := r ≤ n ∧ (b = true → pt L n m r s) ∧ (b = false → bdp L n = some r)
theorem RS.f {m r s s' m' : Nat} (h : RS L n m r false s) : RS L n m' r false s' := ⟨h.1, fun q => (by cases q), fun _ => h.2.2 rfl⟩
theorem bd_at {m r s : Nat} (p : pt L n m r s) (h1 : r < n → ax s (L r) = 8) (h2 : r = n → ¬ (s = 0 ∧ 0 < n)) : bdp L n = some r := by
  obtain ⟨p1, p2, p3, p4⟩ := p
  have q : frs (bdB L) r = none := frs_none r (fun i hi => decide_eq_false (p3 i hi))
  unfold bdp
  by_cases e : r = n
  · subst e
    rw [q]
    simp only
    rw [p2, if_neg (h2 rfl)]
  · have lt : r < n := by omega
    rw [frs_of q (show bdB L r = true from decide_eq_true (by rw [sa_s, p2]; exact h1 lt)) lt]
theorem RS.go {m r s s' m' : Nat} {b c : Bool} (h : RS L n m r b s) (hc1 : c = true → r < n ∧ ax s (L r) = s' ∧ ¬ s' = 8 ∧ m' = m + (if L r = 59 then 1 else 0)) (hc0 : c = false → (r < n → ax s (L r) = 8) ∧ (r = n → ¬ (s = 0 ∧ 0 < n))) : RS L n m' (r + (b && c).toNat) (b && c) s' := by
  cases b
  · exact ⟨h.1, fun q => (by cases q), fun _ => h.2.2 rfl⟩
  · have p := h.2.1 rfl
    cases c
    · have k := hc0 rfl
      exact ⟨h.1, fun q => (by cases q), fun _ => bd_at p k.1 k.2⟩
    · obtain ⟨k1, k2, k3, k4⟩ := hc1 rfl
      obtain ⟨p1, p2, p3, p4⟩ := p
      refine ⟨show r + 1 ≤ n by omega, fun _ => ⟨show r + 1 ≤ n by omega, ?_, ?_, ?_⟩, fun q => (by cases q)⟩
      · show sa L (r + 1) = s'
        rw [sa_s, p2, k2]
      · show ∀ i, i < r + 1 → _
        intro i hi
        by_cases e : i = r
        · subst e; rw [sa_s, p2, k2]; exact k3
        · exact p3 i (by omega)
      · show cnt _ (r + 1) = m'
        rw [cnt, k4, ← p4]
        unfold cn
        by_cases e : L r = 59
        · rw [if_pos e, decide_eq_true e]; rfl
        · rw [if_neg e, decide_eq_false e]; rfl
theorem m_takes {r : Nat} {b c : Bool} {post : Int32 → Int32 → Prop} (hp : post (nI (r + (b && c).toNat)) (zI (b && c))) : wp_X11_takes post (nI r) (zI b) (zI c) := by
  unfold wp_X11_takes wp_X11_takes_17
  have go : ∀ t : Bool, post (nI (r + t.toNat)) (zI t) → hcZ (zI t) ∧ (((zI t = 0 → post (nI r + nI 0) (zI t)) ∧ (¬ zI t = 0 → post (nI r + nI 1) (zI t)))) := fun t q => ⟨zI_Z t, zc (fun z => by subst z; rw [nI_add]; exact q) (fun z => by subst z; rw [nI_add]; exact q)⟩
  cases b
  · exact wt (by decide +kernel) (go false hp)
  · refine wf (by decide +kernel) ?_
    cases c
    · exact wt (by decide +kernel) (go false hp)
    · exact wf (by decide +kernel) (go true hp)
theorem m_letterAt {g : Nat → Int32} (hn : n ≤ 96) (hg : ag n g L) {k : Nat} (hk : k < 2 ^ 31) (hp : post (if k < n then nI (L k) else -1)) : wp_X11_letterAt post g (nI n) (nI k) := by
  unfold wp_X11_letterAt
  refine wc (nI_leI (by omega) hk) (fun q => ?_) (fun q => ⟨vp_in_nI (by omega) (by decide), ?_⟩)
  · rw [if_neg (by omega)] at hp; exact hp
  · rw [if_pos (by omega)] at hp
    rw [nI_clamp hk, hg k (by omega)]
    exact hp
def ltr (L : Nat → Nat) (n k : Nat) : Int32 := if k < n then nI (L k) else -1
def lB (f : Nat → Bool) (L : Nat → Nat) (n k : Nat) : Bool := decide (k < n) && f (L k)
theorem lB_t {f : Nat → Bool} {k : Nat} (h : lB f L n k = true) : k < n ∧ f (L k) = true := by
  unfold lB at h
  rw [Bool.and_eq_true] at h
  exact ⟨of_decide_eq_true h.1, h.2⟩
theorem lB_f {f : Nat → Bool} {k : Nat} (h : lB f L n k = false) (q : k < n) : f (L k) = false := by
  unfold lB at h
  rw [decide_eq_true q] at h
  exact h
theorem m1_N {k : Nat} (hk : k < 2 ^ 31) : ¬ (-1 : Int32) = nI k := fun q => nI_pos hk (by rw [← q]; decide +kernel)
theorem lx_48 : (48 : Int64) = lN 48 := by decide +kernel
theorem lx_57 : (57 : Int64) = lN 57 := by decide +kernel
theorem lx_97 : (97 : Int64) = lN 97 := by decide +kernel
theorem lx_122 : (122 : Int64) = lN 122 := by decide +kernel
theorem m_inL {k lo hi : Nat} (hL : ∀ k, k < n → L k < 256) (h1 : lo < 2 ^ 31) (h2 : hi < 2 ^ 31) {f : Nat → Bool} (hf : ∀ l, f l = decide (lo ≤ l ∧ l ≤ hi)) (hp : post (zI (lB f L n k))) : wp_X11_in post (ltr L n k).toInt64 (lN lo) (lN hi) := by
  unfold lB at hp
  rw [hf] at hp
  refine m_inN h2 h1 (fun c c1 c2 e => ?_) (fun q => ?_)
  · unfold ltr at e
    by_cases lt : k < n
    · rw [if_pos lt] at e
      have := hL k lt
      have e2 := (nI_eq (by omega) (by omega)).mp e
      rw [decide_eq_true lt, decide_eq_true (by omega)] at hp
      exact hp
    · rw [if_neg lt] at e
      exact absurd e (m1_N (by omega))
  · by_cases lt : k < n
    · have := hL k lt
      rw [decide_eq_true lt, decide_eq_false (fun y => q ⟨L k, y, by unfold ltr; rw [if_pos lt]⟩)] at hp
      exact hp
    · rw [decide_eq_false lt] at hp
      exact hp
theorem m_isNamed {k : Nat} (hL : ∀ k, k < n → L k < 256) (hp : post (zI (lB nmB L n k))) : wp_X11_isNamed post (ltr L n k) := by
  unfold wp_X11_isNamed
  rw [lx_97, lx_122]
  refine m_inL hL (by decide) (by decide) (f := fun l => decide (97 ≤ l ∧ l ≤ 122)) (fun l => rfl) ?_
  refine zc (fun z => ?_) (fun z => ?_)
  · have : lB nmB L n k = false := by
      unfold lB
      cases lt : decide (k < n)
      · rfl
      · have := lB_f z (of_decide_eq_true lt)
        have := of_decide_eq_false this
        rw [show nmB (L k) = false from decide_eq_false (by omega)]
        rfl
    rw [this] at hp
    exact hp
  · have y := lB_t z
    have y2 := of_decide_eq_true y.2
    have el : ltr L n k = nI (L k) := if_pos y.1
    rw [el]
    have := hL k y.1
    refine wc (nI_eq (by omega) (by decide)) (fun e => ?_) (fun e => ?_)
    · rw [show lB nmB L n k = false by unfold lB; rw [show nmB (L k) = false from decide_eq_false (by omega)]; simp] at hp
      exact hp
    · rw [show lB nmB L n k = true by unfold lB; rw [decide_eq_true y.1, show nmB (L k) = true from decide_eq_true ⟨y2, e⟩]; rfl] at hp
      exact hp
theorem m_isLink {k : Nat} (hL : ∀ k, k < n → L k < 256) (hp : post (zI (lB lkB L n k))) : wp_X11_isLink post (ltr L n k) := by
  unfold wp_X11_isLink
  by_cases lt : k < n
  · have el : ltr L n k = nI (L k) := if_pos lt
    have := hL k lt
    rw [el]
    unfold lB at hp
    rw [decide_eq_true lt] at hp
    refine wc (nI_eq (by omega) (by decide)) (fun e => ?_) (fun e => wc2 (nI_eq (by omega) (by decide)) (fun e2 => ?_) (fun e2 => ?_))
    · rw [show lkB (L k) = true from decide_eq_true (by omega)] at hp; exact hp
    · rw [show lkB (L k) = true from decide_eq_true (by omega)] at hp; exact hp
    · rw [show lkB (L k) = false from decide_eq_false (by omega)] at hp; exact hp
  · have el : ltr L n k = -1 := if_neg lt
    rw [el]
    unfold lB at hp
    rw [decide_eq_false lt] at hp
    exact wf (m1_N (by decide)) (wf2 (m1_N (by decide)) hp)
theorem m_isL {k c : Nat} (hL : ∀ k, k < n → L k < 256) (hc : c < 256) {A B : Prop} (ht : k < n → L k = c → A) (hf : (k < n → ¬ L k = c) → B) : (ltr L n k = nI c → A) ∧ (¬ ltr L n k = nI c → B) := by
  by_cases lt : k < n
  · have el : ltr L n k = nI (L k) := if_pos lt
    have := hL k lt
    rw [el]
    exact wc (nI_eq (by omega) (by omega)) (fun e => ht lt e) (fun e => hf (fun _ => e))
  · have el : ltr L n k = -1 := if_neg lt
    rw [el]
    exact wf (m1_N (by omega)) (hf (fun q => absurd q lt))
end LET
